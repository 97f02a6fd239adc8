theorem dX0_init_0 : decode cX0_init 0 = .ok (.aload_n 0, 1) := by decide +kernel
theorem dX0_init_1 : decode cX0_init 1 = .ok (.invokespecial 3, 3) := by decide +kernel
theorem dX0_init_4 : decode cX0_init 4 = .ok (.aload_n 0, 1) := by decide +kernel
theorem dX0_init_5 : decode cX0_init 5 = .ok (.bipush 80, 2) := by decide +kernel
theorem dX0_init_7 : decode cX0_init 7 = .ok (.newarray .int, 2) := by decide +kernel
theorem dX0_init_9 : decode cX0_init 9 = .ok (.putfield 9, 3) := by decide +kernel
theorem dX0_init_12 : decode cX0_init 12 = .ok (.aload_n 0, 1) := by decide +kernel
theorem dX0_init_13 : decode cX0_init 13 = .ok (.sipush 400, 3) := by decide +kernel
theorem dX0_init_16 : decode cX0_init 16 = .ok (.newarray .int, 2) := by decide +kernel
theorem dX0_init_18 : decode cX0_init 18 = .ok (.putfield 15, 3) := by decide +kernel
theorem dX0_init_21 : decode cX0_init 21 = .ok (.aload_n 0, 1) := by decide +kernel
theorem dX0_init_22 : decode cX0_init 22 = .ok (.aload_n 1, 1) := by decide +kernel
theorem dX0_init_23 : decode cX0_init 23 = .ok (.putfield 18, 3) := by decide +kernel
theorem dX0_init_26 : decode cX0_init 26 = .ok (.return_, 1) := by decide +kernel
theorem dX0_goAllWays_0 : decode cX0_goAllWays 0 = .ok (.aload_n 0, 1) := by decide +kernel
theorem dX0_goAllWays_1 : decode cX0_goAllWays 1 = .ok (.getfield 9, 3) := by decide +kernel
theorem dX0_goAllWays_4 : decode cX0_goAllWays 4 = .ok (.iconst 0, 1) := by decide +kernel
theorem dX0_goAllWays_5 : decode cX0_goAllWays 5 = .ok (.invokestatic 22, 3) := by decide +kernel
theorem dX0_goAllWays_8 : decode cX0_goAllWays 8 = .ok (.aload_n 0, 1) := by decide +kernel
theorem dX0_goAllWays_9 : decode cX0_goAllWays 9 = .ok (.iconst 0, 1) := by decide +kernel
theorem dX0_goAllWays_10 : decode cX0_goAllWays 10 = .ok (.putfield 28, 3) := by decide +kernel
theorem dX0_goAllWays_13 : decode cX0_goAllWays 13 = .ok (.aload_n 0, 1) := by decide +kernel
theorem dX0_goAllWays_14 : decode cX0_goAllWays 14 = .ok (.iconst 0, 1) := by decide +kernel
theorem dX0_goAllWays_15 : decode cX0_goAllWays 15 = .ok (.putfield 32, 3) := by decide +kernel
theorem dX0_goAllWays_18 : decode cX0_goAllWays 18 = .ok (.aload_n 0, 1) := by decide +kernel
theorem dX0_goAllWays_19 : decode cX0_goAllWays 19 = .ok (.iconst 0, 1) := by decide +kernel
theorem dX0_goAllWays_20 : decode cX0_goAllWays 20 = .ok (.putfield 35, 3) := by decide +kernel
theorem dX0_goAllWays_23 : decode cX0_goAllWays 23 = .ok (.aload_n 0, 1) := by decide +kernel
theorem dX0_goAllWays_24 : decode cX0_goAllWays 24 = .ok (.iload_n 1, 1) := by decide +kernel
theorem dX0_goAllWays_25 : decode cX0_goAllWays 25 = .ok (.bipush 31, 2) := by decide +kernel
theorem dX0_goAllWays_27 : decode cX0_goAllWays 27 = .ok (.invokevirtual 38, 3) := by decide +kernel
theorem dX0_goAllWays_30 : decode cX0_goAllWays 30 = .ok (.iconst 0, 1) := by decide +kernel
theorem dX0_goAllWays_31 : decode cX0_goAllWays 31 = .ok (.istore_n 2, 1) := by decide +kernel
theorem dX0_goAllWays_32 : decode cX0_goAllWays 32 = .ok (.iload_n 2, 1) := by decide +kernel
theorem dX0_goAllWays_33 : decode cX0_goAllWays 33 = .ok (.aload_n 0, 1) := by decide +kernel
theorem dX0_goAllWays_34 : decode cX0_goAllWays 34 = .ok (.getfield 28, 3) := by decide +kernel
theorem dX0_goAllWays_37 : decode cX0_goAllWays 37 = .ok (.if_icmp .ge 26, 3) := by decide +kernel
theorem dX0_goAllWays_40 : decode cX0_goAllWays 40 = .ok (.iload_n 2, 1) := by decide +kernel
theorem dX0_goAllWays_41 : decode cX0_goAllWays 41 = .ok (.sipush 400, 3) := by decide +kernel
theorem dX0_goAllWays_44 : decode cX0_goAllWays 44 = .ok (.if_icmp .ge 19, 3) := by decide +kernel
theorem dX0_goAllWays_47 : decode cX0_goAllWays 47 = .ok (.aload_n 0, 1) := by decide +kernel
theorem dX0_goAllWays_48 : decode cX0_goAllWays 48 = .ok (.aload_n 0, 1) := by decide +kernel
theorem dX0_goAllWays_49 : decode cX0_goAllWays 49 = .ok (.getfield 15, 3) := by decide +kernel
theorem dX0_goAllWays_52 : decode cX0_goAllWays 52 = .ok (.iload_n 2, 1) := by decide +kernel
theorem dX0_goAllWays_53 : decode cX0_goAllWays 53 = .ok (.iaload, 1) := by decide +kernel
theorem dX0_goAllWays_54 : decode cX0_goAllWays 54 = .ok (.invokevirtual 42, 3) := by decide +kernel
theorem dX0_goAllWays_57 : decode cX0_goAllWays 57 = .ok (.iinc 2 1, 3) := by decide +kernel
theorem dX0_goAllWays_60 : decode cX0_goAllWays 60 = .ok (.goto (-28), 3) := by decide +kernel
theorem dX0_goAllWays_63 : decode cX0_goAllWays 63 = .ok (.return_, 1) := by decide +kernel
theorem dX0_come_0 : decode cX0_come 0 = .ok (.iload_n 1, 1) := by decide +kernel
theorem dX0_come_1 : decode cX0_come 1 = .ok (.bipush 80, 2) := by decide +kernel
theorem dX0_come_3 : decode cX0_come 3 = .ok (.invokestatic 46, 3) := by decide +kernel
theorem dX0_come_6 : decode cX0_come 6 = .ok (.ifCond .eq 4, 3) := by decide +kernel
theorem dX0_come_9 : decode cX0_come 9 = .ok (.return_, 1) := by decide +kernel
theorem dX0_come_10 : decode cX0_come 10 = .ok (.aload_n 0, 1) := by decide +kernel
theorem dX0_come_11 : decode cX0_come 11 = .ok (.getfield 18, 3) := by decide +kernel
theorem dX0_come_14 : decode cX0_come 14 = .ok (.iload_n 1, 1) := by decide +kernel
theorem dX0_come_15 : decode cX0_come 15 = .ok (.invokevirtual 50, 3) := by decide +kernel
theorem dX0_come_18 : decode cX0_come 18 = .ok (.astore_n 3, 1) := by decide +kernel
theorem dX0_come_19 : decode cX0_come 19 = .ok (.aload_n 3, 1) := by decide +kernel
theorem dX0_come_20 : decode cX0_come 20 = .ok (.ifnonnull 4, 3) := by decide +kernel
theorem dX0_come_23 : decode cX0_come 23 = .ok (.return_, 1) := by decide +kernel
theorem dX0_come_24 : decode cX0_come 24 = .ok (.aload_n 0, 1) := by decide +kernel
theorem dX0_come_25 : decode cX0_come 25 = .ok (.getfield 9, 3) := by decide +kernel
theorem dX0_come_28 : decode cX0_come 28 = .ok (.iload_n 1, 1) := by decide +kernel
theorem dX0_come_29 : decode cX0_come 29 = .ok (.iaload, 1) := by decide +kernel
theorem dX0_come_30 : decode cX0_come 30 = .ok (.istore 4, 2) := by decide +kernel
theorem dX0_come_32 : decode cX0_come 32 = .ok (.iload_n 2, 1) := by decide +kernel
theorem dX0_come_33 : decode cX0_come 33 = .ok (.iload 4, 2) := by decide +kernel
theorem dX0_come_35 : decode cX0_come 35 = .ok (.iconst (-1), 1) := by decide +kernel
theorem dX0_come_36 : decode cX0_come 36 = .ok (.ixor, 1) := by decide +kernel
theorem dX0_come_37 : decode cX0_come 37 = .ok (.iand, 1) := by decide +kernel
theorem dX0_come_38 : decode cX0_come 38 = .ok (.ifCond .eq 13, 3) := by decide +kernel
theorem dX0_come_41 : decode cX0_come 41 = .ok (.aload_n 0, 1) := by decide +kernel
theorem dX0_come_42 : decode cX0_come 42 = .ok (.getfield 28, 3) := by decide +kernel
theorem dX0_come_45 : decode cX0_come 45 = .ok (.sipush 400, 3) := by decide +kernel
theorem dX0_come_48 : decode cX0_come 48 = .ok (.if_icmp .lt 4, 3) := by decide +kernel
theorem dX0_come_51 : decode cX0_come 51 = .ok (.return_, 1) := by decide +kernel
theorem dX0_come_52 : decode cX0_come 52 = .ok (.iload 4, 2) := by decide +kernel
theorem dX0_come_54 : decode cX0_come 54 = .ok (.ifCond .ne 13, 3) := by decide +kernel
theorem dX0_come_57 : decode cX0_come 57 = .ok (.aload_n 0, 1) := by decide +kernel
theorem dX0_come_58 : decode cX0_come 58 = .ok (.dup, 1) := by decide +kernel
theorem dX0_come_59 : decode cX0_come 59 = .ok (.getfield 35, 3) := by decide +kernel
theorem dX0_come_62 : decode cX0_come 62 = .ok (.iconst 1, 1) := by decide +kernel
theorem dX0_come_63 : decode cX0_come 63 = .ok (.iadd, 1) := by decide +kernel
theorem dX0_come_64 : decode cX0_come 64 = .ok (.putfield 35, 3) := by decide +kernel
theorem dX0_come_67 : decode cX0_come 67 = .ok (.aload_n 0, 1) := by decide +kernel
theorem dX0_come_68 : decode cX0_come 68 = .ok (.getfield 9, 3) := by decide +kernel
theorem dX0_come_71 : decode cX0_come 71 = .ok (.iload_n 1, 1) := by decide +kernel
theorem dX0_come_72 : decode cX0_come 72 = .ok (.iload 4, 2) := by decide +kernel
theorem dX0_come_74 : decode cX0_come 74 = .ok (.iload_n 2, 1) := by decide +kernel
theorem dX0_come_75 : decode cX0_come 75 = .ok (.ior, 1) := by decide +kernel
theorem dX0_come_76 : decode cX0_come 76 = .ok (.iastore, 1) := by decide +kernel
theorem dX0_come_77 : decode cX0_come 77 = .ok (.aload_n 0, 1) := by decide +kernel
theorem dX0_come_78 : decode cX0_come 78 = .ok (.dup, 1) := by decide +kernel
theorem dX0_come_79 : decode cX0_come 79 = .ok (.getfield 32, 3) := by decide +kernel
theorem dX0_come_82 : decode cX0_come 82 = .ok (.iload_n 2, 1) := by decide +kernel
theorem dX0_come_83 : decode cX0_come 83 = .ok (.aload_n 3, 1) := by decide +kernel
theorem dX0_come_84 : decode cX0_come 84 = .ok (.invokevirtual 56, 3) := by decide +kernel
theorem dX0_come_87 : decode cX0_come 87 = .ok (.iand, 1) := by decide +kernel
theorem dX0_come_88 : decode cX0_come 88 = .ok (.ior, 1) := by decide +kernel
theorem dX0_come_89 : decode cX0_come 89 = .ok (.putfield 32, 3) := by decide +kernel
theorem dX0_come_92 : decode cX0_come 92 = .ok (.aload_n 0, 1) := by decide +kernel
theorem dX0_come_93 : decode cX0_come 93 = .ok (.getfield 15, 3) := by decide +kernel
theorem dX0_come_96 : decode cX0_come 96 = .ok (.aload_n 0, 1) := by decide +kernel
theorem dX0_come_97 : decode cX0_come 97 = .ok (.getfield 28, 3) := by decide +kernel
theorem dX0_come_100 : decode cX0_come 100 = .ok (.iload_n 1, 1) := by decide +kernel
theorem dX0_come_101 : decode cX0_come 101 = .ok (.iastore, 1) := by decide +kernel
theorem dX0_come_102 : decode cX0_come 102 = .ok (.aload_n 0, 1) := by decide +kernel
theorem dX0_come_103 : decode cX0_come 103 = .ok (.dup, 1) := by decide +kernel
theorem dX0_come_104 : decode cX0_come 104 = .ok (.getfield 28, 3) := by decide +kernel
theorem dX0_come_107 : decode cX0_come 107 = .ok (.iconst 1, 1) := by decide +kernel
theorem dX0_come_108 : decode cX0_come 108 = .ok (.iadd, 1) := by decide +kernel
theorem dX0_come_109 : decode cX0_come 109 = .ok (.putfield 28, 3) := by decide +kernel
theorem dX0_come_112 : decode cX0_come 112 = .ok (.return_, 1) := by decide +kernel
theorem dX0_goOn_0 : decode cX0_goOn 0 = .ok (.iload_n 1, 1) := by decide +kernel
theorem dX0_goOn_1 : decode cX0_goOn 1 = .ok (.bipush 80, 2) := by decide +kernel
theorem dX0_goOn_3 : decode cX0_goOn 3 = .ok (.invokestatic 46, 3) := by decide +kernel
theorem dX0_goOn_6 : decode cX0_goOn 6 = .ok (.ifCond .eq 4, 3) := by decide +kernel
theorem dX0_goOn_9 : decode cX0_goOn 9 = .ok (.return_, 1) := by decide +kernel
theorem dX0_goOn_10 : decode cX0_goOn 10 = .ok (.aload_n 0, 1) := by decide +kernel
theorem dX0_goOn_11 : decode cX0_goOn 11 = .ok (.getfield 18, 3) := by decide +kernel
theorem dX0_goOn_14 : decode cX0_goOn 14 = .ok (.iload_n 1, 1) := by decide +kernel
theorem dX0_goOn_15 : decode cX0_goOn 15 = .ok (.invokevirtual 50, 3) := by decide +kernel
theorem dX0_goOn_18 : decode cX0_goOn 18 = .ok (.astore_n 2, 1) := by decide +kernel
theorem dX0_goOn_19 : decode cX0_goOn 19 = .ok (.aload_n 2, 1) := by decide +kernel
theorem dX0_goOn_20 : decode cX0_goOn 20 = .ok (.ifnonnull 4, 3) := by decide +kernel
theorem dX0_goOn_23 : decode cX0_goOn 23 = .ok (.return_, 1) := by decide +kernel
theorem dX0_goOn_24 : decode cX0_goOn 24 = .ok (.aload_n 0, 1) := by decide +kernel
theorem dX0_goOn_25 : decode cX0_goOn 25 = .ok (.getfield 9, 3) := by decide +kernel
theorem dX0_goOn_28 : decode cX0_goOn 28 = .ok (.iload_n 1, 1) := by decide +kernel
theorem dX0_goOn_29 : decode cX0_goOn 29 = .ok (.iaload, 1) := by decide +kernel
theorem dX0_goOn_30 : decode cX0_goOn 30 = .ok (.aload_n 2, 1) := by decide +kernel
theorem dX0_goOn_31 : decode cX0_goOn 31 = .ok (.invokevirtual 62, 3) := by decide +kernel
theorem dX0_goOn_34 : decode cX0_goOn 34 = .ok (.iconst (-1), 1) := by decide +kernel
theorem dX0_goOn_35 : decode cX0_goOn 35 = .ok (.ixor, 1) := by decide +kernel
theorem dX0_goOn_36 : decode cX0_goOn 36 = .ok (.iand, 1) := by decide +kernel
theorem dX0_goOn_37 : decode cX0_goOn 37 = .ok (.istore_n 3, 1) := by decide +kernel
theorem dX0_goOn_38 : decode cX0_goOn 38 = .ok (.aload_n 2, 1) := by decide +kernel
theorem dX0_goOn_39 : decode cX0_goOn 39 = .ok (.getfield 65, 3) := by decide +kernel
theorem dX0_goOn_42 : decode cX0_goOn 42 = .ok (.lookupswitch 96 #[(99, 62), (110, 34), (111, 53)], 34) := by decide +kernel
theorem dX0_goOn_76 : decode cX0_goOn 76 = .ok (.aload_n 0, 1) := by decide +kernel
theorem dX0_goOn_77 : decode cX0_goOn 77 = .ok (.aload_n 0, 1) := by decide +kernel
theorem dX0_goOn_78 : decode cX0_goOn 78 = .ok (.getfield 18, 3) := by decide +kernel
theorem dX0_goOn_81 : decode cX0_goOn 81 = .ok (.aload_n 2, 1) := by decide +kernel
theorem dX0_goOn_82 : decode cX0_goOn 82 = .ok (.getfield 69, 3) := by decide +kernel
theorem dX0_goOn_85 : decode cX0_goOn 85 = .ok (.invokevirtual 72, 3) := by decide +kernel
theorem dX0_goOn_88 : decode cX0_goOn 88 = .ok (.iload_n 3, 1) := by decide +kernel
theorem dX0_goOn_89 : decode cX0_goOn 89 = .ok (.invokevirtual 38, 3) := by decide +kernel
theorem dX0_goOn_92 : decode cX0_goOn 92 = .ok (.goto 46, 3) := by decide +kernel
theorem dX0_goOn_95 : decode cX0_goOn 95 = .ok (.aload_n 0, 1) := by decide +kernel
theorem dX0_goOn_96 : decode cX0_goOn 96 = .ok (.aload_n 2, 1) := by decide +kernel
theorem dX0_goOn_97 : decode cX0_goOn 97 = .ok (.iload_n 3, 1) := by decide +kernel
theorem dX0_goOn_98 : decode cX0_goOn 98 = .ok (.invokevirtual 76, 3) := by decide +kernel
theorem dX0_goOn_101 : decode cX0_goOn 101 = .ok (.goto 37, 3) := by decide +kernel
theorem dX0_goOn_104 : decode cX0_goOn 104 = .ok (.aload_n 0, 1) := by decide +kernel
theorem dX0_goOn_105 : decode cX0_goOn 105 = .ok (.aload_n 0, 1) := by decide +kernel
theorem dX0_goOn_106 : decode cX0_goOn 106 = .ok (.getfield 18, 3) := by decide +kernel
theorem dX0_goOn_109 : decode cX0_goOn 109 = .ok (.aload_n 2, 1) := by decide +kernel
theorem dX0_goOn_110 : decode cX0_goOn 110 = .ok (.getfield 69, 3) := by decide +kernel
theorem dX0_goOn_113 : decode cX0_goOn 113 = .ok (.invokevirtual 72, 3) := by decide +kernel
theorem dX0_goOn_116 : decode cX0_goOn 116 = .ok (.iload_n 3, 1) := by decide +kernel
theorem dX0_goOn_117 : decode cX0_goOn 117 = .ok (.invokevirtual 38, 3) := by decide +kernel
theorem dX0_goOn_120 : decode cX0_goOn 120 = .ok (.aload_n 0, 1) := by decide +kernel
theorem dX0_goOn_121 : decode cX0_goOn 121 = .ok (.aload_n 0, 1) := by decide +kernel
theorem dX0_goOn_122 : decode cX0_goOn 122 = .ok (.getfield 18, 3) := by decide +kernel
theorem dX0_goOn_125 : decode cX0_goOn 125 = .ok (.iload_n 1, 1) := by decide +kernel
theorem dX0_goOn_126 : decode cX0_goOn 126 = .ok (.iconst 1, 1) := by decide +kernel
theorem dX0_goOn_127 : decode cX0_goOn 127 = .ok (.iadd, 1) := by decide +kernel
theorem dX0_goOn_128 : decode cX0_goOn 128 = .ok (.invokevirtual 72, 3) := by decide +kernel
theorem dX0_goOn_131 : decode cX0_goOn 131 = .ok (.iload_n 3, 1) := by decide +kernel
theorem dX0_goOn_132 : decode cX0_goOn 132 = .ok (.invokevirtual 38, 3) := by decide +kernel
theorem dX0_goOn_135 : decode cX0_goOn 135 = .ok (.goto 3, 3) := by decide +kernel
theorem dX0_goOn_138 : decode cX0_goOn 138 = .ok (.return_, 1) := by decide +kernel
theorem dX0_goOnByTests_0 : decode cX0_goOnByTests 0 = .ok (.iconst 0, 1) := by decide +kernel
theorem dX0_goOnByTests_1 : decode cX0_goOnByTests 1 = .ok (.istore_n 3, 1) := by decide +kernel
theorem dX0_goOnByTests_2 : decode cX0_goOnByTests 2 = .ok (.iload_n 3, 1) := by decide +kernel
theorem dX0_goOnByTests_3 : decode cX0_goOnByTests 3 = .ok (.bipush 8, 2) := by decide +kernel
theorem dX0_goOnByTests_5 : decode cX0_goOnByTests 5 = .ok (.if_icmp .ge 38, 3) := by decide +kernel
theorem dX0_goOnByTests_8 : decode cX0_goOnByTests 8 = .ok (.iload_n 3, 1) := by decide +kernel
theorem dX0_goOnByTests_9 : decode cX0_goOnByTests 9 = .ok (.aload_n 1, 1) := by decide +kernel
theorem dX0_goOnByTests_10 : decode cX0_goOnByTests 10 = .ok (.getfield 80, 3) := by decide +kernel
theorem dX0_goOnByTests_13 : decode cX0_goOnByTests 13 = .ok (.iconst (-1), 1) := by decide +kernel
theorem dX0_goOnByTests_14 : decode cX0_goOnByTests 14 = .ok (.ixor, 1) := by decide +kernel
theorem dX0_goOnByTests_15 : decode cX0_goOnByTests 15 = .ok (.iand, 1) := by decide +kernel
theorem dX0_goOnByTests_16 : decode cX0_goOnByTests 16 = .ok (.ifCond .ne 21, 3) := by decide +kernel
theorem dX0_goOnByTests_19 : decode cX0_goOnByTests 19 = .ok (.aload_n 0, 1) := by decide +kernel
theorem dX0_goOnByTests_20 : decode cX0_goOnByTests 20 = .ok (.aload_n 0, 1) := by decide +kernel
theorem dX0_goOnByTests_21 : decode cX0_goOnByTests 21 = .ok (.getfield 18, 3) := by decide +kernel
theorem dX0_goOnByTests_24 : decode cX0_goOnByTests 24 = .ok (.aload_n 1, 1) := by decide +kernel
theorem dX0_goOnByTests_25 : decode cX0_goOnByTests 25 = .ok (.getfield 69, 3) := by decide +kernel
theorem dX0_goOnByTests_28 : decode cX0_goOnByTests 28 = .ok (.iload_n 3, 1) := by decide +kernel
theorem dX0_goOnByTests_29 : decode cX0_goOnByTests 29 = .ok (.ior, 1) := by decide +kernel
theorem dX0_goOnByTests_30 : decode cX0_goOnByTests 30 = .ok (.invokevirtual 72, 3) := by decide +kernel
theorem dX0_goOnByTests_33 : decode cX0_goOnByTests 33 = .ok (.iload_n 2, 1) := by decide +kernel
theorem dX0_goOnByTests_34 : decode cX0_goOnByTests 34 = .ok (.invokevirtual 38, 3) := by decide +kernel
theorem dX0_goOnByTests_37 : decode cX0_goOnByTests 37 = .ok (.iinc 3 1, 3) := by decide +kernel
theorem dX0_goOnByTests_40 : decode cX0_goOnByTests 40 = .ok (.goto (-38), 3) := by decide +kernel
theorem dX0_goOnByTests_43 : decode cX0_goOnByTests 43 = .ok (.return_, 1) := by decide +kernel
theorem dX1_init_0 : decode cX1_init 0 = .ok (.aload_n 0, 1) := by decide +kernel
theorem dX1_init_1 : decode cX1_init 1 = .ok (.invokespecial 3, 3) := by decide +kernel
theorem dX1_init_4 : decode cX1_init 4 = .ok (.aload_n 0, 1) := by decide +kernel
theorem dX1_init_5 : decode cX1_init 5 = .ok (.bipush 32, 2) := by decide +kernel
theorem dX1_init_7 : decode cX1_init 7 = .ok (.newarray .long, 2) := by decide +kernel
theorem dX1_init_9 : decode cX1_init 9 = .ok (.putfield 9, 3) := by decide +kernel
theorem dX1_init_12 : decode cX1_init 12 = .ok (.return_, 1) := by decide +kernel
theorem dX1_countEnd_0 : decode cX1_countEnd 0 = .ok (.aload_n 0, 1) := by decide +kernel
theorem dX1_countEnd_1 : decode cX1_countEnd 1 = .ok (.getfield 15, 3) := by decide +kernel
theorem dX1_countEnd_4 : decode cX1_countEnd 4 = .ok (.aload_n 0, 1) := by decide +kernel
theorem dX1_countEnd_5 : decode cX1_countEnd 5 = .ok (.getfield 19, 3) := by decide +kernel
theorem dX1_countEnd_8 : decode cX1_countEnd 8 = .ok (.lsub, 1) := by decide +kernel
theorem dX1_countEnd_9 : decode cX1_countEnd 9 = .ok (.lstore_n 3, 1) := by decide +kernel
theorem dX1_countEnd_10 : decode cX1_countEnd 10 = .ok (.aload_n 0, 1) := by decide +kernel
theorem dX1_countEnd_11 : decode cX1_countEnd 11 = .ok (.getfield 9, 3) := by decide +kernel
theorem dX1_countEnd_14 : decode cX1_countEnd 14 = .ok (.iload_n 1, 1) := by decide +kernel
theorem dX1_countEnd_15 : decode cX1_countEnd 15 = .ok (.iconst 1, 1) := by decide +kernel
theorem dX1_countEnd_16 : decode cX1_countEnd 16 = .ok (.iand, 1) := by decide +kernel
theorem dX1_countEnd_17 : decode cX1_countEnd 17 = .ok (.bipush 16, 2) := by decide +kernel
theorem dX1_countEnd_19 : decode cX1_countEnd 19 = .ok (.imul, 1) := by decide +kernel
theorem dX1_countEnd_20 : decode cX1_countEnd 20 = .ok (.iload_n 2, 1) := by decide +kernel
theorem dX1_countEnd_21 : decode cX1_countEnd 21 = .ok (.bipush 15, 2) := by decide +kernel
theorem dX1_countEnd_23 : decode cX1_countEnd 23 = .ok (.iand, 1) := by decide +kernel
theorem dX1_countEnd_24 : decode cX1_countEnd 24 = .ok (.iadd, 1) := by decide +kernel
theorem dX1_countEnd_25 : decode cX1_countEnd 25 = .ok (.dup2, 1) := by decide +kernel
theorem dX1_countEnd_26 : decode cX1_countEnd 26 = .ok (.laload, 1) := by decide +kernel
theorem dX1_countEnd_27 : decode cX1_countEnd 27 = .ok (.lload_n 3, 1) := by decide +kernel
theorem dX1_countEnd_28 : decode cX1_countEnd 28 = .ok (.ladd, 1) := by decide +kernel
theorem dX1_countEnd_29 : decode cX1_countEnd 29 = .ok (.lastore, 1) := by decide +kernel
theorem dX1_countEnd_30 : decode cX1_countEnd 30 = .ok (.aload_n 0, 1) := by decide +kernel
theorem dX1_countEnd_31 : decode cX1_countEnd 31 = .ok (.aload_n 0, 1) := by decide +kernel
theorem dX1_countEnd_32 : decode cX1_countEnd 32 = .ok (.getfield 15, 3) := by decide +kernel
theorem dX1_countEnd_35 : decode cX1_countEnd 35 = .ok (.putfield 19, 3) := by decide +kernel
theorem dX1_countEnd_38 : decode cX1_countEnd 38 = .ok (.aload_n 0, 1) := by decide +kernel
theorem dX1_countEnd_39 : decode cX1_countEnd 39 = .ok (.dup, 1) := by decide +kernel
theorem dX1_countEnd_40 : decode cX1_countEnd 40 = .ok (.getfield 22, 3) := by decide +kernel
theorem dX1_countEnd_43 : decode cX1_countEnd 43 = .ok (.iconst 1, 1) := by decide +kernel
theorem dX1_countEnd_44 : decode cX1_countEnd 44 = .ok (.iadd, 1) := by decide +kernel
theorem dX1_countEnd_45 : decode cX1_countEnd 45 = .ok (.putfield 22, 3) := by decide +kernel
theorem dX1_countEnd_48 : decode cX1_countEnd 48 = .ok (.return_, 1) := by decide +kernel
theorem dX1_countWrong_0 : decode cX1_countWrong 0 = .ok (.aload_n 0, 1) := by decide +kernel
theorem dX1_countWrong_1 : decode cX1_countWrong 1 = .ok (.getfield 26, 3) := by decide +kernel
theorem dX1_countWrong_4 : decode cX1_countWrong 4 = .ok (.ifCond .ne 8, 3) := by decide +kernel
theorem dX1_countWrong_7 : decode cX1_countWrong 7 = .ok (.aload_n 0, 1) := by decide +kernel
theorem dX1_countWrong_8 : decode cX1_countWrong 8 = .ok (.iload_n 1, 1) := by decide +kernel
theorem dX1_countWrong_9 : decode cX1_countWrong 9 = .ok (.putfield 29, 3) := by decide +kernel
theorem dX1_countWrong_12 : decode cX1_countWrong 12 = .ok (.aload_n 0, 1) := by decide +kernel
theorem dX1_countWrong_13 : decode cX1_countWrong 13 = .ok (.dup, 1) := by decide +kernel
theorem dX1_countWrong_14 : decode cX1_countWrong 14 = .ok (.getfield 26, 3) := by decide +kernel
theorem dX1_countWrong_17 : decode cX1_countWrong 17 = .ok (.iconst 1, 1) := by decide +kernel
theorem dX1_countWrong_18 : decode cX1_countWrong 18 = .ok (.iadd, 1) := by decide +kernel
theorem dX1_countWrong_19 : decode cX1_countWrong 19 = .ok (.putfield 26, 3) := by decide +kernel
theorem dX1_countWrong_22 : decode cX1_countWrong 22 = .ok (.return_, 1) := by decide +kernel
theorem dX2_init_0 : decode cX2_init 0 = .ok (.aload_n 0, 1) := by decide +kernel
theorem dX2_init_1 : decode cX2_init 1 = .ok (.invokespecial 3, 3) := by decide +kernel
theorem dX2_init_4 : decode cX2_init 4 = .ok (.aload_n 0, 1) := by decide +kernel
theorem dX2_init_5 : decode cX2_init 5 = .ok (.new 9, 3) := by decide +kernel
theorem dX2_init_8 : decode cX2_init 8 = .ok (.dup, 1) := by decide +kernel
theorem dX2_init_9 : decode cX2_init 9 = .ok (.invokespecial 11, 3) := by decide +kernel
theorem dX2_init_12 : decode cX2_init 12 = .ok (.putfield 12, 3) := by decide +kernel
theorem dX2_init_15 : decode cX2_init 15 = .ok (.return_, 1) := by decide +kernel
theorem dX2_decode_0 : decode cX2_decode 0 = .ok (.aload_n 0, 1) := by decide +kernel
theorem dX2_decode_1 : decode cX2_decode 1 = .ok (.getfield 12, 3) := by decide +kernel
theorem dX2_decode_4 : decode cX2_decode 4 = .ok (.aload_n 1, 1) := by decide +kernel
theorem dX2_decode_5 : decode cX2_decode 5 = .ok (.invokevirtual 18, 3) := by decide +kernel
theorem dX2_decode_8 : decode cX2_decode 8 = .ok (.aload_n 0, 1) := by decide +kernel
theorem dX2_decode_9 : decode cX2_decode 9 = .ok (.iconst (-1), 1) := by decide +kernel
theorem dX2_decode_10 : decode cX2_decode 10 = .ok (.putfield 22, 3) := by decide +kernel
theorem dX2_decode_13 : decode cX2_decode 13 = .ok (.iconst 0, 1) := by decide +kernel
theorem dX2_decode_14 : decode cX2_decode 14 = .ok (.istore_n 3, 1) := by decide +kernel
theorem dX2_decode_15 : decode cX2_decode 15 = .ok (.aload_n 0, 1) := by decide +kernel
theorem dX2_decode_16 : decode cX2_decode 16 = .ok (.aload_n 2, 1) := by decide +kernel
theorem dX2_decode_17 : decode cX2_decode 17 = .ok (.invokevirtual 26, 3) := by decide +kernel
theorem dX2_decode_20 : decode cX2_decode 20 = .ok (.istore 4, 2) := by decide +kernel
theorem dX2_decode_22 : decode cX2_decode 22 = .ok (.aload_n 1, 1) := by decide +kernel
theorem dX2_decode_23 : decode cX2_decode 23 = .ok (.getfield 30, 3) := by decide +kernel
theorem dX2_decode_26 : decode cX2_decode 26 = .ok (.iconst 1, 1) := by decide +kernel
theorem dX2_decode_27 : decode cX2_decode 27 = .ok (.if_icmp .ne 32, 3) := by decide +kernel
theorem dX2_decode_30 : decode cX2_decode 30 = .ok (.iload 4, 2) := by decide +kernel
theorem dX2_decode_32 : decode cX2_decode 32 = .ok (.bipush 16, 2) := by decide +kernel
theorem dX2_decode_34 : decode cX2_decode 34 = .ok (.idiv, 1) := by decide +kernel
theorem dX2_decode_35 : decode cX2_decode 35 = .ok (.bipush 15, 2) := by decide +kernel
theorem dX2_decode_37 : decode cX2_decode 37 = .ok (.if_icmp .ne 22, 3) := by decide +kernel
theorem dX2_decode_40 : decode cX2_decode 40 = .ok (.iload_n 3, 1) := by decide +kernel
theorem dX2_decode_41 : decode cX2_decode 41 = .ok (.bipush 64, 2) := by decide +kernel
theorem dX2_decode_43 : decode cX2_decode 43 = .ok (.if_icmp .ge 16, 3) := by decide +kernel
theorem dX2_decode_46 : decode cX2_decode 46 = .ok (.aload_n 0, 1) := by decide +kernel
theorem dX2_decode_47 : decode cX2_decode 47 = .ok (.aload_n 2, 1) := by decide +kernel
theorem dX2_decode_48 : decode cX2_decode 48 = .ok (.invokevirtual 26, 3) := by decide +kernel
theorem dX2_decode_51 : decode cX2_decode 51 = .ok (.istore 4, 2) := by decide +kernel
theorem dX2_decode_53 : decode cX2_decode 53 = .ok (.iinc 3 1, 3) := by decide +kernel
theorem dX2_decode_56 : decode cX2_decode 56 = .ok (.goto (-34), 3) := by decide +kernel
theorem dX2_decode_59 : decode cX2_decode 59 = .ok (.aload_n 0, 1) := by decide +kernel
theorem dX2_decode_60 : decode cX2_decode 60 = .ok (.iload_n 3, 1) := by decide +kernel
theorem dX2_decode_61 : decode cX2_decode 61 = .ok (.bipush 64, 2) := by decide +kernel
theorem dX2_decode_63 : decode cX2_decode 63 = .ok (.if_icmp .ge 7, 3) := by decide +kernel
theorem dX2_decode_66 : decode cX2_decode 66 = .ok (.iconst 1, 1) := by decide +kernel
theorem dX2_decode_67 : decode cX2_decode 67 = .ok (.goto 4, 3) := by decide +kernel
theorem dX2_decode_70 : decode cX2_decode 70 = .ok (.iconst 0, 1) := by decide +kernel
theorem dX2_decode_71 : decode cX2_decode 71 = .ok (.putfield 33, 3) := by decide +kernel
theorem dX2_decode_74 : decode cX2_decode 74 = .ok (.aload_n 0, 1) := by decide +kernel
theorem dX2_decode_75 : decode cX2_decode 75 = .ok (.iload 4, 2) := by decide +kernel
theorem dX2_decode_77 : decode cX2_decode 77 = .ok (.bipush 16, 2) := by decide +kernel
theorem dX2_decode_79 : decode cX2_decode 79 = .ok (.idiv, 1) := by decide +kernel
theorem dX2_decode_80 : decode cX2_decode 80 = .ok (.putfield 37, 3) := by decide +kernel
theorem dX2_decode_83 : decode cX2_decode 83 = .ok (.aload_n 1, 1) := by decide +kernel
theorem dX2_decode_84 : decode cX2_decode 84 = .ok (.getfield 30, 3) := by decide +kernel
theorem dX2_decode_87 : decode cX2_decode 87 = .ok (.iconst 1, 1) := by decide +kernel
theorem dX2_decode_88 : decode cX2_decode 88 = .ok (.if_icmp .ne 14, 3) := by decide +kernel
theorem dX2_decode_91 : decode cX2_decode 91 = .ok (.aload_n 0, 1) := by decide +kernel
theorem dX2_decode_92 : decode cX2_decode 92 = .ok (.bipush 14, 2) := by decide +kernel
theorem dX2_decode_94 : decode cX2_decode 94 = .ok (.aload_n 0, 1) := by decide +kernel
theorem dX2_decode_95 : decode cX2_decode 95 = .ok (.getfield 37, 3) := by decide +kernel
theorem dX2_decode_98 : decode cX2_decode 98 = .ok (.isub, 1) := by decide +kernel
theorem dX2_decode_99 : decode cX2_decode 99 = .ok (.putfield 37, 3) := by decide +kernel
theorem dX2_decode_102 : decode cX2_decode 102 = .ok (.iload_n 3, 1) := by decide +kernel
theorem dX2_decode_103 : decode cX2_decode 103 = .ok (.iconst 2, 1) := by decide +kernel
theorem dX2_decode_104 : decode cX2_decode 104 = .ok (.irem, 1) := by decide +kernel
theorem dX2_decode_105 : decode cX2_decode 105 = .ok (.iconst 1, 1) := by decide +kernel
theorem dX2_decode_106 : decode cX2_decode 106 = .ok (.if_icmp .ne 7, 3) := by decide +kernel
theorem dX2_decode_109 : decode cX2_decode 109 = .ok (.iconst 1, 1) := by decide +kernel
theorem dX2_decode_110 : decode cX2_decode 110 = .ok (.goto 4, 3) := by decide +kernel
theorem dX2_decode_113 : decode cX2_decode 113 = .ok (.iconst 0, 1) := by decide +kernel
theorem dX2_decode_114 : decode cX2_decode 114 = .ok (.istore 5, 2) := by decide +kernel
theorem dX2_decode_116 : decode cX2_decode 116 = .ok (.iload 4, 2) := by decide +kernel
theorem dX2_decode_118 : decode cX2_decode 118 = .ok (.iconst 3, 1) := by decide +kernel
theorem dX2_decode_119 : decode cX2_decode 119 = .ok (.iand, 1) := by decide +kernel
theorem dX2_decode_120 : decode cX2_decode 120 = .ok (.istore 6, 2) := by decide +kernel
theorem dX2_decode_122 : decode cX2_decode 122 = .ok (.iload 4, 2) := by decide +kernel
theorem dX2_decode_124 : decode cX2_decode 124 = .ok (.iconst 4, 1) := by decide +kernel
theorem dX2_decode_125 : decode cX2_decode 125 = .ok (.idiv, 1) := by decide +kernel
theorem dX2_decode_126 : decode cX2_decode 126 = .ok (.iconst 3, 1) := by decide +kernel
theorem dX2_decode_127 : decode cX2_decode 127 = .ok (.iand, 1) := by decide +kernel
theorem dX2_decode_128 : decode cX2_decode 128 = .ok (.istore 7, 2) := by decide +kernel
theorem dX2_decode_130 : decode cX2_decode 130 = .ok (.aload_n 0, 1) := by decide +kernel
theorem dX2_decode_131 : decode cX2_decode 131 = .ok (.iload 5, 2) := by decide +kernel
theorem dX2_decode_133 : decode cX2_decode 133 = .ok (.ifCond .eq 8, 3) := by decide +kernel
theorem dX2_decode_136 : decode cX2_decode 136 = .ok (.iload 7, 2) := by decide +kernel
theorem dX2_decode_138 : decode cX2_decode 138 = .ok (.goto 5, 3) := by decide +kernel
theorem dX2_decode_141 : decode cX2_decode 141 = .ok (.iload 6, 2) := by decide +kernel
theorem dX2_decode_143 : decode cX2_decode 143 = .ok (.putfield 40, 3) := by decide +kernel
theorem dX2_decode_146 : decode cX2_decode 146 = .ok (.aload_n 0, 1) := by decide +kernel
theorem dX2_decode_147 : decode cX2_decode 147 = .ok (.iload 5, 2) := by decide +kernel
theorem dX2_decode_149 : decode cX2_decode 149 = .ok (.ifCond .eq 8, 3) := by decide +kernel
theorem dX2_decode_152 : decode cX2_decode 152 = .ok (.iload 6, 2) := by decide +kernel
theorem dX2_decode_154 : decode cX2_decode 154 = .ok (.goto 5, 3) := by decide +kernel
theorem dX2_decode_157 : decode cX2_decode 157 = .ok (.iload 7, 2) := by decide +kernel
theorem dX2_decode_159 : decode cX2_decode 159 = .ok (.putfield 43, 3) := by decide +kernel
theorem dX2_decode_162 : decode cX2_decode 162 = .ok (.return_, 1) := by decide +kernel
theorem dX2_carryOut_0 : decode cX2_carryOut 0 = .ok (.aload_n 0, 1) := by decide +kernel
theorem dX2_carryOut_1 : decode cX2_carryOut 1 = .ok (.getfield 12, 3) := by decide +kernel
theorem dX2_carryOut_4 : decode cX2_carryOut 4 = .ok (.getfield 46, 3) := by decide +kernel
theorem dX2_carryOut_7 : decode cX2_carryOut 7 = .ok (.astore_n 2, 1) := by decide +kernel
theorem dX2_carryOut_8 : decode cX2_carryOut 8 = .ok (.aload_n 0, 1) := by decide +kernel
theorem dX2_carryOut_9 : decode cX2_carryOut 9 = .ok (.getfield 40, 3) := by decide +kernel
theorem dX2_carryOut_12 : decode cX2_carryOut 12 = .ok (.iconst 3, 1) := by decide +kernel
theorem dX2_carryOut_13 : decode cX2_carryOut 13 = .ok (.iand, 1) := by decide +kernel
theorem dX2_carryOut_14 : decode cX2_carryOut 14 = .ok (.istore_n 3, 1) := by decide +kernel
theorem dX2_carryOut_15 : decode cX2_carryOut 15 = .ok (.aload_n 0, 1) := by decide +kernel
theorem dX2_carryOut_16 : decode cX2_carryOut 16 = .ok (.getfield 43, 3) := by decide +kernel
theorem dX2_carryOut_19 : decode cX2_carryOut 19 = .ok (.iconst 3, 1) := by decide +kernel
theorem dX2_carryOut_20 : decode cX2_carryOut 20 = .ok (.iand, 1) := by decide +kernel
theorem dX2_carryOut_21 : decode cX2_carryOut 21 = .ok (.istore 4, 2) := by decide +kernel
theorem dX2_carryOut_23 : decode cX2_carryOut 23 = .ok (.aload_n 0, 1) := by decide +kernel
theorem dX2_carryOut_24 : decode cX2_carryOut 24 = .ok (.getfield 37, 3) := by decide +kernel
theorem dX2_carryOut_27 : decode cX2_carryOut 27 = .ok (.tableswitch 326 1 15 #[73, 83, 96, 109, 122, 134, 145, 160, 181, 205, 229, 238, 267, 286, 311], 73) := by decide +kernel
theorem dX2_carryOut_100 : decode cX2_carryOut 100 = .ok (.aload_n 2, 1) := by decide +kernel
theorem dX2_carryOut_101 : decode cX2_carryOut 101 = .ok (.iload_n 3, 1) := by decide +kernel
theorem dX2_carryOut_102 : decode cX2_carryOut 102 = .ok (.aload_n 2, 1) := by decide +kernel
theorem dX2_carryOut_103 : decode cX2_carryOut 103 = .ok (.iload 4, 2) := by decide +kernel
theorem dX2_carryOut_105 : decode cX2_carryOut 105 = .ok (.iaload, 1) := by decide +kernel
theorem dX2_carryOut_106 : decode cX2_carryOut 106 = .ok (.iastore, 1) := by decide +kernel
theorem dX2_carryOut_107 : decode cX2_carryOut 107 = .ok (.goto 246, 3) := by decide +kernel
theorem dX2_carryOut_110 : decode cX2_carryOut 110 = .ok (.aload_n 0, 1) := by decide +kernel
theorem dX2_carryOut_111 : decode cX2_carryOut 111 = .ok (.iload_n 3, 1) := by decide +kernel
theorem dX2_carryOut_112 : decode cX2_carryOut 112 = .ok (.iconst 1, 1) := by decide +kernel
theorem dX2_carryOut_113 : decode cX2_carryOut 113 = .ok (.aload_n 2, 1) := by decide +kernel
theorem dX2_carryOut_114 : decode cX2_carryOut 114 = .ok (.iload 4, 2) := by decide +kernel
theorem dX2_carryOut_116 : decode cX2_carryOut 116 = .ok (.iaload, 1) := by decide +kernel
theorem dX2_carryOut_117 : decode cX2_carryOut 117 = .ok (.invokevirtual 50, 3) := by decide +kernel
theorem dX2_carryOut_120 : decode cX2_carryOut 120 = .ok (.goto 233, 3) := by decide +kernel
theorem dX2_carryOut_123 : decode cX2_carryOut 123 = .ok (.aload_n 0, 1) := by decide +kernel
theorem dX2_carryOut_124 : decode cX2_carryOut 124 = .ok (.iload_n 3, 1) := by decide +kernel
theorem dX2_carryOut_125 : decode cX2_carryOut 125 = .ok (.iconst 2, 1) := by decide +kernel
theorem dX2_carryOut_126 : decode cX2_carryOut 126 = .ok (.aload_n 2, 1) := by decide +kernel
theorem dX2_carryOut_127 : decode cX2_carryOut 127 = .ok (.iload 4, 2) := by decide +kernel
theorem dX2_carryOut_129 : decode cX2_carryOut 129 = .ok (.iaload, 1) := by decide +kernel
theorem dX2_carryOut_130 : decode cX2_carryOut 130 = .ok (.invokevirtual 50, 3) := by decide +kernel
theorem dX2_carryOut_133 : decode cX2_carryOut 133 = .ok (.goto 220, 3) := by decide +kernel
theorem dX2_carryOut_136 : decode cX2_carryOut 136 = .ok (.aload_n 0, 1) := by decide +kernel
theorem dX2_carryOut_137 : decode cX2_carryOut 137 = .ok (.iload_n 3, 1) := by decide +kernel
theorem dX2_carryOut_138 : decode cX2_carryOut 138 = .ok (.iconst 3, 1) := by decide +kernel
theorem dX2_carryOut_139 : decode cX2_carryOut 139 = .ok (.aload_n 2, 1) := by decide +kernel
theorem dX2_carryOut_140 : decode cX2_carryOut 140 = .ok (.iload 4, 2) := by decide +kernel
theorem dX2_carryOut_142 : decode cX2_carryOut 142 = .ok (.iaload, 1) := by decide +kernel
theorem dX2_carryOut_143 : decode cX2_carryOut 143 = .ok (.invokevirtual 50, 3) := by decide +kernel
theorem dX2_carryOut_146 : decode cX2_carryOut 146 = .ok (.goto 207, 3) := by decide +kernel
theorem dX2_carryOut_149 : decode cX2_carryOut 149 = .ok (.aload_n 0, 1) := by decide +kernel
theorem dX2_carryOut_150 : decode cX2_carryOut 150 = .ok (.iload_n 3, 1) := by decide +kernel
theorem dX2_carryOut_151 : decode cX2_carryOut 151 = .ok (.iconst 5, 1) := by decide +kernel
theorem dX2_carryOut_152 : decode cX2_carryOut 152 = .ok (.aload_n 2, 1) := by decide +kernel
theorem dX2_carryOut_153 : decode cX2_carryOut 153 = .ok (.iload_n 3, 1) := by decide +kernel
theorem dX2_carryOut_154 : decode cX2_carryOut 154 = .ok (.iaload, 1) := by decide +kernel
theorem dX2_carryOut_155 : decode cX2_carryOut 155 = .ok (.invokevirtual 50, 3) := by decide +kernel
theorem dX2_carryOut_158 : decode cX2_carryOut 158 = .ok (.goto 195, 3) := by decide +kernel
theorem dX2_carryOut_161 : decode cX2_carryOut 161 = .ok (.aload_n 2, 1) := by decide +kernel
theorem dX2_carryOut_162 : decode cX2_carryOut 162 = .ok (.iload_n 3, 1) := by decide +kernel
theorem dX2_carryOut_163 : decode cX2_carryOut 163 = .ok (.aload_n 0, 1) := by decide +kernel
theorem dX2_carryOut_164 : decode cX2_carryOut 164 = .ok (.aload_n 1, 1) := by decide +kernel
theorem dX2_carryOut_165 : decode cX2_carryOut 165 = .ok (.invokevirtual 26, 3) := by decide +kernel
theorem dX2_carryOut_168 : decode cX2_carryOut 168 = .ok (.iastore, 1) := by decide +kernel
theorem dX2_carryOut_169 : decode cX2_carryOut 169 = .ok (.goto 184, 3) := by decide +kernel
theorem dX2_carryOut_172 : decode cX2_carryOut 172 = .ok (.aload_n 2, 1) := by decide +kernel
theorem dX2_carryOut_173 : decode cX2_carryOut 173 = .ok (.iload_n 3, 1) := by decide +kernel
theorem dX2_carryOut_174 : decode cX2_carryOut 174 = .ok (.aload_n 1, 1) := by decide +kernel
theorem dX2_carryOut_175 : decode cX2_carryOut 175 = .ok (.aload_n 2, 1) := by decide +kernel
theorem dX2_carryOut_176 : decode cX2_carryOut 176 = .ok (.iload 4, 2) := by decide +kernel
theorem dX2_carryOut_178 : decode cX2_carryOut 178 = .ok (.iaload, 1) := by decide +kernel
theorem dX2_carryOut_179 : decode cX2_carryOut 179 = .ok (.bipush 63, 2) := by decide +kernel
theorem dX2_carryOut_181 : decode cX2_carryOut 181 = .ok (.iand, 1) := by decide +kernel
theorem dX2_carryOut_182 : decode cX2_carryOut 182 = .ok (.iaload, 1) := by decide +kernel
theorem dX2_carryOut_183 : decode cX2_carryOut 183 = .ok (.iastore, 1) := by decide +kernel
theorem dX2_carryOut_184 : decode cX2_carryOut 184 = .ok (.goto 169, 3) := by decide +kernel
theorem dX2_carryOut_187 : decode cX2_carryOut 187 = .ok (.aload_n 0, 1) := by decide +kernel
theorem dX2_carryOut_188 : decode cX2_carryOut 188 = .ok (.aload_n 2, 1) := by decide +kernel
theorem dX2_carryOut_189 : decode cX2_carryOut 189 = .ok (.iload 4, 2) := by decide +kernel
theorem dX2_carryOut_191 : decode cX2_carryOut 191 = .ok (.iaload, 1) := by decide +kernel
theorem dX2_carryOut_192 : decode cX2_carryOut 192 = .ok (.bipush 63, 2) := by decide +kernel
theorem dX2_carryOut_194 : decode cX2_carryOut 194 = .ok (.iand, 1) := by decide +kernel
theorem dX2_carryOut_195 : decode cX2_carryOut 195 = .ok (.putfield 22, 3) := by decide +kernel
theorem dX2_carryOut_198 : decode cX2_carryOut 198 = .ok (.aload_n 0, 1) := by decide +kernel
theorem dX2_carryOut_199 : decode cX2_carryOut 199 = .ok (.aload_n 2, 1) := by decide +kernel
theorem dX2_carryOut_200 : decode cX2_carryOut 200 = .ok (.iload_n 3, 1) := by decide +kernel
theorem dX2_carryOut_201 : decode cX2_carryOut 201 = .ok (.iaload, 1) := by decide +kernel
theorem dX2_carryOut_202 : decode cX2_carryOut 202 = .ok (.putfield 54, 3) := by decide +kernel
theorem dX2_carryOut_205 : decode cX2_carryOut 205 = .ok (.goto 148, 3) := by decide +kernel
theorem dX2_carryOut_208 : decode cX2_carryOut 208 = .ok (.aload_n 0, 1) := by decide +kernel
theorem dX2_carryOut_209 : decode cX2_carryOut 209 = .ok (.aload_n 0, 1) := by decide +kernel
theorem dX2_carryOut_210 : decode cX2_carryOut 210 = .ok (.getfield 12, 3) := by decide +kernel
theorem dX2_carryOut_213 : decode cX2_carryOut 213 = .ok (.getfield 57, 3) := by decide +kernel
theorem dX2_carryOut_216 : decode cX2_carryOut 216 = .ok (.iconst 1, 1) := by decide +kernel
theorem dX2_carryOut_217 : decode cX2_carryOut 217 = .ok (.if_icmp .ne 7, 3) := by decide +kernel
theorem dX2_carryOut_220 : decode cX2_carryOut 220 = .ok (.iconst 1, 1) := by decide +kernel
theorem dX2_carryOut_221 : decode cX2_carryOut 221 = .ok (.goto 4, 3) := by decide +kernel
theorem dX2_carryOut_224 : decode cX2_carryOut 224 = .ok (.iconst 0, 1) := by decide +kernel
theorem dX2_carryOut_225 : decode cX2_carryOut 225 = .ok (.aload_n 1, 1) := by decide +kernel
theorem dX2_carryOut_226 : decode cX2_carryOut 226 = .ok (.invokevirtual 60, 3) := by decide +kernel
theorem dX2_carryOut_229 : decode cX2_carryOut 229 = .ok (.goto 124, 3) := by decide +kernel
theorem dX2_carryOut_232 : decode cX2_carryOut 232 = .ok (.aload_n 0, 1) := by decide +kernel
theorem dX2_carryOut_233 : decode cX2_carryOut 233 = .ok (.aload_n 0, 1) := by decide +kernel
theorem dX2_carryOut_234 : decode cX2_carryOut 234 = .ok (.getfield 12, 3) := by decide +kernel
theorem dX2_carryOut_237 : decode cX2_carryOut 237 = .ok (.getfield 64, 3) := by decide +kernel
theorem dX2_carryOut_240 : decode cX2_carryOut 240 = .ok (.iconst 1, 1) := by decide +kernel
theorem dX2_carryOut_241 : decode cX2_carryOut 241 = .ok (.if_icmp .ne 7, 3) := by decide +kernel
theorem dX2_carryOut_244 : decode cX2_carryOut 244 = .ok (.iconst 1, 1) := by decide +kernel
theorem dX2_carryOut_245 : decode cX2_carryOut 245 = .ok (.goto 4, 3) := by decide +kernel
theorem dX2_carryOut_248 : decode cX2_carryOut 248 = .ok (.iconst 0, 1) := by decide +kernel
theorem dX2_carryOut_249 : decode cX2_carryOut 249 = .ok (.aload_n 1, 1) := by decide +kernel
theorem dX2_carryOut_250 : decode cX2_carryOut 250 = .ok (.invokevirtual 60, 3) := by decide +kernel
theorem dX2_carryOut_253 : decode cX2_carryOut 253 = .ok (.goto 100, 3) := by decide +kernel
theorem dX2_carryOut_256 : decode cX2_carryOut 256 = .ok (.aload_n 0, 1) := by decide +kernel
theorem dX2_carryOut_257 : decode cX2_carryOut 257 = .ok (.iconst 1, 1) := by decide +kernel
theorem dX2_carryOut_258 : decode cX2_carryOut 258 = .ok (.aload_n 1, 1) := by decide +kernel
theorem dX2_carryOut_259 : decode cX2_carryOut 259 = .ok (.invokevirtual 60, 3) := by decide +kernel
theorem dX2_carryOut_262 : decode cX2_carryOut 262 = .ok (.goto 91, 3) := by decide +kernel
theorem dX2_carryOut_265 : decode cX2_carryOut 265 = .ok (.aload_n 2, 1) := by decide +kernel
theorem dX2_carryOut_266 : decode cX2_carryOut 266 = .ok (.iload_n 3, 1) := by decide +kernel
theorem dX2_carryOut_267 : decode cX2_carryOut 267 = .ok (.aload_n 1, 1) := by decide +kernel
theorem dX2_carryOut_268 : decode cX2_carryOut 268 = .ok (.aload_n 2, 1) := by decide +kernel
theorem dX2_carryOut_269 : decode cX2_carryOut 269 = .ok (.iload 4, 2) := by decide +kernel
theorem dX2_carryOut_271 : decode cX2_carryOut 271 = .ok (.iaload, 1) := by decide +kernel
theorem dX2_carryOut_272 : decode cX2_carryOut 272 = .ok (.bipush 63, 2) := by decide +kernel
theorem dX2_carryOut_274 : decode cX2_carryOut 274 = .ok (.iand, 1) := by decide +kernel
theorem dX2_carryOut_275 : decode cX2_carryOut 275 = .ok (.iaload, 1) := by decide +kernel
theorem dX2_carryOut_276 : decode cX2_carryOut 276 = .ok (.iastore, 1) := by decide +kernel
theorem dX2_carryOut_277 : decode cX2_carryOut 277 = .ok (.aload_n 2, 1) := by decide +kernel
theorem dX2_carryOut_278 : decode cX2_carryOut 278 = .ok (.iload 4, 2) := by decide +kernel
theorem dX2_carryOut_280 : decode cX2_carryOut 280 = .ok (.aload_n 2, 1) := by decide +kernel
theorem dX2_carryOut_281 : decode cX2_carryOut 281 = .ok (.iload 4, 2) := by decide +kernel
theorem dX2_carryOut_283 : decode cX2_carryOut 283 = .ok (.iaload, 1) := by decide +kernel
theorem dX2_carryOut_284 : decode cX2_carryOut 284 = .ok (.iconst 1, 1) := by decide +kernel
theorem dX2_carryOut_285 : decode cX2_carryOut 285 = .ok (.iadd, 1) := by decide +kernel
theorem dX2_carryOut_286 : decode cX2_carryOut 286 = .ok (.sipush 255, 3) := by decide +kernel
theorem dX2_carryOut_289 : decode cX2_carryOut 289 = .ok (.iand, 1) := by decide +kernel
theorem dX2_carryOut_290 : decode cX2_carryOut 290 = .ok (.iastore, 1) := by decide +kernel
theorem dX2_carryOut_291 : decode cX2_carryOut 291 = .ok (.goto 62, 3) := by decide +kernel
theorem dX2_carryOut_294 : decode cX2_carryOut 294 = .ok (.aload_n 0, 1) := by decide +kernel
theorem dX2_carryOut_295 : decode cX2_carryOut 295 = .ok (.getfield 12, 3) := by decide +kernel
theorem dX2_carryOut_298 : decode cX2_carryOut 298 = .ok (.iconst 1, 1) := by decide +kernel
theorem dX2_carryOut_299 : decode cX2_carryOut 299 = .ok (.aload_n 0, 1) := by decide +kernel
theorem dX2_carryOut_300 : decode cX2_carryOut 300 = .ok (.getfield 12, 3) := by decide +kernel
theorem dX2_carryOut_303 : decode cX2_carryOut 303 = .ok (.getfield 30, 3) := by decide +kernel
theorem dX2_carryOut_306 : decode cX2_carryOut 306 = .ok (.isub, 1) := by decide +kernel
theorem dX2_carryOut_307 : decode cX2_carryOut 307 = .ok (.putfield 30, 3) := by decide +kernel
theorem dX2_carryOut_310 : decode cX2_carryOut 310 = .ok (.goto 43, 3) := by decide +kernel
theorem dX2_carryOut_313 : decode cX2_carryOut 313 = .ok (.aload_n 0, 1) := by decide +kernel
theorem dX2_carryOut_314 : decode cX2_carryOut 314 = .ok (.getfield 12, 3) := by decide +kernel
theorem dX2_carryOut_317 : decode cX2_carryOut 317 = .ok (.aload_n 0, 1) := by decide +kernel
theorem dX2_carryOut_318 : decode cX2_carryOut 318 = .ok (.getfield 12, 3) := by decide +kernel
theorem dX2_carryOut_321 : decode cX2_carryOut 321 = .ok (.getfield 67, 3) := by decide +kernel
theorem dX2_carryOut_324 : decode cX2_carryOut 324 = .ok (.putfield 70, 3) := by decide +kernel
theorem dX2_carryOut_327 : decode cX2_carryOut 327 = .ok (.aload_n 0, 1) := by decide +kernel
theorem dX2_carryOut_328 : decode cX2_carryOut 328 = .ok (.getfield 12, 3) := by decide +kernel
theorem dX2_carryOut_331 : decode cX2_carryOut 331 = .ok (.iconst 1, 1) := by decide +kernel
theorem dX2_carryOut_332 : decode cX2_carryOut 332 = .ok (.putfield 73, 3) := by decide +kernel
theorem dX2_carryOut_335 : decode cX2_carryOut 335 = .ok (.goto 18, 3) := by decide +kernel
theorem dX2_carryOut_338 : decode cX2_carryOut 338 = .ok (.aload_n 0, 1) := by decide +kernel
theorem dX2_carryOut_339 : decode cX2_carryOut 339 = .ok (.getfield 12, 3) := by decide +kernel
theorem dX2_carryOut_342 : decode cX2_carryOut 342 = .ok (.aload_n 2, 1) := by decide +kernel
theorem dX2_carryOut_343 : decode cX2_carryOut 343 = .ok (.iload_n 3, 1) := by decide +kernel
theorem dX2_carryOut_344 : decode cX2_carryOut 344 = .ok (.iaload, 1) := by decide +kernel
theorem dX2_carryOut_345 : decode cX2_carryOut 345 = .ok (.iconst 1, 1) := by decide +kernel
theorem dX2_carryOut_346 : decode cX2_carryOut 346 = .ok (.iand, 1) := by decide +kernel
theorem dX2_carryOut_347 : decode cX2_carryOut 347 = .ok (.putfield 73, 3) := by decide +kernel
theorem dX2_carryOut_350 : decode cX2_carryOut 350 = .ok (.goto 3, 3) := by decide +kernel
theorem dX2_carryOut_353 : decode cX2_carryOut 353 = .ok (.return_, 1) := by decide +kernel
theorem dX2_takeByte_0 : decode cX2_takeByte 0 = .ok (.aload_n 1, 1) := by decide +kernel
theorem dX2_takeByte_1 : decode cX2_takeByte 1 = .ok (.aload_n 0, 1) := by decide +kernel
theorem dX2_takeByte_2 : decode cX2_takeByte 2 = .ok (.getfield 12, 3) := by decide +kernel
theorem dX2_takeByte_5 : decode cX2_takeByte 5 = .ok (.getfield 70, 3) := by decide +kernel
theorem dX2_takeByte_8 : decode cX2_takeByte 8 = .ok (.bipush 63, 2) := by decide +kernel
theorem dX2_takeByte_10 : decode cX2_takeByte 10 = .ok (.iand, 1) := by decide +kernel
theorem dX2_takeByte_11 : decode cX2_takeByte 11 = .ok (.iaload, 1) := by decide +kernel
theorem dX2_takeByte_12 : decode cX2_takeByte 12 = .ok (.istore_n 2, 1) := by decide +kernel
theorem dX2_takeByte_13 : decode cX2_takeByte 13 = .ok (.aload_n 0, 1) := by decide +kernel
theorem dX2_takeByte_14 : decode cX2_takeByte 14 = .ok (.getfield 12, 3) := by decide +kernel
theorem dX2_takeByte_17 : decode cX2_takeByte 17 = .ok (.aload_n 0, 1) := by decide +kernel
theorem dX2_takeByte_18 : decode cX2_takeByte 18 = .ok (.getfield 12, 3) := by decide +kernel
theorem dX2_takeByte_21 : decode cX2_takeByte 21 = .ok (.getfield 70, 3) := by decide +kernel
theorem dX2_takeByte_24 : decode cX2_takeByte 24 = .ok (.iconst 1, 1) := by decide +kernel
theorem dX2_takeByte_25 : decode cX2_takeByte 25 = .ok (.iadd, 1) := by decide +kernel
theorem dX2_takeByte_26 : decode cX2_takeByte 26 = .ok (.bipush 63, 2) := by decide +kernel
theorem dX2_takeByte_28 : decode cX2_takeByte 28 = .ok (.iand, 1) := by decide +kernel
theorem dX2_takeByte_29 : decode cX2_takeByte 29 = .ok (.putfield 70, 3) := by decide +kernel
theorem dX2_takeByte_32 : decode cX2_takeByte 32 = .ok (.iload_n 2, 1) := by decide +kernel
theorem dX2_takeByte_33 : decode cX2_takeByte 33 = .ok (.ireturn, 1) := by decide +kernel
theorem dX2_combineInto_0 : decode cX2_combineInto 0 = .ok (.aload_n 0, 1) := by decide +kernel
theorem dX2_combineInto_1 : decode cX2_combineInto 1 = .ok (.getfield 12, 3) := by decide +kernel
theorem dX2_combineInto_4 : decode cX2_combineInto 4 = .ok (.getfield 46, 3) := by decide +kernel
theorem dX2_combineInto_7 : decode cX2_combineInto 7 = .ok (.iload_n 1, 1) := by decide +kernel
theorem dX2_combineInto_8 : decode cX2_combineInto 8 = .ok (.iconst 3, 1) := by decide +kernel
theorem dX2_combineInto_9 : decode cX2_combineInto 9 = .ok (.iand, 1) := by decide +kernel
theorem dX2_combineInto_10 : decode cX2_combineInto 10 = .ok (.iaload, 1) := by decide +kernel
theorem dX2_combineInto_11 : decode cX2_combineInto 11 = .ok (.istore 4, 2) := by decide +kernel
theorem dX2_combineInto_13 : decode cX2_combineInto 13 = .ok (.iload_n 2, 1) := by decide +kernel
theorem dX2_combineInto_14 : decode cX2_combineInto 14 = .ok (.iload 4, 2) := by decide +kernel
theorem dX2_combineInto_16 : decode cX2_combineInto 16 = .ok (.iload_n 3, 1) := by decide +kernel
theorem dX2_combineInto_17 : decode cX2_combineInto 17 = .ok (.invokestatic 76, 3) := by decide +kernel
theorem dX2_combineInto_20 : decode cX2_combineInto 20 = .ok (.istore 5, 2) := by decide +kernel
theorem dX2_combineInto_22 : decode cX2_combineInto 22 = .ok (.aload_n 0, 1) := by decide +kernel
theorem dX2_combineInto_23 : decode cX2_combineInto 23 = .ok (.getfield 12, 3) := by decide +kernel
theorem dX2_combineInto_26 : decode cX2_combineInto 26 = .ok (.iload 5, 2) := by decide +kernel
theorem dX2_combineInto_28 : decode cX2_combineInto 28 = .ok (.ifCond .ne 7, 3) := by decide +kernel
theorem dX2_combineInto_31 : decode cX2_combineInto 31 = .ok (.iconst 1, 1) := by decide +kernel
theorem dX2_combineInto_32 : decode cX2_combineInto 32 = .ok (.goto 4, 3) := by decide +kernel
theorem dX2_combineInto_35 : decode cX2_combineInto 35 = .ok (.iconst 0, 1) := by decide +kernel
theorem dX2_combineInto_36 : decode cX2_combineInto 36 = .ok (.iload_n 2, 1) := by decide +kernel
theorem dX2_combineInto_37 : decode cX2_combineInto 37 = .ok (.iload 4, 2) := by decide +kernel
theorem dX2_combineInto_39 : decode cX2_combineInto 39 = .ok (.iload_n 3, 1) := by decide +kernel
theorem dX2_combineInto_40 : decode cX2_combineInto 40 = .ok (.invokestatic 80, 3) := by decide +kernel
theorem dX2_combineInto_43 : decode cX2_combineInto 43 = .ok (.invokevirtual 84, 3) := by decide +kernel
theorem dX2_combineInto_46 : decode cX2_combineInto 46 = .ok (.aload_n 0, 1) := by decide +kernel
theorem dX2_combineInto_47 : decode cX2_combineInto 47 = .ok (.getfield 12, 3) := by decide +kernel
theorem dX2_combineInto_50 : decode cX2_combineInto 50 = .ok (.getfield 46, 3) := by decide +kernel
theorem dX2_combineInto_53 : decode cX2_combineInto 53 = .ok (.iload_n 1, 1) := by decide +kernel
theorem dX2_combineInto_54 : decode cX2_combineInto 54 = .ok (.iconst 3, 1) := by decide +kernel
theorem dX2_combineInto_55 : decode cX2_combineInto 55 = .ok (.iand, 1) := by decide +kernel
theorem dX2_combineInto_56 : decode cX2_combineInto 56 = .ok (.iload 5, 2) := by decide +kernel
theorem dX2_combineInto_58 : decode cX2_combineInto 58 = .ok (.iastore, 1) := by decide +kernel
theorem dX2_combineInto_59 : decode cX2_combineInto 59 = .ok (.return_, 1) := by decide +kernel
theorem dX2_jumpIf_0 : decode cX2_jumpIf 0 = .ok (.aload_n 0, 1) := by decide +kernel
theorem dX2_jumpIf_1 : decode cX2_jumpIf 1 = .ok (.aload_n 2, 1) := by decide +kernel
theorem dX2_jumpIf_2 : decode cX2_jumpIf 2 = .ok (.invokevirtual 26, 3) := by decide +kernel
theorem dX2_jumpIf_5 : decode cX2_jumpIf 5 = .ok (.bipush 63, 2) := by decide +kernel
theorem dX2_jumpIf_7 : decode cX2_jumpIf 7 = .ok (.iand, 1) := by decide +kernel
theorem dX2_jumpIf_8 : decode cX2_jumpIf 8 = .ok (.istore_n 3, 1) := by decide +kernel
theorem dX2_jumpIf_9 : decode cX2_jumpIf 9 = .ok (.iload_n 1, 1) := by decide +kernel
theorem dX2_jumpIf_10 : decode cX2_jumpIf 10 = .ok (.ifCond .eq 11, 3) := by decide +kernel
theorem dX2_jumpIf_13 : decode cX2_jumpIf 13 = .ok (.aload_n 0, 1) := by decide +kernel
theorem dX2_jumpIf_14 : decode cX2_jumpIf 14 = .ok (.getfield 12, 3) := by decide +kernel
theorem dX2_jumpIf_17 : decode cX2_jumpIf 17 = .ok (.iload_n 3, 1) := by decide +kernel
theorem dX2_jumpIf_18 : decode cX2_jumpIf 18 = .ok (.putfield 70, 3) := by decide +kernel
theorem dX2_jumpIf_21 : decode cX2_jumpIf 21 = .ok (.return_, 1) := by decide +kernel
theorem dX3_init_0 : decode cX3_init 0 = .ok (.aload_n 0, 1) := by decide +kernel
theorem dX3_init_1 : decode cX3_init 1 = .ok (.invokespecial 3, 3) := by decide +kernel
theorem dX3_init_4 : decode cX3_init 4 = .ok (.return_, 1) := by decide +kernel
theorem dX3_first_0 : decode cX3_first 0 = .ok (.aload_n 0, 1) := by decide +kernel
theorem dX3_first_1 : decode cX3_first 1 = .ok (.getfield 9, 3) := by decide +kernel
theorem dX3_first_4 : decode cX3_first 4 = .ok (.iconst 1, 1) := by decide +kernel
theorem dX3_first_5 : decode cX3_first 5 = .ok (.if_icmp .ne 10, 3) := by decide +kernel
theorem dX3_first_8 : decode cX3_first 8 = .ok (.aload_n 0, 1) := by decide +kernel
theorem dX3_first_9 : decode cX3_first 9 = .ok (.invokevirtual 15, 3) := by decide +kernel
theorem dX3_first_12 : decode cX3_first 12 = .ok (.goto 7, 3) := by decide +kernel
theorem dX3_first_15 : decode cX3_first 15 = .ok (.aload_n 0, 1) := by decide +kernel
theorem dX3_first_16 : decode cX3_first 16 = .ok (.invokevirtual 19, 3) := by decide +kernel
theorem dX3_first_19 : decode cX3_first 19 = .ok (.ireturn, 1) := by decide +kernel
theorem dX3_second_0 : decode cX3_second 0 = .ok (.aload_n 0, 1) := by decide +kernel
theorem dX3_second_1 : decode cX3_second 1 = .ok (.getfield 9, 3) := by decide +kernel
theorem dX3_second_4 : decode cX3_second 4 = .ok (.iconst 1, 1) := by decide +kernel
theorem dX3_second_5 : decode cX3_second 5 = .ok (.if_icmp .ne 10, 3) := by decide +kernel
theorem dX3_second_8 : decode cX3_second 8 = .ok (.aload_n 0, 1) := by decide +kernel
theorem dX3_second_9 : decode cX3_second 9 = .ok (.invokevirtual 19, 3) := by decide +kernel
theorem dX3_second_12 : decode cX3_second 12 = .ok (.goto 7, 3) := by decide +kernel
theorem dX3_second_15 : decode cX3_second 15 = .ok (.aload_n 0, 1) := by decide +kernel
theorem dX3_second_16 : decode cX3_second 16 = .ok (.invokevirtual 15, 3) := by decide +kernel
theorem dX3_second_19 : decode cX3_second 19 = .ok (.ireturn, 1) := by decide +kernel
theorem dX3_operation_0 : decode cX3_operation 0 = .ok (.aload_n 0, 1) := by decide +kernel
theorem dX3_operation_1 : decode cX3_operation 1 = .ok (.getfield 22, 3) := by decide +kernel
theorem dX3_operation_4 : decode cX3_operation 4 = .ok (.bipush 16, 2) := by decide +kernel
theorem dX3_operation_6 : decode cX3_operation 6 = .ok (.idiv, 1) := by decide +kernel
theorem dX3_operation_7 : decode cX3_operation 7 = .ok (.bipush 15, 2) := by decide +kernel
theorem dX3_operation_9 : decode cX3_operation 9 = .ok (.iand, 1) := by decide +kernel
theorem dX3_operation_10 : decode cX3_operation 10 = .ok (.ireturn, 1) := by decide +kernel
theorem dX3_low_0 : decode cX3_low 0 = .ok (.aload_n 0, 1) := by decide +kernel
theorem dX3_low_1 : decode cX3_low 1 = .ok (.getfield 22, 3) := by decide +kernel
theorem dX3_low_4 : decode cX3_low 4 = .ok (.iconst 3, 1) := by decide +kernel
theorem dX3_low_5 : decode cX3_low 5 = .ok (.iand, 1) := by decide +kernel
theorem dX3_low_6 : decode cX3_low 6 = .ok (.ireturn, 1) := by decide +kernel
theorem dX3_high_0 : decode cX3_high 0 = .ok (.aload_n 0, 1) := by decide +kernel
theorem dX3_high_1 : decode cX3_high 1 = .ok (.getfield 22, 3) := by decide +kernel
theorem dX3_high_4 : decode cX3_high 4 = .ok (.iconst 4, 1) := by decide +kernel
theorem dX3_high_5 : decode cX3_high 5 = .ok (.idiv, 1) := by decide +kernel
theorem dX3_high_6 : decode cX3_high 6 = .ok (.iconst 3, 1) := by decide +kernel
theorem dX3_high_7 : decode cX3_high 7 = .ok (.iand, 1) := by decide +kernel
theorem dX3_high_8 : decode cX3_high 8 = .ok (.ireturn, 1) := by decide +kernel
theorem dX4_init_0 : decode cX4_init 0 = .ok (.aload_n 0, 1) := by decide +kernel
theorem dX4_init_1 : decode cX4_init 1 = .ok (.invokespecial 1, 3) := by decide +kernel
theorem dX4_init_4 : decode cX4_init 4 = .ok (.return_, 1) := by decide +kernel
theorem dX4_tell_0 : decode cX4_tell 0 = .ok (.aload_n 0, 1) := by decide +kernel
theorem dX4_tell_1 : decode cX4_tell 1 = .ok (.iconst 1, 1) := by decide +kernel
theorem dX4_tell_2 : decode cX4_tell 2 = .ok (.putfield 7, 3) := by decide +kernel
theorem dX4_tell_5 : decode cX4_tell 5 = .ok (.aload_n 0, 1) := by decide +kernel
theorem dX4_tell_6 : decode cX4_tell 6 = .ok (.iload_n 1, 1) := by decide +kernel
theorem dX4_tell_7 : decode cX4_tell 7 = .ok (.putfield 13, 3) := by decide +kernel
theorem dX4_tell_10 : decode cX4_tell 10 = .ok (.aload_n 0, 1) := by decide +kernel
theorem dX4_tell_11 : decode cX4_tell 11 = .ok (.iload_n 2, 1) := by decide +kernel
theorem dX4_tell_12 : decode cX4_tell 12 = .ok (.putfield 17, 3) := by decide +kernel
theorem dX4_tell_15 : decode cX4_tell 15 = .ok (.aload_n 0, 1) := by decide +kernel
theorem dX4_tell_16 : decode cX4_tell 16 = .ok (.iload_n 3, 1) := by decide +kernel
theorem dX4_tell_17 : decode cX4_tell 17 = .ok (.putfield 20, 3) := by decide +kernel
theorem dX4_tell_20 : decode cX4_tell 20 = .ok (.return_, 1) := by decide +kernel
theorem dX4_isZero_0 : decode cX4_isZero 0 = .ok (.aload_n 0, 1) := by decide +kernel
theorem dX4_isZero_1 : decode cX4_isZero 1 = .ok (.getfield 13, 3) := by decide +kernel
theorem dX4_isZero_4 : decode cX4_isZero 4 = .ok (.aload_n 0, 1) := by decide +kernel
theorem dX4_isZero_5 : decode cX4_isZero 5 = .ok (.getfield 17, 3) := by decide +kernel
theorem dX4_isZero_8 : decode cX4_isZero 8 = .ok (.aload_n 0, 1) := by decide +kernel
theorem dX4_isZero_9 : decode cX4_isZero 9 = .ok (.getfield 20, 3) := by decide +kernel
theorem dX4_isZero_12 : decode cX4_isZero 12 = .ok (.invokestatic 23, 3) := by decide +kernel
theorem dX4_isZero_15 : decode cX4_isZero 15 = .ok (.ifCond .ne 7, 3) := by decide +kernel
theorem dX4_isZero_18 : decode cX4_isZero 18 = .ok (.iconst 1, 1) := by decide +kernel
theorem dX4_isZero_19 : decode cX4_isZero 19 = .ok (.goto 4, 3) := by decide +kernel
theorem dX4_isZero_22 : decode cX4_isZero 22 = .ok (.iconst 0, 1) := by decide +kernel
theorem dX4_isZero_23 : decode cX4_isZero 23 = .ok (.ireturn, 1) := by decide +kernel
theorem dX4_isCarry_0 : decode cX4_isCarry 0 = .ok (.aload_n 0, 1) := by decide +kernel
theorem dX4_isCarry_1 : decode cX4_isCarry 1 = .ok (.getfield 13, 3) := by decide +kernel
theorem dX4_isCarry_4 : decode cX4_isCarry 4 = .ok (.aload_n 0, 1) := by decide +kernel
theorem dX4_isCarry_5 : decode cX4_isCarry 5 = .ok (.getfield 17, 3) := by decide +kernel
theorem dX4_isCarry_8 : decode cX4_isCarry 8 = .ok (.aload_n 0, 1) := by decide +kernel
theorem dX4_isCarry_9 : decode cX4_isCarry 9 = .ok (.getfield 20, 3) := by decide +kernel
theorem dX4_isCarry_12 : decode cX4_isCarry 12 = .ok (.invokestatic 29, 3) := by decide +kernel
theorem dX4_isCarry_15 : decode cX4_isCarry 15 = .ok (.ireturn, 1) := by decide +kernel
theorem dX5_init_0 : decode cX5_init 0 = .ok (.aload_n 0, 1) := by decide +kernel
theorem dX5_init_1 : decode cX5_init 1 = .ok (.invokespecial 3, 3) := by decide +kernel
theorem dX5_init_4 : decode cX5_init 4 = .ok (.aload_n 0, 1) := by decide +kernel
theorem dX5_init_5 : decode cX5_init 5 = .ok (.bipush 64, 2) := by decide +kernel
theorem dX5_init_7 : decode cX5_init 7 = .ok (.newarray .int, 2) := by decide +kernel
theorem dX5_init_9 : decode cX5_init 9 = .ok (.putfield 9, 3) := by decide +kernel
theorem dX5_init_12 : decode cX5_init 12 = .ok (.aload_n 0, 1) := by decide +kernel
theorem dX5_init_13 : decode cX5_init 13 = .ok (.bipush 64, 2) := by decide +kernel
theorem dX5_init_15 : decode cX5_init 15 = .ok (.newarray .int, 2) := by decide +kernel
theorem dX5_init_17 : decode cX5_init 17 = .ok (.putfield 15, 3) := by decide +kernel
theorem dX5_init_20 : decode cX5_init 20 = .ok (.aload_n 0, 1) := by decide +kernel
theorem dX5_init_21 : decode cX5_init 21 = .ok (.iconst 4, 1) := by decide +kernel
theorem dX5_init_22 : decode cX5_init 22 = .ok (.newarray .boolean, 2) := by decide +kernel
theorem dX5_init_24 : decode cX5_init 24 = .ok (.putfield 18, 3) := by decide +kernel
theorem dX5_init_27 : decode cX5_init 27 = .ok (.aload_n 0, 1) := by decide +kernel
theorem dX5_init_28 : decode cX5_init 28 = .ok (.bipush 64, 2) := by decide +kernel
theorem dX5_init_30 : decode cX5_init 30 = .ok (.newarray .int, 2) := by decide +kernel
theorem dX5_init_32 : decode cX5_init 32 = .ok (.putfield 22, 3) := by decide +kernel
theorem dX5_init_35 : decode cX5_init 35 = .ok (.aload_n 0, 1) := by decide +kernel
theorem dX5_init_36 : decode cX5_init 36 = .ok (.bipush 64, 2) := by decide +kernel
theorem dX5_init_38 : decode cX5_init 38 = .ok (.newarray .boolean, 2) := by decide +kernel
theorem dX5_init_40 : decode cX5_init 40 = .ok (.putfield 25, 3) := by decide +kernel
theorem dX5_init_43 : decode cX5_init 43 = .ok (.return_, 1) := by decide +kernel
theorem dX5_at_0 : decode cX5_at 0 = .ok (.aload_n 0, 1) := by decide +kernel
theorem dX5_at_1 : decode cX5_at 1 = .ok (.getfield 9, 3) := by decide +kernel
theorem dX5_at_4 : decode cX5_at 4 = .ok (.iload_n 1, 1) := by decide +kernel
theorem dX5_at_5 : decode cX5_at 5 = .ok (.bipush 63, 2) := by decide +kernel
theorem dX5_at_7 : decode cX5_at 7 = .ok (.iand, 1) := by decide +kernel
theorem dX5_at_8 : decode cX5_at 8 = .ok (.iaload, 1) := by decide +kernel
theorem dX5_at_9 : decode cX5_at 9 = .ok (.ireturn, 1) := by decide +kernel
theorem dX5_put_0 : decode cX5_put 0 = .ok (.iload_n 1, 1) := by decide +kernel
theorem dX5_put_1 : decode cX5_put 1 = .ok (.bipush 63, 2) := by decide +kernel
theorem dX5_put_3 : decode cX5_put 3 = .ok (.iand, 1) := by decide +kernel
theorem dX5_put_4 : decode cX5_put 4 = .ok (.istore_n 3, 1) := by decide +kernel
theorem dX5_put_5 : decode cX5_put 5 = .ok (.aload_n 0, 1) := by decide +kernel
theorem dX5_put_6 : decode cX5_put 6 = .ok (.getfield 9, 3) := by decide +kernel
theorem dX5_put_9 : decode cX5_put 9 = .ok (.iload_n 3, 1) := by decide +kernel
theorem dX5_put_10 : decode cX5_put 10 = .ok (.iload_n 2, 1) := by decide +kernel
theorem dX5_put_11 : decode cX5_put 11 = .ok (.iastore, 1) := by decide +kernel
theorem dX5_put_12 : decode cX5_put 12 = .ok (.aload_n 0, 1) := by decide +kernel
theorem dX5_put_13 : decode cX5_put 13 = .ok (.getfield 25, 3) := by decide +kernel
theorem dX5_put_16 : decode cX5_put 16 = .ok (.iload_n 3, 1) := by decide +kernel
theorem dX5_put_17 : decode cX5_put 17 = .ok (.baload, 1) := by decide +kernel
theorem dX5_put_18 : decode cX5_put 18 = .ok (.ifCond .ne 39, 3) := by decide +kernel
theorem dX5_put_21 : decode cX5_put 21 = .ok (.aload_n 0, 1) := by decide +kernel
theorem dX5_put_22 : decode cX5_put 22 = .ok (.getfield 28, 3) := by decide +kernel
theorem dX5_put_25 : decode cX5_put 25 = .ok (.bipush 64, 2) := by decide +kernel
theorem dX5_put_27 : decode cX5_put 27 = .ok (.if_icmp .ge 30, 3) := by decide +kernel
theorem dX5_put_30 : decode cX5_put 30 = .ok (.aload_n 0, 1) := by decide +kernel
theorem dX5_put_31 : decode cX5_put 31 = .ok (.getfield 25, 3) := by decide +kernel
theorem dX5_put_34 : decode cX5_put 34 = .ok (.iload_n 3, 1) := by decide +kernel
theorem dX5_put_35 : decode cX5_put 35 = .ok (.iconst 1, 1) := by decide +kernel
theorem dX5_put_36 : decode cX5_put 36 = .ok (.bastore, 1) := by decide +kernel
theorem dX5_put_37 : decode cX5_put 37 = .ok (.aload_n 0, 1) := by decide +kernel
theorem dX5_put_38 : decode cX5_put 38 = .ok (.getfield 22, 3) := by decide +kernel
theorem dX5_put_41 : decode cX5_put 41 = .ok (.aload_n 0, 1) := by decide +kernel
theorem dX5_put_42 : decode cX5_put 42 = .ok (.getfield 28, 3) := by decide +kernel
theorem dX5_put_45 : decode cX5_put 45 = .ok (.iload_n 3, 1) := by decide +kernel
theorem dX5_put_46 : decode cX5_put 46 = .ok (.iastore, 1) := by decide +kernel
theorem dX5_put_47 : decode cX5_put 47 = .ok (.aload_n 0, 1) := by decide +kernel
theorem dX5_put_48 : decode cX5_put 48 = .ok (.dup, 1) := by decide +kernel
theorem dX5_put_49 : decode cX5_put 49 = .ok (.getfield 28, 3) := by decide +kernel
theorem dX5_put_52 : decode cX5_put 52 = .ok (.iconst 1, 1) := by decide +kernel
theorem dX5_put_53 : decode cX5_put 53 = .ok (.iadd, 1) := by decide +kernel
theorem dX5_put_54 : decode cX5_put 54 = .ok (.putfield 28, 3) := by decide +kernel
theorem dX5_put_57 : decode cX5_put 57 = .ok (.return_, 1) := by decide +kernel
theorem dX5_replace_0 : decode cX5_replace 0 = .ok (.aload_n 0, 1) := by decide +kernel
theorem dX5_replace_1 : decode cX5_replace 1 = .ok (.getfield 9, 3) := by decide +kernel
theorem dX5_replace_4 : decode cX5_replace 4 = .ok (.iload_n 1, 1) := by decide +kernel
theorem dX5_replace_5 : decode cX5_replace 5 = .ok (.iaload, 1) := by decide +kernel
theorem dX5_replace_6 : decode cX5_replace 6 = .ok (.istore_n 3, 1) := by decide +kernel
theorem dX5_replace_7 : decode cX5_replace 7 = .ok (.aload_n 0, 1) := by decide +kernel
theorem dX5_replace_8 : decode cX5_replace 8 = .ok (.getfield 9, 3) := by decide +kernel
theorem dX5_replace_11 : decode cX5_replace 11 = .ok (.iload_n 1, 1) := by decide +kernel
theorem dX5_replace_12 : decode cX5_replace 12 = .ok (.iload_n 2, 1) := by decide +kernel
theorem dX5_replace_13 : decode cX5_replace 13 = .ok (.iastore, 1) := by decide +kernel
theorem dX5_replace_14 : decode cX5_replace 14 = .ok (.aload_n 0, 1) := by decide +kernel
theorem dX5_replace_15 : decode cX5_replace 15 = .ok (.getfield 15, 3) := by decide +kernel
theorem dX5_replace_18 : decode cX5_replace 18 = .ok (.iload_n 1, 1) := by decide +kernel
theorem dX5_replace_19 : decode cX5_replace 19 = .ok (.iload_n 2, 1) := by decide +kernel
theorem dX5_replace_20 : decode cX5_replace 20 = .ok (.iastore, 1) := by decide +kernel
theorem dX5_replace_21 : decode cX5_replace 21 = .ok (.iload_n 3, 1) := by decide +kernel
theorem dX5_replace_22 : decode cX5_replace 22 = .ok (.ireturn, 1) := by decide +kernel
theorem dX5_isAbsentAt_0 : decode cX5_isAbsentAt 0 = .ok (.aload_n 0, 1) := by decide +kernel
theorem dX5_isAbsentAt_1 : decode cX5_isAbsentAt 1 = .ok (.getfield 18, 3) := by decide +kernel
theorem dX5_isAbsentAt_4 : decode cX5_isAbsentAt 4 = .ok (.aload_n 0, 1) := by decide +kernel
theorem dX5_isAbsentAt_5 : decode cX5_isAbsentAt 5 = .ok (.iload_n 1, 1) := by decide +kernel
theorem dX5_isAbsentAt_6 : decode cX5_isAbsentAt 6 = .ok (.invokevirtual 32, 3) := by decide +kernel
theorem dX5_isAbsentAt_9 : decode cX5_isAbsentAt 9 = .ok (.baload, 1) := by decide +kernel
theorem dX5_isAbsentAt_10 : decode cX5_isAbsentAt 10 = .ok (.ireturn, 1) := by decide +kernel
theorem dX5_pageOf_0 : decode cX5_pageOf 0 = .ok (.iload_n 1, 1) := by decide +kernel
theorem dX5_pageOf_1 : decode cX5_pageOf 1 = .ok (.bipush 63, 2) := by decide +kernel
theorem dX5_pageOf_3 : decode cX5_pageOf 3 = .ok (.iand, 1) := by decide +kernel
theorem dX5_pageOf_4 : decode cX5_pageOf 4 = .ok (.bipush 16, 2) := by decide +kernel
theorem dX5_pageOf_6 : decode cX5_pageOf 6 = .ok (.idiv, 1) := by decide +kernel
theorem dX5_pageOf_7 : decode cX5_pageOf 7 = .ok (.ireturn, 1) := by decide +kernel
theorem dX5_replacePage_0 : decode cX5_replacePage 0 = .ok (.aload_n 0, 1) := by decide +kernel
theorem dX5_replacePage_1 : decode cX5_replacePage 1 = .ok (.getfield 18, 3) := by decide +kernel
theorem dX5_replacePage_4 : decode cX5_replacePage 4 = .ok (.iload_n 1, 1) := by decide +kernel
theorem dX5_replacePage_5 : decode cX5_replacePage 5 = .ok (.baload, 1) := by decide +kernel
theorem dX5_replacePage_6 : decode cX5_replacePage 6 = .ok (.ifCond .ne 7, 3) := by decide +kernel
theorem dX5_replacePage_9 : decode cX5_replacePage 9 = .ok (.iconst 1, 1) := by decide +kernel
theorem dX5_replacePage_10 : decode cX5_replacePage 10 = .ok (.goto 4, 3) := by decide +kernel
theorem dX5_replacePage_13 : decode cX5_replacePage 13 = .ok (.iconst 0, 1) := by decide +kernel
theorem dX5_replacePage_14 : decode cX5_replacePage 14 = .ok (.istore_n 3, 1) := by decide +kernel
theorem dX5_replacePage_15 : decode cX5_replacePage 15 = .ok (.aload_n 0, 1) := by decide +kernel
theorem dX5_replacePage_16 : decode cX5_replacePage 16 = .ok (.getfield 18, 3) := by decide +kernel
theorem dX5_replacePage_19 : decode cX5_replacePage 19 = .ok (.iload_n 1, 1) := by decide +kernel
theorem dX5_replacePage_20 : decode cX5_replacePage 20 = .ok (.iload_n 2, 1) := by decide +kernel
theorem dX5_replacePage_21 : decode cX5_replacePage 21 = .ok (.ifCond .ne 7, 3) := by decide +kernel
theorem dX5_replacePage_24 : decode cX5_replacePage 24 = .ok (.iconst 1, 1) := by decide +kernel
theorem dX5_replacePage_25 : decode cX5_replacePage 25 = .ok (.goto 4, 3) := by decide +kernel
theorem dX5_replacePage_28 : decode cX5_replacePage 28 = .ok (.iconst 0, 1) := by decide +kernel
theorem dX5_replacePage_29 : decode cX5_replacePage 29 = .ok (.bastore, 1) := by decide +kernel
theorem dX5_replacePage_30 : decode cX5_replacePage 30 = .ok (.iload_n 3, 1) := by decide +kernel
theorem dX5_replacePage_31 : decode cX5_replacePage 31 = .ok (.ireturn, 1) := by decide +kernel
theorem dX5_keep_0 : decode cX5_keep 0 = .ok (.iconst 0, 1) := by decide +kernel
theorem dX5_keep_1 : decode cX5_keep 1 = .ok (.istore_n 1, 1) := by decide +kernel
theorem dX5_keep_2 : decode cX5_keep 2 = .ok (.iload_n 1, 1) := by decide +kernel
theorem dX5_keep_3 : decode cX5_keep 3 = .ok (.aload_n 0, 1) := by decide +kernel
theorem dX5_keep_4 : decode cX5_keep 4 = .ok (.getfield 28, 3) := by decide +kernel
theorem dX5_keep_7 : decode cX5_keep 7 = .ok (.if_icmp .ge 38, 3) := by decide +kernel
theorem dX5_keep_10 : decode cX5_keep 10 = .ok (.aload_n 0, 1) := by decide +kernel
theorem dX5_keep_11 : decode cX5_keep 11 = .ok (.getfield 22, 3) := by decide +kernel
theorem dX5_keep_14 : decode cX5_keep 14 = .ok (.iload_n 1, 1) := by decide +kernel
theorem dX5_keep_15 : decode cX5_keep 15 = .ok (.iaload, 1) := by decide +kernel
theorem dX5_keep_16 : decode cX5_keep 16 = .ok (.bipush 63, 2) := by decide +kernel
theorem dX5_keep_18 : decode cX5_keep 18 = .ok (.iand, 1) := by decide +kernel
theorem dX5_keep_19 : decode cX5_keep 19 = .ok (.istore_n 2, 1) := by decide +kernel
theorem dX5_keep_20 : decode cX5_keep 20 = .ok (.aload_n 0, 1) := by decide +kernel
theorem dX5_keep_21 : decode cX5_keep 21 = .ok (.getfield 15, 3) := by decide +kernel
theorem dX5_keep_24 : decode cX5_keep 24 = .ok (.iload_n 2, 1) := by decide +kernel
theorem dX5_keep_25 : decode cX5_keep 25 = .ok (.aload_n 0, 1) := by decide +kernel
theorem dX5_keep_26 : decode cX5_keep 26 = .ok (.getfield 9, 3) := by decide +kernel
theorem dX5_keep_29 : decode cX5_keep 29 = .ok (.iload_n 2, 1) := by decide +kernel
theorem dX5_keep_30 : decode cX5_keep 30 = .ok (.iaload, 1) := by decide +kernel
theorem dX5_keep_31 : decode cX5_keep 31 = .ok (.iastore, 1) := by decide +kernel
theorem dX5_keep_32 : decode cX5_keep 32 = .ok (.aload_n 0, 1) := by decide +kernel
theorem dX5_keep_33 : decode cX5_keep 33 = .ok (.getfield 25, 3) := by decide +kernel
theorem dX5_keep_36 : decode cX5_keep 36 = .ok (.iload_n 2, 1) := by decide +kernel
theorem dX5_keep_37 : decode cX5_keep 37 = .ok (.iconst 0, 1) := by decide +kernel
theorem dX5_keep_38 : decode cX5_keep 38 = .ok (.bastore, 1) := by decide +kernel
theorem dX5_keep_39 : decode cX5_keep 39 = .ok (.iinc 1 1, 3) := by decide +kernel
theorem dX5_keep_42 : decode cX5_keep 42 = .ok (.goto (-40), 3) := by decide +kernel
theorem dX5_keep_45 : decode cX5_keep 45 = .ok (.aload_n 0, 1) := by decide +kernel
theorem dX5_keep_46 : decode cX5_keep 46 = .ok (.iconst 0, 1) := by decide +kernel
theorem dX5_keep_47 : decode cX5_keep 47 = .ok (.putfield 28, 3) := by decide +kernel
theorem dX5_keep_50 : decode cX5_keep 50 = .ok (.return_, 1) := by decide +kernel
theorem dX5_takeBack_0 : decode cX5_takeBack 0 = .ok (.iconst 0, 1) := by decide +kernel
theorem dX5_takeBack_1 : decode cX5_takeBack 1 = .ok (.istore_n 1, 1) := by decide +kernel
theorem dX5_takeBack_2 : decode cX5_takeBack 2 = .ok (.iload_n 1, 1) := by decide +kernel
theorem dX5_takeBack_3 : decode cX5_takeBack 3 = .ok (.aload_n 0, 1) := by decide +kernel
theorem dX5_takeBack_4 : decode cX5_takeBack 4 = .ok (.getfield 28, 3) := by decide +kernel
theorem dX5_takeBack_7 : decode cX5_takeBack 7 = .ok (.if_icmp .ge 38, 3) := by decide +kernel
theorem dX5_takeBack_10 : decode cX5_takeBack 10 = .ok (.aload_n 0, 1) := by decide +kernel
theorem dX5_takeBack_11 : decode cX5_takeBack 11 = .ok (.getfield 22, 3) := by decide +kernel
theorem dX5_takeBack_14 : decode cX5_takeBack 14 = .ok (.iload_n 1, 1) := by decide +kernel
theorem dX5_takeBack_15 : decode cX5_takeBack 15 = .ok (.iaload, 1) := by decide +kernel
theorem dX5_takeBack_16 : decode cX5_takeBack 16 = .ok (.bipush 63, 2) := by decide +kernel
theorem dX5_takeBack_18 : decode cX5_takeBack 18 = .ok (.iand, 1) := by decide +kernel
theorem dX5_takeBack_19 : decode cX5_takeBack 19 = .ok (.istore_n 2, 1) := by decide +kernel
theorem dX5_takeBack_20 : decode cX5_takeBack 20 = .ok (.aload_n 0, 1) := by decide +kernel
theorem dX5_takeBack_21 : decode cX5_takeBack 21 = .ok (.getfield 9, 3) := by decide +kernel
theorem dX5_takeBack_24 : decode cX5_takeBack 24 = .ok (.iload_n 2, 1) := by decide +kernel
theorem dX5_takeBack_25 : decode cX5_takeBack 25 = .ok (.aload_n 0, 1) := by decide +kernel
theorem dX5_takeBack_26 : decode cX5_takeBack 26 = .ok (.getfield 15, 3) := by decide +kernel
theorem dX5_takeBack_29 : decode cX5_takeBack 29 = .ok (.iload_n 2, 1) := by decide +kernel
theorem dX5_takeBack_30 : decode cX5_takeBack 30 = .ok (.iaload, 1) := by decide +kernel
theorem dX5_takeBack_31 : decode cX5_takeBack 31 = .ok (.iastore, 1) := by decide +kernel
theorem dX5_takeBack_32 : decode cX5_takeBack 32 = .ok (.aload_n 0, 1) := by decide +kernel
theorem dX5_takeBack_33 : decode cX5_takeBack 33 = .ok (.getfield 25, 3) := by decide +kernel
theorem dX5_takeBack_36 : decode cX5_takeBack 36 = .ok (.iload_n 2, 1) := by decide +kernel
theorem dX5_takeBack_37 : decode cX5_takeBack 37 = .ok (.iconst 0, 1) := by decide +kernel
theorem dX5_takeBack_38 : decode cX5_takeBack 38 = .ok (.bastore, 1) := by decide +kernel
theorem dX5_takeBack_39 : decode cX5_takeBack 39 = .ok (.iinc 1 1, 3) := by decide +kernel
theorem dX5_takeBack_42 : decode cX5_takeBack 42 = .ok (.goto (-40), 3) := by decide +kernel
theorem dX5_takeBack_45 : decode cX5_takeBack 45 = .ok (.aload_n 0, 1) := by decide +kernel
theorem dX5_takeBack_46 : decode cX5_takeBack 46 = .ok (.iconst 0, 1) := by decide +kernel
theorem dX5_takeBack_47 : decode cX5_takeBack 47 = .ok (.putfield 28, 3) := by decide +kernel
theorem dX5_takeBack_50 : decode cX5_takeBack 50 = .ok (.return_, 1) := by decide +kernel
theorem dX5_isKeptBut_0 : decode cX5_isKeptBut 0 = .ok (.iload_n 1, 1) := by decide +kernel
theorem dX5_isKeptBut_1 : decode cX5_isKeptBut 1 = .ok (.iconst (-1), 1) := by decide +kernel
theorem dX5_isKeptBut_2 : decode cX5_isKeptBut 2 = .ok (.if_icmp .eq 14, 3) := by decide +kernel
theorem dX5_isKeptBut_5 : decode cX5_isKeptBut 5 = .ok (.aload_n 0, 1) := by decide +kernel
theorem dX5_isKeptBut_6 : decode cX5_isKeptBut 6 = .ok (.iload_n 1, 1) := by decide +kernel
theorem dX5_isKeptBut_7 : decode cX5_isKeptBut 7 = .ok (.invokevirtual 36, 3) := by decide +kernel
theorem dX5_isKeptBut_10 : decode cX5_isKeptBut 10 = .ok (.iload_n 2, 1) := by decide +kernel
theorem dX5_isKeptBut_11 : decode cX5_isKeptBut 11 = .ok (.if_icmp .eq 5, 3) := by decide +kernel
theorem dX5_isKeptBut_14 : decode cX5_isKeptBut 14 = .ok (.iconst 0, 1) := by decide +kernel
theorem dX5_isKeptBut_15 : decode cX5_isKeptBut 15 = .ok (.ireturn, 1) := by decide +kernel
theorem dX5_isKeptBut_16 : decode cX5_isKeptBut 16 = .ok (.iconst 0, 1) := by decide +kernel
theorem dX5_isKeptBut_17 : decode cX5_isKeptBut 17 = .ok (.istore_n 3, 1) := by decide +kernel
theorem dX5_isKeptBut_18 : decode cX5_isKeptBut 18 = .ok (.iload_n 3, 1) := by decide +kernel
theorem dX5_isKeptBut_19 : decode cX5_isKeptBut 19 = .ok (.aload_n 0, 1) := by decide +kernel
theorem dX5_isKeptBut_20 : decode cX5_isKeptBut 20 = .ok (.getfield 28, 3) := by decide +kernel
theorem dX5_isKeptBut_23 : decode cX5_isKeptBut 23 = .ok (.if_icmp .ge 45, 3) := by decide +kernel
theorem dX5_isKeptBut_26 : decode cX5_isKeptBut 26 = .ok (.aload_n 0, 1) := by decide +kernel
theorem dX5_isKeptBut_27 : decode cX5_isKeptBut 27 = .ok (.getfield 22, 3) := by decide +kernel
theorem dX5_isKeptBut_30 : decode cX5_isKeptBut 30 = .ok (.iload_n 3, 1) := by decide +kernel
theorem dX5_isKeptBut_31 : decode cX5_isKeptBut 31 = .ok (.iaload, 1) := by decide +kernel
theorem dX5_isKeptBut_32 : decode cX5_isKeptBut 32 = .ok (.bipush 63, 2) := by decide +kernel
theorem dX5_isKeptBut_34 : decode cX5_isKeptBut 34 = .ok (.iand, 1) := by decide +kernel
theorem dX5_isKeptBut_35 : decode cX5_isKeptBut 35 = .ok (.istore 4, 2) := by decide +kernel
theorem dX5_isKeptBut_37 : decode cX5_isKeptBut 37 = .ok (.iload 4, 2) := by decide +kernel
theorem dX5_isKeptBut_39 : decode cX5_isKeptBut 39 = .ok (.iload_n 1, 1) := by decide +kernel
theorem dX5_isKeptBut_40 : decode cX5_isKeptBut 40 = .ok (.if_icmp .eq 22, 3) := by decide +kernel
theorem dX5_isKeptBut_43 : decode cX5_isKeptBut 43 = .ok (.aload_n 0, 1) := by decide +kernel
theorem dX5_isKeptBut_44 : decode cX5_isKeptBut 44 = .ok (.getfield 9, 3) := by decide +kernel
theorem dX5_isKeptBut_47 : decode cX5_isKeptBut 47 = .ok (.iload 4, 2) := by decide +kernel
theorem dX5_isKeptBut_49 : decode cX5_isKeptBut 49 = .ok (.iaload, 1) := by decide +kernel
theorem dX5_isKeptBut_50 : decode cX5_isKeptBut 50 = .ok (.aload_n 0, 1) := by decide +kernel
theorem dX5_isKeptBut_51 : decode cX5_isKeptBut 51 = .ok (.getfield 15, 3) := by decide +kernel
theorem dX5_isKeptBut_54 : decode cX5_isKeptBut 54 = .ok (.iload 4, 2) := by decide +kernel
theorem dX5_isKeptBut_56 : decode cX5_isKeptBut 56 = .ok (.iaload, 1) := by decide +kernel
theorem dX5_isKeptBut_57 : decode cX5_isKeptBut 57 = .ok (.if_icmp .eq 5, 3) := by decide +kernel
theorem dX5_isKeptBut_60 : decode cX5_isKeptBut 60 = .ok (.iconst 0, 1) := by decide +kernel
theorem dX5_isKeptBut_61 : decode cX5_isKeptBut 61 = .ok (.ireturn, 1) := by decide +kernel
theorem dX5_isKeptBut_62 : decode cX5_isKeptBut 62 = .ok (.iinc 3 1, 3) := by decide +kernel
theorem dX5_isKeptBut_65 : decode cX5_isKeptBut 65 = .ok (.goto (-47), 3) := by decide +kernel
theorem dX5_isKeptBut_68 : decode cX5_isKeptBut 68 = .ok (.iconst 1, 1) := by decide +kernel
theorem dX5_isKeptBut_69 : decode cX5_isKeptBut 69 = .ok (.ireturn, 1) := by decide +kernel
theorem dX6_init_0 : decode cX6_init 0 = .ok (.aload_n 0, 1) := by decide +kernel
theorem dX6_init_1 : decode cX6_init 1 = .ok (.invokespecial 3, 3) := by decide +kernel
theorem dX6_init_4 : decode cX6_init 4 = .ok (.aload_n 0, 1) := by decide +kernel
theorem dX6_init_5 : decode cX6_init 5 = .ok (.new 9, 3) := by decide +kernel
theorem dX6_init_8 : decode cX6_init 8 = .ok (.dup, 1) := by decide +kernel
theorem dX6_init_9 : decode cX6_init 9 = .ok (.invokespecial 11, 3) := by decide +kernel
theorem dX6_init_12 : decode cX6_init 12 = .ok (.putfield 12, 3) := by decide +kernel
theorem dX6_init_15 : decode cX6_init 15 = .ok (.aload_n 0, 1) := by decide +kernel
theorem dX6_init_16 : decode cX6_init 16 = .ok (.new 9, 3) := by decide +kernel
theorem dX6_init_19 : decode cX6_init 19 = .ok (.dup, 1) := by decide +kernel
theorem dX6_init_20 : decode cX6_init 20 = .ok (.invokespecial 11, 3) := by decide +kernel
theorem dX6_init_23 : decode cX6_init 23 = .ok (.putfield 18, 3) := by decide +kernel
theorem dX6_init_26 : decode cX6_init 26 = .ok (.aload_n 0, 1) := by decide +kernel
theorem dX6_init_27 : decode cX6_init 27 = .ok (.new 21, 3) := by decide +kernel
theorem dX6_init_30 : decode cX6_init 30 = .ok (.dup, 1) := by decide +kernel
theorem dX6_init_31 : decode cX6_init 31 = .ok (.invokespecial 23, 3) := by decide +kernel
theorem dX6_init_34 : decode cX6_init 34 = .ok (.putfield 24, 3) := by decide +kernel
theorem dX6_init_37 : decode cX6_init 37 = .ok (.aload_n 0, 1) := by decide +kernel
theorem dX6_init_38 : decode cX6_init 38 = .ok (.new 28, 3) := by decide +kernel
theorem dX6_init_41 : decode cX6_init 41 = .ok (.dup, 1) := by decide +kernel
theorem dX6_init_42 : decode cX6_init 42 = .ok (.invokespecial 30, 3) := by decide +kernel
theorem dX6_init_45 : decode cX6_init 45 = .ok (.putfield 31, 3) := by decide +kernel
theorem dX6_init_48 : decode cX6_init 48 = .ok (.aload_n 0, 1) := by decide +kernel
theorem dX6_init_49 : decode cX6_init 49 = .ok (.new 35, 3) := by decide +kernel
theorem dX6_init_52 : decode cX6_init 52 = .ok (.dup, 1) := by decide +kernel
theorem dX6_init_53 : decode cX6_init 53 = .ok (.invokespecial 37, 3) := by decide +kernel
theorem dX6_init_56 : decode cX6_init 56 = .ok (.putfield 38, 3) := by decide +kernel
theorem dX6_init_59 : decode cX6_init 59 = .ok (.aload_n 0, 1) := by decide +kernel
theorem dX6_init_60 : decode cX6_init 60 = .ok (.iconst 4, 1) := by decide +kernel
theorem dX6_init_61 : decode cX6_init 61 = .ok (.newarray .int, 2) := by decide +kernel
theorem dX6_init_63 : decode cX6_init 63 = .ok (.putfield 42, 3) := by decide +kernel
theorem dX6_init_66 : decode cX6_init 66 = .ok (.aload_n 0, 1) := by decide +kernel
theorem dX6_init_67 : decode cX6_init 67 = .ok (.bipush 114, 2) := by decide +kernel
theorem dX6_init_69 : decode cX6_init 69 = .ok (.putfield 46, 3) := by decide +kernel
theorem dX6_init_72 : decode cX6_init 72 = .ok (.aload_n 0, 1) := by decide +kernel
theorem dX6_init_73 : decode cX6_init 73 = .ok (.iconst (-1), 1) := by decide +kernel
theorem dX6_init_74 : decode cX6_init 74 = .ok (.putfield 50, 3) := by decide +kernel
theorem dX6_init_77 : decode cX6_init 77 = .ok (.aload_n 0, 1) := by decide +kernel
theorem dX6_init_78 : decode cX6_init 78 = .ok (.bipush 48, 2) := by decide +kernel
theorem dX6_init_80 : decode cX6_init 80 = .ok (.putfield 54, 3) := by decide +kernel
theorem dX6_init_83 : decode cX6_init 83 = .ok (.aload_n 0, 1) := by decide +kernel
theorem dX6_init_84 : decode cX6_init 84 = .ok (.aload_n 1, 1) := by decide +kernel
theorem dX6_init_85 : decode cX6_init 85 = .ok (.putfield 57, 3) := by decide +kernel
theorem dX6_init_88 : decode cX6_init 88 = .ok (.aload_n 0, 1) := by decide +kernel
theorem dX6_init_89 : decode cX6_init 89 = .ok (.aload_n 2, 1) := by decide +kernel
theorem dX6_init_90 : decode cX6_init 90 = .ok (.putfield 61, 3) := by decide +kernel
theorem dX6_init_93 : decode cX6_init 93 = .ok (.aload_n 0, 1) := by decide +kernel
theorem dX6_init_94 : decode cX6_init 94 = .ok (.aload_n 3, 1) := by decide +kernel
theorem dX6_init_95 : decode cX6_init 95 = .ok (.putfield 65, 3) := by decide +kernel
theorem dX6_init_98 : decode cX6_init 98 = .ok (.return_, 1) := by decide +kernel
theorem dX6_replaceRegister_0 : decode cX6_replaceRegister 0 = .ok (.aload_n 0, 1) := by decide +kernel
theorem dX6_replaceRegister_1 : decode cX6_replaceRegister 1 = .ok (.getfield 12, 3) := by decide +kernel
theorem dX6_replaceRegister_4 : decode cX6_replaceRegister 4 = .ok (.getfield 69, 3) := by decide +kernel
theorem dX6_replaceRegister_7 : decode cX6_replaceRegister 7 = .ok (.iload_n 1, 1) := by decide +kernel
theorem dX6_replaceRegister_8 : decode cX6_replaceRegister 8 = .ok (.iaload, 1) := by decide +kernel
theorem dX6_replaceRegister_9 : decode cX6_replaceRegister 9 = .ok (.istore_n 3, 1) := by decide +kernel
theorem dX6_replaceRegister_10 : decode cX6_replaceRegister 10 = .ok (.aload_n 0, 1) := by decide +kernel
theorem dX6_replaceRegister_11 : decode cX6_replaceRegister 11 = .ok (.getfield 12, 3) := by decide +kernel
theorem dX6_replaceRegister_14 : decode cX6_replaceRegister 14 = .ok (.getfield 69, 3) := by decide +kernel
theorem dX6_replaceRegister_17 : decode cX6_replaceRegister 17 = .ok (.iload_n 1, 1) := by decide +kernel
theorem dX6_replaceRegister_18 : decode cX6_replaceRegister 18 = .ok (.iload_n 2, 1) := by decide +kernel
theorem dX6_replaceRegister_19 : decode cX6_replaceRegister 19 = .ok (.iastore, 1) := by decide +kernel
theorem dX6_replaceRegister_20 : decode cX6_replaceRegister 20 = .ok (.aload_n 0, 1) := by decide +kernel
theorem dX6_replaceRegister_21 : decode cX6_replaceRegister 21 = .ok (.getfield 18, 3) := by decide +kernel
theorem dX6_replaceRegister_24 : decode cX6_replaceRegister 24 = .ok (.getfield 69, 3) := by decide +kernel
theorem dX6_replaceRegister_27 : decode cX6_replaceRegister 27 = .ok (.iload_n 1, 1) := by decide +kernel
theorem dX6_replaceRegister_28 : decode cX6_replaceRegister 28 = .ok (.iload_n 2, 1) := by decide +kernel
theorem dX6_replaceRegister_29 : decode cX6_replaceRegister 29 = .ok (.iastore, 1) := by decide +kernel
theorem dX6_replaceRegister_30 : decode cX6_replaceRegister 30 = .ok (.iload_n 3, 1) := by decide +kernel
theorem dX6_replaceRegister_31 : decode cX6_replaceRegister 31 = .ok (.ireturn, 1) := by decide +kernel
theorem dX6_startAt_0 : decode cX6_startAt 0 = .ok (.aload_n 0, 1) := by decide +kernel
theorem dX6_startAt_1 : decode cX6_startAt 1 = .ok (.getfield 12, 3) := by decide +kernel
theorem dX6_startAt_4 : decode cX6_startAt 4 = .ok (.getfield 72, 3) := by decide +kernel
theorem dX6_startAt_7 : decode cX6_startAt 7 = .ok (.istore 4, 2) := by decide +kernel
theorem dX6_startAt_9 : decode cX6_startAt 9 = .ok (.aload_n 0, 1) := by decide +kernel
theorem dX6_startAt_10 : decode cX6_startAt 10 = .ok (.getfield 12, 3) := by decide +kernel
theorem dX6_startAt_13 : decode cX6_startAt 13 = .ok (.iload_n 1, 1) := by decide +kernel
theorem dX6_startAt_14 : decode cX6_startAt 14 = .ok (.putfield 72, 3) := by decide +kernel
theorem dX6_startAt_17 : decode cX6_startAt 17 = .ok (.aload_n 0, 1) := by decide +kernel
theorem dX6_startAt_18 : decode cX6_startAt 18 = .ok (.getfield 12, 3) := by decide +kernel
theorem dX6_startAt_21 : decode cX6_startAt 21 = .ok (.iload_n 2, 1) := by decide +kernel
theorem dX6_startAt_22 : decode cX6_startAt 22 = .ok (.putfield 75, 3) := by decide +kernel
theorem dX6_startAt_25 : decode cX6_startAt 25 = .ok (.aload_n 0, 1) := by decide +kernel
theorem dX6_startAt_26 : decode cX6_startAt 26 = .ok (.getfield 12, 3) := by decide +kernel
theorem dX6_startAt_29 : decode cX6_startAt 29 = .ok (.iload_n 3, 1) := by decide +kernel
theorem dX6_startAt_30 : decode cX6_startAt 30 = .ok (.putfield 78, 3) := by decide +kernel
theorem dX6_startAt_33 : decode cX6_startAt 33 = .ok (.aload_n 0, 1) := by decide +kernel
theorem dX6_startAt_34 : decode cX6_startAt 34 = .ok (.getfield 18, 3) := by decide +kernel
theorem dX6_startAt_37 : decode cX6_startAt 37 = .ok (.aload_n 0, 1) := by decide +kernel
theorem dX6_startAt_38 : decode cX6_startAt 38 = .ok (.getfield 12, 3) := by decide +kernel
theorem dX6_startAt_41 : decode cX6_startAt 41 = .ok (.invokevirtual 81, 3) := by decide +kernel
theorem dX6_startAt_44 : decode cX6_startAt 44 = .ok (.iload 4, 2) := by decide +kernel
theorem dX6_startAt_46 : decode cX6_startAt 46 = .ok (.ireturn, 1) := by decide +kernel
theorem dX6_pageCame_0 : decode cX6_pageCame 0 = .ok (.aload_n 0, 1) := by decide +kernel
theorem dX6_pageCame_1 : decode cX6_pageCame 1 = .ok (.getfield 46, 3) := by decide +kernel
theorem dX6_pageCame_4 : decode cX6_pageCame 4 = .ok (.bipush 119, 2) := by decide +kernel
theorem dX6_pageCame_6 : decode cX6_pageCame 6 = .ok (.if_icmp .ne 22, 3) := by decide +kernel
theorem dX6_pageCame_9 : decode cX6_pageCame 9 = .ok (.aload_n 0, 1) := by decide +kernel
theorem dX6_pageCame_10 : decode cX6_pageCame 10 = .ok (.getfield 50, 3) := by decide +kernel
theorem dX6_pageCame_13 : decode cX6_pageCame 13 = .ok (.iload_n 1, 1) := by decide +kernel
theorem dX6_pageCame_14 : decode cX6_pageCame 14 = .ok (.if_icmp .ne 14, 3) := by decide +kernel
theorem dX6_pageCame_17 : decode cX6_pageCame 17 = .ok (.aload_n 0, 1) := by decide +kernel
theorem dX6_pageCame_18 : decode cX6_pageCame 18 = .ok (.bipush 114, 2) := by decide +kernel
theorem dX6_pageCame_20 : decode cX6_pageCame 20 = .ok (.putfield 46, 3) := by decide +kernel
theorem dX6_pageCame_23 : decode cX6_pageCame 23 = .ok (.aload_n 0, 1) := by decide +kernel
theorem dX6_pageCame_24 : decode cX6_pageCame 24 = .ok (.iconst (-1), 1) := by decide +kernel
theorem dX6_pageCame_25 : decode cX6_pageCame 25 = .ok (.putfield 50, 3) := by decide +kernel
theorem dX6_pageCame_28 : decode cX6_pageCame 28 = .ok (.return_, 1) := by decide +kernel
theorem dX6_comeBack_0 : decode cX6_comeBack 0 = .ok (.aload_n 0, 1) := by decide +kernel
theorem dX6_comeBack_1 : decode cX6_comeBack 1 = .ok (.getfield 46, 3) := by decide +kernel
theorem dX6_comeBack_4 : decode cX6_comeBack 4 = .ok (.bipush 108, 2) := by decide +kernel
theorem dX6_comeBack_6 : decode cX6_comeBack 6 = .ok (.if_icmp .ne 9, 3) := by decide +kernel
theorem dX6_comeBack_9 : decode cX6_comeBack 9 = .ok (.aload_n 0, 1) := by decide +kernel
theorem dX6_comeBack_10 : decode cX6_comeBack 10 = .ok (.bipush 114, 2) := by decide +kernel
theorem dX6_comeBack_12 : decode cX6_comeBack 12 = .ok (.putfield 46, 3) := by decide +kernel
theorem dX6_comeBack_15 : decode cX6_comeBack 15 = .ok (.return_, 1) := by decide +kernel
theorem dX6_advance_0 : decode cX6_advance 0 = .ok (.aload_n 0, 1) := by decide +kernel
theorem dX6_advance_1 : decode cX6_advance 1 = .ok (.getfield 46, 3) := by decide +kernel
theorem dX6_advance_4 : decode cX6_advance 4 = .ok (.bipush 114, 2) := by decide +kernel
theorem dX6_advance_6 : decode cX6_advance 6 = .ok (.if_icmp .eq 5, 3) := by decide +kernel
theorem dX6_advance_9 : decode cX6_advance 9 = .ok (.iconst 0, 1) := by decide +kernel
theorem dX6_advance_10 : decode cX6_advance 10 = .ok (.ireturn, 1) := by decide +kernel
theorem dX6_advance_11 : decode cX6_advance 11 = .ok (.aload_n 0, 1) := by decide +kernel
theorem dX6_advance_12 : decode cX6_advance 12 = .ok (.getfield 57, 3) := by decide +kernel
theorem dX6_advance_15 : decode cX6_advance 15 = .ok (.aload_n 0, 1) := by decide +kernel
theorem dX6_advance_16 : decode cX6_advance 16 = .ok (.getfield 85, 3) := by decide +kernel
theorem dX6_advance_19 : decode cX6_advance 19 = .ok (.invokevirtual 88, 3) := by decide +kernel
theorem dX6_advance_22 : decode cX6_advance 22 = .ok (.astore_n 1, 1) := by decide +kernel
theorem dX6_advance_23 : decode cX6_advance 23 = .ok (.aload_n 1, 1) := by decide +kernel
theorem dX6_advance_24 : decode cX6_advance 24 = .ok (.ifnonnull 15, 3) := by decide +kernel
theorem dX6_advance_27 : decode cX6_advance 27 = .ok (.aload_n 0, 1) := by decide +kernel
theorem dX6_advance_28 : decode cX6_advance 28 = .ok (.invokevirtual 94, 3) := by decide +kernel
theorem dX6_advance_31 : decode cX6_advance 31 = .ok (.aload_n 0, 1) := by decide +kernel
theorem dX6_advance_32 : decode cX6_advance 32 = .ok (.bipush 108, 2) := by decide +kernel
theorem dX6_advance_34 : decode cX6_advance 34 = .ok (.putfield 46, 3) := by decide +kernel
theorem dX6_advance_37 : decode cX6_advance 37 = .ok (.iconst 0, 1) := by decide +kernel
theorem dX6_advance_38 : decode cX6_advance 38 = .ok (.ireturn, 1) := by decide +kernel
theorem dX6_advance_39 : decode cX6_advance 39 = .ok (.aload_n 0, 1) := by decide +kernel
theorem dX6_advance_40 : decode cX6_advance 40 = .ok (.iconst 1, 1) := by decide +kernel
theorem dX6_advance_41 : decode cX6_advance 41 = .ok (.putfield 97, 3) := by decide +kernel
theorem dX6_advance_44 : decode cX6_advance 44 = .ok (.aload_n 0, 1) := by decide +kernel
theorem dX6_advance_45 : decode cX6_advance 45 = .ok (.aload_n 1, 1) := by decide +kernel
theorem dX6_advance_46 : decode cX6_advance 46 = .ok (.invokevirtual 101, 3) := by decide +kernel
theorem dX6_advance_49 : decode cX6_advance 49 = .ok (.istore_n 2, 1) := by decide +kernel
theorem dX6_advance_50 : decode cX6_advance 50 = .ok (.aload_n 1, 1) := by decide +kernel
theorem dX6_advance_51 : decode cX6_advance 51 = .ok (.getfield 105, 3) := by decide +kernel
theorem dX6_advance_54 : decode cX6_advance 54 = .ok (.aload_n 0, 1) := by decide +kernel
theorem dX6_advance_55 : decode cX6_advance 55 = .ok (.getfield 24, 3) := by decide +kernel
theorem dX6_advance_58 : decode cX6_advance 58 = .ok (.getfield 110, 3) := by decide +kernel
theorem dX6_advance_61 : decode cX6_advance 61 = .ok (.iload_n 2, 1) := by decide +kernel
theorem dX6_advance_62 : decode cX6_advance 62 = .ok (.invokestatic 113, 3) := by decide +kernel
theorem dX6_advance_65 : decode cX6_advance 65 = .ok (.istore_n 3, 1) := by decide +kernel
theorem dX6_advance_66 : decode cX6_advance 66 = .ok (.aload_n 1, 1) := by decide +kernel
theorem dX6_advance_67 : decode cX6_advance 67 = .ok (.getfield 117, 3) := by decide +kernel
theorem dX6_advance_70 : decode cX6_advance 70 = .ok (.ifCond .eq 22, 3) := by decide +kernel
theorem dX6_advance_73 : decode cX6_advance 73 = .ok (.aload_n 0, 1) := by decide +kernel
theorem dX6_advance_74 : decode cX6_advance 74 = .ok (.getfield 31, 3) := by decide +kernel
theorem dX6_advance_77 : decode cX6_advance 77 = .ok (.aload_n 1, 1) := by decide +kernel
theorem dX6_advance_78 : decode cX6_advance 78 = .ok (.getfield 105, 3) := by decide +kernel
theorem dX6_advance_81 : decode cX6_advance 81 = .ok (.aload_n 0, 1) := by decide +kernel
theorem dX6_advance_82 : decode cX6_advance 82 = .ok (.getfield 24, 3) := by decide +kernel
theorem dX6_advance_85 : decode cX6_advance 85 = .ok (.getfield 110, 3) := by decide +kernel
theorem dX6_advance_88 : decode cX6_advance 88 = .ok (.iload_n 2, 1) := by decide +kernel
theorem dX6_advance_89 : decode cX6_advance 89 = .ok (.invokevirtual 120, 3) := by decide +kernel
theorem dX6_advance_92 : decode cX6_advance 92 = .ok (.aload_n 0, 1) := by decide +kernel
theorem dX6_advance_93 : decode cX6_advance 93 = .ok (.aload_n 1, 1) := by decide +kernel
theorem dX6_advance_94 : decode cX6_advance 94 = .ok (.getfield 124, 3) := by decide +kernel
theorem dX6_advance_97 : decode cX6_advance 97 = .ok (.iload_n 3, 1) := by decide +kernel
theorem dX6_advance_98 : decode cX6_advance 98 = .ok (.invokevirtual 127, 3) := by decide +kernel
theorem dX6_advance_101 : decode cX6_advance 101 = .ok (.aload_n 0, 1) := by decide +kernel
theorem dX6_advance_102 : decode cX6_advance 102 = .ok (.getfield 65, 3) := by decide +kernel
theorem dX6_advance_105 : decode cX6_advance 105 = .ok (.dup, 1) := by decide +kernel
theorem dX6_advance_106 : decode cX6_advance 106 = .ok (.getfield 131, 3) := by decide +kernel
theorem dX6_advance_109 : decode cX6_advance 109 = .ok (.aload_n 1, 1) := by decide +kernel
theorem dX6_advance_110 : decode cX6_advance 110 = .ok (.getfield 137, 3) := by decide +kernel
theorem dX6_advance_113 : decode cX6_advance 113 = .ok (.ifCond .ne 7, 3) := by decide +kernel
theorem dX6_advance_116 : decode cX6_advance 116 = .ok (.lconst 1, 1) := by decide +kernel
theorem dX6_advance_117 : decode cX6_advance 117 = .ok (.goto 10, 3) := by decide +kernel
theorem dX6_advance_120 : decode cX6_advance 120 = .ok (.iconst 1, 1) := by decide +kernel
theorem dX6_advance_121 : decode cX6_advance 121 = .ok (.aload_n 0, 1) := by decide +kernel
theorem dX6_advance_122 : decode cX6_advance 122 = .ok (.getfield 139, 3) := by decide +kernel
theorem dX6_advance_125 : decode cX6_advance 125 = .ok (.iadd, 1) := by decide +kernel
theorem dX6_advance_126 : decode cX6_advance 126 = .ok (.i2l, 1) := by decide +kernel
theorem dX6_advance_127 : decode cX6_advance 127 = .ok (.ladd, 1) := by decide +kernel
theorem dX6_advance_128 : decode cX6_advance 128 = .ok (.putfield 131, 3) := by decide +kernel
theorem dX6_advance_131 : decode cX6_advance 131 = .ok (.aload_n 1, 1) := by decide +kernel
theorem dX6_advance_132 : decode cX6_advance 132 = .ok (.getfield 137, 3) := by decide +kernel
theorem dX6_advance_135 : decode cX6_advance 135 = .ok (.ifCond .eq 26, 3) := by decide +kernel
theorem dX6_advance_138 : decode cX6_advance 138 = .ok (.aload_n 0, 1) := by decide +kernel
theorem dX6_advance_139 : decode cX6_advance 139 = .ok (.getfield 61, 3) := by decide +kernel
theorem dX6_advance_142 : decode cX6_advance 142 = .ok (.aload_n 0, 1) := by decide +kernel
theorem dX6_advance_143 : decode cX6_advance 143 = .ok (.getfield 24, 3) := by decide +kernel
theorem dX6_advance_146 : decode cX6_advance 146 = .ok (.getfield 142, 3) := by decide +kernel
theorem dX6_advance_149 : decode cX6_advance 149 = .ok (.invokevirtual 145, 3) := by decide +kernel
theorem dX6_advance_152 : decode cX6_advance 152 = .ok (.ifCond .eq 9, 3) := by decide +kernel
theorem dX6_advance_155 : decode cX6_advance 155 = .ok (.aload_n 0, 1) := by decide +kernel
theorem dX6_advance_156 : decode cX6_advance 156 = .ok (.invokevirtual 151, 3) := by decide +kernel
theorem dX6_advance_159 : decode cX6_advance 159 = .ok (.iconst 1, 1) := by decide +kernel
theorem dX6_advance_160 : decode cX6_advance 160 = .ok (.ireturn, 1) := by decide +kernel
theorem dX6_advance_161 : decode cX6_advance 161 = .ok (.aload_n 0, 1) := by decide +kernel
theorem dX6_advance_162 : decode cX6_advance 162 = .ok (.aload_n 1, 1) := by decide +kernel
theorem dX6_advance_163 : decode cX6_advance 163 = .ok (.getfield 137, 3) := by decide +kernel
theorem dX6_advance_166 : decode cX6_advance 166 = .ok (.invokevirtual 154, 3) := by decide +kernel
theorem dX6_advance_169 : decode cX6_advance 169 = .ok (.ldc 158, 2) := by decide +kernel
theorem dX6_advance_171 : decode cX6_advance 171 = .ok (.aload_n 1, 1) := by decide +kernel
theorem dX6_advance_172 : decode cX6_advance 172 = .ok (.getfield 160, 3) := by decide +kernel
theorem dX6_advance_175 : decode cX6_advance 175 = .ok (.invokevirtual 163, 3) := by decide +kernel
theorem dX6_advance_178 : decode cX6_advance 178 = .ok (.ifCond .lt 19, 3) := by decide +kernel
theorem dX6_advance_181 : decode cX6_advance 181 = .ok (.aload_n 0, 1) := by decide +kernel
theorem dX6_advance_182 : decode cX6_advance 182 = .ok (.aload_n 1, 1) := by decide +kernel
theorem dX6_advance_183 : decode cX6_advance 183 = .ok (.getfield 160, 3) := by decide +kernel
theorem dX6_advance_186 : decode cX6_advance 186 = .ok (.iload_n 3, 1) := by decide +kernel
theorem dX6_advance_187 : decode cX6_advance 187 = .ok (.invokevirtual 169, 3) := by decide +kernel
theorem dX6_advance_190 : decode cX6_advance 190 = .ok (.aload_n 0, 1) := by decide +kernel
theorem dX6_advance_191 : decode cX6_advance 191 = .ok (.invokevirtual 173, 3) := by decide +kernel
theorem dX6_advance_194 : decode cX6_advance 194 = .ok (.goto 8, 3) := by decide +kernel
theorem dX6_advance_197 : decode cX6_advance 197 = .ok (.aload_n 0, 1) := by decide +kernel
theorem dX6_advance_198 : decode cX6_advance 198 = .ok (.aload_n 1, 1) := by decide +kernel
theorem dX6_advance_199 : decode cX6_advance 199 = .ok (.invokevirtual 176, 3) := by decide +kernel
theorem dX6_advance_202 : decode cX6_advance 202 = .ok (.iconst 1, 1) := by decide +kernel
theorem dX6_advance_203 : decode cX6_advance 203 = .ok (.ireturn, 1) := by decide +kernel
theorem dX6_driveBus_0 : decode cX6_driveBus 0 = .ok (.aload_n 1, 1) := by decide +kernel
theorem dX6_driveBus_1 : decode cX6_driveBus 1 = .ok (.getfield 180, 3) := by decide +kernel
theorem dX6_driveBus_4 : decode cX6_driveBus 4 = .ok (.istore_n 2, 1) := by decide +kernel
theorem dX6_driveBus_5 : decode cX6_driveBus 5 = .ok (.iload_n 2, 1) := by decide +kernel
theorem dX6_driveBus_6 : decode cX6_driveBus 6 = .ok (.ifCond .ne 7, 3) := by decide +kernel
theorem dX6_driveBus_9 : decode cX6_driveBus 9 = .ok (.iconst 0, 1) := by decide +kernel
theorem dX6_driveBus_10 : decode cX6_driveBus 10 = .ok (.goto 6, 3) := by decide +kernel
theorem dX6_driveBus_13 : decode cX6_driveBus 13 = .ok (.sipush 255, 3) := by decide +kernel
theorem dX6_driveBus_16 : decode cX6_driveBus 16 = .ok (.istore_n 3, 1) := by decide +kernel
theorem dX6_driveBus_17 : decode cX6_driveBus 17 = .ok (.iload_n 3, 1) := by decide +kernel
theorem dX6_driveBus_18 : decode cX6_driveBus 18 = .ok (.iload_n 2, 1) := by decide +kernel
theorem dX6_driveBus_19 : decode cX6_driveBus 19 = .ok (.iconst 1, 1) := by decide +kernel
theorem dX6_driveBus_20 : decode cX6_driveBus 20 = .ok (.iand, 1) := by decide +kernel
theorem dX6_driveBus_21 : decode cX6_driveBus 21 = .ok (.ifCond .eq 13, 3) := by decide +kernel
theorem dX6_driveBus_24 : decode cX6_driveBus 24 = .ok (.aload_n 0, 1) := by decide +kernel
theorem dX6_driveBus_25 : decode cX6_driveBus 25 = .ok (.getfield 24, 3) := by decide +kernel
theorem dX6_driveBus_28 : decode cX6_driveBus 28 = .ok (.getfield 110, 3) := by decide +kernel
theorem dX6_driveBus_31 : decode cX6_driveBus 31 = .ok (.goto 4, 3) := by decide +kernel
theorem dX6_driveBus_34 : decode cX6_driveBus 34 = .ok (.iload_n 3, 1) := by decide +kernel
theorem dX6_driveBus_35 : decode cX6_driveBus 35 = .ok (.iand, 1) := by decide +kernel
theorem dX6_driveBus_36 : decode cX6_driveBus 36 = .ok (.istore_n 3, 1) := by decide +kernel
theorem dX6_driveBus_37 : decode cX6_driveBus 37 = .ok (.iload_n 3, 1) := by decide +kernel
theorem dX6_driveBus_38 : decode cX6_driveBus 38 = .ok (.iload_n 2, 1) := by decide +kernel
theorem dX6_driveBus_39 : decode cX6_driveBus 39 = .ok (.iconst 2, 1) := by decide +kernel
theorem dX6_driveBus_40 : decode cX6_driveBus 40 = .ok (.iand, 1) := by decide +kernel
theorem dX6_driveBus_41 : decode cX6_driveBus 41 = .ok (.ifCond .eq 13, 3) := by decide +kernel
theorem dX6_driveBus_44 : decode cX6_driveBus 44 = .ok (.aload_n 0, 1) := by decide +kernel
theorem dX6_driveBus_45 : decode cX6_driveBus 45 = .ok (.getfield 24, 3) := by decide +kernel
theorem dX6_driveBus_48 : decode cX6_driveBus 48 = .ok (.getfield 183, 3) := by decide +kernel
theorem dX6_driveBus_51 : decode cX6_driveBus 51 = .ok (.goto 4, 3) := by decide +kernel
theorem dX6_driveBus_54 : decode cX6_driveBus 54 = .ok (.iload_n 3, 1) := by decide +kernel
theorem dX6_driveBus_55 : decode cX6_driveBus 55 = .ok (.iand, 1) := by decide +kernel
theorem dX6_driveBus_56 : decode cX6_driveBus 56 = .ok (.istore_n 3, 1) := by decide +kernel
theorem dX6_driveBus_57 : decode cX6_driveBus 57 = .ok (.iload_n 3, 1) := by decide +kernel
theorem dX6_driveBus_58 : decode cX6_driveBus 58 = .ok (.iload_n 2, 1) := by decide +kernel
theorem dX6_driveBus_59 : decode cX6_driveBus 59 = .ok (.iconst 4, 1) := by decide +kernel
theorem dX6_driveBus_60 : decode cX6_driveBus 60 = .ok (.iand, 1) := by decide +kernel
theorem dX6_driveBus_61 : decode cX6_driveBus 61 = .ok (.ifCond .eq 13, 3) := by decide +kernel
theorem dX6_driveBus_64 : decode cX6_driveBus 64 = .ok (.aload_n 0, 1) := by decide +kernel
theorem dX6_driveBus_65 : decode cX6_driveBus 65 = .ok (.getfield 24, 3) := by decide +kernel
theorem dX6_driveBus_68 : decode cX6_driveBus 68 = .ok (.getfield 186, 3) := by decide +kernel
theorem dX6_driveBus_71 : decode cX6_driveBus 71 = .ok (.goto 4, 3) := by decide +kernel
theorem dX6_driveBus_74 : decode cX6_driveBus 74 = .ok (.iload_n 3, 1) := by decide +kernel
theorem dX6_driveBus_75 : decode cX6_driveBus 75 = .ok (.iand, 1) := by decide +kernel
theorem dX6_driveBus_76 : decode cX6_driveBus 76 = .ok (.istore_n 3, 1) := by decide +kernel
theorem dX6_driveBus_77 : decode cX6_driveBus 77 = .ok (.iload_n 3, 1) := by decide +kernel
theorem dX6_driveBus_78 : decode cX6_driveBus 78 = .ok (.iload_n 2, 1) := by decide +kernel
theorem dX6_driveBus_79 : decode cX6_driveBus 79 = .ok (.bipush 8, 2) := by decide +kernel
theorem dX6_driveBus_81 : decode cX6_driveBus 81 = .ok (.iand, 1) := by decide +kernel
theorem dX6_driveBus_82 : decode cX6_driveBus 82 = .ok (.ifCond .eq 13, 3) := by decide +kernel
theorem dX6_driveBus_85 : decode cX6_driveBus 85 = .ok (.aload_n 0, 1) := by decide +kernel
theorem dX6_driveBus_86 : decode cX6_driveBus 86 = .ok (.getfield 12, 3) := by decide +kernel
theorem dX6_driveBus_89 : decode cX6_driveBus 89 = .ok (.getfield 72, 3) := by decide +kernel
theorem dX6_driveBus_92 : decode cX6_driveBus 92 = .ok (.goto 4, 3) := by decide +kernel
theorem dX6_driveBus_95 : decode cX6_driveBus 95 = .ok (.iload_n 3, 1) := by decide +kernel
theorem dX6_driveBus_96 : decode cX6_driveBus 96 = .ok (.iand, 1) := by decide +kernel
theorem dX6_driveBus_97 : decode cX6_driveBus 97 = .ok (.istore_n 3, 1) := by decide +kernel
theorem dX6_driveBus_98 : decode cX6_driveBus 98 = .ok (.iload_n 3, 1) := by decide +kernel
theorem dX6_driveBus_99 : decode cX6_driveBus 99 = .ok (.iload_n 2, 1) := by decide +kernel
theorem dX6_driveBus_100 : decode cX6_driveBus 100 = .ok (.bipush 16, 2) := by decide +kernel
theorem dX6_driveBus_102 : decode cX6_driveBus 102 = .ok (.iand, 1) := by decide +kernel
theorem dX6_driveBus_103 : decode cX6_driveBus 103 = .ok (.ifCond .eq 21, 3) := by decide +kernel
theorem dX6_driveBus_106 : decode cX6_driveBus 106 = .ok (.aload_n 0, 1) := by decide +kernel
theorem dX6_driveBus_107 : decode cX6_driveBus 107 = .ok (.getfield 12, 3) := by decide +kernel
theorem dX6_driveBus_110 : decode cX6_driveBus 110 = .ok (.getfield 69, 3) := by decide +kernel
theorem dX6_driveBus_113 : decode cX6_driveBus 113 = .ok (.aload_n 0, 1) := by decide +kernel
theorem dX6_driveBus_114 : decode cX6_driveBus 114 = .ok (.getfield 24, 3) := by decide +kernel
theorem dX6_driveBus_117 : decode cX6_driveBus 117 = .ok (.invokevirtual 189, 3) := by decide +kernel
theorem dX6_driveBus_120 : decode cX6_driveBus 120 = .ok (.iaload, 1) := by decide +kernel
theorem dX6_driveBus_121 : decode cX6_driveBus 121 = .ok (.goto 4, 3) := by decide +kernel
theorem dX6_driveBus_124 : decode cX6_driveBus 124 = .ok (.iload_n 3, 1) := by decide +kernel
theorem dX6_driveBus_125 : decode cX6_driveBus 125 = .ok (.iand, 1) := by decide +kernel
theorem dX6_driveBus_126 : decode cX6_driveBus 126 = .ok (.istore_n 3, 1) := by decide +kernel
theorem dX6_driveBus_127 : decode cX6_driveBus 127 = .ok (.iload_n 3, 1) := by decide +kernel
theorem dX6_driveBus_128 : decode cX6_driveBus 128 = .ok (.iload_n 2, 1) := by decide +kernel
theorem dX6_driveBus_129 : decode cX6_driveBus 129 = .ok (.bipush 32, 2) := by decide +kernel
theorem dX6_driveBus_131 : decode cX6_driveBus 131 = .ok (.iand, 1) := by decide +kernel
theorem dX6_driveBus_132 : decode cX6_driveBus 132 = .ok (.ifCond .eq 21, 3) := by decide +kernel
theorem dX6_driveBus_135 : decode cX6_driveBus 135 = .ok (.aload_n 0, 1) := by decide +kernel
theorem dX6_driveBus_136 : decode cX6_driveBus 136 = .ok (.getfield 12, 3) := by decide +kernel
theorem dX6_driveBus_139 : decode cX6_driveBus 139 = .ok (.getfield 69, 3) := by decide +kernel
theorem dX6_driveBus_142 : decode cX6_driveBus 142 = .ok (.aload_n 0, 1) := by decide +kernel
theorem dX6_driveBus_143 : decode cX6_driveBus 143 = .ok (.getfield 24, 3) := by decide +kernel
theorem dX6_driveBus_146 : decode cX6_driveBus 146 = .ok (.invokevirtual 193, 3) := by decide +kernel
theorem dX6_driveBus_149 : decode cX6_driveBus 149 = .ok (.iaload, 1) := by decide +kernel
theorem dX6_driveBus_150 : decode cX6_driveBus 150 = .ok (.goto 4, 3) := by decide +kernel
theorem dX6_driveBus_153 : decode cX6_driveBus 153 = .ok (.iload_n 3, 1) := by decide +kernel
theorem dX6_driveBus_154 : decode cX6_driveBus 154 = .ok (.iand, 1) := by decide +kernel
theorem dX6_driveBus_155 : decode cX6_driveBus 155 = .ok (.istore_n 3, 1) := by decide +kernel
theorem dX6_driveBus_156 : decode cX6_driveBus 156 = .ok (.iload_n 3, 1) := by decide +kernel
theorem dX6_driveBus_157 : decode cX6_driveBus 157 = .ok (.iload_n 2, 1) := by decide +kernel
theorem dX6_driveBus_158 : decode cX6_driveBus 158 = .ok (.bipush 64, 2) := by decide +kernel
theorem dX6_driveBus_160 : decode cX6_driveBus 160 = .ok (.iand, 1) := by decide +kernel
theorem dX6_driveBus_161 : decode cX6_driveBus 161 = .ok (.ifCond .eq 10, 3) := by decide +kernel
theorem dX6_driveBus_164 : decode cX6_driveBus 164 = .ok (.aload_n 1, 1) := by decide +kernel
theorem dX6_driveBus_165 : decode cX6_driveBus 165 = .ok (.getfield 196, 3) := by decide +kernel
theorem dX6_driveBus_168 : decode cX6_driveBus 168 = .ok (.goto 4, 3) := by decide +kernel
theorem dX6_driveBus_171 : decode cX6_driveBus 171 = .ok (.iload_n 3, 1) := by decide +kernel
theorem dX6_driveBus_172 : decode cX6_driveBus 172 = .ok (.iand, 1) := by decide +kernel
theorem dX6_driveBus_173 : decode cX6_driveBus 173 = .ok (.istore_n 3, 1) := by decide +kernel
theorem dX6_driveBus_174 : decode cX6_driveBus 174 = .ok (.iload_n 2, 1) := by decide +kernel
theorem dX6_driveBus_175 : decode cX6_driveBus 175 = .ok (.invokestatic 199, 3) := by decide +kernel
theorem dX6_driveBus_178 : decode cX6_driveBus 178 = .ok (.iconst 1, 1) := by decide +kernel
theorem dX6_driveBus_179 : decode cX6_driveBus 179 = .ok (.if_icmp .le 16, 3) := by decide +kernel
theorem dX6_driveBus_182 : decode cX6_driveBus 182 = .ok (.aload_n 0, 1) := by decide +kernel
theorem dX6_driveBus_183 : decode cX6_driveBus 183 = .ok (.getfield 65, 3) := by decide +kernel
theorem dX6_driveBus_186 : decode cX6_driveBus 186 = .ok (.dup, 1) := by decide +kernel
theorem dX6_driveBus_187 : decode cX6_driveBus 187 = .ok (.getfield 204, 3) := by decide +kernel
theorem dX6_driveBus_190 : decode cX6_driveBus 190 = .ok (.iconst 1, 1) := by decide +kernel
theorem dX6_driveBus_191 : decode cX6_driveBus 191 = .ok (.iadd, 1) := by decide +kernel
theorem dX6_driveBus_192 : decode cX6_driveBus 192 = .ok (.putfield 204, 3) := by decide +kernel
theorem dX6_driveBus_195 : decode cX6_driveBus 195 = .ok (.aload_n 0, 1) := by decide +kernel
theorem dX6_driveBus_196 : decode cX6_driveBus 196 = .ok (.iload_n 3, 1) := by decide +kernel
theorem dX6_driveBus_197 : decode cX6_driveBus 197 = .ok (.putfield 207, 3) := by decide +kernel
theorem dX6_driveBus_200 : decode cX6_driveBus 200 = .ok (.aload_n 0, 1) := by decide +kernel
theorem dX6_driveBus_201 : decode cX6_driveBus 201 = .ok (.iload_n 2, 1) := by decide +kernel
theorem dX6_driveBus_202 : decode cX6_driveBus 202 = .ok (.putfield 210, 3) := by decide +kernel
theorem dX6_driveBus_205 : decode cX6_driveBus 205 = .ok (.iload_n 3, 1) := by decide +kernel
theorem dX6_driveBus_206 : decode cX6_driveBus 206 = .ok (.ireturn, 1) := by decide +kernel
theorem dX6_takeResult_0 : decode cX6_takeResult 0 = .ok (.aload_n 0, 1) := by decide +kernel
theorem dX6_takeResult_1 : decode cX6_takeResult 1 = .ok (.getfield 24, 3) := by decide +kernel
theorem dX6_takeResult_4 : decode cX6_takeResult 4 = .ok (.invokevirtual 189, 3) := by decide +kernel
theorem dX6_takeResult_7 : decode cX6_takeResult 7 = .ok (.istore_n 3, 1) := by decide +kernel
theorem dX6_takeResult_8 : decode cX6_takeResult 8 = .ok (.aload_n 0, 1) := by decide +kernel
theorem dX6_takeResult_9 : decode cX6_takeResult 9 = .ok (.getfield 24, 3) := by decide +kernel
theorem dX6_takeResult_12 : decode cX6_takeResult 12 = .ok (.invokevirtual 193, 3) := by decide +kernel
theorem dX6_takeResult_15 : decode cX6_takeResult 15 = .ok (.istore 4, 2) := by decide +kernel
theorem dX6_takeResult_17 : decode cX6_takeResult 17 = .ok (.iload_n 1, 1) := by decide +kernel
theorem dX6_takeResult_18 : decode cX6_takeResult 18 = .ok (.iconst 1, 1) := by decide +kernel
theorem dX6_takeResult_19 : decode cX6_takeResult 19 = .ok (.iand, 1) := by decide +kernel
theorem dX6_takeResult_20 : decode cX6_takeResult 20 = .ok (.ifCond .eq 11, 3) := by decide +kernel
theorem dX6_takeResult_23 : decode cX6_takeResult 23 = .ok (.aload_n 0, 1) := by decide +kernel
theorem dX6_takeResult_24 : decode cX6_takeResult 24 = .ok (.getfield 24, 3) := by decide +kernel
theorem dX6_takeResult_27 : decode cX6_takeResult 27 = .ok (.iload_n 2, 1) := by decide +kernel
theorem dX6_takeResult_28 : decode cX6_takeResult 28 = .ok (.putfield 110, 3) := by decide +kernel
theorem dX6_takeResult_31 : decode cX6_takeResult 31 = .ok (.iload_n 1, 1) := by decide +kernel
theorem dX6_takeResult_32 : decode cX6_takeResult 32 = .ok (.iconst 2, 1) := by decide +kernel
theorem dX6_takeResult_33 : decode cX6_takeResult 33 = .ok (.iand, 1) := by decide +kernel
theorem dX6_takeResult_34 : decode cX6_takeResult 34 = .ok (.ifCond .eq 11, 3) := by decide +kernel
theorem dX6_takeResult_37 : decode cX6_takeResult 37 = .ok (.aload_n 0, 1) := by decide +kernel
theorem dX6_takeResult_38 : decode cX6_takeResult 38 = .ok (.getfield 24, 3) := by decide +kernel
theorem dX6_takeResult_41 : decode cX6_takeResult 41 = .ok (.iload_n 2, 1) := by decide +kernel
theorem dX6_takeResult_42 : decode cX6_takeResult 42 = .ok (.putfield 183, 3) := by decide +kernel
theorem dX6_takeResult_45 : decode cX6_takeResult 45 = .ok (.iload_n 1, 1) := by decide +kernel
theorem dX6_takeResult_46 : decode cX6_takeResult 46 = .ok (.iconst 4, 1) := by decide +kernel
theorem dX6_takeResult_47 : decode cX6_takeResult 47 = .ok (.iand, 1) := by decide +kernel
theorem dX6_takeResult_48 : decode cX6_takeResult 48 = .ok (.ifCond .eq 14, 3) := by decide +kernel
theorem dX6_takeResult_51 : decode cX6_takeResult 51 = .ok (.aload_n 0, 1) := by decide +kernel
theorem dX6_takeResult_52 : decode cX6_takeResult 52 = .ok (.getfield 24, 3) := by decide +kernel
theorem dX6_takeResult_55 : decode cX6_takeResult 55 = .ok (.iload_n 2, 1) := by decide +kernel
theorem dX6_takeResult_56 : decode cX6_takeResult 56 = .ok (.bipush 63, 2) := by decide +kernel
theorem dX6_takeResult_58 : decode cX6_takeResult 58 = .ok (.iand, 1) := by decide +kernel
theorem dX6_takeResult_59 : decode cX6_takeResult 59 = .ok (.putfield 142, 3) := by decide +kernel
theorem dX6_takeResult_62 : decode cX6_takeResult 62 = .ok (.iload_n 1, 1) := by decide +kernel
theorem dX6_takeResult_63 : decode cX6_takeResult 63 = .ok (.bipush 8, 2) := by decide +kernel
theorem dX6_takeResult_65 : decode cX6_takeResult 65 = .ok (.iand, 1) := by decide +kernel
theorem dX6_takeResult_66 : decode cX6_takeResult 66 = .ok (.ifCond .eq 11, 3) := by decide +kernel
theorem dX6_takeResult_69 : decode cX6_takeResult 69 = .ok (.aload_n 0, 1) := by decide +kernel
theorem dX6_takeResult_70 : decode cX6_takeResult 70 = .ok (.getfield 24, 3) := by decide +kernel
theorem dX6_takeResult_73 : decode cX6_takeResult 73 = .ok (.iload_n 2, 1) := by decide +kernel
theorem dX6_takeResult_74 : decode cX6_takeResult 74 = .ok (.putfield 186, 3) := by decide +kernel
theorem dX6_takeResult_77 : decode cX6_takeResult 77 = .ok (.iload_n 1, 1) := by decide +kernel
theorem dX6_takeResult_78 : decode cX6_takeResult 78 = .ok (.bipush 16, 2) := by decide +kernel
theorem dX6_takeResult_80 : decode cX6_takeResult 80 = .ok (.iand, 1) := by decide +kernel
theorem dX6_takeResult_81 : decode cX6_takeResult 81 = .ok (.ifCond .eq 14, 3) := by decide +kernel
theorem dX6_takeResult_84 : decode cX6_takeResult 84 = .ok (.aload_n 0, 1) := by decide +kernel
theorem dX6_takeResult_85 : decode cX6_takeResult 85 = .ok (.getfield 12, 3) := by decide +kernel
theorem dX6_takeResult_88 : decode cX6_takeResult 88 = .ok (.iload_n 2, 1) := by decide +kernel
theorem dX6_takeResult_89 : decode cX6_takeResult 89 = .ok (.bipush 63, 2) := by decide +kernel
theorem dX6_takeResult_91 : decode cX6_takeResult 91 = .ok (.iand, 1) := by decide +kernel
theorem dX6_takeResult_92 : decode cX6_takeResult 92 = .ok (.putfield 72, 3) := by decide +kernel
theorem dX6_takeResult_95 : decode cX6_takeResult 95 = .ok (.iload_n 1, 1) := by decide +kernel
theorem dX6_takeResult_96 : decode cX6_takeResult 96 = .ok (.bipush 32, 2) := by decide +kernel
theorem dX6_takeResult_98 : decode cX6_takeResult 98 = .ok (.iand, 1) := by decide +kernel
theorem dX6_takeResult_99 : decode cX6_takeResult 99 = .ok (.ifCond .eq 13, 3) := by decide +kernel
theorem dX6_takeResult_102 : decode cX6_takeResult 102 = .ok (.aload_n 0, 1) := by decide +kernel
theorem dX6_takeResult_103 : decode cX6_takeResult 103 = .ok (.getfield 12, 3) := by decide +kernel
theorem dX6_takeResult_106 : decode cX6_takeResult 106 = .ok (.getfield 69, 3) := by decide +kernel
theorem dX6_takeResult_109 : decode cX6_takeResult 109 = .ok (.iload_n 3, 1) := by decide +kernel
theorem dX6_takeResult_110 : decode cX6_takeResult 110 = .ok (.iload_n 2, 1) := by decide +kernel
theorem dX6_takeResult_111 : decode cX6_takeResult 111 = .ok (.iastore, 1) := by decide +kernel
theorem dX6_takeResult_112 : decode cX6_takeResult 112 = .ok (.iload_n 1, 1) := by decide +kernel
theorem dX6_takeResult_113 : decode cX6_takeResult 113 = .ok (.bipush 64, 2) := by decide +kernel
theorem dX6_takeResult_115 : decode cX6_takeResult 115 = .ok (.iand, 1) := by decide +kernel
theorem dX6_takeResult_116 : decode cX6_takeResult 116 = .ok (.ifCond .eq 14, 3) := by decide +kernel
theorem dX6_takeResult_119 : decode cX6_takeResult 119 = .ok (.aload_n 0, 1) := by decide +kernel
theorem dX6_takeResult_120 : decode cX6_takeResult 120 = .ok (.getfield 12, 3) := by decide +kernel
theorem dX6_takeResult_123 : decode cX6_takeResult 123 = .ok (.getfield 69, 3) := by decide +kernel
theorem dX6_takeResult_126 : decode cX6_takeResult 126 = .ok (.iload 4, 2) := by decide +kernel
theorem dX6_takeResult_128 : decode cX6_takeResult 128 = .ok (.iload_n 2, 1) := by decide +kernel
theorem dX6_takeResult_129 : decode cX6_takeResult 129 = .ok (.iastore, 1) := by decide +kernel
theorem dX6_takeResult_130 : decode cX6_takeResult 130 = .ok (.iload_n 1, 1) := by decide +kernel
theorem dX6_takeResult_131 : decode cX6_takeResult 131 = .ok (.sipush 128, 3) := by decide +kernel
theorem dX6_takeResult_134 : decode cX6_takeResult 134 = .ok (.iand, 1) := by decide +kernel
theorem dX6_takeResult_135 : decode cX6_takeResult 135 = .ok (.ifCond .eq 11, 3) := by decide +kernel
theorem dX6_takeResult_138 : decode cX6_takeResult 138 = .ok (.aload_n 0, 1) := by decide +kernel
theorem dX6_takeResult_139 : decode cX6_takeResult 139 = .ok (.getfield 24, 3) := by decide +kernel
theorem dX6_takeResult_142 : decode cX6_takeResult 142 = .ok (.iload_n 2, 1) := by decide +kernel
theorem dX6_takeResult_143 : decode cX6_takeResult 143 = .ok (.putfield 213, 3) := by decide +kernel
theorem dX6_takeResult_146 : decode cX6_takeResult 146 = .ok (.return_, 1) := by decide +kernel
theorem dX6_reachMemory_0 : decode cX6_reachMemory 0 = .ok (.iload_n 1, 1) := by decide +kernel
theorem dX6_reachMemory_1 : decode cX6_reachMemory 1 = .ok (.iconst 1, 1) := by decide +kernel
theorem dX6_reachMemory_2 : decode cX6_reachMemory 2 = .ok (.if_icmp .ne 27, 3) := by decide +kernel
theorem dX6_reachMemory_5 : decode cX6_reachMemory 5 = .ok (.aload_n 0, 1) := by decide +kernel
theorem dX6_reachMemory_6 : decode cX6_reachMemory 6 = .ok (.getfield 24, 3) := by decide +kernel
theorem dX6_reachMemory_9 : decode cX6_reachMemory 9 = .ok (.aload_n 0, 1) := by decide +kernel
theorem dX6_reachMemory_10 : decode cX6_reachMemory 10 = .ok (.getfield 61, 3) := by decide +kernel
theorem dX6_reachMemory_13 : decode cX6_reachMemory 13 = .ok (.aload_n 0, 1) := by decide +kernel
theorem dX6_reachMemory_14 : decode cX6_reachMemory 14 = .ok (.getfield 24, 3) := by decide +kernel
theorem dX6_reachMemory_17 : decode cX6_reachMemory 17 = .ok (.getfield 142, 3) := by decide +kernel
theorem dX6_reachMemory_20 : decode cX6_reachMemory 20 = .ok (.invokevirtual 216, 3) := by decide +kernel
theorem dX6_reachMemory_23 : decode cX6_reachMemory 23 = .ok (.putfield 186, 3) := by decide +kernel
theorem dX6_reachMemory_26 : decode cX6_reachMemory 26 = .ok (.goto 29, 3) := by decide +kernel
theorem dX6_reachMemory_29 : decode cX6_reachMemory 29 = .ok (.iload_n 1, 1) := by decide +kernel
theorem dX6_reachMemory_30 : decode cX6_reachMemory 30 = .ok (.iconst 2, 1) := by decide +kernel
theorem dX6_reachMemory_31 : decode cX6_reachMemory 31 = .ok (.if_icmp .ne 24, 3) := by decide +kernel
theorem dX6_reachMemory_34 : decode cX6_reachMemory 34 = .ok (.aload_n 0, 1) := by decide +kernel
theorem dX6_reachMemory_35 : decode cX6_reachMemory 35 = .ok (.getfield 61, 3) := by decide +kernel
theorem dX6_reachMemory_38 : decode cX6_reachMemory 38 = .ok (.aload_n 0, 1) := by decide +kernel
theorem dX6_reachMemory_39 : decode cX6_reachMemory 39 = .ok (.getfield 24, 3) := by decide +kernel
theorem dX6_reachMemory_42 : decode cX6_reachMemory 42 = .ok (.getfield 142, 3) := by decide +kernel
theorem dX6_reachMemory_45 : decode cX6_reachMemory 45 = .ok (.aload_n 0, 1) := by decide +kernel
theorem dX6_reachMemory_46 : decode cX6_reachMemory 46 = .ok (.getfield 24, 3) := by decide +kernel
theorem dX6_reachMemory_49 : decode cX6_reachMemory 49 = .ok (.getfield 186, 3) := by decide +kernel
theorem dX6_reachMemory_52 : decode cX6_reachMemory 52 = .ok (.invokevirtual 219, 3) := by decide +kernel
theorem dX6_reachMemory_55 : decode cX6_reachMemory 55 = .ok (.return_, 1) := by decide +kernel
theorem dX6_fault_0 : decode cX6_fault 0 = .ok (.aload_n 0, 1) := by decide +kernel
theorem dX6_fault_1 : decode cX6_fault 1 = .ok (.getfield 65, 3) := by decide +kernel
theorem dX6_fault_4 : decode cX6_fault 4 = .ok (.dup, 1) := by decide +kernel
theorem dX6_fault_5 : decode cX6_fault 5 = .ok (.getfield 222, 3) := by decide +kernel
theorem dX6_fault_8 : decode cX6_fault 8 = .ok (.iconst 1, 1) := by decide +kernel
theorem dX6_fault_9 : decode cX6_fault 9 = .ok (.iadd, 1) := by decide +kernel
theorem dX6_fault_10 : decode cX6_fault 10 = .ok (.putfield 222, 3) := by decide +kernel
theorem dX6_fault_13 : decode cX6_fault 13 = .ok (.aload_n 0, 1) := by decide +kernel
theorem dX6_fault_14 : decode cX6_fault 14 = .ok (.bipush 119, 2) := by decide +kernel
theorem dX6_fault_16 : decode cX6_fault 16 = .ok (.putfield 46, 3) := by decide +kernel
theorem dX6_fault_19 : decode cX6_fault 19 = .ok (.aload_n 0, 1) := by decide +kernel
theorem dX6_fault_20 : decode cX6_fault 20 = .ok (.aload_n 0, 1) := by decide +kernel
theorem dX6_fault_21 : decode cX6_fault 21 = .ok (.getfield 61, 3) := by decide +kernel
theorem dX6_fault_24 : decode cX6_fault 24 = .ok (.aload_n 0, 1) := by decide +kernel
theorem dX6_fault_25 : decode cX6_fault 25 = .ok (.getfield 24, 3) := by decide +kernel
theorem dX6_fault_28 : decode cX6_fault 28 = .ok (.getfield 142, 3) := by decide +kernel
theorem dX6_fault_31 : decode cX6_fault 31 = .ok (.invokevirtual 225, 3) := by decide +kernel
theorem dX6_fault_34 : decode cX6_fault 34 = .ok (.putfield 50, 3) := by decide +kernel
theorem dX6_fault_37 : decode cX6_fault 37 = .ok (.aload_n 0, 1) := by decide +kernel
theorem dX6_fault_38 : decode cX6_fault 38 = .ok (.invokevirtual 94, 3) := by decide +kernel
theorem dX6_fault_41 : decode cX6_fault 41 = .ok (.return_, 1) := by decide +kernel
theorem dX6_obey_0 : decode cX6_obey 0 = .ok (.aload_n 1, 1) := by decide +kernel
theorem dX6_obey_1 : decode cX6_obey 1 = .ok (.getfield 160, 3) := by decide +kernel
theorem dX6_obey_4 : decode cX6_obey 4 = .ok (.tableswitch 248 99 114 #[125, 171, 248, 248, 248, 248, 248, 248, 248, 248, 248, 80, 98, 206, 237, 153], 80) := by decide +kernel
theorem dX6_obey_84 : decode cX6_obey 84 = .ok (.aload_n 0, 1) := by decide +kernel
theorem dX6_obey_85 : decode cX6_obey 85 = .ok (.aload_n 0, 1) := by decide +kernel
theorem dX6_obey_86 : decode cX6_obey 86 = .ok (.getfield 57, 3) := by decide +kernel
theorem dX6_obey_89 : decode cX6_obey 89 = .ok (.aload_n 1, 1) := by decide +kernel
theorem dX6_obey_90 : decode cX6_obey 90 = .ok (.getfield 228, 3) := by decide +kernel
theorem dX6_obey_93 : decode cX6_obey 93 = .ok (.invokevirtual 231, 3) := by decide +kernel
theorem dX6_obey_96 : decode cX6_obey 96 = .ok (.putfield 85, 3) := by decide +kernel
theorem dX6_obey_99 : decode cX6_obey 99 = .ok (.goto 153, 3) := by decide +kernel
theorem dX6_obey_102 : decode cX6_obey 102 = .ok (.aload_n 0, 1) := by decide +kernel
theorem dX6_obey_103 : decode cX6_obey 103 = .ok (.aload_n 0, 1) := by decide +kernel
theorem dX6_obey_104 : decode cX6_obey 104 = .ok (.getfield 57, 3) := by decide +kernel
theorem dX6_obey_107 : decode cX6_obey 107 = .ok (.aload_n 1, 1) := by decide +kernel
theorem dX6_obey_108 : decode cX6_obey 108 = .ok (.getfield 228, 3) := by decide +kernel
theorem dX6_obey_111 : decode cX6_obey 111 = .ok (.aload_n 0, 1) := by decide +kernel
theorem dX6_obey_112 : decode cX6_obey 112 = .ok (.aload_n 1, 1) := by decide +kernel
theorem dX6_obey_113 : decode cX6_obey 113 = .ok (.getfield 234, 3) := by decide +kernel
theorem dX6_obey_116 : decode cX6_obey 116 = .ok (.invokevirtual 237, 3) := by decide +kernel
theorem dX6_obey_119 : decode cX6_obey 119 = .ok (.ior, 1) := by decide +kernel
theorem dX6_obey_120 : decode cX6_obey 120 = .ok (.invokevirtual 231, 3) := by decide +kernel
theorem dX6_obey_123 : decode cX6_obey 123 = .ok (.putfield 85, 3) := by decide +kernel
theorem dX6_obey_126 : decode cX6_obey 126 = .ok (.goto 126, 3) := by decide +kernel
theorem dX6_obey_129 : decode cX6_obey 129 = .ok (.aload_n 0, 1) := by decide +kernel
theorem dX6_obey_130 : decode cX6_obey 130 = .ok (.aload_n 0, 1) := by decide +kernel
theorem dX6_obey_131 : decode cX6_obey 131 = .ok (.getfield 85, 3) := by decide +kernel
theorem dX6_obey_134 : decode cX6_obey 134 = .ok (.iconst 1, 1) := by decide +kernel
theorem dX6_obey_135 : decode cX6_obey 135 = .ok (.iadd, 1) := by decide +kernel
theorem dX6_obey_136 : decode cX6_obey 136 = .ok (.invokevirtual 240, 3) := by decide +kernel
theorem dX6_obey_139 : decode cX6_obey 139 = .ok (.aload_n 0, 1) := by decide +kernel
theorem dX6_obey_140 : decode cX6_obey 140 = .ok (.aload_n 0, 1) := by decide +kernel
theorem dX6_obey_141 : decode cX6_obey 141 = .ok (.getfield 57, 3) := by decide +kernel
theorem dX6_obey_144 : decode cX6_obey 144 = .ok (.aload_n 1, 1) := by decide +kernel
theorem dX6_obey_145 : decode cX6_obey 145 = .ok (.getfield 228, 3) := by decide +kernel
theorem dX6_obey_148 : decode cX6_obey 148 = .ok (.invokevirtual 231, 3) := by decide +kernel
theorem dX6_obey_151 : decode cX6_obey 151 = .ok (.putfield 85, 3) := by decide +kernel
theorem dX6_obey_154 : decode cX6_obey 154 = .ok (.goto 98, 3) := by decide +kernel
theorem dX6_obey_157 : decode cX6_obey 157 = .ok (.aload_n 0, 1) := by decide +kernel
theorem dX6_obey_158 : decode cX6_obey 158 = .ok (.aload_n 0, 1) := by decide +kernel
theorem dX6_obey_159 : decode cX6_obey 159 = .ok (.getfield 57, 3) := by decide +kernel
theorem dX6_obey_162 : decode cX6_obey 162 = .ok (.aload_n 0, 1) := by decide +kernel
theorem dX6_obey_163 : decode cX6_obey 163 = .ok (.invokevirtual 243, 3) := by decide +kernel
theorem dX6_obey_166 : decode cX6_obey 166 = .ok (.invokevirtual 231, 3) := by decide +kernel
theorem dX6_obey_169 : decode cX6_obey 169 = .ok (.putfield 85, 3) := by decide +kernel
theorem dX6_obey_172 : decode cX6_obey 172 = .ok (.goto 80, 3) := by decide +kernel
theorem dX6_obey_175 : decode cX6_obey 175 = .ok (.aload_n 0, 1) := by decide +kernel
theorem dX6_obey_176 : decode cX6_obey 176 = .ok (.aload_n 0, 1) := by decide +kernel
theorem dX6_obey_177 : decode cX6_obey 177 = .ok (.getfield 57, 3) := by decide +kernel
theorem dX6_obey_180 : decode cX6_obey 180 = .ok (.aload_n 0, 1) := by decide +kernel
theorem dX6_obey_181 : decode cX6_obey 181 = .ok (.getfield 57, 3) := by decide +kernel
theorem dX6_obey_184 : decode cX6_obey 184 = .ok (.aload_n 0, 1) := by decide +kernel
theorem dX6_obey_185 : decode cX6_obey 185 = .ok (.getfield 12, 3) := by decide +kernel
theorem dX6_obey_188 : decode cX6_obey 188 = .ok (.getfield 75, 3) := by decide +kernel
theorem dX6_obey_191 : decode cX6_obey 191 = .ok (.aload_n 0, 1) := by decide +kernel
theorem dX6_obey_192 : decode cX6_obey 192 = .ok (.getfield 24, 3) := by decide +kernel
theorem dX6_obey_195 : decode cX6_obey 195 = .ok (.invokevirtual 246, 3) := by decide +kernel
theorem dX6_obey_198 : decode cX6_obey 198 = .ok (.invokevirtual 249, 3) := by decide +kernel
theorem dX6_obey_201 : decode cX6_obey 201 = .ok (.invokevirtual 231, 3) := by decide +kernel
theorem dX6_obey_204 : decode cX6_obey 204 = .ok (.putfield 85, 3) := by decide +kernel
theorem dX6_obey_207 : decode cX6_obey 207 = .ok (.goto 45, 3) := by decide +kernel
theorem dX6_obey_210 : decode cX6_obey 210 = .ok (.aload_n 0, 1) := by decide +kernel
theorem dX6_obey_211 : decode cX6_obey 211 = .ok (.getfield 24, 3) := by decide +kernel
theorem dX6_obey_214 : decode cX6_obey 214 = .ok (.iconst 1, 1) := by decide +kernel
theorem dX6_obey_215 : decode cX6_obey 215 = .ok (.aload_n 0, 1) := by decide +kernel
theorem dX6_obey_216 : decode cX6_obey 216 = .ok (.getfield 24, 3) := by decide +kernel
theorem dX6_obey_219 : decode cX6_obey 219 = .ok (.getfield 253, 3) := by decide +kernel
theorem dX6_obey_222 : decode cX6_obey 222 = .ok (.isub, 1) := by decide +kernel
theorem dX6_obey_223 : decode cX6_obey 223 = .ok (.putfield 253, 3) := by decide +kernel
theorem dX6_obey_226 : decode cX6_obey 226 = .ok (.aload_n 0, 1) := by decide +kernel
theorem dX6_obey_227 : decode cX6_obey 227 = .ok (.aload_n 0, 1) := by decide +kernel
theorem dX6_obey_228 : decode cX6_obey 228 = .ok (.getfield 57, 3) := by decide +kernel
theorem dX6_obey_231 : decode cX6_obey 231 = .ok (.iconst 0, 1) := by decide +kernel
theorem dX6_obey_232 : decode cX6_obey 232 = .ok (.invokevirtual 231, 3) := by decide +kernel
theorem dX6_obey_235 : decode cX6_obey 235 = .ok (.putfield 85, 3) := by decide +kernel
theorem dX6_obey_238 : decode cX6_obey 238 = .ok (.goto 14, 3) := by decide +kernel
theorem dX6_obey_241 : decode cX6_obey 241 = .ok (.aload_n 0, 1) := by decide +kernel
theorem dX6_obey_242 : decode cX6_obey 242 = .ok (.invokevirtual 94, 3) := by decide +kernel
theorem dX6_obey_245 : decode cX6_obey 245 = .ok (.aload_n 0, 1) := by decide +kernel
theorem dX6_obey_246 : decode cX6_obey 246 = .ok (.invokevirtual 256, 3) := by decide +kernel
theorem dX6_obey_249 : decode cX6_obey 249 = .ok (.goto 3, 3) := by decide +kernel
theorem dX6_obey_252 : decode cX6_obey 252 = .ok (.return_, 1) := by decide +kernel
theorem dX6_testedBits_0 : decode cX6_testedBits 0 = .ok (.iload_n 1, 1) := by decide +kernel
theorem dX6_testedBits_1 : decode cX6_testedBits 1 = .ok (.iconst 3, 1) := by decide +kernel
theorem dX6_testedBits_2 : decode cX6_testedBits 2 = .ok (.iand, 1) := by decide +kernel
theorem dX6_testedBits_3 : decode cX6_testedBits 3 = .ok (.ifCond .eq 7, 3) := by decide +kernel
theorem dX6_testedBits_6 : decode cX6_testedBits 6 = .ok (.aload_n 0, 1) := by decide +kernel
theorem dX6_testedBits_7 : decode cX6_testedBits 7 = .ok (.invokevirtual 259, 3) := by decide +kernel
theorem dX6_testedBits_10 : decode cX6_testedBits 10 = .ok (.iconst 0, 1) := by decide +kernel
theorem dX6_testedBits_11 : decode cX6_testedBits 11 = .ok (.istore_n 2, 1) := by decide +kernel
theorem dX6_testedBits_12 : decode cX6_testedBits 12 = .ok (.aload_n 0, 1) := by decide +kernel
theorem dX6_testedBits_13 : decode cX6_testedBits 13 = .ok (.getfield 12, 3) := by decide +kernel
theorem dX6_testedBits_16 : decode cX6_testedBits 16 = .ok (.getfield 262, 3) := by decide +kernel
theorem dX6_testedBits_19 : decode cX6_testedBits 19 = .ok (.iconst 1, 1) := by decide +kernel
theorem dX6_testedBits_20 : decode cX6_testedBits 20 = .ok (.if_icmp .ne 7, 3) := by decide +kernel
theorem dX6_testedBits_23 : decode cX6_testedBits 23 = .ok (.iload_n 2, 1) := by decide +kernel
theorem dX6_testedBits_24 : decode cX6_testedBits 24 = .ok (.iconst 1, 1) := by decide +kernel
theorem dX6_testedBits_25 : decode cX6_testedBits 25 = .ok (.ior, 1) := by decide +kernel
theorem dX6_testedBits_26 : decode cX6_testedBits 26 = .ok (.istore_n 2, 1) := by decide +kernel
theorem dX6_testedBits_27 : decode cX6_testedBits 27 = .ok (.aload_n 0, 1) := by decide +kernel
theorem dX6_testedBits_28 : decode cX6_testedBits 28 = .ok (.getfield 12, 3) := by decide +kernel
theorem dX6_testedBits_31 : decode cX6_testedBits 31 = .ok (.getfield 265, 3) := by decide +kernel
theorem dX6_testedBits_34 : decode cX6_testedBits 34 = .ok (.iconst 1, 1) := by decide +kernel
theorem dX6_testedBits_35 : decode cX6_testedBits 35 = .ok (.if_icmp .ne 7, 3) := by decide +kernel
theorem dX6_testedBits_38 : decode cX6_testedBits 38 = .ok (.iload_n 2, 1) := by decide +kernel
theorem dX6_testedBits_39 : decode cX6_testedBits 39 = .ok (.iconst 2, 1) := by decide +kernel
theorem dX6_testedBits_40 : decode cX6_testedBits 40 = .ok (.ior, 1) := by decide +kernel
theorem dX6_testedBits_41 : decode cX6_testedBits 41 = .ok (.istore_n 2, 1) := by decide +kernel
theorem dX6_testedBits_42 : decode cX6_testedBits 42 = .ok (.aload_n 0, 1) := by decide +kernel
theorem dX6_testedBits_43 : decode cX6_testedBits 43 = .ok (.getfield 268, 3) := by decide +kernel
theorem dX6_testedBits_46 : decode cX6_testedBits 46 = .ok (.ifCond .eq 18, 3) := by decide +kernel
theorem dX6_testedBits_49 : decode cX6_testedBits 49 = .ok (.aload_n 0, 1) := by decide +kernel
theorem dX6_testedBits_50 : decode cX6_testedBits 50 = .ok (.getfield 12, 3) := by decide +kernel
theorem dX6_testedBits_53 : decode cX6_testedBits 53 = .ok (.getfield 78, 3) := by decide +kernel
theorem dX6_testedBits_56 : decode cX6_testedBits 56 = .ok (.iconst 1, 1) := by decide +kernel
theorem dX6_testedBits_57 : decode cX6_testedBits 57 = .ok (.if_icmp .ne 7, 3) := by decide +kernel
theorem dX6_testedBits_60 : decode cX6_testedBits 60 = .ok (.iload_n 2, 1) := by decide +kernel
theorem dX6_testedBits_61 : decode cX6_testedBits 61 = .ok (.iconst 4, 1) := by decide +kernel
theorem dX6_testedBits_62 : decode cX6_testedBits 62 = .ok (.ior, 1) := by decide +kernel
theorem dX6_testedBits_63 : decode cX6_testedBits 63 = .ok (.istore_n 2, 1) := by decide +kernel
theorem dX6_testedBits_64 : decode cX6_testedBits 64 = .ok (.iload_n 2, 1) := by decide +kernel
theorem dX6_testedBits_65 : decode cX6_testedBits 65 = .ok (.iload_n 1, 1) := by decide +kernel
theorem dX6_testedBits_66 : decode cX6_testedBits 66 = .ok (.iand, 1) := by decide +kernel
theorem dX6_testedBits_67 : decode cX6_testedBits 67 = .ok (.ireturn, 1) := by decide +kernel
theorem dX6_findFlags_0 : decode cX6_findFlags 0 = .ok (.aload_n 0, 1) := by decide +kernel
theorem dX6_findFlags_1 : decode cX6_findFlags 1 = .ok (.getfield 31, 3) := by decide +kernel
theorem dX6_findFlags_4 : decode cX6_findFlags 4 = .ok (.getfield 271, 3) := by decide +kernel
theorem dX6_findFlags_7 : decode cX6_findFlags 7 = .ok (.ifCond .eq 45, 3) := by decide +kernel
theorem dX6_findFlags_10 : decode cX6_findFlags 10 = .ok (.aload_n 0, 1) := by decide +kernel
theorem dX6_findFlags_11 : decode cX6_findFlags 11 = .ok (.getfield 12, 3) := by decide +kernel
theorem dX6_findFlags_14 : decode cX6_findFlags 14 = .ok (.aload_n 0, 1) := by decide +kernel
theorem dX6_findFlags_15 : decode cX6_findFlags 15 = .ok (.getfield 31, 3) := by decide +kernel
theorem dX6_findFlags_18 : decode cX6_findFlags 18 = .ok (.invokevirtual 274, 3) := by decide +kernel
theorem dX6_findFlags_21 : decode cX6_findFlags 21 = .ok (.aload_n 0, 1) := by decide +kernel
theorem dX6_findFlags_22 : decode cX6_findFlags 22 = .ok (.getfield 31, 3) := by decide +kernel
theorem dX6_findFlags_25 : decode cX6_findFlags 25 = .ok (.invokevirtual 278, 3) := by decide +kernel
theorem dX6_findFlags_28 : decode cX6_findFlags 28 = .ok (.invokevirtual 281, 3) := by decide +kernel
theorem dX6_findFlags_31 : decode cX6_findFlags 31 = .ok (.aload_n 0, 1) := by decide +kernel
theorem dX6_findFlags_32 : decode cX6_findFlags 32 = .ok (.getfield 31, 3) := by decide +kernel
theorem dX6_findFlags_35 : decode cX6_findFlags 35 = .ok (.iconst 0, 1) := by decide +kernel
theorem dX6_findFlags_36 : decode cX6_findFlags 36 = .ok (.putfield 271, 3) := by decide +kernel
theorem dX6_findFlags_39 : decode cX6_findFlags 39 = .ok (.aload_n 0, 1) := by decide +kernel
theorem dX6_findFlags_40 : decode cX6_findFlags 40 = .ok (.getfield 65, 3) := by decide +kernel
theorem dX6_findFlags_43 : decode cX6_findFlags 43 = .ok (.dup, 1) := by decide +kernel
theorem dX6_findFlags_44 : decode cX6_findFlags 44 = .ok (.getfield 285, 3) := by decide +kernel
theorem dX6_findFlags_47 : decode cX6_findFlags 47 = .ok (.iconst 1, 1) := by decide +kernel
theorem dX6_findFlags_48 : decode cX6_findFlags 48 = .ok (.iadd, 1) := by decide +kernel
theorem dX6_findFlags_49 : decode cX6_findFlags 49 = .ok (.putfield 285, 3) := by decide +kernel
theorem dX6_findFlags_52 : decode cX6_findFlags 52 = .ok (.return_, 1) := by decide +kernel
theorem dX6_putReturn_0 : decode cX6_putReturn 0 = .ok (.aload_n 0, 1) := by decide +kernel
theorem dX6_putReturn_1 : decode cX6_putReturn 1 = .ok (.getfield 288, 3) := by decide +kernel
theorem dX6_putReturn_4 : decode cX6_putReturn 4 = .ok (.iconst 4, 1) := by decide +kernel
theorem dX6_putReturn_5 : decode cX6_putReturn 5 = .ok (.if_icmp .lt 35, 3) := by decide +kernel
theorem dX6_putReturn_8 : decode cX6_putReturn 8 = .ok (.iconst 1, 1) := by decide +kernel
theorem dX6_putReturn_9 : decode cX6_putReturn 9 = .ok (.istore_n 2, 1) := by decide +kernel
theorem dX6_putReturn_10 : decode cX6_putReturn 10 = .ok (.iload_n 2, 1) := by decide +kernel
theorem dX6_putReturn_11 : decode cX6_putReturn 11 = .ok (.iconst 4, 1) := by decide +kernel
theorem dX6_putReturn_12 : decode cX6_putReturn 12 = .ok (.if_icmp .ge 23, 3) := by decide +kernel
theorem dX6_putReturn_15 : decode cX6_putReturn 15 = .ok (.aload_n 0, 1) := by decide +kernel
theorem dX6_putReturn_16 : decode cX6_putReturn 16 = .ok (.getfield 42, 3) := by decide +kernel
theorem dX6_putReturn_19 : decode cX6_putReturn 19 = .ok (.iload_n 2, 1) := by decide +kernel
theorem dX6_putReturn_20 : decode cX6_putReturn 20 = .ok (.iconst 1, 1) := by decide +kernel
theorem dX6_putReturn_21 : decode cX6_putReturn 21 = .ok (.isub, 1) := by decide +kernel
theorem dX6_putReturn_22 : decode cX6_putReturn 22 = .ok (.aload_n 0, 1) := by decide +kernel
theorem dX6_putReturn_23 : decode cX6_putReturn 23 = .ok (.getfield 42, 3) := by decide +kernel
theorem dX6_putReturn_26 : decode cX6_putReturn 26 = .ok (.iload_n 2, 1) := by decide +kernel
theorem dX6_putReturn_27 : decode cX6_putReturn 27 = .ok (.iaload, 1) := by decide +kernel
theorem dX6_putReturn_28 : decode cX6_putReturn 28 = .ok (.iastore, 1) := by decide +kernel
theorem dX6_putReturn_29 : decode cX6_putReturn 29 = .ok (.iinc 2 1, 3) := by decide +kernel
theorem dX6_putReturn_32 : decode cX6_putReturn 32 = .ok (.goto (-22), 3) := by decide +kernel
theorem dX6_putReturn_35 : decode cX6_putReturn 35 = .ok (.aload_n 0, 1) := by decide +kernel
theorem dX6_putReturn_36 : decode cX6_putReturn 36 = .ok (.iconst 3, 1) := by decide +kernel
theorem dX6_putReturn_37 : decode cX6_putReturn 37 = .ok (.putfield 288, 3) := by decide +kernel
theorem dX6_putReturn_40 : decode cX6_putReturn 40 = .ok (.aload_n 0, 1) := by decide +kernel
theorem dX6_putReturn_41 : decode cX6_putReturn 41 = .ok (.getfield 42, 3) := by decide +kernel
theorem dX6_putReturn_44 : decode cX6_putReturn 44 = .ok (.aload_n 0, 1) := by decide +kernel
theorem dX6_putReturn_45 : decode cX6_putReturn 45 = .ok (.getfield 288, 3) := by decide +kernel
theorem dX6_putReturn_48 : decode cX6_putReturn 48 = .ok (.iload_n 1, 1) := by decide +kernel
theorem dX6_putReturn_49 : decode cX6_putReturn 49 = .ok (.iastore, 1) := by decide +kernel
theorem dX6_putReturn_50 : decode cX6_putReturn 50 = .ok (.aload_n 0, 1) := by decide +kernel
theorem dX6_putReturn_51 : decode cX6_putReturn 51 = .ok (.dup, 1) := by decide +kernel
theorem dX6_putReturn_52 : decode cX6_putReturn 52 = .ok (.getfield 288, 3) := by decide +kernel
theorem dX6_putReturn_55 : decode cX6_putReturn 55 = .ok (.iconst 1, 1) := by decide +kernel
theorem dX6_putReturn_56 : decode cX6_putReturn 56 = .ok (.iadd, 1) := by decide +kernel
theorem dX6_putReturn_57 : decode cX6_putReturn 57 = .ok (.putfield 288, 3) := by decide +kernel
theorem dX6_putReturn_60 : decode cX6_putReturn 60 = .ok (.return_, 1) := by decide +kernel
theorem dX6_takeReturn_0 : decode cX6_takeReturn 0 = .ok (.aload_n 0, 1) := by decide +kernel
theorem dX6_takeReturn_1 : decode cX6_takeReturn 1 = .ok (.getfield 288, 3) := by decide +kernel
theorem dX6_takeReturn_4 : decode cX6_takeReturn 4 = .ok (.ifCond .le 11, 3) := by decide +kernel
theorem dX6_takeReturn_7 : decode cX6_takeReturn 7 = .ok (.aload_n 0, 1) := by decide +kernel
theorem dX6_takeReturn_8 : decode cX6_takeReturn 8 = .ok (.getfield 288, 3) := by decide +kernel
theorem dX6_takeReturn_11 : decode cX6_takeReturn 11 = .ok (.iconst 4, 1) := by decide +kernel
theorem dX6_takeReturn_12 : decode cX6_takeReturn 12 = .ok (.if_icmp .le 5, 3) := by decide +kernel
theorem dX6_takeReturn_15 : decode cX6_takeReturn 15 = .ok (.iconst (-1), 1) := by decide +kernel
theorem dX6_takeReturn_16 : decode cX6_takeReturn 16 = .ok (.ireturn, 1) := by decide +kernel
theorem dX6_takeReturn_17 : decode cX6_takeReturn 17 = .ok (.aload_n 0, 1) := by decide +kernel
theorem dX6_takeReturn_18 : decode cX6_takeReturn 18 = .ok (.dup, 1) := by decide +kernel
theorem dX6_takeReturn_19 : decode cX6_takeReturn 19 = .ok (.getfield 288, 3) := by decide +kernel
theorem dX6_takeReturn_22 : decode cX6_takeReturn 22 = .ok (.iconst 1, 1) := by decide +kernel
theorem dX6_takeReturn_23 : decode cX6_takeReturn 23 = .ok (.isub, 1) := by decide +kernel
theorem dX6_takeReturn_24 : decode cX6_takeReturn 24 = .ok (.putfield 288, 3) := by decide +kernel
theorem dX6_takeReturn_27 : decode cX6_takeReturn 27 = .ok (.aload_n 0, 1) := by decide +kernel
theorem dX6_takeReturn_28 : decode cX6_takeReturn 28 = .ok (.getfield 42, 3) := by decide +kernel
theorem dX6_takeReturn_31 : decode cX6_takeReturn 31 = .ok (.aload_n 0, 1) := by decide +kernel
theorem dX6_takeReturn_32 : decode cX6_takeReturn 32 = .ok (.getfield 288, 3) := by decide +kernel
theorem dX6_takeReturn_35 : decode cX6_takeReturn 35 = .ok (.iaload, 1) := by decide +kernel
theorem dX6_takeReturn_36 : decode cX6_takeReturn 36 = .ok (.ireturn, 1) := by decide +kernel
theorem dX6_changeAtEnd_0 : decode cX6_changeAtEnd 0 = .ok (.iload_n 1, 1) := by decide +kernel
theorem dX6_changeAtEnd_1 : decode cX6_changeAtEnd 1 = .ok (.lookupswitch 92 #[(103, 79), (107, 54), (115, 35)], 35) := by decide +kernel
theorem dX6_changeAtEnd_36 : decode cX6_changeAtEnd 36 = .ok (.aload_n 0, 1) := by decide +kernel
theorem dX6_changeAtEnd_37 : decode cX6_changeAtEnd 37 = .ok (.getfield 12, 3) := by decide +kernel
theorem dX6_changeAtEnd_40 : decode cX6_changeAtEnd 40 = .ok (.iconst 1, 1) := by decide +kernel
theorem dX6_changeAtEnd_41 : decode cX6_changeAtEnd 41 = .ok (.aload_n 0, 1) := by decide +kernel
theorem dX6_changeAtEnd_42 : decode cX6_changeAtEnd 42 = .ok (.getfield 12, 3) := by decide +kernel
theorem dX6_changeAtEnd_45 : decode cX6_changeAtEnd 45 = .ok (.getfield 75, 3) := by decide +kernel
theorem dX6_changeAtEnd_48 : decode cX6_changeAtEnd 48 = .ok (.isub, 1) := by decide +kernel
theorem dX6_changeAtEnd_49 : decode cX6_changeAtEnd 49 = .ok (.putfield 75, 3) := by decide +kernel
theorem dX6_changeAtEnd_52 : decode cX6_changeAtEnd 52 = .ok (.goto 41, 3) := by decide +kernel
theorem dX6_changeAtEnd_55 : decode cX6_changeAtEnd 55 = .ok (.aload_n 0, 1) := by decide +kernel
theorem dX6_changeAtEnd_56 : decode cX6_changeAtEnd 56 = .ok (.getfield 12, 3) := by decide +kernel
theorem dX6_changeAtEnd_59 : decode cX6_changeAtEnd 59 = .ok (.aload_n 0, 1) := by decide +kernel
theorem dX6_changeAtEnd_60 : decode cX6_changeAtEnd 60 = .ok (.getfield 12, 3) := by decide +kernel
theorem dX6_changeAtEnd_63 : decode cX6_changeAtEnd 63 = .ok (.getfield 291, 3) := by decide +kernel
theorem dX6_changeAtEnd_66 : decode cX6_changeAtEnd 66 = .ok (.putfield 72, 3) := by decide +kernel
theorem dX6_changeAtEnd_69 : decode cX6_changeAtEnd 69 = .ok (.aload_n 0, 1) := by decide +kernel
theorem dX6_changeAtEnd_70 : decode cX6_changeAtEnd 70 = .ok (.getfield 12, 3) := by decide +kernel
theorem dX6_changeAtEnd_73 : decode cX6_changeAtEnd 73 = .ok (.iconst 1, 1) := by decide +kernel
theorem dX6_changeAtEnd_74 : decode cX6_changeAtEnd 74 = .ok (.putfield 78, 3) := by decide +kernel
theorem dX6_changeAtEnd_77 : decode cX6_changeAtEnd 77 = .ok (.goto 16, 3) := by decide +kernel
theorem dX6_changeAtEnd_80 : decode cX6_changeAtEnd 80 = .ok (.aload_n 0, 1) := by decide +kernel
theorem dX6_changeAtEnd_81 : decode cX6_changeAtEnd 81 = .ok (.getfield 12, 3) := by decide +kernel
theorem dX6_changeAtEnd_84 : decode cX6_changeAtEnd 84 = .ok (.iload_n 2, 1) := by decide +kernel
theorem dX6_changeAtEnd_85 : decode cX6_changeAtEnd 85 = .ok (.iconst 1, 1) := by decide +kernel
theorem dX6_changeAtEnd_86 : decode cX6_changeAtEnd 86 = .ok (.iand, 1) := by decide +kernel
theorem dX6_changeAtEnd_87 : decode cX6_changeAtEnd 87 = .ok (.putfield 78, 3) := by decide +kernel
theorem dX6_changeAtEnd_90 : decode cX6_changeAtEnd 90 = .ok (.goto 3, 3) := by decide +kernel
theorem dX6_changeAtEnd_93 : decode cX6_changeAtEnd 93 = .ok (.return_, 1) := by decide +kernel
theorem dX6_endInstruction_0 : decode cX6_endInstruction 0 = .ok (.aload_n 0, 1) := by decide +kernel
theorem dX6_endInstruction_1 : decode cX6_endInstruction 1 = .ok (.invokevirtual 259, 3) := by decide +kernel
theorem dX6_endInstruction_4 : decode cX6_endInstruction 4 = .ok (.aload_n 0, 1) := by decide +kernel
theorem dX6_endInstruction_5 : decode cX6_endInstruction 5 = .ok (.invokevirtual 294, 3) := by decide +kernel
theorem dX6_endInstruction_8 : decode cX6_endInstruction 8 = .ok (.pop, 1) := by decide +kernel
theorem dX6_endInstruction_9 : decode cX6_endInstruction 9 = .ok (.aload_n 0, 1) := by decide +kernel
theorem dX6_endInstruction_10 : decode cX6_endInstruction 10 = .ok (.getfield 38, 3) := by decide +kernel
theorem dX6_endInstruction_13 : decode cX6_endInstruction 13 = .ok (.getfield 298, 3) := by decide +kernel
theorem dX6_endInstruction_16 : decode cX6_endInstruction 16 = .ok (.ifCond .eq 48, 3) := by decide +kernel
theorem dX6_endInstruction_19 : decode cX6_endInstruction 19 = .ok (.aload_n 0, 1) := by decide +kernel
theorem dX6_endInstruction_20 : decode cX6_endInstruction 20 = .ok (.getfield 12, 3) := by decide +kernel
theorem dX6_endInstruction_23 : decode cX6_endInstruction 23 = .ok (.aload_n 0, 1) := by decide +kernel
theorem dX6_endInstruction_24 : decode cX6_endInstruction 24 = .ok (.getfield 38, 3) := by decide +kernel
theorem dX6_endInstruction_27 : decode cX6_endInstruction 27 = .ok (.getfield 301, 3) := by decide +kernel
theorem dX6_endInstruction_30 : decode cX6_endInstruction 30 = .ok (.invokevirtual 304, 3) := by decide +kernel
theorem dX6_endInstruction_33 : decode cX6_endInstruction 33 = .ok (.ifCond .eq 31, 3) := by decide +kernel
theorem dX6_endInstruction_36 : decode cX6_endInstruction 36 = .ok (.aload_n 0, 1) := by decide +kernel
theorem dX6_endInstruction_37 : decode cX6_endInstruction 37 = .ok (.getfield 61, 3) := by decide +kernel
theorem dX6_endInstruction_40 : decode cX6_endInstruction 40 = .ok (.aload_n 0, 1) := by decide +kernel
theorem dX6_endInstruction_41 : decode cX6_endInstruction 41 = .ok (.getfield 38, 3) := by decide +kernel
theorem dX6_endInstruction_44 : decode cX6_endInstruction 44 = .ok (.getfield 308, 3) := by decide +kernel
theorem dX6_endInstruction_47 : decode cX6_endInstruction 47 = .ok (.aload_n 0, 1) := by decide +kernel
theorem dX6_endInstruction_48 : decode cX6_endInstruction 48 = .ok (.getfield 38, 3) := by decide +kernel
theorem dX6_endInstruction_51 : decode cX6_endInstruction 51 = .ok (.getfield 311, 3) := by decide +kernel
theorem dX6_endInstruction_54 : decode cX6_endInstruction 54 = .ok (.invokevirtual 314, 3) := by decide +kernel
theorem dX6_endInstruction_57 : decode cX6_endInstruction 57 = .ok (.ifCond .eq 7, 3) := by decide +kernel
theorem dX6_endInstruction_60 : decode cX6_endInstruction 60 = .ok (.iconst 1, 1) := by decide +kernel
theorem dX6_endInstruction_61 : decode cX6_endInstruction 61 = .ok (.goto 4, 3) := by decide +kernel
theorem dX6_endInstruction_64 : decode cX6_endInstruction 64 = .ok (.iconst 0, 1) := by decide +kernel
theorem dX6_endInstruction_65 : decode cX6_endInstruction 65 = .ok (.istore_n 1, 1) := by decide +kernel
theorem dX6_endInstruction_66 : decode cX6_endInstruction 66 = .ok (.iload_n 1, 1) := by decide +kernel
theorem dX6_endInstruction_67 : decode cX6_endInstruction 67 = .ok (.ifCond .ne 17, 3) := by decide +kernel
theorem dX6_endInstruction_70 : decode cX6_endInstruction 70 = .ok (.aload_n 0, 1) := by decide +kernel
theorem dX6_endInstruction_71 : decode cX6_endInstruction 71 = .ok (.getfield 65, 3) := by decide +kernel
theorem dX6_endInstruction_74 : decode cX6_endInstruction 74 = .ok (.aload_n 0, 1) := by decide +kernel
theorem dX6_endInstruction_75 : decode cX6_endInstruction 75 = .ok (.getfield 18, 3) := by decide +kernel
theorem dX6_endInstruction_78 : decode cX6_endInstruction 78 = .ok (.getfield 72, 3) := by decide +kernel
theorem dX6_endInstruction_81 : decode cX6_endInstruction 81 = .ok (.invokevirtual 318, 3) := by decide +kernel
theorem dX6_endInstruction_84 : decode cX6_endInstruction 84 = .ok (.aload_n 0, 1) := by decide +kernel
theorem dX6_endInstruction_85 : decode cX6_endInstruction 85 = .ok (.getfield 65, 3) := by decide +kernel
theorem dX6_endInstruction_88 : decode cX6_endInstruction 88 = .ok (.aload_n 0, 1) := by decide +kernel
theorem dX6_endInstruction_89 : decode cX6_endInstruction 89 = .ok (.getfield 18, 3) := by decide +kernel
theorem dX6_endInstruction_92 : decode cX6_endInstruction 92 = .ok (.getfield 75, 3) := by decide +kernel
theorem dX6_endInstruction_95 : decode cX6_endInstruction 95 = .ok (.aload_n 0, 1) := by decide +kernel
theorem dX6_endInstruction_96 : decode cX6_endInstruction 96 = .ok (.getfield 24, 3) := by decide +kernel
theorem dX6_endInstruction_99 : decode cX6_endInstruction 99 = .ok (.invokevirtual 246, 3) := by decide +kernel
theorem dX6_endInstruction_102 : decode cX6_endInstruction 102 = .ok (.invokevirtual 321, 3) := by decide +kernel
theorem dX6_endInstruction_105 : decode cX6_endInstruction 105 = .ok (.aload_n 0, 1) := by decide +kernel
theorem dX6_endInstruction_106 : decode cX6_endInstruction 106 = .ok (.invokevirtual 324, 3) := by decide +kernel
theorem dX6_endInstruction_109 : decode cX6_endInstruction 109 = .ok (.aload_n 0, 1) := by decide +kernel
theorem dX6_endInstruction_110 : decode cX6_endInstruction 110 = .ok (.invokevirtual 256, 3) := by decide +kernel
theorem dX6_endInstruction_113 : decode cX6_endInstruction 113 = .ok (.return_, 1) := by decide +kernel
theorem dX6_define_0 : decode cX6_define 0 = .ok (.aload_n 0, 1) := by decide +kernel
theorem dX6_define_1 : decode cX6_define 1 = .ok (.getfield 38, 3) := by decide +kernel
theorem dX6_define_4 : decode cX6_define 4 = .ok (.aload_n 0, 1) := by decide +kernel
theorem dX6_define_5 : decode cX6_define 5 = .ok (.getfield 18, 3) := by decide +kernel
theorem dX6_define_8 : decode cX6_define 8 = .ok (.aload_n 0, 1) := by decide +kernel
theorem dX6_define_9 : decode cX6_define 9 = .ok (.getfield 61, 3) := by decide +kernel
theorem dX6_define_12 : decode cX6_define 12 = .ok (.getfield 327, 3) := by decide +kernel
theorem dX6_define_15 : decode cX6_define 15 = .ok (.invokevirtual 329, 3) := by decide +kernel
theorem dX6_define_18 : decode cX6_define 18 = .ok (.aload_n 0, 1) := by decide +kernel
theorem dX6_define_19 : decode cX6_define 19 = .ok (.getfield 38, 3) := by decide +kernel
theorem dX6_define_22 : decode cX6_define 22 = .ok (.getfield 298, 3) := by decide +kernel
theorem dX6_define_25 : decode cX6_define 25 = .ok (.ifCond .eq 17, 3) := by decide +kernel
theorem dX6_define_28 : decode cX6_define 28 = .ok (.aload_n 0, 1) := by decide +kernel
theorem dX6_define_29 : decode cX6_define 29 = .ok (.getfield 38, 3) := by decide +kernel
theorem dX6_define_32 : decode cX6_define 32 = .ok (.aload_n 0, 1) := by decide +kernel
theorem dX6_define_33 : decode cX6_define 33 = .ok (.getfield 61, 3) := by decide +kernel
theorem dX6_define_36 : decode cX6_define 36 = .ok (.getfield 327, 3) := by decide +kernel
theorem dX6_define_39 : decode cX6_define 39 = .ok (.invokevirtual 333, 3) := by decide +kernel
theorem dX6_define_42 : decode cX6_define 42 = .ok (.aload_n 0, 1) := by decide +kernel
theorem dX6_define_43 : decode cX6_define 43 = .ok (.getfield 38, 3) := by decide +kernel
theorem dX6_define_46 : decode cX6_define 46 = .ok (.areturn, 1) := by decide +kernel
theorem dX6_begin_0 : decode cX6_begin 0 = .ok (.aload_n 0, 1) := by decide +kernel
theorem dX6_begin_1 : decode cX6_begin 1 = .ok (.getfield 18, 3) := by decide +kernel
theorem dX6_begin_4 : decode cX6_begin 4 = .ok (.aload_n 0, 1) := by decide +kernel
theorem dX6_begin_5 : decode cX6_begin 5 = .ok (.getfield 12, 3) := by decide +kernel
theorem dX6_begin_8 : decode cX6_begin 8 = .ok (.invokevirtual 81, 3) := by decide +kernel
theorem dX6_begin_11 : decode cX6_begin 11 = .ok (.aload_n 0, 1) := by decide +kernel
theorem dX6_begin_12 : decode cX6_begin 12 = .ok (.getfield 61, 3) := by decide +kernel
theorem dX6_begin_15 : decode cX6_begin 15 = .ok (.invokevirtual 337, 3) := by decide +kernel
theorem dX6_begin_18 : decode cX6_begin 18 = .ok (.aload_n 0, 1) := by decide +kernel
theorem dX6_begin_19 : decode cX6_begin 19 = .ok (.getfield 24, 3) := by decide +kernel
theorem dX6_begin_22 : decode cX6_begin 22 = .ok (.iconst 0, 1) := by decide +kernel
theorem dX6_begin_23 : decode cX6_begin 23 = .ok (.putfield 253, 3) := by decide +kernel
theorem dX6_begin_26 : decode cX6_begin 26 = .ok (.aload_n 0, 1) := by decide +kernel
theorem dX6_begin_27 : decode cX6_begin 27 = .ok (.iconst 0, 1) := by decide +kernel
theorem dX6_begin_28 : decode cX6_begin 28 = .ok (.putfield 288, 3) := by decide +kernel
theorem dX6_begin_31 : decode cX6_begin 31 = .ok (.aload_n 0, 1) := by decide +kernel
theorem dX6_begin_32 : decode cX6_begin 32 = .ok (.iconst 0, 1) := by decide +kernel
theorem dX6_begin_33 : decode cX6_begin 33 = .ok (.putfield 85, 3) := by decide +kernel
theorem dX6_begin_36 : decode cX6_begin 36 = .ok (.aload_n 0, 1) := by decide +kernel
theorem dX6_begin_37 : decode cX6_begin 37 = .ok (.iconst 0, 1) := by decide +kernel
theorem dX6_begin_38 : decode cX6_begin 38 = .ok (.putfield 97, 3) := by decide +kernel
theorem dX6_begin_41 : decode cX6_begin 41 = .ok (.return_, 1) := by decide +kernel
theorem dX6_takeBack_0 : decode cX6_takeBack 0 = .ok (.aload_n 0, 1) := by decide +kernel
theorem dX6_takeBack_1 : decode cX6_takeBack 1 = .ok (.getfield 12, 3) := by decide +kernel
theorem dX6_takeBack_4 : decode cX6_takeBack 4 = .ok (.aload_n 0, 1) := by decide +kernel
theorem dX6_takeBack_5 : decode cX6_takeBack 5 = .ok (.getfield 18, 3) := by decide +kernel
theorem dX6_takeBack_8 : decode cX6_takeBack 8 = .ok (.invokevirtual 81, 3) := by decide +kernel
theorem dX6_takeBack_11 : decode cX6_takeBack 11 = .ok (.aload_n 0, 1) := by decide +kernel
theorem dX6_takeBack_12 : decode cX6_takeBack 12 = .ok (.getfield 61, 3) := by decide +kernel
theorem dX6_takeBack_15 : decode cX6_takeBack 15 = .ok (.invokevirtual 340, 3) := by decide +kernel
theorem dX6_takeBack_18 : decode cX6_takeBack 18 = .ok (.aload_n 0, 1) := by decide +kernel
theorem dX6_takeBack_19 : decode cX6_takeBack 19 = .ok (.getfield 31, 3) := by decide +kernel
theorem dX6_takeBack_22 : decode cX6_takeBack 22 = .ok (.iconst 0, 1) := by decide +kernel
theorem dX6_takeBack_23 : decode cX6_takeBack 23 = .ok (.putfield 271, 3) := by decide +kernel
theorem dX6_takeBack_26 : decode cX6_takeBack 26 = .ok (.aload_n 0, 1) := by decide +kernel
theorem dX6_takeBack_27 : decode cX6_takeBack 27 = .ok (.invokevirtual 324, 3) := by decide +kernel
theorem dX6_takeBack_30 : decode cX6_takeBack 30 = .ok (.return_, 1) := by decide +kernel
theorem dX6_takeInterrupt_0 : decode cX6_takeInterrupt 0 = .ok (.aload_n 0, 1) := by decide +kernel
theorem dX6_takeInterrupt_1 : decode cX6_takeInterrupt 1 = .ok (.getfield 268, 3) := by decide +kernel
theorem dX6_takeInterrupt_4 : decode cX6_takeInterrupt 4 = .ok (.ifCond .eq 14, 3) := by decide +kernel
theorem dX6_takeInterrupt_7 : decode cX6_takeInterrupt 7 = .ok (.aload_n 0, 1) := by decide +kernel
theorem dX6_takeInterrupt_8 : decode cX6_takeInterrupt 8 = .ok (.getfield 12, 3) := by decide +kernel
theorem dX6_takeInterrupt_11 : decode cX6_takeInterrupt 11 = .ok (.getfield 78, 3) := by decide +kernel
theorem dX6_takeInterrupt_14 : decode cX6_takeInterrupt 14 = .ok (.iconst 1, 1) := by decide +kernel
theorem dX6_takeInterrupt_15 : decode cX6_takeInterrupt 15 = .ok (.if_icmp .eq 4, 3) := by decide +kernel
theorem dX6_takeInterrupt_18 : decode cX6_takeInterrupt 18 = .ok (.return_, 1) := by decide +kernel
theorem dX6_takeInterrupt_19 : decode cX6_takeInterrupt 19 = .ok (.aload_n 0, 1) := by decide +kernel
theorem dX6_takeInterrupt_20 : decode cX6_takeInterrupt 20 = .ok (.getfield 12, 3) := by decide +kernel
theorem dX6_takeInterrupt_23 : decode cX6_takeInterrupt 23 = .ok (.aload_n 0, 1) := by decide +kernel
theorem dX6_takeInterrupt_24 : decode cX6_takeInterrupt 24 = .ok (.getfield 12, 3) := by decide +kernel
theorem dX6_takeInterrupt_27 : decode cX6_takeInterrupt 27 = .ok (.getfield 72, 3) := by decide +kernel
theorem dX6_takeInterrupt_30 : decode cX6_takeInterrupt 30 = .ok (.putfield 291, 3) := by decide +kernel
theorem dX6_takeInterrupt_33 : decode cX6_takeInterrupt 33 = .ok (.aload_n 0, 1) := by decide +kernel
theorem dX6_takeInterrupt_34 : decode cX6_takeInterrupt 34 = .ok (.getfield 12, 3) := by decide +kernel
theorem dX6_takeInterrupt_37 : decode cX6_takeInterrupt 37 = .ok (.aload_n 0, 1) := by decide +kernel
theorem dX6_takeInterrupt_38 : decode cX6_takeInterrupt 38 = .ok (.getfield 54, 3) := by decide +kernel
theorem dX6_takeInterrupt_41 : decode cX6_takeInterrupt 41 = .ok (.putfield 72, 3) := by decide +kernel
theorem dX6_takeInterrupt_44 : decode cX6_takeInterrupt 44 = .ok (.aload_n 0, 1) := by decide +kernel
theorem dX6_takeInterrupt_45 : decode cX6_takeInterrupt 45 = .ok (.getfield 12, 3) := by decide +kernel
theorem dX6_takeInterrupt_48 : decode cX6_takeInterrupt 48 = .ok (.iconst 0, 1) := by decide +kernel
theorem dX6_takeInterrupt_49 : decode cX6_takeInterrupt 49 = .ok (.putfield 75, 3) := by decide +kernel
theorem dX6_takeInterrupt_52 : decode cX6_takeInterrupt 52 = .ok (.aload_n 0, 1) := by decide +kernel
theorem dX6_takeInterrupt_53 : decode cX6_takeInterrupt 53 = .ok (.getfield 12, 3) := by decide +kernel
theorem dX6_takeInterrupt_56 : decode cX6_takeInterrupt 56 = .ok (.iconst 0, 1) := by decide +kernel
theorem dX6_takeInterrupt_57 : decode cX6_takeInterrupt 57 = .ok (.putfield 78, 3) := by decide +kernel
theorem dX6_takeInterrupt_60 : decode cX6_takeInterrupt 60 = .ok (.aload_n 0, 1) := by decide +kernel
theorem dX6_takeInterrupt_61 : decode cX6_takeInterrupt 61 = .ok (.getfield 18, 3) := by decide +kernel
theorem dX6_takeInterrupt_64 : decode cX6_takeInterrupt 64 = .ok (.aload_n 0, 1) := by decide +kernel
theorem dX6_takeInterrupt_65 : decode cX6_takeInterrupt 65 = .ok (.getfield 12, 3) := by decide +kernel
theorem dX6_takeInterrupt_68 : decode cX6_takeInterrupt 68 = .ok (.invokevirtual 81, 3) := by decide +kernel
theorem dX6_takeInterrupt_71 : decode cX6_takeInterrupt 71 = .ok (.aload_n 0, 1) := by decide +kernel
theorem dX6_takeInterrupt_72 : decode cX6_takeInterrupt 72 = .ok (.iconst 0, 1) := by decide +kernel
theorem dX6_takeInterrupt_73 : decode cX6_takeInterrupt 73 = .ok (.putfield 268, 3) := by decide +kernel
theorem dX6_takeInterrupt_76 : decode cX6_takeInterrupt 76 = .ok (.aload_n 0, 1) := by decide +kernel
theorem dX6_takeInterrupt_77 : decode cX6_takeInterrupt 77 = .ok (.getfield 65, 3) := by decide +kernel
theorem dX6_takeInterrupt_80 : decode cX6_takeInterrupt 80 = .ok (.dup, 1) := by decide +kernel
theorem dX6_takeInterrupt_81 : decode cX6_takeInterrupt 81 = .ok (.getfield 341, 3) := by decide +kernel
theorem dX6_takeInterrupt_84 : decode cX6_takeInterrupt 84 = .ok (.iconst 1, 1) := by decide +kernel
theorem dX6_takeInterrupt_85 : decode cX6_takeInterrupt 85 = .ok (.iadd, 1) := by decide +kernel
theorem dX6_takeInterrupt_86 : decode cX6_takeInterrupt 86 = .ok (.putfield 341, 3) := by decide +kernel
theorem dX6_takeInterrupt_89 : decode cX6_takeInterrupt 89 = .ok (.return_, 1) := by decide +kernel
theorem dX6_valueOf_0 : decode cX6_valueOf 0 = .ok (.iload_n 1, 1) := by decide +kernel
theorem dX6_valueOf_1 : decode cX6_valueOf 1 = .ok (.tableswitch 180 65 90 #[135, 180, 167, 143, 159, 180, 180, 180, 180, 180, 180, 180, 180, 180, 180, 180, 180, 180, 180, 119, 127, 180, 180, 151, 180, 167], 119) := by decide +kernel
theorem dX6_valueOf_120 : decode cX6_valueOf 120 = .ok (.aload_n 0, 1) := by decide +kernel
theorem dX6_valueOf_121 : decode cX6_valueOf 121 = .ok (.getfield 24, 3) := by decide +kernel
theorem dX6_valueOf_124 : decode cX6_valueOf 124 = .ok (.getfield 110, 3) := by decide +kernel
theorem dX6_valueOf_127 : decode cX6_valueOf 127 = .ok (.ireturn, 1) := by decide +kernel
theorem dX6_valueOf_128 : decode cX6_valueOf 128 = .ok (.aload_n 0, 1) := by decide +kernel
theorem dX6_valueOf_129 : decode cX6_valueOf 129 = .ok (.getfield 24, 3) := by decide +kernel
theorem dX6_valueOf_132 : decode cX6_valueOf 132 = .ok (.getfield 183, 3) := by decide +kernel
theorem dX6_valueOf_135 : decode cX6_valueOf 135 = .ok (.ireturn, 1) := by decide +kernel
theorem dX6_valueOf_136 : decode cX6_valueOf 136 = .ok (.aload_n 0, 1) := by decide +kernel
theorem dX6_valueOf_137 : decode cX6_valueOf 137 = .ok (.getfield 24, 3) := by decide +kernel
theorem dX6_valueOf_140 : decode cX6_valueOf 140 = .ok (.getfield 142, 3) := by decide +kernel
theorem dX6_valueOf_143 : decode cX6_valueOf 143 = .ok (.ireturn, 1) := by decide +kernel
theorem dX6_valueOf_144 : decode cX6_valueOf 144 = .ok (.aload_n 0, 1) := by decide +kernel
theorem dX6_valueOf_145 : decode cX6_valueOf 145 = .ok (.getfield 24, 3) := by decide +kernel
theorem dX6_valueOf_148 : decode cX6_valueOf 148 = .ok (.getfield 186, 3) := by decide +kernel
theorem dX6_valueOf_151 : decode cX6_valueOf 151 = .ok (.ireturn, 1) := by decide +kernel
theorem dX6_valueOf_152 : decode cX6_valueOf 152 = .ok (.aload_n 0, 1) := by decide +kernel
theorem dX6_valueOf_153 : decode cX6_valueOf 153 = .ok (.getfield 24, 3) := by decide +kernel
theorem dX6_valueOf_156 : decode cX6_valueOf 156 = .ok (.getfield 213, 3) := by decide +kernel
theorem dX6_valueOf_159 : decode cX6_valueOf 159 = .ok (.ireturn, 1) := by decide +kernel
theorem dX6_valueOf_160 : decode cX6_valueOf 160 = .ok (.aload_n 0, 1) := by decide +kernel
theorem dX6_valueOf_161 : decode cX6_valueOf 161 = .ok (.getfield 24, 3) := by decide +kernel
theorem dX6_valueOf_164 : decode cX6_valueOf 164 = .ok (.getfield 253, 3) := by decide +kernel
theorem dX6_valueOf_167 : decode cX6_valueOf 167 = .ok (.ireturn, 1) := by decide +kernel
theorem dX6_valueOf_168 : decode cX6_valueOf 168 = .ok (.aload_n 0, 1) := by decide +kernel
theorem dX6_valueOf_169 : decode cX6_valueOf 169 = .ok (.invokevirtual 259, 3) := by decide +kernel
theorem dX6_valueOf_172 : decode cX6_valueOf 172 = .ok (.aload_n 0, 1) := by decide +kernel
theorem dX6_valueOf_173 : decode cX6_valueOf 173 = .ok (.getfield 12, 3) := by decide +kernel
theorem dX6_valueOf_176 : decode cX6_valueOf 176 = .ok (.iload_n 1, 1) := by decide +kernel
theorem dX6_valueOf_177 : decode cX6_valueOf 177 = .ok (.invokevirtual 344, 3) := by decide +kernel
theorem dX6_valueOf_180 : decode cX6_valueOf 180 = .ok (.ireturn, 1) := by decide +kernel
theorem dX6_valueOf_181 : decode cX6_valueOf 181 = .ok (.aload_n 0, 1) := by decide +kernel
theorem dX6_valueOf_182 : decode cX6_valueOf 182 = .ok (.getfield 12, 3) := by decide +kernel
theorem dX6_valueOf_185 : decode cX6_valueOf 185 = .ok (.iload_n 1, 1) := by decide +kernel
theorem dX6_valueOf_186 : decode cX6_valueOf 186 = .ok (.invokevirtual 344, 3) := by decide +kernel
theorem dX6_valueOf_189 : decode cX6_valueOf 189 = .ok (.ireturn, 1) := by decide +kernel
theorem dX6_hasSoundParts_0 : decode cX6_hasSoundParts 0 = .ok (.iconst 0, 1) := by decide +kernel
theorem dX6_hasSoundParts_1 : decode cX6_hasSoundParts 1 = .ok (.istore_n 1, 1) := by decide +kernel
theorem dX6_hasSoundParts_2 : decode cX6_hasSoundParts 2 = .ok (.iload_n 1, 1) := by decide +kernel
theorem dX6_hasSoundParts_3 : decode cX6_hasSoundParts 3 = .ok (.iconst 4, 1) := by decide +kernel
theorem dX6_hasSoundParts_4 : decode cX6_hasSoundParts 4 = .ok (.if_icmp .ge 29, 3) := by decide +kernel
theorem dX6_hasSoundParts_7 : decode cX6_hasSoundParts 7 = .ok (.aload_n 0, 1) := by decide +kernel
theorem dX6_hasSoundParts_8 : decode cX6_hasSoundParts 8 = .ok (.getfield 12, 3) := by decide +kernel
theorem dX6_hasSoundParts_11 : decode cX6_hasSoundParts 11 = .ok (.getfield 69, 3) := by decide +kernel
theorem dX6_hasSoundParts_14 : decode cX6_hasSoundParts 14 = .ok (.iload_n 1, 1) := by decide +kernel
theorem dX6_hasSoundParts_15 : decode cX6_hasSoundParts 15 = .ok (.iaload, 1) := by decide +kernel
theorem dX6_hasSoundParts_16 : decode cX6_hasSoundParts 16 = .ok (.sipush 256, 3) := by decide +kernel
theorem dX6_hasSoundParts_19 : decode cX6_hasSoundParts 19 = .ok (.invokestatic 348, 3) := by decide +kernel
theorem dX6_hasSoundParts_22 : decode cX6_hasSoundParts 22 = .ok (.ifCond .eq 5, 3) := by decide +kernel
theorem dX6_hasSoundParts_25 : decode cX6_hasSoundParts 25 = .ok (.iconst 0, 1) := by decide +kernel
theorem dX6_hasSoundParts_26 : decode cX6_hasSoundParts 26 = .ok (.ireturn, 1) := by decide +kernel
theorem dX6_hasSoundParts_27 : decode cX6_hasSoundParts 27 = .ok (.iinc 1 1, 3) := by decide +kernel
theorem dX6_hasSoundParts_30 : decode cX6_hasSoundParts 30 = .ok (.goto (-28), 3) := by decide +kernel
theorem dX6_hasSoundParts_33 : decode cX6_hasSoundParts 33 = .ok (.aload_n 0, 1) := by decide +kernel
theorem dX6_hasSoundParts_34 : decode cX6_hasSoundParts 34 = .ok (.getfield 12, 3) := by decide +kernel
theorem dX6_hasSoundParts_37 : decode cX6_hasSoundParts 37 = .ok (.getfield 72, 3) := by decide +kernel
theorem dX6_hasSoundParts_40 : decode cX6_hasSoundParts 40 = .ok (.bipush 64, 2) := by decide +kernel
theorem dX6_hasSoundParts_42 : decode cX6_hasSoundParts 42 = .ok (.invokestatic 348, 3) := by decide +kernel
theorem dX6_hasSoundParts_45 : decode cX6_hasSoundParts 45 = .ok (.ifCond .ne 37, 3) := by decide +kernel
theorem dX6_hasSoundParts_48 : decode cX6_hasSoundParts 48 = .ok (.aload_n 0, 1) := by decide +kernel
theorem dX6_hasSoundParts_49 : decode cX6_hasSoundParts 49 = .ok (.getfield 24, 3) := by decide +kernel
theorem dX6_hasSoundParts_52 : decode cX6_hasSoundParts 52 = .ok (.getfield 142, 3) := by decide +kernel
theorem dX6_hasSoundParts_55 : decode cX6_hasSoundParts 55 = .ok (.bipush 64, 2) := by decide +kernel
theorem dX6_hasSoundParts_57 : decode cX6_hasSoundParts 57 = .ok (.invokestatic 348, 3) := by decide +kernel
theorem dX6_hasSoundParts_60 : decode cX6_hasSoundParts 60 = .ok (.ifCond .ne 22, 3) := by decide +kernel
theorem dX6_hasSoundParts_63 : decode cX6_hasSoundParts 63 = .ok (.aload_n 0, 1) := by decide +kernel
theorem dX6_hasSoundParts_64 : decode cX6_hasSoundParts 64 = .ok (.getfield 12, 3) := by decide +kernel
theorem dX6_hasSoundParts_67 : decode cX6_hasSoundParts 67 = .ok (.getfield 291, 3) := by decide +kernel
theorem dX6_hasSoundParts_70 : decode cX6_hasSoundParts 70 = .ok (.bipush 64, 2) := by decide +kernel
theorem dX6_hasSoundParts_72 : decode cX6_hasSoundParts 72 = .ok (.invokestatic 348, 3) := by decide +kernel
theorem dX6_hasSoundParts_75 : decode cX6_hasSoundParts 75 = .ok (.ifCond .ne 7, 3) := by decide +kernel
theorem dX6_hasSoundParts_78 : decode cX6_hasSoundParts 78 = .ok (.iconst 1, 1) := by decide +kernel
theorem dX6_hasSoundParts_79 : decode cX6_hasSoundParts 79 = .ok (.goto 4, 3) := by decide +kernel
theorem dX6_hasSoundParts_82 : decode cX6_hasSoundParts 82 = .ok (.iconst 0, 1) := by decide +kernel
theorem dX6_hasSoundParts_83 : decode cX6_hasSoundParts 83 = .ok (.istore_n 1, 1) := by decide +kernel
theorem dX6_hasSoundParts_84 : decode cX6_hasSoundParts 84 = .ok (.aload_n 0, 1) := by decide +kernel
theorem dX6_hasSoundParts_85 : decode cX6_hasSoundParts 85 = .ok (.getfield 24, 3) := by decide +kernel
theorem dX6_hasSoundParts_88 : decode cX6_hasSoundParts 88 = .ok (.getfield 110, 3) := by decide +kernel
theorem dX6_hasSoundParts_91 : decode cX6_hasSoundParts 91 = .ok (.sipush 256, 3) := by decide +kernel
theorem dX6_hasSoundParts_94 : decode cX6_hasSoundParts 94 = .ok (.invokestatic 348, 3) := by decide +kernel
theorem dX6_hasSoundParts_97 : decode cX6_hasSoundParts 97 = .ok (.ifCond .ne 55, 3) := by decide +kernel
theorem dX6_hasSoundParts_100 : decode cX6_hasSoundParts 100 = .ok (.aload_n 0, 1) := by decide +kernel
theorem dX6_hasSoundParts_101 : decode cX6_hasSoundParts 101 = .ok (.getfield 24, 3) := by decide +kernel
theorem dX6_hasSoundParts_104 : decode cX6_hasSoundParts 104 = .ok (.getfield 183, 3) := by decide +kernel
theorem dX6_hasSoundParts_107 : decode cX6_hasSoundParts 107 = .ok (.sipush 256, 3) := by decide +kernel
theorem dX6_hasSoundParts_110 : decode cX6_hasSoundParts 110 = .ok (.invokestatic 348, 3) := by decide +kernel
theorem dX6_hasSoundParts_113 : decode cX6_hasSoundParts 113 = .ok (.ifCond .ne 39, 3) := by decide +kernel
theorem dX6_hasSoundParts_116 : decode cX6_hasSoundParts 116 = .ok (.aload_n 0, 1) := by decide +kernel
theorem dX6_hasSoundParts_117 : decode cX6_hasSoundParts 117 = .ok (.getfield 24, 3) := by decide +kernel
theorem dX6_hasSoundParts_120 : decode cX6_hasSoundParts 120 = .ok (.getfield 186, 3) := by decide +kernel
theorem dX6_hasSoundParts_123 : decode cX6_hasSoundParts 123 = .ok (.sipush 256, 3) := by decide +kernel
theorem dX6_hasSoundParts_126 : decode cX6_hasSoundParts 126 = .ok (.invokestatic 348, 3) := by decide +kernel
theorem dX6_hasSoundParts_129 : decode cX6_hasSoundParts 129 = .ok (.ifCond .ne 23, 3) := by decide +kernel
theorem dX6_hasSoundParts_132 : decode cX6_hasSoundParts 132 = .ok (.aload_n 0, 1) := by decide +kernel
theorem dX6_hasSoundParts_133 : decode cX6_hasSoundParts 133 = .ok (.getfield 24, 3) := by decide +kernel
theorem dX6_hasSoundParts_136 : decode cX6_hasSoundParts 136 = .ok (.getfield 213, 3) := by decide +kernel
theorem dX6_hasSoundParts_139 : decode cX6_hasSoundParts 139 = .ok (.sipush 256, 3) := by decide +kernel
theorem dX6_hasSoundParts_142 : decode cX6_hasSoundParts 142 = .ok (.invokestatic 348, 3) := by decide +kernel
theorem dX6_hasSoundParts_145 : decode cX6_hasSoundParts 145 = .ok (.ifCond .ne 7, 3) := by decide +kernel
theorem dX6_hasSoundParts_148 : decode cX6_hasSoundParts 148 = .ok (.iconst 1, 1) := by decide +kernel
theorem dX6_hasSoundParts_149 : decode cX6_hasSoundParts 149 = .ok (.goto 4, 3) := by decide +kernel
theorem dX6_hasSoundParts_152 : decode cX6_hasSoundParts 152 = .ok (.iconst 0, 1) := by decide +kernel
theorem dX6_hasSoundParts_153 : decode cX6_hasSoundParts 153 = .ok (.istore_n 2, 1) := by decide +kernel
theorem dX6_hasSoundParts_154 : decode cX6_hasSoundParts 154 = .ok (.iload_n 1, 1) := by decide +kernel
theorem dX6_hasSoundParts_155 : decode cX6_hasSoundParts 155 = .ok (.ifCond .eq 11, 3) := by decide +kernel
theorem dX6_hasSoundParts_158 : decode cX6_hasSoundParts 158 = .ok (.iload_n 2, 1) := by decide +kernel
theorem dX6_hasSoundParts_159 : decode cX6_hasSoundParts 159 = .ok (.ifCond .eq 7, 3) := by decide +kernel
theorem dX6_hasSoundParts_162 : decode cX6_hasSoundParts 162 = .ok (.iconst 1, 1) := by decide +kernel
theorem dX6_hasSoundParts_163 : decode cX6_hasSoundParts 163 = .ok (.goto 4, 3) := by decide +kernel
theorem dX6_hasSoundParts_166 : decode cX6_hasSoundParts 166 = .ok (.iconst 0, 1) := by decide +kernel
theorem dX6_hasSoundParts_167 : decode cX6_hasSoundParts 167 = .ok (.ireturn, 1) := by decide +kernel
theorem dX6_isKeptIfNotBegun_0 : decode cX6_isKeptIfNotBegun 0 = .ok (.aload_n 0, 1) := by decide +kernel
theorem dX6_isKeptIfNotBegun_1 : decode cX6_isKeptIfNotBegun 1 = .ok (.getfield 97, 3) := by decide +kernel
theorem dX6_isKeptIfNotBegun_4 : decode cX6_isKeptIfNotBegun 4 = .ok (.ifCond .ne 17, 3) := by decide +kernel
theorem dX6_isKeptIfNotBegun_7 : decode cX6_isKeptIfNotBegun 7 = .ok (.aload_n 0, 1) := by decide +kernel
theorem dX6_isKeptIfNotBegun_8 : decode cX6_isKeptIfNotBegun 8 = .ok (.getfield 12, 3) := by decide +kernel
theorem dX6_isKeptIfNotBegun_11 : decode cX6_isKeptIfNotBegun 11 = .ok (.aload_n 0, 1) := by decide +kernel
theorem dX6_isKeptIfNotBegun_12 : decode cX6_isKeptIfNotBegun 12 = .ok (.getfield 18, 3) := by decide +kernel
theorem dX6_isKeptIfNotBegun_15 : decode cX6_isKeptIfNotBegun 15 = .ok (.invokevirtual 304, 3) := by decide +kernel
theorem dX6_isKeptIfNotBegun_18 : decode cX6_isKeptIfNotBegun 18 = .ok (.ifCond .eq 7, 3) := by decide +kernel
theorem dX6_isKeptIfNotBegun_21 : decode cX6_isKeptIfNotBegun 21 = .ok (.iconst 1, 1) := by decide +kernel
theorem dX6_isKeptIfNotBegun_22 : decode cX6_isKeptIfNotBegun 22 = .ok (.goto 4, 3) := by decide +kernel
theorem dX6_isKeptIfNotBegun_25 : decode cX6_isKeptIfNotBegun 25 = .ok (.iconst 0, 1) := by decide +kernel
theorem dX6_isKeptIfNotBegun_26 : decode cX6_isKeptIfNotBegun 26 = .ok (.ireturn, 1) := by decide +kernel
theorem dX7_init_0 : decode cX7_init 0 = .ok (.aload_n 0, 1) := by decide +kernel
theorem dX7_init_1 : decode cX7_init 1 = .ok (.invokespecial 3, 3) := by decide +kernel
theorem dX7_init_4 : decode cX7_init 4 = .ok (.aload_n 0, 1) := by decide +kernel
theorem dX7_init_5 : decode cX7_init 5 = .ok (.bipush 80, 2) := by decide +kernel
theorem dX7_init_7 : decode cX7_init 7 = .ok (.anewarray 9, 3) := by decide +kernel
theorem dX7_init_10 : decode cX7_init 10 = .ok (.putfield 11, 3) := by decide +kernel
theorem dX7_init_13 : decode cX7_init 13 = .ok (.aload_n 0, 1) := by decide +kernel
theorem dX7_init_14 : decode cX7_init 14 = .ok (.bipush 64, 2) := by decide +kernel
theorem dX7_init_16 : decode cX7_init 16 = .ok (.newarray .boolean, 2) := by decide +kernel
theorem dX7_init_18 : decode cX7_init 18 = .ok (.putfield 17, 3) := by decide +kernel
theorem dX7_init_21 : decode cX7_init 21 = .ok (.aload_n 0, 1) := by decide +kernel
theorem dX7_init_22 : decode cX7_init 22 = .ok (.bipush 32, 2) := by decide +kernel
theorem dX7_init_24 : decode cX7_init 24 = .ok (.newarray .int, 2) := by decide +kernel
theorem dX7_init_26 : decode cX7_init 26 = .ok (.putfield 21, 3) := by decide +kernel
theorem dX7_init_29 : decode cX7_init 29 = .ok (.aload_n 0, 1) := by decide +kernel
theorem dX7_init_30 : decode cX7_init 30 = .ok (.bipush 80, 2) := by decide +kernel
theorem dX7_init_32 : decode cX7_init 32 = .ok (.newarray .int, 2) := by decide +kernel
theorem dX7_init_34 : decode cX7_init 34 = .ok (.putfield 25, 3) := by decide +kernel
theorem dX7_init_37 : decode cX7_init 37 = .ok (.aload_n 0, 1) := by decide +kernel
theorem dX7_init_38 : decode cX7_init 38 = .ok (.getfield 21, 3) := by decide +kernel
theorem dX7_init_41 : decode cX7_init 41 = .ok (.iconst (-1), 1) := by decide +kernel
theorem dX7_init_42 : decode cX7_init 42 = .ok (.invokestatic 28, 3) := by decide +kernel
theorem dX7_init_45 : decode cX7_init 45 = .ok (.aload_n 0, 1) := by decide +kernel
theorem dX7_init_46 : decode cX7_init 46 = .ok (.getfield 25, 3) := by decide +kernel
theorem dX7_init_49 : decode cX7_init 49 = .ok (.iconst (-1), 1) := by decide +kernel
theorem dX7_init_50 : decode cX7_init 50 = .ok (.invokestatic 28, 3) := by decide +kernel
theorem dX7_init_53 : decode cX7_init 53 = .ok (.return_, 1) := by decide +kernel
theorem dX7_wordAt_0 : decode cX7_wordAt 0 = .ok (.iload_n 1, 1) := by decide +kernel
theorem dX7_wordAt_1 : decode cX7_wordAt 1 = .ok (.bipush 80, 2) := by decide +kernel
theorem dX7_wordAt_3 : decode cX7_wordAt 3 = .ok (.invokestatic 34, 3) := by decide +kernel
theorem dX7_wordAt_6 : decode cX7_wordAt 6 = .ok (.ifCond .eq 7, 3) := by decide +kernel
theorem dX7_wordAt_9 : decode cX7_wordAt 9 = .ok (.aconst_null, 1) := by decide +kernel
theorem dX7_wordAt_10 : decode cX7_wordAt 10 = .ok (.goto 9, 3) := by decide +kernel
theorem dX7_wordAt_13 : decode cX7_wordAt 13 = .ok (.aload_n 0, 1) := by decide +kernel
theorem dX7_wordAt_14 : decode cX7_wordAt 14 = .ok (.getfield 11, 3) := by decide +kernel
theorem dX7_wordAt_17 : decode cX7_wordAt 17 = .ok (.iload_n 1, 1) := by decide +kernel
theorem dX7_wordAt_18 : decode cX7_wordAt 18 = .ok (.aaload, 1) := by decide +kernel
theorem dX7_wordAt_19 : decode cX7_wordAt 19 = .ok (.areturn, 1) := by decide +kernel
theorem dX7_claim_0 : decode cX7_claim 0 = .ok (.aload_n 0, 1) := by decide +kernel
theorem dX7_claim_1 : decode cX7_claim 1 = .ok (.getfield 11, 3) := by decide +kernel
theorem dX7_claim_4 : decode cX7_claim 4 = .ok (.iload_n 1, 1) := by decide +kernel
theorem dX7_claim_5 : decode cX7_claim 5 = .ok (.aaload, 1) := by decide +kernel
theorem dX7_claim_6 : decode cX7_claim 6 = .ok (.astore_n 2, 1) := by decide +kernel
theorem dX7_claim_7 : decode cX7_claim 7 = .ok (.aload_n 2, 1) := by decide +kernel
theorem dX7_claim_8 : decode cX7_claim 8 = .ok (.ifnonnull 28, 3) := by decide +kernel
theorem dX7_claim_11 : decode cX7_claim 11 = .ok (.new 9, 3) := by decide +kernel
theorem dX7_claim_14 : decode cX7_claim 14 = .ok (.dup, 1) := by decide +kernel
theorem dX7_claim_15 : decode cX7_claim 15 = .ok (.invokespecial 38, 3) := by decide +kernel
theorem dX7_claim_18 : decode cX7_claim 18 = .ok (.astore_n 2, 1) := by decide +kernel
theorem dX7_claim_19 : decode cX7_claim 19 = .ok (.aload_n 0, 1) := by decide +kernel
theorem dX7_claim_20 : decode cX7_claim 20 = .ok (.getfield 11, 3) := by decide +kernel
theorem dX7_claim_23 : decode cX7_claim 23 = .ok (.iload_n 1, 1) := by decide +kernel
theorem dX7_claim_24 : decode cX7_claim 24 = .ok (.aload_n 2, 1) := by decide +kernel
theorem dX7_claim_25 : decode cX7_claim 25 = .ok (.aastore, 1) := by decide +kernel
theorem dX7_claim_26 : decode cX7_claim 26 = .ok (.aload_n 0, 1) := by decide +kernel
theorem dX7_claim_27 : decode cX7_claim 27 = .ok (.dup, 1) := by decide +kernel
theorem dX7_claim_28 : decode cX7_claim 28 = .ok (.getfield 39, 3) := by decide +kernel
theorem dX7_claim_31 : decode cX7_claim 31 = .ok (.iconst 1, 1) := by decide +kernel
theorem dX7_claim_32 : decode cX7_claim 32 = .ok (.iadd, 1) := by decide +kernel
theorem dX7_claim_33 : decode cX7_claim 33 = .ok (.putfield 39, 3) := by decide +kernel
theorem dX7_claim_36 : decode cX7_claim 36 = .ok (.aload_n 2, 1) := by decide +kernel
theorem dX7_claim_37 : decode cX7_claim 37 = .ok (.areturn, 1) := by decide +kernel
theorem dX7_isFree_0 : decode cX7_isFree 0 = .ok (.aload_n 0, 1) := by decide +kernel
theorem dX7_isFree_1 : decode cX7_isFree 1 = .ok (.getfield 11, 3) := by decide +kernel
theorem dX7_isFree_4 : decode cX7_isFree 4 = .ok (.iload_n 1, 1) := by decide +kernel
theorem dX7_isFree_5 : decode cX7_isFree 5 = .ok (.aaload, 1) := by decide +kernel
theorem dX7_isFree_6 : decode cX7_isFree 6 = .ok (.ifnonnull 16, 3) := by decide +kernel
theorem dX7_isFree_9 : decode cX7_isFree 9 = .ok (.aload_n 0, 1) := by decide +kernel
theorem dX7_isFree_10 : decode cX7_isFree 10 = .ok (.getfield 17, 3) := by decide +kernel
theorem dX7_isFree_13 : decode cX7_isFree 13 = .ok (.iload_n 1, 1) := by decide +kernel
theorem dX7_isFree_14 : decode cX7_isFree 14 = .ok (.baload, 1) := by decide +kernel
theorem dX7_isFree_15 : decode cX7_isFree 15 = .ok (.ifCond .ne 7, 3) := by decide +kernel
theorem dX7_isFree_18 : decode cX7_isFree 18 = .ok (.iconst 1, 1) := by decide +kernel
theorem dX7_isFree_19 : decode cX7_isFree 19 = .ok (.goto 4, 3) := by decide +kernel
theorem dX7_isFree_22 : decode cX7_isFree 22 = .ok (.iconst 0, 1) := by decide +kernel
theorem dX7_isFree_23 : decode cX7_isFree 23 = .ok (.ireturn, 1) := by decide +kernel
theorem dX7_freeCount_0 : decode cX7_freeCount 0 = .ok (.iconst 0, 1) := by decide +kernel
theorem dX7_freeCount_1 : decode cX7_freeCount 1 = .ok (.istore_n 1, 1) := by decide +kernel
theorem dX7_freeCount_2 : decode cX7_freeCount 2 = .ok (.iconst 0, 1) := by decide +kernel
theorem dX7_freeCount_3 : decode cX7_freeCount 3 = .ok (.istore_n 2, 1) := by decide +kernel
theorem dX7_freeCount_4 : decode cX7_freeCount 4 = .ok (.iload_n 2, 1) := by decide +kernel
theorem dX7_freeCount_5 : decode cX7_freeCount 5 = .ok (.bipush 64, 2) := by decide +kernel
theorem dX7_freeCount_7 : decode cX7_freeCount 7 = .ok (.if_icmp .ge 20, 3) := by decide +kernel
theorem dX7_freeCount_10 : decode cX7_freeCount 10 = .ok (.aload_n 0, 1) := by decide +kernel
theorem dX7_freeCount_11 : decode cX7_freeCount 11 = .ok (.iload_n 2, 1) := by decide +kernel
theorem dX7_freeCount_12 : decode cX7_freeCount 12 = .ok (.invokevirtual 43, 3) := by decide +kernel
theorem dX7_freeCount_15 : decode cX7_freeCount 15 = .ok (.ifCond .eq 6, 3) := by decide +kernel
theorem dX7_freeCount_18 : decode cX7_freeCount 18 = .ok (.iinc 1 1, 3) := by decide +kernel
theorem dX7_freeCount_21 : decode cX7_freeCount 21 = .ok (.iinc 2 1, 3) := by decide +kernel
theorem dX7_freeCount_24 : decode cX7_freeCount 24 = .ok (.goto (-20), 3) := by decide +kernel
theorem dX7_freeCount_27 : decode cX7_freeCount 27 = .ok (.iload_n 1, 1) := by decide +kernel
theorem dX7_freeCount_28 : decode cX7_freeCount 28 = .ok (.ireturn, 1) := by decide +kernel
theorem dX7_reserveBlock_0 : decode cX7_reserveBlock 0 = .ok (.iconst 0, 1) := by decide +kernel
theorem dX7_reserveBlock_1 : decode cX7_reserveBlock 1 = .ok (.istore_n 2, 1) := by decide +kernel
theorem dX7_reserveBlock_2 : decode cX7_reserveBlock 2 = .ok (.iload_n 2, 1) := by decide +kernel
theorem dX7_reserveBlock_3 : decode cX7_reserveBlock 3 = .ok (.iload_n 1, 1) := by decide +kernel
theorem dX7_reserveBlock_4 : decode cX7_reserveBlock 4 = .ok (.iadd, 1) := by decide +kernel
theorem dX7_reserveBlock_5 : decode cX7_reserveBlock 5 = .ok (.bipush 64, 2) := by decide +kernel
theorem dX7_reserveBlock_7 : decode cX7_reserveBlock 7 = .ok (.if_icmp .gt 43, 3) := by decide +kernel
theorem dX7_reserveBlock_10 : decode cX7_reserveBlock 10 = .ok (.aload_n 0, 1) := by decide +kernel
theorem dX7_reserveBlock_11 : decode cX7_reserveBlock 11 = .ok (.iload_n 2, 1) := by decide +kernel
theorem dX7_reserveBlock_12 : decode cX7_reserveBlock 12 = .ok (.iload_n 1, 1) := by decide +kernel
theorem dX7_reserveBlock_13 : decode cX7_reserveBlock 13 = .ok (.invokevirtual 47, 3) := by decide +kernel
theorem dX7_reserveBlock_16 : decode cX7_reserveBlock 16 = .ok (.ifCond .eq 27, 3) := by decide +kernel
theorem dX7_reserveBlock_19 : decode cX7_reserveBlock 19 = .ok (.iload_n 2, 1) := by decide +kernel
theorem dX7_reserveBlock_20 : decode cX7_reserveBlock 20 = .ok (.istore_n 3, 1) := by decide +kernel
theorem dX7_reserveBlock_21 : decode cX7_reserveBlock 21 = .ok (.iload_n 3, 1) := by decide +kernel
theorem dX7_reserveBlock_22 : decode cX7_reserveBlock 22 = .ok (.iload_n 2, 1) := by decide +kernel
theorem dX7_reserveBlock_23 : decode cX7_reserveBlock 23 = .ok (.iload_n 1, 1) := by decide +kernel
theorem dX7_reserveBlock_24 : decode cX7_reserveBlock 24 = .ok (.iadd, 1) := by decide +kernel
theorem dX7_reserveBlock_25 : decode cX7_reserveBlock 25 = .ok (.if_icmp .ge 16, 3) := by decide +kernel
theorem dX7_reserveBlock_28 : decode cX7_reserveBlock 28 = .ok (.aload_n 0, 1) := by decide +kernel
theorem dX7_reserveBlock_29 : decode cX7_reserveBlock 29 = .ok (.getfield 17, 3) := by decide +kernel
theorem dX7_reserveBlock_32 : decode cX7_reserveBlock 32 = .ok (.iload_n 3, 1) := by decide +kernel
theorem dX7_reserveBlock_33 : decode cX7_reserveBlock 33 = .ok (.iconst 1, 1) := by decide +kernel
theorem dX7_reserveBlock_34 : decode cX7_reserveBlock 34 = .ok (.bastore, 1) := by decide +kernel
theorem dX7_reserveBlock_35 : decode cX7_reserveBlock 35 = .ok (.iinc 3 1, 3) := by decide +kernel
theorem dX7_reserveBlock_38 : decode cX7_reserveBlock 38 = .ok (.goto (-17), 3) := by decide +kernel
theorem dX7_reserveBlock_41 : decode cX7_reserveBlock 41 = .ok (.iload_n 2, 1) := by decide +kernel
theorem dX7_reserveBlock_42 : decode cX7_reserveBlock 42 = .ok (.ireturn, 1) := by decide +kernel
theorem dX7_reserveBlock_43 : decode cX7_reserveBlock 43 = .ok (.iload_n 2, 1) := by decide +kernel
theorem dX7_reserveBlock_44 : decode cX7_reserveBlock 44 = .ok (.iload_n 1, 1) := by decide +kernel
theorem dX7_reserveBlock_45 : decode cX7_reserveBlock 45 = .ok (.iadd, 1) := by decide +kernel
theorem dX7_reserveBlock_46 : decode cX7_reserveBlock 46 = .ok (.istore_n 2, 1) := by decide +kernel
theorem dX7_reserveBlock_47 : decode cX7_reserveBlock 47 = .ok (.goto (-45), 3) := by decide +kernel
theorem dX7_reserveBlock_50 : decode cX7_reserveBlock 50 = .ok (.iconst (-1), 1) := by decide +kernel
theorem dX7_reserveBlock_51 : decode cX7_reserveBlock 51 = .ok (.ireturn, 1) := by decide +kernel
theorem dX7_isFreeBlock_0 : decode cX7_isFreeBlock 0 = .ok (.iload_n 1, 1) := by decide +kernel
theorem dX7_isFreeBlock_1 : decode cX7_isFreeBlock 1 = .ok (.istore_n 3, 1) := by decide +kernel
theorem dX7_isFreeBlock_2 : decode cX7_isFreeBlock 2 = .ok (.iload_n 3, 1) := by decide +kernel
theorem dX7_isFreeBlock_3 : decode cX7_isFreeBlock 3 = .ok (.iload_n 1, 1) := by decide +kernel
theorem dX7_isFreeBlock_4 : decode cX7_isFreeBlock 4 = .ok (.iload_n 2, 1) := by decide +kernel
theorem dX7_isFreeBlock_5 : decode cX7_isFreeBlock 5 = .ok (.iadd, 1) := by decide +kernel
theorem dX7_isFreeBlock_6 : decode cX7_isFreeBlock 6 = .ok (.if_icmp .ge 19, 3) := by decide +kernel
theorem dX7_isFreeBlock_9 : decode cX7_isFreeBlock 9 = .ok (.aload_n 0, 1) := by decide +kernel
theorem dX7_isFreeBlock_10 : decode cX7_isFreeBlock 10 = .ok (.iload_n 3, 1) := by decide +kernel
theorem dX7_isFreeBlock_11 : decode cX7_isFreeBlock 11 = .ok (.invokevirtual 43, 3) := by decide +kernel
theorem dX7_isFreeBlock_14 : decode cX7_isFreeBlock 14 = .ok (.ifCond .ne 5, 3) := by decide +kernel
theorem dX7_isFreeBlock_17 : decode cX7_isFreeBlock 17 = .ok (.iconst 0, 1) := by decide +kernel
theorem dX7_isFreeBlock_18 : decode cX7_isFreeBlock 18 = .ok (.ireturn, 1) := by decide +kernel
theorem dX7_isFreeBlock_19 : decode cX7_isFreeBlock 19 = .ok (.iinc 3 1, 3) := by decide +kernel
theorem dX7_isFreeBlock_22 : decode cX7_isFreeBlock 22 = .ok (.goto (-20), 3) := by decide +kernel
theorem dX7_isFreeBlock_25 : decode cX7_isFreeBlock 25 = .ok (.iconst 1, 1) := by decide +kernel
theorem dX7_isFreeBlock_26 : decode cX7_isFreeBlock 26 = .ok (.ireturn, 1) := by decide +kernel
theorem dX7_entryOf_0 : decode cX7_entryOf 0 = .ok (.aload_n 0, 1) := by decide +kernel
theorem dX7_entryOf_1 : decode cX7_entryOf 1 = .ok (.getfield 21, 3) := by decide +kernel
theorem dX7_entryOf_4 : decode cX7_entryOf 4 = .ok (.iload_n 1, 1) := by decide +kernel
theorem dX7_entryOf_5 : decode cX7_entryOf 5 = .ok (.iconst 1, 1) := by decide +kernel
theorem dX7_entryOf_6 : decode cX7_entryOf 6 = .ok (.iand, 1) := by decide +kernel
theorem dX7_entryOf_7 : decode cX7_entryOf 7 = .ok (.bipush 16, 2) := by decide +kernel
theorem dX7_entryOf_9 : decode cX7_entryOf 9 = .ok (.imul, 1) := by decide +kernel
theorem dX7_entryOf_10 : decode cX7_entryOf 10 = .ok (.iload_n 2, 1) := by decide +kernel
theorem dX7_entryOf_11 : decode cX7_entryOf 11 = .ok (.bipush 15, 2) := by decide +kernel
theorem dX7_entryOf_13 : decode cX7_entryOf 13 = .ok (.iand, 1) := by decide +kernel
theorem dX7_entryOf_14 : decode cX7_entryOf 14 = .ok (.iadd, 1) := by decide +kernel
theorem dX7_entryOf_15 : decode cX7_entryOf 15 = .ok (.iaload, 1) := by decide +kernel
theorem dX7_entryOf_16 : decode cX7_entryOf 16 = .ok (.ireturn, 1) := by decide +kernel
theorem dX7_replaceEntry_0 : decode cX7_replaceEntry 0 = .ok (.aload_n 0, 1) := by decide +kernel
theorem dX7_replaceEntry_1 : decode cX7_replaceEntry 1 = .ok (.iload_n 1, 1) := by decide +kernel
theorem dX7_replaceEntry_2 : decode cX7_replaceEntry 2 = .ok (.iload_n 2, 1) := by decide +kernel
theorem dX7_replaceEntry_3 : decode cX7_replaceEntry 3 = .ok (.invokevirtual 50, 3) := by decide +kernel
theorem dX7_replaceEntry_6 : decode cX7_replaceEntry 6 = .ok (.istore 4, 2) := by decide +kernel
theorem dX7_replaceEntry_8 : decode cX7_replaceEntry 8 = .ok (.aload_n 0, 1) := by decide +kernel
theorem dX7_replaceEntry_9 : decode cX7_replaceEntry 9 = .ok (.getfield 21, 3) := by decide +kernel
theorem dX7_replaceEntry_12 : decode cX7_replaceEntry 12 = .ok (.iload_n 1, 1) := by decide +kernel
theorem dX7_replaceEntry_13 : decode cX7_replaceEntry 13 = .ok (.iconst 1, 1) := by decide +kernel
theorem dX7_replaceEntry_14 : decode cX7_replaceEntry 14 = .ok (.iand, 1) := by decide +kernel
theorem dX7_replaceEntry_15 : decode cX7_replaceEntry 15 = .ok (.bipush 16, 2) := by decide +kernel
theorem dX7_replaceEntry_17 : decode cX7_replaceEntry 17 = .ok (.imul, 1) := by decide +kernel
theorem dX7_replaceEntry_18 : decode cX7_replaceEntry 18 = .ok (.iload_n 2, 1) := by decide +kernel
theorem dX7_replaceEntry_19 : decode cX7_replaceEntry 19 = .ok (.bipush 15, 2) := by decide +kernel
theorem dX7_replaceEntry_21 : decode cX7_replaceEntry 21 = .ok (.iand, 1) := by decide +kernel
theorem dX7_replaceEntry_22 : decode cX7_replaceEntry 22 = .ok (.iadd, 1) := by decide +kernel
theorem dX7_replaceEntry_23 : decode cX7_replaceEntry 23 = .ok (.iload_n 3, 1) := by decide +kernel
theorem dX7_replaceEntry_24 : decode cX7_replaceEntry 24 = .ok (.iastore, 1) := by decide +kernel
theorem dX7_replaceEntry_25 : decode cX7_replaceEntry 25 = .ok (.iload 4, 2) := by decide +kernel
theorem dX7_replaceEntry_27 : decode cX7_replaceEntry 27 = .ok (.ireturn, 1) := by decide +kernel
theorem dX7_isCaught_0 : decode cX7_isCaught 0 = .ok (.iload_n 1, 1) := by decide +kernel
theorem dX7_isCaught_1 : decode cX7_isCaught 1 = .ok (.bipush 80, 2) := by decide +kernel
theorem dX7_isCaught_3 : decode cX7_isCaught 3 = .ok (.invokestatic 34, 3) := by decide +kernel
theorem dX7_isCaught_6 : decode cX7_isCaught 6 = .ok (.ifCond .ne 17, 3) := by decide +kernel
theorem dX7_isCaught_9 : decode cX7_isCaught 9 = .ok (.aload_n 0, 1) := by decide +kernel
theorem dX7_isCaught_10 : decode cX7_isCaught 10 = .ok (.getfield 25, 3) := by decide +kernel
theorem dX7_isCaught_13 : decode cX7_isCaught 13 = .ok (.iload_n 1, 1) := by decide +kernel
theorem dX7_isCaught_14 : decode cX7_isCaught 14 = .ok (.iaload, 1) := by decide +kernel
theorem dX7_isCaught_15 : decode cX7_isCaught 15 = .ok (.iconst (-1), 1) := by decide +kernel
theorem dX7_isCaught_16 : decode cX7_isCaught 16 = .ok (.if_icmp .eq 7, 3) := by decide +kernel
theorem dX7_isCaught_19 : decode cX7_isCaught 19 = .ok (.iconst 1, 1) := by decide +kernel
theorem dX7_isCaught_20 : decode cX7_isCaught 20 = .ok (.goto 4, 3) := by decide +kernel
theorem dX7_isCaught_23 : decode cX7_isCaught 23 = .ok (.iconst 0, 1) := by decide +kernel
theorem dX7_isCaught_24 : decode cX7_isCaught 24 = .ok (.ireturn, 1) := by decide +kernel
theorem dX7_replaceCatch_0 : decode cX7_replaceCatch 0 = .ok (.aload_n 0, 1) := by decide +kernel
theorem dX7_replaceCatch_1 : decode cX7_replaceCatch 1 = .ok (.iload_n 1, 1) := by decide +kernel
theorem dX7_replaceCatch_2 : decode cX7_replaceCatch 2 = .ok (.invokevirtual 54, 3) := by decide +kernel
theorem dX7_replaceCatch_5 : decode cX7_replaceCatch 5 = .ok (.ifCond .eq 13, 3) := by decide +kernel
theorem dX7_replaceCatch_8 : decode cX7_replaceCatch 8 = .ok (.aload_n 0, 1) := by decide +kernel
theorem dX7_replaceCatch_9 : decode cX7_replaceCatch 9 = .ok (.dup, 1) := by decide +kernel
theorem dX7_replaceCatch_10 : decode cX7_replaceCatch 10 = .ok (.getfield 57, 3) := by decide +kernel
theorem dX7_replaceCatch_13 : decode cX7_replaceCatch 13 = .ok (.iconst 1, 1) := by decide +kernel
theorem dX7_replaceCatch_14 : decode cX7_replaceCatch 14 = .ok (.isub, 1) := by decide +kernel
theorem dX7_replaceCatch_15 : decode cX7_replaceCatch 15 = .ok (.putfield 57, 3) := by decide +kernel
theorem dX7_replaceCatch_18 : decode cX7_replaceCatch 18 = .ok (.aload_n 0, 1) := by decide +kernel
theorem dX7_replaceCatch_19 : decode cX7_replaceCatch 19 = .ok (.getfield 25, 3) := by decide +kernel
theorem dX7_replaceCatch_22 : decode cX7_replaceCatch 22 = .ok (.iload_n 1, 1) := by decide +kernel
theorem dX7_replaceCatch_23 : decode cX7_replaceCatch 23 = .ok (.iload_n 2, 1) := by decide +kernel
theorem dX7_replaceCatch_24 : decode cX7_replaceCatch 24 = .ok (.iastore, 1) := by decide +kernel
theorem dX7_replaceCatch_25 : decode cX7_replaceCatch 25 = .ok (.aload_n 0, 1) := by decide +kernel
theorem dX7_replaceCatch_26 : decode cX7_replaceCatch 26 = .ok (.iload_n 1, 1) := by decide +kernel
theorem dX7_replaceCatch_27 : decode cX7_replaceCatch 27 = .ok (.invokevirtual 54, 3) := by decide +kernel
theorem dX7_replaceCatch_30 : decode cX7_replaceCatch 30 = .ok (.ifCond .eq 13, 3) := by decide +kernel
theorem dX7_replaceCatch_33 : decode cX7_replaceCatch 33 = .ok (.aload_n 0, 1) := by decide +kernel
theorem dX7_replaceCatch_34 : decode cX7_replaceCatch 34 = .ok (.dup, 1) := by decide +kernel
theorem dX7_replaceCatch_35 : decode cX7_replaceCatch 35 = .ok (.getfield 57, 3) := by decide +kernel
theorem dX7_replaceCatch_38 : decode cX7_replaceCatch 38 = .ok (.iconst 1, 1) := by decide +kernel
theorem dX7_replaceCatch_39 : decode cX7_replaceCatch 39 = .ok (.iadd, 1) := by decide +kernel
theorem dX7_replaceCatch_40 : decode cX7_replaceCatch 40 = .ok (.putfield 57, 3) := by decide +kernel
theorem dX7_replaceCatch_43 : decode cX7_replaceCatch 43 = .ok (.return_, 1) := by decide +kernel
theorem dX7_followed_0 : decode cX7_followed 0 = .ok (.aload_n 0, 1) := by decide +kernel
theorem dX7_followed_1 : decode cX7_followed 1 = .ok (.iload_n 1, 1) := by decide +kernel
theorem dX7_followed_2 : decode cX7_followed 2 = .ok (.invokevirtual 54, 3) := by decide +kernel
theorem dX7_followed_5 : decode cX7_followed 5 = .ok (.ifCond .eq 12, 3) := by decide +kernel
theorem dX7_followed_8 : decode cX7_followed 8 = .ok (.aload_n 0, 1) := by decide +kernel
theorem dX7_followed_9 : decode cX7_followed 9 = .ok (.getfield 25, 3) := by decide +kernel
theorem dX7_followed_12 : decode cX7_followed 12 = .ok (.iload_n 1, 1) := by decide +kernel
theorem dX7_followed_13 : decode cX7_followed 13 = .ok (.iaload, 1) := by decide +kernel
theorem dX7_followed_14 : decode cX7_followed 14 = .ok (.goto 4, 3) := by decide +kernel
theorem dX7_followed_17 : decode cX7_followed 17 = .ok (.iload_n 1, 1) := by decide +kernel
theorem dX7_followed_18 : decode cX7_followed 18 = .ok (.ireturn, 1) := by decide +kernel
theorem dX8_init_0 : decode cX8_init 0 = .ok (.aload_n 0, 1) := by decide +kernel
theorem dX8_init_1 : decode cX8_init 1 = .ok (.invokespecial 3, 3) := by decide +kernel
theorem dX8_init_4 : decode cX8_init 4 = .ok (.aload_n 0, 1) := by decide +kernel
theorem dX8_init_5 : decode cX8_init 5 = .ok (.iconst 4, 1) := by decide +kernel
theorem dX8_init_6 : decode cX8_init 6 = .ok (.newarray .int, 2) := by decide +kernel
theorem dX8_init_8 : decode cX8_init 8 = .ok (.putfield 9, 3) := by decide +kernel
theorem dX8_init_11 : decode cX8_init 11 = .ok (.return_, 1) := by decide +kernel
theorem dX8_copyFrom_0 : decode cX8_copyFrom 0 = .ok (.iconst 0, 1) := by decide +kernel
theorem dX8_copyFrom_1 : decode cX8_copyFrom 1 = .ok (.istore_n 2, 1) := by decide +kernel
theorem dX8_copyFrom_2 : decode cX8_copyFrom 2 = .ok (.iload_n 2, 1) := by decide +kernel
theorem dX8_copyFrom_3 : decode cX8_copyFrom 3 = .ok (.iconst 4, 1) := by decide +kernel
theorem dX8_copyFrom_4 : decode cX8_copyFrom 4 = .ok (.if_icmp .ge 21, 3) := by decide +kernel
theorem dX8_copyFrom_7 : decode cX8_copyFrom 7 = .ok (.aload_n 0, 1) := by decide +kernel
theorem dX8_copyFrom_8 : decode cX8_copyFrom 8 = .ok (.getfield 9, 3) := by decide +kernel
theorem dX8_copyFrom_11 : decode cX8_copyFrom 11 = .ok (.iload_n 2, 1) := by decide +kernel
theorem dX8_copyFrom_12 : decode cX8_copyFrom 12 = .ok (.aload_n 1, 1) := by decide +kernel
theorem dX8_copyFrom_13 : decode cX8_copyFrom 13 = .ok (.getfield 9, 3) := by decide +kernel
theorem dX8_copyFrom_16 : decode cX8_copyFrom 16 = .ok (.iload_n 2, 1) := by decide +kernel
theorem dX8_copyFrom_17 : decode cX8_copyFrom 17 = .ok (.iaload, 1) := by decide +kernel
theorem dX8_copyFrom_18 : decode cX8_copyFrom 18 = .ok (.iastore, 1) := by decide +kernel
theorem dX8_copyFrom_19 : decode cX8_copyFrom 19 = .ok (.iinc 2 1, 3) := by decide +kernel
theorem dX8_copyFrom_22 : decode cX8_copyFrom 22 = .ok (.goto (-20), 3) := by decide +kernel
theorem dX8_copyFrom_25 : decode cX8_copyFrom 25 = .ok (.aload_n 0, 1) := by decide +kernel
theorem dX8_copyFrom_26 : decode cX8_copyFrom 26 = .ok (.aload_n 1, 1) := by decide +kernel
theorem dX8_copyFrom_27 : decode cX8_copyFrom 27 = .ok (.getfield 15, 3) := by decide +kernel
theorem dX8_copyFrom_30 : decode cX8_copyFrom 30 = .ok (.putfield 15, 3) := by decide +kernel
theorem dX8_copyFrom_33 : decode cX8_copyFrom 33 = .ok (.aload_n 0, 1) := by decide +kernel
theorem dX8_copyFrom_34 : decode cX8_copyFrom 34 = .ok (.aload_n 1, 1) := by decide +kernel
theorem dX8_copyFrom_35 : decode cX8_copyFrom 35 = .ok (.getfield 19, 3) := by decide +kernel
theorem dX8_copyFrom_38 : decode cX8_copyFrom 38 = .ok (.putfield 19, 3) := by decide +kernel
theorem dX8_copyFrom_41 : decode cX8_copyFrom 41 = .ok (.aload_n 0, 1) := by decide +kernel
theorem dX8_copyFrom_42 : decode cX8_copyFrom 42 = .ok (.aload_n 1, 1) := by decide +kernel
theorem dX8_copyFrom_43 : decode cX8_copyFrom 43 = .ok (.getfield 22, 3) := by decide +kernel
theorem dX8_copyFrom_46 : decode cX8_copyFrom 46 = .ok (.putfield 22, 3) := by decide +kernel
theorem dX8_copyFrom_49 : decode cX8_copyFrom 49 = .ok (.aload_n 0, 1) := by decide +kernel
theorem dX8_copyFrom_50 : decode cX8_copyFrom 50 = .ok (.aload_n 1, 1) := by decide +kernel
theorem dX8_copyFrom_51 : decode cX8_copyFrom 51 = .ok (.getfield 25, 3) := by decide +kernel
theorem dX8_copyFrom_54 : decode cX8_copyFrom 54 = .ok (.putfield 25, 3) := by decide +kernel
theorem dX8_copyFrom_57 : decode cX8_copyFrom 57 = .ok (.aload_n 0, 1) := by decide +kernel
theorem dX8_copyFrom_58 : decode cX8_copyFrom 58 = .ok (.aload_n 1, 1) := by decide +kernel
theorem dX8_copyFrom_59 : decode cX8_copyFrom 59 = .ok (.getfield 28, 3) := by decide +kernel
theorem dX8_copyFrom_62 : decode cX8_copyFrom 62 = .ok (.putfield 28, 3) := by decide +kernel
theorem dX8_copyFrom_65 : decode cX8_copyFrom 65 = .ok (.aload_n 0, 1) := by decide +kernel
theorem dX8_copyFrom_66 : decode cX8_copyFrom 66 = .ok (.aload_n 1, 1) := by decide +kernel
theorem dX8_copyFrom_67 : decode cX8_copyFrom 67 = .ok (.getfield 31, 3) := by decide +kernel
theorem dX8_copyFrom_70 : decode cX8_copyFrom 70 = .ok (.putfield 31, 3) := by decide +kernel
theorem dX8_copyFrom_73 : decode cX8_copyFrom 73 = .ok (.return_, 1) := by decide +kernel
theorem dX8_isAs_0 : decode cX8_isAs 0 = .ok (.iconst 0, 1) := by decide +kernel
theorem dX8_isAs_1 : decode cX8_isAs 1 = .ok (.istore_n 2, 1) := by decide +kernel
theorem dX8_isAs_2 : decode cX8_isAs 2 = .ok (.iload_n 2, 1) := by decide +kernel
theorem dX8_isAs_3 : decode cX8_isAs 3 = .ok (.iconst 4, 1) := by decide +kernel
theorem dX8_isAs_4 : decode cX8_isAs 4 = .ok (.if_icmp .ge 26, 3) := by decide +kernel
theorem dX8_isAs_7 : decode cX8_isAs 7 = .ok (.aload_n 0, 1) := by decide +kernel
theorem dX8_isAs_8 : decode cX8_isAs 8 = .ok (.getfield 9, 3) := by decide +kernel
theorem dX8_isAs_11 : decode cX8_isAs 11 = .ok (.iload_n 2, 1) := by decide +kernel
theorem dX8_isAs_12 : decode cX8_isAs 12 = .ok (.iaload, 1) := by decide +kernel
theorem dX8_isAs_13 : decode cX8_isAs 13 = .ok (.aload_n 1, 1) := by decide +kernel
theorem dX8_isAs_14 : decode cX8_isAs 14 = .ok (.getfield 9, 3) := by decide +kernel
theorem dX8_isAs_17 : decode cX8_isAs 17 = .ok (.iload_n 2, 1) := by decide +kernel
theorem dX8_isAs_18 : decode cX8_isAs 18 = .ok (.iaload, 1) := by decide +kernel
theorem dX8_isAs_19 : decode cX8_isAs 19 = .ok (.if_icmp .eq 5, 3) := by decide +kernel
theorem dX8_isAs_22 : decode cX8_isAs 22 = .ok (.iconst 0, 1) := by decide +kernel
theorem dX8_isAs_23 : decode cX8_isAs 23 = .ok (.ireturn, 1) := by decide +kernel
theorem dX8_isAs_24 : decode cX8_isAs 24 = .ok (.iinc 2 1, 3) := by decide +kernel
theorem dX8_isAs_27 : decode cX8_isAs 27 = .ok (.goto (-25), 3) := by decide +kernel
theorem dX8_isAs_30 : decode cX8_isAs 30 = .ok (.aload_n 0, 1) := by decide +kernel
theorem dX8_isAs_31 : decode cX8_isAs 31 = .ok (.getfield 15, 3) := by decide +kernel
theorem dX8_isAs_34 : decode cX8_isAs 34 = .ok (.aload_n 1, 1) := by decide +kernel
theorem dX8_isAs_35 : decode cX8_isAs 35 = .ok (.getfield 15, 3) := by decide +kernel
theorem dX8_isAs_38 : decode cX8_isAs 38 = .ok (.if_icmp .ne 62, 3) := by decide +kernel
theorem dX8_isAs_41 : decode cX8_isAs 41 = .ok (.aload_n 0, 1) := by decide +kernel
theorem dX8_isAs_42 : decode cX8_isAs 42 = .ok (.getfield 19, 3) := by decide +kernel
theorem dX8_isAs_45 : decode cX8_isAs 45 = .ok (.aload_n 1, 1) := by decide +kernel
theorem dX8_isAs_46 : decode cX8_isAs 46 = .ok (.getfield 19, 3) := by decide +kernel
theorem dX8_isAs_49 : decode cX8_isAs 49 = .ok (.if_icmp .ne 51, 3) := by decide +kernel
theorem dX8_isAs_52 : decode cX8_isAs 52 = .ok (.aload_n 0, 1) := by decide +kernel
theorem dX8_isAs_53 : decode cX8_isAs 53 = .ok (.getfield 22, 3) := by decide +kernel
theorem dX8_isAs_56 : decode cX8_isAs 56 = .ok (.aload_n 1, 1) := by decide +kernel
theorem dX8_isAs_57 : decode cX8_isAs 57 = .ok (.getfield 22, 3) := by decide +kernel
theorem dX8_isAs_60 : decode cX8_isAs 60 = .ok (.if_icmp .ne 40, 3) := by decide +kernel
theorem dX8_isAs_63 : decode cX8_isAs 63 = .ok (.aload_n 0, 1) := by decide +kernel
theorem dX8_isAs_64 : decode cX8_isAs 64 = .ok (.getfield 25, 3) := by decide +kernel
theorem dX8_isAs_67 : decode cX8_isAs 67 = .ok (.aload_n 1, 1) := by decide +kernel
theorem dX8_isAs_68 : decode cX8_isAs 68 = .ok (.getfield 25, 3) := by decide +kernel
theorem dX8_isAs_71 : decode cX8_isAs 71 = .ok (.if_icmp .ne 29, 3) := by decide +kernel
theorem dX8_isAs_74 : decode cX8_isAs 74 = .ok (.aload_n 0, 1) := by decide +kernel
theorem dX8_isAs_75 : decode cX8_isAs 75 = .ok (.getfield 28, 3) := by decide +kernel
theorem dX8_isAs_78 : decode cX8_isAs 78 = .ok (.aload_n 1, 1) := by decide +kernel
theorem dX8_isAs_79 : decode cX8_isAs 79 = .ok (.getfield 28, 3) := by decide +kernel
theorem dX8_isAs_82 : decode cX8_isAs 82 = .ok (.if_icmp .ne 18, 3) := by decide +kernel
theorem dX8_isAs_85 : decode cX8_isAs 85 = .ok (.aload_n 0, 1) := by decide +kernel
theorem dX8_isAs_86 : decode cX8_isAs 86 = .ok (.getfield 31, 3) := by decide +kernel
theorem dX8_isAs_89 : decode cX8_isAs 89 = .ok (.aload_n 1, 1) := by decide +kernel
theorem dX8_isAs_90 : decode cX8_isAs 90 = .ok (.getfield 31, 3) := by decide +kernel
theorem dX8_isAs_93 : decode cX8_isAs 93 = .ok (.if_icmp .ne 7, 3) := by decide +kernel
theorem dX8_isAs_96 : decode cX8_isAs 96 = .ok (.iconst 1, 1) := by decide +kernel
theorem dX8_isAs_97 : decode cX8_isAs 97 = .ok (.goto 4, 3) := by decide +kernel
theorem dX8_isAs_100 : decode cX8_isAs 100 = .ok (.iconst 0, 1) := by decide +kernel
theorem dX8_isAs_101 : decode cX8_isAs 101 = .ok (.ireturn, 1) := by decide +kernel
theorem dX8_setFlags_0 : decode cX8_setFlags 0 = .ok (.aload_n 0, 1) := by decide +kernel
theorem dX8_setFlags_1 : decode cX8_setFlags 1 = .ok (.iload_n 1, 1) := by decide +kernel
theorem dX8_setFlags_2 : decode cX8_setFlags 2 = .ok (.ifCond .eq 7, 3) := by decide +kernel
theorem dX8_setFlags_5 : decode cX8_setFlags 5 = .ok (.iconst 1, 1) := by decide +kernel
theorem dX8_setFlags_6 : decode cX8_setFlags 6 = .ok (.goto 4, 3) := by decide +kernel
theorem dX8_setFlags_9 : decode cX8_setFlags 9 = .ok (.iconst 0, 1) := by decide +kernel
theorem dX8_setFlags_10 : decode cX8_setFlags 10 = .ok (.putfield 22, 3) := by decide +kernel
theorem dX8_setFlags_13 : decode cX8_setFlags 13 = .ok (.aload_n 0, 1) := by decide +kernel
theorem dX8_setFlags_14 : decode cX8_setFlags 14 = .ok (.iload_n 2, 1) := by decide +kernel
theorem dX8_setFlags_15 : decode cX8_setFlags 15 = .ok (.ifCond .eq 7, 3) := by decide +kernel
theorem dX8_setFlags_18 : decode cX8_setFlags 18 = .ok (.iconst 1, 1) := by decide +kernel
theorem dX8_setFlags_19 : decode cX8_setFlags 19 = .ok (.goto 4, 3) := by decide +kernel
theorem dX8_setFlags_22 : decode cX8_setFlags 22 = .ok (.iconst 0, 1) := by decide +kernel
theorem dX8_setFlags_23 : decode cX8_setFlags 23 = .ok (.putfield 25, 3) := by decide +kernel
theorem dX8_setFlags_26 : decode cX8_setFlags 26 = .ok (.return_, 1) := by decide +kernel
theorem dX8_valueOf_0 : decode cX8_valueOf 0 = .ok (.iload_n 1, 1) := by decide +kernel
theorem dX8_valueOf_1 : decode cX8_valueOf 1 = .ok (.lookupswitch 89 #[(67, 69), (73, 79), (75, 84), (80, 59), (83, 74), (90, 64)], 59) := by decide +kernel
theorem dX8_valueOf_60 : decode cX8_valueOf 60 = .ok (.aload_n 0, 1) := by decide +kernel
theorem dX8_valueOf_61 : decode cX8_valueOf 61 = .ok (.getfield 15, 3) := by decide +kernel
theorem dX8_valueOf_64 : decode cX8_valueOf 64 = .ok (.ireturn, 1) := by decide +kernel
theorem dX8_valueOf_65 : decode cX8_valueOf 65 = .ok (.aload_n 0, 1) := by decide +kernel
theorem dX8_valueOf_66 : decode cX8_valueOf 66 = .ok (.getfield 22, 3) := by decide +kernel
theorem dX8_valueOf_69 : decode cX8_valueOf 69 = .ok (.ireturn, 1) := by decide +kernel
theorem dX8_valueOf_70 : decode cX8_valueOf 70 = .ok (.aload_n 0, 1) := by decide +kernel
theorem dX8_valueOf_71 : decode cX8_valueOf 71 = .ok (.getfield 25, 3) := by decide +kernel
theorem dX8_valueOf_74 : decode cX8_valueOf 74 = .ok (.ireturn, 1) := by decide +kernel
theorem dX8_valueOf_75 : decode cX8_valueOf 75 = .ok (.aload_n 0, 1) := by decide +kernel
theorem dX8_valueOf_76 : decode cX8_valueOf 76 = .ok (.getfield 28, 3) := by decide +kernel
theorem dX8_valueOf_79 : decode cX8_valueOf 79 = .ok (.ireturn, 1) := by decide +kernel
theorem dX8_valueOf_80 : decode cX8_valueOf 80 = .ok (.aload_n 0, 1) := by decide +kernel
theorem dX8_valueOf_81 : decode cX8_valueOf 81 = .ok (.getfield 31, 3) := by decide +kernel
theorem dX8_valueOf_84 : decode cX8_valueOf 84 = .ok (.ireturn, 1) := by decide +kernel
theorem dX8_valueOf_85 : decode cX8_valueOf 85 = .ok (.aload_n 0, 1) := by decide +kernel
theorem dX8_valueOf_86 : decode cX8_valueOf 86 = .ok (.getfield 19, 3) := by decide +kernel
theorem dX8_valueOf_89 : decode cX8_valueOf 89 = .ok (.ireturn, 1) := by decide +kernel
theorem dX8_valueOf_90 : decode cX8_valueOf 90 = .ok (.aload_n 0, 1) := by decide +kernel
theorem dX8_valueOf_91 : decode cX8_valueOf 91 = .ok (.getfield 9, 3) := by decide +kernel
theorem dX8_valueOf_94 : decode cX8_valueOf 94 = .ok (.iload_n 1, 1) := by decide +kernel
theorem dX8_valueOf_95 : decode cX8_valueOf 95 = .ok (.bipush 48, 2) := by decide +kernel
theorem dX8_valueOf_97 : decode cX8_valueOf 97 = .ok (.isub, 1) := by decide +kernel
theorem dX8_valueOf_98 : decode cX8_valueOf 98 = .ok (.iconst 3, 1) := by decide +kernel
theorem dX8_valueOf_99 : decode cX8_valueOf 99 = .ok (.iand, 1) := by decide +kernel
theorem dX8_valueOf_100 : decode cX8_valueOf 100 = .ok (.iaload, 1) := by decide +kernel
theorem dX8_valueOf_101 : decode cX8_valueOf 101 = .ok (.ireturn, 1) := by decide +kernel
theorem dX9_init_0 : decode cX9_init 0 = .ok (.aload_n 0, 1) := by decide +kernel
theorem dX9_init_1 : decode cX9_init 1 = .ok (.invokespecial 3, 3) := by decide +kernel
theorem dX9_init_4 : decode cX9_init 4 = .ok (.return_, 1) := by decide +kernel
theorem dX9_copyFrom_0 : decode cX9_copyFrom 0 = .ok (.aload_n 0, 1) := by decide +kernel
theorem dX9_copyFrom_1 : decode cX9_copyFrom 1 = .ok (.aload_n 1, 1) := by decide +kernel
theorem dX9_copyFrom_2 : decode cX9_copyFrom 2 = .ok (.getfield 9, 3) := by decide +kernel
theorem dX9_copyFrom_5 : decode cX9_copyFrom 5 = .ok (.putfield 9, 3) := by decide +kernel
theorem dX9_copyFrom_8 : decode cX9_copyFrom 8 = .ok (.aload_n 0, 1) := by decide +kernel
theorem dX9_copyFrom_9 : decode cX9_copyFrom 9 = .ok (.aload_n 1, 1) := by decide +kernel
theorem dX9_copyFrom_10 : decode cX9_copyFrom 10 = .ok (.getfield 15, 3) := by decide +kernel
theorem dX9_copyFrom_13 : decode cX9_copyFrom 13 = .ok (.putfield 15, 3) := by decide +kernel
theorem dX9_copyFrom_16 : decode cX9_copyFrom 16 = .ok (.aload_n 0, 1) := by decide +kernel
theorem dX9_copyFrom_17 : decode cX9_copyFrom 17 = .ok (.aload_n 1, 1) := by decide +kernel
theorem dX9_copyFrom_18 : decode cX9_copyFrom 18 = .ok (.getfield 18, 3) := by decide +kernel
theorem dX9_copyFrom_21 : decode cX9_copyFrom 21 = .ok (.putfield 18, 3) := by decide +kernel
theorem dX9_copyFrom_24 : decode cX9_copyFrom 24 = .ok (.aload_n 0, 1) := by decide +kernel
theorem dX9_copyFrom_25 : decode cX9_copyFrom 25 = .ok (.aload_n 1, 1) := by decide +kernel
theorem dX9_copyFrom_26 : decode cX9_copyFrom 26 = .ok (.getfield 21, 3) := by decide +kernel
theorem dX9_copyFrom_29 : decode cX9_copyFrom 29 = .ok (.putfield 21, 3) := by decide +kernel
theorem dX9_copyFrom_32 : decode cX9_copyFrom 32 = .ok (.aload_n 0, 1) := by decide +kernel
theorem dX9_copyFrom_33 : decode cX9_copyFrom 33 = .ok (.aload_n 1, 1) := by decide +kernel
theorem dX9_copyFrom_34 : decode cX9_copyFrom 34 = .ok (.getfield 24, 3) := by decide +kernel
theorem dX9_copyFrom_37 : decode cX9_copyFrom 37 = .ok (.putfield 24, 3) := by decide +kernel
theorem dX9_copyFrom_40 : decode cX9_copyFrom 40 = .ok (.aload_n 0, 1) := by decide +kernel
theorem dX9_copyFrom_41 : decode cX9_copyFrom 41 = .ok (.aload_n 1, 1) := by decide +kernel
theorem dX9_copyFrom_42 : decode cX9_copyFrom 42 = .ok (.getfield 28, 3) := by decide +kernel
theorem dX9_copyFrom_45 : decode cX9_copyFrom 45 = .ok (.putfield 28, 3) := by decide +kernel
theorem dX9_copyFrom_48 : decode cX9_copyFrom 48 = .ok (.aload_n 0, 1) := by decide +kernel
theorem dX9_copyFrom_49 : decode cX9_copyFrom 49 = .ok (.aload_n 1, 1) := by decide +kernel
theorem dX9_copyFrom_50 : decode cX9_copyFrom 50 = .ok (.getfield 31, 3) := by decide +kernel
theorem dX9_copyFrom_53 : decode cX9_copyFrom 53 = .ok (.putfield 31, 3) := by decide +kernel
theorem dX9_copyFrom_56 : decode cX9_copyFrom 56 = .ok (.aload_n 0, 1) := by decide +kernel
theorem dX9_copyFrom_57 : decode cX9_copyFrom 57 = .ok (.aload_n 1, 1) := by decide +kernel
theorem dX9_copyFrom_58 : decode cX9_copyFrom 58 = .ok (.getfield 34, 3) := by decide +kernel
theorem dX9_copyFrom_61 : decode cX9_copyFrom 61 = .ok (.putfield 34, 3) := by decide +kernel
theorem dX9_copyFrom_64 : decode cX9_copyFrom 64 = .ok (.aload_n 0, 1) := by decide +kernel
theorem dX9_copyFrom_65 : decode cX9_copyFrom 65 = .ok (.aload_n 1, 1) := by decide +kernel
theorem dX9_copyFrom_66 : decode cX9_copyFrom 66 = .ok (.getfield 38, 3) := by decide +kernel
theorem dX9_copyFrom_69 : decode cX9_copyFrom 69 = .ok (.putfield 38, 3) := by decide +kernel
theorem dX9_copyFrom_72 : decode cX9_copyFrom 72 = .ok (.return_, 1) := by decide +kernel
theorem dX9_partsRead_0 : decode cX9_partsRead 0 = .ok (.iconst 0, 1) := by decide +kernel
theorem dX9_partsRead_1 : decode cX9_partsRead 1 = .ok (.istore_n 1, 1) := by decide +kernel
theorem dX9_partsRead_2 : decode cX9_partsRead 2 = .ok (.aload_n 0, 1) := by decide +kernel
theorem dX9_partsRead_3 : decode cX9_partsRead 3 = .ok (.getfield 9, 3) := by decide +kernel
theorem dX9_partsRead_6 : decode cX9_partsRead 6 = .ok (.iconst 1, 1) := by decide +kernel
theorem dX9_partsRead_7 : decode cX9_partsRead 7 = .ok (.iand, 1) := by decide +kernel
theorem dX9_partsRead_8 : decode cX9_partsRead 8 = .ok (.ifCond .ne 19, 3) := by decide +kernel
theorem dX9_partsRead_11 : decode cX9_partsRead 11 = .ok (.aload_n 0, 1) := by decide +kernel
theorem dX9_partsRead_12 : decode cX9_partsRead 12 = .ok (.getfield 15, 3) := by decide +kernel
theorem dX9_partsRead_15 : decode cX9_partsRead 15 = .ok (.iconst 1, 1) := by decide +kernel
theorem dX9_partsRead_16 : decode cX9_partsRead 16 = .ok (.if_icmp .lt 15, 3) := by decide +kernel
theorem dX9_partsRead_19 : decode cX9_partsRead 19 = .ok (.aload_n 0, 1) := by decide +kernel
theorem dX9_partsRead_20 : decode cX9_partsRead 20 = .ok (.getfield 15, 3) := by decide +kernel
theorem dX9_partsRead_23 : decode cX9_partsRead 23 = .ok (.iconst 4, 1) := by decide +kernel
theorem dX9_partsRead_24 : decode cX9_partsRead 24 = .ok (.if_icmp .gt 7, 3) := by decide +kernel
theorem dX9_partsRead_27 : decode cX9_partsRead 27 = .ok (.iload_n 1, 1) := by decide +kernel
theorem dX9_partsRead_28 : decode cX9_partsRead 28 = .ok (.iconst 1, 1) := by decide +kernel
theorem dX9_partsRead_29 : decode cX9_partsRead 29 = .ok (.ior, 1) := by decide +kernel
theorem dX9_partsRead_30 : decode cX9_partsRead 30 = .ok (.istore_n 1, 1) := by decide +kernel
theorem dX9_partsRead_31 : decode cX9_partsRead 31 = .ok (.aload_n 0, 1) := by decide +kernel
theorem dX9_partsRead_32 : decode cX9_partsRead 32 = .ok (.getfield 9, 3) := by decide +kernel
theorem dX9_partsRead_35 : decode cX9_partsRead 35 = .ok (.iconst 2, 1) := by decide +kernel
theorem dX9_partsRead_36 : decode cX9_partsRead 36 = .ok (.iand, 1) := by decide +kernel
theorem dX9_partsRead_37 : decode cX9_partsRead 37 = .ok (.ifCond .eq 7, 3) := by decide +kernel
theorem dX9_partsRead_40 : decode cX9_partsRead 40 = .ok (.iload_n 1, 1) := by decide +kernel
theorem dX9_partsRead_41 : decode cX9_partsRead 41 = .ok (.iconst 2, 1) := by decide +kernel
theorem dX9_partsRead_42 : decode cX9_partsRead 42 = .ok (.ior, 1) := by decide +kernel
theorem dX9_partsRead_43 : decode cX9_partsRead 43 = .ok (.istore_n 1, 1) := by decide +kernel
theorem dX9_partsRead_44 : decode cX9_partsRead 44 = .ok (.aload_n 0, 1) := by decide +kernel
theorem dX9_partsRead_45 : decode cX9_partsRead 45 = .ok (.getfield 21, 3) := by decide +kernel
theorem dX9_partsRead_48 : decode cX9_partsRead 48 = .ok (.ifCond .eq 16, 3) := by decide +kernel
theorem dX9_partsRead_51 : decode cX9_partsRead 51 = .ok (.aload_n 0, 1) := by decide +kernel
theorem dX9_partsRead_52 : decode cX9_partsRead 52 = .ok (.getfield 18, 3) := by decide +kernel
theorem dX9_partsRead_55 : decode cX9_partsRead 55 = .ok (.iconst 4, 1) := by decide +kernel
theorem dX9_partsRead_56 : decode cX9_partsRead 56 = .ok (.iand, 1) := by decide +kernel
theorem dX9_partsRead_57 : decode cX9_partsRead 57 = .ok (.ifCond .ne 7, 3) := by decide +kernel
theorem dX9_partsRead_60 : decode cX9_partsRead 60 = .ok (.iload_n 1, 1) := by decide +kernel
theorem dX9_partsRead_61 : decode cX9_partsRead 61 = .ok (.iconst 4, 1) := by decide +kernel
theorem dX9_partsRead_62 : decode cX9_partsRead 62 = .ok (.ior, 1) := by decide +kernel
theorem dX9_partsRead_63 : decode cX9_partsRead 63 = .ok (.istore_n 1, 1) := by decide +kernel
theorem dX9_partsRead_64 : decode cX9_partsRead 64 = .ok (.aload_n 0, 1) := by decide +kernel
theorem dX9_partsRead_65 : decode cX9_partsRead 65 = .ok (.getfield 9, 3) := by decide +kernel
theorem dX9_partsRead_68 : decode cX9_partsRead 68 = .ok (.iconst 4, 1) := by decide +kernel
theorem dX9_partsRead_69 : decode cX9_partsRead 69 = .ok (.iand, 1) := by decide +kernel
theorem dX9_partsRead_70 : decode cX9_partsRead 70 = .ok (.ifCond .ne 21, 3) := by decide +kernel
theorem dX9_partsRead_73 : decode cX9_partsRead 73 = .ok (.aload_n 0, 1) := by decide +kernel
theorem dX9_partsRead_74 : decode cX9_partsRead 74 = .ok (.getfield 21, 3) := by decide +kernel
theorem dX9_partsRead_77 : decode cX9_partsRead 77 = .ok (.iconst 2, 1) := by decide +kernel
theorem dX9_partsRead_78 : decode cX9_partsRead 78 = .ok (.if_icmp .ne 18, 3) := by decide +kernel
theorem dX9_partsRead_81 : decode cX9_partsRead 81 = .ok (.aload_n 0, 1) := by decide +kernel
theorem dX9_partsRead_82 : decode cX9_partsRead 82 = .ok (.getfield 18, 3) := by decide +kernel
theorem dX9_partsRead_85 : decode cX9_partsRead 85 = .ok (.bipush 8, 2) := by decide +kernel
theorem dX9_partsRead_87 : decode cX9_partsRead 87 = .ok (.iand, 1) := by decide +kernel
theorem dX9_partsRead_88 : decode cX9_partsRead 88 = .ok (.ifCond .ne 8, 3) := by decide +kernel
theorem dX9_partsRead_91 : decode cX9_partsRead 91 = .ok (.iload_n 1, 1) := by decide +kernel
theorem dX9_partsRead_92 : decode cX9_partsRead 92 = .ok (.bipush 8, 2) := by decide +kernel
theorem dX9_partsRead_94 : decode cX9_partsRead 94 = .ok (.ior, 1) := by decide +kernel
theorem dX9_partsRead_95 : decode cX9_partsRead 95 = .ok (.istore_n 1, 1) := by decide +kernel
theorem dX9_partsRead_96 : decode cX9_partsRead 96 = .ok (.iload_n 1, 1) := by decide +kernel
theorem dX9_partsRead_97 : decode cX9_partsRead 97 = .ok (.ireturn, 1) := by decide +kernel
theorem dX9_partsSet_0 : decode cX9_partsSet 0 = .ok (.aload_n 0, 1) := by decide +kernel
theorem dX9_partsSet_1 : decode cX9_partsSet 1 = .ok (.getfield 18, 3) := by decide +kernel
theorem dX9_partsSet_4 : decode cX9_partsSet 4 = .ok (.bipush 15, 2) := by decide +kernel
theorem dX9_partsSet_6 : decode cX9_partsSet 6 = .ok (.iand, 1) := by decide +kernel
theorem dX9_partsSet_7 : decode cX9_partsSet 7 = .ok (.istore_n 1, 1) := by decide +kernel
theorem dX9_partsSet_8 : decode cX9_partsSet 8 = .ok (.aload_n 0, 1) := by decide +kernel
theorem dX9_partsSet_9 : decode cX9_partsSet 9 = .ok (.getfield 21, 3) := by decide +kernel
theorem dX9_partsSet_12 : decode cX9_partsSet 12 = .ok (.iconst 1, 1) := by decide +kernel
theorem dX9_partsSet_13 : decode cX9_partsSet 13 = .ok (.if_icmp .ne 10, 3) := by decide +kernel
theorem dX9_partsSet_16 : decode cX9_partsSet 16 = .ok (.iload_n 1, 1) := by decide +kernel
theorem dX9_partsSet_17 : decode cX9_partsSet 17 = .ok (.bipush 8, 2) := by decide +kernel
theorem dX9_partsSet_19 : decode cX9_partsSet 19 = .ok (.ior, 1) := by decide +kernel
theorem dX9_partsSet_20 : decode cX9_partsSet 20 = .ok (.goto 4, 3) := by decide +kernel
theorem dX9_partsSet_23 : decode cX9_partsSet 23 = .ok (.iload_n 1, 1) := by decide +kernel
theorem dX9_partsSet_24 : decode cX9_partsSet 24 = .ok (.ireturn, 1) := by decide +kernel
theorem dX10_init_0 : decode cX10_init 0 = .ok (.aload_n 0, 1) := by decide +kernel
theorem dX10_init_1 : decode cX10_init 1 = .ok (.invokespecial 1, 3) := by decide +kernel
theorem dX10_init_4 : decode cX10_init 4 = .ok (.aload_n 0, 1) := by decide +kernel
theorem dX10_init_5 : decode cX10_init 5 = .ok (.new 7, 3) := by decide +kernel
theorem dX10_init_8 : decode cX10_init 8 = .ok (.dup, 1) := by decide +kernel
theorem dX10_init_9 : decode cX10_init 9 = .ok (.invokespecial 9, 3) := by decide +kernel
theorem dX10_init_12 : decode cX10_init 12 = .ok (.putfield 10, 3) := by decide +kernel
theorem dX10_init_15 : decode cX10_init 15 = .ok (.aload_n 0, 1) := by decide +kernel
theorem dX10_init_16 : decode cX10_init 16 = .ok (.new 16, 3) := by decide +kernel
theorem dX10_init_19 : decode cX10_init 19 = .ok (.dup, 1) := by decide +kernel
theorem dX10_init_20 : decode cX10_init 20 = .ok (.invokespecial 18, 3) := by decide +kernel
theorem dX10_init_23 : decode cX10_init 23 = .ok (.putfield 19, 3) := by decide +kernel
theorem dX10_init_26 : decode cX10_init 26 = .ok (.aload_n 0, 1) := by decide +kernel
theorem dX10_init_27 : decode cX10_init 27 = .ok (.new 23, 3) := by decide +kernel
theorem dX10_init_30 : decode cX10_init 30 = .ok (.dup, 1) := by decide +kernel
theorem dX10_init_31 : decode cX10_init 31 = .ok (.invokespecial 25, 3) := by decide +kernel
theorem dX10_init_34 : decode cX10_init 34 = .ok (.putfield 26, 3) := by decide +kernel
theorem dX10_init_37 : decode cX10_init 37 = .ok (.aload_n 0, 1) := by decide +kernel
theorem dX10_init_38 : decode cX10_init 38 = .ok (.new 30, 3) := by decide +kernel
theorem dX10_init_41 : decode cX10_init 41 = .ok (.dup, 1) := by decide +kernel
theorem dX10_init_42 : decode cX10_init 42 = .ok (.aload_n 0, 1) := by decide +kernel
theorem dX10_init_43 : decode cX10_init 43 = .ok (.getfield 10, 3) := by decide +kernel
theorem dX10_init_46 : decode cX10_init 46 = .ok (.aload_n 0, 1) := by decide +kernel
theorem dX10_init_47 : decode cX10_init 47 = .ok (.getfield 19, 3) := by decide +kernel
theorem dX10_init_50 : decode cX10_init 50 = .ok (.aload_n 0, 1) := by decide +kernel
theorem dX10_init_51 : decode cX10_init 51 = .ok (.getfield 26, 3) := by decide +kernel
theorem dX10_init_54 : decode cX10_init 54 = .ok (.invokespecial 32, 3) := by decide +kernel
theorem dX10_init_57 : decode cX10_init 57 = .ok (.putfield 35, 3) := by decide +kernel
theorem dX10_init_60 : decode cX10_init 60 = .ok (.aload_n 0, 1) := by decide +kernel
theorem dX10_init_61 : decode cX10_init 61 = .ok (.new 39, 3) := by decide +kernel
theorem dX10_init_64 : decode cX10_init 64 = .ok (.dup, 1) := by decide +kernel
theorem dX10_init_65 : decode cX10_init 65 = .ok (.aload_n 0, 1) := by decide +kernel
theorem dX10_init_66 : decode cX10_init 66 = .ok (.getfield 10, 3) := by decide +kernel
theorem dX10_init_69 : decode cX10_init 69 = .ok (.invokespecial 41, 3) := by decide +kernel
theorem dX10_init_72 : decode cX10_init 72 = .ok (.putfield 44, 3) := by decide +kernel
theorem dX10_init_75 : decode cX10_init 75 = .ok (.return_, 1) := by decide +kernel
theorem dX10_write_0 : decode cX10_write 0 = .ok (.iload_n 1, 1) := by decide +kernel
theorem dX10_write_1 : decode cX10_write 1 = .ok (.bipush 64, 2) := by decide +kernel
theorem dX10_write_3 : decode cX10_write 3 = .ok (.invokestatic 48, 3) := by decide +kernel
theorem dX10_write_6 : decode cX10_write 6 = .ok (.iload_n 3, 1) := by decide +kernel
theorem dX10_write_7 : decode cX10_write 7 = .ok (.iconst 0, 1) := by decide +kernel
theorem dX10_write_8 : decode cX10_write 8 = .ok (.bipush 7, 2) := by decide +kernel
theorem dX10_write_10 : decode cX10_write 10 = .ok (.invokestatic 52, 3) := by decide +kernel
theorem dX10_write_13 : decode cX10_write 13 = .ok (.iload 7, 2) := by decide +kernel
theorem dX10_write_15 : decode cX10_write 15 = .ok (.iconst 0, 1) := by decide +kernel
theorem dX10_write_16 : decode cX10_write 16 = .ok (.bipush 79, 2) := by decide +kernel
theorem dX10_write_18 : decode cX10_write 18 = .ok (.invokestatic 52, 3) := by decide +kernel
theorem dX10_write_21 : decode cX10_write 21 = .ok (.iload 8, 2) := by decide +kernel
theorem dX10_write_23 : decode cX10_write 23 = .ok (.iconst 0, 1) := by decide +kernel
theorem dX10_write_24 : decode cX10_write 24 = .ok (.bipush 15, 2) := by decide +kernel
theorem dX10_write_26 : decode cX10_write 26 = .ok (.invokestatic 52, 3) := by decide +kernel
theorem dX10_write_29 : decode cX10_write 29 = .ok (.iload_n 2, 1) := by decide +kernel
theorem dX10_write_30 : decode cX10_write 30 = .ok (.iload 4, 2) := by decide +kernel
theorem dX10_write_32 : decode cX10_write 32 = .ok (.iload 5, 2) := by decide +kernel
theorem dX10_write_34 : decode cX10_write 34 = .ok (.iload 6, 2) := by decide +kernel
theorem dX10_write_36 : decode cX10_write 36 = .ok (.iload 8, 2) := by decide +kernel
theorem dX10_write_38 : decode cX10_write 38 = .ok (.iconst 2, 1) := by decide +kernel
theorem dX10_write_39 : decode cX10_write 39 = .ok (.idiv, 1) := by decide +kernel
theorem dX10_write_40 : decode cX10_write 40 = .ok (.invokestatic 56, 3) := by decide +kernel
theorem dX10_write_43 : decode cX10_write 43 = .ok (.iload_n 2, 1) := by decide +kernel
theorem dX10_write_44 : decode cX10_write 44 = .ok (.iload 4, 2) := by decide +kernel
theorem dX10_write_46 : decode cX10_write 46 = .ok (.iload 5, 2) := by decide +kernel
theorem dX10_write_48 : decode cX10_write 48 = .ok (.iload 6, 2) := by decide +kernel
theorem dX10_write_50 : decode cX10_write 50 = .ok (.iload 8, 2) := by decide +kernel
theorem dX10_write_52 : decode cX10_write 52 = .ok (.iconst 2, 1) := by decide +kernel
theorem dX10_write_53 : decode cX10_write 53 = .ok (.idiv, 1) := by decide +kernel
theorem dX10_write_54 : decode cX10_write 54 = .ok (.invokestatic 60, 3) := by decide +kernel
theorem dX10_write_57 : decode cX10_write 57 = .ok (.bipush 45, 2) := by decide +kernel
theorem dX10_write_59 : decode cX10_write 59 = .ok (.if_icmp .eq 13, 3) := by decide +kernel
theorem dX10_write_62 : decode cX10_write 62 = .ok (.new 64, 3) := by decide +kernel
theorem dX10_write_65 : decode cX10_write 65 = .ok (.dup, 1) := by decide +kernel
theorem dX10_write_66 : decode cX10_write 66 = .ok (.ldc 66, 2) := by decide +kernel
theorem dX10_write_68 : decode cX10_write 68 = .ok (.invokespecial 68, 3) := by decide +kernel
theorem dX10_write_71 : decode cX10_write 71 = .ok (.athrow, 1) := by decide +kernel
theorem dX10_write_72 : decode cX10_write 72 = .ok (.aload_n 0, 1) := by decide +kernel
theorem dX10_write_73 : decode cX10_write 73 = .ok (.getfield 10, 3) := by decide +kernel
theorem dX10_write_76 : decode cX10_write 76 = .ok (.iload_n 1, 1) := by decide +kernel
theorem dX10_write_77 : decode cX10_write 77 = .ok (.invokevirtual 71, 3) := by decide +kernel
theorem dX10_write_80 : decode cX10_write 80 = .ok (.astore 9, 2) := by decide +kernel
theorem dX10_write_82 : decode cX10_write 82 = .ok (.aload 9, 2) := by decide +kernel
theorem dX10_write_84 : decode cX10_write 84 = .ok (.iload_n 2, 1) := by decide +kernel
theorem dX10_write_85 : decode cX10_write 85 = .ok (.putfield 75, 3) := by decide +kernel
theorem dX10_write_88 : decode cX10_write 88 = .ok (.aload 9, 2) := by decide +kernel
theorem dX10_write_90 : decode cX10_write 90 = .ok (.iload_n 3, 1) := by decide +kernel
theorem dX10_write_91 : decode cX10_write 91 = .ok (.putfield 81, 3) := by decide +kernel
theorem dX10_write_94 : decode cX10_write 94 = .ok (.aload 9, 2) := by decide +kernel
theorem dX10_write_96 : decode cX10_write 96 = .ok (.iload 4, 2) := by decide +kernel
theorem dX10_write_98 : decode cX10_write 98 = .ok (.putfield 84, 3) := by decide +kernel
theorem dX10_write_101 : decode cX10_write 101 = .ok (.aload 9, 2) := by decide +kernel
theorem dX10_write_103 : decode cX10_write 103 = .ok (.iload 5, 2) := by decide +kernel
theorem dX10_write_105 : decode cX10_write 105 = .ok (.putfield 87, 3) := by decide +kernel
theorem dX10_write_108 : decode cX10_write 108 = .ok (.aload 9, 2) := by decide +kernel
theorem dX10_write_110 : decode cX10_write 110 = .ok (.iload 6, 2) := by decide +kernel
theorem dX10_write_112 : decode cX10_write 112 = .ok (.putfield 89, 3) := by decide +kernel
theorem dX10_write_115 : decode cX10_write 115 = .ok (.aload 9, 2) := by decide +kernel
theorem dX10_write_117 : decode cX10_write 117 = .ok (.iload 7, 2) := by decide +kernel
theorem dX10_write_119 : decode cX10_write 119 = .ok (.putfield 93, 3) := by decide +kernel
theorem dX10_write_122 : decode cX10_write 122 = .ok (.aload 9, 2) := by decide +kernel
theorem dX10_write_124 : decode cX10_write 124 = .ok (.iload 8, 2) := by decide +kernel
theorem dX10_write_126 : decode cX10_write 126 = .ok (.iconst 2, 1) := by decide +kernel
theorem dX10_write_127 : decode cX10_write 127 = .ok (.idiv, 1) := by decide +kernel
theorem dX10_write_128 : decode cX10_write 128 = .ok (.putfield 96, 3) := by decide +kernel
theorem dX10_write_131 : decode cX10_write 131 = .ok (.aload 9, 2) := by decide +kernel
theorem dX10_write_133 : decode cX10_write 133 = .ok (.iload 8, 2) := by decide +kernel
theorem dX10_write_135 : decode cX10_write 135 = .ok (.iconst 2, 1) := by decide +kernel
theorem dX10_write_136 : decode cX10_write 136 = .ok (.irem, 1) := by decide +kernel
theorem dX10_write_137 : decode cX10_write 137 = .ok (.iconst 1, 1) := by decide +kernel
theorem dX10_write_138 : decode cX10_write 138 = .ok (.if_icmp .ne 7, 3) := by decide +kernel
theorem dX10_write_141 : decode cX10_write 141 = .ok (.iconst 1, 1) := by decide +kernel
theorem dX10_write_142 : decode cX10_write 142 = .ok (.goto 4, 3) := by decide +kernel
theorem dX10_write_145 : decode cX10_write 145 = .ok (.iconst 0, 1) := by decide +kernel
theorem dX10_write_146 : decode cX10_write 146 = .ok (.putfield 99, 3) := by decide +kernel
theorem dX10_write_149 : decode cX10_write 149 = .ok (.aload 9, 2) := by decide +kernel
theorem dX10_write_151 : decode cX10_write 151 = .ok (.iconst 0, 1) := by decide +kernel
theorem dX10_write_152 : decode cX10_write 152 = .ok (.putfield 103, 3) := by decide +kernel
theorem dX10_write_155 : decode cX10_write 155 = .ok (.aload_n 0, 1) := by decide +kernel
theorem dX10_write_156 : decode cX10_write 156 = .ok (.getfield 10, 3) := by decide +kernel
theorem dX10_write_159 : decode cX10_write 159 = .ok (.getfield 106, 3) := by decide +kernel
theorem dX10_write_162 : decode cX10_write 162 = .ok (.ireturn, 1) := by decide +kernel
theorem dX10_patch_0 : decode cX10_patch 0 = .ok (.iload_n 1, 1) := by decide +kernel
theorem dX10_patch_1 : decode cX10_patch 1 = .ok (.bipush 80, 2) := by decide +kernel
theorem dX10_patch_3 : decode cX10_patch 3 = .ok (.invokestatic 48, 3) := by decide +kernel
theorem dX10_patch_6 : decode cX10_patch 6 = .ok (.iload_n 1, 1) := by decide +kernel
theorem dX10_patch_7 : decode cX10_patch 7 = .ok (.bipush 64, 2) := by decide +kernel
theorem dX10_patch_9 : decode cX10_patch 9 = .ok (.if_icmp .ge 13, 3) := by decide +kernel
theorem dX10_patch_12 : decode cX10_patch 12 = .ok (.new 109, 3) := by decide +kernel
theorem dX10_patch_15 : decode cX10_patch 15 = .ok (.dup, 1) := by decide +kernel
theorem dX10_patch_16 : decode cX10_patch 16 = .ok (.ldc 111, 2) := by decide +kernel
theorem dX10_patch_18 : decode cX10_patch 18 = .ok (.invokespecial 113, 3) := by decide +kernel
theorem dX10_patch_21 : decode cX10_patch 21 = .ok (.athrow, 1) := by decide +kernel
theorem dX10_patch_22 : decode cX10_patch 22 = .ok (.iload_n 2, 1) := by decide +kernel
theorem dX10_patch_23 : decode cX10_patch 23 = .ok (.bipush 80, 2) := by decide +kernel
theorem dX10_patch_25 : decode cX10_patch 25 = .ok (.invokestatic 48, 3) := by decide +kernel
theorem dX10_patch_28 : decode cX10_patch 28 = .ok (.iload_n 3, 1) := by decide +kernel
theorem dX10_patch_29 : decode cX10_patch 29 = .ok (.iconst 0, 1) := by decide +kernel
theorem dX10_patch_30 : decode cX10_patch 30 = .ok (.bipush 79, 2) := by decide +kernel
theorem dX10_patch_32 : decode cX10_patch 32 = .ok (.invokestatic 52, 3) := by decide +kernel
theorem dX10_patch_35 : decode cX10_patch 35 = .ok (.aload_n 0, 1) := by decide +kernel
theorem dX10_patch_36 : decode cX10_patch 36 = .ok (.getfield 10, 3) := by decide +kernel
theorem dX10_patch_39 : decode cX10_patch 39 = .ok (.iload_n 2, 1) := by decide +kernel
theorem dX10_patch_40 : decode cX10_patch 40 = .ok (.invokevirtual 114, 3) := by decide +kernel
theorem dX10_patch_43 : decode cX10_patch 43 = .ok (.astore 4, 2) := by decide +kernel
theorem dX10_patch_45 : decode cX10_patch 45 = .ok (.aload 4, 2) := by decide +kernel
theorem dX10_patch_47 : decode cX10_patch 47 = .ok (.ifnonnull 13, 3) := by decide +kernel
theorem dX10_patch_50 : decode cX10_patch 50 = .ok (.new 117, 3) := by decide +kernel
theorem dX10_patch_53 : decode cX10_patch 53 = .ok (.dup, 1) := by decide +kernel
theorem dX10_patch_54 : decode cX10_patch 54 = .ok (.ldc 119, 2) := by decide +kernel
theorem dX10_patch_56 : decode cX10_patch 56 = .ok (.invokespecial 121, 3) := by decide +kernel
theorem dX10_patch_59 : decode cX10_patch 59 = .ok (.athrow, 1) := by decide +kernel
theorem dX10_patch_60 : decode cX10_patch 60 = .ok (.aload_n 0, 1) := by decide +kernel
theorem dX10_patch_61 : decode cX10_patch 61 = .ok (.getfield 10, 3) := by decide +kernel
theorem dX10_patch_64 : decode cX10_patch 64 = .ok (.iload_n 1, 1) := by decide +kernel
theorem dX10_patch_65 : decode cX10_patch 65 = .ok (.invokevirtual 71, 3) := by decide +kernel
theorem dX10_patch_68 : decode cX10_patch 68 = .ok (.astore 5, 2) := by decide +kernel
theorem dX10_patch_70 : decode cX10_patch 70 = .ok (.aload 5, 2) := by decide +kernel
theorem dX10_patch_72 : decode cX10_patch 72 = .ok (.aload 4, 2) := by decide +kernel
theorem dX10_patch_74 : decode cX10_patch 74 = .ok (.invokevirtual 122, 3) := by decide +kernel
theorem dX10_patch_77 : decode cX10_patch 77 = .ok (.aload 5, 2) := by decide +kernel
theorem dX10_patch_79 : decode cX10_patch 79 = .ok (.iload_n 3, 1) := by decide +kernel
theorem dX10_patch_80 : decode cX10_patch 80 = .ok (.putfield 93, 3) := by decide +kernel
theorem dX10_patch_83 : decode cX10_patch 83 = .ok (.aload_n 0, 1) := by decide +kernel
theorem dX10_patch_84 : decode cX10_patch 84 = .ok (.getfield 10, 3) := by decide +kernel
theorem dX10_patch_87 : decode cX10_patch 87 = .ok (.getfield 106, 3) := by decide +kernel
theorem dX10_patch_90 : decode cX10_patch 90 = .ok (.ireturn, 1) := by decide +kernel
theorem dX10_setConstant_0 : decode cX10_setConstant 0 = .ok (.iload_n 1, 1) := by decide +kernel
theorem dX10_setConstant_1 : decode cX10_setConstant 1 = .ok (.bipush 80, 2) := by decide +kernel
theorem dX10_setConstant_3 : decode cX10_setConstant 3 = .ok (.invokestatic 48, 3) := by decide +kernel
theorem dX10_setConstant_6 : decode cX10_setConstant 6 = .ok (.iload_n 2, 1) := by decide +kernel
theorem dX10_setConstant_7 : decode cX10_setConstant 7 = .ok (.iconst 0, 1) := by decide +kernel
theorem dX10_setConstant_8 : decode cX10_setConstant 8 = .ok (.sipush 255, 3) := by decide +kernel
theorem dX10_setConstant_11 : decode cX10_setConstant 11 = .ok (.invokestatic 52, 3) := by decide +kernel
theorem dX10_setConstant_14 : decode cX10_setConstant 14 = .ok (.aload_n 0, 1) := by decide +kernel
theorem dX10_setConstant_15 : decode cX10_setConstant 15 = .ok (.getfield 10, 3) := by decide +kernel
theorem dX10_setConstant_18 : decode cX10_setConstant 18 = .ok (.iload_n 1, 1) := by decide +kernel
theorem dX10_setConstant_19 : decode cX10_setConstant 19 = .ok (.invokevirtual 114, 3) := by decide +kernel
theorem dX10_setConstant_22 : decode cX10_setConstant 22 = .ok (.astore_n 3, 1) := by decide +kernel
theorem dX10_setConstant_23 : decode cX10_setConstant 23 = .ok (.aload_n 3, 1) := by decide +kernel
theorem dX10_setConstant_24 : decode cX10_setConstant 24 = .ok (.ifnonnull 13, 3) := by decide +kernel
theorem dX10_setConstant_27 : decode cX10_setConstant 27 = .ok (.new 117, 3) := by decide +kernel
theorem dX10_setConstant_30 : decode cX10_setConstant 30 = .ok (.dup, 1) := by decide +kernel
theorem dX10_setConstant_31 : decode cX10_setConstant 31 = .ok (.ldc 126, 2) := by decide +kernel
theorem dX10_setConstant_33 : decode cX10_setConstant 33 = .ok (.invokespecial 121, 3) := by decide +kernel
theorem dX10_setConstant_36 : decode cX10_setConstant 36 = .ok (.athrow, 1) := by decide +kernel
theorem dX10_setConstant_37 : decode cX10_setConstant 37 = .ok (.aload_n 3, 1) := by decide +kernel
theorem dX10_setConstant_38 : decode cX10_setConstant 38 = .ok (.getfield 103, 3) := by decide +kernel
theorem dX10_setConstant_41 : decode cX10_setConstant 41 = .ok (.istore 4, 2) := by decide +kernel
theorem dX10_setConstant_43 : decode cX10_setConstant 43 = .ok (.aload_n 3, 1) := by decide +kernel
theorem dX10_setConstant_44 : decode cX10_setConstant 44 = .ok (.iload_n 2, 1) := by decide +kernel
theorem dX10_setConstant_45 : decode cX10_setConstant 45 = .ok (.putfield 103, 3) := by decide +kernel
theorem dX10_setConstant_48 : decode cX10_setConstant 48 = .ok (.iload 4, 2) := by decide +kernel
theorem dX10_setConstant_50 : decode cX10_setConstant 50 = .ok (.ireturn, 1) := by decide +kernel
theorem dX10_reason_0 : decode cX10_reason 0 = .ok (.iload_n 1, 1) := by decide +kernel
theorem dX10_reason_1 : decode cX10_reason 1 = .ok (.iload_n 2, 1) := by decide +kernel
theorem dX10_reason_2 : decode cX10_reason 2 = .ok (.iload_n 3, 1) := by decide +kernel
theorem dX10_reason_3 : decode cX10_reason 3 = .ok (.iload 4, 2) := by decide +kernel
theorem dX10_reason_5 : decode cX10_reason 5 = .ok (.iload 5, 2) := by decide +kernel
theorem dX10_reason_7 : decode cX10_reason 7 = .ok (.invokestatic 56, 3) := by decide +kernel
theorem dX10_reason_10 : decode cX10_reason 10 = .ok (.iload_n 1, 1) := by decide +kernel
theorem dX10_reason_11 : decode cX10_reason 11 = .ok (.iload_n 2, 1) := by decide +kernel
theorem dX10_reason_12 : decode cX10_reason 12 = .ok (.iload_n 3, 1) := by decide +kernel
theorem dX10_reason_13 : decode cX10_reason 13 = .ok (.iload 4, 2) := by decide +kernel
theorem dX10_reason_15 : decode cX10_reason 15 = .ok (.iload 5, 2) := by decide +kernel
theorem dX10_reason_17 : decode cX10_reason 17 = .ok (.invokestatic 60, 3) := by decide +kernel
theorem dX10_reason_20 : decode cX10_reason 20 = .ok (.ireturn, 1) := by decide +kernel
theorem dX10_reserve_0 : decode cX10_reserve 0 = .ok (.iload_n 1, 1) := by decide +kernel
theorem dX10_reserve_1 : decode cX10_reserve 1 = .ok (.iconst 1, 1) := by decide +kernel
theorem dX10_reserve_2 : decode cX10_reserve 2 = .ok (.if_icmp .eq 29, 3) := by decide +kernel
theorem dX10_reserve_5 : decode cX10_reserve 5 = .ok (.iload_n 1, 1) := by decide +kernel
theorem dX10_reserve_6 : decode cX10_reserve 6 = .ok (.iconst 2, 1) := by decide +kernel
theorem dX10_reserve_7 : decode cX10_reserve 7 = .ok (.if_icmp .eq 24, 3) := by decide +kernel
theorem dX10_reserve_10 : decode cX10_reserve 10 = .ok (.iload_n 1, 1) := by decide +kernel
theorem dX10_reserve_11 : decode cX10_reserve 11 = .ok (.iconst 4, 1) := by decide +kernel
theorem dX10_reserve_12 : decode cX10_reserve 12 = .ok (.if_icmp .eq 19, 3) := by decide +kernel
theorem dX10_reserve_15 : decode cX10_reserve 15 = .ok (.iload_n 1, 1) := by decide +kernel
theorem dX10_reserve_16 : decode cX10_reserve 16 = .ok (.bipush 8, 2) := by decide +kernel
theorem dX10_reserve_18 : decode cX10_reserve 18 = .ok (.if_icmp .eq 13, 3) := by decide +kernel
theorem dX10_reserve_21 : decode cX10_reserve 21 = .ok (.new 128, 3) := by decide +kernel
theorem dX10_reserve_24 : decode cX10_reserve 24 = .ok (.dup, 1) := by decide +kernel
theorem dX10_reserve_25 : decode cX10_reserve 25 = .ok (.ldc 130, 2) := by decide +kernel
theorem dX10_reserve_27 : decode cX10_reserve 27 = .ok (.invokespecial 132, 3) := by decide +kernel
theorem dX10_reserve_30 : decode cX10_reserve 30 = .ok (.athrow, 1) := by decide +kernel
theorem dX10_reserve_31 : decode cX10_reserve 31 = .ok (.aload_n 0, 1) := by decide +kernel
theorem dX10_reserve_32 : decode cX10_reserve 32 = .ok (.getfield 10, 3) := by decide +kernel
theorem dX10_reserve_35 : decode cX10_reserve 35 = .ok (.iload_n 1, 1) := by decide +kernel
theorem dX10_reserve_36 : decode cX10_reserve 36 = .ok (.invokevirtual 133, 3) := by decide +kernel
theorem dX10_reserve_39 : decode cX10_reserve 39 = .ok (.istore_n 2, 1) := by decide +kernel
theorem dX10_reserve_40 : decode cX10_reserve 40 = .ok (.iload_n 2, 1) := by decide +kernel
theorem dX10_reserve_41 : decode cX10_reserve 41 = .ok (.iconst (-1), 1) := by decide +kernel
theorem dX10_reserve_42 : decode cX10_reserve 42 = .ok (.if_icmp .ne 13, 3) := by decide +kernel
theorem dX10_reserve_45 : decode cX10_reserve 45 = .ok (.new 137, 3) := by decide +kernel
theorem dX10_reserve_48 : decode cX10_reserve 48 = .ok (.dup, 1) := by decide +kernel
theorem dX10_reserve_49 : decode cX10_reserve 49 = .ok (.ldc 139, 2) := by decide +kernel
theorem dX10_reserve_51 : decode cX10_reserve 51 = .ok (.invokespecial 141, 3) := by decide +kernel
theorem dX10_reserve_54 : decode cX10_reserve 54 = .ok (.athrow, 1) := by decide +kernel
theorem dX10_reserve_55 : decode cX10_reserve 55 = .ok (.iload_n 2, 1) := by decide +kernel
theorem dX10_reserve_56 : decode cX10_reserve 56 = .ok (.ireturn, 1) := by decide +kernel
theorem dX10_free_0 : decode cX10_free 0 = .ok (.aload_n 0, 1) := by decide +kernel
theorem dX10_free_1 : decode cX10_free 1 = .ok (.getfield 10, 3) := by decide +kernel
theorem dX10_free_4 : decode cX10_free 4 = .ok (.invokevirtual 142, 3) := by decide +kernel
theorem dX10_free_7 : decode cX10_free 7 = .ok (.ireturn, 1) := by decide +kernel
theorem dX10_setEntry_0 : decode cX10_setEntry 0 = .ok (.iload_n 1, 1) := by decide +kernel
theorem dX10_setEntry_1 : decode cX10_setEntry 1 = .ok (.iconst 2, 1) := by decide +kernel
theorem dX10_setEntry_2 : decode cX10_setEntry 2 = .ok (.invokestatic 48, 3) := by decide +kernel
theorem dX10_setEntry_5 : decode cX10_setEntry 5 = .ok (.iload_n 2, 1) := by decide +kernel
theorem dX10_setEntry_6 : decode cX10_setEntry 6 = .ok (.bipush 16, 2) := by decide +kernel
theorem dX10_setEntry_8 : decode cX10_setEntry 8 = .ok (.invokestatic 48, 3) := by decide +kernel
theorem dX10_setEntry_11 : decode cX10_setEntry 11 = .ok (.iload_n 3, 1) := by decide +kernel
theorem dX10_setEntry_12 : decode cX10_setEntry 12 = .ok (.iconst (-1), 1) := by decide +kernel
theorem dX10_setEntry_13 : decode cX10_setEntry 13 = .ok (.bipush 79, 2) := by decide +kernel
theorem dX10_setEntry_15 : decode cX10_setEntry 15 = .ok (.invokestatic 52, 3) := by decide +kernel
theorem dX10_setEntry_18 : decode cX10_setEntry 18 = .ok (.aload_n 0, 1) := by decide +kernel
theorem dX10_setEntry_19 : decode cX10_setEntry 19 = .ok (.getfield 10, 3) := by decide +kernel
theorem dX10_setEntry_22 : decode cX10_setEntry 22 = .ok (.iload_n 1, 1) := by decide +kernel
theorem dX10_setEntry_23 : decode cX10_setEntry 23 = .ok (.iload_n 2, 1) := by decide +kernel
theorem dX10_setEntry_24 : decode cX10_setEntry 24 = .ok (.iload_n 3, 1) := by decide +kernel
theorem dX10_setEntry_25 : decode cX10_setEntry 25 = .ok (.invokevirtual 146, 3) := by decide +kernel
theorem dX10_setEntry_28 : decode cX10_setEntry 28 = .ok (.ireturn, 1) := by decide +kernel
theorem dX10_setCatch_0 : decode cX10_setCatch 0 = .ok (.iload_n 1, 1) := by decide +kernel
theorem dX10_setCatch_1 : decode cX10_setCatch 1 = .ok (.bipush 80, 2) := by decide +kernel
theorem dX10_setCatch_3 : decode cX10_setCatch 3 = .ok (.invokestatic 48, 3) := by decide +kernel
theorem dX10_setCatch_6 : decode cX10_setCatch 6 = .ok (.iload_n 2, 1) := by decide +kernel
theorem dX10_setCatch_7 : decode cX10_setCatch 7 = .ok (.iconst (-1), 1) := by decide +kernel
theorem dX10_setCatch_8 : decode cX10_setCatch 8 = .ok (.if_icmp .eq 11, 3) := by decide +kernel
theorem dX10_setCatch_11 : decode cX10_setCatch 11 = .ok (.iload_n 2, 1) := by decide +kernel
theorem dX10_setCatch_12 : decode cX10_setCatch 12 = .ok (.bipush 64, 2) := by decide +kernel
theorem dX10_setCatch_14 : decode cX10_setCatch 14 = .ok (.bipush 79, 2) := by decide +kernel
theorem dX10_setCatch_16 : decode cX10_setCatch 16 = .ok (.invokestatic 52, 3) := by decide +kernel
theorem dX10_setCatch_19 : decode cX10_setCatch 19 = .ok (.aload_n 0, 1) := by decide +kernel
theorem dX10_setCatch_20 : decode cX10_setCatch 20 = .ok (.getfield 10, 3) := by decide +kernel
theorem dX10_setCatch_23 : decode cX10_setCatch 23 = .ok (.iload_n 1, 1) := by decide +kernel
theorem dX10_setCatch_24 : decode cX10_setCatch 24 = .ok (.invokevirtual 150, 3) := by decide +kernel
theorem dX10_setCatch_27 : decode cX10_setCatch 27 = .ok (.istore_n 3, 1) := by decide +kernel
theorem dX10_setCatch_28 : decode cX10_setCatch 28 = .ok (.iload_n 2, 1) := by decide +kernel
theorem dX10_setCatch_29 : decode cX10_setCatch 29 = .ok (.iconst (-1), 1) := by decide +kernel
theorem dX10_setCatch_30 : decode cX10_setCatch 30 = .ok (.if_icmp .ne 17, 3) := by decide +kernel
theorem dX10_setCatch_33 : decode cX10_setCatch 33 = .ok (.iload_n 3, 1) := by decide +kernel
theorem dX10_setCatch_34 : decode cX10_setCatch 34 = .ok (.ifCond .ne 13, 3) := by decide +kernel
theorem dX10_setCatch_37 : decode cX10_setCatch 37 = .ok (.new 117, 3) := by decide +kernel
theorem dX10_setCatch_40 : decode cX10_setCatch 40 = .ok (.dup, 1) := by decide +kernel
theorem dX10_setCatch_41 : decode cX10_setCatch 41 = .ok (.ldc 154, 2) := by decide +kernel
theorem dX10_setCatch_43 : decode cX10_setCatch 43 = .ok (.invokespecial 121, 3) := by decide +kernel
theorem dX10_setCatch_46 : decode cX10_setCatch 46 = .ok (.athrow, 1) := by decide +kernel
theorem dX10_setCatch_47 : decode cX10_setCatch 47 = .ok (.iload_n 2, 1) := by decide +kernel
theorem dX10_setCatch_48 : decode cX10_setCatch 48 = .ok (.iconst (-1), 1) := by decide +kernel
theorem dX10_setCatch_49 : decode cX10_setCatch 49 = .ok (.if_icmp .eq 28, 3) := by decide +kernel
theorem dX10_setCatch_52 : decode cX10_setCatch 52 = .ok (.iload_n 3, 1) := by decide +kernel
theorem dX10_setCatch_53 : decode cX10_setCatch 53 = .ok (.ifCond .ne 24, 3) := by decide +kernel
theorem dX10_setCatch_56 : decode cX10_setCatch 56 = .ok (.aload_n 0, 1) := by decide +kernel
theorem dX10_setCatch_57 : decode cX10_setCatch 57 = .ok (.getfield 10, 3) := by decide +kernel
theorem dX10_setCatch_60 : decode cX10_setCatch 60 = .ok (.getfield 156, 3) := by decide +kernel
theorem dX10_setCatch_63 : decode cX10_setCatch 63 = .ok (.iconst 4, 1) := by decide +kernel
theorem dX10_setCatch_64 : decode cX10_setCatch 64 = .ok (.if_icmp .lt 13, 3) := by decide +kernel
theorem dX10_setCatch_67 : decode cX10_setCatch 67 = .ok (.new 137, 3) := by decide +kernel
theorem dX10_setCatch_70 : decode cX10_setCatch 70 = .ok (.dup, 1) := by decide +kernel
theorem dX10_setCatch_71 : decode cX10_setCatch 71 = .ok (.ldc 159, 2) := by decide +kernel
theorem dX10_setCatch_73 : decode cX10_setCatch 73 = .ok (.invokespecial 141, 3) := by decide +kernel
theorem dX10_setCatch_76 : decode cX10_setCatch 76 = .ok (.athrow, 1) := by decide +kernel
theorem dX10_setCatch_77 : decode cX10_setCatch 77 = .ok (.aload_n 0, 1) := by decide +kernel
theorem dX10_setCatch_78 : decode cX10_setCatch 78 = .ok (.getfield 10, 3) := by decide +kernel
theorem dX10_setCatch_81 : decode cX10_setCatch 81 = .ok (.iload_n 1, 1) := by decide +kernel
theorem dX10_setCatch_82 : decode cX10_setCatch 82 = .ok (.iload_n 2, 1) := by decide +kernel
theorem dX10_setCatch_83 : decode cX10_setCatch 83 = .ok (.invokevirtual 161, 3) := by decide +kernel
theorem dX10_setCatch_86 : decode cX10_setCatch 86 = .ok (.aload_n 0, 1) := by decide +kernel
theorem dX10_setCatch_87 : decode cX10_setCatch 87 = .ok (.getfield 10, 3) := by decide +kernel
theorem dX10_setCatch_90 : decode cX10_setCatch 90 = .ok (.getfield 156, 3) := by decide +kernel
theorem dX10_setCatch_93 : decode cX10_setCatch 93 = .ok (.ireturn, 1) := by decide +kernel
theorem dX10_setCell_0 : decode cX10_setCell 0 = .ok (.iload_n 1, 1) := by decide +kernel
theorem dX10_setCell_1 : decode cX10_setCell 1 = .ok (.bipush 64, 2) := by decide +kernel
theorem dX10_setCell_3 : decode cX10_setCell 3 = .ok (.invokestatic 48, 3) := by decide +kernel
theorem dX10_setCell_6 : decode cX10_setCell 6 = .ok (.iload_n 2, 1) := by decide +kernel
theorem dX10_setCell_7 : decode cX10_setCell 7 = .ok (.iconst 0, 1) := by decide +kernel
theorem dX10_setCell_8 : decode cX10_setCell 8 = .ok (.sipush 255, 3) := by decide +kernel
theorem dX10_setCell_11 : decode cX10_setCell 11 = .ok (.invokestatic 52, 3) := by decide +kernel
theorem dX10_setCell_14 : decode cX10_setCell 14 = .ok (.aload_n 0, 1) := by decide +kernel
theorem dX10_setCell_15 : decode cX10_setCell 15 = .ok (.invokevirtual 164, 3) := by decide +kernel
theorem dX10_setCell_18 : decode cX10_setCell 18 = .ok (.aload_n 0, 1) := by decide +kernel
theorem dX10_setCell_19 : decode cX10_setCell 19 = .ok (.getfield 19, 3) := by decide +kernel
theorem dX10_setCell_22 : decode cX10_setCell 22 = .ok (.iload_n 1, 1) := by decide +kernel
theorem dX10_setCell_23 : decode cX10_setCell 23 = .ok (.iload_n 2, 1) := by decide +kernel
theorem dX10_setCell_24 : decode cX10_setCell 24 = .ok (.invokevirtual 167, 3) := by decide +kernel
theorem dX10_setCell_27 : decode cX10_setCell 27 = .ok (.ireturn, 1) := by decide +kernel
theorem dX10_setRegister_0 : decode cX10_setRegister 0 = .ok (.iload_n 1, 1) := by decide +kernel
theorem dX10_setRegister_1 : decode cX10_setRegister 1 = .ok (.iconst 4, 1) := by decide +kernel
theorem dX10_setRegister_2 : decode cX10_setRegister 2 = .ok (.invokestatic 48, 3) := by decide +kernel
theorem dX10_setRegister_5 : decode cX10_setRegister 5 = .ok (.iload_n 2, 1) := by decide +kernel
theorem dX10_setRegister_6 : decode cX10_setRegister 6 = .ok (.iconst 0, 1) := by decide +kernel
theorem dX10_setRegister_7 : decode cX10_setRegister 7 = .ok (.sipush 255, 3) := by decide +kernel
theorem dX10_setRegister_10 : decode cX10_setRegister 10 = .ok (.invokestatic 52, 3) := by decide +kernel
theorem dX10_setRegister_13 : decode cX10_setRegister 13 = .ok (.aload_n 0, 1) := by decide +kernel
theorem dX10_setRegister_14 : decode cX10_setRegister 14 = .ok (.invokevirtual 164, 3) := by decide +kernel
theorem dX10_setRegister_17 : decode cX10_setRegister 17 = .ok (.aload_n 0, 1) := by decide +kernel
theorem dX10_setRegister_18 : decode cX10_setRegister 18 = .ok (.getfield 35, 3) := by decide +kernel
theorem dX10_setRegister_21 : decode cX10_setRegister 21 = .ok (.iload_n 1, 1) := by decide +kernel
theorem dX10_setRegister_22 : decode cX10_setRegister 22 = .ok (.iload_n 2, 1) := by decide +kernel
theorem dX10_setRegister_23 : decode cX10_setRegister 23 = .ok (.invokevirtual 171, 3) := by decide +kernel
theorem dX10_setRegister_26 : decode cX10_setRegister 26 = .ok (.ireturn, 1) := by decide +kernel
theorem dX10_start_0 : decode cX10_start 0 = .ok (.iload_n 1, 1) := by decide +kernel
theorem dX10_start_1 : decode cX10_start 1 = .ok (.iconst 0, 1) := by decide +kernel
theorem dX10_start_2 : decode cX10_start 2 = .ok (.bipush 63, 2) := by decide +kernel
theorem dX10_start_4 : decode cX10_start 4 = .ok (.invokestatic 52, 3) := by decide +kernel
theorem dX10_start_7 : decode cX10_start 7 = .ok (.iload_n 2, 1) := by decide +kernel
theorem dX10_start_8 : decode cX10_start 8 = .ok (.iconst 0, 1) := by decide +kernel
theorem dX10_start_9 : decode cX10_start 9 = .ok (.iconst 1, 1) := by decide +kernel
theorem dX10_start_10 : decode cX10_start 10 = .ok (.invokestatic 52, 3) := by decide +kernel
theorem dX10_start_13 : decode cX10_start 13 = .ok (.aload_n 0, 1) := by decide +kernel
theorem dX10_start_14 : decode cX10_start 14 = .ok (.invokevirtual 164, 3) := by decide +kernel
theorem dX10_start_17 : decode cX10_start 17 = .ok (.aload_n 0, 1) := by decide +kernel
theorem dX10_start_18 : decode cX10_start 18 = .ok (.getfield 35, 3) := by decide +kernel
theorem dX10_start_21 : decode cX10_start 21 = .ok (.iload_n 1, 1) := by decide +kernel
theorem dX10_start_22 : decode cX10_start 22 = .ok (.iload_n 2, 1) := by decide +kernel
theorem dX10_start_23 : decode cX10_start 23 = .ok (.iload_n 3, 1) := by decide +kernel
theorem dX10_start_24 : decode cX10_start 24 = .ok (.ifCond .eq 7, 3) := by decide +kernel
theorem dX10_start_27 : decode cX10_start 27 = .ok (.iconst 1, 1) := by decide +kernel
theorem dX10_start_28 : decode cX10_start 28 = .ok (.goto 4, 3) := by decide +kernel
theorem dX10_start_31 : decode cX10_start 31 = .ok (.iconst 0, 1) := by decide +kernel
theorem dX10_start_32 : decode cX10_start 32 = .ok (.invokevirtual 174, 3) := by decide +kernel
theorem dX10_start_35 : decode cX10_start 35 = .ok (.ireturn, 1) := by decide +kernel
theorem dX10_setPage_0 : decode cX10_setPage 0 = .ok (.iload_n 1, 1) := by decide +kernel
theorem dX10_setPage_1 : decode cX10_setPage 1 = .ok (.iconst 4, 1) := by decide +kernel
theorem dX10_setPage_2 : decode cX10_setPage 2 = .ok (.invokestatic 48, 3) := by decide +kernel
theorem dX10_setPage_5 : decode cX10_setPage 5 = .ok (.aload_n 0, 1) := by decide +kernel
theorem dX10_setPage_6 : decode cX10_setPage 6 = .ok (.getfield 19, 3) := by decide +kernel
theorem dX10_setPage_9 : decode cX10_setPage 9 = .ok (.iload_n 1, 1) := by decide +kernel
theorem dX10_setPage_10 : decode cX10_setPage 10 = .ok (.iload_n 2, 1) := by decide +kernel
theorem dX10_setPage_11 : decode cX10_setPage 11 = .ok (.invokevirtual 177, 3) := by decide +kernel
theorem dX10_setPage_14 : decode cX10_setPage 14 = .ok (.istore_n 3, 1) := by decide +kernel
theorem dX10_setPage_15 : decode cX10_setPage 15 = .ok (.iload_n 2, 1) := by decide +kernel
theorem dX10_setPage_16 : decode cX10_setPage 16 = .ok (.ifCond .eq 11, 3) := by decide +kernel
theorem dX10_setPage_19 : decode cX10_setPage 19 = .ok (.aload_n 0, 1) := by decide +kernel
theorem dX10_setPage_20 : decode cX10_setPage 20 = .ok (.getfield 35, 3) := by decide +kernel
theorem dX10_setPage_23 : decode cX10_setPage 23 = .ok (.iload_n 1, 1) := by decide +kernel
theorem dX10_setPage_24 : decode cX10_setPage 24 = .ok (.invokevirtual 181, 3) := by decide +kernel
theorem dX10_setPage_27 : decode cX10_setPage 27 = .ok (.iload_n 3, 1) := by decide +kernel
theorem dX10_setPage_28 : decode cX10_setPage 28 = .ok (.ireturn, 1) := by decide +kernel
theorem dX10_setWait_0 : decode cX10_setWait 0 = .ok (.iload_n 1, 1) := by decide +kernel
theorem dX10_setWait_1 : decode cX10_setWait 1 = .ok (.iconst 0, 1) := by decide +kernel
theorem dX10_setWait_2 : decode cX10_setWait 2 = .ok (.bipush 9, 2) := by decide +kernel
theorem dX10_setWait_4 : decode cX10_setWait 4 = .ok (.invokestatic 52, 3) := by decide +kernel
theorem dX10_setWait_7 : decode cX10_setWait 7 = .ok (.aload_n 0, 1) := by decide +kernel
theorem dX10_setWait_8 : decode cX10_setWait 8 = .ok (.getfield 35, 3) := by decide +kernel
theorem dX10_setWait_11 : decode cX10_setWait 11 = .ok (.getfield 185, 3) := by decide +kernel
theorem dX10_setWait_14 : decode cX10_setWait 14 = .ok (.istore_n 2, 1) := by decide +kernel
theorem dX10_setWait_15 : decode cX10_setWait 15 = .ok (.aload_n 0, 1) := by decide +kernel
theorem dX10_setWait_16 : decode cX10_setWait 16 = .ok (.getfield 35, 3) := by decide +kernel
theorem dX10_setWait_19 : decode cX10_setWait 19 = .ok (.iload_n 1, 1) := by decide +kernel
theorem dX10_setWait_20 : decode cX10_setWait 20 = .ok (.putfield 185, 3) := by decide +kernel
theorem dX10_setWait_23 : decode cX10_setWait 23 = .ok (.iload_n 2, 1) := by decide +kernel
theorem dX10_setWait_24 : decode cX10_setWait 24 = .ok (.ireturn, 1) := by decide +kernel
theorem dX10_setVector_0 : decode cX10_setVector 0 = .ok (.iload_n 1, 1) := by decide +kernel
theorem dX10_setVector_1 : decode cX10_setVector 1 = .ok (.iconst 0, 1) := by decide +kernel
theorem dX10_setVector_2 : decode cX10_setVector 2 = .ok (.bipush 63, 2) := by decide +kernel
theorem dX10_setVector_4 : decode cX10_setVector 4 = .ok (.invokestatic 52, 3) := by decide +kernel
theorem dX10_setVector_7 : decode cX10_setVector 7 = .ok (.aload_n 0, 1) := by decide +kernel
theorem dX10_setVector_8 : decode cX10_setVector 8 = .ok (.getfield 35, 3) := by decide +kernel
theorem dX10_setVector_11 : decode cX10_setVector 11 = .ok (.getfield 188, 3) := by decide +kernel
theorem dX10_setVector_14 : decode cX10_setVector 14 = .ok (.istore_n 2, 1) := by decide +kernel
theorem dX10_setVector_15 : decode cX10_setVector 15 = .ok (.aload_n 0, 1) := by decide +kernel
theorem dX10_setVector_16 : decode cX10_setVector 16 = .ok (.getfield 35, 3) := by decide +kernel
theorem dX10_setVector_19 : decode cX10_setVector 19 = .ok (.iload_n 1, 1) := by decide +kernel
theorem dX10_setVector_20 : decode cX10_setVector 20 = .ok (.putfield 188, 3) := by decide +kernel
theorem dX10_setVector_23 : decode cX10_setVector 23 = .ok (.iload_n 2, 1) := by decide +kernel
theorem dX10_setVector_24 : decode cX10_setVector 24 = .ok (.ireturn, 1) := by decide +kernel
theorem dX10_interrupt_0 : decode cX10_interrupt 0 = .ok (.aload_n 0, 1) := by decide +kernel
theorem dX10_interrupt_1 : decode cX10_interrupt 1 = .ok (.getfield 35, 3) := by decide +kernel
theorem dX10_interrupt_4 : decode cX10_interrupt 4 = .ok (.getfield 191, 3) := by decide +kernel
theorem dX10_interrupt_7 : decode cX10_interrupt 7 = .ok (.istore_n 1, 1) := by decide +kernel
theorem dX10_interrupt_8 : decode cX10_interrupt 8 = .ok (.aload_n 0, 1) := by decide +kernel
theorem dX10_interrupt_9 : decode cX10_interrupt 9 = .ok (.getfield 35, 3) := by decide +kernel
theorem dX10_interrupt_12 : decode cX10_interrupt 12 = .ok (.iconst 1, 1) := by decide +kernel
theorem dX10_interrupt_13 : decode cX10_interrupt 13 = .ok (.putfield 191, 3) := by decide +kernel
theorem dX10_interrupt_16 : decode cX10_interrupt 16 = .ok (.iload_n 1, 1) := by decide +kernel
theorem dX10_interrupt_17 : decode cX10_interrupt 17 = .ok (.ireturn, 1) := by decide +kernel
theorem dX10_reset_0 : decode cX10_reset 0 = .ok (.aload_n 0, 1) := by decide +kernel
theorem dX10_reset_1 : decode cX10_reset 1 = .ok (.getfield 35, 3) := by decide +kernel
theorem dX10_reset_4 : decode cX10_reset 4 = .ok (.getfield 194, 3) := by decide +kernel
theorem dX10_reset_7 : decode cX10_reset 7 = .ok (.istore_n 1, 1) := by decide +kernel
theorem dX10_reset_8 : decode cX10_reset 8 = .ok (.aload_n 0, 1) := by decide +kernel
theorem dX10_reset_9 : decode cX10_reset 9 = .ok (.getfield 35, 3) := by decide +kernel
theorem dX10_reset_12 : decode cX10_reset 12 = .ok (.invokevirtual 197, 3) := by decide +kernel
theorem dX10_reset_15 : decode cX10_reset 15 = .ok (.aload_n 0, 1) := by decide +kernel
theorem dX10_reset_16 : decode cX10_reset 16 = .ok (.getfield 35, 3) := by decide +kernel
theorem dX10_reset_19 : decode cX10_reset 19 = .ok (.invokevirtual 200, 3) := by decide +kernel
theorem dX10_reset_22 : decode cX10_reset 22 = .ok (.iload_n 1, 1) := by decide +kernel
theorem dX10_reset_23 : decode cX10_reset 23 = .ok (.ireturn, 1) := by decide +kernel
theorem dX10_step_0 : decode cX10_step 0 = .ok (.iload_n 1, 1) := by decide +kernel
theorem dX10_step_1 : decode cX10_step 1 = .ok (.iconst 1, 1) := by decide +kernel
theorem dX10_step_2 : decode cX10_step 2 = .ok (.bipush 100, 2) := by decide +kernel
theorem dX10_step_4 : decode cX10_step 4 = .ok (.invokestatic 52, 3) := by decide +kernel
theorem dX10_step_7 : decode cX10_step 7 = .ok (.iconst 0, 1) := by decide +kernel
theorem dX10_step_8 : decode cX10_step 8 = .ok (.istore_n 2, 1) := by decide +kernel
theorem dX10_step_9 : decode cX10_step 9 = .ok (.iload_n 2, 1) := by decide +kernel
theorem dX10_step_10 : decode cX10_step 10 = .ok (.iload_n 1, 1) := by decide +kernel
theorem dX10_step_11 : decode cX10_step 11 = .ok (.if_icmp .ge 21, 3) := by decide +kernel
theorem dX10_step_14 : decode cX10_step 14 = .ok (.aload_n 0, 1) := by decide +kernel
theorem dX10_step_15 : decode cX10_step 15 = .ok (.getfield 35, 3) := by decide +kernel
theorem dX10_step_18 : decode cX10_step 18 = .ok (.invokevirtual 203, 3) := by decide +kernel
theorem dX10_step_21 : decode cX10_step 21 = .ok (.ifCond .ne 5, 3) := by decide +kernel
theorem dX10_step_24 : decode cX10_step 24 = .ok (.iload_n 2, 1) := by decide +kernel
theorem dX10_step_25 : decode cX10_step 25 = .ok (.ireturn, 1) := by decide +kernel
theorem dX10_step_26 : decode cX10_step 26 = .ok (.iinc 2 1, 3) := by decide +kernel
theorem dX10_step_29 : decode cX10_step 29 = .ok (.goto (-20), 3) := by decide +kernel
theorem dX10_step_32 : decode cX10_step 32 = .ok (.iload_n 1, 1) := by decide +kernel
theorem dX10_step_33 : decode cX10_step 33 = .ok (.ireturn, 1) := by decide +kernel
theorem dX10_run_0 : decode cX10_run 0 = .ok (.iload_n 1, 1) := by decide +kernel
theorem dX10_run_1 : decode cX10_run 1 = .ok (.iconst 1, 1) := by decide +kernel
theorem dX10_run_2 : decode cX10_run 2 = .ok (.bipush 20, 2) := by decide +kernel
theorem dX10_run_4 : decode cX10_run 4 = .ok (.invokestatic 52, 3) := by decide +kernel
theorem dX10_run_7 : decode cX10_run 7 = .ok (.aload_n 0, 1) := by decide +kernel
theorem dX10_run_8 : decode cX10_run 8 = .ok (.getfield 26, 3) := by decide +kernel
theorem dX10_run_11 : decode cX10_run 11 = .ok (.getfield 207, 3) := by decide +kernel
theorem dX10_run_14 : decode cX10_run 14 = .ok (.istore_n 2, 1) := by decide +kernel
theorem dX10_run_15 : decode cX10_run 15 = .ok (.iconst 0, 1) := by decide +kernel
theorem dX10_run_16 : decode cX10_run 16 = .ok (.istore_n 3, 1) := by decide +kernel
theorem dX10_run_17 : decode cX10_run 17 = .ok (.iload_n 3, 1) := by decide +kernel
theorem dX10_run_18 : decode cX10_run 18 = .ok (.sipush 200, 3) := by decide +kernel
theorem dX10_run_21 : decode cX10_run 21 = .ok (.if_icmp .ge 35, 3) := by decide +kernel
theorem dX10_run_24 : decode cX10_run 24 = .ok (.aload_n 0, 1) := by decide +kernel
theorem dX10_run_25 : decode cX10_run 25 = .ok (.getfield 26, 3) := by decide +kernel
theorem dX10_run_28 : decode cX10_run 28 = .ok (.getfield 207, 3) := by decide +kernel
theorem dX10_run_31 : decode cX10_run 31 = .ok (.iload_n 2, 1) := by decide +kernel
theorem dX10_run_32 : decode cX10_run 32 = .ok (.isub, 1) := by decide +kernel
theorem dX10_run_33 : decode cX10_run 33 = .ok (.iload_n 1, 1) := by decide +kernel
theorem dX10_run_34 : decode cX10_run 34 = .ok (.if_icmp .ge 22, 3) := by decide +kernel
theorem dX10_run_37 : decode cX10_run 37 = .ok (.aload_n 0, 1) := by decide +kernel
theorem dX10_run_38 : decode cX10_run 38 = .ok (.getfield 35, 3) := by decide +kernel
theorem dX10_run_41 : decode cX10_run 41 = .ok (.invokevirtual 203, 3) := by decide +kernel
theorem dX10_run_44 : decode cX10_run 44 = .ok (.ifCond .ne 6, 3) := by decide +kernel
theorem dX10_run_47 : decode cX10_run 47 = .ok (.goto 9, 3) := by decide +kernel
theorem dX10_run_50 : decode cX10_run 50 = .ok (.iinc 3 1, 3) := by decide +kernel
theorem dX10_run_53 : decode cX10_run 53 = .ok (.goto (-36), 3) := by decide +kernel
theorem dX10_run_56 : decode cX10_run 56 = .ok (.aload_n 0, 1) := by decide +kernel
theorem dX10_run_57 : decode cX10_run 57 = .ok (.getfield 26, 3) := by decide +kernel
theorem dX10_run_60 : decode cX10_run 60 = .ok (.getfield 207, 3) := by decide +kernel
theorem dX10_run_63 : decode cX10_run 63 = .ok (.iload_n 2, 1) := by decide +kernel
theorem dX10_run_64 : decode cX10_run 64 = .ok (.isub, 1) := by decide +kernel
theorem dX10_run_65 : decode cX10_run 65 = .ok (.ireturn, 1) := by decide +kernel
theorem dX10_state_0 : decode cX10_state 0 = .ok (.aload_n 0, 1) := by decide +kernel
theorem dX10_state_1 : decode cX10_state 1 = .ok (.getfield 35, 3) := by decide +kernel
theorem dX10_state_4 : decode cX10_state 4 = .ok (.getfield 210, 3) := by decide +kernel
theorem dX10_state_7 : decode cX10_state 7 = .ok (.ireturn, 1) := by decide +kernel
theorem dX10_cell_0 : decode cX10_cell 0 = .ok (.iload_n 1, 1) := by decide +kernel
theorem dX10_cell_1 : decode cX10_cell 1 = .ok (.bipush 64, 2) := by decide +kernel
theorem dX10_cell_3 : decode cX10_cell 3 = .ok (.invokestatic 48, 3) := by decide +kernel
theorem dX10_cell_6 : decode cX10_cell 6 = .ok (.aload_n 0, 1) := by decide +kernel
theorem dX10_cell_7 : decode cX10_cell 7 = .ok (.getfield 19, 3) := by decide +kernel
theorem dX10_cell_10 : decode cX10_cell 10 = .ok (.iload_n 1, 1) := by decide +kernel
theorem dX10_cell_11 : decode cX10_cell 11 = .ok (.invokevirtual 213, 3) := by decide +kernel
theorem dX10_cell_14 : decode cX10_cell 14 = .ok (.ireturn, 1) := by decide +kernel
theorem dX10_register_0 : decode cX10_register 0 = .ok (.iload_n 1, 1) := by decide +kernel
theorem dX10_register_1 : decode cX10_register 1 = .ok (.iconst 4, 1) := by decide +kernel
theorem dX10_register_2 : decode cX10_register 2 = .ok (.invokestatic 48, 3) := by decide +kernel
theorem dX10_register_5 : decode cX10_register 5 = .ok (.aload_n 0, 1) := by decide +kernel
theorem dX10_register_6 : decode cX10_register 6 = .ok (.getfield 35, 3) := by decide +kernel
theorem dX10_register_9 : decode cX10_register 9 = .ok (.getfield 216, 3) := by decide +kernel
theorem dX10_register_12 : decode cX10_register 12 = .ok (.getfield 220, 3) := by decide +kernel
theorem dX10_register_15 : decode cX10_register 15 = .ok (.iload_n 1, 1) := by decide +kernel
theorem dX10_register_16 : decode cX10_register 16 = .ok (.iaload, 1) := by decide +kernel
theorem dX10_register_17 : decode cX10_register 17 = .ok (.ireturn, 1) := by decide +kernel
theorem dX10_part_0 : decode cX10_part 0 = .ok (.ldc 226, 2) := by decide +kernel
theorem dX10_part_2 : decode cX10_part 2 = .ok (.iload_n 1, 1) := by decide +kernel
theorem dX10_part_3 : decode cX10_part 3 = .ok (.invokevirtual 228, 3) := by decide +kernel
theorem dX10_part_6 : decode cX10_part 6 = .ok (.ifCond .ge 13, 3) := by decide +kernel
theorem dX10_part_9 : decode cX10_part 9 = .ok (.new 128, 3) := by decide +kernel
theorem dX10_part_12 : decode cX10_part 12 = .ok (.dup, 1) := by decide +kernel
theorem dX10_part_13 : decode cX10_part 13 = .ok (.ldc 233, 2) := by decide +kernel
theorem dX10_part_15 : decode cX10_part 15 = .ok (.invokespecial 132, 3) := by decide +kernel
theorem dX10_part_18 : decode cX10_part 18 = .ok (.athrow, 1) := by decide +kernel
theorem dX10_part_19 : decode cX10_part 19 = .ok (.aload_n 0, 1) := by decide +kernel
theorem dX10_part_20 : decode cX10_part 20 = .ok (.getfield 35, 3) := by decide +kernel
theorem dX10_part_23 : decode cX10_part 23 = .ok (.iload_n 1, 1) := by decide +kernel
theorem dX10_part_24 : decode cX10_part 24 = .ok (.invokevirtual 235, 3) := by decide +kernel
theorem dX10_part_27 : decode cX10_part 27 = .ok (.ireturn, 1) := by decide +kernel
theorem dX10_next_0 : decode cX10_next 0 = .ok (.aload_n 0, 1) := by decide +kernel
theorem dX10_next_1 : decode cX10_next 1 = .ok (.getfield 35, 3) := by decide +kernel
theorem dX10_next_4 : decode cX10_next 4 = .ok (.getfield 194, 3) := by decide +kernel
theorem dX10_next_7 : decode cX10_next 7 = .ok (.ireturn, 1) := by decide +kernel
theorem dX10_returns_0 : decode cX10_returns 0 = .ok (.aload_n 0, 1) := by decide +kernel
theorem dX10_returns_1 : decode cX10_returns 1 = .ok (.getfield 35, 3) := by decide +kernel
theorem dX10_returns_4 : decode cX10_returns 4 = .ok (.getfield 239, 3) := by decide +kernel
theorem dX10_returns_7 : decode cX10_returns 7 = .ok (.ireturn, 1) := by decide +kernel
theorem dX10_bus_0 : decode cX10_bus 0 = .ok (.aload_n 0, 1) := by decide +kernel
theorem dX10_bus_1 : decode cX10_bus 1 = .ok (.getfield 35, 3) := by decide +kernel
theorem dX10_bus_4 : decode cX10_bus 4 = .ok (.getfield 242, 3) := by decide +kernel
theorem dX10_bus_7 : decode cX10_bus 7 = .ok (.ireturn, 1) := by decide +kernel
theorem dX10_drivers_0 : decode cX10_drivers 0 = .ok (.aload_n 0, 1) := by decide +kernel
theorem dX10_drivers_1 : decode cX10_drivers 1 = .ok (.getfield 35, 3) := by decide +kernel
theorem dX10_drivers_4 : decode cX10_drivers 4 = .ok (.getfield 245, 3) := by decide +kernel
theorem dX10_drivers_7 : decode cX10_drivers 7 = .ok (.ireturn, 1) := by decide +kernel
theorem dX10_unset_0 : decode cX10_unset 0 = .ok (.iload_n 1, 1) := by decide +kernel
theorem dX10_unset_1 : decode cX10_unset 1 = .ok (.bipush 80, 2) := by decide +kernel
theorem dX10_unset_3 : decode cX10_unset 3 = .ok (.invokestatic 48, 3) := by decide +kernel
theorem dX10_unset_6 : decode cX10_unset 6 = .ok (.aload_n 0, 1) := by decide +kernel
theorem dX10_unset_7 : decode cX10_unset 7 = .ok (.getfield 44, 3) := by decide +kernel
theorem dX10_unset_10 : decode cX10_unset 10 = .ok (.iload_n 1, 1) := by decide +kernel
theorem dX10_unset_11 : decode cX10_unset 11 = .ok (.invokevirtual 248, 3) := by decide +kernel
theorem dX10_unset_14 : decode cX10_unset 14 = .ok (.aload_n 0, 1) := by decide +kernel
theorem dX10_unset_15 : decode cX10_unset 15 = .ok (.getfield 44, 3) := by decide +kernel
theorem dX10_unset_18 : decode cX10_unset 18 = .ok (.getfield 251, 3) := by decide +kernel
theorem dX10_unset_21 : decode cX10_unset 21 = .ok (.ireturn, 1) := by decide +kernel
theorem dX10_reached_0 : decode cX10_reached 0 = .ok (.iload_n 1, 1) := by decide +kernel
theorem dX10_reached_1 : decode cX10_reached 1 = .ok (.bipush 80, 2) := by decide +kernel
theorem dX10_reached_3 : decode cX10_reached 3 = .ok (.invokestatic 48, 3) := by decide +kernel
theorem dX10_reached_6 : decode cX10_reached 6 = .ok (.aload_n 0, 1) := by decide +kernel
theorem dX10_reached_7 : decode cX10_reached 7 = .ok (.getfield 44, 3) := by decide +kernel
theorem dX10_reached_10 : decode cX10_reached 10 = .ok (.iload_n 1, 1) := by decide +kernel
theorem dX10_reached_11 : decode cX10_reached 11 = .ok (.invokevirtual 248, 3) := by decide +kernel
theorem dX10_reached_14 : decode cX10_reached 14 = .ok (.aload_n 0, 1) := by decide +kernel
theorem dX10_reached_15 : decode cX10_reached 15 = .ok (.getfield 44, 3) := by decide +kernel
theorem dX10_reached_18 : decode cX10_reached 18 = .ok (.getfield 254, 3) := by decide +kernel
theorem dX10_reached_21 : decode cX10_reached 21 = .ok (.ireturn, 1) := by decide +kernel
theorem dX10_defined_0 : decode cX10_defined 0 = .ok (.ldc_w 257, 3) := by decide +kernel
theorem dX10_defined_3 : decode cX10_defined 3 = .ok (.iload_n 1, 1) := by decide +kernel
theorem dX10_defined_4 : decode cX10_defined 4 = .ok (.invokevirtual 228, 3) := by decide +kernel
theorem dX10_defined_7 : decode cX10_defined 7 = .ok (.ifCond .ge 13, 3) := by decide +kernel
theorem dX10_defined_10 : decode cX10_defined 10 = .ok (.new 128, 3) := by decide +kernel
theorem dX10_defined_13 : decode cX10_defined 13 = .ok (.dup, 1) := by decide +kernel
theorem dX10_defined_14 : decode cX10_defined 14 = .ok (.ldc 233, 2) := by decide +kernel
theorem dX10_defined_16 : decode cX10_defined 16 = .ok (.invokespecial 132, 3) := by decide +kernel
theorem dX10_defined_19 : decode cX10_defined 19 = .ok (.athrow, 1) := by decide +kernel
theorem dX10_defined_20 : decode cX10_defined 20 = .ok (.aload_n 0, 1) := by decide +kernel
theorem dX10_defined_21 : decode cX10_defined 21 = .ok (.getfield 35, 3) := by decide +kernel
theorem dX10_defined_24 : decode cX10_defined 24 = .ok (.invokevirtual 259, 3) := by decide +kernel
theorem dX10_defined_27 : decode cX10_defined 27 = .ok (.astore_n 2, 1) := by decide +kernel
theorem dX10_defined_28 : decode cX10_defined 28 = .ok (.aload_n 2, 1) := by decide +kernel
theorem dX10_defined_29 : decode cX10_defined 29 = .ok (.getfield 263, 3) := by decide +kernel
theorem dX10_defined_32 : decode cX10_defined 32 = .ok (.ifCond .ne 14, 3) := by decide +kernel
theorem dX10_defined_35 : decode cX10_defined 35 = .ok (.new 64, 3) := by decide +kernel
theorem dX10_defined_38 : decode cX10_defined 38 = .ok (.dup, 1) := by decide +kernel
theorem dX10_defined_39 : decode cX10_defined 39 = .ok (.ldc_w 268, 3) := by decide +kernel
theorem dX10_defined_42 : decode cX10_defined 42 = .ok (.invokespecial 68, 3) := by decide +kernel
theorem dX10_defined_45 : decode cX10_defined 45 = .ok (.athrow, 1) := by decide +kernel
theorem dX10_defined_46 : decode cX10_defined 46 = .ok (.aload_n 2, 1) := by decide +kernel
theorem dX10_defined_47 : decode cX10_defined 47 = .ok (.getfield 270, 3) := by decide +kernel
theorem dX10_defined_50 : decode cX10_defined 50 = .ok (.iload_n 1, 1) := by decide +kernel
theorem dX10_defined_51 : decode cX10_defined 51 = .ok (.invokevirtual 273, 3) := by decide +kernel
theorem dX10_defined_54 : decode cX10_defined 54 = .ok (.ireturn, 1) := by decide +kernel
theorem dX10_ended_0 : decode cX10_ended 0 = .ok (.aload_n 0, 1) := by decide +kernel
theorem dX10_ended_1 : decode cX10_ended 1 = .ok (.getfield 26, 3) := by decide +kernel
theorem dX10_ended_4 : decode cX10_ended 4 = .ok (.getfield 207, 3) := by decide +kernel
theorem dX10_ended_7 : decode cX10_ended 7 = .ok (.ireturn, 1) := by decide +kernel
theorem dX10_wrong_0 : decode cX10_wrong 0 = .ok (.aload_n 0, 1) := by decide +kernel
theorem dX10_wrong_1 : decode cX10_wrong 1 = .ok (.getfield 26, 3) := by decide +kernel
theorem dX10_wrong_4 : decode cX10_wrong 4 = .ok (.getfield 274, 3) := by decide +kernel
theorem dX10_wrong_7 : decode cX10_wrong 7 = .ok (.ireturn, 1) := by decide +kernel
theorem dX10_firstWrong_0 : decode cX10_firstWrong 0 = .ok (.aload_n 0, 1) := by decide +kernel
theorem dX10_firstWrong_1 : decode cX10_firstWrong 1 = .ok (.getfield 26, 3) := by decide +kernel
theorem dX10_firstWrong_4 : decode cX10_firstWrong 4 = .ok (.getfield 274, 3) := by decide +kernel
theorem dX10_firstWrong_7 : decode cX10_firstWrong 7 = .ok (.ifCond .ne 14, 3) := by decide +kernel
theorem dX10_firstWrong_10 : decode cX10_firstWrong 10 = .ok (.new 117, 3) := by decide +kernel
theorem dX10_firstWrong_13 : decode cX10_firstWrong 13 = .ok (.dup, 1) := by decide +kernel
theorem dX10_firstWrong_14 : decode cX10_firstWrong 14 = .ok (.ldc_w 277, 3) := by decide +kernel
theorem dX10_firstWrong_17 : decode cX10_firstWrong 17 = .ok (.invokespecial 121, 3) := by decide +kernel
theorem dX10_firstWrong_20 : decode cX10_firstWrong 20 = .ok (.athrow, 1) := by decide +kernel
theorem dX10_firstWrong_21 : decode cX10_firstWrong 21 = .ok (.aload_n 0, 1) := by decide +kernel
theorem dX10_firstWrong_22 : decode cX10_firstWrong 22 = .ok (.getfield 26, 3) := by decide +kernel
theorem dX10_firstWrong_25 : decode cX10_firstWrong 25 = .ok (.getfield 279, 3) := by decide +kernel
theorem dX10_firstWrong_28 : decode cX10_firstWrong 28 = .ok (.ireturn, 1) := by decide +kernel
theorem dX10_fights_0 : decode cX10_fights 0 = .ok (.aload_n 0, 1) := by decide +kernel
theorem dX10_fights_1 : decode cX10_fights 1 = .ok (.getfield 26, 3) := by decide +kernel
theorem dX10_fights_4 : decode cX10_fights 4 = .ok (.getfield 282, 3) := by decide +kernel
theorem dX10_fights_7 : decode cX10_fights 7 = .ok (.ireturn, 1) := by decide +kernel
theorem dX10_faults_0 : decode cX10_faults 0 = .ok (.aload_n 0, 1) := by decide +kernel
theorem dX10_faults_1 : decode cX10_faults 1 = .ok (.getfield 26, 3) := by decide +kernel
theorem dX10_faults_4 : decode cX10_faults 4 = .ok (.getfield 285, 3) := by decide +kernel
theorem dX10_faults_7 : decode cX10_faults 7 = .ok (.ireturn, 1) := by decide +kernel
theorem dX10_taken_0 : decode cX10_taken 0 = .ok (.aload_n 0, 1) := by decide +kernel
theorem dX10_taken_1 : decode cX10_taken 1 = .ok (.getfield 26, 3) := by decide +kernel
theorem dX10_taken_4 : decode cX10_taken 4 = .ok (.getfield 288, 3) := by decide +kernel
theorem dX10_taken_7 : decode cX10_taken 7 = .ok (.ireturn, 1) := by decide +kernel
theorem dX10_found_0 : decode cX10_found 0 = .ok (.aload_n 0, 1) := by decide +kernel
theorem dX10_found_1 : decode cX10_found 1 = .ok (.getfield 26, 3) := by decide +kernel
theorem dX10_found_4 : decode cX10_found 4 = .ok (.getfield 291, 3) := by decide +kernel
theorem dX10_found_7 : decode cX10_found 7 = .ok (.ireturn, 1) := by decide +kernel
theorem dX10_cycles_0 : decode cX10_cycles 0 = .ok (.aload_n 0, 1) := by decide +kernel
theorem dX10_cycles_1 : decode cX10_cycles 1 = .ok (.getfield 26, 3) := by decide +kernel
theorem dX10_cycles_4 : decode cX10_cycles 4 = .ok (.getfield 294, 3) := by decide +kernel
theorem dX10_cycles_7 : decode cX10_cycles 7 = .ok (.lreturn, 1) := by decide +kernel
theorem dX10_cyclesOf_0 : decode cX10_cyclesOf 0 = .ok (.iload_n 1, 1) := by decide +kernel
theorem dX10_cyclesOf_1 : decode cX10_cyclesOf 1 = .ok (.iconst 2, 1) := by decide +kernel
theorem dX10_cyclesOf_2 : decode cX10_cyclesOf 2 = .ok (.invokestatic 48, 3) := by decide +kernel
theorem dX10_cyclesOf_5 : decode cX10_cyclesOf 5 = .ok (.iload_n 2, 1) := by decide +kernel
theorem dX10_cyclesOf_6 : decode cX10_cyclesOf 6 = .ok (.bipush 16, 2) := by decide +kernel
theorem dX10_cyclesOf_8 : decode cX10_cyclesOf 8 = .ok (.invokestatic 48, 3) := by decide +kernel
theorem dX10_cyclesOf_11 : decode cX10_cyclesOf 11 = .ok (.aload_n 0, 1) := by decide +kernel
theorem dX10_cyclesOf_12 : decode cX10_cyclesOf 12 = .ok (.getfield 26, 3) := by decide +kernel
theorem dX10_cyclesOf_15 : decode cX10_cyclesOf 15 = .ok (.getfield 298, 3) := by decide +kernel
theorem dX10_cyclesOf_18 : decode cX10_cyclesOf 18 = .ok (.iload_n 1, 1) := by decide +kernel
theorem dX10_cyclesOf_19 : decode cX10_cyclesOf 19 = .ok (.bipush 16, 2) := by decide +kernel
theorem dX10_cyclesOf_21 : decode cX10_cyclesOf 21 = .ok (.imul, 1) := by decide +kernel
theorem dX10_cyclesOf_22 : decode cX10_cyclesOf 22 = .ok (.iload_n 2, 1) := by decide +kernel
theorem dX10_cyclesOf_23 : decode cX10_cyclesOf 23 = .ok (.iadd, 1) := by decide +kernel
theorem dX10_cyclesOf_24 : decode cX10_cyclesOf 24 = .ok (.laload, 1) := by decide +kernel
theorem dX10_cyclesOf_25 : decode cX10_cyclesOf 25 = .ok (.lreturn, 1) := by decide +kernel
theorem dX10_usedShare_0 : decode cX10_usedShare 0 = .ok (.aload_n 0, 1) := by decide +kernel
theorem dX10_usedShare_1 : decode cX10_usedShare 1 = .ok (.getfield 26, 3) := by decide +kernel
theorem dX10_usedShare_4 : decode cX10_usedShare 4 = .ok (.getfield 294, 3) := by decide +kernel
theorem dX10_usedShare_7 : decode cX10_usedShare 7 = .ok (.lconst 0, 1) := by decide +kernel
theorem dX10_usedShare_8 : decode cX10_usedShare 8 = .ok (.lcmp, 1) := by decide +kernel
theorem dX10_usedShare_9 : decode cX10_usedShare 9 = .ok (.ifCond .ne 14, 3) := by decide +kernel
theorem dX10_usedShare_12 : decode cX10_usedShare 12 = .ok (.new 302, 3) := by decide +kernel
theorem dX10_usedShare_15 : decode cX10_usedShare 15 = .ok (.dup, 1) := by decide +kernel
theorem dX10_usedShare_16 : decode cX10_usedShare 16 = .ok (.ldc_w 304, 3) := by decide +kernel
theorem dX10_usedShare_19 : decode cX10_usedShare 19 = .ok (.invokespecial 306, 3) := by decide +kernel
theorem dX10_usedShare_22 : decode cX10_usedShare 22 = .ok (.athrow, 1) := by decide +kernel
theorem dX10_usedShare_23 : decode cX10_usedShare 23 = .ok (.aload_n 0, 1) := by decide +kernel
theorem dX10_usedShare_24 : decode cX10_usedShare 24 = .ok (.getfield 26, 3) := by decide +kernel
theorem dX10_usedShare_27 : decode cX10_usedShare 27 = .ok (.getfield 307, 3) := by decide +kernel
theorem dX10_usedShare_30 : decode cX10_usedShare 30 = .ok (.l2f, 1) := by decide +kernel
theorem dX10_usedShare_31 : decode cX10_usedShare 31 = .ok (.aload_n 0, 1) := by decide +kernel
theorem dX10_usedShare_32 : decode cX10_usedShare 32 = .ok (.getfield 26, 3) := by decide +kernel
theorem dX10_usedShare_35 : decode cX10_usedShare 35 = .ok (.getfield 294, 3) := by decide +kernel
theorem dX10_usedShare_38 : decode cX10_usedShare 38 = .ok (.l2f, 1) := by decide +kernel
theorem dX10_usedShare_39 : decode cX10_usedShare 39 = .ok (.fdiv, 1) := by decide +kernel
theorem dX10_usedShare_40 : decode cX10_usedShare 40 = .ok (.freturn, 1) := by decide +kernel
theorem dX10_meanCycles_0 : decode cX10_meanCycles 0 = .ok (.aload_n 0, 1) := by decide +kernel
theorem dX10_meanCycles_1 : decode cX10_meanCycles 1 = .ok (.getfield 26, 3) := by decide +kernel
theorem dX10_meanCycles_4 : decode cX10_meanCycles 4 = .ok (.getfield 207, 3) := by decide +kernel
theorem dX10_meanCycles_7 : decode cX10_meanCycles 7 = .ok (.ifCond .ne 14, 3) := by decide +kernel
theorem dX10_meanCycles_10 : decode cX10_meanCycles 10 = .ok (.new 302, 3) := by decide +kernel
theorem dX10_meanCycles_13 : decode cX10_meanCycles 13 = .ok (.dup, 1) := by decide +kernel
theorem dX10_meanCycles_14 : decode cX10_meanCycles 14 = .ok (.ldc_w 310, 3) := by decide +kernel
theorem dX10_meanCycles_17 : decode cX10_meanCycles 17 = .ok (.invokespecial 306, 3) := by decide +kernel
theorem dX10_meanCycles_20 : decode cX10_meanCycles 20 = .ok (.athrow, 1) := by decide +kernel
theorem dX10_meanCycles_21 : decode cX10_meanCycles 21 = .ok (.aload_n 0, 1) := by decide +kernel
theorem dX10_meanCycles_22 : decode cX10_meanCycles 22 = .ok (.getfield 26, 3) := by decide +kernel
theorem dX10_meanCycles_25 : decode cX10_meanCycles 25 = .ok (.getfield 307, 3) := by decide +kernel
theorem dX10_meanCycles_28 : decode cX10_meanCycles 28 = .ok (.l2d, 1) := by decide +kernel
theorem dX10_meanCycles_29 : decode cX10_meanCycles 29 = .ok (.aload_n 0, 1) := by decide +kernel
theorem dX10_meanCycles_30 : decode cX10_meanCycles 30 = .ok (.getfield 26, 3) := by decide +kernel
theorem dX10_meanCycles_33 : decode cX10_meanCycles 33 = .ok (.getfield 207, 3) := by decide +kernel
theorem dX10_meanCycles_36 : decode cX10_meanCycles 36 = .ok (.i2d, 1) := by decide +kernel
theorem dX10_meanCycles_37 : decode cX10_meanCycles 37 = .ok (.ddiv, 1) := by decide +kernel
theorem dX10_meanCycles_38 : decode cX10_meanCycles 38 = .ok (.dreturn, 1) := by decide +kernel
theorem dX10_isSound_0 : decode cX10_isSound 0 = .ok (.aload_n 0, 1) := by decide +kernel
theorem dX10_isSound_1 : decode cX10_isSound 1 = .ok (.getfield 35, 3) := by decide +kernel
theorem dX10_isSound_4 : decode cX10_isSound 4 = .ok (.invokevirtual 312, 3) := by decide +kernel
theorem dX10_isSound_7 : decode cX10_isSound 7 = .ok (.ifCond .eq 46, 3) := by decide +kernel
theorem dX10_isSound_10 : decode cX10_isSound 10 = .ok (.aload_n 0, 1) := by decide +kernel
theorem dX10_isSound_11 : decode cX10_isSound 11 = .ok (.getfield 35, 3) := by decide +kernel
theorem dX10_isSound_14 : decode cX10_isSound 14 = .ok (.getfield 239, 3) := by decide +kernel
theorem dX10_isSound_17 : decode cX10_isSound 17 = .ok (.iconst 4, 1) := by decide +kernel
theorem dX10_isSound_18 : decode cX10_isSound 18 = .ok (.if_icmp .gt 35, 3) := by decide +kernel
theorem dX10_isSound_21 : decode cX10_isSound 21 = .ok (.aload_n 0, 1) := by decide +kernel
theorem dX10_isSound_22 : decode cX10_isSound 22 = .ok (.getfield 26, 3) := by decide +kernel
theorem dX10_isSound_25 : decode cX10_isSound 25 = .ok (.getfield 307, 3) := by decide +kernel
theorem dX10_isSound_28 : decode cX10_isSound 28 = .ok (.aload_n 0, 1) := by decide +kernel
theorem dX10_isSound_29 : decode cX10_isSound 29 = .ok (.getfield 26, 3) := by decide +kernel
theorem dX10_isSound_32 : decode cX10_isSound 32 = .ok (.getfield 294, 3) := by decide +kernel
theorem dX10_isSound_35 : decode cX10_isSound 35 = .ok (.lcmp, 1) := by decide +kernel
theorem dX10_isSound_36 : decode cX10_isSound 36 = .ok (.ifCond .gt 17, 3) := by decide +kernel
theorem dX10_isSound_39 : decode cX10_isSound 39 = .ok (.aload_n 0, 1) := by decide +kernel
theorem dX10_isSound_40 : decode cX10_isSound 40 = .ok (.getfield 35, 3) := by decide +kernel
theorem dX10_isSound_43 : decode cX10_isSound 43 = .ok (.invokevirtual 315, 3) := by decide +kernel
theorem dX10_isSound_46 : decode cX10_isSound 46 = .ok (.ifCond .eq 7, 3) := by decide +kernel
theorem dX10_isSound_49 : decode cX10_isSound 49 = .ok (.iconst 1, 1) := by decide +kernel
theorem dX10_isSound_50 : decode cX10_isSound 50 = .ok (.goto 4, 3) := by decide +kernel
theorem dX10_isSound_53 : decode cX10_isSound 53 = .ok (.iconst 0, 1) := by decide +kernel
theorem dX10_isSound_54 : decode cX10_isSound 54 = .ok (.ireturn, 1) := by decide +kernel
theorem dX10_isOutside_0 : decode cX10_isOutside 0 = .ok (.iload_n 0, 1) := by decide +kernel
theorem dX10_isOutside_1 : decode cX10_isOutside 1 = .ok (.ifCond .lt 8, 3) := by decide +kernel
theorem dX10_isOutside_4 : decode cX10_isOutside 4 = .ok (.iload_n 0, 1) := by decide +kernel
theorem dX10_isOutside_5 : decode cX10_isOutside 5 = .ok (.iload_n 1, 1) := by decide +kernel
theorem dX10_isOutside_6 : decode cX10_isOutside 6 = .ok (.if_icmp .lt 7, 3) := by decide +kernel
theorem dX10_isOutside_9 : decode cX10_isOutside 9 = .ok (.iconst 1, 1) := by decide +kernel
theorem dX10_isOutside_10 : decode cX10_isOutside 10 = .ok (.goto 4, 3) := by decide +kernel
theorem dX10_isOutside_13 : decode cX10_isOutside 13 = .ok (.iconst 0, 1) := by decide +kernel
theorem dX10_isOutside_14 : decode cX10_isOutside 14 = .ok (.ireturn, 1) := by decide +kernel
theorem dX10_requireIndex_0 : decode cX10_requireIndex 0 = .ok (.iload_n 0, 1) := by decide +kernel
theorem dX10_requireIndex_1 : decode cX10_requireIndex 1 = .ok (.iload_n 1, 1) := by decide +kernel
theorem dX10_requireIndex_2 : decode cX10_requireIndex 2 = .ok (.invokestatic 318, 3) := by decide +kernel
theorem dX10_requireIndex_5 : decode cX10_requireIndex 5 = .ok (.ifCond .eq 14, 3) := by decide +kernel
theorem dX10_requireIndex_8 : decode cX10_requireIndex 8 = .ok (.new 109, 3) := by decide +kernel
theorem dX10_requireIndex_11 : decode cX10_requireIndex 11 = .ok (.dup, 1) := by decide +kernel
theorem dX10_requireIndex_12 : decode cX10_requireIndex 12 = .ok (.ldc_w 322, 3) := by decide +kernel
theorem dX10_requireIndex_15 : decode cX10_requireIndex 15 = .ok (.invokespecial 113, 3) := by decide +kernel
theorem dX10_requireIndex_18 : decode cX10_requireIndex 18 = .ok (.athrow, 1) := by decide +kernel
theorem dX10_requireIndex_19 : decode cX10_requireIndex 19 = .ok (.return_, 1) := by decide +kernel
theorem dX10_requireNumber_0 : decode cX10_requireNumber 0 = .ok (.iload_n 0, 1) := by decide +kernel
theorem dX10_requireNumber_1 : decode cX10_requireNumber 1 = .ok (.iload_n 1, 1) := by decide +kernel
theorem dX10_requireNumber_2 : decode cX10_requireNumber 2 = .ok (.if_icmp .lt 8, 3) := by decide +kernel
theorem dX10_requireNumber_5 : decode cX10_requireNumber 5 = .ok (.iload_n 0, 1) := by decide +kernel
theorem dX10_requireNumber_6 : decode cX10_requireNumber 6 = .ok (.iload_n 2, 1) := by decide +kernel
theorem dX10_requireNumber_7 : decode cX10_requireNumber 7 = .ok (.if_icmp .le 14, 3) := by decide +kernel
theorem dX10_requireNumber_10 : decode cX10_requireNumber 10 = .ok (.new 128, 3) := by decide +kernel
theorem dX10_requireNumber_13 : decode cX10_requireNumber 13 = .ok (.dup, 1) := by decide +kernel
theorem dX10_requireNumber_14 : decode cX10_requireNumber 14 = .ok (.ldc_w 324, 3) := by decide +kernel
theorem dX10_requireNumber_17 : decode cX10_requireNumber 17 = .ok (.invokespecial 132, 3) := by decide +kernel
theorem dX10_requireNumber_20 : decode cX10_requireNumber 20 = .ok (.athrow, 1) := by decide +kernel
theorem dX10_requireNumber_21 : decode cX10_requireNumber 21 = .ok (.return_, 1) := by decide +kernel
theorem dX10_requireWord_0 : decode cX10_requireWord 0 = .ok (.iload_n 0, 1) := by decide +kernel
theorem dX10_requireWord_1 : decode cX10_requireWord 1 = .ok (.iconst 0, 1) := by decide +kernel
theorem dX10_requireWord_2 : decode cX10_requireWord 2 = .ok (.bipush 127, 2) := by decide +kernel
theorem dX10_requireWord_4 : decode cX10_requireWord 4 = .ok (.invokestatic 52, 3) := by decide +kernel
theorem dX10_requireWord_7 : decode cX10_requireWord 7 = .ok (.iload_n 1, 1) := by decide +kernel
theorem dX10_requireWord_8 : decode cX10_requireWord 8 = .ok (.iconst 0, 1) := by decide +kernel
theorem dX10_requireWord_9 : decode cX10_requireWord 9 = .ok (.sipush 255, 3) := by decide +kernel
theorem dX10_requireWord_12 : decode cX10_requireWord 12 = .ok (.invokestatic 52, 3) := by decide +kernel
theorem dX10_requireWord_15 : decode cX10_requireWord 15 = .ok (.iload_n 2, 1) := by decide +kernel
theorem dX10_requireWord_16 : decode cX10_requireWord 16 = .ok (.iconst 0, 1) := by decide +kernel
theorem dX10_requireWord_17 : decode cX10_requireWord 17 = .ok (.iconst 2, 1) := by decide +kernel
theorem dX10_requireWord_18 : decode cX10_requireWord 18 = .ok (.invokestatic 52, 3) := by decide +kernel
theorem dX10_requireWord_21 : decode cX10_requireWord 21 = .ok (.iload 4, 2) := by decide +kernel
theorem dX10_requireWord_23 : decode cX10_requireWord 23 = .ok (.iconst 0, 1) := by decide +kernel
theorem dX10_requireWord_24 : decode cX10_requireWord 24 = .ok (.bipush 7, 2) := by decide +kernel
theorem dX10_requireWord_26 : decode cX10_requireWord 26 = .ok (.invokestatic 52, 3) := by decide +kernel
theorem dX10_requireWord_29 : decode cX10_requireWord 29 = .ok (.ldc_w 326, 3) := by decide +kernel
theorem dX10_requireWord_32 : decode cX10_requireWord 32 = .ok (.iload_n 3, 1) := by decide +kernel
theorem dX10_requireWord_33 : decode cX10_requireWord 33 = .ok (.invokevirtual 228, 3) := by decide +kernel
theorem dX10_requireWord_36 : decode cX10_requireWord 36 = .ok (.ifCond .ge 14, 3) := by decide +kernel
theorem dX10_requireWord_39 : decode cX10_requireWord 39 = .ok (.new 128, 3) := by decide +kernel
theorem dX10_requireWord_42 : decode cX10_requireWord 42 = .ok (.dup, 1) := by decide +kernel
theorem dX10_requireWord_43 : decode cX10_requireWord 43 = .ok (.ldc_w 328, 3) := by decide +kernel
theorem dX10_requireWord_46 : decode cX10_requireWord 46 = .ok (.invokespecial 132, 3) := by decide +kernel
theorem dX10_requireWord_49 : decode cX10_requireWord 49 = .ok (.athrow, 1) := by decide +kernel
theorem dX10_requireWord_50 : decode cX10_requireWord 50 = .ok (.return_, 1) := by decide +kernel
theorem dX10_requireNotBegun_0 : decode cX10_requireNotBegun 0 = .ok (.aload_n 0, 1) := by decide +kernel
theorem dX10_requireNotBegun_1 : decode cX10_requireNotBegun 1 = .ok (.getfield 35, 3) := by decide +kernel
theorem dX10_requireNotBegun_4 : decode cX10_requireNotBegun 4 = .ok (.getfield 330, 3) := by decide +kernel
theorem dX10_requireNotBegun_7 : decode cX10_requireNotBegun 7 = .ok (.ifCond .eq 14, 3) := by decide +kernel
theorem dX10_requireNotBegun_10 : decode cX10_requireNotBegun 10 = .ok (.new 137, 3) := by decide +kernel
theorem dX10_requireNotBegun_13 : decode cX10_requireNotBegun 13 = .ok (.dup, 1) := by decide +kernel
theorem dX10_requireNotBegun_14 : decode cX10_requireNotBegun 14 = .ok (.ldc_w 333, 3) := by decide +kernel
theorem dX10_requireNotBegun_17 : decode cX10_requireNotBegun 17 = .ok (.invokespecial 141, 3) := by decide +kernel
theorem dX10_requireNotBegun_20 : decode cX10_requireNotBegun 20 = .ok (.athrow, 1) := by decide +kernel
theorem dX10_requireNotBegun_21 : decode cX10_requireNotBegun 21 = .ok (.return_, 1) := by decide +kernel
theorem dX10_reasonAgainst_0 : decode cX10_reasonAgainst 0 = .ok (.iload_n 2, 1) := by decide +kernel
theorem dX10_reasonAgainst_1 : decode cX10_reasonAgainst 1 = .ok (.iconst 1, 1) := by decide +kernel
theorem dX10_reasonAgainst_2 : decode cX10_reasonAgainst 2 = .ok (.if_icmp .ne 13, 3) := by decide +kernel
theorem dX10_reasonAgainst_5 : decode cX10_reasonAgainst 5 = .ok (.iload_n 1, 1) := by decide +kernel
theorem dX10_reasonAgainst_6 : decode cX10_reasonAgainst 6 = .ok (.bipush 8, 2) := by decide +kernel
theorem dX10_reasonAgainst_8 : decode cX10_reasonAgainst 8 = .ok (.iand, 1) := by decide +kernel
theorem dX10_reasonAgainst_9 : decode cX10_reasonAgainst 9 = .ok (.ifCond .eq 6, 3) := by decide +kernel
theorem dX10_reasonAgainst_12 : decode cX10_reasonAgainst 12 = .ok (.bipush 100, 2) := by decide +kernel
theorem dX10_reasonAgainst_14 : decode cX10_reasonAgainst 14 = .ok (.ireturn, 1) := by decide +kernel
theorem dX10_reasonAgainst_15 : decode cX10_reasonAgainst 15 = .ok (.iload_n 1, 1) := by decide +kernel
theorem dX10_reasonAgainst_16 : decode cX10_reasonAgainst 16 = .ok (.bipush 32, 2) := by decide +kernel
theorem dX10_reasonAgainst_18 : decode cX10_reasonAgainst 18 = .ok (.iand, 1) := by decide +kernel
theorem dX10_reasonAgainst_19 : decode cX10_reasonAgainst 19 = .ok (.ifCond .eq 13, 3) := by decide +kernel
theorem dX10_reasonAgainst_22 : decode cX10_reasonAgainst 22 = .ok (.iload_n 1, 1) := by decide +kernel
theorem dX10_reasonAgainst_23 : decode cX10_reasonAgainst 23 = .ok (.bipush 64, 2) := by decide +kernel
theorem dX10_reasonAgainst_25 : decode cX10_reasonAgainst 25 = .ok (.iand, 1) := by decide +kernel
theorem dX10_reasonAgainst_26 : decode cX10_reasonAgainst 26 = .ok (.ifCond .eq 6, 3) := by decide +kernel
theorem dX10_reasonAgainst_29 : decode cX10_reasonAgainst 29 = .ok (.bipush 114, 2) := by decide +kernel
theorem dX10_reasonAgainst_31 : decode cX10_reasonAgainst 31 = .ok (.ireturn, 1) := by decide +kernel
theorem dX10_reasonAgainst_32 : decode cX10_reasonAgainst 32 = .ok (.iload_n 3, 1) := by decide +kernel
theorem dX10_reasonAgainst_33 : decode cX10_reasonAgainst 33 = .ok (.bipush 99, 2) := by decide +kernel
theorem dX10_reasonAgainst_35 : decode cX10_reasonAgainst 35 = .ok (.if_icmp .eq 9, 3) := by decide +kernel
theorem dX10_reasonAgainst_38 : decode cX10_reasonAgainst 38 = .ok (.iload_n 3, 1) := by decide +kernel
theorem dX10_reasonAgainst_39 : decode cX10_reasonAgainst 39 = .ok (.bipush 114, 2) := by decide +kernel
theorem dX10_reasonAgainst_41 : decode cX10_reasonAgainst 41 = .ok (.if_icmp .ne 10, 3) := by decide +kernel
theorem dX10_reasonAgainst_44 : decode cX10_reasonAgainst 44 = .ok (.iload_n 2, 1) := by decide +kernel
theorem dX10_reasonAgainst_45 : decode cX10_reasonAgainst 45 = .ok (.ifCond .eq 6, 3) := by decide +kernel
theorem dX10_reasonAgainst_48 : decode cX10_reasonAgainst 48 = .ok (.bipush 109, 2) := by decide +kernel
theorem dX10_reasonAgainst_50 : decode cX10_reasonAgainst 50 = .ok (.ireturn, 1) := by decide +kernel
theorem dX10_reasonAgainst_51 : decode cX10_reasonAgainst 51 = .ok (.iload 4, 2) := by decide +kernel
theorem dX10_reasonAgainst_53 : decode cX10_reasonAgainst 53 = .ok (.ifCond .eq 12, 3) := by decide +kernel
theorem dX10_reasonAgainst_56 : decode cX10_reasonAgainst 56 = .ok (.iload_n 3, 1) := by decide +kernel
theorem dX10_reasonAgainst_57 : decode cX10_reasonAgainst 57 = .ok (.bipush 111, 2) := by decide +kernel
theorem dX10_reasonAgainst_59 : decode cX10_reasonAgainst 59 = .ok (.if_icmp .eq 6, 3) := by decide +kernel
theorem dX10_reasonAgainst_62 : decode cX10_reasonAgainst 62 = .ok (.bipush 116, 2) := by decide +kernel
theorem dX10_reasonAgainst_64 : decode cX10_reasonAgainst 64 = .ok (.ireturn, 1) := by decide +kernel
theorem dX10_reasonAgainst_65 : decode cX10_reasonAgainst 65 = .ok (.iload_n 0, 1) := by decide +kernel
theorem dX10_reasonAgainst_66 : decode cX10_reasonAgainst 66 = .ok (.bipush 64, 2) := by decide +kernel
theorem dX10_reasonAgainst_68 : decode cX10_reasonAgainst 68 = .ok (.iand, 1) := by decide +kernel
theorem dX10_reasonAgainst_69 : decode cX10_reasonAgainst 69 = .ok (.ifCond .eq 12, 3) := by decide +kernel
theorem dX10_reasonAgainst_72 : decode cX10_reasonAgainst 72 = .ok (.iload_n 3, 1) := by decide +kernel
theorem dX10_reasonAgainst_73 : decode cX10_reasonAgainst 73 = .ok (.bipush 111, 2) := by decide +kernel
theorem dX10_reasonAgainst_75 : decode cX10_reasonAgainst 75 = .ok (.if_icmp .ne 6, 3) := by decide +kernel
theorem dX10_reasonAgainst_78 : decode cX10_reasonAgainst 78 = .ok (.bipush 107, 2) := by decide +kernel
theorem dX10_reasonAgainst_80 : decode cX10_reasonAgainst 80 = .ok (.ireturn, 1) := by decide +kernel
theorem dX10_reasonAgainst_81 : decode cX10_reasonAgainst 81 = .ok (.bipush 45, 2) := by decide +kernel
theorem dX10_reasonAgainst_83 : decode cX10_reasonAgainst 83 = .ok (.ireturn, 1) := by decide +kernel
theorem dX10_resultOf_0 : decode cX10_resultOf 0 = .ok (.iload_n 0, 1) := by decide +kernel
theorem dX10_resultOf_1 : decode cX10_resultOf 1 = .ok (.tableswitch 87 1 7 #[43, 51, 59, 63, 67, 75, 83], 43) := by decide +kernel
theorem dX10_resultOf_44 : decode cX10_resultOf 44 = .ok (.iload_n 1, 1) := by decide +kernel
theorem dX10_resultOf_45 : decode cX10_resultOf 45 = .ok (.iload_n 2, 1) := by decide +kernel
theorem dX10_resultOf_46 : decode cX10_resultOf 46 = .ok (.iadd, 1) := by decide +kernel
theorem dX10_resultOf_47 : decode cX10_resultOf 47 = .ok (.sipush 255, 3) := by decide +kernel
theorem dX10_resultOf_50 : decode cX10_resultOf 50 = .ok (.iand, 1) := by decide +kernel
theorem dX10_resultOf_51 : decode cX10_resultOf 51 = .ok (.ireturn, 1) := by decide +kernel
theorem dX10_resultOf_52 : decode cX10_resultOf 52 = .ok (.iload_n 1, 1) := by decide +kernel
theorem dX10_resultOf_53 : decode cX10_resultOf 53 = .ok (.iload_n 2, 1) := by decide +kernel
theorem dX10_resultOf_54 : decode cX10_resultOf 54 = .ok (.isub, 1) := by decide +kernel
theorem dX10_resultOf_55 : decode cX10_resultOf 55 = .ok (.sipush 255, 3) := by decide +kernel
theorem dX10_resultOf_58 : decode cX10_resultOf 58 = .ok (.iand, 1) := by decide +kernel
theorem dX10_resultOf_59 : decode cX10_resultOf 59 = .ok (.ireturn, 1) := by decide +kernel
theorem dX10_resultOf_60 : decode cX10_resultOf 60 = .ok (.iload_n 1, 1) := by decide +kernel
theorem dX10_resultOf_61 : decode cX10_resultOf 61 = .ok (.iload_n 2, 1) := by decide +kernel
theorem dX10_resultOf_62 : decode cX10_resultOf 62 = .ok (.iand, 1) := by decide +kernel
theorem dX10_resultOf_63 : decode cX10_resultOf 63 = .ok (.ireturn, 1) := by decide +kernel
theorem dX10_resultOf_64 : decode cX10_resultOf 64 = .ok (.iload_n 1, 1) := by decide +kernel
theorem dX10_resultOf_65 : decode cX10_resultOf 65 = .ok (.iload_n 2, 1) := by decide +kernel
theorem dX10_resultOf_66 : decode cX10_resultOf 66 = .ok (.ixor, 1) := by decide +kernel
theorem dX10_resultOf_67 : decode cX10_resultOf 67 = .ok (.ireturn, 1) := by decide +kernel
theorem dX10_resultOf_68 : decode cX10_resultOf 68 = .ok (.iload_n 2, 1) := by decide +kernel
theorem dX10_resultOf_69 : decode cX10_resultOf 69 = .ok (.iconst 1, 1) := by decide +kernel
theorem dX10_resultOf_70 : decode cX10_resultOf 70 = .ok (.iadd, 1) := by decide +kernel
theorem dX10_resultOf_71 : decode cX10_resultOf 71 = .ok (.sipush 255, 3) := by decide +kernel
theorem dX10_resultOf_74 : decode cX10_resultOf 74 = .ok (.iand, 1) := by decide +kernel
theorem dX10_resultOf_75 : decode cX10_resultOf 75 = .ok (.ireturn, 1) := by decide +kernel
theorem dX10_resultOf_76 : decode cX10_resultOf 76 = .ok (.iload_n 2, 1) := by decide +kernel
theorem dX10_resultOf_77 : decode cX10_resultOf 77 = .ok (.iconst 1, 1) := by decide +kernel
theorem dX10_resultOf_78 : decode cX10_resultOf 78 = .ok (.isub, 1) := by decide +kernel
theorem dX10_resultOf_79 : decode cX10_resultOf 79 = .ok (.sipush 255, 3) := by decide +kernel
theorem dX10_resultOf_82 : decode cX10_resultOf 82 = .ok (.iand, 1) := by decide +kernel
theorem dX10_resultOf_83 : decode cX10_resultOf 83 = .ok (.ireturn, 1) := by decide +kernel
theorem dX10_resultOf_84 : decode cX10_resultOf 84 = .ok (.iload_n 2, 1) := by decide +kernel
theorem dX10_resultOf_85 : decode cX10_resultOf 85 = .ok (.iconst 1, 1) := by decide +kernel
theorem dX10_resultOf_86 : decode cX10_resultOf 86 = .ok (.ishr, 1) := by decide +kernel
theorem dX10_resultOf_87 : decode cX10_resultOf 87 = .ok (.ireturn, 1) := by decide +kernel
theorem dX10_resultOf_88 : decode cX10_resultOf 88 = .ok (.iload_n 2, 1) := by decide +kernel
theorem dX10_resultOf_89 : decode cX10_resultOf 89 = .ok (.ireturn, 1) := by decide +kernel
theorem dX10_hasCarry_0 : decode cX10_hasCarry 0 = .ok (.iload_n 0, 1) := by decide +kernel
theorem dX10_hasCarry_1 : decode cX10_hasCarry 1 = .ok (.tableswitch 105 1 7 #[43, 58, 105, 105, 69, 82, 92], 43) := by decide +kernel
theorem dX10_hasCarry_44 : decode cX10_hasCarry 44 = .ok (.iload_n 1, 1) := by decide +kernel
theorem dX10_hasCarry_45 : decode cX10_hasCarry 45 = .ok (.iload_n 2, 1) := by decide +kernel
theorem dX10_hasCarry_46 : decode cX10_hasCarry 46 = .ok (.iadd, 1) := by decide +kernel
theorem dX10_hasCarry_47 : decode cX10_hasCarry 47 = .ok (.sipush 256, 3) := by decide +kernel
theorem dX10_hasCarry_50 : decode cX10_hasCarry 50 = .ok (.if_icmp .lt 7, 3) := by decide +kernel
theorem dX10_hasCarry_53 : decode cX10_hasCarry 53 = .ok (.iconst 1, 1) := by decide +kernel
theorem dX10_hasCarry_54 : decode cX10_hasCarry 54 = .ok (.goto 4, 3) := by decide +kernel
theorem dX10_hasCarry_57 : decode cX10_hasCarry 57 = .ok (.iconst 0, 1) := by decide +kernel
theorem dX10_hasCarry_58 : decode cX10_hasCarry 58 = .ok (.ireturn, 1) := by decide +kernel
theorem dX10_hasCarry_59 : decode cX10_hasCarry 59 = .ok (.iload_n 1, 1) := by decide +kernel
theorem dX10_hasCarry_60 : decode cX10_hasCarry 60 = .ok (.iload_n 2, 1) := by decide +kernel
theorem dX10_hasCarry_61 : decode cX10_hasCarry 61 = .ok (.if_icmp .ge 7, 3) := by decide +kernel
theorem dX10_hasCarry_64 : decode cX10_hasCarry 64 = .ok (.iconst 1, 1) := by decide +kernel
theorem dX10_hasCarry_65 : decode cX10_hasCarry 65 = .ok (.goto 4, 3) := by decide +kernel
theorem dX10_hasCarry_68 : decode cX10_hasCarry 68 = .ok (.iconst 0, 1) := by decide +kernel
theorem dX10_hasCarry_69 : decode cX10_hasCarry 69 = .ok (.ireturn, 1) := by decide +kernel
theorem dX10_hasCarry_70 : decode cX10_hasCarry 70 = .ok (.iload_n 2, 1) := by decide +kernel
theorem dX10_hasCarry_71 : decode cX10_hasCarry 71 = .ok (.sipush 255, 3) := by decide +kernel
theorem dX10_hasCarry_74 : decode cX10_hasCarry 74 = .ok (.if_icmp .ne 7, 3) := by decide +kernel
theorem dX10_hasCarry_77 : decode cX10_hasCarry 77 = .ok (.iconst 1, 1) := by decide +kernel
theorem dX10_hasCarry_78 : decode cX10_hasCarry 78 = .ok (.goto 4, 3) := by decide +kernel
theorem dX10_hasCarry_81 : decode cX10_hasCarry 81 = .ok (.iconst 0, 1) := by decide +kernel
theorem dX10_hasCarry_82 : decode cX10_hasCarry 82 = .ok (.ireturn, 1) := by decide +kernel
theorem dX10_hasCarry_83 : decode cX10_hasCarry 83 = .ok (.iload_n 2, 1) := by decide +kernel
theorem dX10_hasCarry_84 : decode cX10_hasCarry 84 = .ok (.ifCond .ne 7, 3) := by decide +kernel
theorem dX10_hasCarry_87 : decode cX10_hasCarry 87 = .ok (.iconst 1, 1) := by decide +kernel
theorem dX10_hasCarry_88 : decode cX10_hasCarry 88 = .ok (.goto 4, 3) := by decide +kernel
theorem dX10_hasCarry_91 : decode cX10_hasCarry 91 = .ok (.iconst 0, 1) := by decide +kernel
theorem dX10_hasCarry_92 : decode cX10_hasCarry 92 = .ok (.ireturn, 1) := by decide +kernel
theorem dX10_hasCarry_93 : decode cX10_hasCarry 93 = .ok (.iload_n 2, 1) := by decide +kernel
theorem dX10_hasCarry_94 : decode cX10_hasCarry 94 = .ok (.iconst 1, 1) := by decide +kernel
theorem dX10_hasCarry_95 : decode cX10_hasCarry 95 = .ok (.iand, 1) := by decide +kernel
theorem dX10_hasCarry_96 : decode cX10_hasCarry 96 = .ok (.iconst 1, 1) := by decide +kernel
theorem dX10_hasCarry_97 : decode cX10_hasCarry 97 = .ok (.if_icmp .ne 7, 3) := by decide +kernel
theorem dX10_hasCarry_100 : decode cX10_hasCarry 100 = .ok (.iconst 1, 1) := by decide +kernel
theorem dX10_hasCarry_101 : decode cX10_hasCarry 101 = .ok (.goto 4, 3) := by decide +kernel
theorem dX10_hasCarry_104 : decode cX10_hasCarry 104 = .ok (.iconst 0, 1) := by decide +kernel
theorem dX10_hasCarry_105 : decode cX10_hasCarry 105 = .ok (.ireturn, 1) := by decide +kernel
theorem dX10_hasCarry_106 : decode cX10_hasCarry 106 = .ok (.iconst 0, 1) := by decide +kernel
theorem dX10_hasCarry_107 : decode cX10_hasCarry 107 = .ok (.ireturn, 1) := by decide +kernel
