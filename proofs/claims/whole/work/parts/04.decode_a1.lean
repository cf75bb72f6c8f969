theorem dX7_chooseOpaque_53 : decode cX7_chooseOpaque 53 = .ok (.iinc 2 1, 3) := by decide +kernel
theorem dX7_chooseOpaque_56 : decode cX7_chooseOpaque 56 = .ok (.iinc 3 1, 3) := by decide +kernel
theorem dX7_chooseOpaque_59 : decode cX7_chooseOpaque 59 = .ok (.goto (-55), 3) := by decide +kernel
theorem dX7_chooseOpaque_62 : decode cX7_chooseOpaque 62 = .ok (.iload_n 2, 1) := by decide +kernel
theorem dX7_chooseOpaque_63 : decode cX7_chooseOpaque 63 = .ok (.ireturn, 1) := by decide +kernel
theorem dX7_ordersOf_0 : decode cX7_ordersOf 0 = .ok (.iconst 1, 1) := by decide +kernel
theorem dX7_ordersOf_1 : decode cX7_ordersOf 1 = .ok (.istore_n 1, 1) := by decide +kernel
theorem dX7_ordersOf_2 : decode cX7_ordersOf 2 = .ok (.iconst 2, 1) := by decide +kernel
theorem dX7_ordersOf_3 : decode cX7_ordersOf 3 = .ok (.istore_n 2, 1) := by decide +kernel
theorem dX7_ordersOf_4 : decode cX7_ordersOf 4 = .ok (.iload_n 2, 1) := by decide +kernel
theorem dX7_ordersOf_5 : decode cX7_ordersOf 5 = .ok (.iload_n 0, 1) := by decide +kernel
theorem dX7_ordersOf_6 : decode cX7_ordersOf 6 = .ok (.if_icmp .gt 13, 3) := by decide +kernel
theorem dX7_ordersOf_9 : decode cX7_ordersOf 9 = .ok (.iload_n 1, 1) := by decide +kernel
theorem dX7_ordersOf_10 : decode cX7_ordersOf 10 = .ok (.iload_n 2, 1) := by decide +kernel
theorem dX7_ordersOf_11 : decode cX7_ordersOf 11 = .ok (.imul, 1) := by decide +kernel
theorem dX7_ordersOf_12 : decode cX7_ordersOf 12 = .ok (.istore_n 1, 1) := by decide +kernel
theorem dX7_ordersOf_13 : decode cX7_ordersOf 13 = .ok (.iinc 2 1, 3) := by decide +kernel
theorem dX7_ordersOf_16 : decode cX7_ordersOf 16 = .ok (.goto (-12), 3) := by decide +kernel
theorem dX7_ordersOf_19 : decode cX7_ordersOf 19 = .ok (.iload_n 1, 1) := by decide +kernel
theorem dX7_ordersOf_20 : decode cX7_ordersOf 20 = .ok (.ireturn, 1) := by decide +kernel
theorem dX7_drawInOrder_0 : decode cX7_drawInOrder 0 = .ok (.aload_n 0, 1) := by decide +kernel
theorem dX7_drawInOrder_1 : decode cX7_drawInOrder 1 = .ok (.getfield 27, 3) := by decide +kernel
theorem dX7_drawInOrder_4 : decode cX7_drawInOrder 4 = .ok (.iconst 0, 1) := by decide +kernel
theorem dX7_drawInOrder_5 : decode cX7_drawInOrder 5 = .ok (.aload_n 0, 1) := by decide +kernel
theorem dX7_drawInOrder_6 : decode cX7_drawInOrder 6 = .ok (.getfield 30, 3) := by decide +kernel
theorem dX7_drawInOrder_9 : decode cX7_drawInOrder 9 = .ok (.iconst 0, 1) := by decide +kernel
theorem dX7_drawInOrder_10 : decode cX7_drawInOrder 10 = .ok (.iconst 4, 1) := by decide +kernel
theorem dX7_drawInOrder_11 : decode cX7_drawInOrder 11 = .ok (.invokestatic 167, 3) := by decide +kernel
theorem dX7_drawInOrder_14 : decode cX7_drawInOrder 14 = .ok (.aload_n 0, 1) := by decide +kernel
theorem dX7_drawInOrder_15 : decode cX7_drawInOrder 15 = .ok (.getfield 36, 3) := by decide +kernel
theorem dX7_drawInOrder_18 : decode cX7_drawInOrder 18 = .ok (.aload_n 0, 1) := by decide +kernel
theorem dX7_drawInOrder_19 : decode cX7_drawInOrder 19 = .ok (.getfield 9, 3) := by decide +kernel
theorem dX7_drawInOrder_22 : decode cX7_drawInOrder 22 = .ok (.getfield 56, 3) := by decide +kernel
theorem dX7_drawInOrder_25 : decode cX7_drawInOrder 25 = .ok (.invokevirtual 62, 3) := by decide +kernel
theorem dX7_drawInOrder_28 : decode cX7_drawInOrder 28 = .ok (.pop, 1) := by decide +kernel
theorem dX7_drawInOrder_29 : decode cX7_drawInOrder 29 = .ok (.iload_n 1, 1) := by decide +kernel
theorem dX7_drawInOrder_30 : decode cX7_drawInOrder 30 = .ok (.istore_n 3, 1) := by decide +kernel
theorem dX7_drawInOrder_31 : decode cX7_drawInOrder 31 = .ok (.iload_n 2, 1) := by decide +kernel
theorem dX7_drawInOrder_32 : decode cX7_drawInOrder 32 = .ok (.istore 4, 2) := by decide +kernel
theorem dX7_drawInOrder_34 : decode cX7_drawInOrder 34 = .ok (.iload 4, 2) := by decide +kernel
theorem dX7_drawInOrder_36 : decode cX7_drawInOrder 36 = .ok (.ifCond .le 106, 3) := by decide +kernel
theorem dX7_drawInOrder_39 : decode cX7_drawInOrder 39 = .ok (.iload 4, 2) := by decide +kernel
theorem dX7_drawInOrder_41 : decode cX7_drawInOrder 41 = .ok (.iconst 1, 1) := by decide +kernel
theorem dX7_drawInOrder_42 : decode cX7_drawInOrder 42 = .ok (.isub, 1) := by decide +kernel
theorem dX7_drawInOrder_43 : decode cX7_drawInOrder 43 = .ok (.invokestatic 152, 3) := by decide +kernel
theorem dX7_drawInOrder_46 : decode cX7_drawInOrder 46 = .ok (.istore 5, 2) := by decide +kernel
theorem dX7_drawInOrder_48 : decode cX7_drawInOrder 48 = .ok (.iload 5, 2) := by decide +kernel
theorem dX7_drawInOrder_50 : decode cX7_drawInOrder 50 = .ok (.ifCond .le 10, 3) := by decide +kernel
theorem dX7_drawInOrder_53 : decode cX7_drawInOrder 53 = .ok (.iload_n 3, 1) := by decide +kernel
theorem dX7_drawInOrder_54 : decode cX7_drawInOrder 54 = .ok (.iload 5, 2) := by decide +kernel
theorem dX7_drawInOrder_56 : decode cX7_drawInOrder 56 = .ok (.idiv, 1) := by decide +kernel
theorem dX7_drawInOrder_57 : decode cX7_drawInOrder 57 = .ok (.goto 4, 3) := by decide +kernel
theorem dX7_drawInOrder_60 : decode cX7_drawInOrder 60 = .ok (.iconst 0, 1) := by decide +kernel
theorem dX7_drawInOrder_61 : decode cX7_drawInOrder 61 = .ok (.istore 6, 2) := by decide +kernel
theorem dX7_drawInOrder_63 : decode cX7_drawInOrder 63 = .ok (.iload_n 3, 1) := by decide +kernel
theorem dX7_drawInOrder_64 : decode cX7_drawInOrder 64 = .ok (.iload 6, 2) := by decide +kernel
theorem dX7_drawInOrder_66 : decode cX7_drawInOrder 66 = .ok (.iload 5, 2) := by decide +kernel
theorem dX7_drawInOrder_68 : decode cX7_drawInOrder 68 = .ok (.imul, 1) := by decide +kernel
theorem dX7_drawInOrder_69 : decode cX7_drawInOrder 69 = .ok (.isub, 1) := by decide +kernel
theorem dX7_drawInOrder_70 : decode cX7_drawInOrder 70 = .ok (.istore_n 3, 1) := by decide +kernel
theorem dX7_drawInOrder_71 : decode cX7_drawInOrder 71 = .ok (.iload 6, 2) := by decide +kernel
theorem dX7_drawInOrder_73 : decode cX7_drawInOrder 73 = .ok (.ifCond .lt 9, 3) := by decide +kernel
theorem dX7_drawInOrder_76 : decode cX7_drawInOrder 76 = .ok (.iload 6, 2) := by decide +kernel
theorem dX7_drawInOrder_78 : decode cX7_drawInOrder 78 = .ok (.iconst 4, 1) := by decide +kernel
theorem dX7_drawInOrder_79 : decode cX7_drawInOrder 79 = .ok (.if_icmp .lt 4, 3) := by decide +kernel
theorem dX7_drawInOrder_82 : decode cX7_drawInOrder 82 = .ok (.return_, 1) := by decide +kernel
theorem dX7_drawInOrder_83 : decode cX7_drawInOrder 83 = .ok (.aload_n 0, 1) := by decide +kernel
theorem dX7_drawInOrder_84 : decode cX7_drawInOrder 84 = .ok (.getfield 19, 3) := by decide +kernel
theorem dX7_drawInOrder_87 : decode cX7_drawInOrder 87 = .ok (.aload_n 0, 1) := by decide +kernel
theorem dX7_drawInOrder_88 : decode cX7_drawInOrder 88 = .ok (.getfield 36, 3) := by decide +kernel
theorem dX7_drawInOrder_91 : decode cX7_drawInOrder 91 = .ok (.aload_n 0, 1) := by decide +kernel
theorem dX7_drawInOrder_92 : decode cX7_drawInOrder 92 = .ok (.getfield 30, 3) := by decide +kernel
theorem dX7_drawInOrder_95 : decode cX7_drawInOrder 95 = .ok (.iload 6, 2) := by decide +kernel
theorem dX7_drawInOrder_97 : decode cX7_drawInOrder 97 = .ok (.iaload, 1) := by decide +kernel
theorem dX7_drawInOrder_98 : decode cX7_drawInOrder 98 = .ok (.invokevirtual 69, 3) := by decide +kernel
theorem dX7_drawInOrder_101 : decode cX7_drawInOrder 101 = .ok (.pop, 1) := by decide +kernel
theorem dX7_drawInOrder_102 : decode cX7_drawInOrder 102 = .ok (.iload 6, 2) := by decide +kernel
theorem dX7_drawInOrder_104 : decode cX7_drawInOrder 104 = .ok (.istore 7, 2) := by decide +kernel
theorem dX7_drawInOrder_106 : decode cX7_drawInOrder 106 = .ok (.iload 7, 2) := by decide +kernel
theorem dX7_drawInOrder_108 : decode cX7_drawInOrder 108 = .ok (.iconst 1, 1) := by decide +kernel
theorem dX7_drawInOrder_109 : decode cX7_drawInOrder 109 = .ok (.iadd, 1) := by decide +kernel
theorem dX7_drawInOrder_110 : decode cX7_drawInOrder 110 = .ok (.iconst 4, 1) := by decide +kernel
theorem dX7_drawInOrder_111 : decode cX7_drawInOrder 111 = .ok (.if_icmp .ge 25, 3) := by decide +kernel
theorem dX7_drawInOrder_114 : decode cX7_drawInOrder 114 = .ok (.aload_n 0, 1) := by decide +kernel
theorem dX7_drawInOrder_115 : decode cX7_drawInOrder 115 = .ok (.getfield 30, 3) := by decide +kernel
theorem dX7_drawInOrder_118 : decode cX7_drawInOrder 118 = .ok (.iload 7, 2) := by decide +kernel
theorem dX7_drawInOrder_120 : decode cX7_drawInOrder 120 = .ok (.aload_n 0, 1) := by decide +kernel
theorem dX7_drawInOrder_121 : decode cX7_drawInOrder 121 = .ok (.getfield 30, 3) := by decide +kernel
theorem dX7_drawInOrder_124 : decode cX7_drawInOrder 124 = .ok (.iload 7, 2) := by decide +kernel
theorem dX7_drawInOrder_126 : decode cX7_drawInOrder 126 = .ok (.iconst 1, 1) := by decide +kernel
theorem dX7_drawInOrder_127 : decode cX7_drawInOrder 127 = .ok (.iadd, 1) := by decide +kernel
theorem dX7_drawInOrder_128 : decode cX7_drawInOrder 128 = .ok (.iaload, 1) := by decide +kernel
theorem dX7_drawInOrder_129 : decode cX7_drawInOrder 129 = .ok (.iastore, 1) := by decide +kernel
theorem dX7_drawInOrder_130 : decode cX7_drawInOrder 130 = .ok (.iinc 7 1, 3) := by decide +kernel
theorem dX7_drawInOrder_133 : decode cX7_drawInOrder 133 = .ok (.goto (-27), 3) := by decide +kernel
theorem dX7_drawInOrder_136 : decode cX7_drawInOrder 136 = .ok (.iinc 4 (-1), 3) := by decide +kernel
theorem dX7_drawInOrder_139 : decode cX7_drawInOrder 139 = .ok (.goto (-105), 3) := by decide +kernel
theorem dX7_drawInOrder_142 : decode cX7_drawInOrder 142 = .ok (.aload_n 0, 1) := by decide +kernel
theorem dX7_drawInOrder_143 : decode cX7_drawInOrder 143 = .ok (.getfield 19, 3) := by decide +kernel
theorem dX7_drawInOrder_146 : decode cX7_drawInOrder 146 = .ok (.aload_n 0, 1) := by decide +kernel
theorem dX7_drawInOrder_147 : decode cX7_drawInOrder 147 = .ok (.getfield 36, 3) := by decide +kernel
theorem dX7_drawInOrder_150 : decode cX7_drawInOrder 150 = .ok (.invokevirtual 47, 3) := by decide +kernel
theorem dX7_drawInOrder_153 : decode cX7_drawInOrder 153 = .ok (.pop, 1) := by decide +kernel
theorem dX7_drawInOrder_154 : decode cX7_drawInOrder 154 = .ok (.return_, 1) := by decide +kernel
theorem dX7_tryShifts_0 : decode cX7_tryShifts 0 = .ok (.aload_n 0, 1) := by decide +kernel
theorem dX7_tryShifts_1 : decode cX7_tryShifts 1 = .ok (.getfield 40, 3) := by decide +kernel
theorem dX7_tryShifts_4 : decode cX7_tryShifts 4 = .ok (.iconst 0, 1) := by decide +kernel
theorem dX7_tryShifts_5 : decode cX7_tryShifts 5 = .ok (.invokestatic 143, 3) := by decide +kernel
theorem dX7_tryShifts_8 : decode cX7_tryShifts 8 = .ok (.aload_n 0, 1) := by decide +kernel
theorem dX7_tryShifts_9 : decode cX7_tryShifts 9 = .ok (.getfield 19, 3) := by decide +kernel
theorem dX7_tryShifts_12 : decode cX7_tryShifts 12 = .ok (.aload_n 1, 1) := by decide +kernel
theorem dX7_tryShifts_13 : decode cX7_tryShifts 13 = .ok (.iload_n 2, 1) := by decide +kernel
theorem dX7_tryShifts_14 : decode cX7_tryShifts 14 = .ok (.invokevirtual 173, 3) := by decide +kernel
theorem dX7_tryShifts_17 : decode cX7_tryShifts 17 = .ok (.istore 4, 2) := by decide +kernel
theorem dX7_tryShifts_19 : decode cX7_tryShifts 19 = .ok (.aload_n 0, 1) := by decide +kernel
theorem dX7_tryShifts_20 : decode cX7_tryShifts 20 = .ok (.getfield 19, 3) := by decide +kernel
theorem dX7_tryShifts_23 : decode cX7_tryShifts 23 = .ok (.aload_n 1, 1) := by decide +kernel
theorem dX7_tryShifts_24 : decode cX7_tryShifts 24 = .ok (.iload_n 2, 1) := by decide +kernel
theorem dX7_tryShifts_25 : decode cX7_tryShifts 25 = .ok (.invokevirtual 104, 3) := by decide +kernel
theorem dX7_tryShifts_28 : decode cX7_tryShifts 28 = .ok (.istore 5, 2) := by decide +kernel
theorem dX7_tryShifts_30 : decode cX7_tryShifts 30 = .ok (.iconst 0, 1) := by decide +kernel
theorem dX7_tryShifts_31 : decode cX7_tryShifts 31 = .ok (.istore 6, 2) := by decide +kernel
theorem dX7_tryShifts_33 : decode cX7_tryShifts 33 = .ok (.iload_n 3, 1) := by decide +kernel
theorem dX7_tryShifts_34 : decode cX7_tryShifts 34 = .ok (.ineg, 1) := by decide +kernel
theorem dX7_tryShifts_35 : decode cX7_tryShifts 35 = .ok (.istore 7, 2) := by decide +kernel
theorem dX7_tryShifts_37 : decode cX7_tryShifts 37 = .ok (.iload 7, 2) := by decide +kernel
theorem dX7_tryShifts_39 : decode cX7_tryShifts 39 = .ok (.iload_n 3, 1) := by decide +kernel
theorem dX7_tryShifts_40 : decode cX7_tryShifts 40 = .ok (.if_icmp .gt 92, 3) := by decide +kernel
theorem dX7_tryShifts_43 : decode cX7_tryShifts 43 = .ok (.iload_n 3, 1) := by decide +kernel
theorem dX7_tryShifts_44 : decode cX7_tryShifts 44 = .ok (.ineg, 1) := by decide +kernel
theorem dX7_tryShifts_45 : decode cX7_tryShifts 45 = .ok (.istore 8, 2) := by decide +kernel
theorem dX7_tryShifts_47 : decode cX7_tryShifts 47 = .ok (.iload 8, 2) := by decide +kernel
theorem dX7_tryShifts_49 : decode cX7_tryShifts 49 = .ok (.iload_n 3, 1) := by decide +kernel
theorem dX7_tryShifts_50 : decode cX7_tryShifts 50 = .ok (.if_icmp .gt 76, 3) := by decide +kernel
theorem dX7_tryShifts_53 : decode cX7_tryShifts 53 = .ok (.iload 5, 2) := by decide +kernel
theorem dX7_tryShifts_55 : decode cX7_tryShifts 55 = .ok (.ifCond .eq 7, 3) := by decide +kernel
theorem dX7_tryShifts_58 : decode cX7_tryShifts 58 = .ok (.iconst 0, 1) := by decide +kernel
theorem dX7_tryShifts_59 : decode cX7_tryShifts 59 = .ok (.goto 12, 3) := by decide +kernel
theorem dX7_tryShifts_62 : decode cX7_tryShifts 62 = .ok (.aload_n 0, 1) := by decide +kernel
theorem dX7_tryShifts_63 : decode cX7_tryShifts 63 = .ok (.iload_n 2, 1) := by decide +kernel
theorem dX7_tryShifts_64 : decode cX7_tryShifts 64 = .ok (.iload 8, 2) := by decide +kernel
theorem dX7_tryShifts_66 : decode cX7_tryShifts 66 = .ok (.iload 7, 2) := by decide +kernel
theorem dX7_tryShifts_68 : decode cX7_tryShifts 68 = .ok (.invokevirtual 176, 3) := by decide +kernel
theorem dX7_tryShifts_71 : decode cX7_tryShifts 71 = .ok (.istore 9, 2) := by decide +kernel
theorem dX7_tryShifts_73 : decode cX7_tryShifts 73 = .ok (.iload 9, 2) := by decide +kernel
theorem dX7_tryShifts_75 : decode cX7_tryShifts 75 = .ok (.aload_n 0, 1) := by decide +kernel
theorem dX7_tryShifts_76 : decode cX7_tryShifts 76 = .ok (.getfield 40, 3) := by decide +kernel
theorem dX7_tryShifts_79 : decode cX7_tryShifts 79 = .ok (.iconst 0, 1) := by decide +kernel
theorem dX7_tryShifts_80 : decode cX7_tryShifts 80 = .ok (.iaload, 1) := by decide +kernel
theorem dX7_tryShifts_81 : decode cX7_tryShifts 81 = .ok (.if_icmp .le 19, 3) := by decide +kernel
theorem dX7_tryShifts_84 : decode cX7_tryShifts 84 = .ok (.aload_n 0, 1) := by decide +kernel
theorem dX7_tryShifts_85 : decode cX7_tryShifts 85 = .ok (.getfield 40, 3) := by decide +kernel
theorem dX7_tryShifts_88 : decode cX7_tryShifts 88 = .ok (.iconst 0, 1) := by decide +kernel
theorem dX7_tryShifts_89 : decode cX7_tryShifts 89 = .ok (.iload 9, 2) := by decide +kernel
theorem dX7_tryShifts_91 : decode cX7_tryShifts 91 = .ok (.iastore, 1) := by decide +kernel
theorem dX7_tryShifts_92 : decode cX7_tryShifts 92 = .ok (.aload_n 0, 1) := by decide +kernel
theorem dX7_tryShifts_93 : decode cX7_tryShifts 93 = .ok (.getfield 40, 3) := by decide +kernel
theorem dX7_tryShifts_96 : decode cX7_tryShifts 96 = .ok (.iconst 1, 1) := by decide +kernel
theorem dX7_tryShifts_97 : decode cX7_tryShifts 97 = .ok (.iload 6, 2) := by decide +kernel
theorem dX7_tryShifts_99 : decode cX7_tryShifts 99 = .ok (.iastore, 1) := by decide +kernel
theorem dX7_tryShifts_100 : decode cX7_tryShifts 100 = .ok (.iload 9, 2) := by decide +kernel
theorem dX7_tryShifts_102 : decode cX7_tryShifts 102 = .ok (.iload 4, 2) := by decide +kernel
theorem dX7_tryShifts_104 : decode cX7_tryShifts 104 = .ok (.if_icmp .ne 13, 3) := by decide +kernel
theorem dX7_tryShifts_107 : decode cX7_tryShifts 107 = .ok (.aload_n 0, 1) := by decide +kernel
theorem dX7_tryShifts_108 : decode cX7_tryShifts 108 = .ok (.getfield 40, 3) := by decide +kernel
theorem dX7_tryShifts_111 : decode cX7_tryShifts 111 = .ok (.iconst 2, 1) := by decide +kernel
theorem dX7_tryShifts_112 : decode cX7_tryShifts 112 = .ok (.dup2, 1) := by decide +kernel
theorem dX7_tryShifts_113 : decode cX7_tryShifts 113 = .ok (.iaload, 1) := by decide +kernel
theorem dX7_tryShifts_114 : decode cX7_tryShifts 114 = .ok (.iconst 1, 1) := by decide +kernel
theorem dX7_tryShifts_115 : decode cX7_tryShifts 115 = .ok (.iadd, 1) := by decide +kernel
theorem dX7_tryShifts_116 : decode cX7_tryShifts 116 = .ok (.iastore, 1) := by decide +kernel
theorem dX7_tryShifts_117 : decode cX7_tryShifts 117 = .ok (.iinc 6 1, 3) := by decide +kernel
theorem dX7_tryShifts_120 : decode cX7_tryShifts 120 = .ok (.iinc 8 1, 3) := by decide +kernel
theorem dX7_tryShifts_123 : decode cX7_tryShifts 123 = .ok (.goto (-76), 3) := by decide +kernel
theorem dX7_tryShifts_126 : decode cX7_tryShifts 126 = .ok (.iinc 7 1, 3) := by decide +kernel
theorem dX7_tryShifts_129 : decode cX7_tryShifts 129 = .ok (.goto (-92), 3) := by decide +kernel
theorem dX7_tryShifts_132 : decode cX7_tryShifts 132 = .ok (.return_, 1) := by decide +kernel
theorem dX7_coveredShifted_0 : decode cX7_coveredShifted 0 = .ok (.aload_n 0, 1) := by decide +kernel
theorem dX7_coveredShifted_1 : decode cX7_coveredShifted 1 = .ok (.getfield 19, 3) := by decide +kernel
theorem dX7_coveredShifted_4 : decode cX7_coveredShifted 4 = .ok (.getfield 114, 3) := by decide +kernel
theorem dX7_coveredShifted_7 : decode cX7_coveredShifted 7 = .ok (.iload_n 1, 1) := by decide +kernel
theorem dX7_coveredShifted_8 : decode cX7_coveredShifted 8 = .ok (.aaload, 1) := by decide +kernel
theorem dX7_coveredShifted_9 : decode cX7_coveredShifted 9 = .ok (.astore 4, 2) := by decide +kernel
theorem dX7_coveredShifted_11 : decode cX7_coveredShifted 11 = .ok (.iconst 0, 1) := by decide +kernel
theorem dX7_coveredShifted_12 : decode cX7_coveredShifted 12 = .ok (.istore 5, 2) := by decide +kernel
theorem dX7_coveredShifted_14 : decode cX7_coveredShifted 14 = .ok (.iconst 0, 1) := by decide +kernel
theorem dX7_coveredShifted_15 : decode cX7_coveredShifted 15 = .ok (.istore 6, 2) := by decide +kernel
theorem dX7_coveredShifted_17 : decode cX7_coveredShifted 17 = .ok (.iload 6, 2) := by decide +kernel
theorem dX7_coveredShifted_19 : decode cX7_coveredShifted 19 = .ok (.aload_n 0, 1) := by decide +kernel
theorem dX7_coveredShifted_20 : decode cX7_coveredShifted 20 = .ok (.getfield 15, 3) := by decide +kernel
theorem dX7_coveredShifted_23 : decode cX7_coveredShifted 23 = .ok (.getfield 90, 3) := by decide +kernel
theorem dX7_coveredShifted_26 : decode cX7_coveredShifted 26 = .ok (.if_icmp .ge 56, 3) := by decide +kernel
theorem dX7_coveredShifted_29 : decode cX7_coveredShifted 29 = .ok (.aload_n 0, 1) := by decide +kernel
theorem dX7_coveredShifted_30 : decode cX7_coveredShifted 30 = .ok (.getfield 15, 3) := by decide +kernel
theorem dX7_coveredShifted_33 : decode cX7_coveredShifted 33 = .ok (.getfield 93, 3) := by decide +kernel
theorem dX7_coveredShifted_36 : decode cX7_coveredShifted 36 = .ok (.iload 6, 2) := by decide +kernel
theorem dX7_coveredShifted_38 : decode cX7_coveredShifted 38 = .ok (.iaload, 1) := by decide +kernel
theorem dX7_coveredShifted_39 : decode cX7_coveredShifted 39 = .ok (.istore 7, 2) := by decide +kernel
theorem dX7_coveredShifted_41 : decode cX7_coveredShifted 41 = .ok (.aload 4, 2) := by decide +kernel
theorem dX7_coveredShifted_43 : decode cX7_coveredShifted 43 = .ok (.aload_n 0, 1) := by decide +kernel
theorem dX7_coveredShifted_44 : decode cX7_coveredShifted 44 = .ok (.getfield 15, 3) := by decide +kernel
theorem dX7_coveredShifted_47 : decode cX7_coveredShifted 47 = .ok (.getfield 108, 3) := by decide +kernel
theorem dX7_coveredShifted_50 : decode cX7_coveredShifted 50 = .ok (.iload 7, 2) := by decide +kernel
theorem dX7_coveredShifted_52 : decode cX7_coveredShifted 52 = .ok (.iaload, 1) := by decide +kernel
theorem dX7_coveredShifted_53 : decode cX7_coveredShifted 53 = .ok (.iload_n 2, 1) := by decide +kernel
theorem dX7_coveredShifted_54 : decode cX7_coveredShifted 54 = .ok (.isub, 1) := by decide +kernel
theorem dX7_coveredShifted_55 : decode cX7_coveredShifted 55 = .ok (.aload_n 0, 1) := by decide +kernel
theorem dX7_coveredShifted_56 : decode cX7_coveredShifted 56 = .ok (.getfield 15, 3) := by decide +kernel
theorem dX7_coveredShifted_59 : decode cX7_coveredShifted 59 = .ok (.getfield 111, 3) := by decide +kernel
theorem dX7_coveredShifted_62 : decode cX7_coveredShifted 62 = .ok (.iload 7, 2) := by decide +kernel
theorem dX7_coveredShifted_64 : decode cX7_coveredShifted 64 = .ok (.iaload, 1) := by decide +kernel
theorem dX7_coveredShifted_65 : decode cX7_coveredShifted 65 = .ok (.iload_n 3, 1) := by decide +kernel
theorem dX7_coveredShifted_66 : decode cX7_coveredShifted 66 = .ok (.isub, 1) := by decide +kernel
theorem dX7_coveredShifted_67 : decode cX7_coveredShifted 67 = .ok (.invokevirtual 180, 3) := by decide +kernel
theorem dX7_coveredShifted_70 : decode cX7_coveredShifted 70 = .ok (.ifCond .eq 6, 3) := by decide +kernel
theorem dX7_coveredShifted_73 : decode cX7_coveredShifted 73 = .ok (.iinc 5 1, 3) := by decide +kernel
theorem dX7_coveredShifted_76 : decode cX7_coveredShifted 76 = .ok (.iinc 6 1, 3) := by decide +kernel
theorem dX7_coveredShifted_79 : decode cX7_coveredShifted 79 = .ok (.goto (-62), 3) := by decide +kernel
theorem dX7_coveredShifted_82 : decode cX7_coveredShifted 82 = .ok (.iload 5, 2) := by decide +kernel
theorem dX7_coveredShifted_84 : decode cX7_coveredShifted 84 = .ok (.ireturn, 1) := by decide +kernel
theorem dX8_init_0 : decode cX8_init 0 = .ok (.aload_n 0, 1) := by decide +kernel
theorem dX8_init_1 : decode cX8_init 1 = .ok (.invokespecial 3, 3) := by decide +kernel
theorem dX8_init_4 : decode cX8_init 4 = .ok (.aload_n 0, 1) := by decide +kernel
theorem dX8_init_5 : decode cX8_init 5 = .ok (.sipush 480, 3) := by decide +kernel
theorem dX8_init_8 : decode cX8_init 8 = .ok (.newarray .char, 2) := by decide +kernel
theorem dX8_init_10 : decode cX8_init 10 = .ok (.putfield 9, 3) := by decide +kernel
theorem dX8_init_13 : decode cX8_init 13 = .ok (.aload_n 0, 1) := by decide +kernel
theorem dX8_init_14 : decode cX8_init 14 = .ok (.iconst 0, 1) := by decide +kernel
theorem dX8_init_15 : decode cX8_init 15 = .ok (.putfield 15, 3) := by decide +kernel
theorem dX8_init_18 : decode cX8_init 18 = .ok (.return_, 1) := by decide +kernel
theorem dX8_bytesIn_0 : decode cX8_bytesIn 0 = .ok (.iconst 0, 1) := by decide +kernel
theorem dX8_bytesIn_1 : decode cX8_bytesIn 1 = .ok (.istore_n 1, 1) := by decide +kernel
theorem dX8_bytesIn_2 : decode cX8_bytesIn 2 = .ok (.bipush 24, 2) := by decide +kernel
theorem dX8_bytesIn_4 : decode cX8_bytesIn 4 = .ok (.istore_n 2, 1) := by decide +kernel
theorem dX8_bytesIn_5 : decode cX8_bytesIn 5 = .ok (.iload_n 2, 1) := by decide +kernel
theorem dX8_bytesIn_6 : decode cX8_bytesIn 6 = .ok (.ifCond .lt 22, 3) := by decide +kernel
theorem dX8_bytesIn_9 : decode cX8_bytesIn 9 = .ok (.iload_n 0, 1) := by decide +kernel
theorem dX8_bytesIn_10 : decode cX8_bytesIn 10 = .ok (.iload_n 2, 1) := by decide +kernel
theorem dX8_bytesIn_11 : decode cX8_bytesIn 11 = .ok (.iushr, 1) := by decide +kernel
theorem dX8_bytesIn_12 : decode cX8_bytesIn 12 = .ok (.sipush 255, 3) := by decide +kernel
theorem dX8_bytesIn_15 : decode cX8_bytesIn 15 = .ok (.iand, 1) := by decide +kernel
theorem dX8_bytesIn_16 : decode cX8_bytesIn 16 = .ok (.ifCond .eq 6, 3) := by decide +kernel
theorem dX8_bytesIn_19 : decode cX8_bytesIn 19 = .ok (.iinc 1 1, 3) := by decide +kernel
theorem dX8_bytesIn_22 : decode cX8_bytesIn 22 = .ok (.iinc 2 (-8), 3) := by decide +kernel
theorem dX8_bytesIn_25 : decode cX8_bytesIn 25 = .ok (.goto (-20), 3) := by decide +kernel
theorem dX8_bytesIn_28 : decode cX8_bytesIn 28 = .ok (.iload_n 1, 1) := by decide +kernel
theorem dX8_bytesIn_29 : decode cX8_bytesIn 29 = .ok (.ireturn, 1) := by decide +kernel
theorem dX8_append_0 : decode cX8_append 0 = .ok (.bipush 24, 2) := by decide +kernel
theorem dX8_append_2 : decode cX8_append 2 = .ok (.istore_n 2, 1) := by decide +kernel
theorem dX8_append_3 : decode cX8_append 3 = .ok (.iload_n 2, 1) := by decide +kernel
theorem dX8_append_4 : decode cX8_append 4 = .ok (.ifCond .lt 52, 3) := by decide +kernel
theorem dX8_append_7 : decode cX8_append 7 = .ok (.iload_n 1, 1) := by decide +kernel
theorem dX8_append_8 : decode cX8_append 8 = .ok (.iload_n 2, 1) := by decide +kernel
theorem dX8_append_9 : decode cX8_append 9 = .ok (.iushr, 1) := by decide +kernel
theorem dX8_append_10 : decode cX8_append 10 = .ok (.sipush 255, 3) := by decide +kernel
theorem dX8_append_13 : decode cX8_append 13 = .ok (.iand, 1) := by decide +kernel
theorem dX8_append_14 : decode cX8_append 14 = .ok (.istore_n 3, 1) := by decide +kernel
theorem dX8_append_15 : decode cX8_append 15 = .ok (.iload_n 3, 1) := by decide +kernel
theorem dX8_append_16 : decode cX8_append 16 = .ok (.ifCond .eq 34, 3) := by decide +kernel
theorem dX8_append_19 : decode cX8_append 19 = .ok (.aload_n 0, 1) := by decide +kernel
theorem dX8_append_20 : decode cX8_append 20 = .ok (.getfield 15, 3) := by decide +kernel
theorem dX8_append_23 : decode cX8_append 23 = .ok (.sipush 480, 3) := by decide +kernel
theorem dX8_append_26 : decode cX8_append 26 = .ok (.if_icmp .ge 24, 3) := by decide +kernel
theorem dX8_append_29 : decode cX8_append 29 = .ok (.aload_n 0, 1) := by decide +kernel
theorem dX8_append_30 : decode cX8_append 30 = .ok (.getfield 9, 3) := by decide +kernel
theorem dX8_append_33 : decode cX8_append 33 = .ok (.aload_n 0, 1) := by decide +kernel
theorem dX8_append_34 : decode cX8_append 34 = .ok (.getfield 15, 3) := by decide +kernel
theorem dX8_append_37 : decode cX8_append 37 = .ok (.iload_n 3, 1) := by decide +kernel
theorem dX8_append_38 : decode cX8_append 38 = .ok (.i2c, 1) := by decide +kernel
theorem dX8_append_39 : decode cX8_append 39 = .ok (.castore, 1) := by decide +kernel
theorem dX8_append_40 : decode cX8_append 40 = .ok (.aload_n 0, 1) := by decide +kernel
theorem dX8_append_41 : decode cX8_append 41 = .ok (.dup, 1) := by decide +kernel
theorem dX8_append_42 : decode cX8_append 42 = .ok (.getfield 15, 3) := by decide +kernel
theorem dX8_append_45 : decode cX8_append 45 = .ok (.iconst 1, 1) := by decide +kernel
theorem dX8_append_46 : decode cX8_append 46 = .ok (.iadd, 1) := by decide +kernel
theorem dX8_append_47 : decode cX8_append 47 = .ok (.putfield 15, 3) := by decide +kernel
theorem dX8_append_50 : decode cX8_append 50 = .ok (.iinc 2 (-8), 3) := by decide +kernel
theorem dX8_append_53 : decode cX8_append 53 = .ok (.goto (-50), 3) := by decide +kernel
theorem dX8_append_56 : decode cX8_append 56 = .ok (.return_, 1) := by decide +kernel
theorem dX9_init_0 : decode cX9_init 0 = .ok (.aload_n 0, 1) := by decide +kernel
theorem dX9_init_1 : decode cX9_init 1 = .ok (.invokespecial 3, 3) := by decide +kernel
theorem dX9_init_4 : decode cX9_init 4 = .ok (.aload_n 0, 1) := by decide +kernel
theorem dX9_init_5 : decode cX9_init 5 = .ok (.aload_n 1, 1) := by decide +kernel
theorem dX9_init_6 : decode cX9_init 6 = .ok (.putfield 9, 3) := by decide +kernel
theorem dX9_init_9 : decode cX9_init 9 = .ok (.aload_n 0, 1) := by decide +kernel
theorem dX9_init_10 : decode cX9_init 10 = .ok (.aload_n 2, 1) := by decide +kernel
theorem dX9_init_11 : decode cX9_init 11 = .ok (.putfield 15, 3) := by decide +kernel
theorem dX9_init_14 : decode cX9_init 14 = .ok (.aload_n 0, 1) := by decide +kernel
theorem dX9_init_15 : decode cX9_init 15 = .ok (.bipush 10, 2) := by decide +kernel
theorem dX9_init_17 : decode cX9_init 17 = .ok (.anewarray 19, 3) := by decide +kernel
theorem dX9_init_20 : decode cX9_init 20 = .ok (.putfield 21, 3) := by decide +kernel
theorem dX9_init_23 : decode cX9_init 23 = .ok (.iconst 0, 1) := by decide +kernel
theorem dX9_init_24 : decode cX9_init 24 = .ok (.istore_n 3, 1) := by decide +kernel
theorem dX9_init_25 : decode cX9_init 25 = .ok (.iload_n 3, 1) := by decide +kernel
theorem dX9_init_26 : decode cX9_init 26 = .ok (.bipush 10, 2) := by decide +kernel
theorem dX9_init_28 : decode cX9_init 28 = .ok (.if_icmp .ge 22, 3) := by decide +kernel
theorem dX9_init_31 : decode cX9_init 31 = .ok (.aload_n 0, 1) := by decide +kernel
theorem dX9_init_32 : decode cX9_init 32 = .ok (.getfield 21, 3) := by decide +kernel
theorem dX9_init_35 : decode cX9_init 35 = .ok (.iload_n 3, 1) := by decide +kernel
theorem dX9_init_36 : decode cX9_init 36 = .ok (.new 19, 3) := by decide +kernel
theorem dX9_init_39 : decode cX9_init 39 = .ok (.dup, 1) := by decide +kernel
theorem dX9_init_40 : decode cX9_init 40 = .ok (.invokespecial 25, 3) := by decide +kernel
theorem dX9_init_43 : decode cX9_init 43 = .ok (.aastore, 1) := by decide +kernel
theorem dX9_init_44 : decode cX9_init 44 = .ok (.iinc 3 1, 3) := by decide +kernel
theorem dX9_init_47 : decode cX9_init 47 = .ok (.goto (-22), 3) := by decide +kernel
theorem dX9_init_50 : decode cX9_init 50 = .ok (.return_, 1) := by decide +kernel
theorem dX9_forgetShapes_0 : decode cX9_forgetShapes 0 = .ok (.iconst 0, 1) := by decide +kernel
theorem dX9_forgetShapes_1 : decode cX9_forgetShapes 1 = .ok (.istore_n 1, 1) := by decide +kernel
theorem dX9_forgetShapes_2 : decode cX9_forgetShapes 2 = .ok (.iload_n 1, 1) := by decide +kernel
theorem dX9_forgetShapes_3 : decode cX9_forgetShapes 3 = .ok (.bipush 10, 2) := by decide +kernel
theorem dX9_forgetShapes_5 : decode cX9_forgetShapes 5 = .ok (.if_icmp .ge 18, 3) := by decide +kernel
theorem dX9_forgetShapes_8 : decode cX9_forgetShapes 8 = .ok (.aload_n 0, 1) := by decide +kernel
theorem dX9_forgetShapes_9 : decode cX9_forgetShapes 9 = .ok (.getfield 21, 3) := by decide +kernel
theorem dX9_forgetShapes_12 : decode cX9_forgetShapes 12 = .ok (.iload_n 1, 1) := by decide +kernel
theorem dX9_forgetShapes_13 : decode cX9_forgetShapes 13 = .ok (.aaload, 1) := by decide +kernel
theorem dX9_forgetShapes_14 : decode cX9_forgetShapes 14 = .ok (.invokevirtual 26, 3) := by decide +kernel
theorem dX9_forgetShapes_17 : decode cX9_forgetShapes 17 = .ok (.iinc 1 1, 3) := by decide +kernel
theorem dX9_forgetShapes_20 : decode cX9_forgetShapes 20 = .ok (.goto (-18), 3) := by decide +kernel
theorem dX9_forgetShapes_23 : decode cX9_forgetShapes 23 = .ok (.return_, 1) := by decide +kernel
theorem dX9_fit_0 : decode cX9_fit 0 = .ok (.iconst 0, 1) := by decide +kernel
theorem dX9_fit_1 : decode cX9_fit 1 = .ok (.istore_n 2, 1) := by decide +kernel
theorem dX9_fit_2 : decode cX9_fit 2 = .ok (.iload_n 2, 1) := by decide +kernel
theorem dX9_fit_3 : decode cX9_fit 3 = .ok (.aload_n 0, 1) := by decide +kernel
theorem dX9_fit_4 : decode cX9_fit 4 = .ok (.getfield 9, 3) := by decide +kernel
theorem dX9_fit_7 : decode cX9_fit 7 = .ok (.getfield 29, 3) := by decide +kernel
theorem dX9_fit_10 : decode cX9_fit 10 = .ok (.if_icmp .ge 31, 3) := by decide +kernel
theorem dX9_fit_13 : decode cX9_fit 13 = .ok (.aload_n 0, 1) := by decide +kernel
theorem dX9_fit_14 : decode cX9_fit 14 = .ok (.getfield 21, 3) := by decide +kernel
theorem dX9_fit_17 : decode cX9_fit 17 = .ok (.iload_n 2, 1) := by decide +kernel
theorem dX9_fit_18 : decode cX9_fit 18 = .ok (.aaload, 1) := by decide +kernel
theorem dX9_fit_19 : decode cX9_fit 19 = .ok (.aload_n 0, 1) := by decide +kernel
theorem dX9_fit_20 : decode cX9_fit 20 = .ok (.getfield 9, 3) := by decide +kernel
theorem dX9_fit_23 : decode cX9_fit 23 = .ok (.aload_n 0, 1) := by decide +kernel
theorem dX9_fit_24 : decode cX9_fit 24 = .ok (.getfield 15, 3) := by decide +kernel
theorem dX9_fit_27 : decode cX9_fit 27 = .ok (.iload_n 2, 1) := by decide +kernel
theorem dX9_fit_28 : decode cX9_fit 28 = .ok (.aload_n 1, 1) := by decide +kernel
theorem dX9_fit_29 : decode cX9_fit 29 = .ok (.getfield 35, 3) := by decide +kernel
theorem dX9_fit_32 : decode cX9_fit 32 = .ok (.invokevirtual 41, 3) := by decide +kernel
theorem dX9_fit_35 : decode cX9_fit 35 = .ok (.iinc 2 1, 3) := by decide +kernel
theorem dX9_fit_38 : decode cX9_fit 38 = .ok (.goto (-36), 3) := by decide +kernel
theorem dX9_fit_41 : decode cX9_fit 41 = .ok (.return_, 1) := by decide +kernel
theorem dX9_isCulled_0 : decode cX9_isCulled 0 = .ok (.aload_n 0, 1) := by decide +kernel
theorem dX9_isCulled_1 : decode cX9_isCulled 1 = .ok (.getfield 21, 3) := by decide +kernel
theorem dX9_isCulled_4 : decode cX9_isCulled 4 = .ok (.iload_n 2, 1) := by decide +kernel
theorem dX9_isCulled_5 : decode cX9_isCulled 5 = .ok (.aaload, 1) := by decide +kernel
theorem dX9_isCulled_6 : decode cX9_isCulled 6 = .ok (.getfield 45, 3) := by decide +kernel
theorem dX9_isCulled_9 : decode cX9_isCulled 9 = .ok (.istore_n 3, 1) := by decide +kernel
theorem dX9_isCulled_10 : decode cX9_isCulled 10 = .ok (.aload_n 1, 1) := by decide +kernel
theorem dX9_isCulled_11 : decode cX9_isCulled 11 = .ok (.getfield 48, 3) := by decide +kernel
theorem dX9_isCulled_14 : decode cX9_isCulled 14 = .ok (.iconst 0, 1) := by decide +kernel
theorem dX9_isCulled_15 : decode cX9_isCulled 15 = .ok (.iaload, 1) := by decide +kernel
theorem dX9_isCulled_16 : decode cX9_isCulled 16 = .ok (.istore 4, 2) := by decide +kernel
theorem dX9_isCulled_18 : decode cX9_isCulled 18 = .ok (.iload_n 3, 1) := by decide +kernel
theorem dX9_isCulled_19 : decode cX9_isCulled 19 = .ok (.ifCond .eq 23, 3) := by decide +kernel
theorem dX9_isCulled_22 : decode cX9_isCulled 22 = .ok (.iload 4, 2) := by decide +kernel
theorem dX9_isCulled_24 : decode cX9_isCulled 24 = .ok (.iconst 1, 1) := by decide +kernel
theorem dX9_isCulled_25 : decode cX9_isCulled 25 = .ok (.if_icmp .ne 7, 3) := by decide +kernel
theorem dX9_isCulled_28 : decode cX9_isCulled 28 = .ok (.iload_n 3, 1) := by decide +kernel
theorem dX9_isCulled_29 : decode cX9_isCulled 29 = .ok (.ifCond .lt 13, 3) := by decide +kernel
theorem dX9_isCulled_32 : decode cX9_isCulled 32 = .ok (.iload 4, 2) := by decide +kernel
theorem dX9_isCulled_34 : decode cX9_isCulled 34 = .ok (.iconst 2, 1) := by decide +kernel
theorem dX9_isCulled_35 : decode cX9_isCulled 35 = .ok (.if_icmp .ne 11, 3) := by decide +kernel
theorem dX9_isCulled_38 : decode cX9_isCulled 38 = .ok (.iload_n 3, 1) := by decide +kernel
theorem dX9_isCulled_39 : decode cX9_isCulled 39 = .ok (.ifCond .le 7, 3) := by decide +kernel
theorem dX9_isCulled_42 : decode cX9_isCulled 42 = .ok (.iconst 1, 1) := by decide +kernel
theorem dX9_isCulled_43 : decode cX9_isCulled 43 = .ok (.goto 4, 3) := by decide +kernel
theorem dX9_isCulled_46 : decode cX9_isCulled 46 = .ok (.iconst 0, 1) := by decide +kernel
theorem dX9_isCulled_47 : decode cX9_isCulled 47 = .ok (.ireturn, 1) := by decide +kernel
theorem dX9_touchedBy_0 : decode cX9_touchedBy 0 = .ok (.aload_n 0, 1) := by decide +kernel
theorem dX9_touchedBy_1 : decode cX9_touchedBy 1 = .ok (.aload_n 1, 1) := by decide +kernel
theorem dX9_touchedBy_2 : decode cX9_touchedBy 2 = .ok (.iload_n 2, 1) := by decide +kernel
theorem dX9_touchedBy_3 : decode cX9_touchedBy 3 = .ok (.invokevirtual 51, 3) := by decide +kernel
theorem dX9_touchedBy_6 : decode cX9_touchedBy 6 = .ok (.ifCond .eq 7, 3) := by decide +kernel
theorem dX9_touchedBy_9 : decode cX9_touchedBy 9 = .ok (.iconst 0, 1) := by decide +kernel
theorem dX9_touchedBy_10 : decode cX9_touchedBy 10 = .ok (.goto 12, 3) := by decide +kernel
theorem dX9_touchedBy_13 : decode cX9_touchedBy 13 = .ok (.aload_n 0, 1) := by decide +kernel
theorem dX9_touchedBy_14 : decode cX9_touchedBy 14 = .ok (.getfield 21, 3) := by decide +kernel
theorem dX9_touchedBy_17 : decode cX9_touchedBy 17 = .ok (.iload_n 2, 1) := by decide +kernel
theorem dX9_touchedBy_18 : decode cX9_touchedBy 18 = .ok (.aaload, 1) := by decide +kernel
theorem dX9_touchedBy_19 : decode cX9_touchedBy 19 = .ok (.getfield 55, 3) := by decide +kernel
theorem dX9_touchedBy_22 : decode cX9_touchedBy 22 = .ok (.ireturn, 1) := by decide +kernel
theorem dX9_depthIn_0 : decode cX9_depthIn 0 = .ok (.aload_n 0, 1) := by decide +kernel
theorem dX9_depthIn_1 : decode cX9_depthIn 1 = .ok (.aload_n 1, 1) := by decide +kernel
theorem dX9_depthIn_2 : decode cX9_depthIn 2 = .ok (.iload_n 2, 1) := by decide +kernel
theorem dX9_depthIn_3 : decode cX9_depthIn 3 = .ok (.invokevirtual 51, 3) := by decide +kernel
theorem dX9_depthIn_6 : decode cX9_depthIn 6 = .ok (.ifCond .eq 7, 3) := by decide +kernel
theorem dX9_depthIn_9 : decode cX9_depthIn 9 = .ok (.iconst (-1), 1) := by decide +kernel
theorem dX9_depthIn_10 : decode cX9_depthIn 10 = .ok (.goto 14, 3) := by decide +kernel
theorem dX9_depthIn_13 : decode cX9_depthIn 13 = .ok (.aload_n 0, 1) := by decide +kernel
theorem dX9_depthIn_14 : decode cX9_depthIn 14 = .ok (.getfield 21, 3) := by decide +kernel
theorem dX9_depthIn_17 : decode cX9_depthIn 17 = .ok (.iload_n 2, 1) := by decide +kernel
theorem dX9_depthIn_18 : decode cX9_depthIn 18 = .ok (.aaload, 1) := by decide +kernel
theorem dX9_depthIn_19 : decode cX9_depthIn 19 = .ok (.getfield 58, 3) := by decide +kernel
theorem dX9_depthIn_22 : decode cX9_depthIn 22 = .ok (.iload_n 3, 1) := by decide +kernel
theorem dX9_depthIn_23 : decode cX9_depthIn 23 = .ok (.iaload, 1) := by decide +kernel
theorem dX9_depthIn_24 : decode cX9_depthIn 24 = .ok (.ireturn, 1) := by decide +kernel
theorem dX9_touchedInVain_0 : decode cX9_touchedInVain 0 = .ok (.aload_n 0, 1) := by decide +kernel
theorem dX9_touchedInVain_1 : decode cX9_touchedInVain 1 = .ok (.aload_n 1, 1) := by decide +kernel
theorem dX9_touchedInVain_2 : decode cX9_touchedInVain 2 = .ok (.iload_n 2, 1) := by decide +kernel
theorem dX9_touchedInVain_3 : decode cX9_touchedInVain 3 = .ok (.invokevirtual 61, 3) := by decide +kernel
theorem dX9_touchedInVain_6 : decode cX9_touchedInVain 6 = .ok (.istore_n 3, 1) := by decide +kernel
theorem dX9_touchedInVain_7 : decode cX9_touchedInVain 7 = .ok (.iconst 0, 1) := by decide +kernel
theorem dX9_touchedInVain_8 : decode cX9_touchedInVain 8 = .ok (.istore 4, 2) := by decide +kernel
theorem dX9_touchedInVain_10 : decode cX9_touchedInVain 10 = .ok (.iload 4, 2) := by decide +kernel
theorem dX9_touchedInVain_12 : decode cX9_touchedInVain 12 = .ok (.aload_n 0, 1) := by decide +kernel
theorem dX9_touchedInVain_13 : decode cX9_touchedInVain 13 = .ok (.getfield 15, 3) := by decide +kernel
theorem dX9_touchedInVain_16 : decode cX9_touchedInVain 16 = .ok (.getfield 65, 3) := by decide +kernel
theorem dX9_touchedInVain_19 : decode cX9_touchedInVain 19 = .ok (.if_icmp .ge 76, 3) := by decide +kernel
theorem dX9_touchedInVain_22 : decode cX9_touchedInVain 22 = .ok (.aload_n 0, 1) := by decide +kernel
theorem dX9_touchedInVain_23 : decode cX9_touchedInVain 23 = .ok (.getfield 15, 3) := by decide +kernel
theorem dX9_touchedInVain_26 : decode cX9_touchedInVain 26 = .ok (.getfield 70, 3) := by decide +kernel
theorem dX9_touchedInVain_29 : decode cX9_touchedInVain 29 = .ok (.iload 4, 2) := by decide +kernel
theorem dX9_touchedInVain_31 : decode cX9_touchedInVain 31 = .ok (.iaload, 1) := by decide +kernel
theorem dX9_touchedInVain_32 : decode cX9_touchedInVain 32 = .ok (.istore 5, 2) := by decide +kernel
theorem dX9_touchedInVain_34 : decode cX9_touchedInVain 34 = .ok (.iload 5, 2) := by decide +kernel
theorem dX9_touchedInVain_36 : decode cX9_touchedInVain 36 = .ok (.aload_n 0, 1) := by decide +kernel
theorem dX9_touchedInVain_37 : decode cX9_touchedInVain 37 = .ok (.getfield 15, 3) := by decide +kernel
theorem dX9_touchedInVain_40 : decode cX9_touchedInVain 40 = .ok (.getfield 70, 3) := by decide +kernel
theorem dX9_touchedInVain_43 : decode cX9_touchedInVain 43 = .ok (.iload 4, 2) := by decide +kernel
theorem dX9_touchedInVain_45 : decode cX9_touchedInVain 45 = .ok (.iconst 1, 1) := by decide +kernel
theorem dX9_touchedInVain_46 : decode cX9_touchedInVain 46 = .ok (.iadd, 1) := by decide +kernel
theorem dX9_touchedInVain_47 : decode cX9_touchedInVain 47 = .ok (.iaload, 1) := by decide +kernel
theorem dX9_touchedInVain_48 : decode cX9_touchedInVain 48 = .ok (.if_icmp .ge 41, 3) := by decide +kernel
theorem dX9_touchedInVain_51 : decode cX9_touchedInVain 51 = .ok (.aload_n 0, 1) := by decide +kernel
theorem dX9_touchedInVain_52 : decode cX9_touchedInVain 52 = .ok (.getfield 21, 3) := by decide +kernel
theorem dX9_touchedInVain_55 : decode cX9_touchedInVain 55 = .ok (.iload_n 2, 1) := by decide +kernel
theorem dX9_touchedInVain_56 : decode cX9_touchedInVain 56 = .ok (.aaload, 1) := by decide +kernel
theorem dX9_touchedInVain_57 : decode cX9_touchedInVain 57 = .ok (.getfield 58, 3) := by decide +kernel
theorem dX9_touchedInVain_60 : decode cX9_touchedInVain 60 = .ok (.aload_n 0, 1) := by decide +kernel
theorem dX9_touchedInVain_61 : decode cX9_touchedInVain 61 = .ok (.getfield 15, 3) := by decide +kernel
theorem dX9_touchedInVain_64 : decode cX9_touchedInVain 64 = .ok (.getfield 73, 3) := by decide +kernel
theorem dX9_touchedInVain_67 : decode cX9_touchedInVain 67 = .ok (.iload 5, 2) := by decide +kernel
theorem dX9_touchedInVain_69 : decode cX9_touchedInVain 69 = .ok (.iaload, 1) := by decide +kernel
theorem dX9_touchedInVain_70 : decode cX9_touchedInVain 70 = .ok (.iaload, 1) := by decide +kernel
theorem dX9_touchedInVain_71 : decode cX9_touchedInVain 71 = .ok (.ifCond .lt 12, 3) := by decide +kernel
theorem dX9_touchedInVain_74 : decode cX9_touchedInVain 74 = .ok (.iload_n 3, 1) := by decide +kernel
theorem dX9_touchedInVain_75 : decode cX9_touchedInVain 75 = .ok (.iconst 1, 1) := by decide +kernel
theorem dX9_touchedInVain_76 : decode cX9_touchedInVain 76 = .ok (.iload 4, 2) := by decide +kernel
theorem dX9_touchedInVain_78 : decode cX9_touchedInVain 78 = .ok (.ishl, 1) := by decide +kernel
theorem dX9_touchedInVain_79 : decode cX9_touchedInVain 79 = .ok (.iconst (-1), 1) := by decide +kernel
theorem dX9_touchedInVain_80 : decode cX9_touchedInVain 80 = .ok (.ixor, 1) := by decide +kernel
theorem dX9_touchedInVain_81 : decode cX9_touchedInVain 81 = .ok (.iand, 1) := by decide +kernel
theorem dX9_touchedInVain_82 : decode cX9_touchedInVain 82 = .ok (.istore_n 3, 1) := by decide +kernel
theorem dX9_touchedInVain_83 : decode cX9_touchedInVain 83 = .ok (.iinc 5 1, 3) := by decide +kernel
theorem dX9_touchedInVain_86 : decode cX9_touchedInVain 86 = .ok (.goto (-52), 3) := by decide +kernel
theorem dX9_touchedInVain_89 : decode cX9_touchedInVain 89 = .ok (.iinc 4 1, 3) := by decide +kernel
theorem dX9_touchedInVain_92 : decode cX9_touchedInVain 92 = .ok (.goto (-82), 3) := by decide +kernel
theorem dX9_touchedInVain_95 : decode cX9_touchedInVain 95 = .ok (.iload_n 3, 1) := by decide +kernel
theorem dX9_touchedInVain_96 : decode cX9_touchedInVain 96 = .ok (.ireturn, 1) := by decide +kernel
theorem dX9_coveredBy_0 : decode cX9_coveredBy 0 = .ok (.iconst 0, 1) := by decide +kernel
theorem dX9_coveredBy_1 : decode cX9_coveredBy 1 = .ok (.istore_n 3, 1) := by decide +kernel
theorem dX9_coveredBy_2 : decode cX9_coveredBy 2 = .ok (.iconst 0, 1) := by decide +kernel
theorem dX9_coveredBy_3 : decode cX9_coveredBy 3 = .ok (.istore 4, 2) := by decide +kernel
theorem dX9_coveredBy_5 : decode cX9_coveredBy 5 = .ok (.iload 4, 2) := by decide +kernel
theorem dX9_coveredBy_7 : decode cX9_coveredBy 7 = .ok (.aload_n 0, 1) := by decide +kernel
theorem dX9_coveredBy_8 : decode cX9_coveredBy 8 = .ok (.getfield 15, 3) := by decide +kernel
theorem dX9_coveredBy_11 : decode cX9_coveredBy 11 = .ok (.getfield 76, 3) := by decide +kernel
theorem dX9_coveredBy_14 : decode cX9_coveredBy 14 = .ok (.if_icmp .ge 31, 3) := by decide +kernel
theorem dX9_coveredBy_17 : decode cX9_coveredBy 17 = .ok (.aload_n 0, 1) := by decide +kernel
theorem dX9_coveredBy_18 : decode cX9_coveredBy 18 = .ok (.aload_n 1, 1) := by decide +kernel
theorem dX9_coveredBy_19 : decode cX9_coveredBy 19 = .ok (.iload_n 2, 1) := by decide +kernel
theorem dX9_coveredBy_20 : decode cX9_coveredBy 20 = .ok (.aload_n 0, 1) := by decide +kernel
theorem dX9_coveredBy_21 : decode cX9_coveredBy 21 = .ok (.getfield 15, 3) := by decide +kernel
theorem dX9_coveredBy_24 : decode cX9_coveredBy 24 = .ok (.getfield 73, 3) := by decide +kernel
theorem dX9_coveredBy_27 : decode cX9_coveredBy 27 = .ok (.iload 4, 2) := by decide +kernel
theorem dX9_coveredBy_29 : decode cX9_coveredBy 29 = .ok (.iaload, 1) := by decide +kernel
theorem dX9_coveredBy_30 : decode cX9_coveredBy 30 = .ok (.invokevirtual 79, 3) := by decide +kernel
theorem dX9_coveredBy_33 : decode cX9_coveredBy 33 = .ok (.ifCond .lt 6, 3) := by decide +kernel
theorem dX9_coveredBy_36 : decode cX9_coveredBy 36 = .ok (.iinc 3 1, 3) := by decide +kernel
theorem dX9_coveredBy_39 : decode cX9_coveredBy 39 = .ok (.iinc 4 1, 3) := by decide +kernel
theorem dX9_coveredBy_42 : decode cX9_coveredBy 42 = .ok (.goto (-37), 3) := by decide +kernel
theorem dX9_coveredBy_45 : decode cX9_coveredBy 45 = .ok (.iload_n 3, 1) := by decide +kernel
theorem dX9_coveredBy_46 : decode cX9_coveredBy 46 = .ok (.ireturn, 1) := by decide +kernel
theorem dX9_rankOf_0 : decode cX9_rankOf 0 = .ok (.aload_n 0, 1) := by decide +kernel
theorem dX9_rankOf_1 : decode cX9_rankOf 1 = .ok (.aload_n 1, 1) := by decide +kernel
theorem dX9_rankOf_2 : decode cX9_rankOf 2 = .ok (.iload_n 2, 1) := by decide +kernel
theorem dX9_rankOf_3 : decode cX9_rankOf 3 = .ok (.iload_n 3, 1) := by decide +kernel
theorem dX9_rankOf_4 : decode cX9_rankOf 4 = .ok (.invokevirtual 79, 3) := by decide +kernel
theorem dX9_rankOf_7 : decode cX9_rankOf 7 = .ok (.istore 4, 2) := by decide +kernel
theorem dX9_rankOf_9 : decode cX9_rankOf 9 = .ok (.iconst 0, 1) := by decide +kernel
theorem dX9_rankOf_10 : decode cX9_rankOf 10 = .ok (.istore 5, 2) := by decide +kernel
theorem dX9_rankOf_12 : decode cX9_rankOf 12 = .ok (.iconst 0, 1) := by decide +kernel
theorem dX9_rankOf_13 : decode cX9_rankOf 13 = .ok (.istore 6, 2) := by decide +kernel
theorem dX9_rankOf_15 : decode cX9_rankOf 15 = .ok (.iload 6, 2) := by decide +kernel
theorem dX9_rankOf_17 : decode cX9_rankOf 17 = .ok (.aload_n 0, 1) := by decide +kernel
theorem dX9_rankOf_18 : decode cX9_rankOf 18 = .ok (.getfield 9, 3) := by decide +kernel
theorem dX9_rankOf_21 : decode cX9_rankOf 21 = .ok (.getfield 29, 3) := by decide +kernel
theorem dX9_rankOf_24 : decode cX9_rankOf 24 = .ok (.if_icmp .ge 47, 3) := by decide +kernel
theorem dX9_rankOf_27 : decode cX9_rankOf 27 = .ok (.aload_n 0, 1) := by decide +kernel
theorem dX9_rankOf_28 : decode cX9_rankOf 28 = .ok (.aload_n 1, 1) := by decide +kernel
theorem dX9_rankOf_29 : decode cX9_rankOf 29 = .ok (.iload 6, 2) := by decide +kernel
theorem dX9_rankOf_31 : decode cX9_rankOf 31 = .ok (.iload_n 3, 1) := by decide +kernel
theorem dX9_rankOf_32 : decode cX9_rankOf 32 = .ok (.invokevirtual 79, 3) := by decide +kernel
theorem dX9_rankOf_35 : decode cX9_rankOf 35 = .ok (.istore 7, 2) := by decide +kernel
theorem dX9_rankOf_37 : decode cX9_rankOf 37 = .ok (.iload 7, 2) := by decide +kernel
theorem dX9_rankOf_39 : decode cX9_rankOf 39 = .ok (.ifCond .lt 26, 3) := by decide +kernel
theorem dX9_rankOf_42 : decode cX9_rankOf 42 = .ok (.iload 7, 2) := by decide +kernel
theorem dX9_rankOf_44 : decode cX9_rankOf 44 = .ok (.iload 4, 2) := by decide +kernel
theorem dX9_rankOf_46 : decode cX9_rankOf 46 = .ok (.if_icmp .lt 16, 3) := by decide +kernel
theorem dX9_rankOf_49 : decode cX9_rankOf 49 = .ok (.iload 7, 2) := by decide +kernel
theorem dX9_rankOf_51 : decode cX9_rankOf 51 = .ok (.iload 4, 2) := by decide +kernel
theorem dX9_rankOf_53 : decode cX9_rankOf 53 = .ok (.if_icmp .ne 12, 3) := by decide +kernel
theorem dX9_rankOf_56 : decode cX9_rankOf 56 = .ok (.iload 6, 2) := by decide +kernel
theorem dX9_rankOf_58 : decode cX9_rankOf 58 = .ok (.iload_n 2, 1) := by decide +kernel
theorem dX9_rankOf_59 : decode cX9_rankOf 59 = .ok (.if_icmp .ge 6, 3) := by decide +kernel
theorem dX9_rankOf_62 : decode cX9_rankOf 62 = .ok (.iinc 5 1, 3) := by decide +kernel
theorem dX9_rankOf_65 : decode cX9_rankOf 65 = .ok (.iinc 6 1, 3) := by decide +kernel
theorem dX9_rankOf_68 : decode cX9_rankOf 68 = .ok (.goto (-53), 3) := by decide +kernel
theorem dX9_rankOf_71 : decode cX9_rankOf 71 = .ok (.iload 5, 2) := by decide +kernel
theorem dX9_rankOf_73 : decode cX9_rankOf 73 = .ok (.ireturn, 1) := by decide +kernel
theorem dX9_timesInBins_0 : decode cX9_timesInBins 0 = .ok (.iconst 0, 1) := by decide +kernel
theorem dX9_timesInBins_1 : decode cX9_timesInBins 1 = .ok (.istore_n 3, 1) := by decide +kernel
theorem dX9_timesInBins_2 : decode cX9_timesInBins 2 = .ok (.iconst 0, 1) := by decide +kernel
theorem dX9_timesInBins_3 : decode cX9_timesInBins 3 = .ok (.istore 4, 2) := by decide +kernel
theorem dX9_timesInBins_5 : decode cX9_timesInBins 5 = .ok (.iload 4, 2) := by decide +kernel
theorem dX9_timesInBins_7 : decode cX9_timesInBins 7 = .ok (.aload_n 0, 1) := by decide +kernel
theorem dX9_timesInBins_8 : decode cX9_timesInBins 8 = .ok (.getfield 15, 3) := by decide +kernel
theorem dX9_timesInBins_11 : decode cX9_timesInBins 11 = .ok (.getfield 65, 3) := by decide +kernel
theorem dX9_timesInBins_14 : decode cX9_timesInBins 14 = .ok (.if_icmp .ge 57, 3) := by decide +kernel
theorem dX9_timesInBins_17 : decode cX9_timesInBins 17 = .ok (.iconst 0, 1) := by decide +kernel
theorem dX9_timesInBins_18 : decode cX9_timesInBins 18 = .ok (.istore 5, 2) := by decide +kernel
theorem dX9_timesInBins_20 : decode cX9_timesInBins 20 = .ok (.iload 5, 2) := by decide +kernel
theorem dX9_timesInBins_22 : decode cX9_timesInBins 22 = .ok (.aload_n 1, 1) := by decide +kernel
theorem dX9_timesInBins_23 : decode cX9_timesInBins 23 = .ok (.getfield 83, 3) := by decide +kernel
theorem dX9_timesInBins_26 : decode cX9_timesInBins 26 = .ok (.iload 4, 2) := by decide +kernel
theorem dX9_timesInBins_28 : decode cX9_timesInBins 28 = .ok (.iaload, 1) := by decide +kernel
theorem dX9_timesInBins_29 : decode cX9_timesInBins 29 = .ok (.if_icmp .ge 36, 3) := by decide +kernel
theorem dX9_timesInBins_32 : decode cX9_timesInBins 32 = .ok (.iload 5, 2) := by decide +kernel
theorem dX9_timesInBins_34 : decode cX9_timesInBins 34 = .ok (.bipush 10, 2) := by decide +kernel
theorem dX9_timesInBins_36 : decode cX9_timesInBins 36 = .ok (.if_icmp .ge 29, 3) := by decide +kernel
theorem dX9_timesInBins_39 : decode cX9_timesInBins 39 = .ok (.aload_n 1, 1) := by decide +kernel
theorem dX9_timesInBins_40 : decode cX9_timesInBins 40 = .ok (.getfield 86, 3) := by decide +kernel
theorem dX9_timesInBins_43 : decode cX9_timesInBins 43 = .ok (.iload 4, 2) := by decide +kernel
theorem dX9_timesInBins_45 : decode cX9_timesInBins 45 = .ok (.bipush 10, 2) := by decide +kernel
theorem dX9_timesInBins_47 : decode cX9_timesInBins 47 = .ok (.imul, 1) := by decide +kernel
theorem dX9_timesInBins_48 : decode cX9_timesInBins 48 = .ok (.iload 5, 2) := by decide +kernel
theorem dX9_timesInBins_50 : decode cX9_timesInBins 50 = .ok (.iadd, 1) := by decide +kernel
theorem dX9_timesInBins_51 : decode cX9_timesInBins 51 = .ok (.iaload, 1) := by decide +kernel
theorem dX9_timesInBins_52 : decode cX9_timesInBins 52 = .ok (.iload_n 2, 1) := by decide +kernel
theorem dX9_timesInBins_53 : decode cX9_timesInBins 53 = .ok (.if_icmp .ne 6, 3) := by decide +kernel
theorem dX9_timesInBins_56 : decode cX9_timesInBins 56 = .ok (.iinc 3 1, 3) := by decide +kernel
theorem dX9_timesInBins_59 : decode cX9_timesInBins 59 = .ok (.iinc 5 1, 3) := by decide +kernel
theorem dX9_timesInBins_62 : decode cX9_timesInBins 62 = .ok (.goto (-42), 3) := by decide +kernel
theorem dX9_timesInBins_65 : decode cX9_timesInBins 65 = .ok (.iinc 4 1, 3) := by decide +kernel
theorem dX9_timesInBins_68 : decode cX9_timesInBins 68 = .ok (.goto (-63), 3) := by decide +kernel
theorem dX9_timesInBins_71 : decode cX9_timesInBins 71 = .ok (.iload_n 3, 1) := by decide +kernel
theorem dX9_timesInBins_72 : decode cX9_timesInBins 72 = .ok (.ireturn, 1) := by decide +kernel
theorem dX9_binnedOnes_0 : decode cX9_binnedOnes 0 = .ok (.iconst 0, 1) := by decide +kernel
theorem dX9_binnedOnes_1 : decode cX9_binnedOnes 1 = .ok (.istore_n 2, 1) := by decide +kernel
theorem dX9_binnedOnes_2 : decode cX9_binnedOnes 2 = .ok (.iconst 0, 1) := by decide +kernel
theorem dX9_binnedOnes_3 : decode cX9_binnedOnes 3 = .ok (.istore_n 3, 1) := by decide +kernel
theorem dX9_binnedOnes_4 : decode cX9_binnedOnes 4 = .ok (.iload_n 3, 1) := by decide +kernel
theorem dX9_binnedOnes_5 : decode cX9_binnedOnes 5 = .ok (.aload_n 0, 1) := by decide +kernel
theorem dX9_binnedOnes_6 : decode cX9_binnedOnes 6 = .ok (.getfield 9, 3) := by decide +kernel
theorem dX9_binnedOnes_9 : decode cX9_binnedOnes 9 = .ok (.getfield 29, 3) := by decide +kernel
theorem dX9_binnedOnes_12 : decode cX9_binnedOnes 12 = .ok (.if_icmp .ge 24, 3) := by decide +kernel
theorem dX9_binnedOnes_15 : decode cX9_binnedOnes 15 = .ok (.aload_n 0, 1) := by decide +kernel
theorem dX9_binnedOnes_16 : decode cX9_binnedOnes 16 = .ok (.aload_n 1, 1) := by decide +kernel
theorem dX9_binnedOnes_17 : decode cX9_binnedOnes 17 = .ok (.iload_n 3, 1) := by decide +kernel
theorem dX9_binnedOnes_18 : decode cX9_binnedOnes 18 = .ok (.invokevirtual 89, 3) := by decide +kernel
theorem dX9_binnedOnes_21 : decode cX9_binnedOnes 21 = .ok (.ifCond .le 9, 3) := by decide +kernel
theorem dX9_binnedOnes_24 : decode cX9_binnedOnes 24 = .ok (.iload_n 2, 1) := by decide +kernel
theorem dX9_binnedOnes_25 : decode cX9_binnedOnes 25 = .ok (.iconst 1, 1) := by decide +kernel
theorem dX9_binnedOnes_26 : decode cX9_binnedOnes 26 = .ok (.iload_n 3, 1) := by decide +kernel
theorem dX9_binnedOnes_27 : decode cX9_binnedOnes 27 = .ok (.ishl, 1) := by decide +kernel
theorem dX9_binnedOnes_28 : decode cX9_binnedOnes 28 = .ok (.ior, 1) := by decide +kernel
theorem dX9_binnedOnes_29 : decode cX9_binnedOnes 29 = .ok (.istore_n 2, 1) := by decide +kernel
theorem dX9_binnedOnes_30 : decode cX9_binnedOnes 30 = .ok (.iinc 3 1, 3) := by decide +kernel
theorem dX9_binnedOnes_33 : decode cX9_binnedOnes 33 = .ok (.goto (-29), 3) := by decide +kernel
theorem dX9_binnedOnes_36 : decode cX9_binnedOnes 36 = .ok (.iload_n 2, 1) := by decide +kernel
theorem dX9_binnedOnes_37 : decode cX9_binnedOnes 37 = .ok (.ireturn, 1) := by decide +kernel
theorem dX9_culledOnes_0 : decode cX9_culledOnes 0 = .ok (.iconst 0, 1) := by decide +kernel
theorem dX9_culledOnes_1 : decode cX9_culledOnes 1 = .ok (.istore_n 2, 1) := by decide +kernel
theorem dX9_culledOnes_2 : decode cX9_culledOnes 2 = .ok (.iconst 0, 1) := by decide +kernel
theorem dX9_culledOnes_3 : decode cX9_culledOnes 3 = .ok (.istore_n 3, 1) := by decide +kernel
theorem dX9_culledOnes_4 : decode cX9_culledOnes 4 = .ok (.iload_n 3, 1) := by decide +kernel
theorem dX9_culledOnes_5 : decode cX9_culledOnes 5 = .ok (.aload_n 0, 1) := by decide +kernel
theorem dX9_culledOnes_6 : decode cX9_culledOnes 6 = .ok (.getfield 9, 3) := by decide +kernel
theorem dX9_culledOnes_9 : decode cX9_culledOnes 9 = .ok (.getfield 29, 3) := by decide +kernel
theorem dX9_culledOnes_12 : decode cX9_culledOnes 12 = .ok (.if_icmp .ge 24, 3) := by decide +kernel
theorem dX9_culledOnes_15 : decode cX9_culledOnes 15 = .ok (.aload_n 0, 1) := by decide +kernel
theorem dX9_culledOnes_16 : decode cX9_culledOnes 16 = .ok (.aload_n 1, 1) := by decide +kernel
theorem dX9_culledOnes_17 : decode cX9_culledOnes 17 = .ok (.iload_n 3, 1) := by decide +kernel
theorem dX9_culledOnes_18 : decode cX9_culledOnes 18 = .ok (.invokevirtual 51, 3) := by decide +kernel
theorem dX9_culledOnes_21 : decode cX9_culledOnes 21 = .ok (.ifCond .eq 9, 3) := by decide +kernel
theorem dX9_culledOnes_24 : decode cX9_culledOnes 24 = .ok (.iload_n 2, 1) := by decide +kernel
theorem dX9_culledOnes_25 : decode cX9_culledOnes 25 = .ok (.iconst 1, 1) := by decide +kernel
theorem dX9_culledOnes_26 : decode cX9_culledOnes 26 = .ok (.iload_n 3, 1) := by decide +kernel
theorem dX9_culledOnes_27 : decode cX9_culledOnes 27 = .ok (.ishl, 1) := by decide +kernel
theorem dX9_culledOnes_28 : decode cX9_culledOnes 28 = .ok (.ior, 1) := by decide +kernel
theorem dX9_culledOnes_29 : decode cX9_culledOnes 29 = .ok (.istore_n 2, 1) := by decide +kernel
theorem dX9_culledOnes_30 : decode cX9_culledOnes 30 = .ok (.iinc 3 1, 3) := by decide +kernel
theorem dX9_culledOnes_33 : decode cX9_culledOnes 33 = .ok (.goto (-29), 3) := by decide +kernel
theorem dX9_culledOnes_36 : decode cX9_culledOnes 36 = .ok (.iload_n 2, 1) := by decide +kernel
theorem dX9_culledOnes_37 : decode cX9_culledOnes 37 = .ok (.ireturn, 1) := by decide +kernel
theorem dX9_fullestTile_0 : decode cX9_fullestTile 0 = .ok (.iconst 0, 1) := by decide +kernel
theorem dX9_fullestTile_1 : decode cX9_fullestTile 1 = .ok (.istore_n 2, 1) := by decide +kernel
theorem dX9_fullestTile_2 : decode cX9_fullestTile 2 = .ok (.iconst 1, 1) := by decide +kernel
theorem dX9_fullestTile_3 : decode cX9_fullestTile 3 = .ok (.istore_n 3, 1) := by decide +kernel
theorem dX9_fullestTile_4 : decode cX9_fullestTile 4 = .ok (.iload_n 3, 1) := by decide +kernel
theorem dX9_fullestTile_5 : decode cX9_fullestTile 5 = .ok (.aload_n 0, 1) := by decide +kernel
theorem dX9_fullestTile_6 : decode cX9_fullestTile 6 = .ok (.getfield 15, 3) := by decide +kernel
theorem dX9_fullestTile_9 : decode cX9_fullestTile 9 = .ok (.getfield 65, 3) := by decide +kernel
theorem dX9_fullestTile_12 : decode cX9_fullestTile 12 = .ok (.if_icmp .ge 26, 3) := by decide +kernel
theorem dX9_fullestTile_15 : decode cX9_fullestTile 15 = .ok (.aload_n 1, 1) := by decide +kernel
theorem dX9_fullestTile_16 : decode cX9_fullestTile 16 = .ok (.getfield 83, 3) := by decide +kernel
theorem dX9_fullestTile_19 : decode cX9_fullestTile 19 = .ok (.iload_n 3, 1) := by decide +kernel
theorem dX9_fullestTile_20 : decode cX9_fullestTile 20 = .ok (.iaload, 1) := by decide +kernel
theorem dX9_fullestTile_21 : decode cX9_fullestTile 21 = .ok (.aload_n 1, 1) := by decide +kernel
theorem dX9_fullestTile_22 : decode cX9_fullestTile 22 = .ok (.getfield 83, 3) := by decide +kernel
theorem dX9_fullestTile_25 : decode cX9_fullestTile 25 = .ok (.iload_n 2, 1) := by decide +kernel
theorem dX9_fullestTile_26 : decode cX9_fullestTile 26 = .ok (.iaload, 1) := by decide +kernel
theorem dX9_fullestTile_27 : decode cX9_fullestTile 27 = .ok (.if_icmp .le 5, 3) := by decide +kernel
theorem dX9_fullestTile_30 : decode cX9_fullestTile 30 = .ok (.iload_n 3, 1) := by decide +kernel
theorem dX9_fullestTile_31 : decode cX9_fullestTile 31 = .ok (.istore_n 2, 1) := by decide +kernel
theorem dX9_fullestTile_32 : decode cX9_fullestTile 32 = .ok (.iinc 3 1, 3) := by decide +kernel
theorem dX9_fullestTile_35 : decode cX9_fullestTile 35 = .ok (.goto (-31), 3) := by decide +kernel
theorem dX9_fullestTile_38 : decode cX9_fullestTile 38 = .ok (.iload_n 2, 1) := by decide +kernel
theorem dX9_fullestTile_39 : decode cX9_fullestTile 39 = .ok (.ireturn, 1) := by decide +kernel
theorem dX9_pendingInAll_0 : decode cX9_pendingInAll 0 = .ok (.iconst 0, 1) := by decide +kernel
theorem dX9_pendingInAll_1 : decode cX9_pendingInAll 1 = .ok (.istore_n 2, 1) := by decide +kernel
theorem dX9_pendingInAll_2 : decode cX9_pendingInAll 2 = .ok (.iconst 0, 1) := by decide +kernel
theorem dX9_pendingInAll_3 : decode cX9_pendingInAll 3 = .ok (.istore_n 3, 1) := by decide +kernel
theorem dX9_pendingInAll_4 : decode cX9_pendingInAll 4 = .ok (.iload_n 3, 1) := by decide +kernel
theorem dX9_pendingInAll_5 : decode cX9_pendingInAll 5 = .ok (.aload_n 0, 1) := by decide +kernel
theorem dX9_pendingInAll_6 : decode cX9_pendingInAll 6 = .ok (.getfield 15, 3) := by decide +kernel
theorem dX9_pendingInAll_9 : decode cX9_pendingInAll 9 = .ok (.getfield 65, 3) := by decide +kernel
theorem dX9_pendingInAll_12 : decode cX9_pendingInAll 12 = .ok (.if_icmp .ge 21, 3) := by decide +kernel
theorem dX9_pendingInAll_15 : decode cX9_pendingInAll 15 = .ok (.iload_n 2, 1) := by decide +kernel
theorem dX9_pendingInAll_16 : decode cX9_pendingInAll 16 = .ok (.aload_n 0, 1) := by decide +kernel
theorem dX9_pendingInAll_17 : decode cX9_pendingInAll 17 = .ok (.getfield 15, 3) := by decide +kernel
theorem dX9_pendingInAll_20 : decode cX9_pendingInAll 20 = .ok (.aload_n 1, 1) := by decide +kernel
theorem dX9_pendingInAll_21 : decode cX9_pendingInAll 21 = .ok (.iload_n 3, 1) := by decide +kernel
theorem dX9_pendingInAll_22 : decode cX9_pendingInAll 22 = .ok (.invokevirtual 92, 3) := by decide +kernel
theorem dX9_pendingInAll_25 : decode cX9_pendingInAll 25 = .ok (.iadd, 1) := by decide +kernel
theorem dX9_pendingInAll_26 : decode cX9_pendingInAll 26 = .ok (.istore_n 2, 1) := by decide +kernel
theorem dX9_pendingInAll_27 : decode cX9_pendingInAll 27 = .ok (.iinc 3 1, 3) := by decide +kernel
theorem dX9_pendingInAll_30 : decode cX9_pendingInAll 30 = .ok (.goto (-26), 3) := by decide +kernel
theorem dX9_pendingInAll_33 : decode cX9_pendingInAll 33 = .ok (.iload_n 2, 1) := by decide +kernel
theorem dX9_pendingInAll_34 : decode cX9_pendingInAll 34 = .ok (.ireturn, 1) := by decide +kernel
theorem dX9_refusal_0 : decode cX9_refusal 0 = .ok (.aload_n 0, 1) := by decide +kernel
theorem dX9_refusal_1 : decode cX9_refusal 1 = .ok (.getfield 9, 3) := by decide +kernel
theorem dX9_refusal_4 : decode cX9_refusal 4 = .ok (.getfield 29, 3) := by decide +kernel
theorem dX9_refusal_7 : decode cX9_refusal 7 = .ok (.ifCond .ne 5, 3) := by decide +kernel
theorem dX9_refusal_10 : decode cX9_refusal 10 = .ok (.iconst 0, 1) := by decide +kernel
theorem dX9_refusal_11 : decode cX9_refusal 11 = .ok (.ireturn, 1) := by decide +kernel
theorem dX9_refusal_12 : decode cX9_refusal 12 = .ok (.iload_n 2, 1) := by decide +kernel
theorem dX9_refusal_13 : decode cX9_refusal 13 = .ok (.tableswitch 134 0 8 #[51, 79, 119, 119, 134, 134, 134, 134, 121], 51) := by decide +kernel
theorem dX9_refusal_64 : decode cX9_refusal 64 = .ok (.aload_n 0, 1) := by decide +kernel
theorem dX9_refusal_65 : decode cX9_refusal 65 = .ok (.getfield 9, 3) := by decide +kernel
theorem dX9_refusal_68 : decode cX9_refusal 68 = .ok (.iload_n 3, 1) := by decide +kernel
theorem dX9_refusal_69 : decode cX9_refusal 69 = .ok (.invokevirtual 95, 3) := by decide +kernel
theorem dX9_refusal_72 : decode cX9_refusal 72 = .ok (.ifCond .ne 5, 3) := by decide +kernel
theorem dX9_refusal_75 : decode cX9_refusal 75 = .ok (.iconst 0, 1) := by decide +kernel
theorem dX9_refusal_76 : decode cX9_refusal 76 = .ok (.ireturn, 1) := by decide +kernel
theorem dX9_refusal_77 : decode cX9_refusal 77 = .ok (.aload_n 0, 1) := by decide +kernel
theorem dX9_refusal_78 : decode cX9_refusal 78 = .ok (.aload_n 1, 1) := by decide +kernel
theorem dX9_refusal_79 : decode cX9_refusal 79 = .ok (.iload_n 3, 1) := by decide +kernel
theorem dX9_refusal_80 : decode cX9_refusal 80 = .ok (.invokevirtual 61, 3) := by decide +kernel
theorem dX9_refusal_83 : decode cX9_refusal 83 = .ok (.ifCond .ne 7, 3) := by decide +kernel
theorem dX9_refusal_86 : decode cX9_refusal 86 = .ok (.iconst 2, 1) := by decide +kernel
theorem dX9_refusal_87 : decode cX9_refusal 87 = .ok (.goto 4, 3) := by decide +kernel
theorem dX9_refusal_90 : decode cX9_refusal 90 = .ok (.iconst (-1), 1) := by decide +kernel
theorem dX9_refusal_91 : decode cX9_refusal 91 = .ok (.ireturn, 1) := by decide +kernel
theorem dX9_refusal_92 : decode cX9_refusal 92 = .ok (.aload_n 0, 1) := by decide +kernel
theorem dX9_refusal_93 : decode cX9_refusal 93 = .ok (.getfield 15, 3) := by decide +kernel
theorem dX9_refusal_96 : decode cX9_refusal 96 = .ok (.iload_n 3, 1) := by decide +kernel
theorem dX9_refusal_97 : decode cX9_refusal 97 = .ok (.invokevirtual 99, 3) := by decide +kernel
theorem dX9_refusal_100 : decode cX9_refusal 100 = .ok (.ifCond .ne 5, 3) := by decide +kernel
theorem dX9_refusal_103 : decode cX9_refusal 103 = .ok (.iconst 0, 1) := by decide +kernel
theorem dX9_refusal_104 : decode cX9_refusal 104 = .ok (.ireturn, 1) := by decide +kernel
theorem dX9_refusal_105 : decode cX9_refusal 105 = .ok (.aload_n 1, 1) := by decide +kernel
theorem dX9_refusal_106 : decode cX9_refusal 106 = .ok (.getfield 83, 3) := by decide +kernel
theorem dX9_refusal_109 : decode cX9_refusal 109 = .ok (.iload_n 3, 1) := by decide +kernel
theorem dX9_refusal_110 : decode cX9_refusal 110 = .ok (.iaload, 1) := by decide +kernel
theorem dX9_refusal_111 : decode cX9_refusal 111 = .ok (.ifCond .ne 19, 3) := by decide +kernel
theorem dX9_refusal_114 : decode cX9_refusal 114 = .ok (.aload_n 0, 1) := by decide +kernel
theorem dX9_refusal_115 : decode cX9_refusal 115 = .ok (.getfield 15, 3) := by decide +kernel
theorem dX9_refusal_118 : decode cX9_refusal 118 = .ok (.aload_n 1, 1) := by decide +kernel
theorem dX9_refusal_119 : decode cX9_refusal 119 = .ok (.iload_n 3, 1) := by decide +kernel
theorem dX9_refusal_120 : decode cX9_refusal 120 = .ok (.invokevirtual 92, 3) := by decide +kernel
theorem dX9_refusal_123 : decode cX9_refusal 123 = .ok (.ifCond .ne 7, 3) := by decide +kernel
theorem dX9_refusal_126 : decode cX9_refusal 126 = .ok (.iconst 2, 1) := by decide +kernel
theorem dX9_refusal_127 : decode cX9_refusal 127 = .ok (.goto 4, 3) := by decide +kernel
theorem dX9_refusal_130 : decode cX9_refusal 130 = .ok (.iconst (-1), 1) := by decide +kernel
theorem dX9_refusal_131 : decode cX9_refusal 131 = .ok (.ireturn, 1) := by decide +kernel
theorem dX9_refusal_132 : decode cX9_refusal 132 = .ok (.iconst (-1), 1) := by decide +kernel
theorem dX9_refusal_133 : decode cX9_refusal 133 = .ok (.ireturn, 1) := by decide +kernel
theorem dX9_refusal_134 : decode cX9_refusal 134 = .ok (.aload_n 0, 1) := by decide +kernel
theorem dX9_refusal_135 : decode cX9_refusal 135 = .ok (.aload_n 1, 1) := by decide +kernel
theorem dX9_refusal_136 : decode cX9_refusal 136 = .ok (.iload_n 3, 1) := by decide +kernel
theorem dX9_refusal_137 : decode cX9_refusal 137 = .ok (.iload 4, 2) := by decide +kernel
theorem dX9_refusal_139 : decode cX9_refusal 139 = .ok (.iload 5, 2) := by decide +kernel
theorem dX9_refusal_141 : decode cX9_refusal 141 = .ok (.iload 6, 2) := by decide +kernel
theorem dX9_refusal_143 : decode cX9_refusal 143 = .ok (.invokevirtual 102, 3) := by decide +kernel
theorem dX9_refusal_146 : decode cX9_refusal 146 = .ok (.ireturn, 1) := by decide +kernel
theorem dX9_refusal_147 : decode cX9_refusal 147 = .ok (.aload_n 0, 1) := by decide +kernel
theorem dX9_refusal_148 : decode cX9_refusal 148 = .ok (.aload_n 1, 1) := by decide +kernel
theorem dX9_refusal_149 : decode cX9_refusal 149 = .ok (.iload_n 2, 1) := by decide +kernel
theorem dX9_refusal_150 : decode cX9_refusal 150 = .ok (.iconst 4, 1) := by decide +kernel
theorem dX9_refusal_151 : decode cX9_refusal 151 = .ok (.isub, 1) := by decide +kernel
theorem dX9_refusal_152 : decode cX9_refusal 152 = .ok (.iload_n 3, 1) := by decide +kernel
theorem dX9_refusal_153 : decode cX9_refusal 153 = .ok (.invokevirtual 106, 3) := by decide +kernel
theorem dX9_refusal_156 : decode cX9_refusal 156 = .ok (.ireturn, 1) := by decide +kernel
theorem dX9_refusalOfRule_0 : decode cX9_refusalOfRule 0 = .ok (.iload_n 2, 1) := by decide +kernel
theorem dX9_refusalOfRule_1 : decode cX9_refusalOfRule 1 = .ok (.ifCond .lt 26, 3) := by decide +kernel
theorem dX9_refusalOfRule_4 : decode cX9_refusalOfRule 4 = .ok (.iload_n 2, 1) := by decide +kernel
theorem dX9_refusalOfRule_5 : decode cX9_refusalOfRule 5 = .ok (.iconst 4, 1) := by decide +kernel
theorem dX9_refusalOfRule_6 : decode cX9_refusalOfRule 6 = .ok (.if_icmp .ge 21, 3) := by decide +kernel
theorem dX9_refusalOfRule_9 : decode cX9_refusalOfRule 9 = .ok (.iload_n 3, 1) := by decide +kernel
theorem dX9_refusalOfRule_10 : decode cX9_refusalOfRule 10 = .ok (.getstatic 109, 3) := by decide +kernel
theorem dX9_refusalOfRule_13 : decode cX9_refusalOfRule 13 = .ok (.iload_n 2, 1) := by decide +kernel
theorem dX9_refusalOfRule_14 : decode cX9_refusalOfRule 14 = .ok (.iaload, 1) := by decide +kernel
theorem dX9_refusalOfRule_15 : decode cX9_refusalOfRule 15 = .ok (.if_icmp .lt 12, 3) := by decide +kernel
theorem dX9_refusalOfRule_18 : decode cX9_refusalOfRule 18 = .ok (.iload_n 3, 1) := by decide +kernel
theorem dX9_refusalOfRule_19 : decode cX9_refusalOfRule 19 = .ok (.getstatic 112, 3) := by decide +kernel
theorem dX9_refusalOfRule_22 : decode cX9_refusalOfRule 22 = .ok (.iload_n 2, 1) := by decide +kernel
theorem dX9_refusalOfRule_23 : decode cX9_refusalOfRule 23 = .ok (.iaload, 1) := by decide +kernel
theorem dX9_refusalOfRule_24 : decode cX9_refusalOfRule 24 = .ok (.if_icmp .le 5, 3) := by decide +kernel
theorem dX9_refusalOfRule_27 : decode cX9_refusalOfRule 27 = .ok (.iconst 1, 1) := by decide +kernel
theorem dX9_refusalOfRule_28 : decode cX9_refusalOfRule 28 = .ok (.ireturn, 1) := by decide +kernel
theorem dX9_refusalOfRule_29 : decode cX9_refusalOfRule 29 = .ok (.aload_n 1, 1) := by decide +kernel
theorem dX9_refusalOfRule_30 : decode cX9_refusalOfRule 30 = .ok (.getfield 48, 3) := by decide +kernel
theorem dX9_refusalOfRule_33 : decode cX9_refusalOfRule 33 = .ok (.iload_n 2, 1) := by decide +kernel
theorem dX9_refusalOfRule_34 : decode cX9_refusalOfRule 34 = .ok (.iaload, 1) := by decide +kernel
theorem dX9_refusalOfRule_35 : decode cX9_refusalOfRule 35 = .ok (.iload_n 3, 1) := by decide +kernel
theorem dX9_refusalOfRule_36 : decode cX9_refusalOfRule 36 = .ok (.if_icmp .ne 7, 3) := by decide +kernel
theorem dX9_refusalOfRule_39 : decode cX9_refusalOfRule 39 = .ok (.iconst 2, 1) := by decide +kernel
theorem dX9_refusalOfRule_40 : decode cX9_refusalOfRule 40 = .ok (.goto 4, 3) := by decide +kernel
theorem dX9_refusalOfRule_43 : decode cX9_refusalOfRule 43 = .ok (.iconst (-1), 1) := by decide +kernel
theorem dX9_refusalOfRule_44 : decode cX9_refusalOfRule 44 = .ok (.ireturn, 1) := by decide +kernel
theorem dX9_refusalOfMove_0 : decode cX9_refusalOfMove 0 = .ok (.aload_n 0, 1) := by decide +kernel
theorem dX9_refusalOfMove_1 : decode cX9_refusalOfMove 1 = .ok (.getfield 9, 3) := by decide +kernel
theorem dX9_refusalOfMove_4 : decode cX9_refusalOfMove 4 = .ok (.iload_n 2, 1) := by decide +kernel
theorem dX9_refusalOfMove_5 : decode cX9_refusalOfMove 5 = .ok (.invokevirtual 95, 3) := by decide +kernel
theorem dX9_refusalOfMove_8 : decode cX9_refusalOfMove 8 = .ok (.ifCond .ne 5, 3) := by decide +kernel
theorem dX9_refusalOfMove_11 : decode cX9_refusalOfMove 11 = .ok (.iconst 0, 1) := by decide +kernel
theorem dX9_refusalOfMove_12 : decode cX9_refusalOfMove 12 = .ok (.ireturn, 1) := by decide +kernel
theorem dX9_refusalOfMove_13 : decode cX9_refusalOfMove 13 = .ok (.iload_n 3, 1) := by decide +kernel
theorem dX9_refusalOfMove_14 : decode cX9_refusalOfMove 14 = .ok (.ifCond .lt 24, 3) := by decide +kernel
theorem dX9_refusalOfMove_17 : decode cX9_refusalOfMove 17 = .ok (.iload_n 3, 1) := by decide +kernel
theorem dX9_refusalOfMove_18 : decode cX9_refusalOfMove 18 = .ok (.iconst 2, 1) := by decide +kernel
theorem dX9_refusalOfMove_19 : decode cX9_refusalOfMove 19 = .ok (.if_icmp .gt 19, 3) := by decide +kernel
theorem dX9_refusalOfMove_22 : decode cX9_refusalOfMove 22 = .ok (.iload 4, 2) := by decide +kernel
theorem dX9_refusalOfMove_24 : decode cX9_refusalOfMove 24 = .ok (.invokestatic 115, 3) := by decide +kernel
theorem dX9_refusalOfMove_27 : decode cX9_refusalOfMove 27 = .ok (.ifCond .eq 11, 3) := by decide +kernel
theorem dX9_refusalOfMove_30 : decode cX9_refusalOfMove 30 = .ok (.iload 5, 2) := by decide +kernel
theorem dX9_refusalOfMove_32 : decode cX9_refusalOfMove 32 = .ok (.invokestatic 115, 3) := by decide +kernel
theorem dX9_refusalOfMove_35 : decode cX9_refusalOfMove 35 = .ok (.ifCond .ne 5, 3) := by decide +kernel
theorem dX9_refusalOfMove_38 : decode cX9_refusalOfMove 38 = .ok (.iconst 1, 1) := by decide +kernel
theorem dX9_refusalOfMove_39 : decode cX9_refusalOfMove 39 = .ok (.ireturn, 1) := by decide +kernel
theorem dX9_refusalOfMove_40 : decode cX9_refusalOfMove 40 = .ok (.iload_n 2, 1) := by decide +kernel
theorem dX9_refusalOfMove_41 : decode cX9_refusalOfMove 41 = .ok (.bipush 6, 2) := by decide +kernel
theorem dX9_refusalOfMove_43 : decode cX9_refusalOfMove 43 = .ok (.imul, 1) := by decide +kernel
theorem dX9_refusalOfMove_44 : decode cX9_refusalOfMove 44 = .ok (.iload_n 3, 1) := by decide +kernel
theorem dX9_refusalOfMove_45 : decode cX9_refusalOfMove 45 = .ok (.iconst 2, 1) := by decide +kernel
theorem dX9_refusalOfMove_46 : decode cX9_refusalOfMove 46 = .ok (.imul, 1) := by decide +kernel
theorem dX9_refusalOfMove_47 : decode cX9_refusalOfMove 47 = .ok (.iadd, 1) := by decide +kernel
theorem dX9_refusalOfMove_48 : decode cX9_refusalOfMove 48 = .ok (.istore 6, 2) := by decide +kernel
theorem dX9_refusalOfMove_50 : decode cX9_refusalOfMove 50 = .ok (.aload_n 1, 1) := by decide +kernel
theorem dX9_refusalOfMove_51 : decode cX9_refusalOfMove 51 = .ok (.getfield 35, 3) := by decide +kernel
theorem dX9_refusalOfMove_54 : decode cX9_refusalOfMove 54 = .ok (.iload 6, 2) := by decide +kernel
theorem dX9_refusalOfMove_56 : decode cX9_refusalOfMove 56 = .ok (.iaload, 1) := by decide +kernel
theorem dX9_refusalOfMove_57 : decode cX9_refusalOfMove 57 = .ok (.iload 4, 2) := by decide +kernel
theorem dX9_refusalOfMove_59 : decode cX9_refusalOfMove 59 = .ok (.iadd, 1) := by decide +kernel
theorem dX9_refusalOfMove_60 : decode cX9_refusalOfMove 60 = .ok (.invokestatic 118, 3) := by decide +kernel
theorem dX9_refusalOfMove_63 : decode cX9_refusalOfMove 63 = .ok (.ifCond .eq 21, 3) := by decide +kernel
theorem dX9_refusalOfMove_66 : decode cX9_refusalOfMove 66 = .ok (.aload_n 1, 1) := by decide +kernel
theorem dX9_refusalOfMove_67 : decode cX9_refusalOfMove 67 = .ok (.getfield 35, 3) := by decide +kernel
theorem dX9_refusalOfMove_70 : decode cX9_refusalOfMove 70 = .ok (.iload 6, 2) := by decide +kernel
theorem dX9_refusalOfMove_72 : decode cX9_refusalOfMove 72 = .ok (.iconst 1, 1) := by decide +kernel
theorem dX9_refusalOfMove_73 : decode cX9_refusalOfMove 73 = .ok (.iadd, 1) := by decide +kernel
theorem dX9_refusalOfMove_74 : decode cX9_refusalOfMove 74 = .ok (.iaload, 1) := by decide +kernel
theorem dX9_refusalOfMove_75 : decode cX9_refusalOfMove 75 = .ok (.iload 5, 2) := by decide +kernel
theorem dX9_refusalOfMove_77 : decode cX9_refusalOfMove 77 = .ok (.iadd, 1) := by decide +kernel
theorem dX9_refusalOfMove_78 : decode cX9_refusalOfMove 78 = .ok (.invokestatic 118, 3) := by decide +kernel
theorem dX9_refusalOfMove_81 : decode cX9_refusalOfMove 81 = .ok (.ifCond .ne 5, 3) := by decide +kernel
theorem dX9_refusalOfMove_84 : decode cX9_refusalOfMove 84 = .ok (.iconst 1, 1) := by decide +kernel
theorem dX9_refusalOfMove_85 : decode cX9_refusalOfMove 85 = .ok (.ireturn, 1) := by decide +kernel
theorem dX9_refusalOfMove_86 : decode cX9_refusalOfMove 86 = .ok (.iload 4, 2) := by decide +kernel
theorem dX9_refusalOfMove_88 : decode cX9_refusalOfMove 88 = .ok (.ifCond .ne 10, 3) := by decide +kernel
theorem dX9_refusalOfMove_91 : decode cX9_refusalOfMove 91 = .ok (.iload 5, 2) := by decide +kernel
theorem dX9_refusalOfMove_93 : decode cX9_refusalOfMove 93 = .ok (.ifCond .ne 5, 3) := by decide +kernel
theorem dX9_refusalOfMove_96 : decode cX9_refusalOfMove 96 = .ok (.iconst 2, 1) := by decide +kernel
theorem dX9_refusalOfMove_97 : decode cX9_refusalOfMove 97 = .ok (.ireturn, 1) := by decide +kernel
theorem dX9_refusalOfMove_98 : decode cX9_refusalOfMove 98 = .ok (.aload_n 0, 1) := by decide +kernel
theorem dX9_refusalOfMove_99 : decode cX9_refusalOfMove 99 = .ok (.aload_n 1, 1) := by decide +kernel
theorem dX9_refusalOfMove_100 : decode cX9_refusalOfMove 100 = .ok (.iload_n 2, 1) := by decide +kernel
theorem dX9_refusalOfMove_101 : decode cX9_refusalOfMove 101 = .ok (.invokevirtual 89, 3) := by decide +kernel
theorem dX9_refusalOfMove_104 : decode cX9_refusalOfMove 104 = .ok (.ifCond .le 7, 3) := by decide +kernel
theorem dX9_refusalOfMove_107 : decode cX9_refusalOfMove 107 = .ok (.iconst 3, 1) := by decide +kernel
theorem dX9_refusalOfMove_108 : decode cX9_refusalOfMove 108 = .ok (.goto 4, 3) := by decide +kernel
theorem dX9_refusalOfMove_111 : decode cX9_refusalOfMove 111 = .ok (.iconst (-1), 1) := by decide +kernel
theorem dX9_refusalOfMove_112 : decode cX9_refusalOfMove 112 = .ok (.ireturn, 1) := by decide +kernel
theorem dX9_isMove_0 : decode cX9_isMove 0 = .ok (.iload_n 0, 1) := by decide +kernel
theorem dX9_isMove_1 : decode cX9_isMove 1 = .ok (.bipush (-20), 2) := by decide +kernel
theorem dX9_isMove_3 : decode cX9_isMove 3 = .ok (.if_icmp .lt 13, 3) := by decide +kernel
theorem dX9_isMove_6 : decode cX9_isMove 6 = .ok (.iload_n 0, 1) := by decide +kernel
theorem dX9_isMove_7 : decode cX9_isMove 7 = .ok (.bipush 20, 2) := by decide +kernel
theorem dX9_isMove_9 : decode cX9_isMove 9 = .ok (.if_icmp .gt 7, 3) := by decide +kernel
theorem dX9_isMove_12 : decode cX9_isMove 12 = .ok (.iconst 1, 1) := by decide +kernel
theorem dX9_isMove_13 : decode cX9_isMove 13 = .ok (.goto 4, 3) := by decide +kernel
theorem dX9_isMove_16 : decode cX9_isMove 16 = .ok (.iconst 0, 1) := by decide +kernel
theorem dX9_isMove_17 : decode cX9_isMove 17 = .ok (.ireturn, 1) := by decide +kernel
theorem dX9_carryOut_0 : decode cX9_carryOut 0 = .ok (.iload_n 2, 1) := by decide +kernel
theorem dX9_carryOut_1 : decode cX9_carryOut 1 = .ok (.tableswitch 96 0 8 #[51, 58, 65, 71, 96, 96, 96, 96, 83], 51) := by decide +kernel
theorem dX9_carryOut_52 : decode cX9_carryOut 52 = .ok (.aload_n 0, 1) := by decide +kernel
theorem dX9_carryOut_53 : decode cX9_carryOut 53 = .ok (.aload_n 1, 1) := by decide +kernel
theorem dX9_carryOut_54 : decode cX9_carryOut 54 = .ok (.iload_n 3, 1) := by decide +kernel
theorem dX9_carryOut_55 : decode cX9_carryOut 55 = .ok (.invokevirtual 121, 3) := by decide +kernel
theorem dX9_carryOut_58 : decode cX9_carryOut 58 = .ok (.ireturn, 1) := by decide +kernel
theorem dX9_carryOut_59 : decode cX9_carryOut 59 = .ok (.aload_n 0, 1) := by decide +kernel
theorem dX9_carryOut_60 : decode cX9_carryOut 60 = .ok (.aload_n 1, 1) := by decide +kernel
theorem dX9_carryOut_61 : decode cX9_carryOut 61 = .ok (.iload_n 3, 1) := by decide +kernel
theorem dX9_carryOut_62 : decode cX9_carryOut 62 = .ok (.invokevirtual 124, 3) := by decide +kernel
theorem dX9_carryOut_65 : decode cX9_carryOut 65 = .ok (.ireturn, 1) := by decide +kernel
theorem dX9_carryOut_66 : decode cX9_carryOut 66 = .ok (.aload_n 0, 1) := by decide +kernel
theorem dX9_carryOut_67 : decode cX9_carryOut 67 = .ok (.aload_n 1, 1) := by decide +kernel
theorem dX9_carryOut_68 : decode cX9_carryOut 68 = .ok (.invokevirtual 127, 3) := by decide +kernel
theorem dX9_carryOut_71 : decode cX9_carryOut 71 = .ok (.ireturn, 1) := by decide +kernel
theorem dX9_carryOut_72 : decode cX9_carryOut 72 = .ok (.aload_n 1, 1) := by decide +kernel
theorem dX9_carryOut_73 : decode cX9_carryOut 73 = .ok (.aload_n 0, 1) := by decide +kernel
theorem dX9_carryOut_74 : decode cX9_carryOut 74 = .ok (.getfield 9, 3) := by decide +kernel
theorem dX9_carryOut_77 : decode cX9_carryOut 77 = .ok (.getfield 131, 3) := by decide +kernel
theorem dX9_carryOut_80 : decode cX9_carryOut 80 = .ok (.invokevirtual 134, 3) := by decide +kernel
theorem dX9_carryOut_83 : decode cX9_carryOut 83 = .ok (.ireturn, 1) := by decide +kernel
theorem dX9_carryOut_84 : decode cX9_carryOut 84 = .ok (.aload_n 0, 1) := by decide +kernel
theorem dX9_carryOut_85 : decode cX9_carryOut 85 = .ok (.aload_n 1, 1) := by decide +kernel
theorem dX9_carryOut_86 : decode cX9_carryOut 86 = .ok (.iload_n 3, 1) := by decide +kernel
theorem dX9_carryOut_87 : decode cX9_carryOut 87 = .ok (.iload 4, 2) := by decide +kernel
theorem dX9_carryOut_89 : decode cX9_carryOut 89 = .ok (.iload 5, 2) := by decide +kernel
theorem dX9_carryOut_91 : decode cX9_carryOut 91 = .ok (.iload 6, 2) := by decide +kernel
theorem dX9_carryOut_93 : decode cX9_carryOut 93 = .ok (.invokevirtual 138, 3) := by decide +kernel
theorem dX9_carryOut_96 : decode cX9_carryOut 96 = .ok (.ireturn, 1) := by decide +kernel
theorem dX9_carryOut_97 : decode cX9_carryOut 97 = .ok (.aload_n 0, 1) := by decide +kernel
theorem dX9_carryOut_98 : decode cX9_carryOut 98 = .ok (.aload_n 1, 1) := by decide +kernel
theorem dX9_carryOut_99 : decode cX9_carryOut 99 = .ok (.iload_n 2, 1) := by decide +kernel
theorem dX9_carryOut_100 : decode cX9_carryOut 100 = .ok (.iconst 4, 1) := by decide +kernel
theorem dX9_carryOut_101 : decode cX9_carryOut 101 = .ok (.isub, 1) := by decide +kernel
theorem dX9_carryOut_102 : decode cX9_carryOut 102 = .ok (.iload_n 3, 1) := by decide +kernel
theorem dX9_carryOut_103 : decode cX9_carryOut 103 = .ok (.invokevirtual 141, 3) := by decide +kernel
theorem dX9_carryOut_106 : decode cX9_carryOut 106 = .ok (.ireturn, 1) := by decide +kernel
theorem dX9_changeRule_0 : decode cX9_changeRule 0 = .ok (.iload_n 2, 1) := by decide +kernel
theorem dX9_changeRule_1 : decode cX9_changeRule 1 = .ok (.ifCond .lt 8, 3) := by decide +kernel
theorem dX9_changeRule_4 : decode cX9_changeRule 4 = .ok (.iload_n 2, 1) := by decide +kernel
theorem dX9_changeRule_5 : decode cX9_changeRule 5 = .ok (.iconst 4, 1) := by decide +kernel
theorem dX9_changeRule_6 : decode cX9_changeRule 6 = .ok (.if_icmp .lt 5, 3) := by decide +kernel
theorem dX9_changeRule_9 : decode cX9_changeRule 9 = .ok (.iconst (-1), 1) := by decide +kernel
theorem dX9_changeRule_10 : decode cX9_changeRule 10 = .ok (.ireturn, 1) := by decide +kernel
theorem dX9_changeRule_11 : decode cX9_changeRule 11 = .ok (.aload_n 1, 1) := by decide +kernel
theorem dX9_changeRule_12 : decode cX9_changeRule 12 = .ok (.getfield 48, 3) := by decide +kernel
theorem dX9_changeRule_15 : decode cX9_changeRule 15 = .ok (.iload_n 2, 1) := by decide +kernel
theorem dX9_changeRule_16 : decode cX9_changeRule 16 = .ok (.iaload, 1) := by decide +kernel
theorem dX9_changeRule_17 : decode cX9_changeRule 17 = .ok (.istore 4, 2) := by decide +kernel
theorem dX9_changeRule_19 : decode cX9_changeRule 19 = .ok (.aload_n 1, 1) := by decide +kernel
theorem dX9_changeRule_20 : decode cX9_changeRule 20 = .ok (.getfield 48, 3) := by decide +kernel
theorem dX9_changeRule_23 : decode cX9_changeRule 23 = .ok (.iload_n 2, 1) := by decide +kernel
theorem dX9_changeRule_24 : decode cX9_changeRule 24 = .ok (.iload_n 3, 1) := by decide +kernel
theorem dX9_changeRule_25 : decode cX9_changeRule 25 = .ok (.iastore, 1) := by decide +kernel
theorem dX9_changeRule_26 : decode cX9_changeRule 26 = .ok (.iload 4, 2) := by decide +kernel
theorem dX9_changeRule_28 : decode cX9_changeRule 28 = .ok (.ireturn, 1) := by decide +kernel
theorem dX9_moveCorner_0 : decode cX9_moveCorner 0 = .ok (.aload_n 0, 1) := by decide +kernel
theorem dX9_moveCorner_1 : decode cX9_moveCorner 1 = .ok (.getfield 9, 3) := by decide +kernel
theorem dX9_moveCorner_4 : decode cX9_moveCorner 4 = .ok (.iload_n 2, 1) := by decide +kernel
theorem dX9_moveCorner_5 : decode cX9_moveCorner 5 = .ok (.invokevirtual 95, 3) := by decide +kernel
theorem dX9_moveCorner_8 : decode cX9_moveCorner 8 = .ok (.ifCond .eq 12, 3) := by decide +kernel
theorem dX9_moveCorner_11 : decode cX9_moveCorner 11 = .ok (.iload_n 3, 1) := by decide +kernel
theorem dX9_moveCorner_12 : decode cX9_moveCorner 12 = .ok (.ifCond .lt 8, 3) := by decide +kernel
theorem dX9_moveCorner_15 : decode cX9_moveCorner 15 = .ok (.iload_n 3, 1) := by decide +kernel
theorem dX9_moveCorner_16 : decode cX9_moveCorner 16 = .ok (.iconst 2, 1) := by decide +kernel
theorem dX9_moveCorner_17 : decode cX9_moveCorner 17 = .ok (.if_icmp .le 6, 3) := by decide +kernel
theorem dX9_moveCorner_20 : decode cX9_moveCorner 20 = .ok (.ldc 144, 2) := by decide +kernel
theorem dX9_moveCorner_22 : decode cX9_moveCorner 22 = .ok (.ireturn, 1) := by decide +kernel
theorem dX9_moveCorner_23 : decode cX9_moveCorner 23 = .ok (.aload_n 1, 1) := by decide +kernel
theorem dX9_moveCorner_24 : decode cX9_moveCorner 24 = .ok (.getfield 35, 3) := by decide +kernel
theorem dX9_moveCorner_27 : decode cX9_moveCorner 27 = .ok (.iload_n 2, 1) := by decide +kernel
theorem dX9_moveCorner_28 : decode cX9_moveCorner 28 = .ok (.bipush 6, 2) := by decide +kernel
theorem dX9_moveCorner_30 : decode cX9_moveCorner 30 = .ok (.imul, 1) := by decide +kernel
theorem dX9_moveCorner_31 : decode cX9_moveCorner 31 = .ok (.iload_n 3, 1) := by decide +kernel
theorem dX9_moveCorner_32 : decode cX9_moveCorner 32 = .ok (.iconst 2, 1) := by decide +kernel
theorem dX9_moveCorner_33 : decode cX9_moveCorner 33 = .ok (.imul, 1) := by decide +kernel
theorem dX9_moveCorner_34 : decode cX9_moveCorner 34 = .ok (.iadd, 1) := by decide +kernel
theorem dX9_moveCorner_35 : decode cX9_moveCorner 35 = .ok (.dup2, 1) := by decide +kernel
theorem dX9_moveCorner_36 : decode cX9_moveCorner 36 = .ok (.iaload, 1) := by decide +kernel
theorem dX9_moveCorner_37 : decode cX9_moveCorner 37 = .ok (.iload 4, 2) := by decide +kernel
theorem dX9_moveCorner_39 : decode cX9_moveCorner 39 = .ok (.iadd, 1) := by decide +kernel
theorem dX9_moveCorner_40 : decode cX9_moveCorner 40 = .ok (.iastore, 1) := by decide +kernel
theorem dX9_moveCorner_41 : decode cX9_moveCorner 41 = .ok (.aload_n 1, 1) := by decide +kernel
theorem dX9_moveCorner_42 : decode cX9_moveCorner 42 = .ok (.getfield 35, 3) := by decide +kernel
theorem dX9_moveCorner_45 : decode cX9_moveCorner 45 = .ok (.iload_n 2, 1) := by decide +kernel
theorem dX9_moveCorner_46 : decode cX9_moveCorner 46 = .ok (.bipush 6, 2) := by decide +kernel
theorem dX9_moveCorner_48 : decode cX9_moveCorner 48 = .ok (.imul, 1) := by decide +kernel
theorem dX9_moveCorner_49 : decode cX9_moveCorner 49 = .ok (.iload_n 3, 1) := by decide +kernel
theorem dX9_moveCorner_50 : decode cX9_moveCorner 50 = .ok (.iconst 2, 1) := by decide +kernel
theorem dX9_moveCorner_51 : decode cX9_moveCorner 51 = .ok (.imul, 1) := by decide +kernel
theorem dX9_moveCorner_52 : decode cX9_moveCorner 52 = .ok (.iadd, 1) := by decide +kernel
theorem dX9_moveCorner_53 : decode cX9_moveCorner 53 = .ok (.iconst 1, 1) := by decide +kernel
theorem dX9_moveCorner_54 : decode cX9_moveCorner 54 = .ok (.iadd, 1) := by decide +kernel
theorem dX9_moveCorner_55 : decode cX9_moveCorner 55 = .ok (.dup2, 1) := by decide +kernel
theorem dX9_moveCorner_56 : decode cX9_moveCorner 56 = .ok (.iaload, 1) := by decide +kernel
theorem dX9_moveCorner_57 : decode cX9_moveCorner 57 = .ok (.iload 5, 2) := by decide +kernel
theorem dX9_moveCorner_59 : decode cX9_moveCorner 59 = .ok (.iadd, 1) := by decide +kernel
theorem dX9_moveCorner_60 : decode cX9_moveCorner 60 = .ok (.iastore, 1) := by decide +kernel
theorem dX9_moveCorner_61 : decode cX9_moveCorner 61 = .ok (.aload_n 0, 1) := by decide +kernel
theorem dX9_moveCorner_62 : decode cX9_moveCorner 62 = .ok (.getfield 21, 3) := by decide +kernel
theorem dX9_moveCorner_65 : decode cX9_moveCorner 65 = .ok (.iload_n 2, 1) := by decide +kernel
theorem dX9_moveCorner_66 : decode cX9_moveCorner 66 = .ok (.aaload, 1) := by decide +kernel
theorem dX9_moveCorner_67 : decode cX9_moveCorner 67 = .ok (.aload_n 0, 1) := by decide +kernel
theorem dX9_moveCorner_68 : decode cX9_moveCorner 68 = .ok (.getfield 9, 3) := by decide +kernel
theorem dX9_moveCorner_71 : decode cX9_moveCorner 71 = .ok (.aload_n 0, 1) := by decide +kernel
theorem dX9_moveCorner_72 : decode cX9_moveCorner 72 = .ok (.getfield 15, 3) := by decide +kernel
theorem dX9_moveCorner_75 : decode cX9_moveCorner 75 = .ok (.iload_n 2, 1) := by decide +kernel
theorem dX9_moveCorner_76 : decode cX9_moveCorner 76 = .ok (.aload_n 1, 1) := by decide +kernel
theorem dX9_moveCorner_77 : decode cX9_moveCorner 77 = .ok (.getfield 35, 3) := by decide +kernel
theorem dX9_moveCorner_80 : decode cX9_moveCorner 80 = .ok (.invokevirtual 41, 3) := by decide +kernel
theorem dX9_moveCorner_83 : decode cX9_moveCorner 83 = .ok (.aload_n 0, 1) := by decide +kernel
theorem dX9_moveCorner_84 : decode cX9_moveCorner 84 = .ok (.getfield 21, 3) := by decide +kernel
theorem dX9_moveCorner_87 : decode cX9_moveCorner 87 = .ok (.iload_n 2, 1) := by decide +kernel
theorem dX9_moveCorner_88 : decode cX9_moveCorner 88 = .ok (.aaload, 1) := by decide +kernel
theorem dX9_moveCorner_89 : decode cX9_moveCorner 89 = .ok (.getfield 45, 3) := by decide +kernel
theorem dX9_moveCorner_92 : decode cX9_moveCorner 92 = .ok (.ireturn, 1) := by decide +kernel
theorem dX9_drawOne_0 : decode cX9_drawOne 0 = .ok (.aload_n 0, 1) := by decide +kernel
theorem dX9_drawOne_1 : decode cX9_drawOne 1 = .ok (.getfield 9, 3) := by decide +kernel
theorem dX9_drawOne_4 : decode cX9_drawOne 4 = .ok (.iload_n 2, 1) := by decide +kernel
theorem dX9_drawOne_5 : decode cX9_drawOne 5 = .ok (.invokevirtual 95, 3) := by decide +kernel
theorem dX9_drawOne_8 : decode cX9_drawOne 8 = .ok (.ifCond .eq 12, 3) := by decide +kernel
theorem dX9_drawOne_11 : decode cX9_drawOne 11 = .ok (.aload_n 0, 1) := by decide +kernel
theorem dX9_drawOne_12 : decode cX9_drawOne 12 = .ok (.aload_n 1, 1) := by decide +kernel
theorem dX9_drawOne_13 : decode cX9_drawOne 13 = .ok (.iload_n 2, 1) := by decide +kernel
theorem dX9_drawOne_14 : decode cX9_drawOne 14 = .ok (.invokevirtual 61, 3) := by decide +kernel
theorem dX9_drawOne_17 : decode cX9_drawOne 17 = .ok (.goto 4, 3) := by decide +kernel
theorem dX9_drawOne_20 : decode cX9_drawOne 20 = .ok (.iconst 0, 1) := by decide +kernel
theorem dX9_drawOne_21 : decode cX9_drawOne 21 = .ok (.istore_n 3, 1) := by decide +kernel
theorem dX9_drawOne_22 : decode cX9_drawOne 22 = .ok (.iconst 0, 1) := by decide +kernel
theorem dX9_drawOne_23 : decode cX9_drawOne 23 = .ok (.istore 4, 2) := by decide +kernel
theorem dX9_drawOne_25 : decode cX9_drawOne 25 = .ok (.iconst 0, 1) := by decide +kernel
theorem dX9_drawOne_26 : decode cX9_drawOne 26 = .ok (.istore 5, 2) := by decide +kernel
theorem dX9_drawOne_28 : decode cX9_drawOne 28 = .ok (.iload 5, 2) := by decide +kernel
theorem dX9_drawOne_30 : decode cX9_drawOne 30 = .ok (.aload_n 0, 1) := by decide +kernel
theorem dX9_drawOne_31 : decode cX9_drawOne 31 = .ok (.getfield 15, 3) := by decide +kernel
theorem dX9_drawOne_34 : decode cX9_drawOne 34 = .ok (.getfield 65, 3) := by decide +kernel
theorem dX9_drawOne_37 : decode cX9_drawOne 37 = .ok (.if_icmp .ge 90, 3) := by decide +kernel
theorem dX9_drawOne_40 : decode cX9_drawOne 40 = .ok (.iload_n 3, 1) := by decide +kernel
theorem dX9_drawOne_41 : decode cX9_drawOne 41 = .ok (.iload 5, 2) := by decide +kernel
theorem dX9_drawOne_43 : decode cX9_drawOne 43 = .ok (.ishr, 1) := by decide +kernel
theorem dX9_drawOne_44 : decode cX9_drawOne 44 = .ok (.iconst 1, 1) := by decide +kernel
theorem dX9_drawOne_45 : decode cX9_drawOne 45 = .ok (.iand, 1) := by decide +kernel
theorem dX9_drawOne_46 : decode cX9_drawOne 46 = .ok (.ifCond .ne 6, 3) := by decide +kernel
theorem dX9_drawOne_49 : decode cX9_drawOne 49 = .ok (.goto 72, 3) := by decide +kernel
theorem dX9_drawOne_52 : decode cX9_drawOne 52 = .ok (.aload_n 1, 1) := by decide +kernel
theorem dX9_drawOne_53 : decode cX9_drawOne 53 = .ok (.getfield 83, 3) := by decide +kernel
theorem dX9_drawOne_56 : decode cX9_drawOne 56 = .ok (.iload 5, 2) := by decide +kernel
theorem dX9_drawOne_58 : decode cX9_drawOne 58 = .ok (.iaload, 1) := by decide +kernel
theorem dX9_drawOne_59 : decode cX9_drawOne 59 = .ok (.aload_n 1, 1) := by decide +kernel
theorem dX9_drawOne_60 : decode cX9_drawOne 60 = .ok (.getfield 48, 3) := by decide +kernel
theorem dX9_drawOne_63 : decode cX9_drawOne 63 = .ok (.iconst 3, 1) := by decide +kernel
theorem dX9_drawOne_64 : decode cX9_drawOne 64 = .ok (.iaload, 1) := by decide +kernel
theorem dX9_drawOne_65 : decode cX9_drawOne 65 = .ok (.if_icmp .ge 15, 3) := by decide +kernel
theorem dX9_drawOne_68 : decode cX9_drawOne 68 = .ok (.aload_n 1, 1) := by decide +kernel
theorem dX9_drawOne_69 : decode cX9_drawOne 69 = .ok (.getfield 83, 3) := by decide +kernel
theorem dX9_drawOne_72 : decode cX9_drawOne 72 = .ok (.iload 5, 2) := by decide +kernel
theorem dX9_drawOne_74 : decode cX9_drawOne 74 = .ok (.iaload, 1) := by decide +kernel
theorem dX9_drawOne_75 : decode cX9_drawOne 75 = .ok (.bipush 10, 2) := by decide +kernel
theorem dX9_drawOne_77 : decode cX9_drawOne 77 = .ok (.if_icmp .lt 11, 3) := by decide +kernel
theorem dX9_drawOne_80 : decode cX9_drawOne 80 = .ok (.aload_n 0, 1) := by decide +kernel
theorem dX9_drawOne_81 : decode cX9_drawOne 81 = .ok (.aload_n 1, 1) := by decide +kernel
theorem dX9_drawOne_82 : decode cX9_drawOne 82 = .ok (.iload 5, 2) := by decide +kernel
theorem dX9_drawOne_84 : decode cX9_drawOne 84 = .ok (.invokevirtual 124, 3) := by decide +kernel
theorem dX9_drawOne_87 : decode cX9_drawOne 87 = .ok (.pop, 1) := by decide +kernel
theorem dX9_drawOne_88 : decode cX9_drawOne 88 = .ok (.aload_n 1, 1) := by decide +kernel
theorem dX9_drawOne_89 : decode cX9_drawOne 89 = .ok (.getfield 86, 3) := by decide +kernel
theorem dX9_drawOne_92 : decode cX9_drawOne 92 = .ok (.iload 5, 2) := by decide +kernel
theorem dX9_drawOne_94 : decode cX9_drawOne 94 = .ok (.bipush 10, 2) := by decide +kernel
theorem dX9_drawOne_96 : decode cX9_drawOne 96 = .ok (.imul, 1) := by decide +kernel
theorem dX9_drawOne_97 : decode cX9_drawOne 97 = .ok (.aload_n 1, 1) := by decide +kernel
theorem dX9_drawOne_98 : decode cX9_drawOne 98 = .ok (.getfield 83, 3) := by decide +kernel
theorem dX9_drawOne_101 : decode cX9_drawOne 101 = .ok (.iload 5, 2) := by decide +kernel
theorem dX9_drawOne_103 : decode cX9_drawOne 103 = .ok (.iaload, 1) := by decide +kernel
theorem dX9_drawOne_104 : decode cX9_drawOne 104 = .ok (.iadd, 1) := by decide +kernel
theorem dX9_drawOne_105 : decode cX9_drawOne 105 = .ok (.iload_n 2, 1) := by decide +kernel
theorem dX9_drawOne_106 : decode cX9_drawOne 106 = .ok (.iastore, 1) := by decide +kernel
theorem dX9_drawOne_107 : decode cX9_drawOne 107 = .ok (.aload_n 1, 1) := by decide +kernel
theorem dX9_drawOne_108 : decode cX9_drawOne 108 = .ok (.getfield 83, 3) := by decide +kernel
theorem dX9_drawOne_111 : decode cX9_drawOne 111 = .ok (.iload 5, 2) := by decide +kernel
theorem dX9_drawOne_113 : decode cX9_drawOne 113 = .ok (.dup2, 1) := by decide +kernel
theorem dX9_drawOne_114 : decode cX9_drawOne 114 = .ok (.iaload, 1) := by decide +kernel
theorem dX9_drawOne_115 : decode cX9_drawOne 115 = .ok (.iconst 1, 1) := by decide +kernel
theorem dX9_drawOne_116 : decode cX9_drawOne 116 = .ok (.iadd, 1) := by decide +kernel
theorem dX9_drawOne_117 : decode cX9_drawOne 117 = .ok (.iastore, 1) := by decide +kernel
theorem dX9_drawOne_118 : decode cX9_drawOne 118 = .ok (.iinc 4 1, 3) := by decide +kernel
theorem dX9_drawOne_121 : decode cX9_drawOne 121 = .ok (.iinc 5 1, 3) := by decide +kernel
theorem dX9_drawOne_124 : decode cX9_drawOne 124 = .ok (.goto (-96), 3) := by decide +kernel
theorem dX9_drawOne_127 : decode cX9_drawOne 127 = .ok (.iload 4, 2) := by decide +kernel
theorem dX9_drawOne_129 : decode cX9_drawOne 129 = .ok (.ireturn, 1) := by decide +kernel
theorem dX9_flushAll_0 : decode cX9_flushAll 0 = .ok (.iconst 0, 1) := by decide +kernel
theorem dX9_flushAll_1 : decode cX9_flushAll 1 = .ok (.istore_n 2, 1) := by decide +kernel
theorem dX9_flushAll_2 : decode cX9_flushAll 2 = .ok (.iconst 0, 1) := by decide +kernel
theorem dX9_flushAll_3 : decode cX9_flushAll 3 = .ok (.istore_n 3, 1) := by decide +kernel
theorem dX9_flushAll_4 : decode cX9_flushAll 4 = .ok (.iload_n 3, 1) := by decide +kernel
theorem dX9_flushAll_5 : decode cX9_flushAll 5 = .ok (.aload_n 0, 1) := by decide +kernel
theorem dX9_flushAll_6 : decode cX9_flushAll 6 = .ok (.getfield 15, 3) := by decide +kernel
theorem dX9_flushAll_9 : decode cX9_flushAll 9 = .ok (.getfield 65, 3) := by decide +kernel
theorem dX9_flushAll_12 : decode cX9_flushAll 12 = .ok (.if_icmp .ge 21, 3) := by decide +kernel
theorem dX9_flushAll_15 : decode cX9_flushAll 15 = .ok (.aload_n 0, 1) := by decide +kernel
theorem dX9_flushAll_16 : decode cX9_flushAll 16 = .ok (.aload_n 1, 1) := by decide +kernel
theorem dX9_flushAll_17 : decode cX9_flushAll 17 = .ok (.iload_n 3, 1) := by decide +kernel
theorem dX9_flushAll_18 : decode cX9_flushAll 18 = .ok (.invokevirtual 124, 3) := by decide +kernel
theorem dX9_flushAll_21 : decode cX9_flushAll 21 = .ok (.ifCond .le 6, 3) := by decide +kernel
theorem dX9_flushAll_24 : decode cX9_flushAll 24 = .ok (.iinc 2 1, 3) := by decide +kernel
theorem dX9_flushAll_27 : decode cX9_flushAll 27 = .ok (.iinc 3 1, 3) := by decide +kernel
theorem dX9_flushAll_30 : decode cX9_flushAll 30 = .ok (.goto (-26), 3) := by decide +kernel
theorem dX9_flushAll_33 : decode cX9_flushAll 33 = .ok (.iload_n 2, 1) := by decide +kernel
theorem dX9_flushAll_34 : decode cX9_flushAll 34 = .ok (.ireturn, 1) := by decide +kernel
theorem dX9_flushTile_0 : decode cX9_flushTile 0 = .ok (.aload_n 0, 1) := by decide +kernel
theorem dX9_flushTile_1 : decode cX9_flushTile 1 = .ok (.getfield 15, 3) := by decide +kernel
theorem dX9_flushTile_4 : decode cX9_flushTile 4 = .ok (.iload_n 2, 1) := by decide +kernel
theorem dX9_flushTile_5 : decode cX9_flushTile 5 = .ok (.invokevirtual 99, 3) := by decide +kernel
theorem dX9_flushTile_8 : decode cX9_flushTile 8 = .ok (.ifCond .ne 5, 3) := by decide +kernel
theorem dX9_flushTile_11 : decode cX9_flushTile 11 = .ok (.iconst 0, 1) := by decide +kernel
theorem dX9_flushTile_12 : decode cX9_flushTile 12 = .ok (.ireturn, 1) := by decide +kernel
theorem dX9_flushTile_13 : decode cX9_flushTile 13 = .ok (.aload_n 1, 1) := by decide +kernel
theorem dX9_flushTile_14 : decode cX9_flushTile 14 = .ok (.getfield 83, 3) := by decide +kernel
theorem dX9_flushTile_17 : decode cX9_flushTile 17 = .ok (.iload_n 2, 1) := by decide +kernel
theorem dX9_flushTile_18 : decode cX9_flushTile 18 = .ok (.iaload, 1) := by decide +kernel
theorem dX9_flushTile_19 : decode cX9_flushTile 19 = .ok (.bipush 10, 2) := by decide +kernel
theorem dX9_flushTile_21 : decode cX9_flushTile 21 = .ok (.invokestatic 145, 3) := by decide +kernel
theorem dX9_flushTile_24 : decode cX9_flushTile 24 = .ok (.istore_n 3, 1) := by decide +kernel
theorem dX9_flushTile_25 : decode cX9_flushTile 25 = .ok (.iconst 0, 1) := by decide +kernel
theorem dX9_flushTile_26 : decode cX9_flushTile 26 = .ok (.istore 4, 2) := by decide +kernel
theorem dX9_flushTile_28 : decode cX9_flushTile 28 = .ok (.iload 4, 2) := by decide +kernel
theorem dX9_flushTile_30 : decode cX9_flushTile 30 = .ok (.iload_n 3, 1) := by decide +kernel
theorem dX9_flushTile_31 : decode cX9_flushTile 31 = .ok (.if_icmp .ge 80, 3) := by decide +kernel
theorem dX9_flushTile_34 : decode cX9_flushTile 34 = .ok (.aload_n 1, 1) := by decide +kernel
theorem dX9_flushTile_35 : decode cX9_flushTile 35 = .ok (.getfield 86, 3) := by decide +kernel
theorem dX9_flushTile_38 : decode cX9_flushTile 38 = .ok (.iload_n 2, 1) := by decide +kernel
theorem dX9_flushTile_39 : decode cX9_flushTile 39 = .ok (.bipush 10, 2) := by decide +kernel
theorem dX9_flushTile_41 : decode cX9_flushTile 41 = .ok (.imul, 1) := by decide +kernel
theorem dX9_flushTile_42 : decode cX9_flushTile 42 = .ok (.iload 4, 2) := by decide +kernel
theorem dX9_flushTile_44 : decode cX9_flushTile 44 = .ok (.iadd, 1) := by decide +kernel
theorem dX9_flushTile_45 : decode cX9_flushTile 45 = .ok (.iaload, 1) := by decide +kernel
theorem dX9_flushTile_46 : decode cX9_flushTile 46 = .ok (.istore 5, 2) := by decide +kernel
theorem dX9_flushTile_48 : decode cX9_flushTile 48 = .ok (.aload_n 0, 1) := by decide +kernel
theorem dX9_flushTile_49 : decode cX9_flushTile 49 = .ok (.getfield 9, 3) := by decide +kernel
theorem dX9_flushTile_52 : decode cX9_flushTile 52 = .ok (.iload 5, 2) := by decide +kernel
theorem dX9_flushTile_54 : decode cX9_flushTile 54 = .ok (.invokevirtual 95, 3) := by decide +kernel
theorem dX9_flushTile_57 : decode cX9_flushTile 57 = .ok (.ifCond .ne 6, 3) := by decide +kernel
theorem dX9_flushTile_60 : decode cX9_flushTile 60 = .ok (.goto 45, 3) := by decide +kernel
theorem dX9_flushTile_63 : decode cX9_flushTile 63 = .ok (.aload_n 0, 1) := by decide +kernel
theorem dX9_flushTile_64 : decode cX9_flushTile 64 = .ok (.aload_n 1, 1) := by decide +kernel
theorem dX9_flushTile_65 : decode cX9_flushTile 65 = .ok (.iload 5, 2) := by decide +kernel
theorem dX9_flushTile_67 : decode cX9_flushTile 67 = .ok (.iload_n 2, 1) := by decide +kernel
theorem dX9_flushTile_68 : decode cX9_flushTile 68 = .ok (.invokevirtual 151, 3) := by decide +kernel
theorem dX9_flushTile_71 : decode cX9_flushTile 71 = .ok (.ifCond .eq 16, 3) := by decide +kernel
theorem dX9_flushTile_74 : decode cX9_flushTile 74 = .ok (.aload_n 1, 1) := by decide +kernel
theorem dX9_flushTile_75 : decode cX9_flushTile 75 = .ok (.dup, 1) := by decide +kernel
theorem dX9_flushTile_76 : decode cX9_flushTile 76 = .ok (.getfield 155, 3) := by decide +kernel
theorem dX9_flushTile_79 : decode cX9_flushTile 79 = .ok (.iconst 1, 1) := by decide +kernel
theorem dX9_flushTile_80 : decode cX9_flushTile 80 = .ok (.iadd, 1) := by decide +kernel
theorem dX9_flushTile_81 : decode cX9_flushTile 81 = .ok (.putfield 155, 3) := by decide +kernel
theorem dX9_flushTile_84 : decode cX9_flushTile 84 = .ok (.goto 21, 3) := by decide +kernel
theorem dX9_flushTile_87 : decode cX9_flushTile 87 = .ok (.aload_n 0, 1) := by decide +kernel
theorem dX9_flushTile_88 : decode cX9_flushTile 88 = .ok (.aload_n 1, 1) := by decide +kernel
theorem dX9_flushTile_89 : decode cX9_flushTile 89 = .ok (.iload 5, 2) := by decide +kernel
theorem dX9_flushTile_91 : decode cX9_flushTile 91 = .ok (.invokevirtual 51, 3) := by decide +kernel
theorem dX9_flushTile_94 : decode cX9_flushTile 94 = .ok (.ifCond .ne 11, 3) := by decide +kernel
theorem dX9_flushTile_97 : decode cX9_flushTile 97 = .ok (.aload_n 0, 1) := by decide +kernel
theorem dX9_flushTile_98 : decode cX9_flushTile 98 = .ok (.aload_n 1, 1) := by decide +kernel
theorem dX9_flushTile_99 : decode cX9_flushTile 99 = .ok (.iload 5, 2) := by decide +kernel
theorem dX9_flushTile_101 : decode cX9_flushTile 101 = .ok (.iload_n 2, 1) := by decide +kernel
theorem dX9_flushTile_102 : decode cX9_flushTile 102 = .ok (.invokevirtual 158, 3) := by decide +kernel
theorem dX9_flushTile_105 : decode cX9_flushTile 105 = .ok (.iinc 4 1, 3) := by decide +kernel
theorem dX9_flushTile_108 : decode cX9_flushTile 108 = .ok (.goto (-80), 3) := by decide +kernel
theorem dX9_flushTile_111 : decode cX9_flushTile 111 = .ok (.aload_n 1, 1) := by decide +kernel
theorem dX9_flushTile_112 : decode cX9_flushTile 112 = .ok (.getfield 83, 3) := by decide +kernel
theorem dX9_flushTile_115 : decode cX9_flushTile 115 = .ok (.iload_n 2, 1) := by decide +kernel
theorem dX9_flushTile_116 : decode cX9_flushTile 116 = .ok (.iconst 0, 1) := by decide +kernel
theorem dX9_flushTile_117 : decode cX9_flushTile 117 = .ok (.iastore, 1) := by decide +kernel
theorem dX9_flushTile_118 : decode cX9_flushTile 118 = .ok (.aload_n 0, 1) := by decide +kernel
theorem dX9_flushTile_119 : decode cX9_flushTile 119 = .ok (.getfield 15, 3) := by decide +kernel
theorem dX9_flushTile_122 : decode cX9_flushTile 122 = .ok (.getfield 70, 3) := by decide +kernel
theorem dX9_flushTile_125 : decode cX9_flushTile 125 = .ok (.iload_n 2, 1) := by decide +kernel
theorem dX9_flushTile_126 : decode cX9_flushTile 126 = .ok (.iaload, 1) := by decide +kernel
theorem dX9_flushTile_127 : decode cX9_flushTile 127 = .ok (.istore 4, 2) := by decide +kernel
theorem dX9_flushTile_129 : decode cX9_flushTile 129 = .ok (.iload 4, 2) := by decide +kernel
theorem dX9_flushTile_131 : decode cX9_flushTile 131 = .ok (.aload_n 0, 1) := by decide +kernel
theorem dX9_flushTile_132 : decode cX9_flushTile 132 = .ok (.getfield 15, 3) := by decide +kernel
theorem dX9_flushTile_135 : decode cX9_flushTile 135 = .ok (.getfield 70, 3) := by decide +kernel
theorem dX9_flushTile_138 : decode cX9_flushTile 138 = .ok (.iload_n 2, 1) := by decide +kernel
theorem dX9_flushTile_139 : decode cX9_flushTile 139 = .ok (.iconst 1, 1) := by decide +kernel
theorem dX9_flushTile_140 : decode cX9_flushTile 140 = .ok (.iadd, 1) := by decide +kernel
theorem dX9_flushTile_141 : decode cX9_flushTile 141 = .ok (.iaload, 1) := by decide +kernel
theorem dX9_flushTile_142 : decode cX9_flushTile 142 = .ok (.if_icmp .ge 24, 3) := by decide +kernel
theorem dX9_flushTile_145 : decode cX9_flushTile 145 = .ok (.aload_n 0, 1) := by decide +kernel
theorem dX9_flushTile_146 : decode cX9_flushTile 146 = .ok (.aload_n 1, 1) := by decide +kernel
theorem dX9_flushTile_147 : decode cX9_flushTile 147 = .ok (.aload_n 0, 1) := by decide +kernel
theorem dX9_flushTile_148 : decode cX9_flushTile 148 = .ok (.getfield 15, 3) := by decide +kernel
theorem dX9_flushTile_151 : decode cX9_flushTile 151 = .ok (.getfield 73, 3) := by decide +kernel
theorem dX9_flushTile_154 : decode cX9_flushTile 154 = .ok (.iload 4, 2) := by decide +kernel
theorem dX9_flushTile_156 : decode cX9_flushTile 156 = .ok (.iaload, 1) := by decide +kernel
theorem dX9_flushTile_157 : decode cX9_flushTile 157 = .ok (.invokevirtual 162, 3) := by decide +kernel
theorem dX9_flushTile_160 : decode cX9_flushTile 160 = .ok (.iinc 4 1, 3) := by decide +kernel
theorem dX9_flushTile_163 : decode cX9_flushTile 163 = .ok (.goto (-34), 3) := by decide +kernel
theorem dX9_flushTile_166 : decode cX9_flushTile 166 = .ok (.iload_n 3, 1) := by decide +kernel
theorem dX9_flushTile_167 : decode cX9_flushTile 167 = .ok (.ifCond .le 13, 3) := by decide +kernel
theorem dX9_flushTile_170 : decode cX9_flushTile 170 = .ok (.aload_n 1, 1) := by decide +kernel
theorem dX9_flushTile_171 : decode cX9_flushTile 171 = .ok (.dup, 1) := by decide +kernel
theorem dX9_flushTile_172 : decode cX9_flushTile 172 = .ok (.getfield 166, 3) := by decide +kernel
theorem dX9_flushTile_175 : decode cX9_flushTile 175 = .ok (.iconst 1, 1) := by decide +kernel
theorem dX9_flushTile_176 : decode cX9_flushTile 176 = .ok (.iadd, 1) := by decide +kernel
theorem dX9_flushTile_177 : decode cX9_flushTile 177 = .ok (.putfield 166, 3) := by decide +kernel
theorem dX9_flushTile_180 : decode cX9_flushTile 180 = .ok (.iload_n 3, 1) := by decide +kernel
theorem dX9_flushTile_181 : decode cX9_flushTile 181 = .ok (.ireturn, 1) := by decide +kernel
theorem dX9_isBehind_0 : decode cX9_isBehind 0 = .ok (.aload_n 0, 1) := by decide +kernel
theorem dX9_isBehind_1 : decode cX9_isBehind 1 = .ok (.getfield 21, 3) := by decide +kernel
theorem dX9_isBehind_4 : decode cX9_isBehind 4 = .ok (.iload_n 2, 1) := by decide +kernel
theorem dX9_isBehind_5 : decode cX9_isBehind 5 = .ok (.aaload, 1) := by decide +kernel
theorem dX9_isBehind_6 : decode cX9_isBehind 6 = .ok (.getfield 169, 3) := by decide +kernel
theorem dX9_isBehind_9 : decode cX9_isBehind 9 = .ok (.aload_n 0, 1) := by decide +kernel
theorem dX9_isBehind_10 : decode cX9_isBehind 10 = .ok (.getfield 15, 3) := by decide +kernel
theorem dX9_isBehind_13 : decode cX9_isBehind 13 = .ok (.aload_n 1, 1) := by decide +kernel
theorem dX9_isBehind_14 : decode cX9_isBehind 14 = .ok (.iload_n 3, 1) := by decide +kernel
theorem dX9_isBehind_15 : decode cX9_isBehind 15 = .ok (.invokevirtual 172, 3) := by decide +kernel
theorem dX9_isBehind_18 : decode cX9_isBehind 18 = .ok (.aload_n 1, 1) := by decide +kernel
theorem dX9_isBehind_19 : decode cX9_isBehind 19 = .ok (.getfield 48, 3) := by decide +kernel
theorem dX9_isBehind_22 : decode cX9_isBehind 22 = .ok (.iconst 1, 1) := by decide +kernel
theorem dX9_isBehind_23 : decode cX9_isBehind 23 = .ok (.iaload, 1) := by decide +kernel
theorem dX9_isBehind_24 : decode cX9_isBehind 24 = .ok (.iadd, 1) := by decide +kernel
theorem dX9_isBehind_25 : decode cX9_isBehind 25 = .ok (.if_icmp .lt 7, 3) := by decide +kernel
theorem dX9_isBehind_28 : decode cX9_isBehind 28 = .ok (.iconst 1, 1) := by decide +kernel
theorem dX9_isBehind_29 : decode cX9_isBehind 29 = .ok (.goto 4, 3) := by decide +kernel
theorem dX9_isBehind_32 : decode cX9_isBehind 32 = .ok (.iconst 0, 1) := by decide +kernel
theorem dX9_isBehind_33 : decode cX9_isBehind 33 = .ok (.ireturn, 1) := by decide +kernel
theorem dX9_layOne_0 : decode cX9_layOne 0 = .ok (.aload_n 0, 1) := by decide +kernel
theorem dX9_layOne_1 : decode cX9_layOne 1 = .ok (.getfield 21, 3) := by decide +kernel
theorem dX9_layOne_4 : decode cX9_layOne 4 = .ok (.iload_n 2, 1) := by decide +kernel
theorem dX9_layOne_5 : decode cX9_layOne 5 = .ok (.aaload, 1) := by decide +kernel
theorem dX9_layOne_6 : decode cX9_layOne 6 = .ok (.getfield 58, 3) := by decide +kernel
theorem dX9_layOne_9 : decode cX9_layOne 9 = .ok (.astore 4, 2) := by decide +kernel
theorem dX9_layOne_11 : decode cX9_layOne 11 = .ok (.aload_n 0, 1) := by decide +kernel
theorem dX9_layOne_12 : decode cX9_layOne 12 = .ok (.getfield 9, 3) := by decide +kernel
theorem dX9_layOne_15 : decode cX9_layOne 15 = .ok (.getfield 175, 3) := by decide +kernel
theorem dX9_layOne_18 : decode cX9_layOne 18 = .ok (.iload_n 2, 1) := by decide +kernel
theorem dX9_layOne_19 : decode cX9_layOne 19 = .ok (.iaload, 1) := by decide +kernel
theorem dX9_layOne_20 : decode cX9_layOne 20 = .ok (.istore 5, 2) := by decide +kernel
theorem dX9_layOne_22 : decode cX9_layOne 22 = .ok (.aload_n 1, 1) := by decide +kernel
theorem dX9_layOne_23 : decode cX9_layOne 23 = .ok (.getfield 48, 3) := by decide +kernel
theorem dX9_layOne_26 : decode cX9_layOne 26 = .ok (.iconst 2, 1) := by decide +kernel
theorem dX9_layOne_27 : decode cX9_layOne 27 = .ok (.iaload, 1) := by decide +kernel
theorem dX9_layOne_28 : decode cX9_layOne 28 = .ok (.iconst 1, 1) := by decide +kernel
theorem dX9_layOne_29 : decode cX9_layOne 29 = .ok (.if_icmp .ne 7, 3) := by decide +kernel
theorem dX9_layOne_32 : decode cX9_layOne 32 = .ok (.iconst 1, 1) := by decide +kernel
theorem dX9_layOne_33 : decode cX9_layOne 33 = .ok (.goto 4, 3) := by decide +kernel
theorem dX9_layOne_36 : decode cX9_layOne 36 = .ok (.iconst 0, 1) := by decide +kernel
theorem dX9_layOne_37 : decode cX9_layOne 37 = .ok (.istore 6, 2) := by decide +kernel
theorem dX9_layOne_39 : decode cX9_layOne 39 = .ok (.aload_n 0, 1) := by decide +kernel
theorem dX9_layOne_40 : decode cX9_layOne 40 = .ok (.getfield 15, 3) := by decide +kernel
theorem dX9_layOne_43 : decode cX9_layOne 43 = .ok (.getfield 70, 3) := by decide +kernel
theorem dX9_layOne_46 : decode cX9_layOne 46 = .ok (.iload_n 3, 1) := by decide +kernel
theorem dX9_layOne_47 : decode cX9_layOne 47 = .ok (.iaload, 1) := by decide +kernel
theorem dX9_layOne_48 : decode cX9_layOne 48 = .ok (.istore 7, 2) := by decide +kernel
theorem dX9_layOne_50 : decode cX9_layOne 50 = .ok (.iload 7, 2) := by decide +kernel
theorem dX9_layOne_52 : decode cX9_layOne 52 = .ok (.aload_n 0, 1) := by decide +kernel
theorem dX9_layOne_53 : decode cX9_layOne 53 = .ok (.getfield 15, 3) := by decide +kernel
theorem dX9_layOne_56 : decode cX9_layOne 56 = .ok (.getfield 70, 3) := by decide +kernel
theorem dX9_layOne_59 : decode cX9_layOne 59 = .ok (.iload_n 3, 1) := by decide +kernel
theorem dX9_layOne_60 : decode cX9_layOne 60 = .ok (.iconst 1, 1) := by decide +kernel
theorem dX9_layOne_61 : decode cX9_layOne 61 = .ok (.iadd, 1) := by decide +kernel
theorem dX9_layOne_62 : decode cX9_layOne 62 = .ok (.iaload, 1) := by decide +kernel
theorem dX9_layOne_63 : decode cX9_layOne 63 = .ok (.if_icmp .ge 96, 3) := by decide +kernel
theorem dX9_layOne_66 : decode cX9_layOne 66 = .ok (.aload_n 0, 1) := by decide +kernel
theorem dX9_layOne_67 : decode cX9_layOne 67 = .ok (.getfield 15, 3) := by decide +kernel
theorem dX9_layOne_70 : decode cX9_layOne 70 = .ok (.getfield 73, 3) := by decide +kernel
theorem dX9_layOne_73 : decode cX9_layOne 73 = .ok (.iload 7, 2) := by decide +kernel
theorem dX9_layOne_75 : decode cX9_layOne 75 = .ok (.iaload, 1) := by decide +kernel
theorem dX9_layOne_76 : decode cX9_layOne 76 = .ok (.istore 8, 2) := by decide +kernel
theorem dX9_layOne_78 : decode cX9_layOne 78 = .ok (.aload_n 0, 1) := by decide +kernel
theorem dX9_layOne_79 : decode cX9_layOne 79 = .ok (.aload_n 1, 1) := by decide +kernel
theorem dX9_layOne_80 : decode cX9_layOne 80 = .ok (.aload 4, 2) := by decide +kernel
theorem dX9_layOne_82 : decode cX9_layOne 82 = .ok (.iload 8, 2) := by decide +kernel
theorem dX9_layOne_84 : decode cX9_layOne 84 = .ok (.iaload, 1) := by decide +kernel
theorem dX9_layOne_85 : decode cX9_layOne 85 = .ok (.iload 8, 2) := by decide +kernel
theorem dX9_layOne_87 : decode cX9_layOne 87 = .ok (.invokevirtual 178, 3) := by decide +kernel
theorem dX9_layOne_90 : decode cX9_layOne 90 = .ok (.ifCond .ne 6, 3) := by decide +kernel
theorem dX9_layOne_93 : decode cX9_layOne 93 = .ok (.goto 60, 3) := by decide +kernel
theorem dX9_layOne_96 : decode cX9_layOne 96 = .ok (.iload 5, 2) := by decide +kernel
theorem dX9_layOne_98 : decode cX9_layOne 98 = .ok (.bipush 8, 2) := by decide +kernel
theorem dX9_layOne_100 : decode cX9_layOne 100 = .ok (.if_icmp .ge 21, 3) := by decide +kernel
theorem dX9_layOne_103 : decode cX9_layOne 103 = .ok (.aload_n 0, 1) := by decide +kernel
theorem dX9_layOne_104 : decode cX9_layOne 104 = .ok (.aload_n 1, 1) := by decide +kernel
theorem dX9_layOne_105 : decode cX9_layOne 105 = .ok (.iload 8, 2) := by decide +kernel
theorem dX9_layOne_107 : decode cX9_layOne 107 = .ok (.invokevirtual 162, 3) := by decide +kernel
theorem dX9_layOne_110 : decode cX9_layOne 110 = .ok (.aload_n 0, 1) := by decide +kernel
theorem dX9_layOne_111 : decode cX9_layOne 111 = .ok (.aload_n 1, 1) := by decide +kernel
theorem dX9_layOne_112 : decode cX9_layOne 112 = .ok (.iload_n 2, 1) := by decide +kernel
theorem dX9_layOne_113 : decode cX9_layOne 113 = .ok (.iload 8, 2) := by decide +kernel
theorem dX9_layOne_115 : decode cX9_layOne 115 = .ok (.invokevirtual 181, 3) := by decide +kernel
theorem dX9_layOne_118 : decode cX9_layOne 118 = .ok (.goto 35, 3) := by decide +kernel
theorem dX9_layOne_121 : decode cX9_layOne 121 = .ok (.aload_n 1, 1) := by decide +kernel
theorem dX9_layOne_122 : decode cX9_layOne 122 = .ok (.getfield 184, 3) := by decide +kernel
theorem dX9_layOne_125 : decode cX9_layOne 125 = .ok (.iload 8, 2) := by decide +kernel
theorem dX9_layOne_127 : decode cX9_layOne 127 = .ok (.aload 4, 2) := by decide +kernel
theorem dX9_layOne_129 : decode cX9_layOne 129 = .ok (.iload 8, 2) := by decide +kernel
theorem dX9_layOne_131 : decode cX9_layOne 131 = .ok (.iaload, 1) := by decide +kernel
theorem dX9_layOne_132 : decode cX9_layOne 132 = .ok (.iastore, 1) := by decide +kernel
theorem dX9_layOne_133 : decode cX9_layOne 133 = .ok (.aload_n 1, 1) := by decide +kernel
theorem dX9_layOne_134 : decode cX9_layOne 134 = .ok (.getfield 187, 3) := by decide +kernel
theorem dX9_layOne_137 : decode cX9_layOne 137 = .ok (.iload 8, 2) := by decide +kernel
theorem dX9_layOne_139 : decode cX9_layOne 139 = .ok (.iload_n 2, 1) := by decide +kernel
theorem dX9_layOne_140 : decode cX9_layOne 140 = .ok (.iastore, 1) := by decide +kernel
theorem dX9_layOne_141 : decode cX9_layOne 141 = .ok (.iload 6, 2) := by decide +kernel
theorem dX9_layOne_143 : decode cX9_layOne 143 = .ok (.ifCond .ne 10, 3) := by decide +kernel
theorem dX9_layOne_146 : decode cX9_layOne 146 = .ok (.aload_n 0, 1) := by decide +kernel
theorem dX9_layOne_147 : decode cX9_layOne 147 = .ok (.aload_n 1, 1) := by decide +kernel
theorem dX9_layOne_148 : decode cX9_layOne 148 = .ok (.iload 8, 2) := by decide +kernel
theorem dX9_layOne_150 : decode cX9_layOne 150 = .ok (.invokevirtual 162, 3) := by decide +kernel
theorem dX9_layOne_153 : decode cX9_layOne 153 = .ok (.iinc 7 1, 3) := by decide +kernel
theorem dX9_layOne_156 : decode cX9_layOne 156 = .ok (.goto (-106), 3) := by decide +kernel
theorem dX9_layOne_159 : decode cX9_layOne 159 = .ok (.return_, 1) := by decide +kernel
theorem dX9_passes_0 : decode cX9_passes 0 = .ok (.iload_n 2, 1) := by decide +kernel
theorem dX9_passes_1 : decode cX9_passes 1 = .ok (.ifCond .ge 5, 3) := by decide +kernel
theorem dX9_passes_4 : decode cX9_passes 4 = .ok (.iconst 0, 1) := by decide +kernel
theorem dX9_passes_5 : decode cX9_passes 5 = .ok (.ireturn, 1) := by decide +kernel
theorem dX9_passes_6 : decode cX9_passes 6 = .ok (.aload_n 1, 1) := by decide +kernel
theorem dX9_passes_7 : decode cX9_passes 7 = .ok (.dup, 1) := by decide +kernel
theorem dX9_passes_8 : decode cX9_passes 8 = .ok (.getfield 190, 3) := by decide +kernel
theorem dX9_passes_11 : decode cX9_passes 11 = .ok (.iconst 1, 1) := by decide +kernel
theorem dX9_passes_12 : decode cX9_passes 12 = .ok (.iadd, 1) := by decide +kernel
theorem dX9_passes_13 : decode cX9_passes 13 = .ok (.putfield 190, 3) := by decide +kernel
theorem dX9_passes_16 : decode cX9_passes 16 = .ok (.iload_n 2, 1) := by decide +kernel
theorem dX9_passes_17 : decode cX9_passes 17 = .ok (.aload_n 1, 1) := by decide +kernel
theorem dX9_passes_18 : decode cX9_passes 18 = .ok (.getfield 184, 3) := by decide +kernel
theorem dX9_passes_21 : decode cX9_passes 21 = .ok (.iload_n 3, 1) := by decide +kernel
theorem dX9_passes_22 : decode cX9_passes 22 = .ok (.iaload, 1) := by decide +kernel
theorem dX9_passes_23 : decode cX9_passes 23 = .ok (.aload_n 1, 1) := by decide +kernel
theorem dX9_passes_24 : decode cX9_passes 24 = .ok (.getfield 48, 3) := by decide +kernel
theorem dX9_passes_27 : decode cX9_passes 27 = .ok (.iconst 1, 1) := by decide +kernel
theorem dX9_passes_28 : decode cX9_passes 28 = .ok (.iaload, 1) := by decide +kernel
theorem dX9_passes_29 : decode cX9_passes 29 = .ok (.iadd, 1) := by decide +kernel
theorem dX9_passes_30 : decode cX9_passes 30 = .ok (.if_icmp .ge 7, 3) := by decide +kernel
theorem dX9_passes_33 : decode cX9_passes 33 = .ok (.iconst 1, 1) := by decide +kernel
theorem dX9_passes_34 : decode cX9_passes 34 = .ok (.goto 4, 3) := by decide +kernel
theorem dX9_passes_37 : decode cX9_passes 37 = .ok (.iconst 0, 1) := by decide +kernel
theorem dX9_passes_38 : decode cX9_passes 38 = .ok (.ireturn, 1) := by decide +kernel
theorem dX9_blend_0 : decode cX9_blend 0 = .ok (.aload_n 0, 1) := by decide +kernel
theorem dX9_blend_1 : decode cX9_blend 1 = .ok (.getfield 9, 3) := by decide +kernel
theorem dX9_blend_4 : decode cX9_blend 4 = .ok (.getfield 175, 3) := by decide +kernel
theorem dX9_blend_7 : decode cX9_blend 7 = .ok (.iload_n 2, 1) := by decide +kernel
theorem dX9_blend_8 : decode cX9_blend 8 = .ok (.iaload, 1) := by decide +kernel
theorem dX9_blend_9 : decode cX9_blend 9 = .ok (.istore 4, 2) := by decide +kernel
theorem dX9_blend_11 : decode cX9_blend 11 = .ok (.aload_n 0, 1) := by decide +kernel
theorem dX9_blend_12 : decode cX9_blend 12 = .ok (.getfield 21, 3) := by decide +kernel
theorem dX9_blend_15 : decode cX9_blend 15 = .ok (.iload_n 2, 1) := by decide +kernel
theorem dX9_blend_16 : decode cX9_blend 16 = .ok (.aaload, 1) := by decide +kernel
theorem dX9_blend_17 : decode cX9_blend 17 = .ok (.getfield 193, 3) := by decide +kernel
theorem dX9_blend_20 : decode cX9_blend 20 = .ok (.iload_n 3, 1) := by decide +kernel
theorem dX9_blend_21 : decode cX9_blend 21 = .ok (.iconst 4, 1) := by decide +kernel
theorem dX9_blend_22 : decode cX9_blend 22 = .ok (.idiv, 1) := by decide +kernel
theorem dX9_blend_23 : decode cX9_blend 23 = .ok (.iaload, 1) := by decide +kernel
theorem dX9_blend_24 : decode cX9_blend 24 = .ok (.istore 5, 2) := by decide +kernel
theorem dX9_blend_26 : decode cX9_blend 26 = .ok (.aload_n 1, 1) := by decide +kernel
theorem dX9_blend_27 : decode cX9_blend 27 = .ok (.getfield 196, 3) := by decide +kernel
theorem dX9_blend_30 : decode cX9_blend 30 = .ok (.iload_n 3, 1) := by decide +kernel
theorem dX9_blend_31 : decode cX9_blend 31 = .ok (.iload 5, 2) := by decide +kernel
theorem dX9_blend_33 : decode cX9_blend 33 = .ok (.iload 4, 2) := by decide +kernel
theorem dX9_blend_35 : decode cX9_blend 35 = .ok (.imul, 1) := by decide +kernel
theorem dX9_blend_36 : decode cX9_blend 36 = .ok (.aload_n 1, 1) := by decide +kernel
theorem dX9_blend_37 : decode cX9_blend 37 = .ok (.getfield 196, 3) := by decide +kernel
theorem dX9_blend_40 : decode cX9_blend 40 = .ok (.iload_n 3, 1) := by decide +kernel
theorem dX9_blend_41 : decode cX9_blend 41 = .ok (.iaload, 1) := by decide +kernel
theorem dX9_blend_42 : decode cX9_blend 42 = .ok (.bipush 8, 2) := by decide +kernel
theorem dX9_blend_44 : decode cX9_blend 44 = .ok (.iload 4, 2) := by decide +kernel
theorem dX9_blend_46 : decode cX9_blend 46 = .ok (.isub, 1) := by decide +kernel
theorem dX9_blend_47 : decode cX9_blend 47 = .ok (.imul, 1) := by decide +kernel
theorem dX9_blend_48 : decode cX9_blend 48 = .ok (.iadd, 1) := by decide +kernel
theorem dX9_blend_49 : decode cX9_blend 49 = .ok (.bipush 8, 2) := by decide +kernel
theorem dX9_blend_51 : decode cX9_blend 51 = .ok (.idiv, 1) := by decide +kernel
theorem dX9_blend_52 : decode cX9_blend 52 = .ok (.iastore, 1) := by decide +kernel
theorem dX9_blend_53 : decode cX9_blend 53 = .ok (.aload_n 1, 1) := by decide +kernel
theorem dX9_blend_54 : decode cX9_blend 54 = .ok (.getfield 199, 3) := by decide +kernel
theorem dX9_blend_57 : decode cX9_blend 57 = .ok (.iload_n 2, 1) := by decide +kernel
theorem dX9_blend_58 : decode cX9_blend 58 = .ok (.dup2, 1) := by decide +kernel
theorem dX9_blend_59 : decode cX9_blend 59 = .ok (.laload, 1) := by decide +kernel
theorem dX9_blend_60 : decode cX9_blend 60 = .ok (.lconst 1, 1) := by decide +kernel
theorem dX9_blend_61 : decode cX9_blend 61 = .ok (.iload_n 3, 1) := by decide +kernel
theorem dX9_blend_62 : decode cX9_blend 62 = .ok (.iconst 4, 1) := by decide +kernel
theorem dX9_blend_63 : decode cX9_blend 63 = .ok (.idiv, 1) := by decide +kernel
theorem dX9_blend_64 : decode cX9_blend 64 = .ok (.lshl, 1) := by decide +kernel
theorem dX9_blend_65 : decode cX9_blend 65 = .ok (.lor, 1) := by decide +kernel
theorem dX9_blend_66 : decode cX9_blend 66 = .ok (.lastore, 1) := by decide +kernel
theorem dX9_blend_67 : decode cX9_blend 67 = .ok (.return_, 1) := by decide +kernel
theorem dX9_shadePending_0 : decode cX9_shadePending 0 = .ok (.aload_n 1, 1) := by decide +kernel
theorem dX9_shadePending_1 : decode cX9_shadePending 1 = .ok (.getfield 187, 3) := by decide +kernel
theorem dX9_shadePending_4 : decode cX9_shadePending 4 = .ok (.iload_n 2, 1) := by decide +kernel
theorem dX9_shadePending_5 : decode cX9_shadePending 5 = .ok (.iaload, 1) := by decide +kernel
theorem dX9_shadePending_6 : decode cX9_shadePending 6 = .ok (.istore_n 3, 1) := by decide +kernel
theorem dX9_shadePending_7 : decode cX9_shadePending 7 = .ok (.iload_n 3, 1) := by decide +kernel
theorem dX9_shadePending_8 : decode cX9_shadePending 8 = .ok (.ifCond .lt 42, 3) := by decide +kernel
theorem dX9_shadePending_11 : decode cX9_shadePending 11 = .ok (.iload_n 3, 1) := by decide +kernel
theorem dX9_shadePending_12 : decode cX9_shadePending 12 = .ok (.bipush 10, 2) := by decide +kernel
theorem dX9_shadePending_14 : decode cX9_shadePending 14 = .ok (.if_icmp .ge 36, 3) := by decide +kernel
theorem dX9_shadePending_17 : decode cX9_shadePending 17 = .ok (.aload_n 1, 1) := by decide +kernel
theorem dX9_shadePending_18 : decode cX9_shadePending 18 = .ok (.getfield 196, 3) := by decide +kernel
theorem dX9_shadePending_21 : decode cX9_shadePending 21 = .ok (.iload_n 2, 1) := by decide +kernel
theorem dX9_shadePending_22 : decode cX9_shadePending 22 = .ok (.aload_n 0, 1) := by decide +kernel
theorem dX9_shadePending_23 : decode cX9_shadePending 23 = .ok (.getfield 21, 3) := by decide +kernel
theorem dX9_shadePending_26 : decode cX9_shadePending 26 = .ok (.iload_n 3, 1) := by decide +kernel
theorem dX9_shadePending_27 : decode cX9_shadePending 27 = .ok (.aaload, 1) := by decide +kernel
theorem dX9_shadePending_28 : decode cX9_shadePending 28 = .ok (.getfield 193, 3) := by decide +kernel
theorem dX9_shadePending_31 : decode cX9_shadePending 31 = .ok (.iload_n 2, 1) := by decide +kernel
theorem dX9_shadePending_32 : decode cX9_shadePending 32 = .ok (.iconst 4, 1) := by decide +kernel
theorem dX9_shadePending_33 : decode cX9_shadePending 33 = .ok (.idiv, 1) := by decide +kernel
theorem dX9_shadePending_34 : decode cX9_shadePending 34 = .ok (.iaload, 1) := by decide +kernel
theorem dX9_shadePending_35 : decode cX9_shadePending 35 = .ok (.iastore, 1) := by decide +kernel
theorem dX9_shadePending_36 : decode cX9_shadePending 36 = .ok (.aload_n 1, 1) := by decide +kernel
theorem dX9_shadePending_37 : decode cX9_shadePending 37 = .ok (.getfield 199, 3) := by decide +kernel
theorem dX9_shadePending_40 : decode cX9_shadePending 40 = .ok (.iload_n 3, 1) := by decide +kernel
theorem dX9_shadePending_41 : decode cX9_shadePending 41 = .ok (.dup2, 1) := by decide +kernel
theorem dX9_shadePending_42 : decode cX9_shadePending 42 = .ok (.laload, 1) := by decide +kernel
theorem dX9_shadePending_43 : decode cX9_shadePending 43 = .ok (.lconst 1, 1) := by decide +kernel
theorem dX9_shadePending_44 : decode cX9_shadePending 44 = .ok (.iload_n 2, 1) := by decide +kernel
theorem dX9_shadePending_45 : decode cX9_shadePending 45 = .ok (.iconst 4, 1) := by decide +kernel
theorem dX9_shadePending_46 : decode cX9_shadePending 46 = .ok (.idiv, 1) := by decide +kernel
theorem dX9_shadePending_47 : decode cX9_shadePending 47 = .ok (.lshl, 1) := by decide +kernel
theorem dX9_shadePending_48 : decode cX9_shadePending 48 = .ok (.lor, 1) := by decide +kernel
theorem dX9_shadePending_49 : decode cX9_shadePending 49 = .ok (.lastore, 1) := by decide +kernel
theorem dX9_shadePending_50 : decode cX9_shadePending 50 = .ok (.aload_n 1, 1) := by decide +kernel
theorem dX9_shadePending_51 : decode cX9_shadePending 51 = .ok (.getfield 187, 3) := by decide +kernel
theorem dX9_shadePending_54 : decode cX9_shadePending 54 = .ok (.iload_n 2, 1) := by decide +kernel
theorem dX9_shadePending_55 : decode cX9_shadePending 55 = .ok (.iconst (-1), 1) := by decide +kernel
theorem dX9_shadePending_56 : decode cX9_shadePending 56 = .ok (.iastore, 1) := by decide +kernel
theorem dX9_shadePending_57 : decode cX9_shadePending 57 = .ok (.return_, 1) := by decide +kernel
theorem dJ13_bitCount_95d88_0 : decode cJ13_bitCount_95d88 0 = .ok (.lload_n 0, 1) := by decide +kernel
theorem dJ13_bitCount_95d88_1 : decode cJ13_bitCount_95d88 1 = .ok (.lload_n 0, 1) := by decide +kernel
theorem dJ13_bitCount_95d88_2 : decode cJ13_bitCount_95d88 2 = .ok (.iconst 1, 1) := by decide +kernel
theorem dJ13_bitCount_95d88_3 : decode cJ13_bitCount_95d88 3 = .ok (.lushr, 1) := by decide +kernel
theorem dJ13_bitCount_95d88_4 : decode cJ13_bitCount_95d88 4 = .ok (.ldc2_w 314, 3) := by decide +kernel
theorem dJ13_bitCount_95d88_7 : decode cJ13_bitCount_95d88 7 = .ok (.land, 1) := by decide +kernel
theorem dJ13_bitCount_95d88_8 : decode cJ13_bitCount_95d88 8 = .ok (.lsub, 1) := by decide +kernel
theorem dJ13_bitCount_95d88_9 : decode cJ13_bitCount_95d88 9 = .ok (.lstore_n 0, 1) := by decide +kernel
theorem dJ13_bitCount_95d88_10 : decode cJ13_bitCount_95d88 10 = .ok (.lload_n 0, 1) := by decide +kernel
theorem dJ13_bitCount_95d88_11 : decode cJ13_bitCount_95d88 11 = .ok (.ldc2_w 316, 3) := by decide +kernel
theorem dJ13_bitCount_95d88_14 : decode cJ13_bitCount_95d88 14 = .ok (.land, 1) := by decide +kernel
theorem dJ13_bitCount_95d88_15 : decode cJ13_bitCount_95d88 15 = .ok (.lload_n 0, 1) := by decide +kernel
theorem dJ13_bitCount_95d88_16 : decode cJ13_bitCount_95d88 16 = .ok (.iconst 2, 1) := by decide +kernel
theorem dJ13_bitCount_95d88_17 : decode cJ13_bitCount_95d88 17 = .ok (.lushr, 1) := by decide +kernel
theorem dJ13_bitCount_95d88_18 : decode cJ13_bitCount_95d88 18 = .ok (.ldc2_w 316, 3) := by decide +kernel
theorem dJ13_bitCount_95d88_21 : decode cJ13_bitCount_95d88 21 = .ok (.land, 1) := by decide +kernel
theorem dJ13_bitCount_95d88_22 : decode cJ13_bitCount_95d88 22 = .ok (.ladd, 1) := by decide +kernel
theorem dJ13_bitCount_95d88_23 : decode cJ13_bitCount_95d88 23 = .ok (.lstore_n 0, 1) := by decide +kernel
theorem dJ13_bitCount_95d88_24 : decode cJ13_bitCount_95d88 24 = .ok (.lload_n 0, 1) := by decide +kernel
theorem dJ13_bitCount_95d88_25 : decode cJ13_bitCount_95d88 25 = .ok (.lload_n 0, 1) := by decide +kernel
theorem dJ13_bitCount_95d88_26 : decode cJ13_bitCount_95d88 26 = .ok (.iconst 4, 1) := by decide +kernel
theorem dJ13_bitCount_95d88_27 : decode cJ13_bitCount_95d88 27 = .ok (.lushr, 1) := by decide +kernel
theorem dJ13_bitCount_95d88_28 : decode cJ13_bitCount_95d88 28 = .ok (.ladd, 1) := by decide +kernel
theorem dJ13_bitCount_95d88_29 : decode cJ13_bitCount_95d88 29 = .ok (.ldc2_w 318, 3) := by decide +kernel
theorem dJ13_bitCount_95d88_32 : decode cJ13_bitCount_95d88 32 = .ok (.land, 1) := by decide +kernel
theorem dJ13_bitCount_95d88_33 : decode cJ13_bitCount_95d88 33 = .ok (.lstore_n 0, 1) := by decide +kernel
theorem dJ13_bitCount_95d88_34 : decode cJ13_bitCount_95d88 34 = .ok (.lload_n 0, 1) := by decide +kernel
theorem dJ13_bitCount_95d88_35 : decode cJ13_bitCount_95d88 35 = .ok (.lload_n 0, 1) := by decide +kernel
theorem dJ13_bitCount_95d88_36 : decode cJ13_bitCount_95d88 36 = .ok (.bipush 8, 2) := by decide +kernel
theorem dJ13_bitCount_95d88_38 : decode cJ13_bitCount_95d88 38 = .ok (.lushr, 1) := by decide +kernel
theorem dJ13_bitCount_95d88_39 : decode cJ13_bitCount_95d88 39 = .ok (.ladd, 1) := by decide +kernel
theorem dJ13_bitCount_95d88_40 : decode cJ13_bitCount_95d88 40 = .ok (.lstore_n 0, 1) := by decide +kernel
theorem dJ13_bitCount_95d88_41 : decode cJ13_bitCount_95d88 41 = .ok (.lload_n 0, 1) := by decide +kernel
theorem dJ13_bitCount_95d88_42 : decode cJ13_bitCount_95d88 42 = .ok (.lload_n 0, 1) := by decide +kernel
theorem dJ13_bitCount_95d88_43 : decode cJ13_bitCount_95d88 43 = .ok (.bipush 16, 2) := by decide +kernel
theorem dJ13_bitCount_95d88_45 : decode cJ13_bitCount_95d88 45 = .ok (.lushr, 1) := by decide +kernel
theorem dJ13_bitCount_95d88_46 : decode cJ13_bitCount_95d88 46 = .ok (.ladd, 1) := by decide +kernel
theorem dJ13_bitCount_95d88_47 : decode cJ13_bitCount_95d88 47 = .ok (.lstore_n 0, 1) := by decide +kernel
theorem dJ13_bitCount_95d88_48 : decode cJ13_bitCount_95d88 48 = .ok (.lload_n 0, 1) := by decide +kernel
theorem dJ13_bitCount_95d88_49 : decode cJ13_bitCount_95d88 49 = .ok (.lload_n 0, 1) := by decide +kernel
theorem dJ13_bitCount_95d88_50 : decode cJ13_bitCount_95d88 50 = .ok (.bipush 32, 2) := by decide +kernel
theorem dJ13_bitCount_95d88_52 : decode cJ13_bitCount_95d88 52 = .ok (.lushr, 1) := by decide +kernel
theorem dJ13_bitCount_95d88_53 : decode cJ13_bitCount_95d88 53 = .ok (.ladd, 1) := by decide +kernel
theorem dJ13_bitCount_95d88_54 : decode cJ13_bitCount_95d88 54 = .ok (.lstore_n 0, 1) := by decide +kernel
theorem dJ13_bitCount_95d88_55 : decode cJ13_bitCount_95d88 55 = .ok (.lload_n 0, 1) := by decide +kernel
theorem dJ13_bitCount_95d88_56 : decode cJ13_bitCount_95d88 56 = .ok (.l2i, 1) := by decide +kernel
theorem dJ13_bitCount_95d88_57 : decode cJ13_bitCount_95d88 57 = .ok (.bipush 127, 2) := by decide +kernel
theorem dJ13_bitCount_95d88_59 : decode cJ13_bitCount_95d88 59 = .ok (.iand, 1) := by decide +kernel
theorem dJ13_bitCount_95d88_60 : decode cJ13_bitCount_95d88 60 = .ok (.ireturn, 1) := by decide +kernel
theorem dJ9_floorDiv_7cf53_0 : decode cJ9_floorDiv_7cf53 0 = .ok (.iload_n 0, 1) := by decide +kernel
theorem dJ9_floorDiv_7cf53_1 : decode cJ9_floorDiv_7cf53 1 = .ok (.iload_n 1, 1) := by decide +kernel
theorem dJ9_floorDiv_7cf53_2 : decode cJ9_floorDiv_7cf53 2 = .ok (.idiv, 1) := by decide +kernel
theorem dJ9_floorDiv_7cf53_3 : decode cJ9_floorDiv_7cf53 3 = .ok (.istore_n 2, 1) := by decide +kernel
theorem dJ9_floorDiv_7cf53_4 : decode cJ9_floorDiv_7cf53 4 = .ok (.iload_n 0, 1) := by decide +kernel
theorem dJ9_floorDiv_7cf53_5 : decode cJ9_floorDiv_7cf53 5 = .ok (.iload_n 1, 1) := by decide +kernel
theorem dJ9_floorDiv_7cf53_6 : decode cJ9_floorDiv_7cf53 6 = .ok (.ixor, 1) := by decide +kernel
theorem dJ9_floorDiv_7cf53_7 : decode cJ9_floorDiv_7cf53 7 = .ok (.ifCond .ge 14, 3) := by decide +kernel
theorem dJ9_floorDiv_7cf53_10 : decode cJ9_floorDiv_7cf53 10 = .ok (.iload_n 2, 1) := by decide +kernel
theorem dJ9_floorDiv_7cf53_11 : decode cJ9_floorDiv_7cf53 11 = .ok (.iload_n 1, 1) := by decide +kernel
theorem dJ9_floorDiv_7cf53_12 : decode cJ9_floorDiv_7cf53 12 = .ok (.imul, 1) := by decide +kernel
theorem dJ9_floorDiv_7cf53_13 : decode cJ9_floorDiv_7cf53 13 = .ok (.iload_n 0, 1) := by decide +kernel
theorem dJ9_floorDiv_7cf53_14 : decode cJ9_floorDiv_7cf53 14 = .ok (.if_icmp .eq 7, 3) := by decide +kernel
theorem dJ9_floorDiv_7cf53_17 : decode cJ9_floorDiv_7cf53 17 = .ok (.iload_n 2, 1) := by decide +kernel
theorem dJ9_floorDiv_7cf53_18 : decode cJ9_floorDiv_7cf53 18 = .ok (.iconst 1, 1) := by decide +kernel
theorem dJ9_floorDiv_7cf53_19 : decode cJ9_floorDiv_7cf53 19 = .ok (.isub, 1) := by decide +kernel
theorem dJ9_floorDiv_7cf53_20 : decode cJ9_floorDiv_7cf53 20 = .ok (.ireturn, 1) := by decide +kernel
theorem dJ9_floorDiv_7cf53_21 : decode cJ9_floorDiv_7cf53 21 = .ok (.iload_n 2, 1) := by decide +kernel
theorem dJ9_floorDiv_7cf53_22 : decode cJ9_floorDiv_7cf53 22 = .ok (.ireturn, 1) := by decide +kernel
theorem dJ9_floorMod_7cf53_0 : decode cJ9_floorMod_7cf53 0 = .ok (.iload_n 0, 1) := by decide +kernel
theorem dJ9_floorMod_7cf53_1 : decode cJ9_floorMod_7cf53 1 = .ok (.iload_n 1, 1) := by decide +kernel
theorem dJ9_floorMod_7cf53_2 : decode cJ9_floorMod_7cf53 2 = .ok (.irem, 1) := by decide +kernel
theorem dJ9_floorMod_7cf53_3 : decode cJ9_floorMod_7cf53 3 = .ok (.istore_n 2, 1) := by decide +kernel
theorem dJ9_floorMod_7cf53_4 : decode cJ9_floorMod_7cf53 4 = .ok (.iload_n 0, 1) := by decide +kernel
theorem dJ9_floorMod_7cf53_5 : decode cJ9_floorMod_7cf53 5 = .ok (.iload_n 1, 1) := by decide +kernel
theorem dJ9_floorMod_7cf53_6 : decode cJ9_floorMod_7cf53 6 = .ok (.ixor, 1) := by decide +kernel
theorem dJ9_floorMod_7cf53_7 : decode cJ9_floorMod_7cf53 7 = .ok (.ifCond .ge 11, 3) := by decide +kernel
theorem dJ9_floorMod_7cf53_10 : decode cJ9_floorMod_7cf53 10 = .ok (.iload_n 2, 1) := by decide +kernel
theorem dJ9_floorMod_7cf53_11 : decode cJ9_floorMod_7cf53 11 = .ok (.ifCond .eq 7, 3) := by decide +kernel
theorem dJ9_floorMod_7cf53_14 : decode cJ9_floorMod_7cf53 14 = .ok (.iload_n 2, 1) := by decide +kernel
theorem dJ9_floorMod_7cf53_15 : decode cJ9_floorMod_7cf53 15 = .ok (.iload_n 1, 1) := by decide +kernel
theorem dJ9_floorMod_7cf53_16 : decode cJ9_floorMod_7cf53 16 = .ok (.iadd, 1) := by decide +kernel
theorem dJ9_floorMod_7cf53_17 : decode cJ9_floorMod_7cf53 17 = .ok (.ireturn, 1) := by decide +kernel
theorem dJ9_floorMod_7cf53_18 : decode cJ9_floorMod_7cf53 18 = .ok (.iload_n 2, 1) := by decide +kernel
theorem dJ9_floorMod_7cf53_19 : decode cJ9_floorMod_7cf53 19 = .ok (.ireturn, 1) := by decide +kernel
theorem dJ9_max_7cf53_0 : decode cJ9_max_7cf53 0 = .ok (.iload_n 0, 1) := by decide +kernel
theorem dJ9_max_7cf53_1 : decode cJ9_max_7cf53 1 = .ok (.iload_n 1, 1) := by decide +kernel
theorem dJ9_max_7cf53_2 : decode cJ9_max_7cf53 2 = .ok (.if_icmp .lt 7, 3) := by decide +kernel
theorem dJ9_max_7cf53_5 : decode cJ9_max_7cf53 5 = .ok (.iload_n 0, 1) := by decide +kernel
theorem dJ9_max_7cf53_6 : decode cJ9_max_7cf53 6 = .ok (.goto 4, 3) := by decide +kernel
theorem dJ9_max_7cf53_9 : decode cJ9_max_7cf53 9 = .ok (.iload_n 1, 1) := by decide +kernel
theorem dJ9_max_7cf53_10 : decode cJ9_max_7cf53 10 = .ok (.ireturn, 1) := by decide +kernel
theorem dJ9_min_7cf53_0 : decode cJ9_min_7cf53 0 = .ok (.iload_n 0, 1) := by decide +kernel
theorem dJ9_min_7cf53_1 : decode cJ9_min_7cf53 1 = .ok (.iload_n 1, 1) := by decide +kernel
theorem dJ9_min_7cf53_2 : decode cJ9_min_7cf53 2 = .ok (.if_icmp .gt 7, 3) := by decide +kernel
theorem dJ9_min_7cf53_5 : decode cJ9_min_7cf53 5 = .ok (.iload_n 0, 1) := by decide +kernel
theorem dJ9_min_7cf53_6 : decode cJ9_min_7cf53 6 = .ok (.goto 4, 3) := by decide +kernel
theorem dJ9_min_7cf53_9 : decode cJ9_min_7cf53 9 = .ok (.iload_n 1, 1) := by decide +kernel
theorem dJ9_min_7cf53_10 : decode cJ9_min_7cf53 10 = .ok (.ireturn, 1) := by decide +kernel
theorem dJ0_length_8abf5_0 : decode cJ0_length_8abf5 0 = .ok (.aload_n 0, 1) := by decide +kernel
theorem dJ0_length_8abf5_1 : decode cJ0_length_8abf5 1 = .ok (.getfield 9, 3) := by decide +kernel
theorem dJ0_length_8abf5_4 : decode cJ0_length_8abf5 4 = .ok (.arraylength, 1) := by decide +kernel
theorem dJ0_length_8abf5_5 : decode cJ0_length_8abf5 5 = .ok (.aload_n 0, 1) := by decide +kernel
theorem dJ0_length_8abf5_6 : decode cJ0_length_8abf5 6 = .ok (.invokevirtual 335, 3) := by decide +kernel
theorem dJ0_length_8abf5_9 : decode cJ0_length_8abf5 9 = .ok (.ishr, 1) := by decide +kernel
theorem dJ0_length_8abf5_10 : decode cJ0_length_8abf5 10 = .ok (.ireturn, 1) := by decide +kernel
theorem dJ0_charAt_5068e_0 : decode cJ0_charAt_5068e 0 = .ok (.aload_n 0, 1) := by decide +kernel
theorem dJ0_charAt_5068e_1 : decode cJ0_charAt_5068e 1 = .ok (.invokevirtual 492, 3) := by decide +kernel
theorem dJ0_charAt_5068e_4 : decode cJ0_charAt_5068e 4 = .ok (.ifCond .eq 12, 3) := by decide +kernel
theorem dJ0_charAt_5068e_7 : decode cJ0_charAt_5068e 7 = .ok (.aload_n 0, 1) := by decide +kernel
theorem dJ0_charAt_5068e_8 : decode cJ0_charAt_5068e 8 = .ok (.getfield 9, 3) := by decide +kernel
theorem dJ0_charAt_5068e_11 : decode cJ0_charAt_5068e 11 = .ok (.iload_n 1, 1) := by decide +kernel
theorem dJ0_charAt_5068e_12 : decode cJ0_charAt_5068e 12 = .ok (.invokestatic 495, 3) := by decide +kernel
theorem dJ0_charAt_5068e_15 : decode cJ0_charAt_5068e 15 = .ok (.ireturn, 1) := by decide +kernel
theorem dJ0_charAt_5068e_16 : decode cJ0_charAt_5068e 16 = .ok (.aload_n 0, 1) := by decide +kernel
theorem dJ0_charAt_5068e_17 : decode cJ0_charAt_5068e 17 = .ok (.getfield 9, 3) := by decide +kernel
theorem dJ0_charAt_5068e_20 : decode cJ0_charAt_5068e 20 = .ok (.iload_n 1, 1) := by decide +kernel
theorem dJ0_charAt_5068e_21 : decode cJ0_charAt_5068e 21 = .ok (.invokestatic 498, 3) := by decide +kernel
theorem dJ0_charAt_5068e_24 : decode cJ0_charAt_5068e 24 = .ok (.ireturn, 1) := by decide +kernel
theorem dJ0_coder_7d493_0 : decode cJ0_coder_7d493 0 = .ok (.getstatic 38, 3) := by decide +kernel
theorem dJ0_coder_7d493_3 : decode cJ0_coder_7d493 3 = .ok (.ifCond .eq 10, 3) := by decide +kernel
theorem dJ0_coder_7d493_6 : decode cJ0_coder_7d493 6 = .ok (.aload_n 0, 1) := by decide +kernel
theorem dJ0_coder_7d493_7 : decode cJ0_coder_7d493 7 = .ok (.getfield 15, 3) := by decide +kernel
theorem dJ0_coder_7d493_10 : decode cJ0_coder_7d493 10 = .ok (.goto 4, 3) := by decide +kernel
theorem dJ0_coder_7d493_13 : decode cJ0_coder_7d493 13 = .ok (.iconst 1, 1) := by decide +kernel
theorem dJ0_coder_7d493_14 : decode cJ0_coder_7d493 14 = .ok (.ireturn, 1) := by decide +kernel
theorem dJ0_isLatin1_aae02_0 : decode cJ0_isLatin1_aae02 0 = .ok (.getstatic 38, 3) := by decide +kernel
theorem dJ0_isLatin1_aae02_3 : decode cJ0_isLatin1_aae02 3 = .ok (.ifCond .eq 14, 3) := by decide +kernel
theorem dJ0_isLatin1_aae02_6 : decode cJ0_isLatin1_aae02 6 = .ok (.aload_n 0, 1) := by decide +kernel
theorem dJ0_isLatin1_aae02_7 : decode cJ0_isLatin1_aae02 7 = .ok (.getfield 15, 3) := by decide +kernel
theorem dJ0_isLatin1_aae02_10 : decode cJ0_isLatin1_aae02 10 = .ok (.ifCond .ne 7, 3) := by decide +kernel
theorem dJ0_isLatin1_aae02_13 : decode cJ0_isLatin1_aae02 13 = .ok (.iconst 1, 1) := by decide +kernel
theorem dJ0_isLatin1_aae02_14 : decode cJ0_isLatin1_aae02 14 = .ok (.goto 4, 3) := by decide +kernel
theorem dJ0_isLatin1_aae02_17 : decode cJ0_isLatin1_aae02 17 = .ok (.iconst 0, 1) := by decide +kernel
theorem dJ0_isLatin1_aae02_18 : decode cJ0_isLatin1_aae02 18 = .ok (.ireturn, 1) := by decide +kernel
theorem dJ0_checkIndex_df160_0 : decode cJ0_checkIndex_df160 0 = .ok (.iload_n 0, 1) := by decide +kernel
theorem dJ0_checkIndex_df160_1 : decode cJ0_checkIndex_df160 1 = .ok (.iload_n 1, 1) := by decide +kernel
theorem dJ0_checkIndex_df160_2 : decode cJ0_checkIndex_df160 2 = .ok (.getstatic 1053, 3) := by decide +kernel
theorem dJ0_checkIndex_df160_5 : decode cJ0_checkIndex_df160 5 = .ok (.invokestatic 1059, 3) := by decide +kernel
theorem dJ0_checkIndex_df160_8 : decode cJ0_checkIndex_df160 8 = .ok (.pop, 1) := by decide +kernel
theorem dJ0_checkIndex_df160_9 : decode cJ0_checkIndex_df160 9 = .ok (.return_, 1) := by decide +kernel
theorem dJ1_charAt_3b067_0 : decode cJ1_charAt_3b067 0 = .ok (.iload_n 1, 1) := by decide +kernel
theorem dJ1_charAt_3b067_1 : decode cJ1_charAt_3b067 1 = .ok (.aload_n 0, 1) := by decide +kernel
theorem dJ1_charAt_3b067_2 : decode cJ1_charAt_3b067 2 = .ok (.arraylength, 1) := by decide +kernel
theorem dJ1_charAt_3b067_3 : decode cJ1_charAt_3b067 3 = .ok (.invokestatic 9, 3) := by decide +kernel
theorem dJ1_charAt_3b067_6 : decode cJ1_charAt_3b067 6 = .ok (.aload_n 0, 1) := by decide +kernel
theorem dJ1_charAt_3b067_7 : decode cJ1_charAt_3b067 7 = .ok (.iload_n 1, 1) := by decide +kernel
theorem dJ1_charAt_3b067_8 : decode cJ1_charAt_3b067 8 = .ok (.baload, 1) := by decide +kernel
theorem dJ1_charAt_3b067_9 : decode cJ1_charAt_3b067 9 = .ok (.sipush 255, 3) := by decide +kernel
theorem dJ1_charAt_3b067_12 : decode cJ1_charAt_3b067 12 = .ok (.iand, 1) := by decide +kernel
theorem dJ1_charAt_3b067_13 : decode cJ1_charAt_3b067 13 = .ok (.i2c, 1) := by decide +kernel
theorem dJ1_charAt_3b067_14 : decode cJ1_charAt_3b067 14 = .ok (.ireturn, 1) := by decide +kernel
theorem dJ2_getChar_3b067_0 : decode cJ2_getChar_3b067 0 = .ok (.getstatic 44, 3) := by decide +kernel
theorem dJ2_getChar_3b067_3 : decode cJ2_getChar_3b067 3 = .ok (.ifCond .ne 25, 3) := by decide +kernel
theorem dJ2_getChar_3b067_6 : decode cJ2_getChar_3b067 6 = .ok (.iload_n 1, 1) := by decide +kernel
theorem dJ2_getChar_3b067_7 : decode cJ2_getChar_3b067 7 = .ok (.ifCond .lt 11, 3) := by decide +kernel
theorem dJ2_getChar_3b067_10 : decode cJ2_getChar_3b067 10 = .ok (.iload_n 1, 1) := by decide +kernel
theorem dJ2_getChar_3b067_11 : decode cJ2_getChar_3b067 11 = .ok (.aload_n 0, 1) := by decide +kernel
theorem dJ2_getChar_3b067_12 : decode cJ2_getChar_3b067 12 = .ok (.invokestatic 48, 3) := by decide +kernel
theorem dJ2_getChar_3b067_15 : decode cJ2_getChar_3b067 15 = .ok (.if_icmp .lt 13, 3) := by decide +kernel
theorem dJ2_getChar_3b067_18 : decode cJ2_getChar_3b067 18 = .ok (.new 52, 3) := by decide +kernel
theorem dJ2_getChar_3b067_21 : decode cJ2_getChar_3b067 21 = .ok (.dup, 1) := by decide +kernel
theorem dJ2_getChar_3b067_22 : decode cJ2_getChar_3b067 22 = .ok (.ldc 54, 2) := by decide +kernel
theorem dJ2_getChar_3b067_24 : decode cJ2_getChar_3b067 24 = .ok (.invokespecial 56, 3) := by decide +kernel
theorem dJ2_getChar_3b067_27 : decode cJ2_getChar_3b067 27 = .ok (.athrow, 1) := by decide +kernel
theorem dJ2_getChar_3b067_28 : decode cJ2_getChar_3b067 28 = .ok (.iload_n 1, 1) := by decide +kernel
theorem dJ2_getChar_3b067_29 : decode cJ2_getChar_3b067 29 = .ok (.iconst 1, 1) := by decide +kernel
theorem dJ2_getChar_3b067_30 : decode cJ2_getChar_3b067 30 = .ok (.ishl, 1) := by decide +kernel
theorem dJ2_getChar_3b067_31 : decode cJ2_getChar_3b067 31 = .ok (.istore_n 1, 1) := by decide +kernel
theorem dJ2_getChar_3b067_32 : decode cJ2_getChar_3b067 32 = .ok (.aload_n 0, 1) := by decide +kernel
theorem dJ2_getChar_3b067_33 : decode cJ2_getChar_3b067 33 = .ok (.iload_n 1, 1) := by decide +kernel
theorem dJ2_getChar_3b067_34 : decode cJ2_getChar_3b067 34 = .ok (.iinc 1 1, 3) := by decide +kernel
theorem dJ2_getChar_3b067_37 : decode cJ2_getChar_3b067 37 = .ok (.baload, 1) := by decide +kernel
theorem dJ2_getChar_3b067_38 : decode cJ2_getChar_3b067 38 = .ok (.sipush 255, 3) := by decide +kernel
theorem dJ2_getChar_3b067_41 : decode cJ2_getChar_3b067 41 = .ok (.iand, 1) := by decide +kernel
theorem dJ2_getChar_3b067_42 : decode cJ2_getChar_3b067 42 = .ok (.getstatic 59, 3) := by decide +kernel
theorem dJ2_getChar_3b067_45 : decode cJ2_getChar_3b067 45 = .ok (.ishl, 1) := by decide +kernel
theorem dJ2_getChar_3b067_46 : decode cJ2_getChar_3b067 46 = .ok (.aload_n 0, 1) := by decide +kernel
theorem dJ2_getChar_3b067_47 : decode cJ2_getChar_3b067 47 = .ok (.iload_n 1, 1) := by decide +kernel
theorem dJ2_getChar_3b067_48 : decode cJ2_getChar_3b067 48 = .ok (.baload, 1) := by decide +kernel
theorem dJ2_getChar_3b067_49 : decode cJ2_getChar_3b067 49 = .ok (.sipush 255, 3) := by decide +kernel
theorem dJ2_getChar_3b067_52 : decode cJ2_getChar_3b067 52 = .ok (.iand, 1) := by decide +kernel
theorem dJ2_getChar_3b067_53 : decode cJ2_getChar_3b067 53 = .ok (.getstatic 63, 3) := by decide +kernel
theorem dJ2_getChar_3b067_56 : decode cJ2_getChar_3b067 56 = .ok (.ishl, 1) := by decide +kernel
theorem dJ2_getChar_3b067_57 : decode cJ2_getChar_3b067 57 = .ok (.ior, 1) := by decide +kernel
theorem dJ2_getChar_3b067_58 : decode cJ2_getChar_3b067 58 = .ok (.i2c, 1) := by decide +kernel
theorem dJ2_getChar_3b067_59 : decode cJ2_getChar_3b067 59 = .ok (.ireturn, 1) := by decide +kernel
theorem dJ2_length_9d52b_0 : decode cJ2_length_9d52b 0 = .ok (.aload_n 0, 1) := by decide +kernel
theorem dJ2_length_9d52b_1 : decode cJ2_length_9d52b 1 = .ok (.arraylength, 1) := by decide +kernel
theorem dJ2_length_9d52b_2 : decode cJ2_length_9d52b 2 = .ok (.iconst 1, 1) := by decide +kernel
theorem dJ2_length_9d52b_3 : decode cJ2_length_9d52b 3 = .ok (.ishr, 1) := by decide +kernel
theorem dJ2_length_9d52b_4 : decode cJ2_length_9d52b 4 = .ok (.ireturn, 1) := by decide +kernel
theorem dJ2_charAt_3b067_0 : decode cJ2_charAt_3b067 0 = .ok (.iload_n 1, 1) := by decide +kernel
theorem dJ2_charAt_3b067_1 : decode cJ2_charAt_3b067 1 = .ok (.aload_n 0, 1) := by decide +kernel
theorem dJ2_charAt_3b067_2 : decode cJ2_charAt_3b067 2 = .ok (.invokestatic 67, 3) := by decide +kernel
theorem dJ2_charAt_3b067_5 : decode cJ2_charAt_3b067 5 = .ok (.aload_n 0, 1) := by decide +kernel
theorem dJ2_charAt_3b067_6 : decode cJ2_charAt_3b067 6 = .ok (.iload_n 1, 1) := by decide +kernel
theorem dJ2_charAt_3b067_7 : decode cJ2_charAt_3b067 7 = .ok (.invokestatic 71, 3) := by decide +kernel
theorem dJ2_charAt_3b067_10 : decode cJ2_charAt_3b067 10 = .ok (.ireturn, 1) := by decide +kernel
theorem dJ2_checkIndex_2214a_0 : decode cJ2_checkIndex_2214a 0 = .ok (.iload_n 0, 1) := by decide +kernel
theorem dJ2_checkIndex_2214a_1 : decode cJ2_checkIndex_2214a 1 = .ok (.aload_n 1, 1) := by decide +kernel
theorem dJ2_checkIndex_2214a_2 : decode cJ2_checkIndex_2214a 2 = .ok (.invokestatic 48, 3) := by decide +kernel
theorem dJ2_checkIndex_2214a_5 : decode cJ2_checkIndex_2214a 5 = .ok (.invokestatic 414, 3) := by decide +kernel
theorem dJ2_checkIndex_2214a_8 : decode cJ2_checkIndex_2214a 8 = .ok (.return_, 1) := by decide +kernel
theorem dJ7_fill_d0a16_0 : decode cJ7_fill_d0a16 0 = .ok (.iconst 0, 1) := by decide +kernel
theorem dJ7_fill_d0a16_1 : decode cJ7_fill_d0a16 1 = .ok (.istore_n 3, 1) := by decide +kernel
theorem dJ7_fill_d0a16_2 : decode cJ7_fill_d0a16 2 = .ok (.aload_n 0, 1) := by decide +kernel
theorem dJ7_fill_d0a16_3 : decode cJ7_fill_d0a16 3 = .ok (.arraylength, 1) := by decide +kernel
theorem dJ7_fill_d0a16_4 : decode cJ7_fill_d0a16 4 = .ok (.istore 4, 2) := by decide +kernel
theorem dJ7_fill_d0a16_6 : decode cJ7_fill_d0a16 6 = .ok (.iload_n 3, 1) := by decide +kernel
theorem dJ7_fill_d0a16_7 : decode cJ7_fill_d0a16 7 = .ok (.iload 4, 2) := by decide +kernel
theorem dJ7_fill_d0a16_9 : decode cJ7_fill_d0a16 9 = .ok (.if_icmp .ge 13, 3) := by decide +kernel
theorem dJ7_fill_d0a16_12 : decode cJ7_fill_d0a16 12 = .ok (.aload_n 0, 1) := by decide +kernel
theorem dJ7_fill_d0a16_13 : decode cJ7_fill_d0a16 13 = .ok (.iload_n 3, 1) := by decide +kernel
theorem dJ7_fill_d0a16_14 : decode cJ7_fill_d0a16 14 = .ok (.lload_n 1, 1) := by decide +kernel
theorem dJ7_fill_d0a16_15 : decode cJ7_fill_d0a16 15 = .ok (.lastore, 1) := by decide +kernel
theorem dJ7_fill_d0a16_16 : decode cJ7_fill_d0a16 16 = .ok (.iinc 3 1, 3) := by decide +kernel
theorem dJ7_fill_d0a16_19 : decode cJ7_fill_d0a16 19 = .ok (.goto (-13), 3) := by decide +kernel
theorem dJ7_fill_d0a16_22 : decode cJ7_fill_d0a16 22 = .ok (.return_, 1) := by decide +kernel
theorem dJ7_fill_53178_0 : decode cJ7_fill_53178 0 = .ok (.iconst 0, 1) := by decide +kernel
theorem dJ7_fill_53178_1 : decode cJ7_fill_53178 1 = .ok (.istore_n 2, 1) := by decide +kernel
theorem dJ7_fill_53178_2 : decode cJ7_fill_53178 2 = .ok (.aload_n 0, 1) := by decide +kernel
theorem dJ7_fill_53178_3 : decode cJ7_fill_53178 3 = .ok (.arraylength, 1) := by decide +kernel
theorem dJ7_fill_53178_4 : decode cJ7_fill_53178 4 = .ok (.istore_n 3, 1) := by decide +kernel
theorem dJ7_fill_53178_5 : decode cJ7_fill_53178 5 = .ok (.iload_n 2, 1) := by decide +kernel
theorem dJ7_fill_53178_6 : decode cJ7_fill_53178 6 = .ok (.iload_n 3, 1) := by decide +kernel
theorem dJ7_fill_53178_7 : decode cJ7_fill_53178 7 = .ok (.if_icmp .ge 13, 3) := by decide +kernel
theorem dJ7_fill_53178_10 : decode cJ7_fill_53178 10 = .ok (.aload_n 0, 1) := by decide +kernel
theorem dJ7_fill_53178_11 : decode cJ7_fill_53178 11 = .ok (.iload_n 2, 1) := by decide +kernel
theorem dJ7_fill_53178_12 : decode cJ7_fill_53178 12 = .ok (.iload_n 1, 1) := by decide +kernel
theorem dJ7_fill_53178_13 : decode cJ7_fill_53178 13 = .ok (.iastore, 1) := by decide +kernel
theorem dJ7_fill_53178_14 : decode cJ7_fill_53178 14 = .ok (.iinc 2 1, 3) := by decide +kernel
theorem dJ7_fill_53178_17 : decode cJ7_fill_53178 17 = .ok (.goto (-12), 3) := by decide +kernel
theorem dJ7_fill_53178_20 : decode cJ7_fill_53178 20 = .ok (.return_, 1) := by decide +kernel
theorem dJ3_checkIndex_8e157_0 : decode cJ3_checkIndex_8e157 0 = .ok (.iload_n 0, 1) := by decide +kernel
theorem dJ3_checkIndex_8e157_1 : decode cJ3_checkIndex_8e157 1 = .ok (.ifCond .lt 8, 3) := by decide +kernel
theorem dJ3_checkIndex_8e157_4 : decode cJ3_checkIndex_8e157 4 = .ok (.iload_n 0, 1) := by decide +kernel
theorem dJ3_checkIndex_8e157_5 : decode cJ3_checkIndex_8e157 5 = .ok (.iload_n 1, 1) := by decide +kernel
theorem dJ3_checkIndex_8e157_6 : decode cJ3_checkIndex_8e157 6 = .ok (.if_icmp .lt 10, 3) := by decide +kernel
theorem dJ3_checkIndex_8e157_9 : decode cJ3_checkIndex_8e157 9 = .ok (.aload_n 2, 1) := by decide +kernel
theorem dJ3_checkIndex_8e157_10 : decode cJ3_checkIndex_8e157 10 = .ok (.iload_n 0, 1) := by decide +kernel
theorem dJ3_checkIndex_8e157_11 : decode cJ3_checkIndex_8e157 11 = .ok (.iload_n 1, 1) := by decide +kernel
theorem dJ3_checkIndex_8e157_12 : decode cJ3_checkIndex_8e157 12 = .ok (.invokestatic 95, 3) := by decide +kernel
theorem dJ3_checkIndex_8e157_15 : decode cJ3_checkIndex_8e157 15 = .ok (.athrow, 1) := by decide +kernel
theorem dJ3_checkIndex_8e157_16 : decode cJ3_checkIndex_8e157 16 = .ok (.iload_n 0, 1) := by decide +kernel
theorem dJ3_checkIndex_8e157_17 : decode cJ3_checkIndex_8e157 17 = .ok (.ireturn, 1) := by decide +kernel
