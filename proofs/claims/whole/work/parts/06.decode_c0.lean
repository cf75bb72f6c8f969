theorem dX11_init_0 : decode cX11_init 0 = .ok (.aload_n 0, 1) := by decide +kernel
theorem dX11_init_1 : decode cX11_init 1 = .ok (.invokespecial 3, 3) := by decide +kernel
theorem dX11_init_4 : decode cX11_init 4 = .ok (.aload_n 0, 1) := by decide +kernel
theorem dX11_init_5 : decode cX11_init 5 = .ok (.sipush 480, 3) := by decide +kernel
theorem dX11_init_8 : decode cX11_init 8 = .ok (.newarray .byte, 2) := by decide +kernel
theorem dX11_init_10 : decode cX11_init 10 = .ok (.putfield 9, 3) := by decide +kernel
theorem dX11_init_13 : decode cX11_init 13 = .ok (.aload_n 0, 1) := by decide +kernel
theorem dX11_init_14 : decode cX11_init 14 = .ok (.bipush 11, 2) := by decide +kernel
theorem dX11_init_16 : decode cX11_init 16 = .ok (.newarray .int, 2) := by decide +kernel
theorem dX11_init_18 : decode cX11_init 18 = .ok (.putfield 13, 3) := by decide +kernel
theorem dX11_init_21 : decode cX11_init 21 = .ok (.aload_n 0, 1) := by decide +kernel
theorem dX11_init_22 : decode cX11_init 22 = .ok (.bipush 9, 2) := by decide +kernel
theorem dX11_init_24 : decode cX11_init 24 = .ok (.newarray .int, 2) := by decide +kernel
theorem dX11_init_26 : decode cX11_init 26 = .ok (.putfield 17, 3) := by decide +kernel
theorem dX11_init_29 : decode cX11_init 29 = .ok (.aload_n 0, 1) := by decide +kernel
theorem dX11_init_30 : decode cX11_init 30 = .ok (.bipush 9, 2) := by decide +kernel
theorem dX11_init_32 : decode cX11_init 32 = .ok (.newarray .int, 2) := by decide +kernel
theorem dX11_init_34 : decode cX11_init 34 = .ok (.putfield 20, 3) := by decide +kernel
theorem dX11_init_37 : decode cX11_init 37 = .ok (.aload_n 0, 1) := by decide +kernel
theorem dX11_init_38 : decode cX11_init 38 = .ok (.bipush 120, 2) := by decide +kernel
theorem dX11_init_40 : decode cX11_init 40 = .ok (.newarray .int, 2) := by decide +kernel
theorem dX11_init_42 : decode cX11_init 42 = .ok (.putfield 23, 3) := by decide +kernel
theorem dX11_init_45 : decode cX11_init 45 = .ok (.aload_n 0, 1) := by decide +kernel
theorem dX11_init_46 : decode cX11_init 46 = .ok (.bipush 120, 2) := by decide +kernel
theorem dX11_init_48 : decode cX11_init 48 = .ok (.newarray .int, 2) := by decide +kernel
theorem dX11_init_50 : decode cX11_init 50 = .ok (.putfield 26, 3) := by decide +kernel
theorem dX11_init_53 : decode cX11_init 53 = .ok (.aload_n 0, 1) := by decide +kernel
theorem dX11_init_54 : decode cX11_init 54 = .ok (.sipush 300, 3) := by decide +kernel
theorem dX11_init_57 : decode cX11_init 57 = .ok (.newarray .int, 2) := by decide +kernel
theorem dX11_init_59 : decode cX11_init 59 = .ok (.putfield 29, 3) := by decide +kernel
theorem dX11_init_62 : decode cX11_init 62 = .ok (.aload_n 0, 1) := by decide +kernel
theorem dX11_init_63 : decode cX11_init 63 = .ok (.iconst 5, 1) := by decide +kernel
theorem dX11_init_64 : decode cX11_init 64 = .ok (.newarray .int, 2) := by decide +kernel
theorem dX11_init_66 : decode cX11_init 66 = .ok (.putfield 32, 3) := by decide +kernel
theorem dX11_init_69 : decode cX11_init 69 = .ok (.aload_n 0, 1) := by decide +kernel
theorem dX11_init_70 : decode cX11_init 70 = .ok (.iconst 4, 1) := by decide +kernel
theorem dX11_init_71 : decode cX11_init 71 = .ok (.newarray .int, 2) := by decide +kernel
theorem dX11_init_73 : decode cX11_init 73 = .ok (.putfield 35, 3) := by decide +kernel
theorem dX11_init_76 : decode cX11_init 76 = .ok (.aload_n 0, 1) := by decide +kernel
theorem dX11_init_77 : decode cX11_init 77 = .ok (.sipush 1242, 3) := by decide +kernel
theorem dX11_init_80 : decode cX11_init 80 = .ok (.newarray .int, 2) := by decide +kernel
theorem dX11_init_82 : decode cX11_init 82 = .ok (.putfield 38, 3) := by decide +kernel
theorem dX11_init_85 : decode cX11_init 85 = .ok (.aload_n 0, 1) := by decide +kernel
theorem dX11_init_86 : decode cX11_init 86 = .ok (.sipush 1242, 3) := by decide +kernel
theorem dX11_init_89 : decode cX11_init 89 = .ok (.newarray .int, 2) := by decide +kernel
theorem dX11_init_91 : decode cX11_init 91 = .ok (.putfield 41, 3) := by decide +kernel
theorem dX11_init_94 : decode cX11_init 94 = .ok (.aload_n 0, 1) := by decide +kernel
theorem dX11_init_95 : decode cX11_init 95 = .ok (.sipush 1242, 3) := by decide +kernel
theorem dX11_init_98 : decode cX11_init 98 = .ok (.newarray .int, 2) := by decide +kernel
theorem dX11_init_100 : decode cX11_init 100 = .ok (.putfield 44, 3) := by decide +kernel
theorem dX11_init_103 : decode cX11_init 103 = .ok (.aload_n 0, 1) := by decide +kernel
theorem dX11_init_104 : decode cX11_init 104 = .ok (.ldc 47, 2) := by decide +kernel
theorem dX11_init_106 : decode cX11_init 106 = .ok (.newarray .int, 2) := by decide +kernel
theorem dX11_init_108 : decode cX11_init 108 = .ok (.putfield 48, 3) := by decide +kernel
theorem dX11_init_111 : decode cX11_init 111 = .ok (.aload_n 0, 1) := by decide +kernel
theorem dX11_init_112 : decode cX11_init 112 = .ok (.iconst 3, 1) := by decide +kernel
theorem dX11_init_113 : decode cX11_init 113 = .ok (.newarray .int, 2) := by decide +kernel
theorem dX11_init_115 : decode cX11_init 115 = .ok (.putfield 51, 3) := by decide +kernel
theorem dX11_init_118 : decode cX11_init 118 = .ok (.aload_n 0, 1) := by decide +kernel
theorem dX11_init_119 : decode cX11_init 119 = .ok (.iconst 3, 1) := by decide +kernel
theorem dX11_init_120 : decode cX11_init 120 = .ok (.newarray .int, 2) := by decide +kernel
theorem dX11_init_122 : decode cX11_init 122 = .ok (.putfield 54, 3) := by decide +kernel
theorem dX11_init_125 : decode cX11_init 125 = .ok (.aload_n 0, 1) := by decide +kernel
theorem dX11_init_126 : decode cX11_init 126 = .ok (.iconst 3, 1) := by decide +kernel
theorem dX11_init_127 : decode cX11_init 127 = .ok (.newarray .int, 2) := by decide +kernel
theorem dX11_init_129 : decode cX11_init 129 = .ok (.putfield 57, 3) := by decide +kernel
theorem dX11_init_132 : decode cX11_init 132 = .ok (.aload_n 0, 1) := by decide +kernel
theorem dX11_init_133 : decode cX11_init 133 = .ok (.bipush 10, 2) := by decide +kernel
theorem dX11_init_135 : decode cX11_init 135 = .ok (.newarray .int, 2) := by decide +kernel
theorem dX11_init_137 : decode cX11_init 137 = .ok (.putfield 60, 3) := by decide +kernel
theorem dX11_init_140 : decode cX11_init 140 = .ok (.aload_n 0, 1) := by decide +kernel
theorem dX11_init_141 : decode cX11_init 141 = .ok (.bipush 64, 2) := by decide +kernel
theorem dX11_init_143 : decode cX11_init 143 = .ok (.newarray .int, 2) := by decide +kernel
theorem dX11_init_145 : decode cX11_init 145 = .ok (.putfield 63, 3) := by decide +kernel
theorem dX11_init_148 : decode cX11_init 148 = .ok (.aload_n 0, 1) := by decide +kernel
theorem dX11_init_149 : decode cX11_init 149 = .ok (.bipush 64, 2) := by decide +kernel
theorem dX11_init_151 : decode cX11_init 151 = .ok (.newarray .int, 2) := by decide +kernel
theorem dX11_init_153 : decode cX11_init 153 = .ok (.putfield 66, 3) := by decide +kernel
theorem dX11_init_156 : decode cX11_init 156 = .ok (.aload_n 0, 1) := by decide +kernel
theorem dX11_init_157 : decode cX11_init 157 = .ok (.bipush 64, 2) := by decide +kernel
theorem dX11_init_159 : decode cX11_init 159 = .ok (.newarray .int, 2) := by decide +kernel
theorem dX11_init_161 : decode cX11_init 161 = .ok (.putfield 69, 3) := by decide +kernel
theorem dX11_init_164 : decode cX11_init 164 = .ok (.aload_n 0, 1) := by decide +kernel
theorem dX11_init_165 : decode cX11_init 165 = .ok (.iconst 4, 1) := by decide +kernel
theorem dX11_init_166 : decode cX11_init 166 = .ok (.newarray .int, 2) := by decide +kernel
theorem dX11_init_168 : decode cX11_init 168 = .ok (.putfield 72, 3) := by decide +kernel
theorem dX11_init_171 : decode cX11_init 171 = .ok (.return_, 1) := by decide +kernel
theorem dX11_thrown_0 : decode cX11_thrown 0 = .ok (.aload_n 0, 1) := by decide +kernel
theorem dX11_thrown_1 : decode cX11_thrown 1 = .ok (.getfield 75, 3) := by decide +kernel
theorem dX11_thrown_4 : decode cX11_thrown 4 = .ok (.ireturn, 1) := by decide +kernel
theorem dX11_isIn_0 : decode cX11_isIn 0 = .ok (.lload_n 0, 1) := by decide +kernel
theorem dX11_isIn_1 : decode cX11_isIn 1 = .ok (.lload_n 2, 1) := by decide +kernel
theorem dX11_isIn_2 : decode cX11_isIn 2 = .ok (.lcmp, 1) := by decide +kernel
theorem dX11_isIn_3 : decode cX11_isIn 3 = .ok (.ifCond .lt 14, 3) := by decide +kernel
theorem dX11_isIn_6 : decode cX11_isIn 6 = .ok (.lload_n 0, 1) := by decide +kernel
theorem dX11_isIn_7 : decode cX11_isIn 7 = .ok (.lload 4, 2) := by decide +kernel
theorem dX11_isIn_9 : decode cX11_isIn 9 = .ok (.lcmp, 1) := by decide +kernel
theorem dX11_isIn_10 : decode cX11_isIn 10 = .ok (.ifCond .gt 7, 3) := by decide +kernel
theorem dX11_isIn_13 : decode cX11_isIn 13 = .ok (.iconst 1, 1) := by decide +kernel
theorem dX11_isIn_14 : decode cX11_isIn 14 = .ok (.goto 4, 3) := by decide +kernel
theorem dX11_isIn_17 : decode cX11_isIn 17 = .ok (.iconst 0, 1) := by decide +kernel
theorem dX11_isIn_18 : decode cX11_isIn 18 = .ok (.ireturn, 1) := by decide +kernel
theorem dX11_has_0 : decode cX11_has 0 = .ok (.iload_n 0, 1) := by decide +kernel
theorem dX11_has_1 : decode cX11_has 1 = .ok (.iload_n 1, 1) := by decide +kernel
theorem dX11_has_2 : decode cX11_has 2 = .ok (.ishr, 1) := by decide +kernel
theorem dX11_has_3 : decode cX11_has 3 = .ok (.iconst 1, 1) := by decide +kernel
theorem dX11_has_4 : decode cX11_has 4 = .ok (.iand, 1) := by decide +kernel
theorem dX11_has_5 : decode cX11_has 5 = .ok (.iconst 1, 1) := by decide +kernel
theorem dX11_has_6 : decode cX11_has 6 = .ok (.if_icmp .ne 7, 3) := by decide +kernel
theorem dX11_has_9 : decode cX11_has 9 = .ok (.iconst 1, 1) := by decide +kernel
theorem dX11_has_10 : decode cX11_has 10 = .ok (.goto 4, 3) := by decide +kernel
theorem dX11_has_13 : decode cX11_has 13 = .ok (.iconst 0, 1) := by decide +kernel
theorem dX11_has_14 : decode cX11_has 14 = .ok (.ireturn, 1) := by decide +kernel
theorem dX11_down_0 : decode cX11_down 0 = .ok (.lload_n 0, 1) := by decide +kernel
theorem dX11_down_1 : decode cX11_down 1 = .ok (.lload_n 2, 1) := by decide +kernel
theorem dX11_down_2 : decode cX11_down 2 = .ok (.ldiv, 1) := by decide +kernel
theorem dX11_down_3 : decode cX11_down 3 = .ok (.lstore 4, 2) := by decide +kernel
theorem dX11_down_5 : decode cX11_down 5 = .ok (.lload_n 0, 1) := by decide +kernel
theorem dX11_down_6 : decode cX11_down 6 = .ok (.lload_n 2, 1) := by decide +kernel
theorem dX11_down_7 : decode cX11_down 7 = .ok (.lrem, 1) := by decide +kernel
theorem dX11_down_8 : decode cX11_down 8 = .ok (.lconst 0, 1) := by decide +kernel
theorem dX11_down_9 : decode cX11_down 9 = .ok (.lcmp, 1) := by decide +kernel
theorem dX11_down_10 : decode cX11_down 10 = .ok (.ifCond .ge 10, 3) := by decide +kernel
theorem dX11_down_13 : decode cX11_down 13 = .ok (.lload 4, 2) := by decide +kernel
theorem dX11_down_15 : decode cX11_down 15 = .ok (.lconst 1, 1) := by decide +kernel
theorem dX11_down_16 : decode cX11_down 16 = .ok (.lsub, 1) := by decide +kernel
theorem dX11_down_17 : decode cX11_down 17 = .ok (.goto 5, 3) := by decide +kernel
theorem dX11_down_20 : decode cX11_down 20 = .ok (.lload 4, 2) := by decide +kernel
theorem dX11_down_22 : decode cX11_down 22 = .ok (.l2i, 1) := by decide +kernel
theorem dX11_down_23 : decode cX11_down 23 = .ok (.ireturn, 1) := by decide +kernel
theorem dX11_bytesOf_0 : decode cX11_bytesOf 0 = .ok (.iconst 0, 1) := by decide +kernel
theorem dX11_bytesOf_1 : decode cX11_bytesOf 1 = .ok (.istore_n 1, 1) := by decide +kernel
theorem dX11_bytesOf_2 : decode cX11_bytesOf 2 = .ok (.iconst 0, 1) := by decide +kernel
theorem dX11_bytesOf_3 : decode cX11_bytesOf 3 = .ok (.istore_n 2, 1) := by decide +kernel
theorem dX11_bytesOf_4 : decode cX11_bytesOf 4 = .ok (.iload_n 2, 1) := by decide +kernel
theorem dX11_bytesOf_5 : decode cX11_bytesOf 5 = .ok (.iconst 4, 1) := by decide +kernel
theorem dX11_bytesOf_6 : decode cX11_bytesOf 6 = .ok (.if_icmp .ge 30, 3) := by decide +kernel
theorem dX11_bytesOf_9 : decode cX11_bytesOf 9 = .ok (.iload_n 1, 1) := by decide +kernel
theorem dX11_bytesOf_10 : decode cX11_bytesOf 10 = .ok (.iload_n 0, 1) := by decide +kernel
theorem dX11_bytesOf_11 : decode cX11_bytesOf 11 = .ok (.bipush 8, 2) := by decide +kernel
theorem dX11_bytesOf_13 : decode cX11_bytesOf 13 = .ok (.iload_n 2, 1) := by decide +kernel
theorem dX11_bytesOf_14 : decode cX11_bytesOf 14 = .ok (.imul, 1) := by decide +kernel
theorem dX11_bytesOf_15 : decode cX11_bytesOf 15 = .ok (.ishr, 1) := by decide +kernel
theorem dX11_bytesOf_16 : decode cX11_bytesOf 16 = .ok (.sipush 255, 3) := by decide +kernel
theorem dX11_bytesOf_19 : decode cX11_bytesOf 19 = .ok (.iand, 1) := by decide +kernel
theorem dX11_bytesOf_20 : decode cX11_bytesOf 20 = .ok (.ifCond .ne 7, 3) := by decide +kernel
theorem dX11_bytesOf_23 : decode cX11_bytesOf 23 = .ok (.iconst 0, 1) := by decide +kernel
theorem dX11_bytesOf_24 : decode cX11_bytesOf 24 = .ok (.goto 4, 3) := by decide +kernel
theorem dX11_bytesOf_27 : decode cX11_bytesOf 27 = .ok (.iconst 1, 1) := by decide +kernel
theorem dX11_bytesOf_28 : decode cX11_bytesOf 28 = .ok (.iadd, 1) := by decide +kernel
theorem dX11_bytesOf_29 : decode cX11_bytesOf 29 = .ok (.istore_n 1, 1) := by decide +kernel
theorem dX11_bytesOf_30 : decode cX11_bytesOf 30 = .ok (.iinc 2 1, 3) := by decide +kernel
theorem dX11_bytesOf_33 : decode cX11_bytesOf 33 = .ok (.goto (-29), 3) := by decide +kernel
theorem dX11_bytesOf_36 : decode cX11_bytesOf 36 = .ok (.iload_n 1, 1) := by decide +kernel
theorem dX11_bytesOf_37 : decode cX11_bytesOf 37 = .ok (.ireturn, 1) := by decide +kernel
theorem dX11_brings_0 : decode cX11_brings 0 = .ok (.bipush 24, 2) := by decide +kernel
theorem dX11_brings_2 : decode cX11_brings 2 = .ok (.istore_n 2, 1) := by decide +kernel
theorem dX11_brings_3 : decode cX11_brings 3 = .ok (.iload_n 2, 1) := by decide +kernel
theorem dX11_brings_4 : decode cX11_brings 4 = .ok (.ifCond .lt 45, 3) := by decide +kernel
theorem dX11_brings_7 : decode cX11_brings 7 = .ok (.iload_n 1, 1) := by decide +kernel
theorem dX11_brings_8 : decode cX11_brings 8 = .ok (.iload_n 2, 1) := by decide +kernel
theorem dX11_brings_9 : decode cX11_brings 9 = .ok (.ishr, 1) := by decide +kernel
theorem dX11_brings_10 : decode cX11_brings 10 = .ok (.sipush 255, 3) := by decide +kernel
theorem dX11_brings_13 : decode cX11_brings 13 = .ok (.iand, 1) := by decide +kernel
theorem dX11_brings_14 : decode cX11_brings 14 = .ok (.istore_n 3, 1) := by decide +kernel
theorem dX11_brings_15 : decode cX11_brings 15 = .ok (.iload_n 3, 1) := by decide +kernel
theorem dX11_brings_16 : decode cX11_brings 16 = .ok (.ifCond .ne 6, 3) := by decide +kernel
theorem dX11_brings_19 : decode cX11_brings 19 = .ok (.goto 24, 3) := by decide +kernel
theorem dX11_brings_22 : decode cX11_brings 22 = .ok (.aload_n 0, 1) := by decide +kernel
theorem dX11_brings_23 : decode cX11_brings 23 = .ok (.getfield 9, 3) := by decide +kernel
theorem dX11_brings_26 : decode cX11_brings 26 = .ok (.aload_n 0, 1) := by decide +kernel
theorem dX11_brings_27 : decode cX11_brings 27 = .ok (.getfield 79, 3) := by decide +kernel
theorem dX11_brings_30 : decode cX11_brings 30 = .ok (.iload_n 3, 1) := by decide +kernel
theorem dX11_brings_31 : decode cX11_brings 31 = .ok (.i2b, 1) := by decide +kernel
theorem dX11_brings_32 : decode cX11_brings 32 = .ok (.bastore, 1) := by decide +kernel
theorem dX11_brings_33 : decode cX11_brings 33 = .ok (.aload_n 0, 1) := by decide +kernel
theorem dX11_brings_34 : decode cX11_brings 34 = .ok (.dup, 1) := by decide +kernel
theorem dX11_brings_35 : decode cX11_brings 35 = .ok (.getfield 79, 3) := by decide +kernel
theorem dX11_brings_38 : decode cX11_brings 38 = .ok (.iconst 1, 1) := by decide +kernel
theorem dX11_brings_39 : decode cX11_brings 39 = .ok (.iadd, 1) := by decide +kernel
theorem dX11_brings_40 : decode cX11_brings 40 = .ok (.putfield 79, 3) := by decide +kernel
theorem dX11_brings_43 : decode cX11_brings 43 = .ok (.iinc 2 (-8), 3) := by decide +kernel
theorem dX11_brings_46 : decode cX11_brings 46 = .ok (.goto (-43), 3) := by decide +kernel
theorem dX11_brings_49 : decode cX11_brings 49 = .ok (.return_, 1) := by decide +kernel
theorem dX11_feed_0 : decode cX11_feed 0 = .ok (.aload_n 0, 1) := by decide +kernel
theorem dX11_feed_1 : decode cX11_feed 1 = .ok (.iconst 0, 1) := by decide +kernel
theorem dX11_feed_2 : decode cX11_feed 2 = .ok (.putfield 75, 3) := by decide +kernel
theorem dX11_feed_5 : decode cX11_feed 5 = .ok (.aload_n 0, 1) := by decide +kernel
theorem dX11_feed_6 : decode cX11_feed 6 = .ok (.getfield 79, 3) := by decide +kernel
theorem dX11_feed_9 : decode cX11_feed 9 = .ok (.iload_n 1, 1) := by decide +kernel
theorem dX11_feed_10 : decode cX11_feed 10 = .ok (.invokestatic 82, 3) := by decide +kernel
theorem dX11_feed_13 : decode cX11_feed 13 = .ok (.iadd, 1) := by decide +kernel
theorem dX11_feed_14 : decode cX11_feed 14 = .ok (.iload_n 2, 1) := by decide +kernel
theorem dX11_feed_15 : decode cX11_feed 15 = .ok (.invokestatic 82, 3) := by decide +kernel
theorem dX11_feed_18 : decode cX11_feed 18 = .ok (.iadd, 1) := by decide +kernel
theorem dX11_feed_19 : decode cX11_feed 19 = .ok (.iload_n 3, 1) := by decide +kernel
theorem dX11_feed_20 : decode cX11_feed 20 = .ok (.invokestatic 82, 3) := by decide +kernel
theorem dX11_feed_23 : decode cX11_feed 23 = .ok (.iadd, 1) := by decide +kernel
theorem dX11_feed_24 : decode cX11_feed 24 = .ok (.iload 4, 2) := by decide +kernel
theorem dX11_feed_26 : decode cX11_feed 26 = .ok (.invokestatic 82, 3) := by decide +kernel
theorem dX11_feed_29 : decode cX11_feed 29 = .ok (.iadd, 1) := by decide +kernel
theorem dX11_feed_30 : decode cX11_feed 30 = .ok (.iload 5, 2) := by decide +kernel
theorem dX11_feed_32 : decode cX11_feed 32 = .ok (.invokestatic 82, 3) := by decide +kernel
theorem dX11_feed_35 : decode cX11_feed 35 = .ok (.iadd, 1) := by decide +kernel
theorem dX11_feed_36 : decode cX11_feed 36 = .ok (.sipush 480, 3) := by decide +kernel
theorem dX11_feed_39 : decode cX11_feed 39 = .ok (.if_icmp .le 5, 3) := by decide +kernel
theorem dX11_feed_42 : decode cX11_feed 42 = .ok (.iconst (-1), 1) := by decide +kernel
theorem dX11_feed_43 : decode cX11_feed 43 = .ok (.ireturn, 1) := by decide +kernel
theorem dX11_feed_44 : decode cX11_feed 44 = .ok (.aload_n 0, 1) := by decide +kernel
theorem dX11_feed_45 : decode cX11_feed 45 = .ok (.iload_n 1, 1) := by decide +kernel
theorem dX11_feed_46 : decode cX11_feed 46 = .ok (.invokevirtual 86, 3) := by decide +kernel
theorem dX11_feed_49 : decode cX11_feed 49 = .ok (.aload_n 0, 1) := by decide +kernel
theorem dX11_feed_50 : decode cX11_feed 50 = .ok (.iload_n 2, 1) := by decide +kernel
theorem dX11_feed_51 : decode cX11_feed 51 = .ok (.invokevirtual 86, 3) := by decide +kernel
theorem dX11_feed_54 : decode cX11_feed 54 = .ok (.aload_n 0, 1) := by decide +kernel
theorem dX11_feed_55 : decode cX11_feed 55 = .ok (.iload_n 3, 1) := by decide +kernel
theorem dX11_feed_56 : decode cX11_feed 56 = .ok (.invokevirtual 86, 3) := by decide +kernel
theorem dX11_feed_59 : decode cX11_feed 59 = .ok (.aload_n 0, 1) := by decide +kernel
theorem dX11_feed_60 : decode cX11_feed 60 = .ok (.iload 4, 2) := by decide +kernel
theorem dX11_feed_62 : decode cX11_feed 62 = .ok (.invokevirtual 86, 3) := by decide +kernel
theorem dX11_feed_65 : decode cX11_feed 65 = .ok (.aload_n 0, 1) := by decide +kernel
theorem dX11_feed_66 : decode cX11_feed 66 = .ok (.iload 5, 2) := by decide +kernel
theorem dX11_feed_68 : decode cX11_feed 68 = .ok (.invokevirtual 86, 3) := by decide +kernel
theorem dX11_feed_71 : decode cX11_feed 71 = .ok (.aload_n 0, 1) := by decide +kernel
theorem dX11_feed_72 : decode cX11_feed 72 = .ok (.getfield 79, 3) := by decide +kernel
theorem dX11_feed_75 : decode cX11_feed 75 = .ok (.ireturn, 1) := by decide +kernel
theorem dX11_end_0 : decode cX11_end 0 = .ok (.aload_n 0, 1) := by decide +kernel
theorem dX11_end_1 : decode cX11_end 1 = .ok (.iconst 0, 1) := by decide +kernel
theorem dX11_end_2 : decode cX11_end 2 = .ok (.putfield 75, 3) := by decide +kernel
theorem dX11_end_5 : decode cX11_end 5 = .ok (.iload_n 1, 1) := by decide +kernel
theorem dX11_end_6 : decode cX11_end 6 = .ok (.ifCond .lt 11, 3) := by decide +kernel
theorem dX11_end_9 : decode cX11_end 9 = .ok (.iload_n 1, 1) := by decide +kernel
theorem dX11_end_10 : decode cX11_end 10 = .ok (.aload_n 0, 1) := by decide +kernel
theorem dX11_end_11 : decode cX11_end 11 = .ok (.getfield 79, 3) := by decide +kernel
theorem dX11_end_14 : decode cX11_end 14 = .ok (.if_icmp .le 5, 3) := by decide +kernel
theorem dX11_end_17 : decode cX11_end 17 = .ok (.iconst 0, 1) := by decide +kernel
theorem dX11_end_18 : decode cX11_end 18 = .ok (.ireturn, 1) := by decide +kernel
theorem dX11_end_19 : decode cX11_end 19 = .ok (.aload_n 0, 1) := by decide +kernel
theorem dX11_end_20 : decode cX11_end 20 = .ok (.iload_n 1, 1) := by decide +kernel
theorem dX11_end_21 : decode cX11_end 21 = .ok (.putfield 79, 3) := by decide +kernel
theorem dX11_end_24 : decode cX11_end 24 = .ok (.iconst 1, 1) := by decide +kernel
theorem dX11_end_25 : decode cX11_end 25 = .ok (.ireturn, 1) := by decide +kernel
theorem dX11_here_0 : decode cX11_here 0 = .ok (.aload_n 0, 1) := by decide +kernel
theorem dX11_here_1 : decode cX11_here 1 = .ok (.getfield 90, 3) := by decide +kernel
theorem dX11_here_4 : decode cX11_here 4 = .ok (.aload_n 0, 1) := by decide +kernel
theorem dX11_here_5 : decode cX11_here 5 = .ok (.getfield 79, 3) := by decide +kernel
theorem dX11_here_8 : decode cX11_here 8 = .ok (.if_icmp .ge 19, 3) := by decide +kernel
theorem dX11_here_11 : decode cX11_here 11 = .ok (.aload_n 0, 1) := by decide +kernel
theorem dX11_here_12 : decode cX11_here 12 = .ok (.getfield 9, 3) := by decide +kernel
theorem dX11_here_15 : decode cX11_here 15 = .ok (.aload_n 0, 1) := by decide +kernel
theorem dX11_here_16 : decode cX11_here 16 = .ok (.getfield 90, 3) := by decide +kernel
theorem dX11_here_19 : decode cX11_here 19 = .ok (.baload, 1) := by decide +kernel
theorem dX11_here_20 : decode cX11_here 20 = .ok (.sipush 255, 3) := by decide +kernel
theorem dX11_here_23 : decode cX11_here 23 = .ok (.iand, 1) := by decide +kernel
theorem dX11_here_24 : decode cX11_here 24 = .ok (.goto 4, 3) := by decide +kernel
theorem dX11_here_27 : decode cX11_here 27 = .ok (.iconst (-1), 1) := by decide +kernel
theorem dX11_here_28 : decode cX11_here 28 = .ok (.ireturn, 1) := by decide +kernel
theorem dX11_look_0 : decode cX11_look 0 = .ok (.aload_n 0, 1) := by decide +kernel
theorem dX11_look_1 : decode cX11_look 1 = .ok (.invokevirtual 93, 3) := by decide +kernel
theorem dX11_look_4 : decode cX11_look 4 = .ok (.bipush 32, 2) := by decide +kernel
theorem dX11_look_6 : decode cX11_look 6 = .ok (.if_icmp .ne 16, 3) := by decide +kernel
theorem dX11_look_9 : decode cX11_look 9 = .ok (.aload_n 0, 1) := by decide +kernel
theorem dX11_look_10 : decode cX11_look 10 = .ok (.dup, 1) := by decide +kernel
theorem dX11_look_11 : decode cX11_look 11 = .ok (.getfield 90, 3) := by decide +kernel
theorem dX11_look_14 : decode cX11_look 14 = .ok (.iconst 1, 1) := by decide +kernel
theorem dX11_look_15 : decode cX11_look 15 = .ok (.iadd, 1) := by decide +kernel
theorem dX11_look_16 : decode cX11_look 16 = .ok (.putfield 90, 3) := by decide +kernel
theorem dX11_look_19 : decode cX11_look 19 = .ok (.goto (-19), 3) := by decide +kernel
theorem dX11_look_22 : decode cX11_look 22 = .ok (.aload_n 0, 1) := by decide +kernel
theorem dX11_look_23 : decode cX11_look 23 = .ok (.invokevirtual 93, 3) := by decide +kernel
theorem dX11_look_26 : decode cX11_look 26 = .ok (.ireturn, 1) := by decide +kernel
theorem dX11_fails_0 : decode cX11_fails 0 = .ok (.aload_n 0, 1) := by decide +kernel
theorem dX11_fails_1 : decode cX11_fails 1 = .ok (.getfield 97, 3) := by decide +kernel
theorem dX11_fails_4 : decode cX11_fails 4 = .ok (.iconst (-1), 1) := by decide +kernel
theorem dX11_fails_5 : decode cX11_fails 5 = .ok (.if_icmp .ne 8, 3) := by decide +kernel
theorem dX11_fails_8 : decode cX11_fails 8 = .ok (.aload_n 0, 1) := by decide +kernel
theorem dX11_fails_9 : decode cX11_fails 9 = .ok (.iload_n 1, 1) := by decide +kernel
theorem dX11_fails_10 : decode cX11_fails 10 = .ok (.putfield 97, 3) := by decide +kernel
theorem dX11_fails_13 : decode cX11_fails 13 = .ok (.return_, 1) := by decide +kernel
theorem dX11_isLetter_0 : decode cX11_isLetter 0 = .ok (.aload_n 0, 1) := by decide +kernel
theorem dX11_isLetter_1 : decode cX11_isLetter 1 = .ok (.invokevirtual 93, 3) := by decide +kernel
theorem dX11_isLetter_4 : decode cX11_isLetter 4 = .ok (.bipush 97, 2) := by decide +kernel
theorem dX11_isLetter_6 : decode cX11_isLetter 6 = .ok (.if_icmp .lt 16, 3) := by decide +kernel
theorem dX11_isLetter_9 : decode cX11_isLetter 9 = .ok (.aload_n 0, 1) := by decide +kernel
theorem dX11_isLetter_10 : decode cX11_isLetter 10 = .ok (.invokevirtual 93, 3) := by decide +kernel
theorem dX11_isLetter_13 : decode cX11_isLetter 13 = .ok (.bipush 122, 2) := by decide +kernel
theorem dX11_isLetter_15 : decode cX11_isLetter 15 = .ok (.if_icmp .gt 7, 3) := by decide +kernel
theorem dX11_isLetter_18 : decode cX11_isLetter 18 = .ok (.iconst 1, 1) := by decide +kernel
theorem dX11_isLetter_19 : decode cX11_isLetter 19 = .ok (.goto 4, 3) := by decide +kernel
theorem dX11_isLetter_22 : decode cX11_isLetter 22 = .ok (.iconst 0, 1) := by decide +kernel
theorem dX11_isLetter_23 : decode cX11_isLetter 23 = .ok (.ireturn, 1) := by decide +kernel
theorem dX11_isDigit_0 : decode cX11_isDigit 0 = .ok (.aload_n 0, 1) := by decide +kernel
theorem dX11_isDigit_1 : decode cX11_isDigit 1 = .ok (.invokevirtual 93, 3) := by decide +kernel
theorem dX11_isDigit_4 : decode cX11_isDigit 4 = .ok (.bipush 48, 2) := by decide +kernel
theorem dX11_isDigit_6 : decode cX11_isDigit 6 = .ok (.if_icmp .lt 16, 3) := by decide +kernel
theorem dX11_isDigit_9 : decode cX11_isDigit 9 = .ok (.aload_n 0, 1) := by decide +kernel
theorem dX11_isDigit_10 : decode cX11_isDigit 10 = .ok (.invokevirtual 93, 3) := by decide +kernel
theorem dX11_isDigit_13 : decode cX11_isDigit 13 = .ok (.bipush 57, 2) := by decide +kernel
theorem dX11_isDigit_15 : decode cX11_isDigit 15 = .ok (.if_icmp .gt 7, 3) := by decide +kernel
theorem dX11_isDigit_18 : decode cX11_isDigit 18 = .ok (.iconst 1, 1) := by decide +kernel
theorem dX11_isDigit_19 : decode cX11_isDigit 19 = .ok (.goto 4, 3) := by decide +kernel
theorem dX11_isDigit_22 : decode cX11_isDigit 22 = .ok (.iconst 0, 1) := by decide +kernel
theorem dX11_isDigit_23 : decode cX11_isDigit 23 = .ok (.ireturn, 1) := by decide +kernel
theorem dX11_wordAmong_0 : decode cX11_wordAmong 0 = .ok (.iconst 0, 1) := by decide +kernel
theorem dX11_wordAmong_1 : decode cX11_wordAmong 1 = .ok (.istore 4, 2) := by decide +kernel
theorem dX11_wordAmong_3 : decode cX11_wordAmong 3 = .ok (.iconst 0, 1) := by decide +kernel
theorem dX11_wordAmong_4 : decode cX11_wordAmong 4 = .ok (.istore 5, 2) := by decide +kernel
theorem dX11_wordAmong_6 : decode cX11_wordAmong 6 = .ok (.iload 5, 2) := by decide +kernel
theorem dX11_wordAmong_8 : decode cX11_wordAmong 8 = .ok (.aload_n 1, 1) := by decide +kernel
theorem dX11_wordAmong_9 : decode cX11_wordAmong 9 = .ok (.invokevirtual 100, 3) := by decide +kernel
theorem dX11_wordAmong_12 : decode cX11_wordAmong 12 = .ok (.if_icmp .ge 113, 3) := by decide +kernel
theorem dX11_wordAmong_15 : decode cX11_wordAmong 15 = .ok (.iconst 0, 1) := by decide +kernel
theorem dX11_wordAmong_16 : decode cX11_wordAmong 16 = .ok (.istore 6, 2) := by decide +kernel
theorem dX11_wordAmong_18 : decode cX11_wordAmong 18 = .ok (.aload_n 1, 1) := by decide +kernel
theorem dX11_wordAmong_19 : decode cX11_wordAmong 19 = .ok (.iload 5, 2) := by decide +kernel
theorem dX11_wordAmong_21 : decode cX11_wordAmong 21 = .ok (.iload 6, 2) := by decide +kernel
theorem dX11_wordAmong_23 : decode cX11_wordAmong 23 = .ok (.iadd, 1) := by decide +kernel
theorem dX11_wordAmong_24 : decode cX11_wordAmong 24 = .ok (.invokevirtual 104, 3) := by decide +kernel
theorem dX11_wordAmong_27 : decode cX11_wordAmong 27 = .ok (.bipush 32, 2) := by decide +kernel
theorem dX11_wordAmong_29 : decode cX11_wordAmong 29 = .ok (.if_icmp .eq 9, 3) := by decide +kernel
theorem dX11_wordAmong_32 : decode cX11_wordAmong 32 = .ok (.iinc 6 1, 3) := by decide +kernel
theorem dX11_wordAmong_35 : decode cX11_wordAmong 35 = .ok (.goto (-17), 3) := by decide +kernel
theorem dX11_wordAmong_38 : decode cX11_wordAmong 38 = .ok (.iload 6, 2) := by decide +kernel
theorem dX11_wordAmong_40 : decode cX11_wordAmong 40 = .ok (.iload_n 3, 1) := by decide +kernel
theorem dX11_wordAmong_41 : decode cX11_wordAmong 41 = .ok (.iload_n 2, 1) := by decide +kernel
theorem dX11_wordAmong_42 : decode cX11_wordAmong 42 = .ok (.isub, 1) := by decide +kernel
theorem dX11_wordAmong_43 : decode cX11_wordAmong 43 = .ok (.if_icmp .ne 7, 3) := by decide +kernel
theorem dX11_wordAmong_46 : decode cX11_wordAmong 46 = .ok (.iconst 1, 1) := by decide +kernel
theorem dX11_wordAmong_47 : decode cX11_wordAmong 47 = .ok (.goto 4, 3) := by decide +kernel
theorem dX11_wordAmong_50 : decode cX11_wordAmong 50 = .ok (.iconst 0, 1) := by decide +kernel
theorem dX11_wordAmong_51 : decode cX11_wordAmong 51 = .ok (.istore 7, 2) := by decide +kernel
theorem dX11_wordAmong_53 : decode cX11_wordAmong 53 = .ok (.iconst 0, 1) := by decide +kernel
theorem dX11_wordAmong_54 : decode cX11_wordAmong 54 = .ok (.istore 8, 2) := by decide +kernel
theorem dX11_wordAmong_56 : decode cX11_wordAmong 56 = .ok (.iload 8, 2) := by decide +kernel
theorem dX11_wordAmong_58 : decode cX11_wordAmong 58 = .ok (.iload 6, 2) := by decide +kernel
theorem dX11_wordAmong_60 : decode cX11_wordAmong 60 = .ok (.if_icmp .ge 42, 3) := by decide +kernel
theorem dX11_wordAmong_63 : decode cX11_wordAmong 63 = .ok (.iload 7, 2) := by decide +kernel
theorem dX11_wordAmong_65 : decode cX11_wordAmong 65 = .ok (.ifCond .eq 37, 3) := by decide +kernel
theorem dX11_wordAmong_68 : decode cX11_wordAmong 68 = .ok (.aload_n 1, 1) := by decide +kernel
theorem dX11_wordAmong_69 : decode cX11_wordAmong 69 = .ok (.iload 5, 2) := by decide +kernel
theorem dX11_wordAmong_71 : decode cX11_wordAmong 71 = .ok (.iload 8, 2) := by decide +kernel
theorem dX11_wordAmong_73 : decode cX11_wordAmong 73 = .ok (.iadd, 1) := by decide +kernel
theorem dX11_wordAmong_74 : decode cX11_wordAmong 74 = .ok (.invokevirtual 104, 3) := by decide +kernel
theorem dX11_wordAmong_77 : decode cX11_wordAmong 77 = .ok (.aload_n 0, 1) := by decide +kernel
theorem dX11_wordAmong_78 : decode cX11_wordAmong 78 = .ok (.getfield 9, 3) := by decide +kernel
theorem dX11_wordAmong_81 : decode cX11_wordAmong 81 = .ok (.iload_n 2, 1) := by decide +kernel
theorem dX11_wordAmong_82 : decode cX11_wordAmong 82 = .ok (.iload 8, 2) := by decide +kernel
theorem dX11_wordAmong_84 : decode cX11_wordAmong 84 = .ok (.iadd, 1) := by decide +kernel
theorem dX11_wordAmong_85 : decode cX11_wordAmong 85 = .ok (.baload, 1) := by decide +kernel
theorem dX11_wordAmong_86 : decode cX11_wordAmong 86 = .ok (.if_icmp .ne 7, 3) := by decide +kernel
theorem dX11_wordAmong_89 : decode cX11_wordAmong 89 = .ok (.iconst 1, 1) := by decide +kernel
theorem dX11_wordAmong_90 : decode cX11_wordAmong 90 = .ok (.goto 4, 3) := by decide +kernel
theorem dX11_wordAmong_93 : decode cX11_wordAmong 93 = .ok (.iconst 0, 1) := by decide +kernel
theorem dX11_wordAmong_94 : decode cX11_wordAmong 94 = .ok (.istore 7, 2) := by decide +kernel
theorem dX11_wordAmong_96 : decode cX11_wordAmong 96 = .ok (.iinc 8 1, 3) := by decide +kernel
theorem dX11_wordAmong_99 : decode cX11_wordAmong 99 = .ok (.goto (-43), 3) := by decide +kernel
theorem dX11_wordAmong_102 : decode cX11_wordAmong 102 = .ok (.iload 7, 2) := by decide +kernel
theorem dX11_wordAmong_104 : decode cX11_wordAmong 104 = .ok (.ifCond .eq 6, 3) := by decide +kernel
theorem dX11_wordAmong_107 : decode cX11_wordAmong 107 = .ok (.iload 4, 2) := by decide +kernel
theorem dX11_wordAmong_109 : decode cX11_wordAmong 109 = .ok (.ireturn, 1) := by decide +kernel
theorem dX11_wordAmong_110 : decode cX11_wordAmong 110 = .ok (.iinc 4 1, 3) := by decide +kernel
theorem dX11_wordAmong_113 : decode cX11_wordAmong 113 = .ok (.iload 5, 2) := by decide +kernel
theorem dX11_wordAmong_115 : decode cX11_wordAmong 115 = .ok (.iload 6, 2) := by decide +kernel
theorem dX11_wordAmong_117 : decode cX11_wordAmong 117 = .ok (.iconst 1, 1) := by decide +kernel
theorem dX11_wordAmong_118 : decode cX11_wordAmong 118 = .ok (.iadd, 1) := by decide +kernel
theorem dX11_wordAmong_119 : decode cX11_wordAmong 119 = .ok (.iadd, 1) := by decide +kernel
theorem dX11_wordAmong_120 : decode cX11_wordAmong 120 = .ok (.istore 5, 2) := by decide +kernel
theorem dX11_wordAmong_122 : decode cX11_wordAmong 122 = .ok (.goto (-116), 3) := by decide +kernel
theorem dX11_wordAmong_125 : decode cX11_wordAmong 125 = .ok (.iconst (-1), 1) := by decide +kernel
theorem dX11_wordAmong_126 : decode cX11_wordAmong 126 = .ok (.ireturn, 1) := by decide +kernel
theorem dX11_word_0 : decode cX11_word 0 = .ok (.aload_n 0, 1) := by decide +kernel
theorem dX11_word_1 : decode cX11_word 1 = .ok (.invokevirtual 108, 3) := by decide +kernel
theorem dX11_word_4 : decode cX11_word 4 = .ok (.istore_n 2, 1) := by decide +kernel
theorem dX11_word_5 : decode cX11_word 5 = .ok (.aload_n 0, 1) := by decide +kernel
theorem dX11_word_6 : decode cX11_word 6 = .ok (.aload_n 0, 1) := by decide +kernel
theorem dX11_word_7 : decode cX11_word 7 = .ok (.getfield 90, 3) := by decide +kernel
theorem dX11_word_10 : decode cX11_word 10 = .ok (.putfield 111, 3) := by decide +kernel
theorem dX11_word_13 : decode cX11_word 13 = .ok (.aload_n 0, 1) := by decide +kernel
theorem dX11_word_14 : decode cX11_word 14 = .ok (.invokevirtual 114, 3) := by decide +kernel
theorem dX11_word_17 : decode cX11_word 17 = .ok (.ifCond .eq 16, 3) := by decide +kernel
theorem dX11_word_20 : decode cX11_word 20 = .ok (.aload_n 0, 1) := by decide +kernel
theorem dX11_word_21 : decode cX11_word 21 = .ok (.dup, 1) := by decide +kernel
theorem dX11_word_22 : decode cX11_word 22 = .ok (.getfield 90, 3) := by decide +kernel
theorem dX11_word_25 : decode cX11_word 25 = .ok (.iconst 1, 1) := by decide +kernel
theorem dX11_word_26 : decode cX11_word 26 = .ok (.iadd, 1) := by decide +kernel
theorem dX11_word_27 : decode cX11_word 27 = .ok (.putfield 90, 3) := by decide +kernel
theorem dX11_word_30 : decode cX11_word 30 = .ok (.goto (-17), 3) := by decide +kernel
theorem dX11_word_33 : decode cX11_word 33 = .ok (.aload_n 0, 1) := by decide +kernel
theorem dX11_word_34 : decode cX11_word 34 = .ok (.aload_n 1, 1) := by decide +kernel
theorem dX11_word_35 : decode cX11_word 35 = .ok (.aload_n 0, 1) := by decide +kernel
theorem dX11_word_36 : decode cX11_word 36 = .ok (.getfield 111, 3) := by decide +kernel
theorem dX11_word_39 : decode cX11_word 39 = .ok (.aload_n 0, 1) := by decide +kernel
theorem dX11_word_40 : decode cX11_word 40 = .ok (.getfield 90, 3) := by decide +kernel
theorem dX11_word_43 : decode cX11_word 43 = .ok (.invokevirtual 118, 3) := by decide +kernel
theorem dX11_word_46 : decode cX11_word 46 = .ok (.ireturn, 1) := by decide +kernel
theorem dX11_number_0 : decode cX11_number 0 = .ok (.aload_n 0, 1) := by decide +kernel
theorem dX11_number_1 : decode cX11_number 1 = .ok (.invokevirtual 108, 3) := by decide +kernel
theorem dX11_number_4 : decode cX11_number 4 = .ok (.istore_n 1, 1) := by decide +kernel
theorem dX11_number_5 : decode cX11_number 5 = .ok (.aload_n 0, 1) := by decide +kernel
theorem dX11_number_6 : decode cX11_number 6 = .ok (.aload_n 0, 1) := by decide +kernel
theorem dX11_number_7 : decode cX11_number 7 = .ok (.getfield 90, 3) := by decide +kernel
theorem dX11_number_10 : decode cX11_number 10 = .ok (.putfield 122, 3) := by decide +kernel
theorem dX11_number_13 : decode cX11_number 13 = .ok (.iload_n 1, 1) := by decide +kernel
theorem dX11_number_14 : decode cX11_number 14 = .ok (.bipush 45, 2) := by decide +kernel
theorem dX11_number_16 : decode cX11_number 16 = .ok (.if_icmp .ne 7, 3) := by decide +kernel
theorem dX11_number_19 : decode cX11_number 19 = .ok (.iconst 1, 1) := by decide +kernel
theorem dX11_number_20 : decode cX11_number 20 = .ok (.goto 4, 3) := by decide +kernel
theorem dX11_number_23 : decode cX11_number 23 = .ok (.iconst 0, 1) := by decide +kernel
theorem dX11_number_24 : decode cX11_number 24 = .ok (.istore_n 2, 1) := by decide +kernel
theorem dX11_number_25 : decode cX11_number 25 = .ok (.iload_n 2, 1) := by decide +kernel
theorem dX11_number_26 : decode cX11_number 26 = .ok (.ifCond .eq 13, 3) := by decide +kernel
theorem dX11_number_29 : decode cX11_number 29 = .ok (.aload_n 0, 1) := by decide +kernel
theorem dX11_number_30 : decode cX11_number 30 = .ok (.dup, 1) := by decide +kernel
theorem dX11_number_31 : decode cX11_number 31 = .ok (.getfield 90, 3) := by decide +kernel
theorem dX11_number_34 : decode cX11_number 34 = .ok (.iconst 1, 1) := by decide +kernel
theorem dX11_number_35 : decode cX11_number 35 = .ok (.iadd, 1) := by decide +kernel
theorem dX11_number_36 : decode cX11_number 36 = .ok (.putfield 90, 3) := by decide +kernel
theorem dX11_number_39 : decode cX11_number 39 = .ok (.aload_n 0, 1) := by decide +kernel
theorem dX11_number_40 : decode cX11_number 40 = .ok (.invokevirtual 125, 3) := by decide +kernel
theorem dX11_number_43 : decode cX11_number 43 = .ok (.ifCond .ne 13, 3) := by decide +kernel
theorem dX11_number_46 : decode cX11_number 46 = .ok (.aload_n 0, 1) := by decide +kernel
theorem dX11_number_47 : decode cX11_number 47 = .ok (.aload_n 0, 1) := by decide +kernel
theorem dX11_number_48 : decode cX11_number 48 = .ok (.getfield 122, 3) := by decide +kernel
theorem dX11_number_51 : decode cX11_number 51 = .ok (.invokevirtual 128, 3) := by decide +kernel
theorem dX11_number_54 : decode cX11_number 54 = .ok (.iconst 0, 1) := by decide +kernel
theorem dX11_number_55 : decode cX11_number 55 = .ok (.ireturn, 1) := by decide +kernel
theorem dX11_number_56 : decode cX11_number 56 = .ok (.iconst 0, 1) := by decide +kernel
theorem dX11_number_57 : decode cX11_number 57 = .ok (.istore_n 3, 1) := by decide +kernel
theorem dX11_number_58 : decode cX11_number 58 = .ok (.aload_n 0, 1) := by decide +kernel
theorem dX11_number_59 : decode cX11_number 59 = .ok (.invokevirtual 125, 3) := by decide +kernel
theorem dX11_number_62 : decode cX11_number 62 = .ok (.ifCond .eq 39, 3) := by decide +kernel
theorem dX11_number_65 : decode cX11_number 65 = .ok (.iload_n 3, 1) := by decide +kernel
theorem dX11_number_66 : decode cX11_number 66 = .ok (.ldc 131, 2) := by decide +kernel
theorem dX11_number_68 : decode cX11_number 68 = .ok (.if_icmp .le 7, 3) := by decide +kernel
theorem dX11_number_71 : decode cX11_number 71 = .ok (.iload_n 3, 1) := by decide +kernel
theorem dX11_number_72 : decode cX11_number 72 = .ok (.goto 15, 3) := by decide +kernel
theorem dX11_number_75 : decode cX11_number 75 = .ok (.bipush 10, 2) := by decide +kernel
theorem dX11_number_77 : decode cX11_number 77 = .ok (.iload_n 3, 1) := by decide +kernel
theorem dX11_number_78 : decode cX11_number 78 = .ok (.imul, 1) := by decide +kernel
theorem dX11_number_79 : decode cX11_number 79 = .ok (.aload_n 0, 1) := by decide +kernel
theorem dX11_number_80 : decode cX11_number 80 = .ok (.invokevirtual 93, 3) := by decide +kernel
theorem dX11_number_83 : decode cX11_number 83 = .ok (.iadd, 1) := by decide +kernel
theorem dX11_number_84 : decode cX11_number 84 = .ok (.bipush 48, 2) := by decide +kernel
theorem dX11_number_86 : decode cX11_number 86 = .ok (.isub, 1) := by decide +kernel
theorem dX11_number_87 : decode cX11_number 87 = .ok (.istore_n 3, 1) := by decide +kernel
theorem dX11_number_88 : decode cX11_number 88 = .ok (.aload_n 0, 1) := by decide +kernel
theorem dX11_number_89 : decode cX11_number 89 = .ok (.dup, 1) := by decide +kernel
theorem dX11_number_90 : decode cX11_number 90 = .ok (.getfield 90, 3) := by decide +kernel
theorem dX11_number_93 : decode cX11_number 93 = .ok (.iconst 1, 1) := by decide +kernel
theorem dX11_number_94 : decode cX11_number 94 = .ok (.iadd, 1) := by decide +kernel
theorem dX11_number_95 : decode cX11_number 95 = .ok (.putfield 90, 3) := by decide +kernel
theorem dX11_number_98 : decode cX11_number 98 = .ok (.goto (-40), 3) := by decide +kernel
theorem dX11_number_101 : decode cX11_number 101 = .ok (.iload_n 2, 1) := by decide +kernel
theorem dX11_number_102 : decode cX11_number 102 = .ok (.ifCond .eq 8, 3) := by decide +kernel
theorem dX11_number_105 : decode cX11_number 105 = .ok (.iload_n 3, 1) := by decide +kernel
theorem dX11_number_106 : decode cX11_number 106 = .ok (.ineg, 1) := by decide +kernel
theorem dX11_number_107 : decode cX11_number 107 = .ok (.goto 4, 3) := by decide +kernel
theorem dX11_number_110 : decode cX11_number 110 = .ok (.iload_n 3, 1) := by decide +kernel
theorem dX11_number_111 : decode cX11_number 111 = .ok (.ireturn, 1) := by decide +kernel
theorem dX11_readNumbers_0 : decode cX11_readNumbers 0 = .ok (.iconst 0, 1) := by decide +kernel
theorem dX11_readNumbers_1 : decode cX11_readNumbers 1 = .ok (.istore 4, 2) := by decide +kernel
theorem dX11_readNumbers_3 : decode cX11_readNumbers 3 = .ok (.iload 4, 2) := by decide +kernel
theorem dX11_readNumbers_5 : decode cX11_readNumbers 5 = .ok (.iload_n 1, 1) := by decide +kernel
theorem dX11_readNumbers_6 : decode cX11_readNumbers 6 = .ok (.if_icmp .ge 94, 3) := by decide +kernel
theorem dX11_readNumbers_9 : decode cX11_readNumbers 9 = .ok (.aload_n 0, 1) := by decide +kernel
theorem dX11_readNumbers_10 : decode cX11_readNumbers 10 = .ok (.getfield 97, 3) := by decide +kernel
theorem dX11_readNumbers_13 : decode cX11_readNumbers 13 = .ok (.iconst (-1), 1) := by decide +kernel
theorem dX11_readNumbers_14 : decode cX11_readNumbers 14 = .ok (.if_icmp .ne 86, 3) := by decide +kernel
theorem dX11_readNumbers_17 : decode cX11_readNumbers 17 = .ok (.iload 4, 2) := by decide +kernel
theorem dX11_readNumbers_19 : decode cX11_readNumbers 19 = .ok (.ifCond .le 31, 3) := by decide +kernel
theorem dX11_readNumbers_22 : decode cX11_readNumbers 22 = .ok (.aload_n 0, 1) := by decide +kernel
theorem dX11_readNumbers_23 : decode cX11_readNumbers 23 = .ok (.invokevirtual 108, 3) := by decide +kernel
theorem dX11_readNumbers_26 : decode cX11_readNumbers 26 = .ok (.bipush 44, 2) := by decide +kernel
theorem dX11_readNumbers_28 : decode cX11_readNumbers 28 = .ok (.if_icmp .eq 12, 3) := by decide +kernel
theorem dX11_readNumbers_31 : decode cX11_readNumbers 31 = .ok (.aload_n 0, 1) := by decide +kernel
theorem dX11_readNumbers_32 : decode cX11_readNumbers 32 = .ok (.aload_n 0, 1) := by decide +kernel
theorem dX11_readNumbers_33 : decode cX11_readNumbers 33 = .ok (.getfield 90, 3) := by decide +kernel
theorem dX11_readNumbers_36 : decode cX11_readNumbers 36 = .ok (.invokevirtual 128, 3) := by decide +kernel
theorem dX11_readNumbers_39 : decode cX11_readNumbers 39 = .ok (.return_, 1) := by decide +kernel
theorem dX11_readNumbers_40 : decode cX11_readNumbers 40 = .ok (.aload_n 0, 1) := by decide +kernel
theorem dX11_readNumbers_41 : decode cX11_readNumbers 41 = .ok (.dup, 1) := by decide +kernel
theorem dX11_readNumbers_42 : decode cX11_readNumbers 42 = .ok (.getfield 90, 3) := by decide +kernel
theorem dX11_readNumbers_45 : decode cX11_readNumbers 45 = .ok (.iconst 1, 1) := by decide +kernel
theorem dX11_readNumbers_46 : decode cX11_readNumbers 46 = .ok (.iadd, 1) := by decide +kernel
theorem dX11_readNumbers_47 : decode cX11_readNumbers 47 = .ok (.putfield 90, 3) := by decide +kernel
theorem dX11_readNumbers_50 : decode cX11_readNumbers 50 = .ok (.aload_n 0, 1) := by decide +kernel
theorem dX11_readNumbers_51 : decode cX11_readNumbers 51 = .ok (.getfield 13, 3) := by decide +kernel
theorem dX11_readNumbers_54 : decode cX11_readNumbers 54 = .ok (.iload 4, 2) := by decide +kernel
theorem dX11_readNumbers_56 : decode cX11_readNumbers 56 = .ok (.aload_n 0, 1) := by decide +kernel
theorem dX11_readNumbers_57 : decode cX11_readNumbers 57 = .ok (.invokevirtual 132, 3) := by decide +kernel
theorem dX11_readNumbers_60 : decode cX11_readNumbers 60 = .ok (.iastore, 1) := by decide +kernel
theorem dX11_readNumbers_61 : decode cX11_readNumbers 61 = .ok (.aload_n 0, 1) := by decide +kernel
theorem dX11_readNumbers_62 : decode cX11_readNumbers 62 = .ok (.getfield 97, 3) := by decide +kernel
theorem dX11_readNumbers_65 : decode cX11_readNumbers 65 = .ok (.iconst (-1), 1) := by decide +kernel
theorem dX11_readNumbers_66 : decode cX11_readNumbers 66 = .ok (.if_icmp .ne 28, 3) := by decide +kernel
theorem dX11_readNumbers_69 : decode cX11_readNumbers 69 = .ok (.iload_n 2, 1) := by decide +kernel
theorem dX11_readNumbers_70 : decode cX11_readNumbers 70 = .ok (.iload_n 3, 1) := by decide +kernel
theorem dX11_readNumbers_71 : decode cX11_readNumbers 71 = .ok (.iload 4, 2) := by decide +kernel
theorem dX11_readNumbers_73 : decode cX11_readNumbers 73 = .ok (.aload_n 0, 1) := by decide +kernel
theorem dX11_readNumbers_74 : decode cX11_readNumbers 74 = .ok (.getfield 13, 3) := by decide +kernel
theorem dX11_readNumbers_77 : decode cX11_readNumbers 77 = .ok (.iload 4, 2) := by decide +kernel
theorem dX11_readNumbers_79 : decode cX11_readNumbers 79 = .ok (.iaload, 1) := by decide +kernel
theorem dX11_readNumbers_80 : decode cX11_readNumbers 80 = .ok (.invokestatic 135, 3) := by decide +kernel
theorem dX11_readNumbers_83 : decode cX11_readNumbers 83 = .ok (.ifCond .ne 11, 3) := by decide +kernel
theorem dX11_readNumbers_86 : decode cX11_readNumbers 86 = .ok (.aload_n 0, 1) := by decide +kernel
theorem dX11_readNumbers_87 : decode cX11_readNumbers 87 = .ok (.aload_n 0, 1) := by decide +kernel
theorem dX11_readNumbers_88 : decode cX11_readNumbers 88 = .ok (.getfield 122, 3) := by decide +kernel
theorem dX11_readNumbers_91 : decode cX11_readNumbers 91 = .ok (.invokevirtual 128, 3) := by decide +kernel
theorem dX11_readNumbers_94 : decode cX11_readNumbers 94 = .ok (.iinc 4 1, 3) := by decide +kernel
theorem dX11_readNumbers_97 : decode cX11_readNumbers 97 = .ok (.goto (-94), 3) := by decide +kernel
theorem dX11_readNumbers_100 : decode cX11_readNumbers 100 = .ok (.return_, 1) := by decide +kernel
theorem dX11_isWell_0 : decode cX11_isWell 0 = .ok (.iload_n 0, 1) := by decide +kernel
theorem dX11_isWell_1 : decode cX11_isWell 1 = .ok (.ifCond .eq 12, 3) := by decide +kernel
theorem dX11_isWell_4 : decode cX11_isWell 4 = .ok (.iload_n 1, 1) := by decide +kernel
theorem dX11_isWell_5 : decode cX11_isWell 5 = .ok (.iload_n 2, 1) := by decide +kernel
theorem dX11_isWell_6 : decode cX11_isWell 6 = .ok (.iload_n 3, 1) := by decide +kernel
theorem dX11_isWell_7 : decode cX11_isWell 7 = .ok (.invokestatic 139, 3) := by decide +kernel
theorem dX11_isWell_10 : decode cX11_isWell 10 = .ok (.goto 9, 3) := by decide +kernel
theorem dX11_isWell_13 : decode cX11_isWell 13 = .ok (.iload_n 1, 1) := by decide +kernel
theorem dX11_isWell_14 : decode cX11_isWell 14 = .ok (.iload_n 2, 1) := by decide +kernel
theorem dX11_isWell_15 : decode cX11_isWell 15 = .ok (.iload_n 3, 1) := by decide +kernel
theorem dX11_isWell_16 : decode cX11_isWell 16 = .ok (.invokestatic 143, 3) := by decide +kernel
theorem dX11_isWell_19 : decode cX11_isWell 19 = .ok (.ireturn, 1) := by decide +kernel
theorem dX11_isWellOfScene_0 : decode cX11_isWellOfScene 0 = .ok (.iload_n 0, 1) := by decide +kernel
theorem dX11_isWellOfScene_1 : decode cX11_isWellOfScene 1 = .ok (.bipush 8, 2) := by decide +kernel
theorem dX11_isWellOfScene_3 : decode cX11_isWellOfScene 3 = .ok (.if_icmp .lt 70, 3) := by decide +kernel
theorem dX11_isWellOfScene_6 : decode cX11_isWellOfScene 6 = .ok (.iload_n 1, 1) := by decide +kernel
theorem dX11_isWellOfScene_7 : decode cX11_isWellOfScene 7 = .ok (.bipush 10, 2) := by decide +kernel
theorem dX11_isWellOfScene_9 : decode cX11_isWellOfScene 9 = .ok (.if_icmp .ne 15, 3) := by decide +kernel
theorem dX11_isWellOfScene_12 : decode cX11_isWellOfScene 12 = .ok (.iload_n 2, 1) := by decide +kernel
theorem dX11_isWellOfScene_13 : decode cX11_isWellOfScene 13 = .ok (.i2l, 1) := by decide +kernel
theorem dX11_isWellOfScene_14 : decode cX11_isWellOfScene 14 = .ok (.lconst 1, 1) := by decide +kernel
theorem dX11_isWellOfScene_15 : decode cX11_isWellOfScene 15 = .ok (.ldc2_w 146, 3) := by decide +kernel
theorem dX11_isWellOfScene_18 : decode cX11_isWellOfScene 18 = .ok (.invokestatic 148, 3) := by decide +kernel
theorem dX11_isWellOfScene_21 : decode cX11_isWellOfScene 21 = .ok (.goto 51, 3) := by decide +kernel
theorem dX11_isWellOfScene_24 : decode cX11_isWellOfScene 24 = .ok (.iload_n 1, 1) := by decide +kernel
theorem dX11_isWellOfScene_25 : decode cX11_isWellOfScene 25 = .ok (.bipush 9, 2) := by decide +kernel
theorem dX11_isWellOfScene_27 : decode cX11_isWellOfScene 27 = .ok (.if_icmp .ne 15, 3) := by decide +kernel
theorem dX11_isWellOfScene_30 : decode cX11_isWellOfScene 30 = .ok (.iload_n 2, 1) := by decide +kernel
theorem dX11_isWellOfScene_31 : decode cX11_isWellOfScene 31 = .ok (.i2l, 1) := by decide +kernel
theorem dX11_isWellOfScene_32 : decode cX11_isWellOfScene 32 = .ok (.lconst 0, 1) := by decide +kernel
theorem dX11_isWellOfScene_33 : decode cX11_isWellOfScene 33 = .ok (.ldc2_w 152, 3) := by decide +kernel
theorem dX11_isWellOfScene_36 : decode cX11_isWellOfScene 36 = .ok (.invokestatic 148, 3) := by decide +kernel
theorem dX11_isWellOfScene_39 : decode cX11_isWellOfScene 39 = .ok (.goto 33, 3) := by decide +kernel
theorem dX11_isWellOfScene_42 : decode cX11_isWellOfScene 42 = .ok (.iload_n 1, 1) := by decide +kernel
theorem dX11_isWellOfScene_43 : decode cX11_isWellOfScene 43 = .ok (.iconst 3, 1) := by decide +kernel
theorem dX11_isWellOfScene_44 : decode cX11_isWellOfScene 44 = .ok (.irem, 1) := by decide +kernel
theorem dX11_isWellOfScene_45 : decode cX11_isWellOfScene 45 = .ok (.iconst 2, 1) := by decide +kernel
theorem dX11_isWellOfScene_46 : decode cX11_isWellOfScene 46 = .ok (.if_icmp .ne 15, 3) := by decide +kernel
theorem dX11_isWellOfScene_49 : decode cX11_isWellOfScene 49 = .ok (.iload_n 2, 1) := by decide +kernel
theorem dX11_isWellOfScene_50 : decode cX11_isWellOfScene 50 = .ok (.i2l, 1) := by decide +kernel
theorem dX11_isWellOfScene_51 : decode cX11_isWellOfScene 51 = .ok (.lconst 0, 1) := by decide +kernel
theorem dX11_isWellOfScene_52 : decode cX11_isWellOfScene 52 = .ok (.ldc2_w 154, 3) := by decide +kernel
theorem dX11_isWellOfScene_55 : decode cX11_isWellOfScene 55 = .ok (.invokestatic 148, 3) := by decide +kernel
theorem dX11_isWellOfScene_58 : decode cX11_isWellOfScene 58 = .ok (.goto 14, 3) := by decide +kernel
theorem dX11_isWellOfScene_61 : decode cX11_isWellOfScene 61 = .ok (.iload_n 2, 1) := by decide +kernel
theorem dX11_isWellOfScene_62 : decode cX11_isWellOfScene 62 = .ok (.i2l, 1) := by decide +kernel
theorem dX11_isWellOfScene_63 : decode cX11_isWellOfScene 63 = .ok (.ldc2_w 156, 3) := by decide +kernel
theorem dX11_isWellOfScene_66 : decode cX11_isWellOfScene 66 = .ok (.ldc2_w 158, 3) := by decide +kernel
theorem dX11_isWellOfScene_69 : decode cX11_isWellOfScene 69 = .ok (.invokestatic 148, 3) := by decide +kernel
theorem dX11_isWellOfScene_72 : decode cX11_isWellOfScene 72 = .ok (.ireturn, 1) := by decide +kernel
theorem dX11_isWellOfScene_73 : decode cX11_isWellOfScene 73 = .ok (.iload_n 0, 1) := by decide +kernel
theorem dX11_isWellOfScene_74 : decode cX11_isWellOfScene 74 = .ok (.tableswitch 119 0 7 #[46, 56, 68, 89, 99, 119, 119, 109], 46) := by decide +kernel
theorem dX11_isWellOfScene_120 : decode cX11_isWellOfScene 120 = .ok (.iload_n 2, 1) := by decide +kernel
theorem dX11_isWellOfScene_121 : decode cX11_isWellOfScene 121 = .ok (.i2l, 1) := by decide +kernel
theorem dX11_isWellOfScene_122 : decode cX11_isWellOfScene 122 = .ok (.lconst 1, 1) := by decide +kernel
theorem dX11_isWellOfScene_123 : decode cX11_isWellOfScene 123 = .ok (.ldc2_w 146, 3) := by decide +kernel
theorem dX11_isWellOfScene_126 : decode cX11_isWellOfScene 126 = .ok (.invokestatic 148, 3) := by decide +kernel
theorem dX11_isWellOfScene_129 : decode cX11_isWellOfScene 129 = .ok (.ireturn, 1) := by decide +kernel
theorem dX11_isWellOfScene_130 : decode cX11_isWellOfScene 130 = .ok (.iload_n 2, 1) := by decide +kernel
theorem dX11_isWellOfScene_131 : decode cX11_isWellOfScene 131 = .ok (.i2l, 1) := by decide +kernel
theorem dX11_isWellOfScene_132 : decode cX11_isWellOfScene 132 = .ok (.ldc2_w 160, 3) := by decide +kernel
theorem dX11_isWellOfScene_135 : decode cX11_isWellOfScene 135 = .ok (.ldc2_w 162, 3) := by decide +kernel
theorem dX11_isWellOfScene_138 : decode cX11_isWellOfScene 138 = .ok (.invokestatic 148, 3) := by decide +kernel
theorem dX11_isWellOfScene_141 : decode cX11_isWellOfScene 141 = .ok (.ireturn, 1) := by decide +kernel
theorem dX11_isWellOfScene_142 : decode cX11_isWellOfScene 142 = .ok (.iload_n 2, 1) := by decide +kernel
theorem dX11_isWellOfScene_143 : decode cX11_isWellOfScene 143 = .ok (.iconst 1, 1) := by decide +kernel
theorem dX11_isWellOfScene_144 : decode cX11_isWellOfScene 144 = .ok (.if_icmp .eq 13, 3) := by decide +kernel
theorem dX11_isWellOfScene_147 : decode cX11_isWellOfScene 147 = .ok (.iload_n 2, 1) := by decide +kernel
theorem dX11_isWellOfScene_148 : decode cX11_isWellOfScene 148 = .ok (.iconst 2, 1) := by decide +kernel
theorem dX11_isWellOfScene_149 : decode cX11_isWellOfScene 149 = .ok (.if_icmp .eq 8, 3) := by decide +kernel
theorem dX11_isWellOfScene_152 : decode cX11_isWellOfScene 152 = .ok (.iload_n 2, 1) := by decide +kernel
theorem dX11_isWellOfScene_153 : decode cX11_isWellOfScene 153 = .ok (.iconst 4, 1) := by decide +kernel
theorem dX11_isWellOfScene_154 : decode cX11_isWellOfScene 154 = .ok (.if_icmp .ne 7, 3) := by decide +kernel
theorem dX11_isWellOfScene_157 : decode cX11_isWellOfScene 157 = .ok (.iconst 1, 1) := by decide +kernel
theorem dX11_isWellOfScene_158 : decode cX11_isWellOfScene 158 = .ok (.goto 4, 3) := by decide +kernel
theorem dX11_isWellOfScene_161 : decode cX11_isWellOfScene 161 = .ok (.iconst 0, 1) := by decide +kernel
theorem dX11_isWellOfScene_162 : decode cX11_isWellOfScene 162 = .ok (.ireturn, 1) := by decide +kernel
theorem dX11_isWellOfScene_163 : decode cX11_isWellOfScene 163 = .ok (.iload_n 2, 1) := by decide +kernel
theorem dX11_isWellOfScene_164 : decode cX11_isWellOfScene 164 = .ok (.i2l, 1) := by decide +kernel
theorem dX11_isWellOfScene_165 : decode cX11_isWellOfScene 165 = .ok (.lconst 0, 1) := by decide +kernel
theorem dX11_isWellOfScene_166 : decode cX11_isWellOfScene 166 = .ok (.ldc2_w 152, 3) := by decide +kernel
theorem dX11_isWellOfScene_169 : decode cX11_isWellOfScene 169 = .ok (.invokestatic 148, 3) := by decide +kernel
theorem dX11_isWellOfScene_172 : decode cX11_isWellOfScene 172 = .ok (.ireturn, 1) := by decide +kernel
theorem dX11_isWellOfScene_173 : decode cX11_isWellOfScene 173 = .ok (.iload_n 2, 1) := by decide +kernel
theorem dX11_isWellOfScene_174 : decode cX11_isWellOfScene 174 = .ok (.i2l, 1) := by decide +kernel
theorem dX11_isWellOfScene_175 : decode cX11_isWellOfScene 175 = .ok (.lconst 0, 1) := by decide +kernel
theorem dX11_isWellOfScene_176 : decode cX11_isWellOfScene 176 = .ok (.ldc2_w 160, 3) := by decide +kernel
theorem dX11_isWellOfScene_179 : decode cX11_isWellOfScene 179 = .ok (.invokestatic 148, 3) := by decide +kernel
theorem dX11_isWellOfScene_182 : decode cX11_isWellOfScene 182 = .ok (.ireturn, 1) := by decide +kernel
theorem dX11_isWellOfScene_183 : decode cX11_isWellOfScene 183 = .ok (.iload_n 2, 1) := by decide +kernel
theorem dX11_isWellOfScene_184 : decode cX11_isWellOfScene 184 = .ok (.i2l, 1) := by decide +kernel
theorem dX11_isWellOfScene_185 : decode cX11_isWellOfScene 185 = .ok (.lconst 1, 1) := by decide +kernel
theorem dX11_isWellOfScene_186 : decode cX11_isWellOfScene 186 = .ok (.ldc2_w 164, 3) := by decide +kernel
theorem dX11_isWellOfScene_189 : decode cX11_isWellOfScene 189 = .ok (.invokestatic 148, 3) := by decide +kernel
theorem dX11_isWellOfScene_192 : decode cX11_isWellOfScene 192 = .ok (.ireturn, 1) := by decide +kernel
theorem dX11_isWellOfScene_193 : decode cX11_isWellOfScene 193 = .ok (.iload_n 2, 1) := by decide +kernel
theorem dX11_isWellOfScene_194 : decode cX11_isWellOfScene 194 = .ok (.i2l, 1) := by decide +kernel
theorem dX11_isWellOfScene_195 : decode cX11_isWellOfScene 195 = .ok (.lconst 0, 1) := by decide +kernel
theorem dX11_isWellOfScene_196 : decode cX11_isWellOfScene 196 = .ok (.lconst 1, 1) := by decide +kernel
theorem dX11_isWellOfScene_197 : decode cX11_isWellOfScene 197 = .ok (.invokestatic 148, 3) := by decide +kernel
theorem dX11_isWellOfScene_200 : decode cX11_isWellOfScene 200 = .ok (.ireturn, 1) := by decide +kernel
theorem dX11_isWellOfScript_0 : decode cX11_isWellOfScript 0 = .ok (.iload_n 0, 1) := by decide +kernel
theorem dX11_isWellOfScript_1 : decode cX11_isWellOfScript 1 = .ok (.tableswitch 136 0 8 #[51, 61, 136, 136, 71, 136, 136, 81, 91], 51) := by decide +kernel
theorem dX11_isWellOfScript_52 : decode cX11_isWellOfScript 52 = .ok (.iload_n 2, 1) := by decide +kernel
theorem dX11_isWellOfScript_53 : decode cX11_isWellOfScript 53 = .ok (.i2l, 1) := by decide +kernel
theorem dX11_isWellOfScript_54 : decode cX11_isWellOfScript 54 = .ok (.lconst 0, 1) := by decide +kernel
theorem dX11_isWellOfScript_55 : decode cX11_isWellOfScript 55 = .ok (.ldc2_w 166, 3) := by decide +kernel
theorem dX11_isWellOfScript_58 : decode cX11_isWellOfScript 58 = .ok (.invokestatic 148, 3) := by decide +kernel
theorem dX11_isWellOfScript_61 : decode cX11_isWellOfScript 61 = .ok (.ireturn, 1) := by decide +kernel
theorem dX11_isWellOfScript_62 : decode cX11_isWellOfScript 62 = .ok (.iload_n 2, 1) := by decide +kernel
theorem dX11_isWellOfScript_63 : decode cX11_isWellOfScript 63 = .ok (.i2l, 1) := by decide +kernel
theorem dX11_isWellOfScript_64 : decode cX11_isWellOfScript 64 = .ok (.lconst 0, 1) := by decide +kernel
theorem dX11_isWellOfScript_65 : decode cX11_isWellOfScript 65 = .ok (.ldc2_w 168, 3) := by decide +kernel
theorem dX11_isWellOfScript_68 : decode cX11_isWellOfScript 68 = .ok (.invokestatic 148, 3) := by decide +kernel
theorem dX11_isWellOfScript_71 : decode cX11_isWellOfScript 71 = .ok (.ireturn, 1) := by decide +kernel
theorem dX11_isWellOfScript_72 : decode cX11_isWellOfScript 72 = .ok (.iload_n 2, 1) := by decide +kernel
theorem dX11_isWellOfScript_73 : decode cX11_isWellOfScript 73 = .ok (.i2l, 1) := by decide +kernel
theorem dX11_isWellOfScript_74 : decode cX11_isWellOfScript 74 = .ok (.lconst 0, 1) := by decide +kernel
theorem dX11_isWellOfScript_75 : decode cX11_isWellOfScript 75 = .ok (.ldc2_w 160, 3) := by decide +kernel
theorem dX11_isWellOfScript_78 : decode cX11_isWellOfScript 78 = .ok (.invokestatic 148, 3) := by decide +kernel
theorem dX11_isWellOfScript_81 : decode cX11_isWellOfScript 81 = .ok (.ireturn, 1) := by decide +kernel
theorem dX11_isWellOfScript_82 : decode cX11_isWellOfScript 82 = .ok (.iload_n 2, 1) := by decide +kernel
theorem dX11_isWellOfScript_83 : decode cX11_isWellOfScript 83 = .ok (.i2l, 1) := by decide +kernel
theorem dX11_isWellOfScript_84 : decode cX11_isWellOfScript 84 = .ok (.lconst 1, 1) := by decide +kernel
theorem dX11_isWellOfScript_85 : decode cX11_isWellOfScript 85 = .ok (.ldc2_w 164, 3) := by decide +kernel
theorem dX11_isWellOfScript_88 : decode cX11_isWellOfScript 88 = .ok (.invokestatic 148, 3) := by decide +kernel
theorem dX11_isWellOfScript_91 : decode cX11_isWellOfScript 91 = .ok (.ireturn, 1) := by decide +kernel
theorem dX11_isWellOfScript_92 : decode cX11_isWellOfScript 92 = .ok (.iload_n 1, 1) := by decide +kernel
theorem dX11_isWellOfScript_93 : decode cX11_isWellOfScript 93 = .ok (.ifCond .ne 15, 3) := by decide +kernel
theorem dX11_isWellOfScript_96 : decode cX11_isWellOfScript 96 = .ok (.iload_n 2, 1) := by decide +kernel
theorem dX11_isWellOfScript_97 : decode cX11_isWellOfScript 97 = .ok (.i2l, 1) := by decide +kernel
theorem dX11_isWellOfScript_98 : decode cX11_isWellOfScript 98 = .ok (.lconst 0, 1) := by decide +kernel
theorem dX11_isWellOfScript_99 : decode cX11_isWellOfScript 99 = .ok (.ldc2_w 166, 3) := by decide +kernel
theorem dX11_isWellOfScript_102 : decode cX11_isWellOfScript 102 = .ok (.invokestatic 148, 3) := by decide +kernel
theorem dX11_isWellOfScript_105 : decode cX11_isWellOfScript 105 = .ok (.goto 31, 3) := by decide +kernel
theorem dX11_isWellOfScript_108 : decode cX11_isWellOfScript 108 = .ok (.iload_n 1, 1) := by decide +kernel
theorem dX11_isWellOfScript_109 : decode cX11_isWellOfScript 109 = .ok (.iconst 1, 1) := by decide +kernel
theorem dX11_isWellOfScript_110 : decode cX11_isWellOfScript 110 = .ok (.if_icmp .ne 15, 3) := by decide +kernel
theorem dX11_isWellOfScript_113 : decode cX11_isWellOfScript 113 = .ok (.iload_n 2, 1) := by decide +kernel
theorem dX11_isWellOfScript_114 : decode cX11_isWellOfScript 114 = .ok (.i2l, 1) := by decide +kernel
theorem dX11_isWellOfScript_115 : decode cX11_isWellOfScript 115 = .ok (.lconst 0, 1) := by decide +kernel
theorem dX11_isWellOfScript_116 : decode cX11_isWellOfScript 116 = .ok (.ldc2_w 160, 3) := by decide +kernel
theorem dX11_isWellOfScript_119 : decode cX11_isWellOfScript 119 = .ok (.invokestatic 148, 3) := by decide +kernel
theorem dX11_isWellOfScript_122 : decode cX11_isWellOfScript 122 = .ok (.goto 14, 3) := by decide +kernel
theorem dX11_isWellOfScript_125 : decode cX11_isWellOfScript 125 = .ok (.iload_n 2, 1) := by decide +kernel
theorem dX11_isWellOfScript_126 : decode cX11_isWellOfScript 126 = .ok (.i2l, 1) := by decide +kernel
theorem dX11_isWellOfScript_127 : decode cX11_isWellOfScript 127 = .ok (.ldc2_w 170, 3) := by decide +kernel
theorem dX11_isWellOfScript_130 : decode cX11_isWellOfScript 130 = .ok (.ldc2_w 172, 3) := by decide +kernel
theorem dX11_isWellOfScript_133 : decode cX11_isWellOfScript 133 = .ok (.invokestatic 148, 3) := by decide +kernel
theorem dX11_isWellOfScript_136 : decode cX11_isWellOfScript 136 = .ok (.ireturn, 1) := by decide +kernel
theorem dX11_isWellOfScript_137 : decode cX11_isWellOfScript 137 = .ok (.iload_n 2, 1) := by decide +kernel
theorem dX11_isWellOfScript_138 : decode cX11_isWellOfScript 138 = .ok (.i2l, 1) := by decide +kernel
theorem dX11_isWellOfScript_139 : decode cX11_isWellOfScript 139 = .ok (.lconst 0, 1) := by decide +kernel
theorem dX11_isWellOfScript_140 : decode cX11_isWellOfScript 140 = .ok (.lconst 1, 1) := by decide +kernel
theorem dX11_isWellOfScript_141 : decode cX11_isWellOfScript 141 = .ok (.invokestatic 148, 3) := by decide +kernel
theorem dX11_isWellOfScript_144 : decode cX11_isWellOfScript 144 = .ok (.ireturn, 1) := by decide +kernel
theorem dX11_usualRules_0 : decode cX11_usualRules 0 = .ok (.aload_n 0, 1) := by decide +kernel
theorem dX11_usualRules_1 : decode cX11_usualRules 1 = .ok (.getfield 17, 3) := by decide +kernel
theorem dX11_usualRules_4 : decode cX11_usualRules 4 = .ok (.iconst 0, 1) := by decide +kernel
theorem dX11_usualRules_5 : decode cX11_usualRules 5 = .ok (.bipush 8, 2) := by decide +kernel
theorem dX11_usualRules_7 : decode cX11_usualRules 7 = .ok (.iastore, 1) := by decide +kernel
theorem dX11_usualRules_8 : decode cX11_usualRules 8 = .ok (.aload_n 0, 1) := by decide +kernel
theorem dX11_usualRules_9 : decode cX11_usualRules 9 = .ok (.getfield 17, 3) := by decide +kernel
theorem dX11_usualRules_12 : decode cX11_usualRules 12 = .ok (.iconst 1, 1) := by decide +kernel
theorem dX11_usualRules_13 : decode cX11_usualRules 13 = .ok (.bipush 8, 2) := by decide +kernel
theorem dX11_usualRules_15 : decode cX11_usualRules 15 = .ok (.iastore, 1) := by decide +kernel
theorem dX11_usualRules_16 : decode cX11_usualRules 16 = .ok (.aload_n 0, 1) := by decide +kernel
theorem dX11_usualRules_17 : decode cX11_usualRules 17 = .ok (.getfield 17, 3) := by decide +kernel
theorem dX11_usualRules_20 : decode cX11_usualRules 20 = .ok (.iconst 2, 1) := by decide +kernel
theorem dX11_usualRules_21 : decode cX11_usualRules 21 = .ok (.iconst 4, 1) := by decide +kernel
theorem dX11_usualRules_22 : decode cX11_usualRules 22 = .ok (.iastore, 1) := by decide +kernel
theorem dX11_usualRules_23 : decode cX11_usualRules 23 = .ok (.aload_n 0, 1) := by decide +kernel
theorem dX11_usualRules_24 : decode cX11_usualRules 24 = .ok (.getfield 17, 3) := by decide +kernel
theorem dX11_usualRules_27 : decode cX11_usualRules 27 = .ok (.iconst 3, 1) := by decide +kernel
theorem dX11_usualRules_28 : decode cX11_usualRules 28 = .ok (.iconst 1, 1) := by decide +kernel
theorem dX11_usualRules_29 : decode cX11_usualRules 29 = .ok (.iastore, 1) := by decide +kernel
theorem dX11_usualRules_30 : decode cX11_usualRules 30 = .ok (.aload_n 0, 1) := by decide +kernel
theorem dX11_usualRules_31 : decode cX11_usualRules 31 = .ok (.getfield 17, 3) := by decide +kernel
theorem dX11_usualRules_34 : decode cX11_usualRules 34 = .ok (.iconst 4, 1) := by decide +kernel
theorem dX11_usualRules_35 : decode cX11_usualRules 35 = .ok (.iconst 0, 1) := by decide +kernel
theorem dX11_usualRules_36 : decode cX11_usualRules 36 = .ok (.iastore, 1) := by decide +kernel
theorem dX11_usualRules_37 : decode cX11_usualRules 37 = .ok (.aload_n 0, 1) := by decide +kernel
theorem dX11_usualRules_38 : decode cX11_usualRules 38 = .ok (.getfield 17, 3) := by decide +kernel
theorem dX11_usualRules_41 : decode cX11_usualRules 41 = .ok (.iconst 5, 1) := by decide +kernel
theorem dX11_usualRules_42 : decode cX11_usualRules 42 = .ok (.iconst 0, 1) := by decide +kernel
theorem dX11_usualRules_43 : decode cX11_usualRules 43 = .ok (.iastore, 1) := by decide +kernel
theorem dX11_usualRules_44 : decode cX11_usualRules 44 = .ok (.aload_n 0, 1) := by decide +kernel
theorem dX11_usualRules_45 : decode cX11_usualRules 45 = .ok (.getfield 17, 3) := by decide +kernel
theorem dX11_usualRules_48 : decode cX11_usualRules 48 = .ok (.bipush 6, 2) := by decide +kernel
theorem dX11_usualRules_50 : decode cX11_usualRules 50 = .ok (.iconst 0, 1) := by decide +kernel
theorem dX11_usualRules_51 : decode cX11_usualRules 51 = .ok (.iastore, 1) := by decide +kernel
theorem dX11_usualRules_52 : decode cX11_usualRules 52 = .ok (.aload_n 0, 1) := by decide +kernel
theorem dX11_usualRules_53 : decode cX11_usualRules 53 = .ok (.getfield 17, 3) := by decide +kernel
theorem dX11_usualRules_56 : decode cX11_usualRules 56 = .ok (.bipush 7, 2) := by decide +kernel
theorem dX11_usualRules_58 : decode cX11_usualRules 58 = .ok (.iconst 1, 1) := by decide +kernel
theorem dX11_usualRules_59 : decode cX11_usualRules 59 = .ok (.iastore, 1) := by decide +kernel
theorem dX11_usualRules_60 : decode cX11_usualRules 60 = .ok (.aload_n 0, 1) := by decide +kernel
theorem dX11_usualRules_61 : decode cX11_usualRules 61 = .ok (.getfield 17, 3) := by decide +kernel
theorem dX11_usualRules_64 : decode cX11_usualRules 64 = .ok (.bipush 8, 2) := by decide +kernel
theorem dX11_usualRules_66 : decode cX11_usualRules 66 = .ok (.bipush 10, 2) := by decide +kernel
theorem dX11_usualRules_68 : decode cX11_usualRules 68 = .ok (.iastore, 1) := by decide +kernel
theorem dX11_usualRules_69 : decode cX11_usualRules 69 = .ok (.return_, 1) := by decide +kernel
theorem dX11_readClause_0 : decode cX11_readClause 0 = .ok (.aload_n 0, 1) := by decide +kernel
theorem dX11_readClause_1 : decode cX11_readClause 1 = .ok (.ldc 174, 2) := by decide +kernel
theorem dX11_readClause_3 : decode cX11_readClause 3 = .ok (.invokevirtual 176, 3) := by decide +kernel
theorem dX11_readClause_6 : decode cX11_readClause 6 = .ok (.istore_n 2, 1) := by decide +kernel
theorem dX11_readClause_7 : decode cX11_readClause 7 = .ok (.iload_n 2, 1) := by decide +kernel
theorem dX11_readClause_8 : decode cX11_readClause 8 = .ok (.iconst (-1), 1) := by decide +kernel
theorem dX11_readClause_9 : decode cX11_readClause 9 = .ok (.if_icmp .eq 32, 3) := by decide +kernel
theorem dX11_readClause_12 : decode cX11_readClause 12 = .ok (.iload_n 2, 1) := by decide +kernel
theorem dX11_readClause_13 : decode cX11_readClause 13 = .ok (.bipush 8, 2) := by decide +kernel
theorem dX11_readClause_15 : decode cX11_readClause 15 = .ok (.if_icmp .ge 11, 3) := by decide +kernel
theorem dX11_readClause_18 : decode cX11_readClause 18 = .ok (.iload_n 1, 1) := by decide +kernel
theorem dX11_readClause_19 : decode cX11_readClause 19 = .ok (.iload_n 2, 1) := by decide +kernel
theorem dX11_readClause_20 : decode cX11_readClause 20 = .ok (.invokestatic 180, 3) := by decide +kernel
theorem dX11_readClause_23 : decode cX11_readClause 23 = .ok (.ifCond .ne 18, 3) := by decide +kernel
theorem dX11_readClause_26 : decode cX11_readClause 26 = .ok (.iload_n 2, 1) := by decide +kernel
theorem dX11_readClause_27 : decode cX11_readClause 27 = .ok (.bipush 8, 2) := by decide +kernel
theorem dX11_readClause_29 : decode cX11_readClause 29 = .ok (.if_icmp .lt 22, 3) := by decide +kernel
theorem dX11_readClause_32 : decode cX11_readClause 32 = .ok (.aload_n 0, 1) := by decide +kernel
theorem dX11_readClause_33 : decode cX11_readClause 33 = .ok (.getfield 184, 3) := by decide +kernel
theorem dX11_readClause_36 : decode cX11_readClause 36 = .ok (.bipush 10, 2) := by decide +kernel
theorem dX11_readClause_38 : decode cX11_readClause 38 = .ok (.if_icmp .ne 13, 3) := by decide +kernel
theorem dX11_readClause_41 : decode cX11_readClause 41 = .ok (.aload_n 0, 1) := by decide +kernel
theorem dX11_readClause_42 : decode cX11_readClause 42 = .ok (.aload_n 0, 1) := by decide +kernel
theorem dX11_readClause_43 : decode cX11_readClause 43 = .ok (.getfield 111, 3) := by decide +kernel
theorem dX11_readClause_46 : decode cX11_readClause 46 = .ok (.invokevirtual 128, 3) := by decide +kernel
theorem dX11_readClause_49 : decode cX11_readClause 49 = .ok (.iload_n 1, 1) := by decide +kernel
theorem dX11_readClause_50 : decode cX11_readClause 50 = .ok (.ireturn, 1) := by decide +kernel
theorem dX11_readClause_51 : decode cX11_readClause 51 = .ok (.aload_n 0, 1) := by decide +kernel
theorem dX11_readClause_52 : decode cX11_readClause 52 = .ok (.iload_n 2, 1) := by decide +kernel
theorem dX11_readClause_53 : decode cX11_readClause 53 = .ok (.bipush 8, 2) := by decide +kernel
theorem dX11_readClause_55 : decode cX11_readClause 55 = .ok (.if_icmp .lt 8, 3) := by decide +kernel
theorem dX11_readClause_58 : decode cX11_readClause 58 = .ok (.bipush 11, 2) := by decide +kernel
theorem dX11_readClause_60 : decode cX11_readClause 60 = .ok (.goto 12, 3) := by decide +kernel
theorem dX11_readClause_63 : decode cX11_readClause 63 = .ok (.iload_n 2, 1) := by decide +kernel
theorem dX11_readClause_64 : decode cX11_readClause 64 = .ok (.ifCond .ne 7, 3) := by decide +kernel
theorem dX11_readClause_67 : decode cX11_readClause 67 = .ok (.iconst 2, 1) := by decide +kernel
theorem dX11_readClause_68 : decode cX11_readClause 68 = .ok (.goto 4, 3) := by decide +kernel
theorem dX11_readClause_71 : decode cX11_readClause 71 = .ok (.iconst 1, 1) := by decide +kernel
theorem dX11_readClause_72 : decode cX11_readClause 72 = .ok (.iconst 1, 1) := by decide +kernel
theorem dX11_readClause_73 : decode cX11_readClause 73 = .ok (.iload_n 2, 1) := by decide +kernel
theorem dX11_readClause_74 : decode cX11_readClause 74 = .ok (.invokevirtual 187, 3) := by decide +kernel
theorem dX11_readClause_77 : decode cX11_readClause 77 = .ok (.aload_n 0, 1) := by decide +kernel
theorem dX11_readClause_78 : decode cX11_readClause 78 = .ok (.getfield 97, 3) := by decide +kernel
theorem dX11_readClause_81 : decode cX11_readClause 81 = .ok (.iconst (-1), 1) := by decide +kernel
theorem dX11_readClause_82 : decode cX11_readClause 82 = .ok (.if_icmp .eq 5, 3) := by decide +kernel
theorem dX11_readClause_85 : decode cX11_readClause 85 = .ok (.iload_n 1, 1) := by decide +kernel
theorem dX11_readClause_86 : decode cX11_readClause 86 = .ok (.ireturn, 1) := by decide +kernel
theorem dX11_readClause_87 : decode cX11_readClause 87 = .ok (.iload_n 2, 1) := by decide +kernel
theorem dX11_readClause_88 : decode cX11_readClause 88 = .ok (.bipush 8, 2) := by decide +kernel
theorem dX11_readClause_90 : decode cX11_readClause 90 = .ok (.if_icmp .lt 68, 3) := by decide +kernel
theorem dX11_readClause_93 : decode cX11_readClause 93 = .ok (.iconst 0, 1) := by decide +kernel
theorem dX11_readClause_94 : decode cX11_readClause 94 = .ok (.istore_n 3, 1) := by decide +kernel
theorem dX11_readClause_95 : decode cX11_readClause 95 = .ok (.iload_n 3, 1) := by decide +kernel
theorem dX11_readClause_96 : decode cX11_readClause 96 = .ok (.bipush 11, 2) := by decide +kernel
theorem dX11_readClause_98 : decode cX11_readClause 98 = .ok (.if_icmp .ge 29, 3) := by decide +kernel
theorem dX11_readClause_101 : decode cX11_readClause 101 = .ok (.aload_n 0, 1) := by decide +kernel
theorem dX11_readClause_102 : decode cX11_readClause 102 = .ok (.getfield 23, 3) := by decide +kernel
theorem dX11_readClause_105 : decode cX11_readClause 105 = .ok (.bipush 12, 2) := by decide +kernel
theorem dX11_readClause_107 : decode cX11_readClause 107 = .ok (.aload_n 0, 1) := by decide +kernel
theorem dX11_readClause_108 : decode cX11_readClause 108 = .ok (.getfield 184, 3) := by decide +kernel
theorem dX11_readClause_111 : decode cX11_readClause 111 = .ok (.imul, 1) := by decide +kernel
theorem dX11_readClause_112 : decode cX11_readClause 112 = .ok (.iload_n 3, 1) := by decide +kernel
theorem dX11_readClause_113 : decode cX11_readClause 113 = .ok (.iadd, 1) := by decide +kernel
theorem dX11_readClause_114 : decode cX11_readClause 114 = .ok (.aload_n 0, 1) := by decide +kernel
theorem dX11_readClause_115 : decode cX11_readClause 115 = .ok (.getfield 13, 3) := by decide +kernel
theorem dX11_readClause_118 : decode cX11_readClause 118 = .ok (.iload_n 3, 1) := by decide +kernel
theorem dX11_readClause_119 : decode cX11_readClause 119 = .ok (.iaload, 1) := by decide +kernel
theorem dX11_readClause_120 : decode cX11_readClause 120 = .ok (.iastore, 1) := by decide +kernel
theorem dX11_readClause_121 : decode cX11_readClause 121 = .ok (.iinc 3 1, 3) := by decide +kernel
theorem dX11_readClause_124 : decode cX11_readClause 124 = .ok (.goto (-29), 3) := by decide +kernel
theorem dX11_readClause_127 : decode cX11_readClause 127 = .ok (.aload_n 0, 1) := by decide +kernel
theorem dX11_readClause_128 : decode cX11_readClause 128 = .ok (.getfield 23, 3) := by decide +kernel
theorem dX11_readClause_131 : decode cX11_readClause 131 = .ok (.bipush 12, 2) := by decide +kernel
theorem dX11_readClause_133 : decode cX11_readClause 133 = .ok (.aload_n 0, 1) := by decide +kernel
theorem dX11_readClause_134 : decode cX11_readClause 134 = .ok (.getfield 184, 3) := by decide +kernel
theorem dX11_readClause_137 : decode cX11_readClause 137 = .ok (.imul, 1) := by decide +kernel
theorem dX11_readClause_138 : decode cX11_readClause 138 = .ok (.bipush 11, 2) := by decide +kernel
theorem dX11_readClause_140 : decode cX11_readClause 140 = .ok (.iadd, 1) := by decide +kernel
theorem dX11_readClause_141 : decode cX11_readClause 141 = .ok (.iload_n 2, 1) := by decide +kernel
theorem dX11_readClause_142 : decode cX11_readClause 142 = .ok (.bipush 8, 2) := by decide +kernel
theorem dX11_readClause_144 : decode cX11_readClause 144 = .ok (.isub, 1) := by decide +kernel
theorem dX11_readClause_145 : decode cX11_readClause 145 = .ok (.iastore, 1) := by decide +kernel
theorem dX11_readClause_146 : decode cX11_readClause 146 = .ok (.aload_n 0, 1) := by decide +kernel
theorem dX11_readClause_147 : decode cX11_readClause 147 = .ok (.dup, 1) := by decide +kernel
theorem dX11_readClause_148 : decode cX11_readClause 148 = .ok (.getfield 184, 3) := by decide +kernel
theorem dX11_readClause_151 : decode cX11_readClause 151 = .ok (.iconst 1, 1) := by decide +kernel
theorem dX11_readClause_152 : decode cX11_readClause 152 = .ok (.iadd, 1) := by decide +kernel
theorem dX11_readClause_153 : decode cX11_readClause 153 = .ok (.putfield 184, 3) := by decide +kernel
theorem dX11_readClause_156 : decode cX11_readClause 156 = .ok (.iload_n 1, 1) := by decide +kernel
theorem dX11_readClause_157 : decode cX11_readClause 157 = .ok (.ireturn, 1) := by decide +kernel
theorem dX11_readClause_158 : decode cX11_readClause 158 = .ok (.aload_n 0, 1) := by decide +kernel
theorem dX11_readClause_159 : decode cX11_readClause 159 = .ok (.getfield 17, 3) := by decide +kernel
theorem dX11_readClause_162 : decode cX11_readClause 162 = .ok (.iload_n 2, 1) := by decide +kernel
theorem dX11_readClause_163 : decode cX11_readClause 163 = .ok (.ifCond .ne 7, 3) := by decide +kernel
theorem dX11_readClause_166 : decode cX11_readClause 166 = .ok (.iconst 0, 1) := by decide +kernel
theorem dX11_readClause_167 : decode cX11_readClause 167 = .ok (.goto 6, 3) := by decide +kernel
theorem dX11_readClause_170 : decode cX11_readClause 170 = .ok (.iload_n 2, 1) := by decide +kernel
theorem dX11_readClause_171 : decode cX11_readClause 171 = .ok (.iconst 1, 1) := by decide +kernel
theorem dX11_readClause_172 : decode cX11_readClause 172 = .ok (.iadd, 1) := by decide +kernel
theorem dX11_readClause_173 : decode cX11_readClause 173 = .ok (.aload_n 0, 1) := by decide +kernel
theorem dX11_readClause_174 : decode cX11_readClause 174 = .ok (.getfield 13, 3) := by decide +kernel
theorem dX11_readClause_177 : decode cX11_readClause 177 = .ok (.iconst 0, 1) := by decide +kernel
theorem dX11_readClause_178 : decode cX11_readClause 178 = .ok (.iaload, 1) := by decide +kernel
theorem dX11_readClause_179 : decode cX11_readClause 179 = .ok (.iastore, 1) := by decide +kernel
theorem dX11_readClause_180 : decode cX11_readClause 180 = .ok (.iload_n 2, 1) := by decide +kernel
theorem dX11_readClause_181 : decode cX11_readClause 181 = .ok (.ifCond .ne 15, 3) := by decide +kernel
theorem dX11_readClause_184 : decode cX11_readClause 184 = .ok (.aload_n 0, 1) := by decide +kernel
theorem dX11_readClause_185 : decode cX11_readClause 185 = .ok (.getfield 17, 3) := by decide +kernel
theorem dX11_readClause_188 : decode cX11_readClause 188 = .ok (.iconst 1, 1) := by decide +kernel
theorem dX11_readClause_189 : decode cX11_readClause 189 = .ok (.aload_n 0, 1) := by decide +kernel
theorem dX11_readClause_190 : decode cX11_readClause 190 = .ok (.getfield 13, 3) := by decide +kernel
theorem dX11_readClause_193 : decode cX11_readClause 193 = .ok (.iconst 1, 1) := by decide +kernel
theorem dX11_readClause_194 : decode cX11_readClause 194 = .ok (.iaload, 1) := by decide +kernel
theorem dX11_readClause_195 : decode cX11_readClause 195 = .ok (.iastore, 1) := by decide +kernel
theorem dX11_readClause_196 : decode cX11_readClause 196 = .ok (.iload_n 1, 1) := by decide +kernel
theorem dX11_readClause_197 : decode cX11_readClause 197 = .ok (.iconst 1, 1) := by decide +kernel
theorem dX11_readClause_198 : decode cX11_readClause 198 = .ok (.iload_n 2, 1) := by decide +kernel
theorem dX11_readClause_199 : decode cX11_readClause 199 = .ok (.ishl, 1) := by decide +kernel
theorem dX11_readClause_200 : decode cX11_readClause 200 = .ok (.ior, 1) := by decide +kernel
theorem dX11_readClause_201 : decode cX11_readClause 201 = .ok (.ireturn, 1) := by decide +kernel
theorem dX11_goesOn_0 : decode cX11_goesOn 0 = .ok (.aload_n 0, 1) := by decide +kernel
theorem dX11_goesOn_1 : decode cX11_goesOn 1 = .ok (.invokevirtual 108, 3) := by decide +kernel
theorem dX11_goesOn_4 : decode cX11_goesOn 4 = .ok (.istore_n 1, 1) := by decide +kernel
theorem dX11_goesOn_5 : decode cX11_goesOn 5 = .ok (.aload_n 0, 1) := by decide +kernel
theorem dX11_goesOn_6 : decode cX11_goesOn 6 = .ok (.getfield 97, 3) := by decide +kernel
theorem dX11_goesOn_9 : decode cX11_goesOn 9 = .ok (.iconst (-1), 1) := by decide +kernel
theorem dX11_goesOn_10 : decode cX11_goesOn 10 = .ok (.if_icmp .ne 22, 3) := by decide +kernel
theorem dX11_goesOn_13 : decode cX11_goesOn 13 = .ok (.iload_n 1, 1) := by decide +kernel
theorem dX11_goesOn_14 : decode cX11_goesOn 14 = .ok (.iconst (-1), 1) := by decide +kernel
theorem dX11_goesOn_15 : decode cX11_goesOn 15 = .ok (.if_icmp .eq 17, 3) := by decide +kernel
theorem dX11_goesOn_18 : decode cX11_goesOn 18 = .ok (.iload_n 1, 1) := by decide +kernel
theorem dX11_goesOn_19 : decode cX11_goesOn 19 = .ok (.bipush 59, 2) := by decide +kernel
theorem dX11_goesOn_21 : decode cX11_goesOn 21 = .ok (.if_icmp .eq 11, 3) := by decide +kernel
theorem dX11_goesOn_24 : decode cX11_goesOn 24 = .ok (.aload_n 0, 1) := by decide +kernel
theorem dX11_goesOn_25 : decode cX11_goesOn 25 = .ok (.aload_n 0, 1) := by decide +kernel
theorem dX11_goesOn_26 : decode cX11_goesOn 26 = .ok (.getfield 90, 3) := by decide +kernel
theorem dX11_goesOn_29 : decode cX11_goesOn 29 = .ok (.invokevirtual 128, 3) := by decide +kernel
theorem dX11_goesOn_32 : decode cX11_goesOn 32 = .ok (.aload_n 0, 1) := by decide +kernel
theorem dX11_goesOn_33 : decode cX11_goesOn 33 = .ok (.getfield 97, 3) := by decide +kernel
theorem dX11_goesOn_36 : decode cX11_goesOn 36 = .ok (.iconst (-1), 1) := by decide +kernel
theorem dX11_goesOn_37 : decode cX11_goesOn 37 = .ok (.if_icmp .ne 13, 3) := by decide +kernel
theorem dX11_goesOn_40 : decode cX11_goesOn 40 = .ok (.iload_n 1, 1) := by decide +kernel
theorem dX11_goesOn_41 : decode cX11_goesOn 41 = .ok (.bipush 59, 2) := by decide +kernel
theorem dX11_goesOn_43 : decode cX11_goesOn 43 = .ok (.if_icmp .ne 7, 3) := by decide +kernel
theorem dX11_goesOn_46 : decode cX11_goesOn 46 = .ok (.iconst 1, 1) := by decide +kernel
theorem dX11_goesOn_47 : decode cX11_goesOn 47 = .ok (.goto 4, 3) := by decide +kernel
theorem dX11_goesOn_50 : decode cX11_goesOn 50 = .ok (.iconst 0, 1) := by decide +kernel
theorem dX11_goesOn_51 : decode cX11_goesOn 51 = .ok (.ireturn, 1) := by decide +kernel
theorem dX11_readScene_0 : decode cX11_readScene 0 = .ok (.aload_n 0, 1) := by decide +kernel
theorem dX11_readScene_1 : decode cX11_readScene 1 = .ok (.invokevirtual 191, 3) := by decide +kernel
theorem dX11_readScene_4 : decode cX11_readScene 4 = .ok (.aload_n 0, 1) := by decide +kernel
theorem dX11_readScene_5 : decode cX11_readScene 5 = .ok (.iconst 0, 1) := by decide +kernel
theorem dX11_readScene_6 : decode cX11_readScene 6 = .ok (.putfield 184, 3) := by decide +kernel
theorem dX11_readScene_9 : decode cX11_readScene 9 = .ok (.iconst 0, 1) := by decide +kernel
theorem dX11_readScene_10 : decode cX11_readScene 10 = .ok (.istore_n 1, 1) := by decide +kernel
theorem dX11_readScene_11 : decode cX11_readScene 11 = .ok (.iconst 1, 1) := by decide +kernel
theorem dX11_readScene_12 : decode cX11_readScene 12 = .ok (.istore_n 2, 1) := by decide +kernel
theorem dX11_readScene_13 : decode cX11_readScene 13 = .ok (.iload_n 2, 1) := by decide +kernel
theorem dX11_readScene_14 : decode cX11_readScene 14 = .ok (.ifCond .eq 31, 3) := by decide +kernel
theorem dX11_readScene_17 : decode cX11_readScene 17 = .ok (.aload_n 0, 1) := by decide +kernel
theorem dX11_readScene_18 : decode cX11_readScene 18 = .ok (.iload_n 1, 1) := by decide +kernel
theorem dX11_readScene_19 : decode cX11_readScene 19 = .ok (.invokevirtual 194, 3) := by decide +kernel
theorem dX11_readScene_22 : decode cX11_readScene 22 = .ok (.istore_n 1, 1) := by decide +kernel
theorem dX11_readScene_23 : decode cX11_readScene 23 = .ok (.aload_n 0, 1) := by decide +kernel
theorem dX11_readScene_24 : decode cX11_readScene 24 = .ok (.invokevirtual 197, 3) := by decide +kernel
theorem dX11_readScene_27 : decode cX11_readScene 27 = .ok (.istore_n 2, 1) := by decide +kernel
theorem dX11_readScene_28 : decode cX11_readScene 28 = .ok (.iload_n 2, 1) := by decide +kernel
theorem dX11_readScene_29 : decode cX11_readScene 29 = .ok (.ifCond .eq (-16), 3) := by decide +kernel
theorem dX11_readScene_32 : decode cX11_readScene 32 = .ok (.aload_n 0, 1) := by decide +kernel
theorem dX11_readScene_33 : decode cX11_readScene 33 = .ok (.dup, 1) := by decide +kernel
theorem dX11_readScene_34 : decode cX11_readScene 34 = .ok (.getfield 90, 3) := by decide +kernel
theorem dX11_readScene_37 : decode cX11_readScene 37 = .ok (.iconst 1, 1) := by decide +kernel
theorem dX11_readScene_38 : decode cX11_readScene 38 = .ok (.iadd, 1) := by decide +kernel
theorem dX11_readScene_39 : decode cX11_readScene 39 = .ok (.putfield 90, 3) := by decide +kernel
theorem dX11_readScene_42 : decode cX11_readScene 42 = .ok (.goto (-29), 3) := by decide +kernel
theorem dX11_readScene_45 : decode cX11_readScene 45 = .ok (.aload_n 0, 1) := by decide +kernel
theorem dX11_readScene_46 : decode cX11_readScene 46 = .ok (.getfield 97, 3) := by decide +kernel
theorem dX11_readScene_49 : decode cX11_readScene 49 = .ok (.iconst (-1), 1) := by decide +kernel
theorem dX11_readScene_50 : decode cX11_readScene 50 = .ok (.if_icmp .ne 18, 3) := by decide +kernel
theorem dX11_readScene_53 : decode cX11_readScene 53 = .ok (.aload_n 0, 1) := by decide +kernel
theorem dX11_readScene_54 : decode cX11_readScene 54 = .ok (.getfield 184, 3) := by decide +kernel
theorem dX11_readScene_57 : decode cX11_readScene 57 = .ok (.ifCond .ne 11, 3) := by decide +kernel
theorem dX11_readScene_60 : decode cX11_readScene 60 = .ok (.aload_n 0, 1) := by decide +kernel
theorem dX11_readScene_61 : decode cX11_readScene 61 = .ok (.aload_n 0, 1) := by decide +kernel
theorem dX11_readScene_62 : decode cX11_readScene 62 = .ok (.getfield 90, 3) := by decide +kernel
theorem dX11_readScene_65 : decode cX11_readScene 65 = .ok (.invokevirtual 128, 3) := by decide +kernel
theorem dX11_readScene_68 : decode cX11_readScene 68 = .ok (.return_, 1) := by decide +kernel
theorem dX11_readScript_0 : decode cX11_readScript 0 = .ok (.iconst 0, 1) := by decide +kernel
theorem dX11_readScript_1 : decode cX11_readScript 1 = .ok (.istore_n 1, 1) := by decide +kernel
theorem dX11_readScript_2 : decode cX11_readScript 2 = .ok (.iconst 1, 1) := by decide +kernel
theorem dX11_readScript_3 : decode cX11_readScript 3 = .ok (.istore_n 2, 1) := by decide +kernel
theorem dX11_readScript_4 : decode cX11_readScript 4 = .ok (.iload_n 2, 1) := by decide +kernel
theorem dX11_readScript_5 : decode cX11_readScript 5 = .ok (.ifCond .eq 169, 3) := by decide +kernel
theorem dX11_readScript_8 : decode cX11_readScript 8 = .ok (.iconst 5, 1) := by decide +kernel
theorem dX11_readScript_9 : decode cX11_readScript 9 = .ok (.bipush 48, 2) := by decide +kernel
theorem dX11_readScript_11 : decode cX11_readScript 11 = .ok (.iload_n 1, 1) := by decide +kernel
theorem dX11_readScript_12 : decode cX11_readScript 12 = .ok (.iadd, 1) := by decide +kernel
theorem dX11_readScript_13 : decode cX11_readScript 13 = .ok (.imul, 1) := by decide +kernel
theorem dX11_readScript_14 : decode cX11_readScript 14 = .ok (.istore_n 3, 1) := by decide +kernel
theorem dX11_readScript_15 : decode cX11_readScript 15 = .ok (.aload_n 0, 1) := by decide +kernel
theorem dX11_readScript_16 : decode cX11_readScript 16 = .ok (.ldc 200, 2) := by decide +kernel
theorem dX11_readScript_18 : decode cX11_readScript 18 = .ok (.invokevirtual 176, 3) := by decide +kernel
theorem dX11_readScript_21 : decode cX11_readScript 21 = .ok (.istore 4, 2) := by decide +kernel
theorem dX11_readScript_23 : decode cX11_readScript 23 = .ok (.iload 4, 2) := by decide +kernel
theorem dX11_readScript_25 : decode cX11_readScript 25 = .ok (.iconst (-1), 1) := by decide +kernel
theorem dX11_readScript_26 : decode cX11_readScript 26 = .ok (.if_icmp .ne 12, 3) := by decide +kernel
theorem dX11_readScript_29 : decode cX11_readScript 29 = .ok (.aload_n 0, 1) := by decide +kernel
theorem dX11_readScript_30 : decode cX11_readScript 30 = .ok (.aload_n 0, 1) := by decide +kernel
theorem dX11_readScript_31 : decode cX11_readScript 31 = .ok (.getfield 111, 3) := by decide +kernel
theorem dX11_readScript_34 : decode cX11_readScript 34 = .ok (.invokevirtual 128, 3) := by decide +kernel
theorem dX11_readScript_37 : decode cX11_readScript 37 = .ok (.return_, 1) := by decide +kernel
theorem dX11_readScript_38 : decode cX11_readScript 38 = .ok (.iload 4, 2) := by decide +kernel
theorem dX11_readScript_40 : decode cX11_readScript 40 = .ok (.iconst 2, 1) := by decide +kernel
theorem dX11_readScript_41 : decode cX11_readScript 41 = .ok (.if_icmp .eq 9, 3) := by decide +kernel
theorem dX11_readScript_44 : decode cX11_readScript 44 = .ok (.iload 4, 2) := by decide +kernel
theorem dX11_readScript_46 : decode cX11_readScript 46 = .ok (.iconst 3, 1) := by decide +kernel
theorem dX11_readScript_47 : decode cX11_readScript 47 = .ok (.if_icmp .ne 7, 3) := by decide +kernel
theorem dX11_readScript_50 : decode cX11_readScript 50 = .ok (.iconst 0, 1) := by decide +kernel
theorem dX11_readScript_51 : decode cX11_readScript 51 = .ok (.goto 15, 3) := by decide +kernel
theorem dX11_readScript_54 : decode cX11_readScript 54 = .ok (.iload 4, 2) := by decide +kernel
theorem dX11_readScript_56 : decode cX11_readScript 56 = .ok (.bipush 8, 2) := by decide +kernel
theorem dX11_readScript_58 : decode cX11_readScript 58 = .ok (.if_icmp .ne 7, 3) := by decide +kernel
theorem dX11_readScript_61 : decode cX11_readScript 61 = .ok (.iconst 4, 1) := by decide +kernel
theorem dX11_readScript_62 : decode cX11_readScript 62 = .ok (.goto 4, 3) := by decide +kernel
theorem dX11_readScript_65 : decode cX11_readScript 65 = .ok (.iconst 1, 1) := by decide +kernel
theorem dX11_readScript_66 : decode cX11_readScript 66 = .ok (.istore 5, 2) := by decide +kernel
theorem dX11_readScript_68 : decode cX11_readScript 68 = .ok (.aload_n 0, 1) := by decide +kernel
theorem dX11_readScript_69 : decode cX11_readScript 69 = .ok (.iload 5, 2) := by decide +kernel
theorem dX11_readScript_71 : decode cX11_readScript 71 = .ok (.iconst 0, 1) := by decide +kernel
theorem dX11_readScript_72 : decode cX11_readScript 72 = .ok (.iload 4, 2) := by decide +kernel
theorem dX11_readScript_74 : decode cX11_readScript 74 = .ok (.invokevirtual 187, 3) := by decide +kernel
theorem dX11_readScript_77 : decode cX11_readScript 77 = .ok (.aload_n 0, 1) := by decide +kernel
theorem dX11_readScript_78 : decode cX11_readScript 78 = .ok (.getfield 29, 3) := by decide +kernel
theorem dX11_readScript_81 : decode cX11_readScript 81 = .ok (.iload_n 3, 1) := by decide +kernel
theorem dX11_readScript_82 : decode cX11_readScript 82 = .ok (.iload 4, 2) := by decide +kernel
theorem dX11_readScript_84 : decode cX11_readScript 84 = .ok (.iastore, 1) := by decide +kernel
theorem dX11_readScript_85 : decode cX11_readScript 85 = .ok (.iconst 0, 1) := by decide +kernel
theorem dX11_readScript_86 : decode cX11_readScript 86 = .ok (.istore 6, 2) := by decide +kernel
theorem dX11_readScript_88 : decode cX11_readScript 88 = .ok (.iload 6, 2) := by decide +kernel
theorem dX11_readScript_90 : decode cX11_readScript 90 = .ok (.iconst 4, 1) := by decide +kernel
theorem dX11_readScript_91 : decode cX11_readScript 91 = .ok (.if_icmp .ge 39, 3) := by decide +kernel
theorem dX11_readScript_94 : decode cX11_readScript 94 = .ok (.aload_n 0, 1) := by decide +kernel
theorem dX11_readScript_95 : decode cX11_readScript 95 = .ok (.getfield 29, 3) := by decide +kernel
theorem dX11_readScript_98 : decode cX11_readScript 98 = .ok (.iload_n 3, 1) := by decide +kernel
theorem dX11_readScript_99 : decode cX11_readScript 99 = .ok (.iconst 1, 1) := by decide +kernel
theorem dX11_readScript_100 : decode cX11_readScript 100 = .ok (.iadd, 1) := by decide +kernel
theorem dX11_readScript_101 : decode cX11_readScript 101 = .ok (.iload 6, 2) := by decide +kernel
theorem dX11_readScript_103 : decode cX11_readScript 103 = .ok (.iadd, 1) := by decide +kernel
theorem dX11_readScript_104 : decode cX11_readScript 104 = .ok (.iload 6, 2) := by decide +kernel
theorem dX11_readScript_106 : decode cX11_readScript 106 = .ok (.iload 5, 2) := by decide +kernel
theorem dX11_readScript_108 : decode cX11_readScript 108 = .ok (.if_icmp .ge 13, 3) := by decide +kernel
theorem dX11_readScript_111 : decode cX11_readScript 111 = .ok (.aload_n 0, 1) := by decide +kernel
theorem dX11_readScript_112 : decode cX11_readScript 112 = .ok (.getfield 13, 3) := by decide +kernel
theorem dX11_readScript_115 : decode cX11_readScript 115 = .ok (.iload 6, 2) := by decide +kernel
theorem dX11_readScript_117 : decode cX11_readScript 117 = .ok (.iaload, 1) := by decide +kernel
theorem dX11_readScript_118 : decode cX11_readScript 118 = .ok (.goto 5, 3) := by decide +kernel
theorem dX11_readScript_121 : decode cX11_readScript 121 = .ok (.ldc 202, 2) := by decide +kernel
theorem dX11_readScript_123 : decode cX11_readScript 123 = .ok (.iastore, 1) := by decide +kernel
theorem dX11_readScript_124 : decode cX11_readScript 124 = .ok (.iinc 6 1, 3) := by decide +kernel
theorem dX11_readScript_127 : decode cX11_readScript 127 = .ok (.goto (-39), 3) := by decide +kernel
theorem dX11_readScript_130 : decode cX11_readScript 130 = .ok (.iinc 1 1, 3) := by decide +kernel
theorem dX11_readScript_133 : decode cX11_readScript 133 = .ok (.aload_n 0, 1) := by decide +kernel
theorem dX11_readScript_134 : decode cX11_readScript 134 = .ok (.invokevirtual 197, 3) := by decide +kernel
theorem dX11_readScript_137 : decode cX11_readScript 137 = .ok (.istore_n 2, 1) := by decide +kernel
theorem dX11_readScript_138 : decode cX11_readScript 138 = .ok (.iload_n 2, 1) := by decide +kernel
theorem dX11_readScript_139 : decode cX11_readScript 139 = .ok (.ifCond .eq 18, 3) := by decide +kernel
theorem dX11_readScript_142 : decode cX11_readScript 142 = .ok (.iload_n 1, 1) := by decide +kernel
theorem dX11_readScript_143 : decode cX11_readScript 143 = .ok (.bipush 12, 2) := by decide +kernel
theorem dX11_readScript_145 : decode cX11_readScript 145 = .ok (.if_icmp .ne 12, 3) := by decide +kernel
theorem dX11_readScript_148 : decode cX11_readScript 148 = .ok (.aload_n 0, 1) := by decide +kernel
theorem dX11_readScript_149 : decode cX11_readScript 149 = .ok (.aload_n 0, 1) := by decide +kernel
theorem dX11_readScript_150 : decode cX11_readScript 150 = .ok (.getfield 90, 3) := by decide +kernel
theorem dX11_readScript_153 : decode cX11_readScript 153 = .ok (.invokevirtual 128, 3) := by decide +kernel
theorem dX11_readScript_156 : decode cX11_readScript 156 = .ok (.return_, 1) := by decide +kernel
theorem dX11_readScript_157 : decode cX11_readScript 157 = .ok (.iload_n 2, 1) := by decide +kernel
theorem dX11_readScript_158 : decode cX11_readScript 158 = .ok (.ifCond .eq 13, 3) := by decide +kernel
theorem dX11_readScript_161 : decode cX11_readScript 161 = .ok (.aload_n 0, 1) := by decide +kernel
theorem dX11_readScript_162 : decode cX11_readScript 162 = .ok (.dup, 1) := by decide +kernel
theorem dX11_readScript_163 : decode cX11_readScript 163 = .ok (.getfield 90, 3) := by decide +kernel
theorem dX11_readScript_166 : decode cX11_readScript 166 = .ok (.iconst 1, 1) := by decide +kernel
theorem dX11_readScript_167 : decode cX11_readScript 167 = .ok (.iadd, 1) := by decide +kernel
theorem dX11_readScript_168 : decode cX11_readScript 168 = .ok (.putfield 90, 3) := by decide +kernel
theorem dX11_readScript_171 : decode cX11_readScript 171 = .ok (.goto (-167), 3) := by decide +kernel
theorem dX11_readScript_174 : decode cX11_readScript 174 = .ok (.aload_n 0, 1) := by decide +kernel
theorem dX11_readScript_175 : decode cX11_readScript 175 = .ok (.getfield 32, 3) := by decide +kernel
theorem dX11_readScript_178 : decode cX11_readScript 178 = .ok (.iconst 4, 1) := by decide +kernel
theorem dX11_readScript_179 : decode cX11_readScript 179 = .ok (.iload_n 1, 1) := by decide +kernel
theorem dX11_readScript_180 : decode cX11_readScript 180 = .ok (.iastore, 1) := by decide +kernel
theorem dX11_readScript_181 : decode cX11_readScript 181 = .ok (.return_, 1) := by decide +kernel
theorem dX11_fault_0 : decode cX11_fault 0 = .ok (.aload_n 0, 1) := by decide +kernel
theorem dX11_fault_1 : decode cX11_fault 1 = .ok (.iconst 0, 1) := by decide +kernel
theorem dX11_fault_2 : decode cX11_fault 2 = .ok (.putfield 75, 3) := by decide +kernel
theorem dX11_fault_5 : decode cX11_fault 5 = .ok (.iload_n 1, 1) := by decide +kernel
theorem dX11_fault_6 : decode cX11_fault 6 = .ok (.i2l, 1) := by decide +kernel
theorem dX11_fault_7 : decode cX11_fault 7 = .ok (.lconst 0, 1) := by decide +kernel
theorem dX11_fault_8 : decode cX11_fault 8 = .ok (.lconst 1, 1) := by decide +kernel
theorem dX11_fault_9 : decode cX11_fault 9 = .ok (.invokestatic 148, 3) := by decide +kernel
theorem dX11_fault_12 : decode cX11_fault 12 = .ok (.ifCond .ne 6, 3) := by decide +kernel
theorem dX11_fault_15 : decode cX11_fault 15 = .ok (.bipush (-2), 2) := by decide +kernel
theorem dX11_fault_17 : decode cX11_fault 17 = .ok (.ireturn, 1) := by decide +kernel
theorem dX11_fault_18 : decode cX11_fault 18 = .ok (.aload_n 0, 1) := by decide +kernel
theorem dX11_fault_19 : decode cX11_fault 19 = .ok (.iconst 0, 1) := by decide +kernel
theorem dX11_fault_20 : decode cX11_fault 20 = .ok (.putfield 90, 3) := by decide +kernel
theorem dX11_fault_23 : decode cX11_fault 23 = .ok (.aload_n 0, 1) := by decide +kernel
theorem dX11_fault_24 : decode cX11_fault 24 = .ok (.iconst (-1), 1) := by decide +kernel
theorem dX11_fault_25 : decode cX11_fault 25 = .ok (.putfield 97, 3) := by decide +kernel
theorem dX11_fault_28 : decode cX11_fault 28 = .ok (.iload_n 1, 1) := by decide +kernel
theorem dX11_fault_29 : decode cX11_fault 29 = .ok (.ifCond .ne 10, 3) := by decide +kernel
theorem dX11_fault_32 : decode cX11_fault 32 = .ok (.aload_n 0, 1) := by decide +kernel
theorem dX11_fault_33 : decode cX11_fault 33 = .ok (.invokevirtual 203, 3) := by decide +kernel
theorem dX11_fault_36 : decode cX11_fault 36 = .ok (.goto 7, 3) := by decide +kernel
theorem dX11_fault_39 : decode cX11_fault 39 = .ok (.aload_n 0, 1) := by decide +kernel
theorem dX11_fault_40 : decode cX11_fault 40 = .ok (.invokevirtual 206, 3) := by decide +kernel
theorem dX11_fault_43 : decode cX11_fault 43 = .ok (.aload_n 0, 1) := by decide +kernel
theorem dX11_fault_44 : decode cX11_fault 44 = .ok (.getfield 97, 3) := by decide +kernel
theorem dX11_fault_47 : decode cX11_fault 47 = .ok (.ireturn, 1) := by decide +kernel
theorem dX11_text_0 : decode cX11_text 0 = .ok (.aload_n 0, 1) := by decide +kernel
theorem dX11_text_1 : decode cX11_text 1 = .ok (.iconst 0, 1) := by decide +kernel
theorem dX11_text_2 : decode cX11_text 2 = .ok (.putfield 75, 3) := by decide +kernel
theorem dX11_text_5 : decode cX11_text 5 = .ok (.iload_n 1, 1) := by decide +kernel
theorem dX11_text_6 : decode cX11_text 6 = .ok (.i2l, 1) := by decide +kernel
theorem dX11_text_7 : decode cX11_text 7 = .ok (.lconst 0, 1) := by decide +kernel
theorem dX11_text_8 : decode cX11_text 8 = .ok (.lconst 1, 1) := by decide +kernel
theorem dX11_text_9 : decode cX11_text 9 = .ok (.invokestatic 148, 3) := by decide +kernel
theorem dX11_text_12 : decode cX11_text 12 = .ok (.ifCond .eq 25, 3) := by decide +kernel
theorem dX11_text_15 : decode cX11_text 15 = .ok (.iload_n 1, 1) := by decide +kernel
theorem dX11_text_16 : decode cX11_text 16 = .ok (.iconst 1, 1) := by decide +kernel
theorem dX11_text_17 : decode cX11_text 17 = .ok (.if_icmp .ne 11, 3) := by decide +kernel
theorem dX11_text_20 : decode cX11_text 20 = .ok (.aload_n 0, 1) := by decide +kernel
theorem dX11_text_21 : decode cX11_text 21 = .ok (.getfield 209, 3) := by decide +kernel
theorem dX11_text_24 : decode cX11_text 24 = .ok (.iconst 4, 1) := by decide +kernel
theorem dX11_text_25 : decode cX11_text 25 = .ok (.if_icmp .eq 12, 3) := by decide +kernel
theorem dX11_text_28 : decode cX11_text 28 = .ok (.aload_n 0, 1) := by decide +kernel
theorem dX11_text_29 : decode cX11_text 29 = .ok (.iload_n 1, 1) := by decide +kernel
theorem dX11_text_30 : decode cX11_text 30 = .ok (.invokevirtual 212, 3) := by decide +kernel
theorem dX11_text_33 : decode cX11_text 33 = .ok (.iconst (-1), 1) := by decide +kernel
theorem dX11_text_34 : decode cX11_text 34 = .ok (.if_icmp .eq 5, 3) := by decide +kernel
theorem dX11_text_37 : decode cX11_text 37 = .ok (.iconst (-1), 1) := by decide +kernel
theorem dX11_text_38 : decode cX11_text 38 = .ok (.ireturn, 1) := by decide +kernel
theorem dX11_text_39 : decode cX11_text 39 = .ok (.aload_n 0, 1) := by decide +kernel
theorem dX11_text_40 : decode cX11_text 40 = .ok (.iconst 0, 1) := by decide +kernel
theorem dX11_text_41 : decode cX11_text 41 = .ok (.putfield 79, 3) := by decide +kernel
theorem dX11_text_44 : decode cX11_text 44 = .ok (.iload_n 1, 1) := by decide +kernel
theorem dX11_text_45 : decode cX11_text 45 = .ok (.iconst 1, 1) := by decide +kernel
theorem dX11_text_46 : decode cX11_text 46 = .ok (.if_icmp .ne 73, 3) := by decide +kernel
theorem dX11_text_49 : decode cX11_text 49 = .ok (.iconst 0, 1) := by decide +kernel
theorem dX11_text_50 : decode cX11_text 50 = .ok (.istore_n 2, 1) := by decide +kernel
theorem dX11_text_51 : decode cX11_text 51 = .ok (.iload_n 2, 1) := by decide +kernel
theorem dX11_text_52 : decode cX11_text 52 = .ok (.bipush 60, 2) := by decide +kernel
theorem dX11_text_54 : decode cX11_text 54 = .ok (.if_icmp .ge 33, 3) := by decide +kernel
theorem dX11_text_57 : decode cX11_text 57 = .ok (.aload_n 0, 1) := by decide +kernel
theorem dX11_text_58 : decode cX11_text 58 = .ok (.getfield 29, 3) := by decide +kernel
theorem dX11_text_61 : decode cX11_text 61 = .ok (.bipush 60, 2) := by decide +kernel
theorem dX11_text_63 : decode cX11_text 63 = .ok (.aload_n 0, 1) := by decide +kernel
theorem dX11_text_64 : decode cX11_text 64 = .ok (.getfield 209, 3) := by decide +kernel
theorem dX11_text_67 : decode cX11_text 67 = .ok (.imul, 1) := by decide +kernel
theorem dX11_text_68 : decode cX11_text 68 = .ok (.iload_n 2, 1) := by decide +kernel
theorem dX11_text_69 : decode cX11_text 69 = .ok (.iadd, 1) := by decide +kernel
theorem dX11_text_70 : decode cX11_text 70 = .ok (.aload_n 0, 1) := by decide +kernel
theorem dX11_text_71 : decode cX11_text 71 = .ok (.getfield 29, 3) := by decide +kernel
theorem dX11_text_74 : decode cX11_text 74 = .ok (.sipush 240, 3) := by decide +kernel
theorem dX11_text_77 : decode cX11_text 77 = .ok (.iload_n 2, 1) := by decide +kernel
theorem dX11_text_78 : decode cX11_text 78 = .ok (.iadd, 1) := by decide +kernel
theorem dX11_text_79 : decode cX11_text 79 = .ok (.iaload, 1) := by decide +kernel
theorem dX11_text_80 : decode cX11_text 80 = .ok (.iastore, 1) := by decide +kernel
theorem dX11_text_81 : decode cX11_text 81 = .ok (.iinc 2 1, 3) := by decide +kernel
theorem dX11_text_84 : decode cX11_text 84 = .ok (.goto (-33), 3) := by decide +kernel
theorem dX11_text_87 : decode cX11_text 87 = .ok (.aload_n 0, 1) := by decide +kernel
theorem dX11_text_88 : decode cX11_text 88 = .ok (.getfield 32, 3) := by decide +kernel
theorem dX11_text_91 : decode cX11_text 91 = .ok (.aload_n 0, 1) := by decide +kernel
theorem dX11_text_92 : decode cX11_text 92 = .ok (.getfield 209, 3) := by decide +kernel
theorem dX11_text_95 : decode cX11_text 95 = .ok (.aload_n 0, 1) := by decide +kernel
theorem dX11_text_96 : decode cX11_text 96 = .ok (.getfield 32, 3) := by decide +kernel
theorem dX11_text_99 : decode cX11_text 99 = .ok (.iconst 4, 1) := by decide +kernel
theorem dX11_text_100 : decode cX11_text 100 = .ok (.iaload, 1) := by decide +kernel
theorem dX11_text_101 : decode cX11_text 101 = .ok (.iastore, 1) := by decide +kernel
theorem dX11_text_102 : decode cX11_text 102 = .ok (.aload_n 0, 1) := by decide +kernel
theorem dX11_text_103 : decode cX11_text 103 = .ok (.dup, 1) := by decide +kernel
theorem dX11_text_104 : decode cX11_text 104 = .ok (.getfield 209, 3) := by decide +kernel
theorem dX11_text_107 : decode cX11_text 107 = .ok (.iconst 1, 1) := by decide +kernel
theorem dX11_text_108 : decode cX11_text 108 = .ok (.iadd, 1) := by decide +kernel
theorem dX11_text_109 : decode cX11_text 109 = .ok (.putfield 209, 3) := by decide +kernel
theorem dX11_text_112 : decode cX11_text 112 = .ok (.aload_n 0, 1) := by decide +kernel
theorem dX11_text_113 : decode cX11_text 113 = .ok (.getfield 209, 3) := by decide +kernel
theorem dX11_text_116 : decode cX11_text 116 = .ok (.iconst 1, 1) := by decide +kernel
theorem dX11_text_117 : decode cX11_text 117 = .ok (.isub, 1) := by decide +kernel
theorem dX11_text_118 : decode cX11_text 118 = .ok (.ireturn, 1) := by decide +kernel
theorem dX11_text_119 : decode cX11_text 119 = .ok (.aload_n 0, 1) := by decide +kernel
theorem dX11_text_120 : decode cX11_text 120 = .ok (.aload_n 0, 1) := by decide +kernel
theorem dX11_text_121 : decode cX11_text 121 = .ok (.getfield 184, 3) := by decide +kernel
theorem dX11_text_124 : decode cX11_text 124 = .ok (.putfield 214, 3) := by decide +kernel
theorem dX11_text_127 : decode cX11_text 127 = .ok (.iconst 0, 1) := by decide +kernel
theorem dX11_text_128 : decode cX11_text 128 = .ok (.istore_n 2, 1) := by decide +kernel
theorem dX11_text_129 : decode cX11_text 129 = .ok (.iload_n 2, 1) := by decide +kernel
theorem dX11_text_130 : decode cX11_text 130 = .ok (.bipush 9, 2) := by decide +kernel
theorem dX11_text_132 : decode cX11_text 132 = .ok (.if_icmp .ge 21, 3) := by decide +kernel
theorem dX11_text_135 : decode cX11_text 135 = .ok (.aload_n 0, 1) := by decide +kernel
theorem dX11_text_136 : decode cX11_text 136 = .ok (.getfield 20, 3) := by decide +kernel
theorem dX11_text_139 : decode cX11_text 139 = .ok (.iload_n 2, 1) := by decide +kernel
theorem dX11_text_140 : decode cX11_text 140 = .ok (.aload_n 0, 1) := by decide +kernel
theorem dX11_text_141 : decode cX11_text 141 = .ok (.getfield 17, 3) := by decide +kernel
theorem dX11_text_144 : decode cX11_text 144 = .ok (.iload_n 2, 1) := by decide +kernel
theorem dX11_text_145 : decode cX11_text 145 = .ok (.iaload, 1) := by decide +kernel
theorem dX11_text_146 : decode cX11_text 146 = .ok (.iastore, 1) := by decide +kernel
theorem dX11_text_147 : decode cX11_text 147 = .ok (.iinc 2 1, 3) := by decide +kernel
theorem dX11_text_150 : decode cX11_text 150 = .ok (.goto (-21), 3) := by decide +kernel
theorem dX11_text_153 : decode cX11_text 153 = .ok (.iconst 0, 1) := by decide +kernel
theorem dX11_text_154 : decode cX11_text 154 = .ok (.istore_n 2, 1) := by decide +kernel
theorem dX11_text_155 : decode cX11_text 155 = .ok (.iload_n 2, 1) := by decide +kernel
theorem dX11_text_156 : decode cX11_text 156 = .ok (.bipush 120, 2) := by decide +kernel
theorem dX11_text_158 : decode cX11_text 158 = .ok (.if_icmp .ge 21, 3) := by decide +kernel
theorem dX11_text_161 : decode cX11_text 161 = .ok (.aload_n 0, 1) := by decide +kernel
theorem dX11_text_162 : decode cX11_text 162 = .ok (.getfield 26, 3) := by decide +kernel
theorem dX11_text_165 : decode cX11_text 165 = .ok (.iload_n 2, 1) := by decide +kernel
theorem dX11_text_166 : decode cX11_text 166 = .ok (.aload_n 0, 1) := by decide +kernel
theorem dX11_text_167 : decode cX11_text 167 = .ok (.getfield 23, 3) := by decide +kernel
theorem dX11_text_170 : decode cX11_text 170 = .ok (.iload_n 2, 1) := by decide +kernel
theorem dX11_text_171 : decode cX11_text 171 = .ok (.iaload, 1) := by decide +kernel
theorem dX11_text_172 : decode cX11_text 172 = .ok (.iastore, 1) := by decide +kernel
theorem dX11_text_173 : decode cX11_text 173 = .ok (.iinc 2 1, 3) := by decide +kernel
theorem dX11_text_176 : decode cX11_text 176 = .ok (.goto (-21), 3) := by decide +kernel
theorem dX11_text_179 : decode cX11_text 179 = .ok (.iconst 0, 1) := by decide +kernel
theorem dX11_text_180 : decode cX11_text 180 = .ok (.istore_n 2, 1) := by decide +kernel
theorem dX11_text_181 : decode cX11_text 181 = .ok (.iload_n 2, 1) := by decide +kernel
theorem dX11_text_182 : decode cX11_text 182 = .ok (.sipush 1242, 3) := by decide +kernel
theorem dX11_text_185 : decode cX11_text 185 = .ok (.if_icmp .ge 16, 3) := by decide +kernel
theorem dX11_text_188 : decode cX11_text 188 = .ok (.aload_n 0, 1) := by decide +kernel
theorem dX11_text_189 : decode cX11_text 189 = .ok (.getfield 38, 3) := by decide +kernel
theorem dX11_text_192 : decode cX11_text 192 = .ok (.iload_n 2, 1) := by decide +kernel
theorem dX11_text_193 : decode cX11_text 193 = .ok (.iconst 0, 1) := by decide +kernel
theorem dX11_text_194 : decode cX11_text 194 = .ok (.iastore, 1) := by decide +kernel
theorem dX11_text_195 : decode cX11_text 195 = .ok (.iinc 2 1, 3) := by decide +kernel
theorem dX11_text_198 : decode cX11_text 198 = .ok (.goto (-17), 3) := by decide +kernel
theorem dX11_text_201 : decode cX11_text 201 = .ok (.iconst 0, 1) := by decide +kernel
theorem dX11_text_202 : decode cX11_text 202 = .ok (.istore_n 2, 1) := by decide +kernel
theorem dX11_text_203 : decode cX11_text 203 = .ok (.iload_n 2, 1) := by decide +kernel
theorem dX11_text_204 : decode cX11_text 204 = .ok (.aload_n 0, 1) := by decide +kernel
theorem dX11_text_205 : decode cX11_text 205 = .ok (.getfield 214, 3) := by decide +kernel
theorem dX11_text_208 : decode cX11_text 208 = .ok (.if_icmp .ge 49, 3) := by decide +kernel
theorem dX11_text_211 : decode cX11_text 211 = .ok (.iconst 0, 1) := by decide +kernel
theorem dX11_text_212 : decode cX11_text 212 = .ok (.istore_n 3, 1) := by decide +kernel
theorem dX11_text_213 : decode cX11_text 213 = .ok (.iload_n 3, 1) := by decide +kernel
theorem dX11_text_214 : decode cX11_text 214 = .ok (.bipush 9, 2) := by decide +kernel
theorem dX11_text_216 : decode cX11_text 216 = .ok (.if_icmp .ge 35, 3) := by decide +kernel
theorem dX11_text_219 : decode cX11_text 219 = .ok (.aload_n 0, 1) := by decide +kernel
theorem dX11_text_220 : decode cX11_text 220 = .ok (.getfield 38, 3) := by decide +kernel
theorem dX11_text_223 : decode cX11_text 223 = .ok (.sipush 944, 3) := by decide +kernel
theorem dX11_text_226 : decode cX11_text 226 = .ok (.bipush 9, 2) := by decide +kernel
theorem dX11_text_228 : decode cX11_text 228 = .ok (.iload_n 2, 1) := by decide +kernel
theorem dX11_text_229 : decode cX11_text 229 = .ok (.imul, 1) := by decide +kernel
theorem dX11_text_230 : decode cX11_text 230 = .ok (.iadd, 1) := by decide +kernel
theorem dX11_text_231 : decode cX11_text 231 = .ok (.iload_n 3, 1) := by decide +kernel
theorem dX11_text_232 : decode cX11_text 232 = .ok (.iadd, 1) := by decide +kernel
theorem dX11_text_233 : decode cX11_text 233 = .ok (.aload_n 0, 1) := by decide +kernel
theorem dX11_text_234 : decode cX11_text 234 = .ok (.getfield 26, 3) := by decide +kernel
theorem dX11_text_237 : decode cX11_text 237 = .ok (.bipush 12, 2) := by decide +kernel
theorem dX11_text_239 : decode cX11_text 239 = .ok (.iload_n 2, 1) := by decide +kernel
theorem dX11_text_240 : decode cX11_text 240 = .ok (.imul, 1) := by decide +kernel
theorem dX11_text_241 : decode cX11_text 241 = .ok (.iload_n 3, 1) := by decide +kernel
theorem dX11_text_242 : decode cX11_text 242 = .ok (.iadd, 1) := by decide +kernel
theorem dX11_text_243 : decode cX11_text 243 = .ok (.iaload, 1) := by decide +kernel
theorem dX11_text_244 : decode cX11_text 244 = .ok (.iastore, 1) := by decide +kernel
theorem dX11_text_245 : decode cX11_text 245 = .ok (.iinc 3 1, 3) := by decide +kernel
theorem dX11_text_248 : decode cX11_text 248 = .ok (.goto (-35), 3) := by decide +kernel
theorem dX11_text_251 : decode cX11_text 251 = .ok (.iinc 2 1, 3) := by decide +kernel
theorem dX11_text_254 : decode cX11_text 254 = .ok (.goto (-51), 3) := by decide +kernel
theorem dX11_text_257 : decode cX11_text 257 = .ok (.iconst 0, 1) := by decide +kernel
theorem dX11_text_258 : decode cX11_text 258 = .ok (.istore_n 2, 1) := by decide +kernel
theorem dX11_text_259 : decode cX11_text 259 = .ok (.iload_n 2, 1) := by decide +kernel
theorem dX11_text_260 : decode cX11_text 260 = .ok (.iconst 4, 1) := by decide +kernel
theorem dX11_text_261 : decode cX11_text 261 = .ok (.if_icmp .ge 27, 3) := by decide +kernel
theorem dX11_text_264 : decode cX11_text 264 = .ok (.aload_n 0, 1) := by decide +kernel
theorem dX11_text_265 : decode cX11_text 265 = .ok (.getfield 38, 3) := by decide +kernel
theorem dX11_text_268 : decode cX11_text 268 = .ok (.sipush 1057, 3) := by decide +kernel
theorem dX11_text_271 : decode cX11_text 271 = .ok (.iload_n 2, 1) := by decide +kernel
theorem dX11_text_272 : decode cX11_text 272 = .ok (.iadd, 1) := by decide +kernel
theorem dX11_text_273 : decode cX11_text 273 = .ok (.aload_n 0, 1) := by decide +kernel
theorem dX11_text_274 : decode cX11_text 274 = .ok (.getfield 20, 3) := by decide +kernel
theorem dX11_text_277 : decode cX11_text 277 = .ok (.iconst 5, 1) := by decide +kernel
theorem dX11_text_278 : decode cX11_text 278 = .ok (.iload_n 2, 1) := by decide +kernel
theorem dX11_text_279 : decode cX11_text 279 = .ok (.iadd, 1) := by decide +kernel
theorem dX11_text_280 : decode cX11_text 280 = .ok (.iaload, 1) := by decide +kernel
theorem dX11_text_281 : decode cX11_text 281 = .ok (.iastore, 1) := by decide +kernel
theorem dX11_text_282 : decode cX11_text 282 = .ok (.iinc 2 1, 3) := by decide +kernel
theorem dX11_text_285 : decode cX11_text 285 = .ok (.goto (-26), 3) := by decide +kernel
theorem dX11_text_288 : decode cX11_text 288 = .ok (.aload_n 0, 1) := by decide +kernel
theorem dX11_text_289 : decode cX11_text 289 = .ok (.aload_n 0, 1) := by decide +kernel
theorem dX11_text_290 : decode cX11_text 290 = .ok (.getfield 38, 3) := by decide +kernel
theorem dX11_text_293 : decode cX11_text 293 = .ok (.invokevirtual 217, 3) := by decide +kernel
theorem dX11_text_296 : decode cX11_text 296 = .ok (.aload_n 0, 1) := by decide +kernel
theorem dX11_text_297 : decode cX11_text 297 = .ok (.iconst 0, 1) := by decide +kernel
theorem dX11_text_298 : decode cX11_text 298 = .ok (.putfield 221, 3) := by decide +kernel
theorem dX11_text_301 : decode cX11_text 301 = .ok (.aload_n 0, 1) := by decide +kernel
theorem dX11_text_302 : decode cX11_text 302 = .ok (.iconst 0, 1) := by decide +kernel
theorem dX11_text_303 : decode cX11_text 303 = .ok (.putfield 224, 3) := by decide +kernel
theorem dX11_text_306 : decode cX11_text 306 = .ok (.aload_n 0, 1) := by decide +kernel
theorem dX11_text_307 : decode cX11_text 307 = .ok (.getfield 214, 3) := by decide +kernel
theorem dX11_text_310 : decode cX11_text 310 = .ok (.ireturn, 1) := by decide +kernel
theorem dX11_copyRow_0 : decode cX11_copyRow 0 = .ok (.iconst 0, 1) := by decide +kernel
theorem dX11_copyRow_1 : decode cX11_copyRow 1 = .ok (.istore 4, 2) := by decide +kernel
theorem dX11_copyRow_3 : decode cX11_copyRow 3 = .ok (.iload 4, 2) := by decide +kernel
theorem dX11_copyRow_5 : decode cX11_copyRow 5 = .ok (.sipush 1242, 3) := by decide +kernel
theorem dX11_copyRow_8 : decode cX11_copyRow 8 = .ok (.if_icmp .ge 21, 3) := by decide +kernel
theorem dX11_copyRow_11 : decode cX11_copyRow 11 = .ok (.aload_n 2, 1) := by decide +kernel
theorem dX11_copyRow_12 : decode cX11_copyRow 12 = .ok (.iload_n 3, 1) := by decide +kernel
theorem dX11_copyRow_13 : decode cX11_copyRow 13 = .ok (.iload 4, 2) := by decide +kernel
theorem dX11_copyRow_15 : decode cX11_copyRow 15 = .ok (.iadd, 1) := by decide +kernel
theorem dX11_copyRow_16 : decode cX11_copyRow 16 = .ok (.aload_n 0, 1) := by decide +kernel
theorem dX11_copyRow_17 : decode cX11_copyRow 17 = .ok (.iload_n 1, 1) := by decide +kernel
theorem dX11_copyRow_18 : decode cX11_copyRow 18 = .ok (.iload 4, 2) := by decide +kernel
theorem dX11_copyRow_20 : decode cX11_copyRow 20 = .ok (.iadd, 1) := by decide +kernel
theorem dX11_copyRow_21 : decode cX11_copyRow 21 = .ok (.iaload, 1) := by decide +kernel
theorem dX11_copyRow_22 : decode cX11_copyRow 22 = .ok (.iastore, 1) := by decide +kernel
theorem dX11_copyRow_23 : decode cX11_copyRow 23 = .ok (.iinc 4 1, 3) := by decide +kernel
theorem dX11_copyRow_26 : decode cX11_copyRow 26 = .ok (.goto (-23), 3) := by decide +kernel
theorem dX11_copyRow_29 : decode cX11_copyRow 29 = .ok (.return_, 1) := by decide +kernel
theorem dX11_clears_0 : decode cX11_clears 0 = .ok (.iconst 0, 1) := by decide +kernel
theorem dX11_clears_1 : decode cX11_clears 1 = .ok (.istore_n 2, 1) := by decide +kernel
theorem dX11_clears_2 : decode cX11_clears 2 = .ok (.iload_n 2, 1) := by decide +kernel
theorem dX11_clears_3 : decode cX11_clears 3 = .ok (.sipush 256, 3) := by decide +kernel
theorem dX11_clears_6 : decode cX11_clears 6 = .ok (.if_icmp .ge 38, 3) := by decide +kernel
theorem dX11_clears_9 : decode cX11_clears 9 = .ok (.aload_n 1, 1) := by decide +kernel
theorem dX11_clears_10 : decode cX11_clears 10 = .ok (.iconst 0, 1) := by decide +kernel
theorem dX11_clears_11 : decode cX11_clears 11 = .ok (.iload_n 2, 1) := by decide +kernel
theorem dX11_clears_12 : decode cX11_clears 12 = .ok (.iadd, 1) := by decide +kernel
theorem dX11_clears_13 : decode cX11_clears 13 = .ok (.sipush 1000, 3) := by decide +kernel
theorem dX11_clears_16 : decode cX11_clears 16 = .ok (.iastore, 1) := by decide +kernel
theorem dX11_clears_17 : decode cX11_clears 17 = .ok (.aload_n 1, 1) := by decide +kernel
theorem dX11_clears_18 : decode cX11_clears 18 = .ok (.sipush 256, 3) := by decide +kernel
theorem dX11_clears_21 : decode cX11_clears 21 = .ok (.iload_n 2, 1) := by decide +kernel
theorem dX11_clears_22 : decode cX11_clears 22 = .ok (.iadd, 1) := by decide +kernel
theorem dX11_clears_23 : decode cX11_clears 23 = .ok (.aload_n 0, 1) := by decide +kernel
theorem dX11_clears_24 : decode cX11_clears 24 = .ok (.getfield 20, 3) := by decide +kernel
theorem dX11_clears_27 : decode cX11_clears 27 = .ok (.iconst 4, 1) := by decide +kernel
theorem dX11_clears_28 : decode cX11_clears 28 = .ok (.iaload, 1) := by decide +kernel
theorem dX11_clears_29 : decode cX11_clears 29 = .ok (.iastore, 1) := by decide +kernel
theorem dX11_clears_30 : decode cX11_clears 30 = .ok (.aload_n 1, 1) := by decide +kernel
theorem dX11_clears_31 : decode cX11_clears 31 = .ok (.sipush 512, 3) := by decide +kernel
theorem dX11_clears_34 : decode cX11_clears 34 = .ok (.iload_n 2, 1) := by decide +kernel
theorem dX11_clears_35 : decode cX11_clears 35 = .ok (.iadd, 1) := by decide +kernel
theorem dX11_clears_36 : decode cX11_clears 36 = .ok (.iconst (-1), 1) := by decide +kernel
theorem dX11_clears_37 : decode cX11_clears 37 = .ok (.iastore, 1) := by decide +kernel
theorem dX11_clears_38 : decode cX11_clears 38 = .ok (.iinc 2 1, 3) := by decide +kernel
theorem dX11_clears_41 : decode cX11_clears 41 = .ok (.goto (-39), 3) := by decide +kernel
theorem dX11_clears_44 : decode cX11_clears 44 = .ok (.iconst 0, 1) := by decide +kernel
theorem dX11_clears_45 : decode cX11_clears 45 = .ok (.istore_n 2, 1) := by decide +kernel
theorem dX11_clears_46 : decode cX11_clears 46 = .ok (.iload_n 2, 1) := by decide +kernel
theorem dX11_clears_47 : decode cX11_clears 47 = .ok (.bipush 16, 2) := by decide +kernel
theorem dX11_clears_49 : decode cX11_clears 49 = .ok (.if_icmp .ge 20, 3) := by decide +kernel
theorem dX11_clears_52 : decode cX11_clears 52 = .ok (.aload_n 1, 1) := by decide +kernel
theorem dX11_clears_53 : decode cX11_clears 53 = .ok (.sipush 768, 3) := by decide +kernel
theorem dX11_clears_56 : decode cX11_clears 56 = .ok (.bipush 11, 2) := by decide +kernel
theorem dX11_clears_58 : decode cX11_clears 58 = .ok (.iload_n 2, 1) := by decide +kernel
theorem dX11_clears_59 : decode cX11_clears 59 = .ok (.imul, 1) := by decide +kernel
theorem dX11_clears_60 : decode cX11_clears 60 = .ok (.iadd, 1) := by decide +kernel
theorem dX11_clears_61 : decode cX11_clears 61 = .ok (.iconst 0, 1) := by decide +kernel
theorem dX11_clears_62 : decode cX11_clears 62 = .ok (.iastore, 1) := by decide +kernel
theorem dX11_clears_63 : decode cX11_clears 63 = .ok (.iinc 2 1, 3) := by decide +kernel
theorem dX11_clears_66 : decode cX11_clears 66 = .ok (.goto (-20), 3) := by decide +kernel
theorem dX11_clears_69 : decode cX11_clears 69 = .ok (.sipush 1034, 3) := by decide +kernel
theorem dX11_clears_72 : decode cX11_clears 72 = .ok (.istore_n 2, 1) := by decide +kernel
theorem dX11_clears_73 : decode cX11_clears 73 = .ok (.iload_n 2, 1) := by decide +kernel
theorem dX11_clears_74 : decode cX11_clears 74 = .ok (.sipush 1057, 3) := by decide +kernel
theorem dX11_clears_77 : decode cX11_clears 77 = .ok (.if_icmp .ge 13, 3) := by decide +kernel
theorem dX11_clears_80 : decode cX11_clears 80 = .ok (.aload_n 1, 1) := by decide +kernel
theorem dX11_clears_81 : decode cX11_clears 81 = .ok (.iload_n 2, 1) := by decide +kernel
theorem dX11_clears_82 : decode cX11_clears 82 = .ok (.iconst 0, 1) := by decide +kernel
theorem dX11_clears_83 : decode cX11_clears 83 = .ok (.iastore, 1) := by decide +kernel
theorem dX11_clears_84 : decode cX11_clears 84 = .ok (.iinc 2 1, 3) := by decide +kernel
theorem dX11_clears_87 : decode cX11_clears 87 = .ok (.goto (-14), 3) := by decide +kernel
theorem dX11_clears_90 : decode cX11_clears 90 = .ok (.return_, 1) := by decide +kernel
theorem dX11_sampleX_0 : decode cX11_sampleX 0 = .ok (.aload_n 0, 1) := by decide +kernel
theorem dX11_sampleX_1 : decode cX11_sampleX 1 = .ok (.getfield 20, 3) := by decide +kernel
theorem dX11_sampleX_4 : decode cX11_sampleX 4 = .ok (.iconst 3, 1) := by decide +kernel
theorem dX11_sampleX_5 : decode cX11_sampleX 5 = .ok (.iaload, 1) := by decide +kernel
theorem dX11_sampleX_6 : decode cX11_sampleX 6 = .ok (.iconst 1, 1) := by decide +kernel
theorem dX11_sampleX_7 : decode cX11_sampleX 7 = .ok (.if_icmp .ne 5, 3) := by decide +kernel
theorem dX11_sampleX_10 : decode cX11_sampleX 10 = .ok (.iconst 4, 1) := by decide +kernel
theorem dX11_sampleX_11 : decode cX11_sampleX 11 = .ok (.ireturn, 1) := by decide +kernel
theorem dX11_sampleX_12 : decode cX11_sampleX 12 = .ok (.aload_n 0, 1) := by decide +kernel
theorem dX11_sampleX_13 : decode cX11_sampleX 13 = .ok (.getfield 20, 3) := by decide +kernel
theorem dX11_sampleX_16 : decode cX11_sampleX 16 = .ok (.iconst 3, 1) := by decide +kernel
theorem dX11_sampleX_17 : decode cX11_sampleX 17 = .ok (.iaload, 1) := by decide +kernel
theorem dX11_sampleX_18 : decode cX11_sampleX 18 = .ok (.iconst 2, 1) := by decide +kernel
theorem dX11_sampleX_19 : decode cX11_sampleX 19 = .ok (.if_icmp .ne 14, 3) := by decide +kernel
theorem dX11_sampleX_22 : decode cX11_sampleX 22 = .ok (.iload_n 1, 1) := by decide +kernel
theorem dX11_sampleX_23 : decode cX11_sampleX 23 = .ok (.ifCond .ne 7, 3) := by decide +kernel
theorem dX11_sampleX_26 : decode cX11_sampleX 26 = .ok (.iconst 2, 1) := by decide +kernel
theorem dX11_sampleX_27 : decode cX11_sampleX 27 = .ok (.goto 5, 3) := by decide +kernel
theorem dX11_sampleX_30 : decode cX11_sampleX 30 = .ok (.bipush 6, 2) := by decide +kernel
theorem dX11_sampleX_32 : decode cX11_sampleX 32 = .ok (.ireturn, 1) := by decide +kernel
theorem dX11_sampleX_33 : decode cX11_sampleX 33 = .ok (.iload_n 1, 1) := by decide +kernel
theorem dX11_sampleX_34 : decode cX11_sampleX 34 = .ok (.ifCond .ne 7, 3) := by decide +kernel
theorem dX11_sampleX_37 : decode cX11_sampleX 37 = .ok (.iconst 3, 1) := by decide +kernel
theorem dX11_sampleX_38 : decode cX11_sampleX 38 = .ok (.goto 23, 3) := by decide +kernel
theorem dX11_sampleX_41 : decode cX11_sampleX 41 = .ok (.iload_n 1, 1) := by decide +kernel
theorem dX11_sampleX_42 : decode cX11_sampleX 42 = .ok (.iconst 1, 1) := by decide +kernel
theorem dX11_sampleX_43 : decode cX11_sampleX 43 = .ok (.if_icmp .ne 8, 3) := by decide +kernel
theorem dX11_sampleX_46 : decode cX11_sampleX 46 = .ok (.bipush 7, 2) := by decide +kernel
theorem dX11_sampleX_48 : decode cX11_sampleX 48 = .ok (.goto 13, 3) := by decide +kernel
theorem dX11_sampleX_51 : decode cX11_sampleX 51 = .ok (.iload_n 1, 1) := by decide +kernel
theorem dX11_sampleX_52 : decode cX11_sampleX 52 = .ok (.iconst 2, 1) := by decide +kernel
theorem dX11_sampleX_53 : decode cX11_sampleX 53 = .ok (.if_icmp .ne 7, 3) := by decide +kernel
theorem dX11_sampleX_56 : decode cX11_sampleX 56 = .ok (.iconst 1, 1) := by decide +kernel
theorem dX11_sampleX_57 : decode cX11_sampleX 57 = .ok (.goto 4, 3) := by decide +kernel
theorem dX11_sampleX_60 : decode cX11_sampleX 60 = .ok (.iconst 5, 1) := by decide +kernel
theorem dX11_sampleX_61 : decode cX11_sampleX 61 = .ok (.ireturn, 1) := by decide +kernel
theorem dX11_sampleY_0 : decode cX11_sampleY 0 = .ok (.aload_n 0, 1) := by decide +kernel
theorem dX11_sampleY_1 : decode cX11_sampleY 1 = .ok (.getfield 20, 3) := by decide +kernel
theorem dX11_sampleY_4 : decode cX11_sampleY 4 = .ok (.iconst 3, 1) := by decide +kernel
theorem dX11_sampleY_5 : decode cX11_sampleY 5 = .ok (.iaload, 1) := by decide +kernel
theorem dX11_sampleY_6 : decode cX11_sampleY 6 = .ok (.iconst 1, 1) := by decide +kernel
theorem dX11_sampleY_7 : decode cX11_sampleY 7 = .ok (.if_icmp .ne 5, 3) := by decide +kernel
theorem dX11_sampleY_10 : decode cX11_sampleY 10 = .ok (.iconst 4, 1) := by decide +kernel
theorem dX11_sampleY_11 : decode cX11_sampleY 11 = .ok (.ireturn, 1) := by decide +kernel
theorem dX11_sampleY_12 : decode cX11_sampleY 12 = .ok (.aload_n 0, 1) := by decide +kernel
theorem dX11_sampleY_13 : decode cX11_sampleY 13 = .ok (.getfield 20, 3) := by decide +kernel
theorem dX11_sampleY_16 : decode cX11_sampleY 16 = .ok (.iconst 3, 1) := by decide +kernel
theorem dX11_sampleY_17 : decode cX11_sampleY 17 = .ok (.iaload, 1) := by decide +kernel
theorem dX11_sampleY_18 : decode cX11_sampleY 18 = .ok (.iconst 2, 1) := by decide +kernel
theorem dX11_sampleY_19 : decode cX11_sampleY 19 = .ok (.if_icmp .ne 14, 3) := by decide +kernel
theorem dX11_sampleY_22 : decode cX11_sampleY 22 = .ok (.iload_n 1, 1) := by decide +kernel
theorem dX11_sampleY_23 : decode cX11_sampleY 23 = .ok (.ifCond .ne 7, 3) := by decide +kernel
theorem dX11_sampleY_26 : decode cX11_sampleY 26 = .ok (.iconst 2, 1) := by decide +kernel
theorem dX11_sampleY_27 : decode cX11_sampleY 27 = .ok (.goto 5, 3) := by decide +kernel
theorem dX11_sampleY_30 : decode cX11_sampleY 30 = .ok (.bipush 6, 2) := by decide +kernel
theorem dX11_sampleY_32 : decode cX11_sampleY 32 = .ok (.ireturn, 1) := by decide +kernel
theorem dX11_sampleY_33 : decode cX11_sampleY 33 = .ok (.iconst 2, 1) := by decide +kernel
theorem dX11_sampleY_34 : decode cX11_sampleY 34 = .ok (.iload_n 1, 1) := by decide +kernel
theorem dX11_sampleY_35 : decode cX11_sampleY 35 = .ok (.imul, 1) := by decide +kernel
theorem dX11_sampleY_36 : decode cX11_sampleY 36 = .ok (.iconst 1, 1) := by decide +kernel
theorem dX11_sampleY_37 : decode cX11_sampleY 37 = .ok (.iadd, 1) := by decide +kernel
theorem dX11_sampleY_38 : decode cX11_sampleY 38 = .ok (.ireturn, 1) := by decide +kernel
theorem dX11_sum_0 : decode cX11_sum 0 = .ok (.iload_n 1, 1) := by decide +kernel
theorem dX11_sum_1 : decode cX11_sum 1 = .ok (.istore 4, 2) := by decide +kernel
theorem dX11_sum_3 : decode cX11_sum 3 = .ok (.iload_n 1, 1) := by decide +kernel
theorem dX11_sum_4 : decode cX11_sum 4 = .ok (.iconst 1, 1) := by decide +kernel
theorem dX11_sum_5 : decode cX11_sum 5 = .ok (.iadd, 1) := by decide +kernel
theorem dX11_sum_6 : decode cX11_sum 6 = .ok (.iconst 3, 1) := by decide +kernel
theorem dX11_sum_7 : decode cX11_sum 7 = .ok (.irem, 1) := by decide +kernel
theorem dX11_sum_8 : decode cX11_sum 8 = .ok (.istore 5, 2) := by decide +kernel
theorem dX11_sum_10 : decode cX11_sum 10 = .ok (.aload_n 0, 1) := by decide +kernel
theorem dX11_sum_11 : decode cX11_sum 11 = .ok (.getfield 51, 3) := by decide +kernel
theorem dX11_sum_14 : decode cX11_sum 14 = .ok (.iload 5, 2) := by decide +kernel
theorem dX11_sum_16 : decode cX11_sum 16 = .ok (.iaload, 1) := by decide +kernel
theorem dX11_sum_17 : decode cX11_sum 17 = .ok (.aload_n 0, 1) := by decide +kernel
theorem dX11_sum_18 : decode cX11_sum 18 = .ok (.getfield 51, 3) := by decide +kernel
theorem dX11_sum_21 : decode cX11_sum 21 = .ok (.iload 4, 2) := by decide +kernel
theorem dX11_sum_23 : decode cX11_sum 23 = .ok (.iaload, 1) := by decide +kernel
theorem dX11_sum_24 : decode cX11_sum 24 = .ok (.isub, 1) := by decide +kernel
theorem dX11_sum_25 : decode cX11_sum 25 = .ok (.iload_n 3, 1) := by decide +kernel
theorem dX11_sum_26 : decode cX11_sum 26 = .ok (.aload_n 0, 1) := by decide +kernel
theorem dX11_sum_27 : decode cX11_sum 27 = .ok (.getfield 54, 3) := by decide +kernel
theorem dX11_sum_30 : decode cX11_sum 30 = .ok (.iload 4, 2) := by decide +kernel
theorem dX11_sum_32 : decode cX11_sum 32 = .ok (.iaload, 1) := by decide +kernel
theorem dX11_sum_33 : decode cX11_sum 33 = .ok (.isub, 1) := by decide +kernel
theorem dX11_sum_34 : decode cX11_sum 34 = .ok (.imul, 1) := by decide +kernel
theorem dX11_sum_35 : decode cX11_sum 35 = .ok (.aload_n 0, 1) := by decide +kernel
theorem dX11_sum_36 : decode cX11_sum 36 = .ok (.getfield 54, 3) := by decide +kernel
theorem dX11_sum_39 : decode cX11_sum 39 = .ok (.iload 5, 2) := by decide +kernel
theorem dX11_sum_41 : decode cX11_sum 41 = .ok (.iaload, 1) := by decide +kernel
theorem dX11_sum_42 : decode cX11_sum 42 = .ok (.aload_n 0, 1) := by decide +kernel
theorem dX11_sum_43 : decode cX11_sum 43 = .ok (.getfield 54, 3) := by decide +kernel
theorem dX11_sum_46 : decode cX11_sum 46 = .ok (.iload 4, 2) := by decide +kernel
theorem dX11_sum_48 : decode cX11_sum 48 = .ok (.iaload, 1) := by decide +kernel
theorem dX11_sum_49 : decode cX11_sum 49 = .ok (.isub, 1) := by decide +kernel
theorem dX11_sum_50 : decode cX11_sum 50 = .ok (.iload_n 2, 1) := by decide +kernel
theorem dX11_sum_51 : decode cX11_sum 51 = .ok (.aload_n 0, 1) := by decide +kernel
theorem dX11_sum_52 : decode cX11_sum 52 = .ok (.getfield 51, 3) := by decide +kernel
theorem dX11_sum_55 : decode cX11_sum 55 = .ok (.iload 4, 2) := by decide +kernel
theorem dX11_sum_57 : decode cX11_sum 57 = .ok (.iaload, 1) := by decide +kernel
theorem dX11_sum_58 : decode cX11_sum 58 = .ok (.isub, 1) := by decide +kernel
theorem dX11_sum_59 : decode cX11_sum 59 = .ok (.imul, 1) := by decide +kernel
theorem dX11_sum_60 : decode cX11_sum 60 = .ok (.isub, 1) := by decide +kernel
theorem dX11_sum_61 : decode cX11_sum 61 = .ok (.ireturn, 1) := by decide +kernel
theorem dX11_asks_0 : decode cX11_asks 0 = .ok (.iconst 0, 1) := by decide +kernel
theorem dX11_asks_1 : decode cX11_asks 1 = .ok (.istore_n 3, 1) := by decide +kernel
theorem dX11_asks_2 : decode cX11_asks 2 = .ok (.iload_n 3, 1) := by decide +kernel
theorem dX11_asks_3 : decode cX11_asks 3 = .ok (.iconst 3, 1) := by decide +kernel
theorem dX11_asks_4 : decode cX11_asks 4 = .ok (.if_icmp .ge 67, 3) := by decide +kernel
theorem dX11_asks_7 : decode cX11_asks 7 = .ok (.sipush 944, 3) := by decide +kernel
theorem dX11_asks_10 : decode cX11_asks 10 = .ok (.bipush 9, 2) := by decide +kernel
theorem dX11_asks_12 : decode cX11_asks 12 = .ok (.iload_n 2, 1) := by decide +kernel
theorem dX11_asks_13 : decode cX11_asks 13 = .ok (.imul, 1) := by decide +kernel
theorem dX11_asks_14 : decode cX11_asks 14 = .ok (.iadd, 1) := by decide +kernel
theorem dX11_asks_15 : decode cX11_asks 15 = .ok (.iconst 3, 1) := by decide +kernel
theorem dX11_asks_16 : decode cX11_asks 16 = .ok (.iload_n 3, 1) := by decide +kernel
theorem dX11_asks_17 : decode cX11_asks 17 = .ok (.imul, 1) := by decide +kernel
theorem dX11_asks_18 : decode cX11_asks 18 = .ok (.iadd, 1) := by decide +kernel
theorem dX11_asks_19 : decode cX11_asks 19 = .ok (.istore 4, 2) := by decide +kernel
theorem dX11_asks_21 : decode cX11_asks 21 = .ok (.aload_n 0, 1) := by decide +kernel
theorem dX11_asks_22 : decode cX11_asks 22 = .ok (.getfield 51, 3) := by decide +kernel
theorem dX11_asks_25 : decode cX11_asks 25 = .ok (.iload_n 3, 1) := by decide +kernel
theorem dX11_asks_26 : decode cX11_asks 26 = .ok (.aload_n 1, 1) := by decide +kernel
theorem dX11_asks_27 : decode cX11_asks 27 = .ok (.iload 4, 2) := by decide +kernel
theorem dX11_asks_29 : decode cX11_asks 29 = .ok (.iaload, 1) := by decide +kernel
theorem dX11_asks_30 : decode cX11_asks 30 = .ok (.aload_n 0, 1) := by decide +kernel
theorem dX11_asks_31 : decode cX11_asks 31 = .ok (.getfield 228, 3) := by decide +kernel
theorem dX11_asks_34 : decode cX11_asks 34 = .ok (.iadd, 1) := by decide +kernel
theorem dX11_asks_35 : decode cX11_asks 35 = .ok (.iastore, 1) := by decide +kernel
theorem dX11_asks_36 : decode cX11_asks 36 = .ok (.aload_n 0, 1) := by decide +kernel
theorem dX11_asks_37 : decode cX11_asks 37 = .ok (.getfield 54, 3) := by decide +kernel
theorem dX11_asks_40 : decode cX11_asks 40 = .ok (.iload_n 3, 1) := by decide +kernel
theorem dX11_asks_41 : decode cX11_asks 41 = .ok (.aload_n 1, 1) := by decide +kernel
theorem dX11_asks_42 : decode cX11_asks 42 = .ok (.iload 4, 2) := by decide +kernel
theorem dX11_asks_44 : decode cX11_asks 44 = .ok (.iconst 1, 1) := by decide +kernel
theorem dX11_asks_45 : decode cX11_asks 45 = .ok (.iadd, 1) := by decide +kernel
theorem dX11_asks_46 : decode cX11_asks 46 = .ok (.iaload, 1) := by decide +kernel
theorem dX11_asks_47 : decode cX11_asks 47 = .ok (.aload_n 0, 1) := by decide +kernel
theorem dX11_asks_48 : decode cX11_asks 48 = .ok (.getfield 231, 3) := by decide +kernel
theorem dX11_asks_51 : decode cX11_asks 51 = .ok (.iadd, 1) := by decide +kernel
theorem dX11_asks_52 : decode cX11_asks 52 = .ok (.iastore, 1) := by decide +kernel
theorem dX11_asks_53 : decode cX11_asks 53 = .ok (.aload_n 0, 1) := by decide +kernel
theorem dX11_asks_54 : decode cX11_asks 54 = .ok (.getfield 57, 3) := by decide +kernel
theorem dX11_asks_57 : decode cX11_asks 57 = .ok (.iload_n 3, 1) := by decide +kernel
theorem dX11_asks_58 : decode cX11_asks 58 = .ok (.aload_n 1, 1) := by decide +kernel
theorem dX11_asks_59 : decode cX11_asks 59 = .ok (.iload 4, 2) := by decide +kernel
theorem dX11_asks_61 : decode cX11_asks 61 = .ok (.iconst 2, 1) := by decide +kernel
theorem dX11_asks_62 : decode cX11_asks 62 = .ok (.iadd, 1) := by decide +kernel
theorem dX11_asks_63 : decode cX11_asks 63 = .ok (.iaload, 1) := by decide +kernel
theorem dX11_asks_64 : decode cX11_asks 64 = .ok (.iastore, 1) := by decide +kernel
theorem dX11_asks_65 : decode cX11_asks 65 = .ok (.iinc 3 1, 3) := by decide +kernel
theorem dX11_asks_68 : decode cX11_asks 68 = .ok (.goto (-66), 3) := by decide +kernel
theorem dX11_asks_71 : decode cX11_asks 71 = .ok (.aload_n 0, 1) := by decide +kernel
theorem dX11_asks_72 : decode cX11_asks 72 = .ok (.aload_n 0, 1) := by decide +kernel
theorem dX11_asks_73 : decode cX11_asks 73 = .ok (.iconst 0, 1) := by decide +kernel
theorem dX11_asks_74 : decode cX11_asks 74 = .ok (.aload_n 0, 1) := by decide +kernel
theorem dX11_asks_75 : decode cX11_asks 75 = .ok (.getfield 51, 3) := by decide +kernel
theorem dX11_asks_78 : decode cX11_asks 78 = .ok (.iconst 2, 1) := by decide +kernel
theorem dX11_asks_79 : decode cX11_asks 79 = .ok (.iaload, 1) := by decide +kernel
theorem dX11_asks_80 : decode cX11_asks 80 = .ok (.aload_n 0, 1) := by decide +kernel
theorem dX11_asks_81 : decode cX11_asks 81 = .ok (.getfield 54, 3) := by decide +kernel
theorem dX11_asks_84 : decode cX11_asks 84 = .ok (.iconst 2, 1) := by decide +kernel
theorem dX11_asks_85 : decode cX11_asks 85 = .ok (.iaload, 1) := by decide +kernel
theorem dX11_asks_86 : decode cX11_asks 86 = .ok (.invokevirtual 234, 3) := by decide +kernel
theorem dX11_asks_89 : decode cX11_asks 89 = .ok (.putfield 238, 3) := by decide +kernel
theorem dX11_asks_92 : decode cX11_asks 92 = .ok (.aload_n 0, 1) := by decide +kernel
theorem dX11_asks_93 : decode cX11_asks 93 = .ok (.aload_n 0, 1) := by decide +kernel
theorem dX11_asks_94 : decode cX11_asks 94 = .ok (.getfield 238, 3) := by decide +kernel
theorem dX11_asks_97 : decode cX11_asks 97 = .ok (.ifCond .eq 35, 3) := by decide +kernel
theorem dX11_asks_100 : decode cX11_asks 100 = .ok (.aload_n 1, 1) := by decide +kernel
theorem dX11_asks_101 : decode cX11_asks 101 = .ok (.sipush 1057, 3) := by decide +kernel
theorem dX11_asks_104 : decode cX11_asks 104 = .ok (.iaload, 1) := by decide +kernel
theorem dX11_asks_105 : decode cX11_asks 105 = .ok (.iconst 1, 1) := by decide +kernel
theorem dX11_asks_106 : decode cX11_asks 106 = .ok (.if_icmp .ne 10, 3) := by decide +kernel
theorem dX11_asks_109 : decode cX11_asks 109 = .ok (.aload_n 0, 1) := by decide +kernel
theorem dX11_asks_110 : decode cX11_asks 110 = .ok (.getfield 238, 3) := by decide +kernel
theorem dX11_asks_113 : decode cX11_asks 113 = .ok (.ifCond .lt 19, 3) := by decide +kernel
theorem dX11_asks_116 : decode cX11_asks 116 = .ok (.aload_n 1, 1) := by decide +kernel
theorem dX11_asks_117 : decode cX11_asks 117 = .ok (.sipush 1057, 3) := by decide +kernel
theorem dX11_asks_120 : decode cX11_asks 120 = .ok (.iaload, 1) := by decide +kernel
theorem dX11_asks_121 : decode cX11_asks 121 = .ok (.iconst 2, 1) := by decide +kernel
theorem dX11_asks_122 : decode cX11_asks 122 = .ok (.if_icmp .ne 14, 3) := by decide +kernel
theorem dX11_asks_125 : decode cX11_asks 125 = .ok (.aload_n 0, 1) := by decide +kernel
theorem dX11_asks_126 : decode cX11_asks 126 = .ok (.getfield 238, 3) := by decide +kernel
theorem dX11_asks_129 : decode cX11_asks 129 = .ok (.ifCond .le 7, 3) := by decide +kernel
theorem dX11_asks_132 : decode cX11_asks 132 = .ok (.iconst 1, 1) := by decide +kernel
theorem dX11_asks_133 : decode cX11_asks 133 = .ok (.goto 4, 3) := by decide +kernel
theorem dX11_asks_136 : decode cX11_asks 136 = .ok (.iconst 0, 1) := by decide +kernel
theorem dX11_asks_137 : decode cX11_asks 137 = .ok (.putfield 241, 3) := by decide +kernel
theorem dX11_asks_140 : decode cX11_asks 140 = .ok (.aload_n 0, 1) := by decide +kernel
theorem dX11_asks_141 : decode cX11_asks 141 = .ok (.getfield 238, 3) := by decide +kernel
theorem dX11_asks_144 : decode cX11_asks 144 = .ok (.ifCond .lt 4, 3) := by decide +kernel
theorem dX11_asks_147 : decode cX11_asks 147 = .ok (.return_, 1) := by decide +kernel
theorem dX11_asks_148 : decode cX11_asks 148 = .ok (.aload_n 0, 1) := by decide +kernel
theorem dX11_asks_149 : decode cX11_asks 149 = .ok (.getfield 51, 3) := by decide +kernel
theorem dX11_asks_152 : decode cX11_asks 152 = .ok (.invokestatic 244, 3) := by decide +kernel
theorem dX11_asks_155 : decode cX11_asks 155 = .ok (.aload_n 0, 1) := by decide +kernel
theorem dX11_asks_156 : decode cX11_asks 156 = .ok (.getfield 54, 3) := by decide +kernel
theorem dX11_asks_159 : decode cX11_asks 159 = .ok (.invokestatic 244, 3) := by decide +kernel
theorem dX11_asks_162 : decode cX11_asks 162 = .ok (.aload_n 0, 1) := by decide +kernel
theorem dX11_asks_163 : decode cX11_asks 163 = .ok (.getfield 57, 3) := by decide +kernel
theorem dX11_asks_166 : decode cX11_asks 166 = .ok (.invokestatic 244, 3) := by decide +kernel
theorem dX11_asks_169 : decode cX11_asks 169 = .ok (.return_, 1) := by decide +kernel
theorem dX11_swaps_0 : decode cX11_swaps 0 = .ok (.aload_n 0, 1) := by decide +kernel
theorem dX11_swaps_1 : decode cX11_swaps 1 = .ok (.iconst 1, 1) := by decide +kernel
theorem dX11_swaps_2 : decode cX11_swaps 2 = .ok (.iaload, 1) := by decide +kernel
theorem dX11_swaps_3 : decode cX11_swaps 3 = .ok (.istore_n 1, 1) := by decide +kernel
theorem dX11_swaps_4 : decode cX11_swaps 4 = .ok (.aload_n 0, 1) := by decide +kernel
theorem dX11_swaps_5 : decode cX11_swaps 5 = .ok (.iconst 1, 1) := by decide +kernel
theorem dX11_swaps_6 : decode cX11_swaps 6 = .ok (.aload_n 0, 1) := by decide +kernel
theorem dX11_swaps_7 : decode cX11_swaps 7 = .ok (.iconst 2, 1) := by decide +kernel
theorem dX11_swaps_8 : decode cX11_swaps 8 = .ok (.iaload, 1) := by decide +kernel
theorem dX11_swaps_9 : decode cX11_swaps 9 = .ok (.iastore, 1) := by decide +kernel
theorem dX11_swaps_10 : decode cX11_swaps 10 = .ok (.aload_n 0, 1) := by decide +kernel
theorem dX11_swaps_11 : decode cX11_swaps 11 = .ok (.iconst 2, 1) := by decide +kernel
theorem dX11_swaps_12 : decode cX11_swaps 12 = .ok (.iload_n 1, 1) := by decide +kernel
theorem dX11_swaps_13 : decode cX11_swaps 13 = .ok (.iastore, 1) := by decide +kernel
theorem dX11_swaps_14 : decode cX11_swaps 14 = .ok (.return_, 1) := by decide +kernel
theorem dX11_isHigh_0 : decode cX11_isHigh 0 = .ok (.iload_n 1, 1) := by decide +kernel
theorem dX11_isHigh_1 : decode cX11_isHigh 1 = .ok (.iconst 1, 1) := by decide +kernel
theorem dX11_isHigh_2 : decode cX11_isHigh 2 = .ok (.iadd, 1) := by decide +kernel
theorem dX11_isHigh_3 : decode cX11_isHigh 3 = .ok (.iconst 3, 1) := by decide +kernel
theorem dX11_isHigh_4 : decode cX11_isHigh 4 = .ok (.irem, 1) := by decide +kernel
theorem dX11_isHigh_5 : decode cX11_isHigh 5 = .ok (.istore_n 2, 1) := by decide +kernel
theorem dX11_isHigh_6 : decode cX11_isHigh 6 = .ok (.aload_n 0, 1) := by decide +kernel
theorem dX11_isHigh_7 : decode cX11_isHigh 7 = .ok (.getfield 54, 3) := by decide +kernel
theorem dX11_isHigh_10 : decode cX11_isHigh 10 = .ok (.iload_n 1, 1) := by decide +kernel
theorem dX11_isHigh_11 : decode cX11_isHigh 11 = .ok (.iaload, 1) := by decide +kernel
theorem dX11_isHigh_12 : decode cX11_isHigh 12 = .ok (.aload_n 0, 1) := by decide +kernel
theorem dX11_isHigh_13 : decode cX11_isHigh 13 = .ok (.getfield 54, 3) := by decide +kernel
theorem dX11_isHigh_16 : decode cX11_isHigh 16 = .ok (.iload_n 2, 1) := by decide +kernel
theorem dX11_isHigh_17 : decode cX11_isHigh 17 = .ok (.iaload, 1) := by decide +kernel
theorem dX11_isHigh_18 : decode cX11_isHigh 18 = .ok (.if_icmp .ne 26, 3) := by decide +kernel
theorem dX11_isHigh_21 : decode cX11_isHigh 21 = .ok (.aload_n 0, 1) := by decide +kernel
theorem dX11_isHigh_22 : decode cX11_isHigh 22 = .ok (.getfield 51, 3) := by decide +kernel
theorem dX11_isHigh_25 : decode cX11_isHigh 25 = .ok (.iload_n 2, 1) := by decide +kernel
theorem dX11_isHigh_26 : decode cX11_isHigh 26 = .ok (.iaload, 1) := by decide +kernel
theorem dX11_isHigh_27 : decode cX11_isHigh 27 = .ok (.aload_n 0, 1) := by decide +kernel
theorem dX11_isHigh_28 : decode cX11_isHigh 28 = .ok (.getfield 51, 3) := by decide +kernel
theorem dX11_isHigh_31 : decode cX11_isHigh 31 = .ok (.iload_n 1, 1) := by decide +kernel
theorem dX11_isHigh_32 : decode cX11_isHigh 32 = .ok (.iaload, 1) := by decide +kernel
theorem dX11_isHigh_33 : decode cX11_isHigh 33 = .ok (.if_icmp .le 7, 3) := by decide +kernel
theorem dX11_isHigh_36 : decode cX11_isHigh 36 = .ok (.iconst 1, 1) := by decide +kernel
theorem dX11_isHigh_37 : decode cX11_isHigh 37 = .ok (.goto 27, 3) := by decide +kernel
theorem dX11_isHigh_40 : decode cX11_isHigh 40 = .ok (.iconst 0, 1) := by decide +kernel
theorem dX11_isHigh_41 : decode cX11_isHigh 41 = .ok (.goto 23, 3) := by decide +kernel
theorem dX11_isHigh_44 : decode cX11_isHigh 44 = .ok (.aload_n 0, 1) := by decide +kernel
theorem dX11_isHigh_45 : decode cX11_isHigh 45 = .ok (.getfield 54, 3) := by decide +kernel
theorem dX11_isHigh_48 : decode cX11_isHigh 48 = .ok (.iload_n 2, 1) := by decide +kernel
theorem dX11_isHigh_49 : decode cX11_isHigh 49 = .ok (.iaload, 1) := by decide +kernel
theorem dX11_isHigh_50 : decode cX11_isHigh 50 = .ok (.aload_n 0, 1) := by decide +kernel
theorem dX11_isHigh_51 : decode cX11_isHigh 51 = .ok (.getfield 54, 3) := by decide +kernel
theorem dX11_isHigh_54 : decode cX11_isHigh 54 = .ok (.iload_n 1, 1) := by decide +kernel
theorem dX11_isHigh_55 : decode cX11_isHigh 55 = .ok (.iaload, 1) := by decide +kernel
theorem dX11_isHigh_56 : decode cX11_isHigh 56 = .ok (.if_icmp .ge 7, 3) := by decide +kernel
theorem dX11_isHigh_59 : decode cX11_isHigh 59 = .ok (.iconst 1, 1) := by decide +kernel
theorem dX11_isHigh_60 : decode cX11_isHigh 60 = .ok (.goto 4, 3) := by decide +kernel
theorem dX11_isHigh_63 : decode cX11_isHigh 63 = .ok (.iconst 0, 1) := by decide +kernel
theorem dX11_isHigh_64 : decode cX11_isHigh 64 = .ok (.ireturn, 1) := by decide +kernel
theorem dX11_covers_0 : decode cX11_covers 0 = .ok (.aload_n 0, 1) := by decide +kernel
theorem dX11_covers_1 : decode cX11_covers 1 = .ok (.getfield 241, 3) := by decide +kernel
theorem dX11_covers_4 : decode cX11_covers 4 = .ok (.ifCond .ne 7, 3) := by decide +kernel
theorem dX11_covers_7 : decode cX11_covers 7 = .ok (.iconst 1, 1) := by decide +kernel
theorem dX11_covers_8 : decode cX11_covers 8 = .ok (.goto 4, 3) := by decide +kernel
theorem dX11_covers_11 : decode cX11_covers 11 = .ok (.iconst 0, 1) := by decide +kernel
theorem dX11_covers_12 : decode cX11_covers 12 = .ok (.istore_n 3, 1) := by decide +kernel
theorem dX11_covers_13 : decode cX11_covers 13 = .ok (.iconst 0, 1) := by decide +kernel
theorem dX11_covers_14 : decode cX11_covers 14 = .ok (.istore 4, 2) := by decide +kernel
theorem dX11_covers_16 : decode cX11_covers 16 = .ok (.iload 4, 2) := by decide +kernel
theorem dX11_covers_18 : decode cX11_covers 18 = .ok (.iconst 3, 1) := by decide +kernel
theorem dX11_covers_19 : decode cX11_covers 19 = .ok (.if_icmp .ge 48, 3) := by decide +kernel
theorem dX11_covers_22 : decode cX11_covers 22 = .ok (.iload_n 3, 1) := by decide +kernel
theorem dX11_covers_23 : decode cX11_covers 23 = .ok (.ifCond .eq 44, 3) := by decide +kernel
theorem dX11_covers_26 : decode cX11_covers 26 = .ok (.aload_n 0, 1) := by decide +kernel
theorem dX11_covers_27 : decode cX11_covers 27 = .ok (.iload 4, 2) := by decide +kernel
theorem dX11_covers_29 : decode cX11_covers 29 = .ok (.iload_n 1, 1) := by decide +kernel
theorem dX11_covers_30 : decode cX11_covers 30 = .ok (.iload_n 2, 1) := by decide +kernel
theorem dX11_covers_31 : decode cX11_covers 31 = .ok (.invokevirtual 234, 3) := by decide +kernel
theorem dX11_covers_34 : decode cX11_covers 34 = .ok (.istore 5, 2) := by decide +kernel
theorem dX11_covers_36 : decode cX11_covers 36 = .ok (.iload 5, 2) := by decide +kernel
theorem dX11_covers_38 : decode cX11_covers 38 = .ok (.ifCond .gt 17, 3) := by decide +kernel
theorem dX11_covers_41 : decode cX11_covers 41 = .ok (.iload 5, 2) := by decide +kernel
theorem dX11_covers_43 : decode cX11_covers 43 = .ok (.ifCond .ne 16, 3) := by decide +kernel
theorem dX11_covers_46 : decode cX11_covers 46 = .ok (.aload_n 0, 1) := by decide +kernel
theorem dX11_covers_47 : decode cX11_covers 47 = .ok (.iload 4, 2) := by decide +kernel
theorem dX11_covers_49 : decode cX11_covers 49 = .ok (.invokevirtual 247, 3) := by decide +kernel
theorem dX11_covers_52 : decode cX11_covers 52 = .ok (.ifCond .eq 7, 3) := by decide +kernel
theorem dX11_covers_55 : decode cX11_covers 55 = .ok (.iconst 1, 1) := by decide +kernel
theorem dX11_covers_56 : decode cX11_covers 56 = .ok (.goto 4, 3) := by decide +kernel
theorem dX11_covers_59 : decode cX11_covers 59 = .ok (.iconst 0, 1) := by decide +kernel
theorem dX11_covers_60 : decode cX11_covers 60 = .ok (.istore_n 3, 1) := by decide +kernel
theorem dX11_covers_61 : decode cX11_covers 61 = .ok (.iinc 4 1, 3) := by decide +kernel
theorem dX11_covers_64 : decode cX11_covers 64 = .ok (.goto (-48), 3) := by decide +kernel
theorem dX11_covers_67 : decode cX11_covers 67 = .ok (.iload_n 3, 1) := by decide +kernel
theorem dX11_covers_68 : decode cX11_covers 68 = .ok (.ireturn, 1) := by decide +kernel
theorem dX11_depthAt_0 : decode cX11_depthAt 0 = .ok (.aload_n 0, 1) := by decide +kernel
theorem dX11_depthAt_1 : decode cX11_depthAt 1 = .ok (.getfield 57, 3) := by decide +kernel
theorem dX11_depthAt_4 : decode cX11_depthAt 4 = .ok (.iconst 0, 1) := by decide +kernel
theorem dX11_depthAt_5 : decode cX11_depthAt 5 = .ok (.iaload, 1) := by decide +kernel
theorem dX11_depthAt_6 : decode cX11_depthAt 6 = .ok (.i2l, 1) := by decide +kernel
theorem dX11_depthAt_7 : decode cX11_depthAt 7 = .ok (.aload_n 0, 1) := by decide +kernel
theorem dX11_depthAt_8 : decode cX11_depthAt 8 = .ok (.iconst 1, 1) := by decide +kernel
theorem dX11_depthAt_9 : decode cX11_depthAt 9 = .ok (.iload_n 1, 1) := by decide +kernel
theorem dX11_depthAt_10 : decode cX11_depthAt 10 = .ok (.iload_n 2, 1) := by decide +kernel
theorem dX11_depthAt_11 : decode cX11_depthAt 11 = .ok (.invokevirtual 234, 3) := by decide +kernel
theorem dX11_depthAt_14 : decode cX11_depthAt 14 = .ok (.i2l, 1) := by decide +kernel
theorem dX11_depthAt_15 : decode cX11_depthAt 15 = .ok (.lmul, 1) := by decide +kernel
theorem dX11_depthAt_16 : decode cX11_depthAt 16 = .ok (.aload_n 0, 1) := by decide +kernel
theorem dX11_depthAt_17 : decode cX11_depthAt 17 = .ok (.getfield 57, 3) := by decide +kernel
theorem dX11_depthAt_20 : decode cX11_depthAt 20 = .ok (.iconst 1, 1) := by decide +kernel
theorem dX11_depthAt_21 : decode cX11_depthAt 21 = .ok (.iaload, 1) := by decide +kernel
theorem dX11_depthAt_22 : decode cX11_depthAt 22 = .ok (.i2l, 1) := by decide +kernel
theorem dX11_depthAt_23 : decode cX11_depthAt 23 = .ok (.aload_n 0, 1) := by decide +kernel
theorem dX11_depthAt_24 : decode cX11_depthAt 24 = .ok (.iconst 2, 1) := by decide +kernel
theorem dX11_depthAt_25 : decode cX11_depthAt 25 = .ok (.iload_n 1, 1) := by decide +kernel
theorem dX11_depthAt_26 : decode cX11_depthAt 26 = .ok (.iload_n 2, 1) := by decide +kernel
theorem dX11_depthAt_27 : decode cX11_depthAt 27 = .ok (.invokevirtual 234, 3) := by decide +kernel
theorem dX11_depthAt_30 : decode cX11_depthAt 30 = .ok (.i2l, 1) := by decide +kernel
theorem dX11_depthAt_31 : decode cX11_depthAt 31 = .ok (.lmul, 1) := by decide +kernel
theorem dX11_depthAt_32 : decode cX11_depthAt 32 = .ok (.ladd, 1) := by decide +kernel
theorem dX11_depthAt_33 : decode cX11_depthAt 33 = .ok (.aload_n 0, 1) := by decide +kernel
theorem dX11_depthAt_34 : decode cX11_depthAt 34 = .ok (.getfield 57, 3) := by decide +kernel
theorem dX11_depthAt_37 : decode cX11_depthAt 37 = .ok (.iconst 2, 1) := by decide +kernel
theorem dX11_depthAt_38 : decode cX11_depthAt 38 = .ok (.iaload, 1) := by decide +kernel
theorem dX11_depthAt_39 : decode cX11_depthAt 39 = .ok (.i2l, 1) := by decide +kernel
theorem dX11_depthAt_40 : decode cX11_depthAt 40 = .ok (.aload_n 0, 1) := by decide +kernel
theorem dX11_depthAt_41 : decode cX11_depthAt 41 = .ok (.iconst 0, 1) := by decide +kernel
theorem dX11_depthAt_42 : decode cX11_depthAt 42 = .ok (.iload_n 1, 1) := by decide +kernel
theorem dX11_depthAt_43 : decode cX11_depthAt 43 = .ok (.iload_n 2, 1) := by decide +kernel
theorem dX11_depthAt_44 : decode cX11_depthAt 44 = .ok (.invokevirtual 234, 3) := by decide +kernel
theorem dX11_depthAt_47 : decode cX11_depthAt 47 = .ok (.i2l, 1) := by decide +kernel
theorem dX11_depthAt_48 : decode cX11_depthAt 48 = .ok (.lmul, 1) := by decide +kernel
theorem dX11_depthAt_49 : decode cX11_depthAt 49 = .ok (.ladd, 1) := by decide +kernel
theorem dX11_depthAt_50 : decode cX11_depthAt 50 = .ok (.lstore_n 3, 1) := by decide +kernel
theorem dX11_depthAt_51 : decode cX11_depthAt 51 = .ok (.lload_n 3, 1) := by decide +kernel
theorem dX11_depthAt_52 : decode cX11_depthAt 52 = .ok (.aload_n 0, 1) := by decide +kernel
theorem dX11_depthAt_53 : decode cX11_depthAt 53 = .ok (.getfield 238, 3) := by decide +kernel
theorem dX11_depthAt_56 : decode cX11_depthAt 56 = .ok (.ifCond .ge 12, 3) := by decide +kernel
theorem dX11_depthAt_59 : decode cX11_depthAt 59 = .ok (.aload_n 0, 1) := by decide +kernel
theorem dX11_depthAt_60 : decode cX11_depthAt 60 = .ok (.getfield 238, 3) := by decide +kernel
theorem dX11_depthAt_63 : decode cX11_depthAt 63 = .ok (.ineg, 1) := by decide +kernel
theorem dX11_depthAt_64 : decode cX11_depthAt 64 = .ok (.i2l, 1) := by decide +kernel
theorem dX11_depthAt_65 : decode cX11_depthAt 65 = .ok (.goto 8, 3) := by decide +kernel
theorem dX11_depthAt_68 : decode cX11_depthAt 68 = .ok (.aload_n 0, 1) := by decide +kernel
theorem dX11_depthAt_69 : decode cX11_depthAt 69 = .ok (.getfield 238, 3) := by decide +kernel
theorem dX11_depthAt_72 : decode cX11_depthAt 72 = .ok (.i2l, 1) := by decide +kernel
theorem dX11_depthAt_73 : decode cX11_depthAt 73 = .ok (.invokestatic 251, 3) := by decide +kernel
theorem dX11_depthAt_76 : decode cX11_depthAt 76 = .ok (.ireturn, 1) := by decide +kernel
theorem dX11_shadeOf_0 : decode cX11_shadeOf 0 = .ok (.aload_n 0, 1) := by decide +kernel
theorem dX11_shadeOf_1 : decode cX11_shadeOf 1 = .ok (.getfield 26, 3) := by decide +kernel
theorem dX11_shadeOf_4 : decode cX11_shadeOf 4 = .ok (.bipush 12, 2) := by decide +kernel
theorem dX11_shadeOf_6 : decode cX11_shadeOf 6 = .ok (.iload_n 1, 1) := by decide +kernel
theorem dX11_shadeOf_7 : decode cX11_shadeOf 7 = .ok (.imul, 1) := by decide +kernel
theorem dX11_shadeOf_8 : decode cX11_shadeOf 8 = .ok (.bipush 9, 2) := by decide +kernel
theorem dX11_shadeOf_10 : decode cX11_shadeOf 10 = .ok (.iadd, 1) := by decide +kernel
theorem dX11_shadeOf_11 : decode cX11_shadeOf 11 = .ok (.iaload, 1) := by decide +kernel
theorem dX11_shadeOf_12 : decode cX11_shadeOf 12 = .ok (.istore 4, 2) := by decide +kernel
theorem dX11_shadeOf_14 : decode cX11_shadeOf 14 = .ok (.iload 4, 2) := by decide +kernel
theorem dX11_shadeOf_16 : decode cX11_shadeOf 16 = .ok (.istore 5, 2) := by decide +kernel
theorem dX11_shadeOf_18 : decode cX11_shadeOf 18 = .ok (.aload_n 0, 1) := by decide +kernel
theorem dX11_shadeOf_19 : decode cX11_shadeOf 19 = .ok (.getfield 26, 3) := by decide +kernel
theorem dX11_shadeOf_22 : decode cX11_shadeOf 22 = .ok (.bipush 12, 2) := by decide +kernel
theorem dX11_shadeOf_24 : decode cX11_shadeOf 24 = .ok (.iload_n 1, 1) := by decide +kernel
theorem dX11_shadeOf_25 : decode cX11_shadeOf 25 = .ok (.imul, 1) := by decide +kernel
theorem dX11_shadeOf_26 : decode cX11_shadeOf 26 = .ok (.bipush 11, 2) := by decide +kernel
theorem dX11_shadeOf_28 : decode cX11_shadeOf 28 = .ok (.iadd, 1) := by decide +kernel
theorem dX11_shadeOf_29 : decode cX11_shadeOf 29 = .ok (.iaload, 1) := by decide +kernel
theorem dX11_shadeOf_30 : decode cX11_shadeOf 30 = .ok (.tableswitch 73 0 2 #[26, 29, 53], 26) := by decide +kernel
theorem dX11_shadeOf_56 : decode cX11_shadeOf 56 = .ok (.goto 75, 3) := by decide +kernel
theorem dX11_shadeOf_59 : decode cX11_shadeOf 59 = .ok (.iload_n 2, 1) := by decide +kernel
theorem dX11_shadeOf_60 : decode cX11_shadeOf 60 = .ok (.iload_n 3, 1) := by decide +kernel
theorem dX11_shadeOf_61 : decode cX11_shadeOf 61 = .ok (.iadd, 1) := by decide +kernel
theorem dX11_shadeOf_62 : decode cX11_shadeOf 62 = .ok (.iconst 2, 1) := by decide +kernel
theorem dX11_shadeOf_63 : decode cX11_shadeOf 63 = .ok (.irem, 1) := by decide +kernel
theorem dX11_shadeOf_64 : decode cX11_shadeOf 64 = .ok (.ifCond .ne 8, 3) := by decide +kernel
theorem dX11_shadeOf_67 : decode cX11_shadeOf 67 = .ok (.iload 4, 2) := by decide +kernel
theorem dX11_shadeOf_69 : decode cX11_shadeOf 69 = .ok (.goto 9, 3) := by decide +kernel
theorem dX11_shadeOf_72 : decode cX11_shadeOf 72 = .ok (.sipush 255, 3) := by decide +kernel
theorem dX11_shadeOf_75 : decode cX11_shadeOf 75 = .ok (.iload 4, 2) := by decide +kernel
theorem dX11_shadeOf_77 : decode cX11_shadeOf 77 = .ok (.isub, 1) := by decide +kernel
theorem dX11_shadeOf_78 : decode cX11_shadeOf 78 = .ok (.istore 5, 2) := by decide +kernel
theorem dX11_shadeOf_80 : decode cX11_shadeOf 80 = .ok (.goto 51, 3) := by decide +kernel
theorem dX11_shadeOf_83 : decode cX11_shadeOf 83 = .ok (.iload_n 3, 1) := by decide +kernel
theorem dX11_shadeOf_84 : decode cX11_shadeOf 84 = .ok (.iconst 2, 1) := by decide +kernel
theorem dX11_shadeOf_85 : decode cX11_shadeOf 85 = .ok (.irem, 1) := by decide +kernel
theorem dX11_shadeOf_86 : decode cX11_shadeOf 86 = .ok (.ifCond .ne 8, 3) := by decide +kernel
theorem dX11_shadeOf_89 : decode cX11_shadeOf 89 = .ok (.iload 4, 2) := by decide +kernel
theorem dX11_shadeOf_91 : decode cX11_shadeOf 91 = .ok (.goto 7, 3) := by decide +kernel
theorem dX11_shadeOf_94 : decode cX11_shadeOf 94 = .ok (.iload 4, 2) := by decide +kernel
theorem dX11_shadeOf_96 : decode cX11_shadeOf 96 = .ok (.iconst 2, 1) := by decide +kernel
theorem dX11_shadeOf_97 : decode cX11_shadeOf 97 = .ok (.idiv, 1) := by decide +kernel
theorem dX11_shadeOf_98 : decode cX11_shadeOf 98 = .ok (.istore 5, 2) := by decide +kernel
theorem dX11_shadeOf_100 : decode cX11_shadeOf 100 = .ok (.goto 31, 3) := by decide +kernel
theorem dX11_shadeOf_103 : decode cX11_shadeOf 103 = .ok (.iload 4, 2) := by decide +kernel
theorem dX11_shadeOf_105 : decode cX11_shadeOf 105 = .ok (.aload_n 0, 1) := by decide +kernel
theorem dX11_shadeOf_106 : decode cX11_shadeOf 106 = .ok (.bipush 8, 2) := by decide +kernel
theorem dX11_shadeOf_108 : decode cX11_shadeOf 108 = .ok (.iload_n 2, 1) := by decide +kernel
theorem dX11_shadeOf_109 : decode cX11_shadeOf 109 = .ok (.imul, 1) := by decide +kernel
theorem dX11_shadeOf_110 : decode cX11_shadeOf 110 = .ok (.iconst 4, 1) := by decide +kernel
theorem dX11_shadeOf_111 : decode cX11_shadeOf 111 = .ok (.iadd, 1) := by decide +kernel
theorem dX11_shadeOf_112 : decode cX11_shadeOf 112 = .ok (.bipush 8, 2) := by decide +kernel
theorem dX11_shadeOf_114 : decode cX11_shadeOf 114 = .ok (.iload_n 3, 1) := by decide +kernel
theorem dX11_shadeOf_115 : decode cX11_shadeOf 115 = .ok (.imul, 1) := by decide +kernel
theorem dX11_shadeOf_116 : decode cX11_shadeOf 116 = .ok (.iconst 4, 1) := by decide +kernel
theorem dX11_shadeOf_117 : decode cX11_shadeOf 117 = .ok (.iadd, 1) := by decide +kernel
theorem dX11_shadeOf_118 : decode cX11_shadeOf 118 = .ok (.invokevirtual 255, 3) := by decide +kernel
theorem dX11_shadeOf_121 : decode cX11_shadeOf 121 = .ok (.i2l, 1) := by decide +kernel
theorem dX11_shadeOf_122 : decode cX11_shadeOf 122 = .ok (.ldc2_w 162, 3) := by decide +kernel
theorem dX11_shadeOf_125 : decode cX11_shadeOf 125 = .ok (.invokestatic 251, 3) := by decide +kernel
theorem dX11_shadeOf_128 : decode cX11_shadeOf 128 = .ok (.isub, 1) := by decide +kernel
theorem dX11_shadeOf_129 : decode cX11_shadeOf 129 = .ok (.istore 5, 2) := by decide +kernel
theorem dX11_shadeOf_131 : decode cX11_shadeOf 131 = .ok (.iload 5, 2) := by decide +kernel
theorem dX11_shadeOf_133 : decode cX11_shadeOf 133 = .ok (.ifCond .ge 7, 3) := by decide +kernel
theorem dX11_shadeOf_136 : decode cX11_shadeOf 136 = .ok (.iconst 0, 1) := by decide +kernel
theorem dX11_shadeOf_137 : decode cX11_shadeOf 137 = .ok (.goto 19, 3) := by decide +kernel
theorem dX11_shadeOf_140 : decode cX11_shadeOf 140 = .ok (.iload 5, 2) := by decide +kernel
theorem dX11_shadeOf_142 : decode cX11_shadeOf 142 = .ok (.sipush 255, 3) := by decide +kernel
theorem dX11_shadeOf_145 : decode cX11_shadeOf 145 = .ok (.if_icmp .le 9, 3) := by decide +kernel
theorem dX11_shadeOf_148 : decode cX11_shadeOf 148 = .ok (.sipush 255, 3) := by decide +kernel
theorem dX11_shadeOf_151 : decode cX11_shadeOf 151 = .ok (.goto 5, 3) := by decide +kernel
theorem dX11_shadeOf_154 : decode cX11_shadeOf 154 = .ok (.iload 5, 2) := by decide +kernel
theorem dX11_shadeOf_156 : decode cX11_shadeOf 156 = .ok (.ireturn, 1) := by decide +kernel
theorem dX11_leastZ_0 : decode cX11_leastZ 0 = .ok (.aload_n 0, 1) := by decide +kernel
theorem dX11_leastZ_1 : decode cX11_leastZ 1 = .ok (.getfield 57, 3) := by decide +kernel
theorem dX11_leastZ_4 : decode cX11_leastZ 4 = .ok (.iconst 0, 1) := by decide +kernel
theorem dX11_leastZ_5 : decode cX11_leastZ 5 = .ok (.iaload, 1) := by decide +kernel
theorem dX11_leastZ_6 : decode cX11_leastZ 6 = .ok (.aload_n 0, 1) := by decide +kernel
theorem dX11_leastZ_7 : decode cX11_leastZ 7 = .ok (.getfield 57, 3) := by decide +kernel
theorem dX11_leastZ_10 : decode cX11_leastZ 10 = .ok (.iconst 1, 1) := by decide +kernel
theorem dX11_leastZ_11 : decode cX11_leastZ 11 = .ok (.iaload, 1) := by decide +kernel
theorem dX11_leastZ_12 : decode cX11_leastZ 12 = .ok (.if_icmp .ge 12, 3) := by decide +kernel
theorem dX11_leastZ_15 : decode cX11_leastZ 15 = .ok (.aload_n 0, 1) := by decide +kernel
theorem dX11_leastZ_16 : decode cX11_leastZ 16 = .ok (.getfield 57, 3) := by decide +kernel
theorem dX11_leastZ_19 : decode cX11_leastZ 19 = .ok (.iconst 0, 1) := by decide +kernel
theorem dX11_leastZ_20 : decode cX11_leastZ 20 = .ok (.iaload, 1) := by decide +kernel
theorem dX11_leastZ_21 : decode cX11_leastZ 21 = .ok (.goto 9, 3) := by decide +kernel
theorem dX11_leastZ_24 : decode cX11_leastZ 24 = .ok (.aload_n 0, 1) := by decide +kernel
theorem dX11_leastZ_25 : decode cX11_leastZ 25 = .ok (.getfield 57, 3) := by decide +kernel
theorem dX11_leastZ_28 : decode cX11_leastZ 28 = .ok (.iconst 1, 1) := by decide +kernel
theorem dX11_leastZ_29 : decode cX11_leastZ 29 = .ok (.iaload, 1) := by decide +kernel
theorem dX11_leastZ_30 : decode cX11_leastZ 30 = .ok (.istore_n 1, 1) := by decide +kernel
theorem dX11_leastZ_31 : decode cX11_leastZ 31 = .ok (.aload_n 0, 1) := by decide +kernel
theorem dX11_leastZ_32 : decode cX11_leastZ 32 = .ok (.getfield 57, 3) := by decide +kernel
theorem dX11_leastZ_35 : decode cX11_leastZ 35 = .ok (.iconst 2, 1) := by decide +kernel
theorem dX11_leastZ_36 : decode cX11_leastZ 36 = .ok (.iaload, 1) := by decide +kernel
theorem dX11_leastZ_37 : decode cX11_leastZ 37 = .ok (.iload_n 1, 1) := by decide +kernel
theorem dX11_leastZ_38 : decode cX11_leastZ 38 = .ok (.if_icmp .ge 12, 3) := by decide +kernel
theorem dX11_leastZ_41 : decode cX11_leastZ 41 = .ok (.aload_n 0, 1) := by decide +kernel
theorem dX11_leastZ_42 : decode cX11_leastZ 42 = .ok (.getfield 57, 3) := by decide +kernel
theorem dX11_leastZ_45 : decode cX11_leastZ 45 = .ok (.iconst 2, 1) := by decide +kernel
theorem dX11_leastZ_46 : decode cX11_leastZ 46 = .ok (.iaload, 1) := by decide +kernel
theorem dX11_leastZ_47 : decode cX11_leastZ 47 = .ok (.goto 4, 3) := by decide +kernel
theorem dX11_leastZ_50 : decode cX11_leastZ 50 = .ok (.iload_n 1, 1) := by decide +kernel
theorem dX11_leastZ_51 : decode cX11_leastZ 51 = .ok (.ireturn, 1) := by decide +kernel
theorem dX11_mostZ_0 : decode cX11_mostZ 0 = .ok (.aload_n 0, 1) := by decide +kernel
theorem dX11_mostZ_1 : decode cX11_mostZ 1 = .ok (.getfield 57, 3) := by decide +kernel
theorem dX11_mostZ_4 : decode cX11_mostZ 4 = .ok (.iconst 0, 1) := by decide +kernel
theorem dX11_mostZ_5 : decode cX11_mostZ 5 = .ok (.iaload, 1) := by decide +kernel
theorem dX11_mostZ_6 : decode cX11_mostZ 6 = .ok (.aload_n 0, 1) := by decide +kernel
theorem dX11_mostZ_7 : decode cX11_mostZ 7 = .ok (.getfield 57, 3) := by decide +kernel
theorem dX11_mostZ_10 : decode cX11_mostZ 10 = .ok (.iconst 1, 1) := by decide +kernel
theorem dX11_mostZ_11 : decode cX11_mostZ 11 = .ok (.iaload, 1) := by decide +kernel
theorem dX11_mostZ_12 : decode cX11_mostZ 12 = .ok (.if_icmp .le 12, 3) := by decide +kernel
theorem dX11_mostZ_15 : decode cX11_mostZ 15 = .ok (.aload_n 0, 1) := by decide +kernel
theorem dX11_mostZ_16 : decode cX11_mostZ 16 = .ok (.getfield 57, 3) := by decide +kernel
theorem dX11_mostZ_19 : decode cX11_mostZ 19 = .ok (.iconst 0, 1) := by decide +kernel
theorem dX11_mostZ_20 : decode cX11_mostZ 20 = .ok (.iaload, 1) := by decide +kernel
theorem dX11_mostZ_21 : decode cX11_mostZ 21 = .ok (.goto 9, 3) := by decide +kernel
theorem dX11_mostZ_24 : decode cX11_mostZ 24 = .ok (.aload_n 0, 1) := by decide +kernel
theorem dX11_mostZ_25 : decode cX11_mostZ 25 = .ok (.getfield 57, 3) := by decide +kernel
theorem dX11_mostZ_28 : decode cX11_mostZ 28 = .ok (.iconst 1, 1) := by decide +kernel
theorem dX11_mostZ_29 : decode cX11_mostZ 29 = .ok (.iaload, 1) := by decide +kernel
theorem dX11_mostZ_30 : decode cX11_mostZ 30 = .ok (.istore_n 1, 1) := by decide +kernel
theorem dX11_mostZ_31 : decode cX11_mostZ 31 = .ok (.aload_n 0, 1) := by decide +kernel
theorem dX11_mostZ_32 : decode cX11_mostZ 32 = .ok (.getfield 57, 3) := by decide +kernel
theorem dX11_mostZ_35 : decode cX11_mostZ 35 = .ok (.iconst 2, 1) := by decide +kernel
theorem dX11_mostZ_36 : decode cX11_mostZ 36 = .ok (.iaload, 1) := by decide +kernel
theorem dX11_mostZ_37 : decode cX11_mostZ 37 = .ok (.iload_n 1, 1) := by decide +kernel
theorem dX11_mostZ_38 : decode cX11_mostZ 38 = .ok (.if_icmp .le 12, 3) := by decide +kernel
theorem dX11_mostZ_41 : decode cX11_mostZ 41 = .ok (.aload_n 0, 1) := by decide +kernel
theorem dX11_mostZ_42 : decode cX11_mostZ 42 = .ok (.getfield 57, 3) := by decide +kernel
theorem dX11_mostZ_45 : decode cX11_mostZ 45 = .ok (.iconst 2, 1) := by decide +kernel
theorem dX11_mostZ_46 : decode cX11_mostZ 46 = .ok (.iaload, 1) := by decide +kernel
theorem dX11_mostZ_47 : decode cX11_mostZ 47 = .ok (.goto 4, 3) := by decide +kernel
theorem dX11_mostZ_50 : decode cX11_mostZ 50 = .ok (.iload_n 1, 1) := by decide +kernel
theorem dX11_mostZ_51 : decode cX11_mostZ 51 = .ok (.ireturn, 1) := by decide +kernel
theorem dX11_tilesAcross_0 : decode cX11_tilesAcross 0 = .ok (.aload_n 0, 1) := by decide +kernel
theorem dX11_tilesAcross_1 : decode cX11_tilesAcross 1 = .ok (.getfield 20, 3) := by decide +kernel
theorem dX11_tilesAcross_4 : decode cX11_tilesAcross 4 = .ok (.iconst 0, 1) := by decide +kernel
theorem dX11_tilesAcross_5 : decode cX11_tilesAcross 5 = .ok (.iaload, 1) := by decide +kernel
theorem dX11_tilesAcross_6 : decode cX11_tilesAcross 6 = .ok (.aload_n 0, 1) := by decide +kernel
theorem dX11_tilesAcross_7 : decode cX11_tilesAcross 7 = .ok (.getfield 20, 3) := by decide +kernel
theorem dX11_tilesAcross_10 : decode cX11_tilesAcross 10 = .ok (.iconst 2, 1) := by decide +kernel
theorem dX11_tilesAcross_11 : decode cX11_tilesAcross 11 = .ok (.iaload, 1) := by decide +kernel
theorem dX11_tilesAcross_12 : decode cX11_tilesAcross 12 = .ok (.iadd, 1) := by decide +kernel
theorem dX11_tilesAcross_13 : decode cX11_tilesAcross 13 = .ok (.iconst 1, 1) := by decide +kernel
theorem dX11_tilesAcross_14 : decode cX11_tilesAcross 14 = .ok (.isub, 1) := by decide +kernel
theorem dX11_tilesAcross_15 : decode cX11_tilesAcross 15 = .ok (.aload_n 0, 1) := by decide +kernel
theorem dX11_tilesAcross_16 : decode cX11_tilesAcross 16 = .ok (.getfield 20, 3) := by decide +kernel
theorem dX11_tilesAcross_19 : decode cX11_tilesAcross 19 = .ok (.iconst 2, 1) := by decide +kernel
theorem dX11_tilesAcross_20 : decode cX11_tilesAcross 20 = .ok (.iaload, 1) := by decide +kernel
theorem dX11_tilesAcross_21 : decode cX11_tilesAcross 21 = .ok (.idiv, 1) := by decide +kernel
theorem dX11_tilesAcross_22 : decode cX11_tilesAcross 22 = .ok (.ireturn, 1) := by decide +kernel
theorem dX11_tilesAll_0 : decode cX11_tilesAll 0 = .ok (.aload_n 0, 1) := by decide +kernel
theorem dX11_tilesAll_1 : decode cX11_tilesAll 1 = .ok (.invokevirtual 259, 3) := by decide +kernel
theorem dX11_tilesAll_4 : decode cX11_tilesAll 4 = .ok (.aload_n 0, 1) := by decide +kernel
theorem dX11_tilesAll_5 : decode cX11_tilesAll 5 = .ok (.getfield 20, 3) := by decide +kernel
theorem dX11_tilesAll_8 : decode cX11_tilesAll 8 = .ok (.iconst 1, 1) := by decide +kernel
theorem dX11_tilesAll_9 : decode cX11_tilesAll 9 = .ok (.iaload, 1) := by decide +kernel
theorem dX11_tilesAll_10 : decode cX11_tilesAll 10 = .ok (.aload_n 0, 1) := by decide +kernel
theorem dX11_tilesAll_11 : decode cX11_tilesAll 11 = .ok (.getfield 20, 3) := by decide +kernel
theorem dX11_tilesAll_14 : decode cX11_tilesAll 14 = .ok (.iconst 2, 1) := by decide +kernel
theorem dX11_tilesAll_15 : decode cX11_tilesAll 15 = .ok (.iaload, 1) := by decide +kernel
theorem dX11_tilesAll_16 : decode cX11_tilesAll 16 = .ok (.iadd, 1) := by decide +kernel
theorem dX11_tilesAll_17 : decode cX11_tilesAll 17 = .ok (.iconst 1, 1) := by decide +kernel
theorem dX11_tilesAll_18 : decode cX11_tilesAll 18 = .ok (.isub, 1) := by decide +kernel
theorem dX11_tilesAll_19 : decode cX11_tilesAll 19 = .ok (.aload_n 0, 1) := by decide +kernel
theorem dX11_tilesAll_20 : decode cX11_tilesAll 20 = .ok (.getfield 20, 3) := by decide +kernel
theorem dX11_tilesAll_23 : decode cX11_tilesAll 23 = .ok (.iconst 2, 1) := by decide +kernel
theorem dX11_tilesAll_24 : decode cX11_tilesAll 24 = .ok (.iaload, 1) := by decide +kernel
theorem dX11_tilesAll_25 : decode cX11_tilesAll 25 = .ok (.idiv, 1) := by decide +kernel
theorem dX11_tilesAll_26 : decode cX11_tilesAll 26 = .ok (.imul, 1) := by decide +kernel
theorem dX11_tilesAll_27 : decode cX11_tilesAll 27 = .ok (.ireturn, 1) := by decide +kernel
theorem dX11_leftOf_0 : decode cX11_leftOf 0 = .ok (.iload_n 1, 1) := by decide +kernel
theorem dX11_leftOf_1 : decode cX11_leftOf 1 = .ok (.aload_n 0, 1) := by decide +kernel
theorem dX11_leftOf_2 : decode cX11_leftOf 2 = .ok (.invokevirtual 259, 3) := by decide +kernel
theorem dX11_leftOf_5 : decode cX11_leftOf 5 = .ok (.irem, 1) := by decide +kernel
theorem dX11_leftOf_6 : decode cX11_leftOf 6 = .ok (.aload_n 0, 1) := by decide +kernel
theorem dX11_leftOf_7 : decode cX11_leftOf 7 = .ok (.getfield 20, 3) := by decide +kernel
theorem dX11_leftOf_10 : decode cX11_leftOf 10 = .ok (.iconst 2, 1) := by decide +kernel
theorem dX11_leftOf_11 : decode cX11_leftOf 11 = .ok (.iaload, 1) := by decide +kernel
theorem dX11_leftOf_12 : decode cX11_leftOf 12 = .ok (.imul, 1) := by decide +kernel
theorem dX11_leftOf_13 : decode cX11_leftOf 13 = .ok (.ireturn, 1) := by decide +kernel
theorem dX11_topOf_0 : decode cX11_topOf 0 = .ok (.iload_n 1, 1) := by decide +kernel
theorem dX11_topOf_1 : decode cX11_topOf 1 = .ok (.aload_n 0, 1) := by decide +kernel
theorem dX11_topOf_2 : decode cX11_topOf 2 = .ok (.invokevirtual 259, 3) := by decide +kernel
theorem dX11_topOf_5 : decode cX11_topOf 5 = .ok (.idiv, 1) := by decide +kernel
theorem dX11_topOf_6 : decode cX11_topOf 6 = .ok (.aload_n 0, 1) := by decide +kernel
theorem dX11_topOf_7 : decode cX11_topOf 7 = .ok (.getfield 20, 3) := by decide +kernel
theorem dX11_topOf_10 : decode cX11_topOf 10 = .ok (.iconst 2, 1) := by decide +kernel
theorem dX11_topOf_11 : decode cX11_topOf 11 = .ok (.iaload, 1) := by decide +kernel
theorem dX11_topOf_12 : decode cX11_topOf 12 = .ok (.imul, 1) := by decide +kernel
theorem dX11_topOf_13 : decode cX11_topOf 13 = .ok (.ireturn, 1) := by decide +kernel
theorem dX11_rightOf_0 : decode cX11_rightOf 0 = .ok (.aload_n 0, 1) := by decide +kernel
theorem dX11_rightOf_1 : decode cX11_rightOf 1 = .ok (.iload_n 1, 1) := by decide +kernel
theorem dX11_rightOf_2 : decode cX11_rightOf 2 = .ok (.invokevirtual 262, 3) := by decide +kernel
theorem dX11_rightOf_5 : decode cX11_rightOf 5 = .ok (.aload_n 0, 1) := by decide +kernel
theorem dX11_rightOf_6 : decode cX11_rightOf 6 = .ok (.getfield 20, 3) := by decide +kernel
theorem dX11_rightOf_9 : decode cX11_rightOf 9 = .ok (.iconst 2, 1) := by decide +kernel
theorem dX11_rightOf_10 : decode cX11_rightOf 10 = .ok (.iaload, 1) := by decide +kernel
theorem dX11_rightOf_11 : decode cX11_rightOf 11 = .ok (.iadd, 1) := by decide +kernel
theorem dX11_rightOf_12 : decode cX11_rightOf 12 = .ok (.istore_n 2, 1) := by decide +kernel
theorem dX11_rightOf_13 : decode cX11_rightOf 13 = .ok (.iload_n 2, 1) := by decide +kernel
theorem dX11_rightOf_14 : decode cX11_rightOf 14 = .ok (.aload_n 0, 1) := by decide +kernel
theorem dX11_rightOf_15 : decode cX11_rightOf 15 = .ok (.getfield 20, 3) := by decide +kernel
theorem dX11_rightOf_18 : decode cX11_rightOf 18 = .ok (.iconst 0, 1) := by decide +kernel
theorem dX11_rightOf_19 : decode cX11_rightOf 19 = .ok (.iaload, 1) := by decide +kernel
theorem dX11_rightOf_20 : decode cX11_rightOf 20 = .ok (.if_icmp .ge 7, 3) := by decide +kernel
theorem dX11_rightOf_23 : decode cX11_rightOf 23 = .ok (.iload_n 2, 1) := by decide +kernel
theorem dX11_rightOf_24 : decode cX11_rightOf 24 = .ok (.goto 9, 3) := by decide +kernel
theorem dX11_rightOf_27 : decode cX11_rightOf 27 = .ok (.aload_n 0, 1) := by decide +kernel
theorem dX11_rightOf_28 : decode cX11_rightOf 28 = .ok (.getfield 20, 3) := by decide +kernel
theorem dX11_rightOf_31 : decode cX11_rightOf 31 = .ok (.iconst 0, 1) := by decide +kernel
theorem dX11_rightOf_32 : decode cX11_rightOf 32 = .ok (.iaload, 1) := by decide +kernel
theorem dX11_rightOf_33 : decode cX11_rightOf 33 = .ok (.ireturn, 1) := by decide +kernel
theorem dX11_lowOf_0 : decode cX11_lowOf 0 = .ok (.aload_n 0, 1) := by decide +kernel
theorem dX11_lowOf_1 : decode cX11_lowOf 1 = .ok (.iload_n 1, 1) := by decide +kernel
theorem dX11_lowOf_2 : decode cX11_lowOf 2 = .ok (.invokevirtual 265, 3) := by decide +kernel
theorem dX11_lowOf_5 : decode cX11_lowOf 5 = .ok (.aload_n 0, 1) := by decide +kernel
theorem dX11_lowOf_6 : decode cX11_lowOf 6 = .ok (.getfield 20, 3) := by decide +kernel
theorem dX11_lowOf_9 : decode cX11_lowOf 9 = .ok (.iconst 2, 1) := by decide +kernel
theorem dX11_lowOf_10 : decode cX11_lowOf 10 = .ok (.iaload, 1) := by decide +kernel
theorem dX11_lowOf_11 : decode cX11_lowOf 11 = .ok (.iadd, 1) := by decide +kernel
theorem dX11_lowOf_12 : decode cX11_lowOf 12 = .ok (.istore_n 2, 1) := by decide +kernel
theorem dX11_lowOf_13 : decode cX11_lowOf 13 = .ok (.iload_n 2, 1) := by decide +kernel
theorem dX11_lowOf_14 : decode cX11_lowOf 14 = .ok (.aload_n 0, 1) := by decide +kernel
theorem dX11_lowOf_15 : decode cX11_lowOf 15 = .ok (.getfield 20, 3) := by decide +kernel
theorem dX11_lowOf_18 : decode cX11_lowOf 18 = .ok (.iconst 1, 1) := by decide +kernel
theorem dX11_lowOf_19 : decode cX11_lowOf 19 = .ok (.iaload, 1) := by decide +kernel
theorem dX11_lowOf_20 : decode cX11_lowOf 20 = .ok (.if_icmp .ge 7, 3) := by decide +kernel
theorem dX11_lowOf_23 : decode cX11_lowOf 23 = .ok (.iload_n 2, 1) := by decide +kernel
theorem dX11_lowOf_24 : decode cX11_lowOf 24 = .ok (.goto 9, 3) := by decide +kernel
theorem dX11_lowOf_27 : decode cX11_lowOf 27 = .ok (.aload_n 0, 1) := by decide +kernel
theorem dX11_lowOf_28 : decode cX11_lowOf 28 = .ok (.getfield 20, 3) := by decide +kernel
theorem dX11_lowOf_31 : decode cX11_lowOf 31 = .ok (.iconst 1, 1) := by decide +kernel
theorem dX11_lowOf_32 : decode cX11_lowOf 32 = .ok (.iaload, 1) := by decide +kernel
theorem dX11_lowOf_33 : decode cX11_lowOf 33 = .ok (.ireturn, 1) := by decide +kernel
theorem dX11_isAside_0 : decode cX11_isAside 0 = .ok (.aload_n 0, 1) := by decide +kernel
theorem dX11_isAside_1 : decode cX11_isAside 1 = .ok (.iconst 0, 1) := by decide +kernel
theorem dX11_isAside_2 : decode cX11_isAside 2 = .ok (.iaload, 1) := by decide +kernel
theorem dX11_isAside_3 : decode cX11_isAside 3 = .ok (.iload_n 1, 1) := by decide +kernel
theorem dX11_isAside_4 : decode cX11_isAside 4 = .ok (.if_icmp .ge 21, 3) := by decide +kernel
theorem dX11_isAside_7 : decode cX11_isAside 7 = .ok (.aload_n 0, 1) := by decide +kernel
theorem dX11_isAside_8 : decode cX11_isAside 8 = .ok (.iconst 1, 1) := by decide +kernel
theorem dX11_isAside_9 : decode cX11_isAside 9 = .ok (.iaload, 1) := by decide +kernel
theorem dX11_isAside_10 : decode cX11_isAside 10 = .ok (.iload_n 1, 1) := by decide +kernel
theorem dX11_isAside_11 : decode cX11_isAside 11 = .ok (.if_icmp .ge 14, 3) := by decide +kernel
theorem dX11_isAside_14 : decode cX11_isAside 14 = .ok (.aload_n 0, 1) := by decide +kernel
theorem dX11_isAside_15 : decode cX11_isAside 15 = .ok (.iconst 2, 1) := by decide +kernel
theorem dX11_isAside_16 : decode cX11_isAside 16 = .ok (.iaload, 1) := by decide +kernel
theorem dX11_isAside_17 : decode cX11_isAside 17 = .ok (.iload_n 1, 1) := by decide +kernel
theorem dX11_isAside_18 : decode cX11_isAside 18 = .ok (.if_icmp .ge 7, 3) := by decide +kernel
theorem dX11_isAside_21 : decode cX11_isAside 21 = .ok (.iconst 1, 1) := by decide +kernel
theorem dX11_isAside_22 : decode cX11_isAside 22 = .ok (.goto 4, 3) := by decide +kernel
theorem dX11_isAside_25 : decode cX11_isAside 25 = .ok (.iconst 0, 1) := by decide +kernel
theorem dX11_isAside_26 : decode cX11_isAside 26 = .ok (.istore_n 3, 1) := by decide +kernel
theorem dX11_isAside_27 : decode cX11_isAside 27 = .ok (.iload_n 3, 1) := by decide +kernel
theorem dX11_isAside_28 : decode cX11_isAside 28 = .ok (.ifCond .ne 24, 3) := by decide +kernel
theorem dX11_isAside_31 : decode cX11_isAside 31 = .ok (.aload_n 0, 1) := by decide +kernel
theorem dX11_isAside_32 : decode cX11_isAside 32 = .ok (.iconst 0, 1) := by decide +kernel
theorem dX11_isAside_33 : decode cX11_isAside 33 = .ok (.iaload, 1) := by decide +kernel
theorem dX11_isAside_34 : decode cX11_isAside 34 = .ok (.iload_n 2, 1) := by decide +kernel
theorem dX11_isAside_35 : decode cX11_isAside 35 = .ok (.if_icmp .le 21, 3) := by decide +kernel
theorem dX11_isAside_38 : decode cX11_isAside 38 = .ok (.aload_n 0, 1) := by decide +kernel
theorem dX11_isAside_39 : decode cX11_isAside 39 = .ok (.iconst 1, 1) := by decide +kernel
theorem dX11_isAside_40 : decode cX11_isAside 40 = .ok (.iaload, 1) := by decide +kernel
theorem dX11_isAside_41 : decode cX11_isAside 41 = .ok (.iload_n 2, 1) := by decide +kernel
theorem dX11_isAside_42 : decode cX11_isAside 42 = .ok (.if_icmp .le 14, 3) := by decide +kernel
theorem dX11_isAside_45 : decode cX11_isAside 45 = .ok (.aload_n 0, 1) := by decide +kernel
theorem dX11_isAside_46 : decode cX11_isAside 46 = .ok (.iconst 2, 1) := by decide +kernel
theorem dX11_isAside_47 : decode cX11_isAside 47 = .ok (.iaload, 1) := by decide +kernel
theorem dX11_isAside_48 : decode cX11_isAside 48 = .ok (.iload_n 2, 1) := by decide +kernel
theorem dX11_isAside_49 : decode cX11_isAside 49 = .ok (.if_icmp .le 7, 3) := by decide +kernel
theorem dX11_isAside_52 : decode cX11_isAside 52 = .ok (.iconst 1, 1) := by decide +kernel
theorem dX11_isAside_53 : decode cX11_isAside 53 = .ok (.goto 4, 3) := by decide +kernel
theorem dX11_isAside_56 : decode cX11_isAside 56 = .ok (.iconst 0, 1) := by decide +kernel
theorem dX11_isAside_57 : decode cX11_isAside 57 = .ok (.ireturn, 1) := by decide +kernel
theorem dX11_touches_0 : decode cX11_touches 0 = .ok (.bipush 8, 2) := by decide +kernel
theorem dX11_touches_2 : decode cX11_touches 2 = .ok (.aload_n 0, 1) := by decide +kernel
theorem dX11_touches_3 : decode cX11_touches 3 = .ok (.iload_n 1, 1) := by decide +kernel
theorem dX11_touches_4 : decode cX11_touches 4 = .ok (.invokevirtual 262, 3) := by decide +kernel
theorem dX11_touches_7 : decode cX11_touches 7 = .ok (.imul, 1) := by decide +kernel
theorem dX11_touches_8 : decode cX11_touches 8 = .ok (.istore_n 2, 1) := by decide +kernel
theorem dX11_touches_9 : decode cX11_touches 9 = .ok (.bipush 8, 2) := by decide +kernel
theorem dX11_touches_11 : decode cX11_touches 11 = .ok (.aload_n 0, 1) := by decide +kernel
theorem dX11_touches_12 : decode cX11_touches 12 = .ok (.iload_n 1, 1) := by decide +kernel
theorem dX11_touches_13 : decode cX11_touches 13 = .ok (.invokevirtual 268, 3) := by decide +kernel
theorem dX11_touches_16 : decode cX11_touches 16 = .ok (.imul, 1) := by decide +kernel
theorem dX11_touches_17 : decode cX11_touches 17 = .ok (.istore_n 3, 1) := by decide +kernel
theorem dX11_touches_18 : decode cX11_touches 18 = .ok (.bipush 8, 2) := by decide +kernel
theorem dX11_touches_20 : decode cX11_touches 20 = .ok (.aload_n 0, 1) := by decide +kernel
theorem dX11_touches_21 : decode cX11_touches 21 = .ok (.iload_n 1, 1) := by decide +kernel
theorem dX11_touches_22 : decode cX11_touches 22 = .ok (.invokevirtual 265, 3) := by decide +kernel
theorem dX11_touches_25 : decode cX11_touches 25 = .ok (.imul, 1) := by decide +kernel
theorem dX11_touches_26 : decode cX11_touches 26 = .ok (.istore 4, 2) := by decide +kernel
theorem dX11_touches_28 : decode cX11_touches 28 = .ok (.bipush 8, 2) := by decide +kernel
theorem dX11_touches_30 : decode cX11_touches 30 = .ok (.aload_n 0, 1) := by decide +kernel
theorem dX11_touches_31 : decode cX11_touches 31 = .ok (.iload_n 1, 1) := by decide +kernel
theorem dX11_touches_32 : decode cX11_touches 32 = .ok (.invokevirtual 271, 3) := by decide +kernel
theorem dX11_touches_35 : decode cX11_touches 35 = .ok (.imul, 1) := by decide +kernel
theorem dX11_touches_36 : decode cX11_touches 36 = .ok (.istore 5, 2) := by decide +kernel
theorem dX11_touches_38 : decode cX11_touches 38 = .ok (.aload_n 0, 1) := by decide +kernel
theorem dX11_touches_39 : decode cX11_touches 39 = .ok (.getfield 241, 3) := by decide +kernel
theorem dX11_touches_42 : decode cX11_touches 42 = .ok (.ifCond .ne 29, 3) := by decide +kernel
theorem dX11_touches_45 : decode cX11_touches 45 = .ok (.aload_n 0, 1) := by decide +kernel
theorem dX11_touches_46 : decode cX11_touches 46 = .ok (.getfield 51, 3) := by decide +kernel
theorem dX11_touches_49 : decode cX11_touches 49 = .ok (.iload_n 2, 1) := by decide +kernel
theorem dX11_touches_50 : decode cX11_touches 50 = .ok (.iload_n 3, 1) := by decide +kernel
theorem dX11_touches_51 : decode cX11_touches 51 = .ok (.invokestatic 274, 3) := by decide +kernel
theorem dX11_touches_54 : decode cX11_touches 54 = .ok (.ifCond .ne 17, 3) := by decide +kernel
theorem dX11_touches_57 : decode cX11_touches 57 = .ok (.aload_n 0, 1) := by decide +kernel
theorem dX11_touches_58 : decode cX11_touches 58 = .ok (.getfield 54, 3) := by decide +kernel
theorem dX11_touches_61 : decode cX11_touches 61 = .ok (.iload 4, 2) := by decide +kernel
theorem dX11_touches_63 : decode cX11_touches 63 = .ok (.iload 5, 2) := by decide +kernel
theorem dX11_touches_65 : decode cX11_touches 65 = .ok (.invokestatic 274, 3) := by decide +kernel
theorem dX11_touches_68 : decode cX11_touches 68 = .ok (.ifCond .eq 5, 3) := by decide +kernel
theorem dX11_touches_71 : decode cX11_touches 71 = .ok (.iconst 0, 1) := by decide +kernel
theorem dX11_touches_72 : decode cX11_touches 72 = .ok (.ireturn, 1) := by decide +kernel
theorem dX11_touches_73 : decode cX11_touches 73 = .ok (.iconst 0, 1) := by decide +kernel
theorem dX11_touches_74 : decode cX11_touches 74 = .ok (.istore 6, 2) := by decide +kernel
theorem dX11_touches_76 : decode cX11_touches 76 = .ok (.iload 6, 2) := by decide +kernel
theorem dX11_touches_78 : decode cX11_touches 78 = .ok (.iconst 3, 1) := by decide +kernel
theorem dX11_touches_79 : decode cX11_touches 79 = .ok (.if_icmp .ge 59, 3) := by decide +kernel
theorem dX11_touches_82 : decode cX11_touches 82 = .ok (.aload_n 0, 1) := by decide +kernel
theorem dX11_touches_83 : decode cX11_touches 83 = .ok (.iload 6, 2) := by decide +kernel
theorem dX11_touches_85 : decode cX11_touches 85 = .ok (.iload_n 2, 1) := by decide +kernel
theorem dX11_touches_86 : decode cX11_touches 86 = .ok (.iload 4, 2) := by decide +kernel
theorem dX11_touches_88 : decode cX11_touches 88 = .ok (.invokevirtual 234, 3) := by decide +kernel
theorem dX11_touches_91 : decode cX11_touches 91 = .ok (.ifCond .ge 41, 3) := by decide +kernel
theorem dX11_touches_94 : decode cX11_touches 94 = .ok (.aload_n 0, 1) := by decide +kernel
theorem dX11_touches_95 : decode cX11_touches 95 = .ok (.iload 6, 2) := by decide +kernel
theorem dX11_touches_97 : decode cX11_touches 97 = .ok (.iload_n 3, 1) := by decide +kernel
theorem dX11_touches_98 : decode cX11_touches 98 = .ok (.iload 4, 2) := by decide +kernel
theorem dX11_touches_100 : decode cX11_touches 100 = .ok (.invokevirtual 234, 3) := by decide +kernel
theorem dX11_touches_103 : decode cX11_touches 103 = .ok (.ifCond .ge 29, 3) := by decide +kernel
theorem dX11_touches_106 : decode cX11_touches 106 = .ok (.aload_n 0, 1) := by decide +kernel
theorem dX11_touches_107 : decode cX11_touches 107 = .ok (.iload 6, 2) := by decide +kernel
theorem dX11_touches_109 : decode cX11_touches 109 = .ok (.iload_n 2, 1) := by decide +kernel
theorem dX11_touches_110 : decode cX11_touches 110 = .ok (.iload 5, 2) := by decide +kernel
theorem dX11_touches_112 : decode cX11_touches 112 = .ok (.invokevirtual 234, 3) := by decide +kernel
theorem dX11_touches_115 : decode cX11_touches 115 = .ok (.ifCond .ge 17, 3) := by decide +kernel
theorem dX11_touches_118 : decode cX11_touches 118 = .ok (.aload_n 0, 1) := by decide +kernel
theorem dX11_touches_119 : decode cX11_touches 119 = .ok (.iload 6, 2) := by decide +kernel
theorem dX11_touches_121 : decode cX11_touches 121 = .ok (.iload_n 3, 1) := by decide +kernel
theorem dX11_touches_122 : decode cX11_touches 122 = .ok (.iload 5, 2) := by decide +kernel
theorem dX11_touches_124 : decode cX11_touches 124 = .ok (.invokevirtual 234, 3) := by decide +kernel
theorem dX11_touches_127 : decode cX11_touches 127 = .ok (.ifCond .ge 5, 3) := by decide +kernel
theorem dX11_touches_130 : decode cX11_touches 130 = .ok (.iconst 0, 1) := by decide +kernel
theorem dX11_touches_131 : decode cX11_touches 131 = .ok (.ireturn, 1) := by decide +kernel
theorem dX11_touches_132 : decode cX11_touches 132 = .ok (.iinc 6 1, 3) := by decide +kernel
theorem dX11_touches_135 : decode cX11_touches 135 = .ok (.goto (-59), 3) := by decide +kernel
theorem dX11_touches_138 : decode cX11_touches 138 = .ok (.iconst 1, 1) := by decide +kernel
theorem dX11_touches_139 : decode cX11_touches 139 = .ok (.ireturn, 1) := by decide +kernel
theorem dX11_touched_0 : decode cX11_touched 0 = .ok (.aload_n 0, 1) := by decide +kernel
theorem dX11_touched_1 : decode cX11_touched 1 = .ok (.aload_n 1, 1) := by decide +kernel
theorem dX11_touched_2 : decode cX11_touched 2 = .ok (.iload_n 2, 1) := by decide +kernel
theorem dX11_touched_3 : decode cX11_touched 3 = .ok (.invokevirtual 278, 3) := by decide +kernel
theorem dX11_touched_6 : decode cX11_touched 6 = .ok (.iconst 0, 1) := by decide +kernel
theorem dX11_touched_7 : decode cX11_touched 7 = .ok (.istore_n 3, 1) := by decide +kernel
theorem dX11_touched_8 : decode cX11_touched 8 = .ok (.iconst 0, 1) := by decide +kernel
theorem dX11_touched_9 : decode cX11_touched 9 = .ok (.istore 4, 2) := by decide +kernel
theorem dX11_touched_11 : decode cX11_touched 11 = .ok (.iload 4, 2) := by decide +kernel
theorem dX11_touched_13 : decode cX11_touched 13 = .ok (.aload_n 0, 1) := by decide +kernel
theorem dX11_touched_14 : decode cX11_touched 14 = .ok (.invokevirtual 282, 3) := by decide +kernel
theorem dX11_touched_17 : decode cX11_touched 17 = .ok (.if_icmp .ge 29, 3) := by decide +kernel
theorem dX11_touched_20 : decode cX11_touched 20 = .ok (.iload_n 3, 1) := by decide +kernel
theorem dX11_touched_21 : decode cX11_touched 21 = .ok (.aload_n 0, 1) := by decide +kernel
theorem dX11_touched_22 : decode cX11_touched 22 = .ok (.iload 4, 2) := by decide +kernel
theorem dX11_touched_24 : decode cX11_touched 24 = .ok (.invokevirtual 285, 3) := by decide +kernel
theorem dX11_touched_27 : decode cX11_touched 27 = .ok (.ifCond .eq 10, 3) := by decide +kernel
theorem dX11_touched_30 : decode cX11_touched 30 = .ok (.iconst 1, 1) := by decide +kernel
theorem dX11_touched_31 : decode cX11_touched 31 = .ok (.iload 4, 2) := by decide +kernel
theorem dX11_touched_33 : decode cX11_touched 33 = .ok (.ishl, 1) := by decide +kernel
theorem dX11_touched_34 : decode cX11_touched 34 = .ok (.goto 4, 3) := by decide +kernel
theorem dX11_touched_37 : decode cX11_touched 37 = .ok (.iconst 0, 1) := by decide +kernel
theorem dX11_touched_38 : decode cX11_touched 38 = .ok (.ior, 1) := by decide +kernel
theorem dX11_touched_39 : decode cX11_touched 39 = .ok (.istore_n 3, 1) := by decide +kernel
theorem dX11_touched_40 : decode cX11_touched 40 = .ok (.iinc 4 1, 3) := by decide +kernel
theorem dX11_touched_43 : decode cX11_touched 43 = .ok (.goto (-32), 3) := by decide +kernel
theorem dX11_touched_46 : decode cX11_touched 46 = .ok (.iload_n 3, 1) := by decide +kernel
theorem dX11_touched_47 : decode cX11_touched 47 = .ok (.ireturn, 1) := by decide +kernel
theorem dX11_place_0 : decode cX11_place 0 = .ok (.iconst 4, 1) := by decide +kernel
theorem dX11_place_1 : decode cX11_place 1 = .ok (.bipush 8, 2) := by decide +kernel
theorem dX11_place_3 : decode cX11_place 3 = .ok (.iload_n 1, 1) := by decide +kernel
theorem dX11_place_4 : decode cX11_place 4 = .ok (.imul, 1) := by decide +kernel
theorem dX11_place_5 : decode cX11_place 5 = .ok (.iload_n 0, 1) := by decide +kernel
theorem dX11_place_6 : decode cX11_place 6 = .ok (.iadd, 1) := by decide +kernel
theorem dX11_place_7 : decode cX11_place 7 = .ok (.imul, 1) := by decide +kernel
theorem dX11_place_8 : decode cX11_place 8 = .ok (.iload_n 2, 1) := by decide +kernel
theorem dX11_place_9 : decode cX11_place 9 = .ok (.iadd, 1) := by decide +kernel
theorem dX11_place_10 : decode cX11_place 10 = .ok (.ireturn, 1) := by decide +kernel
theorem dX11_depthOf_0 : decode cX11_depthOf 0 = .ok (.aload_n 1, 1) := by decide +kernel
theorem dX11_depthOf_1 : decode cX11_depthOf 1 = .ok (.iconst 0, 1) := by decide +kernel
theorem dX11_depthOf_2 : decode cX11_depthOf 2 = .ok (.aload_n 0, 1) := by decide +kernel
theorem dX11_depthOf_3 : decode cX11_depthOf 3 = .ok (.iload_n 2, 1) := by decide +kernel
theorem dX11_depthOf_4 : decode cX11_depthOf 4 = .ok (.invokevirtual 262, 3) := by decide +kernel
theorem dX11_depthOf_7 : decode cX11_depthOf 7 = .ok (.aload_n 0, 1) := by decide +kernel
theorem dX11_depthOf_8 : decode cX11_depthOf 8 = .ok (.iload_n 2, 1) := by decide +kernel
theorem dX11_depthOf_9 : decode cX11_depthOf 9 = .ok (.invokevirtual 265, 3) := by decide +kernel
theorem dX11_depthOf_12 : decode cX11_depthOf 12 = .ok (.iconst 0, 1) := by decide +kernel
theorem dX11_depthOf_13 : decode cX11_depthOf 13 = .ok (.invokestatic 288, 3) := by decide +kernel
theorem dX11_depthOf_16 : decode cX11_depthOf 16 = .ok (.iadd, 1) := by decide +kernel
theorem dX11_depthOf_17 : decode cX11_depthOf 17 = .ok (.iaload, 1) := by decide +kernel
theorem dX11_depthOf_18 : decode cX11_depthOf 18 = .ok (.istore 4, 2) := by decide +kernel
theorem dX11_depthOf_20 : decode cX11_depthOf 20 = .ok (.aload_n 0, 1) := by decide +kernel
theorem dX11_depthOf_21 : decode cX11_depthOf 21 = .ok (.iload_n 2, 1) := by decide +kernel
theorem dX11_depthOf_22 : decode cX11_depthOf 22 = .ok (.invokevirtual 265, 3) := by decide +kernel
theorem dX11_depthOf_25 : decode cX11_depthOf 25 = .ok (.istore 5, 2) := by decide +kernel
theorem dX11_depthOf_27 : decode cX11_depthOf 27 = .ok (.iload 5, 2) := by decide +kernel
theorem dX11_depthOf_29 : decode cX11_depthOf 29 = .ok (.aload_n 0, 1) := by decide +kernel
theorem dX11_depthOf_30 : decode cX11_depthOf 30 = .ok (.iload_n 2, 1) := by decide +kernel
theorem dX11_depthOf_31 : decode cX11_depthOf 31 = .ok (.invokevirtual 271, 3) := by decide +kernel
theorem dX11_depthOf_34 : decode cX11_depthOf 34 = .ok (.if_icmp .ge 92, 3) := by decide +kernel
theorem dX11_depthOf_37 : decode cX11_depthOf 37 = .ok (.aload_n 0, 1) := by decide +kernel
theorem dX11_depthOf_38 : decode cX11_depthOf 38 = .ok (.iload_n 2, 1) := by decide +kernel
theorem dX11_depthOf_39 : decode cX11_depthOf 39 = .ok (.invokevirtual 262, 3) := by decide +kernel
theorem dX11_depthOf_42 : decode cX11_depthOf 42 = .ok (.istore 6, 2) := by decide +kernel
theorem dX11_depthOf_44 : decode cX11_depthOf 44 = .ok (.iload 6, 2) := by decide +kernel
theorem dX11_depthOf_46 : decode cX11_depthOf 46 = .ok (.aload_n 0, 1) := by decide +kernel
theorem dX11_depthOf_47 : decode cX11_depthOf 47 = .ok (.iload_n 2, 1) := by decide +kernel
theorem dX11_depthOf_48 : decode cX11_depthOf 48 = .ok (.invokevirtual 268, 3) := by decide +kernel
theorem dX11_depthOf_51 : decode cX11_depthOf 51 = .ok (.if_icmp .ge 69, 3) := by decide +kernel
theorem dX11_depthOf_54 : decode cX11_depthOf 54 = .ok (.iconst 0, 1) := by decide +kernel
theorem dX11_depthOf_55 : decode cX11_depthOf 55 = .ok (.istore 7, 2) := by decide +kernel
theorem dX11_depthOf_57 : decode cX11_depthOf 57 = .ok (.iload 7, 2) := by decide +kernel
theorem dX11_depthOf_59 : decode cX11_depthOf 59 = .ok (.aload_n 0, 1) := by decide +kernel
theorem dX11_depthOf_60 : decode cX11_depthOf 60 = .ok (.getfield 20, 3) := by decide +kernel
theorem dX11_depthOf_63 : decode cX11_depthOf 63 = .ok (.iconst 3, 1) := by decide +kernel
theorem dX11_depthOf_64 : decode cX11_depthOf 64 = .ok (.iaload, 1) := by decide +kernel
theorem dX11_depthOf_65 : decode cX11_depthOf 65 = .ok (.if_icmp .ge 49, 3) := by decide +kernel
theorem dX11_depthOf_68 : decode cX11_depthOf 68 = .ok (.aload_n 1, 1) := by decide +kernel
theorem dX11_depthOf_69 : decode cX11_depthOf 69 = .ok (.iconst 0, 1) := by decide +kernel
theorem dX11_depthOf_70 : decode cX11_depthOf 70 = .ok (.iload 6, 2) := by decide +kernel
theorem dX11_depthOf_72 : decode cX11_depthOf 72 = .ok (.iload 5, 2) := by decide +kernel
theorem dX11_depthOf_74 : decode cX11_depthOf 74 = .ok (.iload 7, 2) := by decide +kernel
theorem dX11_depthOf_76 : decode cX11_depthOf 76 = .ok (.invokestatic 288, 3) := by decide +kernel
theorem dX11_depthOf_79 : decode cX11_depthOf 79 = .ok (.iadd, 1) := by decide +kernel
theorem dX11_depthOf_80 : decode cX11_depthOf 80 = .ok (.iaload, 1) := by decide +kernel
theorem dX11_depthOf_81 : decode cX11_depthOf 81 = .ok (.istore 8, 2) := by decide +kernel
theorem dX11_depthOf_83 : decode cX11_depthOf 83 = .ok (.iload_n 3, 1) := by decide +kernel
theorem dX11_depthOf_84 : decode cX11_depthOf 84 = .ok (.ifCond .eq 13, 3) := by decide +kernel
theorem dX11_depthOf_87 : decode cX11_depthOf 87 = .ok (.iload 8, 2) := by decide +kernel
theorem dX11_depthOf_89 : decode cX11_depthOf 89 = .ok (.iload 4, 2) := by decide +kernel
theorem dX11_depthOf_91 : decode cX11_depthOf 91 = .ok (.if_icmp .le 17, 3) := by decide +kernel
theorem dX11_depthOf_94 : decode cX11_depthOf 94 = .ok (.goto 10, 3) := by decide +kernel
theorem dX11_depthOf_97 : decode cX11_depthOf 97 = .ok (.iload 8, 2) := by decide +kernel
theorem dX11_depthOf_99 : decode cX11_depthOf 99 = .ok (.iload 4, 2) := by decide +kernel
theorem dX11_depthOf_101 : decode cX11_depthOf 101 = .ok (.if_icmp .ge 7, 3) := by decide +kernel
theorem dX11_depthOf_104 : decode cX11_depthOf 104 = .ok (.iload 8, 2) := by decide +kernel
theorem dX11_depthOf_106 : decode cX11_depthOf 106 = .ok (.istore 4, 2) := by decide +kernel
theorem dX11_depthOf_108 : decode cX11_depthOf 108 = .ok (.iinc 7 1, 3) := by decide +kernel
theorem dX11_depthOf_111 : decode cX11_depthOf 111 = .ok (.goto (-54), 3) := by decide +kernel
theorem dX11_depthOf_114 : decode cX11_depthOf 114 = .ok (.iinc 6 1, 3) := by decide +kernel
theorem dX11_depthOf_117 : decode cX11_depthOf 117 = .ok (.goto (-73), 3) := by decide +kernel
theorem dX11_depthOf_120 : decode cX11_depthOf 120 = .ok (.iinc 5 1, 3) := by decide +kernel
theorem dX11_depthOf_123 : decode cX11_depthOf 123 = .ok (.goto (-96), 3) := by decide +kernel
theorem dX11_depthOf_126 : decode cX11_depthOf 126 = .ok (.iload 4, 2) := by decide +kernel
theorem dX11_depthOf_128 : decode cX11_depthOf 128 = .ok (.ireturn, 1) := by decide +kernel
theorem dX11_passes_0 : decode cX11_passes 0 = .ok (.iload_n 1, 1) := by decide +kernel
theorem dX11_passes_1 : decode cX11_passes 1 = .ok (.iload_n 2, 1) := by decide +kernel
theorem dX11_passes_2 : decode cX11_passes 2 = .ok (.if_icmp .lt 17, 3) := by decide +kernel
theorem dX11_passes_5 : decode cX11_passes 5 = .ok (.aload_n 0, 1) := by decide +kernel
theorem dX11_passes_6 : decode cX11_passes 6 = .ok (.sipush 1058, 3) := by decide +kernel
theorem dX11_passes_9 : decode cX11_passes 9 = .ok (.iaload, 1) := by decide +kernel
theorem dX11_passes_10 : decode cX11_passes 10 = .ok (.iconst 1, 1) := by decide +kernel
theorem dX11_passes_11 : decode cX11_passes 11 = .ok (.if_icmp .ne 12, 3) := by decide +kernel
theorem dX11_passes_14 : decode cX11_passes 14 = .ok (.iload_n 1, 1) := by decide +kernel
theorem dX11_passes_15 : decode cX11_passes 15 = .ok (.iload_n 2, 1) := by decide +kernel
theorem dX11_passes_16 : decode cX11_passes 16 = .ok (.if_icmp .ne 7, 3) := by decide +kernel
theorem dX11_passes_19 : decode cX11_passes 19 = .ok (.iconst 1, 1) := by decide +kernel
theorem dX11_passes_20 : decode cX11_passes 20 = .ok (.goto 4, 3) := by decide +kernel
theorem dX11_passes_23 : decode cX11_passes 23 = .ok (.iconst 0, 1) := by decide +kernel
theorem dX11_passes_24 : decode cX11_passes 24 = .ok (.ireturn, 1) := by decide +kernel
theorem dX11_lights_0 : decode cX11_lights 0 = .ok (.aload_n 0, 1) := by decide +kernel
theorem dX11_lights_1 : decode cX11_lights 1 = .ok (.sipush 1034, 3) := by decide +kernel
theorem dX11_lights_4 : decode cX11_lights 4 = .ok (.iconst 2, 1) := by decide +kernel
theorem dX11_lights_5 : decode cX11_lights 5 = .ok (.iload_n 1, 1) := by decide +kernel
theorem dX11_lights_6 : decode cX11_lights 6 = .ok (.imul, 1) := by decide +kernel
theorem dX11_lights_7 : decode cX11_lights 7 = .ok (.iadd, 1) := by decide +kernel
theorem dX11_lights_8 : decode cX11_lights 8 = .ok (.iload_n 3, 1) := by decide +kernel
theorem dX11_lights_9 : decode cX11_lights 9 = .ok (.iconst 4, 1) := by decide +kernel
theorem dX11_lights_10 : decode cX11_lights 10 = .ok (.idiv, 1) := by decide +kernel
theorem dX11_lights_11 : decode cX11_lights 11 = .ok (.iadd, 1) := by decide +kernel
theorem dX11_lights_12 : decode cX11_lights 12 = .ok (.dup2, 1) := by decide +kernel
theorem dX11_lights_13 : decode cX11_lights 13 = .ok (.iaload, 1) := by decide +kernel
theorem dX11_lights_14 : decode cX11_lights 14 = .ok (.iconst 1, 1) := by decide +kernel
theorem dX11_lights_15 : decode cX11_lights 15 = .ok (.bipush 8, 2) := by decide +kernel
theorem dX11_lights_17 : decode cX11_lights 17 = .ok (.iload_n 3, 1) := by decide +kernel
theorem dX11_lights_18 : decode cX11_lights 18 = .ok (.iconst 4, 1) := by decide +kernel
theorem dX11_lights_19 : decode cX11_lights 19 = .ok (.irem, 1) := by decide +kernel
theorem dX11_lights_20 : decode cX11_lights 20 = .ok (.imul, 1) := by decide +kernel
theorem dX11_lights_21 : decode cX11_lights 21 = .ok (.iload_n 2, 1) := by decide +kernel
theorem dX11_lights_22 : decode cX11_lights 22 = .ok (.iadd, 1) := by decide +kernel
theorem dX11_lights_23 : decode cX11_lights 23 = .ok (.ishl, 1) := by decide +kernel
theorem dX11_lights_24 : decode cX11_lights 24 = .ok (.ior, 1) := by decide +kernel
theorem dX11_lights_25 : decode cX11_lights 25 = .ok (.iastore, 1) := by decide +kernel
theorem dX11_lights_26 : decode cX11_lights 26 = .ok (.return_, 1) := by decide +kernel
theorem dX11_shadesPending_0 : decode cX11_shadesPending 0 = .ok (.iload_n 2, 1) := by decide +kernel
theorem dX11_shadesPending_1 : decode cX11_shadesPending 1 = .ok (.iload_n 3, 1) := by decide +kernel
theorem dX11_shadesPending_2 : decode cX11_shadesPending 2 = .ok (.iload 4, 2) := by decide +kernel
theorem dX11_shadesPending_4 : decode cX11_shadesPending 4 = .ok (.invokestatic 288, 3) := by decide +kernel
theorem dX11_shadesPending_7 : decode cX11_shadesPending 7 = .ok (.istore 5, 2) := by decide +kernel
theorem dX11_shadesPending_9 : decode cX11_shadesPending 9 = .ok (.aload_n 1, 1) := by decide +kernel
theorem dX11_shadesPending_10 : decode cX11_shadesPending 10 = .ok (.sipush 512, 3) := by decide +kernel
theorem dX11_shadesPending_13 : decode cX11_shadesPending 13 = .ok (.iload 5, 2) := by decide +kernel
theorem dX11_shadesPending_15 : decode cX11_shadesPending 15 = .ok (.iadd, 1) := by decide +kernel
theorem dX11_shadesPending_16 : decode cX11_shadesPending 16 = .ok (.iaload, 1) := by decide +kernel
theorem dX11_shadesPending_17 : decode cX11_shadesPending 17 = .ok (.istore 6, 2) := by decide +kernel
theorem dX11_shadesPending_19 : decode cX11_shadesPending 19 = .ok (.iload 6, 2) := by decide +kernel
theorem dX11_shadesPending_21 : decode cX11_shadesPending 21 = .ok (.iconst (-1), 1) := by decide +kernel
theorem dX11_shadesPending_22 : decode cX11_shadesPending 22 = .ok (.if_icmp .ne 4, 3) := by decide +kernel
theorem dX11_shadesPending_25 : decode cX11_shadesPending 25 = .ok (.return_, 1) := by decide +kernel
theorem dX11_shadesPending_26 : decode cX11_shadesPending 26 = .ok (.aload_n 0, 1) := by decide +kernel
theorem dX11_shadesPending_27 : decode cX11_shadesPending 27 = .ok (.aload_n 1, 1) := by decide +kernel
theorem dX11_shadesPending_28 : decode cX11_shadesPending 28 = .ok (.iload 6, 2) := by decide +kernel
theorem dX11_shadesPending_30 : decode cX11_shadesPending 30 = .ok (.invokevirtual 278, 3) := by decide +kernel
theorem dX11_shadesPending_33 : decode cX11_shadesPending 33 = .ok (.aload_n 1, 1) := by decide +kernel
theorem dX11_shadesPending_34 : decode cX11_shadesPending 34 = .ok (.sipush 256, 3) := by decide +kernel
theorem dX11_shadesPending_37 : decode cX11_shadesPending 37 = .ok (.iload 5, 2) := by decide +kernel
theorem dX11_shadesPending_39 : decode cX11_shadesPending 39 = .ok (.iadd, 1) := by decide +kernel
theorem dX11_shadesPending_40 : decode cX11_shadesPending 40 = .ok (.aload_n 0, 1) := by decide +kernel
theorem dX11_shadesPending_41 : decode cX11_shadesPending 41 = .ok (.iload 6, 2) := by decide +kernel
theorem dX11_shadesPending_43 : decode cX11_shadesPending 43 = .ok (.iload_n 2, 1) := by decide +kernel
theorem dX11_shadesPending_44 : decode cX11_shadesPending 44 = .ok (.iload_n 3, 1) := by decide +kernel
theorem dX11_shadesPending_45 : decode cX11_shadesPending 45 = .ok (.invokevirtual 291, 3) := by decide +kernel
theorem dX11_shadesPending_48 : decode cX11_shadesPending 48 = .ok (.iastore, 1) := by decide +kernel
theorem dX11_shadesPending_49 : decode cX11_shadesPending 49 = .ok (.aload_n 1, 1) := by decide +kernel
theorem dX11_shadesPending_50 : decode cX11_shadesPending 50 = .ok (.sipush 512, 3) := by decide +kernel
theorem dX11_shadesPending_53 : decode cX11_shadesPending 53 = .ok (.iload 5, 2) := by decide +kernel
theorem dX11_shadesPending_55 : decode cX11_shadesPending 55 = .ok (.iadd, 1) := by decide +kernel
theorem dX11_shadesPending_56 : decode cX11_shadesPending 56 = .ok (.iconst (-1), 1) := by decide +kernel
theorem dX11_shadesPending_57 : decode cX11_shadesPending 57 = .ok (.iastore, 1) := by decide +kernel
theorem dX11_shadesPending_58 : decode cX11_shadesPending 58 = .ok (.aload_n 1, 1) := by decide +kernel
theorem dX11_shadesPending_59 : decode cX11_shadesPending 59 = .ok (.iload 6, 2) := by decide +kernel
theorem dX11_shadesPending_61 : decode cX11_shadesPending 61 = .ok (.iload_n 2, 1) := by decide +kernel
theorem dX11_shadesPending_62 : decode cX11_shadesPending 62 = .ok (.iload_n 3, 1) := by decide +kernel
theorem dX11_shadesPending_63 : decode cX11_shadesPending 63 = .ok (.invokestatic 294, 3) := by decide +kernel
theorem dX11_shadesPending_66 : decode cX11_shadesPending 66 = .ok (.return_, 1) := by decide +kernel
theorem dX11_laysAt_0 : decode cX11_laysAt 0 = .ok (.bipush 8, 2) := by decide +kernel
theorem dX11_laysAt_2 : decode cX11_laysAt 2 = .ok (.iload_n 3, 1) := by decide +kernel
theorem dX11_laysAt_3 : decode cX11_laysAt 3 = .ok (.imul, 1) := by decide +kernel
theorem dX11_laysAt_4 : decode cX11_laysAt 4 = .ok (.aload_n 0, 1) := by decide +kernel
theorem dX11_laysAt_5 : decode cX11_laysAt 5 = .ok (.iload 5, 2) := by decide +kernel
theorem dX11_laysAt_7 : decode cX11_laysAt 7 = .ok (.invokevirtual 298, 3) := by decide +kernel
theorem dX11_laysAt_10 : decode cX11_laysAt 10 = .ok (.iadd, 1) := by decide +kernel
theorem dX11_laysAt_11 : decode cX11_laysAt 11 = .ok (.istore 6, 2) := by decide +kernel
theorem dX11_laysAt_13 : decode cX11_laysAt 13 = .ok (.bipush 8, 2) := by decide +kernel
theorem dX11_laysAt_15 : decode cX11_laysAt 15 = .ok (.iload 4, 2) := by decide +kernel
theorem dX11_laysAt_17 : decode cX11_laysAt 17 = .ok (.imul, 1) := by decide +kernel
theorem dX11_laysAt_18 : decode cX11_laysAt 18 = .ok (.aload_n 0, 1) := by decide +kernel
theorem dX11_laysAt_19 : decode cX11_laysAt 19 = .ok (.iload 5, 2) := by decide +kernel
theorem dX11_laysAt_21 : decode cX11_laysAt 21 = .ok (.invokevirtual 301, 3) := by decide +kernel
theorem dX11_laysAt_24 : decode cX11_laysAt 24 = .ok (.iadd, 1) := by decide +kernel
theorem dX11_laysAt_25 : decode cX11_laysAt 25 = .ok (.istore 7, 2) := by decide +kernel
theorem dX11_laysAt_27 : decode cX11_laysAt 27 = .ok (.aload_n 0, 1) := by decide +kernel
theorem dX11_laysAt_28 : decode cX11_laysAt 28 = .ok (.iload 6, 2) := by decide +kernel
theorem dX11_laysAt_30 : decode cX11_laysAt 30 = .ok (.iload 7, 2) := by decide +kernel
theorem dX11_laysAt_32 : decode cX11_laysAt 32 = .ok (.invokevirtual 304, 3) := by decide +kernel
theorem dX11_laysAt_35 : decode cX11_laysAt 35 = .ok (.ifCond .ne 4, 3) := by decide +kernel
theorem dX11_laysAt_38 : decode cX11_laysAt 38 = .ok (.return_, 1) := by decide +kernel
theorem dX11_laysAt_39 : decode cX11_laysAt 39 = .ok (.iload_n 3, 1) := by decide +kernel
theorem dX11_laysAt_40 : decode cX11_laysAt 40 = .ok (.iload 4, 2) := by decide +kernel
theorem dX11_laysAt_42 : decode cX11_laysAt 42 = .ok (.iload 5, 2) := by decide +kernel
theorem dX11_laysAt_44 : decode cX11_laysAt 44 = .ok (.invokestatic 288, 3) := by decide +kernel
theorem dX11_laysAt_47 : decode cX11_laysAt 47 = .ok (.istore 8, 2) := by decide +kernel
theorem dX11_laysAt_49 : decode cX11_laysAt 49 = .ok (.aload_n 0, 1) := by decide +kernel
theorem dX11_laysAt_50 : decode cX11_laysAt 50 = .ok (.iload 6, 2) := by decide +kernel
theorem dX11_laysAt_52 : decode cX11_laysAt 52 = .ok (.iload 7, 2) := by decide +kernel
theorem dX11_laysAt_54 : decode cX11_laysAt 54 = .ok (.invokevirtual 255, 3) := by decide +kernel
theorem dX11_laysAt_57 : decode cX11_laysAt 57 = .ok (.istore 9, 2) := by decide +kernel
theorem dX11_laysAt_59 : decode cX11_laysAt 59 = .ok (.aload_n 1, 1) := by decide +kernel
theorem dX11_laysAt_60 : decode cX11_laysAt 60 = .ok (.sipush 1055, 3) := by decide +kernel
theorem dX11_laysAt_63 : decode cX11_laysAt 63 = .ok (.dup2, 1) := by decide +kernel
theorem dX11_laysAt_64 : decode cX11_laysAt 64 = .ok (.iaload, 1) := by decide +kernel
theorem dX11_laysAt_65 : decode cX11_laysAt 65 = .ok (.iconst 1, 1) := by decide +kernel
theorem dX11_laysAt_66 : decode cX11_laysAt 66 = .ok (.iadd, 1) := by decide +kernel
theorem dX11_laysAt_67 : decode cX11_laysAt 67 = .ok (.iastore, 1) := by decide +kernel
theorem dX11_laysAt_68 : decode cX11_laysAt 68 = .ok (.aload_n 1, 1) := by decide +kernel
theorem dX11_laysAt_69 : decode cX11_laysAt 69 = .ok (.iload 9, 2) := by decide +kernel
theorem dX11_laysAt_71 : decode cX11_laysAt 71 = .ok (.aload_n 1, 1) := by decide +kernel
theorem dX11_laysAt_72 : decode cX11_laysAt 72 = .ok (.iconst 0, 1) := by decide +kernel
theorem dX11_laysAt_73 : decode cX11_laysAt 73 = .ok (.iload 8, 2) := by decide +kernel
theorem dX11_laysAt_75 : decode cX11_laysAt 75 = .ok (.iadd, 1) := by decide +kernel
theorem dX11_laysAt_76 : decode cX11_laysAt 76 = .ok (.iaload, 1) := by decide +kernel
theorem dX11_laysAt_77 : decode cX11_laysAt 77 = .ok (.invokestatic 307, 3) := by decide +kernel
theorem dX11_laysAt_80 : decode cX11_laysAt 80 = .ok (.ifCond .ne 4, 3) := by decide +kernel
theorem dX11_laysAt_83 : decode cX11_laysAt 83 = .ok (.return_, 1) := by decide +kernel
theorem dX11_laysAt_84 : decode cX11_laysAt 84 = .ok (.aload_n 0, 1) := by decide +kernel
theorem dX11_laysAt_85 : decode cX11_laysAt 85 = .ok (.getfield 26, 3) := by decide +kernel
theorem dX11_laysAt_88 : decode cX11_laysAt 88 = .ok (.bipush 12, 2) := by decide +kernel
theorem dX11_laysAt_90 : decode cX11_laysAt 90 = .ok (.iload_n 2, 1) := by decide +kernel
theorem dX11_laysAt_91 : decode cX11_laysAt 91 = .ok (.imul, 1) := by decide +kernel
theorem dX11_laysAt_92 : decode cX11_laysAt 92 = .ok (.bipush 10, 2) := by decide +kernel
theorem dX11_laysAt_94 : decode cX11_laysAt 94 = .ok (.iadd, 1) := by decide +kernel
theorem dX11_laysAt_95 : decode cX11_laysAt 95 = .ok (.iaload, 1) := by decide +kernel
theorem dX11_laysAt_96 : decode cX11_laysAt 96 = .ok (.istore 10, 2) := by decide +kernel
theorem dX11_laysAt_98 : decode cX11_laysAt 98 = .ok (.iload 10, 2) := by decide +kernel
theorem dX11_laysAt_100 : decode cX11_laysAt 100 = .ok (.bipush 8, 2) := by decide +kernel
theorem dX11_laysAt_102 : decode cX11_laysAt 102 = .ok (.if_icmp .ge 65, 3) := by decide +kernel
theorem dX11_laysAt_105 : decode cX11_laysAt 105 = .ok (.aload_n 0, 1) := by decide +kernel
theorem dX11_laysAt_106 : decode cX11_laysAt 106 = .ok (.aload_n 1, 1) := by decide +kernel
theorem dX11_laysAt_107 : decode cX11_laysAt 107 = .ok (.iload_n 3, 1) := by decide +kernel
theorem dX11_laysAt_108 : decode cX11_laysAt 108 = .ok (.iload 4, 2) := by decide +kernel
theorem dX11_laysAt_110 : decode cX11_laysAt 110 = .ok (.iload 5, 2) := by decide +kernel
theorem dX11_laysAt_112 : decode cX11_laysAt 112 = .ok (.invokevirtual 310, 3) := by decide +kernel
theorem dX11_laysAt_115 : decode cX11_laysAt 115 = .ok (.aload_n 0, 1) := by decide +kernel
theorem dX11_laysAt_116 : decode cX11_laysAt 116 = .ok (.aload_n 1, 1) := by decide +kernel
theorem dX11_laysAt_117 : decode cX11_laysAt 117 = .ok (.iload_n 2, 1) := by decide +kernel
theorem dX11_laysAt_118 : decode cX11_laysAt 118 = .ok (.invokevirtual 278, 3) := by decide +kernel
theorem dX11_laysAt_121 : decode cX11_laysAt 121 = .ok (.aload_n 1, 1) := by decide +kernel
theorem dX11_laysAt_122 : decode cX11_laysAt 122 = .ok (.sipush 256, 3) := by decide +kernel
theorem dX11_laysAt_125 : decode cX11_laysAt 125 = .ok (.iload 8, 2) := by decide +kernel
theorem dX11_laysAt_127 : decode cX11_laysAt 127 = .ok (.iadd, 1) := by decide +kernel
theorem dX11_laysAt_128 : decode cX11_laysAt 128 = .ok (.aload_n 0, 1) := by decide +kernel
theorem dX11_laysAt_129 : decode cX11_laysAt 129 = .ok (.iload_n 2, 1) := by decide +kernel
theorem dX11_laysAt_130 : decode cX11_laysAt 130 = .ok (.iload_n 3, 1) := by decide +kernel
theorem dX11_laysAt_131 : decode cX11_laysAt 131 = .ok (.iload 4, 2) := by decide +kernel
theorem dX11_laysAt_133 : decode cX11_laysAt 133 = .ok (.invokevirtual 291, 3) := by decide +kernel
theorem dX11_laysAt_136 : decode cX11_laysAt 136 = .ok (.iload 10, 2) := by decide +kernel
theorem dX11_laysAt_138 : decode cX11_laysAt 138 = .ok (.imul, 1) := by decide +kernel
theorem dX11_laysAt_139 : decode cX11_laysAt 139 = .ok (.aload_n 1, 1) := by decide +kernel
theorem dX11_laysAt_140 : decode cX11_laysAt 140 = .ok (.sipush 256, 3) := by decide +kernel
theorem dX11_laysAt_143 : decode cX11_laysAt 143 = .ok (.iload 8, 2) := by decide +kernel
theorem dX11_laysAt_145 : decode cX11_laysAt 145 = .ok (.iadd, 1) := by decide +kernel
theorem dX11_laysAt_146 : decode cX11_laysAt 146 = .ok (.iaload, 1) := by decide +kernel
theorem dX11_laysAt_147 : decode cX11_laysAt 147 = .ok (.bipush 8, 2) := by decide +kernel
theorem dX11_laysAt_149 : decode cX11_laysAt 149 = .ok (.iload 10, 2) := by decide +kernel
theorem dX11_laysAt_151 : decode cX11_laysAt 151 = .ok (.isub, 1) := by decide +kernel
theorem dX11_laysAt_152 : decode cX11_laysAt 152 = .ok (.imul, 1) := by decide +kernel
theorem dX11_laysAt_153 : decode cX11_laysAt 153 = .ok (.iadd, 1) := by decide +kernel
theorem dX11_laysAt_154 : decode cX11_laysAt 154 = .ok (.bipush 8, 2) := by decide +kernel
theorem dX11_laysAt_156 : decode cX11_laysAt 156 = .ok (.idiv, 1) := by decide +kernel
theorem dX11_laysAt_157 : decode cX11_laysAt 157 = .ok (.iastore, 1) := by decide +kernel
theorem dX11_laysAt_158 : decode cX11_laysAt 158 = .ok (.aload_n 1, 1) := by decide +kernel
theorem dX11_laysAt_159 : decode cX11_laysAt 159 = .ok (.iload_n 2, 1) := by decide +kernel
theorem dX11_laysAt_160 : decode cX11_laysAt 160 = .ok (.iload_n 3, 1) := by decide +kernel
theorem dX11_laysAt_161 : decode cX11_laysAt 161 = .ok (.iload 4, 2) := by decide +kernel
theorem dX11_laysAt_163 : decode cX11_laysAt 163 = .ok (.invokestatic 294, 3) := by decide +kernel
theorem dX11_laysAt_166 : decode cX11_laysAt 166 = .ok (.return_, 1) := by decide +kernel
theorem dX11_laysAt_167 : decode cX11_laysAt 167 = .ok (.aload_n 1, 1) := by decide +kernel
theorem dX11_laysAt_168 : decode cX11_laysAt 168 = .ok (.iconst 0, 1) := by decide +kernel
theorem dX11_laysAt_169 : decode cX11_laysAt 169 = .ok (.iload 8, 2) := by decide +kernel
theorem dX11_laysAt_171 : decode cX11_laysAt 171 = .ok (.iadd, 1) := by decide +kernel
theorem dX11_laysAt_172 : decode cX11_laysAt 172 = .ok (.iload 9, 2) := by decide +kernel
theorem dX11_laysAt_174 : decode cX11_laysAt 174 = .ok (.iastore, 1) := by decide +kernel
theorem dX11_laysAt_175 : decode cX11_laysAt 175 = .ok (.aload_n 1, 1) := by decide +kernel
theorem dX11_laysAt_176 : decode cX11_laysAt 176 = .ok (.sipush 512, 3) := by decide +kernel
theorem dX11_laysAt_179 : decode cX11_laysAt 179 = .ok (.iload 8, 2) := by decide +kernel
theorem dX11_laysAt_181 : decode cX11_laysAt 181 = .ok (.iadd, 1) := by decide +kernel
theorem dX11_laysAt_182 : decode cX11_laysAt 182 = .ok (.iload_n 2, 1) := by decide +kernel
theorem dX11_laysAt_183 : decode cX11_laysAt 183 = .ok (.iastore, 1) := by decide +kernel
theorem dX11_laysAt_184 : decode cX11_laysAt 184 = .ok (.aload_n 1, 1) := by decide +kernel
theorem dX11_laysAt_185 : decode cX11_laysAt 185 = .ok (.sipush 1059, 3) := by decide +kernel
theorem dX11_laysAt_188 : decode cX11_laysAt 188 = .ok (.iaload, 1) := by decide +kernel
theorem dX11_laysAt_189 : decode cX11_laysAt 189 = .ok (.ifCond .ne 13, 3) := by decide +kernel
theorem dX11_laysAt_192 : decode cX11_laysAt 192 = .ok (.aload_n 0, 1) := by decide +kernel
theorem dX11_laysAt_193 : decode cX11_laysAt 193 = .ok (.aload_n 1, 1) := by decide +kernel
theorem dX11_laysAt_194 : decode cX11_laysAt 194 = .ok (.iload_n 3, 1) := by decide +kernel
theorem dX11_laysAt_195 : decode cX11_laysAt 195 = .ok (.iload 4, 2) := by decide +kernel
theorem dX11_laysAt_197 : decode cX11_laysAt 197 = .ok (.iload 5, 2) := by decide +kernel
theorem dX11_laysAt_199 : decode cX11_laysAt 199 = .ok (.invokevirtual 310, 3) := by decide +kernel
theorem dX11_laysAt_202 : decode cX11_laysAt 202 = .ok (.return_, 1) := by decide +kernel
theorem dX11_lays_0 : decode cX11_lays 0 = .ok (.aload_n 0, 1) := by decide +kernel
theorem dX11_lays_1 : decode cX11_lays 1 = .ok (.aload_n 1, 1) := by decide +kernel
theorem dX11_lays_2 : decode cX11_lays 2 = .ok (.iload_n 3, 1) := by decide +kernel
theorem dX11_lays_3 : decode cX11_lays 3 = .ok (.invokevirtual 278, 3) := by decide +kernel
theorem dX11_lays_6 : decode cX11_lays 6 = .ok (.aload_n 1, 1) := by decide +kernel
theorem dX11_lays_7 : decode cX11_lays 7 = .ok (.aload_n 0, 1) := by decide +kernel
theorem dX11_lays_8 : decode cX11_lays 8 = .ok (.invokevirtual 313, 3) := by decide +kernel
theorem dX11_lays_11 : decode cX11_lays 11 = .ok (.aload_n 0, 1) := by decide +kernel
theorem dX11_lays_12 : decode cX11_lays 12 = .ok (.aload_n 1, 1) := by decide +kernel
theorem dX11_lays_13 : decode cX11_lays 13 = .ok (.iload_n 2, 1) := by decide +kernel
theorem dX11_lays_14 : decode cX11_lays 14 = .ok (.iconst 1, 1) := by decide +kernel
theorem dX11_lays_15 : decode cX11_lays 15 = .ok (.invokevirtual 316, 3) := by decide +kernel
theorem dX11_lays_18 : decode cX11_lays 18 = .ok (.invokestatic 307, 3) := by decide +kernel
theorem dX11_lays_21 : decode cX11_lays 21 = .ok (.ifCond .ne 13, 3) := by decide +kernel
theorem dX11_lays_24 : decode cX11_lays 24 = .ok (.aload_n 1, 1) := by decide +kernel
theorem dX11_lays_25 : decode cX11_lays 25 = .ok (.sipush 1054, 3) := by decide +kernel
theorem dX11_lays_28 : decode cX11_lays 28 = .ok (.dup2, 1) := by decide +kernel
theorem dX11_lays_29 : decode cX11_lays 29 = .ok (.iaload, 1) := by decide +kernel
theorem dX11_lays_30 : decode cX11_lays 30 = .ok (.iconst 1, 1) := by decide +kernel
theorem dX11_lays_31 : decode cX11_lays 31 = .ok (.iadd, 1) := by decide +kernel
theorem dX11_lays_32 : decode cX11_lays 32 = .ok (.iastore, 1) := by decide +kernel
theorem dX11_lays_33 : decode cX11_lays 33 = .ok (.return_, 1) := by decide +kernel
theorem dX11_lays_34 : decode cX11_lays 34 = .ok (.aload_n 0, 1) := by decide +kernel
theorem dX11_lays_35 : decode cX11_lays 35 = .ok (.iload_n 2, 1) := by decide +kernel
theorem dX11_lays_36 : decode cX11_lays 36 = .ok (.invokevirtual 265, 3) := by decide +kernel
theorem dX11_lays_39 : decode cX11_lays 39 = .ok (.istore 4, 2) := by decide +kernel
theorem dX11_lays_41 : decode cX11_lays 41 = .ok (.iload 4, 2) := by decide +kernel
theorem dX11_lays_43 : decode cX11_lays 43 = .ok (.aload_n 0, 1) := by decide +kernel
theorem dX11_lays_44 : decode cX11_lays 44 = .ok (.iload_n 2, 1) := by decide +kernel
theorem dX11_lays_45 : decode cX11_lays 45 = .ok (.invokevirtual 271, 3) := by decide +kernel
theorem dX11_lays_48 : decode cX11_lays 48 = .ok (.if_icmp .ge 64, 3) := by decide +kernel
theorem dX11_lays_51 : decode cX11_lays 51 = .ok (.aload_n 0, 1) := by decide +kernel
theorem dX11_lays_52 : decode cX11_lays 52 = .ok (.iload_n 2, 1) := by decide +kernel
theorem dX11_lays_53 : decode cX11_lays 53 = .ok (.invokevirtual 262, 3) := by decide +kernel
theorem dX11_lays_56 : decode cX11_lays 56 = .ok (.istore 5, 2) := by decide +kernel
theorem dX11_lays_58 : decode cX11_lays 58 = .ok (.iload 5, 2) := by decide +kernel
theorem dX11_lays_60 : decode cX11_lays 60 = .ok (.aload_n 0, 1) := by decide +kernel
theorem dX11_lays_61 : decode cX11_lays 61 = .ok (.iload_n 2, 1) := by decide +kernel
theorem dX11_lays_62 : decode cX11_lays 62 = .ok (.invokevirtual 268, 3) := by decide +kernel
theorem dX11_lays_65 : decode cX11_lays 65 = .ok (.if_icmp .ge 41, 3) := by decide +kernel
theorem dX11_lays_68 : decode cX11_lays 68 = .ok (.iconst 0, 1) := by decide +kernel
theorem dX11_lays_69 : decode cX11_lays 69 = .ok (.istore 6, 2) := by decide +kernel
theorem dX11_lays_71 : decode cX11_lays 71 = .ok (.iload 6, 2) := by decide +kernel
theorem dX11_lays_73 : decode cX11_lays 73 = .ok (.aload_n 0, 1) := by decide +kernel
theorem dX11_lays_74 : decode cX11_lays 74 = .ok (.getfield 20, 3) := by decide +kernel
theorem dX11_lays_77 : decode cX11_lays 77 = .ok (.iconst 3, 1) := by decide +kernel
theorem dX11_lays_78 : decode cX11_lays 78 = .ok (.iaload, 1) := by decide +kernel
theorem dX11_lays_79 : decode cX11_lays 79 = .ok (.if_icmp .ge 21, 3) := by decide +kernel
theorem dX11_lays_82 : decode cX11_lays 82 = .ok (.aload_n 0, 1) := by decide +kernel
theorem dX11_lays_83 : decode cX11_lays 83 = .ok (.aload_n 1, 1) := by decide +kernel
theorem dX11_lays_84 : decode cX11_lays 84 = .ok (.iload_n 3, 1) := by decide +kernel
theorem dX11_lays_85 : decode cX11_lays 85 = .ok (.iload 5, 2) := by decide +kernel
theorem dX11_lays_87 : decode cX11_lays 87 = .ok (.iload 4, 2) := by decide +kernel
theorem dX11_lays_89 : decode cX11_lays 89 = .ok (.iload 6, 2) := by decide +kernel
theorem dX11_lays_91 : decode cX11_lays 91 = .ok (.invokevirtual 320, 3) := by decide +kernel
theorem dX11_lays_94 : decode cX11_lays 94 = .ok (.iinc 6 1, 3) := by decide +kernel
theorem dX11_lays_97 : decode cX11_lays 97 = .ok (.goto (-26), 3) := by decide +kernel
theorem dX11_lays_100 : decode cX11_lays 100 = .ok (.iinc 5 1, 3) := by decide +kernel
theorem dX11_lays_103 : decode cX11_lays 103 = .ok (.goto (-45), 3) := by decide +kernel
theorem dX11_lays_106 : decode cX11_lays 106 = .ok (.iinc 4 1, 3) := by decide +kernel
theorem dX11_lays_109 : decode cX11_lays 109 = .ok (.goto (-68), 3) := by decide +kernel
theorem dX11_lays_112 : decode cX11_lays 112 = .ok (.return_, 1) := by decide +kernel
theorem dX11_pendingIn_0 : decode cX11_pendingIn 0 = .ok (.iconst 0, 1) := by decide +kernel
theorem dX11_pendingIn_1 : decode cX11_pendingIn 1 = .ok (.istore_n 3, 1) := by decide +kernel
theorem dX11_pendingIn_2 : decode cX11_pendingIn 2 = .ok (.aload_n 0, 1) := by decide +kernel
theorem dX11_pendingIn_3 : decode cX11_pendingIn 3 = .ok (.iload_n 2, 1) := by decide +kernel
theorem dX11_pendingIn_4 : decode cX11_pendingIn 4 = .ok (.invokevirtual 265, 3) := by decide +kernel
theorem dX11_pendingIn_7 : decode cX11_pendingIn 7 = .ok (.istore 4, 2) := by decide +kernel
theorem dX11_pendingIn_9 : decode cX11_pendingIn 9 = .ok (.iload 4, 2) := by decide +kernel
theorem dX11_pendingIn_11 : decode cX11_pendingIn 11 = .ok (.aload_n 0, 1) := by decide +kernel
theorem dX11_pendingIn_12 : decode cX11_pendingIn 12 = .ok (.iload_n 2, 1) := by decide +kernel
theorem dX11_pendingIn_13 : decode cX11_pendingIn 13 = .ok (.invokevirtual 271, 3) := by decide +kernel
theorem dX11_pendingIn_16 : decode cX11_pendingIn 16 = .ok (.if_icmp .ge 79, 3) := by decide +kernel
theorem dX11_pendingIn_19 : decode cX11_pendingIn 19 = .ok (.aload_n 0, 1) := by decide +kernel
theorem dX11_pendingIn_20 : decode cX11_pendingIn 20 = .ok (.iload_n 2, 1) := by decide +kernel
theorem dX11_pendingIn_21 : decode cX11_pendingIn 21 = .ok (.invokevirtual 262, 3) := by decide +kernel
theorem dX11_pendingIn_24 : decode cX11_pendingIn 24 = .ok (.istore 5, 2) := by decide +kernel
theorem dX11_pendingIn_26 : decode cX11_pendingIn 26 = .ok (.iload 5, 2) := by decide +kernel
theorem dX11_pendingIn_28 : decode cX11_pendingIn 28 = .ok (.aload_n 0, 1) := by decide +kernel
theorem dX11_pendingIn_29 : decode cX11_pendingIn 29 = .ok (.iload_n 2, 1) := by decide +kernel
theorem dX11_pendingIn_30 : decode cX11_pendingIn 30 = .ok (.invokevirtual 268, 3) := by decide +kernel
theorem dX11_pendingIn_33 : decode cX11_pendingIn 33 = .ok (.if_icmp .ge 56, 3) := by decide +kernel
theorem dX11_pendingIn_36 : decode cX11_pendingIn 36 = .ok (.iconst 0, 1) := by decide +kernel
theorem dX11_pendingIn_37 : decode cX11_pendingIn 37 = .ok (.istore 6, 2) := by decide +kernel
theorem dX11_pendingIn_39 : decode cX11_pendingIn 39 = .ok (.iload 6, 2) := by decide +kernel
theorem dX11_pendingIn_41 : decode cX11_pendingIn 41 = .ok (.aload_n 0, 1) := by decide +kernel
theorem dX11_pendingIn_42 : decode cX11_pendingIn 42 = .ok (.getfield 20, 3) := by decide +kernel
theorem dX11_pendingIn_45 : decode cX11_pendingIn 45 = .ok (.iconst 3, 1) := by decide +kernel
theorem dX11_pendingIn_46 : decode cX11_pendingIn 46 = .ok (.iaload, 1) := by decide +kernel
theorem dX11_pendingIn_47 : decode cX11_pendingIn 47 = .ok (.if_icmp .ge 36, 3) := by decide +kernel
theorem dX11_pendingIn_50 : decode cX11_pendingIn 50 = .ok (.iload_n 3, 1) := by decide +kernel
theorem dX11_pendingIn_51 : decode cX11_pendingIn 51 = .ok (.aload_n 1, 1) := by decide +kernel
theorem dX11_pendingIn_52 : decode cX11_pendingIn 52 = .ok (.sipush 512, 3) := by decide +kernel
theorem dX11_pendingIn_55 : decode cX11_pendingIn 55 = .ok (.iload 5, 2) := by decide +kernel
theorem dX11_pendingIn_57 : decode cX11_pendingIn 57 = .ok (.iload 4, 2) := by decide +kernel
theorem dX11_pendingIn_59 : decode cX11_pendingIn 59 = .ok (.iload 6, 2) := by decide +kernel
theorem dX11_pendingIn_61 : decode cX11_pendingIn 61 = .ok (.invokestatic 288, 3) := by decide +kernel
theorem dX11_pendingIn_64 : decode cX11_pendingIn 64 = .ok (.iadd, 1) := by decide +kernel
theorem dX11_pendingIn_65 : decode cX11_pendingIn 65 = .ok (.iaload, 1) := by decide +kernel
theorem dX11_pendingIn_66 : decode cX11_pendingIn 66 = .ok (.iconst (-1), 1) := by decide +kernel
theorem dX11_pendingIn_67 : decode cX11_pendingIn 67 = .ok (.if_icmp .ne 7, 3) := by decide +kernel
theorem dX11_pendingIn_70 : decode cX11_pendingIn 70 = .ok (.iconst 0, 1) := by decide +kernel
theorem dX11_pendingIn_71 : decode cX11_pendingIn 71 = .ok (.goto 4, 3) := by decide +kernel
theorem dX11_pendingIn_74 : decode cX11_pendingIn 74 = .ok (.iconst 1, 1) := by decide +kernel
theorem dX11_pendingIn_75 : decode cX11_pendingIn 75 = .ok (.iadd, 1) := by decide +kernel
theorem dX11_pendingIn_76 : decode cX11_pendingIn 76 = .ok (.istore_n 3, 1) := by decide +kernel
theorem dX11_pendingIn_77 : decode cX11_pendingIn 77 = .ok (.iinc 6 1, 3) := by decide +kernel
theorem dX11_pendingIn_80 : decode cX11_pendingIn 80 = .ok (.goto (-41), 3) := by decide +kernel
theorem dX11_pendingIn_83 : decode cX11_pendingIn 83 = .ok (.iinc 5 1, 3) := by decide +kernel
theorem dX11_pendingIn_86 : decode cX11_pendingIn 86 = .ok (.goto (-60), 3) := by decide +kernel
theorem dX11_pendingIn_89 : decode cX11_pendingIn 89 = .ok (.iinc 4 1, 3) := by decide +kernel
theorem dX11_pendingIn_92 : decode cX11_pendingIn 92 = .ok (.goto (-83), 3) := by decide +kernel
theorem dX11_pendingIn_95 : decode cX11_pendingIn 95 = .ok (.iload_n 3, 1) := by decide +kernel
theorem dX11_pendingIn_96 : decode cX11_pendingIn 96 = .ok (.ireturn, 1) := by decide +kernel
theorem dX11_flushes_0 : decode cX11_flushes 0 = .ok (.sipush 768, 3) := by decide +kernel
theorem dX11_flushes_3 : decode cX11_flushes 3 = .ok (.bipush 11, 2) := by decide +kernel
theorem dX11_flushes_5 : decode cX11_flushes 5 = .ok (.iload_n 2, 1) := by decide +kernel
theorem dX11_flushes_6 : decode cX11_flushes 6 = .ok (.imul, 1) := by decide +kernel
theorem dX11_flushes_7 : decode cX11_flushes 7 = .ok (.iadd, 1) := by decide +kernel
theorem dX11_flushes_8 : decode cX11_flushes 8 = .ok (.istore_n 3, 1) := by decide +kernel
theorem dX11_flushes_9 : decode cX11_flushes 9 = .ok (.aload_n 1, 1) := by decide +kernel
theorem dX11_flushes_10 : decode cX11_flushes 10 = .ok (.iload_n 3, 1) := by decide +kernel
theorem dX11_flushes_11 : decode cX11_flushes 11 = .ok (.iaload, 1) := by decide +kernel
theorem dX11_flushes_12 : decode cX11_flushes 12 = .ok (.istore 4, 2) := by decide +kernel
theorem dX11_flushes_14 : decode cX11_flushes 14 = .ok (.iconst 1, 1) := by decide +kernel
theorem dX11_flushes_15 : decode cX11_flushes 15 = .ok (.istore 5, 2) := by decide +kernel
theorem dX11_flushes_17 : decode cX11_flushes 17 = .ok (.iload 5, 2) := by decide +kernel
theorem dX11_flushes_19 : decode cX11_flushes 19 = .ok (.iload 4, 2) := by decide +kernel
theorem dX11_flushes_21 : decode cX11_flushes 21 = .ok (.if_icmp .gt 21, 3) := by decide +kernel
theorem dX11_flushes_24 : decode cX11_flushes 24 = .ok (.aload_n 0, 1) := by decide +kernel
theorem dX11_flushes_25 : decode cX11_flushes 25 = .ok (.aload_n 1, 1) := by decide +kernel
theorem dX11_flushes_26 : decode cX11_flushes 26 = .ok (.iload_n 2, 1) := by decide +kernel
theorem dX11_flushes_27 : decode cX11_flushes 27 = .ok (.aload_n 1, 1) := by decide +kernel
theorem dX11_flushes_28 : decode cX11_flushes 28 = .ok (.iload_n 3, 1) := by decide +kernel
theorem dX11_flushes_29 : decode cX11_flushes 29 = .ok (.iload 5, 2) := by decide +kernel
theorem dX11_flushes_31 : decode cX11_flushes 31 = .ok (.iadd, 1) := by decide +kernel
theorem dX11_flushes_32 : decode cX11_flushes 32 = .ok (.iaload, 1) := by decide +kernel
theorem dX11_flushes_33 : decode cX11_flushes 33 = .ok (.invokevirtual 324, 3) := by decide +kernel
theorem dX11_flushes_36 : decode cX11_flushes 36 = .ok (.iinc 5 1, 3) := by decide +kernel
theorem dX11_flushes_39 : decode cX11_flushes 39 = .ok (.goto (-22), 3) := by decide +kernel
theorem dX11_flushes_42 : decode cX11_flushes 42 = .ok (.aload_n 1, 1) := by decide +kernel
theorem dX11_flushes_43 : decode cX11_flushes 43 = .ok (.iload_n 3, 1) := by decide +kernel
theorem dX11_flushes_44 : decode cX11_flushes 44 = .ok (.iconst 0, 1) := by decide +kernel
theorem dX11_flushes_45 : decode cX11_flushes 45 = .ok (.iastore, 1) := by decide +kernel
theorem dX11_flushes_46 : decode cX11_flushes 46 = .ok (.aload_n 1, 1) := by decide +kernel
theorem dX11_flushes_47 : decode cX11_flushes 47 = .ok (.sipush 1056, 3) := by decide +kernel
theorem dX11_flushes_50 : decode cX11_flushes 50 = .ok (.dup2, 1) := by decide +kernel
theorem dX11_flushes_51 : decode cX11_flushes 51 = .ok (.iaload, 1) := by decide +kernel
theorem dX11_flushes_52 : decode cX11_flushes 52 = .ok (.iload 4, 2) := by decide +kernel
theorem dX11_flushes_54 : decode cX11_flushes 54 = .ok (.ifCond .le 7, 3) := by decide +kernel
theorem dX11_flushes_57 : decode cX11_flushes 57 = .ok (.iconst 1, 1) := by decide +kernel
theorem dX11_flushes_58 : decode cX11_flushes 58 = .ok (.goto 4, 3) := by decide +kernel
theorem dX11_flushes_61 : decode cX11_flushes 61 = .ok (.iconst 0, 1) := by decide +kernel
theorem dX11_flushes_62 : decode cX11_flushes 62 = .ok (.iadd, 1) := by decide +kernel
theorem dX11_flushes_63 : decode cX11_flushes 63 = .ok (.iastore, 1) := by decide +kernel
theorem dX11_flushes_64 : decode cX11_flushes 64 = .ok (.aload_n 0, 1) := by decide +kernel
theorem dX11_flushes_65 : decode cX11_flushes 65 = .ok (.iload_n 2, 1) := by decide +kernel
theorem dX11_flushes_66 : decode cX11_flushes 66 = .ok (.invokevirtual 265, 3) := by decide +kernel
theorem dX11_flushes_69 : decode cX11_flushes 69 = .ok (.istore 5, 2) := by decide +kernel
theorem dX11_flushes_71 : decode cX11_flushes 71 = .ok (.iload 5, 2) := by decide +kernel
theorem dX11_flushes_73 : decode cX11_flushes 73 = .ok (.aload_n 0, 1) := by decide +kernel
theorem dX11_flushes_74 : decode cX11_flushes 74 = .ok (.iload_n 2, 1) := by decide +kernel
theorem dX11_flushes_75 : decode cX11_flushes 75 = .ok (.invokevirtual 271, 3) := by decide +kernel
theorem dX11_flushes_78 : decode cX11_flushes 78 = .ok (.if_icmp .ge 63, 3) := by decide +kernel
theorem dX11_flushes_81 : decode cX11_flushes 81 = .ok (.aload_n 0, 1) := by decide +kernel
theorem dX11_flushes_82 : decode cX11_flushes 82 = .ok (.iload_n 2, 1) := by decide +kernel
theorem dX11_flushes_83 : decode cX11_flushes 83 = .ok (.invokevirtual 262, 3) := by decide +kernel
theorem dX11_flushes_86 : decode cX11_flushes 86 = .ok (.istore 6, 2) := by decide +kernel
theorem dX11_flushes_88 : decode cX11_flushes 88 = .ok (.iload 6, 2) := by decide +kernel
theorem dX11_flushes_90 : decode cX11_flushes 90 = .ok (.aload_n 0, 1) := by decide +kernel
theorem dX11_flushes_91 : decode cX11_flushes 91 = .ok (.iload_n 2, 1) := by decide +kernel
theorem dX11_flushes_92 : decode cX11_flushes 92 = .ok (.invokevirtual 268, 3) := by decide +kernel
theorem dX11_flushes_95 : decode cX11_flushes 95 = .ok (.if_icmp .ge 40, 3) := by decide +kernel
theorem dX11_flushes_98 : decode cX11_flushes 98 = .ok (.iconst 0, 1) := by decide +kernel
theorem dX11_flushes_99 : decode cX11_flushes 99 = .ok (.istore 7, 2) := by decide +kernel
theorem dX11_flushes_101 : decode cX11_flushes 101 = .ok (.iload 7, 2) := by decide +kernel
theorem dX11_flushes_103 : decode cX11_flushes 103 = .ok (.aload_n 0, 1) := by decide +kernel
theorem dX11_flushes_104 : decode cX11_flushes 104 = .ok (.getfield 20, 3) := by decide +kernel
theorem dX11_flushes_107 : decode cX11_flushes 107 = .ok (.iconst 3, 1) := by decide +kernel
theorem dX11_flushes_108 : decode cX11_flushes 108 = .ok (.iaload, 1) := by decide +kernel
theorem dX11_flushes_109 : decode cX11_flushes 109 = .ok (.if_icmp .ge 20, 3) := by decide +kernel
theorem dX11_flushes_112 : decode cX11_flushes 112 = .ok (.aload_n 0, 1) := by decide +kernel
theorem dX11_flushes_113 : decode cX11_flushes 113 = .ok (.aload_n 1, 1) := by decide +kernel
theorem dX11_flushes_114 : decode cX11_flushes 114 = .ok (.iload 6, 2) := by decide +kernel
theorem dX11_flushes_116 : decode cX11_flushes 116 = .ok (.iload 5, 2) := by decide +kernel
theorem dX11_flushes_118 : decode cX11_flushes 118 = .ok (.iload 7, 2) := by decide +kernel
theorem dX11_flushes_120 : decode cX11_flushes 120 = .ok (.invokevirtual 310, 3) := by decide +kernel
theorem dX11_flushes_123 : decode cX11_flushes 123 = .ok (.iinc 7 1, 3) := by decide +kernel
theorem dX11_flushes_126 : decode cX11_flushes 126 = .ok (.goto (-25), 3) := by decide +kernel
theorem dX11_flushes_129 : decode cX11_flushes 129 = .ok (.iinc 6 1, 3) := by decide +kernel
theorem dX11_flushes_132 : decode cX11_flushes 132 = .ok (.goto (-44), 3) := by decide +kernel
theorem dX11_flushes_135 : decode cX11_flushes 135 = .ok (.iinc 5 1, 3) := by decide +kernel
theorem dX11_flushes_138 : decode cX11_flushes 138 = .ok (.goto (-67), 3) := by decide +kernel
theorem dX11_flushes_141 : decode cX11_flushes 141 = .ok (.return_, 1) := by decide +kernel
theorem dX11_flushesAll_0 : decode cX11_flushesAll 0 = .ok (.iconst 0, 1) := by decide +kernel
theorem dX11_flushesAll_1 : decode cX11_flushesAll 1 = .ok (.istore_n 2, 1) := by decide +kernel
theorem dX11_flushesAll_2 : decode cX11_flushesAll 2 = .ok (.iload_n 2, 1) := by decide +kernel
theorem dX11_flushesAll_3 : decode cX11_flushesAll 3 = .ok (.aload_n 0, 1) := by decide +kernel
theorem dX11_flushesAll_4 : decode cX11_flushesAll 4 = .ok (.invokevirtual 282, 3) := by decide +kernel
theorem dX11_flushesAll_7 : decode cX11_flushesAll 7 = .ok (.if_icmp .ge 15, 3) := by decide +kernel
theorem dX11_flushesAll_10 : decode cX11_flushesAll 10 = .ok (.aload_n 0, 1) := by decide +kernel
theorem dX11_flushesAll_11 : decode cX11_flushesAll 11 = .ok (.aload_n 1, 1) := by decide +kernel
theorem dX11_flushesAll_12 : decode cX11_flushesAll 12 = .ok (.iload_n 2, 1) := by decide +kernel
theorem dX11_flushesAll_13 : decode cX11_flushesAll 13 = .ok (.invokevirtual 328, 3) := by decide +kernel
theorem dX11_flushesAll_16 : decode cX11_flushesAll 16 = .ok (.iinc 2 1, 3) := by decide +kernel
theorem dX11_flushesAll_19 : decode cX11_flushesAll 19 = .ok (.goto (-17), 3) := by decide +kernel
theorem dX11_flushesAll_22 : decode cX11_flushesAll 22 = .ok (.return_, 1) := by decide +kernel
theorem dX11_draws_0 : decode cX11_draws 0 = .ok (.aload_n 0, 1) := by decide +kernel
theorem dX11_draws_1 : decode cX11_draws 1 = .ok (.aload_n 1, 1) := by decide +kernel
theorem dX11_draws_2 : decode cX11_draws 2 = .ok (.iload_n 2, 1) := by decide +kernel
theorem dX11_draws_3 : decode cX11_draws 3 = .ok (.invokevirtual 331, 3) := by decide +kernel
theorem dX11_draws_6 : decode cX11_draws 6 = .ok (.istore_n 3, 1) := by decide +kernel
theorem dX11_draws_7 : decode cX11_draws 7 = .ok (.iconst 0, 1) := by decide +kernel
theorem dX11_draws_8 : decode cX11_draws 8 = .ok (.istore 4, 2) := by decide +kernel
theorem dX11_draws_10 : decode cX11_draws 10 = .ok (.iconst 0, 1) := by decide +kernel
theorem dX11_draws_11 : decode cX11_draws 11 = .ok (.istore 5, 2) := by decide +kernel
theorem dX11_draws_13 : decode cX11_draws 13 = .ok (.iload 5, 2) := by decide +kernel
theorem dX11_draws_15 : decode cX11_draws 15 = .ok (.aload_n 0, 1) := by decide +kernel
theorem dX11_draws_16 : decode cX11_draws 16 = .ok (.invokevirtual 282, 3) := by decide +kernel
theorem dX11_draws_19 : decode cX11_draws 19 = .ok (.if_icmp .ge 72, 3) := by decide +kernel
theorem dX11_draws_22 : decode cX11_draws 22 = .ok (.iload_n 3, 1) := by decide +kernel
theorem dX11_draws_23 : decode cX11_draws 23 = .ok (.iload 5, 2) := by decide +kernel
theorem dX11_draws_25 : decode cX11_draws 25 = .ok (.invokestatic 180, 3) := by decide +kernel
theorem dX11_draws_28 : decode cX11_draws 28 = .ok (.ifCond .ne 6, 3) := by decide +kernel
theorem dX11_draws_31 : decode cX11_draws 31 = .ok (.goto 54, 3) := by decide +kernel
theorem dX11_draws_34 : decode cX11_draws 34 = .ok (.sipush 768, 3) := by decide +kernel
theorem dX11_draws_37 : decode cX11_draws 37 = .ok (.bipush 11, 2) := by decide +kernel
theorem dX11_draws_39 : decode cX11_draws 39 = .ok (.iload 5, 2) := by decide +kernel
theorem dX11_draws_41 : decode cX11_draws 41 = .ok (.imul, 1) := by decide +kernel
theorem dX11_draws_42 : decode cX11_draws 42 = .ok (.iadd, 1) := by decide +kernel
theorem dX11_draws_43 : decode cX11_draws 43 = .ok (.istore 6, 2) := by decide +kernel
theorem dX11_draws_45 : decode cX11_draws 45 = .ok (.aload_n 1, 1) := by decide +kernel
theorem dX11_draws_46 : decode cX11_draws 46 = .ok (.iload 6, 2) := by decide +kernel
theorem dX11_draws_48 : decode cX11_draws 48 = .ok (.iaload, 1) := by decide +kernel
theorem dX11_draws_49 : decode cX11_draws 49 = .ok (.aload_n 1, 1) := by decide +kernel
theorem dX11_draws_50 : decode cX11_draws 50 = .ok (.sipush 1060, 3) := by decide +kernel
theorem dX11_draws_53 : decode cX11_draws 53 = .ok (.iaload, 1) := by decide +kernel
theorem dX11_draws_54 : decode cX11_draws 54 = .ok (.if_icmp .lt 10, 3) := by decide +kernel
theorem dX11_draws_57 : decode cX11_draws 57 = .ok (.aload_n 0, 1) := by decide +kernel
theorem dX11_draws_58 : decode cX11_draws 58 = .ok (.aload_n 1, 1) := by decide +kernel
theorem dX11_draws_59 : decode cX11_draws 59 = .ok (.iload 5, 2) := by decide +kernel
theorem dX11_draws_61 : decode cX11_draws 61 = .ok (.invokevirtual 328, 3) := by decide +kernel
theorem dX11_draws_64 : decode cX11_draws 64 = .ok (.aload_n 1, 1) := by decide +kernel
theorem dX11_draws_65 : decode cX11_draws 65 = .ok (.iload 6, 2) := by decide +kernel
theorem dX11_draws_67 : decode cX11_draws 67 = .ok (.dup2, 1) := by decide +kernel
theorem dX11_draws_68 : decode cX11_draws 68 = .ok (.iaload, 1) := by decide +kernel
theorem dX11_draws_69 : decode cX11_draws 69 = .ok (.iconst 1, 1) := by decide +kernel
theorem dX11_draws_70 : decode cX11_draws 70 = .ok (.iadd, 1) := by decide +kernel
theorem dX11_draws_71 : decode cX11_draws 71 = .ok (.iastore, 1) := by decide +kernel
theorem dX11_draws_72 : decode cX11_draws 72 = .ok (.aload_n 1, 1) := by decide +kernel
theorem dX11_draws_73 : decode cX11_draws 73 = .ok (.iload 6, 2) := by decide +kernel
theorem dX11_draws_75 : decode cX11_draws 75 = .ok (.aload_n 1, 1) := by decide +kernel
theorem dX11_draws_76 : decode cX11_draws 76 = .ok (.iload 6, 2) := by decide +kernel
theorem dX11_draws_78 : decode cX11_draws 78 = .ok (.iaload, 1) := by decide +kernel
theorem dX11_draws_79 : decode cX11_draws 79 = .ok (.iadd, 1) := by decide +kernel
theorem dX11_draws_80 : decode cX11_draws 80 = .ok (.iload_n 2, 1) := by decide +kernel
theorem dX11_draws_81 : decode cX11_draws 81 = .ok (.iastore, 1) := by decide +kernel
theorem dX11_draws_82 : decode cX11_draws 82 = .ok (.iinc 4 1, 3) := by decide +kernel
theorem dX11_draws_85 : decode cX11_draws 85 = .ok (.iinc 5 1, 3) := by decide +kernel
theorem dX11_draws_88 : decode cX11_draws 88 = .ok (.goto (-75), 3) := by decide +kernel
theorem dX11_draws_91 : decode cX11_draws 91 = .ok (.iload 4, 2) := by decide +kernel
theorem dX11_draws_93 : decode cX11_draws 93 = .ok (.ireturn, 1) := by decide +kernel
theorem dX11_size_0 : decode cX11_size 0 = .ok (.iconst 0, 1) := by decide +kernel
theorem dX11_size_1 : decode cX11_size 1 = .ok (.istore_n 1, 1) := by decide +kernel
theorem dX11_size_2 : decode cX11_size 2 = .ok (.iconst 0, 1) := by decide +kernel
theorem dX11_size_3 : decode cX11_size 3 = .ok (.istore_n 2, 1) := by decide +kernel
theorem dX11_size_4 : decode cX11_size 4 = .ok (.iload_n 2, 1) := by decide +kernel
theorem dX11_size_5 : decode cX11_size 5 = .ok (.bipush 32, 2) := by decide +kernel
theorem dX11_size_7 : decode cX11_size 7 = .ok (.if_icmp .ge 17, 3) := by decide +kernel
theorem dX11_size_10 : decode cX11_size 10 = .ok (.iload_n 1, 1) := by decide +kernel
theorem dX11_size_11 : decode cX11_size 11 = .ok (.iload_n 0, 1) := by decide +kernel
theorem dX11_size_12 : decode cX11_size 12 = .ok (.iload_n 2, 1) := by decide +kernel
theorem dX11_size_13 : decode cX11_size 13 = .ok (.ishr, 1) := by decide +kernel
theorem dX11_size_14 : decode cX11_size 14 = .ok (.iconst 1, 1) := by decide +kernel
theorem dX11_size_15 : decode cX11_size 15 = .ok (.iand, 1) := by decide +kernel
theorem dX11_size_16 : decode cX11_size 16 = .ok (.iadd, 1) := by decide +kernel
theorem dX11_size_17 : decode cX11_size 17 = .ok (.istore_n 1, 1) := by decide +kernel
theorem dX11_size_18 : decode cX11_size 18 = .ok (.iinc 2 1, 3) := by decide +kernel
theorem dX11_size_21 : decode cX11_size 21 = .ok (.goto (-17), 3) := by decide +kernel
theorem dX11_size_24 : decode cX11_size 24 = .ok (.iload_n 1, 1) := by decide +kernel
theorem dX11_size_25 : decode cX11_size 25 = .ok (.ireturn, 1) := by decide +kernel
theorem dX11_lit_0 : decode cX11_lit 0 = .ok (.aload_n 0, 1) := by decide +kernel
theorem dX11_lit_1 : decode cX11_lit 1 = .ok (.sipush 1034, 3) := by decide +kernel
theorem dX11_lit_4 : decode cX11_lit 4 = .ok (.iconst 2, 1) := by decide +kernel
theorem dX11_lit_5 : decode cX11_lit 5 = .ok (.iload_n 1, 1) := by decide +kernel
theorem dX11_lit_6 : decode cX11_lit 6 = .ok (.imul, 1) := by decide +kernel
theorem dX11_lit_7 : decode cX11_lit 7 = .ok (.iadd, 1) := by decide +kernel
theorem dX11_lit_8 : decode cX11_lit 8 = .ok (.iaload, 1) := by decide +kernel
theorem dX11_lit_9 : decode cX11_lit 9 = .ok (.invokestatic 335, 3) := by decide +kernel
theorem dX11_lit_12 : decode cX11_lit 12 = .ok (.aload_n 0, 1) := by decide +kernel
theorem dX11_lit_13 : decode cX11_lit 13 = .ok (.sipush 1034, 3) := by decide +kernel
theorem dX11_lit_16 : decode cX11_lit 16 = .ok (.iconst 2, 1) := by decide +kernel
theorem dX11_lit_17 : decode cX11_lit 17 = .ok (.iload_n 1, 1) := by decide +kernel
theorem dX11_lit_18 : decode cX11_lit 18 = .ok (.imul, 1) := by decide +kernel
theorem dX11_lit_19 : decode cX11_lit 19 = .ok (.iadd, 1) := by decide +kernel
theorem dX11_lit_20 : decode cX11_lit 20 = .ok (.iconst 1, 1) := by decide +kernel
theorem dX11_lit_21 : decode cX11_lit 21 = .ok (.iadd, 1) := by decide +kernel
theorem dX11_lit_22 : decode cX11_lit 22 = .ok (.iaload, 1) := by decide +kernel
theorem dX11_lit_23 : decode cX11_lit 23 = .ok (.invokestatic 335, 3) := by decide +kernel
theorem dX11_lit_26 : decode cX11_lit 26 = .ok (.iadd, 1) := by decide +kernel
theorem dX11_lit_27 : decode cX11_lit 27 = .ok (.ireturn, 1) := by decide +kernel
theorem dX11_pairs_0 : decode cX11_pairs 0 = .ok (.iconst 0, 1) := by decide +kernel
theorem dX11_pairs_1 : decode cX11_pairs 1 = .ok (.istore_n 2, 1) := by decide +kernel
theorem dX11_pairs_2 : decode cX11_pairs 2 = .ok (.iconst 0, 1) := by decide +kernel
theorem dX11_pairs_3 : decode cX11_pairs 3 = .ok (.istore_n 3, 1) := by decide +kernel
theorem dX11_pairs_4 : decode cX11_pairs 4 = .ok (.iload_n 3, 1) := by decide +kernel
theorem dX11_pairs_5 : decode cX11_pairs 5 = .ok (.aload_n 0, 1) := by decide +kernel
theorem dX11_pairs_6 : decode cX11_pairs 6 = .ok (.getfield 214, 3) := by decide +kernel
theorem dX11_pairs_9 : decode cX11_pairs 9 = .ok (.if_icmp .ge 17, 3) := by decide +kernel
theorem dX11_pairs_12 : decode cX11_pairs 12 = .ok (.iload_n 2, 1) := by decide +kernel
theorem dX11_pairs_13 : decode cX11_pairs 13 = .ok (.aload_n 1, 1) := by decide +kernel
theorem dX11_pairs_14 : decode cX11_pairs 14 = .ok (.iload_n 3, 1) := by decide +kernel
theorem dX11_pairs_15 : decode cX11_pairs 15 = .ok (.invokestatic 338, 3) := by decide +kernel
theorem dX11_pairs_18 : decode cX11_pairs 18 = .ok (.iadd, 1) := by decide +kernel
theorem dX11_pairs_19 : decode cX11_pairs 19 = .ok (.istore_n 2, 1) := by decide +kernel
theorem dX11_pairs_20 : decode cX11_pairs 20 = .ok (.iinc 3 1, 3) := by decide +kernel
theorem dX11_pairs_23 : decode cX11_pairs 23 = .ok (.goto (-19), 3) := by decide +kernel
theorem dX11_pairs_26 : decode cX11_pairs 26 = .ok (.iload_n 2, 1) := by decide +kernel
theorem dX11_pairs_27 : decode cX11_pairs 27 = .ok (.ireturn, 1) := by decide +kernel
theorem dX11_resolved_0 : decode cX11_resolved 0 = .ok (.iconst 0, 1) := by decide +kernel
theorem dX11_resolved_1 : decode cX11_resolved 1 = .ok (.istore 4, 2) := by decide +kernel
theorem dX11_resolved_3 : decode cX11_resolved 3 = .ok (.iconst 0, 1) := by decide +kernel
theorem dX11_resolved_4 : decode cX11_resolved 4 = .ok (.istore 5, 2) := by decide +kernel
theorem dX11_resolved_6 : decode cX11_resolved 6 = .ok (.iload 5, 2) := by decide +kernel
theorem dX11_resolved_8 : decode cX11_resolved 8 = .ok (.aload_n 0, 1) := by decide +kernel
theorem dX11_resolved_9 : decode cX11_resolved 9 = .ok (.getfield 20, 3) := by decide +kernel
theorem dX11_resolved_12 : decode cX11_resolved 12 = .ok (.iconst 3, 1) := by decide +kernel
theorem dX11_resolved_13 : decode cX11_resolved 13 = .ok (.iaload, 1) := by decide +kernel
theorem dX11_resolved_14 : decode cX11_resolved 14 = .ok (.if_icmp .ge 27, 3) := by decide +kernel
theorem dX11_resolved_17 : decode cX11_resolved 17 = .ok (.iload 4, 2) := by decide +kernel
theorem dX11_resolved_19 : decode cX11_resolved 19 = .ok (.aload_n 1, 1) := by decide +kernel
theorem dX11_resolved_20 : decode cX11_resolved 20 = .ok (.sipush 256, 3) := by decide +kernel
theorem dX11_resolved_23 : decode cX11_resolved 23 = .ok (.iload_n 2, 1) := by decide +kernel
theorem dX11_resolved_24 : decode cX11_resolved 24 = .ok (.iload_n 3, 1) := by decide +kernel
theorem dX11_resolved_25 : decode cX11_resolved 25 = .ok (.iload 5, 2) := by decide +kernel
theorem dX11_resolved_27 : decode cX11_resolved 27 = .ok (.invokestatic 288, 3) := by decide +kernel
theorem dX11_resolved_30 : decode cX11_resolved 30 = .ok (.iadd, 1) := by decide +kernel
theorem dX11_resolved_31 : decode cX11_resolved 31 = .ok (.iaload, 1) := by decide +kernel
theorem dX11_resolved_32 : decode cX11_resolved 32 = .ok (.iadd, 1) := by decide +kernel
theorem dX11_resolved_33 : decode cX11_resolved 33 = .ok (.istore 4, 2) := by decide +kernel
theorem dX11_resolved_35 : decode cX11_resolved 35 = .ok (.iinc 5 1, 3) := by decide +kernel
theorem dX11_resolved_38 : decode cX11_resolved 38 = .ok (.goto (-32), 3) := by decide +kernel
theorem dX11_resolved_41 : decode cX11_resolved 41 = .ok (.iload 4, 2) := by decide +kernel
theorem dX11_resolved_43 : decode cX11_resolved 43 = .ok (.aload_n 0, 1) := by decide +kernel
theorem dX11_resolved_44 : decode cX11_resolved 44 = .ok (.getfield 20, 3) := by decide +kernel
theorem dX11_resolved_47 : decode cX11_resolved 47 = .ok (.iconst 3, 1) := by decide +kernel
theorem dX11_resolved_48 : decode cX11_resolved 48 = .ok (.iaload, 1) := by decide +kernel
theorem dX11_resolved_49 : decode cX11_resolved 49 = .ok (.idiv, 1) := by decide +kernel
theorem dX11_resolved_50 : decode cX11_resolved 50 = .ok (.ireturn, 1) := by decide +kernel
theorem dX11_remember_0 : decode cX11_remember 0 = .ok (.aload_n 0, 1) := by decide +kernel
theorem dX11_remember_1 : decode cX11_remember 1 = .ok (.getfield 221, 3) := by decide +kernel
theorem dX11_remember_4 : decode cX11_remember 4 = .ok (.bipush 40, 2) := by decide +kernel
theorem dX11_remember_6 : decode cX11_remember 6 = .ok (.if_icmp .ne 19, 3) := by decide +kernel
theorem dX11_remember_9 : decode cX11_remember 9 = .ok (.aload_n 0, 1) := by decide +kernel
theorem dX11_remember_10 : decode cX11_remember 10 = .ok (.aload_n 0, 1) := by decide +kernel
theorem dX11_remember_11 : decode cX11_remember 11 = .ok (.getfield 341, 3) := by decide +kernel
theorem dX11_remember_14 : decode cX11_remember 14 = .ok (.iconst 1, 1) := by decide +kernel
theorem dX11_remember_15 : decode cX11_remember 15 = .ok (.iadd, 1) := by decide +kernel
theorem dX11_remember_16 : decode cX11_remember 16 = .ok (.bipush 40, 2) := by decide +kernel
theorem dX11_remember_18 : decode cX11_remember 18 = .ok (.irem, 1) := by decide +kernel
theorem dX11_remember_19 : decode cX11_remember 19 = .ok (.putfield 341, 3) := by decide +kernel
theorem dX11_remember_22 : decode cX11_remember 22 = .ok (.goto 13, 3) := by decide +kernel
theorem dX11_remember_25 : decode cX11_remember 25 = .ok (.aload_n 0, 1) := by decide +kernel
theorem dX11_remember_26 : decode cX11_remember 26 = .ok (.dup, 1) := by decide +kernel
theorem dX11_remember_27 : decode cX11_remember 27 = .ok (.getfield 221, 3) := by decide +kernel
theorem dX11_remember_30 : decode cX11_remember 30 = .ok (.iconst 1, 1) := by decide +kernel
theorem dX11_remember_31 : decode cX11_remember 31 = .ok (.iadd, 1) := by decide +kernel
theorem dX11_remember_32 : decode cX11_remember 32 = .ok (.putfield 221, 3) := by decide +kernel
theorem dX11_remember_35 : decode cX11_remember 35 = .ok (.aload_n 0, 1) := by decide +kernel
theorem dX11_remember_36 : decode cX11_remember 36 = .ok (.getfield 38, 3) := by decide +kernel
theorem dX11_remember_39 : decode cX11_remember 39 = .ok (.iconst 0, 1) := by decide +kernel
theorem dX11_remember_40 : decode cX11_remember 40 = .ok (.aload_n 0, 1) := by decide +kernel
theorem dX11_remember_41 : decode cX11_remember 41 = .ok (.getfield 48, 3) := by decide +kernel
theorem dX11_remember_44 : decode cX11_remember 44 = .ok (.sipush 1242, 3) := by decide +kernel
theorem dX11_remember_47 : decode cX11_remember 47 = .ok (.aload_n 0, 1) := by decide +kernel
theorem dX11_remember_48 : decode cX11_remember 48 = .ok (.getfield 341, 3) := by decide +kernel
theorem dX11_remember_51 : decode cX11_remember 51 = .ok (.aload_n 0, 1) := by decide +kernel
theorem dX11_remember_52 : decode cX11_remember 52 = .ok (.getfield 221, 3) := by decide +kernel
theorem dX11_remember_55 : decode cX11_remember 55 = .ok (.iadd, 1) := by decide +kernel
theorem dX11_remember_56 : decode cX11_remember 56 = .ok (.iconst 1, 1) := by decide +kernel
theorem dX11_remember_57 : decode cX11_remember 57 = .ok (.isub, 1) := by decide +kernel
theorem dX11_remember_58 : decode cX11_remember 58 = .ok (.bipush 40, 2) := by decide +kernel
theorem dX11_remember_60 : decode cX11_remember 60 = .ok (.irem, 1) := by decide +kernel
theorem dX11_remember_61 : decode cX11_remember 61 = .ok (.imul, 1) := by decide +kernel
theorem dX11_remember_62 : decode cX11_remember 62 = .ok (.invokestatic 344, 3) := by decide +kernel
theorem dX11_remember_65 : decode cX11_remember 65 = .ok (.return_, 1) := by decide +kernel
theorem dX11_tells_0 : decode cX11_tells 0 = .ok (.aload_n 0, 1) := by decide +kernel
theorem dX11_tells_1 : decode cX11_tells 1 = .ok (.getfield 38, 3) := by decide +kernel
theorem dX11_tells_4 : decode cX11_tells 4 = .ok (.sipush 1061, 3) := by decide +kernel
theorem dX11_tells_7 : decode cX11_tells 7 = .ok (.iaload, 1) := by decide +kernel
theorem dX11_tells_8 : decode cX11_tells 8 = .ok (.bipush 60, 2) := by decide +kernel
theorem dX11_tells_10 : decode cX11_tells 10 = .ok (.if_icmp .ne 52, 3) := by decide +kernel
theorem dX11_tells_13 : decode cX11_tells 13 = .ok (.iconst 1, 1) := by decide +kernel
theorem dX11_tells_14 : decode cX11_tells 14 = .ok (.istore_n 3, 1) := by decide +kernel
theorem dX11_tells_15 : decode cX11_tells 15 = .ok (.iload_n 3, 1) := by decide +kernel
theorem dX11_tells_16 : decode cX11_tells 16 = .ok (.sipush 177, 3) := by decide +kernel
theorem dX11_tells_19 : decode cX11_tells 19 = .ok (.if_icmp .gt 31, 3) := by decide +kernel
theorem dX11_tells_22 : decode cX11_tells 22 = .ok (.aload_n 0, 1) := by decide +kernel
theorem dX11_tells_23 : decode cX11_tells 23 = .ok (.getfield 38, 3) := by decide +kernel
theorem dX11_tells_26 : decode cX11_tells 26 = .ok (.sipush 1061, 3) := by decide +kernel
theorem dX11_tells_29 : decode cX11_tells 29 = .ok (.iload_n 3, 1) := by decide +kernel
theorem dX11_tells_30 : decode cX11_tells 30 = .ok (.iadd, 1) := by decide +kernel
theorem dX11_tells_31 : decode cX11_tells 31 = .ok (.aload_n 0, 1) := by decide +kernel
theorem dX11_tells_32 : decode cX11_tells 32 = .ok (.getfield 38, 3) := by decide +kernel
theorem dX11_tells_35 : decode cX11_tells 35 = .ok (.sipush 1061, 3) := by decide +kernel
theorem dX11_tells_38 : decode cX11_tells 38 = .ok (.iload_n 3, 1) := by decide +kernel
theorem dX11_tells_39 : decode cX11_tells 39 = .ok (.iadd, 1) := by decide +kernel
theorem dX11_tells_40 : decode cX11_tells 40 = .ok (.iconst 3, 1) := by decide +kernel
theorem dX11_tells_41 : decode cX11_tells 41 = .ok (.iadd, 1) := by decide +kernel
theorem dX11_tells_42 : decode cX11_tells 42 = .ok (.iaload, 1) := by decide +kernel
theorem dX11_tells_43 : decode cX11_tells 43 = .ok (.iastore, 1) := by decide +kernel
theorem dX11_tells_44 : decode cX11_tells 44 = .ok (.iinc 3 1, 3) := by decide +kernel
theorem dX11_tells_47 : decode cX11_tells 47 = .ok (.goto (-32), 3) := by decide +kernel
theorem dX11_tells_50 : decode cX11_tells 50 = .ok (.aload_n 0, 1) := by decide +kernel
theorem dX11_tells_51 : decode cX11_tells 51 = .ok (.getfield 38, 3) := by decide +kernel
theorem dX11_tells_54 : decode cX11_tells 54 = .ok (.sipush 1061, 3) := by decide +kernel
theorem dX11_tells_57 : decode cX11_tells 57 = .ok (.dup2, 1) := by decide +kernel
theorem dX11_tells_58 : decode cX11_tells 58 = .ok (.iaload, 1) := by decide +kernel
theorem dX11_tells_59 : decode cX11_tells 59 = .ok (.iconst 1, 1) := by decide +kernel
theorem dX11_tells_60 : decode cX11_tells 60 = .ok (.isub, 1) := by decide +kernel
theorem dX11_tells_61 : decode cX11_tells 61 = .ok (.iastore, 1) := by decide +kernel
theorem dX11_tells_62 : decode cX11_tells 62 = .ok (.sipush 1062, 3) := by decide +kernel
theorem dX11_tells_65 : decode cX11_tells 65 = .ok (.iconst 3, 1) := by decide +kernel
theorem dX11_tells_66 : decode cX11_tells 66 = .ok (.aload_n 0, 1) := by decide +kernel
theorem dX11_tells_67 : decode cX11_tells 67 = .ok (.getfield 38, 3) := by decide +kernel
theorem dX11_tells_70 : decode cX11_tells 70 = .ok (.sipush 1061, 3) := by decide +kernel
theorem dX11_tells_73 : decode cX11_tells 73 = .ok (.iaload, 1) := by decide +kernel
theorem dX11_tells_74 : decode cX11_tells 74 = .ok (.imul, 1) := by decide +kernel
theorem dX11_tells_75 : decode cX11_tells 75 = .ok (.iadd, 1) := by decide +kernel
theorem dX11_tells_76 : decode cX11_tells 76 = .ok (.istore_n 3, 1) := by decide +kernel
theorem dX11_tells_77 : decode cX11_tells 77 = .ok (.aload_n 0, 1) := by decide +kernel
theorem dX11_tells_78 : decode cX11_tells 78 = .ok (.getfield 38, 3) := by decide +kernel
theorem dX11_tells_81 : decode cX11_tells 81 = .ok (.iload_n 3, 1) := by decide +kernel
theorem dX11_tells_82 : decode cX11_tells 82 = .ok (.iload_n 1, 1) := by decide +kernel
theorem dX11_tells_83 : decode cX11_tells 83 = .ok (.iastore, 1) := by decide +kernel
theorem dX11_tells_84 : decode cX11_tells 84 = .ok (.aload_n 0, 1) := by decide +kernel
theorem dX11_tells_85 : decode cX11_tells 85 = .ok (.getfield 38, 3) := by decide +kernel
theorem dX11_tells_88 : decode cX11_tells 88 = .ok (.iload_n 3, 1) := by decide +kernel
theorem dX11_tells_89 : decode cX11_tells 89 = .ok (.iconst 1, 1) := by decide +kernel
theorem dX11_tells_90 : decode cX11_tells 90 = .ok (.iadd, 1) := by decide +kernel
theorem dX11_tells_91 : decode cX11_tells 91 = .ok (.iload_n 2, 1) := by decide +kernel
theorem dX11_tells_92 : decode cX11_tells 92 = .ok (.iastore, 1) := by decide +kernel
theorem dX11_tells_93 : decode cX11_tells 93 = .ok (.aload_n 0, 1) := by decide +kernel
theorem dX11_tells_94 : decode cX11_tells 94 = .ok (.getfield 38, 3) := by decide +kernel
theorem dX11_tells_97 : decode cX11_tells 97 = .ok (.iload_n 3, 1) := by decide +kernel
theorem dX11_tells_98 : decode cX11_tells 98 = .ok (.iconst 2, 1) := by decide +kernel
theorem dX11_tells_99 : decode cX11_tells 99 = .ok (.iadd, 1) := by decide +kernel
theorem dX11_tells_100 : decode cX11_tells 100 = .ok (.aload_n 0, 1) := by decide +kernel
theorem dX11_tells_101 : decode cX11_tells 101 = .ok (.aload_n 0, 1) := by decide +kernel
theorem dX11_tells_102 : decode cX11_tells 102 = .ok (.getfield 38, 3) := by decide +kernel
theorem dX11_tells_105 : decode cX11_tells 105 = .ok (.invokevirtual 348, 3) := by decide +kernel
theorem dX11_tells_108 : decode cX11_tells 108 = .ok (.iastore, 1) := by decide +kernel
theorem dX11_tells_109 : decode cX11_tells 109 = .ok (.aload_n 0, 1) := by decide +kernel
theorem dX11_tells_110 : decode cX11_tells 110 = .ok (.getfield 38, 3) := by decide +kernel
theorem dX11_tells_113 : decode cX11_tells 113 = .ok (.sipush 1061, 3) := by decide +kernel
theorem dX11_tells_116 : decode cX11_tells 116 = .ok (.dup2, 1) := by decide +kernel
theorem dX11_tells_117 : decode cX11_tells 117 = .ok (.iaload, 1) := by decide +kernel
theorem dX11_tells_118 : decode cX11_tells 118 = .ok (.iconst 1, 1) := by decide +kernel
theorem dX11_tells_119 : decode cX11_tells 119 = .ok (.iadd, 1) := by decide +kernel
theorem dX11_tells_120 : decode cX11_tells 120 = .ok (.iastore, 1) := by decide +kernel
theorem dX11_tells_121 : decode cX11_tells 121 = .ok (.return_, 1) := by decide +kernel
theorem dX11_isTri_0 : decode cX11_isTri 0 = .ok (.iload_n 1, 1) := by decide +kernel
theorem dX11_isTri_1 : decode cX11_isTri 1 = .ok (.ifCond .lt 15, 3) := by decide +kernel
theorem dX11_isTri_4 : decode cX11_isTri 4 = .ok (.iload_n 1, 1) := by decide +kernel
theorem dX11_isTri_5 : decode cX11_isTri 5 = .ok (.aload_n 0, 1) := by decide +kernel
theorem dX11_isTri_6 : decode cX11_isTri 6 = .ok (.getfield 214, 3) := by decide +kernel
theorem dX11_isTri_9 : decode cX11_isTri 9 = .ok (.if_icmp .ge 7, 3) := by decide +kernel
theorem dX11_isTri_12 : decode cX11_isTri 12 = .ok (.iconst 1, 1) := by decide +kernel
theorem dX11_isTri_13 : decode cX11_isTri 13 = .ok (.goto 4, 3) := by decide +kernel
theorem dX11_isTri_16 : decode cX11_isTri 16 = .ok (.iconst 0, 1) := by decide +kernel
theorem dX11_isTri_17 : decode cX11_isTri 17 = .ok (.ireturn, 1) := by decide +kernel
theorem dX11_isTile_0 : decode cX11_isTile 0 = .ok (.aload_n 0, 1) := by decide +kernel
theorem dX11_isTile_1 : decode cX11_isTile 1 = .ok (.getfield 214, 3) := by decide +kernel
theorem dX11_isTile_4 : decode cX11_isTile 4 = .ok (.ifCond .le 19, 3) := by decide +kernel
theorem dX11_isTile_7 : decode cX11_isTile 7 = .ok (.iload_n 1, 1) := by decide +kernel
theorem dX11_isTile_8 : decode cX11_isTile 8 = .ok (.ifCond .lt 15, 3) := by decide +kernel
theorem dX11_isTile_11 : decode cX11_isTile 11 = .ok (.iload_n 1, 1) := by decide +kernel
theorem dX11_isTile_12 : decode cX11_isTile 12 = .ok (.aload_n 0, 1) := by decide +kernel
theorem dX11_isTile_13 : decode cX11_isTile 13 = .ok (.invokevirtual 282, 3) := by decide +kernel
theorem dX11_isTile_16 : decode cX11_isTile 16 = .ok (.if_icmp .ge 7, 3) := by decide +kernel
theorem dX11_isTile_19 : decode cX11_isTile 19 = .ok (.iconst 1, 1) := by decide +kernel
theorem dX11_isTile_20 : decode cX11_isTile 20 = .ok (.goto 4, 3) := by decide +kernel
theorem dX11_isTile_23 : decode cX11_isTile 23 = .ok (.iconst 0, 1) := by decide +kernel
theorem dX11_isTile_24 : decode cX11_isTile 24 = .ok (.ireturn, 1) := by decide +kernel
theorem dX11_isBinned_0 : decode cX11_isBinned 0 = .ok (.aload_n 0, 1) := by decide +kernel
theorem dX11_isBinned_1 : decode cX11_isBinned 1 = .ok (.aload_n 1, 1) := by decide +kernel
theorem dX11_isBinned_2 : decode cX11_isBinned 2 = .ok (.iload_n 2, 1) := by decide +kernel
theorem dX11_isBinned_3 : decode cX11_isBinned 3 = .ok (.invokevirtual 352, 3) := by decide +kernel
theorem dX11_isBinned_6 : decode cX11_isBinned 6 = .ok (.ifCond .le 7, 3) := by decide +kernel
theorem dX11_isBinned_9 : decode cX11_isBinned 9 = .ok (.iconst 1, 1) := by decide +kernel
theorem dX11_isBinned_10 : decode cX11_isBinned 10 = .ok (.goto 4, 3) := by decide +kernel
theorem dX11_isBinned_13 : decode cX11_isBinned 13 = .ok (.iconst 0, 1) := by decide +kernel
theorem dX11_isBinned_14 : decode cX11_isBinned 14 = .ok (.ireturn, 1) := by decide +kernel
theorem dX11_timesIn_0 : decode cX11_timesIn 0 = .ok (.iconst 0, 1) := by decide +kernel
theorem dX11_timesIn_1 : decode cX11_timesIn 1 = .ok (.istore_n 3, 1) := by decide +kernel
theorem dX11_timesIn_2 : decode cX11_timesIn 2 = .ok (.iconst 0, 1) := by decide +kernel
theorem dX11_timesIn_3 : decode cX11_timesIn 3 = .ok (.istore 4, 2) := by decide +kernel
theorem dX11_timesIn_5 : decode cX11_timesIn 5 = .ok (.iload 4, 2) := by decide +kernel
theorem dX11_timesIn_7 : decode cX11_timesIn 7 = .ok (.aload_n 0, 1) := by decide +kernel
theorem dX11_timesIn_8 : decode cX11_timesIn 8 = .ok (.invokevirtual 282, 3) := by decide +kernel
theorem dX11_timesIn_11 : decode cX11_timesIn 11 = .ok (.if_icmp .ge 60, 3) := by decide +kernel
theorem dX11_timesIn_14 : decode cX11_timesIn 14 = .ok (.iconst 1, 1) := by decide +kernel
theorem dX11_timesIn_15 : decode cX11_timesIn 15 = .ok (.istore 5, 2) := by decide +kernel
theorem dX11_timesIn_17 : decode cX11_timesIn 17 = .ok (.iload 5, 2) := by decide +kernel
theorem dX11_timesIn_19 : decode cX11_timesIn 19 = .ok (.aload_n 1, 1) := by decide +kernel
theorem dX11_timesIn_20 : decode cX11_timesIn 20 = .ok (.sipush 768, 3) := by decide +kernel
theorem dX11_timesIn_23 : decode cX11_timesIn 23 = .ok (.bipush 11, 2) := by decide +kernel
theorem dX11_timesIn_25 : decode cX11_timesIn 25 = .ok (.iload 4, 2) := by decide +kernel
theorem dX11_timesIn_27 : decode cX11_timesIn 27 = .ok (.imul, 1) := by decide +kernel
theorem dX11_timesIn_28 : decode cX11_timesIn 28 = .ok (.iadd, 1) := by decide +kernel
theorem dX11_timesIn_29 : decode cX11_timesIn 29 = .ok (.iaload, 1) := by decide +kernel
theorem dX11_timesIn_30 : decode cX11_timesIn 30 = .ok (.if_icmp .gt 35, 3) := by decide +kernel
theorem dX11_timesIn_33 : decode cX11_timesIn 33 = .ok (.iload_n 3, 1) := by decide +kernel
theorem dX11_timesIn_34 : decode cX11_timesIn 34 = .ok (.aload_n 1, 1) := by decide +kernel
theorem dX11_timesIn_35 : decode cX11_timesIn 35 = .ok (.sipush 768, 3) := by decide +kernel
theorem dX11_timesIn_38 : decode cX11_timesIn 38 = .ok (.bipush 11, 2) := by decide +kernel
theorem dX11_timesIn_40 : decode cX11_timesIn 40 = .ok (.iload 4, 2) := by decide +kernel
theorem dX11_timesIn_42 : decode cX11_timesIn 42 = .ok (.imul, 1) := by decide +kernel
theorem dX11_timesIn_43 : decode cX11_timesIn 43 = .ok (.iadd, 1) := by decide +kernel
theorem dX11_timesIn_44 : decode cX11_timesIn 44 = .ok (.iload 5, 2) := by decide +kernel
theorem dX11_timesIn_46 : decode cX11_timesIn 46 = .ok (.iadd, 1) := by decide +kernel
theorem dX11_timesIn_47 : decode cX11_timesIn 47 = .ok (.iaload, 1) := by decide +kernel
theorem dX11_timesIn_48 : decode cX11_timesIn 48 = .ok (.iload_n 2, 1) := by decide +kernel
theorem dX11_timesIn_49 : decode cX11_timesIn 49 = .ok (.if_icmp .ne 7, 3) := by decide +kernel
theorem dX11_timesIn_52 : decode cX11_timesIn 52 = .ok (.iconst 1, 1) := by decide +kernel
theorem dX11_timesIn_53 : decode cX11_timesIn 53 = .ok (.goto 4, 3) := by decide +kernel
theorem dX11_timesIn_56 : decode cX11_timesIn 56 = .ok (.iconst 0, 1) := by decide +kernel
theorem dX11_timesIn_57 : decode cX11_timesIn 57 = .ok (.iadd, 1) := by decide +kernel
theorem dX11_timesIn_58 : decode cX11_timesIn 58 = .ok (.istore_n 3, 1) := by decide +kernel
theorem dX11_timesIn_59 : decode cX11_timesIn 59 = .ok (.iinc 5 1, 3) := by decide +kernel
theorem dX11_timesIn_62 : decode cX11_timesIn 62 = .ok (.goto (-45), 3) := by decide +kernel
theorem dX11_timesIn_65 : decode cX11_timesIn 65 = .ok (.iinc 4 1, 3) := by decide +kernel
theorem dX11_timesIn_68 : decode cX11_timesIn 68 = .ok (.goto (-63), 3) := by decide +kernel
theorem dX11_timesIn_71 : decode cX11_timesIn 71 = .ok (.iload_n 3, 1) := by decide +kernel
theorem dX11_timesIn_72 : decode cX11_timesIn 72 = .ok (.ireturn, 1) := by decide +kernel
theorem dX11_stopsDraw_0 : decode cX11_stopsDraw 0 = .ok (.aload_n 0, 1) := by decide +kernel
theorem dX11_stopsDraw_1 : decode cX11_stopsDraw 1 = .ok (.iload_n 2, 1) := by decide +kernel
theorem dX11_stopsDraw_2 : decode cX11_stopsDraw 2 = .ok (.invokevirtual 355, 3) := by decide +kernel
theorem dX11_stopsDraw_5 : decode cX11_stopsDraw 5 = .ok (.ifCond .ne 5, 3) := by decide +kernel
theorem dX11_stopsDraw_8 : decode cX11_stopsDraw 8 = .ok (.iconst 0, 1) := by decide +kernel
theorem dX11_stopsDraw_9 : decode cX11_stopsDraw 9 = .ok (.ireturn, 1) := by decide +kernel
theorem dX11_stopsDraw_10 : decode cX11_stopsDraw 10 = .ok (.aload_n 0, 1) := by decide +kernel
theorem dX11_stopsDraw_11 : decode cX11_stopsDraw 11 = .ok (.aload_n 1, 1) := by decide +kernel
theorem dX11_stopsDraw_12 : decode cX11_stopsDraw 12 = .ok (.iload_n 2, 1) := by decide +kernel
theorem dX11_stopsDraw_13 : decode cX11_stopsDraw 13 = .ok (.invokevirtual 331, 3) := by decide +kernel
theorem dX11_stopsDraw_16 : decode cX11_stopsDraw 16 = .ok (.ifCond .ne 7, 3) := by decide +kernel
theorem dX11_stopsDraw_19 : decode cX11_stopsDraw 19 = .ok (.iconst 2, 1) := by decide +kernel
theorem dX11_stopsDraw_20 : decode cX11_stopsDraw 20 = .ok (.goto 4, 3) := by decide +kernel
theorem dX11_stopsDraw_23 : decode cX11_stopsDraw 23 = .ok (.iconst (-1), 1) := by decide +kernel
theorem dX11_stopsDraw_24 : decode cX11_stopsDraw 24 = .ok (.ireturn, 1) := by decide +kernel
theorem dX11_stopsFlush_0 : decode cX11_stopsFlush 0 = .ok (.aload_n 0, 1) := by decide +kernel
theorem dX11_stopsFlush_1 : decode cX11_stopsFlush 1 = .ok (.iload_n 2, 1) := by decide +kernel
theorem dX11_stopsFlush_2 : decode cX11_stopsFlush 2 = .ok (.invokevirtual 358, 3) := by decide +kernel
theorem dX11_stopsFlush_5 : decode cX11_stopsFlush 5 = .ok (.ifCond .ne 5, 3) := by decide +kernel
theorem dX11_stopsFlush_8 : decode cX11_stopsFlush 8 = .ok (.iconst 0, 1) := by decide +kernel
theorem dX11_stopsFlush_9 : decode cX11_stopsFlush 9 = .ok (.ireturn, 1) := by decide +kernel
theorem dX11_stopsFlush_10 : decode cX11_stopsFlush 10 = .ok (.aload_n 1, 1) := by decide +kernel
theorem dX11_stopsFlush_11 : decode cX11_stopsFlush 11 = .ok (.sipush 768, 3) := by decide +kernel
theorem dX11_stopsFlush_14 : decode cX11_stopsFlush 14 = .ok (.bipush 11, 2) := by decide +kernel
theorem dX11_stopsFlush_16 : decode cX11_stopsFlush 16 = .ok (.iload_n 2, 1) := by decide +kernel
theorem dX11_stopsFlush_17 : decode cX11_stopsFlush 17 = .ok (.imul, 1) := by decide +kernel
theorem dX11_stopsFlush_18 : decode cX11_stopsFlush 18 = .ok (.iadd, 1) := by decide +kernel
theorem dX11_stopsFlush_19 : decode cX11_stopsFlush 19 = .ok (.iaload, 1) := by decide +kernel
theorem dX11_stopsFlush_20 : decode cX11_stopsFlush 20 = .ok (.ifCond .ne 16, 3) := by decide +kernel
theorem dX11_stopsFlush_23 : decode cX11_stopsFlush 23 = .ok (.aload_n 0, 1) := by decide +kernel
theorem dX11_stopsFlush_24 : decode cX11_stopsFlush 24 = .ok (.aload_n 1, 1) := by decide +kernel
theorem dX11_stopsFlush_25 : decode cX11_stopsFlush 25 = .ok (.iload_n 2, 1) := by decide +kernel
theorem dX11_stopsFlush_26 : decode cX11_stopsFlush 26 = .ok (.invokevirtual 361, 3) := by decide +kernel
theorem dX11_stopsFlush_29 : decode cX11_stopsFlush 29 = .ok (.ifCond .ne 7, 3) := by decide +kernel
theorem dX11_stopsFlush_32 : decode cX11_stopsFlush 32 = .ok (.iconst 2, 1) := by decide +kernel
theorem dX11_stopsFlush_33 : decode cX11_stopsFlush 33 = .ok (.goto 4, 3) := by decide +kernel
theorem dX11_stopsFlush_36 : decode cX11_stopsFlush 36 = .ok (.iconst (-1), 1) := by decide +kernel
theorem dX11_stopsFlush_37 : decode cX11_stopsFlush 37 = .ok (.ireturn, 1) := by decide +kernel
theorem dX11_stopsRule_0 : decode cX11_stopsRule 0 = .ok (.aload_n 0, 1) := by decide +kernel
theorem dX11_stopsRule_1 : decode cX11_stopsRule 1 = .ok (.getfield 214, 3) := by decide +kernel
theorem dX11_stopsRule_4 : decode cX11_stopsRule 4 = .ok (.ifCond .ne 5, 3) := by decide +kernel
theorem dX11_stopsRule_7 : decode cX11_stopsRule 7 = .ok (.iconst 0, 1) := by decide +kernel
theorem dX11_stopsRule_8 : decode cX11_stopsRule 8 = .ok (.ireturn, 1) := by decide +kernel
theorem dX11_stopsRule_9 : decode cX11_stopsRule 9 = .ok (.iload_n 2, 1) := by decide +kernel
theorem dX11_stopsRule_10 : decode cX11_stopsRule 10 = .ok (.i2l, 1) := by decide +kernel
theorem dX11_stopsRule_11 : decode cX11_stopsRule 11 = .ok (.lconst 0, 1) := by decide +kernel
theorem dX11_stopsRule_12 : decode cX11_stopsRule 12 = .ok (.ldc2_w 364, 3) := by decide +kernel
theorem dX11_stopsRule_15 : decode cX11_stopsRule 15 = .ok (.invokestatic 148, 3) := by decide +kernel
theorem dX11_stopsRule_18 : decode cX11_stopsRule 18 = .ok (.ifCond .eq 43, 3) := by decide +kernel
theorem dX11_stopsRule_21 : decode cX11_stopsRule 21 = .ok (.iload_n 3, 1) := by decide +kernel
theorem dX11_stopsRule_22 : decode cX11_stopsRule 22 = .ok (.i2l, 1) := by decide +kernel
theorem dX11_stopsRule_23 : decode cX11_stopsRule 23 = .ok (.iload_n 2, 1) := by decide +kernel
theorem dX11_stopsRule_24 : decode cX11_stopsRule 24 = .ok (.iconst 3, 1) := by decide +kernel
theorem dX11_stopsRule_25 : decode cX11_stopsRule 25 = .ok (.if_icmp .ne 7, 3) := by decide +kernel
theorem dX11_stopsRule_28 : decode cX11_stopsRule 28 = .ok (.lconst 1, 1) := by decide +kernel
theorem dX11_stopsRule_29 : decode cX11_stopsRule 29 = .ok (.goto 4, 3) := by decide +kernel
theorem dX11_stopsRule_32 : decode cX11_stopsRule 32 = .ok (.lconst 0, 1) := by decide +kernel
theorem dX11_stopsRule_33 : decode cX11_stopsRule 33 = .ok (.iload_n 2, 1) := by decide +kernel
theorem dX11_stopsRule_34 : decode cX11_stopsRule 34 = .ok (.iconst 3, 1) := by decide +kernel
theorem dX11_stopsRule_35 : decode cX11_stopsRule 35 = .ok (.if_icmp .ne 9, 3) := by decide +kernel
theorem dX11_stopsRule_38 : decode cX11_stopsRule 38 = .ok (.ldc2_w 164, 3) := by decide +kernel
theorem dX11_stopsRule_41 : decode cX11_stopsRule 41 = .ok (.goto 14, 3) := by decide +kernel
theorem dX11_stopsRule_44 : decode cX11_stopsRule 44 = .ok (.iload_n 2, 1) := by decide +kernel
theorem dX11_stopsRule_45 : decode cX11_stopsRule 45 = .ok (.ifCond .ne 9, 3) := by decide +kernel
theorem dX11_stopsRule_48 : decode cX11_stopsRule 48 = .ok (.ldc2_w 160, 3) := by decide +kernel
theorem dX11_stopsRule_51 : decode cX11_stopsRule 51 = .ok (.goto 4, 3) := by decide +kernel
theorem dX11_stopsRule_54 : decode cX11_stopsRule 54 = .ok (.lconst 1, 1) := by decide +kernel
theorem dX11_stopsRule_55 : decode cX11_stopsRule 55 = .ok (.invokestatic 148, 3) := by decide +kernel
theorem dX11_stopsRule_58 : decode cX11_stopsRule 58 = .ok (.ifCond .ne 5, 3) := by decide +kernel
theorem dX11_stopsRule_61 : decode cX11_stopsRule 61 = .ok (.iconst 1, 1) := by decide +kernel
theorem dX11_stopsRule_62 : decode cX11_stopsRule 62 = .ok (.ireturn, 1) := by decide +kernel
theorem dX11_stopsRule_63 : decode cX11_stopsRule 63 = .ok (.aload_n 1, 1) := by decide +kernel
theorem dX11_stopsRule_64 : decode cX11_stopsRule 64 = .ok (.sipush 1057, 3) := by decide +kernel
theorem dX11_stopsRule_67 : decode cX11_stopsRule 67 = .ok (.iload_n 2, 1) := by decide +kernel
theorem dX11_stopsRule_68 : decode cX11_stopsRule 68 = .ok (.iadd, 1) := by decide +kernel
theorem dX11_stopsRule_69 : decode cX11_stopsRule 69 = .ok (.iaload, 1) := by decide +kernel
theorem dX11_stopsRule_70 : decode cX11_stopsRule 70 = .ok (.iload_n 3, 1) := by decide +kernel
theorem dX11_stopsRule_71 : decode cX11_stopsRule 71 = .ok (.if_icmp .ne 7, 3) := by decide +kernel
theorem dX11_stopsRule_74 : decode cX11_stopsRule 74 = .ok (.iconst 2, 1) := by decide +kernel
theorem dX11_stopsRule_75 : decode cX11_stopsRule 75 = .ok (.goto 4, 3) := by decide +kernel
theorem dX11_stopsRule_78 : decode cX11_stopsRule 78 = .ok (.iconst (-1), 1) := by decide +kernel
theorem dX11_stopsRule_79 : decode cX11_stopsRule 79 = .ok (.ireturn, 1) := by decide +kernel
theorem dX11_stopsMove_0 : decode cX11_stopsMove 0 = .ok (.aload_n 0, 1) := by decide +kernel
theorem dX11_stopsMove_1 : decode cX11_stopsMove 1 = .ok (.iload_n 2, 1) := by decide +kernel
theorem dX11_stopsMove_2 : decode cX11_stopsMove 2 = .ok (.invokevirtual 355, 3) := by decide +kernel
theorem dX11_stopsMove_5 : decode cX11_stopsMove 5 = .ok (.ifCond .ne 5, 3) := by decide +kernel
theorem dX11_stopsMove_8 : decode cX11_stopsMove 8 = .ok (.iconst 0, 1) := by decide +kernel
theorem dX11_stopsMove_9 : decode cX11_stopsMove 9 = .ok (.ireturn, 1) := by decide +kernel
theorem dX11_stopsMove_10 : decode cX11_stopsMove 10 = .ok (.iload_n 3, 1) := by decide +kernel
theorem dX11_stopsMove_11 : decode cX11_stopsMove 11 = .ok (.i2l, 1) := by decide +kernel
theorem dX11_stopsMove_12 : decode cX11_stopsMove 12 = .ok (.lconst 0, 1) := by decide +kernel
theorem dX11_stopsMove_13 : decode cX11_stopsMove 13 = .ok (.ldc2_w 160, 3) := by decide +kernel
theorem dX11_stopsMove_16 : decode cX11_stopsMove 16 = .ok (.invokestatic 148, 3) := by decide +kernel
theorem dX11_stopsMove_19 : decode cX11_stopsMove 19 = .ok (.ifCond .eq 33, 3) := by decide +kernel
theorem dX11_stopsMove_22 : decode cX11_stopsMove 22 = .ok (.iload 4, 2) := by decide +kernel
theorem dX11_stopsMove_24 : decode cX11_stopsMove 24 = .ok (.i2l, 1) := by decide +kernel
theorem dX11_stopsMove_25 : decode cX11_stopsMove 25 = .ok (.ldc2_w 170, 3) := by decide +kernel
theorem dX11_stopsMove_28 : decode cX11_stopsMove 28 = .ok (.ldc2_w 172, 3) := by decide +kernel
theorem dX11_stopsMove_31 : decode cX11_stopsMove 31 = .ok (.invokestatic 148, 3) := by decide +kernel
theorem dX11_stopsMove_34 : decode cX11_stopsMove 34 = .ok (.ifCond .eq 18, 3) := by decide +kernel
theorem dX11_stopsMove_37 : decode cX11_stopsMove 37 = .ok (.iload 5, 2) := by decide +kernel
theorem dX11_stopsMove_39 : decode cX11_stopsMove 39 = .ok (.i2l, 1) := by decide +kernel
theorem dX11_stopsMove_40 : decode cX11_stopsMove 40 = .ok (.ldc2_w 170, 3) := by decide +kernel
theorem dX11_stopsMove_43 : decode cX11_stopsMove 43 = .ok (.ldc2_w 172, 3) := by decide +kernel
theorem dX11_stopsMove_46 : decode cX11_stopsMove 46 = .ok (.invokestatic 148, 3) := by decide +kernel
theorem dX11_stopsMove_49 : decode cX11_stopsMove 49 = .ok (.ifCond .ne 5, 3) := by decide +kernel
theorem dX11_stopsMove_52 : decode cX11_stopsMove 52 = .ok (.iconst 1, 1) := by decide +kernel
theorem dX11_stopsMove_53 : decode cX11_stopsMove 53 = .ok (.ireturn, 1) := by decide +kernel
theorem dX11_stopsMove_54 : decode cX11_stopsMove 54 = .ok (.sipush 944, 3) := by decide +kernel
theorem dX11_stopsMove_57 : decode cX11_stopsMove 57 = .ok (.bipush 9, 2) := by decide +kernel
theorem dX11_stopsMove_59 : decode cX11_stopsMove 59 = .ok (.iload_n 2, 1) := by decide +kernel
theorem dX11_stopsMove_60 : decode cX11_stopsMove 60 = .ok (.imul, 1) := by decide +kernel
theorem dX11_stopsMove_61 : decode cX11_stopsMove 61 = .ok (.iadd, 1) := by decide +kernel
theorem dX11_stopsMove_62 : decode cX11_stopsMove 62 = .ok (.iconst 3, 1) := by decide +kernel
theorem dX11_stopsMove_63 : decode cX11_stopsMove 63 = .ok (.iload_n 3, 1) := by decide +kernel
theorem dX11_stopsMove_64 : decode cX11_stopsMove 64 = .ok (.imul, 1) := by decide +kernel
theorem dX11_stopsMove_65 : decode cX11_stopsMove 65 = .ok (.iadd, 1) := by decide +kernel
theorem dX11_stopsMove_66 : decode cX11_stopsMove 66 = .ok (.istore 6, 2) := by decide +kernel
theorem dX11_stopsMove_68 : decode cX11_stopsMove 68 = .ok (.aload_n 1, 1) := by decide +kernel
theorem dX11_stopsMove_69 : decode cX11_stopsMove 69 = .ok (.iload 6, 2) := by decide +kernel
theorem dX11_stopsMove_71 : decode cX11_stopsMove 71 = .ok (.iaload, 1) := by decide +kernel
theorem dX11_stopsMove_72 : decode cX11_stopsMove 72 = .ok (.iload 4, 2) := by decide +kernel
theorem dX11_stopsMove_74 : decode cX11_stopsMove 74 = .ok (.iadd, 1) := by decide +kernel
theorem dX11_stopsMove_75 : decode cX11_stopsMove 75 = .ok (.i2l, 1) := by decide +kernel
theorem dX11_stopsMove_76 : decode cX11_stopsMove 76 = .ok (.ldc2_w 156, 3) := by decide +kernel
theorem dX11_stopsMove_79 : decode cX11_stopsMove 79 = .ok (.ldc2_w 158, 3) := by decide +kernel
theorem dX11_stopsMove_82 : decode cX11_stopsMove 82 = .ok (.invokestatic 148, 3) := by decide +kernel
theorem dX11_stopsMove_85 : decode cX11_stopsMove 85 = .ok (.ifCond .eq 25, 3) := by decide +kernel
theorem dX11_stopsMove_88 : decode cX11_stopsMove 88 = .ok (.aload_n 1, 1) := by decide +kernel
theorem dX11_stopsMove_89 : decode cX11_stopsMove 89 = .ok (.iload 6, 2) := by decide +kernel
theorem dX11_stopsMove_91 : decode cX11_stopsMove 91 = .ok (.iconst 1, 1) := by decide +kernel
theorem dX11_stopsMove_92 : decode cX11_stopsMove 92 = .ok (.iadd, 1) := by decide +kernel
theorem dX11_stopsMove_93 : decode cX11_stopsMove 93 = .ok (.iaload, 1) := by decide +kernel
theorem dX11_stopsMove_94 : decode cX11_stopsMove 94 = .ok (.iload 5, 2) := by decide +kernel
theorem dX11_stopsMove_96 : decode cX11_stopsMove 96 = .ok (.iadd, 1) := by decide +kernel
theorem dX11_stopsMove_97 : decode cX11_stopsMove 97 = .ok (.i2l, 1) := by decide +kernel
theorem dX11_stopsMove_98 : decode cX11_stopsMove 98 = .ok (.ldc2_w 156, 3) := by decide +kernel
theorem dX11_stopsMove_101 : decode cX11_stopsMove 101 = .ok (.ldc2_w 158, 3) := by decide +kernel
theorem dX11_stopsMove_104 : decode cX11_stopsMove 104 = .ok (.invokestatic 148, 3) := by decide +kernel
theorem dX11_stopsMove_107 : decode cX11_stopsMove 107 = .ok (.ifCond .ne 5, 3) := by decide +kernel
theorem dX11_stopsMove_110 : decode cX11_stopsMove 110 = .ok (.iconst 1, 1) := by decide +kernel
theorem dX11_stopsMove_111 : decode cX11_stopsMove 111 = .ok (.ireturn, 1) := by decide +kernel
theorem dX11_stopsMove_112 : decode cX11_stopsMove 112 = .ok (.iload 4, 2) := by decide +kernel
theorem dX11_stopsMove_114 : decode cX11_stopsMove 114 = .ok (.ifCond .ne 10, 3) := by decide +kernel
theorem dX11_stopsMove_117 : decode cX11_stopsMove 117 = .ok (.iload 5, 2) := by decide +kernel
theorem dX11_stopsMove_119 : decode cX11_stopsMove 119 = .ok (.ifCond .ne 5, 3) := by decide +kernel
theorem dX11_stopsMove_122 : decode cX11_stopsMove 122 = .ok (.iconst 2, 1) := by decide +kernel
theorem dX11_stopsMove_123 : decode cX11_stopsMove 123 = .ok (.ireturn, 1) := by decide +kernel
theorem dX11_stopsMove_124 : decode cX11_stopsMove 124 = .ok (.aload_n 0, 1) := by decide +kernel
theorem dX11_stopsMove_125 : decode cX11_stopsMove 125 = .ok (.aload_n 1, 1) := by decide +kernel
theorem dX11_stopsMove_126 : decode cX11_stopsMove 126 = .ok (.iload_n 2, 1) := by decide +kernel
theorem dX11_stopsMove_127 : decode cX11_stopsMove 127 = .ok (.invokevirtual 366, 3) := by decide +kernel
theorem dX11_stopsMove_130 : decode cX11_stopsMove 130 = .ok (.ifCond .eq 7, 3) := by decide +kernel
theorem dX11_stopsMove_133 : decode cX11_stopsMove 133 = .ok (.iconst 3, 1) := by decide +kernel
theorem dX11_stopsMove_134 : decode cX11_stopsMove 134 = .ok (.goto 4, 3) := by decide +kernel
theorem dX11_stopsMove_137 : decode cX11_stopsMove 137 = .ok (.iconst (-1), 1) := by decide +kernel
theorem dX11_stopsMove_138 : decode cX11_stopsMove 138 = .ok (.ireturn, 1) := by decide +kernel
theorem dX11_moves_0 : decode cX11_moves 0 = .ok (.aload_n 0, 1) := by decide +kernel
theorem dX11_moves_1 : decode cX11_moves 1 = .ok (.sipush 944, 3) := by decide +kernel
theorem dX11_moves_4 : decode cX11_moves 4 = .ok (.bipush 9, 2) := by decide +kernel
theorem dX11_moves_6 : decode cX11_moves 6 = .ok (.iload_n 1, 1) := by decide +kernel
theorem dX11_moves_7 : decode cX11_moves 7 = .ok (.imul, 1) := by decide +kernel
theorem dX11_moves_8 : decode cX11_moves 8 = .ok (.iadd, 1) := by decide +kernel
theorem dX11_moves_9 : decode cX11_moves 9 = .ok (.iconst 3, 1) := by decide +kernel
theorem dX11_moves_10 : decode cX11_moves 10 = .ok (.iload_n 2, 1) := by decide +kernel
theorem dX11_moves_11 : decode cX11_moves 11 = .ok (.imul, 1) := by decide +kernel
theorem dX11_moves_12 : decode cX11_moves 12 = .ok (.iadd, 1) := by decide +kernel
theorem dX11_moves_13 : decode cX11_moves 13 = .ok (.dup2, 1) := by decide +kernel
theorem dX11_moves_14 : decode cX11_moves 14 = .ok (.iaload, 1) := by decide +kernel
