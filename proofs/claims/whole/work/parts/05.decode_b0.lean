theorem dX10_init_0 : decode cX10_init 0 = .ok (.aload_n 0, 1) := by decide +kernel
theorem dX10_init_1 : decode cX10_init 1 = .ok (.invokespecial 1, 3) := by decide +kernel
theorem dX10_init_4 : decode cX10_init 4 = .ok (.aload_n 0, 1) := by decide +kernel
theorem dX10_init_5 : decode cX10_init 5 = .ok (.new 7, 3) := by decide +kernel
theorem dX10_init_8 : decode cX10_init 8 = .ok (.dup, 1) := by decide +kernel
theorem dX10_init_9 : decode cX10_init 9 = .ok (.invokespecial 9, 3) := by decide +kernel
theorem dX10_init_12 : decode cX10_init 12 = .ok (.putfield 10, 3) := by decide +kernel
theorem dX10_init_15 : decode cX10_init 15 = .ok (.aload_n 0, 1) := by decide +kernel
theorem dX10_init_16 : decode cX10_init 16 = .ok (.new 16, 3) := by decide +kernel
theorem dX10_init_19 : decode cX10_init 19 = .ok (.dup, 1) := by decide +kernel
theorem dX10_init_20 : decode cX10_init 20 = .ok (.aload_n 0, 1) := by decide +kernel
theorem dX10_init_21 : decode cX10_init 21 = .ok (.getfield 10, 3) := by decide +kernel
theorem dX10_init_24 : decode cX10_init 24 = .ok (.invokespecial 18, 3) := by decide +kernel
theorem dX10_init_27 : decode cX10_init 27 = .ok (.putfield 21, 3) := by decide +kernel
theorem dX10_init_30 : decode cX10_init 30 = .ok (.aload_n 0, 1) := by decide +kernel
theorem dX10_init_31 : decode cX10_init 31 = .ok (.new 25, 3) := by decide +kernel
theorem dX10_init_34 : decode cX10_init 34 = .ok (.dup, 1) := by decide +kernel
theorem dX10_init_35 : decode cX10_init 35 = .ok (.invokespecial 27, 3) := by decide +kernel
theorem dX10_init_38 : decode cX10_init 38 = .ok (.putfield 28, 3) := by decide +kernel
theorem dX10_init_41 : decode cX10_init 41 = .ok (.aload_n 0, 1) := by decide +kernel
theorem dX10_init_42 : decode cX10_init 42 = .ok (.new 25, 3) := by decide +kernel
theorem dX10_init_45 : decode cX10_init 45 = .ok (.dup, 1) := by decide +kernel
theorem dX10_init_46 : decode cX10_init 46 = .ok (.invokespecial 27, 3) := by decide +kernel
theorem dX10_init_49 : decode cX10_init 49 = .ok (.putfield 32, 3) := by decide +kernel
theorem dX10_init_52 : decode cX10_init 52 = .ok (.aload_n 0, 1) := by decide +kernel
theorem dX10_init_53 : decode cX10_init 53 = .ok (.new 35, 3) := by decide +kernel
theorem dX10_init_56 : decode cX10_init 56 = .ok (.dup, 1) := by decide +kernel
theorem dX10_init_57 : decode cX10_init 57 = .ok (.invokespecial 37, 3) := by decide +kernel
theorem dX10_init_60 : decode cX10_init 60 = .ok (.putfield 38, 3) := by decide +kernel
theorem dX10_init_63 : decode cX10_init 63 = .ok (.aload_n 0, 1) := by decide +kernel
theorem dX10_init_64 : decode cX10_init 64 = .ok (.new 42, 3) := by decide +kernel
theorem dX10_init_67 : decode cX10_init 67 = .ok (.dup, 1) := by decide +kernel
theorem dX10_init_68 : decode cX10_init 68 = .ok (.aload_n 0, 1) := by decide +kernel
theorem dX10_init_69 : decode cX10_init 69 = .ok (.getfield 32, 3) := by decide +kernel
theorem dX10_init_72 : decode cX10_init 72 = .ok (.aload_n 0, 1) := by decide +kernel
theorem dX10_init_73 : decode cX10_init 73 = .ok (.getfield 38, 3) := by decide +kernel
theorem dX10_init_76 : decode cX10_init 76 = .ok (.invokespecial 44, 3) := by decide +kernel
theorem dX10_init_79 : decode cX10_init 79 = .ok (.putfield 47, 3) := by decide +kernel
theorem dX10_init_82 : decode cX10_init 82 = .ok (.aload_n 0, 1) := by decide +kernel
theorem dX10_init_83 : decode cX10_init 83 = .ok (.new 51, 3) := by decide +kernel
theorem dX10_init_86 : decode cX10_init 86 = .ok (.dup, 1) := by decide +kernel
theorem dX10_init_87 : decode cX10_init 87 = .ok (.aload_n 0, 1) := by decide +kernel
theorem dX10_init_88 : decode cX10_init 88 = .ok (.getfield 32, 3) := by decide +kernel
theorem dX10_init_91 : decode cX10_init 91 = .ok (.aload_n 0, 1) := by decide +kernel
theorem dX10_init_92 : decode cX10_init 92 = .ok (.getfield 38, 3) := by decide +kernel
theorem dX10_init_95 : decode cX10_init 95 = .ok (.aload_n 0, 1) := by decide +kernel
theorem dX10_init_96 : decode cX10_init 96 = .ok (.getfield 47, 3) := by decide +kernel
theorem dX10_init_99 : decode cX10_init 99 = .ok (.invokespecial 53, 3) := by decide +kernel
theorem dX10_init_102 : decode cX10_init 102 = .ok (.putfield 56, 3) := by decide +kernel
theorem dX10_init_105 : decode cX10_init 105 = .ok (.aload_n 0, 1) := by decide +kernel
theorem dX10_init_106 : decode cX10_init 106 = .ok (.new 60, 3) := by decide +kernel
theorem dX10_init_109 : decode cX10_init 109 = .ok (.dup, 1) := by decide +kernel
theorem dX10_init_110 : decode cX10_init 110 = .ok (.invokespecial 62, 3) := by decide +kernel
theorem dX10_init_113 : decode cX10_init 113 = .ok (.putfield 63, 3) := by decide +kernel
theorem dX10_init_116 : decode cX10_init 116 = .ok (.aload_n 0, 1) := by decide +kernel
theorem dX10_init_117 : decode cX10_init 117 = .ok (.new 60, 3) := by decide +kernel
theorem dX10_init_120 : decode cX10_init 120 = .ok (.dup, 1) := by decide +kernel
theorem dX10_init_121 : decode cX10_init 121 = .ok (.invokespecial 62, 3) := by decide +kernel
theorem dX10_init_124 : decode cX10_init 124 = .ok (.putfield 67, 3) := by decide +kernel
theorem dX10_init_127 : decode cX10_init 127 = .ok (.aload_n 0, 1) := by decide +kernel
theorem dX10_init_128 : decode cX10_init 128 = .ok (.new 70, 3) := by decide +kernel
theorem dX10_init_131 : decode cX10_init 131 = .ok (.dup, 1) := by decide +kernel
theorem dX10_init_132 : decode cX10_init 132 = .ok (.invokespecial 72, 3) := by decide +kernel
theorem dX10_init_135 : decode cX10_init 135 = .ok (.putfield 73, 3) := by decide +kernel
theorem dX10_init_138 : decode cX10_init 138 = .ok (.aload_n 0, 1) := by decide +kernel
theorem dX10_init_139 : decode cX10_init 139 = .ok (.iconst 5, 1) := by decide +kernel
theorem dX10_init_140 : decode cX10_init 140 = .ok (.anewarray 77, 3) := by decide +kernel
theorem dX10_init_143 : decode cX10_init 143 = .ok (.putfield 79, 3) := by decide +kernel
theorem dX10_init_146 : decode cX10_init 146 = .ok (.iconst 0, 1) := by decide +kernel
theorem dX10_init_147 : decode cX10_init 147 = .ok (.istore_n 1, 1) := by decide +kernel
theorem dX10_init_148 : decode cX10_init 148 = .ok (.iload_n 1, 1) := by decide +kernel
theorem dX10_init_149 : decode cX10_init 149 = .ok (.aload_n 0, 1) := by decide +kernel
theorem dX10_init_150 : decode cX10_init 150 = .ok (.getfield 79, 3) := by decide +kernel
theorem dX10_init_153 : decode cX10_init 153 = .ok (.arraylength, 1) := by decide +kernel
theorem dX10_init_154 : decode cX10_init 154 = .ok (.if_icmp .ge 22, 3) := by decide +kernel
theorem dX10_init_157 : decode cX10_init 157 = .ok (.aload_n 0, 1) := by decide +kernel
theorem dX10_init_158 : decode cX10_init 158 = .ok (.getfield 79, 3) := by decide +kernel
theorem dX10_init_161 : decode cX10_init 161 = .ok (.iload_n 1, 1) := by decide +kernel
theorem dX10_init_162 : decode cX10_init 162 = .ok (.new 77, 3) := by decide +kernel
theorem dX10_init_165 : decode cX10_init 165 = .ok (.dup, 1) := by decide +kernel
theorem dX10_init_166 : decode cX10_init 166 = .ok (.invokespecial 83, 3) := by decide +kernel
theorem dX10_init_169 : decode cX10_init 169 = .ok (.aastore, 1) := by decide +kernel
theorem dX10_init_170 : decode cX10_init 170 = .ok (.iinc 1 1, 3) := by decide +kernel
theorem dX10_init_173 : decode cX10_init 173 = .ok (.goto (-25), 3) := by decide +kernel
theorem dX10_init_176 : decode cX10_init 176 = .ok (.aload_n 0, 1) := by decide +kernel
theorem dX10_init_177 : decode cX10_init 177 = .ok (.iconst 4, 1) := by decide +kernel
theorem dX10_init_178 : decode cX10_init 178 = .ok (.newarray .int, 2) := by decide +kernel
theorem dX10_init_180 : decode cX10_init 180 = .ok (.putfield 84, 3) := by decide +kernel
theorem dX10_init_183 : decode cX10_init 183 = .ok (.aload_n 0, 1) := by decide +kernel
theorem dX10_init_184 : decode cX10_init 184 = .ok (.iconst 5, 1) := by decide +kernel
theorem dX10_init_185 : decode cX10_init 185 = .ok (.newarray .int, 2) := by decide +kernel
theorem dX10_init_187 : decode cX10_init 187 = .ok (.putfield 88, 3) := by decide +kernel
theorem dX10_init_190 : decode cX10_init 190 = .ok (.aload_n 0, 1) := by decide +kernel
theorem dX10_init_191 : decode cX10_init 191 = .ok (.iconst 0, 1) := by decide +kernel
theorem dX10_init_192 : decode cX10_init 192 = .ok (.putfield 91, 3) := by decide +kernel
theorem dX10_init_195 : decode cX10_init 195 = .ok (.aload_n 0, 1) := by decide +kernel
theorem dX10_init_196 : decode cX10_init 196 = .ok (.iconst 0, 1) := by decide +kernel
theorem dX10_init_197 : decode cX10_init 197 = .ok (.putfield 95, 3) := by decide +kernel
theorem dX10_init_200 : decode cX10_init 200 = .ok (.aload_n 0, 1) := by decide +kernel
theorem dX10_init_201 : decode cX10_init 201 = .ok (.lconst 0, 1) := by decide +kernel
theorem dX10_init_202 : decode cX10_init 202 = .ok (.putfield 99, 3) := by decide +kernel
theorem dX10_init_205 : decode cX10_init 205 = .ok (.return_, 1) := by decide +kernel
theorem dX10_feed_0 : decode cX10_feed 0 = .ok (.iload_n 1, 1) := by decide +kernel
theorem dX10_feed_1 : decode cX10_feed 1 = .ok (.invokestatic 103, 3) := by decide +kernel
theorem dX10_feed_4 : decode cX10_feed 4 = .ok (.iload_n 2, 1) := by decide +kernel
theorem dX10_feed_5 : decode cX10_feed 5 = .ok (.invokestatic 103, 3) := by decide +kernel
theorem dX10_feed_8 : decode cX10_feed 8 = .ok (.iadd, 1) := by decide +kernel
theorem dX10_feed_9 : decode cX10_feed 9 = .ok (.iload_n 3, 1) := by decide +kernel
theorem dX10_feed_10 : decode cX10_feed 10 = .ok (.invokestatic 103, 3) := by decide +kernel
theorem dX10_feed_13 : decode cX10_feed 13 = .ok (.iadd, 1) := by decide +kernel
theorem dX10_feed_14 : decode cX10_feed 14 = .ok (.iload 4, 2) := by decide +kernel
theorem dX10_feed_16 : decode cX10_feed 16 = .ok (.invokestatic 103, 3) := by decide +kernel
theorem dX10_feed_19 : decode cX10_feed 19 = .ok (.iadd, 1) := by decide +kernel
theorem dX10_feed_20 : decode cX10_feed 20 = .ok (.iload 5, 2) := by decide +kernel
theorem dX10_feed_22 : decode cX10_feed 22 = .ok (.invokestatic 103, 3) := by decide +kernel
theorem dX10_feed_25 : decode cX10_feed 25 = .ok (.iadd, 1) := by decide +kernel
theorem dX10_feed_26 : decode cX10_feed 26 = .ok (.istore 6, 2) := by decide +kernel
theorem dX10_feed_28 : decode cX10_feed 28 = .ok (.aload_n 0, 1) := by decide +kernel
theorem dX10_feed_29 : decode cX10_feed 29 = .ok (.getfield 10, 3) := by decide +kernel
theorem dX10_feed_32 : decode cX10_feed 32 = .ok (.getfield 107, 3) := by decide +kernel
theorem dX10_feed_35 : decode cX10_feed 35 = .ok (.iload 6, 2) := by decide +kernel
theorem dX10_feed_37 : decode cX10_feed 37 = .ok (.iadd, 1) := by decide +kernel
theorem dX10_feed_38 : decode cX10_feed 38 = .ok (.sipush 480, 3) := by decide +kernel
theorem dX10_feed_41 : decode cX10_feed 41 = .ok (.if_icmp .le 5, 3) := by decide +kernel
theorem dX10_feed_44 : decode cX10_feed 44 = .ok (.iconst (-1), 1) := by decide +kernel
theorem dX10_feed_45 : decode cX10_feed 45 = .ok (.ireturn, 1) := by decide +kernel
theorem dX10_feed_46 : decode cX10_feed 46 = .ok (.aload_n 0, 1) := by decide +kernel
theorem dX10_feed_47 : decode cX10_feed 47 = .ok (.getfield 10, 3) := by decide +kernel
theorem dX10_feed_50 : decode cX10_feed 50 = .ok (.iload_n 1, 1) := by decide +kernel
theorem dX10_feed_51 : decode cX10_feed 51 = .ok (.invokevirtual 110, 3) := by decide +kernel
theorem dX10_feed_54 : decode cX10_feed 54 = .ok (.aload_n 0, 1) := by decide +kernel
theorem dX10_feed_55 : decode cX10_feed 55 = .ok (.getfield 10, 3) := by decide +kernel
theorem dX10_feed_58 : decode cX10_feed 58 = .ok (.iload_n 2, 1) := by decide +kernel
theorem dX10_feed_59 : decode cX10_feed 59 = .ok (.invokevirtual 110, 3) := by decide +kernel
theorem dX10_feed_62 : decode cX10_feed 62 = .ok (.aload_n 0, 1) := by decide +kernel
theorem dX10_feed_63 : decode cX10_feed 63 = .ok (.getfield 10, 3) := by decide +kernel
theorem dX10_feed_66 : decode cX10_feed 66 = .ok (.iload_n 3, 1) := by decide +kernel
theorem dX10_feed_67 : decode cX10_feed 67 = .ok (.invokevirtual 110, 3) := by decide +kernel
theorem dX10_feed_70 : decode cX10_feed 70 = .ok (.aload_n 0, 1) := by decide +kernel
theorem dX10_feed_71 : decode cX10_feed 71 = .ok (.getfield 10, 3) := by decide +kernel
theorem dX10_feed_74 : decode cX10_feed 74 = .ok (.iload 4, 2) := by decide +kernel
theorem dX10_feed_76 : decode cX10_feed 76 = .ok (.invokevirtual 110, 3) := by decide +kernel
theorem dX10_feed_79 : decode cX10_feed 79 = .ok (.aload_n 0, 1) := by decide +kernel
theorem dX10_feed_80 : decode cX10_feed 80 = .ok (.getfield 10, 3) := by decide +kernel
theorem dX10_feed_83 : decode cX10_feed 83 = .ok (.iload 5, 2) := by decide +kernel
theorem dX10_feed_85 : decode cX10_feed 85 = .ok (.invokevirtual 110, 3) := by decide +kernel
theorem dX10_feed_88 : decode cX10_feed 88 = .ok (.aload_n 0, 1) := by decide +kernel
theorem dX10_feed_89 : decode cX10_feed 89 = .ok (.getfield 10, 3) := by decide +kernel
theorem dX10_feed_92 : decode cX10_feed 92 = .ok (.getfield 107, 3) := by decide +kernel
theorem dX10_feed_95 : decode cX10_feed 95 = .ok (.ireturn, 1) := by decide +kernel
theorem dX10_end_0 : decode cX10_end 0 = .ok (.iload_n 1, 1) := by decide +kernel
theorem dX10_end_1 : decode cX10_end 1 = .ok (.ifCond .lt 14, 3) := by decide +kernel
theorem dX10_end_4 : decode cX10_end 4 = .ok (.iload_n 1, 1) := by decide +kernel
theorem dX10_end_5 : decode cX10_end 5 = .ok (.aload_n 0, 1) := by decide +kernel
theorem dX10_end_6 : decode cX10_end 6 = .ok (.getfield 10, 3) := by decide +kernel
theorem dX10_end_9 : decode cX10_end 9 = .ok (.getfield 107, 3) := by decide +kernel
theorem dX10_end_12 : decode cX10_end 12 = .ok (.if_icmp .le 5, 3) := by decide +kernel
theorem dX10_end_15 : decode cX10_end 15 = .ok (.iconst 0, 1) := by decide +kernel
theorem dX10_end_16 : decode cX10_end 16 = .ok (.ireturn, 1) := by decide +kernel
theorem dX10_end_17 : decode cX10_end 17 = .ok (.aload_n 0, 1) := by decide +kernel
theorem dX10_end_18 : decode cX10_end 18 = .ok (.getfield 10, 3) := by decide +kernel
theorem dX10_end_21 : decode cX10_end 21 = .ok (.iload_n 1, 1) := by decide +kernel
theorem dX10_end_22 : decode cX10_end 22 = .ok (.putfield 107, 3) := by decide +kernel
theorem dX10_end_25 : decode cX10_end 25 = .ok (.iconst 1, 1) := by decide +kernel
theorem dX10_end_26 : decode cX10_end 26 = .ok (.ireturn, 1) := by decide +kernel
theorem dX10_fault_0 : decode cX10_fault 0 = .ok (.iload_n 1, 1) := by decide +kernel
theorem dX10_fault_1 : decode cX10_fault 1 = .ok (.ifCond .ne 15, 3) := by decide +kernel
theorem dX10_fault_4 : decode cX10_fault 4 = .ok (.aload_n 0, 1) := by decide +kernel
theorem dX10_fault_5 : decode cX10_fault 5 = .ok (.getfield 21, 3) := by decide +kernel
theorem dX10_fault_8 : decode cX10_fault 8 = .ok (.aload_n 0, 1) := by decide +kernel
theorem dX10_fault_9 : decode cX10_fault 9 = .ok (.getfield 28, 3) := by decide +kernel
theorem dX10_fault_12 : decode cX10_fault 12 = .ok (.invokevirtual 114, 3) := by decide +kernel
theorem dX10_fault_15 : decode cX10_fault 15 = .ok (.ireturn, 1) := by decide +kernel
theorem dX10_fault_16 : decode cX10_fault 16 = .ok (.iload_n 1, 1) := by decide +kernel
theorem dX10_fault_17 : decode cX10_fault 17 = .ok (.iconst 1, 1) := by decide +kernel
theorem dX10_fault_18 : decode cX10_fault 18 = .ok (.if_icmp .ne 20, 3) := by decide +kernel
theorem dX10_fault_21 : decode cX10_fault 21 = .ok (.aload_n 0, 1) := by decide +kernel
theorem dX10_fault_22 : decode cX10_fault 22 = .ok (.getfield 21, 3) := by decide +kernel
theorem dX10_fault_25 : decode cX10_fault 25 = .ok (.aload_n 0, 1) := by decide +kernel
theorem dX10_fault_26 : decode cX10_fault 26 = .ok (.getfield 79, 3) := by decide +kernel
theorem dX10_fault_29 : decode cX10_fault 29 = .ok (.aload_n 0, 1) := by decide +kernel
theorem dX10_fault_30 : decode cX10_fault 30 = .ok (.getfield 91, 3) := by decide +kernel
theorem dX10_fault_33 : decode cX10_fault 33 = .ok (.aaload, 1) := by decide +kernel
theorem dX10_fault_34 : decode cX10_fault 34 = .ok (.invokevirtual 118, 3) := by decide +kernel
theorem dX10_fault_37 : decode cX10_fault 37 = .ok (.ireturn, 1) := by decide +kernel
theorem dX10_fault_38 : decode cX10_fault 38 = .ok (.bipush (-2), 2) := by decide +kernel
theorem dX10_fault_40 : decode cX10_fault 40 = .ok (.ireturn, 1) := by decide +kernel
theorem dX10_text_0 : decode cX10_text 0 = .ok (.iload_n 1, 1) := by decide +kernel
theorem dX10_text_1 : decode cX10_text 1 = .ok (.ifCond .ne 38, 3) := by decide +kernel
theorem dX10_text_4 : decode cX10_text 4 = .ok (.aload_n 0, 1) := by decide +kernel
theorem dX10_text_5 : decode cX10_text 5 = .ok (.getfield 21, 3) := by decide +kernel
theorem dX10_text_8 : decode cX10_text 8 = .ok (.aload_n 0, 1) := by decide +kernel
theorem dX10_text_9 : decode cX10_text 9 = .ok (.getfield 28, 3) := by decide +kernel
theorem dX10_text_12 : decode cX10_text 12 = .ok (.invokevirtual 114, 3) := by decide +kernel
theorem dX10_text_15 : decode cX10_text 15 = .ok (.iconst (-1), 1) := by decide +kernel
theorem dX10_text_16 : decode cX10_text 16 = .ok (.if_icmp .ne 23, 3) := by decide +kernel
theorem dX10_text_19 : decode cX10_text 19 = .ok (.aload_n 0, 1) := by decide +kernel
theorem dX10_text_20 : decode cX10_text 20 = .ok (.getfield 10, 3) := by decide +kernel
theorem dX10_text_23 : decode cX10_text 23 = .ok (.iconst 0, 1) := by decide +kernel
theorem dX10_text_24 : decode cX10_text 24 = .ok (.putfield 107, 3) := by decide +kernel
theorem dX10_text_27 : decode cX10_text 27 = .ok (.aload_n 0, 1) := by decide +kernel
theorem dX10_text_28 : decode cX10_text 28 = .ok (.invokevirtual 122, 3) := by decide +kernel
theorem dX10_text_31 : decode cX10_text 31 = .ok (.aload_n 0, 1) := by decide +kernel
theorem dX10_text_32 : decode cX10_text 32 = .ok (.getfield 32, 3) := by decide +kernel
theorem dX10_text_35 : decode cX10_text 35 = .ok (.getfield 125, 3) := by decide +kernel
theorem dX10_text_38 : decode cX10_text 38 = .ok (.ireturn, 1) := by decide +kernel
theorem dX10_text_39 : decode cX10_text 39 = .ok (.iload_n 1, 1) := by decide +kernel
theorem dX10_text_40 : decode cX10_text 40 = .ok (.iconst 1, 1) := by decide +kernel
theorem dX10_text_41 : decode cX10_text 41 = .ok (.if_icmp .ne 56, 3) := by decide +kernel
theorem dX10_text_44 : decode cX10_text 44 = .ok (.aload_n 0, 1) := by decide +kernel
theorem dX10_text_45 : decode cX10_text 45 = .ok (.getfield 91, 3) := by decide +kernel
theorem dX10_text_48 : decode cX10_text 48 = .ok (.iconst 4, 1) := by decide +kernel
theorem dX10_text_49 : decode cX10_text 49 = .ok (.if_icmp .ge 48, 3) := by decide +kernel
theorem dX10_text_52 : decode cX10_text 52 = .ok (.aload_n 0, 1) := by decide +kernel
theorem dX10_text_53 : decode cX10_text 53 = .ok (.getfield 21, 3) := by decide +kernel
theorem dX10_text_56 : decode cX10_text 56 = .ok (.aload_n 0, 1) := by decide +kernel
theorem dX10_text_57 : decode cX10_text 57 = .ok (.getfield 79, 3) := by decide +kernel
theorem dX10_text_60 : decode cX10_text 60 = .ok (.aload_n 0, 1) := by decide +kernel
theorem dX10_text_61 : decode cX10_text 61 = .ok (.getfield 91, 3) := by decide +kernel
theorem dX10_text_64 : decode cX10_text 64 = .ok (.aaload, 1) := by decide +kernel
theorem dX10_text_65 : decode cX10_text 65 = .ok (.invokevirtual 118, 3) := by decide +kernel
theorem dX10_text_68 : decode cX10_text 68 = .ok (.iconst (-1), 1) := by decide +kernel
theorem dX10_text_69 : decode cX10_text 69 = .ok (.if_icmp .ne 28, 3) := by decide +kernel
theorem dX10_text_72 : decode cX10_text 72 = .ok (.aload_n 0, 1) := by decide +kernel
theorem dX10_text_73 : decode cX10_text 73 = .ok (.getfield 10, 3) := by decide +kernel
theorem dX10_text_76 : decode cX10_text 76 = .ok (.iconst 0, 1) := by decide +kernel
theorem dX10_text_77 : decode cX10_text 77 = .ok (.putfield 107, 3) := by decide +kernel
theorem dX10_text_80 : decode cX10_text 80 = .ok (.aload_n 0, 1) := by decide +kernel
theorem dX10_text_81 : decode cX10_text 81 = .ok (.dup, 1) := by decide +kernel
theorem dX10_text_82 : decode cX10_text 82 = .ok (.getfield 91, 3) := by decide +kernel
theorem dX10_text_85 : decode cX10_text 85 = .ok (.iconst 1, 1) := by decide +kernel
theorem dX10_text_86 : decode cX10_text 86 = .ok (.iadd, 1) := by decide +kernel
theorem dX10_text_87 : decode cX10_text 87 = .ok (.putfield 91, 3) := by decide +kernel
theorem dX10_text_90 : decode cX10_text 90 = .ok (.aload_n 0, 1) := by decide +kernel
theorem dX10_text_91 : decode cX10_text 91 = .ok (.getfield 91, 3) := by decide +kernel
theorem dX10_text_94 : decode cX10_text 94 = .ok (.iconst 1, 1) := by decide +kernel
theorem dX10_text_95 : decode cX10_text 95 = .ok (.isub, 1) := by decide +kernel
theorem dX10_text_96 : decode cX10_text 96 = .ok (.ireturn, 1) := by decide +kernel
theorem dX10_text_97 : decode cX10_text 97 = .ok (.iconst (-1), 1) := by decide +kernel
theorem dX10_text_98 : decode cX10_text 98 = .ok (.ireturn, 1) := by decide +kernel
theorem dX10_begin_0 : decode cX10_begin 0 = .ok (.aload_n 0, 1) := by decide +kernel
theorem dX10_begin_1 : decode cX10_begin 1 = .ok (.getfield 32, 3) := by decide +kernel
theorem dX10_begin_4 : decode cX10_begin 4 = .ok (.aload_n 0, 1) := by decide +kernel
theorem dX10_begin_5 : decode cX10_begin 5 = .ok (.getfield 28, 3) := by decide +kernel
theorem dX10_begin_8 : decode cX10_begin 8 = .ok (.invokevirtual 128, 3) := by decide +kernel
theorem dX10_begin_11 : decode cX10_begin 11 = .ok (.aload_n 0, 1) := by decide +kernel
theorem dX10_begin_12 : decode cX10_begin 12 = .ok (.getfield 38, 3) := by decide +kernel
theorem dX10_begin_15 : decode cX10_begin 15 = .ok (.aload_n 0, 1) := by decide +kernel
theorem dX10_begin_16 : decode cX10_begin 16 = .ok (.getfield 32, 3) := by decide +kernel
theorem dX10_begin_19 : decode cX10_begin 19 = .ok (.invokevirtual 132, 3) := by decide +kernel
theorem dX10_begin_22 : decode cX10_begin 22 = .ok (.aload_n 0, 1) := by decide +kernel
theorem dX10_begin_23 : decode cX10_begin 23 = .ok (.getfield 63, 3) := by decide +kernel
theorem dX10_begin_26 : decode cX10_begin 26 = .ok (.aload_n 0, 1) := by decide +kernel
theorem dX10_begin_27 : decode cX10_begin 27 = .ok (.getfield 32, 3) := by decide +kernel
theorem dX10_begin_30 : decode cX10_begin 30 = .ok (.invokevirtual 135, 3) := by decide +kernel
theorem dX10_begin_33 : decode cX10_begin 33 = .ok (.aload_n 0, 1) := by decide +kernel
theorem dX10_begin_34 : decode cX10_begin 34 = .ok (.getfield 47, 3) := by decide +kernel
theorem dX10_begin_37 : decode cX10_begin 37 = .ok (.invokevirtual 138, 3) := by decide +kernel
theorem dX10_begin_40 : decode cX10_begin 40 = .ok (.aload_n 0, 1) := by decide +kernel
theorem dX10_begin_41 : decode cX10_begin 41 = .ok (.getfield 47, 3) := by decide +kernel
theorem dX10_begin_44 : decode cX10_begin 44 = .ok (.aload_n 0, 1) := by decide +kernel
theorem dX10_begin_45 : decode cX10_begin 45 = .ok (.getfield 63, 3) := by decide +kernel
theorem dX10_begin_48 : decode cX10_begin 48 = .ok (.invokevirtual 141, 3) := by decide +kernel
theorem dX10_begin_51 : decode cX10_begin 51 = .ok (.aload_n 0, 1) := by decide +kernel
theorem dX10_begin_52 : decode cX10_begin 52 = .ok (.getfield 73, 3) := by decide +kernel
theorem dX10_begin_55 : decode cX10_begin 55 = .ok (.invokevirtual 145, 3) := by decide +kernel
theorem dX10_begin_58 : decode cX10_begin 58 = .ok (.aload_n 0, 1) := by decide +kernel
theorem dX10_begin_59 : decode cX10_begin 59 = .ok (.iconst 0, 1) := by decide +kernel
theorem dX10_begin_60 : decode cX10_begin 60 = .ok (.putfield 95, 3) := by decide +kernel
theorem dX10_begin_63 : decode cX10_begin 63 = .ok (.return_, 1) := by decide +kernel
theorem dX10_hasScene_0 : decode cX10_hasScene 0 = .ok (.aload_n 0, 1) := by decide +kernel
theorem dX10_hasScene_1 : decode cX10_hasScene 1 = .ok (.getfield 32, 3) := by decide +kernel
theorem dX10_hasScene_4 : decode cX10_hasScene 4 = .ok (.getfield 125, 3) := by decide +kernel
theorem dX10_hasScene_7 : decode cX10_hasScene 7 = .ok (.ifCond .le 7, 3) := by decide +kernel
theorem dX10_hasScene_10 : decode cX10_hasScene 10 = .ok (.iconst 1, 1) := by decide +kernel
theorem dX10_hasScene_11 : decode cX10_hasScene 11 = .ok (.goto 4, 3) := by decide +kernel
theorem dX10_hasScene_14 : decode cX10_hasScene 14 = .ok (.iconst 0, 1) := by decide +kernel
theorem dX10_hasScene_15 : decode cX10_hasScene 15 = .ok (.ireturn, 1) := by decide +kernel
theorem dX10_rule_0 : decode cX10_rule 0 = .ok (.aload_n 0, 1) := by decide +kernel
theorem dX10_rule_1 : decode cX10_rule 1 = .ok (.invokevirtual 148, 3) := by decide +kernel
theorem dX10_rule_4 : decode cX10_rule 4 = .ok (.ifCond .ne 5, 3) := by decide +kernel
theorem dX10_rule_7 : decode cX10_rule 7 = .ok (.iconst (-1), 1) := by decide +kernel
theorem dX10_rule_8 : decode cX10_rule 8 = .ok (.ireturn, 1) := by decide +kernel
theorem dX10_rule_9 : decode cX10_rule 9 = .ok (.iload_n 1, 1) := by decide +kernel
theorem dX10_rule_10 : decode cX10_rule 10 = .ok (.tableswitch 142 0 9 #[54, 62, 70, 78, 86, 94, 104, 114, 124, 134], 54) := by decide +kernel
theorem dX10_rule_64 : decode cX10_rule 64 = .ok (.aload_n 0, 1) := by decide +kernel
theorem dX10_rule_65 : decode cX10_rule 65 = .ok (.getfield 32, 3) := by decide +kernel
theorem dX10_rule_68 : decode cX10_rule 68 = .ok (.getfield 152, 3) := by decide +kernel
theorem dX10_rule_71 : decode cX10_rule 71 = .ok (.ireturn, 1) := by decide +kernel
theorem dX10_rule_72 : decode cX10_rule 72 = .ok (.aload_n 0, 1) := by decide +kernel
theorem dX10_rule_73 : decode cX10_rule 73 = .ok (.getfield 32, 3) := by decide +kernel
theorem dX10_rule_76 : decode cX10_rule 76 = .ok (.getfield 155, 3) := by decide +kernel
theorem dX10_rule_79 : decode cX10_rule 79 = .ok (.ireturn, 1) := by decide +kernel
theorem dX10_rule_80 : decode cX10_rule 80 = .ok (.aload_n 0, 1) := by decide +kernel
theorem dX10_rule_81 : decode cX10_rule 81 = .ok (.getfield 32, 3) := by decide +kernel
theorem dX10_rule_84 : decode cX10_rule 84 = .ok (.getfield 158, 3) := by decide +kernel
theorem dX10_rule_87 : decode cX10_rule 87 = .ok (.ireturn, 1) := by decide +kernel
theorem dX10_rule_88 : decode cX10_rule 88 = .ok (.aload_n 0, 1) := by decide +kernel
theorem dX10_rule_89 : decode cX10_rule 89 = .ok (.getfield 32, 3) := by decide +kernel
theorem dX10_rule_92 : decode cX10_rule 92 = .ok (.getfield 161, 3) := by decide +kernel
theorem dX10_rule_95 : decode cX10_rule 95 = .ok (.ireturn, 1) := by decide +kernel
theorem dX10_rule_96 : decode cX10_rule 96 = .ok (.aload_n 0, 1) := by decide +kernel
theorem dX10_rule_97 : decode cX10_rule 97 = .ok (.getfield 32, 3) := by decide +kernel
theorem dX10_rule_100 : decode cX10_rule 100 = .ok (.getfield 164, 3) := by decide +kernel
theorem dX10_rule_103 : decode cX10_rule 103 = .ok (.ireturn, 1) := by decide +kernel
theorem dX10_rule_104 : decode cX10_rule 104 = .ok (.aload_n 0, 1) := by decide +kernel
theorem dX10_rule_105 : decode cX10_rule 105 = .ok (.getfield 63, 3) := by decide +kernel
theorem dX10_rule_108 : decode cX10_rule 108 = .ok (.getfield 167, 3) := by decide +kernel
theorem dX10_rule_111 : decode cX10_rule 111 = .ok (.iconst 0, 1) := by decide +kernel
theorem dX10_rule_112 : decode cX10_rule 112 = .ok (.iaload, 1) := by decide +kernel
theorem dX10_rule_113 : decode cX10_rule 113 = .ok (.ireturn, 1) := by decide +kernel
theorem dX10_rule_114 : decode cX10_rule 114 = .ok (.aload_n 0, 1) := by decide +kernel
theorem dX10_rule_115 : decode cX10_rule 115 = .ok (.getfield 63, 3) := by decide +kernel
theorem dX10_rule_118 : decode cX10_rule 118 = .ok (.getfield 167, 3) := by decide +kernel
theorem dX10_rule_121 : decode cX10_rule 121 = .ok (.iconst 1, 1) := by decide +kernel
theorem dX10_rule_122 : decode cX10_rule 122 = .ok (.iaload, 1) := by decide +kernel
theorem dX10_rule_123 : decode cX10_rule 123 = .ok (.ireturn, 1) := by decide +kernel
theorem dX10_rule_124 : decode cX10_rule 124 = .ok (.aload_n 0, 1) := by decide +kernel
theorem dX10_rule_125 : decode cX10_rule 125 = .ok (.getfield 63, 3) := by decide +kernel
theorem dX10_rule_128 : decode cX10_rule 128 = .ok (.getfield 167, 3) := by decide +kernel
theorem dX10_rule_131 : decode cX10_rule 131 = .ok (.iconst 2, 1) := by decide +kernel
theorem dX10_rule_132 : decode cX10_rule 132 = .ok (.iaload, 1) := by decide +kernel
theorem dX10_rule_133 : decode cX10_rule 133 = .ok (.ireturn, 1) := by decide +kernel
theorem dX10_rule_134 : decode cX10_rule 134 = .ok (.aload_n 0, 1) := by decide +kernel
theorem dX10_rule_135 : decode cX10_rule 135 = .ok (.getfield 63, 3) := by decide +kernel
theorem dX10_rule_138 : decode cX10_rule 138 = .ok (.getfield 167, 3) := by decide +kernel
theorem dX10_rule_141 : decode cX10_rule 141 = .ok (.iconst 3, 1) := by decide +kernel
theorem dX10_rule_142 : decode cX10_rule 142 = .ok (.iaload, 1) := by decide +kernel
theorem dX10_rule_143 : decode cX10_rule 143 = .ok (.ireturn, 1) := by decide +kernel
theorem dX10_rule_144 : decode cX10_rule 144 = .ok (.aload_n 0, 1) := by decide +kernel
theorem dX10_rule_145 : decode cX10_rule 145 = .ok (.getfield 38, 3) := by decide +kernel
theorem dX10_rule_148 : decode cX10_rule 148 = .ok (.getfield 170, 3) := by decide +kernel
theorem dX10_rule_151 : decode cX10_rule 151 = .ok (.ireturn, 1) := by decide +kernel
theorem dX10_rule_152 : decode cX10_rule 152 = .ok (.iconst (-1), 1) := by decide +kernel
theorem dX10_rule_153 : decode cX10_rule 153 = .ok (.ireturn, 1) := by decide +kernel
theorem dX10_triangle_0 : decode cX10_triangle 0 = .ok (.aload_n 0, 1) := by decide +kernel
theorem dX10_triangle_1 : decode cX10_triangle 1 = .ok (.getfield 32, 3) := by decide +kernel
theorem dX10_triangle_4 : decode cX10_triangle 4 = .ok (.iload_n 1, 1) := by decide +kernel
theorem dX10_triangle_5 : decode cX10_triangle 5 = .ok (.invokevirtual 173, 3) := by decide +kernel
theorem dX10_triangle_8 : decode cX10_triangle 8 = .ok (.ifCond .eq 13, 3) := by decide +kernel
theorem dX10_triangle_11 : decode cX10_triangle 11 = .ok (.iload_n 2, 1) := by decide +kernel
theorem dX10_triangle_12 : decode cX10_triangle 12 = .ok (.ifCond .lt 9, 3) := by decide +kernel
theorem dX10_triangle_15 : decode cX10_triangle 15 = .ok (.iload_n 2, 1) := by decide +kernel
theorem dX10_triangle_16 : decode cX10_triangle 16 = .ok (.bipush 11, 2) := by decide +kernel
theorem dX10_triangle_18 : decode cX10_triangle 18 = .ok (.if_icmp .le 11, 3) := by decide +kernel
theorem dX10_triangle_21 : decode cX10_triangle 21 = .ok (.new 177, 3) := by decide +kernel
theorem dX10_triangle_24 : decode cX10_triangle 24 = .ok (.dup, 1) := by decide +kernel
theorem dX10_triangle_25 : decode cX10_triangle 25 = .ok (.invokespecial 179, 3) := by decide +kernel
theorem dX10_triangle_28 : decode cX10_triangle 28 = .ok (.athrow, 1) := by decide +kernel
theorem dX10_triangle_29 : decode cX10_triangle 29 = .ok (.aload_n 0, 1) := by decide +kernel
theorem dX10_triangle_30 : decode cX10_triangle 30 = .ok (.getfield 47, 3) := by decide +kernel
theorem dX10_triangle_33 : decode cX10_triangle 33 = .ok (.getfield 180, 3) := by decide +kernel
theorem dX10_triangle_36 : decode cX10_triangle 36 = .ok (.iload_n 1, 1) := by decide +kernel
theorem dX10_triangle_37 : decode cX10_triangle 37 = .ok (.aaload, 1) := by decide +kernel
theorem dX10_triangle_38 : decode cX10_triangle 38 = .ok (.astore_n 3, 1) := by decide +kernel
theorem dX10_triangle_39 : decode cX10_triangle 39 = .ok (.iload_n 2, 1) := by decide +kernel
theorem dX10_triangle_40 : decode cX10_triangle 40 = .ok (.tableswitch 178 0 10 #[60, 65, 75, 85, 95, 116, 121, 126, 139, 152, 165], 60) := by decide +kernel
theorem dX10_triangle_100 : decode cX10_triangle 100 = .ok (.aload_n 3, 1) := by decide +kernel
theorem dX10_triangle_101 : decode cX10_triangle 101 = .ok (.getfield 184, 3) := by decide +kernel
theorem dX10_triangle_104 : decode cX10_triangle 104 = .ok (.ireturn, 1) := by decide +kernel
theorem dX10_triangle_105 : decode cX10_triangle 105 = .ok (.aload_n 0, 1) := by decide +kernel
theorem dX10_triangle_106 : decode cX10_triangle 106 = .ok (.getfield 32, 3) := by decide +kernel
theorem dX10_triangle_109 : decode cX10_triangle 109 = .ok (.getfield 189, 3) := by decide +kernel
theorem dX10_triangle_112 : decode cX10_triangle 112 = .ok (.iload_n 1, 1) := by decide +kernel
theorem dX10_triangle_113 : decode cX10_triangle 113 = .ok (.iaload, 1) := by decide +kernel
theorem dX10_triangle_114 : decode cX10_triangle 114 = .ok (.ireturn, 1) := by decide +kernel
theorem dX10_triangle_115 : decode cX10_triangle 115 = .ok (.aload_n 0, 1) := by decide +kernel
theorem dX10_triangle_116 : decode cX10_triangle 116 = .ok (.getfield 32, 3) := by decide +kernel
theorem dX10_triangle_119 : decode cX10_triangle 119 = .ok (.getfield 192, 3) := by decide +kernel
theorem dX10_triangle_122 : decode cX10_triangle 122 = .ok (.iload_n 1, 1) := by decide +kernel
theorem dX10_triangle_123 : decode cX10_triangle 123 = .ok (.iaload, 1) := by decide +kernel
theorem dX10_triangle_124 : decode cX10_triangle 124 = .ok (.ireturn, 1) := by decide +kernel
theorem dX10_triangle_125 : decode cX10_triangle 125 = .ok (.aload_n 0, 1) := by decide +kernel
theorem dX10_triangle_126 : decode cX10_triangle 126 = .ok (.getfield 32, 3) := by decide +kernel
theorem dX10_triangle_129 : decode cX10_triangle 129 = .ok (.getfield 195, 3) := by decide +kernel
theorem dX10_triangle_132 : decode cX10_triangle 132 = .ok (.iload_n 1, 1) := by decide +kernel
theorem dX10_triangle_133 : decode cX10_triangle 133 = .ok (.iaload, 1) := by decide +kernel
theorem dX10_triangle_134 : decode cX10_triangle 134 = .ok (.ireturn, 1) := by decide +kernel
theorem dX10_triangle_135 : decode cX10_triangle 135 = .ok (.aload_n 0, 1) := by decide +kernel
theorem dX10_triangle_136 : decode cX10_triangle 136 = .ok (.getfield 47, 3) := by decide +kernel
theorem dX10_triangle_139 : decode cX10_triangle 139 = .ok (.aload_n 0, 1) := by decide +kernel
theorem dX10_triangle_140 : decode cX10_triangle 140 = .ok (.getfield 63, 3) := by decide +kernel
theorem dX10_triangle_143 : decode cX10_triangle 143 = .ok (.iload_n 1, 1) := by decide +kernel
theorem dX10_triangle_144 : decode cX10_triangle 144 = .ok (.invokevirtual 198, 3) := by decide +kernel
theorem dX10_triangle_147 : decode cX10_triangle 147 = .ok (.ifCond .eq 7, 3) := by decide +kernel
theorem dX10_triangle_150 : decode cX10_triangle 150 = .ok (.iconst 1, 1) := by decide +kernel
theorem dX10_triangle_151 : decode cX10_triangle 151 = .ok (.goto 4, 3) := by decide +kernel
theorem dX10_triangle_154 : decode cX10_triangle 154 = .ok (.iconst 0, 1) := by decide +kernel
theorem dX10_triangle_155 : decode cX10_triangle 155 = .ok (.ireturn, 1) := by decide +kernel
theorem dX10_triangle_156 : decode cX10_triangle 156 = .ok (.aload_n 3, 1) := by decide +kernel
theorem dX10_triangle_157 : decode cX10_triangle 157 = .ok (.getfield 202, 3) := by decide +kernel
theorem dX10_triangle_160 : decode cX10_triangle 160 = .ok (.ireturn, 1) := by decide +kernel
theorem dX10_triangle_161 : decode cX10_triangle 161 = .ok (.aload_n 3, 1) := by decide +kernel
theorem dX10_triangle_162 : decode cX10_triangle 162 = .ok (.getfield 205, 3) := by decide +kernel
theorem dX10_triangle_165 : decode cX10_triangle 165 = .ok (.ireturn, 1) := by decide +kernel
theorem dX10_triangle_166 : decode cX10_triangle 166 = .ok (.aload_n 0, 1) := by decide +kernel
theorem dX10_triangle_167 : decode cX10_triangle 167 = .ok (.getfield 47, 3) := by decide +kernel
theorem dX10_triangle_170 : decode cX10_triangle 170 = .ok (.aload_n 0, 1) := by decide +kernel
theorem dX10_triangle_171 : decode cX10_triangle 171 = .ok (.getfield 63, 3) := by decide +kernel
theorem dX10_triangle_174 : decode cX10_triangle 174 = .ok (.iload_n 1, 1) := by decide +kernel
theorem dX10_triangle_175 : decode cX10_triangle 175 = .ok (.invokevirtual 208, 3) := by decide +kernel
theorem dX10_triangle_178 : decode cX10_triangle 178 = .ok (.ireturn, 1) := by decide +kernel
theorem dX10_triangle_179 : decode cX10_triangle 179 = .ok (.aload_n 0, 1) := by decide +kernel
theorem dX10_triangle_180 : decode cX10_triangle 180 = .ok (.getfield 47, 3) := by decide +kernel
theorem dX10_triangle_183 : decode cX10_triangle 183 = .ok (.aload_n 0, 1) := by decide +kernel
theorem dX10_triangle_184 : decode cX10_triangle 184 = .ok (.getfield 63, 3) := by decide +kernel
theorem dX10_triangle_187 : decode cX10_triangle 187 = .ok (.iload_n 1, 1) := by decide +kernel
theorem dX10_triangle_188 : decode cX10_triangle 188 = .ok (.invokevirtual 212, 3) := by decide +kernel
theorem dX10_triangle_191 : decode cX10_triangle 191 = .ok (.ireturn, 1) := by decide +kernel
theorem dX10_triangle_192 : decode cX10_triangle 192 = .ok (.aload_n 0, 1) := by decide +kernel
theorem dX10_triangle_193 : decode cX10_triangle 193 = .ok (.getfield 47, 3) := by decide +kernel
theorem dX10_triangle_196 : decode cX10_triangle 196 = .ok (.aload_n 0, 1) := by decide +kernel
theorem dX10_triangle_197 : decode cX10_triangle 197 = .ok (.getfield 63, 3) := by decide +kernel
theorem dX10_triangle_200 : decode cX10_triangle 200 = .ok (.iload_n 1, 1) := by decide +kernel
theorem dX10_triangle_201 : decode cX10_triangle 201 = .ok (.invokevirtual 215, 3) := by decide +kernel
theorem dX10_triangle_204 : decode cX10_triangle 204 = .ok (.ireturn, 1) := by decide +kernel
theorem dX10_triangle_205 : decode cX10_triangle 205 = .ok (.aload_n 0, 1) := by decide +kernel
theorem dX10_triangle_206 : decode cX10_triangle 206 = .ok (.getfield 63, 3) := by decide +kernel
theorem dX10_triangle_209 : decode cX10_triangle 209 = .ok (.getfield 218, 3) := by decide +kernel
theorem dX10_triangle_212 : decode cX10_triangle 212 = .ok (.iload_n 1, 1) := by decide +kernel
theorem dX10_triangle_213 : decode cX10_triangle 213 = .ok (.laload, 1) := by decide +kernel
theorem dX10_triangle_214 : decode cX10_triangle 214 = .ok (.invokestatic 222, 3) := by decide +kernel
theorem dX10_triangle_217 : decode cX10_triangle 217 = .ok (.ireturn, 1) := by decide +kernel
theorem dX10_triangle_218 : decode cX10_triangle 218 = .ok (.aload_n 0, 1) := by decide +kernel
theorem dX10_triangle_219 : decode cX10_triangle 219 = .ok (.getfield 47, 3) := by decide +kernel
theorem dX10_triangle_222 : decode cX10_triangle 222 = .ok (.aload_n 0, 1) := by decide +kernel
theorem dX10_triangle_223 : decode cX10_triangle 223 = .ok (.getfield 63, 3) := by decide +kernel
theorem dX10_triangle_226 : decode cX10_triangle 226 = .ok (.iload_n 1, 1) := by decide +kernel
theorem dX10_triangle_227 : decode cX10_triangle 227 = .ok (.invokevirtual 228, 3) := by decide +kernel
theorem dX10_triangle_230 : decode cX10_triangle 230 = .ok (.ireturn, 1) := by decide +kernel
theorem dX10_corner_0 : decode cX10_corner 0 = .ok (.aload_n 0, 1) := by decide +kernel
theorem dX10_corner_1 : decode cX10_corner 1 = .ok (.getfield 32, 3) := by decide +kernel
theorem dX10_corner_4 : decode cX10_corner 4 = .ok (.iload_n 1, 1) := by decide +kernel
theorem dX10_corner_5 : decode cX10_corner 5 = .ok (.invokevirtual 173, 3) := by decide +kernel
theorem dX10_corner_8 : decode cX10_corner 8 = .ok (.ifCond .eq 21, 3) := by decide +kernel
theorem dX10_corner_11 : decode cX10_corner 11 = .ok (.iload_n 2, 1) := by decide +kernel
theorem dX10_corner_12 : decode cX10_corner 12 = .ok (.ifCond .lt 17, 3) := by decide +kernel
theorem dX10_corner_15 : decode cX10_corner 15 = .ok (.iload_n 2, 1) := by decide +kernel
theorem dX10_corner_16 : decode cX10_corner 16 = .ok (.iconst 2, 1) := by decide +kernel
theorem dX10_corner_17 : decode cX10_corner 17 = .ok (.if_icmp .gt 12, 3) := by decide +kernel
theorem dX10_corner_20 : decode cX10_corner 20 = .ok (.iload_n 3, 1) := by decide +kernel
theorem dX10_corner_21 : decode cX10_corner 21 = .ok (.ifCond .lt 8, 3) := by decide +kernel
theorem dX10_corner_24 : decode cX10_corner 24 = .ok (.iload_n 3, 1) := by decide +kernel
theorem dX10_corner_25 : decode cX10_corner 25 = .ok (.iconst 2, 1) := by decide +kernel
theorem dX10_corner_26 : decode cX10_corner 26 = .ok (.if_icmp .le 6, 3) := by decide +kernel
theorem dX10_corner_29 : decode cX10_corner 29 = .ok (.ldc 231, 2) := by decide +kernel
theorem dX10_corner_31 : decode cX10_corner 31 = .ok (.ireturn, 1) := by decide +kernel
theorem dX10_corner_32 : decode cX10_corner 32 = .ok (.iload_n 3, 1) := by decide +kernel
theorem dX10_corner_33 : decode cX10_corner 33 = .ok (.iconst 2, 1) := by decide +kernel
theorem dX10_corner_34 : decode cX10_corner 34 = .ok (.if_icmp .ne 17, 3) := by decide +kernel
theorem dX10_corner_37 : decode cX10_corner 37 = .ok (.aload_n 0, 1) := by decide +kernel
theorem dX10_corner_38 : decode cX10_corner 38 = .ok (.getfield 32, 3) := by decide +kernel
theorem dX10_corner_41 : decode cX10_corner 41 = .ok (.getfield 232, 3) := by decide +kernel
theorem dX10_corner_44 : decode cX10_corner 44 = .ok (.iload_n 1, 1) := by decide +kernel
theorem dX10_corner_45 : decode cX10_corner 45 = .ok (.iconst 3, 1) := by decide +kernel
theorem dX10_corner_46 : decode cX10_corner 46 = .ok (.imul, 1) := by decide +kernel
theorem dX10_corner_47 : decode cX10_corner 47 = .ok (.iload_n 2, 1) := by decide +kernel
theorem dX10_corner_48 : decode cX10_corner 48 = .ok (.iadd, 1) := by decide +kernel
theorem dX10_corner_49 : decode cX10_corner 49 = .ok (.iaload, 1) := by decide +kernel
theorem dX10_corner_50 : decode cX10_corner 50 = .ok (.ireturn, 1) := by decide +kernel
theorem dX10_corner_51 : decode cX10_corner 51 = .ok (.aload_n 0, 1) := by decide +kernel
theorem dX10_corner_52 : decode cX10_corner 52 = .ok (.getfield 63, 3) := by decide +kernel
theorem dX10_corner_55 : decode cX10_corner 55 = .ok (.getfield 235, 3) := by decide +kernel
theorem dX10_corner_58 : decode cX10_corner 58 = .ok (.iload_n 1, 1) := by decide +kernel
theorem dX10_corner_59 : decode cX10_corner 59 = .ok (.bipush 6, 2) := by decide +kernel
theorem dX10_corner_61 : decode cX10_corner 61 = .ok (.imul, 1) := by decide +kernel
theorem dX10_corner_62 : decode cX10_corner 62 = .ok (.iload_n 2, 1) := by decide +kernel
theorem dX10_corner_63 : decode cX10_corner 63 = .ok (.iconst 2, 1) := by decide +kernel
theorem dX10_corner_64 : decode cX10_corner 64 = .ok (.imul, 1) := by decide +kernel
theorem dX10_corner_65 : decode cX10_corner 65 = .ok (.iadd, 1) := by decide +kernel
theorem dX10_corner_66 : decode cX10_corner 66 = .ok (.iload_n 3, 1) := by decide +kernel
theorem dX10_corner_67 : decode cX10_corner 67 = .ok (.iadd, 1) := by decide +kernel
theorem dX10_corner_68 : decode cX10_corner 68 = .ok (.iaload, 1) := by decide +kernel
theorem dX10_corner_69 : decode cX10_corner 69 = .ok (.ireturn, 1) := by decide +kernel
theorem dX10_edge_0 : decode cX10_edge 0 = .ok (.aload_n 0, 1) := by decide +kernel
theorem dX10_edge_1 : decode cX10_edge 1 = .ok (.getfield 32, 3) := by decide +kernel
theorem dX10_edge_4 : decode cX10_edge 4 = .ok (.iload_n 1, 1) := by decide +kernel
theorem dX10_edge_5 : decode cX10_edge 5 = .ok (.invokevirtual 173, 3) := by decide +kernel
theorem dX10_edge_8 : decode cX10_edge 8 = .ok (.ifCond .eq 27, 3) := by decide +kernel
theorem dX10_edge_11 : decode cX10_edge 11 = .ok (.iload_n 2, 1) := by decide +kernel
theorem dX10_edge_12 : decode cX10_edge 12 = .ok (.ifCond .lt 23, 3) := by decide +kernel
theorem dX10_edge_15 : decode cX10_edge 15 = .ok (.iload_n 2, 1) := by decide +kernel
theorem dX10_edge_16 : decode cX10_edge 16 = .ok (.iconst 2, 1) := by decide +kernel
theorem dX10_edge_17 : decode cX10_edge 17 = .ok (.if_icmp .gt 18, 3) := by decide +kernel
theorem dX10_edge_20 : decode cX10_edge 20 = .ok (.iload_n 3, 1) := by decide +kernel
theorem dX10_edge_21 : decode cX10_edge 21 = .ok (.invokestatic 238, 3) := by decide +kernel
theorem dX10_edge_24 : decode cX10_edge 24 = .ok (.ifCond .eq 11, 3) := by decide +kernel
theorem dX10_edge_27 : decode cX10_edge 27 = .ok (.iload 4, 2) := by decide +kernel
theorem dX10_edge_29 : decode cX10_edge 29 = .ok (.invokestatic 238, 3) := by decide +kernel
theorem dX10_edge_32 : decode cX10_edge 32 = .ok (.ifCond .ne 6, 3) := by decide +kernel
theorem dX10_edge_35 : decode cX10_edge 35 = .ok (.ldc 231, 2) := by decide +kernel
theorem dX10_edge_37 : decode cX10_edge 37 = .ok (.ireturn, 1) := by decide +kernel
theorem dX10_edge_38 : decode cX10_edge 38 = .ok (.aload_n 0, 1) := by decide +kernel
theorem dX10_edge_39 : decode cX10_edge 39 = .ok (.getfield 47, 3) := by decide +kernel
theorem dX10_edge_42 : decode cX10_edge 42 = .ok (.getfield 180, 3) := by decide +kernel
theorem dX10_edge_45 : decode cX10_edge 45 = .ok (.iload_n 1, 1) := by decide +kernel
theorem dX10_edge_46 : decode cX10_edge 46 = .ok (.aaload, 1) := by decide +kernel
theorem dX10_edge_47 : decode cX10_edge 47 = .ok (.iload_n 2, 1) := by decide +kernel
theorem dX10_edge_48 : decode cX10_edge 48 = .ok (.iload_n 3, 1) := by decide +kernel
theorem dX10_edge_49 : decode cX10_edge 49 = .ok (.iload 4, 2) := by decide +kernel
theorem dX10_edge_51 : decode cX10_edge 51 = .ok (.invokevirtual 241, 3) := by decide +kernel
theorem dX10_edge_54 : decode cX10_edge 54 = .ok (.ireturn, 1) := by decide +kernel
theorem dX10_isPoint_0 : decode cX10_isPoint 0 = .ok (.iload_n 0, 1) := by decide +kernel
theorem dX10_isPoint_1 : decode cX10_isPoint 1 = .ok (.bipush (-99), 2) := by decide +kernel
theorem dX10_isPoint_3 : decode cX10_isPoint 3 = .ok (.if_icmp .lt 14, 3) := by decide +kernel
theorem dX10_isPoint_6 : decode cX10_isPoint 6 = .ok (.iload_n 0, 1) := by decide +kernel
theorem dX10_isPoint_7 : decode cX10_isPoint 7 = .ok (.sipush 160, 3) := by decide +kernel
theorem dX10_isPoint_10 : decode cX10_isPoint 10 = .ok (.if_icmp .gt 7, 3) := by decide +kernel
theorem dX10_isPoint_13 : decode cX10_isPoint 13 = .ok (.iconst 1, 1) := by decide +kernel
theorem dX10_isPoint_14 : decode cX10_isPoint 14 = .ok (.goto 4, 3) := by decide +kernel
theorem dX10_isPoint_17 : decode cX10_isPoint 17 = .ok (.iconst 0, 1) := by decide +kernel
theorem dX10_isPoint_18 : decode cX10_isPoint 18 = .ok (.ireturn, 1) := by decide +kernel
theorem dX10_mask_0 : decode cX10_mask 0 = .ok (.aload_n 0, 1) := by decide +kernel
theorem dX10_mask_1 : decode cX10_mask 1 = .ok (.getfield 32, 3) := by decide +kernel
theorem dX10_mask_4 : decode cX10_mask 4 = .ok (.iload_n 1, 1) := by decide +kernel
theorem dX10_mask_5 : decode cX10_mask 5 = .ok (.invokevirtual 173, 3) := by decide +kernel
theorem dX10_mask_8 : decode cX10_mask 8 = .ok (.ifCond .eq 15, 3) := by decide +kernel
theorem dX10_mask_11 : decode cX10_mask 11 = .ok (.aload_n 0, 1) := by decide +kernel
theorem dX10_mask_12 : decode cX10_mask 12 = .ok (.getfield 38, 3) := by decide +kernel
theorem dX10_mask_15 : decode cX10_mask 15 = .ok (.iload_n 2, 1) := by decide +kernel
theorem dX10_mask_16 : decode cX10_mask 16 = .ok (.iload_n 3, 1) := by decide +kernel
theorem dX10_mask_17 : decode cX10_mask 17 = .ok (.invokevirtual 245, 3) := by decide +kernel
theorem dX10_mask_20 : decode cX10_mask 20 = .ok (.ifCond .ne 5, 3) := by decide +kernel
theorem dX10_mask_23 : decode cX10_mask 23 = .ok (.iconst (-1), 1) := by decide +kernel
theorem dX10_mask_24 : decode cX10_mask 24 = .ok (.ireturn, 1) := by decide +kernel
theorem dX10_mask_25 : decode cX10_mask 25 = .ok (.iconst 0, 1) := by decide +kernel
theorem dX10_mask_26 : decode cX10_mask 26 = .ok (.istore 4, 2) := by decide +kernel
theorem dX10_mask_28 : decode cX10_mask 28 = .ok (.iconst 0, 1) := by decide +kernel
theorem dX10_mask_29 : decode cX10_mask 29 = .ok (.istore 5, 2) := by decide +kernel
theorem dX10_mask_31 : decode cX10_mask 31 = .ok (.iload 5, 2) := by decide +kernel
theorem dX10_mask_33 : decode cX10_mask 33 = .ok (.aload_n 0, 1) := by decide +kernel
theorem dX10_mask_34 : decode cX10_mask 34 = .ok (.getfield 38, 3) := by decide +kernel
theorem dX10_mask_37 : decode cX10_mask 37 = .ok (.getfield 249, 3) := by decide +kernel
theorem dX10_mask_40 : decode cX10_mask 40 = .ok (.if_icmp .ge 41, 3) := by decide +kernel
theorem dX10_mask_43 : decode cX10_mask 43 = .ok (.aload_n 0, 1) := by decide +kernel
theorem dX10_mask_44 : decode cX10_mask 44 = .ok (.getfield 47, 3) := by decide +kernel
theorem dX10_mask_47 : decode cX10_mask 47 = .ok (.aload_n 0, 1) := by decide +kernel
theorem dX10_mask_48 : decode cX10_mask 48 = .ok (.getfield 63, 3) := by decide +kernel
theorem dX10_mask_51 : decode cX10_mask 51 = .ok (.iload_n 1, 1) := by decide +kernel
theorem dX10_mask_52 : decode cX10_mask 52 = .ok (.iload_n 2, 1) := by decide +kernel
theorem dX10_mask_53 : decode cX10_mask 53 = .ok (.iload_n 3, 1) := by decide +kernel
theorem dX10_mask_54 : decode cX10_mask 54 = .ok (.invokestatic 250, 3) := by decide +kernel
theorem dX10_mask_57 : decode cX10_mask 57 = .ok (.iload 5, 2) := by decide +kernel
theorem dX10_mask_59 : decode cX10_mask 59 = .ok (.iadd, 1) := by decide +kernel
theorem dX10_mask_60 : decode cX10_mask 60 = .ok (.invokevirtual 254, 3) := by decide +kernel
theorem dX10_mask_63 : decode cX10_mask 63 = .ok (.ifCond .lt 12, 3) := by decide +kernel
theorem dX10_mask_66 : decode cX10_mask 66 = .ok (.iload 4, 2) := by decide +kernel
theorem dX10_mask_68 : decode cX10_mask 68 = .ok (.iconst 1, 1) := by decide +kernel
theorem dX10_mask_69 : decode cX10_mask 69 = .ok (.iload 5, 2) := by decide +kernel
theorem dX10_mask_71 : decode cX10_mask 71 = .ok (.ishl, 1) := by decide +kernel
theorem dX10_mask_72 : decode cX10_mask 72 = .ok (.ior, 1) := by decide +kernel
theorem dX10_mask_73 : decode cX10_mask 73 = .ok (.istore 4, 2) := by decide +kernel
theorem dX10_mask_75 : decode cX10_mask 75 = .ok (.iinc 5 1, 3) := by decide +kernel
theorem dX10_mask_78 : decode cX10_mask 78 = .ok (.goto (-47), 3) := by decide +kernel
theorem dX10_mask_81 : decode cX10_mask 81 = .ok (.iload 4, 2) := by decide +kernel
theorem dX10_mask_83 : decode cX10_mask 83 = .ok (.ireturn, 1) := by decide +kernel
theorem dX10_depth_0 : decode cX10_depth 0 = .ok (.aload_n 0, 1) := by decide +kernel
theorem dX10_depth_1 : decode cX10_depth 1 = .ok (.getfield 32, 3) := by decide +kernel
theorem dX10_depth_4 : decode cX10_depth 4 = .ok (.iload_n 1, 1) := by decide +kernel
theorem dX10_depth_5 : decode cX10_depth 5 = .ok (.invokevirtual 173, 3) := by decide +kernel
theorem dX10_depth_8 : decode cX10_depth 8 = .ok (.ifCond .eq 17, 3) := by decide +kernel
theorem dX10_depth_11 : decode cX10_depth 11 = .ok (.aload_n 0, 1) := by decide +kernel
theorem dX10_depth_12 : decode cX10_depth 12 = .ok (.getfield 38, 3) := by decide +kernel
theorem dX10_depth_15 : decode cX10_depth 15 = .ok (.iload_n 2, 1) := by decide +kernel
theorem dX10_depth_16 : decode cX10_depth 16 = .ok (.iload_n 3, 1) := by decide +kernel
theorem dX10_depth_17 : decode cX10_depth 17 = .ok (.iload 4, 2) := by decide +kernel
theorem dX10_depth_19 : decode cX10_depth 19 = .ok (.invokevirtual 258, 3) := by decide +kernel
theorem dX10_depth_22 : decode cX10_depth 22 = .ok (.ifCond .ne 5, 3) := by decide +kernel
theorem dX10_depth_25 : decode cX10_depth 25 = .ok (.iconst (-1), 1) := by decide +kernel
theorem dX10_depth_26 : decode cX10_depth 26 = .ok (.ireturn, 1) := by decide +kernel
theorem dX10_depth_27 : decode cX10_depth 27 = .ok (.aload_n 0, 1) := by decide +kernel
theorem dX10_depth_28 : decode cX10_depth 28 = .ok (.getfield 47, 3) := by decide +kernel
theorem dX10_depth_31 : decode cX10_depth 31 = .ok (.aload_n 0, 1) := by decide +kernel
theorem dX10_depth_32 : decode cX10_depth 32 = .ok (.getfield 63, 3) := by decide +kernel
theorem dX10_depth_35 : decode cX10_depth 35 = .ok (.iload_n 1, 1) := by decide +kernel
theorem dX10_depth_36 : decode cX10_depth 36 = .ok (.iload_n 2, 1) := by decide +kernel
theorem dX10_depth_37 : decode cX10_depth 37 = .ok (.iload_n 3, 1) := by decide +kernel
theorem dX10_depth_38 : decode cX10_depth 38 = .ok (.invokestatic 250, 3) := by decide +kernel
theorem dX10_depth_41 : decode cX10_depth 41 = .ok (.iload 4, 2) := by decide +kernel
theorem dX10_depth_43 : decode cX10_depth 43 = .ok (.iadd, 1) := by decide +kernel
theorem dX10_depth_44 : decode cX10_depth 44 = .ok (.invokevirtual 254, 3) := by decide +kernel
theorem dX10_depth_47 : decode cX10_depth 47 = .ok (.ireturn, 1) := by decide +kernel
theorem dX10_shade_0 : decode cX10_shade 0 = .ok (.aload_n 0, 1) := by decide +kernel
theorem dX10_shade_1 : decode cX10_shade 1 = .ok (.getfield 32, 3) := by decide +kernel
theorem dX10_shade_4 : decode cX10_shade 4 = .ok (.iload_n 1, 1) := by decide +kernel
theorem dX10_shade_5 : decode cX10_shade 5 = .ok (.invokevirtual 173, 3) := by decide +kernel
theorem dX10_shade_8 : decode cX10_shade 8 = .ok (.ifCond .eq 30, 3) := by decide +kernel
theorem dX10_shade_11 : decode cX10_shade 11 = .ok (.aload_n 0, 1) := by decide +kernel
theorem dX10_shade_12 : decode cX10_shade 12 = .ok (.getfield 38, 3) := by decide +kernel
theorem dX10_shade_15 : decode cX10_shade 15 = .ok (.iload_n 2, 1) := by decide +kernel
theorem dX10_shade_16 : decode cX10_shade 16 = .ok (.iload_n 3, 1) := by decide +kernel
theorem dX10_shade_17 : decode cX10_shade 17 = .ok (.invokevirtual 245, 3) := by decide +kernel
theorem dX10_shade_20 : decode cX10_shade 20 = .ok (.ifCond .eq 18, 3) := by decide +kernel
theorem dX10_shade_23 : decode cX10_shade 23 = .ok (.aload_n 0, 1) := by decide +kernel
theorem dX10_shade_24 : decode cX10_shade 24 = .ok (.getfield 47, 3) := by decide +kernel
theorem dX10_shade_27 : decode cX10_shade 27 = .ok (.getfield 180, 3) := by decide +kernel
theorem dX10_shade_30 : decode cX10_shade 30 = .ok (.iload_n 1, 1) := by decide +kernel
theorem dX10_shade_31 : decode cX10_shade 31 = .ok (.aaload, 1) := by decide +kernel
theorem dX10_shade_32 : decode cX10_shade 32 = .ok (.getfield 184, 3) := by decide +kernel
theorem dX10_shade_35 : decode cX10_shade 35 = .ok (.ifCond .ne 5, 3) := by decide +kernel
theorem dX10_shade_38 : decode cX10_shade 38 = .ok (.iconst (-1), 1) := by decide +kernel
theorem dX10_shade_39 : decode cX10_shade 39 = .ok (.ireturn, 1) := by decide +kernel
theorem dX10_shade_40 : decode cX10_shade 40 = .ok (.aload_n 0, 1) := by decide +kernel
theorem dX10_shade_41 : decode cX10_shade 41 = .ok (.getfield 47, 3) := by decide +kernel
theorem dX10_shade_44 : decode cX10_shade 44 = .ok (.getfield 180, 3) := by decide +kernel
theorem dX10_shade_47 : decode cX10_shade 47 = .ok (.iload_n 1, 1) := by decide +kernel
theorem dX10_shade_48 : decode cX10_shade 48 = .ok (.aaload, 1) := by decide +kernel
theorem dX10_shade_49 : decode cX10_shade 49 = .ok (.getfield 262, 3) := by decide +kernel
theorem dX10_shade_52 : decode cX10_shade 52 = .ok (.iload_n 3, 1) := by decide +kernel
theorem dX10_shade_53 : decode cX10_shade 53 = .ok (.bipush 8, 2) := by decide +kernel
theorem dX10_shade_55 : decode cX10_shade 55 = .ok (.imul, 1) := by decide +kernel
theorem dX10_shade_56 : decode cX10_shade 56 = .ok (.iload_n 2, 1) := by decide +kernel
theorem dX10_shade_57 : decode cX10_shade 57 = .ok (.iadd, 1) := by decide +kernel
theorem dX10_shade_58 : decode cX10_shade 58 = .ok (.iaload, 1) := by decide +kernel
theorem dX10_shade_59 : decode cX10_shade 59 = .ok (.ireturn, 1) := by decide +kernel
theorem dX10_sample_0 : decode cX10_sample 0 = .ok (.aload_n 0, 1) := by decide +kernel
theorem dX10_sample_1 : decode cX10_sample 1 = .ok (.getfield 38, 3) := by decide +kernel
theorem dX10_sample_4 : decode cX10_sample 4 = .ok (.iload_n 1, 1) := by decide +kernel
theorem dX10_sample_5 : decode cX10_sample 5 = .ok (.iload_n 2, 1) := by decide +kernel
theorem dX10_sample_6 : decode cX10_sample 6 = .ok (.iload_n 3, 1) := by decide +kernel
theorem dX10_sample_7 : decode cX10_sample 7 = .ok (.invokevirtual 258, 3) := by decide +kernel
theorem dX10_sample_10 : decode cX10_sample 10 = .ok (.ifCond .ne 6, 3) := by decide +kernel
theorem dX10_sample_13 : decode cX10_sample 13 = .ok (.ldc 231, 2) := by decide +kernel
theorem dX10_sample_15 : decode cX10_sample 15 = .ok (.ireturn, 1) := by decide +kernel
theorem dX10_sample_16 : decode cX10_sample 16 = .ok (.iload_n 1, 1) := by decide +kernel
theorem dX10_sample_17 : decode cX10_sample 17 = .ok (.iload_n 2, 1) := by decide +kernel
theorem dX10_sample_18 : decode cX10_sample 18 = .ok (.invokestatic 250, 3) := by decide +kernel
theorem dX10_sample_21 : decode cX10_sample 21 = .ok (.iload_n 3, 1) := by decide +kernel
theorem dX10_sample_22 : decode cX10_sample 22 = .ok (.iadd, 1) := by decide +kernel
theorem dX10_sample_23 : decode cX10_sample 23 = .ok (.istore 5, 2) := by decide +kernel
theorem dX10_sample_25 : decode cX10_sample 25 = .ok (.iload 4, 2) := by decide +kernel
theorem dX10_sample_27 : decode cX10_sample 27 = .ok (.tableswitch 58 0 2 #[25, 36, 47], 25) := by decide +kernel
theorem dX10_sample_52 : decode cX10_sample 52 = .ok (.aload_n 0, 1) := by decide +kernel
theorem dX10_sample_53 : decode cX10_sample 53 = .ok (.getfield 63, 3) := by decide +kernel
theorem dX10_sample_56 : decode cX10_sample 56 = .ok (.getfield 265, 3) := by decide +kernel
theorem dX10_sample_59 : decode cX10_sample 59 = .ok (.iload 5, 2) := by decide +kernel
theorem dX10_sample_61 : decode cX10_sample 61 = .ok (.iaload, 1) := by decide +kernel
theorem dX10_sample_62 : decode cX10_sample 62 = .ok (.ireturn, 1) := by decide +kernel
theorem dX10_sample_63 : decode cX10_sample 63 = .ok (.aload_n 0, 1) := by decide +kernel
theorem dX10_sample_64 : decode cX10_sample 64 = .ok (.getfield 63, 3) := by decide +kernel
theorem dX10_sample_67 : decode cX10_sample 67 = .ok (.getfield 268, 3) := by decide +kernel
theorem dX10_sample_70 : decode cX10_sample 70 = .ok (.iload 5, 2) := by decide +kernel
theorem dX10_sample_72 : decode cX10_sample 72 = .ok (.iaload, 1) := by decide +kernel
theorem dX10_sample_73 : decode cX10_sample 73 = .ok (.ireturn, 1) := by decide +kernel
theorem dX10_sample_74 : decode cX10_sample 74 = .ok (.aload_n 0, 1) := by decide +kernel
theorem dX10_sample_75 : decode cX10_sample 75 = .ok (.getfield 63, 3) := by decide +kernel
theorem dX10_sample_78 : decode cX10_sample 78 = .ok (.getfield 269, 3) := by decide +kernel
theorem dX10_sample_81 : decode cX10_sample 81 = .ok (.iload 5, 2) := by decide +kernel
theorem dX10_sample_83 : decode cX10_sample 83 = .ok (.iaload, 1) := by decide +kernel
theorem dX10_sample_84 : decode cX10_sample 84 = .ok (.ireturn, 1) := by decide +kernel
theorem dX10_sample_85 : decode cX10_sample 85 = .ok (.ldc 231, 2) := by decide +kernel
theorem dX10_sample_87 : decode cX10_sample 87 = .ok (.ireturn, 1) := by decide +kernel
theorem dX10_pixel_0 : decode cX10_pixel 0 = .ok (.aload_n 0, 1) := by decide +kernel
theorem dX10_pixel_1 : decode cX10_pixel 1 = .ok (.getfield 38, 3) := by decide +kernel
theorem dX10_pixel_4 : decode cX10_pixel 4 = .ok (.iload_n 1, 1) := by decide +kernel
theorem dX10_pixel_5 : decode cX10_pixel 5 = .ok (.iload_n 2, 1) := by decide +kernel
theorem dX10_pixel_6 : decode cX10_pixel 6 = .ok (.invokevirtual 245, 3) := by decide +kernel
theorem dX10_pixel_9 : decode cX10_pixel 9 = .ok (.ifCond .eq 23, 3) := by decide +kernel
theorem dX10_pixel_12 : decode cX10_pixel 12 = .ok (.aload_n 0, 1) := by decide +kernel
theorem dX10_pixel_13 : decode cX10_pixel 13 = .ok (.getfield 38, 3) := by decide +kernel
theorem dX10_pixel_16 : decode cX10_pixel 16 = .ok (.aload_n 0, 1) := by decide +kernel
theorem dX10_pixel_17 : decode cX10_pixel 17 = .ok (.getfield 63, 3) := by decide +kernel
theorem dX10_pixel_20 : decode cX10_pixel 20 = .ok (.iload_n 2, 1) := by decide +kernel
theorem dX10_pixel_21 : decode cX10_pixel 21 = .ok (.bipush 8, 2) := by decide +kernel
theorem dX10_pixel_23 : decode cX10_pixel 23 = .ok (.imul, 1) := by decide +kernel
theorem dX10_pixel_24 : decode cX10_pixel 24 = .ok (.iload_n 1, 1) := by decide +kernel
theorem dX10_pixel_25 : decode cX10_pixel 25 = .ok (.iadd, 1) := by decide +kernel
theorem dX10_pixel_26 : decode cX10_pixel 26 = .ok (.invokevirtual 272, 3) := by decide +kernel
theorem dX10_pixel_29 : decode cX10_pixel 29 = .ok (.goto 4, 3) := by decide +kernel
theorem dX10_pixel_32 : decode cX10_pixel 32 = .ok (.iconst (-1), 1) := by decide +kernel
theorem dX10_pixel_33 : decode cX10_pixel 33 = .ok (.ireturn, 1) := by decide +kernel
theorem dX10_tile_0 : decode cX10_tile 0 = .ok (.aload_n 0, 1) := by decide +kernel
theorem dX10_tile_1 : decode cX10_tile 1 = .ok (.getfield 38, 3) := by decide +kernel
theorem dX10_tile_4 : decode cX10_tile 4 = .ok (.iload_n 1, 1) := by decide +kernel
theorem dX10_tile_5 : decode cX10_tile 5 = .ok (.invokevirtual 275, 3) := by decide +kernel
theorem dX10_tile_8 : decode cX10_tile 8 = .ok (.ifCond .ne 5, 3) := by decide +kernel
theorem dX10_tile_11 : decode cX10_tile 11 = .ok (.iconst (-1), 1) := by decide +kernel
theorem dX10_tile_12 : decode cX10_tile 12 = .ok (.ireturn, 1) := by decide +kernel
theorem dX10_tile_13 : decode cX10_tile 13 = .ok (.iload_n 2, 1) := by decide +kernel
theorem dX10_tile_14 : decode cX10_tile 14 = .ok (.tableswitch 92 0 4 #[34, 44, 57, 70, 83], 34) := by decide +kernel
theorem dX10_tile_48 : decode cX10_tile 48 = .ok (.aload_n 0, 1) := by decide +kernel
theorem dX10_tile_49 : decode cX10_tile 49 = .ok (.getfield 63, 3) := by decide +kernel
theorem dX10_tile_52 : decode cX10_tile 52 = .ok (.getfield 278, 3) := by decide +kernel
theorem dX10_tile_55 : decode cX10_tile 55 = .ok (.iload_n 1, 1) := by decide +kernel
theorem dX10_tile_56 : decode cX10_tile 56 = .ok (.iaload, 1) := by decide +kernel
theorem dX10_tile_57 : decode cX10_tile 57 = .ok (.ireturn, 1) := by decide +kernel
theorem dX10_tile_58 : decode cX10_tile 58 = .ok (.aload_n 0, 1) := by decide +kernel
theorem dX10_tile_59 : decode cX10_tile 59 = .ok (.getfield 38, 3) := by decide +kernel
theorem dX10_tile_62 : decode cX10_tile 62 = .ok (.aload_n 0, 1) := by decide +kernel
theorem dX10_tile_63 : decode cX10_tile 63 = .ok (.getfield 63, 3) := by decide +kernel
theorem dX10_tile_66 : decode cX10_tile 66 = .ok (.iload_n 1, 1) := by decide +kernel
theorem dX10_tile_67 : decode cX10_tile 67 = .ok (.invokevirtual 281, 3) := by decide +kernel
theorem dX10_tile_70 : decode cX10_tile 70 = .ok (.ireturn, 1) := by decide +kernel
theorem dX10_tile_71 : decode cX10_tile 71 = .ok (.aload_n 0, 1) := by decide +kernel
theorem dX10_tile_72 : decode cX10_tile 72 = .ok (.getfield 38, 3) := by decide +kernel
theorem dX10_tile_75 : decode cX10_tile 75 = .ok (.aload_n 0, 1) := by decide +kernel
theorem dX10_tile_76 : decode cX10_tile 76 = .ok (.getfield 63, 3) := by decide +kernel
theorem dX10_tile_79 : decode cX10_tile 79 = .ok (.iload_n 1, 1) := by decide +kernel
theorem dX10_tile_80 : decode cX10_tile 80 = .ok (.invokevirtual 284, 3) := by decide +kernel
theorem dX10_tile_83 : decode cX10_tile 83 = .ok (.ireturn, 1) := by decide +kernel
theorem dX10_tile_84 : decode cX10_tile 84 = .ok (.aload_n 0, 1) := by decide +kernel
theorem dX10_tile_85 : decode cX10_tile 85 = .ok (.getfield 38, 3) := by decide +kernel
theorem dX10_tile_88 : decode cX10_tile 88 = .ok (.aload_n 0, 1) := by decide +kernel
theorem dX10_tile_89 : decode cX10_tile 89 = .ok (.getfield 63, 3) := by decide +kernel
theorem dX10_tile_92 : decode cX10_tile 92 = .ok (.iload_n 1, 1) := by decide +kernel
theorem dX10_tile_93 : decode cX10_tile 93 = .ok (.invokevirtual 287, 3) := by decide +kernel
theorem dX10_tile_96 : decode cX10_tile 96 = .ok (.ireturn, 1) := by decide +kernel
theorem dX10_tile_97 : decode cX10_tile 97 = .ok (.aload_n 0, 1) := by decide +kernel
theorem dX10_tile_98 : decode cX10_tile 98 = .ok (.getfield 38, 3) := by decide +kernel
theorem dX10_tile_101 : decode cX10_tile 101 = .ok (.iload_n 1, 1) := by decide +kernel
theorem dX10_tile_102 : decode cX10_tile 102 = .ok (.invokevirtual 290, 3) := by decide +kernel
theorem dX10_tile_105 : decode cX10_tile 105 = .ok (.ireturn, 1) := by decide +kernel
theorem dX10_tile_106 : decode cX10_tile 106 = .ok (.iconst (-1), 1) := by decide +kernel
theorem dX10_tile_107 : decode cX10_tile 107 = .ok (.ireturn, 1) := by decide +kernel
theorem dX10_bin_0 : decode cX10_bin 0 = .ok (.aload_n 0, 1) := by decide +kernel
theorem dX10_bin_1 : decode cX10_bin 1 = .ok (.getfield 38, 3) := by decide +kernel
theorem dX10_bin_4 : decode cX10_bin 4 = .ok (.iload_n 1, 1) := by decide +kernel
theorem dX10_bin_5 : decode cX10_bin 5 = .ok (.invokevirtual 275, 3) := by decide +kernel
theorem dX10_bin_8 : decode cX10_bin 8 = .ok (.ifCond .eq 20, 3) := by decide +kernel
theorem dX10_bin_11 : decode cX10_bin 11 = .ok (.iload_n 2, 1) := by decide +kernel
theorem dX10_bin_12 : decode cX10_bin 12 = .ok (.ifCond .lt 16, 3) := by decide +kernel
theorem dX10_bin_15 : decode cX10_bin 15 = .ok (.iload_n 2, 1) := by decide +kernel
theorem dX10_bin_16 : decode cX10_bin 16 = .ok (.aload_n 0, 1) := by decide +kernel
theorem dX10_bin_17 : decode cX10_bin 17 = .ok (.getfield 63, 3) := by decide +kernel
theorem dX10_bin_20 : decode cX10_bin 20 = .ok (.getfield 278, 3) := by decide +kernel
theorem dX10_bin_23 : decode cX10_bin 23 = .ok (.iload_n 1, 1) := by decide +kernel
theorem dX10_bin_24 : decode cX10_bin 24 = .ok (.iaload, 1) := by decide +kernel
theorem dX10_bin_25 : decode cX10_bin 25 = .ok (.if_icmp .lt 5, 3) := by decide +kernel
theorem dX10_bin_28 : decode cX10_bin 28 = .ok (.iconst (-1), 1) := by decide +kernel
theorem dX10_bin_29 : decode cX10_bin 29 = .ok (.ireturn, 1) := by decide +kernel
theorem dX10_bin_30 : decode cX10_bin 30 = .ok (.aload_n 0, 1) := by decide +kernel
theorem dX10_bin_31 : decode cX10_bin 31 = .ok (.getfield 63, 3) := by decide +kernel
theorem dX10_bin_34 : decode cX10_bin 34 = .ok (.getfield 293, 3) := by decide +kernel
theorem dX10_bin_37 : decode cX10_bin 37 = .ok (.iload_n 1, 1) := by decide +kernel
theorem dX10_bin_38 : decode cX10_bin 38 = .ok (.bipush 10, 2) := by decide +kernel
theorem dX10_bin_40 : decode cX10_bin 40 = .ok (.imul, 1) := by decide +kernel
theorem dX10_bin_41 : decode cX10_bin 41 = .ok (.iload_n 2, 1) := by decide +kernel
theorem dX10_bin_42 : decode cX10_bin 42 = .ok (.iadd, 1) := by decide +kernel
theorem dX10_bin_43 : decode cX10_bin 43 = .ok (.iaload, 1) := by decide +kernel
theorem dX10_bin_44 : decode cX10_bin 44 = .ok (.ireturn, 1) := by decide +kernel
theorem dX10_shaded_0 : decode cX10_shaded 0 = .ok (.aload_n 0, 1) := by decide +kernel
theorem dX10_shaded_1 : decode cX10_shaded 1 = .ok (.getfield 32, 3) := by decide +kernel
theorem dX10_shaded_4 : decode cX10_shaded 4 = .ok (.iload_n 1, 1) := by decide +kernel
theorem dX10_shaded_5 : decode cX10_shaded 5 = .ok (.invokevirtual 173, 3) := by decide +kernel
theorem dX10_shaded_8 : decode cX10_shaded 8 = .ok (.ifCond .eq 15, 3) := by decide +kernel
theorem dX10_shaded_11 : decode cX10_shaded 11 = .ok (.aload_n 0, 1) := by decide +kernel
theorem dX10_shaded_12 : decode cX10_shaded 12 = .ok (.getfield 63, 3) := by decide +kernel
theorem dX10_shaded_15 : decode cX10_shaded 15 = .ok (.getfield 218, 3) := by decide +kernel
theorem dX10_shaded_18 : decode cX10_shaded 18 = .ok (.iload_n 1, 1) := by decide +kernel
theorem dX10_shaded_19 : decode cX10_shaded 19 = .ok (.laload, 1) := by decide +kernel
theorem dX10_shaded_20 : decode cX10_shaded 20 = .ok (.goto 4, 3) := by decide +kernel
theorem dX10_shaded_23 : decode cX10_shaded 23 = .ok (.lconst 0, 1) := by decide +kernel
theorem dX10_shaded_24 : decode cX10_shaded 24 = .ok (.lreturn, 1) := by decide +kernel
theorem dX10_draw_0 : decode cX10_draw 0 = .ok (.aload_n 0, 1) := by decide +kernel
theorem dX10_draw_1 : decode cX10_draw 1 = .ok (.iconst 0, 1) := by decide +kernel
theorem dX10_draw_2 : decode cX10_draw 2 = .ok (.iload_n 1, 1) := by decide +kernel
theorem dX10_draw_3 : decode cX10_draw 3 = .ok (.iconst 0, 1) := by decide +kernel
theorem dX10_draw_4 : decode cX10_draw 4 = .ok (.iconst 0, 1) := by decide +kernel
theorem dX10_draw_5 : decode cX10_draw 5 = .ok (.iconst 0, 1) := by decide +kernel
theorem dX10_draw_6 : decode cX10_draw 6 = .ok (.iconst (-1), 1) := by decide +kernel
theorem dX10_draw_7 : decode cX10_draw 7 = .ok (.invokevirtual 296, 3) := by decide +kernel
theorem dX10_draw_10 : decode cX10_draw 10 = .ok (.ireturn, 1) := by decide +kernel
theorem dX10_flush_0 : decode cX10_flush 0 = .ok (.aload_n 0, 1) := by decide +kernel
theorem dX10_flush_1 : decode cX10_flush 1 = .ok (.iconst 1, 1) := by decide +kernel
theorem dX10_flush_2 : decode cX10_flush 2 = .ok (.iload_n 1, 1) := by decide +kernel
theorem dX10_flush_3 : decode cX10_flush 3 = .ok (.iconst 0, 1) := by decide +kernel
theorem dX10_flush_4 : decode cX10_flush 4 = .ok (.iconst 0, 1) := by decide +kernel
theorem dX10_flush_5 : decode cX10_flush 5 = .ok (.iconst 0, 1) := by decide +kernel
theorem dX10_flush_6 : decode cX10_flush 6 = .ok (.iconst (-1), 1) := by decide +kernel
theorem dX10_flush_7 : decode cX10_flush 7 = .ok (.invokevirtual 296, 3) := by decide +kernel
theorem dX10_flush_10 : decode cX10_flush 10 = .ok (.ireturn, 1) := by decide +kernel
theorem dX10_all_0 : decode cX10_all 0 = .ok (.aload_n 0, 1) := by decide +kernel
theorem dX10_all_1 : decode cX10_all 1 = .ok (.iconst 2, 1) := by decide +kernel
theorem dX10_all_2 : decode cX10_all 2 = .ok (.iconst 0, 1) := by decide +kernel
theorem dX10_all_3 : decode cX10_all 3 = .ok (.iconst 0, 1) := by decide +kernel
theorem dX10_all_4 : decode cX10_all 4 = .ok (.iconst 0, 1) := by decide +kernel
theorem dX10_all_5 : decode cX10_all 5 = .ok (.iconst 0, 1) := by decide +kernel
theorem dX10_all_6 : decode cX10_all 6 = .ok (.iconst (-1), 1) := by decide +kernel
theorem dX10_all_7 : decode cX10_all 7 = .ok (.invokevirtual 296, 3) := by decide +kernel
theorem dX10_all_10 : decode cX10_all 10 = .ok (.ireturn, 1) := by decide +kernel
theorem dX10_clear_0 : decode cX10_clear 0 = .ok (.aload_n 0, 1) := by decide +kernel
theorem dX10_clear_1 : decode cX10_clear 1 = .ok (.iconst 3, 1) := by decide +kernel
theorem dX10_clear_2 : decode cX10_clear 2 = .ok (.iconst 0, 1) := by decide +kernel
theorem dX10_clear_3 : decode cX10_clear 3 = .ok (.iconst 0, 1) := by decide +kernel
theorem dX10_clear_4 : decode cX10_clear 4 = .ok (.iconst 0, 1) := by decide +kernel
theorem dX10_clear_5 : decode cX10_clear 5 = .ok (.iconst 0, 1) := by decide +kernel
theorem dX10_clear_6 : decode cX10_clear 6 = .ok (.iconst (-1), 1) := by decide +kernel
theorem dX10_clear_7 : decode cX10_clear 7 = .ok (.invokevirtual 296, 3) := by decide +kernel
theorem dX10_clear_10 : decode cX10_clear 10 = .ok (.ireturn, 1) := by decide +kernel
theorem dX10_set_0 : decode cX10_set 0 = .ok (.iload_n 1, 1) := by decide +kernel
theorem dX10_set_1 : decode cX10_set 1 = .ok (.ifCond .lt 14, 3) := by decide +kernel
theorem dX10_set_4 : decode cX10_set 4 = .ok (.iload_n 1, 1) := by decide +kernel
theorem dX10_set_5 : decode cX10_set 5 = .ok (.iconst 4, 1) := by decide +kernel
theorem dX10_set_6 : decode cX10_set 6 = .ok (.if_icmp .ge 9, 3) := by decide +kernel
theorem dX10_set_9 : decode cX10_set 9 = .ok (.iconst 4, 1) := by decide +kernel
theorem dX10_set_10 : decode cX10_set 10 = .ok (.iload_n 1, 1) := by decide +kernel
theorem dX10_set_11 : decode cX10_set 11 = .ok (.iadd, 1) := by decide +kernel
theorem dX10_set_12 : decode cX10_set 12 = .ok (.goto 5, 3) := by decide +kernel
theorem dX10_set_15 : decode cX10_set 15 = .ok (.bipush 9, 2) := by decide +kernel
theorem dX10_set_17 : decode cX10_set 17 = .ok (.istore_n 3, 1) := by decide +kernel
theorem dX10_set_18 : decode cX10_set 18 = .ok (.aload_n 0, 1) := by decide +kernel
theorem dX10_set_19 : decode cX10_set 19 = .ok (.iload_n 3, 1) := by decide +kernel
theorem dX10_set_20 : decode cX10_set 20 = .ok (.iload_n 2, 1) := by decide +kernel
theorem dX10_set_21 : decode cX10_set 21 = .ok (.iconst 0, 1) := by decide +kernel
theorem dX10_set_22 : decode cX10_set 22 = .ok (.iconst 0, 1) := by decide +kernel
theorem dX10_set_23 : decode cX10_set 23 = .ok (.iconst 0, 1) := by decide +kernel
theorem dX10_set_24 : decode cX10_set 24 = .ok (.iconst (-1), 1) := by decide +kernel
theorem dX10_set_25 : decode cX10_set 25 = .ok (.invokevirtual 296, 3) := by decide +kernel
theorem dX10_set_28 : decode cX10_set 28 = .ok (.ireturn, 1) := by decide +kernel
theorem dX10_move_0 : decode cX10_move 0 = .ok (.aload_n 0, 1) := by decide +kernel
theorem dX10_move_1 : decode cX10_move 1 = .ok (.bipush 8, 2) := by decide +kernel
theorem dX10_move_3 : decode cX10_move 3 = .ok (.iload_n 1, 1) := by decide +kernel
theorem dX10_move_4 : decode cX10_move 4 = .ok (.iload_n 2, 1) := by decide +kernel
theorem dX10_move_5 : decode cX10_move 5 = .ok (.iload_n 3, 1) := by decide +kernel
theorem dX10_move_6 : decode cX10_move 6 = .ok (.iload 4, 2) := by decide +kernel
theorem dX10_move_8 : decode cX10_move 8 = .ok (.ldc 231, 2) := by decide +kernel
theorem dX10_move_10 : decode cX10_move 10 = .ok (.invokevirtual 296, 3) := by decide +kernel
theorem dX10_move_13 : decode cX10_move 13 = .ok (.ireturn, 1) := by decide +kernel
theorem dX10_act_0 : decode cX10_act 0 = .ok (.aload_n 0, 1) := by decide +kernel
theorem dX10_act_1 : decode cX10_act 1 = .ok (.getfield 47, 3) := by decide +kernel
theorem dX10_act_4 : decode cX10_act 4 = .ok (.aload_n 0, 1) := by decide +kernel
theorem dX10_act_5 : decode cX10_act 5 = .ok (.getfield 63, 3) := by decide +kernel
theorem dX10_act_8 : decode cX10_act 8 = .ok (.iload_n 1, 1) := by decide +kernel
theorem dX10_act_9 : decode cX10_act 9 = .ok (.iload_n 2, 1) := by decide +kernel
theorem dX10_act_10 : decode cX10_act 10 = .ok (.iload_n 3, 1) := by decide +kernel
theorem dX10_act_11 : decode cX10_act 11 = .ok (.iload 4, 2) := by decide +kernel
theorem dX10_act_13 : decode cX10_act 13 = .ok (.iload 5, 2) := by decide +kernel
theorem dX10_act_15 : decode cX10_act 15 = .ok (.invokevirtual 300, 3) := by decide +kernel
theorem dX10_act_18 : decode cX10_act 18 = .ok (.istore 7, 2) := by decide +kernel
theorem dX10_act_20 : decode cX10_act 20 = .ok (.iload 7, 2) := by decide +kernel
theorem dX10_act_22 : decode cX10_act 22 = .ok (.ifCond .lt 23, 3) := by decide +kernel
theorem dX10_act_25 : decode cX10_act 25 = .ok (.iload 7, 2) := by decide +kernel
theorem dX10_act_27 : decode cX10_act 27 = .ok (.iconst 4, 1) := by decide +kernel
theorem dX10_act_28 : decode cX10_act 28 = .ok (.if_icmp .ge 17, 3) := by decide +kernel
theorem dX10_act_31 : decode cX10_act 31 = .ok (.aload_n 0, 1) := by decide +kernel
theorem dX10_act_32 : decode cX10_act 32 = .ok (.getfield 84, 3) := by decide +kernel
theorem dX10_act_35 : decode cX10_act 35 = .ok (.iload 7, 2) := by decide +kernel
theorem dX10_act_37 : decode cX10_act 37 = .ok (.dup2, 1) := by decide +kernel
theorem dX10_act_38 : decode cX10_act 38 = .ok (.iaload, 1) := by decide +kernel
theorem dX10_act_39 : decode cX10_act 39 = .ok (.iconst 1, 1) := by decide +kernel
theorem dX10_act_40 : decode cX10_act 40 = .ok (.iadd, 1) := by decide +kernel
theorem dX10_act_41 : decode cX10_act 41 = .ok (.iastore, 1) := by decide +kernel
theorem dX10_act_42 : decode cX10_act 42 = .ok (.iload 6, 2) := by decide +kernel
theorem dX10_act_44 : decode cX10_act 44 = .ok (.ireturn, 1) := by decide +kernel
theorem dX10_act_45 : decode cX10_act 45 = .ok (.aload_n 0, 1) := by decide +kernel
theorem dX10_act_46 : decode cX10_act 46 = .ok (.getfield 73, 3) := by decide +kernel
theorem dX10_act_49 : decode cX10_act 49 = .ok (.aload_n 0, 1) := by decide +kernel
theorem dX10_act_50 : decode cX10_act 50 = .ok (.getfield 63, 3) := by decide +kernel
theorem dX10_act_53 : decode cX10_act 53 = .ok (.invokevirtual 304, 3) := by decide +kernel
theorem dX10_act_56 : decode cX10_act 56 = .ok (.aload_n 0, 1) := by decide +kernel
theorem dX10_act_57 : decode cX10_act 57 = .ok (.getfield 47, 3) := by decide +kernel
theorem dX10_act_60 : decode cX10_act 60 = .ok (.aload_n 0, 1) := by decide +kernel
theorem dX10_act_61 : decode cX10_act 61 = .ok (.getfield 63, 3) := by decide +kernel
theorem dX10_act_64 : decode cX10_act 64 = .ok (.iload_n 1, 1) := by decide +kernel
theorem dX10_act_65 : decode cX10_act 65 = .ok (.iload_n 2, 1) := by decide +kernel
theorem dX10_act_66 : decode cX10_act 66 = .ok (.iload_n 3, 1) := by decide +kernel
theorem dX10_act_67 : decode cX10_act 67 = .ok (.iload 4, 2) := by decide +kernel
theorem dX10_act_69 : decode cX10_act 69 = .ok (.iload 5, 2) := by decide +kernel
theorem dX10_act_71 : decode cX10_act 71 = .ok (.invokevirtual 307, 3) := by decide +kernel
theorem dX10_act_74 : decode cX10_act 74 = .ok (.istore 8, 2) := by decide +kernel
theorem dX10_act_76 : decode cX10_act 76 = .ok (.aload_n 0, 1) := by decide +kernel
theorem dX10_act_77 : decode cX10_act 77 = .ok (.getfield 63, 3) := by decide +kernel
theorem dX10_act_80 : decode cX10_act 80 = .ok (.iload_n 1, 1) := by decide +kernel
theorem dX10_act_81 : decode cX10_act 81 = .ok (.invokestatic 310, 3) := by decide +kernel
theorem dX10_act_84 : decode cX10_act 84 = .ok (.iload_n 1, 1) := by decide +kernel
theorem dX10_act_85 : decode cX10_act 85 = .ok (.iload_n 2, 1) := by decide +kernel
theorem dX10_act_86 : decode cX10_act 86 = .ok (.invokestatic 313, 3) := by decide +kernel
theorem dX10_act_89 : decode cX10_act 89 = .ok (.invokevirtual 316, 3) := by decide +kernel
theorem dX10_act_92 : decode cX10_act 92 = .ok (.iload 8, 2) := by decide +kernel
theorem dX10_act_94 : decode cX10_act 94 = .ok (.ireturn, 1) := by decide +kernel
theorem dX10_sortOf_0 : decode cX10_sortOf 0 = .ok (.iload_n 0, 1) := by decide +kernel
theorem dX10_sortOf_1 : decode cX10_sortOf 1 = .ok (.iconst 4, 1) := by decide +kernel
theorem dX10_sortOf_2 : decode cX10_sortOf 2 = .ok (.if_icmp .ge 7, 3) := by decide +kernel
theorem dX10_sortOf_5 : decode cX10_sortOf 5 = .ok (.iload_n 0, 1) := by decide +kernel
theorem dX10_sortOf_6 : decode cX10_sortOf 6 = .ok (.goto 14, 3) := by decide +kernel
theorem dX10_sortOf_9 : decode cX10_sortOf 9 = .ok (.iload_n 0, 1) := by decide +kernel
theorem dX10_sortOf_10 : decode cX10_sortOf 10 = .ok (.bipush 8, 2) := by decide +kernel
theorem dX10_sortOf_12 : decode cX10_sortOf 12 = .ok (.if_icmp .ne 7, 3) := by decide +kernel
theorem dX10_sortOf_15 : decode cX10_sortOf 15 = .ok (.iconst 5, 1) := by decide +kernel
theorem dX10_sortOf_16 : decode cX10_sortOf 16 = .ok (.goto 4, 3) := by decide +kernel
theorem dX10_sortOf_19 : decode cX10_sortOf 19 = .ok (.iconst 4, 1) := by decide +kernel
theorem dX10_sortOf_20 : decode cX10_sortOf 20 = .ok (.ireturn, 1) := by decide +kernel
theorem dX10_numberOf_0 : decode cX10_numberOf 0 = .ok (.iload_n 0, 1) := by decide +kernel
theorem dX10_numberOf_1 : decode cX10_numberOf 1 = .ok (.iconst 2, 1) := by decide +kernel
theorem dX10_numberOf_2 : decode cX10_numberOf 2 = .ok (.if_icmp .eq 8, 3) := by decide +kernel
theorem dX10_numberOf_5 : decode cX10_numberOf 5 = .ok (.iload_n 0, 1) := by decide +kernel
theorem dX10_numberOf_6 : decode cX10_numberOf 6 = .ok (.iconst 3, 1) := by decide +kernel
theorem dX10_numberOf_7 : decode cX10_numberOf 7 = .ok (.if_icmp .ne 5, 3) := by decide +kernel
theorem dX10_numberOf_10 : decode cX10_numberOf 10 = .ok (.iconst 0, 1) := by decide +kernel
theorem dX10_numberOf_11 : decode cX10_numberOf 11 = .ok (.ireturn, 1) := by decide +kernel
theorem dX10_numberOf_12 : decode cX10_numberOf 12 = .ok (.iload_n 0, 1) := by decide +kernel
theorem dX10_numberOf_13 : decode cX10_numberOf 13 = .ok (.invokestatic 310, 3) := by decide +kernel
theorem dX10_numberOf_16 : decode cX10_numberOf 16 = .ok (.iconst 4, 1) := by decide +kernel
theorem dX10_numberOf_17 : decode cX10_numberOf 17 = .ok (.if_icmp .ne 9, 3) := by decide +kernel
theorem dX10_numberOf_20 : decode cX10_numberOf 20 = .ok (.iload_n 0, 1) := by decide +kernel
theorem dX10_numberOf_21 : decode cX10_numberOf 21 = .ok (.iconst 4, 1) := by decide +kernel
theorem dX10_numberOf_22 : decode cX10_numberOf 22 = .ok (.isub, 1) := by decide +kernel
theorem dX10_numberOf_23 : decode cX10_numberOf 23 = .ok (.goto 4, 3) := by decide +kernel
theorem dX10_numberOf_26 : decode cX10_numberOf 26 = .ok (.iload_n 1, 1) := by decide +kernel
theorem dX10_numberOf_27 : decode cX10_numberOf 27 = .ok (.ireturn, 1) := by decide +kernel
theorem dX10_years_0 : decode cX10_years 0 = .ok (.aload_n 0, 1) := by decide +kernel
theorem dX10_years_1 : decode cX10_years 1 = .ok (.invokevirtual 148, 3) := by decide +kernel
theorem dX10_years_4 : decode cX10_years 4 = .ok (.ifCond .eq 14, 3) := by decide +kernel
theorem dX10_years_7 : decode cX10_years 7 = .ok (.iload_n 1, 1) := by decide +kernel
theorem dX10_years_8 : decode cX10_years 8 = .ok (.iconst 1, 1) := by decide +kernel
theorem dX10_years_9 : decode cX10_years 9 = .ok (.if_icmp .lt 9, 3) := by decide +kernel
theorem dX10_years_12 : decode cX10_years 12 = .ok (.iload_n 1, 1) := by decide +kernel
theorem dX10_years_13 : decode cX10_years 13 = .ok (.bipush 40, 2) := by decide +kernel
theorem dX10_years_15 : decode cX10_years 15 = .ok (.if_icmp .le 5, 3) := by decide +kernel
theorem dX10_years_18 : decode cX10_years 18 = .ok (.iconst (-1), 1) := by decide +kernel
theorem dX10_years_19 : decode cX10_years 19 = .ok (.ireturn, 1) := by decide +kernel
theorem dX10_years_20 : decode cX10_years 20 = .ok (.aload_n 0, 1) := by decide +kernel
theorem dX10_years_21 : decode cX10_years 21 = .ok (.lload_n 2, 1) := by decide +kernel
theorem dX10_years_22 : decode cX10_years 22 = .ok (.putfield 99, 3) := by decide +kernel
theorem dX10_years_25 : decode cX10_years 25 = .ok (.iconst 0, 1) := by decide +kernel
theorem dX10_years_26 : decode cX10_years 26 = .ok (.istore 4, 2) := by decide +kernel
theorem dX10_years_28 : decode cX10_years 28 = .ok (.iload 4, 2) := by decide +kernel
theorem dX10_years_30 : decode cX10_years 30 = .ok (.iload_n 1, 1) := by decide +kernel
theorem dX10_years_31 : decode cX10_years 31 = .ok (.if_icmp .ge 94, 3) := by decide +kernel
theorem dX10_years_34 : decode cX10_years 34 = .ok (.aload_n 0, 1) := by decide +kernel
theorem dX10_years_35 : decode cX10_years 35 = .ok (.invokevirtual 320, 3) := by decide +kernel
theorem dX10_years_38 : decode cX10_years 38 = .ok (.aload_n 0, 1) := by decide +kernel
theorem dX10_years_39 : decode cX10_years 39 = .ok (.getfield 47, 3) := by decide +kernel
theorem dX10_years_42 : decode cX10_years 42 = .ok (.aload_n 0, 1) := by decide +kernel
theorem dX10_years_43 : decode cX10_years 43 = .ok (.getfield 63, 3) := by decide +kernel
theorem dX10_years_46 : decode cX10_years 46 = .ok (.aload_n 0, 1) := by decide +kernel
theorem dX10_years_47 : decode cX10_years 47 = .ok (.getfield 88, 3) := by decide +kernel
theorem dX10_years_50 : decode cX10_years 50 = .ok (.iconst 0, 1) := by decide +kernel
theorem dX10_years_51 : decode cX10_years 51 = .ok (.iaload, 1) := by decide +kernel
theorem dX10_years_52 : decode cX10_years 52 = .ok (.aload_n 0, 1) := by decide +kernel
theorem dX10_years_53 : decode cX10_years 53 = .ok (.getfield 88, 3) := by decide +kernel
theorem dX10_years_56 : decode cX10_years 56 = .ok (.iconst 1, 1) := by decide +kernel
theorem dX10_years_57 : decode cX10_years 57 = .ok (.iaload, 1) := by decide +kernel
theorem dX10_years_58 : decode cX10_years 58 = .ok (.aload_n 0, 1) := by decide +kernel
theorem dX10_years_59 : decode cX10_years 59 = .ok (.getfield 88, 3) := by decide +kernel
theorem dX10_years_62 : decode cX10_years 62 = .ok (.iconst 2, 1) := by decide +kernel
theorem dX10_years_63 : decode cX10_years 63 = .ok (.iaload, 1) := by decide +kernel
theorem dX10_years_64 : decode cX10_years 64 = .ok (.aload_n 0, 1) := by decide +kernel
theorem dX10_years_65 : decode cX10_years 65 = .ok (.getfield 88, 3) := by decide +kernel
theorem dX10_years_68 : decode cX10_years 68 = .ok (.iconst 3, 1) := by decide +kernel
theorem dX10_years_69 : decode cX10_years 69 = .ok (.iaload, 1) := by decide +kernel
theorem dX10_years_70 : decode cX10_years 70 = .ok (.aload_n 0, 1) := by decide +kernel
theorem dX10_years_71 : decode cX10_years 71 = .ok (.getfield 88, 3) := by decide +kernel
theorem dX10_years_74 : decode cX10_years 74 = .ok (.iconst 4, 1) := by decide +kernel
theorem dX10_years_75 : decode cX10_years 75 = .ok (.iaload, 1) := by decide +kernel
theorem dX10_years_76 : decode cX10_years 76 = .ok (.invokevirtual 300, 3) := by decide +kernel
theorem dX10_years_79 : decode cX10_years 79 = .ok (.iconst (-1), 1) := by decide +kernel
theorem dX10_years_80 : decode cX10_years 80 = .ok (.if_icmp .ne 39, 3) := by decide +kernel
theorem dX10_years_83 : decode cX10_years 83 = .ok (.aload_n 0, 1) := by decide +kernel
theorem dX10_years_84 : decode cX10_years 84 = .ok (.aload_n 0, 1) := by decide +kernel
theorem dX10_years_85 : decode cX10_years 85 = .ok (.getfield 88, 3) := by decide +kernel
theorem dX10_years_88 : decode cX10_years 88 = .ok (.iconst 0, 1) := by decide +kernel
theorem dX10_years_89 : decode cX10_years 89 = .ok (.iaload, 1) := by decide +kernel
theorem dX10_years_90 : decode cX10_years 90 = .ok (.aload_n 0, 1) := by decide +kernel
theorem dX10_years_91 : decode cX10_years 91 = .ok (.getfield 88, 3) := by decide +kernel
theorem dX10_years_94 : decode cX10_years 94 = .ok (.iconst 1, 1) := by decide +kernel
theorem dX10_years_95 : decode cX10_years 95 = .ok (.iaload, 1) := by decide +kernel
theorem dX10_years_96 : decode cX10_years 96 = .ok (.aload_n 0, 1) := by decide +kernel
theorem dX10_years_97 : decode cX10_years 97 = .ok (.getfield 88, 3) := by decide +kernel
theorem dX10_years_100 : decode cX10_years 100 = .ok (.iconst 2, 1) := by decide +kernel
theorem dX10_years_101 : decode cX10_years 101 = .ok (.iaload, 1) := by decide +kernel
theorem dX10_years_102 : decode cX10_years 102 = .ok (.aload_n 0, 1) := by decide +kernel
theorem dX10_years_103 : decode cX10_years 103 = .ok (.getfield 88, 3) := by decide +kernel
theorem dX10_years_106 : decode cX10_years 106 = .ok (.iconst 3, 1) := by decide +kernel
theorem dX10_years_107 : decode cX10_years 107 = .ok (.iaload, 1) := by decide +kernel
theorem dX10_years_108 : decode cX10_years 108 = .ok (.aload_n 0, 1) := by decide +kernel
theorem dX10_years_109 : decode cX10_years 109 = .ok (.getfield 88, 3) := by decide +kernel
theorem dX10_years_112 : decode cX10_years 112 = .ok (.iconst 4, 1) := by decide +kernel
theorem dX10_years_113 : decode cX10_years 113 = .ok (.iaload, 1) := by decide +kernel
theorem dX10_years_114 : decode cX10_years 114 = .ok (.iconst (-1), 1) := by decide +kernel
theorem dX10_years_115 : decode cX10_years 115 = .ok (.invokevirtual 296, 3) := by decide +kernel
theorem dX10_years_118 : decode cX10_years 118 = .ok (.pop, 1) := by decide +kernel
theorem dX10_years_119 : decode cX10_years 119 = .ok (.iinc 4 1, 3) := by decide +kernel
theorem dX10_years_122 : decode cX10_years 122 = .ok (.goto (-94), 3) := by decide +kernel
theorem dX10_years_125 : decode cX10_years 125 = .ok (.aload_n 0, 1) := by decide +kernel
theorem dX10_years_126 : decode cX10_years 126 = .ok (.getfield 63, 3) := by decide +kernel
theorem dX10_years_129 : decode cX10_years 129 = .ok (.invokevirtual 323, 3) := by decide +kernel
theorem dX10_years_132 : decode cX10_years 132 = .ok (.ireturn, 1) := by decide +kernel
theorem dX10_chooseAct_0 : decode cX10_chooseAct 0 = .ok (.aload_n 0, 1) := by decide +kernel
theorem dX10_chooseAct_1 : decode cX10_chooseAct 1 = .ok (.bipush 8, 2) := by decide +kernel
theorem dX10_chooseAct_3 : decode cX10_chooseAct 3 = .ok (.invokevirtual 327, 3) := by decide +kernel
theorem dX10_chooseAct_6 : decode cX10_chooseAct 6 = .ok (.istore_n 1, 1) := by decide +kernel
theorem dX10_chooseAct_7 : decode cX10_chooseAct 7 = .ok (.iload_n 1, 1) := by decide +kernel
theorem dX10_chooseAct_8 : decode cX10_chooseAct 8 = .ok (.iconst 4, 1) := by decide +kernel
theorem dX10_chooseAct_9 : decode cX10_chooseAct 9 = .ok (.if_icmp .gt 30, 3) := by decide +kernel
theorem dX10_chooseAct_12 : decode cX10_chooseAct 12 = .ok (.aload_n 0, 1) := by decide +kernel
theorem dX10_chooseAct_13 : decode cX10_chooseAct 13 = .ok (.getfield 88, 3) := by decide +kernel
theorem dX10_chooseAct_16 : decode cX10_chooseAct 16 = .ok (.iconst 0, 1) := by decide +kernel
theorem dX10_chooseAct_17 : decode cX10_chooseAct 17 = .ok (.iconst 0, 1) := by decide +kernel
theorem dX10_chooseAct_18 : decode cX10_chooseAct 18 = .ok (.iastore, 1) := by decide +kernel
theorem dX10_chooseAct_19 : decode cX10_chooseAct 19 = .ok (.aload_n 0, 1) := by decide +kernel
theorem dX10_chooseAct_20 : decode cX10_chooseAct 20 = .ok (.getfield 88, 3) := by decide +kernel
theorem dX10_chooseAct_23 : decode cX10_chooseAct 23 = .ok (.iconst 1, 1) := by decide +kernel
theorem dX10_chooseAct_24 : decode cX10_chooseAct 24 = .ok (.aload_n 0, 1) := by decide +kernel
theorem dX10_chooseAct_25 : decode cX10_chooseAct 25 = .ok (.aload_n 0, 1) := by decide +kernel
theorem dX10_chooseAct_26 : decode cX10_chooseAct 26 = .ok (.getfield 32, 3) := by decide +kernel
theorem dX10_chooseAct_29 : decode cX10_chooseAct 29 = .ok (.getfield 125, 3) := by decide +kernel
theorem dX10_chooseAct_32 : decode cX10_chooseAct 32 = .ok (.invokevirtual 327, 3) := by decide +kernel
theorem dX10_chooseAct_35 : decode cX10_chooseAct 35 = .ok (.iastore, 1) := by decide +kernel
theorem dX10_chooseAct_36 : decode cX10_chooseAct 36 = .ok (.goto 133, 3) := by decide +kernel
theorem dX10_chooseAct_39 : decode cX10_chooseAct 39 = .ok (.iload_n 1, 1) := by decide +kernel
theorem dX10_chooseAct_40 : decode cX10_chooseAct 40 = .ok (.iconst 5, 1) := by decide +kernel
theorem dX10_chooseAct_41 : decode cX10_chooseAct 41 = .ok (.if_icmp .ne 30, 3) := by decide +kernel
theorem dX10_chooseAct_44 : decode cX10_chooseAct 44 = .ok (.aload_n 0, 1) := by decide +kernel
theorem dX10_chooseAct_45 : decode cX10_chooseAct 45 = .ok (.getfield 88, 3) := by decide +kernel
theorem dX10_chooseAct_48 : decode cX10_chooseAct 48 = .ok (.iconst 0, 1) := by decide +kernel
theorem dX10_chooseAct_49 : decode cX10_chooseAct 49 = .ok (.iconst 1, 1) := by decide +kernel
theorem dX10_chooseAct_50 : decode cX10_chooseAct 50 = .ok (.iastore, 1) := by decide +kernel
theorem dX10_chooseAct_51 : decode cX10_chooseAct 51 = .ok (.aload_n 0, 1) := by decide +kernel
theorem dX10_chooseAct_52 : decode cX10_chooseAct 52 = .ok (.getfield 88, 3) := by decide +kernel
theorem dX10_chooseAct_55 : decode cX10_chooseAct 55 = .ok (.iconst 1, 1) := by decide +kernel
theorem dX10_chooseAct_56 : decode cX10_chooseAct 56 = .ok (.aload_n 0, 1) := by decide +kernel
theorem dX10_chooseAct_57 : decode cX10_chooseAct 57 = .ok (.aload_n 0, 1) := by decide +kernel
theorem dX10_chooseAct_58 : decode cX10_chooseAct 58 = .ok (.getfield 38, 3) := by decide +kernel
theorem dX10_chooseAct_61 : decode cX10_chooseAct 61 = .ok (.getfield 170, 3) := by decide +kernel
theorem dX10_chooseAct_64 : decode cX10_chooseAct 64 = .ok (.invokevirtual 327, 3) := by decide +kernel
theorem dX10_chooseAct_67 : decode cX10_chooseAct 67 = .ok (.iastore, 1) := by decide +kernel
theorem dX10_chooseAct_68 : decode cX10_chooseAct 68 = .ok (.goto 101, 3) := by decide +kernel
theorem dX10_chooseAct_71 : decode cX10_chooseAct 71 = .ok (.iload_n 1, 1) := by decide +kernel
theorem dX10_chooseAct_72 : decode cX10_chooseAct 72 = .ok (.bipush 6, 2) := by decide +kernel
theorem dX10_chooseAct_74 : decode cX10_chooseAct 74 = .ok (.if_icmp .ne 31, 3) := by decide +kernel
theorem dX10_chooseAct_77 : decode cX10_chooseAct 77 = .ok (.aload_n 0, 1) := by decide +kernel
theorem dX10_chooseAct_78 : decode cX10_chooseAct 78 = .ok (.getfield 88, 3) := by decide +kernel
theorem dX10_chooseAct_81 : decode cX10_chooseAct 81 = .ok (.iconst 0, 1) := by decide +kernel
theorem dX10_chooseAct_82 : decode cX10_chooseAct 82 = .ok (.bipush 6, 2) := by decide +kernel
theorem dX10_chooseAct_84 : decode cX10_chooseAct 84 = .ok (.iastore, 1) := by decide +kernel
theorem dX10_chooseAct_85 : decode cX10_chooseAct 85 = .ok (.aload_n 0, 1) := by decide +kernel
theorem dX10_chooseAct_86 : decode cX10_chooseAct 86 = .ok (.getfield 88, 3) := by decide +kernel
theorem dX10_chooseAct_89 : decode cX10_chooseAct 89 = .ok (.iconst 1, 1) := by decide +kernel
theorem dX10_chooseAct_90 : decode cX10_chooseAct 90 = .ok (.iconst 1, 1) := by decide +kernel
theorem dX10_chooseAct_91 : decode cX10_chooseAct 91 = .ok (.aload_n 0, 1) := by decide +kernel
theorem dX10_chooseAct_92 : decode cX10_chooseAct 92 = .ok (.getfield 63, 3) := by decide +kernel
theorem dX10_chooseAct_95 : decode cX10_chooseAct 95 = .ok (.getfield 167, 3) := by decide +kernel
theorem dX10_chooseAct_98 : decode cX10_chooseAct 98 = .ok (.iconst 2, 1) := by decide +kernel
theorem dX10_chooseAct_99 : decode cX10_chooseAct 99 = .ok (.iaload, 1) := by decide +kernel
theorem dX10_chooseAct_100 : decode cX10_chooseAct 100 = .ok (.isub, 1) := by decide +kernel
theorem dX10_chooseAct_101 : decode cX10_chooseAct 101 = .ok (.iastore, 1) := by decide +kernel
theorem dX10_chooseAct_102 : decode cX10_chooseAct 102 = .ok (.goto 67, 3) := by decide +kernel
theorem dX10_chooseAct_105 : decode cX10_chooseAct 105 = .ok (.aload_n 0, 1) := by decide +kernel
theorem dX10_chooseAct_106 : decode cX10_chooseAct 106 = .ok (.getfield 88, 3) := by decide +kernel
theorem dX10_chooseAct_109 : decode cX10_chooseAct 109 = .ok (.iconst 0, 1) := by decide +kernel
theorem dX10_chooseAct_110 : decode cX10_chooseAct 110 = .ok (.bipush 8, 2) := by decide +kernel
theorem dX10_chooseAct_112 : decode cX10_chooseAct 112 = .ok (.iastore, 1) := by decide +kernel
theorem dX10_chooseAct_113 : decode cX10_chooseAct 113 = .ok (.aload_n 0, 1) := by decide +kernel
theorem dX10_chooseAct_114 : decode cX10_chooseAct 114 = .ok (.getfield 88, 3) := by decide +kernel
theorem dX10_chooseAct_117 : decode cX10_chooseAct 117 = .ok (.iconst 1, 1) := by decide +kernel
theorem dX10_chooseAct_118 : decode cX10_chooseAct 118 = .ok (.aload_n 0, 1) := by decide +kernel
theorem dX10_chooseAct_119 : decode cX10_chooseAct 119 = .ok (.aload_n 0, 1) := by decide +kernel
theorem dX10_chooseAct_120 : decode cX10_chooseAct 120 = .ok (.getfield 32, 3) := by decide +kernel
theorem dX10_chooseAct_123 : decode cX10_chooseAct 123 = .ok (.getfield 125, 3) := by decide +kernel
theorem dX10_chooseAct_126 : decode cX10_chooseAct 126 = .ok (.invokevirtual 327, 3) := by decide +kernel
theorem dX10_chooseAct_129 : decode cX10_chooseAct 129 = .ok (.iastore, 1) := by decide +kernel
theorem dX10_chooseAct_130 : decode cX10_chooseAct 130 = .ok (.aload_n 0, 1) := by decide +kernel
theorem dX10_chooseAct_131 : decode cX10_chooseAct 131 = .ok (.getfield 88, 3) := by decide +kernel
theorem dX10_chooseAct_134 : decode cX10_chooseAct 134 = .ok (.iconst 2, 1) := by decide +kernel
theorem dX10_chooseAct_135 : decode cX10_chooseAct 135 = .ok (.aload_n 0, 1) := by decide +kernel
theorem dX10_chooseAct_136 : decode cX10_chooseAct 136 = .ok (.iconst 3, 1) := by decide +kernel
theorem dX10_chooseAct_137 : decode cX10_chooseAct 137 = .ok (.invokevirtual 327, 3) := by decide +kernel
theorem dX10_chooseAct_140 : decode cX10_chooseAct 140 = .ok (.iastore, 1) := by decide +kernel
theorem dX10_chooseAct_141 : decode cX10_chooseAct 141 = .ok (.aload_n 0, 1) := by decide +kernel
theorem dX10_chooseAct_142 : decode cX10_chooseAct 142 = .ok (.getfield 88, 3) := by decide +kernel
theorem dX10_chooseAct_145 : decode cX10_chooseAct 145 = .ok (.iconst 3, 1) := by decide +kernel
theorem dX10_chooseAct_146 : decode cX10_chooseAct 146 = .ok (.aload_n 0, 1) := by decide +kernel
theorem dX10_chooseAct_147 : decode cX10_chooseAct 147 = .ok (.bipush 9, 2) := by decide +kernel
theorem dX10_chooseAct_149 : decode cX10_chooseAct 149 = .ok (.invokevirtual 327, 3) := by decide +kernel
theorem dX10_chooseAct_152 : decode cX10_chooseAct 152 = .ok (.iconst 4, 1) := by decide +kernel
theorem dX10_chooseAct_153 : decode cX10_chooseAct 153 = .ok (.isub, 1) := by decide +kernel
theorem dX10_chooseAct_154 : decode cX10_chooseAct 154 = .ok (.iastore, 1) := by decide +kernel
theorem dX10_chooseAct_155 : decode cX10_chooseAct 155 = .ok (.aload_n 0, 1) := by decide +kernel
theorem dX10_chooseAct_156 : decode cX10_chooseAct 156 = .ok (.getfield 88, 3) := by decide +kernel
theorem dX10_chooseAct_159 : decode cX10_chooseAct 159 = .ok (.iconst 4, 1) := by decide +kernel
theorem dX10_chooseAct_160 : decode cX10_chooseAct 160 = .ok (.aload_n 0, 1) := by decide +kernel
theorem dX10_chooseAct_161 : decode cX10_chooseAct 161 = .ok (.bipush 9, 2) := by decide +kernel
theorem dX10_chooseAct_163 : decode cX10_chooseAct 163 = .ok (.invokevirtual 327, 3) := by decide +kernel
theorem dX10_chooseAct_166 : decode cX10_chooseAct 166 = .ok (.iconst 4, 1) := by decide +kernel
theorem dX10_chooseAct_167 : decode cX10_chooseAct 167 = .ok (.isub, 1) := by decide +kernel
theorem dX10_chooseAct_168 : decode cX10_chooseAct 168 = .ok (.iastore, 1) := by decide +kernel
theorem dX10_chooseAct_169 : decode cX10_chooseAct 169 = .ok (.return_, 1) := by decide +kernel
theorem dX10_chanceOf_0 : decode cX10_chanceOf 0 = .ok (.aload_n 0, 1) := by decide +kernel
theorem dX10_chanceOf_1 : decode cX10_chanceOf 1 = .ok (.aload_n 0, 1) := by decide +kernel
theorem dX10_chanceOf_2 : decode cX10_chanceOf 2 = .ok (.getfield 99, 3) := by decide +kernel
theorem dX10_chanceOf_5 : decode cX10_chanceOf 5 = .ok (.ldc2_w 330, 3) := by decide +kernel
theorem dX10_chanceOf_8 : decode cX10_chanceOf 8 = .ok (.lmul, 1) := by decide +kernel
theorem dX10_chanceOf_9 : decode cX10_chanceOf 9 = .ok (.ldc2_w 332, 3) := by decide +kernel
theorem dX10_chanceOf_12 : decode cX10_chanceOf 12 = .ok (.ladd, 1) := by decide +kernel
theorem dX10_chanceOf_13 : decode cX10_chanceOf 13 = .ok (.putfield 99, 3) := by decide +kernel
theorem dX10_chanceOf_16 : decode cX10_chanceOf 16 = .ok (.iload_n 1, 1) := by decide +kernel
theorem dX10_chanceOf_17 : decode cX10_chanceOf 17 = .ok (.ifCond .le 17, 3) := by decide +kernel
theorem dX10_chanceOf_20 : decode cX10_chanceOf 20 = .ok (.aload_n 0, 1) := by decide +kernel
theorem dX10_chanceOf_21 : decode cX10_chanceOf 21 = .ok (.getfield 99, 3) := by decide +kernel
theorem dX10_chanceOf_24 : decode cX10_chanceOf 24 = .ok (.bipush 33, 2) := by decide +kernel
theorem dX10_chanceOf_26 : decode cX10_chanceOf 26 = .ok (.lushr, 1) := by decide +kernel
theorem dX10_chanceOf_27 : decode cX10_chanceOf 27 = .ok (.iload_n 1, 1) := by decide +kernel
theorem dX10_chanceOf_28 : decode cX10_chanceOf 28 = .ok (.i2l, 1) := by decide +kernel
theorem dX10_chanceOf_29 : decode cX10_chanceOf 29 = .ok (.lrem, 1) := by decide +kernel
theorem dX10_chanceOf_30 : decode cX10_chanceOf 30 = .ok (.l2i, 1) := by decide +kernel
theorem dX10_chanceOf_31 : decode cX10_chanceOf 31 = .ok (.goto 4, 3) := by decide +kernel
theorem dX10_chanceOf_34 : decode cX10_chanceOf 34 = .ok (.iconst 0, 1) := by decide +kernel
theorem dX10_chanceOf_35 : decode cX10_chanceOf 35 = .ok (.ireturn, 1) := by decide +kernel
theorem dX10_status_0 : decode cX10_status 0 = .ok (.iload_n 1, 1) := by decide +kernel
theorem dX10_status_1 : decode cX10_status 1 = .ok (.ifCond .lt 17, 3) := by decide +kernel
theorem dX10_status_4 : decode cX10_status 4 = .ok (.iload_n 1, 1) := by decide +kernel
theorem dX10_status_5 : decode cX10_status 5 = .ok (.iconst 4, 1) := by decide +kernel
theorem dX10_status_6 : decode cX10_status 6 = .ok (.if_icmp .ge 12, 3) := by decide +kernel
theorem dX10_status_9 : decode cX10_status 9 = .ok (.aload_n 0, 1) := by decide +kernel
theorem dX10_status_10 : decode cX10_status 10 = .ok (.getfield 84, 3) := by decide +kernel
theorem dX10_status_13 : decode cX10_status 13 = .ok (.iload_n 1, 1) := by decide +kernel
theorem dX10_status_14 : decode cX10_status 14 = .ok (.iaload, 1) := by decide +kernel
theorem dX10_status_15 : decode cX10_status 15 = .ok (.goto 4, 3) := by decide +kernel
theorem dX10_status_18 : decode cX10_status 18 = .ok (.iconst (-1), 1) := by decide +kernel
theorem dX10_status_19 : decode cX10_status 19 = .ok (.ireturn, 1) := by decide +kernel
theorem dX10_undo_0 : decode cX10_undo 0 = .ok (.aload_n 0, 1) := by decide +kernel
theorem dX10_undo_1 : decode cX10_undo 1 = .ok (.getfield 73, 3) := by decide +kernel
theorem dX10_undo_4 : decode cX10_undo 4 = .ok (.getfield 334, 3) := by decide +kernel
theorem dX10_undo_7 : decode cX10_undo 7 = .ok (.ifCond .ne 5, 3) := by decide +kernel
theorem dX10_undo_10 : decode cX10_undo 10 = .ok (.iconst (-1), 1) := by decide +kernel
theorem dX10_undo_11 : decode cX10_undo 11 = .ok (.ireturn, 1) := by decide +kernel
theorem dX10_undo_12 : decode cX10_undo 12 = .ok (.aload_n 0, 1) := by decide +kernel
theorem dX10_undo_13 : decode cX10_undo 13 = .ok (.getfield 73, 3) := by decide +kernel
theorem dX10_undo_16 : decode cX10_undo 16 = .ok (.aload_n 0, 1) := by decide +kernel
theorem dX10_undo_17 : decode cX10_undo 17 = .ok (.getfield 63, 3) := by decide +kernel
theorem dX10_undo_20 : decode cX10_undo 20 = .ok (.invokevirtual 337, 3) := by decide +kernel
theorem dX10_undo_23 : decode cX10_undo 23 = .ok (.aload_n 0, 1) := by decide +kernel
theorem dX10_undo_24 : decode cX10_undo 24 = .ok (.getfield 47, 3) := by decide +kernel
theorem dX10_undo_27 : decode cX10_undo 27 = .ok (.aload_n 0, 1) := by decide +kernel
theorem dX10_undo_28 : decode cX10_undo 28 = .ok (.getfield 63, 3) := by decide +kernel
theorem dX10_undo_31 : decode cX10_undo 31 = .ok (.invokevirtual 141, 3) := by decide +kernel
theorem dX10_undo_34 : decode cX10_undo 34 = .ok (.aload_n 0, 1) := by decide +kernel
theorem dX10_undo_35 : decode cX10_undo 35 = .ok (.getfield 73, 3) := by decide +kernel
theorem dX10_undo_38 : decode cX10_undo 38 = .ok (.getfield 334, 3) := by decide +kernel
theorem dX10_undo_41 : decode cX10_undo 41 = .ok (.ireturn, 1) := by decide +kernel
theorem dX10_log_0 : decode cX10_log 0 = .ok (.iload_n 1, 1) := by decide +kernel
theorem dX10_log_1 : decode cX10_log 1 = .ok (.ifCond .lt 23, 3) := by decide +kernel
theorem dX10_log_4 : decode cX10_log 4 = .ok (.iload_n 1, 1) := by decide +kernel
theorem dX10_log_5 : decode cX10_log 5 = .ok (.aload_n 0, 1) := by decide +kernel
theorem dX10_log_6 : decode cX10_log 6 = .ok (.getfield 63, 3) := by decide +kernel
theorem dX10_log_9 : decode cX10_log 9 = .ok (.invokevirtual 340, 3) := by decide +kernel
theorem dX10_log_12 : decode cX10_log 12 = .ok (.if_icmp .ge 12, 3) := by decide +kernel
theorem dX10_log_15 : decode cX10_log 15 = .ok (.iload_n 2, 1) := by decide +kernel
theorem dX10_log_16 : decode cX10_log 16 = .ok (.ifCond .lt 8, 3) := by decide +kernel
theorem dX10_log_19 : decode cX10_log 19 = .ok (.iload_n 2, 1) := by decide +kernel
theorem dX10_log_20 : decode cX10_log 20 = .ok (.iconst 2, 1) := by decide +kernel
theorem dX10_log_21 : decode cX10_log 21 = .ok (.if_icmp .le 5, 3) := by decide +kernel
theorem dX10_log_24 : decode cX10_log 24 = .ok (.iconst (-1), 1) := by decide +kernel
theorem dX10_log_25 : decode cX10_log 25 = .ok (.ireturn, 1) := by decide +kernel
theorem dX10_log_26 : decode cX10_log 26 = .ok (.aload_n 0, 1) := by decide +kernel
theorem dX10_log_27 : decode cX10_log 27 = .ok (.getfield 63, 3) := by decide +kernel
theorem dX10_log_30 : decode cX10_log 30 = .ok (.iload_n 1, 1) := by decide +kernel
theorem dX10_log_31 : decode cX10_log 31 = .ok (.iload_n 2, 1) := by decide +kernel
theorem dX10_log_32 : decode cX10_log 32 = .ok (.invokevirtual 343, 3) := by decide +kernel
theorem dX10_log_35 : decode cX10_log 35 = .ok (.ireturn, 1) := by decide +kernel
theorem dX10_hasScript_0 : decode cX10_hasScript 0 = .ok (.iload_n 1, 1) := by decide +kernel
theorem dX10_hasScript_1 : decode cX10_hasScript 1 = .ok (.ifCond .lt 15, 3) := by decide +kernel
theorem dX10_hasScript_4 : decode cX10_hasScript 4 = .ok (.iload_n 1, 1) := by decide +kernel
theorem dX10_hasScript_5 : decode cX10_hasScript 5 = .ok (.aload_n 0, 1) := by decide +kernel
theorem dX10_hasScript_6 : decode cX10_hasScript 6 = .ok (.getfield 91, 3) := by decide +kernel
theorem dX10_hasScript_9 : decode cX10_hasScript 9 = .ok (.if_icmp .ge 7, 3) := by decide +kernel
theorem dX10_hasScript_12 : decode cX10_hasScript 12 = .ok (.iconst 1, 1) := by decide +kernel
theorem dX10_hasScript_13 : decode cX10_hasScript 13 = .ok (.goto 4, 3) := by decide +kernel
theorem dX10_hasScript_16 : decode cX10_hasScript 16 = .ok (.iconst 0, 1) := by decide +kernel
theorem dX10_hasScript_17 : decode cX10_hasScript 17 = .ok (.ireturn, 1) := by decide +kernel
theorem dX10_step_0 : decode cX10_step 0 = .ok (.aload_n 0, 1) := by decide +kernel
theorem dX10_step_1 : decode cX10_step 1 = .ok (.iload_n 1, 1) := by decide +kernel
theorem dX10_step_2 : decode cX10_step 2 = .ok (.invokevirtual 346, 3) := by decide +kernel
theorem dX10_step_5 : decode cX10_step 5 = .ok (.ifCond .eq 20, 3) := by decide +kernel
theorem dX10_step_8 : decode cX10_step 8 = .ok (.iload_n 2, 1) := by decide +kernel
theorem dX10_step_9 : decode cX10_step 9 = .ok (.ifCond .lt 16, 3) := by decide +kernel
theorem dX10_step_12 : decode cX10_step 12 = .ok (.iload_n 2, 1) := by decide +kernel
theorem dX10_step_13 : decode cX10_step 13 = .ok (.aload_n 0, 1) := by decide +kernel
theorem dX10_step_14 : decode cX10_step 14 = .ok (.getfield 79, 3) := by decide +kernel
theorem dX10_step_17 : decode cX10_step 17 = .ok (.iload_n 1, 1) := by decide +kernel
theorem dX10_step_18 : decode cX10_step 18 = .ok (.aaload, 1) := by decide +kernel
theorem dX10_step_19 : decode cX10_step 19 = .ok (.getfield 349, 3) := by decide +kernel
theorem dX10_step_22 : decode cX10_step 22 = .ok (.if_icmp .lt 6, 3) := by decide +kernel
theorem dX10_step_25 : decode cX10_step 25 = .ok (.ldc 231, 2) := by decide +kernel
theorem dX10_step_27 : decode cX10_step 27 = .ok (.ireturn, 1) := by decide +kernel
theorem dX10_step_28 : decode cX10_step 28 = .ok (.aload_n 0, 1) := by decide +kernel
theorem dX10_step_29 : decode cX10_step 29 = .ok (.getfield 79, 3) := by decide +kernel
theorem dX10_step_32 : decode cX10_step 32 = .ok (.iload_n 1, 1) := by decide +kernel
theorem dX10_step_33 : decode cX10_step 33 = .ok (.aaload, 1) := by decide +kernel
theorem dX10_step_34 : decode cX10_step 34 = .ok (.iload_n 2, 1) := by decide +kernel
theorem dX10_step_35 : decode cX10_step 35 = .ok (.invokevirtual 350, 3) := by decide +kernel
theorem dX10_step_38 : decode cX10_step 38 = .ok (.istore 4, 2) := by decide +kernel
theorem dX10_step_40 : decode cX10_step 40 = .ok (.iload_n 3, 1) := by decide +kernel
theorem dX10_step_41 : decode cX10_step 41 = .ok (.ifCond .lt 12, 3) := by decide +kernel
theorem dX10_step_44 : decode cX10_step 44 = .ok (.iload_n 3, 1) := by decide +kernel
theorem dX10_step_45 : decode cX10_step 45 = .ok (.iload 4, 2) := by decide +kernel
theorem dX10_step_47 : decode cX10_step 47 = .ok (.invokestatic 353, 3) := by decide +kernel
theorem dX10_step_50 : decode cX10_step 50 = .ok (.if_icmp .le 6, 3) := by decide +kernel
theorem dX10_step_53 : decode cX10_step 53 = .ok (.ldc 231, 2) := by decide +kernel
theorem dX10_step_55 : decode cX10_step 55 = .ok (.ireturn, 1) := by decide +kernel
theorem dX10_step_56 : decode cX10_step 56 = .ok (.aload_n 0, 1) := by decide +kernel
theorem dX10_step_57 : decode cX10_step 57 = .ok (.getfield 79, 3) := by decide +kernel
theorem dX10_step_60 : decode cX10_step 60 = .ok (.iload_n 1, 1) := by decide +kernel
theorem dX10_step_61 : decode cX10_step 61 = .ok (.aaload, 1) := by decide +kernel
theorem dX10_step_62 : decode cX10_step 62 = .ok (.getfield 356, 3) := by decide +kernel
theorem dX10_step_65 : decode cX10_step 65 = .ok (.iload_n 2, 1) := by decide +kernel
theorem dX10_step_66 : decode cX10_step 66 = .ok (.iconst 5, 1) := by decide +kernel
theorem dX10_step_67 : decode cX10_step 67 = .ok (.imul, 1) := by decide +kernel
theorem dX10_step_68 : decode cX10_step 68 = .ok (.iload_n 3, 1) := by decide +kernel
theorem dX10_step_69 : decode cX10_step 69 = .ok (.iadd, 1) := by decide +kernel
theorem dX10_step_70 : decode cX10_step 70 = .ok (.iaload, 1) := by decide +kernel
theorem dX10_step_71 : decode cX10_step 71 = .ok (.ireturn, 1) := by decide +kernel
theorem dX10_run_0 : decode cX10_run 0 = .ok (.aload_n 0, 1) := by decide +kernel
theorem dX10_run_1 : decode cX10_run 1 = .ok (.invokevirtual 148, 3) := by decide +kernel
theorem dX10_run_4 : decode cX10_run 4 = .ok (.ifCond .eq 20, 3) := by decide +kernel
theorem dX10_run_7 : decode cX10_run 7 = .ok (.aload_n 0, 1) := by decide +kernel
theorem dX10_run_8 : decode cX10_run 8 = .ok (.iload_n 1, 1) := by decide +kernel
theorem dX10_run_9 : decode cX10_run 9 = .ok (.invokevirtual 346, 3) := by decide +kernel
theorem dX10_run_12 : decode cX10_run 12 = .ok (.ifCond .eq 12, 3) := by decide +kernel
theorem dX10_run_15 : decode cX10_run 15 = .ok (.iload_n 2, 1) := by decide +kernel
theorem dX10_run_16 : decode cX10_run 16 = .ok (.ifCond .lt 8, 3) := by decide +kernel
theorem dX10_run_19 : decode cX10_run 19 = .ok (.iload_n 2, 1) := by decide +kernel
theorem dX10_run_20 : decode cX10_run 20 = .ok (.iconst 1, 1) := by decide +kernel
theorem dX10_run_21 : decode cX10_run 21 = .ok (.if_icmp .le 6, 3) := by decide +kernel
theorem dX10_run_24 : decode cX10_run 24 = .ok (.ldc 231, 2) := by decide +kernel
theorem dX10_run_26 : decode cX10_run 26 = .ok (.ireturn, 1) := by decide +kernel
theorem dX10_run_27 : decode cX10_run 27 = .ok (.aload_n 0, 1) := by decide +kernel
theorem dX10_run_28 : decode cX10_run 28 = .ok (.getfield 56, 3) := by decide +kernel
theorem dX10_run_31 : decode cX10_run 31 = .ok (.aload_n 0, 1) := by decide +kernel
theorem dX10_run_32 : decode cX10_run 32 = .ok (.getfield 63, 3) := by decide +kernel
theorem dX10_run_35 : decode cX10_run 35 = .ok (.aload_n 0, 1) := by decide +kernel
theorem dX10_run_36 : decode cX10_run 36 = .ok (.getfield 79, 3) := by decide +kernel
theorem dX10_run_39 : decode cX10_run 39 = .ok (.iload_n 1, 1) := by decide +kernel
theorem dX10_run_40 : decode cX10_run 40 = .ok (.aaload, 1) := by decide +kernel
theorem dX10_run_41 : decode cX10_run 41 = .ok (.invokevirtual 359, 3) := by decide +kernel
theorem dX10_run_44 : decode cX10_run 44 = .ok (.istore_n 3, 1) := by decide +kernel
theorem dX10_run_45 : decode cX10_run 45 = .ok (.aload_n 0, 1) := by decide +kernel
theorem dX10_run_46 : decode cX10_run 46 = .ok (.getfield 47, 3) := by decide +kernel
theorem dX10_run_49 : decode cX10_run 49 = .ok (.aload_n 0, 1) := by decide +kernel
theorem dX10_run_50 : decode cX10_run 50 = .ok (.getfield 63, 3) := by decide +kernel
theorem dX10_run_53 : decode cX10_run 53 = .ok (.invokevirtual 141, 3) := by decide +kernel
theorem dX10_run_56 : decode cX10_run 56 = .ok (.iload_n 2, 1) := by decide +kernel
theorem dX10_run_57 : decode cX10_run 57 = .ok (.iconst 1, 1) := by decide +kernel
theorem dX10_run_58 : decode cX10_run 58 = .ok (.if_icmp .ne 14, 3) := by decide +kernel
theorem dX10_run_61 : decode cX10_run 61 = .ok (.aload_n 0, 1) := by decide +kernel
theorem dX10_run_62 : decode cX10_run 62 = .ok (.getfield 56, 3) := by decide +kernel
theorem dX10_run_65 : decode cX10_run 65 = .ok (.getfield 363, 3) := by decide +kernel
theorem dX10_run_68 : decode cX10_run 68 = .ok (.invokevirtual 323, 3) := by decide +kernel
theorem dX10_run_71 : decode cX10_run 71 = .ok (.ireturn, 1) := by decide +kernel
theorem dX10_run_72 : decode cX10_run 72 = .ok (.iload_n 3, 1) := by decide +kernel
theorem dX10_run_73 : decode cX10_run 73 = .ok (.aload_n 0, 1) := by decide +kernel
theorem dX10_run_74 : decode cX10_run 74 = .ok (.getfield 79, 3) := by decide +kernel
theorem dX10_run_77 : decode cX10_run 77 = .ok (.iload_n 1, 1) := by decide +kernel
theorem dX10_run_78 : decode cX10_run 78 = .ok (.aaload, 1) := by decide +kernel
theorem dX10_run_79 : decode cX10_run 79 = .ok (.getfield 349, 3) := by decide +kernel
theorem dX10_run_82 : decode cX10_run 82 = .ok (.if_icmp .ne 7, 3) := by decide +kernel
theorem dX10_run_85 : decode cX10_run 85 = .ok (.iconst (-1), 1) := by decide +kernel
theorem dX10_run_86 : decode cX10_run 86 = .ok (.goto 4, 3) := by decide +kernel
theorem dX10_run_89 : decode cX10_run 89 = .ok (.iload_n 3, 1) := by decide +kernel
theorem dX10_run_90 : decode cX10_run 90 = .ok (.ireturn, 1) := by decide +kernel
theorem dX10_perform_0 : decode cX10_perform 0 = .ok (.aload_n 0, 1) := by decide +kernel
theorem dX10_perform_1 : decode cX10_perform 1 = .ok (.invokevirtual 148, 3) := by decide +kernel
theorem dX10_perform_4 : decode cX10_perform 4 = .ok (.ifCond .eq 11, 3) := by decide +kernel
theorem dX10_perform_7 : decode cX10_perform 7 = .ok (.aload_n 0, 1) := by decide +kernel
theorem dX10_perform_8 : decode cX10_perform 8 = .ok (.iload_n 1, 1) := by decide +kernel
theorem dX10_perform_9 : decode cX10_perform 9 = .ok (.invokevirtual 346, 3) := by decide +kernel
theorem dX10_perform_12 : decode cX10_perform 12 = .ok (.ifCond .ne 5, 3) := by decide +kernel
theorem dX10_perform_15 : decode cX10_perform 15 = .ok (.iconst (-1), 1) := by decide +kernel
theorem dX10_perform_16 : decode cX10_perform 16 = .ok (.ireturn, 1) := by decide +kernel
theorem dX10_perform_17 : decode cX10_perform 17 = .ok (.aload_n 0, 1) := by decide +kernel
theorem dX10_perform_18 : decode cX10_perform 18 = .ok (.getfield 79, 3) := by decide +kernel
theorem dX10_perform_21 : decode cX10_perform 21 = .ok (.iload_n 1, 1) := by decide +kernel
theorem dX10_perform_22 : decode cX10_perform 22 = .ok (.aaload, 1) := by decide +kernel
theorem dX10_perform_23 : decode cX10_perform 23 = .ok (.astore_n 2, 1) := by decide +kernel
theorem dX10_perform_24 : decode cX10_perform 24 = .ok (.iconst 0, 1) := by decide +kernel
theorem dX10_perform_25 : decode cX10_perform 25 = .ok (.istore_n 3, 1) := by decide +kernel
theorem dX10_perform_26 : decode cX10_perform 26 = .ok (.iload_n 3, 1) := by decide +kernel
theorem dX10_perform_27 : decode cX10_perform 27 = .ok (.aload_n 2, 1) := by decide +kernel
theorem dX10_perform_28 : decode cX10_perform 28 = .ok (.getfield 349, 3) := by decide +kernel
theorem dX10_perform_31 : decode cX10_perform 31 = .ok (.if_icmp .ge 92, 3) := by decide +kernel
theorem dX10_perform_34 : decode cX10_perform 34 = .ok (.aload_n 2, 1) := by decide +kernel
theorem dX10_perform_35 : decode cX10_perform 35 = .ok (.iload_n 3, 1) := by decide +kernel
theorem dX10_perform_36 : decode cX10_perform 36 = .ok (.invokevirtual 350, 3) := by decide +kernel
theorem dX10_perform_39 : decode cX10_perform 39 = .ok (.istore 4, 2) := by decide +kernel
theorem dX10_perform_41 : decode cX10_perform 41 = .ok (.aload_n 2, 1) := by decide +kernel
theorem dX10_perform_42 : decode cX10_perform 42 = .ok (.iload_n 3, 1) := by decide +kernel
theorem dX10_perform_43 : decode cX10_perform 43 = .ok (.iconst 1, 1) := by decide +kernel
theorem dX10_perform_44 : decode cX10_perform 44 = .ok (.invokevirtual 366, 3) := by decide +kernel
theorem dX10_perform_47 : decode cX10_perform 47 = .ok (.istore 5, 2) := by decide +kernel
theorem dX10_perform_49 : decode cX10_perform 49 = .ok (.aload_n 2, 1) := by decide +kernel
theorem dX10_perform_50 : decode cX10_perform 50 = .ok (.iload_n 3, 1) := by decide +kernel
theorem dX10_perform_51 : decode cX10_perform 51 = .ok (.iconst 2, 1) := by decide +kernel
theorem dX10_perform_52 : decode cX10_perform 52 = .ok (.invokevirtual 366, 3) := by decide +kernel
theorem dX10_perform_55 : decode cX10_perform 55 = .ok (.istore 6, 2) := by decide +kernel
theorem dX10_perform_57 : decode cX10_perform 57 = .ok (.aload_n 2, 1) := by decide +kernel
theorem dX10_perform_58 : decode cX10_perform 58 = .ok (.iload_n 3, 1) := by decide +kernel
theorem dX10_perform_59 : decode cX10_perform 59 = .ok (.iconst 3, 1) := by decide +kernel
theorem dX10_perform_60 : decode cX10_perform 60 = .ok (.invokevirtual 366, 3) := by decide +kernel
theorem dX10_perform_63 : decode cX10_perform 63 = .ok (.istore 7, 2) := by decide +kernel
theorem dX10_perform_65 : decode cX10_perform 65 = .ok (.aload_n 2, 1) := by decide +kernel
theorem dX10_perform_66 : decode cX10_perform 66 = .ok (.iload_n 3, 1) := by decide +kernel
theorem dX10_perform_67 : decode cX10_perform 67 = .ok (.iconst 4, 1) := by decide +kernel
theorem dX10_perform_68 : decode cX10_perform 68 = .ok (.invokevirtual 366, 3) := by decide +kernel
theorem dX10_perform_71 : decode cX10_perform 71 = .ok (.istore 8, 2) := by decide +kernel
theorem dX10_perform_73 : decode cX10_perform 73 = .ok (.aload_n 0, 1) := by decide +kernel
theorem dX10_perform_74 : decode cX10_perform 74 = .ok (.getfield 47, 3) := by decide +kernel
theorem dX10_perform_77 : decode cX10_perform 77 = .ok (.aload_n 0, 1) := by decide +kernel
theorem dX10_perform_78 : decode cX10_perform 78 = .ok (.getfield 63, 3) := by decide +kernel
theorem dX10_perform_81 : decode cX10_perform 81 = .ok (.iload 4, 2) := by decide +kernel
theorem dX10_perform_83 : decode cX10_perform 83 = .ok (.iload 5, 2) := by decide +kernel
theorem dX10_perform_85 : decode cX10_perform 85 = .ok (.iload 6, 2) := by decide +kernel
theorem dX10_perform_87 : decode cX10_perform 87 = .ok (.iload 7, 2) := by decide +kernel
theorem dX10_perform_89 : decode cX10_perform 89 = .ok (.iload 8, 2) := by decide +kernel
theorem dX10_perform_91 : decode cX10_perform 91 = .ok (.invokevirtual 300, 3) := by decide +kernel
theorem dX10_perform_94 : decode cX10_perform 94 = .ok (.iconst (-1), 1) := by decide +kernel
theorem dX10_perform_95 : decode cX10_perform 95 = .ok (.if_icmp .eq 6, 3) := by decide +kernel
theorem dX10_perform_98 : decode cX10_perform 98 = .ok (.goto 25, 3) := by decide +kernel
theorem dX10_perform_101 : decode cX10_perform 101 = .ok (.aload_n 0, 1) := by decide +kernel
theorem dX10_perform_102 : decode cX10_perform 102 = .ok (.iload 4, 2) := by decide +kernel
theorem dX10_perform_104 : decode cX10_perform 104 = .ok (.iload 5, 2) := by decide +kernel
theorem dX10_perform_106 : decode cX10_perform 106 = .ok (.iload 6, 2) := by decide +kernel
theorem dX10_perform_108 : decode cX10_perform 108 = .ok (.iload 7, 2) := by decide +kernel
theorem dX10_perform_110 : decode cX10_perform 110 = .ok (.iload 8, 2) := by decide +kernel
theorem dX10_perform_112 : decode cX10_perform 112 = .ok (.iconst (-1), 1) := by decide +kernel
theorem dX10_perform_113 : decode cX10_perform 113 = .ok (.invokevirtual 296, 3) := by decide +kernel
theorem dX10_perform_116 : decode cX10_perform 116 = .ok (.pop, 1) := by decide +kernel
theorem dX10_perform_117 : decode cX10_perform 117 = .ok (.iinc 3 1, 3) := by decide +kernel
theorem dX10_perform_120 : decode cX10_perform 120 = .ok (.goto (-94), 3) := by decide +kernel
theorem dX10_perform_123 : decode cX10_perform 123 = .ok (.iload_n 3, 1) := by decide +kernel
theorem dX10_perform_124 : decode cX10_perform 124 = .ok (.ireturn, 1) := by decide +kernel
theorem dX10_layer_0 : decode cX10_layer 0 = .ok (.aload_n 0, 1) := by decide +kernel
theorem dX10_layer_1 : decode cX10_layer 1 = .ok (.getfield 38, 3) := by decide +kernel
theorem dX10_layer_4 : decode cX10_layer 4 = .ok (.iload_n 1, 1) := by decide +kernel
theorem dX10_layer_5 : decode cX10_layer 5 = .ok (.iload_n 2, 1) := by decide +kernel
theorem dX10_layer_6 : decode cX10_layer 6 = .ok (.iload_n 3, 1) := by decide +kernel
theorem dX10_layer_7 : decode cX10_layer 7 = .ok (.invokevirtual 258, 3) := by decide +kernel
theorem dX10_layer_10 : decode cX10_layer 10 = .ok (.ifCond .ne 5, 3) := by decide +kernel
theorem dX10_layer_13 : decode cX10_layer 13 = .ok (.iconst (-1), 1) := by decide +kernel
theorem dX10_layer_14 : decode cX10_layer 14 = .ok (.ireturn, 1) := by decide +kernel
theorem dX10_layer_15 : decode cX10_layer 15 = .ok (.iload_n 1, 1) := by decide +kernel
theorem dX10_layer_16 : decode cX10_layer 16 = .ok (.iload_n 2, 1) := by decide +kernel
theorem dX10_layer_17 : decode cX10_layer 17 = .ok (.invokestatic 250, 3) := by decide +kernel
theorem dX10_layer_20 : decode cX10_layer 20 = .ok (.iload_n 3, 1) := by decide +kernel
theorem dX10_layer_21 : decode cX10_layer 21 = .ok (.iadd, 1) := by decide +kernel
theorem dX10_layer_22 : decode cX10_layer 22 = .ok (.istore 5, 2) := by decide +kernel
theorem dX10_layer_24 : decode cX10_layer 24 = .ok (.iconst 0, 1) := by decide +kernel
theorem dX10_layer_25 : decode cX10_layer 25 = .ok (.istore 6, 2) := by decide +kernel
theorem dX10_layer_27 : decode cX10_layer 27 = .ok (.iload 6, 2) := by decide +kernel
theorem dX10_layer_29 : decode cX10_layer 29 = .ok (.aload_n 0, 1) := by decide +kernel
theorem dX10_layer_30 : decode cX10_layer 30 = .ok (.getfield 32, 3) := by decide +kernel
theorem dX10_layer_33 : decode cX10_layer 33 = .ok (.getfield 125, 3) := by decide +kernel
theorem dX10_layer_36 : decode cX10_layer 36 = .ok (.if_icmp .ge 50, 3) := by decide +kernel
theorem dX10_layer_39 : decode cX10_layer 39 = .ok (.aload_n 0, 1) := by decide +kernel
theorem dX10_layer_40 : decode cX10_layer 40 = .ok (.getfield 47, 3) := by decide +kernel
theorem dX10_layer_43 : decode cX10_layer 43 = .ok (.aload_n 0, 1) := by decide +kernel
theorem dX10_layer_44 : decode cX10_layer 44 = .ok (.getfield 63, 3) := by decide +kernel
theorem dX10_layer_47 : decode cX10_layer 47 = .ok (.iload 6, 2) := by decide +kernel
theorem dX10_layer_49 : decode cX10_layer 49 = .ok (.iload 5, 2) := by decide +kernel
theorem dX10_layer_51 : decode cX10_layer 51 = .ok (.invokevirtual 254, 3) := by decide +kernel
theorem dX10_layer_54 : decode cX10_layer 54 = .ok (.ifCond .lt 26, 3) := by decide +kernel
theorem dX10_layer_57 : decode cX10_layer 57 = .ok (.aload_n 0, 1) := by decide +kernel
theorem dX10_layer_58 : decode cX10_layer 58 = .ok (.getfield 47, 3) := by decide +kernel
theorem dX10_layer_61 : decode cX10_layer 61 = .ok (.aload_n 0, 1) := by decide +kernel
theorem dX10_layer_62 : decode cX10_layer 62 = .ok (.getfield 63, 3) := by decide +kernel
theorem dX10_layer_65 : decode cX10_layer 65 = .ok (.iload 6, 2) := by decide +kernel
theorem dX10_layer_67 : decode cX10_layer 67 = .ok (.iload 5, 2) := by decide +kernel
theorem dX10_layer_69 : decode cX10_layer 69 = .ok (.invokevirtual 369, 3) := by decide +kernel
theorem dX10_layer_72 : decode cX10_layer 72 = .ok (.iload 4, 2) := by decide +kernel
theorem dX10_layer_74 : decode cX10_layer 74 = .ok (.if_icmp .ne 6, 3) := by decide +kernel
theorem dX10_layer_77 : decode cX10_layer 77 = .ok (.iload 6, 2) := by decide +kernel
theorem dX10_layer_79 : decode cX10_layer 79 = .ok (.ireturn, 1) := by decide +kernel
theorem dX10_layer_80 : decode cX10_layer 80 = .ok (.iinc 6 1, 3) := by decide +kernel
theorem dX10_layer_83 : decode cX10_layer 83 = .ok (.goto (-56), 3) := by decide +kernel
theorem dX10_layer_86 : decode cX10_layer 86 = .ok (.iconst (-1), 1) := by decide +kernel
theorem dX10_layer_87 : decode cX10_layer 87 = .ok (.ireturn, 1) := by decide +kernel
theorem dX10_shown_0 : decode cX10_shown 0 = .ok (.aload_n 0, 1) := by decide +kernel
theorem dX10_shown_1 : decode cX10_shown 1 = .ok (.getfield 38, 3) := by decide +kernel
theorem dX10_shown_4 : decode cX10_shown 4 = .ok (.iload_n 1, 1) := by decide +kernel
theorem dX10_shown_5 : decode cX10_shown 5 = .ok (.iload_n 2, 1) := by decide +kernel
theorem dX10_shown_6 : decode cX10_shown 6 = .ok (.invokevirtual 245, 3) := by decide +kernel
theorem dX10_shown_9 : decode cX10_shown 9 = .ok (.ifCond .ne 5, 3) := by decide +kernel
theorem dX10_shown_12 : decode cX10_shown 12 = .ok (.iconst (-1), 1) := by decide +kernel
theorem dX10_shown_13 : decode cX10_shown 13 = .ok (.ireturn, 1) := by decide +kernel
theorem dX10_shown_14 : decode cX10_shown 14 = .ok (.aload_n 0, 1) := by decide +kernel
theorem dX10_shown_15 : decode cX10_shown 15 = .ok (.getfield 56, 3) := by decide +kernel
theorem dX10_shown_18 : decode cX10_shown 18 = .ok (.aload_n 0, 1) := by decide +kernel
theorem dX10_shown_19 : decode cX10_shown 19 = .ok (.getfield 63, 3) := by decide +kernel
theorem dX10_shown_22 : decode cX10_shown 22 = .ok (.invokevirtual 372, 3) := by decide +kernel
theorem dX10_shown_25 : decode cX10_shown 25 = .ok (.aload_n 0, 1) := by decide +kernel
theorem dX10_shown_26 : decode cX10_shown 26 = .ok (.getfield 38, 3) := by decide +kernel
theorem dX10_shown_29 : decode cX10_shown 29 = .ok (.aload_n 0, 1) := by decide +kernel
theorem dX10_shown_30 : decode cX10_shown 30 = .ok (.getfield 56, 3) := by decide +kernel
theorem dX10_shown_33 : decode cX10_shown 33 = .ok (.getfield 363, 3) := by decide +kernel
theorem dX10_shown_36 : decode cX10_shown 36 = .ok (.iload_n 2, 1) := by decide +kernel
theorem dX10_shown_37 : decode cX10_shown 37 = .ok (.bipush 8, 2) := by decide +kernel
theorem dX10_shown_39 : decode cX10_shown 39 = .ok (.imul, 1) := by decide +kernel
theorem dX10_shown_40 : decode cX10_shown 40 = .ok (.iload_n 1, 1) := by decide +kernel
theorem dX10_shown_41 : decode cX10_shown 41 = .ok (.iadd, 1) := by decide +kernel
theorem dX10_shown_42 : decode cX10_shown 42 = .ok (.invokevirtual 272, 3) := by decide +kernel
theorem dX10_shown_45 : decode cX10_shown 45 = .ok (.ireturn, 1) := by decide +kernel
theorem dX10_whole_0 : decode cX10_whole 0 = .ok (.aload_n 0, 1) := by decide +kernel
theorem dX10_whole_1 : decode cX10_whole 1 = .ok (.getfield 38, 3) := by decide +kernel
theorem dX10_whole_4 : decode cX10_whole 4 = .ok (.iload_n 1, 1) := by decide +kernel
theorem dX10_whole_5 : decode cX10_whole 5 = .ok (.iload_n 2, 1) := by decide +kernel
theorem dX10_whole_6 : decode cX10_whole 6 = .ok (.invokevirtual 245, 3) := by decide +kernel
theorem dX10_whole_9 : decode cX10_whole 9 = .ok (.ifCond .ne 5, 3) := by decide +kernel
theorem dX10_whole_12 : decode cX10_whole 12 = .ok (.iconst (-1), 1) := by decide +kernel
theorem dX10_whole_13 : decode cX10_whole 13 = .ok (.ireturn, 1) := by decide +kernel
theorem dX10_whole_14 : decode cX10_whole 14 = .ok (.aload_n 0, 1) := by decide +kernel
theorem dX10_whole_15 : decode cX10_whole 15 = .ok (.getfield 56, 3) := by decide +kernel
theorem dX10_whole_18 : decode cX10_whole 18 = .ok (.aload_n 0, 1) := by decide +kernel
theorem dX10_whole_19 : decode cX10_whole 19 = .ok (.getfield 63, 3) := by decide +kernel
theorem dX10_whole_22 : decode cX10_whole 22 = .ok (.aload_n 0, 1) := by decide +kernel
theorem dX10_whole_23 : decode cX10_whole 23 = .ok (.getfield 63, 3) := by decide +kernel
theorem dX10_whole_26 : decode cX10_whole 26 = .ok (.getfield 167, 3) := by decide +kernel
theorem dX10_whole_29 : decode cX10_whole 29 = .ok (.iconst 2, 1) := by decide +kernel
theorem dX10_whole_30 : decode cX10_whole 30 = .ok (.iaload, 1) := by decide +kernel
theorem dX10_whole_31 : decode cX10_whole 31 = .ok (.iconst (-1), 1) := by decide +kernel
theorem dX10_whole_32 : decode cX10_whole 32 = .ok (.invokevirtual 375, 3) := by decide +kernel
theorem dX10_whole_35 : decode cX10_whole 35 = .ok (.aload_n 0, 1) := by decide +kernel
theorem dX10_whole_36 : decode cX10_whole 36 = .ok (.getfield 38, 3) := by decide +kernel
theorem dX10_whole_39 : decode cX10_whole 39 = .ok (.aload_n 0, 1) := by decide +kernel
theorem dX10_whole_40 : decode cX10_whole 40 = .ok (.getfield 56, 3) := by decide +kernel
theorem dX10_whole_43 : decode cX10_whole 43 = .ok (.getfield 363, 3) := by decide +kernel
theorem dX10_whole_46 : decode cX10_whole 46 = .ok (.iload_n 2, 1) := by decide +kernel
theorem dX10_whole_47 : decode cX10_whole 47 = .ok (.bipush 8, 2) := by decide +kernel
theorem dX10_whole_49 : decode cX10_whole 49 = .ok (.imul, 1) := by decide +kernel
theorem dX10_whole_50 : decode cX10_whole 50 = .ok (.iload_n 1, 1) := by decide +kernel
theorem dX10_whole_51 : decode cX10_whole 51 = .ok (.iadd, 1) := by decide +kernel
theorem dX10_whole_52 : decode cX10_whole 52 = .ok (.invokevirtual 272, 3) := by decide +kernel
theorem dX10_whole_55 : decode cX10_whole 55 = .ok (.ireturn, 1) := by decide +kernel
theorem dX10_shared_0 : decode cX10_shared 0 = .ok (.aload_n 0, 1) := by decide +kernel
theorem dX10_shared_1 : decode cX10_shared 1 = .ok (.getfield 32, 3) := by decide +kernel
theorem dX10_shared_4 : decode cX10_shared 4 = .ok (.iload_n 1, 1) := by decide +kernel
theorem dX10_shared_5 : decode cX10_shared 5 = .ok (.invokevirtual 173, 3) := by decide +kernel
theorem dX10_shared_8 : decode cX10_shared 8 = .ok (.ifCond .eq 23, 3) := by decide +kernel
theorem dX10_shared_11 : decode cX10_shared 11 = .ok (.aload_n 0, 1) := by decide +kernel
theorem dX10_shared_12 : decode cX10_shared 12 = .ok (.getfield 32, 3) := by decide +kernel
theorem dX10_shared_15 : decode cX10_shared 15 = .ok (.iload_n 2, 1) := by decide +kernel
theorem dX10_shared_16 : decode cX10_shared 16 = .ok (.invokevirtual 173, 3) := by decide +kernel
theorem dX10_shared_19 : decode cX10_shared 19 = .ok (.ifCond .eq 12, 3) := by decide +kernel
theorem dX10_shared_22 : decode cX10_shared 22 = .ok (.iload_n 3, 1) := by decide +kernel
theorem dX10_shared_23 : decode cX10_shared 23 = .ok (.ifCond .lt 8, 3) := by decide +kernel
theorem dX10_shared_26 : decode cX10_shared 26 = .ok (.iload_n 3, 1) := by decide +kernel
theorem dX10_shared_27 : decode cX10_shared 27 = .ok (.iconst 1, 1) := by decide +kernel
theorem dX10_shared_28 : decode cX10_shared 28 = .ok (.if_icmp .le 5, 3) := by decide +kernel
theorem dX10_shared_31 : decode cX10_shared 31 = .ok (.iconst (-1), 1) := by decide +kernel
theorem dX10_shared_32 : decode cX10_shared 32 = .ok (.ireturn, 1) := by decide +kernel
theorem dX10_shared_33 : decode cX10_shared 33 = .ok (.aload_n 0, 1) := by decide +kernel
theorem dX10_shared_34 : decode cX10_shared 34 = .ok (.getfield 56, 3) := by decide +kernel
theorem dX10_shared_37 : decode cX10_shared 37 = .ok (.aload_n 0, 1) := by decide +kernel
theorem dX10_shared_38 : decode cX10_shared 38 = .ok (.getfield 63, 3) := by decide +kernel
theorem dX10_shared_41 : decode cX10_shared 41 = .ok (.iload_n 1, 1) := by decide +kernel
theorem dX10_shared_42 : decode cX10_shared 42 = .ok (.iload_n 2, 1) := by decide +kernel
theorem dX10_shared_43 : decode cX10_shared 43 = .ok (.iconst 2, 1) := by decide +kernel
theorem dX10_shared_44 : decode cX10_shared 44 = .ok (.iload_n 3, 1) := by decide +kernel
theorem dX10_shared_45 : decode cX10_shared 45 = .ok (.isub, 1) := by decide +kernel
theorem dX10_shared_46 : decode cX10_shared 46 = .ok (.invokevirtual 379, 3) := by decide +kernel
theorem dX10_shared_49 : decode cX10_shared 49 = .ok (.ireturn, 1) := by decide +kernel
theorem dX10_border_0 : decode cX10_border 0 = .ok (.aload_n 0, 1) := by decide +kernel
theorem dX10_border_1 : decode cX10_border 1 = .ok (.getfield 32, 3) := by decide +kernel
theorem dX10_border_4 : decode cX10_border 4 = .ok (.iload_n 1, 1) := by decide +kernel
theorem dX10_border_5 : decode cX10_border 5 = .ok (.invokevirtual 173, 3) := by decide +kernel
theorem dX10_border_8 : decode cX10_border 8 = .ok (.ifCond .eq 23, 3) := by decide +kernel
theorem dX10_border_11 : decode cX10_border 11 = .ok (.aload_n 0, 1) := by decide +kernel
theorem dX10_border_12 : decode cX10_border 12 = .ok (.getfield 32, 3) := by decide +kernel
theorem dX10_border_15 : decode cX10_border 15 = .ok (.iload_n 2, 1) := by decide +kernel
theorem dX10_border_16 : decode cX10_border 16 = .ok (.invokevirtual 173, 3) := by decide +kernel
theorem dX10_border_19 : decode cX10_border 19 = .ok (.ifCond .eq 12, 3) := by decide +kernel
theorem dX10_border_22 : decode cX10_border 22 = .ok (.iload_n 3, 1) := by decide +kernel
theorem dX10_border_23 : decode cX10_border 23 = .ok (.ifCond .lt 8, 3) := by decide +kernel
theorem dX10_border_26 : decode cX10_border 26 = .ok (.iload_n 3, 1) := by decide +kernel
theorem dX10_border_27 : decode cX10_border 27 = .ok (.iconst 2, 1) := by decide +kernel
theorem dX10_border_28 : decode cX10_border 28 = .ok (.if_icmp .le 5, 3) := by decide +kernel
theorem dX10_border_31 : decode cX10_border 31 = .ok (.iconst (-1), 1) := by decide +kernel
theorem dX10_border_32 : decode cX10_border 32 = .ok (.ireturn, 1) := by decide +kernel
theorem dX10_border_33 : decode cX10_border 33 = .ok (.aload_n 0, 1) := by decide +kernel
theorem dX10_border_34 : decode cX10_border 34 = .ok (.getfield 56, 3) := by decide +kernel
theorem dX10_border_37 : decode cX10_border 37 = .ok (.aload_n 0, 1) := by decide +kernel
theorem dX10_border_38 : decode cX10_border 38 = .ok (.getfield 63, 3) := by decide +kernel
theorem dX10_border_41 : decode cX10_border 41 = .ok (.iload_n 1, 1) := by decide +kernel
theorem dX10_border_42 : decode cX10_border 42 = .ok (.iload_n 2, 1) := by decide +kernel
theorem dX10_border_43 : decode cX10_border 43 = .ok (.iload_n 3, 1) := by decide +kernel
theorem dX10_border_44 : decode cX10_border 44 = .ok (.invokevirtual 383, 3) := by decide +kernel
theorem dX10_border_47 : decode cX10_border 47 = .ok (.ireturn, 1) := by decide +kernel
theorem dX10_left_0 : decode cX10_left 0 = .ok (.aload_n 0, 1) := by decide +kernel
theorem dX10_left_1 : decode cX10_left 1 = .ok (.getfield 32, 3) := by decide +kernel
theorem dX10_left_4 : decode cX10_left 4 = .ok (.iload_n 1, 1) := by decide +kernel
theorem dX10_left_5 : decode cX10_left 5 = .ok (.invokevirtual 173, 3) := by decide +kernel
theorem dX10_left_8 : decode cX10_left 8 = .ok (.ifCond .eq 18, 3) := by decide +kernel
theorem dX10_left_11 : decode cX10_left 11 = .ok (.aload_n 0, 1) := by decide +kernel
theorem dX10_left_12 : decode cX10_left 12 = .ok (.getfield 56, 3) := by decide +kernel
theorem dX10_left_15 : decode cX10_left 15 = .ok (.aload_n 0, 1) := by decide +kernel
theorem dX10_left_16 : decode cX10_left 16 = .ok (.getfield 63, 3) := by decide +kernel
theorem dX10_left_19 : decode cX10_left 19 = .ok (.iload_n 1, 1) := by decide +kernel
theorem dX10_left_20 : decode cX10_left 20 = .ok (.invokevirtual 386, 3) := by decide +kernel
theorem dX10_left_23 : decode cX10_left 23 = .ok (.goto 4, 3) := by decide +kernel
theorem dX10_left_26 : decode cX10_left 26 = .ok (.iconst (-1), 1) := by decide +kernel
theorem dX10_left_27 : decode cX10_left 27 = .ok (.ireturn, 1) := by decide +kernel
theorem dX10_orders_0 : decode cX10_orders 0 = .ok (.aload_n 0, 1) := by decide +kernel
theorem dX10_orders_1 : decode cX10_orders 1 = .ok (.invokevirtual 148, 3) := by decide +kernel
theorem dX10_orders_4 : decode cX10_orders 4 = .ok (.ifCond .eq 12, 3) := by decide +kernel
theorem dX10_orders_7 : decode cX10_orders 7 = .ok (.iload_n 1, 1) := by decide +kernel
theorem dX10_orders_8 : decode cX10_orders 8 = .ok (.ifCond .lt 8, 3) := by decide +kernel
theorem dX10_orders_11 : decode cX10_orders 11 = .ok (.iload_n 1, 1) := by decide +kernel
theorem dX10_orders_12 : decode cX10_orders 12 = .ok (.iconst 2, 1) := by decide +kernel
theorem dX10_orders_13 : decode cX10_orders 13 = .ok (.if_icmp .le 5, 3) := by decide +kernel
theorem dX10_orders_16 : decode cX10_orders 16 = .ok (.iconst (-1), 1) := by decide +kernel
theorem dX10_orders_17 : decode cX10_orders 17 = .ok (.ireturn, 1) := by decide +kernel
theorem dX10_orders_18 : decode cX10_orders 18 = .ok (.aload_n 0, 1) := by decide +kernel
theorem dX10_orders_19 : decode cX10_orders 19 = .ok (.getfield 56, 3) := by decide +kernel
theorem dX10_orders_22 : decode cX10_orders 22 = .ok (.aload_n 0, 1) := by decide +kernel
theorem dX10_orders_23 : decode cX10_orders 23 = .ok (.getfield 63, 3) := by decide +kernel
theorem dX10_orders_26 : decode cX10_orders 26 = .ok (.invokevirtual 389, 3) := by decide +kernel
theorem dX10_orders_29 : decode cX10_orders 29 = .ok (.aload_n 0, 1) := by decide +kernel
theorem dX10_orders_30 : decode cX10_orders 30 = .ok (.getfield 56, 3) := by decide +kernel
theorem dX10_orders_33 : decode cX10_orders 33 = .ok (.getfield 392, 3) := by decide +kernel
theorem dX10_orders_36 : decode cX10_orders 36 = .ok (.iload_n 1, 1) := by decide +kernel
theorem dX10_orders_37 : decode cX10_orders 37 = .ok (.iaload, 1) := by decide +kernel
theorem dX10_orders_38 : decode cX10_orders 38 = .ok (.ireturn, 1) := by decide +kernel
theorem dX10_shifts_0 : decode cX10_shifts 0 = .ok (.aload_n 0, 1) := by decide +kernel
theorem dX10_shifts_1 : decode cX10_shifts 1 = .ok (.getfield 32, 3) := by decide +kernel
theorem dX10_shifts_4 : decode cX10_shifts 4 = .ok (.iload_n 1, 1) := by decide +kernel
theorem dX10_shifts_5 : decode cX10_shifts 5 = .ok (.invokevirtual 173, 3) := by decide +kernel
theorem dX10_shifts_8 : decode cX10_shifts 8 = .ok (.ifCond .eq 22, 3) := by decide +kernel
theorem dX10_shifts_11 : decode cX10_shifts 11 = .ok (.iload_n 2, 1) := by decide +kernel
theorem dX10_shifts_12 : decode cX10_shifts 12 = .ok (.iconst 1, 1) := by decide +kernel
theorem dX10_shifts_13 : decode cX10_shifts 13 = .ok (.if_icmp .lt 17, 3) := by decide +kernel
theorem dX10_shifts_16 : decode cX10_shifts 16 = .ok (.iload_n 2, 1) := by decide +kernel
theorem dX10_shifts_17 : decode cX10_shifts 17 = .ok (.iconst 3, 1) := by decide +kernel
theorem dX10_shifts_18 : decode cX10_shifts 18 = .ok (.if_icmp .gt 12, 3) := by decide +kernel
theorem dX10_shifts_21 : decode cX10_shifts 21 = .ok (.iload_n 3, 1) := by decide +kernel
theorem dX10_shifts_22 : decode cX10_shifts 22 = .ok (.ifCond .lt 8, 3) := by decide +kernel
theorem dX10_shifts_25 : decode cX10_shifts 25 = .ok (.iload_n 3, 1) := by decide +kernel
theorem dX10_shifts_26 : decode cX10_shifts 26 = .ok (.iconst 2, 1) := by decide +kernel
theorem dX10_shifts_27 : decode cX10_shifts 27 = .ok (.if_icmp .le 5, 3) := by decide +kernel
theorem dX10_shifts_30 : decode cX10_shifts 30 = .ok (.iconst (-1), 1) := by decide +kernel
theorem dX10_shifts_31 : decode cX10_shifts 31 = .ok (.ireturn, 1) := by decide +kernel
theorem dX10_shifts_32 : decode cX10_shifts 32 = .ok (.aload_n 0, 1) := by decide +kernel
theorem dX10_shifts_33 : decode cX10_shifts 33 = .ok (.getfield 56, 3) := by decide +kernel
theorem dX10_shifts_36 : decode cX10_shifts 36 = .ok (.aload_n 0, 1) := by decide +kernel
theorem dX10_shifts_37 : decode cX10_shifts 37 = .ok (.getfield 63, 3) := by decide +kernel
theorem dX10_shifts_40 : decode cX10_shifts 40 = .ok (.iload_n 1, 1) := by decide +kernel
theorem dX10_shifts_41 : decode cX10_shifts 41 = .ok (.iload_n 2, 1) := by decide +kernel
theorem dX10_shifts_42 : decode cX10_shifts 42 = .ok (.invokevirtual 395, 3) := by decide +kernel
theorem dX10_shifts_45 : decode cX10_shifts 45 = .ok (.aload_n 0, 1) := by decide +kernel
theorem dX10_shifts_46 : decode cX10_shifts 46 = .ok (.getfield 56, 3) := by decide +kernel
theorem dX10_shifts_49 : decode cX10_shifts 49 = .ok (.getfield 392, 3) := by decide +kernel
theorem dX10_shifts_52 : decode cX10_shifts 52 = .ok (.iload_n 3, 1) := by decide +kernel
theorem dX10_shifts_53 : decode cX10_shifts 53 = .ok (.iaload, 1) := by decide +kernel
theorem dX10_shifts_54 : decode cX10_shifts 54 = .ok (.ireturn, 1) := by decide +kernel
theorem dX10_most_0 : decode cX10_most 0 = .ok (.aload_n 0, 1) := by decide +kernel
theorem dX10_most_1 : decode cX10_most 1 = .ok (.invokevirtual 148, 3) := by decide +kernel
theorem dX10_most_4 : decode cX10_most 4 = .ok (.ifCond .ne 6, 3) := by decide +kernel
theorem dX10_most_7 : decode cX10_most 7 = .ok (.ldc 231, 2) := by decide +kernel
theorem dX10_most_9 : decode cX10_most 9 = .ok (.ireturn, 1) := by decide +kernel
theorem dX10_most_10 : decode cX10_most 10 = .ok (.iload_n 1, 1) := by decide +kernel
theorem dX10_most_11 : decode cX10_most 11 = .ok (.tableswitch 157 0 9 #[53, 61, 69, 77, 85, 97, 109, 121, 133, 145], 53) := by decide +kernel
theorem dX10_most_64 : decode cX10_most 64 = .ok (.aload_n 0, 1) := by decide +kernel
theorem dX10_most_65 : decode cX10_most 65 = .ok (.getfield 63, 3) := by decide +kernel
theorem dX10_most_68 : decode cX10_most 68 = .ok (.invokevirtual 323, 3) := by decide +kernel
theorem dX10_most_71 : decode cX10_most 71 = .ok (.ireturn, 1) := by decide +kernel
theorem dX10_most_72 : decode cX10_most 72 = .ok (.aload_n 0, 1) := by decide +kernel
theorem dX10_most_73 : decode cX10_most 73 = .ok (.getfield 63, 3) := by decide +kernel
theorem dX10_most_76 : decode cX10_most 76 = .ok (.getfield 398, 3) := by decide +kernel
theorem dX10_most_79 : decode cX10_most 79 = .ok (.ireturn, 1) := by decide +kernel
theorem dX10_most_80 : decode cX10_most 80 = .ok (.aload_n 0, 1) := by decide +kernel
theorem dX10_most_81 : decode cX10_most 81 = .ok (.getfield 63, 3) := by decide +kernel
theorem dX10_most_84 : decode cX10_most 84 = .ok (.getfield 401, 3) := by decide +kernel
theorem dX10_most_87 : decode cX10_most 87 = .ok (.ireturn, 1) := by decide +kernel
theorem dX10_most_88 : decode cX10_most 88 = .ok (.aload_n 0, 1) := by decide +kernel
theorem dX10_most_89 : decode cX10_most 89 = .ok (.getfield 63, 3) := by decide +kernel
theorem dX10_most_92 : decode cX10_most 92 = .ok (.getfield 404, 3) := by decide +kernel
theorem dX10_most_95 : decode cX10_most 95 = .ok (.ireturn, 1) := by decide +kernel
theorem dX10_most_96 : decode cX10_most 96 = .ok (.aload_n 0, 1) := by decide +kernel
theorem dX10_most_97 : decode cX10_most 97 = .ok (.getfield 47, 3) := by decide +kernel
theorem dX10_most_100 : decode cX10_most 100 = .ok (.aload_n 0, 1) := by decide +kernel
theorem dX10_most_101 : decode cX10_most 101 = .ok (.getfield 63, 3) := by decide +kernel
theorem dX10_most_104 : decode cX10_most 104 = .ok (.invokevirtual 407, 3) := by decide +kernel
theorem dX10_most_107 : decode cX10_most 107 = .ok (.ireturn, 1) := by decide +kernel
theorem dX10_most_108 : decode cX10_most 108 = .ok (.aload_n 0, 1) := by decide +kernel
theorem dX10_most_109 : decode cX10_most 109 = .ok (.getfield 56, 3) := by decide +kernel
theorem dX10_most_112 : decode cX10_most 112 = .ok (.aload_n 0, 1) := by decide +kernel
theorem dX10_most_113 : decode cX10_most 113 = .ok (.getfield 63, 3) := by decide +kernel
theorem dX10_most_116 : decode cX10_most 116 = .ok (.invokevirtual 411, 3) := by decide +kernel
theorem dX10_most_119 : decode cX10_most 119 = .ok (.ireturn, 1) := by decide +kernel
theorem dX10_most_120 : decode cX10_most 120 = .ok (.aload_n 0, 1) := by decide +kernel
theorem dX10_most_121 : decode cX10_most 121 = .ok (.getfield 56, 3) := by decide +kernel
theorem dX10_most_124 : decode cX10_most 124 = .ok (.aload_n 0, 1) := by decide +kernel
theorem dX10_most_125 : decode cX10_most 125 = .ok (.getfield 63, 3) := by decide +kernel
theorem dX10_most_128 : decode cX10_most 128 = .ok (.invokevirtual 414, 3) := by decide +kernel
theorem dX10_most_131 : decode cX10_most 131 = .ok (.ireturn, 1) := by decide +kernel
theorem dX10_most_132 : decode cX10_most 132 = .ok (.aload_n 0, 1) := by decide +kernel
theorem dX10_most_133 : decode cX10_most 133 = .ok (.getfield 47, 3) := by decide +kernel
theorem dX10_most_136 : decode cX10_most 136 = .ok (.aload_n 0, 1) := by decide +kernel
theorem dX10_most_137 : decode cX10_most 137 = .ok (.getfield 63, 3) := by decide +kernel
theorem dX10_most_140 : decode cX10_most 140 = .ok (.invokevirtual 417, 3) := by decide +kernel
theorem dX10_most_143 : decode cX10_most 143 = .ok (.ireturn, 1) := by decide +kernel
theorem dX10_most_144 : decode cX10_most 144 = .ok (.aload_n 0, 1) := by decide +kernel
theorem dX10_most_145 : decode cX10_most 145 = .ok (.getfield 47, 3) := by decide +kernel
theorem dX10_most_148 : decode cX10_most 148 = .ok (.aload_n 0, 1) := by decide +kernel
theorem dX10_most_149 : decode cX10_most 149 = .ok (.getfield 63, 3) := by decide +kernel
theorem dX10_most_152 : decode cX10_most 152 = .ok (.invokevirtual 420, 3) := by decide +kernel
theorem dX10_most_155 : decode cX10_most 155 = .ok (.ireturn, 1) := by decide +kernel
theorem dX10_most_156 : decode cX10_most 156 = .ok (.aload_n 0, 1) := by decide +kernel
theorem dX10_most_157 : decode cX10_most 157 = .ok (.getfield 47, 3) := by decide +kernel
theorem dX10_most_160 : decode cX10_most 160 = .ok (.aload_n 0, 1) := by decide +kernel
theorem dX10_most_161 : decode cX10_most 161 = .ok (.getfield 63, 3) := by decide +kernel
theorem dX10_most_164 : decode cX10_most 164 = .ok (.invokevirtual 423, 3) := by decide +kernel
theorem dX10_most_167 : decode cX10_most 167 = .ok (.ireturn, 1) := by decide +kernel
theorem dX10_most_168 : decode cX10_most 168 = .ok (.ldc 231, 2) := by decide +kernel
theorem dX10_most_170 : decode cX10_most 170 = .ok (.ireturn, 1) := by decide +kernel
theorem dX10_image_0 : decode cX10_image 0 = .ok (.aload_n 0, 1) := by decide +kernel
theorem dX10_image_1 : decode cX10_image 1 = .ok (.invokevirtual 148, 3) := by decide +kernel
theorem dX10_image_4 : decode cX10_image 4 = .ok (.ifCond .ne 5, 3) := by decide +kernel
theorem dX10_image_7 : decode cX10_image 7 = .ok (.iconst (-1), 1) := by decide +kernel
theorem dX10_image_8 : decode cX10_image 8 = .ok (.ireturn, 1) := by decide +kernel
theorem dX10_image_9 : decode cX10_image 9 = .ok (.aload_n 0, 1) := by decide +kernel
theorem dX10_image_10 : decode cX10_image 10 = .ok (.getfield 67, 3) := by decide +kernel
theorem dX10_image_13 : decode cX10_image 13 = .ok (.aload_n 0, 1) := by decide +kernel
theorem dX10_image_14 : decode cX10_image 14 = .ok (.getfield 63, 3) := by decide +kernel
theorem dX10_image_17 : decode cX10_image 17 = .ok (.invokevirtual 426, 3) := by decide +kernel
theorem dX10_image_20 : decode cX10_image 20 = .ok (.aload_n 0, 1) := by decide +kernel
theorem dX10_image_21 : decode cX10_image 21 = .ok (.iconst 1, 1) := by decide +kernel
theorem dX10_image_22 : decode cX10_image 22 = .ok (.putfield 95, 3) := by decide +kernel
theorem dX10_image_25 : decode cX10_image 25 = .ok (.aload_n 0, 1) := by decide +kernel
theorem dX10_image_26 : decode cX10_image 26 = .ok (.getfield 63, 3) := by decide +kernel
theorem dX10_image_29 : decode cX10_image 29 = .ok (.invokevirtual 323, 3) := by decide +kernel
theorem dX10_image_32 : decode cX10_image 32 = .ok (.ireturn, 1) := by decide +kernel
theorem dX10_back_0 : decode cX10_back 0 = .ok (.aload_n 0, 1) := by decide +kernel
theorem dX10_back_1 : decode cX10_back 1 = .ok (.getfield 95, 3) := by decide +kernel
theorem dX10_back_4 : decode cX10_back 4 = .ok (.ifCond .ne 5, 3) := by decide +kernel
theorem dX10_back_7 : decode cX10_back 7 = .ok (.iconst (-1), 1) := by decide +kernel
theorem dX10_back_8 : decode cX10_back 8 = .ok (.ireturn, 1) := by decide +kernel
theorem dX10_back_9 : decode cX10_back 9 = .ok (.aload_n 0, 1) := by decide +kernel
theorem dX10_back_10 : decode cX10_back 10 = .ok (.getfield 63, 3) := by decide +kernel
theorem dX10_back_13 : decode cX10_back 13 = .ok (.aload_n 0, 1) := by decide +kernel
theorem dX10_back_14 : decode cX10_back 14 = .ok (.getfield 67, 3) := by decide +kernel
theorem dX10_back_17 : decode cX10_back 17 = .ok (.invokevirtual 426, 3) := by decide +kernel
theorem dX10_back_20 : decode cX10_back 20 = .ok (.aload_n 0, 1) := by decide +kernel
theorem dX10_back_21 : decode cX10_back 21 = .ok (.getfield 47, 3) := by decide +kernel
theorem dX10_back_24 : decode cX10_back 24 = .ok (.aload_n 0, 1) := by decide +kernel
theorem dX10_back_25 : decode cX10_back 25 = .ok (.getfield 63, 3) := by decide +kernel
theorem dX10_back_28 : decode cX10_back 28 = .ok (.invokevirtual 141, 3) := by decide +kernel
theorem dX10_back_31 : decode cX10_back 31 = .ok (.aload_n 0, 1) := by decide +kernel
theorem dX10_back_32 : decode cX10_back 32 = .ok (.getfield 73, 3) := by decide +kernel
theorem dX10_back_35 : decode cX10_back 35 = .ok (.invokevirtual 145, 3) := by decide +kernel
theorem dX10_back_38 : decode cX10_back 38 = .ok (.aload_n 0, 1) := by decide +kernel
theorem dX10_back_39 : decode cX10_back 39 = .ok (.getfield 63, 3) := by decide +kernel
theorem dX10_back_42 : decode cX10_back 42 = .ok (.invokevirtual 323, 3) := by decide +kernel
theorem dX10_back_45 : decode cX10_back 45 = .ok (.ireturn, 1) := by decide +kernel
theorem dX10_count_0 : decode cX10_count 0 = .ok (.iload_n 1, 1) := by decide +kernel
theorem dX10_count_1 : decode cX10_count 1 = .ok (.tableswitch 84 0 5 #[39, 47, 52, 60, 68, 76], 39) := by decide +kernel
theorem dX10_count_40 : decode cX10_count 40 = .ok (.aload_n 0, 1) := by decide +kernel
theorem dX10_count_41 : decode cX10_count 41 = .ok (.getfield 32, 3) := by decide +kernel
theorem dX10_count_44 : decode cX10_count 44 = .ok (.getfield 125, 3) := by decide +kernel
theorem dX10_count_47 : decode cX10_count 47 = .ok (.ireturn, 1) := by decide +kernel
theorem dX10_count_48 : decode cX10_count 48 = .ok (.aload_n 0, 1) := by decide +kernel
theorem dX10_count_49 : decode cX10_count 49 = .ok (.getfield 91, 3) := by decide +kernel
theorem dX10_count_52 : decode cX10_count 52 = .ok (.ireturn, 1) := by decide +kernel
theorem dX10_count_53 : decode cX10_count 53 = .ok (.aload_n 0, 1) := by decide +kernel
theorem dX10_count_54 : decode cX10_count 54 = .ok (.getfield 10, 3) := by decide +kernel
theorem dX10_count_57 : decode cX10_count 57 = .ok (.getfield 107, 3) := by decide +kernel
theorem dX10_count_60 : decode cX10_count 60 = .ok (.ireturn, 1) := by decide +kernel
theorem dX10_count_61 : decode cX10_count 61 = .ok (.aload_n 0, 1) := by decide +kernel
theorem dX10_count_62 : decode cX10_count 62 = .ok (.getfield 38, 3) := by decide +kernel
theorem dX10_count_65 : decode cX10_count 65 = .ok (.getfield 170, 3) := by decide +kernel
theorem dX10_count_68 : decode cX10_count 68 = .ok (.ireturn, 1) := by decide +kernel
theorem dX10_count_69 : decode cX10_count 69 = .ok (.aload_n 0, 1) := by decide +kernel
theorem dX10_count_70 : decode cX10_count 70 = .ok (.getfield 63, 3) := by decide +kernel
theorem dX10_count_73 : decode cX10_count 73 = .ok (.invokevirtual 340, 3) := by decide +kernel
theorem dX10_count_76 : decode cX10_count 76 = .ok (.ireturn, 1) := by decide +kernel
theorem dX10_count_77 : decode cX10_count 77 = .ok (.aload_n 0, 1) := by decide +kernel
theorem dX10_count_78 : decode cX10_count 78 = .ok (.getfield 73, 3) := by decide +kernel
theorem dX10_count_81 : decode cX10_count 81 = .ok (.getfield 334, 3) := by decide +kernel
theorem dX10_count_84 : decode cX10_count 84 = .ok (.ireturn, 1) := by decide +kernel
theorem dX10_count_85 : decode cX10_count 85 = .ok (.ldc 231, 2) := by decide +kernel
theorem dX10_count_87 : decode cX10_count 87 = .ok (.ireturn, 1) := by decide +kernel
