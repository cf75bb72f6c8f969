theorem dX0_init_0 : decode cX0_init 0 = .ok (.aload_n 0, 1) := by decide +kernel
theorem dX0_init_1 : decode cX0_init 1 = .ok (.invokespecial 3, 3) := by decide +kernel
theorem dX0_init_4 : decode cX0_init 4 = .ok (.aload_n 0, 1) := by decide +kernel
theorem dX0_init_5 : decode cX0_init 5 = .ok (.sipush 256, 3) := by decide +kernel
theorem dX0_init_8 : decode cX0_init 8 = .ok (.newarray .int, 2) := by decide +kernel
theorem dX0_init_10 : decode cX0_init 10 = .ok (.putfield 9, 3) := by decide +kernel
theorem dX0_init_13 : decode cX0_init 13 = .ok (.aload_n 0, 1) := by decide +kernel
theorem dX0_init_14 : decode cX0_init 14 = .ok (.sipush 256, 3) := by decide +kernel
theorem dX0_init_17 : decode cX0_init 17 = .ok (.newarray .int, 2) := by decide +kernel
theorem dX0_init_19 : decode cX0_init 19 = .ok (.putfield 15, 3) := by decide +kernel
theorem dX0_init_22 : decode cX0_init 22 = .ok (.aload_n 0, 1) := by decide +kernel
theorem dX0_init_23 : decode cX0_init 23 = .ok (.sipush 256, 3) := by decide +kernel
theorem dX0_init_26 : decode cX0_init 26 = .ok (.newarray .int, 2) := by decide +kernel
theorem dX0_init_28 : decode cX0_init 28 = .ok (.putfield 18, 3) := by decide +kernel
theorem dX0_init_31 : decode cX0_init 31 = .ok (.aload_n 0, 1) := by decide +kernel
theorem dX0_init_32 : decode cX0_init 32 = .ok (.sipush 160, 3) := by decide +kernel
theorem dX0_init_35 : decode cX0_init 35 = .ok (.newarray .int, 2) := by decide +kernel
theorem dX0_init_37 : decode cX0_init 37 = .ok (.putfield 21, 3) := by decide +kernel
theorem dX0_init_40 : decode cX0_init 40 = .ok (.aload_n 0, 1) := by decide +kernel
theorem dX0_init_41 : decode cX0_init 41 = .ok (.bipush 16, 2) := by decide +kernel
theorem dX0_init_43 : decode cX0_init 43 = .ok (.newarray .int, 2) := by decide +kernel
theorem dX0_init_45 : decode cX0_init 45 = .ok (.putfield 24, 3) := by decide +kernel
theorem dX0_init_48 : decode cX0_init 48 = .ok (.aload_n 0, 1) := by decide +kernel
theorem dX0_init_49 : decode cX0_init 49 = .ok (.bipush 60, 2) := by decide +kernel
theorem dX0_init_51 : decode cX0_init 51 = .ok (.newarray .int, 2) := by decide +kernel
theorem dX0_init_53 : decode cX0_init 53 = .ok (.putfield 27, 3) := by decide +kernel
theorem dX0_init_56 : decode cX0_init 56 = .ok (.aload_n 0, 1) := by decide +kernel
theorem dX0_init_57 : decode cX0_init 57 = .ok (.iconst 4, 1) := by decide +kernel
theorem dX0_init_58 : decode cX0_init 58 = .ok (.newarray .int, 2) := by decide +kernel
theorem dX0_init_60 : decode cX0_init 60 = .ok (.putfield 30, 3) := by decide +kernel
theorem dX0_init_63 : decode cX0_init 63 = .ok (.aload_n 0, 1) := by decide +kernel
theorem dX0_init_64 : decode cX0_init 64 = .ok (.bipush 10, 2) := by decide +kernel
theorem dX0_init_66 : decode cX0_init 66 = .ok (.newarray .long, 2) := by decide +kernel
theorem dX0_init_68 : decode cX0_init 68 = .ok (.putfield 33, 3) := by decide +kernel
theorem dX0_init_71 : decode cX0_init 71 = .ok (.aload_n 0, 1) := by decide +kernel
theorem dX0_init_72 : decode cX0_init 72 = .ok (.sipush 180, 3) := by decide +kernel
theorem dX0_init_75 : decode cX0_init 75 = .ok (.newarray .int, 2) := by decide +kernel
theorem dX0_init_77 : decode cX0_init 77 = .ok (.putfield 37, 3) := by decide +kernel
theorem dX0_init_80 : decode cX0_init 80 = .ok (.return_, 1) := by decide +kernel
theorem dX0_beginWith_0 : decode cX0_beginWith 0 = .ok (.aload_n 0, 1) := by decide +kernel
theorem dX0_beginWith_1 : decode cX0_beginWith 1 = .ok (.aload_n 1, 1) := by decide +kernel
theorem dX0_beginWith_2 : decode cX0_beginWith 2 = .ok (.getfield 40, 3) := by decide +kernel
theorem dX0_beginWith_5 : decode cX0_beginWith 5 = .ok (.invokevirtual 46, 3) := by decide +kernel
theorem dX0_beginWith_8 : decode cX0_beginWith 8 = .ok (.pop, 1) := by decide +kernel
theorem dX0_beginWith_9 : decode cX0_beginWith 9 = .ok (.aload_n 1, 1) := by decide +kernel
theorem dX0_beginWith_10 : decode cX0_beginWith 10 = .ok (.getfield 50, 3) := by decide +kernel
theorem dX0_beginWith_13 : decode cX0_beginWith 13 = .ok (.iconst 0, 1) := by decide +kernel
theorem dX0_beginWith_14 : decode cX0_beginWith 14 = .ok (.aload_n 0, 1) := by decide +kernel
theorem dX0_beginWith_15 : decode cX0_beginWith 15 = .ok (.getfield 27, 3) := by decide +kernel
theorem dX0_beginWith_18 : decode cX0_beginWith 18 = .ok (.iconst 0, 1) := by decide +kernel
theorem dX0_beginWith_19 : decode cX0_beginWith 19 = .ok (.aload_n 0, 1) := by decide +kernel
theorem dX0_beginWith_20 : decode cX0_beginWith 20 = .ok (.getfield 27, 3) := by decide +kernel
theorem dX0_beginWith_23 : decode cX0_beginWith 23 = .ok (.arraylength, 1) := by decide +kernel
theorem dX0_beginWith_24 : decode cX0_beginWith 24 = .ok (.invokestatic 51, 3) := by decide +kernel
theorem dX0_beginWith_27 : decode cX0_beginWith 27 = .ok (.aload_n 1, 1) := by decide +kernel
theorem dX0_beginWith_28 : decode cX0_beginWith 28 = .ok (.getfield 57, 3) := by decide +kernel
theorem dX0_beginWith_31 : decode cX0_beginWith 31 = .ok (.iconst 0, 1) := by decide +kernel
theorem dX0_beginWith_32 : decode cX0_beginWith 32 = .ok (.aload_n 0, 1) := by decide +kernel
theorem dX0_beginWith_33 : decode cX0_beginWith 33 = .ok (.getfield 30, 3) := by decide +kernel
theorem dX0_beginWith_36 : decode cX0_beginWith 36 = .ok (.iconst 0, 1) := by decide +kernel
theorem dX0_beginWith_37 : decode cX0_beginWith 37 = .ok (.aload_n 0, 1) := by decide +kernel
theorem dX0_beginWith_38 : decode cX0_beginWith 38 = .ok (.getfield 30, 3) := by decide +kernel
theorem dX0_beginWith_41 : decode cX0_beginWith 41 = .ok (.arraylength, 1) := by decide +kernel
theorem dX0_beginWith_42 : decode cX0_beginWith 42 = .ok (.invokestatic 51, 3) := by decide +kernel
theorem dX0_beginWith_45 : decode cX0_beginWith 45 = .ok (.aload_n 0, 1) := by decide +kernel
theorem dX0_beginWith_46 : decode cX0_beginWith 46 = .ok (.iconst 0, 1) := by decide +kernel
theorem dX0_beginWith_47 : decode cX0_beginWith 47 = .ok (.putfield 58, 3) := by decide +kernel
theorem dX0_beginWith_50 : decode cX0_beginWith 50 = .ok (.return_, 1) := by decide +kernel
theorem dX0_wipe_0 : decode cX0_wipe 0 = .ok (.iconst 0, 1) := by decide +kernel
theorem dX0_wipe_1 : decode cX0_wipe 1 = .ok (.istore_n 2, 1) := by decide +kernel
theorem dX0_wipe_2 : decode cX0_wipe 2 = .ok (.iconst 0, 1) := by decide +kernel
theorem dX0_wipe_3 : decode cX0_wipe 3 = .ok (.istore_n 3, 1) := by decide +kernel
theorem dX0_wipe_4 : decode cX0_wipe 4 = .ok (.iload_n 3, 1) := by decide +kernel
theorem dX0_wipe_5 : decode cX0_wipe 5 = .ok (.bipush 16, 2) := by decide +kernel
theorem dX0_wipe_7 : decode cX0_wipe 7 = .ok (.if_icmp .ge 18, 3) := by decide +kernel
theorem dX0_wipe_10 : decode cX0_wipe 10 = .ok (.iload_n 2, 1) := by decide +kernel
theorem dX0_wipe_11 : decode cX0_wipe 11 = .ok (.aload_n 0, 1) := by decide +kernel
theorem dX0_wipe_12 : decode cX0_wipe 12 = .ok (.getfield 24, 3) := by decide +kernel
theorem dX0_wipe_15 : decode cX0_wipe 15 = .ok (.iload_n 3, 1) := by decide +kernel
theorem dX0_wipe_16 : decode cX0_wipe 16 = .ok (.iaload, 1) := by decide +kernel
theorem dX0_wipe_17 : decode cX0_wipe 17 = .ok (.iadd, 1) := by decide +kernel
theorem dX0_wipe_18 : decode cX0_wipe 18 = .ok (.istore_n 2, 1) := by decide +kernel
theorem dX0_wipe_19 : decode cX0_wipe 19 = .ok (.iinc 3 1, 3) := by decide +kernel
theorem dX0_wipe_22 : decode cX0_wipe 22 = .ok (.goto (-18), 3) := by decide +kernel
theorem dX0_wipe_25 : decode cX0_wipe 25 = .ok (.aload_n 0, 1) := by decide +kernel
theorem dX0_wipe_26 : decode cX0_wipe 26 = .ok (.getfield 9, 3) := by decide +kernel
theorem dX0_wipe_29 : decode cX0_wipe 29 = .ok (.sipush 1000, 3) := by decide +kernel
theorem dX0_wipe_32 : decode cX0_wipe 32 = .ok (.invokestatic 61, 3) := by decide +kernel
theorem dX0_wipe_35 : decode cX0_wipe 35 = .ok (.aload_n 0, 1) := by decide +kernel
theorem dX0_wipe_36 : decode cX0_wipe 36 = .ok (.getfield 15, 3) := by decide +kernel
theorem dX0_wipe_39 : decode cX0_wipe 39 = .ok (.iload_n 1, 1) := by decide +kernel
theorem dX0_wipe_40 : decode cX0_wipe 40 = .ok (.invokestatic 61, 3) := by decide +kernel
theorem dX0_wipe_43 : decode cX0_wipe 43 = .ok (.aload_n 0, 1) := by decide +kernel
theorem dX0_wipe_44 : decode cX0_wipe 44 = .ok (.getfield 18, 3) := by decide +kernel
theorem dX0_wipe_47 : decode cX0_wipe 47 = .ok (.iconst (-1), 1) := by decide +kernel
theorem dX0_wipe_48 : decode cX0_wipe 48 = .ok (.invokestatic 61, 3) := by decide +kernel
theorem dX0_wipe_51 : decode cX0_wipe 51 = .ok (.aload_n 0, 1) := by decide +kernel
theorem dX0_wipe_52 : decode cX0_wipe 52 = .ok (.getfield 24, 3) := by decide +kernel
theorem dX0_wipe_55 : decode cX0_wipe 55 = .ok (.iconst 0, 1) := by decide +kernel
theorem dX0_wipe_56 : decode cX0_wipe 56 = .ok (.invokestatic 61, 3) := by decide +kernel
theorem dX0_wipe_59 : decode cX0_wipe 59 = .ok (.aload_n 0, 1) := by decide +kernel
theorem dX0_wipe_60 : decode cX0_wipe 60 = .ok (.getfield 33, 3) := by decide +kernel
theorem dX0_wipe_63 : decode cX0_wipe 63 = .ok (.lconst 0, 1) := by decide +kernel
theorem dX0_wipe_64 : decode cX0_wipe 64 = .ok (.invokestatic 67, 3) := by decide +kernel
theorem dX0_wipe_67 : decode cX0_wipe 67 = .ok (.aload_n 0, 1) := by decide +kernel
theorem dX0_wipe_68 : decode cX0_wipe 68 = .ok (.iconst 0, 1) := by decide +kernel
theorem dX0_wipe_69 : decode cX0_wipe 69 = .ok (.putfield 70, 3) := by decide +kernel
theorem dX0_wipe_72 : decode cX0_wipe 72 = .ok (.aload_n 0, 1) := by decide +kernel
theorem dX0_wipe_73 : decode cX0_wipe 73 = .ok (.iconst 0, 1) := by decide +kernel
theorem dX0_wipe_74 : decode cX0_wipe 74 = .ok (.putfield 73, 3) := by decide +kernel
theorem dX0_wipe_77 : decode cX0_wipe 77 = .ok (.aload_n 0, 1) := by decide +kernel
theorem dX0_wipe_78 : decode cX0_wipe 78 = .ok (.iconst 0, 1) := by decide +kernel
theorem dX0_wipe_79 : decode cX0_wipe 79 = .ok (.putfield 76, 3) := by decide +kernel
theorem dX0_wipe_82 : decode cX0_wipe 82 = .ok (.iload_n 2, 1) := by decide +kernel
theorem dX0_wipe_83 : decode cX0_wipe 83 = .ok (.ireturn, 1) := by decide +kernel
theorem dX0_pairs_0 : decode cX0_pairs 0 = .ok (.iconst 0, 1) := by decide +kernel
theorem dX0_pairs_1 : decode cX0_pairs 1 = .ok (.istore_n 1, 1) := by decide +kernel
theorem dX0_pairs_2 : decode cX0_pairs 2 = .ok (.iconst 0, 1) := by decide +kernel
theorem dX0_pairs_3 : decode cX0_pairs 3 = .ok (.istore_n 2, 1) := by decide +kernel
theorem dX0_pairs_4 : decode cX0_pairs 4 = .ok (.iload_n 2, 1) := by decide +kernel
theorem dX0_pairs_5 : decode cX0_pairs 5 = .ok (.bipush 10, 2) := by decide +kernel
theorem dX0_pairs_7 : decode cX0_pairs 7 = .ok (.if_icmp .ge 21, 3) := by decide +kernel
theorem dX0_pairs_10 : decode cX0_pairs 10 = .ok (.iload_n 1, 1) := by decide +kernel
theorem dX0_pairs_11 : decode cX0_pairs 11 = .ok (.aload_n 0, 1) := by decide +kernel
theorem dX0_pairs_12 : decode cX0_pairs 12 = .ok (.getfield 33, 3) := by decide +kernel
theorem dX0_pairs_15 : decode cX0_pairs 15 = .ok (.iload_n 2, 1) := by decide +kernel
theorem dX0_pairs_16 : decode cX0_pairs 16 = .ok (.laload, 1) := by decide +kernel
theorem dX0_pairs_17 : decode cX0_pairs 17 = .ok (.invokestatic 79, 3) := by decide +kernel
theorem dX0_pairs_20 : decode cX0_pairs 20 = .ok (.iadd, 1) := by decide +kernel
theorem dX0_pairs_21 : decode cX0_pairs 21 = .ok (.istore_n 1, 1) := by decide +kernel
theorem dX0_pairs_22 : decode cX0_pairs 22 = .ok (.iinc 2 1, 3) := by decide +kernel
theorem dX0_pairs_25 : decode cX0_pairs 25 = .ok (.goto (-21), 3) := by decide +kernel
theorem dX0_pairs_28 : decode cX0_pairs 28 = .ok (.iload_n 1, 1) := by decide +kernel
theorem dX0_pairs_29 : decode cX0_pairs 29 = .ok (.ireturn, 1) := by decide +kernel
theorem dX0_note_0 : decode cX0_note 0 = .ok (.aload_n 0, 1) := by decide +kernel
theorem dX0_note_1 : decode cX0_note 1 = .ok (.getfield 58, 3) := by decide +kernel
theorem dX0_note_4 : decode cX0_note 4 = .ok (.bipush 60, 2) := by decide +kernel
theorem dX0_note_6 : decode cX0_note 6 = .ok (.invokestatic 85, 3) := by decide +kernel
theorem dX0_note_9 : decode cX0_note 9 = .ok (.iconst 3, 1) := by decide +kernel
theorem dX0_note_10 : decode cX0_note 10 = .ok (.imul, 1) := by decide +kernel
theorem dX0_note_11 : decode cX0_note 11 = .ok (.istore_n 3, 1) := by decide +kernel
theorem dX0_note_12 : decode cX0_note 12 = .ok (.aload_n 0, 1) := by decide +kernel
theorem dX0_note_13 : decode cX0_note 13 = .ok (.getfield 37, 3) := by decide +kernel
theorem dX0_note_16 : decode cX0_note 16 = .ok (.iload_n 3, 1) := by decide +kernel
theorem dX0_note_17 : decode cX0_note 17 = .ok (.iload_n 1, 1) := by decide +kernel
theorem dX0_note_18 : decode cX0_note 18 = .ok (.iastore, 1) := by decide +kernel
theorem dX0_note_19 : decode cX0_note 19 = .ok (.aload_n 0, 1) := by decide +kernel
theorem dX0_note_20 : decode cX0_note 20 = .ok (.getfield 37, 3) := by decide +kernel
theorem dX0_note_23 : decode cX0_note 23 = .ok (.iload_n 3, 1) := by decide +kernel
theorem dX0_note_24 : decode cX0_note 24 = .ok (.iconst 1, 1) := by decide +kernel
theorem dX0_note_25 : decode cX0_note 25 = .ok (.iadd, 1) := by decide +kernel
theorem dX0_note_26 : decode cX0_note 26 = .ok (.iload_n 2, 1) := by decide +kernel
theorem dX0_note_27 : decode cX0_note 27 = .ok (.iastore, 1) := by decide +kernel
theorem dX0_note_28 : decode cX0_note 28 = .ok (.aload_n 0, 1) := by decide +kernel
theorem dX0_note_29 : decode cX0_note 29 = .ok (.getfield 37, 3) := by decide +kernel
theorem dX0_note_32 : decode cX0_note 32 = .ok (.iload_n 3, 1) := by decide +kernel
theorem dX0_note_33 : decode cX0_note 33 = .ok (.iconst 2, 1) := by decide +kernel
theorem dX0_note_34 : decode cX0_note 34 = .ok (.iadd, 1) := by decide +kernel
theorem dX0_note_35 : decode cX0_note 35 = .ok (.aload_n 0, 1) := by decide +kernel
theorem dX0_note_36 : decode cX0_note 36 = .ok (.invokevirtual 91, 3) := by decide +kernel
theorem dX0_note_39 : decode cX0_note 39 = .ok (.iastore, 1) := by decide +kernel
theorem dX0_note_40 : decode cX0_note 40 = .ok (.aload_n 0, 1) := by decide +kernel
theorem dX0_note_41 : decode cX0_note 41 = .ok (.dup, 1) := by decide +kernel
theorem dX0_note_42 : decode cX0_note 42 = .ok (.getfield 58, 3) := by decide +kernel
theorem dX0_note_45 : decode cX0_note 45 = .ok (.iconst 1, 1) := by decide +kernel
theorem dX0_note_46 : decode cX0_note 46 = .ok (.iadd, 1) := by decide +kernel
theorem dX0_note_47 : decode cX0_note 47 = .ok (.putfield 58, 3) := by decide +kernel
theorem dX0_note_50 : decode cX0_note 50 = .ok (.return_, 1) := by decide +kernel
theorem dX0_logLength_0 : decode cX0_logLength 0 = .ok (.aload_n 0, 1) := by decide +kernel
theorem dX0_logLength_1 : decode cX0_logLength 1 = .ok (.getfield 58, 3) := by decide +kernel
theorem dX0_logLength_4 : decode cX0_logLength 4 = .ok (.bipush 60, 2) := by decide +kernel
theorem dX0_logLength_6 : decode cX0_logLength 6 = .ok (.invokestatic 95, 3) := by decide +kernel
theorem dX0_logLength_9 : decode cX0_logLength 9 = .ok (.ireturn, 1) := by decide +kernel
theorem dX0_noted_0 : decode cX0_noted 0 = .ok (.aload_n 0, 1) := by decide +kernel
theorem dX0_noted_1 : decode cX0_noted 1 = .ok (.getfield 37, 3) := by decide +kernel
theorem dX0_noted_4 : decode cX0_noted 4 = .ok (.aload_n 0, 1) := by decide +kernel
theorem dX0_noted_5 : decode cX0_noted 5 = .ok (.getfield 58, 3) := by decide +kernel
theorem dX0_noted_8 : decode cX0_noted 8 = .ok (.iconst 1, 1) := by decide +kernel
theorem dX0_noted_9 : decode cX0_noted 9 = .ok (.isub, 1) := by decide +kernel
theorem dX0_noted_10 : decode cX0_noted 10 = .ok (.iload_n 1, 1) := by decide +kernel
theorem dX0_noted_11 : decode cX0_noted 11 = .ok (.isub, 1) := by decide +kernel
theorem dX0_noted_12 : decode cX0_noted 12 = .ok (.bipush 60, 2) := by decide +kernel
theorem dX0_noted_14 : decode cX0_noted 14 = .ok (.invokestatic 85, 3) := by decide +kernel
theorem dX0_noted_17 : decode cX0_noted 17 = .ok (.iconst 3, 1) := by decide +kernel
theorem dX0_noted_18 : decode cX0_noted 18 = .ok (.imul, 1) := by decide +kernel
theorem dX0_noted_19 : decode cX0_noted 19 = .ok (.iload_n 2, 1) := by decide +kernel
theorem dX0_noted_20 : decode cX0_noted 20 = .ok (.iadd, 1) := by decide +kernel
theorem dX0_noted_21 : decode cX0_noted 21 = .ok (.iaload, 1) := by decide +kernel
theorem dX0_noted_22 : decode cX0_noted 22 = .ok (.ireturn, 1) := by decide +kernel
theorem dX0_copyFrom_0 : decode cX0_copyFrom 0 = .ok (.aload_n 1, 1) := by decide +kernel
theorem dX0_copyFrom_1 : decode cX0_copyFrom 1 = .ok (.getfield 9, 3) := by decide +kernel
theorem dX0_copyFrom_4 : decode cX0_copyFrom 4 = .ok (.iconst 0, 1) := by decide +kernel
theorem dX0_copyFrom_5 : decode cX0_copyFrom 5 = .ok (.aload_n 0, 1) := by decide +kernel
theorem dX0_copyFrom_6 : decode cX0_copyFrom 6 = .ok (.getfield 9, 3) := by decide +kernel
theorem dX0_copyFrom_9 : decode cX0_copyFrom 9 = .ok (.iconst 0, 1) := by decide +kernel
theorem dX0_copyFrom_10 : decode cX0_copyFrom 10 = .ok (.aload_n 0, 1) := by decide +kernel
theorem dX0_copyFrom_11 : decode cX0_copyFrom 11 = .ok (.getfield 9, 3) := by decide +kernel
theorem dX0_copyFrom_14 : decode cX0_copyFrom 14 = .ok (.arraylength, 1) := by decide +kernel
theorem dX0_copyFrom_15 : decode cX0_copyFrom 15 = .ok (.invokestatic 51, 3) := by decide +kernel
theorem dX0_copyFrom_18 : decode cX0_copyFrom 18 = .ok (.aload_n 1, 1) := by decide +kernel
theorem dX0_copyFrom_19 : decode cX0_copyFrom 19 = .ok (.getfield 15, 3) := by decide +kernel
theorem dX0_copyFrom_22 : decode cX0_copyFrom 22 = .ok (.iconst 0, 1) := by decide +kernel
theorem dX0_copyFrom_23 : decode cX0_copyFrom 23 = .ok (.aload_n 0, 1) := by decide +kernel
theorem dX0_copyFrom_24 : decode cX0_copyFrom 24 = .ok (.getfield 15, 3) := by decide +kernel
theorem dX0_copyFrom_27 : decode cX0_copyFrom 27 = .ok (.iconst 0, 1) := by decide +kernel
theorem dX0_copyFrom_28 : decode cX0_copyFrom 28 = .ok (.aload_n 0, 1) := by decide +kernel
theorem dX0_copyFrom_29 : decode cX0_copyFrom 29 = .ok (.getfield 15, 3) := by decide +kernel
theorem dX0_copyFrom_32 : decode cX0_copyFrom 32 = .ok (.arraylength, 1) := by decide +kernel
theorem dX0_copyFrom_33 : decode cX0_copyFrom 33 = .ok (.invokestatic 51, 3) := by decide +kernel
theorem dX0_copyFrom_36 : decode cX0_copyFrom 36 = .ok (.aload_n 1, 1) := by decide +kernel
theorem dX0_copyFrom_37 : decode cX0_copyFrom 37 = .ok (.getfield 18, 3) := by decide +kernel
theorem dX0_copyFrom_40 : decode cX0_copyFrom 40 = .ok (.iconst 0, 1) := by decide +kernel
theorem dX0_copyFrom_41 : decode cX0_copyFrom 41 = .ok (.aload_n 0, 1) := by decide +kernel
theorem dX0_copyFrom_42 : decode cX0_copyFrom 42 = .ok (.getfield 18, 3) := by decide +kernel
theorem dX0_copyFrom_45 : decode cX0_copyFrom 45 = .ok (.iconst 0, 1) := by decide +kernel
theorem dX0_copyFrom_46 : decode cX0_copyFrom 46 = .ok (.aload_n 0, 1) := by decide +kernel
theorem dX0_copyFrom_47 : decode cX0_copyFrom 47 = .ok (.getfield 18, 3) := by decide +kernel
theorem dX0_copyFrom_50 : decode cX0_copyFrom 50 = .ok (.arraylength, 1) := by decide +kernel
theorem dX0_copyFrom_51 : decode cX0_copyFrom 51 = .ok (.invokestatic 51, 3) := by decide +kernel
theorem dX0_copyFrom_54 : decode cX0_copyFrom 54 = .ok (.aload_n 1, 1) := by decide +kernel
theorem dX0_copyFrom_55 : decode cX0_copyFrom 55 = .ok (.getfield 21, 3) := by decide +kernel
theorem dX0_copyFrom_58 : decode cX0_copyFrom 58 = .ok (.iconst 0, 1) := by decide +kernel
theorem dX0_copyFrom_59 : decode cX0_copyFrom 59 = .ok (.aload_n 0, 1) := by decide +kernel
theorem dX0_copyFrom_60 : decode cX0_copyFrom 60 = .ok (.getfield 21, 3) := by decide +kernel
theorem dX0_copyFrom_63 : decode cX0_copyFrom 63 = .ok (.iconst 0, 1) := by decide +kernel
theorem dX0_copyFrom_64 : decode cX0_copyFrom 64 = .ok (.aload_n 0, 1) := by decide +kernel
theorem dX0_copyFrom_65 : decode cX0_copyFrom 65 = .ok (.getfield 21, 3) := by decide +kernel
theorem dX0_copyFrom_68 : decode cX0_copyFrom 68 = .ok (.arraylength, 1) := by decide +kernel
theorem dX0_copyFrom_69 : decode cX0_copyFrom 69 = .ok (.invokestatic 51, 3) := by decide +kernel
theorem dX0_copyFrom_72 : decode cX0_copyFrom 72 = .ok (.aload_n 1, 1) := by decide +kernel
theorem dX0_copyFrom_73 : decode cX0_copyFrom 73 = .ok (.getfield 24, 3) := by decide +kernel
theorem dX0_copyFrom_76 : decode cX0_copyFrom 76 = .ok (.iconst 0, 1) := by decide +kernel
theorem dX0_copyFrom_77 : decode cX0_copyFrom 77 = .ok (.aload_n 0, 1) := by decide +kernel
theorem dX0_copyFrom_78 : decode cX0_copyFrom 78 = .ok (.getfield 24, 3) := by decide +kernel
theorem dX0_copyFrom_81 : decode cX0_copyFrom 81 = .ok (.iconst 0, 1) := by decide +kernel
theorem dX0_copyFrom_82 : decode cX0_copyFrom 82 = .ok (.aload_n 0, 1) := by decide +kernel
theorem dX0_copyFrom_83 : decode cX0_copyFrom 83 = .ok (.getfield 24, 3) := by decide +kernel
theorem dX0_copyFrom_86 : decode cX0_copyFrom 86 = .ok (.arraylength, 1) := by decide +kernel
theorem dX0_copyFrom_87 : decode cX0_copyFrom 87 = .ok (.invokestatic 51, 3) := by decide +kernel
theorem dX0_copyFrom_90 : decode cX0_copyFrom 90 = .ok (.aload_n 1, 1) := by decide +kernel
theorem dX0_copyFrom_91 : decode cX0_copyFrom 91 = .ok (.getfield 27, 3) := by decide +kernel
theorem dX0_copyFrom_94 : decode cX0_copyFrom 94 = .ok (.iconst 0, 1) := by decide +kernel
theorem dX0_copyFrom_95 : decode cX0_copyFrom 95 = .ok (.aload_n 0, 1) := by decide +kernel
theorem dX0_copyFrom_96 : decode cX0_copyFrom 96 = .ok (.getfield 27, 3) := by decide +kernel
theorem dX0_copyFrom_99 : decode cX0_copyFrom 99 = .ok (.iconst 0, 1) := by decide +kernel
theorem dX0_copyFrom_100 : decode cX0_copyFrom 100 = .ok (.aload_n 0, 1) := by decide +kernel
theorem dX0_copyFrom_101 : decode cX0_copyFrom 101 = .ok (.getfield 27, 3) := by decide +kernel
theorem dX0_copyFrom_104 : decode cX0_copyFrom 104 = .ok (.arraylength, 1) := by decide +kernel
theorem dX0_copyFrom_105 : decode cX0_copyFrom 105 = .ok (.invokestatic 51, 3) := by decide +kernel
theorem dX0_copyFrom_108 : decode cX0_copyFrom 108 = .ok (.aload_n 1, 1) := by decide +kernel
theorem dX0_copyFrom_109 : decode cX0_copyFrom 109 = .ok (.getfield 30, 3) := by decide +kernel
theorem dX0_copyFrom_112 : decode cX0_copyFrom 112 = .ok (.iconst 0, 1) := by decide +kernel
theorem dX0_copyFrom_113 : decode cX0_copyFrom 113 = .ok (.aload_n 0, 1) := by decide +kernel
theorem dX0_copyFrom_114 : decode cX0_copyFrom 114 = .ok (.getfield 30, 3) := by decide +kernel
theorem dX0_copyFrom_117 : decode cX0_copyFrom 117 = .ok (.iconst 0, 1) := by decide +kernel
theorem dX0_copyFrom_118 : decode cX0_copyFrom 118 = .ok (.aload_n 0, 1) := by decide +kernel
theorem dX0_copyFrom_119 : decode cX0_copyFrom 119 = .ok (.getfield 30, 3) := by decide +kernel
theorem dX0_copyFrom_122 : decode cX0_copyFrom 122 = .ok (.arraylength, 1) := by decide +kernel
theorem dX0_copyFrom_123 : decode cX0_copyFrom 123 = .ok (.invokestatic 51, 3) := by decide +kernel
theorem dX0_copyFrom_126 : decode cX0_copyFrom 126 = .ok (.aload_n 1, 1) := by decide +kernel
theorem dX0_copyFrom_127 : decode cX0_copyFrom 127 = .ok (.getfield 33, 3) := by decide +kernel
theorem dX0_copyFrom_130 : decode cX0_copyFrom 130 = .ok (.iconst 0, 1) := by decide +kernel
theorem dX0_copyFrom_131 : decode cX0_copyFrom 131 = .ok (.aload_n 0, 1) := by decide +kernel
theorem dX0_copyFrom_132 : decode cX0_copyFrom 132 = .ok (.getfield 33, 3) := by decide +kernel
theorem dX0_copyFrom_135 : decode cX0_copyFrom 135 = .ok (.iconst 0, 1) := by decide +kernel
theorem dX0_copyFrom_136 : decode cX0_copyFrom 136 = .ok (.aload_n 0, 1) := by decide +kernel
theorem dX0_copyFrom_137 : decode cX0_copyFrom 137 = .ok (.getfield 33, 3) := by decide +kernel
theorem dX0_copyFrom_140 : decode cX0_copyFrom 140 = .ok (.arraylength, 1) := by decide +kernel
theorem dX0_copyFrom_141 : decode cX0_copyFrom 141 = .ok (.invokestatic 51, 3) := by decide +kernel
theorem dX0_copyFrom_144 : decode cX0_copyFrom 144 = .ok (.aload_n 1, 1) := by decide +kernel
theorem dX0_copyFrom_145 : decode cX0_copyFrom 145 = .ok (.getfield 37, 3) := by decide +kernel
theorem dX0_copyFrom_148 : decode cX0_copyFrom 148 = .ok (.iconst 0, 1) := by decide +kernel
theorem dX0_copyFrom_149 : decode cX0_copyFrom 149 = .ok (.aload_n 0, 1) := by decide +kernel
theorem dX0_copyFrom_150 : decode cX0_copyFrom 150 = .ok (.getfield 37, 3) := by decide +kernel
theorem dX0_copyFrom_153 : decode cX0_copyFrom 153 = .ok (.iconst 0, 1) := by decide +kernel
theorem dX0_copyFrom_154 : decode cX0_copyFrom 154 = .ok (.aload_n 0, 1) := by decide +kernel
theorem dX0_copyFrom_155 : decode cX0_copyFrom 155 = .ok (.getfield 37, 3) := by decide +kernel
theorem dX0_copyFrom_158 : decode cX0_copyFrom 158 = .ok (.arraylength, 1) := by decide +kernel
theorem dX0_copyFrom_159 : decode cX0_copyFrom 159 = .ok (.invokestatic 51, 3) := by decide +kernel
theorem dX0_copyFrom_162 : decode cX0_copyFrom 162 = .ok (.aload_n 0, 1) := by decide +kernel
theorem dX0_copyFrom_163 : decode cX0_copyFrom 163 = .ok (.aload_n 1, 1) := by decide +kernel
theorem dX0_copyFrom_164 : decode cX0_copyFrom 164 = .ok (.getfield 58, 3) := by decide +kernel
theorem dX0_copyFrom_167 : decode cX0_copyFrom 167 = .ok (.putfield 58, 3) := by decide +kernel
theorem dX0_copyFrom_170 : decode cX0_copyFrom 170 = .ok (.aload_n 0, 1) := by decide +kernel
theorem dX0_copyFrom_171 : decode cX0_copyFrom 171 = .ok (.aload_n 1, 1) := by decide +kernel
theorem dX0_copyFrom_172 : decode cX0_copyFrom 172 = .ok (.getfield 70, 3) := by decide +kernel
theorem dX0_copyFrom_175 : decode cX0_copyFrom 175 = .ok (.putfield 70, 3) := by decide +kernel
theorem dX0_copyFrom_178 : decode cX0_copyFrom 178 = .ok (.aload_n 0, 1) := by decide +kernel
theorem dX0_copyFrom_179 : decode cX0_copyFrom 179 = .ok (.aload_n 1, 1) := by decide +kernel
theorem dX0_copyFrom_180 : decode cX0_copyFrom 180 = .ok (.getfield 73, 3) := by decide +kernel
theorem dX0_copyFrom_183 : decode cX0_copyFrom 183 = .ok (.putfield 73, 3) := by decide +kernel
theorem dX0_copyFrom_186 : decode cX0_copyFrom 186 = .ok (.aload_n 0, 1) := by decide +kernel
theorem dX0_copyFrom_187 : decode cX0_copyFrom 187 = .ok (.aload_n 1, 1) := by decide +kernel
theorem dX0_copyFrom_188 : decode cX0_copyFrom 188 = .ok (.getfield 76, 3) := by decide +kernel
theorem dX0_copyFrom_191 : decode cX0_copyFrom 191 = .ok (.putfield 76, 3) := by decide +kernel
theorem dX0_copyFrom_194 : decode cX0_copyFrom 194 = .ok (.return_, 1) := by decide +kernel
theorem dX1_init_0 : decode cX1_init 0 = .ok (.aload_n 0, 1) := by decide +kernel
theorem dX1_init_1 : decode cX1_init 1 = .ok (.invokespecial 3, 3) := by decide +kernel
theorem dX1_init_4 : decode cX1_init 4 = .ok (.aload_n 0, 1) := by decide +kernel
theorem dX1_init_5 : decode cX1_init 5 = .ok (.iconst 1, 1) := by decide +kernel
theorem dX1_init_6 : decode cX1_init 6 = .ok (.putfield 9, 3) := by decide +kernel
theorem dX1_init_9 : decode cX1_init 9 = .ok (.aload_n 0, 1) := by decide +kernel
theorem dX1_init_10 : decode cX1_init 10 = .ok (.iconst 1, 1) := by decide +kernel
theorem dX1_init_11 : decode cX1_init 11 = .ok (.putfield 15, 3) := by decide +kernel
theorem dX1_init_14 : decode cX1_init 14 = .ok (.aload_n 0, 1) := by decide +kernel
theorem dX1_init_15 : decode cX1_init 15 = .ok (.iconst 1, 1) := by decide +kernel
theorem dX1_init_16 : decode cX1_init 16 = .ok (.putfield 18, 3) := by decide +kernel
theorem dX1_init_19 : decode cX1_init 19 = .ok (.aload_n 0, 1) := by decide +kernel
theorem dX1_init_20 : decode cX1_init 20 = .ok (.sipush 256, 3) := by decide +kernel
theorem dX1_init_23 : decode cX1_init 23 = .ok (.newarray .int, 2) := by decide +kernel
theorem dX1_init_25 : decode cX1_init 25 = .ok (.putfield 21, 3) := by decide +kernel
theorem dX1_init_28 : decode cX1_init 28 = .ok (.aload_n 0, 1) := by decide +kernel
theorem dX1_init_29 : decode cX1_init 29 = .ok (.bipush 17, 2) := by decide +kernel
theorem dX1_init_31 : decode cX1_init 31 = .ok (.newarray .int, 2) := by decide +kernel
theorem dX1_init_33 : decode cX1_init 33 = .ok (.putfield 25, 3) := by decide +kernel
theorem dX1_init_36 : decode cX1_init 36 = .ok (.aload_n 0, 1) := by decide +kernel
theorem dX1_init_37 : decode cX1_init 37 = .ok (.sipush 256, 3) := by decide +kernel
theorem dX1_init_40 : decode cX1_init 40 = .ok (.newarray .int, 2) := by decide +kernel
theorem dX1_init_42 : decode cX1_init 42 = .ok (.putfield 28, 3) := by decide +kernel
theorem dX1_init_45 : decode cX1_init 45 = .ok (.aload_n 0, 1) := by decide +kernel
theorem dX1_init_46 : decode cX1_init 46 = .ok (.sipush 256, 3) := by decide +kernel
theorem dX1_init_49 : decode cX1_init 49 = .ok (.newarray .int, 2) := by decide +kernel
theorem dX1_init_51 : decode cX1_init 51 = .ok (.putfield 31, 3) := by decide +kernel
theorem dX1_init_54 : decode cX1_init 54 = .ok (.return_, 1) := by decide +kernel
theorem dX1_placeOf_0 : decode cX1_placeOf 0 = .ok (.iload_n 1, 1) := by decide +kernel
theorem dX1_placeOf_1 : decode cX1_placeOf 1 = .ok (.bipush 8, 2) := by decide +kernel
theorem dX1_placeOf_3 : decode cX1_placeOf 3 = .ok (.imul, 1) := by decide +kernel
theorem dX1_placeOf_4 : decode cX1_placeOf 4 = .ok (.iload_n 0, 1) := by decide +kernel
theorem dX1_placeOf_5 : decode cX1_placeOf 5 = .ok (.iadd, 1) := by decide +kernel
theorem dX1_placeOf_6 : decode cX1_placeOf 6 = .ok (.iconst 4, 1) := by decide +kernel
theorem dX1_placeOf_7 : decode cX1_placeOf 7 = .ok (.imul, 1) := by decide +kernel
theorem dX1_placeOf_8 : decode cX1_placeOf 8 = .ok (.ireturn, 1) := by decide +kernel
theorem dX1_hasPixel_0 : decode cX1_hasPixel 0 = .ok (.iload_n 1, 1) := by decide +kernel
theorem dX1_hasPixel_1 : decode cX1_hasPixel 1 = .ok (.ifCond .lt 27, 3) := by decide +kernel
theorem dX1_hasPixel_4 : decode cX1_hasPixel 4 = .ok (.iload_n 1, 1) := by decide +kernel
theorem dX1_hasPixel_5 : decode cX1_hasPixel 5 = .ok (.aload_n 0, 1) := by decide +kernel
theorem dX1_hasPixel_6 : decode cX1_hasPixel 6 = .ok (.getfield 34, 3) := by decide +kernel
theorem dX1_hasPixel_9 : decode cX1_hasPixel 9 = .ok (.if_icmp .ge 19, 3) := by decide +kernel
theorem dX1_hasPixel_12 : decode cX1_hasPixel 12 = .ok (.iload_n 2, 1) := by decide +kernel
theorem dX1_hasPixel_13 : decode cX1_hasPixel 13 = .ok (.ifCond .lt 15, 3) := by decide +kernel
theorem dX1_hasPixel_16 : decode cX1_hasPixel 16 = .ok (.iload_n 2, 1) := by decide +kernel
theorem dX1_hasPixel_17 : decode cX1_hasPixel 17 = .ok (.aload_n 0, 1) := by decide +kernel
theorem dX1_hasPixel_18 : decode cX1_hasPixel 18 = .ok (.getfield 37, 3) := by decide +kernel
theorem dX1_hasPixel_21 : decode cX1_hasPixel 21 = .ok (.if_icmp .ge 7, 3) := by decide +kernel
theorem dX1_hasPixel_24 : decode cX1_hasPixel 24 = .ok (.iconst 1, 1) := by decide +kernel
theorem dX1_hasPixel_25 : decode cX1_hasPixel 25 = .ok (.goto 4, 3) := by decide +kernel
theorem dX1_hasPixel_28 : decode cX1_hasPixel 28 = .ok (.iconst 0, 1) := by decide +kernel
theorem dX1_hasPixel_29 : decode cX1_hasPixel 29 = .ok (.ireturn, 1) := by decide +kernel
theorem dX1_hasSample_0 : decode cX1_hasSample 0 = .ok (.aload_n 0, 1) := by decide +kernel
theorem dX1_hasSample_1 : decode cX1_hasSample 1 = .ok (.iload_n 1, 1) := by decide +kernel
theorem dX1_hasSample_2 : decode cX1_hasSample 2 = .ok (.iload_n 2, 1) := by decide +kernel
theorem dX1_hasSample_3 : decode cX1_hasSample 3 = .ok (.invokevirtual 40, 3) := by decide +kernel
theorem dX1_hasSample_6 : decode cX1_hasSample 6 = .ok (.ifCond .eq 19, 3) := by decide +kernel
theorem dX1_hasSample_9 : decode cX1_hasSample 9 = .ok (.iload_n 3, 1) := by decide +kernel
theorem dX1_hasSample_10 : decode cX1_hasSample 10 = .ok (.ifCond .lt 15, 3) := by decide +kernel
theorem dX1_hasSample_13 : decode cX1_hasSample 13 = .ok (.iload_n 3, 1) := by decide +kernel
theorem dX1_hasSample_14 : decode cX1_hasSample 14 = .ok (.aload_n 0, 1) := by decide +kernel
theorem dX1_hasSample_15 : decode cX1_hasSample 15 = .ok (.getfield 15, 3) := by decide +kernel
theorem dX1_hasSample_18 : decode cX1_hasSample 18 = .ok (.if_icmp .ge 7, 3) := by decide +kernel
theorem dX1_hasSample_21 : decode cX1_hasSample 21 = .ok (.iconst 1, 1) := by decide +kernel
theorem dX1_hasSample_22 : decode cX1_hasSample 22 = .ok (.goto 4, 3) := by decide +kernel
theorem dX1_hasSample_25 : decode cX1_hasSample 25 = .ok (.iconst 0, 1) := by decide +kernel
theorem dX1_hasSample_26 : decode cX1_hasSample 26 = .ok (.ireturn, 1) := by decide +kernel
theorem dX1_hasTile_0 : decode cX1_hasTile 0 = .ok (.iload_n 1, 1) := by decide +kernel
theorem dX1_hasTile_1 : decode cX1_hasTile 1 = .ok (.ifCond .lt 15, 3) := by decide +kernel
theorem dX1_hasTile_4 : decode cX1_hasTile 4 = .ok (.iload_n 1, 1) := by decide +kernel
theorem dX1_hasTile_5 : decode cX1_hasTile 5 = .ok (.aload_n 0, 1) := by decide +kernel
theorem dX1_hasTile_6 : decode cX1_hasTile 6 = .ok (.getfield 44, 3) := by decide +kernel
theorem dX1_hasTile_9 : decode cX1_hasTile 9 = .ok (.if_icmp .ge 7, 3) := by decide +kernel
theorem dX1_hasTile_12 : decode cX1_hasTile 12 = .ok (.iconst 1, 1) := by decide +kernel
theorem dX1_hasTile_13 : decode cX1_hasTile 13 = .ok (.goto 4, 3) := by decide +kernel
theorem dX1_hasTile_16 : decode cX1_hasTile 16 = .ok (.iconst 0, 1) := by decide +kernel
theorem dX1_hasTile_17 : decode cX1_hasTile 17 = .ok (.ireturn, 1) := by decide +kernel
theorem dX1_layOut_0 : decode cX1_layOut 0 = .ok (.aload_n 0, 1) := by decide +kernel
theorem dX1_layOut_1 : decode cX1_layOut 1 = .ok (.aload_n 1, 1) := by decide +kernel
theorem dX1_layOut_2 : decode cX1_layOut 2 = .ok (.getfield 47, 3) := by decide +kernel
theorem dX1_layOut_5 : decode cX1_layOut 5 = .ok (.putfield 34, 3) := by decide +kernel
theorem dX1_layOut_8 : decode cX1_layOut 8 = .ok (.aload_n 0, 1) := by decide +kernel
theorem dX1_layOut_9 : decode cX1_layOut 9 = .ok (.aload_n 1, 1) := by decide +kernel
theorem dX1_layOut_10 : decode cX1_layOut 10 = .ok (.getfield 50, 3) := by decide +kernel
theorem dX1_layOut_13 : decode cX1_layOut 13 = .ok (.putfield 37, 3) := by decide +kernel
theorem dX1_layOut_16 : decode cX1_layOut 16 = .ok (.aload_n 0, 1) := by decide +kernel
theorem dX1_layOut_17 : decode cX1_layOut 17 = .ok (.aload_n 1, 1) := by decide +kernel
theorem dX1_layOut_18 : decode cX1_layOut 18 = .ok (.getfield 51, 3) := by decide +kernel
theorem dX1_layOut_21 : decode cX1_layOut 21 = .ok (.iconst 2, 1) := by decide +kernel
theorem dX1_layOut_22 : decode cX1_layOut 22 = .ok (.invokestatic 54, 3) := by decide +kernel
theorem dX1_layOut_25 : decode cX1_layOut 25 = .ok (.putfield 9, 3) := by decide +kernel
theorem dX1_layOut_28 : decode cX1_layOut 28 = .ok (.aload_n 0, 1) := by decide +kernel
theorem dX1_layOut_29 : decode cX1_layOut 29 = .ok (.aload_n 1, 1) := by decide +kernel
theorem dX1_layOut_30 : decode cX1_layOut 30 = .ok (.getfield 60, 3) := by decide +kernel
theorem dX1_layOut_33 : decode cX1_layOut 33 = .ok (.putfield 15, 3) := by decide +kernel
theorem dX1_layOut_36 : decode cX1_layOut 36 = .ok (.aload_n 0, 1) := by decide +kernel
theorem dX1_layOut_37 : decode cX1_layOut 37 = .ok (.aload_n 0, 1) := by decide +kernel
theorem dX1_layOut_38 : decode cX1_layOut 38 = .ok (.getfield 34, 3) := by decide +kernel
theorem dX1_layOut_41 : decode cX1_layOut 41 = .ok (.aload_n 0, 1) := by decide +kernel
theorem dX1_layOut_42 : decode cX1_layOut 42 = .ok (.getfield 9, 3) := by decide +kernel
theorem dX1_layOut_45 : decode cX1_layOut 45 = .ok (.iadd, 1) := by decide +kernel
theorem dX1_layOut_46 : decode cX1_layOut 46 = .ok (.iconst 1, 1) := by decide +kernel
theorem dX1_layOut_47 : decode cX1_layOut 47 = .ok (.isub, 1) := by decide +kernel
theorem dX1_layOut_48 : decode cX1_layOut 48 = .ok (.aload_n 0, 1) := by decide +kernel
theorem dX1_layOut_49 : decode cX1_layOut 49 = .ok (.getfield 9, 3) := by decide +kernel
theorem dX1_layOut_52 : decode cX1_layOut 52 = .ok (.idiv, 1) := by decide +kernel
theorem dX1_layOut_53 : decode cX1_layOut 53 = .ok (.putfield 18, 3) := by decide +kernel
theorem dX1_layOut_56 : decode cX1_layOut 56 = .ok (.aload_n 0, 1) := by decide +kernel
theorem dX1_layOut_57 : decode cX1_layOut 57 = .ok (.aload_n 0, 1) := by decide +kernel
theorem dX1_layOut_58 : decode cX1_layOut 58 = .ok (.getfield 18, 3) := by decide +kernel
theorem dX1_layOut_61 : decode cX1_layOut 61 = .ok (.aload_n 0, 1) := by decide +kernel
theorem dX1_layOut_62 : decode cX1_layOut 62 = .ok (.getfield 37, 3) := by decide +kernel
theorem dX1_layOut_65 : decode cX1_layOut 65 = .ok (.aload_n 0, 1) := by decide +kernel
theorem dX1_layOut_66 : decode cX1_layOut 66 = .ok (.getfield 9, 3) := by decide +kernel
theorem dX1_layOut_69 : decode cX1_layOut 69 = .ok (.iadd, 1) := by decide +kernel
theorem dX1_layOut_70 : decode cX1_layOut 70 = .ok (.iconst 1, 1) := by decide +kernel
theorem dX1_layOut_71 : decode cX1_layOut 71 = .ok (.isub, 1) := by decide +kernel
theorem dX1_layOut_72 : decode cX1_layOut 72 = .ok (.aload_n 0, 1) := by decide +kernel
theorem dX1_layOut_73 : decode cX1_layOut 73 = .ok (.getfield 9, 3) := by decide +kernel
theorem dX1_layOut_76 : decode cX1_layOut 76 = .ok (.idiv, 1) := by decide +kernel
theorem dX1_layOut_77 : decode cX1_layOut 77 = .ok (.imul, 1) := by decide +kernel
theorem dX1_layOut_78 : decode cX1_layOut 78 = .ok (.putfield 44, 3) := by decide +kernel
theorem dX1_layOut_81 : decode cX1_layOut 81 = .ok (.aload_n 0, 1) := by decide +kernel
theorem dX1_layOut_82 : decode cX1_layOut 82 = .ok (.iconst 0, 1) := by decide +kernel
theorem dX1_layOut_83 : decode cX1_layOut 83 = .ok (.putfield 61, 3) := by decide +kernel
theorem dX1_layOut_86 : decode cX1_layOut 86 = .ok (.iconst 0, 1) := by decide +kernel
theorem dX1_layOut_87 : decode cX1_layOut 87 = .ok (.istore_n 2, 1) := by decide +kernel
theorem dX1_layOut_88 : decode cX1_layOut 88 = .ok (.iload_n 2, 1) := by decide +kernel
theorem dX1_layOut_89 : decode cX1_layOut 89 = .ok (.aload_n 0, 1) := by decide +kernel
theorem dX1_layOut_90 : decode cX1_layOut 90 = .ok (.getfield 44, 3) := by decide +kernel
theorem dX1_layOut_93 : decode cX1_layOut 93 = .ok (.if_icmp .ge 70, 3) := by decide +kernel
theorem dX1_layOut_96 : decode cX1_layOut 96 = .ok (.aload_n 0, 1) := by decide +kernel
theorem dX1_layOut_97 : decode cX1_layOut 97 = .ok (.getfield 25, 3) := by decide +kernel
theorem dX1_layOut_100 : decode cX1_layOut 100 = .ok (.iload_n 2, 1) := by decide +kernel
theorem dX1_layOut_101 : decode cX1_layOut 101 = .ok (.aload_n 0, 1) := by decide +kernel
theorem dX1_layOut_102 : decode cX1_layOut 102 = .ok (.getfield 61, 3) := by decide +kernel
theorem dX1_layOut_105 : decode cX1_layOut 105 = .ok (.iastore, 1) := by decide +kernel
theorem dX1_layOut_106 : decode cX1_layOut 106 = .ok (.aload_n 0, 1) := by decide +kernel
theorem dX1_layOut_107 : decode cX1_layOut 107 = .ok (.iload_n 2, 1) := by decide +kernel
theorem dX1_layOut_108 : decode cX1_layOut 108 = .ok (.invokevirtual 64, 3) := by decide +kernel
theorem dX1_layOut_111 : decode cX1_layOut 111 = .ok (.istore_n 3, 1) := by decide +kernel
theorem dX1_layOut_112 : decode cX1_layOut 112 = .ok (.iload_n 3, 1) := by decide +kernel
theorem dX1_layOut_113 : decode cX1_layOut 113 = .ok (.aload_n 0, 1) := by decide +kernel
theorem dX1_layOut_114 : decode cX1_layOut 114 = .ok (.iload_n 2, 1) := by decide +kernel
theorem dX1_layOut_115 : decode cX1_layOut 115 = .ok (.invokevirtual 68, 3) := by decide +kernel
theorem dX1_layOut_118 : decode cX1_layOut 118 = .ok (.if_icmp .ge 39, 3) := by decide +kernel
theorem dX1_layOut_121 : decode cX1_layOut 121 = .ok (.aload_n 0, 1) := by decide +kernel
theorem dX1_layOut_122 : decode cX1_layOut 122 = .ok (.iload_n 2, 1) := by decide +kernel
theorem dX1_layOut_123 : decode cX1_layOut 123 = .ok (.invokevirtual 71, 3) := by decide +kernel
theorem dX1_layOut_126 : decode cX1_layOut 126 = .ok (.istore 4, 2) := by decide +kernel
theorem dX1_layOut_128 : decode cX1_layOut 128 = .ok (.iload 4, 2) := by decide +kernel
theorem dX1_layOut_130 : decode cX1_layOut 130 = .ok (.aload_n 0, 1) := by decide +kernel
theorem dX1_layOut_131 : decode cX1_layOut 131 = .ok (.iload_n 2, 1) := by decide +kernel
theorem dX1_layOut_132 : decode cX1_layOut 132 = .ok (.invokevirtual 74, 3) := by decide +kernel
theorem dX1_layOut_135 : decode cX1_layOut 135 = .ok (.if_icmp .ge 16, 3) := by decide +kernel
theorem dX1_layOut_138 : decode cX1_layOut 138 = .ok (.aload_n 0, 1) := by decide +kernel
theorem dX1_layOut_139 : decode cX1_layOut 139 = .ok (.iload 4, 2) := by decide +kernel
theorem dX1_layOut_141 : decode cX1_layOut 141 = .ok (.iload_n 3, 1) := by decide +kernel
theorem dX1_layOut_142 : decode cX1_layOut 142 = .ok (.invokevirtual 77, 3) := by decide +kernel
theorem dX1_layOut_145 : decode cX1_layOut 145 = .ok (.iinc 4 1, 3) := by decide +kernel
theorem dX1_layOut_148 : decode cX1_layOut 148 = .ok (.goto (-20), 3) := by decide +kernel
theorem dX1_layOut_151 : decode cX1_layOut 151 = .ok (.iinc 3 1, 3) := by decide +kernel
theorem dX1_layOut_154 : decode cX1_layOut 154 = .ok (.goto (-42), 3) := by decide +kernel
theorem dX1_layOut_157 : decode cX1_layOut 157 = .ok (.iinc 2 1, 3) := by decide +kernel
theorem dX1_layOut_160 : decode cX1_layOut 160 = .ok (.goto (-72), 3) := by decide +kernel
theorem dX1_layOut_163 : decode cX1_layOut 163 = .ok (.aload_n 0, 1) := by decide +kernel
theorem dX1_layOut_164 : decode cX1_layOut 164 = .ok (.getfield 25, 3) := by decide +kernel
theorem dX1_layOut_167 : decode cX1_layOut 167 = .ok (.aload_n 0, 1) := by decide +kernel
theorem dX1_layOut_168 : decode cX1_layOut 168 = .ok (.getfield 44, 3) := by decide +kernel
theorem dX1_layOut_171 : decode cX1_layOut 171 = .ok (.aload_n 0, 1) := by decide +kernel
theorem dX1_layOut_172 : decode cX1_layOut 172 = .ok (.getfield 61, 3) := by decide +kernel
theorem dX1_layOut_175 : decode cX1_layOut 175 = .ok (.iastore, 1) := by decide +kernel
theorem dX1_layOut_176 : decode cX1_layOut 176 = .ok (.return_, 1) := by decide +kernel
theorem dX1_layOutPixel_0 : decode cX1_layOutPixel 0 = .ok (.iconst 0, 1) := by decide +kernel
theorem dX1_layOutPixel_1 : decode cX1_layOutPixel 1 = .ok (.istore_n 3, 1) := by decide +kernel
theorem dX1_layOutPixel_2 : decode cX1_layOutPixel 2 = .ok (.iload_n 3, 1) := by decide +kernel
theorem dX1_layOutPixel_3 : decode cX1_layOutPixel 3 = .ok (.aload_n 0, 1) := by decide +kernel
theorem dX1_layOutPixel_4 : decode cX1_layOutPixel 4 = .ok (.getfield 15, 3) := by decide +kernel
theorem dX1_layOutPixel_7 : decode cX1_layOutPixel 7 = .ok (.if_icmp .ge 97, 3) := by decide +kernel
theorem dX1_layOutPixel_10 : decode cX1_layOutPixel 10 = .ok (.aload_n 0, 1) := by decide +kernel
theorem dX1_layOutPixel_11 : decode cX1_layOutPixel 11 = .ok (.getfield 61, 3) := by decide +kernel
theorem dX1_layOutPixel_14 : decode cX1_layOutPixel 14 = .ok (.sipush 256, 3) := by decide +kernel
theorem dX1_layOutPixel_17 : decode cX1_layOutPixel 17 = .ok (.if_icmp .ge 87, 3) := by decide +kernel
theorem dX1_layOutPixel_20 : decode cX1_layOutPixel 20 = .ok (.iload_n 1, 1) := by decide +kernel
theorem dX1_layOutPixel_21 : decode cX1_layOutPixel 21 = .ok (.iload_n 2, 1) := by decide +kernel
theorem dX1_layOutPixel_22 : decode cX1_layOutPixel 22 = .ok (.invokestatic 81, 3) := by decide +kernel
theorem dX1_layOutPixel_25 : decode cX1_layOutPixel 25 = .ok (.iload_n 3, 1) := by decide +kernel
theorem dX1_layOutPixel_26 : decode cX1_layOutPixel 26 = .ok (.iadd, 1) := by decide +kernel
theorem dX1_layOutPixel_27 : decode cX1_layOutPixel 27 = .ok (.istore 4, 2) := by decide +kernel
theorem dX1_layOutPixel_29 : decode cX1_layOutPixel 29 = .ok (.aload_n 0, 1) := by decide +kernel
theorem dX1_layOutPixel_30 : decode cX1_layOutPixel 30 = .ok (.getfield 21, 3) := by decide +kernel
theorem dX1_layOutPixel_33 : decode cX1_layOutPixel 33 = .ok (.aload_n 0, 1) := by decide +kernel
theorem dX1_layOutPixel_34 : decode cX1_layOutPixel 34 = .ok (.getfield 61, 3) := by decide +kernel
theorem dX1_layOutPixel_37 : decode cX1_layOutPixel 37 = .ok (.iload 4, 2) := by decide +kernel
theorem dX1_layOutPixel_39 : decode cX1_layOutPixel 39 = .ok (.iastore, 1) := by decide +kernel
theorem dX1_layOutPixel_40 : decode cX1_layOutPixel 40 = .ok (.aload_n 0, 1) := by decide +kernel
theorem dX1_layOutPixel_41 : decode cX1_layOutPixel 41 = .ok (.getfield 28, 3) := by decide +kernel
theorem dX1_layOutPixel_44 : decode cX1_layOutPixel 44 = .ok (.iload 4, 2) := by decide +kernel
theorem dX1_layOutPixel_46 : decode cX1_layOutPixel 46 = .ok (.iload_n 1, 1) := by decide +kernel
theorem dX1_layOutPixel_47 : decode cX1_layOutPixel 47 = .ok (.bipush 8, 2) := by decide +kernel
theorem dX1_layOutPixel_49 : decode cX1_layOutPixel 49 = .ok (.imul, 1) := by decide +kernel
theorem dX1_layOutPixel_50 : decode cX1_layOutPixel 50 = .ok (.getstatic 84, 3) := by decide +kernel
theorem dX1_layOutPixel_53 : decode cX1_layOutPixel 53 = .ok (.aload_n 0, 1) := by decide +kernel
theorem dX1_layOutPixel_54 : decode cX1_layOutPixel 54 = .ok (.getfield 15, 3) := by decide +kernel
theorem dX1_layOutPixel_57 : decode cX1_layOutPixel 57 = .ok (.iconst 1, 1) := by decide +kernel
theorem dX1_layOutPixel_58 : decode cX1_layOutPixel 58 = .ok (.isub, 1) := by decide +kernel
theorem dX1_layOutPixel_59 : decode cX1_layOutPixel 59 = .ok (.iload_n 3, 1) := by decide +kernel
theorem dX1_layOutPixel_60 : decode cX1_layOutPixel 60 = .ok (.iadd, 1) := by decide +kernel
theorem dX1_layOutPixel_61 : decode cX1_layOutPixel 61 = .ok (.iaload, 1) := by decide +kernel
theorem dX1_layOutPixel_62 : decode cX1_layOutPixel 62 = .ok (.iadd, 1) := by decide +kernel
theorem dX1_layOutPixel_63 : decode cX1_layOutPixel 63 = .ok (.iastore, 1) := by decide +kernel
theorem dX1_layOutPixel_64 : decode cX1_layOutPixel 64 = .ok (.aload_n 0, 1) := by decide +kernel
theorem dX1_layOutPixel_65 : decode cX1_layOutPixel 65 = .ok (.getfield 31, 3) := by decide +kernel
theorem dX1_layOutPixel_68 : decode cX1_layOutPixel 68 = .ok (.iload 4, 2) := by decide +kernel
theorem dX1_layOutPixel_70 : decode cX1_layOutPixel 70 = .ok (.iload_n 2, 1) := by decide +kernel
theorem dX1_layOutPixel_71 : decode cX1_layOutPixel 71 = .ok (.bipush 8, 2) := by decide +kernel
theorem dX1_layOutPixel_73 : decode cX1_layOutPixel 73 = .ok (.imul, 1) := by decide +kernel
theorem dX1_layOutPixel_74 : decode cX1_layOutPixel 74 = .ok (.getstatic 87, 3) := by decide +kernel
theorem dX1_layOutPixel_77 : decode cX1_layOutPixel 77 = .ok (.aload_n 0, 1) := by decide +kernel
theorem dX1_layOutPixel_78 : decode cX1_layOutPixel 78 = .ok (.getfield 15, 3) := by decide +kernel
theorem dX1_layOutPixel_81 : decode cX1_layOutPixel 81 = .ok (.iconst 1, 1) := by decide +kernel
theorem dX1_layOutPixel_82 : decode cX1_layOutPixel 82 = .ok (.isub, 1) := by decide +kernel
theorem dX1_layOutPixel_83 : decode cX1_layOutPixel 83 = .ok (.iload_n 3, 1) := by decide +kernel
theorem dX1_layOutPixel_84 : decode cX1_layOutPixel 84 = .ok (.iadd, 1) := by decide +kernel
theorem dX1_layOutPixel_85 : decode cX1_layOutPixel 85 = .ok (.iaload, 1) := by decide +kernel
theorem dX1_layOutPixel_86 : decode cX1_layOutPixel 86 = .ok (.iadd, 1) := by decide +kernel
theorem dX1_layOutPixel_87 : decode cX1_layOutPixel 87 = .ok (.iastore, 1) := by decide +kernel
theorem dX1_layOutPixel_88 : decode cX1_layOutPixel 88 = .ok (.aload_n 0, 1) := by decide +kernel
theorem dX1_layOutPixel_89 : decode cX1_layOutPixel 89 = .ok (.dup, 1) := by decide +kernel
theorem dX1_layOutPixel_90 : decode cX1_layOutPixel 90 = .ok (.getfield 61, 3) := by decide +kernel
theorem dX1_layOutPixel_93 : decode cX1_layOutPixel 93 = .ok (.iconst 1, 1) := by decide +kernel
theorem dX1_layOutPixel_94 : decode cX1_layOutPixel 94 = .ok (.iadd, 1) := by decide +kernel
theorem dX1_layOutPixel_95 : decode cX1_layOutPixel 95 = .ok (.putfield 61, 3) := by decide +kernel
theorem dX1_layOutPixel_98 : decode cX1_layOutPixel 98 = .ok (.iinc 3 1, 3) := by decide +kernel
theorem dX1_layOutPixel_101 : decode cX1_layOutPixel 101 = .ok (.goto (-99), 3) := by decide +kernel
theorem dX1_layOutPixel_104 : decode cX1_layOutPixel 104 = .ok (.return_, 1) := by decide +kernel
theorem dX1_leftOf_0 : decode cX1_leftOf 0 = .ok (.aload_n 0, 1) := by decide +kernel
theorem dX1_leftOf_1 : decode cX1_leftOf 1 = .ok (.getfield 18, 3) := by decide +kernel
theorem dX1_leftOf_4 : decode cX1_leftOf 4 = .ok (.ifCond .le 17, 3) := by decide +kernel
theorem dX1_leftOf_7 : decode cX1_leftOf 7 = .ok (.iload_n 1, 1) := by decide +kernel
theorem dX1_leftOf_8 : decode cX1_leftOf 8 = .ok (.aload_n 0, 1) := by decide +kernel
theorem dX1_leftOf_9 : decode cX1_leftOf 9 = .ok (.getfield 18, 3) := by decide +kernel
theorem dX1_leftOf_12 : decode cX1_leftOf 12 = .ok (.irem, 1) := by decide +kernel
theorem dX1_leftOf_13 : decode cX1_leftOf 13 = .ok (.aload_n 0, 1) := by decide +kernel
theorem dX1_leftOf_14 : decode cX1_leftOf 14 = .ok (.getfield 9, 3) := by decide +kernel
theorem dX1_leftOf_17 : decode cX1_leftOf 17 = .ok (.imul, 1) := by decide +kernel
theorem dX1_leftOf_18 : decode cX1_leftOf 18 = .ok (.goto 4, 3) := by decide +kernel
theorem dX1_leftOf_21 : decode cX1_leftOf 21 = .ok (.iconst 0, 1) := by decide +kernel
theorem dX1_leftOf_22 : decode cX1_leftOf 22 = .ok (.ireturn, 1) := by decide +kernel
theorem dX1_rightOf_0 : decode cX1_rightOf 0 = .ok (.aload_n 0, 1) := by decide +kernel
theorem dX1_rightOf_1 : decode cX1_rightOf 1 = .ok (.iload_n 1, 1) := by decide +kernel
theorem dX1_rightOf_2 : decode cX1_rightOf 2 = .ok (.invokevirtual 71, 3) := by decide +kernel
theorem dX1_rightOf_5 : decode cX1_rightOf 5 = .ok (.aload_n 0, 1) := by decide +kernel
theorem dX1_rightOf_6 : decode cX1_rightOf 6 = .ok (.getfield 9, 3) := by decide +kernel
theorem dX1_rightOf_9 : decode cX1_rightOf 9 = .ok (.iadd, 1) := by decide +kernel
theorem dX1_rightOf_10 : decode cX1_rightOf 10 = .ok (.aload_n 0, 1) := by decide +kernel
theorem dX1_rightOf_11 : decode cX1_rightOf 11 = .ok (.getfield 34, 3) := by decide +kernel
theorem dX1_rightOf_14 : decode cX1_rightOf 14 = .ok (.invokestatic 90, 3) := by decide +kernel
theorem dX1_rightOf_17 : decode cX1_rightOf 17 = .ok (.ireturn, 1) := by decide +kernel
theorem dX1_topOf_0 : decode cX1_topOf 0 = .ok (.aload_n 0, 1) := by decide +kernel
theorem dX1_topOf_1 : decode cX1_topOf 1 = .ok (.getfield 18, 3) := by decide +kernel
theorem dX1_topOf_4 : decode cX1_topOf 4 = .ok (.ifCond .le 17, 3) := by decide +kernel
theorem dX1_topOf_7 : decode cX1_topOf 7 = .ok (.iload_n 1, 1) := by decide +kernel
theorem dX1_topOf_8 : decode cX1_topOf 8 = .ok (.aload_n 0, 1) := by decide +kernel
theorem dX1_topOf_9 : decode cX1_topOf 9 = .ok (.getfield 18, 3) := by decide +kernel
theorem dX1_topOf_12 : decode cX1_topOf 12 = .ok (.idiv, 1) := by decide +kernel
theorem dX1_topOf_13 : decode cX1_topOf 13 = .ok (.aload_n 0, 1) := by decide +kernel
theorem dX1_topOf_14 : decode cX1_topOf 14 = .ok (.getfield 9, 3) := by decide +kernel
theorem dX1_topOf_17 : decode cX1_topOf 17 = .ok (.imul, 1) := by decide +kernel
theorem dX1_topOf_18 : decode cX1_topOf 18 = .ok (.goto 4, 3) := by decide +kernel
theorem dX1_topOf_21 : decode cX1_topOf 21 = .ok (.iconst 0, 1) := by decide +kernel
theorem dX1_topOf_22 : decode cX1_topOf 22 = .ok (.ireturn, 1) := by decide +kernel
theorem dX1_bottomOf_0 : decode cX1_bottomOf 0 = .ok (.aload_n 0, 1) := by decide +kernel
theorem dX1_bottomOf_1 : decode cX1_bottomOf 1 = .ok (.iload_n 1, 1) := by decide +kernel
theorem dX1_bottomOf_2 : decode cX1_bottomOf 2 = .ok (.invokevirtual 64, 3) := by decide +kernel
theorem dX1_bottomOf_5 : decode cX1_bottomOf 5 = .ok (.aload_n 0, 1) := by decide +kernel
theorem dX1_bottomOf_6 : decode cX1_bottomOf 6 = .ok (.getfield 9, 3) := by decide +kernel
theorem dX1_bottomOf_9 : decode cX1_bottomOf 9 = .ok (.iadd, 1) := by decide +kernel
theorem dX1_bottomOf_10 : decode cX1_bottomOf 10 = .ok (.aload_n 0, 1) := by decide +kernel
theorem dX1_bottomOf_11 : decode cX1_bottomOf 11 = .ok (.getfield 37, 3) := by decide +kernel
theorem dX1_bottomOf_14 : decode cX1_bottomOf 14 = .ok (.invokestatic 90, 3) := by decide +kernel
theorem dX1_bottomOf_17 : decode cX1_bottomOf 17 = .ok (.ireturn, 1) := by decide +kernel
theorem dX1_pixelsOf_0 : decode cX1_pixelsOf 0 = .ok (.aload_n 0, 1) := by decide +kernel
theorem dX1_pixelsOf_1 : decode cX1_pixelsOf 1 = .ok (.getfield 15, 3) := by decide +kernel
theorem dX1_pixelsOf_4 : decode cX1_pixelsOf 4 = .ok (.ifCond .le 26, 3) := by decide +kernel
theorem dX1_pixelsOf_7 : decode cX1_pixelsOf 7 = .ok (.aload_n 0, 1) := by decide +kernel
theorem dX1_pixelsOf_8 : decode cX1_pixelsOf 8 = .ok (.getfield 25, 3) := by decide +kernel
theorem dX1_pixelsOf_11 : decode cX1_pixelsOf 11 = .ok (.iload_n 1, 1) := by decide +kernel
theorem dX1_pixelsOf_12 : decode cX1_pixelsOf 12 = .ok (.iconst 1, 1) := by decide +kernel
theorem dX1_pixelsOf_13 : decode cX1_pixelsOf 13 = .ok (.iadd, 1) := by decide +kernel
theorem dX1_pixelsOf_14 : decode cX1_pixelsOf 14 = .ok (.iaload, 1) := by decide +kernel
theorem dX1_pixelsOf_15 : decode cX1_pixelsOf 15 = .ok (.aload_n 0, 1) := by decide +kernel
theorem dX1_pixelsOf_16 : decode cX1_pixelsOf 16 = .ok (.getfield 25, 3) := by decide +kernel
theorem dX1_pixelsOf_19 : decode cX1_pixelsOf 19 = .ok (.iload_n 1, 1) := by decide +kernel
theorem dX1_pixelsOf_20 : decode cX1_pixelsOf 20 = .ok (.iaload, 1) := by decide +kernel
theorem dX1_pixelsOf_21 : decode cX1_pixelsOf 21 = .ok (.isub, 1) := by decide +kernel
theorem dX1_pixelsOf_22 : decode cX1_pixelsOf 22 = .ok (.aload_n 0, 1) := by decide +kernel
theorem dX1_pixelsOf_23 : decode cX1_pixelsOf 23 = .ok (.getfield 15, 3) := by decide +kernel
theorem dX1_pixelsOf_26 : decode cX1_pixelsOf 26 = .ok (.idiv, 1) := by decide +kernel
theorem dX1_pixelsOf_27 : decode cX1_pixelsOf 27 = .ok (.goto 4, 3) := by decide +kernel
theorem dX1_pixelsOf_30 : decode cX1_pixelsOf 30 = .ok (.iconst 0, 1) := by decide +kernel
theorem dX1_pixelsOf_31 : decode cX1_pixelsOf 31 = .ok (.ireturn, 1) := by decide +kernel
theorem dX1_resolved_0 : decode cX1_resolved 0 = .ok (.iconst 0, 1) := by decide +kernel
theorem dX1_resolved_1 : decode cX1_resolved 1 = .ok (.istore_n 3, 1) := by decide +kernel
theorem dX1_resolved_2 : decode cX1_resolved 2 = .ok (.iconst 0, 1) := by decide +kernel
theorem dX1_resolved_3 : decode cX1_resolved 3 = .ok (.istore 4, 2) := by decide +kernel
theorem dX1_resolved_5 : decode cX1_resolved 5 = .ok (.iload 4, 2) := by decide +kernel
theorem dX1_resolved_7 : decode cX1_resolved 7 = .ok (.aload_n 0, 1) := by decide +kernel
theorem dX1_resolved_8 : decode cX1_resolved 8 = .ok (.getfield 15, 3) := by decide +kernel
theorem dX1_resolved_11 : decode cX1_resolved 11 = .ok (.if_icmp .ge 23, 3) := by decide +kernel
theorem dX1_resolved_14 : decode cX1_resolved 14 = .ok (.iload_n 3, 1) := by decide +kernel
theorem dX1_resolved_15 : decode cX1_resolved 15 = .ok (.aload_n 1, 1) := by decide +kernel
theorem dX1_resolved_16 : decode cX1_resolved 16 = .ok (.getfield 93, 3) := by decide +kernel
theorem dX1_resolved_19 : decode cX1_resolved 19 = .ok (.iload_n 2, 1) := by decide +kernel
theorem dX1_resolved_20 : decode cX1_resolved 20 = .ok (.iconst 4, 1) := by decide +kernel
theorem dX1_resolved_21 : decode cX1_resolved 21 = .ok (.imul, 1) := by decide +kernel
theorem dX1_resolved_22 : decode cX1_resolved 22 = .ok (.iload 4, 2) := by decide +kernel
theorem dX1_resolved_24 : decode cX1_resolved 24 = .ok (.iadd, 1) := by decide +kernel
theorem dX1_resolved_25 : decode cX1_resolved 25 = .ok (.iaload, 1) := by decide +kernel
theorem dX1_resolved_26 : decode cX1_resolved 26 = .ok (.iadd, 1) := by decide +kernel
theorem dX1_resolved_27 : decode cX1_resolved 27 = .ok (.istore_n 3, 1) := by decide +kernel
theorem dX1_resolved_28 : decode cX1_resolved 28 = .ok (.iinc 4 1, 3) := by decide +kernel
theorem dX1_resolved_31 : decode cX1_resolved 31 = .ok (.goto (-26), 3) := by decide +kernel
theorem dX1_resolved_34 : decode cX1_resolved 34 = .ok (.aload_n 0, 1) := by decide +kernel
theorem dX1_resolved_35 : decode cX1_resolved 35 = .ok (.getfield 15, 3) := by decide +kernel
theorem dX1_resolved_38 : decode cX1_resolved 38 = .ok (.ifCond .le 12, 3) := by decide +kernel
theorem dX1_resolved_41 : decode cX1_resolved 41 = .ok (.iload_n 3, 1) := by decide +kernel
theorem dX1_resolved_42 : decode cX1_resolved 42 = .ok (.aload_n 0, 1) := by decide +kernel
theorem dX1_resolved_43 : decode cX1_resolved 43 = .ok (.getfield 15, 3) := by decide +kernel
theorem dX1_resolved_46 : decode cX1_resolved 46 = .ok (.idiv, 1) := by decide +kernel
theorem dX1_resolved_47 : decode cX1_resolved 47 = .ok (.goto 4, 3) := by decide +kernel
theorem dX1_resolved_50 : decode cX1_resolved 50 = .ok (.iconst 0, 1) := by decide +kernel
theorem dX1_resolved_51 : decode cX1_resolved 51 = .ok (.ireturn, 1) := by decide +kernel
theorem dX1_farOf_0 : decode cX1_farOf 0 = .ok (.iconst 0, 1) := by decide +kernel
theorem dX1_farOf_1 : decode cX1_farOf 1 = .ok (.istore_n 3, 1) := by decide +kernel
theorem dX1_farOf_2 : decode cX1_farOf 2 = .ok (.aload_n 0, 1) := by decide +kernel
theorem dX1_farOf_3 : decode cX1_farOf 3 = .ok (.getfield 25, 3) := by decide +kernel
theorem dX1_farOf_6 : decode cX1_farOf 6 = .ok (.iload_n 2, 1) := by decide +kernel
theorem dX1_farOf_7 : decode cX1_farOf 7 = .ok (.iaload, 1) := by decide +kernel
theorem dX1_farOf_8 : decode cX1_farOf 8 = .ok (.istore 4, 2) := by decide +kernel
theorem dX1_farOf_10 : decode cX1_farOf 10 = .ok (.iload 4, 2) := by decide +kernel
theorem dX1_farOf_12 : decode cX1_farOf 12 = .ok (.aload_n 0, 1) := by decide +kernel
theorem dX1_farOf_13 : decode cX1_farOf 13 = .ok (.getfield 25, 3) := by decide +kernel
theorem dX1_farOf_16 : decode cX1_farOf 16 = .ok (.iload_n 2, 1) := by decide +kernel
theorem dX1_farOf_17 : decode cX1_farOf 17 = .ok (.iconst 1, 1) := by decide +kernel
theorem dX1_farOf_18 : decode cX1_farOf 18 = .ok (.iadd, 1) := by decide +kernel
theorem dX1_farOf_19 : decode cX1_farOf 19 = .ok (.iaload, 1) := by decide +kernel
theorem dX1_farOf_20 : decode cX1_farOf 20 = .ok (.if_icmp .ge 36, 3) := by decide +kernel
theorem dX1_farOf_23 : decode cX1_farOf 23 = .ok (.aload_n 1, 1) := by decide +kernel
theorem dX1_farOf_24 : decode cX1_farOf 24 = .ok (.getfield 98, 3) := by decide +kernel
theorem dX1_farOf_27 : decode cX1_farOf 27 = .ok (.aload_n 0, 1) := by decide +kernel
theorem dX1_farOf_28 : decode cX1_farOf 28 = .ok (.getfield 21, 3) := by decide +kernel
theorem dX1_farOf_31 : decode cX1_farOf 31 = .ok (.iload 4, 2) := by decide +kernel
theorem dX1_farOf_33 : decode cX1_farOf 33 = .ok (.iaload, 1) := by decide +kernel
theorem dX1_farOf_34 : decode cX1_farOf 34 = .ok (.iaload, 1) := by decide +kernel
theorem dX1_farOf_35 : decode cX1_farOf 35 = .ok (.istore 5, 2) := by decide +kernel
theorem dX1_farOf_37 : decode cX1_farOf 37 = .ok (.iload 5, 2) := by decide +kernel
theorem dX1_farOf_39 : decode cX1_farOf 39 = .ok (.iload_n 3, 1) := by decide +kernel
theorem dX1_farOf_40 : decode cX1_farOf 40 = .ok (.if_icmp .le 8, 3) := by decide +kernel
theorem dX1_farOf_43 : decode cX1_farOf 43 = .ok (.iload 5, 2) := by decide +kernel
theorem dX1_farOf_45 : decode cX1_farOf 45 = .ok (.goto 4, 3) := by decide +kernel
theorem dX1_farOf_48 : decode cX1_farOf 48 = .ok (.iload_n 3, 1) := by decide +kernel
theorem dX1_farOf_49 : decode cX1_farOf 49 = .ok (.istore_n 3, 1) := by decide +kernel
theorem dX1_farOf_50 : decode cX1_farOf 50 = .ok (.iinc 4 1, 3) := by decide +kernel
theorem dX1_farOf_53 : decode cX1_farOf 53 = .ok (.goto (-43), 3) := by decide +kernel
theorem dX1_farOf_56 : decode cX1_farOf 56 = .ok (.iload_n 3, 1) := by decide +kernel
theorem dX1_farOf_57 : decode cX1_farOf 57 = .ok (.ireturn, 1) := by decide +kernel
theorem dX1_nearOf_0 : decode cX1_nearOf 0 = .ok (.sipush 1000, 3) := by decide +kernel
theorem dX1_nearOf_3 : decode cX1_nearOf 3 = .ok (.istore_n 3, 1) := by decide +kernel
theorem dX1_nearOf_4 : decode cX1_nearOf 4 = .ok (.aload_n 0, 1) := by decide +kernel
theorem dX1_nearOf_5 : decode cX1_nearOf 5 = .ok (.getfield 25, 3) := by decide +kernel
theorem dX1_nearOf_8 : decode cX1_nearOf 8 = .ok (.iload_n 2, 1) := by decide +kernel
theorem dX1_nearOf_9 : decode cX1_nearOf 9 = .ok (.iaload, 1) := by decide +kernel
theorem dX1_nearOf_10 : decode cX1_nearOf 10 = .ok (.istore 4, 2) := by decide +kernel
theorem dX1_nearOf_12 : decode cX1_nearOf 12 = .ok (.iload 4, 2) := by decide +kernel
theorem dX1_nearOf_14 : decode cX1_nearOf 14 = .ok (.aload_n 0, 1) := by decide +kernel
theorem dX1_nearOf_15 : decode cX1_nearOf 15 = .ok (.getfield 25, 3) := by decide +kernel
theorem dX1_nearOf_18 : decode cX1_nearOf 18 = .ok (.iload_n 2, 1) := by decide +kernel
theorem dX1_nearOf_19 : decode cX1_nearOf 19 = .ok (.iconst 1, 1) := by decide +kernel
theorem dX1_nearOf_20 : decode cX1_nearOf 20 = .ok (.iadd, 1) := by decide +kernel
theorem dX1_nearOf_21 : decode cX1_nearOf 21 = .ok (.iaload, 1) := by decide +kernel
theorem dX1_nearOf_22 : decode cX1_nearOf 22 = .ok (.if_icmp .ge 36, 3) := by decide +kernel
theorem dX1_nearOf_25 : decode cX1_nearOf 25 = .ok (.aload_n 1, 1) := by decide +kernel
theorem dX1_nearOf_26 : decode cX1_nearOf 26 = .ok (.getfield 98, 3) := by decide +kernel
theorem dX1_nearOf_29 : decode cX1_nearOf 29 = .ok (.aload_n 0, 1) := by decide +kernel
theorem dX1_nearOf_30 : decode cX1_nearOf 30 = .ok (.getfield 21, 3) := by decide +kernel
theorem dX1_nearOf_33 : decode cX1_nearOf 33 = .ok (.iload 4, 2) := by decide +kernel
theorem dX1_nearOf_35 : decode cX1_nearOf 35 = .ok (.iaload, 1) := by decide +kernel
theorem dX1_nearOf_36 : decode cX1_nearOf 36 = .ok (.iaload, 1) := by decide +kernel
theorem dX1_nearOf_37 : decode cX1_nearOf 37 = .ok (.istore 5, 2) := by decide +kernel
theorem dX1_nearOf_39 : decode cX1_nearOf 39 = .ok (.iload 5, 2) := by decide +kernel
theorem dX1_nearOf_41 : decode cX1_nearOf 41 = .ok (.iload_n 3, 1) := by decide +kernel
theorem dX1_nearOf_42 : decode cX1_nearOf 42 = .ok (.if_icmp .ge 8, 3) := by decide +kernel
theorem dX1_nearOf_45 : decode cX1_nearOf 45 = .ok (.iload 5, 2) := by decide +kernel
theorem dX1_nearOf_47 : decode cX1_nearOf 47 = .ok (.goto 4, 3) := by decide +kernel
theorem dX1_nearOf_50 : decode cX1_nearOf 50 = .ok (.iload_n 3, 1) := by decide +kernel
theorem dX1_nearOf_51 : decode cX1_nearOf 51 = .ok (.istore_n 3, 1) := by decide +kernel
theorem dX1_nearOf_52 : decode cX1_nearOf 52 = .ok (.iinc 4 1, 3) := by decide +kernel
theorem dX1_nearOf_55 : decode cX1_nearOf 55 = .ok (.goto (-43), 3) := by decide +kernel
theorem dX1_nearOf_58 : decode cX1_nearOf 58 = .ok (.iload_n 3, 1) := by decide +kernel
theorem dX1_nearOf_59 : decode cX1_nearOf 59 = .ok (.ireturn, 1) := by decide +kernel
theorem dX1_pendingIn_0 : decode cX1_pendingIn 0 = .ok (.iconst 0, 1) := by decide +kernel
theorem dX1_pendingIn_1 : decode cX1_pendingIn 1 = .ok (.istore_n 3, 1) := by decide +kernel
theorem dX1_pendingIn_2 : decode cX1_pendingIn 2 = .ok (.aload_n 0, 1) := by decide +kernel
theorem dX1_pendingIn_3 : decode cX1_pendingIn 3 = .ok (.getfield 25, 3) := by decide +kernel
theorem dX1_pendingIn_6 : decode cX1_pendingIn 6 = .ok (.iload_n 2, 1) := by decide +kernel
theorem dX1_pendingIn_7 : decode cX1_pendingIn 7 = .ok (.iaload, 1) := by decide +kernel
theorem dX1_pendingIn_8 : decode cX1_pendingIn 8 = .ok (.istore 4, 2) := by decide +kernel
theorem dX1_pendingIn_10 : decode cX1_pendingIn 10 = .ok (.iload 4, 2) := by decide +kernel
theorem dX1_pendingIn_12 : decode cX1_pendingIn 12 = .ok (.aload_n 0, 1) := by decide +kernel
theorem dX1_pendingIn_13 : decode cX1_pendingIn 13 = .ok (.getfield 25, 3) := by decide +kernel
theorem dX1_pendingIn_16 : decode cX1_pendingIn 16 = .ok (.iload_n 2, 1) := by decide +kernel
theorem dX1_pendingIn_17 : decode cX1_pendingIn 17 = .ok (.iconst 1, 1) := by decide +kernel
theorem dX1_pendingIn_18 : decode cX1_pendingIn 18 = .ok (.iadd, 1) := by decide +kernel
theorem dX1_pendingIn_19 : decode cX1_pendingIn 19 = .ok (.iaload, 1) := by decide +kernel
theorem dX1_pendingIn_20 : decode cX1_pendingIn 20 = .ok (.if_icmp .ge 28, 3) := by decide +kernel
theorem dX1_pendingIn_23 : decode cX1_pendingIn 23 = .ok (.aload_n 1, 1) := by decide +kernel
theorem dX1_pendingIn_24 : decode cX1_pendingIn 24 = .ok (.getfield 101, 3) := by decide +kernel
theorem dX1_pendingIn_27 : decode cX1_pendingIn 27 = .ok (.aload_n 0, 1) := by decide +kernel
theorem dX1_pendingIn_28 : decode cX1_pendingIn 28 = .ok (.getfield 21, 3) := by decide +kernel
theorem dX1_pendingIn_31 : decode cX1_pendingIn 31 = .ok (.iload 4, 2) := by decide +kernel
theorem dX1_pendingIn_33 : decode cX1_pendingIn 33 = .ok (.iaload, 1) := by decide +kernel
theorem dX1_pendingIn_34 : decode cX1_pendingIn 34 = .ok (.iaload, 1) := by decide +kernel
theorem dX1_pendingIn_35 : decode cX1_pendingIn 35 = .ok (.iconst (-1), 1) := by decide +kernel
theorem dX1_pendingIn_36 : decode cX1_pendingIn 36 = .ok (.if_icmp .eq 6, 3) := by decide +kernel
theorem dX1_pendingIn_39 : decode cX1_pendingIn 39 = .ok (.iinc 3 1, 3) := by decide +kernel
theorem dX1_pendingIn_42 : decode cX1_pendingIn 42 = .ok (.iinc 4 1, 3) := by decide +kernel
theorem dX1_pendingIn_45 : decode cX1_pendingIn 45 = .ok (.goto (-35), 3) := by decide +kernel
theorem dX1_pendingIn_48 : decode cX1_pendingIn 48 = .ok (.iload_n 3, 1) := by decide +kernel
theorem dX1_pendingIn_49 : decode cX1_pendingIn 49 = .ok (.ireturn, 1) := by decide +kernel
theorem dX2_init_0 : decode cX2_init 0 = .ok (.aload_n 0, 1) := by decide +kernel
theorem dX2_init_1 : decode cX2_init 1 = .ok (.invokespecial 3, 3) := by decide +kernel
theorem dX2_init_4 : decode cX2_init 4 = .ok (.aload_n 0, 1) := by decide +kernel
theorem dX2_init_5 : decode cX2_init 5 = .ok (.bipush 40, 2) := by decide +kernel
theorem dX2_init_7 : decode cX2_init 7 = .ok (.anewarray 9, 3) := by decide +kernel
theorem dX2_init_10 : decode cX2_init 10 = .ok (.putfield 11, 3) := by decide +kernel
theorem dX2_init_13 : decode cX2_init 13 = .ok (.aload_n 0, 1) := by decide +kernel
theorem dX2_init_14 : decode cX2_init 14 = .ok (.iconst 0, 1) := by decide +kernel
theorem dX2_init_15 : decode cX2_init 15 = .ok (.putfield 17, 3) := by decide +kernel
theorem dX2_init_18 : decode cX2_init 18 = .ok (.aload_n 0, 1) := by decide +kernel
theorem dX2_init_19 : decode cX2_init 19 = .ok (.iconst 0, 1) := by decide +kernel
theorem dX2_init_20 : decode cX2_init 20 = .ok (.putfield 21, 3) := by decide +kernel
theorem dX2_init_23 : decode cX2_init 23 = .ok (.return_, 1) := by decide +kernel
theorem dX2_forget_0 : decode cX2_forget 0 = .ok (.aload_n 0, 1) := by decide +kernel
theorem dX2_forget_1 : decode cX2_forget 1 = .ok (.iconst 0, 1) := by decide +kernel
theorem dX2_forget_2 : decode cX2_forget 2 = .ok (.putfield 17, 3) := by decide +kernel
theorem dX2_forget_5 : decode cX2_forget 5 = .ok (.aload_n 0, 1) := by decide +kernel
theorem dX2_forget_6 : decode cX2_forget 6 = .ok (.iconst 0, 1) := by decide +kernel
theorem dX2_forget_7 : decode cX2_forget 7 = .ok (.putfield 21, 3) := by decide +kernel
theorem dX2_forget_10 : decode cX2_forget 10 = .ok (.return_, 1) := by decide +kernel
theorem dX2_keep_0 : decode cX2_keep 0 = .ok (.aload_n 0, 1) := by decide +kernel
theorem dX2_keep_1 : decode cX2_keep 1 = .ok (.getfield 11, 3) := by decide +kernel
theorem dX2_keep_4 : decode cX2_keep 4 = .ok (.aload_n 0, 1) := by decide +kernel
theorem dX2_keep_5 : decode cX2_keep 5 = .ok (.getfield 17, 3) := by decide +kernel
theorem dX2_keep_8 : decode cX2_keep 8 = .ok (.aaload, 1) := by decide +kernel
theorem dX2_keep_9 : decode cX2_keep 9 = .ok (.astore_n 2, 1) := by decide +kernel
theorem dX2_keep_10 : decode cX2_keep 10 = .ok (.aload_n 2, 1) := by decide +kernel
theorem dX2_keep_11 : decode cX2_keep 11 = .ok (.ifnonnull 21, 3) := by decide +kernel
theorem dX2_keep_14 : decode cX2_keep 14 = .ok (.new 9, 3) := by decide +kernel
theorem dX2_keep_17 : decode cX2_keep 17 = .ok (.dup, 1) := by decide +kernel
theorem dX2_keep_18 : decode cX2_keep 18 = .ok (.invokespecial 24, 3) := by decide +kernel
theorem dX2_keep_21 : decode cX2_keep 21 = .ok (.astore_n 2, 1) := by decide +kernel
theorem dX2_keep_22 : decode cX2_keep 22 = .ok (.aload_n 0, 1) := by decide +kernel
theorem dX2_keep_23 : decode cX2_keep 23 = .ok (.getfield 11, 3) := by decide +kernel
theorem dX2_keep_26 : decode cX2_keep 26 = .ok (.aload_n 0, 1) := by decide +kernel
theorem dX2_keep_27 : decode cX2_keep 27 = .ok (.getfield 17, 3) := by decide +kernel
theorem dX2_keep_30 : decode cX2_keep 30 = .ok (.aload_n 2, 1) := by decide +kernel
theorem dX2_keep_31 : decode cX2_keep 31 = .ok (.aastore, 1) := by decide +kernel
theorem dX2_keep_32 : decode cX2_keep 32 = .ok (.aload_n 2, 1) := by decide +kernel
theorem dX2_keep_33 : decode cX2_keep 33 = .ok (.aload_n 1, 1) := by decide +kernel
theorem dX2_keep_34 : decode cX2_keep 34 = .ok (.invokevirtual 25, 3) := by decide +kernel
theorem dX2_keep_37 : decode cX2_keep 37 = .ok (.aload_n 0, 1) := by decide +kernel
theorem dX2_keep_38 : decode cX2_keep 38 = .ok (.aload_n 0, 1) := by decide +kernel
theorem dX2_keep_39 : decode cX2_keep 39 = .ok (.getfield 17, 3) := by decide +kernel
theorem dX2_keep_42 : decode cX2_keep 42 = .ok (.iconst 1, 1) := by decide +kernel
theorem dX2_keep_43 : decode cX2_keep 43 = .ok (.iadd, 1) := by decide +kernel
theorem dX2_keep_44 : decode cX2_keep 44 = .ok (.bipush 40, 2) := by decide +kernel
theorem dX2_keep_46 : decode cX2_keep 46 = .ok (.if_icmp .ge 12, 3) := by decide +kernel
theorem dX2_keep_49 : decode cX2_keep 49 = .ok (.aload_n 0, 1) := by decide +kernel
theorem dX2_keep_50 : decode cX2_keep 50 = .ok (.getfield 17, 3) := by decide +kernel
theorem dX2_keep_53 : decode cX2_keep 53 = .ok (.iconst 1, 1) := by decide +kernel
theorem dX2_keep_54 : decode cX2_keep 54 = .ok (.iadd, 1) := by decide +kernel
theorem dX2_keep_55 : decode cX2_keep 55 = .ok (.goto 4, 3) := by decide +kernel
theorem dX2_keep_58 : decode cX2_keep 58 = .ok (.iconst 0, 1) := by decide +kernel
theorem dX2_keep_59 : decode cX2_keep 59 = .ok (.putfield 17, 3) := by decide +kernel
theorem dX2_keep_62 : decode cX2_keep 62 = .ok (.aload_n 0, 1) := by decide +kernel
theorem dX2_keep_63 : decode cX2_keep 63 = .ok (.aload_n 0, 1) := by decide +kernel
theorem dX2_keep_64 : decode cX2_keep 64 = .ok (.getfield 21, 3) := by decide +kernel
theorem dX2_keep_67 : decode cX2_keep 67 = .ok (.iconst 1, 1) := by decide +kernel
theorem dX2_keep_68 : decode cX2_keep 68 = .ok (.iadd, 1) := by decide +kernel
theorem dX2_keep_69 : decode cX2_keep 69 = .ok (.bipush 40, 2) := by decide +kernel
theorem dX2_keep_71 : decode cX2_keep 71 = .ok (.invokestatic 29, 3) := by decide +kernel
theorem dX2_keep_74 : decode cX2_keep 74 = .ok (.putfield 21, 3) := by decide +kernel
theorem dX2_keep_77 : decode cX2_keep 77 = .ok (.return_, 1) := by decide +kernel
theorem dX2_restore_0 : decode cX2_restore 0 = .ok (.aload_n 0, 1) := by decide +kernel
theorem dX2_restore_1 : decode cX2_restore 1 = .ok (.aload_n 0, 1) := by decide +kernel
theorem dX2_restore_2 : decode cX2_restore 2 = .ok (.getfield 17, 3) := by decide +kernel
theorem dX2_restore_5 : decode cX2_restore 5 = .ok (.ifCond .le 12, 3) := by decide +kernel
theorem dX2_restore_8 : decode cX2_restore 8 = .ok (.aload_n 0, 1) := by decide +kernel
theorem dX2_restore_9 : decode cX2_restore 9 = .ok (.getfield 17, 3) := by decide +kernel
theorem dX2_restore_12 : decode cX2_restore 12 = .ok (.iconst 1, 1) := by decide +kernel
theorem dX2_restore_13 : decode cX2_restore 13 = .ok (.isub, 1) := by decide +kernel
theorem dX2_restore_14 : decode cX2_restore 14 = .ok (.goto 5, 3) := by decide +kernel
theorem dX2_restore_17 : decode cX2_restore 17 = .ok (.bipush 39, 2) := by decide +kernel
theorem dX2_restore_19 : decode cX2_restore 19 = .ok (.putfield 17, 3) := by decide +kernel
theorem dX2_restore_22 : decode cX2_restore 22 = .ok (.aload_n 0, 1) := by decide +kernel
theorem dX2_restore_23 : decode cX2_restore 23 = .ok (.getfield 11, 3) := by decide +kernel
theorem dX2_restore_26 : decode cX2_restore 26 = .ok (.aload_n 0, 1) := by decide +kernel
theorem dX2_restore_27 : decode cX2_restore 27 = .ok (.getfield 17, 3) := by decide +kernel
theorem dX2_restore_30 : decode cX2_restore 30 = .ok (.aaload, 1) := by decide +kernel
theorem dX2_restore_31 : decode cX2_restore 31 = .ok (.astore_n 2, 1) := by decide +kernel
theorem dX2_restore_32 : decode cX2_restore 32 = .ok (.aload_n 2, 1) := by decide +kernel
theorem dX2_restore_33 : decode cX2_restore 33 = .ok (.ifnull 8, 3) := by decide +kernel
theorem dX2_restore_36 : decode cX2_restore 36 = .ok (.aload_n 1, 1) := by decide +kernel
theorem dX2_restore_37 : decode cX2_restore 37 = .ok (.aload_n 2, 1) := by decide +kernel
theorem dX2_restore_38 : decode cX2_restore 38 = .ok (.invokevirtual 25, 3) := by decide +kernel
theorem dX2_restore_41 : decode cX2_restore 41 = .ok (.aload_n 0, 1) := by decide +kernel
theorem dX2_restore_42 : decode cX2_restore 42 = .ok (.dup, 1) := by decide +kernel
theorem dX2_restore_43 : decode cX2_restore 43 = .ok (.getfield 21, 3) := by decide +kernel
theorem dX2_restore_46 : decode cX2_restore 46 = .ok (.iconst 1, 1) := by decide +kernel
theorem dX2_restore_47 : decode cX2_restore 47 = .ok (.isub, 1) := by decide +kernel
theorem dX2_restore_48 : decode cX2_restore 48 = .ok (.putfield 21, 3) := by decide +kernel
theorem dX2_restore_51 : decode cX2_restore 51 = .ok (.return_, 1) := by decide +kernel
theorem dX3_init_0 : decode cX3_init 0 = .ok (.aload_n 0, 1) := by decide +kernel
theorem dX3_init_1 : decode cX3_init 1 = .ok (.invokespecial 3, 3) := by decide +kernel
theorem dX3_init_4 : decode cX3_init 4 = .ok (.aload_n 0, 1) := by decide +kernel
theorem dX3_init_5 : decode cX3_init 5 = .ok (.aload_n 1, 1) := by decide +kernel
theorem dX3_init_6 : decode cX3_init 6 = .ok (.putfield 9, 3) := by decide +kernel
theorem dX3_init_9 : decode cX3_init 9 = .ok (.aload_n 0, 1) := by decide +kernel
theorem dX3_init_10 : decode cX3_init 10 = .ok (.bipush 11, 2) := by decide +kernel
theorem dX3_init_12 : decode cX3_init 12 = .ok (.newarray .int, 2) := by decide +kernel
theorem dX3_init_14 : decode cX3_init 14 = .ok (.putfield 15, 3) := by decide +kernel
theorem dX3_init_17 : decode cX3_init 17 = .ok (.aload_n 0, 1) := by decide +kernel
theorem dX3_init_18 : decode cX3_init 18 = .ok (.iconst 0, 1) := by decide +kernel
theorem dX3_init_19 : decode cX3_init 19 = .ok (.putfield 19, 3) := by decide +kernel
theorem dX3_init_22 : decode cX3_init 22 = .ok (.aload_n 0, 1) := by decide +kernel
theorem dX3_init_23 : decode cX3_init 23 = .ok (.iconst 0, 1) := by decide +kernel
theorem dX3_init_24 : decode cX3_init 24 = .ok (.putfield 23, 3) := by decide +kernel
theorem dX3_init_27 : decode cX3_init 27 = .ok (.return_, 1) := by decide +kernel
theorem dX3_numbersOfStep_0 : decode cX3_numbersOfStep 0 = .ok (.iload_n 0, 1) := by decide +kernel
theorem dX3_numbersOfStep_1 : decode cX3_numbersOfStep 1 = .ok (.ifCond .lt 19, 3) := by decide +kernel
theorem dX3_numbersOfStep_4 : decode cX3_numbersOfStep 4 = .ok (.iload_n 0, 1) := by decide +kernel
theorem dX3_numbersOfStep_5 : decode cX3_numbersOfStep 5 = .ok (.getstatic 26, 3) := by decide +kernel
theorem dX3_numbersOfStep_8 : decode cX3_numbersOfStep 8 = .ok (.arraylength, 1) := by decide +kernel
theorem dX3_numbersOfStep_9 : decode cX3_numbersOfStep 9 = .ok (.if_icmp .ge 11, 3) := by decide +kernel
theorem dX3_numbersOfStep_12 : decode cX3_numbersOfStep 12 = .ok (.getstatic 26, 3) := by decide +kernel
theorem dX3_numbersOfStep_15 : decode cX3_numbersOfStep 15 = .ok (.iload_n 0, 1) := by decide +kernel
theorem dX3_numbersOfStep_16 : decode cX3_numbersOfStep 16 = .ok (.iaload, 1) := by decide +kernel
theorem dX3_numbersOfStep_17 : decode cX3_numbersOfStep 17 = .ok (.goto 4, 3) := by decide +kernel
theorem dX3_numbersOfStep_20 : decode cX3_numbersOfStep 20 = .ok (.iconst 0, 1) := by decide +kernel
theorem dX3_numbersOfStep_21 : decode cX3_numbersOfStep 21 = .ok (.ireturn, 1) := by decide +kernel
theorem dX3_readScene_0 : decode cX3_readScene 0 = .ok (.aload_n 1, 1) := by decide +kernel
theorem dX3_readScene_1 : decode cX3_readScene 1 = .ok (.invokevirtual 29, 3) := by decide +kernel
theorem dX3_readScene_4 : decode cX3_readScene 4 = .ok (.aload_n 0, 1) := by decide +kernel
theorem dX3_readScene_5 : decode cX3_readScene 5 = .ok (.iconst 0, 1) := by decide +kernel
theorem dX3_readScene_6 : decode cX3_readScene 6 = .ok (.putfield 19, 3) := by decide +kernel
theorem dX3_readScene_9 : decode cX3_readScene 9 = .ok (.iconst 0, 1) := by decide +kernel
theorem dX3_readScene_10 : decode cX3_readScene 10 = .ok (.istore_n 2, 1) := by decide +kernel
theorem dX3_readScene_11 : decode cX3_readScene 11 = .ok (.iconst 0, 1) := by decide +kernel
theorem dX3_readScene_12 : decode cX3_readScene 12 = .ok (.istore_n 3, 1) := by decide +kernel
theorem dX3_readScene_13 : decode cX3_readScene 13 = .ok (.iload_n 3, 1) := by decide +kernel
theorem dX3_readScene_14 : decode cX3_readScene 14 = .ok (.sipush 480, 3) := by decide +kernel
theorem dX3_readScene_17 : decode cX3_readScene 17 = .ok (.if_icmp .gt 156, 3) := by decide +kernel
theorem dX3_readScene_20 : decode cX3_readScene 20 = .ok (.aload_n 0, 1) := by decide +kernel
theorem dX3_readScene_21 : decode cX3_readScene 21 = .ok (.ldc 34, 2) := by decide +kernel
theorem dX3_readScene_23 : decode cX3_readScene 23 = .ok (.invokevirtual 36, 3) := by decide +kernel
theorem dX3_readScene_26 : decode cX3_readScene 26 = .ok (.istore 4, 2) := by decide +kernel
theorem dX3_readScene_28 : decode cX3_readScene 28 = .ok (.iload 4, 2) := by decide +kernel
theorem dX3_readScene_30 : decode cX3_readScene 30 = .ok (.ifCond .lt 22, 3) := by decide +kernel
theorem dX3_readScene_33 : decode cX3_readScene 33 = .ok (.iload 4, 2) := by decide +kernel
theorem dX3_readScene_35 : decode cX3_readScene 35 = .ok (.getstatic 40, 3) := by decide +kernel
theorem dX3_readScene_38 : decode cX3_readScene 38 = .ok (.arraylength, 1) := by decide +kernel
theorem dX3_readScene_39 : decode cX3_readScene 39 = .ok (.if_icmp .ge 13, 3) := by decide +kernel
theorem dX3_readScene_42 : decode cX3_readScene 42 = .ok (.aload_n 1, 1) := by decide +kernel
theorem dX3_readScene_43 : decode cX3_readScene 43 = .ok (.iload 4, 2) := by decide +kernel
theorem dX3_readScene_45 : decode cX3_readScene 45 = .ok (.iload_n 2, 1) := by decide +kernel
theorem dX3_readScene_46 : decode cX3_readScene 46 = .ok (.invokestatic 43, 3) := by decide +kernel
theorem dX3_readScene_49 : decode cX3_readScene 49 = .ok (.ifCond .eq 8, 3) := by decide +kernel
theorem dX3_readScene_52 : decode cX3_readScene 52 = .ok (.aload_n 0, 1) := by decide +kernel
theorem dX3_readScene_53 : decode cX3_readScene 53 = .ok (.getfield 23, 3) := by decide +kernel
theorem dX3_readScene_56 : decode cX3_readScene 56 = .ok (.ireturn, 1) := by decide +kernel
theorem dX3_readScene_57 : decode cX3_readScene 57 = .ok (.iload_n 2, 1) := by decide +kernel
theorem dX3_readScene_58 : decode cX3_readScene 58 = .ok (.iconst 1, 1) := by decide +kernel
theorem dX3_readScene_59 : decode cX3_readScene 59 = .ok (.iload 4, 2) := by decide +kernel
theorem dX3_readScene_61 : decode cX3_readScene 61 = .ok (.ishl, 1) := by decide +kernel
theorem dX3_readScene_62 : decode cX3_readScene 62 = .ok (.ior, 1) := by decide +kernel
theorem dX3_readScene_63 : decode cX3_readScene 63 = .ok (.istore_n 2, 1) := by decide +kernel
theorem dX3_readScene_64 : decode cX3_readScene 64 = .ok (.aload_n 0, 1) := by decide +kernel
theorem dX3_readScene_65 : decode cX3_readScene 65 = .ok (.getstatic 47, 3) := by decide +kernel
theorem dX3_readScene_68 : decode cX3_readScene 68 = .ok (.getstatic 50, 3) := by decide +kernel
theorem dX3_readScene_71 : decode cX3_readScene 71 = .ok (.iload 4, 2) := by decide +kernel
theorem dX3_readScene_73 : decode cX3_readScene 73 = .ok (.iaload, 1) := by decide +kernel
theorem dX3_readScene_74 : decode cX3_readScene 74 = .ok (.getstatic 40, 3) := by decide +kernel
theorem dX3_readScene_77 : decode cX3_readScene 77 = .ok (.iload 4, 2) := by decide +kernel
theorem dX3_readScene_79 : decode cX3_readScene 79 = .ok (.iaload, 1) := by decide +kernel
theorem dX3_readScene_80 : decode cX3_readScene 80 = .ok (.invokevirtual 53, 3) := by decide +kernel
theorem dX3_readScene_83 : decode cX3_readScene 83 = .ok (.ifCond .ne 8, 3) := by decide +kernel
theorem dX3_readScene_86 : decode cX3_readScene 86 = .ok (.aload_n 0, 1) := by decide +kernel
theorem dX3_readScene_87 : decode cX3_readScene 87 = .ok (.getfield 23, 3) := by decide +kernel
theorem dX3_readScene_90 : decode cX3_readScene 90 = .ok (.ireturn, 1) := by decide +kernel
theorem dX3_readScene_91 : decode cX3_readScene 91 = .ok (.iload 4, 2) := by decide +kernel
theorem dX3_readScene_93 : decode cX3_readScene 93 = .ok (.iconst 2, 1) := by decide +kernel
theorem dX3_readScene_94 : decode cX3_readScene 94 = .ok (.if_icmp .ne 18, 3) := by decide +kernel
theorem dX3_readScene_97 : decode cX3_readScene 97 = .ok (.aload_n 0, 1) := by decide +kernel
theorem dX3_readScene_98 : decode cX3_readScene 98 = .ok (.getfield 15, 3) := by decide +kernel
theorem dX3_readScene_101 : decode cX3_readScene 101 = .ok (.iconst 0, 1) := by decide +kernel
theorem dX3_readScene_102 : decode cX3_readScene 102 = .ok (.iaload, 1) := by decide +kernel
theorem dX3_readScene_103 : decode cX3_readScene 103 = .ok (.iconst 3, 1) := by decide +kernel
theorem dX3_readScene_104 : decode cX3_readScene 104 = .ok (.if_icmp .ne 8, 3) := by decide +kernel
theorem dX3_readScene_107 : decode cX3_readScene 107 = .ok (.aload_n 0, 1) := by decide +kernel
theorem dX3_readScene_108 : decode cX3_readScene 108 = .ok (.getfield 23, 3) := by decide +kernel
theorem dX3_readScene_111 : decode cX3_readScene 111 = .ok (.ireturn, 1) := by decide +kernel
theorem dX3_readScene_112 : decode cX3_readScene 112 = .ok (.aload_n 1, 1) := by decide +kernel
theorem dX3_readScene_113 : decode cX3_readScene 113 = .ok (.iload 4, 2) := by decide +kernel
theorem dX3_readScene_115 : decode cX3_readScene 115 = .ok (.iload 4, 2) := by decide +kernel
theorem dX3_readScene_117 : decode cX3_readScene 117 = .ok (.bipush 8, 2) := by decide +kernel
theorem dX3_readScene_119 : decode cX3_readScene 119 = .ok (.isub, 1) := by decide +kernel
theorem dX3_readScene_120 : decode cX3_readScene 120 = .ok (.aload_n 0, 1) := by decide +kernel
theorem dX3_readScene_121 : decode cX3_readScene 121 = .ok (.getfield 15, 3) := by decide +kernel
theorem dX3_readScene_124 : decode cX3_readScene 124 = .ok (.invokevirtual 57, 3) := by decide +kernel
theorem dX3_readScene_127 : decode cX3_readScene 127 = .ok (.aload_n 0, 1) := by decide +kernel
theorem dX3_readScene_128 : decode cX3_readScene 128 = .ok (.invokevirtual 61, 3) := by decide +kernel
theorem dX3_readScene_131 : decode cX3_readScene 131 = .ok (.ifCond .eq 22, 3) := by decide +kernel
theorem dX3_readScene_134 : decode cX3_readScene 134 = .ok (.aload_n 1, 1) := by decide +kernel
theorem dX3_readScene_135 : decode cX3_readScene 135 = .ok (.getfield 65, 3) := by decide +kernel
theorem dX3_readScene_138 : decode cX3_readScene 138 = .ok (.ifCond .ne 13, 3) := by decide +kernel
theorem dX3_readScene_141 : decode cX3_readScene 141 = .ok (.aload_n 0, 1) := by decide +kernel
theorem dX3_readScene_142 : decode cX3_readScene 142 = .ok (.getfield 9, 3) := by decide +kernel
theorem dX3_readScene_145 : decode cX3_readScene 145 = .ok (.getfield 68, 3) := by decide +kernel
theorem dX3_readScene_148 : decode cX3_readScene 148 = .ok (.goto 4, 3) := by decide +kernel
theorem dX3_readScene_151 : decode cX3_readScene 151 = .ok (.iconst (-1), 1) := by decide +kernel
theorem dX3_readScene_152 : decode cX3_readScene 152 = .ok (.ireturn, 1) := by decide +kernel
theorem dX3_readScene_153 : decode cX3_readScene 153 = .ok (.aload_n 0, 1) := by decide +kernel
theorem dX3_readScene_154 : decode cX3_readScene 154 = .ok (.bipush 59, 2) := by decide +kernel
theorem dX3_readScene_156 : decode cX3_readScene 156 = .ok (.invokevirtual 73, 3) := by decide +kernel
theorem dX3_readScene_159 : decode cX3_readScene 159 = .ok (.ifCond .ne 8, 3) := by decide +kernel
theorem dX3_readScene_162 : decode cX3_readScene 162 = .ok (.aload_n 0, 1) := by decide +kernel
theorem dX3_readScene_163 : decode cX3_readScene 163 = .ok (.getfield 23, 3) := by decide +kernel
theorem dX3_readScene_166 : decode cX3_readScene 166 = .ok (.ireturn, 1) := by decide +kernel
theorem dX3_readScene_167 : decode cX3_readScene 167 = .ok (.iinc 3 1, 3) := by decide +kernel
theorem dX3_readScene_170 : decode cX3_readScene 170 = .ok (.goto (-157), 3) := by decide +kernel
theorem dX3_readScene_173 : decode cX3_readScene 173 = .ok (.aload_n 0, 1) := by decide +kernel
theorem dX3_readScene_174 : decode cX3_readScene 174 = .ok (.getfield 23, 3) := by decide +kernel
theorem dX3_readScene_177 : decode cX3_readScene 177 = .ok (.ireturn, 1) := by decide +kernel
theorem dX3_mayNotBeAgain_0 : decode cX3_mayNotBeAgain 0 = .ok (.iload_n 1, 1) := by decide +kernel
theorem dX3_mayNotBeAgain_1 : decode cX3_mayNotBeAgain 1 = .ok (.bipush 8, 2) := by decide +kernel
theorem dX3_mayNotBeAgain_3 : decode cX3_mayNotBeAgain 3 = .ok (.if_icmp .lt 18, 3) := by decide +kernel
theorem dX3_mayNotBeAgain_6 : decode cX3_mayNotBeAgain 6 = .ok (.aload_n 0, 1) := by decide +kernel
theorem dX3_mayNotBeAgain_7 : decode cX3_mayNotBeAgain 7 = .ok (.getfield 65, 3) := by decide +kernel
theorem dX3_mayNotBeAgain_10 : decode cX3_mayNotBeAgain 10 = .ok (.bipush 10, 2) := by decide +kernel
theorem dX3_mayNotBeAgain_12 : decode cX3_mayNotBeAgain 12 = .ok (.if_icmp .lt 7, 3) := by decide +kernel
theorem dX3_mayNotBeAgain_15 : decode cX3_mayNotBeAgain 15 = .ok (.iconst 1, 1) := by decide +kernel
theorem dX3_mayNotBeAgain_16 : decode cX3_mayNotBeAgain 16 = .ok (.goto 4, 3) := by decide +kernel
theorem dX3_mayNotBeAgain_19 : decode cX3_mayNotBeAgain 19 = .ok (.iconst 0, 1) := by decide +kernel
theorem dX3_mayNotBeAgain_20 : decode cX3_mayNotBeAgain 20 = .ok (.ireturn, 1) := by decide +kernel
theorem dX3_mayNotBeAgain_21 : decode cX3_mayNotBeAgain 21 = .ok (.iload_n 2, 1) := by decide +kernel
theorem dX3_mayNotBeAgain_22 : decode cX3_mayNotBeAgain 22 = .ok (.iload_n 1, 1) := by decide +kernel
theorem dX3_mayNotBeAgain_23 : decode cX3_mayNotBeAgain 23 = .ok (.ishr, 1) := by decide +kernel
theorem dX3_mayNotBeAgain_24 : decode cX3_mayNotBeAgain 24 = .ok (.iconst 1, 1) := by decide +kernel
theorem dX3_mayNotBeAgain_25 : decode cX3_mayNotBeAgain 25 = .ok (.iand, 1) := by decide +kernel
theorem dX3_mayNotBeAgain_26 : decode cX3_mayNotBeAgain 26 = .ok (.ifCond .eq 7, 3) := by decide +kernel
theorem dX3_mayNotBeAgain_29 : decode cX3_mayNotBeAgain 29 = .ok (.iconst 1, 1) := by decide +kernel
theorem dX3_mayNotBeAgain_30 : decode cX3_mayNotBeAgain 30 = .ok (.goto 4, 3) := by decide +kernel
theorem dX3_mayNotBeAgain_33 : decode cX3_mayNotBeAgain 33 = .ok (.iconst 0, 1) := by decide +kernel
theorem dX3_mayNotBeAgain_34 : decode cX3_mayNotBeAgain 34 = .ok (.ireturn, 1) := by decide +kernel
theorem dX3_readScript_0 : decode cX3_readScript 0 = .ok (.aload_n 1, 1) := by decide +kernel
theorem dX3_readScript_1 : decode cX3_readScript 1 = .ok (.iconst 0, 1) := by decide +kernel
theorem dX3_readScript_2 : decode cX3_readScript 2 = .ok (.putfield 77, 3) := by decide +kernel
theorem dX3_readScript_5 : decode cX3_readScript 5 = .ok (.aload_n 0, 1) := by decide +kernel
theorem dX3_readScript_6 : decode cX3_readScript 6 = .ok (.iconst 0, 1) := by decide +kernel
theorem dX3_readScript_7 : decode cX3_readScript 7 = .ok (.putfield 19, 3) := by decide +kernel
theorem dX3_readScript_10 : decode cX3_readScript 10 = .ok (.iconst 0, 1) := by decide +kernel
theorem dX3_readScript_11 : decode cX3_readScript 11 = .ok (.istore_n 2, 1) := by decide +kernel
theorem dX3_readScript_12 : decode cX3_readScript 12 = .ok (.iload_n 2, 1) := by decide +kernel
theorem dX3_readScript_13 : decode cX3_readScript 13 = .ok (.bipush 12, 2) := by decide +kernel
theorem dX3_readScript_15 : decode cX3_readScript 15 = .ok (.if_icmp .ge 95, 3) := by decide +kernel
theorem dX3_readScript_18 : decode cX3_readScript 18 = .ok (.aload_n 0, 1) := by decide +kernel
theorem dX3_readScript_19 : decode cX3_readScript 19 = .ok (.ldc 80, 2) := by decide +kernel
theorem dX3_readScript_21 : decode cX3_readScript 21 = .ok (.invokevirtual 36, 3) := by decide +kernel
theorem dX3_readScript_24 : decode cX3_readScript 24 = .ok (.istore_n 3, 1) := by decide +kernel
theorem dX3_readScript_25 : decode cX3_readScript 25 = .ok (.iload_n 3, 1) := by decide +kernel
theorem dX3_readScript_26 : decode cX3_readScript 26 = .ok (.ifCond .lt 11, 3) := by decide +kernel
theorem dX3_readScript_29 : decode cX3_readScript 29 = .ok (.iload_n 3, 1) := by decide +kernel
theorem dX3_readScript_30 : decode cX3_readScript 30 = .ok (.getstatic 26, 3) := by decide +kernel
theorem dX3_readScript_33 : decode cX3_readScript 33 = .ok (.arraylength, 1) := by decide +kernel
theorem dX3_readScript_34 : decode cX3_readScript 34 = .ok (.if_icmp .lt 8, 3) := by decide +kernel
theorem dX3_readScript_37 : decode cX3_readScript 37 = .ok (.aload_n 0, 1) := by decide +kernel
theorem dX3_readScript_38 : decode cX3_readScript 38 = .ok (.getfield 23, 3) := by decide +kernel
theorem dX3_readScript_41 : decode cX3_readScript 41 = .ok (.ireturn, 1) := by decide +kernel
theorem dX3_readScript_42 : decode cX3_readScript 42 = .ok (.aload_n 0, 1) := by decide +kernel
theorem dX3_readScript_43 : decode cX3_readScript 43 = .ok (.getstatic 82, 3) := by decide +kernel
theorem dX3_readScript_46 : decode cX3_readScript 46 = .ok (.getstatic 85, 3) := by decide +kernel
theorem dX3_readScript_49 : decode cX3_readScript 49 = .ok (.iload_n 3, 1) := by decide +kernel
theorem dX3_readScript_50 : decode cX3_readScript 50 = .ok (.iaload, 1) := by decide +kernel
theorem dX3_readScript_51 : decode cX3_readScript 51 = .ok (.getstatic 26, 3) := by decide +kernel
theorem dX3_readScript_54 : decode cX3_readScript 54 = .ok (.iload_n 3, 1) := by decide +kernel
theorem dX3_readScript_55 : decode cX3_readScript 55 = .ok (.iaload, 1) := by decide +kernel
theorem dX3_readScript_56 : decode cX3_readScript 56 = .ok (.invokevirtual 53, 3) := by decide +kernel
theorem dX3_readScript_59 : decode cX3_readScript 59 = .ok (.ifCond .ne 8, 3) := by decide +kernel
theorem dX3_readScript_62 : decode cX3_readScript 62 = .ok (.aload_n 0, 1) := by decide +kernel
theorem dX3_readScript_63 : decode cX3_readScript 63 = .ok (.getfield 23, 3) := by decide +kernel
theorem dX3_readScript_66 : decode cX3_readScript 66 = .ok (.ireturn, 1) := by decide +kernel
theorem dX3_readScript_67 : decode cX3_readScript 67 = .ok (.aload_n 1, 1) := by decide +kernel
theorem dX3_readScript_68 : decode cX3_readScript 68 = .ok (.iload_n 3, 1) := by decide +kernel
theorem dX3_readScript_69 : decode cX3_readScript 69 = .ok (.aload_n 0, 1) := by decide +kernel
theorem dX3_readScript_70 : decode cX3_readScript 70 = .ok (.getfield 15, 3) := by decide +kernel
theorem dX3_readScript_73 : decode cX3_readScript 73 = .ok (.getstatic 26, 3) := by decide +kernel
theorem dX3_readScript_76 : decode cX3_readScript 76 = .ok (.iload_n 3, 1) := by decide +kernel
theorem dX3_readScript_77 : decode cX3_readScript 77 = .ok (.iaload, 1) := by decide +kernel
theorem dX3_readScript_78 : decode cX3_readScript 78 = .ok (.invokevirtual 88, 3) := by decide +kernel
theorem dX3_readScript_81 : decode cX3_readScript 81 = .ok (.aload_n 0, 1) := by decide +kernel
theorem dX3_readScript_82 : decode cX3_readScript 82 = .ok (.invokevirtual 61, 3) := by decide +kernel
theorem dX3_readScript_85 : decode cX3_readScript 85 = .ok (.ifCond .eq 5, 3) := by decide +kernel
theorem dX3_readScript_88 : decode cX3_readScript 88 = .ok (.iconst (-1), 1) := by decide +kernel
theorem dX3_readScript_89 : decode cX3_readScript 89 = .ok (.ireturn, 1) := by decide +kernel
theorem dX3_readScript_90 : decode cX3_readScript 90 = .ok (.aload_n 0, 1) := by decide +kernel
theorem dX3_readScript_91 : decode cX3_readScript 91 = .ok (.bipush 59, 2) := by decide +kernel
theorem dX3_readScript_93 : decode cX3_readScript 93 = .ok (.invokevirtual 73, 3) := by decide +kernel
theorem dX3_readScript_96 : decode cX3_readScript 96 = .ok (.ifCond .ne 8, 3) := by decide +kernel
theorem dX3_readScript_99 : decode cX3_readScript 99 = .ok (.aload_n 0, 1) := by decide +kernel
theorem dX3_readScript_100 : decode cX3_readScript 100 = .ok (.getfield 23, 3) := by decide +kernel
theorem dX3_readScript_103 : decode cX3_readScript 103 = .ok (.ireturn, 1) := by decide +kernel
theorem dX3_readScript_104 : decode cX3_readScript 104 = .ok (.iinc 2 1, 3) := by decide +kernel
theorem dX3_readScript_107 : decode cX3_readScript 107 = .ok (.goto (-95), 3) := by decide +kernel
theorem dX3_readScript_110 : decode cX3_readScript 110 = .ok (.aload_n 0, 1) := by decide +kernel
theorem dX3_readScript_111 : decode cX3_readScript 111 = .ok (.getfield 23, 3) := by decide +kernel
theorem dX3_readScript_114 : decode cX3_readScript 114 = .ok (.ireturn, 1) := by decide +kernel
theorem dX3_skipBlanks_0 : decode cX3_skipBlanks 0 = .ok (.aload_n 0, 1) := by decide +kernel
theorem dX3_skipBlanks_1 : decode cX3_skipBlanks 1 = .ok (.getfield 19, 3) := by decide +kernel
theorem dX3_skipBlanks_4 : decode cX3_skipBlanks 4 = .ok (.aload_n 0, 1) := by decide +kernel
theorem dX3_skipBlanks_5 : decode cX3_skipBlanks 5 = .ok (.getfield 9, 3) := by decide +kernel
theorem dX3_skipBlanks_8 : decode cX3_skipBlanks 8 = .ok (.getfield 68, 3) := by decide +kernel
theorem dX3_skipBlanks_11 : decode cX3_skipBlanks 11 = .ok (.if_icmp .ge 33, 3) := by decide +kernel
theorem dX3_skipBlanks_14 : decode cX3_skipBlanks 14 = .ok (.aload_n 0, 1) := by decide +kernel
theorem dX3_skipBlanks_15 : decode cX3_skipBlanks 15 = .ok (.getfield 9, 3) := by decide +kernel
theorem dX3_skipBlanks_18 : decode cX3_skipBlanks 18 = .ok (.getfield 91, 3) := by decide +kernel
theorem dX3_skipBlanks_21 : decode cX3_skipBlanks 21 = .ok (.aload_n 0, 1) := by decide +kernel
theorem dX3_skipBlanks_22 : decode cX3_skipBlanks 22 = .ok (.getfield 19, 3) := by decide +kernel
theorem dX3_skipBlanks_25 : decode cX3_skipBlanks 25 = .ok (.caload, 1) := by decide +kernel
theorem dX3_skipBlanks_26 : decode cX3_skipBlanks 26 = .ok (.bipush 32, 2) := by decide +kernel
theorem dX3_skipBlanks_28 : decode cX3_skipBlanks 28 = .ok (.if_icmp .ne 16, 3) := by decide +kernel
theorem dX3_skipBlanks_31 : decode cX3_skipBlanks 31 = .ok (.aload_n 0, 1) := by decide +kernel
theorem dX3_skipBlanks_32 : decode cX3_skipBlanks 32 = .ok (.dup, 1) := by decide +kernel
theorem dX3_skipBlanks_33 : decode cX3_skipBlanks 33 = .ok (.getfield 19, 3) := by decide +kernel
theorem dX3_skipBlanks_36 : decode cX3_skipBlanks 36 = .ok (.iconst 1, 1) := by decide +kernel
theorem dX3_skipBlanks_37 : decode cX3_skipBlanks 37 = .ok (.iadd, 1) := by decide +kernel
theorem dX3_skipBlanks_38 : decode cX3_skipBlanks 38 = .ok (.putfield 19, 3) := by decide +kernel
theorem dX3_skipBlanks_41 : decode cX3_skipBlanks 41 = .ok (.goto (-41), 3) := by decide +kernel
theorem dX3_skipBlanks_44 : decode cX3_skipBlanks 44 = .ok (.aload_n 0, 1) := by decide +kernel
theorem dX3_skipBlanks_45 : decode cX3_skipBlanks 45 = .ok (.aload_n 0, 1) := by decide +kernel
theorem dX3_skipBlanks_46 : decode cX3_skipBlanks 46 = .ok (.getfield 19, 3) := by decide +kernel
theorem dX3_skipBlanks_49 : decode cX3_skipBlanks 49 = .ok (.putfield 23, 3) := by decide +kernel
theorem dX3_skipBlanks_52 : decode cX3_skipBlanks 52 = .ok (.return_, 1) := by decide +kernel
theorem dX3_isAtEnd_0 : decode cX3_isAtEnd 0 = .ok (.aload_n 0, 1) := by decide +kernel
theorem dX3_isAtEnd_1 : decode cX3_isAtEnd 1 = .ok (.invokevirtual 95, 3) := by decide +kernel
theorem dX3_isAtEnd_4 : decode cX3_isAtEnd 4 = .ok (.aload_n 0, 1) := by decide +kernel
theorem dX3_isAtEnd_5 : decode cX3_isAtEnd 5 = .ok (.getfield 19, 3) := by decide +kernel
theorem dX3_isAtEnd_8 : decode cX3_isAtEnd 8 = .ok (.aload_n 0, 1) := by decide +kernel
theorem dX3_isAtEnd_9 : decode cX3_isAtEnd 9 = .ok (.getfield 9, 3) := by decide +kernel
theorem dX3_isAtEnd_12 : decode cX3_isAtEnd 12 = .ok (.getfield 68, 3) := by decide +kernel
theorem dX3_isAtEnd_15 : decode cX3_isAtEnd 15 = .ok (.if_icmp .lt 7, 3) := by decide +kernel
theorem dX3_isAtEnd_18 : decode cX3_isAtEnd 18 = .ok (.iconst 1, 1) := by decide +kernel
theorem dX3_isAtEnd_19 : decode cX3_isAtEnd 19 = .ok (.goto 4, 3) := by decide +kernel
theorem dX3_isAtEnd_22 : decode cX3_isAtEnd 22 = .ok (.iconst 0, 1) := by decide +kernel
theorem dX3_isAtEnd_23 : decode cX3_isAtEnd 23 = .ok (.ireturn, 1) := by decide +kernel
theorem dX3_readSign_0 : decode cX3_readSign 0 = .ok (.aload_n 0, 1) := by decide +kernel
theorem dX3_readSign_1 : decode cX3_readSign 1 = .ok (.invokevirtual 95, 3) := by decide +kernel
theorem dX3_readSign_4 : decode cX3_readSign 4 = .ok (.aload_n 0, 1) := by decide +kernel
theorem dX3_readSign_5 : decode cX3_readSign 5 = .ok (.getfield 19, 3) := by decide +kernel
theorem dX3_readSign_8 : decode cX3_readSign 8 = .ok (.aload_n 0, 1) := by decide +kernel
theorem dX3_readSign_9 : decode cX3_readSign 9 = .ok (.getfield 9, 3) := by decide +kernel
theorem dX3_readSign_12 : decode cX3_readSign 12 = .ok (.getfield 68, 3) := by decide +kernel
theorem dX3_readSign_15 : decode cX3_readSign 15 = .ok (.if_icmp .ge 19, 3) := by decide +kernel
theorem dX3_readSign_18 : decode cX3_readSign 18 = .ok (.aload_n 0, 1) := by decide +kernel
theorem dX3_readSign_19 : decode cX3_readSign 19 = .ok (.getfield 9, 3) := by decide +kernel
theorem dX3_readSign_22 : decode cX3_readSign 22 = .ok (.getfield 91, 3) := by decide +kernel
theorem dX3_readSign_25 : decode cX3_readSign 25 = .ok (.aload_n 0, 1) := by decide +kernel
theorem dX3_readSign_26 : decode cX3_readSign 26 = .ok (.getfield 19, 3) := by decide +kernel
theorem dX3_readSign_29 : decode cX3_readSign 29 = .ok (.caload, 1) := by decide +kernel
theorem dX3_readSign_30 : decode cX3_readSign 30 = .ok (.iload_n 1, 1) := by decide +kernel
theorem dX3_readSign_31 : decode cX3_readSign 31 = .ok (.if_icmp .eq 5, 3) := by decide +kernel
theorem dX3_readSign_34 : decode cX3_readSign 34 = .ok (.iconst 0, 1) := by decide +kernel
theorem dX3_readSign_35 : decode cX3_readSign 35 = .ok (.ireturn, 1) := by decide +kernel
theorem dX3_readSign_36 : decode cX3_readSign 36 = .ok (.aload_n 0, 1) := by decide +kernel
theorem dX3_readSign_37 : decode cX3_readSign 37 = .ok (.dup, 1) := by decide +kernel
theorem dX3_readSign_38 : decode cX3_readSign 38 = .ok (.getfield 19, 3) := by decide +kernel
theorem dX3_readSign_41 : decode cX3_readSign 41 = .ok (.iconst 1, 1) := by decide +kernel
theorem dX3_readSign_42 : decode cX3_readSign 42 = .ok (.iadd, 1) := by decide +kernel
theorem dX3_readSign_43 : decode cX3_readSign 43 = .ok (.putfield 19, 3) := by decide +kernel
theorem dX3_readSign_46 : decode cX3_readSign 46 = .ok (.iconst 1, 1) := by decide +kernel
theorem dX3_readSign_47 : decode cX3_readSign 47 = .ok (.ireturn, 1) := by decide +kernel
theorem dX3_readWord_0 : decode cX3_readWord 0 = .ok (.aload_n 0, 1) := by decide +kernel
theorem dX3_readWord_1 : decode cX3_readWord 1 = .ok (.invokevirtual 95, 3) := by decide +kernel
theorem dX3_readWord_4 : decode cX3_readWord 4 = .ok (.aload_n 0, 1) := by decide +kernel
theorem dX3_readWord_5 : decode cX3_readWord 5 = .ok (.getfield 19, 3) := by decide +kernel
theorem dX3_readWord_8 : decode cX3_readWord 8 = .ok (.aload_n 0, 1) := by decide +kernel
theorem dX3_readWord_9 : decode cX3_readWord 9 = .ok (.getfield 9, 3) := by decide +kernel
theorem dX3_readWord_12 : decode cX3_readWord 12 = .ok (.getfield 68, 3) := by decide +kernel
theorem dX3_readWord_15 : decode cX3_readWord 15 = .ok (.if_icmp .ge 50, 3) := by decide +kernel
theorem dX3_readWord_18 : decode cX3_readWord 18 = .ok (.aload_n 0, 1) := by decide +kernel
theorem dX3_readWord_19 : decode cX3_readWord 19 = .ok (.getfield 9, 3) := by decide +kernel
theorem dX3_readWord_22 : decode cX3_readWord 22 = .ok (.getfield 91, 3) := by decide +kernel
theorem dX3_readWord_25 : decode cX3_readWord 25 = .ok (.aload_n 0, 1) := by decide +kernel
theorem dX3_readWord_26 : decode cX3_readWord 26 = .ok (.getfield 19, 3) := by decide +kernel
theorem dX3_readWord_29 : decode cX3_readWord 29 = .ok (.caload, 1) := by decide +kernel
theorem dX3_readWord_30 : decode cX3_readWord 30 = .ok (.bipush 97, 2) := by decide +kernel
theorem dX3_readWord_32 : decode cX3_readWord 32 = .ok (.if_icmp .lt 33, 3) := by decide +kernel
theorem dX3_readWord_35 : decode cX3_readWord 35 = .ok (.aload_n 0, 1) := by decide +kernel
theorem dX3_readWord_36 : decode cX3_readWord 36 = .ok (.getfield 9, 3) := by decide +kernel
theorem dX3_readWord_39 : decode cX3_readWord 39 = .ok (.getfield 91, 3) := by decide +kernel
theorem dX3_readWord_42 : decode cX3_readWord 42 = .ok (.aload_n 0, 1) := by decide +kernel
theorem dX3_readWord_43 : decode cX3_readWord 43 = .ok (.getfield 19, 3) := by decide +kernel
theorem dX3_readWord_46 : decode cX3_readWord 46 = .ok (.caload, 1) := by decide +kernel
theorem dX3_readWord_47 : decode cX3_readWord 47 = .ok (.bipush 122, 2) := by decide +kernel
theorem dX3_readWord_49 : decode cX3_readWord 49 = .ok (.if_icmp .gt 16, 3) := by decide +kernel
theorem dX3_readWord_52 : decode cX3_readWord 52 = .ok (.aload_n 0, 1) := by decide +kernel
theorem dX3_readWord_53 : decode cX3_readWord 53 = .ok (.dup, 1) := by decide +kernel
theorem dX3_readWord_54 : decode cX3_readWord 54 = .ok (.getfield 19, 3) := by decide +kernel
theorem dX3_readWord_57 : decode cX3_readWord 57 = .ok (.iconst 1, 1) := by decide +kernel
theorem dX3_readWord_58 : decode cX3_readWord 58 = .ok (.iadd, 1) := by decide +kernel
theorem dX3_readWord_59 : decode cX3_readWord 59 = .ok (.putfield 19, 3) := by decide +kernel
theorem dX3_readWord_62 : decode cX3_readWord 62 = .ok (.goto (-58), 3) := by decide +kernel
theorem dX3_readWord_65 : decode cX3_readWord 65 = .ok (.iconst 0, 1) := by decide +kernel
theorem dX3_readWord_66 : decode cX3_readWord 66 = .ok (.istore_n 2, 1) := by decide +kernel
theorem dX3_readWord_67 : decode cX3_readWord 67 = .ok (.iconst 0, 1) := by decide +kernel
theorem dX3_readWord_68 : decode cX3_readWord 68 = .ok (.istore_n 3, 1) := by decide +kernel
theorem dX3_readWord_69 : decode cX3_readWord 69 = .ok (.iconst 0, 1) := by decide +kernel
theorem dX3_readWord_70 : decode cX3_readWord 70 = .ok (.istore 4, 2) := by decide +kernel
theorem dX3_readWord_72 : decode cX3_readWord 72 = .ok (.iload 4, 2) := by decide +kernel
theorem dX3_readWord_74 : decode cX3_readWord 74 = .ok (.aload_n 1, 1) := by decide +kernel
theorem dX3_readWord_75 : decode cX3_readWord 75 = .ok (.invokevirtual 98, 3) := by decide +kernel
theorem dX3_readWord_78 : decode cX3_readWord 78 = .ok (.if_icmp .ge 41, 3) := by decide +kernel
theorem dX3_readWord_81 : decode cX3_readWord 81 = .ok (.aload_n 1, 1) := by decide +kernel
theorem dX3_readWord_82 : decode cX3_readWord 82 = .ok (.iload 4, 2) := by decide +kernel
theorem dX3_readWord_84 : decode cX3_readWord 84 = .ok (.invokevirtual 103, 3) := by decide +kernel
theorem dX3_readWord_87 : decode cX3_readWord 87 = .ok (.bipush 32, 2) := by decide +kernel
theorem dX3_readWord_89 : decode cX3_readWord 89 = .ok (.if_icmp .ne 24, 3) := by decide +kernel
theorem dX3_readWord_92 : decode cX3_readWord 92 = .ok (.aload_n 0, 1) := by decide +kernel
theorem dX3_readWord_93 : decode cX3_readWord 93 = .ok (.aload_n 1, 1) := by decide +kernel
theorem dX3_readWord_94 : decode cX3_readWord 94 = .ok (.iload_n 3, 1) := by decide +kernel
theorem dX3_readWord_95 : decode cX3_readWord 95 = .ok (.iload 4, 2) := by decide +kernel
theorem dX3_readWord_97 : decode cX3_readWord 97 = .ok (.invokevirtual 107, 3) := by decide +kernel
theorem dX3_readWord_100 : decode cX3_readWord 100 = .ok (.ifCond .eq 5, 3) := by decide +kernel
theorem dX3_readWord_103 : decode cX3_readWord 103 = .ok (.iload_n 2, 1) := by decide +kernel
theorem dX3_readWord_104 : decode cX3_readWord 104 = .ok (.ireturn, 1) := by decide +kernel
theorem dX3_readWord_105 : decode cX3_readWord 105 = .ok (.iinc 2 1, 3) := by decide +kernel
theorem dX3_readWord_108 : decode cX3_readWord 108 = .ok (.iload 4, 2) := by decide +kernel
theorem dX3_readWord_110 : decode cX3_readWord 110 = .ok (.iconst 1, 1) := by decide +kernel
theorem dX3_readWord_111 : decode cX3_readWord 111 = .ok (.iadd, 1) := by decide +kernel
theorem dX3_readWord_112 : decode cX3_readWord 112 = .ok (.istore_n 3, 1) := by decide +kernel
theorem dX3_readWord_113 : decode cX3_readWord 113 = .ok (.iinc 4 1, 3) := by decide +kernel
theorem dX3_readWord_116 : decode cX3_readWord 116 = .ok (.goto (-44), 3) := by decide +kernel
theorem dX3_readWord_119 : decode cX3_readWord 119 = .ok (.iconst (-1), 1) := by decide +kernel
theorem dX3_readWord_120 : decode cX3_readWord 120 = .ok (.ireturn, 1) := by decide +kernel
theorem dX3_isWord_0 : decode cX3_isWord 0 = .ok (.iload_n 3, 1) := by decide +kernel
theorem dX3_isWord_1 : decode cX3_isWord 1 = .ok (.iload_n 2, 1) := by decide +kernel
theorem dX3_isWord_2 : decode cX3_isWord 2 = .ok (.isub, 1) := by decide +kernel
theorem dX3_isWord_3 : decode cX3_isWord 3 = .ok (.aload_n 0, 1) := by decide +kernel
theorem dX3_isWord_4 : decode cX3_isWord 4 = .ok (.getfield 19, 3) := by decide +kernel
theorem dX3_isWord_7 : decode cX3_isWord 7 = .ok (.aload_n 0, 1) := by decide +kernel
theorem dX3_isWord_8 : decode cX3_isWord 8 = .ok (.getfield 23, 3) := by decide +kernel
theorem dX3_isWord_11 : decode cX3_isWord 11 = .ok (.isub, 1) := by decide +kernel
theorem dX3_isWord_12 : decode cX3_isWord 12 = .ok (.if_icmp .eq 5, 3) := by decide +kernel
theorem dX3_isWord_15 : decode cX3_isWord 15 = .ok (.iconst 0, 1) := by decide +kernel
theorem dX3_isWord_16 : decode cX3_isWord 16 = .ok (.ireturn, 1) := by decide +kernel
theorem dX3_isWord_17 : decode cX3_isWord 17 = .ok (.iload_n 2, 1) := by decide +kernel
theorem dX3_isWord_18 : decode cX3_isWord 18 = .ok (.istore 4, 2) := by decide +kernel
theorem dX3_isWord_20 : decode cX3_isWord 20 = .ok (.iload 4, 2) := by decide +kernel
theorem dX3_isWord_22 : decode cX3_isWord 22 = .ok (.iload_n 3, 1) := by decide +kernel
theorem dX3_isWord_23 : decode cX3_isWord 23 = .ok (.if_icmp .ge 37, 3) := by decide +kernel
theorem dX3_isWord_26 : decode cX3_isWord 26 = .ok (.aload_n 1, 1) := by decide +kernel
theorem dX3_isWord_27 : decode cX3_isWord 27 = .ok (.iload 4, 2) := by decide +kernel
theorem dX3_isWord_29 : decode cX3_isWord 29 = .ok (.invokevirtual 103, 3) := by decide +kernel
theorem dX3_isWord_32 : decode cX3_isWord 32 = .ok (.aload_n 0, 1) := by decide +kernel
theorem dX3_isWord_33 : decode cX3_isWord 33 = .ok (.getfield 9, 3) := by decide +kernel
theorem dX3_isWord_36 : decode cX3_isWord 36 = .ok (.getfield 91, 3) := by decide +kernel
theorem dX3_isWord_39 : decode cX3_isWord 39 = .ok (.aload_n 0, 1) := by decide +kernel
theorem dX3_isWord_40 : decode cX3_isWord 40 = .ok (.getfield 23, 3) := by decide +kernel
theorem dX3_isWord_43 : decode cX3_isWord 43 = .ok (.iload 4, 2) := by decide +kernel
theorem dX3_isWord_45 : decode cX3_isWord 45 = .ok (.iadd, 1) := by decide +kernel
theorem dX3_isWord_46 : decode cX3_isWord 46 = .ok (.iload_n 2, 1) := by decide +kernel
theorem dX3_isWord_47 : decode cX3_isWord 47 = .ok (.isub, 1) := by decide +kernel
theorem dX3_isWord_48 : decode cX3_isWord 48 = .ok (.caload, 1) := by decide +kernel
theorem dX3_isWord_49 : decode cX3_isWord 49 = .ok (.if_icmp .eq 5, 3) := by decide +kernel
theorem dX3_isWord_52 : decode cX3_isWord 52 = .ok (.iconst 0, 1) := by decide +kernel
theorem dX3_isWord_53 : decode cX3_isWord 53 = .ok (.ireturn, 1) := by decide +kernel
theorem dX3_isWord_54 : decode cX3_isWord 54 = .ok (.iinc 4 1, 3) := by decide +kernel
theorem dX3_isWord_57 : decode cX3_isWord 57 = .ok (.goto (-37), 3) := by decide +kernel
theorem dX3_isWord_60 : decode cX3_isWord 60 = .ok (.iconst 1, 1) := by decide +kernel
theorem dX3_isWord_61 : decode cX3_isWord 61 = .ok (.ireturn, 1) := by decide +kernel
theorem dX3_readNumbers_0 : decode cX3_readNumbers 0 = .ok (.iconst 0, 1) := by decide +kernel
theorem dX3_readNumbers_1 : decode cX3_readNumbers 1 = .ok (.istore 4, 2) := by decide +kernel
theorem dX3_readNumbers_3 : decode cX3_readNumbers 3 = .ok (.iload 4, 2) := by decide +kernel
theorem dX3_readNumbers_5 : decode cX3_readNumbers 5 = .ok (.iload_n 3, 1) := by decide +kernel
theorem dX3_readNumbers_6 : decode cX3_readNumbers 6 = .ok (.if_icmp .ge 70, 3) := by decide +kernel
theorem dX3_readNumbers_9 : decode cX3_readNumbers 9 = .ok (.iload 4, 2) := by decide +kernel
theorem dX3_readNumbers_11 : decode cX3_readNumbers 11 = .ok (.bipush 11, 2) := by decide +kernel
theorem dX3_readNumbers_13 : decode cX3_readNumbers 13 = .ok (.if_icmp .ge 63, 3) := by decide +kernel
theorem dX3_readNumbers_16 : decode cX3_readNumbers 16 = .ok (.iload 4, 2) := by decide +kernel
theorem dX3_readNumbers_18 : decode cX3_readNumbers 18 = .ok (.ifCond .le 14, 3) := by decide +kernel
theorem dX3_readNumbers_21 : decode cX3_readNumbers 21 = .ok (.aload_n 0, 1) := by decide +kernel
theorem dX3_readNumbers_22 : decode cX3_readNumbers 22 = .ok (.bipush 44, 2) := by decide +kernel
theorem dX3_readNumbers_24 : decode cX3_readNumbers 24 = .ok (.invokevirtual 73, 3) := by decide +kernel
theorem dX3_readNumbers_27 : decode cX3_readNumbers 27 = .ok (.ifCond .ne 5, 3) := by decide +kernel
theorem dX3_readNumbers_30 : decode cX3_readNumbers 30 = .ok (.iconst 0, 1) := by decide +kernel
theorem dX3_readNumbers_31 : decode cX3_readNumbers 31 = .ok (.ireturn, 1) := by decide +kernel
theorem dX3_readNumbers_32 : decode cX3_readNumbers 32 = .ok (.iload_n 2, 1) := by decide +kernel
theorem dX3_readNumbers_33 : decode cX3_readNumbers 33 = .ok (.iload 4, 2) := by decide +kernel
theorem dX3_readNumbers_35 : decode cX3_readNumbers 35 = .ok (.iadd, 1) := by decide +kernel
theorem dX3_readNumbers_36 : decode cX3_readNumbers 36 = .ok (.iconst 2, 1) := by decide +kernel
theorem dX3_readNumbers_37 : decode cX3_readNumbers 37 = .ok (.imul, 1) := by decide +kernel
theorem dX3_readNumbers_38 : decode cX3_readNumbers 38 = .ok (.istore 5, 2) := by decide +kernel
theorem dX3_readNumbers_40 : decode cX3_readNumbers 40 = .ok (.iload 5, 2) := by decide +kernel
theorem dX3_readNumbers_42 : decode cX3_readNumbers 42 = .ok (.iconst 1, 1) := by decide +kernel
theorem dX3_readNumbers_43 : decode cX3_readNumbers 43 = .ok (.iadd, 1) := by decide +kernel
theorem dX3_readNumbers_44 : decode cX3_readNumbers 44 = .ok (.aload_n 1, 1) := by decide +kernel
theorem dX3_readNumbers_45 : decode cX3_readNumbers 45 = .ok (.arraylength, 1) := by decide +kernel
theorem dX3_readNumbers_46 : decode cX3_readNumbers 46 = .ok (.if_icmp .ge 22, 3) := by decide +kernel
theorem dX3_readNumbers_49 : decode cX3_readNumbers 49 = .ok (.aload_n 0, 1) := by decide +kernel
theorem dX3_readNumbers_50 : decode cX3_readNumbers 50 = .ok (.iload 4, 2) := by decide +kernel
theorem dX3_readNumbers_52 : decode cX3_readNumbers 52 = .ok (.aload_n 1, 1) := by decide +kernel
theorem dX3_readNumbers_53 : decode cX3_readNumbers 53 = .ok (.iload 5, 2) := by decide +kernel
theorem dX3_readNumbers_55 : decode cX3_readNumbers 55 = .ok (.iaload, 1) := by decide +kernel
theorem dX3_readNumbers_56 : decode cX3_readNumbers 56 = .ok (.aload_n 1, 1) := by decide +kernel
theorem dX3_readNumbers_57 : decode cX3_readNumbers 57 = .ok (.iload 5, 2) := by decide +kernel
theorem dX3_readNumbers_59 : decode cX3_readNumbers 59 = .ok (.iconst 1, 1) := by decide +kernel
theorem dX3_readNumbers_60 : decode cX3_readNumbers 60 = .ok (.iadd, 1) := by decide +kernel
theorem dX3_readNumbers_61 : decode cX3_readNumbers 61 = .ok (.iaload, 1) := by decide +kernel
theorem dX3_readNumbers_62 : decode cX3_readNumbers 62 = .ok (.invokevirtual 111, 3) := by decide +kernel
theorem dX3_readNumbers_65 : decode cX3_readNumbers 65 = .ok (.ifCond .ne 5, 3) := by decide +kernel
theorem dX3_readNumbers_68 : decode cX3_readNumbers 68 = .ok (.iconst 0, 1) := by decide +kernel
theorem dX3_readNumbers_69 : decode cX3_readNumbers 69 = .ok (.ireturn, 1) := by decide +kernel
theorem dX3_readNumbers_70 : decode cX3_readNumbers 70 = .ok (.iinc 4 1, 3) := by decide +kernel
theorem dX3_readNumbers_73 : decode cX3_readNumbers 73 = .ok (.goto (-70), 3) := by decide +kernel
theorem dX3_readNumbers_76 : decode cX3_readNumbers 76 = .ok (.iconst 1, 1) := by decide +kernel
theorem dX3_readNumbers_77 : decode cX3_readNumbers 77 = .ok (.ireturn, 1) := by decide +kernel
theorem dX3_readNumber_0 : decode cX3_readNumber 0 = .ok (.aload_n 0, 1) := by decide +kernel
theorem dX3_readNumber_1 : decode cX3_readNumber 1 = .ok (.invokevirtual 95, 3) := by decide +kernel
theorem dX3_readNumber_4 : decode cX3_readNumber 4 = .ok (.aload_n 0, 1) := by decide +kernel
theorem dX3_readNumber_5 : decode cX3_readNumber 5 = .ok (.getfield 19, 3) := by decide +kernel
theorem dX3_readNumber_8 : decode cX3_readNumber 8 = .ok (.aload_n 0, 1) := by decide +kernel
theorem dX3_readNumber_9 : decode cX3_readNumber 9 = .ok (.getfield 9, 3) := by decide +kernel
theorem dX3_readNumber_12 : decode cX3_readNumber 12 = .ok (.getfield 68, 3) := by decide +kernel
theorem dX3_readNumber_15 : decode cX3_readNumber 15 = .ok (.if_icmp .ge 24, 3) := by decide +kernel
theorem dX3_readNumber_18 : decode cX3_readNumber 18 = .ok (.aload_n 0, 1) := by decide +kernel
theorem dX3_readNumber_19 : decode cX3_readNumber 19 = .ok (.getfield 9, 3) := by decide +kernel
theorem dX3_readNumber_22 : decode cX3_readNumber 22 = .ok (.getfield 91, 3) := by decide +kernel
theorem dX3_readNumber_25 : decode cX3_readNumber 25 = .ok (.aload_n 0, 1) := by decide +kernel
theorem dX3_readNumber_26 : decode cX3_readNumber 26 = .ok (.getfield 19, 3) := by decide +kernel
theorem dX3_readNumber_29 : decode cX3_readNumber 29 = .ok (.caload, 1) := by decide +kernel
theorem dX3_readNumber_30 : decode cX3_readNumber 30 = .ok (.bipush 45, 2) := by decide +kernel
theorem dX3_readNumber_32 : decode cX3_readNumber 32 = .ok (.if_icmp .ne 7, 3) := by decide +kernel
theorem dX3_readNumber_35 : decode cX3_readNumber 35 = .ok (.iconst 1, 1) := by decide +kernel
theorem dX3_readNumber_36 : decode cX3_readNumber 36 = .ok (.goto 4, 3) := by decide +kernel
theorem dX3_readNumber_39 : decode cX3_readNumber 39 = .ok (.iconst 0, 1) := by decide +kernel
theorem dX3_readNumber_40 : decode cX3_readNumber 40 = .ok (.istore 4, 2) := by decide +kernel
theorem dX3_readNumber_42 : decode cX3_readNumber 42 = .ok (.iload 4, 2) := by decide +kernel
theorem dX3_readNumber_44 : decode cX3_readNumber 44 = .ok (.ifCond .eq 13, 3) := by decide +kernel
theorem dX3_readNumber_47 : decode cX3_readNumber 47 = .ok (.aload_n 0, 1) := by decide +kernel
theorem dX3_readNumber_48 : decode cX3_readNumber 48 = .ok (.dup, 1) := by decide +kernel
theorem dX3_readNumber_49 : decode cX3_readNumber 49 = .ok (.getfield 19, 3) := by decide +kernel
theorem dX3_readNumber_52 : decode cX3_readNumber 52 = .ok (.iconst 1, 1) := by decide +kernel
theorem dX3_readNumber_53 : decode cX3_readNumber 53 = .ok (.iadd, 1) := by decide +kernel
theorem dX3_readNumber_54 : decode cX3_readNumber 54 = .ok (.putfield 19, 3) := by decide +kernel
theorem dX3_readNumber_57 : decode cX3_readNumber 57 = .ok (.aload_n 0, 1) := by decide +kernel
theorem dX3_readNumber_58 : decode cX3_readNumber 58 = .ok (.getfield 19, 3) := by decide +kernel
theorem dX3_readNumber_61 : decode cX3_readNumber 61 = .ok (.istore 5, 2) := by decide +kernel
theorem dX3_readNumber_63 : decode cX3_readNumber 63 = .ok (.iconst 0, 1) := by decide +kernel
theorem dX3_readNumber_64 : decode cX3_readNumber 64 = .ok (.istore 6, 2) := by decide +kernel
theorem dX3_readNumber_66 : decode cX3_readNumber 66 = .ok (.aload_n 0, 1) := by decide +kernel
theorem dX3_readNumber_67 : decode cX3_readNumber 67 = .ok (.getfield 19, 3) := by decide +kernel
theorem dX3_readNumber_70 : decode cX3_readNumber 70 = .ok (.aload_n 0, 1) := by decide +kernel
theorem dX3_readNumber_71 : decode cX3_readNumber 71 = .ok (.getfield 9, 3) := by decide +kernel
theorem dX3_readNumber_74 : decode cX3_readNumber 74 = .ok (.getfield 68, 3) := by decide +kernel
theorem dX3_readNumber_77 : decode cX3_readNumber 77 = .ok (.if_icmp .ge 78, 3) := by decide +kernel
theorem dX3_readNumber_80 : decode cX3_readNumber 80 = .ok (.aload_n 0, 1) := by decide +kernel
theorem dX3_readNumber_81 : decode cX3_readNumber 81 = .ok (.getfield 9, 3) := by decide +kernel
theorem dX3_readNumber_84 : decode cX3_readNumber 84 = .ok (.getfield 91, 3) := by decide +kernel
theorem dX3_readNumber_87 : decode cX3_readNumber 87 = .ok (.aload_n 0, 1) := by decide +kernel
theorem dX3_readNumber_88 : decode cX3_readNumber 88 = .ok (.getfield 19, 3) := by decide +kernel
theorem dX3_readNumber_91 : decode cX3_readNumber 91 = .ok (.caload, 1) := by decide +kernel
theorem dX3_readNumber_92 : decode cX3_readNumber 92 = .ok (.bipush 48, 2) := by decide +kernel
theorem dX3_readNumber_94 : decode cX3_readNumber 94 = .ok (.if_icmp .lt 61, 3) := by decide +kernel
theorem dX3_readNumber_97 : decode cX3_readNumber 97 = .ok (.aload_n 0, 1) := by decide +kernel
theorem dX3_readNumber_98 : decode cX3_readNumber 98 = .ok (.getfield 9, 3) := by decide +kernel
theorem dX3_readNumber_101 : decode cX3_readNumber 101 = .ok (.getfield 91, 3) := by decide +kernel
theorem dX3_readNumber_104 : decode cX3_readNumber 104 = .ok (.aload_n 0, 1) := by decide +kernel
theorem dX3_readNumber_105 : decode cX3_readNumber 105 = .ok (.getfield 19, 3) := by decide +kernel
theorem dX3_readNumber_108 : decode cX3_readNumber 108 = .ok (.caload, 1) := by decide +kernel
theorem dX3_readNumber_109 : decode cX3_readNumber 109 = .ok (.bipush 57, 2) := by decide +kernel
theorem dX3_readNumber_111 : decode cX3_readNumber 111 = .ok (.if_icmp .gt 44, 3) := by decide +kernel
theorem dX3_readNumber_114 : decode cX3_readNumber 114 = .ok (.iload 6, 2) := by decide +kernel
theorem dX3_readNumber_116 : decode cX3_readNumber 116 = .ok (.bipush 10, 2) := by decide +kernel
theorem dX3_readNumber_118 : decode cX3_readNumber 118 = .ok (.imul, 1) := by decide +kernel
theorem dX3_readNumber_119 : decode cX3_readNumber 119 = .ok (.aload_n 0, 1) := by decide +kernel
theorem dX3_readNumber_120 : decode cX3_readNumber 120 = .ok (.getfield 9, 3) := by decide +kernel
theorem dX3_readNumber_123 : decode cX3_readNumber 123 = .ok (.getfield 91, 3) := by decide +kernel
theorem dX3_readNumber_126 : decode cX3_readNumber 126 = .ok (.aload_n 0, 1) := by decide +kernel
theorem dX3_readNumber_127 : decode cX3_readNumber 127 = .ok (.getfield 19, 3) := by decide +kernel
theorem dX3_readNumber_130 : decode cX3_readNumber 130 = .ok (.caload, 1) := by decide +kernel
theorem dX3_readNumber_131 : decode cX3_readNumber 131 = .ok (.bipush 48, 2) := by decide +kernel
theorem dX3_readNumber_133 : decode cX3_readNumber 133 = .ok (.isub, 1) := by decide +kernel
theorem dX3_readNumber_134 : decode cX3_readNumber 134 = .ok (.iadd, 1) := by decide +kernel
theorem dX3_readNumber_135 : decode cX3_readNumber 135 = .ok (.ldc 115, 2) := by decide +kernel
theorem dX3_readNumber_137 : decode cX3_readNumber 137 = .ok (.invokestatic 116, 3) := by decide +kernel
theorem dX3_readNumber_140 : decode cX3_readNumber 140 = .ok (.istore 6, 2) := by decide +kernel
theorem dX3_readNumber_142 : decode cX3_readNumber 142 = .ok (.aload_n 0, 1) := by decide +kernel
theorem dX3_readNumber_143 : decode cX3_readNumber 143 = .ok (.dup, 1) := by decide +kernel
theorem dX3_readNumber_144 : decode cX3_readNumber 144 = .ok (.getfield 19, 3) := by decide +kernel
theorem dX3_readNumber_147 : decode cX3_readNumber 147 = .ok (.iconst 1, 1) := by decide +kernel
theorem dX3_readNumber_148 : decode cX3_readNumber 148 = .ok (.iadd, 1) := by decide +kernel
theorem dX3_readNumber_149 : decode cX3_readNumber 149 = .ok (.putfield 19, 3) := by decide +kernel
theorem dX3_readNumber_152 : decode cX3_readNumber 152 = .ok (.goto (-86), 3) := by decide +kernel
theorem dX3_readNumber_155 : decode cX3_readNumber 155 = .ok (.aload_n 0, 1) := by decide +kernel
theorem dX3_readNumber_156 : decode cX3_readNumber 156 = .ok (.getfield 15, 3) := by decide +kernel
theorem dX3_readNumber_159 : decode cX3_readNumber 159 = .ok (.iload_n 1, 1) := by decide +kernel
theorem dX3_readNumber_160 : decode cX3_readNumber 160 = .ok (.iload 4, 2) := by decide +kernel
theorem dX3_readNumber_162 : decode cX3_readNumber 162 = .ok (.ifCond .eq 9, 3) := by decide +kernel
theorem dX3_readNumber_165 : decode cX3_readNumber 165 = .ok (.iload 6, 2) := by decide +kernel
theorem dX3_readNumber_167 : decode cX3_readNumber 167 = .ok (.ineg, 1) := by decide +kernel
theorem dX3_readNumber_168 : decode cX3_readNumber 168 = .ok (.goto 5, 3) := by decide +kernel
theorem dX3_readNumber_171 : decode cX3_readNumber 171 = .ok (.iload 6, 2) := by decide +kernel
theorem dX3_readNumber_173 : decode cX3_readNumber 173 = .ok (.iastore, 1) := by decide +kernel
theorem dX3_readNumber_174 : decode cX3_readNumber 174 = .ok (.aload_n 0, 1) := by decide +kernel
theorem dX3_readNumber_175 : decode cX3_readNumber 175 = .ok (.getfield 19, 3) := by decide +kernel
theorem dX3_readNumber_178 : decode cX3_readNumber 178 = .ok (.iload 5, 2) := by decide +kernel
theorem dX3_readNumber_180 : decode cX3_readNumber 180 = .ok (.if_icmp .le 27, 3) := by decide +kernel
theorem dX3_readNumber_183 : decode cX3_readNumber 183 = .ok (.aload_n 0, 1) := by decide +kernel
theorem dX3_readNumber_184 : decode cX3_readNumber 184 = .ok (.getfield 15, 3) := by decide +kernel
theorem dX3_readNumber_187 : decode cX3_readNumber 187 = .ok (.iload_n 1, 1) := by decide +kernel
theorem dX3_readNumber_188 : decode cX3_readNumber 188 = .ok (.iaload, 1) := by decide +kernel
theorem dX3_readNumber_189 : decode cX3_readNumber 189 = .ok (.iload_n 2, 1) := by decide +kernel
theorem dX3_readNumber_190 : decode cX3_readNumber 190 = .ok (.if_icmp .lt 17, 3) := by decide +kernel
theorem dX3_readNumber_193 : decode cX3_readNumber 193 = .ok (.aload_n 0, 1) := by decide +kernel
theorem dX3_readNumber_194 : decode cX3_readNumber 194 = .ok (.getfield 15, 3) := by decide +kernel
theorem dX3_readNumber_197 : decode cX3_readNumber 197 = .ok (.iload_n 1, 1) := by decide +kernel
theorem dX3_readNumber_198 : decode cX3_readNumber 198 = .ok (.iaload, 1) := by decide +kernel
theorem dX3_readNumber_199 : decode cX3_readNumber 199 = .ok (.iload_n 3, 1) := by decide +kernel
theorem dX3_readNumber_200 : decode cX3_readNumber 200 = .ok (.if_icmp .gt 7, 3) := by decide +kernel
theorem dX3_readNumber_203 : decode cX3_readNumber 203 = .ok (.iconst 1, 1) := by decide +kernel
theorem dX3_readNumber_204 : decode cX3_readNumber 204 = .ok (.goto 4, 3) := by decide +kernel
theorem dX3_readNumber_207 : decode cX3_readNumber 207 = .ok (.iconst 0, 1) := by decide +kernel
theorem dX3_readNumber_208 : decode cX3_readNumber 208 = .ok (.ireturn, 1) := by decide +kernel
theorem dX4_init_0 : decode cX4_init 0 = .ok (.aload_n 0, 1) := by decide +kernel
theorem dX4_init_1 : decode cX4_init 1 = .ok (.invokespecial 3, 3) := by decide +kernel
theorem dX4_init_4 : decode cX4_init 4 = .ok (.aload_n 0, 1) := by decide +kernel
theorem dX4_init_5 : decode cX4_init 5 = .ok (.iconst 4, 1) := by decide +kernel
theorem dX4_init_6 : decode cX4_init 6 = .ok (.newarray .int, 2) := by decide +kernel
theorem dX4_init_8 : decode cX4_init 8 = .ok (.putfield 9, 3) := by decide +kernel
theorem dX4_init_11 : decode cX4_init 11 = .ok (.aload_n 0, 1) := by decide +kernel
theorem dX4_init_12 : decode cX4_init 12 = .ok (.bipush 10, 2) := by decide +kernel
theorem dX4_init_14 : decode cX4_init 14 = .ok (.newarray .int, 2) := by decide +kernel
theorem dX4_init_16 : decode cX4_init 16 = .ok (.putfield 15, 3) := by decide +kernel
theorem dX4_init_19 : decode cX4_init 19 = .ok (.aload_n 0, 1) := by decide +kernel
theorem dX4_init_20 : decode cX4_init 20 = .ok (.bipush 10, 2) := by decide +kernel
theorem dX4_init_22 : decode cX4_init 22 = .ok (.newarray .int, 2) := by decide +kernel
theorem dX4_init_24 : decode cX4_init 24 = .ok (.putfield 18, 3) := by decide +kernel
theorem dX4_init_27 : decode cX4_init 27 = .ok (.aload_n 0, 1) := by decide +kernel
theorem dX4_init_28 : decode cX4_init 28 = .ok (.bipush 10, 2) := by decide +kernel
theorem dX4_init_30 : decode cX4_init 30 = .ok (.newarray .int, 2) := by decide +kernel
theorem dX4_init_32 : decode cX4_init 32 = .ok (.putfield 21, 3) := by decide +kernel
theorem dX4_init_35 : decode cX4_init 35 = .ok (.aload_n 0, 1) := by decide +kernel
theorem dX4_init_36 : decode cX4_init 36 = .ok (.bipush 30, 2) := by decide +kernel
theorem dX4_init_38 : decode cX4_init 38 = .ok (.newarray .int, 2) := by decide +kernel
theorem dX4_init_40 : decode cX4_init 40 = .ok (.putfield 24, 3) := by decide +kernel
theorem dX4_init_43 : decode cX4_init 43 = .ok (.aload_n 0, 1) := by decide +kernel
theorem dX4_init_44 : decode cX4_init 44 = .ok (.bipush 60, 2) := by decide +kernel
theorem dX4_init_46 : decode cX4_init 46 = .ok (.newarray .int, 2) := by decide +kernel
theorem dX4_init_48 : decode cX4_init 48 = .ok (.putfield 27, 3) := by decide +kernel
theorem dX4_init_51 : decode cX4_init 51 = .ok (.aload_n 0, 1) := by decide +kernel
theorem dX4_init_52 : decode cX4_init 52 = .ok (.invokevirtual 30, 3) := by decide +kernel
theorem dX4_init_55 : decode cX4_init 55 = .ok (.return_, 1) := by decide +kernel
theorem dX4_reset_0 : decode cX4_reset 0 = .ok (.aload_n 0, 1) := by decide +kernel
theorem dX4_reset_1 : decode cX4_reset 1 = .ok (.bipush 8, 2) := by decide +kernel
theorem dX4_reset_3 : decode cX4_reset 3 = .ok (.putfield 33, 3) := by decide +kernel
theorem dX4_reset_6 : decode cX4_reset 6 = .ok (.aload_n 0, 1) := by decide +kernel
theorem dX4_reset_7 : decode cX4_reset 7 = .ok (.bipush 8, 2) := by decide +kernel
theorem dX4_reset_9 : decode cX4_reset 9 = .ok (.putfield 37, 3) := by decide +kernel
theorem dX4_reset_12 : decode cX4_reset 12 = .ok (.aload_n 0, 1) := by decide +kernel
theorem dX4_reset_13 : decode cX4_reset 13 = .ok (.iconst 4, 1) := by decide +kernel
theorem dX4_reset_14 : decode cX4_reset 14 = .ok (.putfield 40, 3) := by decide +kernel
theorem dX4_reset_17 : decode cX4_reset 17 = .ok (.aload_n 0, 1) := by decide +kernel
theorem dX4_reset_18 : decode cX4_reset 18 = .ok (.iconst 1, 1) := by decide +kernel
theorem dX4_reset_19 : decode cX4_reset 19 = .ok (.putfield 43, 3) := by decide +kernel
theorem dX4_reset_22 : decode cX4_reset 22 = .ok (.aload_n 0, 1) := by decide +kernel
theorem dX4_reset_23 : decode cX4_reset 23 = .ok (.iconst 0, 1) := by decide +kernel
theorem dX4_reset_24 : decode cX4_reset 24 = .ok (.putfield 46, 3) := by decide +kernel
theorem dX4_reset_27 : decode cX4_reset 27 = .ok (.aload_n 0, 1) := by decide +kernel
theorem dX4_reset_28 : decode cX4_reset 28 = .ok (.iconst 0, 1) := by decide +kernel
theorem dX4_reset_29 : decode cX4_reset 29 = .ok (.putfield 49, 3) := by decide +kernel
theorem dX4_reset_32 : decode cX4_reset 32 = .ok (.aload_n 0, 1) := by decide +kernel
theorem dX4_reset_33 : decode cX4_reset 33 = .ok (.getfield 9, 3) := by decide +kernel
theorem dX4_reset_36 : decode cX4_reset 36 = .ok (.iconst 0, 1) := by decide +kernel
theorem dX4_reset_37 : decode cX4_reset 37 = .ok (.iconst 0, 1) := by decide +kernel
theorem dX4_reset_38 : decode cX4_reset 38 = .ok (.iastore, 1) := by decide +kernel
theorem dX4_reset_39 : decode cX4_reset 39 = .ok (.aload_n 0, 1) := by decide +kernel
theorem dX4_reset_40 : decode cX4_reset 40 = .ok (.getfield 9, 3) := by decide +kernel
theorem dX4_reset_43 : decode cX4_reset 43 = .ok (.iconst 1, 1) := by decide +kernel
theorem dX4_reset_44 : decode cX4_reset 44 = .ok (.iconst 0, 1) := by decide +kernel
theorem dX4_reset_45 : decode cX4_reset 45 = .ok (.iastore, 1) := by decide +kernel
theorem dX4_reset_46 : decode cX4_reset 46 = .ok (.aload_n 0, 1) := by decide +kernel
theorem dX4_reset_47 : decode cX4_reset 47 = .ok (.getfield 9, 3) := by decide +kernel
theorem dX4_reset_50 : decode cX4_reset 50 = .ok (.iconst 2, 1) := by decide +kernel
theorem dX4_reset_51 : decode cX4_reset 51 = .ok (.iconst 1, 1) := by decide +kernel
theorem dX4_reset_52 : decode cX4_reset 52 = .ok (.iastore, 1) := by decide +kernel
theorem dX4_reset_53 : decode cX4_reset 53 = .ok (.aload_n 0, 1) := by decide +kernel
theorem dX4_reset_54 : decode cX4_reset 54 = .ok (.getfield 9, 3) := by decide +kernel
theorem dX4_reset_57 : decode cX4_reset 57 = .ok (.iconst 3, 1) := by decide +kernel
theorem dX4_reset_58 : decode cX4_reset 58 = .ok (.bipush 10, 2) := by decide +kernel
theorem dX4_reset_60 : decode cX4_reset 60 = .ok (.iastore, 1) := by decide +kernel
theorem dX4_reset_61 : decode cX4_reset 61 = .ok (.return_, 1) := by decide +kernel
theorem dX4_has_0 : decode cX4_has 0 = .ok (.iload_n 1, 1) := by decide +kernel
theorem dX4_has_1 : decode cX4_has 1 = .ok (.ifCond .lt 15, 3) := by decide +kernel
theorem dX4_has_4 : decode cX4_has 4 = .ok (.iload_n 1, 1) := by decide +kernel
theorem dX4_has_5 : decode cX4_has 5 = .ok (.aload_n 0, 1) := by decide +kernel
theorem dX4_has_6 : decode cX4_has 6 = .ok (.getfield 49, 3) := by decide +kernel
theorem dX4_has_9 : decode cX4_has 9 = .ok (.if_icmp .ge 7, 3) := by decide +kernel
theorem dX4_has_12 : decode cX4_has 12 = .ok (.iconst 1, 1) := by decide +kernel
theorem dX4_has_13 : decode cX4_has 13 = .ok (.goto 4, 3) := by decide +kernel
theorem dX4_has_16 : decode cX4_has 16 = .ok (.iconst 0, 1) := by decide +kernel
theorem dX4_has_17 : decode cX4_has 17 = .ok (.ireturn, 1) := by decide +kernel
theorem dX4_take_0 : decode cX4_take 0 = .ok (.iload_n 1, 1) := by decide +kernel
theorem dX4_take_1 : decode cX4_take 1 = .ok (.tableswitch 142 0 7 #[47, 64, 74, 84, 94, 106, 118, 130], 47) := by decide +kernel
theorem dX4_take_48 : decode cX4_take 48 = .ok (.aload_n 0, 1) := by decide +kernel
theorem dX4_take_49 : decode cX4_take 49 = .ok (.aload_n 3, 1) := by decide +kernel
theorem dX4_take_50 : decode cX4_take 50 = .ok (.iconst 0, 1) := by decide +kernel
theorem dX4_take_51 : decode cX4_take 51 = .ok (.iaload, 1) := by decide +kernel
theorem dX4_take_52 : decode cX4_take 52 = .ok (.putfield 33, 3) := by decide +kernel
theorem dX4_take_55 : decode cX4_take 55 = .ok (.aload_n 0, 1) := by decide +kernel
theorem dX4_take_56 : decode cX4_take 56 = .ok (.aload_n 3, 1) := by decide +kernel
theorem dX4_take_57 : decode cX4_take 57 = .ok (.iconst 1, 1) := by decide +kernel
theorem dX4_take_58 : decode cX4_take 58 = .ok (.iaload, 1) := by decide +kernel
theorem dX4_take_59 : decode cX4_take 59 = .ok (.putfield 37, 3) := by decide +kernel
theorem dX4_take_62 : decode cX4_take 62 = .ok (.goto 87, 3) := by decide +kernel
theorem dX4_take_65 : decode cX4_take 65 = .ok (.aload_n 0, 1) := by decide +kernel
theorem dX4_take_66 : decode cX4_take 66 = .ok (.aload_n 3, 1) := by decide +kernel
theorem dX4_take_67 : decode cX4_take 67 = .ok (.iconst 0, 1) := by decide +kernel
theorem dX4_take_68 : decode cX4_take 68 = .ok (.iaload, 1) := by decide +kernel
theorem dX4_take_69 : decode cX4_take 69 = .ok (.putfield 40, 3) := by decide +kernel
theorem dX4_take_72 : decode cX4_take 72 = .ok (.goto 77, 3) := by decide +kernel
theorem dX4_take_75 : decode cX4_take 75 = .ok (.aload_n 0, 1) := by decide +kernel
theorem dX4_take_76 : decode cX4_take 76 = .ok (.aload_n 3, 1) := by decide +kernel
theorem dX4_take_77 : decode cX4_take 77 = .ok (.iconst 0, 1) := by decide +kernel
theorem dX4_take_78 : decode cX4_take 78 = .ok (.iaload, 1) := by decide +kernel
theorem dX4_take_79 : decode cX4_take 79 = .ok (.putfield 43, 3) := by decide +kernel
theorem dX4_take_82 : decode cX4_take 82 = .ok (.goto 67, 3) := by decide +kernel
theorem dX4_take_85 : decode cX4_take 85 = .ok (.aload_n 0, 1) := by decide +kernel
theorem dX4_take_86 : decode cX4_take 86 = .ok (.aload_n 3, 1) := by decide +kernel
theorem dX4_take_87 : decode cX4_take 87 = .ok (.iconst 0, 1) := by decide +kernel
theorem dX4_take_88 : decode cX4_take 88 = .ok (.iaload, 1) := by decide +kernel
theorem dX4_take_89 : decode cX4_take 89 = .ok (.putfield 46, 3) := by decide +kernel
theorem dX4_take_92 : decode cX4_take 92 = .ok (.goto 57, 3) := by decide +kernel
theorem dX4_take_95 : decode cX4_take 95 = .ok (.aload_n 0, 1) := by decide +kernel
theorem dX4_take_96 : decode cX4_take 96 = .ok (.getfield 9, 3) := by decide +kernel
theorem dX4_take_99 : decode cX4_take 99 = .ok (.iconst 0, 1) := by decide +kernel
theorem dX4_take_100 : decode cX4_take 100 = .ok (.aload_n 3, 1) := by decide +kernel
theorem dX4_take_101 : decode cX4_take 101 = .ok (.iconst 0, 1) := by decide +kernel
theorem dX4_take_102 : decode cX4_take 102 = .ok (.iaload, 1) := by decide +kernel
theorem dX4_take_103 : decode cX4_take 103 = .ok (.iastore, 1) := by decide +kernel
theorem dX4_take_104 : decode cX4_take 104 = .ok (.goto 45, 3) := by decide +kernel
theorem dX4_take_107 : decode cX4_take 107 = .ok (.aload_n 0, 1) := by decide +kernel
theorem dX4_take_108 : decode cX4_take 108 = .ok (.getfield 9, 3) := by decide +kernel
theorem dX4_take_111 : decode cX4_take 111 = .ok (.iconst 1, 1) := by decide +kernel
theorem dX4_take_112 : decode cX4_take 112 = .ok (.aload_n 3, 1) := by decide +kernel
theorem dX4_take_113 : decode cX4_take 113 = .ok (.iconst 0, 1) := by decide +kernel
theorem dX4_take_114 : decode cX4_take 114 = .ok (.iaload, 1) := by decide +kernel
theorem dX4_take_115 : decode cX4_take 115 = .ok (.iastore, 1) := by decide +kernel
theorem dX4_take_116 : decode cX4_take 116 = .ok (.goto 33, 3) := by decide +kernel
theorem dX4_take_119 : decode cX4_take 119 = .ok (.aload_n 0, 1) := by decide +kernel
theorem dX4_take_120 : decode cX4_take 120 = .ok (.getfield 9, 3) := by decide +kernel
theorem dX4_take_123 : decode cX4_take 123 = .ok (.iconst 2, 1) := by decide +kernel
theorem dX4_take_124 : decode cX4_take 124 = .ok (.aload_n 3, 1) := by decide +kernel
theorem dX4_take_125 : decode cX4_take 125 = .ok (.iconst 0, 1) := by decide +kernel
theorem dX4_take_126 : decode cX4_take 126 = .ok (.iaload, 1) := by decide +kernel
theorem dX4_take_127 : decode cX4_take 127 = .ok (.iastore, 1) := by decide +kernel
theorem dX4_take_128 : decode cX4_take 128 = .ok (.goto 21, 3) := by decide +kernel
theorem dX4_take_131 : decode cX4_take 131 = .ok (.aload_n 0, 1) := by decide +kernel
theorem dX4_take_132 : decode cX4_take 132 = .ok (.getfield 9, 3) := by decide +kernel
theorem dX4_take_135 : decode cX4_take 135 = .ok (.iconst 3, 1) := by decide +kernel
theorem dX4_take_136 : decode cX4_take 136 = .ok (.aload_n 3, 1) := by decide +kernel
theorem dX4_take_137 : decode cX4_take 137 = .ok (.iconst 0, 1) := by decide +kernel
theorem dX4_take_138 : decode cX4_take 138 = .ok (.iaload, 1) := by decide +kernel
theorem dX4_take_139 : decode cX4_take 139 = .ok (.iastore, 1) := by decide +kernel
theorem dX4_take_140 : decode cX4_take 140 = .ok (.goto 9, 3) := by decide +kernel
theorem dX4_take_143 : decode cX4_take 143 = .ok (.aload_n 0, 1) := by decide +kernel
theorem dX4_take_144 : decode cX4_take 144 = .ok (.iload_n 2, 1) := by decide +kernel
theorem dX4_take_145 : decode cX4_take 145 = .ok (.aload_n 3, 1) := by decide +kernel
theorem dX4_take_146 : decode cX4_take 146 = .ok (.invokevirtual 52, 3) := by decide +kernel
theorem dX4_take_149 : decode cX4_take 149 = .ok (.return_, 1) := by decide +kernel
theorem dX4_takeTriangle_0 : decode cX4_takeTriangle 0 = .ok (.aload_n 0, 1) := by decide +kernel
theorem dX4_takeTriangle_1 : decode cX4_takeTriangle 1 = .ok (.getfield 49, 3) := by decide +kernel
theorem dX4_takeTriangle_4 : decode cX4_takeTriangle 4 = .ok (.bipush 10, 2) := by decide +kernel
theorem dX4_takeTriangle_6 : decode cX4_takeTriangle 6 = .ok (.if_icmp .lt 4, 3) := by decide +kernel
theorem dX4_takeTriangle_9 : decode cX4_takeTriangle 9 = .ok (.return_, 1) := by decide +kernel
theorem dX4_takeTriangle_10 : decode cX4_takeTriangle 10 = .ok (.iconst 0, 1) := by decide +kernel
theorem dX4_takeTriangle_11 : decode cX4_takeTriangle 11 = .ok (.istore_n 3, 1) := by decide +kernel
theorem dX4_takeTriangle_12 : decode cX4_takeTriangle 12 = .ok (.iload_n 3, 1) := by decide +kernel
theorem dX4_takeTriangle_13 : decode cX4_takeTriangle 13 = .ok (.iconst 3, 1) := by decide +kernel
theorem dX4_takeTriangle_14 : decode cX4_takeTriangle 14 = .ok (.if_icmp .ge 75, 3) := by decide +kernel
theorem dX4_takeTriangle_17 : decode cX4_takeTriangle 17 = .ok (.aload_n 0, 1) := by decide +kernel
theorem dX4_takeTriangle_18 : decode cX4_takeTriangle 18 = .ok (.getfield 27, 3) := by decide +kernel
theorem dX4_takeTriangle_21 : decode cX4_takeTriangle 21 = .ok (.aload_n 0, 1) := by decide +kernel
theorem dX4_takeTriangle_22 : decode cX4_takeTriangle 22 = .ok (.getfield 49, 3) := by decide +kernel
theorem dX4_takeTriangle_25 : decode cX4_takeTriangle 25 = .ok (.bipush 6, 2) := by decide +kernel
theorem dX4_takeTriangle_27 : decode cX4_takeTriangle 27 = .ok (.imul, 1) := by decide +kernel
theorem dX4_takeTriangle_28 : decode cX4_takeTriangle 28 = .ok (.iload_n 3, 1) := by decide +kernel
theorem dX4_takeTriangle_29 : decode cX4_takeTriangle 29 = .ok (.iconst 2, 1) := by decide +kernel
theorem dX4_takeTriangle_30 : decode cX4_takeTriangle 30 = .ok (.imul, 1) := by decide +kernel
theorem dX4_takeTriangle_31 : decode cX4_takeTriangle 31 = .ok (.iadd, 1) := by decide +kernel
theorem dX4_takeTriangle_32 : decode cX4_takeTriangle 32 = .ok (.aload_n 2, 1) := by decide +kernel
theorem dX4_takeTriangle_33 : decode cX4_takeTriangle 33 = .ok (.iload_n 3, 1) := by decide +kernel
theorem dX4_takeTriangle_34 : decode cX4_takeTriangle 34 = .ok (.iconst 3, 1) := by decide +kernel
theorem dX4_takeTriangle_35 : decode cX4_takeTriangle 35 = .ok (.imul, 1) := by decide +kernel
theorem dX4_takeTriangle_36 : decode cX4_takeTriangle 36 = .ok (.iaload, 1) := by decide +kernel
theorem dX4_takeTriangle_37 : decode cX4_takeTriangle 37 = .ok (.iastore, 1) := by decide +kernel
theorem dX4_takeTriangle_38 : decode cX4_takeTriangle 38 = .ok (.aload_n 0, 1) := by decide +kernel
theorem dX4_takeTriangle_39 : decode cX4_takeTriangle 39 = .ok (.getfield 27, 3) := by decide +kernel
theorem dX4_takeTriangle_42 : decode cX4_takeTriangle 42 = .ok (.aload_n 0, 1) := by decide +kernel
theorem dX4_takeTriangle_43 : decode cX4_takeTriangle 43 = .ok (.getfield 49, 3) := by decide +kernel
theorem dX4_takeTriangle_46 : decode cX4_takeTriangle 46 = .ok (.bipush 6, 2) := by decide +kernel
theorem dX4_takeTriangle_48 : decode cX4_takeTriangle 48 = .ok (.imul, 1) := by decide +kernel
theorem dX4_takeTriangle_49 : decode cX4_takeTriangle 49 = .ok (.iload_n 3, 1) := by decide +kernel
theorem dX4_takeTriangle_50 : decode cX4_takeTriangle 50 = .ok (.iconst 2, 1) := by decide +kernel
theorem dX4_takeTriangle_51 : decode cX4_takeTriangle 51 = .ok (.imul, 1) := by decide +kernel
theorem dX4_takeTriangle_52 : decode cX4_takeTriangle 52 = .ok (.iadd, 1) := by decide +kernel
theorem dX4_takeTriangle_53 : decode cX4_takeTriangle 53 = .ok (.iconst 1, 1) := by decide +kernel
theorem dX4_takeTriangle_54 : decode cX4_takeTriangle 54 = .ok (.iadd, 1) := by decide +kernel
theorem dX4_takeTriangle_55 : decode cX4_takeTriangle 55 = .ok (.aload_n 2, 1) := by decide +kernel
theorem dX4_takeTriangle_56 : decode cX4_takeTriangle 56 = .ok (.iload_n 3, 1) := by decide +kernel
theorem dX4_takeTriangle_57 : decode cX4_takeTriangle 57 = .ok (.iconst 3, 1) := by decide +kernel
theorem dX4_takeTriangle_58 : decode cX4_takeTriangle 58 = .ok (.imul, 1) := by decide +kernel
theorem dX4_takeTriangle_59 : decode cX4_takeTriangle 59 = .ok (.iconst 1, 1) := by decide +kernel
theorem dX4_takeTriangle_60 : decode cX4_takeTriangle 60 = .ok (.iadd, 1) := by decide +kernel
theorem dX4_takeTriangle_61 : decode cX4_takeTriangle 61 = .ok (.iaload, 1) := by decide +kernel
theorem dX4_takeTriangle_62 : decode cX4_takeTriangle 62 = .ok (.iastore, 1) := by decide +kernel
theorem dX4_takeTriangle_63 : decode cX4_takeTriangle 63 = .ok (.aload_n 0, 1) := by decide +kernel
theorem dX4_takeTriangle_64 : decode cX4_takeTriangle 64 = .ok (.getfield 24, 3) := by decide +kernel
theorem dX4_takeTriangle_67 : decode cX4_takeTriangle 67 = .ok (.aload_n 0, 1) := by decide +kernel
theorem dX4_takeTriangle_68 : decode cX4_takeTriangle 68 = .ok (.getfield 49, 3) := by decide +kernel
theorem dX4_takeTriangle_71 : decode cX4_takeTriangle 71 = .ok (.iconst 3, 1) := by decide +kernel
theorem dX4_takeTriangle_72 : decode cX4_takeTriangle 72 = .ok (.imul, 1) := by decide +kernel
theorem dX4_takeTriangle_73 : decode cX4_takeTriangle 73 = .ok (.iload_n 3, 1) := by decide +kernel
theorem dX4_takeTriangle_74 : decode cX4_takeTriangle 74 = .ok (.iadd, 1) := by decide +kernel
theorem dX4_takeTriangle_75 : decode cX4_takeTriangle 75 = .ok (.aload_n 2, 1) := by decide +kernel
theorem dX4_takeTriangle_76 : decode cX4_takeTriangle 76 = .ok (.iload_n 3, 1) := by decide +kernel
theorem dX4_takeTriangle_77 : decode cX4_takeTriangle 77 = .ok (.iconst 3, 1) := by decide +kernel
theorem dX4_takeTriangle_78 : decode cX4_takeTriangle 78 = .ok (.imul, 1) := by decide +kernel
theorem dX4_takeTriangle_79 : decode cX4_takeTriangle 79 = .ok (.iconst 2, 1) := by decide +kernel
theorem dX4_takeTriangle_80 : decode cX4_takeTriangle 80 = .ok (.iadd, 1) := by decide +kernel
theorem dX4_takeTriangle_81 : decode cX4_takeTriangle 81 = .ok (.iaload, 1) := by decide +kernel
theorem dX4_takeTriangle_82 : decode cX4_takeTriangle 82 = .ok (.iastore, 1) := by decide +kernel
theorem dX4_takeTriangle_83 : decode cX4_takeTriangle 83 = .ok (.iinc 3 1, 3) := by decide +kernel
theorem dX4_takeTriangle_86 : decode cX4_takeTriangle 86 = .ok (.goto (-74), 3) := by decide +kernel
theorem dX4_takeTriangle_89 : decode cX4_takeTriangle 89 = .ok (.aload_n 0, 1) := by decide +kernel
theorem dX4_takeTriangle_90 : decode cX4_takeTriangle 90 = .ok (.getfield 15, 3) := by decide +kernel
theorem dX4_takeTriangle_93 : decode cX4_takeTriangle 93 = .ok (.aload_n 0, 1) := by decide +kernel
theorem dX4_takeTriangle_94 : decode cX4_takeTriangle 94 = .ok (.getfield 49, 3) := by decide +kernel
theorem dX4_takeTriangle_97 : decode cX4_takeTriangle 97 = .ok (.iload_n 1, 1) := by decide +kernel
theorem dX4_takeTriangle_98 : decode cX4_takeTriangle 98 = .ok (.iastore, 1) := by decide +kernel
theorem dX4_takeTriangle_99 : decode cX4_takeTriangle 99 = .ok (.aload_n 0, 1) := by decide +kernel
theorem dX4_takeTriangle_100 : decode cX4_takeTriangle 100 = .ok (.getfield 18, 3) := by decide +kernel
theorem dX4_takeTriangle_103 : decode cX4_takeTriangle 103 = .ok (.aload_n 0, 1) := by decide +kernel
theorem dX4_takeTriangle_104 : decode cX4_takeTriangle 104 = .ok (.getfield 49, 3) := by decide +kernel
theorem dX4_takeTriangle_107 : decode cX4_takeTriangle 107 = .ok (.aload_n 2, 1) := by decide +kernel
theorem dX4_takeTriangle_108 : decode cX4_takeTriangle 108 = .ok (.bipush 9, 2) := by decide +kernel
theorem dX4_takeTriangle_110 : decode cX4_takeTriangle 110 = .ok (.iaload, 1) := by decide +kernel
theorem dX4_takeTriangle_111 : decode cX4_takeTriangle 111 = .ok (.iastore, 1) := by decide +kernel
theorem dX4_takeTriangle_112 : decode cX4_takeTriangle 112 = .ok (.aload_n 0, 1) := by decide +kernel
theorem dX4_takeTriangle_113 : decode cX4_takeTriangle 113 = .ok (.getfield 21, 3) := by decide +kernel
theorem dX4_takeTriangle_116 : decode cX4_takeTriangle 116 = .ok (.aload_n 0, 1) := by decide +kernel
theorem dX4_takeTriangle_117 : decode cX4_takeTriangle 117 = .ok (.getfield 49, 3) := by decide +kernel
theorem dX4_takeTriangle_120 : decode cX4_takeTriangle 120 = .ok (.aload_n 2, 1) := by decide +kernel
theorem dX4_takeTriangle_121 : decode cX4_takeTriangle 121 = .ok (.bipush 10, 2) := by decide +kernel
theorem dX4_takeTriangle_123 : decode cX4_takeTriangle 123 = .ok (.iaload, 1) := by decide +kernel
theorem dX4_takeTriangle_124 : decode cX4_takeTriangle 124 = .ok (.iastore, 1) := by decide +kernel
theorem dX4_takeTriangle_125 : decode cX4_takeTriangle 125 = .ok (.aload_n 0, 1) := by decide +kernel
theorem dX4_takeTriangle_126 : decode cX4_takeTriangle 126 = .ok (.dup, 1) := by decide +kernel
theorem dX4_takeTriangle_127 : decode cX4_takeTriangle 127 = .ok (.getfield 49, 3) := by decide +kernel
theorem dX4_takeTriangle_130 : decode cX4_takeTriangle 130 = .ok (.iconst 1, 1) := by decide +kernel
theorem dX4_takeTriangle_131 : decode cX4_takeTriangle 131 = .ok (.iadd, 1) := by decide +kernel
theorem dX4_takeTriangle_132 : decode cX4_takeTriangle 132 = .ok (.putfield 49, 3) := by decide +kernel
theorem dX4_takeTriangle_135 : decode cX4_takeTriangle 135 = .ok (.return_, 1) := by decide +kernel
theorem dX4_copyFrom_0 : decode cX4_copyFrom 0 = .ok (.aload_n 0, 1) := by decide +kernel
theorem dX4_copyFrom_1 : decode cX4_copyFrom 1 = .ok (.aload_n 1, 1) := by decide +kernel
theorem dX4_copyFrom_2 : decode cX4_copyFrom 2 = .ok (.getfield 33, 3) := by decide +kernel
theorem dX4_copyFrom_5 : decode cX4_copyFrom 5 = .ok (.putfield 33, 3) := by decide +kernel
theorem dX4_copyFrom_8 : decode cX4_copyFrom 8 = .ok (.aload_n 0, 1) := by decide +kernel
theorem dX4_copyFrom_9 : decode cX4_copyFrom 9 = .ok (.aload_n 1, 1) := by decide +kernel
theorem dX4_copyFrom_10 : decode cX4_copyFrom 10 = .ok (.getfield 37, 3) := by decide +kernel
theorem dX4_copyFrom_13 : decode cX4_copyFrom 13 = .ok (.putfield 37, 3) := by decide +kernel
theorem dX4_copyFrom_16 : decode cX4_copyFrom 16 = .ok (.aload_n 0, 1) := by decide +kernel
theorem dX4_copyFrom_17 : decode cX4_copyFrom 17 = .ok (.aload_n 1, 1) := by decide +kernel
theorem dX4_copyFrom_18 : decode cX4_copyFrom 18 = .ok (.getfield 40, 3) := by decide +kernel
theorem dX4_copyFrom_21 : decode cX4_copyFrom 21 = .ok (.putfield 40, 3) := by decide +kernel
theorem dX4_copyFrom_24 : decode cX4_copyFrom 24 = .ok (.aload_n 0, 1) := by decide +kernel
theorem dX4_copyFrom_25 : decode cX4_copyFrom 25 = .ok (.aload_n 1, 1) := by decide +kernel
theorem dX4_copyFrom_26 : decode cX4_copyFrom 26 = .ok (.getfield 43, 3) := by decide +kernel
theorem dX4_copyFrom_29 : decode cX4_copyFrom 29 = .ok (.putfield 43, 3) := by decide +kernel
theorem dX4_copyFrom_32 : decode cX4_copyFrom 32 = .ok (.aload_n 0, 1) := by decide +kernel
theorem dX4_copyFrom_33 : decode cX4_copyFrom 33 = .ok (.aload_n 1, 1) := by decide +kernel
theorem dX4_copyFrom_34 : decode cX4_copyFrom 34 = .ok (.getfield 46, 3) := by decide +kernel
theorem dX4_copyFrom_37 : decode cX4_copyFrom 37 = .ok (.putfield 46, 3) := by decide +kernel
theorem dX4_copyFrom_40 : decode cX4_copyFrom 40 = .ok (.aload_n 0, 1) := by decide +kernel
theorem dX4_copyFrom_41 : decode cX4_copyFrom 41 = .ok (.aload_n 1, 1) := by decide +kernel
theorem dX4_copyFrom_42 : decode cX4_copyFrom 42 = .ok (.getfield 49, 3) := by decide +kernel
theorem dX4_copyFrom_45 : decode cX4_copyFrom 45 = .ok (.putfield 49, 3) := by decide +kernel
theorem dX4_copyFrom_48 : decode cX4_copyFrom 48 = .ok (.aload_n 1, 1) := by decide +kernel
theorem dX4_copyFrom_49 : decode cX4_copyFrom 49 = .ok (.getfield 9, 3) := by decide +kernel
theorem dX4_copyFrom_52 : decode cX4_copyFrom 52 = .ok (.iconst 0, 1) := by decide +kernel
theorem dX4_copyFrom_53 : decode cX4_copyFrom 53 = .ok (.aload_n 0, 1) := by decide +kernel
theorem dX4_copyFrom_54 : decode cX4_copyFrom 54 = .ok (.getfield 9, 3) := by decide +kernel
theorem dX4_copyFrom_57 : decode cX4_copyFrom 57 = .ok (.iconst 0, 1) := by decide +kernel
theorem dX4_copyFrom_58 : decode cX4_copyFrom 58 = .ok (.aload_n 0, 1) := by decide +kernel
theorem dX4_copyFrom_59 : decode cX4_copyFrom 59 = .ok (.getfield 9, 3) := by decide +kernel
theorem dX4_copyFrom_62 : decode cX4_copyFrom 62 = .ok (.arraylength, 1) := by decide +kernel
theorem dX4_copyFrom_63 : decode cX4_copyFrom 63 = .ok (.invokestatic 56, 3) := by decide +kernel
theorem dX4_copyFrom_66 : decode cX4_copyFrom 66 = .ok (.aload_n 1, 1) := by decide +kernel
theorem dX4_copyFrom_67 : decode cX4_copyFrom 67 = .ok (.getfield 15, 3) := by decide +kernel
theorem dX4_copyFrom_70 : decode cX4_copyFrom 70 = .ok (.iconst 0, 1) := by decide +kernel
theorem dX4_copyFrom_71 : decode cX4_copyFrom 71 = .ok (.aload_n 0, 1) := by decide +kernel
theorem dX4_copyFrom_72 : decode cX4_copyFrom 72 = .ok (.getfield 15, 3) := by decide +kernel
theorem dX4_copyFrom_75 : decode cX4_copyFrom 75 = .ok (.iconst 0, 1) := by decide +kernel
theorem dX4_copyFrom_76 : decode cX4_copyFrom 76 = .ok (.aload_n 0, 1) := by decide +kernel
theorem dX4_copyFrom_77 : decode cX4_copyFrom 77 = .ok (.getfield 15, 3) := by decide +kernel
theorem dX4_copyFrom_80 : decode cX4_copyFrom 80 = .ok (.arraylength, 1) := by decide +kernel
theorem dX4_copyFrom_81 : decode cX4_copyFrom 81 = .ok (.invokestatic 56, 3) := by decide +kernel
theorem dX4_copyFrom_84 : decode cX4_copyFrom 84 = .ok (.aload_n 1, 1) := by decide +kernel
theorem dX4_copyFrom_85 : decode cX4_copyFrom 85 = .ok (.getfield 18, 3) := by decide +kernel
theorem dX4_copyFrom_88 : decode cX4_copyFrom 88 = .ok (.iconst 0, 1) := by decide +kernel
theorem dX4_copyFrom_89 : decode cX4_copyFrom 89 = .ok (.aload_n 0, 1) := by decide +kernel
theorem dX4_copyFrom_90 : decode cX4_copyFrom 90 = .ok (.getfield 18, 3) := by decide +kernel
theorem dX4_copyFrom_93 : decode cX4_copyFrom 93 = .ok (.iconst 0, 1) := by decide +kernel
theorem dX4_copyFrom_94 : decode cX4_copyFrom 94 = .ok (.aload_n 0, 1) := by decide +kernel
theorem dX4_copyFrom_95 : decode cX4_copyFrom 95 = .ok (.getfield 18, 3) := by decide +kernel
theorem dX4_copyFrom_98 : decode cX4_copyFrom 98 = .ok (.arraylength, 1) := by decide +kernel
theorem dX4_copyFrom_99 : decode cX4_copyFrom 99 = .ok (.invokestatic 56, 3) := by decide +kernel
theorem dX4_copyFrom_102 : decode cX4_copyFrom 102 = .ok (.aload_n 1, 1) := by decide +kernel
theorem dX4_copyFrom_103 : decode cX4_copyFrom 103 = .ok (.getfield 21, 3) := by decide +kernel
theorem dX4_copyFrom_106 : decode cX4_copyFrom 106 = .ok (.iconst 0, 1) := by decide +kernel
theorem dX4_copyFrom_107 : decode cX4_copyFrom 107 = .ok (.aload_n 0, 1) := by decide +kernel
theorem dX4_copyFrom_108 : decode cX4_copyFrom 108 = .ok (.getfield 21, 3) := by decide +kernel
theorem dX4_copyFrom_111 : decode cX4_copyFrom 111 = .ok (.iconst 0, 1) := by decide +kernel
theorem dX4_copyFrom_112 : decode cX4_copyFrom 112 = .ok (.aload_n 0, 1) := by decide +kernel
theorem dX4_copyFrom_113 : decode cX4_copyFrom 113 = .ok (.getfield 21, 3) := by decide +kernel
theorem dX4_copyFrom_116 : decode cX4_copyFrom 116 = .ok (.arraylength, 1) := by decide +kernel
theorem dX4_copyFrom_117 : decode cX4_copyFrom 117 = .ok (.invokestatic 56, 3) := by decide +kernel
theorem dX4_copyFrom_120 : decode cX4_copyFrom 120 = .ok (.aload_n 1, 1) := by decide +kernel
theorem dX4_copyFrom_121 : decode cX4_copyFrom 121 = .ok (.getfield 24, 3) := by decide +kernel
theorem dX4_copyFrom_124 : decode cX4_copyFrom 124 = .ok (.iconst 0, 1) := by decide +kernel
theorem dX4_copyFrom_125 : decode cX4_copyFrom 125 = .ok (.aload_n 0, 1) := by decide +kernel
theorem dX4_copyFrom_126 : decode cX4_copyFrom 126 = .ok (.getfield 24, 3) := by decide +kernel
theorem dX4_copyFrom_129 : decode cX4_copyFrom 129 = .ok (.iconst 0, 1) := by decide +kernel
theorem dX4_copyFrom_130 : decode cX4_copyFrom 130 = .ok (.aload_n 0, 1) := by decide +kernel
theorem dX4_copyFrom_131 : decode cX4_copyFrom 131 = .ok (.getfield 24, 3) := by decide +kernel
theorem dX4_copyFrom_134 : decode cX4_copyFrom 134 = .ok (.arraylength, 1) := by decide +kernel
theorem dX4_copyFrom_135 : decode cX4_copyFrom 135 = .ok (.invokestatic 56, 3) := by decide +kernel
theorem dX4_copyFrom_138 : decode cX4_copyFrom 138 = .ok (.aload_n 1, 1) := by decide +kernel
theorem dX4_copyFrom_139 : decode cX4_copyFrom 139 = .ok (.getfield 27, 3) := by decide +kernel
theorem dX4_copyFrom_142 : decode cX4_copyFrom 142 = .ok (.iconst 0, 1) := by decide +kernel
theorem dX4_copyFrom_143 : decode cX4_copyFrom 143 = .ok (.aload_n 0, 1) := by decide +kernel
theorem dX4_copyFrom_144 : decode cX4_copyFrom 144 = .ok (.getfield 27, 3) := by decide +kernel
theorem dX4_copyFrom_147 : decode cX4_copyFrom 147 = .ok (.iconst 0, 1) := by decide +kernel
theorem dX4_copyFrom_148 : decode cX4_copyFrom 148 = .ok (.aload_n 0, 1) := by decide +kernel
theorem dX4_copyFrom_149 : decode cX4_copyFrom 149 = .ok (.getfield 27, 3) := by decide +kernel
theorem dX4_copyFrom_152 : decode cX4_copyFrom 152 = .ok (.arraylength, 1) := by decide +kernel
theorem dX4_copyFrom_153 : decode cX4_copyFrom 153 = .ok (.invokestatic 56, 3) := by decide +kernel
theorem dX4_copyFrom_156 : decode cX4_copyFrom 156 = .ok (.return_, 1) := by decide +kernel
theorem dX5_init_0 : decode cX5_init 0 = .ok (.aload_n 0, 1) := by decide +kernel
theorem dX5_init_1 : decode cX5_init 1 = .ok (.invokespecial 3, 3) := by decide +kernel
theorem dX5_init_4 : decode cX5_init 4 = .ok (.aload_n 0, 1) := by decide +kernel
theorem dX5_init_5 : decode cX5_init 5 = .ok (.bipush 60, 2) := by decide +kernel
theorem dX5_init_7 : decode cX5_init 7 = .ok (.newarray .int, 2) := by decide +kernel
theorem dX5_init_9 : decode cX5_init 9 = .ok (.putfield 9, 3) := by decide +kernel
theorem dX5_init_12 : decode cX5_init 12 = .ok (.aload_n 0, 1) := by decide +kernel
theorem dX5_init_13 : decode cX5_init 13 = .ok (.iconst 0, 1) := by decide +kernel
theorem dX5_init_14 : decode cX5_init 14 = .ok (.putfield 15, 3) := by decide +kernel
theorem dX5_init_17 : decode cX5_init 17 = .ok (.return_, 1) := by decide +kernel
theorem dX5_take_0 : decode cX5_take 0 = .ok (.aload_n 0, 1) := by decide +kernel
theorem dX5_take_1 : decode cX5_take 1 = .ok (.getfield 15, 3) := by decide +kernel
theorem dX5_take_4 : decode cX5_take 4 = .ok (.bipush 12, 2) := by decide +kernel
theorem dX5_take_6 : decode cX5_take 6 = .ok (.if_icmp .lt 4, 3) := by decide +kernel
theorem dX5_take_9 : decode cX5_take 9 = .ok (.return_, 1) := by decide +kernel
theorem dX5_take_10 : decode cX5_take 10 = .ok (.aload_n 0, 1) := by decide +kernel
theorem dX5_take_11 : decode cX5_take 11 = .ok (.getfield 9, 3) := by decide +kernel
theorem dX5_take_14 : decode cX5_take 14 = .ok (.aload_n 0, 1) := by decide +kernel
theorem dX5_take_15 : decode cX5_take 15 = .ok (.getfield 15, 3) := by decide +kernel
theorem dX5_take_18 : decode cX5_take 18 = .ok (.iconst 5, 1) := by decide +kernel
theorem dX5_take_19 : decode cX5_take 19 = .ok (.imul, 1) := by decide +kernel
theorem dX5_take_20 : decode cX5_take 20 = .ok (.iload_n 1, 1) := by decide +kernel
theorem dX5_take_21 : decode cX5_take 21 = .ok (.iastore, 1) := by decide +kernel
theorem dX5_take_22 : decode cX5_take 22 = .ok (.iconst 1, 1) := by decide +kernel
theorem dX5_take_23 : decode cX5_take 23 = .ok (.istore 4, 2) := by decide +kernel
theorem dX5_take_25 : decode cX5_take 25 = .ok (.iload 4, 2) := by decide +kernel
theorem dX5_take_27 : decode cX5_take 27 = .ok (.iconst 5, 1) := by decide +kernel
theorem dX5_take_28 : decode cX5_take 28 = .ok (.if_icmp .ge 39, 3) := by decide +kernel
theorem dX5_take_31 : decode cX5_take 31 = .ok (.aload_n 0, 1) := by decide +kernel
theorem dX5_take_32 : decode cX5_take 32 = .ok (.getfield 9, 3) := by decide +kernel
theorem dX5_take_35 : decode cX5_take 35 = .ok (.aload_n 0, 1) := by decide +kernel
theorem dX5_take_36 : decode cX5_take 36 = .ok (.getfield 15, 3) := by decide +kernel
theorem dX5_take_39 : decode cX5_take 39 = .ok (.iconst 5, 1) := by decide +kernel
theorem dX5_take_40 : decode cX5_take 40 = .ok (.imul, 1) := by decide +kernel
theorem dX5_take_41 : decode cX5_take 41 = .ok (.iload 4, 2) := by decide +kernel
theorem dX5_take_43 : decode cX5_take 43 = .ok (.iadd, 1) := by decide +kernel
theorem dX5_take_44 : decode cX5_take 44 = .ok (.iload 4, 2) := by decide +kernel
theorem dX5_take_46 : decode cX5_take 46 = .ok (.iload_n 3, 1) := by decide +kernel
theorem dX5_take_47 : decode cX5_take 47 = .ok (.if_icmp .gt 12, 3) := by decide +kernel
theorem dX5_take_50 : decode cX5_take 50 = .ok (.aload_n 2, 1) := by decide +kernel
theorem dX5_take_51 : decode cX5_take 51 = .ok (.iload 4, 2) := by decide +kernel
theorem dX5_take_53 : decode cX5_take 53 = .ok (.iconst 1, 1) := by decide +kernel
theorem dX5_take_54 : decode cX5_take 54 = .ok (.isub, 1) := by decide +kernel
theorem dX5_take_55 : decode cX5_take 55 = .ok (.iaload, 1) := by decide +kernel
theorem dX5_take_56 : decode cX5_take 56 = .ok (.goto 4, 3) := by decide +kernel
theorem dX5_take_59 : decode cX5_take 59 = .ok (.iconst 0, 1) := by decide +kernel
theorem dX5_take_60 : decode cX5_take 60 = .ok (.iastore, 1) := by decide +kernel
theorem dX5_take_61 : decode cX5_take 61 = .ok (.iinc 4 1, 3) := by decide +kernel
theorem dX5_take_64 : decode cX5_take 64 = .ok (.goto (-39), 3) := by decide +kernel
theorem dX5_take_67 : decode cX5_take 67 = .ok (.aload_n 0, 1) := by decide +kernel
theorem dX5_take_68 : decode cX5_take 68 = .ok (.dup, 1) := by decide +kernel
theorem dX5_take_69 : decode cX5_take 69 = .ok (.getfield 15, 3) := by decide +kernel
theorem dX5_take_72 : decode cX5_take 72 = .ok (.iconst 1, 1) := by decide +kernel
theorem dX5_take_73 : decode cX5_take 73 = .ok (.iadd, 1) := by decide +kernel
theorem dX5_take_74 : decode cX5_take 74 = .ok (.putfield 15, 3) := by decide +kernel
theorem dX5_take_77 : decode cX5_take 77 = .ok (.return_, 1) := by decide +kernel
theorem dX5_kindOf_0 : decode cX5_kindOf 0 = .ok (.iload_n 1, 1) := by decide +kernel
theorem dX5_kindOf_1 : decode cX5_kindOf 1 = .ok (.ifCond .lt 22, 3) := by decide +kernel
theorem dX5_kindOf_4 : decode cX5_kindOf 4 = .ok (.iload_n 1, 1) := by decide +kernel
theorem dX5_kindOf_5 : decode cX5_kindOf 5 = .ok (.aload_n 0, 1) := by decide +kernel
theorem dX5_kindOf_6 : decode cX5_kindOf 6 = .ok (.getfield 15, 3) := by decide +kernel
theorem dX5_kindOf_9 : decode cX5_kindOf 9 = .ok (.if_icmp .ge 14, 3) := by decide +kernel
theorem dX5_kindOf_12 : decode cX5_kindOf 12 = .ok (.aload_n 0, 1) := by decide +kernel
theorem dX5_kindOf_13 : decode cX5_kindOf 13 = .ok (.getfield 9, 3) := by decide +kernel
theorem dX5_kindOf_16 : decode cX5_kindOf 16 = .ok (.iload_n 1, 1) := by decide +kernel
theorem dX5_kindOf_17 : decode cX5_kindOf 17 = .ok (.iconst 5, 1) := by decide +kernel
theorem dX5_kindOf_18 : decode cX5_kindOf 18 = .ok (.imul, 1) := by decide +kernel
theorem dX5_kindOf_19 : decode cX5_kindOf 19 = .ok (.iaload, 1) := by decide +kernel
theorem dX5_kindOf_20 : decode cX5_kindOf 20 = .ok (.goto 5, 3) := by decide +kernel
theorem dX5_kindOf_23 : decode cX5_kindOf 23 = .ok (.bipush 9, 2) := by decide +kernel
theorem dX5_kindOf_25 : decode cX5_kindOf 25 = .ok (.ireturn, 1) := by decide +kernel
theorem dX5_number_0 : decode cX5_number 0 = .ok (.iload_n 1, 1) := by decide +kernel
theorem dX5_number_1 : decode cX5_number 1 = .ok (.ifCond .lt 33, 3) := by decide +kernel
theorem dX5_number_4 : decode cX5_number 4 = .ok (.iload_n 1, 1) := by decide +kernel
theorem dX5_number_5 : decode cX5_number 5 = .ok (.aload_n 0, 1) := by decide +kernel
theorem dX5_number_6 : decode cX5_number 6 = .ok (.getfield 15, 3) := by decide +kernel
theorem dX5_number_9 : decode cX5_number 9 = .ok (.if_icmp .ge 25, 3) := by decide +kernel
theorem dX5_number_12 : decode cX5_number 12 = .ok (.iload_n 2, 1) := by decide +kernel
theorem dX5_number_13 : decode cX5_number 13 = .ok (.ifCond .lt 21, 3) := by decide +kernel
theorem dX5_number_16 : decode cX5_number 16 = .ok (.iload_n 2, 1) := by decide +kernel
theorem dX5_number_17 : decode cX5_number 17 = .ok (.iconst 5, 1) := by decide +kernel
theorem dX5_number_18 : decode cX5_number 18 = .ok (.if_icmp .ge 16, 3) := by decide +kernel
theorem dX5_number_21 : decode cX5_number 21 = .ok (.aload_n 0, 1) := by decide +kernel
theorem dX5_number_22 : decode cX5_number 22 = .ok (.getfield 9, 3) := by decide +kernel
theorem dX5_number_25 : decode cX5_number 25 = .ok (.iload_n 1, 1) := by decide +kernel
theorem dX5_number_26 : decode cX5_number 26 = .ok (.iconst 5, 1) := by decide +kernel
theorem dX5_number_27 : decode cX5_number 27 = .ok (.imul, 1) := by decide +kernel
theorem dX5_number_28 : decode cX5_number 28 = .ok (.iload_n 2, 1) := by decide +kernel
theorem dX5_number_29 : decode cX5_number 29 = .ok (.iadd, 1) := by decide +kernel
theorem dX5_number_30 : decode cX5_number 30 = .ok (.iaload, 1) := by decide +kernel
theorem dX5_number_31 : decode cX5_number 31 = .ok (.goto 4, 3) := by decide +kernel
theorem dX5_number_34 : decode cX5_number 34 = .ok (.iconst 0, 1) := by decide +kernel
theorem dX5_number_35 : decode cX5_number 35 = .ok (.ireturn, 1) := by decide +kernel
theorem dX6_init_0 : decode cX6_init 0 = .ok (.aload_n 0, 1) := by decide +kernel
theorem dX6_init_1 : decode cX6_init 1 = .ok (.invokespecial 3, 3) := by decide +kernel
theorem dX6_init_4 : decode cX6_init 4 = .ok (.aload_n 0, 1) := by decide +kernel
theorem dX6_init_5 : decode cX6_init 5 = .ok (.bipush 6, 2) := by decide +kernel
theorem dX6_init_7 : decode cX6_init 7 = .ok (.newarray .int, 2) := by decide +kernel
theorem dX6_init_9 : decode cX6_init 9 = .ok (.putfield 9, 3) := by decide +kernel
theorem dX6_init_12 : decode cX6_init 12 = .ok (.aload_n 0, 1) := by decide +kernel
theorem dX6_init_13 : decode cX6_init 13 = .ok (.iconst 0, 1) := by decide +kernel
theorem dX6_init_14 : decode cX6_init 14 = .ok (.putfield 15, 3) := by decide +kernel
theorem dX6_init_17 : decode cX6_init 17 = .ok (.aload_n 0, 1) := by decide +kernel
theorem dX6_init_18 : decode cX6_init 18 = .ok (.iconst 3, 1) := by decide +kernel
theorem dX6_init_19 : decode cX6_init 19 = .ok (.newarray .int, 2) := by decide +kernel
theorem dX6_init_21 : decode cX6_init 21 = .ok (.putfield 19, 3) := by decide +kernel
theorem dX6_init_24 : decode cX6_init 24 = .ok (.aload_n 0, 1) := by decide +kernel
theorem dX6_init_25 : decode cX6_init 25 = .ok (.iconst 3, 1) := by decide +kernel
theorem dX6_init_26 : decode cX6_init 26 = .ok (.newarray .int, 2) := by decide +kernel
theorem dX6_init_28 : decode cX6_init 28 = .ok (.putfield 22, 3) := by decide +kernel
theorem dX6_init_31 : decode cX6_init 31 = .ok (.aload_n 0, 1) := by decide +kernel
theorem dX6_init_32 : decode cX6_init 32 = .ok (.iconst 3, 1) := by decide +kernel
theorem dX6_init_33 : decode cX6_init 33 = .ok (.newarray .int, 2) := by decide +kernel
theorem dX6_init_35 : decode cX6_init 35 = .ok (.putfield 25, 3) := by decide +kernel
theorem dX6_init_38 : decode cX6_init 38 = .ok (.aload_n 0, 1) := by decide +kernel
theorem dX6_init_39 : decode cX6_init 39 = .ok (.iconst 3, 1) := by decide +kernel
theorem dX6_init_40 : decode cX6_init 40 = .ok (.newarray .int, 2) := by decide +kernel
theorem dX6_init_42 : decode cX6_init 42 = .ok (.putfield 28, 3) := by decide +kernel
theorem dX6_init_45 : decode cX6_init 45 = .ok (.aload_n 0, 1) := by decide +kernel
theorem dX6_init_46 : decode cX6_init 46 = .ok (.iconst 3, 1) := by decide +kernel
theorem dX6_init_47 : decode cX6_init 47 = .ok (.newarray .int, 2) := by decide +kernel
theorem dX6_init_49 : decode cX6_init 49 = .ok (.putfield 31, 3) := by decide +kernel
theorem dX6_init_52 : decode cX6_init 52 = .ok (.aload_n 0, 1) := by decide +kernel
theorem dX6_init_53 : decode cX6_init 53 = .ok (.sipush 256, 3) := by decide +kernel
theorem dX6_init_56 : decode cX6_init 56 = .ok (.newarray .int, 2) := by decide +kernel
theorem dX6_init_58 : decode cX6_init 58 = .ok (.putfield 34, 3) := by decide +kernel
theorem dX6_init_61 : decode cX6_init 61 = .ok (.aload_n 0, 1) := by decide +kernel
theorem dX6_init_62 : decode cX6_init 62 = .ok (.bipush 64, 2) := by decide +kernel
theorem dX6_init_64 : decode cX6_init 64 = .ok (.newarray .int, 2) := by decide +kernel
theorem dX6_init_66 : decode cX6_init 66 = .ok (.putfield 37, 3) := by decide +kernel
theorem dX6_init_69 : decode cX6_init 69 = .ok (.return_, 1) := by decide +kernel
theorem dX6_forget_0 : decode cX6_forget 0 = .ok (.aload_n 0, 1) := by decide +kernel
theorem dX6_forget_1 : decode cX6_forget 1 = .ok (.iconst 0, 1) := by decide +kernel
theorem dX6_forget_2 : decode cX6_forget 2 = .ok (.putfield 15, 3) := by decide +kernel
theorem dX6_forget_5 : decode cX6_forget 5 = .ok (.return_, 1) := by decide +kernel
theorem dX6_fitTo_0 : decode cX6_fitTo 0 = .ok (.aload_n 0, 1) := by decide +kernel
theorem dX6_fitTo_1 : decode cX6_fitTo 1 = .ok (.getfield 15, 3) := by decide +kernel
theorem dX6_fitTo_4 : decode cX6_fitTo 4 = .ok (.istore 5, 2) := by decide +kernel
theorem dX6_fitTo_6 : decode cX6_fitTo 6 = .ok (.iconst 0, 1) := by decide +kernel
theorem dX6_fitTo_7 : decode cX6_fitTo 7 = .ok (.istore 6, 2) := by decide +kernel
theorem dX6_fitTo_9 : decode cX6_fitTo 9 = .ok (.iload 6, 2) := by decide +kernel
theorem dX6_fitTo_11 : decode cX6_fitTo 11 = .ok (.bipush 6, 2) := by decide +kernel
theorem dX6_fitTo_13 : decode cX6_fitTo 13 = .ok (.if_icmp .ge 54, 3) := by decide +kernel
theorem dX6_fitTo_16 : decode cX6_fitTo 16 = .ok (.aload 4, 2) := by decide +kernel
theorem dX6_fitTo_18 : decode cX6_fitTo 18 = .ok (.iload_n 3, 1) := by decide +kernel
theorem dX6_fitTo_19 : decode cX6_fitTo 19 = .ok (.bipush 6, 2) := by decide +kernel
theorem dX6_fitTo_21 : decode cX6_fitTo 21 = .ok (.imul, 1) := by decide +kernel
theorem dX6_fitTo_22 : decode cX6_fitTo 22 = .ok (.iload 6, 2) := by decide +kernel
theorem dX6_fitTo_24 : decode cX6_fitTo 24 = .ok (.iadd, 1) := by decide +kernel
theorem dX6_fitTo_25 : decode cX6_fitTo 25 = .ok (.iaload, 1) := by decide +kernel
theorem dX6_fitTo_26 : decode cX6_fitTo 26 = .ok (.istore 7, 2) := by decide +kernel
theorem dX6_fitTo_28 : decode cX6_fitTo 28 = .ok (.iload 5, 2) := by decide +kernel
theorem dX6_fitTo_30 : decode cX6_fitTo 30 = .ok (.ifCond .eq 19, 3) := by decide +kernel
theorem dX6_fitTo_33 : decode cX6_fitTo 33 = .ok (.aload_n 0, 1) := by decide +kernel
theorem dX6_fitTo_34 : decode cX6_fitTo 34 = .ok (.getfield 9, 3) := by decide +kernel
theorem dX6_fitTo_37 : decode cX6_fitTo 37 = .ok (.iload 6, 2) := by decide +kernel
theorem dX6_fitTo_39 : decode cX6_fitTo 39 = .ok (.iaload, 1) := by decide +kernel
theorem dX6_fitTo_40 : decode cX6_fitTo 40 = .ok (.iload 7, 2) := by decide +kernel
theorem dX6_fitTo_42 : decode cX6_fitTo 42 = .ok (.if_icmp .ne 7, 3) := by decide +kernel
theorem dX6_fitTo_45 : decode cX6_fitTo 45 = .ok (.iconst 1, 1) := by decide +kernel
theorem dX6_fitTo_46 : decode cX6_fitTo 46 = .ok (.goto 4, 3) := by decide +kernel
theorem dX6_fitTo_49 : decode cX6_fitTo 49 = .ok (.iconst 0, 1) := by decide +kernel
theorem dX6_fitTo_50 : decode cX6_fitTo 50 = .ok (.istore 5, 2) := by decide +kernel
theorem dX6_fitTo_52 : decode cX6_fitTo 52 = .ok (.aload_n 0, 1) := by decide +kernel
theorem dX6_fitTo_53 : decode cX6_fitTo 53 = .ok (.getfield 9, 3) := by decide +kernel
theorem dX6_fitTo_56 : decode cX6_fitTo 56 = .ok (.iload 6, 2) := by decide +kernel
theorem dX6_fitTo_58 : decode cX6_fitTo 58 = .ok (.iload 7, 2) := by decide +kernel
theorem dX6_fitTo_60 : decode cX6_fitTo 60 = .ok (.iastore, 1) := by decide +kernel
theorem dX6_fitTo_61 : decode cX6_fitTo 61 = .ok (.iinc 6 1, 3) := by decide +kernel
theorem dX6_fitTo_64 : decode cX6_fitTo 64 = .ok (.goto (-55), 3) := by decide +kernel
theorem dX6_fitTo_67 : decode cX6_fitTo 67 = .ok (.iload 5, 2) := by decide +kernel
theorem dX6_fitTo_69 : decode cX6_fitTo 69 = .ok (.ifCond .eq 4, 3) := by decide +kernel
theorem dX6_fitTo_72 : decode cX6_fitTo 72 = .ok (.return_, 1) := by decide +kernel
theorem dX6_fitTo_73 : decode cX6_fitTo 73 = .ok (.aload_n 0, 1) := by decide +kernel
theorem dX6_fitTo_74 : decode cX6_fitTo 74 = .ok (.iconst 1, 1) := by decide +kernel
theorem dX6_fitTo_75 : decode cX6_fitTo 75 = .ok (.putfield 15, 3) := by decide +kernel
theorem dX6_fitTo_78 : decode cX6_fitTo 78 = .ok (.aload_n 0, 1) := by decide +kernel
theorem dX6_fitTo_79 : decode cX6_fitTo 79 = .ok (.aload_n 0, 1) := by decide +kernel
theorem dX6_fitTo_80 : decode cX6_fitTo 80 = .ok (.getfield 9, 3) := by decide +kernel
theorem dX6_fitTo_83 : decode cX6_fitTo 83 = .ok (.iconst 2, 1) := by decide +kernel
theorem dX6_fitTo_84 : decode cX6_fitTo 84 = .ok (.iaload, 1) := by decide +kernel
theorem dX6_fitTo_85 : decode cX6_fitTo 85 = .ok (.aload_n 0, 1) := by decide +kernel
theorem dX6_fitTo_86 : decode cX6_fitTo 86 = .ok (.getfield 9, 3) := by decide +kernel
theorem dX6_fitTo_89 : decode cX6_fitTo 89 = .ok (.iconst 0, 1) := by decide +kernel
theorem dX6_fitTo_90 : decode cX6_fitTo 90 = .ok (.iaload, 1) := by decide +kernel
theorem dX6_fitTo_91 : decode cX6_fitTo 91 = .ok (.isub, 1) := by decide +kernel
theorem dX6_fitTo_92 : decode cX6_fitTo 92 = .ok (.aload_n 0, 1) := by decide +kernel
theorem dX6_fitTo_93 : decode cX6_fitTo 93 = .ok (.getfield 9, 3) := by decide +kernel
theorem dX6_fitTo_96 : decode cX6_fitTo 96 = .ok (.iconst 5, 1) := by decide +kernel
theorem dX6_fitTo_97 : decode cX6_fitTo 97 = .ok (.iaload, 1) := by decide +kernel
theorem dX6_fitTo_98 : decode cX6_fitTo 98 = .ok (.aload_n 0, 1) := by decide +kernel
theorem dX6_fitTo_99 : decode cX6_fitTo 99 = .ok (.getfield 9, 3) := by decide +kernel
theorem dX6_fitTo_102 : decode cX6_fitTo 102 = .ok (.iconst 1, 1) := by decide +kernel
theorem dX6_fitTo_103 : decode cX6_fitTo 103 = .ok (.iaload, 1) := by decide +kernel
theorem dX6_fitTo_104 : decode cX6_fitTo 104 = .ok (.isub, 1) := by decide +kernel
theorem dX6_fitTo_105 : decode cX6_fitTo 105 = .ok (.imul, 1) := by decide +kernel
theorem dX6_fitTo_106 : decode cX6_fitTo 106 = .ok (.aload_n 0, 1) := by decide +kernel
theorem dX6_fitTo_107 : decode cX6_fitTo 107 = .ok (.getfield 9, 3) := by decide +kernel
theorem dX6_fitTo_110 : decode cX6_fitTo 110 = .ok (.iconst 3, 1) := by decide +kernel
theorem dX6_fitTo_111 : decode cX6_fitTo 111 = .ok (.iaload, 1) := by decide +kernel
theorem dX6_fitTo_112 : decode cX6_fitTo 112 = .ok (.aload_n 0, 1) := by decide +kernel
theorem dX6_fitTo_113 : decode cX6_fitTo 113 = .ok (.getfield 9, 3) := by decide +kernel
theorem dX6_fitTo_116 : decode cX6_fitTo 116 = .ok (.iconst 1, 1) := by decide +kernel
theorem dX6_fitTo_117 : decode cX6_fitTo 117 = .ok (.iaload, 1) := by decide +kernel
theorem dX6_fitTo_118 : decode cX6_fitTo 118 = .ok (.isub, 1) := by decide +kernel
theorem dX6_fitTo_119 : decode cX6_fitTo 119 = .ok (.aload_n 0, 1) := by decide +kernel
theorem dX6_fitTo_120 : decode cX6_fitTo 120 = .ok (.getfield 9, 3) := by decide +kernel
theorem dX6_fitTo_123 : decode cX6_fitTo 123 = .ok (.iconst 4, 1) := by decide +kernel
theorem dX6_fitTo_124 : decode cX6_fitTo 124 = .ok (.iaload, 1) := by decide +kernel
theorem dX6_fitTo_125 : decode cX6_fitTo 125 = .ok (.aload_n 0, 1) := by decide +kernel
theorem dX6_fitTo_126 : decode cX6_fitTo 126 = .ok (.getfield 9, 3) := by decide +kernel
theorem dX6_fitTo_129 : decode cX6_fitTo 129 = .ok (.iconst 0, 1) := by decide +kernel
theorem dX6_fitTo_130 : decode cX6_fitTo 130 = .ok (.iaload, 1) := by decide +kernel
theorem dX6_fitTo_131 : decode cX6_fitTo 131 = .ok (.isub, 1) := by decide +kernel
theorem dX6_fitTo_132 : decode cX6_fitTo 132 = .ok (.imul, 1) := by decide +kernel
theorem dX6_fitTo_133 : decode cX6_fitTo 133 = .ok (.isub, 1) := by decide +kernel
theorem dX6_fitTo_134 : decode cX6_fitTo 134 = .ok (.putfield 40, 3) := by decide +kernel
theorem dX6_fitTo_137 : decode cX6_fitTo 137 = .ok (.aload_n 0, 1) := by decide +kernel
theorem dX6_fitTo_138 : decode cX6_fitTo 138 = .ok (.getfield 40, 3) := by decide +kernel
theorem dX6_fitTo_141 : decode cX6_fitTo 141 = .ok (.ifCond .ge 7, 3) := by decide +kernel
theorem dX6_fitTo_144 : decode cX6_fitTo 144 = .ok (.iconst 2, 1) := by decide +kernel
theorem dX6_fitTo_145 : decode cX6_fitTo 145 = .ok (.goto 4, 3) := by decide +kernel
theorem dX6_fitTo_148 : decode cX6_fitTo 148 = .ok (.iconst 1, 1) := by decide +kernel
theorem dX6_fitTo_149 : decode cX6_fitTo 149 = .ok (.istore 6, 2) := by decide +kernel
theorem dX6_fitTo_151 : decode cX6_fitTo 151 = .ok (.iconst 3, 1) := by decide +kernel
theorem dX6_fitTo_152 : decode cX6_fitTo 152 = .ok (.iload 6, 2) := by decide +kernel
theorem dX6_fitTo_154 : decode cX6_fitTo 154 = .ok (.isub, 1) := by decide +kernel
theorem dX6_fitTo_155 : decode cX6_fitTo 155 = .ok (.istore 7, 2) := by decide +kernel
theorem dX6_fitTo_157 : decode cX6_fitTo 157 = .ok (.aload_n 0, 1) := by decide +kernel
theorem dX6_fitTo_158 : decode cX6_fitTo 158 = .ok (.iconst 0, 1) := by decide +kernel
theorem dX6_fitTo_159 : decode cX6_fitTo 159 = .ok (.iconst 0, 1) := by decide +kernel
theorem dX6_fitTo_160 : decode cX6_fitTo 160 = .ok (.iload 6, 2) := by decide +kernel
theorem dX6_fitTo_162 : decode cX6_fitTo 162 = .ok (.invokevirtual 44, 3) := by decide +kernel
theorem dX6_fitTo_165 : decode cX6_fitTo 165 = .ok (.aload_n 0, 1) := by decide +kernel
theorem dX6_fitTo_166 : decode cX6_fitTo 166 = .ok (.iconst 1, 1) := by decide +kernel
theorem dX6_fitTo_167 : decode cX6_fitTo 167 = .ok (.iload 6, 2) := by decide +kernel
theorem dX6_fitTo_169 : decode cX6_fitTo 169 = .ok (.iload 7, 2) := by decide +kernel
theorem dX6_fitTo_171 : decode cX6_fitTo 171 = .ok (.invokevirtual 44, 3) := by decide +kernel
theorem dX6_fitTo_174 : decode cX6_fitTo 174 = .ok (.aload_n 0, 1) := by decide +kernel
theorem dX6_fitTo_175 : decode cX6_fitTo 175 = .ok (.iconst 2, 1) := by decide +kernel
theorem dX6_fitTo_176 : decode cX6_fitTo 176 = .ok (.iload 7, 2) := by decide +kernel
theorem dX6_fitTo_178 : decode cX6_fitTo 178 = .ok (.iconst 0, 1) := by decide +kernel
theorem dX6_fitTo_179 : decode cX6_fitTo 179 = .ok (.invokevirtual 44, 3) := by decide +kernel
theorem dX6_fitTo_182 : decode cX6_fitTo 182 = .ok (.iload_n 3, 1) := by decide +kernel
theorem dX6_fitTo_183 : decode cX6_fitTo 183 = .ok (.iconst 3, 1) := by decide +kernel
theorem dX6_fitTo_184 : decode cX6_fitTo 184 = .ok (.imul, 1) := by decide +kernel
theorem dX6_fitTo_185 : decode cX6_fitTo 185 = .ok (.istore 8, 2) := by decide +kernel
theorem dX6_fitTo_187 : decode cX6_fitTo 187 = .ok (.aload_n 0, 1) := by decide +kernel
theorem dX6_fitTo_188 : decode cX6_fitTo 188 = .ok (.aload_n 1, 1) := by decide +kernel
theorem dX6_fitTo_189 : decode cX6_fitTo 189 = .ok (.getfield 48, 3) := by decide +kernel
theorem dX6_fitTo_192 : decode cX6_fitTo 192 = .ok (.iload 8, 2) := by decide +kernel
theorem dX6_fitTo_194 : decode cX6_fitTo 194 = .ok (.iaload, 1) := by decide +kernel
theorem dX6_fitTo_195 : decode cX6_fitTo 195 = .ok (.aload_n 1, 1) := by decide +kernel
theorem dX6_fitTo_196 : decode cX6_fitTo 196 = .ok (.getfield 48, 3) := by decide +kernel
theorem dX6_fitTo_199 : decode cX6_fitTo 199 = .ok (.iload 8, 2) := by decide +kernel
theorem dX6_fitTo_201 : decode cX6_fitTo 201 = .ok (.iload 6, 2) := by decide +kernel
theorem dX6_fitTo_203 : decode cX6_fitTo 203 = .ok (.iadd, 1) := by decide +kernel
theorem dX6_fitTo_204 : decode cX6_fitTo 204 = .ok (.iaload, 1) := by decide +kernel
theorem dX6_fitTo_205 : decode cX6_fitTo 205 = .ok (.aload_n 1, 1) := by decide +kernel
theorem dX6_fitTo_206 : decode cX6_fitTo 206 = .ok (.getfield 48, 3) := by decide +kernel
theorem dX6_fitTo_209 : decode cX6_fitTo 209 = .ok (.iload 8, 2) := by decide +kernel
theorem dX6_fitTo_211 : decode cX6_fitTo 211 = .ok (.iload 7, 2) := by decide +kernel
theorem dX6_fitTo_213 : decode cX6_fitTo 213 = .ok (.iadd, 1) := by decide +kernel
theorem dX6_fitTo_214 : decode cX6_fitTo 214 = .ok (.iaload, 1) := by decide +kernel
theorem dX6_fitTo_215 : decode cX6_fitTo 215 = .ok (.invokevirtual 53, 3) := by decide +kernel
theorem dX6_fitTo_218 : decode cX6_fitTo 218 = .ok (.aload_n 0, 1) := by decide +kernel
theorem dX6_fitTo_219 : decode cX6_fitTo 219 = .ok (.aload_n 2, 1) := by decide +kernel
theorem dX6_fitTo_220 : decode cX6_fitTo 220 = .ok (.invokevirtual 56, 3) := by decide +kernel
theorem dX6_fitTo_223 : decode cX6_fitTo 223 = .ok (.aload_n 0, 1) := by decide +kernel
theorem dX6_fitTo_224 : decode cX6_fitTo 224 = .ok (.aload_n 1, 1) := by decide +kernel
theorem dX6_fitTo_225 : decode cX6_fitTo 225 = .ok (.getfield 60, 3) := by decide +kernel
theorem dX6_fitTo_228 : decode cX6_fitTo 228 = .ok (.iload_n 3, 1) := by decide +kernel
theorem dX6_fitTo_229 : decode cX6_fitTo 229 = .ok (.iaload, 1) := by decide +kernel
theorem dX6_fitTo_230 : decode cX6_fitTo 230 = .ok (.aload_n 1, 1) := by decide +kernel
theorem dX6_fitTo_231 : decode cX6_fitTo 231 = .ok (.getfield 63, 3) := by decide +kernel
theorem dX6_fitTo_234 : decode cX6_fitTo 234 = .ok (.iload_n 3, 1) := by decide +kernel
theorem dX6_fitTo_235 : decode cX6_fitTo 235 = .ok (.iaload, 1) := by decide +kernel
theorem dX6_fitTo_236 : decode cX6_fitTo 236 = .ok (.invokevirtual 66, 3) := by decide +kernel
theorem dX6_fitTo_239 : decode cX6_fitTo 239 = .ok (.aload_n 0, 1) := by decide +kernel
theorem dX6_fitTo_240 : decode cX6_fitTo 240 = .ok (.aload_n 2, 1) := by decide +kernel
theorem dX6_fitTo_241 : decode cX6_fitTo 241 = .ok (.invokevirtual 70, 3) := by decide +kernel
theorem dX6_fitTo_244 : decode cX6_fitTo 244 = .ok (.return_, 1) := by decide +kernel
theorem dX6_layEdge_0 : decode cX6_layEdge 0 = .ok (.aload_n 0, 1) := by decide +kernel
theorem dX6_layEdge_1 : decode cX6_layEdge 1 = .ok (.getfield 9, 3) := by decide +kernel
theorem dX6_layEdge_4 : decode cX6_layEdge 4 = .ok (.iload_n 2, 1) := by decide +kernel
theorem dX6_layEdge_5 : decode cX6_layEdge 5 = .ok (.iconst 2, 1) := by decide +kernel
theorem dX6_layEdge_6 : decode cX6_layEdge 6 = .ok (.imul, 1) := by decide +kernel
theorem dX6_layEdge_7 : decode cX6_layEdge 7 = .ok (.iaload, 1) := by decide +kernel
theorem dX6_layEdge_8 : decode cX6_layEdge 8 = .ok (.istore 4, 2) := by decide +kernel
theorem dX6_layEdge_10 : decode cX6_layEdge 10 = .ok (.aload_n 0, 1) := by decide +kernel
theorem dX6_layEdge_11 : decode cX6_layEdge 11 = .ok (.getfield 9, 3) := by decide +kernel
theorem dX6_layEdge_14 : decode cX6_layEdge 14 = .ok (.iload_n 2, 1) := by decide +kernel
theorem dX6_layEdge_15 : decode cX6_layEdge 15 = .ok (.iconst 2, 1) := by decide +kernel
theorem dX6_layEdge_16 : decode cX6_layEdge 16 = .ok (.imul, 1) := by decide +kernel
theorem dX6_layEdge_17 : decode cX6_layEdge 17 = .ok (.iconst 1, 1) := by decide +kernel
theorem dX6_layEdge_18 : decode cX6_layEdge 18 = .ok (.iadd, 1) := by decide +kernel
theorem dX6_layEdge_19 : decode cX6_layEdge 19 = .ok (.iaload, 1) := by decide +kernel
theorem dX6_layEdge_20 : decode cX6_layEdge 20 = .ok (.istore 5, 2) := by decide +kernel
theorem dX6_layEdge_22 : decode cX6_layEdge 22 = .ok (.aload_n 0, 1) := by decide +kernel
theorem dX6_layEdge_23 : decode cX6_layEdge 23 = .ok (.getfield 9, 3) := by decide +kernel
theorem dX6_layEdge_26 : decode cX6_layEdge 26 = .ok (.iload_n 3, 1) := by decide +kernel
theorem dX6_layEdge_27 : decode cX6_layEdge 27 = .ok (.iconst 2, 1) := by decide +kernel
theorem dX6_layEdge_28 : decode cX6_layEdge 28 = .ok (.imul, 1) := by decide +kernel
theorem dX6_layEdge_29 : decode cX6_layEdge 29 = .ok (.iaload, 1) := by decide +kernel
theorem dX6_layEdge_30 : decode cX6_layEdge 30 = .ok (.istore 6, 2) := by decide +kernel
theorem dX6_layEdge_32 : decode cX6_layEdge 32 = .ok (.aload_n 0, 1) := by decide +kernel
theorem dX6_layEdge_33 : decode cX6_layEdge 33 = .ok (.getfield 9, 3) := by decide +kernel
theorem dX6_layEdge_36 : decode cX6_layEdge 36 = .ok (.iload_n 3, 1) := by decide +kernel
theorem dX6_layEdge_37 : decode cX6_layEdge 37 = .ok (.iconst 2, 1) := by decide +kernel
theorem dX6_layEdge_38 : decode cX6_layEdge 38 = .ok (.imul, 1) := by decide +kernel
theorem dX6_layEdge_39 : decode cX6_layEdge 39 = .ok (.iconst 1, 1) := by decide +kernel
theorem dX6_layEdge_40 : decode cX6_layEdge 40 = .ok (.iadd, 1) := by decide +kernel
theorem dX6_layEdge_41 : decode cX6_layEdge 41 = .ok (.iaload, 1) := by decide +kernel
theorem dX6_layEdge_42 : decode cX6_layEdge 42 = .ok (.istore 7, 2) := by decide +kernel
theorem dX6_layEdge_44 : decode cX6_layEdge 44 = .ok (.aload_n 0, 1) := by decide +kernel
theorem dX6_layEdge_45 : decode cX6_layEdge 45 = .ok (.getfield 19, 3) := by decide +kernel
theorem dX6_layEdge_48 : decode cX6_layEdge 48 = .ok (.iload_n 1, 1) := by decide +kernel
theorem dX6_layEdge_49 : decode cX6_layEdge 49 = .ok (.iload 5, 2) := by decide +kernel
theorem dX6_layEdge_51 : decode cX6_layEdge 51 = .ok (.iload 7, 2) := by decide +kernel
theorem dX6_layEdge_53 : decode cX6_layEdge 53 = .ok (.isub, 1) := by decide +kernel
theorem dX6_layEdge_54 : decode cX6_layEdge 54 = .ok (.iastore, 1) := by decide +kernel
theorem dX6_layEdge_55 : decode cX6_layEdge 55 = .ok (.aload_n 0, 1) := by decide +kernel
theorem dX6_layEdge_56 : decode cX6_layEdge 56 = .ok (.getfield 22, 3) := by decide +kernel
theorem dX6_layEdge_59 : decode cX6_layEdge 59 = .ok (.iload_n 1, 1) := by decide +kernel
theorem dX6_layEdge_60 : decode cX6_layEdge 60 = .ok (.iload 6, 2) := by decide +kernel
theorem dX6_layEdge_62 : decode cX6_layEdge 62 = .ok (.iload 4, 2) := by decide +kernel
theorem dX6_layEdge_64 : decode cX6_layEdge 64 = .ok (.isub, 1) := by decide +kernel
theorem dX6_layEdge_65 : decode cX6_layEdge 65 = .ok (.iastore, 1) := by decide +kernel
theorem dX6_layEdge_66 : decode cX6_layEdge 66 = .ok (.aload_n 0, 1) := by decide +kernel
theorem dX6_layEdge_67 : decode cX6_layEdge 67 = .ok (.getfield 25, 3) := by decide +kernel
theorem dX6_layEdge_70 : decode cX6_layEdge 70 = .ok (.iload_n 1, 1) := by decide +kernel
theorem dX6_layEdge_71 : decode cX6_layEdge 71 = .ok (.iload 7, 2) := by decide +kernel
theorem dX6_layEdge_73 : decode cX6_layEdge 73 = .ok (.iload 5, 2) := by decide +kernel
theorem dX6_layEdge_75 : decode cX6_layEdge 75 = .ok (.isub, 1) := by decide +kernel
theorem dX6_layEdge_76 : decode cX6_layEdge 76 = .ok (.iload 4, 2) := by decide +kernel
theorem dX6_layEdge_78 : decode cX6_layEdge 78 = .ok (.imul, 1) := by decide +kernel
theorem dX6_layEdge_79 : decode cX6_layEdge 79 = .ok (.iload 6, 2) := by decide +kernel
theorem dX6_layEdge_81 : decode cX6_layEdge 81 = .ok (.iload 4, 2) := by decide +kernel
theorem dX6_layEdge_83 : decode cX6_layEdge 83 = .ok (.isub, 1) := by decide +kernel
theorem dX6_layEdge_84 : decode cX6_layEdge 84 = .ok (.iload 5, 2) := by decide +kernel
theorem dX6_layEdge_86 : decode cX6_layEdge 86 = .ok (.imul, 1) := by decide +kernel
theorem dX6_layEdge_87 : decode cX6_layEdge 87 = .ok (.isub, 1) := by decide +kernel
theorem dX6_layEdge_88 : decode cX6_layEdge 88 = .ok (.iastore, 1) := by decide +kernel
theorem dX6_layEdge_89 : decode cX6_layEdge 89 = .ok (.iload 5, 2) := by decide +kernel
theorem dX6_layEdge_91 : decode cX6_layEdge 91 = .ok (.iload 7, 2) := by decide +kernel
theorem dX6_layEdge_93 : decode cX6_layEdge 93 = .ok (.if_icmp .ne 10, 3) := by decide +kernel
theorem dX6_layEdge_96 : decode cX6_layEdge 96 = .ok (.iload 6, 2) := by decide +kernel
theorem dX6_layEdge_98 : decode cX6_layEdge 98 = .ok (.iload 4, 2) := by decide +kernel
theorem dX6_layEdge_100 : decode cX6_layEdge 100 = .ok (.if_icmp .gt 10, 3) := by decide +kernel
theorem dX6_layEdge_103 : decode cX6_layEdge 103 = .ok (.iload 7, 2) := by decide +kernel
theorem dX6_layEdge_105 : decode cX6_layEdge 105 = .ok (.iload 5, 2) := by decide +kernel
theorem dX6_layEdge_107 : decode cX6_layEdge 107 = .ok (.if_icmp .ge 7, 3) := by decide +kernel
theorem dX6_layEdge_110 : decode cX6_layEdge 110 = .ok (.iconst 1, 1) := by decide +kernel
theorem dX6_layEdge_111 : decode cX6_layEdge 111 = .ok (.goto 4, 3) := by decide +kernel
theorem dX6_layEdge_114 : decode cX6_layEdge 114 = .ok (.iconst 0, 1) := by decide +kernel
theorem dX6_layEdge_115 : decode cX6_layEdge 115 = .ok (.istore 8, 2) := by decide +kernel
theorem dX6_layEdge_117 : decode cX6_layEdge 117 = .ok (.aload_n 0, 1) := by decide +kernel
theorem dX6_layEdge_118 : decode cX6_layEdge 118 = .ok (.getfield 28, 3) := by decide +kernel
theorem dX6_layEdge_121 : decode cX6_layEdge 121 = .ok (.iload_n 1, 1) := by decide +kernel
theorem dX6_layEdge_122 : decode cX6_layEdge 122 = .ok (.iload 8, 2) := by decide +kernel
theorem dX6_layEdge_124 : decode cX6_layEdge 124 = .ok (.ifCond .eq 7, 3) := by decide +kernel
theorem dX6_layEdge_127 : decode cX6_layEdge 127 = .ok (.iconst 0, 1) := by decide +kernel
theorem dX6_layEdge_128 : decode cX6_layEdge 128 = .ok (.goto 4, 3) := by decide +kernel
theorem dX6_layEdge_131 : decode cX6_layEdge 131 = .ok (.iconst 1, 1) := by decide +kernel
theorem dX6_layEdge_132 : decode cX6_layEdge 132 = .ok (.iastore, 1) := by decide +kernel
theorem dX6_layEdge_133 : decode cX6_layEdge 133 = .ok (.return_, 1) := by decide +kernel
theorem dX6_laySlope_0 : decode cX6_laySlope 0 = .ok (.aload_n 0, 1) := by decide +kernel
theorem dX6_laySlope_1 : decode cX6_laySlope 1 = .ok (.getfield 31, 3) := by decide +kernel
theorem dX6_laySlope_4 : decode cX6_laySlope 4 = .ok (.iconst 0, 1) := by decide +kernel
theorem dX6_laySlope_5 : decode cX6_laySlope 5 = .ok (.iload_n 1, 1) := by decide +kernel
theorem dX6_laySlope_6 : decode cX6_laySlope 6 = .ok (.aload_n 0, 1) := by decide +kernel
theorem dX6_laySlope_7 : decode cX6_laySlope 7 = .ok (.getfield 19, 3) := by decide +kernel
theorem dX6_laySlope_10 : decode cX6_laySlope 10 = .ok (.iconst 1, 1) := by decide +kernel
theorem dX6_laySlope_11 : decode cX6_laySlope 11 = .ok (.iaload, 1) := by decide +kernel
theorem dX6_laySlope_12 : decode cX6_laySlope 12 = .ok (.imul, 1) := by decide +kernel
theorem dX6_laySlope_13 : decode cX6_laySlope 13 = .ok (.iload_n 2, 1) := by decide +kernel
theorem dX6_laySlope_14 : decode cX6_laySlope 14 = .ok (.aload_n 0, 1) := by decide +kernel
theorem dX6_laySlope_15 : decode cX6_laySlope 15 = .ok (.getfield 19, 3) := by decide +kernel
theorem dX6_laySlope_18 : decode cX6_laySlope 18 = .ok (.iconst 2, 1) := by decide +kernel
theorem dX6_laySlope_19 : decode cX6_laySlope 19 = .ok (.iaload, 1) := by decide +kernel
theorem dX6_laySlope_20 : decode cX6_laySlope 20 = .ok (.imul, 1) := by decide +kernel
theorem dX6_laySlope_21 : decode cX6_laySlope 21 = .ok (.iadd, 1) := by decide +kernel
theorem dX6_laySlope_22 : decode cX6_laySlope 22 = .ok (.iload_n 3, 1) := by decide +kernel
theorem dX6_laySlope_23 : decode cX6_laySlope 23 = .ok (.aload_n 0, 1) := by decide +kernel
theorem dX6_laySlope_24 : decode cX6_laySlope 24 = .ok (.getfield 19, 3) := by decide +kernel
theorem dX6_laySlope_27 : decode cX6_laySlope 27 = .ok (.iconst 0, 1) := by decide +kernel
theorem dX6_laySlope_28 : decode cX6_laySlope 28 = .ok (.iaload, 1) := by decide +kernel
theorem dX6_laySlope_29 : decode cX6_laySlope 29 = .ok (.imul, 1) := by decide +kernel
theorem dX6_laySlope_30 : decode cX6_laySlope 30 = .ok (.iadd, 1) := by decide +kernel
theorem dX6_laySlope_31 : decode cX6_laySlope 31 = .ok (.iastore, 1) := by decide +kernel
theorem dX6_laySlope_32 : decode cX6_laySlope 32 = .ok (.aload_n 0, 1) := by decide +kernel
theorem dX6_laySlope_33 : decode cX6_laySlope 33 = .ok (.getfield 31, 3) := by decide +kernel
theorem dX6_laySlope_36 : decode cX6_laySlope 36 = .ok (.iconst 1, 1) := by decide +kernel
theorem dX6_laySlope_37 : decode cX6_laySlope 37 = .ok (.iload_n 1, 1) := by decide +kernel
theorem dX6_laySlope_38 : decode cX6_laySlope 38 = .ok (.aload_n 0, 1) := by decide +kernel
theorem dX6_laySlope_39 : decode cX6_laySlope 39 = .ok (.getfield 22, 3) := by decide +kernel
theorem dX6_laySlope_42 : decode cX6_laySlope 42 = .ok (.iconst 1, 1) := by decide +kernel
theorem dX6_laySlope_43 : decode cX6_laySlope 43 = .ok (.iaload, 1) := by decide +kernel
theorem dX6_laySlope_44 : decode cX6_laySlope 44 = .ok (.imul, 1) := by decide +kernel
theorem dX6_laySlope_45 : decode cX6_laySlope 45 = .ok (.iload_n 2, 1) := by decide +kernel
theorem dX6_laySlope_46 : decode cX6_laySlope 46 = .ok (.aload_n 0, 1) := by decide +kernel
theorem dX6_laySlope_47 : decode cX6_laySlope 47 = .ok (.getfield 22, 3) := by decide +kernel
theorem dX6_laySlope_50 : decode cX6_laySlope 50 = .ok (.iconst 2, 1) := by decide +kernel
theorem dX6_laySlope_51 : decode cX6_laySlope 51 = .ok (.iaload, 1) := by decide +kernel
theorem dX6_laySlope_52 : decode cX6_laySlope 52 = .ok (.imul, 1) := by decide +kernel
theorem dX6_laySlope_53 : decode cX6_laySlope 53 = .ok (.iadd, 1) := by decide +kernel
theorem dX6_laySlope_54 : decode cX6_laySlope 54 = .ok (.iload_n 3, 1) := by decide +kernel
theorem dX6_laySlope_55 : decode cX6_laySlope 55 = .ok (.aload_n 0, 1) := by decide +kernel
theorem dX6_laySlope_56 : decode cX6_laySlope 56 = .ok (.getfield 22, 3) := by decide +kernel
theorem dX6_laySlope_59 : decode cX6_laySlope 59 = .ok (.iconst 0, 1) := by decide +kernel
theorem dX6_laySlope_60 : decode cX6_laySlope 60 = .ok (.iaload, 1) := by decide +kernel
theorem dX6_laySlope_61 : decode cX6_laySlope 61 = .ok (.imul, 1) := by decide +kernel
theorem dX6_laySlope_62 : decode cX6_laySlope 62 = .ok (.iadd, 1) := by decide +kernel
theorem dX6_laySlope_63 : decode cX6_laySlope 63 = .ok (.iastore, 1) := by decide +kernel
theorem dX6_laySlope_64 : decode cX6_laySlope 64 = .ok (.aload_n 0, 1) := by decide +kernel
theorem dX6_laySlope_65 : decode cX6_laySlope 65 = .ok (.getfield 31, 3) := by decide +kernel
theorem dX6_laySlope_68 : decode cX6_laySlope 68 = .ok (.iconst 2, 1) := by decide +kernel
theorem dX6_laySlope_69 : decode cX6_laySlope 69 = .ok (.iload_n 1, 1) := by decide +kernel
theorem dX6_laySlope_70 : decode cX6_laySlope 70 = .ok (.aload_n 0, 1) := by decide +kernel
theorem dX6_laySlope_71 : decode cX6_laySlope 71 = .ok (.getfield 25, 3) := by decide +kernel
theorem dX6_laySlope_74 : decode cX6_laySlope 74 = .ok (.iconst 1, 1) := by decide +kernel
theorem dX6_laySlope_75 : decode cX6_laySlope 75 = .ok (.iaload, 1) := by decide +kernel
theorem dX6_laySlope_76 : decode cX6_laySlope 76 = .ok (.imul, 1) := by decide +kernel
theorem dX6_laySlope_77 : decode cX6_laySlope 77 = .ok (.iload_n 2, 1) := by decide +kernel
theorem dX6_laySlope_78 : decode cX6_laySlope 78 = .ok (.aload_n 0, 1) := by decide +kernel
theorem dX6_laySlope_79 : decode cX6_laySlope 79 = .ok (.getfield 25, 3) := by decide +kernel
theorem dX6_laySlope_82 : decode cX6_laySlope 82 = .ok (.iconst 2, 1) := by decide +kernel
theorem dX6_laySlope_83 : decode cX6_laySlope 83 = .ok (.iaload, 1) := by decide +kernel
theorem dX6_laySlope_84 : decode cX6_laySlope 84 = .ok (.imul, 1) := by decide +kernel
theorem dX6_laySlope_85 : decode cX6_laySlope 85 = .ok (.iadd, 1) := by decide +kernel
theorem dX6_laySlope_86 : decode cX6_laySlope 86 = .ok (.iload_n 3, 1) := by decide +kernel
theorem dX6_laySlope_87 : decode cX6_laySlope 87 = .ok (.aload_n 0, 1) := by decide +kernel
theorem dX6_laySlope_88 : decode cX6_laySlope 88 = .ok (.getfield 25, 3) := by decide +kernel
theorem dX6_laySlope_91 : decode cX6_laySlope 91 = .ok (.iconst 0, 1) := by decide +kernel
theorem dX6_laySlope_92 : decode cX6_laySlope 92 = .ok (.iaload, 1) := by decide +kernel
theorem dX6_laySlope_93 : decode cX6_laySlope 93 = .ok (.imul, 1) := by decide +kernel
theorem dX6_laySlope_94 : decode cX6_laySlope 94 = .ok (.iadd, 1) := by decide +kernel
theorem dX6_laySlope_95 : decode cX6_laySlope 95 = .ok (.iastore, 1) := by decide +kernel
theorem dX6_laySlope_96 : decode cX6_laySlope 96 = .ok (.aload_n 0, 1) := by decide +kernel
theorem dX6_laySlope_97 : decode cX6_laySlope 97 = .ok (.iload_n 1, 1) := by decide +kernel
theorem dX6_laySlope_98 : decode cX6_laySlope 98 = .ok (.iload_n 2, 1) := by decide +kernel
theorem dX6_laySlope_99 : decode cX6_laySlope 99 = .ok (.iload_n 3, 1) := by decide +kernel
theorem dX6_laySlope_100 : decode cX6_laySlope 100 = .ok (.invokestatic 73, 3) := by decide +kernel
theorem dX6_laySlope_103 : decode cX6_laySlope 103 = .ok (.invokestatic 73, 3) := by decide +kernel
theorem dX6_laySlope_106 : decode cX6_laySlope 106 = .ok (.putfield 79, 3) := by decide +kernel
theorem dX6_laySlope_109 : decode cX6_laySlope 109 = .ok (.aload_n 0, 1) := by decide +kernel
theorem dX6_laySlope_110 : decode cX6_laySlope 110 = .ok (.iload_n 1, 1) := by decide +kernel
theorem dX6_laySlope_111 : decode cX6_laySlope 111 = .ok (.iload_n 2, 1) := by decide +kernel
theorem dX6_laySlope_112 : decode cX6_laySlope 112 = .ok (.iload_n 3, 1) := by decide +kernel
theorem dX6_laySlope_113 : decode cX6_laySlope 113 = .ok (.invokestatic 82, 3) := by decide +kernel
theorem dX6_laySlope_116 : decode cX6_laySlope 116 = .ok (.invokestatic 82, 3) := by decide +kernel
theorem dX6_laySlope_119 : decode cX6_laySlope 119 = .ok (.putfield 85, 3) := by decide +kernel
theorem dX6_laySlope_122 : decode cX6_laySlope 122 = .ok (.return_, 1) := by decide +kernel
theorem dX6_fillDepths_0 : decode cX6_fillDepths 0 = .ok (.iconst 0, 1) := by decide +kernel
theorem dX6_fillDepths_1 : decode cX6_fillDepths 1 = .ok (.istore_n 2, 1) := by decide +kernel
theorem dX6_fillDepths_2 : decode cX6_fillDepths 2 = .ok (.iload_n 2, 1) := by decide +kernel
theorem dX6_fillDepths_3 : decode cX6_fillDepths 3 = .ok (.aload_n 1, 1) := by decide +kernel
theorem dX6_fillDepths_4 : decode cX6_fillDepths 4 = .ok (.getfield 88, 3) := by decide +kernel
theorem dX6_fillDepths_7 : decode cX6_fillDepths 7 = .ok (.if_icmp .ge 61, 3) := by decide +kernel
theorem dX6_fillDepths_10 : decode cX6_fillDepths 10 = .ok (.aload_n 1, 1) := by decide +kernel
theorem dX6_fillDepths_11 : decode cX6_fillDepths 11 = .ok (.getfield 93, 3) := by decide +kernel
theorem dX6_fillDepths_14 : decode cX6_fillDepths 14 = .ok (.iload_n 2, 1) := by decide +kernel
theorem dX6_fillDepths_15 : decode cX6_fillDepths 15 = .ok (.iaload, 1) := by decide +kernel
theorem dX6_fillDepths_16 : decode cX6_fillDepths 16 = .ok (.istore_n 3, 1) := by decide +kernel
theorem dX6_fillDepths_17 : decode cX6_fillDepths 17 = .ok (.aload_n 1, 1) := by decide +kernel
theorem dX6_fillDepths_18 : decode cX6_fillDepths 18 = .ok (.getfield 96, 3) := by decide +kernel
theorem dX6_fillDepths_21 : decode cX6_fillDepths 21 = .ok (.iload_n 3, 1) := by decide +kernel
theorem dX6_fillDepths_22 : decode cX6_fillDepths 22 = .ok (.iaload, 1) := by decide +kernel
theorem dX6_fillDepths_23 : decode cX6_fillDepths 23 = .ok (.istore 4, 2) := by decide +kernel
theorem dX6_fillDepths_25 : decode cX6_fillDepths 25 = .ok (.aload_n 1, 1) := by decide +kernel
theorem dX6_fillDepths_26 : decode cX6_fillDepths 26 = .ok (.getfield 99, 3) := by decide +kernel
theorem dX6_fillDepths_29 : decode cX6_fillDepths 29 = .ok (.iload_n 3, 1) := by decide +kernel
theorem dX6_fillDepths_30 : decode cX6_fillDepths 30 = .ok (.iaload, 1) := by decide +kernel
theorem dX6_fillDepths_31 : decode cX6_fillDepths 31 = .ok (.istore 5, 2) := by decide +kernel
theorem dX6_fillDepths_33 : decode cX6_fillDepths 33 = .ok (.aload_n 0, 1) := by decide +kernel
theorem dX6_fillDepths_34 : decode cX6_fillDepths 34 = .ok (.getfield 34, 3) := by decide +kernel
theorem dX6_fillDepths_37 : decode cX6_fillDepths 37 = .ok (.iload_n 3, 1) := by decide +kernel
theorem dX6_fillDepths_38 : decode cX6_fillDepths 38 = .ok (.aload_n 0, 1) := by decide +kernel
theorem dX6_fillDepths_39 : decode cX6_fillDepths 39 = .ok (.iload 4, 2) := by decide +kernel
theorem dX6_fillDepths_41 : decode cX6_fillDepths 41 = .ok (.iload 5, 2) := by decide +kernel
theorem dX6_fillDepths_43 : decode cX6_fillDepths 43 = .ok (.invokevirtual 102, 3) := by decide +kernel
theorem dX6_fillDepths_46 : decode cX6_fillDepths 46 = .ok (.ifCond .eq 14, 3) := by decide +kernel
theorem dX6_fillDepths_49 : decode cX6_fillDepths 49 = .ok (.aload_n 0, 1) := by decide +kernel
theorem dX6_fillDepths_50 : decode cX6_fillDepths 50 = .ok (.iload 4, 2) := by decide +kernel
theorem dX6_fillDepths_52 : decode cX6_fillDepths 52 = .ok (.iload 5, 2) := by decide +kernel
theorem dX6_fillDepths_54 : decode cX6_fillDepths 54 = .ok (.invokevirtual 106, 3) := by decide +kernel
theorem dX6_fillDepths_57 : decode cX6_fillDepths 57 = .ok (.goto 4, 3) := by decide +kernel
theorem dX6_fillDepths_60 : decode cX6_fillDepths 60 = .ok (.iconst (-1), 1) := by decide +kernel
theorem dX6_fillDepths_61 : decode cX6_fillDepths 61 = .ok (.iastore, 1) := by decide +kernel
theorem dX6_fillDepths_62 : decode cX6_fillDepths 62 = .ok (.iinc 2 1, 3) := by decide +kernel
theorem dX6_fillDepths_65 : decode cX6_fillDepths 65 = .ok (.goto (-63), 3) := by decide +kernel
theorem dX6_fillDepths_68 : decode cX6_fillDepths 68 = .ok (.return_, 1) := by decide +kernel
theorem dX6_fillShades_0 : decode cX6_fillShades 0 = .ok (.iconst 0, 1) := by decide +kernel
theorem dX6_fillShades_1 : decode cX6_fillShades 1 = .ok (.istore_n 3, 1) := by decide +kernel
theorem dX6_fillShades_2 : decode cX6_fillShades 2 = .ok (.iload_n 3, 1) := by decide +kernel
theorem dX6_fillShades_3 : decode cX6_fillShades 3 = .ok (.bipush 64, 2) := by decide +kernel
theorem dX6_fillShades_5 : decode cX6_fillShades 5 = .ok (.if_icmp .ge 118, 3) := by decide +kernel
theorem dX6_fillShades_8 : decode cX6_fillShades 8 = .ok (.iload_n 3, 1) := by decide +kernel
theorem dX6_fillShades_9 : decode cX6_fillShades 9 = .ok (.bipush 8, 2) := by decide +kernel
theorem dX6_fillShades_11 : decode cX6_fillShades 11 = .ok (.irem, 1) := by decide +kernel
theorem dX6_fillShades_12 : decode cX6_fillShades 12 = .ok (.istore 4, 2) := by decide +kernel
theorem dX6_fillShades_14 : decode cX6_fillShades 14 = .ok (.iload_n 3, 1) := by decide +kernel
theorem dX6_fillShades_15 : decode cX6_fillShades 15 = .ok (.bipush 8, 2) := by decide +kernel
theorem dX6_fillShades_17 : decode cX6_fillShades 17 = .ok (.idiv, 1) := by decide +kernel
theorem dX6_fillShades_18 : decode cX6_fillShades 18 = .ok (.istore 5, 2) := by decide +kernel
theorem dX6_fillShades_20 : decode cX6_fillShades 20 = .ok (.iload_n 2, 1) := by decide +kernel
theorem dX6_fillShades_21 : decode cX6_fillShades 21 = .ok (.istore 6, 2) := by decide +kernel
theorem dX6_fillShades_23 : decode cX6_fillShades 23 = .ok (.iload_n 1, 1) := by decide +kernel
theorem dX6_fillShades_24 : decode cX6_fillShades 24 = .ok (.iconst 1, 1) := by decide +kernel
theorem dX6_fillShades_25 : decode cX6_fillShades 25 = .ok (.if_icmp .ne 23, 3) := by decide +kernel
theorem dX6_fillShades_28 : decode cX6_fillShades 28 = .ok (.iload 4, 2) := by decide +kernel
theorem dX6_fillShades_30 : decode cX6_fillShades 30 = .ok (.iload 5, 2) := by decide +kernel
theorem dX6_fillShades_32 : decode cX6_fillShades 32 = .ok (.iadd, 1) := by decide +kernel
theorem dX6_fillShades_33 : decode cX6_fillShades 33 = .ok (.iconst 2, 1) := by decide +kernel
theorem dX6_fillShades_34 : decode cX6_fillShades 34 = .ok (.irem, 1) := by decide +kernel
theorem dX6_fillShades_35 : decode cX6_fillShades 35 = .ok (.ifCond .eq 13, 3) := by decide +kernel
theorem dX6_fillShades_38 : decode cX6_fillShades 38 = .ok (.sipush 255, 3) := by decide +kernel
theorem dX6_fillShades_41 : decode cX6_fillShades 41 = .ok (.iload_n 2, 1) := by decide +kernel
theorem dX6_fillShades_42 : decode cX6_fillShades 42 = .ok (.isub, 1) := by decide +kernel
theorem dX6_fillShades_43 : decode cX6_fillShades 43 = .ok (.istore 6, 2) := by decide +kernel
theorem dX6_fillShades_45 : decode cX6_fillShades 45 = .ok (.goto 54, 3) := by decide +kernel
theorem dX6_fillShades_48 : decode cX6_fillShades 48 = .ok (.iload_n 1, 1) := by decide +kernel
theorem dX6_fillShades_49 : decode cX6_fillShades 49 = .ok (.iconst 2, 1) := by decide +kernel
theorem dX6_fillShades_50 : decode cX6_fillShades 50 = .ok (.if_icmp .ne 18, 3) := by decide +kernel
theorem dX6_fillShades_53 : decode cX6_fillShades 53 = .ok (.iload 5, 2) := by decide +kernel
theorem dX6_fillShades_55 : decode cX6_fillShades 55 = .ok (.iconst 2, 1) := by decide +kernel
theorem dX6_fillShades_56 : decode cX6_fillShades 56 = .ok (.irem, 1) := by decide +kernel
theorem dX6_fillShades_57 : decode cX6_fillShades 57 = .ok (.ifCond .eq 11, 3) := by decide +kernel
theorem dX6_fillShades_60 : decode cX6_fillShades 60 = .ok (.iload_n 2, 1) := by decide +kernel
theorem dX6_fillShades_61 : decode cX6_fillShades 61 = .ok (.iconst 2, 1) := by decide +kernel
theorem dX6_fillShades_62 : decode cX6_fillShades 62 = .ok (.idiv, 1) := by decide +kernel
theorem dX6_fillShades_63 : decode cX6_fillShades 63 = .ok (.istore 6, 2) := by decide +kernel
theorem dX6_fillShades_65 : decode cX6_fillShades 65 = .ok (.goto 34, 3) := by decide +kernel
theorem dX6_fillShades_68 : decode cX6_fillShades 68 = .ok (.iload_n 1, 1) := by decide +kernel
theorem dX6_fillShades_69 : decode cX6_fillShades 69 = .ok (.iconst 3, 1) := by decide +kernel
theorem dX6_fillShades_70 : decode cX6_fillShades 70 = .ok (.if_icmp .ne 29, 3) := by decide +kernel
theorem dX6_fillShades_73 : decode cX6_fillShades 73 = .ok (.iload_n 2, 1) := by decide +kernel
theorem dX6_fillShades_74 : decode cX6_fillShades 74 = .ok (.aload_n 0, 1) := by decide +kernel
theorem dX6_fillShades_75 : decode cX6_fillShades 75 = .ok (.iload 4, 2) := by decide +kernel
theorem dX6_fillShades_77 : decode cX6_fillShades 77 = .ok (.bipush 8, 2) := by decide +kernel
theorem dX6_fillShades_79 : decode cX6_fillShades 79 = .ok (.imul, 1) := by decide +kernel
theorem dX6_fillShades_80 : decode cX6_fillShades 80 = .ok (.iconst 4, 1) := by decide +kernel
theorem dX6_fillShades_81 : decode cX6_fillShades 81 = .ok (.iadd, 1) := by decide +kernel
theorem dX6_fillShades_82 : decode cX6_fillShades 82 = .ok (.iload 5, 2) := by decide +kernel
theorem dX6_fillShades_84 : decode cX6_fillShades 84 = .ok (.bipush 8, 2) := by decide +kernel
theorem dX6_fillShades_86 : decode cX6_fillShades 86 = .ok (.imul, 1) := by decide +kernel
theorem dX6_fillShades_87 : decode cX6_fillShades 87 = .ok (.iconst 4, 1) := by decide +kernel
theorem dX6_fillShades_88 : decode cX6_fillShades 88 = .ok (.iadd, 1) := by decide +kernel
theorem dX6_fillShades_89 : decode cX6_fillShades 89 = .ok (.invokevirtual 106, 3) := by decide +kernel
theorem dX6_fillShades_92 : decode cX6_fillShades 92 = .ok (.iconst 4, 1) := by decide +kernel
theorem dX6_fillShades_93 : decode cX6_fillShades 93 = .ok (.invokestatic 109, 3) := by decide +kernel
theorem dX6_fillShades_96 : decode cX6_fillShades 96 = .ok (.isub, 1) := by decide +kernel
theorem dX6_fillShades_97 : decode cX6_fillShades 97 = .ok (.istore 6, 2) := by decide +kernel
theorem dX6_fillShades_99 : decode cX6_fillShades 99 = .ok (.aload_n 0, 1) := by decide +kernel
theorem dX6_fillShades_100 : decode cX6_fillShades 100 = .ok (.getfield 37, 3) := by decide +kernel
theorem dX6_fillShades_103 : decode cX6_fillShades 103 = .ok (.iload_n 3, 1) := by decide +kernel
theorem dX6_fillShades_104 : decode cX6_fillShades 104 = .ok (.iconst 0, 1) := by decide +kernel
theorem dX6_fillShades_105 : decode cX6_fillShades 105 = .ok (.sipush 255, 3) := by decide +kernel
theorem dX6_fillShades_108 : decode cX6_fillShades 108 = .ok (.iload 6, 2) := by decide +kernel
theorem dX6_fillShades_110 : decode cX6_fillShades 110 = .ok (.invokestatic 73, 3) := by decide +kernel
theorem dX6_fillShades_113 : decode cX6_fillShades 113 = .ok (.invokestatic 82, 3) := by decide +kernel
theorem dX6_fillShades_116 : decode cX6_fillShades 116 = .ok (.iastore, 1) := by decide +kernel
theorem dX6_fillShades_117 : decode cX6_fillShades 117 = .ok (.iinc 3 1, 3) := by decide +kernel
theorem dX6_fillShades_120 : decode cX6_fillShades 120 = .ok (.goto (-118), 3) := by decide +kernel
theorem dX6_fillShades_123 : decode cX6_fillShades 123 = .ok (.return_, 1) := by decide +kernel
theorem dX6_fillTouched_0 : decode cX6_fillTouched 0 = .ok (.aload_n 0, 1) := by decide +kernel
theorem dX6_fillTouched_1 : decode cX6_fillTouched 1 = .ok (.iconst 0, 1) := by decide +kernel
theorem dX6_fillTouched_2 : decode cX6_fillTouched 2 = .ok (.putfield 112, 3) := by decide +kernel
theorem dX6_fillTouched_5 : decode cX6_fillTouched 5 = .ok (.iconst 0, 1) := by decide +kernel
theorem dX6_fillTouched_6 : decode cX6_fillTouched 6 = .ok (.istore_n 2, 1) := by decide +kernel
theorem dX6_fillTouched_7 : decode cX6_fillTouched 7 = .ok (.iload_n 2, 1) := by decide +kernel
theorem dX6_fillTouched_8 : decode cX6_fillTouched 8 = .ok (.aload_n 1, 1) := by decide +kernel
theorem dX6_fillTouched_9 : decode cX6_fillTouched 9 = .ok (.getfield 115, 3) := by decide +kernel
theorem dX6_fillTouched_12 : decode cX6_fillTouched 12 = .ok (.if_icmp .ge 116, 3) := by decide +kernel
theorem dX6_fillTouched_15 : decode cX6_fillTouched 15 = .ok (.aload_n 1, 1) := by decide +kernel
theorem dX6_fillTouched_16 : decode cX6_fillTouched 16 = .ok (.iload_n 2, 1) := by decide +kernel
theorem dX6_fillTouched_17 : decode cX6_fillTouched 17 = .ok (.invokevirtual 118, 3) := by decide +kernel
theorem dX6_fillTouched_20 : decode cX6_fillTouched 20 = .ok (.bipush 8, 2) := by decide +kernel
theorem dX6_fillTouched_22 : decode cX6_fillTouched 22 = .ok (.imul, 1) := by decide +kernel
theorem dX6_fillTouched_23 : decode cX6_fillTouched 23 = .ok (.istore_n 3, 1) := by decide +kernel
theorem dX6_fillTouched_24 : decode cX6_fillTouched 24 = .ok (.aload_n 1, 1) := by decide +kernel
theorem dX6_fillTouched_25 : decode cX6_fillTouched 25 = .ok (.iload_n 2, 1) := by decide +kernel
theorem dX6_fillTouched_26 : decode cX6_fillTouched 26 = .ok (.invokevirtual 122, 3) := by decide +kernel
theorem dX6_fillTouched_29 : decode cX6_fillTouched 29 = .ok (.bipush 8, 2) := by decide +kernel
theorem dX6_fillTouched_31 : decode cX6_fillTouched 31 = .ok (.imul, 1) := by decide +kernel
theorem dX6_fillTouched_32 : decode cX6_fillTouched 32 = .ok (.istore 4, 2) := by decide +kernel
theorem dX6_fillTouched_34 : decode cX6_fillTouched 34 = .ok (.aload_n 1, 1) := by decide +kernel
theorem dX6_fillTouched_35 : decode cX6_fillTouched 35 = .ok (.iload_n 2, 1) := by decide +kernel
theorem dX6_fillTouched_36 : decode cX6_fillTouched 36 = .ok (.invokevirtual 125, 3) := by decide +kernel
theorem dX6_fillTouched_39 : decode cX6_fillTouched 39 = .ok (.bipush 8, 2) := by decide +kernel
theorem dX6_fillTouched_41 : decode cX6_fillTouched 41 = .ok (.imul, 1) := by decide +kernel
theorem dX6_fillTouched_42 : decode cX6_fillTouched 42 = .ok (.istore 5, 2) := by decide +kernel
theorem dX6_fillTouched_44 : decode cX6_fillTouched 44 = .ok (.aload_n 1, 1) := by decide +kernel
theorem dX6_fillTouched_45 : decode cX6_fillTouched 45 = .ok (.iload_n 2, 1) := by decide +kernel
theorem dX6_fillTouched_46 : decode cX6_fillTouched 46 = .ok (.invokevirtual 128, 3) := by decide +kernel
theorem dX6_fillTouched_49 : decode cX6_fillTouched 49 = .ok (.bipush 8, 2) := by decide +kernel
theorem dX6_fillTouched_51 : decode cX6_fillTouched 51 = .ok (.imul, 1) := by decide +kernel
theorem dX6_fillTouched_52 : decode cX6_fillTouched 52 = .ok (.istore 6, 2) := by decide +kernel
theorem dX6_fillTouched_54 : decode cX6_fillTouched 54 = .ok (.aload_n 0, 1) := by decide +kernel
theorem dX6_fillTouched_55 : decode cX6_fillTouched 55 = .ok (.iconst 0, 1) := by decide +kernel
theorem dX6_fillTouched_56 : decode cX6_fillTouched 56 = .ok (.iload_n 3, 1) := by decide +kernel
theorem dX6_fillTouched_57 : decode cX6_fillTouched 57 = .ok (.iload 4, 2) := by decide +kernel
theorem dX6_fillTouched_59 : decode cX6_fillTouched 59 = .ok (.invokevirtual 131, 3) := by decide +kernel
theorem dX6_fillTouched_62 : decode cX6_fillTouched 62 = .ok (.ifCond .ne 15, 3) := by decide +kernel
theorem dX6_fillTouched_65 : decode cX6_fillTouched 65 = .ok (.aload_n 0, 1) := by decide +kernel
theorem dX6_fillTouched_66 : decode cX6_fillTouched 66 = .ok (.iconst 1, 1) := by decide +kernel
theorem dX6_fillTouched_67 : decode cX6_fillTouched 67 = .ok (.iload 5, 2) := by decide +kernel
theorem dX6_fillTouched_69 : decode cX6_fillTouched 69 = .ok (.iload 6, 2) := by decide +kernel
theorem dX6_fillTouched_71 : decode cX6_fillTouched 71 = .ok (.invokevirtual 131, 3) := by decide +kernel
theorem dX6_fillTouched_74 : decode cX6_fillTouched 74 = .ok (.ifCond .eq 7, 3) := by decide +kernel
theorem dX6_fillTouched_77 : decode cX6_fillTouched 77 = .ok (.iconst 1, 1) := by decide +kernel
theorem dX6_fillTouched_78 : decode cX6_fillTouched 78 = .ok (.goto 4, 3) := by decide +kernel
theorem dX6_fillTouched_81 : decode cX6_fillTouched 81 = .ok (.iconst 0, 1) := by decide +kernel
theorem dX6_fillTouched_82 : decode cX6_fillTouched 82 = .ok (.istore 7, 2) := by decide +kernel
theorem dX6_fillTouched_84 : decode cX6_fillTouched 84 = .ok (.aload_n 0, 1) := by decide +kernel
theorem dX6_fillTouched_85 : decode cX6_fillTouched 85 = .ok (.getfield 40, 3) := by decide +kernel
theorem dX6_fillTouched_88 : decode cX6_fillTouched 88 = .ok (.ifCond .eq 34, 3) := by decide +kernel
theorem dX6_fillTouched_91 : decode cX6_fillTouched 91 = .ok (.iload 7, 2) := by decide +kernel
theorem dX6_fillTouched_93 : decode cX6_fillTouched 93 = .ok (.ifCond .ne 29, 3) := by decide +kernel
theorem dX6_fillTouched_96 : decode cX6_fillTouched 96 = .ok (.aload_n 0, 1) := by decide +kernel
theorem dX6_fillTouched_97 : decode cX6_fillTouched 97 = .ok (.iload_n 3, 1) := by decide +kernel
theorem dX6_fillTouched_98 : decode cX6_fillTouched 98 = .ok (.iload 4, 2) := by decide +kernel
theorem dX6_fillTouched_100 : decode cX6_fillTouched 100 = .ok (.iload 5, 2) := by decide +kernel
theorem dX6_fillTouched_102 : decode cX6_fillTouched 102 = .ok (.iload 6, 2) := by decide +kernel
theorem dX6_fillTouched_104 : decode cX6_fillTouched 104 = .ok (.invokevirtual 135, 3) := by decide +kernel
theorem dX6_fillTouched_107 : decode cX6_fillTouched 107 = .ok (.ifCond .ne 15, 3) := by decide +kernel
theorem dX6_fillTouched_110 : decode cX6_fillTouched 110 = .ok (.aload_n 0, 1) := by decide +kernel
theorem dX6_fillTouched_111 : decode cX6_fillTouched 111 = .ok (.dup, 1) := by decide +kernel
theorem dX6_fillTouched_112 : decode cX6_fillTouched 112 = .ok (.getfield 112, 3) := by decide +kernel
theorem dX6_fillTouched_115 : decode cX6_fillTouched 115 = .ok (.iconst 1, 1) := by decide +kernel
theorem dX6_fillTouched_116 : decode cX6_fillTouched 116 = .ok (.iload_n 2, 1) := by decide +kernel
theorem dX6_fillTouched_117 : decode cX6_fillTouched 117 = .ok (.ishl, 1) := by decide +kernel
theorem dX6_fillTouched_118 : decode cX6_fillTouched 118 = .ok (.ior, 1) := by decide +kernel
theorem dX6_fillTouched_119 : decode cX6_fillTouched 119 = .ok (.putfield 112, 3) := by decide +kernel
theorem dX6_fillTouched_122 : decode cX6_fillTouched 122 = .ok (.iinc 2 1, 3) := by decide +kernel
theorem dX6_fillTouched_125 : decode cX6_fillTouched 125 = .ok (.goto (-118), 3) := by decide +kernel
theorem dX6_fillTouched_128 : decode cX6_fillTouched 128 = .ok (.return_, 1) := by decide +kernel
theorem dX6_isBeside_0 : decode cX6_isBeside 0 = .ok (.aload_n 0, 1) := by decide +kernel
theorem dX6_isBeside_1 : decode cX6_isBeside 1 = .ok (.getfield 9, 3) := by decide +kernel
theorem dX6_isBeside_4 : decode cX6_isBeside 4 = .ok (.iload_n 1, 1) := by decide +kernel
theorem dX6_isBeside_5 : decode cX6_isBeside 5 = .ok (.iaload, 1) := by decide +kernel
theorem dX6_isBeside_6 : decode cX6_isBeside 6 = .ok (.aload_n 0, 1) := by decide +kernel
theorem dX6_isBeside_7 : decode cX6_isBeside 7 = .ok (.getfield 9, 3) := by decide +kernel
theorem dX6_isBeside_10 : decode cX6_isBeside 10 = .ok (.iconst 2, 1) := by decide +kernel
theorem dX6_isBeside_11 : decode cX6_isBeside 11 = .ok (.iload_n 1, 1) := by decide +kernel
theorem dX6_isBeside_12 : decode cX6_isBeside 12 = .ok (.iadd, 1) := by decide +kernel
theorem dX6_isBeside_13 : decode cX6_isBeside 13 = .ok (.iaload, 1) := by decide +kernel
theorem dX6_isBeside_14 : decode cX6_isBeside 14 = .ok (.aload_n 0, 1) := by decide +kernel
theorem dX6_isBeside_15 : decode cX6_isBeside 15 = .ok (.getfield 9, 3) := by decide +kernel
theorem dX6_isBeside_18 : decode cX6_isBeside 18 = .ok (.iconst 4, 1) := by decide +kernel
theorem dX6_isBeside_19 : decode cX6_isBeside 19 = .ok (.iload_n 1, 1) := by decide +kernel
theorem dX6_isBeside_20 : decode cX6_isBeside 20 = .ok (.iadd, 1) := by decide +kernel
theorem dX6_isBeside_21 : decode cX6_isBeside 21 = .ok (.iaload, 1) := by decide +kernel
theorem dX6_isBeside_22 : decode cX6_isBeside 22 = .ok (.invokestatic 73, 3) := by decide +kernel
theorem dX6_isBeside_25 : decode cX6_isBeside 25 = .ok (.invokestatic 73, 3) := by decide +kernel
theorem dX6_isBeside_28 : decode cX6_isBeside 28 = .ok (.istore 4, 2) := by decide +kernel
theorem dX6_isBeside_30 : decode cX6_isBeside 30 = .ok (.aload_n 0, 1) := by decide +kernel
theorem dX6_isBeside_31 : decode cX6_isBeside 31 = .ok (.getfield 9, 3) := by decide +kernel
theorem dX6_isBeside_34 : decode cX6_isBeside 34 = .ok (.iload_n 1, 1) := by decide +kernel
theorem dX6_isBeside_35 : decode cX6_isBeside 35 = .ok (.iaload, 1) := by decide +kernel
theorem dX6_isBeside_36 : decode cX6_isBeside 36 = .ok (.aload_n 0, 1) := by decide +kernel
theorem dX6_isBeside_37 : decode cX6_isBeside 37 = .ok (.getfield 9, 3) := by decide +kernel
theorem dX6_isBeside_40 : decode cX6_isBeside 40 = .ok (.iconst 2, 1) := by decide +kernel
theorem dX6_isBeside_41 : decode cX6_isBeside 41 = .ok (.iload_n 1, 1) := by decide +kernel
theorem dX6_isBeside_42 : decode cX6_isBeside 42 = .ok (.iadd, 1) := by decide +kernel
theorem dX6_isBeside_43 : decode cX6_isBeside 43 = .ok (.iaload, 1) := by decide +kernel
theorem dX6_isBeside_44 : decode cX6_isBeside 44 = .ok (.aload_n 0, 1) := by decide +kernel
theorem dX6_isBeside_45 : decode cX6_isBeside 45 = .ok (.getfield 9, 3) := by decide +kernel
theorem dX6_isBeside_48 : decode cX6_isBeside 48 = .ok (.iconst 4, 1) := by decide +kernel
theorem dX6_isBeside_49 : decode cX6_isBeside 49 = .ok (.iload_n 1, 1) := by decide +kernel
theorem dX6_isBeside_50 : decode cX6_isBeside 50 = .ok (.iadd, 1) := by decide +kernel
theorem dX6_isBeside_51 : decode cX6_isBeside 51 = .ok (.iaload, 1) := by decide +kernel
theorem dX6_isBeside_52 : decode cX6_isBeside 52 = .ok (.invokestatic 82, 3) := by decide +kernel
theorem dX6_isBeside_55 : decode cX6_isBeside 55 = .ok (.invokestatic 82, 3) := by decide +kernel
theorem dX6_isBeside_58 : decode cX6_isBeside 58 = .ok (.istore 5, 2) := by decide +kernel
theorem dX6_isBeside_60 : decode cX6_isBeside 60 = .ok (.iload 5, 2) := by decide +kernel
theorem dX6_isBeside_62 : decode cX6_isBeside 62 = .ok (.iload_n 2, 1) := by decide +kernel
theorem dX6_isBeside_63 : decode cX6_isBeside 63 = .ok (.if_icmp .lt 9, 3) := by decide +kernel
theorem dX6_isBeside_66 : decode cX6_isBeside 66 = .ok (.iload 4, 2) := by decide +kernel
theorem dX6_isBeside_68 : decode cX6_isBeside 68 = .ok (.iload_n 3, 1) := by decide +kernel
theorem dX6_isBeside_69 : decode cX6_isBeside 69 = .ok (.if_icmp .le 7, 3) := by decide +kernel
theorem dX6_isBeside_72 : decode cX6_isBeside 72 = .ok (.iconst 1, 1) := by decide +kernel
theorem dX6_isBeside_73 : decode cX6_isBeside 73 = .ok (.goto 4, 3) := by decide +kernel
theorem dX6_isBeside_76 : decode cX6_isBeside 76 = .ok (.iconst 0, 1) := by decide +kernel
theorem dX6_isBeside_77 : decode cX6_isBeside 77 = .ok (.ireturn, 1) := by decide +kernel
theorem dX6_isOutside_0 : decode cX6_isOutside 0 = .ok (.iconst 0, 1) := by decide +kernel
theorem dX6_isOutside_1 : decode cX6_isOutside 1 = .ok (.istore 5, 2) := by decide +kernel
theorem dX6_isOutside_3 : decode cX6_isOutside 3 = .ok (.iload 5, 2) := by decide +kernel
theorem dX6_isOutside_5 : decode cX6_isOutside 5 = .ok (.iconst 3, 1) := by decide +kernel
theorem dX6_isOutside_6 : decode cX6_isOutside 6 = .ok (.if_icmp .ge 65, 3) := by decide +kernel
theorem dX6_isOutside_9 : decode cX6_isOutside 9 = .ok (.aload_n 0, 1) := by decide +kernel
theorem dX6_isOutside_10 : decode cX6_isOutside 10 = .ok (.iload 5, 2) := by decide +kernel
theorem dX6_isOutside_12 : decode cX6_isOutside 12 = .ok (.iload_n 1, 1) := by decide +kernel
theorem dX6_isOutside_13 : decode cX6_isOutside 13 = .ok (.iload_n 3, 1) := by decide +kernel
theorem dX6_isOutside_14 : decode cX6_isOutside 14 = .ok (.invokevirtual 139, 3) := by decide +kernel
theorem dX6_isOutside_17 : decode cX6_isOutside 17 = .ok (.aload_n 0, 1) := by decide +kernel
theorem dX6_isOutside_18 : decode cX6_isOutside 18 = .ok (.iload 5, 2) := by decide +kernel
theorem dX6_isOutside_20 : decode cX6_isOutside 20 = .ok (.iload_n 2, 1) := by decide +kernel
theorem dX6_isOutside_21 : decode cX6_isOutside 21 = .ok (.iload_n 3, 1) := by decide +kernel
theorem dX6_isOutside_22 : decode cX6_isOutside 22 = .ok (.invokevirtual 139, 3) := by decide +kernel
theorem dX6_isOutside_25 : decode cX6_isOutside 25 = .ok (.invokestatic 82, 3) := by decide +kernel
theorem dX6_isOutside_28 : decode cX6_isOutside 28 = .ok (.istore 6, 2) := by decide +kernel
theorem dX6_isOutside_30 : decode cX6_isOutside 30 = .ok (.aload_n 0, 1) := by decide +kernel
theorem dX6_isOutside_31 : decode cX6_isOutside 31 = .ok (.iload 5, 2) := by decide +kernel
theorem dX6_isOutside_33 : decode cX6_isOutside 33 = .ok (.iload_n 1, 1) := by decide +kernel
theorem dX6_isOutside_34 : decode cX6_isOutside 34 = .ok (.iload 4, 2) := by decide +kernel
theorem dX6_isOutside_36 : decode cX6_isOutside 36 = .ok (.invokevirtual 139, 3) := by decide +kernel
theorem dX6_isOutside_39 : decode cX6_isOutside 39 = .ok (.aload_n 0, 1) := by decide +kernel
theorem dX6_isOutside_40 : decode cX6_isOutside 40 = .ok (.iload 5, 2) := by decide +kernel
theorem dX6_isOutside_42 : decode cX6_isOutside 42 = .ok (.iload_n 2, 1) := by decide +kernel
theorem dX6_isOutside_43 : decode cX6_isOutside 43 = .ok (.iload 4, 2) := by decide +kernel
theorem dX6_isOutside_45 : decode cX6_isOutside 45 = .ok (.invokevirtual 139, 3) := by decide +kernel
theorem dX6_isOutside_48 : decode cX6_isOutside 48 = .ok (.invokestatic 82, 3) := by decide +kernel
theorem dX6_isOutside_51 : decode cX6_isOutside 51 = .ok (.istore 7, 2) := by decide +kernel
theorem dX6_isOutside_53 : decode cX6_isOutside 53 = .ok (.iload 6, 2) := by decide +kernel
theorem dX6_isOutside_55 : decode cX6_isOutside 55 = .ok (.ifCond .ge 10, 3) := by decide +kernel
theorem dX6_isOutside_58 : decode cX6_isOutside 58 = .ok (.iload 7, 2) := by decide +kernel
theorem dX6_isOutside_60 : decode cX6_isOutside 60 = .ok (.ifCond .ge 5, 3) := by decide +kernel
theorem dX6_isOutside_63 : decode cX6_isOutside 63 = .ok (.iconst 1, 1) := by decide +kernel
theorem dX6_isOutside_64 : decode cX6_isOutside 64 = .ok (.ireturn, 1) := by decide +kernel
theorem dX6_isOutside_65 : decode cX6_isOutside 65 = .ok (.iinc 5 1, 3) := by decide +kernel
theorem dX6_isOutside_68 : decode cX6_isOutside 68 = .ok (.goto (-65), 3) := by decide +kernel
theorem dX6_isOutside_71 : decode cX6_isOutside 71 = .ok (.iconst 0, 1) := by decide +kernel
theorem dX6_isOutside_72 : decode cX6_isOutside 72 = .ok (.ireturn, 1) := by decide +kernel
theorem dX6_sumAt_0 : decode cX6_sumAt 0 = .ok (.aload_n 0, 1) := by decide +kernel
theorem dX6_sumAt_1 : decode cX6_sumAt 1 = .ok (.getfield 19, 3) := by decide +kernel
theorem dX6_sumAt_4 : decode cX6_sumAt 4 = .ok (.iload_n 1, 1) := by decide +kernel
theorem dX6_sumAt_5 : decode cX6_sumAt 5 = .ok (.iaload, 1) := by decide +kernel
theorem dX6_sumAt_6 : decode cX6_sumAt 6 = .ok (.iload_n 2, 1) := by decide +kernel
theorem dX6_sumAt_7 : decode cX6_sumAt 7 = .ok (.imul, 1) := by decide +kernel
theorem dX6_sumAt_8 : decode cX6_sumAt 8 = .ok (.aload_n 0, 1) := by decide +kernel
theorem dX6_sumAt_9 : decode cX6_sumAt 9 = .ok (.getfield 22, 3) := by decide +kernel
theorem dX6_sumAt_12 : decode cX6_sumAt 12 = .ok (.iload_n 1, 1) := by decide +kernel
theorem dX6_sumAt_13 : decode cX6_sumAt 13 = .ok (.iaload, 1) := by decide +kernel
theorem dX6_sumAt_14 : decode cX6_sumAt 14 = .ok (.iload_n 3, 1) := by decide +kernel
theorem dX6_sumAt_15 : decode cX6_sumAt 15 = .ok (.imul, 1) := by decide +kernel
theorem dX6_sumAt_16 : decode cX6_sumAt 16 = .ok (.iadd, 1) := by decide +kernel
theorem dX6_sumAt_17 : decode cX6_sumAt 17 = .ok (.aload_n 0, 1) := by decide +kernel
theorem dX6_sumAt_18 : decode cX6_sumAt 18 = .ok (.getfield 25, 3) := by decide +kernel
theorem dX6_sumAt_21 : decode cX6_sumAt 21 = .ok (.iload_n 1, 1) := by decide +kernel
theorem dX6_sumAt_22 : decode cX6_sumAt 22 = .ok (.iaload, 1) := by decide +kernel
theorem dX6_sumAt_23 : decode cX6_sumAt 23 = .ok (.iadd, 1) := by decide +kernel
theorem dX6_sumAt_24 : decode cX6_sumAt 24 = .ok (.ireturn, 1) := by decide +kernel
theorem dX6_covers_0 : decode cX6_covers 0 = .ok (.aload_n 0, 1) := by decide +kernel
theorem dX6_covers_1 : decode cX6_covers 1 = .ok (.getfield 40, 3) := by decide +kernel
theorem dX6_covers_4 : decode cX6_covers 4 = .ok (.ifCond .ne 5, 3) := by decide +kernel
theorem dX6_covers_7 : decode cX6_covers 7 = .ok (.iconst 0, 1) := by decide +kernel
theorem dX6_covers_8 : decode cX6_covers 8 = .ok (.ireturn, 1) := by decide +kernel
theorem dX6_covers_9 : decode cX6_covers 9 = .ok (.iconst 0, 1) := by decide +kernel
theorem dX6_covers_10 : decode cX6_covers 10 = .ok (.istore_n 3, 1) := by decide +kernel
theorem dX6_covers_11 : decode cX6_covers 11 = .ok (.iload_n 3, 1) := by decide +kernel
theorem dX6_covers_12 : decode cX6_covers 12 = .ok (.iconst 3, 1) := by decide +kernel
theorem dX6_covers_13 : decode cX6_covers 13 = .ok (.if_icmp .ge 44, 3) := by decide +kernel
theorem dX6_covers_16 : decode cX6_covers 16 = .ok (.aload_n 0, 1) := by decide +kernel
theorem dX6_covers_17 : decode cX6_covers 17 = .ok (.getfield 19, 3) := by decide +kernel
theorem dX6_covers_20 : decode cX6_covers 20 = .ok (.iload_n 3, 1) := by decide +kernel
theorem dX6_covers_21 : decode cX6_covers 21 = .ok (.iaload, 1) := by decide +kernel
theorem dX6_covers_22 : decode cX6_covers 22 = .ok (.iload_n 1, 1) := by decide +kernel
theorem dX6_covers_23 : decode cX6_covers 23 = .ok (.imul, 1) := by decide +kernel
theorem dX6_covers_24 : decode cX6_covers 24 = .ok (.aload_n 0, 1) := by decide +kernel
theorem dX6_covers_25 : decode cX6_covers 25 = .ok (.getfield 22, 3) := by decide +kernel
theorem dX6_covers_28 : decode cX6_covers 28 = .ok (.iload_n 3, 1) := by decide +kernel
theorem dX6_covers_29 : decode cX6_covers 29 = .ok (.iaload, 1) := by decide +kernel
theorem dX6_covers_30 : decode cX6_covers 30 = .ok (.iload_n 2, 1) := by decide +kernel
theorem dX6_covers_31 : decode cX6_covers 31 = .ok (.imul, 1) := by decide +kernel
theorem dX6_covers_32 : decode cX6_covers 32 = .ok (.iadd, 1) := by decide +kernel
theorem dX6_covers_33 : decode cX6_covers 33 = .ok (.aload_n 0, 1) := by decide +kernel
theorem dX6_covers_34 : decode cX6_covers 34 = .ok (.getfield 25, 3) := by decide +kernel
theorem dX6_covers_37 : decode cX6_covers 37 = .ok (.iload_n 3, 1) := by decide +kernel
theorem dX6_covers_38 : decode cX6_covers 38 = .ok (.iaload, 1) := by decide +kernel
theorem dX6_covers_39 : decode cX6_covers 39 = .ok (.iadd, 1) := by decide +kernel
theorem dX6_covers_40 : decode cX6_covers 40 = .ok (.aload_n 0, 1) := by decide +kernel
theorem dX6_covers_41 : decode cX6_covers 41 = .ok (.getfield 28, 3) := by decide +kernel
theorem dX6_covers_44 : decode cX6_covers 44 = .ok (.iload_n 3, 1) := by decide +kernel
theorem dX6_covers_45 : decode cX6_covers 45 = .ok (.iaload, 1) := by decide +kernel
theorem dX6_covers_46 : decode cX6_covers 46 = .ok (.if_icmp .ge 5, 3) := by decide +kernel
theorem dX6_covers_49 : decode cX6_covers 49 = .ok (.iconst 0, 1) := by decide +kernel
theorem dX6_covers_50 : decode cX6_covers 50 = .ok (.ireturn, 1) := by decide +kernel
theorem dX6_covers_51 : decode cX6_covers 51 = .ok (.iinc 3 1, 3) := by decide +kernel
theorem dX6_covers_54 : decode cX6_covers 54 = .ok (.goto (-43), 3) := by decide +kernel
theorem dX6_covers_57 : decode cX6_covers 57 = .ok (.iconst 1, 1) := by decide +kernel
theorem dX6_covers_58 : decode cX6_covers 58 = .ok (.ireturn, 1) := by decide +kernel
theorem dX6_depthAt_0 : decode cX6_depthAt 0 = .ok (.aload_n 0, 1) := by decide +kernel
theorem dX6_depthAt_1 : decode cX6_depthAt 1 = .ok (.getfield 40, 3) := by decide +kernel
theorem dX6_depthAt_4 : decode cX6_depthAt 4 = .ok (.ifCond .ge 11, 3) := by decide +kernel
theorem dX6_depthAt_7 : decode cX6_depthAt 7 = .ok (.aload_n 0, 1) := by decide +kernel
theorem dX6_depthAt_8 : decode cX6_depthAt 8 = .ok (.getfield 40, 3) := by decide +kernel
theorem dX6_depthAt_11 : decode cX6_depthAt 11 = .ok (.ineg, 1) := by decide +kernel
theorem dX6_depthAt_12 : decode cX6_depthAt 12 = .ok (.goto 7, 3) := by decide +kernel
theorem dX6_depthAt_15 : decode cX6_depthAt 15 = .ok (.aload_n 0, 1) := by decide +kernel
theorem dX6_depthAt_16 : decode cX6_depthAt 16 = .ok (.getfield 40, 3) := by decide +kernel
theorem dX6_depthAt_19 : decode cX6_depthAt 19 = .ok (.istore_n 3, 1) := by decide +kernel
theorem dX6_depthAt_20 : decode cX6_depthAt 20 = .ok (.iload_n 3, 1) := by decide +kernel
theorem dX6_depthAt_21 : decode cX6_depthAt 21 = .ok (.ifCond .ne 7, 3) := by decide +kernel
theorem dX6_depthAt_24 : decode cX6_depthAt 24 = .ok (.iconst 0, 1) := by decide +kernel
theorem dX6_depthAt_25 : decode cX6_depthAt 25 = .ok (.goto 31, 3) := by decide +kernel
theorem dX6_depthAt_28 : decode cX6_depthAt 28 = .ok (.aload_n 0, 1) := by decide +kernel
theorem dX6_depthAt_29 : decode cX6_depthAt 29 = .ok (.getfield 31, 3) := by decide +kernel
theorem dX6_depthAt_32 : decode cX6_depthAt 32 = .ok (.iconst 0, 1) := by decide +kernel
theorem dX6_depthAt_33 : decode cX6_depthAt 33 = .ok (.iaload, 1) := by decide +kernel
theorem dX6_depthAt_34 : decode cX6_depthAt 34 = .ok (.iload_n 1, 1) := by decide +kernel
theorem dX6_depthAt_35 : decode cX6_depthAt 35 = .ok (.imul, 1) := by decide +kernel
theorem dX6_depthAt_36 : decode cX6_depthAt 36 = .ok (.aload_n 0, 1) := by decide +kernel
theorem dX6_depthAt_37 : decode cX6_depthAt 37 = .ok (.getfield 31, 3) := by decide +kernel
theorem dX6_depthAt_40 : decode cX6_depthAt 40 = .ok (.iconst 1, 1) := by decide +kernel
theorem dX6_depthAt_41 : decode cX6_depthAt 41 = .ok (.iaload, 1) := by decide +kernel
theorem dX6_depthAt_42 : decode cX6_depthAt 42 = .ok (.iload_n 2, 1) := by decide +kernel
theorem dX6_depthAt_43 : decode cX6_depthAt 43 = .ok (.imul, 1) := by decide +kernel
theorem dX6_depthAt_44 : decode cX6_depthAt 44 = .ok (.iadd, 1) := by decide +kernel
theorem dX6_depthAt_45 : decode cX6_depthAt 45 = .ok (.aload_n 0, 1) := by decide +kernel
theorem dX6_depthAt_46 : decode cX6_depthAt 46 = .ok (.getfield 31, 3) := by decide +kernel
theorem dX6_depthAt_49 : decode cX6_depthAt 49 = .ok (.iconst 2, 1) := by decide +kernel
theorem dX6_depthAt_50 : decode cX6_depthAt 50 = .ok (.iaload, 1) := by decide +kernel
theorem dX6_depthAt_51 : decode cX6_depthAt 51 = .ok (.iadd, 1) := by decide +kernel
theorem dX6_depthAt_52 : decode cX6_depthAt 52 = .ok (.iload_n 3, 1) := by decide +kernel
theorem dX6_depthAt_53 : decode cX6_depthAt 53 = .ok (.invokestatic 109, 3) := by decide +kernel
theorem dX6_depthAt_56 : decode cX6_depthAt 56 = .ok (.ireturn, 1) := by decide +kernel
theorem dX6_isOnEdge_0 : decode cX6_isOnEdge 0 = .ok (.iconst 0, 1) := by decide +kernel
theorem dX6_isOnEdge_1 : decode cX6_isOnEdge 1 = .ok (.istore_n 3, 1) := by decide +kernel
theorem dX6_isOnEdge_2 : decode cX6_isOnEdge 2 = .ok (.iconst 0, 1) := by decide +kernel
theorem dX6_isOnEdge_3 : decode cX6_isOnEdge 3 = .ok (.istore 4, 2) := by decide +kernel
theorem dX6_isOnEdge_5 : decode cX6_isOnEdge 5 = .ok (.iload 4, 2) := by decide +kernel
theorem dX6_isOnEdge_7 : decode cX6_isOnEdge 7 = .ok (.iconst 3, 1) := by decide +kernel
theorem dX6_isOnEdge_8 : decode cX6_isOnEdge 8 = .ok (.if_icmp .ge 41, 3) := by decide +kernel
theorem dX6_isOnEdge_11 : decode cX6_isOnEdge 11 = .ok (.aload_n 0, 1) := by decide +kernel
theorem dX6_isOnEdge_12 : decode cX6_isOnEdge 12 = .ok (.iload 4, 2) := by decide +kernel
theorem dX6_isOnEdge_14 : decode cX6_isOnEdge 14 = .ok (.iload_n 1, 1) := by decide +kernel
theorem dX6_isOnEdge_15 : decode cX6_isOnEdge 15 = .ok (.iload_n 2, 1) := by decide +kernel
theorem dX6_isOnEdge_16 : decode cX6_isOnEdge 16 = .ok (.invokevirtual 139, 3) := by decide +kernel
theorem dX6_isOnEdge_19 : decode cX6_isOnEdge 19 = .ok (.istore 5, 2) := by decide +kernel
theorem dX6_isOnEdge_21 : decode cX6_isOnEdge 21 = .ok (.iload 5, 2) := by decide +kernel
theorem dX6_isOnEdge_23 : decode cX6_isOnEdge 23 = .ok (.ifCond .ge 5, 3) := by decide +kernel
theorem dX6_isOnEdge_26 : decode cX6_isOnEdge 26 = .ok (.iconst 0, 1) := by decide +kernel
theorem dX6_isOnEdge_27 : decode cX6_isOnEdge 27 = .ok (.ireturn, 1) := by decide +kernel
theorem dX6_isOnEdge_28 : decode cX6_isOnEdge 28 = .ok (.iload_n 3, 1) := by decide +kernel
theorem dX6_isOnEdge_29 : decode cX6_isOnEdge 29 = .ok (.ifCond .ne 8, 3) := by decide +kernel
theorem dX6_isOnEdge_32 : decode cX6_isOnEdge 32 = .ok (.iload 5, 2) := by decide +kernel
theorem dX6_isOnEdge_34 : decode cX6_isOnEdge 34 = .ok (.ifCond .ne 7, 3) := by decide +kernel
theorem dX6_isOnEdge_37 : decode cX6_isOnEdge 37 = .ok (.iconst 1, 1) := by decide +kernel
theorem dX6_isOnEdge_38 : decode cX6_isOnEdge 38 = .ok (.goto 4, 3) := by decide +kernel
theorem dX6_isOnEdge_41 : decode cX6_isOnEdge 41 = .ok (.iconst 0, 1) := by decide +kernel
theorem dX6_isOnEdge_42 : decode cX6_isOnEdge 42 = .ok (.istore_n 3, 1) := by decide +kernel
theorem dX6_isOnEdge_43 : decode cX6_isOnEdge 43 = .ok (.iinc 4 1, 3) := by decide +kernel
theorem dX6_isOnEdge_46 : decode cX6_isOnEdge 46 = .ok (.goto (-41), 3) := by decide +kernel
theorem dX6_isOnEdge_49 : decode cX6_isOnEdge 49 = .ok (.iload_n 3, 1) := by decide +kernel
theorem dX6_isOnEdge_50 : decode cX6_isOnEdge 50 = .ok (.ireturn, 1) := by decide +kernel
theorem dX7_init_0 : decode cX7_init 0 = .ok (.aload_n 0, 1) := by decide +kernel
theorem dX7_init_1 : decode cX7_init 1 = .ok (.invokespecial 3, 3) := by decide +kernel
theorem dX7_init_4 : decode cX7_init 4 = .ok (.aload_n 0, 1) := by decide +kernel
theorem dX7_init_5 : decode cX7_init 5 = .ok (.aload_n 1, 1) := by decide +kernel
theorem dX7_init_6 : decode cX7_init 6 = .ok (.putfield 9, 3) := by decide +kernel
theorem dX7_init_9 : decode cX7_init 9 = .ok (.aload_n 0, 1) := by decide +kernel
theorem dX7_init_10 : decode cX7_init 10 = .ok (.aload_n 2, 1) := by decide +kernel
theorem dX7_init_11 : decode cX7_init 11 = .ok (.putfield 15, 3) := by decide +kernel
theorem dX7_init_14 : decode cX7_init 14 = .ok (.aload_n 0, 1) := by decide +kernel
theorem dX7_init_15 : decode cX7_init 15 = .ok (.aload_n 3, 1) := by decide +kernel
theorem dX7_init_16 : decode cX7_init 16 = .ok (.putfield 19, 3) := by decide +kernel
theorem dX7_init_19 : decode cX7_init 19 = .ok (.aload_n 0, 1) := by decide +kernel
theorem dX7_init_20 : decode cX7_init 20 = .ok (.bipush 64, 2) := by decide +kernel
theorem dX7_init_22 : decode cX7_init 22 = .ok (.newarray .int, 2) := by decide +kernel
theorem dX7_init_24 : decode cX7_init 24 = .ok (.putfield 23, 3) := by decide +kernel
theorem dX7_init_27 : decode cX7_init 27 = .ok (.aload_n 0, 1) := by decide +kernel
theorem dX7_init_28 : decode cX7_init 28 = .ok (.iconst 4, 1) := by decide +kernel
theorem dX7_init_29 : decode cX7_init 29 = .ok (.newarray .int, 2) := by decide +kernel
theorem dX7_init_31 : decode cX7_init 31 = .ok (.putfield 27, 3) := by decide +kernel
theorem dX7_init_34 : decode cX7_init 34 = .ok (.aload_n 0, 1) := by decide +kernel
theorem dX7_init_35 : decode cX7_init 35 = .ok (.iconst 4, 1) := by decide +kernel
theorem dX7_init_36 : decode cX7_init 36 = .ok (.newarray .int, 2) := by decide +kernel
theorem dX7_init_38 : decode cX7_init 38 = .ok (.putfield 30, 3) := by decide +kernel
theorem dX7_init_41 : decode cX7_init 41 = .ok (.aload_n 0, 1) := by decide +kernel
theorem dX7_init_42 : decode cX7_init 42 = .ok (.new 33, 3) := by decide +kernel
theorem dX7_init_45 : decode cX7_init 45 = .ok (.dup, 1) := by decide +kernel
theorem dX7_init_46 : decode cX7_init 46 = .ok (.invokespecial 35, 3) := by decide +kernel
theorem dX7_init_49 : decode cX7_init 49 = .ok (.putfield 36, 3) := by decide +kernel
theorem dX7_init_52 : decode cX7_init 52 = .ok (.aload_n 0, 1) := by decide +kernel
theorem dX7_init_53 : decode cX7_init 53 = .ok (.iconst 3, 1) := by decide +kernel
theorem dX7_init_54 : decode cX7_init 54 = .ok (.newarray .int, 2) := by decide +kernel
theorem dX7_init_56 : decode cX7_init 56 = .ok (.putfield 40, 3) := by decide +kernel
theorem dX7_init_59 : decode cX7_init 59 = .ok (.return_, 1) := by decide +kernel
theorem dX7_flushApart_0 : decode cX7_flushApart 0 = .ok (.aload_n 0, 1) := by decide +kernel
theorem dX7_flushApart_1 : decode cX7_flushApart 1 = .ok (.getfield 36, 3) := by decide +kernel
theorem dX7_flushApart_4 : decode cX7_flushApart 4 = .ok (.aload_n 1, 1) := by decide +kernel
theorem dX7_flushApart_5 : decode cX7_flushApart 5 = .ok (.invokevirtual 43, 3) := by decide +kernel
theorem dX7_flushApart_8 : decode cX7_flushApart 8 = .ok (.aload_n 0, 1) := by decide +kernel
theorem dX7_flushApart_9 : decode cX7_flushApart 9 = .ok (.getfield 19, 3) := by decide +kernel
theorem dX7_flushApart_12 : decode cX7_flushApart 12 = .ok (.aload_n 0, 1) := by decide +kernel
theorem dX7_flushApart_13 : decode cX7_flushApart 13 = .ok (.getfield 36, 3) := by decide +kernel
theorem dX7_flushApart_16 : decode cX7_flushApart 16 = .ok (.invokevirtual 47, 3) := by decide +kernel
theorem dX7_flushApart_19 : decode cX7_flushApart 19 = .ok (.pop, 1) := by decide +kernel
theorem dX7_flushApart_20 : decode cX7_flushApart 20 = .ok (.return_, 1) := by decide +kernel
theorem dX7_drawWhole_0 : decode cX7_drawWhole 0 = .ok (.aload_n 0, 1) := by decide +kernel
theorem dX7_drawWhole_1 : decode cX7_drawWhole 1 = .ok (.getfield 36, 3) := by decide +kernel
theorem dX7_drawWhole_4 : decode cX7_drawWhole 4 = .ok (.aload_n 1, 1) := by decide +kernel
theorem dX7_drawWhole_5 : decode cX7_drawWhole 5 = .ok (.invokevirtual 43, 3) := by decide +kernel
theorem dX7_drawWhole_8 : decode cX7_drawWhole 8 = .ok (.aload_n 0, 1) := by decide +kernel
theorem dX7_drawWhole_9 : decode cX7_drawWhole 9 = .ok (.getfield 36, 3) := by decide +kernel
theorem dX7_drawWhole_12 : decode cX7_drawWhole 12 = .ok (.getfield 53, 3) := by decide +kernel
theorem dX7_drawWhole_15 : decode cX7_drawWhole 15 = .ok (.iconst 2, 1) := by decide +kernel
theorem dX7_drawWhole_16 : decode cX7_drawWhole 16 = .ok (.iload_n 2, 1) := by decide +kernel
theorem dX7_drawWhole_17 : decode cX7_drawWhole 17 = .ok (.iastore, 1) := by decide +kernel
theorem dX7_drawWhole_18 : decode cX7_drawWhole 18 = .ok (.aload_n 0, 1) := by decide +kernel
theorem dX7_drawWhole_19 : decode cX7_drawWhole 19 = .ok (.getfield 36, 3) := by decide +kernel
theorem dX7_drawWhole_22 : decode cX7_drawWhole 22 = .ok (.aload_n 0, 1) := by decide +kernel
theorem dX7_drawWhole_23 : decode cX7_drawWhole 23 = .ok (.getfield 9, 3) := by decide +kernel
theorem dX7_drawWhole_26 : decode cX7_drawWhole 26 = .ok (.getfield 56, 3) := by decide +kernel
theorem dX7_drawWhole_29 : decode cX7_drawWhole 29 = .ok (.invokevirtual 62, 3) := by decide +kernel
theorem dX7_drawWhole_32 : decode cX7_drawWhole 32 = .ok (.pop, 1) := by decide +kernel
theorem dX7_drawWhole_33 : decode cX7_drawWhole 33 = .ok (.iconst 0, 1) := by decide +kernel
theorem dX7_drawWhole_34 : decode cX7_drawWhole 34 = .ok (.istore 4, 2) := by decide +kernel
theorem dX7_drawWhole_36 : decode cX7_drawWhole 36 = .ok (.iload 4, 2) := by decide +kernel
theorem dX7_drawWhole_38 : decode cX7_drawWhole 38 = .ok (.aload_n 0, 1) := by decide +kernel
theorem dX7_drawWhole_39 : decode cX7_drawWhole 39 = .ok (.getfield 9, 3) := by decide +kernel
theorem dX7_drawWhole_42 : decode cX7_drawWhole 42 = .ok (.getfield 66, 3) := by decide +kernel
theorem dX7_drawWhole_45 : decode cX7_drawWhole 45 = .ok (.if_icmp .ge 29, 3) := by decide +kernel
theorem dX7_drawWhole_48 : decode cX7_drawWhole 48 = .ok (.iload 4, 2) := by decide +kernel
theorem dX7_drawWhole_50 : decode cX7_drawWhole 50 = .ok (.iload_n 3, 1) := by decide +kernel
theorem dX7_drawWhole_51 : decode cX7_drawWhole 51 = .ok (.if_icmp .eq 17, 3) := by decide +kernel
theorem dX7_drawWhole_54 : decode cX7_drawWhole 54 = .ok (.aload_n 0, 1) := by decide +kernel
theorem dX7_drawWhole_55 : decode cX7_drawWhole 55 = .ok (.getfield 19, 3) := by decide +kernel
theorem dX7_drawWhole_58 : decode cX7_drawWhole 58 = .ok (.aload_n 0, 1) := by decide +kernel
theorem dX7_drawWhole_59 : decode cX7_drawWhole 59 = .ok (.getfield 36, 3) := by decide +kernel
theorem dX7_drawWhole_62 : decode cX7_drawWhole 62 = .ok (.iload 4, 2) := by decide +kernel
theorem dX7_drawWhole_64 : decode cX7_drawWhole 64 = .ok (.invokevirtual 69, 3) := by decide +kernel
theorem dX7_drawWhole_67 : decode cX7_drawWhole 67 = .ok (.pop, 1) := by decide +kernel
theorem dX7_drawWhole_68 : decode cX7_drawWhole 68 = .ok (.iinc 4 1, 3) := by decide +kernel
theorem dX7_drawWhole_71 : decode cX7_drawWhole 71 = .ok (.goto (-35), 3) := by decide +kernel
theorem dX7_drawWhole_74 : decode cX7_drawWhole 74 = .ok (.aload_n 0, 1) := by decide +kernel
theorem dX7_drawWhole_75 : decode cX7_drawWhole 75 = .ok (.getfield 19, 3) := by decide +kernel
theorem dX7_drawWhole_78 : decode cX7_drawWhole 78 = .ok (.aload_n 0, 1) := by decide +kernel
theorem dX7_drawWhole_79 : decode cX7_drawWhole 79 = .ok (.getfield 36, 3) := by decide +kernel
theorem dX7_drawWhole_82 : decode cX7_drawWhole 82 = .ok (.invokevirtual 47, 3) := by decide +kernel
theorem dX7_drawWhole_85 : decode cX7_drawWhole 85 = .ok (.pop, 1) := by decide +kernel
theorem dX7_drawWhole_86 : decode cX7_drawWhole 86 = .ok (.return_, 1) := by decide +kernel
theorem dX7_leftOf_0 : decode cX7_leftOf 0 = .ok (.aload_n 0, 1) := by decide +kernel
theorem dX7_leftOf_1 : decode cX7_leftOf 1 = .ok (.aload_n 1, 1) := by decide +kernel
theorem dX7_leftOf_2 : decode cX7_leftOf 2 = .ok (.aload_n 1, 1) := by decide +kernel
theorem dX7_leftOf_3 : decode cX7_leftOf 3 = .ok (.getfield 53, 3) := by decide +kernel
theorem dX7_leftOf_6 : decode cX7_leftOf 6 = .ok (.iconst 2, 1) := by decide +kernel
theorem dX7_leftOf_7 : decode cX7_leftOf 7 = .ok (.iaload, 1) := by decide +kernel
theorem dX7_leftOf_8 : decode cX7_leftOf 8 = .ok (.iconst (-1), 1) := by decide +kernel
theorem dX7_leftOf_9 : decode cX7_leftOf 9 = .ok (.invokevirtual 73, 3) := by decide +kernel
theorem dX7_leftOf_12 : decode cX7_leftOf 12 = .ok (.iconst 0, 1) := by decide +kernel
theorem dX7_leftOf_13 : decode cX7_leftOf 13 = .ok (.istore_n 3, 1) := by decide +kernel
theorem dX7_leftOf_14 : decode cX7_leftOf 14 = .ok (.iload_n 3, 1) := by decide +kernel
theorem dX7_leftOf_15 : decode cX7_leftOf 15 = .ok (.bipush 64, 2) := by decide +kernel
theorem dX7_leftOf_17 : decode cX7_leftOf 17 = .ok (.if_icmp .ge 27, 3) := by decide +kernel
theorem dX7_leftOf_20 : decode cX7_leftOf 20 = .ok (.aload_n 0, 1) := by decide +kernel
theorem dX7_leftOf_21 : decode cX7_leftOf 21 = .ok (.getfield 23, 3) := by decide +kernel
theorem dX7_leftOf_24 : decode cX7_leftOf 24 = .ok (.iload_n 3, 1) := by decide +kernel
theorem dX7_leftOf_25 : decode cX7_leftOf 25 = .ok (.aload_n 0, 1) := by decide +kernel
theorem dX7_leftOf_26 : decode cX7_leftOf 26 = .ok (.getfield 15, 3) := by decide +kernel
theorem dX7_leftOf_29 : decode cX7_leftOf 29 = .ok (.aload_n 0, 1) := by decide +kernel
theorem dX7_leftOf_30 : decode cX7_leftOf 30 = .ok (.getfield 36, 3) := by decide +kernel
theorem dX7_leftOf_33 : decode cX7_leftOf 33 = .ok (.iload_n 3, 1) := by decide +kernel
theorem dX7_leftOf_34 : decode cX7_leftOf 34 = .ok (.invokevirtual 77, 3) := by decide +kernel
theorem dX7_leftOf_37 : decode cX7_leftOf 37 = .ok (.iastore, 1) := by decide +kernel
theorem dX7_leftOf_38 : decode cX7_leftOf 38 = .ok (.iinc 3 1, 3) := by decide +kernel
theorem dX7_leftOf_41 : decode cX7_leftOf 41 = .ok (.goto (-27), 3) := by decide +kernel
theorem dX7_leftOf_44 : decode cX7_leftOf 44 = .ok (.aload_n 0, 1) := by decide +kernel
theorem dX7_leftOf_45 : decode cX7_leftOf 45 = .ok (.aload_n 1, 1) := by decide +kernel
theorem dX7_leftOf_46 : decode cX7_leftOf 46 = .ok (.aload_n 1, 1) := by decide +kernel
theorem dX7_leftOf_47 : decode cX7_leftOf 47 = .ok (.getfield 53, 3) := by decide +kernel
theorem dX7_leftOf_50 : decode cX7_leftOf 50 = .ok (.iconst 2, 1) := by decide +kernel
theorem dX7_leftOf_51 : decode cX7_leftOf 51 = .ok (.iaload, 1) := by decide +kernel
theorem dX7_leftOf_52 : decode cX7_leftOf 52 = .ok (.iload_n 2, 1) := by decide +kernel
theorem dX7_leftOf_53 : decode cX7_leftOf 53 = .ok (.invokevirtual 73, 3) := by decide +kernel
theorem dX7_leftOf_56 : decode cX7_leftOf 56 = .ok (.iconst 0, 1) := by decide +kernel
theorem dX7_leftOf_57 : decode cX7_leftOf 57 = .ok (.istore_n 3, 1) := by decide +kernel
theorem dX7_leftOf_58 : decode cX7_leftOf 58 = .ok (.iconst 0, 1) := by decide +kernel
theorem dX7_leftOf_59 : decode cX7_leftOf 59 = .ok (.istore 4, 2) := by decide +kernel
theorem dX7_leftOf_61 : decode cX7_leftOf 61 = .ok (.iload 4, 2) := by decide +kernel
theorem dX7_leftOf_63 : decode cX7_leftOf 63 = .ok (.bipush 64, 2) := by decide +kernel
theorem dX7_leftOf_65 : decode cX7_leftOf 65 = .ok (.if_icmp .ge 35, 3) := by decide +kernel
theorem dX7_leftOf_68 : decode cX7_leftOf 68 = .ok (.aload_n 0, 1) := by decide +kernel
theorem dX7_leftOf_69 : decode cX7_leftOf 69 = .ok (.getfield 23, 3) := by decide +kernel
theorem dX7_leftOf_72 : decode cX7_leftOf 72 = .ok (.iload 4, 2) := by decide +kernel
theorem dX7_leftOf_74 : decode cX7_leftOf 74 = .ok (.iaload, 1) := by decide +kernel
theorem dX7_leftOf_75 : decode cX7_leftOf 75 = .ok (.aload_n 0, 1) := by decide +kernel
theorem dX7_leftOf_76 : decode cX7_leftOf 76 = .ok (.getfield 15, 3) := by decide +kernel
theorem dX7_leftOf_79 : decode cX7_leftOf 79 = .ok (.aload_n 0, 1) := by decide +kernel
theorem dX7_leftOf_80 : decode cX7_leftOf 80 = .ok (.getfield 36, 3) := by decide +kernel
theorem dX7_leftOf_83 : decode cX7_leftOf 83 = .ok (.iload 4, 2) := by decide +kernel
theorem dX7_leftOf_85 : decode cX7_leftOf 85 = .ok (.invokevirtual 77, 3) := by decide +kernel
theorem dX7_leftOf_88 : decode cX7_leftOf 88 = .ok (.if_icmp .eq 6, 3) := by decide +kernel
theorem dX7_leftOf_91 : decode cX7_leftOf 91 = .ok (.iinc 3 1, 3) := by decide +kernel
theorem dX7_leftOf_94 : decode cX7_leftOf 94 = .ok (.iinc 4 1, 3) := by decide +kernel
theorem dX7_leftOf_97 : decode cX7_leftOf 97 = .ok (.goto (-36), 3) := by decide +kernel
theorem dX7_leftOf_100 : decode cX7_leftOf 100 = .ok (.iload_n 3, 1) := by decide +kernel
theorem dX7_leftOf_101 : decode cX7_leftOf 101 = .ok (.ireturn, 1) := by decide +kernel
theorem dX7_hidesOf_0 : decode cX7_hidesOf 0 = .ok (.aload_n 0, 1) := by decide +kernel
theorem dX7_hidesOf_1 : decode cX7_hidesOf 1 = .ok (.aload_n 1, 1) := by decide +kernel
theorem dX7_hidesOf_2 : decode cX7_hidesOf 2 = .ok (.aload_n 1, 1) := by decide +kernel
theorem dX7_hidesOf_3 : decode cX7_hidesOf 3 = .ok (.getfield 53, 3) := by decide +kernel
theorem dX7_hidesOf_6 : decode cX7_hidesOf 6 = .ok (.iconst 2, 1) := by decide +kernel
theorem dX7_hidesOf_7 : decode cX7_hidesOf 7 = .ok (.iaload, 1) := by decide +kernel
theorem dX7_hidesOf_8 : decode cX7_hidesOf 8 = .ok (.iconst (-1), 1) := by decide +kernel
theorem dX7_hidesOf_9 : decode cX7_hidesOf 9 = .ok (.invokevirtual 73, 3) := by decide +kernel
theorem dX7_hidesOf_12 : decode cX7_hidesOf 12 = .ok (.iconst 0, 1) := by decide +kernel
theorem dX7_hidesOf_13 : decode cX7_hidesOf 13 = .ok (.istore_n 2, 1) := by decide +kernel
theorem dX7_hidesOf_14 : decode cX7_hidesOf 14 = .ok (.iconst 0, 1) := by decide +kernel
theorem dX7_hidesOf_15 : decode cX7_hidesOf 15 = .ok (.istore_n 3, 1) := by decide +kernel
theorem dX7_hidesOf_16 : decode cX7_hidesOf 16 = .ok (.iload_n 3, 1) := by decide +kernel
theorem dX7_hidesOf_17 : decode cX7_hidesOf 17 = .ok (.aload_n 0, 1) := by decide +kernel
theorem dX7_hidesOf_18 : decode cX7_hidesOf 18 = .ok (.getfield 9, 3) := by decide +kernel
theorem dX7_hidesOf_21 : decode cX7_hidesOf 21 = .ok (.getfield 66, 3) := by decide +kernel
theorem dX7_hidesOf_24 : decode cX7_hidesOf 24 = .ok (.if_icmp .ge 29, 3) := by decide +kernel
theorem dX7_hidesOf_27 : decode cX7_hidesOf 27 = .ok (.aload_n 0, 1) := by decide +kernel
theorem dX7_hidesOf_28 : decode cX7_hidesOf 28 = .ok (.getfield 36, 3) := by decide +kernel
theorem dX7_hidesOf_31 : decode cX7_hidesOf 31 = .ok (.getfield 82, 3) := by decide +kernel
theorem dX7_hidesOf_34 : decode cX7_hidesOf 34 = .ok (.iload_n 3, 1) := by decide +kernel
theorem dX7_hidesOf_35 : decode cX7_hidesOf 35 = .ok (.laload, 1) := by decide +kernel
theorem dX7_hidesOf_36 : decode cX7_hidesOf 36 = .ok (.lconst 0, 1) := by decide +kernel
theorem dX7_hidesOf_37 : decode cX7_hidesOf 37 = .ok (.lcmp, 1) := by decide +kernel
theorem dX7_hidesOf_38 : decode cX7_hidesOf 38 = .ok (.ifCond .ne 9, 3) := by decide +kernel
theorem dX7_hidesOf_41 : decode cX7_hidesOf 41 = .ok (.iload_n 2, 1) := by decide +kernel
theorem dX7_hidesOf_42 : decode cX7_hidesOf 42 = .ok (.iconst 1, 1) := by decide +kernel
theorem dX7_hidesOf_43 : decode cX7_hidesOf 43 = .ok (.iload_n 3, 1) := by decide +kernel
theorem dX7_hidesOf_44 : decode cX7_hidesOf 44 = .ok (.ishl, 1) := by decide +kernel
theorem dX7_hidesOf_45 : decode cX7_hidesOf 45 = .ok (.ior, 1) := by decide +kernel
theorem dX7_hidesOf_46 : decode cX7_hidesOf 46 = .ok (.istore_n 2, 1) := by decide +kernel
theorem dX7_hidesOf_47 : decode cX7_hidesOf 47 = .ok (.iinc 3 1, 3) := by decide +kernel
theorem dX7_hidesOf_50 : decode cX7_hidesOf 50 = .ok (.goto (-34), 3) := by decide +kernel
theorem dX7_hidesOf_53 : decode cX7_hidesOf 53 = .ok (.iload_n 2, 1) := by decide +kernel
theorem dX7_hidesOf_54 : decode cX7_hidesOf 54 = .ok (.ireturn, 1) := by decide +kernel
theorem dX7_savedOf_0 : decode cX7_savedOf 0 = .ok (.aload_n 0, 1) := by decide +kernel
theorem dX7_savedOf_1 : decode cX7_savedOf 1 = .ok (.aload_n 1, 1) := by decide +kernel
theorem dX7_savedOf_2 : decode cX7_savedOf 2 = .ok (.iconst 0, 1) := by decide +kernel
theorem dX7_savedOf_3 : decode cX7_savedOf 3 = .ok (.iconst (-1), 1) := by decide +kernel
theorem dX7_savedOf_4 : decode cX7_savedOf 4 = .ok (.invokevirtual 73, 3) := by decide +kernel
theorem dX7_savedOf_7 : decode cX7_savedOf 7 = .ok (.aload_n 0, 1) := by decide +kernel
theorem dX7_savedOf_8 : decode cX7_savedOf 8 = .ok (.getfield 36, 3) := by decide +kernel
theorem dX7_savedOf_11 : decode cX7_savedOf 11 = .ok (.invokevirtual 86, 3) := by decide +kernel
theorem dX7_savedOf_14 : decode cX7_savedOf 14 = .ok (.istore_n 2, 1) := by decide +kernel
theorem dX7_savedOf_15 : decode cX7_savedOf 15 = .ok (.aload_n 0, 1) := by decide +kernel
theorem dX7_savedOf_16 : decode cX7_savedOf 16 = .ok (.aload_n 1, 1) := by decide +kernel
theorem dX7_savedOf_17 : decode cX7_savedOf 17 = .ok (.iconst 1, 1) := by decide +kernel
theorem dX7_savedOf_18 : decode cX7_savedOf 18 = .ok (.iconst (-1), 1) := by decide +kernel
theorem dX7_savedOf_19 : decode cX7_savedOf 19 = .ok (.invokevirtual 73, 3) := by decide +kernel
theorem dX7_savedOf_22 : decode cX7_savedOf 22 = .ok (.iload_n 2, 1) := by decide +kernel
theorem dX7_savedOf_23 : decode cX7_savedOf 23 = .ok (.aload_n 0, 1) := by decide +kernel
theorem dX7_savedOf_24 : decode cX7_savedOf 24 = .ok (.getfield 36, 3) := by decide +kernel
theorem dX7_savedOf_27 : decode cX7_savedOf 27 = .ok (.invokevirtual 86, 3) := by decide +kernel
theorem dX7_savedOf_30 : decode cX7_savedOf 30 = .ok (.isub, 1) := by decide +kernel
theorem dX7_savedOf_31 : decode cX7_savedOf 31 = .ok (.ireturn, 1) := by decide +kernel
theorem dX7_sharedBy_0 : decode cX7_sharedBy 0 = .ok (.iconst 0, 1) := by decide +kernel
theorem dX7_sharedBy_1 : decode cX7_sharedBy 1 = .ok (.istore 5, 2) := by decide +kernel
theorem dX7_sharedBy_3 : decode cX7_sharedBy 3 = .ok (.iconst 0, 1) := by decide +kernel
theorem dX7_sharedBy_4 : decode cX7_sharedBy 4 = .ok (.istore 6, 2) := by decide +kernel
theorem dX7_sharedBy_6 : decode cX7_sharedBy 6 = .ok (.iload 6, 2) := by decide +kernel
theorem dX7_sharedBy_8 : decode cX7_sharedBy 8 = .ok (.aload_n 0, 1) := by decide +kernel
theorem dX7_sharedBy_9 : decode cX7_sharedBy 9 = .ok (.getfield 15, 3) := by decide +kernel
theorem dX7_sharedBy_12 : decode cX7_sharedBy 12 = .ok (.getfield 90, 3) := by decide +kernel
theorem dX7_sharedBy_15 : decode cX7_sharedBy 15 = .ok (.if_icmp .ge 34, 3) := by decide +kernel
theorem dX7_sharedBy_18 : decode cX7_sharedBy 18 = .ok (.aload_n 0, 1) := by decide +kernel
theorem dX7_sharedBy_19 : decode cX7_sharedBy 19 = .ok (.aload_n 1, 1) := by decide +kernel
theorem dX7_sharedBy_20 : decode cX7_sharedBy 20 = .ok (.iload_n 2, 1) := by decide +kernel
theorem dX7_sharedBy_21 : decode cX7_sharedBy 21 = .ok (.iload_n 3, 1) := by decide +kernel
theorem dX7_sharedBy_22 : decode cX7_sharedBy 22 = .ok (.aload_n 0, 1) := by decide +kernel
theorem dX7_sharedBy_23 : decode cX7_sharedBy 23 = .ok (.getfield 15, 3) := by decide +kernel
theorem dX7_sharedBy_26 : decode cX7_sharedBy 26 = .ok (.getfield 93, 3) := by decide +kernel
theorem dX7_sharedBy_29 : decode cX7_sharedBy 29 = .ok (.iload 6, 2) := by decide +kernel
theorem dX7_sharedBy_31 : decode cX7_sharedBy 31 = .ok (.iaload, 1) := by decide +kernel
theorem dX7_sharedBy_32 : decode cX7_sharedBy 32 = .ok (.invokevirtual 96, 3) := by decide +kernel
theorem dX7_sharedBy_35 : decode cX7_sharedBy 35 = .ok (.iload 4, 2) := by decide +kernel
theorem dX7_sharedBy_37 : decode cX7_sharedBy 37 = .ok (.if_icmp .ne 6, 3) := by decide +kernel
theorem dX7_sharedBy_40 : decode cX7_sharedBy 40 = .ok (.iinc 5 1, 3) := by decide +kernel
theorem dX7_sharedBy_43 : decode cX7_sharedBy 43 = .ok (.iinc 6 1, 3) := by decide +kernel
theorem dX7_sharedBy_46 : decode cX7_sharedBy 46 = .ok (.goto (-40), 3) := by decide +kernel
theorem dX7_sharedBy_49 : decode cX7_sharedBy 49 = .ok (.iload 5, 2) := by decide +kernel
theorem dX7_sharedBy_51 : decode cX7_sharedBy 51 = .ok (.ireturn, 1) := by decide +kernel
theorem dX7_coveringAt_0 : decode cX7_coveringAt 0 = .ok (.aload_n 0, 1) := by decide +kernel
theorem dX7_coveringAt_1 : decode cX7_coveringAt 1 = .ok (.getfield 19, 3) := by decide +kernel
theorem dX7_coveringAt_4 : decode cX7_coveringAt 4 = .ok (.aload_n 1, 1) := by decide +kernel
theorem dX7_coveringAt_5 : decode cX7_coveringAt 5 = .ok (.iload_n 2, 1) := by decide +kernel
theorem dX7_coveringAt_6 : decode cX7_coveringAt 6 = .ok (.iload 4, 2) := by decide +kernel
theorem dX7_coveringAt_8 : decode cX7_coveringAt 8 = .ok (.invokevirtual 100, 3) := by decide +kernel
theorem dX7_coveringAt_11 : decode cX7_coveringAt 11 = .ok (.ifCond .lt 7, 3) := by decide +kernel
theorem dX7_coveringAt_14 : decode cX7_coveringAt 14 = .ok (.iconst 1, 1) := by decide +kernel
theorem dX7_coveringAt_15 : decode cX7_coveringAt 15 = .ok (.goto 4, 3) := by decide +kernel
theorem dX7_coveringAt_18 : decode cX7_coveringAt 18 = .ok (.iconst 0, 1) := by decide +kernel
theorem dX7_coveringAt_19 : decode cX7_coveringAt 19 = .ok (.istore 5, 2) := by decide +kernel
theorem dX7_coveringAt_21 : decode cX7_coveringAt 21 = .ok (.aload_n 0, 1) := by decide +kernel
theorem dX7_coveringAt_22 : decode cX7_coveringAt 22 = .ok (.getfield 19, 3) := by decide +kernel
theorem dX7_coveringAt_25 : decode cX7_coveringAt 25 = .ok (.aload_n 1, 1) := by decide +kernel
theorem dX7_coveringAt_26 : decode cX7_coveringAt 26 = .ok (.iload_n 3, 1) := by decide +kernel
theorem dX7_coveringAt_27 : decode cX7_coveringAt 27 = .ok (.iload 4, 2) := by decide +kernel
theorem dX7_coveringAt_29 : decode cX7_coveringAt 29 = .ok (.invokevirtual 100, 3) := by decide +kernel
theorem dX7_coveringAt_32 : decode cX7_coveringAt 32 = .ok (.ifCond .lt 7, 3) := by decide +kernel
theorem dX7_coveringAt_35 : decode cX7_coveringAt 35 = .ok (.iconst 1, 1) := by decide +kernel
theorem dX7_coveringAt_36 : decode cX7_coveringAt 36 = .ok (.goto 4, 3) := by decide +kernel
theorem dX7_coveringAt_39 : decode cX7_coveringAt 39 = .ok (.iconst 0, 1) := by decide +kernel
theorem dX7_coveringAt_40 : decode cX7_coveringAt 40 = .ok (.istore 6, 2) := by decide +kernel
theorem dX7_coveringAt_42 : decode cX7_coveringAt 42 = .ok (.iload 5, 2) := by decide +kernel
theorem dX7_coveringAt_44 : decode cX7_coveringAt 44 = .ok (.iload 6, 2) := by decide +kernel
theorem dX7_coveringAt_46 : decode cX7_coveringAt 46 = .ok (.iadd, 1) := by decide +kernel
theorem dX7_coveringAt_47 : decode cX7_coveringAt 47 = .ok (.ireturn, 1) := by decide +kernel
theorem dX7_onBorder_0 : decode cX7_onBorder 0 = .ok (.aload_n 0, 1) := by decide +kernel
theorem dX7_onBorder_1 : decode cX7_onBorder 1 = .ok (.getfield 19, 3) := by decide +kernel
theorem dX7_onBorder_4 : decode cX7_onBorder 4 = .ok (.aload_n 1, 1) := by decide +kernel
theorem dX7_onBorder_5 : decode cX7_onBorder 5 = .ok (.iload_n 2, 1) := by decide +kernel
theorem dX7_onBorder_6 : decode cX7_onBorder 6 = .ok (.invokevirtual 104, 3) := by decide +kernel
theorem dX7_onBorder_9 : decode cX7_onBorder 9 = .ok (.ifCond .ne 15, 3) := by decide +kernel
theorem dX7_onBorder_12 : decode cX7_onBorder 12 = .ok (.aload_n 0, 1) := by decide +kernel
theorem dX7_onBorder_13 : decode cX7_onBorder 13 = .ok (.getfield 19, 3) := by decide +kernel
theorem dX7_onBorder_16 : decode cX7_onBorder 16 = .ok (.aload_n 1, 1) := by decide +kernel
theorem dX7_onBorder_17 : decode cX7_onBorder 17 = .ok (.iload_n 3, 1) := by decide +kernel
theorem dX7_onBorder_18 : decode cX7_onBorder 18 = .ok (.invokevirtual 104, 3) := by decide +kernel
theorem dX7_onBorder_21 : decode cX7_onBorder 21 = .ok (.ifCond .eq 5, 3) := by decide +kernel
theorem dX7_onBorder_24 : decode cX7_onBorder 24 = .ok (.iconst 0, 1) := by decide +kernel
theorem dX7_onBorder_25 : decode cX7_onBorder 25 = .ok (.ireturn, 1) := by decide +kernel
theorem dX7_onBorder_26 : decode cX7_onBorder 26 = .ok (.iconst 0, 1) := by decide +kernel
theorem dX7_onBorder_27 : decode cX7_onBorder 27 = .ok (.istore 5, 2) := by decide +kernel
theorem dX7_onBorder_29 : decode cX7_onBorder 29 = .ok (.iconst 0, 1) := by decide +kernel
theorem dX7_onBorder_30 : decode cX7_onBorder 30 = .ok (.istore 6, 2) := by decide +kernel
theorem dX7_onBorder_32 : decode cX7_onBorder 32 = .ok (.iload 6, 2) := by decide +kernel
theorem dX7_onBorder_34 : decode cX7_onBorder 34 = .ok (.aload_n 0, 1) := by decide +kernel
theorem dX7_onBorder_35 : decode cX7_onBorder 35 = .ok (.getfield 15, 3) := by decide +kernel
theorem dX7_onBorder_38 : decode cX7_onBorder 38 = .ok (.getfield 90, 3) := by decide +kernel
theorem dX7_onBorder_41 : decode cX7_onBorder 41 = .ok (.if_icmp .ge 117, 3) := by decide +kernel
theorem dX7_onBorder_44 : decode cX7_onBorder 44 = .ok (.aload_n 0, 1) := by decide +kernel
theorem dX7_onBorder_45 : decode cX7_onBorder 45 = .ok (.getfield 15, 3) := by decide +kernel
theorem dX7_onBorder_48 : decode cX7_onBorder 48 = .ok (.getfield 93, 3) := by decide +kernel
theorem dX7_onBorder_51 : decode cX7_onBorder 51 = .ok (.iload 6, 2) := by decide +kernel
theorem dX7_onBorder_53 : decode cX7_onBorder 53 = .ok (.iaload, 1) := by decide +kernel
theorem dX7_onBorder_54 : decode cX7_onBorder 54 = .ok (.istore 7, 2) := by decide +kernel
theorem dX7_onBorder_56 : decode cX7_onBorder 56 = .ok (.aload_n 0, 1) := by decide +kernel
theorem dX7_onBorder_57 : decode cX7_onBorder 57 = .ok (.getfield 15, 3) := by decide +kernel
theorem dX7_onBorder_60 : decode cX7_onBorder 60 = .ok (.getfield 108, 3) := by decide +kernel
theorem dX7_onBorder_63 : decode cX7_onBorder 63 = .ok (.iload 7, 2) := by decide +kernel
theorem dX7_onBorder_65 : decode cX7_onBorder 65 = .ok (.iaload, 1) := by decide +kernel
theorem dX7_onBorder_66 : decode cX7_onBorder 66 = .ok (.istore 8, 2) := by decide +kernel
theorem dX7_onBorder_68 : decode cX7_onBorder 68 = .ok (.aload_n 0, 1) := by decide +kernel
theorem dX7_onBorder_69 : decode cX7_onBorder 69 = .ok (.getfield 15, 3) := by decide +kernel
theorem dX7_onBorder_72 : decode cX7_onBorder 72 = .ok (.getfield 111, 3) := by decide +kernel
theorem dX7_onBorder_75 : decode cX7_onBorder 75 = .ok (.iload 7, 2) := by decide +kernel
theorem dX7_onBorder_77 : decode cX7_onBorder 77 = .ok (.iaload, 1) := by decide +kernel
theorem dX7_onBorder_78 : decode cX7_onBorder 78 = .ok (.istore 9, 2) := by decide +kernel
theorem dX7_onBorder_80 : decode cX7_onBorder 80 = .ok (.aload_n 0, 1) := by decide +kernel
theorem dX7_onBorder_81 : decode cX7_onBorder 81 = .ok (.getfield 19, 3) := by decide +kernel
theorem dX7_onBorder_84 : decode cX7_onBorder 84 = .ok (.getfield 114, 3) := by decide +kernel
theorem dX7_onBorder_87 : decode cX7_onBorder 87 = .ok (.iload_n 2, 1) := by decide +kernel
theorem dX7_onBorder_88 : decode cX7_onBorder 88 = .ok (.aaload, 1) := by decide +kernel
theorem dX7_onBorder_89 : decode cX7_onBorder 89 = .ok (.iload 8, 2) := by decide +kernel
theorem dX7_onBorder_91 : decode cX7_onBorder 91 = .ok (.iload 9, 2) := by decide +kernel
theorem dX7_onBorder_93 : decode cX7_onBorder 93 = .ok (.invokevirtual 118, 3) := by decide +kernel
theorem dX7_onBorder_96 : decode cX7_onBorder 96 = .ok (.ifCond .eq 26, 3) := by decide +kernel
theorem dX7_onBorder_99 : decode cX7_onBorder 99 = .ok (.aload_n 0, 1) := by decide +kernel
theorem dX7_onBorder_100 : decode cX7_onBorder 100 = .ok (.getfield 19, 3) := by decide +kernel
theorem dX7_onBorder_103 : decode cX7_onBorder 103 = .ok (.getfield 114, 3) := by decide +kernel
theorem dX7_onBorder_106 : decode cX7_onBorder 106 = .ok (.iload_n 3, 1) := by decide +kernel
theorem dX7_onBorder_107 : decode cX7_onBorder 107 = .ok (.aaload, 1) := by decide +kernel
theorem dX7_onBorder_108 : decode cX7_onBorder 108 = .ok (.iload 8, 2) := by decide +kernel
theorem dX7_onBorder_110 : decode cX7_onBorder 110 = .ok (.iload 9, 2) := by decide +kernel
theorem dX7_onBorder_112 : decode cX7_onBorder 112 = .ok (.invokevirtual 118, 3) := by decide +kernel
theorem dX7_onBorder_115 : decode cX7_onBorder 115 = .ok (.ifCond .eq 7, 3) := by decide +kernel
theorem dX7_onBorder_118 : decode cX7_onBorder 118 = .ok (.iconst 1, 1) := by decide +kernel
theorem dX7_onBorder_119 : decode cX7_onBorder 119 = .ok (.goto 4, 3) := by decide +kernel
theorem dX7_onBorder_122 : decode cX7_onBorder 122 = .ok (.iconst 0, 1) := by decide +kernel
theorem dX7_onBorder_123 : decode cX7_onBorder 123 = .ok (.istore 10, 2) := by decide +kernel
theorem dX7_onBorder_125 : decode cX7_onBorder 125 = .ok (.iload 10, 2) := by decide +kernel
theorem dX7_onBorder_127 : decode cX7_onBorder 127 = .ok (.ifCond .eq 25, 3) := by decide +kernel
theorem dX7_onBorder_130 : decode cX7_onBorder 130 = .ok (.iload 4, 2) := by decide +kernel
theorem dX7_onBorder_132 : decode cX7_onBorder 132 = .ok (.ifCond .eq 17, 3) := by decide +kernel
theorem dX7_onBorder_135 : decode cX7_onBorder 135 = .ok (.aload_n 0, 1) := by decide +kernel
theorem dX7_onBorder_136 : decode cX7_onBorder 136 = .ok (.aload_n 1, 1) := by decide +kernel
theorem dX7_onBorder_137 : decode cX7_onBorder 137 = .ok (.iload_n 2, 1) := by decide +kernel
theorem dX7_onBorder_138 : decode cX7_onBorder 138 = .ok (.iload_n 3, 1) := by decide +kernel
theorem dX7_onBorder_139 : decode cX7_onBorder 139 = .ok (.iload 7, 2) := by decide +kernel
theorem dX7_onBorder_141 : decode cX7_onBorder 141 = .ok (.invokevirtual 96, 3) := by decide +kernel
theorem dX7_onBorder_144 : decode cX7_onBorder 144 = .ok (.iload 4, 2) := by decide +kernel
theorem dX7_onBorder_146 : decode cX7_onBorder 146 = .ok (.if_icmp .ne 6, 3) := by decide +kernel
theorem dX7_onBorder_149 : decode cX7_onBorder 149 = .ok (.iinc 5 1, 3) := by decide +kernel
theorem dX7_onBorder_152 : decode cX7_onBorder 152 = .ok (.iinc 6 1, 3) := by decide +kernel
theorem dX7_onBorder_155 : decode cX7_onBorder 155 = .ok (.goto (-123), 3) := by decide +kernel
theorem dX7_onBorder_158 : decode cX7_onBorder 158 = .ok (.iload 5, 2) := by decide +kernel
theorem dX7_onBorder_160 : decode cX7_onBorder 160 = .ok (.ireturn, 1) := by decide +kernel
theorem dX7_runOf_0 : decode cX7_runOf 0 = .ok (.aload_n 0, 1) := by decide +kernel
theorem dX7_runOf_1 : decode cX7_runOf 1 = .ok (.getfield 36, 3) := by decide +kernel
theorem dX7_runOf_4 : decode cX7_runOf 4 = .ok (.aload_n 1, 1) := by decide +kernel
theorem dX7_runOf_5 : decode cX7_runOf 5 = .ok (.invokevirtual 43, 3) := by decide +kernel
theorem dX7_runOf_8 : decode cX7_runOf 8 = .ok (.iconst 0, 1) := by decide +kernel
theorem dX7_runOf_9 : decode cX7_runOf 9 = .ok (.istore_n 3, 1) := by decide +kernel
theorem dX7_runOf_10 : decode cX7_runOf 10 = .ok (.iload_n 3, 1) := by decide +kernel
theorem dX7_runOf_11 : decode cX7_runOf 11 = .ok (.aload_n 2, 1) := by decide +kernel
theorem dX7_runOf_12 : decode cX7_runOf 12 = .ok (.getfield 124, 3) := by decide +kernel
theorem dX7_runOf_15 : decode cX7_runOf 15 = .ok (.if_icmp .ge 97, 3) := by decide +kernel
theorem dX7_runOf_18 : decode cX7_runOf 18 = .ok (.aload_n 2, 1) := by decide +kernel
theorem dX7_runOf_19 : decode cX7_runOf 19 = .ok (.iload_n 3, 1) := by decide +kernel
theorem dX7_runOf_20 : decode cX7_runOf 20 = .ok (.invokevirtual 129, 3) := by decide +kernel
theorem dX7_runOf_23 : decode cX7_runOf 23 = .ok (.istore 4, 2) := by decide +kernel
theorem dX7_runOf_25 : decode cX7_runOf 25 = .ok (.aload_n 2, 1) := by decide +kernel
theorem dX7_runOf_26 : decode cX7_runOf 26 = .ok (.iload_n 3, 1) := by decide +kernel
theorem dX7_runOf_27 : decode cX7_runOf 27 = .ok (.iconst 1, 1) := by decide +kernel
theorem dX7_runOf_28 : decode cX7_runOf 28 = .ok (.invokevirtual 132, 3) := by decide +kernel
theorem dX7_runOf_31 : decode cX7_runOf 31 = .ok (.istore 5, 2) := by decide +kernel
theorem dX7_runOf_33 : decode cX7_runOf 33 = .ok (.aload_n 2, 1) := by decide +kernel
theorem dX7_runOf_34 : decode cX7_runOf 34 = .ok (.iload_n 3, 1) := by decide +kernel
theorem dX7_runOf_35 : decode cX7_runOf 35 = .ok (.iconst 2, 1) := by decide +kernel
theorem dX7_runOf_36 : decode cX7_runOf 36 = .ok (.invokevirtual 132, 3) := by decide +kernel
theorem dX7_runOf_39 : decode cX7_runOf 39 = .ok (.istore 6, 2) := by decide +kernel
theorem dX7_runOf_41 : decode cX7_runOf 41 = .ok (.aload_n 2, 1) := by decide +kernel
theorem dX7_runOf_42 : decode cX7_runOf 42 = .ok (.iload_n 3, 1) := by decide +kernel
theorem dX7_runOf_43 : decode cX7_runOf 43 = .ok (.iconst 3, 1) := by decide +kernel
theorem dX7_runOf_44 : decode cX7_runOf 44 = .ok (.invokevirtual 132, 3) := by decide +kernel
theorem dX7_runOf_47 : decode cX7_runOf 47 = .ok (.istore 7, 2) := by decide +kernel
theorem dX7_runOf_49 : decode cX7_runOf 49 = .ok (.aload_n 2, 1) := by decide +kernel
theorem dX7_runOf_50 : decode cX7_runOf 50 = .ok (.iload_n 3, 1) := by decide +kernel
theorem dX7_runOf_51 : decode cX7_runOf 51 = .ok (.iconst 4, 1) := by decide +kernel
theorem dX7_runOf_52 : decode cX7_runOf 52 = .ok (.invokevirtual 132, 3) := by decide +kernel
theorem dX7_runOf_55 : decode cX7_runOf 55 = .ok (.istore 8, 2) := by decide +kernel
theorem dX7_runOf_57 : decode cX7_runOf 57 = .ok (.aload_n 0, 1) := by decide +kernel
theorem dX7_runOf_58 : decode cX7_runOf 58 = .ok (.getfield 19, 3) := by decide +kernel
theorem dX7_runOf_61 : decode cX7_runOf 61 = .ok (.aload_n 0, 1) := by decide +kernel
theorem dX7_runOf_62 : decode cX7_runOf 62 = .ok (.getfield 36, 3) := by decide +kernel
theorem dX7_runOf_65 : decode cX7_runOf 65 = .ok (.iload 4, 2) := by decide +kernel
theorem dX7_runOf_67 : decode cX7_runOf 67 = .ok (.iload 5, 2) := by decide +kernel
theorem dX7_runOf_69 : decode cX7_runOf 69 = .ok (.iload 6, 2) := by decide +kernel
theorem dX7_runOf_71 : decode cX7_runOf 71 = .ok (.iload 7, 2) := by decide +kernel
theorem dX7_runOf_73 : decode cX7_runOf 73 = .ok (.iload 8, 2) := by decide +kernel
theorem dX7_runOf_75 : decode cX7_runOf 75 = .ok (.invokevirtual 136, 3) := by decide +kernel
theorem dX7_runOf_78 : decode cX7_runOf 78 = .ok (.iconst (-1), 1) := by decide +kernel
theorem dX7_runOf_79 : decode cX7_runOf 79 = .ok (.if_icmp .eq 5, 3) := by decide +kernel
theorem dX7_runOf_82 : decode cX7_runOf 82 = .ok (.iload_n 3, 1) := by decide +kernel
theorem dX7_runOf_83 : decode cX7_runOf 83 = .ok (.ireturn, 1) := by decide +kernel
theorem dX7_runOf_84 : decode cX7_runOf 84 = .ok (.aload_n 0, 1) := by decide +kernel
theorem dX7_runOf_85 : decode cX7_runOf 85 = .ok (.getfield 19, 3) := by decide +kernel
theorem dX7_runOf_88 : decode cX7_runOf 88 = .ok (.aload_n 0, 1) := by decide +kernel
theorem dX7_runOf_89 : decode cX7_runOf 89 = .ok (.getfield 36, 3) := by decide +kernel
theorem dX7_runOf_92 : decode cX7_runOf 92 = .ok (.iload 4, 2) := by decide +kernel
theorem dX7_runOf_94 : decode cX7_runOf 94 = .ok (.iload 5, 2) := by decide +kernel
theorem dX7_runOf_96 : decode cX7_runOf 96 = .ok (.iload 6, 2) := by decide +kernel
theorem dX7_runOf_98 : decode cX7_runOf 98 = .ok (.iload 7, 2) := by decide +kernel
theorem dX7_runOf_100 : decode cX7_runOf 100 = .ok (.iload 8, 2) := by decide +kernel
theorem dX7_runOf_102 : decode cX7_runOf 102 = .ok (.invokevirtual 140, 3) := by decide +kernel
theorem dX7_runOf_105 : decode cX7_runOf 105 = .ok (.pop, 1) := by decide +kernel
theorem dX7_runOf_106 : decode cX7_runOf 106 = .ok (.iinc 3 1, 3) := by decide +kernel
theorem dX7_runOf_109 : decode cX7_runOf 109 = .ok (.goto (-99), 3) := by decide +kernel
theorem dX7_runOf_112 : decode cX7_runOf 112 = .ok (.aload_n 2, 1) := by decide +kernel
theorem dX7_runOf_113 : decode cX7_runOf 113 = .ok (.getfield 124, 3) := by decide +kernel
theorem dX7_runOf_116 : decode cX7_runOf 116 = .ok (.ireturn, 1) := by decide +kernel
theorem dX7_tryOrders_0 : decode cX7_tryOrders 0 = .ok (.aload_n 0, 1) := by decide +kernel
theorem dX7_tryOrders_1 : decode cX7_tryOrders 1 = .ok (.getfield 40, 3) := by decide +kernel
theorem dX7_tryOrders_4 : decode cX7_tryOrders 4 = .ok (.iconst 0, 1) := by decide +kernel
theorem dX7_tryOrders_5 : decode cX7_tryOrders 5 = .ok (.invokestatic 143, 3) := by decide +kernel
theorem dX7_tryOrders_8 : decode cX7_tryOrders 8 = .ok (.aload_n 0, 1) := by decide +kernel
theorem dX7_tryOrders_9 : decode cX7_tryOrders 9 = .ok (.getfield 36, 3) := by decide +kernel
theorem dX7_tryOrders_12 : decode cX7_tryOrders 12 = .ok (.aload_n 1, 1) := by decide +kernel
theorem dX7_tryOrders_13 : decode cX7_tryOrders 13 = .ok (.invokevirtual 43, 3) := by decide +kernel
theorem dX7_tryOrders_16 : decode cX7_tryOrders 16 = .ok (.aload_n 0, 1) := by decide +kernel
theorem dX7_tryOrders_17 : decode cX7_tryOrders 17 = .ok (.getfield 36, 3) := by decide +kernel
theorem dX7_tryOrders_20 : decode cX7_tryOrders 20 = .ok (.getfield 53, 3) := by decide +kernel
theorem dX7_tryOrders_23 : decode cX7_tryOrders 23 = .ok (.iconst 2, 1) := by decide +kernel
theorem dX7_tryOrders_24 : decode cX7_tryOrders 24 = .ok (.iconst 0, 1) := by decide +kernel
theorem dX7_tryOrders_25 : decode cX7_tryOrders 25 = .ok (.iastore, 1) := by decide +kernel
theorem dX7_tryOrders_26 : decode cX7_tryOrders 26 = .ok (.aload_n 0, 1) := by decide +kernel
theorem dX7_tryOrders_27 : decode cX7_tryOrders 27 = .ok (.aload_n 1, 1) := by decide +kernel
theorem dX7_tryOrders_28 : decode cX7_tryOrders 28 = .ok (.invokevirtual 149, 3) := by decide +kernel
theorem dX7_tryOrders_31 : decode cX7_tryOrders 31 = .ok (.istore_n 2, 1) := by decide +kernel
theorem dX7_tryOrders_32 : decode cX7_tryOrders 32 = .ok (.iload_n 2, 1) := by decide +kernel
theorem dX7_tryOrders_33 : decode cX7_tryOrders 33 = .ok (.invokestatic 152, 3) := by decide +kernel
theorem dX7_tryOrders_36 : decode cX7_tryOrders 36 = .ok (.istore_n 3, 1) := by decide +kernel
theorem dX7_tryOrders_37 : decode cX7_tryOrders 37 = .ok (.iconst 0, 1) := by decide +kernel
theorem dX7_tryOrders_38 : decode cX7_tryOrders 38 = .ok (.istore 4, 2) := by decide +kernel
theorem dX7_tryOrders_40 : decode cX7_tryOrders 40 = .ok (.iload 4, 2) := by decide +kernel
theorem dX7_tryOrders_42 : decode cX7_tryOrders 42 = .ok (.iload_n 3, 1) := by decide +kernel
theorem dX7_tryOrders_43 : decode cX7_tryOrders 43 = .ok (.if_icmp .ge 78, 3) := by decide +kernel
theorem dX7_tryOrders_46 : decode cX7_tryOrders 46 = .ok (.iload_n 2, 1) := by decide +kernel
theorem dX7_tryOrders_47 : decode cX7_tryOrders 47 = .ok (.ifCond .le 74, 3) := by decide +kernel
theorem dX7_tryOrders_50 : decode cX7_tryOrders 50 = .ok (.aload_n 0, 1) := by decide +kernel
theorem dX7_tryOrders_51 : decode cX7_tryOrders 51 = .ok (.iload 4, 2) := by decide +kernel
theorem dX7_tryOrders_53 : decode cX7_tryOrders 53 = .ok (.iload_n 2, 1) := by decide +kernel
theorem dX7_tryOrders_54 : decode cX7_tryOrders 54 = .ok (.invokevirtual 155, 3) := by decide +kernel
theorem dX7_tryOrders_57 : decode cX7_tryOrders 57 = .ok (.aload_n 0, 1) := by decide +kernel
theorem dX7_tryOrders_58 : decode cX7_tryOrders 58 = .ok (.getfield 36, 3) := by decide +kernel
theorem dX7_tryOrders_61 : decode cX7_tryOrders 61 = .ok (.invokevirtual 86, 3) := by decide +kernel
theorem dX7_tryOrders_64 : decode cX7_tryOrders 64 = .ok (.istore 5, 2) := by decide +kernel
theorem dX7_tryOrders_66 : decode cX7_tryOrders 66 = .ok (.iload 4, 2) := by decide +kernel
theorem dX7_tryOrders_68 : decode cX7_tryOrders 68 = .ok (.ifCond .eq 14, 3) := by decide +kernel
theorem dX7_tryOrders_71 : decode cX7_tryOrders 71 = .ok (.iload 5, 2) := by decide +kernel
theorem dX7_tryOrders_73 : decode cX7_tryOrders 73 = .ok (.aload_n 0, 1) := by decide +kernel
theorem dX7_tryOrders_74 : decode cX7_tryOrders 74 = .ok (.getfield 40, 3) := by decide +kernel
theorem dX7_tryOrders_77 : decode cX7_tryOrders 77 = .ok (.iconst 0, 1) := by decide +kernel
theorem dX7_tryOrders_78 : decode cX7_tryOrders 78 = .ok (.iaload, 1) := by decide +kernel
theorem dX7_tryOrders_79 : decode cX7_tryOrders 79 = .ok (.if_icmp .ge 19, 3) := by decide +kernel
theorem dX7_tryOrders_82 : decode cX7_tryOrders 82 = .ok (.aload_n 0, 1) := by decide +kernel
theorem dX7_tryOrders_83 : decode cX7_tryOrders 83 = .ok (.getfield 40, 3) := by decide +kernel
theorem dX7_tryOrders_86 : decode cX7_tryOrders 86 = .ok (.iconst 0, 1) := by decide +kernel
theorem dX7_tryOrders_87 : decode cX7_tryOrders 87 = .ok (.iload 5, 2) := by decide +kernel
theorem dX7_tryOrders_89 : decode cX7_tryOrders 89 = .ok (.iastore, 1) := by decide +kernel
theorem dX7_tryOrders_90 : decode cX7_tryOrders 90 = .ok (.aload_n 0, 1) := by decide +kernel
theorem dX7_tryOrders_91 : decode cX7_tryOrders 91 = .ok (.getfield 40, 3) := by decide +kernel
theorem dX7_tryOrders_94 : decode cX7_tryOrders 94 = .ok (.iconst 1, 1) := by decide +kernel
theorem dX7_tryOrders_95 : decode cX7_tryOrders 95 = .ok (.iload 4, 2) := by decide +kernel
theorem dX7_tryOrders_97 : decode cX7_tryOrders 97 = .ok (.iastore, 1) := by decide +kernel
theorem dX7_tryOrders_98 : decode cX7_tryOrders 98 = .ok (.aload_n 0, 1) := by decide +kernel
theorem dX7_tryOrders_99 : decode cX7_tryOrders 99 = .ok (.getfield 40, 3) := by decide +kernel
theorem dX7_tryOrders_102 : decode cX7_tryOrders 102 = .ok (.iconst 2, 1) := by decide +kernel
theorem dX7_tryOrders_103 : decode cX7_tryOrders 103 = .ok (.aload_n 0, 1) := by decide +kernel
theorem dX7_tryOrders_104 : decode cX7_tryOrders 104 = .ok (.getfield 40, 3) := by decide +kernel
theorem dX7_tryOrders_107 : decode cX7_tryOrders 107 = .ok (.iconst 2, 1) := by decide +kernel
theorem dX7_tryOrders_108 : decode cX7_tryOrders 108 = .ok (.iaload, 1) := by decide +kernel
theorem dX7_tryOrders_109 : decode cX7_tryOrders 109 = .ok (.iload 5, 2) := by decide +kernel
theorem dX7_tryOrders_111 : decode cX7_tryOrders 111 = .ok (.invokestatic 159, 3) := by decide +kernel
theorem dX7_tryOrders_114 : decode cX7_tryOrders 114 = .ok (.iastore, 1) := by decide +kernel
theorem dX7_tryOrders_115 : decode cX7_tryOrders 115 = .ok (.iinc 4 1, 3) := by decide +kernel
theorem dX7_tryOrders_118 : decode cX7_tryOrders 118 = .ok (.goto (-78), 3) := by decide +kernel
theorem dX7_tryOrders_121 : decode cX7_tryOrders 121 = .ok (.return_, 1) := by decide +kernel
theorem dX7_chooseOpaque_0 : decode cX7_chooseOpaque 0 = .ok (.iconst 0, 1) := by decide +kernel
theorem dX7_chooseOpaque_1 : decode cX7_chooseOpaque 1 = .ok (.istore_n 2, 1) := by decide +kernel
theorem dX7_chooseOpaque_2 : decode cX7_chooseOpaque 2 = .ok (.iconst 0, 1) := by decide +kernel
theorem dX7_chooseOpaque_3 : decode cX7_chooseOpaque 3 = .ok (.istore_n 3, 1) := by decide +kernel
theorem dX7_chooseOpaque_4 : decode cX7_chooseOpaque 4 = .ok (.iload_n 3, 1) := by decide +kernel
theorem dX7_chooseOpaque_5 : decode cX7_chooseOpaque 5 = .ok (.aload_n 0, 1) := by decide +kernel
theorem dX7_chooseOpaque_6 : decode cX7_chooseOpaque 6 = .ok (.getfield 9, 3) := by decide +kernel
theorem dX7_chooseOpaque_9 : decode cX7_chooseOpaque 9 = .ok (.getfield 66, 3) := by decide +kernel
theorem dX7_chooseOpaque_12 : decode cX7_chooseOpaque 12 = .ok (.if_icmp .ge 50, 3) := by decide +kernel
theorem dX7_chooseOpaque_15 : decode cX7_chooseOpaque 15 = .ok (.iload_n 2, 1) := by decide +kernel
theorem dX7_chooseOpaque_16 : decode cX7_chooseOpaque 16 = .ok (.iconst 4, 1) := by decide +kernel
theorem dX7_chooseOpaque_17 : decode cX7_chooseOpaque 17 = .ok (.if_icmp .ge 45, 3) := by decide +kernel
theorem dX7_chooseOpaque_20 : decode cX7_chooseOpaque 20 = .ok (.aload_n 0, 1) := by decide +kernel
theorem dX7_chooseOpaque_21 : decode cX7_chooseOpaque 21 = .ok (.getfield 9, 3) := by decide +kernel
theorem dX7_chooseOpaque_24 : decode cX7_chooseOpaque 24 = .ok (.getfield 164, 3) := by decide +kernel
theorem dX7_chooseOpaque_27 : decode cX7_chooseOpaque 27 = .ok (.iload_n 3, 1) := by decide +kernel
theorem dX7_chooseOpaque_28 : decode cX7_chooseOpaque 28 = .ok (.iaload, 1) := by decide +kernel
theorem dX7_chooseOpaque_29 : decode cX7_chooseOpaque 29 = .ok (.bipush 8, 2) := by decide +kernel
theorem dX7_chooseOpaque_31 : decode cX7_chooseOpaque 31 = .ok (.if_icmp .ne 25, 3) := by decide +kernel
theorem dX7_chooseOpaque_34 : decode cX7_chooseOpaque 34 = .ok (.aload_n 0, 1) := by decide +kernel
theorem dX7_chooseOpaque_35 : decode cX7_chooseOpaque 35 = .ok (.getfield 19, 3) := by decide +kernel
theorem dX7_chooseOpaque_38 : decode cX7_chooseOpaque 38 = .ok (.aload_n 1, 1) := by decide +kernel
theorem dX7_chooseOpaque_39 : decode cX7_chooseOpaque 39 = .ok (.iload_n 3, 1) := by decide +kernel
theorem dX7_chooseOpaque_40 : decode cX7_chooseOpaque 40 = .ok (.invokevirtual 104, 3) := by decide +kernel
theorem dX7_chooseOpaque_43 : decode cX7_chooseOpaque 43 = .ok (.ifCond .ne 13, 3) := by decide +kernel
theorem dX7_chooseOpaque_46 : decode cX7_chooseOpaque 46 = .ok (.aload_n 0, 1) := by decide +kernel
theorem dX7_chooseOpaque_47 : decode cX7_chooseOpaque 47 = .ok (.getfield 27, 3) := by decide +kernel
theorem dX7_chooseOpaque_50 : decode cX7_chooseOpaque 50 = .ok (.iload_n 2, 1) := by decide +kernel
theorem dX7_chooseOpaque_51 : decode cX7_chooseOpaque 51 = .ok (.iload_n 3, 1) := by decide +kernel
theorem dX7_chooseOpaque_52 : decode cX7_chooseOpaque 52 = .ok (.iastore, 1) := by decide +kernel
