theorem dX11_moves_15 : decode cX11_moves 15 = .ok (.iload_n 3, 1) := by decide +kernel
theorem dX11_moves_16 : decode cX11_moves 16 = .ok (.iadd, 1) := by decide +kernel
theorem dX11_moves_17 : decode cX11_moves 17 = .ok (.iastore, 1) := by decide +kernel
theorem dX11_moves_18 : decode cX11_moves 18 = .ok (.aload_n 0, 1) := by decide +kernel
theorem dX11_moves_19 : decode cX11_moves 19 = .ok (.sipush 944, 3) := by decide +kernel
theorem dX11_moves_22 : decode cX11_moves 22 = .ok (.bipush 9, 2) := by decide +kernel
theorem dX11_moves_24 : decode cX11_moves 24 = .ok (.iload_n 1, 1) := by decide +kernel
theorem dX11_moves_25 : decode cX11_moves 25 = .ok (.imul, 1) := by decide +kernel
theorem dX11_moves_26 : decode cX11_moves 26 = .ok (.iadd, 1) := by decide +kernel
theorem dX11_moves_27 : decode cX11_moves 27 = .ok (.iconst 3, 1) := by decide +kernel
theorem dX11_moves_28 : decode cX11_moves 28 = .ok (.iload_n 2, 1) := by decide +kernel
theorem dX11_moves_29 : decode cX11_moves 29 = .ok (.imul, 1) := by decide +kernel
theorem dX11_moves_30 : decode cX11_moves 30 = .ok (.iadd, 1) := by decide +kernel
theorem dX11_moves_31 : decode cX11_moves 31 = .ok (.iconst 1, 1) := by decide +kernel
theorem dX11_moves_32 : decode cX11_moves 32 = .ok (.iadd, 1) := by decide +kernel
theorem dX11_moves_33 : decode cX11_moves 33 = .ok (.dup2, 1) := by decide +kernel
theorem dX11_moves_34 : decode cX11_moves 34 = .ok (.iaload, 1) := by decide +kernel
theorem dX11_moves_35 : decode cX11_moves 35 = .ok (.iload 4, 2) := by decide +kernel
theorem dX11_moves_37 : decode cX11_moves 37 = .ok (.iadd, 1) := by decide +kernel
theorem dX11_moves_38 : decode cX11_moves 38 = .ok (.iastore, 1) := by decide +kernel
theorem dX11_moves_39 : decode cX11_moves 39 = .ok (.return_, 1) := by decide +kernel
theorem dX11_refuses_0 : decode cX11_refuses 0 = .ok (.aload_n 0, 1) := by decide +kernel
theorem dX11_refuses_1 : decode cX11_refuses 1 = .ok (.getfield 35, 3) := by decide +kernel
theorem dX11_refuses_4 : decode cX11_refuses 4 = .ok (.iload_n 1, 1) := by decide +kernel
theorem dX11_refuses_5 : decode cX11_refuses 5 = .ok (.dup2, 1) := by decide +kernel
theorem dX11_refuses_6 : decode cX11_refuses 6 = .ok (.iaload, 1) := by decide +kernel
theorem dX11_refuses_7 : decode cX11_refuses 7 = .ok (.iconst 1, 1) := by decide +kernel
theorem dX11_refuses_8 : decode cX11_refuses 8 = .ok (.iadd, 1) := by decide +kernel
theorem dX11_refuses_9 : decode cX11_refuses 9 = .ok (.iastore, 1) := by decide +kernel
theorem dX11_refuses_10 : decode cX11_refuses 10 = .ok (.iconst (-1), 1) := by decide +kernel
theorem dX11_refuses_11 : decode cX11_refuses 11 = .ok (.ireturn, 1) := by decide +kernel
theorem dX11_draw_0 : decode cX11_draw 0 = .ok (.aload_n 0, 1) := by decide +kernel
theorem dX11_draw_1 : decode cX11_draw 1 = .ok (.iconst 0, 1) := by decide +kernel
theorem dX11_draw_2 : decode cX11_draw 2 = .ok (.putfield 75, 3) := by decide +kernel
theorem dX11_draw_5 : decode cX11_draw 5 = .ok (.aload_n 0, 1) := by decide +kernel
theorem dX11_draw_6 : decode cX11_draw 6 = .ok (.aload_n 0, 1) := by decide +kernel
theorem dX11_draw_7 : decode cX11_draw 7 = .ok (.getfield 38, 3) := by decide +kernel
theorem dX11_draw_10 : decode cX11_draw 10 = .ok (.iload_n 1, 1) := by decide +kernel
theorem dX11_draw_11 : decode cX11_draw 11 = .ok (.invokevirtual 370, 3) := by decide +kernel
theorem dX11_draw_14 : decode cX11_draw 14 = .ok (.istore_n 2, 1) := by decide +kernel
theorem dX11_draw_15 : decode cX11_draw 15 = .ok (.iload_n 2, 1) := by decide +kernel
theorem dX11_draw_16 : decode cX11_draw 16 = .ok (.iconst (-1), 1) := by decide +kernel
theorem dX11_draw_17 : decode cX11_draw 17 = .ok (.if_icmp .eq 9, 3) := by decide +kernel
theorem dX11_draw_20 : decode cX11_draw 20 = .ok (.aload_n 0, 1) := by decide +kernel
theorem dX11_draw_21 : decode cX11_draw 21 = .ok (.iload_n 2, 1) := by decide +kernel
theorem dX11_draw_22 : decode cX11_draw 22 = .ok (.invokevirtual 373, 3) := by decide +kernel
theorem dX11_draw_25 : decode cX11_draw 25 = .ok (.ireturn, 1) := by decide +kernel
theorem dX11_draw_26 : decode cX11_draw 26 = .ok (.aload_n 0, 1) := by decide +kernel
theorem dX11_draw_27 : decode cX11_draw 27 = .ok (.invokevirtual 376, 3) := by decide +kernel
theorem dX11_draw_30 : decode cX11_draw 30 = .ok (.aload_n 0, 1) := by decide +kernel
theorem dX11_draw_31 : decode cX11_draw 31 = .ok (.aload_n 0, 1) := by decide +kernel
theorem dX11_draw_32 : decode cX11_draw 32 = .ok (.getfield 38, 3) := by decide +kernel
theorem dX11_draw_35 : decode cX11_draw 35 = .ok (.iload_n 1, 1) := by decide +kernel
theorem dX11_draw_36 : decode cX11_draw 36 = .ok (.invokevirtual 379, 3) := by decide +kernel
theorem dX11_draw_39 : decode cX11_draw 39 = .ok (.istore_n 3, 1) := by decide +kernel
theorem dX11_draw_40 : decode cX11_draw 40 = .ok (.aload_n 0, 1) := by decide +kernel
theorem dX11_draw_41 : decode cX11_draw 41 = .ok (.iconst 0, 1) := by decide +kernel
theorem dX11_draw_42 : decode cX11_draw 42 = .ok (.iload_n 1, 1) := by decide +kernel
theorem dX11_draw_43 : decode cX11_draw 43 = .ok (.invokevirtual 382, 3) := by decide +kernel
theorem dX11_draw_46 : decode cX11_draw 46 = .ok (.iload_n 3, 1) := by decide +kernel
theorem dX11_draw_47 : decode cX11_draw 47 = .ok (.ireturn, 1) := by decide +kernel
theorem dX11_flush_0 : decode cX11_flush 0 = .ok (.aload_n 0, 1) := by decide +kernel
theorem dX11_flush_1 : decode cX11_flush 1 = .ok (.iconst 0, 1) := by decide +kernel
theorem dX11_flush_2 : decode cX11_flush 2 = .ok (.putfield 75, 3) := by decide +kernel
theorem dX11_flush_5 : decode cX11_flush 5 = .ok (.aload_n 0, 1) := by decide +kernel
theorem dX11_flush_6 : decode cX11_flush 6 = .ok (.aload_n 0, 1) := by decide +kernel
theorem dX11_flush_7 : decode cX11_flush 7 = .ok (.getfield 38, 3) := by decide +kernel
theorem dX11_flush_10 : decode cX11_flush 10 = .ok (.iload_n 1, 1) := by decide +kernel
theorem dX11_flush_11 : decode cX11_flush 11 = .ok (.invokevirtual 386, 3) := by decide +kernel
theorem dX11_flush_14 : decode cX11_flush 14 = .ok (.istore_n 2, 1) := by decide +kernel
theorem dX11_flush_15 : decode cX11_flush 15 = .ok (.iload_n 2, 1) := by decide +kernel
theorem dX11_flush_16 : decode cX11_flush 16 = .ok (.iconst (-1), 1) := by decide +kernel
theorem dX11_flush_17 : decode cX11_flush 17 = .ok (.if_icmp .eq 9, 3) := by decide +kernel
theorem dX11_flush_20 : decode cX11_flush 20 = .ok (.aload_n 0, 1) := by decide +kernel
theorem dX11_flush_21 : decode cX11_flush 21 = .ok (.iload_n 2, 1) := by decide +kernel
theorem dX11_flush_22 : decode cX11_flush 22 = .ok (.invokevirtual 373, 3) := by decide +kernel
theorem dX11_flush_25 : decode cX11_flush 25 = .ok (.ireturn, 1) := by decide +kernel
theorem dX11_flush_26 : decode cX11_flush 26 = .ok (.aload_n 0, 1) := by decide +kernel
theorem dX11_flush_27 : decode cX11_flush 27 = .ok (.invokevirtual 376, 3) := by decide +kernel
theorem dX11_flush_30 : decode cX11_flush 30 = .ok (.aload_n 0, 1) := by decide +kernel
theorem dX11_flush_31 : decode cX11_flush 31 = .ok (.getfield 38, 3) := by decide +kernel
theorem dX11_flush_34 : decode cX11_flush 34 = .ok (.sipush 768, 3) := by decide +kernel
theorem dX11_flush_37 : decode cX11_flush 37 = .ok (.bipush 11, 2) := by decide +kernel
theorem dX11_flush_39 : decode cX11_flush 39 = .ok (.iload_n 1, 1) := by decide +kernel
theorem dX11_flush_40 : decode cX11_flush 40 = .ok (.imul, 1) := by decide +kernel
theorem dX11_flush_41 : decode cX11_flush 41 = .ok (.iadd, 1) := by decide +kernel
theorem dX11_flush_42 : decode cX11_flush 42 = .ok (.iaload, 1) := by decide +kernel
theorem dX11_flush_43 : decode cX11_flush 43 = .ok (.istore_n 3, 1) := by decide +kernel
theorem dX11_flush_44 : decode cX11_flush 44 = .ok (.aload_n 0, 1) := by decide +kernel
theorem dX11_flush_45 : decode cX11_flush 45 = .ok (.aload_n 0, 1) := by decide +kernel
theorem dX11_flush_46 : decode cX11_flush 46 = .ok (.getfield 38, 3) := by decide +kernel
theorem dX11_flush_49 : decode cX11_flush 49 = .ok (.iload_n 1, 1) := by decide +kernel
theorem dX11_flush_50 : decode cX11_flush 50 = .ok (.invokevirtual 328, 3) := by decide +kernel
theorem dX11_flush_53 : decode cX11_flush 53 = .ok (.aload_n 0, 1) := by decide +kernel
theorem dX11_flush_54 : decode cX11_flush 54 = .ok (.iconst 1, 1) := by decide +kernel
theorem dX11_flush_55 : decode cX11_flush 55 = .ok (.iload_n 1, 1) := by decide +kernel
theorem dX11_flush_56 : decode cX11_flush 56 = .ok (.invokevirtual 382, 3) := by decide +kernel
theorem dX11_flush_59 : decode cX11_flush 59 = .ok (.iload_n 3, 1) := by decide +kernel
theorem dX11_flush_60 : decode cX11_flush 60 = .ok (.ireturn, 1) := by decide +kernel
theorem dX11_all_0 : decode cX11_all 0 = .ok (.aload_n 0, 1) := by decide +kernel
theorem dX11_all_1 : decode cX11_all 1 = .ok (.iconst 0, 1) := by decide +kernel
theorem dX11_all_2 : decode cX11_all 2 = .ok (.putfield 75, 3) := by decide +kernel
theorem dX11_all_5 : decode cX11_all 5 = .ok (.aload_n 0, 1) := by decide +kernel
theorem dX11_all_6 : decode cX11_all 6 = .ok (.getfield 214, 3) := by decide +kernel
theorem dX11_all_9 : decode cX11_all 9 = .ok (.ifCond .ne 9, 3) := by decide +kernel
theorem dX11_all_12 : decode cX11_all 12 = .ok (.aload_n 0, 1) := by decide +kernel
theorem dX11_all_13 : decode cX11_all 13 = .ok (.iconst 0, 1) := by decide +kernel
theorem dX11_all_14 : decode cX11_all 14 = .ok (.invokevirtual 373, 3) := by decide +kernel
theorem dX11_all_17 : decode cX11_all 17 = .ok (.ireturn, 1) := by decide +kernel
theorem dX11_all_18 : decode cX11_all 18 = .ok (.aload_n 0, 1) := by decide +kernel
theorem dX11_all_19 : decode cX11_all 19 = .ok (.invokevirtual 376, 3) := by decide +kernel
theorem dX11_all_22 : decode cX11_all 22 = .ok (.iconst 0, 1) := by decide +kernel
theorem dX11_all_23 : decode cX11_all 23 = .ok (.istore_n 1, 1) := by decide +kernel
theorem dX11_all_24 : decode cX11_all 24 = .ok (.iconst 0, 1) := by decide +kernel
theorem dX11_all_25 : decode cX11_all 25 = .ok (.istore_n 2, 1) := by decide +kernel
theorem dX11_all_26 : decode cX11_all 26 = .ok (.iload_n 2, 1) := by decide +kernel
theorem dX11_all_27 : decode cX11_all 27 = .ok (.aload_n 0, 1) := by decide +kernel
theorem dX11_all_28 : decode cX11_all 28 = .ok (.invokevirtual 282, 3) := by decide +kernel
theorem dX11_all_31 : decode cX11_all 31 = .ok (.if_icmp .ge 33, 3) := by decide +kernel
theorem dX11_all_34 : decode cX11_all 34 = .ok (.iload_n 1, 1) := by decide +kernel
theorem dX11_all_35 : decode cX11_all 35 = .ok (.aload_n 0, 1) := by decide +kernel
theorem dX11_all_36 : decode cX11_all 36 = .ok (.getfield 38, 3) := by decide +kernel
theorem dX11_all_39 : decode cX11_all 39 = .ok (.sipush 768, 3) := by decide +kernel
theorem dX11_all_42 : decode cX11_all 42 = .ok (.bipush 11, 2) := by decide +kernel
theorem dX11_all_44 : decode cX11_all 44 = .ok (.iload_n 2, 1) := by decide +kernel
theorem dX11_all_45 : decode cX11_all 45 = .ok (.imul, 1) := by decide +kernel
theorem dX11_all_46 : decode cX11_all 46 = .ok (.iadd, 1) := by decide +kernel
theorem dX11_all_47 : decode cX11_all 47 = .ok (.iaload, 1) := by decide +kernel
theorem dX11_all_48 : decode cX11_all 48 = .ok (.ifCond .le 7, 3) := by decide +kernel
theorem dX11_all_51 : decode cX11_all 51 = .ok (.iconst 1, 1) := by decide +kernel
theorem dX11_all_52 : decode cX11_all 52 = .ok (.goto 4, 3) := by decide +kernel
theorem dX11_all_55 : decode cX11_all 55 = .ok (.iconst 0, 1) := by decide +kernel
theorem dX11_all_56 : decode cX11_all 56 = .ok (.iadd, 1) := by decide +kernel
theorem dX11_all_57 : decode cX11_all 57 = .ok (.istore_n 1, 1) := by decide +kernel
theorem dX11_all_58 : decode cX11_all 58 = .ok (.iinc 2 1, 3) := by decide +kernel
theorem dX11_all_61 : decode cX11_all 61 = .ok (.goto (-35), 3) := by decide +kernel
theorem dX11_all_64 : decode cX11_all 64 = .ok (.aload_n 0, 1) := by decide +kernel
theorem dX11_all_65 : decode cX11_all 65 = .ok (.aload_n 0, 1) := by decide +kernel
theorem dX11_all_66 : decode cX11_all 66 = .ok (.getfield 38, 3) := by decide +kernel
theorem dX11_all_69 : decode cX11_all 69 = .ok (.invokevirtual 389, 3) := by decide +kernel
theorem dX11_all_72 : decode cX11_all 72 = .ok (.aload_n 0, 1) := by decide +kernel
theorem dX11_all_73 : decode cX11_all 73 = .ok (.iconst 2, 1) := by decide +kernel
theorem dX11_all_74 : decode cX11_all 74 = .ok (.iconst 0, 1) := by decide +kernel
theorem dX11_all_75 : decode cX11_all 75 = .ok (.invokevirtual 382, 3) := by decide +kernel
theorem dX11_all_78 : decode cX11_all 78 = .ok (.iload_n 1, 1) := by decide +kernel
theorem dX11_all_79 : decode cX11_all 79 = .ok (.ireturn, 1) := by decide +kernel
theorem dX11_binned_0 : decode cX11_binned 0 = .ok (.iconst 0, 1) := by decide +kernel
theorem dX11_binned_1 : decode cX11_binned 1 = .ok (.istore_n 1, 1) := by decide +kernel
theorem dX11_binned_2 : decode cX11_binned 2 = .ok (.iconst 0, 1) := by decide +kernel
theorem dX11_binned_3 : decode cX11_binned 3 = .ok (.istore_n 2, 1) := by decide +kernel
theorem dX11_binned_4 : decode cX11_binned 4 = .ok (.iload_n 2, 1) := by decide +kernel
theorem dX11_binned_5 : decode cX11_binned 5 = .ok (.aload_n 0, 1) := by decide +kernel
theorem dX11_binned_6 : decode cX11_binned 6 = .ok (.invokevirtual 282, 3) := by decide +kernel
theorem dX11_binned_9 : decode cX11_binned 9 = .ok (.if_icmp .ge 25, 3) := by decide +kernel
theorem dX11_binned_12 : decode cX11_binned 12 = .ok (.iload_n 1, 1) := by decide +kernel
theorem dX11_binned_13 : decode cX11_binned 13 = .ok (.aload_n 0, 1) := by decide +kernel
theorem dX11_binned_14 : decode cX11_binned 14 = .ok (.getfield 38, 3) := by decide +kernel
theorem dX11_binned_17 : decode cX11_binned 17 = .ok (.sipush 768, 3) := by decide +kernel
theorem dX11_binned_20 : decode cX11_binned 20 = .ok (.bipush 11, 2) := by decide +kernel
theorem dX11_binned_22 : decode cX11_binned 22 = .ok (.iload_n 2, 1) := by decide +kernel
theorem dX11_binned_23 : decode cX11_binned 23 = .ok (.imul, 1) := by decide +kernel
theorem dX11_binned_24 : decode cX11_binned 24 = .ok (.iadd, 1) := by decide +kernel
theorem dX11_binned_25 : decode cX11_binned 25 = .ok (.iaload, 1) := by decide +kernel
theorem dX11_binned_26 : decode cX11_binned 26 = .ok (.iadd, 1) := by decide +kernel
theorem dX11_binned_27 : decode cX11_binned 27 = .ok (.istore_n 1, 1) := by decide +kernel
theorem dX11_binned_28 : decode cX11_binned 28 = .ok (.iinc 2 1, 3) := by decide +kernel
theorem dX11_binned_31 : decode cX11_binned 31 = .ok (.goto (-27), 3) := by decide +kernel
theorem dX11_binned_34 : decode cX11_binned 34 = .ok (.iload_n 1, 1) := by decide +kernel
theorem dX11_binned_35 : decode cX11_binned 35 = .ok (.ireturn, 1) := by decide +kernel
theorem dX11_clear_0 : decode cX11_clear 0 = .ok (.aload_n 0, 1) := by decide +kernel
theorem dX11_clear_1 : decode cX11_clear 1 = .ok (.iconst 0, 1) := by decide +kernel
theorem dX11_clear_2 : decode cX11_clear 2 = .ok (.putfield 75, 3) := by decide +kernel
theorem dX11_clear_5 : decode cX11_clear 5 = .ok (.aload_n 0, 1) := by decide +kernel
theorem dX11_clear_6 : decode cX11_clear 6 = .ok (.getfield 214, 3) := by decide +kernel
theorem dX11_clear_9 : decode cX11_clear 9 = .ok (.ifCond .ne 9, 3) := by decide +kernel
theorem dX11_clear_12 : decode cX11_clear 12 = .ok (.aload_n 0, 1) := by decide +kernel
theorem dX11_clear_13 : decode cX11_clear 13 = .ok (.iconst 0, 1) := by decide +kernel
theorem dX11_clear_14 : decode cX11_clear 14 = .ok (.invokevirtual 373, 3) := by decide +kernel
theorem dX11_clear_17 : decode cX11_clear 17 = .ok (.ireturn, 1) := by decide +kernel
theorem dX11_clear_18 : decode cX11_clear 18 = .ok (.aload_n 0, 1) := by decide +kernel
theorem dX11_clear_19 : decode cX11_clear 19 = .ok (.invokevirtual 376, 3) := by decide +kernel
theorem dX11_clear_22 : decode cX11_clear 22 = .ok (.aload_n 0, 1) := by decide +kernel
theorem dX11_clear_23 : decode cX11_clear 23 = .ok (.invokevirtual 392, 3) := by decide +kernel
theorem dX11_clear_26 : decode cX11_clear 26 = .ok (.istore_n 1, 1) := by decide +kernel
theorem dX11_clear_27 : decode cX11_clear 27 = .ok (.aload_n 0, 1) := by decide +kernel
theorem dX11_clear_28 : decode cX11_clear 28 = .ok (.aload_n 0, 1) := by decide +kernel
theorem dX11_clear_29 : decode cX11_clear 29 = .ok (.getfield 38, 3) := by decide +kernel
theorem dX11_clear_32 : decode cX11_clear 32 = .ok (.invokevirtual 217, 3) := by decide +kernel
theorem dX11_clear_35 : decode cX11_clear 35 = .ok (.aload_n 0, 1) := by decide +kernel
theorem dX11_clear_36 : decode cX11_clear 36 = .ok (.iconst 3, 1) := by decide +kernel
theorem dX11_clear_37 : decode cX11_clear 37 = .ok (.iconst 0, 1) := by decide +kernel
theorem dX11_clear_38 : decode cX11_clear 38 = .ok (.invokevirtual 382, 3) := by decide +kernel
theorem dX11_clear_41 : decode cX11_clear 41 = .ok (.iload_n 1, 1) := by decide +kernel
theorem dX11_clear_42 : decode cX11_clear 42 = .ok (.ireturn, 1) := by decide +kernel
theorem dX11_set_0 : decode cX11_set 0 = .ok (.aload_n 0, 1) := by decide +kernel
theorem dX11_set_1 : decode cX11_set 1 = .ok (.iconst 0, 1) := by decide +kernel
theorem dX11_set_2 : decode cX11_set 2 = .ok (.putfield 75, 3) := by decide +kernel
theorem dX11_set_5 : decode cX11_set 5 = .ok (.aload_n 0, 1) := by decide +kernel
theorem dX11_set_6 : decode cX11_set 6 = .ok (.aload_n 0, 1) := by decide +kernel
theorem dX11_set_7 : decode cX11_set 7 = .ok (.getfield 38, 3) := by decide +kernel
theorem dX11_set_10 : decode cX11_set 10 = .ok (.iload_n 1, 1) := by decide +kernel
theorem dX11_set_11 : decode cX11_set 11 = .ok (.iload_n 2, 1) := by decide +kernel
theorem dX11_set_12 : decode cX11_set 12 = .ok (.invokevirtual 395, 3) := by decide +kernel
theorem dX11_set_15 : decode cX11_set 15 = .ok (.istore_n 3, 1) := by decide +kernel
theorem dX11_set_16 : decode cX11_set 16 = .ok (.iload_n 3, 1) := by decide +kernel
theorem dX11_set_17 : decode cX11_set 17 = .ok (.iconst (-1), 1) := by decide +kernel
theorem dX11_set_18 : decode cX11_set 18 = .ok (.if_icmp .eq 9, 3) := by decide +kernel
theorem dX11_set_21 : decode cX11_set 21 = .ok (.aload_n 0, 1) := by decide +kernel
theorem dX11_set_22 : decode cX11_set 22 = .ok (.iload_n 3, 1) := by decide +kernel
theorem dX11_set_23 : decode cX11_set 23 = .ok (.invokevirtual 373, 3) := by decide +kernel
theorem dX11_set_26 : decode cX11_set 26 = .ok (.ireturn, 1) := by decide +kernel
theorem dX11_set_27 : decode cX11_set 27 = .ok (.aload_n 0, 1) := by decide +kernel
theorem dX11_set_28 : decode cX11_set 28 = .ok (.invokevirtual 376, 3) := by decide +kernel
theorem dX11_set_31 : decode cX11_set 31 = .ok (.aload_n 0, 1) := by decide +kernel
theorem dX11_set_32 : decode cX11_set 32 = .ok (.getfield 38, 3) := by decide +kernel
theorem dX11_set_35 : decode cX11_set 35 = .ok (.sipush 1057, 3) := by decide +kernel
theorem dX11_set_38 : decode cX11_set 38 = .ok (.iload_n 1, 1) := by decide +kernel
theorem dX11_set_39 : decode cX11_set 39 = .ok (.iadd, 1) := by decide +kernel
theorem dX11_set_40 : decode cX11_set 40 = .ok (.iaload, 1) := by decide +kernel
theorem dX11_set_41 : decode cX11_set 41 = .ok (.istore 4, 2) := by decide +kernel
theorem dX11_set_43 : decode cX11_set 43 = .ok (.aload_n 0, 1) := by decide +kernel
theorem dX11_set_44 : decode cX11_set 44 = .ok (.getfield 38, 3) := by decide +kernel
theorem dX11_set_47 : decode cX11_set 47 = .ok (.sipush 1057, 3) := by decide +kernel
theorem dX11_set_50 : decode cX11_set 50 = .ok (.iload_n 1, 1) := by decide +kernel
theorem dX11_set_51 : decode cX11_set 51 = .ok (.iadd, 1) := by decide +kernel
theorem dX11_set_52 : decode cX11_set 52 = .ok (.iload_n 2, 1) := by decide +kernel
theorem dX11_set_53 : decode cX11_set 53 = .ok (.iastore, 1) := by decide +kernel
theorem dX11_set_54 : decode cX11_set 54 = .ok (.aload_n 0, 1) := by decide +kernel
theorem dX11_set_55 : decode cX11_set 55 = .ok (.iconst 4, 1) := by decide +kernel
theorem dX11_set_56 : decode cX11_set 56 = .ok (.iload_n 1, 1) := by decide +kernel
theorem dX11_set_57 : decode cX11_set 57 = .ok (.invokevirtual 382, 3) := by decide +kernel
theorem dX11_set_60 : decode cX11_set 60 = .ok (.iload 4, 2) := by decide +kernel
theorem dX11_set_62 : decode cX11_set 62 = .ok (.ireturn, 1) := by decide +kernel
theorem dX11_move_0 : decode cX11_move 0 = .ok (.aload_n 0, 1) := by decide +kernel
theorem dX11_move_1 : decode cX11_move 1 = .ok (.iconst 0, 1) := by decide +kernel
theorem dX11_move_2 : decode cX11_move 2 = .ok (.putfield 75, 3) := by decide +kernel
theorem dX11_move_5 : decode cX11_move 5 = .ok (.aload_n 0, 1) := by decide +kernel
theorem dX11_move_6 : decode cX11_move 6 = .ok (.aload_n 0, 1) := by decide +kernel
theorem dX11_move_7 : decode cX11_move 7 = .ok (.getfield 38, 3) := by decide +kernel
theorem dX11_move_10 : decode cX11_move 10 = .ok (.iload_n 1, 1) := by decide +kernel
theorem dX11_move_11 : decode cX11_move 11 = .ok (.iload_n 2, 1) := by decide +kernel
theorem dX11_move_12 : decode cX11_move 12 = .ok (.iload_n 3, 1) := by decide +kernel
theorem dX11_move_13 : decode cX11_move 13 = .ok (.iload 4, 2) := by decide +kernel
theorem dX11_move_15 : decode cX11_move 15 = .ok (.invokevirtual 399, 3) := by decide +kernel
theorem dX11_move_18 : decode cX11_move 18 = .ok (.istore 5, 2) := by decide +kernel
theorem dX11_move_20 : decode cX11_move 20 = .ok (.iload 5, 2) := by decide +kernel
theorem dX11_move_22 : decode cX11_move 22 = .ok (.iconst (-1), 1) := by decide +kernel
theorem dX11_move_23 : decode cX11_move 23 = .ok (.if_icmp .eq 13, 3) := by decide +kernel
theorem dX11_move_26 : decode cX11_move 26 = .ok (.aload_n 0, 1) := by decide +kernel
theorem dX11_move_27 : decode cX11_move 27 = .ok (.iload 5, 2) := by decide +kernel
theorem dX11_move_29 : decode cX11_move 29 = .ok (.invokevirtual 373, 3) := by decide +kernel
theorem dX11_move_32 : decode cX11_move 32 = .ok (.pop, 1) := by decide +kernel
theorem dX11_move_33 : decode cX11_move 33 = .ok (.ldc 202, 2) := by decide +kernel
theorem dX11_move_35 : decode cX11_move 35 = .ok (.ireturn, 1) := by decide +kernel
theorem dX11_move_36 : decode cX11_move 36 = .ok (.aload_n 0, 1) := by decide +kernel
theorem dX11_move_37 : decode cX11_move 37 = .ok (.invokevirtual 376, 3) := by decide +kernel
theorem dX11_move_40 : decode cX11_move 40 = .ok (.aload_n 0, 1) := by decide +kernel
theorem dX11_move_41 : decode cX11_move 41 = .ok (.getfield 38, 3) := by decide +kernel
theorem dX11_move_44 : decode cX11_move 44 = .ok (.iload_n 1, 1) := by decide +kernel
theorem dX11_move_45 : decode cX11_move 45 = .ok (.iload_n 2, 1) := by decide +kernel
theorem dX11_move_46 : decode cX11_move 46 = .ok (.iload_n 3, 1) := by decide +kernel
theorem dX11_move_47 : decode cX11_move 47 = .ok (.iload 4, 2) := by decide +kernel
theorem dX11_move_49 : decode cX11_move 49 = .ok (.invokestatic 403, 3) := by decide +kernel
theorem dX11_move_52 : decode cX11_move 52 = .ok (.aload_n 0, 1) := by decide +kernel
theorem dX11_move_53 : decode cX11_move 53 = .ok (.iconst 5, 1) := by decide +kernel
theorem dX11_move_54 : decode cX11_move 54 = .ok (.iload_n 1, 1) := by decide +kernel
theorem dX11_move_55 : decode cX11_move 55 = .ok (.invokevirtual 382, 3) := by decide +kernel
theorem dX11_move_58 : decode cX11_move 58 = .ok (.aload_n 0, 1) := by decide +kernel
theorem dX11_move_59 : decode cX11_move 59 = .ok (.aload_n 0, 1) := by decide +kernel
theorem dX11_move_60 : decode cX11_move 60 = .ok (.getfield 38, 3) := by decide +kernel
theorem dX11_move_63 : decode cX11_move 63 = .ok (.iload_n 1, 1) := by decide +kernel
theorem dX11_move_64 : decode cX11_move 64 = .ok (.invokevirtual 278, 3) := by decide +kernel
theorem dX11_move_67 : decode cX11_move 67 = .ok (.aload_n 0, 1) := by decide +kernel
theorem dX11_move_68 : decode cX11_move 68 = .ok (.getfield 238, 3) := by decide +kernel
theorem dX11_move_71 : decode cX11_move 71 = .ok (.ireturn, 1) := by decide +kernel
theorem dX11_chance_0 : decode cX11_chance 0 = .ok (.aload_n 0, 1) := by decide +kernel
theorem dX11_chance_1 : decode cX11_chance 1 = .ok (.aload_n 0, 1) := by decide +kernel
theorem dX11_chance_2 : decode cX11_chance 2 = .ok (.getfield 406, 3) := by decide +kernel
theorem dX11_chance_5 : decode cX11_chance 5 = .ok (.ldc2_w 410, 3) := by decide +kernel
theorem dX11_chance_8 : decode cX11_chance 8 = .ok (.lmul, 1) := by decide +kernel
theorem dX11_chance_9 : decode cX11_chance 9 = .ok (.ldc2_w 412, 3) := by decide +kernel
theorem dX11_chance_12 : decode cX11_chance 12 = .ok (.ladd, 1) := by decide +kernel
theorem dX11_chance_13 : decode cX11_chance 13 = .ok (.putfield 406, 3) := by decide +kernel
theorem dX11_chance_16 : decode cX11_chance 16 = .ok (.aload_n 0, 1) := by decide +kernel
theorem dX11_chance_17 : decode cX11_chance 17 = .ok (.getfield 406, 3) := by decide +kernel
theorem dX11_chance_20 : decode cX11_chance 20 = .ok (.bipush 33, 2) := by decide +kernel
theorem dX11_chance_22 : decode cX11_chance 22 = .ok (.lushr, 1) := by decide +kernel
theorem dX11_chance_23 : decode cX11_chance 23 = .ok (.iload_n 1, 1) := by decide +kernel
theorem dX11_chance_24 : decode cX11_chance 24 = .ok (.i2l, 1) := by decide +kernel
theorem dX11_chance_25 : decode cX11_chance 25 = .ok (.lrem, 1) := by decide +kernel
theorem dX11_chance_26 : decode cX11_chance 26 = .ok (.l2i, 1) := by decide +kernel
theorem dX11_chance_27 : decode cX11_chance 27 = .ok (.ireturn, 1) := by decide +kernel
theorem dX11_happens_0 : decode cX11_happens 0 = .ok (.aload_n 0, 1) := by decide +kernel
theorem dX11_happens_1 : decode cX11_happens 1 = .ok (.bipush 8, 2) := by decide +kernel
theorem dX11_happens_3 : decode cX11_happens 3 = .ok (.invokevirtual 414, 3) := by decide +kernel
theorem dX11_happens_6 : decode cX11_happens 6 = .ok (.istore_n 1, 1) := by decide +kernel
theorem dX11_happens_7 : decode cX11_happens 7 = .ok (.iload_n 1, 1) := by decide +kernel
theorem dX11_happens_8 : decode cX11_happens 8 = .ok (.iconst 5, 1) := by decide +kernel
theorem dX11_happens_9 : decode cX11_happens 9 = .ok (.if_icmp .ge 49, 3) := by decide +kernel
theorem dX11_happens_12 : decode cX11_happens 12 = .ok (.aload_n 0, 1) := by decide +kernel
theorem dX11_happens_13 : decode cX11_happens 13 = .ok (.aload_n 0, 1) := by decide +kernel
theorem dX11_happens_14 : decode cX11_happens 14 = .ok (.getfield 214, 3) := by decide +kernel
theorem dX11_happens_17 : decode cX11_happens 17 = .ok (.invokevirtual 414, 3) := by decide +kernel
theorem dX11_happens_20 : decode cX11_happens 20 = .ok (.istore_n 2, 1) := by decide +kernel
theorem dX11_happens_21 : decode cX11_happens 21 = .ok (.aload_n 0, 1) := by decide +kernel
theorem dX11_happens_22 : decode cX11_happens 22 = .ok (.aload_n 0, 1) := by decide +kernel
theorem dX11_happens_23 : decode cX11_happens 23 = .ok (.getfield 38, 3) := by decide +kernel
theorem dX11_happens_26 : decode cX11_happens 26 = .ok (.iload_n 2, 1) := by decide +kernel
theorem dX11_happens_27 : decode cX11_happens 27 = .ok (.invokevirtual 370, 3) := by decide +kernel
theorem dX11_happens_30 : decode cX11_happens 30 = .ok (.iconst (-1), 1) := by decide +kernel
theorem dX11_happens_31 : decode cX11_happens 31 = .ok (.if_icmp .eq 4, 3) := by decide +kernel
theorem dX11_happens_34 : decode cX11_happens 34 = .ok (.return_, 1) := by decide +kernel
theorem dX11_happens_35 : decode cX11_happens 35 = .ok (.aload_n 0, 1) := by decide +kernel
theorem dX11_happens_36 : decode cX11_happens 36 = .ok (.invokevirtual 376, 3) := by decide +kernel
theorem dX11_happens_39 : decode cX11_happens 39 = .ok (.aload_n 0, 1) := by decide +kernel
theorem dX11_happens_40 : decode cX11_happens 40 = .ok (.aload_n 0, 1) := by decide +kernel
theorem dX11_happens_41 : decode cX11_happens 41 = .ok (.getfield 38, 3) := by decide +kernel
theorem dX11_happens_44 : decode cX11_happens 44 = .ok (.iload_n 2, 1) := by decide +kernel
theorem dX11_happens_45 : decode cX11_happens 45 = .ok (.invokevirtual 379, 3) := by decide +kernel
theorem dX11_happens_48 : decode cX11_happens 48 = .ok (.pop, 1) := by decide +kernel
theorem dX11_happens_49 : decode cX11_happens 49 = .ok (.aload_n 0, 1) := by decide +kernel
theorem dX11_happens_50 : decode cX11_happens 50 = .ok (.iconst 0, 1) := by decide +kernel
theorem dX11_happens_51 : decode cX11_happens 51 = .ok (.iload_n 2, 1) := by decide +kernel
theorem dX11_happens_52 : decode cX11_happens 52 = .ok (.invokevirtual 382, 3) := by decide +kernel
theorem dX11_happens_55 : decode cX11_happens 55 = .ok (.goto 94, 3) := by decide +kernel
theorem dX11_happens_58 : decode cX11_happens 58 = .ok (.iload_n 1, 1) := by decide +kernel
theorem dX11_happens_59 : decode cX11_happens 59 = .ok (.iconst 5, 1) := by decide +kernel
theorem dX11_happens_60 : decode cX11_happens 60 = .ok (.if_icmp .ne 48, 3) := by decide +kernel
theorem dX11_happens_63 : decode cX11_happens 63 = .ok (.aload_n 0, 1) := by decide +kernel
theorem dX11_happens_64 : decode cX11_happens 64 = .ok (.aload_n 0, 1) := by decide +kernel
theorem dX11_happens_65 : decode cX11_happens 65 = .ok (.invokevirtual 282, 3) := by decide +kernel
theorem dX11_happens_68 : decode cX11_happens 68 = .ok (.invokevirtual 414, 3) := by decide +kernel
theorem dX11_happens_71 : decode cX11_happens 71 = .ok (.istore_n 2, 1) := by decide +kernel
theorem dX11_happens_72 : decode cX11_happens 72 = .ok (.aload_n 0, 1) := by decide +kernel
theorem dX11_happens_73 : decode cX11_happens 73 = .ok (.aload_n 0, 1) := by decide +kernel
theorem dX11_happens_74 : decode cX11_happens 74 = .ok (.getfield 38, 3) := by decide +kernel
theorem dX11_happens_77 : decode cX11_happens 77 = .ok (.iload_n 2, 1) := by decide +kernel
theorem dX11_happens_78 : decode cX11_happens 78 = .ok (.invokevirtual 386, 3) := by decide +kernel
theorem dX11_happens_81 : decode cX11_happens 81 = .ok (.iconst (-1), 1) := by decide +kernel
theorem dX11_happens_82 : decode cX11_happens 82 = .ok (.if_icmp .eq 4, 3) := by decide +kernel
theorem dX11_happens_85 : decode cX11_happens 85 = .ok (.return_, 1) := by decide +kernel
theorem dX11_happens_86 : decode cX11_happens 86 = .ok (.aload_n 0, 1) := by decide +kernel
theorem dX11_happens_87 : decode cX11_happens 87 = .ok (.invokevirtual 376, 3) := by decide +kernel
theorem dX11_happens_90 : decode cX11_happens 90 = .ok (.aload_n 0, 1) := by decide +kernel
theorem dX11_happens_91 : decode cX11_happens 91 = .ok (.aload_n 0, 1) := by decide +kernel
theorem dX11_happens_92 : decode cX11_happens 92 = .ok (.getfield 38, 3) := by decide +kernel
theorem dX11_happens_95 : decode cX11_happens 95 = .ok (.iload_n 2, 1) := by decide +kernel
theorem dX11_happens_96 : decode cX11_happens 96 = .ok (.invokevirtual 328, 3) := by decide +kernel
theorem dX11_happens_99 : decode cX11_happens 99 = .ok (.aload_n 0, 1) := by decide +kernel
theorem dX11_happens_100 : decode cX11_happens 100 = .ok (.iconst 1, 1) := by decide +kernel
theorem dX11_happens_101 : decode cX11_happens 101 = .ok (.iload_n 2, 1) := by decide +kernel
theorem dX11_happens_102 : decode cX11_happens 102 = .ok (.invokevirtual 382, 3) := by decide +kernel
theorem dX11_happens_105 : decode cX11_happens 105 = .ok (.goto 44, 3) := by decide +kernel
theorem dX11_happens_108 : decode cX11_happens 108 = .ok (.iload_n 1, 1) := by decide +kernel
theorem dX11_happens_109 : decode cX11_happens 109 = .ok (.bipush 6, 2) := by decide +kernel
theorem dX11_happens_111 : decode cX11_happens 111 = .ok (.if_icmp .ne 34, 3) := by decide +kernel
theorem dX11_happens_114 : decode cX11_happens 114 = .ok (.aload_n 0, 1) := by decide +kernel
theorem dX11_happens_115 : decode cX11_happens 115 = .ok (.invokevirtual 376, 3) := by decide +kernel
theorem dX11_happens_118 : decode cX11_happens 118 = .ok (.aload_n 0, 1) := by decide +kernel
theorem dX11_happens_119 : decode cX11_happens 119 = .ok (.getfield 38, 3) := by decide +kernel
theorem dX11_happens_122 : decode cX11_happens 122 = .ok (.sipush 1059, 3) := by decide +kernel
theorem dX11_happens_125 : decode cX11_happens 125 = .ok (.iconst 1, 1) := by decide +kernel
theorem dX11_happens_126 : decode cX11_happens 126 = .ok (.aload_n 0, 1) := by decide +kernel
theorem dX11_happens_127 : decode cX11_happens 127 = .ok (.getfield 38, 3) := by decide +kernel
theorem dX11_happens_130 : decode cX11_happens 130 = .ok (.sipush 1059, 3) := by decide +kernel
theorem dX11_happens_133 : decode cX11_happens 133 = .ok (.iaload, 1) := by decide +kernel
theorem dX11_happens_134 : decode cX11_happens 134 = .ok (.isub, 1) := by decide +kernel
theorem dX11_happens_135 : decode cX11_happens 135 = .ok (.iastore, 1) := by decide +kernel
theorem dX11_happens_136 : decode cX11_happens 136 = .ok (.aload_n 0, 1) := by decide +kernel
theorem dX11_happens_137 : decode cX11_happens 137 = .ok (.iconst 4, 1) := by decide +kernel
theorem dX11_happens_138 : decode cX11_happens 138 = .ok (.iconst 2, 1) := by decide +kernel
theorem dX11_happens_139 : decode cX11_happens 139 = .ok (.invokevirtual 382, 3) := by decide +kernel
theorem dX11_happens_142 : decode cX11_happens 142 = .ok (.goto 7, 3) := by decide +kernel
theorem dX11_happens_145 : decode cX11_happens 145 = .ok (.aload_n 0, 1) := by decide +kernel
theorem dX11_happens_146 : decode cX11_happens 146 = .ok (.invokevirtual 417, 3) := by decide +kernel
theorem dX11_happens_149 : decode cX11_happens 149 = .ok (.return_, 1) := by decide +kernel
theorem dX11_happensToMove_0 : decode cX11_happensToMove 0 = .ok (.aload_n 0, 1) := by decide +kernel
theorem dX11_happensToMove_1 : decode cX11_happensToMove 1 = .ok (.aload_n 0, 1) := by decide +kernel
theorem dX11_happensToMove_2 : decode cX11_happensToMove 2 = .ok (.getfield 214, 3) := by decide +kernel
theorem dX11_happensToMove_5 : decode cX11_happensToMove 5 = .ok (.invokevirtual 414, 3) := by decide +kernel
theorem dX11_happensToMove_8 : decode cX11_happensToMove 8 = .ok (.istore_n 1, 1) := by decide +kernel
theorem dX11_happensToMove_9 : decode cX11_happensToMove 9 = .ok (.aload_n 0, 1) := by decide +kernel
theorem dX11_happensToMove_10 : decode cX11_happensToMove 10 = .ok (.iconst 3, 1) := by decide +kernel
theorem dX11_happensToMove_11 : decode cX11_happensToMove 11 = .ok (.invokevirtual 414, 3) := by decide +kernel
theorem dX11_happensToMove_14 : decode cX11_happensToMove 14 = .ok (.istore_n 2, 1) := by decide +kernel
theorem dX11_happensToMove_15 : decode cX11_happensToMove 15 = .ok (.aload_n 0, 1) := by decide +kernel
theorem dX11_happensToMove_16 : decode cX11_happensToMove 16 = .ok (.bipush 9, 2) := by decide +kernel
theorem dX11_happensToMove_18 : decode cX11_happensToMove 18 = .ok (.invokevirtual 414, 3) := by decide +kernel
theorem dX11_happensToMove_21 : decode cX11_happensToMove 21 = .ok (.iconst 4, 1) := by decide +kernel
theorem dX11_happensToMove_22 : decode cX11_happensToMove 22 = .ok (.isub, 1) := by decide +kernel
theorem dX11_happensToMove_23 : decode cX11_happensToMove 23 = .ok (.istore_n 3, 1) := by decide +kernel
theorem dX11_happensToMove_24 : decode cX11_happensToMove 24 = .ok (.aload_n 0, 1) := by decide +kernel
theorem dX11_happensToMove_25 : decode cX11_happensToMove 25 = .ok (.bipush 9, 2) := by decide +kernel
theorem dX11_happensToMove_27 : decode cX11_happensToMove 27 = .ok (.invokevirtual 414, 3) := by decide +kernel
theorem dX11_happensToMove_30 : decode cX11_happensToMove 30 = .ok (.iconst 4, 1) := by decide +kernel
theorem dX11_happensToMove_31 : decode cX11_happensToMove 31 = .ok (.isub, 1) := by decide +kernel
theorem dX11_happensToMove_32 : decode cX11_happensToMove 32 = .ok (.istore 4, 2) := by decide +kernel
theorem dX11_happensToMove_34 : decode cX11_happensToMove 34 = .ok (.aload_n 0, 1) := by decide +kernel
theorem dX11_happensToMove_35 : decode cX11_happensToMove 35 = .ok (.aload_n 0, 1) := by decide +kernel
theorem dX11_happensToMove_36 : decode cX11_happensToMove 36 = .ok (.getfield 38, 3) := by decide +kernel
theorem dX11_happensToMove_39 : decode cX11_happensToMove 39 = .ok (.iload_n 1, 1) := by decide +kernel
theorem dX11_happensToMove_40 : decode cX11_happensToMove 40 = .ok (.iload_n 2, 1) := by decide +kernel
theorem dX11_happensToMove_41 : decode cX11_happensToMove 41 = .ok (.iload_n 3, 1) := by decide +kernel
theorem dX11_happensToMove_42 : decode cX11_happensToMove 42 = .ok (.iload 4, 2) := by decide +kernel
theorem dX11_happensToMove_44 : decode cX11_happensToMove 44 = .ok (.invokevirtual 399, 3) := by decide +kernel
theorem dX11_happensToMove_47 : decode cX11_happensToMove 47 = .ok (.iconst (-1), 1) := by decide +kernel
theorem dX11_happensToMove_48 : decode cX11_happensToMove 48 = .ok (.if_icmp .eq 4, 3) := by decide +kernel
theorem dX11_happensToMove_51 : decode cX11_happensToMove 51 = .ok (.return_, 1) := by decide +kernel
theorem dX11_happensToMove_52 : decode cX11_happensToMove 52 = .ok (.aload_n 0, 1) := by decide +kernel
theorem dX11_happensToMove_53 : decode cX11_happensToMove 53 = .ok (.invokevirtual 376, 3) := by decide +kernel
theorem dX11_happensToMove_56 : decode cX11_happensToMove 56 = .ok (.aload_n 0, 1) := by decide +kernel
theorem dX11_happensToMove_57 : decode cX11_happensToMove 57 = .ok (.getfield 38, 3) := by decide +kernel
theorem dX11_happensToMove_60 : decode cX11_happensToMove 60 = .ok (.iload_n 1, 1) := by decide +kernel
theorem dX11_happensToMove_61 : decode cX11_happensToMove 61 = .ok (.iload_n 2, 1) := by decide +kernel
theorem dX11_happensToMove_62 : decode cX11_happensToMove 62 = .ok (.iload_n 3, 1) := by decide +kernel
theorem dX11_happensToMove_63 : decode cX11_happensToMove 63 = .ok (.iload 4, 2) := by decide +kernel
theorem dX11_happensToMove_65 : decode cX11_happensToMove 65 = .ok (.invokestatic 403, 3) := by decide +kernel
theorem dX11_happensToMove_68 : decode cX11_happensToMove 68 = .ok (.aload_n 0, 1) := by decide +kernel
theorem dX11_happensToMove_69 : decode cX11_happensToMove 69 = .ok (.iconst 5, 1) := by decide +kernel
theorem dX11_happensToMove_70 : decode cX11_happensToMove 70 = .ok (.iload_n 1, 1) := by decide +kernel
theorem dX11_happensToMove_71 : decode cX11_happensToMove 71 = .ok (.invokevirtual 382, 3) := by decide +kernel
theorem dX11_happensToMove_74 : decode cX11_happensToMove 74 = .ok (.return_, 1) := by decide +kernel
theorem dX11_years_0 : decode cX11_years 0 = .ok (.aload_n 0, 1) := by decide +kernel
theorem dX11_years_1 : decode cX11_years 1 = .ok (.iconst 0, 1) := by decide +kernel
theorem dX11_years_2 : decode cX11_years 2 = .ok (.putfield 75, 3) := by decide +kernel
theorem dX11_years_5 : decode cX11_years 5 = .ok (.aload_n 0, 1) := by decide +kernel
theorem dX11_years_6 : decode cX11_years 6 = .ok (.getfield 214, 3) := by decide +kernel
theorem dX11_years_9 : decode cX11_years 9 = .ok (.ifCond .eq 15, 3) := by decide +kernel
theorem dX11_years_12 : decode cX11_years 12 = .ok (.iload_n 1, 1) := by decide +kernel
theorem dX11_years_13 : decode cX11_years 13 = .ok (.i2l, 1) := by decide +kernel
theorem dX11_years_14 : decode cX11_years 14 = .ok (.lconst 1, 1) := by decide +kernel
theorem dX11_years_15 : decode cX11_years 15 = .ok (.ldc2_w 420, 3) := by decide +kernel
theorem dX11_years_18 : decode cX11_years 18 = .ok (.invokestatic 148, 3) := by decide +kernel
theorem dX11_years_21 : decode cX11_years 21 = .ok (.ifCond .ne 5, 3) := by decide +kernel
theorem dX11_years_24 : decode cX11_years 24 = .ok (.iconst (-1), 1) := by decide +kernel
theorem dX11_years_25 : decode cX11_years 25 = .ok (.ireturn, 1) := by decide +kernel
theorem dX11_years_26 : decode cX11_years 26 = .ok (.aload_n 0, 1) := by decide +kernel
theorem dX11_years_27 : decode cX11_years 27 = .ok (.lload_n 2, 1) := by decide +kernel
theorem dX11_years_28 : decode cX11_years 28 = .ok (.putfield 406, 3) := by decide +kernel
theorem dX11_years_31 : decode cX11_years 31 = .ok (.iconst 0, 1) := by decide +kernel
theorem dX11_years_32 : decode cX11_years 32 = .ok (.istore 4, 2) := by decide +kernel
theorem dX11_years_34 : decode cX11_years 34 = .ok (.iload 4, 2) := by decide +kernel
theorem dX11_years_36 : decode cX11_years 36 = .ok (.iload_n 1, 1) := by decide +kernel
theorem dX11_years_37 : decode cX11_years 37 = .ok (.if_icmp .ge 13, 3) := by decide +kernel
theorem dX11_years_40 : decode cX11_years 40 = .ok (.aload_n 0, 1) := by decide +kernel
theorem dX11_years_41 : decode cX11_years 41 = .ok (.invokevirtual 422, 3) := by decide +kernel
theorem dX11_years_44 : decode cX11_years 44 = .ok (.iinc 4 1, 3) := by decide +kernel
theorem dX11_years_47 : decode cX11_years 47 = .ok (.goto (-13), 3) := by decide +kernel
theorem dX11_years_50 : decode cX11_years 50 = .ok (.aload_n 0, 1) := by decide +kernel
theorem dX11_years_51 : decode cX11_years 51 = .ok (.aload_n 0, 1) := by decide +kernel
theorem dX11_years_52 : decode cX11_years 52 = .ok (.getfield 38, 3) := by decide +kernel
theorem dX11_years_55 : decode cX11_years 55 = .ok (.invokevirtual 348, 3) := by decide +kernel
theorem dX11_years_58 : decode cX11_years 58 = .ok (.ireturn, 1) := by decide +kernel
theorem dX11_status_0 : decode cX11_status 0 = .ok (.aload_n 0, 1) := by decide +kernel
theorem dX11_status_1 : decode cX11_status 1 = .ok (.iconst 0, 1) := by decide +kernel
theorem dX11_status_2 : decode cX11_status 2 = .ok (.putfield 75, 3) := by decide +kernel
theorem dX11_status_5 : decode cX11_status 5 = .ok (.iload_n 1, 1) := by decide +kernel
theorem dX11_status_6 : decode cX11_status 6 = .ok (.i2l, 1) := by decide +kernel
theorem dX11_status_7 : decode cX11_status 7 = .ok (.lconst 0, 1) := by decide +kernel
theorem dX11_status_8 : decode cX11_status 8 = .ok (.ldc2_w 364, 3) := by decide +kernel
theorem dX11_status_11 : decode cX11_status 11 = .ok (.invokestatic 148, 3) := by decide +kernel
theorem dX11_status_14 : decode cX11_status 14 = .ok (.ifCond .eq 12, 3) := by decide +kernel
theorem dX11_status_17 : decode cX11_status 17 = .ok (.aload_n 0, 1) := by decide +kernel
theorem dX11_status_18 : decode cX11_status 18 = .ok (.getfield 35, 3) := by decide +kernel
theorem dX11_status_21 : decode cX11_status 21 = .ok (.iload_n 1, 1) := by decide +kernel
theorem dX11_status_22 : decode cX11_status 22 = .ok (.iaload, 1) := by decide +kernel
theorem dX11_status_23 : decode cX11_status 23 = .ok (.goto 4, 3) := by decide +kernel
theorem dX11_status_26 : decode cX11_status 26 = .ok (.iconst (-1), 1) := by decide +kernel
theorem dX11_status_27 : decode cX11_status 27 = .ok (.ireturn, 1) := by decide +kernel
theorem dX11_undo_0 : decode cX11_undo 0 = .ok (.aload_n 0, 1) := by decide +kernel
theorem dX11_undo_1 : decode cX11_undo 1 = .ok (.iconst 0, 1) := by decide +kernel
theorem dX11_undo_2 : decode cX11_undo 2 = .ok (.putfield 75, 3) := by decide +kernel
theorem dX11_undo_5 : decode cX11_undo 5 = .ok (.aload_n 0, 1) := by decide +kernel
theorem dX11_undo_6 : decode cX11_undo 6 = .ok (.getfield 221, 3) := by decide +kernel
theorem dX11_undo_9 : decode cX11_undo 9 = .ok (.ifCond .ne 5, 3) := by decide +kernel
theorem dX11_undo_12 : decode cX11_undo 12 = .ok (.iconst (-1), 1) := by decide +kernel
theorem dX11_undo_13 : decode cX11_undo 13 = .ok (.ireturn, 1) := by decide +kernel
theorem dX11_undo_14 : decode cX11_undo 14 = .ok (.aload_n 0, 1) := by decide +kernel
theorem dX11_undo_15 : decode cX11_undo 15 = .ok (.dup, 1) := by decide +kernel
theorem dX11_undo_16 : decode cX11_undo 16 = .ok (.getfield 221, 3) := by decide +kernel
theorem dX11_undo_19 : decode cX11_undo 19 = .ok (.iconst 1, 1) := by decide +kernel
theorem dX11_undo_20 : decode cX11_undo 20 = .ok (.isub, 1) := by decide +kernel
theorem dX11_undo_21 : decode cX11_undo 21 = .ok (.putfield 221, 3) := by decide +kernel
theorem dX11_undo_24 : decode cX11_undo 24 = .ok (.aload_n 0, 1) := by decide +kernel
theorem dX11_undo_25 : decode cX11_undo 25 = .ok (.getfield 48, 3) := by decide +kernel
theorem dX11_undo_28 : decode cX11_undo 28 = .ok (.sipush 1242, 3) := by decide +kernel
theorem dX11_undo_31 : decode cX11_undo 31 = .ok (.aload_n 0, 1) := by decide +kernel
theorem dX11_undo_32 : decode cX11_undo 32 = .ok (.getfield 341, 3) := by decide +kernel
theorem dX11_undo_35 : decode cX11_undo 35 = .ok (.aload_n 0, 1) := by decide +kernel
theorem dX11_undo_36 : decode cX11_undo 36 = .ok (.getfield 221, 3) := by decide +kernel
theorem dX11_undo_39 : decode cX11_undo 39 = .ok (.iadd, 1) := by decide +kernel
theorem dX11_undo_40 : decode cX11_undo 40 = .ok (.bipush 40, 2) := by decide +kernel
theorem dX11_undo_42 : decode cX11_undo 42 = .ok (.irem, 1) := by decide +kernel
theorem dX11_undo_43 : decode cX11_undo 43 = .ok (.imul, 1) := by decide +kernel
theorem dX11_undo_44 : decode cX11_undo 44 = .ok (.aload_n 0, 1) := by decide +kernel
theorem dX11_undo_45 : decode cX11_undo 45 = .ok (.getfield 38, 3) := by decide +kernel
theorem dX11_undo_48 : decode cX11_undo 48 = .ok (.iconst 0, 1) := by decide +kernel
theorem dX11_undo_49 : decode cX11_undo 49 = .ok (.invokestatic 344, 3) := by decide +kernel
theorem dX11_undo_52 : decode cX11_undo 52 = .ok (.aload_n 0, 1) := by decide +kernel
theorem dX11_undo_53 : decode cX11_undo 53 = .ok (.getfield 221, 3) := by decide +kernel
theorem dX11_undo_56 : decode cX11_undo 56 = .ok (.ireturn, 1) := by decide +kernel
theorem dX11_log_0 : decode cX11_log 0 = .ok (.aload_n 0, 1) := by decide +kernel
theorem dX11_log_1 : decode cX11_log 1 = .ok (.iconst 0, 1) := by decide +kernel
theorem dX11_log_2 : decode cX11_log 2 = .ok (.putfield 75, 3) := by decide +kernel
theorem dX11_log_5 : decode cX11_log 5 = .ok (.iload_n 1, 1) := by decide +kernel
theorem dX11_log_6 : decode cX11_log 6 = .ok (.ifCond .lt 27, 3) := by decide +kernel
theorem dX11_log_9 : decode cX11_log 9 = .ok (.iload_n 1, 1) := by decide +kernel
theorem dX11_log_10 : decode cX11_log 10 = .ok (.aload_n 0, 1) := by decide +kernel
theorem dX11_log_11 : decode cX11_log 11 = .ok (.getfield 38, 3) := by decide +kernel
theorem dX11_log_14 : decode cX11_log 14 = .ok (.sipush 1061, 3) := by decide +kernel
theorem dX11_log_17 : decode cX11_log 17 = .ok (.iaload, 1) := by decide +kernel
theorem dX11_log_18 : decode cX11_log 18 = .ok (.if_icmp .ge 15, 3) := by decide +kernel
theorem dX11_log_21 : decode cX11_log 21 = .ok (.iload_n 2, 1) := by decide +kernel
theorem dX11_log_22 : decode cX11_log 22 = .ok (.i2l, 1) := by decide +kernel
theorem dX11_log_23 : decode cX11_log 23 = .ok (.lconst 0, 1) := by decide +kernel
theorem dX11_log_24 : decode cX11_log 24 = .ok (.ldc2_w 160, 3) := by decide +kernel
theorem dX11_log_27 : decode cX11_log 27 = .ok (.invokestatic 148, 3) := by decide +kernel
theorem dX11_log_30 : decode cX11_log 30 = .ok (.ifCond .ne 5, 3) := by decide +kernel
theorem dX11_log_33 : decode cX11_log 33 = .ok (.iconst (-1), 1) := by decide +kernel
theorem dX11_log_34 : decode cX11_log 34 = .ok (.ireturn, 1) := by decide +kernel
theorem dX11_log_35 : decode cX11_log 35 = .ok (.aload_n 0, 1) := by decide +kernel
theorem dX11_log_36 : decode cX11_log 36 = .ok (.getfield 38, 3) := by decide +kernel
theorem dX11_log_39 : decode cX11_log 39 = .ok (.sipush 1062, 3) := by decide +kernel
theorem dX11_log_42 : decode cX11_log 42 = .ok (.iconst 3, 1) := by decide +kernel
theorem dX11_log_43 : decode cX11_log 43 = .ok (.aload_n 0, 1) := by decide +kernel
theorem dX11_log_44 : decode cX11_log 44 = .ok (.getfield 38, 3) := by decide +kernel
theorem dX11_log_47 : decode cX11_log 47 = .ok (.sipush 1061, 3) := by decide +kernel
theorem dX11_log_50 : decode cX11_log 50 = .ok (.iaload, 1) := by decide +kernel
theorem dX11_log_51 : decode cX11_log 51 = .ok (.iconst 1, 1) := by decide +kernel
theorem dX11_log_52 : decode cX11_log 52 = .ok (.isub, 1) := by decide +kernel
theorem dX11_log_53 : decode cX11_log 53 = .ok (.iload_n 1, 1) := by decide +kernel
theorem dX11_log_54 : decode cX11_log 54 = .ok (.isub, 1) := by decide +kernel
theorem dX11_log_55 : decode cX11_log 55 = .ok (.imul, 1) := by decide +kernel
theorem dX11_log_56 : decode cX11_log 56 = .ok (.iadd, 1) := by decide +kernel
theorem dX11_log_57 : decode cX11_log 57 = .ok (.iload_n 2, 1) := by decide +kernel
theorem dX11_log_58 : decode cX11_log 58 = .ok (.iadd, 1) := by decide +kernel
theorem dX11_log_59 : decode cX11_log 59 = .ok (.iaload, 1) := by decide +kernel
theorem dX11_log_60 : decode cX11_log 60 = .ok (.ireturn, 1) := by decide +kernel
theorem dX11_image_0 : decode cX11_image 0 = .ok (.aload_n 0, 1) := by decide +kernel
theorem dX11_image_1 : decode cX11_image 1 = .ok (.iconst 0, 1) := by decide +kernel
theorem dX11_image_2 : decode cX11_image 2 = .ok (.putfield 75, 3) := by decide +kernel
theorem dX11_image_5 : decode cX11_image 5 = .ok (.aload_n 0, 1) := by decide +kernel
theorem dX11_image_6 : decode cX11_image 6 = .ok (.getfield 214, 3) := by decide +kernel
theorem dX11_image_9 : decode cX11_image 9 = .ok (.ifCond .ne 5, 3) := by decide +kernel
theorem dX11_image_12 : decode cX11_image 12 = .ok (.iconst (-1), 1) := by decide +kernel
theorem dX11_image_13 : decode cX11_image 13 = .ok (.ireturn, 1) := by decide +kernel
theorem dX11_image_14 : decode cX11_image 14 = .ok (.aload_n 0, 1) := by decide +kernel
theorem dX11_image_15 : decode cX11_image 15 = .ok (.getfield 38, 3) := by decide +kernel
theorem dX11_image_18 : decode cX11_image 18 = .ok (.iconst 0, 1) := by decide +kernel
theorem dX11_image_19 : decode cX11_image 19 = .ok (.aload_n 0, 1) := by decide +kernel
theorem dX11_image_20 : decode cX11_image 20 = .ok (.getfield 44, 3) := by decide +kernel
theorem dX11_image_23 : decode cX11_image 23 = .ok (.iconst 0, 1) := by decide +kernel
theorem dX11_image_24 : decode cX11_image 24 = .ok (.invokestatic 344, 3) := by decide +kernel
theorem dX11_image_27 : decode cX11_image 27 = .ok (.aload_n 0, 1) := by decide +kernel
theorem dX11_image_28 : decode cX11_image 28 = .ok (.iconst 1, 1) := by decide +kernel
theorem dX11_image_29 : decode cX11_image 29 = .ok (.putfield 224, 3) := by decide +kernel
theorem dX11_image_32 : decode cX11_image 32 = .ok (.aload_n 0, 1) := by decide +kernel
theorem dX11_image_33 : decode cX11_image 33 = .ok (.aload_n 0, 1) := by decide +kernel
theorem dX11_image_34 : decode cX11_image 34 = .ok (.getfield 38, 3) := by decide +kernel
theorem dX11_image_37 : decode cX11_image 37 = .ok (.invokevirtual 348, 3) := by decide +kernel
theorem dX11_image_40 : decode cX11_image 40 = .ok (.ireturn, 1) := by decide +kernel
theorem dX11_back_0 : decode cX11_back 0 = .ok (.aload_n 0, 1) := by decide +kernel
theorem dX11_back_1 : decode cX11_back 1 = .ok (.iconst 0, 1) := by decide +kernel
theorem dX11_back_2 : decode cX11_back 2 = .ok (.putfield 75, 3) := by decide +kernel
theorem dX11_back_5 : decode cX11_back 5 = .ok (.aload_n 0, 1) := by decide +kernel
theorem dX11_back_6 : decode cX11_back 6 = .ok (.getfield 224, 3) := by decide +kernel
theorem dX11_back_9 : decode cX11_back 9 = .ok (.ifCond .ne 5, 3) := by decide +kernel
theorem dX11_back_12 : decode cX11_back 12 = .ok (.iconst (-1), 1) := by decide +kernel
theorem dX11_back_13 : decode cX11_back 13 = .ok (.ireturn, 1) := by decide +kernel
theorem dX11_back_14 : decode cX11_back 14 = .ok (.aload_n 0, 1) := by decide +kernel
theorem dX11_back_15 : decode cX11_back 15 = .ok (.getfield 44, 3) := by decide +kernel
theorem dX11_back_18 : decode cX11_back 18 = .ok (.iconst 0, 1) := by decide +kernel
theorem dX11_back_19 : decode cX11_back 19 = .ok (.aload_n 0, 1) := by decide +kernel
theorem dX11_back_20 : decode cX11_back 20 = .ok (.getfield 38, 3) := by decide +kernel
theorem dX11_back_23 : decode cX11_back 23 = .ok (.iconst 0, 1) := by decide +kernel
theorem dX11_back_24 : decode cX11_back 24 = .ok (.invokestatic 344, 3) := by decide +kernel
theorem dX11_back_27 : decode cX11_back 27 = .ok (.aload_n 0, 1) := by decide +kernel
theorem dX11_back_28 : decode cX11_back 28 = .ok (.iconst 0, 1) := by decide +kernel
theorem dX11_back_29 : decode cX11_back 29 = .ok (.putfield 221, 3) := by decide +kernel
theorem dX11_back_32 : decode cX11_back 32 = .ok (.aload_n 0, 1) := by decide +kernel
theorem dX11_back_33 : decode cX11_back 33 = .ok (.aload_n 0, 1) := by decide +kernel
theorem dX11_back_34 : decode cX11_back 34 = .ok (.getfield 38, 3) := by decide +kernel
theorem dX11_back_37 : decode cX11_back 37 = .ok (.invokevirtual 348, 3) := by decide +kernel
theorem dX11_back_40 : decode cX11_back 40 = .ok (.ireturn, 1) := by decide +kernel
theorem dX11_rule_0 : decode cX11_rule 0 = .ok (.aload_n 0, 1) := by decide +kernel
theorem dX11_rule_1 : decode cX11_rule 1 = .ok (.iconst 0, 1) := by decide +kernel
theorem dX11_rule_2 : decode cX11_rule 2 = .ok (.putfield 75, 3) := by decide +kernel
theorem dX11_rule_5 : decode cX11_rule 5 = .ok (.aload_n 0, 1) := by decide +kernel
theorem dX11_rule_6 : decode cX11_rule 6 = .ok (.getfield 214, 3) := by decide +kernel
theorem dX11_rule_9 : decode cX11_rule 9 = .ok (.ifCond .eq 15, 3) := by decide +kernel
theorem dX11_rule_12 : decode cX11_rule 12 = .ok (.iload_n 1, 1) := by decide +kernel
theorem dX11_rule_13 : decode cX11_rule 13 = .ok (.i2l, 1) := by decide +kernel
theorem dX11_rule_14 : decode cX11_rule 14 = .ok (.lconst 0, 1) := by decide +kernel
theorem dX11_rule_15 : decode cX11_rule 15 = .ok (.ldc2_w 166, 3) := by decide +kernel
theorem dX11_rule_18 : decode cX11_rule 18 = .ok (.invokestatic 148, 3) := by decide +kernel
theorem dX11_rule_21 : decode cX11_rule 21 = .ok (.ifCond .ne 5, 3) := by decide +kernel
theorem dX11_rule_24 : decode cX11_rule 24 = .ok (.iconst (-1), 1) := by decide +kernel
theorem dX11_rule_25 : decode cX11_rule 25 = .ok (.ireturn, 1) := by decide +kernel
theorem dX11_rule_26 : decode cX11_rule 26 = .ok (.iload_n 1, 1) := by decide +kernel
theorem dX11_rule_27 : decode cX11_rule 27 = .ok (.bipush 9, 2) := by decide +kernel
theorem dX11_rule_29 : decode cX11_rule 29 = .ok (.if_icmp .ne 10, 3) := by decide +kernel
theorem dX11_rule_32 : decode cX11_rule 32 = .ok (.aload_n 0, 1) := by decide +kernel
theorem dX11_rule_33 : decode cX11_rule 33 = .ok (.invokevirtual 282, 3) := by decide +kernel
theorem dX11_rule_36 : decode cX11_rule 36 = .ok (.goto 29, 3) := by decide +kernel
theorem dX11_rule_39 : decode cX11_rule 39 = .ok (.iload_n 1, 1) := by decide +kernel
theorem dX11_rule_40 : decode cX11_rule 40 = .ok (.iconst 4, 1) := by decide +kernel
theorem dX11_rule_41 : decode cX11_rule 41 = .ok (.if_icmp .le 18, 3) := by decide +kernel
theorem dX11_rule_44 : decode cX11_rule 44 = .ok (.aload_n 0, 1) := by decide +kernel
theorem dX11_rule_45 : decode cX11_rule 45 = .ok (.getfield 38, 3) := by decide +kernel
theorem dX11_rule_48 : decode cX11_rule 48 = .ok (.sipush 1057, 3) := by decide +kernel
theorem dX11_rule_51 : decode cX11_rule 51 = .ok (.iload_n 1, 1) := by decide +kernel
theorem dX11_rule_52 : decode cX11_rule 52 = .ok (.iadd, 1) := by decide +kernel
theorem dX11_rule_53 : decode cX11_rule 53 = .ok (.iconst 5, 1) := by decide +kernel
theorem dX11_rule_54 : decode cX11_rule 54 = .ok (.isub, 1) := by decide +kernel
theorem dX11_rule_55 : decode cX11_rule 55 = .ok (.iaload, 1) := by decide +kernel
theorem dX11_rule_56 : decode cX11_rule 56 = .ok (.goto 9, 3) := by decide +kernel
theorem dX11_rule_59 : decode cX11_rule 59 = .ok (.aload_n 0, 1) := by decide +kernel
theorem dX11_rule_60 : decode cX11_rule 60 = .ok (.getfield 20, 3) := by decide +kernel
theorem dX11_rule_63 : decode cX11_rule 63 = .ok (.iload_n 1, 1) := by decide +kernel
theorem dX11_rule_64 : decode cX11_rule 64 = .ok (.iaload, 1) := by decide +kernel
theorem dX11_rule_65 : decode cX11_rule 65 = .ok (.ireturn, 1) := by decide +kernel
theorem dX11_isPixel_0 : decode cX11_isPixel 0 = .ok (.aload_n 0, 1) := by decide +kernel
theorem dX11_isPixel_1 : decode cX11_isPixel 1 = .ok (.getfield 214, 3) := by decide +kernel
theorem dX11_isPixel_4 : decode cX11_isPixel 4 = .ok (.ifCond .le 43, 3) := by decide +kernel
theorem dX11_isPixel_7 : decode cX11_isPixel 7 = .ok (.iload_n 1, 1) := by decide +kernel
theorem dX11_isPixel_8 : decode cX11_isPixel 8 = .ok (.i2l, 1) := by decide +kernel
theorem dX11_isPixel_9 : decode cX11_isPixel 9 = .ok (.lconst 0, 1) := by decide +kernel
theorem dX11_isPixel_10 : decode cX11_isPixel 10 = .ok (.aload_n 0, 1) := by decide +kernel
theorem dX11_isPixel_11 : decode cX11_isPixel 11 = .ok (.getfield 20, 3) := by decide +kernel
theorem dX11_isPixel_14 : decode cX11_isPixel 14 = .ok (.iconst 0, 1) := by decide +kernel
theorem dX11_isPixel_15 : decode cX11_isPixel 15 = .ok (.iaload, 1) := by decide +kernel
theorem dX11_isPixel_16 : decode cX11_isPixel 16 = .ok (.iconst 1, 1) := by decide +kernel
theorem dX11_isPixel_17 : decode cX11_isPixel 17 = .ok (.isub, 1) := by decide +kernel
theorem dX11_isPixel_18 : decode cX11_isPixel 18 = .ok (.i2l, 1) := by decide +kernel
theorem dX11_isPixel_19 : decode cX11_isPixel 19 = .ok (.invokestatic 148, 3) := by decide +kernel
theorem dX11_isPixel_22 : decode cX11_isPixel 22 = .ok (.ifCond .eq 25, 3) := by decide +kernel
theorem dX11_isPixel_25 : decode cX11_isPixel 25 = .ok (.iload_n 2, 1) := by decide +kernel
theorem dX11_isPixel_26 : decode cX11_isPixel 26 = .ok (.i2l, 1) := by decide +kernel
theorem dX11_isPixel_27 : decode cX11_isPixel 27 = .ok (.lconst 0, 1) := by decide +kernel
theorem dX11_isPixel_28 : decode cX11_isPixel 28 = .ok (.aload_n 0, 1) := by decide +kernel
theorem dX11_isPixel_29 : decode cX11_isPixel 29 = .ok (.getfield 20, 3) := by decide +kernel
theorem dX11_isPixel_32 : decode cX11_isPixel 32 = .ok (.iconst 1, 1) := by decide +kernel
theorem dX11_isPixel_33 : decode cX11_isPixel 33 = .ok (.iaload, 1) := by decide +kernel
theorem dX11_isPixel_34 : decode cX11_isPixel 34 = .ok (.iconst 1, 1) := by decide +kernel
theorem dX11_isPixel_35 : decode cX11_isPixel 35 = .ok (.isub, 1) := by decide +kernel
theorem dX11_isPixel_36 : decode cX11_isPixel 36 = .ok (.i2l, 1) := by decide +kernel
theorem dX11_isPixel_37 : decode cX11_isPixel 37 = .ok (.invokestatic 148, 3) := by decide +kernel
theorem dX11_isPixel_40 : decode cX11_isPixel 40 = .ok (.ifCond .eq 7, 3) := by decide +kernel
theorem dX11_isPixel_43 : decode cX11_isPixel 43 = .ok (.iconst 1, 1) := by decide +kernel
theorem dX11_isPixel_44 : decode cX11_isPixel 44 = .ok (.goto 4, 3) := by decide +kernel
theorem dX11_isPixel_47 : decode cX11_isPixel 47 = .ok (.iconst 0, 1) := by decide +kernel
theorem dX11_isPixel_48 : decode cX11_isPixel 48 = .ok (.ireturn, 1) := by decide +kernel
theorem dX11_isSample_0 : decode cX11_isSample 0 = .ok (.aload_n 0, 1) := by decide +kernel
theorem dX11_isSample_1 : decode cX11_isSample 1 = .ok (.iload_n 1, 1) := by decide +kernel
theorem dX11_isSample_2 : decode cX11_isSample 2 = .ok (.iload_n 2, 1) := by decide +kernel
theorem dX11_isSample_3 : decode cX11_isSample 3 = .ok (.invokevirtual 425, 3) := by decide +kernel
theorem dX11_isSample_6 : decode cX11_isSample 6 = .ok (.ifCond .eq 25, 3) := by decide +kernel
theorem dX11_isSample_9 : decode cX11_isSample 9 = .ok (.iload_n 3, 1) := by decide +kernel
theorem dX11_isSample_10 : decode cX11_isSample 10 = .ok (.i2l, 1) := by decide +kernel
theorem dX11_isSample_11 : decode cX11_isSample 11 = .ok (.lconst 0, 1) := by decide +kernel
theorem dX11_isSample_12 : decode cX11_isSample 12 = .ok (.aload_n 0, 1) := by decide +kernel
theorem dX11_isSample_13 : decode cX11_isSample 13 = .ok (.getfield 20, 3) := by decide +kernel
theorem dX11_isSample_16 : decode cX11_isSample 16 = .ok (.iconst 3, 1) := by decide +kernel
theorem dX11_isSample_17 : decode cX11_isSample 17 = .ok (.iaload, 1) := by decide +kernel
theorem dX11_isSample_18 : decode cX11_isSample 18 = .ok (.iconst 1, 1) := by decide +kernel
theorem dX11_isSample_19 : decode cX11_isSample 19 = .ok (.isub, 1) := by decide +kernel
theorem dX11_isSample_20 : decode cX11_isSample 20 = .ok (.i2l, 1) := by decide +kernel
theorem dX11_isSample_21 : decode cX11_isSample 21 = .ok (.invokestatic 148, 3) := by decide +kernel
theorem dX11_isSample_24 : decode cX11_isSample 24 = .ok (.ifCond .eq 7, 3) := by decide +kernel
theorem dX11_isSample_27 : decode cX11_isSample 27 = .ok (.iconst 1, 1) := by decide +kernel
theorem dX11_isSample_28 : decode cX11_isSample 28 = .ok (.goto 4, 3) := by decide +kernel
theorem dX11_isSample_31 : decode cX11_isSample 31 = .ok (.iconst 0, 1) := by decide +kernel
theorem dX11_isSample_32 : decode cX11_isSample 32 = .ok (.ireturn, 1) := by decide +kernel
theorem dX11_coversSample_0 : decode cX11_coversSample 0 = .ok (.aload_n 0, 1) := by decide +kernel
theorem dX11_coversSample_1 : decode cX11_coversSample 1 = .ok (.bipush 8, 2) := by decide +kernel
theorem dX11_coversSample_3 : decode cX11_coversSample 3 = .ok (.iload_n 1, 1) := by decide +kernel
theorem dX11_coversSample_4 : decode cX11_coversSample 4 = .ok (.imul, 1) := by decide +kernel
theorem dX11_coversSample_5 : decode cX11_coversSample 5 = .ok (.aload_n 0, 1) := by decide +kernel
theorem dX11_coversSample_6 : decode cX11_coversSample 6 = .ok (.iload_n 3, 1) := by decide +kernel
theorem dX11_coversSample_7 : decode cX11_coversSample 7 = .ok (.invokevirtual 298, 3) := by decide +kernel
theorem dX11_coversSample_10 : decode cX11_coversSample 10 = .ok (.iadd, 1) := by decide +kernel
theorem dX11_coversSample_11 : decode cX11_coversSample 11 = .ok (.bipush 8, 2) := by decide +kernel
theorem dX11_coversSample_13 : decode cX11_coversSample 13 = .ok (.iload_n 2, 1) := by decide +kernel
theorem dX11_coversSample_14 : decode cX11_coversSample 14 = .ok (.imul, 1) := by decide +kernel
theorem dX11_coversSample_15 : decode cX11_coversSample 15 = .ok (.aload_n 0, 1) := by decide +kernel
theorem dX11_coversSample_16 : decode cX11_coversSample 16 = .ok (.iload_n 3, 1) := by decide +kernel
theorem dX11_coversSample_17 : decode cX11_coversSample 17 = .ok (.invokevirtual 301, 3) := by decide +kernel
theorem dX11_coversSample_20 : decode cX11_coversSample 20 = .ok (.iadd, 1) := by decide +kernel
theorem dX11_coversSample_21 : decode cX11_coversSample 21 = .ok (.invokevirtual 304, 3) := by decide +kernel
theorem dX11_coversSample_24 : decode cX11_coversSample 24 = .ok (.ireturn, 1) := by decide +kernel
theorem dX11_maskOf_0 : decode cX11_maskOf 0 = .ok (.iconst 0, 1) := by decide +kernel
theorem dX11_maskOf_1 : decode cX11_maskOf 1 = .ok (.istore_n 3, 1) := by decide +kernel
theorem dX11_maskOf_2 : decode cX11_maskOf 2 = .ok (.iconst 0, 1) := by decide +kernel
theorem dX11_maskOf_3 : decode cX11_maskOf 3 = .ok (.istore 4, 2) := by decide +kernel
theorem dX11_maskOf_5 : decode cX11_maskOf 5 = .ok (.iload 4, 2) := by decide +kernel
theorem dX11_maskOf_7 : decode cX11_maskOf 7 = .ok (.aload_n 0, 1) := by decide +kernel
theorem dX11_maskOf_8 : decode cX11_maskOf 8 = .ok (.getfield 20, 3) := by decide +kernel
theorem dX11_maskOf_11 : decode cX11_maskOf 11 = .ok (.iconst 3, 1) := by decide +kernel
theorem dX11_maskOf_12 : decode cX11_maskOf 12 = .ok (.iaload, 1) := by decide +kernel
theorem dX11_maskOf_13 : decode cX11_maskOf 13 = .ok (.if_icmp .ge 31, 3) := by decide +kernel
theorem dX11_maskOf_16 : decode cX11_maskOf 16 = .ok (.iload_n 3, 1) := by decide +kernel
theorem dX11_maskOf_17 : decode cX11_maskOf 17 = .ok (.aload_n 0, 1) := by decide +kernel
theorem dX11_maskOf_18 : decode cX11_maskOf 18 = .ok (.iload_n 1, 1) := by decide +kernel
theorem dX11_maskOf_19 : decode cX11_maskOf 19 = .ok (.iload_n 2, 1) := by decide +kernel
theorem dX11_maskOf_20 : decode cX11_maskOf 20 = .ok (.iload 4, 2) := by decide +kernel
theorem dX11_maskOf_22 : decode cX11_maskOf 22 = .ok (.invokevirtual 428, 3) := by decide +kernel
theorem dX11_maskOf_25 : decode cX11_maskOf 25 = .ok (.ifCond .eq 10, 3) := by decide +kernel
theorem dX11_maskOf_28 : decode cX11_maskOf 28 = .ok (.iconst 1, 1) := by decide +kernel
theorem dX11_maskOf_29 : decode cX11_maskOf 29 = .ok (.iload 4, 2) := by decide +kernel
theorem dX11_maskOf_31 : decode cX11_maskOf 31 = .ok (.ishl, 1) := by decide +kernel
theorem dX11_maskOf_32 : decode cX11_maskOf 32 = .ok (.goto 4, 3) := by decide +kernel
theorem dX11_maskOf_35 : decode cX11_maskOf 35 = .ok (.iconst 0, 1) := by decide +kernel
theorem dX11_maskOf_36 : decode cX11_maskOf 36 = .ok (.ior, 1) := by decide +kernel
theorem dX11_maskOf_37 : decode cX11_maskOf 37 = .ok (.istore_n 3, 1) := by decide +kernel
theorem dX11_maskOf_38 : decode cX11_maskOf 38 = .ok (.iinc 4 1, 3) := by decide +kernel
theorem dX11_maskOf_41 : decode cX11_maskOf 41 = .ok (.goto (-36), 3) := by decide +kernel
theorem dX11_maskOf_44 : decode cX11_maskOf 44 = .ok (.iload_n 3, 1) := by decide +kernel
theorem dX11_maskOf_45 : decode cX11_maskOf 45 = .ok (.ireturn, 1) := by decide +kernel
theorem dX11_covered_0 : decode cX11_covered 0 = .ok (.iconst 0, 1) := by decide +kernel
theorem dX11_covered_1 : decode cX11_covered 1 = .ok (.istore_n 1, 1) := by decide +kernel
theorem dX11_covered_2 : decode cX11_covered 2 = .ok (.iconst 0, 1) := by decide +kernel
theorem dX11_covered_3 : decode cX11_covered 3 = .ok (.istore_n 2, 1) := by decide +kernel
theorem dX11_covered_4 : decode cX11_covered 4 = .ok (.iload_n 2, 1) := by decide +kernel
theorem dX11_covered_5 : decode cX11_covered 5 = .ok (.aload_n 0, 1) := by decide +kernel
theorem dX11_covered_6 : decode cX11_covered 6 = .ok (.getfield 20, 3) := by decide +kernel
theorem dX11_covered_9 : decode cX11_covered 9 = .ok (.iconst 1, 1) := by decide +kernel
theorem dX11_covered_10 : decode cX11_covered 10 = .ok (.iaload, 1) := by decide +kernel
theorem dX11_covered_11 : decode cX11_covered 11 = .ok (.if_icmp .ge 39, 3) := by decide +kernel
theorem dX11_covered_14 : decode cX11_covered 14 = .ok (.iconst 0, 1) := by decide +kernel
theorem dX11_covered_15 : decode cX11_covered 15 = .ok (.istore_n 3, 1) := by decide +kernel
theorem dX11_covered_16 : decode cX11_covered 16 = .ok (.iload_n 3, 1) := by decide +kernel
theorem dX11_covered_17 : decode cX11_covered 17 = .ok (.aload_n 0, 1) := by decide +kernel
theorem dX11_covered_18 : decode cX11_covered 18 = .ok (.getfield 20, 3) := by decide +kernel
theorem dX11_covered_21 : decode cX11_covered 21 = .ok (.iconst 0, 1) := by decide +kernel
theorem dX11_covered_22 : decode cX11_covered 22 = .ok (.iaload, 1) := by decide +kernel
theorem dX11_covered_23 : decode cX11_covered 23 = .ok (.if_icmp .ge 21, 3) := by decide +kernel
theorem dX11_covered_26 : decode cX11_covered 26 = .ok (.iload_n 1, 1) := by decide +kernel
theorem dX11_covered_27 : decode cX11_covered 27 = .ok (.aload_n 0, 1) := by decide +kernel
theorem dX11_covered_28 : decode cX11_covered 28 = .ok (.iload_n 3, 1) := by decide +kernel
theorem dX11_covered_29 : decode cX11_covered 29 = .ok (.iload_n 2, 1) := by decide +kernel
theorem dX11_covered_30 : decode cX11_covered 30 = .ok (.invokevirtual 431, 3) := by decide +kernel
theorem dX11_covered_33 : decode cX11_covered 33 = .ok (.invokestatic 335, 3) := by decide +kernel
theorem dX11_covered_36 : decode cX11_covered 36 = .ok (.iadd, 1) := by decide +kernel
theorem dX11_covered_37 : decode cX11_covered 37 = .ok (.istore_n 1, 1) := by decide +kernel
theorem dX11_covered_38 : decode cX11_covered 38 = .ok (.iinc 3 1, 3) := by decide +kernel
theorem dX11_covered_41 : decode cX11_covered 41 = .ok (.goto (-25), 3) := by decide +kernel
theorem dX11_covered_44 : decode cX11_covered 44 = .ok (.iinc 2 1, 3) := by decide +kernel
theorem dX11_covered_47 : decode cX11_covered 47 = .ok (.goto (-43), 3) := by decide +kernel
theorem dX11_covered_50 : decode cX11_covered 50 = .ok (.iload_n 1, 1) := by decide +kernel
theorem dX11_covered_51 : decode cX11_covered 51 = .ok (.ireturn, 1) := by decide +kernel
theorem dX11_coveredIn_0 : decode cX11_coveredIn 0 = .ok (.iconst 0, 1) := by decide +kernel
theorem dX11_coveredIn_1 : decode cX11_coveredIn 1 = .ok (.istore_n 2, 1) := by decide +kernel
theorem dX11_coveredIn_2 : decode cX11_coveredIn 2 = .ok (.aload_n 0, 1) := by decide +kernel
theorem dX11_coveredIn_3 : decode cX11_coveredIn 3 = .ok (.iload_n 1, 1) := by decide +kernel
theorem dX11_coveredIn_4 : decode cX11_coveredIn 4 = .ok (.invokevirtual 265, 3) := by decide +kernel
theorem dX11_coveredIn_7 : decode cX11_coveredIn 7 = .ok (.istore_n 3, 1) := by decide +kernel
theorem dX11_coveredIn_8 : decode cX11_coveredIn 8 = .ok (.iload_n 3, 1) := by decide +kernel
theorem dX11_coveredIn_9 : decode cX11_coveredIn 9 = .ok (.aload_n 0, 1) := by decide +kernel
theorem dX11_coveredIn_10 : decode cX11_coveredIn 10 = .ok (.iload_n 1, 1) := by decide +kernel
theorem dX11_coveredIn_11 : decode cX11_coveredIn 11 = .ok (.invokevirtual 271, 3) := by decide +kernel
theorem dX11_coveredIn_14 : decode cX11_coveredIn 14 = .ok (.if_icmp .ge 45, 3) := by decide +kernel
theorem dX11_coveredIn_17 : decode cX11_coveredIn 17 = .ok (.aload_n 0, 1) := by decide +kernel
theorem dX11_coveredIn_18 : decode cX11_coveredIn 18 = .ok (.iload_n 1, 1) := by decide +kernel
theorem dX11_coveredIn_19 : decode cX11_coveredIn 19 = .ok (.invokevirtual 262, 3) := by decide +kernel
theorem dX11_coveredIn_22 : decode cX11_coveredIn 22 = .ok (.istore 4, 2) := by decide +kernel
theorem dX11_coveredIn_24 : decode cX11_coveredIn 24 = .ok (.iload 4, 2) := by decide +kernel
theorem dX11_coveredIn_26 : decode cX11_coveredIn 26 = .ok (.aload_n 0, 1) := by decide +kernel
theorem dX11_coveredIn_27 : decode cX11_coveredIn 27 = .ok (.iload_n 1, 1) := by decide +kernel
theorem dX11_coveredIn_28 : decode cX11_coveredIn 28 = .ok (.invokevirtual 268, 3) := by decide +kernel
theorem dX11_coveredIn_31 : decode cX11_coveredIn 31 = .ok (.if_icmp .ge 22, 3) := by decide +kernel
theorem dX11_coveredIn_34 : decode cX11_coveredIn 34 = .ok (.iload_n 2, 1) := by decide +kernel
theorem dX11_coveredIn_35 : decode cX11_coveredIn 35 = .ok (.aload_n 0, 1) := by decide +kernel
theorem dX11_coveredIn_36 : decode cX11_coveredIn 36 = .ok (.iload 4, 2) := by decide +kernel
theorem dX11_coveredIn_38 : decode cX11_coveredIn 38 = .ok (.iload_n 3, 1) := by decide +kernel
theorem dX11_coveredIn_39 : decode cX11_coveredIn 39 = .ok (.invokevirtual 431, 3) := by decide +kernel
theorem dX11_coveredIn_42 : decode cX11_coveredIn 42 = .ok (.invokestatic 335, 3) := by decide +kernel
theorem dX11_coveredIn_45 : decode cX11_coveredIn 45 = .ok (.iadd, 1) := by decide +kernel
theorem dX11_coveredIn_46 : decode cX11_coveredIn 46 = .ok (.istore_n 2, 1) := by decide +kernel
theorem dX11_coveredIn_47 : decode cX11_coveredIn 47 = .ok (.iinc 4 1, 3) := by decide +kernel
theorem dX11_coveredIn_50 : decode cX11_coveredIn 50 = .ok (.goto (-26), 3) := by decide +kernel
theorem dX11_coveredIn_53 : decode cX11_coveredIn 53 = .ok (.iinc 3 1, 3) := by decide +kernel
theorem dX11_coveredIn_56 : decode cX11_coveredIn 56 = .ok (.goto (-48), 3) := by decide +kernel
theorem dX11_coveredIn_59 : decode cX11_coveredIn 59 = .ok (.iload_n 2, 1) := by decide +kernel
theorem dX11_coveredIn_60 : decode cX11_coveredIn 60 = .ok (.ireturn, 1) := by decide +kernel
theorem dX11_vain_0 : decode cX11_vain 0 = .ok (.aload_n 0, 1) := by decide +kernel
theorem dX11_vain_1 : decode cX11_vain 1 = .ok (.aload_n 0, 1) := by decide +kernel
theorem dX11_vain_2 : decode cX11_vain 2 = .ok (.getfield 38, 3) := by decide +kernel
theorem dX11_vain_5 : decode cX11_vain 5 = .ok (.iload_n 1, 1) := by decide +kernel
theorem dX11_vain_6 : decode cX11_vain 6 = .ok (.invokevirtual 331, 3) := by decide +kernel
theorem dX11_vain_9 : decode cX11_vain 9 = .ok (.istore_n 2, 1) := by decide +kernel
theorem dX11_vain_10 : decode cX11_vain 10 = .ok (.iconst 0, 1) := by decide +kernel
theorem dX11_vain_11 : decode cX11_vain 11 = .ok (.istore_n 3, 1) := by decide +kernel
theorem dX11_vain_12 : decode cX11_vain 12 = .ok (.iconst 0, 1) := by decide +kernel
theorem dX11_vain_13 : decode cX11_vain 13 = .ok (.istore 4, 2) := by decide +kernel
theorem dX11_vain_15 : decode cX11_vain 15 = .ok (.iload 4, 2) := by decide +kernel
theorem dX11_vain_17 : decode cX11_vain 17 = .ok (.aload_n 0, 1) := by decide +kernel
theorem dX11_vain_18 : decode cX11_vain 18 = .ok (.invokevirtual 282, 3) := by decide +kernel
theorem dX11_vain_21 : decode cX11_vain 21 = .ok (.if_icmp .ge 38, 3) := by decide +kernel
theorem dX11_vain_24 : decode cX11_vain 24 = .ok (.iload_n 3, 1) := by decide +kernel
theorem dX11_vain_25 : decode cX11_vain 25 = .ok (.iload_n 2, 1) := by decide +kernel
theorem dX11_vain_26 : decode cX11_vain 26 = .ok (.iload 4, 2) := by decide +kernel
theorem dX11_vain_28 : decode cX11_vain 28 = .ok (.invokestatic 180, 3) := by decide +kernel
theorem dX11_vain_31 : decode cX11_vain 31 = .ok (.ifCond .eq 19, 3) := by decide +kernel
theorem dX11_vain_34 : decode cX11_vain 34 = .ok (.aload_n 0, 1) := by decide +kernel
theorem dX11_vain_35 : decode cX11_vain 35 = .ok (.iload 4, 2) := by decide +kernel
theorem dX11_vain_37 : decode cX11_vain 37 = .ok (.invokevirtual 434, 3) := by decide +kernel
theorem dX11_vain_40 : decode cX11_vain 40 = .ok (.ifCond .ne 10, 3) := by decide +kernel
theorem dX11_vain_43 : decode cX11_vain 43 = .ok (.iconst 1, 1) := by decide +kernel
theorem dX11_vain_44 : decode cX11_vain 44 = .ok (.iload 4, 2) := by decide +kernel
theorem dX11_vain_46 : decode cX11_vain 46 = .ok (.ishl, 1) := by decide +kernel
theorem dX11_vain_47 : decode cX11_vain 47 = .ok (.goto 4, 3) := by decide +kernel
theorem dX11_vain_50 : decode cX11_vain 50 = .ok (.iconst 0, 1) := by decide +kernel
theorem dX11_vain_51 : decode cX11_vain 51 = .ok (.ior, 1) := by decide +kernel
theorem dX11_vain_52 : decode cX11_vain 52 = .ok (.istore_n 3, 1) := by decide +kernel
theorem dX11_vain_53 : decode cX11_vain 53 = .ok (.iinc 4 1, 3) := by decide +kernel
theorem dX11_vain_56 : decode cX11_vain 56 = .ok (.goto (-41), 3) := by decide +kernel
theorem dX11_vain_59 : decode cX11_vain 59 = .ok (.iload_n 3, 1) := by decide +kernel
theorem dX11_vain_60 : decode cX11_vain 60 = .ok (.ireturn, 1) := by decide +kernel
theorem dX11_triangle_0 : decode cX11_triangle 0 = .ok (.aload_n 0, 1) := by decide +kernel
theorem dX11_triangle_1 : decode cX11_triangle 1 = .ok (.iconst 0, 1) := by decide +kernel
theorem dX11_triangle_2 : decode cX11_triangle 2 = .ok (.putfield 75, 3) := by decide +kernel
theorem dX11_triangle_5 : decode cX11_triangle 5 = .ok (.aload_n 0, 1) := by decide +kernel
theorem dX11_triangle_6 : decode cX11_triangle 6 = .ok (.iload_n 1, 1) := by decide +kernel
theorem dX11_triangle_7 : decode cX11_triangle 7 = .ok (.invokevirtual 355, 3) := by decide +kernel
theorem dX11_triangle_10 : decode cX11_triangle 10 = .ok (.ifCond .eq 15, 3) := by decide +kernel
theorem dX11_triangle_13 : decode cX11_triangle 13 = .ok (.iload_n 2, 1) := by decide +kernel
theorem dX11_triangle_14 : decode cX11_triangle 14 = .ok (.i2l, 1) := by decide +kernel
theorem dX11_triangle_15 : decode cX11_triangle 15 = .ok (.lconst 0, 1) := by decide +kernel
theorem dX11_triangle_16 : decode cX11_triangle 16 = .ok (.ldc2_w 437, 3) := by decide +kernel
theorem dX11_triangle_19 : decode cX11_triangle 19 = .ok (.invokestatic 148, 3) := by decide +kernel
theorem dX11_triangle_22 : decode cX11_triangle 22 = .ok (.ifCond .ne 10, 3) := by decide +kernel
theorem dX11_triangle_25 : decode cX11_triangle 25 = .ok (.aload_n 0, 1) := by decide +kernel
theorem dX11_triangle_26 : decode cX11_triangle 26 = .ok (.iconst 1, 1) := by decide +kernel
theorem dX11_triangle_27 : decode cX11_triangle 27 = .ok (.putfield 75, 3) := by decide +kernel
theorem dX11_triangle_30 : decode cX11_triangle 30 = .ok (.iconst 0, 1) := by decide +kernel
theorem dX11_triangle_31 : decode cX11_triangle 31 = .ok (.ireturn, 1) := by decide +kernel
theorem dX11_triangle_32 : decode cX11_triangle 32 = .ok (.aload_n 0, 1) := by decide +kernel
theorem dX11_triangle_33 : decode cX11_triangle 33 = .ok (.aload_n 0, 1) := by decide +kernel
theorem dX11_triangle_34 : decode cX11_triangle 34 = .ok (.getfield 38, 3) := by decide +kernel
theorem dX11_triangle_37 : decode cX11_triangle 37 = .ok (.iload_n 1, 1) := by decide +kernel
theorem dX11_triangle_38 : decode cX11_triangle 38 = .ok (.invokevirtual 278, 3) := by decide +kernel
theorem dX11_triangle_41 : decode cX11_triangle 41 = .ok (.iload_n 2, 1) := by decide +kernel
theorem dX11_triangle_42 : decode cX11_triangle 42 = .ok (.tableswitch 155 0 10 #[58, 63, 76, 89, 102, 115, 120, 125, 135, 141, 146], 58) := by decide +kernel
theorem dX11_triangle_100 : decode cX11_triangle 100 = .ok (.aload_n 0, 1) := by decide +kernel
theorem dX11_triangle_101 : decode cX11_triangle 101 = .ok (.getfield 238, 3) := by decide +kernel
theorem dX11_triangle_104 : decode cX11_triangle 104 = .ok (.ireturn, 1) := by decide +kernel
theorem dX11_triangle_105 : decode cX11_triangle 105 = .ok (.aload_n 0, 1) := by decide +kernel
theorem dX11_triangle_106 : decode cX11_triangle 106 = .ok (.getfield 26, 3) := by decide +kernel
theorem dX11_triangle_109 : decode cX11_triangle 109 = .ok (.bipush 12, 2) := by decide +kernel
theorem dX11_triangle_111 : decode cX11_triangle 111 = .ok (.iload_n 1, 1) := by decide +kernel
theorem dX11_triangle_112 : decode cX11_triangle 112 = .ok (.imul, 1) := by decide +kernel
theorem dX11_triangle_113 : decode cX11_triangle 113 = .ok (.bipush 10, 2) := by decide +kernel
theorem dX11_triangle_115 : decode cX11_triangle 115 = .ok (.iadd, 1) := by decide +kernel
theorem dX11_triangle_116 : decode cX11_triangle 116 = .ok (.iaload, 1) := by decide +kernel
theorem dX11_triangle_117 : decode cX11_triangle 117 = .ok (.ireturn, 1) := by decide +kernel
theorem dX11_triangle_118 : decode cX11_triangle 118 = .ok (.aload_n 0, 1) := by decide +kernel
theorem dX11_triangle_119 : decode cX11_triangle 119 = .ok (.getfield 26, 3) := by decide +kernel
theorem dX11_triangle_122 : decode cX11_triangle 122 = .ok (.bipush 12, 2) := by decide +kernel
theorem dX11_triangle_124 : decode cX11_triangle 124 = .ok (.iload_n 1, 1) := by decide +kernel
theorem dX11_triangle_125 : decode cX11_triangle 125 = .ok (.imul, 1) := by decide +kernel
theorem dX11_triangle_126 : decode cX11_triangle 126 = .ok (.bipush 9, 2) := by decide +kernel
theorem dX11_triangle_128 : decode cX11_triangle 128 = .ok (.iadd, 1) := by decide +kernel
theorem dX11_triangle_129 : decode cX11_triangle 129 = .ok (.iaload, 1) := by decide +kernel
theorem dX11_triangle_130 : decode cX11_triangle 130 = .ok (.ireturn, 1) := by decide +kernel
theorem dX11_triangle_131 : decode cX11_triangle 131 = .ok (.aload_n 0, 1) := by decide +kernel
theorem dX11_triangle_132 : decode cX11_triangle 132 = .ok (.getfield 26, 3) := by decide +kernel
theorem dX11_triangle_135 : decode cX11_triangle 135 = .ok (.bipush 12, 2) := by decide +kernel
theorem dX11_triangle_137 : decode cX11_triangle 137 = .ok (.iload_n 1, 1) := by decide +kernel
theorem dX11_triangle_138 : decode cX11_triangle 138 = .ok (.imul, 1) := by decide +kernel
theorem dX11_triangle_139 : decode cX11_triangle 139 = .ok (.bipush 11, 2) := by decide +kernel
theorem dX11_triangle_141 : decode cX11_triangle 141 = .ok (.iadd, 1) := by decide +kernel
theorem dX11_triangle_142 : decode cX11_triangle 142 = .ok (.iaload, 1) := by decide +kernel
theorem dX11_triangle_143 : decode cX11_triangle 143 = .ok (.ireturn, 1) := by decide +kernel
theorem dX11_triangle_144 : decode cX11_triangle 144 = .ok (.aload_n 0, 1) := by decide +kernel
theorem dX11_triangle_145 : decode cX11_triangle 145 = .ok (.getfield 241, 3) := by decide +kernel
theorem dX11_triangle_148 : decode cX11_triangle 148 = .ok (.ifCond .eq 7, 3) := by decide +kernel
theorem dX11_triangle_151 : decode cX11_triangle 151 = .ok (.iconst 1, 1) := by decide +kernel
theorem dX11_triangle_152 : decode cX11_triangle 152 = .ok (.goto 4, 3) := by decide +kernel
theorem dX11_triangle_155 : decode cX11_triangle 155 = .ok (.iconst 0, 1) := by decide +kernel
theorem dX11_triangle_156 : decode cX11_triangle 156 = .ok (.ireturn, 1) := by decide +kernel
theorem dX11_triangle_157 : decode cX11_triangle 157 = .ok (.aload_n 0, 1) := by decide +kernel
theorem dX11_triangle_158 : decode cX11_triangle 158 = .ok (.invokevirtual 313, 3) := by decide +kernel
theorem dX11_triangle_161 : decode cX11_triangle 161 = .ok (.ireturn, 1) := by decide +kernel
theorem dX11_triangle_162 : decode cX11_triangle 162 = .ok (.aload_n 0, 1) := by decide +kernel
theorem dX11_triangle_163 : decode cX11_triangle 163 = .ok (.invokevirtual 439, 3) := by decide +kernel
theorem dX11_triangle_166 : decode cX11_triangle 166 = .ok (.ireturn, 1) := by decide +kernel
theorem dX11_triangle_167 : decode cX11_triangle 167 = .ok (.aload_n 0, 1) := by decide +kernel
theorem dX11_triangle_168 : decode cX11_triangle 168 = .ok (.aload_n 0, 1) := by decide +kernel
theorem dX11_triangle_169 : decode cX11_triangle 169 = .ok (.getfield 38, 3) := by decide +kernel
theorem dX11_triangle_172 : decode cX11_triangle 172 = .ok (.iload_n 1, 1) := by decide +kernel
theorem dX11_triangle_173 : decode cX11_triangle 173 = .ok (.invokevirtual 331, 3) := by decide +kernel
theorem dX11_triangle_176 : decode cX11_triangle 176 = .ok (.ireturn, 1) := by decide +kernel
theorem dX11_triangle_177 : decode cX11_triangle 177 = .ok (.aload_n 0, 1) := by decide +kernel
theorem dX11_triangle_178 : decode cX11_triangle 178 = .ok (.iload_n 1, 1) := by decide +kernel
theorem dX11_triangle_179 : decode cX11_triangle 179 = .ok (.invokevirtual 442, 3) := by decide +kernel
theorem dX11_triangle_182 : decode cX11_triangle 182 = .ok (.ireturn, 1) := by decide +kernel
theorem dX11_triangle_183 : decode cX11_triangle 183 = .ok (.aload_n 0, 1) := by decide +kernel
theorem dX11_triangle_184 : decode cX11_triangle 184 = .ok (.invokevirtual 445, 3) := by decide +kernel
theorem dX11_triangle_187 : decode cX11_triangle 187 = .ok (.ireturn, 1) := by decide +kernel
theorem dX11_triangle_188 : decode cX11_triangle 188 = .ok (.aload_n 0, 1) := by decide +kernel
theorem dX11_triangle_189 : decode cX11_triangle 189 = .ok (.getfield 38, 3) := by decide +kernel
theorem dX11_triangle_192 : decode cX11_triangle 192 = .ok (.iload_n 1, 1) := by decide +kernel
theorem dX11_triangle_193 : decode cX11_triangle 193 = .ok (.invokestatic 338, 3) := by decide +kernel
theorem dX11_triangle_196 : decode cX11_triangle 196 = .ok (.ireturn, 1) := by decide +kernel
theorem dX11_triangle_197 : decode cX11_triangle 197 = .ok (.aload_n 0, 1) := by decide +kernel
theorem dX11_triangle_198 : decode cX11_triangle 198 = .ok (.aload_n 0, 1) := by decide +kernel
theorem dX11_triangle_199 : decode cX11_triangle 199 = .ok (.getfield 38, 3) := by decide +kernel
theorem dX11_triangle_202 : decode cX11_triangle 202 = .ok (.iload_n 1, 1) := by decide +kernel
theorem dX11_triangle_203 : decode cX11_triangle 203 = .ok (.invokevirtual 352, 3) := by decide +kernel
theorem dX11_triangle_206 : decode cX11_triangle 206 = .ok (.ireturn, 1) := by decide +kernel
theorem dX11_corner_0 : decode cX11_corner 0 = .ok (.aload_n 0, 1) := by decide +kernel
theorem dX11_corner_1 : decode cX11_corner 1 = .ok (.iconst 0, 1) := by decide +kernel
theorem dX11_corner_2 : decode cX11_corner 2 = .ok (.putfield 75, 3) := by decide +kernel
theorem dX11_corner_5 : decode cX11_corner 5 = .ok (.aload_n 0, 1) := by decide +kernel
theorem dX11_corner_6 : decode cX11_corner 6 = .ok (.iload_n 1, 1) := by decide +kernel
theorem dX11_corner_7 : decode cX11_corner 7 = .ok (.invokevirtual 355, 3) := by decide +kernel
theorem dX11_corner_10 : decode cX11_corner 10 = .ok (.ifCond .eq 27, 3) := by decide +kernel
theorem dX11_corner_13 : decode cX11_corner 13 = .ok (.iload_n 2, 1) := by decide +kernel
theorem dX11_corner_14 : decode cX11_corner 14 = .ok (.i2l, 1) := by decide +kernel
theorem dX11_corner_15 : decode cX11_corner 15 = .ok (.lconst 0, 1) := by decide +kernel
theorem dX11_corner_16 : decode cX11_corner 16 = .ok (.ldc2_w 160, 3) := by decide +kernel
theorem dX11_corner_19 : decode cX11_corner 19 = .ok (.invokestatic 148, 3) := by decide +kernel
theorem dX11_corner_22 : decode cX11_corner 22 = .ok (.ifCond .eq 15, 3) := by decide +kernel
theorem dX11_corner_25 : decode cX11_corner 25 = .ok (.iload_n 3, 1) := by decide +kernel
theorem dX11_corner_26 : decode cX11_corner 26 = .ok (.i2l, 1) := by decide +kernel
theorem dX11_corner_27 : decode cX11_corner 27 = .ok (.lconst 0, 1) := by decide +kernel
theorem dX11_corner_28 : decode cX11_corner 28 = .ok (.ldc2_w 160, 3) := by decide +kernel
theorem dX11_corner_31 : decode cX11_corner 31 = .ok (.invokestatic 148, 3) := by decide +kernel
theorem dX11_corner_34 : decode cX11_corner 34 = .ok (.ifCond .ne 6, 3) := by decide +kernel
theorem dX11_corner_37 : decode cX11_corner 37 = .ok (.ldc 202, 2) := by decide +kernel
theorem dX11_corner_39 : decode cX11_corner 39 = .ok (.ireturn, 1) := by decide +kernel
theorem dX11_corner_40 : decode cX11_corner 40 = .ok (.aload_n 0, 1) := by decide +kernel
theorem dX11_corner_41 : decode cX11_corner 41 = .ok (.getfield 38, 3) := by decide +kernel
theorem dX11_corner_44 : decode cX11_corner 44 = .ok (.sipush 944, 3) := by decide +kernel
theorem dX11_corner_47 : decode cX11_corner 47 = .ok (.bipush 9, 2) := by decide +kernel
theorem dX11_corner_49 : decode cX11_corner 49 = .ok (.iload_n 1, 1) := by decide +kernel
theorem dX11_corner_50 : decode cX11_corner 50 = .ok (.imul, 1) := by decide +kernel
theorem dX11_corner_51 : decode cX11_corner 51 = .ok (.iadd, 1) := by decide +kernel
theorem dX11_corner_52 : decode cX11_corner 52 = .ok (.iconst 3, 1) := by decide +kernel
theorem dX11_corner_53 : decode cX11_corner 53 = .ok (.iload_n 2, 1) := by decide +kernel
theorem dX11_corner_54 : decode cX11_corner 54 = .ok (.imul, 1) := by decide +kernel
theorem dX11_corner_55 : decode cX11_corner 55 = .ok (.iadd, 1) := by decide +kernel
theorem dX11_corner_56 : decode cX11_corner 56 = .ok (.iload_n 3, 1) := by decide +kernel
theorem dX11_corner_57 : decode cX11_corner 57 = .ok (.iadd, 1) := by decide +kernel
theorem dX11_corner_58 : decode cX11_corner 58 = .ok (.iaload, 1) := by decide +kernel
theorem dX11_corner_59 : decode cX11_corner 59 = .ok (.ireturn, 1) := by decide +kernel
theorem dX11_edge_0 : decode cX11_edge 0 = .ok (.aload_n 0, 1) := by decide +kernel
theorem dX11_edge_1 : decode cX11_edge 1 = .ok (.iconst 0, 1) := by decide +kernel
theorem dX11_edge_2 : decode cX11_edge 2 = .ok (.putfield 75, 3) := by decide +kernel
theorem dX11_edge_5 : decode cX11_edge 5 = .ok (.aload_n 0, 1) := by decide +kernel
theorem dX11_edge_6 : decode cX11_edge 6 = .ok (.iload_n 1, 1) := by decide +kernel
theorem dX11_edge_7 : decode cX11_edge 7 = .ok (.invokevirtual 355, 3) := by decide +kernel
theorem dX11_edge_10 : decode cX11_edge 10 = .ok (.ifCond .eq 44, 3) := by decide +kernel
theorem dX11_edge_13 : decode cX11_edge 13 = .ok (.iload_n 2, 1) := by decide +kernel
theorem dX11_edge_14 : decode cX11_edge 14 = .ok (.i2l, 1) := by decide +kernel
theorem dX11_edge_15 : decode cX11_edge 15 = .ok (.lconst 0, 1) := by decide +kernel
theorem dX11_edge_16 : decode cX11_edge 16 = .ok (.ldc2_w 160, 3) := by decide +kernel
theorem dX11_edge_19 : decode cX11_edge 19 = .ok (.invokestatic 148, 3) := by decide +kernel
theorem dX11_edge_22 : decode cX11_edge 22 = .ok (.ifCond .eq 32, 3) := by decide +kernel
theorem dX11_edge_25 : decode cX11_edge 25 = .ok (.iload_n 3, 1) := by decide +kernel
theorem dX11_edge_26 : decode cX11_edge 26 = .ok (.i2l, 1) := by decide +kernel
theorem dX11_edge_27 : decode cX11_edge 27 = .ok (.ldc2_w 156, 3) := by decide +kernel
theorem dX11_edge_30 : decode cX11_edge 30 = .ok (.ldc2_w 158, 3) := by decide +kernel
theorem dX11_edge_33 : decode cX11_edge 33 = .ok (.invokestatic 148, 3) := by decide +kernel
theorem dX11_edge_36 : decode cX11_edge 36 = .ok (.ifCond .eq 18, 3) := by decide +kernel
theorem dX11_edge_39 : decode cX11_edge 39 = .ok (.iload 4, 2) := by decide +kernel
theorem dX11_edge_41 : decode cX11_edge 41 = .ok (.i2l, 1) := by decide +kernel
theorem dX11_edge_42 : decode cX11_edge 42 = .ok (.ldc2_w 156, 3) := by decide +kernel
theorem dX11_edge_45 : decode cX11_edge 45 = .ok (.ldc2_w 158, 3) := by decide +kernel
theorem dX11_edge_48 : decode cX11_edge 48 = .ok (.invokestatic 148, 3) := by decide +kernel
theorem dX11_edge_51 : decode cX11_edge 51 = .ok (.ifCond .ne 6, 3) := by decide +kernel
theorem dX11_edge_54 : decode cX11_edge 54 = .ok (.ldc 202, 2) := by decide +kernel
theorem dX11_edge_56 : decode cX11_edge 56 = .ok (.ireturn, 1) := by decide +kernel
theorem dX11_edge_57 : decode cX11_edge 57 = .ok (.aload_n 0, 1) := by decide +kernel
theorem dX11_edge_58 : decode cX11_edge 58 = .ok (.aload_n 0, 1) := by decide +kernel
theorem dX11_edge_59 : decode cX11_edge 59 = .ok (.getfield 38, 3) := by decide +kernel
theorem dX11_edge_62 : decode cX11_edge 62 = .ok (.iload_n 1, 1) := by decide +kernel
theorem dX11_edge_63 : decode cX11_edge 63 = .ok (.invokevirtual 278, 3) := by decide +kernel
theorem dX11_edge_66 : decode cX11_edge 66 = .ok (.aload_n 0, 1) := by decide +kernel
theorem dX11_edge_67 : decode cX11_edge 67 = .ok (.iload_n 2, 1) := by decide +kernel
theorem dX11_edge_68 : decode cX11_edge 68 = .ok (.iload_n 3, 1) := by decide +kernel
theorem dX11_edge_69 : decode cX11_edge 69 = .ok (.iload 4, 2) := by decide +kernel
theorem dX11_edge_71 : decode cX11_edge 71 = .ok (.invokevirtual 234, 3) := by decide +kernel
theorem dX11_edge_74 : decode cX11_edge 74 = .ok (.ireturn, 1) := by decide +kernel
theorem dX11_mask_0 : decode cX11_mask 0 = .ok (.aload_n 0, 1) := by decide +kernel
theorem dX11_mask_1 : decode cX11_mask 1 = .ok (.iconst 0, 1) := by decide +kernel
theorem dX11_mask_2 : decode cX11_mask 2 = .ok (.putfield 75, 3) := by decide +kernel
theorem dX11_mask_5 : decode cX11_mask 5 = .ok (.aload_n 0, 1) := by decide +kernel
theorem dX11_mask_6 : decode cX11_mask 6 = .ok (.iload_n 1, 1) := by decide +kernel
theorem dX11_mask_7 : decode cX11_mask 7 = .ok (.invokevirtual 355, 3) := by decide +kernel
theorem dX11_mask_10 : decode cX11_mask 10 = .ok (.ifCond .eq 12, 3) := by decide +kernel
theorem dX11_mask_13 : decode cX11_mask 13 = .ok (.aload_n 0, 1) := by decide +kernel
theorem dX11_mask_14 : decode cX11_mask 14 = .ok (.iload_n 2, 1) := by decide +kernel
theorem dX11_mask_15 : decode cX11_mask 15 = .ok (.iload_n 3, 1) := by decide +kernel
theorem dX11_mask_16 : decode cX11_mask 16 = .ok (.invokevirtual 425, 3) := by decide +kernel
theorem dX11_mask_19 : decode cX11_mask 19 = .ok (.ifCond .ne 5, 3) := by decide +kernel
theorem dX11_mask_22 : decode cX11_mask 22 = .ok (.iconst (-1), 1) := by decide +kernel
theorem dX11_mask_23 : decode cX11_mask 23 = .ok (.ireturn, 1) := by decide +kernel
theorem dX11_mask_24 : decode cX11_mask 24 = .ok (.aload_n 0, 1) := by decide +kernel
theorem dX11_mask_25 : decode cX11_mask 25 = .ok (.aload_n 0, 1) := by decide +kernel
theorem dX11_mask_26 : decode cX11_mask 26 = .ok (.getfield 38, 3) := by decide +kernel
theorem dX11_mask_29 : decode cX11_mask 29 = .ok (.iload_n 1, 1) := by decide +kernel
theorem dX11_mask_30 : decode cX11_mask 30 = .ok (.invokevirtual 278, 3) := by decide +kernel
theorem dX11_mask_33 : decode cX11_mask 33 = .ok (.aload_n 0, 1) := by decide +kernel
theorem dX11_mask_34 : decode cX11_mask 34 = .ok (.iload_n 2, 1) := by decide +kernel
theorem dX11_mask_35 : decode cX11_mask 35 = .ok (.iload_n 3, 1) := by decide +kernel
theorem dX11_mask_36 : decode cX11_mask 36 = .ok (.invokevirtual 431, 3) := by decide +kernel
theorem dX11_mask_39 : decode cX11_mask 39 = .ok (.ireturn, 1) := by decide +kernel
theorem dX11_depth_0 : decode cX11_depth 0 = .ok (.aload_n 0, 1) := by decide +kernel
theorem dX11_depth_1 : decode cX11_depth 1 = .ok (.iconst 0, 1) := by decide +kernel
theorem dX11_depth_2 : decode cX11_depth 2 = .ok (.putfield 75, 3) := by decide +kernel
theorem dX11_depth_5 : decode cX11_depth 5 = .ok (.aload_n 0, 1) := by decide +kernel
theorem dX11_depth_6 : decode cX11_depth 6 = .ok (.iload_n 1, 1) := by decide +kernel
theorem dX11_depth_7 : decode cX11_depth 7 = .ok (.invokevirtual 355, 3) := by decide +kernel
theorem dX11_depth_10 : decode cX11_depth 10 = .ok (.ifCond .eq 14, 3) := by decide +kernel
theorem dX11_depth_13 : decode cX11_depth 13 = .ok (.aload_n 0, 1) := by decide +kernel
theorem dX11_depth_14 : decode cX11_depth 14 = .ok (.iload_n 2, 1) := by decide +kernel
theorem dX11_depth_15 : decode cX11_depth 15 = .ok (.iload_n 3, 1) := by decide +kernel
theorem dX11_depth_16 : decode cX11_depth 16 = .ok (.iload 4, 2) := by decide +kernel
theorem dX11_depth_18 : decode cX11_depth 18 = .ok (.invokevirtual 448, 3) := by decide +kernel
theorem dX11_depth_21 : decode cX11_depth 21 = .ok (.ifCond .ne 5, 3) := by decide +kernel
theorem dX11_depth_24 : decode cX11_depth 24 = .ok (.iconst (-1), 1) := by decide +kernel
theorem dX11_depth_25 : decode cX11_depth 25 = .ok (.ireturn, 1) := by decide +kernel
theorem dX11_depth_26 : decode cX11_depth 26 = .ok (.aload_n 0, 1) := by decide +kernel
theorem dX11_depth_27 : decode cX11_depth 27 = .ok (.aload_n 0, 1) := by decide +kernel
theorem dX11_depth_28 : decode cX11_depth 28 = .ok (.getfield 38, 3) := by decide +kernel
theorem dX11_depth_31 : decode cX11_depth 31 = .ok (.iload_n 1, 1) := by decide +kernel
theorem dX11_depth_32 : decode cX11_depth 32 = .ok (.invokevirtual 278, 3) := by decide +kernel
theorem dX11_depth_35 : decode cX11_depth 35 = .ok (.aload_n 0, 1) := by decide +kernel
theorem dX11_depth_36 : decode cX11_depth 36 = .ok (.iload_n 2, 1) := by decide +kernel
theorem dX11_depth_37 : decode cX11_depth 37 = .ok (.iload_n 3, 1) := by decide +kernel
theorem dX11_depth_38 : decode cX11_depth 38 = .ok (.iload 4, 2) := by decide +kernel
theorem dX11_depth_40 : decode cX11_depth 40 = .ok (.invokevirtual 428, 3) := by decide +kernel
theorem dX11_depth_43 : decode cX11_depth 43 = .ok (.ifCond .eq 32, 3) := by decide +kernel
theorem dX11_depth_46 : decode cX11_depth 46 = .ok (.aload_n 0, 1) := by decide +kernel
theorem dX11_depth_47 : decode cX11_depth 47 = .ok (.bipush 8, 2) := by decide +kernel
theorem dX11_depth_49 : decode cX11_depth 49 = .ok (.iload_n 2, 1) := by decide +kernel
theorem dX11_depth_50 : decode cX11_depth 50 = .ok (.imul, 1) := by decide +kernel
theorem dX11_depth_51 : decode cX11_depth 51 = .ok (.aload_n 0, 1) := by decide +kernel
theorem dX11_depth_52 : decode cX11_depth 52 = .ok (.iload 4, 2) := by decide +kernel
theorem dX11_depth_54 : decode cX11_depth 54 = .ok (.invokevirtual 298, 3) := by decide +kernel
theorem dX11_depth_57 : decode cX11_depth 57 = .ok (.iadd, 1) := by decide +kernel
theorem dX11_depth_58 : decode cX11_depth 58 = .ok (.bipush 8, 2) := by decide +kernel
theorem dX11_depth_60 : decode cX11_depth 60 = .ok (.iload_n 3, 1) := by decide +kernel
theorem dX11_depth_61 : decode cX11_depth 61 = .ok (.imul, 1) := by decide +kernel
theorem dX11_depth_62 : decode cX11_depth 62 = .ok (.aload_n 0, 1) := by decide +kernel
theorem dX11_depth_63 : decode cX11_depth 63 = .ok (.iload 4, 2) := by decide +kernel
theorem dX11_depth_65 : decode cX11_depth 65 = .ok (.invokevirtual 301, 3) := by decide +kernel
theorem dX11_depth_68 : decode cX11_depth 68 = .ok (.iadd, 1) := by decide +kernel
theorem dX11_depth_69 : decode cX11_depth 69 = .ok (.invokevirtual 255, 3) := by decide +kernel
theorem dX11_depth_72 : decode cX11_depth 72 = .ok (.goto 4, 3) := by decide +kernel
theorem dX11_depth_75 : decode cX11_depth 75 = .ok (.iconst (-1), 1) := by decide +kernel
theorem dX11_depth_76 : decode cX11_depth 76 = .ok (.ireturn, 1) := by decide +kernel
theorem dX11_shade_0 : decode cX11_shade 0 = .ok (.aload_n 0, 1) := by decide +kernel
theorem dX11_shade_1 : decode cX11_shade 1 = .ok (.iconst 0, 1) := by decide +kernel
theorem dX11_shade_2 : decode cX11_shade 2 = .ok (.putfield 75, 3) := by decide +kernel
theorem dX11_shade_5 : decode cX11_shade 5 = .ok (.aload_n 0, 1) := by decide +kernel
theorem dX11_shade_6 : decode cX11_shade 6 = .ok (.iload_n 1, 1) := by decide +kernel
theorem dX11_shade_7 : decode cX11_shade 7 = .ok (.invokevirtual 355, 3) := by decide +kernel
theorem dX11_shade_10 : decode cX11_shade 10 = .ok (.ifCond .eq 12, 3) := by decide +kernel
theorem dX11_shade_13 : decode cX11_shade 13 = .ok (.aload_n 0, 1) := by decide +kernel
theorem dX11_shade_14 : decode cX11_shade 14 = .ok (.iload_n 2, 1) := by decide +kernel
theorem dX11_shade_15 : decode cX11_shade 15 = .ok (.iload_n 3, 1) := by decide +kernel
theorem dX11_shade_16 : decode cX11_shade 16 = .ok (.invokevirtual 425, 3) := by decide +kernel
theorem dX11_shade_19 : decode cX11_shade 19 = .ok (.ifCond .ne 5, 3) := by decide +kernel
theorem dX11_shade_22 : decode cX11_shade 22 = .ok (.iconst (-1), 1) := by decide +kernel
theorem dX11_shade_23 : decode cX11_shade 23 = .ok (.ireturn, 1) := by decide +kernel
theorem dX11_shade_24 : decode cX11_shade 24 = .ok (.aload_n 0, 1) := by decide +kernel
theorem dX11_shade_25 : decode cX11_shade 25 = .ok (.aload_n 0, 1) := by decide +kernel
theorem dX11_shade_26 : decode cX11_shade 26 = .ok (.getfield 38, 3) := by decide +kernel
theorem dX11_shade_29 : decode cX11_shade 29 = .ok (.iload_n 1, 1) := by decide +kernel
theorem dX11_shade_30 : decode cX11_shade 30 = .ok (.invokevirtual 278, 3) := by decide +kernel
theorem dX11_shade_33 : decode cX11_shade 33 = .ok (.aload_n 0, 1) := by decide +kernel
theorem dX11_shade_34 : decode cX11_shade 34 = .ok (.getfield 238, 3) := by decide +kernel
theorem dX11_shade_37 : decode cX11_shade 37 = .ok (.ifCond .ne 7, 3) := by decide +kernel
theorem dX11_shade_40 : decode cX11_shade 40 = .ok (.iconst (-1), 1) := by decide +kernel
theorem dX11_shade_41 : decode cX11_shade 41 = .ok (.goto 10, 3) := by decide +kernel
theorem dX11_shade_44 : decode cX11_shade 44 = .ok (.aload_n 0, 1) := by decide +kernel
theorem dX11_shade_45 : decode cX11_shade 45 = .ok (.iload_n 1, 1) := by decide +kernel
theorem dX11_shade_46 : decode cX11_shade 46 = .ok (.iload_n 2, 1) := by decide +kernel
theorem dX11_shade_47 : decode cX11_shade 47 = .ok (.iload_n 3, 1) := by decide +kernel
theorem dX11_shade_48 : decode cX11_shade 48 = .ok (.invokevirtual 291, 3) := by decide +kernel
theorem dX11_shade_51 : decode cX11_shade 51 = .ok (.ireturn, 1) := by decide +kernel
theorem dX11_sample_0 : decode cX11_sample 0 = .ok (.aload_n 0, 1) := by decide +kernel
theorem dX11_sample_1 : decode cX11_sample 1 = .ok (.iconst 0, 1) := by decide +kernel
theorem dX11_sample_2 : decode cX11_sample 2 = .ok (.putfield 75, 3) := by decide +kernel
theorem dX11_sample_5 : decode cX11_sample 5 = .ok (.aload_n 0, 1) := by decide +kernel
theorem dX11_sample_6 : decode cX11_sample 6 = .ok (.iload_n 1, 1) := by decide +kernel
theorem dX11_sample_7 : decode cX11_sample 7 = .ok (.iload_n 2, 1) := by decide +kernel
theorem dX11_sample_8 : decode cX11_sample 8 = .ok (.iload_n 3, 1) := by decide +kernel
theorem dX11_sample_9 : decode cX11_sample 9 = .ok (.invokevirtual 448, 3) := by decide +kernel
theorem dX11_sample_12 : decode cX11_sample 12 = .ok (.ifCond .eq 16, 3) := by decide +kernel
theorem dX11_sample_15 : decode cX11_sample 15 = .ok (.iload 4, 2) := by decide +kernel
theorem dX11_sample_17 : decode cX11_sample 17 = .ok (.i2l, 1) := by decide +kernel
theorem dX11_sample_18 : decode cX11_sample 18 = .ok (.lconst 0, 1) := by decide +kernel
theorem dX11_sample_19 : decode cX11_sample 19 = .ok (.ldc2_w 160, 3) := by decide +kernel
theorem dX11_sample_22 : decode cX11_sample 22 = .ok (.invokestatic 148, 3) := by decide +kernel
theorem dX11_sample_25 : decode cX11_sample 25 = .ok (.ifCond .ne 6, 3) := by decide +kernel
theorem dX11_sample_28 : decode cX11_sample 28 = .ok (.ldc 202, 2) := by decide +kernel
theorem dX11_sample_30 : decode cX11_sample 30 = .ok (.ireturn, 1) := by decide +kernel
theorem dX11_sample_31 : decode cX11_sample 31 = .ok (.aload_n 0, 1) := by decide +kernel
theorem dX11_sample_32 : decode cX11_sample 32 = .ok (.getfield 38, 3) := by decide +kernel
theorem dX11_sample_35 : decode cX11_sample 35 = .ok (.sipush 256, 3) := by decide +kernel
theorem dX11_sample_38 : decode cX11_sample 38 = .ok (.iload 4, 2) := by decide +kernel
theorem dX11_sample_40 : decode cX11_sample 40 = .ok (.imul, 1) := by decide +kernel
theorem dX11_sample_41 : decode cX11_sample 41 = .ok (.iload_n 1, 1) := by decide +kernel
theorem dX11_sample_42 : decode cX11_sample 42 = .ok (.iload_n 2, 1) := by decide +kernel
theorem dX11_sample_43 : decode cX11_sample 43 = .ok (.iload_n 3, 1) := by decide +kernel
theorem dX11_sample_44 : decode cX11_sample 44 = .ok (.invokestatic 288, 3) := by decide +kernel
theorem dX11_sample_47 : decode cX11_sample 47 = .ok (.iadd, 1) := by decide +kernel
theorem dX11_sample_48 : decode cX11_sample 48 = .ok (.iaload, 1) := by decide +kernel
theorem dX11_sample_49 : decode cX11_sample 49 = .ok (.ireturn, 1) := by decide +kernel
theorem dX11_pixel_0 : decode cX11_pixel 0 = .ok (.aload_n 0, 1) := by decide +kernel
theorem dX11_pixel_1 : decode cX11_pixel 1 = .ok (.iconst 0, 1) := by decide +kernel
theorem dX11_pixel_2 : decode cX11_pixel 2 = .ok (.putfield 75, 3) := by decide +kernel
theorem dX11_pixel_5 : decode cX11_pixel 5 = .ok (.aload_n 0, 1) := by decide +kernel
theorem dX11_pixel_6 : decode cX11_pixel 6 = .ok (.iload_n 1, 1) := by decide +kernel
theorem dX11_pixel_7 : decode cX11_pixel 7 = .ok (.iload_n 2, 1) := by decide +kernel
theorem dX11_pixel_8 : decode cX11_pixel 8 = .ok (.invokevirtual 425, 3) := by decide +kernel
theorem dX11_pixel_11 : decode cX11_pixel 11 = .ok (.ifCond .eq 16, 3) := by decide +kernel
theorem dX11_pixel_14 : decode cX11_pixel 14 = .ok (.aload_n 0, 1) := by decide +kernel
theorem dX11_pixel_15 : decode cX11_pixel 15 = .ok (.aload_n 0, 1) := by decide +kernel
theorem dX11_pixel_16 : decode cX11_pixel 16 = .ok (.getfield 38, 3) := by decide +kernel
theorem dX11_pixel_19 : decode cX11_pixel 19 = .ok (.iload_n 1, 1) := by decide +kernel
theorem dX11_pixel_20 : decode cX11_pixel 20 = .ok (.iload_n 2, 1) := by decide +kernel
theorem dX11_pixel_21 : decode cX11_pixel 21 = .ok (.invokevirtual 451, 3) := by decide +kernel
theorem dX11_pixel_24 : decode cX11_pixel 24 = .ok (.goto 4, 3) := by decide +kernel
theorem dX11_pixel_27 : decode cX11_pixel 27 = .ok (.iconst (-1), 1) := by decide +kernel
theorem dX11_pixel_28 : decode cX11_pixel 28 = .ok (.ireturn, 1) := by decide +kernel
theorem dX11_tile_0 : decode cX11_tile 0 = .ok (.aload_n 0, 1) := by decide +kernel
theorem dX11_tile_1 : decode cX11_tile 1 = .ok (.iconst 0, 1) := by decide +kernel
theorem dX11_tile_2 : decode cX11_tile 2 = .ok (.putfield 75, 3) := by decide +kernel
theorem dX11_tile_5 : decode cX11_tile 5 = .ok (.aload_n 0, 1) := by decide +kernel
theorem dX11_tile_6 : decode cX11_tile 6 = .ok (.iload_n 1, 1) := by decide +kernel
theorem dX11_tile_7 : decode cX11_tile 7 = .ok (.invokevirtual 358, 3) := by decide +kernel
theorem dX11_tile_10 : decode cX11_tile 10 = .ok (.ifCond .eq 15, 3) := by decide +kernel
theorem dX11_tile_13 : decode cX11_tile 13 = .ok (.iload_n 2, 1) := by decide +kernel
theorem dX11_tile_14 : decode cX11_tile 14 = .ok (.i2l, 1) := by decide +kernel
theorem dX11_tile_15 : decode cX11_tile 15 = .ok (.lconst 0, 1) := by decide +kernel
theorem dX11_tile_16 : decode cX11_tile 16 = .ok (.ldc2_w 162, 3) := by decide +kernel
theorem dX11_tile_19 : decode cX11_tile 19 = .ok (.invokestatic 148, 3) := by decide +kernel
theorem dX11_tile_22 : decode cX11_tile 22 = .ok (.ifCond .ne 5, 3) := by decide +kernel
theorem dX11_tile_25 : decode cX11_tile 25 = .ok (.iconst (-1), 1) := by decide +kernel
theorem dX11_tile_26 : decode cX11_tile 26 = .ok (.ireturn, 1) := by decide +kernel
theorem dX11_tile_27 : decode cX11_tile 27 = .ok (.iload_n 2, 1) := by decide +kernel
theorem dX11_tile_28 : decode cX11_tile 28 = .ok (.tableswitch 78 0 3 #[32, 46, 57, 68], 32) := by decide +kernel
theorem dX11_tile_60 : decode cX11_tile 60 = .ok (.aload_n 0, 1) := by decide +kernel
theorem dX11_tile_61 : decode cX11_tile 61 = .ok (.getfield 38, 3) := by decide +kernel
theorem dX11_tile_64 : decode cX11_tile 64 = .ok (.sipush 768, 3) := by decide +kernel
theorem dX11_tile_67 : decode cX11_tile 67 = .ok (.bipush 11, 2) := by decide +kernel
theorem dX11_tile_69 : decode cX11_tile 69 = .ok (.iload_n 1, 1) := by decide +kernel
theorem dX11_tile_70 : decode cX11_tile 70 = .ok (.imul, 1) := by decide +kernel
theorem dX11_tile_71 : decode cX11_tile 71 = .ok (.iadd, 1) := by decide +kernel
theorem dX11_tile_72 : decode cX11_tile 72 = .ok (.iaload, 1) := by decide +kernel
theorem dX11_tile_73 : decode cX11_tile 73 = .ok (.ireturn, 1) := by decide +kernel
theorem dX11_tile_74 : decode cX11_tile 74 = .ok (.aload_n 0, 1) := by decide +kernel
theorem dX11_tile_75 : decode cX11_tile 75 = .ok (.aload_n 0, 1) := by decide +kernel
theorem dX11_tile_76 : decode cX11_tile 76 = .ok (.getfield 38, 3) := by decide +kernel
theorem dX11_tile_79 : decode cX11_tile 79 = .ok (.iload_n 1, 1) := by decide +kernel
theorem dX11_tile_80 : decode cX11_tile 80 = .ok (.iconst 1, 1) := by decide +kernel
theorem dX11_tile_81 : decode cX11_tile 81 = .ok (.invokevirtual 316, 3) := by decide +kernel
theorem dX11_tile_84 : decode cX11_tile 84 = .ok (.ireturn, 1) := by decide +kernel
theorem dX11_tile_85 : decode cX11_tile 85 = .ok (.aload_n 0, 1) := by decide +kernel
theorem dX11_tile_86 : decode cX11_tile 86 = .ok (.aload_n 0, 1) := by decide +kernel
theorem dX11_tile_87 : decode cX11_tile 87 = .ok (.getfield 38, 3) := by decide +kernel
theorem dX11_tile_90 : decode cX11_tile 90 = .ok (.iload_n 1, 1) := by decide +kernel
theorem dX11_tile_91 : decode cX11_tile 91 = .ok (.iconst 0, 1) := by decide +kernel
theorem dX11_tile_92 : decode cX11_tile 92 = .ok (.invokevirtual 316, 3) := by decide +kernel
theorem dX11_tile_95 : decode cX11_tile 95 = .ok (.ireturn, 1) := by decide +kernel
theorem dX11_tile_96 : decode cX11_tile 96 = .ok (.aload_n 0, 1) := by decide +kernel
theorem dX11_tile_97 : decode cX11_tile 97 = .ok (.aload_n 0, 1) := by decide +kernel
theorem dX11_tile_98 : decode cX11_tile 98 = .ok (.getfield 38, 3) := by decide +kernel
theorem dX11_tile_101 : decode cX11_tile 101 = .ok (.iload_n 1, 1) := by decide +kernel
theorem dX11_tile_102 : decode cX11_tile 102 = .ok (.invokevirtual 361, 3) := by decide +kernel
theorem dX11_tile_105 : decode cX11_tile 105 = .ok (.ireturn, 1) := by decide +kernel
theorem dX11_tile_106 : decode cX11_tile 106 = .ok (.aload_n 0, 1) := by decide +kernel
theorem dX11_tile_107 : decode cX11_tile 107 = .ok (.iload_n 1, 1) := by decide +kernel
theorem dX11_tile_108 : decode cX11_tile 108 = .ok (.invokevirtual 268, 3) := by decide +kernel
theorem dX11_tile_111 : decode cX11_tile 111 = .ok (.aload_n 0, 1) := by decide +kernel
theorem dX11_tile_112 : decode cX11_tile 112 = .ok (.iload_n 1, 1) := by decide +kernel
theorem dX11_tile_113 : decode cX11_tile 113 = .ok (.invokevirtual 262, 3) := by decide +kernel
theorem dX11_tile_116 : decode cX11_tile 116 = .ok (.isub, 1) := by decide +kernel
theorem dX11_tile_117 : decode cX11_tile 117 = .ok (.aload_n 0, 1) := by decide +kernel
theorem dX11_tile_118 : decode cX11_tile 118 = .ok (.iload_n 1, 1) := by decide +kernel
theorem dX11_tile_119 : decode cX11_tile 119 = .ok (.invokevirtual 271, 3) := by decide +kernel
theorem dX11_tile_122 : decode cX11_tile 122 = .ok (.aload_n 0, 1) := by decide +kernel
theorem dX11_tile_123 : decode cX11_tile 123 = .ok (.iload_n 1, 1) := by decide +kernel
theorem dX11_tile_124 : decode cX11_tile 124 = .ok (.invokevirtual 265, 3) := by decide +kernel
theorem dX11_tile_127 : decode cX11_tile 127 = .ok (.isub, 1) := by decide +kernel
theorem dX11_tile_128 : decode cX11_tile 128 = .ok (.imul, 1) := by decide +kernel
theorem dX11_tile_129 : decode cX11_tile 129 = .ok (.ireturn, 1) := by decide +kernel
theorem dX11_bin_0 : decode cX11_bin 0 = .ok (.aload_n 0, 1) := by decide +kernel
theorem dX11_bin_1 : decode cX11_bin 1 = .ok (.iconst 0, 1) := by decide +kernel
theorem dX11_bin_2 : decode cX11_bin 2 = .ok (.putfield 75, 3) := by decide +kernel
theorem dX11_bin_5 : decode cX11_bin 5 = .ok (.aload_n 0, 1) := by decide +kernel
theorem dX11_bin_6 : decode cX11_bin 6 = .ok (.iload_n 1, 1) := by decide +kernel
theorem dX11_bin_7 : decode cX11_bin 7 = .ok (.invokevirtual 358, 3) := by decide +kernel
theorem dX11_bin_10 : decode cX11_bin 10 = .ok (.ifCond .eq 44, 3) := by decide +kernel
theorem dX11_bin_13 : decode cX11_bin 13 = .ok (.iload_n 2, 1) := by decide +kernel
theorem dX11_bin_14 : decode cX11_bin 14 = .ok (.ifCond .lt 40, 3) := by decide +kernel
theorem dX11_bin_17 : decode cX11_bin 17 = .ok (.iload_n 2, 1) := by decide +kernel
theorem dX11_bin_18 : decode cX11_bin 18 = .ok (.aload_n 0, 1) := by decide +kernel
theorem dX11_bin_19 : decode cX11_bin 19 = .ok (.getfield 38, 3) := by decide +kernel
theorem dX11_bin_22 : decode cX11_bin 22 = .ok (.sipush 768, 3) := by decide +kernel
theorem dX11_bin_25 : decode cX11_bin 25 = .ok (.bipush 11, 2) := by decide +kernel
theorem dX11_bin_27 : decode cX11_bin 27 = .ok (.iload_n 1, 1) := by decide +kernel
theorem dX11_bin_28 : decode cX11_bin 28 = .ok (.imul, 1) := by decide +kernel
theorem dX11_bin_29 : decode cX11_bin 29 = .ok (.iadd, 1) := by decide +kernel
theorem dX11_bin_30 : decode cX11_bin 30 = .ok (.iaload, 1) := by decide +kernel
theorem dX11_bin_31 : decode cX11_bin 31 = .ok (.if_icmp .ge 23, 3) := by decide +kernel
theorem dX11_bin_34 : decode cX11_bin 34 = .ok (.aload_n 0, 1) := by decide +kernel
theorem dX11_bin_35 : decode cX11_bin 35 = .ok (.getfield 38, 3) := by decide +kernel
theorem dX11_bin_38 : decode cX11_bin 38 = .ok (.sipush 768, 3) := by decide +kernel
theorem dX11_bin_41 : decode cX11_bin 41 = .ok (.bipush 11, 2) := by decide +kernel
theorem dX11_bin_43 : decode cX11_bin 43 = .ok (.iload_n 1, 1) := by decide +kernel
theorem dX11_bin_44 : decode cX11_bin 44 = .ok (.imul, 1) := by decide +kernel
theorem dX11_bin_45 : decode cX11_bin 45 = .ok (.iadd, 1) := by decide +kernel
theorem dX11_bin_46 : decode cX11_bin 46 = .ok (.iconst 1, 1) := by decide +kernel
theorem dX11_bin_47 : decode cX11_bin 47 = .ok (.iadd, 1) := by decide +kernel
theorem dX11_bin_48 : decode cX11_bin 48 = .ok (.iload_n 2, 1) := by decide +kernel
theorem dX11_bin_49 : decode cX11_bin 49 = .ok (.iadd, 1) := by decide +kernel
theorem dX11_bin_50 : decode cX11_bin 50 = .ok (.iaload, 1) := by decide +kernel
theorem dX11_bin_51 : decode cX11_bin 51 = .ok (.goto 4, 3) := by decide +kernel
theorem dX11_bin_54 : decode cX11_bin 54 = .ok (.iconst (-1), 1) := by decide +kernel
theorem dX11_bin_55 : decode cX11_bin 55 = .ok (.ireturn, 1) := by decide +kernel
theorem dX11_shaded_0 : decode cX11_shaded 0 = .ok (.aload_n 0, 1) := by decide +kernel
theorem dX11_shaded_1 : decode cX11_shaded 1 = .ok (.iconst 0, 1) := by decide +kernel
theorem dX11_shaded_2 : decode cX11_shaded 2 = .ok (.putfield 75, 3) := by decide +kernel
theorem dX11_shaded_5 : decode cX11_shaded 5 = .ok (.aload_n 0, 1) := by decide +kernel
theorem dX11_shaded_6 : decode cX11_shaded 6 = .ok (.iload_n 1, 1) := by decide +kernel
theorem dX11_shaded_7 : decode cX11_shaded 7 = .ok (.invokevirtual 355, 3) := by decide +kernel
theorem dX11_shaded_10 : decode cX11_shaded 10 = .ok (.ifCond .ne 5, 3) := by decide +kernel
theorem dX11_shaded_13 : decode cX11_shaded 13 = .ok (.lconst 0, 1) := by decide +kernel
theorem dX11_shaded_14 : decode cX11_shaded 14 = .ok (.lreturn, 1) := by decide +kernel
theorem dX11_shaded_15 : decode cX11_shaded 15 = .ok (.aload_n 0, 1) := by decide +kernel
theorem dX11_shaded_16 : decode cX11_shaded 16 = .ok (.getfield 38, 3) := by decide +kernel
theorem dX11_shaded_19 : decode cX11_shaded 19 = .ok (.sipush 1034, 3) := by decide +kernel
theorem dX11_shaded_22 : decode cX11_shaded 22 = .ok (.iconst 2, 1) := by decide +kernel
theorem dX11_shaded_23 : decode cX11_shaded 23 = .ok (.iload_n 1, 1) := by decide +kernel
theorem dX11_shaded_24 : decode cX11_shaded 24 = .ok (.imul, 1) := by decide +kernel
theorem dX11_shaded_25 : decode cX11_shaded 25 = .ok (.iadd, 1) := by decide +kernel
theorem dX11_shaded_26 : decode cX11_shaded 26 = .ok (.iconst 1, 1) := by decide +kernel
theorem dX11_shaded_27 : decode cX11_shaded 27 = .ok (.iadd, 1) := by decide +kernel
theorem dX11_shaded_28 : decode cX11_shaded 28 = .ok (.iaload, 1) := by decide +kernel
theorem dX11_shaded_29 : decode cX11_shaded 29 = .ok (.i2l, 1) := by decide +kernel
theorem dX11_shaded_30 : decode cX11_shaded 30 = .ok (.bipush 32, 2) := by decide +kernel
theorem dX11_shaded_32 : decode cX11_shaded 32 = .ok (.lshl, 1) := by decide +kernel
theorem dX11_shaded_33 : decode cX11_shaded 33 = .ok (.aload_n 0, 1) := by decide +kernel
theorem dX11_shaded_34 : decode cX11_shaded 34 = .ok (.getfield 38, 3) := by decide +kernel
theorem dX11_shaded_37 : decode cX11_shaded 37 = .ok (.sipush 1034, 3) := by decide +kernel
theorem dX11_shaded_40 : decode cX11_shaded 40 = .ok (.iconst 2, 1) := by decide +kernel
theorem dX11_shaded_41 : decode cX11_shaded 41 = .ok (.iload_n 1, 1) := by decide +kernel
theorem dX11_shaded_42 : decode cX11_shaded 42 = .ok (.imul, 1) := by decide +kernel
theorem dX11_shaded_43 : decode cX11_shaded 43 = .ok (.iadd, 1) := by decide +kernel
theorem dX11_shaded_44 : decode cX11_shaded 44 = .ok (.iaload, 1) := by decide +kernel
theorem dX11_shaded_45 : decode cX11_shaded 45 = .ok (.i2l, 1) := by decide +kernel
theorem dX11_shaded_46 : decode cX11_shaded 46 = .ok (.ldc2_w 454, 3) := by decide +kernel
theorem dX11_shaded_49 : decode cX11_shaded 49 = .ok (.land, 1) := by decide +kernel
theorem dX11_shaded_50 : decode cX11_shaded 50 = .ok (.lor, 1) := by decide +kernel
theorem dX11_shaded_51 : decode cX11_shaded 51 = .ok (.lreturn, 1) := by decide +kernel
theorem dX11_step_0 : decode cX11_step 0 = .ok (.aload_n 0, 1) := by decide +kernel
theorem dX11_step_1 : decode cX11_step 1 = .ok (.iconst 0, 1) := by decide +kernel
theorem dX11_step_2 : decode cX11_step 2 = .ok (.putfield 75, 3) := by decide +kernel
theorem dX11_step_5 : decode cX11_step 5 = .ok (.iload_n 1, 1) := by decide +kernel
theorem dX11_step_6 : decode cX11_step 6 = .ok (.i2l, 1) := by decide +kernel
theorem dX11_step_7 : decode cX11_step 7 = .ok (.lconst 0, 1) := by decide +kernel
theorem dX11_step_8 : decode cX11_step 8 = .ok (.aload_n 0, 1) := by decide +kernel
theorem dX11_step_9 : decode cX11_step 9 = .ok (.getfield 209, 3) := by decide +kernel
theorem dX11_step_12 : decode cX11_step 12 = .ok (.iconst 1, 1) := by decide +kernel
theorem dX11_step_13 : decode cX11_step 13 = .ok (.isub, 1) := by decide +kernel
theorem dX11_step_14 : decode cX11_step 14 = .ok (.i2l, 1) := by decide +kernel
theorem dX11_step_15 : decode cX11_step 15 = .ok (.invokestatic 148, 3) := by decide +kernel
theorem dX11_step_18 : decode cX11_step 18 = .ok (.ifCond .eq 33, 3) := by decide +kernel
theorem dX11_step_21 : decode cX11_step 21 = .ok (.iload_n 2, 1) := by decide +kernel
theorem dX11_step_22 : decode cX11_step 22 = .ok (.i2l, 1) := by decide +kernel
theorem dX11_step_23 : decode cX11_step 23 = .ok (.lconst 0, 1) := by decide +kernel
theorem dX11_step_24 : decode cX11_step 24 = .ok (.aload_n 0, 1) := by decide +kernel
theorem dX11_step_25 : decode cX11_step 25 = .ok (.getfield 32, 3) := by decide +kernel
theorem dX11_step_28 : decode cX11_step 28 = .ok (.iload_n 1, 1) := by decide +kernel
theorem dX11_step_29 : decode cX11_step 29 = .ok (.iaload, 1) := by decide +kernel
theorem dX11_step_30 : decode cX11_step 30 = .ok (.iconst 1, 1) := by decide +kernel
theorem dX11_step_31 : decode cX11_step 31 = .ok (.isub, 1) := by decide +kernel
theorem dX11_step_32 : decode cX11_step 32 = .ok (.i2l, 1) := by decide +kernel
theorem dX11_step_33 : decode cX11_step 33 = .ok (.invokestatic 148, 3) := by decide +kernel
theorem dX11_step_36 : decode cX11_step 36 = .ok (.ifCond .eq 15, 3) := by decide +kernel
theorem dX11_step_39 : decode cX11_step 39 = .ok (.iload_n 3, 1) := by decide +kernel
theorem dX11_step_40 : decode cX11_step 40 = .ok (.i2l, 1) := by decide +kernel
theorem dX11_step_41 : decode cX11_step 41 = .ok (.lconst 0, 1) := by decide +kernel
theorem dX11_step_42 : decode cX11_step 42 = .ok (.ldc2_w 162, 3) := by decide +kernel
theorem dX11_step_45 : decode cX11_step 45 = .ok (.invokestatic 148, 3) := by decide +kernel
theorem dX11_step_48 : decode cX11_step 48 = .ok (.ifCond .ne 6, 3) := by decide +kernel
theorem dX11_step_51 : decode cX11_step 51 = .ok (.ldc 202, 2) := by decide +kernel
theorem dX11_step_53 : decode cX11_step 53 = .ok (.ireturn, 1) := by decide +kernel
theorem dX11_step_54 : decode cX11_step 54 = .ok (.aload_n 0, 1) := by decide +kernel
theorem dX11_step_55 : decode cX11_step 55 = .ok (.getfield 29, 3) := by decide +kernel
theorem dX11_step_58 : decode cX11_step 58 = .ok (.iconst 5, 1) := by decide +kernel
theorem dX11_step_59 : decode cX11_step 59 = .ok (.bipush 12, 2) := by decide +kernel
theorem dX11_step_61 : decode cX11_step 61 = .ok (.iload_n 1, 1) := by decide +kernel
theorem dX11_step_62 : decode cX11_step 62 = .ok (.imul, 1) := by decide +kernel
theorem dX11_step_63 : decode cX11_step 63 = .ok (.iload_n 2, 1) := by decide +kernel
theorem dX11_step_64 : decode cX11_step 64 = .ok (.iadd, 1) := by decide +kernel
theorem dX11_step_65 : decode cX11_step 65 = .ok (.imul, 1) := by decide +kernel
theorem dX11_step_66 : decode cX11_step 66 = .ok (.iload_n 3, 1) := by decide +kernel
theorem dX11_step_67 : decode cX11_step 67 = .ok (.iadd, 1) := by decide +kernel
theorem dX11_step_68 : decode cX11_step 68 = .ok (.iaload, 1) := by decide +kernel
theorem dX11_step_69 : decode cX11_step 69 = .ok (.ireturn, 1) := by decide +kernel
theorem dX11_stopsStep_0 : decode cX11_stopsStep 0 = .ok (.aload_n 0, 1) := by decide +kernel
theorem dX11_stopsStep_1 : decode cX11_stopsStep 1 = .ok (.getfield 29, 3) := by decide +kernel
theorem dX11_stopsStep_4 : decode cX11_stopsStep 4 = .ok (.iload_n 2, 1) := by decide +kernel
theorem dX11_stopsStep_5 : decode cX11_stopsStep 5 = .ok (.iconst 1, 1) := by decide +kernel
theorem dX11_stopsStep_6 : decode cX11_stopsStep 6 = .ok (.iadd, 1) := by decide +kernel
theorem dX11_stopsStep_7 : decode cX11_stopsStep 7 = .ok (.iaload, 1) := by decide +kernel
theorem dX11_stopsStep_8 : decode cX11_stopsStep 8 = .ok (.istore_n 3, 1) := by decide +kernel
theorem dX11_stopsStep_9 : decode cX11_stopsStep 9 = .ok (.aload_n 0, 1) := by decide +kernel
theorem dX11_stopsStep_10 : decode cX11_stopsStep 10 = .ok (.getfield 29, 3) := by decide +kernel
theorem dX11_stopsStep_13 : decode cX11_stopsStep 13 = .ok (.iload_n 2, 1) := by decide +kernel
theorem dX11_stopsStep_14 : decode cX11_stopsStep 14 = .ok (.iaload, 1) := by decide +kernel
theorem dX11_stopsStep_15 : decode cX11_stopsStep 15 = .ok (.tableswitch 96 0 8 #[49, 56, 63, 63, 96, 96, 96, 96, 65], 49) := by decide +kernel
theorem dX11_stopsStep_64 : decode cX11_stopsStep 64 = .ok (.aload_n 0, 1) := by decide +kernel
theorem dX11_stopsStep_65 : decode cX11_stopsStep 65 = .ok (.aload_n 1, 1) := by decide +kernel
theorem dX11_stopsStep_66 : decode cX11_stopsStep 66 = .ok (.iload_n 3, 1) := by decide +kernel
theorem dX11_stopsStep_67 : decode cX11_stopsStep 67 = .ok (.invokevirtual 370, 3) := by decide +kernel
theorem dX11_stopsStep_70 : decode cX11_stopsStep 70 = .ok (.ireturn, 1) := by decide +kernel
theorem dX11_stopsStep_71 : decode cX11_stopsStep 71 = .ok (.aload_n 0, 1) := by decide +kernel
theorem dX11_stopsStep_72 : decode cX11_stopsStep 72 = .ok (.aload_n 1, 1) := by decide +kernel
theorem dX11_stopsStep_73 : decode cX11_stopsStep 73 = .ok (.iload_n 3, 1) := by decide +kernel
theorem dX11_stopsStep_74 : decode cX11_stopsStep 74 = .ok (.invokevirtual 386, 3) := by decide +kernel
theorem dX11_stopsStep_77 : decode cX11_stopsStep 77 = .ok (.ireturn, 1) := by decide +kernel
theorem dX11_stopsStep_78 : decode cX11_stopsStep 78 = .ok (.iconst (-1), 1) := by decide +kernel
theorem dX11_stopsStep_79 : decode cX11_stopsStep 79 = .ok (.ireturn, 1) := by decide +kernel
theorem dX11_stopsStep_80 : decode cX11_stopsStep 80 = .ok (.aload_n 0, 1) := by decide +kernel
theorem dX11_stopsStep_81 : decode cX11_stopsStep 81 = .ok (.aload_n 1, 1) := by decide +kernel
theorem dX11_stopsStep_82 : decode cX11_stopsStep 82 = .ok (.iload_n 3, 1) := by decide +kernel
theorem dX11_stopsStep_83 : decode cX11_stopsStep 83 = .ok (.aload_n 0, 1) := by decide +kernel
theorem dX11_stopsStep_84 : decode cX11_stopsStep 84 = .ok (.getfield 29, 3) := by decide +kernel
theorem dX11_stopsStep_87 : decode cX11_stopsStep 87 = .ok (.iload_n 2, 1) := by decide +kernel
theorem dX11_stopsStep_88 : decode cX11_stopsStep 88 = .ok (.iconst 2, 1) := by decide +kernel
theorem dX11_stopsStep_89 : decode cX11_stopsStep 89 = .ok (.iadd, 1) := by decide +kernel
theorem dX11_stopsStep_90 : decode cX11_stopsStep 90 = .ok (.iaload, 1) := by decide +kernel
theorem dX11_stopsStep_91 : decode cX11_stopsStep 91 = .ok (.aload_n 0, 1) := by decide +kernel
theorem dX11_stopsStep_92 : decode cX11_stopsStep 92 = .ok (.getfield 29, 3) := by decide +kernel
theorem dX11_stopsStep_95 : decode cX11_stopsStep 95 = .ok (.iload_n 2, 1) := by decide +kernel
theorem dX11_stopsStep_96 : decode cX11_stopsStep 96 = .ok (.iconst 3, 1) := by decide +kernel
theorem dX11_stopsStep_97 : decode cX11_stopsStep 97 = .ok (.iadd, 1) := by decide +kernel
theorem dX11_stopsStep_98 : decode cX11_stopsStep 98 = .ok (.iaload, 1) := by decide +kernel
theorem dX11_stopsStep_99 : decode cX11_stopsStep 99 = .ok (.aload_n 0, 1) := by decide +kernel
theorem dX11_stopsStep_100 : decode cX11_stopsStep 100 = .ok (.getfield 29, 3) := by decide +kernel
theorem dX11_stopsStep_103 : decode cX11_stopsStep 103 = .ok (.iload_n 2, 1) := by decide +kernel
theorem dX11_stopsStep_104 : decode cX11_stopsStep 104 = .ok (.iconst 4, 1) := by decide +kernel
theorem dX11_stopsStep_105 : decode cX11_stopsStep 105 = .ok (.iadd, 1) := by decide +kernel
theorem dX11_stopsStep_106 : decode cX11_stopsStep 106 = .ok (.iaload, 1) := by decide +kernel
theorem dX11_stopsStep_107 : decode cX11_stopsStep 107 = .ok (.invokevirtual 399, 3) := by decide +kernel
theorem dX11_stopsStep_110 : decode cX11_stopsStep 110 = .ok (.ireturn, 1) := by decide +kernel
theorem dX11_stopsStep_111 : decode cX11_stopsStep 111 = .ok (.aload_n 0, 1) := by decide +kernel
theorem dX11_stopsStep_112 : decode cX11_stopsStep 112 = .ok (.aload_n 1, 1) := by decide +kernel
theorem dX11_stopsStep_113 : decode cX11_stopsStep 113 = .ok (.aload_n 0, 1) := by decide +kernel
theorem dX11_stopsStep_114 : decode cX11_stopsStep 114 = .ok (.getfield 29, 3) := by decide +kernel
theorem dX11_stopsStep_117 : decode cX11_stopsStep 117 = .ok (.iload_n 2, 1) := by decide +kernel
theorem dX11_stopsStep_118 : decode cX11_stopsStep 118 = .ok (.iaload, 1) := by decide +kernel
theorem dX11_stopsStep_119 : decode cX11_stopsStep 119 = .ok (.iconst 4, 1) := by decide +kernel
theorem dX11_stopsStep_120 : decode cX11_stopsStep 120 = .ok (.isub, 1) := by decide +kernel
theorem dX11_stopsStep_121 : decode cX11_stopsStep 121 = .ok (.iload_n 3, 1) := by decide +kernel
theorem dX11_stopsStep_122 : decode cX11_stopsStep 122 = .ok (.invokevirtual 395, 3) := by decide +kernel
theorem dX11_stopsStep_125 : decode cX11_stopsStep 125 = .ok (.ireturn, 1) := by decide +kernel
theorem dX11_doesStep_0 : decode cX11_doesStep 0 = .ok (.aload_n 0, 1) := by decide +kernel
theorem dX11_doesStep_1 : decode cX11_doesStep 1 = .ok (.getfield 29, 3) := by decide +kernel
theorem dX11_doesStep_4 : decode cX11_doesStep 4 = .ok (.iload_n 2, 1) := by decide +kernel
theorem dX11_doesStep_5 : decode cX11_doesStep 5 = .ok (.iconst 1, 1) := by decide +kernel
theorem dX11_doesStep_6 : decode cX11_doesStep 6 = .ok (.iadd, 1) := by decide +kernel
theorem dX11_doesStep_7 : decode cX11_doesStep 7 = .ok (.iaload, 1) := by decide +kernel
theorem dX11_doesStep_8 : decode cX11_doesStep 8 = .ok (.istore_n 3, 1) := by decide +kernel
theorem dX11_doesStep_9 : decode cX11_doesStep 9 = .ok (.aload_n 0, 1) := by decide +kernel
theorem dX11_doesStep_10 : decode cX11_doesStep 10 = .ok (.getfield 29, 3) := by decide +kernel
theorem dX11_doesStep_13 : decode cX11_doesStep 13 = .ok (.iload_n 2, 1) := by decide +kernel
theorem dX11_doesStep_14 : decode cX11_doesStep 14 = .ok (.iaload, 1) := by decide +kernel
theorem dX11_doesStep_15 : decode cX11_doesStep 15 = .ok (.tableswitch 116 0 8 #[49, 59, 68, 76, 116, 116, 116, 116, 84], 49) := by decide +kernel
theorem dX11_doesStep_64 : decode cX11_doesStep 64 = .ok (.aload_n 0, 1) := by decide +kernel
theorem dX11_doesStep_65 : decode cX11_doesStep 65 = .ok (.aload_n 1, 1) := by decide +kernel
theorem dX11_doesStep_66 : decode cX11_doesStep 66 = .ok (.iload_n 3, 1) := by decide +kernel
theorem dX11_doesStep_67 : decode cX11_doesStep 67 = .ok (.invokevirtual 379, 3) := by decide +kernel
theorem dX11_doesStep_70 : decode cX11_doesStep 70 = .ok (.pop, 1) := by decide +kernel
theorem dX11_doesStep_71 : decode cX11_doesStep 71 = .ok (.goto 75, 3) := by decide +kernel
theorem dX11_doesStep_74 : decode cX11_doesStep 74 = .ok (.aload_n 0, 1) := by decide +kernel
theorem dX11_doesStep_75 : decode cX11_doesStep 75 = .ok (.aload_n 1, 1) := by decide +kernel
theorem dX11_doesStep_76 : decode cX11_doesStep 76 = .ok (.iload_n 3, 1) := by decide +kernel
theorem dX11_doesStep_77 : decode cX11_doesStep 77 = .ok (.invokevirtual 328, 3) := by decide +kernel
theorem dX11_doesStep_80 : decode cX11_doesStep 80 = .ok (.goto 66, 3) := by decide +kernel
theorem dX11_doesStep_83 : decode cX11_doesStep 83 = .ok (.aload_n 0, 1) := by decide +kernel
theorem dX11_doesStep_84 : decode cX11_doesStep 84 = .ok (.aload_n 1, 1) := by decide +kernel
theorem dX11_doesStep_85 : decode cX11_doesStep 85 = .ok (.invokevirtual 389, 3) := by decide +kernel
theorem dX11_doesStep_88 : decode cX11_doesStep 88 = .ok (.goto 58, 3) := by decide +kernel
theorem dX11_doesStep_91 : decode cX11_doesStep 91 = .ok (.aload_n 0, 1) := by decide +kernel
theorem dX11_doesStep_92 : decode cX11_doesStep 92 = .ok (.aload_n 1, 1) := by decide +kernel
theorem dX11_doesStep_93 : decode cX11_doesStep 93 = .ok (.invokevirtual 217, 3) := by decide +kernel
theorem dX11_doesStep_96 : decode cX11_doesStep 96 = .ok (.goto 50, 3) := by decide +kernel
theorem dX11_doesStep_99 : decode cX11_doesStep 99 = .ok (.aload_n 1, 1) := by decide +kernel
theorem dX11_doesStep_100 : decode cX11_doesStep 100 = .ok (.iload_n 3, 1) := by decide +kernel
theorem dX11_doesStep_101 : decode cX11_doesStep 101 = .ok (.aload_n 0, 1) := by decide +kernel
theorem dX11_doesStep_102 : decode cX11_doesStep 102 = .ok (.getfield 29, 3) := by decide +kernel
theorem dX11_doesStep_105 : decode cX11_doesStep 105 = .ok (.iload_n 2, 1) := by decide +kernel
theorem dX11_doesStep_106 : decode cX11_doesStep 106 = .ok (.iconst 2, 1) := by decide +kernel
theorem dX11_doesStep_107 : decode cX11_doesStep 107 = .ok (.iadd, 1) := by decide +kernel
theorem dX11_doesStep_108 : decode cX11_doesStep 108 = .ok (.iaload, 1) := by decide +kernel
theorem dX11_doesStep_109 : decode cX11_doesStep 109 = .ok (.aload_n 0, 1) := by decide +kernel
theorem dX11_doesStep_110 : decode cX11_doesStep 110 = .ok (.getfield 29, 3) := by decide +kernel
theorem dX11_doesStep_113 : decode cX11_doesStep 113 = .ok (.iload_n 2, 1) := by decide +kernel
theorem dX11_doesStep_114 : decode cX11_doesStep 114 = .ok (.iconst 3, 1) := by decide +kernel
theorem dX11_doesStep_115 : decode cX11_doesStep 115 = .ok (.iadd, 1) := by decide +kernel
theorem dX11_doesStep_116 : decode cX11_doesStep 116 = .ok (.iaload, 1) := by decide +kernel
theorem dX11_doesStep_117 : decode cX11_doesStep 117 = .ok (.aload_n 0, 1) := by decide +kernel
theorem dX11_doesStep_118 : decode cX11_doesStep 118 = .ok (.getfield 29, 3) := by decide +kernel
theorem dX11_doesStep_121 : decode cX11_doesStep 121 = .ok (.iload_n 2, 1) := by decide +kernel
theorem dX11_doesStep_122 : decode cX11_doesStep 122 = .ok (.iconst 4, 1) := by decide +kernel
theorem dX11_doesStep_123 : decode cX11_doesStep 123 = .ok (.iadd, 1) := by decide +kernel
theorem dX11_doesStep_124 : decode cX11_doesStep 124 = .ok (.iaload, 1) := by decide +kernel
theorem dX11_doesStep_125 : decode cX11_doesStep 125 = .ok (.invokestatic 403, 3) := by decide +kernel
theorem dX11_doesStep_128 : decode cX11_doesStep 128 = .ok (.goto 18, 3) := by decide +kernel
theorem dX11_doesStep_131 : decode cX11_doesStep 131 = .ok (.aload_n 1, 1) := by decide +kernel
theorem dX11_doesStep_132 : decode cX11_doesStep 132 = .ok (.sipush 1057, 3) := by decide +kernel
theorem dX11_doesStep_135 : decode cX11_doesStep 135 = .ok (.aload_n 0, 1) := by decide +kernel
theorem dX11_doesStep_136 : decode cX11_doesStep 136 = .ok (.getfield 29, 3) := by decide +kernel
theorem dX11_doesStep_139 : decode cX11_doesStep 139 = .ok (.iload_n 2, 1) := by decide +kernel
theorem dX11_doesStep_140 : decode cX11_doesStep 140 = .ok (.iaload, 1) := by decide +kernel
theorem dX11_doesStep_141 : decode cX11_doesStep 141 = .ok (.iadd, 1) := by decide +kernel
theorem dX11_doesStep_142 : decode cX11_doesStep 142 = .ok (.iconst 4, 1) := by decide +kernel
theorem dX11_doesStep_143 : decode cX11_doesStep 143 = .ok (.isub, 1) := by decide +kernel
theorem dX11_doesStep_144 : decode cX11_doesStep 144 = .ok (.iload_n 3, 1) := by decide +kernel
theorem dX11_doesStep_145 : decode cX11_doesStep 145 = .ok (.iastore, 1) := by decide +kernel
theorem dX11_doesStep_146 : decode cX11_doesStep 146 = .ok (.return_, 1) := by decide +kernel
theorem dX11_run_0 : decode cX11_run 0 = .ok (.aload_n 0, 1) := by decide +kernel
theorem dX11_run_1 : decode cX11_run 1 = .ok (.iconst 0, 1) := by decide +kernel
theorem dX11_run_2 : decode cX11_run 2 = .ok (.putfield 75, 3) := by decide +kernel
theorem dX11_run_5 : decode cX11_run 5 = .ok (.iload_n 1, 1) := by decide +kernel
theorem dX11_run_6 : decode cX11_run 6 = .ok (.i2l, 1) := by decide +kernel
theorem dX11_run_7 : decode cX11_run 7 = .ok (.lconst 0, 1) := by decide +kernel
theorem dX11_run_8 : decode cX11_run 8 = .ok (.aload_n 0, 1) := by decide +kernel
theorem dX11_run_9 : decode cX11_run 9 = .ok (.getfield 209, 3) := by decide +kernel
theorem dX11_run_12 : decode cX11_run 12 = .ok (.iconst 1, 1) := by decide +kernel
theorem dX11_run_13 : decode cX11_run 13 = .ok (.isub, 1) := by decide +kernel
theorem dX11_run_14 : decode cX11_run 14 = .ok (.i2l, 1) := by decide +kernel
theorem dX11_run_15 : decode cX11_run 15 = .ok (.invokestatic 148, 3) := by decide +kernel
theorem dX11_run_18 : decode cX11_run 18 = .ok (.ifCond .eq 20, 3) := by decide +kernel
theorem dX11_run_21 : decode cX11_run 21 = .ok (.aload_n 0, 1) := by decide +kernel
theorem dX11_run_22 : decode cX11_run 22 = .ok (.getfield 214, 3) := by decide +kernel
theorem dX11_run_25 : decode cX11_run 25 = .ok (.ifCond .eq 13, 3) := by decide +kernel
theorem dX11_run_28 : decode cX11_run 28 = .ok (.iload_n 2, 1) := by decide +kernel
theorem dX11_run_29 : decode cX11_run 29 = .ok (.i2l, 1) := by decide +kernel
theorem dX11_run_30 : decode cX11_run 30 = .ok (.lconst 0, 1) := by decide +kernel
theorem dX11_run_31 : decode cX11_run 31 = .ok (.lconst 1, 1) := by decide +kernel
theorem dX11_run_32 : decode cX11_run 32 = .ok (.invokestatic 148, 3) := by decide +kernel
theorem dX11_run_35 : decode cX11_run 35 = .ok (.ifCond .ne 6, 3) := by decide +kernel
theorem dX11_run_38 : decode cX11_run 38 = .ok (.ldc 202, 2) := by decide +kernel
theorem dX11_run_40 : decode cX11_run 40 = .ok (.ireturn, 1) := by decide +kernel
theorem dX11_run_41 : decode cX11_run 41 = .ok (.aload_n 0, 1) := by decide +kernel
theorem dX11_run_42 : decode cX11_run 42 = .ok (.getfield 38, 3) := by decide +kernel
theorem dX11_run_45 : decode cX11_run 45 = .ok (.iconst 0, 1) := by decide +kernel
theorem dX11_run_46 : decode cX11_run 46 = .ok (.aload_n 0, 1) := by decide +kernel
theorem dX11_run_47 : decode cX11_run 47 = .ok (.getfield 41, 3) := by decide +kernel
theorem dX11_run_50 : decode cX11_run 50 = .ok (.iconst 0, 1) := by decide +kernel
theorem dX11_run_51 : decode cX11_run 51 = .ok (.invokestatic 344, 3) := by decide +kernel
theorem dX11_run_54 : decode cX11_run 54 = .ok (.iconst 0, 1) := by decide +kernel
theorem dX11_run_55 : decode cX11_run 55 = .ok (.istore_n 3, 1) := by decide +kernel
theorem dX11_run_56 : decode cX11_run 56 = .ok (.iload_n 3, 1) := by decide +kernel
theorem dX11_run_57 : decode cX11_run 57 = .ok (.aload_n 0, 1) := by decide +kernel
theorem dX11_run_58 : decode cX11_run 58 = .ok (.getfield 32, 3) := by decide +kernel
theorem dX11_run_61 : decode cX11_run 61 = .ok (.iload_n 1, 1) := by decide +kernel
theorem dX11_run_62 : decode cX11_run 62 = .ok (.iaload, 1) := by decide +kernel
theorem dX11_run_63 : decode cX11_run 63 = .ok (.if_icmp .ge 45, 3) := by decide +kernel
theorem dX11_run_66 : decode cX11_run 66 = .ok (.aload_n 0, 1) := by decide +kernel
theorem dX11_run_67 : decode cX11_run 67 = .ok (.aload_n 0, 1) := by decide +kernel
theorem dX11_run_68 : decode cX11_run 68 = .ok (.getfield 41, 3) := by decide +kernel
theorem dX11_run_71 : decode cX11_run 71 = .ok (.iconst 5, 1) := by decide +kernel
theorem dX11_run_72 : decode cX11_run 72 = .ok (.bipush 12, 2) := by decide +kernel
theorem dX11_run_74 : decode cX11_run 74 = .ok (.iload_n 1, 1) := by decide +kernel
theorem dX11_run_75 : decode cX11_run 75 = .ok (.imul, 1) := by decide +kernel
theorem dX11_run_76 : decode cX11_run 76 = .ok (.iload_n 3, 1) := by decide +kernel
theorem dX11_run_77 : decode cX11_run 77 = .ok (.iadd, 1) := by decide +kernel
theorem dX11_run_78 : decode cX11_run 78 = .ok (.imul, 1) := by decide +kernel
theorem dX11_run_79 : decode cX11_run 79 = .ok (.invokevirtual 456, 3) := by decide +kernel
theorem dX11_run_82 : decode cX11_run 82 = .ok (.iconst (-1), 1) := by decide +kernel
theorem dX11_run_83 : decode cX11_run 83 = .ok (.if_icmp .ne 25, 3) := by decide +kernel
theorem dX11_run_86 : decode cX11_run 86 = .ok (.aload_n 0, 1) := by decide +kernel
theorem dX11_run_87 : decode cX11_run 87 = .ok (.aload_n 0, 1) := by decide +kernel
theorem dX11_run_88 : decode cX11_run 88 = .ok (.getfield 41, 3) := by decide +kernel
theorem dX11_run_91 : decode cX11_run 91 = .ok (.iconst 5, 1) := by decide +kernel
theorem dX11_run_92 : decode cX11_run 92 = .ok (.bipush 12, 2) := by decide +kernel
theorem dX11_run_94 : decode cX11_run 94 = .ok (.iload_n 1, 1) := by decide +kernel
theorem dX11_run_95 : decode cX11_run 95 = .ok (.imul, 1) := by decide +kernel
theorem dX11_run_96 : decode cX11_run 96 = .ok (.iload_n 3, 1) := by decide +kernel
theorem dX11_run_97 : decode cX11_run 97 = .ok (.iadd, 1) := by decide +kernel
theorem dX11_run_98 : decode cX11_run 98 = .ok (.imul, 1) := by decide +kernel
theorem dX11_run_99 : decode cX11_run 99 = .ok (.invokevirtual 459, 3) := by decide +kernel
theorem dX11_run_102 : decode cX11_run 102 = .ok (.iinc 3 1, 3) := by decide +kernel
theorem dX11_run_105 : decode cX11_run 105 = .ok (.goto (-49), 3) := by decide +kernel
theorem dX11_run_108 : decode cX11_run 108 = .ok (.iload_n 2, 1) := by decide +kernel
theorem dX11_run_109 : decode cX11_run 109 = .ok (.iconst 1, 1) := by decide +kernel
theorem dX11_run_110 : decode cX11_run 110 = .ok (.if_icmp .ne 14, 3) := by decide +kernel
theorem dX11_run_113 : decode cX11_run 113 = .ok (.aload_n 0, 1) := by decide +kernel
theorem dX11_run_114 : decode cX11_run 114 = .ok (.aload_n 0, 1) := by decide +kernel
theorem dX11_run_115 : decode cX11_run 115 = .ok (.getfield 41, 3) := by decide +kernel
theorem dX11_run_118 : decode cX11_run 118 = .ok (.invokevirtual 348, 3) := by decide +kernel
theorem dX11_run_121 : decode cX11_run 121 = .ok (.goto 18, 3) := by decide +kernel
theorem dX11_run_124 : decode cX11_run 124 = .ok (.iload_n 3, 1) := by decide +kernel
theorem dX11_run_125 : decode cX11_run 125 = .ok (.aload_n 0, 1) := by decide +kernel
theorem dX11_run_126 : decode cX11_run 126 = .ok (.getfield 32, 3) := by decide +kernel
theorem dX11_run_129 : decode cX11_run 129 = .ok (.iload_n 1, 1) := by decide +kernel
theorem dX11_run_130 : decode cX11_run 130 = .ok (.iaload, 1) := by decide +kernel
theorem dX11_run_131 : decode cX11_run 131 = .ok (.if_icmp .ne 7, 3) := by decide +kernel
theorem dX11_run_134 : decode cX11_run 134 = .ok (.iconst (-1), 1) := by decide +kernel
theorem dX11_run_135 : decode cX11_run 135 = .ok (.goto 4, 3) := by decide +kernel
theorem dX11_run_138 : decode cX11_run 138 = .ok (.iload_n 3, 1) := by decide +kernel
theorem dX11_run_139 : decode cX11_run 139 = .ok (.ireturn, 1) := by decide +kernel
theorem dX11_perform_0 : decode cX11_perform 0 = .ok (.aload_n 0, 1) := by decide +kernel
theorem dX11_perform_1 : decode cX11_perform 1 = .ok (.iconst 0, 1) := by decide +kernel
theorem dX11_perform_2 : decode cX11_perform 2 = .ok (.putfield 75, 3) := by decide +kernel
theorem dX11_perform_5 : decode cX11_perform 5 = .ok (.iload_n 1, 1) := by decide +kernel
theorem dX11_perform_6 : decode cX11_perform 6 = .ok (.i2l, 1) := by decide +kernel
theorem dX11_perform_7 : decode cX11_perform 7 = .ok (.lconst 0, 1) := by decide +kernel
theorem dX11_perform_8 : decode cX11_perform 8 = .ok (.aload_n 0, 1) := by decide +kernel
theorem dX11_perform_9 : decode cX11_perform 9 = .ok (.getfield 209, 3) := by decide +kernel
theorem dX11_perform_12 : decode cX11_perform 12 = .ok (.iconst 1, 1) := by decide +kernel
theorem dX11_perform_13 : decode cX11_perform 13 = .ok (.isub, 1) := by decide +kernel
theorem dX11_perform_14 : decode cX11_perform 14 = .ok (.i2l, 1) := by decide +kernel
theorem dX11_perform_15 : decode cX11_perform 15 = .ok (.invokestatic 148, 3) := by decide +kernel
theorem dX11_perform_18 : decode cX11_perform 18 = .ok (.ifCond .eq 10, 3) := by decide +kernel
theorem dX11_perform_21 : decode cX11_perform 21 = .ok (.aload_n 0, 1) := by decide +kernel
theorem dX11_perform_22 : decode cX11_perform 22 = .ok (.getfield 214, 3) := by decide +kernel
theorem dX11_perform_25 : decode cX11_perform 25 = .ok (.ifCond .ne 5, 3) := by decide +kernel
theorem dX11_perform_28 : decode cX11_perform 28 = .ok (.iconst (-1), 1) := by decide +kernel
theorem dX11_perform_29 : decode cX11_perform 29 = .ok (.ireturn, 1) := by decide +kernel
theorem dX11_perform_30 : decode cX11_perform 30 = .ok (.iconst 0, 1) := by decide +kernel
theorem dX11_perform_31 : decode cX11_perform 31 = .ok (.istore_n 2, 1) := by decide +kernel
theorem dX11_perform_32 : decode cX11_perform 32 = .ok (.iload_n 2, 1) := by decide +kernel
theorem dX11_perform_33 : decode cX11_perform 33 = .ok (.aload_n 0, 1) := by decide +kernel
theorem dX11_perform_34 : decode cX11_perform 34 = .ok (.getfield 32, 3) := by decide +kernel
theorem dX11_perform_37 : decode cX11_perform 37 = .ok (.iload_n 1, 1) := by decide +kernel
theorem dX11_perform_38 : decode cX11_perform 38 = .ok (.iaload, 1) := by decide +kernel
theorem dX11_perform_39 : decode cX11_perform 39 = .ok (.if_icmp .ge 130, 3) := by decide +kernel
theorem dX11_perform_42 : decode cX11_perform 42 = .ok (.aload_n 0, 1) := by decide +kernel
theorem dX11_perform_43 : decode cX11_perform 43 = .ok (.aload_n 0, 1) := by decide +kernel
theorem dX11_perform_44 : decode cX11_perform 44 = .ok (.getfield 38, 3) := by decide +kernel
theorem dX11_perform_47 : decode cX11_perform 47 = .ok (.iconst 5, 1) := by decide +kernel
theorem dX11_perform_48 : decode cX11_perform 48 = .ok (.bipush 12, 2) := by decide +kernel
theorem dX11_perform_50 : decode cX11_perform 50 = .ok (.iload_n 1, 1) := by decide +kernel
theorem dX11_perform_51 : decode cX11_perform 51 = .ok (.imul, 1) := by decide +kernel
theorem dX11_perform_52 : decode cX11_perform 52 = .ok (.iload_n 2, 1) := by decide +kernel
theorem dX11_perform_53 : decode cX11_perform 53 = .ok (.iadd, 1) := by decide +kernel
theorem dX11_perform_54 : decode cX11_perform 54 = .ok (.imul, 1) := by decide +kernel
theorem dX11_perform_55 : decode cX11_perform 55 = .ok (.invokevirtual 456, 3) := by decide +kernel
theorem dX11_perform_58 : decode cX11_perform 58 = .ok (.iconst (-1), 1) := by decide +kernel
theorem dX11_perform_59 : decode cX11_perform 59 = .ok (.if_icmp .ne 110, 3) := by decide +kernel
theorem dX11_perform_62 : decode cX11_perform 62 = .ok (.iconst 5, 1) := by decide +kernel
theorem dX11_perform_63 : decode cX11_perform 63 = .ok (.bipush 12, 2) := by decide +kernel
theorem dX11_perform_65 : decode cX11_perform 65 = .ok (.iload_n 1, 1) := by decide +kernel
theorem dX11_perform_66 : decode cX11_perform 66 = .ok (.imul, 1) := by decide +kernel
theorem dX11_perform_67 : decode cX11_perform 67 = .ok (.iload_n 2, 1) := by decide +kernel
theorem dX11_perform_68 : decode cX11_perform 68 = .ok (.iadd, 1) := by decide +kernel
theorem dX11_perform_69 : decode cX11_perform 69 = .ok (.imul, 1) := by decide +kernel
theorem dX11_perform_70 : decode cX11_perform 70 = .ok (.istore_n 3, 1) := by decide +kernel
theorem dX11_perform_71 : decode cX11_perform 71 = .ok (.aload_n 0, 1) := by decide +kernel
theorem dX11_perform_72 : decode cX11_perform 72 = .ok (.getfield 29, 3) := by decide +kernel
theorem dX11_perform_75 : decode cX11_perform 75 = .ok (.iload_n 3, 1) := by decide +kernel
theorem dX11_perform_76 : decode cX11_perform 76 = .ok (.iaload, 1) := by decide +kernel
theorem dX11_perform_77 : decode cX11_perform 77 = .ok (.istore 4, 2) := by decide +kernel
theorem dX11_perform_79 : decode cX11_perform 79 = .ok (.aload_n 0, 1) := by decide +kernel
theorem dX11_perform_80 : decode cX11_perform 80 = .ok (.invokevirtual 376, 3) := by decide +kernel
theorem dX11_perform_83 : decode cX11_perform 83 = .ok (.aload_n 0, 1) := by decide +kernel
theorem dX11_perform_84 : decode cX11_perform 84 = .ok (.aload_n 0, 1) := by decide +kernel
theorem dX11_perform_85 : decode cX11_perform 85 = .ok (.getfield 38, 3) := by decide +kernel
theorem dX11_perform_88 : decode cX11_perform 88 = .ok (.iload_n 3, 1) := by decide +kernel
theorem dX11_perform_89 : decode cX11_perform 89 = .ok (.invokevirtual 459, 3) := by decide +kernel
theorem dX11_perform_92 : decode cX11_perform 92 = .ok (.iload 4, 2) := by decide +kernel
theorem dX11_perform_94 : decode cX11_perform 94 = .ok (.iconst 4, 1) := by decide +kernel
theorem dX11_perform_95 : decode cX11_perform 95 = .ok (.if_icmp .ge 30, 3) := by decide +kernel
theorem dX11_perform_98 : decode cX11_perform 98 = .ok (.aload_n 0, 1) := by decide +kernel
theorem dX11_perform_99 : decode cX11_perform 99 = .ok (.iload 4, 2) := by decide +kernel
theorem dX11_perform_101 : decode cX11_perform 101 = .ok (.iload 4, 2) := by decide +kernel
theorem dX11_perform_103 : decode cX11_perform 103 = .ok (.iconst 2, 1) := by decide +kernel
theorem dX11_perform_104 : decode cX11_perform 104 = .ok (.if_icmp .ge 14, 3) := by decide +kernel
theorem dX11_perform_107 : decode cX11_perform 107 = .ok (.aload_n 0, 1) := by decide +kernel
theorem dX11_perform_108 : decode cX11_perform 108 = .ok (.getfield 29, 3) := by decide +kernel
theorem dX11_perform_111 : decode cX11_perform 111 = .ok (.iload_n 3, 1) := by decide +kernel
theorem dX11_perform_112 : decode cX11_perform 112 = .ok (.iconst 1, 1) := by decide +kernel
theorem dX11_perform_113 : decode cX11_perform 113 = .ok (.iadd, 1) := by decide +kernel
theorem dX11_perform_114 : decode cX11_perform 114 = .ok (.iaload, 1) := by decide +kernel
theorem dX11_perform_115 : decode cX11_perform 115 = .ok (.goto 4, 3) := by decide +kernel
theorem dX11_perform_118 : decode cX11_perform 118 = .ok (.iconst 0, 1) := by decide +kernel
theorem dX11_perform_119 : decode cX11_perform 119 = .ok (.invokevirtual 382, 3) := by decide +kernel
theorem dX11_perform_122 : decode cX11_perform 122 = .ok (.goto 41, 3) := by decide +kernel
theorem dX11_perform_125 : decode cX11_perform 125 = .ok (.aload_n 0, 1) := by decide +kernel
theorem dX11_perform_126 : decode cX11_perform 126 = .ok (.iload 4, 2) := by decide +kernel
theorem dX11_perform_128 : decode cX11_perform 128 = .ok (.bipush 8, 2) := by decide +kernel
theorem dX11_perform_130 : decode cX11_perform 130 = .ok (.if_icmp .ne 7, 3) := by decide +kernel
theorem dX11_perform_133 : decode cX11_perform 133 = .ok (.iconst 5, 1) := by decide +kernel
theorem dX11_perform_134 : decode cX11_perform 134 = .ok (.goto 4, 3) := by decide +kernel
theorem dX11_perform_137 : decode cX11_perform 137 = .ok (.iconst 4, 1) := by decide +kernel
theorem dX11_perform_138 : decode cX11_perform 138 = .ok (.iload 4, 2) := by decide +kernel
theorem dX11_perform_140 : decode cX11_perform 140 = .ok (.bipush 8, 2) := by decide +kernel
theorem dX11_perform_142 : decode cX11_perform 142 = .ok (.if_icmp .ne 14, 3) := by decide +kernel
theorem dX11_perform_145 : decode cX11_perform 145 = .ok (.aload_n 0, 1) := by decide +kernel
theorem dX11_perform_146 : decode cX11_perform 146 = .ok (.getfield 29, 3) := by decide +kernel
theorem dX11_perform_149 : decode cX11_perform 149 = .ok (.iload_n 3, 1) := by decide +kernel
theorem dX11_perform_150 : decode cX11_perform 150 = .ok (.iconst 1, 1) := by decide +kernel
theorem dX11_perform_151 : decode cX11_perform 151 = .ok (.iadd, 1) := by decide +kernel
theorem dX11_perform_152 : decode cX11_perform 152 = .ok (.iaload, 1) := by decide +kernel
theorem dX11_perform_153 : decode cX11_perform 153 = .ok (.goto 7, 3) := by decide +kernel
theorem dX11_perform_156 : decode cX11_perform 156 = .ok (.iload 4, 2) := by decide +kernel
theorem dX11_perform_158 : decode cX11_perform 158 = .ok (.iconst 4, 1) := by decide +kernel
theorem dX11_perform_159 : decode cX11_perform 159 = .ok (.isub, 1) := by decide +kernel
theorem dX11_perform_160 : decode cX11_perform 160 = .ok (.invokevirtual 382, 3) := by decide +kernel
theorem dX11_perform_163 : decode cX11_perform 163 = .ok (.iinc 2 1, 3) := by decide +kernel
theorem dX11_perform_166 : decode cX11_perform 166 = .ok (.goto (-134), 3) := by decide +kernel
theorem dX11_perform_169 : decode cX11_perform 169 = .ok (.iload_n 2, 1) := by decide +kernel
theorem dX11_perform_170 : decode cX11_perform 170 = .ok (.ireturn, 1) := by decide +kernel
theorem dX11_layer_0 : decode cX11_layer 0 = .ok (.aload_n 0, 1) := by decide +kernel
theorem dX11_layer_1 : decode cX11_layer 1 = .ok (.iconst 0, 1) := by decide +kernel
theorem dX11_layer_2 : decode cX11_layer 2 = .ok (.putfield 75, 3) := by decide +kernel
theorem dX11_layer_5 : decode cX11_layer 5 = .ok (.aload_n 0, 1) := by decide +kernel
theorem dX11_layer_6 : decode cX11_layer 6 = .ok (.iload_n 1, 1) := by decide +kernel
theorem dX11_layer_7 : decode cX11_layer 7 = .ok (.iload_n 2, 1) := by decide +kernel
theorem dX11_layer_8 : decode cX11_layer 8 = .ok (.iload_n 3, 1) := by decide +kernel
theorem dX11_layer_9 : decode cX11_layer 9 = .ok (.invokevirtual 448, 3) := by decide +kernel
theorem dX11_layer_12 : decode cX11_layer 12 = .ok (.ifCond .eq 8, 3) := by decide +kernel
theorem dX11_layer_15 : decode cX11_layer 15 = .ok (.iload 4, 2) := by decide +kernel
theorem dX11_layer_17 : decode cX11_layer 17 = .ok (.ifCond .ge 5, 3) := by decide +kernel
theorem dX11_layer_20 : decode cX11_layer 20 = .ok (.iconst (-1), 1) := by decide +kernel
theorem dX11_layer_21 : decode cX11_layer 21 = .ok (.ireturn, 1) := by decide +kernel
theorem dX11_layer_22 : decode cX11_layer 22 = .ok (.iconst 0, 1) := by decide +kernel
theorem dX11_layer_23 : decode cX11_layer 23 = .ok (.istore 5, 2) := by decide +kernel
theorem dX11_layer_25 : decode cX11_layer 25 = .ok (.iload 5, 2) := by decide +kernel
theorem dX11_layer_27 : decode cX11_layer 27 = .ok (.aload_n 0, 1) := by decide +kernel
theorem dX11_layer_28 : decode cX11_layer 28 = .ok (.getfield 214, 3) := by decide +kernel
theorem dX11_layer_31 : decode cX11_layer 31 = .ok (.if_icmp .ge 64, 3) := by decide +kernel
theorem dX11_layer_34 : decode cX11_layer 34 = .ok (.aload_n 0, 1) := by decide +kernel
theorem dX11_layer_35 : decode cX11_layer 35 = .ok (.aload_n 0, 1) := by decide +kernel
theorem dX11_layer_36 : decode cX11_layer 36 = .ok (.getfield 38, 3) := by decide +kernel
theorem dX11_layer_39 : decode cX11_layer 39 = .ok (.iload 5, 2) := by decide +kernel
theorem dX11_layer_41 : decode cX11_layer 41 = .ok (.invokevirtual 278, 3) := by decide +kernel
theorem dX11_layer_44 : decode cX11_layer 44 = .ok (.aload_n 0, 1) := by decide +kernel
theorem dX11_layer_45 : decode cX11_layer 45 = .ok (.getfield 60, 3) := by decide +kernel
theorem dX11_layer_48 : decode cX11_layer 48 = .ok (.iload 5, 2) := by decide +kernel
theorem dX11_layer_50 : decode cX11_layer 50 = .ok (.aload_n 0, 1) := by decide +kernel
theorem dX11_layer_51 : decode cX11_layer 51 = .ok (.iload_n 1, 1) := by decide +kernel
theorem dX11_layer_52 : decode cX11_layer 52 = .ok (.iload_n 2, 1) := by decide +kernel
theorem dX11_layer_53 : decode cX11_layer 53 = .ok (.iload_n 3, 1) := by decide +kernel
theorem dX11_layer_54 : decode cX11_layer 54 = .ok (.invokevirtual 428, 3) := by decide +kernel
theorem dX11_layer_57 : decode cX11_layer 57 = .ok (.ifCond .eq 30, 3) := by decide +kernel
theorem dX11_layer_60 : decode cX11_layer 60 = .ok (.aload_n 0, 1) := by decide +kernel
theorem dX11_layer_61 : decode cX11_layer 61 = .ok (.bipush 8, 2) := by decide +kernel
theorem dX11_layer_63 : decode cX11_layer 63 = .ok (.iload_n 1, 1) := by decide +kernel
theorem dX11_layer_64 : decode cX11_layer 64 = .ok (.imul, 1) := by decide +kernel
theorem dX11_layer_65 : decode cX11_layer 65 = .ok (.aload_n 0, 1) := by decide +kernel
theorem dX11_layer_66 : decode cX11_layer 66 = .ok (.iload_n 3, 1) := by decide +kernel
theorem dX11_layer_67 : decode cX11_layer 67 = .ok (.invokevirtual 298, 3) := by decide +kernel
theorem dX11_layer_70 : decode cX11_layer 70 = .ok (.iadd, 1) := by decide +kernel
theorem dX11_layer_71 : decode cX11_layer 71 = .ok (.bipush 8, 2) := by decide +kernel
theorem dX11_layer_73 : decode cX11_layer 73 = .ok (.iload_n 2, 1) := by decide +kernel
theorem dX11_layer_74 : decode cX11_layer 74 = .ok (.imul, 1) := by decide +kernel
theorem dX11_layer_75 : decode cX11_layer 75 = .ok (.aload_n 0, 1) := by decide +kernel
theorem dX11_layer_76 : decode cX11_layer 76 = .ok (.iload_n 3, 1) := by decide +kernel
theorem dX11_layer_77 : decode cX11_layer 77 = .ok (.invokevirtual 301, 3) := by decide +kernel
theorem dX11_layer_80 : decode cX11_layer 80 = .ok (.iadd, 1) := by decide +kernel
theorem dX11_layer_81 : decode cX11_layer 81 = .ok (.invokevirtual 255, 3) := by decide +kernel
theorem dX11_layer_84 : decode cX11_layer 84 = .ok (.goto 4, 3) := by decide +kernel
theorem dX11_layer_87 : decode cX11_layer 87 = .ok (.iconst (-1), 1) := by decide +kernel
theorem dX11_layer_88 : decode cX11_layer 88 = .ok (.iastore, 1) := by decide +kernel
theorem dX11_layer_89 : decode cX11_layer 89 = .ok (.iinc 5 1, 3) := by decide +kernel
theorem dX11_layer_92 : decode cX11_layer 92 = .ok (.goto (-67), 3) := by decide +kernel
theorem dX11_layer_95 : decode cX11_layer 95 = .ok (.iconst 0, 1) := by decide +kernel
theorem dX11_layer_96 : decode cX11_layer 96 = .ok (.istore 5, 2) := by decide +kernel
theorem dX11_layer_98 : decode cX11_layer 98 = .ok (.iload 5, 2) := by decide +kernel
theorem dX11_layer_100 : decode cX11_layer 100 = .ok (.aload_n 0, 1) := by decide +kernel
theorem dX11_layer_101 : decode cX11_layer 101 = .ok (.getfield 214, 3) := by decide +kernel
theorem dX11_layer_104 : decode cX11_layer 104 = .ok (.if_icmp .ge 116, 3) := by decide +kernel
theorem dX11_layer_107 : decode cX11_layer 107 = .ok (.aload_n 0, 1) := by decide +kernel
theorem dX11_layer_108 : decode cX11_layer 108 = .ok (.getfield 60, 3) := by decide +kernel
theorem dX11_layer_111 : decode cX11_layer 111 = .ok (.iload 5, 2) := by decide +kernel
theorem dX11_layer_113 : decode cX11_layer 113 = .ok (.iaload, 1) := by decide +kernel
theorem dX11_layer_114 : decode cX11_layer 114 = .ok (.iconst (-1), 1) := by decide +kernel
theorem dX11_layer_115 : decode cX11_layer 115 = .ok (.if_icmp .ne 6, 3) := by decide +kernel
theorem dX11_layer_118 : decode cX11_layer 118 = .ok (.goto 96, 3) := by decide +kernel
theorem dX11_layer_121 : decode cX11_layer 121 = .ok (.iconst 0, 1) := by decide +kernel
theorem dX11_layer_122 : decode cX11_layer 122 = .ok (.istore 6, 2) := by decide +kernel
theorem dX11_layer_124 : decode cX11_layer 124 = .ok (.iconst 0, 1) := by decide +kernel
theorem dX11_layer_125 : decode cX11_layer 125 = .ok (.istore 7, 2) := by decide +kernel
theorem dX11_layer_127 : decode cX11_layer 127 = .ok (.iload 7, 2) := by decide +kernel
theorem dX11_layer_129 : decode cX11_layer 129 = .ok (.aload_n 0, 1) := by decide +kernel
theorem dX11_layer_130 : decode cX11_layer 130 = .ok (.getfield 214, 3) := by decide +kernel
theorem dX11_layer_133 : decode cX11_layer 133 = .ok (.if_icmp .ge 71, 3) := by decide +kernel
theorem dX11_layer_136 : decode cX11_layer 136 = .ok (.iload 6, 2) := by decide +kernel
theorem dX11_layer_138 : decode cX11_layer 138 = .ok (.aload_n 0, 1) := by decide +kernel
theorem dX11_layer_139 : decode cX11_layer 139 = .ok (.getfield 60, 3) := by decide +kernel
theorem dX11_layer_142 : decode cX11_layer 142 = .ok (.iload 7, 2) := by decide +kernel
theorem dX11_layer_144 : decode cX11_layer 144 = .ok (.iaload, 1) := by decide +kernel
theorem dX11_layer_145 : decode cX11_layer 145 = .ok (.iconst (-1), 1) := by decide +kernel
theorem dX11_layer_146 : decode cX11_layer 146 = .ok (.if_icmp .eq 48, 3) := by decide +kernel
theorem dX11_layer_149 : decode cX11_layer 149 = .ok (.aload_n 0, 1) := by decide +kernel
theorem dX11_layer_150 : decode cX11_layer 150 = .ok (.getfield 60, 3) := by decide +kernel
theorem dX11_layer_153 : decode cX11_layer 153 = .ok (.iload 7, 2) := by decide +kernel
theorem dX11_layer_155 : decode cX11_layer 155 = .ok (.iaload, 1) := by decide +kernel
theorem dX11_layer_156 : decode cX11_layer 156 = .ok (.aload_n 0, 1) := by decide +kernel
theorem dX11_layer_157 : decode cX11_layer 157 = .ok (.getfield 60, 3) := by decide +kernel
theorem dX11_layer_160 : decode cX11_layer 160 = .ok (.iload 5, 2) := by decide +kernel
theorem dX11_layer_162 : decode cX11_layer 162 = .ok (.iaload, 1) := by decide +kernel
theorem dX11_layer_163 : decode cX11_layer 163 = .ok (.if_icmp .lt 27, 3) := by decide +kernel
theorem dX11_layer_166 : decode cX11_layer 166 = .ok (.aload_n 0, 1) := by decide +kernel
theorem dX11_layer_167 : decode cX11_layer 167 = .ok (.getfield 60, 3) := by decide +kernel
theorem dX11_layer_170 : decode cX11_layer 170 = .ok (.iload 7, 2) := by decide +kernel
theorem dX11_layer_172 : decode cX11_layer 172 = .ok (.iaload, 1) := by decide +kernel
theorem dX11_layer_173 : decode cX11_layer 173 = .ok (.aload_n 0, 1) := by decide +kernel
theorem dX11_layer_174 : decode cX11_layer 174 = .ok (.getfield 60, 3) := by decide +kernel
theorem dX11_layer_177 : decode cX11_layer 177 = .ok (.iload 5, 2) := by decide +kernel
theorem dX11_layer_179 : decode cX11_layer 179 = .ok (.iaload, 1) := by decide +kernel
theorem dX11_layer_180 : decode cX11_layer 180 = .ok (.if_icmp .ne 14, 3) := by decide +kernel
theorem dX11_layer_183 : decode cX11_layer 183 = .ok (.iload 7, 2) := by decide +kernel
theorem dX11_layer_185 : decode cX11_layer 185 = .ok (.iload 5, 2) := by decide +kernel
theorem dX11_layer_187 : decode cX11_layer 187 = .ok (.if_icmp .ge 7, 3) := by decide +kernel
theorem dX11_layer_190 : decode cX11_layer 190 = .ok (.iconst 1, 1) := by decide +kernel
theorem dX11_layer_191 : decode cX11_layer 191 = .ok (.goto 4, 3) := by decide +kernel
theorem dX11_layer_194 : decode cX11_layer 194 = .ok (.iconst 0, 1) := by decide +kernel
theorem dX11_layer_195 : decode cX11_layer 195 = .ok (.iadd, 1) := by decide +kernel
theorem dX11_layer_196 : decode cX11_layer 196 = .ok (.istore 6, 2) := by decide +kernel
theorem dX11_layer_198 : decode cX11_layer 198 = .ok (.iinc 7 1, 3) := by decide +kernel
theorem dX11_layer_201 : decode cX11_layer 201 = .ok (.goto (-74), 3) := by decide +kernel
theorem dX11_layer_204 : decode cX11_layer 204 = .ok (.iload 6, 2) := by decide +kernel
theorem dX11_layer_206 : decode cX11_layer 206 = .ok (.iload 4, 2) := by decide +kernel
theorem dX11_layer_208 : decode cX11_layer 208 = .ok (.if_icmp .ne 6, 3) := by decide +kernel
theorem dX11_layer_211 : decode cX11_layer 211 = .ok (.iload 5, 2) := by decide +kernel
theorem dX11_layer_213 : decode cX11_layer 213 = .ok (.ireturn, 1) := by decide +kernel
theorem dX11_layer_214 : decode cX11_layer 214 = .ok (.iinc 5 1, 3) := by decide +kernel
theorem dX11_layer_217 : decode cX11_layer 217 = .ok (.goto (-119), 3) := by decide +kernel
theorem dX11_layer_220 : decode cX11_layer 220 = .ok (.iconst (-1), 1) := by decide +kernel
theorem dX11_layer_221 : decode cX11_layer 221 = .ok (.ireturn, 1) := by decide +kernel
theorem dX11_shown_0 : decode cX11_shown 0 = .ok (.aload_n 0, 1) := by decide +kernel
theorem dX11_shown_1 : decode cX11_shown 1 = .ok (.iconst 0, 1) := by decide +kernel
theorem dX11_shown_2 : decode cX11_shown 2 = .ok (.putfield 75, 3) := by decide +kernel
theorem dX11_shown_5 : decode cX11_shown 5 = .ok (.aload_n 0, 1) := by decide +kernel
theorem dX11_shown_6 : decode cX11_shown 6 = .ok (.iload_n 1, 1) := by decide +kernel
theorem dX11_shown_7 : decode cX11_shown 7 = .ok (.iload_n 2, 1) := by decide +kernel
theorem dX11_shown_8 : decode cX11_shown 8 = .ok (.invokevirtual 425, 3) := by decide +kernel
theorem dX11_shown_11 : decode cX11_shown 11 = .ok (.ifCond .ne 5, 3) := by decide +kernel
theorem dX11_shown_14 : decode cX11_shown 14 = .ok (.iconst (-1), 1) := by decide +kernel
theorem dX11_shown_15 : decode cX11_shown 15 = .ok (.ireturn, 1) := by decide +kernel
theorem dX11_shown_16 : decode cX11_shown 16 = .ok (.aload_n 0, 1) := by decide +kernel
theorem dX11_shown_17 : decode cX11_shown 17 = .ok (.getfield 38, 3) := by decide +kernel
theorem dX11_shown_20 : decode cX11_shown 20 = .ok (.iconst 0, 1) := by decide +kernel
theorem dX11_shown_21 : decode cX11_shown 21 = .ok (.aload_n 0, 1) := by decide +kernel
theorem dX11_shown_22 : decode cX11_shown 22 = .ok (.getfield 41, 3) := by decide +kernel
theorem dX11_shown_25 : decode cX11_shown 25 = .ok (.iconst 0, 1) := by decide +kernel
theorem dX11_shown_26 : decode cX11_shown 26 = .ok (.invokestatic 344, 3) := by decide +kernel
theorem dX11_shown_29 : decode cX11_shown 29 = .ok (.aload_n 0, 1) := by decide +kernel
theorem dX11_shown_30 : decode cX11_shown 30 = .ok (.aload_n 0, 1) := by decide +kernel
theorem dX11_shown_31 : decode cX11_shown 31 = .ok (.getfield 41, 3) := by decide +kernel
theorem dX11_shown_34 : decode cX11_shown 34 = .ok (.invokevirtual 389, 3) := by decide +kernel
theorem dX11_shown_37 : decode cX11_shown 37 = .ok (.aload_n 0, 1) := by decide +kernel
theorem dX11_shown_38 : decode cX11_shown 38 = .ok (.aload_n 0, 1) := by decide +kernel
theorem dX11_shown_39 : decode cX11_shown 39 = .ok (.getfield 41, 3) := by decide +kernel
theorem dX11_shown_42 : decode cX11_shown 42 = .ok (.iload_n 1, 1) := by decide +kernel
theorem dX11_shown_43 : decode cX11_shown 43 = .ok (.iload_n 2, 1) := by decide +kernel
theorem dX11_shown_44 : decode cX11_shown 44 = .ok (.invokevirtual 451, 3) := by decide +kernel
theorem dX11_shown_47 : decode cX11_shown 47 = .ok (.ireturn, 1) := by decide +kernel
theorem dX11_frames_0 : decode cX11_frames 0 = .ok (.aload_n 0, 1) := by decide +kernel
theorem dX11_frames_1 : decode cX11_frames 1 = .ok (.getfield 38, 3) := by decide +kernel
theorem dX11_frames_4 : decode cX11_frames 4 = .ok (.iconst 0, 1) := by decide +kernel
theorem dX11_frames_5 : decode cX11_frames 5 = .ok (.aload_n 0, 1) := by decide +kernel
theorem dX11_frames_6 : decode cX11_frames 6 = .ok (.getfield 41, 3) := by decide +kernel
theorem dX11_frames_9 : decode cX11_frames 9 = .ok (.iconst 0, 1) := by decide +kernel
theorem dX11_frames_10 : decode cX11_frames 10 = .ok (.invokestatic 344, 3) := by decide +kernel
theorem dX11_frames_13 : decode cX11_frames 13 = .ok (.aload_n 0, 1) := by decide +kernel
theorem dX11_frames_14 : decode cX11_frames 14 = .ok (.aload_n 0, 1) := by decide +kernel
theorem dX11_frames_15 : decode cX11_frames 15 = .ok (.getfield 41, 3) := by decide +kernel
theorem dX11_frames_18 : decode cX11_frames 18 = .ok (.invokevirtual 217, 3) := by decide +kernel
theorem dX11_frames_21 : decode cX11_frames 21 = .ok (.aload_n 0, 1) := by decide +kernel
theorem dX11_frames_22 : decode cX11_frames 22 = .ok (.getfield 41, 3) := by decide +kernel
theorem dX11_frames_25 : decode cX11_frames 25 = .ok (.sipush 1059, 3) := by decide +kernel
theorem dX11_frames_28 : decode cX11_frames 28 = .ok (.iload_n 2, 1) := by decide +kernel
theorem dX11_frames_29 : decode cX11_frames 29 = .ok (.iastore, 1) := by decide +kernel
theorem dX11_frames_30 : decode cX11_frames 30 = .ok (.iconst 0, 1) := by decide +kernel
theorem dX11_frames_31 : decode cX11_frames 31 = .ok (.istore_n 3, 1) := by decide +kernel
theorem dX11_frames_32 : decode cX11_frames 32 = .ok (.iload_n 3, 1) := by decide +kernel
theorem dX11_frames_33 : decode cX11_frames 33 = .ok (.aload_n 0, 1) := by decide +kernel
theorem dX11_frames_34 : decode cX11_frames 34 = .ok (.getfield 214, 3) := by decide +kernel
theorem dX11_frames_37 : decode cX11_frames 37 = .ok (.if_icmp .ge 24, 3) := by decide +kernel
theorem dX11_frames_40 : decode cX11_frames 40 = .ok (.iload_n 3, 1) := by decide +kernel
theorem dX11_frames_41 : decode cX11_frames 41 = .ok (.iload_n 1, 1) := by decide +kernel
theorem dX11_frames_42 : decode cX11_frames 42 = .ok (.if_icmp .eq 13, 3) := by decide +kernel
theorem dX11_frames_45 : decode cX11_frames 45 = .ok (.aload_n 0, 1) := by decide +kernel
theorem dX11_frames_46 : decode cX11_frames 46 = .ok (.aload_n 0, 1) := by decide +kernel
theorem dX11_frames_47 : decode cX11_frames 47 = .ok (.getfield 41, 3) := by decide +kernel
theorem dX11_frames_50 : decode cX11_frames 50 = .ok (.iload_n 3, 1) := by decide +kernel
theorem dX11_frames_51 : decode cX11_frames 51 = .ok (.invokevirtual 379, 3) := by decide +kernel
theorem dX11_frames_54 : decode cX11_frames 54 = .ok (.pop, 1) := by decide +kernel
theorem dX11_frames_55 : decode cX11_frames 55 = .ok (.iinc 3 1, 3) := by decide +kernel
theorem dX11_frames_58 : decode cX11_frames 58 = .ok (.goto (-26), 3) := by decide +kernel
theorem dX11_frames_61 : decode cX11_frames 61 = .ok (.aload_n 0, 1) := by decide +kernel
theorem dX11_frames_62 : decode cX11_frames 62 = .ok (.aload_n 0, 1) := by decide +kernel
theorem dX11_frames_63 : decode cX11_frames 63 = .ok (.getfield 41, 3) := by decide +kernel
theorem dX11_frames_66 : decode cX11_frames 66 = .ok (.invokevirtual 389, 3) := by decide +kernel
theorem dX11_frames_69 : decode cX11_frames 69 = .ok (.return_, 1) := by decide +kernel
theorem dX11_whole_0 : decode cX11_whole 0 = .ok (.aload_n 0, 1) := by decide +kernel
theorem dX11_whole_1 : decode cX11_whole 1 = .ok (.iconst 0, 1) := by decide +kernel
theorem dX11_whole_2 : decode cX11_whole 2 = .ok (.putfield 75, 3) := by decide +kernel
theorem dX11_whole_5 : decode cX11_whole 5 = .ok (.aload_n 0, 1) := by decide +kernel
theorem dX11_whole_6 : decode cX11_whole 6 = .ok (.iload_n 1, 1) := by decide +kernel
theorem dX11_whole_7 : decode cX11_whole 7 = .ok (.iload_n 2, 1) := by decide +kernel
theorem dX11_whole_8 : decode cX11_whole 8 = .ok (.invokevirtual 425, 3) := by decide +kernel
theorem dX11_whole_11 : decode cX11_whole 11 = .ok (.ifCond .ne 5, 3) := by decide +kernel
theorem dX11_whole_14 : decode cX11_whole 14 = .ok (.iconst (-1), 1) := by decide +kernel
theorem dX11_whole_15 : decode cX11_whole 15 = .ok (.ireturn, 1) := by decide +kernel
theorem dX11_whole_16 : decode cX11_whole 16 = .ok (.aload_n 0, 1) := by decide +kernel
theorem dX11_whole_17 : decode cX11_whole 17 = .ok (.iconst (-1), 1) := by decide +kernel
theorem dX11_whole_18 : decode cX11_whole 18 = .ok (.aload_n 0, 1) := by decide +kernel
theorem dX11_whole_19 : decode cX11_whole 19 = .ok (.getfield 38, 3) := by decide +kernel
theorem dX11_whole_22 : decode cX11_whole 22 = .ok (.sipush 1059, 3) := by decide +kernel
theorem dX11_whole_25 : decode cX11_whole 25 = .ok (.iaload, 1) := by decide +kernel
theorem dX11_whole_26 : decode cX11_whole 26 = .ok (.invokevirtual 462, 3) := by decide +kernel
theorem dX11_whole_29 : decode cX11_whole 29 = .ok (.aload_n 0, 1) := by decide +kernel
theorem dX11_whole_30 : decode cX11_whole 30 = .ok (.aload_n 0, 1) := by decide +kernel
theorem dX11_whole_31 : decode cX11_whole 31 = .ok (.getfield 41, 3) := by decide +kernel
theorem dX11_whole_34 : decode cX11_whole 34 = .ok (.iload_n 1, 1) := by decide +kernel
theorem dX11_whole_35 : decode cX11_whole 35 = .ok (.iload_n 2, 1) := by decide +kernel
theorem dX11_whole_36 : decode cX11_whole 36 = .ok (.invokevirtual 451, 3) := by decide +kernel
theorem dX11_whole_39 : decode cX11_whole 39 = .ok (.ireturn, 1) := by decide +kernel
theorem dX11_left_0 : decode cX11_left 0 = .ok (.aload_n 0, 1) := by decide +kernel
theorem dX11_left_1 : decode cX11_left 1 = .ok (.iconst 0, 1) := by decide +kernel
theorem dX11_left_2 : decode cX11_left 2 = .ok (.putfield 75, 3) := by decide +kernel
theorem dX11_left_5 : decode cX11_left 5 = .ok (.aload_n 0, 1) := by decide +kernel
theorem dX11_left_6 : decode cX11_left 6 = .ok (.iload_n 1, 1) := by decide +kernel
theorem dX11_left_7 : decode cX11_left 7 = .ok (.invokevirtual 355, 3) := by decide +kernel
theorem dX11_left_10 : decode cX11_left 10 = .ok (.ifCond .ne 5, 3) := by decide +kernel
theorem dX11_left_13 : decode cX11_left 13 = .ok (.iconst (-1), 1) := by decide +kernel
theorem dX11_left_14 : decode cX11_left 14 = .ok (.ireturn, 1) := by decide +kernel
theorem dX11_left_15 : decode cX11_left 15 = .ok (.aload_n 0, 1) := by decide +kernel
theorem dX11_left_16 : decode cX11_left 16 = .ok (.iconst (-1), 1) := by decide +kernel
theorem dX11_left_17 : decode cX11_left 17 = .ok (.aload_n 0, 1) := by decide +kernel
theorem dX11_left_18 : decode cX11_left 18 = .ok (.getfield 38, 3) := by decide +kernel
theorem dX11_left_21 : decode cX11_left 21 = .ok (.sipush 1059, 3) := by decide +kernel
theorem dX11_left_24 : decode cX11_left 24 = .ok (.iaload, 1) := by decide +kernel
theorem dX11_left_25 : decode cX11_left 25 = .ok (.invokevirtual 462, 3) := by decide +kernel
theorem dX11_left_28 : decode cX11_left 28 = .ok (.iconst 0, 1) := by decide +kernel
theorem dX11_left_29 : decode cX11_left 29 = .ok (.istore_n 2, 1) := by decide +kernel
theorem dX11_left_30 : decode cX11_left 30 = .ok (.iload_n 2, 1) := by decide +kernel
theorem dX11_left_31 : decode cX11_left 31 = .ok (.aload_n 0, 1) := by decide +kernel
theorem dX11_left_32 : decode cX11_left 32 = .ok (.getfield 20, 3) := by decide +kernel
theorem dX11_left_35 : decode cX11_left 35 = .ok (.iconst 1, 1) := by decide +kernel
theorem dX11_left_36 : decode cX11_left 36 = .ok (.iaload, 1) := by decide +kernel
theorem dX11_left_37 : decode cX11_left 37 = .ok (.if_icmp .ge 48, 3) := by decide +kernel
theorem dX11_left_40 : decode cX11_left 40 = .ok (.iconst 0, 1) := by decide +kernel
theorem dX11_left_41 : decode cX11_left 41 = .ok (.istore_n 3, 1) := by decide +kernel
theorem dX11_left_42 : decode cX11_left 42 = .ok (.iload_n 3, 1) := by decide +kernel
theorem dX11_left_43 : decode cX11_left 43 = .ok (.aload_n 0, 1) := by decide +kernel
theorem dX11_left_44 : decode cX11_left 44 = .ok (.getfield 20, 3) := by decide +kernel
theorem dX11_left_47 : decode cX11_left 47 = .ok (.iconst 0, 1) := by decide +kernel
theorem dX11_left_48 : decode cX11_left 48 = .ok (.iaload, 1) := by decide +kernel
theorem dX11_left_49 : decode cX11_left 49 = .ok (.if_icmp .ge 30, 3) := by decide +kernel
theorem dX11_left_52 : decode cX11_left 52 = .ok (.aload_n 0, 1) := by decide +kernel
theorem dX11_left_53 : decode cX11_left 53 = .ok (.getfield 63, 3) := by decide +kernel
theorem dX11_left_56 : decode cX11_left 56 = .ok (.bipush 8, 2) := by decide +kernel
theorem dX11_left_58 : decode cX11_left 58 = .ok (.iload_n 2, 1) := by decide +kernel
theorem dX11_left_59 : decode cX11_left 59 = .ok (.imul, 1) := by decide +kernel
theorem dX11_left_60 : decode cX11_left 60 = .ok (.iload_n 3, 1) := by decide +kernel
theorem dX11_left_61 : decode cX11_left 61 = .ok (.iadd, 1) := by decide +kernel
theorem dX11_left_62 : decode cX11_left 62 = .ok (.aload_n 0, 1) := by decide +kernel
theorem dX11_left_63 : decode cX11_left 63 = .ok (.aload_n 0, 1) := by decide +kernel
theorem dX11_left_64 : decode cX11_left 64 = .ok (.getfield 41, 3) := by decide +kernel
theorem dX11_left_67 : decode cX11_left 67 = .ok (.iload_n 3, 1) := by decide +kernel
theorem dX11_left_68 : decode cX11_left 68 = .ok (.iload_n 2, 1) := by decide +kernel
theorem dX11_left_69 : decode cX11_left 69 = .ok (.invokevirtual 451, 3) := by decide +kernel
theorem dX11_left_72 : decode cX11_left 72 = .ok (.iastore, 1) := by decide +kernel
theorem dX11_left_73 : decode cX11_left 73 = .ok (.iinc 3 1, 3) := by decide +kernel
theorem dX11_left_76 : decode cX11_left 76 = .ok (.goto (-34), 3) := by decide +kernel
theorem dX11_left_79 : decode cX11_left 79 = .ok (.iinc 2 1, 3) := by decide +kernel
theorem dX11_left_82 : decode cX11_left 82 = .ok (.goto (-52), 3) := by decide +kernel
theorem dX11_left_85 : decode cX11_left 85 = .ok (.aload_n 0, 1) := by decide +kernel
theorem dX11_left_86 : decode cX11_left 86 = .ok (.iload_n 1, 1) := by decide +kernel
theorem dX11_left_87 : decode cX11_left 87 = .ok (.aload_n 0, 1) := by decide +kernel
theorem dX11_left_88 : decode cX11_left 88 = .ok (.getfield 38, 3) := by decide +kernel
theorem dX11_left_91 : decode cX11_left 91 = .ok (.sipush 1059, 3) := by decide +kernel
theorem dX11_left_94 : decode cX11_left 94 = .ok (.iaload, 1) := by decide +kernel
theorem dX11_left_95 : decode cX11_left 95 = .ok (.invokevirtual 462, 3) := by decide +kernel
theorem dX11_left_98 : decode cX11_left 98 = .ok (.iconst 0, 1) := by decide +kernel
theorem dX11_left_99 : decode cX11_left 99 = .ok (.istore_n 2, 1) := by decide +kernel
theorem dX11_left_100 : decode cX11_left 100 = .ok (.iconst 0, 1) := by decide +kernel
theorem dX11_left_101 : decode cX11_left 101 = .ok (.istore_n 3, 1) := by decide +kernel
theorem dX11_left_102 : decode cX11_left 102 = .ok (.iload_n 3, 1) := by decide +kernel
theorem dX11_left_103 : decode cX11_left 103 = .ok (.aload_n 0, 1) := by decide +kernel
theorem dX11_left_104 : decode cX11_left 104 = .ok (.getfield 20, 3) := by decide +kernel
theorem dX11_left_107 : decode cX11_left 107 = .ok (.iconst 1, 1) := by decide +kernel
theorem dX11_left_108 : decode cX11_left 108 = .ok (.iaload, 1) := by decide +kernel
theorem dX11_left_109 : decode cX11_left 109 = .ok (.if_icmp .ge 63, 3) := by decide +kernel
theorem dX11_left_112 : decode cX11_left 112 = .ok (.iconst 0, 1) := by decide +kernel
theorem dX11_left_113 : decode cX11_left 113 = .ok (.istore 4, 2) := by decide +kernel
theorem dX11_left_115 : decode cX11_left 115 = .ok (.iload 4, 2) := by decide +kernel
theorem dX11_left_117 : decode cX11_left 117 = .ok (.aload_n 0, 1) := by decide +kernel
theorem dX11_left_118 : decode cX11_left 118 = .ok (.getfield 20, 3) := by decide +kernel
theorem dX11_left_121 : decode cX11_left 121 = .ok (.iconst 0, 1) := by decide +kernel
theorem dX11_left_122 : decode cX11_left 122 = .ok (.iaload, 1) := by decide +kernel
theorem dX11_left_123 : decode cX11_left 123 = .ok (.if_icmp .ge 43, 3) := by decide +kernel
theorem dX11_left_126 : decode cX11_left 126 = .ok (.iload_n 2, 1) := by decide +kernel
theorem dX11_left_127 : decode cX11_left 127 = .ok (.aload_n 0, 1) := by decide +kernel
theorem dX11_left_128 : decode cX11_left 128 = .ok (.getfield 63, 3) := by decide +kernel
theorem dX11_left_131 : decode cX11_left 131 = .ok (.bipush 8, 2) := by decide +kernel
theorem dX11_left_133 : decode cX11_left 133 = .ok (.iload_n 3, 1) := by decide +kernel
theorem dX11_left_134 : decode cX11_left 134 = .ok (.imul, 1) := by decide +kernel
theorem dX11_left_135 : decode cX11_left 135 = .ok (.iload 4, 2) := by decide +kernel
theorem dX11_left_137 : decode cX11_left 137 = .ok (.iadd, 1) := by decide +kernel
theorem dX11_left_138 : decode cX11_left 138 = .ok (.iaload, 1) := by decide +kernel
theorem dX11_left_139 : decode cX11_left 139 = .ok (.aload_n 0, 1) := by decide +kernel
theorem dX11_left_140 : decode cX11_left 140 = .ok (.aload_n 0, 1) := by decide +kernel
theorem dX11_left_141 : decode cX11_left 141 = .ok (.getfield 41, 3) := by decide +kernel
theorem dX11_left_144 : decode cX11_left 144 = .ok (.iload 4, 2) := by decide +kernel
theorem dX11_left_146 : decode cX11_left 146 = .ok (.iload_n 3, 1) := by decide +kernel
theorem dX11_left_147 : decode cX11_left 147 = .ok (.invokevirtual 451, 3) := by decide +kernel
theorem dX11_left_150 : decode cX11_left 150 = .ok (.if_icmp .ne 7, 3) := by decide +kernel
theorem dX11_left_153 : decode cX11_left 153 = .ok (.iconst 0, 1) := by decide +kernel
theorem dX11_left_154 : decode cX11_left 154 = .ok (.goto 4, 3) := by decide +kernel
theorem dX11_left_157 : decode cX11_left 157 = .ok (.iconst 1, 1) := by decide +kernel
theorem dX11_left_158 : decode cX11_left 158 = .ok (.iadd, 1) := by decide +kernel
theorem dX11_left_159 : decode cX11_left 159 = .ok (.istore_n 2, 1) := by decide +kernel
theorem dX11_left_160 : decode cX11_left 160 = .ok (.iinc 4 1, 3) := by decide +kernel
theorem dX11_left_163 : decode cX11_left 163 = .ok (.goto (-48), 3) := by decide +kernel
theorem dX11_left_166 : decode cX11_left 166 = .ok (.iinc 3 1, 3) := by decide +kernel
theorem dX11_left_169 : decode cX11_left 169 = .ok (.goto (-67), 3) := by decide +kernel
theorem dX11_left_172 : decode cX11_left 172 = .ok (.iload_n 2, 1) := by decide +kernel
theorem dX11_left_173 : decode cX11_left 173 = .ok (.ireturn, 1) := by decide +kernel
theorem dX11_borderIn_0 : decode cX11_borderIn 0 = .ok (.iconst 0, 1) := by decide +kernel
theorem dX11_borderIn_1 : decode cX11_borderIn 1 = .ok (.istore_n 3, 1) := by decide +kernel
theorem dX11_borderIn_2 : decode cX11_borderIn 2 = .ok (.iconst 0, 1) := by decide +kernel
theorem dX11_borderIn_3 : decode cX11_borderIn 3 = .ok (.istore 4, 2) := by decide +kernel
theorem dX11_borderIn_5 : decode cX11_borderIn 5 = .ok (.iload 4, 2) := by decide +kernel
theorem dX11_borderIn_7 : decode cX11_borderIn 7 = .ok (.aload_n 0, 1) := by decide +kernel
theorem dX11_borderIn_8 : decode cX11_borderIn 8 = .ok (.getfield 20, 3) := by decide +kernel
theorem dX11_borderIn_11 : decode cX11_borderIn 11 = .ok (.iconst 3, 1) := by decide +kernel
theorem dX11_borderIn_12 : decode cX11_borderIn 12 = .ok (.iaload, 1) := by decide +kernel
theorem dX11_borderIn_13 : decode cX11_borderIn 13 = .ok (.if_icmp .ge 96, 3) := by decide +kernel
theorem dX11_borderIn_16 : decode cX11_borderIn 16 = .ok (.iconst 1, 1) := by decide +kernel
theorem dX11_borderIn_17 : decode cX11_borderIn 17 = .ok (.istore 5, 2) := by decide +kernel
theorem dX11_borderIn_19 : decode cX11_borderIn 19 = .ok (.iconst 0, 1) := by decide +kernel
theorem dX11_borderIn_20 : decode cX11_borderIn 20 = .ok (.istore 6, 2) := by decide +kernel
theorem dX11_borderIn_22 : decode cX11_borderIn 22 = .ok (.iload 6, 2) := by decide +kernel
theorem dX11_borderIn_24 : decode cX11_borderIn 24 = .ok (.iconst 3, 1) := by decide +kernel
theorem dX11_borderIn_25 : decode cX11_borderIn 25 = .ok (.if_icmp .ge 55, 3) := by decide +kernel
theorem dX11_borderIn_28 : decode cX11_borderIn 28 = .ok (.aload_n 0, 1) := by decide +kernel
theorem dX11_borderIn_29 : decode cX11_borderIn 29 = .ok (.iload 6, 2) := by decide +kernel
theorem dX11_borderIn_31 : decode cX11_borderIn 31 = .ok (.bipush 8, 2) := by decide +kernel
theorem dX11_borderIn_33 : decode cX11_borderIn 33 = .ok (.iload_n 1, 1) := by decide +kernel
theorem dX11_borderIn_34 : decode cX11_borderIn 34 = .ok (.imul, 1) := by decide +kernel
theorem dX11_borderIn_35 : decode cX11_borderIn 35 = .ok (.aload_n 0, 1) := by decide +kernel
theorem dX11_borderIn_36 : decode cX11_borderIn 36 = .ok (.iload 4, 2) := by decide +kernel
theorem dX11_borderIn_38 : decode cX11_borderIn 38 = .ok (.invokevirtual 298, 3) := by decide +kernel
theorem dX11_borderIn_41 : decode cX11_borderIn 41 = .ok (.iadd, 1) := by decide +kernel
theorem dX11_borderIn_42 : decode cX11_borderIn 42 = .ok (.bipush 8, 2) := by decide +kernel
theorem dX11_borderIn_44 : decode cX11_borderIn 44 = .ok (.iload_n 2, 1) := by decide +kernel
theorem dX11_borderIn_45 : decode cX11_borderIn 45 = .ok (.imul, 1) := by decide +kernel
theorem dX11_borderIn_46 : decode cX11_borderIn 46 = .ok (.aload_n 0, 1) := by decide +kernel
theorem dX11_borderIn_47 : decode cX11_borderIn 47 = .ok (.iload 4, 2) := by decide +kernel
theorem dX11_borderIn_49 : decode cX11_borderIn 49 = .ok (.invokevirtual 301, 3) := by decide +kernel
theorem dX11_borderIn_52 : decode cX11_borderIn 52 = .ok (.iadd, 1) := by decide +kernel
theorem dX11_borderIn_53 : decode cX11_borderIn 53 = .ok (.invokevirtual 234, 3) := by decide +kernel
theorem dX11_borderIn_56 : decode cX11_borderIn 56 = .ok (.istore 7, 2) := by decide +kernel
theorem dX11_borderIn_58 : decode cX11_borderIn 58 = .ok (.iload 7, 2) := by decide +kernel
theorem dX11_borderIn_60 : decode cX11_borderIn 60 = .ok (.iload 5, 2) := by decide +kernel
theorem dX11_borderIn_62 : decode cX11_borderIn 62 = .ok (.if_icmp .ge 8, 3) := by decide +kernel
theorem dX11_borderIn_65 : decode cX11_borderIn 65 = .ok (.iload 7, 2) := by decide +kernel
theorem dX11_borderIn_67 : decode cX11_borderIn 67 = .ok (.goto 5, 3) := by decide +kernel
theorem dX11_borderIn_70 : decode cX11_borderIn 70 = .ok (.iload 5, 2) := by decide +kernel
theorem dX11_borderIn_72 : decode cX11_borderIn 72 = .ok (.istore 5, 2) := by decide +kernel
theorem dX11_borderIn_74 : decode cX11_borderIn 74 = .ok (.iinc 6 1, 3) := by decide +kernel
theorem dX11_borderIn_77 : decode cX11_borderIn 77 = .ok (.goto (-55), 3) := by decide +kernel
theorem dX11_borderIn_80 : decode cX11_borderIn 80 = .ok (.iload_n 3, 1) := by decide +kernel
theorem dX11_borderIn_81 : decode cX11_borderIn 81 = .ok (.iload 5, 2) := by decide +kernel
theorem dX11_borderIn_83 : decode cX11_borderIn 83 = .ok (.ifCond .ne 17, 3) := by decide +kernel
theorem dX11_borderIn_86 : decode cX11_borderIn 86 = .ok (.aload_n 0, 1) := by decide +kernel
theorem dX11_borderIn_87 : decode cX11_borderIn 87 = .ok (.getfield 241, 3) := by decide +kernel
theorem dX11_borderIn_90 : decode cX11_borderIn 90 = .ok (.ifCond .ne 10, 3) := by decide +kernel
theorem dX11_borderIn_93 : decode cX11_borderIn 93 = .ok (.iconst 1, 1) := by decide +kernel
theorem dX11_borderIn_94 : decode cX11_borderIn 94 = .ok (.iload 4, 2) := by decide +kernel
theorem dX11_borderIn_96 : decode cX11_borderIn 96 = .ok (.ishl, 1) := by decide +kernel
theorem dX11_borderIn_97 : decode cX11_borderIn 97 = .ok (.goto 4, 3) := by decide +kernel
theorem dX11_borderIn_100 : decode cX11_borderIn 100 = .ok (.iconst 0, 1) := by decide +kernel
theorem dX11_borderIn_101 : decode cX11_borderIn 101 = .ok (.ior, 1) := by decide +kernel
theorem dX11_borderIn_102 : decode cX11_borderIn 102 = .ok (.istore_n 3, 1) := by decide +kernel
theorem dX11_borderIn_103 : decode cX11_borderIn 103 = .ok (.iinc 4 1, 3) := by decide +kernel
theorem dX11_borderIn_106 : decode cX11_borderIn 106 = .ok (.goto (-101), 3) := by decide +kernel
theorem dX11_borderIn_109 : decode cX11_borderIn 109 = .ok (.iload_n 3, 1) := by decide +kernel
theorem dX11_borderIn_110 : decode cX11_borderIn 110 = .ok (.ireturn, 1) := by decide +kernel
theorem dX11_laysMasks_0 : decode cX11_laysMasks 0 = .ok (.aload_n 0, 1) := by decide +kernel
theorem dX11_laysMasks_1 : decode cX11_laysMasks 1 = .ok (.aload_n 0, 1) := by decide +kernel
theorem dX11_laysMasks_2 : decode cX11_laysMasks 2 = .ok (.getfield 38, 3) := by decide +kernel
theorem dX11_laysMasks_5 : decode cX11_laysMasks 5 = .ok (.iload_n 1, 1) := by decide +kernel
theorem dX11_laysMasks_6 : decode cX11_laysMasks 6 = .ok (.invokevirtual 278, 3) := by decide +kernel
theorem dX11_laysMasks_9 : decode cX11_laysMasks 9 = .ok (.iconst 0, 1) := by decide +kernel
theorem dX11_laysMasks_10 : decode cX11_laysMasks 10 = .ok (.istore_n 2, 1) := by decide +kernel
theorem dX11_laysMasks_11 : decode cX11_laysMasks 11 = .ok (.iload_n 2, 1) := by decide +kernel
theorem dX11_laysMasks_12 : decode cX11_laysMasks 12 = .ok (.aload_n 0, 1) := by decide +kernel
theorem dX11_laysMasks_13 : decode cX11_laysMasks 13 = .ok (.getfield 20, 3) := by decide +kernel
theorem dX11_laysMasks_16 : decode cX11_laysMasks 16 = .ok (.iconst 1, 1) := by decide +kernel
theorem dX11_laysMasks_17 : decode cX11_laysMasks 17 = .ok (.iaload, 1) := by decide +kernel
theorem dX11_laysMasks_18 : decode cX11_laysMasks 18 = .ok (.if_icmp .ge 61, 3) := by decide +kernel
theorem dX11_laysMasks_21 : decode cX11_laysMasks 21 = .ok (.iconst 0, 1) := by decide +kernel
theorem dX11_laysMasks_22 : decode cX11_laysMasks 22 = .ok (.istore_n 3, 1) := by decide +kernel
theorem dX11_laysMasks_23 : decode cX11_laysMasks 23 = .ok (.iload_n 3, 1) := by decide +kernel
theorem dX11_laysMasks_24 : decode cX11_laysMasks 24 = .ok (.aload_n 0, 1) := by decide +kernel
theorem dX11_laysMasks_25 : decode cX11_laysMasks 25 = .ok (.getfield 20, 3) := by decide +kernel
theorem dX11_laysMasks_28 : decode cX11_laysMasks 28 = .ok (.iconst 0, 1) := by decide +kernel
theorem dX11_laysMasks_29 : decode cX11_laysMasks 29 = .ok (.iaload, 1) := by decide +kernel
theorem dX11_laysMasks_30 : decode cX11_laysMasks 30 = .ok (.if_icmp .ge 43, 3) := by decide +kernel
theorem dX11_laysMasks_33 : decode cX11_laysMasks 33 = .ok (.aload_n 0, 1) := by decide +kernel
theorem dX11_laysMasks_34 : decode cX11_laysMasks 34 = .ok (.getfield 66, 3) := by decide +kernel
theorem dX11_laysMasks_37 : decode cX11_laysMasks 37 = .ok (.bipush 8, 2) := by decide +kernel
theorem dX11_laysMasks_39 : decode cX11_laysMasks 39 = .ok (.iload_n 2, 1) := by decide +kernel
theorem dX11_laysMasks_40 : decode cX11_laysMasks 40 = .ok (.imul, 1) := by decide +kernel
theorem dX11_laysMasks_41 : decode cX11_laysMasks 41 = .ok (.iload_n 3, 1) := by decide +kernel
theorem dX11_laysMasks_42 : decode cX11_laysMasks 42 = .ok (.iadd, 1) := by decide +kernel
theorem dX11_laysMasks_43 : decode cX11_laysMasks 43 = .ok (.aload_n 0, 1) := by decide +kernel
theorem dX11_laysMasks_44 : decode cX11_laysMasks 44 = .ok (.iload_n 3, 1) := by decide +kernel
theorem dX11_laysMasks_45 : decode cX11_laysMasks 45 = .ok (.iload_n 2, 1) := by decide +kernel
theorem dX11_laysMasks_46 : decode cX11_laysMasks 46 = .ok (.invokevirtual 431, 3) := by decide +kernel
theorem dX11_laysMasks_49 : decode cX11_laysMasks 49 = .ok (.iastore, 1) := by decide +kernel
theorem dX11_laysMasks_50 : decode cX11_laysMasks 50 = .ok (.aload_n 0, 1) := by decide +kernel
theorem dX11_laysMasks_51 : decode cX11_laysMasks 51 = .ok (.getfield 69, 3) := by decide +kernel
theorem dX11_laysMasks_54 : decode cX11_laysMasks 54 = .ok (.bipush 8, 2) := by decide +kernel
theorem dX11_laysMasks_56 : decode cX11_laysMasks 56 = .ok (.iload_n 2, 1) := by decide +kernel
theorem dX11_laysMasks_57 : decode cX11_laysMasks 57 = .ok (.imul, 1) := by decide +kernel
theorem dX11_laysMasks_58 : decode cX11_laysMasks 58 = .ok (.iload_n 3, 1) := by decide +kernel
theorem dX11_laysMasks_59 : decode cX11_laysMasks 59 = .ok (.iadd, 1) := by decide +kernel
theorem dX11_laysMasks_60 : decode cX11_laysMasks 60 = .ok (.aload_n 0, 1) := by decide +kernel
theorem dX11_laysMasks_61 : decode cX11_laysMasks 61 = .ok (.iload_n 3, 1) := by decide +kernel
theorem dX11_laysMasks_62 : decode cX11_laysMasks 62 = .ok (.iload_n 2, 1) := by decide +kernel
theorem dX11_laysMasks_63 : decode cX11_laysMasks 63 = .ok (.invokevirtual 465, 3) := by decide +kernel
theorem dX11_laysMasks_66 : decode cX11_laysMasks 66 = .ok (.iastore, 1) := by decide +kernel
theorem dX11_laysMasks_67 : decode cX11_laysMasks 67 = .ok (.iinc 3 1, 3) := by decide +kernel
theorem dX11_laysMasks_70 : decode cX11_laysMasks 70 = .ok (.goto (-47), 3) := by decide +kernel
theorem dX11_laysMasks_73 : decode cX11_laysMasks 73 = .ok (.iinc 2 1, 3) := by decide +kernel
theorem dX11_laysMasks_76 : decode cX11_laysMasks 76 = .ok (.goto (-65), 3) := by decide +kernel
theorem dX11_laysMasks_79 : decode cX11_laysMasks 79 = .ok (.return_, 1) := by decide +kernel
theorem dX11_shared_0 : decode cX11_shared 0 = .ok (.aload_n 0, 1) := by decide +kernel
theorem dX11_shared_1 : decode cX11_shared 1 = .ok (.iconst 0, 1) := by decide +kernel
theorem dX11_shared_2 : decode cX11_shared 2 = .ok (.putfield 75, 3) := by decide +kernel
theorem dX11_shared_5 : decode cX11_shared 5 = .ok (.aload_n 0, 1) := by decide +kernel
theorem dX11_shared_6 : decode cX11_shared 6 = .ok (.iload_n 1, 1) := by decide +kernel
theorem dX11_shared_7 : decode cX11_shared 7 = .ok (.invokevirtual 355, 3) := by decide +kernel
theorem dX11_shared_10 : decode cX11_shared 10 = .ok (.ifCond .eq 21, 3) := by decide +kernel
theorem dX11_shared_13 : decode cX11_shared 13 = .ok (.aload_n 0, 1) := by decide +kernel
theorem dX11_shared_14 : decode cX11_shared 14 = .ok (.iload_n 2, 1) := by decide +kernel
theorem dX11_shared_15 : decode cX11_shared 15 = .ok (.invokevirtual 355, 3) := by decide +kernel
theorem dX11_shared_18 : decode cX11_shared 18 = .ok (.ifCond .eq 13, 3) := by decide +kernel
theorem dX11_shared_21 : decode cX11_shared 21 = .ok (.iload_n 3, 1) := by decide +kernel
theorem dX11_shared_22 : decode cX11_shared 22 = .ok (.i2l, 1) := by decide +kernel
theorem dX11_shared_23 : decode cX11_shared 23 = .ok (.lconst 0, 1) := by decide +kernel
theorem dX11_shared_24 : decode cX11_shared 24 = .ok (.lconst 1, 1) := by decide +kernel
theorem dX11_shared_25 : decode cX11_shared 25 = .ok (.invokestatic 148, 3) := by decide +kernel
theorem dX11_shared_28 : decode cX11_shared 28 = .ok (.ifCond .ne 5, 3) := by decide +kernel
theorem dX11_shared_31 : decode cX11_shared 31 = .ok (.iconst (-1), 1) := by decide +kernel
theorem dX11_shared_32 : decode cX11_shared 32 = .ok (.ireturn, 1) := by decide +kernel
theorem dX11_shared_33 : decode cX11_shared 33 = .ok (.aload_n 0, 1) := by decide +kernel
theorem dX11_shared_34 : decode cX11_shared 34 = .ok (.iload_n 1, 1) := by decide +kernel
theorem dX11_shared_35 : decode cX11_shared 35 = .ok (.invokevirtual 468, 3) := by decide +kernel
theorem dX11_shared_38 : decode cX11_shared 38 = .ok (.aload_n 0, 1) := by decide +kernel
theorem dX11_shared_39 : decode cX11_shared 39 = .ok (.aload_n 0, 1) := by decide +kernel
theorem dX11_shared_40 : decode cX11_shared 40 = .ok (.getfield 38, 3) := by decide +kernel
theorem dX11_shared_43 : decode cX11_shared 43 = .ok (.iload_n 2, 1) := by decide +kernel
theorem dX11_shared_44 : decode cX11_shared 44 = .ok (.invokevirtual 278, 3) := by decide +kernel
theorem dX11_shared_47 : decode cX11_shared 47 = .ok (.iconst 0, 1) := by decide +kernel
theorem dX11_shared_48 : decode cX11_shared 48 = .ok (.istore 4, 2) := by decide +kernel
theorem dX11_shared_50 : decode cX11_shared 50 = .ok (.iconst 0, 1) := by decide +kernel
theorem dX11_shared_51 : decode cX11_shared 51 = .ok (.istore 5, 2) := by decide +kernel
theorem dX11_shared_53 : decode cX11_shared 53 = .ok (.iload 5, 2) := by decide +kernel
theorem dX11_shared_55 : decode cX11_shared 55 = .ok (.aload_n 0, 1) := by decide +kernel
theorem dX11_shared_56 : decode cX11_shared 56 = .ok (.getfield 20, 3) := by decide +kernel
theorem dX11_shared_59 : decode cX11_shared 59 = .ok (.iconst 1, 1) := by decide +kernel
theorem dX11_shared_60 : decode cX11_shared 60 = .ok (.iaload, 1) := by decide +kernel
theorem dX11_shared_61 : decode cX11_shared 61 = .ok (.if_icmp .ge 79, 3) := by decide +kernel
theorem dX11_shared_64 : decode cX11_shared 64 = .ok (.iconst 0, 1) := by decide +kernel
theorem dX11_shared_65 : decode cX11_shared 65 = .ok (.istore 6, 2) := by decide +kernel
theorem dX11_shared_67 : decode cX11_shared 67 = .ok (.iload 6, 2) := by decide +kernel
theorem dX11_shared_69 : decode cX11_shared 69 = .ok (.aload_n 0, 1) := by decide +kernel
theorem dX11_shared_70 : decode cX11_shared 70 = .ok (.getfield 20, 3) := by decide +kernel
theorem dX11_shared_73 : decode cX11_shared 73 = .ok (.iconst 0, 1) := by decide +kernel
theorem dX11_shared_74 : decode cX11_shared 74 = .ok (.iaload, 1) := by decide +kernel
theorem dX11_shared_75 : decode cX11_shared 75 = .ok (.if_icmp .ge 59, 3) := by decide +kernel
theorem dX11_shared_78 : decode cX11_shared 78 = .ok (.aload_n 0, 1) := by decide +kernel
theorem dX11_shared_79 : decode cX11_shared 79 = .ok (.getfield 66, 3) := by decide +kernel
theorem dX11_shared_82 : decode cX11_shared 82 = .ok (.bipush 8, 2) := by decide +kernel
theorem dX11_shared_84 : decode cX11_shared 84 = .ok (.iload 5, 2) := by decide +kernel
theorem dX11_shared_86 : decode cX11_shared 86 = .ok (.imul, 1) := by decide +kernel
theorem dX11_shared_87 : decode cX11_shared 87 = .ok (.iload 6, 2) := by decide +kernel
theorem dX11_shared_89 : decode cX11_shared 89 = .ok (.iadd, 1) := by decide +kernel
theorem dX11_shared_90 : decode cX11_shared 90 = .ok (.iaload, 1) := by decide +kernel
theorem dX11_shared_91 : decode cX11_shared 91 = .ok (.istore 7, 2) := by decide +kernel
theorem dX11_shared_93 : decode cX11_shared 93 = .ok (.aload_n 0, 1) := by decide +kernel
theorem dX11_shared_94 : decode cX11_shared 94 = .ok (.iload 6, 2) := by decide +kernel
theorem dX11_shared_96 : decode cX11_shared 96 = .ok (.iload 5, 2) := by decide +kernel
theorem dX11_shared_98 : decode cX11_shared 98 = .ok (.invokevirtual 431, 3) := by decide +kernel
theorem dX11_shared_101 : decode cX11_shared 101 = .ok (.istore 8, 2) := by decide +kernel
theorem dX11_shared_103 : decode cX11_shared 103 = .ok (.iload 4, 2) := by decide +kernel
theorem dX11_shared_105 : decode cX11_shared 105 = .ok (.iload_n 3, 1) := by decide +kernel
theorem dX11_shared_106 : decode cX11_shared 106 = .ok (.ifCond .ne 11, 3) := by decide +kernel
theorem dX11_shared_109 : decode cX11_shared 109 = .ok (.iload 7, 2) := by decide +kernel
theorem dX11_shared_111 : decode cX11_shared 111 = .ok (.iload 8, 2) := by decide +kernel
theorem dX11_shared_113 : decode cX11_shared 113 = .ok (.iand, 1) := by decide +kernel
theorem dX11_shared_114 : decode cX11_shared 114 = .ok (.goto 8, 3) := by decide +kernel
theorem dX11_shared_117 : decode cX11_shared 117 = .ok (.iload 7, 2) := by decide +kernel
theorem dX11_shared_119 : decode cX11_shared 119 = .ok (.iload 8, 2) := by decide +kernel
theorem dX11_shared_121 : decode cX11_shared 121 = .ok (.ixor, 1) := by decide +kernel
theorem dX11_shared_122 : decode cX11_shared 122 = .ok (.invokestatic 335, 3) := by decide +kernel
theorem dX11_shared_125 : decode cX11_shared 125 = .ok (.iadd, 1) := by decide +kernel
theorem dX11_shared_126 : decode cX11_shared 126 = .ok (.istore 4, 2) := by decide +kernel
theorem dX11_shared_128 : decode cX11_shared 128 = .ok (.iinc 6 1, 3) := by decide +kernel
theorem dX11_shared_131 : decode cX11_shared 131 = .ok (.goto (-64), 3) := by decide +kernel
theorem dX11_shared_134 : decode cX11_shared 134 = .ok (.iinc 5 1, 3) := by decide +kernel
theorem dX11_shared_137 : decode cX11_shared 137 = .ok (.goto (-84), 3) := by decide +kernel
theorem dX11_shared_140 : decode cX11_shared 140 = .ok (.iload 4, 2) := by decide +kernel
theorem dX11_shared_142 : decode cX11_shared 142 = .ok (.ireturn, 1) := by decide +kernel
theorem dX11_border_0 : decode cX11_border 0 = .ok (.aload_n 0, 1) := by decide +kernel
theorem dX11_border_1 : decode cX11_border 1 = .ok (.iconst 0, 1) := by decide +kernel
theorem dX11_border_2 : decode cX11_border 2 = .ok (.putfield 75, 3) := by decide +kernel
theorem dX11_border_5 : decode cX11_border 5 = .ok (.aload_n 0, 1) := by decide +kernel
theorem dX11_border_6 : decode cX11_border 6 = .ok (.iload_n 1, 1) := by decide +kernel
theorem dX11_border_7 : decode cX11_border 7 = .ok (.invokevirtual 355, 3) := by decide +kernel
theorem dX11_border_10 : decode cX11_border 10 = .ok (.ifCond .eq 23, 3) := by decide +kernel
theorem dX11_border_13 : decode cX11_border 13 = .ok (.aload_n 0, 1) := by decide +kernel
theorem dX11_border_14 : decode cX11_border 14 = .ok (.iload_n 2, 1) := by decide +kernel
theorem dX11_border_15 : decode cX11_border 15 = .ok (.invokevirtual 355, 3) := by decide +kernel
theorem dX11_border_18 : decode cX11_border 18 = .ok (.ifCond .eq 15, 3) := by decide +kernel
theorem dX11_border_21 : decode cX11_border 21 = .ok (.iload_n 3, 1) := by decide +kernel
theorem dX11_border_22 : decode cX11_border 22 = .ok (.i2l, 1) := by decide +kernel
theorem dX11_border_23 : decode cX11_border 23 = .ok (.lconst 0, 1) := by decide +kernel
theorem dX11_border_24 : decode cX11_border 24 = .ok (.ldc2_w 160, 3) := by decide +kernel
theorem dX11_border_27 : decode cX11_border 27 = .ok (.invokestatic 148, 3) := by decide +kernel
theorem dX11_border_30 : decode cX11_border 30 = .ok (.ifCond .ne 5, 3) := by decide +kernel
theorem dX11_border_33 : decode cX11_border 33 = .ok (.iconst (-1), 1) := by decide +kernel
theorem dX11_border_34 : decode cX11_border 34 = .ok (.ireturn, 1) := by decide +kernel
theorem dX11_border_35 : decode cX11_border 35 = .ok (.aload_n 0, 1) := by decide +kernel
theorem dX11_border_36 : decode cX11_border 36 = .ok (.iload_n 1, 1) := by decide +kernel
theorem dX11_border_37 : decode cX11_border 37 = .ok (.invokevirtual 468, 3) := by decide +kernel
theorem dX11_border_40 : decode cX11_border 40 = .ok (.aload_n 0, 1) := by decide +kernel
theorem dX11_border_41 : decode cX11_border 41 = .ok (.aload_n 0, 1) := by decide +kernel
theorem dX11_border_42 : decode cX11_border 42 = .ok (.getfield 38, 3) := by decide +kernel
theorem dX11_border_45 : decode cX11_border 45 = .ok (.iload_n 2, 1) := by decide +kernel
theorem dX11_border_46 : decode cX11_border 46 = .ok (.invokevirtual 278, 3) := by decide +kernel
theorem dX11_border_49 : decode cX11_border 49 = .ok (.iconst 0, 1) := by decide +kernel
theorem dX11_border_50 : decode cX11_border 50 = .ok (.istore 4, 2) := by decide +kernel
theorem dX11_border_52 : decode cX11_border 52 = .ok (.iconst 0, 1) := by decide +kernel
theorem dX11_border_53 : decode cX11_border 53 = .ok (.istore 5, 2) := by decide +kernel
theorem dX11_border_55 : decode cX11_border 55 = .ok (.iload 5, 2) := by decide +kernel
theorem dX11_border_57 : decode cX11_border 57 = .ok (.aload_n 0, 1) := by decide +kernel
theorem dX11_border_58 : decode cX11_border 58 = .ok (.getfield 20, 3) := by decide +kernel
theorem dX11_border_61 : decode cX11_border 61 = .ok (.iconst 1, 1) := by decide +kernel
theorem dX11_border_62 : decode cX11_border 62 = .ok (.iaload, 1) := by decide +kernel
theorem dX11_border_63 : decode cX11_border 63 = .ok (.if_icmp .ge 119, 3) := by decide +kernel
theorem dX11_border_66 : decode cX11_border 66 = .ok (.iconst 0, 1) := by decide +kernel
theorem dX11_border_67 : decode cX11_border 67 = .ok (.istore 6, 2) := by decide +kernel
theorem dX11_border_69 : decode cX11_border 69 = .ok (.iload 6, 2) := by decide +kernel
theorem dX11_border_71 : decode cX11_border 71 = .ok (.aload_n 0, 1) := by decide +kernel
theorem dX11_border_72 : decode cX11_border 72 = .ok (.getfield 20, 3) := by decide +kernel
theorem dX11_border_75 : decode cX11_border 75 = .ok (.iconst 0, 1) := by decide +kernel
theorem dX11_border_76 : decode cX11_border 76 = .ok (.iaload, 1) := by decide +kernel
theorem dX11_border_77 : decode cX11_border 77 = .ok (.if_icmp .ge 99, 3) := by decide +kernel
theorem dX11_border_80 : decode cX11_border 80 = .ok (.aload_n 0, 1) := by decide +kernel
theorem dX11_border_81 : decode cX11_border 81 = .ok (.getfield 69, 3) := by decide +kernel
theorem dX11_border_84 : decode cX11_border 84 = .ok (.bipush 8, 2) := by decide +kernel
theorem dX11_border_86 : decode cX11_border 86 = .ok (.iload 5, 2) := by decide +kernel
theorem dX11_border_88 : decode cX11_border 88 = .ok (.imul, 1) := by decide +kernel
theorem dX11_border_89 : decode cX11_border 89 = .ok (.iload 6, 2) := by decide +kernel
theorem dX11_border_91 : decode cX11_border 91 = .ok (.iadd, 1) := by decide +kernel
theorem dX11_border_92 : decode cX11_border 92 = .ok (.iaload, 1) := by decide +kernel
theorem dX11_border_93 : decode cX11_border 93 = .ok (.aload_n 0, 1) := by decide +kernel
theorem dX11_border_94 : decode cX11_border 94 = .ok (.iload 6, 2) := by decide +kernel
theorem dX11_border_96 : decode cX11_border 96 = .ok (.iload 5, 2) := by decide +kernel
theorem dX11_border_98 : decode cX11_border 98 = .ok (.invokevirtual 465, 3) := by decide +kernel
theorem dX11_border_101 : decode cX11_border 101 = .ok (.iand, 1) := by decide +kernel
theorem dX11_border_102 : decode cX11_border 102 = .ok (.istore 7, 2) := by decide +kernel
theorem dX11_border_104 : decode cX11_border 104 = .ok (.aload_n 0, 1) := by decide +kernel
theorem dX11_border_105 : decode cX11_border 105 = .ok (.getfield 66, 3) := by decide +kernel
theorem dX11_border_108 : decode cX11_border 108 = .ok (.bipush 8, 2) := by decide +kernel
theorem dX11_border_110 : decode cX11_border 110 = .ok (.iload 5, 2) := by decide +kernel
theorem dX11_border_112 : decode cX11_border 112 = .ok (.imul, 1) := by decide +kernel
theorem dX11_border_113 : decode cX11_border 113 = .ok (.iload 6, 2) := by decide +kernel
theorem dX11_border_115 : decode cX11_border 115 = .ok (.iadd, 1) := by decide +kernel
theorem dX11_border_116 : decode cX11_border 116 = .ok (.iaload, 1) := by decide +kernel
theorem dX11_border_117 : decode cX11_border 117 = .ok (.istore 8, 2) := by decide +kernel
theorem dX11_border_119 : decode cX11_border 119 = .ok (.aload_n 0, 1) := by decide +kernel
theorem dX11_border_120 : decode cX11_border 120 = .ok (.iload 6, 2) := by decide +kernel
theorem dX11_border_122 : decode cX11_border 122 = .ok (.iload 5, 2) := by decide +kernel
theorem dX11_border_124 : decode cX11_border 124 = .ok (.invokevirtual 431, 3) := by decide +kernel
theorem dX11_border_127 : decode cX11_border 127 = .ok (.istore 9, 2) := by decide +kernel
theorem dX11_border_129 : decode cX11_border 129 = .ok (.iload 4, 2) := by decide +kernel
theorem dX11_border_131 : decode cX11_border 131 = .ok (.iload_n 3, 1) := by decide +kernel
theorem dX11_border_132 : decode cX11_border 132 = .ok (.ifCond .ne 8, 3) := by decide +kernel
theorem dX11_border_135 : decode cX11_border 135 = .ok (.iload 7, 2) := by decide +kernel
theorem dX11_border_137 : decode cX11_border 137 = .ok (.goto 27, 3) := by decide +kernel
theorem dX11_border_140 : decode cX11_border 140 = .ok (.iload_n 3, 1) := by decide +kernel
theorem dX11_border_141 : decode cX11_border 141 = .ok (.iconst 1, 1) := by decide +kernel
theorem dX11_border_142 : decode cX11_border 142 = .ok (.if_icmp .ne 14, 3) := by decide +kernel
theorem dX11_border_145 : decode cX11_border 145 = .ok (.iload 7, 2) := by decide +kernel
theorem dX11_border_147 : decode cX11_border 147 = .ok (.iload 8, 2) := by decide +kernel
theorem dX11_border_149 : decode cX11_border 149 = .ok (.iload 9, 2) := by decide +kernel
theorem dX11_border_151 : decode cX11_border 151 = .ok (.ixor, 1) := by decide +kernel
theorem dX11_border_152 : decode cX11_border 152 = .ok (.iand, 1) := by decide +kernel
theorem dX11_border_153 : decode cX11_border 153 = .ok (.goto 11, 3) := by decide +kernel
theorem dX11_border_156 : decode cX11_border 156 = .ok (.iload 7, 2) := by decide +kernel
theorem dX11_border_158 : decode cX11_border 158 = .ok (.iload 8, 2) := by decide +kernel
theorem dX11_border_160 : decode cX11_border 160 = .ok (.iand, 1) := by decide +kernel
theorem dX11_border_161 : decode cX11_border 161 = .ok (.iload 9, 2) := by decide +kernel
theorem dX11_border_163 : decode cX11_border 163 = .ok (.iand, 1) := by decide +kernel
theorem dX11_border_164 : decode cX11_border 164 = .ok (.invokestatic 335, 3) := by decide +kernel
theorem dX11_border_167 : decode cX11_border 167 = .ok (.iadd, 1) := by decide +kernel
theorem dX11_border_168 : decode cX11_border 168 = .ok (.istore 4, 2) := by decide +kernel
theorem dX11_border_170 : decode cX11_border 170 = .ok (.iinc 6 1, 3) := by decide +kernel
theorem dX11_border_173 : decode cX11_border 173 = .ok (.goto (-104), 3) := by decide +kernel
theorem dX11_border_176 : decode cX11_border 176 = .ok (.iinc 5 1, 3) := by decide +kernel
theorem dX11_border_179 : decode cX11_border 179 = .ok (.goto (-124), 3) := by decide +kernel
theorem dX11_border_182 : decode cX11_border 182 = .ok (.iload 4, 2) := by decide +kernel
theorem dX11_border_184 : decode cX11_border 184 = .ok (.ireturn, 1) := by decide +kernel
theorem dX11_inOrder_0 : decode cX11_inOrder 0 = .ok (.iconst 0, 1) := by decide +kernel
theorem dX11_inOrder_1 : decode cX11_inOrder 1 = .ok (.istore 4, 2) := by decide +kernel
theorem dX11_inOrder_3 : decode cX11_inOrder 3 = .ok (.iload_n 1, 1) := by decide +kernel
theorem dX11_inOrder_4 : decode cX11_inOrder 4 = .ok (.istore 5, 2) := by decide +kernel
theorem dX11_inOrder_6 : decode cX11_inOrder 6 = .ok (.iconst 1, 1) := by decide +kernel
theorem dX11_inOrder_7 : decode cX11_inOrder 7 = .ok (.istore 6, 2) := by decide +kernel
theorem dX11_inOrder_9 : decode cX11_inOrder 9 = .ok (.iconst 2, 1) := by decide +kernel
theorem dX11_inOrder_10 : decode cX11_inOrder 10 = .ok (.istore 7, 2) := by decide +kernel
theorem dX11_inOrder_12 : decode cX11_inOrder 12 = .ok (.iload 7, 2) := by decide +kernel
theorem dX11_inOrder_14 : decode cX11_inOrder 14 = .ok (.iload_n 2, 1) := by decide +kernel
theorem dX11_inOrder_15 : decode cX11_inOrder 15 = .ok (.if_icmp .ge 16, 3) := by decide +kernel
theorem dX11_inOrder_18 : decode cX11_inOrder 18 = .ok (.iload 6, 2) := by decide +kernel
theorem dX11_inOrder_20 : decode cX11_inOrder 20 = .ok (.iload 7, 2) := by decide +kernel
theorem dX11_inOrder_22 : decode cX11_inOrder 22 = .ok (.imul, 1) := by decide +kernel
theorem dX11_inOrder_23 : decode cX11_inOrder 23 = .ok (.istore 6, 2) := by decide +kernel
theorem dX11_inOrder_25 : decode cX11_inOrder 25 = .ok (.iinc 7 1, 3) := by decide +kernel
theorem dX11_inOrder_28 : decode cX11_inOrder 28 = .ok (.goto (-16), 3) := by decide +kernel
theorem dX11_inOrder_31 : decode cX11_inOrder 31 = .ok (.iconst 0, 1) := by decide +kernel
theorem dX11_inOrder_32 : decode cX11_inOrder 32 = .ok (.istore 7, 2) := by decide +kernel
theorem dX11_inOrder_34 : decode cX11_inOrder 34 = .ok (.iconst 0, 1) := by decide +kernel
theorem dX11_inOrder_35 : decode cX11_inOrder 35 = .ok (.istore 8, 2) := by decide +kernel
theorem dX11_inOrder_37 : decode cX11_inOrder 37 = .ok (.iload 8, 2) := by decide +kernel
theorem dX11_inOrder_39 : decode cX11_inOrder 39 = .ok (.iload_n 3, 1) := by decide +kernel
theorem dX11_inOrder_40 : decode cX11_inOrder 40 = .ok (.if_icmp .gt 101, 3) := by decide +kernel
theorem dX11_inOrder_43 : decode cX11_inOrder 43 = .ok (.iload 5, 2) := by decide +kernel
theorem dX11_inOrder_45 : decode cX11_inOrder 45 = .ok (.iload 6, 2) := by decide +kernel
theorem dX11_inOrder_47 : decode cX11_inOrder 47 = .ok (.idiv, 1) := by decide +kernel
theorem dX11_inOrder_48 : decode cX11_inOrder 48 = .ok (.istore 9, 2) := by decide +kernel
theorem dX11_inOrder_50 : decode cX11_inOrder 50 = .ok (.iload 5, 2) := by decide +kernel
theorem dX11_inOrder_52 : decode cX11_inOrder 52 = .ok (.iload 6, 2) := by decide +kernel
theorem dX11_inOrder_54 : decode cX11_inOrder 54 = .ok (.irem, 1) := by decide +kernel
theorem dX11_inOrder_55 : decode cX11_inOrder 55 = .ok (.istore 5, 2) := by decide +kernel
theorem dX11_inOrder_57 : decode cX11_inOrder 57 = .ok (.iconst 0, 1) := by decide +kernel
theorem dX11_inOrder_58 : decode cX11_inOrder 58 = .ok (.istore 7, 2) := by decide +kernel
theorem dX11_inOrder_60 : decode cX11_inOrder 60 = .ok (.iload 4, 2) := by decide +kernel
theorem dX11_inOrder_62 : decode cX11_inOrder 62 = .ok (.iload 7, 2) := by decide +kernel
theorem dX11_inOrder_64 : decode cX11_inOrder 64 = .ok (.invokestatic 180, 3) := by decide +kernel
theorem dX11_inOrder_67 : decode cX11_inOrder 67 = .ok (.ifCond .ne 8, 3) := by decide +kernel
theorem dX11_inOrder_70 : decode cX11_inOrder 70 = .ok (.iload 9, 2) := by decide +kernel
theorem dX11_inOrder_72 : decode cX11_inOrder 72 = .ok (.ifCond .le 29, 3) := by decide +kernel
theorem dX11_inOrder_75 : decode cX11_inOrder 75 = .ok (.iload 9, 2) := by decide +kernel
theorem dX11_inOrder_77 : decode cX11_inOrder 77 = .ok (.iload 4, 2) := by decide +kernel
theorem dX11_inOrder_79 : decode cX11_inOrder 79 = .ok (.iload 7, 2) := by decide +kernel
theorem dX11_inOrder_81 : decode cX11_inOrder 81 = .ok (.invokestatic 180, 3) := by decide +kernel
theorem dX11_inOrder_84 : decode cX11_inOrder 84 = .ok (.ifCond .eq 7, 3) := by decide +kernel
theorem dX11_inOrder_87 : decode cX11_inOrder 87 = .ok (.iconst 0, 1) := by decide +kernel
theorem dX11_inOrder_88 : decode cX11_inOrder 88 = .ok (.goto 4, 3) := by decide +kernel
theorem dX11_inOrder_91 : decode cX11_inOrder 91 = .ok (.iconst 1, 1) := by decide +kernel
theorem dX11_inOrder_92 : decode cX11_inOrder 92 = .ok (.isub, 1) := by decide +kernel
theorem dX11_inOrder_93 : decode cX11_inOrder 93 = .ok (.istore 9, 2) := by decide +kernel
theorem dX11_inOrder_95 : decode cX11_inOrder 95 = .ok (.iinc 7 1, 3) := by decide +kernel
theorem dX11_inOrder_98 : decode cX11_inOrder 98 = .ok (.goto (-38), 3) := by decide +kernel
theorem dX11_inOrder_101 : decode cX11_inOrder 101 = .ok (.iload 4, 2) := by decide +kernel
theorem dX11_inOrder_103 : decode cX11_inOrder 103 = .ok (.iconst 1, 1) := by decide +kernel
theorem dX11_inOrder_104 : decode cX11_inOrder 104 = .ok (.iload 7, 2) := by decide +kernel
theorem dX11_inOrder_106 : decode cX11_inOrder 106 = .ok (.ishl, 1) := by decide +kernel
theorem dX11_inOrder_107 : decode cX11_inOrder 107 = .ok (.ior, 1) := by decide +kernel
theorem dX11_inOrder_108 : decode cX11_inOrder 108 = .ok (.istore 4, 2) := by decide +kernel
theorem dX11_inOrder_110 : decode cX11_inOrder 110 = .ok (.iload_n 2, 1) := by decide +kernel
theorem dX11_inOrder_111 : decode cX11_inOrder 111 = .ok (.iconst 1, 1) := by decide +kernel
theorem dX11_inOrder_112 : decode cX11_inOrder 112 = .ok (.isub, 1) := by decide +kernel
theorem dX11_inOrder_113 : decode cX11_inOrder 113 = .ok (.iload 8, 2) := by decide +kernel
theorem dX11_inOrder_115 : decode cX11_inOrder 115 = .ok (.isub, 1) := by decide +kernel
theorem dX11_inOrder_116 : decode cX11_inOrder 116 = .ok (.iconst 1, 1) := by decide +kernel
theorem dX11_inOrder_117 : decode cX11_inOrder 117 = .ok (.if_icmp .le 15, 3) := by decide +kernel
theorem dX11_inOrder_120 : decode cX11_inOrder 120 = .ok (.iload 6, 2) := by decide +kernel
theorem dX11_inOrder_122 : decode cX11_inOrder 122 = .ok (.iload_n 2, 1) := by decide +kernel
theorem dX11_inOrder_123 : decode cX11_inOrder 123 = .ok (.iconst 1, 1) := by decide +kernel
theorem dX11_inOrder_124 : decode cX11_inOrder 124 = .ok (.isub, 1) := by decide +kernel
theorem dX11_inOrder_125 : decode cX11_inOrder 125 = .ok (.iload 8, 2) := by decide +kernel
theorem dX11_inOrder_127 : decode cX11_inOrder 127 = .ok (.isub, 1) := by decide +kernel
theorem dX11_inOrder_128 : decode cX11_inOrder 128 = .ok (.idiv, 1) := by decide +kernel
theorem dX11_inOrder_129 : decode cX11_inOrder 129 = .ok (.goto 4, 3) := by decide +kernel
theorem dX11_inOrder_132 : decode cX11_inOrder 132 = .ok (.iconst 1, 1) := by decide +kernel
theorem dX11_inOrder_133 : decode cX11_inOrder 133 = .ok (.istore 6, 2) := by decide +kernel
theorem dX11_inOrder_135 : decode cX11_inOrder 135 = .ok (.iinc 8 1, 3) := by decide +kernel
theorem dX11_inOrder_138 : decode cX11_inOrder 138 = .ok (.goto (-101), 3) := by decide +kernel
theorem dX11_inOrder_141 : decode cX11_inOrder 141 = .ok (.iload 7, 2) := by decide +kernel
theorem dX11_inOrder_143 : decode cX11_inOrder 143 = .ok (.ireturn, 1) := by decide +kernel
theorem dX11_orders_0 : decode cX11_orders 0 = .ok (.aload_n 0, 1) := by decide +kernel
theorem dX11_orders_1 : decode cX11_orders 1 = .ok (.iconst 0, 1) := by decide +kernel
theorem dX11_orders_2 : decode cX11_orders 2 = .ok (.putfield 75, 3) := by decide +kernel
theorem dX11_orders_5 : decode cX11_orders 5 = .ok (.aload_n 0, 1) := by decide +kernel
theorem dX11_orders_6 : decode cX11_orders 6 = .ok (.getfield 214, 3) := by decide +kernel
theorem dX11_orders_9 : decode cX11_orders 9 = .ok (.ifCond .eq 15, 3) := by decide +kernel
theorem dX11_orders_12 : decode cX11_orders 12 = .ok (.iload_n 1, 1) := by decide +kernel
theorem dX11_orders_13 : decode cX11_orders 13 = .ok (.i2l, 1) := by decide +kernel
theorem dX11_orders_14 : decode cX11_orders 14 = .ok (.lconst 0, 1) := by decide +kernel
theorem dX11_orders_15 : decode cX11_orders 15 = .ok (.ldc2_w 160, 3) := by decide +kernel
theorem dX11_orders_18 : decode cX11_orders 18 = .ok (.invokestatic 148, 3) := by decide +kernel
theorem dX11_orders_21 : decode cX11_orders 21 = .ok (.ifCond .ne 5, 3) := by decide +kernel
theorem dX11_orders_24 : decode cX11_orders 24 = .ok (.iconst (-1), 1) := by decide +kernel
theorem dX11_orders_25 : decode cX11_orders 25 = .ok (.ireturn, 1) := by decide +kernel
theorem dX11_orders_26 : decode cX11_orders 26 = .ok (.iconst 0, 1) := by decide +kernel
theorem dX11_orders_27 : decode cX11_orders 27 = .ok (.istore_n 2, 1) := by decide +kernel
theorem dX11_orders_28 : decode cX11_orders 28 = .ok (.iconst 0, 1) := by decide +kernel
theorem dX11_orders_29 : decode cX11_orders 29 = .ok (.istore_n 3, 1) := by decide +kernel
theorem dX11_orders_30 : decode cX11_orders 30 = .ok (.iload_n 3, 1) := by decide +kernel
theorem dX11_orders_31 : decode cX11_orders 31 = .ok (.aload_n 0, 1) := by decide +kernel
theorem dX11_orders_32 : decode cX11_orders 32 = .ok (.getfield 214, 3) := by decide +kernel
theorem dX11_orders_35 : decode cX11_orders 35 = .ok (.if_icmp .ge 60, 3) := by decide +kernel
theorem dX11_orders_38 : decode cX11_orders 38 = .ok (.iload_n 2, 1) := by decide +kernel
theorem dX11_orders_39 : decode cX11_orders 39 = .ok (.iconst 4, 1) := by decide +kernel
theorem dX11_orders_40 : decode cX11_orders 40 = .ok (.if_icmp .ge 55, 3) := by decide +kernel
theorem dX11_orders_43 : decode cX11_orders 43 = .ok (.aload_n 0, 1) := by decide +kernel
theorem dX11_orders_44 : decode cX11_orders 44 = .ok (.aload_n 0, 1) := by decide +kernel
theorem dX11_orders_45 : decode cX11_orders 45 = .ok (.getfield 38, 3) := by decide +kernel
theorem dX11_orders_48 : decode cX11_orders 48 = .ok (.iload_n 3, 1) := by decide +kernel
theorem dX11_orders_49 : decode cX11_orders 49 = .ok (.invokevirtual 278, 3) := by decide +kernel
theorem dX11_orders_52 : decode cX11_orders 52 = .ok (.aload_n 0, 1) := by decide +kernel
theorem dX11_orders_53 : decode cX11_orders 53 = .ok (.getfield 241, 3) := by decide +kernel
theorem dX11_orders_56 : decode cX11_orders 56 = .ok (.ifCond .ne 33, 3) := by decide +kernel
theorem dX11_orders_59 : decode cX11_orders 59 = .ok (.aload_n 0, 1) := by decide +kernel
theorem dX11_orders_60 : decode cX11_orders 60 = .ok (.getfield 26, 3) := by decide +kernel
theorem dX11_orders_63 : decode cX11_orders 63 = .ok (.bipush 12, 2) := by decide +kernel
theorem dX11_orders_65 : decode cX11_orders 65 = .ok (.iload_n 3, 1) := by decide +kernel
theorem dX11_orders_66 : decode cX11_orders 66 = .ok (.imul, 1) := by decide +kernel
theorem dX11_orders_67 : decode cX11_orders 67 = .ok (.bipush 10, 2) := by decide +kernel
theorem dX11_orders_69 : decode cX11_orders 69 = .ok (.iadd, 1) := by decide +kernel
theorem dX11_orders_70 : decode cX11_orders 70 = .ok (.iaload, 1) := by decide +kernel
theorem dX11_orders_71 : decode cX11_orders 71 = .ok (.bipush 8, 2) := by decide +kernel
theorem dX11_orders_73 : decode cX11_orders 73 = .ok (.if_icmp .ge 6, 3) := by decide +kernel
theorem dX11_orders_76 : decode cX11_orders 76 = .ok (.goto 13, 3) := by decide +kernel
theorem dX11_orders_79 : decode cX11_orders 79 = .ok (.aload_n 0, 1) := by decide +kernel
theorem dX11_orders_80 : decode cX11_orders 80 = .ok (.getfield 72, 3) := by decide +kernel
theorem dX11_orders_83 : decode cX11_orders 83 = .ok (.iload_n 2, 1) := by decide +kernel
theorem dX11_orders_84 : decode cX11_orders 84 = .ok (.iload_n 3, 1) := by decide +kernel
theorem dX11_orders_85 : decode cX11_orders 85 = .ok (.iastore, 1) := by decide +kernel
theorem dX11_orders_86 : decode cX11_orders 86 = .ok (.iinc 2 1, 3) := by decide +kernel
theorem dX11_orders_89 : decode cX11_orders 89 = .ok (.iinc 3 1, 3) := by decide +kernel
theorem dX11_orders_92 : decode cX11_orders 92 = .ok (.goto (-62), 3) := by decide +kernel
theorem dX11_orders_95 : decode cX11_orders 95 = .ok (.iload_n 2, 1) := by decide +kernel
theorem dX11_orders_96 : decode cX11_orders 96 = .ok (.ifCond .ne 5, 3) := by decide +kernel
theorem dX11_orders_99 : decode cX11_orders 99 = .ok (.iconst 0, 1) := by decide +kernel
theorem dX11_orders_100 : decode cX11_orders 100 = .ok (.ireturn, 1) := by decide +kernel
theorem dX11_orders_101 : decode cX11_orders 101 = .ok (.iload_n 2, 1) := by decide +kernel
theorem dX11_orders_102 : decode cX11_orders 102 = .ok (.iconst 4, 1) := by decide +kernel
theorem dX11_orders_103 : decode cX11_orders 103 = .ok (.if_icmp .ne 8, 3) := by decide +kernel
theorem dX11_orders_106 : decode cX11_orders 106 = .ok (.bipush 24, 2) := by decide +kernel
theorem dX11_orders_108 : decode cX11_orders 108 = .ok (.goto 14, 3) := by decide +kernel
theorem dX11_orders_111 : decode cX11_orders 111 = .ok (.iload_n 2, 1) := by decide +kernel
theorem dX11_orders_112 : decode cX11_orders 112 = .ok (.iconst 3, 1) := by decide +kernel
theorem dX11_orders_113 : decode cX11_orders 113 = .ok (.if_icmp .ne 8, 3) := by decide +kernel
theorem dX11_orders_116 : decode cX11_orders 116 = .ok (.bipush 6, 2) := by decide +kernel
theorem dX11_orders_118 : decode cX11_orders 118 = .ok (.goto 4, 3) := by decide +kernel
theorem dX11_orders_121 : decode cX11_orders 121 = .ok (.iload_n 2, 1) := by decide +kernel
theorem dX11_orders_122 : decode cX11_orders 122 = .ok (.istore_n 3, 1) := by decide +kernel
theorem dX11_orders_123 : decode cX11_orders 123 = .ok (.iconst (-1), 1) := by decide +kernel
theorem dX11_orders_124 : decode cX11_orders 124 = .ok (.istore 4, 2) := by decide +kernel
theorem dX11_orders_126 : decode cX11_orders 126 = .ok (.iconst 0, 1) := by decide +kernel
theorem dX11_orders_127 : decode cX11_orders 127 = .ok (.istore 5, 2) := by decide +kernel
theorem dX11_orders_129 : decode cX11_orders 129 = .ok (.iconst 0, 1) := by decide +kernel
theorem dX11_orders_130 : decode cX11_orders 130 = .ok (.istore 6, 2) := by decide +kernel
theorem dX11_orders_132 : decode cX11_orders 132 = .ok (.iconst 0, 1) := by decide +kernel
theorem dX11_orders_133 : decode cX11_orders 133 = .ok (.istore 7, 2) := by decide +kernel
theorem dX11_orders_135 : decode cX11_orders 135 = .ok (.iload 7, 2) := by decide +kernel
theorem dX11_orders_137 : decode cX11_orders 137 = .ok (.iload_n 3, 1) := by decide +kernel
theorem dX11_orders_138 : decode cX11_orders 138 = .ok (.if_icmp .ge 132, 3) := by decide +kernel
theorem dX11_orders_141 : decode cX11_orders 141 = .ok (.aload_n 0, 1) := by decide +kernel
theorem dX11_orders_142 : decode cX11_orders 142 = .ok (.getfield 38, 3) := by decide +kernel
theorem dX11_orders_145 : decode cX11_orders 145 = .ok (.iconst 0, 1) := by decide +kernel
theorem dX11_orders_146 : decode cX11_orders 146 = .ok (.aload_n 0, 1) := by decide +kernel
theorem dX11_orders_147 : decode cX11_orders 147 = .ok (.getfield 41, 3) := by decide +kernel
theorem dX11_orders_150 : decode cX11_orders 150 = .ok (.iconst 0, 1) := by decide +kernel
theorem dX11_orders_151 : decode cX11_orders 151 = .ok (.invokestatic 344, 3) := by decide +kernel
theorem dX11_orders_154 : decode cX11_orders 154 = .ok (.aload_n 0, 1) := by decide +kernel
theorem dX11_orders_155 : decode cX11_orders 155 = .ok (.aload_n 0, 1) := by decide +kernel
theorem dX11_orders_156 : decode cX11_orders 156 = .ok (.getfield 41, 3) := by decide +kernel
theorem dX11_orders_159 : decode cX11_orders 159 = .ok (.invokevirtual 217, 3) := by decide +kernel
theorem dX11_orders_162 : decode cX11_orders 162 = .ok (.aload_n 0, 1) := by decide +kernel
theorem dX11_orders_163 : decode cX11_orders 163 = .ok (.getfield 41, 3) := by decide +kernel
theorem dX11_orders_166 : decode cX11_orders 166 = .ok (.sipush 1059, 3) := by decide +kernel
theorem dX11_orders_169 : decode cX11_orders 169 = .ok (.iconst 0, 1) := by decide +kernel
theorem dX11_orders_170 : decode cX11_orders 170 = .ok (.iastore, 1) := by decide +kernel
theorem dX11_orders_171 : decode cX11_orders 171 = .ok (.iconst 0, 1) := by decide +kernel
theorem dX11_orders_172 : decode cX11_orders 172 = .ok (.istore 8, 2) := by decide +kernel
theorem dX11_orders_174 : decode cX11_orders 174 = .ok (.iload 8, 2) := by decide +kernel
theorem dX11_orders_176 : decode cX11_orders 176 = .ok (.iload_n 2, 1) := by decide +kernel
theorem dX11_orders_177 : decode cX11_orders 177 = .ok (.if_icmp .ge 32, 3) := by decide +kernel
theorem dX11_orders_180 : decode cX11_orders 180 = .ok (.aload_n 0, 1) := by decide +kernel
theorem dX11_orders_181 : decode cX11_orders 181 = .ok (.aload_n 0, 1) := by decide +kernel
theorem dX11_orders_182 : decode cX11_orders 182 = .ok (.getfield 41, 3) := by decide +kernel
theorem dX11_orders_185 : decode cX11_orders 185 = .ok (.aload_n 0, 1) := by decide +kernel
theorem dX11_orders_186 : decode cX11_orders 186 = .ok (.getfield 72, 3) := by decide +kernel
theorem dX11_orders_189 : decode cX11_orders 189 = .ok (.aload_n 0, 1) := by decide +kernel
theorem dX11_orders_190 : decode cX11_orders 190 = .ok (.iload 7, 2) := by decide +kernel
theorem dX11_orders_192 : decode cX11_orders 192 = .ok (.iload_n 2, 1) := by decide +kernel
theorem dX11_orders_193 : decode cX11_orders 193 = .ok (.iload 8, 2) := by decide +kernel
theorem dX11_orders_195 : decode cX11_orders 195 = .ok (.invokevirtual 471, 3) := by decide +kernel
theorem dX11_orders_198 : decode cX11_orders 198 = .ok (.iaload, 1) := by decide +kernel
theorem dX11_orders_199 : decode cX11_orders 199 = .ok (.invokevirtual 379, 3) := by decide +kernel
theorem dX11_orders_202 : decode cX11_orders 202 = .ok (.pop, 1) := by decide +kernel
theorem dX11_orders_203 : decode cX11_orders 203 = .ok (.iinc 8 1, 3) := by decide +kernel
theorem dX11_orders_206 : decode cX11_orders 206 = .ok (.goto (-32), 3) := by decide +kernel
theorem dX11_orders_209 : decode cX11_orders 209 = .ok (.aload_n 0, 1) := by decide +kernel
theorem dX11_orders_210 : decode cX11_orders 210 = .ok (.aload_n 0, 1) := by decide +kernel
theorem dX11_orders_211 : decode cX11_orders 211 = .ok (.getfield 41, 3) := by decide +kernel
theorem dX11_orders_214 : decode cX11_orders 214 = .ok (.invokevirtual 389, 3) := by decide +kernel
theorem dX11_orders_217 : decode cX11_orders 217 = .ok (.aload_n 0, 1) := by decide +kernel
theorem dX11_orders_218 : decode cX11_orders 218 = .ok (.aload_n 0, 1) := by decide +kernel
theorem dX11_orders_219 : decode cX11_orders 219 = .ok (.getfield 41, 3) := by decide +kernel
theorem dX11_orders_222 : decode cX11_orders 222 = .ok (.invokevirtual 348, 3) := by decide +kernel
theorem dX11_orders_225 : decode cX11_orders 225 = .ok (.istore 8, 2) := by decide +kernel
theorem dX11_orders_227 : decode cX11_orders 227 = .ok (.iload 4, 2) := by decide +kernel
theorem dX11_orders_229 : decode cX11_orders 229 = .ok (.iconst (-1), 1) := by decide +kernel
theorem dX11_orders_230 : decode cX11_orders 230 = .ok (.if_icmp .eq 10, 3) := by decide +kernel
theorem dX11_orders_233 : decode cX11_orders 233 = .ok (.iload 8, 2) := by decide +kernel
theorem dX11_orders_235 : decode cX11_orders 235 = .ok (.iload 5, 2) := by decide +kernel
theorem dX11_orders_237 : decode cX11_orders 237 = .ok (.if_icmp .ge 11, 3) := by decide +kernel
theorem dX11_orders_240 : decode cX11_orders 240 = .ok (.iload 7, 2) := by decide +kernel
theorem dX11_orders_242 : decode cX11_orders 242 = .ok (.istore 4, 2) := by decide +kernel
theorem dX11_orders_244 : decode cX11_orders 244 = .ok (.iload 8, 2) := by decide +kernel
theorem dX11_orders_246 : decode cX11_orders 246 = .ok (.istore 5, 2) := by decide +kernel
theorem dX11_orders_248 : decode cX11_orders 248 = .ok (.iload 8, 2) := by decide +kernel
theorem dX11_orders_250 : decode cX11_orders 250 = .ok (.iload 6, 2) := by decide +kernel
theorem dX11_orders_252 : decode cX11_orders 252 = .ok (.if_icmp .le 8, 3) := by decide +kernel
theorem dX11_orders_255 : decode cX11_orders 255 = .ok (.iload 8, 2) := by decide +kernel
theorem dX11_orders_257 : decode cX11_orders 257 = .ok (.goto 5, 3) := by decide +kernel
theorem dX11_orders_260 : decode cX11_orders 260 = .ok (.iload 6, 2) := by decide +kernel
theorem dX11_orders_262 : decode cX11_orders 262 = .ok (.istore 6, 2) := by decide +kernel
theorem dX11_orders_264 : decode cX11_orders 264 = .ok (.iinc 7 1, 3) := by decide +kernel
theorem dX11_orders_267 : decode cX11_orders 267 = .ok (.goto (-132), 3) := by decide +kernel
theorem dX11_orders_270 : decode cX11_orders 270 = .ok (.iload_n 1, 1) := by decide +kernel
theorem dX11_orders_271 : decode cX11_orders 271 = .ok (.ifCond .ne 8, 3) := by decide +kernel
theorem dX11_orders_274 : decode cX11_orders 274 = .ok (.iload 5, 2) := by decide +kernel
theorem dX11_orders_276 : decode cX11_orders 276 = .ok (.goto 15, 3) := by decide +kernel
theorem dX11_orders_279 : decode cX11_orders 279 = .ok (.iload_n 1, 1) := by decide +kernel
theorem dX11_orders_280 : decode cX11_orders 280 = .ok (.iconst 1, 1) := by decide +kernel
theorem dX11_orders_281 : decode cX11_orders 281 = .ok (.if_icmp .ne 8, 3) := by decide +kernel
theorem dX11_orders_284 : decode cX11_orders 284 = .ok (.iload 4, 2) := by decide +kernel
theorem dX11_orders_286 : decode cX11_orders 286 = .ok (.goto 5, 3) := by decide +kernel
theorem dX11_orders_289 : decode cX11_orders 289 = .ok (.iload 6, 2) := by decide +kernel
theorem dX11_orders_291 : decode cX11_orders 291 = .ok (.ireturn, 1) := by decide +kernel
theorem dX11_shifts_0 : decode cX11_shifts 0 = .ok (.aload_n 0, 1) := by decide +kernel
theorem dX11_shifts_1 : decode cX11_shifts 1 = .ok (.iconst 0, 1) := by decide +kernel
theorem dX11_shifts_2 : decode cX11_shifts 2 = .ok (.putfield 75, 3) := by decide +kernel
theorem dX11_shifts_5 : decode cX11_shifts 5 = .ok (.aload_n 0, 1) := by decide +kernel
theorem dX11_shifts_6 : decode cX11_shifts 6 = .ok (.iload_n 1, 1) := by decide +kernel
theorem dX11_shifts_7 : decode cX11_shifts 7 = .ok (.invokevirtual 355, 3) := by decide +kernel
theorem dX11_shifts_10 : decode cX11_shifts 10 = .ok (.ifCond .eq 27, 3) := by decide +kernel
theorem dX11_shifts_13 : decode cX11_shifts 13 = .ok (.iload_n 2, 1) := by decide +kernel
theorem dX11_shifts_14 : decode cX11_shifts 14 = .ok (.i2l, 1) := by decide +kernel
theorem dX11_shifts_15 : decode cX11_shifts 15 = .ok (.lconst 1, 1) := by decide +kernel
theorem dX11_shifts_16 : decode cX11_shifts 16 = .ok (.ldc2_w 364, 3) := by decide +kernel
theorem dX11_shifts_19 : decode cX11_shifts 19 = .ok (.invokestatic 148, 3) := by decide +kernel
theorem dX11_shifts_22 : decode cX11_shifts 22 = .ok (.ifCond .eq 15, 3) := by decide +kernel
theorem dX11_shifts_25 : decode cX11_shifts 25 = .ok (.iload_n 3, 1) := by decide +kernel
theorem dX11_shifts_26 : decode cX11_shifts 26 = .ok (.i2l, 1) := by decide +kernel
theorem dX11_shifts_27 : decode cX11_shifts 27 = .ok (.lconst 0, 1) := by decide +kernel
theorem dX11_shifts_28 : decode cX11_shifts 28 = .ok (.ldc2_w 160, 3) := by decide +kernel
theorem dX11_shifts_31 : decode cX11_shifts 31 = .ok (.invokestatic 148, 3) := by decide +kernel
theorem dX11_shifts_34 : decode cX11_shifts 34 = .ok (.ifCond .ne 5, 3) := by decide +kernel
theorem dX11_shifts_37 : decode cX11_shifts 37 = .ok (.iconst (-1), 1) := by decide +kernel
theorem dX11_shifts_38 : decode cX11_shifts 38 = .ok (.ireturn, 1) := by decide +kernel
theorem dX11_shifts_39 : decode cX11_shifts 39 = .ok (.aload_n 0, 1) := by decide +kernel
theorem dX11_shifts_40 : decode cX11_shifts 40 = .ok (.aload_n 0, 1) := by decide +kernel
theorem dX11_shifts_41 : decode cX11_shifts 41 = .ok (.getfield 38, 3) := by decide +kernel
theorem dX11_shifts_44 : decode cX11_shifts 44 = .ok (.iload_n 1, 1) := by decide +kernel
theorem dX11_shifts_45 : decode cX11_shifts 45 = .ok (.invokevirtual 278, 3) := by decide +kernel
theorem dX11_shifts_48 : decode cX11_shifts 48 = .ok (.aload_n 0, 1) := by decide +kernel
theorem dX11_shifts_49 : decode cX11_shifts 49 = .ok (.invokevirtual 445, 3) := by decide +kernel
theorem dX11_shifts_52 : decode cX11_shifts 52 = .ok (.istore 4, 2) := by decide +kernel
theorem dX11_shifts_54 : decode cX11_shifts 54 = .ok (.iconst 0, 1) := by decide +kernel
theorem dX11_shifts_55 : decode cX11_shifts 55 = .ok (.istore 5, 2) := by decide +kernel
theorem dX11_shifts_57 : decode cX11_shifts 57 = .ok (.iconst (-1), 1) := by decide +kernel
theorem dX11_shifts_58 : decode cX11_shifts 58 = .ok (.istore 6, 2) := by decide +kernel
theorem dX11_shifts_60 : decode cX11_shifts 60 = .ok (.iconst 0, 1) := by decide +kernel
theorem dX11_shifts_61 : decode cX11_shifts 61 = .ok (.istore 7, 2) := by decide +kernel
theorem dX11_shifts_63 : decode cX11_shifts 63 = .ok (.iconst 2, 1) := by decide +kernel
theorem dX11_shifts_64 : decode cX11_shifts 64 = .ok (.iload_n 2, 1) := by decide +kernel
theorem dX11_shifts_65 : decode cX11_shifts 65 = .ok (.imul, 1) := by decide +kernel
theorem dX11_shifts_66 : decode cX11_shifts 66 = .ok (.iconst 1, 1) := by decide +kernel
theorem dX11_shifts_67 : decode cX11_shifts 67 = .ok (.iadd, 1) := by decide +kernel
theorem dX11_shifts_68 : decode cX11_shifts 68 = .ok (.istore 8, 2) := by decide +kernel
theorem dX11_shifts_70 : decode cX11_shifts 70 = .ok (.iconst 0, 1) := by decide +kernel
theorem dX11_shifts_71 : decode cX11_shifts 71 = .ok (.istore 9, 2) := by decide +kernel
theorem dX11_shifts_73 : decode cX11_shifts 73 = .ok (.iload 9, 2) := by decide +kernel
theorem dX11_shifts_75 : decode cX11_shifts 75 = .ok (.iload 8, 2) := by decide +kernel
theorem dX11_shifts_77 : decode cX11_shifts 77 = .ok (.iload 8, 2) := by decide +kernel
theorem dX11_shifts_79 : decode cX11_shifts 79 = .ok (.imul, 1) := by decide +kernel
theorem dX11_shifts_80 : decode cX11_shifts 80 = .ok (.if_icmp .ge 81, 3) := by decide +kernel
theorem dX11_shifts_83 : decode cX11_shifts 83 = .ok (.aload_n 0, 1) := by decide +kernel
theorem dX11_shifts_84 : decode cX11_shifts 84 = .ok (.iload 9, 2) := by decide +kernel
theorem dX11_shifts_86 : decode cX11_shifts 86 = .ok (.iload 8, 2) := by decide +kernel
theorem dX11_shifts_88 : decode cX11_shifts 88 = .ok (.irem, 1) := by decide +kernel
theorem dX11_shifts_89 : decode cX11_shifts 89 = .ok (.iload_n 2, 1) := by decide +kernel
theorem dX11_shifts_90 : decode cX11_shifts 90 = .ok (.isub, 1) := by decide +kernel
theorem dX11_shifts_91 : decode cX11_shifts 91 = .ok (.putfield 228, 3) := by decide +kernel
theorem dX11_shifts_94 : decode cX11_shifts 94 = .ok (.aload_n 0, 1) := by decide +kernel
theorem dX11_shifts_95 : decode cX11_shifts 95 = .ok (.iload 9, 2) := by decide +kernel
theorem dX11_shifts_97 : decode cX11_shifts 97 = .ok (.iload 8, 2) := by decide +kernel
theorem dX11_shifts_99 : decode cX11_shifts 99 = .ok (.idiv, 1) := by decide +kernel
theorem dX11_shifts_100 : decode cX11_shifts 100 = .ok (.iload_n 2, 1) := by decide +kernel
theorem dX11_shifts_101 : decode cX11_shifts 101 = .ok (.isub, 1) := by decide +kernel
theorem dX11_shifts_102 : decode cX11_shifts 102 = .ok (.putfield 231, 3) := by decide +kernel
theorem dX11_shifts_105 : decode cX11_shifts 105 = .ok (.aload_n 0, 1) := by decide +kernel
theorem dX11_shifts_106 : decode cX11_shifts 106 = .ok (.aload_n 0, 1) := by decide +kernel
theorem dX11_shifts_107 : decode cX11_shifts 107 = .ok (.getfield 38, 3) := by decide +kernel
theorem dX11_shifts_110 : decode cX11_shifts 110 = .ok (.iload_n 1, 1) := by decide +kernel
theorem dX11_shifts_111 : decode cX11_shifts 111 = .ok (.invokevirtual 278, 3) := by decide +kernel
theorem dX11_shifts_114 : decode cX11_shifts 114 = .ok (.aload_n 0, 1) := by decide +kernel
theorem dX11_shifts_115 : decode cX11_shifts 115 = .ok (.invokevirtual 445, 3) := by decide +kernel
theorem dX11_shifts_118 : decode cX11_shifts 118 = .ok (.istore 10, 2) := by decide +kernel
theorem dX11_shifts_120 : decode cX11_shifts 120 = .ok (.iload 7, 2) := by decide +kernel
theorem dX11_shifts_122 : decode cX11_shifts 122 = .ok (.iload 10, 2) := by decide +kernel
theorem dX11_shifts_124 : decode cX11_shifts 124 = .ok (.iload 4, 2) := by decide +kernel
theorem dX11_shifts_126 : decode cX11_shifts 126 = .ok (.if_icmp .ne 7, 3) := by decide +kernel
theorem dX11_shifts_129 : decode cX11_shifts 129 = .ok (.iconst 1, 1) := by decide +kernel
theorem dX11_shifts_130 : decode cX11_shifts 130 = .ok (.goto 4, 3) := by decide +kernel
theorem dX11_shifts_133 : decode cX11_shifts 133 = .ok (.iconst 0, 1) := by decide +kernel
theorem dX11_shifts_134 : decode cX11_shifts 134 = .ok (.iadd, 1) := by decide +kernel
theorem dX11_shifts_135 : decode cX11_shifts 135 = .ok (.istore 7, 2) := by decide +kernel
theorem dX11_shifts_137 : decode cX11_shifts 137 = .ok (.iload 10, 2) := by decide +kernel
theorem dX11_shifts_139 : decode cX11_shifts 139 = .ok (.iload 6, 2) := by decide +kernel
theorem dX11_shifts_141 : decode cX11_shifts 141 = .ok (.if_icmp .gt 6, 3) := by decide +kernel
theorem dX11_shifts_144 : decode cX11_shifts 144 = .ok (.goto 11, 3) := by decide +kernel
theorem dX11_shifts_147 : decode cX11_shifts 147 = .ok (.iload 9, 2) := by decide +kernel
theorem dX11_shifts_149 : decode cX11_shifts 149 = .ok (.istore 5, 2) := by decide +kernel
theorem dX11_shifts_151 : decode cX11_shifts 151 = .ok (.iload 10, 2) := by decide +kernel
theorem dX11_shifts_153 : decode cX11_shifts 153 = .ok (.istore 6, 2) := by decide +kernel
theorem dX11_shifts_155 : decode cX11_shifts 155 = .ok (.iinc 9 1, 3) := by decide +kernel
theorem dX11_shifts_158 : decode cX11_shifts 158 = .ok (.goto (-85), 3) := by decide +kernel
theorem dX11_shifts_161 : decode cX11_shifts 161 = .ok (.aload_n 0, 1) := by decide +kernel
theorem dX11_shifts_162 : decode cX11_shifts 162 = .ok (.iconst 0, 1) := by decide +kernel
theorem dX11_shifts_163 : decode cX11_shifts 163 = .ok (.putfield 228, 3) := by decide +kernel
theorem dX11_shifts_166 : decode cX11_shifts 166 = .ok (.aload_n 0, 1) := by decide +kernel
theorem dX11_shifts_167 : decode cX11_shifts 167 = .ok (.iconst 0, 1) := by decide +kernel
theorem dX11_shifts_168 : decode cX11_shifts 168 = .ok (.putfield 231, 3) := by decide +kernel
theorem dX11_shifts_171 : decode cX11_shifts 171 = .ok (.iload_n 3, 1) := by decide +kernel
theorem dX11_shifts_172 : decode cX11_shifts 172 = .ok (.ifCond .ne 8, 3) := by decide +kernel
theorem dX11_shifts_175 : decode cX11_shifts 175 = .ok (.iload 6, 2) := by decide +kernel
theorem dX11_shifts_177 : decode cX11_shifts 177 = .ok (.goto 15, 3) := by decide +kernel
theorem dX11_shifts_180 : decode cX11_shifts 180 = .ok (.iload_n 3, 1) := by decide +kernel
theorem dX11_shifts_181 : decode cX11_shifts 181 = .ok (.iconst 1, 1) := by decide +kernel
theorem dX11_shifts_182 : decode cX11_shifts 182 = .ok (.if_icmp .ne 8, 3) := by decide +kernel
theorem dX11_shifts_185 : decode cX11_shifts 185 = .ok (.iload 5, 2) := by decide +kernel
theorem dX11_shifts_187 : decode cX11_shifts 187 = .ok (.goto 5, 3) := by decide +kernel
theorem dX11_shifts_190 : decode cX11_shifts 190 = .ok (.iload 7, 2) := by decide +kernel
theorem dX11_shifts_192 : decode cX11_shifts 192 = .ok (.ireturn, 1) := by decide +kernel
theorem dX11_pendingAll_0 : decode cX11_pendingAll 0 = .ok (.iconst 0, 1) := by decide +kernel
theorem dX11_pendingAll_1 : decode cX11_pendingAll 1 = .ok (.istore_n 1, 1) := by decide +kernel
theorem dX11_pendingAll_2 : decode cX11_pendingAll 2 = .ok (.iconst 0, 1) := by decide +kernel
theorem dX11_pendingAll_3 : decode cX11_pendingAll 3 = .ok (.istore_n 2, 1) := by decide +kernel
theorem dX11_pendingAll_4 : decode cX11_pendingAll 4 = .ok (.iload_n 2, 1) := by decide +kernel
theorem dX11_pendingAll_5 : decode cX11_pendingAll 5 = .ok (.aload_n 0, 1) := by decide +kernel
theorem dX11_pendingAll_6 : decode cX11_pendingAll 6 = .ok (.invokevirtual 282, 3) := by decide +kernel
theorem dX11_pendingAll_9 : decode cX11_pendingAll 9 = .ok (.if_icmp .ge 21, 3) := by decide +kernel
theorem dX11_pendingAll_12 : decode cX11_pendingAll 12 = .ok (.iload_n 1, 1) := by decide +kernel
theorem dX11_pendingAll_13 : decode cX11_pendingAll 13 = .ok (.aload_n 0, 1) := by decide +kernel
theorem dX11_pendingAll_14 : decode cX11_pendingAll 14 = .ok (.aload_n 0, 1) := by decide +kernel
theorem dX11_pendingAll_15 : decode cX11_pendingAll 15 = .ok (.getfield 38, 3) := by decide +kernel
theorem dX11_pendingAll_18 : decode cX11_pendingAll 18 = .ok (.iload_n 2, 1) := by decide +kernel
theorem dX11_pendingAll_19 : decode cX11_pendingAll 19 = .ok (.invokevirtual 361, 3) := by decide +kernel
theorem dX11_pendingAll_22 : decode cX11_pendingAll 22 = .ok (.iadd, 1) := by decide +kernel
theorem dX11_pendingAll_23 : decode cX11_pendingAll 23 = .ok (.istore_n 1, 1) := by decide +kernel
theorem dX11_pendingAll_24 : decode cX11_pendingAll 24 = .ok (.iinc 2 1, 3) := by decide +kernel
theorem dX11_pendingAll_27 : decode cX11_pendingAll 27 = .ok (.goto (-23), 3) := by decide +kernel
theorem dX11_pendingAll_30 : decode cX11_pendingAll 30 = .ok (.iload_n 1, 1) := by decide +kernel
theorem dX11_pendingAll_31 : decode cX11_pendingAll 31 = .ok (.ireturn, 1) := by decide +kernel
theorem dX11_hides_0 : decode cX11_hides 0 = .ok (.aload_n 0, 1) := by decide +kernel
theorem dX11_hides_1 : decode cX11_hides 1 = .ok (.iconst (-1), 1) := by decide +kernel
theorem dX11_hides_2 : decode cX11_hides 2 = .ok (.aload_n 0, 1) := by decide +kernel
theorem dX11_hides_3 : decode cX11_hides 3 = .ok (.getfield 38, 3) := by decide +kernel
theorem dX11_hides_6 : decode cX11_hides 6 = .ok (.sipush 1059, 3) := by decide +kernel
theorem dX11_hides_9 : decode cX11_hides 9 = .ok (.iaload, 1) := by decide +kernel
theorem dX11_hides_10 : decode cX11_hides 10 = .ok (.invokevirtual 462, 3) := by decide +kernel
theorem dX11_hides_13 : decode cX11_hides 13 = .ok (.iconst 0, 1) := by decide +kernel
theorem dX11_hides_14 : decode cX11_hides 14 = .ok (.istore_n 1, 1) := by decide +kernel
theorem dX11_hides_15 : decode cX11_hides 15 = .ok (.iconst 0, 1) := by decide +kernel
theorem dX11_hides_16 : decode cX11_hides 16 = .ok (.istore_n 2, 1) := by decide +kernel
theorem dX11_hides_17 : decode cX11_hides 17 = .ok (.iload_n 2, 1) := by decide +kernel
theorem dX11_hides_18 : decode cX11_hides 18 = .ok (.aload_n 0, 1) := by decide +kernel
theorem dX11_hides_19 : decode cX11_hides 19 = .ok (.getfield 214, 3) := by decide +kernel
theorem dX11_hides_22 : decode cX11_hides 22 = .ok (.if_icmp .ge 30, 3) := by decide +kernel
theorem dX11_hides_25 : decode cX11_hides 25 = .ok (.iload_n 1, 1) := by decide +kernel
theorem dX11_hides_26 : decode cX11_hides 26 = .ok (.aload_n 0, 1) := by decide +kernel
theorem dX11_hides_27 : decode cX11_hides 27 = .ok (.getfield 41, 3) := by decide +kernel
theorem dX11_hides_30 : decode cX11_hides 30 = .ok (.iload_n 2, 1) := by decide +kernel
theorem dX11_hides_31 : decode cX11_hides 31 = .ok (.invokestatic 338, 3) := by decide +kernel
theorem dX11_hides_34 : decode cX11_hides 34 = .ok (.ifCond .ne 9, 3) := by decide +kernel
theorem dX11_hides_37 : decode cX11_hides 37 = .ok (.iconst 1, 1) := by decide +kernel
theorem dX11_hides_38 : decode cX11_hides 38 = .ok (.iload_n 2, 1) := by decide +kernel
theorem dX11_hides_39 : decode cX11_hides 39 = .ok (.ishl, 1) := by decide +kernel
theorem dX11_hides_40 : decode cX11_hides 40 = .ok (.goto 4, 3) := by decide +kernel
theorem dX11_hides_43 : decode cX11_hides 43 = .ok (.iconst 0, 1) := by decide +kernel
theorem dX11_hides_44 : decode cX11_hides 44 = .ok (.ior, 1) := by decide +kernel
theorem dX11_hides_45 : decode cX11_hides 45 = .ok (.istore_n 1, 1) := by decide +kernel
theorem dX11_hides_46 : decode cX11_hides 46 = .ok (.iinc 2 1, 3) := by decide +kernel
theorem dX11_hides_49 : decode cX11_hides 49 = .ok (.goto (-32), 3) := by decide +kernel
theorem dX11_hides_52 : decode cX11_hides 52 = .ok (.iload_n 1, 1) := by decide +kernel
theorem dX11_hides_53 : decode cX11_hides 53 = .ok (.ireturn, 1) := by decide +kernel
theorem dX11_saved_0 : decode cX11_saved 0 = .ok (.aload_n 0, 1) := by decide +kernel
theorem dX11_saved_1 : decode cX11_saved 1 = .ok (.iconst (-1), 1) := by decide +kernel
theorem dX11_saved_2 : decode cX11_saved 2 = .ok (.iconst 0, 1) := by decide +kernel
theorem dX11_saved_3 : decode cX11_saved 3 = .ok (.invokevirtual 462, 3) := by decide +kernel
theorem dX11_saved_6 : decode cX11_saved 6 = .ok (.aload_n 0, 1) := by decide +kernel
theorem dX11_saved_7 : decode cX11_saved 7 = .ok (.aload_n 0, 1) := by decide +kernel
theorem dX11_saved_8 : decode cX11_saved 8 = .ok (.getfield 41, 3) := by decide +kernel
theorem dX11_saved_11 : decode cX11_saved 11 = .ok (.invokevirtual 348, 3) := by decide +kernel
theorem dX11_saved_14 : decode cX11_saved 14 = .ok (.istore_n 1, 1) := by decide +kernel
theorem dX11_saved_15 : decode cX11_saved 15 = .ok (.aload_n 0, 1) := by decide +kernel
theorem dX11_saved_16 : decode cX11_saved 16 = .ok (.iconst (-1), 1) := by decide +kernel
theorem dX11_saved_17 : decode cX11_saved 17 = .ok (.iconst 1, 1) := by decide +kernel
theorem dX11_saved_18 : decode cX11_saved 18 = .ok (.invokevirtual 462, 3) := by decide +kernel
theorem dX11_saved_21 : decode cX11_saved 21 = .ok (.iload_n 1, 1) := by decide +kernel
theorem dX11_saved_22 : decode cX11_saved 22 = .ok (.aload_n 0, 1) := by decide +kernel
theorem dX11_saved_23 : decode cX11_saved 23 = .ok (.aload_n 0, 1) := by decide +kernel
theorem dX11_saved_24 : decode cX11_saved 24 = .ok (.getfield 41, 3) := by decide +kernel
theorem dX11_saved_27 : decode cX11_saved 27 = .ok (.invokevirtual 348, 3) := by decide +kernel
theorem dX11_saved_30 : decode cX11_saved 30 = .ok (.isub, 1) := by decide +kernel
theorem dX11_saved_31 : decode cX11_saved 31 = .ok (.ireturn, 1) := by decide +kernel
theorem dX11_culledOnes_0 : decode cX11_culledOnes 0 = .ok (.iconst 0, 1) := by decide +kernel
theorem dX11_culledOnes_1 : decode cX11_culledOnes 1 = .ok (.istore_n 1, 1) := by decide +kernel
theorem dX11_culledOnes_2 : decode cX11_culledOnes 2 = .ok (.iconst 0, 1) := by decide +kernel
theorem dX11_culledOnes_3 : decode cX11_culledOnes 3 = .ok (.istore_n 2, 1) := by decide +kernel
theorem dX11_culledOnes_4 : decode cX11_culledOnes 4 = .ok (.iload_n 2, 1) := by decide +kernel
theorem dX11_culledOnes_5 : decode cX11_culledOnes 5 = .ok (.aload_n 0, 1) := by decide +kernel
theorem dX11_culledOnes_6 : decode cX11_culledOnes 6 = .ok (.getfield 214, 3) := by decide +kernel
theorem dX11_culledOnes_9 : decode cX11_culledOnes 9 = .ok (.if_icmp .ge 35, 3) := by decide +kernel
theorem dX11_culledOnes_12 : decode cX11_culledOnes 12 = .ok (.aload_n 0, 1) := by decide +kernel
theorem dX11_culledOnes_13 : decode cX11_culledOnes 13 = .ok (.aload_n 0, 1) := by decide +kernel
theorem dX11_culledOnes_14 : decode cX11_culledOnes 14 = .ok (.getfield 38, 3) := by decide +kernel
theorem dX11_culledOnes_17 : decode cX11_culledOnes 17 = .ok (.iload_n 2, 1) := by decide +kernel
theorem dX11_culledOnes_18 : decode cX11_culledOnes 18 = .ok (.invokevirtual 278, 3) := by decide +kernel
theorem dX11_culledOnes_21 : decode cX11_culledOnes 21 = .ok (.iload_n 1, 1) := by decide +kernel
theorem dX11_culledOnes_22 : decode cX11_culledOnes 22 = .ok (.aload_n 0, 1) := by decide +kernel
theorem dX11_culledOnes_23 : decode cX11_culledOnes 23 = .ok (.getfield 241, 3) := by decide +kernel
theorem dX11_culledOnes_26 : decode cX11_culledOnes 26 = .ok (.ifCond .eq 9, 3) := by decide +kernel
theorem dX11_culledOnes_29 : decode cX11_culledOnes 29 = .ok (.iconst 1, 1) := by decide +kernel
theorem dX11_culledOnes_30 : decode cX11_culledOnes 30 = .ok (.iload_n 2, 1) := by decide +kernel
theorem dX11_culledOnes_31 : decode cX11_culledOnes 31 = .ok (.ishl, 1) := by decide +kernel
theorem dX11_culledOnes_32 : decode cX11_culledOnes 32 = .ok (.goto 4, 3) := by decide +kernel
theorem dX11_culledOnes_35 : decode cX11_culledOnes 35 = .ok (.iconst 0, 1) := by decide +kernel
theorem dX11_culledOnes_36 : decode cX11_culledOnes 36 = .ok (.ior, 1) := by decide +kernel
theorem dX11_culledOnes_37 : decode cX11_culledOnes 37 = .ok (.istore_n 1, 1) := by decide +kernel
theorem dX11_culledOnes_38 : decode cX11_culledOnes 38 = .ok (.iinc 2 1, 3) := by decide +kernel
theorem dX11_culledOnes_41 : decode cX11_culledOnes 41 = .ok (.goto (-37), 3) := by decide +kernel
theorem dX11_culledOnes_44 : decode cX11_culledOnes 44 = .ok (.iload_n 1, 1) := by decide +kernel
theorem dX11_culledOnes_45 : decode cX11_culledOnes 45 = .ok (.ireturn, 1) := by decide +kernel
theorem dX11_fullest_0 : decode cX11_fullest 0 = .ok (.iconst 0, 1) := by decide +kernel
theorem dX11_fullest_1 : decode cX11_fullest 1 = .ok (.istore_n 1, 1) := by decide +kernel
theorem dX11_fullest_2 : decode cX11_fullest 2 = .ok (.iconst 1, 1) := by decide +kernel
theorem dX11_fullest_3 : decode cX11_fullest 3 = .ok (.istore_n 2, 1) := by decide +kernel
theorem dX11_fullest_4 : decode cX11_fullest 4 = .ok (.iload_n 2, 1) := by decide +kernel
theorem dX11_fullest_5 : decode cX11_fullest 5 = .ok (.aload_n 0, 1) := by decide +kernel
theorem dX11_fullest_6 : decode cX11_fullest 6 = .ok (.invokevirtual 282, 3) := by decide +kernel
theorem dX11_fullest_9 : decode cX11_fullest 9 = .ok (.if_icmp .ge 40, 3) := by decide +kernel
theorem dX11_fullest_12 : decode cX11_fullest 12 = .ok (.aload_n 0, 1) := by decide +kernel
theorem dX11_fullest_13 : decode cX11_fullest 13 = .ok (.getfield 38, 3) := by decide +kernel
theorem dX11_fullest_16 : decode cX11_fullest 16 = .ok (.sipush 768, 3) := by decide +kernel
theorem dX11_fullest_19 : decode cX11_fullest 19 = .ok (.bipush 11, 2) := by decide +kernel
theorem dX11_fullest_21 : decode cX11_fullest 21 = .ok (.iload_n 2, 1) := by decide +kernel
theorem dX11_fullest_22 : decode cX11_fullest 22 = .ok (.imul, 1) := by decide +kernel
theorem dX11_fullest_23 : decode cX11_fullest 23 = .ok (.iadd, 1) := by decide +kernel
theorem dX11_fullest_24 : decode cX11_fullest 24 = .ok (.iaload, 1) := by decide +kernel
theorem dX11_fullest_25 : decode cX11_fullest 25 = .ok (.aload_n 0, 1) := by decide +kernel
theorem dX11_fullest_26 : decode cX11_fullest 26 = .ok (.getfield 38, 3) := by decide +kernel
theorem dX11_fullest_29 : decode cX11_fullest 29 = .ok (.sipush 768, 3) := by decide +kernel
theorem dX11_fullest_32 : decode cX11_fullest 32 = .ok (.bipush 11, 2) := by decide +kernel
theorem dX11_fullest_34 : decode cX11_fullest 34 = .ok (.iload_n 1, 1) := by decide +kernel
theorem dX11_fullest_35 : decode cX11_fullest 35 = .ok (.imul, 1) := by decide +kernel
theorem dX11_fullest_36 : decode cX11_fullest 36 = .ok (.iadd, 1) := by decide +kernel
theorem dX11_fullest_37 : decode cX11_fullest 37 = .ok (.iaload, 1) := by decide +kernel
theorem dX11_fullest_38 : decode cX11_fullest 38 = .ok (.if_icmp .le 5, 3) := by decide +kernel
theorem dX11_fullest_41 : decode cX11_fullest 41 = .ok (.iload_n 2, 1) := by decide +kernel
theorem dX11_fullest_42 : decode cX11_fullest 42 = .ok (.istore_n 1, 1) := by decide +kernel
theorem dX11_fullest_43 : decode cX11_fullest 43 = .ok (.iinc 2 1, 3) := by decide +kernel
theorem dX11_fullest_46 : decode cX11_fullest 46 = .ok (.goto (-42), 3) := by decide +kernel
theorem dX11_fullest_49 : decode cX11_fullest 49 = .ok (.iload_n 1, 1) := by decide +kernel
theorem dX11_fullest_50 : decode cX11_fullest 50 = .ok (.ireturn, 1) := by decide +kernel
theorem dX11_binnedOnes_0 : decode cX11_binnedOnes 0 = .ok (.iconst 0, 1) := by decide +kernel
theorem dX11_binnedOnes_1 : decode cX11_binnedOnes 1 = .ok (.istore_n 1, 1) := by decide +kernel
theorem dX11_binnedOnes_2 : decode cX11_binnedOnes 2 = .ok (.iconst 0, 1) := by decide +kernel
theorem dX11_binnedOnes_3 : decode cX11_binnedOnes 3 = .ok (.istore_n 2, 1) := by decide +kernel
theorem dX11_binnedOnes_4 : decode cX11_binnedOnes 4 = .ok (.iload_n 2, 1) := by decide +kernel
theorem dX11_binnedOnes_5 : decode cX11_binnedOnes 5 = .ok (.aload_n 0, 1) := by decide +kernel
theorem dX11_binnedOnes_6 : decode cX11_binnedOnes 6 = .ok (.getfield 214, 3) := by decide +kernel
theorem dX11_binnedOnes_9 : decode cX11_binnedOnes 9 = .ok (.if_icmp .ge 31, 3) := by decide +kernel
theorem dX11_binnedOnes_12 : decode cX11_binnedOnes 12 = .ok (.iload_n 1, 1) := by decide +kernel
theorem dX11_binnedOnes_13 : decode cX11_binnedOnes 13 = .ok (.aload_n 0, 1) := by decide +kernel
theorem dX11_binnedOnes_14 : decode cX11_binnedOnes 14 = .ok (.aload_n 0, 1) := by decide +kernel
theorem dX11_binnedOnes_15 : decode cX11_binnedOnes 15 = .ok (.getfield 38, 3) := by decide +kernel
theorem dX11_binnedOnes_18 : decode cX11_binnedOnes 18 = .ok (.iload_n 2, 1) := by decide +kernel
theorem dX11_binnedOnes_19 : decode cX11_binnedOnes 19 = .ok (.invokevirtual 366, 3) := by decide +kernel
theorem dX11_binnedOnes_22 : decode cX11_binnedOnes 22 = .ok (.ifCond .eq 9, 3) := by decide +kernel
theorem dX11_binnedOnes_25 : decode cX11_binnedOnes 25 = .ok (.iconst 1, 1) := by decide +kernel
theorem dX11_binnedOnes_26 : decode cX11_binnedOnes 26 = .ok (.iload_n 2, 1) := by decide +kernel
theorem dX11_binnedOnes_27 : decode cX11_binnedOnes 27 = .ok (.ishl, 1) := by decide +kernel
theorem dX11_binnedOnes_28 : decode cX11_binnedOnes 28 = .ok (.goto 4, 3) := by decide +kernel
theorem dX11_binnedOnes_31 : decode cX11_binnedOnes 31 = .ok (.iconst 0, 1) := by decide +kernel
theorem dX11_binnedOnes_32 : decode cX11_binnedOnes 32 = .ok (.ior, 1) := by decide +kernel
theorem dX11_binnedOnes_33 : decode cX11_binnedOnes 33 = .ok (.istore_n 1, 1) := by decide +kernel
theorem dX11_binnedOnes_34 : decode cX11_binnedOnes 34 = .ok (.iinc 2 1, 3) := by decide +kernel
theorem dX11_binnedOnes_37 : decode cX11_binnedOnes 37 = .ok (.goto (-33), 3) := by decide +kernel
theorem dX11_binnedOnes_40 : decode cX11_binnedOnes 40 = .ok (.iload_n 1, 1) := by decide +kernel
theorem dX11_binnedOnes_41 : decode cX11_binnedOnes 41 = .ok (.ireturn, 1) := by decide +kernel
theorem dX11_most_0 : decode cX11_most 0 = .ok (.aload_n 0, 1) := by decide +kernel
theorem dX11_most_1 : decode cX11_most 1 = .ok (.iconst 0, 1) := by decide +kernel
theorem dX11_most_2 : decode cX11_most 2 = .ok (.putfield 75, 3) := by decide +kernel
theorem dX11_most_5 : decode cX11_most 5 = .ok (.aload_n 0, 1) := by decide +kernel
theorem dX11_most_6 : decode cX11_most 6 = .ok (.getfield 214, 3) := by decide +kernel
theorem dX11_most_9 : decode cX11_most 9 = .ok (.ifCond .ne 6, 3) := by decide +kernel
theorem dX11_most_12 : decode cX11_most 12 = .ok (.ldc 202, 2) := by decide +kernel
theorem dX11_most_14 : decode cX11_most 14 = .ok (.ireturn, 1) := by decide +kernel
theorem dX11_most_15 : decode cX11_most 15 = .ok (.iload_n 1, 1) := by decide +kernel
theorem dX11_most_16 : decode cX11_most 16 = .ok (.tableswitch 122 0 9 #[56, 65, 74, 83, 92, 97, 102, 107, 112, 117], 56) := by decide +kernel
theorem dX11_most_72 : decode cX11_most 72 = .ok (.aload_n 0, 1) := by decide +kernel
theorem dX11_most_73 : decode cX11_most 73 = .ok (.aload_n 0, 1) := by decide +kernel
theorem dX11_most_74 : decode cX11_most 74 = .ok (.getfield 38, 3) := by decide +kernel
theorem dX11_most_77 : decode cX11_most 77 = .ok (.invokevirtual 348, 3) := by decide +kernel
theorem dX11_most_80 : decode cX11_most 80 = .ok (.ireturn, 1) := by decide +kernel
theorem dX11_most_81 : decode cX11_most 81 = .ok (.aload_n 0, 1) := by decide +kernel
theorem dX11_most_82 : decode cX11_most 82 = .ok (.getfield 38, 3) := by decide +kernel
theorem dX11_most_85 : decode cX11_most 85 = .ok (.sipush 1054, 3) := by decide +kernel
theorem dX11_most_88 : decode cX11_most 88 = .ok (.iaload, 1) := by decide +kernel
theorem dX11_most_89 : decode cX11_most 89 = .ok (.ireturn, 1) := by decide +kernel
theorem dX11_most_90 : decode cX11_most 90 = .ok (.aload_n 0, 1) := by decide +kernel
theorem dX11_most_91 : decode cX11_most 91 = .ok (.getfield 38, 3) := by decide +kernel
theorem dX11_most_94 : decode cX11_most 94 = .ok (.sipush 1055, 3) := by decide +kernel
theorem dX11_most_97 : decode cX11_most 97 = .ok (.iaload, 1) := by decide +kernel
theorem dX11_most_98 : decode cX11_most 98 = .ok (.ireturn, 1) := by decide +kernel
theorem dX11_most_99 : decode cX11_most 99 = .ok (.aload_n 0, 1) := by decide +kernel
theorem dX11_most_100 : decode cX11_most 100 = .ok (.getfield 38, 3) := by decide +kernel
theorem dX11_most_103 : decode cX11_most 103 = .ok (.sipush 1056, 3) := by decide +kernel
theorem dX11_most_106 : decode cX11_most 106 = .ok (.iaload, 1) := by decide +kernel
theorem dX11_most_107 : decode cX11_most 107 = .ok (.ireturn, 1) := by decide +kernel
theorem dX11_most_108 : decode cX11_most 108 = .ok (.aload_n 0, 1) := by decide +kernel
theorem dX11_most_109 : decode cX11_most 109 = .ok (.invokevirtual 474, 3) := by decide +kernel
theorem dX11_most_112 : decode cX11_most 112 = .ok (.ireturn, 1) := by decide +kernel
theorem dX11_most_113 : decode cX11_most 113 = .ok (.aload_n 0, 1) := by decide +kernel
theorem dX11_most_114 : decode cX11_most 114 = .ok (.invokevirtual 477, 3) := by decide +kernel
theorem dX11_most_117 : decode cX11_most 117 = .ok (.ireturn, 1) := by decide +kernel
theorem dX11_most_118 : decode cX11_most 118 = .ok (.aload_n 0, 1) := by decide +kernel
theorem dX11_most_119 : decode cX11_most 119 = .ok (.invokevirtual 480, 3) := by decide +kernel
theorem dX11_most_122 : decode cX11_most 122 = .ok (.ireturn, 1) := by decide +kernel
theorem dX11_most_123 : decode cX11_most 123 = .ok (.aload_n 0, 1) := by decide +kernel
theorem dX11_most_124 : decode cX11_most 124 = .ok (.invokevirtual 483, 3) := by decide +kernel
theorem dX11_most_127 : decode cX11_most 127 = .ok (.ireturn, 1) := by decide +kernel
theorem dX11_most_128 : decode cX11_most 128 = .ok (.aload_n 0, 1) := by decide +kernel
theorem dX11_most_129 : decode cX11_most 129 = .ok (.invokevirtual 486, 3) := by decide +kernel
theorem dX11_most_132 : decode cX11_most 132 = .ok (.ireturn, 1) := by decide +kernel
theorem dX11_most_133 : decode cX11_most 133 = .ok (.aload_n 0, 1) := by decide +kernel
theorem dX11_most_134 : decode cX11_most 134 = .ok (.invokevirtual 489, 3) := by decide +kernel
theorem dX11_most_137 : decode cX11_most 137 = .ok (.ireturn, 1) := by decide +kernel
theorem dX11_most_138 : decode cX11_most 138 = .ok (.ldc 202, 2) := by decide +kernel
theorem dX11_most_140 : decode cX11_most 140 = .ok (.ireturn, 1) := by decide +kernel
theorem dX11_count_0 : decode cX11_count 0 = .ok (.aload_n 0, 1) := by decide +kernel
theorem dX11_count_1 : decode cX11_count 1 = .ok (.iconst 0, 1) := by decide +kernel
theorem dX11_count_2 : decode cX11_count 2 = .ok (.putfield 75, 3) := by decide +kernel
theorem dX11_count_5 : decode cX11_count 5 = .ok (.iload_n 1, 1) := by decide +kernel
theorem dX11_count_6 : decode cX11_count 6 = .ok (.tableswitch 83 0 5 #[38, 43, 48, 53, 69, 78], 38) := by decide +kernel
theorem dX11_count_44 : decode cX11_count 44 = .ok (.aload_n 0, 1) := by decide +kernel
theorem dX11_count_45 : decode cX11_count 45 = .ok (.getfield 214, 3) := by decide +kernel
theorem dX11_count_48 : decode cX11_count 48 = .ok (.ireturn, 1) := by decide +kernel
theorem dX11_count_49 : decode cX11_count 49 = .ok (.aload_n 0, 1) := by decide +kernel
theorem dX11_count_50 : decode cX11_count 50 = .ok (.getfield 209, 3) := by decide +kernel
theorem dX11_count_53 : decode cX11_count 53 = .ok (.ireturn, 1) := by decide +kernel
theorem dX11_count_54 : decode cX11_count 54 = .ok (.aload_n 0, 1) := by decide +kernel
theorem dX11_count_55 : decode cX11_count 55 = .ok (.getfield 79, 3) := by decide +kernel
theorem dX11_count_58 : decode cX11_count 58 = .ok (.ireturn, 1) := by decide +kernel
theorem dX11_count_59 : decode cX11_count 59 = .ok (.aload_n 0, 1) := by decide +kernel
theorem dX11_count_60 : decode cX11_count 60 = .ok (.getfield 214, 3) := by decide +kernel
theorem dX11_count_63 : decode cX11_count 63 = .ok (.ifCond .ne 7, 3) := by decide +kernel
theorem dX11_count_66 : decode cX11_count 66 = .ok (.iconst 0, 1) := by decide +kernel
theorem dX11_count_67 : decode cX11_count 67 = .ok (.goto 7, 3) := by decide +kernel
theorem dX11_count_70 : decode cX11_count 70 = .ok (.aload_n 0, 1) := by decide +kernel
theorem dX11_count_71 : decode cX11_count 71 = .ok (.invokevirtual 282, 3) := by decide +kernel
theorem dX11_count_74 : decode cX11_count 74 = .ok (.ireturn, 1) := by decide +kernel
theorem dX11_count_75 : decode cX11_count 75 = .ok (.aload_n 0, 1) := by decide +kernel
theorem dX11_count_76 : decode cX11_count 76 = .ok (.getfield 38, 3) := by decide +kernel
theorem dX11_count_79 : decode cX11_count 79 = .ok (.sipush 1061, 3) := by decide +kernel
theorem dX11_count_82 : decode cX11_count 82 = .ok (.iaload, 1) := by decide +kernel
theorem dX11_count_83 : decode cX11_count 83 = .ok (.ireturn, 1) := by decide +kernel
theorem dX11_count_84 : decode cX11_count 84 = .ok (.aload_n 0, 1) := by decide +kernel
theorem dX11_count_85 : decode cX11_count 85 = .ok (.getfield 221, 3) := by decide +kernel
theorem dX11_count_88 : decode cX11_count 88 = .ok (.ireturn, 1) := by decide +kernel
theorem dX11_count_89 : decode cX11_count 89 = .ok (.ldc 202, 2) := by decide +kernel
theorem dX11_count_91 : decode cX11_count 91 = .ok (.ireturn, 1) := by decide +kernel
