theorem d_HL_init_0 : decode b_HL_init 0 = .ok (.aload_n 0, 1) := by decide +kernel
theorem d_HL_init_1 : decode b_HL_init 1 = .ok (.invokespecial 3, 3) := by decide +kernel
theorem d_HL_init_4 : decode b_HL_init 4 = .ok (.aload_n 0, 1) := by decide +kernel
theorem d_HL_init_5 : decode b_HL_init 5 = .ok (.new 9, 3) := by decide +kernel
theorem d_HL_init_8 : decode b_HL_init 8 = .ok (.dup, 1) := by decide +kernel
theorem d_HL_init_9 : decode b_HL_init 9 = .ok (.invokespecial 11, 3) := by decide +kernel
theorem d_HL_init_12 : decode b_HL_init 12 = .ok (.putfield 12, 3) := by decide +kernel
theorem d_HL_init_15 : decode b_HL_init 15 = .ok (.aload_n 0, 1) := by decide +kernel
theorem d_HL_init_16 : decode b_HL_init 16 = .ok (.new 16, 3) := by decide +kernel
theorem d_HL_init_19 : decode b_HL_init 19 = .ok (.dup, 1) := by decide +kernel
theorem d_HL_init_20 : decode b_HL_init 20 = .ok (.aload_n 0, 1) := by decide +kernel
theorem d_HL_init_21 : decode b_HL_init 21 = .ok (.getfield 12, 3) := by decide +kernel
theorem d_HL_init_24 : decode b_HL_init 24 = .ok (.invokespecial 18, 3) := by decide +kernel
theorem d_HL_init_27 : decode b_HL_init 27 = .ok (.putfield 21, 3) := by decide +kernel
theorem d_HL_init_30 : decode b_HL_init 30 = .ok (.aload_n 0, 1) := by decide +kernel
theorem d_HL_init_31 : decode b_HL_init 31 = .ok (.new 16, 3) := by decide +kernel
theorem d_HL_init_34 : decode b_HL_init 34 = .ok (.dup, 1) := by decide +kernel
theorem d_HL_init_35 : decode b_HL_init 35 = .ok (.aload_n 0, 1) := by decide +kernel
theorem d_HL_init_36 : decode b_HL_init 36 = .ok (.getfield 12, 3) := by decide +kernel
theorem d_HL_init_39 : decode b_HL_init 39 = .ok (.invokespecial 18, 3) := by decide +kernel
theorem d_HL_init_42 : decode b_HL_init 42 = .ok (.putfield 25, 3) := by decide +kernel
theorem d_HL_init_45 : decode b_HL_init 45 = .ok (.aload_n 0, 1) := by decide +kernel
theorem d_HL_init_46 : decode b_HL_init 46 = .ok (.new 28, 3) := by decide +kernel
theorem d_HL_init_49 : decode b_HL_init 49 = .ok (.dup, 1) := by decide +kernel
theorem d_HL_init_50 : decode b_HL_init 50 = .ok (.invokespecial 30, 3) := by decide +kernel
theorem d_HL_init_53 : decode b_HL_init 53 = .ok (.putfield 31, 3) := by decide +kernel
theorem d_HL_init_56 : decode b_HL_init 56 = .ok (.aload_n 0, 1) := by decide +kernel
theorem d_HL_init_57 : decode b_HL_init 57 = .ok (.bipush 10, 2) := by decide +kernel
theorem d_HL_init_59 : decode b_HL_init 59 = .ok (.newarray .boolean, 2) := by decide +kernel
theorem d_HL_init_61 : decode b_HL_init 61 = .ok (.putfield 35, 3) := by decide +kernel
theorem d_HL_init_64 : decode b_HL_init 64 = .ok (.return_, 1) := by decide +kernel
theorem d_HL_pipe_0 : decode b_HL_pipe 0 = .ok (.iload_n 1, 1) := by decide +kernel
theorem d_HL_pipe_1 : decode b_HL_pipe 1 = .ok (.iconst (-1), 1) := by decide +kernel
theorem d_HL_pipe_2 : decode b_HL_pipe 2 = .ok (.if_icmp .eq 8, 3) := by decide +kernel
theorem d_HL_pipe_5 : decode b_HL_pipe 5 = .ok (.aload_n 0, 1) := by decide +kernel
theorem d_HL_pipe_6 : decode b_HL_pipe 6 = .ok (.iload_n 1, 1) := by decide +kernel
theorem d_HL_pipe_7 : decode b_HL_pipe 7 = .ok (.invokevirtual 39, 3) := by decide +kernel
theorem d_HL_pipe_10 : decode b_HL_pipe 10 = .ok (.iload_n 2, 1) := by decide +kernel
theorem d_HL_pipe_11 : decode b_HL_pipe 11 = .ok (.iconst 1, 1) := by decide +kernel
theorem d_HL_pipe_12 : decode b_HL_pipe 12 = .ok (.sipush 1000, 3) := by decide +kernel
theorem d_HL_pipe_15 : decode b_HL_pipe 15 = .ok (.invokestatic 43, 3) := by decide +kernel
theorem d_HL_pipe_18 : decode b_HL_pipe 18 = .ok (.iload_n 3, 1) := by decide +kernel
theorem d_HL_pipe_19 : decode b_HL_pipe 19 = .ok (.iconst 1, 1) := by decide +kernel
theorem d_HL_pipe_20 : decode b_HL_pipe 20 = .ok (.sipush 1000, 3) := by decide +kernel
theorem d_HL_pipe_23 : decode b_HL_pipe 23 = .ok (.invokestatic 43, 3) := by decide +kernel
theorem d_HL_pipe_26 : decode b_HL_pipe 26 = .ok (.aload_n 0, 1) := by decide +kernel
theorem d_HL_pipe_27 : decode b_HL_pipe 27 = .ok (.getfield 12, 3) := by decide +kernel
theorem d_HL_pipe_30 : decode b_HL_pipe 30 = .ok (.getfield 47, 3) := by decide +kernel
theorem d_HL_pipe_33 : decode b_HL_pipe 33 = .ok (.bipush 10, 2) := by decide +kernel
theorem d_HL_pipe_35 : decode b_HL_pipe 35 = .ok (.if_icmp .lt 13, 3) := by decide +kernel
theorem d_HL_pipe_38 : decode b_HL_pipe 38 = .ok (.new 51, 3) := by decide +kernel
theorem d_HL_pipe_41 : decode b_HL_pipe 41 = .ok (.dup, 1) := by decide +kernel
theorem d_HL_pipe_42 : decode b_HL_pipe 42 = .ok (.ldc 53, 2) := by decide +kernel
theorem d_HL_pipe_44 : decode b_HL_pipe 44 = .ok (.invokespecial 55, 3) := by decide +kernel
theorem d_HL_pipe_47 : decode b_HL_pipe 47 = .ok (.athrow, 1) := by decide +kernel
theorem d_HL_pipe_48 : decode b_HL_pipe 48 = .ok (.aload_n 0, 1) := by decide +kernel
theorem d_HL_pipe_49 : decode b_HL_pipe 49 = .ok (.getfield 21, 3) := by decide +kernel
theorem d_HL_pipe_52 : decode b_HL_pipe 52 = .ok (.getfield 58, 3) := by decide +kernel
theorem d_HL_pipe_55 : decode b_HL_pipe 55 = .ok (.ifCond .le 13, 3) := by decide +kernel
theorem d_HL_pipe_58 : decode b_HL_pipe 58 = .ok (.new 51, 3) := by decide +kernel
theorem d_HL_pipe_61 : decode b_HL_pipe 61 = .ok (.dup, 1) := by decide +kernel
theorem d_HL_pipe_62 : decode b_HL_pipe 62 = .ok (.ldc 61, 2) := by decide +kernel
theorem d_HL_pipe_64 : decode b_HL_pipe 64 = .ok (.invokespecial 55, 3) := by decide +kernel
theorem d_HL_pipe_67 : decode b_HL_pipe 67 = .ok (.athrow, 1) := by decide +kernel
theorem d_HL_pipe_68 : decode b_HL_pipe 68 = .ok (.aload_n 0, 1) := by decide +kernel
theorem d_HL_pipe_69 : decode b_HL_pipe 69 = .ok (.getfield 12, 3) := by decide +kernel
theorem d_HL_pipe_72 : decode b_HL_pipe 72 = .ok (.iload_n 1, 1) := by decide +kernel
theorem d_HL_pipe_73 : decode b_HL_pipe 73 = .ok (.iload_n 2, 1) := by decide +kernel
theorem d_HL_pipe_74 : decode b_HL_pipe 74 = .ok (.iload_n 3, 1) := by decide +kernel
theorem d_HL_pipe_75 : decode b_HL_pipe 75 = .ok (.invokevirtual 63, 3) := by decide +kernel
theorem d_HL_pipe_78 : decode b_HL_pipe 78 = .ok (.istore 4, 2) := by decide +kernel
theorem d_HL_pipe_80 : decode b_HL_pipe 80 = .ok (.aload_n 0, 1) := by decide +kernel
theorem d_HL_pipe_81 : decode b_HL_pipe 81 = .ok (.getfield 21, 3) := by decide +kernel
theorem d_HL_pipe_84 : decode b_HL_pipe 84 = .ok (.iload 4, 2) := by decide +kernel
theorem d_HL_pipe_86 : decode b_HL_pipe 86 = .ok (.invokevirtual 67, 3) := by decide +kernel
theorem d_HL_pipe_89 : decode b_HL_pipe 89 = .ok (.iload 4, 2) := by decide +kernel
theorem d_HL_pipe_91 : decode b_HL_pipe 91 = .ok (.ireturn, 1) := by decide +kernel
theorem d_HL_tap_0 : decode b_HL_tap 0 = .ok (.aload_n 0, 1) := by decide +kernel
theorem d_HL_tap_1 : decode b_HL_tap 1 = .ok (.iload_n 1, 1) := by decide +kernel
theorem d_HL_tap_2 : decode b_HL_tap 2 = .ok (.invokevirtual 39, 3) := by decide +kernel
theorem d_HL_tap_5 : decode b_HL_tap 5 = .ok (.aload_n 0, 1) := by decide +kernel
theorem d_HL_tap_6 : decode b_HL_tap 6 = .ok (.getfield 12, 3) := by decide +kernel
theorem d_HL_tap_9 : decode b_HL_tap 9 = .ok (.getfield 70, 3) := by decide +kernel
theorem d_HL_tap_12 : decode b_HL_tap 12 = .ok (.iload_n 1, 1) := by decide +kernel
theorem d_HL_tap_13 : decode b_HL_tap 13 = .ok (.baload, 1) := by decide +kernel
theorem d_HL_tap_14 : decode b_HL_tap 14 = .ok (.ifCond .ne 7, 3) := by decide +kernel
theorem d_HL_tap_17 : decode b_HL_tap 17 = .ok (.iconst 1, 1) := by decide +kernel
theorem d_HL_tap_18 : decode b_HL_tap 18 = .ok (.goto 4, 3) := by decide +kernel
theorem d_HL_tap_21 : decode b_HL_tap 21 = .ok (.iconst 0, 1) := by decide +kernel
theorem d_HL_tap_22 : decode b_HL_tap 22 = .ok (.istore_n 2, 1) := by decide +kernel
theorem d_HL_tap_23 : decode b_HL_tap 23 = .ok (.aload_n 0, 1) := by decide +kernel
theorem d_HL_tap_24 : decode b_HL_tap 24 = .ok (.getfield 12, 3) := by decide +kernel
theorem d_HL_tap_27 : decode b_HL_tap 27 = .ok (.getfield 70, 3) := by decide +kernel
theorem d_HL_tap_30 : decode b_HL_tap 30 = .ok (.iload_n 1, 1) := by decide +kernel
theorem d_HL_tap_31 : decode b_HL_tap 31 = .ok (.iconst 1, 1) := by decide +kernel
theorem d_HL_tap_32 : decode b_HL_tap 32 = .ok (.bastore, 1) := by decide +kernel
theorem d_HL_tap_33 : decode b_HL_tap 33 = .ok (.iload_n 2, 1) := by decide +kernel
theorem d_HL_tap_34 : decode b_HL_tap 34 = .ok (.ireturn, 1) := by decide +kernel
theorem d_HL_set_0 : decode b_HL_set 0 = .ok (.iload_n 1, 1) := by decide +kernel
theorem d_HL_set_1 : decode b_HL_set 1 = .ok (.iconst 0, 1) := by decide +kernel
theorem d_HL_set_2 : decode b_HL_set 2 = .ok (.iconst 1, 1) := by decide +kernel
theorem d_HL_set_3 : decode b_HL_set 3 = .ok (.invokestatic 43, 3) := by decide +kernel
theorem d_HL_set_6 : decode b_HL_set 6 = .ok (.iload_n 2, 1) := by decide +kernel
theorem d_HL_set_7 : decode b_HL_set 7 = .ok (.iconst 0, 1) := by decide +kernel
theorem d_HL_set_8 : decode b_HL_set 8 = .ok (.sipush 10000, 3) := by decide +kernel
theorem d_HL_set_11 : decode b_HL_set 11 = .ok (.invokestatic 43, 3) := by decide +kernel
theorem d_HL_set_14 : decode b_HL_set 14 = .ok (.iload_n 1, 1) := by decide +kernel
theorem d_HL_set_15 : decode b_HL_set 15 = .ok (.ifCond .ne 14, 3) := by decide +kernel
theorem d_HL_set_18 : decode b_HL_set 18 = .ok (.aload_n 0, 1) := by decide +kernel
theorem d_HL_set_19 : decode b_HL_set 19 = .ok (.getfield 21, 3) := by decide +kernel
theorem d_HL_set_22 : decode b_HL_set 22 = .ok (.iload_n 2, 1) := by decide +kernel
theorem d_HL_set_23 : decode b_HL_set 23 = .ok (.invokevirtual 73, 3) := by decide +kernel
theorem d_HL_set_26 : decode b_HL_set 26 = .ok (.goto 11, 3) := by decide +kernel
theorem d_HL_set_29 : decode b_HL_set 29 = .ok (.aload_n 0, 1) := by decide +kernel
theorem d_HL_set_30 : decode b_HL_set 30 = .ok (.getfield 21, 3) := by decide +kernel
theorem d_HL_set_33 : decode b_HL_set 33 = .ok (.iload_n 2, 1) := by decide +kernel
theorem d_HL_set_34 : decode b_HL_set 34 = .ok (.invokevirtual 77, 3) := by decide +kernel
theorem d_HL_set_37 : decode b_HL_set 37 = .ok (.ireturn, 1) := by decide +kernel
theorem d_HL_loop_0 : decode b_HL_loop 0 = .ok (.aload_n 0, 1) := by decide +kernel
theorem d_HL_loop_1 : decode b_HL_loop 1 = .ok (.iload_n 1, 1) := by decide +kernel
theorem d_HL_loop_2 : decode b_HL_loop 2 = .ok (.invokevirtual 39, 3) := by decide +kernel
theorem d_HL_loop_5 : decode b_HL_loop 5 = .ok (.iload_n 2, 1) := by decide +kernel
theorem d_HL_loop_6 : decode b_HL_loop 6 = .ok (.iconst 0, 1) := by decide +kernel
theorem d_HL_loop_7 : decode b_HL_loop 7 = .ok (.sipush 500, 3) := by decide +kernel
theorem d_HL_loop_10 : decode b_HL_loop 10 = .ok (.invokestatic 43, 3) := by decide +kernel
theorem d_HL_loop_13 : decode b_HL_loop 13 = .ok (.aload_n 0, 1) := by decide +kernel
theorem d_HL_loop_14 : decode b_HL_loop 14 = .ok (.getfield 12, 3) := by decide +kernel
theorem d_HL_loop_17 : decode b_HL_loop 17 = .ok (.getfield 80, 3) := by decide +kernel
theorem d_HL_loop_20 : decode b_HL_loop 20 = .ok (.iload_n 1, 1) := by decide +kernel
theorem d_HL_loop_21 : decode b_HL_loop 21 = .ok (.iaload, 1) := by decide +kernel
theorem d_HL_loop_22 : decode b_HL_loop 22 = .ok (.istore_n 3, 1) := by decide +kernel
theorem d_HL_loop_23 : decode b_HL_loop 23 = .ok (.aload_n 0, 1) := by decide +kernel
theorem d_HL_loop_24 : decode b_HL_loop 24 = .ok (.getfield 12, 3) := by decide +kernel
theorem d_HL_loop_27 : decode b_HL_loop 27 = .ok (.getfield 80, 3) := by decide +kernel
theorem d_HL_loop_30 : decode b_HL_loop 30 = .ok (.iload_n 1, 1) := by decide +kernel
theorem d_HL_loop_31 : decode b_HL_loop 31 = .ok (.iload_n 2, 1) := by decide +kernel
theorem d_HL_loop_32 : decode b_HL_loop 32 = .ok (.iastore, 1) := by decide +kernel
theorem d_HL_loop_33 : decode b_HL_loop 33 = .ok (.iload_n 3, 1) := by decide +kernel
theorem d_HL_loop_34 : decode b_HL_loop 34 = .ok (.ireturn, 1) := by decide +kernel
theorem d_HL_draw_0 : decode b_HL_draw 0 = .ok (.aload_n 0, 1) := by decide +kernel
theorem d_HL_draw_1 : decode b_HL_draw 1 = .ok (.iload_n 1, 1) := by decide +kernel
theorem d_HL_draw_2 : decode b_HL_draw 2 = .ok (.invokevirtual 39, 3) := by decide +kernel
theorem d_HL_draw_5 : decode b_HL_draw 5 = .ok (.iload_n 2, 1) := by decide +kernel
theorem d_HL_draw_6 : decode b_HL_draw 6 = .ok (.iconst 0, 1) := by decide +kernel
theorem d_HL_draw_7 : decode b_HL_draw 7 = .ok (.sipush 2999, 3) := by decide +kernel
theorem d_HL_draw_10 : decode b_HL_draw 10 = .ok (.invokestatic 43, 3) := by decide +kernel
theorem d_HL_draw_13 : decode b_HL_draw 13 = .ok (.iload_n 3, 1) := by decide +kernel
theorem d_HL_draw_14 : decode b_HL_draw 14 = .ok (.iconst 1, 1) := by decide +kernel
theorem d_HL_draw_15 : decode b_HL_draw 15 = .ok (.sipush 1000, 3) := by decide +kernel
theorem d_HL_draw_18 : decode b_HL_draw 18 = .ok (.invokestatic 43, 3) := by decide +kernel
theorem d_HL_draw_21 : decode b_HL_draw 21 = .ok (.aload_n 0, 1) := by decide +kernel
theorem d_HL_draw_22 : decode b_HL_draw 22 = .ok (.getfield 12, 3) := by decide +kernel
theorem d_HL_draw_25 : decode b_HL_draw 25 = .ok (.getfield 70, 3) := by decide +kernel
theorem d_HL_draw_28 : decode b_HL_draw 28 = .ok (.iload_n 1, 1) := by decide +kernel
theorem d_HL_draw_29 : decode b_HL_draw 29 = .ok (.baload, 1) := by decide +kernel
theorem d_HL_draw_30 : decode b_HL_draw 30 = .ok (.ifCond .ne 13, 3) := by decide +kernel
theorem d_HL_draw_33 : decode b_HL_draw 33 = .ok (.new 51, 3) := by decide +kernel
theorem d_HL_draw_36 : decode b_HL_draw 36 = .ok (.dup, 1) := by decide +kernel
theorem d_HL_draw_37 : decode b_HL_draw 37 = .ok (.ldc 84, 2) := by decide +kernel
theorem d_HL_draw_39 : decode b_HL_draw 39 = .ok (.invokespecial 55, 3) := by decide +kernel
theorem d_HL_draw_42 : decode b_HL_draw 42 = .ok (.athrow, 1) := by decide +kernel
theorem d_HL_draw_43 : decode b_HL_draw 43 = .ok (.iload_n 2, 1) := by decide +kernel
theorem d_HL_draw_44 : decode b_HL_draw 44 = .ok (.aload_n 0, 1) := by decide +kernel
theorem d_HL_draw_45 : decode b_HL_draw 45 = .ok (.getfield 21, 3) := by decide +kernel
theorem d_HL_draw_48 : decode b_HL_draw 48 = .ok (.getfield 58, 3) := by decide +kernel
theorem d_HL_draw_51 : decode b_HL_draw 51 = .ok (.if_icmp .ge 13, 3) := by decide +kernel
theorem d_HL_draw_54 : decode b_HL_draw 54 = .ok (.new 51, 3) := by decide +kernel
theorem d_HL_draw_57 : decode b_HL_draw 57 = .ok (.dup, 1) := by decide +kernel
theorem d_HL_draw_58 : decode b_HL_draw 58 = .ok (.ldc 86, 2) := by decide +kernel
theorem d_HL_draw_60 : decode b_HL_draw 60 = .ok (.invokespecial 55, 3) := by decide +kernel
theorem d_HL_draw_63 : decode b_HL_draw 63 = .ok (.athrow, 1) := by decide +kernel
theorem d_HL_draw_64 : decode b_HL_draw 64 = .ok (.aload_n 0, 1) := by decide +kernel
theorem d_HL_draw_65 : decode b_HL_draw 65 = .ok (.getfield 31, 3) := by decide +kernel
theorem d_HL_draw_68 : decode b_HL_draw 68 = .ok (.getfield 88, 3) := by decide +kernel
theorem d_HL_draw_71 : decode b_HL_draw 71 = .ok (.bipush 60, 2) := by decide +kernel
theorem d_HL_draw_73 : decode b_HL_draw 73 = .ok (.if_icmp .lt 13, 3) := by decide +kernel
theorem d_HL_draw_76 : decode b_HL_draw 76 = .ok (.new 51, 3) := by decide +kernel
theorem d_HL_draw_79 : decode b_HL_draw 79 = .ok (.dup, 1) := by decide +kernel
theorem d_HL_draw_80 : decode b_HL_draw 80 = .ok (.ldc 89, 2) := by decide +kernel
theorem d_HL_draw_82 : decode b_HL_draw 82 = .ok (.invokespecial 55, 3) := by decide +kernel
theorem d_HL_draw_85 : decode b_HL_draw 85 = .ok (.athrow, 1) := by decide +kernel
theorem d_HL_draw_86 : decode b_HL_draw 86 = .ok (.aload_n 0, 1) := by decide +kernel
theorem d_HL_draw_87 : decode b_HL_draw 87 = .ok (.getfield 31, 3) := by decide +kernel
theorem d_HL_draw_90 : decode b_HL_draw 90 = .ok (.iload_n 1, 1) := by decide +kernel
theorem d_HL_draw_91 : decode b_HL_draw 91 = .ok (.iload_n 2, 1) := by decide +kernel
theorem d_HL_draw_92 : decode b_HL_draw 92 = .ok (.iload_n 3, 1) := by decide +kernel
theorem d_HL_draw_93 : decode b_HL_draw 93 = .ok (.invokevirtual 91, 3) := by decide +kernel
theorem d_HL_draw_96 : decode b_HL_draw 96 = .ok (.ireturn, 1) := by decide +kernel
theorem d_HL_run_0 : decode b_HL_run 0 = .ok (.iload_n 1, 1) := by decide +kernel
theorem d_HL_run_1 : decode b_HL_run 1 = .ok (.iconst 1, 1) := by decide +kernel
theorem d_HL_run_2 : decode b_HL_run 2 = .ok (.bipush 100, 2) := by decide +kernel
theorem d_HL_run_4 : decode b_HL_run 4 = .ok (.invokestatic 43, 3) := by decide +kernel
theorem d_HL_run_7 : decode b_HL_run 7 = .ok (.aload_n 0, 1) := by decide +kernel
theorem d_HL_run_8 : decode b_HL_run 8 = .ok (.getfield 21, 3) := by decide +kernel
theorem d_HL_run_11 : decode b_HL_run 11 = .ok (.getfield 58, 3) := by decide +kernel
theorem d_HL_run_14 : decode b_HL_run 14 = .ok (.iload_n 1, 1) := by decide +kernel
theorem d_HL_run_15 : decode b_HL_run 15 = .ok (.iadd, 1) := by decide +kernel
theorem d_HL_run_16 : decode b_HL_run 16 = .ok (.sipush 3000, 3) := by decide +kernel
theorem d_HL_run_19 : decode b_HL_run 19 = .ok (.if_icmp .le 13, 3) := by decide +kernel
theorem d_HL_run_22 : decode b_HL_run 22 = .ok (.new 51, 3) := by decide +kernel
theorem d_HL_run_25 : decode b_HL_run 25 = .ok (.dup, 1) := by decide +kernel
theorem d_HL_run_26 : decode b_HL_run 26 = .ok (.ldc 92, 2) := by decide +kernel
theorem d_HL_run_28 : decode b_HL_run 28 = .ok (.invokespecial 55, 3) := by decide +kernel
theorem d_HL_run_31 : decode b_HL_run 31 = .ok (.athrow, 1) := by decide +kernel
theorem d_HL_run_32 : decode b_HL_run 32 = .ok (.iconst 0, 1) := by decide +kernel
theorem d_HL_run_33 : decode b_HL_run 33 = .ok (.istore_n 2, 1) := by decide +kernel
theorem d_HL_run_34 : decode b_HL_run 34 = .ok (.iload_n 2, 1) := by decide +kernel
theorem d_HL_run_35 : decode b_HL_run 35 = .ok (.iload_n 1, 1) := by decide +kernel
theorem d_HL_run_36 : decode b_HL_run 36 = .ok (.if_icmp .ge 20, 3) := by decide +kernel
theorem d_HL_run_39 : decode b_HL_run 39 = .ok (.aload_n 0, 1) := by decide +kernel
theorem d_HL_run_40 : decode b_HL_run 40 = .ok (.invokevirtual 94, 3) := by decide +kernel
theorem d_HL_run_43 : decode b_HL_run 43 = .ok (.aload_n 0, 1) := by decide +kernel
theorem d_HL_run_44 : decode b_HL_run 44 = .ok (.getfield 21, 3) := by decide +kernel
theorem d_HL_run_47 : decode b_HL_run 47 = .ok (.invokevirtual 97, 3) := by decide +kernel
theorem d_HL_run_50 : decode b_HL_run 50 = .ok (.iinc 2 1, 3) := by decide +kernel
theorem d_HL_run_53 : decode b_HL_run 53 = .ok (.goto (-19), 3) := by decide +kernel
theorem d_HL_run_56 : decode b_HL_run 56 = .ok (.aload_n 0, 1) := by decide +kernel
theorem d_HL_run_57 : decode b_HL_run 57 = .ok (.getfield 21, 3) := by decide +kernel
theorem d_HL_run_60 : decode b_HL_run 60 = .ok (.getfield 58, 3) := by decide +kernel
theorem d_HL_run_63 : decode b_HL_run 63 = .ok (.ireturn, 1) := by decide +kernel
theorem d_HL_plug_0 : decode b_HL_plug 0 = .ok (.aload_n 0, 1) := by decide +kernel
theorem d_HL_plug_1 : decode b_HL_plug 1 = .ok (.iload_n 1, 1) := by decide +kernel
theorem d_HL_plug_2 : decode b_HL_plug 2 = .ok (.invokevirtual 39, 3) := by decide +kernel
theorem d_HL_plug_5 : decode b_HL_plug 5 = .ok (.iload_n 2, 1) := by decide +kernel
theorem d_HL_plug_6 : decode b_HL_plug 6 = .ok (.invokestatic 100, 3) := by decide +kernel
theorem d_HL_plug_9 : decode b_HL_plug 9 = .ok (.iload_n 3, 1) := by decide +kernel
theorem d_HL_plug_10 : decode b_HL_plug 10 = .ok (.iconst 0, 1) := by decide +kernel
theorem d_HL_plug_11 : decode b_HL_plug 11 = .ok (.iconst 1, 1) := by decide +kernel
theorem d_HL_plug_12 : decode b_HL_plug 12 = .ok (.invokestatic 43, 3) := by decide +kernel
theorem d_HL_plug_15 : decode b_HL_plug 15 = .ok (.aload_n 0, 1) := by decide +kernel
theorem d_HL_plug_16 : decode b_HL_plug 16 = .ok (.getfield 21, 3) := by decide +kernel
theorem d_HL_plug_19 : decode b_HL_plug 19 = .ok (.getfield 103, 3) := by decide +kernel
theorem d_HL_plug_22 : decode b_HL_plug 22 = .ok (.iload_n 1, 1) := by decide +kernel
theorem d_HL_plug_23 : decode b_HL_plug 23 = .ok (.aaload, 1) := by decide +kernel
theorem d_HL_plug_24 : decode b_HL_plug 24 = .ok (.astore 4, 2) := by decide +kernel
theorem d_HL_plug_26 : decode b_HL_plug 26 = .ok (.iload_n 2, 1) := by decide +kernel
theorem d_HL_plug_27 : decode b_HL_plug 27 = .ok (.aload 4, 2) := by decide +kernel
theorem d_HL_plug_29 : decode b_HL_plug 29 = .ok (.getfield 107, 3) := by decide +kernel
theorem d_HL_plug_32 : decode b_HL_plug 32 = .ok (.if_icmp .lt 5, 3) := by decide +kernel
theorem d_HL_plug_35 : decode b_HL_plug 35 = .ok (.iconst (-1), 1) := by decide +kernel
theorem d_HL_plug_36 : decode b_HL_plug 36 = .ok (.ireturn, 1) := by decide +kernel
theorem d_HL_plug_37 : decode b_HL_plug 37 = .ok (.iload_n 3, 1) := by decide +kernel
theorem d_HL_plug_38 : decode b_HL_plug 38 = .ok (.ifCond .ne 13, 3) := by decide +kernel
theorem d_HL_plug_41 : decode b_HL_plug 41 = .ok (.aload 4, 2) := by decide +kernel
theorem d_HL_plug_43 : decode b_HL_plug 43 = .ok (.getfield 110, 3) := by decide +kernel
theorem d_HL_plug_46 : decode b_HL_plug 46 = .ok (.iload_n 2, 1) := by decide +kernel
theorem d_HL_plug_47 : decode b_HL_plug 47 = .ok (.iaload, 1) := by decide +kernel
theorem d_HL_plug_48 : decode b_HL_plug 48 = .ok (.goto 10, 3) := by decide +kernel
theorem d_HL_plug_51 : decode b_HL_plug 51 = .ok (.aload 4, 2) := by decide +kernel
theorem d_HL_plug_53 : decode b_HL_plug 53 = .ok (.getfield 113, 3) := by decide +kernel
theorem d_HL_plug_56 : decode b_HL_plug 56 = .ok (.iload_n 2, 1) := by decide +kernel
theorem d_HL_plug_57 : decode b_HL_plug 57 = .ok (.iaload, 1) := by decide +kernel
theorem d_HL_plug_58 : decode b_HL_plug 58 = .ok (.ireturn, 1) := by decide +kernel
theorem d_HL_told_0 : decode b_HL_told 0 = .ok (.aload_n 0, 1) := by decide +kernel
theorem d_HL_told_1 : decode b_HL_told 1 = .ok (.iload_n 1, 1) := by decide +kernel
theorem d_HL_told_2 : decode b_HL_told 2 = .ok (.invokevirtual 39, 3) := by decide +kernel
theorem d_HL_told_5 : decode b_HL_told 5 = .ok (.iload_n 2, 1) := by decide +kernel
theorem d_HL_told_6 : decode b_HL_told 6 = .ok (.iconst 0, 1) := by decide +kernel
theorem d_HL_told_7 : decode b_HL_told 7 = .ok (.iconst 3, 1) := by decide +kernel
theorem d_HL_told_8 : decode b_HL_told 8 = .ok (.invokestatic 43, 3) := by decide +kernel
theorem d_HL_told_11 : decode b_HL_told 11 = .ok (.iload_n 2, 1) := by decide +kernel
theorem d_HL_told_12 : decode b_HL_told 12 = .ok (.tableswitch 63 0 2 #[28, 41, 54], 28) := by decide +kernel
theorem d_HL_told_40 : decode b_HL_told 40 = .ok (.aload_n 0, 1) := by decide +kernel
theorem d_HL_told_41 : decode b_HL_told 41 = .ok (.getfield 21, 3) := by decide +kernel
theorem d_HL_told_44 : decode b_HL_told 44 = .ok (.getfield 103, 3) := by decide +kernel
theorem d_HL_told_47 : decode b_HL_told 47 = .ok (.iload_n 1, 1) := by decide +kernel
theorem d_HL_told_48 : decode b_HL_told 48 = .ok (.aaload, 1) := by decide +kernel
theorem d_HL_told_49 : decode b_HL_told 49 = .ok (.invokevirtual 116, 3) := by decide +kernel
theorem d_HL_told_52 : decode b_HL_told 52 = .ok (.ireturn, 1) := by decide +kernel
theorem d_HL_told_53 : decode b_HL_told 53 = .ok (.aload_n 0, 1) := by decide +kernel
theorem d_HL_told_54 : decode b_HL_told 54 = .ok (.getfield 21, 3) := by decide +kernel
theorem d_HL_told_57 : decode b_HL_told 57 = .ok (.getfield 103, 3) := by decide +kernel
theorem d_HL_told_60 : decode b_HL_told 60 = .ok (.iload_n 1, 1) := by decide +kernel
theorem d_HL_told_61 : decode b_HL_told 61 = .ok (.aaload, 1) := by decide +kernel
theorem d_HL_told_62 : decode b_HL_told 62 = .ok (.invokevirtual 120, 3) := by decide +kernel
theorem d_HL_told_65 : decode b_HL_told 65 = .ok (.ireturn, 1) := by decide +kernel
theorem d_HL_told_66 : decode b_HL_told 66 = .ok (.aload_n 0, 1) := by decide +kernel
theorem d_HL_told_67 : decode b_HL_told 67 = .ok (.getfield 21, 3) := by decide +kernel
theorem d_HL_told_70 : decode b_HL_told 70 = .ok (.iload_n 1, 1) := by decide +kernel
theorem d_HL_told_71 : decode b_HL_told 71 = .ok (.invokevirtual 123, 3) := by decide +kernel
theorem d_HL_told_74 : decode b_HL_told 74 = .ok (.ireturn, 1) := by decide +kernel
theorem d_HL_told_75 : decode b_HL_told 75 = .ok (.aload_n 0, 1) := by decide +kernel
theorem d_HL_told_76 : decode b_HL_told 76 = .ok (.getfield 21, 3) := by decide +kernel
theorem d_HL_told_79 : decode b_HL_told 79 = .ok (.getfield 126, 3) := by decide +kernel
theorem d_HL_told_82 : decode b_HL_told 82 = .ok (.iload_n 1, 1) := by decide +kernel
theorem d_HL_told_83 : decode b_HL_told 83 = .ok (.iaload, 1) := by decide +kernel
theorem d_HL_told_84 : decode b_HL_told 84 = .ok (.ireturn, 1) := by decide +kernel
theorem d_HL_dead_0 : decode b_HL_dead 0 = .ok (.iload_n 1, 1) := by decide +kernel
theorem d_HL_dead_1 : decode b_HL_dead 1 = .ok (.invokestatic 100, 3) := by decide +kernel
theorem d_HL_dead_4 : decode b_HL_dead 4 = .ok (.iload_n 2, 1) := by decide +kernel
theorem d_HL_dead_5 : decode b_HL_dead 5 = .ok (.invokestatic 100, 3) := by decide +kernel
theorem d_HL_dead_8 : decode b_HL_dead 8 = .ok (.iconst 0, 1) := by decide +kernel
theorem d_HL_dead_9 : decode b_HL_dead 9 = .ok (.istore_n 3, 1) := by decide +kernel
theorem d_HL_dead_10 : decode b_HL_dead 10 = .ok (.iload_n 3, 1) := by decide +kernel
theorem d_HL_dead_11 : decode b_HL_dead 11 = .ok (.aload_n 0, 1) := by decide +kernel
theorem d_HL_dead_12 : decode b_HL_dead 12 = .ok (.getfield 12, 3) := by decide +kernel
theorem d_HL_dead_15 : decode b_HL_dead 15 = .ok (.getfield 47, 3) := by decide +kernel
theorem d_HL_dead_18 : decode b_HL_dead 18 = .ok (.if_icmp .ge 24, 3) := by decide +kernel
theorem d_HL_dead_21 : decode b_HL_dead 21 = .ok (.aload_n 0, 1) := by decide +kernel
theorem d_HL_dead_22 : decode b_HL_dead 22 = .ok (.getfield 35, 3) := by decide +kernel
theorem d_HL_dead_25 : decode b_HL_dead 25 = .ok (.iload_n 3, 1) := by decide +kernel
theorem d_HL_dead_26 : decode b_HL_dead 26 = .ok (.aload_n 0, 1) := by decide +kernel
theorem d_HL_dead_27 : decode b_HL_dead 27 = .ok (.getfield 21, 3) := by decide +kernel
theorem d_HL_dead_30 : decode b_HL_dead 30 = .ok (.iload_n 3, 1) := by decide +kernel
theorem d_HL_dead_31 : decode b_HL_dead 31 = .ok (.iload_n 1, 1) := by decide +kernel
theorem d_HL_dead_32 : decode b_HL_dead 32 = .ok (.invokevirtual 129, 3) := by decide +kernel
theorem d_HL_dead_35 : decode b_HL_dead 35 = .ok (.bastore, 1) := by decide +kernel
theorem d_HL_dead_36 : decode b_HL_dead 36 = .ok (.iinc 3 1, 3) := by decide +kernel
theorem d_HL_dead_39 : decode b_HL_dead 39 = .ok (.goto (-29), 3) := by decide +kernel
theorem d_HL_dead_42 : decode b_HL_dead 42 = .ok (.aload_n 0, 1) := by decide +kernel
theorem d_HL_dead_43 : decode b_HL_dead 43 = .ok (.iload_n 2, 1) := by decide +kernel
theorem d_HL_dead_44 : decode b_HL_dead 44 = .ok (.invokevirtual 133, 3) := by decide +kernel
theorem d_HL_dead_47 : decode b_HL_dead 47 = .ok (.ireturn, 1) := by decide +kernel
theorem d_HL_warm_0 : decode b_HL_warm 0 = .ok (.aload_n 0, 1) := by decide +kernel
theorem d_HL_warm_1 : decode b_HL_warm 1 = .ok (.iload_n 1, 1) := by decide +kernel
theorem d_HL_warm_2 : decode b_HL_warm 2 = .ok (.invokevirtual 39, 3) := by decide +kernel
theorem d_HL_warm_5 : decode b_HL_warm 5 = .ok (.iload_n 2, 1) := by decide +kernel
theorem d_HL_warm_6 : decode b_HL_warm 6 = .ok (.iconst 0, 1) := by decide +kernel
theorem d_HL_warm_7 : decode b_HL_warm 7 = .ok (.sipush 10000, 3) := by decide +kernel
theorem d_HL_warm_10 : decode b_HL_warm 10 = .ok (.invokestatic 43, 3) := by decide +kernel
theorem d_HL_warm_13 : decode b_HL_warm 13 = .ok (.aload_n 0, 1) := by decide +kernel
theorem d_HL_warm_14 : decode b_HL_warm 14 = .ok (.getfield 21, 3) := by decide +kernel
theorem d_HL_warm_17 : decode b_HL_warm 17 = .ok (.iload_n 1, 1) := by decide +kernel
theorem d_HL_warm_18 : decode b_HL_warm 18 = .ok (.iload_n 2, 1) := by decide +kernel
theorem d_HL_warm_19 : decode b_HL_warm 19 = .ok (.invokevirtual 136, 3) := by decide +kernel
theorem d_HL_warm_22 : decode b_HL_warm 22 = .ok (.ireturn, 1) := by decide +kernel
theorem d_HL_drawn_0 : decode b_HL_drawn 0 = .ok (.iload_n 1, 1) := by decide +kernel
theorem d_HL_drawn_1 : decode b_HL_drawn 1 = .ok (.iconst 0, 1) := by decide +kernel
theorem d_HL_drawn_2 : decode b_HL_drawn 2 = .ok (.aload_n 0, 1) := by decide +kernel
theorem d_HL_drawn_3 : decode b_HL_drawn 3 = .ok (.getfield 31, 3) := by decide +kernel
theorem d_HL_drawn_6 : decode b_HL_drawn 6 = .ok (.getfield 88, 3) := by decide +kernel
theorem d_HL_drawn_9 : decode b_HL_drawn 9 = .ok (.iconst 1, 1) := by decide +kernel
theorem d_HL_drawn_10 : decode b_HL_drawn 10 = .ok (.isub, 1) := by decide +kernel
theorem d_HL_drawn_11 : decode b_HL_drawn 11 = .ok (.invokestatic 43, 3) := by decide +kernel
theorem d_HL_drawn_14 : decode b_HL_drawn 14 = .ok (.iload_n 2, 1) := by decide +kernel
theorem d_HL_drawn_15 : decode b_HL_drawn 15 = .ok (.iconst 0, 1) := by decide +kernel
theorem d_HL_drawn_16 : decode b_HL_drawn 16 = .ok (.iconst 2, 1) := by decide +kernel
theorem d_HL_drawn_17 : decode b_HL_drawn 17 = .ok (.invokestatic 43, 3) := by decide +kernel
theorem d_HL_drawn_20 : decode b_HL_drawn 20 = .ok (.aload_n 0, 1) := by decide +kernel
theorem d_HL_drawn_21 : decode b_HL_drawn 21 = .ok (.getfield 31, 3) := by decide +kernel
theorem d_HL_drawn_24 : decode b_HL_drawn 24 = .ok (.getfield 140, 3) := by decide +kernel
theorem d_HL_drawn_27 : decode b_HL_drawn 27 = .ok (.iload_n 1, 1) := by decide +kernel
theorem d_HL_drawn_28 : decode b_HL_drawn 28 = .ok (.iaload, 1) := by decide +kernel
theorem d_HL_drawn_29 : decode b_HL_drawn 29 = .ok (.aload_n 0, 1) := by decide +kernel
theorem d_HL_drawn_30 : decode b_HL_drawn 30 = .ok (.getfield 21, 3) := by decide +kernel
theorem d_HL_drawn_33 : decode b_HL_drawn 33 = .ok (.getfield 58, 3) := by decide +kernel
theorem d_HL_drawn_36 : decode b_HL_drawn 36 = .ok (.if_icmp .lt 5, 3) := by decide +kernel
theorem d_HL_drawn_39 : decode b_HL_drawn 39 = .ok (.iconst (-1), 1) := by decide +kernel
theorem d_HL_drawn_40 : decode b_HL_drawn 40 = .ok (.ireturn, 1) := by decide +kernel
theorem d_HL_drawn_41 : decode b_HL_drawn 41 = .ok (.iload_n 2, 1) := by decide +kernel
theorem d_HL_drawn_42 : decode b_HL_drawn 42 = .ok (.lookupswitch 46 #[(0, 26), (1, 36)], 26) := by decide +kernel
theorem d_HL_drawn_68 : decode b_HL_drawn 68 = .ok (.aload_n 0, 1) := by decide +kernel
theorem d_HL_drawn_69 : decode b_HL_drawn 69 = .ok (.getfield 31, 3) := by decide +kernel
theorem d_HL_drawn_72 : decode b_HL_drawn 72 = .ok (.getfield 143, 3) := by decide +kernel
theorem d_HL_drawn_75 : decode b_HL_drawn 75 = .ok (.iload_n 1, 1) := by decide +kernel
theorem d_HL_drawn_76 : decode b_HL_drawn 76 = .ok (.iaload, 1) := by decide +kernel
theorem d_HL_drawn_77 : decode b_HL_drawn 77 = .ok (.ireturn, 1) := by decide +kernel
theorem d_HL_drawn_78 : decode b_HL_drawn 78 = .ok (.aload_n 0, 1) := by decide +kernel
theorem d_HL_drawn_79 : decode b_HL_drawn 79 = .ok (.getfield 31, 3) := by decide +kernel
theorem d_HL_drawn_82 : decode b_HL_drawn 82 = .ok (.getfield 146, 3) := by decide +kernel
theorem d_HL_drawn_85 : decode b_HL_drawn 85 = .ok (.iload_n 1, 1) := by decide +kernel
theorem d_HL_drawn_86 : decode b_HL_drawn 86 = .ok (.iaload, 1) := by decide +kernel
theorem d_HL_drawn_87 : decode b_HL_drawn 87 = .ok (.ireturn, 1) := by decide +kernel
theorem d_HL_drawn_88 : decode b_HL_drawn 88 = .ok (.aload_n 0, 1) := by decide +kernel
theorem d_HL_drawn_89 : decode b_HL_drawn 89 = .ok (.getfield 31, 3) := by decide +kernel
theorem d_HL_drawn_92 : decode b_HL_drawn 92 = .ok (.getfield 149, 3) := by decide +kernel
theorem d_HL_drawn_95 : decode b_HL_drawn 95 = .ok (.iload_n 1, 1) := by decide +kernel
theorem d_HL_drawn_96 : decode b_HL_drawn 96 = .ok (.iaload, 1) := by decide +kernel
theorem d_HL_drawn_97 : decode b_HL_drawn 97 = .ok (.ireturn, 1) := by decide +kernel
theorem d_HL_heat_0 : decode b_HL_heat 0 = .ok (.iload_n 1, 1) := by decide +kernel
theorem d_HL_heat_1 : decode b_HL_heat 1 = .ok (.iconst 0, 1) := by decide +kernel
theorem d_HL_heat_2 : decode b_HL_heat 2 = .ok (.iconst 3, 1) := by decide +kernel
theorem d_HL_heat_3 : decode b_HL_heat 3 = .ok (.invokestatic 43, 3) := by decide +kernel
theorem d_HL_heat_6 : decode b_HL_heat 6 = .ok (.iload_n 1, 1) := by decide +kernel
theorem d_HL_heat_7 : decode b_HL_heat 7 = .ok (.tableswitch 49 0 2 #[25, 33, 41], 25) := by decide +kernel
theorem d_HL_heat_32 : decode b_HL_heat 32 = .ok (.aload_n 0, 1) := by decide +kernel
theorem d_HL_heat_33 : decode b_HL_heat 33 = .ok (.getfield 21, 3) := by decide +kernel
theorem d_HL_heat_36 : decode b_HL_heat 36 = .ok (.invokevirtual 152, 3) := by decide +kernel
theorem d_HL_heat_39 : decode b_HL_heat 39 = .ok (.lreturn, 1) := by decide +kernel
theorem d_HL_heat_40 : decode b_HL_heat 40 = .ok (.aload_n 0, 1) := by decide +kernel
theorem d_HL_heat_41 : decode b_HL_heat 41 = .ok (.getfield 21, 3) := by decide +kernel
theorem d_HL_heat_44 : decode b_HL_heat 44 = .ok (.getfield 156, 3) := by decide +kernel
theorem d_HL_heat_47 : decode b_HL_heat 47 = .ok (.lreturn, 1) := by decide +kernel
theorem d_HL_heat_48 : decode b_HL_heat 48 = .ok (.aload_n 0, 1) := by decide +kernel
theorem d_HL_heat_49 : decode b_HL_heat 49 = .ok (.getfield 21, 3) := by decide +kernel
theorem d_HL_heat_52 : decode b_HL_heat 52 = .ok (.getfield 160, 3) := by decide +kernel
theorem d_HL_heat_55 : decode b_HL_heat 55 = .ok (.lreturn, 1) := by decide +kernel
theorem d_HL_heat_56 : decode b_HL_heat 56 = .ok (.aload_n 0, 1) := by decide +kernel
theorem d_HL_heat_57 : decode b_HL_heat 57 = .ok (.getfield 21, 3) := by decide +kernel
theorem d_HL_heat_60 : decode b_HL_heat 60 = .ok (.getfield 163, 3) := by decide +kernel
theorem d_HL_heat_63 : decode b_HL_heat 63 = .ok (.lreturn, 1) := by decide +kernel
theorem d_HL_shock_0 : decode b_HL_shock 0 = .ok (.iload_n 1, 1) := by decide +kernel
theorem d_HL_shock_1 : decode b_HL_shock 1 = .ok (.iconst 0, 1) := by decide +kernel
theorem d_HL_shock_2 : decode b_HL_shock 2 = .ok (.sipush 10000, 3) := by decide +kernel
theorem d_HL_shock_5 : decode b_HL_shock 5 = .ok (.invokestatic 43, 3) := by decide +kernel
theorem d_HL_shock_8 : decode b_HL_shock 8 = .ok (.iload_n 2, 1) := by decide +kernel
theorem d_HL_shock_9 : decode b_HL_shock 9 = .ok (.iconst 1, 1) := by decide +kernel
theorem d_HL_shock_10 : decode b_HL_shock 10 = .ok (.bipush 100, 2) := by decide +kernel
theorem d_HL_shock_12 : decode b_HL_shock 12 = .ok (.invokestatic 43, 3) := by decide +kernel
theorem d_HL_shock_15 : decode b_HL_shock 15 = .ok (.iload_n 3, 1) := by decide +kernel
theorem d_HL_shock_16 : decode b_HL_shock 16 = .ok (.iconst 1, 1) := by decide +kernel
theorem d_HL_shock_17 : decode b_HL_shock 17 = .ok (.bipush 30, 2) := by decide +kernel
theorem d_HL_shock_19 : decode b_HL_shock 19 = .ok (.invokestatic 43, 3) := by decide +kernel
theorem d_HL_shock_22 : decode b_HL_shock 22 = .ok (.iload 4, 2) := by decide +kernel
theorem d_HL_shock_24 : decode b_HL_shock 24 = .ok (.iconst 0, 1) := by decide +kernel
theorem d_HL_shock_25 : decode b_HL_shock 25 = .ok (.sipush 10000, 3) := by decide +kernel
theorem d_HL_shock_28 : decode b_HL_shock 28 = .ok (.invokestatic 43, 3) := by decide +kernel
theorem d_HL_shock_31 : decode b_HL_shock 31 = .ok (.iload 5, 2) := by decide +kernel
theorem d_HL_shock_33 : decode b_HL_shock 33 = .ok (.invokestatic 100, 3) := by decide +kernel
theorem d_HL_shock_36 : decode b_HL_shock 36 = .ok (.aload_n 0, 1) := by decide +kernel
theorem d_HL_shock_37 : decode b_HL_shock 37 = .ok (.iload_n 1, 1) := by decide +kernel
theorem d_HL_shock_38 : decode b_HL_shock 38 = .ok (.iload_n 2, 1) := by decide +kernel
theorem d_HL_shock_39 : decode b_HL_shock 39 = .ok (.iload_n 3, 1) := by decide +kernel
theorem d_HL_shock_40 : decode b_HL_shock 40 = .ok (.iload 4, 2) := by decide +kernel
theorem d_HL_shock_42 : decode b_HL_shock 42 = .ok (.invokevirtual 166, 3) := by decide +kernel
theorem d_HL_shock_45 : decode b_HL_shock 45 = .ok (.aload_n 0, 1) := by decide +kernel
theorem d_HL_shock_46 : decode b_HL_shock 46 = .ok (.iload 5, 2) := by decide +kernel
theorem d_HL_shock_48 : decode b_HL_shock 48 = .ok (.invokevirtual 133, 3) := by decide +kernel
theorem d_HL_shock_51 : decode b_HL_shock 51 = .ok (.ireturn, 1) := by decide +kernel
theorem d_HL_needPipe_0 : decode b_HL_needPipe 0 = .ok (.iload_n 1, 1) := by decide +kernel
theorem d_HL_needPipe_1 : decode b_HL_needPipe 1 = .ok (.ifCond .lt 14, 3) := by decide +kernel
theorem d_HL_needPipe_4 : decode b_HL_needPipe 4 = .ok (.iload_n 1, 1) := by decide +kernel
theorem d_HL_needPipe_5 : decode b_HL_needPipe 5 = .ok (.aload_n 0, 1) := by decide +kernel
theorem d_HL_needPipe_6 : decode b_HL_needPipe 6 = .ok (.getfield 12, 3) := by decide +kernel
theorem d_HL_needPipe_9 : decode b_HL_needPipe 9 = .ok (.getfield 47, 3) := by decide +kernel
theorem d_HL_needPipe_12 : decode b_HL_needPipe 12 = .ok (.if_icmp .lt 13, 3) := by decide +kernel
theorem d_HL_needPipe_15 : decode b_HL_needPipe 15 = .ok (.new 170, 3) := by decide +kernel
theorem d_HL_needPipe_18 : decode b_HL_needPipe 18 = .ok (.dup, 1) := by decide +kernel
theorem d_HL_needPipe_19 : decode b_HL_needPipe 19 = .ok (.ldc 172, 2) := by decide +kernel
theorem d_HL_needPipe_21 : decode b_HL_needPipe 21 = .ok (.invokespecial 174, 3) := by decide +kernel
theorem d_HL_needPipe_24 : decode b_HL_needPipe 24 = .ok (.athrow, 1) := by decide +kernel
theorem d_HL_needPipe_25 : decode b_HL_needPipe 25 = .ok (.return_, 1) := by decide +kernel
theorem d_HL_needWithin_0 : decode b_HL_needWithin 0 = .ok (.iload_n 0, 1) := by decide +kernel
theorem d_HL_needWithin_1 : decode b_HL_needWithin 1 = .ok (.iload_n 1, 1) := by decide +kernel
theorem d_HL_needWithin_2 : decode b_HL_needWithin 2 = .ok (.if_icmp .lt 8, 3) := by decide +kernel
theorem d_HL_needWithin_5 : decode b_HL_needWithin 5 = .ok (.iload_n 0, 1) := by decide +kernel
theorem d_HL_needWithin_6 : decode b_HL_needWithin 6 = .ok (.iload_n 2, 1) := by decide +kernel
theorem d_HL_needWithin_7 : decode b_HL_needWithin 7 = .ok (.if_icmp .le 13, 3) := by decide +kernel
theorem d_HL_needWithin_10 : decode b_HL_needWithin 10 = .ok (.new 170, 3) := by decide +kernel
theorem d_HL_needWithin_13 : decode b_HL_needWithin 13 = .ok (.dup, 1) := by decide +kernel
theorem d_HL_needWithin_14 : decode b_HL_needWithin 14 = .ok (.ldc 175, 2) := by decide +kernel
theorem d_HL_needWithin_16 : decode b_HL_needWithin 16 = .ok (.invokespecial 174, 3) := by decide +kernel
theorem d_HL_needWithin_19 : decode b_HL_needWithin 19 = .ok (.athrow, 1) := by decide +kernel
theorem d_HL_needWithin_20 : decode b_HL_needWithin 20 = .ok (.return_, 1) := by decide +kernel
theorem d_HL_needNotBelowZero_0 : decode b_HL_needNotBelowZero 0 = .ok (.iload_n 0, 1) := by decide +kernel
theorem d_HL_needNotBelowZero_1 : decode b_HL_needNotBelowZero 1 = .ok (.ifCond .ge 13, 3) := by decide +kernel
theorem d_HL_needNotBelowZero_4 : decode b_HL_needNotBelowZero 4 = .ok (.new 170, 3) := by decide +kernel
theorem d_HL_needNotBelowZero_7 : decode b_HL_needNotBelowZero 7 = .ok (.dup, 1) := by decide +kernel
theorem d_HL_needNotBelowZero_8 : decode b_HL_needNotBelowZero 8 = .ok (.ldc 177, 2) := by decide +kernel
theorem d_HL_needNotBelowZero_10 : decode b_HL_needNotBelowZero 10 = .ok (.invokespecial 174, 3) := by decide +kernel
theorem d_HL_needNotBelowZero_13 : decode b_HL_needNotBelowZero 13 = .ok (.athrow, 1) := by decide +kernel
theorem d_HL_needNotBelowZero_14 : decode b_HL_needNotBelowZero 14 = .ok (.return_, 1) := by decide +kernel
theorem d_HL_takeDraws_0 : decode b_HL_takeDraws 0 = .ok (.iconst 0, 1) := by decide +kernel
theorem d_HL_takeDraws_1 : decode b_HL_takeDraws 1 = .ok (.istore_n 1, 1) := by decide +kernel
theorem d_HL_takeDraws_2 : decode b_HL_takeDraws 2 = .ok (.iload_n 1, 1) := by decide +kernel
theorem d_HL_takeDraws_3 : decode b_HL_takeDraws 3 = .ok (.aload_n 0, 1) := by decide +kernel
theorem d_HL_takeDraws_4 : decode b_HL_takeDraws 4 = .ok (.getfield 31, 3) := by decide +kernel
theorem d_HL_takeDraws_7 : decode b_HL_takeDraws 7 = .ok (.getfield 88, 3) := by decide +kernel
theorem d_HL_takeDraws_10 : decode b_HL_takeDraws 10 = .ok (.if_icmp .ge 68, 3) := by decide +kernel
theorem d_HL_takeDraws_13 : decode b_HL_takeDraws 13 = .ok (.aload_n 0, 1) := by decide +kernel
theorem d_HL_takeDraws_14 : decode b_HL_takeDraws 14 = .ok (.getfield 31, 3) := by decide +kernel
theorem d_HL_takeDraws_17 : decode b_HL_takeDraws 17 = .ok (.getfield 140, 3) := by decide +kernel
theorem d_HL_takeDraws_20 : decode b_HL_takeDraws 20 = .ok (.iload_n 1, 1) := by decide +kernel
theorem d_HL_takeDraws_21 : decode b_HL_takeDraws 21 = .ok (.iaload, 1) := by decide +kernel
theorem d_HL_takeDraws_22 : decode b_HL_takeDraws 22 = .ok (.aload_n 0, 1) := by decide +kernel
theorem d_HL_takeDraws_23 : decode b_HL_takeDraws 23 = .ok (.getfield 21, 3) := by decide +kernel
theorem d_HL_takeDraws_26 : decode b_HL_takeDraws 26 = .ok (.getfield 58, 3) := by decide +kernel
theorem d_HL_takeDraws_29 : decode b_HL_takeDraws 29 = .ok (.if_icmp .ne 43, 3) := by decide +kernel
theorem d_HL_takeDraws_32 : decode b_HL_takeDraws 32 = .ok (.aload_n 0, 1) := by decide +kernel
theorem d_HL_takeDraws_33 : decode b_HL_takeDraws 33 = .ok (.getfield 21, 3) := by decide +kernel
theorem d_HL_takeDraws_36 : decode b_HL_takeDraws 36 = .ok (.aload_n 0, 1) := by decide +kernel
theorem d_HL_takeDraws_37 : decode b_HL_takeDraws 37 = .ok (.getfield 31, 3) := by decide +kernel
theorem d_HL_takeDraws_40 : decode b_HL_takeDraws 40 = .ok (.getfield 179, 3) := by decide +kernel
theorem d_HL_takeDraws_43 : decode b_HL_takeDraws 43 = .ok (.iload_n 1, 1) := by decide +kernel
theorem d_HL_takeDraws_44 : decode b_HL_takeDraws 44 = .ok (.iaload, 1) := by decide +kernel
theorem d_HL_takeDraws_45 : decode b_HL_takeDraws 45 = .ok (.aload_n 0, 1) := by decide +kernel
theorem d_HL_takeDraws_46 : decode b_HL_takeDraws 46 = .ok (.getfield 31, 3) := by decide +kernel
theorem d_HL_takeDraws_49 : decode b_HL_takeDraws 49 = .ok (.getfield 182, 3) := by decide +kernel
theorem d_HL_takeDraws_52 : decode b_HL_takeDraws 52 = .ok (.iload_n 1, 1) := by decide +kernel
theorem d_HL_takeDraws_53 : decode b_HL_takeDraws 53 = .ok (.iaload, 1) := by decide +kernel
theorem d_HL_takeDraws_54 : decode b_HL_takeDraws 54 = .ok (.invokevirtual 183, 3) := by decide +kernel
theorem d_HL_takeDraws_57 : decode b_HL_takeDraws 57 = .ok (.aload_n 0, 1) := by decide +kernel
theorem d_HL_takeDraws_58 : decode b_HL_takeDraws 58 = .ok (.getfield 31, 3) := by decide +kernel
theorem d_HL_takeDraws_61 : decode b_HL_takeDraws 61 = .ok (.iload_n 1, 1) := by decide +kernel
theorem d_HL_takeDraws_62 : decode b_HL_takeDraws 62 = .ok (.aload_n 0, 1) := by decide +kernel
theorem d_HL_takeDraws_63 : decode b_HL_takeDraws 63 = .ok (.getfield 21, 3) := by decide +kernel
theorem d_HL_takeDraws_66 : decode b_HL_takeDraws 66 = .ok (.getfield 187, 3) := by decide +kernel
theorem d_HL_takeDraws_69 : decode b_HL_takeDraws 69 = .ok (.invokevirtual 191, 3) := by decide +kernel
theorem d_HL_takeDraws_72 : decode b_HL_takeDraws 72 = .ok (.iinc 1 1, 3) := by decide +kernel
theorem d_HL_takeDraws_75 : decode b_HL_takeDraws 75 = .ok (.goto (-73), 3) := by decide +kernel
theorem d_HL_takeDraws_78 : decode b_HL_takeDraws 78 = .ok (.return_, 1) := by decide +kernel
theorem d_HL_markMissed_0 : decode b_HL_markMissed 0 = .ok (.aload_n 0, 1) := by decide +kernel
theorem d_HL_markMissed_1 : decode b_HL_markMissed 1 = .ok (.getfield 25, 3) := by decide +kernel
theorem d_HL_markMissed_4 : decode b_HL_markMissed 4 = .ok (.aload_n 0, 1) := by decide +kernel
theorem d_HL_markMissed_5 : decode b_HL_markMissed 5 = .ok (.getfield 21, 3) := by decide +kernel
theorem d_HL_markMissed_8 : decode b_HL_markMissed 8 = .ok (.invokevirtual 195, 3) := by decide +kernel
theorem d_HL_markMissed_11 : decode b_HL_markMissed 11 = .ok (.aload_n 0, 1) := by decide +kernel
theorem d_HL_markMissed_12 : decode b_HL_markMissed 12 = .ok (.getfield 25, 3) := by decide +kernel
theorem d_HL_markMissed_15 : decode b_HL_markMissed 15 = .ok (.iload_n 1, 1) := by decide +kernel
theorem d_HL_markMissed_16 : decode b_HL_markMissed 16 = .ok (.invokevirtual 73, 3) := by decide +kernel
theorem d_HL_markMissed_19 : decode b_HL_markMissed 19 = .ok (.pop, 1) := by decide +kernel
theorem d_HL_markMissed_20 : decode b_HL_markMissed 20 = .ok (.iconst 0, 1) := by decide +kernel
theorem d_HL_markMissed_21 : decode b_HL_markMissed 21 = .ok (.istore 5, 2) := by decide +kernel
theorem d_HL_markMissed_23 : decode b_HL_markMissed 23 = .ok (.iload 5, 2) := by decide +kernel
theorem d_HL_markMissed_25 : decode b_HL_markMissed 25 = .ok (.aload_n 0, 1) := by decide +kernel
theorem d_HL_markMissed_26 : decode b_HL_markMissed 26 = .ok (.getfield 12, 3) := by decide +kernel
theorem d_HL_markMissed_29 : decode b_HL_markMissed 29 = .ok (.getfield 47, 3) := by decide +kernel
theorem d_HL_markMissed_32 : decode b_HL_markMissed 32 = .ok (.if_icmp .ge 26, 3) := by decide +kernel
theorem d_HL_markMissed_35 : decode b_HL_markMissed 35 = .ok (.aload_n 0, 1) := by decide +kernel
theorem d_HL_markMissed_36 : decode b_HL_markMissed 36 = .ok (.getfield 35, 3) := by decide +kernel
theorem d_HL_markMissed_39 : decode b_HL_markMissed 39 = .ok (.iload 5, 2) := by decide +kernel
theorem d_HL_markMissed_41 : decode b_HL_markMissed 41 = .ok (.aload_n 0, 1) := by decide +kernel
theorem d_HL_markMissed_42 : decode b_HL_markMissed 42 = .ok (.getfield 12, 3) := by decide +kernel
theorem d_HL_markMissed_45 : decode b_HL_markMissed 45 = .ok (.getfield 70, 3) := by decide +kernel
theorem d_HL_markMissed_48 : decode b_HL_markMissed 48 = .ok (.iload 5, 2) := by decide +kernel
theorem d_HL_markMissed_50 : decode b_HL_markMissed 50 = .ok (.baload, 1) := by decide +kernel
theorem d_HL_markMissed_51 : decode b_HL_markMissed 51 = .ok (.bastore, 1) := by decide +kernel
theorem d_HL_markMissed_52 : decode b_HL_markMissed 52 = .ok (.iinc 5 1, 3) := by decide +kernel
theorem d_HL_markMissed_55 : decode b_HL_markMissed 55 = .ok (.goto (-32), 3) := by decide +kernel
theorem d_HL_markMissed_58 : decode b_HL_markMissed 58 = .ok (.iconst 0, 1) := by decide +kernel
theorem d_HL_markMissed_59 : decode b_HL_markMissed 59 = .ok (.istore 5, 2) := by decide +kernel
theorem d_HL_markMissed_61 : decode b_HL_markMissed 61 = .ok (.iload 5, 2) := by decide +kernel
theorem d_HL_markMissed_63 : decode b_HL_markMissed 63 = .ok (.iload_n 3, 1) := by decide +kernel
theorem d_HL_markMissed_64 : decode b_HL_markMissed 64 = .ok (.if_icmp .ge 23, 3) := by decide +kernel
theorem d_HL_markMissed_67 : decode b_HL_markMissed 67 = .ok (.aload_n 0, 1) := by decide +kernel
theorem d_HL_markMissed_68 : decode b_HL_markMissed 68 = .ok (.iload_n 2, 1) := by decide +kernel
theorem d_HL_markMissed_69 : decode b_HL_markMissed 69 = .ok (.iload 4, 2) := by decide +kernel
theorem d_HL_markMissed_71 : decode b_HL_markMissed 71 = .ok (.invokevirtual 199, 3) := by decide +kernel
theorem d_HL_markMissed_74 : decode b_HL_markMissed 74 = .ok (.aload_n 0, 1) := by decide +kernel
theorem d_HL_markMissed_75 : decode b_HL_markMissed 75 = .ok (.getfield 25, 3) := by decide +kernel
theorem d_HL_markMissed_78 : decode b_HL_markMissed 78 = .ok (.invokevirtual 97, 3) := by decide +kernel
theorem d_HL_markMissed_81 : decode b_HL_markMissed 81 = .ok (.iinc 5 1, 3) := by decide +kernel
theorem d_HL_markMissed_84 : decode b_HL_markMissed 84 = .ok (.goto (-23), 3) := by decide +kernel
theorem d_HL_markMissed_87 : decode b_HL_markMissed 87 = .ok (.return_, 1) := by decide +kernel
theorem d_HL_takeShock_0 : decode b_HL_takeShock 0 = .ok (.iconst 0, 1) := by decide +kernel
theorem d_HL_takeShock_1 : decode b_HL_takeShock 1 = .ok (.istore_n 3, 1) := by decide +kernel
theorem d_HL_takeShock_2 : decode b_HL_takeShock 2 = .ok (.iload_n 3, 1) := by decide +kernel
theorem d_HL_takeShock_3 : decode b_HL_takeShock 3 = .ok (.aload_n 0, 1) := by decide +kernel
theorem d_HL_takeShock_4 : decode b_HL_takeShock 4 = .ok (.getfield 12, 3) := by decide +kernel
theorem d_HL_takeShock_7 : decode b_HL_takeShock 7 = .ok (.getfield 47, 3) := by decide +kernel
theorem d_HL_takeShock_10 : decode b_HL_takeShock 10 = .ok (.if_icmp .ge 51, 3) := by decide +kernel
theorem d_HL_takeShock_13 : decode b_HL_takeShock 13 = .ok (.aload_n 0, 1) := by decide +kernel
theorem d_HL_takeShock_14 : decode b_HL_takeShock 14 = .ok (.getfield 12, 3) := by decide +kernel
theorem d_HL_takeShock_17 : decode b_HL_takeShock 17 = .ok (.getfield 70, 3) := by decide +kernel
theorem d_HL_takeShock_20 : decode b_HL_takeShock 20 = .ok (.iload_n 3, 1) := by decide +kernel
theorem d_HL_takeShock_21 : decode b_HL_takeShock 21 = .ok (.baload, 1) := by decide +kernel
theorem d_HL_takeShock_22 : decode b_HL_takeShock 22 = .ok (.ifCond .eq 33, 3) := by decide +kernel
theorem d_HL_takeShock_25 : decode b_HL_takeShock 25 = .ok (.aload_n 0, 1) := by decide +kernel
theorem d_HL_takeShock_26 : decode b_HL_takeShock 26 = .ok (.getfield 25, 3) := by decide +kernel
theorem d_HL_takeShock_29 : decode b_HL_takeShock 29 = .ok (.iload_n 3, 1) := by decide +kernel
theorem d_HL_takeShock_30 : decode b_HL_takeShock 30 = .ok (.iload_n 1, 1) := by decide +kernel
theorem d_HL_takeShock_31 : decode b_HL_takeShock 31 = .ok (.invokevirtual 183, 3) := by decide +kernel
theorem d_HL_takeShock_34 : decode b_HL_takeShock 34 = .ok (.aload_n 0, 1) := by decide +kernel
theorem d_HL_takeShock_35 : decode b_HL_takeShock 35 = .ok (.getfield 25, 3) := by decide +kernel
theorem d_HL_takeShock_38 : decode b_HL_takeShock 38 = .ok (.getfield 187, 3) := by decide +kernel
theorem d_HL_takeShock_41 : decode b_HL_takeShock 41 = .ok (.invokevirtual 116, 3) := by decide +kernel
theorem d_HL_takeShock_44 : decode b_HL_takeShock 44 = .ok (.iload_n 2, 1) := by decide +kernel
theorem d_HL_takeShock_45 : decode b_HL_takeShock 45 = .ok (.if_icmp .lt 10, 3) := by decide +kernel
theorem d_HL_takeShock_48 : decode b_HL_takeShock 48 = .ok (.aload_n 0, 1) := by decide +kernel
theorem d_HL_takeShock_49 : decode b_HL_takeShock 49 = .ok (.getfield 35, 3) := by decide +kernel
theorem d_HL_takeShock_52 : decode b_HL_takeShock 52 = .ok (.iload_n 3, 1) := by decide +kernel
theorem d_HL_takeShock_53 : decode b_HL_takeShock 53 = .ok (.iconst 0, 1) := by decide +kernel
theorem d_HL_takeShock_54 : decode b_HL_takeShock 54 = .ok (.bastore, 1) := by decide +kernel
theorem d_HL_takeShock_55 : decode b_HL_takeShock 55 = .ok (.iinc 3 1, 3) := by decide +kernel
theorem d_HL_takeShock_58 : decode b_HL_takeShock 58 = .ok (.goto (-56), 3) := by decide +kernel
theorem d_HL_takeShock_61 : decode b_HL_takeShock 61 = .ok (.return_, 1) := by decide +kernel
theorem d_HL_markedPipe_0 : decode b_HL_markedPipe 0 = .ok (.iconst 0, 1) := by decide +kernel
theorem d_HL_markedPipe_1 : decode b_HL_markedPipe 1 = .ok (.istore_n 2, 1) := by decide +kernel
theorem d_HL_markedPipe_2 : decode b_HL_markedPipe 2 = .ok (.iconst 0, 1) := by decide +kernel
theorem d_HL_markedPipe_3 : decode b_HL_markedPipe 3 = .ok (.istore_n 3, 1) := by decide +kernel
theorem d_HL_markedPipe_4 : decode b_HL_markedPipe 4 = .ok (.iload_n 3, 1) := by decide +kernel
theorem d_HL_markedPipe_5 : decode b_HL_markedPipe 5 = .ok (.aload_n 0, 1) := by decide +kernel
theorem d_HL_markedPipe_6 : decode b_HL_markedPipe 6 = .ok (.getfield 12, 3) := by decide +kernel
theorem d_HL_markedPipe_9 : decode b_HL_markedPipe 9 = .ok (.getfield 47, 3) := by decide +kernel
theorem d_HL_markedPipe_12 : decode b_HL_markedPipe 12 = .ok (.if_icmp .ge 28, 3) := by decide +kernel
theorem d_HL_markedPipe_15 : decode b_HL_markedPipe 15 = .ok (.aload_n 0, 1) := by decide +kernel
theorem d_HL_markedPipe_16 : decode b_HL_markedPipe 16 = .ok (.getfield 35, 3) := by decide +kernel
theorem d_HL_markedPipe_19 : decode b_HL_markedPipe 19 = .ok (.iload_n 3, 1) := by decide +kernel
theorem d_HL_markedPipe_20 : decode b_HL_markedPipe 20 = .ok (.baload, 1) := by decide +kernel
theorem d_HL_markedPipe_21 : decode b_HL_markedPipe 21 = .ok (.ifCond .eq 13, 3) := by decide +kernel
theorem d_HL_markedPipe_24 : decode b_HL_markedPipe 24 = .ok (.iload_n 2, 1) := by decide +kernel
theorem d_HL_markedPipe_25 : decode b_HL_markedPipe 25 = .ok (.iload_n 1, 1) := by decide +kernel
theorem d_HL_markedPipe_26 : decode b_HL_markedPipe 26 = .ok (.if_icmp .ne 5, 3) := by decide +kernel
theorem d_HL_markedPipe_29 : decode b_HL_markedPipe 29 = .ok (.iload_n 3, 1) := by decide +kernel
theorem d_HL_markedPipe_30 : decode b_HL_markedPipe 30 = .ok (.ireturn, 1) := by decide +kernel
theorem d_HL_markedPipe_31 : decode b_HL_markedPipe 31 = .ok (.iinc 2 1, 3) := by decide +kernel
theorem d_HL_markedPipe_34 : decode b_HL_markedPipe 34 = .ok (.iinc 3 1, 3) := by decide +kernel
theorem d_HL_markedPipe_37 : decode b_HL_markedPipe 37 = .ok (.goto (-33), 3) := by decide +kernel
theorem d_HL_markedPipe_40 : decode b_HL_markedPipe 40 = .ok (.iconst (-1), 1) := by decide +kernel
theorem d_HL_markedPipe_41 : decode b_HL_markedPipe 41 = .ok (.ireturn, 1) := by decide +kernel
