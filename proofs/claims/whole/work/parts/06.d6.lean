theorem d_Law_pipe_0 : decode b_Law_pipe 0 = .ok (.aload 4, 2) := by decide +kernel
theorem d_Law_pipe_2 : decode b_Law_pipe 2 = .ok (.iconst 0, 1) := by decide +kernel
theorem d_Law_pipe_3 : decode b_Law_pipe 3 = .ok (.aload_n 0, 1) := by decide +kernel
theorem d_Law_pipe_4 : decode b_Law_pipe 4 = .ok (.iload_n 1, 1) := by decide +kernel
theorem d_Law_pipe_5 : decode b_Law_pipe 5 = .ok (.iload_n 2, 1) := by decide +kernel
theorem d_Law_pipe_6 : decode b_Law_pipe 6 = .ok (.iload_n 3, 1) := by decide +kernel
theorem d_Law_pipe_7 : decode b_Law_pipe 7 = .ok (.invokevirtual 7, 3) := by decide +kernel
theorem d_Law_pipe_10 : decode b_Law_pipe 10 = .ok (.i2l, 1) := by decide +kernel
theorem d_Law_pipe_11 : decode b_Law_pipe 11 = .ok (.lastore, 1) := by decide +kernel
theorem d_Law_pipe_12 : decode b_Law_pipe 12 = .ok (.goto 11, 3) := by decide +kernel
theorem d_Law_pipe_15 : decode b_Law_pipe 15 = .ok (.astore 5, 2) := by decide +kernel
theorem d_Law_pipe_17 : decode b_Law_pipe 17 = .ok (.iconst 1, 1) := by decide +kernel
theorem d_Law_pipe_18 : decode b_Law_pipe 18 = .ok (.ireturn, 1) := by decide +kernel
theorem d_Law_pipe_19 : decode b_Law_pipe 19 = .ok (.astore 5, 2) := by decide +kernel
theorem d_Law_pipe_21 : decode b_Law_pipe 21 = .ok (.iconst 2, 1) := by decide +kernel
theorem d_Law_pipe_22 : decode b_Law_pipe 22 = .ok (.ireturn, 1) := by decide +kernel
theorem d_Law_pipe_23 : decode b_Law_pipe 23 = .ok (.iconst 0, 1) := by decide +kernel
theorem d_Law_pipe_24 : decode b_Law_pipe 24 = .ok (.ireturn, 1) := by decide +kernel
theorem d_Law_tap_0 : decode b_Law_tap 0 = .ok (.aload_n 2, 1) := by decide +kernel
theorem d_Law_tap_1 : decode b_Law_tap 1 = .ok (.iconst 0, 1) := by decide +kernel
theorem d_Law_tap_2 : decode b_Law_tap 2 = .ok (.aload_n 0, 1) := by decide +kernel
theorem d_Law_tap_3 : decode b_Law_tap 3 = .ok (.iload_n 1, 1) := by decide +kernel
theorem d_Law_tap_4 : decode b_Law_tap 4 = .ok (.invokevirtual 17, 3) := by decide +kernel
theorem d_Law_tap_7 : decode b_Law_tap 7 = .ok (.ifCond .eq 7, 3) := by decide +kernel
theorem d_Law_tap_10 : decode b_Law_tap 10 = .ok (.lconst 1, 1) := by decide +kernel
theorem d_Law_tap_11 : decode b_Law_tap 11 = .ok (.goto 4, 3) := by decide +kernel
theorem d_Law_tap_14 : decode b_Law_tap 14 = .ok (.lconst 0, 1) := by decide +kernel
theorem d_Law_tap_15 : decode b_Law_tap 15 = .ok (.lastore, 1) := by decide +kernel
theorem d_Law_tap_16 : decode b_Law_tap 16 = .ok (.goto 6, 3) := by decide +kernel
theorem d_Law_tap_19 : decode b_Law_tap 19 = .ok (.astore_n 3, 1) := by decide +kernel
theorem d_Law_tap_20 : decode b_Law_tap 20 = .ok (.iconst 1, 1) := by decide +kernel
theorem d_Law_tap_21 : decode b_Law_tap 21 = .ok (.ireturn, 1) := by decide +kernel
theorem d_Law_tap_22 : decode b_Law_tap 22 = .ok (.iconst 0, 1) := by decide +kernel
theorem d_Law_tap_23 : decode b_Law_tap 23 = .ok (.ireturn, 1) := by decide +kernel
theorem d_Law_set_0 : decode b_Law_set 0 = .ok (.aload_n 3, 1) := by decide +kernel
theorem d_Law_set_1 : decode b_Law_set 1 = .ok (.iconst 0, 1) := by decide +kernel
theorem d_Law_set_2 : decode b_Law_set 2 = .ok (.aload_n 0, 1) := by decide +kernel
theorem d_Law_set_3 : decode b_Law_set 3 = .ok (.iload_n 1, 1) := by decide +kernel
theorem d_Law_set_4 : decode b_Law_set 4 = .ok (.iload_n 2, 1) := by decide +kernel
theorem d_Law_set_5 : decode b_Law_set 5 = .ok (.invokevirtual 21, 3) := by decide +kernel
theorem d_Law_set_8 : decode b_Law_set 8 = .ok (.i2l, 1) := by decide +kernel
theorem d_Law_set_9 : decode b_Law_set 9 = .ok (.lastore, 1) := by decide +kernel
theorem d_Law_set_10 : decode b_Law_set 10 = .ok (.goto 7, 3) := by decide +kernel
theorem d_Law_set_13 : decode b_Law_set 13 = .ok (.astore 4, 2) := by decide +kernel
theorem d_Law_set_15 : decode b_Law_set 15 = .ok (.iconst 1, 1) := by decide +kernel
theorem d_Law_set_16 : decode b_Law_set 16 = .ok (.ireturn, 1) := by decide +kernel
theorem d_Law_set_17 : decode b_Law_set 17 = .ok (.iconst 0, 1) := by decide +kernel
theorem d_Law_set_18 : decode b_Law_set 18 = .ok (.ireturn, 1) := by decide +kernel
theorem d_Law_loop_0 : decode b_Law_loop 0 = .ok (.aload_n 3, 1) := by decide +kernel
theorem d_Law_loop_1 : decode b_Law_loop 1 = .ok (.iconst 0, 1) := by decide +kernel
theorem d_Law_loop_2 : decode b_Law_loop 2 = .ok (.aload_n 0, 1) := by decide +kernel
theorem d_Law_loop_3 : decode b_Law_loop 3 = .ok (.iload_n 1, 1) := by decide +kernel
theorem d_Law_loop_4 : decode b_Law_loop 4 = .ok (.iload_n 2, 1) := by decide +kernel
theorem d_Law_loop_5 : decode b_Law_loop 5 = .ok (.invokevirtual 25, 3) := by decide +kernel
theorem d_Law_loop_8 : decode b_Law_loop 8 = .ok (.i2l, 1) := by decide +kernel
theorem d_Law_loop_9 : decode b_Law_loop 9 = .ok (.lastore, 1) := by decide +kernel
theorem d_Law_loop_10 : decode b_Law_loop 10 = .ok (.goto 7, 3) := by decide +kernel
theorem d_Law_loop_13 : decode b_Law_loop 13 = .ok (.astore 4, 2) := by decide +kernel
theorem d_Law_loop_15 : decode b_Law_loop 15 = .ok (.iconst 1, 1) := by decide +kernel
theorem d_Law_loop_16 : decode b_Law_loop 16 = .ok (.ireturn, 1) := by decide +kernel
theorem d_Law_loop_17 : decode b_Law_loop 17 = .ok (.iconst 0, 1) := by decide +kernel
theorem d_Law_loop_18 : decode b_Law_loop 18 = .ok (.ireturn, 1) := by decide +kernel
theorem d_Law_draw_0 : decode b_Law_draw 0 = .ok (.aload 4, 2) := by decide +kernel
theorem d_Law_draw_2 : decode b_Law_draw 2 = .ok (.iconst 0, 1) := by decide +kernel
theorem d_Law_draw_3 : decode b_Law_draw 3 = .ok (.aload_n 0, 1) := by decide +kernel
theorem d_Law_draw_4 : decode b_Law_draw 4 = .ok (.iload_n 1, 1) := by decide +kernel
theorem d_Law_draw_5 : decode b_Law_draw 5 = .ok (.iload_n 2, 1) := by decide +kernel
theorem d_Law_draw_6 : decode b_Law_draw 6 = .ok (.iload_n 3, 1) := by decide +kernel
theorem d_Law_draw_7 : decode b_Law_draw 7 = .ok (.invokevirtual 28, 3) := by decide +kernel
theorem d_Law_draw_10 : decode b_Law_draw 10 = .ok (.i2l, 1) := by decide +kernel
theorem d_Law_draw_11 : decode b_Law_draw 11 = .ok (.lastore, 1) := by decide +kernel
theorem d_Law_draw_12 : decode b_Law_draw 12 = .ok (.goto 11, 3) := by decide +kernel
theorem d_Law_draw_15 : decode b_Law_draw 15 = .ok (.astore 5, 2) := by decide +kernel
theorem d_Law_draw_17 : decode b_Law_draw 17 = .ok (.iconst 1, 1) := by decide +kernel
theorem d_Law_draw_18 : decode b_Law_draw 18 = .ok (.ireturn, 1) := by decide +kernel
theorem d_Law_draw_19 : decode b_Law_draw 19 = .ok (.astore 5, 2) := by decide +kernel
theorem d_Law_draw_21 : decode b_Law_draw 21 = .ok (.iconst 2, 1) := by decide +kernel
theorem d_Law_draw_22 : decode b_Law_draw 22 = .ok (.ireturn, 1) := by decide +kernel
theorem d_Law_draw_23 : decode b_Law_draw 23 = .ok (.iconst 0, 1) := by decide +kernel
theorem d_Law_draw_24 : decode b_Law_draw 24 = .ok (.ireturn, 1) := by decide +kernel
theorem d_Law_run_0 : decode b_Law_run 0 = .ok (.aload_n 2, 1) := by decide +kernel
theorem d_Law_run_1 : decode b_Law_run 1 = .ok (.iconst 0, 1) := by decide +kernel
theorem d_Law_run_2 : decode b_Law_run 2 = .ok (.aload_n 0, 1) := by decide +kernel
theorem d_Law_run_3 : decode b_Law_run 3 = .ok (.iload_n 1, 1) := by decide +kernel
theorem d_Law_run_4 : decode b_Law_run 4 = .ok (.invokevirtual 31, 3) := by decide +kernel
theorem d_Law_run_7 : decode b_Law_run 7 = .ok (.i2l, 1) := by decide +kernel
theorem d_Law_run_8 : decode b_Law_run 8 = .ok (.lastore, 1) := by decide +kernel
theorem d_Law_run_9 : decode b_Law_run 9 = .ok (.goto 9, 3) := by decide +kernel
theorem d_Law_run_12 : decode b_Law_run 12 = .ok (.astore_n 3, 1) := by decide +kernel
theorem d_Law_run_13 : decode b_Law_run 13 = .ok (.iconst 1, 1) := by decide +kernel
theorem d_Law_run_14 : decode b_Law_run 14 = .ok (.ireturn, 1) := by decide +kernel
theorem d_Law_run_15 : decode b_Law_run 15 = .ok (.astore_n 3, 1) := by decide +kernel
theorem d_Law_run_16 : decode b_Law_run 16 = .ok (.iconst 2, 1) := by decide +kernel
theorem d_Law_run_17 : decode b_Law_run 17 = .ok (.ireturn, 1) := by decide +kernel
theorem d_Law_run_18 : decode b_Law_run 18 = .ok (.iconst 0, 1) := by decide +kernel
theorem d_Law_run_19 : decode b_Law_run 19 = .ok (.ireturn, 1) := by decide +kernel
theorem d_Law_plug_0 : decode b_Law_plug 0 = .ok (.aload 4, 2) := by decide +kernel
theorem d_Law_plug_2 : decode b_Law_plug 2 = .ok (.iconst 0, 1) := by decide +kernel
theorem d_Law_plug_3 : decode b_Law_plug 3 = .ok (.aload_n 0, 1) := by decide +kernel
theorem d_Law_plug_4 : decode b_Law_plug 4 = .ok (.iload_n 1, 1) := by decide +kernel
theorem d_Law_plug_5 : decode b_Law_plug 5 = .ok (.iload_n 2, 1) := by decide +kernel
theorem d_Law_plug_6 : decode b_Law_plug 6 = .ok (.iload_n 3, 1) := by decide +kernel
theorem d_Law_plug_7 : decode b_Law_plug 7 = .ok (.invokevirtual 35, 3) := by decide +kernel
theorem d_Law_plug_10 : decode b_Law_plug 10 = .ok (.i2l, 1) := by decide +kernel
theorem d_Law_plug_11 : decode b_Law_plug 11 = .ok (.lastore, 1) := by decide +kernel
theorem d_Law_plug_12 : decode b_Law_plug 12 = .ok (.goto 7, 3) := by decide +kernel
theorem d_Law_plug_15 : decode b_Law_plug 15 = .ok (.astore 5, 2) := by decide +kernel
theorem d_Law_plug_17 : decode b_Law_plug 17 = .ok (.iconst 1, 1) := by decide +kernel
theorem d_Law_plug_18 : decode b_Law_plug 18 = .ok (.ireturn, 1) := by decide +kernel
theorem d_Law_plug_19 : decode b_Law_plug 19 = .ok (.iconst 0, 1) := by decide +kernel
theorem d_Law_plug_20 : decode b_Law_plug 20 = .ok (.ireturn, 1) := by decide +kernel
theorem d_Law_told_0 : decode b_Law_told 0 = .ok (.aload_n 3, 1) := by decide +kernel
theorem d_Law_told_1 : decode b_Law_told 1 = .ok (.iconst 0, 1) := by decide +kernel
theorem d_Law_told_2 : decode b_Law_told 2 = .ok (.aload_n 0, 1) := by decide +kernel
theorem d_Law_told_3 : decode b_Law_told 3 = .ok (.iload_n 1, 1) := by decide +kernel
theorem d_Law_told_4 : decode b_Law_told 4 = .ok (.iload_n 2, 1) := by decide +kernel
theorem d_Law_told_5 : decode b_Law_told 5 = .ok (.invokevirtual 38, 3) := by decide +kernel
theorem d_Law_told_8 : decode b_Law_told 8 = .ok (.i2l, 1) := by decide +kernel
theorem d_Law_told_9 : decode b_Law_told 9 = .ok (.lastore, 1) := by decide +kernel
theorem d_Law_told_10 : decode b_Law_told 10 = .ok (.goto 7, 3) := by decide +kernel
theorem d_Law_told_13 : decode b_Law_told 13 = .ok (.astore 4, 2) := by decide +kernel
theorem d_Law_told_15 : decode b_Law_told 15 = .ok (.iconst 1, 1) := by decide +kernel
theorem d_Law_told_16 : decode b_Law_told 16 = .ok (.ireturn, 1) := by decide +kernel
theorem d_Law_told_17 : decode b_Law_told 17 = .ok (.iconst 0, 1) := by decide +kernel
theorem d_Law_told_18 : decode b_Law_told 18 = .ok (.ireturn, 1) := by decide +kernel
theorem d_Law_dead_0 : decode b_Law_dead 0 = .ok (.aload_n 3, 1) := by decide +kernel
theorem d_Law_dead_1 : decode b_Law_dead 1 = .ok (.iconst 0, 1) := by decide +kernel
theorem d_Law_dead_2 : decode b_Law_dead 2 = .ok (.aload_n 0, 1) := by decide +kernel
theorem d_Law_dead_3 : decode b_Law_dead 3 = .ok (.iload_n 1, 1) := by decide +kernel
theorem d_Law_dead_4 : decode b_Law_dead 4 = .ok (.iload_n 2, 1) := by decide +kernel
theorem d_Law_dead_5 : decode b_Law_dead 5 = .ok (.invokevirtual 41, 3) := by decide +kernel
theorem d_Law_dead_8 : decode b_Law_dead 8 = .ok (.i2l, 1) := by decide +kernel
theorem d_Law_dead_9 : decode b_Law_dead 9 = .ok (.lastore, 1) := by decide +kernel
theorem d_Law_dead_10 : decode b_Law_dead 10 = .ok (.goto 7, 3) := by decide +kernel
theorem d_Law_dead_13 : decode b_Law_dead 13 = .ok (.astore 4, 2) := by decide +kernel
theorem d_Law_dead_15 : decode b_Law_dead 15 = .ok (.iconst 1, 1) := by decide +kernel
theorem d_Law_dead_16 : decode b_Law_dead 16 = .ok (.ireturn, 1) := by decide +kernel
theorem d_Law_dead_17 : decode b_Law_dead 17 = .ok (.iconst 0, 1) := by decide +kernel
theorem d_Law_dead_18 : decode b_Law_dead 18 = .ok (.ireturn, 1) := by decide +kernel
theorem d_Law_warm_0 : decode b_Law_warm 0 = .ok (.aload_n 3, 1) := by decide +kernel
theorem d_Law_warm_1 : decode b_Law_warm 1 = .ok (.iconst 0, 1) := by decide +kernel
theorem d_Law_warm_2 : decode b_Law_warm 2 = .ok (.aload_n 0, 1) := by decide +kernel
theorem d_Law_warm_3 : decode b_Law_warm 3 = .ok (.iload_n 1, 1) := by decide +kernel
theorem d_Law_warm_4 : decode b_Law_warm 4 = .ok (.iload_n 2, 1) := by decide +kernel
theorem d_Law_warm_5 : decode b_Law_warm 5 = .ok (.invokevirtual 44, 3) := by decide +kernel
theorem d_Law_warm_8 : decode b_Law_warm 8 = .ok (.i2l, 1) := by decide +kernel
theorem d_Law_warm_9 : decode b_Law_warm 9 = .ok (.lastore, 1) := by decide +kernel
theorem d_Law_warm_10 : decode b_Law_warm 10 = .ok (.goto 7, 3) := by decide +kernel
theorem d_Law_warm_13 : decode b_Law_warm 13 = .ok (.astore 4, 2) := by decide +kernel
theorem d_Law_warm_15 : decode b_Law_warm 15 = .ok (.iconst 1, 1) := by decide +kernel
theorem d_Law_warm_16 : decode b_Law_warm 16 = .ok (.ireturn, 1) := by decide +kernel
theorem d_Law_warm_17 : decode b_Law_warm 17 = .ok (.iconst 0, 1) := by decide +kernel
theorem d_Law_warm_18 : decode b_Law_warm 18 = .ok (.ireturn, 1) := by decide +kernel
theorem d_Law_drawn_0 : decode b_Law_drawn 0 = .ok (.aload_n 3, 1) := by decide +kernel
theorem d_Law_drawn_1 : decode b_Law_drawn 1 = .ok (.iconst 0, 1) := by decide +kernel
theorem d_Law_drawn_2 : decode b_Law_drawn 2 = .ok (.aload_n 0, 1) := by decide +kernel
theorem d_Law_drawn_3 : decode b_Law_drawn 3 = .ok (.iload_n 1, 1) := by decide +kernel
theorem d_Law_drawn_4 : decode b_Law_drawn 4 = .ok (.iload_n 2, 1) := by decide +kernel
theorem d_Law_drawn_5 : decode b_Law_drawn 5 = .ok (.invokevirtual 47, 3) := by decide +kernel
theorem d_Law_drawn_8 : decode b_Law_drawn 8 = .ok (.i2l, 1) := by decide +kernel
theorem d_Law_drawn_9 : decode b_Law_drawn 9 = .ok (.lastore, 1) := by decide +kernel
theorem d_Law_drawn_10 : decode b_Law_drawn 10 = .ok (.goto 7, 3) := by decide +kernel
theorem d_Law_drawn_13 : decode b_Law_drawn 13 = .ok (.astore 4, 2) := by decide +kernel
theorem d_Law_drawn_15 : decode b_Law_drawn 15 = .ok (.iconst 1, 1) := by decide +kernel
theorem d_Law_drawn_16 : decode b_Law_drawn 16 = .ok (.ireturn, 1) := by decide +kernel
theorem d_Law_drawn_17 : decode b_Law_drawn 17 = .ok (.iconst 0, 1) := by decide +kernel
theorem d_Law_drawn_18 : decode b_Law_drawn 18 = .ok (.ireturn, 1) := by decide +kernel
theorem d_Law_heat_0 : decode b_Law_heat 0 = .ok (.aload_n 2, 1) := by decide +kernel
theorem d_Law_heat_1 : decode b_Law_heat 1 = .ok (.iconst 0, 1) := by decide +kernel
theorem d_Law_heat_2 : decode b_Law_heat 2 = .ok (.aload_n 0, 1) := by decide +kernel
theorem d_Law_heat_3 : decode b_Law_heat 3 = .ok (.iload_n 1, 1) := by decide +kernel
theorem d_Law_heat_4 : decode b_Law_heat 4 = .ok (.invokevirtual 50, 3) := by decide +kernel
theorem d_Law_heat_7 : decode b_Law_heat 7 = .ok (.lastore, 1) := by decide +kernel
theorem d_Law_heat_8 : decode b_Law_heat 8 = .ok (.goto 6, 3) := by decide +kernel
theorem d_Law_heat_11 : decode b_Law_heat 11 = .ok (.astore_n 3, 1) := by decide +kernel
theorem d_Law_heat_12 : decode b_Law_heat 12 = .ok (.iconst 1, 1) := by decide +kernel
theorem d_Law_heat_13 : decode b_Law_heat 13 = .ok (.ireturn, 1) := by decide +kernel
theorem d_Law_heat_14 : decode b_Law_heat 14 = .ok (.iconst 0, 1) := by decide +kernel
theorem d_Law_heat_15 : decode b_Law_heat 15 = .ok (.ireturn, 1) := by decide +kernel
theorem d_Law_shock_0 : decode b_Law_shock 0 = .ok (.aload 6, 2) := by decide +kernel
theorem d_Law_shock_2 : decode b_Law_shock 2 = .ok (.iconst 0, 1) := by decide +kernel
theorem d_Law_shock_3 : decode b_Law_shock 3 = .ok (.aload_n 0, 1) := by decide +kernel
theorem d_Law_shock_4 : decode b_Law_shock 4 = .ok (.iload_n 1, 1) := by decide +kernel
theorem d_Law_shock_5 : decode b_Law_shock 5 = .ok (.iload_n 2, 1) := by decide +kernel
theorem d_Law_shock_6 : decode b_Law_shock 6 = .ok (.iload_n 3, 1) := by decide +kernel
theorem d_Law_shock_7 : decode b_Law_shock 7 = .ok (.iload 4, 2) := by decide +kernel
theorem d_Law_shock_9 : decode b_Law_shock 9 = .ok (.iload 5, 2) := by decide +kernel
theorem d_Law_shock_11 : decode b_Law_shock 11 = .ok (.invokevirtual 54, 3) := by decide +kernel
theorem d_Law_shock_14 : decode b_Law_shock 14 = .ok (.i2l, 1) := by decide +kernel
theorem d_Law_shock_15 : decode b_Law_shock 15 = .ok (.lastore, 1) := by decide +kernel
theorem d_Law_shock_16 : decode b_Law_shock 16 = .ok (.goto 7, 3) := by decide +kernel
theorem d_Law_shock_19 : decode b_Law_shock 19 = .ok (.astore 7, 2) := by decide +kernel
theorem d_Law_shock_21 : decode b_Law_shock 21 = .ok (.iconst 1, 1) := by decide +kernel
theorem d_Law_shock_22 : decode b_Law_shock 22 = .ok (.ireturn, 1) := by decide +kernel
theorem d_Law_shock_23 : decode b_Law_shock 23 = .ok (.iconst 0, 1) := by decide +kernel
theorem d_Law_shock_24 : decode b_Law_shock 24 = .ok (.ireturn, 1) := by decide +kernel
theorem d_Law_law_0 : decode b_Law_law 0 = .ok (.new 8, 3) := by decide +kernel
theorem d_Law_law_3 : decode b_Law_law 3 = .ok (.dup, 1) := by decide +kernel
theorem d_Law_law_4 : decode b_Law_law 4 = .ok (.invokespecial 58, 3) := by decide +kernel
theorem d_Law_law_7 : decode b_Law_law 7 = .ok (.astore_n 1, 1) := by decide +kernel
theorem d_Law_law_8 : decode b_Law_law 8 = .ok (.new 59, 3) := by decide +kernel
theorem d_Law_law_11 : decode b_Law_law 11 = .ok (.dup, 1) := by decide +kernel
theorem d_Law_law_12 : decode b_Law_law 12 = .ok (.invokespecial 61, 3) := by decide +kernel
theorem d_Law_law_15 : decode b_Law_law 15 = .ok (.astore_n 2, 1) := by decide +kernel
theorem d_Law_law_16 : decode b_Law_law 16 = .ok (.iconst 1, 1) := by decide +kernel
theorem d_Law_law_17 : decode b_Law_law 17 = .ok (.newarray .long, 2) := by decide +kernel
theorem d_Law_law_19 : decode b_Law_law 19 = .ok (.astore_n 3, 1) := by decide +kernel
theorem d_Law_law_20 : decode b_Law_law 20 = .ok (.iconst 0, 1) := by decide +kernel
theorem d_Law_law_21 : decode b_Law_law 21 = .ok (.istore 4, 2) := by decide +kernel
theorem d_Law_law_23 : decode b_Law_law 23 = .ok (.iload 4, 2) := by decide +kernel
theorem d_Law_law_25 : decode b_Law_law 25 = .ok (.aload_n 0, 1) := by decide +kernel
theorem d_Law_law_26 : decode b_Law_law 26 = .ok (.arraylength, 1) := by decide +kernel
theorem d_Law_law_27 : decode b_Law_law 27 = .ok (.bipush 6, 2) := by decide +kernel
theorem d_Law_law_29 : decode b_Law_law 29 = .ok (.isub, 1) := by decide +kernel
theorem d_Law_law_30 : decode b_Law_law 30 = .ok (.if_icmp .gt 1010, 3) := by decide +kernel
theorem d_Law_law_33 : decode b_Law_law 33 = .ok (.aload_n 0, 1) := by decide +kernel
theorem d_Law_law_34 : decode b_Law_law 34 = .ok (.iload 4, 2) := by decide +kernel
theorem d_Law_law_36 : decode b_Law_law 36 = .ok (.iaload, 1) := by decide +kernel
theorem d_Law_law_37 : decode b_Law_law 37 = .ok (.bipush 15, 2) := by decide +kernel
theorem d_Law_law_39 : decode b_Law_law 39 = .ok (.iand, 1) := by decide +kernel
theorem d_Law_law_40 : decode b_Law_law 40 = .ok (.tableswitch 994 0 12 #[68, 148, 211, 279, 347, 427, 483, 563, 631, 699, 767, 835, 890], 68) := by decide +kernel
theorem d_Law_law_108 : decode b_Law_law 108 = .ok (.aload_n 1, 1) := by decide +kernel
theorem d_Law_law_109 : decode b_Law_law 109 = .ok (.aload_n 0, 1) := by decide +kernel
theorem d_Law_law_110 : decode b_Law_law 110 = .ok (.iload 4, 2) := by decide +kernel
theorem d_Law_law_112 : decode b_Law_law 112 = .ok (.iconst 1, 1) := by decide +kernel
theorem d_Law_law_113 : decode b_Law_law 113 = .ok (.iadd, 1) := by decide +kernel
theorem d_Law_law_114 : decode b_Law_law 114 = .ok (.iaload, 1) := by decide +kernel
theorem d_Law_law_115 : decode b_Law_law 115 = .ok (.aload_n 0, 1) := by decide +kernel
theorem d_Law_law_116 : decode b_Law_law 116 = .ok (.iload 4, 2) := by decide +kernel
theorem d_Law_law_118 : decode b_Law_law 118 = .ok (.iconst 2, 1) := by decide +kernel
theorem d_Law_law_119 : decode b_Law_law 119 = .ok (.iadd, 1) := by decide +kernel
theorem d_Law_law_120 : decode b_Law_law 120 = .ok (.iaload, 1) := by decide +kernel
theorem d_Law_law_121 : decode b_Law_law 121 = .ok (.aload_n 0, 1) := by decide +kernel
theorem d_Law_law_122 : decode b_Law_law 122 = .ok (.iload 4, 2) := by decide +kernel
theorem d_Law_law_124 : decode b_Law_law 124 = .ok (.iconst 3, 1) := by decide +kernel
theorem d_Law_law_125 : decode b_Law_law 125 = .ok (.iadd, 1) := by decide +kernel
theorem d_Law_law_126 : decode b_Law_law 126 = .ok (.iaload, 1) := by decide +kernel
theorem d_Law_law_127 : decode b_Law_law 127 = .ok (.aload_n 3, 1) := by decide +kernel
theorem d_Law_law_128 : decode b_Law_law 128 = .ok (.invokestatic 62, 3) := by decide +kernel
theorem d_Law_law_131 : decode b_Law_law 131 = .ok (.istore 5, 2) := by decide +kernel
theorem d_Law_law_133 : decode b_Law_law 133 = .ok (.aload_n 2, 1) := by decide +kernel
theorem d_Law_law_134 : decode b_Law_law 134 = .ok (.aload_n 0, 1) := by decide +kernel
theorem d_Law_law_135 : decode b_Law_law 135 = .ok (.iload 4, 2) := by decide +kernel
theorem d_Law_law_137 : decode b_Law_law 137 = .ok (.iconst 1, 1) := by decide +kernel
theorem d_Law_law_138 : decode b_Law_law 138 = .ok (.iadd, 1) := by decide +kernel
theorem d_Law_law_139 : decode b_Law_law 139 = .ok (.iaload, 1) := by decide +kernel
theorem d_Law_law_140 : decode b_Law_law 140 = .ok (.aload_n 0, 1) := by decide +kernel
theorem d_Law_law_141 : decode b_Law_law 141 = .ok (.iload 4, 2) := by decide +kernel
theorem d_Law_law_143 : decode b_Law_law 143 = .ok (.iconst 2, 1) := by decide +kernel
theorem d_Law_law_144 : decode b_Law_law 144 = .ok (.iadd, 1) := by decide +kernel
theorem d_Law_law_145 : decode b_Law_law 145 = .ok (.iaload, 1) := by decide +kernel
theorem d_Law_law_146 : decode b_Law_law 146 = .ok (.aload_n 0, 1) := by decide +kernel
theorem d_Law_law_147 : decode b_Law_law 147 = .ok (.iload 4, 2) := by decide +kernel
theorem d_Law_law_149 : decode b_Law_law 149 = .ok (.iconst 3, 1) := by decide +kernel
theorem d_Law_law_150 : decode b_Law_law 150 = .ok (.iadd, 1) := by decide +kernel
theorem d_Law_law_151 : decode b_Law_law 151 = .ok (.iaload, 1) := by decide +kernel
theorem d_Law_law_152 : decode b_Law_law 152 = .ok (.invokevirtual 67, 3) := by decide +kernel
theorem d_Law_law_155 : decode b_Law_law 155 = .ok (.istore 6, 2) := by decide +kernel
theorem d_Law_law_157 : decode b_Law_law 157 = .ok (.aload_n 2, 1) := by decide +kernel
theorem d_Law_law_158 : decode b_Law_law 158 = .ok (.invokevirtual 68, 3) := by decide +kernel
theorem d_Law_law_161 : decode b_Law_law 161 = .ok (.iload 5, 2) := by decide +kernel
theorem d_Law_law_163 : decode b_Law_law 163 = .ok (.if_icmp .eq 5, 3) := by decide +kernel
theorem d_Law_law_166 : decode b_Law_law 166 = .ok (.iconst 0, 1) := by decide +kernel
theorem d_Law_law_167 : decode b_Law_law 167 = .ok (.ireturn, 1) := by decide +kernel
theorem d_Law_law_168 : decode b_Law_law 168 = .ok (.iload 5, 2) := by decide +kernel
theorem d_Law_law_170 : decode b_Law_law 170 = .ok (.ifCond .ne 15, 3) := by decide +kernel
theorem d_Law_law_173 : decode b_Law_law 173 = .ok (.aload_n 3, 1) := by decide +kernel
theorem d_Law_law_174 : decode b_Law_law 174 = .ok (.iconst 0, 1) := by decide +kernel
theorem d_Law_law_175 : decode b_Law_law 175 = .ok (.laload, 1) := by decide +kernel
theorem d_Law_law_176 : decode b_Law_law 176 = .ok (.iload 6, 2) := by decide +kernel
theorem d_Law_law_178 : decode b_Law_law 178 = .ok (.i2l, 1) := by decide +kernel
theorem d_Law_law_179 : decode b_Law_law 179 = .ok (.lcmp, 1) := by decide +kernel
theorem d_Law_law_180 : decode b_Law_law 180 = .ok (.ifCond .eq 5, 3) := by decide +kernel
theorem d_Law_law_183 : decode b_Law_law 183 = .ok (.iconst 0, 1) := by decide +kernel
theorem d_Law_law_184 : decode b_Law_law 184 = .ok (.ireturn, 1) := by decide +kernel
theorem d_Law_law_185 : decode b_Law_law 185 = .ok (.goto 849, 3) := by decide +kernel
theorem d_Law_law_188 : decode b_Law_law 188 = .ok (.aload_n 1, 1) := by decide +kernel
theorem d_Law_law_189 : decode b_Law_law 189 = .ok (.aload_n 0, 1) := by decide +kernel
theorem d_Law_law_190 : decode b_Law_law 190 = .ok (.iload 4, 2) := by decide +kernel
theorem d_Law_law_192 : decode b_Law_law 192 = .ok (.iconst 1, 1) := by decide +kernel
theorem d_Law_law_193 : decode b_Law_law 193 = .ok (.iadd, 1) := by decide +kernel
theorem d_Law_law_194 : decode b_Law_law 194 = .ok (.iaload, 1) := by decide +kernel
theorem d_Law_law_195 : decode b_Law_law 195 = .ok (.aload_n 3, 1) := by decide +kernel
theorem d_Law_law_196 : decode b_Law_law 196 = .ok (.invokestatic 72, 3) := by decide +kernel
theorem d_Law_law_199 : decode b_Law_law 199 = .ok (.istore 5, 2) := by decide +kernel
theorem d_Law_law_201 : decode b_Law_law 201 = .ok (.aload_n 2, 1) := by decide +kernel
theorem d_Law_law_202 : decode b_Law_law 202 = .ok (.aload_n 0, 1) := by decide +kernel
theorem d_Law_law_203 : decode b_Law_law 203 = .ok (.iload 4, 2) := by decide +kernel
theorem d_Law_law_205 : decode b_Law_law 205 = .ok (.iconst 1, 1) := by decide +kernel
theorem d_Law_law_206 : decode b_Law_law 206 = .ok (.iadd, 1) := by decide +kernel
theorem d_Law_law_207 : decode b_Law_law 207 = .ok (.iaload, 1) := by decide +kernel
theorem d_Law_law_208 : decode b_Law_law 208 = .ok (.invokevirtual 75, 3) := by decide +kernel
theorem d_Law_law_211 : decode b_Law_law 211 = .ok (.istore 6, 2) := by decide +kernel
theorem d_Law_law_213 : decode b_Law_law 213 = .ok (.aload_n 2, 1) := by decide +kernel
theorem d_Law_law_214 : decode b_Law_law 214 = .ok (.invokevirtual 68, 3) := by decide +kernel
theorem d_Law_law_217 : decode b_Law_law 217 = .ok (.iload 5, 2) := by decide +kernel
theorem d_Law_law_219 : decode b_Law_law 219 = .ok (.if_icmp .eq 5, 3) := by decide +kernel
theorem d_Law_law_222 : decode b_Law_law 222 = .ok (.iconst 0, 1) := by decide +kernel
theorem d_Law_law_223 : decode b_Law_law 223 = .ok (.ireturn, 1) := by decide +kernel
theorem d_Law_law_224 : decode b_Law_law 224 = .ok (.iload 5, 2) := by decide +kernel
theorem d_Law_law_226 : decode b_Law_law 226 = .ok (.ifCond .ne 22, 3) := by decide +kernel
theorem d_Law_law_229 : decode b_Law_law 229 = .ok (.aload_n 3, 1) := by decide +kernel
theorem d_Law_law_230 : decode b_Law_law 230 = .ok (.iconst 0, 1) := by decide +kernel
theorem d_Law_law_231 : decode b_Law_law 231 = .ok (.laload, 1) := by decide +kernel
theorem d_Law_law_232 : decode b_Law_law 232 = .ok (.iload 6, 2) := by decide +kernel
theorem d_Law_law_234 : decode b_Law_law 234 = .ok (.ifCond .eq 7, 3) := by decide +kernel
theorem d_Law_law_237 : decode b_Law_law 237 = .ok (.lconst 1, 1) := by decide +kernel
theorem d_Law_law_238 : decode b_Law_law 238 = .ok (.goto 4, 3) := by decide +kernel
theorem d_Law_law_241 : decode b_Law_law 241 = .ok (.lconst 0, 1) := by decide +kernel
theorem d_Law_law_242 : decode b_Law_law 242 = .ok (.lcmp, 1) := by decide +kernel
theorem d_Law_law_243 : decode b_Law_law 243 = .ok (.ifCond .eq 5, 3) := by decide +kernel
theorem d_Law_law_246 : decode b_Law_law 246 = .ok (.iconst 0, 1) := by decide +kernel
theorem d_Law_law_247 : decode b_Law_law 247 = .ok (.ireturn, 1) := by decide +kernel
theorem d_Law_law_248 : decode b_Law_law 248 = .ok (.goto 786, 3) := by decide +kernel
theorem d_Law_law_251 : decode b_Law_law 251 = .ok (.aload_n 1, 1) := by decide +kernel
theorem d_Law_law_252 : decode b_Law_law 252 = .ok (.aload_n 0, 1) := by decide +kernel
theorem d_Law_law_253 : decode b_Law_law 253 = .ok (.iload 4, 2) := by decide +kernel
theorem d_Law_law_255 : decode b_Law_law 255 = .ok (.iconst 1, 1) := by decide +kernel
theorem d_Law_law_256 : decode b_Law_law 256 = .ok (.iadd, 1) := by decide +kernel
theorem d_Law_law_257 : decode b_Law_law 257 = .ok (.iaload, 1) := by decide +kernel
theorem d_Law_law_258 : decode b_Law_law 258 = .ok (.aload_n 0, 1) := by decide +kernel
theorem d_Law_law_259 : decode b_Law_law 259 = .ok (.iload 4, 2) := by decide +kernel
theorem d_Law_law_261 : decode b_Law_law 261 = .ok (.iconst 2, 1) := by decide +kernel
theorem d_Law_law_262 : decode b_Law_law 262 = .ok (.iadd, 1) := by decide +kernel
theorem d_Law_law_263 : decode b_Law_law 263 = .ok (.iaload, 1) := by decide +kernel
theorem d_Law_law_264 : decode b_Law_law 264 = .ok (.aload_n 3, 1) := by decide +kernel
theorem d_Law_law_265 : decode b_Law_law 265 = .ok (.invokestatic 76, 3) := by decide +kernel
theorem d_Law_law_268 : decode b_Law_law 268 = .ok (.istore 5, 2) := by decide +kernel
theorem d_Law_law_270 : decode b_Law_law 270 = .ok (.aload_n 2, 1) := by decide +kernel
theorem d_Law_law_271 : decode b_Law_law 271 = .ok (.aload_n 0, 1) := by decide +kernel
theorem d_Law_law_272 : decode b_Law_law 272 = .ok (.iload 4, 2) := by decide +kernel
theorem d_Law_law_274 : decode b_Law_law 274 = .ok (.iconst 1, 1) := by decide +kernel
theorem d_Law_law_275 : decode b_Law_law 275 = .ok (.iadd, 1) := by decide +kernel
theorem d_Law_law_276 : decode b_Law_law 276 = .ok (.iaload, 1) := by decide +kernel
theorem d_Law_law_277 : decode b_Law_law 277 = .ok (.aload_n 0, 1) := by decide +kernel
theorem d_Law_law_278 : decode b_Law_law 278 = .ok (.iload 4, 2) := by decide +kernel
theorem d_Law_law_280 : decode b_Law_law 280 = .ok (.iconst 2, 1) := by decide +kernel
theorem d_Law_law_281 : decode b_Law_law 281 = .ok (.iadd, 1) := by decide +kernel
theorem d_Law_law_282 : decode b_Law_law 282 = .ok (.iaload, 1) := by decide +kernel
theorem d_Law_law_283 : decode b_Law_law 283 = .ok (.invokevirtual 79, 3) := by decide +kernel
theorem d_Law_law_286 : decode b_Law_law 286 = .ok (.istore 6, 2) := by decide +kernel
theorem d_Law_law_288 : decode b_Law_law 288 = .ok (.aload_n 2, 1) := by decide +kernel
theorem d_Law_law_289 : decode b_Law_law 289 = .ok (.invokevirtual 68, 3) := by decide +kernel
theorem d_Law_law_292 : decode b_Law_law 292 = .ok (.iload 5, 2) := by decide +kernel
theorem d_Law_law_294 : decode b_Law_law 294 = .ok (.if_icmp .eq 5, 3) := by decide +kernel
theorem d_Law_law_297 : decode b_Law_law 297 = .ok (.iconst 0, 1) := by decide +kernel
theorem d_Law_law_298 : decode b_Law_law 298 = .ok (.ireturn, 1) := by decide +kernel
theorem d_Law_law_299 : decode b_Law_law 299 = .ok (.iload 5, 2) := by decide +kernel
theorem d_Law_law_301 : decode b_Law_law 301 = .ok (.ifCond .ne 15, 3) := by decide +kernel
theorem d_Law_law_304 : decode b_Law_law 304 = .ok (.aload_n 3, 1) := by decide +kernel
theorem d_Law_law_305 : decode b_Law_law 305 = .ok (.iconst 0, 1) := by decide +kernel
theorem d_Law_law_306 : decode b_Law_law 306 = .ok (.laload, 1) := by decide +kernel
theorem d_Law_law_307 : decode b_Law_law 307 = .ok (.iload 6, 2) := by decide +kernel
theorem d_Law_law_309 : decode b_Law_law 309 = .ok (.i2l, 1) := by decide +kernel
theorem d_Law_law_310 : decode b_Law_law 310 = .ok (.lcmp, 1) := by decide +kernel
theorem d_Law_law_311 : decode b_Law_law 311 = .ok (.ifCond .eq 5, 3) := by decide +kernel
theorem d_Law_law_314 : decode b_Law_law 314 = .ok (.iconst 0, 1) := by decide +kernel
theorem d_Law_law_315 : decode b_Law_law 315 = .ok (.ireturn, 1) := by decide +kernel
theorem d_Law_law_316 : decode b_Law_law 316 = .ok (.goto 718, 3) := by decide +kernel
theorem d_Law_law_319 : decode b_Law_law 319 = .ok (.aload_n 1, 1) := by decide +kernel
theorem d_Law_law_320 : decode b_Law_law 320 = .ok (.aload_n 0, 1) := by decide +kernel
theorem d_Law_law_321 : decode b_Law_law 321 = .ok (.iload 4, 2) := by decide +kernel
theorem d_Law_law_323 : decode b_Law_law 323 = .ok (.iconst 1, 1) := by decide +kernel
theorem d_Law_law_324 : decode b_Law_law 324 = .ok (.iadd, 1) := by decide +kernel
theorem d_Law_law_325 : decode b_Law_law 325 = .ok (.iaload, 1) := by decide +kernel
theorem d_Law_law_326 : decode b_Law_law 326 = .ok (.aload_n 0, 1) := by decide +kernel
theorem d_Law_law_327 : decode b_Law_law 327 = .ok (.iload 4, 2) := by decide +kernel
theorem d_Law_law_329 : decode b_Law_law 329 = .ok (.iconst 2, 1) := by decide +kernel
theorem d_Law_law_330 : decode b_Law_law 330 = .ok (.iadd, 1) := by decide +kernel
theorem d_Law_law_331 : decode b_Law_law 331 = .ok (.iaload, 1) := by decide +kernel
theorem d_Law_law_332 : decode b_Law_law 332 = .ok (.aload_n 3, 1) := by decide +kernel
theorem d_Law_law_333 : decode b_Law_law 333 = .ok (.invokestatic 80, 3) := by decide +kernel
theorem d_Law_law_336 : decode b_Law_law 336 = .ok (.istore 5, 2) := by decide +kernel
theorem d_Law_law_338 : decode b_Law_law 338 = .ok (.aload_n 2, 1) := by decide +kernel
theorem d_Law_law_339 : decode b_Law_law 339 = .ok (.aload_n 0, 1) := by decide +kernel
theorem d_Law_law_340 : decode b_Law_law 340 = .ok (.iload 4, 2) := by decide +kernel
theorem d_Law_law_342 : decode b_Law_law 342 = .ok (.iconst 1, 1) := by decide +kernel
theorem d_Law_law_343 : decode b_Law_law 343 = .ok (.iadd, 1) := by decide +kernel
theorem d_Law_law_344 : decode b_Law_law 344 = .ok (.iaload, 1) := by decide +kernel
theorem d_Law_law_345 : decode b_Law_law 345 = .ok (.aload_n 0, 1) := by decide +kernel
theorem d_Law_law_346 : decode b_Law_law 346 = .ok (.iload 4, 2) := by decide +kernel
theorem d_Law_law_348 : decode b_Law_law 348 = .ok (.iconst 2, 1) := by decide +kernel
theorem d_Law_law_349 : decode b_Law_law 349 = .ok (.iadd, 1) := by decide +kernel
theorem d_Law_law_350 : decode b_Law_law 350 = .ok (.iaload, 1) := by decide +kernel
theorem d_Law_law_351 : decode b_Law_law 351 = .ok (.invokevirtual 82, 3) := by decide +kernel
theorem d_Law_law_354 : decode b_Law_law 354 = .ok (.istore 6, 2) := by decide +kernel
theorem d_Law_law_356 : decode b_Law_law 356 = .ok (.aload_n 2, 1) := by decide +kernel
theorem d_Law_law_357 : decode b_Law_law 357 = .ok (.invokevirtual 68, 3) := by decide +kernel
theorem d_Law_law_360 : decode b_Law_law 360 = .ok (.iload 5, 2) := by decide +kernel
theorem d_Law_law_362 : decode b_Law_law 362 = .ok (.if_icmp .eq 5, 3) := by decide +kernel
theorem d_Law_law_365 : decode b_Law_law 365 = .ok (.iconst 0, 1) := by decide +kernel
theorem d_Law_law_366 : decode b_Law_law 366 = .ok (.ireturn, 1) := by decide +kernel
theorem d_Law_law_367 : decode b_Law_law 367 = .ok (.iload 5, 2) := by decide +kernel
theorem d_Law_law_369 : decode b_Law_law 369 = .ok (.ifCond .ne 15, 3) := by decide +kernel
theorem d_Law_law_372 : decode b_Law_law 372 = .ok (.aload_n 3, 1) := by decide +kernel
theorem d_Law_law_373 : decode b_Law_law 373 = .ok (.iconst 0, 1) := by decide +kernel
theorem d_Law_law_374 : decode b_Law_law 374 = .ok (.laload, 1) := by decide +kernel
theorem d_Law_law_375 : decode b_Law_law 375 = .ok (.iload 6, 2) := by decide +kernel
theorem d_Law_law_377 : decode b_Law_law 377 = .ok (.i2l, 1) := by decide +kernel
theorem d_Law_law_378 : decode b_Law_law 378 = .ok (.lcmp, 1) := by decide +kernel
theorem d_Law_law_379 : decode b_Law_law 379 = .ok (.ifCond .eq 5, 3) := by decide +kernel
theorem d_Law_law_382 : decode b_Law_law 382 = .ok (.iconst 0, 1) := by decide +kernel
theorem d_Law_law_383 : decode b_Law_law 383 = .ok (.ireturn, 1) := by decide +kernel
theorem d_Law_law_384 : decode b_Law_law 384 = .ok (.goto 650, 3) := by decide +kernel
theorem d_Law_law_387 : decode b_Law_law 387 = .ok (.aload_n 1, 1) := by decide +kernel
theorem d_Law_law_388 : decode b_Law_law 388 = .ok (.aload_n 0, 1) := by decide +kernel
theorem d_Law_law_389 : decode b_Law_law 389 = .ok (.iload 4, 2) := by decide +kernel
theorem d_Law_law_391 : decode b_Law_law 391 = .ok (.iconst 1, 1) := by decide +kernel
theorem d_Law_law_392 : decode b_Law_law 392 = .ok (.iadd, 1) := by decide +kernel
theorem d_Law_law_393 : decode b_Law_law 393 = .ok (.iaload, 1) := by decide +kernel
theorem d_Law_law_394 : decode b_Law_law 394 = .ok (.aload_n 0, 1) := by decide +kernel
theorem d_Law_law_395 : decode b_Law_law 395 = .ok (.iload 4, 2) := by decide +kernel
theorem d_Law_law_397 : decode b_Law_law 397 = .ok (.iconst 2, 1) := by decide +kernel
theorem d_Law_law_398 : decode b_Law_law 398 = .ok (.iadd, 1) := by decide +kernel
theorem d_Law_law_399 : decode b_Law_law 399 = .ok (.iaload, 1) := by decide +kernel
theorem d_Law_law_400 : decode b_Law_law 400 = .ok (.aload_n 0, 1) := by decide +kernel
theorem d_Law_law_401 : decode b_Law_law 401 = .ok (.iload 4, 2) := by decide +kernel
theorem d_Law_law_403 : decode b_Law_law 403 = .ok (.iconst 3, 1) := by decide +kernel
theorem d_Law_law_404 : decode b_Law_law 404 = .ok (.iadd, 1) := by decide +kernel
theorem d_Law_law_405 : decode b_Law_law 405 = .ok (.iaload, 1) := by decide +kernel
theorem d_Law_law_406 : decode b_Law_law 406 = .ok (.aload_n 3, 1) := by decide +kernel
theorem d_Law_law_407 : decode b_Law_law 407 = .ok (.invokestatic 83, 3) := by decide +kernel
theorem d_Law_law_410 : decode b_Law_law 410 = .ok (.istore 5, 2) := by decide +kernel
theorem d_Law_law_412 : decode b_Law_law 412 = .ok (.aload_n 2, 1) := by decide +kernel
theorem d_Law_law_413 : decode b_Law_law 413 = .ok (.aload_n 0, 1) := by decide +kernel
theorem d_Law_law_414 : decode b_Law_law 414 = .ok (.iload 4, 2) := by decide +kernel
theorem d_Law_law_416 : decode b_Law_law 416 = .ok (.iconst 1, 1) := by decide +kernel
theorem d_Law_law_417 : decode b_Law_law 417 = .ok (.iadd, 1) := by decide +kernel
theorem d_Law_law_418 : decode b_Law_law 418 = .ok (.iaload, 1) := by decide +kernel
theorem d_Law_law_419 : decode b_Law_law 419 = .ok (.aload_n 0, 1) := by decide +kernel
theorem d_Law_law_420 : decode b_Law_law 420 = .ok (.iload 4, 2) := by decide +kernel
theorem d_Law_law_422 : decode b_Law_law 422 = .ok (.iconst 2, 1) := by decide +kernel
theorem d_Law_law_423 : decode b_Law_law 423 = .ok (.iadd, 1) := by decide +kernel
theorem d_Law_law_424 : decode b_Law_law 424 = .ok (.iaload, 1) := by decide +kernel
theorem d_Law_law_425 : decode b_Law_law 425 = .ok (.aload_n 0, 1) := by decide +kernel
theorem d_Law_law_426 : decode b_Law_law 426 = .ok (.iload 4, 2) := by decide +kernel
theorem d_Law_law_428 : decode b_Law_law 428 = .ok (.iconst 3, 1) := by decide +kernel
theorem d_Law_law_429 : decode b_Law_law 429 = .ok (.iadd, 1) := by decide +kernel
theorem d_Law_law_430 : decode b_Law_law 430 = .ok (.iaload, 1) := by decide +kernel
theorem d_Law_law_431 : decode b_Law_law 431 = .ok (.invokevirtual 85, 3) := by decide +kernel
theorem d_Law_law_434 : decode b_Law_law 434 = .ok (.istore 6, 2) := by decide +kernel
theorem d_Law_law_436 : decode b_Law_law 436 = .ok (.aload_n 2, 1) := by decide +kernel
theorem d_Law_law_437 : decode b_Law_law 437 = .ok (.invokevirtual 68, 3) := by decide +kernel
theorem d_Law_law_440 : decode b_Law_law 440 = .ok (.iload 5, 2) := by decide +kernel
theorem d_Law_law_442 : decode b_Law_law 442 = .ok (.if_icmp .eq 5, 3) := by decide +kernel
theorem d_Law_law_445 : decode b_Law_law 445 = .ok (.iconst 0, 1) := by decide +kernel
theorem d_Law_law_446 : decode b_Law_law 446 = .ok (.ireturn, 1) := by decide +kernel
theorem d_Law_law_447 : decode b_Law_law 447 = .ok (.iload 5, 2) := by decide +kernel
theorem d_Law_law_449 : decode b_Law_law 449 = .ok (.ifCond .ne 15, 3) := by decide +kernel
theorem d_Law_law_452 : decode b_Law_law 452 = .ok (.aload_n 3, 1) := by decide +kernel
theorem d_Law_law_453 : decode b_Law_law 453 = .ok (.iconst 0, 1) := by decide +kernel
theorem d_Law_law_454 : decode b_Law_law 454 = .ok (.laload, 1) := by decide +kernel
theorem d_Law_law_455 : decode b_Law_law 455 = .ok (.iload 6, 2) := by decide +kernel
theorem d_Law_law_457 : decode b_Law_law 457 = .ok (.i2l, 1) := by decide +kernel
theorem d_Law_law_458 : decode b_Law_law 458 = .ok (.lcmp, 1) := by decide +kernel
theorem d_Law_law_459 : decode b_Law_law 459 = .ok (.ifCond .eq 5, 3) := by decide +kernel
theorem d_Law_law_462 : decode b_Law_law 462 = .ok (.iconst 0, 1) := by decide +kernel
theorem d_Law_law_463 : decode b_Law_law 463 = .ok (.ireturn, 1) := by decide +kernel
theorem d_Law_law_464 : decode b_Law_law 464 = .ok (.goto 570, 3) := by decide +kernel
theorem d_Law_law_467 : decode b_Law_law 467 = .ok (.aload_n 1, 1) := by decide +kernel
theorem d_Law_law_468 : decode b_Law_law 468 = .ok (.aload_n 0, 1) := by decide +kernel
theorem d_Law_law_469 : decode b_Law_law 469 = .ok (.iload 4, 2) := by decide +kernel
theorem d_Law_law_471 : decode b_Law_law 471 = .ok (.iconst 1, 1) := by decide +kernel
theorem d_Law_law_472 : decode b_Law_law 472 = .ok (.iadd, 1) := by decide +kernel
theorem d_Law_law_473 : decode b_Law_law 473 = .ok (.iaload, 1) := by decide +kernel
theorem d_Law_law_474 : decode b_Law_law 474 = .ok (.aload_n 3, 1) := by decide +kernel
theorem d_Law_law_475 : decode b_Law_law 475 = .ok (.invokestatic 86, 3) := by decide +kernel
theorem d_Law_law_478 : decode b_Law_law 478 = .ok (.istore 5, 2) := by decide +kernel
theorem d_Law_law_480 : decode b_Law_law 480 = .ok (.aload_n 2, 1) := by decide +kernel
theorem d_Law_law_481 : decode b_Law_law 481 = .ok (.aload_n 0, 1) := by decide +kernel
theorem d_Law_law_482 : decode b_Law_law 482 = .ok (.iload 4, 2) := by decide +kernel
theorem d_Law_law_484 : decode b_Law_law 484 = .ok (.iconst 1, 1) := by decide +kernel
theorem d_Law_law_485 : decode b_Law_law 485 = .ok (.iadd, 1) := by decide +kernel
theorem d_Law_law_486 : decode b_Law_law 486 = .ok (.iaload, 1) := by decide +kernel
theorem d_Law_law_487 : decode b_Law_law 487 = .ok (.invokevirtual 88, 3) := by decide +kernel
theorem d_Law_law_490 : decode b_Law_law 490 = .ok (.istore 6, 2) := by decide +kernel
theorem d_Law_law_492 : decode b_Law_law 492 = .ok (.aload_n 2, 1) := by decide +kernel
theorem d_Law_law_493 : decode b_Law_law 493 = .ok (.invokevirtual 68, 3) := by decide +kernel
theorem d_Law_law_496 : decode b_Law_law 496 = .ok (.iload 5, 2) := by decide +kernel
theorem d_Law_law_498 : decode b_Law_law 498 = .ok (.if_icmp .eq 5, 3) := by decide +kernel
theorem d_Law_law_501 : decode b_Law_law 501 = .ok (.iconst 0, 1) := by decide +kernel
theorem d_Law_law_502 : decode b_Law_law 502 = .ok (.ireturn, 1) := by decide +kernel
theorem d_Law_law_503 : decode b_Law_law 503 = .ok (.iload 5, 2) := by decide +kernel
theorem d_Law_law_505 : decode b_Law_law 505 = .ok (.ifCond .ne 15, 3) := by decide +kernel
theorem d_Law_law_508 : decode b_Law_law 508 = .ok (.aload_n 3, 1) := by decide +kernel
theorem d_Law_law_509 : decode b_Law_law 509 = .ok (.iconst 0, 1) := by decide +kernel
theorem d_Law_law_510 : decode b_Law_law 510 = .ok (.laload, 1) := by decide +kernel
theorem d_Law_law_511 : decode b_Law_law 511 = .ok (.iload 6, 2) := by decide +kernel
theorem d_Law_law_513 : decode b_Law_law 513 = .ok (.i2l, 1) := by decide +kernel
theorem d_Law_law_514 : decode b_Law_law 514 = .ok (.lcmp, 1) := by decide +kernel
theorem d_Law_law_515 : decode b_Law_law 515 = .ok (.ifCond .eq 5, 3) := by decide +kernel
theorem d_Law_law_518 : decode b_Law_law 518 = .ok (.iconst 0, 1) := by decide +kernel
theorem d_Law_law_519 : decode b_Law_law 519 = .ok (.ireturn, 1) := by decide +kernel
theorem d_Law_law_520 : decode b_Law_law 520 = .ok (.goto 514, 3) := by decide +kernel
theorem d_Law_law_523 : decode b_Law_law 523 = .ok (.aload_n 1, 1) := by decide +kernel
theorem d_Law_law_524 : decode b_Law_law 524 = .ok (.aload_n 0, 1) := by decide +kernel
theorem d_Law_law_525 : decode b_Law_law 525 = .ok (.iload 4, 2) := by decide +kernel
theorem d_Law_law_527 : decode b_Law_law 527 = .ok (.iconst 1, 1) := by decide +kernel
theorem d_Law_law_528 : decode b_Law_law 528 = .ok (.iadd, 1) := by decide +kernel
theorem d_Law_law_529 : decode b_Law_law 529 = .ok (.iaload, 1) := by decide +kernel
theorem d_Law_law_530 : decode b_Law_law 530 = .ok (.aload_n 0, 1) := by decide +kernel
theorem d_Law_law_531 : decode b_Law_law 531 = .ok (.iload 4, 2) := by decide +kernel
theorem d_Law_law_533 : decode b_Law_law 533 = .ok (.iconst 2, 1) := by decide +kernel
theorem d_Law_law_534 : decode b_Law_law 534 = .ok (.iadd, 1) := by decide +kernel
theorem d_Law_law_535 : decode b_Law_law 535 = .ok (.iaload, 1) := by decide +kernel
theorem d_Law_law_536 : decode b_Law_law 536 = .ok (.aload_n 0, 1) := by decide +kernel
theorem d_Law_law_537 : decode b_Law_law 537 = .ok (.iload 4, 2) := by decide +kernel
theorem d_Law_law_539 : decode b_Law_law 539 = .ok (.iconst 3, 1) := by decide +kernel
theorem d_Law_law_540 : decode b_Law_law 540 = .ok (.iadd, 1) := by decide +kernel
theorem d_Law_law_541 : decode b_Law_law 541 = .ok (.iaload, 1) := by decide +kernel
theorem d_Law_law_542 : decode b_Law_law 542 = .ok (.aload_n 3, 1) := by decide +kernel
theorem d_Law_law_543 : decode b_Law_law 543 = .ok (.invokestatic 89, 3) := by decide +kernel
theorem d_Law_law_546 : decode b_Law_law 546 = .ok (.istore 5, 2) := by decide +kernel
theorem d_Law_law_548 : decode b_Law_law 548 = .ok (.aload_n 2, 1) := by decide +kernel
theorem d_Law_law_549 : decode b_Law_law 549 = .ok (.aload_n 0, 1) := by decide +kernel
theorem d_Law_law_550 : decode b_Law_law 550 = .ok (.iload 4, 2) := by decide +kernel
theorem d_Law_law_552 : decode b_Law_law 552 = .ok (.iconst 1, 1) := by decide +kernel
theorem d_Law_law_553 : decode b_Law_law 553 = .ok (.iadd, 1) := by decide +kernel
theorem d_Law_law_554 : decode b_Law_law 554 = .ok (.iaload, 1) := by decide +kernel
theorem d_Law_law_555 : decode b_Law_law 555 = .ok (.aload_n 0, 1) := by decide +kernel
theorem d_Law_law_556 : decode b_Law_law 556 = .ok (.iload 4, 2) := by decide +kernel
theorem d_Law_law_558 : decode b_Law_law 558 = .ok (.iconst 2, 1) := by decide +kernel
theorem d_Law_law_559 : decode b_Law_law 559 = .ok (.iadd, 1) := by decide +kernel
theorem d_Law_law_560 : decode b_Law_law 560 = .ok (.iaload, 1) := by decide +kernel
theorem d_Law_law_561 : decode b_Law_law 561 = .ok (.aload_n 0, 1) := by decide +kernel
theorem d_Law_law_562 : decode b_Law_law 562 = .ok (.iload 4, 2) := by decide +kernel
theorem d_Law_law_564 : decode b_Law_law 564 = .ok (.iconst 3, 1) := by decide +kernel
theorem d_Law_law_565 : decode b_Law_law 565 = .ok (.iadd, 1) := by decide +kernel
theorem d_Law_law_566 : decode b_Law_law 566 = .ok (.iaload, 1) := by decide +kernel
theorem d_Law_law_567 : decode b_Law_law 567 = .ok (.invokevirtual 91, 3) := by decide +kernel
theorem d_Law_law_570 : decode b_Law_law 570 = .ok (.istore 6, 2) := by decide +kernel
theorem d_Law_law_572 : decode b_Law_law 572 = .ok (.aload_n 2, 1) := by decide +kernel
theorem d_Law_law_573 : decode b_Law_law 573 = .ok (.invokevirtual 68, 3) := by decide +kernel
theorem d_Law_law_576 : decode b_Law_law 576 = .ok (.iload 5, 2) := by decide +kernel
theorem d_Law_law_578 : decode b_Law_law 578 = .ok (.if_icmp .eq 5, 3) := by decide +kernel
theorem d_Law_law_581 : decode b_Law_law 581 = .ok (.iconst 0, 1) := by decide +kernel
theorem d_Law_law_582 : decode b_Law_law 582 = .ok (.ireturn, 1) := by decide +kernel
theorem d_Law_law_583 : decode b_Law_law 583 = .ok (.iload 5, 2) := by decide +kernel
theorem d_Law_law_585 : decode b_Law_law 585 = .ok (.ifCond .ne 15, 3) := by decide +kernel
theorem d_Law_law_588 : decode b_Law_law 588 = .ok (.aload_n 3, 1) := by decide +kernel
theorem d_Law_law_589 : decode b_Law_law 589 = .ok (.iconst 0, 1) := by decide +kernel
theorem d_Law_law_590 : decode b_Law_law 590 = .ok (.laload, 1) := by decide +kernel
theorem d_Law_law_591 : decode b_Law_law 591 = .ok (.iload 6, 2) := by decide +kernel
theorem d_Law_law_593 : decode b_Law_law 593 = .ok (.i2l, 1) := by decide +kernel
theorem d_Law_law_594 : decode b_Law_law 594 = .ok (.lcmp, 1) := by decide +kernel
theorem d_Law_law_595 : decode b_Law_law 595 = .ok (.ifCond .eq 5, 3) := by decide +kernel
theorem d_Law_law_598 : decode b_Law_law 598 = .ok (.iconst 0, 1) := by decide +kernel
theorem d_Law_law_599 : decode b_Law_law 599 = .ok (.ireturn, 1) := by decide +kernel
theorem d_Law_law_600 : decode b_Law_law 600 = .ok (.goto 434, 3) := by decide +kernel
theorem d_Law_law_603 : decode b_Law_law 603 = .ok (.aload_n 1, 1) := by decide +kernel
theorem d_Law_law_604 : decode b_Law_law 604 = .ok (.aload_n 0, 1) := by decide +kernel
theorem d_Law_law_605 : decode b_Law_law 605 = .ok (.iload 4, 2) := by decide +kernel
theorem d_Law_law_607 : decode b_Law_law 607 = .ok (.iconst 1, 1) := by decide +kernel
theorem d_Law_law_608 : decode b_Law_law 608 = .ok (.iadd, 1) := by decide +kernel
theorem d_Law_law_609 : decode b_Law_law 609 = .ok (.iaload, 1) := by decide +kernel
theorem d_Law_law_610 : decode b_Law_law 610 = .ok (.aload_n 0, 1) := by decide +kernel
theorem d_Law_law_611 : decode b_Law_law 611 = .ok (.iload 4, 2) := by decide +kernel
theorem d_Law_law_613 : decode b_Law_law 613 = .ok (.iconst 2, 1) := by decide +kernel
theorem d_Law_law_614 : decode b_Law_law 614 = .ok (.iadd, 1) := by decide +kernel
theorem d_Law_law_615 : decode b_Law_law 615 = .ok (.iaload, 1) := by decide +kernel
theorem d_Law_law_616 : decode b_Law_law 616 = .ok (.aload_n 3, 1) := by decide +kernel
theorem d_Law_law_617 : decode b_Law_law 617 = .ok (.invokestatic 92, 3) := by decide +kernel
theorem d_Law_law_620 : decode b_Law_law 620 = .ok (.istore 5, 2) := by decide +kernel
theorem d_Law_law_622 : decode b_Law_law 622 = .ok (.aload_n 2, 1) := by decide +kernel
theorem d_Law_law_623 : decode b_Law_law 623 = .ok (.aload_n 0, 1) := by decide +kernel
theorem d_Law_law_624 : decode b_Law_law 624 = .ok (.iload 4, 2) := by decide +kernel
theorem d_Law_law_626 : decode b_Law_law 626 = .ok (.iconst 1, 1) := by decide +kernel
theorem d_Law_law_627 : decode b_Law_law 627 = .ok (.iadd, 1) := by decide +kernel
theorem d_Law_law_628 : decode b_Law_law 628 = .ok (.iaload, 1) := by decide +kernel
theorem d_Law_law_629 : decode b_Law_law 629 = .ok (.aload_n 0, 1) := by decide +kernel
theorem d_Law_law_630 : decode b_Law_law 630 = .ok (.iload 4, 2) := by decide +kernel
theorem d_Law_law_632 : decode b_Law_law 632 = .ok (.iconst 2, 1) := by decide +kernel
theorem d_Law_law_633 : decode b_Law_law 633 = .ok (.iadd, 1) := by decide +kernel
theorem d_Law_law_634 : decode b_Law_law 634 = .ok (.iaload, 1) := by decide +kernel
theorem d_Law_law_635 : decode b_Law_law 635 = .ok (.invokevirtual 94, 3) := by decide +kernel
theorem d_Law_law_638 : decode b_Law_law 638 = .ok (.istore 6, 2) := by decide +kernel
theorem d_Law_law_640 : decode b_Law_law 640 = .ok (.aload_n 2, 1) := by decide +kernel
theorem d_Law_law_641 : decode b_Law_law 641 = .ok (.invokevirtual 68, 3) := by decide +kernel
theorem d_Law_law_644 : decode b_Law_law 644 = .ok (.iload 5, 2) := by decide +kernel
theorem d_Law_law_646 : decode b_Law_law 646 = .ok (.if_icmp .eq 5, 3) := by decide +kernel
theorem d_Law_law_649 : decode b_Law_law 649 = .ok (.iconst 0, 1) := by decide +kernel
theorem d_Law_law_650 : decode b_Law_law 650 = .ok (.ireturn, 1) := by decide +kernel
theorem d_Law_law_651 : decode b_Law_law 651 = .ok (.iload 5, 2) := by decide +kernel
theorem d_Law_law_653 : decode b_Law_law 653 = .ok (.ifCond .ne 15, 3) := by decide +kernel
theorem d_Law_law_656 : decode b_Law_law 656 = .ok (.aload_n 3, 1) := by decide +kernel
theorem d_Law_law_657 : decode b_Law_law 657 = .ok (.iconst 0, 1) := by decide +kernel
theorem d_Law_law_658 : decode b_Law_law 658 = .ok (.laload, 1) := by decide +kernel
theorem d_Law_law_659 : decode b_Law_law 659 = .ok (.iload 6, 2) := by decide +kernel
theorem d_Law_law_661 : decode b_Law_law 661 = .ok (.i2l, 1) := by decide +kernel
theorem d_Law_law_662 : decode b_Law_law 662 = .ok (.lcmp, 1) := by decide +kernel
theorem d_Law_law_663 : decode b_Law_law 663 = .ok (.ifCond .eq 5, 3) := by decide +kernel
theorem d_Law_law_666 : decode b_Law_law 666 = .ok (.iconst 0, 1) := by decide +kernel
theorem d_Law_law_667 : decode b_Law_law 667 = .ok (.ireturn, 1) := by decide +kernel
theorem d_Law_law_668 : decode b_Law_law 668 = .ok (.goto 366, 3) := by decide +kernel
theorem d_Law_law_671 : decode b_Law_law 671 = .ok (.aload_n 1, 1) := by decide +kernel
theorem d_Law_law_672 : decode b_Law_law 672 = .ok (.aload_n 0, 1) := by decide +kernel
theorem d_Law_law_673 : decode b_Law_law 673 = .ok (.iload 4, 2) := by decide +kernel
theorem d_Law_law_675 : decode b_Law_law 675 = .ok (.iconst 1, 1) := by decide +kernel
theorem d_Law_law_676 : decode b_Law_law 676 = .ok (.iadd, 1) := by decide +kernel
theorem d_Law_law_677 : decode b_Law_law 677 = .ok (.iaload, 1) := by decide +kernel
theorem d_Law_law_678 : decode b_Law_law 678 = .ok (.aload_n 0, 1) := by decide +kernel
theorem d_Law_law_679 : decode b_Law_law 679 = .ok (.iload 4, 2) := by decide +kernel
theorem d_Law_law_681 : decode b_Law_law 681 = .ok (.iconst 2, 1) := by decide +kernel
theorem d_Law_law_682 : decode b_Law_law 682 = .ok (.iadd, 1) := by decide +kernel
theorem d_Law_law_683 : decode b_Law_law 683 = .ok (.iaload, 1) := by decide +kernel
theorem d_Law_law_684 : decode b_Law_law 684 = .ok (.aload_n 3, 1) := by decide +kernel
theorem d_Law_law_685 : decode b_Law_law 685 = .ok (.invokestatic 95, 3) := by decide +kernel
theorem d_Law_law_688 : decode b_Law_law 688 = .ok (.istore 5, 2) := by decide +kernel
theorem d_Law_law_690 : decode b_Law_law 690 = .ok (.aload_n 2, 1) := by decide +kernel
theorem d_Law_law_691 : decode b_Law_law 691 = .ok (.aload_n 0, 1) := by decide +kernel
theorem d_Law_law_692 : decode b_Law_law 692 = .ok (.iload 4, 2) := by decide +kernel
theorem d_Law_law_694 : decode b_Law_law 694 = .ok (.iconst 1, 1) := by decide +kernel
theorem d_Law_law_695 : decode b_Law_law 695 = .ok (.iadd, 1) := by decide +kernel
theorem d_Law_law_696 : decode b_Law_law 696 = .ok (.iaload, 1) := by decide +kernel
theorem d_Law_law_697 : decode b_Law_law 697 = .ok (.aload_n 0, 1) := by decide +kernel
theorem d_Law_law_698 : decode b_Law_law 698 = .ok (.iload 4, 2) := by decide +kernel
theorem d_Law_law_700 : decode b_Law_law 700 = .ok (.iconst 2, 1) := by decide +kernel
theorem d_Law_law_701 : decode b_Law_law 701 = .ok (.iadd, 1) := by decide +kernel
theorem d_Law_law_702 : decode b_Law_law 702 = .ok (.iaload, 1) := by decide +kernel
theorem d_Law_law_703 : decode b_Law_law 703 = .ok (.invokevirtual 97, 3) := by decide +kernel
theorem d_Law_law_706 : decode b_Law_law 706 = .ok (.istore 6, 2) := by decide +kernel
theorem d_Law_law_708 : decode b_Law_law 708 = .ok (.aload_n 2, 1) := by decide +kernel
theorem d_Law_law_709 : decode b_Law_law 709 = .ok (.invokevirtual 68, 3) := by decide +kernel
theorem d_Law_law_712 : decode b_Law_law 712 = .ok (.iload 5, 2) := by decide +kernel
theorem d_Law_law_714 : decode b_Law_law 714 = .ok (.if_icmp .eq 5, 3) := by decide +kernel
theorem d_Law_law_717 : decode b_Law_law 717 = .ok (.iconst 0, 1) := by decide +kernel
theorem d_Law_law_718 : decode b_Law_law 718 = .ok (.ireturn, 1) := by decide +kernel
theorem d_Law_law_719 : decode b_Law_law 719 = .ok (.iload 5, 2) := by decide +kernel
theorem d_Law_law_721 : decode b_Law_law 721 = .ok (.ifCond .ne 15, 3) := by decide +kernel
theorem d_Law_law_724 : decode b_Law_law 724 = .ok (.aload_n 3, 1) := by decide +kernel
theorem d_Law_law_725 : decode b_Law_law 725 = .ok (.iconst 0, 1) := by decide +kernel
theorem d_Law_law_726 : decode b_Law_law 726 = .ok (.laload, 1) := by decide +kernel
theorem d_Law_law_727 : decode b_Law_law 727 = .ok (.iload 6, 2) := by decide +kernel
theorem d_Law_law_729 : decode b_Law_law 729 = .ok (.i2l, 1) := by decide +kernel
theorem d_Law_law_730 : decode b_Law_law 730 = .ok (.lcmp, 1) := by decide +kernel
theorem d_Law_law_731 : decode b_Law_law 731 = .ok (.ifCond .eq 5, 3) := by decide +kernel
theorem d_Law_law_734 : decode b_Law_law 734 = .ok (.iconst 0, 1) := by decide +kernel
theorem d_Law_law_735 : decode b_Law_law 735 = .ok (.ireturn, 1) := by decide +kernel
theorem d_Law_law_736 : decode b_Law_law 736 = .ok (.goto 298, 3) := by decide +kernel
theorem d_Law_law_739 : decode b_Law_law 739 = .ok (.aload_n 1, 1) := by decide +kernel
theorem d_Law_law_740 : decode b_Law_law 740 = .ok (.aload_n 0, 1) := by decide +kernel
theorem d_Law_law_741 : decode b_Law_law 741 = .ok (.iload 4, 2) := by decide +kernel
theorem d_Law_law_743 : decode b_Law_law 743 = .ok (.iconst 1, 1) := by decide +kernel
theorem d_Law_law_744 : decode b_Law_law 744 = .ok (.iadd, 1) := by decide +kernel
theorem d_Law_law_745 : decode b_Law_law 745 = .ok (.iaload, 1) := by decide +kernel
theorem d_Law_law_746 : decode b_Law_law 746 = .ok (.aload_n 0, 1) := by decide +kernel
theorem d_Law_law_747 : decode b_Law_law 747 = .ok (.iload 4, 2) := by decide +kernel
theorem d_Law_law_749 : decode b_Law_law 749 = .ok (.iconst 2, 1) := by decide +kernel
theorem d_Law_law_750 : decode b_Law_law 750 = .ok (.iadd, 1) := by decide +kernel
theorem d_Law_law_751 : decode b_Law_law 751 = .ok (.iaload, 1) := by decide +kernel
theorem d_Law_law_752 : decode b_Law_law 752 = .ok (.aload_n 3, 1) := by decide +kernel
theorem d_Law_law_753 : decode b_Law_law 753 = .ok (.invokestatic 98, 3) := by decide +kernel
theorem d_Law_law_756 : decode b_Law_law 756 = .ok (.istore 5, 2) := by decide +kernel
theorem d_Law_law_758 : decode b_Law_law 758 = .ok (.aload_n 2, 1) := by decide +kernel
theorem d_Law_law_759 : decode b_Law_law 759 = .ok (.aload_n 0, 1) := by decide +kernel
theorem d_Law_law_760 : decode b_Law_law 760 = .ok (.iload 4, 2) := by decide +kernel
theorem d_Law_law_762 : decode b_Law_law 762 = .ok (.iconst 1, 1) := by decide +kernel
theorem d_Law_law_763 : decode b_Law_law 763 = .ok (.iadd, 1) := by decide +kernel
theorem d_Law_law_764 : decode b_Law_law 764 = .ok (.iaload, 1) := by decide +kernel
theorem d_Law_law_765 : decode b_Law_law 765 = .ok (.aload_n 0, 1) := by decide +kernel
theorem d_Law_law_766 : decode b_Law_law 766 = .ok (.iload 4, 2) := by decide +kernel
theorem d_Law_law_768 : decode b_Law_law 768 = .ok (.iconst 2, 1) := by decide +kernel
theorem d_Law_law_769 : decode b_Law_law 769 = .ok (.iadd, 1) := by decide +kernel
theorem d_Law_law_770 : decode b_Law_law 770 = .ok (.iaload, 1) := by decide +kernel
theorem d_Law_law_771 : decode b_Law_law 771 = .ok (.invokevirtual 100, 3) := by decide +kernel
theorem d_Law_law_774 : decode b_Law_law 774 = .ok (.istore 6, 2) := by decide +kernel
theorem d_Law_law_776 : decode b_Law_law 776 = .ok (.aload_n 2, 1) := by decide +kernel
theorem d_Law_law_777 : decode b_Law_law 777 = .ok (.invokevirtual 68, 3) := by decide +kernel
theorem d_Law_law_780 : decode b_Law_law 780 = .ok (.iload 5, 2) := by decide +kernel
theorem d_Law_law_782 : decode b_Law_law 782 = .ok (.if_icmp .eq 5, 3) := by decide +kernel
theorem d_Law_law_785 : decode b_Law_law 785 = .ok (.iconst 0, 1) := by decide +kernel
theorem d_Law_law_786 : decode b_Law_law 786 = .ok (.ireturn, 1) := by decide +kernel
theorem d_Law_law_787 : decode b_Law_law 787 = .ok (.iload 5, 2) := by decide +kernel
theorem d_Law_law_789 : decode b_Law_law 789 = .ok (.ifCond .ne 15, 3) := by decide +kernel
theorem d_Law_law_792 : decode b_Law_law 792 = .ok (.aload_n 3, 1) := by decide +kernel
theorem d_Law_law_793 : decode b_Law_law 793 = .ok (.iconst 0, 1) := by decide +kernel
theorem d_Law_law_794 : decode b_Law_law 794 = .ok (.laload, 1) := by decide +kernel
theorem d_Law_law_795 : decode b_Law_law 795 = .ok (.iload 6, 2) := by decide +kernel
theorem d_Law_law_797 : decode b_Law_law 797 = .ok (.i2l, 1) := by decide +kernel
theorem d_Law_law_798 : decode b_Law_law 798 = .ok (.lcmp, 1) := by decide +kernel
theorem d_Law_law_799 : decode b_Law_law 799 = .ok (.ifCond .eq 5, 3) := by decide +kernel
theorem d_Law_law_802 : decode b_Law_law 802 = .ok (.iconst 0, 1) := by decide +kernel
theorem d_Law_law_803 : decode b_Law_law 803 = .ok (.ireturn, 1) := by decide +kernel
theorem d_Law_law_804 : decode b_Law_law 804 = .ok (.goto 230, 3) := by decide +kernel
theorem d_Law_law_807 : decode b_Law_law 807 = .ok (.aload_n 1, 1) := by decide +kernel
theorem d_Law_law_808 : decode b_Law_law 808 = .ok (.aload_n 0, 1) := by decide +kernel
theorem d_Law_law_809 : decode b_Law_law 809 = .ok (.iload 4, 2) := by decide +kernel
theorem d_Law_law_811 : decode b_Law_law 811 = .ok (.iconst 1, 1) := by decide +kernel
theorem d_Law_law_812 : decode b_Law_law 812 = .ok (.iadd, 1) := by decide +kernel
theorem d_Law_law_813 : decode b_Law_law 813 = .ok (.iaload, 1) := by decide +kernel
theorem d_Law_law_814 : decode b_Law_law 814 = .ok (.aload_n 0, 1) := by decide +kernel
theorem d_Law_law_815 : decode b_Law_law 815 = .ok (.iload 4, 2) := by decide +kernel
theorem d_Law_law_817 : decode b_Law_law 817 = .ok (.iconst 2, 1) := by decide +kernel
theorem d_Law_law_818 : decode b_Law_law 818 = .ok (.iadd, 1) := by decide +kernel
theorem d_Law_law_819 : decode b_Law_law 819 = .ok (.iaload, 1) := by decide +kernel
theorem d_Law_law_820 : decode b_Law_law 820 = .ok (.aload_n 3, 1) := by decide +kernel
theorem d_Law_law_821 : decode b_Law_law 821 = .ok (.invokestatic 101, 3) := by decide +kernel
theorem d_Law_law_824 : decode b_Law_law 824 = .ok (.istore 5, 2) := by decide +kernel
theorem d_Law_law_826 : decode b_Law_law 826 = .ok (.aload_n 2, 1) := by decide +kernel
theorem d_Law_law_827 : decode b_Law_law 827 = .ok (.aload_n 0, 1) := by decide +kernel
theorem d_Law_law_828 : decode b_Law_law 828 = .ok (.iload 4, 2) := by decide +kernel
theorem d_Law_law_830 : decode b_Law_law 830 = .ok (.iconst 1, 1) := by decide +kernel
theorem d_Law_law_831 : decode b_Law_law 831 = .ok (.iadd, 1) := by decide +kernel
theorem d_Law_law_832 : decode b_Law_law 832 = .ok (.iaload, 1) := by decide +kernel
theorem d_Law_law_833 : decode b_Law_law 833 = .ok (.aload_n 0, 1) := by decide +kernel
theorem d_Law_law_834 : decode b_Law_law 834 = .ok (.iload 4, 2) := by decide +kernel
theorem d_Law_law_836 : decode b_Law_law 836 = .ok (.iconst 2, 1) := by decide +kernel
theorem d_Law_law_837 : decode b_Law_law 837 = .ok (.iadd, 1) := by decide +kernel
theorem d_Law_law_838 : decode b_Law_law 838 = .ok (.iaload, 1) := by decide +kernel
theorem d_Law_law_839 : decode b_Law_law 839 = .ok (.invokevirtual 103, 3) := by decide +kernel
theorem d_Law_law_842 : decode b_Law_law 842 = .ok (.istore 6, 2) := by decide +kernel
theorem d_Law_law_844 : decode b_Law_law 844 = .ok (.aload_n 2, 1) := by decide +kernel
theorem d_Law_law_845 : decode b_Law_law 845 = .ok (.invokevirtual 68, 3) := by decide +kernel
theorem d_Law_law_848 : decode b_Law_law 848 = .ok (.iload 5, 2) := by decide +kernel
theorem d_Law_law_850 : decode b_Law_law 850 = .ok (.if_icmp .eq 5, 3) := by decide +kernel
theorem d_Law_law_853 : decode b_Law_law 853 = .ok (.iconst 0, 1) := by decide +kernel
theorem d_Law_law_854 : decode b_Law_law 854 = .ok (.ireturn, 1) := by decide +kernel
theorem d_Law_law_855 : decode b_Law_law 855 = .ok (.iload 5, 2) := by decide +kernel
theorem d_Law_law_857 : decode b_Law_law 857 = .ok (.ifCond .ne 15, 3) := by decide +kernel
theorem d_Law_law_860 : decode b_Law_law 860 = .ok (.aload_n 3, 1) := by decide +kernel
theorem d_Law_law_861 : decode b_Law_law 861 = .ok (.iconst 0, 1) := by decide +kernel
theorem d_Law_law_862 : decode b_Law_law 862 = .ok (.laload, 1) := by decide +kernel
theorem d_Law_law_863 : decode b_Law_law 863 = .ok (.iload 6, 2) := by decide +kernel
theorem d_Law_law_865 : decode b_Law_law 865 = .ok (.i2l, 1) := by decide +kernel
theorem d_Law_law_866 : decode b_Law_law 866 = .ok (.lcmp, 1) := by decide +kernel
theorem d_Law_law_867 : decode b_Law_law 867 = .ok (.ifCond .eq 5, 3) := by decide +kernel
theorem d_Law_law_870 : decode b_Law_law 870 = .ok (.iconst 0, 1) := by decide +kernel
theorem d_Law_law_871 : decode b_Law_law 871 = .ok (.ireturn, 1) := by decide +kernel
theorem d_Law_law_872 : decode b_Law_law 872 = .ok (.goto 162, 3) := by decide +kernel
theorem d_Law_law_875 : decode b_Law_law 875 = .ok (.aload_n 1, 1) := by decide +kernel
theorem d_Law_law_876 : decode b_Law_law 876 = .ok (.aload_n 0, 1) := by decide +kernel
theorem d_Law_law_877 : decode b_Law_law 877 = .ok (.iload 4, 2) := by decide +kernel
theorem d_Law_law_879 : decode b_Law_law 879 = .ok (.iconst 1, 1) := by decide +kernel
theorem d_Law_law_880 : decode b_Law_law 880 = .ok (.iadd, 1) := by decide +kernel
theorem d_Law_law_881 : decode b_Law_law 881 = .ok (.iaload, 1) := by decide +kernel
theorem d_Law_law_882 : decode b_Law_law 882 = .ok (.aload_n 3, 1) := by decide +kernel
theorem d_Law_law_883 : decode b_Law_law 883 = .ok (.invokestatic 104, 3) := by decide +kernel
theorem d_Law_law_886 : decode b_Law_law 886 = .ok (.istore 5, 2) := by decide +kernel
theorem d_Law_law_888 : decode b_Law_law 888 = .ok (.aload_n 2, 1) := by decide +kernel
theorem d_Law_law_889 : decode b_Law_law 889 = .ok (.aload_n 0, 1) := by decide +kernel
theorem d_Law_law_890 : decode b_Law_law 890 = .ok (.iload 4, 2) := by decide +kernel
theorem d_Law_law_892 : decode b_Law_law 892 = .ok (.iconst 1, 1) := by decide +kernel
theorem d_Law_law_893 : decode b_Law_law 893 = .ok (.iadd, 1) := by decide +kernel
theorem d_Law_law_894 : decode b_Law_law 894 = .ok (.iaload, 1) := by decide +kernel
theorem d_Law_law_895 : decode b_Law_law 895 = .ok (.invokevirtual 106, 3) := by decide +kernel
theorem d_Law_law_898 : decode b_Law_law 898 = .ok (.lstore 6, 2) := by decide +kernel
theorem d_Law_law_900 : decode b_Law_law 900 = .ok (.aload_n 2, 1) := by decide +kernel
theorem d_Law_law_901 : decode b_Law_law 901 = .ok (.invokevirtual 68, 3) := by decide +kernel
theorem d_Law_law_904 : decode b_Law_law 904 = .ok (.iload 5, 2) := by decide +kernel
theorem d_Law_law_906 : decode b_Law_law 906 = .ok (.if_icmp .eq 5, 3) := by decide +kernel
theorem d_Law_law_909 : decode b_Law_law 909 = .ok (.iconst 0, 1) := by decide +kernel
theorem d_Law_law_910 : decode b_Law_law 910 = .ok (.ireturn, 1) := by decide +kernel
theorem d_Law_law_911 : decode b_Law_law 911 = .ok (.iload 5, 2) := by decide +kernel
theorem d_Law_law_913 : decode b_Law_law 913 = .ok (.ifCond .ne 14, 3) := by decide +kernel
theorem d_Law_law_916 : decode b_Law_law 916 = .ok (.aload_n 3, 1) := by decide +kernel
theorem d_Law_law_917 : decode b_Law_law 917 = .ok (.iconst 0, 1) := by decide +kernel
theorem d_Law_law_918 : decode b_Law_law 918 = .ok (.laload, 1) := by decide +kernel
theorem d_Law_law_919 : decode b_Law_law 919 = .ok (.lload 6, 2) := by decide +kernel
theorem d_Law_law_921 : decode b_Law_law 921 = .ok (.lcmp, 1) := by decide +kernel
theorem d_Law_law_922 : decode b_Law_law 922 = .ok (.ifCond .eq 5, 3) := by decide +kernel
theorem d_Law_law_925 : decode b_Law_law 925 = .ok (.iconst 0, 1) := by decide +kernel
theorem d_Law_law_926 : decode b_Law_law 926 = .ok (.ireturn, 1) := by decide +kernel
theorem d_Law_law_927 : decode b_Law_law 927 = .ok (.goto 107, 3) := by decide +kernel
theorem d_Law_law_930 : decode b_Law_law 930 = .ok (.aload_n 1, 1) := by decide +kernel
theorem d_Law_law_931 : decode b_Law_law 931 = .ok (.aload_n 0, 1) := by decide +kernel
theorem d_Law_law_932 : decode b_Law_law 932 = .ok (.iload 4, 2) := by decide +kernel
theorem d_Law_law_934 : decode b_Law_law 934 = .ok (.iconst 1, 1) := by decide +kernel
theorem d_Law_law_935 : decode b_Law_law 935 = .ok (.iadd, 1) := by decide +kernel
theorem d_Law_law_936 : decode b_Law_law 936 = .ok (.iaload, 1) := by decide +kernel
theorem d_Law_law_937 : decode b_Law_law 937 = .ok (.aload_n 0, 1) := by decide +kernel
theorem d_Law_law_938 : decode b_Law_law 938 = .ok (.iload 4, 2) := by decide +kernel
theorem d_Law_law_940 : decode b_Law_law 940 = .ok (.iconst 2, 1) := by decide +kernel
theorem d_Law_law_941 : decode b_Law_law 941 = .ok (.iadd, 1) := by decide +kernel
theorem d_Law_law_942 : decode b_Law_law 942 = .ok (.iaload, 1) := by decide +kernel
theorem d_Law_law_943 : decode b_Law_law 943 = .ok (.aload_n 0, 1) := by decide +kernel
theorem d_Law_law_944 : decode b_Law_law 944 = .ok (.iload 4, 2) := by decide +kernel
theorem d_Law_law_946 : decode b_Law_law 946 = .ok (.iconst 3, 1) := by decide +kernel
theorem d_Law_law_947 : decode b_Law_law 947 = .ok (.iadd, 1) := by decide +kernel
theorem d_Law_law_948 : decode b_Law_law 948 = .ok (.iaload, 1) := by decide +kernel
theorem d_Law_law_949 : decode b_Law_law 949 = .ok (.aload_n 0, 1) := by decide +kernel
theorem d_Law_law_950 : decode b_Law_law 950 = .ok (.iload 4, 2) := by decide +kernel
theorem d_Law_law_952 : decode b_Law_law 952 = .ok (.iconst 4, 1) := by decide +kernel
theorem d_Law_law_953 : decode b_Law_law 953 = .ok (.iadd, 1) := by decide +kernel
theorem d_Law_law_954 : decode b_Law_law 954 = .ok (.iaload, 1) := by decide +kernel
theorem d_Law_law_955 : decode b_Law_law 955 = .ok (.aload_n 0, 1) := by decide +kernel
theorem d_Law_law_956 : decode b_Law_law 956 = .ok (.iload 4, 2) := by decide +kernel
theorem d_Law_law_958 : decode b_Law_law 958 = .ok (.iconst 5, 1) := by decide +kernel
theorem d_Law_law_959 : decode b_Law_law 959 = .ok (.iadd, 1) := by decide +kernel
theorem d_Law_law_960 : decode b_Law_law 960 = .ok (.iaload, 1) := by decide +kernel
theorem d_Law_law_961 : decode b_Law_law 961 = .ok (.aload_n 3, 1) := by decide +kernel
theorem d_Law_law_962 : decode b_Law_law 962 = .ok (.invokestatic 107, 3) := by decide +kernel
theorem d_Law_law_965 : decode b_Law_law 965 = .ok (.istore 5, 2) := by decide +kernel
theorem d_Law_law_967 : decode b_Law_law 967 = .ok (.aload_n 2, 1) := by decide +kernel
theorem d_Law_law_968 : decode b_Law_law 968 = .ok (.aload_n 0, 1) := by decide +kernel
theorem d_Law_law_969 : decode b_Law_law 969 = .ok (.iload 4, 2) := by decide +kernel
theorem d_Law_law_971 : decode b_Law_law 971 = .ok (.iconst 1, 1) := by decide +kernel
theorem d_Law_law_972 : decode b_Law_law 972 = .ok (.iadd, 1) := by decide +kernel
theorem d_Law_law_973 : decode b_Law_law 973 = .ok (.iaload, 1) := by decide +kernel
theorem d_Law_law_974 : decode b_Law_law 974 = .ok (.aload_n 0, 1) := by decide +kernel
theorem d_Law_law_975 : decode b_Law_law 975 = .ok (.iload 4, 2) := by decide +kernel
theorem d_Law_law_977 : decode b_Law_law 977 = .ok (.iconst 2, 1) := by decide +kernel
theorem d_Law_law_978 : decode b_Law_law 978 = .ok (.iadd, 1) := by decide +kernel
theorem d_Law_law_979 : decode b_Law_law 979 = .ok (.iaload, 1) := by decide +kernel
theorem d_Law_law_980 : decode b_Law_law 980 = .ok (.aload_n 0, 1) := by decide +kernel
theorem d_Law_law_981 : decode b_Law_law 981 = .ok (.iload 4, 2) := by decide +kernel
theorem d_Law_law_983 : decode b_Law_law 983 = .ok (.iconst 3, 1) := by decide +kernel
theorem d_Law_law_984 : decode b_Law_law 984 = .ok (.iadd, 1) := by decide +kernel
theorem d_Law_law_985 : decode b_Law_law 985 = .ok (.iaload, 1) := by decide +kernel
theorem d_Law_law_986 : decode b_Law_law 986 = .ok (.aload_n 0, 1) := by decide +kernel
theorem d_Law_law_987 : decode b_Law_law 987 = .ok (.iload 4, 2) := by decide +kernel
theorem d_Law_law_989 : decode b_Law_law 989 = .ok (.iconst 4, 1) := by decide +kernel
theorem d_Law_law_990 : decode b_Law_law 990 = .ok (.iadd, 1) := by decide +kernel
theorem d_Law_law_991 : decode b_Law_law 991 = .ok (.iaload, 1) := by decide +kernel
theorem d_Law_law_992 : decode b_Law_law 992 = .ok (.aload_n 0, 1) := by decide +kernel
theorem d_Law_law_993 : decode b_Law_law 993 = .ok (.iload 4, 2) := by decide +kernel
theorem d_Law_law_995 : decode b_Law_law 995 = .ok (.iconst 5, 1) := by decide +kernel
theorem d_Law_law_996 : decode b_Law_law 996 = .ok (.iadd, 1) := by decide +kernel
theorem d_Law_law_997 : decode b_Law_law 997 = .ok (.iaload, 1) := by decide +kernel
theorem d_Law_law_998 : decode b_Law_law 998 = .ok (.invokevirtual 110, 3) := by decide +kernel
theorem d_Law_law_1001 : decode b_Law_law 1001 = .ok (.istore 6, 2) := by decide +kernel
theorem d_Law_law_1003 : decode b_Law_law 1003 = .ok (.aload_n 2, 1) := by decide +kernel
theorem d_Law_law_1004 : decode b_Law_law 1004 = .ok (.invokevirtual 68, 3) := by decide +kernel
theorem d_Law_law_1007 : decode b_Law_law 1007 = .ok (.iload 5, 2) := by decide +kernel
theorem d_Law_law_1009 : decode b_Law_law 1009 = .ok (.if_icmp .eq 5, 3) := by decide +kernel
theorem d_Law_law_1012 : decode b_Law_law 1012 = .ok (.iconst 0, 1) := by decide +kernel
theorem d_Law_law_1013 : decode b_Law_law 1013 = .ok (.ireturn, 1) := by decide +kernel
theorem d_Law_law_1014 : decode b_Law_law 1014 = .ok (.iload 5, 2) := by decide +kernel
theorem d_Law_law_1016 : decode b_Law_law 1016 = .ok (.ifCond .ne 15, 3) := by decide +kernel
theorem d_Law_law_1019 : decode b_Law_law 1019 = .ok (.aload_n 3, 1) := by decide +kernel
theorem d_Law_law_1020 : decode b_Law_law 1020 = .ok (.iconst 0, 1) := by decide +kernel
theorem d_Law_law_1021 : decode b_Law_law 1021 = .ok (.laload, 1) := by decide +kernel
theorem d_Law_law_1022 : decode b_Law_law 1022 = .ok (.iload 6, 2) := by decide +kernel
theorem d_Law_law_1024 : decode b_Law_law 1024 = .ok (.i2l, 1) := by decide +kernel
theorem d_Law_law_1025 : decode b_Law_law 1025 = .ok (.lcmp, 1) := by decide +kernel
theorem d_Law_law_1026 : decode b_Law_law 1026 = .ok (.ifCond .eq 5, 3) := by decide +kernel
theorem d_Law_law_1029 : decode b_Law_law 1029 = .ok (.iconst 0, 1) := by decide +kernel
theorem d_Law_law_1030 : decode b_Law_law 1030 = .ok (.ireturn, 1) := by decide +kernel
theorem d_Law_law_1031 : decode b_Law_law 1031 = .ok (.goto 3, 3) := by decide +kernel
theorem d_Law_law_1034 : decode b_Law_law 1034 = .ok (.iinc 4 6, 3) := by decide +kernel
theorem d_Law_law_1037 : decode b_Law_law 1037 = .ok (.goto (-1014), 3) := by decide +kernel
theorem d_Law_law_1040 : decode b_Law_law 1040 = .ok (.iconst 1, 1) := by decide +kernel
theorem d_Law_law_1041 : decode b_Law_law 1041 = .ok (.ireturn, 1) := by decide +kernel
