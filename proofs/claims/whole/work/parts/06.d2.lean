theorem d_Draws_init_0 : decode b_Draws_init 0 = .ok (.aload_n 0, 1) := by decide +kernel
theorem d_Draws_init_1 : decode b_Draws_init 1 = .ok (.invokespecial 3, 3) := by decide +kernel
theorem d_Draws_init_4 : decode b_Draws_init 4 = .ok (.aload_n 0, 1) := by decide +kernel
theorem d_Draws_init_5 : decode b_Draws_init 5 = .ok (.bipush 60, 2) := by decide +kernel
theorem d_Draws_init_7 : decode b_Draws_init 7 = .ok (.newarray .int, 2) := by decide +kernel
theorem d_Draws_init_9 : decode b_Draws_init 9 = .ok (.putfield 9, 3) := by decide +kernel
theorem d_Draws_init_12 : decode b_Draws_init 12 = .ok (.aload_n 0, 1) := by decide +kernel
theorem d_Draws_init_13 : decode b_Draws_init 13 = .ok (.bipush 60, 2) := by decide +kernel
theorem d_Draws_init_15 : decode b_Draws_init 15 = .ok (.newarray .int, 2) := by decide +kernel
theorem d_Draws_init_17 : decode b_Draws_init 17 = .ok (.putfield 15, 3) := by decide +kernel
theorem d_Draws_init_20 : decode b_Draws_init 20 = .ok (.aload_n 0, 1) := by decide +kernel
theorem d_Draws_init_21 : decode b_Draws_init 21 = .ok (.bipush 60, 2) := by decide +kernel
theorem d_Draws_init_23 : decode b_Draws_init 23 = .ok (.newarray .int, 2) := by decide +kernel
theorem d_Draws_init_25 : decode b_Draws_init 25 = .ok (.putfield 18, 3) := by decide +kernel
theorem d_Draws_init_28 : decode b_Draws_init 28 = .ok (.aload_n 0, 1) := by decide +kernel
theorem d_Draws_init_29 : decode b_Draws_init 29 = .ok (.bipush 60, 2) := by decide +kernel
theorem d_Draws_init_31 : decode b_Draws_init 31 = .ok (.newarray .int, 2) := by decide +kernel
theorem d_Draws_init_33 : decode b_Draws_init 33 = .ok (.putfield 21, 3) := by decide +kernel
theorem d_Draws_init_36 : decode b_Draws_init 36 = .ok (.aload_n 0, 1) := by decide +kernel
theorem d_Draws_init_37 : decode b_Draws_init 37 = .ok (.bipush 60, 2) := by decide +kernel
theorem d_Draws_init_39 : decode b_Draws_init 39 = .ok (.newarray .int, 2) := by decide +kernel
theorem d_Draws_init_41 : decode b_Draws_init 41 = .ok (.putfield 24, 3) := by decide +kernel
theorem d_Draws_init_44 : decode b_Draws_init 44 = .ok (.aload_n 0, 1) := by decide +kernel
theorem d_Draws_init_45 : decode b_Draws_init 45 = .ok (.bipush 60, 2) := by decide +kernel
theorem d_Draws_init_47 : decode b_Draws_init 47 = .ok (.newarray .int, 2) := by decide +kernel
theorem d_Draws_init_49 : decode b_Draws_init 49 = .ok (.putfield 27, 3) := by decide +kernel
theorem d_Draws_init_52 : decode b_Draws_init 52 = .ok (.return_, 1) := by decide +kernel
theorem d_Draws_add_0 : decode b_Draws_add 0 = .ok (.aload_n 0, 1) := by decide +kernel
theorem d_Draws_add_1 : decode b_Draws_add 1 = .ok (.getfield 30, 3) := by decide +kernel
theorem d_Draws_add_4 : decode b_Draws_add 4 = .ok (.bipush 60, 2) := by decide +kernel
theorem d_Draws_add_6 : decode b_Draws_add 6 = .ok (.if_icmp .lt 5, 3) := by decide +kernel
theorem d_Draws_add_9 : decode b_Draws_add 9 = .ok (.iconst (-1), 1) := by decide +kernel
theorem d_Draws_add_10 : decode b_Draws_add 10 = .ok (.ireturn, 1) := by decide +kernel
theorem d_Draws_add_11 : decode b_Draws_add 11 = .ok (.aload_n 0, 1) := by decide +kernel
theorem d_Draws_add_12 : decode b_Draws_add 12 = .ok (.getfield 9, 3) := by decide +kernel
theorem d_Draws_add_15 : decode b_Draws_add 15 = .ok (.aload_n 0, 1) := by decide +kernel
theorem d_Draws_add_16 : decode b_Draws_add 16 = .ok (.getfield 30, 3) := by decide +kernel
theorem d_Draws_add_19 : decode b_Draws_add 19 = .ok (.iload_n 1, 1) := by decide +kernel
theorem d_Draws_add_20 : decode b_Draws_add 20 = .ok (.iastore, 1) := by decide +kernel
theorem d_Draws_add_21 : decode b_Draws_add 21 = .ok (.aload_n 0, 1) := by decide +kernel
theorem d_Draws_add_22 : decode b_Draws_add 22 = .ok (.getfield 15, 3) := by decide +kernel
theorem d_Draws_add_25 : decode b_Draws_add 25 = .ok (.aload_n 0, 1) := by decide +kernel
theorem d_Draws_add_26 : decode b_Draws_add 26 = .ok (.getfield 30, 3) := by decide +kernel
theorem d_Draws_add_29 : decode b_Draws_add 29 = .ok (.iload_n 2, 1) := by decide +kernel
theorem d_Draws_add_30 : decode b_Draws_add 30 = .ok (.iastore, 1) := by decide +kernel
theorem d_Draws_add_31 : decode b_Draws_add 31 = .ok (.aload_n 0, 1) := by decide +kernel
theorem d_Draws_add_32 : decode b_Draws_add 32 = .ok (.getfield 18, 3) := by decide +kernel
theorem d_Draws_add_35 : decode b_Draws_add 35 = .ok (.aload_n 0, 1) := by decide +kernel
theorem d_Draws_add_36 : decode b_Draws_add 36 = .ok (.getfield 30, 3) := by decide +kernel
theorem d_Draws_add_39 : decode b_Draws_add 39 = .ok (.iload_n 3, 1) := by decide +kernel
theorem d_Draws_add_40 : decode b_Draws_add 40 = .ok (.iastore, 1) := by decide +kernel
theorem d_Draws_add_41 : decode b_Draws_add 41 = .ok (.aload_n 0, 1) := by decide +kernel
theorem d_Draws_add_42 : decode b_Draws_add 42 = .ok (.dup, 1) := by decide +kernel
theorem d_Draws_add_43 : decode b_Draws_add 43 = .ok (.getfield 30, 3) := by decide +kernel
theorem d_Draws_add_46 : decode b_Draws_add 46 = .ok (.iconst 1, 1) := by decide +kernel
theorem d_Draws_add_47 : decode b_Draws_add 47 = .ok (.iadd, 1) := by decide +kernel
theorem d_Draws_add_48 : decode b_Draws_add 48 = .ok (.putfield 30, 3) := by decide +kernel
theorem d_Draws_add_51 : decode b_Draws_add 51 = .ok (.aload_n 0, 1) := by decide +kernel
theorem d_Draws_add_52 : decode b_Draws_add 52 = .ok (.getfield 30, 3) := by decide +kernel
theorem d_Draws_add_55 : decode b_Draws_add 55 = .ok (.iconst 1, 1) := by decide +kernel
theorem d_Draws_add_56 : decode b_Draws_add 56 = .ok (.isub, 1) := by decide +kernel
theorem d_Draws_add_57 : decode b_Draws_add 57 = .ok (.ireturn, 1) := by decide +kernel
theorem d_Draws_keepAnswer_0 : decode b_Draws_keepAnswer 0 = .ok (.iload_n 1, 1) := by decide +kernel
theorem d_Draws_keepAnswer_1 : decode b_Draws_keepAnswer 1 = .ok (.ifCond .lt 11, 3) := by decide +kernel
theorem d_Draws_keepAnswer_4 : decode b_Draws_keepAnswer 4 = .ok (.iload_n 1, 1) := by decide +kernel
theorem d_Draws_keepAnswer_5 : decode b_Draws_keepAnswer 5 = .ok (.aload_n 0, 1) := by decide +kernel
theorem d_Draws_keepAnswer_6 : decode b_Draws_keepAnswer 6 = .ok (.getfield 30, 3) := by decide +kernel
theorem d_Draws_keepAnswer_9 : decode b_Draws_keepAnswer 9 = .ok (.if_icmp .lt 4, 3) := by decide +kernel
theorem d_Draws_keepAnswer_12 : decode b_Draws_keepAnswer 12 = .ok (.return_, 1) := by decide +kernel
theorem d_Draws_keepAnswer_13 : decode b_Draws_keepAnswer 13 = .ok (.aload_n 0, 1) := by decide +kernel
theorem d_Draws_keepAnswer_14 : decode b_Draws_keepAnswer 14 = .ok (.getfield 21, 3) := by decide +kernel
theorem d_Draws_keepAnswer_17 : decode b_Draws_keepAnswer 17 = .ok (.iload_n 1, 1) := by decide +kernel
theorem d_Draws_keepAnswer_18 : decode b_Draws_keepAnswer 18 = .ok (.aload_n 2, 1) := by decide +kernel
theorem d_Draws_keepAnswer_19 : decode b_Draws_keepAnswer 19 = .ok (.invokevirtual 34, 3) := by decide +kernel
theorem d_Draws_keepAnswer_22 : decode b_Draws_keepAnswer 22 = .ok (.iconst 1, 1) := by decide +kernel
theorem d_Draws_keepAnswer_23 : decode b_Draws_keepAnswer 23 = .ok (.aload_n 0, 1) := by decide +kernel
theorem d_Draws_keepAnswer_24 : decode b_Draws_keepAnswer 24 = .ok (.getfield 18, 3) := by decide +kernel
theorem d_Draws_keepAnswer_27 : decode b_Draws_keepAnswer 27 = .ok (.iload_n 1, 1) := by decide +kernel
theorem d_Draws_keepAnswer_28 : decode b_Draws_keepAnswer 28 = .ok (.iaload, 1) := by decide +kernel
theorem d_Draws_keepAnswer_29 : decode b_Draws_keepAnswer 29 = .ok (.invokestatic 40, 3) := by decide +kernel
theorem d_Draws_keepAnswer_32 : decode b_Draws_keepAnswer 32 = .ok (.i2l, 1) := by decide +kernel
theorem d_Draws_keepAnswer_33 : decode b_Draws_keepAnswer 33 = .ok (.ldiv, 1) := by decide +kernel
theorem d_Draws_keepAnswer_34 : decode b_Draws_keepAnswer 34 = .ok (.l2i, 1) := by decide +kernel
theorem d_Draws_keepAnswer_35 : decode b_Draws_keepAnswer 35 = .ok (.iastore, 1) := by decide +kernel
theorem d_Draws_keepAnswer_36 : decode b_Draws_keepAnswer 36 = .ok (.aload_n 0, 1) := by decide +kernel
theorem d_Draws_keepAnswer_37 : decode b_Draws_keepAnswer 37 = .ok (.getfield 24, 3) := by decide +kernel
theorem d_Draws_keepAnswer_40 : decode b_Draws_keepAnswer 40 = .ok (.iload_n 1, 1) := by decide +kernel
theorem d_Draws_keepAnswer_41 : decode b_Draws_keepAnswer 41 = .ok (.aload_n 2, 1) := by decide +kernel
theorem d_Draws_keepAnswer_42 : decode b_Draws_keepAnswer 42 = .ok (.invokevirtual 46, 3) := by decide +kernel
theorem d_Draws_keepAnswer_45 : decode b_Draws_keepAnswer 45 = .ok (.iastore, 1) := by decide +kernel
theorem d_Draws_keepAnswer_46 : decode b_Draws_keepAnswer 46 = .ok (.aload_n 0, 1) := by decide +kernel
theorem d_Draws_keepAnswer_47 : decode b_Draws_keepAnswer 47 = .ok (.getfield 27, 3) := by decide +kernel
theorem d_Draws_keepAnswer_50 : decode b_Draws_keepAnswer 50 = .ok (.iload_n 1, 1) := by decide +kernel
theorem d_Draws_keepAnswer_51 : decode b_Draws_keepAnswer 51 = .ok (.aload_n 2, 1) := by decide +kernel
theorem d_Draws_keepAnswer_52 : decode b_Draws_keepAnswer 52 = .ok (.invokevirtual 50, 3) := by decide +kernel
theorem d_Draws_keepAnswer_55 : decode b_Draws_keepAnswer 55 = .ok (.iastore, 1) := by decide +kernel
theorem d_Draws_keepAnswer_56 : decode b_Draws_keepAnswer 56 = .ok (.return_, 1) := by decide +kernel
