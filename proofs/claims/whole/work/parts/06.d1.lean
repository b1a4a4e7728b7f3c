theorem d_Net_init_0 : decode b_Net_init 0 = .ok (.aload_n 0, 1) := by decide +kernel
theorem d_Net_init_1 : decode b_Net_init 1 = .ok (.invokespecial 3, 3) := by decide +kernel
theorem d_Net_init_4 : decode b_Net_init 4 = .ok (.aload_n 0, 1) := by decide +kernel
theorem d_Net_init_5 : decode b_Net_init 5 = .ok (.bipush 10, 2) := by decide +kernel
theorem d_Net_init_7 : decode b_Net_init 7 = .ok (.newarray .int, 2) := by decide +kernel
theorem d_Net_init_9 : decode b_Net_init 9 = .ok (.putfield 9, 3) := by decide +kernel
theorem d_Net_init_12 : decode b_Net_init 12 = .ok (.aload_n 0, 1) := by decide +kernel
theorem d_Net_init_13 : decode b_Net_init 13 = .ok (.bipush 10, 2) := by decide +kernel
theorem d_Net_init_15 : decode b_Net_init 15 = .ok (.newarray .int, 2) := by decide +kernel
theorem d_Net_init_17 : decode b_Net_init 17 = .ok (.putfield 15, 3) := by decide +kernel
theorem d_Net_init_20 : decode b_Net_init 20 = .ok (.aload_n 0, 1) := by decide +kernel
theorem d_Net_init_21 : decode b_Net_init 21 = .ok (.bipush 10, 2) := by decide +kernel
theorem d_Net_init_23 : decode b_Net_init 23 = .ok (.newarray .int, 2) := by decide +kernel
theorem d_Net_init_25 : decode b_Net_init 25 = .ok (.putfield 18, 3) := by decide +kernel
theorem d_Net_init_28 : decode b_Net_init 28 = .ok (.aload_n 0, 1) := by decide +kernel
theorem d_Net_init_29 : decode b_Net_init 29 = .ok (.bipush 10, 2) := by decide +kernel
theorem d_Net_init_31 : decode b_Net_init 31 = .ok (.newarray .int, 2) := by decide +kernel
theorem d_Net_init_33 : decode b_Net_init 33 = .ok (.putfield 21, 3) := by decide +kernel
theorem d_Net_init_36 : decode b_Net_init 36 = .ok (.aload_n 0, 1) := by decide +kernel
theorem d_Net_init_37 : decode b_Net_init 37 = .ok (.bipush 10, 2) := by decide +kernel
theorem d_Net_init_39 : decode b_Net_init 39 = .ok (.newarray .boolean, 2) := by decide +kernel
theorem d_Net_init_41 : decode b_Net_init 41 = .ok (.putfield 24, 3) := by decide +kernel
theorem d_Net_init_44 : decode b_Net_init 44 = .ok (.return_, 1) := by decide +kernel
theorem d_Net_add_0 : decode b_Net_add 0 = .ok (.aload_n 0, 1) := by decide +kernel
theorem d_Net_add_1 : decode b_Net_add 1 = .ok (.getfield 28, 3) := by decide +kernel
theorem d_Net_add_4 : decode b_Net_add 4 = .ok (.bipush 10, 2) := by decide +kernel
theorem d_Net_add_6 : decode b_Net_add 6 = .ok (.if_icmp .lt 5, 3) := by decide +kernel
theorem d_Net_add_9 : decode b_Net_add 9 = .ok (.iconst (-1), 1) := by decide +kernel
theorem d_Net_add_10 : decode b_Net_add 10 = .ok (.ireturn, 1) := by decide +kernel
theorem d_Net_add_11 : decode b_Net_add 11 = .ok (.aload_n 0, 1) := by decide +kernel
theorem d_Net_add_12 : decode b_Net_add 12 = .ok (.getfield 9, 3) := by decide +kernel
theorem d_Net_add_15 : decode b_Net_add 15 = .ok (.aload_n 0, 1) := by decide +kernel
theorem d_Net_add_16 : decode b_Net_add 16 = .ok (.getfield 28, 3) := by decide +kernel
theorem d_Net_add_19 : decode b_Net_add 19 = .ok (.iload_n 1, 1) := by decide +kernel
theorem d_Net_add_20 : decode b_Net_add 20 = .ok (.iastore, 1) := by decide +kernel
theorem d_Net_add_21 : decode b_Net_add 21 = .ok (.aload_n 0, 1) := by decide +kernel
theorem d_Net_add_22 : decode b_Net_add 22 = .ok (.getfield 15, 3) := by decide +kernel
theorem d_Net_add_25 : decode b_Net_add 25 = .ok (.aload_n 0, 1) := by decide +kernel
theorem d_Net_add_26 : decode b_Net_add 26 = .ok (.getfield 28, 3) := by decide +kernel
theorem d_Net_add_29 : decode b_Net_add 29 = .ok (.iload_n 2, 1) := by decide +kernel
theorem d_Net_add_30 : decode b_Net_add 30 = .ok (.iastore, 1) := by decide +kernel
theorem d_Net_add_31 : decode b_Net_add 31 = .ok (.aload_n 0, 1) := by decide +kernel
theorem d_Net_add_32 : decode b_Net_add 32 = .ok (.getfield 18, 3) := by decide +kernel
theorem d_Net_add_35 : decode b_Net_add 35 = .ok (.aload_n 0, 1) := by decide +kernel
theorem d_Net_add_36 : decode b_Net_add 36 = .ok (.getfield 28, 3) := by decide +kernel
theorem d_Net_add_39 : decode b_Net_add 39 = .ok (.iload_n 3, 1) := by decide +kernel
theorem d_Net_add_40 : decode b_Net_add 40 = .ok (.iastore, 1) := by decide +kernel
theorem d_Net_add_41 : decode b_Net_add 41 = .ok (.aload_n 0, 1) := by decide +kernel
theorem d_Net_add_42 : decode b_Net_add 42 = .ok (.dup, 1) := by decide +kernel
theorem d_Net_add_43 : decode b_Net_add 43 = .ok (.getfield 28, 3) := by decide +kernel
theorem d_Net_add_46 : decode b_Net_add 46 = .ok (.iconst 1, 1) := by decide +kernel
theorem d_Net_add_47 : decode b_Net_add 47 = .ok (.iadd, 1) := by decide +kernel
theorem d_Net_add_48 : decode b_Net_add 48 = .ok (.putfield 28, 3) := by decide +kernel
theorem d_Net_add_51 : decode b_Net_add 51 = .ok (.aload_n 0, 1) := by decide +kernel
theorem d_Net_add_52 : decode b_Net_add 52 = .ok (.getfield 28, 3) := by decide +kernel
theorem d_Net_add_55 : decode b_Net_add 55 = .ok (.iconst 1, 1) := by decide +kernel
theorem d_Net_add_56 : decode b_Net_add 56 = .ok (.isub, 1) := by decide +kernel
theorem d_Net_add_57 : decode b_Net_add 57 = .ok (.ireturn, 1) := by decide +kernel
