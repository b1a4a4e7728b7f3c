theorem d_Plugs_init_0 : decode b_Plugs_init 0 = .ok (.aload_n 0, 1) := by decide +kernel
theorem d_Plugs_init_1 : decode b_Plugs_init 1 = .ok (.invokespecial 3, 3) := by decide +kernel
theorem d_Plugs_init_4 : decode b_Plugs_init 4 = .ok (.iconst 1, 1) := by decide +kernel
theorem d_Plugs_init_5 : decode b_Plugs_init 5 = .ok (.iload_n 1, 1) := by decide +kernel
theorem d_Plugs_init_6 : decode b_Plugs_init 6 = .ok (.invokestatic 9, 3) := by decide +kernel
theorem d_Plugs_init_9 : decode b_Plugs_init 9 = .ok (.istore_n 2, 1) := by decide +kernel
theorem d_Plugs_init_10 : decode b_Plugs_init 10 = .ok (.aload_n 0, 1) := by decide +kernel
theorem d_Plugs_init_11 : decode b_Plugs_init 11 = .ok (.iload_n 2, 1) := by decide +kernel
theorem d_Plugs_init_12 : decode b_Plugs_init 12 = .ok (.newarray .int, 2) := by decide +kernel
theorem d_Plugs_init_14 : decode b_Plugs_init 14 = .ok (.putfield 15, 3) := by decide +kernel
theorem d_Plugs_init_17 : decode b_Plugs_init 17 = .ok (.aload_n 0, 1) := by decide +kernel
theorem d_Plugs_init_18 : decode b_Plugs_init 18 = .ok (.iload_n 2, 1) := by decide +kernel
theorem d_Plugs_init_19 : decode b_Plugs_init 19 = .ok (.newarray .int, 2) := by decide +kernel
theorem d_Plugs_init_21 : decode b_Plugs_init 21 = .ok (.putfield 21, 3) := by decide +kernel
theorem d_Plugs_init_24 : decode b_Plugs_init 24 = .ok (.return_, 1) := by decide +kernel
theorem d_Plugs_add_0 : decode b_Plugs_add 0 = .ok (.iload_n 1, 1) := by decide +kernel
theorem d_Plugs_add_1 : decode b_Plugs_add 1 = .ok (.iconst 1, 1) := by decide +kernel
theorem d_Plugs_add_2 : decode b_Plugs_add 2 = .ok (.if_icmp .ge 4, 3) := by decide +kernel
theorem d_Plugs_add_5 : decode b_Plugs_add 5 = .ok (.return_, 1) := by decide +kernel
theorem d_Plugs_add_6 : decode b_Plugs_add 6 = .ok (.aload_n 0, 1) := by decide +kernel
theorem d_Plugs_add_7 : decode b_Plugs_add 7 = .ok (.getfield 24, 3) := by decide +kernel
theorem d_Plugs_add_10 : decode b_Plugs_add 10 = .ok (.ifCond .le 36, 3) := by decide +kernel
theorem d_Plugs_add_13 : decode b_Plugs_add 13 = .ok (.aload_n 0, 1) := by decide +kernel
theorem d_Plugs_add_14 : decode b_Plugs_add 14 = .ok (.getfield 21, 3) := by decide +kernel
theorem d_Plugs_add_17 : decode b_Plugs_add 17 = .ok (.aload_n 0, 1) := by decide +kernel
theorem d_Plugs_add_18 : decode b_Plugs_add 18 = .ok (.getfield 24, 3) := by decide +kernel
theorem d_Plugs_add_21 : decode b_Plugs_add 21 = .ok (.iconst 1, 1) := by decide +kernel
theorem d_Plugs_add_22 : decode b_Plugs_add 22 = .ok (.isub, 1) := by decide +kernel
theorem d_Plugs_add_23 : decode b_Plugs_add 23 = .ok (.iaload, 1) := by decide +kernel
theorem d_Plugs_add_24 : decode b_Plugs_add 24 = .ok (.iload_n 2, 1) := by decide +kernel
theorem d_Plugs_add_25 : decode b_Plugs_add 25 = .ok (.if_icmp .ne 21, 3) := by decide +kernel
theorem d_Plugs_add_28 : decode b_Plugs_add 28 = .ok (.aload_n 0, 1) := by decide +kernel
theorem d_Plugs_add_29 : decode b_Plugs_add 29 = .ok (.getfield 15, 3) := by decide +kernel
theorem d_Plugs_add_32 : decode b_Plugs_add 32 = .ok (.aload_n 0, 1) := by decide +kernel
theorem d_Plugs_add_33 : decode b_Plugs_add 33 = .ok (.getfield 24, 3) := by decide +kernel
theorem d_Plugs_add_36 : decode b_Plugs_add 36 = .ok (.iconst 1, 1) := by decide +kernel
theorem d_Plugs_add_37 : decode b_Plugs_add 37 = .ok (.isub, 1) := by decide +kernel
theorem d_Plugs_add_38 : decode b_Plugs_add 38 = .ok (.dup2, 1) := by decide +kernel
theorem d_Plugs_add_39 : decode b_Plugs_add 39 = .ok (.iaload, 1) := by decide +kernel
theorem d_Plugs_add_40 : decode b_Plugs_add 40 = .ok (.iload_n 1, 1) := by decide +kernel
theorem d_Plugs_add_41 : decode b_Plugs_add 41 = .ok (.iadd, 1) := by decide +kernel
theorem d_Plugs_add_42 : decode b_Plugs_add 42 = .ok (.iastore, 1) := by decide +kernel
theorem d_Plugs_add_43 : decode b_Plugs_add 43 = .ok (.goto 45, 3) := by decide +kernel
theorem d_Plugs_add_46 : decode b_Plugs_add 46 = .ok (.aload_n 0, 1) := by decide +kernel
theorem d_Plugs_add_47 : decode b_Plugs_add 47 = .ok (.getfield 24, 3) := by decide +kernel
theorem d_Plugs_add_50 : decode b_Plugs_add 50 = .ok (.aload_n 0, 1) := by decide +kernel
theorem d_Plugs_add_51 : decode b_Plugs_add 51 = .ok (.getfield 15, 3) := by decide +kernel
theorem d_Plugs_add_54 : decode b_Plugs_add 54 = .ok (.arraylength, 1) := by decide +kernel
theorem d_Plugs_add_55 : decode b_Plugs_add 55 = .ok (.if_icmp .ge 33, 3) := by decide +kernel
theorem d_Plugs_add_58 : decode b_Plugs_add 58 = .ok (.aload_n 0, 1) := by decide +kernel
theorem d_Plugs_add_59 : decode b_Plugs_add 59 = .ok (.getfield 15, 3) := by decide +kernel
theorem d_Plugs_add_62 : decode b_Plugs_add 62 = .ok (.aload_n 0, 1) := by decide +kernel
theorem d_Plugs_add_63 : decode b_Plugs_add 63 = .ok (.getfield 24, 3) := by decide +kernel
theorem d_Plugs_add_66 : decode b_Plugs_add 66 = .ok (.iload_n 1, 1) := by decide +kernel
theorem d_Plugs_add_67 : decode b_Plugs_add 67 = .ok (.iastore, 1) := by decide +kernel
theorem d_Plugs_add_68 : decode b_Plugs_add 68 = .ok (.aload_n 0, 1) := by decide +kernel
theorem d_Plugs_add_69 : decode b_Plugs_add 69 = .ok (.getfield 21, 3) := by decide +kernel
theorem d_Plugs_add_72 : decode b_Plugs_add 72 = .ok (.aload_n 0, 1) := by decide +kernel
theorem d_Plugs_add_73 : decode b_Plugs_add 73 = .ok (.getfield 24, 3) := by decide +kernel
theorem d_Plugs_add_76 : decode b_Plugs_add 76 = .ok (.iload_n 2, 1) := by decide +kernel
theorem d_Plugs_add_77 : decode b_Plugs_add 77 = .ok (.iastore, 1) := by decide +kernel
theorem d_Plugs_add_78 : decode b_Plugs_add 78 = .ok (.aload_n 0, 1) := by decide +kernel
theorem d_Plugs_add_79 : decode b_Plugs_add 79 = .ok (.dup, 1) := by decide +kernel
theorem d_Plugs_add_80 : decode b_Plugs_add 80 = .ok (.getfield 24, 3) := by decide +kernel
theorem d_Plugs_add_83 : decode b_Plugs_add 83 = .ok (.iconst 1, 1) := by decide +kernel
theorem d_Plugs_add_84 : decode b_Plugs_add 84 = .ok (.iadd, 1) := by decide +kernel
theorem d_Plugs_add_85 : decode b_Plugs_add 85 = .ok (.putfield 24, 3) := by decide +kernel
theorem d_Plugs_add_88 : decode b_Plugs_add 88 = .ok (.return_, 1) := by decide +kernel
theorem d_Plugs_addAll_0 : decode b_Plugs_addAll 0 = .ok (.iconst 0, 1) := by decide +kernel
theorem d_Plugs_addAll_1 : decode b_Plugs_addAll 1 = .ok (.istore_n 2, 1) := by decide +kernel
theorem d_Plugs_addAll_2 : decode b_Plugs_addAll 2 = .ok (.iload_n 2, 1) := by decide +kernel
theorem d_Plugs_addAll_3 : decode b_Plugs_addAll 3 = .ok (.aload_n 1, 1) := by decide +kernel
theorem d_Plugs_addAll_4 : decode b_Plugs_addAll 4 = .ok (.getfield 24, 3) := by decide +kernel
theorem d_Plugs_addAll_7 : decode b_Plugs_addAll 7 = .ok (.if_icmp .ge 25, 3) := by decide +kernel
theorem d_Plugs_addAll_10 : decode b_Plugs_addAll 10 = .ok (.aload_n 0, 1) := by decide +kernel
theorem d_Plugs_addAll_11 : decode b_Plugs_addAll 11 = .ok (.aload_n 1, 1) := by decide +kernel
theorem d_Plugs_addAll_12 : decode b_Plugs_addAll 12 = .ok (.getfield 15, 3) := by decide +kernel
theorem d_Plugs_addAll_15 : decode b_Plugs_addAll 15 = .ok (.iload_n 2, 1) := by decide +kernel
theorem d_Plugs_addAll_16 : decode b_Plugs_addAll 16 = .ok (.iaload, 1) := by decide +kernel
theorem d_Plugs_addAll_17 : decode b_Plugs_addAll 17 = .ok (.aload_n 1, 1) := by decide +kernel
theorem d_Plugs_addAll_18 : decode b_Plugs_addAll 18 = .ok (.getfield 21, 3) := by decide +kernel
theorem d_Plugs_addAll_21 : decode b_Plugs_addAll 21 = .ok (.iload_n 2, 1) := by decide +kernel
theorem d_Plugs_addAll_22 : decode b_Plugs_addAll 22 = .ok (.iaload, 1) := by decide +kernel
theorem d_Plugs_addAll_23 : decode b_Plugs_addAll 23 = .ok (.invokevirtual 28, 3) := by decide +kernel
theorem d_Plugs_addAll_26 : decode b_Plugs_addAll 26 = .ok (.iinc 2 1, 3) := by decide +kernel
theorem d_Plugs_addAll_29 : decode b_Plugs_addAll 29 = .ok (.goto (-27), 3) := by decide +kernel
theorem d_Plugs_addAll_32 : decode b_Plugs_addAll 32 = .ok (.return_, 1) := by decide +kernel
theorem d_Plugs_clear_0 : decode b_Plugs_clear 0 = .ok (.aload_n 0, 1) := by decide +kernel
theorem d_Plugs_clear_1 : decode b_Plugs_clear 1 = .ok (.iconst 0, 1) := by decide +kernel
theorem d_Plugs_clear_2 : decode b_Plugs_clear 2 = .ok (.putfield 24, 3) := by decide +kernel
theorem d_Plugs_clear_5 : decode b_Plugs_clear 5 = .ok (.return_, 1) := by decide +kernel
theorem d_Plugs_split_0 : decode b_Plugs_split 0 = .ok (.aload_n 2, 1) := by decide +kernel
theorem d_Plugs_split_1 : decode b_Plugs_split 1 = .ok (.invokevirtual 32, 3) := by decide +kernel
theorem d_Plugs_split_4 : decode b_Plugs_split 4 = .ok (.aload_n 3, 1) := by decide +kernel
theorem d_Plugs_split_5 : decode b_Plugs_split 5 = .ok (.invokevirtual 32, 3) := by decide +kernel
theorem d_Plugs_split_8 : decode b_Plugs_split 8 = .ok (.iload_n 1, 1) := by decide +kernel
theorem d_Plugs_split_9 : decode b_Plugs_split 9 = .ok (.istore 4, 2) := by decide +kernel
theorem d_Plugs_split_11 : decode b_Plugs_split 11 = .ok (.iconst 0, 1) := by decide +kernel
theorem d_Plugs_split_12 : decode b_Plugs_split 12 = .ok (.istore 5, 2) := by decide +kernel
theorem d_Plugs_split_14 : decode b_Plugs_split 14 = .ok (.iload 5, 2) := by decide +kernel
theorem d_Plugs_split_16 : decode b_Plugs_split 16 = .ok (.aload_n 0, 1) := by decide +kernel
theorem d_Plugs_split_17 : decode b_Plugs_split 17 = .ok (.getfield 24, 3) := by decide +kernel
theorem d_Plugs_split_20 : decode b_Plugs_split 20 = .ok (.if_icmp .ge 64, 3) := by decide +kernel
theorem d_Plugs_split_23 : decode b_Plugs_split 23 = .ok (.iload 4, 2) := by decide +kernel
theorem d_Plugs_split_25 : decode b_Plugs_split 25 = .ok (.aload_n 0, 1) := by decide +kernel
theorem d_Plugs_split_26 : decode b_Plugs_split 26 = .ok (.getfield 15, 3) := by decide +kernel
theorem d_Plugs_split_29 : decode b_Plugs_split 29 = .ok (.iload 5, 2) := by decide +kernel
theorem d_Plugs_split_31 : decode b_Plugs_split 31 = .ok (.iaload, 1) := by decide +kernel
theorem d_Plugs_split_32 : decode b_Plugs_split 32 = .ok (.invokestatic 35, 3) := by decide +kernel
theorem d_Plugs_split_35 : decode b_Plugs_split 35 = .ok (.istore 6, 2) := by decide +kernel
theorem d_Plugs_split_37 : decode b_Plugs_split 37 = .ok (.aload_n 2, 1) := by decide +kernel
theorem d_Plugs_split_38 : decode b_Plugs_split 38 = .ok (.iload 6, 2) := by decide +kernel
theorem d_Plugs_split_40 : decode b_Plugs_split 40 = .ok (.aload_n 0, 1) := by decide +kernel
theorem d_Plugs_split_41 : decode b_Plugs_split 41 = .ok (.getfield 21, 3) := by decide +kernel
theorem d_Plugs_split_44 : decode b_Plugs_split 44 = .ok (.iload 5, 2) := by decide +kernel
theorem d_Plugs_split_46 : decode b_Plugs_split 46 = .ok (.iaload, 1) := by decide +kernel
theorem d_Plugs_split_47 : decode b_Plugs_split 47 = .ok (.invokevirtual 28, 3) := by decide +kernel
theorem d_Plugs_split_50 : decode b_Plugs_split 50 = .ok (.aload_n 3, 1) := by decide +kernel
theorem d_Plugs_split_51 : decode b_Plugs_split 51 = .ok (.aload_n 0, 1) := by decide +kernel
theorem d_Plugs_split_52 : decode b_Plugs_split 52 = .ok (.getfield 15, 3) := by decide +kernel
theorem d_Plugs_split_55 : decode b_Plugs_split 55 = .ok (.iload 5, 2) := by decide +kernel
theorem d_Plugs_split_57 : decode b_Plugs_split 57 = .ok (.iaload, 1) := by decide +kernel
theorem d_Plugs_split_58 : decode b_Plugs_split 58 = .ok (.iload 6, 2) := by decide +kernel
theorem d_Plugs_split_60 : decode b_Plugs_split 60 = .ok (.isub, 1) := by decide +kernel
theorem d_Plugs_split_61 : decode b_Plugs_split 61 = .ok (.aload_n 0, 1) := by decide +kernel
theorem d_Plugs_split_62 : decode b_Plugs_split 62 = .ok (.getfield 21, 3) := by decide +kernel
theorem d_Plugs_split_65 : decode b_Plugs_split 65 = .ok (.iload 5, 2) := by decide +kernel
theorem d_Plugs_split_67 : decode b_Plugs_split 67 = .ok (.iaload, 1) := by decide +kernel
theorem d_Plugs_split_68 : decode b_Plugs_split 68 = .ok (.invokevirtual 28, 3) := by decide +kernel
theorem d_Plugs_split_71 : decode b_Plugs_split 71 = .ok (.iload 4, 2) := by decide +kernel
theorem d_Plugs_split_73 : decode b_Plugs_split 73 = .ok (.iload 6, 2) := by decide +kernel
theorem d_Plugs_split_75 : decode b_Plugs_split 75 = .ok (.isub, 1) := by decide +kernel
theorem d_Plugs_split_76 : decode b_Plugs_split 76 = .ok (.istore 4, 2) := by decide +kernel
theorem d_Plugs_split_78 : decode b_Plugs_split 78 = .ok (.iinc 5 1, 3) := by decide +kernel
theorem d_Plugs_split_81 : decode b_Plugs_split 81 = .ok (.goto (-67), 3) := by decide +kernel
theorem d_Plugs_split_84 : decode b_Plugs_split 84 = .ok (.return_, 1) := by decide +kernel
theorem d_Plugs_thin_0 : decode b_Plugs_thin 0 = .ok (.iconst 0, 1) := by decide +kernel
theorem d_Plugs_thin_1 : decode b_Plugs_thin 1 = .ok (.istore_n 1, 1) := by decide +kernel
theorem d_Plugs_thin_2 : decode b_Plugs_thin 2 = .ok (.aload_n 0, 1) := by decide +kernel
theorem d_Plugs_thin_3 : decode b_Plugs_thin 3 = .ok (.getfield 24, 3) := by decide +kernel
theorem d_Plugs_thin_6 : decode b_Plugs_thin 6 = .ok (.bipush 12, 2) := by decide +kernel
theorem d_Plugs_thin_8 : decode b_Plugs_thin 8 = .ok (.isub, 1) := by decide +kernel
theorem d_Plugs_thin_9 : decode b_Plugs_thin 9 = .ok (.istore_n 2, 1) := by decide +kernel
theorem d_Plugs_thin_10 : decode b_Plugs_thin 10 = .ok (.iload_n 2, 1) := by decide +kernel
theorem d_Plugs_thin_11 : decode b_Plugs_thin 11 = .ok (.ifCond .le 20, 3) := by decide +kernel
theorem d_Plugs_thin_14 : decode b_Plugs_thin 14 = .ok (.iload_n 1, 1) := by decide +kernel
theorem d_Plugs_thin_15 : decode b_Plugs_thin 15 = .ok (.aload_n 0, 1) := by decide +kernel
theorem d_Plugs_thin_16 : decode b_Plugs_thin 16 = .ok (.aload_n 0, 1) := by decide +kernel
theorem d_Plugs_thin_17 : decode b_Plugs_thin 17 = .ok (.invokevirtual 38, 3) := by decide +kernel
theorem d_Plugs_thin_20 : decode b_Plugs_thin 20 = .ok (.invokevirtual 42, 3) := by decide +kernel
theorem d_Plugs_thin_23 : decode b_Plugs_thin 23 = .ok (.iadd, 1) := by decide +kernel
theorem d_Plugs_thin_24 : decode b_Plugs_thin 24 = .ok (.istore_n 1, 1) := by decide +kernel
theorem d_Plugs_thin_25 : decode b_Plugs_thin 25 = .ok (.iinc 2 (-1), 3) := by decide +kernel
theorem d_Plugs_thin_28 : decode b_Plugs_thin 28 = .ok (.goto (-18), 3) := by decide +kernel
theorem d_Plugs_thin_31 : decode b_Plugs_thin 31 = .ok (.iload_n 1, 1) := by decide +kernel
theorem d_Plugs_thin_32 : decode b_Plugs_thin 32 = .ok (.ireturn, 1) := by decide +kernel
theorem d_Plugs_likest_0 : decode b_Plugs_likest 0 = .ok (.iconst 0, 1) := by decide +kernel
theorem d_Plugs_likest_1 : decode b_Plugs_likest 1 = .ok (.istore_n 1, 1) := by decide +kernel
theorem d_Plugs_likest_2 : decode b_Plugs_likest 2 = .ok (.sipush 10001, 3) := by decide +kernel
theorem d_Plugs_likest_5 : decode b_Plugs_likest 5 = .ok (.istore_n 2, 1) := by decide +kernel
theorem d_Plugs_likest_6 : decode b_Plugs_likest 6 = .ok (.iconst 0, 1) := by decide +kernel
theorem d_Plugs_likest_7 : decode b_Plugs_likest 7 = .ok (.istore_n 3, 1) := by decide +kernel
theorem d_Plugs_likest_8 : decode b_Plugs_likest 8 = .ok (.iload_n 3, 1) := by decide +kernel
theorem d_Plugs_likest_9 : decode b_Plugs_likest 9 = .ok (.iconst 1, 1) := by decide +kernel
theorem d_Plugs_likest_10 : decode b_Plugs_likest 10 = .ok (.iadd, 1) := by decide +kernel
theorem d_Plugs_likest_11 : decode b_Plugs_likest 11 = .ok (.aload_n 0, 1) := by decide +kernel
theorem d_Plugs_likest_12 : decode b_Plugs_likest 12 = .ok (.getfield 24, 3) := by decide +kernel
theorem d_Plugs_likest_15 : decode b_Plugs_likest 15 = .ok (.if_icmp .ge 40, 3) := by decide +kernel
theorem d_Plugs_likest_18 : decode b_Plugs_likest 18 = .ok (.aload_n 0, 1) := by decide +kernel
theorem d_Plugs_likest_19 : decode b_Plugs_likest 19 = .ok (.getfield 21, 3) := by decide +kernel
theorem d_Plugs_likest_22 : decode b_Plugs_likest 22 = .ok (.iload_n 3, 1) := by decide +kernel
theorem d_Plugs_likest_23 : decode b_Plugs_likest 23 = .ok (.iaload, 1) := by decide +kernel
theorem d_Plugs_likest_24 : decode b_Plugs_likest 24 = .ok (.aload_n 0, 1) := by decide +kernel
theorem d_Plugs_likest_25 : decode b_Plugs_likest 25 = .ok (.getfield 21, 3) := by decide +kernel
theorem d_Plugs_likest_28 : decode b_Plugs_likest 28 = .ok (.iload_n 3, 1) := by decide +kernel
theorem d_Plugs_likest_29 : decode b_Plugs_likest 29 = .ok (.iconst 1, 1) := by decide +kernel
theorem d_Plugs_likest_30 : decode b_Plugs_likest 30 = .ok (.iadd, 1) := by decide +kernel
theorem d_Plugs_likest_31 : decode b_Plugs_likest 31 = .ok (.iaload, 1) := by decide +kernel
theorem d_Plugs_likest_32 : decode b_Plugs_likest 32 = .ok (.isub, 1) := by decide +kernel
theorem d_Plugs_likest_33 : decode b_Plugs_likest 33 = .ok (.invokestatic 46, 3) := by decide +kernel
theorem d_Plugs_likest_36 : decode b_Plugs_likest 36 = .ok (.istore 4, 2) := by decide +kernel
theorem d_Plugs_likest_38 : decode b_Plugs_likest 38 = .ok (.iload 4, 2) := by decide +kernel
theorem d_Plugs_likest_40 : decode b_Plugs_likest 40 = .ok (.iload_n 2, 1) := by decide +kernel
theorem d_Plugs_likest_41 : decode b_Plugs_likest 41 = .ok (.if_icmp .ge 8, 3) := by decide +kernel
theorem d_Plugs_likest_44 : decode b_Plugs_likest 44 = .ok (.iload_n 3, 1) := by decide +kernel
theorem d_Plugs_likest_45 : decode b_Plugs_likest 45 = .ok (.istore_n 1, 1) := by decide +kernel
theorem d_Plugs_likest_46 : decode b_Plugs_likest 46 = .ok (.iload 4, 2) := by decide +kernel
theorem d_Plugs_likest_48 : decode b_Plugs_likest 48 = .ok (.istore_n 2, 1) := by decide +kernel
theorem d_Plugs_likest_49 : decode b_Plugs_likest 49 = .ok (.iinc 3 1, 3) := by decide +kernel
theorem d_Plugs_likest_52 : decode b_Plugs_likest 52 = .ok (.goto (-44), 3) := by decide +kernel
theorem d_Plugs_likest_55 : decode b_Plugs_likest 55 = .ok (.iload_n 1, 1) := by decide +kernel
theorem d_Plugs_likest_56 : decode b_Plugs_likest 56 = .ok (.ireturn, 1) := by decide +kernel
theorem d_Plugs_joinBehind_0 : decode b_Plugs_joinBehind 0 = .ok (.iload_n 1, 1) := by decide +kernel
theorem d_Plugs_joinBehind_1 : decode b_Plugs_joinBehind 1 = .ok (.ifCond .lt 13, 3) := by decide +kernel
theorem d_Plugs_joinBehind_4 : decode b_Plugs_joinBehind 4 = .ok (.iload_n 1, 1) := by decide +kernel
theorem d_Plugs_joinBehind_5 : decode b_Plugs_joinBehind 5 = .ok (.iconst 1, 1) := by decide +kernel
theorem d_Plugs_joinBehind_6 : decode b_Plugs_joinBehind 6 = .ok (.iadd, 1) := by decide +kernel
theorem d_Plugs_joinBehind_7 : decode b_Plugs_joinBehind 7 = .ok (.aload_n 0, 1) := by decide +kernel
theorem d_Plugs_joinBehind_8 : decode b_Plugs_joinBehind 8 = .ok (.getfield 24, 3) := by decide +kernel
theorem d_Plugs_joinBehind_11 : decode b_Plugs_joinBehind 11 = .ok (.if_icmp .lt 5, 3) := by decide +kernel
theorem d_Plugs_joinBehind_14 : decode b_Plugs_joinBehind 14 = .ok (.iconst 0, 1) := by decide +kernel
theorem d_Plugs_joinBehind_15 : decode b_Plugs_joinBehind 15 = .ok (.ireturn, 1) := by decide +kernel
theorem d_Plugs_joinBehind_16 : decode b_Plugs_joinBehind 16 = .ok (.aload_n 0, 1) := by decide +kernel
theorem d_Plugs_joinBehind_17 : decode b_Plugs_joinBehind 17 = .ok (.getfield 15, 3) := by decide +kernel
theorem d_Plugs_joinBehind_20 : decode b_Plugs_joinBehind 20 = .ok (.iload_n 1, 1) := by decide +kernel
theorem d_Plugs_joinBehind_21 : decode b_Plugs_joinBehind 21 = .ok (.iaload, 1) := by decide +kernel
theorem d_Plugs_joinBehind_22 : decode b_Plugs_joinBehind 22 = .ok (.aload_n 0, 1) := by decide +kernel
theorem d_Plugs_joinBehind_23 : decode b_Plugs_joinBehind 23 = .ok (.getfield 15, 3) := by decide +kernel
theorem d_Plugs_joinBehind_26 : decode b_Plugs_joinBehind 26 = .ok (.iload_n 1, 1) := by decide +kernel
theorem d_Plugs_joinBehind_27 : decode b_Plugs_joinBehind 27 = .ok (.iconst 1, 1) := by decide +kernel
theorem d_Plugs_joinBehind_28 : decode b_Plugs_joinBehind 28 = .ok (.iadd, 1) := by decide +kernel
theorem d_Plugs_joinBehind_29 : decode b_Plugs_joinBehind 29 = .ok (.iaload, 1) := by decide +kernel
theorem d_Plugs_joinBehind_30 : decode b_Plugs_joinBehind 30 = .ok (.iadd, 1) := by decide +kernel
theorem d_Plugs_joinBehind_31 : decode b_Plugs_joinBehind 31 = .ok (.istore_n 2, 1) := by decide +kernel
theorem d_Plugs_joinBehind_32 : decode b_Plugs_joinBehind 32 = .ok (.iload_n 2, 1) := by decide +kernel
theorem d_Plugs_joinBehind_33 : decode b_Plugs_joinBehind 33 = .ok (.iconst 1, 1) := by decide +kernel
theorem d_Plugs_joinBehind_34 : decode b_Plugs_joinBehind 34 = .ok (.if_icmp .ge 5, 3) := by decide +kernel
theorem d_Plugs_joinBehind_37 : decode b_Plugs_joinBehind 37 = .ok (.iconst 0, 1) := by decide +kernel
theorem d_Plugs_joinBehind_38 : decode b_Plugs_joinBehind 38 = .ok (.ireturn, 1) := by decide +kernel
theorem d_Plugs_joinBehind_39 : decode b_Plugs_joinBehind 39 = .ok (.aload_n 0, 1) := by decide +kernel
theorem d_Plugs_joinBehind_40 : decode b_Plugs_joinBehind 40 = .ok (.getfield 15, 3) := by decide +kernel
theorem d_Plugs_joinBehind_43 : decode b_Plugs_joinBehind 43 = .ok (.iload_n 1, 1) := by decide +kernel
theorem d_Plugs_joinBehind_44 : decode b_Plugs_joinBehind 44 = .ok (.iaload, 1) := by decide +kernel
theorem d_Plugs_joinBehind_45 : decode b_Plugs_joinBehind 45 = .ok (.aload_n 0, 1) := by decide +kernel
theorem d_Plugs_joinBehind_46 : decode b_Plugs_joinBehind 46 = .ok (.getfield 21, 3) := by decide +kernel
theorem d_Plugs_joinBehind_49 : decode b_Plugs_joinBehind 49 = .ok (.iload_n 1, 1) := by decide +kernel
theorem d_Plugs_joinBehind_50 : decode b_Plugs_joinBehind 50 = .ok (.iaload, 1) := by decide +kernel
theorem d_Plugs_joinBehind_51 : decode b_Plugs_joinBehind 51 = .ok (.imul, 1) := by decide +kernel
theorem d_Plugs_joinBehind_52 : decode b_Plugs_joinBehind 52 = .ok (.aload_n 0, 1) := by decide +kernel
theorem d_Plugs_joinBehind_53 : decode b_Plugs_joinBehind 53 = .ok (.getfield 15, 3) := by decide +kernel
theorem d_Plugs_joinBehind_56 : decode b_Plugs_joinBehind 56 = .ok (.iload_n 1, 1) := by decide +kernel
theorem d_Plugs_joinBehind_57 : decode b_Plugs_joinBehind 57 = .ok (.iconst 1, 1) := by decide +kernel
theorem d_Plugs_joinBehind_58 : decode b_Plugs_joinBehind 58 = .ok (.iadd, 1) := by decide +kernel
theorem d_Plugs_joinBehind_59 : decode b_Plugs_joinBehind 59 = .ok (.iaload, 1) := by decide +kernel
theorem d_Plugs_joinBehind_60 : decode b_Plugs_joinBehind 60 = .ok (.aload_n 0, 1) := by decide +kernel
theorem d_Plugs_joinBehind_61 : decode b_Plugs_joinBehind 61 = .ok (.getfield 21, 3) := by decide +kernel
theorem d_Plugs_joinBehind_64 : decode b_Plugs_joinBehind 64 = .ok (.iload_n 1, 1) := by decide +kernel
theorem d_Plugs_joinBehind_65 : decode b_Plugs_joinBehind 65 = .ok (.iconst 1, 1) := by decide +kernel
theorem d_Plugs_joinBehind_66 : decode b_Plugs_joinBehind 66 = .ok (.iadd, 1) := by decide +kernel
theorem d_Plugs_joinBehind_67 : decode b_Plugs_joinBehind 67 = .ok (.iaload, 1) := by decide +kernel
theorem d_Plugs_joinBehind_68 : decode b_Plugs_joinBehind 68 = .ok (.imul, 1) := by decide +kernel
theorem d_Plugs_joinBehind_69 : decode b_Plugs_joinBehind 69 = .ok (.iadd, 1) := by decide +kernel
theorem d_Plugs_joinBehind_70 : decode b_Plugs_joinBehind 70 = .ok (.istore_n 3, 1) := by decide +kernel
theorem d_Plugs_joinBehind_71 : decode b_Plugs_joinBehind 71 = .ok (.aload_n 0, 1) := by decide +kernel
theorem d_Plugs_joinBehind_72 : decode b_Plugs_joinBehind 72 = .ok (.getfield 15, 3) := by decide +kernel
theorem d_Plugs_joinBehind_75 : decode b_Plugs_joinBehind 75 = .ok (.iload_n 1, 1) := by decide +kernel
theorem d_Plugs_joinBehind_76 : decode b_Plugs_joinBehind 76 = .ok (.iload_n 2, 1) := by decide +kernel
theorem d_Plugs_joinBehind_77 : decode b_Plugs_joinBehind 77 = .ok (.iastore, 1) := by decide +kernel
theorem d_Plugs_joinBehind_78 : decode b_Plugs_joinBehind 78 = .ok (.aload_n 0, 1) := by decide +kernel
theorem d_Plugs_joinBehind_79 : decode b_Plugs_joinBehind 79 = .ok (.getfield 21, 3) := by decide +kernel
theorem d_Plugs_joinBehind_82 : decode b_Plugs_joinBehind 82 = .ok (.iload_n 1, 1) := by decide +kernel
theorem d_Plugs_joinBehind_83 : decode b_Plugs_joinBehind 83 = .ok (.iload_n 3, 1) := by decide +kernel
theorem d_Plugs_joinBehind_84 : decode b_Plugs_joinBehind 84 = .ok (.iload_n 2, 1) := by decide +kernel
theorem d_Plugs_joinBehind_85 : decode b_Plugs_joinBehind 85 = .ok (.idiv, 1) := by decide +kernel
theorem d_Plugs_joinBehind_86 : decode b_Plugs_joinBehind 86 = .ok (.iastore, 1) := by decide +kernel
theorem d_Plugs_joinBehind_87 : decode b_Plugs_joinBehind 87 = .ok (.iload_n 1, 1) := by decide +kernel
theorem d_Plugs_joinBehind_88 : decode b_Plugs_joinBehind 88 = .ok (.iconst 1, 1) := by decide +kernel
theorem d_Plugs_joinBehind_89 : decode b_Plugs_joinBehind 89 = .ok (.iadd, 1) := by decide +kernel
theorem d_Plugs_joinBehind_90 : decode b_Plugs_joinBehind 90 = .ok (.istore 4, 2) := by decide +kernel
theorem d_Plugs_joinBehind_92 : decode b_Plugs_joinBehind 92 = .ok (.iload 4, 2) := by decide +kernel
theorem d_Plugs_joinBehind_94 : decode b_Plugs_joinBehind 94 = .ok (.iconst 1, 1) := by decide +kernel
theorem d_Plugs_joinBehind_95 : decode b_Plugs_joinBehind 95 = .ok (.iadd, 1) := by decide +kernel
theorem d_Plugs_joinBehind_96 : decode b_Plugs_joinBehind 96 = .ok (.aload_n 0, 1) := by decide +kernel
theorem d_Plugs_joinBehind_97 : decode b_Plugs_joinBehind 97 = .ok (.getfield 24, 3) := by decide +kernel
theorem d_Plugs_joinBehind_100 : decode b_Plugs_joinBehind 100 = .ok (.if_icmp .ge 41, 3) := by decide +kernel
theorem d_Plugs_joinBehind_103 : decode b_Plugs_joinBehind 103 = .ok (.aload_n 0, 1) := by decide +kernel
theorem d_Plugs_joinBehind_104 : decode b_Plugs_joinBehind 104 = .ok (.getfield 15, 3) := by decide +kernel
theorem d_Plugs_joinBehind_107 : decode b_Plugs_joinBehind 107 = .ok (.iload 4, 2) := by decide +kernel
theorem d_Plugs_joinBehind_109 : decode b_Plugs_joinBehind 109 = .ok (.aload_n 0, 1) := by decide +kernel
theorem d_Plugs_joinBehind_110 : decode b_Plugs_joinBehind 110 = .ok (.getfield 15, 3) := by decide +kernel
theorem d_Plugs_joinBehind_113 : decode b_Plugs_joinBehind 113 = .ok (.iload 4, 2) := by decide +kernel
theorem d_Plugs_joinBehind_115 : decode b_Plugs_joinBehind 115 = .ok (.iconst 1, 1) := by decide +kernel
theorem d_Plugs_joinBehind_116 : decode b_Plugs_joinBehind 116 = .ok (.iadd, 1) := by decide +kernel
theorem d_Plugs_joinBehind_117 : decode b_Plugs_joinBehind 117 = .ok (.iaload, 1) := by decide +kernel
theorem d_Plugs_joinBehind_118 : decode b_Plugs_joinBehind 118 = .ok (.iastore, 1) := by decide +kernel
theorem d_Plugs_joinBehind_119 : decode b_Plugs_joinBehind 119 = .ok (.aload_n 0, 1) := by decide +kernel
theorem d_Plugs_joinBehind_120 : decode b_Plugs_joinBehind 120 = .ok (.getfield 21, 3) := by decide +kernel
theorem d_Plugs_joinBehind_123 : decode b_Plugs_joinBehind 123 = .ok (.iload 4, 2) := by decide +kernel
theorem d_Plugs_joinBehind_125 : decode b_Plugs_joinBehind 125 = .ok (.aload_n 0, 1) := by decide +kernel
theorem d_Plugs_joinBehind_126 : decode b_Plugs_joinBehind 126 = .ok (.getfield 21, 3) := by decide +kernel
theorem d_Plugs_joinBehind_129 : decode b_Plugs_joinBehind 129 = .ok (.iload 4, 2) := by decide +kernel
theorem d_Plugs_joinBehind_131 : decode b_Plugs_joinBehind 131 = .ok (.iconst 1, 1) := by decide +kernel
theorem d_Plugs_joinBehind_132 : decode b_Plugs_joinBehind 132 = .ok (.iadd, 1) := by decide +kernel
theorem d_Plugs_joinBehind_133 : decode b_Plugs_joinBehind 133 = .ok (.iaload, 1) := by decide +kernel
theorem d_Plugs_joinBehind_134 : decode b_Plugs_joinBehind 134 = .ok (.iastore, 1) := by decide +kernel
theorem d_Plugs_joinBehind_135 : decode b_Plugs_joinBehind 135 = .ok (.iinc 4 1, 3) := by decide +kernel
theorem d_Plugs_joinBehind_138 : decode b_Plugs_joinBehind 138 = .ok (.goto (-46), 3) := by decide +kernel
theorem d_Plugs_joinBehind_141 : decode b_Plugs_joinBehind 141 = .ok (.aload_n 0, 1) := by decide +kernel
theorem d_Plugs_joinBehind_142 : decode b_Plugs_joinBehind 142 = .ok (.dup, 1) := by decide +kernel
theorem d_Plugs_joinBehind_143 : decode b_Plugs_joinBehind 143 = .ok (.getfield 24, 3) := by decide +kernel
theorem d_Plugs_joinBehind_146 : decode b_Plugs_joinBehind 146 = .ok (.iconst 1, 1) := by decide +kernel
theorem d_Plugs_joinBehind_147 : decode b_Plugs_joinBehind 147 = .ok (.isub, 1) := by decide +kernel
theorem d_Plugs_joinBehind_148 : decode b_Plugs_joinBehind 148 = .ok (.putfield 24, 3) := by decide +kernel
theorem d_Plugs_joinBehind_151 : decode b_Plugs_joinBehind 151 = .ok (.iload_n 3, 1) := by decide +kernel
theorem d_Plugs_joinBehind_152 : decode b_Plugs_joinBehind 152 = .ok (.iload_n 2, 1) := by decide +kernel
theorem d_Plugs_joinBehind_153 : decode b_Plugs_joinBehind 153 = .ok (.irem, 1) := by decide +kernel
theorem d_Plugs_joinBehind_154 : decode b_Plugs_joinBehind 154 = .ok (.ireturn, 1) := by decide +kernel
theorem d_Plugs_cool_0 : decode b_Plugs_cool 0 = .ok (.iconst 1, 1) := by decide +kernel
theorem d_Plugs_cool_1 : decode b_Plugs_cool 1 = .ok (.iload_n 2, 1) := by decide +kernel
theorem d_Plugs_cool_2 : decode b_Plugs_cool 2 = .ok (.invokestatic 9, 3) := by decide +kernel
theorem d_Plugs_cool_5 : decode b_Plugs_cool 5 = .ok (.istore_n 3, 1) := by decide +kernel
theorem d_Plugs_cool_6 : decode b_Plugs_cool 6 = .ok (.lconst 0, 1) := by decide +kernel
theorem d_Plugs_cool_7 : decode b_Plugs_cool 7 = .ok (.lstore 4, 2) := by decide +kernel
theorem d_Plugs_cool_9 : decode b_Plugs_cool 9 = .ok (.aload_n 0, 1) := by decide +kernel
theorem d_Plugs_cool_10 : decode b_Plugs_cool 10 = .ok (.getfield 24, 3) := by decide +kernel
theorem d_Plugs_cool_13 : decode b_Plugs_cool 13 = .ok (.istore 6, 2) := by decide +kernel
theorem d_Plugs_cool_15 : decode b_Plugs_cool 15 = .ok (.aload_n 0, 1) := by decide +kernel
theorem d_Plugs_cool_16 : decode b_Plugs_cool 16 = .ok (.invokevirtual 32, 3) := by decide +kernel
theorem d_Plugs_cool_19 : decode b_Plugs_cool 19 = .ok (.iconst 0, 1) := by decide +kernel
theorem d_Plugs_cool_20 : decode b_Plugs_cool 20 = .ok (.istore 7, 2) := by decide +kernel
theorem d_Plugs_cool_22 : decode b_Plugs_cool 22 = .ok (.iload 7, 2) := by decide +kernel
theorem d_Plugs_cool_24 : decode b_Plugs_cool 24 = .ok (.iload 6, 2) := by decide +kernel
theorem d_Plugs_cool_26 : decode b_Plugs_cool 26 = .ok (.if_icmp .ge 60, 3) := by decide +kernel
theorem d_Plugs_cool_29 : decode b_Plugs_cool 29 = .ok (.aload_n 0, 1) := by decide +kernel
theorem d_Plugs_cool_30 : decode b_Plugs_cool 30 = .ok (.getfield 21, 3) := by decide +kernel
theorem d_Plugs_cool_33 : decode b_Plugs_cool 33 = .ok (.iload 7, 2) := by decide +kernel
theorem d_Plugs_cool_35 : decode b_Plugs_cool 35 = .ok (.iaload, 1) := by decide +kernel
theorem d_Plugs_cool_36 : decode b_Plugs_cool 36 = .ok (.iload_n 1, 1) := by decide +kernel
theorem d_Plugs_cool_37 : decode b_Plugs_cool 37 = .ok (.isub, 1) := by decide +kernel
theorem d_Plugs_cool_38 : decode b_Plugs_cool 38 = .ok (.iload_n 3, 1) := by decide +kernel
theorem d_Plugs_cool_39 : decode b_Plugs_cool 39 = .ok (.idiv, 1) := by decide +kernel
theorem d_Plugs_cool_40 : decode b_Plugs_cool 40 = .ok (.istore 8, 2) := by decide +kernel
theorem d_Plugs_cool_42 : decode b_Plugs_cool 42 = .ok (.lload 4, 2) := by decide +kernel
theorem d_Plugs_cool_44 : decode b_Plugs_cool 44 = .ok (.aload_n 0, 1) := by decide +kernel
theorem d_Plugs_cool_45 : decode b_Plugs_cool 45 = .ok (.getfield 15, 3) := by decide +kernel
theorem d_Plugs_cool_48 : decode b_Plugs_cool 48 = .ok (.iload 7, 2) := by decide +kernel
theorem d_Plugs_cool_50 : decode b_Plugs_cool 50 = .ok (.iaload, 1) := by decide +kernel
theorem d_Plugs_cool_51 : decode b_Plugs_cool 51 = .ok (.i2l, 1) := by decide +kernel
theorem d_Plugs_cool_52 : decode b_Plugs_cool 52 = .ok (.iload 8, 2) := by decide +kernel
theorem d_Plugs_cool_54 : decode b_Plugs_cool 54 = .ok (.i2l, 1) := by decide +kernel
theorem d_Plugs_cool_55 : decode b_Plugs_cool 55 = .ok (.lmul, 1) := by decide +kernel
theorem d_Plugs_cool_56 : decode b_Plugs_cool 56 = .ok (.ladd, 1) := by decide +kernel
theorem d_Plugs_cool_57 : decode b_Plugs_cool 57 = .ok (.lstore 4, 2) := by decide +kernel
theorem d_Plugs_cool_59 : decode b_Plugs_cool 59 = .ok (.aload_n 0, 1) := by decide +kernel
theorem d_Plugs_cool_60 : decode b_Plugs_cool 60 = .ok (.aload_n 0, 1) := by decide +kernel
theorem d_Plugs_cool_61 : decode b_Plugs_cool 61 = .ok (.getfield 15, 3) := by decide +kernel
theorem d_Plugs_cool_64 : decode b_Plugs_cool 64 = .ok (.iload 7, 2) := by decide +kernel
theorem d_Plugs_cool_66 : decode b_Plugs_cool 66 = .ok (.iaload, 1) := by decide +kernel
theorem d_Plugs_cool_67 : decode b_Plugs_cool 67 = .ok (.aload_n 0, 1) := by decide +kernel
theorem d_Plugs_cool_68 : decode b_Plugs_cool 68 = .ok (.getfield 21, 3) := by decide +kernel
theorem d_Plugs_cool_71 : decode b_Plugs_cool 71 = .ok (.iload 7, 2) := by decide +kernel
theorem d_Plugs_cool_73 : decode b_Plugs_cool 73 = .ok (.iaload, 1) := by decide +kernel
theorem d_Plugs_cool_74 : decode b_Plugs_cool 74 = .ok (.iload 8, 2) := by decide +kernel
theorem d_Plugs_cool_76 : decode b_Plugs_cool 76 = .ok (.isub, 1) := by decide +kernel
theorem d_Plugs_cool_77 : decode b_Plugs_cool 77 = .ok (.invokevirtual 28, 3) := by decide +kernel
theorem d_Plugs_cool_80 : decode b_Plugs_cool 80 = .ok (.iinc 7 1, 3) := by decide +kernel
theorem d_Plugs_cool_83 : decode b_Plugs_cool 83 = .ok (.goto (-61), 3) := by decide +kernel
theorem d_Plugs_cool_86 : decode b_Plugs_cool 86 = .ok (.lload 4, 2) := by decide +kernel
theorem d_Plugs_cool_88 : decode b_Plugs_cool 88 = .ok (.lreturn, 1) := by decide +kernel
theorem d_Plugs_volumeTimesWarmth_0 : decode b_Plugs_volumeTimesWarmth 0 = .ok (.lconst 0, 1) := by decide +kernel
theorem d_Plugs_volumeTimesWarmth_1 : decode b_Plugs_volumeTimesWarmth 1 = .ok (.lstore_n 1, 1) := by decide +kernel
theorem d_Plugs_volumeTimesWarmth_2 : decode b_Plugs_volumeTimesWarmth 2 = .ok (.iconst 0, 1) := by decide +kernel
theorem d_Plugs_volumeTimesWarmth_3 : decode b_Plugs_volumeTimesWarmth 3 = .ok (.istore_n 3, 1) := by decide +kernel
theorem d_Plugs_volumeTimesWarmth_4 : decode b_Plugs_volumeTimesWarmth 4 = .ok (.iload_n 3, 1) := by decide +kernel
theorem d_Plugs_volumeTimesWarmth_5 : decode b_Plugs_volumeTimesWarmth 5 = .ok (.aload_n 0, 1) := by decide +kernel
theorem d_Plugs_volumeTimesWarmth_6 : decode b_Plugs_volumeTimesWarmth 6 = .ok (.getfield 24, 3) := by decide +kernel
theorem d_Plugs_volumeTimesWarmth_9 : decode b_Plugs_volumeTimesWarmth 9 = .ok (.if_icmp .ge 27, 3) := by decide +kernel
theorem d_Plugs_volumeTimesWarmth_12 : decode b_Plugs_volumeTimesWarmth 12 = .ok (.lload_n 1, 1) := by decide +kernel
theorem d_Plugs_volumeTimesWarmth_13 : decode b_Plugs_volumeTimesWarmth 13 = .ok (.aload_n 0, 1) := by decide +kernel
theorem d_Plugs_volumeTimesWarmth_14 : decode b_Plugs_volumeTimesWarmth 14 = .ok (.getfield 15, 3) := by decide +kernel
theorem d_Plugs_volumeTimesWarmth_17 : decode b_Plugs_volumeTimesWarmth 17 = .ok (.iload_n 3, 1) := by decide +kernel
theorem d_Plugs_volumeTimesWarmth_18 : decode b_Plugs_volumeTimesWarmth 18 = .ok (.iaload, 1) := by decide +kernel
theorem d_Plugs_volumeTimesWarmth_19 : decode b_Plugs_volumeTimesWarmth 19 = .ok (.i2l, 1) := by decide +kernel
theorem d_Plugs_volumeTimesWarmth_20 : decode b_Plugs_volumeTimesWarmth 20 = .ok (.aload_n 0, 1) := by decide +kernel
theorem d_Plugs_volumeTimesWarmth_21 : decode b_Plugs_volumeTimesWarmth 21 = .ok (.getfield 21, 3) := by decide +kernel
theorem d_Plugs_volumeTimesWarmth_24 : decode b_Plugs_volumeTimesWarmth 24 = .ok (.iload_n 3, 1) := by decide +kernel
theorem d_Plugs_volumeTimesWarmth_25 : decode b_Plugs_volumeTimesWarmth 25 = .ok (.iaload, 1) := by decide +kernel
theorem d_Plugs_volumeTimesWarmth_26 : decode b_Plugs_volumeTimesWarmth 26 = .ok (.i2l, 1) := by decide +kernel
theorem d_Plugs_volumeTimesWarmth_27 : decode b_Plugs_volumeTimesWarmth 27 = .ok (.lmul, 1) := by decide +kernel
theorem d_Plugs_volumeTimesWarmth_28 : decode b_Plugs_volumeTimesWarmth 28 = .ok (.ladd, 1) := by decide +kernel
theorem d_Plugs_volumeTimesWarmth_29 : decode b_Plugs_volumeTimesWarmth 29 = .ok (.lstore_n 1, 1) := by decide +kernel
theorem d_Plugs_volumeTimesWarmth_30 : decode b_Plugs_volumeTimesWarmth 30 = .ok (.iinc 3 1, 3) := by decide +kernel
theorem d_Plugs_volumeTimesWarmth_33 : decode b_Plugs_volumeTimesWarmth 33 = .ok (.goto (-29), 3) := by decide +kernel
theorem d_Plugs_volumeTimesWarmth_36 : decode b_Plugs_volumeTimesWarmth 36 = .ok (.lload_n 1, 1) := by decide +kernel
theorem d_Plugs_volumeTimesWarmth_37 : decode b_Plugs_volumeTimesWarmth 37 = .ok (.lreturn, 1) := by decide +kernel
theorem d_Plugs_least_0 : decode b_Plugs_least 0 = .ok (.sipush 10000, 3) := by decide +kernel
theorem d_Plugs_least_3 : decode b_Plugs_least 3 = .ok (.istore_n 1, 1) := by decide +kernel
theorem d_Plugs_least_4 : decode b_Plugs_least 4 = .ok (.iconst 0, 1) := by decide +kernel
theorem d_Plugs_least_5 : decode b_Plugs_least 5 = .ok (.istore_n 2, 1) := by decide +kernel
theorem d_Plugs_least_6 : decode b_Plugs_least 6 = .ok (.iload_n 2, 1) := by decide +kernel
theorem d_Plugs_least_7 : decode b_Plugs_least 7 = .ok (.aload_n 0, 1) := by decide +kernel
theorem d_Plugs_least_8 : decode b_Plugs_least 8 = .ok (.getfield 24, 3) := by decide +kernel
theorem d_Plugs_least_11 : decode b_Plugs_least 11 = .ok (.if_icmp .ge 20, 3) := by decide +kernel
theorem d_Plugs_least_14 : decode b_Plugs_least 14 = .ok (.iload_n 1, 1) := by decide +kernel
theorem d_Plugs_least_15 : decode b_Plugs_least 15 = .ok (.aload_n 0, 1) := by decide +kernel
theorem d_Plugs_least_16 : decode b_Plugs_least 16 = .ok (.getfield 21, 3) := by decide +kernel
theorem d_Plugs_least_19 : decode b_Plugs_least 19 = .ok (.iload_n 2, 1) := by decide +kernel
theorem d_Plugs_least_20 : decode b_Plugs_least 20 = .ok (.iaload, 1) := by decide +kernel
theorem d_Plugs_least_21 : decode b_Plugs_least 21 = .ok (.invokestatic 35, 3) := by decide +kernel
theorem d_Plugs_least_24 : decode b_Plugs_least 24 = .ok (.istore_n 1, 1) := by decide +kernel
theorem d_Plugs_least_25 : decode b_Plugs_least 25 = .ok (.iinc 2 1, 3) := by decide +kernel
theorem d_Plugs_least_28 : decode b_Plugs_least 28 = .ok (.goto (-22), 3) := by decide +kernel
theorem d_Plugs_least_31 : decode b_Plugs_least 31 = .ok (.iload_n 1, 1) := by decide +kernel
theorem d_Plugs_least_32 : decode b_Plugs_least 32 = .ok (.ireturn, 1) := by decide +kernel
theorem d_Plugs_greatest_0 : decode b_Plugs_greatest 0 = .ok (.iconst 0, 1) := by decide +kernel
theorem d_Plugs_greatest_1 : decode b_Plugs_greatest 1 = .ok (.istore_n 1, 1) := by decide +kernel
theorem d_Plugs_greatest_2 : decode b_Plugs_greatest 2 = .ok (.iconst 0, 1) := by decide +kernel
theorem d_Plugs_greatest_3 : decode b_Plugs_greatest 3 = .ok (.istore_n 2, 1) := by decide +kernel
theorem d_Plugs_greatest_4 : decode b_Plugs_greatest 4 = .ok (.iload_n 2, 1) := by decide +kernel
theorem d_Plugs_greatest_5 : decode b_Plugs_greatest 5 = .ok (.aload_n 0, 1) := by decide +kernel
theorem d_Plugs_greatest_6 : decode b_Plugs_greatest 6 = .ok (.getfield 24, 3) := by decide +kernel
theorem d_Plugs_greatest_9 : decode b_Plugs_greatest 9 = .ok (.if_icmp .ge 20, 3) := by decide +kernel
theorem d_Plugs_greatest_12 : decode b_Plugs_greatest 12 = .ok (.iload_n 1, 1) := by decide +kernel
theorem d_Plugs_greatest_13 : decode b_Plugs_greatest 13 = .ok (.aload_n 0, 1) := by decide +kernel
theorem d_Plugs_greatest_14 : decode b_Plugs_greatest 14 = .ok (.getfield 21, 3) := by decide +kernel
theorem d_Plugs_greatest_17 : decode b_Plugs_greatest 17 = .ok (.iload_n 2, 1) := by decide +kernel
theorem d_Plugs_greatest_18 : decode b_Plugs_greatest 18 = .ok (.iaload, 1) := by decide +kernel
theorem d_Plugs_greatest_19 : decode b_Plugs_greatest 19 = .ok (.invokestatic 9, 3) := by decide +kernel
theorem d_Plugs_greatest_22 : decode b_Plugs_greatest 22 = .ok (.istore_n 1, 1) := by decide +kernel
theorem d_Plugs_greatest_23 : decode b_Plugs_greatest 23 = .ok (.iinc 2 1, 3) := by decide +kernel
theorem d_Plugs_greatest_26 : decode b_Plugs_greatest 26 = .ok (.goto (-22), 3) := by decide +kernel
theorem d_Plugs_greatest_29 : decode b_Plugs_greatest 29 = .ok (.iload_n 1, 1) := by decide +kernel
theorem d_Plugs_greatest_30 : decode b_Plugs_greatest 30 = .ok (.ireturn, 1) := by decide +kernel
