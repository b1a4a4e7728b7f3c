theorem d_Water_init_0 : decode b_Water_init 0 = .ok (.aload_n 0, 1) := by decide +kernel
theorem d_Water_init_1 : decode b_Water_init 1 = .ok (.invokespecial 3, 3) := by decide +kernel
theorem d_Water_init_4 : decode b_Water_init 4 = .ok (.aload_n 0, 1) := by decide +kernel
theorem d_Water_init_5 : decode b_Water_init 5 = .ok (.bipush 10, 2) := by decide +kernel
theorem d_Water_init_7 : decode b_Water_init 7 = .ok (.anewarray 9, 3) := by decide +kernel
theorem d_Water_init_10 : decode b_Water_init 10 = .ok (.putfield 11, 3) := by decide +kernel
theorem d_Water_init_13 : decode b_Water_init 13 = .ok (.aload_n 0, 1) := by decide +kernel
theorem d_Water_init_14 : decode b_Water_init 14 = .ok (.new 9, 3) := by decide +kernel
theorem d_Water_init_17 : decode b_Water_init 17 = .ok (.dup, 1) := by decide +kernel
theorem d_Water_init_18 : decode b_Water_init 18 = .ok (.bipush 121, 2) := by decide +kernel
theorem d_Water_init_20 : decode b_Water_init 20 = .ok (.invokespecial 17, 3) := by decide +kernel
theorem d_Water_init_23 : decode b_Water_init 23 = .ok (.putfield 20, 3) := by decide +kernel
theorem d_Water_init_26 : decode b_Water_init 26 = .ok (.aload_n 0, 1) := by decide +kernel
theorem d_Water_init_27 : decode b_Water_init 27 = .ok (.new 9, 3) := by decide +kernel
theorem d_Water_init_30 : decode b_Water_init 30 = .ok (.dup, 1) := by decide +kernel
theorem d_Water_init_31 : decode b_Water_init 31 = .ok (.bipush 121, 2) := by decide +kernel
theorem d_Water_init_33 : decode b_Water_init 33 = .ok (.invokespecial 17, 3) := by decide +kernel
theorem d_Water_init_36 : decode b_Water_init 36 = .ok (.putfield 24, 3) := by decide +kernel
theorem d_Water_init_39 : decode b_Water_init 39 = .ok (.aload_n 0, 1) := by decide +kernel
theorem d_Water_init_40 : decode b_Water_init 40 = .ok (.new 9, 3) := by decide +kernel
theorem d_Water_init_43 : decode b_Water_init 43 = .ok (.dup, 1) := by decide +kernel
theorem d_Water_init_44 : decode b_Water_init 44 = .ok (.bipush 121, 2) := by decide +kernel
theorem d_Water_init_46 : decode b_Water_init 46 = .ok (.invokespecial 17, 3) := by decide +kernel
theorem d_Water_init_49 : decode b_Water_init 49 = .ok (.putfield 27, 3) := by decide +kernel
theorem d_Water_init_52 : decode b_Water_init 52 = .ok (.aload_n 0, 1) := by decide +kernel
theorem d_Water_init_53 : decode b_Water_init 53 = .ok (.bipush 10, 2) := by decide +kernel
theorem d_Water_init_55 : decode b_Water_init 55 = .ok (.newarray .int, 2) := by decide +kernel
theorem d_Water_init_57 : decode b_Water_init 57 = .ok (.putfield 30, 3) := by decide +kernel
theorem d_Water_init_60 : decode b_Water_init 60 = .ok (.aload_n 0, 1) := by decide +kernel
theorem d_Water_init_61 : decode b_Water_init 61 = .ok (.bipush 10, 2) := by decide +kernel
theorem d_Water_init_63 : decode b_Water_init 63 = .ok (.newarray .int, 2) := by decide +kernel
theorem d_Water_init_65 : decode b_Water_init 65 = .ok (.putfield 34, 3) := by decide +kernel
theorem d_Water_init_68 : decode b_Water_init 68 = .ok (.aload_n 0, 1) := by decide +kernel
theorem d_Water_init_69 : decode b_Water_init 69 = .ok (.bipush 10, 2) := by decide +kernel
theorem d_Water_init_71 : decode b_Water_init 71 = .ok (.newarray .int, 2) := by decide +kernel
theorem d_Water_init_73 : decode b_Water_init 73 = .ok (.putfield 37, 3) := by decide +kernel
theorem d_Water_init_76 : decode b_Water_init 76 = .ok (.aload_n 0, 1) := by decide +kernel
theorem d_Water_init_77 : decode b_Water_init 77 = .ok (.sipush 6000, 3) := by decide +kernel
theorem d_Water_init_80 : decode b_Water_init 80 = .ok (.putfield 40, 3) := by decide +kernel
theorem d_Water_init_83 : decode b_Water_init 83 = .ok (.aload_n 0, 1) := by decide +kernel
theorem d_Water_init_84 : decode b_Water_init 84 = .ok (.sipush 2000, 3) := by decide +kernel
theorem d_Water_init_87 : decode b_Water_init 87 = .ok (.putfield 44, 3) := by decide +kernel
theorem d_Water_init_90 : decode b_Water_init 90 = .ok (.aload_n 0, 1) := by decide +kernel
theorem d_Water_init_91 : decode b_Water_init 91 = .ok (.aload_n 1, 1) := by decide +kernel
theorem d_Water_init_92 : decode b_Water_init 92 = .ok (.putfield 47, 3) := by decide +kernel
theorem d_Water_init_95 : decode b_Water_init 95 = .ok (.iconst 0, 1) := by decide +kernel
theorem d_Water_init_96 : decode b_Water_init 96 = .ok (.istore_n 2, 1) := by decide +kernel
theorem d_Water_init_97 : decode b_Water_init 97 = .ok (.iload_n 2, 1) := by decide +kernel
theorem d_Water_init_98 : decode b_Water_init 98 = .ok (.bipush 10, 2) := by decide +kernel
theorem d_Water_init_100 : decode b_Water_init 100 = .ok (.if_icmp .ge 31, 3) := by decide +kernel
theorem d_Water_init_103 : decode b_Water_init 103 = .ok (.aload_n 0, 1) := by decide +kernel
theorem d_Water_init_104 : decode b_Water_init 104 = .ok (.getfield 11, 3) := by decide +kernel
theorem d_Water_init_107 : decode b_Water_init 107 = .ok (.iload_n 2, 1) := by decide +kernel
theorem d_Water_init_108 : decode b_Water_init 108 = .ok (.new 9, 3) := by decide +kernel
theorem d_Water_init_111 : decode b_Water_init 111 = .ok (.dup, 1) := by decide +kernel
theorem d_Water_init_112 : decode b_Water_init 112 = .ok (.bipush 12, 2) := by decide +kernel
theorem d_Water_init_114 : decode b_Water_init 114 = .ok (.invokespecial 17, 3) := by decide +kernel
theorem d_Water_init_117 : decode b_Water_init 117 = .ok (.aastore, 1) := by decide +kernel
theorem d_Water_init_118 : decode b_Water_init 118 = .ok (.aload_n 0, 1) := by decide +kernel
theorem d_Water_init_119 : decode b_Water_init 119 = .ok (.getfield 34, 3) := by decide +kernel
theorem d_Water_init_122 : decode b_Water_init 122 = .ok (.iload_n 2, 1) := by decide +kernel
theorem d_Water_init_123 : decode b_Water_init 123 = .ok (.iconst (-1), 1) := by decide +kernel
theorem d_Water_init_124 : decode b_Water_init 124 = .ok (.iastore, 1) := by decide +kernel
theorem d_Water_init_125 : decode b_Water_init 125 = .ok (.iinc 2 1, 3) := by decide +kernel
theorem d_Water_init_128 : decode b_Water_init 128 = .ok (.goto (-31), 3) := by decide +kernel
theorem d_Water_init_131 : decode b_Water_init 131 = .ok (.return_, 1) := by decide +kernel
theorem d_Water_copyFrom_0 : decode b_Water_copyFrom 0 = .ok (.iconst 0, 1) := by decide +kernel
theorem d_Water_copyFrom_1 : decode b_Water_copyFrom 1 = .ok (.istore_n 2, 1) := by decide +kernel
theorem d_Water_copyFrom_2 : decode b_Water_copyFrom 2 = .ok (.iload_n 2, 1) := by decide +kernel
theorem d_Water_copyFrom_3 : decode b_Water_copyFrom 3 = .ok (.aload_n 0, 1) := by decide +kernel
theorem d_Water_copyFrom_4 : decode b_Water_copyFrom 4 = .ok (.getfield 47, 3) := by decide +kernel
theorem d_Water_copyFrom_7 : decode b_Water_copyFrom 7 = .ok (.getfield 51, 3) := by decide +kernel
theorem d_Water_copyFrom_10 : decode b_Water_copyFrom 10 = .ok (.if_icmp .ge 33, 3) := by decide +kernel
theorem d_Water_copyFrom_13 : decode b_Water_copyFrom 13 = .ok (.aload_n 0, 1) := by decide +kernel
theorem d_Water_copyFrom_14 : decode b_Water_copyFrom 14 = .ok (.getfield 11, 3) := by decide +kernel
theorem d_Water_copyFrom_17 : decode b_Water_copyFrom 17 = .ok (.iload_n 2, 1) := by decide +kernel
theorem d_Water_copyFrom_18 : decode b_Water_copyFrom 18 = .ok (.aaload, 1) := by decide +kernel
theorem d_Water_copyFrom_19 : decode b_Water_copyFrom 19 = .ok (.invokevirtual 56, 3) := by decide +kernel
theorem d_Water_copyFrom_22 : decode b_Water_copyFrom 22 = .ok (.aload_n 0, 1) := by decide +kernel
theorem d_Water_copyFrom_23 : decode b_Water_copyFrom 23 = .ok (.getfield 11, 3) := by decide +kernel
theorem d_Water_copyFrom_26 : decode b_Water_copyFrom 26 = .ok (.iload_n 2, 1) := by decide +kernel
theorem d_Water_copyFrom_27 : decode b_Water_copyFrom 27 = .ok (.aaload, 1) := by decide +kernel
theorem d_Water_copyFrom_28 : decode b_Water_copyFrom 28 = .ok (.aload_n 1, 1) := by decide +kernel
theorem d_Water_copyFrom_29 : decode b_Water_copyFrom 29 = .ok (.getfield 11, 3) := by decide +kernel
theorem d_Water_copyFrom_32 : decode b_Water_copyFrom 32 = .ok (.iload_n 2, 1) := by decide +kernel
theorem d_Water_copyFrom_33 : decode b_Water_copyFrom 33 = .ok (.aaload, 1) := by decide +kernel
theorem d_Water_copyFrom_34 : decode b_Water_copyFrom 34 = .ok (.invokevirtual 59, 3) := by decide +kernel
theorem d_Water_copyFrom_37 : decode b_Water_copyFrom 37 = .ok (.iinc 2 1, 3) := by decide +kernel
theorem d_Water_copyFrom_40 : decode b_Water_copyFrom 40 = .ok (.goto (-38), 3) := by decide +kernel
theorem d_Water_copyFrom_43 : decode b_Water_copyFrom 43 = .ok (.aload_n 0, 1) := by decide +kernel
theorem d_Water_copyFrom_44 : decode b_Water_copyFrom 44 = .ok (.aload_n 1, 1) := by decide +kernel
theorem d_Water_copyFrom_45 : decode b_Water_copyFrom 45 = .ok (.getfield 44, 3) := by decide +kernel
theorem d_Water_copyFrom_48 : decode b_Water_copyFrom 48 = .ok (.putfield 44, 3) := by decide +kernel
theorem d_Water_copyFrom_51 : decode b_Water_copyFrom 51 = .ok (.return_, 1) := by decide +kernel
theorem d_Water_changeHeat_0 : decode b_Water_changeHeat 0 = .ok (.aload_n 0, 1) := by decide +kernel
theorem d_Water_changeHeat_1 : decode b_Water_changeHeat 1 = .ok (.getfield 40, 3) := by decide +kernel
theorem d_Water_changeHeat_4 : decode b_Water_changeHeat 4 = .ok (.istore_n 2, 1) := by decide +kernel
theorem d_Water_changeHeat_5 : decode b_Water_changeHeat 5 = .ok (.aload_n 0, 1) := by decide +kernel
theorem d_Water_changeHeat_6 : decode b_Water_changeHeat 6 = .ok (.iload_n 1, 1) := by decide +kernel
theorem d_Water_changeHeat_7 : decode b_Water_changeHeat 7 = .ok (.putfield 40, 3) := by decide +kernel
theorem d_Water_changeHeat_10 : decode b_Water_changeHeat 10 = .ok (.iload_n 2, 1) := by decide +kernel
theorem d_Water_changeHeat_11 : decode b_Water_changeHeat 11 = .ok (.ireturn, 1) := by decide +kernel
theorem d_Water_changeAir_0 : decode b_Water_changeAir 0 = .ok (.aload_n 0, 1) := by decide +kernel
theorem d_Water_changeAir_1 : decode b_Water_changeAir 1 = .ok (.getfield 44, 3) := by decide +kernel
theorem d_Water_changeAir_4 : decode b_Water_changeAir 4 = .ok (.istore_n 2, 1) := by decide +kernel
theorem d_Water_changeAir_5 : decode b_Water_changeAir 5 = .ok (.aload_n 0, 1) := by decide +kernel
theorem d_Water_changeAir_6 : decode b_Water_changeAir 6 = .ok (.iload_n 1, 1) := by decide +kernel
theorem d_Water_changeAir_7 : decode b_Water_changeAir 7 = .ok (.putfield 44, 3) := by decide +kernel
theorem d_Water_changeAir_10 : decode b_Water_changeAir 10 = .ok (.aload_n 0, 1) := by decide +kernel
theorem d_Water_changeAir_11 : decode b_Water_changeAir 11 = .ok (.getfield 63, 3) := by decide +kernel
theorem d_Water_changeAir_14 : decode b_Water_changeAir 14 = .ok (.ifCond .ne 27, 3) := by decide +kernel
theorem d_Water_changeAir_17 : decode b_Water_changeAir 17 = .ok (.iconst 0, 1) := by decide +kernel
theorem d_Water_changeAir_18 : decode b_Water_changeAir 18 = .ok (.istore_n 3, 1) := by decide +kernel
theorem d_Water_changeAir_19 : decode b_Water_changeAir 19 = .ok (.iload_n 3, 1) := by decide +kernel
theorem d_Water_changeAir_20 : decode b_Water_changeAir 20 = .ok (.aload_n 0, 1) := by decide +kernel
theorem d_Water_changeAir_21 : decode b_Water_changeAir 21 = .ok (.getfield 47, 3) := by decide +kernel
theorem d_Water_changeAir_24 : decode b_Water_changeAir 24 = .ok (.getfield 51, 3) := by decide +kernel
theorem d_Water_changeAir_27 : decode b_Water_changeAir 27 = .ok (.if_icmp .ge 14, 3) := by decide +kernel
theorem d_Water_changeAir_30 : decode b_Water_changeAir 30 = .ok (.aload_n 0, 1) := by decide +kernel
theorem d_Water_changeAir_31 : decode b_Water_changeAir 31 = .ok (.iload_n 3, 1) := by decide +kernel
theorem d_Water_changeAir_32 : decode b_Water_changeAir 32 = .ok (.invokevirtual 66, 3) := by decide +kernel
theorem d_Water_changeAir_35 : decode b_Water_changeAir 35 = .ok (.iinc 3 1, 3) := by decide +kernel
theorem d_Water_changeAir_38 : decode b_Water_changeAir 38 = .ok (.goto (-19), 3) := by decide +kernel
theorem d_Water_changeAir_41 : decode b_Water_changeAir 41 = .ok (.iload_n 2, 1) := by decide +kernel
theorem d_Water_changeAir_42 : decode b_Water_changeAir 42 = .ok (.ireturn, 1) := by decide +kernel
theorem d_Water_fillWithAir_0 : decode b_Water_fillWithAir 0 = .ok (.iload_n 1, 1) := by decide +kernel
theorem d_Water_fillWithAir_1 : decode b_Water_fillWithAir 1 = .ok (.ifCond .lt 45, 3) := by decide +kernel
theorem d_Water_fillWithAir_4 : decode b_Water_fillWithAir 4 = .ok (.iload_n 1, 1) := by decide +kernel
theorem d_Water_fillWithAir_5 : decode b_Water_fillWithAir 5 = .ok (.aload_n 0, 1) := by decide +kernel
theorem d_Water_fillWithAir_6 : decode b_Water_fillWithAir 6 = .ok (.getfield 47, 3) := by decide +kernel
theorem d_Water_fillWithAir_9 : decode b_Water_fillWithAir 9 = .ok (.getfield 51, 3) := by decide +kernel
theorem d_Water_fillWithAir_12 : decode b_Water_fillWithAir 12 = .ok (.if_icmp .ge 34, 3) := by decide +kernel
theorem d_Water_fillWithAir_15 : decode b_Water_fillWithAir 15 = .ok (.aload_n 0, 1) := by decide +kernel
theorem d_Water_fillWithAir_16 : decode b_Water_fillWithAir 16 = .ok (.getfield 11, 3) := by decide +kernel
theorem d_Water_fillWithAir_19 : decode b_Water_fillWithAir 19 = .ok (.iload_n 1, 1) := by decide +kernel
theorem d_Water_fillWithAir_20 : decode b_Water_fillWithAir 20 = .ok (.aaload, 1) := by decide +kernel
theorem d_Water_fillWithAir_21 : decode b_Water_fillWithAir 21 = .ok (.invokevirtual 56, 3) := by decide +kernel
theorem d_Water_fillWithAir_24 : decode b_Water_fillWithAir 24 = .ok (.aload_n 0, 1) := by decide +kernel
theorem d_Water_fillWithAir_25 : decode b_Water_fillWithAir 25 = .ok (.getfield 11, 3) := by decide +kernel
theorem d_Water_fillWithAir_28 : decode b_Water_fillWithAir 28 = .ok (.iload_n 1, 1) := by decide +kernel
theorem d_Water_fillWithAir_29 : decode b_Water_fillWithAir 29 = .ok (.aaload, 1) := by decide +kernel
theorem d_Water_fillWithAir_30 : decode b_Water_fillWithAir 30 = .ok (.aload_n 0, 1) := by decide +kernel
theorem d_Water_fillWithAir_31 : decode b_Water_fillWithAir 31 = .ok (.getfield 47, 3) := by decide +kernel
theorem d_Water_fillWithAir_34 : decode b_Water_fillWithAir 34 = .ok (.getfield 69, 3) := by decide +kernel
theorem d_Water_fillWithAir_37 : decode b_Water_fillWithAir 37 = .ok (.iload_n 1, 1) := by decide +kernel
theorem d_Water_fillWithAir_38 : decode b_Water_fillWithAir 38 = .ok (.iaload, 1) := by decide +kernel
theorem d_Water_fillWithAir_39 : decode b_Water_fillWithAir 39 = .ok (.aload_n 0, 1) := by decide +kernel
theorem d_Water_fillWithAir_40 : decode b_Water_fillWithAir 40 = .ok (.getfield 44, 3) := by decide +kernel
theorem d_Water_fillWithAir_43 : decode b_Water_fillWithAir 43 = .ok (.invokevirtual 72, 3) := by decide +kernel
theorem d_Water_fillWithAir_46 : decode b_Water_fillWithAir 46 = .ok (.return_, 1) := by decide +kernel
theorem d_Water_takeOut_0 : decode b_Water_takeOut 0 = .ok (.aload_n 0, 1) := by decide +kernel
theorem d_Water_takeOut_1 : decode b_Water_takeOut 1 = .ok (.getfield 20, 3) := by decide +kernel
theorem d_Water_takeOut_4 : decode b_Water_takeOut 4 = .ok (.invokevirtual 56, 3) := by decide +kernel
theorem d_Water_takeOut_7 : decode b_Water_takeOut 7 = .ok (.aload_n 0, 1) := by decide +kernel
theorem d_Water_takeOut_8 : decode b_Water_takeOut 8 = .ok (.getfield 20, 3) := by decide +kernel
theorem d_Water_takeOut_11 : decode b_Water_takeOut 11 = .ok (.iload_n 2, 1) := by decide +kernel
theorem d_Water_takeOut_12 : decode b_Water_takeOut 12 = .ok (.aload_n 0, 1) := by decide +kernel
theorem d_Water_takeOut_13 : decode b_Water_takeOut 13 = .ok (.getfield 40, 3) := by decide +kernel
theorem d_Water_takeOut_16 : decode b_Water_takeOut 16 = .ok (.invokevirtual 72, 3) := by decide +kernel
theorem d_Water_takeOut_19 : decode b_Water_takeOut 19 = .ok (.aload_n 0, 1) := by decide +kernel
theorem d_Water_takeOut_20 : decode b_Water_takeOut 20 = .ok (.dup, 1) := by decide +kernel
theorem d_Water_takeOut_21 : decode b_Water_takeOut 21 = .ok (.getfield 76, 3) := by decide +kernel
theorem d_Water_takeOut_24 : decode b_Water_takeOut 24 = .ok (.aload_n 0, 1) := by decide +kernel
theorem d_Water_takeOut_25 : decode b_Water_takeOut 25 = .ok (.getfield 20, 3) := by decide +kernel
theorem d_Water_takeOut_28 : decode b_Water_takeOut 28 = .ok (.invokevirtual 80, 3) := by decide +kernel
theorem d_Water_takeOut_31 : decode b_Water_takeOut 31 = .ok (.ladd, 1) := by decide +kernel
theorem d_Water_takeOut_32 : decode b_Water_takeOut 32 = .ok (.putfield 76, 3) := by decide +kernel
theorem d_Water_takeOut_35 : decode b_Water_takeOut 35 = .ok (.aload_n 0, 1) := by decide +kernel
theorem d_Water_takeOut_36 : decode b_Water_takeOut 36 = .ok (.iload_n 1, 1) := by decide +kernel
theorem d_Water_takeOut_37 : decode b_Water_takeOut 37 = .ok (.invokevirtual 84, 3) := by decide +kernel
theorem d_Water_takeOut_40 : decode b_Water_takeOut 40 = .ok (.iconst 1, 1) := by decide +kernel
theorem d_Water_takeOut_41 : decode b_Water_takeOut 41 = .ok (.isub, 1) := by decide +kernel
theorem d_Water_takeOut_42 : decode b_Water_takeOut 42 = .ok (.istore_n 3, 1) := by decide +kernel
theorem d_Water_takeOut_43 : decode b_Water_takeOut 43 = .ok (.iload_n 3, 1) := by decide +kernel
theorem d_Water_takeOut_44 : decode b_Water_takeOut 44 = .ok (.ifCond .lt 19, 3) := by decide +kernel
theorem d_Water_takeOut_47 : decode b_Water_takeOut 47 = .ok (.aload_n 0, 1) := by decide +kernel
theorem d_Water_takeOut_48 : decode b_Water_takeOut 48 = .ok (.aload_n 0, 1) := by decide +kernel
theorem d_Water_takeOut_49 : decode b_Water_takeOut 49 = .ok (.getfield 30, 3) := by decide +kernel
theorem d_Water_takeOut_52 : decode b_Water_takeOut 52 = .ok (.iload_n 3, 1) := by decide +kernel
theorem d_Water_takeOut_53 : decode b_Water_takeOut 53 = .ok (.iaload, 1) := by decide +kernel
theorem d_Water_takeOut_54 : decode b_Water_takeOut 54 = .ok (.invokevirtual 88, 3) := by decide +kernel
theorem d_Water_takeOut_57 : decode b_Water_takeOut 57 = .ok (.iinc 3 (-1), 3) := by decide +kernel
theorem d_Water_takeOut_60 : decode b_Water_takeOut 60 = .ok (.goto (-17), 3) := by decide +kernel
theorem d_Water_takeOut_63 : decode b_Water_takeOut 63 = .ok (.aload_n 0, 1) := by decide +kernel
theorem d_Water_takeOut_64 : decode b_Water_takeOut 64 = .ok (.dup, 1) := by decide +kernel
theorem d_Water_takeOut_65 : decode b_Water_takeOut 65 = .ok (.getfield 91, 3) := by decide +kernel
theorem d_Water_takeOut_68 : decode b_Water_takeOut 68 = .ok (.aload_n 0, 1) := by decide +kernel
theorem d_Water_takeOut_69 : decode b_Water_takeOut 69 = .ok (.getfield 20, 3) := by decide +kernel
theorem d_Water_takeOut_72 : decode b_Water_takeOut 72 = .ok (.invokevirtual 80, 3) := by decide +kernel
theorem d_Water_takeOut_75 : decode b_Water_takeOut 75 = .ok (.ladd, 1) := by decide +kernel
theorem d_Water_takeOut_76 : decode b_Water_takeOut 76 = .ok (.putfield 91, 3) := by decide +kernel
theorem d_Water_takeOut_79 : decode b_Water_takeOut 79 = .ok (.return_, 1) := by decide +kernel
theorem d_Water_findWay_0 : decode b_Water_findWay 0 = .ok (.iconst 0, 1) := by decide +kernel
theorem d_Water_findWay_1 : decode b_Water_findWay 1 = .ok (.istore_n 2, 1) := by decide +kernel
theorem d_Water_findWay_2 : decode b_Water_findWay 2 = .ok (.iload_n 1, 1) := by decide +kernel
theorem d_Water_findWay_3 : decode b_Water_findWay 3 = .ok (.istore_n 3, 1) := by decide +kernel
theorem d_Water_findWay_4 : decode b_Water_findWay 4 = .ok (.iload_n 2, 1) := by decide +kernel
theorem d_Water_findWay_5 : decode b_Water_findWay 5 = .ok (.bipush 10, 2) := by decide +kernel
theorem d_Water_findWay_7 : decode b_Water_findWay 7 = .ok (.if_icmp .ge 41, 3) := by decide +kernel
theorem d_Water_findWay_10 : decode b_Water_findWay 10 = .ok (.iload_n 3, 1) := by decide +kernel
theorem d_Water_findWay_11 : decode b_Water_findWay 11 = .ok (.ifCond .lt 37, 3) := by decide +kernel
theorem d_Water_findWay_14 : decode b_Water_findWay 14 = .ok (.iload_n 3, 1) := by decide +kernel
theorem d_Water_findWay_15 : decode b_Water_findWay 15 = .ok (.aload_n 0, 1) := by decide +kernel
theorem d_Water_findWay_16 : decode b_Water_findWay 16 = .ok (.getfield 47, 3) := by decide +kernel
theorem d_Water_findWay_19 : decode b_Water_findWay 19 = .ok (.getfield 51, 3) := by decide +kernel
theorem d_Water_findWay_22 : decode b_Water_findWay 22 = .ok (.if_icmp .ge 26, 3) := by decide +kernel
theorem d_Water_findWay_25 : decode b_Water_findWay 25 = .ok (.aload_n 0, 1) := by decide +kernel
theorem d_Water_findWay_26 : decode b_Water_findWay 26 = .ok (.getfield 30, 3) := by decide +kernel
theorem d_Water_findWay_29 : decode b_Water_findWay 29 = .ok (.iload_n 2, 1) := by decide +kernel
theorem d_Water_findWay_30 : decode b_Water_findWay 30 = .ok (.iload_n 3, 1) := by decide +kernel
theorem d_Water_findWay_31 : decode b_Water_findWay 31 = .ok (.iastore, 1) := by decide +kernel
theorem d_Water_findWay_32 : decode b_Water_findWay 32 = .ok (.iinc 2 1, 3) := by decide +kernel
theorem d_Water_findWay_35 : decode b_Water_findWay 35 = .ok (.aload_n 0, 1) := by decide +kernel
theorem d_Water_findWay_36 : decode b_Water_findWay 36 = .ok (.getfield 47, 3) := by decide +kernel
theorem d_Water_findWay_39 : decode b_Water_findWay 39 = .ok (.getfield 94, 3) := by decide +kernel
theorem d_Water_findWay_42 : decode b_Water_findWay 42 = .ok (.iload_n 3, 1) := by decide +kernel
theorem d_Water_findWay_43 : decode b_Water_findWay 43 = .ok (.iaload, 1) := by decide +kernel
theorem d_Water_findWay_44 : decode b_Water_findWay 44 = .ok (.istore_n 3, 1) := by decide +kernel
theorem d_Water_findWay_45 : decode b_Water_findWay 45 = .ok (.goto (-41), 3) := by decide +kernel
theorem d_Water_findWay_48 : decode b_Water_findWay 48 = .ok (.iload_n 2, 1) := by decide +kernel
theorem d_Water_findWay_49 : decode b_Water_findWay 49 = .ok (.ireturn, 1) := by decide +kernel
theorem d_Water_pushThrough_0 : decode b_Water_pushThrough 0 = .ok (.aload_n 0, 1) := by decide +kernel
theorem d_Water_pushThrough_1 : decode b_Water_pushThrough 1 = .ok (.getfield 11, 3) := by decide +kernel
theorem d_Water_pushThrough_4 : decode b_Water_pushThrough 4 = .ok (.iload_n 1, 1) := by decide +kernel
theorem d_Water_pushThrough_5 : decode b_Water_pushThrough 5 = .ok (.aaload, 1) := by decide +kernel
theorem d_Water_pushThrough_6 : decode b_Water_pushThrough 6 = .ok (.astore_n 2, 1) := by decide +kernel
theorem d_Water_pushThrough_7 : decode b_Water_pushThrough 7 = .ok (.aload_n 0, 1) := by decide +kernel
theorem d_Water_pushThrough_8 : decode b_Water_pushThrough 8 = .ok (.getfield 24, 3) := by decide +kernel
theorem d_Water_pushThrough_11 : decode b_Water_pushThrough 11 = .ok (.invokevirtual 56, 3) := by decide +kernel
theorem d_Water_pushThrough_14 : decode b_Water_pushThrough 14 = .ok (.aload_n 0, 1) := by decide +kernel
theorem d_Water_pushThrough_15 : decode b_Water_pushThrough 15 = .ok (.getfield 24, 3) := by decide +kernel
theorem d_Water_pushThrough_18 : decode b_Water_pushThrough 18 = .ok (.aload_n 0, 1) := by decide +kernel
theorem d_Water_pushThrough_19 : decode b_Water_pushThrough 19 = .ok (.getfield 20, 3) := by decide +kernel
theorem d_Water_pushThrough_22 : decode b_Water_pushThrough 22 = .ok (.invokevirtual 59, 3) := by decide +kernel
theorem d_Water_pushThrough_25 : decode b_Water_pushThrough 25 = .ok (.aload_n 0, 1) := by decide +kernel
theorem d_Water_pushThrough_26 : decode b_Water_pushThrough 26 = .ok (.getfield 24, 3) := by decide +kernel
theorem d_Water_pushThrough_29 : decode b_Water_pushThrough 29 = .ok (.aload_n 2, 1) := by decide +kernel
theorem d_Water_pushThrough_30 : decode b_Water_pushThrough 30 = .ok (.invokevirtual 59, 3) := by decide +kernel
theorem d_Water_pushThrough_33 : decode b_Water_pushThrough 33 = .ok (.aload_n 0, 1) := by decide +kernel
theorem d_Water_pushThrough_34 : decode b_Water_pushThrough 34 = .ok (.getfield 24, 3) := by decide +kernel
theorem d_Water_pushThrough_37 : decode b_Water_pushThrough 37 = .ok (.aload_n 0, 1) := by decide +kernel
theorem d_Water_pushThrough_38 : decode b_Water_pushThrough 38 = .ok (.getfield 47, 3) := by decide +kernel
theorem d_Water_pushThrough_41 : decode b_Water_pushThrough 41 = .ok (.getfield 69, 3) := by decide +kernel
theorem d_Water_pushThrough_44 : decode b_Water_pushThrough 44 = .ok (.iload_n 1, 1) := by decide +kernel
theorem d_Water_pushThrough_45 : decode b_Water_pushThrough 45 = .ok (.iaload, 1) := by decide +kernel
theorem d_Water_pushThrough_46 : decode b_Water_pushThrough 46 = .ok (.aload_n 0, 1) := by decide +kernel
theorem d_Water_pushThrough_47 : decode b_Water_pushThrough 47 = .ok (.getfield 27, 3) := by decide +kernel
theorem d_Water_pushThrough_50 : decode b_Water_pushThrough 50 = .ok (.aload_n 0, 1) := by decide +kernel
theorem d_Water_pushThrough_51 : decode b_Water_pushThrough 51 = .ok (.getfield 20, 3) := by decide +kernel
theorem d_Water_pushThrough_54 : decode b_Water_pushThrough 54 = .ok (.invokevirtual 97, 3) := by decide +kernel
theorem d_Water_pushThrough_57 : decode b_Water_pushThrough 57 = .ok (.aload_n 0, 1) := by decide +kernel
theorem d_Water_pushThrough_58 : decode b_Water_pushThrough 58 = .ok (.dup, 1) := by decide +kernel
theorem d_Water_pushThrough_59 : decode b_Water_pushThrough 59 = .ok (.getfield 101, 3) := by decide +kernel
theorem d_Water_pushThrough_62 : decode b_Water_pushThrough 62 = .ok (.aload_n 0, 1) := by decide +kernel
theorem d_Water_pushThrough_63 : decode b_Water_pushThrough 63 = .ok (.getfield 27, 3) := by decide +kernel
theorem d_Water_pushThrough_66 : decode b_Water_pushThrough 66 = .ok (.invokevirtual 104, 3) := by decide +kernel
theorem d_Water_pushThrough_69 : decode b_Water_pushThrough 69 = .ok (.i2l, 1) := by decide +kernel
theorem d_Water_pushThrough_70 : decode b_Water_pushThrough 70 = .ok (.ladd, 1) := by decide +kernel
theorem d_Water_pushThrough_71 : decode b_Water_pushThrough 71 = .ok (.putfield 101, 3) := by decide +kernel
theorem d_Water_pushThrough_74 : decode b_Water_pushThrough 74 = .ok (.aload_n 2, 1) := by decide +kernel
theorem d_Water_pushThrough_75 : decode b_Water_pushThrough 75 = .ok (.invokevirtual 56, 3) := by decide +kernel
theorem d_Water_pushThrough_78 : decode b_Water_pushThrough 78 = .ok (.aload_n 2, 1) := by decide +kernel
theorem d_Water_pushThrough_79 : decode b_Water_pushThrough 79 = .ok (.aload_n 0, 1) := by decide +kernel
theorem d_Water_pushThrough_80 : decode b_Water_pushThrough 80 = .ok (.getfield 27, 3) := by decide +kernel
theorem d_Water_pushThrough_83 : decode b_Water_pushThrough 83 = .ok (.invokevirtual 59, 3) := by decide +kernel
theorem d_Water_pushThrough_86 : decode b_Water_pushThrough 86 = .ok (.aload_n 0, 1) := by decide +kernel
theorem d_Water_pushThrough_87 : decode b_Water_pushThrough 87 = .ok (.getfield 34, 3) := by decide +kernel
theorem d_Water_pushThrough_90 : decode b_Water_pushThrough 90 = .ok (.iload_n 1, 1) := by decide +kernel
theorem d_Water_pushThrough_91 : decode b_Water_pushThrough 91 = .ok (.aload_n 0, 1) := by decide +kernel
theorem d_Water_pushThrough_92 : decode b_Water_pushThrough 92 = .ok (.getfield 63, 3) := by decide +kernel
theorem d_Water_pushThrough_95 : decode b_Water_pushThrough 95 = .ok (.iastore, 1) := by decide +kernel
theorem d_Water_pushThrough_96 : decode b_Water_pushThrough 96 = .ok (.return_, 1) := by decide +kernel
theorem d_Water_endMinute_0 : decode b_Water_endMinute 0 = .ok (.iconst 0, 1) := by decide +kernel
theorem d_Water_endMinute_1 : decode b_Water_endMinute 1 = .ok (.istore_n 1, 1) := by decide +kernel
theorem d_Water_endMinute_2 : decode b_Water_endMinute 2 = .ok (.iload_n 1, 1) := by decide +kernel
theorem d_Water_endMinute_3 : decode b_Water_endMinute 3 = .ok (.aload_n 0, 1) := by decide +kernel
theorem d_Water_endMinute_4 : decode b_Water_endMinute 4 = .ok (.getfield 47, 3) := by decide +kernel
theorem d_Water_endMinute_7 : decode b_Water_endMinute 7 = .ok (.getfield 51, 3) := by decide +kernel
theorem d_Water_endMinute_10 : decode b_Water_endMinute 10 = .ok (.if_icmp .ge 35, 3) := by decide +kernel
theorem d_Water_endMinute_13 : decode b_Water_endMinute 13 = .ok (.aload_n 0, 1) := by decide +kernel
theorem d_Water_endMinute_14 : decode b_Water_endMinute 14 = .ok (.getfield 47, 3) := by decide +kernel
theorem d_Water_endMinute_17 : decode b_Water_endMinute 17 = .ok (.getfield 108, 3) := by decide +kernel
theorem d_Water_endMinute_20 : decode b_Water_endMinute 20 = .ok (.iload_n 1, 1) := by decide +kernel
theorem d_Water_endMinute_21 : decode b_Water_endMinute 21 = .ok (.iaload, 1) := by decide +kernel
theorem d_Water_endMinute_22 : decode b_Water_endMinute 22 = .ok (.ifCond .le 17, 3) := by decide +kernel
theorem d_Water_endMinute_25 : decode b_Water_endMinute 25 = .ok (.aload_n 0, 1) := by decide +kernel
theorem d_Water_endMinute_26 : decode b_Water_endMinute 26 = .ok (.iload_n 1, 1) := by decide +kernel
theorem d_Water_endMinute_27 : decode b_Water_endMinute 27 = .ok (.aload_n 0, 1) := by decide +kernel
theorem d_Water_endMinute_28 : decode b_Water_endMinute 28 = .ok (.getfield 47, 3) := by decide +kernel
theorem d_Water_endMinute_31 : decode b_Water_endMinute 31 = .ok (.getfield 108, 3) := by decide +kernel
theorem d_Water_endMinute_34 : decode b_Water_endMinute 34 = .ok (.iload_n 1, 1) := by decide +kernel
theorem d_Water_endMinute_35 : decode b_Water_endMinute 35 = .ok (.iaload, 1) := by decide +kernel
theorem d_Water_endMinute_36 : decode b_Water_endMinute 36 = .ok (.invokevirtual 111, 3) := by decide +kernel
theorem d_Water_endMinute_39 : decode b_Water_endMinute 39 = .ok (.iinc 1 1, 3) := by decide +kernel
theorem d_Water_endMinute_42 : decode b_Water_endMinute 42 = .ok (.goto (-40), 3) := by decide +kernel
theorem d_Water_endMinute_45 : decode b_Water_endMinute 45 = .ok (.iconst 0, 1) := by decide +kernel
theorem d_Water_endMinute_46 : decode b_Water_endMinute 46 = .ok (.istore_n 1, 1) := by decide +kernel
theorem d_Water_endMinute_47 : decode b_Water_endMinute 47 = .ok (.iload_n 1, 1) := by decide +kernel
theorem d_Water_endMinute_48 : decode b_Water_endMinute 48 = .ok (.aload_n 0, 1) := by decide +kernel
theorem d_Water_endMinute_49 : decode b_Water_endMinute 49 = .ok (.getfield 47, 3) := by decide +kernel
theorem d_Water_endMinute_52 : decode b_Water_endMinute 52 = .ok (.getfield 51, 3) := by decide +kernel
theorem d_Water_endMinute_55 : decode b_Water_endMinute 55 = .ok (.if_icmp .ge 74, 3) := by decide +kernel
theorem d_Water_endMinute_58 : decode b_Water_endMinute 58 = .ok (.aload_n 0, 1) := by decide +kernel
theorem d_Water_endMinute_59 : decode b_Water_endMinute 59 = .ok (.dup, 1) := by decide +kernel
theorem d_Water_endMinute_60 : decode b_Water_endMinute 60 = .ok (.getfield 101, 3) := by decide +kernel
theorem d_Water_endMinute_63 : decode b_Water_endMinute 63 = .ok (.aload_n 0, 1) := by decide +kernel
theorem d_Water_endMinute_64 : decode b_Water_endMinute 64 = .ok (.getfield 11, 3) := by decide +kernel
theorem d_Water_endMinute_67 : decode b_Water_endMinute 67 = .ok (.iload_n 1, 1) := by decide +kernel
theorem d_Water_endMinute_68 : decode b_Water_endMinute 68 = .ok (.aaload, 1) := by decide +kernel
theorem d_Water_endMinute_69 : decode b_Water_endMinute 69 = .ok (.aload_n 0, 1) := by decide +kernel
theorem d_Water_endMinute_70 : decode b_Water_endMinute 70 = .ok (.getfield 44, 3) := by decide +kernel
theorem d_Water_endMinute_73 : decode b_Water_endMinute 73 = .ok (.aload_n 0, 1) := by decide +kernel
theorem d_Water_endMinute_74 : decode b_Water_endMinute 74 = .ok (.getfield 47, 3) := by decide +kernel
theorem d_Water_endMinute_77 : decode b_Water_endMinute 77 = .ok (.getfield 114, 3) := by decide +kernel
theorem d_Water_endMinute_80 : decode b_Water_endMinute 80 = .ok (.iload_n 1, 1) := by decide +kernel
theorem d_Water_endMinute_81 : decode b_Water_endMinute 81 = .ok (.iaload, 1) := by decide +kernel
theorem d_Water_endMinute_82 : decode b_Water_endMinute 82 = .ok (.invokevirtual 117, 3) := by decide +kernel
theorem d_Water_endMinute_85 : decode b_Water_endMinute 85 = .ok (.ladd, 1) := by decide +kernel
theorem d_Water_endMinute_86 : decode b_Water_endMinute 86 = .ok (.putfield 101, 3) := by decide +kernel
theorem d_Water_endMinute_89 : decode b_Water_endMinute 89 = .ok (.aload_n 0, 1) := by decide +kernel
theorem d_Water_endMinute_90 : decode b_Water_endMinute 90 = .ok (.getfield 11, 3) := by decide +kernel
theorem d_Water_endMinute_93 : decode b_Water_endMinute 93 = .ok (.iload_n 1, 1) := by decide +kernel
theorem d_Water_endMinute_94 : decode b_Water_endMinute 94 = .ok (.aaload, 1) := by decide +kernel
theorem d_Water_endMinute_95 : decode b_Water_endMinute 95 = .ok (.invokevirtual 121, 3) := by decide +kernel
theorem d_Water_endMinute_98 : decode b_Water_endMinute 98 = .ok (.istore_n 2, 1) := by decide +kernel
theorem d_Water_endMinute_99 : decode b_Water_endMinute 99 = .ok (.iload_n 2, 1) := by decide +kernel
theorem d_Water_endMinute_100 : decode b_Water_endMinute 100 = .ok (.sipush 2500, 3) := by decide +kernel
theorem d_Water_endMinute_103 : decode b_Water_endMinute 103 = .ok (.if_icmp .lt 20, 3) := by decide +kernel
theorem d_Water_endMinute_106 : decode b_Water_endMinute 106 = .ok (.iload_n 2, 1) := by decide +kernel
theorem d_Water_endMinute_107 : decode b_Water_endMinute 107 = .ok (.sipush 4500, 3) := by decide +kernel
theorem d_Water_endMinute_110 : decode b_Water_endMinute 110 = .ok (.if_icmp .gt 13, 3) := by decide +kernel
theorem d_Water_endMinute_113 : decode b_Water_endMinute 113 = .ok (.aload_n 0, 1) := by decide +kernel
theorem d_Water_endMinute_114 : decode b_Water_endMinute 114 = .ok (.getfield 37, 3) := by decide +kernel
theorem d_Water_endMinute_117 : decode b_Water_endMinute 117 = .ok (.iload_n 1, 1) := by decide +kernel
theorem d_Water_endMinute_118 : decode b_Water_endMinute 118 = .ok (.dup2, 1) := by decide +kernel
theorem d_Water_endMinute_119 : decode b_Water_endMinute 119 = .ok (.iaload, 1) := by decide +kernel
theorem d_Water_endMinute_120 : decode b_Water_endMinute 120 = .ok (.iconst 1, 1) := by decide +kernel
theorem d_Water_endMinute_121 : decode b_Water_endMinute 121 = .ok (.iadd, 1) := by decide +kernel
theorem d_Water_endMinute_122 : decode b_Water_endMinute 122 = .ok (.iastore, 1) := by decide +kernel
theorem d_Water_endMinute_123 : decode b_Water_endMinute 123 = .ok (.iinc 1 1, 3) := by decide +kernel
theorem d_Water_endMinute_126 : decode b_Water_endMinute 126 = .ok (.goto (-79), 3) := by decide +kernel
theorem d_Water_endMinute_129 : decode b_Water_endMinute 129 = .ok (.aload_n 0, 1) := by decide +kernel
theorem d_Water_endMinute_130 : decode b_Water_endMinute 130 = .ok (.dup, 1) := by decide +kernel
theorem d_Water_endMinute_131 : decode b_Water_endMinute 131 = .ok (.getfield 63, 3) := by decide +kernel
theorem d_Water_endMinute_134 : decode b_Water_endMinute 134 = .ok (.iconst 1, 1) := by decide +kernel
theorem d_Water_endMinute_135 : decode b_Water_endMinute 135 = .ok (.iadd, 1) := by decide +kernel
theorem d_Water_endMinute_136 : decode b_Water_endMinute 136 = .ok (.putfield 63, 3) := by decide +kernel
theorem d_Water_endMinute_139 : decode b_Water_endMinute 139 = .ok (.return_, 1) := by decide +kernel
theorem d_Water_minutesSinceFlow_0 : decode b_Water_minutesSinceFlow 0 = .ok (.aload_n 0, 1) := by decide +kernel
theorem d_Water_minutesSinceFlow_1 : decode b_Water_minutesSinceFlow 1 = .ok (.getfield 63, 3) := by decide +kernel
theorem d_Water_minutesSinceFlow_4 : decode b_Water_minutesSinceFlow 4 = .ok (.iconst 1, 1) := by decide +kernel
theorem d_Water_minutesSinceFlow_5 : decode b_Water_minutesSinceFlow 5 = .ok (.isub, 1) := by decide +kernel
theorem d_Water_minutesSinceFlow_6 : decode b_Water_minutesSinceFlow 6 = .ok (.aload_n 0, 1) := by decide +kernel
theorem d_Water_minutesSinceFlow_7 : decode b_Water_minutesSinceFlow 7 = .ok (.getfield 34, 3) := by decide +kernel
theorem d_Water_minutesSinceFlow_10 : decode b_Water_minutesSinceFlow 10 = .ok (.iload_n 1, 1) := by decide +kernel
theorem d_Water_minutesSinceFlow_11 : decode b_Water_minutesSinceFlow 11 = .ok (.iaload, 1) := by decide +kernel
theorem d_Water_minutesSinceFlow_12 : decode b_Water_minutesSinceFlow 12 = .ok (.isub, 1) := by decide +kernel
theorem d_Water_minutesSinceFlow_13 : decode b_Water_minutesSinceFlow 13 = .ok (.ireturn, 1) := by decide +kernel
theorem d_Water_stoodStill_0 : decode b_Water_stoodStill 0 = .ok (.aload_n 0, 1) := by decide +kernel
theorem d_Water_stoodStill_1 : decode b_Water_stoodStill 1 = .ok (.getfield 34, 3) := by decide +kernel
theorem d_Water_stoodStill_4 : decode b_Water_stoodStill 4 = .ok (.iload_n 1, 1) := by decide +kernel
theorem d_Water_stoodStill_5 : decode b_Water_stoodStill 5 = .ok (.iaload, 1) := by decide +kernel
theorem d_Water_stoodStill_6 : decode b_Water_stoodStill 6 = .ok (.iconst (-1), 1) := by decide +kernel
theorem d_Water_stoodStill_7 : decode b_Water_stoodStill 7 = .ok (.if_icmp .eq 12, 3) := by decide +kernel
theorem d_Water_stoodStill_10 : decode b_Water_stoodStill 10 = .ok (.aload_n 0, 1) := by decide +kernel
theorem d_Water_stoodStill_11 : decode b_Water_stoodStill 11 = .ok (.iload_n 1, 1) := by decide +kernel
theorem d_Water_stoodStill_12 : decode b_Water_stoodStill 12 = .ok (.invokevirtual 124, 3) := by decide +kernel
theorem d_Water_stoodStill_15 : decode b_Water_stoodStill 15 = .ok (.iload_n 2, 1) := by decide +kernel
theorem d_Water_stoodStill_16 : decode b_Water_stoodStill 16 = .ok (.if_icmp .lt 7, 3) := by decide +kernel
theorem d_Water_stoodStill_19 : decode b_Water_stoodStill 19 = .ok (.iconst 1, 1) := by decide +kernel
theorem d_Water_stoodStill_20 : decode b_Water_stoodStill 20 = .ok (.goto 4, 3) := by decide +kernel
theorem d_Water_stoodStill_23 : decode b_Water_stoodStill 23 = .ok (.iconst 0, 1) := by decide +kernel
theorem d_Water_stoodStill_24 : decode b_Water_stoodStill 24 = .ok (.ireturn, 1) := by decide +kernel
theorem d_Water_volumeBefore_0 : decode b_Water_volumeBefore 0 = .ok (.iconst 0, 1) := by decide +kernel
theorem d_Water_volumeBefore_1 : decode b_Water_volumeBefore 1 = .ok (.istore_n 3, 1) := by decide +kernel
theorem d_Water_volumeBefore_2 : decode b_Water_volumeBefore 2 = .ok (.aload_n 0, 1) := by decide +kernel
theorem d_Water_volumeBefore_3 : decode b_Water_volumeBefore 3 = .ok (.iload_n 1, 1) := by decide +kernel
theorem d_Water_volumeBefore_4 : decode b_Water_volumeBefore 4 = .ok (.invokevirtual 84, 3) := by decide +kernel
theorem d_Water_volumeBefore_7 : decode b_Water_volumeBefore 7 = .ok (.istore 4, 2) := by decide +kernel
theorem d_Water_volumeBefore_9 : decode b_Water_volumeBefore 9 = .ok (.iconst 0, 1) := by decide +kernel
theorem d_Water_volumeBefore_10 : decode b_Water_volumeBefore 10 = .ok (.istore 5, 2) := by decide +kernel
theorem d_Water_volumeBefore_12 : decode b_Water_volumeBefore 12 = .ok (.iload 5, 2) := by decide +kernel
theorem d_Water_volumeBefore_14 : decode b_Water_volumeBefore 14 = .ok (.iload 4, 2) := by decide +kernel
theorem d_Water_volumeBefore_16 : decode b_Water_volumeBefore 16 = .ok (.if_icmp .ge 68, 3) := by decide +kernel
theorem d_Water_volumeBefore_19 : decode b_Water_volumeBefore 19 = .ok (.aload_n 0, 1) := by decide +kernel
theorem d_Water_volumeBefore_20 : decode b_Water_volumeBefore 20 = .ok (.getfield 11, 3) := by decide +kernel
theorem d_Water_volumeBefore_23 : decode b_Water_volumeBefore 23 = .ok (.aload_n 0, 1) := by decide +kernel
theorem d_Water_volumeBefore_24 : decode b_Water_volumeBefore 24 = .ok (.getfield 30, 3) := by decide +kernel
theorem d_Water_volumeBefore_27 : decode b_Water_volumeBefore 27 = .ok (.iload 5, 2) := by decide +kernel
theorem d_Water_volumeBefore_29 : decode b_Water_volumeBefore 29 = .ok (.iaload, 1) := by decide +kernel
theorem d_Water_volumeBefore_30 : decode b_Water_volumeBefore 30 = .ok (.aaload, 1) := by decide +kernel
theorem d_Water_volumeBefore_31 : decode b_Water_volumeBefore 31 = .ok (.astore 6, 2) := by decide +kernel
theorem d_Water_volumeBefore_33 : decode b_Water_volumeBefore 33 = .ok (.aload 6, 2) := by decide +kernel
theorem d_Water_volumeBefore_35 : decode b_Water_volumeBefore 35 = .ok (.getfield 127, 3) := by decide +kernel
theorem d_Water_volumeBefore_38 : decode b_Water_volumeBefore 38 = .ok (.iconst 1, 1) := by decide +kernel
theorem d_Water_volumeBefore_39 : decode b_Water_volumeBefore 39 = .ok (.isub, 1) := by decide +kernel
theorem d_Water_volumeBefore_40 : decode b_Water_volumeBefore 40 = .ok (.istore 7, 2) := by decide +kernel
theorem d_Water_volumeBefore_42 : decode b_Water_volumeBefore 42 = .ok (.iload 7, 2) := by decide +kernel
theorem d_Water_volumeBefore_44 : decode b_Water_volumeBefore 44 = .ok (.ifCond .lt 34, 3) := by decide +kernel
theorem d_Water_volumeBefore_47 : decode b_Water_volumeBefore 47 = .ok (.aload 6, 2) := by decide +kernel
theorem d_Water_volumeBefore_49 : decode b_Water_volumeBefore 49 = .ok (.getfield 128, 3) := by decide +kernel
theorem d_Water_volumeBefore_52 : decode b_Water_volumeBefore 52 = .ok (.iload 7, 2) := by decide +kernel
theorem d_Water_volumeBefore_54 : decode b_Water_volumeBefore 54 = .ok (.iaload, 1) := by decide +kernel
theorem d_Water_volumeBefore_55 : decode b_Water_volumeBefore 55 = .ok (.iload_n 2, 1) := by decide +kernel
theorem d_Water_volumeBefore_56 : decode b_Water_volumeBefore 56 = .ok (.if_icmp .lt 5, 3) := by decide +kernel
theorem d_Water_volumeBefore_59 : decode b_Water_volumeBefore 59 = .ok (.iload_n 3, 1) := by decide +kernel
theorem d_Water_volumeBefore_60 : decode b_Water_volumeBefore 60 = .ok (.ireturn, 1) := by decide +kernel
theorem d_Water_volumeBefore_61 : decode b_Water_volumeBefore 61 = .ok (.iload_n 3, 1) := by decide +kernel
theorem d_Water_volumeBefore_62 : decode b_Water_volumeBefore 62 = .ok (.aload 6, 2) := by decide +kernel
theorem d_Water_volumeBefore_64 : decode b_Water_volumeBefore 64 = .ok (.getfield 131, 3) := by decide +kernel
theorem d_Water_volumeBefore_67 : decode b_Water_volumeBefore 67 = .ok (.iload 7, 2) := by decide +kernel
theorem d_Water_volumeBefore_69 : decode b_Water_volumeBefore 69 = .ok (.iaload, 1) := by decide +kernel
theorem d_Water_volumeBefore_70 : decode b_Water_volumeBefore 70 = .ok (.iadd, 1) := by decide +kernel
theorem d_Water_volumeBefore_71 : decode b_Water_volumeBefore 71 = .ok (.istore_n 3, 1) := by decide +kernel
theorem d_Water_volumeBefore_72 : decode b_Water_volumeBefore 72 = .ok (.iinc 7 (-1), 3) := by decide +kernel
theorem d_Water_volumeBefore_75 : decode b_Water_volumeBefore 75 = .ok (.goto (-33), 3) := by decide +kernel
theorem d_Water_volumeBefore_78 : decode b_Water_volumeBefore 78 = .ok (.iinc 5 1, 3) := by decide +kernel
theorem d_Water_volumeBefore_81 : decode b_Water_volumeBefore 81 = .ok (.goto (-69), 3) := by decide +kernel
theorem d_Water_volumeBefore_84 : decode b_Water_volumeBefore 84 = .ok (.aload_n 0, 1) := by decide +kernel
theorem d_Water_volumeBefore_85 : decode b_Water_volumeBefore 85 = .ok (.getfield 40, 3) := by decide +kernel
theorem d_Water_volumeBefore_88 : decode b_Water_volumeBefore 88 = .ok (.iload_n 2, 1) := by decide +kernel
theorem d_Water_volumeBefore_89 : decode b_Water_volumeBefore 89 = .ok (.if_icmp .lt 7, 3) := by decide +kernel
theorem d_Water_volumeBefore_92 : decode b_Water_volumeBefore 92 = .ok (.iload_n 3, 1) := by decide +kernel
theorem d_Water_volumeBefore_93 : decode b_Water_volumeBefore 93 = .ok (.goto 4, 3) := by decide +kernel
theorem d_Water_volumeBefore_96 : decode b_Water_volumeBefore 96 = .ok (.iconst (-1), 1) := by decide +kernel
theorem d_Water_volumeBefore_97 : decode b_Water_volumeBefore 97 = .ok (.ireturn, 1) := by decide +kernel
theorem d_Water_held_0 : decode b_Water_held 0 = .ok (.lconst 0, 1) := by decide +kernel
theorem d_Water_held_1 : decode b_Water_held 1 = .ok (.lstore_n 1, 1) := by decide +kernel
theorem d_Water_held_2 : decode b_Water_held 2 = .ok (.iconst 0, 1) := by decide +kernel
theorem d_Water_held_3 : decode b_Water_held 3 = .ok (.istore_n 3, 1) := by decide +kernel
theorem d_Water_held_4 : decode b_Water_held 4 = .ok (.iload_n 3, 1) := by decide +kernel
theorem d_Water_held_5 : decode b_Water_held 5 = .ok (.aload_n 0, 1) := by decide +kernel
theorem d_Water_held_6 : decode b_Water_held 6 = .ok (.getfield 47, 3) := by decide +kernel
theorem d_Water_held_9 : decode b_Water_held 9 = .ok (.getfield 51, 3) := by decide +kernel
theorem d_Water_held_12 : decode b_Water_held 12 = .ok (.if_icmp .ge 21, 3) := by decide +kernel
theorem d_Water_held_15 : decode b_Water_held 15 = .ok (.lload_n 1, 1) := by decide +kernel
theorem d_Water_held_16 : decode b_Water_held 16 = .ok (.aload_n 0, 1) := by decide +kernel
theorem d_Water_held_17 : decode b_Water_held 17 = .ok (.getfield 11, 3) := by decide +kernel
theorem d_Water_held_20 : decode b_Water_held 20 = .ok (.iload_n 3, 1) := by decide +kernel
theorem d_Water_held_21 : decode b_Water_held 21 = .ok (.aaload, 1) := by decide +kernel
theorem d_Water_held_22 : decode b_Water_held 22 = .ok (.invokevirtual 80, 3) := by decide +kernel
theorem d_Water_held_25 : decode b_Water_held 25 = .ok (.ladd, 1) := by decide +kernel
theorem d_Water_held_26 : decode b_Water_held 26 = .ok (.lstore_n 1, 1) := by decide +kernel
theorem d_Water_held_27 : decode b_Water_held 27 = .ok (.iinc 3 1, 3) := by decide +kernel
theorem d_Water_held_30 : decode b_Water_held 30 = .ok (.goto (-26), 3) := by decide +kernel
theorem d_Water_held_33 : decode b_Water_held 33 = .ok (.lload_n 1, 1) := by decide +kernel
theorem d_Water_held_34 : decode b_Water_held 34 = .ok (.lreturn, 1) := by decide +kernel
