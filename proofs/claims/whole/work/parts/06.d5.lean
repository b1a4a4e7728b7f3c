theorem d_Mo_init_0 : decode b_Mo_init 0 = .ok (.aload_n 0, 1) := by decide +kernel
theorem d_Mo_init_1 : decode b_Mo_init 1 = .ok (.invokespecial 1, 3) := by decide +kernel
theorem d_Mo_init_4 : decode b_Mo_init 4 = .ok (.aload_n 0, 1) := by decide +kernel
theorem d_Mo_init_5 : decode b_Mo_init 5 = .ok (.bipush 10, 2) := by decide +kernel
theorem d_Mo_init_7 : decode b_Mo_init 7 = .ok (.newarray .int, 2) := by decide +kernel
theorem d_Mo_init_9 : decode b_Mo_init 9 = .ok (.putfield 7, 3) := by decide +kernel
theorem d_Mo_init_12 : decode b_Mo_init 12 = .ok (.aload_n 0, 1) := by decide +kernel
theorem d_Mo_init_13 : decode b_Mo_init 13 = .ok (.bipush 10, 2) := by decide +kernel
theorem d_Mo_init_15 : decode b_Mo_init 15 = .ok (.newarray .int, 2) := by decide +kernel
theorem d_Mo_init_17 : decode b_Mo_init 17 = .ok (.putfield 13, 3) := by decide +kernel
theorem d_Mo_init_20 : decode b_Mo_init 20 = .ok (.aload_n 0, 1) := by decide +kernel
theorem d_Mo_init_21 : decode b_Mo_init 21 = .ok (.bipush 10, 2) := by decide +kernel
theorem d_Mo_init_23 : decode b_Mo_init 23 = .ok (.newarray .int, 2) := by decide +kernel
theorem d_Mo_init_25 : decode b_Mo_init 25 = .ok (.putfield 16, 3) := by decide +kernel
theorem d_Mo_init_28 : decode b_Mo_init 28 = .ok (.aload_n 0, 1) := by decide +kernel
theorem d_Mo_init_29 : decode b_Mo_init 29 = .ok (.bipush 10, 2) := by decide +kernel
theorem d_Mo_init_31 : decode b_Mo_init 31 = .ok (.newarray .boolean, 2) := by decide +kernel
theorem d_Mo_init_33 : decode b_Mo_init 33 = .ok (.putfield 19, 3) := by decide +kernel
theorem d_Mo_init_36 : decode b_Mo_init 36 = .ok (.aload_n 0, 1) := by decide +kernel
theorem d_Mo_init_37 : decode b_Mo_init 37 = .ok (.bipush 10, 2) := by decide +kernel
theorem d_Mo_init_39 : decode b_Mo_init 39 = .ok (.newarray .int, 2) := by decide +kernel
theorem d_Mo_init_41 : decode b_Mo_init 41 = .ok (.putfield 23, 3) := by decide +kernel
theorem d_Mo_init_44 : decode b_Mo_init 44 = .ok (.aload_n 0, 1) := by decide +kernel
theorem d_Mo_init_45 : decode b_Mo_init 45 = .ok (.sipush 6000, 3) := by decide +kernel
theorem d_Mo_init_48 : decode b_Mo_init 48 = .ok (.putfield 26, 3) := by decide +kernel
theorem d_Mo_init_51 : decode b_Mo_init 51 = .ok (.aload_n 0, 1) := by decide +kernel
theorem d_Mo_init_52 : decode b_Mo_init 52 = .ok (.sipush 2000, 3) := by decide +kernel
theorem d_Mo_init_55 : decode b_Mo_init 55 = .ok (.putfield 30, 3) := by decide +kernel
theorem d_Mo_init_58 : decode b_Mo_init 58 = .ok (.aload_n 0, 1) := by decide +kernel
theorem d_Mo_init_59 : decode b_Mo_init 59 = .ok (.bipush 10, 2) := by decide +kernel
theorem d_Mo_init_61 : decode b_Mo_init 61 = .ok (.newarray .int, 2) := by decide +kernel
theorem d_Mo_init_63 : decode b_Mo_init 63 = .ok (.putfield 33, 3) := by decide +kernel
theorem d_Mo_init_66 : decode b_Mo_init 66 = .ok (.aload_n 0, 1) := by decide +kernel
theorem d_Mo_init_67 : decode b_Mo_init 67 = .ok (.bipush 120, 2) := by decide +kernel
theorem d_Mo_init_69 : decode b_Mo_init 69 = .ok (.newarray .int, 2) := by decide +kernel
theorem d_Mo_init_71 : decode b_Mo_init 71 = .ok (.putfield 36, 3) := by decide +kernel
theorem d_Mo_init_74 : decode b_Mo_init 74 = .ok (.aload_n 0, 1) := by decide +kernel
theorem d_Mo_init_75 : decode b_Mo_init 75 = .ok (.bipush 120, 2) := by decide +kernel
theorem d_Mo_init_77 : decode b_Mo_init 77 = .ok (.newarray .int, 2) := by decide +kernel
theorem d_Mo_init_79 : decode b_Mo_init 79 = .ok (.putfield 39, 3) := by decide +kernel
theorem d_Mo_init_82 : decode b_Mo_init 82 = .ok (.aload_n 0, 1) := by decide +kernel
theorem d_Mo_init_83 : decode b_Mo_init 83 = .ok (.bipush 10, 2) := by decide +kernel
theorem d_Mo_init_85 : decode b_Mo_init 85 = .ok (.newarray .int, 2) := by decide +kernel
theorem d_Mo_init_87 : decode b_Mo_init 87 = .ok (.putfield 42, 3) := by decide +kernel
theorem d_Mo_init_90 : decode b_Mo_init 90 = .ok (.aload_n 0, 1) := by decide +kernel
theorem d_Mo_init_91 : decode b_Mo_init 91 = .ok (.bipush 10, 2) := by decide +kernel
theorem d_Mo_init_93 : decode b_Mo_init 93 = .ok (.newarray .int, 2) := by decide +kernel
theorem d_Mo_init_95 : decode b_Mo_init 95 = .ok (.putfield 45, 3) := by decide +kernel
theorem d_Mo_init_98 : decode b_Mo_init 98 = .ok (.aload_n 0, 1) := by decide +kernel
theorem d_Mo_init_99 : decode b_Mo_init 99 = .ok (.bipush 60, 2) := by decide +kernel
theorem d_Mo_init_101 : decode b_Mo_init 101 = .ok (.newarray .int, 2) := by decide +kernel
theorem d_Mo_init_103 : decode b_Mo_init 103 = .ok (.putfield 48, 3) := by decide +kernel
theorem d_Mo_init_106 : decode b_Mo_init 106 = .ok (.aload_n 0, 1) := by decide +kernel
theorem d_Mo_init_107 : decode b_Mo_init 107 = .ok (.bipush 60, 2) := by decide +kernel
theorem d_Mo_init_109 : decode b_Mo_init 109 = .ok (.newarray .int, 2) := by decide +kernel
theorem d_Mo_init_111 : decode b_Mo_init 111 = .ok (.putfield 51, 3) := by decide +kernel
theorem d_Mo_init_114 : decode b_Mo_init 114 = .ok (.aload_n 0, 1) := by decide +kernel
theorem d_Mo_init_115 : decode b_Mo_init 115 = .ok (.bipush 60, 2) := by decide +kernel
theorem d_Mo_init_117 : decode b_Mo_init 117 = .ok (.newarray .int, 2) := by decide +kernel
theorem d_Mo_init_119 : decode b_Mo_init 119 = .ok (.putfield 54, 3) := by decide +kernel
theorem d_Mo_init_122 : decode b_Mo_init 122 = .ok (.aload_n 0, 1) := by decide +kernel
theorem d_Mo_init_123 : decode b_Mo_init 123 = .ok (.bipush 60, 2) := by decide +kernel
theorem d_Mo_init_125 : decode b_Mo_init 125 = .ok (.newarray .int, 2) := by decide +kernel
theorem d_Mo_init_127 : decode b_Mo_init 127 = .ok (.putfield 57, 3) := by decide +kernel
theorem d_Mo_init_130 : decode b_Mo_init 130 = .ok (.aload_n 0, 1) := by decide +kernel
theorem d_Mo_init_131 : decode b_Mo_init 131 = .ok (.bipush 60, 2) := by decide +kernel
theorem d_Mo_init_133 : decode b_Mo_init 133 = .ok (.newarray .int, 2) := by decide +kernel
theorem d_Mo_init_135 : decode b_Mo_init 135 = .ok (.putfield 60, 3) := by decide +kernel
theorem d_Mo_init_138 : decode b_Mo_init 138 = .ok (.aload_n 0, 1) := by decide +kernel
theorem d_Mo_init_139 : decode b_Mo_init 139 = .ok (.bipush 60, 2) := by decide +kernel
theorem d_Mo_init_141 : decode b_Mo_init 141 = .ok (.newarray .int, 2) := by decide +kernel
theorem d_Mo_init_143 : decode b_Mo_init 143 = .ok (.putfield 63, 3) := by decide +kernel
theorem d_Mo_init_146 : decode b_Mo_init 146 = .ok (.aload_n 0, 1) := by decide +kernel
theorem d_Mo_init_147 : decode b_Mo_init 147 = .ok (.sipush 160, 3) := by decide +kernel
theorem d_Mo_init_150 : decode b_Mo_init 150 = .ok (.newarray .int, 2) := by decide +kernel
theorem d_Mo_init_152 : decode b_Mo_init 152 = .ok (.putfield 66, 3) := by decide +kernel
theorem d_Mo_init_155 : decode b_Mo_init 155 = .ok (.aload_n 0, 1) := by decide +kernel
theorem d_Mo_init_156 : decode b_Mo_init 156 = .ok (.sipush 160, 3) := by decide +kernel
theorem d_Mo_init_159 : decode b_Mo_init 159 = .ok (.newarray .int, 2) := by decide +kernel
theorem d_Mo_init_161 : decode b_Mo_init 161 = .ok (.putfield 69, 3) := by decide +kernel
theorem d_Mo_init_164 : decode b_Mo_init 164 = .ok (.aload_n 0, 1) := by decide +kernel
theorem d_Mo_init_165 : decode b_Mo_init 165 = .ok (.sipush 160, 3) := by decide +kernel
theorem d_Mo_init_168 : decode b_Mo_init 168 = .ok (.newarray .int, 2) := by decide +kernel
theorem d_Mo_init_170 : decode b_Mo_init 170 = .ok (.putfield 72, 3) := by decide +kernel
theorem d_Mo_init_173 : decode b_Mo_init 173 = .ok (.aload_n 0, 1) := by decide +kernel
theorem d_Mo_init_174 : decode b_Mo_init 174 = .ok (.sipush 160, 3) := by decide +kernel
theorem d_Mo_init_177 : decode b_Mo_init 177 = .ok (.newarray .int, 2) := by decide +kernel
theorem d_Mo_init_179 : decode b_Mo_init 179 = .ok (.putfield 75, 3) := by decide +kernel
theorem d_Mo_init_182 : decode b_Mo_init 182 = .ok (.aload_n 0, 1) := by decide +kernel
theorem d_Mo_init_183 : decode b_Mo_init 183 = .ok (.bipush 10, 2) := by decide +kernel
theorem d_Mo_init_185 : decode b_Mo_init 185 = .ok (.newarray .int, 2) := by decide +kernel
theorem d_Mo_init_187 : decode b_Mo_init 187 = .ok (.putfield 78, 3) := by decide +kernel
theorem d_Mo_init_190 : decode b_Mo_init 190 = .ok (.aload_n 0, 1) := by decide +kernel
theorem d_Mo_init_191 : decode b_Mo_init 191 = .ok (.bipush 10, 2) := by decide +kernel
theorem d_Mo_init_193 : decode b_Mo_init 193 = .ok (.newarray .int, 2) := by decide +kernel
theorem d_Mo_init_195 : decode b_Mo_init 195 = .ok (.putfield 81, 3) := by decide +kernel
theorem d_Mo_init_198 : decode b_Mo_init 198 = .ok (.aload_n 0, 1) := by decide +kernel
theorem d_Mo_init_199 : decode b_Mo_init 199 = .ok (.bipush 120, 2) := by decide +kernel
theorem d_Mo_init_201 : decode b_Mo_init 201 = .ok (.newarray .int, 2) := by decide +kernel
theorem d_Mo_init_203 : decode b_Mo_init 203 = .ok (.putfield 84, 3) := by decide +kernel
theorem d_Mo_init_206 : decode b_Mo_init 206 = .ok (.aload_n 0, 1) := by decide +kernel
theorem d_Mo_init_207 : decode b_Mo_init 207 = .ok (.bipush 120, 2) := by decide +kernel
theorem d_Mo_init_209 : decode b_Mo_init 209 = .ok (.newarray .int, 2) := by decide +kernel
theorem d_Mo_init_211 : decode b_Mo_init 211 = .ok (.putfield 87, 3) := by decide +kernel
theorem d_Mo_init_214 : decode b_Mo_init 214 = .ok (.aload_n 0, 1) := by decide +kernel
theorem d_Mo_init_215 : decode b_Mo_init 215 = .ok (.bipush 10, 2) := by decide +kernel
theorem d_Mo_init_217 : decode b_Mo_init 217 = .ok (.newarray .int, 2) := by decide +kernel
theorem d_Mo_init_219 : decode b_Mo_init 219 = .ok (.putfield 90, 3) := by decide +kernel
theorem d_Mo_init_222 : decode b_Mo_init 222 = .ok (.aload_n 0, 1) := by decide +kernel
theorem d_Mo_init_223 : decode b_Mo_init 223 = .ok (.bipush 10, 2) := by decide +kernel
theorem d_Mo_init_225 : decode b_Mo_init 225 = .ok (.newarray .int, 2) := by decide +kernel
theorem d_Mo_init_227 : decode b_Mo_init 227 = .ok (.putfield 93, 3) := by decide +kernel
theorem d_Mo_init_230 : decode b_Mo_init 230 = .ok (.aload_n 0, 1) := by decide +kernel
theorem d_Mo_init_231 : decode b_Mo_init 231 = .ok (.bipush 10, 2) := by decide +kernel
theorem d_Mo_init_233 : decode b_Mo_init 233 = .ok (.newarray .boolean, 2) := by decide +kernel
theorem d_Mo_init_235 : decode b_Mo_init 235 = .ok (.putfield 96, 3) := by decide +kernel
theorem d_Mo_init_238 : decode b_Mo_init 238 = .ok (.return_, 1) := by decide +kernel
theorem d_Mo_thrown_0 : decode b_Mo_thrown 0 = .ok (.aload_n 0, 1) := by decide +kernel
theorem d_Mo_thrown_1 : decode b_Mo_thrown 1 = .ok (.getfield 99, 3) := by decide +kernel
theorem d_Mo_thrown_4 : decode b_Mo_thrown 4 = .ok (.ireturn, 1) := by decide +kernel
theorem d_Mo_in_0 : decode b_Mo_in 0 = .ok (.iload_n 0, 1) := by decide +kernel
theorem d_Mo_in_1 : decode b_Mo_in 1 = .ok (.iload_n 1, 1) := by decide +kernel
theorem d_Mo_in_2 : decode b_Mo_in 2 = .ok (.if_icmp .lt 12, 3) := by decide +kernel
theorem d_Mo_in_5 : decode b_Mo_in 5 = .ok (.iload_n 0, 1) := by decide +kernel
theorem d_Mo_in_6 : decode b_Mo_in 6 = .ok (.iload_n 2, 1) := by decide +kernel
theorem d_Mo_in_7 : decode b_Mo_in 7 = .ok (.if_icmp .gt 7, 3) := by decide +kernel
theorem d_Mo_in_10 : decode b_Mo_in 10 = .ok (.iconst 1, 1) := by decide +kernel
theorem d_Mo_in_11 : decode b_Mo_in 11 = .ok (.goto 4, 3) := by decide +kernel
theorem d_Mo_in_14 : decode b_Mo_in 14 = .ok (.iconst 0, 1) := by decide +kernel
theorem d_Mo_in_15 : decode b_Mo_in 15 = .ok (.ireturn, 1) := by decide +kernel
theorem d_Mo_isPipe_0 : decode b_Mo_isPipe 0 = .ok (.iload_n 1, 1) := by decide +kernel
theorem d_Mo_isPipe_1 : decode b_Mo_isPipe 1 = .ok (.iconst 0, 1) := by decide +kernel
theorem d_Mo_isPipe_2 : decode b_Mo_isPipe 2 = .ok (.aload_n 0, 1) := by decide +kernel
theorem d_Mo_isPipe_3 : decode b_Mo_isPipe 3 = .ok (.getfield 102, 3) := by decide +kernel
theorem d_Mo_isPipe_6 : decode b_Mo_isPipe 6 = .ok (.iconst 1, 1) := by decide +kernel
theorem d_Mo_isPipe_7 : decode b_Mo_isPipe 7 = .ok (.isub, 1) := by decide +kernel
theorem d_Mo_isPipe_8 : decode b_Mo_isPipe 8 = .ok (.invokestatic 105, 3) := by decide +kernel
theorem d_Mo_isPipe_11 : decode b_Mo_isPipe 11 = .ok (.ireturn, 1) := by decide +kernel
theorem d_Mo_lay_0 : decode b_Mo_lay 0 = .ok (.iload_n 1, 1) := by decide +kernel
theorem d_Mo_lay_1 : decode b_Mo_lay 1 = .ok (.ifCond .le 93, 3) := by decide +kernel
theorem d_Mo_lay_4 : decode b_Mo_lay 4 = .ok (.aload_n 0, 1) := by decide +kernel
theorem d_Mo_lay_5 : decode b_Mo_lay 5 = .ok (.getfield 109, 3) := by decide +kernel
theorem d_Mo_lay_8 : decode b_Mo_lay 8 = .ok (.ifCond .le 22, 3) := by decide +kernel
theorem d_Mo_lay_11 : decode b_Mo_lay 11 = .ok (.aload_n 0, 1) := by decide +kernel
theorem d_Mo_lay_12 : decode b_Mo_lay 12 = .ok (.getfield 75, 3) := by decide +kernel
theorem d_Mo_lay_15 : decode b_Mo_lay 15 = .ok (.aload_n 0, 1) := by decide +kernel
theorem d_Mo_lay_16 : decode b_Mo_lay 16 = .ok (.getfield 109, 3) := by decide +kernel
theorem d_Mo_lay_19 : decode b_Mo_lay 19 = .ok (.iconst 1, 1) := by decide +kernel
theorem d_Mo_lay_20 : decode b_Mo_lay 20 = .ok (.isub, 1) := by decide +kernel
theorem d_Mo_lay_21 : decode b_Mo_lay 21 = .ok (.iaload, 1) := by decide +kernel
theorem d_Mo_lay_22 : decode b_Mo_lay 22 = .ok (.iload_n 2, 1) := by decide +kernel
theorem d_Mo_lay_23 : decode b_Mo_lay 23 = .ok (.if_icmp .ne 7, 3) := by decide +kernel
theorem d_Mo_lay_26 : decode b_Mo_lay 26 = .ok (.iconst 1, 1) := by decide +kernel
theorem d_Mo_lay_27 : decode b_Mo_lay 27 = .ok (.goto 4, 3) := by decide +kernel
theorem d_Mo_lay_30 : decode b_Mo_lay 30 = .ok (.iconst 0, 1) := by decide +kernel
theorem d_Mo_lay_31 : decode b_Mo_lay 31 = .ok (.istore_n 3, 1) := by decide +kernel
theorem d_Mo_lay_32 : decode b_Mo_lay 32 = .ok (.aload_n 0, 1) := by decide +kernel
theorem d_Mo_lay_33 : decode b_Mo_lay 33 = .ok (.dup, 1) := by decide +kernel
theorem d_Mo_lay_34 : decode b_Mo_lay 34 = .ok (.getfield 109, 3) := by decide +kernel
theorem d_Mo_lay_37 : decode b_Mo_lay 37 = .ok (.iload_n 3, 1) := by decide +kernel
theorem d_Mo_lay_38 : decode b_Mo_lay 38 = .ok (.ifCond .eq 7, 3) := by decide +kernel
theorem d_Mo_lay_41 : decode b_Mo_lay 41 = .ok (.iconst 0, 1) := by decide +kernel
theorem d_Mo_lay_42 : decode b_Mo_lay 42 = .ok (.goto 4, 3) := by decide +kernel
theorem d_Mo_lay_45 : decode b_Mo_lay 45 = .ok (.iconst 1, 1) := by decide +kernel
theorem d_Mo_lay_46 : decode b_Mo_lay 46 = .ok (.iadd, 1) := by decide +kernel
theorem d_Mo_lay_47 : decode b_Mo_lay 47 = .ok (.putfield 109, 3) := by decide +kernel
theorem d_Mo_lay_50 : decode b_Mo_lay 50 = .ok (.aload_n 0, 1) := by decide +kernel
theorem d_Mo_lay_51 : decode b_Mo_lay 51 = .ok (.getfield 72, 3) := by decide +kernel
theorem d_Mo_lay_54 : decode b_Mo_lay 54 = .ok (.aload_n 0, 1) := by decide +kernel
theorem d_Mo_lay_55 : decode b_Mo_lay 55 = .ok (.getfield 109, 3) := by decide +kernel
theorem d_Mo_lay_58 : decode b_Mo_lay 58 = .ok (.iconst 1, 1) := by decide +kernel
theorem d_Mo_lay_59 : decode b_Mo_lay 59 = .ok (.isub, 1) := by decide +kernel
theorem d_Mo_lay_60 : decode b_Mo_lay 60 = .ok (.iload_n 3, 1) := by decide +kernel
theorem d_Mo_lay_61 : decode b_Mo_lay 61 = .ok (.ifCond .eq 19, 3) := by decide +kernel
theorem d_Mo_lay_64 : decode b_Mo_lay 64 = .ok (.aload_n 0, 1) := by decide +kernel
theorem d_Mo_lay_65 : decode b_Mo_lay 65 = .ok (.getfield 72, 3) := by decide +kernel
theorem d_Mo_lay_68 : decode b_Mo_lay 68 = .ok (.aload_n 0, 1) := by decide +kernel
theorem d_Mo_lay_69 : decode b_Mo_lay 69 = .ok (.getfield 109, 3) := by decide +kernel
theorem d_Mo_lay_72 : decode b_Mo_lay 72 = .ok (.iconst 1, 1) := by decide +kernel
theorem d_Mo_lay_73 : decode b_Mo_lay 73 = .ok (.isub, 1) := by decide +kernel
theorem d_Mo_lay_74 : decode b_Mo_lay 74 = .ok (.iaload, 1) := by decide +kernel
theorem d_Mo_lay_75 : decode b_Mo_lay 75 = .ok (.iload_n 1, 1) := by decide +kernel
theorem d_Mo_lay_76 : decode b_Mo_lay 76 = .ok (.iadd, 1) := by decide +kernel
theorem d_Mo_lay_77 : decode b_Mo_lay 77 = .ok (.goto 4, 3) := by decide +kernel
theorem d_Mo_lay_80 : decode b_Mo_lay 80 = .ok (.iload_n 1, 1) := by decide +kernel
theorem d_Mo_lay_81 : decode b_Mo_lay 81 = .ok (.iastore, 1) := by decide +kernel
theorem d_Mo_lay_82 : decode b_Mo_lay 82 = .ok (.aload_n 0, 1) := by decide +kernel
theorem d_Mo_lay_83 : decode b_Mo_lay 83 = .ok (.getfield 75, 3) := by decide +kernel
theorem d_Mo_lay_86 : decode b_Mo_lay 86 = .ok (.aload_n 0, 1) := by decide +kernel
theorem d_Mo_lay_87 : decode b_Mo_lay 87 = .ok (.getfield 109, 3) := by decide +kernel
theorem d_Mo_lay_90 : decode b_Mo_lay 90 = .ok (.iconst 1, 1) := by decide +kernel
theorem d_Mo_lay_91 : decode b_Mo_lay 91 = .ok (.isub, 1) := by decide +kernel
theorem d_Mo_lay_92 : decode b_Mo_lay 92 = .ok (.iload_n 2, 1) := by decide +kernel
theorem d_Mo_lay_93 : decode b_Mo_lay 93 = .ok (.iastore, 1) := by decide +kernel
theorem d_Mo_lay_94 : decode b_Mo_lay 94 = .ok (.return_, 1) := by decide +kernel
theorem d_Mo_join_0 : decode b_Mo_join 0 = .ok (.aload_n 0, 1) := by decide +kernel
theorem d_Mo_join_1 : decode b_Mo_join 1 = .ok (.getfield 72, 3) := by decide +kernel
theorem d_Mo_join_4 : decode b_Mo_join 4 = .ok (.iload_n 1, 1) := by decide +kernel
theorem d_Mo_join_5 : decode b_Mo_join 5 = .ok (.iaload, 1) := by decide +kernel
theorem d_Mo_join_6 : decode b_Mo_join 6 = .ok (.aload_n 0, 1) := by decide +kernel
theorem d_Mo_join_7 : decode b_Mo_join 7 = .ok (.getfield 72, 3) := by decide +kernel
theorem d_Mo_join_10 : decode b_Mo_join 10 = .ok (.iload_n 1, 1) := by decide +kernel
theorem d_Mo_join_11 : decode b_Mo_join 11 = .ok (.iconst 1, 1) := by decide +kernel
theorem d_Mo_join_12 : decode b_Mo_join 12 = .ok (.iadd, 1) := by decide +kernel
theorem d_Mo_join_13 : decode b_Mo_join 13 = .ok (.iaload, 1) := by decide +kernel
theorem d_Mo_join_14 : decode b_Mo_join 14 = .ok (.iadd, 1) := by decide +kernel
theorem d_Mo_join_15 : decode b_Mo_join 15 = .ok (.istore_n 2, 1) := by decide +kernel
theorem d_Mo_join_16 : decode b_Mo_join 16 = .ok (.aload_n 0, 1) := by decide +kernel
theorem d_Mo_join_17 : decode b_Mo_join 17 = .ok (.getfield 72, 3) := by decide +kernel
theorem d_Mo_join_20 : decode b_Mo_join 20 = .ok (.iload_n 1, 1) := by decide +kernel
theorem d_Mo_join_21 : decode b_Mo_join 21 = .ok (.iaload, 1) := by decide +kernel
theorem d_Mo_join_22 : decode b_Mo_join 22 = .ok (.i2l, 1) := by decide +kernel
theorem d_Mo_join_23 : decode b_Mo_join 23 = .ok (.aload_n 0, 1) := by decide +kernel
theorem d_Mo_join_24 : decode b_Mo_join 24 = .ok (.getfield 75, 3) := by decide +kernel
theorem d_Mo_join_27 : decode b_Mo_join 27 = .ok (.iload_n 1, 1) := by decide +kernel
theorem d_Mo_join_28 : decode b_Mo_join 28 = .ok (.iaload, 1) := by decide +kernel
theorem d_Mo_join_29 : decode b_Mo_join 29 = .ok (.i2l, 1) := by decide +kernel
theorem d_Mo_join_30 : decode b_Mo_join 30 = .ok (.lmul, 1) := by decide +kernel
theorem d_Mo_join_31 : decode b_Mo_join 31 = .ok (.aload_n 0, 1) := by decide +kernel
theorem d_Mo_join_32 : decode b_Mo_join 32 = .ok (.getfield 72, 3) := by decide +kernel
theorem d_Mo_join_35 : decode b_Mo_join 35 = .ok (.iload_n 1, 1) := by decide +kernel
theorem d_Mo_join_36 : decode b_Mo_join 36 = .ok (.iconst 1, 1) := by decide +kernel
theorem d_Mo_join_37 : decode b_Mo_join 37 = .ok (.iadd, 1) := by decide +kernel
theorem d_Mo_join_38 : decode b_Mo_join 38 = .ok (.iaload, 1) := by decide +kernel
theorem d_Mo_join_39 : decode b_Mo_join 39 = .ok (.i2l, 1) := by decide +kernel
theorem d_Mo_join_40 : decode b_Mo_join 40 = .ok (.aload_n 0, 1) := by decide +kernel
theorem d_Mo_join_41 : decode b_Mo_join 41 = .ok (.getfield 75, 3) := by decide +kernel
theorem d_Mo_join_44 : decode b_Mo_join 44 = .ok (.iload_n 1, 1) := by decide +kernel
theorem d_Mo_join_45 : decode b_Mo_join 45 = .ok (.iconst 1, 1) := by decide +kernel
theorem d_Mo_join_46 : decode b_Mo_join 46 = .ok (.iadd, 1) := by decide +kernel
theorem d_Mo_join_47 : decode b_Mo_join 47 = .ok (.iaload, 1) := by decide +kernel
theorem d_Mo_join_48 : decode b_Mo_join 48 = .ok (.i2l, 1) := by decide +kernel
theorem d_Mo_join_49 : decode b_Mo_join 49 = .ok (.lmul, 1) := by decide +kernel
theorem d_Mo_join_50 : decode b_Mo_join 50 = .ok (.ladd, 1) := by decide +kernel
theorem d_Mo_join_51 : decode b_Mo_join 51 = .ok (.lstore_n 3, 1) := by decide +kernel
theorem d_Mo_join_52 : decode b_Mo_join 52 = .ok (.lload_n 3, 1) := by decide +kernel
theorem d_Mo_join_53 : decode b_Mo_join 53 = .ok (.iload_n 2, 1) := by decide +kernel
theorem d_Mo_join_54 : decode b_Mo_join 54 = .ok (.i2l, 1) := by decide +kernel
theorem d_Mo_join_55 : decode b_Mo_join 55 = .ok (.ldiv, 1) := by decide +kernel
theorem d_Mo_join_56 : decode b_Mo_join 56 = .ok (.l2i, 1) := by decide +kernel
theorem d_Mo_join_57 : decode b_Mo_join 57 = .ok (.istore 5, 2) := by decide +kernel
theorem d_Mo_join_59 : decode b_Mo_join 59 = .ok (.aload_n 0, 1) := by decide +kernel
theorem d_Mo_join_60 : decode b_Mo_join 60 = .ok (.dup, 1) := by decide +kernel
theorem d_Mo_join_61 : decode b_Mo_join 61 = .ok (.getfield 112, 3) := by decide +kernel
theorem d_Mo_join_64 : decode b_Mo_join 64 = .ok (.lload_n 3, 1) := by decide +kernel
theorem d_Mo_join_65 : decode b_Mo_join 65 = .ok (.iload_n 2, 1) := by decide +kernel
theorem d_Mo_join_66 : decode b_Mo_join 66 = .ok (.i2l, 1) := by decide +kernel
theorem d_Mo_join_67 : decode b_Mo_join 67 = .ok (.iload 5, 2) := by decide +kernel
theorem d_Mo_join_69 : decode b_Mo_join 69 = .ok (.i2l, 1) := by decide +kernel
theorem d_Mo_join_70 : decode b_Mo_join 70 = .ok (.lmul, 1) := by decide +kernel
theorem d_Mo_join_71 : decode b_Mo_join 71 = .ok (.lsub, 1) := by decide +kernel
theorem d_Mo_join_72 : decode b_Mo_join 72 = .ok (.ladd, 1) := by decide +kernel
theorem d_Mo_join_73 : decode b_Mo_join 73 = .ok (.putfield 112, 3) := by decide +kernel
theorem d_Mo_join_76 : decode b_Mo_join 76 = .ok (.aload_n 0, 1) := by decide +kernel
theorem d_Mo_join_77 : decode b_Mo_join 77 = .ok (.getfield 72, 3) := by decide +kernel
theorem d_Mo_join_80 : decode b_Mo_join 80 = .ok (.iload_n 1, 1) := by decide +kernel
theorem d_Mo_join_81 : decode b_Mo_join 81 = .ok (.iload_n 2, 1) := by decide +kernel
theorem d_Mo_join_82 : decode b_Mo_join 82 = .ok (.iastore, 1) := by decide +kernel
theorem d_Mo_join_83 : decode b_Mo_join 83 = .ok (.aload_n 0, 1) := by decide +kernel
theorem d_Mo_join_84 : decode b_Mo_join 84 = .ok (.getfield 75, 3) := by decide +kernel
theorem d_Mo_join_87 : decode b_Mo_join 87 = .ok (.iload_n 1, 1) := by decide +kernel
theorem d_Mo_join_88 : decode b_Mo_join 88 = .ok (.iload 5, 2) := by decide +kernel
theorem d_Mo_join_90 : decode b_Mo_join 90 = .ok (.iastore, 1) := by decide +kernel
theorem d_Mo_join_91 : decode b_Mo_join 91 = .ok (.aload_n 0, 1) := by decide +kernel
theorem d_Mo_join_92 : decode b_Mo_join 92 = .ok (.getfield 109, 3) := by decide +kernel
theorem d_Mo_join_95 : decode b_Mo_join 95 = .ok (.istore 6, 2) := by decide +kernel
theorem d_Mo_join_97 : decode b_Mo_join 97 = .ok (.iload_n 1, 1) := by decide +kernel
theorem d_Mo_join_98 : decode b_Mo_join 98 = .ok (.iconst 2, 1) := by decide +kernel
theorem d_Mo_join_99 : decode b_Mo_join 99 = .ok (.iadd, 1) := by decide +kernel
theorem d_Mo_join_100 : decode b_Mo_join 100 = .ok (.istore 7, 2) := by decide +kernel
theorem d_Mo_join_102 : decode b_Mo_join 102 = .ok (.aload_n 0, 1) := by decide +kernel
theorem d_Mo_join_103 : decode b_Mo_join 103 = .ok (.getfield 72, 3) := by decide +kernel
theorem d_Mo_join_106 : decode b_Mo_join 106 = .ok (.iload_n 1, 1) := by decide +kernel
theorem d_Mo_join_107 : decode b_Mo_join 107 = .ok (.iaload, 1) := by decide +kernel
theorem d_Mo_join_108 : decode b_Mo_join 108 = .ok (.istore 8, 2) := by decide +kernel
theorem d_Mo_join_110 : decode b_Mo_join 110 = .ok (.aload_n 0, 1) := by decide +kernel
theorem d_Mo_join_111 : decode b_Mo_join 111 = .ok (.iload_n 1, 1) := by decide +kernel
theorem d_Mo_join_112 : decode b_Mo_join 112 = .ok (.putfield 109, 3) := by decide +kernel
theorem d_Mo_join_115 : decode b_Mo_join 115 = .ok (.aload_n 0, 1) := by decide +kernel
theorem d_Mo_join_116 : decode b_Mo_join 116 = .ok (.iload 8, 2) := by decide +kernel
theorem d_Mo_join_118 : decode b_Mo_join 118 = .ok (.iload 5, 2) := by decide +kernel
theorem d_Mo_join_120 : decode b_Mo_join 120 = .ok (.invokevirtual 116, 3) := by decide +kernel
theorem d_Mo_join_123 : decode b_Mo_join 123 = .ok (.iload 7, 2) := by decide +kernel
theorem d_Mo_join_125 : decode b_Mo_join 125 = .ok (.istore 9, 2) := by decide +kernel
theorem d_Mo_join_127 : decode b_Mo_join 127 = .ok (.iload 9, 2) := by decide +kernel
theorem d_Mo_join_129 : decode b_Mo_join 129 = .ok (.iload 6, 2) := by decide +kernel
theorem d_Mo_join_131 : decode b_Mo_join 131 = .ok (.if_icmp .ge 27, 3) := by decide +kernel
theorem d_Mo_join_134 : decode b_Mo_join 134 = .ok (.aload_n 0, 1) := by decide +kernel
theorem d_Mo_join_135 : decode b_Mo_join 135 = .ok (.aload_n 0, 1) := by decide +kernel
theorem d_Mo_join_136 : decode b_Mo_join 136 = .ok (.getfield 72, 3) := by decide +kernel
theorem d_Mo_join_139 : decode b_Mo_join 139 = .ok (.iload 9, 2) := by decide +kernel
theorem d_Mo_join_141 : decode b_Mo_join 141 = .ok (.iaload, 1) := by decide +kernel
theorem d_Mo_join_142 : decode b_Mo_join 142 = .ok (.aload_n 0, 1) := by decide +kernel
theorem d_Mo_join_143 : decode b_Mo_join 143 = .ok (.getfield 75, 3) := by decide +kernel
theorem d_Mo_join_146 : decode b_Mo_join 146 = .ok (.iload 9, 2) := by decide +kernel
theorem d_Mo_join_148 : decode b_Mo_join 148 = .ok (.iaload, 1) := by decide +kernel
theorem d_Mo_join_149 : decode b_Mo_join 149 = .ok (.invokevirtual 116, 3) := by decide +kernel
theorem d_Mo_join_152 : decode b_Mo_join 152 = .ok (.iinc 9 1, 3) := by decide +kernel
theorem d_Mo_join_155 : decode b_Mo_join 155 = .ok (.goto (-28), 3) := by decide +kernel
theorem d_Mo_join_158 : decode b_Mo_join 158 = .ok (.return_, 1) := by decide +kernel
theorem d_Mo_joinTillFew_0 : decode b_Mo_joinTillFew 0 = .ok (.aload_n 0, 1) := by decide +kernel
theorem d_Mo_joinTillFew_1 : decode b_Mo_joinTillFew 1 = .ok (.getfield 109, 3) := by decide +kernel
theorem d_Mo_joinTillFew_4 : decode b_Mo_joinTillFew 4 = .ok (.bipush 12, 2) := by decide +kernel
theorem d_Mo_joinTillFew_6 : decode b_Mo_joinTillFew 6 = .ok (.if_icmp .le 112, 3) := by decide +kernel
theorem d_Mo_joinTillFew_9 : decode b_Mo_joinTillFew 9 = .ok (.iconst 0, 1) := by decide +kernel
theorem d_Mo_joinTillFew_10 : decode b_Mo_joinTillFew 10 = .ok (.istore_n 1, 1) := by decide +kernel
theorem d_Mo_joinTillFew_11 : decode b_Mo_joinTillFew 11 = .ok (.sipush 20000, 3) := by decide +kernel
theorem d_Mo_joinTillFew_14 : decode b_Mo_joinTillFew 14 = .ok (.istore_n 2, 1) := by decide +kernel
theorem d_Mo_joinTillFew_15 : decode b_Mo_joinTillFew 15 = .ok (.iconst 0, 1) := by decide +kernel
theorem d_Mo_joinTillFew_16 : decode b_Mo_joinTillFew 16 = .ok (.istore_n 3, 1) := by decide +kernel
theorem d_Mo_joinTillFew_17 : decode b_Mo_joinTillFew 17 = .ok (.iload_n 3, 1) := by decide +kernel
theorem d_Mo_joinTillFew_18 : decode b_Mo_joinTillFew 18 = .ok (.iconst 1, 1) := by decide +kernel
theorem d_Mo_joinTillFew_19 : decode b_Mo_joinTillFew 19 = .ok (.iadd, 1) := by decide +kernel
theorem d_Mo_joinTillFew_20 : decode b_Mo_joinTillFew 20 = .ok (.aload_n 0, 1) := by decide +kernel
theorem d_Mo_joinTillFew_21 : decode b_Mo_joinTillFew 21 = .ok (.getfield 109, 3) := by decide +kernel
theorem d_Mo_joinTillFew_24 : decode b_Mo_joinTillFew 24 = .ok (.if_icmp .ge 86, 3) := by decide +kernel
theorem d_Mo_joinTillFew_27 : decode b_Mo_joinTillFew 27 = .ok (.aload_n 0, 1) := by decide +kernel
theorem d_Mo_joinTillFew_28 : decode b_Mo_joinTillFew 28 = .ok (.getfield 75, 3) := by decide +kernel
theorem d_Mo_joinTillFew_31 : decode b_Mo_joinTillFew 31 = .ok (.iload_n 3, 1) := by decide +kernel
theorem d_Mo_joinTillFew_32 : decode b_Mo_joinTillFew 32 = .ok (.iaload, 1) := by decide +kernel
theorem d_Mo_joinTillFew_33 : decode b_Mo_joinTillFew 33 = .ok (.aload_n 0, 1) := by decide +kernel
theorem d_Mo_joinTillFew_34 : decode b_Mo_joinTillFew 34 = .ok (.getfield 75, 3) := by decide +kernel
theorem d_Mo_joinTillFew_37 : decode b_Mo_joinTillFew 37 = .ok (.iload_n 3, 1) := by decide +kernel
theorem d_Mo_joinTillFew_38 : decode b_Mo_joinTillFew 38 = .ok (.iconst 1, 1) := by decide +kernel
theorem d_Mo_joinTillFew_39 : decode b_Mo_joinTillFew 39 = .ok (.iadd, 1) := by decide +kernel
theorem d_Mo_joinTillFew_40 : decode b_Mo_joinTillFew 40 = .ok (.iaload, 1) := by decide +kernel
theorem d_Mo_joinTillFew_41 : decode b_Mo_joinTillFew 41 = .ok (.if_icmp .le 21, 3) := by decide +kernel
theorem d_Mo_joinTillFew_44 : decode b_Mo_joinTillFew 44 = .ok (.aload_n 0, 1) := by decide +kernel
theorem d_Mo_joinTillFew_45 : decode b_Mo_joinTillFew 45 = .ok (.getfield 75, 3) := by decide +kernel
theorem d_Mo_joinTillFew_48 : decode b_Mo_joinTillFew 48 = .ok (.iload_n 3, 1) := by decide +kernel
theorem d_Mo_joinTillFew_49 : decode b_Mo_joinTillFew 49 = .ok (.iaload, 1) := by decide +kernel
theorem d_Mo_joinTillFew_50 : decode b_Mo_joinTillFew 50 = .ok (.aload_n 0, 1) := by decide +kernel
theorem d_Mo_joinTillFew_51 : decode b_Mo_joinTillFew 51 = .ok (.getfield 75, 3) := by decide +kernel
theorem d_Mo_joinTillFew_54 : decode b_Mo_joinTillFew 54 = .ok (.iload_n 3, 1) := by decide +kernel
theorem d_Mo_joinTillFew_55 : decode b_Mo_joinTillFew 55 = .ok (.iconst 1, 1) := by decide +kernel
theorem d_Mo_joinTillFew_56 : decode b_Mo_joinTillFew 56 = .ok (.iadd, 1) := by decide +kernel
theorem d_Mo_joinTillFew_57 : decode b_Mo_joinTillFew 57 = .ok (.iaload, 1) := by decide +kernel
theorem d_Mo_joinTillFew_58 : decode b_Mo_joinTillFew 58 = .ok (.isub, 1) := by decide +kernel
theorem d_Mo_joinTillFew_59 : decode b_Mo_joinTillFew 59 = .ok (.goto 18, 3) := by decide +kernel
theorem d_Mo_joinTillFew_62 : decode b_Mo_joinTillFew 62 = .ok (.aload_n 0, 1) := by decide +kernel
theorem d_Mo_joinTillFew_63 : decode b_Mo_joinTillFew 63 = .ok (.getfield 75, 3) := by decide +kernel
theorem d_Mo_joinTillFew_66 : decode b_Mo_joinTillFew 66 = .ok (.iload_n 3, 1) := by decide +kernel
theorem d_Mo_joinTillFew_67 : decode b_Mo_joinTillFew 67 = .ok (.iconst 1, 1) := by decide +kernel
theorem d_Mo_joinTillFew_68 : decode b_Mo_joinTillFew 68 = .ok (.iadd, 1) := by decide +kernel
theorem d_Mo_joinTillFew_69 : decode b_Mo_joinTillFew 69 = .ok (.iaload, 1) := by decide +kernel
theorem d_Mo_joinTillFew_70 : decode b_Mo_joinTillFew 70 = .ok (.aload_n 0, 1) := by decide +kernel
theorem d_Mo_joinTillFew_71 : decode b_Mo_joinTillFew 71 = .ok (.getfield 75, 3) := by decide +kernel
theorem d_Mo_joinTillFew_74 : decode b_Mo_joinTillFew 74 = .ok (.iload_n 3, 1) := by decide +kernel
theorem d_Mo_joinTillFew_75 : decode b_Mo_joinTillFew 75 = .ok (.iaload, 1) := by decide +kernel
theorem d_Mo_joinTillFew_76 : decode b_Mo_joinTillFew 76 = .ok (.isub, 1) := by decide +kernel
theorem d_Mo_joinTillFew_77 : decode b_Mo_joinTillFew 77 = .ok (.istore 4, 2) := by decide +kernel
theorem d_Mo_joinTillFew_79 : decode b_Mo_joinTillFew 79 = .ok (.iload 4, 2) := by decide +kernel
theorem d_Mo_joinTillFew_81 : decode b_Mo_joinTillFew 81 = .ok (.iload_n 2, 1) := by decide +kernel
theorem d_Mo_joinTillFew_82 : decode b_Mo_joinTillFew 82 = .ok (.if_icmp .ge 7, 3) := by decide +kernel
theorem d_Mo_joinTillFew_85 : decode b_Mo_joinTillFew 85 = .ok (.iload_n 3, 1) := by decide +kernel
theorem d_Mo_joinTillFew_86 : decode b_Mo_joinTillFew 86 = .ok (.goto 4, 3) := by decide +kernel
theorem d_Mo_joinTillFew_89 : decode b_Mo_joinTillFew 89 = .ok (.iload_n 1, 1) := by decide +kernel
theorem d_Mo_joinTillFew_90 : decode b_Mo_joinTillFew 90 = .ok (.istore_n 1, 1) := by decide +kernel
theorem d_Mo_joinTillFew_91 : decode b_Mo_joinTillFew 91 = .ok (.iload 4, 2) := by decide +kernel
theorem d_Mo_joinTillFew_93 : decode b_Mo_joinTillFew 93 = .ok (.iload_n 2, 1) := by decide +kernel
theorem d_Mo_joinTillFew_94 : decode b_Mo_joinTillFew 94 = .ok (.if_icmp .ge 8, 3) := by decide +kernel
theorem d_Mo_joinTillFew_97 : decode b_Mo_joinTillFew 97 = .ok (.iload 4, 2) := by decide +kernel
theorem d_Mo_joinTillFew_99 : decode b_Mo_joinTillFew 99 = .ok (.goto 4, 3) := by decide +kernel
theorem d_Mo_joinTillFew_102 : decode b_Mo_joinTillFew 102 = .ok (.iload_n 2, 1) := by decide +kernel
theorem d_Mo_joinTillFew_103 : decode b_Mo_joinTillFew 103 = .ok (.istore_n 2, 1) := by decide +kernel
theorem d_Mo_joinTillFew_104 : decode b_Mo_joinTillFew 104 = .ok (.iinc 3 1, 3) := by decide +kernel
theorem d_Mo_joinTillFew_107 : decode b_Mo_joinTillFew 107 = .ok (.goto (-90), 3) := by decide +kernel
theorem d_Mo_joinTillFew_110 : decode b_Mo_joinTillFew 110 = .ok (.aload_n 0, 1) := by decide +kernel
theorem d_Mo_joinTillFew_111 : decode b_Mo_joinTillFew 111 = .ok (.iload_n 1, 1) := by decide +kernel
theorem d_Mo_joinTillFew_112 : decode b_Mo_joinTillFew 112 = .ok (.invokevirtual 120, 3) := by decide +kernel
theorem d_Mo_joinTillFew_115 : decode b_Mo_joinTillFew 115 = .ok (.goto (-115), 3) := by decide +kernel
theorem d_Mo_joinTillFew_118 : decode b_Mo_joinTillFew 118 = .ok (.return_, 1) := by decide +kernel
theorem d_Mo_putBack_0 : decode b_Mo_putBack 0 = .ok (.aload_n 0, 1) := by decide +kernel
theorem d_Mo_putBack_1 : decode b_Mo_putBack 1 = .ok (.getfield 33, 3) := by decide +kernel
theorem d_Mo_putBack_4 : decode b_Mo_putBack 4 = .ok (.iload_n 1, 1) := by decide +kernel
theorem d_Mo_putBack_5 : decode b_Mo_putBack 5 = .ok (.aload_n 0, 1) := by decide +kernel
theorem d_Mo_putBack_6 : decode b_Mo_putBack 6 = .ok (.getfield 109, 3) := by decide +kernel
theorem d_Mo_putBack_9 : decode b_Mo_putBack 9 = .ok (.iastore, 1) := by decide +kernel
theorem d_Mo_putBack_10 : decode b_Mo_putBack 10 = .ok (.iconst 0, 1) := by decide +kernel
theorem d_Mo_putBack_11 : decode b_Mo_putBack 11 = .ok (.istore_n 2, 1) := by decide +kernel
theorem d_Mo_putBack_12 : decode b_Mo_putBack 12 = .ok (.iload_n 2, 1) := by decide +kernel
theorem d_Mo_putBack_13 : decode b_Mo_putBack 13 = .ok (.aload_n 0, 1) := by decide +kernel
theorem d_Mo_putBack_14 : decode b_Mo_putBack 14 = .ok (.getfield 109, 3) := by decide +kernel
theorem d_Mo_putBack_17 : decode b_Mo_putBack 17 = .ok (.if_icmp .ge 43, 3) := by decide +kernel
theorem d_Mo_putBack_20 : decode b_Mo_putBack 20 = .ok (.aload_n 0, 1) := by decide +kernel
theorem d_Mo_putBack_21 : decode b_Mo_putBack 21 = .ok (.getfield 36, 3) := by decide +kernel
theorem d_Mo_putBack_24 : decode b_Mo_putBack 24 = .ok (.bipush 12, 2) := by decide +kernel
theorem d_Mo_putBack_26 : decode b_Mo_putBack 26 = .ok (.iload_n 1, 1) := by decide +kernel
theorem d_Mo_putBack_27 : decode b_Mo_putBack 27 = .ok (.imul, 1) := by decide +kernel
theorem d_Mo_putBack_28 : decode b_Mo_putBack 28 = .ok (.iload_n 2, 1) := by decide +kernel
theorem d_Mo_putBack_29 : decode b_Mo_putBack 29 = .ok (.iadd, 1) := by decide +kernel
theorem d_Mo_putBack_30 : decode b_Mo_putBack 30 = .ok (.aload_n 0, 1) := by decide +kernel
theorem d_Mo_putBack_31 : decode b_Mo_putBack 31 = .ok (.getfield 72, 3) := by decide +kernel
theorem d_Mo_putBack_34 : decode b_Mo_putBack 34 = .ok (.iload_n 2, 1) := by decide +kernel
theorem d_Mo_putBack_35 : decode b_Mo_putBack 35 = .ok (.iaload, 1) := by decide +kernel
theorem d_Mo_putBack_36 : decode b_Mo_putBack 36 = .ok (.iastore, 1) := by decide +kernel
theorem d_Mo_putBack_37 : decode b_Mo_putBack 37 = .ok (.aload_n 0, 1) := by decide +kernel
theorem d_Mo_putBack_38 : decode b_Mo_putBack 38 = .ok (.getfield 39, 3) := by decide +kernel
theorem d_Mo_putBack_41 : decode b_Mo_putBack 41 = .ok (.bipush 12, 2) := by decide +kernel
theorem d_Mo_putBack_43 : decode b_Mo_putBack 43 = .ok (.iload_n 1, 1) := by decide +kernel
theorem d_Mo_putBack_44 : decode b_Mo_putBack 44 = .ok (.imul, 1) := by decide +kernel
theorem d_Mo_putBack_45 : decode b_Mo_putBack 45 = .ok (.iload_n 2, 1) := by decide +kernel
theorem d_Mo_putBack_46 : decode b_Mo_putBack 46 = .ok (.iadd, 1) := by decide +kernel
theorem d_Mo_putBack_47 : decode b_Mo_putBack 47 = .ok (.aload_n 0, 1) := by decide +kernel
theorem d_Mo_putBack_48 : decode b_Mo_putBack 48 = .ok (.getfield 75, 3) := by decide +kernel
theorem d_Mo_putBack_51 : decode b_Mo_putBack 51 = .ok (.iload_n 2, 1) := by decide +kernel
theorem d_Mo_putBack_52 : decode b_Mo_putBack 52 = .ok (.iaload, 1) := by decide +kernel
theorem d_Mo_putBack_53 : decode b_Mo_putBack 53 = .ok (.iastore, 1) := by decide +kernel
theorem d_Mo_putBack_54 : decode b_Mo_putBack 54 = .ok (.iinc 2 1, 3) := by decide +kernel
theorem d_Mo_putBack_57 : decode b_Mo_putBack 57 = .ok (.goto (-45), 3) := by decide +kernel
theorem d_Mo_putBack_60 : decode b_Mo_putBack 60 = .ok (.return_, 1) := by decide +kernel
theorem d_Mo_push_0 : decode b_Mo_push 0 = .ok (.iconst 0, 1) := by decide +kernel
theorem d_Mo_push_1 : decode b_Mo_push 1 = .ok (.istore_n 2, 1) := by decide +kernel
theorem d_Mo_push_2 : decode b_Mo_push 2 = .ok (.iload_n 2, 1) := by decide +kernel
theorem d_Mo_push_3 : decode b_Mo_push 3 = .ok (.aload_n 0, 1) := by decide +kernel
theorem d_Mo_push_4 : decode b_Mo_push 4 = .ok (.getfield 33, 3) := by decide +kernel
theorem d_Mo_push_7 : decode b_Mo_push 7 = .ok (.iload_n 1, 1) := by decide +kernel
theorem d_Mo_push_8 : decode b_Mo_push 8 = .ok (.iaload, 1) := by decide +kernel
theorem d_Mo_push_9 : decode b_Mo_push 9 = .ok (.if_icmp .ge 59, 3) := by decide +kernel
theorem d_Mo_push_12 : decode b_Mo_push 12 = .ok (.aload_n 0, 1) := by decide +kernel
theorem d_Mo_push_13 : decode b_Mo_push 13 = .ok (.getfield 66, 3) := by decide +kernel
theorem d_Mo_push_16 : decode b_Mo_push 16 = .ok (.aload_n 0, 1) := by decide +kernel
theorem d_Mo_push_17 : decode b_Mo_push 17 = .ok (.getfield 124, 3) := by decide +kernel
theorem d_Mo_push_20 : decode b_Mo_push 20 = .ok (.aload_n 0, 1) := by decide +kernel
theorem d_Mo_push_21 : decode b_Mo_push 21 = .ok (.getfield 36, 3) := by decide +kernel
theorem d_Mo_push_24 : decode b_Mo_push 24 = .ok (.bipush 12, 2) := by decide +kernel
theorem d_Mo_push_26 : decode b_Mo_push 26 = .ok (.iload_n 1, 1) := by decide +kernel
theorem d_Mo_push_27 : decode b_Mo_push 27 = .ok (.imul, 1) := by decide +kernel
theorem d_Mo_push_28 : decode b_Mo_push 28 = .ok (.iload_n 2, 1) := by decide +kernel
theorem d_Mo_push_29 : decode b_Mo_push 29 = .ok (.iadd, 1) := by decide +kernel
theorem d_Mo_push_30 : decode b_Mo_push 30 = .ok (.iaload, 1) := by decide +kernel
theorem d_Mo_push_31 : decode b_Mo_push 31 = .ok (.iastore, 1) := by decide +kernel
theorem d_Mo_push_32 : decode b_Mo_push 32 = .ok (.aload_n 0, 1) := by decide +kernel
theorem d_Mo_push_33 : decode b_Mo_push 33 = .ok (.getfield 69, 3) := by decide +kernel
theorem d_Mo_push_36 : decode b_Mo_push 36 = .ok (.aload_n 0, 1) := by decide +kernel
theorem d_Mo_push_37 : decode b_Mo_push 37 = .ok (.getfield 124, 3) := by decide +kernel
theorem d_Mo_push_40 : decode b_Mo_push 40 = .ok (.aload_n 0, 1) := by decide +kernel
theorem d_Mo_push_41 : decode b_Mo_push 41 = .ok (.getfield 39, 3) := by decide +kernel
theorem d_Mo_push_44 : decode b_Mo_push 44 = .ok (.bipush 12, 2) := by decide +kernel
theorem d_Mo_push_46 : decode b_Mo_push 46 = .ok (.iload_n 1, 1) := by decide +kernel
theorem d_Mo_push_47 : decode b_Mo_push 47 = .ok (.imul, 1) := by decide +kernel
theorem d_Mo_push_48 : decode b_Mo_push 48 = .ok (.iload_n 2, 1) := by decide +kernel
theorem d_Mo_push_49 : decode b_Mo_push 49 = .ok (.iadd, 1) := by decide +kernel
theorem d_Mo_push_50 : decode b_Mo_push 50 = .ok (.iaload, 1) := by decide +kernel
theorem d_Mo_push_51 : decode b_Mo_push 51 = .ok (.iastore, 1) := by decide +kernel
theorem d_Mo_push_52 : decode b_Mo_push 52 = .ok (.aload_n 0, 1) := by decide +kernel
theorem d_Mo_push_53 : decode b_Mo_push 53 = .ok (.dup, 1) := by decide +kernel
theorem d_Mo_push_54 : decode b_Mo_push 54 = .ok (.getfield 124, 3) := by decide +kernel
theorem d_Mo_push_57 : decode b_Mo_push 57 = .ok (.iconst 1, 1) := by decide +kernel
theorem d_Mo_push_58 : decode b_Mo_push 58 = .ok (.iadd, 1) := by decide +kernel
theorem d_Mo_push_59 : decode b_Mo_push 59 = .ok (.putfield 124, 3) := by decide +kernel
theorem d_Mo_push_62 : decode b_Mo_push 62 = .ok (.iinc 2 1, 3) := by decide +kernel
theorem d_Mo_push_65 : decode b_Mo_push 65 = .ok (.goto (-63), 3) := by decide +kernel
theorem d_Mo_push_68 : decode b_Mo_push 68 = .ok (.aload_n 0, 1) := by decide +kernel
theorem d_Mo_push_69 : decode b_Mo_push 69 = .ok (.getfield 13, 3) := by decide +kernel
theorem d_Mo_push_72 : decode b_Mo_push 72 = .ok (.iload_n 1, 1) := by decide +kernel
theorem d_Mo_push_73 : decode b_Mo_push 73 = .ok (.iaload, 1) := by decide +kernel
theorem d_Mo_push_74 : decode b_Mo_push 74 = .ok (.istore_n 2, 1) := by decide +kernel
theorem d_Mo_push_75 : decode b_Mo_push 75 = .ok (.iconst 0, 1) := by decide +kernel
theorem d_Mo_push_76 : decode b_Mo_push 76 = .ok (.istore_n 3, 1) := by decide +kernel
theorem d_Mo_push_77 : decode b_Mo_push 77 = .ok (.aload_n 0, 1) := by decide +kernel
theorem d_Mo_push_78 : decode b_Mo_push 78 = .ok (.iconst 0, 1) := by decide +kernel
theorem d_Mo_push_79 : decode b_Mo_push 79 = .ok (.putfield 109, 3) := by decide +kernel
theorem d_Mo_push_82 : decode b_Mo_push 82 = .ok (.iload_n 2, 1) := by decide +kernel
theorem d_Mo_push_83 : decode b_Mo_push 83 = .ok (.ifCond .le 73, 3) := by decide +kernel
theorem d_Mo_push_86 : decode b_Mo_push 86 = .ok (.aload_n 0, 1) := by decide +kernel
theorem d_Mo_push_87 : decode b_Mo_push 87 = .ok (.getfield 66, 3) := by decide +kernel
theorem d_Mo_push_90 : decode b_Mo_push 90 = .ok (.iload_n 3, 1) := by decide +kernel
theorem d_Mo_push_91 : decode b_Mo_push 91 = .ok (.iaload, 1) := by decide +kernel
theorem d_Mo_push_92 : decode b_Mo_push 92 = .ok (.iload_n 2, 1) := by decide +kernel
theorem d_Mo_push_93 : decode b_Mo_push 93 = .ok (.if_icmp .ge 12, 3) := by decide +kernel
theorem d_Mo_push_96 : decode b_Mo_push 96 = .ok (.aload_n 0, 1) := by decide +kernel
theorem d_Mo_push_97 : decode b_Mo_push 97 = .ok (.getfield 66, 3) := by decide +kernel
theorem d_Mo_push_100 : decode b_Mo_push 100 = .ok (.iload_n 3, 1) := by decide +kernel
theorem d_Mo_push_101 : decode b_Mo_push 101 = .ok (.iaload, 1) := by decide +kernel
theorem d_Mo_push_102 : decode b_Mo_push 102 = .ok (.goto 4, 3) := by decide +kernel
theorem d_Mo_push_105 : decode b_Mo_push 105 = .ok (.iload_n 2, 1) := by decide +kernel
theorem d_Mo_push_106 : decode b_Mo_push 106 = .ok (.istore 4, 2) := by decide +kernel
theorem d_Mo_push_108 : decode b_Mo_push 108 = .ok (.aload_n 0, 1) := by decide +kernel
theorem d_Mo_push_109 : decode b_Mo_push 109 = .ok (.iload 4, 2) := by decide +kernel
theorem d_Mo_push_111 : decode b_Mo_push 111 = .ok (.aload_n 0, 1) := by decide +kernel
theorem d_Mo_push_112 : decode b_Mo_push 112 = .ok (.getfield 69, 3) := by decide +kernel
theorem d_Mo_push_115 : decode b_Mo_push 115 = .ok (.iload_n 3, 1) := by decide +kernel
theorem d_Mo_push_116 : decode b_Mo_push 116 = .ok (.iaload, 1) := by decide +kernel
theorem d_Mo_push_117 : decode b_Mo_push 117 = .ok (.invokevirtual 116, 3) := by decide +kernel
theorem d_Mo_push_120 : decode b_Mo_push 120 = .ok (.aload_n 0, 1) := by decide +kernel
theorem d_Mo_push_121 : decode b_Mo_push 121 = .ok (.getfield 66, 3) := by decide +kernel
theorem d_Mo_push_124 : decode b_Mo_push 124 = .ok (.iload_n 3, 1) := by decide +kernel
theorem d_Mo_push_125 : decode b_Mo_push 125 = .ok (.dup2, 1) := by decide +kernel
theorem d_Mo_push_126 : decode b_Mo_push 126 = .ok (.iaload, 1) := by decide +kernel
theorem d_Mo_push_127 : decode b_Mo_push 127 = .ok (.iload 4, 2) := by decide +kernel
theorem d_Mo_push_129 : decode b_Mo_push 129 = .ok (.isub, 1) := by decide +kernel
theorem d_Mo_push_130 : decode b_Mo_push 130 = .ok (.iastore, 1) := by decide +kernel
theorem d_Mo_push_131 : decode b_Mo_push 131 = .ok (.iload_n 2, 1) := by decide +kernel
theorem d_Mo_push_132 : decode b_Mo_push 132 = .ok (.iload 4, 2) := by decide +kernel
theorem d_Mo_push_134 : decode b_Mo_push 134 = .ok (.isub, 1) := by decide +kernel
theorem d_Mo_push_135 : decode b_Mo_push 135 = .ok (.istore_n 2, 1) := by decide +kernel
theorem d_Mo_push_136 : decode b_Mo_push 136 = .ok (.iload_n 3, 1) := by decide +kernel
theorem d_Mo_push_137 : decode b_Mo_push 137 = .ok (.aload_n 0, 1) := by decide +kernel
theorem d_Mo_push_138 : decode b_Mo_push 138 = .ok (.getfield 66, 3) := by decide +kernel
theorem d_Mo_push_141 : decode b_Mo_push 141 = .ok (.iload_n 3, 1) := by decide +kernel
theorem d_Mo_push_142 : decode b_Mo_push 142 = .ok (.iaload, 1) := by decide +kernel
theorem d_Mo_push_143 : decode b_Mo_push 143 = .ok (.ifCond .ne 7, 3) := by decide +kernel
theorem d_Mo_push_146 : decode b_Mo_push 146 = .ok (.iconst 1, 1) := by decide +kernel
theorem d_Mo_push_147 : decode b_Mo_push 147 = .ok (.goto 4, 3) := by decide +kernel
theorem d_Mo_push_150 : decode b_Mo_push 150 = .ok (.iconst 0, 1) := by decide +kernel
theorem d_Mo_push_151 : decode b_Mo_push 151 = .ok (.iadd, 1) := by decide +kernel
theorem d_Mo_push_152 : decode b_Mo_push 152 = .ok (.istore_n 3, 1) := by decide +kernel
theorem d_Mo_push_153 : decode b_Mo_push 153 = .ok (.goto (-71), 3) := by decide +kernel
theorem d_Mo_push_156 : decode b_Mo_push 156 = .ok (.iconst 0, 1) := by decide +kernel
theorem d_Mo_push_157 : decode b_Mo_push 157 = .ok (.istore 4, 2) := by decide +kernel
theorem d_Mo_push_159 : decode b_Mo_push 159 = .ok (.iload_n 3, 1) := by decide +kernel
theorem d_Mo_push_160 : decode b_Mo_push 160 = .ok (.aload_n 0, 1) := by decide +kernel
theorem d_Mo_push_161 : decode b_Mo_push 161 = .ok (.getfield 124, 3) := by decide +kernel
theorem d_Mo_push_164 : decode b_Mo_push 164 = .ok (.if_icmp .ge 38, 3) := by decide +kernel
theorem d_Mo_push_167 : decode b_Mo_push 167 = .ok (.aload_n 0, 1) := by decide +kernel
theorem d_Mo_push_168 : decode b_Mo_push 168 = .ok (.getfield 66, 3) := by decide +kernel
theorem d_Mo_push_171 : decode b_Mo_push 171 = .ok (.iload 4, 2) := by decide +kernel
theorem d_Mo_push_173 : decode b_Mo_push 173 = .ok (.aload_n 0, 1) := by decide +kernel
theorem d_Mo_push_174 : decode b_Mo_push 174 = .ok (.getfield 66, 3) := by decide +kernel
theorem d_Mo_push_177 : decode b_Mo_push 177 = .ok (.iload_n 3, 1) := by decide +kernel
theorem d_Mo_push_178 : decode b_Mo_push 178 = .ok (.iaload, 1) := by decide +kernel
theorem d_Mo_push_179 : decode b_Mo_push 179 = .ok (.iastore, 1) := by decide +kernel
theorem d_Mo_push_180 : decode b_Mo_push 180 = .ok (.aload_n 0, 1) := by decide +kernel
theorem d_Mo_push_181 : decode b_Mo_push 181 = .ok (.getfield 69, 3) := by decide +kernel
theorem d_Mo_push_184 : decode b_Mo_push 184 = .ok (.iload 4, 2) := by decide +kernel
theorem d_Mo_push_186 : decode b_Mo_push 186 = .ok (.aload_n 0, 1) := by decide +kernel
theorem d_Mo_push_187 : decode b_Mo_push 187 = .ok (.getfield 69, 3) := by decide +kernel
theorem d_Mo_push_190 : decode b_Mo_push 190 = .ok (.iload_n 3, 1) := by decide +kernel
theorem d_Mo_push_191 : decode b_Mo_push 191 = .ok (.iaload, 1) := by decide +kernel
theorem d_Mo_push_192 : decode b_Mo_push 192 = .ok (.iastore, 1) := by decide +kernel
theorem d_Mo_push_193 : decode b_Mo_push 193 = .ok (.iinc 4 1, 3) := by decide +kernel
theorem d_Mo_push_196 : decode b_Mo_push 196 = .ok (.iinc 3 1, 3) := by decide +kernel
theorem d_Mo_push_199 : decode b_Mo_push 199 = .ok (.goto (-40), 3) := by decide +kernel
theorem d_Mo_push_202 : decode b_Mo_push 202 = .ok (.aload_n 0, 1) := by decide +kernel
theorem d_Mo_push_203 : decode b_Mo_push 203 = .ok (.iload 4, 2) := by decide +kernel
theorem d_Mo_push_205 : decode b_Mo_push 205 = .ok (.putfield 124, 3) := by decide +kernel
theorem d_Mo_push_208 : decode b_Mo_push 208 = .ok (.aload_n 0, 1) := by decide +kernel
theorem d_Mo_push_209 : decode b_Mo_push 209 = .ok (.invokevirtual 127, 3) := by decide +kernel
theorem d_Mo_push_212 : decode b_Mo_push 212 = .ok (.aload_n 0, 1) := by decide +kernel
theorem d_Mo_push_213 : decode b_Mo_push 213 = .ok (.iload_n 1, 1) := by decide +kernel
theorem d_Mo_push_214 : decode b_Mo_push 214 = .ok (.invokevirtual 130, 3) := by decide +kernel
theorem d_Mo_push_217 : decode b_Mo_push 217 = .ok (.aload_n 0, 1) := by decide +kernel
theorem d_Mo_push_218 : decode b_Mo_push 218 = .ok (.getfield 42, 3) := by decide +kernel
theorem d_Mo_push_221 : decode b_Mo_push 221 = .ok (.iload_n 1, 1) := by decide +kernel
theorem d_Mo_push_222 : decode b_Mo_push 222 = .ok (.aload_n 0, 1) := by decide +kernel
theorem d_Mo_push_223 : decode b_Mo_push 223 = .ok (.getfield 133, 3) := by decide +kernel
theorem d_Mo_push_226 : decode b_Mo_push 226 = .ok (.iastore, 1) := by decide +kernel
theorem d_Mo_push_227 : decode b_Mo_push 227 = .ok (.return_, 1) := by decide +kernel
theorem d_Mo_take_0 : decode b_Mo_take 0 = .ok (.iconst 0, 1) := by decide +kernel
theorem d_Mo_take_1 : decode b_Mo_take 1 = .ok (.istore_n 3, 1) := by decide +kernel
theorem d_Mo_take_2 : decode b_Mo_take 2 = .ok (.iload_n 1, 1) := by decide +kernel
theorem d_Mo_take_3 : decode b_Mo_take 3 = .ok (.istore 4, 2) := by decide +kernel
theorem d_Mo_take_5 : decode b_Mo_take 5 = .ok (.iload 4, 2) := by decide +kernel
theorem d_Mo_take_7 : decode b_Mo_take 7 = .ok (.iconst (-1), 1) := by decide +kernel
theorem d_Mo_take_8 : decode b_Mo_take 8 = .ok (.if_icmp .eq 26, 3) := by decide +kernel
theorem d_Mo_take_11 : decode b_Mo_take 11 = .ok (.aload_n 0, 1) := by decide +kernel
theorem d_Mo_take_12 : decode b_Mo_take 12 = .ok (.getfield 78, 3) := by decide +kernel
theorem d_Mo_take_15 : decode b_Mo_take 15 = .ok (.iload_n 3, 1) := by decide +kernel
theorem d_Mo_take_16 : decode b_Mo_take 16 = .ok (.iload 4, 2) := by decide +kernel
theorem d_Mo_take_18 : decode b_Mo_take 18 = .ok (.iastore, 1) := by decide +kernel
theorem d_Mo_take_19 : decode b_Mo_take 19 = .ok (.iinc 3 1, 3) := by decide +kernel
theorem d_Mo_take_22 : decode b_Mo_take 22 = .ok (.aload_n 0, 1) := by decide +kernel
theorem d_Mo_take_23 : decode b_Mo_take 23 = .ok (.getfield 7, 3) := by decide +kernel
theorem d_Mo_take_26 : decode b_Mo_take 26 = .ok (.iload 4, 2) := by decide +kernel
theorem d_Mo_take_28 : decode b_Mo_take 28 = .ok (.iaload, 1) := by decide +kernel
theorem d_Mo_take_29 : decode b_Mo_take 29 = .ok (.istore 4, 2) := by decide +kernel
theorem d_Mo_take_31 : decode b_Mo_take 31 = .ok (.goto (-26), 3) := by decide +kernel
theorem d_Mo_take_34 : decode b_Mo_take 34 = .ok (.aload_n 0, 1) := by decide +kernel
theorem d_Mo_take_35 : decode b_Mo_take 35 = .ok (.iconst 1, 1) := by decide +kernel
theorem d_Mo_take_36 : decode b_Mo_take 36 = .ok (.putfield 124, 3) := by decide +kernel
theorem d_Mo_take_39 : decode b_Mo_take 39 = .ok (.aload_n 0, 1) := by decide +kernel
theorem d_Mo_take_40 : decode b_Mo_take 40 = .ok (.getfield 66, 3) := by decide +kernel
theorem d_Mo_take_43 : decode b_Mo_take 43 = .ok (.iconst 0, 1) := by decide +kernel
theorem d_Mo_take_44 : decode b_Mo_take 44 = .ok (.iload_n 2, 1) := by decide +kernel
theorem d_Mo_take_45 : decode b_Mo_take 45 = .ok (.iastore, 1) := by decide +kernel
theorem d_Mo_take_46 : decode b_Mo_take 46 = .ok (.aload_n 0, 1) := by decide +kernel
theorem d_Mo_take_47 : decode b_Mo_take 47 = .ok (.getfield 69, 3) := by decide +kernel
theorem d_Mo_take_50 : decode b_Mo_take 50 = .ok (.iconst 0, 1) := by decide +kernel
theorem d_Mo_take_51 : decode b_Mo_take 51 = .ok (.aload_n 0, 1) := by decide +kernel
theorem d_Mo_take_52 : decode b_Mo_take 52 = .ok (.getfield 26, 3) := by decide +kernel
theorem d_Mo_take_55 : decode b_Mo_take 55 = .ok (.iastore, 1) := by decide +kernel
theorem d_Mo_take_56 : decode b_Mo_take 56 = .ok (.aload_n 0, 1) := by decide +kernel
theorem d_Mo_take_57 : decode b_Mo_take 57 = .ok (.dup, 1) := by decide +kernel
theorem d_Mo_take_58 : decode b_Mo_take 58 = .ok (.getfield 136, 3) := by decide +kernel
theorem d_Mo_take_61 : decode b_Mo_take 61 = .ok (.iload_n 2, 1) := by decide +kernel
theorem d_Mo_take_62 : decode b_Mo_take 62 = .ok (.i2l, 1) := by decide +kernel
theorem d_Mo_take_63 : decode b_Mo_take 63 = .ok (.aload_n 0, 1) := by decide +kernel
theorem d_Mo_take_64 : decode b_Mo_take 64 = .ok (.getfield 26, 3) := by decide +kernel
theorem d_Mo_take_67 : decode b_Mo_take 67 = .ok (.i2l, 1) := by decide +kernel
theorem d_Mo_take_68 : decode b_Mo_take 68 = .ok (.lmul, 1) := by decide +kernel
theorem d_Mo_take_69 : decode b_Mo_take 69 = .ok (.ladd, 1) := by decide +kernel
theorem d_Mo_take_70 : decode b_Mo_take 70 = .ok (.putfield 136, 3) := by decide +kernel
theorem d_Mo_take_73 : decode b_Mo_take 73 = .ok (.iload_n 3, 1) := by decide +kernel
theorem d_Mo_take_74 : decode b_Mo_take 74 = .ok (.iconst 1, 1) := by decide +kernel
theorem d_Mo_take_75 : decode b_Mo_take 75 = .ok (.isub, 1) := by decide +kernel
theorem d_Mo_take_76 : decode b_Mo_take 76 = .ok (.istore 4, 2) := by decide +kernel
theorem d_Mo_take_78 : decode b_Mo_take 78 = .ok (.iload 4, 2) := by decide +kernel
theorem d_Mo_take_80 : decode b_Mo_take 80 = .ok (.ifCond .lt 20, 3) := by decide +kernel
theorem d_Mo_take_83 : decode b_Mo_take 83 = .ok (.aload_n 0, 1) := by decide +kernel
theorem d_Mo_take_84 : decode b_Mo_take 84 = .ok (.aload_n 0, 1) := by decide +kernel
theorem d_Mo_take_85 : decode b_Mo_take 85 = .ok (.getfield 78, 3) := by decide +kernel
theorem d_Mo_take_88 : decode b_Mo_take 88 = .ok (.iload 4, 2) := by decide +kernel
theorem d_Mo_take_90 : decode b_Mo_take 90 = .ok (.iaload, 1) := by decide +kernel
theorem d_Mo_take_91 : decode b_Mo_take 91 = .ok (.invokevirtual 139, 3) := by decide +kernel
theorem d_Mo_take_94 : decode b_Mo_take 94 = .ok (.iinc 4 (-1), 3) := by decide +kernel
theorem d_Mo_take_97 : decode b_Mo_take 97 = .ok (.goto (-19), 3) := by decide +kernel
theorem d_Mo_take_100 : decode b_Mo_take 100 = .ok (.aload_n 0, 1) := by decide +kernel
theorem d_Mo_take_101 : decode b_Mo_take 101 = .ok (.lconst 0, 1) := by decide +kernel
theorem d_Mo_take_102 : decode b_Mo_take 102 = .ok (.putfield 142, 3) := by decide +kernel
theorem d_Mo_take_105 : decode b_Mo_take 105 = .ok (.aload_n 0, 1) := by decide +kernel
theorem d_Mo_take_106 : decode b_Mo_take 106 = .ok (.aload_n 0, 1) := by decide +kernel
theorem d_Mo_take_107 : decode b_Mo_take 107 = .ok (.getfield 69, 3) := by decide +kernel
theorem d_Mo_take_110 : decode b_Mo_take 110 = .ok (.iconst 0, 1) := by decide +kernel
theorem d_Mo_take_111 : decode b_Mo_take 111 = .ok (.iaload, 1) := by decide +kernel
theorem d_Mo_take_112 : decode b_Mo_take 112 = .ok (.putfield 145, 3) := by decide +kernel
theorem d_Mo_take_115 : decode b_Mo_take 115 = .ok (.aload_n 0, 1) := by decide +kernel
theorem d_Mo_take_116 : decode b_Mo_take 116 = .ok (.aload_n 0, 1) := by decide +kernel
theorem d_Mo_take_117 : decode b_Mo_take 117 = .ok (.getfield 69, 3) := by decide +kernel
theorem d_Mo_take_120 : decode b_Mo_take 120 = .ok (.iconst 0, 1) := by decide +kernel
theorem d_Mo_take_121 : decode b_Mo_take 121 = .ok (.iaload, 1) := by decide +kernel
theorem d_Mo_take_122 : decode b_Mo_take 122 = .ok (.putfield 148, 3) := by decide +kernel
theorem d_Mo_take_125 : decode b_Mo_take 125 = .ok (.iconst 0, 1) := by decide +kernel
theorem d_Mo_take_126 : decode b_Mo_take 126 = .ok (.istore 4, 2) := by decide +kernel
theorem d_Mo_take_128 : decode b_Mo_take 128 = .ok (.iload 4, 2) := by decide +kernel
theorem d_Mo_take_130 : decode b_Mo_take 130 = .ok (.aload_n 0, 1) := by decide +kernel
theorem d_Mo_take_131 : decode b_Mo_take 131 = .ok (.getfield 124, 3) := by decide +kernel
theorem d_Mo_take_134 : decode b_Mo_take 134 = .ok (.if_icmp .ge 99, 3) := by decide +kernel
theorem d_Mo_take_137 : decode b_Mo_take 137 = .ok (.aload_n 0, 1) := by decide +kernel
theorem d_Mo_take_138 : decode b_Mo_take 138 = .ok (.dup, 1) := by decide +kernel
theorem d_Mo_take_139 : decode b_Mo_take 139 = .ok (.getfield 142, 3) := by decide +kernel
theorem d_Mo_take_142 : decode b_Mo_take 142 = .ok (.aload_n 0, 1) := by decide +kernel
theorem d_Mo_take_143 : decode b_Mo_take 143 = .ok (.getfield 66, 3) := by decide +kernel
theorem d_Mo_take_146 : decode b_Mo_take 146 = .ok (.iload 4, 2) := by decide +kernel
theorem d_Mo_take_148 : decode b_Mo_take 148 = .ok (.iaload, 1) := by decide +kernel
theorem d_Mo_take_149 : decode b_Mo_take 149 = .ok (.i2l, 1) := by decide +kernel
theorem d_Mo_take_150 : decode b_Mo_take 150 = .ok (.aload_n 0, 1) := by decide +kernel
theorem d_Mo_take_151 : decode b_Mo_take 151 = .ok (.getfield 69, 3) := by decide +kernel
theorem d_Mo_take_154 : decode b_Mo_take 154 = .ok (.iload 4, 2) := by decide +kernel
theorem d_Mo_take_156 : decode b_Mo_take 156 = .ok (.iaload, 1) := by decide +kernel
theorem d_Mo_take_157 : decode b_Mo_take 157 = .ok (.i2l, 1) := by decide +kernel
theorem d_Mo_take_158 : decode b_Mo_take 158 = .ok (.lmul, 1) := by decide +kernel
theorem d_Mo_take_159 : decode b_Mo_take 159 = .ok (.ladd, 1) := by decide +kernel
theorem d_Mo_take_160 : decode b_Mo_take 160 = .ok (.putfield 142, 3) := by decide +kernel
theorem d_Mo_take_163 : decode b_Mo_take 163 = .ok (.aload_n 0, 1) := by decide +kernel
theorem d_Mo_take_164 : decode b_Mo_take 164 = .ok (.aload_n 0, 1) := by decide +kernel
theorem d_Mo_take_165 : decode b_Mo_take 165 = .ok (.getfield 69, 3) := by decide +kernel
theorem d_Mo_take_168 : decode b_Mo_take 168 = .ok (.iload 4, 2) := by decide +kernel
theorem d_Mo_take_170 : decode b_Mo_take 170 = .ok (.iaload, 1) := by decide +kernel
theorem d_Mo_take_171 : decode b_Mo_take 171 = .ok (.aload_n 0, 1) := by decide +kernel
theorem d_Mo_take_172 : decode b_Mo_take 172 = .ok (.getfield 145, 3) := by decide +kernel
theorem d_Mo_take_175 : decode b_Mo_take 175 = .ok (.if_icmp .ge 13, 3) := by decide +kernel
theorem d_Mo_take_178 : decode b_Mo_take 178 = .ok (.aload_n 0, 1) := by decide +kernel
theorem d_Mo_take_179 : decode b_Mo_take 179 = .ok (.getfield 69, 3) := by decide +kernel
theorem d_Mo_take_182 : decode b_Mo_take 182 = .ok (.iload 4, 2) := by decide +kernel
theorem d_Mo_take_184 : decode b_Mo_take 184 = .ok (.iaload, 1) := by decide +kernel
theorem d_Mo_take_185 : decode b_Mo_take 185 = .ok (.goto 7, 3) := by decide +kernel
theorem d_Mo_take_188 : decode b_Mo_take 188 = .ok (.aload_n 0, 1) := by decide +kernel
theorem d_Mo_take_189 : decode b_Mo_take 189 = .ok (.getfield 145, 3) := by decide +kernel
theorem d_Mo_take_192 : decode b_Mo_take 192 = .ok (.putfield 145, 3) := by decide +kernel
theorem d_Mo_take_195 : decode b_Mo_take 195 = .ok (.aload_n 0, 1) := by decide +kernel
theorem d_Mo_take_196 : decode b_Mo_take 196 = .ok (.aload_n 0, 1) := by decide +kernel
theorem d_Mo_take_197 : decode b_Mo_take 197 = .ok (.getfield 69, 3) := by decide +kernel
theorem d_Mo_take_200 : decode b_Mo_take 200 = .ok (.iload 4, 2) := by decide +kernel
theorem d_Mo_take_202 : decode b_Mo_take 202 = .ok (.iaload, 1) := by decide +kernel
theorem d_Mo_take_203 : decode b_Mo_take 203 = .ok (.aload_n 0, 1) := by decide +kernel
theorem d_Mo_take_204 : decode b_Mo_take 204 = .ok (.getfield 148, 3) := by decide +kernel
theorem d_Mo_take_207 : decode b_Mo_take 207 = .ok (.if_icmp .le 13, 3) := by decide +kernel
theorem d_Mo_take_210 : decode b_Mo_take 210 = .ok (.aload_n 0, 1) := by decide +kernel
theorem d_Mo_take_211 : decode b_Mo_take 211 = .ok (.getfield 69, 3) := by decide +kernel
theorem d_Mo_take_214 : decode b_Mo_take 214 = .ok (.iload 4, 2) := by decide +kernel
theorem d_Mo_take_216 : decode b_Mo_take 216 = .ok (.iaload, 1) := by decide +kernel
theorem d_Mo_take_217 : decode b_Mo_take 217 = .ok (.goto 7, 3) := by decide +kernel
theorem d_Mo_take_220 : decode b_Mo_take 220 = .ok (.aload_n 0, 1) := by decide +kernel
theorem d_Mo_take_221 : decode b_Mo_take 221 = .ok (.getfield 148, 3) := by decide +kernel
theorem d_Mo_take_224 : decode b_Mo_take 224 = .ok (.putfield 148, 3) := by decide +kernel
theorem d_Mo_take_227 : decode b_Mo_take 227 = .ok (.iinc 4 1, 3) := by decide +kernel
theorem d_Mo_take_230 : decode b_Mo_take 230 = .ok (.goto (-102), 3) := by decide +kernel
theorem d_Mo_take_233 : decode b_Mo_take 233 = .ok (.aload_n 0, 1) := by decide +kernel
theorem d_Mo_take_234 : decode b_Mo_take 234 = .ok (.dup, 1) := by decide +kernel
theorem d_Mo_take_235 : decode b_Mo_take 235 = .ok (.getfield 151, 3) := by decide +kernel
theorem d_Mo_take_238 : decode b_Mo_take 238 = .ok (.aload_n 0, 1) := by decide +kernel
theorem d_Mo_take_239 : decode b_Mo_take 239 = .ok (.getfield 142, 3) := by decide +kernel
theorem d_Mo_take_242 : decode b_Mo_take 242 = .ok (.ladd, 1) := by decide +kernel
theorem d_Mo_take_243 : decode b_Mo_take 243 = .ok (.putfield 151, 3) := by decide +kernel
theorem d_Mo_take_246 : decode b_Mo_take 246 = .ok (.return_, 1) := by decide +kernel
theorem d_Mo_leastOf_0 : decode b_Mo_leastOf 0 = .ok (.aload_n 0, 1) := by decide +kernel
theorem d_Mo_leastOf_1 : decode b_Mo_leastOf 1 = .ok (.getfield 39, 3) := by decide +kernel
theorem d_Mo_leastOf_4 : decode b_Mo_leastOf 4 = .ok (.bipush 12, 2) := by decide +kernel
theorem d_Mo_leastOf_6 : decode b_Mo_leastOf 6 = .ok (.iload_n 1, 1) := by decide +kernel
theorem d_Mo_leastOf_7 : decode b_Mo_leastOf 7 = .ok (.imul, 1) := by decide +kernel
theorem d_Mo_leastOf_8 : decode b_Mo_leastOf 8 = .ok (.iaload, 1) := by decide +kernel
theorem d_Mo_leastOf_9 : decode b_Mo_leastOf 9 = .ok (.istore_n 2, 1) := by decide +kernel
theorem d_Mo_leastOf_10 : decode b_Mo_leastOf 10 = .ok (.iconst 1, 1) := by decide +kernel
theorem d_Mo_leastOf_11 : decode b_Mo_leastOf 11 = .ok (.istore_n 3, 1) := by decide +kernel
theorem d_Mo_leastOf_12 : decode b_Mo_leastOf 12 = .ok (.iload_n 3, 1) := by decide +kernel
theorem d_Mo_leastOf_13 : decode b_Mo_leastOf 13 = .ok (.aload_n 0, 1) := by decide +kernel
theorem d_Mo_leastOf_14 : decode b_Mo_leastOf 14 = .ok (.getfield 33, 3) := by decide +kernel
theorem d_Mo_leastOf_17 : decode b_Mo_leastOf 17 = .ok (.iload_n 1, 1) := by decide +kernel
theorem d_Mo_leastOf_18 : decode b_Mo_leastOf 18 = .ok (.iaload, 1) := by decide +kernel
theorem d_Mo_leastOf_19 : decode b_Mo_leastOf 19 = .ok (.if_icmp .ge 40, 3) := by decide +kernel
theorem d_Mo_leastOf_22 : decode b_Mo_leastOf 22 = .ok (.aload_n 0, 1) := by decide +kernel
theorem d_Mo_leastOf_23 : decode b_Mo_leastOf 23 = .ok (.getfield 39, 3) := by decide +kernel
theorem d_Mo_leastOf_26 : decode b_Mo_leastOf 26 = .ok (.bipush 12, 2) := by decide +kernel
theorem d_Mo_leastOf_28 : decode b_Mo_leastOf 28 = .ok (.iload_n 1, 1) := by decide +kernel
theorem d_Mo_leastOf_29 : decode b_Mo_leastOf 29 = .ok (.imul, 1) := by decide +kernel
theorem d_Mo_leastOf_30 : decode b_Mo_leastOf 30 = .ok (.iload_n 3, 1) := by decide +kernel
theorem d_Mo_leastOf_31 : decode b_Mo_leastOf 31 = .ok (.iadd, 1) := by decide +kernel
theorem d_Mo_leastOf_32 : decode b_Mo_leastOf 32 = .ok (.iaload, 1) := by decide +kernel
theorem d_Mo_leastOf_33 : decode b_Mo_leastOf 33 = .ok (.iload_n 2, 1) := by decide +kernel
theorem d_Mo_leastOf_34 : decode b_Mo_leastOf 34 = .ok (.if_icmp .ge 17, 3) := by decide +kernel
theorem d_Mo_leastOf_37 : decode b_Mo_leastOf 37 = .ok (.aload_n 0, 1) := by decide +kernel
theorem d_Mo_leastOf_38 : decode b_Mo_leastOf 38 = .ok (.getfield 39, 3) := by decide +kernel
theorem d_Mo_leastOf_41 : decode b_Mo_leastOf 41 = .ok (.bipush 12, 2) := by decide +kernel
theorem d_Mo_leastOf_43 : decode b_Mo_leastOf 43 = .ok (.iload_n 1, 1) := by decide +kernel
theorem d_Mo_leastOf_44 : decode b_Mo_leastOf 44 = .ok (.imul, 1) := by decide +kernel
theorem d_Mo_leastOf_45 : decode b_Mo_leastOf 45 = .ok (.iload_n 3, 1) := by decide +kernel
theorem d_Mo_leastOf_46 : decode b_Mo_leastOf 46 = .ok (.iadd, 1) := by decide +kernel
theorem d_Mo_leastOf_47 : decode b_Mo_leastOf 47 = .ok (.iaload, 1) := by decide +kernel
theorem d_Mo_leastOf_48 : decode b_Mo_leastOf 48 = .ok (.goto 4, 3) := by decide +kernel
theorem d_Mo_leastOf_51 : decode b_Mo_leastOf 51 = .ok (.iload_n 2, 1) := by decide +kernel
theorem d_Mo_leastOf_52 : decode b_Mo_leastOf 52 = .ok (.istore_n 2, 1) := by decide +kernel
theorem d_Mo_leastOf_53 : decode b_Mo_leastOf 53 = .ok (.iinc 3 1, 3) := by decide +kernel
theorem d_Mo_leastOf_56 : decode b_Mo_leastOf 56 = .ok (.goto (-44), 3) := by decide +kernel
theorem d_Mo_leastOf_59 : decode b_Mo_leastOf 59 = .ok (.iload_n 2, 1) := by decide +kernel
theorem d_Mo_leastOf_60 : decode b_Mo_leastOf 60 = .ok (.ireturn, 1) := by decide +kernel
theorem d_Mo_mostOf_0 : decode b_Mo_mostOf 0 = .ok (.aload_n 0, 1) := by decide +kernel
theorem d_Mo_mostOf_1 : decode b_Mo_mostOf 1 = .ok (.getfield 39, 3) := by decide +kernel
theorem d_Mo_mostOf_4 : decode b_Mo_mostOf 4 = .ok (.bipush 12, 2) := by decide +kernel
theorem d_Mo_mostOf_6 : decode b_Mo_mostOf 6 = .ok (.iload_n 1, 1) := by decide +kernel
theorem d_Mo_mostOf_7 : decode b_Mo_mostOf 7 = .ok (.imul, 1) := by decide +kernel
theorem d_Mo_mostOf_8 : decode b_Mo_mostOf 8 = .ok (.iaload, 1) := by decide +kernel
theorem d_Mo_mostOf_9 : decode b_Mo_mostOf 9 = .ok (.istore_n 2, 1) := by decide +kernel
theorem d_Mo_mostOf_10 : decode b_Mo_mostOf 10 = .ok (.iconst 1, 1) := by decide +kernel
theorem d_Mo_mostOf_11 : decode b_Mo_mostOf 11 = .ok (.istore_n 3, 1) := by decide +kernel
theorem d_Mo_mostOf_12 : decode b_Mo_mostOf 12 = .ok (.iload_n 3, 1) := by decide +kernel
theorem d_Mo_mostOf_13 : decode b_Mo_mostOf 13 = .ok (.aload_n 0, 1) := by decide +kernel
theorem d_Mo_mostOf_14 : decode b_Mo_mostOf 14 = .ok (.getfield 33, 3) := by decide +kernel
theorem d_Mo_mostOf_17 : decode b_Mo_mostOf 17 = .ok (.iload_n 1, 1) := by decide +kernel
theorem d_Mo_mostOf_18 : decode b_Mo_mostOf 18 = .ok (.iaload, 1) := by decide +kernel
theorem d_Mo_mostOf_19 : decode b_Mo_mostOf 19 = .ok (.if_icmp .ge 40, 3) := by decide +kernel
theorem d_Mo_mostOf_22 : decode b_Mo_mostOf 22 = .ok (.aload_n 0, 1) := by decide +kernel
theorem d_Mo_mostOf_23 : decode b_Mo_mostOf 23 = .ok (.getfield 39, 3) := by decide +kernel
theorem d_Mo_mostOf_26 : decode b_Mo_mostOf 26 = .ok (.bipush 12, 2) := by decide +kernel
theorem d_Mo_mostOf_28 : decode b_Mo_mostOf 28 = .ok (.iload_n 1, 1) := by decide +kernel
theorem d_Mo_mostOf_29 : decode b_Mo_mostOf 29 = .ok (.imul, 1) := by decide +kernel
theorem d_Mo_mostOf_30 : decode b_Mo_mostOf 30 = .ok (.iload_n 3, 1) := by decide +kernel
theorem d_Mo_mostOf_31 : decode b_Mo_mostOf 31 = .ok (.iadd, 1) := by decide +kernel
theorem d_Mo_mostOf_32 : decode b_Mo_mostOf 32 = .ok (.iaload, 1) := by decide +kernel
theorem d_Mo_mostOf_33 : decode b_Mo_mostOf 33 = .ok (.iload_n 2, 1) := by decide +kernel
theorem d_Mo_mostOf_34 : decode b_Mo_mostOf 34 = .ok (.if_icmp .le 17, 3) := by decide +kernel
theorem d_Mo_mostOf_37 : decode b_Mo_mostOf 37 = .ok (.aload_n 0, 1) := by decide +kernel
theorem d_Mo_mostOf_38 : decode b_Mo_mostOf 38 = .ok (.getfield 39, 3) := by decide +kernel
theorem d_Mo_mostOf_41 : decode b_Mo_mostOf 41 = .ok (.bipush 12, 2) := by decide +kernel
theorem d_Mo_mostOf_43 : decode b_Mo_mostOf 43 = .ok (.iload_n 1, 1) := by decide +kernel
theorem d_Mo_mostOf_44 : decode b_Mo_mostOf 44 = .ok (.imul, 1) := by decide +kernel
theorem d_Mo_mostOf_45 : decode b_Mo_mostOf 45 = .ok (.iload_n 3, 1) := by decide +kernel
theorem d_Mo_mostOf_46 : decode b_Mo_mostOf 46 = .ok (.iadd, 1) := by decide +kernel
theorem d_Mo_mostOf_47 : decode b_Mo_mostOf 47 = .ok (.iaload, 1) := by decide +kernel
theorem d_Mo_mostOf_48 : decode b_Mo_mostOf 48 = .ok (.goto 4, 3) := by decide +kernel
theorem d_Mo_mostOf_51 : decode b_Mo_mostOf 51 = .ok (.iload_n 2, 1) := by decide +kernel
theorem d_Mo_mostOf_52 : decode b_Mo_mostOf 52 = .ok (.istore_n 2, 1) := by decide +kernel
theorem d_Mo_mostOf_53 : decode b_Mo_mostOf 53 = .ok (.iinc 3 1, 3) := by decide +kernel
theorem d_Mo_mostOf_56 : decode b_Mo_mostOf 56 = .ok (.goto (-44), 3) := by decide +kernel
theorem d_Mo_mostOf_59 : decode b_Mo_mostOf 59 = .ok (.iload_n 2, 1) := by decide +kernel
theorem d_Mo_mostOf_60 : decode b_Mo_mostOf 60 = .ok (.ireturn, 1) := by decide +kernel
theorem d_Mo_rest_0 : decode b_Mo_rest 0 = .ok (.iconst 0, 1) := by decide +kernel
theorem d_Mo_rest_1 : decode b_Mo_rest 1 = .ok (.istore_n 1, 1) := by decide +kernel
theorem d_Mo_rest_2 : decode b_Mo_rest 2 = .ok (.iload_n 1, 1) := by decide +kernel
theorem d_Mo_rest_3 : decode b_Mo_rest 3 = .ok (.aload_n 0, 1) := by decide +kernel
theorem d_Mo_rest_4 : decode b_Mo_rest 4 = .ok (.getfield 102, 3) := by decide +kernel
theorem d_Mo_rest_7 : decode b_Mo_rest 7 = .ok (.if_icmp .ge 29, 3) := by decide +kernel
theorem d_Mo_rest_10 : decode b_Mo_rest 10 = .ok (.aload_n 0, 1) := by decide +kernel
theorem d_Mo_rest_11 : decode b_Mo_rest 11 = .ok (.getfield 23, 3) := by decide +kernel
theorem d_Mo_rest_14 : decode b_Mo_rest 14 = .ok (.iload_n 1, 1) := by decide +kernel
theorem d_Mo_rest_15 : decode b_Mo_rest 15 = .ok (.iaload, 1) := by decide +kernel
theorem d_Mo_rest_16 : decode b_Mo_rest 16 = .ok (.ifCond .le 14, 3) := by decide +kernel
theorem d_Mo_rest_19 : decode b_Mo_rest 19 = .ok (.aload_n 0, 1) := by decide +kernel
theorem d_Mo_rest_20 : decode b_Mo_rest 20 = .ok (.iload_n 1, 1) := by decide +kernel
theorem d_Mo_rest_21 : decode b_Mo_rest 21 = .ok (.aload_n 0, 1) := by decide +kernel
theorem d_Mo_rest_22 : decode b_Mo_rest 22 = .ok (.getfield 23, 3) := by decide +kernel
theorem d_Mo_rest_25 : decode b_Mo_rest 25 = .ok (.iload_n 1, 1) := by decide +kernel
theorem d_Mo_rest_26 : decode b_Mo_rest 26 = .ok (.iaload, 1) := by decide +kernel
theorem d_Mo_rest_27 : decode b_Mo_rest 27 = .ok (.invokevirtual 154, 3) := by decide +kernel
theorem d_Mo_rest_30 : decode b_Mo_rest 30 = .ok (.iinc 1 1, 3) := by decide +kernel
theorem d_Mo_rest_33 : decode b_Mo_rest 33 = .ok (.goto (-31), 3) := by decide +kernel
theorem d_Mo_rest_36 : decode b_Mo_rest 36 = .ok (.iconst 0, 1) := by decide +kernel
theorem d_Mo_rest_37 : decode b_Mo_rest 37 = .ok (.istore_n 1, 1) := by decide +kernel
theorem d_Mo_rest_38 : decode b_Mo_rest 38 = .ok (.iload_n 1, 1) := by decide +kernel
theorem d_Mo_rest_39 : decode b_Mo_rest 39 = .ok (.aload_n 0, 1) := by decide +kernel
theorem d_Mo_rest_40 : decode b_Mo_rest 40 = .ok (.getfield 102, 3) := by decide +kernel
theorem d_Mo_rest_43 : decode b_Mo_rest 43 = .ok (.if_icmp .ge 139, 3) := by decide +kernel
theorem d_Mo_rest_46 : decode b_Mo_rest 46 = .ok (.aload_n 0, 1) := by decide +kernel
theorem d_Mo_rest_47 : decode b_Mo_rest 47 = .ok (.iconst 0, 1) := by decide +kernel
theorem d_Mo_rest_48 : decode b_Mo_rest 48 = .ok (.putfield 109, 3) := by decide +kernel
theorem d_Mo_rest_51 : decode b_Mo_rest 51 = .ok (.iconst 0, 1) := by decide +kernel
theorem d_Mo_rest_52 : decode b_Mo_rest 52 = .ok (.istore_n 2, 1) := by decide +kernel
theorem d_Mo_rest_53 : decode b_Mo_rest 53 = .ok (.iload_n 2, 1) := by decide +kernel
theorem d_Mo_rest_54 : decode b_Mo_rest 54 = .ok (.aload_n 0, 1) := by decide +kernel
theorem d_Mo_rest_55 : decode b_Mo_rest 55 = .ok (.getfield 33, 3) := by decide +kernel
theorem d_Mo_rest_58 : decode b_Mo_rest 58 = .ok (.iload_n 1, 1) := by decide +kernel
theorem d_Mo_rest_59 : decode b_Mo_rest 59 = .ok (.iaload, 1) := by decide +kernel
theorem d_Mo_rest_60 : decode b_Mo_rest 60 = .ok (.if_icmp .ge 80, 3) := by decide +kernel
theorem d_Mo_rest_63 : decode b_Mo_rest 63 = .ok (.aload_n 0, 1) := by decide +kernel
theorem d_Mo_rest_64 : decode b_Mo_rest 64 = .ok (.getfield 36, 3) := by decide +kernel
theorem d_Mo_rest_67 : decode b_Mo_rest 67 = .ok (.bipush 12, 2) := by decide +kernel
theorem d_Mo_rest_69 : decode b_Mo_rest 69 = .ok (.iload_n 1, 1) := by decide +kernel
theorem d_Mo_rest_70 : decode b_Mo_rest 70 = .ok (.imul, 1) := by decide +kernel
theorem d_Mo_rest_71 : decode b_Mo_rest 71 = .ok (.iload_n 2, 1) := by decide +kernel
theorem d_Mo_rest_72 : decode b_Mo_rest 72 = .ok (.iadd, 1) := by decide +kernel
theorem d_Mo_rest_73 : decode b_Mo_rest 73 = .ok (.iaload, 1) := by decide +kernel
theorem d_Mo_rest_74 : decode b_Mo_rest 74 = .ok (.istore_n 3, 1) := by decide +kernel
theorem d_Mo_rest_75 : decode b_Mo_rest 75 = .ok (.aload_n 0, 1) := by decide +kernel
theorem d_Mo_rest_76 : decode b_Mo_rest 76 = .ok (.getfield 39, 3) := by decide +kernel
theorem d_Mo_rest_79 : decode b_Mo_rest 79 = .ok (.bipush 12, 2) := by decide +kernel
theorem d_Mo_rest_81 : decode b_Mo_rest 81 = .ok (.iload_n 1, 1) := by decide +kernel
theorem d_Mo_rest_82 : decode b_Mo_rest 82 = .ok (.imul, 1) := by decide +kernel
theorem d_Mo_rest_83 : decode b_Mo_rest 83 = .ok (.iload_n 2, 1) := by decide +kernel
theorem d_Mo_rest_84 : decode b_Mo_rest 84 = .ok (.iadd, 1) := by decide +kernel
theorem d_Mo_rest_85 : decode b_Mo_rest 85 = .ok (.iaload, 1) := by decide +kernel
theorem d_Mo_rest_86 : decode b_Mo_rest 86 = .ok (.aload_n 0, 1) := by decide +kernel
theorem d_Mo_rest_87 : decode b_Mo_rest 87 = .ok (.getfield 30, 3) := by decide +kernel
theorem d_Mo_rest_90 : decode b_Mo_rest 90 = .ok (.isub, 1) := by decide +kernel
theorem d_Mo_rest_91 : decode b_Mo_rest 91 = .ok (.aload_n 0, 1) := by decide +kernel
theorem d_Mo_rest_92 : decode b_Mo_rest 92 = .ok (.getfield 16, 3) := by decide +kernel
theorem d_Mo_rest_95 : decode b_Mo_rest 95 = .ok (.iload_n 1, 1) := by decide +kernel
theorem d_Mo_rest_96 : decode b_Mo_rest 96 = .ok (.iaload, 1) := by decide +kernel
theorem d_Mo_rest_97 : decode b_Mo_rest 97 = .ok (.idiv, 1) := by decide +kernel
theorem d_Mo_rest_98 : decode b_Mo_rest 98 = .ok (.istore 4, 2) := by decide +kernel
theorem d_Mo_rest_100 : decode b_Mo_rest 100 = .ok (.aload_n 0, 1) := by decide +kernel
theorem d_Mo_rest_101 : decode b_Mo_rest 101 = .ok (.dup, 1) := by decide +kernel
theorem d_Mo_rest_102 : decode b_Mo_rest 102 = .ok (.getfield 112, 3) := by decide +kernel
theorem d_Mo_rest_105 : decode b_Mo_rest 105 = .ok (.iload_n 3, 1) := by decide +kernel
theorem d_Mo_rest_106 : decode b_Mo_rest 106 = .ok (.i2l, 1) := by decide +kernel
theorem d_Mo_rest_107 : decode b_Mo_rest 107 = .ok (.iload 4, 2) := by decide +kernel
theorem d_Mo_rest_109 : decode b_Mo_rest 109 = .ok (.i2l, 1) := by decide +kernel
theorem d_Mo_rest_110 : decode b_Mo_rest 110 = .ok (.lmul, 1) := by decide +kernel
theorem d_Mo_rest_111 : decode b_Mo_rest 111 = .ok (.ladd, 1) := by decide +kernel
theorem d_Mo_rest_112 : decode b_Mo_rest 112 = .ok (.putfield 112, 3) := by decide +kernel
theorem d_Mo_rest_115 : decode b_Mo_rest 115 = .ok (.aload_n 0, 1) := by decide +kernel
theorem d_Mo_rest_116 : decode b_Mo_rest 116 = .ok (.iload_n 3, 1) := by decide +kernel
theorem d_Mo_rest_117 : decode b_Mo_rest 117 = .ok (.aload_n 0, 1) := by decide +kernel
theorem d_Mo_rest_118 : decode b_Mo_rest 118 = .ok (.getfield 39, 3) := by decide +kernel
theorem d_Mo_rest_121 : decode b_Mo_rest 121 = .ok (.bipush 12, 2) := by decide +kernel
theorem d_Mo_rest_123 : decode b_Mo_rest 123 = .ok (.iload_n 1, 1) := by decide +kernel
theorem d_Mo_rest_124 : decode b_Mo_rest 124 = .ok (.imul, 1) := by decide +kernel
theorem d_Mo_rest_125 : decode b_Mo_rest 125 = .ok (.iload_n 2, 1) := by decide +kernel
theorem d_Mo_rest_126 : decode b_Mo_rest 126 = .ok (.iadd, 1) := by decide +kernel
theorem d_Mo_rest_127 : decode b_Mo_rest 127 = .ok (.iaload, 1) := by decide +kernel
theorem d_Mo_rest_128 : decode b_Mo_rest 128 = .ok (.iload 4, 2) := by decide +kernel
theorem d_Mo_rest_130 : decode b_Mo_rest 130 = .ok (.isub, 1) := by decide +kernel
theorem d_Mo_rest_131 : decode b_Mo_rest 131 = .ok (.invokevirtual 116, 3) := by decide +kernel
theorem d_Mo_rest_134 : decode b_Mo_rest 134 = .ok (.iinc 2 1, 3) := by decide +kernel
theorem d_Mo_rest_137 : decode b_Mo_rest 137 = .ok (.goto (-84), 3) := by decide +kernel
theorem d_Mo_rest_140 : decode b_Mo_rest 140 = .ok (.aload_n 0, 1) := by decide +kernel
theorem d_Mo_rest_141 : decode b_Mo_rest 141 = .ok (.iload_n 1, 1) := by decide +kernel
theorem d_Mo_rest_142 : decode b_Mo_rest 142 = .ok (.invokevirtual 130, 3) := by decide +kernel
theorem d_Mo_rest_145 : decode b_Mo_rest 145 = .ok (.aload_n 0, 1) := by decide +kernel
theorem d_Mo_rest_146 : decode b_Mo_rest 146 = .ok (.getfield 45, 3) := by decide +kernel
theorem d_Mo_rest_149 : decode b_Mo_rest 149 = .ok (.iload_n 1, 1) := by decide +kernel
theorem d_Mo_rest_150 : decode b_Mo_rest 150 = .ok (.dup2, 1) := by decide +kernel
theorem d_Mo_rest_151 : decode b_Mo_rest 151 = .ok (.iaload, 1) := by decide +kernel
theorem d_Mo_rest_152 : decode b_Mo_rest 152 = .ok (.aload_n 0, 1) := by decide +kernel
theorem d_Mo_rest_153 : decode b_Mo_rest 153 = .ok (.iload_n 1, 1) := by decide +kernel
theorem d_Mo_rest_154 : decode b_Mo_rest 154 = .ok (.invokevirtual 157, 3) := by decide +kernel
theorem d_Mo_rest_157 : decode b_Mo_rest 157 = .ok (.sipush 2500, 3) := by decide +kernel
theorem d_Mo_rest_160 : decode b_Mo_rest 160 = .ok (.sipush 4500, 3) := by decide +kernel
theorem d_Mo_rest_163 : decode b_Mo_rest 163 = .ok (.invokestatic 105, 3) := by decide +kernel
theorem d_Mo_rest_166 : decode b_Mo_rest 166 = .ok (.ifCond .eq 7, 3) := by decide +kernel
theorem d_Mo_rest_169 : decode b_Mo_rest 169 = .ok (.iconst 1, 1) := by decide +kernel
theorem d_Mo_rest_170 : decode b_Mo_rest 170 = .ok (.goto 4, 3) := by decide +kernel
theorem d_Mo_rest_173 : decode b_Mo_rest 173 = .ok (.iconst 0, 1) := by decide +kernel
theorem d_Mo_rest_174 : decode b_Mo_rest 174 = .ok (.iadd, 1) := by decide +kernel
theorem d_Mo_rest_175 : decode b_Mo_rest 175 = .ok (.iastore, 1) := by decide +kernel
theorem d_Mo_rest_176 : decode b_Mo_rest 176 = .ok (.iinc 1 1, 3) := by decide +kernel
theorem d_Mo_rest_179 : decode b_Mo_rest 179 = .ok (.goto (-141), 3) := by decide +kernel
theorem d_Mo_rest_182 : decode b_Mo_rest 182 = .ok (.return_, 1) := by decide +kernel
theorem d_Mo_fill_0 : decode b_Mo_fill 0 = .ok (.aload_n 0, 1) := by decide +kernel
theorem d_Mo_fill_1 : decode b_Mo_fill 1 = .ok (.getfield 33, 3) := by decide +kernel
theorem d_Mo_fill_4 : decode b_Mo_fill 4 = .ok (.iload_n 1, 1) := by decide +kernel
theorem d_Mo_fill_5 : decode b_Mo_fill 5 = .ok (.iconst 1, 1) := by decide +kernel
theorem d_Mo_fill_6 : decode b_Mo_fill 6 = .ok (.iastore, 1) := by decide +kernel
theorem d_Mo_fill_7 : decode b_Mo_fill 7 = .ok (.aload_n 0, 1) := by decide +kernel
theorem d_Mo_fill_8 : decode b_Mo_fill 8 = .ok (.getfield 36, 3) := by decide +kernel
theorem d_Mo_fill_11 : decode b_Mo_fill 11 = .ok (.bipush 12, 2) := by decide +kernel
theorem d_Mo_fill_13 : decode b_Mo_fill 13 = .ok (.iload_n 1, 1) := by decide +kernel
theorem d_Mo_fill_14 : decode b_Mo_fill 14 = .ok (.imul, 1) := by decide +kernel
theorem d_Mo_fill_15 : decode b_Mo_fill 15 = .ok (.aload_n 0, 1) := by decide +kernel
theorem d_Mo_fill_16 : decode b_Mo_fill 16 = .ok (.getfield 13, 3) := by decide +kernel
theorem d_Mo_fill_19 : decode b_Mo_fill 19 = .ok (.iload_n 1, 1) := by decide +kernel
theorem d_Mo_fill_20 : decode b_Mo_fill 20 = .ok (.iaload, 1) := by decide +kernel
theorem d_Mo_fill_21 : decode b_Mo_fill 21 = .ok (.iastore, 1) := by decide +kernel
theorem d_Mo_fill_22 : decode b_Mo_fill 22 = .ok (.aload_n 0, 1) := by decide +kernel
theorem d_Mo_fill_23 : decode b_Mo_fill 23 = .ok (.getfield 39, 3) := by decide +kernel
theorem d_Mo_fill_26 : decode b_Mo_fill 26 = .ok (.bipush 12, 2) := by decide +kernel
theorem d_Mo_fill_28 : decode b_Mo_fill 28 = .ok (.iload_n 1, 1) := by decide +kernel
theorem d_Mo_fill_29 : decode b_Mo_fill 29 = .ok (.imul, 1) := by decide +kernel
theorem d_Mo_fill_30 : decode b_Mo_fill 30 = .ok (.aload_n 0, 1) := by decide +kernel
theorem d_Mo_fill_31 : decode b_Mo_fill 31 = .ok (.getfield 30, 3) := by decide +kernel
theorem d_Mo_fill_34 : decode b_Mo_fill 34 = .ok (.iastore, 1) := by decide +kernel
theorem d_Mo_fill_35 : decode b_Mo_fill 35 = .ok (.return_, 1) := by decide +kernel
theorem d_Mo_pipe_0 : decode b_Mo_pipe 0 = .ok (.aload_n 0, 1) := by decide +kernel
theorem d_Mo_pipe_1 : decode b_Mo_pipe 1 = .ok (.iload_n 1, 1) := by decide +kernel
theorem d_Mo_pipe_2 : decode b_Mo_pipe 2 = .ok (.iconst (-1), 1) := by decide +kernel
theorem d_Mo_pipe_3 : decode b_Mo_pipe 3 = .ok (.aload_n 0, 1) := by decide +kernel
theorem d_Mo_pipe_4 : decode b_Mo_pipe 4 = .ok (.getfield 102, 3) := by decide +kernel
theorem d_Mo_pipe_7 : decode b_Mo_pipe 7 = .ok (.iconst 1, 1) := by decide +kernel
theorem d_Mo_pipe_8 : decode b_Mo_pipe 8 = .ok (.isub, 1) := by decide +kernel
theorem d_Mo_pipe_9 : decode b_Mo_pipe 9 = .ok (.invokestatic 105, 3) := by decide +kernel
theorem d_Mo_pipe_12 : decode b_Mo_pipe 12 = .ok (.ifCond .eq 25, 3) := by decide +kernel
theorem d_Mo_pipe_15 : decode b_Mo_pipe 15 = .ok (.iload_n 2, 1) := by decide +kernel
theorem d_Mo_pipe_16 : decode b_Mo_pipe 16 = .ok (.iconst 1, 1) := by decide +kernel
theorem d_Mo_pipe_17 : decode b_Mo_pipe 17 = .ok (.sipush 1000, 3) := by decide +kernel
theorem d_Mo_pipe_20 : decode b_Mo_pipe 20 = .ok (.invokestatic 105, 3) := by decide +kernel
theorem d_Mo_pipe_23 : decode b_Mo_pipe 23 = .ok (.ifCond .eq 14, 3) := by decide +kernel
theorem d_Mo_pipe_26 : decode b_Mo_pipe 26 = .ok (.iload_n 3, 1) := by decide +kernel
theorem d_Mo_pipe_27 : decode b_Mo_pipe 27 = .ok (.iconst 1, 1) := by decide +kernel
theorem d_Mo_pipe_28 : decode b_Mo_pipe 28 = .ok (.sipush 1000, 3) := by decide +kernel
theorem d_Mo_pipe_31 : decode b_Mo_pipe 31 = .ok (.invokestatic 105, 3) := by decide +kernel
theorem d_Mo_pipe_34 : decode b_Mo_pipe 34 = .ok (.ifCond .ne 7, 3) := by decide +kernel
theorem d_Mo_pipe_37 : decode b_Mo_pipe 37 = .ok (.iconst 1, 1) := by decide +kernel
theorem d_Mo_pipe_38 : decode b_Mo_pipe 38 = .ok (.goto 24, 3) := by decide +kernel
theorem d_Mo_pipe_41 : decode b_Mo_pipe 41 = .ok (.aload_n 0, 1) := by decide +kernel
theorem d_Mo_pipe_42 : decode b_Mo_pipe 42 = .ok (.getfield 102, 3) := by decide +kernel
theorem d_Mo_pipe_45 : decode b_Mo_pipe 45 = .ok (.bipush 10, 2) := by decide +kernel
theorem d_Mo_pipe_47 : decode b_Mo_pipe 47 = .ok (.if_icmp .eq 10, 3) := by decide +kernel
theorem d_Mo_pipe_50 : decode b_Mo_pipe 50 = .ok (.aload_n 0, 1) := by decide +kernel
theorem d_Mo_pipe_51 : decode b_Mo_pipe 51 = .ok (.getfield 133, 3) := by decide +kernel
theorem d_Mo_pipe_54 : decode b_Mo_pipe 54 = .ok (.ifCond .le 7, 3) := by decide +kernel
theorem d_Mo_pipe_57 : decode b_Mo_pipe 57 = .ok (.iconst 2, 1) := by decide +kernel
theorem d_Mo_pipe_58 : decode b_Mo_pipe 58 = .ok (.goto 4, 3) := by decide +kernel
theorem d_Mo_pipe_61 : decode b_Mo_pipe 61 = .ok (.iconst 0, 1) := by decide +kernel
theorem d_Mo_pipe_62 : decode b_Mo_pipe 62 = .ok (.putfield 99, 3) := by decide +kernel
theorem d_Mo_pipe_65 : decode b_Mo_pipe 65 = .ok (.aload_n 0, 1) := by decide +kernel
theorem d_Mo_pipe_66 : decode b_Mo_pipe 66 = .ok (.getfield 99, 3) := by decide +kernel
theorem d_Mo_pipe_69 : decode b_Mo_pipe 69 = .ok (.ifCond .le 5, 3) := by decide +kernel
theorem d_Mo_pipe_72 : decode b_Mo_pipe 72 = .ok (.iconst 0, 1) := by decide +kernel
theorem d_Mo_pipe_73 : decode b_Mo_pipe 73 = .ok (.ireturn, 1) := by decide +kernel
theorem d_Mo_pipe_74 : decode b_Mo_pipe 74 = .ok (.aload_n 0, 1) := by decide +kernel
theorem d_Mo_pipe_75 : decode b_Mo_pipe 75 = .ok (.getfield 7, 3) := by decide +kernel
theorem d_Mo_pipe_78 : decode b_Mo_pipe 78 = .ok (.aload_n 0, 1) := by decide +kernel
theorem d_Mo_pipe_79 : decode b_Mo_pipe 79 = .ok (.getfield 102, 3) := by decide +kernel
theorem d_Mo_pipe_82 : decode b_Mo_pipe 82 = .ok (.iload_n 1, 1) := by decide +kernel
theorem d_Mo_pipe_83 : decode b_Mo_pipe 83 = .ok (.iastore, 1) := by decide +kernel
theorem d_Mo_pipe_84 : decode b_Mo_pipe 84 = .ok (.aload_n 0, 1) := by decide +kernel
theorem d_Mo_pipe_85 : decode b_Mo_pipe 85 = .ok (.getfield 13, 3) := by decide +kernel
theorem d_Mo_pipe_88 : decode b_Mo_pipe 88 = .ok (.aload_n 0, 1) := by decide +kernel
theorem d_Mo_pipe_89 : decode b_Mo_pipe 89 = .ok (.getfield 102, 3) := by decide +kernel
theorem d_Mo_pipe_92 : decode b_Mo_pipe 92 = .ok (.iload_n 2, 1) := by decide +kernel
theorem d_Mo_pipe_93 : decode b_Mo_pipe 93 = .ok (.iastore, 1) := by decide +kernel
theorem d_Mo_pipe_94 : decode b_Mo_pipe 94 = .ok (.aload_n 0, 1) := by decide +kernel
theorem d_Mo_pipe_95 : decode b_Mo_pipe 95 = .ok (.getfield 16, 3) := by decide +kernel
theorem d_Mo_pipe_98 : decode b_Mo_pipe 98 = .ok (.aload_n 0, 1) := by decide +kernel
theorem d_Mo_pipe_99 : decode b_Mo_pipe 99 = .ok (.getfield 102, 3) := by decide +kernel
theorem d_Mo_pipe_102 : decode b_Mo_pipe 102 = .ok (.iload_n 3, 1) := by decide +kernel
theorem d_Mo_pipe_103 : decode b_Mo_pipe 103 = .ok (.iastore, 1) := by decide +kernel
theorem d_Mo_pipe_104 : decode b_Mo_pipe 104 = .ok (.aload_n 0, 1) := by decide +kernel
theorem d_Mo_pipe_105 : decode b_Mo_pipe 105 = .ok (.getfield 42, 3) := by decide +kernel
theorem d_Mo_pipe_108 : decode b_Mo_pipe 108 = .ok (.aload_n 0, 1) := by decide +kernel
theorem d_Mo_pipe_109 : decode b_Mo_pipe 109 = .ok (.getfield 102, 3) := by decide +kernel
theorem d_Mo_pipe_112 : decode b_Mo_pipe 112 = .ok (.iconst (-1), 1) := by decide +kernel
theorem d_Mo_pipe_113 : decode b_Mo_pipe 113 = .ok (.iastore, 1) := by decide +kernel
theorem d_Mo_pipe_114 : decode b_Mo_pipe 114 = .ok (.aload_n 0, 1) := by decide +kernel
theorem d_Mo_pipe_115 : decode b_Mo_pipe 115 = .ok (.aload_n 0, 1) := by decide +kernel
theorem d_Mo_pipe_116 : decode b_Mo_pipe 116 = .ok (.getfield 102, 3) := by decide +kernel
theorem d_Mo_pipe_119 : decode b_Mo_pipe 119 = .ok (.invokevirtual 161, 3) := by decide +kernel
theorem d_Mo_pipe_122 : decode b_Mo_pipe 122 = .ok (.aload_n 0, 1) := by decide +kernel
theorem d_Mo_pipe_123 : decode b_Mo_pipe 123 = .ok (.dup, 1) := by decide +kernel
theorem d_Mo_pipe_124 : decode b_Mo_pipe 124 = .ok (.getfield 102, 3) := by decide +kernel
theorem d_Mo_pipe_127 : decode b_Mo_pipe 127 = .ok (.iconst 1, 1) := by decide +kernel
theorem d_Mo_pipe_128 : decode b_Mo_pipe 128 = .ok (.iadd, 1) := by decide +kernel
theorem d_Mo_pipe_129 : decode b_Mo_pipe 129 = .ok (.putfield 102, 3) := by decide +kernel
theorem d_Mo_pipe_132 : decode b_Mo_pipe 132 = .ok (.aload_n 0, 1) := by decide +kernel
theorem d_Mo_pipe_133 : decode b_Mo_pipe 133 = .ok (.getfield 102, 3) := by decide +kernel
theorem d_Mo_pipe_136 : decode b_Mo_pipe 136 = .ok (.iconst 1, 1) := by decide +kernel
theorem d_Mo_pipe_137 : decode b_Mo_pipe 137 = .ok (.isub, 1) := by decide +kernel
theorem d_Mo_pipe_138 : decode b_Mo_pipe 138 = .ok (.ireturn, 1) := by decide +kernel
theorem d_Mo_tap_0 : decode b_Mo_tap 0 = .ok (.aload_n 0, 1) := by decide +kernel
theorem d_Mo_tap_1 : decode b_Mo_tap 1 = .ok (.aload_n 0, 1) := by decide +kernel
theorem d_Mo_tap_2 : decode b_Mo_tap 2 = .ok (.iload_n 1, 1) := by decide +kernel
theorem d_Mo_tap_3 : decode b_Mo_tap 3 = .ok (.invokevirtual 164, 3) := by decide +kernel
theorem d_Mo_tap_6 : decode b_Mo_tap 6 = .ok (.ifCond .eq 7, 3) := by decide +kernel
theorem d_Mo_tap_9 : decode b_Mo_tap 9 = .ok (.iconst 0, 1) := by decide +kernel
theorem d_Mo_tap_10 : decode b_Mo_tap 10 = .ok (.goto 4, 3) := by decide +kernel
theorem d_Mo_tap_13 : decode b_Mo_tap 13 = .ok (.iconst 1, 1) := by decide +kernel
theorem d_Mo_tap_14 : decode b_Mo_tap 14 = .ok (.putfield 99, 3) := by decide +kernel
theorem d_Mo_tap_17 : decode b_Mo_tap 17 = .ok (.aload_n 0, 1) := by decide +kernel
theorem d_Mo_tap_18 : decode b_Mo_tap 18 = .ok (.getfield 99, 3) := by decide +kernel
theorem d_Mo_tap_21 : decode b_Mo_tap 21 = .ok (.ifCond .le 5, 3) := by decide +kernel
theorem d_Mo_tap_24 : decode b_Mo_tap 24 = .ok (.iconst 0, 1) := by decide +kernel
theorem d_Mo_tap_25 : decode b_Mo_tap 25 = .ok (.ireturn, 1) := by decide +kernel
theorem d_Mo_tap_26 : decode b_Mo_tap 26 = .ok (.aload_n 0, 1) := by decide +kernel
theorem d_Mo_tap_27 : decode b_Mo_tap 27 = .ok (.getfield 19, 3) := by decide +kernel
theorem d_Mo_tap_30 : decode b_Mo_tap 30 = .ok (.iload_n 1, 1) := by decide +kernel
theorem d_Mo_tap_31 : decode b_Mo_tap 31 = .ok (.baload, 1) := by decide +kernel
theorem d_Mo_tap_32 : decode b_Mo_tap 32 = .ok (.ifCond .ne 7, 3) := by decide +kernel
theorem d_Mo_tap_35 : decode b_Mo_tap 35 = .ok (.iconst 1, 1) := by decide +kernel
theorem d_Mo_tap_36 : decode b_Mo_tap 36 = .ok (.goto 4, 3) := by decide +kernel
theorem d_Mo_tap_39 : decode b_Mo_tap 39 = .ok (.iconst 0, 1) := by decide +kernel
theorem d_Mo_tap_40 : decode b_Mo_tap 40 = .ok (.istore_n 2, 1) := by decide +kernel
theorem d_Mo_tap_41 : decode b_Mo_tap 41 = .ok (.aload_n 0, 1) := by decide +kernel
theorem d_Mo_tap_42 : decode b_Mo_tap 42 = .ok (.getfield 19, 3) := by decide +kernel
theorem d_Mo_tap_45 : decode b_Mo_tap 45 = .ok (.iload_n 1, 1) := by decide +kernel
theorem d_Mo_tap_46 : decode b_Mo_tap 46 = .ok (.iconst 1, 1) := by decide +kernel
theorem d_Mo_tap_47 : decode b_Mo_tap 47 = .ok (.bastore, 1) := by decide +kernel
theorem d_Mo_tap_48 : decode b_Mo_tap 48 = .ok (.iload_n 2, 1) := by decide +kernel
theorem d_Mo_tap_49 : decode b_Mo_tap 49 = .ok (.ireturn, 1) := by decide +kernel
theorem d_Mo_set_0 : decode b_Mo_set 0 = .ok (.aload_n 0, 1) := by decide +kernel
theorem d_Mo_set_1 : decode b_Mo_set 1 = .ok (.iload_n 1, 1) := by decide +kernel
theorem d_Mo_set_2 : decode b_Mo_set 2 = .ok (.iconst 0, 1) := by decide +kernel
theorem d_Mo_set_3 : decode b_Mo_set 3 = .ok (.iconst 1, 1) := by decide +kernel
theorem d_Mo_set_4 : decode b_Mo_set 4 = .ok (.invokestatic 105, 3) := by decide +kernel
theorem d_Mo_set_7 : decode b_Mo_set 7 = .ok (.ifCond .eq 18, 3) := by decide +kernel
theorem d_Mo_set_10 : decode b_Mo_set 10 = .ok (.iload_n 2, 1) := by decide +kernel
theorem d_Mo_set_11 : decode b_Mo_set 11 = .ok (.iconst 0, 1) := by decide +kernel
theorem d_Mo_set_12 : decode b_Mo_set 12 = .ok (.sipush 10000, 3) := by decide +kernel
theorem d_Mo_set_15 : decode b_Mo_set 15 = .ok (.invokestatic 105, 3) := by decide +kernel
theorem d_Mo_set_18 : decode b_Mo_set 18 = .ok (.ifCond .eq 7, 3) := by decide +kernel
theorem d_Mo_set_21 : decode b_Mo_set 21 = .ok (.iconst 0, 1) := by decide +kernel
theorem d_Mo_set_22 : decode b_Mo_set 22 = .ok (.goto 4, 3) := by decide +kernel
theorem d_Mo_set_25 : decode b_Mo_set 25 = .ok (.iconst 1, 1) := by decide +kernel
theorem d_Mo_set_26 : decode b_Mo_set 26 = .ok (.putfield 99, 3) := by decide +kernel
theorem d_Mo_set_29 : decode b_Mo_set 29 = .ok (.aload_n 0, 1) := by decide +kernel
theorem d_Mo_set_30 : decode b_Mo_set 30 = .ok (.getfield 99, 3) := by decide +kernel
theorem d_Mo_set_33 : decode b_Mo_set 33 = .ok (.ifCond .le 5, 3) := by decide +kernel
theorem d_Mo_set_36 : decode b_Mo_set 36 = .ok (.iconst 0, 1) := by decide +kernel
theorem d_Mo_set_37 : decode b_Mo_set 37 = .ok (.ireturn, 1) := by decide +kernel
theorem d_Mo_set_38 : decode b_Mo_set 38 = .ok (.iload_n 1, 1) := by decide +kernel
theorem d_Mo_set_39 : decode b_Mo_set 39 = .ok (.ifCond .ne 10, 3) := by decide +kernel
theorem d_Mo_set_42 : decode b_Mo_set 42 = .ok (.aload_n 0, 1) := by decide +kernel
theorem d_Mo_set_43 : decode b_Mo_set 43 = .ok (.getfield 26, 3) := by decide +kernel
theorem d_Mo_set_46 : decode b_Mo_set 46 = .ok (.goto 7, 3) := by decide +kernel
theorem d_Mo_set_49 : decode b_Mo_set 49 = .ok (.aload_n 0, 1) := by decide +kernel
theorem d_Mo_set_50 : decode b_Mo_set 50 = .ok (.getfield 30, 3) := by decide +kernel
theorem d_Mo_set_53 : decode b_Mo_set 53 = .ok (.istore_n 3, 1) := by decide +kernel
theorem d_Mo_set_54 : decode b_Mo_set 54 = .ok (.aload_n 0, 1) := by decide +kernel
theorem d_Mo_set_55 : decode b_Mo_set 55 = .ok (.iload_n 1, 1) := by decide +kernel
theorem d_Mo_set_56 : decode b_Mo_set 56 = .ok (.ifCond .ne 7, 3) := by decide +kernel
theorem d_Mo_set_59 : decode b_Mo_set 59 = .ok (.iload_n 2, 1) := by decide +kernel
theorem d_Mo_set_60 : decode b_Mo_set 60 = .ok (.goto 7, 3) := by decide +kernel
theorem d_Mo_set_63 : decode b_Mo_set 63 = .ok (.aload_n 0, 1) := by decide +kernel
theorem d_Mo_set_64 : decode b_Mo_set 64 = .ok (.getfield 26, 3) := by decide +kernel
theorem d_Mo_set_67 : decode b_Mo_set 67 = .ok (.putfield 26, 3) := by decide +kernel
theorem d_Mo_set_70 : decode b_Mo_set 70 = .ok (.aload_n 0, 1) := by decide +kernel
theorem d_Mo_set_71 : decode b_Mo_set 71 = .ok (.iload_n 1, 1) := by decide +kernel
theorem d_Mo_set_72 : decode b_Mo_set 72 = .ok (.iconst 1, 1) := by decide +kernel
theorem d_Mo_set_73 : decode b_Mo_set 73 = .ok (.if_icmp .ne 7, 3) := by decide +kernel
theorem d_Mo_set_76 : decode b_Mo_set 76 = .ok (.iload_n 2, 1) := by decide +kernel
theorem d_Mo_set_77 : decode b_Mo_set 77 = .ok (.goto 7, 3) := by decide +kernel
theorem d_Mo_set_80 : decode b_Mo_set 80 = .ok (.aload_n 0, 1) := by decide +kernel
theorem d_Mo_set_81 : decode b_Mo_set 81 = .ok (.getfield 30, 3) := by decide +kernel
theorem d_Mo_set_84 : decode b_Mo_set 84 = .ok (.putfield 30, 3) := by decide +kernel
theorem d_Mo_set_87 : decode b_Mo_set 87 = .ok (.iconst 0, 1) := by decide +kernel
theorem d_Mo_set_88 : decode b_Mo_set 88 = .ok (.istore 4, 2) := by decide +kernel
theorem d_Mo_set_90 : decode b_Mo_set 90 = .ok (.iload 4, 2) := by decide +kernel
theorem d_Mo_set_92 : decode b_Mo_set 92 = .ok (.aload_n 0, 1) := by decide +kernel
theorem d_Mo_set_93 : decode b_Mo_set 93 = .ok (.getfield 102, 3) := by decide +kernel
theorem d_Mo_set_96 : decode b_Mo_set 96 = .ok (.if_icmp .ge 27, 3) := by decide +kernel
theorem d_Mo_set_99 : decode b_Mo_set 99 = .ok (.iload_n 1, 1) := by decide +kernel
theorem d_Mo_set_100 : decode b_Mo_set 100 = .ok (.iconst 1, 1) := by decide +kernel
theorem d_Mo_set_101 : decode b_Mo_set 101 = .ok (.if_icmp .ne 22, 3) := by decide +kernel
theorem d_Mo_set_104 : decode b_Mo_set 104 = .ok (.aload_n 0, 1) := by decide +kernel
theorem d_Mo_set_105 : decode b_Mo_set 105 = .ok (.getfield 133, 3) := by decide +kernel
theorem d_Mo_set_108 : decode b_Mo_set 108 = .ok (.ifCond .ne 15, 3) := by decide +kernel
theorem d_Mo_set_111 : decode b_Mo_set 111 = .ok (.aload_n 0, 1) := by decide +kernel
theorem d_Mo_set_112 : decode b_Mo_set 112 = .ok (.iload 4, 2) := by decide +kernel
theorem d_Mo_set_114 : decode b_Mo_set 114 = .ok (.invokevirtual 161, 3) := by decide +kernel
theorem d_Mo_set_117 : decode b_Mo_set 117 = .ok (.iinc 4 1, 3) := by decide +kernel
theorem d_Mo_set_120 : decode b_Mo_set 120 = .ok (.goto (-30), 3) := by decide +kernel
theorem d_Mo_set_123 : decode b_Mo_set 123 = .ok (.iload_n 3, 1) := by decide +kernel
theorem d_Mo_set_124 : decode b_Mo_set 124 = .ok (.ireturn, 1) := by decide +kernel
theorem d_Mo_loop_0 : decode b_Mo_loop 0 = .ok (.aload_n 0, 1) := by decide +kernel
theorem d_Mo_loop_1 : decode b_Mo_loop 1 = .ok (.aload_n 0, 1) := by decide +kernel
theorem d_Mo_loop_2 : decode b_Mo_loop 2 = .ok (.iload_n 1, 1) := by decide +kernel
theorem d_Mo_loop_3 : decode b_Mo_loop 3 = .ok (.invokevirtual 164, 3) := by decide +kernel
theorem d_Mo_loop_6 : decode b_Mo_loop 6 = .ok (.ifCond .eq 18, 3) := by decide +kernel
theorem d_Mo_loop_9 : decode b_Mo_loop 9 = .ok (.iload_n 2, 1) := by decide +kernel
theorem d_Mo_loop_10 : decode b_Mo_loop 10 = .ok (.iconst 0, 1) := by decide +kernel
theorem d_Mo_loop_11 : decode b_Mo_loop 11 = .ok (.sipush 500, 3) := by decide +kernel
theorem d_Mo_loop_14 : decode b_Mo_loop 14 = .ok (.invokestatic 105, 3) := by decide +kernel
theorem d_Mo_loop_17 : decode b_Mo_loop 17 = .ok (.ifCond .eq 7, 3) := by decide +kernel
theorem d_Mo_loop_20 : decode b_Mo_loop 20 = .ok (.iconst 0, 1) := by decide +kernel
theorem d_Mo_loop_21 : decode b_Mo_loop 21 = .ok (.goto 4, 3) := by decide +kernel
theorem d_Mo_loop_24 : decode b_Mo_loop 24 = .ok (.iconst 1, 1) := by decide +kernel
theorem d_Mo_loop_25 : decode b_Mo_loop 25 = .ok (.putfield 99, 3) := by decide +kernel
theorem d_Mo_loop_28 : decode b_Mo_loop 28 = .ok (.aload_n 0, 1) := by decide +kernel
theorem d_Mo_loop_29 : decode b_Mo_loop 29 = .ok (.getfield 99, 3) := by decide +kernel
theorem d_Mo_loop_32 : decode b_Mo_loop 32 = .ok (.ifCond .le 5, 3) := by decide +kernel
theorem d_Mo_loop_35 : decode b_Mo_loop 35 = .ok (.iconst 0, 1) := by decide +kernel
theorem d_Mo_loop_36 : decode b_Mo_loop 36 = .ok (.ireturn, 1) := by decide +kernel
theorem d_Mo_loop_37 : decode b_Mo_loop 37 = .ok (.aload_n 0, 1) := by decide +kernel
theorem d_Mo_loop_38 : decode b_Mo_loop 38 = .ok (.getfield 23, 3) := by decide +kernel
theorem d_Mo_loop_41 : decode b_Mo_loop 41 = .ok (.iload_n 1, 1) := by decide +kernel
theorem d_Mo_loop_42 : decode b_Mo_loop 42 = .ok (.iaload, 1) := by decide +kernel
theorem d_Mo_loop_43 : decode b_Mo_loop 43 = .ok (.istore_n 3, 1) := by decide +kernel
theorem d_Mo_loop_44 : decode b_Mo_loop 44 = .ok (.aload_n 0, 1) := by decide +kernel
theorem d_Mo_loop_45 : decode b_Mo_loop 45 = .ok (.getfield 23, 3) := by decide +kernel
theorem d_Mo_loop_48 : decode b_Mo_loop 48 = .ok (.iload_n 1, 1) := by decide +kernel
theorem d_Mo_loop_49 : decode b_Mo_loop 49 = .ok (.iload_n 2, 1) := by decide +kernel
theorem d_Mo_loop_50 : decode b_Mo_loop 50 = .ok (.iastore, 1) := by decide +kernel
theorem d_Mo_loop_51 : decode b_Mo_loop 51 = .ok (.iload_n 3, 1) := by decide +kernel
theorem d_Mo_loop_52 : decode b_Mo_loop 52 = .ok (.ireturn, 1) := by decide +kernel
theorem d_Mo_draw_0 : decode b_Mo_draw 0 = .ok (.aload_n 0, 1) := by decide +kernel
theorem d_Mo_draw_1 : decode b_Mo_draw 1 = .ok (.aload_n 0, 1) := by decide +kernel
theorem d_Mo_draw_2 : decode b_Mo_draw 2 = .ok (.iload_n 1, 1) := by decide +kernel
theorem d_Mo_draw_3 : decode b_Mo_draw 3 = .ok (.invokevirtual 164, 3) := by decide +kernel
theorem d_Mo_draw_6 : decode b_Mo_draw 6 = .ok (.ifCond .eq 25, 3) := by decide +kernel
theorem d_Mo_draw_9 : decode b_Mo_draw 9 = .ok (.iload_n 2, 1) := by decide +kernel
theorem d_Mo_draw_10 : decode b_Mo_draw 10 = .ok (.iconst 0, 1) := by decide +kernel
theorem d_Mo_draw_11 : decode b_Mo_draw 11 = .ok (.sipush 2999, 3) := by decide +kernel
theorem d_Mo_draw_14 : decode b_Mo_draw 14 = .ok (.invokestatic 105, 3) := by decide +kernel
theorem d_Mo_draw_17 : decode b_Mo_draw 17 = .ok (.ifCond .eq 14, 3) := by decide +kernel
theorem d_Mo_draw_20 : decode b_Mo_draw 20 = .ok (.iload_n 3, 1) := by decide +kernel
theorem d_Mo_draw_21 : decode b_Mo_draw 21 = .ok (.iconst 1, 1) := by decide +kernel
theorem d_Mo_draw_22 : decode b_Mo_draw 22 = .ok (.sipush 1000, 3) := by decide +kernel
theorem d_Mo_draw_25 : decode b_Mo_draw 25 = .ok (.invokestatic 105, 3) := by decide +kernel
theorem d_Mo_draw_28 : decode b_Mo_draw 28 = .ok (.ifCond .ne 7, 3) := by decide +kernel
theorem d_Mo_draw_31 : decode b_Mo_draw 31 = .ok (.iconst 1, 1) := by decide +kernel
theorem d_Mo_draw_32 : decode b_Mo_draw 32 = .ok (.goto 34, 3) := by decide +kernel
theorem d_Mo_draw_35 : decode b_Mo_draw 35 = .ok (.aload_n 0, 1) := by decide +kernel
theorem d_Mo_draw_36 : decode b_Mo_draw 36 = .ok (.getfield 19, 3) := by decide +kernel
theorem d_Mo_draw_39 : decode b_Mo_draw 39 = .ok (.iload_n 1, 1) := by decide +kernel
theorem d_Mo_draw_40 : decode b_Mo_draw 40 = .ok (.baload, 1) := by decide +kernel
theorem d_Mo_draw_41 : decode b_Mo_draw 41 = .ok (.ifCond .eq 20, 3) := by decide +kernel
theorem d_Mo_draw_44 : decode b_Mo_draw 44 = .ok (.iload_n 2, 1) := by decide +kernel
theorem d_Mo_draw_45 : decode b_Mo_draw 45 = .ok (.aload_n 0, 1) := by decide +kernel
theorem d_Mo_draw_46 : decode b_Mo_draw 46 = .ok (.getfield 133, 3) := by decide +kernel
theorem d_Mo_draw_49 : decode b_Mo_draw 49 = .ok (.if_icmp .lt 12, 3) := by decide +kernel
theorem d_Mo_draw_52 : decode b_Mo_draw 52 = .ok (.aload_n 0, 1) := by decide +kernel
theorem d_Mo_draw_53 : decode b_Mo_draw 53 = .ok (.getfield 168, 3) := by decide +kernel
theorem d_Mo_draw_56 : decode b_Mo_draw 56 = .ok (.bipush 60, 2) := by decide +kernel
theorem d_Mo_draw_58 : decode b_Mo_draw 58 = .ok (.if_icmp .ne 7, 3) := by decide +kernel
theorem d_Mo_draw_61 : decode b_Mo_draw 61 = .ok (.iconst 2, 1) := by decide +kernel
theorem d_Mo_draw_62 : decode b_Mo_draw 62 = .ok (.goto 4, 3) := by decide +kernel
theorem d_Mo_draw_65 : decode b_Mo_draw 65 = .ok (.iconst 0, 1) := by decide +kernel
theorem d_Mo_draw_66 : decode b_Mo_draw 66 = .ok (.putfield 99, 3) := by decide +kernel
theorem d_Mo_draw_69 : decode b_Mo_draw 69 = .ok (.aload_n 0, 1) := by decide +kernel
theorem d_Mo_draw_70 : decode b_Mo_draw 70 = .ok (.getfield 99, 3) := by decide +kernel
theorem d_Mo_draw_73 : decode b_Mo_draw 73 = .ok (.ifCond .le 5, 3) := by decide +kernel
theorem d_Mo_draw_76 : decode b_Mo_draw 76 = .ok (.iconst 0, 1) := by decide +kernel
theorem d_Mo_draw_77 : decode b_Mo_draw 77 = .ok (.ireturn, 1) := by decide +kernel
theorem d_Mo_draw_78 : decode b_Mo_draw 78 = .ok (.aload_n 0, 1) := by decide +kernel
theorem d_Mo_draw_79 : decode b_Mo_draw 79 = .ok (.getfield 48, 3) := by decide +kernel
theorem d_Mo_draw_82 : decode b_Mo_draw 82 = .ok (.aload_n 0, 1) := by decide +kernel
theorem d_Mo_draw_83 : decode b_Mo_draw 83 = .ok (.getfield 168, 3) := by decide +kernel
theorem d_Mo_draw_86 : decode b_Mo_draw 86 = .ok (.iload_n 1, 1) := by decide +kernel
theorem d_Mo_draw_87 : decode b_Mo_draw 87 = .ok (.iastore, 1) := by decide +kernel
theorem d_Mo_draw_88 : decode b_Mo_draw 88 = .ok (.aload_n 0, 1) := by decide +kernel
theorem d_Mo_draw_89 : decode b_Mo_draw 89 = .ok (.getfield 51, 3) := by decide +kernel
theorem d_Mo_draw_92 : decode b_Mo_draw 92 = .ok (.aload_n 0, 1) := by decide +kernel
theorem d_Mo_draw_93 : decode b_Mo_draw 93 = .ok (.getfield 168, 3) := by decide +kernel
theorem d_Mo_draw_96 : decode b_Mo_draw 96 = .ok (.iload_n 2, 1) := by decide +kernel
theorem d_Mo_draw_97 : decode b_Mo_draw 97 = .ok (.iastore, 1) := by decide +kernel
theorem d_Mo_draw_98 : decode b_Mo_draw 98 = .ok (.aload_n 0, 1) := by decide +kernel
theorem d_Mo_draw_99 : decode b_Mo_draw 99 = .ok (.getfield 54, 3) := by decide +kernel
theorem d_Mo_draw_102 : decode b_Mo_draw 102 = .ok (.aload_n 0, 1) := by decide +kernel
theorem d_Mo_draw_103 : decode b_Mo_draw 103 = .ok (.getfield 168, 3) := by decide +kernel
theorem d_Mo_draw_106 : decode b_Mo_draw 106 = .ok (.iload_n 3, 1) := by decide +kernel
theorem d_Mo_draw_107 : decode b_Mo_draw 107 = .ok (.iastore, 1) := by decide +kernel
theorem d_Mo_draw_108 : decode b_Mo_draw 108 = .ok (.aload_n 0, 1) := by decide +kernel
theorem d_Mo_draw_109 : decode b_Mo_draw 109 = .ok (.dup, 1) := by decide +kernel
theorem d_Mo_draw_110 : decode b_Mo_draw 110 = .ok (.getfield 168, 3) := by decide +kernel
theorem d_Mo_draw_113 : decode b_Mo_draw 113 = .ok (.iconst 1, 1) := by decide +kernel
theorem d_Mo_draw_114 : decode b_Mo_draw 114 = .ok (.iadd, 1) := by decide +kernel
theorem d_Mo_draw_115 : decode b_Mo_draw 115 = .ok (.putfield 168, 3) := by decide +kernel
theorem d_Mo_draw_118 : decode b_Mo_draw 118 = .ok (.aload_n 0, 1) := by decide +kernel
theorem d_Mo_draw_119 : decode b_Mo_draw 119 = .ok (.getfield 168, 3) := by decide +kernel
theorem d_Mo_draw_122 : decode b_Mo_draw 122 = .ok (.iconst 1, 1) := by decide +kernel
theorem d_Mo_draw_123 : decode b_Mo_draw 123 = .ok (.isub, 1) := by decide +kernel
theorem d_Mo_draw_124 : decode b_Mo_draw 124 = .ok (.ireturn, 1) := by decide +kernel
theorem d_Mo_run_0 : decode b_Mo_run 0 = .ok (.aload_n 0, 1) := by decide +kernel
theorem d_Mo_run_1 : decode b_Mo_run 1 = .ok (.iload_n 1, 1) := by decide +kernel
theorem d_Mo_run_2 : decode b_Mo_run 2 = .ok (.iconst 1, 1) := by decide +kernel
theorem d_Mo_run_3 : decode b_Mo_run 3 = .ok (.bipush 100, 2) := by decide +kernel
theorem d_Mo_run_5 : decode b_Mo_run 5 = .ok (.invokestatic 105, 3) := by decide +kernel
theorem d_Mo_run_8 : decode b_Mo_run 8 = .ok (.ifCond .ne 7, 3) := by decide +kernel
theorem d_Mo_run_11 : decode b_Mo_run 11 = .ok (.iconst 1, 1) := by decide +kernel
theorem d_Mo_run_12 : decode b_Mo_run 12 = .ok (.goto 20, 3) := by decide +kernel
theorem d_Mo_run_15 : decode b_Mo_run 15 = .ok (.aload_n 0, 1) := by decide +kernel
theorem d_Mo_run_16 : decode b_Mo_run 16 = .ok (.getfield 133, 3) := by decide +kernel
theorem d_Mo_run_19 : decode b_Mo_run 19 = .ok (.iload_n 1, 1) := by decide +kernel
theorem d_Mo_run_20 : decode b_Mo_run 20 = .ok (.iadd, 1) := by decide +kernel
theorem d_Mo_run_21 : decode b_Mo_run 21 = .ok (.sipush 3000, 3) := by decide +kernel
theorem d_Mo_run_24 : decode b_Mo_run 24 = .ok (.if_icmp .le 7, 3) := by decide +kernel
theorem d_Mo_run_27 : decode b_Mo_run 27 = .ok (.iconst 2, 1) := by decide +kernel
theorem d_Mo_run_28 : decode b_Mo_run 28 = .ok (.goto 4, 3) := by decide +kernel
theorem d_Mo_run_31 : decode b_Mo_run 31 = .ok (.iconst 0, 1) := by decide +kernel
theorem d_Mo_run_32 : decode b_Mo_run 32 = .ok (.putfield 99, 3) := by decide +kernel
theorem d_Mo_run_35 : decode b_Mo_run 35 = .ok (.aload_n 0, 1) := by decide +kernel
theorem d_Mo_run_36 : decode b_Mo_run 36 = .ok (.getfield 99, 3) := by decide +kernel
theorem d_Mo_run_39 : decode b_Mo_run 39 = .ok (.ifCond .le 5, 3) := by decide +kernel
theorem d_Mo_run_42 : decode b_Mo_run 42 = .ok (.iconst 0, 1) := by decide +kernel
theorem d_Mo_run_43 : decode b_Mo_run 43 = .ok (.ireturn, 1) := by decide +kernel
theorem d_Mo_run_44 : decode b_Mo_run 44 = .ok (.iconst 0, 1) := by decide +kernel
theorem d_Mo_run_45 : decode b_Mo_run 45 = .ok (.istore_n 2, 1) := by decide +kernel
theorem d_Mo_run_46 : decode b_Mo_run 46 = .ok (.iload_n 2, 1) := by decide +kernel
theorem d_Mo_run_47 : decode b_Mo_run 47 = .ok (.iload_n 1, 1) := by decide +kernel
theorem d_Mo_run_48 : decode b_Mo_run 48 = .ok (.if_icmp .ge 107, 3) := by decide +kernel
theorem d_Mo_run_51 : decode b_Mo_run 51 = .ok (.iconst 0, 1) := by decide +kernel
theorem d_Mo_run_52 : decode b_Mo_run 52 = .ok (.istore_n 3, 1) := by decide +kernel
theorem d_Mo_run_53 : decode b_Mo_run 53 = .ok (.iload_n 3, 1) := by decide +kernel
theorem d_Mo_run_54 : decode b_Mo_run 54 = .ok (.aload_n 0, 1) := by decide +kernel
theorem d_Mo_run_55 : decode b_Mo_run 55 = .ok (.getfield 168, 3) := by decide +kernel
theorem d_Mo_run_58 : decode b_Mo_run 58 = .ok (.if_icmp .ge 77, 3) := by decide +kernel
theorem d_Mo_run_61 : decode b_Mo_run 61 = .ok (.aload_n 0, 1) := by decide +kernel
theorem d_Mo_run_62 : decode b_Mo_run 62 = .ok (.getfield 51, 3) := by decide +kernel
theorem d_Mo_run_65 : decode b_Mo_run 65 = .ok (.iload_n 3, 1) := by decide +kernel
theorem d_Mo_run_66 : decode b_Mo_run 66 = .ok (.iaload, 1) := by decide +kernel
theorem d_Mo_run_67 : decode b_Mo_run 67 = .ok (.aload_n 0, 1) := by decide +kernel
theorem d_Mo_run_68 : decode b_Mo_run 68 = .ok (.getfield 133, 3) := by decide +kernel
theorem d_Mo_run_71 : decode b_Mo_run 71 = .ok (.if_icmp .ne 58, 3) := by decide +kernel
theorem d_Mo_run_74 : decode b_Mo_run 74 = .ok (.aload_n 0, 1) := by decide +kernel
theorem d_Mo_run_75 : decode b_Mo_run 75 = .ok (.aload_n 0, 1) := by decide +kernel
theorem d_Mo_run_76 : decode b_Mo_run 76 = .ok (.getfield 48, 3) := by decide +kernel
theorem d_Mo_run_79 : decode b_Mo_run 79 = .ok (.iload_n 3, 1) := by decide +kernel
theorem d_Mo_run_80 : decode b_Mo_run 80 = .ok (.iaload, 1) := by decide +kernel
theorem d_Mo_run_81 : decode b_Mo_run 81 = .ok (.aload_n 0, 1) := by decide +kernel
theorem d_Mo_run_82 : decode b_Mo_run 82 = .ok (.getfield 54, 3) := by decide +kernel
theorem d_Mo_run_85 : decode b_Mo_run 85 = .ok (.iload_n 3, 1) := by decide +kernel
theorem d_Mo_run_86 : decode b_Mo_run 86 = .ok (.iaload, 1) := by decide +kernel
theorem d_Mo_run_87 : decode b_Mo_run 87 = .ok (.invokevirtual 154, 3) := by decide +kernel
theorem d_Mo_run_90 : decode b_Mo_run 90 = .ok (.aload_n 0, 1) := by decide +kernel
theorem d_Mo_run_91 : decode b_Mo_run 91 = .ok (.getfield 57, 3) := by decide +kernel
theorem d_Mo_run_94 : decode b_Mo_run 94 = .ok (.iload_n 3, 1) := by decide +kernel
theorem d_Mo_run_95 : decode b_Mo_run 95 = .ok (.aload_n 0, 1) := by decide +kernel
theorem d_Mo_run_96 : decode b_Mo_run 96 = .ok (.getfield 142, 3) := by decide +kernel
theorem d_Mo_run_99 : decode b_Mo_run 99 = .ok (.aload_n 0, 1) := by decide +kernel
theorem d_Mo_run_100 : decode b_Mo_run 100 = .ok (.getfield 54, 3) := by decide +kernel
theorem d_Mo_run_103 : decode b_Mo_run 103 = .ok (.iload_n 3, 1) := by decide +kernel
theorem d_Mo_run_104 : decode b_Mo_run 104 = .ok (.iaload, 1) := by decide +kernel
theorem d_Mo_run_105 : decode b_Mo_run 105 = .ok (.i2l, 1) := by decide +kernel
theorem d_Mo_run_106 : decode b_Mo_run 106 = .ok (.ldiv, 1) := by decide +kernel
theorem d_Mo_run_107 : decode b_Mo_run 107 = .ok (.l2i, 1) := by decide +kernel
theorem d_Mo_run_108 : decode b_Mo_run 108 = .ok (.iastore, 1) := by decide +kernel
theorem d_Mo_run_109 : decode b_Mo_run 109 = .ok (.aload_n 0, 1) := by decide +kernel
theorem d_Mo_run_110 : decode b_Mo_run 110 = .ok (.getfield 60, 3) := by decide +kernel
theorem d_Mo_run_113 : decode b_Mo_run 113 = .ok (.iload_n 3, 1) := by decide +kernel
theorem d_Mo_run_114 : decode b_Mo_run 114 = .ok (.aload_n 0, 1) := by decide +kernel
theorem d_Mo_run_115 : decode b_Mo_run 115 = .ok (.getfield 145, 3) := by decide +kernel
theorem d_Mo_run_118 : decode b_Mo_run 118 = .ok (.iastore, 1) := by decide +kernel
theorem d_Mo_run_119 : decode b_Mo_run 119 = .ok (.aload_n 0, 1) := by decide +kernel
theorem d_Mo_run_120 : decode b_Mo_run 120 = .ok (.getfield 63, 3) := by decide +kernel
theorem d_Mo_run_123 : decode b_Mo_run 123 = .ok (.iload_n 3, 1) := by decide +kernel
theorem d_Mo_run_124 : decode b_Mo_run 124 = .ok (.aload_n 0, 1) := by decide +kernel
theorem d_Mo_run_125 : decode b_Mo_run 125 = .ok (.getfield 148, 3) := by decide +kernel
theorem d_Mo_run_128 : decode b_Mo_run 128 = .ok (.iastore, 1) := by decide +kernel
theorem d_Mo_run_129 : decode b_Mo_run 129 = .ok (.iinc 3 1, 3) := by decide +kernel
theorem d_Mo_run_132 : decode b_Mo_run 132 = .ok (.goto (-79), 3) := by decide +kernel
theorem d_Mo_run_135 : decode b_Mo_run 135 = .ok (.aload_n 0, 1) := by decide +kernel
theorem d_Mo_run_136 : decode b_Mo_run 136 = .ok (.invokevirtual 171, 3) := by decide +kernel
theorem d_Mo_run_139 : decode b_Mo_run 139 = .ok (.aload_n 0, 1) := by decide +kernel
theorem d_Mo_run_140 : decode b_Mo_run 140 = .ok (.dup, 1) := by decide +kernel
theorem d_Mo_run_141 : decode b_Mo_run 141 = .ok (.getfield 133, 3) := by decide +kernel
theorem d_Mo_run_144 : decode b_Mo_run 144 = .ok (.iconst 1, 1) := by decide +kernel
theorem d_Mo_run_145 : decode b_Mo_run 145 = .ok (.iadd, 1) := by decide +kernel
theorem d_Mo_run_146 : decode b_Mo_run 146 = .ok (.putfield 133, 3) := by decide +kernel
theorem d_Mo_run_149 : decode b_Mo_run 149 = .ok (.iinc 2 1, 3) := by decide +kernel
theorem d_Mo_run_152 : decode b_Mo_run 152 = .ok (.goto (-106), 3) := by decide +kernel
theorem d_Mo_run_155 : decode b_Mo_run 155 = .ok (.aload_n 0, 1) := by decide +kernel
theorem d_Mo_run_156 : decode b_Mo_run 156 = .ok (.getfield 133, 3) := by decide +kernel
theorem d_Mo_run_159 : decode b_Mo_run 159 = .ok (.ireturn, 1) := by decide +kernel
theorem d_Mo_plug_0 : decode b_Mo_plug 0 = .ok (.aload_n 0, 1) := by decide +kernel
theorem d_Mo_plug_1 : decode b_Mo_plug 1 = .ok (.aload_n 0, 1) := by decide +kernel
theorem d_Mo_plug_2 : decode b_Mo_plug 2 = .ok (.iload_n 1, 1) := by decide +kernel
theorem d_Mo_plug_3 : decode b_Mo_plug 3 = .ok (.invokevirtual 164, 3) := by decide +kernel
theorem d_Mo_plug_6 : decode b_Mo_plug 6 = .ok (.ifCond .eq 20, 3) := by decide +kernel
theorem d_Mo_plug_9 : decode b_Mo_plug 9 = .ok (.iload_n 2, 1) := by decide +kernel
theorem d_Mo_plug_10 : decode b_Mo_plug 10 = .ok (.ifCond .lt 16, 3) := by decide +kernel
theorem d_Mo_plug_13 : decode b_Mo_plug 13 = .ok (.iload_n 3, 1) := by decide +kernel
theorem d_Mo_plug_14 : decode b_Mo_plug 14 = .ok (.iconst 0, 1) := by decide +kernel
theorem d_Mo_plug_15 : decode b_Mo_plug 15 = .ok (.iconst 1, 1) := by decide +kernel
theorem d_Mo_plug_16 : decode b_Mo_plug 16 = .ok (.invokestatic 105, 3) := by decide +kernel
theorem d_Mo_plug_19 : decode b_Mo_plug 19 = .ok (.ifCond .eq 7, 3) := by decide +kernel
theorem d_Mo_plug_22 : decode b_Mo_plug 22 = .ok (.iconst 0, 1) := by decide +kernel
theorem d_Mo_plug_23 : decode b_Mo_plug 23 = .ok (.goto 4, 3) := by decide +kernel
theorem d_Mo_plug_26 : decode b_Mo_plug 26 = .ok (.iconst 1, 1) := by decide +kernel
theorem d_Mo_plug_27 : decode b_Mo_plug 27 = .ok (.putfield 99, 3) := by decide +kernel
theorem d_Mo_plug_30 : decode b_Mo_plug 30 = .ok (.aload_n 0, 1) := by decide +kernel
theorem d_Mo_plug_31 : decode b_Mo_plug 31 = .ok (.getfield 99, 3) := by decide +kernel
theorem d_Mo_plug_34 : decode b_Mo_plug 34 = .ok (.ifCond .le 5, 3) := by decide +kernel
theorem d_Mo_plug_37 : decode b_Mo_plug 37 = .ok (.iconst 0, 1) := by decide +kernel
theorem d_Mo_plug_38 : decode b_Mo_plug 38 = .ok (.ireturn, 1) := by decide +kernel
theorem d_Mo_plug_39 : decode b_Mo_plug 39 = .ok (.iload_n 2, 1) := by decide +kernel
theorem d_Mo_plug_40 : decode b_Mo_plug 40 = .ok (.aload_n 0, 1) := by decide +kernel
theorem d_Mo_plug_41 : decode b_Mo_plug 41 = .ok (.getfield 33, 3) := by decide +kernel
theorem d_Mo_plug_44 : decode b_Mo_plug 44 = .ok (.iload_n 1, 1) := by decide +kernel
theorem d_Mo_plug_45 : decode b_Mo_plug 45 = .ok (.iaload, 1) := by decide +kernel
theorem d_Mo_plug_46 : decode b_Mo_plug 46 = .ok (.if_icmp .lt 7, 3) := by decide +kernel
theorem d_Mo_plug_49 : decode b_Mo_plug 49 = .ok (.iconst (-1), 1) := by decide +kernel
theorem d_Mo_plug_50 : decode b_Mo_plug 50 = .ok (.goto 32, 3) := by decide +kernel
theorem d_Mo_plug_53 : decode b_Mo_plug 53 = .ok (.iload_n 3, 1) := by decide +kernel
theorem d_Mo_plug_54 : decode b_Mo_plug 54 = .ok (.ifCond .ne 17, 3) := by decide +kernel
theorem d_Mo_plug_57 : decode b_Mo_plug 57 = .ok (.aload_n 0, 1) := by decide +kernel
theorem d_Mo_plug_58 : decode b_Mo_plug 58 = .ok (.getfield 36, 3) := by decide +kernel
theorem d_Mo_plug_61 : decode b_Mo_plug 61 = .ok (.bipush 12, 2) := by decide +kernel
theorem d_Mo_plug_63 : decode b_Mo_plug 63 = .ok (.iload_n 1, 1) := by decide +kernel
theorem d_Mo_plug_64 : decode b_Mo_plug 64 = .ok (.imul, 1) := by decide +kernel
theorem d_Mo_plug_65 : decode b_Mo_plug 65 = .ok (.iload_n 2, 1) := by decide +kernel
theorem d_Mo_plug_66 : decode b_Mo_plug 66 = .ok (.iadd, 1) := by decide +kernel
theorem d_Mo_plug_67 : decode b_Mo_plug 67 = .ok (.iaload, 1) := by decide +kernel
theorem d_Mo_plug_68 : decode b_Mo_plug 68 = .ok (.goto 14, 3) := by decide +kernel
theorem d_Mo_plug_71 : decode b_Mo_plug 71 = .ok (.aload_n 0, 1) := by decide +kernel
theorem d_Mo_plug_72 : decode b_Mo_plug 72 = .ok (.getfield 39, 3) := by decide +kernel
theorem d_Mo_plug_75 : decode b_Mo_plug 75 = .ok (.bipush 12, 2) := by decide +kernel
theorem d_Mo_plug_77 : decode b_Mo_plug 77 = .ok (.iload_n 1, 1) := by decide +kernel
theorem d_Mo_plug_78 : decode b_Mo_plug 78 = .ok (.imul, 1) := by decide +kernel
theorem d_Mo_plug_79 : decode b_Mo_plug 79 = .ok (.iload_n 2, 1) := by decide +kernel
theorem d_Mo_plug_80 : decode b_Mo_plug 80 = .ok (.iadd, 1) := by decide +kernel
theorem d_Mo_plug_81 : decode b_Mo_plug 81 = .ok (.iaload, 1) := by decide +kernel
theorem d_Mo_plug_82 : decode b_Mo_plug 82 = .ok (.ireturn, 1) := by decide +kernel
theorem d_Mo_told_0 : decode b_Mo_told 0 = .ok (.aload_n 0, 1) := by decide +kernel
theorem d_Mo_told_1 : decode b_Mo_told 1 = .ok (.aload_n 0, 1) := by decide +kernel
theorem d_Mo_told_2 : decode b_Mo_told 2 = .ok (.iload_n 1, 1) := by decide +kernel
theorem d_Mo_told_3 : decode b_Mo_told 3 = .ok (.invokevirtual 164, 3) := by decide +kernel
theorem d_Mo_told_6 : decode b_Mo_told 6 = .ok (.ifCond .eq 16, 3) := by decide +kernel
theorem d_Mo_told_9 : decode b_Mo_told 9 = .ok (.iload_n 2, 1) := by decide +kernel
theorem d_Mo_told_10 : decode b_Mo_told 10 = .ok (.iconst 0, 1) := by decide +kernel
theorem d_Mo_told_11 : decode b_Mo_told 11 = .ok (.iconst 3, 1) := by decide +kernel
theorem d_Mo_told_12 : decode b_Mo_told 12 = .ok (.invokestatic 105, 3) := by decide +kernel
theorem d_Mo_told_15 : decode b_Mo_told 15 = .ok (.ifCond .eq 7, 3) := by decide +kernel
theorem d_Mo_told_18 : decode b_Mo_told 18 = .ok (.iconst 0, 1) := by decide +kernel
theorem d_Mo_told_19 : decode b_Mo_told 19 = .ok (.goto 4, 3) := by decide +kernel
theorem d_Mo_told_22 : decode b_Mo_told 22 = .ok (.iconst 1, 1) := by decide +kernel
theorem d_Mo_told_23 : decode b_Mo_told 23 = .ok (.putfield 99, 3) := by decide +kernel
theorem d_Mo_told_26 : decode b_Mo_told 26 = .ok (.aload_n 0, 1) := by decide +kernel
theorem d_Mo_told_27 : decode b_Mo_told 27 = .ok (.getfield 99, 3) := by decide +kernel
theorem d_Mo_told_30 : decode b_Mo_told 30 = .ok (.ifCond .le 5, 3) := by decide +kernel
theorem d_Mo_told_33 : decode b_Mo_told 33 = .ok (.iconst 0, 1) := by decide +kernel
theorem d_Mo_told_34 : decode b_Mo_told 34 = .ok (.ireturn, 1) := by decide +kernel
theorem d_Mo_told_35 : decode b_Mo_told 35 = .ok (.iload_n 2, 1) := by decide +kernel
theorem d_Mo_told_36 : decode b_Mo_told 36 = .ok (.ifCond .ne 11, 3) := by decide +kernel
theorem d_Mo_told_39 : decode b_Mo_told 39 = .ok (.aload_n 0, 1) := by decide +kernel
theorem d_Mo_told_40 : decode b_Mo_told 40 = .ok (.iload_n 1, 1) := by decide +kernel
theorem d_Mo_told_41 : decode b_Mo_told 41 = .ok (.invokevirtual 157, 3) := by decide +kernel
theorem d_Mo_told_44 : decode b_Mo_told 44 = .ok (.goto 43, 3) := by decide +kernel
theorem d_Mo_told_47 : decode b_Mo_told 47 = .ok (.iload_n 2, 1) := by decide +kernel
theorem d_Mo_told_48 : decode b_Mo_told 48 = .ok (.iconst 1, 1) := by decide +kernel
theorem d_Mo_told_49 : decode b_Mo_told 49 = .ok (.if_icmp .ne 11, 3) := by decide +kernel
theorem d_Mo_told_52 : decode b_Mo_told 52 = .ok (.aload_n 0, 1) := by decide +kernel
theorem d_Mo_told_53 : decode b_Mo_told 53 = .ok (.iload_n 1, 1) := by decide +kernel
theorem d_Mo_told_54 : decode b_Mo_told 54 = .ok (.invokevirtual 174, 3) := by decide +kernel
theorem d_Mo_told_57 : decode b_Mo_told 57 = .ok (.goto 30, 3) := by decide +kernel
theorem d_Mo_told_60 : decode b_Mo_told 60 = .ok (.iload_n 2, 1) := by decide +kernel
theorem d_Mo_told_61 : decode b_Mo_told 61 = .ok (.iconst 2, 1) := by decide +kernel
theorem d_Mo_told_62 : decode b_Mo_told 62 = .ok (.if_icmp .ne 19, 3) := by decide +kernel
theorem d_Mo_told_65 : decode b_Mo_told 65 = .ok (.aload_n 0, 1) := by decide +kernel
theorem d_Mo_told_66 : decode b_Mo_told 66 = .ok (.getfield 133, 3) := by decide +kernel
theorem d_Mo_told_69 : decode b_Mo_told 69 = .ok (.iconst 1, 1) := by decide +kernel
theorem d_Mo_told_70 : decode b_Mo_told 70 = .ok (.isub, 1) := by decide +kernel
theorem d_Mo_told_71 : decode b_Mo_told 71 = .ok (.aload_n 0, 1) := by decide +kernel
theorem d_Mo_told_72 : decode b_Mo_told 72 = .ok (.getfield 42, 3) := by decide +kernel
theorem d_Mo_told_75 : decode b_Mo_told 75 = .ok (.iload_n 1, 1) := by decide +kernel
theorem d_Mo_told_76 : decode b_Mo_told 76 = .ok (.iaload, 1) := by decide +kernel
theorem d_Mo_told_77 : decode b_Mo_told 77 = .ok (.isub, 1) := by decide +kernel
theorem d_Mo_told_78 : decode b_Mo_told 78 = .ok (.goto 9, 3) := by decide +kernel
theorem d_Mo_told_81 : decode b_Mo_told 81 = .ok (.aload_n 0, 1) := by decide +kernel
theorem d_Mo_told_82 : decode b_Mo_told 82 = .ok (.getfield 45, 3) := by decide +kernel
theorem d_Mo_told_85 : decode b_Mo_told 85 = .ok (.iload_n 1, 1) := by decide +kernel
theorem d_Mo_told_86 : decode b_Mo_told 86 = .ok (.iaload, 1) := by decide +kernel
theorem d_Mo_told_87 : decode b_Mo_told 87 = .ok (.ireturn, 1) := by decide +kernel
theorem d_Mo_dead_0 : decode b_Mo_dead 0 = .ok (.aload_n 0, 1) := by decide +kernel
theorem d_Mo_dead_1 : decode b_Mo_dead 1 = .ok (.iload_n 1, 1) := by decide +kernel
theorem d_Mo_dead_2 : decode b_Mo_dead 2 = .ok (.ifCond .lt 11, 3) := by decide +kernel
theorem d_Mo_dead_5 : decode b_Mo_dead 5 = .ok (.iload_n 2, 1) := by decide +kernel
theorem d_Mo_dead_6 : decode b_Mo_dead 6 = .ok (.ifCond .lt 7, 3) := by decide +kernel
theorem d_Mo_dead_9 : decode b_Mo_dead 9 = .ok (.iconst 0, 1) := by decide +kernel
theorem d_Mo_dead_10 : decode b_Mo_dead 10 = .ok (.goto 4, 3) := by decide +kernel
theorem d_Mo_dead_13 : decode b_Mo_dead 13 = .ok (.iconst 1, 1) := by decide +kernel
theorem d_Mo_dead_14 : decode b_Mo_dead 14 = .ok (.putfield 99, 3) := by decide +kernel
theorem d_Mo_dead_17 : decode b_Mo_dead 17 = .ok (.aload_n 0, 1) := by decide +kernel
theorem d_Mo_dead_18 : decode b_Mo_dead 18 = .ok (.getfield 99, 3) := by decide +kernel
theorem d_Mo_dead_21 : decode b_Mo_dead 21 = .ok (.ifCond .le 5, 3) := by decide +kernel
theorem d_Mo_dead_24 : decode b_Mo_dead 24 = .ok (.iconst 0, 1) := by decide +kernel
theorem d_Mo_dead_25 : decode b_Mo_dead 25 = .ok (.ireturn, 1) := by decide +kernel
theorem d_Mo_dead_26 : decode b_Mo_dead 26 = .ok (.iconst 0, 1) := by decide +kernel
theorem d_Mo_dead_27 : decode b_Mo_dead 27 = .ok (.istore_n 3, 1) := by decide +kernel
theorem d_Mo_dead_28 : decode b_Mo_dead 28 = .ok (.iconst 0, 1) := by decide +kernel
theorem d_Mo_dead_29 : decode b_Mo_dead 29 = .ok (.istore 4, 2) := by decide +kernel
theorem d_Mo_dead_31 : decode b_Mo_dead 31 = .ok (.iload 4, 2) := by decide +kernel
theorem d_Mo_dead_33 : decode b_Mo_dead 33 = .ok (.aload_n 0, 1) := by decide +kernel
theorem d_Mo_dead_34 : decode b_Mo_dead 34 = .ok (.getfield 102, 3) := by decide +kernel
theorem d_Mo_dead_37 : decode b_Mo_dead 37 = .ok (.if_icmp .ge 71, 3) := by decide +kernel
theorem d_Mo_dead_40 : decode b_Mo_dead 40 = .ok (.aload_n 0, 1) := by decide +kernel
theorem d_Mo_dead_41 : decode b_Mo_dead 41 = .ok (.getfield 42, 3) := by decide +kernel
theorem d_Mo_dead_44 : decode b_Mo_dead 44 = .ok (.iload 4, 2) := by decide +kernel
theorem d_Mo_dead_46 : decode b_Mo_dead 46 = .ok (.iaload, 1) := by decide +kernel
theorem d_Mo_dead_47 : decode b_Mo_dead 47 = .ok (.iconst (-1), 1) := by decide +kernel
theorem d_Mo_dead_48 : decode b_Mo_dead 48 = .ok (.if_icmp .eq 21, 3) := by decide +kernel
theorem d_Mo_dead_51 : decode b_Mo_dead 51 = .ok (.aload_n 0, 1) := by decide +kernel
theorem d_Mo_dead_52 : decode b_Mo_dead 52 = .ok (.getfield 133, 3) := by decide +kernel
theorem d_Mo_dead_55 : decode b_Mo_dead 55 = .ok (.iconst 1, 1) := by decide +kernel
theorem d_Mo_dead_56 : decode b_Mo_dead 56 = .ok (.isub, 1) := by decide +kernel
theorem d_Mo_dead_57 : decode b_Mo_dead 57 = .ok (.aload_n 0, 1) := by decide +kernel
theorem d_Mo_dead_58 : decode b_Mo_dead 58 = .ok (.getfield 42, 3) := by decide +kernel
theorem d_Mo_dead_61 : decode b_Mo_dead 61 = .ok (.iload 4, 2) := by decide +kernel
theorem d_Mo_dead_63 : decode b_Mo_dead 63 = .ok (.iaload, 1) := by decide +kernel
theorem d_Mo_dead_64 : decode b_Mo_dead 64 = .ok (.isub, 1) := by decide +kernel
theorem d_Mo_dead_65 : decode b_Mo_dead 65 = .ok (.iload_n 1, 1) := by decide +kernel
theorem d_Mo_dead_66 : decode b_Mo_dead 66 = .ok (.if_icmp .lt 7, 3) := by decide +kernel
theorem d_Mo_dead_69 : decode b_Mo_dead 69 = .ok (.iconst 1, 1) := by decide +kernel
theorem d_Mo_dead_70 : decode b_Mo_dead 70 = .ok (.goto 4, 3) := by decide +kernel
theorem d_Mo_dead_73 : decode b_Mo_dead 73 = .ok (.iconst 0, 1) := by decide +kernel
theorem d_Mo_dead_74 : decode b_Mo_dead 74 = .ok (.istore 5, 2) := by decide +kernel
theorem d_Mo_dead_76 : decode b_Mo_dead 76 = .ok (.iload 5, 2) := by decide +kernel
theorem d_Mo_dead_78 : decode b_Mo_dead 78 = .ok (.ifCond .eq 11, 3) := by decide +kernel
theorem d_Mo_dead_81 : decode b_Mo_dead 81 = .ok (.iload_n 3, 1) := by decide +kernel
theorem d_Mo_dead_82 : decode b_Mo_dead 82 = .ok (.iload_n 2, 1) := by decide +kernel
theorem d_Mo_dead_83 : decode b_Mo_dead 83 = .ok (.if_icmp .ne 6, 3) := by decide +kernel
theorem d_Mo_dead_86 : decode b_Mo_dead 86 = .ok (.iload 4, 2) := by decide +kernel
theorem d_Mo_dead_88 : decode b_Mo_dead 88 = .ok (.ireturn, 1) := by decide +kernel
theorem d_Mo_dead_89 : decode b_Mo_dead 89 = .ok (.iload_n 3, 1) := by decide +kernel
theorem d_Mo_dead_90 : decode b_Mo_dead 90 = .ok (.iload 5, 2) := by decide +kernel
theorem d_Mo_dead_92 : decode b_Mo_dead 92 = .ok (.ifCond .eq 7, 3) := by decide +kernel
theorem d_Mo_dead_95 : decode b_Mo_dead 95 = .ok (.iconst 1, 1) := by decide +kernel
theorem d_Mo_dead_96 : decode b_Mo_dead 96 = .ok (.goto 4, 3) := by decide +kernel
theorem d_Mo_dead_99 : decode b_Mo_dead 99 = .ok (.iconst 0, 1) := by decide +kernel
theorem d_Mo_dead_100 : decode b_Mo_dead 100 = .ok (.iadd, 1) := by decide +kernel
theorem d_Mo_dead_101 : decode b_Mo_dead 101 = .ok (.istore_n 3, 1) := by decide +kernel
theorem d_Mo_dead_102 : decode b_Mo_dead 102 = .ok (.iinc 4 1, 3) := by decide +kernel
theorem d_Mo_dead_105 : decode b_Mo_dead 105 = .ok (.goto (-74), 3) := by decide +kernel
theorem d_Mo_dead_108 : decode b_Mo_dead 108 = .ok (.iconst (-1), 1) := by decide +kernel
theorem d_Mo_dead_109 : decode b_Mo_dead 109 = .ok (.ireturn, 1) := by decide +kernel
theorem d_Mo_warm_0 : decode b_Mo_warm 0 = .ok (.aload_n 0, 1) := by decide +kernel
theorem d_Mo_warm_1 : decode b_Mo_warm 1 = .ok (.aload_n 0, 1) := by decide +kernel
theorem d_Mo_warm_2 : decode b_Mo_warm 2 = .ok (.iload_n 1, 1) := by decide +kernel
theorem d_Mo_warm_3 : decode b_Mo_warm 3 = .ok (.invokevirtual 164, 3) := by decide +kernel
theorem d_Mo_warm_6 : decode b_Mo_warm 6 = .ok (.ifCond .eq 18, 3) := by decide +kernel
theorem d_Mo_warm_9 : decode b_Mo_warm 9 = .ok (.iload_n 2, 1) := by decide +kernel
theorem d_Mo_warm_10 : decode b_Mo_warm 10 = .ok (.iconst 0, 1) := by decide +kernel
theorem d_Mo_warm_11 : decode b_Mo_warm 11 = .ok (.sipush 10000, 3) := by decide +kernel
theorem d_Mo_warm_14 : decode b_Mo_warm 14 = .ok (.invokestatic 105, 3) := by decide +kernel
theorem d_Mo_warm_17 : decode b_Mo_warm 17 = .ok (.ifCond .eq 7, 3) := by decide +kernel
theorem d_Mo_warm_20 : decode b_Mo_warm 20 = .ok (.iconst 0, 1) := by decide +kernel
theorem d_Mo_warm_21 : decode b_Mo_warm 21 = .ok (.goto 4, 3) := by decide +kernel
theorem d_Mo_warm_24 : decode b_Mo_warm 24 = .ok (.iconst 1, 1) := by decide +kernel
theorem d_Mo_warm_25 : decode b_Mo_warm 25 = .ok (.putfield 99, 3) := by decide +kernel
theorem d_Mo_warm_28 : decode b_Mo_warm 28 = .ok (.aload_n 0, 1) := by decide +kernel
theorem d_Mo_warm_29 : decode b_Mo_warm 29 = .ok (.getfield 99, 3) := by decide +kernel
theorem d_Mo_warm_32 : decode b_Mo_warm 32 = .ok (.ifCond .le 5, 3) := by decide +kernel
theorem d_Mo_warm_35 : decode b_Mo_warm 35 = .ok (.iconst 0, 1) := by decide +kernel
theorem d_Mo_warm_36 : decode b_Mo_warm 36 = .ok (.ireturn, 1) := by decide +kernel
theorem d_Mo_warm_37 : decode b_Mo_warm 37 = .ok (.iconst 0, 1) := by decide +kernel
theorem d_Mo_warm_38 : decode b_Mo_warm 38 = .ok (.istore_n 3, 1) := by decide +kernel
theorem d_Mo_warm_39 : decode b_Mo_warm 39 = .ok (.iload_n 1, 1) := by decide +kernel
theorem d_Mo_warm_40 : decode b_Mo_warm 40 = .ok (.istore 4, 2) := by decide +kernel
theorem d_Mo_warm_42 : decode b_Mo_warm 42 = .ok (.iload 4, 2) := by decide +kernel
theorem d_Mo_warm_44 : decode b_Mo_warm 44 = .ok (.iconst (-1), 1) := by decide +kernel
theorem d_Mo_warm_45 : decode b_Mo_warm 45 = .ok (.if_icmp .eq 72, 3) := by decide +kernel
theorem d_Mo_warm_48 : decode b_Mo_warm 48 = .ok (.aload_n 0, 1) := by decide +kernel
theorem d_Mo_warm_49 : decode b_Mo_warm 49 = .ok (.getfield 33, 3) := by decide +kernel
theorem d_Mo_warm_52 : decode b_Mo_warm 52 = .ok (.iload 4, 2) := by decide +kernel
theorem d_Mo_warm_54 : decode b_Mo_warm 54 = .ok (.iaload, 1) := by decide +kernel
theorem d_Mo_warm_55 : decode b_Mo_warm 55 = .ok (.iconst 1, 1) := by decide +kernel
theorem d_Mo_warm_56 : decode b_Mo_warm 56 = .ok (.isub, 1) := by decide +kernel
theorem d_Mo_warm_57 : decode b_Mo_warm 57 = .ok (.istore 5, 2) := by decide +kernel
theorem d_Mo_warm_59 : decode b_Mo_warm 59 = .ok (.iload 5, 2) := by decide +kernel
theorem d_Mo_warm_61 : decode b_Mo_warm 61 = .ok (.ifCond .lt 44, 3) := by decide +kernel
theorem d_Mo_warm_64 : decode b_Mo_warm 64 = .ok (.aload_n 0, 1) := by decide +kernel
theorem d_Mo_warm_65 : decode b_Mo_warm 65 = .ok (.getfield 39, 3) := by decide +kernel
theorem d_Mo_warm_68 : decode b_Mo_warm 68 = .ok (.bipush 12, 2) := by decide +kernel
theorem d_Mo_warm_70 : decode b_Mo_warm 70 = .ok (.iload 4, 2) := by decide +kernel
theorem d_Mo_warm_72 : decode b_Mo_warm 72 = .ok (.imul, 1) := by decide +kernel
theorem d_Mo_warm_73 : decode b_Mo_warm 73 = .ok (.iload 5, 2) := by decide +kernel
theorem d_Mo_warm_75 : decode b_Mo_warm 75 = .ok (.iadd, 1) := by decide +kernel
theorem d_Mo_warm_76 : decode b_Mo_warm 76 = .ok (.iaload, 1) := by decide +kernel
theorem d_Mo_warm_77 : decode b_Mo_warm 77 = .ok (.iload_n 2, 1) := by decide +kernel
theorem d_Mo_warm_78 : decode b_Mo_warm 78 = .ok (.if_icmp .lt 5, 3) := by decide +kernel
theorem d_Mo_warm_81 : decode b_Mo_warm 81 = .ok (.iload_n 3, 1) := by decide +kernel
theorem d_Mo_warm_82 : decode b_Mo_warm 82 = .ok (.ireturn, 1) := by decide +kernel
theorem d_Mo_warm_83 : decode b_Mo_warm 83 = .ok (.iload_n 3, 1) := by decide +kernel
theorem d_Mo_warm_84 : decode b_Mo_warm 84 = .ok (.aload_n 0, 1) := by decide +kernel
theorem d_Mo_warm_85 : decode b_Mo_warm 85 = .ok (.getfield 36, 3) := by decide +kernel
theorem d_Mo_warm_88 : decode b_Mo_warm 88 = .ok (.bipush 12, 2) := by decide +kernel
theorem d_Mo_warm_90 : decode b_Mo_warm 90 = .ok (.iload 4, 2) := by decide +kernel
theorem d_Mo_warm_92 : decode b_Mo_warm 92 = .ok (.imul, 1) := by decide +kernel
theorem d_Mo_warm_93 : decode b_Mo_warm 93 = .ok (.iload 5, 2) := by decide +kernel
theorem d_Mo_warm_95 : decode b_Mo_warm 95 = .ok (.iadd, 1) := by decide +kernel
theorem d_Mo_warm_96 : decode b_Mo_warm 96 = .ok (.iaload, 1) := by decide +kernel
theorem d_Mo_warm_97 : decode b_Mo_warm 97 = .ok (.iadd, 1) := by decide +kernel
theorem d_Mo_warm_98 : decode b_Mo_warm 98 = .ok (.istore_n 3, 1) := by decide +kernel
theorem d_Mo_warm_99 : decode b_Mo_warm 99 = .ok (.iinc 5 (-1), 3) := by decide +kernel
theorem d_Mo_warm_102 : decode b_Mo_warm 102 = .ok (.goto (-43), 3) := by decide +kernel
theorem d_Mo_warm_105 : decode b_Mo_warm 105 = .ok (.aload_n 0, 1) := by decide +kernel
theorem d_Mo_warm_106 : decode b_Mo_warm 106 = .ok (.getfield 7, 3) := by decide +kernel
theorem d_Mo_warm_109 : decode b_Mo_warm 109 = .ok (.iload 4, 2) := by decide +kernel
theorem d_Mo_warm_111 : decode b_Mo_warm 111 = .ok (.iaload, 1) := by decide +kernel
theorem d_Mo_warm_112 : decode b_Mo_warm 112 = .ok (.istore 4, 2) := by decide +kernel
theorem d_Mo_warm_114 : decode b_Mo_warm 114 = .ok (.goto (-72), 3) := by decide +kernel
theorem d_Mo_warm_117 : decode b_Mo_warm 117 = .ok (.aload_n 0, 1) := by decide +kernel
theorem d_Mo_warm_118 : decode b_Mo_warm 118 = .ok (.getfield 26, 3) := by decide +kernel
theorem d_Mo_warm_121 : decode b_Mo_warm 121 = .ok (.iload_n 2, 1) := by decide +kernel
theorem d_Mo_warm_122 : decode b_Mo_warm 122 = .ok (.if_icmp .lt 7, 3) := by decide +kernel
theorem d_Mo_warm_125 : decode b_Mo_warm 125 = .ok (.iload_n 3, 1) := by decide +kernel
theorem d_Mo_warm_126 : decode b_Mo_warm 126 = .ok (.goto 4, 3) := by decide +kernel
theorem d_Mo_warm_129 : decode b_Mo_warm 129 = .ok (.iconst (-1), 1) := by decide +kernel
theorem d_Mo_warm_130 : decode b_Mo_warm 130 = .ok (.ireturn, 1) := by decide +kernel
theorem d_Mo_drawn_0 : decode b_Mo_drawn 0 = .ok (.aload_n 0, 1) := by decide +kernel
theorem d_Mo_drawn_1 : decode b_Mo_drawn 1 = .ok (.iload_n 1, 1) := by decide +kernel
theorem d_Mo_drawn_2 : decode b_Mo_drawn 2 = .ok (.iconst 0, 1) := by decide +kernel
theorem d_Mo_drawn_3 : decode b_Mo_drawn 3 = .ok (.aload_n 0, 1) := by decide +kernel
theorem d_Mo_drawn_4 : decode b_Mo_drawn 4 = .ok (.getfield 168, 3) := by decide +kernel
theorem d_Mo_drawn_7 : decode b_Mo_drawn 7 = .ok (.iconst 1, 1) := by decide +kernel
theorem d_Mo_drawn_8 : decode b_Mo_drawn 8 = .ok (.isub, 1) := by decide +kernel
theorem d_Mo_drawn_9 : decode b_Mo_drawn 9 = .ok (.invokestatic 105, 3) := by decide +kernel
theorem d_Mo_drawn_12 : decode b_Mo_drawn 12 = .ok (.ifCond .eq 16, 3) := by decide +kernel
theorem d_Mo_drawn_15 : decode b_Mo_drawn 15 = .ok (.iload_n 2, 1) := by decide +kernel
theorem d_Mo_drawn_16 : decode b_Mo_drawn 16 = .ok (.iconst 0, 1) := by decide +kernel
theorem d_Mo_drawn_17 : decode b_Mo_drawn 17 = .ok (.iconst 2, 1) := by decide +kernel
theorem d_Mo_drawn_18 : decode b_Mo_drawn 18 = .ok (.invokestatic 105, 3) := by decide +kernel
theorem d_Mo_drawn_21 : decode b_Mo_drawn 21 = .ok (.ifCond .eq 7, 3) := by decide +kernel
theorem d_Mo_drawn_24 : decode b_Mo_drawn 24 = .ok (.iconst 0, 1) := by decide +kernel
theorem d_Mo_drawn_25 : decode b_Mo_drawn 25 = .ok (.goto 4, 3) := by decide +kernel
theorem d_Mo_drawn_28 : decode b_Mo_drawn 28 = .ok (.iconst 1, 1) := by decide +kernel
theorem d_Mo_drawn_29 : decode b_Mo_drawn 29 = .ok (.putfield 99, 3) := by decide +kernel
theorem d_Mo_drawn_32 : decode b_Mo_drawn 32 = .ok (.aload_n 0, 1) := by decide +kernel
theorem d_Mo_drawn_33 : decode b_Mo_drawn 33 = .ok (.getfield 99, 3) := by decide +kernel
theorem d_Mo_drawn_36 : decode b_Mo_drawn 36 = .ok (.ifCond .le 5, 3) := by decide +kernel
theorem d_Mo_drawn_39 : decode b_Mo_drawn 39 = .ok (.iconst 0, 1) := by decide +kernel
theorem d_Mo_drawn_40 : decode b_Mo_drawn 40 = .ok (.ireturn, 1) := by decide +kernel
theorem d_Mo_drawn_41 : decode b_Mo_drawn 41 = .ok (.aload_n 0, 1) := by decide +kernel
theorem d_Mo_drawn_42 : decode b_Mo_drawn 42 = .ok (.getfield 51, 3) := by decide +kernel
theorem d_Mo_drawn_45 : decode b_Mo_drawn 45 = .ok (.iload_n 1, 1) := by decide +kernel
theorem d_Mo_drawn_46 : decode b_Mo_drawn 46 = .ok (.iaload, 1) := by decide +kernel
theorem d_Mo_drawn_47 : decode b_Mo_drawn 47 = .ok (.aload_n 0, 1) := by decide +kernel
theorem d_Mo_drawn_48 : decode b_Mo_drawn 48 = .ok (.getfield 133, 3) := by decide +kernel
theorem d_Mo_drawn_51 : decode b_Mo_drawn 51 = .ok (.if_icmp .lt 7, 3) := by decide +kernel
theorem d_Mo_drawn_54 : decode b_Mo_drawn 54 = .ok (.iconst (-1), 1) := by decide +kernel
theorem d_Mo_drawn_55 : decode b_Mo_drawn 55 = .ok (.goto 36, 3) := by decide +kernel
theorem d_Mo_drawn_58 : decode b_Mo_drawn 58 = .ok (.iload_n 2, 1) := by decide +kernel
theorem d_Mo_drawn_59 : decode b_Mo_drawn 59 = .ok (.ifCond .ne 12, 3) := by decide +kernel
theorem d_Mo_drawn_62 : decode b_Mo_drawn 62 = .ok (.aload_n 0, 1) := by decide +kernel
theorem d_Mo_drawn_63 : decode b_Mo_drawn 63 = .ok (.getfield 57, 3) := by decide +kernel
theorem d_Mo_drawn_66 : decode b_Mo_drawn 66 = .ok (.iload_n 1, 1) := by decide +kernel
theorem d_Mo_drawn_67 : decode b_Mo_drawn 67 = .ok (.iaload, 1) := by decide +kernel
theorem d_Mo_drawn_68 : decode b_Mo_drawn 68 = .ok (.goto 23, 3) := by decide +kernel
theorem d_Mo_drawn_71 : decode b_Mo_drawn 71 = .ok (.iload_n 2, 1) := by decide +kernel
theorem d_Mo_drawn_72 : decode b_Mo_drawn 72 = .ok (.iconst 1, 1) := by decide +kernel
theorem d_Mo_drawn_73 : decode b_Mo_drawn 73 = .ok (.if_icmp .ne 12, 3) := by decide +kernel
theorem d_Mo_drawn_76 : decode b_Mo_drawn 76 = .ok (.aload_n 0, 1) := by decide +kernel
theorem d_Mo_drawn_77 : decode b_Mo_drawn 77 = .ok (.getfield 60, 3) := by decide +kernel
theorem d_Mo_drawn_80 : decode b_Mo_drawn 80 = .ok (.iload_n 1, 1) := by decide +kernel
theorem d_Mo_drawn_81 : decode b_Mo_drawn 81 = .ok (.iaload, 1) := by decide +kernel
theorem d_Mo_drawn_82 : decode b_Mo_drawn 82 = .ok (.goto 9, 3) := by decide +kernel
theorem d_Mo_drawn_85 : decode b_Mo_drawn 85 = .ok (.aload_n 0, 1) := by decide +kernel
theorem d_Mo_drawn_86 : decode b_Mo_drawn 86 = .ok (.getfield 63, 3) := by decide +kernel
theorem d_Mo_drawn_89 : decode b_Mo_drawn 89 = .ok (.iload_n 1, 1) := by decide +kernel
theorem d_Mo_drawn_90 : decode b_Mo_drawn 90 = .ok (.iaload, 1) := by decide +kernel
theorem d_Mo_drawn_91 : decode b_Mo_drawn 91 = .ok (.ireturn, 1) := by decide +kernel
theorem d_Mo_heat_0 : decode b_Mo_heat 0 = .ok (.aload_n 0, 1) := by decide +kernel
theorem d_Mo_heat_1 : decode b_Mo_heat 1 = .ok (.iload_n 1, 1) := by decide +kernel
theorem d_Mo_heat_2 : decode b_Mo_heat 2 = .ok (.iconst 0, 1) := by decide +kernel
theorem d_Mo_heat_3 : decode b_Mo_heat 3 = .ok (.iconst 3, 1) := by decide +kernel
theorem d_Mo_heat_4 : decode b_Mo_heat 4 = .ok (.invokestatic 105, 3) := by decide +kernel
theorem d_Mo_heat_7 : decode b_Mo_heat 7 = .ok (.ifCond .eq 7, 3) := by decide +kernel
theorem d_Mo_heat_10 : decode b_Mo_heat 10 = .ok (.iconst 0, 1) := by decide +kernel
theorem d_Mo_heat_11 : decode b_Mo_heat 11 = .ok (.goto 4, 3) := by decide +kernel
theorem d_Mo_heat_14 : decode b_Mo_heat 14 = .ok (.iconst 1, 1) := by decide +kernel
theorem d_Mo_heat_15 : decode b_Mo_heat 15 = .ok (.putfield 99, 3) := by decide +kernel
theorem d_Mo_heat_18 : decode b_Mo_heat 18 = .ok (.aload_n 0, 1) := by decide +kernel
theorem d_Mo_heat_19 : decode b_Mo_heat 19 = .ok (.getfield 99, 3) := by decide +kernel
theorem d_Mo_heat_22 : decode b_Mo_heat 22 = .ok (.ifCond .le 5, 3) := by decide +kernel
theorem d_Mo_heat_25 : decode b_Mo_heat 25 = .ok (.lconst 0, 1) := by decide +kernel
theorem d_Mo_heat_26 : decode b_Mo_heat 26 = .ok (.lreturn, 1) := by decide +kernel
theorem d_Mo_heat_27 : decode b_Mo_heat 27 = .ok (.lconst 0, 1) := by decide +kernel
theorem d_Mo_heat_28 : decode b_Mo_heat 28 = .ok (.lstore_n 2, 1) := by decide +kernel
theorem d_Mo_heat_29 : decode b_Mo_heat 29 = .ok (.iconst 0, 1) := by decide +kernel
theorem d_Mo_heat_30 : decode b_Mo_heat 30 = .ok (.istore 4, 2) := by decide +kernel
theorem d_Mo_heat_32 : decode b_Mo_heat 32 = .ok (.iload 4, 2) := by decide +kernel
theorem d_Mo_heat_34 : decode b_Mo_heat 34 = .ok (.aload_n 0, 1) := by decide +kernel
theorem d_Mo_heat_35 : decode b_Mo_heat 35 = .ok (.getfield 102, 3) := by decide +kernel
theorem d_Mo_heat_38 : decode b_Mo_heat 38 = .ok (.if_icmp .ge 62, 3) := by decide +kernel
theorem d_Mo_heat_41 : decode b_Mo_heat 41 = .ok (.iconst 0, 1) := by decide +kernel
theorem d_Mo_heat_42 : decode b_Mo_heat 42 = .ok (.istore 5, 2) := by decide +kernel
theorem d_Mo_heat_44 : decode b_Mo_heat 44 = .ok (.iload 5, 2) := by decide +kernel
theorem d_Mo_heat_46 : decode b_Mo_heat 46 = .ok (.aload_n 0, 1) := by decide +kernel
theorem d_Mo_heat_47 : decode b_Mo_heat 47 = .ok (.getfield 33, 3) := by decide +kernel
theorem d_Mo_heat_50 : decode b_Mo_heat 50 = .ok (.iload 4, 2) := by decide +kernel
theorem d_Mo_heat_52 : decode b_Mo_heat 52 = .ok (.iaload, 1) := by decide +kernel
theorem d_Mo_heat_53 : decode b_Mo_heat 53 = .ok (.if_icmp .ge 41, 3) := by decide +kernel
theorem d_Mo_heat_56 : decode b_Mo_heat 56 = .ok (.lload_n 2, 1) := by decide +kernel
theorem d_Mo_heat_57 : decode b_Mo_heat 57 = .ok (.aload_n 0, 1) := by decide +kernel
theorem d_Mo_heat_58 : decode b_Mo_heat 58 = .ok (.getfield 36, 3) := by decide +kernel
theorem d_Mo_heat_61 : decode b_Mo_heat 61 = .ok (.bipush 12, 2) := by decide +kernel
theorem d_Mo_heat_63 : decode b_Mo_heat 63 = .ok (.iload 4, 2) := by decide +kernel
theorem d_Mo_heat_65 : decode b_Mo_heat 65 = .ok (.imul, 1) := by decide +kernel
theorem d_Mo_heat_66 : decode b_Mo_heat 66 = .ok (.iload 5, 2) := by decide +kernel
theorem d_Mo_heat_68 : decode b_Mo_heat 68 = .ok (.iadd, 1) := by decide +kernel
theorem d_Mo_heat_69 : decode b_Mo_heat 69 = .ok (.iaload, 1) := by decide +kernel
theorem d_Mo_heat_70 : decode b_Mo_heat 70 = .ok (.i2l, 1) := by decide +kernel
theorem d_Mo_heat_71 : decode b_Mo_heat 71 = .ok (.aload_n 0, 1) := by decide +kernel
theorem d_Mo_heat_72 : decode b_Mo_heat 72 = .ok (.getfield 39, 3) := by decide +kernel
theorem d_Mo_heat_75 : decode b_Mo_heat 75 = .ok (.bipush 12, 2) := by decide +kernel
theorem d_Mo_heat_77 : decode b_Mo_heat 77 = .ok (.iload 4, 2) := by decide +kernel
theorem d_Mo_heat_79 : decode b_Mo_heat 79 = .ok (.imul, 1) := by decide +kernel
theorem d_Mo_heat_80 : decode b_Mo_heat 80 = .ok (.iload 5, 2) := by decide +kernel
theorem d_Mo_heat_82 : decode b_Mo_heat 82 = .ok (.iadd, 1) := by decide +kernel
theorem d_Mo_heat_83 : decode b_Mo_heat 83 = .ok (.iaload, 1) := by decide +kernel
theorem d_Mo_heat_84 : decode b_Mo_heat 84 = .ok (.i2l, 1) := by decide +kernel
theorem d_Mo_heat_85 : decode b_Mo_heat 85 = .ok (.lmul, 1) := by decide +kernel
theorem d_Mo_heat_86 : decode b_Mo_heat 86 = .ok (.ladd, 1) := by decide +kernel
theorem d_Mo_heat_87 : decode b_Mo_heat 87 = .ok (.lstore_n 2, 1) := by decide +kernel
theorem d_Mo_heat_88 : decode b_Mo_heat 88 = .ok (.iinc 5 1, 3) := by decide +kernel
theorem d_Mo_heat_91 : decode b_Mo_heat 91 = .ok (.goto (-47), 3) := by decide +kernel
theorem d_Mo_heat_94 : decode b_Mo_heat 94 = .ok (.iinc 4 1, 3) := by decide +kernel
theorem d_Mo_heat_97 : decode b_Mo_heat 97 = .ok (.goto (-65), 3) := by decide +kernel
theorem d_Mo_heat_100 : decode b_Mo_heat 100 = .ok (.iload_n 1, 1) := by decide +kernel
theorem d_Mo_heat_101 : decode b_Mo_heat 101 = .ok (.ifCond .ne 7, 3) := by decide +kernel
theorem d_Mo_heat_104 : decode b_Mo_heat 104 = .ok (.lload_n 2, 1) := by decide +kernel
theorem d_Mo_heat_105 : decode b_Mo_heat 105 = .ok (.goto 31, 3) := by decide +kernel
theorem d_Mo_heat_108 : decode b_Mo_heat 108 = .ok (.iload_n 1, 1) := by decide +kernel
theorem d_Mo_heat_109 : decode b_Mo_heat 109 = .ok (.iconst 1, 1) := by decide +kernel
theorem d_Mo_heat_110 : decode b_Mo_heat 110 = .ok (.if_icmp .ne 10, 3) := by decide +kernel
theorem d_Mo_heat_113 : decode b_Mo_heat 113 = .ok (.aload_n 0, 1) := by decide +kernel
theorem d_Mo_heat_114 : decode b_Mo_heat 114 = .ok (.getfield 136, 3) := by decide +kernel
theorem d_Mo_heat_117 : decode b_Mo_heat 117 = .ok (.goto 19, 3) := by decide +kernel
theorem d_Mo_heat_120 : decode b_Mo_heat 120 = .ok (.iload_n 1, 1) := by decide +kernel
theorem d_Mo_heat_121 : decode b_Mo_heat 121 = .ok (.iconst 2, 1) := by decide +kernel
theorem d_Mo_heat_122 : decode b_Mo_heat 122 = .ok (.if_icmp .ne 10, 3) := by decide +kernel
theorem d_Mo_heat_125 : decode b_Mo_heat 125 = .ok (.aload_n 0, 1) := by decide +kernel
theorem d_Mo_heat_126 : decode b_Mo_heat 126 = .ok (.getfield 151, 3) := by decide +kernel
theorem d_Mo_heat_129 : decode b_Mo_heat 129 = .ok (.goto 7, 3) := by decide +kernel
theorem d_Mo_heat_132 : decode b_Mo_heat 132 = .ok (.aload_n 0, 1) := by decide +kernel
theorem d_Mo_heat_133 : decode b_Mo_heat 133 = .ok (.getfield 112, 3) := by decide +kernel
theorem d_Mo_heat_136 : decode b_Mo_heat 136 = .ok (.lreturn, 1) := by decide +kernel
theorem d_Mo_copy_0 : decode b_Mo_copy 0 = .ok (.iconst 0, 1) := by decide +kernel
theorem d_Mo_copy_1 : decode b_Mo_copy 1 = .ok (.istore_n 3, 1) := by decide +kernel
theorem d_Mo_copy_2 : decode b_Mo_copy 2 = .ok (.iload_n 3, 1) := by decide +kernel
theorem d_Mo_copy_3 : decode b_Mo_copy 3 = .ok (.aload_n 1, 1) := by decide +kernel
theorem d_Mo_copy_4 : decode b_Mo_copy 4 = .ok (.arraylength, 1) := by decide +kernel
theorem d_Mo_copy_5 : decode b_Mo_copy 5 = .ok (.if_icmp .ge 15, 3) := by decide +kernel
theorem d_Mo_copy_8 : decode b_Mo_copy 8 = .ok (.aload_n 2, 1) := by decide +kernel
theorem d_Mo_copy_9 : decode b_Mo_copy 9 = .ok (.iload_n 3, 1) := by decide +kernel
theorem d_Mo_copy_10 : decode b_Mo_copy 10 = .ok (.aload_n 1, 1) := by decide +kernel
theorem d_Mo_copy_11 : decode b_Mo_copy 11 = .ok (.iload_n 3, 1) := by decide +kernel
theorem d_Mo_copy_12 : decode b_Mo_copy 12 = .ok (.iaload, 1) := by decide +kernel
theorem d_Mo_copy_13 : decode b_Mo_copy 13 = .ok (.iastore, 1) := by decide +kernel
theorem d_Mo_copy_14 : decode b_Mo_copy 14 = .ok (.iinc 3 1, 3) := by decide +kernel
theorem d_Mo_copy_17 : decode b_Mo_copy 17 = .ok (.goto (-15), 3) := by decide +kernel
theorem d_Mo_copy_20 : decode b_Mo_copy 20 = .ok (.return_, 1) := by decide +kernel
theorem d_Mo_shock_0 : decode b_Mo_shock 0 = .ok (.aload_n 0, 1) := by decide +kernel
theorem d_Mo_shock_1 : decode b_Mo_shock 1 = .ok (.iload_n 1, 1) := by decide +kernel
theorem d_Mo_shock_2 : decode b_Mo_shock 2 = .ok (.iconst 0, 1) := by decide +kernel
theorem d_Mo_shock_3 : decode b_Mo_shock 3 = .ok (.sipush 10000, 3) := by decide +kernel
theorem d_Mo_shock_6 : decode b_Mo_shock 6 = .ok (.invokestatic 105, 3) := by decide +kernel
theorem d_Mo_shock_9 : decode b_Mo_shock 9 = .ok (.ifCond .eq 44, 3) := by decide +kernel
theorem d_Mo_shock_12 : decode b_Mo_shock 12 = .ok (.iload_n 2, 1) := by decide +kernel
theorem d_Mo_shock_13 : decode b_Mo_shock 13 = .ok (.iconst 1, 1) := by decide +kernel
theorem d_Mo_shock_14 : decode b_Mo_shock 14 = .ok (.bipush 100, 2) := by decide +kernel
theorem d_Mo_shock_16 : decode b_Mo_shock 16 = .ok (.invokestatic 105, 3) := by decide +kernel
theorem d_Mo_shock_19 : decode b_Mo_shock 19 = .ok (.ifCond .eq 34, 3) := by decide +kernel
theorem d_Mo_shock_22 : decode b_Mo_shock 22 = .ok (.iload_n 3, 1) := by decide +kernel
theorem d_Mo_shock_23 : decode b_Mo_shock 23 = .ok (.iconst 1, 1) := by decide +kernel
theorem d_Mo_shock_24 : decode b_Mo_shock 24 = .ok (.bipush 30, 2) := by decide +kernel
theorem d_Mo_shock_26 : decode b_Mo_shock 26 = .ok (.invokestatic 105, 3) := by decide +kernel
theorem d_Mo_shock_29 : decode b_Mo_shock 29 = .ok (.ifCond .eq 24, 3) := by decide +kernel
theorem d_Mo_shock_32 : decode b_Mo_shock 32 = .ok (.iload 4, 2) := by decide +kernel
theorem d_Mo_shock_34 : decode b_Mo_shock 34 = .ok (.iconst 0, 1) := by decide +kernel
theorem d_Mo_shock_35 : decode b_Mo_shock 35 = .ok (.sipush 10000, 3) := by decide +kernel
theorem d_Mo_shock_38 : decode b_Mo_shock 38 = .ok (.invokestatic 105, 3) := by decide +kernel
theorem d_Mo_shock_41 : decode b_Mo_shock 41 = .ok (.ifCond .eq 12, 3) := by decide +kernel
theorem d_Mo_shock_44 : decode b_Mo_shock 44 = .ok (.iload 5, 2) := by decide +kernel
theorem d_Mo_shock_46 : decode b_Mo_shock 46 = .ok (.ifCond .lt 7, 3) := by decide +kernel
theorem d_Mo_shock_49 : decode b_Mo_shock 49 = .ok (.iconst 0, 1) := by decide +kernel
theorem d_Mo_shock_50 : decode b_Mo_shock 50 = .ok (.goto 4, 3) := by decide +kernel
theorem d_Mo_shock_53 : decode b_Mo_shock 53 = .ok (.iconst 1, 1) := by decide +kernel
theorem d_Mo_shock_54 : decode b_Mo_shock 54 = .ok (.putfield 99, 3) := by decide +kernel
theorem d_Mo_shock_57 : decode b_Mo_shock 57 = .ok (.aload_n 0, 1) := by decide +kernel
theorem d_Mo_shock_58 : decode b_Mo_shock 58 = .ok (.getfield 99, 3) := by decide +kernel
theorem d_Mo_shock_61 : decode b_Mo_shock 61 = .ok (.ifCond .le 5, 3) := by decide +kernel
theorem d_Mo_shock_64 : decode b_Mo_shock 64 = .ok (.iconst 0, 1) := by decide +kernel
theorem d_Mo_shock_65 : decode b_Mo_shock 65 = .ok (.ireturn, 1) := by decide +kernel
theorem d_Mo_shock_66 : decode b_Mo_shock 66 = .ok (.aload_n 0, 1) := by decide +kernel
theorem d_Mo_shock_67 : decode b_Mo_shock 67 = .ok (.aload_n 0, 1) := by decide +kernel
theorem d_Mo_shock_68 : decode b_Mo_shock 68 = .ok (.getfield 33, 3) := by decide +kernel
theorem d_Mo_shock_71 : decode b_Mo_shock 71 = .ok (.aload_n 0, 1) := by decide +kernel
theorem d_Mo_shock_72 : decode b_Mo_shock 72 = .ok (.getfield 81, 3) := by decide +kernel
theorem d_Mo_shock_75 : decode b_Mo_shock 75 = .ok (.invokevirtual 177, 3) := by decide +kernel
theorem d_Mo_shock_78 : decode b_Mo_shock 78 = .ok (.aload_n 0, 1) := by decide +kernel
theorem d_Mo_shock_79 : decode b_Mo_shock 79 = .ok (.aload_n 0, 1) := by decide +kernel
theorem d_Mo_shock_80 : decode b_Mo_shock 80 = .ok (.getfield 36, 3) := by decide +kernel
theorem d_Mo_shock_83 : decode b_Mo_shock 83 = .ok (.aload_n 0, 1) := by decide +kernel
theorem d_Mo_shock_84 : decode b_Mo_shock 84 = .ok (.getfield 84, 3) := by decide +kernel
theorem d_Mo_shock_87 : decode b_Mo_shock 87 = .ok (.invokevirtual 177, 3) := by decide +kernel
theorem d_Mo_shock_90 : decode b_Mo_shock 90 = .ok (.aload_n 0, 1) := by decide +kernel
theorem d_Mo_shock_91 : decode b_Mo_shock 91 = .ok (.aload_n 0, 1) := by decide +kernel
theorem d_Mo_shock_92 : decode b_Mo_shock 92 = .ok (.getfield 39, 3) := by decide +kernel
theorem d_Mo_shock_95 : decode b_Mo_shock 95 = .ok (.aload_n 0, 1) := by decide +kernel
theorem d_Mo_shock_96 : decode b_Mo_shock 96 = .ok (.getfield 87, 3) := by decide +kernel
theorem d_Mo_shock_99 : decode b_Mo_shock 99 = .ok (.invokevirtual 177, 3) := by decide +kernel
theorem d_Mo_shock_102 : decode b_Mo_shock 102 = .ok (.aload_n 0, 1) := by decide +kernel
theorem d_Mo_shock_103 : decode b_Mo_shock 103 = .ok (.aload_n 0, 1) := by decide +kernel
theorem d_Mo_shock_104 : decode b_Mo_shock 104 = .ok (.getfield 42, 3) := by decide +kernel
theorem d_Mo_shock_107 : decode b_Mo_shock 107 = .ok (.aload_n 0, 1) := by decide +kernel
theorem d_Mo_shock_108 : decode b_Mo_shock 108 = .ok (.getfield 90, 3) := by decide +kernel
theorem d_Mo_shock_111 : decode b_Mo_shock 111 = .ok (.invokevirtual 177, 3) := by decide +kernel
theorem d_Mo_shock_114 : decode b_Mo_shock 114 = .ok (.aload_n 0, 1) := by decide +kernel
theorem d_Mo_shock_115 : decode b_Mo_shock 115 = .ok (.aload_n 0, 1) := by decide +kernel
theorem d_Mo_shock_116 : decode b_Mo_shock 116 = .ok (.getfield 45, 3) := by decide +kernel
theorem d_Mo_shock_119 : decode b_Mo_shock 119 = .ok (.aload_n 0, 1) := by decide +kernel
theorem d_Mo_shock_120 : decode b_Mo_shock 120 = .ok (.getfield 93, 3) := by decide +kernel
theorem d_Mo_shock_123 : decode b_Mo_shock 123 = .ok (.invokevirtual 177, 3) := by decide +kernel
theorem d_Mo_shock_126 : decode b_Mo_shock 126 = .ok (.aload_n 0, 1) := by decide +kernel
theorem d_Mo_shock_127 : decode b_Mo_shock 127 = .ok (.getfield 136, 3) := by decide +kernel
theorem d_Mo_shock_130 : decode b_Mo_shock 130 = .ok (.lstore 6, 2) := by decide +kernel
theorem d_Mo_shock_132 : decode b_Mo_shock 132 = .ok (.aload_n 0, 1) := by decide +kernel
theorem d_Mo_shock_133 : decode b_Mo_shock 133 = .ok (.getfield 151, 3) := by decide +kernel
theorem d_Mo_shock_136 : decode b_Mo_shock 136 = .ok (.lstore 8, 2) := by decide +kernel
theorem d_Mo_shock_138 : decode b_Mo_shock 138 = .ok (.aload_n 0, 1) := by decide +kernel
theorem d_Mo_shock_139 : decode b_Mo_shock 139 = .ok (.getfield 112, 3) := by decide +kernel
theorem d_Mo_shock_142 : decode b_Mo_shock 142 = .ok (.lstore 10, 2) := by decide +kernel
theorem d_Mo_shock_144 : decode b_Mo_shock 144 = .ok (.aload_n 0, 1) := by decide +kernel
theorem d_Mo_shock_145 : decode b_Mo_shock 145 = .ok (.getfield 26, 3) := by decide +kernel
theorem d_Mo_shock_148 : decode b_Mo_shock 148 = .ok (.istore 12, 2) := by decide +kernel
theorem d_Mo_shock_150 : decode b_Mo_shock 150 = .ok (.aload_n 0, 1) := by decide +kernel
theorem d_Mo_shock_151 : decode b_Mo_shock 151 = .ok (.iload_n 1, 1) := by decide +kernel
theorem d_Mo_shock_152 : decode b_Mo_shock 152 = .ok (.putfield 26, 3) := by decide +kernel
theorem d_Mo_shock_155 : decode b_Mo_shock 155 = .ok (.iconst 0, 1) := by decide +kernel
theorem d_Mo_shock_156 : decode b_Mo_shock 156 = .ok (.istore 13, 2) := by decide +kernel
theorem d_Mo_shock_158 : decode b_Mo_shock 158 = .ok (.iload 13, 2) := by decide +kernel
theorem d_Mo_shock_160 : decode b_Mo_shock 160 = .ok (.bipush 10, 2) := by decide +kernel
theorem d_Mo_shock_162 : decode b_Mo_shock 162 = .ok (.if_icmp .ge 17, 3) := by decide +kernel
theorem d_Mo_shock_165 : decode b_Mo_shock 165 = .ok (.aload_n 0, 1) := by decide +kernel
theorem d_Mo_shock_166 : decode b_Mo_shock 166 = .ok (.getfield 96, 3) := by decide +kernel
theorem d_Mo_shock_169 : decode b_Mo_shock 169 = .ok (.iload 13, 2) := by decide +kernel
theorem d_Mo_shock_171 : decode b_Mo_shock 171 = .ok (.iconst 0, 1) := by decide +kernel
theorem d_Mo_shock_172 : decode b_Mo_shock 172 = .ok (.bastore, 1) := by decide +kernel
theorem d_Mo_shock_173 : decode b_Mo_shock 173 = .ok (.iinc 13 1, 3) := by decide +kernel
theorem d_Mo_shock_176 : decode b_Mo_shock 176 = .ok (.goto (-18), 3) := by decide +kernel
theorem d_Mo_shock_179 : decode b_Mo_shock 179 = .ok (.iconst 0, 1) := by decide +kernel
theorem d_Mo_shock_180 : decode b_Mo_shock 180 = .ok (.istore 13, 2) := by decide +kernel
theorem d_Mo_shock_182 : decode b_Mo_shock 182 = .ok (.iload 13, 2) := by decide +kernel
theorem d_Mo_shock_184 : decode b_Mo_shock 184 = .ok (.iload_n 3, 1) := by decide +kernel
theorem d_Mo_shock_185 : decode b_Mo_shock 185 = .ok (.if_icmp .ge 79, 3) := by decide +kernel
theorem d_Mo_shock_188 : decode b_Mo_shock 188 = .ok (.iconst 0, 1) := by decide +kernel
theorem d_Mo_shock_189 : decode b_Mo_shock 189 = .ok (.istore 14, 2) := by decide +kernel
theorem d_Mo_shock_191 : decode b_Mo_shock 191 = .ok (.iload 14, 2) := by decide +kernel
theorem d_Mo_shock_193 : decode b_Mo_shock 193 = .ok (.aload_n 0, 1) := by decide +kernel
theorem d_Mo_shock_194 : decode b_Mo_shock 194 = .ok (.getfield 102, 3) := by decide +kernel
theorem d_Mo_shock_197 : decode b_Mo_shock 197 = .ok (.if_icmp .ge 57, 3) := by decide +kernel
theorem d_Mo_shock_200 : decode b_Mo_shock 200 = .ok (.aload_n 0, 1) := by decide +kernel
theorem d_Mo_shock_201 : decode b_Mo_shock 201 = .ok (.getfield 19, 3) := by decide +kernel
theorem d_Mo_shock_204 : decode b_Mo_shock 204 = .ok (.iload 14, 2) := by decide +kernel
theorem d_Mo_shock_206 : decode b_Mo_shock 206 = .ok (.baload, 1) := by decide +kernel
theorem d_Mo_shock_207 : decode b_Mo_shock 207 = .ok (.ifCond .eq 41, 3) := by decide +kernel
theorem d_Mo_shock_210 : decode b_Mo_shock 210 = .ok (.aload_n 0, 1) := by decide +kernel
theorem d_Mo_shock_211 : decode b_Mo_shock 211 = .ok (.iload 14, 2) := by decide +kernel
theorem d_Mo_shock_213 : decode b_Mo_shock 213 = .ok (.iload_n 2, 1) := by decide +kernel
theorem d_Mo_shock_214 : decode b_Mo_shock 214 = .ok (.invokevirtual 154, 3) := by decide +kernel
theorem d_Mo_shock_217 : decode b_Mo_shock 217 = .ok (.aload_n 0, 1) := by decide +kernel
theorem d_Mo_shock_218 : decode b_Mo_shock 218 = .ok (.getfield 96, 3) := by decide +kernel
theorem d_Mo_shock_221 : decode b_Mo_shock 221 = .ok (.iload 14, 2) := by decide +kernel
theorem d_Mo_shock_223 : decode b_Mo_shock 223 = .ok (.aload_n 0, 1) := by decide +kernel
theorem d_Mo_shock_224 : decode b_Mo_shock 224 = .ok (.getfield 96, 3) := by decide +kernel
theorem d_Mo_shock_227 : decode b_Mo_shock 227 = .ok (.iload 14, 2) := by decide +kernel
theorem d_Mo_shock_229 : decode b_Mo_shock 229 = .ok (.baload, 1) := by decide +kernel
theorem d_Mo_shock_230 : decode b_Mo_shock 230 = .ok (.ifCond .ne 12, 3) := by decide +kernel
theorem d_Mo_shock_233 : decode b_Mo_shock 233 = .ok (.aload_n 0, 1) := by decide +kernel
theorem d_Mo_shock_234 : decode b_Mo_shock 234 = .ok (.getfield 145, 3) := by decide +kernel
theorem d_Mo_shock_237 : decode b_Mo_shock 237 = .ok (.iload 4, 2) := by decide +kernel
theorem d_Mo_shock_239 : decode b_Mo_shock 239 = .ok (.if_icmp .lt 7, 3) := by decide +kernel
theorem d_Mo_shock_242 : decode b_Mo_shock 242 = .ok (.iconst 1, 1) := by decide +kernel
theorem d_Mo_shock_243 : decode b_Mo_shock 243 = .ok (.goto 4, 3) := by decide +kernel
theorem d_Mo_shock_246 : decode b_Mo_shock 246 = .ok (.iconst 0, 1) := by decide +kernel
theorem d_Mo_shock_247 : decode b_Mo_shock 247 = .ok (.bastore, 1) := by decide +kernel
theorem d_Mo_shock_248 : decode b_Mo_shock 248 = .ok (.iinc 14 1, 3) := by decide +kernel
theorem d_Mo_shock_251 : decode b_Mo_shock 251 = .ok (.goto (-60), 3) := by decide +kernel
theorem d_Mo_shock_254 : decode b_Mo_shock 254 = .ok (.aload_n 0, 1) := by decide +kernel
theorem d_Mo_shock_255 : decode b_Mo_shock 255 = .ok (.invokevirtual 171, 3) := by decide +kernel
theorem d_Mo_shock_258 : decode b_Mo_shock 258 = .ok (.iinc 13 1, 3) := by decide +kernel
theorem d_Mo_shock_261 : decode b_Mo_shock 261 = .ok (.goto (-79), 3) := by decide +kernel
theorem d_Mo_shock_264 : decode b_Mo_shock 264 = .ok (.aload_n 0, 1) := by decide +kernel
theorem d_Mo_shock_265 : decode b_Mo_shock 265 = .ok (.iload 12, 2) := by decide +kernel
theorem d_Mo_shock_267 : decode b_Mo_shock 267 = .ok (.putfield 26, 3) := by decide +kernel
theorem d_Mo_shock_270 : decode b_Mo_shock 270 = .ok (.aload_n 0, 1) := by decide +kernel
theorem d_Mo_shock_271 : decode b_Mo_shock 271 = .ok (.lload 6, 2) := by decide +kernel
theorem d_Mo_shock_273 : decode b_Mo_shock 273 = .ok (.putfield 136, 3) := by decide +kernel
theorem d_Mo_shock_276 : decode b_Mo_shock 276 = .ok (.aload_n 0, 1) := by decide +kernel
theorem d_Mo_shock_277 : decode b_Mo_shock 277 = .ok (.lload 8, 2) := by decide +kernel
theorem d_Mo_shock_279 : decode b_Mo_shock 279 = .ok (.putfield 151, 3) := by decide +kernel
theorem d_Mo_shock_282 : decode b_Mo_shock 282 = .ok (.aload_n 0, 1) := by decide +kernel
theorem d_Mo_shock_283 : decode b_Mo_shock 283 = .ok (.lload 10, 2) := by decide +kernel
theorem d_Mo_shock_285 : decode b_Mo_shock 285 = .ok (.putfield 112, 3) := by decide +kernel
theorem d_Mo_shock_288 : decode b_Mo_shock 288 = .ok (.aload_n 0, 1) := by decide +kernel
theorem d_Mo_shock_289 : decode b_Mo_shock 289 = .ok (.aload_n 0, 1) := by decide +kernel
theorem d_Mo_shock_290 : decode b_Mo_shock 290 = .ok (.getfield 81, 3) := by decide +kernel
theorem d_Mo_shock_293 : decode b_Mo_shock 293 = .ok (.aload_n 0, 1) := by decide +kernel
theorem d_Mo_shock_294 : decode b_Mo_shock 294 = .ok (.getfield 33, 3) := by decide +kernel
theorem d_Mo_shock_297 : decode b_Mo_shock 297 = .ok (.invokevirtual 177, 3) := by decide +kernel
theorem d_Mo_shock_300 : decode b_Mo_shock 300 = .ok (.aload_n 0, 1) := by decide +kernel
theorem d_Mo_shock_301 : decode b_Mo_shock 301 = .ok (.aload_n 0, 1) := by decide +kernel
theorem d_Mo_shock_302 : decode b_Mo_shock 302 = .ok (.getfield 84, 3) := by decide +kernel
theorem d_Mo_shock_305 : decode b_Mo_shock 305 = .ok (.aload_n 0, 1) := by decide +kernel
theorem d_Mo_shock_306 : decode b_Mo_shock 306 = .ok (.getfield 36, 3) := by decide +kernel
theorem d_Mo_shock_309 : decode b_Mo_shock 309 = .ok (.invokevirtual 177, 3) := by decide +kernel
theorem d_Mo_shock_312 : decode b_Mo_shock 312 = .ok (.aload_n 0, 1) := by decide +kernel
theorem d_Mo_shock_313 : decode b_Mo_shock 313 = .ok (.aload_n 0, 1) := by decide +kernel
theorem d_Mo_shock_314 : decode b_Mo_shock 314 = .ok (.getfield 87, 3) := by decide +kernel
theorem d_Mo_shock_317 : decode b_Mo_shock 317 = .ok (.aload_n 0, 1) := by decide +kernel
theorem d_Mo_shock_318 : decode b_Mo_shock 318 = .ok (.getfield 39, 3) := by decide +kernel
theorem d_Mo_shock_321 : decode b_Mo_shock 321 = .ok (.invokevirtual 177, 3) := by decide +kernel
theorem d_Mo_shock_324 : decode b_Mo_shock 324 = .ok (.aload_n 0, 1) := by decide +kernel
theorem d_Mo_shock_325 : decode b_Mo_shock 325 = .ok (.aload_n 0, 1) := by decide +kernel
theorem d_Mo_shock_326 : decode b_Mo_shock 326 = .ok (.getfield 90, 3) := by decide +kernel
theorem d_Mo_shock_329 : decode b_Mo_shock 329 = .ok (.aload_n 0, 1) := by decide +kernel
theorem d_Mo_shock_330 : decode b_Mo_shock 330 = .ok (.getfield 42, 3) := by decide +kernel
theorem d_Mo_shock_333 : decode b_Mo_shock 333 = .ok (.invokevirtual 177, 3) := by decide +kernel
theorem d_Mo_shock_336 : decode b_Mo_shock 336 = .ok (.aload_n 0, 1) := by decide +kernel
theorem d_Mo_shock_337 : decode b_Mo_shock 337 = .ok (.aload_n 0, 1) := by decide +kernel
theorem d_Mo_shock_338 : decode b_Mo_shock 338 = .ok (.getfield 93, 3) := by decide +kernel
theorem d_Mo_shock_341 : decode b_Mo_shock 341 = .ok (.aload_n 0, 1) := by decide +kernel
theorem d_Mo_shock_342 : decode b_Mo_shock 342 = .ok (.getfield 45, 3) := by decide +kernel
theorem d_Mo_shock_345 : decode b_Mo_shock 345 = .ok (.invokevirtual 177, 3) := by decide +kernel
theorem d_Mo_shock_348 : decode b_Mo_shock 348 = .ok (.iconst 0, 1) := by decide +kernel
theorem d_Mo_shock_349 : decode b_Mo_shock 349 = .ok (.istore 13, 2) := by decide +kernel
theorem d_Mo_shock_351 : decode b_Mo_shock 351 = .ok (.iconst 0, 1) := by decide +kernel
theorem d_Mo_shock_352 : decode b_Mo_shock 352 = .ok (.istore 14, 2) := by decide +kernel
theorem d_Mo_shock_354 : decode b_Mo_shock 354 = .ok (.iload 14, 2) := by decide +kernel
theorem d_Mo_shock_356 : decode b_Mo_shock 356 = .ok (.aload_n 0, 1) := by decide +kernel
theorem d_Mo_shock_357 : decode b_Mo_shock 357 = .ok (.getfield 102, 3) := by decide +kernel
theorem d_Mo_shock_360 : decode b_Mo_shock 360 = .ok (.if_icmp .ge 66, 3) := by decide +kernel
theorem d_Mo_shock_363 : decode b_Mo_shock 363 = .ok (.aload_n 0, 1) := by decide +kernel
theorem d_Mo_shock_364 : decode b_Mo_shock 364 = .ok (.getfield 19, 3) := by decide +kernel
theorem d_Mo_shock_367 : decode b_Mo_shock 367 = .ok (.iload 14, 2) := by decide +kernel
theorem d_Mo_shock_369 : decode b_Mo_shock 369 = .ok (.baload, 1) := by decide +kernel
theorem d_Mo_shock_370 : decode b_Mo_shock 370 = .ok (.ifCond .eq 17, 3) := by decide +kernel
theorem d_Mo_shock_373 : decode b_Mo_shock 373 = .ok (.aload_n 0, 1) := by decide +kernel
theorem d_Mo_shock_374 : decode b_Mo_shock 374 = .ok (.getfield 96, 3) := by decide +kernel
theorem d_Mo_shock_377 : decode b_Mo_shock 377 = .ok (.iload 14, 2) := by decide +kernel
theorem d_Mo_shock_379 : decode b_Mo_shock 379 = .ok (.baload, 1) := by decide +kernel
theorem d_Mo_shock_380 : decode b_Mo_shock 380 = .ok (.ifCond .ne 7, 3) := by decide +kernel
theorem d_Mo_shock_383 : decode b_Mo_shock 383 = .ok (.iconst 1, 1) := by decide +kernel
theorem d_Mo_shock_384 : decode b_Mo_shock 384 = .ok (.goto 4, 3) := by decide +kernel
theorem d_Mo_shock_387 : decode b_Mo_shock 387 = .ok (.iconst 0, 1) := by decide +kernel
theorem d_Mo_shock_388 : decode b_Mo_shock 388 = .ok (.istore 15, 2) := by decide +kernel
theorem d_Mo_shock_390 : decode b_Mo_shock 390 = .ok (.iload 15, 2) := by decide +kernel
theorem d_Mo_shock_392 : decode b_Mo_shock 392 = .ok (.ifCond .eq 13, 3) := by decide +kernel
theorem d_Mo_shock_395 : decode b_Mo_shock 395 = .ok (.iload 13, 2) := by decide +kernel
theorem d_Mo_shock_397 : decode b_Mo_shock 397 = .ok (.iload 5, 2) := by decide +kernel
theorem d_Mo_shock_399 : decode b_Mo_shock 399 = .ok (.if_icmp .ne 6, 3) := by decide +kernel
theorem d_Mo_shock_402 : decode b_Mo_shock 402 = .ok (.iload 14, 2) := by decide +kernel
theorem d_Mo_shock_404 : decode b_Mo_shock 404 = .ok (.ireturn, 1) := by decide +kernel
theorem d_Mo_shock_405 : decode b_Mo_shock 405 = .ok (.iload 13, 2) := by decide +kernel
theorem d_Mo_shock_407 : decode b_Mo_shock 407 = .ok (.iload 15, 2) := by decide +kernel
theorem d_Mo_shock_409 : decode b_Mo_shock 409 = .ok (.ifCond .eq 7, 3) := by decide +kernel
theorem d_Mo_shock_412 : decode b_Mo_shock 412 = .ok (.iconst 1, 1) := by decide +kernel
theorem d_Mo_shock_413 : decode b_Mo_shock 413 = .ok (.goto 4, 3) := by decide +kernel
theorem d_Mo_shock_416 : decode b_Mo_shock 416 = .ok (.iconst 0, 1) := by decide +kernel
theorem d_Mo_shock_417 : decode b_Mo_shock 417 = .ok (.iadd, 1) := by decide +kernel
theorem d_Mo_shock_418 : decode b_Mo_shock 418 = .ok (.istore 13, 2) := by decide +kernel
theorem d_Mo_shock_420 : decode b_Mo_shock 420 = .ok (.iinc 14 1, 3) := by decide +kernel
theorem d_Mo_shock_423 : decode b_Mo_shock 423 = .ok (.goto (-69), 3) := by decide +kernel
theorem d_Mo_shock_426 : decode b_Mo_shock 426 = .ok (.iconst (-1), 1) := by decide +kernel
theorem d_Mo_shock_427 : decode b_Mo_shock 427 = .ok (.ireturn, 1) := by decide +kernel
