theorem dX12_init_0 : decode cX12_init 0 = .ok (.aload_n 0, 1) := by decide +kernel
theorem dX12_init_1 : decode cX12_init 1 = .ok (.invokespecial 1, 3) := by decide +kernel
theorem dX12_init_4 : decode cX12_init 4 = .ok (.aload_n 0, 1) := by decide +kernel
theorem dX12_init_5 : decode cX12_init 5 = .ok (.bipush 6, 2) := by decide +kernel
theorem dX12_init_7 : decode cX12_init 7 = .ok (.newarray .int, 2) := by decide +kernel
theorem dX12_init_9 : decode cX12_init 9 = .ok (.putfield 7, 3) := by decide +kernel
theorem dX12_init_12 : decode cX12_init 12 = .ok (.aload_n 0, 1) := by decide +kernel
theorem dX12_init_13 : decode cX12_init 13 = .ok (.bipush 6, 2) := by decide +kernel
theorem dX12_init_15 : decode cX12_init 15 = .ok (.newarray .int, 2) := by decide +kernel
theorem dX12_init_17 : decode cX12_init 17 = .ok (.putfield 13, 3) := by decide +kernel
theorem dX12_init_20 : decode cX12_init 20 = .ok (.aload_n 0, 1) := by decide +kernel
theorem dX12_init_21 : decode cX12_init 21 = .ok (.bipush 8, 2) := by decide +kernel
theorem dX12_init_23 : decode cX12_init 23 = .ok (.newarray .int, 2) := by decide +kernel
theorem dX12_init_25 : decode cX12_init 25 = .ok (.putfield 16, 3) := by decide +kernel
theorem dX12_init_28 : decode cX12_init 28 = .ok (.aload_n 0, 1) := by decide +kernel
theorem dX12_init_29 : decode cX12_init 29 = .ok (.bipush 8, 2) := by decide +kernel
theorem dX12_init_31 : decode cX12_init 31 = .ok (.newarray .int, 2) := by decide +kernel
theorem dX12_init_33 : decode cX12_init 33 = .ok (.putfield 19, 3) := by decide +kernel
theorem dX12_init_36 : decode cX12_init 36 = .ok (.aload_n 0, 1) := by decide +kernel
theorem dX12_init_37 : decode cX12_init 37 = .ok (.bipush 8, 2) := by decide +kernel
theorem dX12_init_39 : decode cX12_init 39 = .ok (.newarray .int, 2) := by decide +kernel
theorem dX12_init_41 : decode cX12_init 41 = .ok (.putfield 22, 3) := by decide +kernel
theorem dX12_init_44 : decode cX12_init 44 = .ok (.aload_n 0, 1) := by decide +kernel
theorem dX12_init_45 : decode cX12_init 45 = .ok (.bipush 8, 2) := by decide +kernel
theorem dX12_init_47 : decode cX12_init 47 = .ok (.newarray .int, 2) := by decide +kernel
theorem dX12_init_49 : decode cX12_init 49 = .ok (.putfield 25, 3) := by decide +kernel
theorem dX12_init_52 : decode cX12_init 52 = .ok (.aload_n 0, 1) := by decide +kernel
theorem dX12_init_53 : decode cX12_init 53 = .ok (.bipush 30, 2) := by decide +kernel
theorem dX12_init_55 : decode cX12_init 55 = .ok (.newarray .int, 2) := by decide +kernel
theorem dX12_init_57 : decode cX12_init 57 = .ok (.putfield 28, 3) := by decide +kernel
theorem dX12_init_60 : decode cX12_init 60 = .ok (.aload_n 0, 1) := by decide +kernel
theorem dX12_init_61 : decode cX12_init 61 = .ok (.iconst 4, 1) := by decide +kernel
theorem dX12_init_62 : decode cX12_init 62 = .ok (.newarray .int, 2) := by decide +kernel
theorem dX12_init_64 : decode cX12_init 64 = .ok (.putfield 31, 3) := by decide +kernel
theorem dX12_init_67 : decode cX12_init 67 = .ok (.aload_n 0, 1) := by decide +kernel
theorem dX12_init_68 : decode cX12_init 68 = .ok (.bipush 6, 2) := by decide +kernel
theorem dX12_init_70 : decode cX12_init 70 = .ok (.newarray .int, 2) := by decide +kernel
theorem dX12_init_72 : decode cX12_init 72 = .ok (.putfield 34, 3) := by decide +kernel
theorem dX12_init_75 : decode cX12_init 75 = .ok (.aload_n 0, 1) := by decide +kernel
theorem dX12_init_76 : decode cX12_init 76 = .ok (.bipush 6, 2) := by decide +kernel
theorem dX12_init_78 : decode cX12_init 78 = .ok (.newarray .int, 2) := by decide +kernel
theorem dX12_init_80 : decode cX12_init 80 = .ok (.putfield 37, 3) := by decide +kernel
theorem dX12_init_83 : decode cX12_init 83 = .ok (.aload_n 0, 1) := by decide +kernel
theorem dX12_init_84 : decode cX12_init 84 = .ok (.bipush 6, 2) := by decide +kernel
theorem dX12_init_86 : decode cX12_init 86 = .ok (.newarray .int, 2) := by decide +kernel
theorem dX12_init_88 : decode cX12_init 88 = .ok (.putfield 40, 3) := by decide +kernel
theorem dX12_init_91 : decode cX12_init 91 = .ok (.aload_n 0, 1) := by decide +kernel
theorem dX12_init_92 : decode cX12_init 92 = .ok (.bipush 60, 2) := by decide +kernel
theorem dX12_init_94 : decode cX12_init 94 = .ok (.newarray .int, 2) := by decide +kernel
theorem dX12_init_96 : decode cX12_init 96 = .ok (.putfield 43, 3) := by decide +kernel
theorem dX12_init_99 : decode cX12_init 99 = .ok (.aload_n 0, 1) := by decide +kernel
theorem dX12_init_100 : decode cX12_init 100 = .ok (.bipush 8, 2) := by decide +kernel
theorem dX12_init_102 : decode cX12_init 102 = .ok (.newarray .int, 2) := by decide +kernel
theorem dX12_init_104 : decode cX12_init 104 = .ok (.putfield 46, 3) := by decide +kernel
theorem dX12_init_107 : decode cX12_init 107 = .ok (.aload_n 0, 1) := by decide +kernel
theorem dX12_init_108 : decode cX12_init 108 = .ok (.bipush 8, 2) := by decide +kernel
theorem dX12_init_110 : decode cX12_init 110 = .ok (.newarray .int, 2) := by decide +kernel
theorem dX12_init_112 : decode cX12_init 112 = .ok (.putfield 49, 3) := by decide +kernel
theorem dX12_init_115 : decode cX12_init 115 = .ok (.aload_n 0, 1) := by decide +kernel
theorem dX12_init_116 : decode cX12_init 116 = .ok (.bipush 8, 2) := by decide +kernel
theorem dX12_init_118 : decode cX12_init 118 = .ok (.newarray .int, 2) := by decide +kernel
theorem dX12_init_120 : decode cX12_init 120 = .ok (.putfield 52, 3) := by decide +kernel
theorem dX12_init_123 : decode cX12_init 123 = .ok (.aload_n 0, 1) := by decide +kernel
theorem dX12_init_124 : decode cX12_init 124 = .ok (.bipush 8, 2) := by decide +kernel
theorem dX12_init_126 : decode cX12_init 126 = .ok (.newarray .int, 2) := by decide +kernel
theorem dX12_init_128 : decode cX12_init 128 = .ok (.putfield 55, 3) := by decide +kernel
theorem dX12_init_131 : decode cX12_init 131 = .ok (.aload_n 0, 1) := by decide +kernel
theorem dX12_init_132 : decode cX12_init 132 = .ok (.sipush 256, 3) := by decide +kernel
theorem dX12_init_135 : decode cX12_init 135 = .ok (.newarray .int, 2) := by decide +kernel
theorem dX12_init_137 : decode cX12_init 137 = .ok (.putfield 58, 3) := by decide +kernel
theorem dX12_init_140 : decode cX12_init 140 = .ok (.aload_n 0, 1) := by decide +kernel
theorem dX12_init_141 : decode cX12_init 141 = .ok (.bipush 8, 2) := by decide +kernel
theorem dX12_init_143 : decode cX12_init 143 = .ok (.newarray .int, 2) := by decide +kernel
theorem dX12_init_145 : decode cX12_init 145 = .ok (.putfield 61, 3) := by decide +kernel
theorem dX12_init_148 : decode cX12_init 148 = .ok (.aload_n 0, 1) := by decide +kernel
theorem dX12_init_149 : decode cX12_init 149 = .ok (.sipush 300, 3) := by decide +kernel
theorem dX12_init_152 : decode cX12_init 152 = .ok (.newarray .int, 2) := by decide +kernel
theorem dX12_init_154 : decode cX12_init 154 = .ok (.putfield 64, 3) := by decide +kernel
theorem dX12_init_157 : decode cX12_init 157 = .ok (.aload_n 0, 1) := by decide +kernel
theorem dX12_init_158 : decode cX12_init 158 = .ok (.iconst 2, 1) := by decide +kernel
theorem dX12_init_159 : decode cX12_init 159 = .ok (.newarray .boolean, 2) := by decide +kernel
theorem dX12_init_161 : decode cX12_init 161 = .ok (.putfield 67, 3) := by decide +kernel
theorem dX12_init_164 : decode cX12_init 164 = .ok (.aload_n 0, 1) := by decide +kernel
theorem dX12_init_165 : decode cX12_init 165 = .ok (.bipush 20, 2) := by decide +kernel
theorem dX12_init_167 : decode cX12_init 167 = .ok (.putfield 71, 3) := by decide +kernel
theorem dX12_init_170 : decode cX12_init 170 = .ok (.aload_n 0, 1) := by decide +kernel
theorem dX12_init_171 : decode cX12_init 171 = .ok (.bipush 20, 2) := by decide +kernel
theorem dX12_init_173 : decode cX12_init 173 = .ok (.putfield 75, 3) := by decide +kernel
theorem dX12_init_176 : decode cX12_init 176 = .ok (.aload_n 0, 1) := by decide +kernel
theorem dX12_init_177 : decode cX12_init 177 = .ok (.iconst 2, 1) := by decide +kernel
theorem dX12_init_178 : decode cX12_init 178 = .ok (.putfield 78, 3) := by decide +kernel
theorem dX12_init_181 : decode cX12_init 181 = .ok (.aload_n 0, 1) := by decide +kernel
theorem dX12_init_182 : decode cX12_init 182 = .ok (.getfield 28, 3) := by decide +kernel
theorem dX12_init_185 : decode cX12_init 185 = .ok (.iconst 1, 1) := by decide +kernel
theorem dX12_init_186 : decode cX12_init 186 = .ok (.iconst 5, 1) := by decide +kernel
theorem dX12_init_187 : decode cX12_init 187 = .ok (.iastore, 1) := by decide +kernel
theorem dX12_init_188 : decode cX12_init 188 = .ok (.iconst 0, 1) := by decide +kernel
theorem dX12_init_189 : decode cX12_init 189 = .ok (.istore_n 1, 1) := by decide +kernel
theorem dX12_init_190 : decode cX12_init 190 = .ok (.iload_n 1, 1) := by decide +kernel
theorem dX12_init_191 : decode cX12_init 191 = .ok (.iconst 4, 1) := by decide +kernel
theorem dX12_init_192 : decode cX12_init 192 = .ok (.if_icmp .ge 17, 3) := by decide +kernel
theorem dX12_init_195 : decode cX12_init 195 = .ok (.aload_n 0, 1) := by decide +kernel
theorem dX12_init_196 : decode cX12_init 196 = .ok (.getfield 31, 3) := by decide +kernel
theorem dX12_init_199 : decode cX12_init 199 = .ok (.iload_n 1, 1) := by decide +kernel
theorem dX12_init_200 : decode cX12_init 200 = .ok (.bipush 20, 2) := by decide +kernel
theorem dX12_init_202 : decode cX12_init 202 = .ok (.iastore, 1) := by decide +kernel
theorem dX12_init_203 : decode cX12_init 203 = .ok (.iinc 1 1, 3) := by decide +kernel
theorem dX12_init_206 : decode cX12_init 206 = .ok (.goto (-16), 3) := by decide +kernel
theorem dX12_init_209 : decode cX12_init 209 = .ok (.aload_n 0, 1) := by decide +kernel
theorem dX12_init_210 : decode cX12_init 210 = .ok (.iconst 3, 1) := by decide +kernel
theorem dX12_init_211 : decode cX12_init 211 = .ok (.invokevirtual 81, 3) := by decide +kernel
theorem dX12_init_214 : decode cX12_init 214 = .ok (.return_, 1) := by decide +kernel
theorem dX12_in_0 : decode cX12_in 0 = .ok (.lload_n 0, 1) := by decide +kernel
theorem dX12_in_1 : decode cX12_in 1 = .ok (.lload_n 2, 1) := by decide +kernel
theorem dX12_in_2 : decode cX12_in 2 = .ok (.lcmp, 1) := by decide +kernel
theorem dX12_in_3 : decode cX12_in 3 = .ok (.ifCond .lt 14, 3) := by decide +kernel
theorem dX12_in_6 : decode cX12_in 6 = .ok (.lload_n 0, 1) := by decide +kernel
theorem dX12_in_7 : decode cX12_in 7 = .ok (.lload 4, 2) := by decide +kernel
theorem dX12_in_9 : decode cX12_in 9 = .ok (.lcmp, 1) := by decide +kernel
theorem dX12_in_10 : decode cX12_in 10 = .ok (.ifCond .gt 7, 3) := by decide +kernel
theorem dX12_in_13 : decode cX12_in 13 = .ok (.iconst 1, 1) := by decide +kernel
theorem dX12_in_14 : decode cX12_in 14 = .ok (.goto 4, 3) := by decide +kernel
theorem dX12_in_17 : decode cX12_in 17 = .ok (.iconst 0, 1) := by decide +kernel
theorem dX12_in_18 : decode cX12_in 18 = .ok (.ireturn, 1) := by decide +kernel
theorem dX12_ones_0 : decode cX12_ones 0 = .ok (.iconst 0, 1) := by decide +kernel
theorem dX12_ones_1 : decode cX12_ones 1 = .ok (.istore_n 1, 1) := by decide +kernel
theorem dX12_ones_2 : decode cX12_ones 2 = .ok (.iload_n 0, 1) := by decide +kernel
theorem dX12_ones_3 : decode cX12_ones 3 = .ok (.istore_n 2, 1) := by decide +kernel
theorem dX12_ones_4 : decode cX12_ones 4 = .ok (.iload_n 2, 1) := by decide +kernel
theorem dX12_ones_5 : decode cX12_ones 5 = .ok (.ifCond .eq 15, 3) := by decide +kernel
theorem dX12_ones_8 : decode cX12_ones 8 = .ok (.iinc 1 1, 3) := by decide +kernel
theorem dX12_ones_11 : decode cX12_ones 11 = .ok (.iload_n 2, 1) := by decide +kernel
theorem dX12_ones_12 : decode cX12_ones 12 = .ok (.iload_n 2, 1) := by decide +kernel
theorem dX12_ones_13 : decode cX12_ones 13 = .ok (.iconst 1, 1) := by decide +kernel
theorem dX12_ones_14 : decode cX12_ones 14 = .ok (.isub, 1) := by decide +kernel
theorem dX12_ones_15 : decode cX12_ones 15 = .ok (.iand, 1) := by decide +kernel
theorem dX12_ones_16 : decode cX12_ones 16 = .ok (.istore_n 2, 1) := by decide +kernel
theorem dX12_ones_17 : decode cX12_ones 17 = .ok (.goto (-13), 3) := by decide +kernel
theorem dX12_ones_20 : decode cX12_ones 20 = .ok (.iload_n 1, 1) := by decide +kernel
theorem dX12_ones_21 : decode cX12_ones 21 = .ok (.ireturn, 1) := by decide +kernel
theorem dX12_begin_0 : decode cX12_begin 0 = .ok (.aload_n 0, 1) := by decide +kernel
theorem dX12_begin_1 : decode cX12_begin 1 = .ok (.iload_n 1, 1) := by decide +kernel
theorem dX12_begin_2 : decode cX12_begin 2 = .ok (.putfield 85, 3) := by decide +kernel
theorem dX12_begin_5 : decode cX12_begin 5 = .ok (.aload_n 0, 1) := by decide +kernel
theorem dX12_begin_6 : decode cX12_begin 6 = .ok (.iconst 0, 1) := by decide +kernel
theorem dX12_begin_7 : decode cX12_begin 7 = .ok (.putfield 88, 3) := by decide +kernel
theorem dX12_begin_10 : decode cX12_begin 10 = .ok (.aload_n 0, 1) := by decide +kernel
theorem dX12_begin_11 : decode cX12_begin 11 = .ok (.iconst 0, 1) := by decide +kernel
theorem dX12_begin_12 : decode cX12_begin 12 = .ok (.putfield 91, 3) := by decide +kernel
theorem dX12_begin_15 : decode cX12_begin 15 = .ok (.aload_n 0, 1) := by decide +kernel
theorem dX12_begin_16 : decode cX12_begin 16 = .ok (.iconst 0, 1) := by decide +kernel
theorem dX12_begin_17 : decode cX12_begin 17 = .ok (.putfield 94, 3) := by decide +kernel
theorem dX12_begin_20 : decode cX12_begin 20 = .ok (.iconst 0, 1) := by decide +kernel
theorem dX12_begin_21 : decode cX12_begin 21 = .ok (.istore_n 2, 1) := by decide +kernel
theorem dX12_begin_22 : decode cX12_begin 22 = .ok (.iload_n 2, 1) := by decide +kernel
theorem dX12_begin_23 : decode cX12_begin 23 = .ok (.bipush 6, 2) := by decide +kernel
theorem dX12_begin_25 : decode cX12_begin 25 = .ok (.if_icmp .ge 24, 3) := by decide +kernel
theorem dX12_begin_28 : decode cX12_begin 28 = .ok (.aload_n 0, 1) := by decide +kernel
theorem dX12_begin_29 : decode cX12_begin 29 = .ok (.getfield 7, 3) := by decide +kernel
theorem dX12_begin_32 : decode cX12_begin 32 = .ok (.iload_n 2, 1) := by decide +kernel
theorem dX12_begin_33 : decode cX12_begin 33 = .ok (.iload_n 2, 1) := by decide +kernel
theorem dX12_begin_34 : decode cX12_begin 34 = .ok (.iastore, 1) := by decide +kernel
theorem dX12_begin_35 : decode cX12_begin 35 = .ok (.aload_n 0, 1) := by decide +kernel
theorem dX12_begin_36 : decode cX12_begin 36 = .ok (.getfield 13, 3) := by decide +kernel
theorem dX12_begin_39 : decode cX12_begin 39 = .ok (.iload_n 2, 1) := by decide +kernel
theorem dX12_begin_40 : decode cX12_begin 40 = .ok (.bipush 8, 2) := by decide +kernel
theorem dX12_begin_42 : decode cX12_begin 42 = .ok (.iastore, 1) := by decide +kernel
theorem dX12_begin_43 : decode cX12_begin 43 = .ok (.iinc 2 1, 3) := by decide +kernel
theorem dX12_begin_46 : decode cX12_begin 46 = .ok (.goto (-24), 3) := by decide +kernel
theorem dX12_begin_49 : decode cX12_begin 49 = .ok (.return_, 1) := by decide +kernel
theorem dX12_isCellar_0 : decode cX12_isCellar 0 = .ok (.iload_n 1, 1) := by decide +kernel
theorem dX12_isCellar_1 : decode cX12_isCellar 1 = .ok (.i2l, 1) := by decide +kernel
theorem dX12_isCellar_2 : decode cX12_isCellar 2 = .ok (.lconst 0, 1) := by decide +kernel
theorem dX12_isCellar_3 : decode cX12_isCellar 3 = .ok (.aload_n 0, 1) := by decide +kernel
theorem dX12_isCellar_4 : decode cX12_isCellar 4 = .ok (.getfield 85, 3) := by decide +kernel
theorem dX12_isCellar_7 : decode cX12_isCellar 7 = .ok (.iconst 1, 1) := by decide +kernel
theorem dX12_isCellar_8 : decode cX12_isCellar 8 = .ok (.isub, 1) := by decide +kernel
theorem dX12_isCellar_9 : decode cX12_isCellar 9 = .ok (.i2l, 1) := by decide +kernel
theorem dX12_isCellar_10 : decode cX12_isCellar 10 = .ok (.invokestatic 97, 3) := by decide +kernel
theorem dX12_isCellar_13 : decode cX12_isCellar 13 = .ok (.ireturn, 1) := by decide +kernel
theorem dX12_isNumber_0 : decode cX12_isNumber 0 = .ok (.iload_n 0, 1) := by decide +kernel
theorem dX12_isNumber_1 : decode cX12_isNumber 1 = .ok (.i2l, 1) := by decide +kernel
theorem dX12_isNumber_2 : decode cX12_isNumber 2 = .ok (.lconst 0, 1) := by decide +kernel
theorem dX12_isNumber_3 : decode cX12_isNumber 3 = .ok (.ldc2_w 101, 3) := by decide +kernel
theorem dX12_isNumber_6 : decode cX12_isNumber 6 = .ok (.invokestatic 97, 3) := by decide +kernel
theorem dX12_isNumber_9 : decode cX12_isNumber 9 = .ok (.ireturn, 1) := by decide +kernel
theorem dX12_isBarrel_0 : decode cX12_isBarrel 0 = .ok (.iload_n 1, 1) := by decide +kernel
theorem dX12_isBarrel_1 : decode cX12_isBarrel 1 = .ok (.invokestatic 103, 3) := by decide +kernel
theorem dX12_isBarrel_4 : decode cX12_isBarrel 4 = .ok (.ifCond .eq 19, 3) := by decide +kernel
theorem dX12_isBarrel_7 : decode cX12_isBarrel 7 = .ok (.aload_n 0, 1) := by decide +kernel
theorem dX12_isBarrel_8 : decode cX12_isBarrel 8 = .ok (.getfield 91, 3) := by decide +kernel
theorem dX12_isBarrel_11 : decode cX12_isBarrel 11 = .ok (.iload_n 1, 1) := by decide +kernel
theorem dX12_isBarrel_12 : decode cX12_isBarrel 12 = .ok (.ishr, 1) := by decide +kernel
theorem dX12_isBarrel_13 : decode cX12_isBarrel 13 = .ok (.iconst 1, 1) := by decide +kernel
theorem dX12_isBarrel_14 : decode cX12_isBarrel 14 = .ok (.iand, 1) := by decide +kernel
theorem dX12_isBarrel_15 : decode cX12_isBarrel 15 = .ok (.iconst 1, 1) := by decide +kernel
theorem dX12_isBarrel_16 : decode cX12_isBarrel 16 = .ok (.if_icmp .ne 7, 3) := by decide +kernel
theorem dX12_isBarrel_19 : decode cX12_isBarrel 19 = .ok (.iconst 1, 1) := by decide +kernel
theorem dX12_isBarrel_20 : decode cX12_isBarrel 20 = .ok (.goto 4, 3) := by decide +kernel
theorem dX12_isBarrel_23 : decode cX12_isBarrel 23 = .ok (.iconst 0, 1) := by decide +kernel
theorem dX12_isBarrel_24 : decode cX12_isBarrel 24 = .ok (.ireturn, 1) := by decide +kernel
theorem dX12_liesIn_0 : decode cX12_liesIn 0 = .ok (.iconst 0, 1) := by decide +kernel
theorem dX12_liesIn_1 : decode cX12_liesIn 1 = .ok (.istore_n 2, 1) := by decide +kernel
theorem dX12_liesIn_2 : decode cX12_liesIn 2 = .ok (.iconst 0, 1) := by decide +kernel
theorem dX12_liesIn_3 : decode cX12_liesIn 3 = .ok (.istore_n 3, 1) := by decide +kernel
theorem dX12_liesIn_4 : decode cX12_liesIn 4 = .ok (.iload_n 3, 1) := by decide +kernel
theorem dX12_liesIn_5 : decode cX12_liesIn 5 = .ok (.bipush 8, 2) := by decide +kernel
theorem dX12_liesIn_7 : decode cX12_liesIn 7 = .ok (.if_icmp .ge 35, 3) := by decide +kernel
theorem dX12_liesIn_10 : decode cX12_liesIn 10 = .ok (.iload_n 2, 1) := by decide +kernel
theorem dX12_liesIn_11 : decode cX12_liesIn 11 = .ok (.aload_n 0, 1) := by decide +kernel
theorem dX12_liesIn_12 : decode cX12_liesIn 12 = .ok (.iload_n 3, 1) := by decide +kernel
theorem dX12_liesIn_13 : decode cX12_liesIn 13 = .ok (.invokevirtual 107, 3) := by decide +kernel
theorem dX12_liesIn_16 : decode cX12_liesIn 16 = .ok (.ifCond .eq 17, 3) := by decide +kernel
theorem dX12_liesIn_19 : decode cX12_liesIn 19 = .ok (.aload_n 0, 1) := by decide +kernel
theorem dX12_liesIn_20 : decode cX12_liesIn 20 = .ok (.getfield 16, 3) := by decide +kernel
theorem dX12_liesIn_23 : decode cX12_liesIn 23 = .ok (.iload_n 3, 1) := by decide +kernel
theorem dX12_liesIn_24 : decode cX12_liesIn 24 = .ok (.iaload, 1) := by decide +kernel
theorem dX12_liesIn_25 : decode cX12_liesIn 25 = .ok (.iload_n 1, 1) := by decide +kernel
theorem dX12_liesIn_26 : decode cX12_liesIn 26 = .ok (.if_icmp .ne 7, 3) := by decide +kernel
theorem dX12_liesIn_29 : decode cX12_liesIn 29 = .ok (.iconst 1, 1) := by decide +kernel
theorem dX12_liesIn_30 : decode cX12_liesIn 30 = .ok (.goto 4, 3) := by decide +kernel
theorem dX12_liesIn_33 : decode cX12_liesIn 33 = .ok (.iconst 0, 1) := by decide +kernel
theorem dX12_liesIn_34 : decode cX12_liesIn 34 = .ok (.iadd, 1) := by decide +kernel
theorem dX12_liesIn_35 : decode cX12_liesIn 35 = .ok (.istore_n 2, 1) := by decide +kernel
theorem dX12_liesIn_36 : decode cX12_liesIn 36 = .ok (.iinc 3 1, 3) := by decide +kernel
theorem dX12_liesIn_39 : decode cX12_liesIn 39 = .ok (.goto (-35), 3) := by decide +kernel
theorem dX12_liesIn_42 : decode cX12_liesIn 42 = .ok (.iload_n 2, 1) := by decide +kernel
theorem dX12_liesIn_43 : decode cX12_liesIn 43 = .ok (.ireturn, 1) := by decide +kernel
theorem dX12_cellars_0 : decode cX12_cellars 0 = .ok (.iload_n 1, 1) := by decide +kernel
theorem dX12_cellars_1 : decode cX12_cellars 1 = .ok (.i2l, 1) := by decide +kernel
theorem dX12_cellars_2 : decode cX12_cellars 2 = .ok (.lconst 1, 1) := by decide +kernel
theorem dX12_cellars_3 : decode cX12_cellars 3 = .ok (.ldc2_w 110, 3) := by decide +kernel
theorem dX12_cellars_6 : decode cX12_cellars 6 = .ok (.invokestatic 97, 3) := by decide +kernel
theorem dX12_cellars_9 : decode cX12_cellars 9 = .ok (.ifCond .ne 6, 3) := by decide +kernel
theorem dX12_cellars_12 : decode cX12_cellars 12 = .ok (.bipush (-2), 2) := by decide +kernel
theorem dX12_cellars_14 : decode cX12_cellars 14 = .ok (.ireturn, 1) := by decide +kernel
theorem dX12_cellars_15 : decode cX12_cellars 15 = .ok (.aload_n 0, 1) := by decide +kernel
theorem dX12_cellars_16 : decode cX12_cellars 16 = .ok (.getfield 85, 3) := by decide +kernel
theorem dX12_cellars_19 : decode cX12_cellars 19 = .ok (.istore_n 2, 1) := by decide +kernel
theorem dX12_cellars_20 : decode cX12_cellars 20 = .ok (.aload_n 0, 1) := by decide +kernel
theorem dX12_cellars_21 : decode cX12_cellars 21 = .ok (.iload_n 1, 1) := by decide +kernel
theorem dX12_cellars_22 : decode cX12_cellars 22 = .ok (.invokevirtual 81, 3) := by decide +kernel
theorem dX12_cellars_25 : decode cX12_cellars 25 = .ok (.iload_n 2, 1) := by decide +kernel
theorem dX12_cellars_26 : decode cX12_cellars 26 = .ok (.ireturn, 1) := by decide +kernel
theorem dX12_cellar_0 : decode cX12_cellar 0 = .ok (.aload_n 0, 1) := by decide +kernel
theorem dX12_cellar_1 : decode cX12_cellar 1 = .ok (.iload_n 1, 1) := by decide +kernel
theorem dX12_cellar_2 : decode cX12_cellar 2 = .ok (.invokevirtual 112, 3) := by decide +kernel
theorem dX12_cellar_5 : decode cX12_cellar 5 = .ok (.ifCond .ne 5, 3) := by decide +kernel
theorem dX12_cellar_8 : decode cX12_cellar 8 = .ok (.iconst (-1), 1) := by decide +kernel
theorem dX12_cellar_9 : decode cX12_cellar 9 = .ok (.ireturn, 1) := by decide +kernel
theorem dX12_cellar_10 : decode cX12_cellar 10 = .ok (.iload_n 2, 1) := by decide +kernel
theorem dX12_cellar_11 : decode cX12_cellar 11 = .ok (.i2l, 1) := by decide +kernel
theorem dX12_cellar_12 : decode cX12_cellar 12 = .ok (.lconst 0, 1) := by decide +kernel
theorem dX12_cellar_13 : decode cX12_cellar 13 = .ok (.lconst 1, 1) := by decide +kernel
theorem dX12_cellar_14 : decode cX12_cellar 14 = .ok (.invokestatic 97, 3) := by decide +kernel
theorem dX12_cellar_17 : decode cX12_cellar 17 = .ok (.ifCond .eq 16, 3) := by decide +kernel
theorem dX12_cellar_20 : decode cX12_cellar 20 = .ok (.iload_n 3, 1) := by decide +kernel
theorem dX12_cellar_21 : decode cX12_cellar 21 = .ok (.i2l, 1) := by decide +kernel
theorem dX12_cellar_22 : decode cX12_cellar 22 = .ok (.iload_n 2, 1) := by decide +kernel
theorem dX12_cellar_23 : decode cX12_cellar 23 = .ok (.i2l, 1) := by decide +kernel
theorem dX12_cellar_24 : decode cX12_cellar 24 = .ok (.ldc2_w 115, 3) := by decide +kernel
theorem dX12_cellar_27 : decode cX12_cellar 27 = .ok (.invokestatic 97, 3) := by decide +kernel
theorem dX12_cellar_30 : decode cX12_cellar 30 = .ok (.ifCond .ne 6, 3) := by decide +kernel
theorem dX12_cellar_33 : decode cX12_cellar 33 = .ok (.bipush (-2), 2) := by decide +kernel
theorem dX12_cellar_35 : decode cX12_cellar 35 = .ok (.ireturn, 1) := by decide +kernel
theorem dX12_cellar_36 : decode cX12_cellar 36 = .ok (.iload_n 2, 1) := by decide +kernel
theorem dX12_cellar_37 : decode cX12_cellar 37 = .ok (.iconst 1, 1) := by decide +kernel
theorem dX12_cellar_38 : decode cX12_cellar 38 = .ok (.if_icmp .ne 15, 3) := by decide +kernel
theorem dX12_cellar_41 : decode cX12_cellar 41 = .ok (.aload_n 0, 1) := by decide +kernel
theorem dX12_cellar_42 : decode cX12_cellar 42 = .ok (.iload_n 1, 1) := by decide +kernel
theorem dX12_cellar_43 : decode cX12_cellar 43 = .ok (.invokevirtual 117, 3) := by decide +kernel
theorem dX12_cellar_46 : decode cX12_cellar 46 = .ok (.iload_n 3, 1) := by decide +kernel
theorem dX12_cellar_47 : decode cX12_cellar 47 = .ok (.if_icmp .le 6, 3) := by decide +kernel
theorem dX12_cellar_50 : decode cX12_cellar 50 = .ok (.bipush (-3), 2) := by decide +kernel
theorem dX12_cellar_52 : decode cX12_cellar 52 = .ok (.ireturn, 1) := by decide +kernel
theorem dX12_cellar_53 : decode cX12_cellar 53 = .ok (.iload_n 2, 1) := by decide +kernel
theorem dX12_cellar_54 : decode cX12_cellar 54 = .ok (.ifCond .ne 12, 3) := by decide +kernel
theorem dX12_cellar_57 : decode cX12_cellar 57 = .ok (.aload_n 0, 1) := by decide +kernel
theorem dX12_cellar_58 : decode cX12_cellar 58 = .ok (.getfield 7, 3) := by decide +kernel
theorem dX12_cellar_61 : decode cX12_cellar 61 = .ok (.iload_n 1, 1) := by decide +kernel
theorem dX12_cellar_62 : decode cX12_cellar 62 = .ok (.iaload, 1) := by decide +kernel
theorem dX12_cellar_63 : decode cX12_cellar 63 = .ok (.goto 9, 3) := by decide +kernel
theorem dX12_cellar_66 : decode cX12_cellar 66 = .ok (.aload_n 0, 1) := by decide +kernel
theorem dX12_cellar_67 : decode cX12_cellar 67 = .ok (.getfield 13, 3) := by decide +kernel
theorem dX12_cellar_70 : decode cX12_cellar 70 = .ok (.iload_n 1, 1) := by decide +kernel
theorem dX12_cellar_71 : decode cX12_cellar 71 = .ok (.iaload, 1) := by decide +kernel
theorem dX12_cellar_72 : decode cX12_cellar 72 = .ok (.istore 4, 2) := by decide +kernel
theorem dX12_cellar_74 : decode cX12_cellar 74 = .ok (.aload_n 0, 1) := by decide +kernel
theorem dX12_cellar_75 : decode cX12_cellar 75 = .ok (.getfield 7, 3) := by decide +kernel
theorem dX12_cellar_78 : decode cX12_cellar 78 = .ok (.iload_n 1, 1) := by decide +kernel
theorem dX12_cellar_79 : decode cX12_cellar 79 = .ok (.iload_n 2, 1) := by decide +kernel
theorem dX12_cellar_80 : decode cX12_cellar 80 = .ok (.ifCond .ne 7, 3) := by decide +kernel
theorem dX12_cellar_83 : decode cX12_cellar 83 = .ok (.iload_n 3, 1) := by decide +kernel
theorem dX12_cellar_84 : decode cX12_cellar 84 = .ok (.goto 9, 3) := by decide +kernel
theorem dX12_cellar_87 : decode cX12_cellar 87 = .ok (.aload_n 0, 1) := by decide +kernel
theorem dX12_cellar_88 : decode cX12_cellar 88 = .ok (.getfield 7, 3) := by decide +kernel
theorem dX12_cellar_91 : decode cX12_cellar 91 = .ok (.iload_n 1, 1) := by decide +kernel
theorem dX12_cellar_92 : decode cX12_cellar 92 = .ok (.iaload, 1) := by decide +kernel
theorem dX12_cellar_93 : decode cX12_cellar 93 = .ok (.iastore, 1) := by decide +kernel
theorem dX12_cellar_94 : decode cX12_cellar 94 = .ok (.aload_n 0, 1) := by decide +kernel
theorem dX12_cellar_95 : decode cX12_cellar 95 = .ok (.getfield 13, 3) := by decide +kernel
theorem dX12_cellar_98 : decode cX12_cellar 98 = .ok (.iload_n 1, 1) := by decide +kernel
theorem dX12_cellar_99 : decode cX12_cellar 99 = .ok (.iload_n 2, 1) := by decide +kernel
theorem dX12_cellar_100 : decode cX12_cellar 100 = .ok (.iconst 1, 1) := by decide +kernel
theorem dX12_cellar_101 : decode cX12_cellar 101 = .ok (.if_icmp .ne 7, 3) := by decide +kernel
theorem dX12_cellar_104 : decode cX12_cellar 104 = .ok (.iload_n 3, 1) := by decide +kernel
theorem dX12_cellar_105 : decode cX12_cellar 105 = .ok (.goto 9, 3) := by decide +kernel
theorem dX12_cellar_108 : decode cX12_cellar 108 = .ok (.aload_n 0, 1) := by decide +kernel
theorem dX12_cellar_109 : decode cX12_cellar 109 = .ok (.getfield 13, 3) := by decide +kernel
theorem dX12_cellar_112 : decode cX12_cellar 112 = .ok (.iload_n 1, 1) := by decide +kernel
theorem dX12_cellar_113 : decode cX12_cellar 113 = .ok (.iaload, 1) := by decide +kernel
theorem dX12_cellar_114 : decode cX12_cellar 114 = .ok (.iastore, 1) := by decide +kernel
theorem dX12_cellar_115 : decode cX12_cellar 115 = .ok (.iload 4, 2) := by decide +kernel
theorem dX12_cellar_117 : decode cX12_cellar 117 = .ok (.ireturn, 1) := by decide +kernel
theorem dX12_wall_0 : decode cX12_wall 0 = .ok (.aload_n 0, 1) := by decide +kernel
theorem dX12_wall_1 : decode cX12_wall 1 = .ok (.iload_n 1, 1) := by decide +kernel
theorem dX12_wall_2 : decode cX12_wall 2 = .ok (.invokevirtual 112, 3) := by decide +kernel
theorem dX12_wall_5 : decode cX12_wall 5 = .ok (.ifCond .ne 5, 3) := by decide +kernel
theorem dX12_wall_8 : decode cX12_wall 8 = .ok (.iconst (-1), 1) := by decide +kernel
theorem dX12_wall_9 : decode cX12_wall 9 = .ok (.ireturn, 1) := by decide +kernel
theorem dX12_wall_10 : decode cX12_wall 10 = .ok (.aload_n 0, 1) := by decide +kernel
theorem dX12_wall_11 : decode cX12_wall 11 = .ok (.iload_n 2, 1) := by decide +kernel
theorem dX12_wall_12 : decode cX12_wall 12 = .ok (.ifCond .eq 14, 3) := by decide +kernel
theorem dX12_wall_15 : decode cX12_wall 15 = .ok (.aload_n 0, 1) := by decide +kernel
theorem dX12_wall_16 : decode cX12_wall 16 = .ok (.getfield 88, 3) := by decide +kernel
theorem dX12_wall_19 : decode cX12_wall 19 = .ok (.iconst 1, 1) := by decide +kernel
theorem dX12_wall_20 : decode cX12_wall 20 = .ok (.iload_n 1, 1) := by decide +kernel
theorem dX12_wall_21 : decode cX12_wall 21 = .ok (.ishl, 1) := by decide +kernel
theorem dX12_wall_22 : decode cX12_wall 22 = .ok (.ior, 1) := by decide +kernel
theorem dX12_wall_23 : decode cX12_wall 23 = .ok (.goto 13, 3) := by decide +kernel
theorem dX12_wall_26 : decode cX12_wall 26 = .ok (.aload_n 0, 1) := by decide +kernel
theorem dX12_wall_27 : decode cX12_wall 27 = .ok (.getfield 88, 3) := by decide +kernel
theorem dX12_wall_30 : decode cX12_wall 30 = .ok (.iconst 1, 1) := by decide +kernel
theorem dX12_wall_31 : decode cX12_wall 31 = .ok (.iload_n 1, 1) := by decide +kernel
theorem dX12_wall_32 : decode cX12_wall 32 = .ok (.ishl, 1) := by decide +kernel
theorem dX12_wall_33 : decode cX12_wall 33 = .ok (.iconst (-1), 1) := by decide +kernel
theorem dX12_wall_34 : decode cX12_wall 34 = .ok (.ixor, 1) := by decide +kernel
theorem dX12_wall_35 : decode cX12_wall 35 = .ok (.iand, 1) := by decide +kernel
theorem dX12_wall_36 : decode cX12_wall 36 = .ok (.putfield 88, 3) := by decide +kernel
theorem dX12_wall_39 : decode cX12_wall 39 = .ok (.iconst 1, 1) := by decide +kernel
theorem dX12_wall_40 : decode cX12_wall 40 = .ok (.ireturn, 1) := by decide +kernel
theorem dX12_barrel_0 : decode cX12_barrel 0 = .ok (.iload_n 1, 1) := by decide +kernel
theorem dX12_barrel_1 : decode cX12_barrel 1 = .ok (.invokestatic 103, 3) := by decide +kernel
theorem dX12_barrel_4 : decode cX12_barrel 4 = .ok (.ifCond .eq 11, 3) := by decide +kernel
theorem dX12_barrel_7 : decode cX12_barrel 7 = .ok (.aload_n 0, 1) := by decide +kernel
theorem dX12_barrel_8 : decode cX12_barrel 8 = .ok (.iload_n 2, 1) := by decide +kernel
theorem dX12_barrel_9 : decode cX12_barrel 9 = .ok (.invokevirtual 112, 3) := by decide +kernel
theorem dX12_barrel_12 : decode cX12_barrel 12 = .ok (.ifCond .ne 5, 3) := by decide +kernel
theorem dX12_barrel_15 : decode cX12_barrel 15 = .ok (.iconst (-1), 1) := by decide +kernel
theorem dX12_barrel_16 : decode cX12_barrel 16 = .ok (.ireturn, 1) := by decide +kernel
theorem dX12_barrel_17 : decode cX12_barrel 17 = .ok (.iload_n 3, 1) := by decide +kernel
theorem dX12_barrel_18 : decode cX12_barrel 18 = .ok (.i2l, 1) := by decide +kernel
theorem dX12_barrel_19 : decode cX12_barrel 19 = .ok (.lconst 1, 1) := by decide +kernel
theorem dX12_barrel_20 : decode cX12_barrel 20 = .ok (.ldc2_w 121, 3) := by decide +kernel
theorem dX12_barrel_23 : decode cX12_barrel 23 = .ok (.invokestatic 97, 3) := by decide +kernel
theorem dX12_barrel_26 : decode cX12_barrel 26 = .ok (.ifCond .eq 29, 3) := by decide +kernel
theorem dX12_barrel_29 : decode cX12_barrel 29 = .ok (.iload 4, 2) := by decide +kernel
theorem dX12_barrel_31 : decode cX12_barrel 31 = .ok (.i2l, 1) := by decide +kernel
theorem dX12_barrel_32 : decode cX12_barrel 32 = .ok (.lconst 0, 1) := by decide +kernel
theorem dX12_barrel_33 : decode cX12_barrel 33 = .ok (.ldc2_w 121, 3) := by decide +kernel
theorem dX12_barrel_36 : decode cX12_barrel 36 = .ok (.invokestatic 97, 3) := by decide +kernel
theorem dX12_barrel_39 : decode cX12_barrel 39 = .ok (.ifCond .eq 16, 3) := by decide +kernel
theorem dX12_barrel_42 : decode cX12_barrel 42 = .ok (.iload 5, 2) := by decide +kernel
theorem dX12_barrel_44 : decode cX12_barrel 44 = .ok (.i2l, 1) := by decide +kernel
theorem dX12_barrel_45 : decode cX12_barrel 45 = .ok (.lconst 0, 1) := by decide +kernel
theorem dX12_barrel_46 : decode cX12_barrel 46 = .ok (.ldc2_w 123, 3) := by decide +kernel
theorem dX12_barrel_49 : decode cX12_barrel 49 = .ok (.invokestatic 97, 3) := by decide +kernel
theorem dX12_barrel_52 : decode cX12_barrel 52 = .ok (.ifCond .ne 6, 3) := by decide +kernel
theorem dX12_barrel_55 : decode cX12_barrel 55 = .ok (.bipush (-2), 2) := by decide +kernel
theorem dX12_barrel_57 : decode cX12_barrel 57 = .ok (.ireturn, 1) := by decide +kernel
theorem dX12_barrel_58 : decode cX12_barrel 58 = .ok (.aload_n 0, 1) := by decide +kernel
theorem dX12_barrel_59 : decode cX12_barrel 59 = .ok (.iload_n 2, 1) := by decide +kernel
theorem dX12_barrel_60 : decode cX12_barrel 60 = .ok (.invokevirtual 117, 3) := by decide +kernel
theorem dX12_barrel_63 : decode cX12_barrel 63 = .ok (.aload_n 0, 1) := by decide +kernel
theorem dX12_barrel_64 : decode cX12_barrel 64 = .ok (.iload_n 1, 1) := by decide +kernel
theorem dX12_barrel_65 : decode cX12_barrel 65 = .ok (.invokevirtual 107, 3) := by decide +kernel
theorem dX12_barrel_68 : decode cX12_barrel 68 = .ok (.ifCond .eq 17, 3) := by decide +kernel
theorem dX12_barrel_71 : decode cX12_barrel 71 = .ok (.aload_n 0, 1) := by decide +kernel
theorem dX12_barrel_72 : decode cX12_barrel 72 = .ok (.getfield 16, 3) := by decide +kernel
theorem dX12_barrel_75 : decode cX12_barrel 75 = .ok (.iload_n 1, 1) := by decide +kernel
theorem dX12_barrel_76 : decode cX12_barrel 76 = .ok (.iaload, 1) := by decide +kernel
theorem dX12_barrel_77 : decode cX12_barrel 77 = .ok (.iload_n 2, 1) := by decide +kernel
theorem dX12_barrel_78 : decode cX12_barrel 78 = .ok (.if_icmp .ne 7, 3) := by decide +kernel
theorem dX12_barrel_81 : decode cX12_barrel 81 = .ok (.iconst 1, 1) := by decide +kernel
theorem dX12_barrel_82 : decode cX12_barrel 82 = .ok (.goto 4, 3) := by decide +kernel
theorem dX12_barrel_85 : decode cX12_barrel 85 = .ok (.iconst 0, 1) := by decide +kernel
theorem dX12_barrel_86 : decode cX12_barrel 86 = .ok (.isub, 1) := by decide +kernel
theorem dX12_barrel_87 : decode cX12_barrel 87 = .ok (.istore 6, 2) := by decide +kernel
theorem dX12_barrel_89 : decode cX12_barrel 89 = .ok (.iload 6, 2) := by decide +kernel
theorem dX12_barrel_91 : decode cX12_barrel 91 = .ok (.aload_n 0, 1) := by decide +kernel
theorem dX12_barrel_92 : decode cX12_barrel 92 = .ok (.getfield 13, 3) := by decide +kernel
theorem dX12_barrel_95 : decode cX12_barrel 95 = .ok (.iload_n 2, 1) := by decide +kernel
theorem dX12_barrel_96 : decode cX12_barrel 96 = .ok (.iaload, 1) := by decide +kernel
theorem dX12_barrel_97 : decode cX12_barrel 97 = .ok (.if_icmp .lt 6, 3) := by decide +kernel
theorem dX12_barrel_100 : decode cX12_barrel 100 = .ok (.bipush (-4), 2) := by decide +kernel
theorem dX12_barrel_102 : decode cX12_barrel 102 = .ok (.ireturn, 1) := by decide +kernel
theorem dX12_barrel_103 : decode cX12_barrel 103 = .ok (.aload_n 0, 1) := by decide +kernel
theorem dX12_barrel_104 : decode cX12_barrel 104 = .ok (.getfield 16, 3) := by decide +kernel
theorem dX12_barrel_107 : decode cX12_barrel 107 = .ok (.iload_n 1, 1) := by decide +kernel
theorem dX12_barrel_108 : decode cX12_barrel 108 = .ok (.iload_n 2, 1) := by decide +kernel
theorem dX12_barrel_109 : decode cX12_barrel 109 = .ok (.iastore, 1) := by decide +kernel
theorem dX12_barrel_110 : decode cX12_barrel 110 = .ok (.aload_n 0, 1) := by decide +kernel
theorem dX12_barrel_111 : decode cX12_barrel 111 = .ok (.getfield 19, 3) := by decide +kernel
theorem dX12_barrel_114 : decode cX12_barrel 114 = .ok (.iload_n 1, 1) := by decide +kernel
theorem dX12_barrel_115 : decode cX12_barrel 115 = .ok (.iload_n 3, 1) := by decide +kernel
theorem dX12_barrel_116 : decode cX12_barrel 116 = .ok (.iastore, 1) := by decide +kernel
theorem dX12_barrel_117 : decode cX12_barrel 117 = .ok (.aload_n 0, 1) := by decide +kernel
theorem dX12_barrel_118 : decode cX12_barrel 118 = .ok (.getfield 22, 3) := by decide +kernel
theorem dX12_barrel_121 : decode cX12_barrel 121 = .ok (.iload_n 1, 1) := by decide +kernel
theorem dX12_barrel_122 : decode cX12_barrel 122 = .ok (.iload 4, 2) := by decide +kernel
theorem dX12_barrel_124 : decode cX12_barrel 124 = .ok (.iastore, 1) := by decide +kernel
theorem dX12_barrel_125 : decode cX12_barrel 125 = .ok (.aload_n 0, 1) := by decide +kernel
theorem dX12_barrel_126 : decode cX12_barrel 126 = .ok (.getfield 25, 3) := by decide +kernel
theorem dX12_barrel_129 : decode cX12_barrel 129 = .ok (.iload_n 1, 1) := by decide +kernel
theorem dX12_barrel_130 : decode cX12_barrel 130 = .ok (.iload 5, 2) := by decide +kernel
theorem dX12_barrel_132 : decode cX12_barrel 132 = .ok (.iastore, 1) := by decide +kernel
theorem dX12_barrel_133 : decode cX12_barrel 133 = .ok (.aload_n 0, 1) := by decide +kernel
theorem dX12_barrel_134 : decode cX12_barrel 134 = .ok (.dup, 1) := by decide +kernel
theorem dX12_barrel_135 : decode cX12_barrel 135 = .ok (.getfield 91, 3) := by decide +kernel
theorem dX12_barrel_138 : decode cX12_barrel 138 = .ok (.iconst 1, 1) := by decide +kernel
theorem dX12_barrel_139 : decode cX12_barrel 139 = .ok (.iload_n 1, 1) := by decide +kernel
theorem dX12_barrel_140 : decode cX12_barrel 140 = .ok (.ishl, 1) := by decide +kernel
theorem dX12_barrel_141 : decode cX12_barrel 141 = .ok (.ior, 1) := by decide +kernel
theorem dX12_barrel_142 : decode cX12_barrel 142 = .ok (.putfield 91, 3) := by decide +kernel
theorem dX12_barrel_145 : decode cX12_barrel 145 = .ok (.aload_n 0, 1) := by decide +kernel
theorem dX12_barrel_146 : decode cX12_barrel 146 = .ok (.getfield 91, 3) := by decide +kernel
theorem dX12_barrel_149 : decode cX12_barrel 149 = .ok (.invokestatic 125, 3) := by decide +kernel
theorem dX12_barrel_152 : decode cX12_barrel 152 = .ok (.ireturn, 1) := by decide +kernel
theorem dX12_drink_0 : decode cX12_drink 0 = .ok (.aload_n 0, 1) := by decide +kernel
theorem dX12_drink_1 : decode cX12_drink 1 = .ok (.iload_n 1, 1) := by decide +kernel
theorem dX12_drink_2 : decode cX12_drink 2 = .ok (.invokevirtual 107, 3) := by decide +kernel
theorem dX12_drink_5 : decode cX12_drink 5 = .ok (.ifCond .ne 5, 3) := by decide +kernel
theorem dX12_drink_8 : decode cX12_drink 8 = .ok (.iconst (-1), 1) := by decide +kernel
theorem dX12_drink_9 : decode cX12_drink 9 = .ok (.ireturn, 1) := by decide +kernel
theorem dX12_drink_10 : decode cX12_drink 10 = .ok (.aload_n 0, 1) := by decide +kernel
theorem dX12_drink_11 : decode cX12_drink 11 = .ok (.dup, 1) := by decide +kernel
theorem dX12_drink_12 : decode cX12_drink 12 = .ok (.getfield 91, 3) := by decide +kernel
theorem dX12_drink_15 : decode cX12_drink 15 = .ok (.iconst 1, 1) := by decide +kernel
theorem dX12_drink_16 : decode cX12_drink 16 = .ok (.iload_n 1, 1) := by decide +kernel
theorem dX12_drink_17 : decode cX12_drink 17 = .ok (.ishl, 1) := by decide +kernel
theorem dX12_drink_18 : decode cX12_drink 18 = .ok (.iconst (-1), 1) := by decide +kernel
theorem dX12_drink_19 : decode cX12_drink 19 = .ok (.ixor, 1) := by decide +kernel
theorem dX12_drink_20 : decode cX12_drink 20 = .ok (.iand, 1) := by decide +kernel
theorem dX12_drink_21 : decode cX12_drink 21 = .ok (.putfield 91, 3) := by decide +kernel
theorem dX12_drink_24 : decode cX12_drink 24 = .ok (.aload_n 0, 1) := by decide +kernel
theorem dX12_drink_25 : decode cX12_drink 25 = .ok (.getfield 91, 3) := by decide +kernel
theorem dX12_drink_28 : decode cX12_drink 28 = .ok (.invokestatic 125, 3) := by decide +kernel
theorem dX12_drink_31 : decode cX12_drink 31 = .ok (.ireturn, 1) := by decide +kernel
theorem dX12_set_0 : decode cX12_set 0 = .ok (.iload_n 1, 1) := by decide +kernel
theorem dX12_set_1 : decode cX12_set 1 = .ok (.iconst 2, 1) := by decide +kernel
theorem dX12_set_2 : decode cX12_set 2 = .ok (.if_icmp .ne 8, 3) := by decide +kernel
theorem dX12_set_5 : decode cX12_set 5 = .ok (.bipush 29, 2) := by decide +kernel
theorem dX12_set_7 : decode cX12_set 7 = .ok (.goto 5, 3) := by decide +kernel
theorem dX12_set_10 : decode cX12_set 10 = .ok (.bipush 99, 2) := by decide +kernel
theorem dX12_set_12 : decode cX12_set 12 = .ok (.istore_n 3, 1) := by decide +kernel
theorem dX12_set_13 : decode cX12_set 13 = .ok (.iload_n 1, 1) := by decide +kernel
theorem dX12_set_14 : decode cX12_set 14 = .ok (.i2l, 1) := by decide +kernel
theorem dX12_set_15 : decode cX12_set 15 = .ok (.lconst 0, 1) := by decide +kernel
theorem dX12_set_16 : decode cX12_set 16 = .ok (.ldc2_w 110, 3) := by decide +kernel
theorem dX12_set_19 : decode cX12_set 19 = .ok (.invokestatic 97, 3) := by decide +kernel
theorem dX12_set_22 : decode cX12_set 22 = .ok (.ifCond .eq 22, 3) := by decide +kernel
theorem dX12_set_25 : decode cX12_set 25 = .ok (.iload_n 2, 1) := by decide +kernel
theorem dX12_set_26 : decode cX12_set 26 = .ok (.i2l, 1) := by decide +kernel
theorem dX12_set_27 : decode cX12_set 27 = .ok (.iload_n 1, 1) := by decide +kernel
theorem dX12_set_28 : decode cX12_set 28 = .ok (.ifCond .ne 7, 3) := by decide +kernel
theorem dX12_set_31 : decode cX12_set 31 = .ok (.lconst 1, 1) := by decide +kernel
theorem dX12_set_32 : decode cX12_set 32 = .ok (.goto 4, 3) := by decide +kernel
theorem dX12_set_35 : decode cX12_set 35 = .ok (.lconst 0, 1) := by decide +kernel
theorem dX12_set_36 : decode cX12_set 36 = .ok (.iload_n 3, 1) := by decide +kernel
theorem dX12_set_37 : decode cX12_set 37 = .ok (.i2l, 1) := by decide +kernel
theorem dX12_set_38 : decode cX12_set 38 = .ok (.invokestatic 97, 3) := by decide +kernel
theorem dX12_set_41 : decode cX12_set 41 = .ok (.ifCond .ne 6, 3) := by decide +kernel
theorem dX12_set_44 : decode cX12_set 44 = .ok (.bipush (-2), 2) := by decide +kernel
theorem dX12_set_46 : decode cX12_set 46 = .ok (.ireturn, 1) := by decide +kernel
theorem dX12_set_47 : decode cX12_set 47 = .ok (.iload_n 1, 1) := by decide +kernel
theorem dX12_set_48 : decode cX12_set 48 = .ok (.ifCond .ne 10, 3) := by decide +kernel
theorem dX12_set_51 : decode cX12_set 51 = .ok (.aload_n 0, 1) := by decide +kernel
theorem dX12_set_52 : decode cX12_set 52 = .ok (.getfield 71, 3) := by decide +kernel
theorem dX12_set_55 : decode cX12_set 55 = .ok (.goto 35, 3) := by decide +kernel
theorem dX12_set_58 : decode cX12_set 58 = .ok (.iload_n 1, 1) := by decide +kernel
theorem dX12_set_59 : decode cX12_set 59 = .ok (.iconst 1, 1) := by decide +kernel
theorem dX12_set_60 : decode cX12_set 60 = .ok (.if_icmp .ne 10, 3) := by decide +kernel
theorem dX12_set_63 : decode cX12_set 63 = .ok (.aload_n 0, 1) := by decide +kernel
theorem dX12_set_64 : decode cX12_set 64 = .ok (.getfield 75, 3) := by decide +kernel
theorem dX12_set_67 : decode cX12_set 67 = .ok (.goto 23, 3) := by decide +kernel
theorem dX12_set_70 : decode cX12_set 70 = .ok (.iload_n 1, 1) := by decide +kernel
theorem dX12_set_71 : decode cX12_set 71 = .ok (.iconst 2, 1) := by decide +kernel
theorem dX12_set_72 : decode cX12_set 72 = .ok (.if_icmp .ne 10, 3) := by decide +kernel
theorem dX12_set_75 : decode cX12_set 75 = .ok (.aload_n 0, 1) := by decide +kernel
theorem dX12_set_76 : decode cX12_set 76 = .ok (.getfield 128, 3) := by decide +kernel
theorem dX12_set_79 : decode cX12_set 79 = .ok (.goto 11, 3) := by decide +kernel
theorem dX12_set_82 : decode cX12_set 82 = .ok (.aload_n 0, 1) := by decide +kernel
theorem dX12_set_83 : decode cX12_set 83 = .ok (.getfield 31, 3) := by decide +kernel
theorem dX12_set_86 : decode cX12_set 86 = .ok (.iload_n 1, 1) := by decide +kernel
theorem dX12_set_87 : decode cX12_set 87 = .ok (.iconst 3, 1) := by decide +kernel
theorem dX12_set_88 : decode cX12_set 88 = .ok (.isub, 1) := by decide +kernel
theorem dX12_set_89 : decode cX12_set 89 = .ok (.iaload, 1) := by decide +kernel
theorem dX12_set_90 : decode cX12_set 90 = .ok (.istore 4, 2) := by decide +kernel
theorem dX12_set_92 : decode cX12_set 92 = .ok (.aload_n 0, 1) := by decide +kernel
theorem dX12_set_93 : decode cX12_set 93 = .ok (.iload_n 1, 1) := by decide +kernel
theorem dX12_set_94 : decode cX12_set 94 = .ok (.ifCond .ne 7, 3) := by decide +kernel
theorem dX12_set_97 : decode cX12_set 97 = .ok (.iload_n 2, 1) := by decide +kernel
theorem dX12_set_98 : decode cX12_set 98 = .ok (.goto 7, 3) := by decide +kernel
theorem dX12_set_101 : decode cX12_set 101 = .ok (.aload_n 0, 1) := by decide +kernel
theorem dX12_set_102 : decode cX12_set 102 = .ok (.getfield 71, 3) := by decide +kernel
theorem dX12_set_105 : decode cX12_set 105 = .ok (.putfield 71, 3) := by decide +kernel
theorem dX12_set_108 : decode cX12_set 108 = .ok (.aload_n 0, 1) := by decide +kernel
theorem dX12_set_109 : decode cX12_set 109 = .ok (.iload_n 1, 1) := by decide +kernel
theorem dX12_set_110 : decode cX12_set 110 = .ok (.iconst 1, 1) := by decide +kernel
theorem dX12_set_111 : decode cX12_set 111 = .ok (.if_icmp .ne 7, 3) := by decide +kernel
theorem dX12_set_114 : decode cX12_set 114 = .ok (.iload_n 2, 1) := by decide +kernel
theorem dX12_set_115 : decode cX12_set 115 = .ok (.goto 7, 3) := by decide +kernel
theorem dX12_set_118 : decode cX12_set 118 = .ok (.aload_n 0, 1) := by decide +kernel
theorem dX12_set_119 : decode cX12_set 119 = .ok (.getfield 75, 3) := by decide +kernel
theorem dX12_set_122 : decode cX12_set 122 = .ok (.putfield 75, 3) := by decide +kernel
theorem dX12_set_125 : decode cX12_set 125 = .ok (.aload_n 0, 1) := by decide +kernel
theorem dX12_set_126 : decode cX12_set 126 = .ok (.iload_n 1, 1) := by decide +kernel
theorem dX12_set_127 : decode cX12_set 127 = .ok (.iconst 2, 1) := by decide +kernel
theorem dX12_set_128 : decode cX12_set 128 = .ok (.if_icmp .ne 7, 3) := by decide +kernel
theorem dX12_set_131 : decode cX12_set 131 = .ok (.iload_n 2, 1) := by decide +kernel
theorem dX12_set_132 : decode cX12_set 132 = .ok (.goto 7, 3) := by decide +kernel
theorem dX12_set_135 : decode cX12_set 135 = .ok (.aload_n 0, 1) := by decide +kernel
theorem dX12_set_136 : decode cX12_set 136 = .ok (.getfield 128, 3) := by decide +kernel
theorem dX12_set_139 : decode cX12_set 139 = .ok (.putfield 128, 3) := by decide +kernel
theorem dX12_set_142 : decode cX12_set 142 = .ok (.iload_n 1, 1) := by decide +kernel
theorem dX12_set_143 : decode cX12_set 143 = .ok (.iconst 2, 1) := by decide +kernel
theorem dX12_set_144 : decode cX12_set 144 = .ok (.if_icmp .le 12, 3) := by decide +kernel
theorem dX12_set_147 : decode cX12_set 147 = .ok (.aload_n 0, 1) := by decide +kernel
theorem dX12_set_148 : decode cX12_set 148 = .ok (.getfield 31, 3) := by decide +kernel
theorem dX12_set_151 : decode cX12_set 151 = .ok (.iload_n 1, 1) := by decide +kernel
theorem dX12_set_152 : decode cX12_set 152 = .ok (.iconst 3, 1) := by decide +kernel
theorem dX12_set_153 : decode cX12_set 153 = .ok (.isub, 1) := by decide +kernel
theorem dX12_set_154 : decode cX12_set 154 = .ok (.iload_n 2, 1) := by decide +kernel
theorem dX12_set_155 : decode cX12_set 155 = .ok (.iastore, 1) := by decide +kernel
theorem dX12_set_156 : decode cX12_set 156 = .ok (.iload 4, 2) := by decide +kernel
theorem dX12_set_158 : decode cX12_set 158 = .ok (.ireturn, 1) := by decide +kernel
theorem dX12_say_0 : decode cX12_say 0 = .ok (.iload_n 1, 1) := by decide +kernel
theorem dX12_say_1 : decode cX12_say 1 = .ok (.i2l, 1) := by decide +kernel
theorem dX12_say_2 : decode cX12_say 2 = .ok (.ldc2_w 131, 3) := by decide +kernel
theorem dX12_say_5 : decode cX12_say 5 = .ok (.ldc2_w 133, 3) := by decide +kernel
theorem dX12_say_8 : decode cX12_say 8 = .ok (.invokestatic 97, 3) := by decide +kernel
theorem dX12_say_11 : decode cX12_say 11 = .ok (.ifCond .ne 6, 3) := by decide +kernel
theorem dX12_say_14 : decode cX12_say 14 = .ok (.bipush (-2), 2) := by decide +kernel
theorem dX12_say_16 : decode cX12_say 16 = .ok (.ireturn, 1) := by decide +kernel
theorem dX12_say_17 : decode cX12_say 17 = .ok (.aload_n 0, 1) := by decide +kernel
theorem dX12_say_18 : decode cX12_say 18 = .ok (.getfield 135, 3) := by decide +kernel
theorem dX12_say_21 : decode cX12_say 21 = .ok (.bipush 60, 2) := by decide +kernel
theorem dX12_say_23 : decode cX12_say 23 = .ok (.if_icmp .ne 6, 3) := by decide +kernel
theorem dX12_say_26 : decode cX12_say 26 = .ok (.bipush (-4), 2) := by decide +kernel
theorem dX12_say_28 : decode cX12_say 28 = .ok (.ireturn, 1) := by decide +kernel
theorem dX12_say_29 : decode cX12_say 29 = .ok (.aload_n 0, 1) := by decide +kernel
theorem dX12_say_30 : decode cX12_say 30 = .ok (.getfield 43, 3) := by decide +kernel
theorem dX12_say_33 : decode cX12_say 33 = .ok (.aload_n 0, 1) := by decide +kernel
theorem dX12_say_34 : decode cX12_say 34 = .ok (.getfield 135, 3) := by decide +kernel
theorem dX12_say_37 : decode cX12_say 37 = .ok (.iload_n 1, 1) := by decide +kernel
theorem dX12_say_38 : decode cX12_say 38 = .ok (.iastore, 1) := by decide +kernel
theorem dX12_say_39 : decode cX12_say 39 = .ok (.aload_n 0, 1) := by decide +kernel
theorem dX12_say_40 : decode cX12_say 40 = .ok (.dup, 1) := by decide +kernel
theorem dX12_say_41 : decode cX12_say 41 = .ok (.getfield 135, 3) := by decide +kernel
theorem dX12_say_44 : decode cX12_say 44 = .ok (.iconst 1, 1) := by decide +kernel
theorem dX12_say_45 : decode cX12_say 45 = .ok (.iadd, 1) := by decide +kernel
theorem dX12_say_46 : decode cX12_say 46 = .ok (.putfield 135, 3) := by decide +kernel
theorem dX12_say_49 : decode cX12_say 49 = .ok (.aload_n 0, 1) := by decide +kernel
theorem dX12_say_50 : decode cX12_say 50 = .ok (.getfield 135, 3) := by decide +kernel
theorem dX12_say_53 : decode cX12_say 53 = .ok (.ireturn, 1) := by decide +kernel
theorem dX12_wipe_0 : decode cX12_wipe 0 = .ok (.aload_n 0, 1) := by decide +kernel
theorem dX12_wipe_1 : decode cX12_wipe 1 = .ok (.getfield 135, 3) := by decide +kernel
theorem dX12_wipe_4 : decode cX12_wipe 4 = .ok (.istore_n 1, 1) := by decide +kernel
theorem dX12_wipe_5 : decode cX12_wipe 5 = .ok (.aload_n 0, 1) := by decide +kernel
theorem dX12_wipe_6 : decode cX12_wipe 6 = .ok (.iconst 0, 1) := by decide +kernel
theorem dX12_wipe_7 : decode cX12_wipe 7 = .ok (.putfield 135, 3) := by decide +kernel
theorem dX12_wipe_10 : decode cX12_wipe 10 = .ok (.iload_n 1, 1) := by decide +kernel
theorem dX12_wipe_11 : decode cX12_wipe 11 = .ok (.ireturn, 1) := by decide +kernel
theorem dX12_faultOfTable_0 : decode cX12_faultOfTable 0 = .ok (.iconst 0, 1) := by decide +kernel
theorem dX12_faultOfTable_1 : decode cX12_faultOfTable 1 = .ok (.istore_n 1, 1) := by decide +kernel
theorem dX12_faultOfTable_2 : decode cX12_faultOfTable 2 = .ok (.iload_n 1, 1) := by decide +kernel
theorem dX12_faultOfTable_3 : decode cX12_faultOfTable 3 = .ok (.aload_n 0, 1) := by decide +kernel
theorem dX12_faultOfTable_4 : decode cX12_faultOfTable 4 = .ok (.getfield 135, 3) := by decide +kernel
theorem dX12_faultOfTable_7 : decode cX12_faultOfTable 7 = .ok (.if_icmp .ge 36, 3) := by decide +kernel
theorem dX12_faultOfTable_10 : decode cX12_faultOfTable 10 = .ok (.iload_n 1, 1) := by decide +kernel
theorem dX12_faultOfTable_11 : decode cX12_faultOfTable 11 = .ok (.bipush 30, 2) := by decide +kernel
theorem dX12_faultOfTable_13 : decode cX12_faultOfTable 13 = .ok (.if_icmp .eq 22, 3) := by decide +kernel
theorem dX12_faultOfTable_16 : decode cX12_faultOfTable 16 = .ok (.aload_n 0, 1) := by decide +kernel
theorem dX12_faultOfTable_17 : decode cX12_faultOfTable 17 = .ok (.getfield 43, 3) := by decide +kernel
theorem dX12_faultOfTable_20 : decode cX12_faultOfTable 20 = .ok (.iload_n 1, 1) := by decide +kernel
theorem dX12_faultOfTable_21 : decode cX12_faultOfTable 21 = .ok (.iaload, 1) := by decide +kernel
theorem dX12_faultOfTable_22 : decode cX12_faultOfTable 22 = .ok (.i2l, 1) := by decide +kernel
theorem dX12_faultOfTable_23 : decode cX12_faultOfTable 23 = .ok (.ldc2_w 138, 3) := by decide +kernel
theorem dX12_faultOfTable_26 : decode cX12_faultOfTable 26 = .ok (.ldc2_w 140, 3) := by decide +kernel
theorem dX12_faultOfTable_29 : decode cX12_faultOfTable 29 = .ok (.invokestatic 97, 3) := by decide +kernel
theorem dX12_faultOfTable_32 : decode cX12_faultOfTable 32 = .ok (.ifCond .ne 5, 3) := by decide +kernel
theorem dX12_faultOfTable_35 : decode cX12_faultOfTable 35 = .ok (.iload_n 1, 1) := by decide +kernel
theorem dX12_faultOfTable_36 : decode cX12_faultOfTable 36 = .ok (.ireturn, 1) := by decide +kernel
theorem dX12_faultOfTable_37 : decode cX12_faultOfTable 37 = .ok (.iinc 1 1, 3) := by decide +kernel
theorem dX12_faultOfTable_40 : decode cX12_faultOfTable 40 = .ok (.goto (-38), 3) := by decide +kernel
theorem dX12_faultOfTable_43 : decode cX12_faultOfTable 43 = .ok (.aload_n 0, 1) := by decide +kernel
theorem dX12_faultOfTable_44 : decode cX12_faultOfTable 44 = .ok (.getfield 135, 3) := by decide +kernel
theorem dX12_faultOfTable_47 : decode cX12_faultOfTable 47 = .ok (.ifCond .ne 7, 3) := by decide +kernel
theorem dX12_faultOfTable_50 : decode cX12_faultOfTable 50 = .ok (.iconst 0, 1) := by decide +kernel
theorem dX12_faultOfTable_51 : decode cX12_faultOfTable 51 = .ok (.goto 5, 3) := by decide +kernel
theorem dX12_faultOfTable_54 : decode cX12_faultOfTable 54 = .ok (.bipush (-6), 2) := by decide +kernel
theorem dX12_faultOfTable_56 : decode cX12_faultOfTable 56 = .ok (.ireturn, 1) := by decide +kernel
theorem dX12_faultOfMoves_0 : decode cX12_faultOfMoves 0 = .ok (.iconst 0, 1) := by decide +kernel
theorem dX12_faultOfMoves_1 : decode cX12_faultOfMoves 1 = .ok (.istore_n 1, 1) := by decide +kernel
theorem dX12_faultOfMoves_2 : decode cX12_faultOfMoves 2 = .ok (.iconst 0, 1) := by decide +kernel
theorem dX12_faultOfMoves_3 : decode cX12_faultOfMoves 3 = .ok (.istore_n 2, 1) := by decide +kernel
theorem dX12_faultOfMoves_4 : decode cX12_faultOfMoves 4 = .ok (.iload_n 2, 1) := by decide +kernel
theorem dX12_faultOfMoves_5 : decode cX12_faultOfMoves 5 = .ok (.aload_n 0, 1) := by decide +kernel
theorem dX12_faultOfMoves_6 : decode cX12_faultOfMoves 6 = .ok (.getfield 135, 3) := by decide +kernel
theorem dX12_faultOfMoves_9 : decode cX12_faultOfMoves 9 = .ok (.if_icmp .ge 81, 3) := by decide +kernel
theorem dX12_faultOfMoves_12 : decode cX12_faultOfMoves 12 = .ok (.aload_n 0, 1) := by decide +kernel
theorem dX12_faultOfMoves_13 : decode cX12_faultOfMoves 13 = .ok (.getfield 43, 3) := by decide +kernel
theorem dX12_faultOfMoves_16 : decode cX12_faultOfMoves 16 = .ok (.iload_n 2, 1) := by decide +kernel
theorem dX12_faultOfMoves_17 : decode cX12_faultOfMoves 17 = .ok (.iaload, 1) := by decide +kernel
theorem dX12_faultOfMoves_18 : decode cX12_faultOfMoves 18 = .ok (.istore_n 3, 1) := by decide +kernel
theorem dX12_faultOfMoves_19 : decode cX12_faultOfMoves 19 = .ok (.iload_n 1, 1) := by decide +kernel
theorem dX12_faultOfMoves_20 : decode cX12_faultOfMoves 20 = .ok (.ifCond .eq 14, 3) := by decide +kernel
theorem dX12_faultOfMoves_23 : decode cX12_faultOfMoves 23 = .ok (.aload_n 0, 1) := by decide +kernel
theorem dX12_faultOfMoves_24 : decode cX12_faultOfMoves 24 = .ok (.iload_n 3, 1) := by decide +kernel
theorem dX12_faultOfMoves_25 : decode cX12_faultOfMoves 25 = .ok (.bipush 97, 2) := by decide +kernel
theorem dX12_faultOfMoves_27 : decode cX12_faultOfMoves 27 = .ok (.isub, 1) := by decide +kernel
theorem dX12_faultOfMoves_28 : decode cX12_faultOfMoves 28 = .ok (.invokevirtual 112, 3) := by decide +kernel
theorem dX12_faultOfMoves_31 : decode cX12_faultOfMoves 31 = .ok (.goto 28, 3) := by decide +kernel
theorem dX12_faultOfMoves_34 : decode cX12_faultOfMoves 34 = .ok (.iload_n 3, 1) := by decide +kernel
theorem dX12_faultOfMoves_35 : decode cX12_faultOfMoves 35 = .ok (.bipush 46, 2) := by decide +kernel
theorem dX12_faultOfMoves_37 : decode cX12_faultOfMoves 37 = .ok (.if_icmp .eq 17, 3) := by decide +kernel
theorem dX12_faultOfMoves_40 : decode cX12_faultOfMoves 40 = .ok (.iload_n 3, 1) := by decide +kernel
theorem dX12_faultOfMoves_41 : decode cX12_faultOfMoves 41 = .ok (.i2l, 1) := by decide +kernel
theorem dX12_faultOfMoves_42 : decode cX12_faultOfMoves 42 = .ok (.ldc2_w 138, 3) := by decide +kernel
theorem dX12_faultOfMoves_45 : decode cX12_faultOfMoves 45 = .ok (.ldc2_w 142, 3) := by decide +kernel
theorem dX12_faultOfMoves_48 : decode cX12_faultOfMoves 48 = .ok (.invokestatic 97, 3) := by decide +kernel
theorem dX12_faultOfMoves_51 : decode cX12_faultOfMoves 51 = .ok (.ifCond .eq 7, 3) := by decide +kernel
theorem dX12_faultOfMoves_54 : decode cX12_faultOfMoves 54 = .ok (.iconst 1, 1) := by decide +kernel
theorem dX12_faultOfMoves_55 : decode cX12_faultOfMoves 55 = .ok (.goto 4, 3) := by decide +kernel
theorem dX12_faultOfMoves_58 : decode cX12_faultOfMoves 58 = .ok (.iconst 0, 1) := by decide +kernel
theorem dX12_faultOfMoves_59 : decode cX12_faultOfMoves 59 = .ok (.istore 4, 2) := by decide +kernel
theorem dX12_faultOfMoves_61 : decode cX12_faultOfMoves 61 = .ok (.iload 4, 2) := by decide +kernel
theorem dX12_faultOfMoves_63 : decode cX12_faultOfMoves 63 = .ok (.ifCond .ne 5, 3) := by decide +kernel
theorem dX12_faultOfMoves_66 : decode cX12_faultOfMoves 66 = .ok (.iload_n 2, 1) := by decide +kernel
theorem dX12_faultOfMoves_67 : decode cX12_faultOfMoves 67 = .ok (.ireturn, 1) := by decide +kernel
theorem dX12_faultOfMoves_68 : decode cX12_faultOfMoves 68 = .ok (.iload_n 1, 1) := by decide +kernel
theorem dX12_faultOfMoves_69 : decode cX12_faultOfMoves 69 = .ok (.ifCond .ne 13, 3) := by decide +kernel
theorem dX12_faultOfMoves_72 : decode cX12_faultOfMoves 72 = .ok (.iload_n 3, 1) := by decide +kernel
theorem dX12_faultOfMoves_73 : decode cX12_faultOfMoves 73 = .ok (.bipush 46, 2) := by decide +kernel
theorem dX12_faultOfMoves_75 : decode cX12_faultOfMoves 75 = .ok (.if_icmp .eq 7, 3) := by decide +kernel
theorem dX12_faultOfMoves_78 : decode cX12_faultOfMoves 78 = .ok (.iconst 1, 1) := by decide +kernel
theorem dX12_faultOfMoves_79 : decode cX12_faultOfMoves 79 = .ok (.goto 4, 3) := by decide +kernel
theorem dX12_faultOfMoves_82 : decode cX12_faultOfMoves 82 = .ok (.iconst 0, 1) := by decide +kernel
theorem dX12_faultOfMoves_83 : decode cX12_faultOfMoves 83 = .ok (.istore_n 1, 1) := by decide +kernel
theorem dX12_faultOfMoves_84 : decode cX12_faultOfMoves 84 = .ok (.iinc 2 1, 3) := by decide +kernel
theorem dX12_faultOfMoves_87 : decode cX12_faultOfMoves 87 = .ok (.goto (-83), 3) := by decide +kernel
theorem dX12_faultOfMoves_90 : decode cX12_faultOfMoves 90 = .ok (.iload_n 1, 1) := by decide +kernel
theorem dX12_faultOfMoves_91 : decode cX12_faultOfMoves 91 = .ok (.ifCond .eq 10, 3) := by decide +kernel
theorem dX12_faultOfMoves_94 : decode cX12_faultOfMoves 94 = .ok (.aload_n 0, 1) := by decide +kernel
theorem dX12_faultOfMoves_95 : decode cX12_faultOfMoves 95 = .ok (.getfield 135, 3) := by decide +kernel
theorem dX12_faultOfMoves_98 : decode cX12_faultOfMoves 98 = .ok (.goto 5, 3) := by decide +kernel
theorem dX12_faultOfMoves_101 : decode cX12_faultOfMoves 101 = .ok (.bipush (-6), 2) := by decide +kernel
theorem dX12_faultOfMoves_103 : decode cX12_faultOfMoves 103 = .ok (.ireturn, 1) := by decide +kernel
theorem dX12_fault_0 : decode cX12_fault 0 = .ok (.iload_n 1, 1) := by decide +kernel
theorem dX12_fault_1 : decode cX12_fault 1 = .ok (.ifCond .ne 10, 3) := by decide +kernel
theorem dX12_fault_4 : decode cX12_fault 4 = .ok (.aload_n 0, 1) := by decide +kernel
theorem dX12_fault_5 : decode cX12_fault 5 = .ok (.invokevirtual 144, 3) := by decide +kernel
theorem dX12_fault_8 : decode cX12_fault 8 = .ok (.goto 17, 3) := by decide +kernel
theorem dX12_fault_11 : decode cX12_fault 11 = .ok (.iload_n 1, 1) := by decide +kernel
theorem dX12_fault_12 : decode cX12_fault 12 = .ok (.iconst 1, 1) := by decide +kernel
theorem dX12_fault_13 : decode cX12_fault 13 = .ok (.if_icmp .ne 10, 3) := by decide +kernel
theorem dX12_fault_16 : decode cX12_fault 16 = .ok (.aload_n 0, 1) := by decide +kernel
theorem dX12_fault_17 : decode cX12_fault 17 = .ok (.invokevirtual 148, 3) := by decide +kernel
theorem dX12_fault_20 : decode cX12_fault 20 = .ok (.goto 5, 3) := by decide +kernel
theorem dX12_fault_23 : decode cX12_fault 23 = .ok (.bipush (-2), 2) := by decide +kernel
theorem dX12_fault_25 : decode cX12_fault 25 = .ok (.ireturn, 1) := by decide +kernel
theorem dX12_table_0 : decode cX12_table 0 = .ok (.aload_n 0, 1) := by decide +kernel
theorem dX12_table_1 : decode cX12_table 1 = .ok (.invokevirtual 144, 3) := by decide +kernel
theorem dX12_table_4 : decode cX12_table 4 = .ok (.ifCond .lt 6, 3) := by decide +kernel
theorem dX12_table_7 : decode cX12_table 7 = .ok (.bipush (-5), 2) := by decide +kernel
theorem dX12_table_9 : decode cX12_table 9 = .ok (.ireturn, 1) := by decide +kernel
theorem dX12_table_10 : decode cX12_table 10 = .ok (.iconst 0, 1) := by decide +kernel
theorem dX12_table_11 : decode cX12_table 11 = .ok (.istore_n 1, 1) := by decide +kernel
theorem dX12_table_12 : decode cX12_table 12 = .ok (.iload_n 1, 1) := by decide +kernel
theorem dX12_table_13 : decode cX12_table 13 = .ok (.aload_n 0, 1) := by decide +kernel
theorem dX12_table_14 : decode cX12_table 14 = .ok (.getfield 135, 3) := by decide +kernel
theorem dX12_table_17 : decode cX12_table 17 = .ok (.if_icmp .ge 24, 3) := by decide +kernel
theorem dX12_table_20 : decode cX12_table 20 = .ok (.aload_n 0, 1) := by decide +kernel
theorem dX12_table_21 : decode cX12_table 21 = .ok (.getfield 28, 3) := by decide +kernel
theorem dX12_table_24 : decode cX12_table 24 = .ok (.iload_n 1, 1) := by decide +kernel
theorem dX12_table_25 : decode cX12_table 25 = .ok (.aload_n 0, 1) := by decide +kernel
theorem dX12_table_26 : decode cX12_table 26 = .ok (.getfield 43, 3) := by decide +kernel
theorem dX12_table_29 : decode cX12_table 29 = .ok (.iload_n 1, 1) := by decide +kernel
theorem dX12_table_30 : decode cX12_table 30 = .ok (.iaload, 1) := by decide +kernel
theorem dX12_table_31 : decode cX12_table 31 = .ok (.bipush 48, 2) := by decide +kernel
theorem dX12_table_33 : decode cX12_table 33 = .ok (.isub, 1) := by decide +kernel
theorem dX12_table_34 : decode cX12_table 34 = .ok (.iastore, 1) := by decide +kernel
theorem dX12_table_35 : decode cX12_table 35 = .ok (.iinc 1 1, 3) := by decide +kernel
theorem dX12_table_38 : decode cX12_table 38 = .ok (.goto (-26), 3) := by decide +kernel
theorem dX12_table_41 : decode cX12_table 41 = .ok (.aload_n 0, 1) := by decide +kernel
theorem dX12_table_42 : decode cX12_table 42 = .ok (.aload_n 0, 1) := by decide +kernel
theorem dX12_table_43 : decode cX12_table 43 = .ok (.getfield 135, 3) := by decide +kernel
theorem dX12_table_46 : decode cX12_table 46 = .ok (.putfield 78, 3) := by decide +kernel
theorem dX12_table_49 : decode cX12_table 49 = .ok (.aload_n 0, 1) := by decide +kernel
theorem dX12_table_50 : decode cX12_table 50 = .ok (.iconst 0, 1) := by decide +kernel
theorem dX12_table_51 : decode cX12_table 51 = .ok (.putfield 135, 3) := by decide +kernel
theorem dX12_table_54 : decode cX12_table 54 = .ok (.aload_n 0, 1) := by decide +kernel
theorem dX12_table_55 : decode cX12_table 55 = .ok (.getfield 78, 3) := by decide +kernel
theorem dX12_table_58 : decode cX12_table 58 = .ok (.ireturn, 1) := by decide +kernel
theorem dX12_levelOn_0 : decode cX12_levelOn 0 = .ok (.aload_n 0, 1) := by decide +kernel
theorem dX12_levelOn_1 : decode cX12_levelOn 1 = .ok (.getfield 28, 3) := by decide +kernel
theorem dX12_levelOn_4 : decode cX12_levelOn 4 = .ok (.iload_n 1, 1) := by decide +kernel
theorem dX12_levelOn_5 : decode cX12_levelOn 5 = .ok (.aload_n 0, 1) := by decide +kernel
theorem dX12_levelOn_6 : decode cX12_levelOn 6 = .ok (.getfield 128, 3) := by decide +kernel
theorem dX12_levelOn_9 : decode cX12_levelOn 9 = .ok (.iadd, 1) := by decide +kernel
theorem dX12_levelOn_10 : decode cX12_levelOn 10 = .ok (.aload_n 0, 1) := by decide +kernel
theorem dX12_levelOn_11 : decode cX12_levelOn 11 = .ok (.getfield 78, 3) := by decide +kernel
theorem dX12_levelOn_14 : decode cX12_levelOn 14 = .ok (.irem, 1) := by decide +kernel
theorem dX12_levelOn_15 : decode cX12_levelOn 15 = .ok (.iaload, 1) := by decide +kernel
theorem dX12_levelOn_16 : decode cX12_levelOn 16 = .ok (.iload_n 1, 1) := by decide +kernel
theorem dX12_levelOn_17 : decode cX12_levelOn 17 = .ok (.bipush 63, 2) := by decide +kernel
theorem dX12_levelOn_19 : decode cX12_levelOn 19 = .ok (.if_icmp .ge 20, 3) := by decide +kernel
theorem dX12_levelOn_22 : decode cX12_levelOn 22 = .ok (.aload_n 0, 1) := by decide +kernel
theorem dX12_levelOn_23 : decode cX12_levelOn 23 = .ok (.getfield 151, 3) := by decide +kernel
theorem dX12_levelOn_26 : decode cX12_levelOn 26 = .ok (.iload_n 1, 1) := by decide +kernel
theorem dX12_levelOn_27 : decode cX12_levelOn 27 = .ok (.lshr, 1) := by decide +kernel
theorem dX12_levelOn_28 : decode cX12_levelOn 28 = .ok (.lconst 1, 1) := by decide +kernel
theorem dX12_levelOn_29 : decode cX12_levelOn 29 = .ok (.land, 1) := by decide +kernel
theorem dX12_levelOn_30 : decode cX12_levelOn 30 = .ok (.lconst 1, 1) := by decide +kernel
theorem dX12_levelOn_31 : decode cX12_levelOn 31 = .ok (.lcmp, 1) := by decide +kernel
theorem dX12_levelOn_32 : decode cX12_levelOn 32 = .ok (.ifCond .ne 7, 3) := by decide +kernel
theorem dX12_levelOn_35 : decode cX12_levelOn 35 = .ok (.iconst 1, 1) := by decide +kernel
theorem dX12_levelOn_36 : decode cX12_levelOn 36 = .ok (.goto 4, 3) := by decide +kernel
theorem dX12_levelOn_39 : decode cX12_levelOn 39 = .ok (.iconst 0, 1) := by decide +kernel
theorem dX12_levelOn_40 : decode cX12_levelOn 40 = .ok (.iadd, 1) := by decide +kernel
theorem dX12_levelOn_41 : decode cX12_levelOn 41 = .ok (.aload_n 0, 1) := by decide +kernel
theorem dX12_levelOn_42 : decode cX12_levelOn 42 = .ok (.getfield 155, 3) := by decide +kernel
theorem dX12_levelOn_45 : decode cX12_levelOn 45 = .ok (.isub, 1) := by decide +kernel
theorem dX12_levelOn_46 : decode cX12_levelOn 46 = .ok (.istore_n 2, 1) := by decide +kernel
theorem dX12_levelOn_47 : decode cX12_levelOn 47 = .ok (.iload_n 2, 1) := by decide +kernel
theorem dX12_levelOn_48 : decode cX12_levelOn 48 = .ok (.ifCond .le 7, 3) := by decide +kernel
theorem dX12_levelOn_51 : decode cX12_levelOn 51 = .ok (.iload_n 2, 1) := by decide +kernel
theorem dX12_levelOn_52 : decode cX12_levelOn 52 = .ok (.goto 4, 3) := by decide +kernel
theorem dX12_levelOn_55 : decode cX12_levelOn 55 = .ok (.iconst 0, 1) := by decide +kernel
theorem dX12_levelOn_56 : decode cX12_levelOn 56 = .ok (.ireturn, 1) := by decide +kernel
theorem dX12_breathOn_0 : decode cX12_breathOn 0 = .ok (.aload_n 0, 1) := by decide +kernel
theorem dX12_breathOn_1 : decode cX12_breathOn 1 = .ok (.iload_n 2, 1) := by decide +kernel
theorem dX12_breathOn_2 : decode cX12_breathOn 2 = .ok (.invokevirtual 158, 3) := by decide +kernel
theorem dX12_breathOn_5 : decode cX12_breathOn 5 = .ok (.aload_n 0, 1) := by decide +kernel
theorem dX12_breathOn_6 : decode cX12_breathOn 6 = .ok (.getfield 7, 3) := by decide +kernel
theorem dX12_breathOn_9 : decode cX12_breathOn 9 = .ok (.iload_n 1, 1) := by decide +kernel
theorem dX12_breathOn_10 : decode cX12_breathOn 10 = .ok (.iaload, 1) := by decide +kernel
theorem dX12_breathOn_11 : decode cX12_breathOn 11 = .ok (.isub, 1) := by decide +kernel
theorem dX12_breathOn_12 : decode cX12_breathOn 12 = .ok (.istore_n 3, 1) := by decide +kernel
theorem dX12_breathOn_13 : decode cX12_breathOn 13 = .ok (.aload_n 0, 1) := by decide +kernel
theorem dX12_breathOn_14 : decode cX12_breathOn 14 = .ok (.getfield 88, 3) := by decide +kernel
theorem dX12_breathOn_17 : decode cX12_breathOn 17 = .ok (.iload_n 1, 1) := by decide +kernel
theorem dX12_breathOn_18 : decode cX12_breathOn 18 = .ok (.ishr, 1) := by decide +kernel
theorem dX12_breathOn_19 : decode cX12_breathOn 19 = .ok (.iconst 1, 1) := by decide +kernel
theorem dX12_breathOn_20 : decode cX12_breathOn 20 = .ok (.iand, 1) := by decide +kernel
theorem dX12_breathOn_21 : decode cX12_breathOn 21 = .ok (.iconst 1, 1) := by decide +kernel
theorem dX12_breathOn_22 : decode cX12_breathOn 22 = .ok (.if_icmp .eq 7, 3) := by decide +kernel
theorem dX12_breathOn_25 : decode cX12_breathOn 25 = .ok (.iload_n 3, 1) := by decide +kernel
theorem dX12_breathOn_26 : decode cX12_breathOn 26 = .ok (.ifCond .ge 7, 3) := by decide +kernel
theorem dX12_breathOn_29 : decode cX12_breathOn 29 = .ok (.iconst 0, 1) := by decide +kernel
theorem dX12_breathOn_30 : decode cX12_breathOn 30 = .ok (.goto 4, 3) := by decide +kernel
theorem dX12_breathOn_33 : decode cX12_breathOn 33 = .ok (.iload_n 3, 1) := by decide +kernel
theorem dX12_breathOn_34 : decode cX12_breathOn 34 = .ok (.ireturn, 1) := by decide +kernel
theorem dX12_rise_0 : decode cX12_rise 0 = .ok (.aload_n 0, 1) := by decide +kernel
theorem dX12_rise_1 : decode cX12_rise 1 = .ok (.iload_n 2, 1) := by decide +kernel
theorem dX12_rise_2 : decode cX12_rise 2 = .ok (.iload_n 3, 1) := by decide +kernel
theorem dX12_rise_3 : decode cX12_rise 3 = .ok (.invokevirtual 161, 3) := by decide +kernel
theorem dX12_rise_6 : decode cX12_rise 6 = .ok (.aload_n 0, 1) := by decide +kernel
theorem dX12_rise_7 : decode cX12_rise 7 = .ok (.getfield 22, 3) := by decide +kernel
theorem dX12_rise_10 : decode cX12_rise 10 = .ok (.iload_n 1, 1) := by decide +kernel
theorem dX12_rise_11 : decode cX12_rise 11 = .ok (.iaload, 1) := by decide +kernel
theorem dX12_rise_12 : decode cX12_rise 12 = .ok (.isub, 1) := by decide +kernel
theorem dX12_rise_13 : decode cX12_rise 13 = .ok (.istore 4, 2) := by decide +kernel
theorem dX12_rise_15 : decode cX12_rise 15 = .ok (.iload 4, 2) := by decide +kernel
theorem dX12_rise_17 : decode cX12_rise 17 = .ok (.ifCond .le 8, 3) := by decide +kernel
theorem dX12_rise_20 : decode cX12_rise 20 = .ok (.iload 4, 2) := by decide +kernel
theorem dX12_rise_22 : decode cX12_rise 22 = .ok (.goto 4, 3) := by decide +kernel
theorem dX12_rise_25 : decode cX12_rise 25 = .ok (.iconst 0, 1) := by decide +kernel
theorem dX12_rise_26 : decode cX12_rise 26 = .ok (.ireturn, 1) := by decide +kernel
theorem dX12_upTo_0 : decode cX12_upTo 0 = .ok (.iload_n 0, 1) := by decide +kernel
theorem dX12_upTo_1 : decode cX12_upTo 1 = .ok (.bipush 99, 2) := by decide +kernel
theorem dX12_upTo_3 : decode cX12_upTo 3 = .ok (.if_icmp .ge 7, 3) := by decide +kernel
theorem dX12_upTo_6 : decode cX12_upTo 6 = .ok (.iload_n 0, 1) := by decide +kernel
theorem dX12_upTo_7 : decode cX12_upTo 7 = .ok (.goto 5, 3) := by decide +kernel
theorem dX12_upTo_10 : decode cX12_upTo 10 = .ok (.bipush 99, 2) := by decide +kernel
theorem dX12_upTo_12 : decode cX12_upTo 12 = .ok (.ireturn, 1) := by decide +kernel
theorem dX12_acidIn_0 : decode cX12_acidIn 0 = .ok (.iconst 0, 1) := by decide +kernel
theorem dX12_acidIn_1 : decode cX12_acidIn 1 = .ok (.istore 4, 2) := by decide +kernel
theorem dX12_acidIn_3 : decode cX12_acidIn 3 = .ok (.iconst 0, 1) := by decide +kernel
theorem dX12_acidIn_4 : decode cX12_acidIn 4 = .ok (.istore 5, 2) := by decide +kernel
theorem dX12_acidIn_6 : decode cX12_acidIn 6 = .ok (.iload 5, 2) := by decide +kernel
theorem dX12_acidIn_8 : decode cX12_acidIn 8 = .ok (.iload_n 3, 1) := by decide +kernel
theorem dX12_acidIn_9 : decode cX12_acidIn 9 = .ok (.if_icmp .ge 25, 3) := by decide +kernel
theorem dX12_acidIn_12 : decode cX12_acidIn 12 = .ok (.iload 4, 2) := by decide +kernel
theorem dX12_acidIn_14 : decode cX12_acidIn 14 = .ok (.aload_n 0, 1) := by decide +kernel
theorem dX12_acidIn_15 : decode cX12_acidIn 15 = .ok (.iload_n 1, 1) := by decide +kernel
theorem dX12_acidIn_16 : decode cX12_acidIn 16 = .ok (.iload_n 2, 1) := by decide +kernel
theorem dX12_acidIn_17 : decode cX12_acidIn 17 = .ok (.iload 5, 2) := by decide +kernel
theorem dX12_acidIn_19 : decode cX12_acidIn 19 = .ok (.invokevirtual 165, 3) := by decide +kernel
theorem dX12_acidIn_22 : decode cX12_acidIn 22 = .ok (.iadd, 1) := by decide +kernel
theorem dX12_acidIn_23 : decode cX12_acidIn 23 = .ok (.invokestatic 169, 3) := by decide +kernel
theorem dX12_acidIn_26 : decode cX12_acidIn 26 = .ok (.istore 4, 2) := by decide +kernel
theorem dX12_acidIn_28 : decode cX12_acidIn 28 = .ok (.iinc 5 1, 3) := by decide +kernel
theorem dX12_acidIn_31 : decode cX12_acidIn 31 = .ok (.goto (-25), 3) := by decide +kernel
theorem dX12_acidIn_34 : decode cX12_acidIn 34 = .ok (.iload 4, 2) := by decide +kernel
theorem dX12_acidIn_36 : decode cX12_acidIn 36 = .ok (.ireturn, 1) := by decide +kernel
theorem dX12_acidBehind_0 : decode cX12_acidBehind 0 = .ok (.aload_n 0, 1) := by decide +kernel
theorem dX12_acidBehind_1 : decode cX12_acidBehind 1 = .ok (.iload_n 1, 1) := by decide +kernel
theorem dX12_acidBehind_2 : decode cX12_acidBehind 2 = .ok (.aload_n 0, 1) := by decide +kernel
theorem dX12_acidBehind_3 : decode cX12_acidBehind 3 = .ok (.getfield 16, 3) := by decide +kernel
theorem dX12_acidBehind_6 : decode cX12_acidBehind 6 = .ok (.iload_n 1, 1) := by decide +kernel
theorem dX12_acidBehind_7 : decode cX12_acidBehind 7 = .ok (.iaload, 1) := by decide +kernel
theorem dX12_acidBehind_8 : decode cX12_acidBehind 8 = .ok (.iload_n 2, 1) := by decide +kernel
theorem dX12_acidBehind_9 : decode cX12_acidBehind 9 = .ok (.invokevirtual 172, 3) := by decide +kernel
theorem dX12_acidBehind_12 : decode cX12_acidBehind 12 = .ok (.ireturn, 1) := by decide +kernel
theorem dX12_isDays_0 : decode cX12_isDays 0 = .ok (.iload_n 0, 1) := by decide +kernel
theorem dX12_isDays_1 : decode cX12_isDays 1 = .ok (.i2l, 1) := by decide +kernel
theorem dX12_isDays_2 : decode cX12_isDays 2 = .ok (.lconst 0, 1) := by decide +kernel
theorem dX12_isDays_3 : decode cX12_isDays 3 = .ok (.ldc2_w 175, 3) := by decide +kernel
theorem dX12_isDays_6 : decode cX12_isDays 6 = .ok (.invokestatic 97, 3) := by decide +kernel
theorem dX12_isDays_9 : decode cX12_isDays 9 = .ok (.ireturn, 1) := by decide +kernel
theorem dX12_level_0 : decode cX12_level 0 = .ok (.iload_n 1, 1) := by decide +kernel
theorem dX12_level_1 : decode cX12_level 1 = .ok (.invokestatic 177, 3) := by decide +kernel
theorem dX12_level_4 : decode cX12_level 4 = .ok (.ifCond .eq 11, 3) := by decide +kernel
theorem dX12_level_7 : decode cX12_level 7 = .ok (.aload_n 0, 1) := by decide +kernel
theorem dX12_level_8 : decode cX12_level 8 = .ok (.iload_n 1, 1) := by decide +kernel
theorem dX12_level_9 : decode cX12_level 9 = .ok (.invokevirtual 158, 3) := by decide +kernel
theorem dX12_level_12 : decode cX12_level 12 = .ok (.goto 5, 3) := by decide +kernel
theorem dX12_level_15 : decode cX12_level 15 = .ok (.bipush (-2), 2) := by decide +kernel
theorem dX12_level_17 : decode cX12_level 17 = .ok (.ireturn, 1) := by decide +kernel
theorem dX12_breath_0 : decode cX12_breath 0 = .ok (.aload_n 0, 1) := by decide +kernel
theorem dX12_breath_1 : decode cX12_breath 1 = .ok (.iload_n 1, 1) := by decide +kernel
theorem dX12_breath_2 : decode cX12_breath 2 = .ok (.invokevirtual 112, 3) := by decide +kernel
theorem dX12_breath_5 : decode cX12_breath 5 = .ok (.ifCond .ne 5, 3) := by decide +kernel
theorem dX12_breath_8 : decode cX12_breath 8 = .ok (.iconst (-1), 1) := by decide +kernel
theorem dX12_breath_9 : decode cX12_breath 9 = .ok (.ireturn, 1) := by decide +kernel
theorem dX12_breath_10 : decode cX12_breath 10 = .ok (.iload_n 2, 1) := by decide +kernel
theorem dX12_breath_11 : decode cX12_breath 11 = .ok (.invokestatic 177, 3) := by decide +kernel
theorem dX12_breath_14 : decode cX12_breath 14 = .ok (.ifCond .eq 12, 3) := by decide +kernel
theorem dX12_breath_17 : decode cX12_breath 17 = .ok (.aload_n 0, 1) := by decide +kernel
theorem dX12_breath_18 : decode cX12_breath 18 = .ok (.iload_n 1, 1) := by decide +kernel
theorem dX12_breath_19 : decode cX12_breath 19 = .ok (.iload_n 2, 1) := by decide +kernel
theorem dX12_breath_20 : decode cX12_breath 20 = .ok (.invokevirtual 161, 3) := by decide +kernel
theorem dX12_breath_23 : decode cX12_breath 23 = .ok (.goto 5, 3) := by decide +kernel
theorem dX12_breath_26 : decode cX12_breath 26 = .ok (.bipush (-2), 2) := by decide +kernel
theorem dX12_breath_28 : decode cX12_breath 28 = .ok (.ireturn, 1) := by decide +kernel
theorem dX12_far_0 : decode cX12_far 0 = .ok (.aload_n 0, 1) := by decide +kernel
theorem dX12_far_1 : decode cX12_far 1 = .ok (.getfield 7, 3) := by decide +kernel
theorem dX12_far_4 : decode cX12_far 4 = .ok (.iload_n 1, 1) := by decide +kernel
theorem dX12_far_5 : decode cX12_far 5 = .ok (.iaload, 1) := by decide +kernel
theorem dX12_far_6 : decode cX12_far 6 = .ok (.aload_n 0, 1) := by decide +kernel
theorem dX12_far_7 : decode cX12_far 7 = .ok (.getfield 7, 3) := by decide +kernel
theorem dX12_far_10 : decode cX12_far 10 = .ok (.iload_n 2, 1) := by decide +kernel
theorem dX12_far_11 : decode cX12_far 11 = .ok (.iaload, 1) := by decide +kernel
theorem dX12_far_12 : decode cX12_far 12 = .ok (.isub, 1) := by decide +kernel
theorem dX12_far_13 : decode cX12_far 13 = .ok (.istore_n 3, 1) := by decide +kernel
theorem dX12_far_14 : decode cX12_far 14 = .ok (.iload_n 3, 1) := by decide +kernel
theorem dX12_far_15 : decode cX12_far 15 = .ok (.ifCond .ge 8, 3) := by decide +kernel
theorem dX12_far_18 : decode cX12_far 18 = .ok (.iload_n 3, 1) := by decide +kernel
theorem dX12_far_19 : decode cX12_far 19 = .ok (.ineg, 1) := by decide +kernel
theorem dX12_far_20 : decode cX12_far 20 = .ok (.goto 4, 3) := by decide +kernel
theorem dX12_far_23 : decode cX12_far 23 = .ok (.iload_n 3, 1) := by decide +kernel
theorem dX12_far_24 : decode cX12_far 24 = .ok (.ireturn, 1) := by decide +kernel
theorem dX12_workOf_0 : decode cX12_workOf 0 = .ok (.aload_n 0, 1) := by decide +kernel
theorem dX12_workOf_1 : decode cX12_workOf 1 = .ok (.getfield 19, 3) := by decide +kernel
theorem dX12_workOf_4 : decode cX12_workOf 4 = .ok (.iload_n 1, 1) := by decide +kernel
theorem dX12_workOf_5 : decode cX12_workOf 5 = .ok (.iaload, 1) := by decide +kernel
theorem dX12_workOf_6 : decode cX12_workOf 6 = .ok (.aload_n 0, 1) := by decide +kernel
theorem dX12_workOf_7 : decode cX12_workOf 7 = .ok (.iload_n 2, 1) := by decide +kernel
theorem dX12_workOf_8 : decode cX12_workOf 8 = .ok (.iload_n 3, 1) := by decide +kernel
theorem dX12_workOf_9 : decode cX12_workOf 9 = .ok (.invokevirtual 180, 3) := by decide +kernel
theorem dX12_workOf_12 : decode cX12_workOf 12 = .ok (.iconst 1, 1) := by decide +kernel
theorem dX12_workOf_13 : decode cX12_workOf 13 = .ok (.iadd, 1) := by decide +kernel
theorem dX12_workOf_14 : decode cX12_workOf 14 = .ok (.imul, 1) := by decide +kernel
theorem dX12_workOf_15 : decode cX12_workOf 15 = .ok (.ireturn, 1) := by decide +kernel
theorem dX12_takenIn_0 : decode cX12_takenIn 0 = .ok (.iconst 0, 1) := by decide +kernel
theorem dX12_takenIn_1 : decode cX12_takenIn 1 = .ok (.istore_n 2, 1) := by decide +kernel
theorem dX12_takenIn_2 : decode cX12_takenIn 2 = .ok (.iconst 0, 1) := by decide +kernel
theorem dX12_takenIn_3 : decode cX12_takenIn 3 = .ok (.istore_n 3, 1) := by decide +kernel
theorem dX12_takenIn_4 : decode cX12_takenIn 4 = .ok (.iload_n 3, 1) := by decide +kernel
theorem dX12_takenIn_5 : decode cX12_takenIn 5 = .ok (.bipush 8, 2) := by decide +kernel
theorem dX12_takenIn_7 : decode cX12_takenIn 7 = .ok (.if_icmp .ge 35, 3) := by decide +kernel
theorem dX12_takenIn_10 : decode cX12_takenIn 10 = .ok (.iload_n 2, 1) := by decide +kernel
theorem dX12_takenIn_11 : decode cX12_takenIn 11 = .ok (.aload_n 0, 1) := by decide +kernel
theorem dX12_takenIn_12 : decode cX12_takenIn 12 = .ok (.iload_n 3, 1) := by decide +kernel
theorem dX12_takenIn_13 : decode cX12_takenIn 13 = .ok (.invokevirtual 107, 3) := by decide +kernel
theorem dX12_takenIn_16 : decode cX12_takenIn 16 = .ok (.ifCond .eq 17, 3) := by decide +kernel
theorem dX12_takenIn_19 : decode cX12_takenIn 19 = .ok (.aload_n 0, 1) := by decide +kernel
theorem dX12_takenIn_20 : decode cX12_takenIn 20 = .ok (.getfield 46, 3) := by decide +kernel
theorem dX12_takenIn_23 : decode cX12_takenIn 23 = .ok (.iload_n 3, 1) := by decide +kernel
theorem dX12_takenIn_24 : decode cX12_takenIn 24 = .ok (.iaload, 1) := by decide +kernel
theorem dX12_takenIn_25 : decode cX12_takenIn 25 = .ok (.iload_n 1, 1) := by decide +kernel
theorem dX12_takenIn_26 : decode cX12_takenIn 26 = .ok (.if_icmp .ne 7, 3) := by decide +kernel
theorem dX12_takenIn_29 : decode cX12_takenIn 29 = .ok (.iconst 1, 1) := by decide +kernel
theorem dX12_takenIn_30 : decode cX12_takenIn 30 = .ok (.goto 4, 3) := by decide +kernel
theorem dX12_takenIn_33 : decode cX12_takenIn 33 = .ok (.iconst 0, 1) := by decide +kernel
theorem dX12_takenIn_34 : decode cX12_takenIn 34 = .ok (.iadd, 1) := by decide +kernel
theorem dX12_takenIn_35 : decode cX12_takenIn 35 = .ok (.istore_n 2, 1) := by decide +kernel
theorem dX12_takenIn_36 : decode cX12_takenIn 36 = .ok (.iinc 3 1, 3) := by decide +kernel
theorem dX12_takenIn_39 : decode cX12_takenIn 39 = .ok (.goto (-35), 3) := by decide +kernel
theorem dX12_takenIn_42 : decode cX12_takenIn 42 = .ok (.iload_n 2, 1) := by decide +kernel
theorem dX12_takenIn_43 : decode cX12_takenIn 43 = .ok (.ireturn, 1) := by decide +kernel
theorem dX12_passDay_0 : decode cX12_passDay 0 = .ok (.iconst 0, 1) := by decide +kernel
theorem dX12_passDay_1 : decode cX12_passDay 1 = .ok (.istore_n 1, 1) := by decide +kernel
theorem dX12_passDay_2 : decode cX12_passDay 2 = .ok (.iload_n 1, 1) := by decide +kernel
theorem dX12_passDay_3 : decode cX12_passDay 3 = .ok (.bipush 8, 2) := by decide +kernel
theorem dX12_passDay_5 : decode cX12_passDay 5 = .ok (.if_icmp .ge 52, 3) := by decide +kernel
theorem dX12_passDay_8 : decode cX12_passDay 8 = .ok (.aload_n 0, 1) := by decide +kernel
theorem dX12_passDay_9 : decode cX12_passDay 9 = .ok (.getfield 49, 3) := by decide +kernel
theorem dX12_passDay_12 : decode cX12_passDay 12 = .ok (.iload_n 1, 1) := by decide +kernel
theorem dX12_passDay_13 : decode cX12_passDay 13 = .ok (.aload_n 0, 1) := by decide +kernel
theorem dX12_passDay_14 : decode cX12_passDay 14 = .ok (.iload_n 1, 1) := by decide +kernel
theorem dX12_passDay_15 : decode cX12_passDay 15 = .ok (.invokevirtual 107, 3) := by decide +kernel
theorem dX12_passDay_18 : decode cX12_passDay 18 = .ok (.ifCond .eq 31, 3) := by decide +kernel
theorem dX12_passDay_21 : decode cX12_passDay 21 = .ok (.aload_n 0, 1) := by decide +kernel
theorem dX12_passDay_22 : decode cX12_passDay 22 = .ok (.getfield 49, 3) := by decide +kernel
theorem dX12_passDay_25 : decode cX12_passDay 25 = .ok (.iload_n 1, 1) := by decide +kernel
theorem dX12_passDay_26 : decode cX12_passDay 26 = .ok (.iaload, 1) := by decide +kernel
theorem dX12_passDay_27 : decode cX12_passDay 27 = .ok (.aload_n 0, 1) := by decide +kernel
theorem dX12_passDay_28 : decode cX12_passDay 28 = .ok (.iload_n 1, 1) := by decide +kernel
theorem dX12_passDay_29 : decode cX12_passDay 29 = .ok (.aload_n 0, 1) := by decide +kernel
theorem dX12_passDay_30 : decode cX12_passDay 30 = .ok (.getfield 46, 3) := by decide +kernel
theorem dX12_passDay_33 : decode cX12_passDay 33 = .ok (.iload_n 1, 1) := by decide +kernel
theorem dX12_passDay_34 : decode cX12_passDay 34 = .ok (.iaload, 1) := by decide +kernel
theorem dX12_passDay_35 : decode cX12_passDay 35 = .ok (.aload_n 0, 1) := by decide +kernel
theorem dX12_passDay_36 : decode cX12_passDay 36 = .ok (.getfield 183, 3) := by decide +kernel
theorem dX12_passDay_39 : decode cX12_passDay 39 = .ok (.invokevirtual 165, 3) := by decide +kernel
theorem dX12_passDay_42 : decode cX12_passDay 42 = .ok (.iadd, 1) := by decide +kernel
theorem dX12_passDay_43 : decode cX12_passDay 43 = .ok (.invokestatic 169, 3) := by decide +kernel
theorem dX12_passDay_46 : decode cX12_passDay 46 = .ok (.goto 4, 3) := by decide +kernel
theorem dX12_passDay_49 : decode cX12_passDay 49 = .ok (.iconst 0, 1) := by decide +kernel
theorem dX12_passDay_50 : decode cX12_passDay 50 = .ok (.iastore, 1) := by decide +kernel
theorem dX12_passDay_51 : decode cX12_passDay 51 = .ok (.iinc 1 1, 3) := by decide +kernel
theorem dX12_passDay_54 : decode cX12_passDay 54 = .ok (.goto (-52), 3) := by decide +kernel
theorem dX12_passDay_57 : decode cX12_passDay 57 = .ok (.aload_n 0, 1) := by decide +kernel
theorem dX12_passDay_58 : decode cX12_passDay 58 = .ok (.dup, 1) := by decide +kernel
theorem dX12_passDay_59 : decode cX12_passDay 59 = .ok (.getfield 183, 3) := by decide +kernel
theorem dX12_passDay_62 : decode cX12_passDay 62 = .ok (.iconst 1, 1) := by decide +kernel
theorem dX12_passDay_63 : decode cX12_passDay 63 = .ok (.iadd, 1) := by decide +kernel
theorem dX12_passDay_64 : decode cX12_passDay 64 = .ok (.putfield 183, 3) := by decide +kernel
theorem dX12_passDay_67 : decode cX12_passDay 67 = .ok (.aload_n 0, 1) := by decide +kernel
theorem dX12_passDay_68 : decode cX12_passDay 68 = .ok (.iconst 0, 1) := by decide +kernel
theorem dX12_passDay_69 : decode cX12_passDay 69 = .ok (.putfield 186, 3) := by decide +kernel
theorem dX12_passDay_72 : decode cX12_passDay 72 = .ok (.return_, 1) := by decide +kernel
theorem dX12_tryMove_0 : decode cX12_tryMove 0 = .ok (.aload_n 0, 1) := by decide +kernel
theorem dX12_tryMove_1 : decode cX12_tryMove 1 = .ok (.iload_n 1, 1) := by decide +kernel
theorem dX12_tryMove_2 : decode cX12_tryMove 2 = .ok (.invokevirtual 107, 3) := by decide +kernel
theorem dX12_tryMove_5 : decode cX12_tryMove 5 = .ok (.ifCond .ne 5, 3) := by decide +kernel
theorem dX12_tryMove_8 : decode cX12_tryMove 8 = .ok (.iconst 1, 1) := by decide +kernel
theorem dX12_tryMove_9 : decode cX12_tryMove 9 = .ok (.ireturn, 1) := by decide +kernel
theorem dX12_tryMove_10 : decode cX12_tryMove 10 = .ok (.aload_n 0, 1) := by decide +kernel
theorem dX12_tryMove_11 : decode cX12_tryMove 11 = .ok (.getfield 46, 3) := by decide +kernel
theorem dX12_tryMove_14 : decode cX12_tryMove 14 = .ok (.iload_n 1, 1) := by decide +kernel
theorem dX12_tryMove_15 : decode cX12_tryMove 15 = .ok (.iaload, 1) := by decide +kernel
theorem dX12_tryMove_16 : decode cX12_tryMove 16 = .ok (.iload_n 2, 1) := by decide +kernel
theorem dX12_tryMove_17 : decode cX12_tryMove 17 = .ok (.if_icmp .ne 5, 3) := by decide +kernel
theorem dX12_tryMove_20 : decode cX12_tryMove 20 = .ok (.iconst 2, 1) := by decide +kernel
theorem dX12_tryMove_21 : decode cX12_tryMove 21 = .ok (.ireturn, 1) := by decide +kernel
theorem dX12_tryMove_22 : decode cX12_tryMove 22 = .ok (.aload_n 0, 1) := by decide +kernel
theorem dX12_tryMove_23 : decode cX12_tryMove 23 = .ok (.iload_n 2, 1) := by decide +kernel
theorem dX12_tryMove_24 : decode cX12_tryMove 24 = .ok (.invokevirtual 189, 3) := by decide +kernel
theorem dX12_tryMove_27 : decode cX12_tryMove 27 = .ok (.aload_n 0, 1) := by decide +kernel
theorem dX12_tryMove_28 : decode cX12_tryMove 28 = .ok (.getfield 13, 3) := by decide +kernel
theorem dX12_tryMove_31 : decode cX12_tryMove 31 = .ok (.iload_n 2, 1) := by decide +kernel
theorem dX12_tryMove_32 : decode cX12_tryMove 32 = .ok (.iaload, 1) := by decide +kernel
theorem dX12_tryMove_33 : decode cX12_tryMove 33 = .ok (.if_icmp .lt 5, 3) := by decide +kernel
theorem dX12_tryMove_36 : decode cX12_tryMove 36 = .ok (.iconst 3, 1) := by decide +kernel
theorem dX12_tryMove_37 : decode cX12_tryMove 37 = .ok (.ireturn, 1) := by decide +kernel
theorem dX12_tryMove_38 : decode cX12_tryMove 38 = .ok (.aload_n 0, 1) := by decide +kernel
theorem dX12_tryMove_39 : decode cX12_tryMove 39 = .ok (.iload_n 1, 1) := by decide +kernel
theorem dX12_tryMove_40 : decode cX12_tryMove 40 = .ok (.aload_n 0, 1) := by decide +kernel
theorem dX12_tryMove_41 : decode cX12_tryMove 41 = .ok (.getfield 46, 3) := by decide +kernel
theorem dX12_tryMove_44 : decode cX12_tryMove 44 = .ok (.iload_n 1, 1) := by decide +kernel
theorem dX12_tryMove_45 : decode cX12_tryMove 45 = .ok (.iaload, 1) := by decide +kernel
theorem dX12_tryMove_46 : decode cX12_tryMove 46 = .ok (.iload_n 2, 1) := by decide +kernel
theorem dX12_tryMove_47 : decode cX12_tryMove 47 = .ok (.invokevirtual 192, 3) := by decide +kernel
theorem dX12_tryMove_50 : decode cX12_tryMove 50 = .ok (.istore 4, 2) := by decide +kernel
theorem dX12_tryMove_52 : decode cX12_tryMove 52 = .ok (.aload_n 0, 1) := by decide +kernel
theorem dX12_tryMove_53 : decode cX12_tryMove 53 = .ok (.getfield 186, 3) := by decide +kernel
theorem dX12_tryMove_56 : decode cX12_tryMove 56 = .ok (.iload 4, 2) := by decide +kernel
theorem dX12_tryMove_58 : decode cX12_tryMove 58 = .ok (.iadd, 1) := by decide +kernel
theorem dX12_tryMove_59 : decode cX12_tryMove 59 = .ok (.iload_n 3, 1) := by decide +kernel
theorem dX12_tryMove_60 : decode cX12_tryMove 60 = .ok (.if_icmp .le 5, 3) := by decide +kernel
theorem dX12_tryMove_63 : decode cX12_tryMove 63 = .ok (.iconst 4, 1) := by decide +kernel
theorem dX12_tryMove_64 : decode cX12_tryMove 64 = .ok (.ireturn, 1) := by decide +kernel
theorem dX12_tryMove_65 : decode cX12_tryMove 65 = .ok (.aload_n 0, 1) := by decide +kernel
theorem dX12_tryMove_66 : decode cX12_tryMove 66 = .ok (.getfield 46, 3) := by decide +kernel
theorem dX12_tryMove_69 : decode cX12_tryMove 69 = .ok (.iload_n 1, 1) := by decide +kernel
theorem dX12_tryMove_70 : decode cX12_tryMove 70 = .ok (.iload_n 2, 1) := by decide +kernel
theorem dX12_tryMove_71 : decode cX12_tryMove 71 = .ok (.iastore, 1) := by decide +kernel
theorem dX12_tryMove_72 : decode cX12_tryMove 72 = .ok (.aload_n 0, 1) := by decide +kernel
theorem dX12_tryMove_73 : decode cX12_tryMove 73 = .ok (.dup, 1) := by decide +kernel
theorem dX12_tryMove_74 : decode cX12_tryMove 74 = .ok (.getfield 195, 3) := by decide +kernel
theorem dX12_tryMove_77 : decode cX12_tryMove 77 = .ok (.iload 4, 2) := by decide +kernel
theorem dX12_tryMove_79 : decode cX12_tryMove 79 = .ok (.iadd, 1) := by decide +kernel
theorem dX12_tryMove_80 : decode cX12_tryMove 80 = .ok (.putfield 195, 3) := by decide +kernel
theorem dX12_tryMove_83 : decode cX12_tryMove 83 = .ok (.aload_n 0, 1) := by decide +kernel
theorem dX12_tryMove_84 : decode cX12_tryMove 84 = .ok (.dup, 1) := by decide +kernel
theorem dX12_tryMove_85 : decode cX12_tryMove 85 = .ok (.getfield 186, 3) := by decide +kernel
theorem dX12_tryMove_88 : decode cX12_tryMove 88 = .ok (.iload 4, 2) := by decide +kernel
theorem dX12_tryMove_90 : decode cX12_tryMove 90 = .ok (.iadd, 1) := by decide +kernel
theorem dX12_tryMove_91 : decode cX12_tryMove 91 = .ok (.putfield 186, 3) := by decide +kernel
theorem dX12_tryMove_94 : decode cX12_tryMove 94 = .ok (.aload_n 0, 1) := by decide +kernel
theorem dX12_tryMove_95 : decode cX12_tryMove 95 = .ok (.aload_n 0, 1) := by decide +kernel
theorem dX12_tryMove_96 : decode cX12_tryMove 96 = .ok (.getfield 186, 3) := by decide +kernel
theorem dX12_tryMove_99 : decode cX12_tryMove 99 = .ok (.aload_n 0, 1) := by decide +kernel
theorem dX12_tryMove_100 : decode cX12_tryMove 100 = .ok (.getfield 198, 3) := by decide +kernel
theorem dX12_tryMove_103 : decode cX12_tryMove 103 = .ok (.if_icmp .le 10, 3) := by decide +kernel
theorem dX12_tryMove_106 : decode cX12_tryMove 106 = .ok (.aload_n 0, 1) := by decide +kernel
theorem dX12_tryMove_107 : decode cX12_tryMove 107 = .ok (.getfield 186, 3) := by decide +kernel
theorem dX12_tryMove_110 : decode cX12_tryMove 110 = .ok (.goto 7, 3) := by decide +kernel
theorem dX12_tryMove_113 : decode cX12_tryMove 113 = .ok (.aload_n 0, 1) := by decide +kernel
theorem dX12_tryMove_114 : decode cX12_tryMove 114 = .ok (.getfield 198, 3) := by decide +kernel
theorem dX12_tryMove_117 : decode cX12_tryMove 117 = .ok (.putfield 198, 3) := by decide +kernel
theorem dX12_tryMove_120 : decode cX12_tryMove 120 = .ok (.iconst 0, 1) := by decide +kernel
theorem dX12_tryMove_121 : decode cX12_tryMove 121 = .ok (.ireturn, 1) := by decide +kernel
theorem dX12_goMoves_0 : decode cX12_goMoves 0 = .ok (.iconst 0, 1) := by decide +kernel
theorem dX12_goMoves_1 : decode cX12_goMoves 1 = .ok (.istore_n 2, 1) := by decide +kernel
theorem dX12_goMoves_2 : decode cX12_goMoves 2 = .ok (.iload_n 2, 1) := by decide +kernel
theorem dX12_goMoves_3 : decode cX12_goMoves 3 = .ok (.bipush 8, 2) := by decide +kernel
theorem dX12_goMoves_5 : decode cX12_goMoves 5 = .ok (.if_icmp .ge 28, 3) := by decide +kernel
theorem dX12_goMoves_8 : decode cX12_goMoves 8 = .ok (.aload_n 0, 1) := by decide +kernel
theorem dX12_goMoves_9 : decode cX12_goMoves 9 = .ok (.getfield 46, 3) := by decide +kernel
theorem dX12_goMoves_12 : decode cX12_goMoves 12 = .ok (.iload_n 2, 1) := by decide +kernel
theorem dX12_goMoves_13 : decode cX12_goMoves 13 = .ok (.aload_n 0, 1) := by decide +kernel
theorem dX12_goMoves_14 : decode cX12_goMoves 14 = .ok (.getfield 16, 3) := by decide +kernel
theorem dX12_goMoves_17 : decode cX12_goMoves 17 = .ok (.iload_n 2, 1) := by decide +kernel
theorem dX12_goMoves_18 : decode cX12_goMoves 18 = .ok (.iaload, 1) := by decide +kernel
theorem dX12_goMoves_19 : decode cX12_goMoves 19 = .ok (.iastore, 1) := by decide +kernel
theorem dX12_goMoves_20 : decode cX12_goMoves 20 = .ok (.aload_n 0, 1) := by decide +kernel
theorem dX12_goMoves_21 : decode cX12_goMoves 21 = .ok (.getfield 49, 3) := by decide +kernel
theorem dX12_goMoves_24 : decode cX12_goMoves 24 = .ok (.iload_n 2, 1) := by decide +kernel
theorem dX12_goMoves_25 : decode cX12_goMoves 25 = .ok (.iconst 0, 1) := by decide +kernel
theorem dX12_goMoves_26 : decode cX12_goMoves 26 = .ok (.iastore, 1) := by decide +kernel
theorem dX12_goMoves_27 : decode cX12_goMoves 27 = .ok (.iinc 2 1, 3) := by decide +kernel
theorem dX12_goMoves_30 : decode cX12_goMoves 30 = .ok (.goto (-28), 3) := by decide +kernel
theorem dX12_goMoves_33 : decode cX12_goMoves 33 = .ok (.aload_n 0, 1) := by decide +kernel
theorem dX12_goMoves_34 : decode cX12_goMoves 34 = .ok (.bipush (-6), 2) := by decide +kernel
theorem dX12_goMoves_36 : decode cX12_goMoves 36 = .ok (.putfield 201, 3) := by decide +kernel
theorem dX12_goMoves_39 : decode cX12_goMoves 39 = .ok (.aload_n 0, 1) := by decide +kernel
theorem dX12_goMoves_40 : decode cX12_goMoves 40 = .ok (.bipush (-6), 2) := by decide +kernel
theorem dX12_goMoves_42 : decode cX12_goMoves 42 = .ok (.putfield 204, 3) := by decide +kernel
theorem dX12_goMoves_45 : decode cX12_goMoves 45 = .ok (.aload_n 0, 1) := by decide +kernel
theorem dX12_goMoves_46 : decode cX12_goMoves 46 = .ok (.iconst 0, 1) := by decide +kernel
theorem dX12_goMoves_47 : decode cX12_goMoves 47 = .ok (.putfield 195, 3) := by decide +kernel
theorem dX12_goMoves_50 : decode cX12_goMoves 50 = .ok (.aload_n 0, 1) := by decide +kernel
theorem dX12_goMoves_51 : decode cX12_goMoves 51 = .ok (.iconst 0, 1) := by decide +kernel
theorem dX12_goMoves_52 : decode cX12_goMoves 52 = .ok (.putfield 186, 3) := by decide +kernel
theorem dX12_goMoves_55 : decode cX12_goMoves 55 = .ok (.aload_n 0, 1) := by decide +kernel
theorem dX12_goMoves_56 : decode cX12_goMoves 56 = .ok (.iconst 0, 1) := by decide +kernel
theorem dX12_goMoves_57 : decode cX12_goMoves 57 = .ok (.putfield 198, 3) := by decide +kernel
theorem dX12_goMoves_60 : decode cX12_goMoves 60 = .ok (.aload_n 0, 1) := by decide +kernel
theorem dX12_goMoves_61 : decode cX12_goMoves 61 = .ok (.iconst 0, 1) := by decide +kernel
theorem dX12_goMoves_62 : decode cX12_goMoves 62 = .ok (.putfield 183, 3) := by decide +kernel
theorem dX12_goMoves_65 : decode cX12_goMoves 65 = .ok (.iconst 0, 1) := by decide +kernel
theorem dX12_goMoves_66 : decode cX12_goMoves 66 = .ok (.istore_n 2, 1) := by decide +kernel
theorem dX12_goMoves_67 : decode cX12_goMoves 67 = .ok (.iconst 0, 1) := by decide +kernel
theorem dX12_goMoves_68 : decode cX12_goMoves 68 = .ok (.istore_n 3, 1) := by decide +kernel
theorem dX12_goMoves_69 : decode cX12_goMoves 69 = .ok (.iload_n 3, 1) := by decide +kernel
theorem dX12_goMoves_70 : decode cX12_goMoves 70 = .ok (.aload_n 0, 1) := by decide +kernel
theorem dX12_goMoves_71 : decode cX12_goMoves 71 = .ok (.getfield 135, 3) := by decide +kernel
theorem dX12_goMoves_74 : decode cX12_goMoves 74 = .ok (.if_icmp .ge 98, 3) := by decide +kernel
theorem dX12_goMoves_77 : decode cX12_goMoves 77 = .ok (.aload_n 0, 1) := by decide +kernel
theorem dX12_goMoves_78 : decode cX12_goMoves 78 = .ok (.getfield 201, 3) := by decide +kernel
theorem dX12_goMoves_81 : decode cX12_goMoves 81 = .ok (.ifCond .ge 91, 3) := by decide +kernel
theorem dX12_goMoves_84 : decode cX12_goMoves 84 = .ok (.aload_n 0, 1) := by decide +kernel
theorem dX12_goMoves_85 : decode cX12_goMoves 85 = .ok (.getfield 43, 3) := by decide +kernel
theorem dX12_goMoves_88 : decode cX12_goMoves 88 = .ok (.iload_n 3, 1) := by decide +kernel
theorem dX12_goMoves_89 : decode cX12_goMoves 89 = .ok (.iaload, 1) := by decide +kernel
theorem dX12_goMoves_90 : decode cX12_goMoves 90 = .ok (.bipush 46, 2) := by decide +kernel
theorem dX12_goMoves_92 : decode cX12_goMoves 92 = .ok (.if_icmp .ne 10, 3) := by decide +kernel
theorem dX12_goMoves_95 : decode cX12_goMoves 95 = .ok (.aload_n 0, 1) := by decide +kernel
theorem dX12_goMoves_96 : decode cX12_goMoves 96 = .ok (.invokevirtual 207, 3) := by decide +kernel
theorem dX12_goMoves_99 : decode cX12_goMoves 99 = .ok (.goto 64, 3) := by decide +kernel
theorem dX12_goMoves_102 : decode cX12_goMoves 102 = .ok (.aload_n 0, 1) := by decide +kernel
theorem dX12_goMoves_103 : decode cX12_goMoves 103 = .ok (.aload_n 0, 1) := by decide +kernel
theorem dX12_goMoves_104 : decode cX12_goMoves 104 = .ok (.getfield 43, 3) := by decide +kernel
theorem dX12_goMoves_107 : decode cX12_goMoves 107 = .ok (.iload_n 3, 1) := by decide +kernel
theorem dX12_goMoves_108 : decode cX12_goMoves 108 = .ok (.iaload, 1) := by decide +kernel
theorem dX12_goMoves_109 : decode cX12_goMoves 109 = .ok (.bipush 48, 2) := by decide +kernel
theorem dX12_goMoves_111 : decode cX12_goMoves 111 = .ok (.isub, 1) := by decide +kernel
theorem dX12_goMoves_112 : decode cX12_goMoves 112 = .ok (.aload_n 0, 1) := by decide +kernel
theorem dX12_goMoves_113 : decode cX12_goMoves 113 = .ok (.getfield 43, 3) := by decide +kernel
theorem dX12_goMoves_116 : decode cX12_goMoves 116 = .ok (.iload_n 3, 1) := by decide +kernel
theorem dX12_goMoves_117 : decode cX12_goMoves 117 = .ok (.iconst 1, 1) := by decide +kernel
theorem dX12_goMoves_118 : decode cX12_goMoves 118 = .ok (.iadd, 1) := by decide +kernel
theorem dX12_goMoves_119 : decode cX12_goMoves 119 = .ok (.iaload, 1) := by decide +kernel
theorem dX12_goMoves_120 : decode cX12_goMoves 120 = .ok (.bipush 97, 2) := by decide +kernel
theorem dX12_goMoves_122 : decode cX12_goMoves 122 = .ok (.isub, 1) := by decide +kernel
theorem dX12_goMoves_123 : decode cX12_goMoves 123 = .ok (.iload_n 1, 1) := by decide +kernel
theorem dX12_goMoves_124 : decode cX12_goMoves 124 = .ok (.invokevirtual 210, 3) := by decide +kernel
theorem dX12_goMoves_127 : decode cX12_goMoves 127 = .ok (.istore 4, 2) := by decide +kernel
theorem dX12_goMoves_129 : decode cX12_goMoves 129 = .ok (.aload_n 0, 1) := by decide +kernel
theorem dX12_goMoves_130 : decode cX12_goMoves 130 = .ok (.iload 4, 2) := by decide +kernel
theorem dX12_goMoves_132 : decode cX12_goMoves 132 = .ok (.ifCond .le 7, 3) := by decide +kernel
theorem dX12_goMoves_135 : decode cX12_goMoves 135 = .ok (.iload_n 2, 1) := by decide +kernel
theorem dX12_goMoves_136 : decode cX12_goMoves 136 = .ok (.goto 5, 3) := by decide +kernel
theorem dX12_goMoves_139 : decode cX12_goMoves 139 = .ok (.bipush (-6), 2) := by decide +kernel
theorem dX12_goMoves_141 : decode cX12_goMoves 141 = .ok (.putfield 201, 3) := by decide +kernel
theorem dX12_goMoves_144 : decode cX12_goMoves 144 = .ok (.aload_n 0, 1) := by decide +kernel
theorem dX12_goMoves_145 : decode cX12_goMoves 145 = .ok (.iload 4, 2) := by decide +kernel
theorem dX12_goMoves_147 : decode cX12_goMoves 147 = .ok (.ifCond .le 8, 3) := by decide +kernel
theorem dX12_goMoves_150 : decode cX12_goMoves 150 = .ok (.iload 4, 2) := by decide +kernel
theorem dX12_goMoves_152 : decode cX12_goMoves 152 = .ok (.goto 5, 3) := by decide +kernel
theorem dX12_goMoves_155 : decode cX12_goMoves 155 = .ok (.bipush (-6), 2) := by decide +kernel
theorem dX12_goMoves_157 : decode cX12_goMoves 157 = .ok (.putfield 204, 3) := by decide +kernel
theorem dX12_goMoves_160 : decode cX12_goMoves 160 = .ok (.iinc 3 1, 3) := by decide +kernel
theorem dX12_goMoves_163 : decode cX12_goMoves 163 = .ok (.iinc 2 1, 3) := by decide +kernel
theorem dX12_goMoves_166 : decode cX12_goMoves 166 = .ok (.iinc 3 1, 3) := by decide +kernel
theorem dX12_goMoves_169 : decode cX12_goMoves 169 = .ok (.goto (-100), 3) := by decide +kernel
theorem dX12_goMoves_172 : decode cX12_goMoves 172 = .ok (.return_, 1) := by decide +kernel
theorem dX12_judge_0 : decode cX12_judge 0 = .ok (.iload_n 1, 1) := by decide +kernel
theorem dX12_judge_1 : decode cX12_judge 1 = .ok (.i2l, 1) := by decide +kernel
theorem dX12_judge_2 : decode cX12_judge 2 = .ok (.lconst 0, 1) := by decide +kernel
theorem dX12_judge_3 : decode cX12_judge 3 = .ok (.ldc2_w 123, 3) := by decide +kernel
theorem dX12_judge_6 : decode cX12_judge 6 = .ok (.invokestatic 97, 3) := by decide +kernel
theorem dX12_judge_9 : decode cX12_judge 9 = .ok (.ifCond .ne 6, 3) := by decide +kernel
theorem dX12_judge_12 : decode cX12_judge 12 = .ok (.bipush (-2), 2) := by decide +kernel
theorem dX12_judge_14 : decode cX12_judge 14 = .ok (.ireturn, 1) := by decide +kernel
theorem dX12_judge_15 : decode cX12_judge 15 = .ok (.aload_n 0, 1) := by decide +kernel
theorem dX12_judge_16 : decode cX12_judge 16 = .ok (.invokevirtual 148, 3) := by decide +kernel
theorem dX12_judge_19 : decode cX12_judge 19 = .ok (.ifCond .lt 6, 3) := by decide +kernel
theorem dX12_judge_22 : decode cX12_judge 22 = .ok (.bipush (-5), 2) := by decide +kernel
theorem dX12_judge_24 : decode cX12_judge 24 = .ok (.ireturn, 1) := by decide +kernel
theorem dX12_judge_25 : decode cX12_judge 25 = .ok (.aload_n 0, 1) := by decide +kernel
theorem dX12_judge_26 : decode cX12_judge 26 = .ok (.aload_n 0, 1) := by decide +kernel
theorem dX12_judge_27 : decode cX12_judge 27 = .ok (.getfield 75, 3) := by decide +kernel
theorem dX12_judge_30 : decode cX12_judge 30 = .ok (.invokevirtual 213, 3) := by decide +kernel
theorem dX12_judge_33 : decode cX12_judge 33 = .ok (.iload_n 1, 1) := by decide +kernel
theorem dX12_judge_34 : decode cX12_judge 34 = .ok (.iconst 1, 1) := by decide +kernel
theorem dX12_judge_35 : decode cX12_judge 35 = .ok (.if_icmp .le 13, 3) := by decide +kernel
theorem dX12_judge_38 : decode cX12_judge 38 = .ok (.aload_n 0, 1) := by decide +kernel
theorem dX12_judge_39 : decode cX12_judge 39 = .ok (.getfield 201, 3) := by decide +kernel
theorem dX12_judge_42 : decode cX12_judge 42 = .ok (.ifCond .lt 6, 3) := by decide +kernel
theorem dX12_judge_45 : decode cX12_judge 45 = .ok (.bipush (-3), 2) := by decide +kernel
theorem dX12_judge_47 : decode cX12_judge 47 = .ok (.ireturn, 1) := by decide +kernel
theorem dX12_judge_48 : decode cX12_judge 48 = .ok (.iload_n 1, 1) := by decide +kernel
theorem dX12_judge_49 : decode cX12_judge 49 = .ok (.ifCond .ne 10, 3) := by decide +kernel
theorem dX12_judge_52 : decode cX12_judge 52 = .ok (.aload_n 0, 1) := by decide +kernel
theorem dX12_judge_53 : decode cX12_judge 53 = .ok (.getfield 201, 3) := by decide +kernel
theorem dX12_judge_56 : decode cX12_judge 56 = .ok (.goto 31, 3) := by decide +kernel
theorem dX12_judge_59 : decode cX12_judge 59 = .ok (.iload_n 1, 1) := by decide +kernel
theorem dX12_judge_60 : decode cX12_judge 60 = .ok (.iconst 1, 1) := by decide +kernel
theorem dX12_judge_61 : decode cX12_judge 61 = .ok (.if_icmp .ne 10, 3) := by decide +kernel
theorem dX12_judge_64 : decode cX12_judge 64 = .ok (.aload_n 0, 1) := by decide +kernel
theorem dX12_judge_65 : decode cX12_judge 65 = .ok (.getfield 204, 3) := by decide +kernel
theorem dX12_judge_68 : decode cX12_judge 68 = .ok (.goto 19, 3) := by decide +kernel
theorem dX12_judge_71 : decode cX12_judge 71 = .ok (.iload_n 1, 1) := by decide +kernel
theorem dX12_judge_72 : decode cX12_judge 72 = .ok (.iconst 2, 1) := by decide +kernel
theorem dX12_judge_73 : decode cX12_judge 73 = .ok (.if_icmp .ne 10, 3) := by decide +kernel
theorem dX12_judge_76 : decode cX12_judge 76 = .ok (.aload_n 0, 1) := by decide +kernel
theorem dX12_judge_77 : decode cX12_judge 77 = .ok (.getfield 195, 3) := by decide +kernel
theorem dX12_judge_80 : decode cX12_judge 80 = .ok (.goto 7, 3) := by decide +kernel
theorem dX12_judge_83 : decode cX12_judge 83 = .ok (.aload_n 0, 1) := by decide +kernel
theorem dX12_judge_84 : decode cX12_judge 84 = .ok (.getfield 183, 3) := by decide +kernel
theorem dX12_judge_87 : decode cX12_judge 87 = .ok (.ireturn, 1) := by decide +kernel
theorem dX12_behind_0 : decode cX12_behind 0 = .ok (.aload_n 0, 1) := by decide +kernel
theorem dX12_behind_1 : decode cX12_behind 1 = .ok (.iload_n 1, 1) := by decide +kernel
theorem dX12_behind_2 : decode cX12_behind 2 = .ok (.invokevirtual 107, 3) := by decide +kernel
theorem dX12_behind_5 : decode cX12_behind 5 = .ok (.ifCond .ne 5, 3) := by decide +kernel
theorem dX12_behind_8 : decode cX12_behind 8 = .ok (.iconst (-1), 1) := by decide +kernel
theorem dX12_behind_9 : decode cX12_behind 9 = .ok (.ireturn, 1) := by decide +kernel
theorem dX12_behind_10 : decode cX12_behind 10 = .ok (.iload_n 2, 1) := by decide +kernel
theorem dX12_behind_11 : decode cX12_behind 11 = .ok (.i2l, 1) := by decide +kernel
theorem dX12_behind_12 : decode cX12_behind 12 = .ok (.lconst 0, 1) := by decide +kernel
theorem dX12_behind_13 : decode cX12_behind 13 = .ok (.lconst 1, 1) := by decide +kernel
theorem dX12_behind_14 : decode cX12_behind 14 = .ok (.invokestatic 97, 3) := by decide +kernel
theorem dX12_behind_17 : decode cX12_behind 17 = .ok (.ifCond .ne 6, 3) := by decide +kernel
theorem dX12_behind_20 : decode cX12_behind 20 = .ok (.bipush (-2), 2) := by decide +kernel
theorem dX12_behind_22 : decode cX12_behind 22 = .ok (.ireturn, 1) := by decide +kernel
theorem dX12_behind_23 : decode cX12_behind 23 = .ok (.aload_n 0, 1) := by decide +kernel
theorem dX12_behind_24 : decode cX12_behind 24 = .ok (.invokevirtual 148, 3) := by decide +kernel
theorem dX12_behind_27 : decode cX12_behind 27 = .ok (.ifCond .lt 6, 3) := by decide +kernel
theorem dX12_behind_30 : decode cX12_behind 30 = .ok (.bipush (-5), 2) := by decide +kernel
theorem dX12_behind_32 : decode cX12_behind 32 = .ok (.ireturn, 1) := by decide +kernel
theorem dX12_behind_33 : decode cX12_behind 33 = .ok (.aload_n 0, 1) := by decide +kernel
theorem dX12_behind_34 : decode cX12_behind 34 = .ok (.aload_n 0, 1) := by decide +kernel
theorem dX12_behind_35 : decode cX12_behind 35 = .ok (.getfield 75, 3) := by decide +kernel
theorem dX12_behind_38 : decode cX12_behind 38 = .ok (.invokevirtual 213, 3) := by decide +kernel
theorem dX12_behind_41 : decode cX12_behind 41 = .ok (.aload_n 0, 1) := by decide +kernel
theorem dX12_behind_42 : decode cX12_behind 42 = .ok (.getfield 201, 3) := by decide +kernel
theorem dX12_behind_45 : decode cX12_behind 45 = .ok (.ifCond .lt 6, 3) := by decide +kernel
theorem dX12_behind_48 : decode cX12_behind 48 = .ok (.bipush (-3), 2) := by decide +kernel
theorem dX12_behind_50 : decode cX12_behind 50 = .ok (.ireturn, 1) := by decide +kernel
theorem dX12_behind_51 : decode cX12_behind 51 = .ok (.iload_n 2, 1) := by decide +kernel
theorem dX12_behind_52 : decode cX12_behind 52 = .ok (.ifCond .ne 12, 3) := by decide +kernel
theorem dX12_behind_55 : decode cX12_behind 55 = .ok (.aload_n 0, 1) := by decide +kernel
theorem dX12_behind_56 : decode cX12_behind 56 = .ok (.getfield 46, 3) := by decide +kernel
theorem dX12_behind_59 : decode cX12_behind 59 = .ok (.iload_n 1, 1) := by decide +kernel
theorem dX12_behind_60 : decode cX12_behind 60 = .ok (.iaload, 1) := by decide +kernel
theorem dX12_behind_61 : decode cX12_behind 61 = .ok (.goto 9, 3) := by decide +kernel
theorem dX12_behind_64 : decode cX12_behind 64 = .ok (.aload_n 0, 1) := by decide +kernel
theorem dX12_behind_65 : decode cX12_behind 65 = .ok (.getfield 49, 3) := by decide +kernel
theorem dX12_behind_68 : decode cX12_behind 68 = .ok (.iload_n 1, 1) := by decide +kernel
theorem dX12_behind_69 : decode cX12_behind 69 = .ok (.iaload, 1) := by decide +kernel
theorem dX12_behind_70 : decode cX12_behind 70 = .ok (.ireturn, 1) := by decide +kernel
theorem dX12_hands_0 : decode cX12_hands 0 = .ok (.aload_n 0, 1) := by decide +kernel
theorem dX12_hands_1 : decode cX12_hands 1 = .ok (.invokevirtual 148, 3) := by decide +kernel
theorem dX12_hands_4 : decode cX12_hands 4 = .ok (.ifCond .lt 6, 3) := by decide +kernel
theorem dX12_hands_7 : decode cX12_hands 7 = .ok (.bipush (-5), 2) := by decide +kernel
theorem dX12_hands_9 : decode cX12_hands 9 = .ok (.ireturn, 1) := by decide +kernel
theorem dX12_hands_10 : decode cX12_hands 10 = .ok (.aload_n 0, 1) := by decide +kernel
theorem dX12_hands_11 : decode cX12_hands 11 = .ok (.ldc 216, 2) := by decide +kernel
theorem dX12_hands_13 : decode cX12_hands 13 = .ok (.invokevirtual 213, 3) := by decide +kernel
theorem dX12_hands_16 : decode cX12_hands 16 = .ok (.aload_n 0, 1) := by decide +kernel
theorem dX12_hands_17 : decode cX12_hands 17 = .ok (.getfield 201, 3) := by decide +kernel
theorem dX12_hands_20 : decode cX12_hands 20 = .ok (.ifCond .lt 8, 3) := by decide +kernel
theorem dX12_hands_23 : decode cX12_hands 23 = .ok (.bipush (-6), 2) := by decide +kernel
theorem dX12_hands_25 : decode cX12_hands 25 = .ok (.goto 7, 3) := by decide +kernel
theorem dX12_hands_28 : decode cX12_hands 28 = .ok (.aload_n 0, 1) := by decide +kernel
theorem dX12_hands_29 : decode cX12_hands 29 = .ok (.getfield 198, 3) := by decide +kernel
theorem dX12_hands_32 : decode cX12_hands 32 = .ok (.ireturn, 1) := by decide +kernel
theorem dX12_acid_0 : decode cX12_acid 0 = .ok (.aload_n 0, 1) := by decide +kernel
theorem dX12_acid_1 : decode cX12_acid 1 = .ok (.iload_n 1, 1) := by decide +kernel
theorem dX12_acid_2 : decode cX12_acid 2 = .ok (.invokevirtual 107, 3) := by decide +kernel
theorem dX12_acid_5 : decode cX12_acid 5 = .ok (.ifCond .ne 5, 3) := by decide +kernel
theorem dX12_acid_8 : decode cX12_acid 8 = .ok (.iconst (-1), 1) := by decide +kernel
theorem dX12_acid_9 : decode cX12_acid 9 = .ok (.ireturn, 1) := by decide +kernel
theorem dX12_acid_10 : decode cX12_acid 10 = .ok (.iload_n 2, 1) := by decide +kernel
theorem dX12_acid_11 : decode cX12_acid 11 = .ok (.invokestatic 177, 3) := by decide +kernel
theorem dX12_acid_14 : decode cX12_acid 14 = .ok (.ifCond .eq 12, 3) := by decide +kernel
theorem dX12_acid_17 : decode cX12_acid 17 = .ok (.aload_n 0, 1) := by decide +kernel
theorem dX12_acid_18 : decode cX12_acid 18 = .ok (.iload_n 1, 1) := by decide +kernel
theorem dX12_acid_19 : decode cX12_acid 19 = .ok (.iload_n 2, 1) := by decide +kernel
theorem dX12_acid_20 : decode cX12_acid 20 = .ok (.invokevirtual 217, 3) := by decide +kernel
theorem dX12_acid_23 : decode cX12_acid 23 = .ok (.goto 5, 3) := by decide +kernel
theorem dX12_acid_26 : decode cX12_acid 26 = .ok (.bipush (-2), 2) := by decide +kernel
theorem dX12_acid_28 : decode cX12_acid 28 = .ok (.ireturn, 1) := by decide +kernel
theorem dX12_sours_0 : decode cX12_sours 0 = .ok (.aload_n 0, 1) := by decide +kernel
theorem dX12_sours_1 : decode cX12_sours 1 = .ok (.iload_n 1, 1) := by decide +kernel
theorem dX12_sours_2 : decode cX12_sours 2 = .ok (.invokevirtual 107, 3) := by decide +kernel
theorem dX12_sours_5 : decode cX12_sours 5 = .ok (.ifCond .ne 5, 3) := by decide +kernel
theorem dX12_sours_8 : decode cX12_sours 8 = .ok (.iconst (-1), 1) := by decide +kernel
theorem dX12_sours_9 : decode cX12_sours 9 = .ok (.ireturn, 1) := by decide +kernel
theorem dX12_sours_10 : decode cX12_sours 10 = .ok (.iconst 0, 1) := by decide +kernel
theorem dX12_sours_11 : decode cX12_sours 11 = .ok (.istore_n 2, 1) := by decide +kernel
theorem dX12_sours_12 : decode cX12_sours 12 = .ok (.iconst 0, 1) := by decide +kernel
theorem dX12_sours_13 : decode cX12_sours 13 = .ok (.istore_n 3, 1) := by decide +kernel
theorem dX12_sours_14 : decode cX12_sours 14 = .ok (.iload_n 3, 1) := by decide +kernel
theorem dX12_sours_15 : decode cX12_sours 15 = .ok (.sipush 999, 3) := by decide +kernel
theorem dX12_sours_18 : decode cX12_sours 18 = .ok (.if_icmp .ge 39, 3) := by decide +kernel
theorem dX12_sours_21 : decode cX12_sours 21 = .ok (.iload_n 2, 1) := by decide +kernel
theorem dX12_sours_22 : decode cX12_sours 22 = .ok (.aload_n 0, 1) := by decide +kernel
theorem dX12_sours_23 : decode cX12_sours 23 = .ok (.iload_n 1, 1) := by decide +kernel
theorem dX12_sours_24 : decode cX12_sours 24 = .ok (.aload_n 0, 1) := by decide +kernel
theorem dX12_sours_25 : decode cX12_sours 25 = .ok (.getfield 16, 3) := by decide +kernel
theorem dX12_sours_28 : decode cX12_sours 28 = .ok (.iload_n 1, 1) := by decide +kernel
theorem dX12_sours_29 : decode cX12_sours 29 = .ok (.iaload, 1) := by decide +kernel
theorem dX12_sours_30 : decode cX12_sours 30 = .ok (.iload_n 3, 1) := by decide +kernel
theorem dX12_sours_31 : decode cX12_sours 31 = .ok (.invokevirtual 165, 3) := by decide +kernel
theorem dX12_sours_34 : decode cX12_sours 34 = .ok (.iadd, 1) := by decide +kernel
theorem dX12_sours_35 : decode cX12_sours 35 = .ok (.invokestatic 169, 3) := by decide +kernel
theorem dX12_sours_38 : decode cX12_sours 38 = .ok (.istore_n 2, 1) := by decide +kernel
theorem dX12_sours_39 : decode cX12_sours 39 = .ok (.iload_n 2, 1) := by decide +kernel
theorem dX12_sours_40 : decode cX12_sours 40 = .ok (.aload_n 0, 1) := by decide +kernel
theorem dX12_sours_41 : decode cX12_sours 41 = .ok (.getfield 71, 3) := by decide +kernel
theorem dX12_sours_44 : decode cX12_sours 44 = .ok (.if_icmp .lt 7, 3) := by decide +kernel
theorem dX12_sours_47 : decode cX12_sours 47 = .ok (.iload_n 3, 1) := by decide +kernel
theorem dX12_sours_48 : decode cX12_sours 48 = .ok (.iconst 1, 1) := by decide +kernel
theorem dX12_sours_49 : decode cX12_sours 49 = .ok (.iadd, 1) := by decide +kernel
theorem dX12_sours_50 : decode cX12_sours 50 = .ok (.ireturn, 1) := by decide +kernel
theorem dX12_sours_51 : decode cX12_sours 51 = .ok (.iinc 3 1, 3) := by decide +kernel
theorem dX12_sours_54 : decode cX12_sours 54 = .ok (.goto (-40), 3) := by decide +kernel
theorem dX12_sours_57 : decode cX12_sours 57 = .ok (.bipush (-6), 2) := by decide +kernel
theorem dX12_sours_59 : decode cX12_sours 59 = .ok (.ireturn, 1) := by decide +kernel
theorem dX12_lostBehind_0 : decode cX12_lostBehind 0 = .ok (.iconst 0, 1) := by decide +kernel
theorem dX12_lostBehind_1 : decode cX12_lostBehind 1 = .ok (.istore_n 2, 1) := by decide +kernel
theorem dX12_lostBehind_2 : decode cX12_lostBehind 2 = .ok (.iconst 0, 1) := by decide +kernel
theorem dX12_lostBehind_3 : decode cX12_lostBehind 3 = .ok (.istore_n 3, 1) := by decide +kernel
theorem dX12_lostBehind_4 : decode cX12_lostBehind 4 = .ok (.iload_n 3, 1) := by decide +kernel
theorem dX12_lostBehind_5 : decode cX12_lostBehind 5 = .ok (.bipush 8, 2) := by decide +kernel
theorem dX12_lostBehind_7 : decode cX12_lostBehind 7 = .ok (.if_icmp .ge 43, 3) := by decide +kernel
theorem dX12_lostBehind_10 : decode cX12_lostBehind 10 = .ok (.iload_n 2, 1) := by decide +kernel
theorem dX12_lostBehind_11 : decode cX12_lostBehind 11 = .ok (.aload_n 0, 1) := by decide +kernel
theorem dX12_lostBehind_12 : decode cX12_lostBehind 12 = .ok (.iload_n 3, 1) := by decide +kernel
theorem dX12_lostBehind_13 : decode cX12_lostBehind 13 = .ok (.invokevirtual 107, 3) := by decide +kernel
theorem dX12_lostBehind_16 : decode cX12_lostBehind 16 = .ok (.ifCond .eq 25, 3) := by decide +kernel
theorem dX12_lostBehind_19 : decode cX12_lostBehind 19 = .ok (.aload_n 0, 1) := by decide +kernel
theorem dX12_lostBehind_20 : decode cX12_lostBehind 20 = .ok (.iload_n 3, 1) := by decide +kernel
theorem dX12_lostBehind_21 : decode cX12_lostBehind 21 = .ok (.iload_n 1, 1) := by decide +kernel
theorem dX12_lostBehind_22 : decode cX12_lostBehind 22 = .ok (.invokevirtual 217, 3) := by decide +kernel
theorem dX12_lostBehind_25 : decode cX12_lostBehind 25 = .ok (.aload_n 0, 1) := by decide +kernel
theorem dX12_lostBehind_26 : decode cX12_lostBehind 26 = .ok (.getfield 71, 3) := by decide +kernel
theorem dX12_lostBehind_29 : decode cX12_lostBehind 29 = .ok (.if_icmp .lt 12, 3) := by decide +kernel
theorem dX12_lostBehind_32 : decode cX12_lostBehind 32 = .ok (.aload_n 0, 1) := by decide +kernel
theorem dX12_lostBehind_33 : decode cX12_lostBehind 33 = .ok (.getfield 19, 3) := by decide +kernel
theorem dX12_lostBehind_36 : decode cX12_lostBehind 36 = .ok (.iload_n 3, 1) := by decide +kernel
theorem dX12_lostBehind_37 : decode cX12_lostBehind 37 = .ok (.iaload, 1) := by decide +kernel
theorem dX12_lostBehind_38 : decode cX12_lostBehind 38 = .ok (.goto 4, 3) := by decide +kernel
theorem dX12_lostBehind_41 : decode cX12_lostBehind 41 = .ok (.iconst 0, 1) := by decide +kernel
theorem dX12_lostBehind_42 : decode cX12_lostBehind 42 = .ok (.iadd, 1) := by decide +kernel
theorem dX12_lostBehind_43 : decode cX12_lostBehind 43 = .ok (.istore_n 2, 1) := by decide +kernel
theorem dX12_lostBehind_44 : decode cX12_lostBehind 44 = .ok (.iinc 3 1, 3) := by decide +kernel
theorem dX12_lostBehind_47 : decode cX12_lostBehind 47 = .ok (.goto (-43), 3) := by decide +kernel
theorem dX12_lostBehind_50 : decode cX12_lostBehind 50 = .ok (.iload_n 2, 1) := by decide +kernel
theorem dX12_lostBehind_51 : decode cX12_lostBehind 51 = .ok (.ireturn, 1) := by decide +kernel
theorem dX12_lost_0 : decode cX12_lost 0 = .ok (.iload_n 1, 1) := by decide +kernel
theorem dX12_lost_1 : decode cX12_lost 1 = .ok (.invokestatic 177, 3) := by decide +kernel
theorem dX12_lost_4 : decode cX12_lost 4 = .ok (.ifCond .eq 11, 3) := by decide +kernel
theorem dX12_lost_7 : decode cX12_lost 7 = .ok (.aload_n 0, 1) := by decide +kernel
theorem dX12_lost_8 : decode cX12_lost 8 = .ok (.iload_n 1, 1) := by decide +kernel
theorem dX12_lost_9 : decode cX12_lost 9 = .ok (.invokevirtual 220, 3) := by decide +kernel
theorem dX12_lost_12 : decode cX12_lost 12 = .ok (.goto 5, 3) := by decide +kernel
theorem dX12_lost_15 : decode cX12_lost 15 = .ok (.bipush (-2), 2) := by decide +kernel
theorem dX12_lost_17 : decode cX12_lost 17 = .ok (.ireturn, 1) := by decide +kernel
theorem dX12_layMembers_0 : decode cX12_layMembers 0 = .ok (.aload_n 0, 1) := by decide +kernel
theorem dX12_layMembers_1 : decode cX12_layMembers 1 = .ok (.iconst 0, 1) := by decide +kernel
theorem dX12_layMembers_2 : decode cX12_layMembers 2 = .ok (.putfield 223, 3) := by decide +kernel
theorem dX12_layMembers_5 : decode cX12_layMembers 5 = .ok (.iconst 0, 1) := by decide +kernel
theorem dX12_layMembers_6 : decode cX12_layMembers 6 = .ok (.istore_n 2, 1) := by decide +kernel
theorem dX12_layMembers_7 : decode cX12_layMembers 7 = .ok (.iload_n 2, 1) := by decide +kernel
theorem dX12_layMembers_8 : decode cX12_layMembers 8 = .ok (.bipush 8, 2) := by decide +kernel
theorem dX12_layMembers_10 : decode cX12_layMembers 10 = .ok (.if_icmp .ge 50, 3) := by decide +kernel
theorem dX12_layMembers_13 : decode cX12_layMembers 13 = .ok (.iload_n 1, 1) := by decide +kernel
theorem dX12_layMembers_14 : decode cX12_layMembers 14 = .ok (.iload_n 2, 1) := by decide +kernel
theorem dX12_layMembers_15 : decode cX12_layMembers 15 = .ok (.ishr, 1) := by decide +kernel
theorem dX12_layMembers_16 : decode cX12_layMembers 16 = .ok (.iconst 1, 1) := by decide +kernel
theorem dX12_layMembers_17 : decode cX12_layMembers 17 = .ok (.iand, 1) := by decide +kernel
theorem dX12_layMembers_18 : decode cX12_layMembers 18 = .ok (.iconst 1, 1) := by decide +kernel
theorem dX12_layMembers_19 : decode cX12_layMembers 19 = .ok (.if_icmp .ne 23, 3) := by decide +kernel
theorem dX12_layMembers_22 : decode cX12_layMembers 22 = .ok (.aload_n 0, 1) := by decide +kernel
theorem dX12_layMembers_23 : decode cX12_layMembers 23 = .ok (.getfield 52, 3) := by decide +kernel
theorem dX12_layMembers_26 : decode cX12_layMembers 26 = .ok (.aload_n 0, 1) := by decide +kernel
theorem dX12_layMembers_27 : decode cX12_layMembers 27 = .ok (.getfield 223, 3) := by decide +kernel
theorem dX12_layMembers_30 : decode cX12_layMembers 30 = .ok (.iload_n 2, 1) := by decide +kernel
theorem dX12_layMembers_31 : decode cX12_layMembers 31 = .ok (.iastore, 1) := by decide +kernel
theorem dX12_layMembers_32 : decode cX12_layMembers 32 = .ok (.aload_n 0, 1) := by decide +kernel
theorem dX12_layMembers_33 : decode cX12_layMembers 33 = .ok (.dup, 1) := by decide +kernel
theorem dX12_layMembers_34 : decode cX12_layMembers 34 = .ok (.getfield 223, 3) := by decide +kernel
theorem dX12_layMembers_37 : decode cX12_layMembers 37 = .ok (.iconst 1, 1) := by decide +kernel
theorem dX12_layMembers_38 : decode cX12_layMembers 38 = .ok (.iadd, 1) := by decide +kernel
theorem dX12_layMembers_39 : decode cX12_layMembers 39 = .ok (.putfield 223, 3) := by decide +kernel
theorem dX12_layMembers_42 : decode cX12_layMembers 42 = .ok (.aload_n 0, 1) := by decide +kernel
theorem dX12_layMembers_43 : decode cX12_layMembers 43 = .ok (.getfield 46, 3) := by decide +kernel
theorem dX12_layMembers_46 : decode cX12_layMembers 46 = .ok (.iload_n 2, 1) := by decide +kernel
theorem dX12_layMembers_47 : decode cX12_layMembers 47 = .ok (.aload_n 0, 1) := by decide +kernel
theorem dX12_layMembers_48 : decode cX12_layMembers 48 = .ok (.getfield 16, 3) := by decide +kernel
theorem dX12_layMembers_51 : decode cX12_layMembers 51 = .ok (.iload_n 2, 1) := by decide +kernel
theorem dX12_layMembers_52 : decode cX12_layMembers 52 = .ok (.iaload, 1) := by decide +kernel
theorem dX12_layMembers_53 : decode cX12_layMembers 53 = .ok (.iastore, 1) := by decide +kernel
theorem dX12_layMembers_54 : decode cX12_layMembers 54 = .ok (.iinc 2 1, 3) := by decide +kernel
theorem dX12_layMembers_57 : decode cX12_layMembers 57 = .ok (.goto (-50), 3) := by decide +kernel
theorem dX12_layMembers_60 : decode cX12_layMembers 60 = .ok (.return_, 1) := by decide +kernel
theorem dX12_isRoomy_0 : decode cX12_isRoomy 0 = .ok (.iconst 1, 1) := by decide +kernel
theorem dX12_isRoomy_1 : decode cX12_isRoomy 1 = .ok (.istore_n 1, 1) := by decide +kernel
theorem dX12_isRoomy_2 : decode cX12_isRoomy 2 = .ok (.iconst 0, 1) := by decide +kernel
theorem dX12_isRoomy_3 : decode cX12_isRoomy 3 = .ok (.istore_n 2, 1) := by decide +kernel
theorem dX12_isRoomy_4 : decode cX12_isRoomy 4 = .ok (.iload_n 2, 1) := by decide +kernel
theorem dX12_isRoomy_5 : decode cX12_isRoomy 5 = .ok (.aload_n 0, 1) := by decide +kernel
theorem dX12_isRoomy_6 : decode cX12_isRoomy 6 = .ok (.getfield 85, 3) := by decide +kernel
theorem dX12_isRoomy_9 : decode cX12_isRoomy 9 = .ok (.if_icmp .ge 33, 3) := by decide +kernel
theorem dX12_isRoomy_12 : decode cX12_isRoomy 12 = .ok (.iload_n 1, 1) := by decide +kernel
theorem dX12_isRoomy_13 : decode cX12_isRoomy 13 = .ok (.ifCond .eq 21, 3) := by decide +kernel
theorem dX12_isRoomy_16 : decode cX12_isRoomy 16 = .ok (.aload_n 0, 1) := by decide +kernel
theorem dX12_isRoomy_17 : decode cX12_isRoomy 17 = .ok (.iload_n 2, 1) := by decide +kernel
theorem dX12_isRoomy_18 : decode cX12_isRoomy 18 = .ok (.invokevirtual 189, 3) := by decide +kernel
theorem dX12_isRoomy_21 : decode cX12_isRoomy 21 = .ok (.aload_n 0, 1) := by decide +kernel
theorem dX12_isRoomy_22 : decode cX12_isRoomy 22 = .ok (.getfield 13, 3) := by decide +kernel
theorem dX12_isRoomy_25 : decode cX12_isRoomy 25 = .ok (.iload_n 2, 1) := by decide +kernel
theorem dX12_isRoomy_26 : decode cX12_isRoomy 26 = .ok (.iaload, 1) := by decide +kernel
theorem dX12_isRoomy_27 : decode cX12_isRoomy 27 = .ok (.if_icmp .gt 7, 3) := by decide +kernel
theorem dX12_isRoomy_30 : decode cX12_isRoomy 30 = .ok (.iconst 1, 1) := by decide +kernel
theorem dX12_isRoomy_31 : decode cX12_isRoomy 31 = .ok (.goto 4, 3) := by decide +kernel
theorem dX12_isRoomy_34 : decode cX12_isRoomy 34 = .ok (.iconst 0, 1) := by decide +kernel
theorem dX12_isRoomy_35 : decode cX12_isRoomy 35 = .ok (.istore_n 1, 1) := by decide +kernel
theorem dX12_isRoomy_36 : decode cX12_isRoomy 36 = .ok (.iinc 2 1, 3) := by decide +kernel
theorem dX12_isRoomy_39 : decode cX12_isRoomy 39 = .ok (.goto (-35), 3) := by decide +kernel
theorem dX12_isRoomy_42 : decode cX12_isRoomy 42 = .ok (.iload_n 1, 1) := by decide +kernel
theorem dX12_isRoomy_43 : decode cX12_isRoomy 43 = .ok (.ireturn, 1) := by decide +kernel
theorem dX12_workOfPlan_0 : decode cX12_workOfPlan 0 = .ok (.iconst 0, 1) := by decide +kernel
theorem dX12_workOfPlan_1 : decode cX12_workOfPlan 1 = .ok (.istore_n 2, 1) := by decide +kernel
theorem dX12_workOfPlan_2 : decode cX12_workOfPlan 2 = .ok (.iconst 0, 1) := by decide +kernel
theorem dX12_workOfPlan_3 : decode cX12_workOfPlan 3 = .ok (.istore_n 3, 1) := by decide +kernel
theorem dX12_workOfPlan_4 : decode cX12_workOfPlan 4 = .ok (.iload_n 3, 1) := by decide +kernel
theorem dX12_workOfPlan_5 : decode cX12_workOfPlan 5 = .ok (.aload_n 0, 1) := by decide +kernel
theorem dX12_workOfPlan_6 : decode cX12_workOfPlan 6 = .ok (.getfield 223, 3) := by decide +kernel
theorem dX12_workOfPlan_9 : decode cX12_workOfPlan 9 = .ok (.if_icmp .ge 85, 3) := by decide +kernel
theorem dX12_workOfPlan_12 : decode cX12_workOfPlan 12 = .ok (.aload_n 0, 1) := by decide +kernel
theorem dX12_workOfPlan_13 : decode cX12_workOfPlan 13 = .ok (.getfield 52, 3) := by decide +kernel
theorem dX12_workOfPlan_16 : decode cX12_workOfPlan 16 = .ok (.iload_n 3, 1) := by decide +kernel
theorem dX12_workOfPlan_17 : decode cX12_workOfPlan 17 = .ok (.iaload, 1) := by decide +kernel
theorem dX12_workOfPlan_18 : decode cX12_workOfPlan 18 = .ok (.istore 4, 2) := by decide +kernel
theorem dX12_workOfPlan_20 : decode cX12_workOfPlan 20 = .ok (.aload_n 0, 1) := by decide +kernel
theorem dX12_workOfPlan_21 : decode cX12_workOfPlan 21 = .ok (.iload 4, 2) := by decide +kernel
theorem dX12_workOfPlan_23 : decode cX12_workOfPlan 23 = .ok (.aload_n 0, 1) := by decide +kernel
theorem dX12_workOfPlan_24 : decode cX12_workOfPlan 24 = .ok (.getfield 46, 3) := by decide +kernel
theorem dX12_workOfPlan_27 : decode cX12_workOfPlan 27 = .ok (.iload 4, 2) := by decide +kernel
theorem dX12_workOfPlan_29 : decode cX12_workOfPlan 29 = .ok (.iaload, 1) := by decide +kernel
theorem dX12_workOfPlan_30 : decode cX12_workOfPlan 30 = .ok (.iload_n 1, 1) := by decide +kernel
theorem dX12_workOfPlan_31 : decode cX12_workOfPlan 31 = .ok (.invokevirtual 172, 3) := by decide +kernel
theorem dX12_workOfPlan_34 : decode cX12_workOfPlan 34 = .ok (.aload_n 0, 1) := by decide +kernel
theorem dX12_workOfPlan_35 : decode cX12_workOfPlan 35 = .ok (.getfield 71, 3) := by decide +kernel
theorem dX12_workOfPlan_38 : decode cX12_workOfPlan 38 = .ok (.if_icmp .lt 6, 3) := by decide +kernel
theorem dX12_workOfPlan_41 : decode cX12_workOfPlan 41 = .ok (.bipush (-6), 2) := by decide +kernel
theorem dX12_workOfPlan_43 : decode cX12_workOfPlan 43 = .ok (.ireturn, 1) := by decide +kernel
theorem dX12_workOfPlan_44 : decode cX12_workOfPlan 44 = .ok (.iload_n 2, 1) := by decide +kernel
theorem dX12_workOfPlan_45 : decode cX12_workOfPlan 45 = .ok (.aload_n 0, 1) := by decide +kernel
theorem dX12_workOfPlan_46 : decode cX12_workOfPlan 46 = .ok (.getfield 46, 3) := by decide +kernel
theorem dX12_workOfPlan_49 : decode cX12_workOfPlan 49 = .ok (.iload 4, 2) := by decide +kernel
theorem dX12_workOfPlan_51 : decode cX12_workOfPlan 51 = .ok (.iaload, 1) := by decide +kernel
theorem dX12_workOfPlan_52 : decode cX12_workOfPlan 52 = .ok (.aload_n 0, 1) := by decide +kernel
theorem dX12_workOfPlan_53 : decode cX12_workOfPlan 53 = .ok (.getfield 16, 3) := by decide +kernel
theorem dX12_workOfPlan_56 : decode cX12_workOfPlan 56 = .ok (.iload 4, 2) := by decide +kernel
theorem dX12_workOfPlan_58 : decode cX12_workOfPlan 58 = .ok (.iaload, 1) := by decide +kernel
theorem dX12_workOfPlan_59 : decode cX12_workOfPlan 59 = .ok (.if_icmp .ne 7, 3) := by decide +kernel
theorem dX12_workOfPlan_62 : decode cX12_workOfPlan 62 = .ok (.iconst 0, 1) := by decide +kernel
theorem dX12_workOfPlan_63 : decode cX12_workOfPlan 63 = .ok (.goto 23, 3) := by decide +kernel
theorem dX12_workOfPlan_66 : decode cX12_workOfPlan 66 = .ok (.aload_n 0, 1) := by decide +kernel
theorem dX12_workOfPlan_67 : decode cX12_workOfPlan 67 = .ok (.iload 4, 2) := by decide +kernel
theorem dX12_workOfPlan_69 : decode cX12_workOfPlan 69 = .ok (.aload_n 0, 1) := by decide +kernel
theorem dX12_workOfPlan_70 : decode cX12_workOfPlan 70 = .ok (.getfield 16, 3) := by decide +kernel
theorem dX12_workOfPlan_73 : decode cX12_workOfPlan 73 = .ok (.iload 4, 2) := by decide +kernel
theorem dX12_workOfPlan_75 : decode cX12_workOfPlan 75 = .ok (.iaload, 1) := by decide +kernel
theorem dX12_workOfPlan_76 : decode cX12_workOfPlan 76 = .ok (.aload_n 0, 1) := by decide +kernel
theorem dX12_workOfPlan_77 : decode cX12_workOfPlan 77 = .ok (.getfield 46, 3) := by decide +kernel
theorem dX12_workOfPlan_80 : decode cX12_workOfPlan 80 = .ok (.iload 4, 2) := by decide +kernel
theorem dX12_workOfPlan_82 : decode cX12_workOfPlan 82 = .ok (.iaload, 1) := by decide +kernel
theorem dX12_workOfPlan_83 : decode cX12_workOfPlan 83 = .ok (.invokevirtual 192, 3) := by decide +kernel
theorem dX12_workOfPlan_86 : decode cX12_workOfPlan 86 = .ok (.iadd, 1) := by decide +kernel
theorem dX12_workOfPlan_87 : decode cX12_workOfPlan 87 = .ok (.istore_n 2, 1) := by decide +kernel
theorem dX12_workOfPlan_88 : decode cX12_workOfPlan 88 = .ok (.iinc 3 1, 3) := by decide +kernel
theorem dX12_workOfPlan_91 : decode cX12_workOfPlan 91 = .ok (.goto (-87), 3) := by decide +kernel
theorem dX12_workOfPlan_94 : decode cX12_workOfPlan 94 = .ok (.aload_n 0, 1) := by decide +kernel
theorem dX12_workOfPlan_95 : decode cX12_workOfPlan 95 = .ok (.invokevirtual 226, 3) := by decide +kernel
theorem dX12_workOfPlan_98 : decode cX12_workOfPlan 98 = .ok (.ifCond .eq 7, 3) := by decide +kernel
theorem dX12_workOfPlan_101 : decode cX12_workOfPlan 101 = .ok (.iload_n 2, 1) := by decide +kernel
theorem dX12_workOfPlan_102 : decode cX12_workOfPlan 102 = .ok (.goto 5, 3) := by decide +kernel
theorem dX12_workOfPlan_105 : decode cX12_workOfPlan 105 = .ok (.bipush (-6), 2) := by decide +kernel
theorem dX12_workOfPlan_107 : decode cX12_workOfPlan 107 = .ok (.ireturn, 1) := by decide +kernel
theorem dX12_plan_0 : decode cX12_plan 0 = .ok (.iload_n 1, 1) := by decide +kernel
theorem dX12_plan_1 : decode cX12_plan 1 = .ok (.i2l, 1) := by decide +kernel
theorem dX12_plan_2 : decode cX12_plan 2 = .ok (.lconst 0, 1) := by decide +kernel
theorem dX12_plan_3 : decode cX12_plan 3 = .ok (.ldc2_w 230, 3) := by decide +kernel
theorem dX12_plan_6 : decode cX12_plan 6 = .ok (.invokestatic 97, 3) := by decide +kernel
theorem dX12_plan_9 : decode cX12_plan 9 = .ok (.ifCond .eq 21, 3) := by decide +kernel
theorem dX12_plan_12 : decode cX12_plan 12 = .ok (.iload_n 1, 1) := by decide +kernel
theorem dX12_plan_13 : decode cX12_plan 13 = .ok (.aload_n 0, 1) := by decide +kernel
theorem dX12_plan_14 : decode cX12_plan 14 = .ok (.getfield 91, 3) := by decide +kernel
theorem dX12_plan_17 : decode cX12_plan 17 = .ok (.iconst (-1), 1) := by decide +kernel
theorem dX12_plan_18 : decode cX12_plan 18 = .ok (.ixor, 1) := by decide +kernel
theorem dX12_plan_19 : decode cX12_plan 19 = .ok (.iand, 1) := by decide +kernel
theorem dX12_plan_20 : decode cX12_plan 20 = .ok (.ifCond .ne 10, 3) := by decide +kernel
theorem dX12_plan_23 : decode cX12_plan 23 = .ok (.iload_n 2, 1) := by decide +kernel
theorem dX12_plan_24 : decode cX12_plan 24 = .ok (.invokestatic 177, 3) := by decide +kernel
theorem dX12_plan_27 : decode cX12_plan 27 = .ok (.ifCond .ne 6, 3) := by decide +kernel
theorem dX12_plan_30 : decode cX12_plan 30 = .ok (.bipush (-2), 2) := by decide +kernel
theorem dX12_plan_32 : decode cX12_plan 32 = .ok (.ireturn, 1) := by decide +kernel
theorem dX12_plan_33 : decode cX12_plan 33 = .ok (.iload_n 3, 1) := by decide +kernel
theorem dX12_plan_34 : decode cX12_plan 34 = .ok (.iconst (-1), 1) := by decide +kernel
theorem dX12_plan_35 : decode cX12_plan 35 = .ok (.if_icmp .eq 20, 3) := by decide +kernel
theorem dX12_plan_38 : decode cX12_plan 38 = .ok (.iload_n 3, 1) := by decide +kernel
theorem dX12_plan_39 : decode cX12_plan 39 = .ok (.invokestatic 103, 3) := by decide +kernel
theorem dX12_plan_42 : decode cX12_plan 42 = .ok (.ifCond .eq 11, 3) := by decide +kernel
theorem dX12_plan_45 : decode cX12_plan 45 = .ok (.iload_n 1, 1) := by decide +kernel
theorem dX12_plan_46 : decode cX12_plan 46 = .ok (.iload_n 3, 1) := by decide +kernel
theorem dX12_plan_47 : decode cX12_plan 47 = .ok (.ishr, 1) := by decide +kernel
theorem dX12_plan_48 : decode cX12_plan 48 = .ok (.iconst 1, 1) := by decide +kernel
theorem dX12_plan_49 : decode cX12_plan 49 = .ok (.iand, 1) := by decide +kernel
theorem dX12_plan_50 : decode cX12_plan 50 = .ok (.ifCond .ne 5, 3) := by decide +kernel
theorem dX12_plan_53 : decode cX12_plan 53 = .ok (.iconst (-1), 1) := by decide +kernel
theorem dX12_plan_54 : decode cX12_plan 54 = .ok (.ireturn, 1) := by decide +kernel
theorem dX12_plan_55 : decode cX12_plan 55 = .ok (.iload_n 1, 1) := by decide +kernel
theorem dX12_plan_56 : decode cX12_plan 56 = .ok (.invokestatic 125, 3) := by decide +kernel
theorem dX12_plan_59 : decode cX12_plan 59 = .ok (.iconst 4, 1) := by decide +kernel
theorem dX12_plan_60 : decode cX12_plan 60 = .ok (.if_icmp .le 6, 3) := by decide +kernel
theorem dX12_plan_63 : decode cX12_plan 63 = .ok (.bipush (-4), 2) := by decide +kernel
theorem dX12_plan_65 : decode cX12_plan 65 = .ok (.ireturn, 1) := by decide +kernel
theorem dX12_plan_66 : decode cX12_plan 66 = .ok (.aload_n 0, 1) := by decide +kernel
theorem dX12_plan_67 : decode cX12_plan 67 = .ok (.iload_n 1, 1) := by decide +kernel
theorem dX12_plan_68 : decode cX12_plan 68 = .ok (.invokevirtual 232, 3) := by decide +kernel
theorem dX12_plan_71 : decode cX12_plan 71 = .ok (.iconst 1, 1) := by decide +kernel
theorem dX12_plan_72 : decode cX12_plan 72 = .ok (.istore 4, 2) := by decide +kernel
theorem dX12_plan_74 : decode cX12_plan 74 = .ok (.iconst 0, 1) := by decide +kernel
theorem dX12_plan_75 : decode cX12_plan 75 = .ok (.istore 5, 2) := by decide +kernel
theorem dX12_plan_77 : decode cX12_plan 77 = .ok (.iload 5, 2) := by decide +kernel
theorem dX12_plan_79 : decode cX12_plan 79 = .ok (.aload_n 0, 1) := by decide +kernel
theorem dX12_plan_80 : decode cX12_plan 80 = .ok (.getfield 223, 3) := by decide +kernel
theorem dX12_plan_83 : decode cX12_plan 83 = .ok (.if_icmp .ge 18, 3) := by decide +kernel
theorem dX12_plan_86 : decode cX12_plan 86 = .ok (.iload 4, 2) := by decide +kernel
theorem dX12_plan_88 : decode cX12_plan 88 = .ok (.aload_n 0, 1) := by decide +kernel
theorem dX12_plan_89 : decode cX12_plan 89 = .ok (.getfield 85, 3) := by decide +kernel
theorem dX12_plan_92 : decode cX12_plan 92 = .ok (.imul, 1) := by decide +kernel
theorem dX12_plan_93 : decode cX12_plan 93 = .ok (.istore 4, 2) := by decide +kernel
theorem dX12_plan_95 : decode cX12_plan 95 = .ok (.iinc 5 1, 3) := by decide +kernel
theorem dX12_plan_98 : decode cX12_plan 98 = .ok (.goto (-21), 3) := by decide +kernel
theorem dX12_plan_101 : decode cX12_plan 101 = .ok (.ldc 216, 2) := by decide +kernel
theorem dX12_plan_103 : decode cX12_plan 103 = .ok (.istore 5, 2) := by decide +kernel
theorem dX12_plan_105 : decode cX12_plan 105 = .ok (.iconst 0, 1) := by decide +kernel
theorem dX12_plan_106 : decode cX12_plan 106 = .ok (.istore 6, 2) := by decide +kernel
theorem dX12_plan_108 : decode cX12_plan 108 = .ok (.iload 6, 2) := by decide +kernel
theorem dX12_plan_110 : decode cX12_plan 110 = .ok (.iload 4, 2) := by decide +kernel
theorem dX12_plan_112 : decode cX12_plan 112 = .ok (.if_icmp .ge 113, 3) := by decide +kernel
theorem dX12_plan_115 : decode cX12_plan 115 = .ok (.iload 6, 2) := by decide +kernel
theorem dX12_plan_117 : decode cX12_plan 117 = .ok (.istore 7, 2) := by decide +kernel
theorem dX12_plan_119 : decode cX12_plan 119 = .ok (.aload_n 0, 1) := by decide +kernel
theorem dX12_plan_120 : decode cX12_plan 120 = .ok (.getfield 223, 3) := by decide +kernel
theorem dX12_plan_123 : decode cX12_plan 123 = .ok (.iconst 1, 1) := by decide +kernel
theorem dX12_plan_124 : decode cX12_plan 124 = .ok (.isub, 1) := by decide +kernel
theorem dX12_plan_125 : decode cX12_plan 125 = .ok (.istore 8, 2) := by decide +kernel
theorem dX12_plan_127 : decode cX12_plan 127 = .ok (.iload 8, 2) := by decide +kernel
theorem dX12_plan_129 : decode cX12_plan 129 = .ok (.ifCond .lt 37, 3) := by decide +kernel
theorem dX12_plan_132 : decode cX12_plan 132 = .ok (.aload_n 0, 1) := by decide +kernel
theorem dX12_plan_133 : decode cX12_plan 133 = .ok (.getfield 46, 3) := by decide +kernel
theorem dX12_plan_136 : decode cX12_plan 136 = .ok (.aload_n 0, 1) := by decide +kernel
theorem dX12_plan_137 : decode cX12_plan 137 = .ok (.getfield 52, 3) := by decide +kernel
theorem dX12_plan_140 : decode cX12_plan 140 = .ok (.iload 8, 2) := by decide +kernel
theorem dX12_plan_142 : decode cX12_plan 142 = .ok (.iaload, 1) := by decide +kernel
theorem dX12_plan_143 : decode cX12_plan 143 = .ok (.iload 7, 2) := by decide +kernel
theorem dX12_plan_145 : decode cX12_plan 145 = .ok (.aload_n 0, 1) := by decide +kernel
theorem dX12_plan_146 : decode cX12_plan 146 = .ok (.getfield 85, 3) := by decide +kernel
theorem dX12_plan_149 : decode cX12_plan 149 = .ok (.irem, 1) := by decide +kernel
theorem dX12_plan_150 : decode cX12_plan 150 = .ok (.iastore, 1) := by decide +kernel
theorem dX12_plan_151 : decode cX12_plan 151 = .ok (.iload 7, 2) := by decide +kernel
theorem dX12_plan_153 : decode cX12_plan 153 = .ok (.aload_n 0, 1) := by decide +kernel
theorem dX12_plan_154 : decode cX12_plan 154 = .ok (.getfield 85, 3) := by decide +kernel
theorem dX12_plan_157 : decode cX12_plan 157 = .ok (.idiv, 1) := by decide +kernel
theorem dX12_plan_158 : decode cX12_plan 158 = .ok (.istore 7, 2) := by decide +kernel
theorem dX12_plan_160 : decode cX12_plan 160 = .ok (.iinc 8 (-1), 3) := by decide +kernel
theorem dX12_plan_163 : decode cX12_plan 163 = .ok (.goto (-36), 3) := by decide +kernel
theorem dX12_plan_166 : decode cX12_plan 166 = .ok (.aload_n 0, 1) := by decide +kernel
theorem dX12_plan_167 : decode cX12_plan 167 = .ok (.iload_n 2, 1) := by decide +kernel
theorem dX12_plan_168 : decode cX12_plan 168 = .ok (.invokevirtual 235, 3) := by decide +kernel
theorem dX12_plan_171 : decode cX12_plan 171 = .ok (.istore 8, 2) := by decide +kernel
theorem dX12_plan_173 : decode cX12_plan 173 = .ok (.iload 8, 2) := by decide +kernel
theorem dX12_plan_175 : decode cX12_plan 175 = .ok (.ifCond .lt 44, 3) := by decide +kernel
theorem dX12_plan_178 : decode cX12_plan 178 = .ok (.iload 8, 2) := by decide +kernel
theorem dX12_plan_180 : decode cX12_plan 180 = .ok (.iload 5, 2) := by decide +kernel
theorem dX12_plan_182 : decode cX12_plan 182 = .ok (.if_icmp .ge 37, 3) := by decide +kernel
theorem dX12_plan_185 : decode cX12_plan 185 = .ok (.iload 8, 2) := by decide +kernel
theorem dX12_plan_187 : decode cX12_plan 187 = .ok (.istore 5, 2) := by decide +kernel
theorem dX12_plan_189 : decode cX12_plan 189 = .ok (.iconst 0, 1) := by decide +kernel
theorem dX12_plan_190 : decode cX12_plan 190 = .ok (.istore 9, 2) := by decide +kernel
theorem dX12_plan_192 : decode cX12_plan 192 = .ok (.iload 9, 2) := by decide +kernel
theorem dX12_plan_194 : decode cX12_plan 194 = .ok (.bipush 8, 2) := by decide +kernel
theorem dX12_plan_196 : decode cX12_plan 196 = .ok (.if_icmp .ge 23, 3) := by decide +kernel
theorem dX12_plan_199 : decode cX12_plan 199 = .ok (.aload_n 0, 1) := by decide +kernel
theorem dX12_plan_200 : decode cX12_plan 200 = .ok (.getfield 55, 3) := by decide +kernel
theorem dX12_plan_203 : decode cX12_plan 203 = .ok (.iload 9, 2) := by decide +kernel
theorem dX12_plan_205 : decode cX12_plan 205 = .ok (.aload_n 0, 1) := by decide +kernel
theorem dX12_plan_206 : decode cX12_plan 206 = .ok (.getfield 46, 3) := by decide +kernel
theorem dX12_plan_209 : decode cX12_plan 209 = .ok (.iload 9, 2) := by decide +kernel
theorem dX12_plan_211 : decode cX12_plan 211 = .ok (.iaload, 1) := by decide +kernel
theorem dX12_plan_212 : decode cX12_plan 212 = .ok (.iastore, 1) := by decide +kernel
theorem dX12_plan_213 : decode cX12_plan 213 = .ok (.iinc 9 1, 3) := by decide +kernel
theorem dX12_plan_216 : decode cX12_plan 216 = .ok (.goto (-24), 3) := by decide +kernel
theorem dX12_plan_219 : decode cX12_plan 219 = .ok (.iinc 6 1, 3) := by decide +kernel
theorem dX12_plan_222 : decode cX12_plan 222 = .ok (.goto (-114), 3) := by decide +kernel
theorem dX12_plan_225 : decode cX12_plan 225 = .ok (.iload 5, 2) := by decide +kernel
theorem dX12_plan_227 : decode cX12_plan 227 = .ok (.ldc 216, 2) := by decide +kernel
theorem dX12_plan_229 : decode cX12_plan 229 = .ok (.if_icmp .ne 8, 3) := by decide +kernel
theorem dX12_plan_232 : decode cX12_plan 232 = .ok (.bipush (-6), 2) := by decide +kernel
theorem dX12_plan_234 : decode cX12_plan 234 = .ok (.goto 19, 3) := by decide +kernel
theorem dX12_plan_237 : decode cX12_plan 237 = .ok (.iload_n 3, 1) := by decide +kernel
theorem dX12_plan_238 : decode cX12_plan 238 = .ok (.iconst (-1), 1) := by decide +kernel
theorem dX12_plan_239 : decode cX12_plan 239 = .ok (.if_icmp .ne 8, 3) := by decide +kernel
theorem dX12_plan_242 : decode cX12_plan 242 = .ok (.iload 5, 2) := by decide +kernel
theorem dX12_plan_244 : decode cX12_plan 244 = .ok (.goto 9, 3) := by decide +kernel
theorem dX12_plan_247 : decode cX12_plan 247 = .ok (.aload_n 0, 1) := by decide +kernel
theorem dX12_plan_248 : decode cX12_plan 248 = .ok (.getfield 55, 3) := by decide +kernel
theorem dX12_plan_251 : decode cX12_plan 251 = .ok (.iload_n 3, 1) := by decide +kernel
theorem dX12_plan_252 : decode cX12_plan 252 = .ok (.iaload, 1) := by decide +kernel
theorem dX12_plan_253 : decode cX12_plan 253 = .ok (.ireturn, 1) := by decide +kernel
theorem dX12_valueOn_0 : decode cX12_valueOn 0 = .ok (.aload_n 0, 1) := by decide +kernel
theorem dX12_valueOn_1 : decode cX12_valueOn 1 = .ok (.iload_n 1, 1) := by decide +kernel
theorem dX12_valueOn_2 : decode cX12_valueOn 2 = .ok (.iload_n 2, 1) := by decide +kernel
theorem dX12_valueOn_3 : decode cX12_valueOn 3 = .ok (.invokevirtual 217, 3) := by decide +kernel
theorem dX12_valueOn_6 : decode cX12_valueOn 6 = .ok (.istore_n 3, 1) := by decide +kernel
theorem dX12_valueOn_7 : decode cX12_valueOn 7 = .ok (.iload_n 2, 1) := by decide +kernel
theorem dX12_valueOn_8 : decode cX12_valueOn 8 = .ok (.aload_n 0, 1) := by decide +kernel
theorem dX12_valueOn_9 : decode cX12_valueOn 9 = .ok (.getfield 31, 3) := by decide +kernel
theorem dX12_valueOn_12 : decode cX12_valueOn 12 = .ok (.aload_n 0, 1) := by decide +kernel
theorem dX12_valueOn_13 : decode cX12_valueOn 13 = .ok (.getfield 25, 3) := by decide +kernel
theorem dX12_valueOn_16 : decode cX12_valueOn 16 = .ok (.iload_n 1, 1) := by decide +kernel
theorem dX12_valueOn_17 : decode cX12_valueOn 17 = .ok (.iaload, 1) := by decide +kernel
theorem dX12_valueOn_18 : decode cX12_valueOn 18 = .ok (.iaload, 1) := by decide +kernel
theorem dX12_valueOn_19 : decode cX12_valueOn 19 = .ok (.isub, 1) := by decide +kernel
theorem dX12_valueOn_20 : decode cX12_valueOn 20 = .ok (.istore 4, 2) := by decide +kernel
theorem dX12_valueOn_22 : decode cX12_valueOn 22 = .ok (.bipush 50, 2) := by decide +kernel
theorem dX12_valueOn_24 : decode cX12_valueOn 24 = .ok (.iload 4, 2) := by decide +kernel
theorem dX12_valueOn_26 : decode cX12_valueOn 26 = .ok (.ifCond .ge 9, 3) := by decide +kernel
theorem dX12_valueOn_29 : decode cX12_valueOn 29 = .ok (.iload 4, 2) := by decide +kernel
theorem dX12_valueOn_31 : decode cX12_valueOn 31 = .ok (.ineg, 1) := by decide +kernel
theorem dX12_valueOn_32 : decode cX12_valueOn 32 = .ok (.goto 5, 3) := by decide +kernel
theorem dX12_valueOn_35 : decode cX12_valueOn 35 = .ok (.iload 4, 2) := by decide +kernel
theorem dX12_valueOn_37 : decode cX12_valueOn 37 = .ok (.isub, 1) := by decide +kernel
theorem dX12_valueOn_38 : decode cX12_valueOn 38 = .ok (.iload_n 3, 1) := by decide +kernel
theorem dX12_valueOn_39 : decode cX12_valueOn 39 = .ok (.isub, 1) := by decide +kernel
theorem dX12_valueOn_40 : decode cX12_valueOn 40 = .ok (.istore 5, 2) := by decide +kernel
theorem dX12_valueOn_42 : decode cX12_valueOn 42 = .ok (.iload_n 3, 1) := by decide +kernel
theorem dX12_valueOn_43 : decode cX12_valueOn 43 = .ok (.aload_n 0, 1) := by decide +kernel
theorem dX12_valueOn_44 : decode cX12_valueOn 44 = .ok (.getfield 71, 3) := by decide +kernel
theorem dX12_valueOn_47 : decode cX12_valueOn 47 = .ok (.if_icmp .ge 8, 3) := by decide +kernel
theorem dX12_valueOn_50 : decode cX12_valueOn 50 = .ok (.iload 5, 2) := by decide +kernel
theorem dX12_valueOn_52 : decode cX12_valueOn 52 = .ok (.ifCond .ge 7, 3) := by decide +kernel
theorem dX12_valueOn_55 : decode cX12_valueOn 55 = .ok (.iconst 0, 1) := by decide +kernel
theorem dX12_valueOn_56 : decode cX12_valueOn 56 = .ok (.goto 12, 3) := by decide +kernel
theorem dX12_valueOn_59 : decode cX12_valueOn 59 = .ok (.aload_n 0, 1) := by decide +kernel
theorem dX12_valueOn_60 : decode cX12_valueOn 60 = .ok (.getfield 19, 3) := by decide +kernel
theorem dX12_valueOn_63 : decode cX12_valueOn 63 = .ok (.iload_n 1, 1) := by decide +kernel
theorem dX12_valueOn_64 : decode cX12_valueOn 64 = .ok (.iaload, 1) := by decide +kernel
theorem dX12_valueOn_65 : decode cX12_valueOn 65 = .ok (.iload 5, 2) := by decide +kernel
theorem dX12_valueOn_67 : decode cX12_valueOn 67 = .ok (.imul, 1) := by decide +kernel
theorem dX12_valueOn_68 : decode cX12_valueOn 68 = .ok (.ireturn, 1) := by decide +kernel
theorem dX12_value_0 : decode cX12_value 0 = .ok (.aload_n 0, 1) := by decide +kernel
theorem dX12_value_1 : decode cX12_value 1 = .ok (.iload_n 1, 1) := by decide +kernel
theorem dX12_value_2 : decode cX12_value 2 = .ok (.invokevirtual 107, 3) := by decide +kernel
theorem dX12_value_5 : decode cX12_value 5 = .ok (.ifCond .ne 5, 3) := by decide +kernel
theorem dX12_value_8 : decode cX12_value 8 = .ok (.iconst (-1), 1) := by decide +kernel
theorem dX12_value_9 : decode cX12_value 9 = .ok (.ireturn, 1) := by decide +kernel
theorem dX12_value_10 : decode cX12_value 10 = .ok (.iload_n 2, 1) := by decide +kernel
theorem dX12_value_11 : decode cX12_value 11 = .ok (.i2l, 1) := by decide +kernel
theorem dX12_value_12 : decode cX12_value 12 = .ok (.lconst 0, 1) := by decide +kernel
theorem dX12_value_13 : decode cX12_value 13 = .ok (.ldc2_w 238, 3) := by decide +kernel
theorem dX12_value_16 : decode cX12_value 16 = .ok (.invokestatic 97, 3) := by decide +kernel
theorem dX12_value_19 : decode cX12_value 19 = .ok (.ifCond .eq 12, 3) := by decide +kernel
theorem dX12_value_22 : decode cX12_value 22 = .ok (.aload_n 0, 1) := by decide +kernel
theorem dX12_value_23 : decode cX12_value 23 = .ok (.iload_n 1, 1) := by decide +kernel
theorem dX12_value_24 : decode cX12_value 24 = .ok (.iload_n 2, 1) := by decide +kernel
theorem dX12_value_25 : decode cX12_value 25 = .ok (.invokevirtual 240, 3) := by decide +kernel
theorem dX12_value_28 : decode cX12_value 28 = .ok (.goto 5, 3) := by decide +kernel
theorem dX12_value_31 : decode cX12_value 31 = .ok (.bipush (-2), 2) := by decide +kernel
theorem dX12_value_33 : decode cX12_value 33 = .ok (.ireturn, 1) := by decide +kernel
theorem dX12_valueOfAll_0 : decode cX12_valueOfAll 0 = .ok (.iconst 0, 1) := by decide +kernel
theorem dX12_valueOfAll_1 : decode cX12_valueOfAll 1 = .ok (.istore_n 2, 1) := by decide +kernel
theorem dX12_valueOfAll_2 : decode cX12_valueOfAll 2 = .ok (.iconst 0, 1) := by decide +kernel
theorem dX12_valueOfAll_3 : decode cX12_valueOfAll 3 = .ok (.istore_n 3, 1) := by decide +kernel
theorem dX12_valueOfAll_4 : decode cX12_valueOfAll 4 = .ok (.iload_n 3, 1) := by decide +kernel
theorem dX12_valueOfAll_5 : decode cX12_valueOfAll 5 = .ok (.bipush 8, 2) := by decide +kernel
theorem dX12_valueOfAll_7 : decode cX12_valueOfAll 7 = .ok (.if_icmp .ge 30, 3) := by decide +kernel
theorem dX12_valueOfAll_10 : decode cX12_valueOfAll 10 = .ok (.iload_n 2, 1) := by decide +kernel
theorem dX12_valueOfAll_11 : decode cX12_valueOfAll 11 = .ok (.aload_n 0, 1) := by decide +kernel
theorem dX12_valueOfAll_12 : decode cX12_valueOfAll 12 = .ok (.iload_n 3, 1) := by decide +kernel
theorem dX12_valueOfAll_13 : decode cX12_valueOfAll 13 = .ok (.invokevirtual 107, 3) := by decide +kernel
theorem dX12_valueOfAll_16 : decode cX12_valueOfAll 16 = .ok (.ifCond .eq 12, 3) := by decide +kernel
theorem dX12_valueOfAll_19 : decode cX12_valueOfAll 19 = .ok (.aload_n 0, 1) := by decide +kernel
theorem dX12_valueOfAll_20 : decode cX12_valueOfAll 20 = .ok (.iload_n 3, 1) := by decide +kernel
theorem dX12_valueOfAll_21 : decode cX12_valueOfAll 21 = .ok (.iload_n 1, 1) := by decide +kernel
theorem dX12_valueOfAll_22 : decode cX12_valueOfAll 22 = .ok (.invokevirtual 240, 3) := by decide +kernel
theorem dX12_valueOfAll_25 : decode cX12_valueOfAll 25 = .ok (.goto 4, 3) := by decide +kernel
theorem dX12_valueOfAll_28 : decode cX12_valueOfAll 28 = .ok (.iconst 0, 1) := by decide +kernel
theorem dX12_valueOfAll_29 : decode cX12_valueOfAll 29 = .ok (.iadd, 1) := by decide +kernel
theorem dX12_valueOfAll_30 : decode cX12_valueOfAll 30 = .ok (.istore_n 2, 1) := by decide +kernel
theorem dX12_valueOfAll_31 : decode cX12_valueOfAll 31 = .ok (.iinc 3 1, 3) := by decide +kernel
theorem dX12_valueOfAll_34 : decode cX12_valueOfAll 34 = .ok (.goto (-30), 3) := by decide +kernel
theorem dX12_valueOfAll_37 : decode cX12_valueOfAll 37 = .ok (.iload_n 2, 1) := by decide +kernel
theorem dX12_valueOfAll_38 : decode cX12_valueOfAll 38 = .ok (.ireturn, 1) := by decide +kernel
theorem dX12_opening_0 : decode cX12_opening 0 = .ok (.aload_n 0, 1) := by decide +kernel
theorem dX12_opening_1 : decode cX12_opening 1 = .ok (.iload_n 1, 1) := by decide +kernel
theorem dX12_opening_2 : decode cX12_opening 2 = .ok (.invokevirtual 107, 3) := by decide +kernel
theorem dX12_opening_5 : decode cX12_opening 5 = .ok (.ifCond .ne 5, 3) := by decide +kernel
theorem dX12_opening_8 : decode cX12_opening 8 = .ok (.iconst (-1), 1) := by decide +kernel
theorem dX12_opening_9 : decode cX12_opening 9 = .ok (.ireturn, 1) := by decide +kernel
theorem dX12_opening_10 : decode cX12_opening 10 = .ok (.iload_n 2, 1) := by decide +kernel
theorem dX12_opening_11 : decode cX12_opening 11 = .ok (.i2l, 1) := by decide +kernel
theorem dX12_opening_12 : decode cX12_opening 12 = .ok (.lconst 0, 1) := by decide +kernel
theorem dX12_opening_13 : decode cX12_opening 13 = .ok (.lconst 1, 1) := by decide +kernel
theorem dX12_opening_14 : decode cX12_opening 14 = .ok (.invokestatic 97, 3) := by decide +kernel
theorem dX12_opening_17 : decode cX12_opening 17 = .ok (.ifCond .ne 6, 3) := by decide +kernel
theorem dX12_opening_20 : decode cX12_opening 20 = .ok (.bipush (-2), 2) := by decide +kernel
theorem dX12_opening_22 : decode cX12_opening 22 = .ok (.ireturn, 1) := by decide +kernel
theorem dX12_opening_23 : decode cX12_opening 23 = .ok (.iconst 0, 1) := by decide +kernel
theorem dX12_opening_24 : decode cX12_opening 24 = .ok (.istore_n 3, 1) := by decide +kernel
theorem dX12_opening_25 : decode cX12_opening 25 = .ok (.iconst (-1), 1) := by decide +kernel
theorem dX12_opening_26 : decode cX12_opening 26 = .ok (.istore 4, 2) := by decide +kernel
theorem dX12_opening_28 : decode cX12_opening 28 = .ok (.iconst 0, 1) := by decide +kernel
theorem dX12_opening_29 : decode cX12_opening 29 = .ok (.istore 5, 2) := by decide +kernel
theorem dX12_opening_31 : decode cX12_opening 31 = .ok (.iload 5, 2) := by decide +kernel
theorem dX12_opening_33 : decode cX12_opening 33 = .ok (.bipush 100, 2) := by decide +kernel
theorem dX12_opening_35 : decode cX12_opening 35 = .ok (.if_icmp .ge 48, 3) := by decide +kernel
theorem dX12_opening_38 : decode cX12_opening 38 = .ok (.aload_n 0, 1) := by decide +kernel
theorem dX12_opening_39 : decode cX12_opening 39 = .ok (.iload_n 1, 1) := by decide +kernel
theorem dX12_opening_40 : decode cX12_opening 40 = .ok (.iload 5, 2) := by decide +kernel
theorem dX12_opening_42 : decode cX12_opening 42 = .ok (.invokevirtual 240, 3) := by decide +kernel
theorem dX12_opening_45 : decode cX12_opening 45 = .ok (.istore 6, 2) := by decide +kernel
theorem dX12_opening_47 : decode cX12_opening 47 = .ok (.iload 6, 2) := by decide +kernel
theorem dX12_opening_49 : decode cX12_opening 49 = .ok (.iload 4, 2) := by decide +kernel
theorem dX12_opening_51 : decode cX12_opening 51 = .ok (.if_icmp .le 8, 3) := by decide +kernel
theorem dX12_opening_54 : decode cX12_opening 54 = .ok (.iload 5, 2) := by decide +kernel
theorem dX12_opening_56 : decode cX12_opening 56 = .ok (.goto 4, 3) := by decide +kernel
theorem dX12_opening_59 : decode cX12_opening 59 = .ok (.iload_n 3, 1) := by decide +kernel
theorem dX12_opening_60 : decode cX12_opening 60 = .ok (.istore_n 3, 1) := by decide +kernel
theorem dX12_opening_61 : decode cX12_opening 61 = .ok (.iload 6, 2) := by decide +kernel
theorem dX12_opening_63 : decode cX12_opening 63 = .ok (.iload 4, 2) := by decide +kernel
theorem dX12_opening_65 : decode cX12_opening 65 = .ok (.if_icmp .le 8, 3) := by decide +kernel
theorem dX12_opening_68 : decode cX12_opening 68 = .ok (.iload 6, 2) := by decide +kernel
theorem dX12_opening_70 : decode cX12_opening 70 = .ok (.goto 5, 3) := by decide +kernel
theorem dX12_opening_73 : decode cX12_opening 73 = .ok (.iload 4, 2) := by decide +kernel
theorem dX12_opening_75 : decode cX12_opening 75 = .ok (.istore 4, 2) := by decide +kernel
theorem dX12_opening_77 : decode cX12_opening 77 = .ok (.iinc 5 1, 3) := by decide +kernel
theorem dX12_opening_80 : decode cX12_opening 80 = .ok (.goto (-49), 3) := by decide +kernel
theorem dX12_opening_83 : decode cX12_opening 83 = .ok (.iload_n 2, 1) := by decide +kernel
theorem dX12_opening_84 : decode cX12_opening 84 = .ok (.ifCond .ne 7, 3) := by decide +kernel
theorem dX12_opening_87 : decode cX12_opening 87 = .ok (.iload_n 3, 1) := by decide +kernel
theorem dX12_opening_88 : decode cX12_opening 88 = .ok (.goto 5, 3) := by decide +kernel
theorem dX12_opening_91 : decode cX12_opening 91 = .ok (.iload 4, 2) := by decide +kernel
theorem dX12_opening_93 : decode cX12_opening 93 = .ok (.ireturn, 1) := by decide +kernel
theorem dX12_banquet_0 : decode cX12_banquet 0 = .ok (.iload_n 1, 1) := by decide +kernel
theorem dX12_banquet_1 : decode cX12_banquet 1 = .ok (.i2l, 1) := by decide +kernel
theorem dX12_banquet_2 : decode cX12_banquet 2 = .ok (.lconst 0, 1) := by decide +kernel
theorem dX12_banquet_3 : decode cX12_banquet 3 = .ok (.lconst 1, 1) := by decide +kernel
theorem dX12_banquet_4 : decode cX12_banquet 4 = .ok (.invokestatic 97, 3) := by decide +kernel
theorem dX12_banquet_7 : decode cX12_banquet 7 = .ok (.ifCond .ne 6, 3) := by decide +kernel
theorem dX12_banquet_10 : decode cX12_banquet 10 = .ok (.bipush (-2), 2) := by decide +kernel
theorem dX12_banquet_12 : decode cX12_banquet 12 = .ok (.ireturn, 1) := by decide +kernel
theorem dX12_banquet_13 : decode cX12_banquet 13 = .ok (.iconst 0, 1) := by decide +kernel
theorem dX12_banquet_14 : decode cX12_banquet 14 = .ok (.istore_n 2, 1) := by decide +kernel
theorem dX12_banquet_15 : decode cX12_banquet 15 = .ok (.iconst (-1), 1) := by decide +kernel
theorem dX12_banquet_16 : decode cX12_banquet 16 = .ok (.istore_n 3, 1) := by decide +kernel
theorem dX12_banquet_17 : decode cX12_banquet 17 = .ok (.iconst 0, 1) := by decide +kernel
theorem dX12_banquet_18 : decode cX12_banquet 18 = .ok (.istore 4, 2) := by decide +kernel
theorem dX12_banquet_20 : decode cX12_banquet 20 = .ok (.iload 4, 2) := by decide +kernel
theorem dX12_banquet_22 : decode cX12_banquet 22 = .ok (.bipush 100, 2) := by decide +kernel
theorem dX12_banquet_24 : decode cX12_banquet 24 = .ok (.if_icmp .ge 43, 3) := by decide +kernel
theorem dX12_banquet_27 : decode cX12_banquet 27 = .ok (.aload_n 0, 1) := by decide +kernel
theorem dX12_banquet_28 : decode cX12_banquet 28 = .ok (.iload 4, 2) := by decide +kernel
theorem dX12_banquet_30 : decode cX12_banquet 30 = .ok (.invokevirtual 243, 3) := by decide +kernel
theorem dX12_banquet_33 : decode cX12_banquet 33 = .ok (.istore 5, 2) := by decide +kernel
theorem dX12_banquet_35 : decode cX12_banquet 35 = .ok (.iload 5, 2) := by decide +kernel
theorem dX12_banquet_37 : decode cX12_banquet 37 = .ok (.iload_n 3, 1) := by decide +kernel
theorem dX12_banquet_38 : decode cX12_banquet 38 = .ok (.if_icmp .le 8, 3) := by decide +kernel
theorem dX12_banquet_41 : decode cX12_banquet 41 = .ok (.iload 4, 2) := by decide +kernel
theorem dX12_banquet_43 : decode cX12_banquet 43 = .ok (.goto 4, 3) := by decide +kernel
theorem dX12_banquet_46 : decode cX12_banquet 46 = .ok (.iload_n 2, 1) := by decide +kernel
theorem dX12_banquet_47 : decode cX12_banquet 47 = .ok (.istore_n 2, 1) := by decide +kernel
theorem dX12_banquet_48 : decode cX12_banquet 48 = .ok (.iload 5, 2) := by decide +kernel
theorem dX12_banquet_50 : decode cX12_banquet 50 = .ok (.iload_n 3, 1) := by decide +kernel
theorem dX12_banquet_51 : decode cX12_banquet 51 = .ok (.if_icmp .le 8, 3) := by decide +kernel
theorem dX12_banquet_54 : decode cX12_banquet 54 = .ok (.iload 5, 2) := by decide +kernel
theorem dX12_banquet_56 : decode cX12_banquet 56 = .ok (.goto 4, 3) := by decide +kernel
theorem dX12_banquet_59 : decode cX12_banquet 59 = .ok (.iload_n 3, 1) := by decide +kernel
theorem dX12_banquet_60 : decode cX12_banquet 60 = .ok (.istore_n 3, 1) := by decide +kernel
theorem dX12_banquet_61 : decode cX12_banquet 61 = .ok (.iinc 4 1, 3) := by decide +kernel
theorem dX12_banquet_64 : decode cX12_banquet 64 = .ok (.goto (-44), 3) := by decide +kernel
theorem dX12_banquet_67 : decode cX12_banquet 67 = .ok (.iload_n 1, 1) := by decide +kernel
theorem dX12_banquet_68 : decode cX12_banquet 68 = .ok (.ifCond .ne 7, 3) := by decide +kernel
theorem dX12_banquet_71 : decode cX12_banquet 71 = .ok (.iload_n 2, 1) := by decide +kernel
theorem dX12_banquet_72 : decode cX12_banquet 72 = .ok (.goto 4, 3) := by decide +kernel
theorem dX12_banquet_75 : decode cX12_banquet 75 = .ok (.iload_n 3, 1) := by decide +kernel
theorem dX12_banquet_76 : decode cX12_banquet 76 = .ok (.ireturn, 1) := by decide +kernel
theorem dX12_given_0 : decode cX12_given 0 = .ok (.iload_n 1, 1) := by decide +kernel
theorem dX12_given_1 : decode cX12_given 1 = .ok (.iload_n 2, 1) := by decide +kernel
theorem dX12_given_2 : decode cX12_given 2 = .ok (.if_icmp .ne 27, 3) := by decide +kernel
theorem dX12_given_5 : decode cX12_given 5 = .ok (.aload_n 0, 1) := by decide +kernel
theorem dX12_given_6 : decode cX12_given 6 = .ok (.getfield 61, 3) := by decide +kernel
theorem dX12_given_9 : decode cX12_given 9 = .ok (.iload_n 1, 1) := by decide +kernel
theorem dX12_given_10 : decode cX12_given 10 = .ok (.iaload, 1) := by decide +kernel
theorem dX12_given_11 : decode cX12_given 11 = .ok (.aload_n 0, 1) := by decide +kernel
theorem dX12_given_12 : decode cX12_given 12 = .ok (.getfield 71, 3) := by decide +kernel
theorem dX12_given_15 : decode cX12_given 15 = .ok (.if_icmp .lt 7, 3) := by decide +kernel
theorem dX12_given_18 : decode cX12_given 18 = .ok (.iconst 0, 1) := by decide +kernel
theorem dX12_given_19 : decode cX12_given 19 = .ok (.goto 9, 3) := by decide +kernel
theorem dX12_given_22 : decode cX12_given 22 = .ok (.aload_n 0, 1) := by decide +kernel
theorem dX12_given_23 : decode cX12_given 23 = .ok (.getfield 19, 3) := by decide +kernel
theorem dX12_given_26 : decode cX12_given 26 = .ok (.iload_n 1, 1) := by decide +kernel
theorem dX12_given_27 : decode cX12_given 27 = .ok (.iaload, 1) := by decide +kernel
theorem dX12_given_28 : decode cX12_given 28 = .ok (.ireturn, 1) := by decide +kernel
theorem dX12_given_29 : decode cX12_given 29 = .ok (.aload_n 0, 1) := by decide +kernel
theorem dX12_given_30 : decode cX12_given 30 = .ok (.getfield 19, 3) := by decide +kernel
theorem dX12_given_33 : decode cX12_given 33 = .ok (.iload_n 1, 1) := by decide +kernel
theorem dX12_given_34 : decode cX12_given 34 = .ok (.iaload, 1) := by decide +kernel
theorem dX12_given_35 : decode cX12_given 35 = .ok (.aload_n 0, 1) := by decide +kernel
theorem dX12_given_36 : decode cX12_given 36 = .ok (.getfield 19, 3) := by decide +kernel
theorem dX12_given_39 : decode cX12_given 39 = .ok (.iload_n 2, 1) := by decide +kernel
theorem dX12_given_40 : decode cX12_given 40 = .ok (.iaload, 1) := by decide +kernel
theorem dX12_given_41 : decode cX12_given 41 = .ok (.iadd, 1) := by decide +kernel
theorem dX12_given_42 : decode cX12_given 42 = .ok (.istore_n 3, 1) := by decide +kernel
theorem dX12_given_43 : decode cX12_given 43 = .ok (.aload_n 0, 1) := by decide +kernel
theorem dX12_given_44 : decode cX12_given 44 = .ok (.getfield 19, 3) := by decide +kernel
theorem dX12_given_47 : decode cX12_given 47 = .ok (.iload_n 1, 1) := by decide +kernel
theorem dX12_given_48 : decode cX12_given 48 = .ok (.iaload, 1) := by decide +kernel
theorem dX12_given_49 : decode cX12_given 49 = .ok (.aload_n 0, 1) := by decide +kernel
theorem dX12_given_50 : decode cX12_given 50 = .ok (.getfield 61, 3) := by decide +kernel
theorem dX12_given_53 : decode cX12_given 53 = .ok (.iload_n 1, 1) := by decide +kernel
theorem dX12_given_54 : decode cX12_given 54 = .ok (.iaload, 1) := by decide +kernel
theorem dX12_given_55 : decode cX12_given 55 = .ok (.imul, 1) := by decide +kernel
theorem dX12_given_56 : decode cX12_given 56 = .ok (.aload_n 0, 1) := by decide +kernel
theorem dX12_given_57 : decode cX12_given 57 = .ok (.getfield 19, 3) := by decide +kernel
theorem dX12_given_60 : decode cX12_given 60 = .ok (.iload_n 2, 1) := by decide +kernel
theorem dX12_given_61 : decode cX12_given 61 = .ok (.iaload, 1) := by decide +kernel
theorem dX12_given_62 : decode cX12_given 62 = .ok (.aload_n 0, 1) := by decide +kernel
theorem dX12_given_63 : decode cX12_given 63 = .ok (.getfield 61, 3) := by decide +kernel
theorem dX12_given_66 : decode cX12_given 66 = .ok (.iload_n 2, 1) := by decide +kernel
theorem dX12_given_67 : decode cX12_given 67 = .ok (.iaload, 1) := by decide +kernel
theorem dX12_given_68 : decode cX12_given 68 = .ok (.imul, 1) := by decide +kernel
theorem dX12_given_69 : decode cX12_given 69 = .ok (.iadd, 1) := by decide +kernel
theorem dX12_given_70 : decode cX12_given 70 = .ok (.iload_n 3, 1) := by decide +kernel
theorem dX12_given_71 : decode cX12_given 71 = .ok (.idiv, 1) := by decide +kernel
theorem dX12_given_72 : decode cX12_given 72 = .ok (.istore 4, 2) := by decide +kernel
theorem dX12_given_74 : decode cX12_given 74 = .ok (.iload 4, 2) := by decide +kernel
theorem dX12_given_76 : decode cX12_given 76 = .ok (.aload_n 0, 1) := by decide +kernel
theorem dX12_given_77 : decode cX12_given 77 = .ok (.getfield 71, 3) := by decide +kernel
theorem dX12_given_80 : decode cX12_given 80 = .ok (.if_icmp .lt 7, 3) := by decide +kernel
theorem dX12_given_83 : decode cX12_given 83 = .ok (.iconst 0, 1) := by decide +kernel
theorem dX12_given_84 : decode cX12_given 84 = .ok (.goto 25, 3) := by decide +kernel
theorem dX12_given_87 : decode cX12_given 87 = .ok (.iload_n 3, 1) := by decide +kernel
theorem dX12_given_88 : decode cX12_given 88 = .ok (.aload_n 0, 1) := by decide +kernel
theorem dX12_given_89 : decode cX12_given 89 = .ok (.getfield 25, 3) := by decide +kernel
theorem dX12_given_92 : decode cX12_given 92 = .ok (.iload_n 1, 1) := by decide +kernel
theorem dX12_given_93 : decode cX12_given 93 = .ok (.iaload, 1) := by decide +kernel
theorem dX12_given_94 : decode cX12_given 94 = .ok (.aload_n 0, 1) := by decide +kernel
theorem dX12_given_95 : decode cX12_given 95 = .ok (.getfield 25, 3) := by decide +kernel
theorem dX12_given_98 : decode cX12_given 98 = .ok (.iload_n 2, 1) := by decide +kernel
theorem dX12_given_99 : decode cX12_given 99 = .ok (.iaload, 1) := by decide +kernel
theorem dX12_given_100 : decode cX12_given 100 = .ok (.if_icmp .ne 7, 3) := by decide +kernel
theorem dX12_given_103 : decode cX12_given 103 = .ok (.iconst 0, 1) := by decide +kernel
theorem dX12_given_104 : decode cX12_given 104 = .ok (.goto 4, 3) := by decide +kernel
theorem dX12_given_107 : decode cX12_given 107 = .ok (.iconst 1, 1) := by decide +kernel
theorem dX12_given_108 : decode cX12_given 108 = .ok (.isub, 1) := by decide +kernel
theorem dX12_given_109 : decode cX12_given 109 = .ok (.ireturn, 1) := by decide +kernel
theorem dX12_leastOf_0 : decode cX12_leastOf 0 = .ok (.iconst 0, 1) := by decide +kernel
theorem dX12_leastOf_1 : decode cX12_leastOf 1 = .ok (.istore_n 1, 1) := by decide +kernel
theorem dX12_leastOf_2 : decode cX12_leastOf 2 = .ok (.iload_n 0, 1) := by decide +kernel
theorem dX12_leastOf_3 : decode cX12_leastOf 3 = .ok (.iload_n 1, 1) := by decide +kernel
theorem dX12_leastOf_4 : decode cX12_leastOf 4 = .ok (.ishr, 1) := by decide +kernel
theorem dX12_leastOf_5 : decode cX12_leastOf 5 = .ok (.iconst 1, 1) := by decide +kernel
theorem dX12_leastOf_6 : decode cX12_leastOf 6 = .ok (.iand, 1) := by decide +kernel
theorem dX12_leastOf_7 : decode cX12_leastOf 7 = .ok (.ifCond .ne 9, 3) := by decide +kernel
theorem dX12_leastOf_10 : decode cX12_leastOf 10 = .ok (.iinc 1 1, 3) := by decide +kernel
theorem dX12_leastOf_13 : decode cX12_leastOf 13 = .ok (.goto (-11), 3) := by decide +kernel
theorem dX12_leastOf_16 : decode cX12_leastOf 16 = .ok (.iload_n 1, 1) := by decide +kernel
theorem dX12_leastOf_17 : decode cX12_leastOf 17 = .ok (.ireturn, 1) := by decide +kernel
theorem dX12_without_0 : decode cX12_without 0 = .ok (.iload_n 1, 1) := by decide +kernel
theorem dX12_without_1 : decode cX12_without 1 = .ok (.iconst 1, 1) := by decide +kernel
theorem dX12_without_2 : decode cX12_without 2 = .ok (.iload_n 2, 1) := by decide +kernel
theorem dX12_without_3 : decode cX12_without 3 = .ok (.ishl, 1) := by decide +kernel
theorem dX12_without_4 : decode cX12_without 4 = .ok (.iconst (-1), 1) := by decide +kernel
theorem dX12_without_5 : decode cX12_without 5 = .ok (.ixor, 1) := by decide +kernel
theorem dX12_without_6 : decode cX12_without 6 = .ok (.iand, 1) := by decide +kernel
theorem dX12_without_7 : decode cX12_without 7 = .ok (.iconst 1, 1) := by decide +kernel
theorem dX12_without_8 : decode cX12_without 8 = .ok (.iload_n 3, 1) := by decide +kernel
theorem dX12_without_9 : decode cX12_without 9 = .ok (.ishl, 1) := by decide +kernel
theorem dX12_without_10 : decode cX12_without 10 = .ok (.iconst (-1), 1) := by decide +kernel
theorem dX12_without_11 : decode cX12_without 11 = .ok (.ixor, 1) := by decide +kernel
theorem dX12_without_12 : decode cX12_without 12 = .ok (.iand, 1) := by decide +kernel
theorem dX12_without_13 : decode cX12_without 13 = .ok (.ireturn, 1) := by decide +kernel
theorem dX12_findMost_0 : decode cX12_findMost 0 = .ok (.aload_n 0, 1) := by decide +kernel
theorem dX12_findMost_1 : decode cX12_findMost 1 = .ok (.getfield 58, 3) := by decide +kernel
theorem dX12_findMost_4 : decode cX12_findMost 4 = .ok (.iconst 0, 1) := by decide +kernel
theorem dX12_findMost_5 : decode cX12_findMost 5 = .ok (.iconst 0, 1) := by decide +kernel
theorem dX12_findMost_6 : decode cX12_findMost 6 = .ok (.iastore, 1) := by decide +kernel
theorem dX12_findMost_7 : decode cX12_findMost 7 = .ok (.iconst 1, 1) := by decide +kernel
theorem dX12_findMost_8 : decode cX12_findMost 8 = .ok (.istore_n 1, 1) := by decide +kernel
theorem dX12_findMost_9 : decode cX12_findMost 9 = .ok (.iload_n 1, 1) := by decide +kernel
theorem dX12_findMost_10 : decode cX12_findMost 10 = .ok (.sipush 256, 3) := by decide +kernel
theorem dX12_findMost_13 : decode cX12_findMost 13 = .ok (.if_icmp .ge 108, 3) := by decide +kernel
theorem dX12_findMost_16 : decode cX12_findMost 16 = .ok (.aload_n 0, 1) := by decide +kernel
theorem dX12_findMost_17 : decode cX12_findMost 17 = .ok (.getfield 58, 3) := by decide +kernel
theorem dX12_findMost_20 : decode cX12_findMost 20 = .ok (.iload_n 1, 1) := by decide +kernel
theorem dX12_findMost_21 : decode cX12_findMost 21 = .ok (.iconst 0, 1) := by decide +kernel
theorem dX12_findMost_22 : decode cX12_findMost 22 = .ok (.iastore, 1) := by decide +kernel
theorem dX12_findMost_23 : decode cX12_findMost 23 = .ok (.iload_n 1, 1) := by decide +kernel
theorem dX12_findMost_24 : decode cX12_findMost 24 = .ok (.invokestatic 246, 3) := by decide +kernel
theorem dX12_findMost_27 : decode cX12_findMost 27 = .ok (.istore_n 2, 1) := by decide +kernel
theorem dX12_findMost_28 : decode cX12_findMost 28 = .ok (.iload_n 2, 1) := by decide +kernel
theorem dX12_findMost_29 : decode cX12_findMost 29 = .ok (.istore_n 3, 1) := by decide +kernel
theorem dX12_findMost_30 : decode cX12_findMost 30 = .ok (.iload_n 3, 1) := by decide +kernel
theorem dX12_findMost_31 : decode cX12_findMost 31 = .ok (.bipush 8, 2) := by decide +kernel
theorem dX12_findMost_33 : decode cX12_findMost 33 = .ok (.if_icmp .ge 82, 3) := by decide +kernel
theorem dX12_findMost_36 : decode cX12_findMost 36 = .ok (.iload_n 1, 1) := by decide +kernel
theorem dX12_findMost_37 : decode cX12_findMost 37 = .ok (.aload_n 0, 1) := by decide +kernel
theorem dX12_findMost_38 : decode cX12_findMost 38 = .ok (.getfield 91, 3) := by decide +kernel
theorem dX12_findMost_41 : decode cX12_findMost 41 = .ok (.iconst (-1), 1) := by decide +kernel
theorem dX12_findMost_42 : decode cX12_findMost 42 = .ok (.ixor, 1) := by decide +kernel
theorem dX12_findMost_43 : decode cX12_findMost 43 = .ok (.iand, 1) := by decide +kernel
theorem dX12_findMost_44 : decode cX12_findMost 44 = .ok (.ifCond .ne 71, 3) := by decide +kernel
theorem dX12_findMost_47 : decode cX12_findMost 47 = .ok (.iload_n 1, 1) := by decide +kernel
theorem dX12_findMost_48 : decode cX12_findMost 48 = .ok (.iload_n 3, 1) := by decide +kernel
theorem dX12_findMost_49 : decode cX12_findMost 49 = .ok (.ishr, 1) := by decide +kernel
theorem dX12_findMost_50 : decode cX12_findMost 50 = .ok (.iconst 1, 1) := by decide +kernel
theorem dX12_findMost_51 : decode cX12_findMost 51 = .ok (.iand, 1) := by decide +kernel
theorem dX12_findMost_52 : decode cX12_findMost 52 = .ok (.iconst 1, 1) := by decide +kernel
theorem dX12_findMost_53 : decode cX12_findMost 53 = .ok (.if_icmp .ne 25, 3) := by decide +kernel
theorem dX12_findMost_56 : decode cX12_findMost 56 = .ok (.aload_n 0, 1) := by decide +kernel
theorem dX12_findMost_57 : decode cX12_findMost 57 = .ok (.iload_n 2, 1) := by decide +kernel
theorem dX12_findMost_58 : decode cX12_findMost 58 = .ok (.iload_n 3, 1) := by decide +kernel
theorem dX12_findMost_59 : decode cX12_findMost 59 = .ok (.invokevirtual 249, 3) := by decide +kernel
theorem dX12_findMost_62 : decode cX12_findMost 62 = .ok (.aload_n 0, 1) := by decide +kernel
theorem dX12_findMost_63 : decode cX12_findMost 63 = .ok (.getfield 58, 3) := by decide +kernel
theorem dX12_findMost_66 : decode cX12_findMost 66 = .ok (.aload_n 0, 1) := by decide +kernel
theorem dX12_findMost_67 : decode cX12_findMost 67 = .ok (.iload_n 1, 1) := by decide +kernel
theorem dX12_findMost_68 : decode cX12_findMost 68 = .ok (.iload_n 2, 1) := by decide +kernel
theorem dX12_findMost_69 : decode cX12_findMost 69 = .ok (.iload_n 3, 1) := by decide +kernel
theorem dX12_findMost_70 : decode cX12_findMost 70 = .ok (.invokevirtual 252, 3) := by decide +kernel
theorem dX12_findMost_73 : decode cX12_findMost 73 = .ok (.iaload, 1) := by decide +kernel
theorem dX12_findMost_74 : decode cX12_findMost 74 = .ok (.iadd, 1) := by decide +kernel
theorem dX12_findMost_75 : decode cX12_findMost 75 = .ok (.goto 4, 3) := by decide +kernel
theorem dX12_findMost_78 : decode cX12_findMost 78 = .ok (.iconst 0, 1) := by decide +kernel
theorem dX12_findMost_79 : decode cX12_findMost 79 = .ok (.istore 4, 2) := by decide +kernel
theorem dX12_findMost_81 : decode cX12_findMost 81 = .ok (.aload_n 0, 1) := by decide +kernel
theorem dX12_findMost_82 : decode cX12_findMost 82 = .ok (.getfield 58, 3) := by decide +kernel
theorem dX12_findMost_85 : decode cX12_findMost 85 = .ok (.iload_n 1, 1) := by decide +kernel
theorem dX12_findMost_86 : decode cX12_findMost 86 = .ok (.iload 4, 2) := by decide +kernel
theorem dX12_findMost_88 : decode cX12_findMost 88 = .ok (.aload_n 0, 1) := by decide +kernel
theorem dX12_findMost_89 : decode cX12_findMost 89 = .ok (.getfield 58, 3) := by decide +kernel
theorem dX12_findMost_92 : decode cX12_findMost 92 = .ok (.iload_n 1, 1) := by decide +kernel
theorem dX12_findMost_93 : decode cX12_findMost 93 = .ok (.iaload, 1) := by decide +kernel
theorem dX12_findMost_94 : decode cX12_findMost 94 = .ok (.if_icmp .le 8, 3) := by decide +kernel
theorem dX12_findMost_97 : decode cX12_findMost 97 = .ok (.iload 4, 2) := by decide +kernel
theorem dX12_findMost_99 : decode cX12_findMost 99 = .ok (.goto 9, 3) := by decide +kernel
theorem dX12_findMost_102 : decode cX12_findMost 102 = .ok (.aload_n 0, 1) := by decide +kernel
theorem dX12_findMost_103 : decode cX12_findMost 103 = .ok (.getfield 58, 3) := by decide +kernel
theorem dX12_findMost_106 : decode cX12_findMost 106 = .ok (.iload_n 1, 1) := by decide +kernel
theorem dX12_findMost_107 : decode cX12_findMost 107 = .ok (.iaload, 1) := by decide +kernel
theorem dX12_findMost_108 : decode cX12_findMost 108 = .ok (.iastore, 1) := by decide +kernel
theorem dX12_findMost_109 : decode cX12_findMost 109 = .ok (.iinc 3 1, 3) := by decide +kernel
theorem dX12_findMost_112 : decode cX12_findMost 112 = .ok (.goto (-82), 3) := by decide +kernel
theorem dX12_findMost_115 : decode cX12_findMost 115 = .ok (.iinc 1 1, 3) := by decide +kernel
theorem dX12_findMost_118 : decode cX12_findMost 118 = .ok (.goto (-109), 3) := by decide +kernel
theorem dX12_findMost_121 : decode cX12_findMost 121 = .ok (.return_, 1) := by decide +kernel
theorem dX12_findPartners_0 : decode cX12_findPartners 0 = .ok (.aload_n 0, 1) := by decide +kernel
theorem dX12_findPartners_1 : decode cX12_findPartners 1 = .ok (.getfield 91, 3) := by decide +kernel
theorem dX12_findPartners_4 : decode cX12_findPartners 4 = .ok (.istore_n 1, 1) := by decide +kernel
theorem dX12_findPartners_5 : decode cX12_findPartners 5 = .ok (.iload_n 1, 1) := by decide +kernel
theorem dX12_findPartners_6 : decode cX12_findPartners 6 = .ok (.ifCond .eq 77, 3) := by decide +kernel
theorem dX12_findPartners_9 : decode cX12_findPartners 9 = .ok (.iload_n 1, 1) := by decide +kernel
theorem dX12_findPartners_10 : decode cX12_findPartners 10 = .ok (.invokestatic 246, 3) := by decide +kernel
theorem dX12_findPartners_13 : decode cX12_findPartners 13 = .ok (.istore_n 2, 1) := by decide +kernel
theorem dX12_findPartners_14 : decode cX12_findPartners 14 = .ok (.iload_n 2, 1) := by decide +kernel
theorem dX12_findPartners_15 : decode cX12_findPartners 15 = .ok (.istore_n 3, 1) := by decide +kernel
theorem dX12_findPartners_16 : decode cX12_findPartners 16 = .ok (.iload_n 1, 1) := by decide +kernel
theorem dX12_findPartners_17 : decode cX12_findPartners 17 = .ok (.iload_n 3, 1) := by decide +kernel
theorem dX12_findPartners_18 : decode cX12_findPartners 18 = .ok (.ishr, 1) := by decide +kernel
theorem dX12_findPartners_19 : decode cX12_findPartners 19 = .ok (.iconst 1, 1) := by decide +kernel
theorem dX12_findPartners_20 : decode cX12_findPartners 20 = .ok (.iand, 1) := by decide +kernel
theorem dX12_findPartners_21 : decode cX12_findPartners 21 = .ok (.ifCond .eq 31, 3) := by decide +kernel
theorem dX12_findPartners_24 : decode cX12_findPartners 24 = .ok (.aload_n 0, 1) := by decide +kernel
theorem dX12_findPartners_25 : decode cX12_findPartners 25 = .ok (.iload_n 2, 1) := by decide +kernel
theorem dX12_findPartners_26 : decode cX12_findPartners 26 = .ok (.iload_n 3, 1) := by decide +kernel
theorem dX12_findPartners_27 : decode cX12_findPartners 27 = .ok (.invokevirtual 249, 3) := by decide +kernel
theorem dX12_findPartners_30 : decode cX12_findPartners 30 = .ok (.aload_n 0, 1) := by decide +kernel
theorem dX12_findPartners_31 : decode cX12_findPartners 31 = .ok (.getfield 58, 3) := by decide +kernel
theorem dX12_findPartners_34 : decode cX12_findPartners 34 = .ok (.aload_n 0, 1) := by decide +kernel
theorem dX12_findPartners_35 : decode cX12_findPartners 35 = .ok (.iload_n 1, 1) := by decide +kernel
theorem dX12_findPartners_36 : decode cX12_findPartners 36 = .ok (.iload_n 2, 1) := by decide +kernel
theorem dX12_findPartners_37 : decode cX12_findPartners 37 = .ok (.iload_n 3, 1) := by decide +kernel
theorem dX12_findPartners_38 : decode cX12_findPartners 38 = .ok (.invokevirtual 252, 3) := by decide +kernel
theorem dX12_findPartners_41 : decode cX12_findPartners 41 = .ok (.iaload, 1) := by decide +kernel
theorem dX12_findPartners_42 : decode cX12_findPartners 42 = .ok (.iadd, 1) := by decide +kernel
theorem dX12_findPartners_43 : decode cX12_findPartners 43 = .ok (.aload_n 0, 1) := by decide +kernel
theorem dX12_findPartners_44 : decode cX12_findPartners 44 = .ok (.getfield 58, 3) := by decide +kernel
theorem dX12_findPartners_47 : decode cX12_findPartners 47 = .ok (.iload_n 1, 1) := by decide +kernel
theorem dX12_findPartners_48 : decode cX12_findPartners 48 = .ok (.iaload, 1) := by decide +kernel
theorem dX12_findPartners_49 : decode cX12_findPartners 49 = .ok (.if_icmp .ge 9, 3) := by decide +kernel
theorem dX12_findPartners_52 : decode cX12_findPartners 52 = .ok (.iinc 3 1, 3) := by decide +kernel
theorem dX12_findPartners_55 : decode cX12_findPartners 55 = .ok (.goto (-39), 3) := by decide +kernel
theorem dX12_findPartners_58 : decode cX12_findPartners 58 = .ok (.aload_n 0, 1) := by decide +kernel
theorem dX12_findPartners_59 : decode cX12_findPartners 59 = .ok (.getfield 55, 3) := by decide +kernel
theorem dX12_findPartners_62 : decode cX12_findPartners 62 = .ok (.iload_n 2, 1) := by decide +kernel
theorem dX12_findPartners_63 : decode cX12_findPartners 63 = .ok (.iload_n 3, 1) := by decide +kernel
theorem dX12_findPartners_64 : decode cX12_findPartners 64 = .ok (.iastore, 1) := by decide +kernel
theorem dX12_findPartners_65 : decode cX12_findPartners 65 = .ok (.aload_n 0, 1) := by decide +kernel
theorem dX12_findPartners_66 : decode cX12_findPartners 66 = .ok (.getfield 55, 3) := by decide +kernel
theorem dX12_findPartners_69 : decode cX12_findPartners 69 = .ok (.iload_n 3, 1) := by decide +kernel
theorem dX12_findPartners_70 : decode cX12_findPartners 70 = .ok (.iload_n 2, 1) := by decide +kernel
theorem dX12_findPartners_71 : decode cX12_findPartners 71 = .ok (.iastore, 1) := by decide +kernel
theorem dX12_findPartners_72 : decode cX12_findPartners 72 = .ok (.aload_n 0, 1) := by decide +kernel
theorem dX12_findPartners_73 : decode cX12_findPartners 73 = .ok (.iload_n 1, 1) := by decide +kernel
theorem dX12_findPartners_74 : decode cX12_findPartners 74 = .ok (.iload_n 2, 1) := by decide +kernel
theorem dX12_findPartners_75 : decode cX12_findPartners 75 = .ok (.iload_n 3, 1) := by decide +kernel
theorem dX12_findPartners_76 : decode cX12_findPartners 76 = .ok (.invokevirtual 252, 3) := by decide +kernel
theorem dX12_findPartners_79 : decode cX12_findPartners 79 = .ok (.istore_n 1, 1) := by decide +kernel
theorem dX12_findPartners_80 : decode cX12_findPartners 80 = .ok (.goto (-75), 3) := by decide +kernel
theorem dX12_findPartners_83 : decode cX12_findPartners 83 = .ok (.return_, 1) := by decide +kernel
theorem dX12_poured_0 : decode cX12_poured 0 = .ok (.iload_n 2, 1) := by decide +kernel
theorem dX12_poured_1 : decode cX12_poured 1 = .ok (.iconst (-1), 1) := by decide +kernel
theorem dX12_poured_2 : decode cX12_poured 2 = .ok (.if_icmp .eq 13, 3) := by decide +kernel
theorem dX12_poured_5 : decode cX12_poured 5 = .ok (.aload_n 0, 1) := by decide +kernel
theorem dX12_poured_6 : decode cX12_poured 6 = .ok (.iload_n 2, 1) := by decide +kernel
theorem dX12_poured_7 : decode cX12_poured 7 = .ok (.invokevirtual 107, 3) := by decide +kernel
theorem dX12_poured_10 : decode cX12_poured 10 = .ok (.ifCond .ne 5, 3) := by decide +kernel
theorem dX12_poured_13 : decode cX12_poured 13 = .ok (.iconst (-1), 1) := by decide +kernel
theorem dX12_poured_14 : decode cX12_poured 14 = .ok (.ireturn, 1) := by decide +kernel
theorem dX12_poured_15 : decode cX12_poured 15 = .ok (.iload_n 1, 1) := by decide +kernel
theorem dX12_poured_16 : decode cX12_poured 16 = .ok (.invokestatic 177, 3) := by decide +kernel
theorem dX12_poured_19 : decode cX12_poured 19 = .ok (.ifCond .ne 6, 3) := by decide +kernel
theorem dX12_poured_22 : decode cX12_poured 22 = .ok (.bipush (-2), 2) := by decide +kernel
theorem dX12_poured_24 : decode cX12_poured 24 = .ok (.ireturn, 1) := by decide +kernel
theorem dX12_poured_25 : decode cX12_poured 25 = .ok (.iconst 0, 1) := by decide +kernel
theorem dX12_poured_26 : decode cX12_poured 26 = .ok (.istore_n 3, 1) := by decide +kernel
theorem dX12_poured_27 : decode cX12_poured 27 = .ok (.iload_n 3, 1) := by decide +kernel
theorem dX12_poured_28 : decode cX12_poured 28 = .ok (.bipush 8, 2) := by decide +kernel
theorem dX12_poured_30 : decode cX12_poured 30 = .ok (.if_icmp .ge 33, 3) := by decide +kernel
theorem dX12_poured_33 : decode cX12_poured 33 = .ok (.aload_n 0, 1) := by decide +kernel
theorem dX12_poured_34 : decode cX12_poured 34 = .ok (.getfield 61, 3) := by decide +kernel
theorem dX12_poured_37 : decode cX12_poured 37 = .ok (.iload_n 3, 1) := by decide +kernel
theorem dX12_poured_38 : decode cX12_poured 38 = .ok (.aload_n 0, 1) := by decide +kernel
theorem dX12_poured_39 : decode cX12_poured 39 = .ok (.iload_n 3, 1) := by decide +kernel
theorem dX12_poured_40 : decode cX12_poured 40 = .ok (.invokevirtual 107, 3) := by decide +kernel
theorem dX12_poured_43 : decode cX12_poured 43 = .ok (.ifCond .eq 12, 3) := by decide +kernel
theorem dX12_poured_46 : decode cX12_poured 46 = .ok (.aload_n 0, 1) := by decide +kernel
theorem dX12_poured_47 : decode cX12_poured 47 = .ok (.iload_n 3, 1) := by decide +kernel
theorem dX12_poured_48 : decode cX12_poured 48 = .ok (.iload_n 1, 1) := by decide +kernel
theorem dX12_poured_49 : decode cX12_poured 49 = .ok (.invokevirtual 217, 3) := by decide +kernel
theorem dX12_poured_52 : decode cX12_poured 52 = .ok (.goto 4, 3) := by decide +kernel
theorem dX12_poured_55 : decode cX12_poured 55 = .ok (.iconst 0, 1) := by decide +kernel
theorem dX12_poured_56 : decode cX12_poured 56 = .ok (.iastore, 1) := by decide +kernel
theorem dX12_poured_57 : decode cX12_poured 57 = .ok (.iinc 3 1, 3) := by decide +kernel
theorem dX12_poured_60 : decode cX12_poured 60 = .ok (.goto (-33), 3) := by decide +kernel
theorem dX12_poured_63 : decode cX12_poured 63 = .ok (.aload_n 0, 1) := by decide +kernel
theorem dX12_poured_64 : decode cX12_poured 64 = .ok (.invokevirtual 255, 3) := by decide +kernel
theorem dX12_poured_67 : decode cX12_poured 67 = .ok (.aload_n 0, 1) := by decide +kernel
theorem dX12_poured_68 : decode cX12_poured 68 = .ok (.invokevirtual 258, 3) := by decide +kernel
theorem dX12_poured_71 : decode cX12_poured 71 = .ok (.iload_n 2, 1) := by decide +kernel
theorem dX12_poured_72 : decode cX12_poured 72 = .ok (.iconst (-1), 1) := by decide +kernel
theorem dX12_poured_73 : decode cX12_poured 73 = .ok (.if_icmp .ne 15, 3) := by decide +kernel
theorem dX12_poured_76 : decode cX12_poured 76 = .ok (.aload_n 0, 1) := by decide +kernel
theorem dX12_poured_77 : decode cX12_poured 77 = .ok (.getfield 58, 3) := by decide +kernel
theorem dX12_poured_80 : decode cX12_poured 80 = .ok (.aload_n 0, 1) := by decide +kernel
theorem dX12_poured_81 : decode cX12_poured 81 = .ok (.getfield 91, 3) := by decide +kernel
theorem dX12_poured_84 : decode cX12_poured 84 = .ok (.iaload, 1) := by decide +kernel
theorem dX12_poured_85 : decode cX12_poured 85 = .ok (.goto 9, 3) := by decide +kernel
theorem dX12_poured_88 : decode cX12_poured 88 = .ok (.aload_n 0, 1) := by decide +kernel
theorem dX12_poured_89 : decode cX12_poured 89 = .ok (.getfield 55, 3) := by decide +kernel
theorem dX12_poured_92 : decode cX12_poured 92 = .ok (.iload_n 2, 1) := by decide +kernel
theorem dX12_poured_93 : decode cX12_poured 93 = .ok (.iaload, 1) := by decide +kernel
theorem dX12_poured_94 : decode cX12_poured 94 = .ok (.ireturn, 1) := by decide +kernel
theorem dX12_lowest_0 : decode cX12_lowest 0 = .ok (.lload_n 2, 1) := by decide +kernel
theorem dX12_lowest_1 : decode cX12_lowest 1 = .ok (.lstore 5, 2) := by decide +kernel
theorem dX12_lowest_3 : decode cX12_lowest 3 = .ok (.lload_n 0, 1) := by decide +kernel
theorem dX12_lowest_4 : decode cX12_lowest 4 = .ok (.lstore 7, 2) := by decide +kernel
theorem dX12_lowest_6 : decode cX12_lowest 6 = .ok (.lload 7, 2) := by decide +kernel
theorem dX12_lowest_8 : decode cX12_lowest 8 = .ok (.lconst 0, 1) := by decide +kernel
theorem dX12_lowest_9 : decode cX12_lowest 9 = .ok (.lcmp, 1) := by decide +kernel
theorem dX12_lowest_10 : decode cX12_lowest 10 = .ok (.ifCond .eq 21, 3) := by decide +kernel
theorem dX12_lowest_13 : decode cX12_lowest 13 = .ok (.lload 5, 2) := by decide +kernel
theorem dX12_lowest_15 : decode cX12_lowest 15 = .ok (.lload 7, 2) := by decide +kernel
theorem dX12_lowest_17 : decode cX12_lowest 17 = .ok (.lrem, 1) := by decide +kernel
theorem dX12_lowest_18 : decode cX12_lowest 18 = .ok (.lstore 9, 2) := by decide +kernel
theorem dX12_lowest_20 : decode cX12_lowest 20 = .ok (.lload 7, 2) := by decide +kernel
theorem dX12_lowest_22 : decode cX12_lowest 22 = .ok (.lstore 5, 2) := by decide +kernel
theorem dX12_lowest_24 : decode cX12_lowest 24 = .ok (.lload 9, 2) := by decide +kernel
theorem dX12_lowest_26 : decode cX12_lowest 26 = .ok (.lstore 7, 2) := by decide +kernel
theorem dX12_lowest_28 : decode cX12_lowest 28 = .ok (.goto (-22), 3) := by decide +kernel
theorem dX12_lowest_31 : decode cX12_lowest 31 = .ok (.iload 4, 2) := by decide +kernel
theorem dX12_lowest_33 : decode cX12_lowest 33 = .ok (.ifCond .ne 10, 3) := by decide +kernel
theorem dX12_lowest_36 : decode cX12_lowest 36 = .ok (.lload_n 0, 1) := by decide +kernel
theorem dX12_lowest_37 : decode cX12_lowest 37 = .ok (.lload 5, 2) := by decide +kernel
theorem dX12_lowest_39 : decode cX12_lowest 39 = .ok (.ldiv, 1) := by decide +kernel
theorem dX12_lowest_40 : decode cX12_lowest 40 = .ok (.goto 7, 3) := by decide +kernel
theorem dX12_lowest_43 : decode cX12_lowest 43 = .ok (.lload_n 2, 1) := by decide +kernel
theorem dX12_lowest_44 : decode cX12_lowest 44 = .ok (.lload 5, 2) := by decide +kernel
theorem dX12_lowest_46 : decode cX12_lowest 46 = .ok (.ldiv, 1) := by decide +kernel
theorem dX12_lowest_47 : decode cX12_lowest 47 = .ok (.lreturn, 1) := by decide +kernel
theorem dX12_weightOf_0 : decode cX12_weightOf 0 = .ok (.lconst 1, 1) := by decide +kernel
theorem dX12_weightOf_1 : decode cX12_weightOf 1 = .ok (.lstore_n 3, 1) := by decide +kernel
theorem dX12_weightOf_2 : decode cX12_weightOf 2 = .ok (.iconst 0, 1) := by decide +kernel
theorem dX12_weightOf_3 : decode cX12_weightOf 3 = .ok (.istore 5, 2) := by decide +kernel
theorem dX12_weightOf_5 : decode cX12_weightOf 5 = .ok (.iload 5, 2) := by decide +kernel
theorem dX12_weightOf_7 : decode cX12_weightOf 7 = .ok (.iload_n 1, 1) := by decide +kernel
theorem dX12_weightOf_8 : decode cX12_weightOf 8 = .ok (.if_icmp .ge 32, 3) := by decide +kernel
theorem dX12_weightOf_11 : decode cX12_weightOf 11 = .ok (.lload_n 3, 1) := by decide +kernel
theorem dX12_weightOf_12 : decode cX12_weightOf 12 = .ok (.iload_n 0, 1) := by decide +kernel
theorem dX12_weightOf_13 : decode cX12_weightOf 13 = .ok (.iload 5, 2) := by decide +kernel
theorem dX12_weightOf_15 : decode cX12_weightOf 15 = .ok (.ishr, 1) := by decide +kernel
theorem dX12_weightOf_16 : decode cX12_weightOf 16 = .ok (.iconst 1, 1) := by decide +kernel
theorem dX12_weightOf_17 : decode cX12_weightOf 17 = .ok (.iand, 1) := by decide +kernel
theorem dX12_weightOf_18 : decode cX12_weightOf 18 = .ok (.iconst 1, 1) := by decide +kernel
theorem dX12_weightOf_19 : decode cX12_weightOf 19 = .ok (.if_icmp .ne 8, 3) := by decide +kernel
theorem dX12_weightOf_22 : decode cX12_weightOf 22 = .ok (.iload_n 2, 1) := by decide +kernel
theorem dX12_weightOf_23 : decode cX12_weightOf 23 = .ok (.i2l, 1) := by decide +kernel
theorem dX12_weightOf_24 : decode cX12_weightOf 24 = .ok (.goto 8, 3) := by decide +kernel
theorem dX12_weightOf_27 : decode cX12_weightOf 27 = .ok (.bipush 10, 2) := by decide +kernel
theorem dX12_weightOf_29 : decode cX12_weightOf 29 = .ok (.iload_n 2, 1) := by decide +kernel
theorem dX12_weightOf_30 : decode cX12_weightOf 30 = .ok (.isub, 1) := by decide +kernel
theorem dX12_weightOf_31 : decode cX12_weightOf 31 = .ok (.i2l, 1) := by decide +kernel
theorem dX12_weightOf_32 : decode cX12_weightOf 32 = .ok (.lmul, 1) := by decide +kernel
theorem dX12_weightOf_33 : decode cX12_weightOf 33 = .ok (.lstore_n 3, 1) := by decide +kernel
theorem dX12_weightOf_34 : decode cX12_weightOf 34 = .ok (.iinc 5 1, 3) := by decide +kernel
theorem dX12_weightOf_37 : decode cX12_weightOf 37 = .ok (.goto (-32), 3) := by decide +kernel
theorem dX12_weightOf_40 : decode cX12_weightOf 40 = .ok (.lload_n 3, 1) := by decide +kernel
theorem dX12_weightOf_41 : decode cX12_weightOf 41 = .ok (.lreturn, 1) := by decide +kernel
theorem dX12_allWays_0 : decode cX12_allWays 0 = .ok (.lconst 1, 1) := by decide +kernel
theorem dX12_allWays_1 : decode cX12_allWays 1 = .ok (.lstore_n 1, 1) := by decide +kernel
theorem dX12_allWays_2 : decode cX12_allWays 2 = .ok (.iconst 0, 1) := by decide +kernel
theorem dX12_allWays_3 : decode cX12_allWays 3 = .ok (.istore_n 3, 1) := by decide +kernel
theorem dX12_allWays_4 : decode cX12_allWays 4 = .ok (.iload_n 3, 1) := by decide +kernel
theorem dX12_allWays_5 : decode cX12_allWays 5 = .ok (.iload_n 0, 1) := by decide +kernel
theorem dX12_allWays_6 : decode cX12_allWays 6 = .ok (.if_icmp .ge 15, 3) := by decide +kernel
theorem dX12_allWays_9 : decode cX12_allWays 9 = .ok (.lload_n 1, 1) := by decide +kernel
theorem dX12_allWays_10 : decode cX12_allWays 10 = .ok (.ldc2_w 261, 3) := by decide +kernel
theorem dX12_allWays_13 : decode cX12_allWays 13 = .ok (.lmul, 1) := by decide +kernel
theorem dX12_allWays_14 : decode cX12_allWays 14 = .ok (.lstore_n 1, 1) := by decide +kernel
theorem dX12_allWays_15 : decode cX12_allWays 15 = .ok (.iinc 3 1, 3) := by decide +kernel
theorem dX12_allWays_18 : decode cX12_allWays 18 = .ok (.goto (-14), 3) := by decide +kernel
theorem dX12_allWays_21 : decode cX12_allWays 21 = .ok (.lload_n 1, 1) := by decide +kernel
theorem dX12_allWays_22 : decode cX12_allWays 22 = .ok (.lreturn, 1) := by decide +kernel
theorem dX12_areDoors_0 : decode cX12_areDoors 0 = .ok (.iload_n 0, 1) := by decide +kernel
theorem dX12_areDoors_1 : decode cX12_areDoors 1 = .ok (.i2l, 1) := by decide +kernel
theorem dX12_areDoors_2 : decode cX12_areDoors 2 = .ok (.lconst 0, 1) := by decide +kernel
theorem dX12_areDoors_3 : decode cX12_areDoors 3 = .ok (.ldc2_w 261, 3) := by decide +kernel
theorem dX12_areDoors_6 : decode cX12_areDoors 6 = .ok (.invokestatic 97, 3) := by decide +kernel
theorem dX12_areDoors_9 : decode cX12_areDoors 9 = .ok (.ifCond .eq 29, 3) := by decide +kernel
theorem dX12_areDoors_12 : decode cX12_areDoors 12 = .ok (.iload_n 1, 1) := by decide +kernel
theorem dX12_areDoors_13 : decode cX12_areDoors 13 = .ok (.i2l, 1) := by decide +kernel
theorem dX12_areDoors_14 : decode cX12_areDoors 14 = .ok (.lconst 0, 1) := by decide +kernel
theorem dX12_areDoors_15 : decode cX12_areDoors 15 = .ok (.ldc2_w 261, 3) := by decide +kernel
theorem dX12_areDoors_18 : decode cX12_areDoors 18 = .ok (.invokestatic 97, 3) := by decide +kernel
theorem dX12_areDoors_21 : decode cX12_areDoors 21 = .ok (.ifCond .eq 17, 3) := by decide +kernel
theorem dX12_areDoors_24 : decode cX12_areDoors 24 = .ok (.iload_n 2, 1) := by decide +kernel
theorem dX12_areDoors_25 : decode cX12_areDoors 25 = .ok (.i2l, 1) := by decide +kernel
theorem dX12_areDoors_26 : decode cX12_areDoors 26 = .ok (.lconst 0, 1) := by decide +kernel
theorem dX12_areDoors_27 : decode cX12_areDoors 27 = .ok (.lconst 1, 1) := by decide +kernel
theorem dX12_areDoors_28 : decode cX12_areDoors 28 = .ok (.invokestatic 97, 3) := by decide +kernel
theorem dX12_areDoors_31 : decode cX12_areDoors 31 = .ok (.ifCond .eq 7, 3) := by decide +kernel
theorem dX12_areDoors_34 : decode cX12_areDoors 34 = .ok (.iconst 1, 1) := by decide +kernel
theorem dX12_areDoors_35 : decode cX12_areDoors 35 = .ok (.goto 4, 3) := by decide +kernel
theorem dX12_areDoors_38 : decode cX12_areDoors 38 = .ok (.iconst 0, 1) := by decide +kernel
theorem dX12_areDoors_39 : decode cX12_areDoors 39 = .ok (.ireturn, 1) := by decide +kernel
theorem dX12_likely_0 : decode cX12_likely 0 = .ok (.aload_n 0, 1) := by decide +kernel
theorem dX12_likely_1 : decode cX12_likely 1 = .ok (.iload_n 1, 1) := by decide +kernel
theorem dX12_likely_2 : decode cX12_likely 2 = .ok (.invokevirtual 107, 3) := by decide +kernel
theorem dX12_likely_5 : decode cX12_likely 5 = .ok (.ifCond .ne 7, 3) := by decide +kernel
theorem dX12_likely_8 : decode cX12_likely 8 = .ok (.ldc2_w 263, 3) := by decide +kernel
theorem dX12_likely_11 : decode cX12_likely 11 = .ok (.lreturn, 1) := by decide +kernel
theorem dX12_likely_12 : decode cX12_likely 12 = .ok (.iload_n 2, 1) := by decide +kernel
theorem dX12_likely_13 : decode cX12_likely 13 = .ok (.iload_n 3, 1) := by decide +kernel
theorem dX12_likely_14 : decode cX12_likely 14 = .ok (.iload 4, 2) := by decide +kernel
theorem dX12_likely_16 : decode cX12_likely 16 = .ok (.invokestatic 265, 3) := by decide +kernel
theorem dX12_likely_19 : decode cX12_likely 19 = .ok (.ifCond .ne 7, 3) := by decide +kernel
theorem dX12_likely_22 : decode cX12_likely 22 = .ok (.ldc2_w 269, 3) := by decide +kernel
theorem dX12_likely_25 : decode cX12_likely 25 = .ok (.lreturn, 1) := by decide +kernel
theorem dX12_likely_26 : decode cX12_likely 26 = .ok (.lconst 0, 1) := by decide +kernel
theorem dX12_likely_27 : decode cX12_likely 27 = .ok (.lstore 5, 2) := by decide +kernel
theorem dX12_likely_29 : decode cX12_likely 29 = .ok (.iconst 0, 1) := by decide +kernel
theorem dX12_likely_30 : decode cX12_likely 30 = .ok (.istore 7, 2) := by decide +kernel
theorem dX12_likely_32 : decode cX12_likely 32 = .ok (.iload 7, 2) := by decide +kernel
theorem dX12_likely_34 : decode cX12_likely 34 = .ok (.iconst 1, 1) := by decide +kernel
theorem dX12_likely_35 : decode cX12_likely 35 = .ok (.iload_n 2, 1) := by decide +kernel
theorem dX12_likely_36 : decode cX12_likely 36 = .ok (.ishl, 1) := by decide +kernel
theorem dX12_likely_37 : decode cX12_likely 37 = .ok (.if_icmp .ge 45, 3) := by decide +kernel
theorem dX12_likely_40 : decode cX12_likely 40 = .ok (.aload_n 0, 1) := by decide +kernel
theorem dX12_likely_41 : decode cX12_likely 41 = .ok (.iload 7, 2) := by decide +kernel
theorem dX12_likely_43 : decode cX12_likely 43 = .ok (.i2l, 1) := by decide +kernel
theorem dX12_likely_44 : decode cX12_likely 44 = .ok (.putfield 151, 3) := by decide +kernel
theorem dX12_likely_47 : decode cX12_likely 47 = .ok (.lload 5, 2) := by decide +kernel
theorem dX12_likely_49 : decode cX12_likely 49 = .ok (.aload_n 0, 1) := by decide +kernel
theorem dX12_likely_50 : decode cX12_likely 50 = .ok (.iload_n 1, 1) := by decide +kernel
theorem dX12_likely_51 : decode cX12_likely 51 = .ok (.iload_n 2, 1) := by decide +kernel
theorem dX12_likely_52 : decode cX12_likely 52 = .ok (.invokevirtual 217, 3) := by decide +kernel
theorem dX12_likely_55 : decode cX12_likely 55 = .ok (.aload_n 0, 1) := by decide +kernel
theorem dX12_likely_56 : decode cX12_likely 56 = .ok (.getfield 71, 3) := by decide +kernel
theorem dX12_likely_59 : decode cX12_likely 59 = .ok (.if_icmp .lt 13, 3) := by decide +kernel
theorem dX12_likely_62 : decode cX12_likely 62 = .ok (.iload 7, 2) := by decide +kernel
theorem dX12_likely_64 : decode cX12_likely 64 = .ok (.iload_n 2, 1) := by decide +kernel
theorem dX12_likely_65 : decode cX12_likely 65 = .ok (.iload_n 3, 1) := by decide +kernel
theorem dX12_likely_66 : decode cX12_likely 66 = .ok (.invokestatic 271, 3) := by decide +kernel
theorem dX12_likely_69 : decode cX12_likely 69 = .ok (.goto 4, 3) := by decide +kernel
theorem dX12_likely_72 : decode cX12_likely 72 = .ok (.lconst 0, 1) := by decide +kernel
theorem dX12_likely_73 : decode cX12_likely 73 = .ok (.ladd, 1) := by decide +kernel
theorem dX12_likely_74 : decode cX12_likely 74 = .ok (.lstore 5, 2) := by decide +kernel
theorem dX12_likely_76 : decode cX12_likely 76 = .ok (.iinc 7 1, 3) := by decide +kernel
theorem dX12_likely_79 : decode cX12_likely 79 = .ok (.goto (-47), 3) := by decide +kernel
theorem dX12_likely_82 : decode cX12_likely 82 = .ok (.aload_n 0, 1) := by decide +kernel
theorem dX12_likely_83 : decode cX12_likely 83 = .ok (.lconst 0, 1) := by decide +kernel
theorem dX12_likely_84 : decode cX12_likely 84 = .ok (.putfield 151, 3) := by decide +kernel
theorem dX12_likely_87 : decode cX12_likely 87 = .ok (.lload 5, 2) := by decide +kernel
theorem dX12_likely_89 : decode cX12_likely 89 = .ok (.iload_n 2, 1) := by decide +kernel
theorem dX12_likely_90 : decode cX12_likely 90 = .ok (.invokestatic 275, 3) := by decide +kernel
theorem dX12_likely_93 : decode cX12_likely 93 = .ok (.iload 4, 2) := by decide +kernel
theorem dX12_likely_95 : decode cX12_likely 95 = .ok (.invokestatic 279, 3) := by decide +kernel
theorem dX12_likely_98 : decode cX12_likely 98 = .ok (.lreturn, 1) := by decide +kernel
theorem dX12_mean_0 : decode cX12_mean 0 = .ok (.iload_n 1, 1) := by decide +kernel
theorem dX12_mean_1 : decode cX12_mean 1 = .ok (.iload_n 2, 1) := by decide +kernel
theorem dX12_mean_2 : decode cX12_mean 2 = .ok (.iload_n 3, 1) := by decide +kernel
theorem dX12_mean_3 : decode cX12_mean 3 = .ok (.invokestatic 265, 3) := by decide +kernel
theorem dX12_mean_6 : decode cX12_mean 6 = .ok (.ifCond .ne 7, 3) := by decide +kernel
theorem dX12_mean_9 : decode cX12_mean 9 = .ok (.ldc2_w 269, 3) := by decide +kernel
theorem dX12_mean_12 : decode cX12_mean 12 = .ok (.lreturn, 1) := by decide +kernel
theorem dX12_mean_13 : decode cX12_mean 13 = .ok (.lconst 0, 1) := by decide +kernel
theorem dX12_mean_14 : decode cX12_mean 14 = .ok (.lstore 4, 2) := by decide +kernel
theorem dX12_mean_16 : decode cX12_mean 16 = .ok (.iconst 0, 1) := by decide +kernel
theorem dX12_mean_17 : decode cX12_mean 17 = .ok (.istore 6, 2) := by decide +kernel
theorem dX12_mean_19 : decode cX12_mean 19 = .ok (.iload 6, 2) := by decide +kernel
theorem dX12_mean_21 : decode cX12_mean 21 = .ok (.iconst 1, 1) := by decide +kernel
theorem dX12_mean_22 : decode cX12_mean 22 = .ok (.iload_n 1, 1) := by decide +kernel
theorem dX12_mean_23 : decode cX12_mean 23 = .ok (.ishl, 1) := by decide +kernel
theorem dX12_mean_24 : decode cX12_mean 24 = .ok (.if_icmp .ge 35, 3) := by decide +kernel
theorem dX12_mean_27 : decode cX12_mean 27 = .ok (.aload_n 0, 1) := by decide +kernel
theorem dX12_mean_28 : decode cX12_mean 28 = .ok (.iload 6, 2) := by decide +kernel
theorem dX12_mean_30 : decode cX12_mean 30 = .ok (.i2l, 1) := by decide +kernel
theorem dX12_mean_31 : decode cX12_mean 31 = .ok (.putfield 151, 3) := by decide +kernel
theorem dX12_mean_34 : decode cX12_mean 34 = .ok (.lload 4, 2) := by decide +kernel
theorem dX12_mean_36 : decode cX12_mean 36 = .ok (.iload 6, 2) := by decide +kernel
theorem dX12_mean_38 : decode cX12_mean 38 = .ok (.iload_n 1, 1) := by decide +kernel
theorem dX12_mean_39 : decode cX12_mean 39 = .ok (.iload_n 2, 1) := by decide +kernel
theorem dX12_mean_40 : decode cX12_mean 40 = .ok (.invokestatic 271, 3) := by decide +kernel
theorem dX12_mean_43 : decode cX12_mean 43 = .ok (.aload_n 0, 1) := by decide +kernel
theorem dX12_mean_44 : decode cX12_mean 44 = .ok (.iload_n 1, 1) := by decide +kernel
theorem dX12_mean_45 : decode cX12_mean 45 = .ok (.invokevirtual 220, 3) := by decide +kernel
theorem dX12_mean_48 : decode cX12_mean 48 = .ok (.i2l, 1) := by decide +kernel
theorem dX12_mean_49 : decode cX12_mean 49 = .ok (.lmul, 1) := by decide +kernel
theorem dX12_mean_50 : decode cX12_mean 50 = .ok (.ladd, 1) := by decide +kernel
theorem dX12_mean_51 : decode cX12_mean 51 = .ok (.lstore 4, 2) := by decide +kernel
theorem dX12_mean_53 : decode cX12_mean 53 = .ok (.iinc 6 1, 3) := by decide +kernel
theorem dX12_mean_56 : decode cX12_mean 56 = .ok (.goto (-37), 3) := by decide +kernel
theorem dX12_mean_59 : decode cX12_mean 59 = .ok (.aload_n 0, 1) := by decide +kernel
theorem dX12_mean_60 : decode cX12_mean 60 = .ok (.lconst 0, 1) := by decide +kernel
theorem dX12_mean_61 : decode cX12_mean 61 = .ok (.putfield 151, 3) := by decide +kernel
theorem dX12_mean_64 : decode cX12_mean 64 = .ok (.lload 4, 2) := by decide +kernel
theorem dX12_mean_66 : decode cX12_mean 66 = .ok (.iload_n 1, 1) := by decide +kernel
theorem dX12_mean_67 : decode cX12_mean 67 = .ok (.invokestatic 275, 3) := by decide +kernel
theorem dX12_mean_70 : decode cX12_mean 70 = .ok (.iload_n 3, 1) := by decide +kernel
theorem dX12_mean_71 : decode cX12_mean 71 = .ok (.invokestatic 279, 3) := by decide +kernel
theorem dX12_mean_74 : decode cX12_mean 74 = .ok (.lreturn, 1) := by decide +kernel
theorem dX12_seen_0 : decode cX12_seen 0 = .ok (.aload_n 0, 1) := by decide +kernel
theorem dX12_seen_1 : decode cX12_seen 1 = .ok (.iload_n 1, 1) := by decide +kernel
theorem dX12_seen_2 : decode cX12_seen 2 = .ok (.invokevirtual 107, 3) := by decide +kernel
theorem dX12_seen_5 : decode cX12_seen 5 = .ok (.ifCond .ne 5, 3) := by decide +kernel
theorem dX12_seen_8 : decode cX12_seen 8 = .ok (.iconst (-1), 1) := by decide +kernel
theorem dX12_seen_9 : decode cX12_seen 9 = .ok (.ireturn, 1) := by decide +kernel
theorem dX12_seen_10 : decode cX12_seen 10 = .ok (.iload_n 2, 1) := by decide +kernel
theorem dX12_seen_11 : decode cX12_seen 11 = .ok (.i2l, 1) := by decide +kernel
theorem dX12_seen_12 : decode cX12_seen 12 = .ok (.lconst 0, 1) := by decide +kernel
theorem dX12_seen_13 : decode cX12_seen 13 = .ok (.ldc2_w 283, 3) := by decide +kernel
theorem dX12_seen_16 : decode cX12_seen 16 = .ok (.invokestatic 97, 3) := by decide +kernel
theorem dX12_seen_19 : decode cX12_seen 19 = .ok (.ifCond .eq 15, 3) := by decide +kernel
theorem dX12_seen_22 : decode cX12_seen 22 = .ok (.iload_n 3, 1) := by decide +kernel
theorem dX12_seen_23 : decode cX12_seen 23 = .ok (.i2l, 1) := by decide +kernel
theorem dX12_seen_24 : decode cX12_seen 24 = .ok (.lconst 0, 1) := by decide +kernel
theorem dX12_seen_25 : decode cX12_seen 25 = .ok (.ldc2_w 238, 3) := by decide +kernel
theorem dX12_seen_28 : decode cX12_seen 28 = .ok (.invokestatic 97, 3) := by decide +kernel
theorem dX12_seen_31 : decode cX12_seen 31 = .ok (.ifCond .ne 6, 3) := by decide +kernel
theorem dX12_seen_34 : decode cX12_seen 34 = .ok (.bipush (-2), 2) := by decide +kernel
theorem dX12_seen_36 : decode cX12_seen 36 = .ok (.ireturn, 1) := by decide +kernel
theorem dX12_seen_37 : decode cX12_seen 37 = .ok (.aload_n 0, 1) := by decide +kernel
theorem dX12_seen_38 : decode cX12_seen 38 = .ok (.getfield 94, 3) := by decide +kernel
theorem dX12_seen_41 : decode cX12_seen 41 = .ok (.bipush 6, 2) := by decide +kernel
theorem dX12_seen_43 : decode cX12_seen 43 = .ok (.if_icmp .ne 6, 3) := by decide +kernel
theorem dX12_seen_46 : decode cX12_seen 46 = .ok (.bipush (-4), 2) := by decide +kernel
theorem dX12_seen_48 : decode cX12_seen 48 = .ok (.ireturn, 1) := by decide +kernel
theorem dX12_seen_49 : decode cX12_seen 49 = .ok (.aload_n 0, 1) := by decide +kernel
theorem dX12_seen_50 : decode cX12_seen 50 = .ok (.getfield 34, 3) := by decide +kernel
theorem dX12_seen_53 : decode cX12_seen 53 = .ok (.aload_n 0, 1) := by decide +kernel
theorem dX12_seen_54 : decode cX12_seen 54 = .ok (.getfield 94, 3) := by decide +kernel
theorem dX12_seen_57 : decode cX12_seen 57 = .ok (.iload_n 1, 1) := by decide +kernel
theorem dX12_seen_58 : decode cX12_seen 58 = .ok (.iastore, 1) := by decide +kernel
theorem dX12_seen_59 : decode cX12_seen 59 = .ok (.aload_n 0, 1) := by decide +kernel
theorem dX12_seen_60 : decode cX12_seen 60 = .ok (.getfield 37, 3) := by decide +kernel
theorem dX12_seen_63 : decode cX12_seen 63 = .ok (.aload_n 0, 1) := by decide +kernel
theorem dX12_seen_64 : decode cX12_seen 64 = .ok (.getfield 94, 3) := by decide +kernel
theorem dX12_seen_67 : decode cX12_seen 67 = .ok (.iload_n 2, 1) := by decide +kernel
theorem dX12_seen_68 : decode cX12_seen 68 = .ok (.iastore, 1) := by decide +kernel
theorem dX12_seen_69 : decode cX12_seen 69 = .ok (.aload_n 0, 1) := by decide +kernel
theorem dX12_seen_70 : decode cX12_seen 70 = .ok (.getfield 40, 3) := by decide +kernel
theorem dX12_seen_73 : decode cX12_seen 73 = .ok (.aload_n 0, 1) := by decide +kernel
theorem dX12_seen_74 : decode cX12_seen 74 = .ok (.getfield 94, 3) := by decide +kernel
theorem dX12_seen_77 : decode cX12_seen 77 = .ok (.iload_n 3, 1) := by decide +kernel
theorem dX12_seen_78 : decode cX12_seen 78 = .ok (.iastore, 1) := by decide +kernel
theorem dX12_seen_79 : decode cX12_seen 79 = .ok (.aload_n 0, 1) := by decide +kernel
theorem dX12_seen_80 : decode cX12_seen 80 = .ok (.dup, 1) := by decide +kernel
theorem dX12_seen_81 : decode cX12_seen 81 = .ok (.getfield 94, 3) := by decide +kernel
theorem dX12_seen_84 : decode cX12_seen 84 = .ok (.iconst 1, 1) := by decide +kernel
theorem dX12_seen_85 : decode cX12_seen 85 = .ok (.iadd, 1) := by decide +kernel
theorem dX12_seen_86 : decode cX12_seen 86 = .ok (.putfield 94, 3) := by decide +kernel
theorem dX12_seen_89 : decode cX12_seen 89 = .ok (.aload_n 0, 1) := by decide +kernel
theorem dX12_seen_90 : decode cX12_seen 90 = .ok (.getfield 94, 3) := by decide +kernel
theorem dX12_seen_93 : decode cX12_seen 93 = .ok (.ireturn, 1) := by decide +kernel
theorem dX12_forget_0 : decode cX12_forget 0 = .ok (.aload_n 0, 1) := by decide +kernel
theorem dX12_forget_1 : decode cX12_forget 1 = .ok (.getfield 94, 3) := by decide +kernel
theorem dX12_forget_4 : decode cX12_forget 4 = .ok (.istore_n 1, 1) := by decide +kernel
theorem dX12_forget_5 : decode cX12_forget 5 = .ok (.aload_n 0, 1) := by decide +kernel
theorem dX12_forget_6 : decode cX12_forget 6 = .ok (.iconst 0, 1) := by decide +kernel
theorem dX12_forget_7 : decode cX12_forget 7 = .ok (.putfield 94, 3) := by decide +kernel
theorem dX12_forget_10 : decode cX12_forget 10 = .ok (.iload_n 1, 1) := by decide +kernel
theorem dX12_forget_11 : decode cX12_forget 11 = .ok (.ireturn, 1) := by decide +kernel
theorem dX12_holdsAll_0 : decode cX12_holdsAll 0 = .ok (.iconst 1, 1) := by decide +kernel
theorem dX12_holdsAll_1 : decode cX12_holdsAll 1 = .ok (.istore_n 1, 1) := by decide +kernel
theorem dX12_holdsAll_2 : decode cX12_holdsAll 2 = .ok (.iconst 0, 1) := by decide +kernel
theorem dX12_holdsAll_3 : decode cX12_holdsAll 3 = .ok (.istore_n 2, 1) := by decide +kernel
theorem dX12_holdsAll_4 : decode cX12_holdsAll 4 = .ok (.iload_n 2, 1) := by decide +kernel
theorem dX12_holdsAll_5 : decode cX12_holdsAll 5 = .ok (.aload_n 0, 1) := by decide +kernel
theorem dX12_holdsAll_6 : decode cX12_holdsAll 6 = .ok (.getfield 94, 3) := by decide +kernel
theorem dX12_holdsAll_9 : decode cX12_holdsAll 9 = .ok (.if_icmp .ge 54, 3) := by decide +kernel
theorem dX12_holdsAll_12 : decode cX12_holdsAll 12 = .ok (.aload_n 0, 1) := by decide +kernel
theorem dX12_holdsAll_13 : decode cX12_holdsAll 13 = .ok (.getfield 34, 3) := by decide +kernel
theorem dX12_holdsAll_16 : decode cX12_holdsAll 16 = .ok (.iload_n 2, 1) := by decide +kernel
theorem dX12_holdsAll_17 : decode cX12_holdsAll 17 = .ok (.iaload, 1) := by decide +kernel
theorem dX12_holdsAll_18 : decode cX12_holdsAll 18 = .ok (.istore_n 3, 1) := by decide +kernel
theorem dX12_holdsAll_19 : decode cX12_holdsAll 19 = .ok (.iload_n 1, 1) := by decide +kernel
theorem dX12_holdsAll_20 : decode cX12_holdsAll 20 = .ok (.ifCond .eq 35, 3) := by decide +kernel
theorem dX12_holdsAll_23 : decode cX12_holdsAll 23 = .ok (.aload_n 0, 1) := by decide +kernel
theorem dX12_holdsAll_24 : decode cX12_holdsAll 24 = .ok (.iload_n 3, 1) := by decide +kernel
theorem dX12_holdsAll_25 : decode cX12_holdsAll 25 = .ok (.invokevirtual 107, 3) := by decide +kernel
theorem dX12_holdsAll_28 : decode cX12_holdsAll 28 = .ok (.ifCond .eq 27, 3) := by decide +kernel
theorem dX12_holdsAll_31 : decode cX12_holdsAll 31 = .ok (.aload_n 0, 1) := by decide +kernel
theorem dX12_holdsAll_32 : decode cX12_holdsAll 32 = .ok (.iload_n 3, 1) := by decide +kernel
theorem dX12_holdsAll_33 : decode cX12_holdsAll 33 = .ok (.aload_n 0, 1) := by decide +kernel
theorem dX12_holdsAll_34 : decode cX12_holdsAll 34 = .ok (.getfield 37, 3) := by decide +kernel
theorem dX12_holdsAll_37 : decode cX12_holdsAll 37 = .ok (.iload_n 2, 1) := by decide +kernel
theorem dX12_holdsAll_38 : decode cX12_holdsAll 38 = .ok (.iaload, 1) := by decide +kernel
theorem dX12_holdsAll_39 : decode cX12_holdsAll 39 = .ok (.invokevirtual 217, 3) := by decide +kernel
theorem dX12_holdsAll_42 : decode cX12_holdsAll 42 = .ok (.aload_n 0, 1) := by decide +kernel
theorem dX12_holdsAll_43 : decode cX12_holdsAll 43 = .ok (.getfield 40, 3) := by decide +kernel
theorem dX12_holdsAll_46 : decode cX12_holdsAll 46 = .ok (.iload_n 2, 1) := by decide +kernel
theorem dX12_holdsAll_47 : decode cX12_holdsAll 47 = .ok (.iaload, 1) := by decide +kernel
theorem dX12_holdsAll_48 : decode cX12_holdsAll 48 = .ok (.if_icmp .ne 7, 3) := by decide +kernel
theorem dX12_holdsAll_51 : decode cX12_holdsAll 51 = .ok (.iconst 1, 1) := by decide +kernel
theorem dX12_holdsAll_52 : decode cX12_holdsAll 52 = .ok (.goto 4, 3) := by decide +kernel
theorem dX12_holdsAll_55 : decode cX12_holdsAll 55 = .ok (.iconst 0, 1) := by decide +kernel
theorem dX12_holdsAll_56 : decode cX12_holdsAll 56 = .ok (.istore_n 1, 1) := by decide +kernel
theorem dX12_holdsAll_57 : decode cX12_holdsAll 57 = .ok (.iinc 2 1, 3) := by decide +kernel
theorem dX12_holdsAll_60 : decode cX12_holdsAll 60 = .ok (.goto (-56), 3) := by decide +kernel
theorem dX12_holdsAll_63 : decode cX12_holdsAll 63 = .ok (.iload_n 1, 1) := by decide +kernel
theorem dX12_holdsAll_64 : decode cX12_holdsAll 64 = .ok (.ireturn, 1) := by decide +kernel
theorem dX12_walls_0 : decode cX12_walls 0 = .ok (.aload_n 0, 1) := by decide +kernel
theorem dX12_walls_1 : decode cX12_walls 1 = .ok (.getfield 88, 3) := by decide +kernel
theorem dX12_walls_4 : decode cX12_walls 4 = .ok (.istore_n 1, 1) := by decide +kernel
theorem dX12_walls_5 : decode cX12_walls 5 = .ok (.iconst 0, 1) := by decide +kernel
theorem dX12_walls_6 : decode cX12_walls 6 = .ok (.istore_n 2, 1) := by decide +kernel
theorem dX12_walls_7 : decode cX12_walls 7 = .ok (.iconst 0, 1) := by decide +kernel
theorem dX12_walls_8 : decode cX12_walls 8 = .ok (.istore_n 3, 1) := by decide +kernel
theorem dX12_walls_9 : decode cX12_walls 9 = .ok (.iload_n 3, 1) := by decide +kernel
theorem dX12_walls_10 : decode cX12_walls 10 = .ok (.bipush 6, 2) := by decide +kernel
theorem dX12_walls_12 : decode cX12_walls 12 = .ok (.if_icmp .gt 69, 3) := by decide +kernel
theorem dX12_walls_15 : decode cX12_walls 15 = .ok (.iload_n 3, 1) := by decide +kernel
theorem dX12_walls_16 : decode cX12_walls 16 = .ok (.bipush 6, 2) := by decide +kernel
theorem dX12_walls_18 : decode cX12_walls 18 = .ok (.if_icmp .eq 11, 3) := by decide +kernel
theorem dX12_walls_21 : decode cX12_walls 21 = .ok (.aload_n 0, 1) := by decide +kernel
theorem dX12_walls_22 : decode cX12_walls 22 = .ok (.iload_n 3, 1) := by decide +kernel
theorem dX12_walls_23 : decode cX12_walls 23 = .ok (.invokevirtual 112, 3) := by decide +kernel
theorem dX12_walls_26 : decode cX12_walls 26 = .ok (.ifCond .eq 7, 3) := by decide +kernel
theorem dX12_walls_29 : decode cX12_walls 29 = .ok (.iconst 1, 1) := by decide +kernel
theorem dX12_walls_30 : decode cX12_walls 30 = .ok (.goto 4, 3) := by decide +kernel
theorem dX12_walls_33 : decode cX12_walls 33 = .ok (.iconst 0, 1) := by decide +kernel
theorem dX12_walls_34 : decode cX12_walls 34 = .ok (.istore 4, 2) := by decide +kernel
theorem dX12_walls_36 : decode cX12_walls 36 = .ok (.aload_n 0, 1) := by decide +kernel
theorem dX12_walls_37 : decode cX12_walls 37 = .ok (.iload_n 3, 1) := by decide +kernel
theorem dX12_walls_38 : decode cX12_walls 38 = .ok (.bipush 6, 2) := by decide +kernel
theorem dX12_walls_40 : decode cX12_walls 40 = .ok (.if_icmp .ne 7, 3) := by decide +kernel
theorem dX12_walls_43 : decode cX12_walls 43 = .ok (.iconst 0, 1) := by decide +kernel
theorem dX12_walls_44 : decode cX12_walls 44 = .ok (.goto 6, 3) := by decide +kernel
theorem dX12_walls_47 : decode cX12_walls 47 = .ok (.iconst 1, 1) := by decide +kernel
theorem dX12_walls_48 : decode cX12_walls 48 = .ok (.iload_n 3, 1) := by decide +kernel
theorem dX12_walls_49 : decode cX12_walls 49 = .ok (.ishl, 1) := by decide +kernel
theorem dX12_walls_50 : decode cX12_walls 50 = .ok (.putfield 88, 3) := by decide +kernel
theorem dX12_walls_53 : decode cX12_walls 53 = .ok (.iload_n 2, 1) := by decide +kernel
theorem dX12_walls_54 : decode cX12_walls 54 = .ok (.iload 4, 2) := by decide +kernel
theorem dX12_walls_56 : decode cX12_walls 56 = .ok (.ifCond .eq 16, 3) := by decide +kernel
theorem dX12_walls_59 : decode cX12_walls 59 = .ok (.aload_n 0, 1) := by decide +kernel
theorem dX12_walls_60 : decode cX12_walls 60 = .ok (.invokevirtual 285, 3) := by decide +kernel
theorem dX12_walls_63 : decode cX12_walls 63 = .ok (.ifCond .eq 9, 3) := by decide +kernel
theorem dX12_walls_66 : decode cX12_walls 66 = .ok (.iconst 1, 1) := by decide +kernel
theorem dX12_walls_67 : decode cX12_walls 67 = .ok (.iload_n 3, 1) := by decide +kernel
theorem dX12_walls_68 : decode cX12_walls 68 = .ok (.ishl, 1) := by decide +kernel
theorem dX12_walls_69 : decode cX12_walls 69 = .ok (.goto 4, 3) := by decide +kernel
theorem dX12_walls_72 : decode cX12_walls 72 = .ok (.iconst 0, 1) := by decide +kernel
theorem dX12_walls_73 : decode cX12_walls 73 = .ok (.ior, 1) := by decide +kernel
theorem dX12_walls_74 : decode cX12_walls 74 = .ok (.istore_n 2, 1) := by decide +kernel
theorem dX12_walls_75 : decode cX12_walls 75 = .ok (.iinc 3 1, 3) := by decide +kernel
theorem dX12_walls_78 : decode cX12_walls 78 = .ok (.goto (-69), 3) := by decide +kernel
theorem dX12_walls_81 : decode cX12_walls 81 = .ok (.aload_n 0, 1) := by decide +kernel
theorem dX12_walls_82 : decode cX12_walls 82 = .ok (.iload_n 1, 1) := by decide +kernel
theorem dX12_walls_83 : decode cX12_walls 83 = .ok (.putfield 88, 3) := by decide +kernel
theorem dX12_walls_86 : decode cX12_walls 86 = .ok (.iload_n 2, 1) := by decide +kernel
theorem dX12_walls_87 : decode cX12_walls 87 = .ok (.ireturn, 1) := by decide +kernel
theorem dX12_moons_0 : decode cX12_moons 0 = .ok (.aload_n 0, 1) := by decide +kernel
theorem dX12_moons_1 : decode cX12_moons 1 = .ok (.getfield 128, 3) := by decide +kernel
theorem dX12_moons_4 : decode cX12_moons 4 = .ok (.istore_n 1, 1) := by decide +kernel
theorem dX12_moons_5 : decode cX12_moons 5 = .ok (.iconst 0, 1) := by decide +kernel
theorem dX12_moons_6 : decode cX12_moons 6 = .ok (.istore_n 2, 1) := by decide +kernel
theorem dX12_moons_7 : decode cX12_moons 7 = .ok (.iconst 0, 1) := by decide +kernel
theorem dX12_moons_8 : decode cX12_moons 8 = .ok (.istore_n 3, 1) := by decide +kernel
theorem dX12_moons_9 : decode cX12_moons 9 = .ok (.iload_n 3, 1) := by decide +kernel
theorem dX12_moons_10 : decode cX12_moons 10 = .ok (.aload_n 0, 1) := by decide +kernel
theorem dX12_moons_11 : decode cX12_moons 11 = .ok (.getfield 78, 3) := by decide +kernel
theorem dX12_moons_14 : decode cX12_moons 14 = .ok (.if_icmp .ge 31, 3) := by decide +kernel
theorem dX12_moons_17 : decode cX12_moons 17 = .ok (.aload_n 0, 1) := by decide +kernel
theorem dX12_moons_18 : decode cX12_moons 18 = .ok (.iload_n 3, 1) := by decide +kernel
theorem dX12_moons_19 : decode cX12_moons 19 = .ok (.putfield 128, 3) := by decide +kernel
theorem dX12_moons_22 : decode cX12_moons 22 = .ok (.iload_n 2, 1) := by decide +kernel
theorem dX12_moons_23 : decode cX12_moons 23 = .ok (.aload_n 0, 1) := by decide +kernel
theorem dX12_moons_24 : decode cX12_moons 24 = .ok (.invokevirtual 285, 3) := by decide +kernel
theorem dX12_moons_27 : decode cX12_moons 27 = .ok (.ifCond .eq 9, 3) := by decide +kernel
theorem dX12_moons_30 : decode cX12_moons 30 = .ok (.iconst 1, 1) := by decide +kernel
theorem dX12_moons_31 : decode cX12_moons 31 = .ok (.iload_n 3, 1) := by decide +kernel
theorem dX12_moons_32 : decode cX12_moons 32 = .ok (.ishl, 1) := by decide +kernel
theorem dX12_moons_33 : decode cX12_moons 33 = .ok (.goto 4, 3) := by decide +kernel
theorem dX12_moons_36 : decode cX12_moons 36 = .ok (.iconst 0, 1) := by decide +kernel
theorem dX12_moons_37 : decode cX12_moons 37 = .ok (.ior, 1) := by decide +kernel
theorem dX12_moons_38 : decode cX12_moons 38 = .ok (.istore_n 2, 1) := by decide +kernel
theorem dX12_moons_39 : decode cX12_moons 39 = .ok (.iinc 3 1, 3) := by decide +kernel
theorem dX12_moons_42 : decode cX12_moons 42 = .ok (.goto (-33), 3) := by decide +kernel
theorem dX12_moons_45 : decode cX12_moons 45 = .ok (.aload_n 0, 1) := by decide +kernel
theorem dX12_moons_46 : decode cX12_moons 46 = .ok (.iload_n 1, 1) := by decide +kernel
theorem dX12_moons_47 : decode cX12_moons 47 = .ok (.putfield 128, 3) := by decide +kernel
theorem dX12_moons_50 : decode cX12_moons 50 = .ok (.iload_n 2, 1) := by decide +kernel
theorem dX12_moons_51 : decode cX12_moons 51 = .ok (.ireturn, 1) := by decide +kernel
theorem dX12_open_0 : decode cX12_open 0 = .ok (.iload_n 1, 1) := by decide +kernel
theorem dX12_open_1 : decode cX12_open 1 = .ok (.i2l, 1) := by decide +kernel
theorem dX12_open_2 : decode cX12_open 2 = .ok (.lconst 0, 1) := by decide +kernel
theorem dX12_open_3 : decode cX12_open 3 = .ok (.lconst 1, 1) := by decide +kernel
theorem dX12_open_4 : decode cX12_open 4 = .ok (.invokestatic 97, 3) := by decide +kernel
theorem dX12_open_7 : decode cX12_open 7 = .ok (.ifCond .ne 6, 3) := by decide +kernel
theorem dX12_open_10 : decode cX12_open 10 = .ok (.bipush (-2), 2) := by decide +kernel
theorem dX12_open_12 : decode cX12_open 12 = .ok (.ireturn, 1) := by decide +kernel
theorem dX12_open_13 : decode cX12_open 13 = .ok (.iconst 0, 1) := by decide +kernel
theorem dX12_open_14 : decode cX12_open 14 = .ok (.istore_n 2, 1) := by decide +kernel
theorem dX12_open_15 : decode cX12_open 15 = .ok (.iconst 0, 1) := by decide +kernel
theorem dX12_open_16 : decode cX12_open 16 = .ok (.istore_n 3, 1) := by decide +kernel
theorem dX12_open_17 : decode cX12_open 17 = .ok (.iload_n 3, 1) := by decide +kernel
theorem dX12_open_18 : decode cX12_open 18 = .ok (.aload_n 0, 1) := by decide +kernel
theorem dX12_open_19 : decode cX12_open 19 = .ok (.getfield 94, 3) := by decide +kernel
theorem dX12_open_22 : decode cX12_open 22 = .ok (.if_icmp .ge 30, 3) := by decide +kernel
theorem dX12_open_25 : decode cX12_open 25 = .ok (.aload_n 0, 1) := by decide +kernel
theorem dX12_open_26 : decode cX12_open 26 = .ok (.getfield 37, 3) := by decide +kernel
theorem dX12_open_29 : decode cX12_open 29 = .ok (.iload_n 3, 1) := by decide +kernel
theorem dX12_open_30 : decode cX12_open 30 = .ok (.iaload, 1) := by decide +kernel
theorem dX12_open_31 : decode cX12_open 31 = .ok (.iload_n 2, 1) := by decide +kernel
theorem dX12_open_32 : decode cX12_open 32 = .ok (.if_icmp .le 12, 3) := by decide +kernel
theorem dX12_open_35 : decode cX12_open 35 = .ok (.aload_n 0, 1) := by decide +kernel
theorem dX12_open_36 : decode cX12_open 36 = .ok (.getfield 37, 3) := by decide +kernel
theorem dX12_open_39 : decode cX12_open 39 = .ok (.iload_n 3, 1) := by decide +kernel
theorem dX12_open_40 : decode cX12_open 40 = .ok (.iaload, 1) := by decide +kernel
theorem dX12_open_41 : decode cX12_open 41 = .ok (.goto 4, 3) := by decide +kernel
theorem dX12_open_44 : decode cX12_open 44 = .ok (.iload_n 2, 1) := by decide +kernel
theorem dX12_open_45 : decode cX12_open 45 = .ok (.istore_n 2, 1) := by decide +kernel
theorem dX12_open_46 : decode cX12_open 46 = .ok (.iinc 3 1, 3) := by decide +kernel
theorem dX12_open_49 : decode cX12_open 49 = .ok (.goto (-32), 3) := by decide +kernel
theorem dX12_open_52 : decode cX12_open 52 = .ok (.iconst 0, 1) := by decide +kernel
theorem dX12_open_53 : decode cX12_open 53 = .ok (.istore_n 3, 1) := by decide +kernel
theorem dX12_open_54 : decode cX12_open 54 = .ok (.bipush (-6), 2) := by decide +kernel
theorem dX12_open_56 : decode cX12_open 56 = .ok (.istore 4, 2) := by decide +kernel
theorem dX12_open_58 : decode cX12_open 58 = .ok (.iconst 0, 1) := by decide +kernel
theorem dX12_open_59 : decode cX12_open 59 = .ok (.istore 5, 2) := by decide +kernel
theorem dX12_open_61 : decode cX12_open 61 = .ok (.iload 5, 2) := by decide +kernel
theorem dX12_open_63 : decode cX12_open 63 = .ok (.iload_n 2, 1) := by decide +kernel
theorem dX12_open_64 : decode cX12_open 64 = .ok (.if_icmp .ge 40, 3) := by decide +kernel
theorem dX12_open_67 : decode cX12_open 67 = .ok (.aload_n 0, 1) := by decide +kernel
theorem dX12_open_68 : decode cX12_open 68 = .ok (.lconst 1, 1) := by decide +kernel
theorem dX12_open_69 : decode cX12_open 69 = .ok (.iload 5, 2) := by decide +kernel
theorem dX12_open_71 : decode cX12_open 71 = .ok (.lshl, 1) := by decide +kernel
theorem dX12_open_72 : decode cX12_open 72 = .ok (.putfield 151, 3) := by decide +kernel
theorem dX12_open_75 : decode cX12_open 75 = .ok (.aload_n 0, 1) := by decide +kernel
theorem dX12_open_76 : decode cX12_open 76 = .ok (.invokevirtual 285, 3) := by decide +kernel
theorem dX12_open_79 : decode cX12_open 79 = .ok (.ifCond .eq 19, 3) := by decide +kernel
theorem dX12_open_82 : decode cX12_open 82 = .ok (.iload_n 3, 1) := by decide +kernel
theorem dX12_open_83 : decode cX12_open 83 = .ok (.ifCond .ne 8, 3) := by decide +kernel
theorem dX12_open_86 : decode cX12_open 86 = .ok (.iload 5, 2) := by decide +kernel
theorem dX12_open_88 : decode cX12_open 88 = .ok (.goto 5, 3) := by decide +kernel
theorem dX12_open_91 : decode cX12_open 91 = .ok (.iload 4, 2) := by decide +kernel
theorem dX12_open_93 : decode cX12_open 93 = .ok (.istore 4, 2) := by decide +kernel
theorem dX12_open_95 : decode cX12_open 95 = .ok (.iinc 3 1, 3) := by decide +kernel
theorem dX12_open_98 : decode cX12_open 98 = .ok (.iinc 5 1, 3) := by decide +kernel
theorem dX12_open_101 : decode cX12_open 101 = .ok (.goto (-40), 3) := by decide +kernel
theorem dX12_open_104 : decode cX12_open 104 = .ok (.aload_n 0, 1) := by decide +kernel
theorem dX12_open_105 : decode cX12_open 105 = .ok (.lconst 0, 1) := by decide +kernel
theorem dX12_open_106 : decode cX12_open 106 = .ok (.putfield 151, 3) := by decide +kernel
theorem dX12_open_109 : decode cX12_open 109 = .ok (.iload_n 1, 1) := by decide +kernel
theorem dX12_open_110 : decode cX12_open 110 = .ok (.ifCond .ne 7, 3) := by decide +kernel
theorem dX12_open_113 : decode cX12_open 113 = .ok (.iload_n 3, 1) := by decide +kernel
theorem dX12_open_114 : decode cX12_open 114 = .ok (.goto 5, 3) := by decide +kernel
theorem dX12_open_117 : decode cX12_open 117 = .ok (.iload 4, 2) := by decide +kernel
theorem dX12_open_119 : decode cX12_open 119 = .ok (.ireturn, 1) := by decide +kernel
theorem dX12_wakenBy_0 : decode cX12_wakenBy 0 = .ok (.iconst 0, 1) := by decide +kernel
theorem dX12_wakenBy_1 : decode cX12_wakenBy 1 = .ok (.istore_n 3, 1) := by decide +kernel
theorem dX12_wakenBy_2 : decode cX12_wakenBy 2 = .ok (.iconst 0, 1) := by decide +kernel
theorem dX12_wakenBy_3 : decode cX12_wakenBy 3 = .ok (.istore 4, 2) := by decide +kernel
theorem dX12_wakenBy_5 : decode cX12_wakenBy 5 = .ok (.iload 4, 2) := by decide +kernel
theorem dX12_wakenBy_7 : decode cX12_wakenBy 7 = .ok (.aload_n 0, 1) := by decide +kernel
theorem dX12_wakenBy_8 : decode cX12_wakenBy 8 = .ok (.getfield 78, 3) := by decide +kernel
theorem dX12_wakenBy_11 : decode cX12_wakenBy 11 = .ok (.if_icmp .ge 49, 3) := by decide +kernel
theorem dX12_wakenBy_14 : decode cX12_wakenBy 14 = .ok (.iconst 0, 1) := by decide +kernel
theorem dX12_wakenBy_15 : decode cX12_wakenBy 15 = .ok (.istore 5, 2) := by decide +kernel
theorem dX12_wakenBy_17 : decode cX12_wakenBy 17 = .ok (.iload 5, 2) := by decide +kernel
theorem dX12_wakenBy_19 : decode cX12_wakenBy 19 = .ok (.iload_n 2, 1) := by decide +kernel
theorem dX12_wakenBy_20 : decode cX12_wakenBy 20 = .ok (.if_icmp .ge 34, 3) := by decide +kernel
theorem dX12_wakenBy_23 : decode cX12_wakenBy 23 = .ok (.iload_n 1, 1) := by decide +kernel
theorem dX12_wakenBy_24 : decode cX12_wakenBy 24 = .ok (.iload 4, 2) := by decide +kernel
theorem dX12_wakenBy_26 : decode cX12_wakenBy 26 = .ok (.ishr, 1) := by decide +kernel
theorem dX12_wakenBy_27 : decode cX12_wakenBy 27 = .ok (.iconst 1, 1) := by decide +kernel
theorem dX12_wakenBy_28 : decode cX12_wakenBy 28 = .ok (.iand, 1) := by decide +kernel
theorem dX12_wakenBy_29 : decode cX12_wakenBy 29 = .ok (.iconst 1, 1) := by decide +kernel
theorem dX12_wakenBy_30 : decode cX12_wakenBy 30 = .ok (.if_icmp .ne 24, 3) := by decide +kernel
theorem dX12_wakenBy_33 : decode cX12_wakenBy 33 = .ok (.iload_n 3, 1) := by decide +kernel
theorem dX12_wakenBy_34 : decode cX12_wakenBy 34 = .ok (.iconst 1, 1) := by decide +kernel
theorem dX12_wakenBy_35 : decode cX12_wakenBy 35 = .ok (.iload 4, 2) := by decide +kernel
theorem dX12_wakenBy_37 : decode cX12_wakenBy 37 = .ok (.iload 5, 2) := by decide +kernel
theorem dX12_wakenBy_39 : decode cX12_wakenBy 39 = .ok (.iadd, 1) := by decide +kernel
theorem dX12_wakenBy_40 : decode cX12_wakenBy 40 = .ok (.aload_n 0, 1) := by decide +kernel
theorem dX12_wakenBy_41 : decode cX12_wakenBy 41 = .ok (.getfield 78, 3) := by decide +kernel
theorem dX12_wakenBy_44 : decode cX12_wakenBy 44 = .ok (.irem, 1) := by decide +kernel
theorem dX12_wakenBy_45 : decode cX12_wakenBy 45 = .ok (.ishl, 1) := by decide +kernel
theorem dX12_wakenBy_46 : decode cX12_wakenBy 46 = .ok (.ior, 1) := by decide +kernel
theorem dX12_wakenBy_47 : decode cX12_wakenBy 47 = .ok (.istore_n 3, 1) := by decide +kernel
theorem dX12_wakenBy_48 : decode cX12_wakenBy 48 = .ok (.iinc 5 1, 3) := by decide +kernel
theorem dX12_wakenBy_51 : decode cX12_wakenBy 51 = .ok (.goto (-34), 3) := by decide +kernel
theorem dX12_wakenBy_54 : decode cX12_wakenBy 54 = .ok (.iinc 4 1, 3) := by decide +kernel
theorem dX12_wakenBy_57 : decode cX12_wakenBy 57 = .ok (.goto (-52), 3) := by decide +kernel
theorem dX12_wakenBy_60 : decode cX12_wakenBy 60 = .ok (.iload_n 3, 1) := by decide +kernel
theorem dX12_wakenBy_61 : decode cX12_wakenBy 61 = .ok (.ireturn, 1) := by decide +kernel
theorem dX12_shifts_0 : decode cX12_shifts 0 = .ok (.iload_n 1, 1) := by decide +kernel
theorem dX12_shifts_1 : decode cX12_shifts 1 = .ok (.i2l, 1) := by decide +kernel
theorem dX12_shifts_2 : decode cX12_shifts 2 = .ok (.lconst 0, 1) := by decide +kernel
theorem dX12_shifts_3 : decode cX12_shifts 3 = .ok (.ldc2_w 121, 3) := by decide +kernel
theorem dX12_shifts_6 : decode cX12_shifts 6 = .ok (.invokestatic 97, 3) := by decide +kernel
theorem dX12_shifts_9 : decode cX12_shifts 9 = .ok (.ifCond .eq 25, 3) := by decide +kernel
theorem dX12_shifts_12 : decode cX12_shifts 12 = .ok (.iload_n 2, 1) := by decide +kernel
theorem dX12_shifts_13 : decode cX12_shifts 13 = .ok (.i2l, 1) := by decide +kernel
theorem dX12_shifts_14 : decode cX12_shifts 14 = .ok (.lconst 1, 1) := by decide +kernel
theorem dX12_shifts_15 : decode cX12_shifts 15 = .ok (.ldc2_w 283, 3) := by decide +kernel
theorem dX12_shifts_18 : decode cX12_shifts 18 = .ok (.invokestatic 97, 3) := by decide +kernel
theorem dX12_shifts_21 : decode cX12_shifts 21 = .ok (.ifCond .eq 13, 3) := by decide +kernel
theorem dX12_shifts_24 : decode cX12_shifts 24 = .ok (.iload_n 3, 1) := by decide +kernel
theorem dX12_shifts_25 : decode cX12_shifts 25 = .ok (.i2l, 1) := by decide +kernel
theorem dX12_shifts_26 : decode cX12_shifts 26 = .ok (.lconst 0, 1) := by decide +kernel
theorem dX12_shifts_27 : decode cX12_shifts 27 = .ok (.lconst 1, 1) := by decide +kernel
theorem dX12_shifts_28 : decode cX12_shifts 28 = .ok (.invokestatic 97, 3) := by decide +kernel
theorem dX12_shifts_31 : decode cX12_shifts 31 = .ok (.ifCond .ne 6, 3) := by decide +kernel
theorem dX12_shifts_34 : decode cX12_shifts 34 = .ok (.bipush (-2), 2) := by decide +kernel
theorem dX12_shifts_36 : decode cX12_shifts 36 = .ok (.ireturn, 1) := by decide +kernel
theorem dX12_shifts_37 : decode cX12_shifts 37 = .ok (.aload_n 0, 1) := by decide +kernel
theorem dX12_shifts_38 : decode cX12_shifts 38 = .ok (.getfield 78, 3) := by decide +kernel
theorem dX12_shifts_41 : decode cX12_shifts 41 = .ok (.bipush 12, 2) := by decide +kernel
theorem dX12_shifts_43 : decode cX12_shifts 43 = .ok (.if_icmp .le 6, 3) := by decide +kernel
theorem dX12_shifts_46 : decode cX12_shifts 46 = .ok (.bipush (-4), 2) := by decide +kernel
theorem dX12_shifts_48 : decode cX12_shifts 48 = .ok (.ireturn, 1) := by decide +kernel
theorem dX12_shifts_49 : decode cX12_shifts 49 = .ok (.iconst 0, 1) := by decide +kernel
theorem dX12_shifts_50 : decode cX12_shifts 50 = .ok (.istore 4, 2) := by decide +kernel
theorem dX12_shifts_52 : decode cX12_shifts 52 = .ok (.iconst 0, 1) := by decide +kernel
theorem dX12_shifts_53 : decode cX12_shifts 53 = .ok (.istore 5, 2) := by decide +kernel
theorem dX12_shifts_55 : decode cX12_shifts 55 = .ok (.iload 5, 2) := by decide +kernel
theorem dX12_shifts_57 : decode cX12_shifts 57 = .ok (.aload_n 0, 1) := by decide +kernel
theorem dX12_shifts_58 : decode cX12_shifts 58 = .ok (.getfield 78, 3) := by decide +kernel
theorem dX12_shifts_61 : decode cX12_shifts 61 = .ok (.if_icmp .ge 33, 3) := by decide +kernel
theorem dX12_shifts_64 : decode cX12_shifts 64 = .ok (.iload 4, 2) := by decide +kernel
theorem dX12_shifts_66 : decode cX12_shifts 66 = .ok (.aload_n 0, 1) := by decide +kernel
theorem dX12_shifts_67 : decode cX12_shifts 67 = .ok (.getfield 28, 3) := by decide +kernel
theorem dX12_shifts_70 : decode cX12_shifts 70 = .ok (.iload 5, 2) := by decide +kernel
theorem dX12_shifts_72 : decode cX12_shifts 72 = .ok (.iaload, 1) := by decide +kernel
theorem dX12_shifts_73 : decode cX12_shifts 73 = .ok (.iload_n 1, 1) := by decide +kernel
theorem dX12_shifts_74 : decode cX12_shifts 74 = .ok (.if_icmp .lt 10, 3) := by decide +kernel
theorem dX12_shifts_77 : decode cX12_shifts 77 = .ok (.iconst 1, 1) := by decide +kernel
theorem dX12_shifts_78 : decode cX12_shifts 78 = .ok (.iload 5, 2) := by decide +kernel
theorem dX12_shifts_80 : decode cX12_shifts 80 = .ok (.ishl, 1) := by decide +kernel
theorem dX12_shifts_81 : decode cX12_shifts 81 = .ok (.goto 4, 3) := by decide +kernel
theorem dX12_shifts_84 : decode cX12_shifts 84 = .ok (.iconst 0, 1) := by decide +kernel
theorem dX12_shifts_85 : decode cX12_shifts 85 = .ok (.ior, 1) := by decide +kernel
theorem dX12_shifts_86 : decode cX12_shifts 86 = .ok (.istore 4, 2) := by decide +kernel
theorem dX12_shifts_88 : decode cX12_shifts 88 = .ok (.iinc 5 1, 3) := by decide +kernel
theorem dX12_shifts_91 : decode cX12_shifts 91 = .ok (.goto (-36), 3) := by decide +kernel
theorem dX12_shifts_94 : decode cX12_shifts 94 = .ok (.bipush (-6), 2) := by decide +kernel
theorem dX12_shifts_96 : decode cX12_shifts 96 = .ok (.istore 5, 2) := by decide +kernel
theorem dX12_shifts_98 : decode cX12_shifts 98 = .ok (.iconst 0, 1) := by decide +kernel
theorem dX12_shifts_99 : decode cX12_shifts 99 = .ok (.istore 6, 2) := by decide +kernel
theorem dX12_shifts_101 : decode cX12_shifts 101 = .ok (.iload 6, 2) := by decide +kernel
theorem dX12_shifts_103 : decode cX12_shifts 103 = .ok (.iconst 1, 1) := by decide +kernel
theorem dX12_shifts_104 : decode cX12_shifts 104 = .ok (.aload_n 0, 1) := by decide +kernel
theorem dX12_shifts_105 : decode cX12_shifts 105 = .ok (.getfield 78, 3) := by decide +kernel
theorem dX12_shifts_108 : decode cX12_shifts 108 = .ok (.ishl, 1) := by decide +kernel
theorem dX12_shifts_109 : decode cX12_shifts 109 = .ok (.if_icmp .ge 63, 3) := by decide +kernel
theorem dX12_shifts_112 : decode cX12_shifts 112 = .ok (.iload 5, 2) := by decide +kernel
theorem dX12_shifts_114 : decode cX12_shifts 114 = .ok (.ifCond .lt 16, 3) := by decide +kernel
theorem dX12_shifts_117 : decode cX12_shifts 117 = .ok (.iload 6, 2) := by decide +kernel
theorem dX12_shifts_119 : decode cX12_shifts 119 = .ok (.invokestatic 125, 3) := by decide +kernel
theorem dX12_shifts_122 : decode cX12_shifts 122 = .ok (.iload 5, 2) := by decide +kernel
theorem dX12_shifts_124 : decode cX12_shifts 124 = .ok (.invokestatic 125, 3) := by decide +kernel
theorem dX12_shifts_127 : decode cX12_shifts 127 = .ok (.if_icmp .ge 7, 3) := by decide +kernel
theorem dX12_shifts_130 : decode cX12_shifts 130 = .ok (.iconst 1, 1) := by decide +kernel
theorem dX12_shifts_131 : decode cX12_shifts 131 = .ok (.goto 4, 3) := by decide +kernel
theorem dX12_shifts_134 : decode cX12_shifts 134 = .ok (.iconst 0, 1) := by decide +kernel
theorem dX12_shifts_135 : decode cX12_shifts 135 = .ok (.istore 7, 2) := by decide +kernel
theorem dX12_shifts_137 : decode cX12_shifts 137 = .ok (.iload 7, 2) := by decide +kernel
theorem dX12_shifts_139 : decode cX12_shifts 139 = .ok (.ifCond .eq 23, 3) := by decide +kernel
theorem dX12_shifts_142 : decode cX12_shifts 142 = .ok (.iload 4, 2) := by decide +kernel
theorem dX12_shifts_144 : decode cX12_shifts 144 = .ok (.aload_n 0, 1) := by decide +kernel
theorem dX12_shifts_145 : decode cX12_shifts 145 = .ok (.iload 6, 2) := by decide +kernel
theorem dX12_shifts_147 : decode cX12_shifts 147 = .ok (.iload_n 2, 1) := by decide +kernel
theorem dX12_shifts_148 : decode cX12_shifts 148 = .ok (.invokevirtual 288, 3) := by decide +kernel
theorem dX12_shifts_151 : decode cX12_shifts 151 = .ok (.iconst (-1), 1) := by decide +kernel
theorem dX12_shifts_152 : decode cX12_shifts 152 = .ok (.ixor, 1) := by decide +kernel
theorem dX12_shifts_153 : decode cX12_shifts 153 = .ok (.iand, 1) := by decide +kernel
theorem dX12_shifts_154 : decode cX12_shifts 154 = .ok (.ifCond .ne 8, 3) := by decide +kernel
theorem dX12_shifts_157 : decode cX12_shifts 157 = .ok (.iload 6, 2) := by decide +kernel
theorem dX12_shifts_159 : decode cX12_shifts 159 = .ok (.goto 5, 3) := by decide +kernel
theorem dX12_shifts_162 : decode cX12_shifts 162 = .ok (.iload 5, 2) := by decide +kernel
theorem dX12_shifts_164 : decode cX12_shifts 164 = .ok (.istore 5, 2) := by decide +kernel
theorem dX12_shifts_166 : decode cX12_shifts 166 = .ok (.iinc 6 1, 3) := by decide +kernel
theorem dX12_shifts_169 : decode cX12_shifts 169 = .ok (.goto (-68), 3) := by decide +kernel
theorem dX12_shifts_172 : decode cX12_shifts 172 = .ok (.iload_n 3, 1) := by decide +kernel
theorem dX12_shifts_173 : decode cX12_shifts 173 = .ok (.ifCond .ne 11, 3) := by decide +kernel
theorem dX12_shifts_176 : decode cX12_shifts 176 = .ok (.iload 5, 2) := by decide +kernel
theorem dX12_shifts_178 : decode cX12_shifts 178 = .ok (.invokestatic 125, 3) := by decide +kernel
theorem dX12_shifts_181 : decode cX12_shifts 181 = .ok (.goto 5, 3) := by decide +kernel
theorem dX12_shifts_184 : decode cX12_shifts 184 = .ok (.iload 5, 2) := by decide +kernel
theorem dX12_shifts_186 : decode cX12_shifts 186 = .ok (.ireturn, 1) := by decide +kernel
theorem dX12_drought_0 : decode cX12_drought 0 = .ok (.iload_n 1, 1) := by decide +kernel
theorem dX12_drought_1 : decode cX12_drought 1 = .ok (.invokestatic 177, 3) := by decide +kernel
theorem dX12_drought_4 : decode cX12_drought 4 = .ok (.ifCond .ne 6, 3) := by decide +kernel
theorem dX12_drought_7 : decode cX12_drought 7 = .ok (.bipush (-2), 2) := by decide +kernel
theorem dX12_drought_9 : decode cX12_drought 9 = .ok (.ireturn, 1) := by decide +kernel
theorem dX12_drought_10 : decode cX12_drought 10 = .ok (.aload_n 0, 1) := by decide +kernel
theorem dX12_drought_11 : decode cX12_drought 11 = .ok (.iconst 0, 1) := by decide +kernel
theorem dX12_drought_12 : decode cX12_drought 12 = .ok (.putfield 155, 3) := by decide +kernel
theorem dX12_drought_15 : decode cX12_drought 15 = .ok (.aload_n 0, 1) := by decide +kernel
theorem dX12_drought_16 : decode cX12_drought 16 = .ok (.iload_n 1, 1) := by decide +kernel
theorem dX12_drought_17 : decode cX12_drought 17 = .ok (.invokevirtual 220, 3) := by decide +kernel
theorem dX12_drought_20 : decode cX12_drought 20 = .ok (.ifCond .le 16, 3) := by decide +kernel
theorem dX12_drought_23 : decode cX12_drought 23 = .ok (.aload_n 0, 1) := by decide +kernel
theorem dX12_drought_24 : decode cX12_drought 24 = .ok (.dup, 1) := by decide +kernel
theorem dX12_drought_25 : decode cX12_drought 25 = .ok (.getfield 155, 3) := by decide +kernel
theorem dX12_drought_28 : decode cX12_drought 28 = .ok (.iconst 1, 1) := by decide +kernel
theorem dX12_drought_29 : decode cX12_drought 29 = .ok (.iadd, 1) := by decide +kernel
theorem dX12_drought_30 : decode cX12_drought 30 = .ok (.putfield 155, 3) := by decide +kernel
theorem dX12_drought_33 : decode cX12_drought 33 = .ok (.goto (-18), 3) := by decide +kernel
theorem dX12_drought_36 : decode cX12_drought 36 = .ok (.aload_n 0, 1) := by decide +kernel
theorem dX12_drought_37 : decode cX12_drought 37 = .ok (.getfield 155, 3) := by decide +kernel
theorem dX12_drought_40 : decode cX12_drought 40 = .ok (.istore_n 2, 1) := by decide +kernel
theorem dX12_drought_41 : decode cX12_drought 41 = .ok (.aload_n 0, 1) := by decide +kernel
theorem dX12_drought_42 : decode cX12_drought 42 = .ok (.iconst 0, 1) := by decide +kernel
theorem dX12_drought_43 : decode cX12_drought 43 = .ok (.putfield 155, 3) := by decide +kernel
theorem dX12_drought_46 : decode cX12_drought 46 = .ok (.iload_n 2, 1) := by decide +kernel
theorem dX12_drought_47 : decode cX12_drought 47 = .ok (.ireturn, 1) := by decide +kernel
theorem dX12_quiet_0 : decode cX12_quiet 0 = .ok (.aload_n 0, 1) := by decide +kernel
theorem dX12_quiet_1 : decode cX12_quiet 1 = .ok (.iload_n 1, 1) := by decide +kernel
theorem dX12_quiet_2 : decode cX12_quiet 2 = .ok (.invokevirtual 112, 3) := by decide +kernel
theorem dX12_quiet_5 : decode cX12_quiet 5 = .ok (.ifCond .ne 5, 3) := by decide +kernel
theorem dX12_quiet_8 : decode cX12_quiet 8 = .ok (.iconst (-1), 1) := by decide +kernel
theorem dX12_quiet_9 : decode cX12_quiet 9 = .ok (.ireturn, 1) := by decide +kernel
theorem dX12_quiet_10 : decode cX12_quiet 10 = .ok (.iconst 0, 1) := by decide +kernel
theorem dX12_quiet_11 : decode cX12_quiet 11 = .ok (.istore_n 2, 1) := by decide +kernel
theorem dX12_quiet_12 : decode cX12_quiet 12 = .ok (.iconst 0, 1) := by decide +kernel
theorem dX12_quiet_13 : decode cX12_quiet 13 = .ok (.istore_n 3, 1) := by decide +kernel
theorem dX12_quiet_14 : decode cX12_quiet 14 = .ok (.iconst 0, 1) := by decide +kernel
theorem dX12_quiet_15 : decode cX12_quiet 15 = .ok (.istore 4, 2) := by decide +kernel
theorem dX12_quiet_17 : decode cX12_quiet 17 = .ok (.iload 4, 2) := by decide +kernel
theorem dX12_quiet_19 : decode cX12_quiet 19 = .ok (.iconst 2, 1) := by decide +kernel
theorem dX12_quiet_20 : decode cX12_quiet 20 = .ok (.aload_n 0, 1) := by decide +kernel
theorem dX12_quiet_21 : decode cX12_quiet 21 = .ok (.getfield 78, 3) := by decide +kernel
theorem dX12_quiet_24 : decode cX12_quiet 24 = .ok (.imul, 1) := by decide +kernel
theorem dX12_quiet_25 : decode cX12_quiet 25 = .ok (.if_icmp .ge 38, 3) := by decide +kernel
theorem dX12_quiet_28 : decode cX12_quiet 28 = .ok (.aload_n 0, 1) := by decide +kernel
theorem dX12_quiet_29 : decode cX12_quiet 29 = .ok (.iload_n 1, 1) := by decide +kernel
theorem dX12_quiet_30 : decode cX12_quiet 30 = .ok (.iload 4, 2) := by decide +kernel
theorem dX12_quiet_32 : decode cX12_quiet 32 = .ok (.invokevirtual 161, 3) := by decide +kernel
theorem dX12_quiet_35 : decode cX12_quiet 35 = .ok (.ifCond .ne 9, 3) := by decide +kernel
theorem dX12_quiet_38 : decode cX12_quiet 38 = .ok (.iload_n 3, 1) := by decide +kernel
theorem dX12_quiet_39 : decode cX12_quiet 39 = .ok (.iconst 1, 1) := by decide +kernel
theorem dX12_quiet_40 : decode cX12_quiet 40 = .ok (.iadd, 1) := by decide +kernel
theorem dX12_quiet_41 : decode cX12_quiet 41 = .ok (.goto 4, 3) := by decide +kernel
theorem dX12_quiet_44 : decode cX12_quiet 44 = .ok (.iconst 0, 1) := by decide +kernel
theorem dX12_quiet_45 : decode cX12_quiet 45 = .ok (.istore_n 3, 1) := by decide +kernel
theorem dX12_quiet_46 : decode cX12_quiet 46 = .ok (.iload_n 3, 1) := by decide +kernel
theorem dX12_quiet_47 : decode cX12_quiet 47 = .ok (.iload_n 2, 1) := by decide +kernel
theorem dX12_quiet_48 : decode cX12_quiet 48 = .ok (.if_icmp .le 7, 3) := by decide +kernel
theorem dX12_quiet_51 : decode cX12_quiet 51 = .ok (.iload_n 3, 1) := by decide +kernel
theorem dX12_quiet_52 : decode cX12_quiet 52 = .ok (.goto 4, 3) := by decide +kernel
theorem dX12_quiet_55 : decode cX12_quiet 55 = .ok (.iload_n 2, 1) := by decide +kernel
theorem dX12_quiet_56 : decode cX12_quiet 56 = .ok (.istore_n 2, 1) := by decide +kernel
theorem dX12_quiet_57 : decode cX12_quiet 57 = .ok (.iinc 4 1, 3) := by decide +kernel
theorem dX12_quiet_60 : decode cX12_quiet 60 = .ok (.goto (-43), 3) := by decide +kernel
theorem dX12_quiet_63 : decode cX12_quiet 63 = .ok (.iload_n 2, 1) := by decide +kernel
theorem dX12_quiet_64 : decode cX12_quiet 64 = .ok (.aload_n 0, 1) := by decide +kernel
theorem dX12_quiet_65 : decode cX12_quiet 65 = .ok (.getfield 78, 3) := by decide +kernel
theorem dX12_quiet_68 : decode cX12_quiet 68 = .ok (.if_icmp .lt 8, 3) := by decide +kernel
theorem dX12_quiet_71 : decode cX12_quiet 71 = .ok (.bipush (-6), 2) := by decide +kernel
theorem dX12_quiet_73 : decode cX12_quiet 73 = .ok (.goto 4, 3) := by decide +kernel
theorem dX12_quiet_76 : decode cX12_quiet 76 = .ok (.iload_n 2, 1) := by decide +kernel
theorem dX12_quiet_77 : decode cX12_quiet 77 = .ok (.ireturn, 1) := by decide +kernel
theorem dX12_isPeriod_0 : decode cX12_isPeriod 0 = .ok (.aload_n 0, 1) := by decide +kernel
theorem dX12_isPeriod_1 : decode cX12_isPeriod 1 = .ok (.getfield 78, 3) := by decide +kernel
theorem dX12_isPeriod_4 : decode cX12_isPeriod 4 = .ok (.iload_n 1, 1) := by decide +kernel
theorem dX12_isPeriod_5 : decode cX12_isPeriod 5 = .ok (.irem, 1) := by decide +kernel
theorem dX12_isPeriod_6 : decode cX12_isPeriod 6 = .ok (.ifCond .ne 7, 3) := by decide +kernel
theorem dX12_isPeriod_9 : decode cX12_isPeriod 9 = .ok (.iconst 1, 1) := by decide +kernel
theorem dX12_isPeriod_10 : decode cX12_isPeriod 10 = .ok (.goto 4, 3) := by decide +kernel
theorem dX12_isPeriod_13 : decode cX12_isPeriod 13 = .ok (.iconst 0, 1) := by decide +kernel
theorem dX12_isPeriod_14 : decode cX12_isPeriod 14 = .ok (.istore_n 2, 1) := by decide +kernel
theorem dX12_isPeriod_15 : decode cX12_isPeriod 15 = .ok (.iload_n 1, 1) := by decide +kernel
theorem dX12_isPeriod_16 : decode cX12_isPeriod 16 = .ok (.istore_n 3, 1) := by decide +kernel
theorem dX12_isPeriod_17 : decode cX12_isPeriod 17 = .ok (.iload_n 3, 1) := by decide +kernel
theorem dX12_isPeriod_18 : decode cX12_isPeriod 18 = .ok (.aload_n 0, 1) := by decide +kernel
theorem dX12_isPeriod_19 : decode cX12_isPeriod 19 = .ok (.getfield 78, 3) := by decide +kernel
theorem dX12_isPeriod_22 : decode cX12_isPeriod 22 = .ok (.if_icmp .ge 36, 3) := by decide +kernel
theorem dX12_isPeriod_25 : decode cX12_isPeriod 25 = .ok (.iload_n 2, 1) := by decide +kernel
theorem dX12_isPeriod_26 : decode cX12_isPeriod 26 = .ok (.ifCond .eq 24, 3) := by decide +kernel
theorem dX12_isPeriod_29 : decode cX12_isPeriod 29 = .ok (.aload_n 0, 1) := by decide +kernel
theorem dX12_isPeriod_30 : decode cX12_isPeriod 30 = .ok (.getfield 28, 3) := by decide +kernel
theorem dX12_isPeriod_33 : decode cX12_isPeriod 33 = .ok (.iload_n 3, 1) := by decide +kernel
theorem dX12_isPeriod_34 : decode cX12_isPeriod 34 = .ok (.iaload, 1) := by decide +kernel
theorem dX12_isPeriod_35 : decode cX12_isPeriod 35 = .ok (.aload_n 0, 1) := by decide +kernel
theorem dX12_isPeriod_36 : decode cX12_isPeriod 36 = .ok (.getfield 28, 3) := by decide +kernel
theorem dX12_isPeriod_39 : decode cX12_isPeriod 39 = .ok (.iload_n 3, 1) := by decide +kernel
theorem dX12_isPeriod_40 : decode cX12_isPeriod 40 = .ok (.iload_n 1, 1) := by decide +kernel
theorem dX12_isPeriod_41 : decode cX12_isPeriod 41 = .ok (.isub, 1) := by decide +kernel
theorem dX12_isPeriod_42 : decode cX12_isPeriod 42 = .ok (.iaload, 1) := by decide +kernel
theorem dX12_isPeriod_43 : decode cX12_isPeriod 43 = .ok (.if_icmp .ne 7, 3) := by decide +kernel
theorem dX12_isPeriod_46 : decode cX12_isPeriod 46 = .ok (.iconst 1, 1) := by decide +kernel
theorem dX12_isPeriod_47 : decode cX12_isPeriod 47 = .ok (.goto 4, 3) := by decide +kernel
theorem dX12_isPeriod_50 : decode cX12_isPeriod 50 = .ok (.iconst 0, 1) := by decide +kernel
theorem dX12_isPeriod_51 : decode cX12_isPeriod 51 = .ok (.istore_n 2, 1) := by decide +kernel
theorem dX12_isPeriod_52 : decode cX12_isPeriod 52 = .ok (.iinc 3 1, 3) := by decide +kernel
theorem dX12_isPeriod_55 : decode cX12_isPeriod 55 = .ok (.goto (-38), 3) := by decide +kernel
theorem dX12_isPeriod_58 : decode cX12_isPeriod 58 = .ok (.iload_n 2, 1) := by decide +kernel
theorem dX12_isPeriod_59 : decode cX12_isPeriod 59 = .ok (.ireturn, 1) := by decide +kernel
theorem dX12_period_0 : decode cX12_period 0 = .ok (.iconst 1, 1) := by decide +kernel
theorem dX12_period_1 : decode cX12_period 1 = .ok (.istore_n 1, 1) := by decide +kernel
theorem dX12_period_2 : decode cX12_period 2 = .ok (.aload_n 0, 1) := by decide +kernel
theorem dX12_period_3 : decode cX12_period 3 = .ok (.iload_n 1, 1) := by decide +kernel
theorem dX12_period_4 : decode cX12_period 4 = .ok (.invokevirtual 291, 3) := by decide +kernel
theorem dX12_period_7 : decode cX12_period 7 = .ok (.ifCond .ne 9, 3) := by decide +kernel
theorem dX12_period_10 : decode cX12_period 10 = .ok (.iinc 1 1, 3) := by decide +kernel
theorem dX12_period_13 : decode cX12_period 13 = .ok (.goto (-11), 3) := by decide +kernel
theorem dX12_period_16 : decode cX12_period 16 = .ok (.iload_n 1, 1) := by decide +kernel
theorem dX12_period_17 : decode cX12_period 17 = .ok (.ireturn, 1) := by decide +kernel
theorem dX12_year_0 : decode cX12_year 0 = .ok (.iload_n 1, 1) := by decide +kernel
theorem dX12_year_1 : decode cX12_year 1 = .ok (.i2l, 1) := by decide +kernel
theorem dX12_year_2 : decode cX12_year 2 = .ok (.lconst 0, 1) := by decide +kernel
theorem dX12_year_3 : decode cX12_year 3 = .ok (.ldc2_w 294, 3) := by decide +kernel
theorem dX12_year_6 : decode cX12_year 6 = .ok (.invokestatic 97, 3) := by decide +kernel
theorem dX12_year_9 : decode cX12_year 9 = .ok (.ifCond .eq 38, 3) := by decide +kernel
theorem dX12_year_12 : decode cX12_year 12 = .ok (.iload_n 2, 1) := by decide +kernel
theorem dX12_year_13 : decode cX12_year 13 = .ok (.i2l, 1) := by decide +kernel
theorem dX12_year_14 : decode cX12_year 14 = .ok (.lconst 1, 1) := by decide +kernel
theorem dX12_year_15 : decode cX12_year 15 = .ok (.ldc2_w 175, 3) := by decide +kernel
theorem dX12_year_18 : decode cX12_year 18 = .ok (.invokestatic 97, 3) := by decide +kernel
theorem dX12_year_21 : decode cX12_year 21 = .ok (.ifCond .eq 26, 3) := by decide +kernel
theorem dX12_year_24 : decode cX12_year 24 = .ok (.iload_n 3, 1) := by decide +kernel
theorem dX12_year_25 : decode cX12_year 25 = .ok (.i2l, 1) := by decide +kernel
theorem dX12_year_26 : decode cX12_year 26 = .ok (.lconst 1, 1) := by decide +kernel
theorem dX12_year_27 : decode cX12_year 27 = .ok (.ldc2_w 238, 3) := by decide +kernel
theorem dX12_year_30 : decode cX12_year 30 = .ok (.invokestatic 97, 3) := by decide +kernel
theorem dX12_year_33 : decode cX12_year 33 = .ok (.ifCond .eq 14, 3) := by decide +kernel
theorem dX12_year_36 : decode cX12_year 36 = .ok (.iload 4, 2) := by decide +kernel
theorem dX12_year_38 : decode cX12_year 38 = .ok (.i2l, 1) := by decide +kernel
theorem dX12_year_39 : decode cX12_year 39 = .ok (.lconst 0, 1) := by decide +kernel
theorem dX12_year_40 : decode cX12_year 40 = .ok (.lconst 1, 1) := by decide +kernel
theorem dX12_year_41 : decode cX12_year 41 = .ok (.invokestatic 97, 3) := by decide +kernel
theorem dX12_year_44 : decode cX12_year 44 = .ok (.ifCond .ne 6, 3) := by decide +kernel
theorem dX12_year_47 : decode cX12_year 47 = .ok (.bipush (-2), 2) := by decide +kernel
theorem dX12_year_49 : decode cX12_year 49 = .ok (.ireturn, 1) := by decide +kernel
theorem dX12_year_50 : decode cX12_year 50 = .ok (.iconst 0, 1) := by decide +kernel
theorem dX12_year_51 : decode cX12_year 51 = .ok (.istore 5, 2) := by decide +kernel
theorem dX12_year_53 : decode cX12_year 53 = .ok (.iload 5, 2) := by decide +kernel
theorem dX12_year_55 : decode cX12_year 55 = .ok (.bipush 8, 2) := by decide +kernel
theorem dX12_year_57 : decode cX12_year 57 = .ok (.if_icmp .ge 17, 3) := by decide +kernel
theorem dX12_year_60 : decode cX12_year 60 = .ok (.aload_n 0, 1) := by decide +kernel
theorem dX12_year_61 : decode cX12_year 61 = .ok (.getfield 49, 3) := by decide +kernel
theorem dX12_year_64 : decode cX12_year 64 = .ok (.iload 5, 2) := by decide +kernel
theorem dX12_year_66 : decode cX12_year 66 = .ok (.iconst 0, 1) := by decide +kernel
theorem dX12_year_67 : decode cX12_year 67 = .ok (.iastore, 1) := by decide +kernel
theorem dX12_year_68 : decode cX12_year 68 = .ok (.iinc 5 1, 3) := by decide +kernel
theorem dX12_year_71 : decode cX12_year 71 = .ok (.goto (-18), 3) := by decide +kernel
theorem dX12_year_74 : decode cX12_year 74 = .ok (.iload_n 1, 1) := by decide +kernel
theorem dX12_year_75 : decode cX12_year 75 = .ok (.istore 5, 2) := by decide +kernel
theorem dX12_year_77 : decode cX12_year 77 = .ok (.iconst 0, 1) := by decide +kernel
theorem dX12_year_78 : decode cX12_year 78 = .ok (.istore 6, 2) := by decide +kernel
theorem dX12_year_80 : decode cX12_year 80 = .ok (.iconst 0, 1) := by decide +kernel
theorem dX12_year_81 : decode cX12_year 81 = .ok (.istore 7, 2) := by decide +kernel
theorem dX12_year_83 : decode cX12_year 83 = .ok (.iload 7, 2) := by decide +kernel
theorem dX12_year_85 : decode cX12_year 85 = .ok (.iload_n 2, 1) := by decide +kernel
theorem dX12_year_86 : decode cX12_year 86 = .ok (.if_icmp .ge 132, 3) := by decide +kernel
theorem dX12_year_89 : decode cX12_year 89 = .ok (.ldc2_w 296, 3) := by decide +kernel
theorem dX12_year_92 : decode cX12_year 92 = .ok (.iload 5, 2) := by decide +kernel
theorem dX12_year_94 : decode cX12_year 94 = .ok (.i2l, 1) := by decide +kernel
theorem dX12_year_95 : decode cX12_year 95 = .ok (.lmul, 1) := by decide +kernel
theorem dX12_year_96 : decode cX12_year 96 = .ok (.ldc2_w 298, 3) := by decide +kernel
theorem dX12_year_99 : decode cX12_year 99 = .ok (.ladd, 1) := by decide +kernel
theorem dX12_year_100 : decode cX12_year 100 = .ok (.ldc2_w 300, 3) := by decide +kernel
theorem dX12_year_103 : decode cX12_year 103 = .ok (.lrem, 1) := by decide +kernel
theorem dX12_year_104 : decode cX12_year 104 = .ok (.l2i, 1) := by decide +kernel
theorem dX12_year_105 : decode cX12_year 105 = .ok (.istore 5, 2) := by decide +kernel
theorem dX12_year_107 : decode cX12_year 107 = .ok (.iload 5, 2) := by decide +kernel
theorem dX12_year_109 : decode cX12_year 109 = .ok (.iload_n 3, 1) := by decide +kernel
theorem dX12_year_110 : decode cX12_year 110 = .ok (.irem, 1) := by decide +kernel
theorem dX12_year_111 : decode cX12_year 111 = .ok (.ifCond .ne 7, 3) := by decide +kernel
theorem dX12_year_114 : decode cX12_year 114 = .ok (.iconst 1, 1) := by decide +kernel
theorem dX12_year_115 : decode cX12_year 115 = .ok (.goto 4, 3) := by decide +kernel
theorem dX12_year_118 : decode cX12_year 118 = .ok (.iconst 0, 1) := by decide +kernel
theorem dX12_year_119 : decode cX12_year 119 = .ok (.istore 8, 2) := by decide +kernel
theorem dX12_year_121 : decode cX12_year 121 = .ok (.iload 6, 2) := by decide +kernel
theorem dX12_year_123 : decode cX12_year 123 = .ok (.iload 8, 2) := by decide +kernel
theorem dX12_year_125 : decode cX12_year 125 = .ok (.ifCond .eq 7, 3) := by decide +kernel
theorem dX12_year_128 : decode cX12_year 128 = .ok (.iconst 1, 1) := by decide +kernel
theorem dX12_year_129 : decode cX12_year 129 = .ok (.goto 4, 3) := by decide +kernel
theorem dX12_year_132 : decode cX12_year 132 = .ok (.iconst 0, 1) := by decide +kernel
theorem dX12_year_133 : decode cX12_year 133 = .ok (.iadd, 1) := by decide +kernel
theorem dX12_year_134 : decode cX12_year 134 = .ok (.istore 6, 2) := by decide +kernel
theorem dX12_year_136 : decode cX12_year 136 = .ok (.aload_n 0, 1) := by decide +kernel
theorem dX12_year_137 : decode cX12_year 137 = .ok (.iload 8, 2) := by decide +kernel
theorem dX12_year_139 : decode cX12_year 139 = .ok (.ifCond .eq 7, 3) := by decide +kernel
theorem dX12_year_142 : decode cX12_year 142 = .ok (.iconst (-1), 1) := by decide +kernel
theorem dX12_year_143 : decode cX12_year 143 = .ok (.goto 4, 3) := by decide +kernel
theorem dX12_year_146 : decode cX12_year 146 = .ok (.iconst 0, 1) := by decide +kernel
theorem dX12_year_147 : decode cX12_year 147 = .ok (.putfield 155, 3) := by decide +kernel
theorem dX12_year_150 : decode cX12_year 150 = .ok (.iconst 0, 1) := by decide +kernel
theorem dX12_year_151 : decode cX12_year 151 = .ok (.istore 9, 2) := by decide +kernel
theorem dX12_year_153 : decode cX12_year 153 = .ok (.iload 9, 2) := by decide +kernel
theorem dX12_year_155 : decode cX12_year 155 = .ok (.bipush 8, 2) := by decide +kernel
theorem dX12_year_157 : decode cX12_year 157 = .ok (.if_icmp .ge 55, 3) := by decide +kernel
theorem dX12_year_160 : decode cX12_year 160 = .ok (.aload_n 0, 1) := by decide +kernel
theorem dX12_year_161 : decode cX12_year 161 = .ok (.getfield 49, 3) := by decide +kernel
theorem dX12_year_164 : decode cX12_year 164 = .ok (.iload 9, 2) := by decide +kernel
theorem dX12_year_166 : decode cX12_year 166 = .ok (.aload_n 0, 1) := by decide +kernel
theorem dX12_year_167 : decode cX12_year 167 = .ok (.iload 9, 2) := by decide +kernel
theorem dX12_year_169 : decode cX12_year 169 = .ok (.invokevirtual 107, 3) := by decide +kernel
theorem dX12_year_172 : decode cX12_year 172 = .ok (.ifCond .eq 32, 3) := by decide +kernel
theorem dX12_year_175 : decode cX12_year 175 = .ok (.aload_n 0, 1) := by decide +kernel
theorem dX12_year_176 : decode cX12_year 176 = .ok (.getfield 49, 3) := by decide +kernel
theorem dX12_year_179 : decode cX12_year 179 = .ok (.iload 9, 2) := by decide +kernel
theorem dX12_year_181 : decode cX12_year 181 = .ok (.iaload, 1) := by decide +kernel
theorem dX12_year_182 : decode cX12_year 182 = .ok (.aload_n 0, 1) := by decide +kernel
theorem dX12_year_183 : decode cX12_year 183 = .ok (.iload 9, 2) := by decide +kernel
theorem dX12_year_185 : decode cX12_year 185 = .ok (.aload_n 0, 1) := by decide +kernel
theorem dX12_year_186 : decode cX12_year 186 = .ok (.getfield 16, 3) := by decide +kernel
theorem dX12_year_189 : decode cX12_year 189 = .ok (.iload 9, 2) := by decide +kernel
theorem dX12_year_191 : decode cX12_year 191 = .ok (.iaload, 1) := by decide +kernel
theorem dX12_year_192 : decode cX12_year 192 = .ok (.iload 7, 2) := by decide +kernel
theorem dX12_year_194 : decode cX12_year 194 = .ok (.invokevirtual 165, 3) := by decide +kernel
theorem dX12_year_197 : decode cX12_year 197 = .ok (.iadd, 1) := by decide +kernel
theorem dX12_year_198 : decode cX12_year 198 = .ok (.invokestatic 169, 3) := by decide +kernel
theorem dX12_year_201 : decode cX12_year 201 = .ok (.goto 4, 3) := by decide +kernel
theorem dX12_year_204 : decode cX12_year 204 = .ok (.iconst 0, 1) := by decide +kernel
theorem dX12_year_205 : decode cX12_year 205 = .ok (.iastore, 1) := by decide +kernel
theorem dX12_year_206 : decode cX12_year 206 = .ok (.iinc 9 1, 3) := by decide +kernel
theorem dX12_year_209 : decode cX12_year 209 = .ok (.goto (-56), 3) := by decide +kernel
theorem dX12_year_212 : decode cX12_year 212 = .ok (.iinc 7 1, 3) := by decide +kernel
theorem dX12_year_215 : decode cX12_year 215 = .ok (.goto (-132), 3) := by decide +kernel
theorem dX12_year_218 : decode cX12_year 218 = .ok (.aload_n 0, 1) := by decide +kernel
theorem dX12_year_219 : decode cX12_year 219 = .ok (.iconst 0, 1) := by decide +kernel
theorem dX12_year_220 : decode cX12_year 220 = .ok (.putfield 155, 3) := by decide +kernel
theorem dX12_year_223 : decode cX12_year 223 = .ok (.iconst 0, 1) := by decide +kernel
theorem dX12_year_224 : decode cX12_year 224 = .ok (.istore 7, 2) := by decide +kernel
theorem dX12_year_226 : decode cX12_year 226 = .ok (.iconst 0, 1) := by decide +kernel
theorem dX12_year_227 : decode cX12_year 227 = .ok (.istore 8, 2) := by decide +kernel
theorem dX12_year_229 : decode cX12_year 229 = .ok (.iload 8, 2) := by decide +kernel
theorem dX12_year_231 : decode cX12_year 231 = .ok (.bipush 8, 2) := by decide +kernel
theorem dX12_year_233 : decode cX12_year 233 = .ok (.if_icmp .ge 48, 3) := by decide +kernel
theorem dX12_year_236 : decode cX12_year 236 = .ok (.iload 7, 2) := by decide +kernel
theorem dX12_year_238 : decode cX12_year 238 = .ok (.aload_n 0, 1) := by decide +kernel
theorem dX12_year_239 : decode cX12_year 239 = .ok (.iload 8, 2) := by decide +kernel
theorem dX12_year_241 : decode cX12_year 241 = .ok (.invokevirtual 107, 3) := by decide +kernel
theorem dX12_year_244 : decode cX12_year 244 = .ok (.ifCond .eq 27, 3) := by decide +kernel
theorem dX12_year_247 : decode cX12_year 247 = .ok (.aload_n 0, 1) := by decide +kernel
theorem dX12_year_248 : decode cX12_year 248 = .ok (.getfield 49, 3) := by decide +kernel
theorem dX12_year_251 : decode cX12_year 251 = .ok (.iload 8, 2) := by decide +kernel
theorem dX12_year_253 : decode cX12_year 253 = .ok (.iaload, 1) := by decide +kernel
theorem dX12_year_254 : decode cX12_year 254 = .ok (.aload_n 0, 1) := by decide +kernel
theorem dX12_year_255 : decode cX12_year 255 = .ok (.getfield 71, 3) := by decide +kernel
theorem dX12_year_258 : decode cX12_year 258 = .ok (.if_icmp .lt 13, 3) := by decide +kernel
theorem dX12_year_261 : decode cX12_year 261 = .ok (.aload_n 0, 1) := by decide +kernel
theorem dX12_year_262 : decode cX12_year 262 = .ok (.getfield 19, 3) := by decide +kernel
theorem dX12_year_265 : decode cX12_year 265 = .ok (.iload 8, 2) := by decide +kernel
theorem dX12_year_267 : decode cX12_year 267 = .ok (.iaload, 1) := by decide +kernel
theorem dX12_year_268 : decode cX12_year 268 = .ok (.goto 4, 3) := by decide +kernel
theorem dX12_year_271 : decode cX12_year 271 = .ok (.iconst 0, 1) := by decide +kernel
theorem dX12_year_272 : decode cX12_year 272 = .ok (.iadd, 1) := by decide +kernel
theorem dX12_year_273 : decode cX12_year 273 = .ok (.istore 7, 2) := by decide +kernel
theorem dX12_year_275 : decode cX12_year 275 = .ok (.iinc 8 1, 3) := by decide +kernel
theorem dX12_year_278 : decode cX12_year 278 = .ok (.goto (-49), 3) := by decide +kernel
theorem dX12_year_281 : decode cX12_year 281 = .ok (.iload 4, 2) := by decide +kernel
theorem dX12_year_283 : decode cX12_year 283 = .ok (.ifCond .ne 8, 3) := by decide +kernel
theorem dX12_year_286 : decode cX12_year 286 = .ok (.iload 7, 2) := by decide +kernel
theorem dX12_year_288 : decode cX12_year 288 = .ok (.goto 5, 3) := by decide +kernel
theorem dX12_year_291 : decode cX12_year 291 = .ok (.iload 6, 2) := by decide +kernel
theorem dX12_year_293 : decode cX12_year 293 = .ok (.ireturn, 1) := by decide +kernel
theorem dX12_pass_0 : decode cX12_pass 0 = .ok (.aload_n 0, 1) := by decide +kernel
theorem dX12_pass_1 : decode cX12_pass 1 = .ok (.getfield 302, 3) := by decide +kernel
theorem dX12_pass_4 : decode cX12_pass 4 = .ok (.ifCond .eq 7, 3) := by decide +kernel
theorem dX12_pass_7 : decode cX12_pass 7 = .ok (.iload_n 1, 1) := by decide +kernel
theorem dX12_pass_8 : decode cX12_pass 8 = .ok (.goto 12, 3) := by decide +kernel
theorem dX12_pass_11 : decode cX12_pass 11 = .ok (.aload_n 0, 1) := by decide +kernel
theorem dX12_pass_12 : decode cX12_pass 12 = .ok (.getfield 64, 3) := by decide +kernel
theorem dX12_pass_15 : decode cX12_pass 15 = .ok (.aload_n 0, 1) := by decide +kernel
theorem dX12_pass_16 : decode cX12_pass 16 = .ok (.getfield 306, 3) := by decide +kernel
theorem dX12_pass_19 : decode cX12_pass 19 = .ok (.iaload, 1) := by decide +kernel
theorem dX12_pass_20 : decode cX12_pass 20 = .ok (.istore_n 2, 1) := by decide +kernel
theorem dX12_pass_21 : decode cX12_pass 21 = .ok (.aload_n 0, 1) := by decide +kernel
theorem dX12_pass_22 : decode cX12_pass 22 = .ok (.getfield 64, 3) := by decide +kernel
theorem dX12_pass_25 : decode cX12_pass 25 = .ok (.aload_n 0, 1) := by decide +kernel
theorem dX12_pass_26 : decode cX12_pass 26 = .ok (.getfield 306, 3) := by decide +kernel
theorem dX12_pass_29 : decode cX12_pass 29 = .ok (.iload_n 2, 1) := by decide +kernel
theorem dX12_pass_30 : decode cX12_pass 30 = .ok (.iastore, 1) := by decide +kernel
theorem dX12_pass_31 : decode cX12_pass 31 = .ok (.aload_n 0, 1) := by decide +kernel
theorem dX12_pass_32 : decode cX12_pass 32 = .ok (.dup, 1) := by decide +kernel
theorem dX12_pass_33 : decode cX12_pass 33 = .ok (.getfield 306, 3) := by decide +kernel
theorem dX12_pass_36 : decode cX12_pass 36 = .ok (.iconst 1, 1) := by decide +kernel
theorem dX12_pass_37 : decode cX12_pass 37 = .ok (.iadd, 1) := by decide +kernel
theorem dX12_pass_38 : decode cX12_pass 38 = .ok (.putfield 306, 3) := by decide +kernel
theorem dX12_pass_41 : decode cX12_pass 41 = .ok (.iload_n 2, 1) := by decide +kernel
theorem dX12_pass_42 : decode cX12_pass 42 = .ok (.ireturn, 1) := by decide +kernel
theorem dX12_passAll_0 : decode cX12_passAll 0 = .ok (.aload_n 0, 1) := by decide +kernel
theorem dX12_passAll_1 : decode cX12_passAll 1 = .ok (.aload_n 0, 1) := by decide +kernel
theorem dX12_passAll_2 : decode cX12_passAll 2 = .ok (.aload_n 0, 1) := by decide +kernel
theorem dX12_passAll_3 : decode cX12_passAll 3 = .ok (.getfield 85, 3) := by decide +kernel
theorem dX12_passAll_6 : decode cX12_passAll 6 = .ok (.invokevirtual 309, 3) := by decide +kernel
theorem dX12_passAll_9 : decode cX12_passAll 9 = .ok (.putfield 85, 3) := by decide +kernel
theorem dX12_passAll_12 : decode cX12_passAll 12 = .ok (.aload_n 0, 1) := by decide +kernel
theorem dX12_passAll_13 : decode cX12_passAll 13 = .ok (.aload_n 0, 1) := by decide +kernel
theorem dX12_passAll_14 : decode cX12_passAll 14 = .ok (.aload_n 0, 1) := by decide +kernel
theorem dX12_passAll_15 : decode cX12_passAll 15 = .ok (.getfield 88, 3) := by decide +kernel
theorem dX12_passAll_18 : decode cX12_passAll 18 = .ok (.invokevirtual 309, 3) := by decide +kernel
theorem dX12_passAll_21 : decode cX12_passAll 21 = .ok (.putfield 88, 3) := by decide +kernel
theorem dX12_passAll_24 : decode cX12_passAll 24 = .ok (.aload_n 0, 1) := by decide +kernel
theorem dX12_passAll_25 : decode cX12_passAll 25 = .ok (.aload_n 0, 1) := by decide +kernel
theorem dX12_passAll_26 : decode cX12_passAll 26 = .ok (.aload_n 0, 1) := by decide +kernel
theorem dX12_passAll_27 : decode cX12_passAll 27 = .ok (.getfield 91, 3) := by decide +kernel
theorem dX12_passAll_30 : decode cX12_passAll 30 = .ok (.invokevirtual 309, 3) := by decide +kernel
theorem dX12_passAll_33 : decode cX12_passAll 33 = .ok (.putfield 91, 3) := by decide +kernel
theorem dX12_passAll_36 : decode cX12_passAll 36 = .ok (.aload_n 0, 1) := by decide +kernel
theorem dX12_passAll_37 : decode cX12_passAll 37 = .ok (.aload_n 0, 1) := by decide +kernel
theorem dX12_passAll_38 : decode cX12_passAll 38 = .ok (.aload_n 0, 1) := by decide +kernel
theorem dX12_passAll_39 : decode cX12_passAll 39 = .ok (.getfield 78, 3) := by decide +kernel
theorem dX12_passAll_42 : decode cX12_passAll 42 = .ok (.invokevirtual 309, 3) := by decide +kernel
theorem dX12_passAll_45 : decode cX12_passAll 45 = .ok (.putfield 78, 3) := by decide +kernel
theorem dX12_passAll_48 : decode cX12_passAll 48 = .ok (.aload_n 0, 1) := by decide +kernel
theorem dX12_passAll_49 : decode cX12_passAll 49 = .ok (.aload_n 0, 1) := by decide +kernel
theorem dX12_passAll_50 : decode cX12_passAll 50 = .ok (.aload_n 0, 1) := by decide +kernel
theorem dX12_passAll_51 : decode cX12_passAll 51 = .ok (.getfield 71, 3) := by decide +kernel
theorem dX12_passAll_54 : decode cX12_passAll 54 = .ok (.invokevirtual 309, 3) := by decide +kernel
theorem dX12_passAll_57 : decode cX12_passAll 57 = .ok (.putfield 71, 3) := by decide +kernel
theorem dX12_passAll_60 : decode cX12_passAll 60 = .ok (.aload_n 0, 1) := by decide +kernel
theorem dX12_passAll_61 : decode cX12_passAll 61 = .ok (.aload_n 0, 1) := by decide +kernel
theorem dX12_passAll_62 : decode cX12_passAll 62 = .ok (.aload_n 0, 1) := by decide +kernel
theorem dX12_passAll_63 : decode cX12_passAll 63 = .ok (.getfield 75, 3) := by decide +kernel
theorem dX12_passAll_66 : decode cX12_passAll 66 = .ok (.invokevirtual 309, 3) := by decide +kernel
theorem dX12_passAll_69 : decode cX12_passAll 69 = .ok (.putfield 75, 3) := by decide +kernel
theorem dX12_passAll_72 : decode cX12_passAll 72 = .ok (.aload_n 0, 1) := by decide +kernel
theorem dX12_passAll_73 : decode cX12_passAll 73 = .ok (.aload_n 0, 1) := by decide +kernel
theorem dX12_passAll_74 : decode cX12_passAll 74 = .ok (.aload_n 0, 1) := by decide +kernel
theorem dX12_passAll_75 : decode cX12_passAll 75 = .ok (.getfield 128, 3) := by decide +kernel
theorem dX12_passAll_78 : decode cX12_passAll 78 = .ok (.invokevirtual 309, 3) := by decide +kernel
theorem dX12_passAll_81 : decode cX12_passAll 81 = .ok (.putfield 128, 3) := by decide +kernel
theorem dX12_passAll_84 : decode cX12_passAll 84 = .ok (.aload_n 0, 1) := by decide +kernel
theorem dX12_passAll_85 : decode cX12_passAll 85 = .ok (.aload_n 0, 1) := by decide +kernel
theorem dX12_passAll_86 : decode cX12_passAll 86 = .ok (.aload_n 0, 1) := by decide +kernel
theorem dX12_passAll_87 : decode cX12_passAll 87 = .ok (.getfield 94, 3) := by decide +kernel
theorem dX12_passAll_90 : decode cX12_passAll 90 = .ok (.invokevirtual 309, 3) := by decide +kernel
theorem dX12_passAll_93 : decode cX12_passAll 93 = .ok (.putfield 94, 3) := by decide +kernel
theorem dX12_passAll_96 : decode cX12_passAll 96 = .ok (.iconst 0, 1) := by decide +kernel
theorem dX12_passAll_97 : decode cX12_passAll 97 = .ok (.istore_n 1, 1) := by decide +kernel
theorem dX12_passAll_98 : decode cX12_passAll 98 = .ok (.iload_n 1, 1) := by decide +kernel
theorem dX12_passAll_99 : decode cX12_passAll 99 = .ok (.iconst 4, 1) := by decide +kernel
theorem dX12_passAll_100 : decode cX12_passAll 100 = .ok (.if_icmp .ge 25, 3) := by decide +kernel
theorem dX12_passAll_103 : decode cX12_passAll 103 = .ok (.aload_n 0, 1) := by decide +kernel
theorem dX12_passAll_104 : decode cX12_passAll 104 = .ok (.getfield 31, 3) := by decide +kernel
theorem dX12_passAll_107 : decode cX12_passAll 107 = .ok (.iload_n 1, 1) := by decide +kernel
theorem dX12_passAll_108 : decode cX12_passAll 108 = .ok (.aload_n 0, 1) := by decide +kernel
theorem dX12_passAll_109 : decode cX12_passAll 109 = .ok (.aload_n 0, 1) := by decide +kernel
theorem dX12_passAll_110 : decode cX12_passAll 110 = .ok (.getfield 31, 3) := by decide +kernel
theorem dX12_passAll_113 : decode cX12_passAll 113 = .ok (.iload_n 1, 1) := by decide +kernel
theorem dX12_passAll_114 : decode cX12_passAll 114 = .ok (.iaload, 1) := by decide +kernel
theorem dX12_passAll_115 : decode cX12_passAll 115 = .ok (.invokevirtual 309, 3) := by decide +kernel
theorem dX12_passAll_118 : decode cX12_passAll 118 = .ok (.iastore, 1) := by decide +kernel
theorem dX12_passAll_119 : decode cX12_passAll 119 = .ok (.iinc 1 1, 3) := by decide +kernel
theorem dX12_passAll_122 : decode cX12_passAll 122 = .ok (.goto (-24), 3) := by decide +kernel
theorem dX12_passAll_125 : decode cX12_passAll 125 = .ok (.iconst 0, 1) := by decide +kernel
theorem dX12_passAll_126 : decode cX12_passAll 126 = .ok (.istore_n 1, 1) := by decide +kernel
theorem dX12_passAll_127 : decode cX12_passAll 127 = .ok (.iload_n 1, 1) := by decide +kernel
theorem dX12_passAll_128 : decode cX12_passAll 128 = .ok (.bipush 6, 2) := by decide +kernel
theorem dX12_passAll_130 : decode cX12_passAll 130 = .ok (.if_icmp .ge 89, 3) := by decide +kernel
theorem dX12_passAll_133 : decode cX12_passAll 133 = .ok (.aload_n 0, 1) := by decide +kernel
theorem dX12_passAll_134 : decode cX12_passAll 134 = .ok (.getfield 7, 3) := by decide +kernel
theorem dX12_passAll_137 : decode cX12_passAll 137 = .ok (.iload_n 1, 1) := by decide +kernel
theorem dX12_passAll_138 : decode cX12_passAll 138 = .ok (.aload_n 0, 1) := by decide +kernel
theorem dX12_passAll_139 : decode cX12_passAll 139 = .ok (.aload_n 0, 1) := by decide +kernel
theorem dX12_passAll_140 : decode cX12_passAll 140 = .ok (.getfield 7, 3) := by decide +kernel
theorem dX12_passAll_143 : decode cX12_passAll 143 = .ok (.iload_n 1, 1) := by decide +kernel
theorem dX12_passAll_144 : decode cX12_passAll 144 = .ok (.iaload, 1) := by decide +kernel
theorem dX12_passAll_145 : decode cX12_passAll 145 = .ok (.invokevirtual 309, 3) := by decide +kernel
theorem dX12_passAll_148 : decode cX12_passAll 148 = .ok (.iastore, 1) := by decide +kernel
theorem dX12_passAll_149 : decode cX12_passAll 149 = .ok (.aload_n 0, 1) := by decide +kernel
theorem dX12_passAll_150 : decode cX12_passAll 150 = .ok (.getfield 13, 3) := by decide +kernel
theorem dX12_passAll_153 : decode cX12_passAll 153 = .ok (.iload_n 1, 1) := by decide +kernel
theorem dX12_passAll_154 : decode cX12_passAll 154 = .ok (.aload_n 0, 1) := by decide +kernel
theorem dX12_passAll_155 : decode cX12_passAll 155 = .ok (.aload_n 0, 1) := by decide +kernel
theorem dX12_passAll_156 : decode cX12_passAll 156 = .ok (.getfield 13, 3) := by decide +kernel
theorem dX12_passAll_159 : decode cX12_passAll 159 = .ok (.iload_n 1, 1) := by decide +kernel
theorem dX12_passAll_160 : decode cX12_passAll 160 = .ok (.iaload, 1) := by decide +kernel
theorem dX12_passAll_161 : decode cX12_passAll 161 = .ok (.invokevirtual 309, 3) := by decide +kernel
theorem dX12_passAll_164 : decode cX12_passAll 164 = .ok (.iastore, 1) := by decide +kernel
theorem dX12_passAll_165 : decode cX12_passAll 165 = .ok (.aload_n 0, 1) := by decide +kernel
theorem dX12_passAll_166 : decode cX12_passAll 166 = .ok (.getfield 34, 3) := by decide +kernel
theorem dX12_passAll_169 : decode cX12_passAll 169 = .ok (.iload_n 1, 1) := by decide +kernel
theorem dX12_passAll_170 : decode cX12_passAll 170 = .ok (.aload_n 0, 1) := by decide +kernel
theorem dX12_passAll_171 : decode cX12_passAll 171 = .ok (.aload_n 0, 1) := by decide +kernel
theorem dX12_passAll_172 : decode cX12_passAll 172 = .ok (.getfield 34, 3) := by decide +kernel
theorem dX12_passAll_175 : decode cX12_passAll 175 = .ok (.iload_n 1, 1) := by decide +kernel
theorem dX12_passAll_176 : decode cX12_passAll 176 = .ok (.iaload, 1) := by decide +kernel
theorem dX12_passAll_177 : decode cX12_passAll 177 = .ok (.invokevirtual 309, 3) := by decide +kernel
theorem dX12_passAll_180 : decode cX12_passAll 180 = .ok (.iastore, 1) := by decide +kernel
theorem dX12_passAll_181 : decode cX12_passAll 181 = .ok (.aload_n 0, 1) := by decide +kernel
theorem dX12_passAll_182 : decode cX12_passAll 182 = .ok (.getfield 37, 3) := by decide +kernel
theorem dX12_passAll_185 : decode cX12_passAll 185 = .ok (.iload_n 1, 1) := by decide +kernel
theorem dX12_passAll_186 : decode cX12_passAll 186 = .ok (.aload_n 0, 1) := by decide +kernel
theorem dX12_passAll_187 : decode cX12_passAll 187 = .ok (.aload_n 0, 1) := by decide +kernel
theorem dX12_passAll_188 : decode cX12_passAll 188 = .ok (.getfield 37, 3) := by decide +kernel
theorem dX12_passAll_191 : decode cX12_passAll 191 = .ok (.iload_n 1, 1) := by decide +kernel
theorem dX12_passAll_192 : decode cX12_passAll 192 = .ok (.iaload, 1) := by decide +kernel
theorem dX12_passAll_193 : decode cX12_passAll 193 = .ok (.invokevirtual 309, 3) := by decide +kernel
theorem dX12_passAll_196 : decode cX12_passAll 196 = .ok (.iastore, 1) := by decide +kernel
theorem dX12_passAll_197 : decode cX12_passAll 197 = .ok (.aload_n 0, 1) := by decide +kernel
theorem dX12_passAll_198 : decode cX12_passAll 198 = .ok (.getfield 40, 3) := by decide +kernel
theorem dX12_passAll_201 : decode cX12_passAll 201 = .ok (.iload_n 1, 1) := by decide +kernel
theorem dX12_passAll_202 : decode cX12_passAll 202 = .ok (.aload_n 0, 1) := by decide +kernel
theorem dX12_passAll_203 : decode cX12_passAll 203 = .ok (.aload_n 0, 1) := by decide +kernel
theorem dX12_passAll_204 : decode cX12_passAll 204 = .ok (.getfield 40, 3) := by decide +kernel
theorem dX12_passAll_207 : decode cX12_passAll 207 = .ok (.iload_n 1, 1) := by decide +kernel
theorem dX12_passAll_208 : decode cX12_passAll 208 = .ok (.iaload, 1) := by decide +kernel
theorem dX12_passAll_209 : decode cX12_passAll 209 = .ok (.invokevirtual 309, 3) := by decide +kernel
theorem dX12_passAll_212 : decode cX12_passAll 212 = .ok (.iastore, 1) := by decide +kernel
theorem dX12_passAll_213 : decode cX12_passAll 213 = .ok (.iinc 1 1, 3) := by decide +kernel
theorem dX12_passAll_216 : decode cX12_passAll 216 = .ok (.goto (-89), 3) := by decide +kernel
theorem dX12_passAll_219 : decode cX12_passAll 219 = .ok (.iconst 0, 1) := by decide +kernel
theorem dX12_passAll_220 : decode cX12_passAll 220 = .ok (.istore_n 1, 1) := by decide +kernel
theorem dX12_passAll_221 : decode cX12_passAll 221 = .ok (.iload_n 1, 1) := by decide +kernel
theorem dX12_passAll_222 : decode cX12_passAll 222 = .ok (.bipush 8, 2) := by decide +kernel
theorem dX12_passAll_224 : decode cX12_passAll 224 = .ok (.if_icmp .ge 73, 3) := by decide +kernel
theorem dX12_passAll_227 : decode cX12_passAll 227 = .ok (.aload_n 0, 1) := by decide +kernel
theorem dX12_passAll_228 : decode cX12_passAll 228 = .ok (.getfield 16, 3) := by decide +kernel
theorem dX12_passAll_231 : decode cX12_passAll 231 = .ok (.iload_n 1, 1) := by decide +kernel
theorem dX12_passAll_232 : decode cX12_passAll 232 = .ok (.aload_n 0, 1) := by decide +kernel
theorem dX12_passAll_233 : decode cX12_passAll 233 = .ok (.aload_n 0, 1) := by decide +kernel
theorem dX12_passAll_234 : decode cX12_passAll 234 = .ok (.getfield 16, 3) := by decide +kernel
theorem dX12_passAll_237 : decode cX12_passAll 237 = .ok (.iload_n 1, 1) := by decide +kernel
theorem dX12_passAll_238 : decode cX12_passAll 238 = .ok (.iaload, 1) := by decide +kernel
theorem dX12_passAll_239 : decode cX12_passAll 239 = .ok (.invokevirtual 309, 3) := by decide +kernel
theorem dX12_passAll_242 : decode cX12_passAll 242 = .ok (.iastore, 1) := by decide +kernel
theorem dX12_passAll_243 : decode cX12_passAll 243 = .ok (.aload_n 0, 1) := by decide +kernel
theorem dX12_passAll_244 : decode cX12_passAll 244 = .ok (.getfield 19, 3) := by decide +kernel
theorem dX12_passAll_247 : decode cX12_passAll 247 = .ok (.iload_n 1, 1) := by decide +kernel
theorem dX12_passAll_248 : decode cX12_passAll 248 = .ok (.aload_n 0, 1) := by decide +kernel
theorem dX12_passAll_249 : decode cX12_passAll 249 = .ok (.aload_n 0, 1) := by decide +kernel
theorem dX12_passAll_250 : decode cX12_passAll 250 = .ok (.getfield 19, 3) := by decide +kernel
theorem dX12_passAll_253 : decode cX12_passAll 253 = .ok (.iload_n 1, 1) := by decide +kernel
theorem dX12_passAll_254 : decode cX12_passAll 254 = .ok (.iaload, 1) := by decide +kernel
theorem dX12_passAll_255 : decode cX12_passAll 255 = .ok (.invokevirtual 309, 3) := by decide +kernel
theorem dX12_passAll_258 : decode cX12_passAll 258 = .ok (.iastore, 1) := by decide +kernel
theorem dX12_passAll_259 : decode cX12_passAll 259 = .ok (.aload_n 0, 1) := by decide +kernel
theorem dX12_passAll_260 : decode cX12_passAll 260 = .ok (.getfield 22, 3) := by decide +kernel
theorem dX12_passAll_263 : decode cX12_passAll 263 = .ok (.iload_n 1, 1) := by decide +kernel
theorem dX12_passAll_264 : decode cX12_passAll 264 = .ok (.aload_n 0, 1) := by decide +kernel
theorem dX12_passAll_265 : decode cX12_passAll 265 = .ok (.aload_n 0, 1) := by decide +kernel
theorem dX12_passAll_266 : decode cX12_passAll 266 = .ok (.getfield 22, 3) := by decide +kernel
theorem dX12_passAll_269 : decode cX12_passAll 269 = .ok (.iload_n 1, 1) := by decide +kernel
theorem dX12_passAll_270 : decode cX12_passAll 270 = .ok (.iaload, 1) := by decide +kernel
theorem dX12_passAll_271 : decode cX12_passAll 271 = .ok (.invokevirtual 309, 3) := by decide +kernel
theorem dX12_passAll_274 : decode cX12_passAll 274 = .ok (.iastore, 1) := by decide +kernel
theorem dX12_passAll_275 : decode cX12_passAll 275 = .ok (.aload_n 0, 1) := by decide +kernel
theorem dX12_passAll_276 : decode cX12_passAll 276 = .ok (.getfield 25, 3) := by decide +kernel
theorem dX12_passAll_279 : decode cX12_passAll 279 = .ok (.iload_n 1, 1) := by decide +kernel
theorem dX12_passAll_280 : decode cX12_passAll 280 = .ok (.aload_n 0, 1) := by decide +kernel
theorem dX12_passAll_281 : decode cX12_passAll 281 = .ok (.aload_n 0, 1) := by decide +kernel
theorem dX12_passAll_282 : decode cX12_passAll 282 = .ok (.getfield 25, 3) := by decide +kernel
theorem dX12_passAll_285 : decode cX12_passAll 285 = .ok (.iload_n 1, 1) := by decide +kernel
theorem dX12_passAll_286 : decode cX12_passAll 286 = .ok (.iaload, 1) := by decide +kernel
theorem dX12_passAll_287 : decode cX12_passAll 287 = .ok (.invokevirtual 309, 3) := by decide +kernel
theorem dX12_passAll_290 : decode cX12_passAll 290 = .ok (.iastore, 1) := by decide +kernel
theorem dX12_passAll_291 : decode cX12_passAll 291 = .ok (.iinc 1 1, 3) := by decide +kernel
theorem dX12_passAll_294 : decode cX12_passAll 294 = .ok (.goto (-73), 3) := by decide +kernel
theorem dX12_passAll_297 : decode cX12_passAll 297 = .ok (.iconst 0, 1) := by decide +kernel
theorem dX12_passAll_298 : decode cX12_passAll 298 = .ok (.istore_n 1, 1) := by decide +kernel
theorem dX12_passAll_299 : decode cX12_passAll 299 = .ok (.iload_n 1, 1) := by decide +kernel
theorem dX12_passAll_300 : decode cX12_passAll 300 = .ok (.bipush 30, 2) := by decide +kernel
theorem dX12_passAll_302 : decode cX12_passAll 302 = .ok (.if_icmp .ge 25, 3) := by decide +kernel
theorem dX12_passAll_305 : decode cX12_passAll 305 = .ok (.aload_n 0, 1) := by decide +kernel
theorem dX12_passAll_306 : decode cX12_passAll 306 = .ok (.getfield 28, 3) := by decide +kernel
theorem dX12_passAll_309 : decode cX12_passAll 309 = .ok (.iload_n 1, 1) := by decide +kernel
theorem dX12_passAll_310 : decode cX12_passAll 310 = .ok (.aload_n 0, 1) := by decide +kernel
theorem dX12_passAll_311 : decode cX12_passAll 311 = .ok (.aload_n 0, 1) := by decide +kernel
theorem dX12_passAll_312 : decode cX12_passAll 312 = .ok (.getfield 28, 3) := by decide +kernel
theorem dX12_passAll_315 : decode cX12_passAll 315 = .ok (.iload_n 1, 1) := by decide +kernel
theorem dX12_passAll_316 : decode cX12_passAll 316 = .ok (.iaload, 1) := by decide +kernel
theorem dX12_passAll_317 : decode cX12_passAll 317 = .ok (.invokevirtual 309, 3) := by decide +kernel
theorem dX12_passAll_320 : decode cX12_passAll 320 = .ok (.iastore, 1) := by decide +kernel
theorem dX12_passAll_321 : decode cX12_passAll 321 = .ok (.iinc 1 1, 3) := by decide +kernel
theorem dX12_passAll_324 : decode cX12_passAll 324 = .ok (.goto (-25), 3) := by decide +kernel
theorem dX12_passAll_327 : decode cX12_passAll 327 = .ok (.return_, 1) := by decide +kernel
theorem dX12_image_0 : decode cX12_image 0 = .ok (.iload_n 1, 1) := by decide +kernel
theorem dX12_image_1 : decode cX12_image 1 = .ok (.i2l, 1) := by decide +kernel
theorem dX12_image_2 : decode cX12_image 2 = .ok (.lconst 0, 1) := by decide +kernel
theorem dX12_image_3 : decode cX12_image 3 = .ok (.lconst 1, 1) := by decide +kernel
theorem dX12_image_4 : decode cX12_image 4 = .ok (.invokestatic 97, 3) := by decide +kernel
theorem dX12_image_7 : decode cX12_image 7 = .ok (.ifCond .ne 6, 3) := by decide +kernel
theorem dX12_image_10 : decode cX12_image 10 = .ok (.bipush (-2), 2) := by decide +kernel
theorem dX12_image_12 : decode cX12_image 12 = .ok (.ireturn, 1) := by decide +kernel
theorem dX12_image_13 : decode cX12_image 13 = .ok (.aload_n 0, 1) := by decide +kernel
theorem dX12_image_14 : decode cX12_image 14 = .ok (.sipush 150, 3) := by decide +kernel
theorem dX12_image_17 : decode cX12_image 17 = .ok (.iload_n 1, 1) := by decide +kernel
theorem dX12_image_18 : decode cX12_image 18 = .ok (.imul, 1) := by decide +kernel
theorem dX12_image_19 : decode cX12_image 19 = .ok (.putfield 306, 3) := by decide +kernel
theorem dX12_image_22 : decode cX12_image 22 = .ok (.aload_n 0, 1) := by decide +kernel
theorem dX12_image_23 : decode cX12_image 23 = .ok (.iconst 1, 1) := by decide +kernel
theorem dX12_image_24 : decode cX12_image 24 = .ok (.putfield 302, 3) := by decide +kernel
theorem dX12_image_27 : decode cX12_image 27 = .ok (.aload_n 0, 1) := by decide +kernel
theorem dX12_image_28 : decode cX12_image 28 = .ok (.invokevirtual 312, 3) := by decide +kernel
theorem dX12_image_31 : decode cX12_image 31 = .ok (.aload_n 0, 1) := by decide +kernel
theorem dX12_image_32 : decode cX12_image 32 = .ok (.getfield 67, 3) := by decide +kernel
theorem dX12_image_35 : decode cX12_image 35 = .ok (.iload_n 1, 1) := by decide +kernel
theorem dX12_image_36 : decode cX12_image 36 = .ok (.iconst 1, 1) := by decide +kernel
theorem dX12_image_37 : decode cX12_image 37 = .ok (.bastore, 1) := by decide +kernel
theorem dX12_image_38 : decode cX12_image 38 = .ok (.iconst 1, 1) := by decide +kernel
theorem dX12_image_39 : decode cX12_image 39 = .ok (.ireturn, 1) := by decide +kernel
theorem dX12_restore_0 : decode cX12_restore 0 = .ok (.iload_n 1, 1) := by decide +kernel
theorem dX12_restore_1 : decode cX12_restore 1 = .ok (.i2l, 1) := by decide +kernel
theorem dX12_restore_2 : decode cX12_restore 2 = .ok (.lconst 0, 1) := by decide +kernel
theorem dX12_restore_3 : decode cX12_restore 3 = .ok (.lconst 1, 1) := by decide +kernel
theorem dX12_restore_4 : decode cX12_restore 4 = .ok (.invokestatic 97, 3) := by decide +kernel
theorem dX12_restore_7 : decode cX12_restore 7 = .ok (.ifCond .ne 6, 3) := by decide +kernel
theorem dX12_restore_10 : decode cX12_restore 10 = .ok (.bipush (-2), 2) := by decide +kernel
theorem dX12_restore_12 : decode cX12_restore 12 = .ok (.ireturn, 1) := by decide +kernel
theorem dX12_restore_13 : decode cX12_restore 13 = .ok (.aload_n 0, 1) := by decide +kernel
theorem dX12_restore_14 : decode cX12_restore 14 = .ok (.getfield 67, 3) := by decide +kernel
theorem dX12_restore_17 : decode cX12_restore 17 = .ok (.iload_n 1, 1) := by decide +kernel
theorem dX12_restore_18 : decode cX12_restore 18 = .ok (.baload, 1) := by decide +kernel
theorem dX12_restore_19 : decode cX12_restore 19 = .ok (.ifCond .ne 6, 3) := by decide +kernel
theorem dX12_restore_22 : decode cX12_restore 22 = .ok (.bipush (-3), 2) := by decide +kernel
theorem dX12_restore_24 : decode cX12_restore 24 = .ok (.ireturn, 1) := by decide +kernel
theorem dX12_restore_25 : decode cX12_restore 25 = .ok (.aload_n 0, 1) := by decide +kernel
theorem dX12_restore_26 : decode cX12_restore 26 = .ok (.sipush 150, 3) := by decide +kernel
theorem dX12_restore_29 : decode cX12_restore 29 = .ok (.iload_n 1, 1) := by decide +kernel
theorem dX12_restore_30 : decode cX12_restore 30 = .ok (.imul, 1) := by decide +kernel
theorem dX12_restore_31 : decode cX12_restore 31 = .ok (.putfield 306, 3) := by decide +kernel
theorem dX12_restore_34 : decode cX12_restore 34 = .ok (.aload_n 0, 1) := by decide +kernel
theorem dX12_restore_35 : decode cX12_restore 35 = .ok (.iconst 0, 1) := by decide +kernel
theorem dX12_restore_36 : decode cX12_restore 36 = .ok (.putfield 302, 3) := by decide +kernel
theorem dX12_restore_39 : decode cX12_restore 39 = .ok (.aload_n 0, 1) := by decide +kernel
theorem dX12_restore_40 : decode cX12_restore 40 = .ok (.invokevirtual 312, 3) := by decide +kernel
theorem dX12_restore_43 : decode cX12_restore 43 = .ok (.iconst 1, 1) := by decide +kernel
theorem dX12_restore_44 : decode cX12_restore 44 = .ok (.ireturn, 1) := by decide +kernel
theorem dX12_toldOfBarrel_0 : decode cX12_toldOfBarrel 0 = .ok (.aload_n 0, 1) := by decide +kernel
theorem dX12_toldOfBarrel_1 : decode cX12_toldOfBarrel 1 = .ok (.iload_n 1, 1) := by decide +kernel
theorem dX12_toldOfBarrel_2 : decode cX12_toldOfBarrel 2 = .ok (.invokevirtual 107, 3) := by decide +kernel
theorem dX12_toldOfBarrel_5 : decode cX12_toldOfBarrel 5 = .ok (.ifCond .ne 6, 3) := by decide +kernel
theorem dX12_toldOfBarrel_8 : decode cX12_toldOfBarrel 8 = .ok (.bipush (-2), 2) := by decide +kernel
theorem dX12_toldOfBarrel_10 : decode cX12_toldOfBarrel 10 = .ok (.ireturn, 1) := by decide +kernel
theorem dX12_toldOfBarrel_11 : decode cX12_toldOfBarrel 11 = .ok (.iload_n 2, 1) := by decide +kernel
theorem dX12_toldOfBarrel_12 : decode cX12_toldOfBarrel 12 = .ok (.ifCond .ne 12, 3) := by decide +kernel
theorem dX12_toldOfBarrel_15 : decode cX12_toldOfBarrel 15 = .ok (.aload_n 0, 1) := by decide +kernel
theorem dX12_toldOfBarrel_16 : decode cX12_toldOfBarrel 16 = .ok (.getfield 16, 3) := by decide +kernel
theorem dX12_toldOfBarrel_19 : decode cX12_toldOfBarrel 19 = .ok (.iload_n 1, 1) := by decide +kernel
theorem dX12_toldOfBarrel_20 : decode cX12_toldOfBarrel 20 = .ok (.iaload, 1) := by decide +kernel
theorem dX12_toldOfBarrel_21 : decode cX12_toldOfBarrel 21 = .ok (.goto 47, 3) := by decide +kernel
theorem dX12_toldOfBarrel_24 : decode cX12_toldOfBarrel 24 = .ok (.iload_n 2, 1) := by decide +kernel
theorem dX12_toldOfBarrel_25 : decode cX12_toldOfBarrel 25 = .ok (.iconst 1, 1) := by decide +kernel
theorem dX12_toldOfBarrel_26 : decode cX12_toldOfBarrel 26 = .ok (.if_icmp .ne 12, 3) := by decide +kernel
theorem dX12_toldOfBarrel_29 : decode cX12_toldOfBarrel 29 = .ok (.aload_n 0, 1) := by decide +kernel
theorem dX12_toldOfBarrel_30 : decode cX12_toldOfBarrel 30 = .ok (.getfield 19, 3) := by decide +kernel
theorem dX12_toldOfBarrel_33 : decode cX12_toldOfBarrel 33 = .ok (.iload_n 1, 1) := by decide +kernel
theorem dX12_toldOfBarrel_34 : decode cX12_toldOfBarrel 34 = .ok (.iaload, 1) := by decide +kernel
theorem dX12_toldOfBarrel_35 : decode cX12_toldOfBarrel 35 = .ok (.goto 33, 3) := by decide +kernel
theorem dX12_toldOfBarrel_38 : decode cX12_toldOfBarrel 38 = .ok (.iload_n 2, 1) := by decide +kernel
theorem dX12_toldOfBarrel_39 : decode cX12_toldOfBarrel 39 = .ok (.iconst 2, 1) := by decide +kernel
theorem dX12_toldOfBarrel_40 : decode cX12_toldOfBarrel 40 = .ok (.if_icmp .ne 12, 3) := by decide +kernel
theorem dX12_toldOfBarrel_43 : decode cX12_toldOfBarrel 43 = .ok (.aload_n 0, 1) := by decide +kernel
theorem dX12_toldOfBarrel_44 : decode cX12_toldOfBarrel 44 = .ok (.getfield 22, 3) := by decide +kernel
theorem dX12_toldOfBarrel_47 : decode cX12_toldOfBarrel 47 = .ok (.iload_n 1, 1) := by decide +kernel
theorem dX12_toldOfBarrel_48 : decode cX12_toldOfBarrel 48 = .ok (.iaload, 1) := by decide +kernel
theorem dX12_toldOfBarrel_49 : decode cX12_toldOfBarrel 49 = .ok (.goto 19, 3) := by decide +kernel
theorem dX12_toldOfBarrel_52 : decode cX12_toldOfBarrel 52 = .ok (.iload_n 2, 1) := by decide +kernel
theorem dX12_toldOfBarrel_53 : decode cX12_toldOfBarrel 53 = .ok (.iconst 3, 1) := by decide +kernel
theorem dX12_toldOfBarrel_54 : decode cX12_toldOfBarrel 54 = .ok (.if_icmp .ne 12, 3) := by decide +kernel
theorem dX12_toldOfBarrel_57 : decode cX12_toldOfBarrel 57 = .ok (.aload_n 0, 1) := by decide +kernel
theorem dX12_toldOfBarrel_58 : decode cX12_toldOfBarrel 58 = .ok (.getfield 25, 3) := by decide +kernel
theorem dX12_toldOfBarrel_61 : decode cX12_toldOfBarrel 61 = .ok (.iload_n 1, 1) := by decide +kernel
theorem dX12_toldOfBarrel_62 : decode cX12_toldOfBarrel 62 = .ok (.iaload, 1) := by decide +kernel
theorem dX12_toldOfBarrel_63 : decode cX12_toldOfBarrel 63 = .ok (.goto 5, 3) := by decide +kernel
theorem dX12_toldOfBarrel_66 : decode cX12_toldOfBarrel 66 = .ok (.bipush (-2), 2) := by decide +kernel
theorem dX12_toldOfBarrel_68 : decode cX12_toldOfBarrel 68 = .ok (.ireturn, 1) := by decide +kernel
theorem dX12_toldOfCellar_0 : decode cX12_toldOfCellar 0 = .ok (.aload_n 0, 1) := by decide +kernel
theorem dX12_toldOfCellar_1 : decode cX12_toldOfCellar 1 = .ok (.iload_n 2, 1) := by decide +kernel
theorem dX12_toldOfCellar_2 : decode cX12_toldOfCellar 2 = .ok (.invokevirtual 112, 3) := by decide +kernel
theorem dX12_toldOfCellar_5 : decode cX12_toldOfCellar 5 = .ok (.ifCond .ne 6, 3) := by decide +kernel
theorem dX12_toldOfCellar_8 : decode cX12_toldOfCellar 8 = .ok (.bipush (-2), 2) := by decide +kernel
theorem dX12_toldOfCellar_10 : decode cX12_toldOfCellar 10 = .ok (.ireturn, 1) := by decide +kernel
theorem dX12_toldOfCellar_11 : decode cX12_toldOfCellar 11 = .ok (.iload_n 1, 1) := by decide +kernel
theorem dX12_toldOfCellar_12 : decode cX12_toldOfCellar 12 = .ok (.iconst 1, 1) := by decide +kernel
theorem dX12_toldOfCellar_13 : decode cX12_toldOfCellar 13 = .ok (.if_icmp .ne 12, 3) := by decide +kernel
theorem dX12_toldOfCellar_16 : decode cX12_toldOfCellar 16 = .ok (.aload_n 0, 1) := by decide +kernel
theorem dX12_toldOfCellar_17 : decode cX12_toldOfCellar 17 = .ok (.getfield 7, 3) := by decide +kernel
theorem dX12_toldOfCellar_20 : decode cX12_toldOfCellar 20 = .ok (.iload_n 2, 1) := by decide +kernel
theorem dX12_toldOfCellar_21 : decode cX12_toldOfCellar 21 = .ok (.iaload, 1) := by decide +kernel
theorem dX12_toldOfCellar_22 : decode cX12_toldOfCellar 22 = .ok (.goto 25, 3) := by decide +kernel
theorem dX12_toldOfCellar_25 : decode cX12_toldOfCellar 25 = .ok (.iload_n 1, 1) := by decide +kernel
theorem dX12_toldOfCellar_26 : decode cX12_toldOfCellar 26 = .ok (.iconst 2, 1) := by decide +kernel
theorem dX12_toldOfCellar_27 : decode cX12_toldOfCellar 27 = .ok (.if_icmp .ne 12, 3) := by decide +kernel
theorem dX12_toldOfCellar_30 : decode cX12_toldOfCellar 30 = .ok (.aload_n 0, 1) := by decide +kernel
theorem dX12_toldOfCellar_31 : decode cX12_toldOfCellar 31 = .ok (.getfield 13, 3) := by decide +kernel
theorem dX12_toldOfCellar_34 : decode cX12_toldOfCellar 34 = .ok (.iload_n 2, 1) := by decide +kernel
theorem dX12_toldOfCellar_35 : decode cX12_toldOfCellar 35 = .ok (.iaload, 1) := by decide +kernel
theorem dX12_toldOfCellar_36 : decode cX12_toldOfCellar 36 = .ok (.goto 11, 3) := by decide +kernel
theorem dX12_toldOfCellar_39 : decode cX12_toldOfCellar 39 = .ok (.aload_n 0, 1) := by decide +kernel
theorem dX12_toldOfCellar_40 : decode cX12_toldOfCellar 40 = .ok (.getfield 88, 3) := by decide +kernel
theorem dX12_toldOfCellar_43 : decode cX12_toldOfCellar 43 = .ok (.iload_n 2, 1) := by decide +kernel
theorem dX12_toldOfCellar_44 : decode cX12_toldOfCellar 44 = .ok (.ishr, 1) := by decide +kernel
theorem dX12_toldOfCellar_45 : decode cX12_toldOfCellar 45 = .ok (.iconst 1, 1) := by decide +kernel
theorem dX12_toldOfCellar_46 : decode cX12_toldOfCellar 46 = .ok (.iand, 1) := by decide +kernel
theorem dX12_toldOfCellar_47 : decode cX12_toldOfCellar 47 = .ok (.ireturn, 1) := by decide +kernel
theorem dX12_told_0 : decode cX12_told 0 = .ok (.iload_n 1, 1) := by decide +kernel
theorem dX12_told_1 : decode cX12_told 1 = .ok (.i2l, 1) := by decide +kernel
theorem dX12_told_2 : decode cX12_told 2 = .ok (.ldc2_w 315, 3) := by decide +kernel
theorem dX12_told_5 : decode cX12_told 5 = .ok (.ldc2_w 317, 3) := by decide +kernel
theorem dX12_told_8 : decode cX12_told 8 = .ok (.invokestatic 97, 3) := by decide +kernel
theorem dX12_told_11 : decode cX12_told 11 = .ok (.ifCond .eq 18, 3) := by decide +kernel
theorem dX12_told_14 : decode cX12_told 14 = .ok (.aload_n 0, 1) := by decide +kernel
theorem dX12_told_15 : decode cX12_told 15 = .ok (.iload_n 1, 1) := by decide +kernel
theorem dX12_told_16 : decode cX12_told 16 = .ok (.bipush 100, 2) := by decide +kernel
theorem dX12_told_18 : decode cX12_told 18 = .ok (.idiv, 1) := by decide +kernel
theorem dX12_told_19 : decode cX12_told 19 = .ok (.iconst 1, 1) := by decide +kernel
theorem dX12_told_20 : decode cX12_told 20 = .ok (.isub, 1) := by decide +kernel
theorem dX12_told_21 : decode cX12_told 21 = .ok (.iload_n 1, 1) := by decide +kernel
theorem dX12_told_22 : decode cX12_told 22 = .ok (.bipush 100, 2) := by decide +kernel
theorem dX12_told_24 : decode cX12_told 24 = .ok (.irem, 1) := by decide +kernel
theorem dX12_told_25 : decode cX12_told 25 = .ok (.invokevirtual 319, 3) := by decide +kernel
theorem dX12_told_28 : decode cX12_told 28 = .ok (.ireturn, 1) := by decide +kernel
theorem dX12_told_29 : decode cX12_told 29 = .ok (.iload_n 1, 1) := by decide +kernel
theorem dX12_told_30 : decode cX12_told 30 = .ok (.i2l, 1) := by decide +kernel
theorem dX12_told_31 : decode cX12_told 31 = .ok (.ldc2_w 261, 3) := by decide +kernel
theorem dX12_told_34 : decode cX12_told 34 = .ok (.ldc2_w 322, 3) := by decide +kernel
theorem dX12_told_37 : decode cX12_told 37 = .ok (.invokestatic 97, 3) := by decide +kernel
theorem dX12_told_40 : decode cX12_told 40 = .ok (.ifCond .eq 16, 3) := by decide +kernel
theorem dX12_told_43 : decode cX12_told 43 = .ok (.aload_n 0, 1) := by decide +kernel
theorem dX12_told_44 : decode cX12_told 44 = .ok (.iload_n 1, 1) := by decide +kernel
theorem dX12_told_45 : decode cX12_told 45 = .ok (.bipush 10, 2) := by decide +kernel
theorem dX12_told_47 : decode cX12_told 47 = .ok (.idiv, 1) := by decide +kernel
theorem dX12_told_48 : decode cX12_told 48 = .ok (.iload_n 1, 1) := by decide +kernel
theorem dX12_told_49 : decode cX12_told 49 = .ok (.bipush 10, 2) := by decide +kernel
theorem dX12_told_51 : decode cX12_told 51 = .ok (.irem, 1) := by decide +kernel
theorem dX12_told_52 : decode cX12_told 52 = .ok (.invokevirtual 324, 3) := by decide +kernel
theorem dX12_told_55 : decode cX12_told 55 = .ok (.ireturn, 1) := by decide +kernel
theorem dX12_told_56 : decode cX12_told 56 = .ok (.iload_n 1, 1) := by decide +kernel
theorem dX12_told_57 : decode cX12_told 57 = .ok (.i2l, 1) := by decide +kernel
theorem dX12_told_58 : decode cX12_told 58 = .ok (.ldc2_w 327, 3) := by decide +kernel
theorem dX12_told_61 : decode cX12_told 61 = .ok (.ldc2_w 329, 3) := by decide +kernel
theorem dX12_told_64 : decode cX12_told 64 = .ok (.invokestatic 97, 3) := by decide +kernel
theorem dX12_told_67 : decode cX12_told 67 = .ok (.ifCond .eq 13, 3) := by decide +kernel
theorem dX12_told_70 : decode cX12_told 70 = .ok (.aload_n 0, 1) := by decide +kernel
theorem dX12_told_71 : decode cX12_told 71 = .ok (.getfield 31, 3) := by decide +kernel
theorem dX12_told_74 : decode cX12_told 74 = .ok (.iload_n 1, 1) := by decide +kernel
theorem dX12_told_75 : decode cX12_told 75 = .ok (.bipush 40, 2) := by decide +kernel
theorem dX12_told_77 : decode cX12_told 77 = .ok (.isub, 1) := by decide +kernel
theorem dX12_told_78 : decode cX12_told 78 = .ok (.iaload, 1) := by decide +kernel
theorem dX12_told_79 : decode cX12_told 79 = .ok (.ireturn, 1) := by decide +kernel
theorem dX12_told_80 : decode cX12_told 80 = .ok (.iload_n 1, 1) := by decide +kernel
theorem dX12_told_81 : decode cX12_told 81 = .ok (.tableswitch 87 0 7 #[47, 52, 57, 62, 67, 72, 77, 82], 47) := by decide +kernel
theorem dX12_told_128 : decode cX12_told 128 = .ok (.aload_n 0, 1) := by decide +kernel
theorem dX12_told_129 : decode cX12_told 129 = .ok (.getfield 135, 3) := by decide +kernel
theorem dX12_told_132 : decode cX12_told 132 = .ok (.ireturn, 1) := by decide +kernel
theorem dX12_told_133 : decode cX12_told 133 = .ok (.aload_n 0, 1) := by decide +kernel
theorem dX12_told_134 : decode cX12_told 134 = .ok (.getfield 85, 3) := by decide +kernel
theorem dX12_told_137 : decode cX12_told 137 = .ok (.ireturn, 1) := by decide +kernel
theorem dX12_told_138 : decode cX12_told 138 = .ok (.aload_n 0, 1) := by decide +kernel
theorem dX12_told_139 : decode cX12_told 139 = .ok (.getfield 91, 3) := by decide +kernel
theorem dX12_told_142 : decode cX12_told 142 = .ok (.ireturn, 1) := by decide +kernel
theorem dX12_told_143 : decode cX12_told 143 = .ok (.aload_n 0, 1) := by decide +kernel
theorem dX12_told_144 : decode cX12_told 144 = .ok (.getfield 71, 3) := by decide +kernel
theorem dX12_told_147 : decode cX12_told 147 = .ok (.ireturn, 1) := by decide +kernel
theorem dX12_told_148 : decode cX12_told 148 = .ok (.aload_n 0, 1) := by decide +kernel
theorem dX12_told_149 : decode cX12_told 149 = .ok (.getfield 75, 3) := by decide +kernel
theorem dX12_told_152 : decode cX12_told 152 = .ok (.ireturn, 1) := by decide +kernel
theorem dX12_told_153 : decode cX12_told 153 = .ok (.aload_n 0, 1) := by decide +kernel
theorem dX12_told_154 : decode cX12_told 154 = .ok (.getfield 128, 3) := by decide +kernel
theorem dX12_told_157 : decode cX12_told 157 = .ok (.ireturn, 1) := by decide +kernel
theorem dX12_told_158 : decode cX12_told 158 = .ok (.aload_n 0, 1) := by decide +kernel
theorem dX12_told_159 : decode cX12_told 159 = .ok (.getfield 78, 3) := by decide +kernel
theorem dX12_told_162 : decode cX12_told 162 = .ok (.ireturn, 1) := by decide +kernel
theorem dX12_told_163 : decode cX12_told 163 = .ok (.aload_n 0, 1) := by decide +kernel
theorem dX12_told_164 : decode cX12_told 164 = .ok (.getfield 94, 3) := by decide +kernel
theorem dX12_told_167 : decode cX12_told 167 = .ok (.ireturn, 1) := by decide +kernel
theorem dX12_told_168 : decode cX12_told 168 = .ok (.bipush (-2), 2) := by decide +kernel
theorem dX12_told_170 : decode cX12_told 170 = .ok (.ireturn, 1) := by decide +kernel
