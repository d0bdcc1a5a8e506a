theorem dX6_init_0 : decode cX6_init 0 = .ok (.aload_n 0, 1) := by decide +kernel
theorem dX6_init_1 : decode cX6_init 1 = .ok (.invokespecial 1, 3) := by decide +kernel
theorem dX6_init_4 : decode cX6_init 4 = .ok (.aload_n 0, 1) := by decide +kernel
theorem dX6_init_5 : decode cX6_init 5 = .ok (.bipush 8, 2) := by decide +kernel
theorem dX6_init_7 : decode cX6_init 7 = .ok (.newarray .int, 2) := by decide +kernel
theorem dX6_init_9 : decode cX6_init 9 = .ok (.putfield 7, 3) := by decide +kernel
theorem dX6_init_12 : decode cX6_init 12 = .ok (.aload_n 0, 1) := by decide +kernel
theorem dX6_init_13 : decode cX6_init 13 = .ok (.bipush 60, 2) := by decide +kernel
theorem dX6_init_15 : decode cX6_init 15 = .ok (.newarray .char, 2) := by decide +kernel
theorem dX6_init_17 : decode cX6_init 17 = .ok (.putfield 13, 3) := by decide +kernel
theorem dX6_init_20 : decode cX6_init 20 = .ok (.aload_n 0, 1) := by decide +kernel
theorem dX6_init_21 : decode cX6_init 21 = .ok (.bipush 60, 2) := by decide +kernel
theorem dX6_init_23 : decode cX6_init 23 = .ok (.newarray .boolean, 2) := by decide +kernel
theorem dX6_init_25 : decode cX6_init 25 = .ok (.putfield 17, 3) := by decide +kernel
theorem dX6_init_28 : decode cX6_init 28 = .ok (.aload_n 0, 1) := by decide +kernel
theorem dX6_init_29 : decode cX6_init 29 = .ok (.bipush 60, 2) := by decide +kernel
theorem dX6_init_31 : decode cX6_init 31 = .ok (.newarray .int, 2) := by decide +kernel
theorem dX6_init_33 : decode cX6_init 33 = .ok (.putfield 21, 3) := by decide +kernel
theorem dX6_init_36 : decode cX6_init 36 = .ok (.aload_n 0, 1) := by decide +kernel
theorem dX6_init_37 : decode cX6_init 37 = .ok (.bipush 60, 2) := by decide +kernel
theorem dX6_init_39 : decode cX6_init 39 = .ok (.newarray .int, 2) := by decide +kernel
theorem dX6_init_41 : decode cX6_init 41 = .ok (.putfield 24, 3) := by decide +kernel
theorem dX6_init_44 : decode cX6_init 44 = .ok (.aload_n 0, 1) := by decide +kernel
theorem dX6_init_45 : decode cX6_init 45 = .ok (.bipush 60, 2) := by decide +kernel
theorem dX6_init_47 : decode cX6_init 47 = .ok (.newarray .boolean, 2) := by decide +kernel
theorem dX6_init_49 : decode cX6_init 49 = .ok (.putfield 27, 3) := by decide +kernel
theorem dX6_init_52 : decode cX6_init 52 = .ok (.aload_n 0, 1) := by decide +kernel
theorem dX6_init_53 : decode cX6_init 53 = .ok (.bipush 32, 2) := by decide +kernel
theorem dX6_init_55 : decode cX6_init 55 = .ok (.newarray .int, 2) := by decide +kernel
theorem dX6_init_57 : decode cX6_init 57 = .ok (.putfield 30, 3) := by decide +kernel
theorem dX6_init_60 : decode cX6_init 60 = .ok (.aload_n 0, 1) := by decide +kernel
theorem dX6_init_61 : decode cX6_init 61 = .ok (.bipush 32, 2) := by decide +kernel
theorem dX6_init_63 : decode cX6_init 63 = .ok (.newarray .int, 2) := by decide +kernel
theorem dX6_init_65 : decode cX6_init 65 = .ok (.putfield 33, 3) := by decide +kernel
theorem dX6_init_68 : decode cX6_init 68 = .ok (.aload_n 0, 1) := by decide +kernel
theorem dX6_init_69 : decode cX6_init 69 = .ok (.bipush 32, 2) := by decide +kernel
theorem dX6_init_71 : decode cX6_init 71 = .ok (.newarray .int, 2) := by decide +kernel
theorem dX6_init_73 : decode cX6_init 73 = .ok (.putfield 36, 3) := by decide +kernel
theorem dX6_init_76 : decode cX6_init 76 = .ok (.aload_n 0, 1) := by decide +kernel
theorem dX6_init_77 : decode cX6_init 77 = .ok (.bipush 48, 2) := by decide +kernel
theorem dX6_init_79 : decode cX6_init 79 = .ok (.newarray .int, 2) := by decide +kernel
theorem dX6_init_81 : decode cX6_init 81 = .ok (.putfield 39, 3) := by decide +kernel
theorem dX6_init_84 : decode cX6_init 84 = .ok (.aload_n 0, 1) := by decide +kernel
theorem dX6_init_85 : decode cX6_init 85 = .ok (.bipush 48, 2) := by decide +kernel
theorem dX6_init_87 : decode cX6_init 87 = .ok (.newarray .int, 2) := by decide +kernel
theorem dX6_init_89 : decode cX6_init 89 = .ok (.putfield 42, 3) := by decide +kernel
theorem dX6_init_92 : decode cX6_init 92 = .ok (.aload_n 0, 1) := by decide +kernel
theorem dX6_init_93 : decode cX6_init 93 = .ok (.bipush 48, 2) := by decide +kernel
theorem dX6_init_95 : decode cX6_init 95 = .ok (.newarray .int, 2) := by decide +kernel
theorem dX6_init_97 : decode cX6_init 97 = .ok (.putfield 45, 3) := by decide +kernel
theorem dX6_init_100 : decode cX6_init 100 = .ok (.aload_n 0, 1) := by decide +kernel
theorem dX6_init_101 : decode cX6_init 101 = .ok (.bipush 48, 2) := by decide +kernel
theorem dX6_init_103 : decode cX6_init 103 = .ok (.newarray .int, 2) := by decide +kernel
theorem dX6_init_105 : decode cX6_init 105 = .ok (.putfield 48, 3) := by decide +kernel
theorem dX6_init_108 : decode cX6_init 108 = .ok (.aload_n 0, 1) := by decide +kernel
theorem dX6_init_109 : decode cX6_init 109 = .ok (.bipush 48, 2) := by decide +kernel
theorem dX6_init_111 : decode cX6_init 111 = .ok (.newarray .int, 2) := by decide +kernel
theorem dX6_init_113 : decode cX6_init 113 = .ok (.putfield 51, 3) := by decide +kernel
theorem dX6_init_116 : decode cX6_init 116 = .ok (.aload_n 0, 1) := by decide +kernel
theorem dX6_init_117 : decode cX6_init 117 = .ok (.bipush 48, 2) := by decide +kernel
theorem dX6_init_119 : decode cX6_init 119 = .ok (.newarray .int, 2) := by decide +kernel
theorem dX6_init_121 : decode cX6_init 121 = .ok (.putfield 54, 3) := by decide +kernel
theorem dX6_init_124 : decode cX6_init 124 = .ok (.aload_n 0, 1) := by decide +kernel
theorem dX6_init_125 : decode cX6_init 125 = .ok (.bipush 48, 2) := by decide +kernel
theorem dX6_init_127 : decode cX6_init 127 = .ok (.newarray .int, 2) := by decide +kernel
theorem dX6_init_129 : decode cX6_init 129 = .ok (.putfield 57, 3) := by decide +kernel
theorem dX6_init_132 : decode cX6_init 132 = .ok (.aload_n 0, 1) := by decide +kernel
theorem dX6_init_133 : decode cX6_init 133 = .ok (.bipush 6, 2) := by decide +kernel
theorem dX6_init_135 : decode cX6_init 135 = .ok (.newarray .int, 2) := by decide +kernel
theorem dX6_init_137 : decode cX6_init 137 = .ok (.putfield 60, 3) := by decide +kernel
theorem dX6_init_140 : decode cX6_init 140 = .ok (.aload_n 0, 1) := by decide +kernel
theorem dX6_init_141 : decode cX6_init 141 = .ok (.bipush 6, 2) := by decide +kernel
theorem dX6_init_143 : decode cX6_init 143 = .ok (.newarray .int, 2) := by decide +kernel
theorem dX6_init_145 : decode cX6_init 145 = .ok (.putfield 63, 3) := by decide +kernel
theorem dX6_init_148 : decode cX6_init 148 = .ok (.aload_n 0, 1) := by decide +kernel
theorem dX6_init_149 : decode cX6_init 149 = .ok (.bipush 8, 2) := by decide +kernel
theorem dX6_init_151 : decode cX6_init 151 = .ok (.newarray .int, 2) := by decide +kernel
theorem dX6_init_153 : decode cX6_init 153 = .ok (.putfield 66, 3) := by decide +kernel
theorem dX6_init_156 : decode cX6_init 156 = .ok (.aload_n 0, 1) := by decide +kernel
theorem dX6_init_157 : decode cX6_init 157 = .ok (.bipush 8, 2) := by decide +kernel
theorem dX6_init_159 : decode cX6_init 159 = .ok (.newarray .int, 2) := by decide +kernel
theorem dX6_init_161 : decode cX6_init 161 = .ok (.putfield 69, 3) := by decide +kernel
theorem dX6_init_164 : decode cX6_init 164 = .ok (.aload_n 0, 1) := by decide +kernel
theorem dX6_init_165 : decode cX6_init 165 = .ok (.iconst (-1), 1) := by decide +kernel
theorem dX6_init_166 : decode cX6_init 166 = .ok (.putfield 72, 3) := by decide +kernel
theorem dX6_init_169 : decode cX6_init 169 = .ok (.aload_n 0, 1) := by decide +kernel
theorem dX6_init_170 : decode cX6_init 170 = .ok (.iconst (-1), 1) := by decide +kernel
theorem dX6_init_171 : decode cX6_init 171 = .ok (.putfield 76, 3) := by decide +kernel
theorem dX6_init_174 : decode cX6_init 174 = .ok (.aload_n 0, 1) := by decide +kernel
theorem dX6_init_175 : decode cX6_init 175 = .ok (.iconst 4, 1) := by decide +kernel
theorem dX6_init_176 : decode cX6_init 176 = .ok (.newarray .int, 2) := by decide +kernel
theorem dX6_init_178 : decode cX6_init 178 = .ok (.putfield 79, 3) := by decide +kernel
theorem dX6_init_181 : decode cX6_init 181 = .ok (.iconst 0, 1) := by decide +kernel
theorem dX6_init_182 : decode cX6_init 182 = .ok (.istore_n 1, 1) := by decide +kernel
theorem dX6_init_183 : decode cX6_init 183 = .ok (.iload_n 1, 1) := by decide +kernel
theorem dX6_init_184 : decode cX6_init 184 = .ok (.bipush 32, 2) := by decide +kernel
theorem dX6_init_186 : decode cX6_init 186 = .ok (.if_icmp .ge 16, 3) := by decide +kernel
theorem dX6_init_189 : decode cX6_init 189 = .ok (.aload_n 0, 1) := by decide +kernel
theorem dX6_init_190 : decode cX6_init 190 = .ok (.getfield 30, 3) := by decide +kernel
theorem dX6_init_193 : decode cX6_init 193 = .ok (.iload_n 1, 1) := by decide +kernel
theorem dX6_init_194 : decode cX6_init 194 = .ok (.iconst (-1), 1) := by decide +kernel
theorem dX6_init_195 : decode cX6_init 195 = .ok (.iastore, 1) := by decide +kernel
theorem dX6_init_196 : decode cX6_init 196 = .ok (.iinc 1 1, 3) := by decide +kernel
theorem dX6_init_199 : decode cX6_init 199 = .ok (.goto (-16), 3) := by decide +kernel
theorem dX6_init_202 : decode cX6_init 202 = .ok (.iconst 0, 1) := by decide +kernel
theorem dX6_init_203 : decode cX6_init 203 = .ok (.istore_n 1, 1) := by decide +kernel
theorem dX6_init_204 : decode cX6_init 204 = .ok (.iload_n 1, 1) := by decide +kernel
theorem dX6_init_205 : decode cX6_init 205 = .ok (.iconst 4, 1) := by decide +kernel
theorem dX6_init_206 : decode cX6_init 206 = .ok (.if_icmp .ge 16, 3) := by decide +kernel
theorem dX6_init_209 : decode cX6_init 209 = .ok (.aload_n 0, 1) := by decide +kernel
theorem dX6_init_210 : decode cX6_init 210 = .ok (.getfield 79, 3) := by decide +kernel
theorem dX6_init_213 : decode cX6_init 213 = .ok (.iload_n 1, 1) := by decide +kernel
theorem dX6_init_214 : decode cX6_init 214 = .ok (.iconst (-1), 1) := by decide +kernel
theorem dX6_init_215 : decode cX6_init 215 = .ok (.iastore, 1) := by decide +kernel
theorem dX6_init_216 : decode cX6_init 216 = .ok (.iinc 1 1, 3) := by decide +kernel
theorem dX6_init_219 : decode cX6_init 219 = .ok (.goto (-15), 3) := by decide +kernel
theorem dX6_init_222 : decode cX6_init 222 = .ok (.return_, 1) := by decide +kernel
theorem dX6_thrown_0 : decode cX6_thrown 0 = .ok (.aload_n 0, 1) := by decide +kernel
theorem dX6_thrown_1 : decode cX6_thrown 1 = .ok (.getfield 82, 3) := by decide +kernel
theorem dX6_thrown_4 : decode cX6_thrown 4 = .ok (.ireturn, 1) := by decide +kernel
theorem dX6_in_0 : decode cX6_in 0 = .ok (.lload_n 0, 1) := by decide +kernel
theorem dX6_in_1 : decode cX6_in 1 = .ok (.lload_n 2, 1) := by decide +kernel
theorem dX6_in_2 : decode cX6_in 2 = .ok (.lcmp, 1) := by decide +kernel
theorem dX6_in_3 : decode cX6_in 3 = .ok (.ifCond .lt 14, 3) := by decide +kernel
theorem dX6_in_6 : decode cX6_in 6 = .ok (.lload_n 0, 1) := by decide +kernel
theorem dX6_in_7 : decode cX6_in 7 = .ok (.lload 4, 2) := by decide +kernel
theorem dX6_in_9 : decode cX6_in 9 = .ok (.lcmp, 1) := by decide +kernel
theorem dX6_in_10 : decode cX6_in 10 = .ok (.ifCond .gt 7, 3) := by decide +kernel
theorem dX6_in_13 : decode cX6_in 13 = .ok (.iconst 1, 1) := by decide +kernel
theorem dX6_in_14 : decode cX6_in 14 = .ok (.goto 4, 3) := by decide +kernel
theorem dX6_in_17 : decode cX6_in 17 = .ok (.iconst 0, 1) := by decide +kernel
theorem dX6_in_18 : decode cX6_in 18 = .ok (.ireturn, 1) := by decide +kernel
set_option maxRecDepth 20000 in
theorem ggX6_isUnit_X6_in : GoodIn wsX6_isUnit wsX6_in := goodIn_r _ [5] (by decide +kernel) (by decide +kernel)
set_option maxRecDepth 20000 in
theorem gX6_isUnit_X6_in : GoodIn wsX6_isUnit (va_wsS RX6 87 yX6_in wsX6_in) := goodIn_app (goodIn_of _ (by decide +kernel)) ggX6_isUnit_X6_in
theorem dX6_isUnit_0 : decode cX6_isUnit 0 = .ok (.iload_n 0, 1) := by decide +kernel
theorem dX6_isUnit_1 : decode cX6_isUnit 1 = .ok (.i2l, 1) := by decide +kernel
theorem dX6_isUnit_2 : decode cX6_isUnit 2 = .ok (.lconst 0, 1) := by decide +kernel
theorem dX6_isUnit_3 : decode cX6_isUnit 3 = .ok (.ldc2_w 85, 3) := by decide +kernel
theorem dX6_isUnit_6 : decode cX6_isUnit 6 = .ok (.invokestatic 87, 3) := by decide +kernel
theorem dX6_isUnit_9 : decode cX6_isUnit 9 = .ok (.ireturn, 1) := by decide +kernel
set_option maxRecDepth 20000 in
theorem ggX6_state_X6_isUnit : GoodIn wsX6_state wsX6_isUnit := goodIn_r _ [6, 7, 8, 9, 5, 10] (by decide +kernel) (by decide +kernel)
set_option maxRecDepth 20000 in
theorem gX6_state_X6_isUnit : GoodIn wsX6_state (va_wsS RX6 91 yX6_isUnit wsX6_isUnit) := goodIn_app (goodIn_of _ (by decide +kernel)) ggX6_state_X6_isUnit
theorem dX6_state_0 : decode cX6_state 0 = .ok (.aload_n 0, 1) := by decide +kernel
theorem dX6_state_1 : decode cX6_state 1 = .ok (.iload_n 1, 1) := by decide +kernel
theorem dX6_state_2 : decode cX6_state 2 = .ok (.invokestatic 91, 3) := by decide +kernel
theorem dX6_state_5 : decode cX6_state 5 = .ok (.ifCond .eq 7, 3) := by decide +kernel
theorem dX6_state_8 : decode cX6_state 8 = .ok (.iconst 0, 1) := by decide +kernel
theorem dX6_state_9 : decode cX6_state 9 = .ok (.goto 4, 3) := by decide +kernel
theorem dX6_state_12 : decode cX6_state 12 = .ok (.iconst 1, 1) := by decide +kernel
theorem dX6_state_13 : decode cX6_state 13 = .ok (.putfield 82, 3) := by decide +kernel
theorem dX6_state_16 : decode cX6_state 16 = .ok (.aload_n 0, 1) := by decide +kernel
theorem dX6_state_17 : decode cX6_state 17 = .ok (.getfield 82, 3) := by decide +kernel
theorem dX6_state_20 : decode cX6_state 20 = .ok (.ifCond .ne 12, 3) := by decide +kernel
theorem dX6_state_23 : decode cX6_state 23 = .ok (.aload_n 0, 1) := by decide +kernel
theorem dX6_state_24 : decode cX6_state 24 = .ok (.getfield 7, 3) := by decide +kernel
theorem dX6_state_27 : decode cX6_state 27 = .ok (.iload_n 1, 1) := by decide +kernel
theorem dX6_state_28 : decode cX6_state 28 = .ok (.iaload, 1) := by decide +kernel
theorem dX6_state_29 : decode cX6_state 29 = .ok (.goto 4, 3) := by decide +kernel
theorem dX6_state_32 : decode cX6_state 32 = .ok (.iconst (-1), 1) := by decide +kernel
theorem dX6_state_33 : decode cX6_state 33 = .ok (.ireturn, 1) := by decide +kernel
theorem dX6_opens_0 : decode cX6_opens 0 = .ok (.aload_n 0, 1) := by decide +kernel
theorem dX6_opens_1 : decode cX6_opens 1 = .ok (.getfield 13, 3) := by decide +kernel
theorem dX6_opens_4 : decode cX6_opens 4 = .ok (.aload_n 0, 1) := by decide +kernel
theorem dX6_opens_5 : decode cX6_opens 5 = .ok (.getfield 95, 3) := by decide +kernel
theorem dX6_opens_8 : decode cX6_opens 8 = .ok (.iload_n 1, 1) := by decide +kernel
theorem dX6_opens_9 : decode cX6_opens 9 = .ok (.castore, 1) := by decide +kernel
theorem dX6_opens_10 : decode cX6_opens 10 = .ok (.aload_n 0, 1) := by decide +kernel
theorem dX6_opens_11 : decode cX6_opens 11 = .ok (.getfield 17, 3) := by decide +kernel
theorem dX6_opens_14 : decode cX6_opens 14 = .ok (.aload_n 0, 1) := by decide +kernel
theorem dX6_opens_15 : decode cX6_opens 15 = .ok (.getfield 95, 3) := by decide +kernel
theorem dX6_opens_18 : decode cX6_opens 18 = .ok (.iconst 1, 1) := by decide +kernel
theorem dX6_opens_19 : decode cX6_opens 19 = .ok (.bastore, 1) := by decide +kernel
theorem dX6_opens_20 : decode cX6_opens 20 = .ok (.aload_n 0, 1) := by decide +kernel
theorem dX6_opens_21 : decode cX6_opens 21 = .ok (.getfield 21, 3) := by decide +kernel
theorem dX6_opens_24 : decode cX6_opens 24 = .ok (.aload_n 0, 1) := by decide +kernel
theorem dX6_opens_25 : decode cX6_opens 25 = .ok (.getfield 95, 3) := by decide +kernel
theorem dX6_opens_28 : decode cX6_opens 28 = .ok (.aload_n 0, 1) := by decide +kernel
theorem dX6_opens_29 : decode cX6_opens 29 = .ok (.getfield 98, 3) := by decide +kernel
theorem dX6_opens_32 : decode cX6_opens 32 = .ok (.iastore, 1) := by decide +kernel
theorem dX6_opens_33 : decode cX6_opens 33 = .ok (.aload_n 0, 1) := by decide +kernel
theorem dX6_opens_34 : decode cX6_opens 34 = .ok (.getfield 24, 3) := by decide +kernel
theorem dX6_opens_37 : decode cX6_opens 37 = .ok (.aload_n 0, 1) := by decide +kernel
theorem dX6_opens_38 : decode cX6_opens 38 = .ok (.getfield 95, 3) := by decide +kernel
theorem dX6_opens_41 : decode cX6_opens 41 = .ok (.iconst 0, 1) := by decide +kernel
theorem dX6_opens_42 : decode cX6_opens 42 = .ok (.iastore, 1) := by decide +kernel
theorem dX6_opens_43 : decode cX6_opens 43 = .ok (.aload_n 0, 1) := by decide +kernel
theorem dX6_opens_44 : decode cX6_opens 44 = .ok (.getfield 27, 3) := by decide +kernel
theorem dX6_opens_47 : decode cX6_opens 47 = .ok (.aload_n 0, 1) := by decide +kernel
theorem dX6_opens_48 : decode cX6_opens 48 = .ok (.getfield 95, 3) := by decide +kernel
theorem dX6_opens_51 : decode cX6_opens 51 = .ok (.iconst 0, 1) := by decide +kernel
theorem dX6_opens_52 : decode cX6_opens 52 = .ok (.bastore, 1) := by decide +kernel
theorem dX6_opens_53 : decode cX6_opens 53 = .ok (.aload_n 0, 1) := by decide +kernel
theorem dX6_opens_54 : decode cX6_opens 54 = .ok (.dup, 1) := by decide +kernel
theorem dX6_opens_55 : decode cX6_opens 55 = .ok (.getfield 95, 3) := by decide +kernel
theorem dX6_opens_58 : decode cX6_opens 58 = .ok (.iconst 1, 1) := by decide +kernel
theorem dX6_opens_59 : decode cX6_opens 59 = .ok (.iadd, 1) := by decide +kernel
theorem dX6_opens_60 : decode cX6_opens 60 = .ok (.putfield 95, 3) := by decide +kernel
theorem dX6_opens_63 : decode cX6_opens 63 = .ok (.aload_n 0, 1) := by decide +kernel
theorem dX6_opens_64 : decode cX6_opens 64 = .ok (.getfield 95, 3) := by decide +kernel
theorem dX6_opens_67 : decode cX6_opens 67 = .ok (.iconst 1, 1) := by decide +kernel
theorem dX6_opens_68 : decode cX6_opens 68 = .ok (.isub, 1) := by decide +kernel
theorem dX6_opens_69 : decode cX6_opens 69 = .ok (.ireturn, 1) := by decide +kernel
set_option maxRecDepth 20000 in
theorem ggX6_isAlarm_X6_isUnit : GoodIn wsX6_isAlarm wsX6_isUnit := goodIn_r _ [5, 6, 7, 8, 4, 9] (by decide +kernel) (by decide +kernel)
set_option maxRecDepth 20000 in
theorem gX6_isAlarm_X6_isUnit : GoodIn wsX6_isAlarm (va_wsS RX6 91 yX6_isUnit wsX6_isUnit) := goodIn_app (goodIn_of _ (by decide +kernel)) ggX6_isAlarm_X6_isUnit
set_option maxRecDepth 20000 in
theorem ggX6_isAlarm_X6_in : GoodIn wsX6_isAlarm wsX6_in := goodIn_r _ [9] (by decide +kernel) (by decide +kernel)
set_option maxRecDepth 20000 in
theorem gX6_isAlarm_X6_in : GoodIn wsX6_isAlarm (va_wsS RX6 87 yX6_in wsX6_in) := goodIn_app (goodIn_of _ (by decide +kernel)) ggX6_isAlarm_X6_in
theorem dX6_isAlarm_0 : decode cX6_isAlarm 0 = .ok (.iload_n 1, 1) := by decide +kernel
theorem dX6_isAlarm_1 : decode cX6_isAlarm 1 = .ok (.invokestatic 91, 3) := by decide +kernel
theorem dX6_isAlarm_4 : decode cX6_isAlarm 4 = .ok (.ifCond .eq 19, 3) := by decide +kernel
theorem dX6_isAlarm_7 : decode cX6_isAlarm 7 = .ok (.iload_n 2, 1) := by decide +kernel
theorem dX6_isAlarm_8 : decode cX6_isAlarm 8 = .ok (.i2l, 1) := by decide +kernel
theorem dX6_isAlarm_9 : decode cX6_isAlarm 9 = .ok (.lconst 0, 1) := by decide +kernel
theorem dX6_isAlarm_10 : decode cX6_isAlarm 10 = .ok (.ldc2_w 101, 3) := by decide +kernel
theorem dX6_isAlarm_13 : decode cX6_isAlarm 13 = .ok (.invokestatic 87, 3) := by decide +kernel
theorem dX6_isAlarm_16 : decode cX6_isAlarm 16 = .ok (.ifCond .eq 7, 3) := by decide +kernel
theorem dX6_isAlarm_19 : decode cX6_isAlarm 19 = .ok (.iconst 1, 1) := by decide +kernel
theorem dX6_isAlarm_20 : decode cX6_isAlarm 20 = .ok (.goto 4, 3) := by decide +kernel
theorem dX6_isAlarm_23 : decode cX6_isAlarm 23 = .ok (.iconst 0, 1) := by decide +kernel
theorem dX6_isAlarm_24 : decode cX6_isAlarm 24 = .ok (.ireturn, 1) := by decide +kernel
set_option maxRecDepth 20000 in
theorem ggX6_raise_X6_isAlarm : GoodIn wsX6_raise wsX6_isAlarm := goodIn_r _ [11, 12, 13, 14, 10, 15, 16, 17, 18, 19] (by decide +kernel) (by decide +kernel)
set_option maxRecDepth 20000 in
theorem gX6_raise_X6_isAlarm : GoodIn wsX6_raise (wsV RX6 103 RX6 yX6_isAlarm wsX6_isAlarm) := goodIn_app (goodIn_of _ (by decide +kernel)) ggX6_raise_X6_isAlarm
set_option maxRecDepth 20000 in
theorem ggX6_raise_X6_in : GoodIn wsX6_raise wsX6_in := goodIn_r _ [19] (by decide +kernel) (by decide +kernel)
set_option maxRecDepth 20000 in
theorem gX6_raise_X6_in : GoodIn wsX6_raise (va_wsS RX6 87 yX6_in wsX6_in) := goodIn_app (goodIn_of _ (by decide +kernel)) ggX6_raise_X6_in
set_option maxRecDepth 20000 in
theorem ggX6_raise_X6_opens : GoodIn wsX6_raise wsX6_opens := goodIn_ca (goodIn_r _ [23, 24, 4, 25, 26, 27, 28, 29, 30, 31, 32, 33, 34, 35, 36, 37, 38, 39, 40, 41, 42, 43, 44, 45, 46, 47, 48, 49, 50, 51, 52, 53, 54, 55, 56, 57, 58] (by decide +kernel) (by decide +kernel)) (goodIn_sub (fun _ h => List.mem_cons_of_mem _ (List.mem_append_right _ h)) (by decide +kernel))
set_option maxRecDepth 20000 in
theorem gX6_raise_X6_opens : GoodIn wsX6_raise (wsV RX6 109 RX6 yX6_opens wsX6_opens) := goodIn_app (goodIn_of _ (by decide +kernel)) ggX6_raise_X6_opens
theorem dX6_raise_0 : decode cX6_raise 0 = .ok (.aload_n 0, 1) := by decide +kernel
theorem dX6_raise_1 : decode cX6_raise 1 = .ok (.iload_n 1, 1) := by decide +kernel
theorem dX6_raise_2 : decode cX6_raise 2 = .ok (.iload_n 2, 1) := by decide +kernel
theorem dX6_raise_3 : decode cX6_raise 3 = .ok (.invokevirtual 103, 3) := by decide +kernel
theorem dX6_raise_6 : decode cX6_raise 6 = .ok (.ifCond .eq 15, 3) := by decide +kernel
theorem dX6_raise_9 : decode cX6_raise 9 = .ok (.iload_n 3, 1) := by decide +kernel
theorem dX6_raise_10 : decode cX6_raise 10 = .ok (.i2l, 1) := by decide +kernel
theorem dX6_raise_11 : decode cX6_raise 11 = .ok (.lconst 1, 1) := by decide +kernel
theorem dX6_raise_12 : decode cX6_raise 12 = .ok (.ldc2_w 107, 3) := by decide +kernel
theorem dX6_raise_15 : decode cX6_raise 15 = .ok (.invokestatic 87, 3) := by decide +kernel
theorem dX6_raise_18 : decode cX6_raise 18 = .ok (.ifCond .ne 23, 3) := by decide +kernel
theorem dX6_raise_21 : decode cX6_raise 21 = .ok (.aload_n 0, 1) := by decide +kernel
theorem dX6_raise_22 : decode cX6_raise 22 = .ok (.aload_n 0, 1) := by decide +kernel
theorem dX6_raise_23 : decode cX6_raise 23 = .ok (.iload_n 1, 1) := by decide +kernel
theorem dX6_raise_24 : decode cX6_raise 24 = .ok (.iload_n 2, 1) := by decide +kernel
theorem dX6_raise_25 : decode cX6_raise 25 = .ok (.invokevirtual 103, 3) := by decide +kernel
theorem dX6_raise_28 : decode cX6_raise 28 = .ok (.ifCond .ne 7, 3) := by decide +kernel
theorem dX6_raise_31 : decode cX6_raise 31 = .ok (.iconst 1, 1) := by decide +kernel
theorem dX6_raise_32 : decode cX6_raise 32 = .ok (.goto 4, 3) := by decide +kernel
theorem dX6_raise_35 : decode cX6_raise 35 = .ok (.iconst 2, 1) := by decide +kernel
theorem dX6_raise_36 : decode cX6_raise 36 = .ok (.putfield 82, 3) := by decide +kernel
theorem dX6_raise_39 : decode cX6_raise 39 = .ok (.iconst (-1), 1) := by decide +kernel
theorem dX6_raise_40 : decode cX6_raise 40 = .ok (.ireturn, 1) := by decide +kernel
theorem dX6_raise_41 : decode cX6_raise 41 = .ok (.iconst 4, 1) := by decide +kernel
theorem dX6_raise_42 : decode cX6_raise 42 = .ok (.iload_n 1, 1) := by decide +kernel
theorem dX6_raise_43 : decode cX6_raise 43 = .ok (.imul, 1) := by decide +kernel
theorem dX6_raise_44 : decode cX6_raise 44 = .ok (.iload_n 2, 1) := by decide +kernel
theorem dX6_raise_45 : decode cX6_raise 45 = .ok (.iadd, 1) := by decide +kernel
theorem dX6_raise_46 : decode cX6_raise 46 = .ok (.istore 4, 2) := by decide +kernel
theorem dX6_raise_48 : decode cX6_raise 48 = .ok (.aload_n 0, 1) := by decide +kernel
theorem dX6_raise_49 : decode cX6_raise 49 = .ok (.aload_n 0, 1) := by decide +kernel
theorem dX6_raise_50 : decode cX6_raise 50 = .ok (.getfield 30, 3) := by decide +kernel
theorem dX6_raise_53 : decode cX6_raise 53 = .ok (.iload 4, 2) := by decide +kernel
theorem dX6_raise_55 : decode cX6_raise 55 = .ok (.iaload, 1) := by decide +kernel
theorem dX6_raise_56 : decode cX6_raise 56 = .ok (.iconst (-1), 1) := by decide +kernel
theorem dX6_raise_57 : decode cX6_raise 57 = .ok (.if_icmp .ne 12, 3) := by decide +kernel
theorem dX6_raise_60 : decode cX6_raise 60 = .ok (.aload_n 0, 1) := by decide +kernel
theorem dX6_raise_61 : decode cX6_raise 61 = .ok (.getfield 95, 3) := by decide +kernel
theorem dX6_raise_64 : decode cX6_raise 64 = .ok (.bipush 60, 2) := by decide +kernel
theorem dX6_raise_66 : decode cX6_raise 66 = .ok (.if_icmp .ne 7, 3) := by decide +kernel
theorem dX6_raise_69 : decode cX6_raise 69 = .ok (.iconst 3, 1) := by decide +kernel
theorem dX6_raise_70 : decode cX6_raise 70 = .ok (.goto 4, 3) := by decide +kernel
theorem dX6_raise_73 : decode cX6_raise 73 = .ok (.iconst 0, 1) := by decide +kernel
theorem dX6_raise_74 : decode cX6_raise 74 = .ok (.putfield 82, 3) := by decide +kernel
theorem dX6_raise_77 : decode cX6_raise 77 = .ok (.aload_n 0, 1) := by decide +kernel
theorem dX6_raise_78 : decode cX6_raise 78 = .ok (.getfield 82, 3) := by decide +kernel
theorem dX6_raise_81 : decode cX6_raise 81 = .ok (.ifCond .le 5, 3) := by decide +kernel
theorem dX6_raise_84 : decode cX6_raise 84 = .ok (.iconst (-1), 1) := by decide +kernel
theorem dX6_raise_85 : decode cX6_raise 85 = .ok (.ireturn, 1) := by decide +kernel
theorem dX6_raise_86 : decode cX6_raise 86 = .ok (.aload_n 0, 1) := by decide +kernel
theorem dX6_raise_87 : decode cX6_raise 87 = .ok (.getfield 30, 3) := by decide +kernel
theorem dX6_raise_90 : decode cX6_raise 90 = .ok (.iload 4, 2) := by decide +kernel
theorem dX6_raise_92 : decode cX6_raise 92 = .ok (.aload_n 0, 1) := by decide +kernel
theorem dX6_raise_93 : decode cX6_raise 93 = .ok (.bipush 97, 2) := by decide +kernel
theorem dX6_raise_95 : decode cX6_raise 95 = .ok (.invokevirtual 109, 3) := by decide +kernel
theorem dX6_raise_98 : decode cX6_raise 98 = .ok (.iastore, 1) := by decide +kernel
theorem dX6_raise_99 : decode cX6_raise 99 = .ok (.aload_n 0, 1) := by decide +kernel
theorem dX6_raise_100 : decode cX6_raise 100 = .ok (.getfield 33, 3) := by decide +kernel
theorem dX6_raise_103 : decode cX6_raise 103 = .ok (.iload 4, 2) := by decide +kernel
theorem dX6_raise_105 : decode cX6_raise 105 = .ok (.iload_n 3, 1) := by decide +kernel
theorem dX6_raise_106 : decode cX6_raise 106 = .ok (.iastore, 1) := by decide +kernel
theorem dX6_raise_107 : decode cX6_raise 107 = .ok (.aload_n 0, 1) := by decide +kernel
theorem dX6_raise_108 : decode cX6_raise 108 = .ok (.getfield 36, 3) := by decide +kernel
theorem dX6_raise_111 : decode cX6_raise 111 = .ok (.iload 4, 2) := by decide +kernel
theorem dX6_raise_113 : decode cX6_raise 113 = .ok (.iconst 0, 1) := by decide +kernel
theorem dX6_raise_114 : decode cX6_raise 114 = .ok (.iastore, 1) := by decide +kernel
theorem dX6_raise_115 : decode cX6_raise 115 = .ok (.aload_n 0, 1) := by decide +kernel
theorem dX6_raise_116 : decode cX6_raise 116 = .ok (.getfield 30, 3) := by decide +kernel
theorem dX6_raise_119 : decode cX6_raise 119 = .ok (.iload 4, 2) := by decide +kernel
theorem dX6_raise_121 : decode cX6_raise 121 = .ok (.iaload, 1) := by decide +kernel
theorem dX6_raise_122 : decode cX6_raise 122 = .ok (.ireturn, 1) := by decide +kernel
set_option maxRecDepth 20000 in
theorem ggX6_clear_X6_isAlarm : GoodIn wsX6_clear wsX6_isAlarm := goodIn_r _ [8, 9, 10, 11, 7, 12, 13, 14, 15, 16] (by decide +kernel) (by decide +kernel)
set_option maxRecDepth 20000 in
theorem gX6_clear_X6_isAlarm : GoodIn wsX6_clear (wsV RX6 103 RX6 yX6_isAlarm wsX6_isAlarm) := goodIn_app (goodIn_of _ (by decide +kernel)) ggX6_clear_X6_isAlarm
theorem dX6_clear_0 : decode cX6_clear 0 = .ok (.aload_n 0, 1) := by decide +kernel
theorem dX6_clear_1 : decode cX6_clear 1 = .ok (.aload_n 0, 1) := by decide +kernel
theorem dX6_clear_2 : decode cX6_clear 2 = .ok (.iload_n 1, 1) := by decide +kernel
theorem dX6_clear_3 : decode cX6_clear 3 = .ok (.iload_n 2, 1) := by decide +kernel
theorem dX6_clear_4 : decode cX6_clear 4 = .ok (.invokevirtual 103, 3) := by decide +kernel
theorem dX6_clear_7 : decode cX6_clear 7 = .ok (.ifCond .ne 7, 3) := by decide +kernel
theorem dX6_clear_10 : decode cX6_clear 10 = .ok (.iconst 1, 1) := by decide +kernel
theorem dX6_clear_11 : decode cX6_clear 11 = .ok (.goto 22, 3) := by decide +kernel
theorem dX6_clear_14 : decode cX6_clear 14 = .ok (.aload_n 0, 1) := by decide +kernel
theorem dX6_clear_15 : decode cX6_clear 15 = .ok (.getfield 30, 3) := by decide +kernel
theorem dX6_clear_18 : decode cX6_clear 18 = .ok (.iconst 4, 1) := by decide +kernel
theorem dX6_clear_19 : decode cX6_clear 19 = .ok (.iload_n 1, 1) := by decide +kernel
theorem dX6_clear_20 : decode cX6_clear 20 = .ok (.imul, 1) := by decide +kernel
theorem dX6_clear_21 : decode cX6_clear 21 = .ok (.iload_n 2, 1) := by decide +kernel
theorem dX6_clear_22 : decode cX6_clear 22 = .ok (.iadd, 1) := by decide +kernel
theorem dX6_clear_23 : decode cX6_clear 23 = .ok (.iaload, 1) := by decide +kernel
theorem dX6_clear_24 : decode cX6_clear 24 = .ok (.iconst (-1), 1) := by decide +kernel
theorem dX6_clear_25 : decode cX6_clear 25 = .ok (.if_icmp .ne 7, 3) := by decide +kernel
theorem dX6_clear_28 : decode cX6_clear 28 = .ok (.iconst 2, 1) := by decide +kernel
theorem dX6_clear_29 : decode cX6_clear 29 = .ok (.goto 4, 3) := by decide +kernel
theorem dX6_clear_32 : decode cX6_clear 32 = .ok (.iconst 0, 1) := by decide +kernel
theorem dX6_clear_33 : decode cX6_clear 33 = .ok (.putfield 82, 3) := by decide +kernel
theorem dX6_clear_36 : decode cX6_clear 36 = .ok (.aload_n 0, 1) := by decide +kernel
theorem dX6_clear_37 : decode cX6_clear 37 = .ok (.getfield 82, 3) := by decide +kernel
theorem dX6_clear_40 : decode cX6_clear 40 = .ok (.ifCond .le 5, 3) := by decide +kernel
theorem dX6_clear_43 : decode cX6_clear 43 = .ok (.iconst (-1), 1) := by decide +kernel
theorem dX6_clear_44 : decode cX6_clear 44 = .ok (.ireturn, 1) := by decide +kernel
theorem dX6_clear_45 : decode cX6_clear 45 = .ok (.aload_n 0, 1) := by decide +kernel
theorem dX6_clear_46 : decode cX6_clear 46 = .ok (.getfield 30, 3) := by decide +kernel
theorem dX6_clear_49 : decode cX6_clear 49 = .ok (.iconst 4, 1) := by decide +kernel
theorem dX6_clear_50 : decode cX6_clear 50 = .ok (.iload_n 1, 1) := by decide +kernel
theorem dX6_clear_51 : decode cX6_clear 51 = .ok (.imul, 1) := by decide +kernel
theorem dX6_clear_52 : decode cX6_clear 52 = .ok (.iload_n 2, 1) := by decide +kernel
theorem dX6_clear_53 : decode cX6_clear 53 = .ok (.iadd, 1) := by decide +kernel
theorem dX6_clear_54 : decode cX6_clear 54 = .ok (.iaload, 1) := by decide +kernel
theorem dX6_clear_55 : decode cX6_clear 55 = .ok (.istore_n 3, 1) := by decide +kernel
theorem dX6_clear_56 : decode cX6_clear 56 = .ok (.aload_n 0, 1) := by decide +kernel
theorem dX6_clear_57 : decode cX6_clear 57 = .ok (.getfield 17, 3) := by decide +kernel
theorem dX6_clear_60 : decode cX6_clear 60 = .ok (.iload_n 3, 1) := by decide +kernel
theorem dX6_clear_61 : decode cX6_clear 61 = .ok (.iconst 0, 1) := by decide +kernel
theorem dX6_clear_62 : decode cX6_clear 62 = .ok (.bastore, 1) := by decide +kernel
theorem dX6_clear_63 : decode cX6_clear 63 = .ok (.aload_n 0, 1) := by decide +kernel
theorem dX6_clear_64 : decode cX6_clear 64 = .ok (.getfield 30, 3) := by decide +kernel
theorem dX6_clear_67 : decode cX6_clear 67 = .ok (.iconst 4, 1) := by decide +kernel
theorem dX6_clear_68 : decode cX6_clear 68 = .ok (.iload_n 1, 1) := by decide +kernel
theorem dX6_clear_69 : decode cX6_clear 69 = .ok (.imul, 1) := by decide +kernel
theorem dX6_clear_70 : decode cX6_clear 70 = .ok (.iload_n 2, 1) := by decide +kernel
theorem dX6_clear_71 : decode cX6_clear 71 = .ok (.iadd, 1) := by decide +kernel
theorem dX6_clear_72 : decode cX6_clear 72 = .ok (.iconst (-1), 1) := by decide +kernel
theorem dX6_clear_73 : decode cX6_clear 73 = .ok (.iastore, 1) := by decide +kernel
theorem dX6_clear_74 : decode cX6_clear 74 = .ok (.iload_n 3, 1) := by decide +kernel
theorem dX6_clear_75 : decode cX6_clear 75 = .ok (.ireturn, 1) := by decide +kernel
theorem dX6_isShelved_0 : decode cX6_isShelved 0 = .ok (.aload_n 0, 1) := by decide +kernel
theorem dX6_isShelved_1 : decode cX6_isShelved 1 = .ok (.getfield 30, 3) := by decide +kernel
theorem dX6_isShelved_4 : decode cX6_isShelved 4 = .ok (.iload_n 1, 1) := by decide +kernel
theorem dX6_isShelved_5 : decode cX6_isShelved 5 = .ok (.iaload, 1) := by decide +kernel
theorem dX6_isShelved_6 : decode cX6_isShelved 6 = .ok (.iconst (-1), 1) := by decide +kernel
theorem dX6_isShelved_7 : decode cX6_isShelved 7 = .ok (.if_icmp .eq 20, 3) := by decide +kernel
theorem dX6_isShelved_10 : decode cX6_isShelved 10 = .ok (.aload_n 0, 1) := by decide +kernel
theorem dX6_isShelved_11 : decode cX6_isShelved 11 = .ok (.getfield 98, 3) := by decide +kernel
theorem dX6_isShelved_14 : decode cX6_isShelved 14 = .ok (.aload_n 0, 1) := by decide +kernel
theorem dX6_isShelved_15 : decode cX6_isShelved 15 = .ok (.getfield 36, 3) := by decide +kernel
theorem dX6_isShelved_18 : decode cX6_isShelved 18 = .ok (.iload_n 1, 1) := by decide +kernel
theorem dX6_isShelved_19 : decode cX6_isShelved 19 = .ok (.iaload, 1) := by decide +kernel
theorem dX6_isShelved_20 : decode cX6_isShelved 20 = .ok (.if_icmp .ge 7, 3) := by decide +kernel
theorem dX6_isShelved_23 : decode cX6_isShelved 23 = .ok (.iconst 1, 1) := by decide +kernel
theorem dX6_isShelved_24 : decode cX6_isShelved 24 = .ok (.goto 4, 3) := by decide +kernel
theorem dX6_isShelved_27 : decode cX6_isShelved 27 = .ok (.iconst 0, 1) := by decide +kernel
theorem dX6_isShelved_28 : decode cX6_isShelved 28 = .ok (.ireturn, 1) := by decide +kernel
set_option maxRecDepth 20000 in
theorem ggX6_shelve_X6_isAlarm : GoodIn wsX6_shelve wsX6_isAlarm := goodIn_r _ [10, 11, 12, 13, 9, 14, 15, 16, 17, 18] (by decide +kernel) (by decide +kernel)
set_option maxRecDepth 20000 in
theorem gX6_shelve_X6_isAlarm : GoodIn wsX6_shelve (wsV RX6 103 RX6 yX6_isAlarm wsX6_isAlarm) := goodIn_app (goodIn_of _ (by decide +kernel)) ggX6_shelve_X6_isAlarm
set_option maxRecDepth 20000 in
theorem ggX6_shelve_X6_in : GoodIn wsX6_shelve wsX6_in := goodIn_r _ [18] (by decide +kernel) (by decide +kernel)
set_option maxRecDepth 20000 in
theorem gX6_shelve_X6_in : GoodIn wsX6_shelve (va_wsS RX6 87 yX6_in wsX6_in) := goodIn_app (goodIn_of _ (by decide +kernel)) ggX6_shelve_X6_in
set_option maxRecDepth 20000 in
theorem ggX6_shelve_X6_isShelved : GoodIn wsX6_shelve wsX6_isShelved := goodIn_ca (goodIn_r _ [22, 1, 5, 4, 23, 24, 25, 26, 27, 28, 29, 30, 31, 32, 33, 34, 35, 36, 37, 38, 39, 40, 41, 42, 43, 44, 45, 46, 47, 48, 49, 50, 51] (by decide +kernel) (by decide +kernel)) (goodIn_sub (fun _ h => List.mem_cons_of_mem _ (List.mem_append_right _ h)) (by decide +kernel))
set_option maxRecDepth 20000 in
theorem gX6_shelve_X6_isShelved : GoodIn wsX6_shelve (wsV RX6 115 RX6 yX6_isShelved wsX6_isShelved) := goodIn_app (goodIn_of _ (by decide +kernel)) ggX6_shelve_X6_isShelved
theorem dX6_shelve_0 : decode cX6_shelve 0 = .ok (.aload_n 0, 1) := by decide +kernel
theorem dX6_shelve_1 : decode cX6_shelve 1 = .ok (.iload_n 1, 1) := by decide +kernel
theorem dX6_shelve_2 : decode cX6_shelve 2 = .ok (.iload_n 2, 1) := by decide +kernel
theorem dX6_shelve_3 : decode cX6_shelve 3 = .ok (.invokevirtual 103, 3) := by decide +kernel
theorem dX6_shelve_6 : decode cX6_shelve 6 = .ok (.ifCond .eq 17, 3) := by decide +kernel
theorem dX6_shelve_9 : decode cX6_shelve 9 = .ok (.aload_n 0, 1) := by decide +kernel
theorem dX6_shelve_10 : decode cX6_shelve 10 = .ok (.getfield 30, 3) := by decide +kernel
theorem dX6_shelve_13 : decode cX6_shelve 13 = .ok (.iconst 4, 1) := by decide +kernel
theorem dX6_shelve_14 : decode cX6_shelve 14 = .ok (.iload_n 1, 1) := by decide +kernel
theorem dX6_shelve_15 : decode cX6_shelve 15 = .ok (.imul, 1) := by decide +kernel
theorem dX6_shelve_16 : decode cX6_shelve 16 = .ok (.iload_n 2, 1) := by decide +kernel
theorem dX6_shelve_17 : decode cX6_shelve 17 = .ok (.iadd, 1) := by decide +kernel
theorem dX6_shelve_18 : decode cX6_shelve 18 = .ok (.iaload, 1) := by decide +kernel
theorem dX6_shelve_19 : decode cX6_shelve 19 = .ok (.iconst (-1), 1) := by decide +kernel
theorem dX6_shelve_20 : decode cX6_shelve 20 = .ok (.if_icmp .ne 23, 3) := by decide +kernel
theorem dX6_shelve_23 : decode cX6_shelve 23 = .ok (.aload_n 0, 1) := by decide +kernel
theorem dX6_shelve_24 : decode cX6_shelve 24 = .ok (.aload_n 0, 1) := by decide +kernel
theorem dX6_shelve_25 : decode cX6_shelve 25 = .ok (.iload_n 1, 1) := by decide +kernel
theorem dX6_shelve_26 : decode cX6_shelve 26 = .ok (.iload_n 2, 1) := by decide +kernel
theorem dX6_shelve_27 : decode cX6_shelve 27 = .ok (.invokevirtual 103, 3) := by decide +kernel
theorem dX6_shelve_30 : decode cX6_shelve 30 = .ok (.ifCond .ne 7, 3) := by decide +kernel
theorem dX6_shelve_33 : decode cX6_shelve 33 = .ok (.iconst 1, 1) := by decide +kernel
theorem dX6_shelve_34 : decode cX6_shelve 34 = .ok (.goto 4, 3) := by decide +kernel
theorem dX6_shelve_37 : decode cX6_shelve 37 = .ok (.iconst 2, 1) := by decide +kernel
theorem dX6_shelve_38 : decode cX6_shelve 38 = .ok (.putfield 82, 3) := by decide +kernel
theorem dX6_shelve_41 : decode cX6_shelve 41 = .ok (.iconst (-1), 1) := by decide +kernel
theorem dX6_shelve_42 : decode cX6_shelve 42 = .ok (.ireturn, 1) := by decide +kernel
theorem dX6_shelve_43 : decode cX6_shelve 43 = .ok (.iconst 4, 1) := by decide +kernel
theorem dX6_shelve_44 : decode cX6_shelve 44 = .ok (.iload_n 1, 1) := by decide +kernel
theorem dX6_shelve_45 : decode cX6_shelve 45 = .ok (.imul, 1) := by decide +kernel
theorem dX6_shelve_46 : decode cX6_shelve 46 = .ok (.iload_n 2, 1) := by decide +kernel
theorem dX6_shelve_47 : decode cX6_shelve 47 = .ok (.iadd, 1) := by decide +kernel
theorem dX6_shelve_48 : decode cX6_shelve 48 = .ok (.istore 4, 2) := by decide +kernel
theorem dX6_shelve_50 : decode cX6_shelve 50 = .ok (.aload_n 0, 1) := by decide +kernel
theorem dX6_shelve_51 : decode cX6_shelve 51 = .ok (.iload_n 3, 1) := by decide +kernel
theorem dX6_shelve_52 : decode cX6_shelve 52 = .ok (.i2l, 1) := by decide +kernel
theorem dX6_shelve_53 : decode cX6_shelve 53 = .ok (.lconst 1, 1) := by decide +kernel
theorem dX6_shelve_54 : decode cX6_shelve 54 = .ok (.ldc2_w 113, 3) := by decide +kernel
theorem dX6_shelve_57 : decode cX6_shelve 57 = .ok (.invokestatic 87, 3) := by decide +kernel
theorem dX6_shelve_60 : decode cX6_shelve 60 = .ok (.ifCond .ne 7, 3) := by decide +kernel
theorem dX6_shelve_63 : decode cX6_shelve 63 = .ok (.iconst 3, 1) := by decide +kernel
theorem dX6_shelve_64 : decode cX6_shelve 64 = .ok (.goto 17, 3) := by decide +kernel
theorem dX6_shelve_67 : decode cX6_shelve 67 = .ok (.aload_n 0, 1) := by decide +kernel
theorem dX6_shelve_68 : decode cX6_shelve 68 = .ok (.iload 4, 2) := by decide +kernel
theorem dX6_shelve_70 : decode cX6_shelve 70 = .ok (.invokevirtual 115, 3) := by decide +kernel
theorem dX6_shelve_73 : decode cX6_shelve 73 = .ok (.ifCond .eq 7, 3) := by decide +kernel
theorem dX6_shelve_76 : decode cX6_shelve 76 = .ok (.iconst 4, 1) := by decide +kernel
theorem dX6_shelve_77 : decode cX6_shelve 77 = .ok (.goto 4, 3) := by decide +kernel
theorem dX6_shelve_80 : decode cX6_shelve 80 = .ok (.iconst 0, 1) := by decide +kernel
theorem dX6_shelve_81 : decode cX6_shelve 81 = .ok (.putfield 82, 3) := by decide +kernel
theorem dX6_shelve_84 : decode cX6_shelve 84 = .ok (.aload_n 0, 1) := by decide +kernel
theorem dX6_shelve_85 : decode cX6_shelve 85 = .ok (.getfield 82, 3) := by decide +kernel
theorem dX6_shelve_88 : decode cX6_shelve 88 = .ok (.ifCond .le 5, 3) := by decide +kernel
theorem dX6_shelve_91 : decode cX6_shelve 91 = .ok (.iconst (-1), 1) := by decide +kernel
theorem dX6_shelve_92 : decode cX6_shelve 92 = .ok (.ireturn, 1) := by decide +kernel
theorem dX6_shelve_93 : decode cX6_shelve 93 = .ok (.aload_n 0, 1) := by decide +kernel
theorem dX6_shelve_94 : decode cX6_shelve 94 = .ok (.getfield 36, 3) := by decide +kernel
theorem dX6_shelve_97 : decode cX6_shelve 97 = .ok (.iload 4, 2) := by decide +kernel
theorem dX6_shelve_99 : decode cX6_shelve 99 = .ok (.aload_n 0, 1) := by decide +kernel
theorem dX6_shelve_100 : decode cX6_shelve 100 = .ok (.getfield 98, 3) := by decide +kernel
theorem dX6_shelve_103 : decode cX6_shelve 103 = .ok (.iload_n 3, 1) := by decide +kernel
theorem dX6_shelve_104 : decode cX6_shelve 104 = .ok (.iadd, 1) := by decide +kernel
theorem dX6_shelve_105 : decode cX6_shelve 105 = .ok (.iastore, 1) := by decide +kernel
theorem dX6_shelve_106 : decode cX6_shelve 106 = .ok (.aload_n 0, 1) := by decide +kernel
theorem dX6_shelve_107 : decode cX6_shelve 107 = .ok (.getfield 36, 3) := by decide +kernel
theorem dX6_shelve_110 : decode cX6_shelve 110 = .ok (.iload 4, 2) := by decide +kernel
theorem dX6_shelve_112 : decode cX6_shelve 112 = .ok (.iaload, 1) := by decide +kernel
theorem dX6_shelve_113 : decode cX6_shelve 113 = .ok (.ireturn, 1) := by decide +kernel
set_option maxRecDepth 20000 in
theorem ggX6_isShelved__X6_isAlarm : GoodIn wsX6_isShelved_ wsX6_isAlarm := goodIn_r _ [6, 7, 8, 9, 5, 10, 11, 12, 13, 14] (by decide +kernel) (by decide +kernel)
set_option maxRecDepth 20000 in
theorem gX6_isShelved__X6_isAlarm : GoodIn wsX6_isShelved_ (wsV RX6 103 RX6 yX6_isAlarm wsX6_isAlarm) := goodIn_app (goodIn_of _ (by decide +kernel)) ggX6_isShelved__X6_isAlarm
set_option maxRecDepth 20000 in
theorem ggX6_isShelved__X6_isShelved : GoodIn wsX6_isShelved_ wsX6_isShelved := goodIn_ca (goodIn_r _ [18, 19, 20, 21, 22, 23, 24, 25, 26, 27, 28, 29, 30, 31, 32, 33, 34, 35, 36, 37, 38, 39, 40, 41, 42, 43, 44, 45, 46, 47, 48, 49, 50] (by decide +kernel) (by decide +kernel)) (goodIn_sub (fun _ h => List.mem_cons_of_mem _ (List.mem_append_right _ h)) (by decide +kernel))
set_option maxRecDepth 20000 in
theorem gX6_isShelved__X6_isShelved : GoodIn wsX6_isShelved_ (wsV RX6 115 RX6 yX6_isShelved wsX6_isShelved) := goodIn_app (goodIn_of _ (by decide +kernel)) ggX6_isShelved__X6_isShelved
theorem dX6_isShelved__0 : decode cX6_isShelved_ 0 = .ok (.aload_n 0, 1) := by decide +kernel
theorem dX6_isShelved__1 : decode cX6_isShelved_ 1 = .ok (.aload_n 0, 1) := by decide +kernel
theorem dX6_isShelved__2 : decode cX6_isShelved_ 2 = .ok (.iload_n 1, 1) := by decide +kernel
theorem dX6_isShelved__3 : decode cX6_isShelved_ 3 = .ok (.iload_n 2, 1) := by decide +kernel
theorem dX6_isShelved__4 : decode cX6_isShelved_ 4 = .ok (.invokevirtual 103, 3) := by decide +kernel
theorem dX6_isShelved__7 : decode cX6_isShelved_ 7 = .ok (.ifCond .eq 7, 3) := by decide +kernel
theorem dX6_isShelved__10 : decode cX6_isShelved_ 10 = .ok (.iconst 0, 1) := by decide +kernel
theorem dX6_isShelved__11 : decode cX6_isShelved_ 11 = .ok (.goto 4, 3) := by decide +kernel
theorem dX6_isShelved__14 : decode cX6_isShelved_ 14 = .ok (.iconst 1, 1) := by decide +kernel
theorem dX6_isShelved__15 : decode cX6_isShelved_ 15 = .ok (.putfield 82, 3) := by decide +kernel
theorem dX6_isShelved__18 : decode cX6_isShelved_ 18 = .ok (.aload_n 0, 1) := by decide +kernel
theorem dX6_isShelved__19 : decode cX6_isShelved_ 19 = .ok (.getfield 82, 3) := by decide +kernel
theorem dX6_isShelved__22 : decode cX6_isShelved_ 22 = .ok (.ifCond .ne 19, 3) := by decide +kernel
theorem dX6_isShelved__25 : decode cX6_isShelved_ 25 = .ok (.aload_n 0, 1) := by decide +kernel
theorem dX6_isShelved__26 : decode cX6_isShelved_ 26 = .ok (.iconst 4, 1) := by decide +kernel
theorem dX6_isShelved__27 : decode cX6_isShelved_ 27 = .ok (.iload_n 1, 1) := by decide +kernel
theorem dX6_isShelved__28 : decode cX6_isShelved_ 28 = .ok (.imul, 1) := by decide +kernel
theorem dX6_isShelved__29 : decode cX6_isShelved_ 29 = .ok (.iload_n 2, 1) := by decide +kernel
theorem dX6_isShelved__30 : decode cX6_isShelved_ 30 = .ok (.iadd, 1) := by decide +kernel
theorem dX6_isShelved__31 : decode cX6_isShelved_ 31 = .ok (.invokevirtual 115, 3) := by decide +kernel
theorem dX6_isShelved__34 : decode cX6_isShelved_ 34 = .ok (.ifCond .eq 7, 3) := by decide +kernel
theorem dX6_isShelved__37 : decode cX6_isShelved_ 37 = .ok (.iconst 1, 1) := by decide +kernel
theorem dX6_isShelved__38 : decode cX6_isShelved_ 38 = .ok (.goto 4, 3) := by decide +kernel
theorem dX6_isShelved__41 : decode cX6_isShelved_ 41 = .ok (.iconst 0, 1) := by decide +kernel
theorem dX6_isShelved__42 : decode cX6_isShelved_ 42 = .ok (.ireturn, 1) := by decide +kernel
set_option maxRecDepth 20000 in
theorem ggX6_alarms_X6_in : GoodIn wsX6_alarms wsX6_in := goodIn_r _ [8] (by decide +kernel) (by decide +kernel)
set_option maxRecDepth 20000 in
theorem gX6_alarms_X6_in : GoodIn wsX6_alarms (va_wsS RX6 87 yX6_in wsX6_in) := goodIn_app (goodIn_of _ (by decide +kernel)) ggX6_alarms_X6_in
set_option maxRecDepth 20000 in
theorem ggX6_alarms_X6_isShelved : GoodIn wsX6_alarms wsX6_isShelved := goodIn_ca (goodIn_r _ [12, 3, 13, 14, 15, 16, 17, 18, 19, 20, 21, 22, 23, 24, 25, 26, 27, 28, 29, 30, 31, 32, 33, 34, 35, 36, 37, 38, 39, 40, 41, 42, 43] (by decide +kernel) (by decide +kernel)) (goodIn_sub (fun _ h => List.mem_cons_of_mem _ (List.mem_append_right _ h)) (by decide +kernel))
set_option maxRecDepth 20000 in
theorem gX6_alarms_X6_isShelved : GoodIn wsX6_alarms (wsV RX6 115 RX6 yX6_isShelved wsX6_isShelved) := goodIn_app (goodIn_of _ (by decide +kernel)) ggX6_alarms_X6_isShelved
theorem dX6_alarms_0 : decode cX6_alarms 0 = .ok (.aload_n 0, 1) := by decide +kernel
theorem dX6_alarms_1 : decode cX6_alarms 1 = .ok (.iload_n 1, 1) := by decide +kernel
theorem dX6_alarms_2 : decode cX6_alarms 2 = .ok (.i2l, 1) := by decide +kernel
theorem dX6_alarms_3 : decode cX6_alarms 3 = .ok (.lconst 1, 1) := by decide +kernel
theorem dX6_alarms_4 : decode cX6_alarms 4 = .ok (.ldc2_w 107, 3) := by decide +kernel
theorem dX6_alarms_7 : decode cX6_alarms 7 = .ok (.invokestatic 87, 3) := by decide +kernel
theorem dX6_alarms_10 : decode cX6_alarms 10 = .ok (.ifCond .eq 7, 3) := by decide +kernel
theorem dX6_alarms_13 : decode cX6_alarms 13 = .ok (.iconst 0, 1) := by decide +kernel
theorem dX6_alarms_14 : decode cX6_alarms 14 = .ok (.goto 4, 3) := by decide +kernel
theorem dX6_alarms_17 : decode cX6_alarms 17 = .ok (.iconst 1, 1) := by decide +kernel
theorem dX6_alarms_18 : decode cX6_alarms 18 = .ok (.putfield 82, 3) := by decide +kernel
theorem dX6_alarms_21 : decode cX6_alarms 21 = .ok (.aload_n 0, 1) := by decide +kernel
theorem dX6_alarms_22 : decode cX6_alarms 22 = .ok (.getfield 82, 3) := by decide +kernel
theorem dX6_alarms_25 : decode cX6_alarms 25 = .ok (.ifCond .ne 7, 3) := by decide +kernel
theorem dX6_alarms_28 : decode cX6_alarms 28 = .ok (.iconst 0, 1) := by decide +kernel
theorem dX6_alarms_29 : decode cX6_alarms 29 = .ok (.goto 4, 3) := by decide +kernel
theorem dX6_alarms_32 : decode cX6_alarms 32 = .ok (.iconst (-1), 1) := by decide +kernel
theorem dX6_alarms_33 : decode cX6_alarms 33 = .ok (.istore_n 2, 1) := by decide +kernel
theorem dX6_alarms_34 : decode cX6_alarms 34 = .ok (.iconst 0, 1) := by decide +kernel
theorem dX6_alarms_35 : decode cX6_alarms 35 = .ok (.istore_n 3, 1) := by decide +kernel
theorem dX6_alarms_36 : decode cX6_alarms 36 = .ok (.iload_n 3, 1) := by decide +kernel
theorem dX6_alarms_37 : decode cX6_alarms 37 = .ok (.bipush 32, 2) := by decide +kernel
theorem dX6_alarms_39 : decode cX6_alarms 39 = .ok (.if_icmp .ge 52, 3) := by decide +kernel
theorem dX6_alarms_42 : decode cX6_alarms 42 = .ok (.aload_n 0, 1) := by decide +kernel
theorem dX6_alarms_43 : decode cX6_alarms 43 = .ok (.getfield 82, 3) := by decide +kernel
theorem dX6_alarms_46 : decode cX6_alarms 46 = .ok (.ifCond .ne 45, 3) := by decide +kernel
theorem dX6_alarms_49 : decode cX6_alarms 49 = .ok (.iload_n 2, 1) := by decide +kernel
theorem dX6_alarms_50 : decode cX6_alarms 50 = .ok (.aload_n 0, 1) := by decide +kernel
theorem dX6_alarms_51 : decode cX6_alarms 51 = .ok (.getfield 30, 3) := by decide +kernel
theorem dX6_alarms_54 : decode cX6_alarms 54 = .ok (.iload_n 3, 1) := by decide +kernel
theorem dX6_alarms_55 : decode cX6_alarms 55 = .ok (.iaload, 1) := by decide +kernel
theorem dX6_alarms_56 : decode cX6_alarms 56 = .ok (.iconst (-1), 1) := by decide +kernel
theorem dX6_alarms_57 : decode cX6_alarms 57 = .ok (.if_icmp .eq 25, 3) := by decide +kernel
theorem dX6_alarms_60 : decode cX6_alarms 60 = .ok (.aload_n 0, 1) := by decide +kernel
theorem dX6_alarms_61 : decode cX6_alarms 61 = .ok (.iload_n 3, 1) := by decide +kernel
theorem dX6_alarms_62 : decode cX6_alarms 62 = .ok (.invokevirtual 115, 3) := by decide +kernel
theorem dX6_alarms_65 : decode cX6_alarms 65 = .ok (.ifCond .ne 17, 3) := by decide +kernel
theorem dX6_alarms_68 : decode cX6_alarms 68 = .ok (.aload_n 0, 1) := by decide +kernel
theorem dX6_alarms_69 : decode cX6_alarms 69 = .ok (.getfield 33, 3) := by decide +kernel
theorem dX6_alarms_72 : decode cX6_alarms 72 = .ok (.iload_n 3, 1) := by decide +kernel
theorem dX6_alarms_73 : decode cX6_alarms 73 = .ok (.iaload, 1) := by decide +kernel
theorem dX6_alarms_74 : decode cX6_alarms 74 = .ok (.iload_n 1, 1) := by decide +kernel
theorem dX6_alarms_75 : decode cX6_alarms 75 = .ok (.if_icmp .lt 7, 3) := by decide +kernel
theorem dX6_alarms_78 : decode cX6_alarms 78 = .ok (.iconst 1, 1) := by decide +kernel
theorem dX6_alarms_79 : decode cX6_alarms 79 = .ok (.goto 4, 3) := by decide +kernel
theorem dX6_alarms_82 : decode cX6_alarms 82 = .ok (.iconst 0, 1) := by decide +kernel
theorem dX6_alarms_83 : decode cX6_alarms 83 = .ok (.iadd, 1) := by decide +kernel
theorem dX6_alarms_84 : decode cX6_alarms 84 = .ok (.istore_n 2, 1) := by decide +kernel
theorem dX6_alarms_85 : decode cX6_alarms 85 = .ok (.iinc 3 1, 3) := by decide +kernel
theorem dX6_alarms_88 : decode cX6_alarms 88 = .ok (.goto (-52), 3) := by decide +kernel
theorem dX6_alarms_91 : decode cX6_alarms 91 = .ok (.iload_n 2, 1) := by decide +kernel
theorem dX6_alarms_92 : decode cX6_alarms 92 = .ok (.ireturn, 1) := by decide +kernel
set_option maxRecDepth 20000 in
theorem ggX6_top_X6_isShelved : GoodIn wsX6_top wsX6_isShelved := goodIn_ca (goodIn_r _ [8, 1, 9, 10, 11, 12, 13, 14, 15, 16, 17, 18, 19, 20, 21, 22, 23, 24, 25, 26, 27, 28, 29, 30, 31, 32, 33, 34, 35, 36, 37, 38, 39] (by decide +kernel) (by decide +kernel)) (goodIn_sub (fun _ h => List.mem_cons_of_mem _ (List.mem_append_right _ h)) (by decide +kernel))
set_option maxRecDepth 20000 in
theorem gX6_top_X6_isShelved : GoodIn wsX6_top (wsV RX6 115 RX6 yX6_isShelved wsX6_isShelved) := goodIn_app (goodIn_of _ (by decide +kernel)) ggX6_top_X6_isShelved
theorem dX6_top_0 : decode cX6_top 0 = .ok (.iconst (-1), 1) := by decide +kernel
theorem dX6_top_1 : decode cX6_top 1 = .ok (.istore_n 1, 1) := by decide +kernel
theorem dX6_top_2 : decode cX6_top 2 = .ok (.iconst 0, 1) := by decide +kernel
theorem dX6_top_3 : decode cX6_top 3 = .ok (.istore_n 2, 1) := by decide +kernel
theorem dX6_top_4 : decode cX6_top 4 = .ok (.iload_n 2, 1) := by decide +kernel
theorem dX6_top_5 : decode cX6_top 5 = .ok (.bipush 32, 2) := by decide +kernel
theorem dX6_top_7 : decode cX6_top 7 = .ok (.if_icmp .ge 103, 3) := by decide +kernel
theorem dX6_top_10 : decode cX6_top 10 = .ok (.aload_n 0, 1) := by decide +kernel
theorem dX6_top_11 : decode cX6_top 11 = .ok (.getfield 30, 3) := by decide +kernel
theorem dX6_top_14 : decode cX6_top 14 = .ok (.iload_n 2, 1) := by decide +kernel
theorem dX6_top_15 : decode cX6_top 15 = .ok (.iaload, 1) := by decide +kernel
theorem dX6_top_16 : decode cX6_top 16 = .ok (.iconst (-1), 1) := by decide +kernel
theorem dX6_top_17 : decode cX6_top 17 = .ok (.if_icmp .eq 87, 3) := by decide +kernel
theorem dX6_top_20 : decode cX6_top 20 = .ok (.aload_n 0, 1) := by decide +kernel
theorem dX6_top_21 : decode cX6_top 21 = .ok (.iload_n 2, 1) := by decide +kernel
theorem dX6_top_22 : decode cX6_top 22 = .ok (.invokevirtual 115, 3) := by decide +kernel
theorem dX6_top_25 : decode cX6_top 25 = .ok (.ifCond .ne 79, 3) := by decide +kernel
theorem dX6_top_28 : decode cX6_top 28 = .ok (.iload_n 1, 1) := by decide +kernel
theorem dX6_top_29 : decode cX6_top 29 = .ok (.iconst (-1), 1) := by decide +kernel
theorem dX6_top_30 : decode cX6_top 30 = .ok (.if_icmp .eq 18, 3) := by decide +kernel
theorem dX6_top_33 : decode cX6_top 33 = .ok (.aload_n 0, 1) := by decide +kernel
theorem dX6_top_34 : decode cX6_top 34 = .ok (.getfield 33, 3) := by decide +kernel
theorem dX6_top_37 : decode cX6_top 37 = .ok (.iload_n 2, 1) := by decide +kernel
theorem dX6_top_38 : decode cX6_top 38 = .ok (.iaload, 1) := by decide +kernel
theorem dX6_top_39 : decode cX6_top 39 = .ok (.aload_n 0, 1) := by decide +kernel
theorem dX6_top_40 : decode cX6_top 40 = .ok (.getfield 33, 3) := by decide +kernel
theorem dX6_top_43 : decode cX6_top 43 = .ok (.iload_n 1, 1) := by decide +kernel
theorem dX6_top_44 : decode cX6_top 44 = .ok (.iaload, 1) := by decide +kernel
theorem dX6_top_45 : decode cX6_top 45 = .ok (.if_icmp .le 7, 3) := by decide +kernel
theorem dX6_top_48 : decode cX6_top 48 = .ok (.iconst 1, 1) := by decide +kernel
theorem dX6_top_49 : decode cX6_top 49 = .ok (.goto 4, 3) := by decide +kernel
theorem dX6_top_52 : decode cX6_top 52 = .ok (.iconst 0, 1) := by decide +kernel
theorem dX6_top_53 : decode cX6_top 53 = .ok (.istore_n 3, 1) := by decide +kernel
theorem dX6_top_54 : decode cX6_top 54 = .ok (.iload_n 3, 1) := by decide +kernel
theorem dX6_top_55 : decode cX6_top 55 = .ok (.ifCond .ne 33, 3) := by decide +kernel
theorem dX6_top_58 : decode cX6_top 58 = .ok (.aload_n 0, 1) := by decide +kernel
theorem dX6_top_59 : decode cX6_top 59 = .ok (.getfield 33, 3) := by decide +kernel
theorem dX6_top_62 : decode cX6_top 62 = .ok (.iload_n 2, 1) := by decide +kernel
theorem dX6_top_63 : decode cX6_top 63 = .ok (.iaload, 1) := by decide +kernel
theorem dX6_top_64 : decode cX6_top 64 = .ok (.aload_n 0, 1) := by decide +kernel
theorem dX6_top_65 : decode cX6_top 65 = .ok (.getfield 33, 3) := by decide +kernel
theorem dX6_top_68 : decode cX6_top 68 = .ok (.iload_n 1, 1) := by decide +kernel
theorem dX6_top_69 : decode cX6_top 69 = .ok (.iaload, 1) := by decide +kernel
theorem dX6_top_70 : decode cX6_top 70 = .ok (.if_icmp .ne 22, 3) := by decide +kernel
theorem dX6_top_73 : decode cX6_top 73 = .ok (.aload_n 0, 1) := by decide +kernel
theorem dX6_top_74 : decode cX6_top 74 = .ok (.getfield 30, 3) := by decide +kernel
theorem dX6_top_77 : decode cX6_top 77 = .ok (.iload_n 2, 1) := by decide +kernel
theorem dX6_top_78 : decode cX6_top 78 = .ok (.iaload, 1) := by decide +kernel
theorem dX6_top_79 : decode cX6_top 79 = .ok (.aload_n 0, 1) := by decide +kernel
theorem dX6_top_80 : decode cX6_top 80 = .ok (.getfield 30, 3) := by decide +kernel
theorem dX6_top_83 : decode cX6_top 83 = .ok (.iload_n 1, 1) := by decide +kernel
theorem dX6_top_84 : decode cX6_top 84 = .ok (.iaload, 1) := by decide +kernel
theorem dX6_top_85 : decode cX6_top 85 = .ok (.if_icmp .ge 7, 3) := by decide +kernel
theorem dX6_top_88 : decode cX6_top 88 = .ok (.iconst 1, 1) := by decide +kernel
theorem dX6_top_89 : decode cX6_top 89 = .ok (.goto 4, 3) := by decide +kernel
theorem dX6_top_92 : decode cX6_top 92 = .ok (.iconst 0, 1) := by decide +kernel
theorem dX6_top_93 : decode cX6_top 93 = .ok (.istore_n 3, 1) := by decide +kernel
theorem dX6_top_94 : decode cX6_top 94 = .ok (.iload_n 3, 1) := by decide +kernel
theorem dX6_top_95 : decode cX6_top 95 = .ok (.ifCond .eq 7, 3) := by decide +kernel
theorem dX6_top_98 : decode cX6_top 98 = .ok (.iload_n 2, 1) := by decide +kernel
theorem dX6_top_99 : decode cX6_top 99 = .ok (.goto 4, 3) := by decide +kernel
theorem dX6_top_102 : decode cX6_top 102 = .ok (.iload_n 1, 1) := by decide +kernel
theorem dX6_top_103 : decode cX6_top 103 = .ok (.istore_n 1, 1) := by decide +kernel
theorem dX6_top_104 : decode cX6_top 104 = .ok (.iinc 2 1, 3) := by decide +kernel
theorem dX6_top_107 : decode cX6_top 107 = .ok (.goto (-103), 3) := by decide +kernel
theorem dX6_top_110 : decode cX6_top 110 = .ok (.aload_n 0, 1) := by decide +kernel
theorem dX6_top_111 : decode cX6_top 111 = .ok (.iload_n 1, 1) := by decide +kernel
theorem dX6_top_112 : decode cX6_top 112 = .ok (.iconst (-1), 1) := by decide +kernel
theorem dX6_top_113 : decode cX6_top 113 = .ok (.if_icmp .ne 7, 3) := by decide +kernel
theorem dX6_top_116 : decode cX6_top 116 = .ok (.iconst 1, 1) := by decide +kernel
theorem dX6_top_117 : decode cX6_top 117 = .ok (.goto 4, 3) := by decide +kernel
theorem dX6_top_120 : decode cX6_top 120 = .ok (.iconst 0, 1) := by decide +kernel
theorem dX6_top_121 : decode cX6_top 121 = .ok (.putfield 82, 3) := by decide +kernel
theorem dX6_top_124 : decode cX6_top 124 = .ok (.aload_n 0, 1) := by decide +kernel
theorem dX6_top_125 : decode cX6_top 125 = .ok (.getfield 82, 3) := by decide +kernel
theorem dX6_top_128 : decode cX6_top 128 = .ok (.ifCond .ne 12, 3) := by decide +kernel
theorem dX6_top_131 : decode cX6_top 131 = .ok (.aload_n 0, 1) := by decide +kernel
theorem dX6_top_132 : decode cX6_top 132 = .ok (.getfield 30, 3) := by decide +kernel
theorem dX6_top_135 : decode cX6_top 135 = .ok (.iload_n 1, 1) := by decide +kernel
theorem dX6_top_136 : decode cX6_top 136 = .ok (.iaload, 1) := by decide +kernel
theorem dX6_top_137 : decode cX6_top 137 = .ok (.goto 4, 3) := by decide +kernel
theorem dX6_top_140 : decode cX6_top 140 = .ok (.iconst (-1), 1) := by decide +kernel
theorem dX6_top_141 : decode cX6_top 141 = .ok (.ireturn, 1) := by decide +kernel
theorem dX6_addProcedure_0 : decode cX6_addProcedure 0 = .ok (.aload_n 0, 1) := by decide +kernel
theorem dX6_addProcedure_1 : decode cX6_addProcedure 1 = .ok (.aload_n 0, 1) := by decide +kernel
theorem dX6_addProcedure_2 : decode cX6_addProcedure 2 = .ok (.getfield 118, 3) := by decide +kernel
theorem dX6_addProcedure_5 : decode cX6_addProcedure 5 = .ok (.bipush 6, 2) := by decide +kernel
theorem dX6_addProcedure_7 : decode cX6_addProcedure 7 = .ok (.if_icmp .ne 7, 3) := by decide +kernel
theorem dX6_addProcedure_10 : decode cX6_addProcedure 10 = .ok (.iconst 1, 1) := by decide +kernel
theorem dX6_addProcedure_11 : decode cX6_addProcedure 11 = .ok (.goto 4, 3) := by decide +kernel
theorem dX6_addProcedure_14 : decode cX6_addProcedure 14 = .ok (.iconst 0, 1) := by decide +kernel
theorem dX6_addProcedure_15 : decode cX6_addProcedure 15 = .ok (.putfield 82, 3) := by decide +kernel
theorem dX6_addProcedure_18 : decode cX6_addProcedure 18 = .ok (.aload_n 0, 1) := by decide +kernel
theorem dX6_addProcedure_19 : decode cX6_addProcedure 19 = .ok (.dup, 1) := by decide +kernel
theorem dX6_addProcedure_20 : decode cX6_addProcedure 20 = .ok (.getfield 118, 3) := by decide +kernel
theorem dX6_addProcedure_23 : decode cX6_addProcedure 23 = .ok (.aload_n 0, 1) := by decide +kernel
theorem dX6_addProcedure_24 : decode cX6_addProcedure 24 = .ok (.getfield 82, 3) := by decide +kernel
theorem dX6_addProcedure_27 : decode cX6_addProcedure 27 = .ok (.ifCond .ne 7, 3) := by decide +kernel
theorem dX6_addProcedure_30 : decode cX6_addProcedure 30 = .ok (.iconst 1, 1) := by decide +kernel
theorem dX6_addProcedure_31 : decode cX6_addProcedure 31 = .ok (.goto 4, 3) := by decide +kernel
theorem dX6_addProcedure_34 : decode cX6_addProcedure 34 = .ok (.iconst 0, 1) := by decide +kernel
theorem dX6_addProcedure_35 : decode cX6_addProcedure 35 = .ok (.iadd, 1) := by decide +kernel
theorem dX6_addProcedure_36 : decode cX6_addProcedure 36 = .ok (.putfield 118, 3) := by decide +kernel
theorem dX6_addProcedure_39 : decode cX6_addProcedure 39 = .ok (.aload_n 0, 1) := by decide +kernel
theorem dX6_addProcedure_40 : decode cX6_addProcedure 40 = .ok (.getfield 82, 3) := by decide +kernel
theorem dX6_addProcedure_43 : decode cX6_addProcedure 43 = .ok (.ifCond .ne 12, 3) := by decide +kernel
theorem dX6_addProcedure_46 : decode cX6_addProcedure 46 = .ok (.aload_n 0, 1) := by decide +kernel
theorem dX6_addProcedure_47 : decode cX6_addProcedure 47 = .ok (.getfield 118, 3) := by decide +kernel
theorem dX6_addProcedure_50 : decode cX6_addProcedure 50 = .ok (.iconst 1, 1) := by decide +kernel
theorem dX6_addProcedure_51 : decode cX6_addProcedure 51 = .ok (.isub, 1) := by decide +kernel
theorem dX6_addProcedure_52 : decode cX6_addProcedure 52 = .ok (.goto 4, 3) := by decide +kernel
theorem dX6_addProcedure_55 : decode cX6_addProcedure 55 = .ok (.iconst (-1), 1) := by decide +kernel
theorem dX6_addProcedure_56 : decode cX6_addProcedure 56 = .ok (.ireturn, 1) := by decide +kernel
set_option maxRecDepth 20000 in
theorem ggX6_isProcedure_X6_in : GoodIn wsX6_isProcedure wsX6_in := goodIn_r _ [5] (by decide +kernel) (by decide +kernel)
set_option maxRecDepth 20000 in
theorem gX6_isProcedure_X6_in : GoodIn wsX6_isProcedure (va_wsS RX6 87 yX6_in wsX6_in) := goodIn_app (goodIn_of _ (by decide +kernel)) ggX6_isProcedure_X6_in
theorem dX6_isProcedure_0 : decode cX6_isProcedure 0 = .ok (.iload_n 1, 1) := by decide +kernel
theorem dX6_isProcedure_1 : decode cX6_isProcedure 1 = .ok (.i2l, 1) := by decide +kernel
theorem dX6_isProcedure_2 : decode cX6_isProcedure 2 = .ok (.lconst 0, 1) := by decide +kernel
theorem dX6_isProcedure_3 : decode cX6_isProcedure 3 = .ok (.aload_n 0, 1) := by decide +kernel
theorem dX6_isProcedure_4 : decode cX6_isProcedure 4 = .ok (.getfield 118, 3) := by decide +kernel
theorem dX6_isProcedure_7 : decode cX6_isProcedure 7 = .ok (.iconst 1, 1) := by decide +kernel
theorem dX6_isProcedure_8 : decode cX6_isProcedure 8 = .ok (.isub, 1) := by decide +kernel
theorem dX6_isProcedure_9 : decode cX6_isProcedure 9 = .ok (.i2l, 1) := by decide +kernel
theorem dX6_isProcedure_10 : decode cX6_isProcedure 10 = .ok (.invokestatic 87, 3) := by decide +kernel
theorem dX6_isProcedure_13 : decode cX6_isProcedure 13 = .ok (.ireturn, 1) := by decide +kernel
set_option maxRecDepth 20000 in
theorem ggX6_addStep_X6_isProcedure : GoodIn wsX6_addStep wsX6_isProcedure := goodIn_r _ [14, 15, 16, 17, 13, 18, 23, 24, 25, 26, 27, 28, 29, 30, 31, 32, 33, 34, 35, 36, 37, 38, 39, 40, 41, 42, 43, 44, 45, 46, 47, 48, 49, 50, 51] (by decide +kernel) (by decide +kernel)
set_option maxRecDepth 20000 in
theorem gX6_addStep_X6_isProcedure : GoodIn wsX6_addStep (wsV RX6 121 RX6 yX6_isProcedure wsX6_isProcedure) := goodIn_app (goodIn_of _ (by decide +kernel)) ggX6_addStep_X6_isProcedure
set_option maxRecDepth 20000 in
theorem ggX6_addStep_X6_isUnit : GoodIn wsX6_addStep wsX6_isUnit := goodIn_r _ [21, 22, 16, 17, 13, 18] (by decide +kernel) (by decide +kernel)
set_option maxRecDepth 20000 in
theorem gX6_addStep_X6_isUnit : GoodIn wsX6_addStep (va_wsS RX6 91 yX6_isUnit wsX6_isUnit) := goodIn_app (goodIn_of _ (by decide +kernel)) ggX6_addStep_X6_isUnit
set_option maxRecDepth 20000 in
theorem ggX6_addStep_X6_in : GoodIn wsX6_addStep wsX6_in := goodIn_r _ [18] (by decide +kernel) (by decide +kernel)
set_option maxRecDepth 20000 in
theorem gX6_addStep_X6_in : GoodIn wsX6_addStep (va_wsS RX6 87 yX6_in wsX6_in) := goodIn_app (goodIn_of _ (by decide +kernel)) ggX6_addStep_X6_in
theorem dX6_addStep_0 : decode cX6_addStep 0 = .ok (.aload_n 0, 1) := by decide +kernel
theorem dX6_addStep_1 : decode cX6_addStep 1 = .ok (.iload_n 1, 1) := by decide +kernel
theorem dX6_addStep_2 : decode cX6_addStep 2 = .ok (.invokevirtual 121, 3) := by decide +kernel
theorem dX6_addStep_5 : decode cX6_addStep 5 = .ok (.ifCond .eq 18, 3) := by decide +kernel
theorem dX6_addStep_8 : decode cX6_addStep 8 = .ok (.iload_n 2, 1) := by decide +kernel
theorem dX6_addStep_9 : decode cX6_addStep 9 = .ok (.invokestatic 91, 3) := by decide +kernel
theorem dX6_addStep_12 : decode cX6_addStep 12 = .ok (.ifCond .eq 11, 3) := by decide +kernel
theorem dX6_addStep_15 : decode cX6_addStep 15 = .ok (.iload 4, 2) := by decide +kernel
theorem dX6_addStep_17 : decode cX6_addStep 17 = .ok (.invokestatic 91, 3) := by decide +kernel
theorem dX6_addStep_20 : decode cX6_addStep 20 = .ok (.ifCond .ne 22, 3) := by decide +kernel
theorem dX6_addStep_23 : decode cX6_addStep 23 = .ok (.aload_n 0, 1) := by decide +kernel
theorem dX6_addStep_24 : decode cX6_addStep 24 = .ok (.aload_n 0, 1) := by decide +kernel
theorem dX6_addStep_25 : decode cX6_addStep 25 = .ok (.iload_n 1, 1) := by decide +kernel
theorem dX6_addStep_26 : decode cX6_addStep 26 = .ok (.invokevirtual 121, 3) := by decide +kernel
theorem dX6_addStep_29 : decode cX6_addStep 29 = .ok (.ifCond .ne 7, 3) := by decide +kernel
theorem dX6_addStep_32 : decode cX6_addStep 32 = .ok (.iconst 1, 1) := by decide +kernel
theorem dX6_addStep_33 : decode cX6_addStep 33 = .ok (.goto 4, 3) := by decide +kernel
theorem dX6_addStep_36 : decode cX6_addStep 36 = .ok (.iconst 2, 1) := by decide +kernel
theorem dX6_addStep_37 : decode cX6_addStep 37 = .ok (.putfield 82, 3) := by decide +kernel
theorem dX6_addStep_40 : decode cX6_addStep 40 = .ok (.iconst (-1), 1) := by decide +kernel
theorem dX6_addStep_41 : decode cX6_addStep 41 = .ok (.ireturn, 1) := by decide +kernel
theorem dX6_addStep_42 : decode cX6_addStep 42 = .ok (.iload_n 3, 1) := by decide +kernel
theorem dX6_addStep_43 : decode cX6_addStep 43 = .ok (.i2l, 1) := by decide +kernel
theorem dX6_addStep_44 : decode cX6_addStep 44 = .ok (.lconst 0, 1) := by decide +kernel
theorem dX6_addStep_45 : decode cX6_addStep 45 = .ok (.ldc2_w 101, 3) := by decide +kernel
theorem dX6_addStep_48 : decode cX6_addStep 48 = .ok (.invokestatic 87, 3) := by decide +kernel
theorem dX6_addStep_51 : decode cX6_addStep 51 = .ok (.ifCond .eq 20, 3) := by decide +kernel
theorem dX6_addStep_54 : decode cX6_addStep 54 = .ok (.iload 5, 2) := by decide +kernel
theorem dX6_addStep_56 : decode cX6_addStep 56 = .ok (.i2l, 1) := by decide +kernel
theorem dX6_addStep_57 : decode cX6_addStep 57 = .ok (.lconst 0, 1) := by decide +kernel
theorem dX6_addStep_58 : decode cX6_addStep 58 = .ok (.ldc2_w 101, 3) := by decide +kernel
theorem dX6_addStep_61 : decode cX6_addStep 61 = .ok (.invokestatic 87, 3) := by decide +kernel
theorem dX6_addStep_64 : decode cX6_addStep 64 = .ok (.ifCond .eq 7, 3) := by decide +kernel
theorem dX6_addStep_67 : decode cX6_addStep 67 = .ok (.iconst 1, 1) := by decide +kernel
theorem dX6_addStep_68 : decode cX6_addStep 68 = .ok (.goto 4, 3) := by decide +kernel
theorem dX6_addStep_71 : decode cX6_addStep 71 = .ok (.iconst 0, 1) := by decide +kernel
theorem dX6_addStep_72 : decode cX6_addStep 72 = .ok (.istore 6, 2) := by decide +kernel
theorem dX6_addStep_74 : decode cX6_addStep 74 = .ok (.aload_n 0, 1) := by decide +kernel
theorem dX6_addStep_75 : decode cX6_addStep 75 = .ok (.iload 6, 2) := by decide +kernel
theorem dX6_addStep_77 : decode cX6_addStep 77 = .ok (.ifCond .ne 7, 3) := by decide +kernel
theorem dX6_addStep_80 : decode cX6_addStep 80 = .ok (.iconst 3, 1) := by decide +kernel
theorem dX6_addStep_81 : decode cX6_addStep 81 = .ok (.goto 19, 3) := by decide +kernel
theorem dX6_addStep_84 : decode cX6_addStep 84 = .ok (.aload_n 0, 1) := by decide +kernel
theorem dX6_addStep_85 : decode cX6_addStep 85 = .ok (.getfield 60, 3) := by decide +kernel
theorem dX6_addStep_88 : decode cX6_addStep 88 = .ok (.iload_n 1, 1) := by decide +kernel
theorem dX6_addStep_89 : decode cX6_addStep 89 = .ok (.iaload, 1) := by decide +kernel
theorem dX6_addStep_90 : decode cX6_addStep 90 = .ok (.bipush 8, 2) := by decide +kernel
theorem dX6_addStep_92 : decode cX6_addStep 92 = .ok (.if_icmp .ne 7, 3) := by decide +kernel
theorem dX6_addStep_95 : decode cX6_addStep 95 = .ok (.iconst 4, 1) := by decide +kernel
theorem dX6_addStep_96 : decode cX6_addStep 96 = .ok (.goto 4, 3) := by decide +kernel
theorem dX6_addStep_99 : decode cX6_addStep 99 = .ok (.iconst 0, 1) := by decide +kernel
theorem dX6_addStep_100 : decode cX6_addStep 100 = .ok (.putfield 82, 3) := by decide +kernel
theorem dX6_addStep_103 : decode cX6_addStep 103 = .ok (.aload_n 0, 1) := by decide +kernel
theorem dX6_addStep_104 : decode cX6_addStep 104 = .ok (.getfield 82, 3) := by decide +kernel
theorem dX6_addStep_107 : decode cX6_addStep 107 = .ok (.ifCond .le 5, 3) := by decide +kernel
theorem dX6_addStep_110 : decode cX6_addStep 110 = .ok (.iconst (-1), 1) := by decide +kernel
theorem dX6_addStep_111 : decode cX6_addStep 111 = .ok (.ireturn, 1) := by decide +kernel
theorem dX6_addStep_112 : decode cX6_addStep 112 = .ok (.bipush 8, 2) := by decide +kernel
theorem dX6_addStep_114 : decode cX6_addStep 114 = .ok (.iload_n 1, 1) := by decide +kernel
theorem dX6_addStep_115 : decode cX6_addStep 115 = .ok (.imul, 1) := by decide +kernel
theorem dX6_addStep_116 : decode cX6_addStep 116 = .ok (.aload_n 0, 1) := by decide +kernel
theorem dX6_addStep_117 : decode cX6_addStep 117 = .ok (.getfield 60, 3) := by decide +kernel
theorem dX6_addStep_120 : decode cX6_addStep 120 = .ok (.iload_n 1, 1) := by decide +kernel
theorem dX6_addStep_121 : decode cX6_addStep 121 = .ok (.iaload, 1) := by decide +kernel
theorem dX6_addStep_122 : decode cX6_addStep 122 = .ok (.iadd, 1) := by decide +kernel
theorem dX6_addStep_123 : decode cX6_addStep 123 = .ok (.istore 7, 2) := by decide +kernel
theorem dX6_addStep_125 : decode cX6_addStep 125 = .ok (.aload_n 0, 1) := by decide +kernel
theorem dX6_addStep_126 : decode cX6_addStep 126 = .ok (.getfield 39, 3) := by decide +kernel
theorem dX6_addStep_129 : decode cX6_addStep 129 = .ok (.iload 7, 2) := by decide +kernel
theorem dX6_addStep_131 : decode cX6_addStep 131 = .ok (.iload_n 2, 1) := by decide +kernel
theorem dX6_addStep_132 : decode cX6_addStep 132 = .ok (.iastore, 1) := by decide +kernel
theorem dX6_addStep_133 : decode cX6_addStep 133 = .ok (.aload_n 0, 1) := by decide +kernel
theorem dX6_addStep_134 : decode cX6_addStep 134 = .ok (.getfield 42, 3) := by decide +kernel
theorem dX6_addStep_137 : decode cX6_addStep 137 = .ok (.iload 7, 2) := by decide +kernel
theorem dX6_addStep_139 : decode cX6_addStep 139 = .ok (.iload_n 3, 1) := by decide +kernel
theorem dX6_addStep_140 : decode cX6_addStep 140 = .ok (.iastore, 1) := by decide +kernel
theorem dX6_addStep_141 : decode cX6_addStep 141 = .ok (.aload_n 0, 1) := by decide +kernel
theorem dX6_addStep_142 : decode cX6_addStep 142 = .ok (.getfield 45, 3) := by decide +kernel
theorem dX6_addStep_145 : decode cX6_addStep 145 = .ok (.iload 7, 2) := by decide +kernel
theorem dX6_addStep_147 : decode cX6_addStep 147 = .ok (.iload 4, 2) := by decide +kernel
theorem dX6_addStep_149 : decode cX6_addStep 149 = .ok (.iastore, 1) := by decide +kernel
theorem dX6_addStep_150 : decode cX6_addStep 150 = .ok (.aload_n 0, 1) := by decide +kernel
theorem dX6_addStep_151 : decode cX6_addStep 151 = .ok (.getfield 48, 3) := by decide +kernel
theorem dX6_addStep_154 : decode cX6_addStep 154 = .ok (.iload 7, 2) := by decide +kernel
theorem dX6_addStep_156 : decode cX6_addStep 156 = .ok (.iload 5, 2) := by decide +kernel
theorem dX6_addStep_158 : decode cX6_addStep 158 = .ok (.iastore, 1) := by decide +kernel
theorem dX6_addStep_159 : decode cX6_addStep 159 = .ok (.aload_n 0, 1) := by decide +kernel
theorem dX6_addStep_160 : decode cX6_addStep 160 = .ok (.getfield 54, 3) := by decide +kernel
theorem dX6_addStep_163 : decode cX6_addStep 163 = .ok (.iload 7, 2) := by decide +kernel
theorem dX6_addStep_165 : decode cX6_addStep 165 = .ok (.iconst (-1), 1) := by decide +kernel
theorem dX6_addStep_166 : decode cX6_addStep 166 = .ok (.iastore, 1) := by decide +kernel
theorem dX6_addStep_167 : decode cX6_addStep 167 = .ok (.aload_n 0, 1) := by decide +kernel
theorem dX6_addStep_168 : decode cX6_addStep 168 = .ok (.getfield 57, 3) := by decide +kernel
theorem dX6_addStep_171 : decode cX6_addStep 171 = .ok (.iload 7, 2) := by decide +kernel
theorem dX6_addStep_173 : decode cX6_addStep 173 = .ok (.iconst (-1), 1) := by decide +kernel
theorem dX6_addStep_174 : decode cX6_addStep 174 = .ok (.iastore, 1) := by decide +kernel
theorem dX6_addStep_175 : decode cX6_addStep 175 = .ok (.aload_n 0, 1) := by decide +kernel
theorem dX6_addStep_176 : decode cX6_addStep 176 = .ok (.getfield 60, 3) := by decide +kernel
theorem dX6_addStep_179 : decode cX6_addStep 179 = .ok (.iload_n 1, 1) := by decide +kernel
theorem dX6_addStep_180 : decode cX6_addStep 180 = .ok (.dup2, 1) := by decide +kernel
theorem dX6_addStep_181 : decode cX6_addStep 181 = .ok (.iaload, 1) := by decide +kernel
theorem dX6_addStep_182 : decode cX6_addStep 182 = .ok (.iconst 1, 1) := by decide +kernel
theorem dX6_addStep_183 : decode cX6_addStep 183 = .ok (.iadd, 1) := by decide +kernel
theorem dX6_addStep_184 : decode cX6_addStep 184 = .ok (.iastore, 1) := by decide +kernel
theorem dX6_addStep_185 : decode cX6_addStep 185 = .ok (.aload_n 0, 1) := by decide +kernel
theorem dX6_addStep_186 : decode cX6_addStep 186 = .ok (.getfield 60, 3) := by decide +kernel
theorem dX6_addStep_189 : decode cX6_addStep 189 = .ok (.iload_n 1, 1) := by decide +kernel
theorem dX6_addStep_190 : decode cX6_addStep 190 = .ok (.iaload, 1) := by decide +kernel
theorem dX6_addStep_191 : decode cX6_addStep 191 = .ok (.iconst 1, 1) := by decide +kernel
theorem dX6_addStep_192 : decode cX6_addStep 192 = .ok (.isub, 1) := by decide +kernel
theorem dX6_addStep_193 : decode cX6_addStep 193 = .ok (.ireturn, 1) := by decide +kernel
set_option maxRecDepth 20000 in
theorem ggX6_asks_X6_isProcedure : GoodIn wsX6_asks wsX6_isProcedure := goodIn_r _ [6, 7, 8, 9, 5, 10, 11, 12, 13, 14, 15, 16, 17, 18, 19, 20, 21, 22, 23, 24, 25, 26, 27, 28, 29, 30, 31, 32, 33, 34, 35, 36, 37, 38, 39] (by decide +kernel) (by decide +kernel)
set_option maxRecDepth 20000 in
theorem gX6_asks_X6_isProcedure : GoodIn wsX6_asks (wsV RX6 121 RX6 yX6_isProcedure wsX6_isProcedure) := goodIn_app (goodIn_of _ (by decide +kernel)) ggX6_asks_X6_isProcedure
theorem dX6_asks_0 : decode cX6_asks 0 = .ok (.aload_n 0, 1) := by decide +kernel
theorem dX6_asks_1 : decode cX6_asks 1 = .ok (.aload_n 0, 1) := by decide +kernel
theorem dX6_asks_2 : decode cX6_asks 2 = .ok (.iload_n 1, 1) := by decide +kernel
theorem dX6_asks_3 : decode cX6_asks 3 = .ok (.invokevirtual 121, 3) := by decide +kernel
theorem dX6_asks_6 : decode cX6_asks 6 = .ok (.ifCond .eq 7, 3) := by decide +kernel
theorem dX6_asks_9 : decode cX6_asks 9 = .ok (.iconst 0, 1) := by decide +kernel
theorem dX6_asks_10 : decode cX6_asks 10 = .ok (.goto 4, 3) := by decide +kernel
theorem dX6_asks_13 : decode cX6_asks 13 = .ok (.iconst 1, 1) := by decide +kernel
theorem dX6_asks_14 : decode cX6_asks 14 = .ok (.putfield 82, 3) := by decide +kernel
theorem dX6_asks_17 : decode cX6_asks 17 = .ok (.aload_n 0, 1) := by decide +kernel
theorem dX6_asks_18 : decode cX6_asks 18 = .ok (.getfield 82, 3) := by decide +kernel
theorem dX6_asks_21 : decode cX6_asks 21 = .ok (.ifCond .ne 7, 3) := by decide +kernel
theorem dX6_asks_24 : decode cX6_asks 24 = .ok (.iconst 1, 1) := by decide +kernel
theorem dX6_asks_25 : decode cX6_asks 25 = .ok (.goto 4, 3) := by decide +kernel
theorem dX6_asks_28 : decode cX6_asks 28 = .ok (.iconst 0, 1) := by decide +kernel
theorem dX6_asks_29 : decode cX6_asks 29 = .ok (.ireturn, 1) := by decide +kernel
set_option maxRecDepth 20000 in
theorem ggX6_done_X6_asks : GoodIn wsX6_done wsX6_asks := goodIn_r _ [6, 7, 8, 9, 10, 5, 11, 12, 13, 14, 15, 16, 17, 18, 19, 20, 21, 22, 23, 24, 25, 26, 27, 28, 29, 30, 31, 32, 33, 34, 35, 36, 37, 38, 39, 40, 41, 42, 43, 44] (by decide +kernel) (by decide +kernel)
set_option maxRecDepth 20000 in
theorem gX6_done_X6_asks : GoodIn wsX6_done (wsV RX6 124 RX6 yX6_asks wsX6_asks) := goodIn_app (goodIn_of _ (by decide +kernel)) ggX6_done_X6_asks
theorem dX6_done_0 : decode cX6_done 0 = .ok (.aload_n 0, 1) := by decide +kernel
theorem dX6_done_1 : decode cX6_done 1 = .ok (.iload_n 1, 1) := by decide +kernel
theorem dX6_done_2 : decode cX6_done 2 = .ok (.invokevirtual 124, 3) := by decide +kernel
theorem dX6_done_5 : decode cX6_done 5 = .ok (.ifCond .eq 12, 3) := by decide +kernel
theorem dX6_done_8 : decode cX6_done 8 = .ok (.aload_n 0, 1) := by decide +kernel
theorem dX6_done_9 : decode cX6_done 9 = .ok (.getfield 63, 3) := by decide +kernel
theorem dX6_done_12 : decode cX6_done 12 = .ok (.iload_n 1, 1) := by decide +kernel
theorem dX6_done_13 : decode cX6_done 13 = .ok (.iaload, 1) := by decide +kernel
theorem dX6_done_14 : decode cX6_done 14 = .ok (.goto 4, 3) := by decide +kernel
theorem dX6_done_17 : decode cX6_done 17 = .ok (.iconst (-1), 1) := by decide +kernel
theorem dX6_done_18 : decode cX6_done 18 = .ok (.ireturn, 1) := by decide +kernel
theorem dX6_tired_0 : decode cX6_tired 0 = .ok (.aload_n 0, 1) := by decide +kernel
theorem dX6_tired_1 : decode cX6_tired 1 = .ok (.getfield 72, 3) := by decide +kernel
theorem dX6_tired_4 : decode cX6_tired 4 = .ok (.iconst (-1), 1) := by decide +kernel
theorem dX6_tired_5 : decode cX6_tired 5 = .ok (.if_icmp .eq 21, 3) := by decide +kernel
theorem dX6_tired_8 : decode cX6_tired 8 = .ok (.aload_n 0, 1) := by decide +kernel
theorem dX6_tired_9 : decode cX6_tired 9 = .ok (.getfield 98, 3) := by decide +kernel
theorem dX6_tired_12 : decode cX6_tired 12 = .ok (.aload_n 0, 1) := by decide +kernel
theorem dX6_tired_13 : decode cX6_tired 13 = .ok (.getfield 127, 3) := by decide +kernel
theorem dX6_tired_16 : decode cX6_tired 16 = .ok (.isub, 1) := by decide +kernel
theorem dX6_tired_17 : decode cX6_tired 17 = .ok (.bipush 12, 2) := by decide +kernel
theorem dX6_tired_19 : decode cX6_tired 19 = .ok (.if_icmp .lt 7, 3) := by decide +kernel
theorem dX6_tired_22 : decode cX6_tired 22 = .ok (.iconst 1, 1) := by decide +kernel
theorem dX6_tired_23 : decode cX6_tired 23 = .ok (.goto 4, 3) := by decide +kernel
theorem dX6_tired_26 : decode cX6_tired 26 = .ok (.iconst 0, 1) := by decide +kernel
theorem dX6_tired_27 : decode cX6_tired 27 = .ok (.ireturn, 1) := by decide +kernel
theorem dX6_acts_0 : decode cX6_acts 0 = .ok (.aload_n 0, 1) := by decide +kernel
theorem dX6_acts_1 : decode cX6_acts 1 = .ok (.getfield 72, 3) := by decide +kernel
theorem dX6_acts_4 : decode cX6_acts 4 = .ok (.iconst (-1), 1) := by decide +kernel
theorem dX6_acts_5 : decode cX6_acts 5 = .ok (.if_icmp .eq 15, 3) := by decide +kernel
theorem dX6_acts_8 : decode cX6_acts 8 = .ok (.aload_n 0, 1) := by decide +kernel
theorem dX6_acts_9 : decode cX6_acts 9 = .ok (.getfield 76, 3) := by decide +kernel
theorem dX6_acts_12 : decode cX6_acts 12 = .ok (.iconst (-1), 1) := by decide +kernel
theorem dX6_acts_13 : decode cX6_acts 13 = .ok (.if_icmp .ne 7, 3) := by decide +kernel
theorem dX6_acts_16 : decode cX6_acts 16 = .ok (.iconst 1, 1) := by decide +kernel
theorem dX6_acts_17 : decode cX6_acts 17 = .ok (.goto 4, 3) := by decide +kernel
theorem dX6_acts_20 : decode cX6_acts 20 = .ok (.iconst 0, 1) := by decide +kernel
theorem dX6_acts_21 : decode cX6_acts 21 = .ok (.ireturn, 1) := by decide +kernel
theorem dX6_barring_0 : decode cX6_barring 0 = .ok (.iconst 0, 1) := by decide +kernel
theorem dX6_barring_1 : decode cX6_barring 1 = .ok (.istore_n 2, 1) := by decide +kernel
theorem dX6_barring_2 : decode cX6_barring 2 = .ok (.iload_n 2, 1) := by decide +kernel
theorem dX6_barring_3 : decode cX6_barring 3 = .ok (.aload_n 0, 1) := by decide +kernel
theorem dX6_barring_4 : decode cX6_barring 4 = .ok (.getfield 130, 3) := by decide +kernel
theorem dX6_barring_7 : decode cX6_barring 7 = .ok (.if_icmp .ge 39, 3) := by decide +kernel
theorem dX6_barring_10 : decode cX6_barring 10 = .ok (.aload_n 0, 1) := by decide +kernel
theorem dX6_barring_11 : decode cX6_barring 11 = .ok (.getfield 17, 3) := by decide +kernel
theorem dX6_barring_14 : decode cX6_barring 14 = .ok (.aload_n 0, 1) := by decide +kernel
theorem dX6_barring_15 : decode cX6_barring 15 = .ok (.getfield 69, 3) := by decide +kernel
theorem dX6_barring_18 : decode cX6_barring 18 = .ok (.iload_n 2, 1) := by decide +kernel
theorem dX6_barring_19 : decode cX6_barring 19 = .ok (.iaload, 1) := by decide +kernel
theorem dX6_barring_20 : decode cX6_barring 20 = .ok (.baload, 1) := by decide +kernel
theorem dX6_barring_21 : decode cX6_barring 21 = .ok (.ifCond .eq 19, 3) := by decide +kernel
theorem dX6_barring_24 : decode cX6_barring 24 = .ok (.aload_n 0, 1) := by decide +kernel
theorem dX6_barring_25 : decode cX6_barring 25 = .ok (.getfield 66, 3) := by decide +kernel
theorem dX6_barring_28 : decode cX6_barring 28 = .ok (.iload_n 2, 1) := by decide +kernel
theorem dX6_barring_29 : decode cX6_barring 29 = .ok (.iaload, 1) := by decide +kernel
theorem dX6_barring_30 : decode cX6_barring 30 = .ok (.iload_n 1, 1) := by decide +kernel
theorem dX6_barring_31 : decode cX6_barring 31 = .ok (.ishr, 1) := by decide +kernel
theorem dX6_barring_32 : decode cX6_barring 32 = .ok (.iconst 1, 1) := by decide +kernel
theorem dX6_barring_33 : decode cX6_barring 33 = .ok (.iand, 1) := by decide +kernel
theorem dX6_barring_34 : decode cX6_barring 34 = .ok (.iconst 1, 1) := by decide +kernel
theorem dX6_barring_35 : decode cX6_barring 35 = .ok (.if_icmp .ne 5, 3) := by decide +kernel
theorem dX6_barring_38 : decode cX6_barring 38 = .ok (.iload_n 2, 1) := by decide +kernel
theorem dX6_barring_39 : decode cX6_barring 39 = .ok (.ireturn, 1) := by decide +kernel
theorem dX6_barring_40 : decode cX6_barring 40 = .ok (.iinc 2 1, 3) := by decide +kernel
theorem dX6_barring_43 : decode cX6_barring 43 = .ok (.goto (-41), 3) := by decide +kernel
theorem dX6_barring_46 : decode cX6_barring 46 = .ok (.iconst (-1), 1) := by decide +kernel
theorem dX6_barring_47 : decode cX6_barring 47 = .ok (.ireturn, 1) := by decide +kernel
set_option maxRecDepth 20000 in
theorem ggX6_reasonOf_X6_acts : GoodIn wsX6_reasonOf wsX6_acts := goodIn_r _ [11, 12, 13, 28, 29, 30, 31, 32, 33, 34, 35, 36, 37, 38, 39, 40, 41, 42, 43, 44, 45, 46, 47, 48, 49, 50, 51, 52, 53, 54, 55, 56] (by decide +kernel) (by decide +kernel)
set_option maxRecDepth 20000 in
theorem gX6_reasonOf_X6_acts : GoodIn wsX6_reasonOf (wsV RX6 133 RX6 yX6_acts wsX6_acts) := goodIn_app (goodIn_of _ (by decide +kernel)) ggX6_reasonOf_X6_acts
set_option maxRecDepth 20000 in
theorem ggX6_reasonOf_X6_tired : GoodIn wsX6_reasonOf wsX6_tired := goodIn_r _ [17, 12, 18, 19, 28, 29, 30, 31, 32, 33, 34, 35, 36, 37, 38, 39, 40, 41, 42, 43, 44, 45, 46, 47, 48, 49, 50, 51, 52, 53, 54, 55, 56] (by decide +kernel) (by decide +kernel)
set_option maxRecDepth 20000 in
theorem gX6_reasonOf_X6_tired : GoodIn wsX6_reasonOf (wsV RX6 137 RX6 yX6_tired wsX6_tired) := goodIn_app (goodIn_of _ (by decide +kernel)) ggX6_reasonOf_X6_tired
set_option maxRecDepth 20000 in
theorem ggX6_reasonOf_X6_barring : GoodIn wsX6_reasonOf wsX6_barring := goodIn_ca (goodIn_r _ [23, 24, 25, 26, 27, 28, 29, 30, 31, 32, 33, 34, 35, 36, 37, 38, 39, 40, 41, 42, 43, 44, 45, 46, 47, 48, 49, 50, 51, 52, 53, 54, 55, 56] (by decide +kernel) (by decide +kernel)) (goodIn_sub (fun _ h => List.mem_cons_of_mem _ (List.mem_append_right _ h)) (by decide +kernel))
set_option maxRecDepth 20000 in
theorem gX6_reasonOf_X6_barring : GoodIn wsX6_reasonOf (wsV RX6 140 RX6 yX6_barring wsX6_barring) := goodIn_app (goodIn_of _ (by decide +kernel)) ggX6_reasonOf_X6_barring
theorem dX6_reasonOf_0 : decode cX6_reasonOf 0 = .ok (.aload_n 0, 1) := by decide +kernel
theorem dX6_reasonOf_1 : decode cX6_reasonOf 1 = .ok (.getfield 63, 3) := by decide +kernel
theorem dX6_reasonOf_4 : decode cX6_reasonOf 4 = .ok (.iload_n 1, 1) := by decide +kernel
theorem dX6_reasonOf_5 : decode cX6_reasonOf 5 = .ok (.iaload, 1) := by decide +kernel
theorem dX6_reasonOf_6 : decode cX6_reasonOf 6 = .ok (.aload_n 0, 1) := by decide +kernel
theorem dX6_reasonOf_7 : decode cX6_reasonOf 7 = .ok (.getfield 60, 3) := by decide +kernel
theorem dX6_reasonOf_10 : decode cX6_reasonOf 10 = .ok (.iload_n 1, 1) := by decide +kernel
theorem dX6_reasonOf_11 : decode cX6_reasonOf 11 = .ok (.iaload, 1) := by decide +kernel
theorem dX6_reasonOf_12 : decode cX6_reasonOf 12 = .ok (.if_icmp .ne 6, 3) := by decide +kernel
theorem dX6_reasonOf_15 : decode cX6_reasonOf 15 = .ok (.bipush 101, 2) := by decide +kernel
theorem dX6_reasonOf_17 : decode cX6_reasonOf 17 = .ok (.ireturn, 1) := by decide +kernel
theorem dX6_reasonOf_18 : decode cX6_reasonOf 18 = .ok (.aload_n 0, 1) := by decide +kernel
theorem dX6_reasonOf_19 : decode cX6_reasonOf 19 = .ok (.invokevirtual 133, 3) := by decide +kernel
theorem dX6_reasonOf_22 : decode cX6_reasonOf 22 = .ok (.ifCond .ne 6, 3) := by decide +kernel
theorem dX6_reasonOf_25 : decode cX6_reasonOf 25 = .ok (.bipush 100, 2) := by decide +kernel
theorem dX6_reasonOf_27 : decode cX6_reasonOf 27 = .ok (.ireturn, 1) := by decide +kernel
theorem dX6_reasonOf_28 : decode cX6_reasonOf 28 = .ok (.bipush 8, 2) := by decide +kernel
theorem dX6_reasonOf_30 : decode cX6_reasonOf 30 = .ok (.iload_n 1, 1) := by decide +kernel
theorem dX6_reasonOf_31 : decode cX6_reasonOf 31 = .ok (.imul, 1) := by decide +kernel
theorem dX6_reasonOf_32 : decode cX6_reasonOf 32 = .ok (.aload_n 0, 1) := by decide +kernel
theorem dX6_reasonOf_33 : decode cX6_reasonOf 33 = .ok (.getfield 63, 3) := by decide +kernel
theorem dX6_reasonOf_36 : decode cX6_reasonOf 36 = .ok (.iload_n 1, 1) := by decide +kernel
theorem dX6_reasonOf_37 : decode cX6_reasonOf 37 = .ok (.iaload, 1) := by decide +kernel
theorem dX6_reasonOf_38 : decode cX6_reasonOf 38 = .ok (.iadd, 1) := by decide +kernel
theorem dX6_reasonOf_39 : decode cX6_reasonOf 39 = .ok (.istore_n 2, 1) := by decide +kernel
theorem dX6_reasonOf_40 : decode cX6_reasonOf 40 = .ok (.aload_n 0, 1) := by decide +kernel
theorem dX6_reasonOf_41 : decode cX6_reasonOf 41 = .ok (.getfield 7, 3) := by decide +kernel
theorem dX6_reasonOf_44 : decode cX6_reasonOf 44 = .ok (.aload_n 0, 1) := by decide +kernel
theorem dX6_reasonOf_45 : decode cX6_reasonOf 45 = .ok (.getfield 39, 3) := by decide +kernel
theorem dX6_reasonOf_48 : decode cX6_reasonOf 48 = .ok (.iload_n 2, 1) := by decide +kernel
theorem dX6_reasonOf_49 : decode cX6_reasonOf 49 = .ok (.iaload, 1) := by decide +kernel
theorem dX6_reasonOf_50 : decode cX6_reasonOf 50 = .ok (.iaload, 1) := by decide +kernel
theorem dX6_reasonOf_51 : decode cX6_reasonOf 51 = .ok (.aload_n 0, 1) := by decide +kernel
theorem dX6_reasonOf_52 : decode cX6_reasonOf 52 = .ok (.getfield 42, 3) := by decide +kernel
theorem dX6_reasonOf_55 : decode cX6_reasonOf 55 = .ok (.iload_n 2, 1) := by decide +kernel
theorem dX6_reasonOf_56 : decode cX6_reasonOf 56 = .ok (.iaload, 1) := by decide +kernel
theorem dX6_reasonOf_57 : decode cX6_reasonOf 57 = .ok (.if_icmp .eq 7, 3) := by decide +kernel
theorem dX6_reasonOf_60 : decode cX6_reasonOf 60 = .ok (.iconst 1, 1) := by decide +kernel
theorem dX6_reasonOf_61 : decode cX6_reasonOf 61 = .ok (.goto 4, 3) := by decide +kernel
theorem dX6_reasonOf_64 : decode cX6_reasonOf 64 = .ok (.iconst 0, 1) := by decide +kernel
theorem dX6_reasonOf_65 : decode cX6_reasonOf 65 = .ok (.istore_n 3, 1) := by decide +kernel
theorem dX6_reasonOf_66 : decode cX6_reasonOf 66 = .ok (.aload_n 0, 1) := by decide +kernel
theorem dX6_reasonOf_67 : decode cX6_reasonOf 67 = .ok (.invokevirtual 137, 3) := by decide +kernel
theorem dX6_reasonOf_70 : decode cX6_reasonOf 70 = .ok (.ifCond .eq 8, 3) := by decide +kernel
theorem dX6_reasonOf_73 : decode cX6_reasonOf 73 = .ok (.bipush 116, 2) := by decide +kernel
theorem dX6_reasonOf_75 : decode cX6_reasonOf 75 = .ok (.goto 33, 3) := by decide +kernel
theorem dX6_reasonOf_78 : decode cX6_reasonOf 78 = .ok (.aload_n 0, 1) := by decide +kernel
theorem dX6_reasonOf_79 : decode cX6_reasonOf 79 = .ok (.aload_n 0, 1) := by decide +kernel
theorem dX6_reasonOf_80 : decode cX6_reasonOf 80 = .ok (.getfield 45, 3) := by decide +kernel
theorem dX6_reasonOf_83 : decode cX6_reasonOf 83 = .ok (.iload_n 2, 1) := by decide +kernel
theorem dX6_reasonOf_84 : decode cX6_reasonOf 84 = .ok (.iaload, 1) := by decide +kernel
theorem dX6_reasonOf_85 : decode cX6_reasonOf 85 = .ok (.invokevirtual 140, 3) := by decide +kernel
theorem dX6_reasonOf_88 : decode cX6_reasonOf 88 = .ok (.iconst (-1), 1) := by decide +kernel
theorem dX6_reasonOf_89 : decode cX6_reasonOf 89 = .ok (.if_icmp .eq 8, 3) := by decide +kernel
theorem dX6_reasonOf_92 : decode cX6_reasonOf 92 = .ok (.bipush 98, 2) := by decide +kernel
theorem dX6_reasonOf_94 : decode cX6_reasonOf 94 = .ok (.goto 14, 3) := by decide +kernel
theorem dX6_reasonOf_97 : decode cX6_reasonOf 97 = .ok (.iload_n 3, 1) := by decide +kernel
theorem dX6_reasonOf_98 : decode cX6_reasonOf 98 = .ok (.ifCond .eq 8, 3) := by decide +kernel
theorem dX6_reasonOf_101 : decode cX6_reasonOf 101 = .ok (.bipush 110, 2) := by decide +kernel
theorem dX6_reasonOf_103 : decode cX6_reasonOf 103 = .ok (.goto 5, 3) := by decide +kernel
theorem dX6_reasonOf_106 : decode cX6_reasonOf 106 = .ok (.bipush 45, 2) := by decide +kernel
theorem dX6_reasonOf_108 : decode cX6_reasonOf 108 = .ok (.ireturn, 1) := by decide +kernel
set_option maxRecDepth 20000 in
theorem ggX6_reason_X6_asks : GoodIn wsX6_reason wsX6_asks := goodIn_r _ [5, 6, 7, 8, 9, 4, 10, 11, 12, 13, 14, 45, 46, 47, 48, 49, 50, 51, 52, 53, 54, 55, 56, 57, 58, 59, 60, 61, 62, 63, 64, 65, 66, 67, 68, 69, 70, 71, 72, 73] (by decide +kernel) (by decide +kernel)
set_option maxRecDepth 20000 in
theorem gX6_reason_X6_asks : GoodIn wsX6_reason (wsV RX6 124 RX6 yX6_asks wsX6_asks) := goodIn_app (goodIn_of _ (by decide +kernel)) ggX6_reason_X6_asks
set_option maxRecDepth 20000 in
theorem ggX6_reason_X6_reasonOf : GoodIn wsX6_reason wsX6_reasonOf := goodIn_ca (goodIn_r _ [18, 19, 20, 21, 22, 23, 24, 25, 26, 27, 4, 28, 29, 30, 31, 32, 33, 34, 35, 36, 37, 38, 39, 40, 41, 42, 43, 44, 45, 46, 47, 48, 49, 50, 51, 52, 53, 54, 55, 56, 57, 58, 59, 60, 61, 62, 63, 64, 65, 66, 67, 68, 69, 70, 71, 72, 73] (by decide +kernel) (by decide +kernel)) (goodIn_sub (fun _ h => List.mem_cons_of_mem _ (List.mem_append_right _ h)) (by decide +kernel))
set_option maxRecDepth 20000 in
theorem gX6_reason_X6_reasonOf : GoodIn wsX6_reason (wsV RX6 144 RX6 yX6_reasonOf wsX6_reasonOf) := goodIn_app (goodIn_of _ (by decide +kernel)) ggX6_reason_X6_reasonOf
theorem dX6_reason_0 : decode cX6_reason 0 = .ok (.aload_n 0, 1) := by decide +kernel
theorem dX6_reason_1 : decode cX6_reason 1 = .ok (.iload_n 1, 1) := by decide +kernel
theorem dX6_reason_2 : decode cX6_reason 2 = .ok (.invokevirtual 124, 3) := by decide +kernel
theorem dX6_reason_5 : decode cX6_reason 5 = .ok (.ifCond .eq 11, 3) := by decide +kernel
theorem dX6_reason_8 : decode cX6_reason 8 = .ok (.aload_n 0, 1) := by decide +kernel
theorem dX6_reason_9 : decode cX6_reason 9 = .ok (.iload_n 1, 1) := by decide +kernel
theorem dX6_reason_10 : decode cX6_reason 10 = .ok (.invokevirtual 144, 3) := by decide +kernel
theorem dX6_reason_13 : decode cX6_reason 13 = .ok (.goto 5, 3) := by decide +kernel
theorem dX6_reason_16 : decode cX6_reason 16 = .ok (.bipush 32, 2) := by decide +kernel
theorem dX6_reason_18 : decode cX6_reason 18 = .ok (.ireturn, 1) := by decide +kernel
set_option maxRecDepth 20000 in
theorem ggX6_barredBy_X6_asks : GoodIn wsX6_barredBy wsX6_asks := goodIn_r _ [9, 4, 10, 11, 12, 8, 13, 14, 15, 16, 17, 26, 27, 28, 29, 30, 31, 32, 33, 34, 35, 36, 37, 38, 39, 40, 41, 42, 43, 44, 45, 46, 47, 48, 49, 50, 51, 52, 53, 54] (by decide +kernel) (by decide +kernel)
set_option maxRecDepth 20000 in
theorem gX6_barredBy_X6_asks : GoodIn wsX6_barredBy (wsV RX6 124 RX6 yX6_asks wsX6_asks) := goodIn_app (goodIn_of _ (by decide +kernel)) ggX6_barredBy_X6_asks
set_option maxRecDepth 20000 in
theorem ggX6_barredBy_X6_barring : GoodIn wsX6_barredBy wsX6_barring := goodIn_ca (goodIn_r _ [21, 22, 23, 24, 25, 26, 27, 28, 29, 30, 31, 32, 33, 34, 35, 36, 37, 38, 39, 40, 41, 42, 43, 44, 45, 46, 47, 48, 49, 50, 51, 52, 53, 54] (by decide +kernel) (by decide +kernel)) (goodIn_sub (fun _ h => List.mem_cons_of_mem _ (List.mem_append_right _ h)) (by decide +kernel))
set_option maxRecDepth 20000 in
theorem gX6_barredBy_X6_barring : GoodIn wsX6_barredBy (wsV RX6 140 RX6 yX6_barring wsX6_barring) := goodIn_app (goodIn_of _ (by decide +kernel)) ggX6_barredBy_X6_barring
theorem dX6_barredBy_0 : decode cX6_barredBy 0 = .ok (.aload_n 0, 1) := by decide +kernel
theorem dX6_barredBy_1 : decode cX6_barredBy 1 = .ok (.iload_n 1, 1) := by decide +kernel
theorem dX6_barredBy_2 : decode cX6_barredBy 2 = .ok (.invokevirtual 124, 3) := by decide +kernel
theorem dX6_barredBy_5 : decode cX6_barredBy 5 = .ok (.ifCond .ne 5, 3) := by decide +kernel
theorem dX6_barredBy_8 : decode cX6_barredBy 8 = .ok (.iconst (-1), 1) := by decide +kernel
theorem dX6_barredBy_9 : decode cX6_barredBy 9 = .ok (.ireturn, 1) := by decide +kernel
theorem dX6_barredBy_10 : decode cX6_barredBy 10 = .ok (.aload_n 0, 1) := by decide +kernel
theorem dX6_barredBy_11 : decode cX6_barredBy 11 = .ok (.getfield 63, 3) := by decide +kernel
theorem dX6_barredBy_14 : decode cX6_barredBy 14 = .ok (.iload_n 1, 1) := by decide +kernel
theorem dX6_barredBy_15 : decode cX6_barredBy 15 = .ok (.iaload, 1) := by decide +kernel
theorem dX6_barredBy_16 : decode cX6_barredBy 16 = .ok (.aload_n 0, 1) := by decide +kernel
theorem dX6_barredBy_17 : decode cX6_barredBy 17 = .ok (.getfield 60, 3) := by decide +kernel
theorem dX6_barredBy_20 : decode cX6_barredBy 20 = .ok (.iload_n 1, 1) := by decide +kernel
theorem dX6_barredBy_21 : decode cX6_barredBy 21 = .ok (.iaload, 1) := by decide +kernel
theorem dX6_barredBy_22 : decode cX6_barredBy 22 = .ok (.if_icmp .ne 7, 3) := by decide +kernel
theorem dX6_barredBy_25 : decode cX6_barredBy 25 = .ok (.iconst 1, 1) := by decide +kernel
theorem dX6_barredBy_26 : decode cX6_barredBy 26 = .ok (.goto 4, 3) := by decide +kernel
theorem dX6_barredBy_29 : decode cX6_barredBy 29 = .ok (.iconst 0, 1) := by decide +kernel
theorem dX6_barredBy_30 : decode cX6_barredBy 30 = .ok (.istore_n 2, 1) := by decide +kernel
theorem dX6_barredBy_31 : decode cX6_barredBy 31 = .ok (.iload_n 2, 1) := by decide +kernel
theorem dX6_barredBy_32 : decode cX6_barredBy 32 = .ok (.ifCond .eq 7, 3) := by decide +kernel
theorem dX6_barredBy_35 : decode cX6_barredBy 35 = .ok (.iconst (-1), 1) := by decide +kernel
theorem dX6_barredBy_36 : decode cX6_barredBy 36 = .ok (.goto 23, 3) := by decide +kernel
theorem dX6_barredBy_39 : decode cX6_barredBy 39 = .ok (.aload_n 0, 1) := by decide +kernel
theorem dX6_barredBy_40 : decode cX6_barredBy 40 = .ok (.aload_n 0, 1) := by decide +kernel
theorem dX6_barredBy_41 : decode cX6_barredBy 41 = .ok (.getfield 45, 3) := by decide +kernel
theorem dX6_barredBy_44 : decode cX6_barredBy 44 = .ok (.bipush 8, 2) := by decide +kernel
theorem dX6_barredBy_46 : decode cX6_barredBy 46 = .ok (.iload_n 1, 1) := by decide +kernel
theorem dX6_barredBy_47 : decode cX6_barredBy 47 = .ok (.imul, 1) := by decide +kernel
theorem dX6_barredBy_48 : decode cX6_barredBy 48 = .ok (.aload_n 0, 1) := by decide +kernel
theorem dX6_barredBy_49 : decode cX6_barredBy 49 = .ok (.getfield 63, 3) := by decide +kernel
theorem dX6_barredBy_52 : decode cX6_barredBy 52 = .ok (.iload_n 1, 1) := by decide +kernel
theorem dX6_barredBy_53 : decode cX6_barredBy 53 = .ok (.iaload, 1) := by decide +kernel
theorem dX6_barredBy_54 : decode cX6_barredBy 54 = .ok (.iadd, 1) := by decide +kernel
theorem dX6_barredBy_55 : decode cX6_barredBy 55 = .ok (.iaload, 1) := by decide +kernel
theorem dX6_barredBy_56 : decode cX6_barredBy 56 = .ok (.invokevirtual 140, 3) := by decide +kernel
theorem dX6_barredBy_59 : decode cX6_barredBy 59 = .ok (.istore_n 3, 1) := by decide +kernel
theorem dX6_barredBy_60 : decode cX6_barredBy 60 = .ok (.aload_n 0, 1) := by decide +kernel
theorem dX6_barredBy_61 : decode cX6_barredBy 61 = .ok (.iload_n 3, 1) := by decide +kernel
theorem dX6_barredBy_62 : decode cX6_barredBy 62 = .ok (.iconst (-1), 1) := by decide +kernel
theorem dX6_barredBy_63 : decode cX6_barredBy 63 = .ok (.if_icmp .ne 7, 3) := by decide +kernel
theorem dX6_barredBy_66 : decode cX6_barredBy 66 = .ok (.iconst 1, 1) := by decide +kernel
theorem dX6_barredBy_67 : decode cX6_barredBy 67 = .ok (.goto 4, 3) := by decide +kernel
theorem dX6_barredBy_70 : decode cX6_barredBy 70 = .ok (.iconst 0, 1) := by decide +kernel
theorem dX6_barredBy_71 : decode cX6_barredBy 71 = .ok (.putfield 82, 3) := by decide +kernel
theorem dX6_barredBy_74 : decode cX6_barredBy 74 = .ok (.iload_n 3, 1) := by decide +kernel
theorem dX6_barredBy_75 : decode cX6_barredBy 75 = .ok (.ireturn, 1) := by decide +kernel
theorem dX6_closesUndone_0 : decode cX6_closesUndone 0 = .ok (.aload_n 0, 1) := by decide +kernel
theorem dX6_closesUndone_1 : decode cX6_closesUndone 1 = .ok (.getfield 57, 3) := by decide +kernel
theorem dX6_closesUndone_4 : decode cX6_closesUndone 4 = .ok (.iload_n 1, 1) := by decide +kernel
theorem dX6_closesUndone_5 : decode cX6_closesUndone 5 = .ok (.iaload, 1) := by decide +kernel
theorem dX6_closesUndone_6 : decode cX6_closesUndone 6 = .ok (.istore_n 2, 1) := by decide +kernel
theorem dX6_closesUndone_7 : decode cX6_closesUndone 7 = .ok (.aload_n 0, 1) := by decide +kernel
theorem dX6_closesUndone_8 : decode cX6_closesUndone 8 = .ok (.getfield 57, 3) := by decide +kernel
theorem dX6_closesUndone_11 : decode cX6_closesUndone 11 = .ok (.iload_n 1, 1) := by decide +kernel
theorem dX6_closesUndone_12 : decode cX6_closesUndone 12 = .ok (.iconst (-1), 1) := by decide +kernel
theorem dX6_closesUndone_13 : decode cX6_closesUndone 13 = .ok (.iastore, 1) := by decide +kernel
theorem dX6_closesUndone_14 : decode cX6_closesUndone 14 = .ok (.iload_n 2, 1) := by decide +kernel
theorem dX6_closesUndone_15 : decode cX6_closesUndone 15 = .ok (.iconst (-1), 1) := by decide +kernel
theorem dX6_closesUndone_16 : decode cX6_closesUndone 16 = .ok (.if_icmp .eq 12, 3) := by decide +kernel
theorem dX6_closesUndone_19 : decode cX6_closesUndone 19 = .ok (.aload_n 0, 1) := by decide +kernel
theorem dX6_closesUndone_20 : decode cX6_closesUndone 20 = .ok (.getfield 17, 3) := by decide +kernel
theorem dX6_closesUndone_23 : decode cX6_closesUndone 23 = .ok (.iload_n 2, 1) := by decide +kernel
theorem dX6_closesUndone_24 : decode cX6_closesUndone 24 = .ok (.baload, 1) := by decide +kernel
theorem dX6_closesUndone_25 : decode cX6_closesUndone 25 = .ok (.ifCond .ne 5, 3) := by decide +kernel
theorem dX6_closesUndone_28 : decode cX6_closesUndone 28 = .ok (.iconst 0, 1) := by decide +kernel
theorem dX6_closesUndone_29 : decode cX6_closesUndone 29 = .ok (.ireturn, 1) := by decide +kernel
theorem dX6_closesUndone_30 : decode cX6_closesUndone 30 = .ok (.aload_n 0, 1) := by decide +kernel
theorem dX6_closesUndone_31 : decode cX6_closesUndone 31 = .ok (.getfield 17, 3) := by decide +kernel
theorem dX6_closesUndone_34 : decode cX6_closesUndone 34 = .ok (.iload_n 2, 1) := by decide +kernel
theorem dX6_closesUndone_35 : decode cX6_closesUndone 35 = .ok (.iconst 0, 1) := by decide +kernel
theorem dX6_closesUndone_36 : decode cX6_closesUndone 36 = .ok (.bastore, 1) := by decide +kernel
theorem dX6_closesUndone_37 : decode cX6_closesUndone 37 = .ok (.iconst 1, 1) := by decide +kernel
theorem dX6_closesUndone_38 : decode cX6_closesUndone 38 = .ok (.ireturn, 1) := by decide +kernel
set_option maxRecDepth 20000 in
theorem ggX6_step_X6_isProcedure : GoodIn wsX6_step wsX6_isProcedure := goodIn_r _ [13, 14, 15, 16, 12, 17, 49, 50, 51, 52, 53, 54, 55, 56, 57, 58, 59, 60, 61, 62, 63, 64, 65, 66, 67, 68, 69, 70, 71, 72, 73, 74, 75, 76, 77] (by decide +kernel) (by decide +kernel)
set_option maxRecDepth 20000 in
theorem gX6_step_X6_isProcedure : GoodIn wsX6_step (wsV RX6 121 RX6 yX6_isProcedure wsX6_isProcedure) := goodIn_app (goodIn_of _ (by decide +kernel)) ggX6_step_X6_isProcedure
set_option maxRecDepth 20000 in
theorem ggX6_step_X6_reasonOf : GoodIn wsX6_step wsX6_reasonOf := goodIn_ca (goodIn_r _ [21, 2, 22, 4, 23, 24, 5, 25, 26, 27, 12, 28, 29, 30, 31, 32, 33, 34, 8, 35, 36, 37, 38, 39, 40, 41, 42, 43, 49, 50, 51, 52, 53, 54, 55, 56, 57, 58, 59, 60, 61, 62, 63, 64, 65, 66, 67, 68, 69, 70, 71, 72, 73, 74, 75, 76, 77] (by decide +kernel) (by decide +kernel)) (goodIn_sub (fun _ h => List.mem_cons_of_mem _ (List.mem_append_right _ h)) (by decide +kernel))
set_option maxRecDepth 20000 in
theorem gX6_step_X6_reasonOf : GoodIn wsX6_step (wsV RX6 144 RX6 yX6_reasonOf wsX6_reasonOf) := goodIn_app (goodIn_of _ (by decide +kernel)) ggX6_step_X6_reasonOf
set_option maxRecDepth 20000 in
theorem ggX6_step_X6_closesUndone : GoodIn wsX6_step wsX6_closesUndone := goodIn_ca (goodIn_r _ [47, 48, 41, 49, 50, 51, 52, 53, 54, 55, 56, 57, 58, 59, 60, 61, 62, 63, 64, 65, 66, 67, 68, 69, 70, 71, 72, 73, 74, 75, 76, 77] (by decide +kernel) (by decide +kernel)) (goodIn_sub (fun _ h => List.mem_cons_of_mem _ (List.mem_append_right _ h)) (by decide +kernel))
set_option maxRecDepth 20000 in
theorem gX6_step_X6_closesUndone : GoodIn wsX6_step (wsV RX6 148 RX6 yX6_closesUndone wsX6_closesUndone) := goodIn_app (goodIn_of _ (by decide +kernel)) ggX6_step_X6_closesUndone
theorem dX6_step_0 : decode cX6_step 0 = .ok (.aload_n 0, 1) := by decide +kernel
theorem dX6_step_1 : decode cX6_step 1 = .ok (.aload_n 0, 1) := by decide +kernel
theorem dX6_step_2 : decode cX6_step 2 = .ok (.iload_n 1, 1) := by decide +kernel
theorem dX6_step_3 : decode cX6_step 3 = .ok (.invokevirtual 121, 3) := by decide +kernel
theorem dX6_step_6 : decode cX6_step 6 = .ok (.ifCond .ne 7, 3) := by decide +kernel
theorem dX6_step_9 : decode cX6_step 9 = .ok (.iconst 1, 1) := by decide +kernel
theorem dX6_step_10 : decode cX6_step 10 = .ok (.goto 18, 3) := by decide +kernel
theorem dX6_step_13 : decode cX6_step 13 = .ok (.aload_n 0, 1) := by decide +kernel
theorem dX6_step_14 : decode cX6_step 14 = .ok (.iload_n 1, 1) := by decide +kernel
theorem dX6_step_15 : decode cX6_step 15 = .ok (.invokevirtual 144, 3) := by decide +kernel
theorem dX6_step_18 : decode cX6_step 18 = .ok (.bipush 45, 2) := by decide +kernel
theorem dX6_step_20 : decode cX6_step 20 = .ok (.if_icmp .eq 7, 3) := by decide +kernel
theorem dX6_step_23 : decode cX6_step 23 = .ok (.iconst 2, 1) := by decide +kernel
theorem dX6_step_24 : decode cX6_step 24 = .ok (.goto 4, 3) := by decide +kernel
theorem dX6_step_27 : decode cX6_step 27 = .ok (.iconst 0, 1) := by decide +kernel
theorem dX6_step_28 : decode cX6_step 28 = .ok (.putfield 82, 3) := by decide +kernel
theorem dX6_step_31 : decode cX6_step 31 = .ok (.aload_n 0, 1) := by decide +kernel
theorem dX6_step_32 : decode cX6_step 32 = .ok (.getfield 82, 3) := by decide +kernel
theorem dX6_step_35 : decode cX6_step 35 = .ok (.ifCond .le 5, 3) := by decide +kernel
theorem dX6_step_38 : decode cX6_step 38 = .ok (.iconst (-1), 1) := by decide +kernel
theorem dX6_step_39 : decode cX6_step 39 = .ok (.ireturn, 1) := by decide +kernel
theorem dX6_step_40 : decode cX6_step 40 = .ok (.bipush 8, 2) := by decide +kernel
theorem dX6_step_42 : decode cX6_step 42 = .ok (.iload_n 1, 1) := by decide +kernel
theorem dX6_step_43 : decode cX6_step 43 = .ok (.imul, 1) := by decide +kernel
theorem dX6_step_44 : decode cX6_step 44 = .ok (.aload_n 0, 1) := by decide +kernel
theorem dX6_step_45 : decode cX6_step 45 = .ok (.getfield 63, 3) := by decide +kernel
theorem dX6_step_48 : decode cX6_step 48 = .ok (.iload_n 1, 1) := by decide +kernel
theorem dX6_step_49 : decode cX6_step 49 = .ok (.iaload, 1) := by decide +kernel
theorem dX6_step_50 : decode cX6_step 50 = .ok (.iadd, 1) := by decide +kernel
theorem dX6_step_51 : decode cX6_step 51 = .ok (.istore_n 2, 1) := by decide +kernel
theorem dX6_step_52 : decode cX6_step 52 = .ok (.aload_n 0, 1) := by decide +kernel
theorem dX6_step_53 : decode cX6_step 53 = .ok (.getfield 51, 3) := by decide +kernel
theorem dX6_step_56 : decode cX6_step 56 = .ok (.iload_n 2, 1) := by decide +kernel
theorem dX6_step_57 : decode cX6_step 57 = .ok (.aload_n 0, 1) := by decide +kernel
theorem dX6_step_58 : decode cX6_step 58 = .ok (.getfield 7, 3) := by decide +kernel
theorem dX6_step_61 : decode cX6_step 61 = .ok (.aload_n 0, 1) := by decide +kernel
theorem dX6_step_62 : decode cX6_step 62 = .ok (.getfield 45, 3) := by decide +kernel
theorem dX6_step_65 : decode cX6_step 65 = .ok (.iload_n 2, 1) := by decide +kernel
theorem dX6_step_66 : decode cX6_step 66 = .ok (.iaload, 1) := by decide +kernel
theorem dX6_step_67 : decode cX6_step 67 = .ok (.iaload, 1) := by decide +kernel
theorem dX6_step_68 : decode cX6_step 68 = .ok (.iastore, 1) := by decide +kernel
theorem dX6_step_69 : decode cX6_step 69 = .ok (.aload_n 0, 1) := by decide +kernel
theorem dX6_step_70 : decode cX6_step 70 = .ok (.getfield 7, 3) := by decide +kernel
theorem dX6_step_73 : decode cX6_step 73 = .ok (.aload_n 0, 1) := by decide +kernel
theorem dX6_step_74 : decode cX6_step 74 = .ok (.getfield 45, 3) := by decide +kernel
theorem dX6_step_77 : decode cX6_step 77 = .ok (.iload_n 2, 1) := by decide +kernel
theorem dX6_step_78 : decode cX6_step 78 = .ok (.iaload, 1) := by decide +kernel
theorem dX6_step_79 : decode cX6_step 79 = .ok (.aload_n 0, 1) := by decide +kernel
theorem dX6_step_80 : decode cX6_step 80 = .ok (.getfield 48, 3) := by decide +kernel
theorem dX6_step_83 : decode cX6_step 83 = .ok (.iload_n 2, 1) := by decide +kernel
theorem dX6_step_84 : decode cX6_step 84 = .ok (.iaload, 1) := by decide +kernel
theorem dX6_step_85 : decode cX6_step 85 = .ok (.iastore, 1) := by decide +kernel
theorem dX6_step_86 : decode cX6_step 86 = .ok (.aload_n 0, 1) := by decide +kernel
theorem dX6_step_87 : decode cX6_step 87 = .ok (.getfield 54, 3) := by decide +kernel
theorem dX6_step_90 : decode cX6_step 90 = .ok (.iload_n 2, 1) := by decide +kernel
theorem dX6_step_91 : decode cX6_step 91 = .ok (.aload_n 0, 1) := by decide +kernel
theorem dX6_step_92 : decode cX6_step 92 = .ok (.getfield 98, 3) := by decide +kernel
theorem dX6_step_95 : decode cX6_step 95 = .ok (.iastore, 1) := by decide +kernel
theorem dX6_step_96 : decode cX6_step 96 = .ok (.aload_n 0, 1) := by decide +kernel
theorem dX6_step_97 : decode cX6_step 97 = .ok (.iload_n 2, 1) := by decide +kernel
theorem dX6_step_98 : decode cX6_step 98 = .ok (.invokevirtual 148, 3) := by decide +kernel
theorem dX6_step_101 : decode cX6_step 101 = .ok (.pop, 1) := by decide +kernel
theorem dX6_step_102 : decode cX6_step 102 = .ok (.aload_n 0, 1) := by decide +kernel
theorem dX6_step_103 : decode cX6_step 103 = .ok (.getfield 63, 3) := by decide +kernel
theorem dX6_step_106 : decode cX6_step 106 = .ok (.iload_n 1, 1) := by decide +kernel
theorem dX6_step_107 : decode cX6_step 107 = .ok (.dup2, 1) := by decide +kernel
theorem dX6_step_108 : decode cX6_step 108 = .ok (.iaload, 1) := by decide +kernel
theorem dX6_step_109 : decode cX6_step 109 = .ok (.iconst 1, 1) := by decide +kernel
theorem dX6_step_110 : decode cX6_step 110 = .ok (.iadd, 1) := by decide +kernel
theorem dX6_step_111 : decode cX6_step 111 = .ok (.iastore, 1) := by decide +kernel
theorem dX6_step_112 : decode cX6_step 112 = .ok (.aload_n 0, 1) := by decide +kernel
theorem dX6_step_113 : decode cX6_step 113 = .ok (.getfield 63, 3) := by decide +kernel
theorem dX6_step_116 : decode cX6_step 116 = .ok (.iload_n 1, 1) := by decide +kernel
theorem dX6_step_117 : decode cX6_step 117 = .ok (.iaload, 1) := by decide +kernel
theorem dX6_step_118 : decode cX6_step 118 = .ok (.iconst 1, 1) := by decide +kernel
theorem dX6_step_119 : decode cX6_step 119 = .ok (.isub, 1) := by decide +kernel
theorem dX6_step_120 : decode cX6_step 120 = .ok (.ireturn, 1) := by decide +kernel
set_option maxRecDepth 20000 in
theorem ggX6_undo_X6_isProcedure : GoodIn wsX6_undo wsX6_isProcedure := goodIn_r _ [13, 14, 15, 16, 12, 17, 41, 42, 43, 44, 45, 46, 47, 48, 49, 50, 51, 52, 53, 54, 55, 56, 57, 58, 59, 60, 61, 62, 63, 64, 65, 66, 67, 68, 69] (by decide +kernel) (by decide +kernel)
set_option maxRecDepth 20000 in
theorem gX6_undo_X6_isProcedure : GoodIn wsX6_undo (wsV RX6 121 RX6 yX6_isProcedure wsX6_isProcedure) := goodIn_app (goodIn_of _ (by decide +kernel)) ggX6_undo_X6_isProcedure
set_option maxRecDepth 20000 in
theorem ggX6_undo_X6_acts : GoodIn wsX6_undo wsX6_acts := goodIn_r _ [21, 22, 23, 41, 42, 43, 44, 45, 46, 47, 48, 49, 50, 51, 52, 53, 54, 55, 56, 57, 58, 59, 60, 61, 62, 63, 64, 65, 66, 67, 68, 69] (by decide +kernel) (by decide +kernel)
set_option maxRecDepth 20000 in
theorem gX6_undo_X6_acts : GoodIn wsX6_undo (wsV RX6 133 RX6 yX6_acts wsX6_acts) := goodIn_app (goodIn_of _ (by decide +kernel)) ggX6_undo_X6_acts
set_option maxRecDepth 20000 in
theorem ggX6_undo_X6_barring : GoodIn wsX6_undo wsX6_barring := goodIn_ca (goodIn_r _ [27, 28, 29, 30, 31, 41, 42, 43, 44, 45, 46, 47, 48, 49, 50, 51, 52, 53, 54, 55, 56, 57, 58, 59, 60, 61, 62, 63, 64, 65, 66, 67, 68, 69] (by decide +kernel) (by decide +kernel)) (goodIn_sub (fun _ h => List.mem_cons_of_mem _ (List.mem_append_right _ h)) (by decide +kernel))
set_option maxRecDepth 20000 in
theorem gX6_undo_X6_barring : GoodIn wsX6_undo (wsV RX6 140 RX6 yX6_barring wsX6_barring) := goodIn_app (goodIn_of _ (by decide +kernel)) ggX6_undo_X6_barring
set_option maxRecDepth 20000 in
theorem ggX6_undo_X6_opens : GoodIn wsX6_undo wsX6_opens := goodIn_ca (goodIn_r _ [35, 36, 2, 29, 37, 38, 39, 40, 41, 42, 43, 44, 45, 46, 47, 48, 49, 50, 51, 52, 53, 54, 55, 56, 57, 58, 59, 60, 61, 62, 63, 64, 65, 66, 67, 68, 69] (by decide +kernel) (by decide +kernel)) (goodIn_sub (fun _ h => List.mem_cons_of_mem _ (List.mem_append_right _ h)) (by decide +kernel))
set_option maxRecDepth 20000 in
theorem gX6_undo_X6_opens : GoodIn wsX6_undo (wsV RX6 109 RX6 yX6_opens wsX6_opens) := goodIn_app (goodIn_of _ (by decide +kernel)) ggX6_undo_X6_opens
theorem dX6_undo_0 : decode cX6_undo 0 = .ok (.aload_n 0, 1) := by decide +kernel
theorem dX6_undo_1 : decode cX6_undo 1 = .ok (.iload_n 1, 1) := by decide +kernel
theorem dX6_undo_2 : decode cX6_undo 2 = .ok (.invokevirtual 121, 3) := by decide +kernel
theorem dX6_undo_5 : decode cX6_undo 5 = .ok (.ifCond .eq 28, 3) := by decide +kernel
theorem dX6_undo_8 : decode cX6_undo 8 = .ok (.aload_n 0, 1) := by decide +kernel
theorem dX6_undo_9 : decode cX6_undo 9 = .ok (.getfield 63, 3) := by decide +kernel
theorem dX6_undo_12 : decode cX6_undo 12 = .ok (.iload_n 1, 1) := by decide +kernel
theorem dX6_undo_13 : decode cX6_undo 13 = .ok (.iaload, 1) := by decide +kernel
theorem dX6_undo_14 : decode cX6_undo 14 = .ok (.ifCond .eq 19, 3) := by decide +kernel
theorem dX6_undo_17 : decode cX6_undo 17 = .ok (.aload_n 0, 1) := by decide +kernel
theorem dX6_undo_18 : decode cX6_undo 18 = .ok (.invokevirtual 133, 3) := by decide +kernel
theorem dX6_undo_21 : decode cX6_undo 21 = .ok (.ifCond .eq 12, 3) := by decide +kernel
theorem dX6_undo_24 : decode cX6_undo 24 = .ok (.aload_n 0, 1) := by decide +kernel
theorem dX6_undo_25 : decode cX6_undo 25 = .ok (.getfield 95, 3) := by decide +kernel
theorem dX6_undo_28 : decode cX6_undo 28 = .ok (.bipush 60, 2) := by decide +kernel
theorem dX6_undo_30 : decode cX6_undo 30 = .ok (.if_icmp .ne 22, 3) := by decide +kernel
theorem dX6_undo_33 : decode cX6_undo 33 = .ok (.aload_n 0, 1) := by decide +kernel
theorem dX6_undo_34 : decode cX6_undo 34 = .ok (.aload_n 0, 1) := by decide +kernel
theorem dX6_undo_35 : decode cX6_undo 35 = .ok (.iload_n 1, 1) := by decide +kernel
theorem dX6_undo_36 : decode cX6_undo 36 = .ok (.invokevirtual 121, 3) := by decide +kernel
theorem dX6_undo_39 : decode cX6_undo 39 = .ok (.ifCond .ne 7, 3) := by decide +kernel
theorem dX6_undo_42 : decode cX6_undo 42 = .ok (.iconst 1, 1) := by decide +kernel
theorem dX6_undo_43 : decode cX6_undo 43 = .ok (.goto 4, 3) := by decide +kernel
theorem dX6_undo_46 : decode cX6_undo 46 = .ok (.iconst 2, 1) := by decide +kernel
theorem dX6_undo_47 : decode cX6_undo 47 = .ok (.putfield 82, 3) := by decide +kernel
theorem dX6_undo_50 : decode cX6_undo 50 = .ok (.iconst (-1), 1) := by decide +kernel
theorem dX6_undo_51 : decode cX6_undo 51 = .ok (.ireturn, 1) := by decide +kernel
theorem dX6_undo_52 : decode cX6_undo 52 = .ok (.bipush 8, 2) := by decide +kernel
theorem dX6_undo_54 : decode cX6_undo 54 = .ok (.iload_n 1, 1) := by decide +kernel
theorem dX6_undo_55 : decode cX6_undo 55 = .ok (.imul, 1) := by decide +kernel
theorem dX6_undo_56 : decode cX6_undo 56 = .ok (.aload_n 0, 1) := by decide +kernel
theorem dX6_undo_57 : decode cX6_undo 57 = .ok (.getfield 63, 3) := by decide +kernel
theorem dX6_undo_60 : decode cX6_undo 60 = .ok (.iload_n 1, 1) := by decide +kernel
theorem dX6_undo_61 : decode cX6_undo 61 = .ok (.iaload, 1) := by decide +kernel
theorem dX6_undo_62 : decode cX6_undo 62 = .ok (.iadd, 1) := by decide +kernel
theorem dX6_undo_63 : decode cX6_undo 63 = .ok (.iconst 1, 1) := by decide +kernel
theorem dX6_undo_64 : decode cX6_undo 64 = .ok (.isub, 1) := by decide +kernel
theorem dX6_undo_65 : decode cX6_undo 65 = .ok (.istore_n 2, 1) := by decide +kernel
theorem dX6_undo_66 : decode cX6_undo 66 = .ok (.aload_n 0, 1) := by decide +kernel
theorem dX6_undo_67 : decode cX6_undo 67 = .ok (.aload_n 0, 1) := by decide +kernel
theorem dX6_undo_68 : decode cX6_undo 68 = .ok (.getfield 7, 3) := by decide +kernel
theorem dX6_undo_71 : decode cX6_undo 71 = .ok (.aload_n 0, 1) := by decide +kernel
theorem dX6_undo_72 : decode cX6_undo 72 = .ok (.getfield 45, 3) := by decide +kernel
theorem dX6_undo_75 : decode cX6_undo 75 = .ok (.iload_n 2, 1) := by decide +kernel
theorem dX6_undo_76 : decode cX6_undo 76 = .ok (.iaload, 1) := by decide +kernel
theorem dX6_undo_77 : decode cX6_undo 77 = .ok (.iaload, 1) := by decide +kernel
theorem dX6_undo_78 : decode cX6_undo 78 = .ok (.aload_n 0, 1) := by decide +kernel
theorem dX6_undo_79 : decode cX6_undo 79 = .ok (.getfield 48, 3) := by decide +kernel
theorem dX6_undo_82 : decode cX6_undo 82 = .ok (.iload_n 2, 1) := by decide +kernel
theorem dX6_undo_83 : decode cX6_undo 83 = .ok (.iaload, 1) := by decide +kernel
theorem dX6_undo_84 : decode cX6_undo 84 = .ok (.if_icmp .ne 17, 3) := by decide +kernel
theorem dX6_undo_87 : decode cX6_undo 87 = .ok (.aload_n 0, 1) := by decide +kernel
theorem dX6_undo_88 : decode cX6_undo 88 = .ok (.aload_n 0, 1) := by decide +kernel
theorem dX6_undo_89 : decode cX6_undo 89 = .ok (.getfield 45, 3) := by decide +kernel
theorem dX6_undo_92 : decode cX6_undo 92 = .ok (.iload_n 2, 1) := by decide +kernel
theorem dX6_undo_93 : decode cX6_undo 93 = .ok (.iaload, 1) := by decide +kernel
theorem dX6_undo_94 : decode cX6_undo 94 = .ok (.invokevirtual 140, 3) := by decide +kernel
theorem dX6_undo_97 : decode cX6_undo 97 = .ok (.iconst (-1), 1) := by decide +kernel
theorem dX6_undo_98 : decode cX6_undo 98 = .ok (.if_icmp .eq 7, 3) := by decide +kernel
theorem dX6_undo_101 : decode cX6_undo 101 = .ok (.iconst 3, 1) := by decide +kernel
theorem dX6_undo_102 : decode cX6_undo 102 = .ok (.goto 4, 3) := by decide +kernel
theorem dX6_undo_105 : decode cX6_undo 105 = .ok (.iconst 0, 1) := by decide +kernel
theorem dX6_undo_106 : decode cX6_undo 106 = .ok (.putfield 82, 3) := by decide +kernel
theorem dX6_undo_109 : decode cX6_undo 109 = .ok (.aload_n 0, 1) := by decide +kernel
theorem dX6_undo_110 : decode cX6_undo 110 = .ok (.getfield 82, 3) := by decide +kernel
theorem dX6_undo_113 : decode cX6_undo 113 = .ok (.ifCond .le 5, 3) := by decide +kernel
theorem dX6_undo_116 : decode cX6_undo 116 = .ok (.iconst (-1), 1) := by decide +kernel
theorem dX6_undo_117 : decode cX6_undo 117 = .ok (.ireturn, 1) := by decide +kernel
theorem dX6_undo_118 : decode cX6_undo 118 = .ok (.aload_n 0, 1) := by decide +kernel
theorem dX6_undo_119 : decode cX6_undo 119 = .ok (.getfield 7, 3) := by decide +kernel
theorem dX6_undo_122 : decode cX6_undo 122 = .ok (.aload_n 0, 1) := by decide +kernel
theorem dX6_undo_123 : decode cX6_undo 123 = .ok (.getfield 45, 3) := by decide +kernel
theorem dX6_undo_126 : decode cX6_undo 126 = .ok (.iload_n 2, 1) := by decide +kernel
theorem dX6_undo_127 : decode cX6_undo 127 = .ok (.iaload, 1) := by decide +kernel
theorem dX6_undo_128 : decode cX6_undo 128 = .ok (.aload_n 0, 1) := by decide +kernel
theorem dX6_undo_129 : decode cX6_undo 129 = .ok (.getfield 51, 3) := by decide +kernel
theorem dX6_undo_132 : decode cX6_undo 132 = .ok (.iload_n 2, 1) := by decide +kernel
theorem dX6_undo_133 : decode cX6_undo 133 = .ok (.iaload, 1) := by decide +kernel
theorem dX6_undo_134 : decode cX6_undo 134 = .ok (.iastore, 1) := by decide +kernel
theorem dX6_undo_135 : decode cX6_undo 135 = .ok (.aload_n 0, 1) := by decide +kernel
theorem dX6_undo_136 : decode cX6_undo 136 = .ok (.getfield 63, 3) := by decide +kernel
theorem dX6_undo_139 : decode cX6_undo 139 = .ok (.iload_n 1, 1) := by decide +kernel
theorem dX6_undo_140 : decode cX6_undo 140 = .ok (.dup2, 1) := by decide +kernel
theorem dX6_undo_141 : decode cX6_undo 141 = .ok (.iaload, 1) := by decide +kernel
theorem dX6_undo_142 : decode cX6_undo 142 = .ok (.iconst 1, 1) := by decide +kernel
theorem dX6_undo_143 : decode cX6_undo 143 = .ok (.isub, 1) := by decide +kernel
theorem dX6_undo_144 : decode cX6_undo 144 = .ok (.iastore, 1) := by decide +kernel
theorem dX6_undo_145 : decode cX6_undo 145 = .ok (.aload_n 0, 1) := by decide +kernel
theorem dX6_undo_146 : decode cX6_undo 146 = .ok (.getfield 57, 3) := by decide +kernel
theorem dX6_undo_149 : decode cX6_undo 149 = .ok (.iload_n 2, 1) := by decide +kernel
theorem dX6_undo_150 : decode cX6_undo 150 = .ok (.aload_n 0, 1) := by decide +kernel
theorem dX6_undo_151 : decode cX6_undo 151 = .ok (.bipush 115, 2) := by decide +kernel
theorem dX6_undo_153 : decode cX6_undo 153 = .ok (.invokevirtual 109, 3) := by decide +kernel
theorem dX6_undo_156 : decode cX6_undo 156 = .ok (.iastore, 1) := by decide +kernel
theorem dX6_undo_157 : decode cX6_undo 157 = .ok (.aload_n 0, 1) := by decide +kernel
theorem dX6_undo_158 : decode cX6_undo 158 = .ok (.getfield 57, 3) := by decide +kernel
theorem dX6_undo_161 : decode cX6_undo 161 = .ok (.iload_n 2, 1) := by decide +kernel
theorem dX6_undo_162 : decode cX6_undo 162 = .ok (.iaload, 1) := by decide +kernel
theorem dX6_undo_163 : decode cX6_undo 163 = .ok (.ireturn, 1) := by decide +kernel
set_option maxRecDepth 20000 in
theorem ggX6_reset_X6_isProcedure : GoodIn wsX6_reset wsX6_isProcedure := goodIn_r _ [8, 9, 10, 11, 7, 12, 25, 26, 27, 28, 29, 30, 31, 32, 33, 34, 35, 36, 37, 38, 39, 40, 41, 42, 43, 44, 45, 46, 47, 48, 49, 50, 51, 52, 53] (by decide +kernel) (by decide +kernel)
set_option maxRecDepth 20000 in
theorem gX6_reset_X6_isProcedure : GoodIn wsX6_reset (wsV RX6 121 RX6 yX6_isProcedure wsX6_isProcedure) := goodIn_app (goodIn_of _ (by decide +kernel)) ggX6_reset_X6_isProcedure
set_option maxRecDepth 20000 in
theorem ggX6_reset_X6_acts : GoodIn wsX6_reset wsX6_acts := goodIn_r _ [16, 17, 18, 25, 26, 27, 28, 29, 30, 31, 32, 33, 34, 35, 36, 37, 38, 39, 40, 41, 42, 43, 44, 45, 46, 47, 48, 49, 50, 51, 52, 53] (by decide +kernel) (by decide +kernel)
set_option maxRecDepth 20000 in
theorem gX6_reset_X6_acts : GoodIn wsX6_reset (wsV RX6 133 RX6 yX6_acts wsX6_acts) := goodIn_app (goodIn_of _ (by decide +kernel)) ggX6_reset_X6_acts
set_option maxRecDepth 20000 in
theorem ggX6_reset_X6_closesUndone : GoodIn wsX6_reset wsX6_closesUndone := goodIn_ca (goodIn_r _ [22, 23, 24, 25, 26, 27, 28, 29, 30, 31, 32, 33, 34, 35, 36, 37, 38, 39, 40, 41, 42, 43, 44, 45, 46, 47, 48, 49, 50, 51, 52, 53] (by decide +kernel) (by decide +kernel)) (goodIn_sub (fun _ h => List.mem_cons_of_mem _ (List.mem_append_right _ h)) (by decide +kernel))
set_option maxRecDepth 20000 in
theorem gX6_reset_X6_closesUndone : GoodIn wsX6_reset (wsV RX6 148 RX6 yX6_closesUndone wsX6_closesUndone) := goodIn_app (goodIn_of _ (by decide +kernel)) ggX6_reset_X6_closesUndone
theorem dX6_reset_0 : decode cX6_reset 0 = .ok (.aload_n 0, 1) := by decide +kernel
theorem dX6_reset_1 : decode cX6_reset 1 = .ok (.aload_n 0, 1) := by decide +kernel
theorem dX6_reset_2 : decode cX6_reset 2 = .ok (.iload_n 1, 1) := by decide +kernel
theorem dX6_reset_3 : decode cX6_reset 3 = .ok (.invokevirtual 121, 3) := by decide +kernel
theorem dX6_reset_6 : decode cX6_reset 6 = .ok (.ifCond .ne 7, 3) := by decide +kernel
theorem dX6_reset_9 : decode cX6_reset 9 = .ok (.iconst 1, 1) := by decide +kernel
theorem dX6_reset_10 : decode cX6_reset 10 = .ok (.goto 15, 3) := by decide +kernel
theorem dX6_reset_13 : decode cX6_reset 13 = .ok (.aload_n 0, 1) := by decide +kernel
theorem dX6_reset_14 : decode cX6_reset 14 = .ok (.invokevirtual 133, 3) := by decide +kernel
theorem dX6_reset_17 : decode cX6_reset 17 = .ok (.ifCond .ne 7, 3) := by decide +kernel
theorem dX6_reset_20 : decode cX6_reset 20 = .ok (.iconst 2, 1) := by decide +kernel
theorem dX6_reset_21 : decode cX6_reset 21 = .ok (.goto 4, 3) := by decide +kernel
theorem dX6_reset_24 : decode cX6_reset 24 = .ok (.iconst 0, 1) := by decide +kernel
theorem dX6_reset_25 : decode cX6_reset 25 = .ok (.putfield 82, 3) := by decide +kernel
theorem dX6_reset_28 : decode cX6_reset 28 = .ok (.aload_n 0, 1) := by decide +kernel
theorem dX6_reset_29 : decode cX6_reset 29 = .ok (.getfield 82, 3) := by decide +kernel
theorem dX6_reset_32 : decode cX6_reset 32 = .ok (.ifCond .ne 7, 3) := by decide +kernel
theorem dX6_reset_35 : decode cX6_reset 35 = .ok (.iconst 0, 1) := by decide +kernel
theorem dX6_reset_36 : decode cX6_reset 36 = .ok (.goto 4, 3) := by decide +kernel
theorem dX6_reset_39 : decode cX6_reset 39 = .ok (.iconst (-1), 1) := by decide +kernel
theorem dX6_reset_40 : decode cX6_reset 40 = .ok (.istore_n 2, 1) := by decide +kernel
theorem dX6_reset_41 : decode cX6_reset 41 = .ok (.iconst 0, 1) := by decide +kernel
theorem dX6_reset_42 : decode cX6_reset 42 = .ok (.istore_n 3, 1) := by decide +kernel
theorem dX6_reset_43 : decode cX6_reset 43 = .ok (.aload_n 0, 1) := by decide +kernel
theorem dX6_reset_44 : decode cX6_reset 44 = .ok (.getfield 82, 3) := by decide +kernel
theorem dX6_reset_47 : decode cX6_reset 47 = .ok (.ifCond .ne 32, 3) := by decide +kernel
theorem dX6_reset_50 : decode cX6_reset 50 = .ok (.iload_n 3, 1) := by decide +kernel
theorem dX6_reset_51 : decode cX6_reset 51 = .ok (.aload_n 0, 1) := by decide +kernel
theorem dX6_reset_52 : decode cX6_reset 52 = .ok (.getfield 60, 3) := by decide +kernel
theorem dX6_reset_55 : decode cX6_reset 55 = .ok (.iload_n 1, 1) := by decide +kernel
theorem dX6_reset_56 : decode cX6_reset 56 = .ok (.iaload, 1) := by decide +kernel
theorem dX6_reset_57 : decode cX6_reset 57 = .ok (.if_icmp .ge 22, 3) := by decide +kernel
theorem dX6_reset_60 : decode cX6_reset 60 = .ok (.iload_n 2, 1) := by decide +kernel
theorem dX6_reset_61 : decode cX6_reset 61 = .ok (.aload_n 0, 1) := by decide +kernel
theorem dX6_reset_62 : decode cX6_reset 62 = .ok (.bipush 8, 2) := by decide +kernel
theorem dX6_reset_64 : decode cX6_reset 64 = .ok (.iload_n 1, 1) := by decide +kernel
theorem dX6_reset_65 : decode cX6_reset 65 = .ok (.imul, 1) := by decide +kernel
theorem dX6_reset_66 : decode cX6_reset 66 = .ok (.iload_n 3, 1) := by decide +kernel
theorem dX6_reset_67 : decode cX6_reset 67 = .ok (.iadd, 1) := by decide +kernel
theorem dX6_reset_68 : decode cX6_reset 68 = .ok (.invokevirtual 148, 3) := by decide +kernel
theorem dX6_reset_71 : decode cX6_reset 71 = .ok (.iadd, 1) := by decide +kernel
theorem dX6_reset_72 : decode cX6_reset 72 = .ok (.istore_n 2, 1) := by decide +kernel
theorem dX6_reset_73 : decode cX6_reset 73 = .ok (.iinc 3 1, 3) := by decide +kernel
theorem dX6_reset_76 : decode cX6_reset 76 = .ok (.goto (-33), 3) := by decide +kernel
theorem dX6_reset_79 : decode cX6_reset 79 = .ok (.aload_n 0, 1) := by decide +kernel
theorem dX6_reset_80 : decode cX6_reset 80 = .ok (.getfield 82, 3) := by decide +kernel
theorem dX6_reset_83 : decode cX6_reset 83 = .ok (.ifCond .ne 10, 3) := by decide +kernel
theorem dX6_reset_86 : decode cX6_reset 86 = .ok (.aload_n 0, 1) := by decide +kernel
theorem dX6_reset_87 : decode cX6_reset 87 = .ok (.getfield 63, 3) := by decide +kernel
theorem dX6_reset_90 : decode cX6_reset 90 = .ok (.iload_n 1, 1) := by decide +kernel
theorem dX6_reset_91 : decode cX6_reset 91 = .ok (.iconst 0, 1) := by decide +kernel
theorem dX6_reset_92 : decode cX6_reset 92 = .ok (.iastore, 1) := by decide +kernel
theorem dX6_reset_93 : decode cX6_reset 93 = .ok (.iload_n 2, 1) := by decide +kernel
theorem dX6_reset_94 : decode cX6_reset 94 = .ok (.ireturn, 1) := by decide +kernel
theorem dX6_drill_0 : decode cX6_drill 0 = .ok (.iconst (-1), 1) := by decide +kernel
theorem dX6_drill_1 : decode cX6_drill 1 = .ok (.istore_n 1, 1) := by decide +kernel
theorem dX6_drill_2 : decode cX6_drill 2 = .ok (.iconst 0, 1) := by decide +kernel
theorem dX6_drill_3 : decode cX6_drill 3 = .ok (.istore_n 2, 1) := by decide +kernel
theorem dX6_drill_4 : decode cX6_drill 4 = .ok (.iload_n 2, 1) := by decide +kernel
theorem dX6_drill_5 : decode cX6_drill 5 = .ok (.aload_n 0, 1) := by decide +kernel
theorem dX6_drill_6 : decode cX6_drill 6 = .ok (.getfield 118, 3) := by decide +kernel
theorem dX6_drill_9 : decode cX6_drill 9 = .ok (.if_icmp .ge 61, 3) := by decide +kernel
theorem dX6_drill_12 : decode cX6_drill 12 = .ok (.bipush 8, 2) := by decide +kernel
theorem dX6_drill_14 : decode cX6_drill 14 = .ok (.iload_n 2, 1) := by decide +kernel
theorem dX6_drill_15 : decode cX6_drill 15 = .ok (.imul, 1) := by decide +kernel
theorem dX6_drill_16 : decode cX6_drill 16 = .ok (.istore_n 3, 1) := by decide +kernel
theorem dX6_drill_17 : decode cX6_drill 17 = .ok (.iload_n 3, 1) := by decide +kernel
theorem dX6_drill_18 : decode cX6_drill 18 = .ok (.bipush 8, 2) := by decide +kernel
theorem dX6_drill_20 : decode cX6_drill 20 = .ok (.iload_n 2, 1) := by decide +kernel
theorem dX6_drill_21 : decode cX6_drill 21 = .ok (.imul, 1) := by decide +kernel
theorem dX6_drill_22 : decode cX6_drill 22 = .ok (.aload_n 0, 1) := by decide +kernel
theorem dX6_drill_23 : decode cX6_drill 23 = .ok (.getfield 60, 3) := by decide +kernel
theorem dX6_drill_26 : decode cX6_drill 26 = .ok (.iload_n 2, 1) := by decide +kernel
theorem dX6_drill_27 : decode cX6_drill 27 = .ok (.iaload, 1) := by decide +kernel
theorem dX6_drill_28 : decode cX6_drill 28 = .ok (.iadd, 1) := by decide +kernel
theorem dX6_drill_29 : decode cX6_drill 29 = .ok (.if_icmp .ge 35, 3) := by decide +kernel
theorem dX6_drill_32 : decode cX6_drill 32 = .ok (.iload_n 1, 1) := by decide +kernel
theorem dX6_drill_33 : decode cX6_drill 33 = .ok (.iconst (-1), 1) := by decide +kernel
theorem dX6_drill_34 : decode cX6_drill 34 = .ok (.if_icmp .eq 18, 3) := by decide +kernel
theorem dX6_drill_37 : decode cX6_drill 37 = .ok (.aload_n 0, 1) := by decide +kernel
theorem dX6_drill_38 : decode cX6_drill 38 = .ok (.getfield 54, 3) := by decide +kernel
theorem dX6_drill_41 : decode cX6_drill 41 = .ok (.iload_n 3, 1) := by decide +kernel
theorem dX6_drill_42 : decode cX6_drill 42 = .ok (.iaload, 1) := by decide +kernel
theorem dX6_drill_43 : decode cX6_drill 43 = .ok (.aload_n 0, 1) := by decide +kernel
theorem dX6_drill_44 : decode cX6_drill 44 = .ok (.getfield 54, 3) := by decide +kernel
theorem dX6_drill_47 : decode cX6_drill 47 = .ok (.iload_n 1, 1) := by decide +kernel
theorem dX6_drill_48 : decode cX6_drill 48 = .ok (.iaload, 1) := by decide +kernel
theorem dX6_drill_49 : decode cX6_drill 49 = .ok (.if_icmp .ge 7, 3) := by decide +kernel
theorem dX6_drill_52 : decode cX6_drill 52 = .ok (.iload_n 3, 1) := by decide +kernel
theorem dX6_drill_53 : decode cX6_drill 53 = .ok (.goto 4, 3) := by decide +kernel
theorem dX6_drill_56 : decode cX6_drill 56 = .ok (.iload_n 1, 1) := by decide +kernel
theorem dX6_drill_57 : decode cX6_drill 57 = .ok (.istore_n 1, 1) := by decide +kernel
theorem dX6_drill_58 : decode cX6_drill 58 = .ok (.iinc 3 1, 3) := by decide +kernel
theorem dX6_drill_61 : decode cX6_drill 61 = .ok (.goto (-44), 3) := by decide +kernel
theorem dX6_drill_64 : decode cX6_drill 64 = .ok (.iinc 2 1, 3) := by decide +kernel
theorem dX6_drill_67 : decode cX6_drill 67 = .ok (.goto (-63), 3) := by decide +kernel
theorem dX6_drill_70 : decode cX6_drill 70 = .ok (.aload_n 0, 1) := by decide +kernel
theorem dX6_drill_71 : decode cX6_drill 71 = .ok (.iload_n 1, 1) := by decide +kernel
theorem dX6_drill_72 : decode cX6_drill 72 = .ok (.iconst (-1), 1) := by decide +kernel
theorem dX6_drill_73 : decode cX6_drill 73 = .ok (.if_icmp .ne 7, 3) := by decide +kernel
theorem dX6_drill_76 : decode cX6_drill 76 = .ok (.iconst 1, 1) := by decide +kernel
theorem dX6_drill_77 : decode cX6_drill 77 = .ok (.goto 4, 3) := by decide +kernel
theorem dX6_drill_80 : decode cX6_drill 80 = .ok (.iconst 0, 1) := by decide +kernel
theorem dX6_drill_81 : decode cX6_drill 81 = .ok (.putfield 82, 3) := by decide +kernel
theorem dX6_drill_84 : decode cX6_drill 84 = .ok (.iload_n 1, 1) := by decide +kernel
theorem dX6_drill_85 : decode cX6_drill 85 = .ok (.ireturn, 1) := by decide +kernel
set_option maxRecDepth 20000 in
theorem ggX6_openPermit_X6_in : GoodIn wsX6_openPermit wsX6_in := goodIn_r _ [10] (by decide +kernel) (by decide +kernel)
set_option maxRecDepth 20000 in
theorem gX6_openPermit_X6_in : GoodIn wsX6_openPermit (va_wsS RX6 87 yX6_in wsX6_in) := goodIn_app (goodIn_of _ (by decide +kernel)) ggX6_openPermit_X6_in
set_option maxRecDepth 20000 in
theorem ggX6_openPermit_X6_acts : GoodIn wsX6_openPermit wsX6_acts := goodIn_r _ [14, 15, 16, 36, 37, 38, 39, 40, 41, 42, 43, 44, 45, 46, 47, 48, 49, 50, 51, 52, 53, 54, 55, 56, 57, 58, 59, 60, 61, 62, 63, 64] (by decide +kernel) (by decide +kernel)
set_option maxRecDepth 20000 in
theorem gX6_openPermit_X6_acts : GoodIn wsX6_openPermit (wsV RX6 133 RX6 yX6_acts wsX6_acts) := goodIn_app (goodIn_of _ (by decide +kernel)) ggX6_openPermit_X6_acts
set_option maxRecDepth 20000 in
theorem ggX6_openPermit_X6_barring : GoodIn wsX6_openPermit wsX6_barring := goodIn_ca (goodIn_r _ [20, 3, 21, 6, 5, 36, 37, 38, 39, 40, 41, 42, 43, 44, 45, 46, 47, 48, 49, 50, 51, 52, 53, 54, 55, 56, 57, 58, 59, 60, 61, 62, 63, 64] (by decide +kernel) (by decide +kernel)) (goodIn_sub (fun _ h => List.mem_cons_of_mem _ (List.mem_append_right _ h)) (by decide +kernel))
set_option maxRecDepth 20000 in
theorem gX6_openPermit_X6_barring : GoodIn wsX6_openPermit (wsV RX6 140 RX6 yX6_barring wsX6_barring) := goodIn_app (goodIn_of _ (by decide +kernel)) ggX6_openPermit_X6_barring
set_option maxRecDepth 20000 in
theorem ggX6_openPermit_X6_tired : GoodIn wsX6_openPermit wsX6_tired := goodIn_r _ [25, 15, 26, 27, 36, 37, 38, 39, 40, 41, 42, 43, 44, 45, 46, 47, 48, 49, 50, 51, 52, 53, 54, 55, 56, 57, 58, 59, 60, 61, 62, 63, 64] (by decide +kernel) (by decide +kernel)
set_option maxRecDepth 20000 in
theorem gX6_openPermit_X6_tired : GoodIn wsX6_openPermit (wsV RX6 137 RX6 yX6_tired wsX6_tired) := goodIn_app (goodIn_of _ (by decide +kernel)) ggX6_openPermit_X6_tired
set_option maxRecDepth 20000 in
theorem ggX6_openPermit_X6_opens : GoodIn wsX6_openPermit wsX6_opens := goodIn_ca (goodIn_r _ [31, 32, 4, 21, 33, 26, 34, 35, 36, 37, 38, 39, 40, 41, 42, 43, 44, 45, 46, 47, 48, 49, 50, 51, 52, 53, 54, 55, 56, 57, 58, 59, 60, 61, 62, 63, 64] (by decide +kernel) (by decide +kernel)) (goodIn_sub (fun _ h => List.mem_cons_of_mem _ (List.mem_append_right _ h)) (by decide +kernel))
set_option maxRecDepth 20000 in
theorem gX6_openPermit_X6_opens : GoodIn wsX6_openPermit (wsV RX6 109 RX6 yX6_opens wsX6_opens) := goodIn_app (goodIn_of _ (by decide +kernel)) ggX6_openPermit_X6_opens
theorem dX6_openPermit_0 : decode cX6_openPermit 0 = .ok (.iload_n 1, 1) := by decide +kernel
theorem dX6_openPermit_1 : decode cX6_openPermit 1 = .ok (.i2l, 1) := by decide +kernel
theorem dX6_openPermit_2 : decode cX6_openPermit 2 = .ok (.lconst 1, 1) := by decide +kernel
theorem dX6_openPermit_3 : decode cX6_openPermit 3 = .ok (.ldc2_w 151, 3) := by decide +kernel
theorem dX6_openPermit_6 : decode cX6_openPermit 6 = .ok (.invokestatic 87, 3) := by decide +kernel
theorem dX6_openPermit_9 : decode cX6_openPermit 9 = .ok (.ifCond .ne 10, 3) := by decide +kernel
theorem dX6_openPermit_12 : decode cX6_openPermit 12 = .ok (.aload_n 0, 1) := by decide +kernel
theorem dX6_openPermit_13 : decode cX6_openPermit 13 = .ok (.iconst 1, 1) := by decide +kernel
theorem dX6_openPermit_14 : decode cX6_openPermit 14 = .ok (.putfield 82, 3) := by decide +kernel
theorem dX6_openPermit_17 : decode cX6_openPermit 17 = .ok (.iconst (-1), 1) := by decide +kernel
theorem dX6_openPermit_18 : decode cX6_openPermit 18 = .ok (.ireturn, 1) := by decide +kernel
theorem dX6_openPermit_19 : decode cX6_openPermit 19 = .ok (.aload_n 0, 1) := by decide +kernel
theorem dX6_openPermit_20 : decode cX6_openPermit 20 = .ok (.invokevirtual 133, 3) := by decide +kernel
theorem dX6_openPermit_23 : decode cX6_openPermit 23 = .ok (.ifCond .eq 21, 3) := by decide +kernel
theorem dX6_openPermit_26 : decode cX6_openPermit 26 = .ok (.aload_n 0, 1) := by decide +kernel
theorem dX6_openPermit_27 : decode cX6_openPermit 27 = .ok (.getfield 130, 3) := by decide +kernel
theorem dX6_openPermit_30 : decode cX6_openPermit 30 = .ok (.bipush 8, 2) := by decide +kernel
theorem dX6_openPermit_32 : decode cX6_openPermit 32 = .ok (.if_icmp .eq 12, 3) := by decide +kernel
theorem dX6_openPermit_35 : decode cX6_openPermit 35 = .ok (.aload_n 0, 1) := by decide +kernel
theorem dX6_openPermit_36 : decode cX6_openPermit 36 = .ok (.getfield 95, 3) := by decide +kernel
theorem dX6_openPermit_39 : decode cX6_openPermit 39 = .ok (.bipush 60, 2) := by decide +kernel
theorem dX6_openPermit_41 : decode cX6_openPermit 41 = .ok (.if_icmp .ne 7, 3) := by decide +kernel
theorem dX6_openPermit_44 : decode cX6_openPermit 44 = .ok (.iconst 1, 1) := by decide +kernel
theorem dX6_openPermit_45 : decode cX6_openPermit 45 = .ok (.goto 4, 3) := by decide +kernel
theorem dX6_openPermit_48 : decode cX6_openPermit 48 = .ok (.iconst 0, 1) := by decide +kernel
theorem dX6_openPermit_49 : decode cX6_openPermit 49 = .ok (.istore_n 2, 1) := by decide +kernel
theorem dX6_openPermit_50 : decode cX6_openPermit 50 = .ok (.iconst 0, 1) := by decide +kernel
theorem dX6_openPermit_51 : decode cX6_openPermit 51 = .ok (.istore_n 3, 1) := by decide +kernel
theorem dX6_openPermit_52 : decode cX6_openPermit 52 = .ok (.iconst 0, 1) := by decide +kernel
theorem dX6_openPermit_53 : decode cX6_openPermit 53 = .ok (.istore 4, 2) := by decide +kernel
theorem dX6_openPermit_55 : decode cX6_openPermit 55 = .ok (.iload 4, 2) := by decide +kernel
theorem dX6_openPermit_57 : decode cX6_openPermit 57 = .ok (.bipush 8, 2) := by decide +kernel
theorem dX6_openPermit_59 : decode cX6_openPermit 59 = .ok (.if_icmp .ge 39, 3) := by decide +kernel
theorem dX6_openPermit_62 : decode cX6_openPermit 62 = .ok (.iload_n 3, 1) := by decide +kernel
theorem dX6_openPermit_63 : decode cX6_openPermit 63 = .ok (.ifCond .ne 23, 3) := by decide +kernel
theorem dX6_openPermit_66 : decode cX6_openPermit 66 = .ok (.iload_n 1, 1) := by decide +kernel
theorem dX6_openPermit_67 : decode cX6_openPermit 67 = .ok (.iload 4, 2) := by decide +kernel
theorem dX6_openPermit_69 : decode cX6_openPermit 69 = .ok (.ishr, 1) := by decide +kernel
theorem dX6_openPermit_70 : decode cX6_openPermit 70 = .ok (.iconst 1, 1) := by decide +kernel
theorem dX6_openPermit_71 : decode cX6_openPermit 71 = .ok (.iand, 1) := by decide +kernel
theorem dX6_openPermit_72 : decode cX6_openPermit 72 = .ok (.iconst 1, 1) := by decide +kernel
theorem dX6_openPermit_73 : decode cX6_openPermit 73 = .ok (.if_icmp .ne 17, 3) := by decide +kernel
theorem dX6_openPermit_76 : decode cX6_openPermit 76 = .ok (.aload_n 0, 1) := by decide +kernel
theorem dX6_openPermit_77 : decode cX6_openPermit 77 = .ok (.iload 4, 2) := by decide +kernel
theorem dX6_openPermit_79 : decode cX6_openPermit 79 = .ok (.invokevirtual 140, 3) := by decide +kernel
theorem dX6_openPermit_82 : decode cX6_openPermit 82 = .ok (.iconst (-1), 1) := by decide +kernel
theorem dX6_openPermit_83 : decode cX6_openPermit 83 = .ok (.if_icmp .eq 7, 3) := by decide +kernel
theorem dX6_openPermit_86 : decode cX6_openPermit 86 = .ok (.iconst 1, 1) := by decide +kernel
theorem dX6_openPermit_87 : decode cX6_openPermit 87 = .ok (.goto 4, 3) := by decide +kernel
theorem dX6_openPermit_90 : decode cX6_openPermit 90 = .ok (.iconst 0, 1) := by decide +kernel
theorem dX6_openPermit_91 : decode cX6_openPermit 91 = .ok (.istore_n 3, 1) := by decide +kernel
theorem dX6_openPermit_92 : decode cX6_openPermit 92 = .ok (.iinc 4 1, 3) := by decide +kernel
theorem dX6_openPermit_95 : decode cX6_openPermit 95 = .ok (.goto (-40), 3) := by decide +kernel
theorem dX6_openPermit_98 : decode cX6_openPermit 98 = .ok (.aload_n 0, 1) := by decide +kernel
theorem dX6_openPermit_99 : decode cX6_openPermit 99 = .ok (.iload_n 2, 1) := by decide +kernel
theorem dX6_openPermit_100 : decode cX6_openPermit 100 = .ok (.ifCond .eq 7, 3) := by decide +kernel
theorem dX6_openPermit_103 : decode cX6_openPermit 103 = .ok (.iconst 2, 1) := by decide +kernel
theorem dX6_openPermit_104 : decode cX6_openPermit 104 = .ok (.goto 19, 3) := by decide +kernel
theorem dX6_openPermit_107 : decode cX6_openPermit 107 = .ok (.iload_n 3, 1) := by decide +kernel
theorem dX6_openPermit_108 : decode cX6_openPermit 108 = .ok (.ifCond .ne 10, 3) := by decide +kernel
theorem dX6_openPermit_111 : decode cX6_openPermit 111 = .ok (.aload_n 0, 1) := by decide +kernel
theorem dX6_openPermit_112 : decode cX6_openPermit 112 = .ok (.invokevirtual 137, 3) := by decide +kernel
theorem dX6_openPermit_115 : decode cX6_openPermit 115 = .ok (.ifCond .eq 7, 3) := by decide +kernel
theorem dX6_openPermit_118 : decode cX6_openPermit 118 = .ok (.iconst 3, 1) := by decide +kernel
theorem dX6_openPermit_119 : decode cX6_openPermit 119 = .ok (.goto 4, 3) := by decide +kernel
theorem dX6_openPermit_122 : decode cX6_openPermit 122 = .ok (.iconst 0, 1) := by decide +kernel
theorem dX6_openPermit_123 : decode cX6_openPermit 123 = .ok (.putfield 82, 3) := by decide +kernel
theorem dX6_openPermit_126 : decode cX6_openPermit 126 = .ok (.aload_n 0, 1) := by decide +kernel
theorem dX6_openPermit_127 : decode cX6_openPermit 127 = .ok (.getfield 82, 3) := by decide +kernel
theorem dX6_openPermit_130 : decode cX6_openPermit 130 = .ok (.ifCond .le 5, 3) := by decide +kernel
theorem dX6_openPermit_133 : decode cX6_openPermit 133 = .ok (.iconst (-1), 1) := by decide +kernel
theorem dX6_openPermit_134 : decode cX6_openPermit 134 = .ok (.ireturn, 1) := by decide +kernel
theorem dX6_openPermit_135 : decode cX6_openPermit 135 = .ok (.aload_n 0, 1) := by decide +kernel
theorem dX6_openPermit_136 : decode cX6_openPermit 136 = .ok (.getfield 66, 3) := by decide +kernel
theorem dX6_openPermit_139 : decode cX6_openPermit 139 = .ok (.aload_n 0, 1) := by decide +kernel
theorem dX6_openPermit_140 : decode cX6_openPermit 140 = .ok (.getfield 130, 3) := by decide +kernel
theorem dX6_openPermit_143 : decode cX6_openPermit 143 = .ok (.iload_n 1, 1) := by decide +kernel
theorem dX6_openPermit_144 : decode cX6_openPermit 144 = .ok (.iastore, 1) := by decide +kernel
theorem dX6_openPermit_145 : decode cX6_openPermit 145 = .ok (.aload_n 0, 1) := by decide +kernel
theorem dX6_openPermit_146 : decode cX6_openPermit 146 = .ok (.getfield 69, 3) := by decide +kernel
theorem dX6_openPermit_149 : decode cX6_openPermit 149 = .ok (.aload_n 0, 1) := by decide +kernel
theorem dX6_openPermit_150 : decode cX6_openPermit 150 = .ok (.getfield 130, 3) := by decide +kernel
theorem dX6_openPermit_153 : decode cX6_openPermit 153 = .ok (.aload_n 0, 1) := by decide +kernel
theorem dX6_openPermit_154 : decode cX6_openPermit 154 = .ok (.bipush 112, 2) := by decide +kernel
theorem dX6_openPermit_156 : decode cX6_openPermit 156 = .ok (.invokevirtual 109, 3) := by decide +kernel
theorem dX6_openPermit_159 : decode cX6_openPermit 159 = .ok (.iastore, 1) := by decide +kernel
theorem dX6_openPermit_160 : decode cX6_openPermit 160 = .ok (.aload_n 0, 1) := by decide +kernel
theorem dX6_openPermit_161 : decode cX6_openPermit 161 = .ok (.dup, 1) := by decide +kernel
theorem dX6_openPermit_162 : decode cX6_openPermit 162 = .ok (.getfield 130, 3) := by decide +kernel
theorem dX6_openPermit_165 : decode cX6_openPermit 165 = .ok (.iconst 1, 1) := by decide +kernel
theorem dX6_openPermit_166 : decode cX6_openPermit 166 = .ok (.iadd, 1) := by decide +kernel
theorem dX6_openPermit_167 : decode cX6_openPermit 167 = .ok (.putfield 130, 3) := by decide +kernel
theorem dX6_openPermit_170 : decode cX6_openPermit 170 = .ok (.aload_n 0, 1) := by decide +kernel
theorem dX6_openPermit_171 : decode cX6_openPermit 171 = .ok (.getfield 130, 3) := by decide +kernel
theorem dX6_openPermit_174 : decode cX6_openPermit 174 = .ok (.iconst 1, 1) := by decide +kernel
theorem dX6_openPermit_175 : decode cX6_openPermit 175 = .ok (.isub, 1) := by decide +kernel
theorem dX6_openPermit_176 : decode cX6_openPermit 176 = .ok (.ireturn, 1) := by decide +kernel
set_option maxRecDepth 20000 in
theorem ggX6_isPermit_X6_in : GoodIn wsX6_isPermit wsX6_in := goodIn_r _ [5] (by decide +kernel) (by decide +kernel)
set_option maxRecDepth 20000 in
theorem gX6_isPermit_X6_in : GoodIn wsX6_isPermit (va_wsS RX6 87 yX6_in wsX6_in) := goodIn_app (goodIn_of _ (by decide +kernel)) ggX6_isPermit_X6_in
theorem dX6_isPermit_0 : decode cX6_isPermit 0 = .ok (.iload_n 1, 1) := by decide +kernel
theorem dX6_isPermit_1 : decode cX6_isPermit 1 = .ok (.i2l, 1) := by decide +kernel
theorem dX6_isPermit_2 : decode cX6_isPermit 2 = .ok (.lconst 0, 1) := by decide +kernel
theorem dX6_isPermit_3 : decode cX6_isPermit 3 = .ok (.aload_n 0, 1) := by decide +kernel
theorem dX6_isPermit_4 : decode cX6_isPermit 4 = .ok (.getfield 130, 3) := by decide +kernel
theorem dX6_isPermit_7 : decode cX6_isPermit 7 = .ok (.iconst 1, 1) := by decide +kernel
theorem dX6_isPermit_8 : decode cX6_isPermit 8 = .ok (.isub, 1) := by decide +kernel
theorem dX6_isPermit_9 : decode cX6_isPermit 9 = .ok (.i2l, 1) := by decide +kernel
theorem dX6_isPermit_10 : decode cX6_isPermit 10 = .ok (.invokestatic 87, 3) := by decide +kernel
theorem dX6_isPermit_13 : decode cX6_isPermit 13 = .ok (.ireturn, 1) := by decide +kernel
set_option maxRecDepth 20000 in
theorem ggX6_closePermit_X6_isPermit : GoodIn wsX6_closePermit wsX6_isPermit := goodIn_r _ [8, 9, 10, 11, 7, 12, 19, 20, 21, 22, 23, 24, 25, 26, 27, 28, 29, 30, 31, 32, 33, 34, 35, 36, 37, 38, 39, 40, 41, 42, 43, 44, 45, 46, 47] (by decide +kernel) (by decide +kernel)
set_option maxRecDepth 20000 in
theorem gX6_closePermit_X6_isPermit : GoodIn wsX6_closePermit (wsV RX6 153 RX6 yX6_isPermit wsX6_isPermit) := goodIn_app (goodIn_of _ (by decide +kernel)) ggX6_closePermit_X6_isPermit
set_option maxRecDepth 20000 in
theorem ggX6_closePermit_X6_acts : GoodIn wsX6_closePermit wsX6_acts := goodIn_r _ [16, 17, 18, 19, 20, 21, 22, 23, 24, 25, 26, 27, 28, 29, 30, 31, 32, 33, 34, 35, 36, 37, 38, 39, 40, 41, 42, 43, 44, 45, 46, 47] (by decide +kernel) (by decide +kernel)
set_option maxRecDepth 20000 in
theorem gX6_closePermit_X6_acts : GoodIn wsX6_closePermit (wsV RX6 133 RX6 yX6_acts wsX6_acts) := goodIn_app (goodIn_of _ (by decide +kernel)) ggX6_closePermit_X6_acts
theorem dX6_closePermit_0 : decode cX6_closePermit 0 = .ok (.aload_n 0, 1) := by decide +kernel
theorem dX6_closePermit_1 : decode cX6_closePermit 1 = .ok (.aload_n 0, 1) := by decide +kernel
theorem dX6_closePermit_2 : decode cX6_closePermit 2 = .ok (.iload_n 1, 1) := by decide +kernel
theorem dX6_closePermit_3 : decode cX6_closePermit 3 = .ok (.invokevirtual 153, 3) := by decide +kernel
theorem dX6_closePermit_6 : decode cX6_closePermit 6 = .ok (.ifCond .ne 7, 3) := by decide +kernel
theorem dX6_closePermit_9 : decode cX6_closePermit 9 = .ok (.iconst 1, 1) := by decide +kernel
theorem dX6_closePermit_10 : decode cX6_closePermit 10 = .ok (.goto 29, 3) := by decide +kernel
theorem dX6_closePermit_13 : decode cX6_closePermit 13 = .ok (.aload_n 0, 1) := by decide +kernel
theorem dX6_closePermit_14 : decode cX6_closePermit 14 = .ok (.getfield 17, 3) := by decide +kernel
theorem dX6_closePermit_17 : decode cX6_closePermit 17 = .ok (.aload_n 0, 1) := by decide +kernel
theorem dX6_closePermit_18 : decode cX6_closePermit 18 = .ok (.getfield 69, 3) := by decide +kernel
theorem dX6_closePermit_21 : decode cX6_closePermit 21 = .ok (.iload_n 1, 1) := by decide +kernel
theorem dX6_closePermit_22 : decode cX6_closePermit 22 = .ok (.iaload, 1) := by decide +kernel
theorem dX6_closePermit_23 : decode cX6_closePermit 23 = .ok (.baload, 1) := by decide +kernel
theorem dX6_closePermit_24 : decode cX6_closePermit 24 = .ok (.ifCond .eq 10, 3) := by decide +kernel
theorem dX6_closePermit_27 : decode cX6_closePermit 27 = .ok (.aload_n 0, 1) := by decide +kernel
theorem dX6_closePermit_28 : decode cX6_closePermit 28 = .ok (.invokevirtual 133, 3) := by decide +kernel
theorem dX6_closePermit_31 : decode cX6_closePermit 31 = .ok (.ifCond .ne 7, 3) := by decide +kernel
theorem dX6_closePermit_34 : decode cX6_closePermit 34 = .ok (.iconst 2, 1) := by decide +kernel
theorem dX6_closePermit_35 : decode cX6_closePermit 35 = .ok (.goto 4, 3) := by decide +kernel
theorem dX6_closePermit_38 : decode cX6_closePermit 38 = .ok (.iconst 0, 1) := by decide +kernel
theorem dX6_closePermit_39 : decode cX6_closePermit 39 = .ok (.putfield 82, 3) := by decide +kernel
theorem dX6_closePermit_42 : decode cX6_closePermit 42 = .ok (.aload_n 0, 1) := by decide +kernel
theorem dX6_closePermit_43 : decode cX6_closePermit 43 = .ok (.getfield 82, 3) := by decide +kernel
theorem dX6_closePermit_46 : decode cX6_closePermit 46 = .ok (.ifCond .le 5, 3) := by decide +kernel
theorem dX6_closePermit_49 : decode cX6_closePermit 49 = .ok (.iconst (-1), 1) := by decide +kernel
theorem dX6_closePermit_50 : decode cX6_closePermit 50 = .ok (.ireturn, 1) := by decide +kernel
theorem dX6_closePermit_51 : decode cX6_closePermit 51 = .ok (.aload_n 0, 1) := by decide +kernel
theorem dX6_closePermit_52 : decode cX6_closePermit 52 = .ok (.getfield 17, 3) := by decide +kernel
theorem dX6_closePermit_55 : decode cX6_closePermit 55 = .ok (.aload_n 0, 1) := by decide +kernel
theorem dX6_closePermit_56 : decode cX6_closePermit 56 = .ok (.getfield 69, 3) := by decide +kernel
theorem dX6_closePermit_59 : decode cX6_closePermit 59 = .ok (.iload_n 1, 1) := by decide +kernel
theorem dX6_closePermit_60 : decode cX6_closePermit 60 = .ok (.iaload, 1) := by decide +kernel
theorem dX6_closePermit_61 : decode cX6_closePermit 61 = .ok (.iconst 0, 1) := by decide +kernel
theorem dX6_closePermit_62 : decode cX6_closePermit 62 = .ok (.bastore, 1) := by decide +kernel
theorem dX6_closePermit_63 : decode cX6_closePermit 63 = .ok (.aload_n 0, 1) := by decide +kernel
theorem dX6_closePermit_64 : decode cX6_closePermit 64 = .ok (.getfield 69, 3) := by decide +kernel
theorem dX6_closePermit_67 : decode cX6_closePermit 67 = .ok (.iload_n 1, 1) := by decide +kernel
theorem dX6_closePermit_68 : decode cX6_closePermit 68 = .ok (.iaload, 1) := by decide +kernel
theorem dX6_closePermit_69 : decode cX6_closePermit 69 = .ok (.ireturn, 1) := by decide +kernel
set_option maxRecDepth 20000 in
theorem ggX6_isPermitOpen_X6_isPermit : GoodIn wsX6_isPermitOpen wsX6_isPermit := goodIn_r _ [8, 9, 10, 11, 7, 12, 13, 14, 15, 16, 17, 18, 19, 20, 21, 22, 23, 24, 25, 26, 27, 28, 29, 30, 31, 32, 33, 34, 35, 36, 37, 38, 39, 40, 41] (by decide +kernel) (by decide +kernel)
set_option maxRecDepth 20000 in
theorem gX6_isPermitOpen_X6_isPermit : GoodIn wsX6_isPermitOpen (wsV RX6 153 RX6 yX6_isPermit wsX6_isPermit) := goodIn_app (goodIn_of _ (by decide +kernel)) ggX6_isPermitOpen_X6_isPermit
theorem dX6_isPermitOpen_0 : decode cX6_isPermitOpen 0 = .ok (.aload_n 0, 1) := by decide +kernel
theorem dX6_isPermitOpen_1 : decode cX6_isPermitOpen 1 = .ok (.aload_n 0, 1) := by decide +kernel
theorem dX6_isPermitOpen_2 : decode cX6_isPermitOpen 2 = .ok (.iload_n 1, 1) := by decide +kernel
theorem dX6_isPermitOpen_3 : decode cX6_isPermitOpen 3 = .ok (.invokevirtual 153, 3) := by decide +kernel
theorem dX6_isPermitOpen_6 : decode cX6_isPermitOpen 6 = .ok (.ifCond .eq 7, 3) := by decide +kernel
theorem dX6_isPermitOpen_9 : decode cX6_isPermitOpen 9 = .ok (.iconst 0, 1) := by decide +kernel
theorem dX6_isPermitOpen_10 : decode cX6_isPermitOpen 10 = .ok (.goto 4, 3) := by decide +kernel
theorem dX6_isPermitOpen_13 : decode cX6_isPermitOpen 13 = .ok (.iconst 1, 1) := by decide +kernel
theorem dX6_isPermitOpen_14 : decode cX6_isPermitOpen 14 = .ok (.putfield 82, 3) := by decide +kernel
theorem dX6_isPermitOpen_17 : decode cX6_isPermitOpen 17 = .ok (.aload_n 0, 1) := by decide +kernel
theorem dX6_isPermitOpen_18 : decode cX6_isPermitOpen 18 = .ok (.getfield 82, 3) := by decide +kernel
theorem dX6_isPermitOpen_21 : decode cX6_isPermitOpen 21 = .ok (.ifCond .ne 21, 3) := by decide +kernel
theorem dX6_isPermitOpen_24 : decode cX6_isPermitOpen 24 = .ok (.aload_n 0, 1) := by decide +kernel
theorem dX6_isPermitOpen_25 : decode cX6_isPermitOpen 25 = .ok (.getfield 17, 3) := by decide +kernel
theorem dX6_isPermitOpen_28 : decode cX6_isPermitOpen 28 = .ok (.aload_n 0, 1) := by decide +kernel
theorem dX6_isPermitOpen_29 : decode cX6_isPermitOpen 29 = .ok (.getfield 69, 3) := by decide +kernel
theorem dX6_isPermitOpen_32 : decode cX6_isPermitOpen 32 = .ok (.iload_n 1, 1) := by decide +kernel
theorem dX6_isPermitOpen_33 : decode cX6_isPermitOpen 33 = .ok (.iaload, 1) := by decide +kernel
theorem dX6_isPermitOpen_34 : decode cX6_isPermitOpen 34 = .ok (.baload, 1) := by decide +kernel
theorem dX6_isPermitOpen_35 : decode cX6_isPermitOpen 35 = .ok (.ifCond .eq 7, 3) := by decide +kernel
theorem dX6_isPermitOpen_38 : decode cX6_isPermitOpen 38 = .ok (.iconst 1, 1) := by decide +kernel
theorem dX6_isPermitOpen_39 : decode cX6_isPermitOpen 39 = .ok (.goto 4, 3) := by decide +kernel
theorem dX6_isPermitOpen_42 : decode cX6_isPermitOpen 42 = .ok (.iconst 0, 1) := by decide +kernel
theorem dX6_isPermitOpen_43 : decode cX6_isPermitOpen 43 = .ok (.ireturn, 1) := by decide +kernel
set_option maxRecDepth 20000 in
theorem ggX6_note_X6_opens : GoodIn wsX6_note wsX6_opens := goodIn_ca (goodIn_r _ [7, 8, 1, 9, 10, 11, 12, 13, 14, 15, 16, 17, 18, 19, 20, 21, 22, 23, 24, 25, 26, 27, 28, 29, 30, 31, 32, 33, 34, 35, 36, 37, 38, 39, 40, 41, 42] (by decide +kernel) (by decide +kernel)) (goodIn_sub (fun _ h => List.mem_cons_of_mem _ (List.mem_append_right _ h)) (by decide +kernel))
set_option maxRecDepth 20000 in
theorem gX6_note_X6_opens : GoodIn wsX6_note (wsV RX6 109 RX6 yX6_opens wsX6_opens) := goodIn_app (goodIn_of _ (by decide +kernel)) ggX6_note_X6_opens
theorem dX6_note_0 : decode cX6_note 0 = .ok (.aload_n 0, 1) := by decide +kernel
theorem dX6_note_1 : decode cX6_note 1 = .ok (.aload_n 0, 1) := by decide +kernel
theorem dX6_note_2 : decode cX6_note 2 = .ok (.getfield 95, 3) := by decide +kernel
theorem dX6_note_5 : decode cX6_note 5 = .ok (.bipush 60, 2) := by decide +kernel
theorem dX6_note_7 : decode cX6_note 7 = .ok (.if_icmp .ne 7, 3) := by decide +kernel
theorem dX6_note_10 : decode cX6_note 10 = .ok (.iconst 1, 1) := by decide +kernel
theorem dX6_note_11 : decode cX6_note 11 = .ok (.goto 4, 3) := by decide +kernel
theorem dX6_note_14 : decode cX6_note 14 = .ok (.iconst 0, 1) := by decide +kernel
theorem dX6_note_15 : decode cX6_note 15 = .ok (.putfield 82, 3) := by decide +kernel
theorem dX6_note_18 : decode cX6_note 18 = .ok (.aload_n 0, 1) := by decide +kernel
theorem dX6_note_19 : decode cX6_note 19 = .ok (.getfield 82, 3) := by decide +kernel
theorem dX6_note_22 : decode cX6_note 22 = .ok (.ifCond .ne 12, 3) := by decide +kernel
theorem dX6_note_25 : decode cX6_note 25 = .ok (.aload_n 0, 1) := by decide +kernel
theorem dX6_note_26 : decode cX6_note 26 = .ok (.bipush 110, 2) := by decide +kernel
theorem dX6_note_28 : decode cX6_note 28 = .ok (.invokevirtual 109, 3) := by decide +kernel
theorem dX6_note_31 : decode cX6_note 31 = .ok (.goto 4, 3) := by decide +kernel
theorem dX6_note_34 : decode cX6_note 34 = .ok (.iconst (-1), 1) := by decide +kernel
theorem dX6_note_35 : decode cX6_note 35 = .ok (.ireturn, 1) := by decide +kernel
set_option maxRecDepth 20000 in
theorem ggX6_isLine_X6_in : GoodIn wsX6_isLine wsX6_in := goodIn_r _ [5] (by decide +kernel) (by decide +kernel)
set_option maxRecDepth 20000 in
theorem gX6_isLine_X6_in : GoodIn wsX6_isLine (va_wsS RX6 87 yX6_in wsX6_in) := goodIn_app (goodIn_of _ (by decide +kernel)) ggX6_isLine_X6_in
theorem dX6_isLine_0 : decode cX6_isLine 0 = .ok (.iload_n 1, 1) := by decide +kernel
theorem dX6_isLine_1 : decode cX6_isLine 1 = .ok (.i2l, 1) := by decide +kernel
theorem dX6_isLine_2 : decode cX6_isLine 2 = .ok (.lconst 0, 1) := by decide +kernel
theorem dX6_isLine_3 : decode cX6_isLine 3 = .ok (.aload_n 0, 1) := by decide +kernel
theorem dX6_isLine_4 : decode cX6_isLine 4 = .ok (.getfield 95, 3) := by decide +kernel
theorem dX6_isLine_7 : decode cX6_isLine 7 = .ok (.iconst 1, 1) := by decide +kernel
theorem dX6_isLine_8 : decode cX6_isLine 8 = .ok (.isub, 1) := by decide +kernel
theorem dX6_isLine_9 : decode cX6_isLine 9 = .ok (.i2l, 1) := by decide +kernel
theorem dX6_isLine_10 : decode cX6_isLine 10 = .ok (.invokestatic 87, 3) := by decide +kernel
theorem dX6_isLine_13 : decode cX6_isLine 13 = .ok (.ireturn, 1) := by decide +kernel
theorem dX6_open_0 : decode cX6_open 0 = .ok (.iconst 0, 1) := by decide +kernel
theorem dX6_open_1 : decode cX6_open 1 = .ok (.istore_n 1, 1) := by decide +kernel
theorem dX6_open_2 : decode cX6_open 2 = .ok (.iconst 0, 1) := by decide +kernel
theorem dX6_open_3 : decode cX6_open 3 = .ok (.istore_n 2, 1) := by decide +kernel
theorem dX6_open_4 : decode cX6_open 4 = .ok (.iload_n 2, 1) := by decide +kernel
theorem dX6_open_5 : decode cX6_open 5 = .ok (.aload_n 0, 1) := by decide +kernel
theorem dX6_open_6 : decode cX6_open 6 = .ok (.getfield 95, 3) := by decide +kernel
theorem dX6_open_9 : decode cX6_open 9 = .ok (.if_icmp .ge 26, 3) := by decide +kernel
theorem dX6_open_12 : decode cX6_open 12 = .ok (.iload_n 1, 1) := by decide +kernel
theorem dX6_open_13 : decode cX6_open 13 = .ok (.aload_n 0, 1) := by decide +kernel
theorem dX6_open_14 : decode cX6_open 14 = .ok (.getfield 17, 3) := by decide +kernel
theorem dX6_open_17 : decode cX6_open 17 = .ok (.iload_n 2, 1) := by decide +kernel
theorem dX6_open_18 : decode cX6_open 18 = .ok (.baload, 1) := by decide +kernel
theorem dX6_open_19 : decode cX6_open 19 = .ok (.ifCond .eq 7, 3) := by decide +kernel
theorem dX6_open_22 : decode cX6_open 22 = .ok (.iconst 1, 1) := by decide +kernel
theorem dX6_open_23 : decode cX6_open 23 = .ok (.goto 4, 3) := by decide +kernel
theorem dX6_open_26 : decode cX6_open 26 = .ok (.iconst 0, 1) := by decide +kernel
theorem dX6_open_27 : decode cX6_open 27 = .ok (.iadd, 1) := by decide +kernel
theorem dX6_open_28 : decode cX6_open 28 = .ok (.istore_n 1, 1) := by decide +kernel
theorem dX6_open_29 : decode cX6_open 29 = .ok (.iinc 2 1, 3) := by decide +kernel
theorem dX6_open_32 : decode cX6_open 32 = .ok (.goto (-28), 3) := by decide +kernel
theorem dX6_open_35 : decode cX6_open 35 = .ok (.iload_n 1, 1) := by decide +kernel
theorem dX6_open_36 : decode cX6_open 36 = .ok (.ireturn, 1) := by decide +kernel
theorem dX6_unknown_0 : decode cX6_unknown 0 = .ok (.iconst 0, 1) := by decide +kernel
theorem dX6_unknown_1 : decode cX6_unknown 1 = .ok (.istore_n 1, 1) := by decide +kernel
theorem dX6_unknown_2 : decode cX6_unknown 2 = .ok (.iconst 0, 1) := by decide +kernel
theorem dX6_unknown_3 : decode cX6_unknown 3 = .ok (.istore_n 2, 1) := by decide +kernel
theorem dX6_unknown_4 : decode cX6_unknown 4 = .ok (.iload_n 2, 1) := by decide +kernel
theorem dX6_unknown_5 : decode cX6_unknown 5 = .ok (.aload_n 0, 1) := by decide +kernel
theorem dX6_unknown_6 : decode cX6_unknown 6 = .ok (.getfield 95, 3) := by decide +kernel
theorem dX6_unknown_9 : decode cX6_unknown 9 = .ok (.if_icmp .ge 35, 3) := by decide +kernel
theorem dX6_unknown_12 : decode cX6_unknown 12 = .ok (.iload_n 1, 1) := by decide +kernel
theorem dX6_unknown_13 : decode cX6_unknown 13 = .ok (.aload_n 0, 1) := by decide +kernel
theorem dX6_unknown_14 : decode cX6_unknown 14 = .ok (.getfield 17, 3) := by decide +kernel
theorem dX6_unknown_17 : decode cX6_unknown 17 = .ok (.iload_n 2, 1) := by decide +kernel
theorem dX6_unknown_18 : decode cX6_unknown 18 = .ok (.baload, 1) := by decide +kernel
theorem dX6_unknown_19 : decode cX6_unknown 19 = .ok (.ifCond .eq 16, 3) := by decide +kernel
theorem dX6_unknown_22 : decode cX6_unknown 22 = .ok (.aload_n 0, 1) := by decide +kernel
theorem dX6_unknown_23 : decode cX6_unknown 23 = .ok (.getfield 27, 3) := by decide +kernel
theorem dX6_unknown_26 : decode cX6_unknown 26 = .ok (.iload_n 2, 1) := by decide +kernel
theorem dX6_unknown_27 : decode cX6_unknown 27 = .ok (.baload, 1) := by decide +kernel
theorem dX6_unknown_28 : decode cX6_unknown 28 = .ok (.ifCond .ne 7, 3) := by decide +kernel
theorem dX6_unknown_31 : decode cX6_unknown 31 = .ok (.iconst 1, 1) := by decide +kernel
theorem dX6_unknown_32 : decode cX6_unknown 32 = .ok (.goto 4, 3) := by decide +kernel
theorem dX6_unknown_35 : decode cX6_unknown 35 = .ok (.iconst 0, 1) := by decide +kernel
theorem dX6_unknown_36 : decode cX6_unknown 36 = .ok (.iadd, 1) := by decide +kernel
theorem dX6_unknown_37 : decode cX6_unknown 37 = .ok (.istore_n 1, 1) := by decide +kernel
theorem dX6_unknown_38 : decode cX6_unknown 38 = .ok (.iinc 2 1, 3) := by decide +kernel
theorem dX6_unknown_41 : decode cX6_unknown 41 = .ok (.goto (-37), 3) := by decide +kernel
theorem dX6_unknown_44 : decode cX6_unknown 44 = .ok (.iload_n 1, 1) := by decide +kernel
theorem dX6_unknown_45 : decode cX6_unknown 45 = .ok (.ireturn, 1) := by decide +kernel
set_option maxRecDepth 20000 in
theorem ggX6_close_X6_isLine : GoodIn wsX6_close wsX6_isLine := goodIn_r _ [8, 9, 10, 11, 7, 12, 17, 18, 19, 20, 21, 22, 23, 24, 25, 26, 27, 28, 29, 30, 31, 32, 33, 34, 35, 36, 37, 38, 39, 40, 41, 42, 43, 44, 45] (by decide +kernel) (by decide +kernel)
set_option maxRecDepth 20000 in
theorem gX6_close_X6_isLine : GoodIn wsX6_close (wsV RX6 156 RX6 yX6_isLine wsX6_isLine) := goodIn_app (goodIn_of _ (by decide +kernel)) ggX6_close_X6_isLine
set_option maxRecDepth 20000 in
theorem ggX6_close_X6_open : GoodIn wsX6_close wsX6_open := goodIn_ca (goodIn_r _ [16, 9, 2, 17, 18, 19, 20, 21, 22, 23, 24, 25, 26, 27, 28, 29, 30, 31, 32, 33, 34, 35, 36, 37, 38, 39, 40, 41, 42, 43, 44, 45] (by decide +kernel) (by decide +kernel)) (goodIn_sub (fun _ h => List.mem_cons_of_mem _ (List.mem_append_right _ h)) (by decide +kernel))
set_option maxRecDepth 20000 in
theorem gX6_close_X6_open : GoodIn wsX6_close (wsV RX6 159 RX6 yX6_open wsX6_open) := goodIn_app (goodIn_of _ (by decide +kernel)) ggX6_close_X6_open
theorem dX6_close_0 : decode cX6_close 0 = .ok (.aload_n 0, 1) := by decide +kernel
theorem dX6_close_1 : decode cX6_close 1 = .ok (.aload_n 0, 1) := by decide +kernel
theorem dX6_close_2 : decode cX6_close 2 = .ok (.iload_n 1, 1) := by decide +kernel
theorem dX6_close_3 : decode cX6_close 3 = .ok (.invokevirtual 156, 3) := by decide +kernel
theorem dX6_close_6 : decode cX6_close 6 = .ok (.ifCond .ne 7, 3) := by decide +kernel
theorem dX6_close_9 : decode cX6_close 9 = .ok (.iconst 1, 1) := by decide +kernel
theorem dX6_close_10 : decode cX6_close 10 = .ok (.goto 32, 3) := by decide +kernel
theorem dX6_close_13 : decode cX6_close 13 = .ok (.aload_n 0, 1) := by decide +kernel
theorem dX6_close_14 : decode cX6_close 14 = .ok (.getfield 13, 3) := by decide +kernel
theorem dX6_close_17 : decode cX6_close 17 = .ok (.iload_n 1, 1) := by decide +kernel
theorem dX6_close_18 : decode cX6_close 18 = .ok (.caload, 1) := by decide +kernel
theorem dX6_close_19 : decode cX6_close 19 = .ok (.bipush 110, 2) := by decide +kernel
theorem dX6_close_21 : decode cX6_close 21 = .ok (.if_icmp .eq 7, 3) := by decide +kernel
theorem dX6_close_24 : decode cX6_close 24 = .ok (.iconst 2, 1) := by decide +kernel
theorem dX6_close_25 : decode cX6_close 25 = .ok (.goto 17, 3) := by decide +kernel
theorem dX6_close_28 : decode cX6_close 28 = .ok (.aload_n 0, 1) := by decide +kernel
theorem dX6_close_29 : decode cX6_close 29 = .ok (.getfield 17, 3) := by decide +kernel
theorem dX6_close_32 : decode cX6_close 32 = .ok (.iload_n 1, 1) := by decide +kernel
theorem dX6_close_33 : decode cX6_close 33 = .ok (.baload, 1) := by decide +kernel
theorem dX6_close_34 : decode cX6_close 34 = .ok (.ifCond .ne 7, 3) := by decide +kernel
theorem dX6_close_37 : decode cX6_close 37 = .ok (.iconst 3, 1) := by decide +kernel
theorem dX6_close_38 : decode cX6_close 38 = .ok (.goto 4, 3) := by decide +kernel
theorem dX6_close_41 : decode cX6_close 41 = .ok (.iconst 0, 1) := by decide +kernel
theorem dX6_close_42 : decode cX6_close 42 = .ok (.putfield 82, 3) := by decide +kernel
theorem dX6_close_45 : decode cX6_close 45 = .ok (.aload_n 0, 1) := by decide +kernel
theorem dX6_close_46 : decode cX6_close 46 = .ok (.getfield 82, 3) := by decide +kernel
theorem dX6_close_49 : decode cX6_close 49 = .ok (.ifCond .le 5, 3) := by decide +kernel
theorem dX6_close_52 : decode cX6_close 52 = .ok (.iconst (-1), 1) := by decide +kernel
theorem dX6_close_53 : decode cX6_close 53 = .ok (.ireturn, 1) := by decide +kernel
theorem dX6_close_54 : decode cX6_close 54 = .ok (.aload_n 0, 1) := by decide +kernel
theorem dX6_close_55 : decode cX6_close 55 = .ok (.getfield 17, 3) := by decide +kernel
theorem dX6_close_58 : decode cX6_close 58 = .ok (.iload_n 1, 1) := by decide +kernel
theorem dX6_close_59 : decode cX6_close 59 = .ok (.iconst 0, 1) := by decide +kernel
theorem dX6_close_60 : decode cX6_close 60 = .ok (.bastore, 1) := by decide +kernel
theorem dX6_close_61 : decode cX6_close 61 = .ok (.aload_n 0, 1) := by decide +kernel
theorem dX6_close_62 : decode cX6_close 62 = .ok (.invokevirtual 159, 3) := by decide +kernel
theorem dX6_close_65 : decode cX6_close 65 = .ok (.ireturn, 1) := by decide +kernel
set_option maxRecDepth 20000 in
theorem ggX6_isCrew_X6_in : GoodIn wsX6_isCrew wsX6_in := goodIn_r _ [5] (by decide +kernel) (by decide +kernel)
set_option maxRecDepth 20000 in
theorem gX6_isCrew_X6_in : GoodIn wsX6_isCrew (va_wsS RX6 87 yX6_in wsX6_in) := goodIn_app (goodIn_of _ (by decide +kernel)) ggX6_isCrew_X6_in
theorem dX6_isCrew_0 : decode cX6_isCrew 0 = .ok (.iload_n 0, 1) := by decide +kernel
theorem dX6_isCrew_1 : decode cX6_isCrew 1 = .ok (.i2l, 1) := by decide +kernel
theorem dX6_isCrew_2 : decode cX6_isCrew 2 = .ok (.lconst 0, 1) := by decide +kernel
theorem dX6_isCrew_3 : decode cX6_isCrew 3 = .ok (.ldc2_w 101, 3) := by decide +kernel
theorem dX6_isCrew_6 : decode cX6_isCrew 6 = .ok (.invokestatic 87, 3) := by decide +kernel
theorem dX6_isCrew_9 : decode cX6_isCrew 9 = .ok (.ireturn, 1) := by decide +kernel
set_option maxRecDepth 20000 in
theorem ggX6_begin_X6_isCrew : GoodIn wsX6_begin wsX6_isCrew := goodIn_r _ [8, 9, 10, 11, 7, 12] (by decide +kernel) (by decide +kernel)
set_option maxRecDepth 20000 in
theorem gX6_begin_X6_isCrew : GoodIn wsX6_begin (va_wsS RX6 163 yX6_isCrew wsX6_isCrew) := goodIn_app (goodIn_of _ (by decide +kernel)) ggX6_begin_X6_isCrew
theorem dX6_begin_0 : decode cX6_begin 0 = .ok (.aload_n 0, 1) := by decide +kernel
theorem dX6_begin_1 : decode cX6_begin 1 = .ok (.iload_n 1, 1) := by decide +kernel
theorem dX6_begin_2 : decode cX6_begin 2 = .ok (.invokestatic 163, 3) := by decide +kernel
theorem dX6_begin_5 : decode cX6_begin 5 = .ok (.ifCond .ne 7, 3) := by decide +kernel
theorem dX6_begin_8 : decode cX6_begin 8 = .ok (.iconst 1, 1) := by decide +kernel
theorem dX6_begin_9 : decode cX6_begin 9 = .ok (.goto 16, 3) := by decide +kernel
theorem dX6_begin_12 : decode cX6_begin 12 = .ok (.aload_n 0, 1) := by decide +kernel
theorem dX6_begin_13 : decode cX6_begin 13 = .ok (.getfield 72, 3) := by decide +kernel
theorem dX6_begin_16 : decode cX6_begin 16 = .ok (.iconst (-1), 1) := by decide +kernel
theorem dX6_begin_17 : decode cX6_begin 17 = .ok (.if_icmp .eq 7, 3) := by decide +kernel
theorem dX6_begin_20 : decode cX6_begin 20 = .ok (.iconst 2, 1) := by decide +kernel
theorem dX6_begin_21 : decode cX6_begin 21 = .ok (.goto 4, 3) := by decide +kernel
theorem dX6_begin_24 : decode cX6_begin 24 = .ok (.iconst 0, 1) := by decide +kernel
theorem dX6_begin_25 : decode cX6_begin 25 = .ok (.putfield 82, 3) := by decide +kernel
theorem dX6_begin_28 : decode cX6_begin 28 = .ok (.aload_n 0, 1) := by decide +kernel
theorem dX6_begin_29 : decode cX6_begin 29 = .ok (.getfield 82, 3) := by decide +kernel
theorem dX6_begin_32 : decode cX6_begin 32 = .ok (.ifCond .le 5, 3) := by decide +kernel
theorem dX6_begin_35 : decode cX6_begin 35 = .ok (.iconst (-1), 1) := by decide +kernel
theorem dX6_begin_36 : decode cX6_begin 36 = .ok (.ireturn, 1) := by decide +kernel
theorem dX6_begin_37 : decode cX6_begin 37 = .ok (.aload_n 0, 1) := by decide +kernel
theorem dX6_begin_38 : decode cX6_begin 38 = .ok (.iload_n 1, 1) := by decide +kernel
theorem dX6_begin_39 : decode cX6_begin 39 = .ok (.putfield 72, 3) := by decide +kernel
theorem dX6_begin_42 : decode cX6_begin 42 = .ok (.aload_n 0, 1) := by decide +kernel
theorem dX6_begin_43 : decode cX6_begin 43 = .ok (.aload_n 0, 1) := by decide +kernel
theorem dX6_begin_44 : decode cX6_begin 44 = .ok (.getfield 98, 3) := by decide +kernel
theorem dX6_begin_47 : decode cX6_begin 47 = .ok (.putfield 127, 3) := by decide +kernel
theorem dX6_begin_50 : decode cX6_begin 50 = .ok (.aload_n 0, 1) := by decide +kernel
theorem dX6_begin_51 : decode cX6_begin 51 = .ok (.getfield 98, 3) := by decide +kernel
theorem dX6_begin_54 : decode cX6_begin 54 = .ok (.ireturn, 1) := by decide +kernel
theorem dX6_restOf_0 : decode cX6_restOf 0 = .ok (.aload_n 0, 1) := by decide +kernel
theorem dX6_restOf_1 : decode cX6_restOf 1 = .ok (.getfield 79, 3) := by decide +kernel
theorem dX6_restOf_4 : decode cX6_restOf 4 = .ok (.iload_n 1, 1) := by decide +kernel
theorem dX6_restOf_5 : decode cX6_restOf 5 = .ok (.iaload, 1) := by decide +kernel
theorem dX6_restOf_6 : decode cX6_restOf 6 = .ok (.iconst (-1), 1) := by decide +kernel
theorem dX6_restOf_7 : decode cX6_restOf 7 = .ok (.if_icmp .eq 11, 3) := by decide +kernel
theorem dX6_restOf_10 : decode cX6_restOf 10 = .ok (.aload_n 0, 1) := by decide +kernel
theorem dX6_restOf_11 : decode cX6_restOf 11 = .ok (.getfield 72, 3) := by decide +kernel
theorem dX6_restOf_14 : decode cX6_restOf 14 = .ok (.iload_n 1, 1) := by decide +kernel
theorem dX6_restOf_15 : decode cX6_restOf 15 = .ok (.if_icmp .ne 7, 3) := by decide +kernel
theorem dX6_restOf_18 : decode cX6_restOf 18 = .ok (.iconst 0, 1) := by decide +kernel
theorem dX6_restOf_19 : decode cX6_restOf 19 = .ok (.goto 17, 3) := by decide +kernel
theorem dX6_restOf_22 : decode cX6_restOf 22 = .ok (.aload_n 0, 1) := by decide +kernel
theorem dX6_restOf_23 : decode cX6_restOf 23 = .ok (.getfield 79, 3) := by decide +kernel
theorem dX6_restOf_26 : decode cX6_restOf 26 = .ok (.iload_n 1, 1) := by decide +kernel
theorem dX6_restOf_27 : decode cX6_restOf 27 = .ok (.iaload, 1) := by decide +kernel
theorem dX6_restOf_28 : decode cX6_restOf 28 = .ok (.bipush 11, 2) := by decide +kernel
theorem dX6_restOf_30 : decode cX6_restOf 30 = .ok (.iadd, 1) := by decide +kernel
theorem dX6_restOf_31 : decode cX6_restOf 31 = .ok (.aload_n 0, 1) := by decide +kernel
theorem dX6_restOf_32 : decode cX6_restOf 32 = .ok (.getfield 98, 3) := by decide +kernel
theorem dX6_restOf_35 : decode cX6_restOf 35 = .ok (.isub, 1) := by decide +kernel
theorem dX6_restOf_36 : decode cX6_restOf 36 = .ok (.istore_n 2, 1) := by decide +kernel
theorem dX6_restOf_37 : decode cX6_restOf 37 = .ok (.iload_n 2, 1) := by decide +kernel
theorem dX6_restOf_38 : decode cX6_restOf 38 = .ok (.ifCond .le 7, 3) := by decide +kernel
theorem dX6_restOf_41 : decode cX6_restOf 41 = .ok (.iload_n 2, 1) := by decide +kernel
theorem dX6_restOf_42 : decode cX6_restOf 42 = .ok (.goto 4, 3) := by decide +kernel
theorem dX6_restOf_45 : decode cX6_restOf 45 = .ok (.iconst 0, 1) := by decide +kernel
theorem dX6_restOf_46 : decode cX6_restOf 46 = .ok (.ireturn, 1) := by decide +kernel
set_option maxRecDepth 20000 in
theorem ggX6_handOver_X6_isCrew : GoodIn wsX6_handOver wsX6_isCrew := goodIn_r _ [9, 10, 11, 12, 8, 13] (by decide +kernel) (by decide +kernel)
set_option maxRecDepth 20000 in
theorem gX6_handOver_X6_isCrew : GoodIn wsX6_handOver (va_wsS RX6 163 yX6_isCrew wsX6_isCrew) := goodIn_app (goodIn_of _ (by decide +kernel)) ggX6_handOver_X6_isCrew
set_option maxRecDepth 20000 in
theorem ggX6_handOver_X6_acts : GoodIn wsX6_handOver wsX6_acts := goodIn_r _ [17, 2, 3, 29, 30, 31, 32, 33, 34, 35, 36, 37, 38, 39, 40, 41, 42, 43, 44, 45, 46, 47, 48, 49, 50, 51, 52, 53, 54, 55, 56, 57] (by decide +kernel) (by decide +kernel)
set_option maxRecDepth 20000 in
theorem gX6_handOver_X6_acts : GoodIn wsX6_handOver (wsV RX6 133 RX6 yX6_acts wsX6_acts) := goodIn_app (goodIn_of _ (by decide +kernel)) ggX6_handOver_X6_acts
set_option maxRecDepth 20000 in
theorem ggX6_handOver_X6_restOf : GoodIn wsX6_handOver wsX6_restOf := goodIn_ca (goodIn_r _ [21, 22, 2, 23, 29, 30, 31, 32, 33, 34, 35, 36, 37, 38, 39, 40, 41, 42, 43, 44, 45, 46, 47, 48, 49, 50, 51, 52, 53, 54, 55, 56, 57] (by decide +kernel) (by decide +kernel)) (goodIn_sub (fun _ h => List.mem_cons_of_mem _ (List.mem_append_right _ h)) (by decide +kernel))
set_option maxRecDepth 20000 in
theorem gX6_handOver_X6_restOf : GoodIn wsX6_handOver (wsV RX6 166 RX6 yX6_restOf wsX6_restOf) := goodIn_app (goodIn_of _ (by decide +kernel)) ggX6_handOver_X6_restOf
set_option maxRecDepth 20000 in
theorem ggX6_handOver_X6_open : GoodIn wsX6_handOver wsX6_open := goodIn_ca (goodIn_r _ [27, 4, 28, 29, 30, 31, 32, 33, 34, 35, 36, 37, 38, 39, 40, 41, 42, 43, 44, 45, 46, 47, 48, 49, 50, 51, 52, 53, 54, 55, 56, 57] (by decide +kernel) (by decide +kernel)) (goodIn_sub (fun _ h => List.mem_cons_of_mem _ (List.mem_append_right _ h)) (by decide +kernel))
set_option maxRecDepth 20000 in
theorem gX6_handOver_X6_open : GoodIn wsX6_handOver (wsV RX6 159 RX6 yX6_open wsX6_open) := goodIn_app (goodIn_of _ (by decide +kernel)) ggX6_handOver_X6_open
theorem dX6_handOver_0 : decode cX6_handOver 0 = .ok (.iload_n 1, 1) := by decide +kernel
theorem dX6_handOver_1 : decode cX6_handOver 1 = .ok (.invokestatic 163, 3) := by decide +kernel
theorem dX6_handOver_4 : decode cX6_handOver 4 = .ok (.ifCond .ne 10, 3) := by decide +kernel
theorem dX6_handOver_7 : decode cX6_handOver 7 = .ok (.aload_n 0, 1) := by decide +kernel
theorem dX6_handOver_8 : decode cX6_handOver 8 = .ok (.iconst 1, 1) := by decide +kernel
theorem dX6_handOver_9 : decode cX6_handOver 9 = .ok (.putfield 82, 3) := by decide +kernel
theorem dX6_handOver_12 : decode cX6_handOver 12 = .ok (.iconst (-1), 1) := by decide +kernel
theorem dX6_handOver_13 : decode cX6_handOver 13 = .ok (.ireturn, 1) := by decide +kernel
theorem dX6_handOver_14 : decode cX6_handOver 14 = .ok (.aload_n 0, 1) := by decide +kernel
theorem dX6_handOver_15 : decode cX6_handOver 15 = .ok (.aload_n 0, 1) := by decide +kernel
theorem dX6_handOver_16 : decode cX6_handOver 16 = .ok (.invokevirtual 133, 3) := by decide +kernel
theorem dX6_handOver_19 : decode cX6_handOver 19 = .ok (.ifCond .eq 11, 3) := by decide +kernel
theorem dX6_handOver_22 : decode cX6_handOver 22 = .ok (.aload_n 0, 1) := by decide +kernel
theorem dX6_handOver_23 : decode cX6_handOver 23 = .ok (.getfield 72, 3) := by decide +kernel
theorem dX6_handOver_26 : decode cX6_handOver 26 = .ok (.iload_n 1, 1) := by decide +kernel
theorem dX6_handOver_27 : decode cX6_handOver 27 = .ok (.if_icmp .ne 7, 3) := by decide +kernel
theorem dX6_handOver_30 : decode cX6_handOver 30 = .ok (.iconst 2, 1) := by decide +kernel
theorem dX6_handOver_31 : decode cX6_handOver 31 = .ok (.goto 16, 3) := by decide +kernel
theorem dX6_handOver_34 : decode cX6_handOver 34 = .ok (.aload_n 0, 1) := by decide +kernel
theorem dX6_handOver_35 : decode cX6_handOver 35 = .ok (.iload_n 1, 1) := by decide +kernel
theorem dX6_handOver_36 : decode cX6_handOver 36 = .ok (.invokevirtual 166, 3) := by decide +kernel
theorem dX6_handOver_39 : decode cX6_handOver 39 = .ok (.ifCond .le 7, 3) := by decide +kernel
theorem dX6_handOver_42 : decode cX6_handOver 42 = .ok (.iconst 3, 1) := by decide +kernel
theorem dX6_handOver_43 : decode cX6_handOver 43 = .ok (.goto 4, 3) := by decide +kernel
theorem dX6_handOver_46 : decode cX6_handOver 46 = .ok (.iconst 0, 1) := by decide +kernel
theorem dX6_handOver_47 : decode cX6_handOver 47 = .ok (.putfield 82, 3) := by decide +kernel
theorem dX6_handOver_50 : decode cX6_handOver 50 = .ok (.aload_n 0, 1) := by decide +kernel
theorem dX6_handOver_51 : decode cX6_handOver 51 = .ok (.getfield 82, 3) := by decide +kernel
theorem dX6_handOver_54 : decode cX6_handOver 54 = .ok (.ifCond .le 5, 3) := by decide +kernel
theorem dX6_handOver_57 : decode cX6_handOver 57 = .ok (.iconst (-1), 1) := by decide +kernel
theorem dX6_handOver_58 : decode cX6_handOver 58 = .ok (.ireturn, 1) := by decide +kernel
theorem dX6_handOver_59 : decode cX6_handOver 59 = .ok (.aload_n 0, 1) := by decide +kernel
theorem dX6_handOver_60 : decode cX6_handOver 60 = .ok (.iload_n 1, 1) := by decide +kernel
theorem dX6_handOver_61 : decode cX6_handOver 61 = .ok (.putfield 76, 3) := by decide +kernel
theorem dX6_handOver_64 : decode cX6_handOver 64 = .ok (.iconst 0, 1) := by decide +kernel
theorem dX6_handOver_65 : decode cX6_handOver 65 = .ok (.istore_n 2, 1) := by decide +kernel
theorem dX6_handOver_66 : decode cX6_handOver 66 = .ok (.iload_n 2, 1) := by decide +kernel
theorem dX6_handOver_67 : decode cX6_handOver 67 = .ok (.aload_n 0, 1) := by decide +kernel
theorem dX6_handOver_68 : decode cX6_handOver 68 = .ok (.getfield 95, 3) := by decide +kernel
theorem dX6_handOver_71 : decode cX6_handOver 71 = .ok (.if_icmp .ge 16, 3) := by decide +kernel
theorem dX6_handOver_74 : decode cX6_handOver 74 = .ok (.aload_n 0, 1) := by decide +kernel
theorem dX6_handOver_75 : decode cX6_handOver 75 = .ok (.getfield 27, 3) := by decide +kernel
theorem dX6_handOver_78 : decode cX6_handOver 78 = .ok (.iload_n 2, 1) := by decide +kernel
theorem dX6_handOver_79 : decode cX6_handOver 79 = .ok (.iconst 0, 1) := by decide +kernel
theorem dX6_handOver_80 : decode cX6_handOver 80 = .ok (.bastore, 1) := by decide +kernel
theorem dX6_handOver_81 : decode cX6_handOver 81 = .ok (.iinc 2 1, 3) := by decide +kernel
theorem dX6_handOver_84 : decode cX6_handOver 84 = .ok (.goto (-18), 3) := by decide +kernel
theorem dX6_handOver_87 : decode cX6_handOver 87 = .ok (.aload_n 0, 1) := by decide +kernel
theorem dX6_handOver_88 : decode cX6_handOver 88 = .ok (.invokevirtual 159, 3) := by decide +kernel
theorem dX6_handOver_91 : decode cX6_handOver 91 = .ok (.ireturn, 1) := by decide +kernel
set_option maxRecDepth 20000 in
theorem ggX6_acknowledge_X6_isLine : GoodIn wsX6_acknowledge wsX6_isLine := goodIn_r _ [9, 10, 11, 12, 8, 13, 18, 19, 20, 21, 22, 23, 24, 25, 26, 27, 28, 29, 30, 31, 32, 33, 34, 35, 36, 37, 38, 39, 40, 41, 42, 43, 44, 45, 46] (by decide +kernel) (by decide +kernel)
set_option maxRecDepth 20000 in
theorem gX6_acknowledge_X6_isLine : GoodIn wsX6_acknowledge (wsV RX6 156 RX6 yX6_isLine wsX6_isLine) := goodIn_app (goodIn_of _ (by decide +kernel)) ggX6_acknowledge_X6_isLine
set_option maxRecDepth 20000 in
theorem ggX6_acknowledge_X6_unknown : GoodIn wsX6_acknowledge wsX6_unknown := goodIn_ca (goodIn_r _ [17, 10, 2, 3, 18, 19, 20, 21, 22, 23, 24, 25, 26, 27, 28, 29, 30, 31, 32, 33, 34, 35, 36, 37, 38, 39, 40, 41, 42, 43, 44, 45, 46] (by decide +kernel) (by decide +kernel)) (goodIn_sub (fun _ h => List.mem_cons_of_mem _ (List.mem_append_right _ h)) (by decide +kernel))
set_option maxRecDepth 20000 in
theorem gX6_acknowledge_X6_unknown : GoodIn wsX6_acknowledge (wsV RX6 169 RX6 yX6_unknown wsX6_unknown) := goodIn_app (goodIn_of _ (by decide +kernel)) ggX6_acknowledge_X6_unknown
theorem dX6_acknowledge_0 : decode cX6_acknowledge 0 = .ok (.aload_n 0, 1) := by decide +kernel
theorem dX6_acknowledge_1 : decode cX6_acknowledge 1 = .ok (.aload_n 0, 1) := by decide +kernel
theorem dX6_acknowledge_2 : decode cX6_acknowledge 2 = .ok (.iload_n 1, 1) := by decide +kernel
theorem dX6_acknowledge_3 : decode cX6_acknowledge 3 = .ok (.invokevirtual 156, 3) := by decide +kernel
theorem dX6_acknowledge_6 : decode cX6_acknowledge 6 = .ok (.ifCond .ne 7, 3) := by decide +kernel
theorem dX6_acknowledge_9 : decode cX6_acknowledge 9 = .ok (.iconst 1, 1) := by decide +kernel
theorem dX6_acknowledge_10 : decode cX6_acknowledge 10 = .ok (.goto 34, 3) := by decide +kernel
theorem dX6_acknowledge_13 : decode cX6_acknowledge 13 = .ok (.aload_n 0, 1) := by decide +kernel
theorem dX6_acknowledge_14 : decode cX6_acknowledge 14 = .ok (.getfield 76, 3) := by decide +kernel
theorem dX6_acknowledge_17 : decode cX6_acknowledge 17 = .ok (.iconst (-1), 1) := by decide +kernel
theorem dX6_acknowledge_18 : decode cX6_acknowledge 18 = .ok (.if_icmp .eq 21, 3) := by decide +kernel
theorem dX6_acknowledge_21 : decode cX6_acknowledge 21 = .ok (.aload_n 0, 1) := by decide +kernel
theorem dX6_acknowledge_22 : decode cX6_acknowledge 22 = .ok (.getfield 17, 3) := by decide +kernel
theorem dX6_acknowledge_25 : decode cX6_acknowledge 25 = .ok (.iload_n 1, 1) := by decide +kernel
theorem dX6_acknowledge_26 : decode cX6_acknowledge 26 = .ok (.baload, 1) := by decide +kernel
theorem dX6_acknowledge_27 : decode cX6_acknowledge 27 = .ok (.ifCond .eq 12, 3) := by decide +kernel
theorem dX6_acknowledge_30 : decode cX6_acknowledge 30 = .ok (.aload_n 0, 1) := by decide +kernel
theorem dX6_acknowledge_31 : decode cX6_acknowledge 31 = .ok (.getfield 27, 3) := by decide +kernel
theorem dX6_acknowledge_34 : decode cX6_acknowledge 34 = .ok (.iload_n 1, 1) := by decide +kernel
theorem dX6_acknowledge_35 : decode cX6_acknowledge 35 = .ok (.baload, 1) := by decide +kernel
theorem dX6_acknowledge_36 : decode cX6_acknowledge 36 = .ok (.ifCond .eq 7, 3) := by decide +kernel
theorem dX6_acknowledge_39 : decode cX6_acknowledge 39 = .ok (.iconst 2, 1) := by decide +kernel
theorem dX6_acknowledge_40 : decode cX6_acknowledge 40 = .ok (.goto 4, 3) := by decide +kernel
theorem dX6_acknowledge_43 : decode cX6_acknowledge 43 = .ok (.iconst 0, 1) := by decide +kernel
theorem dX6_acknowledge_44 : decode cX6_acknowledge 44 = .ok (.putfield 82, 3) := by decide +kernel
theorem dX6_acknowledge_47 : decode cX6_acknowledge 47 = .ok (.aload_n 0, 1) := by decide +kernel
theorem dX6_acknowledge_48 : decode cX6_acknowledge 48 = .ok (.getfield 82, 3) := by decide +kernel
theorem dX6_acknowledge_51 : decode cX6_acknowledge 51 = .ok (.ifCond .le 5, 3) := by decide +kernel
theorem dX6_acknowledge_54 : decode cX6_acknowledge 54 = .ok (.iconst (-1), 1) := by decide +kernel
theorem dX6_acknowledge_55 : decode cX6_acknowledge 55 = .ok (.ireturn, 1) := by decide +kernel
theorem dX6_acknowledge_56 : decode cX6_acknowledge 56 = .ok (.aload_n 0, 1) := by decide +kernel
theorem dX6_acknowledge_57 : decode cX6_acknowledge 57 = .ok (.getfield 27, 3) := by decide +kernel
theorem dX6_acknowledge_60 : decode cX6_acknowledge 60 = .ok (.iload_n 1, 1) := by decide +kernel
theorem dX6_acknowledge_61 : decode cX6_acknowledge 61 = .ok (.iconst 1, 1) := by decide +kernel
theorem dX6_acknowledge_62 : decode cX6_acknowledge 62 = .ok (.bastore, 1) := by decide +kernel
theorem dX6_acknowledge_63 : decode cX6_acknowledge 63 = .ok (.aload_n 0, 1) := by decide +kernel
theorem dX6_acknowledge_64 : decode cX6_acknowledge 64 = .ok (.invokevirtual 169, 3) := by decide +kernel
theorem dX6_acknowledge_67 : decode cX6_acknowledge 67 = .ok (.ireturn, 1) := by decide +kernel
set_option maxRecDepth 20000 in
theorem ggX6_take_X6_unknown : GoodIn wsX6_take wsX6_unknown := goodIn_ca (goodIn_r _ [14, 3, 5, 15, 20, 21, 22, 23, 24, 25, 26, 27, 28, 29, 30, 31, 32, 33, 34, 35, 36, 37, 38, 39, 40, 41, 42, 43, 44, 45, 46, 47, 48] (by decide +kernel) (by decide +kernel)) (goodIn_sub (fun _ h => List.mem_cons_of_mem _ (List.mem_append_right _ h)) (by decide +kernel))
set_option maxRecDepth 20000 in
theorem gX6_take_X6_unknown : GoodIn wsX6_take (wsV RX6 169 RX6 yX6_unknown wsX6_unknown) := goodIn_app (goodIn_of _ (by decide +kernel)) ggX6_take_X6_unknown
set_option maxRecDepth 20000 in
theorem ggX6_take_X6_open : GoodIn wsX6_take wsX6_open := goodIn_ca (goodIn_r _ [19, 3, 5, 20, 21, 22, 23, 24, 25, 26, 27, 28, 29, 30, 31, 32, 33, 34, 35, 36, 37, 38, 39, 40, 41, 42, 43, 44, 45, 46, 47, 48] (by decide +kernel) (by decide +kernel)) (goodIn_sub (fun _ h => List.mem_cons_of_mem _ (List.mem_append_right _ h)) (by decide +kernel))
set_option maxRecDepth 20000 in
theorem gX6_take_X6_open : GoodIn wsX6_take (wsV RX6 159 RX6 yX6_open wsX6_open) := goodIn_app (goodIn_of _ (by decide +kernel)) ggX6_take_X6_open
theorem dX6_take_0 : decode cX6_take 0 = .ok (.aload_n 0, 1) := by decide +kernel
theorem dX6_take_1 : decode cX6_take 1 = .ok (.aload_n 0, 1) := by decide +kernel
theorem dX6_take_2 : decode cX6_take 2 = .ok (.getfield 76, 3) := by decide +kernel
theorem dX6_take_5 : decode cX6_take 5 = .ok (.iconst (-1), 1) := by decide +kernel
theorem dX6_take_6 : decode cX6_take 6 = .ok (.if_icmp .ne 7, 3) := by decide +kernel
theorem dX6_take_9 : decode cX6_take 9 = .ok (.iconst 1, 1) := by decide +kernel
theorem dX6_take_10 : decode cX6_take 10 = .ok (.goto 15, 3) := by decide +kernel
theorem dX6_take_13 : decode cX6_take 13 = .ok (.aload_n 0, 1) := by decide +kernel
theorem dX6_take_14 : decode cX6_take 14 = .ok (.invokevirtual 169, 3) := by decide +kernel
theorem dX6_take_17 : decode cX6_take 17 = .ok (.ifCond .le 7, 3) := by decide +kernel
theorem dX6_take_20 : decode cX6_take 20 = .ok (.iconst 2, 1) := by decide +kernel
theorem dX6_take_21 : decode cX6_take 21 = .ok (.goto 4, 3) := by decide +kernel
theorem dX6_take_24 : decode cX6_take 24 = .ok (.iconst 0, 1) := by decide +kernel
theorem dX6_take_25 : decode cX6_take 25 = .ok (.putfield 82, 3) := by decide +kernel
theorem dX6_take_28 : decode cX6_take 28 = .ok (.aload_n 0, 1) := by decide +kernel
theorem dX6_take_29 : decode cX6_take 29 = .ok (.getfield 82, 3) := by decide +kernel
theorem dX6_take_32 : decode cX6_take 32 = .ok (.ifCond .le 5, 3) := by decide +kernel
theorem dX6_take_35 : decode cX6_take 35 = .ok (.iconst (-1), 1) := by decide +kernel
theorem dX6_take_36 : decode cX6_take 36 = .ok (.ireturn, 1) := by decide +kernel
theorem dX6_take_37 : decode cX6_take 37 = .ok (.iconst 0, 1) := by decide +kernel
theorem dX6_take_38 : decode cX6_take 38 = .ok (.istore_n 1, 1) := by decide +kernel
theorem dX6_take_39 : decode cX6_take 39 = .ok (.iload_n 1, 1) := by decide +kernel
theorem dX6_take_40 : decode cX6_take 40 = .ok (.aload_n 0, 1) := by decide +kernel
theorem dX6_take_41 : decode cX6_take 41 = .ok (.getfield 95, 3) := by decide +kernel
theorem dX6_take_44 : decode cX6_take 44 = .ok (.if_icmp .ge 32, 3) := by decide +kernel
theorem dX6_take_47 : decode cX6_take 47 = .ok (.aload_n 0, 1) := by decide +kernel
theorem dX6_take_48 : decode cX6_take 48 = .ok (.getfield 24, 3) := by decide +kernel
theorem dX6_take_51 : decode cX6_take 51 = .ok (.iload_n 1, 1) := by decide +kernel
theorem dX6_take_52 : decode cX6_take 52 = .ok (.dup2, 1) := by decide +kernel
theorem dX6_take_53 : decode cX6_take 53 = .ok (.iaload, 1) := by decide +kernel
theorem dX6_take_54 : decode cX6_take 54 = .ok (.aload_n 0, 1) := by decide +kernel
theorem dX6_take_55 : decode cX6_take 55 = .ok (.getfield 17, 3) := by decide +kernel
theorem dX6_take_58 : decode cX6_take 58 = .ok (.iload_n 1, 1) := by decide +kernel
theorem dX6_take_59 : decode cX6_take 59 = .ok (.baload, 1) := by decide +kernel
theorem dX6_take_60 : decode cX6_take 60 = .ok (.ifCond .eq 7, 3) := by decide +kernel
theorem dX6_take_63 : decode cX6_take 63 = .ok (.iconst 1, 1) := by decide +kernel
theorem dX6_take_64 : decode cX6_take 64 = .ok (.goto 4, 3) := by decide +kernel
theorem dX6_take_67 : decode cX6_take 67 = .ok (.iconst 0, 1) := by decide +kernel
theorem dX6_take_68 : decode cX6_take 68 = .ok (.iadd, 1) := by decide +kernel
theorem dX6_take_69 : decode cX6_take 69 = .ok (.iastore, 1) := by decide +kernel
theorem dX6_take_70 : decode cX6_take 70 = .ok (.iinc 1 1, 3) := by decide +kernel
theorem dX6_take_73 : decode cX6_take 73 = .ok (.goto (-34), 3) := by decide +kernel
theorem dX6_take_76 : decode cX6_take 76 = .ok (.aload_n 0, 1) := by decide +kernel
theorem dX6_take_77 : decode cX6_take 77 = .ok (.getfield 79, 3) := by decide +kernel
theorem dX6_take_80 : decode cX6_take 80 = .ok (.aload_n 0, 1) := by decide +kernel
theorem dX6_take_81 : decode cX6_take 81 = .ok (.getfield 72, 3) := by decide +kernel
theorem dX6_take_84 : decode cX6_take 84 = .ok (.aload_n 0, 1) := by decide +kernel
theorem dX6_take_85 : decode cX6_take 85 = .ok (.getfield 98, 3) := by decide +kernel
theorem dX6_take_88 : decode cX6_take 88 = .ok (.iastore, 1) := by decide +kernel
theorem dX6_take_89 : decode cX6_take 89 = .ok (.aload_n 0, 1) := by decide +kernel
theorem dX6_take_90 : decode cX6_take 90 = .ok (.aload_n 0, 1) := by decide +kernel
theorem dX6_take_91 : decode cX6_take 91 = .ok (.getfield 76, 3) := by decide +kernel
theorem dX6_take_94 : decode cX6_take 94 = .ok (.putfield 72, 3) := by decide +kernel
theorem dX6_take_97 : decode cX6_take 97 = .ok (.aload_n 0, 1) := by decide +kernel
theorem dX6_take_98 : decode cX6_take 98 = .ok (.aload_n 0, 1) := by decide +kernel
theorem dX6_take_99 : decode cX6_take 99 = .ok (.getfield 98, 3) := by decide +kernel
theorem dX6_take_102 : decode cX6_take 102 = .ok (.putfield 127, 3) := by decide +kernel
theorem dX6_take_105 : decode cX6_take 105 = .ok (.aload_n 0, 1) := by decide +kernel
theorem dX6_take_106 : decode cX6_take 106 = .ok (.iconst (-1), 1) := by decide +kernel
theorem dX6_take_107 : decode cX6_take 107 = .ok (.putfield 76, 3) := by decide +kernel
theorem dX6_take_110 : decode cX6_take 110 = .ok (.aload_n 0, 1) := by decide +kernel
theorem dX6_take_111 : decode cX6_take 111 = .ok (.invokevirtual 159, 3) := by decide +kernel
theorem dX6_take_114 : decode cX6_take 114 = .ok (.ireturn, 1) := by decide +kernel
set_option maxRecDepth 20000 in
theorem ggX6_cancel_X6_open : GoodIn wsX6_cancel wsX6_open := goodIn_ca (goodIn_r _ [7, 8, 9, 15, 16, 17, 18, 19, 20, 21, 22, 23, 24, 25, 26, 27, 28, 29, 30, 31, 32, 33, 34, 35, 36, 37, 38, 39, 40, 41, 42, 43] (by decide +kernel) (by decide +kernel)) (goodIn_sub (fun _ h => List.mem_cons_of_mem _ (List.mem_append_right _ h)) (by decide +kernel))
set_option maxRecDepth 20000 in
theorem gX6_cancel_X6_open : GoodIn wsX6_cancel (wsV RX6 159 RX6 yX6_open wsX6_open) := goodIn_app (goodIn_of _ (by decide +kernel)) ggX6_cancel_X6_open
set_option maxRecDepth 20000 in
theorem ggX6_cancel_X6_unknown : GoodIn wsX6_cancel wsX6_unknown := goodIn_ca (goodIn_r _ [13, 8, 9, 14, 15, 16, 17, 18, 19, 20, 21, 22, 23, 24, 25, 26, 27, 28, 29, 30, 31, 32, 33, 34, 35, 36, 37, 38, 39, 40, 41, 42, 43] (by decide +kernel) (by decide +kernel)) (goodIn_sub (fun _ h => List.mem_cons_of_mem _ (List.mem_append_right _ h)) (by decide +kernel))
set_option maxRecDepth 20000 in
theorem gX6_cancel_X6_unknown : GoodIn wsX6_cancel (wsV RX6 169 RX6 yX6_unknown wsX6_unknown) := goodIn_app (goodIn_of _ (by decide +kernel)) ggX6_cancel_X6_unknown
theorem dX6_cancel_0 : decode cX6_cancel 0 = .ok (.aload_n 0, 1) := by decide +kernel
theorem dX6_cancel_1 : decode cX6_cancel 1 = .ok (.aload_n 0, 1) := by decide +kernel
theorem dX6_cancel_2 : decode cX6_cancel 2 = .ok (.getfield 76, 3) := by decide +kernel
theorem dX6_cancel_5 : decode cX6_cancel 5 = .ok (.iconst (-1), 1) := by decide +kernel
theorem dX6_cancel_6 : decode cX6_cancel 6 = .ok (.if_icmp .ne 7, 3) := by decide +kernel
theorem dX6_cancel_9 : decode cX6_cancel 9 = .ok (.iconst 1, 1) := by decide +kernel
theorem dX6_cancel_10 : decode cX6_cancel 10 = .ok (.goto 4, 3) := by decide +kernel
theorem dX6_cancel_13 : decode cX6_cancel 13 = .ok (.iconst 0, 1) := by decide +kernel
theorem dX6_cancel_14 : decode cX6_cancel 14 = .ok (.putfield 82, 3) := by decide +kernel
theorem dX6_cancel_17 : decode cX6_cancel 17 = .ok (.aload_n 0, 1) := by decide +kernel
theorem dX6_cancel_18 : decode cX6_cancel 18 = .ok (.getfield 82, 3) := by decide +kernel
theorem dX6_cancel_21 : decode cX6_cancel 21 = .ok (.ifCond .le 5, 3) := by decide +kernel
theorem dX6_cancel_24 : decode cX6_cancel 24 = .ok (.iconst (-1), 1) := by decide +kernel
theorem dX6_cancel_25 : decode cX6_cancel 25 = .ok (.ireturn, 1) := by decide +kernel
theorem dX6_cancel_26 : decode cX6_cancel 26 = .ok (.aload_n 0, 1) := by decide +kernel
theorem dX6_cancel_27 : decode cX6_cancel 27 = .ok (.iconst (-1), 1) := by decide +kernel
theorem dX6_cancel_28 : decode cX6_cancel 28 = .ok (.putfield 76, 3) := by decide +kernel
theorem dX6_cancel_31 : decode cX6_cancel 31 = .ok (.aload_n 0, 1) := by decide +kernel
theorem dX6_cancel_32 : decode cX6_cancel 32 = .ok (.invokevirtual 159, 3) := by decide +kernel
theorem dX6_cancel_35 : decode cX6_cancel 35 = .ok (.aload_n 0, 1) := by decide +kernel
theorem dX6_cancel_36 : decode cX6_cancel 36 = .ok (.invokevirtual 169, 3) := by decide +kernel
theorem dX6_cancel_39 : decode cX6_cancel 39 = .ok (.isub, 1) := by decide +kernel
theorem dX6_cancel_40 : decode cX6_cancel 40 = .ok (.ireturn, 1) := by decide +kernel
set_option maxRecDepth 20000 in
theorem ggX6_pass_X6_in : GoodIn wsX6_pass wsX6_in := goodIn_r _ [8] (by decide +kernel) (by decide +kernel)
set_option maxRecDepth 20000 in
theorem gX6_pass_X6_in : GoodIn wsX6_pass (va_wsS RX6 87 yX6_in wsX6_in) := goodIn_app (goodIn_of _ (by decide +kernel)) ggX6_pass_X6_in
set_option maxRecDepth 20000 in
theorem ggX6_pass_X6_isShelved : GoodIn wsX6_pass wsX6_isShelved := goodIn_ca (goodIn_r _ [12, 13, 3, 4, 14, 15, 16, 17, 18, 19, 20, 21, 22, 23, 24, 25, 26, 27, 28, 29, 30, 31, 32, 33, 34, 35, 36, 37, 38, 39, 40, 41, 42] (by decide +kernel) (by decide +kernel)) (goodIn_sub (fun _ h => List.mem_cons_of_mem _ (List.mem_append_right _ h)) (by decide +kernel))
set_option maxRecDepth 20000 in
theorem gX6_pass_X6_isShelved : GoodIn wsX6_pass (wsV RX6 115 RX6 yX6_isShelved wsX6_isShelved) := goodIn_app (goodIn_of _ (by decide +kernel)) ggX6_pass_X6_isShelved
theorem dX6_pass_0 : decode cX6_pass 0 = .ok (.aload_n 0, 1) := by decide +kernel
theorem dX6_pass_1 : decode cX6_pass 1 = .ok (.iload_n 1, 1) := by decide +kernel
theorem dX6_pass_2 : decode cX6_pass 2 = .ok (.i2l, 1) := by decide +kernel
theorem dX6_pass_3 : decode cX6_pass 3 = .ok (.lconst 1, 1) := by decide +kernel
theorem dX6_pass_4 : decode cX6_pass 4 = .ok (.ldc2_w 172, 3) := by decide +kernel
theorem dX6_pass_7 : decode cX6_pass 7 = .ok (.invokestatic 87, 3) := by decide +kernel
theorem dX6_pass_10 : decode cX6_pass 10 = .ok (.ifCond .eq 7, 3) := by decide +kernel
theorem dX6_pass_13 : decode cX6_pass 13 = .ok (.iconst 0, 1) := by decide +kernel
theorem dX6_pass_14 : decode cX6_pass 14 = .ok (.goto 4, 3) := by decide +kernel
theorem dX6_pass_17 : decode cX6_pass 17 = .ok (.iconst 1, 1) := by decide +kernel
theorem dX6_pass_18 : decode cX6_pass 18 = .ok (.putfield 82, 3) := by decide +kernel
theorem dX6_pass_21 : decode cX6_pass 21 = .ok (.aload_n 0, 1) := by decide +kernel
theorem dX6_pass_22 : decode cX6_pass 22 = .ok (.getfield 82, 3) := by decide +kernel
theorem dX6_pass_25 : decode cX6_pass 25 = .ok (.ifCond .le 5, 3) := by decide +kernel
theorem dX6_pass_28 : decode cX6_pass 28 = .ok (.iconst (-1), 1) := by decide +kernel
theorem dX6_pass_29 : decode cX6_pass 29 = .ok (.ireturn, 1) := by decide +kernel
theorem dX6_pass_30 : decode cX6_pass 30 = .ok (.iconst 0, 1) := by decide +kernel
theorem dX6_pass_31 : decode cX6_pass 31 = .ok (.istore_n 2, 1) := by decide +kernel
theorem dX6_pass_32 : decode cX6_pass 32 = .ok (.iconst 0, 1) := by decide +kernel
theorem dX6_pass_33 : decode cX6_pass 33 = .ok (.istore_n 3, 1) := by decide +kernel
theorem dX6_pass_34 : decode cX6_pass 34 = .ok (.iload_n 3, 1) := by decide +kernel
theorem dX6_pass_35 : decode cX6_pass 35 = .ok (.bipush 32, 2) := by decide +kernel
theorem dX6_pass_37 : decode cX6_pass 37 = .ok (.if_icmp .ge 40, 3) := by decide +kernel
theorem dX6_pass_40 : decode cX6_pass 40 = .ok (.iload_n 2, 1) := by decide +kernel
theorem dX6_pass_41 : decode cX6_pass 41 = .ok (.aload_n 0, 1) := by decide +kernel
theorem dX6_pass_42 : decode cX6_pass 42 = .ok (.iload_n 3, 1) := by decide +kernel
theorem dX6_pass_43 : decode cX6_pass 43 = .ok (.invokevirtual 115, 3) := by decide +kernel
theorem dX6_pass_46 : decode cX6_pass 46 = .ok (.ifCond .eq 22, 3) := by decide +kernel
theorem dX6_pass_49 : decode cX6_pass 49 = .ok (.aload_n 0, 1) := by decide +kernel
theorem dX6_pass_50 : decode cX6_pass 50 = .ok (.getfield 98, 3) := by decide +kernel
theorem dX6_pass_53 : decode cX6_pass 53 = .ok (.iload_n 1, 1) := by decide +kernel
theorem dX6_pass_54 : decode cX6_pass 54 = .ok (.iadd, 1) := by decide +kernel
theorem dX6_pass_55 : decode cX6_pass 55 = .ok (.aload_n 0, 1) := by decide +kernel
theorem dX6_pass_56 : decode cX6_pass 56 = .ok (.getfield 36, 3) := by decide +kernel
theorem dX6_pass_59 : decode cX6_pass 59 = .ok (.iload_n 3, 1) := by decide +kernel
theorem dX6_pass_60 : decode cX6_pass 60 = .ok (.iaload, 1) := by decide +kernel
theorem dX6_pass_61 : decode cX6_pass 61 = .ok (.if_icmp .lt 7, 3) := by decide +kernel
theorem dX6_pass_64 : decode cX6_pass 64 = .ok (.iconst 1, 1) := by decide +kernel
theorem dX6_pass_65 : decode cX6_pass 65 = .ok (.goto 4, 3) := by decide +kernel
theorem dX6_pass_68 : decode cX6_pass 68 = .ok (.iconst 0, 1) := by decide +kernel
theorem dX6_pass_69 : decode cX6_pass 69 = .ok (.iadd, 1) := by decide +kernel
theorem dX6_pass_70 : decode cX6_pass 70 = .ok (.istore_n 2, 1) := by decide +kernel
theorem dX6_pass_71 : decode cX6_pass 71 = .ok (.iinc 3 1, 3) := by decide +kernel
theorem dX6_pass_74 : decode cX6_pass 74 = .ok (.goto (-40), 3) := by decide +kernel
theorem dX6_pass_77 : decode cX6_pass 77 = .ok (.aload_n 0, 1) := by decide +kernel
theorem dX6_pass_78 : decode cX6_pass 78 = .ok (.dup, 1) := by decide +kernel
theorem dX6_pass_79 : decode cX6_pass 79 = .ok (.getfield 98, 3) := by decide +kernel
theorem dX6_pass_82 : decode cX6_pass 82 = .ok (.iload_n 1, 1) := by decide +kernel
theorem dX6_pass_83 : decode cX6_pass 83 = .ok (.iadd, 1) := by decide +kernel
theorem dX6_pass_84 : decode cX6_pass 84 = .ok (.putfield 98, 3) := by decide +kernel
theorem dX6_pass_87 : decode cX6_pass 87 = .ok (.iload_n 2, 1) := by decide +kernel
theorem dX6_pass_88 : decode cX6_pass 88 = .ok (.ireturn, 1) := by decide +kernel
theorem dX6_hour_0 : decode cX6_hour 0 = .ok (.aload_n 0, 1) := by decide +kernel
theorem dX6_hour_1 : decode cX6_hour 1 = .ok (.iconst 0, 1) := by decide +kernel
theorem dX6_hour_2 : decode cX6_hour 2 = .ok (.putfield 82, 3) := by decide +kernel
theorem dX6_hour_5 : decode cX6_hour 5 = .ok (.aload_n 0, 1) := by decide +kernel
theorem dX6_hour_6 : decode cX6_hour 6 = .ok (.getfield 98, 3) := by decide +kernel
theorem dX6_hour_9 : decode cX6_hour 9 = .ok (.ireturn, 1) := by decide +kernel
theorem dX6_onDuty_0 : decode cX6_onDuty 0 = .ok (.aload_n 0, 1) := by decide +kernel
theorem dX6_onDuty_1 : decode cX6_onDuty 1 = .ok (.aload_n 0, 1) := by decide +kernel
theorem dX6_onDuty_2 : decode cX6_onDuty 2 = .ok (.getfield 72, 3) := by decide +kernel
theorem dX6_onDuty_5 : decode cX6_onDuty 5 = .ok (.iconst (-1), 1) := by decide +kernel
theorem dX6_onDuty_6 : decode cX6_onDuty 6 = .ok (.if_icmp .ne 7, 3) := by decide +kernel
theorem dX6_onDuty_9 : decode cX6_onDuty 9 = .ok (.iconst 1, 1) := by decide +kernel
theorem dX6_onDuty_10 : decode cX6_onDuty 10 = .ok (.goto 4, 3) := by decide +kernel
theorem dX6_onDuty_13 : decode cX6_onDuty 13 = .ok (.iconst 0, 1) := by decide +kernel
theorem dX6_onDuty_14 : decode cX6_onDuty 14 = .ok (.putfield 82, 3) := by decide +kernel
theorem dX6_onDuty_17 : decode cX6_onDuty 17 = .ok (.aload_n 0, 1) := by decide +kernel
theorem dX6_onDuty_18 : decode cX6_onDuty 18 = .ok (.getfield 72, 3) := by decide +kernel
theorem dX6_onDuty_21 : decode cX6_onDuty 21 = .ok (.ireturn, 1) := by decide +kernel
set_option maxRecDepth 20000 in
theorem ggX6_isTired_X6_tired : GoodIn wsX6_isTired wsX6_tired := goodIn_r _ [6, 7, 8, 9, 10, 11, 12, 13, 14, 15, 16, 17, 18, 19, 20, 21, 22, 23, 24, 25, 26, 27, 28, 29, 30, 31, 32, 33, 34, 35, 36, 37, 38] (by decide +kernel) (by decide +kernel)
set_option maxRecDepth 20000 in
theorem gX6_isTired_X6_tired : GoodIn wsX6_isTired (wsV RX6 137 RX6 yX6_tired wsX6_tired) := goodIn_app (goodIn_of _ (by decide +kernel)) ggX6_isTired_X6_tired
theorem dX6_isTired_0 : decode cX6_isTired 0 = .ok (.aload_n 0, 1) := by decide +kernel
theorem dX6_isTired_1 : decode cX6_isTired 1 = .ok (.iconst 0, 1) := by decide +kernel
theorem dX6_isTired_2 : decode cX6_isTired 2 = .ok (.putfield 82, 3) := by decide +kernel
theorem dX6_isTired_5 : decode cX6_isTired 5 = .ok (.aload_n 0, 1) := by decide +kernel
theorem dX6_isTired_6 : decode cX6_isTired 6 = .ok (.invokevirtual 137, 3) := by decide +kernel
theorem dX6_isTired_9 : decode cX6_isTired 9 = .ok (.ireturn, 1) := by decide +kernel
set_option maxRecDepth 20000 in
theorem ggX6_restLeft_X6_isCrew : GoodIn wsX6_restLeft wsX6_isCrew := goodIn_r _ [5, 6, 7, 8, 4, 9] (by decide +kernel) (by decide +kernel)
set_option maxRecDepth 20000 in
theorem gX6_restLeft_X6_isCrew : GoodIn wsX6_restLeft (va_wsS RX6 163 yX6_isCrew wsX6_isCrew) := goodIn_app (goodIn_of _ (by decide +kernel)) ggX6_restLeft_X6_isCrew
set_option maxRecDepth 20000 in
theorem ggX6_restLeft_X6_restOf : GoodIn wsX6_restLeft wsX6_restOf := goodIn_ca (goodIn_r _ [13, 14, 15, 16, 17, 18, 19, 20, 21, 22, 23, 24, 25, 26, 27, 28, 29, 30, 31, 32, 33, 34, 35, 36, 37, 38, 39, 40, 41, 42, 43, 44, 45] (by decide +kernel) (by decide +kernel)) (goodIn_sub (fun _ h => List.mem_cons_of_mem _ (List.mem_append_right _ h)) (by decide +kernel))
set_option maxRecDepth 20000 in
theorem gX6_restLeft_X6_restOf : GoodIn wsX6_restLeft (wsV RX6 166 RX6 yX6_restOf wsX6_restOf) := goodIn_app (goodIn_of _ (by decide +kernel)) ggX6_restLeft_X6_restOf
theorem dX6_restLeft_0 : decode cX6_restLeft 0 = .ok (.aload_n 0, 1) := by decide +kernel
theorem dX6_restLeft_1 : decode cX6_restLeft 1 = .ok (.iload_n 1, 1) := by decide +kernel
theorem dX6_restLeft_2 : decode cX6_restLeft 2 = .ok (.invokestatic 163, 3) := by decide +kernel
theorem dX6_restLeft_5 : decode cX6_restLeft 5 = .ok (.ifCond .eq 7, 3) := by decide +kernel
theorem dX6_restLeft_8 : decode cX6_restLeft 8 = .ok (.iconst 0, 1) := by decide +kernel
theorem dX6_restLeft_9 : decode cX6_restLeft 9 = .ok (.goto 4, 3) := by decide +kernel
theorem dX6_restLeft_12 : decode cX6_restLeft 12 = .ok (.iconst 1, 1) := by decide +kernel
theorem dX6_restLeft_13 : decode cX6_restLeft 13 = .ok (.putfield 82, 3) := by decide +kernel
theorem dX6_restLeft_16 : decode cX6_restLeft 16 = .ok (.aload_n 0, 1) := by decide +kernel
theorem dX6_restLeft_17 : decode cX6_restLeft 17 = .ok (.getfield 82, 3) := by decide +kernel
theorem dX6_restLeft_20 : decode cX6_restLeft 20 = .ok (.ifCond .ne 11, 3) := by decide +kernel
theorem dX6_restLeft_23 : decode cX6_restLeft 23 = .ok (.aload_n 0, 1) := by decide +kernel
theorem dX6_restLeft_24 : decode cX6_restLeft 24 = .ok (.iload_n 1, 1) := by decide +kernel
theorem dX6_restLeft_25 : decode cX6_restLeft 25 = .ok (.invokevirtual 166, 3) := by decide +kernel
theorem dX6_restLeft_28 : decode cX6_restLeft 28 = .ok (.goto 4, 3) := by decide +kernel
theorem dX6_restLeft_31 : decode cX6_restLeft 31 = .ok (.iconst (-1), 1) := by decide +kernel
theorem dX6_restLeft_32 : decode cX6_restLeft 32 = .ok (.ireturn, 1) := by decide +kernel
set_option maxRecDepth 20000 in
theorem ggX6_openLines_X6_open : GoodIn wsX6_openLines wsX6_open := goodIn_ca (goodIn_r _ [6, 7, 8, 9, 10, 11, 12, 13, 14, 15, 16, 17, 18, 19, 20, 21, 22, 23, 24, 25, 26, 27, 28, 29, 30, 31, 32, 33, 34, 35, 36, 37] (by decide +kernel) (by decide +kernel)) (goodIn_sub (fun _ h => List.mem_cons_of_mem _ (List.mem_append_right _ h)) (by decide +kernel))
set_option maxRecDepth 20000 in
theorem gX6_openLines_X6_open : GoodIn wsX6_openLines (wsV RX6 159 RX6 yX6_open wsX6_open) := goodIn_app (goodIn_of _ (by decide +kernel)) ggX6_openLines_X6_open
theorem dX6_openLines_0 : decode cX6_openLines 0 = .ok (.aload_n 0, 1) := by decide +kernel
theorem dX6_openLines_1 : decode cX6_openLines 1 = .ok (.iconst 0, 1) := by decide +kernel
theorem dX6_openLines_2 : decode cX6_openLines 2 = .ok (.putfield 82, 3) := by decide +kernel
theorem dX6_openLines_5 : decode cX6_openLines 5 = .ok (.aload_n 0, 1) := by decide +kernel
theorem dX6_openLines_6 : decode cX6_openLines 6 = .ok (.invokevirtual 159, 3) := by decide +kernel
theorem dX6_openLines_9 : decode cX6_openLines 9 = .ok (.ireturn, 1) := by decide +kernel
set_option maxRecDepth 20000 in
theorem ggX6_openByLog_X6_openLines : GoodIn wsX6_openByLog wsX6_openLines := goodIn_ca (goodIn_r _ [5, 6, 7, 8, 9, 4, 10, 11, 12, 13, 14, 15, 16, 17, 18, 19, 20, 21, 22, 23, 24, 25, 26, 27, 28, 29, 30, 31, 32, 33, 34, 35, 36, 37, 38, 39, 40, 41] (by decide +kernel) (by decide +kernel)) (goodIn_sub (fun _ h => List.mem_cons_of_mem _ (List.mem_append_right _ h)) (by decide +kernel))
set_option maxRecDepth 20000 in
theorem gX6_openByLog_X6_openLines : GoodIn wsX6_openByLog (wsV RX6 174 RX6 yX6_openLines wsX6_openLines) := goodIn_app (goodIn_of _ (by decide +kernel)) ggX6_openByLog_X6_openLines
theorem dX6_openByLog_0 : decode cX6_openByLog 0 = .ok (.aload_n 0, 1) := by decide +kernel
theorem dX6_openByLog_1 : decode cX6_openByLog 1 = .ok (.invokevirtual 174, 3) := by decide +kernel
theorem dX6_openByLog_4 : decode cX6_openByLog 4 = .ok (.ireturn, 1) := by decide +kernel
theorem dX6_openAt_0 : decode cX6_openAt 0 = .ok (.iconst 0, 1) := by decide +kernel
theorem dX6_openAt_1 : decode cX6_openAt 1 = .ok (.istore_n 2, 1) := by decide +kernel
theorem dX6_openAt_2 : decode cX6_openAt 2 = .ok (.iconst 0, 1) := by decide +kernel
theorem dX6_openAt_3 : decode cX6_openAt 3 = .ok (.istore_n 3, 1) := by decide +kernel
theorem dX6_openAt_4 : decode cX6_openAt 4 = .ok (.iload_n 3, 1) := by decide +kernel
theorem dX6_openAt_5 : decode cX6_openAt 5 = .ok (.aload_n 0, 1) := by decide +kernel
theorem dX6_openAt_6 : decode cX6_openAt 6 = .ok (.getfield 95, 3) := by decide +kernel
theorem dX6_openAt_9 : decode cX6_openAt 9 = .ok (.if_icmp .ge 47, 3) := by decide +kernel
theorem dX6_openAt_12 : decode cX6_openAt 12 = .ok (.aload_n 0, 1) := by decide +kernel
theorem dX6_openAt_13 : decode cX6_openAt 13 = .ok (.getfield 17, 3) := by decide +kernel
theorem dX6_openAt_16 : decode cX6_openAt 16 = .ok (.iload_n 3, 1) := by decide +kernel
theorem dX6_openAt_17 : decode cX6_openAt 17 = .ok (.baload, 1) := by decide +kernel
theorem dX6_openAt_18 : decode cX6_openAt 18 = .ok (.ifCond .eq 15, 3) := by decide +kernel
theorem dX6_openAt_21 : decode cX6_openAt 21 = .ok (.iload_n 2, 1) := by decide +kernel
theorem dX6_openAt_22 : decode cX6_openAt 22 = .ok (.iload_n 1, 1) := by decide +kernel
theorem dX6_openAt_23 : decode cX6_openAt 23 = .ok (.if_icmp .ne 10, 3) := by decide +kernel
theorem dX6_openAt_26 : decode cX6_openAt 26 = .ok (.aload_n 0, 1) := by decide +kernel
theorem dX6_openAt_27 : decode cX6_openAt 27 = .ok (.iconst 0, 1) := by decide +kernel
theorem dX6_openAt_28 : decode cX6_openAt 28 = .ok (.putfield 82, 3) := by decide +kernel
theorem dX6_openAt_31 : decode cX6_openAt 31 = .ok (.iload_n 3, 1) := by decide +kernel
theorem dX6_openAt_32 : decode cX6_openAt 32 = .ok (.ireturn, 1) := by decide +kernel
theorem dX6_openAt_33 : decode cX6_openAt 33 = .ok (.iload_n 2, 1) := by decide +kernel
theorem dX6_openAt_34 : decode cX6_openAt 34 = .ok (.aload_n 0, 1) := by decide +kernel
theorem dX6_openAt_35 : decode cX6_openAt 35 = .ok (.getfield 17, 3) := by decide +kernel
theorem dX6_openAt_38 : decode cX6_openAt 38 = .ok (.iload_n 3, 1) := by decide +kernel
theorem dX6_openAt_39 : decode cX6_openAt 39 = .ok (.baload, 1) := by decide +kernel
theorem dX6_openAt_40 : decode cX6_openAt 40 = .ok (.ifCond .eq 7, 3) := by decide +kernel
theorem dX6_openAt_43 : decode cX6_openAt 43 = .ok (.iconst 1, 1) := by decide +kernel
theorem dX6_openAt_44 : decode cX6_openAt 44 = .ok (.goto 4, 3) := by decide +kernel
theorem dX6_openAt_47 : decode cX6_openAt 47 = .ok (.iconst 0, 1) := by decide +kernel
theorem dX6_openAt_48 : decode cX6_openAt 48 = .ok (.iadd, 1) := by decide +kernel
theorem dX6_openAt_49 : decode cX6_openAt 49 = .ok (.istore_n 2, 1) := by decide +kernel
theorem dX6_openAt_50 : decode cX6_openAt 50 = .ok (.iinc 3 1, 3) := by decide +kernel
theorem dX6_openAt_53 : decode cX6_openAt 53 = .ok (.goto (-49), 3) := by decide +kernel
theorem dX6_openAt_56 : decode cX6_openAt 56 = .ok (.aload_n 0, 1) := by decide +kernel
theorem dX6_openAt_57 : decode cX6_openAt 57 = .ok (.iconst 1, 1) := by decide +kernel
theorem dX6_openAt_58 : decode cX6_openAt 58 = .ok (.putfield 82, 3) := by decide +kernel
theorem dX6_openAt_61 : decode cX6_openAt 61 = .ok (.iconst (-1), 1) := by decide +kernel
theorem dX6_openAt_62 : decode cX6_openAt 62 = .ok (.ireturn, 1) := by decide +kernel
set_option maxRecDepth 20000 in
theorem ggX6_kindOf_X6_isLine : GoodIn wsX6_kindOf wsX6_isLine := goodIn_r _ [7, 8, 9, 10, 6, 11, 12, 13, 14, 15, 16, 17, 18, 19, 20, 21, 22, 23, 24, 25, 26, 27, 28, 29, 30, 31, 32, 33, 34, 35, 36, 37, 38, 39, 40] (by decide +kernel) (by decide +kernel)
set_option maxRecDepth 20000 in
theorem gX6_kindOf_X6_isLine : GoodIn wsX6_kindOf (wsV RX6 156 RX6 yX6_isLine wsX6_isLine) := goodIn_app (goodIn_of _ (by decide +kernel)) ggX6_kindOf_X6_isLine
theorem dX6_kindOf_0 : decode cX6_kindOf 0 = .ok (.aload_n 0, 1) := by decide +kernel
theorem dX6_kindOf_1 : decode cX6_kindOf 1 = .ok (.aload_n 0, 1) := by decide +kernel
theorem dX6_kindOf_2 : decode cX6_kindOf 2 = .ok (.iload_n 1, 1) := by decide +kernel
theorem dX6_kindOf_3 : decode cX6_kindOf 3 = .ok (.invokevirtual 156, 3) := by decide +kernel
theorem dX6_kindOf_6 : decode cX6_kindOf 6 = .ok (.ifCond .eq 7, 3) := by decide +kernel
theorem dX6_kindOf_9 : decode cX6_kindOf 9 = .ok (.iconst 0, 1) := by decide +kernel
theorem dX6_kindOf_10 : decode cX6_kindOf 10 = .ok (.goto 4, 3) := by decide +kernel
theorem dX6_kindOf_13 : decode cX6_kindOf 13 = .ok (.iconst 1, 1) := by decide +kernel
theorem dX6_kindOf_14 : decode cX6_kindOf 14 = .ok (.putfield 82, 3) := by decide +kernel
theorem dX6_kindOf_17 : decode cX6_kindOf 17 = .ok (.aload_n 0, 1) := by decide +kernel
theorem dX6_kindOf_18 : decode cX6_kindOf 18 = .ok (.getfield 82, 3) := by decide +kernel
theorem dX6_kindOf_21 : decode cX6_kindOf 21 = .ok (.ifCond .ne 12, 3) := by decide +kernel
theorem dX6_kindOf_24 : decode cX6_kindOf 24 = .ok (.aload_n 0, 1) := by decide +kernel
theorem dX6_kindOf_25 : decode cX6_kindOf 25 = .ok (.getfield 13, 3) := by decide +kernel
theorem dX6_kindOf_28 : decode cX6_kindOf 28 = .ok (.iload_n 1, 1) := by decide +kernel
theorem dX6_kindOf_29 : decode cX6_kindOf 29 = .ok (.caload, 1) := by decide +kernel
theorem dX6_kindOf_30 : decode cX6_kindOf 30 = .ok (.goto 5, 3) := by decide +kernel
theorem dX6_kindOf_33 : decode cX6_kindOf 33 = .ok (.bipush 32, 2) := by decide +kernel
theorem dX6_kindOf_35 : decode cX6_kindOf 35 = .ok (.ireturn, 1) := by decide +kernel
set_option maxRecDepth 20000 in
theorem ggX6_passed_X6_isLine : GoodIn wsX6_passed wsX6_isLine := goodIn_r _ [7, 8, 9, 10, 6, 11, 12, 13, 14, 15, 16, 17, 18, 19, 20, 21, 22, 23, 24, 25, 26, 27, 28, 29, 30, 31, 32, 33, 34, 35, 36, 37, 38, 39, 40] (by decide +kernel) (by decide +kernel)
set_option maxRecDepth 20000 in
theorem gX6_passed_X6_isLine : GoodIn wsX6_passed (wsV RX6 156 RX6 yX6_isLine wsX6_isLine) := goodIn_app (goodIn_of _ (by decide +kernel)) ggX6_passed_X6_isLine
theorem dX6_passed_0 : decode cX6_passed 0 = .ok (.aload_n 0, 1) := by decide +kernel
theorem dX6_passed_1 : decode cX6_passed 1 = .ok (.aload_n 0, 1) := by decide +kernel
theorem dX6_passed_2 : decode cX6_passed 2 = .ok (.iload_n 1, 1) := by decide +kernel
theorem dX6_passed_3 : decode cX6_passed 3 = .ok (.invokevirtual 156, 3) := by decide +kernel
theorem dX6_passed_6 : decode cX6_passed 6 = .ok (.ifCond .eq 7, 3) := by decide +kernel
theorem dX6_passed_9 : decode cX6_passed 9 = .ok (.iconst 0, 1) := by decide +kernel
theorem dX6_passed_10 : decode cX6_passed 10 = .ok (.goto 4, 3) := by decide +kernel
theorem dX6_passed_13 : decode cX6_passed 13 = .ok (.iconst 1, 1) := by decide +kernel
theorem dX6_passed_14 : decode cX6_passed 14 = .ok (.putfield 82, 3) := by decide +kernel
theorem dX6_passed_17 : decode cX6_passed 17 = .ok (.aload_n 0, 1) := by decide +kernel
theorem dX6_passed_18 : decode cX6_passed 18 = .ok (.getfield 82, 3) := by decide +kernel
theorem dX6_passed_21 : decode cX6_passed 21 = .ok (.ifCond .ne 12, 3) := by decide +kernel
theorem dX6_passed_24 : decode cX6_passed 24 = .ok (.aload_n 0, 1) := by decide +kernel
theorem dX6_passed_25 : decode cX6_passed 25 = .ok (.getfield 24, 3) := by decide +kernel
theorem dX6_passed_28 : decode cX6_passed 28 = .ok (.iload_n 1, 1) := by decide +kernel
theorem dX6_passed_29 : decode cX6_passed 29 = .ok (.iaload, 1) := by decide +kernel
theorem dX6_passed_30 : decode cX6_passed 30 = .ok (.goto 4, 3) := by decide +kernel
theorem dX6_passed_33 : decode cX6_passed 33 = .ok (.iconst (-1), 1) := by decide +kernel
theorem dX6_passed_34 : decode cX6_passed 34 = .ok (.ireturn, 1) := by decide +kernel
set_option maxRecDepth 20000 in
theorem ggX6_closedShare_X6_open : GoodIn wsX6_closedShare wsX6_open := goodIn_ca (goodIn_r _ [7, 1, 8, 9, 10, 11, 12, 13, 14, 15, 16, 17, 18, 19, 20, 21, 22, 23, 24, 25, 26, 27, 28, 29, 30, 31, 32, 33, 34, 35, 36, 37] (by decide +kernel) (by decide +kernel)) (goodIn_sub (fun _ h => List.mem_cons_of_mem _ (List.mem_append_right _ h)) (by decide +kernel))
set_option maxRecDepth 20000 in
theorem gX6_closedShare_X6_open : GoodIn wsX6_closedShare (wsV RX6 159 RX6 yX6_open wsX6_open) := goodIn_app (goodIn_of _ (by decide +kernel)) ggX6_closedShare_X6_open
theorem dX6_closedShare_0 : decode cX6_closedShare 0 = .ok (.aload_n 0, 1) := by decide +kernel
theorem dX6_closedShare_1 : decode cX6_closedShare 1 = .ok (.aload_n 0, 1) := by decide +kernel
theorem dX6_closedShare_2 : decode cX6_closedShare 2 = .ok (.getfield 95, 3) := by decide +kernel
theorem dX6_closedShare_5 : decode cX6_closedShare 5 = .ok (.ifCond .ne 7, 3) := by decide +kernel
theorem dX6_closedShare_8 : decode cX6_closedShare 8 = .ok (.iconst 1, 1) := by decide +kernel
theorem dX6_closedShare_9 : decode cX6_closedShare 9 = .ok (.goto 4, 3) := by decide +kernel
theorem dX6_closedShare_12 : decode cX6_closedShare 12 = .ok (.iconst 0, 1) := by decide +kernel
theorem dX6_closedShare_13 : decode cX6_closedShare 13 = .ok (.putfield 82, 3) := by decide +kernel
theorem dX6_closedShare_16 : decode cX6_closedShare 16 = .ok (.aload_n 0, 1) := by decide +kernel
theorem dX6_closedShare_17 : decode cX6_closedShare 17 = .ok (.getfield 82, 3) := by decide +kernel
theorem dX6_closedShare_20 : decode cX6_closedShare 20 = .ok (.ifCond .ne 22, 3) := by decide +kernel
theorem dX6_closedShare_23 : decode cX6_closedShare 23 = .ok (.aload_n 0, 1) := by decide +kernel
theorem dX6_closedShare_24 : decode cX6_closedShare 24 = .ok (.getfield 95, 3) := by decide +kernel
theorem dX6_closedShare_27 : decode cX6_closedShare 27 = .ok (.aload_n 0, 1) := by decide +kernel
theorem dX6_closedShare_28 : decode cX6_closedShare 28 = .ok (.invokevirtual 159, 3) := by decide +kernel
theorem dX6_closedShare_31 : decode cX6_closedShare 31 = .ok (.isub, 1) := by decide +kernel
theorem dX6_closedShare_32 : decode cX6_closedShare 32 = .ok (.i2f, 1) := by decide +kernel
theorem dX6_closedShare_33 : decode cX6_closedShare 33 = .ok (.aload_n 0, 1) := by decide +kernel
theorem dX6_closedShare_34 : decode cX6_closedShare 34 = .ok (.getfield 95, 3) := by decide +kernel
theorem dX6_closedShare_37 : decode cX6_closedShare 37 = .ok (.i2f, 1) := by decide +kernel
theorem dX6_closedShare_38 : decode cX6_closedShare 38 = .ok (.fdiv, 1) := by decide +kernel
theorem dX6_closedShare_39 : decode cX6_closedShare 39 = .ok (.goto 4, 3) := by decide +kernel
theorem dX6_closedShare_42 : decode cX6_closedShare 42 = .ok (.fconst 0, 1) := by decide +kernel
theorem dX6_closedShare_43 : decode cX6_closedShare 43 = .ok (.freturn, 1) := by decide +kernel
set_option maxRecDepth 20000 in
theorem ggX6_meanAge_X6_open : GoodIn wsX6_meanAge wsX6_open := goodIn_ca (goodIn_r _ [10, 1, 2, 11, 12, 13, 14, 15, 16, 17, 18, 19, 20, 21, 22, 23, 24, 25, 26, 27, 28, 29, 30, 31, 32, 33, 34, 35, 36, 37, 38, 39] (by decide +kernel) (by decide +kernel)) (goodIn_sub (fun _ h => List.mem_cons_of_mem _ (List.mem_append_right _ h)) (by decide +kernel))
set_option maxRecDepth 20000 in
theorem gX6_meanAge_X6_open : GoodIn wsX6_meanAge (wsV RX6 159 RX6 yX6_open wsX6_open) := goodIn_app (goodIn_of _ (by decide +kernel)) ggX6_meanAge_X6_open
theorem dX6_meanAge_0 : decode cX6_meanAge 0 = .ok (.iconst 0, 1) := by decide +kernel
theorem dX6_meanAge_1 : decode cX6_meanAge 1 = .ok (.istore_n 1, 1) := by decide +kernel
theorem dX6_meanAge_2 : decode cX6_meanAge 2 = .ok (.iconst 0, 1) := by decide +kernel
theorem dX6_meanAge_3 : decode cX6_meanAge 3 = .ok (.istore_n 2, 1) := by decide +kernel
theorem dX6_meanAge_4 : decode cX6_meanAge 4 = .ok (.iload_n 2, 1) := by decide +kernel
theorem dX6_meanAge_5 : decode cX6_meanAge 5 = .ok (.aload_n 0, 1) := by decide +kernel
theorem dX6_meanAge_6 : decode cX6_meanAge 6 = .ok (.getfield 95, 3) := by decide +kernel
theorem dX6_meanAge_9 : decode cX6_meanAge 9 = .ok (.if_icmp .ge 36, 3) := by decide +kernel
theorem dX6_meanAge_12 : decode cX6_meanAge 12 = .ok (.iload_n 1, 1) := by decide +kernel
theorem dX6_meanAge_13 : decode cX6_meanAge 13 = .ok (.aload_n 0, 1) := by decide +kernel
theorem dX6_meanAge_14 : decode cX6_meanAge 14 = .ok (.getfield 17, 3) := by decide +kernel
theorem dX6_meanAge_17 : decode cX6_meanAge 17 = .ok (.iload_n 2, 1) := by decide +kernel
theorem dX6_meanAge_18 : decode cX6_meanAge 18 = .ok (.baload, 1) := by decide +kernel
theorem dX6_meanAge_19 : decode cX6_meanAge 19 = .ok (.ifCond .eq 17, 3) := by decide +kernel
theorem dX6_meanAge_22 : decode cX6_meanAge 22 = .ok (.aload_n 0, 1) := by decide +kernel
theorem dX6_meanAge_23 : decode cX6_meanAge 23 = .ok (.getfield 98, 3) := by decide +kernel
theorem dX6_meanAge_26 : decode cX6_meanAge 26 = .ok (.aload_n 0, 1) := by decide +kernel
theorem dX6_meanAge_27 : decode cX6_meanAge 27 = .ok (.getfield 21, 3) := by decide +kernel
theorem dX6_meanAge_30 : decode cX6_meanAge 30 = .ok (.iload_n 2, 1) := by decide +kernel
theorem dX6_meanAge_31 : decode cX6_meanAge 31 = .ok (.iaload, 1) := by decide +kernel
theorem dX6_meanAge_32 : decode cX6_meanAge 32 = .ok (.isub, 1) := by decide +kernel
theorem dX6_meanAge_33 : decode cX6_meanAge 33 = .ok (.goto 4, 3) := by decide +kernel
theorem dX6_meanAge_36 : decode cX6_meanAge 36 = .ok (.iconst 0, 1) := by decide +kernel
theorem dX6_meanAge_37 : decode cX6_meanAge 37 = .ok (.iadd, 1) := by decide +kernel
theorem dX6_meanAge_38 : decode cX6_meanAge 38 = .ok (.istore_n 1, 1) := by decide +kernel
theorem dX6_meanAge_39 : decode cX6_meanAge 39 = .ok (.iinc 2 1, 3) := by decide +kernel
theorem dX6_meanAge_42 : decode cX6_meanAge 42 = .ok (.goto (-38), 3) := by decide +kernel
theorem dX6_meanAge_45 : decode cX6_meanAge 45 = .ok (.aload_n 0, 1) := by decide +kernel
theorem dX6_meanAge_46 : decode cX6_meanAge 46 = .ok (.aload_n 0, 1) := by decide +kernel
theorem dX6_meanAge_47 : decode cX6_meanAge 47 = .ok (.invokevirtual 159, 3) := by decide +kernel
theorem dX6_meanAge_50 : decode cX6_meanAge 50 = .ok (.ifCond .ne 7, 3) := by decide +kernel
theorem dX6_meanAge_53 : decode cX6_meanAge 53 = .ok (.iconst 1, 1) := by decide +kernel
theorem dX6_meanAge_54 : decode cX6_meanAge 54 = .ok (.goto 4, 3) := by decide +kernel
theorem dX6_meanAge_57 : decode cX6_meanAge 57 = .ok (.iconst 0, 1) := by decide +kernel
theorem dX6_meanAge_58 : decode cX6_meanAge 58 = .ok (.putfield 82, 3) := by decide +kernel
theorem dX6_meanAge_61 : decode cX6_meanAge 61 = .ok (.aload_n 0, 1) := by decide +kernel
theorem dX6_meanAge_62 : decode cX6_meanAge 62 = .ok (.getfield 82, 3) := by decide +kernel
theorem dX6_meanAge_65 : decode cX6_meanAge 65 = .ok (.ifCond .ne 14, 3) := by decide +kernel
theorem dX6_meanAge_68 : decode cX6_meanAge 68 = .ok (.iload_n 1, 1) := by decide +kernel
theorem dX6_meanAge_69 : decode cX6_meanAge 69 = .ok (.i2d, 1) := by decide +kernel
theorem dX6_meanAge_70 : decode cX6_meanAge 70 = .ok (.aload_n 0, 1) := by decide +kernel
theorem dX6_meanAge_71 : decode cX6_meanAge 71 = .ok (.invokevirtual 159, 3) := by decide +kernel
theorem dX6_meanAge_74 : decode cX6_meanAge 74 = .ok (.i2d, 1) := by decide +kernel
theorem dX6_meanAge_75 : decode cX6_meanAge 75 = .ok (.ddiv, 1) := by decide +kernel
theorem dX6_meanAge_76 : decode cX6_meanAge 76 = .ok (.goto 4, 3) := by decide +kernel
theorem dX6_meanAge_79 : decode cX6_meanAge 79 = .ok (.dconst 0, 1) := by decide +kernel
theorem dX6_meanAge_80 : decode cX6_meanAge 80 = .ok (.dreturn, 1) := by decide +kernel
theorem dX6_isSound_0 : decode cX6_isSound 0 = .ok (.aload_n 0, 1) := by decide +kernel
theorem dX6_isSound_1 : decode cX6_isSound 1 = .ok (.iconst 0, 1) := by decide +kernel
theorem dX6_isSound_2 : decode cX6_isSound 2 = .ok (.putfield 82, 3) := by decide +kernel
theorem dX6_isSound_5 : decode cX6_isSound 5 = .ok (.iconst 1, 1) := by decide +kernel
theorem dX6_isSound_6 : decode cX6_isSound 6 = .ok (.ireturn, 1) := by decide +kernel
