abbrev b_M_init : ByteArray := prog_10_method_1_code
def y_M_init : MethodName := ⟨"StationRowsModel", "<init>", "()V"⟩
theorem d_M_init_0 : decode b_M_init 0 = .ok (.aload_n 0, 1) := by decide +kernel
theorem d_M_init_1 : decode b_M_init 1 = .ok (.invokespecial 1, 3) := by decide +kernel
theorem d_M_init_4 : decode b_M_init 4 = .ok (.aload_n 0, 1) := by decide +kernel
theorem d_M_init_5 : decode b_M_init 5 = .ok (.bipush 12, 2) := by decide +kernel
theorem d_M_init_7 : decode b_M_init 7 = .ok (.newarray .int, 2) := by decide +kernel
theorem d_M_init_9 : decode b_M_init 9 = .ok (.putfield 7, 3) := by decide +kernel
theorem d_M_init_12 : decode b_M_init 12 = .ok (.aload_n 0, 1) := by decide +kernel
theorem d_M_init_13 : decode b_M_init 13 = .ok (.bipush 12, 2) := by decide +kernel
theorem d_M_init_15 : decode b_M_init 15 = .ok (.newarray .int, 2) := by decide +kernel
theorem d_M_init_17 : decode b_M_init 17 = .ok (.putfield 13, 3) := by decide +kernel
theorem d_M_init_20 : decode b_M_init 20 = .ok (.aload_n 0, 1) := by decide +kernel
theorem d_M_init_21 : decode b_M_init 21 = .ok (.bipush 12, 2) := by decide +kernel
theorem d_M_init_23 : decode b_M_init 23 = .ok (.newarray .int, 2) := by decide +kernel
theorem d_M_init_25 : decode b_M_init 25 = .ok (.putfield 16, 3) := by decide +kernel
theorem d_M_init_28 : decode b_M_init 28 = .ok (.aload_n 0, 1) := by decide +kernel
theorem d_M_init_29 : decode b_M_init 29 = .ok (.bipush 30, 2) := by decide +kernel
theorem d_M_init_31 : decode b_M_init 31 = .ok (.newarray .int, 2) := by decide +kernel
theorem d_M_init_33 : decode b_M_init 33 = .ok (.putfield 19, 3) := by decide +kernel
theorem d_M_init_36 : decode b_M_init 36 = .ok (.aload_n 0, 1) := by decide +kernel
theorem d_M_init_37 : decode b_M_init 37 = .ok (.bipush 30, 2) := by decide +kernel
theorem d_M_init_39 : decode b_M_init 39 = .ok (.newarray .int, 2) := by decide +kernel
theorem d_M_init_41 : decode b_M_init 41 = .ok (.putfield 22, 3) := by decide +kernel
theorem d_M_init_44 : decode b_M_init 44 = .ok (.aload_n 0, 1) := by decide +kernel
theorem d_M_init_45 : decode b_M_init 45 = .ok (.bipush 30, 2) := by decide +kernel
theorem d_M_init_47 : decode b_M_init 47 = .ok (.newarray .int, 2) := by decide +kernel
theorem d_M_init_49 : decode b_M_init 49 = .ok (.putfield 25, 3) := by decide +kernel
theorem d_M_init_52 : decode b_M_init 52 = .ok (.aload_n 0, 1) := by decide +kernel
theorem d_M_init_53 : decode b_M_init 53 = .ok (.bipush 30, 2) := by decide +kernel
theorem d_M_init_55 : decode b_M_init 55 = .ok (.newarray .int, 2) := by decide +kernel
theorem d_M_init_57 : decode b_M_init 57 = .ok (.putfield 28, 3) := by decide +kernel
theorem d_M_init_60 : decode b_M_init 60 = .ok (.aload_n 0, 1) := by decide +kernel
theorem d_M_init_61 : decode b_M_init 61 = .ok (.bipush 120, 2) := by decide +kernel
theorem d_M_init_63 : decode b_M_init 63 = .ok (.newarray .int, 2) := by decide +kernel
theorem d_M_init_65 : decode b_M_init 65 = .ok (.putfield 31, 3) := by decide +kernel
theorem d_M_init_68 : decode b_M_init 68 = .ok (.aload_n 0, 1) := by decide +kernel
theorem d_M_init_69 : decode b_M_init 69 = .ok (.bipush 120, 2) := by decide +kernel
theorem d_M_init_71 : decode b_M_init 71 = .ok (.newarray .int, 2) := by decide +kernel
theorem d_M_init_73 : decode b_M_init 73 = .ok (.putfield 34, 3) := by decide +kernel
theorem d_M_init_76 : decode b_M_init 76 = .ok (.aload_n 0, 1) := by decide +kernel
theorem d_M_init_77 : decode b_M_init 77 = .ok (.bipush 60, 2) := by decide +kernel
theorem d_M_init_79 : decode b_M_init 79 = .ok (.newarray .int, 2) := by decide +kernel
theorem d_M_init_81 : decode b_M_init 81 = .ok (.putfield 37, 3) := by decide +kernel
theorem d_M_init_84 : decode b_M_init 84 = .ok (.aload_n 0, 1) := by decide +kernel
theorem d_M_init_85 : decode b_M_init 85 = .ok (.bipush 60, 2) := by decide +kernel
theorem d_M_init_87 : decode b_M_init 87 = .ok (.newarray .int, 2) := by decide +kernel
theorem d_M_init_89 : decode b_M_init 89 = .ok (.putfield 40, 3) := by decide +kernel
theorem d_M_init_92 : decode b_M_init 92 = .ok (.aload_n 0, 1) := by decide +kernel
theorem d_M_init_93 : decode b_M_init 93 = .ok (.bipush 60, 2) := by decide +kernel
theorem d_M_init_95 : decode b_M_init 95 = .ok (.newarray .int, 2) := by decide +kernel
theorem d_M_init_97 : decode b_M_init 97 = .ok (.putfield 43, 3) := by decide +kernel
theorem d_M_init_100 : decode b_M_init 100 = .ok (.aload_n 0, 1) := by decide +kernel
theorem d_M_init_101 : decode b_M_init 101 = .ok (.sipush 360, 3) := by decide +kernel
theorem d_M_init_104 : decode b_M_init 104 = .ok (.newarray .int, 2) := by decide +kernel
theorem d_M_init_106 : decode b_M_init 106 = .ok (.putfield 46, 3) := by decide +kernel
theorem d_M_init_109 : decode b_M_init 109 = .ok (.aload_n 0, 1) := by decide +kernel
theorem d_M_init_110 : decode b_M_init 110 = .ok (.sipush 360, 3) := by decide +kernel
theorem d_M_init_113 : decode b_M_init 113 = .ok (.newarray .int, 2) := by decide +kernel
theorem d_M_init_115 : decode b_M_init 115 = .ok (.putfield 49, 3) := by decide +kernel
theorem d_M_init_118 : decode b_M_init 118 = .ok (.aload_n 0, 1) := by decide +kernel
theorem d_M_init_119 : decode b_M_init 119 = .ok (.bipush 60, 2) := by decide +kernel
theorem d_M_init_121 : decode b_M_init 121 = .ok (.newarray .int, 2) := by decide +kernel
theorem d_M_init_123 : decode b_M_init 123 = .ok (.putfield 52, 3) := by decide +kernel
theorem d_M_init_126 : decode b_M_init 126 = .ok (.aload_n 0, 1) := by decide +kernel
theorem d_M_init_127 : decode b_M_init 127 = .ok (.sipush 180, 3) := by decide +kernel
theorem d_M_init_130 : decode b_M_init 130 = .ok (.newarray .int, 2) := by decide +kernel
theorem d_M_init_132 : decode b_M_init 132 = .ok (.putfield 55, 3) := by decide +kernel
theorem d_M_init_135 : decode b_M_init 135 = .ok (.aload_n 0, 1) := by decide +kernel
theorem d_M_init_136 : decode b_M_init 136 = .ok (.sipush 180, 3) := by decide +kernel
theorem d_M_init_139 : decode b_M_init 139 = .ok (.newarray .int, 2) := by decide +kernel
theorem d_M_init_141 : decode b_M_init 141 = .ok (.putfield 58, 3) := by decide +kernel
theorem d_M_init_144 : decode b_M_init 144 = .ok (.aload_n 0, 1) := by decide +kernel
theorem d_M_init_145 : decode b_M_init 145 = .ok (.sipush 180, 3) := by decide +kernel
theorem d_M_init_148 : decode b_M_init 148 = .ok (.newarray .int, 2) := by decide +kernel
theorem d_M_init_150 : decode b_M_init 150 = .ok (.putfield 61, 3) := by decide +kernel
theorem d_M_init_153 : decode b_M_init 153 = .ok (.aload_n 0, 1) := by decide +kernel
theorem d_M_init_154 : decode b_M_init 154 = .ok (.bipush 120, 2) := by decide +kernel
theorem d_M_init_156 : decode b_M_init 156 = .ok (.putfield 64, 3) := by decide +kernel
theorem d_M_init_159 : decode b_M_init 159 = .ok (.aload_n 0, 1) := by decide +kernel
theorem d_M_init_160 : decode b_M_init 160 = .ok (.sipush 288, 3) := by decide +kernel
theorem d_M_init_163 : decode b_M_init 163 = .ok (.newarray .int, 2) := by decide +kernel
theorem d_M_init_165 : decode b_M_init 165 = .ok (.putfield 68, 3) := by decide +kernel
theorem d_M_init_168 : decode b_M_init 168 = .ok (.aload_n 0, 1) := by decide +kernel
theorem d_M_init_169 : decode b_M_init 169 = .ok (.bipush 60, 2) := by decide +kernel
theorem d_M_init_171 : decode b_M_init 171 = .ok (.newarray .int, 2) := by decide +kernel
theorem d_M_init_173 : decode b_M_init 173 = .ok (.putfield 71, 3) := by decide +kernel
theorem d_M_init_176 : decode b_M_init 176 = .ok (.aload_n 0, 1) := by decide +kernel
theorem d_M_init_177 : decode b_M_init 177 = .ok (.sipush 200, 3) := by decide +kernel
theorem d_M_init_180 : decode b_M_init 180 = .ok (.newarray .int, 2) := by decide +kernel
theorem d_M_init_182 : decode b_M_init 182 = .ok (.putfield 74, 3) := by decide +kernel
theorem d_M_init_185 : decode b_M_init 185 = .ok (.aload_n 0, 1) := by decide +kernel
theorem d_M_init_186 : decode b_M_init 186 = .ok (.sipush 200, 3) := by decide +kernel
theorem d_M_init_189 : decode b_M_init 189 = .ok (.newarray .int, 2) := by decide +kernel
theorem d_M_init_191 : decode b_M_init 191 = .ok (.putfield 77, 3) := by decide +kernel
theorem d_M_init_194 : decode b_M_init 194 = .ok (.aload_n 0, 1) := by decide +kernel
theorem d_M_init_195 : decode b_M_init 195 = .ok (.sipush 1200, 3) := by decide +kernel
theorem d_M_init_198 : decode b_M_init 198 = .ok (.newarray .boolean, 2) := by decide +kernel
theorem d_M_init_200 : decode b_M_init 200 = .ok (.putfield 80, 3) := by decide +kernel
theorem d_M_init_203 : decode b_M_init 203 = .ok (.aload_n 0, 1) := by decide +kernel
theorem d_M_init_204 : decode b_M_init 204 = .ok (.bipush 30, 2) := by decide +kernel
theorem d_M_init_206 : decode b_M_init 206 = .ok (.newarray .int, 2) := by decide +kernel
theorem d_M_init_208 : decode b_M_init 208 = .ok (.putfield 84, 3) := by decide +kernel
theorem d_M_init_211 : decode b_M_init 211 = .ok (.aload_n 0, 1) := by decide +kernel
theorem d_M_init_212 : decode b_M_init 212 = .ok (.bipush 30, 2) := by decide +kernel
theorem d_M_init_214 : decode b_M_init 214 = .ok (.newarray .int, 2) := by decide +kernel
theorem d_M_init_216 : decode b_M_init 216 = .ok (.putfield 87, 3) := by decide +kernel
theorem d_M_init_219 : decode b_M_init 219 = .ok (.aload_n 0, 1) := by decide +kernel
theorem d_M_init_220 : decode b_M_init 220 = .ok (.bipush 60, 2) := by decide +kernel
theorem d_M_init_222 : decode b_M_init 222 = .ok (.newarray .boolean, 2) := by decide +kernel
theorem d_M_init_224 : decode b_M_init 224 = .ok (.putfield 90, 3) := by decide +kernel
theorem d_M_init_227 : decode b_M_init 227 = .ok (.aload_n 0, 1) := by decide +kernel
theorem d_M_init_228 : decode b_M_init 228 = .ok (.bipush 30, 2) := by decide +kernel
theorem d_M_init_230 : decode b_M_init 230 = .ok (.newarray .int, 2) := by decide +kernel
theorem d_M_init_232 : decode b_M_init 232 = .ok (.putfield 93, 3) := by decide +kernel
theorem d_M_init_235 : decode b_M_init 235 = .ok (.aload_n 0, 1) := by decide +kernel
theorem d_M_init_236 : decode b_M_init 236 = .ok (.bipush 30, 2) := by decide +kernel
theorem d_M_init_238 : decode b_M_init 238 = .ok (.newarray .int, 2) := by decide +kernel
theorem d_M_init_240 : decode b_M_init 240 = .ok (.putfield 96, 3) := by decide +kernel
theorem d_M_init_243 : decode b_M_init 243 = .ok (.aload_n 0, 1) := by decide +kernel
theorem d_M_init_244 : decode b_M_init 244 = .ok (.bipush 30, 2) := by decide +kernel
theorem d_M_init_246 : decode b_M_init 246 = .ok (.newarray .int, 2) := by decide +kernel
theorem d_M_init_248 : decode b_M_init 248 = .ok (.putfield 99, 3) := by decide +kernel
theorem d_M_init_251 : decode b_M_init 251 = .ok (.return_, 1) := by decide +kernel
abbrev b_M_thrown : ByteArray := prog_10_method_2_code
def y_M_thrown : MethodName := ⟨"StationRowsModel", "thrown", "()I"⟩
theorem d_M_thrown_0 : decode b_M_thrown 0 = .ok (.aload_n 0, 1) := by decide +kernel
theorem d_M_thrown_1 : decode b_M_thrown 1 = .ok (.getfield 102, 3) := by decide +kernel
theorem d_M_thrown_4 : decode b_M_thrown 4 = .ok (.ireturn, 1) := by decide +kernel
abbrev b_M_in : ByteArray := prog_10_method_3_code
def y_M_in : MethodName := ⟨"StationRowsModel", "in", "(III)Z"⟩
theorem d_M_in_0 : decode b_M_in 0 = .ok (.iload_n 0, 1) := by decide +kernel
theorem d_M_in_1 : decode b_M_in 1 = .ok (.iload_n 1, 1) := by decide +kernel
theorem d_M_in_2 : decode b_M_in 2 = .ok (.if_icmp .lt 12, 3) := by decide +kernel
theorem d_M_in_5 : decode b_M_in 5 = .ok (.iload_n 0, 1) := by decide +kernel
theorem d_M_in_6 : decode b_M_in 6 = .ok (.iload_n 2, 1) := by decide +kernel
theorem d_M_in_7 : decode b_M_in 7 = .ok (.if_icmp .gt 7, 3) := by decide +kernel
theorem d_M_in_10 : decode b_M_in 10 = .ok (.iconst 1, 1) := by decide +kernel
theorem d_M_in_11 : decode b_M_in 11 = .ok (.goto 4, 3) := by decide +kernel
theorem d_M_in_14 : decode b_M_in 14 = .ok (.iconst 0, 1) := by decide +kernel
theorem d_M_in_15 : decode b_M_in 15 = .ok (.ireturn, 1) := by decide +kernel
abbrev b_M_goes : ByteArray := prog_10_method_4_code
def y_M_goes : MethodName := ⟨"StationRowsModel", "goes", "(IZZZZ)Z"⟩
theorem d_M_goes_0 : decode b_M_goes 0 = .ok (.iload_n 2, 1) := by decide +kernel
theorem d_M_goes_1 : decode b_M_goes 1 = .ok (.ifCond .ne 7, 3) := by decide +kernel
theorem d_M_goes_4 : decode b_M_goes 4 = .ok (.iconst 1, 1) := by decide +kernel
theorem d_M_goes_5 : decode b_M_goes 5 = .ok (.goto 31, 3) := by decide +kernel
theorem d_M_goes_8 : decode b_M_goes 8 = .ok (.iload_n 3, 1) := by decide +kernel
theorem d_M_goes_9 : decode b_M_goes 9 = .ok (.ifCond .ne 7, 3) := by decide +kernel
theorem d_M_goes_12 : decode b_M_goes 12 = .ok (.iconst 2, 1) := by decide +kernel
theorem d_M_goes_13 : decode b_M_goes 13 = .ok (.goto 23, 3) := by decide +kernel
theorem d_M_goes_16 : decode b_M_goes 16 = .ok (.iload 4, 2) := by decide +kernel
theorem d_M_goes_18 : decode b_M_goes 18 = .ok (.ifCond .ne 7, 3) := by decide +kernel
theorem d_M_goes_21 : decode b_M_goes 21 = .ok (.iconst 4, 1) := by decide +kernel
theorem d_M_goes_22 : decode b_M_goes 22 = .ok (.goto 14, 3) := by decide +kernel
theorem d_M_goes_25 : decode b_M_goes 25 = .ok (.iload 5, 2) := by decide +kernel
theorem d_M_goes_27 : decode b_M_goes 27 = .ok (.ifCond .ne 8, 3) := by decide +kernel
theorem d_M_goes_30 : decode b_M_goes 30 = .ok (.bipush 8, 2) := by decide +kernel
theorem d_M_goes_32 : decode b_M_goes 32 = .ok (.goto 4, 3) := by decide +kernel
theorem d_M_goes_35 : decode b_M_goes 35 = .ok (.iconst 0, 1) := by decide +kernel
theorem d_M_goes_36 : decode b_M_goes 36 = .ok (.istore 6, 2) := by decide +kernel
theorem d_M_goes_38 : decode b_M_goes 38 = .ok (.aload_n 0, 1) := by decide +kernel
theorem d_M_goes_39 : decode b_M_goes 39 = .ok (.iconst 0, 1) := by decide +kernel
theorem d_M_goes_40 : decode b_M_goes 40 = .ok (.putfield 102, 3) := by decide +kernel
theorem d_M_goes_43 : decode b_M_goes 43 = .ok (.iconst 1, 1) := by decide +kernel
theorem d_M_goes_44 : decode b_M_goes 44 = .ok (.istore 7, 2) := by decide +kernel
theorem d_M_goes_46 : decode b_M_goes 46 = .ok (.iload 7, 2) := by decide +kernel
theorem d_M_goes_48 : decode b_M_goes 48 = .ok (.iload 6, 2) := by decide +kernel
theorem d_M_goes_50 : decode b_M_goes 50 = .ok (.if_icmp .gt 29, 3) := by decide +kernel
theorem d_M_goes_53 : decode b_M_goes 53 = .ok (.iload_n 1, 1) := by decide +kernel
theorem d_M_goes_54 : decode b_M_goes 54 = .ok (.iload 7, 2) := by decide +kernel
theorem d_M_goes_56 : decode b_M_goes 56 = .ok (.iand, 1) := by decide +kernel
theorem d_M_goes_57 : decode b_M_goes 57 = .ok (.ifCond .le 13, 3) := by decide +kernel
theorem d_M_goes_60 : decode b_M_goes 60 = .ok (.aload_n 0, 1) := by decide +kernel
theorem d_M_goes_61 : decode b_M_goes 61 = .ok (.dup, 1) := by decide +kernel
theorem d_M_goes_62 : decode b_M_goes 62 = .ok (.getfield 102, 3) := by decide +kernel
theorem d_M_goes_65 : decode b_M_goes 65 = .ok (.iconst 1, 1) := by decide +kernel
theorem d_M_goes_66 : decode b_M_goes 66 = .ok (.iadd, 1) := by decide +kernel
theorem d_M_goes_67 : decode b_M_goes 67 = .ok (.putfield 102, 3) := by decide +kernel
theorem d_M_goes_70 : decode b_M_goes 70 = .ok (.iconst 2, 1) := by decide +kernel
theorem d_M_goes_71 : decode b_M_goes 71 = .ok (.iload 7, 2) := by decide +kernel
theorem d_M_goes_73 : decode b_M_goes 73 = .ok (.imul, 1) := by decide +kernel
theorem d_M_goes_74 : decode b_M_goes 74 = .ok (.istore 7, 2) := by decide +kernel
theorem d_M_goes_76 : decode b_M_goes 76 = .ok (.goto (-30), 3) := by decide +kernel
theorem d_M_goes_79 : decode b_M_goes 79 = .ok (.iload 6, 2) := by decide +kernel
theorem d_M_goes_81 : decode b_M_goes 81 = .ok (.ifCond .ne 7, 3) := by decide +kernel
theorem d_M_goes_84 : decode b_M_goes 84 = .ok (.iconst 1, 1) := by decide +kernel
theorem d_M_goes_85 : decode b_M_goes 85 = .ok (.goto 4, 3) := by decide +kernel
theorem d_M_goes_88 : decode b_M_goes 88 = .ok (.iconst 0, 1) := by decide +kernel
theorem d_M_goes_89 : decode b_M_goes 89 = .ok (.ireturn, 1) := by decide +kernel
abbrev b_M_isStation : ByteArray := prog_10_method_5_code
def y_M_isStation : MethodName := ⟨"StationRowsModel", "isStation", "(I)Z"⟩
theorem d_M_isStation_0 : decode b_M_isStation 0 = .ok (.iload_n 1, 1) := by decide +kernel
theorem d_M_isStation_1 : decode b_M_isStation 1 = .ok (.iconst 0, 1) := by decide +kernel
theorem d_M_isStation_2 : decode b_M_isStation 2 = .ok (.aload_n 0, 1) := by decide +kernel
theorem d_M_isStation_3 : decode b_M_isStation 3 = .ok (.getfield 105, 3) := by decide +kernel
theorem d_M_isStation_6 : decode b_M_isStation 6 = .ok (.iconst 1, 1) := by decide +kernel
theorem d_M_isStation_7 : decode b_M_isStation 7 = .ok (.isub, 1) := by decide +kernel
theorem d_M_isStation_8 : decode b_M_isStation 8 = .ok (.invokestatic 108, 3) := by decide +kernel
theorem d_M_isStation_11 : decode b_M_isStation 11 = .ok (.ireturn, 1) := by decide +kernel
abbrev b_M_isMinute : ByteArray := prog_10_method_6_code
def y_M_isMinute : MethodName := ⟨"StationRowsModel", "isMinute", "(I)Z"⟩
theorem d_M_isMinute_0 : decode b_M_isMinute 0 = .ok (.iload_n 0, 1) := by decide +kernel
theorem d_M_isMinute_1 : decode b_M_isMinute 1 = .ok (.iconst 0, 1) := by decide +kernel
theorem d_M_isMinute_2 : decode b_M_isMinute 2 = .ok (.ldc 112, 2) := by decide +kernel
theorem d_M_isMinute_4 : decode b_M_isMinute 4 = .ok (.invokestatic 108, 3) := by decide +kernel
theorem d_M_isMinute_7 : decode b_M_isMinute 7 = .ok (.ireturn, 1) := by decide +kernel
abbrev b_M_isTime : ByteArray := prog_10_method_7_code
def y_M_isTime : MethodName := ⟨"StationRowsModel", "isTime", "(II)Z"⟩
theorem d_M_isTime_0 : decode b_M_isTime 0 = .ok (.iload_n 0, 1) := by decide +kernel
theorem d_M_isTime_1 : decode b_M_isTime 1 = .ok (.invokestatic 113, 3) := by decide +kernel
theorem d_M_isTime_4 : decode b_M_isTime 4 = .ok (.ifCond .eq 19, 3) := by decide +kernel
theorem d_M_isTime_7 : decode b_M_isTime 7 = .ok (.iload_n 1, 1) := by decide +kernel
theorem d_M_isTime_8 : decode b_M_isTime 8 = .ok (.invokestatic 113, 3) := by decide +kernel
theorem d_M_isTime_11 : decode b_M_isTime 11 = .ok (.ifCond .eq 12, 3) := by decide +kernel
theorem d_M_isTime_14 : decode b_M_isTime 14 = .ok (.iload_n 0, 1) := by decide +kernel
theorem d_M_isTime_15 : decode b_M_isTime 15 = .ok (.iload_n 1, 1) := by decide +kernel
theorem d_M_isTime_16 : decode b_M_isTime 16 = .ok (.if_icmp .ge 7, 3) := by decide +kernel
theorem d_M_isTime_19 : decode b_M_isTime 19 = .ok (.iconst 1, 1) := by decide +kernel
theorem d_M_isTime_20 : decode b_M_isTime 20 = .ok (.goto 4, 3) := by decide +kernel
theorem d_M_isTime_23 : decode b_M_isTime 23 = .ok (.iconst 0, 1) := by decide +kernel
theorem d_M_isTime_24 : decode b_M_isTime 24 = .ok (.ireturn, 1) := by decide +kernel
abbrev b_M_meet : ByteArray := prog_10_method_8_code
def y_M_meet : MethodName := ⟨"StationRowsModel", "meet", "(IIII)Z"⟩
theorem d_M_meet_0 : decode b_M_meet 0 = .ok (.iload_n 0, 1) := by decide +kernel
theorem d_M_meet_1 : decode b_M_meet 1 = .ok (.iload_n 3, 1) := by decide +kernel
theorem d_M_meet_2 : decode b_M_meet 2 = .ok (.if_icmp .ge 12, 3) := by decide +kernel
theorem d_M_meet_5 : decode b_M_meet 5 = .ok (.iload_n 2, 1) := by decide +kernel
theorem d_M_meet_6 : decode b_M_meet 6 = .ok (.iload_n 1, 1) := by decide +kernel
theorem d_M_meet_7 : decode b_M_meet 7 = .ok (.if_icmp .ge 7, 3) := by decide +kernel
theorem d_M_meet_10 : decode b_M_meet 10 = .ok (.iconst 1, 1) := by decide +kernel
theorem d_M_meet_11 : decode b_M_meet 11 = .ok (.goto 4, 3) := by decide +kernel
theorem d_M_meet_14 : decode b_M_meet 14 = .ok (.iconst 0, 1) := by decide +kernel
theorem d_M_meet_15 : decode b_M_meet 15 = .ok (.ireturn, 1) := by decide +kernel
abbrev b_M_isThere : ByteArray := prog_10_method_9_code
def y_M_isThere : MethodName := ⟨"StationRowsModel", "isThere", "(II)Z"⟩
theorem d_M_isThere_0 : decode b_M_isThere 0 = .ok (.iload_n 2, 1) := by decide +kernel
theorem d_M_isThere_1 : decode b_M_isThere 1 = .ok (.aload_n 0, 1) := by decide +kernel
theorem d_M_isThere_2 : decode b_M_isThere 2 = .ok (.getfield 13, 3) := by decide +kernel
theorem d_M_isThere_5 : decode b_M_isThere 5 = .ok (.iload_n 1, 1) := by decide +kernel
theorem d_M_isThere_6 : decode b_M_isThere 6 = .ok (.iaload, 1) := by decide +kernel
theorem d_M_isThere_7 : decode b_M_isThere 7 = .ok (.if_icmp .lt 17, 3) := by decide +kernel
theorem d_M_isThere_10 : decode b_M_isThere 10 = .ok (.iload_n 2, 1) := by decide +kernel
theorem d_M_isThere_11 : decode b_M_isThere 11 = .ok (.aload_n 0, 1) := by decide +kernel
theorem d_M_isThere_12 : decode b_M_isThere 12 = .ok (.getfield 16, 3) := by decide +kernel
theorem d_M_isThere_15 : decode b_M_isThere 15 = .ok (.iload_n 1, 1) := by decide +kernel
theorem d_M_isThere_16 : decode b_M_isThere 16 = .ok (.iaload, 1) := by decide +kernel
theorem d_M_isThere_17 : decode b_M_isThere 17 = .ok (.if_icmp .ge 7, 3) := by decide +kernel
theorem d_M_isThere_20 : decode b_M_isThere 20 = .ok (.iconst 1, 1) := by decide +kernel
theorem d_M_isThere_21 : decode b_M_isThere 21 = .ok (.goto 4, 3) := by decide +kernel
theorem d_M_isThere_24 : decode b_M_isThere 24 = .ok (.iconst 0, 1) := by decide +kernel
theorem d_M_isThere_25 : decode b_M_isThere 25 = .ok (.ireturn, 1) := by decide +kernel
abbrev b_M_add : ByteArray := prog_10_method_10_code
def y_M_add : MethodName := ⟨"StationRowsModel", "add", "(III)I"⟩
theorem d_M_add_0 : decode b_M_add 0 = .ok (.aload_n 0, 1) := by decide +kernel
theorem d_M_add_1 : decode b_M_add 1 = .ok (.getfield 7, 3) := by decide +kernel
theorem d_M_add_4 : decode b_M_add 4 = .ok (.aload_n 0, 1) := by decide +kernel
theorem d_M_add_5 : decode b_M_add 5 = .ok (.getfield 105, 3) := by decide +kernel
theorem d_M_add_8 : decode b_M_add 8 = .ok (.iload_n 1, 1) := by decide +kernel
theorem d_M_add_9 : decode b_M_add 9 = .ok (.iastore, 1) := by decide +kernel
theorem d_M_add_10 : decode b_M_add 10 = .ok (.aload_n 0, 1) := by decide +kernel
theorem d_M_add_11 : decode b_M_add 11 = .ok (.getfield 13, 3) := by decide +kernel
theorem d_M_add_14 : decode b_M_add 14 = .ok (.aload_n 0, 1) := by decide +kernel
theorem d_M_add_15 : decode b_M_add 15 = .ok (.getfield 105, 3) := by decide +kernel
theorem d_M_add_18 : decode b_M_add 18 = .ok (.iload_n 2, 1) := by decide +kernel
theorem d_M_add_19 : decode b_M_add 19 = .ok (.iastore, 1) := by decide +kernel
theorem d_M_add_20 : decode b_M_add 20 = .ok (.aload_n 0, 1) := by decide +kernel
theorem d_M_add_21 : decode b_M_add 21 = .ok (.getfield 16, 3) := by decide +kernel
theorem d_M_add_24 : decode b_M_add 24 = .ok (.aload_n 0, 1) := by decide +kernel
theorem d_M_add_25 : decode b_M_add 25 = .ok (.getfield 105, 3) := by decide +kernel
theorem d_M_add_28 : decode b_M_add 28 = .ok (.iload_n 3, 1) := by decide +kernel
theorem d_M_add_29 : decode b_M_add 29 = .ok (.iastore, 1) := by decide +kernel
theorem d_M_add_30 : decode b_M_add 30 = .ok (.aload_n 0, 1) := by decide +kernel
theorem d_M_add_31 : decode b_M_add 31 = .ok (.dup, 1) := by decide +kernel
theorem d_M_add_32 : decode b_M_add 32 = .ok (.getfield 105, 3) := by decide +kernel
theorem d_M_add_35 : decode b_M_add 35 = .ok (.iconst 1, 1) := by decide +kernel
theorem d_M_add_36 : decode b_M_add 36 = .ok (.iadd, 1) := by decide +kernel
theorem d_M_add_37 : decode b_M_add 37 = .ok (.putfield 105, 3) := by decide +kernel
theorem d_M_add_40 : decode b_M_add 40 = .ok (.aload_n 0, 1) := by decide +kernel
theorem d_M_add_41 : decode b_M_add 41 = .ok (.getfield 105, 3) := by decide +kernel
theorem d_M_add_44 : decode b_M_add 44 = .ok (.iconst 1, 1) := by decide +kernel
theorem d_M_add_45 : decode b_M_add 45 = .ok (.isub, 1) := by decide +kernel
theorem d_M_add_46 : decode b_M_add 46 = .ok (.ireturn, 1) := by decide +kernel
abbrev b_M_station : ByteArray := prog_10_method_11_code
def y_M_station : MethodName := ⟨"StationRowsModel", "station", "(I)I"⟩
theorem d_M_station_0 : decode b_M_station 0 = .ok (.aload_n 0, 1) := by decide +kernel
theorem d_M_station_1 : decode b_M_station 1 = .ok (.bipush 10, 2) := by decide +kernel
theorem d_M_station_3 : decode b_M_station 3 = .ok (.iconst 1, 1) := by decide +kernel
theorem d_M_station_4 : decode b_M_station 4 = .ok (.iload_n 1, 1) := by decide +kernel
theorem d_M_station_5 : decode b_M_station 5 = .ok (.iconst 1, 1) := by decide +kernel
theorem d_M_station_6 : decode b_M_station 6 = .ok (.bipush 6, 2) := by decide +kernel
theorem d_M_station_8 : decode b_M_station 8 = .ok (.invokestatic 108, 3) := by decide +kernel
theorem d_M_station_11 : decode b_M_station 11 = .ok (.iconst 1, 1) := by decide +kernel
theorem d_M_station_12 : decode b_M_station 12 = .ok (.aload_n 0, 1) := by decide +kernel
theorem d_M_station_13 : decode b_M_station 13 = .ok (.getfield 105, 3) := by decide +kernel
theorem d_M_station_16 : decode b_M_station 16 = .ok (.bipush 12, 2) := by decide +kernel
theorem d_M_station_18 : decode b_M_station 18 = .ok (.if_icmp .ge 7, 3) := by decide +kernel
theorem d_M_station_21 : decode b_M_station 21 = .ok (.iconst 1, 1) := by decide +kernel
theorem d_M_station_22 : decode b_M_station 22 = .ok (.goto 4, 3) := by decide +kernel
theorem d_M_station_25 : decode b_M_station 25 = .ok (.iconst 0, 1) := by decide +kernel
theorem d_M_station_26 : decode b_M_station 26 = .ok (.invokevirtual 117, 3) := by decide +kernel
theorem d_M_station_29 : decode b_M_station 29 = .ok (.ifCond .ne 5, 3) := by decide +kernel
theorem d_M_station_32 : decode b_M_station 32 = .ok (.iconst 0, 1) := by decide +kernel
theorem d_M_station_33 : decode b_M_station 33 = .ok (.ireturn, 1) := by decide +kernel
theorem d_M_station_34 : decode b_M_station 34 = .ok (.aload_n 0, 1) := by decide +kernel
theorem d_M_station_35 : decode b_M_station 35 = .ok (.iload_n 1, 1) := by decide +kernel
theorem d_M_station_36 : decode b_M_station 36 = .ok (.iconst 0, 1) := by decide +kernel
theorem d_M_station_37 : decode b_M_station 37 = .ok (.ldc 121, 2) := by decide +kernel
theorem d_M_station_39 : decode b_M_station 39 = .ok (.invokevirtual 122, 3) := by decide +kernel
theorem d_M_station_42 : decode b_M_station 42 = .ok (.ireturn, 1) := by decide +kernel
abbrev b_M_temporary : ByteArray := prog_10_method_12_code
def y_M_temporary : MethodName := ⟨"StationRowsModel", "temporary", "(III)I"⟩
theorem d_M_temporary_0 : decode b_M_temporary 0 = .ok (.aload_n 0, 1) := by decide +kernel
theorem d_M_temporary_1 : decode b_M_temporary 1 = .ok (.bipush 10, 2) := by decide +kernel
theorem d_M_temporary_3 : decode b_M_temporary 3 = .ok (.iconst 1, 1) := by decide +kernel
theorem d_M_temporary_4 : decode b_M_temporary 4 = .ok (.iload_n 1, 1) := by decide +kernel
theorem d_M_temporary_5 : decode b_M_temporary 5 = .ok (.iconst 1, 1) := by decide +kernel
theorem d_M_temporary_6 : decode b_M_temporary 6 = .ok (.bipush 6, 2) := by decide +kernel
theorem d_M_temporary_8 : decode b_M_temporary 8 = .ok (.invokestatic 108, 3) := by decide +kernel
theorem d_M_temporary_11 : decode b_M_temporary 11 = .ok (.ifCond .eq 15, 3) := by decide +kernel
theorem d_M_temporary_14 : decode b_M_temporary 14 = .ok (.iload_n 2, 1) := by decide +kernel
theorem d_M_temporary_15 : decode b_M_temporary 15 = .ok (.iload_n 3, 1) := by decide +kernel
theorem d_M_temporary_16 : decode b_M_temporary 16 = .ok (.invokestatic 126, 3) := by decide +kernel
theorem d_M_temporary_19 : decode b_M_temporary 19 = .ok (.ifCond .eq 7, 3) := by decide +kernel
theorem d_M_temporary_22 : decode b_M_temporary 22 = .ok (.iconst 1, 1) := by decide +kernel
theorem d_M_temporary_23 : decode b_M_temporary 23 = .ok (.goto 4, 3) := by decide +kernel
theorem d_M_temporary_26 : decode b_M_temporary 26 = .ok (.iconst 0, 1) := by decide +kernel
theorem d_M_temporary_27 : decode b_M_temporary 27 = .ok (.iconst 1, 1) := by decide +kernel
theorem d_M_temporary_28 : decode b_M_temporary 28 = .ok (.aload_n 0, 1) := by decide +kernel
theorem d_M_temporary_29 : decode b_M_temporary 29 = .ok (.getfield 105, 3) := by decide +kernel
theorem d_M_temporary_32 : decode b_M_temporary 32 = .ok (.bipush 12, 2) := by decide +kernel
theorem d_M_temporary_34 : decode b_M_temporary 34 = .ok (.if_icmp .ge 7, 3) := by decide +kernel
theorem d_M_temporary_37 : decode b_M_temporary 37 = .ok (.iconst 1, 1) := by decide +kernel
theorem d_M_temporary_38 : decode b_M_temporary 38 = .ok (.goto 4, 3) := by decide +kernel
theorem d_M_temporary_41 : decode b_M_temporary 41 = .ok (.iconst 0, 1) := by decide +kernel
theorem d_M_temporary_42 : decode b_M_temporary 42 = .ok (.invokevirtual 117, 3) := by decide +kernel
theorem d_M_temporary_45 : decode b_M_temporary 45 = .ok (.ifCond .ne 5, 3) := by decide +kernel
theorem d_M_temporary_48 : decode b_M_temporary 48 = .ok (.iconst 0, 1) := by decide +kernel
theorem d_M_temporary_49 : decode b_M_temporary 49 = .ok (.ireturn, 1) := by decide +kernel
theorem d_M_temporary_50 : decode b_M_temporary 50 = .ok (.aload_n 0, 1) := by decide +kernel
theorem d_M_temporary_51 : decode b_M_temporary 51 = .ok (.iload_n 1, 1) := by decide +kernel
theorem d_M_temporary_52 : decode b_M_temporary 52 = .ok (.iload_n 2, 1) := by decide +kernel
theorem d_M_temporary_53 : decode b_M_temporary 53 = .ok (.iload_n 3, 1) := by decide +kernel
theorem d_M_temporary_54 : decode b_M_temporary 54 = .ok (.invokevirtual 122, 3) := by decide +kernel
theorem d_M_temporary_57 : decode b_M_temporary 57 = .ok (.ireturn, 1) := by decide +kernel
abbrev b_M_vehicle : ByteArray := prog_10_method_13_code
def y_M_vehicle : MethodName := ⟨"StationRowsModel", "vehicle", "(III)I"⟩
theorem d_M_vehicle_0 : decode b_M_vehicle 0 = .ok (.iconst 0, 1) := by decide +kernel
theorem d_M_vehicle_1 : decode b_M_vehicle 1 = .ok (.istore 4, 2) := by decide +kernel
theorem d_M_vehicle_3 : decode b_M_vehicle 3 = .ok (.iconst 0, 1) := by decide +kernel
theorem d_M_vehicle_4 : decode b_M_vehicle 4 = .ok (.istore 5, 2) := by decide +kernel
theorem d_M_vehicle_6 : decode b_M_vehicle 6 = .ok (.iload 5, 2) := by decide +kernel
theorem d_M_vehicle_8 : decode b_M_vehicle 8 = .ok (.aload_n 0, 1) := by decide +kernel
theorem d_M_vehicle_9 : decode b_M_vehicle 9 = .ok (.getfield 130, 3) := by decide +kernel
theorem d_M_vehicle_12 : decode b_M_vehicle 12 = .ok (.if_icmp .ge 23, 3) := by decide +kernel
theorem d_M_vehicle_15 : decode b_M_vehicle 15 = .ok (.aload_n 0, 1) := by decide +kernel
theorem d_M_vehicle_16 : decode b_M_vehicle 16 = .ok (.getfield 19, 3) := by decide +kernel
theorem d_M_vehicle_19 : decode b_M_vehicle 19 = .ok (.iload 5, 2) := by decide +kernel
theorem d_M_vehicle_21 : decode b_M_vehicle 21 = .ok (.iaload, 1) := by decide +kernel
theorem d_M_vehicle_22 : decode b_M_vehicle 22 = .ok (.iload_n 1, 1) := by decide +kernel
theorem d_M_vehicle_23 : decode b_M_vehicle 23 = .ok (.if_icmp .ne 6, 3) := by decide +kernel
theorem d_M_vehicle_26 : decode b_M_vehicle 26 = .ok (.iinc 4 1, 3) := by decide +kernel
theorem d_M_vehicle_29 : decode b_M_vehicle 29 = .ok (.iinc 5 1, 3) := by decide +kernel
theorem d_M_vehicle_32 : decode b_M_vehicle 32 = .ok (.goto (-26), 3) := by decide +kernel
theorem d_M_vehicle_35 : decode b_M_vehicle 35 = .ok (.aload_n 0, 1) := by decide +kernel
theorem d_M_vehicle_36 : decode b_M_vehicle 36 = .ok (.iload_n 1, 1) := by decide +kernel
theorem d_M_vehicle_37 : decode b_M_vehicle 37 = .ok (.invokevirtual 133, 3) := by decide +kernel
theorem d_M_vehicle_40 : decode b_M_vehicle 40 = .ok (.istore 5, 2) := by decide +kernel
theorem d_M_vehicle_42 : decode b_M_vehicle 42 = .ok (.aload_n 0, 1) := by decide +kernel
theorem d_M_vehicle_43 : decode b_M_vehicle 43 = .ok (.bipush 11, 2) := by decide +kernel
theorem d_M_vehicle_45 : decode b_M_vehicle 45 = .ok (.iload 5, 2) := by decide +kernel
theorem d_M_vehicle_47 : decode b_M_vehicle 47 = .ok (.iload_n 2, 1) := by decide +kernel
theorem d_M_vehicle_48 : decode b_M_vehicle 48 = .ok (.iconst 0, 1) := by decide +kernel
theorem d_M_vehicle_49 : decode b_M_vehicle 49 = .ok (.bipush 9, 2) := by decide +kernel
theorem d_M_vehicle_51 : decode b_M_vehicle 51 = .ok (.invokestatic 108, 3) := by decide +kernel
theorem d_M_vehicle_54 : decode b_M_vehicle 54 = .ok (.ifCond .eq 17, 3) := by decide +kernel
theorem d_M_vehicle_57 : decode b_M_vehicle 57 = .ok (.iload_n 3, 1) := by decide +kernel
theorem d_M_vehicle_58 : decode b_M_vehicle 58 = .ok (.iconst 0, 1) := by decide +kernel
theorem d_M_vehicle_59 : decode b_M_vehicle 59 = .ok (.bipush 9, 2) := by decide +kernel
theorem d_M_vehicle_61 : decode b_M_vehicle 61 = .ok (.invokestatic 108, 3) := by decide +kernel
theorem d_M_vehicle_64 : decode b_M_vehicle 64 = .ok (.ifCond .eq 7, 3) := by decide +kernel
theorem d_M_vehicle_67 : decode b_M_vehicle 67 = .ok (.iconst 1, 1) := by decide +kernel
theorem d_M_vehicle_68 : decode b_M_vehicle 68 = .ok (.goto 4, 3) := by decide +kernel
theorem d_M_vehicle_71 : decode b_M_vehicle 71 = .ok (.iconst 0, 1) := by decide +kernel
theorem d_M_vehicle_72 : decode b_M_vehicle 72 = .ok (.iconst 1, 1) := by decide +kernel
theorem d_M_vehicle_73 : decode b_M_vehicle 73 = .ok (.aload_n 0, 1) := by decide +kernel
theorem d_M_vehicle_74 : decode b_M_vehicle 74 = .ok (.getfield 130, 3) := by decide +kernel
theorem d_M_vehicle_77 : decode b_M_vehicle 77 = .ok (.bipush 30, 2) := by decide +kernel
theorem d_M_vehicle_79 : decode b_M_vehicle 79 = .ok (.if_icmp .ge 32, 3) := by decide +kernel
theorem d_M_vehicle_82 : decode b_M_vehicle 82 = .ok (.iload 5, 2) := by decide +kernel
theorem d_M_vehicle_84 : decode b_M_vehicle 84 = .ok (.ifCond .eq 27, 3) := by decide +kernel
theorem d_M_vehicle_87 : decode b_M_vehicle 87 = .ok (.iload 4, 2) := by decide +kernel
theorem d_M_vehicle_89 : decode b_M_vehicle 89 = .ok (.aload_n 0, 1) := by decide +kernel
theorem d_M_vehicle_90 : decode b_M_vehicle 90 = .ok (.getfield 7, 3) := by decide +kernel
theorem d_M_vehicle_93 : decode b_M_vehicle 93 = .ok (.iload 5, 2) := by decide +kernel
theorem d_M_vehicle_95 : decode b_M_vehicle 95 = .ok (.ifCond .eq 7, 3) := by decide +kernel
theorem d_M_vehicle_98 : decode b_M_vehicle 98 = .ok (.iload_n 1, 1) := by decide +kernel
theorem d_M_vehicle_99 : decode b_M_vehicle 99 = .ok (.goto 4, 3) := by decide +kernel
theorem d_M_vehicle_102 : decode b_M_vehicle 102 = .ok (.iconst 0, 1) := by decide +kernel
theorem d_M_vehicle_103 : decode b_M_vehicle 103 = .ok (.iaload, 1) := by decide +kernel
theorem d_M_vehicle_104 : decode b_M_vehicle 104 = .ok (.if_icmp .ge 7, 3) := by decide +kernel
theorem d_M_vehicle_107 : decode b_M_vehicle 107 = .ok (.iconst 1, 1) := by decide +kernel
theorem d_M_vehicle_108 : decode b_M_vehicle 108 = .ok (.goto 4, 3) := by decide +kernel
theorem d_M_vehicle_111 : decode b_M_vehicle 111 = .ok (.iconst 0, 1) := by decide +kernel
theorem d_M_vehicle_112 : decode b_M_vehicle 112 = .ok (.invokevirtual 117, 3) := by decide +kernel
theorem d_M_vehicle_115 : decode b_M_vehicle 115 = .ok (.ifCond .ne 5, 3) := by decide +kernel
theorem d_M_vehicle_118 : decode b_M_vehicle 118 = .ok (.iconst 0, 1) := by decide +kernel
theorem d_M_vehicle_119 : decode b_M_vehicle 119 = .ok (.ireturn, 1) := by decide +kernel
theorem d_M_vehicle_120 : decode b_M_vehicle 120 = .ok (.aload_n 0, 1) := by decide +kernel
theorem d_M_vehicle_121 : decode b_M_vehicle 121 = .ok (.getfield 19, 3) := by decide +kernel
theorem d_M_vehicle_124 : decode b_M_vehicle 124 = .ok (.aload_n 0, 1) := by decide +kernel
theorem d_M_vehicle_125 : decode b_M_vehicle 125 = .ok (.getfield 130, 3) := by decide +kernel
theorem d_M_vehicle_128 : decode b_M_vehicle 128 = .ok (.iload_n 1, 1) := by decide +kernel
theorem d_M_vehicle_129 : decode b_M_vehicle 129 = .ok (.iastore, 1) := by decide +kernel
theorem d_M_vehicle_130 : decode b_M_vehicle 130 = .ok (.aload_n 0, 1) := by decide +kernel
theorem d_M_vehicle_131 : decode b_M_vehicle 131 = .ok (.getfield 22, 3) := by decide +kernel
theorem d_M_vehicle_134 : decode b_M_vehicle 134 = .ok (.aload_n 0, 1) := by decide +kernel
theorem d_M_vehicle_135 : decode b_M_vehicle 135 = .ok (.getfield 130, 3) := by decide +kernel
theorem d_M_vehicle_138 : decode b_M_vehicle 138 = .ok (.iload_n 2, 1) := by decide +kernel
theorem d_M_vehicle_139 : decode b_M_vehicle 139 = .ok (.iastore, 1) := by decide +kernel
theorem d_M_vehicle_140 : decode b_M_vehicle 140 = .ok (.aload_n 0, 1) := by decide +kernel
theorem d_M_vehicle_141 : decode b_M_vehicle 141 = .ok (.getfield 25, 3) := by decide +kernel
theorem d_M_vehicle_144 : decode b_M_vehicle 144 = .ok (.aload_n 0, 1) := by decide +kernel
theorem d_M_vehicle_145 : decode b_M_vehicle 145 = .ok (.getfield 130, 3) := by decide +kernel
theorem d_M_vehicle_148 : decode b_M_vehicle 148 = .ok (.iload_n 3, 1) := by decide +kernel
theorem d_M_vehicle_149 : decode b_M_vehicle 149 = .ok (.iastore, 1) := by decide +kernel
theorem d_M_vehicle_150 : decode b_M_vehicle 150 = .ok (.aload_n 0, 1) := by decide +kernel
theorem d_M_vehicle_151 : decode b_M_vehicle 151 = .ok (.dup, 1) := by decide +kernel
theorem d_M_vehicle_152 : decode b_M_vehicle 152 = .ok (.getfield 130, 3) := by decide +kernel
theorem d_M_vehicle_155 : decode b_M_vehicle 155 = .ok (.iconst 1, 1) := by decide +kernel
theorem d_M_vehicle_156 : decode b_M_vehicle 156 = .ok (.iadd, 1) := by decide +kernel
theorem d_M_vehicle_157 : decode b_M_vehicle 157 = .ok (.putfield 130, 3) := by decide +kernel
theorem d_M_vehicle_160 : decode b_M_vehicle 160 = .ok (.aload_n 0, 1) := by decide +kernel
theorem d_M_vehicle_161 : decode b_M_vehicle 161 = .ok (.getfield 130, 3) := by decide +kernel
theorem d_M_vehicle_164 : decode b_M_vehicle 164 = .ok (.iconst 1, 1) := by decide +kernel
theorem d_M_vehicle_165 : decode b_M_vehicle 165 = .ok (.isub, 1) := by decide +kernel
theorem d_M_vehicle_166 : decode b_M_vehicle 166 = .ok (.ireturn, 1) := by decide +kernel
abbrev b_M_isVehicle : ByteArray := prog_10_method_14_code
def y_M_isVehicle : MethodName := ⟨"StationRowsModel", "isVehicle", "(I)Z"⟩
theorem d_M_isVehicle_0 : decode b_M_isVehicle 0 = .ok (.iload_n 1, 1) := by decide +kernel
theorem d_M_isVehicle_1 : decode b_M_isVehicle 1 = .ok (.iconst 0, 1) := by decide +kernel
theorem d_M_isVehicle_2 : decode b_M_isVehicle 2 = .ok (.aload_n 0, 1) := by decide +kernel
theorem d_M_isVehicle_3 : decode b_M_isVehicle 3 = .ok (.getfield 130, 3) := by decide +kernel
theorem d_M_isVehicle_6 : decode b_M_isVehicle 6 = .ok (.iconst 1, 1) := by decide +kernel
theorem d_M_isVehicle_7 : decode b_M_isVehicle 7 = .ok (.isub, 1) := by decide +kernel
theorem d_M_isVehicle_8 : decode b_M_isVehicle 8 = .ok (.invokestatic 108, 3) := by decide +kernel
theorem d_M_isVehicle_11 : decode b_M_isVehicle 11 = .ok (.ireturn, 1) := by decide +kernel
abbrev b_M_out : ByteArray := prog_10_method_15_code
def y_M_out : MethodName := ⟨"StationRowsModel", "out", "(III)V"⟩
theorem d_M_out_0 : decode b_M_out 0 = .ok (.aload_n 0, 1) := by decide +kernel
theorem d_M_out_1 : decode b_M_out 1 = .ok (.iload_n 1, 1) := by decide +kernel
theorem d_M_out_2 : decode b_M_out 2 = .ok (.invokevirtual 136, 3) := by decide +kernel
theorem d_M_out_5 : decode b_M_out 5 = .ok (.istore 4, 2) := by decide +kernel
theorem d_M_out_7 : decode b_M_out 7 = .ok (.iconst 1, 1) := by decide +kernel
theorem d_M_out_8 : decode b_M_out 8 = .ok (.istore 5, 2) := by decide +kernel
theorem d_M_out_10 : decode b_M_out 10 = .ok (.iconst 0, 1) := by decide +kernel
theorem d_M_out_11 : decode b_M_out 11 = .ok (.istore 6, 2) := by decide +kernel
theorem d_M_out_13 : decode b_M_out 13 = .ok (.iload 4, 2) := by decide +kernel
theorem d_M_out_15 : decode b_M_out 15 = .ok (.ifCond .eq 62, 3) := by decide +kernel
theorem d_M_out_18 : decode b_M_out 18 = .ok (.iload 6, 2) := by decide +kernel
theorem d_M_out_20 : decode b_M_out 20 = .ok (.aload_n 0, 1) := by decide +kernel
theorem d_M_out_21 : decode b_M_out 21 = .ok (.getfield 28, 3) := by decide +kernel
theorem d_M_out_24 : decode b_M_out 24 = .ok (.iload_n 1, 1) := by decide +kernel
theorem d_M_out_25 : decode b_M_out 25 = .ok (.iaload, 1) := by decide +kernel
theorem d_M_out_26 : decode b_M_out 26 = .ok (.if_icmp .ge 51, 3) := by decide +kernel
theorem d_M_out_29 : decode b_M_out 29 = .ok (.iload 5, 2) := by decide +kernel
theorem d_M_out_31 : decode b_M_out 31 = .ok (.ifCond .eq 37, 3) := by decide +kernel
theorem d_M_out_34 : decode b_M_out 34 = .ok (.iload_n 2, 1) := by decide +kernel
theorem d_M_out_35 : decode b_M_out 35 = .ok (.iload_n 3, 1) := by decide +kernel
theorem d_M_out_36 : decode b_M_out 36 = .ok (.aload_n 0, 1) := by decide +kernel
theorem d_M_out_37 : decode b_M_out 37 = .ok (.getfield 31, 3) := by decide +kernel
theorem d_M_out_40 : decode b_M_out 40 = .ok (.iconst 4, 1) := by decide +kernel
theorem d_M_out_41 : decode b_M_out 41 = .ok (.iload_n 1, 1) := by decide +kernel
theorem d_M_out_42 : decode b_M_out 42 = .ok (.imul, 1) := by decide +kernel
theorem d_M_out_43 : decode b_M_out 43 = .ok (.iload 6, 2) := by decide +kernel
theorem d_M_out_45 : decode b_M_out 45 = .ok (.iadd, 1) := by decide +kernel
theorem d_M_out_46 : decode b_M_out 46 = .ok (.iaload, 1) := by decide +kernel
theorem d_M_out_47 : decode b_M_out 47 = .ok (.aload_n 0, 1) := by decide +kernel
theorem d_M_out_48 : decode b_M_out 48 = .ok (.getfield 34, 3) := by decide +kernel
theorem d_M_out_51 : decode b_M_out 51 = .ok (.iconst 4, 1) := by decide +kernel
theorem d_M_out_52 : decode b_M_out 52 = .ok (.iload_n 1, 1) := by decide +kernel
theorem d_M_out_53 : decode b_M_out 53 = .ok (.imul, 1) := by decide +kernel
theorem d_M_out_54 : decode b_M_out 54 = .ok (.iload 6, 2) := by decide +kernel
theorem d_M_out_56 : decode b_M_out 56 = .ok (.iadd, 1) := by decide +kernel
theorem d_M_out_57 : decode b_M_out 57 = .ok (.iaload, 1) := by decide +kernel
theorem d_M_out_58 : decode b_M_out 58 = .ok (.invokestatic 139, 3) := by decide +kernel
theorem d_M_out_61 : decode b_M_out 61 = .ok (.ifCond .ne 7, 3) := by decide +kernel
theorem d_M_out_64 : decode b_M_out 64 = .ok (.iconst 1, 1) := by decide +kernel
theorem d_M_out_65 : decode b_M_out 65 = .ok (.goto 4, 3) := by decide +kernel
theorem d_M_out_68 : decode b_M_out 68 = .ok (.iconst 0, 1) := by decide +kernel
theorem d_M_out_69 : decode b_M_out 69 = .ok (.istore 5, 2) := by decide +kernel
theorem d_M_out_71 : decode b_M_out 71 = .ok (.iinc 6 1, 3) := by decide +kernel
theorem d_M_out_74 : decode b_M_out 74 = .ok (.goto (-61), 3) := by decide +kernel
theorem d_M_out_77 : decode b_M_out 77 = .ok (.aload_n 0, 1) := by decide +kernel
theorem d_M_out_78 : decode b_M_out 78 = .ok (.bipush 15, 2) := by decide +kernel
theorem d_M_out_80 : decode b_M_out 80 = .ok (.iload 4, 2) := by decide +kernel
theorem d_M_out_82 : decode b_M_out 82 = .ok (.iload_n 2, 1) := by decide +kernel
theorem d_M_out_83 : decode b_M_out 83 = .ok (.iload_n 3, 1) := by decide +kernel
theorem d_M_out_84 : decode b_M_out 84 = .ok (.invokestatic 126, 3) := by decide +kernel
theorem d_M_out_87 : decode b_M_out 87 = .ok (.iload 5, 2) := by decide +kernel
theorem d_M_out_89 : decode b_M_out 89 = .ok (.iload 4, 2) := by decide +kernel
theorem d_M_out_91 : decode b_M_out 91 = .ok (.ifCond .eq 17, 3) := by decide +kernel
theorem d_M_out_94 : decode b_M_out 94 = .ok (.aload_n 0, 1) := by decide +kernel
theorem d_M_out_95 : decode b_M_out 95 = .ok (.getfield 28, 3) := by decide +kernel
theorem d_M_out_98 : decode b_M_out 98 = .ok (.iload_n 1, 1) := by decide +kernel
theorem d_M_out_99 : decode b_M_out 99 = .ok (.iaload, 1) := by decide +kernel
theorem d_M_out_100 : decode b_M_out 100 = .ok (.iconst 4, 1) := by decide +kernel
theorem d_M_out_101 : decode b_M_out 101 = .ok (.if_icmp .ge 7, 3) := by decide +kernel
theorem d_M_out_104 : decode b_M_out 104 = .ok (.iconst 1, 1) := by decide +kernel
theorem d_M_out_105 : decode b_M_out 105 = .ok (.goto 4, 3) := by decide +kernel
theorem d_M_out_108 : decode b_M_out 108 = .ok (.iconst 0, 1) := by decide +kernel
theorem d_M_out_109 : decode b_M_out 109 = .ok (.invokevirtual 117, 3) := by decide +kernel
theorem d_M_out_112 : decode b_M_out 112 = .ok (.ifCond .ne 4, 3) := by decide +kernel
theorem d_M_out_115 : decode b_M_out 115 = .ok (.return_, 1) := by decide +kernel
theorem d_M_out_116 : decode b_M_out 116 = .ok (.aload_n 0, 1) := by decide +kernel
theorem d_M_out_117 : decode b_M_out 117 = .ok (.getfield 31, 3) := by decide +kernel
theorem d_M_out_120 : decode b_M_out 120 = .ok (.iconst 4, 1) := by decide +kernel
theorem d_M_out_121 : decode b_M_out 121 = .ok (.iload_n 1, 1) := by decide +kernel
theorem d_M_out_122 : decode b_M_out 122 = .ok (.imul, 1) := by decide +kernel
theorem d_M_out_123 : decode b_M_out 123 = .ok (.aload_n 0, 1) := by decide +kernel
theorem d_M_out_124 : decode b_M_out 124 = .ok (.getfield 28, 3) := by decide +kernel
theorem d_M_out_127 : decode b_M_out 127 = .ok (.iload_n 1, 1) := by decide +kernel
theorem d_M_out_128 : decode b_M_out 128 = .ok (.iaload, 1) := by decide +kernel
theorem d_M_out_129 : decode b_M_out 129 = .ok (.iadd, 1) := by decide +kernel
theorem d_M_out_130 : decode b_M_out 130 = .ok (.iload_n 2, 1) := by decide +kernel
theorem d_M_out_131 : decode b_M_out 131 = .ok (.iastore, 1) := by decide +kernel
theorem d_M_out_132 : decode b_M_out 132 = .ok (.aload_n 0, 1) := by decide +kernel
theorem d_M_out_133 : decode b_M_out 133 = .ok (.getfield 34, 3) := by decide +kernel
theorem d_M_out_136 : decode b_M_out 136 = .ok (.iconst 4, 1) := by decide +kernel
theorem d_M_out_137 : decode b_M_out 137 = .ok (.iload_n 1, 1) := by decide +kernel
theorem d_M_out_138 : decode b_M_out 138 = .ok (.imul, 1) := by decide +kernel
theorem d_M_out_139 : decode b_M_out 139 = .ok (.aload_n 0, 1) := by decide +kernel
theorem d_M_out_140 : decode b_M_out 140 = .ok (.getfield 28, 3) := by decide +kernel
theorem d_M_out_143 : decode b_M_out 143 = .ok (.iload_n 1, 1) := by decide +kernel
theorem d_M_out_144 : decode b_M_out 144 = .ok (.iaload, 1) := by decide +kernel
theorem d_M_out_145 : decode b_M_out 145 = .ok (.iadd, 1) := by decide +kernel
theorem d_M_out_146 : decode b_M_out 146 = .ok (.iload_n 3, 1) := by decide +kernel
theorem d_M_out_147 : decode b_M_out 147 = .ok (.iastore, 1) := by decide +kernel
theorem d_M_out_148 : decode b_M_out 148 = .ok (.aload_n 0, 1) := by decide +kernel
theorem d_M_out_149 : decode b_M_out 149 = .ok (.getfield 28, 3) := by decide +kernel
theorem d_M_out_152 : decode b_M_out 152 = .ok (.iload_n 1, 1) := by decide +kernel
theorem d_M_out_153 : decode b_M_out 153 = .ok (.dup2, 1) := by decide +kernel
theorem d_M_out_154 : decode b_M_out 154 = .ok (.iaload, 1) := by decide +kernel
theorem d_M_out_155 : decode b_M_out 155 = .ok (.iconst 1, 1) := by decide +kernel
theorem d_M_out_156 : decode b_M_out 156 = .ok (.iadd, 1) := by decide +kernel
theorem d_M_out_157 : decode b_M_out 157 = .ok (.iastore, 1) := by decide +kernel
theorem d_M_out_158 : decode b_M_out 158 = .ok (.return_, 1) := by decide +kernel
abbrev b_M_person : ByteArray := prog_10_method_16_code
def y_M_person : MethodName := ⟨"StationRowsModel", "person", "(II)I"⟩
theorem d_M_person_0 : decode b_M_person 0 = .ok (.aload_n 0, 1) := by decide +kernel
theorem d_M_person_1 : decode b_M_person 1 = .ok (.bipush 11, 2) := by decide +kernel
theorem d_M_person_3 : decode b_M_person 3 = .ok (.aload_n 0, 1) := by decide +kernel
theorem d_M_person_4 : decode b_M_person 4 = .ok (.iload_n 1, 1) := by decide +kernel
theorem d_M_person_5 : decode b_M_person 5 = .ok (.invokevirtual 133, 3) := by decide +kernel
theorem d_M_person_8 : decode b_M_person 8 = .ok (.iload_n 2, 1) := by decide +kernel
theorem d_M_person_9 : decode b_M_person 9 = .ok (.iconst 0, 1) := by decide +kernel
theorem d_M_person_10 : decode b_M_person 10 = .ok (.bipush 120, 2) := by decide +kernel
theorem d_M_person_12 : decode b_M_person 12 = .ok (.invokestatic 108, 3) := by decide +kernel
theorem d_M_person_15 : decode b_M_person 15 = .ok (.iconst 1, 1) := by decide +kernel
theorem d_M_person_16 : decode b_M_person 16 = .ok (.aload_n 0, 1) := by decide +kernel
theorem d_M_person_17 : decode b_M_person 17 = .ok (.getfield 143, 3) := by decide +kernel
theorem d_M_person_20 : decode b_M_person 20 = .ok (.bipush 60, 2) := by decide +kernel
theorem d_M_person_22 : decode b_M_person 22 = .ok (.if_icmp .ge 7, 3) := by decide +kernel
theorem d_M_person_25 : decode b_M_person 25 = .ok (.iconst 1, 1) := by decide +kernel
theorem d_M_person_26 : decode b_M_person 26 = .ok (.goto 4, 3) := by decide +kernel
theorem d_M_person_29 : decode b_M_person 29 = .ok (.iconst 0, 1) := by decide +kernel
theorem d_M_person_30 : decode b_M_person 30 = .ok (.invokevirtual 117, 3) := by decide +kernel
theorem d_M_person_33 : decode b_M_person 33 = .ok (.ifCond .ne 5, 3) := by decide +kernel
theorem d_M_person_36 : decode b_M_person 36 = .ok (.iconst 0, 1) := by decide +kernel
theorem d_M_person_37 : decode b_M_person 37 = .ok (.ireturn, 1) := by decide +kernel
theorem d_M_person_38 : decode b_M_person 38 = .ok (.aload_n 0, 1) := by decide +kernel
theorem d_M_person_39 : decode b_M_person 39 = .ok (.getfield 37, 3) := by decide +kernel
theorem d_M_person_42 : decode b_M_person 42 = .ok (.aload_n 0, 1) := by decide +kernel
theorem d_M_person_43 : decode b_M_person 43 = .ok (.getfield 143, 3) := by decide +kernel
theorem d_M_person_46 : decode b_M_person 46 = .ok (.iload_n 1, 1) := by decide +kernel
theorem d_M_person_47 : decode b_M_person 47 = .ok (.iastore, 1) := by decide +kernel
theorem d_M_person_48 : decode b_M_person 48 = .ok (.aload_n 0, 1) := by decide +kernel
theorem d_M_person_49 : decode b_M_person 49 = .ok (.getfield 40, 3) := by decide +kernel
theorem d_M_person_52 : decode b_M_person 52 = .ok (.aload_n 0, 1) := by decide +kernel
theorem d_M_person_53 : decode b_M_person 53 = .ok (.getfield 143, 3) := by decide +kernel
theorem d_M_person_56 : decode b_M_person 56 = .ok (.iload_n 2, 1) := by decide +kernel
theorem d_M_person_57 : decode b_M_person 57 = .ok (.iastore, 1) := by decide +kernel
theorem d_M_person_58 : decode b_M_person 58 = .ok (.aload_n 0, 1) := by decide +kernel
theorem d_M_person_59 : decode b_M_person 59 = .ok (.dup, 1) := by decide +kernel
theorem d_M_person_60 : decode b_M_person 60 = .ok (.getfield 143, 3) := by decide +kernel
theorem d_M_person_63 : decode b_M_person 63 = .ok (.iconst 1, 1) := by decide +kernel
theorem d_M_person_64 : decode b_M_person 64 = .ok (.iadd, 1) := by decide +kernel
theorem d_M_person_65 : decode b_M_person 65 = .ok (.putfield 143, 3) := by decide +kernel
theorem d_M_person_68 : decode b_M_person 68 = .ok (.aload_n 0, 1) := by decide +kernel
theorem d_M_person_69 : decode b_M_person 69 = .ok (.getfield 143, 3) := by decide +kernel
theorem d_M_person_72 : decode b_M_person 72 = .ok (.iconst 1, 1) := by decide +kernel
theorem d_M_person_73 : decode b_M_person 73 = .ok (.isub, 1) := by decide +kernel
theorem d_M_person_74 : decode b_M_person 74 = .ok (.ireturn, 1) := by decide +kernel
abbrev b_M_isPerson : ByteArray := prog_10_method_17_code
def y_M_isPerson : MethodName := ⟨"StationRowsModel", "isPerson", "(I)Z"⟩
theorem d_M_isPerson_0 : decode b_M_isPerson 0 = .ok (.iload_n 1, 1) := by decide +kernel
theorem d_M_isPerson_1 : decode b_M_isPerson 1 = .ok (.iconst 0, 1) := by decide +kernel
theorem d_M_isPerson_2 : decode b_M_isPerson 2 = .ok (.aload_n 0, 1) := by decide +kernel
theorem d_M_isPerson_3 : decode b_M_isPerson 3 = .ok (.getfield 143, 3) := by decide +kernel
theorem d_M_isPerson_6 : decode b_M_isPerson 6 = .ok (.iconst 1, 1) := by decide +kernel
theorem d_M_isPerson_7 : decode b_M_isPerson 7 = .ok (.isub, 1) := by decide +kernel
theorem d_M_isPerson_8 : decode b_M_isPerson 8 = .ok (.invokestatic 108, 3) := by decide +kernel
theorem d_M_isPerson_11 : decode b_M_isPerson 11 = .ok (.ireturn, 1) := by decide +kernel
abbrev b_M_duty : ByteArray := prog_10_method_18_code
def y_M_duty : MethodName := ⟨"StationRowsModel", "duty", "(III)V"⟩
theorem d_M_duty_0 : decode b_M_duty 0 = .ok (.aload_n 0, 1) := by decide +kernel
theorem d_M_duty_1 : decode b_M_duty 1 = .ok (.iload_n 1, 1) := by decide +kernel
theorem d_M_duty_2 : decode b_M_duty 2 = .ok (.invokevirtual 146, 3) := by decide +kernel
theorem d_M_duty_5 : decode b_M_duty 5 = .ok (.istore 4, 2) := by decide +kernel
theorem d_M_duty_7 : decode b_M_duty 7 = .ok (.iconst 1, 1) := by decide +kernel
theorem d_M_duty_8 : decode b_M_duty 8 = .ok (.istore 5, 2) := by decide +kernel
theorem d_M_duty_10 : decode b_M_duty 10 = .ok (.iconst 0, 1) := by decide +kernel
theorem d_M_duty_11 : decode b_M_duty 11 = .ok (.istore 6, 2) := by decide +kernel
theorem d_M_duty_13 : decode b_M_duty 13 = .ok (.iload 4, 2) := by decide +kernel
theorem d_M_duty_15 : decode b_M_duty 15 = .ok (.ifCond .eq 64, 3) := by decide +kernel
theorem d_M_duty_18 : decode b_M_duty 18 = .ok (.iload 6, 2) := by decide +kernel
theorem d_M_duty_20 : decode b_M_duty 20 = .ok (.aload_n 0, 1) := by decide +kernel
theorem d_M_duty_21 : decode b_M_duty 21 = .ok (.getfield 43, 3) := by decide +kernel
theorem d_M_duty_24 : decode b_M_duty 24 = .ok (.iload_n 1, 1) := by decide +kernel
theorem d_M_duty_25 : decode b_M_duty 25 = .ok (.iaload, 1) := by decide +kernel
theorem d_M_duty_26 : decode b_M_duty 26 = .ok (.if_icmp .ge 53, 3) := by decide +kernel
theorem d_M_duty_29 : decode b_M_duty 29 = .ok (.iload 5, 2) := by decide +kernel
theorem d_M_duty_31 : decode b_M_duty 31 = .ok (.ifCond .eq 39, 3) := by decide +kernel
theorem d_M_duty_34 : decode b_M_duty 34 = .ok (.iload_n 2, 1) := by decide +kernel
theorem d_M_duty_35 : decode b_M_duty 35 = .ok (.iload_n 3, 1) := by decide +kernel
theorem d_M_duty_36 : decode b_M_duty 36 = .ok (.aload_n 0, 1) := by decide +kernel
theorem d_M_duty_37 : decode b_M_duty 37 = .ok (.getfield 46, 3) := by decide +kernel
theorem d_M_duty_40 : decode b_M_duty 40 = .ok (.bipush 6, 2) := by decide +kernel
theorem d_M_duty_42 : decode b_M_duty 42 = .ok (.iload_n 1, 1) := by decide +kernel
theorem d_M_duty_43 : decode b_M_duty 43 = .ok (.imul, 1) := by decide +kernel
theorem d_M_duty_44 : decode b_M_duty 44 = .ok (.iload 6, 2) := by decide +kernel
theorem d_M_duty_46 : decode b_M_duty 46 = .ok (.iadd, 1) := by decide +kernel
theorem d_M_duty_47 : decode b_M_duty 47 = .ok (.iaload, 1) := by decide +kernel
theorem d_M_duty_48 : decode b_M_duty 48 = .ok (.aload_n 0, 1) := by decide +kernel
theorem d_M_duty_49 : decode b_M_duty 49 = .ok (.getfield 49, 3) := by decide +kernel
theorem d_M_duty_52 : decode b_M_duty 52 = .ok (.bipush 6, 2) := by decide +kernel
theorem d_M_duty_54 : decode b_M_duty 54 = .ok (.iload_n 1, 1) := by decide +kernel
theorem d_M_duty_55 : decode b_M_duty 55 = .ok (.imul, 1) := by decide +kernel
theorem d_M_duty_56 : decode b_M_duty 56 = .ok (.iload 6, 2) := by decide +kernel
theorem d_M_duty_58 : decode b_M_duty 58 = .ok (.iadd, 1) := by decide +kernel
theorem d_M_duty_59 : decode b_M_duty 59 = .ok (.iaload, 1) := by decide +kernel
theorem d_M_duty_60 : decode b_M_duty 60 = .ok (.invokestatic 139, 3) := by decide +kernel
theorem d_M_duty_63 : decode b_M_duty 63 = .ok (.ifCond .ne 7, 3) := by decide +kernel
theorem d_M_duty_66 : decode b_M_duty 66 = .ok (.iconst 1, 1) := by decide +kernel
theorem d_M_duty_67 : decode b_M_duty 67 = .ok (.goto 4, 3) := by decide +kernel
theorem d_M_duty_70 : decode b_M_duty 70 = .ok (.iconst 0, 1) := by decide +kernel
theorem d_M_duty_71 : decode b_M_duty 71 = .ok (.istore 5, 2) := by decide +kernel
theorem d_M_duty_73 : decode b_M_duty 73 = .ok (.iinc 6 1, 3) := by decide +kernel
theorem d_M_duty_76 : decode b_M_duty 76 = .ok (.goto (-63), 3) := by decide +kernel
theorem d_M_duty_79 : decode b_M_duty 79 = .ok (.aload_n 0, 1) := by decide +kernel
theorem d_M_duty_80 : decode b_M_duty 80 = .ok (.bipush 15, 2) := by decide +kernel
theorem d_M_duty_82 : decode b_M_duty 82 = .ok (.iload 4, 2) := by decide +kernel
theorem d_M_duty_84 : decode b_M_duty 84 = .ok (.iload_n 2, 1) := by decide +kernel
theorem d_M_duty_85 : decode b_M_duty 85 = .ok (.iload_n 3, 1) := by decide +kernel
theorem d_M_duty_86 : decode b_M_duty 86 = .ok (.invokestatic 126, 3) := by decide +kernel
theorem d_M_duty_89 : decode b_M_duty 89 = .ok (.iload 5, 2) := by decide +kernel
theorem d_M_duty_91 : decode b_M_duty 91 = .ok (.iload 4, 2) := by decide +kernel
theorem d_M_duty_93 : decode b_M_duty 93 = .ok (.ifCond .eq 18, 3) := by decide +kernel
theorem d_M_duty_96 : decode b_M_duty 96 = .ok (.aload_n 0, 1) := by decide +kernel
theorem d_M_duty_97 : decode b_M_duty 97 = .ok (.getfield 43, 3) := by decide +kernel
theorem d_M_duty_100 : decode b_M_duty 100 = .ok (.iload_n 1, 1) := by decide +kernel
theorem d_M_duty_101 : decode b_M_duty 101 = .ok (.iaload, 1) := by decide +kernel
theorem d_M_duty_102 : decode b_M_duty 102 = .ok (.bipush 6, 2) := by decide +kernel
theorem d_M_duty_104 : decode b_M_duty 104 = .ok (.if_icmp .ge 7, 3) := by decide +kernel
theorem d_M_duty_107 : decode b_M_duty 107 = .ok (.iconst 1, 1) := by decide +kernel
theorem d_M_duty_108 : decode b_M_duty 108 = .ok (.goto 4, 3) := by decide +kernel
theorem d_M_duty_111 : decode b_M_duty 111 = .ok (.iconst 0, 1) := by decide +kernel
theorem d_M_duty_112 : decode b_M_duty 112 = .ok (.invokevirtual 117, 3) := by decide +kernel
theorem d_M_duty_115 : decode b_M_duty 115 = .ok (.ifCond .ne 4, 3) := by decide +kernel
theorem d_M_duty_118 : decode b_M_duty 118 = .ok (.return_, 1) := by decide +kernel
theorem d_M_duty_119 : decode b_M_duty 119 = .ok (.aload_n 0, 1) := by decide +kernel
theorem d_M_duty_120 : decode b_M_duty 120 = .ok (.getfield 46, 3) := by decide +kernel
theorem d_M_duty_123 : decode b_M_duty 123 = .ok (.bipush 6, 2) := by decide +kernel
theorem d_M_duty_125 : decode b_M_duty 125 = .ok (.iload_n 1, 1) := by decide +kernel
theorem d_M_duty_126 : decode b_M_duty 126 = .ok (.imul, 1) := by decide +kernel
theorem d_M_duty_127 : decode b_M_duty 127 = .ok (.aload_n 0, 1) := by decide +kernel
theorem d_M_duty_128 : decode b_M_duty 128 = .ok (.getfield 43, 3) := by decide +kernel
theorem d_M_duty_131 : decode b_M_duty 131 = .ok (.iload_n 1, 1) := by decide +kernel
theorem d_M_duty_132 : decode b_M_duty 132 = .ok (.iaload, 1) := by decide +kernel
theorem d_M_duty_133 : decode b_M_duty 133 = .ok (.iadd, 1) := by decide +kernel
theorem d_M_duty_134 : decode b_M_duty 134 = .ok (.iload_n 2, 1) := by decide +kernel
theorem d_M_duty_135 : decode b_M_duty 135 = .ok (.iastore, 1) := by decide +kernel
theorem d_M_duty_136 : decode b_M_duty 136 = .ok (.aload_n 0, 1) := by decide +kernel
theorem d_M_duty_137 : decode b_M_duty 137 = .ok (.getfield 49, 3) := by decide +kernel
theorem d_M_duty_140 : decode b_M_duty 140 = .ok (.bipush 6, 2) := by decide +kernel
theorem d_M_duty_142 : decode b_M_duty 142 = .ok (.iload_n 1, 1) := by decide +kernel
theorem d_M_duty_143 : decode b_M_duty 143 = .ok (.imul, 1) := by decide +kernel
theorem d_M_duty_144 : decode b_M_duty 144 = .ok (.aload_n 0, 1) := by decide +kernel
theorem d_M_duty_145 : decode b_M_duty 145 = .ok (.getfield 43, 3) := by decide +kernel
theorem d_M_duty_148 : decode b_M_duty 148 = .ok (.iload_n 1, 1) := by decide +kernel
theorem d_M_duty_149 : decode b_M_duty 149 = .ok (.iaload, 1) := by decide +kernel
theorem d_M_duty_150 : decode b_M_duty 150 = .ok (.iadd, 1) := by decide +kernel
theorem d_M_duty_151 : decode b_M_duty 151 = .ok (.iload_n 3, 1) := by decide +kernel
theorem d_M_duty_152 : decode b_M_duty 152 = .ok (.iastore, 1) := by decide +kernel
theorem d_M_duty_153 : decode b_M_duty 153 = .ok (.aload_n 0, 1) := by decide +kernel
theorem d_M_duty_154 : decode b_M_duty 154 = .ok (.getfield 43, 3) := by decide +kernel
theorem d_M_duty_157 : decode b_M_duty 157 = .ok (.iload_n 1, 1) := by decide +kernel
theorem d_M_duty_158 : decode b_M_duty 158 = .ok (.dup2, 1) := by decide +kernel
theorem d_M_duty_159 : decode b_M_duty 159 = .ok (.iaload, 1) := by decide +kernel
theorem d_M_duty_160 : decode b_M_duty 160 = .ok (.iconst 1, 1) := by decide +kernel
theorem d_M_duty_161 : decode b_M_duty 161 = .ok (.iadd, 1) := by decide +kernel
theorem d_M_duty_162 : decode b_M_duty 162 = .ok (.iastore, 1) := by decide +kernel
theorem d_M_duty_163 : decode b_M_duty 163 = .ok (.return_, 1) := by decide +kernel
abbrev b_M_move : ByteArray := prog_10_method_19_code
def y_M_move : MethodName := ⟨"StationRowsModel", "move", "(IIII)V"⟩
theorem d_M_move_0 : decode b_M_move 0 = .ok (.aload_n 0, 1) := by decide +kernel
theorem d_M_move_1 : decode b_M_move 1 = .ok (.iload_n 1, 1) := by decide +kernel
theorem d_M_move_2 : decode b_M_move 2 = .ok (.invokevirtual 146, 3) := by decide +kernel
theorem d_M_move_5 : decode b_M_move 5 = .ok (.ifCond .eq 15, 3) := by decide +kernel
theorem d_M_move_8 : decode b_M_move 8 = .ok (.aload_n 0, 1) := by decide +kernel
theorem d_M_move_9 : decode b_M_move 9 = .ok (.iload_n 2, 1) := by decide +kernel
theorem d_M_move_10 : decode b_M_move 10 = .ok (.invokevirtual 133, 3) := by decide +kernel
theorem d_M_move_13 : decode b_M_move 13 = .ok (.ifCond .eq 7, 3) := by decide +kernel
theorem d_M_move_16 : decode b_M_move 16 = .ok (.iconst 1, 1) := by decide +kernel
theorem d_M_move_17 : decode b_M_move 17 = .ok (.goto 4, 3) := by decide +kernel
theorem d_M_move_20 : decode b_M_move 20 = .ok (.iconst 0, 1) := by decide +kernel
theorem d_M_move_21 : decode b_M_move 21 = .ok (.istore 5, 2) := by decide +kernel
theorem d_M_move_23 : decode b_M_move 23 = .ok (.iload 5, 2) := by decide +kernel
theorem d_M_move_25 : decode b_M_move 25 = .ok (.ifCond .eq 13, 3) := by decide +kernel
theorem d_M_move_28 : decode b_M_move 28 = .ok (.aload_n 0, 1) := by decide +kernel
theorem d_M_move_29 : decode b_M_move 29 = .ok (.getfield 37, 3) := by decide +kernel
theorem d_M_move_32 : decode b_M_move 32 = .ok (.iload_n 1, 1) := by decide +kernel
theorem d_M_move_33 : decode b_M_move 33 = .ok (.iaload, 1) := by decide +kernel
theorem d_M_move_34 : decode b_M_move 34 = .ok (.iload_n 2, 1) := by decide +kernel
theorem d_M_move_35 : decode b_M_move 35 = .ok (.if_icmp .eq 7, 3) := by decide +kernel
theorem d_M_move_38 : decode b_M_move 38 = .ok (.iconst 1, 1) := by decide +kernel
theorem d_M_move_39 : decode b_M_move 39 = .ok (.goto 4, 3) := by decide +kernel
theorem d_M_move_42 : decode b_M_move 42 = .ok (.iconst 0, 1) := by decide +kernel
theorem d_M_move_43 : decode b_M_move 43 = .ok (.istore 6, 2) := by decide +kernel
theorem d_M_move_45 : decode b_M_move 45 = .ok (.iconst 0, 1) := by decide +kernel
theorem d_M_move_46 : decode b_M_move 46 = .ok (.istore 7, 2) := by decide +kernel
theorem d_M_move_48 : decode b_M_move 48 = .ok (.iload 5, 2) := by decide +kernel
theorem d_M_move_50 : decode b_M_move 50 = .ok (.ifCond .eq 63, 3) := by decide +kernel
theorem d_M_move_53 : decode b_M_move 53 = .ok (.iload 7, 2) := by decide +kernel
theorem d_M_move_55 : decode b_M_move 55 = .ok (.aload_n 0, 1) := by decide +kernel
theorem d_M_move_56 : decode b_M_move 56 = .ok (.getfield 52, 3) := by decide +kernel
theorem d_M_move_59 : decode b_M_move 59 = .ok (.iload_n 1, 1) := by decide +kernel
theorem d_M_move_60 : decode b_M_move 60 = .ok (.iaload, 1) := by decide +kernel
theorem d_M_move_61 : decode b_M_move 61 = .ok (.if_icmp .ge 52, 3) := by decide +kernel
theorem d_M_move_64 : decode b_M_move 64 = .ok (.iload 6, 2) := by decide +kernel
theorem d_M_move_66 : decode b_M_move 66 = .ok (.ifCond .eq 38, 3) := by decide +kernel
theorem d_M_move_69 : decode b_M_move 69 = .ok (.iload_n 3, 1) := by decide +kernel
theorem d_M_move_70 : decode b_M_move 70 = .ok (.iload 4, 2) := by decide +kernel
theorem d_M_move_72 : decode b_M_move 72 = .ok (.aload_n 0, 1) := by decide +kernel
theorem d_M_move_73 : decode b_M_move 73 = .ok (.getfield 58, 3) := by decide +kernel
theorem d_M_move_76 : decode b_M_move 76 = .ok (.iconst 3, 1) := by decide +kernel
theorem d_M_move_77 : decode b_M_move 77 = .ok (.iload_n 1, 1) := by decide +kernel
theorem d_M_move_78 : decode b_M_move 78 = .ok (.imul, 1) := by decide +kernel
theorem d_M_move_79 : decode b_M_move 79 = .ok (.iload 7, 2) := by decide +kernel
theorem d_M_move_81 : decode b_M_move 81 = .ok (.iadd, 1) := by decide +kernel
theorem d_M_move_82 : decode b_M_move 82 = .ok (.iaload, 1) := by decide +kernel
theorem d_M_move_83 : decode b_M_move 83 = .ok (.aload_n 0, 1) := by decide +kernel
theorem d_M_move_84 : decode b_M_move 84 = .ok (.getfield 61, 3) := by decide +kernel
theorem d_M_move_87 : decode b_M_move 87 = .ok (.iconst 3, 1) := by decide +kernel
theorem d_M_move_88 : decode b_M_move 88 = .ok (.iload_n 1, 1) := by decide +kernel
theorem d_M_move_89 : decode b_M_move 89 = .ok (.imul, 1) := by decide +kernel
theorem d_M_move_90 : decode b_M_move 90 = .ok (.iload 7, 2) := by decide +kernel
theorem d_M_move_92 : decode b_M_move 92 = .ok (.iadd, 1) := by decide +kernel
theorem d_M_move_93 : decode b_M_move 93 = .ok (.iaload, 1) := by decide +kernel
theorem d_M_move_94 : decode b_M_move 94 = .ok (.invokestatic 139, 3) := by decide +kernel
theorem d_M_move_97 : decode b_M_move 97 = .ok (.ifCond .ne 7, 3) := by decide +kernel
theorem d_M_move_100 : decode b_M_move 100 = .ok (.iconst 1, 1) := by decide +kernel
theorem d_M_move_101 : decode b_M_move 101 = .ok (.goto 4, 3) := by decide +kernel
theorem d_M_move_104 : decode b_M_move 104 = .ok (.iconst 0, 1) := by decide +kernel
theorem d_M_move_105 : decode b_M_move 105 = .ok (.istore 6, 2) := by decide +kernel
theorem d_M_move_107 : decode b_M_move 107 = .ok (.iinc 7 1, 3) := by decide +kernel
theorem d_M_move_110 : decode b_M_move 110 = .ok (.goto (-62), 3) := by decide +kernel
theorem d_M_move_113 : decode b_M_move 113 = .ok (.aload_n 0, 1) := by decide +kernel
theorem d_M_move_114 : decode b_M_move 114 = .ok (.bipush 15, 2) := by decide +kernel
theorem d_M_move_116 : decode b_M_move 116 = .ok (.iload 5, 2) := by decide +kernel
theorem d_M_move_118 : decode b_M_move 118 = .ok (.iload_n 3, 1) := by decide +kernel
theorem d_M_move_119 : decode b_M_move 119 = .ok (.iload 4, 2) := by decide +kernel
theorem d_M_move_121 : decode b_M_move 121 = .ok (.invokestatic 126, 3) := by decide +kernel
theorem d_M_move_124 : decode b_M_move 124 = .ok (.iload 6, 2) := by decide +kernel
theorem d_M_move_126 : decode b_M_move 126 = .ok (.iload 5, 2) := by decide +kernel
theorem d_M_move_128 : decode b_M_move 128 = .ok (.ifCond .eq 17, 3) := by decide +kernel
theorem d_M_move_131 : decode b_M_move 131 = .ok (.aload_n 0, 1) := by decide +kernel
theorem d_M_move_132 : decode b_M_move 132 = .ok (.getfield 52, 3) := by decide +kernel
theorem d_M_move_135 : decode b_M_move 135 = .ok (.iload_n 1, 1) := by decide +kernel
theorem d_M_move_136 : decode b_M_move 136 = .ok (.iaload, 1) := by decide +kernel
theorem d_M_move_137 : decode b_M_move 137 = .ok (.iconst 3, 1) := by decide +kernel
theorem d_M_move_138 : decode b_M_move 138 = .ok (.if_icmp .ge 7, 3) := by decide +kernel
theorem d_M_move_141 : decode b_M_move 141 = .ok (.iconst 1, 1) := by decide +kernel
theorem d_M_move_142 : decode b_M_move 142 = .ok (.goto 4, 3) := by decide +kernel
theorem d_M_move_145 : decode b_M_move 145 = .ok (.iconst 0, 1) := by decide +kernel
theorem d_M_move_146 : decode b_M_move 146 = .ok (.invokevirtual 117, 3) := by decide +kernel
theorem d_M_move_149 : decode b_M_move 149 = .ok (.ifCond .ne 4, 3) := by decide +kernel
theorem d_M_move_152 : decode b_M_move 152 = .ok (.return_, 1) := by decide +kernel
theorem d_M_move_153 : decode b_M_move 153 = .ok (.aload_n 0, 1) := by decide +kernel
theorem d_M_move_154 : decode b_M_move 154 = .ok (.getfield 55, 3) := by decide +kernel
theorem d_M_move_157 : decode b_M_move 157 = .ok (.iconst 3, 1) := by decide +kernel
theorem d_M_move_158 : decode b_M_move 158 = .ok (.iload_n 1, 1) := by decide +kernel
theorem d_M_move_159 : decode b_M_move 159 = .ok (.imul, 1) := by decide +kernel
theorem d_M_move_160 : decode b_M_move 160 = .ok (.aload_n 0, 1) := by decide +kernel
theorem d_M_move_161 : decode b_M_move 161 = .ok (.getfield 52, 3) := by decide +kernel
theorem d_M_move_164 : decode b_M_move 164 = .ok (.iload_n 1, 1) := by decide +kernel
theorem d_M_move_165 : decode b_M_move 165 = .ok (.iaload, 1) := by decide +kernel
theorem d_M_move_166 : decode b_M_move 166 = .ok (.iadd, 1) := by decide +kernel
theorem d_M_move_167 : decode b_M_move 167 = .ok (.iload_n 2, 1) := by decide +kernel
theorem d_M_move_168 : decode b_M_move 168 = .ok (.iastore, 1) := by decide +kernel
theorem d_M_move_169 : decode b_M_move 169 = .ok (.aload_n 0, 1) := by decide +kernel
theorem d_M_move_170 : decode b_M_move 170 = .ok (.getfield 58, 3) := by decide +kernel
theorem d_M_move_173 : decode b_M_move 173 = .ok (.iconst 3, 1) := by decide +kernel
theorem d_M_move_174 : decode b_M_move 174 = .ok (.iload_n 1, 1) := by decide +kernel
theorem d_M_move_175 : decode b_M_move 175 = .ok (.imul, 1) := by decide +kernel
theorem d_M_move_176 : decode b_M_move 176 = .ok (.aload_n 0, 1) := by decide +kernel
theorem d_M_move_177 : decode b_M_move 177 = .ok (.getfield 52, 3) := by decide +kernel
theorem d_M_move_180 : decode b_M_move 180 = .ok (.iload_n 1, 1) := by decide +kernel
theorem d_M_move_181 : decode b_M_move 181 = .ok (.iaload, 1) := by decide +kernel
theorem d_M_move_182 : decode b_M_move 182 = .ok (.iadd, 1) := by decide +kernel
theorem d_M_move_183 : decode b_M_move 183 = .ok (.iload_n 3, 1) := by decide +kernel
theorem d_M_move_184 : decode b_M_move 184 = .ok (.iastore, 1) := by decide +kernel
theorem d_M_move_185 : decode b_M_move 185 = .ok (.aload_n 0, 1) := by decide +kernel
theorem d_M_move_186 : decode b_M_move 186 = .ok (.getfield 61, 3) := by decide +kernel
theorem d_M_move_189 : decode b_M_move 189 = .ok (.iconst 3, 1) := by decide +kernel
theorem d_M_move_190 : decode b_M_move 190 = .ok (.iload_n 1, 1) := by decide +kernel
theorem d_M_move_191 : decode b_M_move 191 = .ok (.imul, 1) := by decide +kernel
theorem d_M_move_192 : decode b_M_move 192 = .ok (.aload_n 0, 1) := by decide +kernel
theorem d_M_move_193 : decode b_M_move 193 = .ok (.getfield 52, 3) := by decide +kernel
theorem d_M_move_196 : decode b_M_move 196 = .ok (.iload_n 1, 1) := by decide +kernel
theorem d_M_move_197 : decode b_M_move 197 = .ok (.iaload, 1) := by decide +kernel
theorem d_M_move_198 : decode b_M_move 198 = .ok (.iadd, 1) := by decide +kernel
theorem d_M_move_199 : decode b_M_move 199 = .ok (.iload 4, 2) := by decide +kernel
theorem d_M_move_201 : decode b_M_move 201 = .ok (.iastore, 1) := by decide +kernel
theorem d_M_move_202 : decode b_M_move 202 = .ok (.aload_n 0, 1) := by decide +kernel
theorem d_M_move_203 : decode b_M_move 203 = .ok (.getfield 52, 3) := by decide +kernel
theorem d_M_move_206 : decode b_M_move 206 = .ok (.iload_n 1, 1) := by decide +kernel
theorem d_M_move_207 : decode b_M_move 207 = .ok (.dup2, 1) := by decide +kernel
theorem d_M_move_208 : decode b_M_move 208 = .ok (.iaload, 1) := by decide +kernel
theorem d_M_move_209 : decode b_M_move 209 = .ok (.iconst 1, 1) := by decide +kernel
theorem d_M_move_210 : decode b_M_move 210 = .ok (.iadd, 1) := by decide +kernel
theorem d_M_move_211 : decode b_M_move 211 = .ok (.iastore, 1) := by decide +kernel
theorem d_M_move_212 : decode b_M_move 212 = .ok (.return_, 1) := by decide +kernel
abbrev b_M_limit : ByteArray := prog_10_method_20_code
def y_M_limit : MethodName := ⟨"StationRowsModel", "limit", "(I)I"⟩
theorem d_M_limit_0 : decode b_M_limit 0 = .ok (.aload_n 0, 1) := by decide +kernel
theorem d_M_limit_1 : decode b_M_limit 1 = .ok (.iconst 2, 1) := by decide +kernel
theorem d_M_limit_2 : decode b_M_limit 2 = .ok (.iconst 1, 1) := by decide +kernel
theorem d_M_limit_3 : decode b_M_limit 3 = .ok (.iload_n 1, 1) := by decide +kernel
theorem d_M_limit_4 : decode b_M_limit 4 = .ok (.iconst 0, 1) := by decide +kernel
theorem d_M_limit_5 : decode b_M_limit 5 = .ok (.bipush 120, 2) := by decide +kernel
theorem d_M_limit_7 : decode b_M_limit 7 = .ok (.invokestatic 108, 3) := by decide +kernel
theorem d_M_limit_10 : decode b_M_limit 10 = .ok (.iconst 1, 1) := by decide +kernel
theorem d_M_limit_11 : decode b_M_limit 11 = .ok (.iconst 1, 1) := by decide +kernel
theorem d_M_limit_12 : decode b_M_limit 12 = .ok (.invokevirtual 117, 3) := by decide +kernel
theorem d_M_limit_15 : decode b_M_limit 15 = .ok (.ifCond .ne 5, 3) := by decide +kernel
theorem d_M_limit_18 : decode b_M_limit 18 = .ok (.iconst 0, 1) := by decide +kernel
theorem d_M_limit_19 : decode b_M_limit 19 = .ok (.ireturn, 1) := by decide +kernel
theorem d_M_limit_20 : decode b_M_limit 20 = .ok (.aload_n 0, 1) := by decide +kernel
theorem d_M_limit_21 : decode b_M_limit 21 = .ok (.iload_n 1, 1) := by decide +kernel
theorem d_M_limit_22 : decode b_M_limit 22 = .ok (.putfield 64, 3) := by decide +kernel
theorem d_M_limit_25 : decode b_M_limit 25 = .ok (.iconst 0, 1) := by decide +kernel
theorem d_M_limit_26 : decode b_M_limit 26 = .ok (.istore_n 2, 1) := by decide +kernel
theorem d_M_limit_27 : decode b_M_limit 27 = .ok (.iconst 0, 1) := by decide +kernel
theorem d_M_limit_28 : decode b_M_limit 28 = .ok (.istore_n 3, 1) := by decide +kernel
theorem d_M_limit_29 : decode b_M_limit 29 = .ok (.iload_n 3, 1) := by decide +kernel
theorem d_M_limit_30 : decode b_M_limit 30 = .ok (.aload_n 0, 1) := by decide +kernel
theorem d_M_limit_31 : decode b_M_limit 31 = .ok (.getfield 143, 3) := by decide +kernel
theorem d_M_limit_34 : decode b_M_limit 34 = .ok (.if_icmp .ge 22, 3) := by decide +kernel
theorem d_M_limit_37 : decode b_M_limit 37 = .ok (.aload_n 0, 1) := by decide +kernel
theorem d_M_limit_38 : decode b_M_limit 38 = .ok (.getfield 40, 3) := by decide +kernel
theorem d_M_limit_41 : decode b_M_limit 41 = .ok (.iload_n 3, 1) := by decide +kernel
theorem d_M_limit_42 : decode b_M_limit 42 = .ok (.iaload, 1) := by decide +kernel
theorem d_M_limit_43 : decode b_M_limit 43 = .ok (.iload_n 1, 1) := by decide +kernel
theorem d_M_limit_44 : decode b_M_limit 44 = .ok (.if_icmp .le 6, 3) := by decide +kernel
theorem d_M_limit_47 : decode b_M_limit 47 = .ok (.iinc 2 1, 3) := by decide +kernel
theorem d_M_limit_50 : decode b_M_limit 50 = .ok (.iinc 3 1, 3) := by decide +kernel
theorem d_M_limit_53 : decode b_M_limit 53 = .ok (.goto (-24), 3) := by decide +kernel
theorem d_M_limit_56 : decode b_M_limit 56 = .ok (.iload_n 2, 1) := by decide +kernel
theorem d_M_limit_57 : decode b_M_limit 57 = .ok (.ireturn, 1) := by decide +kernel
abbrev b_M_placeOf : ByteArray := prog_10_method_21_code
def y_M_placeOf : MethodName := ⟨"StationRowsModel", "placeOf", "(II)I"⟩
theorem d_M_placeOf_0 : decode b_M_placeOf 0 = .ok (.iconst 3, 1) := by decide +kernel
theorem d_M_placeOf_1 : decode b_M_placeOf 1 = .ok (.iload_n 1, 1) := by decide +kernel
theorem d_M_placeOf_2 : decode b_M_placeOf 2 = .ok (.imul, 1) := by decide +kernel
theorem d_M_placeOf_3 : decode b_M_placeOf 3 = .ok (.istore_n 3, 1) := by decide +kernel
theorem d_M_placeOf_4 : decode b_M_placeOf 4 = .ok (.iload_n 3, 1) := by decide +kernel
theorem d_M_placeOf_5 : decode b_M_placeOf 5 = .ok (.iconst 3, 1) := by decide +kernel
theorem d_M_placeOf_6 : decode b_M_placeOf 6 = .ok (.iload_n 1, 1) := by decide +kernel
theorem d_M_placeOf_7 : decode b_M_placeOf 7 = .ok (.imul, 1) := by decide +kernel
theorem d_M_placeOf_8 : decode b_M_placeOf 8 = .ok (.aload_n 0, 1) := by decide +kernel
theorem d_M_placeOf_9 : decode b_M_placeOf 9 = .ok (.getfield 52, 3) := by decide +kernel
theorem d_M_placeOf_12 : decode b_M_placeOf 12 = .ok (.iload_n 1, 1) := by decide +kernel
theorem d_M_placeOf_13 : decode b_M_placeOf 13 = .ok (.iaload, 1) := by decide +kernel
theorem d_M_placeOf_14 : decode b_M_placeOf 14 = .ok (.iadd, 1) := by decide +kernel
theorem d_M_placeOf_15 : decode b_M_placeOf 15 = .ok (.if_icmp .ge 36, 3) := by decide +kernel
theorem d_M_placeOf_18 : decode b_M_placeOf 18 = .ok (.iload_n 2, 1) := by decide +kernel
theorem d_M_placeOf_19 : decode b_M_placeOf 19 = .ok (.aload_n 0, 1) := by decide +kernel
theorem d_M_placeOf_20 : decode b_M_placeOf 20 = .ok (.getfield 58, 3) := by decide +kernel
theorem d_M_placeOf_23 : decode b_M_placeOf 23 = .ok (.iload_n 3, 1) := by decide +kernel
theorem d_M_placeOf_24 : decode b_M_placeOf 24 = .ok (.iaload, 1) := by decide +kernel
theorem d_M_placeOf_25 : decode b_M_placeOf 25 = .ok (.if_icmp .lt 20, 3) := by decide +kernel
theorem d_M_placeOf_28 : decode b_M_placeOf 28 = .ok (.iload_n 2, 1) := by decide +kernel
theorem d_M_placeOf_29 : decode b_M_placeOf 29 = .ok (.aload_n 0, 1) := by decide +kernel
theorem d_M_placeOf_30 : decode b_M_placeOf 30 = .ok (.getfield 61, 3) := by decide +kernel
theorem d_M_placeOf_33 : decode b_M_placeOf 33 = .ok (.iload_n 3, 1) := by decide +kernel
theorem d_M_placeOf_34 : decode b_M_placeOf 34 = .ok (.iaload, 1) := by decide +kernel
theorem d_M_placeOf_35 : decode b_M_placeOf 35 = .ok (.if_icmp .ge 10, 3) := by decide +kernel
theorem d_M_placeOf_38 : decode b_M_placeOf 38 = .ok (.aload_n 0, 1) := by decide +kernel
theorem d_M_placeOf_39 : decode b_M_placeOf 39 = .ok (.getfield 55, 3) := by decide +kernel
theorem d_M_placeOf_42 : decode b_M_placeOf 42 = .ok (.iload_n 3, 1) := by decide +kernel
theorem d_M_placeOf_43 : decode b_M_placeOf 43 = .ok (.iaload, 1) := by decide +kernel
theorem d_M_placeOf_44 : decode b_M_placeOf 44 = .ok (.ireturn, 1) := by decide +kernel
theorem d_M_placeOf_45 : decode b_M_placeOf 45 = .ok (.iinc 3 1, 3) := by decide +kernel
theorem d_M_placeOf_48 : decode b_M_placeOf 48 = .ok (.goto (-44), 3) := by decide +kernel
theorem d_M_placeOf_51 : decode b_M_placeOf 51 = .ok (.aload_n 0, 1) := by decide +kernel
theorem d_M_placeOf_52 : decode b_M_placeOf 52 = .ok (.getfield 37, 3) := by decide +kernel
theorem d_M_placeOf_55 : decode b_M_placeOf 55 = .ok (.iload_n 1, 1) := by decide +kernel
theorem d_M_placeOf_56 : decode b_M_placeOf 56 = .ok (.iaload, 1) := by decide +kernel
theorem d_M_placeOf_57 : decode b_M_placeOf 57 = .ok (.ireturn, 1) := by decide +kernel
abbrev b_M_isOn : ByteArray := prog_10_method_22_code
def y_M_isOn : MethodName := ⟨"StationRowsModel", "isOn", "(III)Z"⟩
theorem d_M_isOn_0 : decode b_M_isOn 0 = .ok (.aload_n 0, 1) := by decide +kernel
theorem d_M_isOn_1 : decode b_M_isOn 1 = .ok (.iload_n 1, 1) := by decide +kernel
theorem d_M_isOn_2 : decode b_M_isOn 2 = .ok (.iload_n 3, 1) := by decide +kernel
theorem d_M_isOn_3 : decode b_M_isOn 3 = .ok (.invokevirtual 149, 3) := by decide +kernel
theorem d_M_isOn_6 : decode b_M_isOn 6 = .ok (.iload_n 2, 1) := by decide +kernel
theorem d_M_isOn_7 : decode b_M_isOn 7 = .ok (.if_icmp .ne 25, 3) := by decide +kernel
theorem d_M_isOn_10 : decode b_M_isOn 10 = .ok (.aload_n 0, 1) := by decide +kernel
theorem d_M_isOn_11 : decode b_M_isOn 11 = .ok (.iload_n 2, 1) := by decide +kernel
theorem d_M_isOn_12 : decode b_M_isOn 12 = .ok (.iload_n 3, 1) := by decide +kernel
theorem d_M_isOn_13 : decode b_M_isOn 13 = .ok (.invokevirtual 153, 3) := by decide +kernel
theorem d_M_isOn_16 : decode b_M_isOn 16 = .ok (.ifCond .eq 16, 3) := by decide +kernel
theorem d_M_isOn_19 : decode b_M_isOn 19 = .ok (.aload_n 0, 1) := by decide +kernel
theorem d_M_isOn_20 : decode b_M_isOn 20 = .ok (.getfield 40, 3) := by decide +kernel
theorem d_M_isOn_23 : decode b_M_isOn 23 = .ok (.iload_n 1, 1) := by decide +kernel
theorem d_M_isOn_24 : decode b_M_isOn 24 = .ok (.iaload, 1) := by decide +kernel
theorem d_M_isOn_25 : decode b_M_isOn 25 = .ok (.aload_n 0, 1) := by decide +kernel
theorem d_M_isOn_26 : decode b_M_isOn 26 = .ok (.getfield 64, 3) := by decide +kernel
theorem d_M_isOn_29 : decode b_M_isOn 29 = .ok (.if_icmp .le 5, 3) := by decide +kernel
theorem d_M_isOn_32 : decode b_M_isOn 32 = .ok (.iconst 0, 1) := by decide +kernel
theorem d_M_isOn_33 : decode b_M_isOn 33 = .ok (.ireturn, 1) := by decide +kernel
theorem d_M_isOn_34 : decode b_M_isOn 34 = .ok (.bipush 6, 2) := by decide +kernel
theorem d_M_isOn_36 : decode b_M_isOn 36 = .ok (.iload_n 1, 1) := by decide +kernel
theorem d_M_isOn_37 : decode b_M_isOn 37 = .ok (.imul, 1) := by decide +kernel
theorem d_M_isOn_38 : decode b_M_isOn 38 = .ok (.istore 4, 2) := by decide +kernel
theorem d_M_isOn_40 : decode b_M_isOn 40 = .ok (.iload 4, 2) := by decide +kernel
theorem d_M_isOn_42 : decode b_M_isOn 42 = .ok (.bipush 6, 2) := by decide +kernel
theorem d_M_isOn_44 : decode b_M_isOn 44 = .ok (.iload_n 1, 1) := by decide +kernel
theorem d_M_isOn_45 : decode b_M_isOn 45 = .ok (.imul, 1) := by decide +kernel
theorem d_M_isOn_46 : decode b_M_isOn 46 = .ok (.aload_n 0, 1) := by decide +kernel
theorem d_M_isOn_47 : decode b_M_isOn 47 = .ok (.getfield 43, 3) := by decide +kernel
theorem d_M_isOn_50 : decode b_M_isOn 50 = .ok (.iload_n 1, 1) := by decide +kernel
theorem d_M_isOn_51 : decode b_M_isOn 51 = .ok (.iaload, 1) := by decide +kernel
theorem d_M_isOn_52 : decode b_M_isOn 52 = .ok (.iadd, 1) := by decide +kernel
theorem d_M_isOn_53 : decode b_M_isOn 53 = .ok (.if_icmp .ge 33, 3) := by decide +kernel
theorem d_M_isOn_56 : decode b_M_isOn 56 = .ok (.iload_n 3, 1) := by decide +kernel
theorem d_M_isOn_57 : decode b_M_isOn 57 = .ok (.aload_n 0, 1) := by decide +kernel
theorem d_M_isOn_58 : decode b_M_isOn 58 = .ok (.getfield 46, 3) := by decide +kernel
theorem d_M_isOn_61 : decode b_M_isOn 61 = .ok (.iload 4, 2) := by decide +kernel
theorem d_M_isOn_63 : decode b_M_isOn 63 = .ok (.iaload, 1) := by decide +kernel
theorem d_M_isOn_64 : decode b_M_isOn 64 = .ok (.if_icmp .lt 16, 3) := by decide +kernel
theorem d_M_isOn_67 : decode b_M_isOn 67 = .ok (.iload_n 3, 1) := by decide +kernel
theorem d_M_isOn_68 : decode b_M_isOn 68 = .ok (.aload_n 0, 1) := by decide +kernel
theorem d_M_isOn_69 : decode b_M_isOn 69 = .ok (.getfield 49, 3) := by decide +kernel
theorem d_M_isOn_72 : decode b_M_isOn 72 = .ok (.iload 4, 2) := by decide +kernel
theorem d_M_isOn_74 : decode b_M_isOn 74 = .ok (.iaload, 1) := by decide +kernel
theorem d_M_isOn_75 : decode b_M_isOn 75 = .ok (.if_icmp .ge 5, 3) := by decide +kernel
theorem d_M_isOn_78 : decode b_M_isOn 78 = .ok (.iconst 1, 1) := by decide +kernel
theorem d_M_isOn_79 : decode b_M_isOn 79 = .ok (.ireturn, 1) := by decide +kernel
theorem d_M_isOn_80 : decode b_M_isOn 80 = .ok (.iinc 4 1, 3) := by decide +kernel
theorem d_M_isOn_83 : decode b_M_isOn 83 = .ok (.goto (-43), 3) := by decide +kernel
theorem d_M_isOn_86 : decode b_M_isOn 86 = .ok (.iconst 0, 1) := by decide +kernel
theorem d_M_isOn_87 : decode b_M_isOn 87 = .ok (.ireturn, 1) := by decide +kernel
abbrev b_M_count : ByteArray := prog_10_method_23_code
def y_M_count : MethodName := ⟨"StationRowsModel", "count", "(II)I"⟩
theorem d_M_count_0 : decode b_M_count 0 = .ok (.iconst 0, 1) := by decide +kernel
theorem d_M_count_1 : decode b_M_count 1 = .ok (.istore_n 3, 1) := by decide +kernel
theorem d_M_count_2 : decode b_M_count 2 = .ok (.iconst 0, 1) := by decide +kernel
theorem d_M_count_3 : decode b_M_count 3 = .ok (.istore 4, 2) := by decide +kernel
theorem d_M_count_5 : decode b_M_count 5 = .ok (.iload 4, 2) := by decide +kernel
theorem d_M_count_7 : decode b_M_count 7 = .ok (.aload_n 0, 1) := by decide +kernel
theorem d_M_count_8 : decode b_M_count 8 = .ok (.getfield 143, 3) := by decide +kernel
theorem d_M_count_11 : decode b_M_count 11 = .ok (.if_icmp .ge 23, 3) := by decide +kernel
theorem d_M_count_14 : decode b_M_count 14 = .ok (.aload_n 0, 1) := by decide +kernel
theorem d_M_count_15 : decode b_M_count 15 = .ok (.iload 4, 2) := by decide +kernel
theorem d_M_count_17 : decode b_M_count 17 = .ok (.iload_n 1, 1) := by decide +kernel
theorem d_M_count_18 : decode b_M_count 18 = .ok (.iload_n 2, 1) := by decide +kernel
theorem d_M_count_19 : decode b_M_count 19 = .ok (.invokevirtual 156, 3) := by decide +kernel
theorem d_M_count_22 : decode b_M_count 22 = .ok (.ifCond .eq 6, 3) := by decide +kernel
theorem d_M_count_25 : decode b_M_count 25 = .ok (.iinc 3 1, 3) := by decide +kernel
theorem d_M_count_28 : decode b_M_count 28 = .ok (.iinc 4 1, 3) := by decide +kernel
theorem d_M_count_31 : decode b_M_count 31 = .ok (.goto (-26), 3) := by decide +kernel
theorem d_M_count_34 : decode b_M_count 34 = .ok (.iload_n 3, 1) := by decide +kernel
theorem d_M_count_35 : decode b_M_count 35 = .ok (.ireturn, 1) := by decide +kernel
abbrev b_M_following : ByteArray := prog_10_method_24_code
def y_M_following : MethodName := ⟨"StationRowsModel", "following", "(III)I"⟩
theorem d_M_following_0 : decode b_M_following 0 = .ok (.iconst (-1), 1) := by decide +kernel
theorem d_M_following_1 : decode b_M_following 1 = .ok (.istore 4, 2) := by decide +kernel
theorem d_M_following_3 : decode b_M_following 3 = .ok (.iconst 0, 1) := by decide +kernel
theorem d_M_following_4 : decode b_M_following 4 = .ok (.istore 5, 2) := by decide +kernel
theorem d_M_following_6 : decode b_M_following 6 = .ok (.iload 5, 2) := by decide +kernel
theorem d_M_following_8 : decode b_M_following 8 = .ok (.aload_n 0, 1) := by decide +kernel
theorem d_M_following_9 : decode b_M_following 9 = .ok (.getfield 143, 3) := by decide +kernel
theorem d_M_following_12 : decode b_M_following 12 = .ok (.if_icmp .ge 103, 3) := by decide +kernel
theorem d_M_following_15 : decode b_M_following 15 = .ok (.aload_n 0, 1) := by decide +kernel
theorem d_M_following_16 : decode b_M_following 16 = .ok (.iload 5, 2) := by decide +kernel
theorem d_M_following_18 : decode b_M_following 18 = .ok (.iload_n 1, 1) := by decide +kernel
theorem d_M_following_19 : decode b_M_following 19 = .ok (.iload_n 2, 1) := by decide +kernel
theorem d_M_following_20 : decode b_M_following 20 = .ok (.invokevirtual 156, 3) := by decide +kernel
theorem d_M_following_23 : decode b_M_following 23 = .ok (.ifCond .ne 6, 3) := by decide +kernel
theorem d_M_following_26 : decode b_M_following 26 = .ok (.goto 83, 3) := by decide +kernel
theorem d_M_following_29 : decode b_M_following 29 = .ok (.iload_n 3, 1) := by decide +kernel
theorem d_M_following_30 : decode b_M_following 30 = .ok (.ifCond .lt 41, 3) := by decide +kernel
theorem d_M_following_33 : decode b_M_following 33 = .ok (.aload_n 0, 1) := by decide +kernel
theorem d_M_following_34 : decode b_M_following 34 = .ok (.getfield 40, 3) := by decide +kernel
theorem d_M_following_37 : decode b_M_following 37 = .ok (.iload 5, 2) := by decide +kernel
theorem d_M_following_39 : decode b_M_following 39 = .ok (.iaload, 1) := by decide +kernel
theorem d_M_following_40 : decode b_M_following 40 = .ok (.aload_n 0, 1) := by decide +kernel
theorem d_M_following_41 : decode b_M_following 41 = .ok (.getfield 40, 3) := by decide +kernel
theorem d_M_following_44 : decode b_M_following 44 = .ok (.iload_n 3, 1) := by decide +kernel
theorem d_M_following_45 : decode b_M_following 45 = .ok (.iaload, 1) := by decide +kernel
theorem d_M_following_46 : decode b_M_following 46 = .ok (.if_icmp .gt 25, 3) := by decide +kernel
theorem d_M_following_49 : decode b_M_following 49 = .ok (.aload_n 0, 1) := by decide +kernel
theorem d_M_following_50 : decode b_M_following 50 = .ok (.getfield 40, 3) := by decide +kernel
theorem d_M_following_53 : decode b_M_following 53 = .ok (.iload 5, 2) := by decide +kernel
theorem d_M_following_55 : decode b_M_following 55 = .ok (.iaload, 1) := by decide +kernel
theorem d_M_following_56 : decode b_M_following 56 = .ok (.aload_n 0, 1) := by decide +kernel
theorem d_M_following_57 : decode b_M_following 57 = .ok (.getfield 40, 3) := by decide +kernel
theorem d_M_following_60 : decode b_M_following 60 = .ok (.iload_n 3, 1) := by decide +kernel
theorem d_M_following_61 : decode b_M_following 61 = .ok (.iaload, 1) := by decide +kernel
theorem d_M_following_62 : decode b_M_following 62 = .ok (.if_icmp .ne 13, 3) := by decide +kernel
theorem d_M_following_65 : decode b_M_following 65 = .ok (.iload 5, 2) := by decide +kernel
theorem d_M_following_67 : decode b_M_following 67 = .ok (.iload_n 3, 1) := by decide +kernel
theorem d_M_following_68 : decode b_M_following 68 = .ok (.if_icmp .le 7, 3) := by decide +kernel
theorem d_M_following_71 : decode b_M_following 71 = .ok (.iconst 1, 1) := by decide +kernel
theorem d_M_following_72 : decode b_M_following 72 = .ok (.goto 4, 3) := by decide +kernel
theorem d_M_following_75 : decode b_M_following 75 = .ok (.iconst 0, 1) := by decide +kernel
theorem d_M_following_76 : decode b_M_following 76 = .ok (.istore 6, 2) := by decide +kernel
theorem d_M_following_78 : decode b_M_following 78 = .ok (.iload 6, 2) := by decide +kernel
theorem d_M_following_80 : decode b_M_following 80 = .ok (.ifCond .eq 29, 3) := by decide +kernel
theorem d_M_following_83 : decode b_M_following 83 = .ok (.iload 4, 2) := by decide +kernel
theorem d_M_following_85 : decode b_M_following 85 = .ok (.ifCond .lt 20, 3) := by decide +kernel
theorem d_M_following_88 : decode b_M_following 88 = .ok (.aload_n 0, 1) := by decide +kernel
theorem d_M_following_89 : decode b_M_following 89 = .ok (.getfield 40, 3) := by decide +kernel
theorem d_M_following_92 : decode b_M_following 92 = .ok (.iload 5, 2) := by decide +kernel
theorem d_M_following_94 : decode b_M_following 94 = .ok (.iaload, 1) := by decide +kernel
theorem d_M_following_95 : decode b_M_following 95 = .ok (.aload_n 0, 1) := by decide +kernel
theorem d_M_following_96 : decode b_M_following 96 = .ok (.getfield 40, 3) := by decide +kernel
theorem d_M_following_99 : decode b_M_following 99 = .ok (.iload 4, 2) := by decide +kernel
theorem d_M_following_101 : decode b_M_following 101 = .ok (.iaload, 1) := by decide +kernel
theorem d_M_following_102 : decode b_M_following 102 = .ok (.if_icmp .ge 7, 3) := by decide +kernel
theorem d_M_following_105 : decode b_M_following 105 = .ok (.iload 5, 2) := by decide +kernel
theorem d_M_following_107 : decode b_M_following 107 = .ok (.istore 4, 2) := by decide +kernel
theorem d_M_following_109 : decode b_M_following 109 = .ok (.iinc 5 1, 3) := by decide +kernel
theorem d_M_following_112 : decode b_M_following 112 = .ok (.goto (-106), 3) := by decide +kernel
theorem d_M_following_115 : decode b_M_following 115 = .ok (.iload 4, 2) := by decide +kernel
theorem d_M_following_117 : decode b_M_following 117 = .ok (.ireturn, 1) := by decide +kernel
abbrev b_M_on : ByteArray := prog_10_method_25_code
def y_M_on : MethodName := ⟨"StationRowsModel", "on", "(II)I"⟩
theorem d_M_on_0 : decode b_M_on 0 = .ok (.aload_n 0, 1) := by decide +kernel
theorem d_M_on_1 : decode b_M_on 1 = .ok (.iconst 3, 1) := by decide +kernel
theorem d_M_on_2 : decode b_M_on 2 = .ok (.aload_n 0, 1) := by decide +kernel
theorem d_M_on_3 : decode b_M_on 3 = .ok (.iload_n 1, 1) := by decide +kernel
theorem d_M_on_4 : decode b_M_on 4 = .ok (.invokevirtual 133, 3) := by decide +kernel
theorem d_M_on_7 : decode b_M_on 7 = .ok (.iload_n 2, 1) := by decide +kernel
theorem d_M_on_8 : decode b_M_on 8 = .ok (.invokestatic 113, 3) := by decide +kernel
theorem d_M_on_11 : decode b_M_on 11 = .ok (.iconst 1, 1) := by decide +kernel
theorem d_M_on_12 : decode b_M_on 12 = .ok (.iconst 1, 1) := by decide +kernel
theorem d_M_on_13 : decode b_M_on 13 = .ok (.invokevirtual 117, 3) := by decide +kernel
theorem d_M_on_16 : decode b_M_on 16 = .ok (.ifCond .ne 5, 3) := by decide +kernel
theorem d_M_on_19 : decode b_M_on 19 = .ok (.iconst 0, 1) := by decide +kernel
theorem d_M_on_20 : decode b_M_on 20 = .ok (.ireturn, 1) := by decide +kernel
theorem d_M_on_21 : decode b_M_on 21 = .ok (.aload_n 0, 1) := by decide +kernel
theorem d_M_on_22 : decode b_M_on 22 = .ok (.iload_n 1, 1) := by decide +kernel
theorem d_M_on_23 : decode b_M_on 23 = .ok (.iload_n 2, 1) := by decide +kernel
theorem d_M_on_24 : decode b_M_on 24 = .ok (.invokevirtual 159, 3) := by decide +kernel
theorem d_M_on_27 : decode b_M_on 27 = .ok (.ireturn, 1) := by decide +kernel
abbrev b_M_at : ByteArray := prog_10_method_26_code
def y_M_at : MethodName := ⟨"StationRowsModel", "at", "(III)I"⟩
theorem d_M_at_0 : decode b_M_at 0 = .ok (.aload_n 0, 1) := by decide +kernel
theorem d_M_at_1 : decode b_M_at 1 = .ok (.iconst 3, 1) := by decide +kernel
theorem d_M_at_2 : decode b_M_at 2 = .ok (.aload_n 0, 1) := by decide +kernel
theorem d_M_at_3 : decode b_M_at 3 = .ok (.iload_n 1, 1) := by decide +kernel
theorem d_M_at_4 : decode b_M_at 4 = .ok (.invokevirtual 133, 3) := by decide +kernel
theorem d_M_at_7 : decode b_M_at 7 = .ok (.iload_n 2, 1) := by decide +kernel
theorem d_M_at_8 : decode b_M_at 8 = .ok (.invokestatic 113, 3) := by decide +kernel
theorem d_M_at_11 : decode b_M_at 11 = .ok (.ifCond .eq 11, 3) := by decide +kernel
theorem d_M_at_14 : decode b_M_at 14 = .ok (.iload_n 3, 1) := by decide +kernel
theorem d_M_at_15 : decode b_M_at 15 = .ok (.ifCond .lt 7, 3) := by decide +kernel
theorem d_M_at_18 : decode b_M_at 18 = .ok (.iconst 1, 1) := by decide +kernel
theorem d_M_at_19 : decode b_M_at 19 = .ok (.goto 4, 3) := by decide +kernel
theorem d_M_at_22 : decode b_M_at 22 = .ok (.iconst 0, 1) := by decide +kernel
theorem d_M_at_23 : decode b_M_at 23 = .ok (.iconst 1, 1) := by decide +kernel
theorem d_M_at_24 : decode b_M_at 24 = .ok (.iconst 1, 1) := by decide +kernel
theorem d_M_at_25 : decode b_M_at 25 = .ok (.invokevirtual 117, 3) := by decide +kernel
theorem d_M_at_28 : decode b_M_at 28 = .ok (.ifCond .ne 5, 3) := by decide +kernel
theorem d_M_at_31 : decode b_M_at 31 = .ok (.iconst 0, 1) := by decide +kernel
theorem d_M_at_32 : decode b_M_at 32 = .ok (.ireturn, 1) := by decide +kernel
theorem d_M_at_33 : decode b_M_at 33 = .ok (.aload_n 0, 1) := by decide +kernel
theorem d_M_at_34 : decode b_M_at 34 = .ok (.iload_n 1, 1) := by decide +kernel
theorem d_M_at_35 : decode b_M_at 35 = .ok (.iload_n 2, 1) := by decide +kernel
theorem d_M_at_36 : decode b_M_at 36 = .ok (.iconst (-1), 1) := by decide +kernel
theorem d_M_at_37 : decode b_M_at 37 = .ok (.invokevirtual 162, 3) := by decide +kernel
theorem d_M_at_40 : decode b_M_at 40 = .ok (.istore 4, 2) := by decide +kernel
theorem d_M_at_42 : decode b_M_at 42 = .ok (.iconst 0, 1) := by decide +kernel
theorem d_M_at_43 : decode b_M_at 43 = .ok (.istore 5, 2) := by decide +kernel
theorem d_M_at_45 : decode b_M_at 45 = .ok (.iload 5, 2) := by decide +kernel
theorem d_M_at_47 : decode b_M_at 47 = .ok (.iload_n 3, 1) := by decide +kernel
theorem d_M_at_48 : decode b_M_at 48 = .ok (.if_icmp .ge 24, 3) := by decide +kernel
theorem d_M_at_51 : decode b_M_at 51 = .ok (.iload 4, 2) := by decide +kernel
theorem d_M_at_53 : decode b_M_at 53 = .ok (.ifCond .lt 19, 3) := by decide +kernel
theorem d_M_at_56 : decode b_M_at 56 = .ok (.aload_n 0, 1) := by decide +kernel
theorem d_M_at_57 : decode b_M_at 57 = .ok (.iload_n 1, 1) := by decide +kernel
theorem d_M_at_58 : decode b_M_at 58 = .ok (.iload_n 2, 1) := by decide +kernel
theorem d_M_at_59 : decode b_M_at 59 = .ok (.iload 4, 2) := by decide +kernel
theorem d_M_at_61 : decode b_M_at 61 = .ok (.invokevirtual 162, 3) := by decide +kernel
theorem d_M_at_64 : decode b_M_at 64 = .ok (.istore 4, 2) := by decide +kernel
theorem d_M_at_66 : decode b_M_at 66 = .ok (.iinc 5 1, 3) := by decide +kernel
theorem d_M_at_69 : decode b_M_at 69 = .ok (.goto (-24), 3) := by decide +kernel
theorem d_M_at_72 : decode b_M_at 72 = .ok (.iload 4, 2) := by decide +kernel
theorem d_M_at_74 : decode b_M_at 74 = .ok (.ireturn, 1) := by decide +kernel
abbrev b_M_isOut : ByteArray := prog_10_method_27_code
def y_M_isOut : MethodName := ⟨"StationRowsModel", "isOut", "(II)Z"⟩
theorem d_M_isOut_0 : decode b_M_isOut 0 = .ok (.iconst 4, 1) := by decide +kernel
theorem d_M_isOut_1 : decode b_M_isOut 1 = .ok (.iload_n 1, 1) := by decide +kernel
theorem d_M_isOut_2 : decode b_M_isOut 2 = .ok (.imul, 1) := by decide +kernel
theorem d_M_isOut_3 : decode b_M_isOut 3 = .ok (.istore_n 3, 1) := by decide +kernel
theorem d_M_isOut_4 : decode b_M_isOut 4 = .ok (.iload_n 3, 1) := by decide +kernel
theorem d_M_isOut_5 : decode b_M_isOut 5 = .ok (.iconst 4, 1) := by decide +kernel
theorem d_M_isOut_6 : decode b_M_isOut 6 = .ok (.iload_n 1, 1) := by decide +kernel
theorem d_M_isOut_7 : decode b_M_isOut 7 = .ok (.imul, 1) := by decide +kernel
theorem d_M_isOut_8 : decode b_M_isOut 8 = .ok (.aload_n 0, 1) := by decide +kernel
theorem d_M_isOut_9 : decode b_M_isOut 9 = .ok (.getfield 28, 3) := by decide +kernel
theorem d_M_isOut_12 : decode b_M_isOut 12 = .ok (.iload_n 1, 1) := by decide +kernel
theorem d_M_isOut_13 : decode b_M_isOut 13 = .ok (.iaload, 1) := by decide +kernel
theorem d_M_isOut_14 : decode b_M_isOut 14 = .ok (.iadd, 1) := by decide +kernel
theorem d_M_isOut_15 : decode b_M_isOut 15 = .ok (.if_icmp .ge 31, 3) := by decide +kernel
theorem d_M_isOut_18 : decode b_M_isOut 18 = .ok (.iload_n 2, 1) := by decide +kernel
theorem d_M_isOut_19 : decode b_M_isOut 19 = .ok (.aload_n 0, 1) := by decide +kernel
theorem d_M_isOut_20 : decode b_M_isOut 20 = .ok (.getfield 31, 3) := by decide +kernel
theorem d_M_isOut_23 : decode b_M_isOut 23 = .ok (.iload_n 3, 1) := by decide +kernel
theorem d_M_isOut_24 : decode b_M_isOut 24 = .ok (.iaload, 1) := by decide +kernel
theorem d_M_isOut_25 : decode b_M_isOut 25 = .ok (.if_icmp .lt 15, 3) := by decide +kernel
theorem d_M_isOut_28 : decode b_M_isOut 28 = .ok (.iload_n 2, 1) := by decide +kernel
theorem d_M_isOut_29 : decode b_M_isOut 29 = .ok (.aload_n 0, 1) := by decide +kernel
theorem d_M_isOut_30 : decode b_M_isOut 30 = .ok (.getfield 34, 3) := by decide +kernel
theorem d_M_isOut_33 : decode b_M_isOut 33 = .ok (.iload_n 3, 1) := by decide +kernel
theorem d_M_isOut_34 : decode b_M_isOut 34 = .ok (.iaload, 1) := by decide +kernel
theorem d_M_isOut_35 : decode b_M_isOut 35 = .ok (.if_icmp .ge 5, 3) := by decide +kernel
theorem d_M_isOut_38 : decode b_M_isOut 38 = .ok (.iconst 1, 1) := by decide +kernel
theorem d_M_isOut_39 : decode b_M_isOut 39 = .ok (.ireturn, 1) := by decide +kernel
theorem d_M_isOut_40 : decode b_M_isOut 40 = .ok (.iinc 3 1, 3) := by decide +kernel
theorem d_M_isOut_43 : decode b_M_isOut 43 = .ok (.goto (-39), 3) := by decide +kernel
theorem d_M_isOut_46 : decode b_M_isOut 46 = .ok (.iconst 0, 1) := by decide +kernel
theorem d_M_isOut_47 : decode b_M_isOut 47 = .ok (.ireturn, 1) := by decide +kernel
abbrev b_M_spares : ByteArray := prog_10_method_28_code
def y_M_spares : MethodName := ⟨"StationRowsModel", "spares", "(I)V"⟩
theorem d_M_spares_0 : decode b_M_spares 0 = .ok (.iconst 0, 1) := by decide +kernel
theorem d_M_spares_1 : decode b_M_spares 1 = .ok (.istore_n 2, 1) := by decide +kernel
theorem d_M_spares_2 : decode b_M_spares 2 = .ok (.iload_n 2, 1) := by decide +kernel
theorem d_M_spares_3 : decode b_M_spares 3 = .ok (.aload_n 0, 1) := by decide +kernel
theorem d_M_spares_4 : decode b_M_spares 4 = .ok (.getfield 130, 3) := by decide +kernel
theorem d_M_spares_7 : decode b_M_spares 7 = .ok (.if_icmp .ge 23, 3) := by decide +kernel
theorem d_M_spares_10 : decode b_M_spares 10 = .ok (.aload_n 0, 1) := by decide +kernel
theorem d_M_spares_11 : decode b_M_spares 11 = .ok (.getfield 84, 3) := by decide +kernel
theorem d_M_spares_14 : decode b_M_spares 14 = .ok (.iload_n 2, 1) := by decide +kernel
theorem d_M_spares_15 : decode b_M_spares 15 = .ok (.iconst (-1), 1) := by decide +kernel
theorem d_M_spares_16 : decode b_M_spares 16 = .ok (.iastore, 1) := by decide +kernel
theorem d_M_spares_17 : decode b_M_spares 17 = .ok (.aload_n 0, 1) := by decide +kernel
theorem d_M_spares_18 : decode b_M_spares 18 = .ok (.getfield 87, 3) := by decide +kernel
theorem d_M_spares_21 : decode b_M_spares 21 = .ok (.iload_n 2, 1) := by decide +kernel
theorem d_M_spares_22 : decode b_M_spares 22 = .ok (.iconst (-1), 1) := by decide +kernel
theorem d_M_spares_23 : decode b_M_spares 23 = .ok (.iastore, 1) := by decide +kernel
theorem d_M_spares_24 : decode b_M_spares 24 = .ok (.iinc 2 1, 3) := by decide +kernel
theorem d_M_spares_27 : decode b_M_spares 27 = .ok (.goto (-25), 3) := by decide +kernel
theorem d_M_spares_30 : decode b_M_spares 30 = .ok (.iconst 0, 1) := by decide +kernel
theorem d_M_spares_31 : decode b_M_spares 31 = .ok (.istore_n 2, 1) := by decide +kernel
theorem d_M_spares_32 : decode b_M_spares 32 = .ok (.iload_n 2, 1) := by decide +kernel
theorem d_M_spares_33 : decode b_M_spares 33 = .ok (.aload_n 0, 1) := by decide +kernel
theorem d_M_spares_34 : decode b_M_spares 34 = .ok (.getfield 130, 3) := by decide +kernel
theorem d_M_spares_37 : decode b_M_spares 37 = .ok (.if_icmp .ge 128, 3) := by decide +kernel
theorem d_M_spares_40 : decode b_M_spares 40 = .ok (.aload_n 0, 1) := by decide +kernel
theorem d_M_spares_41 : decode b_M_spares 41 = .ok (.getfield 25, 3) := by decide +kernel
theorem d_M_spares_44 : decode b_M_spares 44 = .ok (.iload_n 2, 1) := by decide +kernel
theorem d_M_spares_45 : decode b_M_spares 45 = .ok (.iaload, 1) := by decide +kernel
theorem d_M_spares_46 : decode b_M_spares 46 = .ok (.ifCond .eq 113, 3) := by decide +kernel
theorem d_M_spares_49 : decode b_M_spares 49 = .ok (.aload_n 0, 1) := by decide +kernel
theorem d_M_spares_50 : decode b_M_spares 50 = .ok (.iload_n 2, 1) := by decide +kernel
theorem d_M_spares_51 : decode b_M_spares 51 = .ok (.iload_n 1, 1) := by decide +kernel
theorem d_M_spares_52 : decode b_M_spares 52 = .ok (.invokevirtual 165, 3) := by decide +kernel
theorem d_M_spares_55 : decode b_M_spares 55 = .ok (.ifCond .ne 6, 3) := by decide +kernel
theorem d_M_spares_58 : decode b_M_spares 58 = .ok (.goto 101, 3) := by decide +kernel
theorem d_M_spares_61 : decode b_M_spares 61 = .ok (.iconst 0, 1) := by decide +kernel
theorem d_M_spares_62 : decode b_M_spares 62 = .ok (.istore_n 3, 1) := by decide +kernel
theorem d_M_spares_63 : decode b_M_spares 63 = .ok (.iload_n 3, 1) := by decide +kernel
theorem d_M_spares_64 : decode b_M_spares 64 = .ok (.aload_n 0, 1) := by decide +kernel
theorem d_M_spares_65 : decode b_M_spares 65 = .ok (.getfield 130, 3) := by decide +kernel
theorem d_M_spares_68 : decode b_M_spares 68 = .ok (.if_icmp .ge 91, 3) := by decide +kernel
theorem d_M_spares_71 : decode b_M_spares 71 = .ok (.aload_n 0, 1) := by decide +kernel
theorem d_M_spares_72 : decode b_M_spares 72 = .ok (.getfield 87, 3) := by decide +kernel
theorem d_M_spares_75 : decode b_M_spares 75 = .ok (.iload_n 2, 1) := by decide +kernel
theorem d_M_spares_76 : decode b_M_spares 76 = .ok (.iaload, 1) := by decide +kernel
theorem d_M_spares_77 : decode b_M_spares 77 = .ok (.ifCond .ge 82, 3) := by decide +kernel
theorem d_M_spares_80 : decode b_M_spares 80 = .ok (.aload_n 0, 1) := by decide +kernel
theorem d_M_spares_81 : decode b_M_spares 81 = .ok (.getfield 25, 3) := by decide +kernel
theorem d_M_spares_84 : decode b_M_spares 84 = .ok (.iload_n 3, 1) := by decide +kernel
theorem d_M_spares_85 : decode b_M_spares 85 = .ok (.iaload, 1) := by decide +kernel
theorem d_M_spares_86 : decode b_M_spares 86 = .ok (.ifCond .gt 67, 3) := by decide +kernel
theorem d_M_spares_89 : decode b_M_spares 89 = .ok (.aload_n 0, 1) := by decide +kernel
theorem d_M_spares_90 : decode b_M_spares 90 = .ok (.getfield 22, 3) := by decide +kernel
theorem d_M_spares_93 : decode b_M_spares 93 = .ok (.iload_n 3, 1) := by decide +kernel
theorem d_M_spares_94 : decode b_M_spares 94 = .ok (.iaload, 1) := by decide +kernel
theorem d_M_spares_95 : decode b_M_spares 95 = .ok (.aload_n 0, 1) := by decide +kernel
theorem d_M_spares_96 : decode b_M_spares 96 = .ok (.getfield 22, 3) := by decide +kernel
theorem d_M_spares_99 : decode b_M_spares 99 = .ok (.iload_n 2, 1) := by decide +kernel
theorem d_M_spares_100 : decode b_M_spares 100 = .ok (.iaload, 1) := by decide +kernel
theorem d_M_spares_101 : decode b_M_spares 101 = .ok (.if_icmp .ne 52, 3) := by decide +kernel
theorem d_M_spares_104 : decode b_M_spares 104 = .ok (.aload_n 0, 1) := by decide +kernel
theorem d_M_spares_105 : decode b_M_spares 105 = .ok (.iload_n 3, 1) := by decide +kernel
theorem d_M_spares_106 : decode b_M_spares 106 = .ok (.iload_n 1, 1) := by decide +kernel
theorem d_M_spares_107 : decode b_M_spares 107 = .ok (.invokevirtual 165, 3) := by decide +kernel
theorem d_M_spares_110 : decode b_M_spares 110 = .ok (.ifCond .ne 43, 3) := by decide +kernel
theorem d_M_spares_113 : decode b_M_spares 113 = .ok (.aload_n 0, 1) := by decide +kernel
theorem d_M_spares_114 : decode b_M_spares 114 = .ok (.aload_n 0, 1) := by decide +kernel
theorem d_M_spares_115 : decode b_M_spares 115 = .ok (.getfield 19, 3) := by decide +kernel
theorem d_M_spares_118 : decode b_M_spares 118 = .ok (.iload_n 3, 1) := by decide +kernel
theorem d_M_spares_119 : decode b_M_spares 119 = .ok (.iaload, 1) := by decide +kernel
theorem d_M_spares_120 : decode b_M_spares 120 = .ok (.iload_n 1, 1) := by decide +kernel
theorem d_M_spares_121 : decode b_M_spares 121 = .ok (.invokevirtual 153, 3) := by decide +kernel
theorem d_M_spares_124 : decode b_M_spares 124 = .ok (.ifCond .eq 29, 3) := by decide +kernel
theorem d_M_spares_127 : decode b_M_spares 127 = .ok (.aload_n 0, 1) := by decide +kernel
theorem d_M_spares_128 : decode b_M_spares 128 = .ok (.getfield 84, 3) := by decide +kernel
theorem d_M_spares_131 : decode b_M_spares 131 = .ok (.iload_n 3, 1) := by decide +kernel
theorem d_M_spares_132 : decode b_M_spares 132 = .ok (.iaload, 1) := by decide +kernel
theorem d_M_spares_133 : decode b_M_spares 133 = .ok (.ifCond .lt 6, 3) := by decide +kernel
theorem d_M_spares_136 : decode b_M_spares 136 = .ok (.goto 17, 3) := by decide +kernel
theorem d_M_spares_139 : decode b_M_spares 139 = .ok (.aload_n 0, 1) := by decide +kernel
theorem d_M_spares_140 : decode b_M_spares 140 = .ok (.getfield 84, 3) := by decide +kernel
theorem d_M_spares_143 : decode b_M_spares 143 = .ok (.iload_n 3, 1) := by decide +kernel
theorem d_M_spares_144 : decode b_M_spares 144 = .ok (.iload_n 2, 1) := by decide +kernel
theorem d_M_spares_145 : decode b_M_spares 145 = .ok (.iastore, 1) := by decide +kernel
theorem d_M_spares_146 : decode b_M_spares 146 = .ok (.aload_n 0, 1) := by decide +kernel
theorem d_M_spares_147 : decode b_M_spares 147 = .ok (.getfield 87, 3) := by decide +kernel
theorem d_M_spares_150 : decode b_M_spares 150 = .ok (.iload_n 2, 1) := by decide +kernel
theorem d_M_spares_151 : decode b_M_spares 151 = .ok (.iload_n 3, 1) := by decide +kernel
theorem d_M_spares_152 : decode b_M_spares 152 = .ok (.iastore, 1) := by decide +kernel
theorem d_M_spares_153 : decode b_M_spares 153 = .ok (.iinc 3 1, 3) := by decide +kernel
theorem d_M_spares_156 : decode b_M_spares 156 = .ok (.goto (-93), 3) := by decide +kernel
theorem d_M_spares_159 : decode b_M_spares 159 = .ok (.iinc 2 1, 3) := by decide +kernel
theorem d_M_spares_162 : decode b_M_spares 162 = .ok (.goto (-130), 3) := by decide +kernel
theorem d_M_spares_165 : decode b_M_spares 165 = .ok (.return_, 1) := by decide +kernel
abbrev b_M_free : ByteArray := prog_10_method_29_code
def y_M_free : MethodName := ⟨"StationRowsModel", "free", "(II)I"⟩
theorem d_M_free_0 : decode b_M_free 0 = .ok (.aload_n 0, 1) := by decide +kernel
theorem d_M_free_1 : decode b_M_free 1 = .ok (.iload_n 1, 1) := by decide +kernel
theorem d_M_free_2 : decode b_M_free 2 = .ok (.iload_n 2, 1) := by decide +kernel
theorem d_M_free_3 : decode b_M_free 3 = .ok (.iconst (-1), 1) := by decide +kernel
theorem d_M_free_4 : decode b_M_free 4 = .ok (.invokevirtual 162, 3) := by decide +kernel
theorem d_M_free_7 : decode b_M_free 7 = .ok (.istore_n 3, 1) := by decide +kernel
theorem d_M_free_8 : decode b_M_free 8 = .ok (.iload_n 3, 1) := by decide +kernel
theorem d_M_free_9 : decode b_M_free 9 = .ok (.ifCond .lt 23, 3) := by decide +kernel
theorem d_M_free_12 : decode b_M_free 12 = .ok (.aload_n 0, 1) := by decide +kernel
theorem d_M_free_13 : decode b_M_free 13 = .ok (.getfield 90, 3) := by decide +kernel
theorem d_M_free_16 : decode b_M_free 16 = .ok (.iload_n 3, 1) := by decide +kernel
theorem d_M_free_17 : decode b_M_free 17 = .ok (.baload, 1) := by decide +kernel
theorem d_M_free_18 : decode b_M_free 18 = .ok (.ifCond .eq 14, 3) := by decide +kernel
theorem d_M_free_21 : decode b_M_free 21 = .ok (.aload_n 0, 1) := by decide +kernel
theorem d_M_free_22 : decode b_M_free 22 = .ok (.iload_n 1, 1) := by decide +kernel
theorem d_M_free_23 : decode b_M_free 23 = .ok (.iload_n 2, 1) := by decide +kernel
theorem d_M_free_24 : decode b_M_free 24 = .ok (.iload_n 3, 1) := by decide +kernel
theorem d_M_free_25 : decode b_M_free 25 = .ok (.invokevirtual 162, 3) := by decide +kernel
theorem d_M_free_28 : decode b_M_free 28 = .ok (.istore_n 3, 1) := by decide +kernel
theorem d_M_free_29 : decode b_M_free 29 = .ok (.goto (-21), 3) := by decide +kernel
theorem d_M_free_32 : decode b_M_free 32 = .ok (.iload_n 3, 1) := by decide +kernel
theorem d_M_free_33 : decode b_M_free 33 = .ok (.ireturn, 1) := by decide +kernel
abbrev b_M_man : ByteArray := prog_10_method_30_code
def y_M_man : MethodName := ⟨"StationRowsModel", "man", "(II)V"⟩
theorem d_M_man_0 : decode b_M_man 0 = .ok (.aload_n 0, 1) := by decide +kernel
theorem d_M_man_1 : decode b_M_man 1 = .ok (.getfield 25, 3) := by decide +kernel
theorem d_M_man_4 : decode b_M_man 4 = .ok (.iload_n 1, 1) := by decide +kernel
theorem d_M_man_5 : decode b_M_man 5 = .ok (.iaload, 1) := by decide +kernel
theorem d_M_man_6 : decode b_M_man 6 = .ok (.ifCond .le 12, 3) := by decide +kernel
theorem d_M_man_9 : decode b_M_man 9 = .ok (.aload_n 0, 1) := by decide +kernel
theorem d_M_man_10 : decode b_M_man 10 = .ok (.getfield 25, 3) := by decide +kernel
theorem d_M_man_13 : decode b_M_man 13 = .ok (.iload_n 1, 1) := by decide +kernel
theorem d_M_man_14 : decode b_M_man 14 = .ok (.iaload, 1) := by decide +kernel
theorem d_M_man_15 : decode b_M_man 15 = .ok (.goto 14, 3) := by decide +kernel
theorem d_M_man_18 : decode b_M_man 18 = .ok (.aload_n 0, 1) := by decide +kernel
theorem d_M_man_19 : decode b_M_man 19 = .ok (.getfield 25, 3) := by decide +kernel
theorem d_M_man_22 : decode b_M_man 22 = .ok (.aload_n 0, 1) := by decide +kernel
theorem d_M_man_23 : decode b_M_man 23 = .ok (.getfield 84, 3) := by decide +kernel
theorem d_M_man_26 : decode b_M_man 26 = .ok (.iload_n 1, 1) := by decide +kernel
theorem d_M_man_27 : decode b_M_man 27 = .ok (.iaload, 1) := by decide +kernel
theorem d_M_man_28 : decode b_M_man 28 = .ok (.iaload, 1) := by decide +kernel
theorem d_M_man_29 : decode b_M_man 29 = .ok (.istore_n 3, 1) := by decide +kernel
theorem d_M_man_30 : decode b_M_man 30 = .ok (.iconst 0, 1) := by decide +kernel
theorem d_M_man_31 : decode b_M_man 31 = .ok (.istore 4, 2) := by decide +kernel
theorem d_M_man_33 : decode b_M_man 33 = .ok (.iconst 0, 1) := by decide +kernel
theorem d_M_man_34 : decode b_M_man 34 = .ok (.istore 5, 2) := by decide +kernel
theorem d_M_man_36 : decode b_M_man 36 = .ok (.iload 5, 2) := by decide +kernel
theorem d_M_man_38 : decode b_M_man 38 = .ok (.aload_n 0, 1) := by decide +kernel
theorem d_M_man_39 : decode b_M_man 39 = .ok (.getfield 143, 3) := by decide +kernel
theorem d_M_man_42 : decode b_M_man 42 = .ok (.if_icmp .ge 38, 3) := by decide +kernel
theorem d_M_man_45 : decode b_M_man 45 = .ok (.aload_n 0, 1) := by decide +kernel
theorem d_M_man_46 : decode b_M_man 46 = .ok (.getfield 90, 3) := by decide +kernel
theorem d_M_man_49 : decode b_M_man 49 = .ok (.iload 5, 2) := by decide +kernel
theorem d_M_man_51 : decode b_M_man 51 = .ok (.baload, 1) := by decide +kernel
theorem d_M_man_52 : decode b_M_man 52 = .ok (.ifCond .ne 22, 3) := by decide +kernel
theorem d_M_man_55 : decode b_M_man 55 = .ok (.aload_n 0, 1) := by decide +kernel
theorem d_M_man_56 : decode b_M_man 56 = .ok (.iload 5, 2) := by decide +kernel
theorem d_M_man_58 : decode b_M_man 58 = .ok (.aload_n 0, 1) := by decide +kernel
theorem d_M_man_59 : decode b_M_man 59 = .ok (.getfield 19, 3) := by decide +kernel
theorem d_M_man_62 : decode b_M_man 62 = .ok (.iload_n 1, 1) := by decide +kernel
theorem d_M_man_63 : decode b_M_man 63 = .ok (.iaload, 1) := by decide +kernel
theorem d_M_man_64 : decode b_M_man 64 = .ok (.iload_n 2, 1) := by decide +kernel
theorem d_M_man_65 : decode b_M_man 65 = .ok (.invokevirtual 156, 3) := by decide +kernel
theorem d_M_man_68 : decode b_M_man 68 = .ok (.ifCond .eq 6, 3) := by decide +kernel
theorem d_M_man_71 : decode b_M_man 71 = .ok (.iinc 4 1, 3) := by decide +kernel
theorem d_M_man_74 : decode b_M_man 74 = .ok (.iinc 5 1, 3) := by decide +kernel
theorem d_M_man_77 : decode b_M_man 77 = .ok (.goto (-41), 3) := by decide +kernel
theorem d_M_man_80 : decode b_M_man 80 = .ok (.iload 4, 2) := by decide +kernel
theorem d_M_man_82 : decode b_M_man 82 = .ok (.iload_n 3, 1) := by decide +kernel
theorem d_M_man_83 : decode b_M_man 83 = .ok (.if_icmp .ge 4, 3) := by decide +kernel
theorem d_M_man_86 : decode b_M_man 86 = .ok (.return_, 1) := by decide +kernel
theorem d_M_man_87 : decode b_M_man 87 = .ok (.aload_n 0, 1) := by decide +kernel
theorem d_M_man_88 : decode b_M_man 88 = .ok (.getfield 96, 3) := by decide +kernel
theorem d_M_man_91 : decode b_M_man 91 = .ok (.iload_n 1, 1) := by decide +kernel
theorem d_M_man_92 : decode b_M_man 92 = .ok (.bipush 60, 2) := by decide +kernel
theorem d_M_man_94 : decode b_M_man 94 = .ok (.iastore, 1) := by decide +kernel
theorem d_M_man_95 : decode b_M_man 95 = .ok (.iconst 0, 1) := by decide +kernel
theorem d_M_man_96 : decode b_M_man 96 = .ok (.istore 5, 2) := by decide +kernel
theorem d_M_man_98 : decode b_M_man 98 = .ok (.iload 5, 2) := by decide +kernel
theorem d_M_man_100 : decode b_M_man 100 = .ok (.iload_n 3, 1) := by decide +kernel
theorem d_M_man_101 : decode b_M_man 101 = .ok (.if_icmp .ge 78, 3) := by decide +kernel
theorem d_M_man_104 : decode b_M_man 104 = .ok (.aload_n 0, 1) := by decide +kernel
theorem d_M_man_105 : decode b_M_man 105 = .ok (.aload_n 0, 1) := by decide +kernel
theorem d_M_man_106 : decode b_M_man 106 = .ok (.getfield 19, 3) := by decide +kernel
theorem d_M_man_109 : decode b_M_man 109 = .ok (.iload_n 1, 1) := by decide +kernel
theorem d_M_man_110 : decode b_M_man 110 = .ok (.iaload, 1) := by decide +kernel
theorem d_M_man_111 : decode b_M_man 111 = .ok (.iload_n 2, 1) := by decide +kernel
theorem d_M_man_112 : decode b_M_man 112 = .ok (.invokevirtual 168, 3) := by decide +kernel
theorem d_M_man_115 : decode b_M_man 115 = .ok (.istore 6, 2) := by decide +kernel
theorem d_M_man_117 : decode b_M_man 117 = .ok (.aload_n 0, 1) := by decide +kernel
theorem d_M_man_118 : decode b_M_man 118 = .ok (.getfield 90, 3) := by decide +kernel
theorem d_M_man_121 : decode b_M_man 121 = .ok (.iload 6, 2) := by decide +kernel
theorem d_M_man_123 : decode b_M_man 123 = .ok (.iconst 1, 1) := by decide +kernel
theorem d_M_man_124 : decode b_M_man 124 = .ok (.bastore, 1) := by decide +kernel
theorem d_M_man_125 : decode b_M_man 125 = .ok (.iload 6, 2) := by decide +kernel
theorem d_M_man_127 : decode b_M_man 127 = .ok (.aload_n 0, 1) := by decide +kernel
theorem d_M_man_128 : decode b_M_man 128 = .ok (.getfield 96, 3) := by decide +kernel
theorem d_M_man_131 : decode b_M_man 131 = .ok (.iload_n 1, 1) := by decide +kernel
theorem d_M_man_132 : decode b_M_man 132 = .ok (.iaload, 1) := by decide +kernel
theorem d_M_man_133 : decode b_M_man 133 = .ok (.if_icmp .ge 11, 3) := by decide +kernel
theorem d_M_man_136 : decode b_M_man 136 = .ok (.aload_n 0, 1) := by decide +kernel
theorem d_M_man_137 : decode b_M_man 137 = .ok (.getfield 96, 3) := by decide +kernel
theorem d_M_man_140 : decode b_M_man 140 = .ok (.iload_n 1, 1) := by decide +kernel
theorem d_M_man_141 : decode b_M_man 141 = .ok (.iload 6, 2) := by decide +kernel
theorem d_M_man_143 : decode b_M_man 143 = .ok (.iastore, 1) := by decide +kernel
theorem d_M_man_144 : decode b_M_man 144 = .ok (.aload_n 0, 1) := by decide +kernel
theorem d_M_man_145 : decode b_M_man 145 = .ok (.getfield 40, 3) := by decide +kernel
theorem d_M_man_148 : decode b_M_man 148 = .ok (.iload 6, 2) := by decide +kernel
theorem d_M_man_150 : decode b_M_man 150 = .ok (.iaload, 1) := by decide +kernel
theorem d_M_man_151 : decode b_M_man 151 = .ok (.aload_n 0, 1) := by decide +kernel
theorem d_M_man_152 : decode b_M_man 152 = .ok (.getfield 99, 3) := by decide +kernel
theorem d_M_man_155 : decode b_M_man 155 = .ok (.iload_n 1, 1) := by decide +kernel
theorem d_M_man_156 : decode b_M_man 156 = .ok (.iaload, 1) := by decide +kernel
theorem d_M_man_157 : decode b_M_man 157 = .ok (.if_icmp .le 16, 3) := by decide +kernel
theorem d_M_man_160 : decode b_M_man 160 = .ok (.aload_n 0, 1) := by decide +kernel
theorem d_M_man_161 : decode b_M_man 161 = .ok (.getfield 99, 3) := by decide +kernel
theorem d_M_man_164 : decode b_M_man 164 = .ok (.iload_n 1, 1) := by decide +kernel
theorem d_M_man_165 : decode b_M_man 165 = .ok (.aload_n 0, 1) := by decide +kernel
theorem d_M_man_166 : decode b_M_man 166 = .ok (.getfield 40, 3) := by decide +kernel
theorem d_M_man_169 : decode b_M_man 169 = .ok (.iload 6, 2) := by decide +kernel
theorem d_M_man_171 : decode b_M_man 171 = .ok (.iaload, 1) := by decide +kernel
theorem d_M_man_172 : decode b_M_man 172 = .ok (.iastore, 1) := by decide +kernel
theorem d_M_man_173 : decode b_M_man 173 = .ok (.iinc 5 1, 3) := by decide +kernel
theorem d_M_man_176 : decode b_M_man 176 = .ok (.goto (-78), 3) := by decide +kernel
theorem d_M_man_179 : decode b_M_man 179 = .ok (.aload_n 0, 1) := by decide +kernel
theorem d_M_man_180 : decode b_M_man 180 = .ok (.getfield 93, 3) := by decide +kernel
theorem d_M_man_183 : decode b_M_man 183 = .ok (.iload_n 1, 1) := by decide +kernel
theorem d_M_man_184 : decode b_M_man 184 = .ok (.iload_n 3, 1) := by decide +kernel
theorem d_M_man_185 : decode b_M_man 185 = .ok (.iastore, 1) := by decide +kernel
theorem d_M_man_186 : decode b_M_man 186 = .ok (.return_, 1) := by decide +kernel
abbrev b_M_look : ByteArray := prog_10_method_31_code
def y_M_look : MethodName := ⟨"StationRowsModel", "look", "(I)V"⟩
theorem d_M_look_0 : decode b_M_look 0 = .ok (.aload_n 0, 1) := by decide +kernel
theorem d_M_look_1 : decode b_M_look 1 = .ok (.iload_n 1, 1) := by decide +kernel
theorem d_M_look_2 : decode b_M_look 2 = .ok (.invokevirtual 171, 3) := by decide +kernel
theorem d_M_look_5 : decode b_M_look 5 = .ok (.iconst 0, 1) := by decide +kernel
theorem d_M_look_6 : decode b_M_look 6 = .ok (.istore_n 2, 1) := by decide +kernel
theorem d_M_look_7 : decode b_M_look 7 = .ok (.iload_n 2, 1) := by decide +kernel
theorem d_M_look_8 : decode b_M_look 8 = .ok (.aload_n 0, 1) := by decide +kernel
theorem d_M_look_9 : decode b_M_look 9 = .ok (.getfield 143, 3) := by decide +kernel
theorem d_M_look_12 : decode b_M_look 12 = .ok (.if_icmp .ge 16, 3) := by decide +kernel
theorem d_M_look_15 : decode b_M_look 15 = .ok (.aload_n 0, 1) := by decide +kernel
theorem d_M_look_16 : decode b_M_look 16 = .ok (.getfield 90, 3) := by decide +kernel
theorem d_M_look_19 : decode b_M_look 19 = .ok (.iload_n 2, 1) := by decide +kernel
theorem d_M_look_20 : decode b_M_look 20 = .ok (.iconst 0, 1) := by decide +kernel
theorem d_M_look_21 : decode b_M_look 21 = .ok (.bastore, 1) := by decide +kernel
theorem d_M_look_22 : decode b_M_look 22 = .ok (.iinc 2 1, 3) := by decide +kernel
theorem d_M_look_25 : decode b_M_look 25 = .ok (.goto (-18), 3) := by decide +kernel
theorem d_M_look_28 : decode b_M_look 28 = .ok (.iconst 0, 1) := by decide +kernel
theorem d_M_look_29 : decode b_M_look 29 = .ok (.istore_n 2, 1) := by decide +kernel
theorem d_M_look_30 : decode b_M_look 30 = .ok (.iload_n 2, 1) := by decide +kernel
theorem d_M_look_31 : decode b_M_look 31 = .ok (.aload_n 0, 1) := by decide +kernel
theorem d_M_look_32 : decode b_M_look 32 = .ok (.getfield 130, 3) := by decide +kernel
theorem d_M_look_35 : decode b_M_look 35 = .ok (.if_icmp .ge 77, 3) := by decide +kernel
theorem d_M_look_38 : decode b_M_look 38 = .ok (.aload_n 0, 1) := by decide +kernel
theorem d_M_look_39 : decode b_M_look 39 = .ok (.getfield 93, 3) := by decide +kernel
theorem d_M_look_42 : decode b_M_look 42 = .ok (.iload_n 2, 1) := by decide +kernel
theorem d_M_look_43 : decode b_M_look 43 = .ok (.iconst 0, 1) := by decide +kernel
theorem d_M_look_44 : decode b_M_look 44 = .ok (.iastore, 1) := by decide +kernel
theorem d_M_look_45 : decode b_M_look 45 = .ok (.aload_n 0, 1) := by decide +kernel
theorem d_M_look_46 : decode b_M_look 46 = .ok (.getfield 96, 3) := by decide +kernel
theorem d_M_look_49 : decode b_M_look 49 = .ok (.iload_n 2, 1) := by decide +kernel
theorem d_M_look_50 : decode b_M_look 50 = .ok (.iconst (-1), 1) := by decide +kernel
theorem d_M_look_51 : decode b_M_look 51 = .ok (.iastore, 1) := by decide +kernel
theorem d_M_look_52 : decode b_M_look 52 = .ok (.aload_n 0, 1) := by decide +kernel
theorem d_M_look_53 : decode b_M_look 53 = .ok (.getfield 99, 3) := by decide +kernel
theorem d_M_look_56 : decode b_M_look 56 = .ok (.iload_n 2, 1) := by decide +kernel
theorem d_M_look_57 : decode b_M_look 57 = .ok (.iconst 0, 1) := by decide +kernel
theorem d_M_look_58 : decode b_M_look 58 = .ok (.iastore, 1) := by decide +kernel
theorem d_M_look_59 : decode b_M_look 59 = .ok (.aload_n 0, 1) := by decide +kernel
theorem d_M_look_60 : decode b_M_look 60 = .ok (.aload_n 0, 1) := by decide +kernel
theorem d_M_look_61 : decode b_M_look 61 = .ok (.getfield 19, 3) := by decide +kernel
theorem d_M_look_64 : decode b_M_look 64 = .ok (.iload_n 2, 1) := by decide +kernel
theorem d_M_look_65 : decode b_M_look 65 = .ok (.iaload, 1) := by decide +kernel
theorem d_M_look_66 : decode b_M_look 66 = .ok (.iload_n 1, 1) := by decide +kernel
theorem d_M_look_67 : decode b_M_look 67 = .ok (.invokevirtual 153, 3) := by decide +kernel
theorem d_M_look_70 : decode b_M_look 70 = .ok (.ifCond .eq 36, 3) := by decide +kernel
theorem d_M_look_73 : decode b_M_look 73 = .ok (.aload_n 0, 1) := by decide +kernel
theorem d_M_look_74 : decode b_M_look 74 = .ok (.iload_n 2, 1) := by decide +kernel
theorem d_M_look_75 : decode b_M_look 75 = .ok (.iload_n 1, 1) := by decide +kernel
theorem d_M_look_76 : decode b_M_look 76 = .ok (.invokevirtual 165, 3) := by decide +kernel
theorem d_M_look_79 : decode b_M_look 79 = .ok (.ifCond .ne 27, 3) := by decide +kernel
theorem d_M_look_82 : decode b_M_look 82 = .ok (.aload_n 0, 1) := by decide +kernel
theorem d_M_look_83 : decode b_M_look 83 = .ok (.getfield 25, 3) := by decide +kernel
theorem d_M_look_86 : decode b_M_look 86 = .ok (.iload_n 2, 1) := by decide +kernel
theorem d_M_look_87 : decode b_M_look 87 = .ok (.iaload, 1) := by decide +kernel
theorem d_M_look_88 : decode b_M_look 88 = .ok (.ifCond .gt 12, 3) := by decide +kernel
theorem d_M_look_91 : decode b_M_look 91 = .ok (.aload_n 0, 1) := by decide +kernel
theorem d_M_look_92 : decode b_M_look 92 = .ok (.getfield 84, 3) := by decide +kernel
theorem d_M_look_95 : decode b_M_look 95 = .ok (.iload_n 2, 1) := by decide +kernel
theorem d_M_look_96 : decode b_M_look 96 = .ok (.iaload, 1) := by decide +kernel
theorem d_M_look_97 : decode b_M_look 97 = .ok (.ifCond .lt 9, 3) := by decide +kernel
theorem d_M_look_100 : decode b_M_look 100 = .ok (.aload_n 0, 1) := by decide +kernel
theorem d_M_look_101 : decode b_M_look 101 = .ok (.iload_n 2, 1) := by decide +kernel
theorem d_M_look_102 : decode b_M_look 102 = .ok (.iload_n 1, 1) := by decide +kernel
theorem d_M_look_103 : decode b_M_look 103 = .ok (.invokevirtual 175, 3) := by decide +kernel
theorem d_M_look_106 : decode b_M_look 106 = .ok (.iinc 2 1, 3) := by decide +kernel
theorem d_M_look_109 : decode b_M_look 109 = .ok (.goto (-79), 3) := by decide +kernel
theorem d_M_look_112 : decode b_M_look 112 = .ok (.return_, 1) := by decide +kernel
abbrev b_M_vehicleAt : ByteArray := prog_10_method_32_code
def y_M_vehicleAt : MethodName := ⟨"StationRowsModel", "vehicleAt", "(III)I"⟩
theorem d_M_vehicleAt_0 : decode b_M_vehicleAt 0 = .ok (.aload_n 0, 1) := by decide +kernel
theorem d_M_vehicleAt_1 : decode b_M_vehicleAt 1 = .ok (.iconst 3, 1) := by decide +kernel
theorem d_M_vehicleAt_2 : decode b_M_vehicleAt 2 = .ok (.aload_n 0, 1) := by decide +kernel
theorem d_M_vehicleAt_3 : decode b_M_vehicleAt 3 = .ok (.iload_n 1, 1) := by decide +kernel
theorem d_M_vehicleAt_4 : decode b_M_vehicleAt 4 = .ok (.invokevirtual 136, 3) := by decide +kernel
theorem d_M_vehicleAt_7 : decode b_M_vehicleAt 7 = .ok (.ifCond .eq 17, 3) := by decide +kernel
theorem d_M_vehicleAt_10 : decode b_M_vehicleAt 10 = .ok (.iload_n 3, 1) := by decide +kernel
theorem d_M_vehicleAt_11 : decode b_M_vehicleAt 11 = .ok (.iconst 0, 1) := by decide +kernel
theorem d_M_vehicleAt_12 : decode b_M_vehicleAt 12 = .ok (.bipush 6, 2) := by decide +kernel
theorem d_M_vehicleAt_14 : decode b_M_vehicleAt 14 = .ok (.invokestatic 108, 3) := by decide +kernel
theorem d_M_vehicleAt_17 : decode b_M_vehicleAt 17 = .ok (.ifCond .eq 7, 3) := by decide +kernel
theorem d_M_vehicleAt_20 : decode b_M_vehicleAt 20 = .ok (.iconst 1, 1) := by decide +kernel
theorem d_M_vehicleAt_21 : decode b_M_vehicleAt 21 = .ok (.goto 4, 3) := by decide +kernel
theorem d_M_vehicleAt_24 : decode b_M_vehicleAt 24 = .ok (.iconst 0, 1) := by decide +kernel
theorem d_M_vehicleAt_25 : decode b_M_vehicleAt 25 = .ok (.iload_n 2, 1) := by decide +kernel
theorem d_M_vehicleAt_26 : decode b_M_vehicleAt 26 = .ok (.invokestatic 113, 3) := by decide +kernel
theorem d_M_vehicleAt_29 : decode b_M_vehicleAt 29 = .ok (.iconst 1, 1) := by decide +kernel
theorem d_M_vehicleAt_30 : decode b_M_vehicleAt 30 = .ok (.iconst 1, 1) := by decide +kernel
theorem d_M_vehicleAt_31 : decode b_M_vehicleAt 31 = .ok (.invokevirtual 117, 3) := by decide +kernel
theorem d_M_vehicleAt_34 : decode b_M_vehicleAt 34 = .ok (.ifCond .ne 5, 3) := by decide +kernel
theorem d_M_vehicleAt_37 : decode b_M_vehicleAt 37 = .ok (.iconst 0, 1) := by decide +kernel
theorem d_M_vehicleAt_38 : decode b_M_vehicleAt 38 = .ok (.ireturn, 1) := by decide +kernel
theorem d_M_vehicleAt_39 : decode b_M_vehicleAt 39 = .ok (.aload_n 0, 1) := by decide +kernel
theorem d_M_vehicleAt_40 : decode b_M_vehicleAt 40 = .ok (.iload_n 2, 1) := by decide +kernel
theorem d_M_vehicleAt_41 : decode b_M_vehicleAt 41 = .ok (.invokevirtual 179, 3) := by decide +kernel
theorem d_M_vehicleAt_44 : decode b_M_vehicleAt 44 = .ok (.iload_n 3, 1) := by decide +kernel
theorem d_M_vehicleAt_45 : decode b_M_vehicleAt 45 = .ok (.ifCond .ne 31, 3) := by decide +kernel
theorem d_M_vehicleAt_48 : decode b_M_vehicleAt 48 = .ok (.aload_n 0, 1) := by decide +kernel
theorem d_M_vehicleAt_49 : decode b_M_vehicleAt 49 = .ok (.getfield 93, 3) := by decide +kernel
theorem d_M_vehicleAt_52 : decode b_M_vehicleAt 52 = .ok (.iload_n 1, 1) := by decide +kernel
theorem d_M_vehicleAt_53 : decode b_M_vehicleAt 53 = .ok (.iaload, 1) := by decide +kernel
theorem d_M_vehicleAt_54 : decode b_M_vehicleAt 54 = .ok (.ifCond .ne 7, 3) := by decide +kernel
theorem d_M_vehicleAt_57 : decode b_M_vehicleAt 57 = .ok (.iconst 0, 1) := by decide +kernel
theorem d_M_vehicleAt_58 : decode b_M_vehicleAt 58 = .ok (.goto 17, 3) := by decide +kernel
theorem d_M_vehicleAt_61 : decode b_M_vehicleAt 61 = .ok (.aload_n 0, 1) := by decide +kernel
theorem d_M_vehicleAt_62 : decode b_M_vehicleAt 62 = .ok (.getfield 99, 3) := by decide +kernel
theorem d_M_vehicleAt_65 : decode b_M_vehicleAt 65 = .ok (.iload_n 1, 1) := by decide +kernel
theorem d_M_vehicleAt_66 : decode b_M_vehicleAt 66 = .ok (.iaload, 1) := by decide +kernel
theorem d_M_vehicleAt_67 : decode b_M_vehicleAt 67 = .ok (.ifCond .le 7, 3) := by decide +kernel
theorem d_M_vehicleAt_70 : decode b_M_vehicleAt 70 = .ok (.iconst 1, 1) := by decide +kernel
theorem d_M_vehicleAt_71 : decode b_M_vehicleAt 71 = .ok (.goto 4, 3) := by decide +kernel
theorem d_M_vehicleAt_74 : decode b_M_vehicleAt 74 = .ok (.iconst 2, 1) := by decide +kernel
theorem d_M_vehicleAt_75 : decode b_M_vehicleAt 75 = .ok (.ireturn, 1) := by decide +kernel
theorem d_M_vehicleAt_76 : decode b_M_vehicleAt 76 = .ok (.iload_n 3, 1) := by decide +kernel
theorem d_M_vehicleAt_77 : decode b_M_vehicleAt 77 = .ok (.iconst 1, 1) := by decide +kernel
theorem d_M_vehicleAt_78 : decode b_M_vehicleAt 78 = .ok (.if_icmp .ne 12, 3) := by decide +kernel
theorem d_M_vehicleAt_81 : decode b_M_vehicleAt 81 = .ok (.aload_n 0, 1) := by decide +kernel
theorem d_M_vehicleAt_82 : decode b_M_vehicleAt 82 = .ok (.getfield 99, 3) := by decide +kernel
theorem d_M_vehicleAt_85 : decode b_M_vehicleAt 85 = .ok (.iload_n 1, 1) := by decide +kernel
theorem d_M_vehicleAt_86 : decode b_M_vehicleAt 86 = .ok (.iaload, 1) := by decide +kernel
theorem d_M_vehicleAt_87 : decode b_M_vehicleAt 87 = .ok (.goto 73, 3) := by decide +kernel
theorem d_M_vehicleAt_90 : decode b_M_vehicleAt 90 = .ok (.iload_n 3, 1) := by decide +kernel
theorem d_M_vehicleAt_91 : decode b_M_vehicleAt 91 = .ok (.iconst 2, 1) := by decide +kernel
theorem d_M_vehicleAt_92 : decode b_M_vehicleAt 92 = .ok (.if_icmp .ne 12, 3) := by decide +kernel
theorem d_M_vehicleAt_95 : decode b_M_vehicleAt 95 = .ok (.aload_n 0, 1) := by decide +kernel
theorem d_M_vehicleAt_96 : decode b_M_vehicleAt 96 = .ok (.getfield 93, 3) := by decide +kernel
theorem d_M_vehicleAt_99 : decode b_M_vehicleAt 99 = .ok (.iload_n 1, 1) := by decide +kernel
theorem d_M_vehicleAt_100 : decode b_M_vehicleAt 100 = .ok (.iaload, 1) := by decide +kernel
theorem d_M_vehicleAt_101 : decode b_M_vehicleAt 101 = .ok (.goto 59, 3) := by decide +kernel
theorem d_M_vehicleAt_104 : decode b_M_vehicleAt 104 = .ok (.iload_n 3, 1) := by decide +kernel
theorem d_M_vehicleAt_105 : decode b_M_vehicleAt 105 = .ok (.iconst 3, 1) := by decide +kernel
theorem d_M_vehicleAt_106 : decode b_M_vehicleAt 106 = .ok (.if_icmp .ne 12, 3) := by decide +kernel
theorem d_M_vehicleAt_109 : decode b_M_vehicleAt 109 = .ok (.aload_n 0, 1) := by decide +kernel
theorem d_M_vehicleAt_110 : decode b_M_vehicleAt 110 = .ok (.getfield 96, 3) := by decide +kernel
theorem d_M_vehicleAt_113 : decode b_M_vehicleAt 113 = .ok (.iload_n 1, 1) := by decide +kernel
theorem d_M_vehicleAt_114 : decode b_M_vehicleAt 114 = .ok (.iaload, 1) := by decide +kernel
theorem d_M_vehicleAt_115 : decode b_M_vehicleAt 115 = .ok (.goto 45, 3) := by decide +kernel
theorem d_M_vehicleAt_118 : decode b_M_vehicleAt 118 = .ok (.iload_n 3, 1) := by decide +kernel
theorem d_M_vehicleAt_119 : decode b_M_vehicleAt 119 = .ok (.iconst 4, 1) := by decide +kernel
theorem d_M_vehicleAt_120 : decode b_M_vehicleAt 120 = .ok (.if_icmp .ne 12, 3) := by decide +kernel
theorem d_M_vehicleAt_123 : decode b_M_vehicleAt 123 = .ok (.aload_n 0, 1) := by decide +kernel
theorem d_M_vehicleAt_124 : decode b_M_vehicleAt 124 = .ok (.getfield 84, 3) := by decide +kernel
theorem d_M_vehicleAt_127 : decode b_M_vehicleAt 127 = .ok (.iload_n 1, 1) := by decide +kernel
theorem d_M_vehicleAt_128 : decode b_M_vehicleAt 128 = .ok (.iaload, 1) := by decide +kernel
theorem d_M_vehicleAt_129 : decode b_M_vehicleAt 129 = .ok (.goto 31, 3) := by decide +kernel
theorem d_M_vehicleAt_132 : decode b_M_vehicleAt 132 = .ok (.iload_n 3, 1) := by decide +kernel
theorem d_M_vehicleAt_133 : decode b_M_vehicleAt 133 = .ok (.iconst 5, 1) := by decide +kernel
theorem d_M_vehicleAt_134 : decode b_M_vehicleAt 134 = .ok (.if_icmp .ne 12, 3) := by decide +kernel
theorem d_M_vehicleAt_137 : decode b_M_vehicleAt 137 = .ok (.aload_n 0, 1) := by decide +kernel
theorem d_M_vehicleAt_138 : decode b_M_vehicleAt 138 = .ok (.getfield 87, 3) := by decide +kernel
theorem d_M_vehicleAt_141 : decode b_M_vehicleAt 141 = .ok (.iload_n 1, 1) := by decide +kernel
theorem d_M_vehicleAt_142 : decode b_M_vehicleAt 142 = .ok (.iaload, 1) := by decide +kernel
theorem d_M_vehicleAt_143 : decode b_M_vehicleAt 143 = .ok (.goto 17, 3) := by decide +kernel
theorem d_M_vehicleAt_146 : decode b_M_vehicleAt 146 = .ok (.aload_n 0, 1) := by decide +kernel
theorem d_M_vehicleAt_147 : decode b_M_vehicleAt 147 = .ok (.iload_n 1, 1) := by decide +kernel
theorem d_M_vehicleAt_148 : decode b_M_vehicleAt 148 = .ok (.iload_n 2, 1) := by decide +kernel
theorem d_M_vehicleAt_149 : decode b_M_vehicleAt 149 = .ok (.invokevirtual 165, 3) := by decide +kernel
theorem d_M_vehicleAt_152 : decode b_M_vehicleAt 152 = .ok (.ifCond .eq 7, 3) := by decide +kernel
theorem d_M_vehicleAt_155 : decode b_M_vehicleAt 155 = .ok (.iconst 1, 1) := by decide +kernel
theorem d_M_vehicleAt_156 : decode b_M_vehicleAt 156 = .ok (.goto 4, 3) := by decide +kernel
theorem d_M_vehicleAt_159 : decode b_M_vehicleAt 159 = .ok (.iconst 0, 1) := by decide +kernel
theorem d_M_vehicleAt_160 : decode b_M_vehicleAt 160 = .ok (.ireturn, 1) := by decide +kernel
abbrev b_M_need : ByteArray := prog_10_method_33_code
def y_M_need : MethodName := ⟨"StationRowsModel", "need", "(III)V"⟩
theorem d_M_need_0 : decode b_M_need 0 = .ok (.aload_n 0, 1) := by decide +kernel
theorem d_M_need_1 : decode b_M_need 1 = .ok (.iconst 3, 1) := by decide +kernel
theorem d_M_need_2 : decode b_M_need 2 = .ok (.aload_n 0, 1) := by decide +kernel
theorem d_M_need_3 : decode b_M_need 3 = .ok (.iload_n 1, 1) := by decide +kernel
theorem d_M_need_4 : decode b_M_need 4 = .ok (.invokevirtual 133, 3) := by decide +kernel
theorem d_M_need_7 : decode b_M_need 7 = .ok (.iload_n 2, 1) := by decide +kernel
theorem d_M_need_8 : decode b_M_need 8 = .ok (.iconst 0, 1) := by decide +kernel
theorem d_M_need_9 : decode b_M_need 9 = .ok (.bipush 23, 2) := by decide +kernel
theorem d_M_need_11 : decode b_M_need 11 = .ok (.invokestatic 108, 3) := by decide +kernel
theorem d_M_need_14 : decode b_M_need 14 = .ok (.ifCond .eq 17, 3) := by decide +kernel
theorem d_M_need_17 : decode b_M_need 17 = .ok (.iload_n 3, 1) := by decide +kernel
theorem d_M_need_18 : decode b_M_need 18 = .ok (.iconst 0, 1) := by decide +kernel
theorem d_M_need_19 : decode b_M_need 19 = .ok (.bipush 60, 2) := by decide +kernel
theorem d_M_need_21 : decode b_M_need 21 = .ok (.invokestatic 108, 3) := by decide +kernel
theorem d_M_need_24 : decode b_M_need 24 = .ok (.ifCond .eq 7, 3) := by decide +kernel
theorem d_M_need_27 : decode b_M_need 27 = .ok (.iconst 1, 1) := by decide +kernel
theorem d_M_need_28 : decode b_M_need 28 = .ok (.goto 4, 3) := by decide +kernel
theorem d_M_need_31 : decode b_M_need 31 = .ok (.iconst 0, 1) := by decide +kernel
theorem d_M_need_32 : decode b_M_need 32 = .ok (.iconst 1, 1) := by decide +kernel
theorem d_M_need_33 : decode b_M_need 33 = .ok (.iconst 1, 1) := by decide +kernel
theorem d_M_need_34 : decode b_M_need 34 = .ok (.invokevirtual 117, 3) := by decide +kernel
theorem d_M_need_37 : decode b_M_need 37 = .ok (.ifCond .ne 4, 3) := by decide +kernel
theorem d_M_need_40 : decode b_M_need 40 = .ok (.return_, 1) := by decide +kernel
theorem d_M_need_41 : decode b_M_need 41 = .ok (.iload_n 3, 1) := by decide +kernel
theorem d_M_need_42 : decode b_M_need 42 = .ok (.aload_n 0, 1) := by decide +kernel
theorem d_M_need_43 : decode b_M_need 43 = .ok (.getfield 68, 3) := by decide +kernel
theorem d_M_need_46 : decode b_M_need 46 = .ok (.bipush 24, 2) := by decide +kernel
theorem d_M_need_48 : decode b_M_need 48 = .ok (.iload_n 1, 1) := by decide +kernel
theorem d_M_need_49 : decode b_M_need 49 = .ok (.imul, 1) := by decide +kernel
theorem d_M_need_50 : decode b_M_need 50 = .ok (.iload_n 2, 1) := by decide +kernel
theorem d_M_need_51 : decode b_M_need 51 = .ok (.iadd, 1) := by decide +kernel
theorem d_M_need_52 : decode b_M_need 52 = .ok (.iaload, 1) := by decide +kernel
theorem d_M_need_53 : decode b_M_need 53 = .ok (.if_icmp .le 15, 3) := by decide +kernel
theorem d_M_need_56 : decode b_M_need 56 = .ok (.aload_n 0, 1) := by decide +kernel
theorem d_M_need_57 : decode b_M_need 57 = .ok (.getfield 68, 3) := by decide +kernel
theorem d_M_need_60 : decode b_M_need 60 = .ok (.bipush 24, 2) := by decide +kernel
theorem d_M_need_62 : decode b_M_need 62 = .ok (.iload_n 1, 1) := by decide +kernel
theorem d_M_need_63 : decode b_M_need 63 = .ok (.imul, 1) := by decide +kernel
theorem d_M_need_64 : decode b_M_need 64 = .ok (.iload_n 2, 1) := by decide +kernel
theorem d_M_need_65 : decode b_M_need 65 = .ok (.iadd, 1) := by decide +kernel
theorem d_M_need_66 : decode b_M_need 66 = .ok (.iload_n 3, 1) := by decide +kernel
theorem d_M_need_67 : decode b_M_need 67 = .ok (.iastore, 1) := by decide +kernel
theorem d_M_need_68 : decode b_M_need 68 = .ok (.return_, 1) := by decide +kernel
abbrev b_M_lacks : ByteArray := prog_10_method_34_code
def y_M_lacks : MethodName := ⟨"StationRowsModel", "lacks", "(II)I"⟩
theorem d_M_lacks_0 : decode b_M_lacks 0 = .ok (.aload_n 0, 1) := by decide +kernel
theorem d_M_lacks_1 : decode b_M_lacks 1 = .ok (.iconst 3, 1) := by decide +kernel
theorem d_M_lacks_2 : decode b_M_lacks 2 = .ok (.aload_n 0, 1) := by decide +kernel
theorem d_M_lacks_3 : decode b_M_lacks 3 = .ok (.iload_n 1, 1) := by decide +kernel
theorem d_M_lacks_4 : decode b_M_lacks 4 = .ok (.invokevirtual 133, 3) := by decide +kernel
theorem d_M_lacks_7 : decode b_M_lacks 7 = .ok (.iload_n 2, 1) := by decide +kernel
theorem d_M_lacks_8 : decode b_M_lacks 8 = .ok (.invokestatic 113, 3) := by decide +kernel
theorem d_M_lacks_11 : decode b_M_lacks 11 = .ok (.iconst 1, 1) := by decide +kernel
theorem d_M_lacks_12 : decode b_M_lacks 12 = .ok (.iconst 1, 1) := by decide +kernel
theorem d_M_lacks_13 : decode b_M_lacks 13 = .ok (.invokevirtual 117, 3) := by decide +kernel
theorem d_M_lacks_16 : decode b_M_lacks 16 = .ok (.ifCond .ne 5, 3) := by decide +kernel
theorem d_M_lacks_19 : decode b_M_lacks 19 = .ok (.iconst 0, 1) := by decide +kernel
theorem d_M_lacks_20 : decode b_M_lacks 20 = .ok (.ireturn, 1) := by decide +kernel
theorem d_M_lacks_21 : decode b_M_lacks 21 = .ok (.aload_n 0, 1) := by decide +kernel
theorem d_M_lacks_22 : decode b_M_lacks 22 = .ok (.getfield 68, 3) := by decide +kernel
theorem d_M_lacks_25 : decode b_M_lacks 25 = .ok (.bipush 24, 2) := by decide +kernel
theorem d_M_lacks_27 : decode b_M_lacks 27 = .ok (.iload_n 1, 1) := by decide +kernel
theorem d_M_lacks_28 : decode b_M_lacks 28 = .ok (.imul, 1) := by decide +kernel
theorem d_M_lacks_29 : decode b_M_lacks 29 = .ok (.iload_n 2, 1) := by decide +kernel
theorem d_M_lacks_30 : decode b_M_lacks 30 = .ok (.bipush 60, 2) := by decide +kernel
theorem d_M_lacks_32 : decode b_M_lacks 32 = .ok (.idiv, 1) := by decide +kernel
theorem d_M_lacks_33 : decode b_M_lacks 33 = .ok (.bipush 24, 2) := by decide +kernel
theorem d_M_lacks_35 : decode b_M_lacks 35 = .ok (.irem, 1) := by decide +kernel
theorem d_M_lacks_36 : decode b_M_lacks 36 = .ok (.iadd, 1) := by decide +kernel
theorem d_M_lacks_37 : decode b_M_lacks 37 = .ok (.iaload, 1) := by decide +kernel
theorem d_M_lacks_38 : decode b_M_lacks 38 = .ok (.aload_n 0, 1) := by decide +kernel
theorem d_M_lacks_39 : decode b_M_lacks 39 = .ok (.iload_n 1, 1) := by decide +kernel
theorem d_M_lacks_40 : decode b_M_lacks 40 = .ok (.iload_n 2, 1) := by decide +kernel
theorem d_M_lacks_41 : decode b_M_lacks 41 = .ok (.invokevirtual 159, 3) := by decide +kernel
theorem d_M_lacks_44 : decode b_M_lacks 44 = .ok (.isub, 1) := by decide +kernel
theorem d_M_lacks_45 : decode b_M_lacks 45 = .ok (.istore_n 3, 1) := by decide +kernel
theorem d_M_lacks_46 : decode b_M_lacks 46 = .ok (.iload_n 3, 1) := by decide +kernel
theorem d_M_lacks_47 : decode b_M_lacks 47 = .ok (.ifCond .le 16, 3) := by decide +kernel
theorem d_M_lacks_50 : decode b_M_lacks 50 = .ok (.aload_n 0, 1) := by decide +kernel
theorem d_M_lacks_51 : decode b_M_lacks 51 = .ok (.iload_n 1, 1) := by decide +kernel
theorem d_M_lacks_52 : decode b_M_lacks 52 = .ok (.iload_n 2, 1) := by decide +kernel
theorem d_M_lacks_53 : decode b_M_lacks 53 = .ok (.invokevirtual 153, 3) := by decide +kernel
theorem d_M_lacks_56 : decode b_M_lacks 56 = .ok (.ifCond .eq 7, 3) := by decide +kernel
theorem d_M_lacks_59 : decode b_M_lacks 59 = .ok (.iload_n 3, 1) := by decide +kernel
theorem d_M_lacks_60 : decode b_M_lacks 60 = .ok (.goto 4, 3) := by decide +kernel
theorem d_M_lacks_63 : decode b_M_lacks 63 = .ok (.iconst 0, 1) := by decide +kernel
theorem d_M_lacks_64 : decode b_M_lacks 64 = .ok (.ireturn, 1) := by decide +kernel
abbrev b_M_period : ByteArray := prog_10_method_35_code
def y_M_period : MethodName := ⟨"StationRowsModel", "period", "(III)V"⟩
theorem d_M_period_0 : decode b_M_period 0 = .ok (.aload_n 0, 1) := by decide +kernel
theorem d_M_period_1 : decode b_M_period 1 = .ok (.iconst 3, 1) := by decide +kernel
theorem d_M_period_2 : decode b_M_period 2 = .ok (.aload_n 0, 1) := by decide +kernel
theorem d_M_period_3 : decode b_M_period 3 = .ok (.iload_n 1, 1) := by decide +kernel
theorem d_M_period_4 : decode b_M_period 4 = .ok (.invokevirtual 133, 3) := by decide +kernel
theorem d_M_period_7 : decode b_M_period 7 = .ok (.ifCond .eq 16, 3) := by decide +kernel
theorem d_M_period_10 : decode b_M_period 10 = .ok (.iload_n 2, 1) := by decide +kernel
theorem d_M_period_11 : decode b_M_period 11 = .ok (.iconst 0, 1) := by decide +kernel
theorem d_M_period_12 : decode b_M_period 12 = .ok (.iconst 4, 1) := by decide +kernel
theorem d_M_period_13 : decode b_M_period 13 = .ok (.invokestatic 108, 3) := by decide +kernel
theorem d_M_period_16 : decode b_M_period 16 = .ok (.ifCond .eq 7, 3) := by decide +kernel
theorem d_M_period_19 : decode b_M_period 19 = .ok (.iconst 1, 1) := by decide +kernel
theorem d_M_period_20 : decode b_M_period 20 = .ok (.goto 4, 3) := by decide +kernel
theorem d_M_period_23 : decode b_M_period 23 = .ok (.iconst 0, 1) := by decide +kernel
theorem d_M_period_24 : decode b_M_period 24 = .ok (.iload_n 3, 1) := by decide +kernel
theorem d_M_period_25 : decode b_M_period 25 = .ok (.iconst 0, 1) := by decide +kernel
theorem d_M_period_26 : decode b_M_period 26 = .ok (.sipush 9999, 3) := by decide +kernel
theorem d_M_period_29 : decode b_M_period 29 = .ok (.invokestatic 108, 3) := by decide +kernel
theorem d_M_period_32 : decode b_M_period 32 = .ok (.iconst 1, 1) := by decide +kernel
theorem d_M_period_33 : decode b_M_period 33 = .ok (.iconst 1, 1) := by decide +kernel
theorem d_M_period_34 : decode b_M_period 34 = .ok (.invokevirtual 117, 3) := by decide +kernel
theorem d_M_period_37 : decode b_M_period 37 = .ok (.ifCond .eq 14, 3) := by decide +kernel
theorem d_M_period_40 : decode b_M_period 40 = .ok (.aload_n 0, 1) := by decide +kernel
theorem d_M_period_41 : decode b_M_period 41 = .ok (.getfield 71, 3) := by decide +kernel
theorem d_M_period_44 : decode b_M_period 44 = .ok (.iconst 5, 1) := by decide +kernel
theorem d_M_period_45 : decode b_M_period 45 = .ok (.iload_n 1, 1) := by decide +kernel
theorem d_M_period_46 : decode b_M_period 46 = .ok (.imul, 1) := by decide +kernel
theorem d_M_period_47 : decode b_M_period 47 = .ok (.iload_n 2, 1) := by decide +kernel
theorem d_M_period_48 : decode b_M_period 48 = .ok (.iadd, 1) := by decide +kernel
theorem d_M_period_49 : decode b_M_period 49 = .ok (.iload_n 3, 1) := by decide +kernel
theorem d_M_period_50 : decode b_M_period 50 = .ok (.iastore, 1) := by decide +kernel
theorem d_M_period_51 : decode b_M_period 51 = .ok (.return_, 1) := by decide +kernel
abbrev b_M_check : ByteArray := prog_10_method_36_code
def y_M_check : MethodName := ⟨"StationRowsModel", "check", "(III)V"⟩
theorem d_M_check_0 : decode b_M_check 0 = .ok (.aload_n 0, 1) := by decide +kernel
theorem d_M_check_1 : decode b_M_check 1 = .ok (.bipush 11, 2) := by decide +kernel
theorem d_M_check_3 : decode b_M_check 3 = .ok (.aload_n 0, 1) := by decide +kernel
theorem d_M_check_4 : decode b_M_check 4 = .ok (.iload_n 1, 1) := by decide +kernel
theorem d_M_check_5 : decode b_M_check 5 = .ok (.invokevirtual 133, 3) := by decide +kernel
theorem d_M_check_8 : decode b_M_check 8 = .ok (.ifCond .eq 16, 3) := by decide +kernel
theorem d_M_check_11 : decode b_M_check 11 = .ok (.iload_n 2, 1) := by decide +kernel
theorem d_M_check_12 : decode b_M_check 12 = .ok (.iconst 0, 1) := by decide +kernel
theorem d_M_check_13 : decode b_M_check 13 = .ok (.iconst 4, 1) := by decide +kernel
theorem d_M_check_14 : decode b_M_check 14 = .ok (.invokestatic 108, 3) := by decide +kernel
theorem d_M_check_17 : decode b_M_check 17 = .ok (.ifCond .eq 7, 3) := by decide +kernel
theorem d_M_check_20 : decode b_M_check 20 = .ok (.iconst 1, 1) := by decide +kernel
theorem d_M_check_21 : decode b_M_check 21 = .ok (.goto 4, 3) := by decide +kernel
theorem d_M_check_24 : decode b_M_check 24 = .ok (.iconst 0, 1) := by decide +kernel
theorem d_M_check_25 : decode b_M_check 25 = .ok (.iload_n 3, 1) := by decide +kernel
theorem d_M_check_26 : decode b_M_check 26 = .ok (.invokestatic 113, 3) := by decide +kernel
theorem d_M_check_29 : decode b_M_check 29 = .ok (.iconst 1, 1) := by decide +kernel
theorem d_M_check_30 : decode b_M_check 30 = .ok (.aload_n 0, 1) := by decide +kernel
theorem d_M_check_31 : decode b_M_check 31 = .ok (.getfield 182, 3) := by decide +kernel
theorem d_M_check_34 : decode b_M_check 34 = .ok (.sipush 200, 3) := by decide +kernel
theorem d_M_check_37 : decode b_M_check 37 = .ok (.if_icmp .ge 7, 3) := by decide +kernel
theorem d_M_check_40 : decode b_M_check 40 = .ok (.iconst 1, 1) := by decide +kernel
theorem d_M_check_41 : decode b_M_check 41 = .ok (.goto 4, 3) := by decide +kernel
theorem d_M_check_44 : decode b_M_check 44 = .ok (.iconst 0, 1) := by decide +kernel
theorem d_M_check_45 : decode b_M_check 45 = .ok (.invokevirtual 117, 3) := by decide +kernel
theorem d_M_check_48 : decode b_M_check 48 = .ok (.ifCond .ne 4, 3) := by decide +kernel
theorem d_M_check_51 : decode b_M_check 51 = .ok (.return_, 1) := by decide +kernel
theorem d_M_check_52 : decode b_M_check 52 = .ok (.aload_n 0, 1) := by decide +kernel
theorem d_M_check_53 : decode b_M_check 53 = .ok (.getfield 74, 3) := by decide +kernel
theorem d_M_check_56 : decode b_M_check 56 = .ok (.aload_n 0, 1) := by decide +kernel
theorem d_M_check_57 : decode b_M_check 57 = .ok (.getfield 182, 3) := by decide +kernel
theorem d_M_check_60 : decode b_M_check 60 = .ok (.iload_n 3, 1) := by decide +kernel
theorem d_M_check_61 : decode b_M_check 61 = .ok (.iastore, 1) := by decide +kernel
theorem d_M_check_62 : decode b_M_check 62 = .ok (.aload_n 0, 1) := by decide +kernel
theorem d_M_check_63 : decode b_M_check 63 = .ok (.getfield 77, 3) := by decide +kernel
theorem d_M_check_66 : decode b_M_check 66 = .ok (.aload_n 0, 1) := by decide +kernel
theorem d_M_check_67 : decode b_M_check 67 = .ok (.getfield 182, 3) := by decide +kernel
theorem d_M_check_70 : decode b_M_check 70 = .ok (.iconst 5, 1) := by decide +kernel
theorem d_M_check_71 : decode b_M_check 71 = .ok (.iload_n 1, 1) := by decide +kernel
theorem d_M_check_72 : decode b_M_check 72 = .ok (.imul, 1) := by decide +kernel
theorem d_M_check_73 : decode b_M_check 73 = .ok (.iload_n 2, 1) := by decide +kernel
theorem d_M_check_74 : decode b_M_check 74 = .ok (.iadd, 1) := by decide +kernel
theorem d_M_check_75 : decode b_M_check 75 = .ok (.iastore, 1) := by decide +kernel
theorem d_M_check_76 : decode b_M_check 76 = .ok (.aload_n 0, 1) := by decide +kernel
theorem d_M_check_77 : decode b_M_check 77 = .ok (.dup, 1) := by decide +kernel
theorem d_M_check_78 : decode b_M_check 78 = .ok (.getfield 182, 3) := by decide +kernel
theorem d_M_check_81 : decode b_M_check 81 = .ok (.iconst 1, 1) := by decide +kernel
theorem d_M_check_82 : decode b_M_check 82 = .ok (.iadd, 1) := by decide +kernel
theorem d_M_check_83 : decode b_M_check 83 = .ok (.putfield 182, 3) := by decide +kernel
theorem d_M_check_86 : decode b_M_check 86 = .ok (.return_, 1) := by decide +kernel
abbrev b_M_isMissing : ByteArray := prog_10_method_37_code
def y_M_isMissing : MethodName := ⟨"StationRowsModel", "isMissing", "(II)Z"⟩
theorem d_M_isMissing_0 : decode b_M_isMissing 0 = .ok (.aload_n 0, 1) := by decide +kernel
theorem d_M_isMissing_1 : decode b_M_isMissing 1 = .ok (.getfield 71, 3) := by decide +kernel
theorem d_M_isMissing_4 : decode b_M_isMissing 4 = .ok (.iload_n 1, 1) := by decide +kernel
theorem d_M_isMissing_5 : decode b_M_isMissing 5 = .ok (.iaload, 1) := by decide +kernel
theorem d_M_isMissing_6 : decode b_M_isMissing 6 = .ok (.istore_n 3, 1) := by decide +kernel
theorem d_M_isMissing_7 : decode b_M_isMissing 7 = .ok (.iload_n 3, 1) := by decide +kernel
theorem d_M_isMissing_8 : decode b_M_isMissing 8 = .ok (.ifCond .eq 10, 3) := by decide +kernel
theorem d_M_isMissing_11 : decode b_M_isMissing 11 = .ok (.iload_n 2, 1) := by decide +kernel
theorem d_M_isMissing_12 : decode b_M_isMissing 12 = .ok (.iload_n 3, 1) := by decide +kernel
theorem d_M_isMissing_13 : decode b_M_isMissing 13 = .ok (.iconst 1, 1) := by decide +kernel
theorem d_M_isMissing_14 : decode b_M_isMissing 14 = .ok (.isub, 1) := by decide +kernel
theorem d_M_isMissing_15 : decode b_M_isMissing 15 = .ok (.if_icmp .ge 5, 3) := by decide +kernel
theorem d_M_isMissing_18 : decode b_M_isMissing 18 = .ok (.iconst 0, 1) := by decide +kernel
theorem d_M_isMissing_19 : decode b_M_isMissing 19 = .ok (.ireturn, 1) := by decide +kernel
theorem d_M_isMissing_20 : decode b_M_isMissing 20 = .ok (.iconst 0, 1) := by decide +kernel
theorem d_M_isMissing_21 : decode b_M_isMissing 21 = .ok (.istore 4, 2) := by decide +kernel
theorem d_M_isMissing_23 : decode b_M_isMissing 23 = .ok (.iload 4, 2) := by decide +kernel
theorem d_M_isMissing_25 : decode b_M_isMissing 25 = .ok (.aload_n 0, 1) := by decide +kernel
theorem d_M_isMissing_26 : decode b_M_isMissing 26 = .ok (.getfield 182, 3) := by decide +kernel
theorem d_M_isMissing_29 : decode b_M_isMissing 29 = .ok (.if_icmp .ge 46, 3) := by decide +kernel
theorem d_M_isMissing_32 : decode b_M_isMissing 32 = .ok (.aload_n 0, 1) := by decide +kernel
theorem d_M_isMissing_33 : decode b_M_isMissing 33 = .ok (.getfield 77, 3) := by decide +kernel
theorem d_M_isMissing_36 : decode b_M_isMissing 36 = .ok (.iload 4, 2) := by decide +kernel
theorem d_M_isMissing_38 : decode b_M_isMissing 38 = .ok (.iaload, 1) := by decide +kernel
theorem d_M_isMissing_39 : decode b_M_isMissing 39 = .ok (.iload_n 1, 1) := by decide +kernel
theorem d_M_isMissing_40 : decode b_M_isMissing 40 = .ok (.if_icmp .ne 29, 3) := by decide +kernel
theorem d_M_isMissing_43 : decode b_M_isMissing 43 = .ok (.aload_n 0, 1) := by decide +kernel
theorem d_M_isMissing_44 : decode b_M_isMissing 44 = .ok (.getfield 74, 3) := by decide +kernel
theorem d_M_isMissing_47 : decode b_M_isMissing 47 = .ok (.iload 4, 2) := by decide +kernel
theorem d_M_isMissing_49 : decode b_M_isMissing 49 = .ok (.iaload, 1) := by decide +kernel
theorem d_M_isMissing_50 : decode b_M_isMissing 50 = .ok (.iload_n 2, 1) := by decide +kernel
theorem d_M_isMissing_51 : decode b_M_isMissing 51 = .ok (.if_icmp .gt 18, 3) := by decide +kernel
theorem d_M_isMissing_54 : decode b_M_isMissing 54 = .ok (.aload_n 0, 1) := by decide +kernel
theorem d_M_isMissing_55 : decode b_M_isMissing 55 = .ok (.getfield 74, 3) := by decide +kernel
theorem d_M_isMissing_58 : decode b_M_isMissing 58 = .ok (.iload 4, 2) := by decide +kernel
theorem d_M_isMissing_60 : decode b_M_isMissing 60 = .ok (.iaload, 1) := by decide +kernel
theorem d_M_isMissing_61 : decode b_M_isMissing 61 = .ok (.iload_n 2, 1) := by decide +kernel
theorem d_M_isMissing_62 : decode b_M_isMissing 62 = .ok (.iload_n 3, 1) := by decide +kernel
theorem d_M_isMissing_63 : decode b_M_isMissing 63 = .ok (.isub, 1) := by decide +kernel
theorem d_M_isMissing_64 : decode b_M_isMissing 64 = .ok (.if_icmp .le 5, 3) := by decide +kernel
theorem d_M_isMissing_67 : decode b_M_isMissing 67 = .ok (.iconst 0, 1) := by decide +kernel
theorem d_M_isMissing_68 : decode b_M_isMissing 68 = .ok (.ireturn, 1) := by decide +kernel
theorem d_M_isMissing_69 : decode b_M_isMissing 69 = .ok (.iinc 4 1, 3) := by decide +kernel
theorem d_M_isMissing_72 : decode b_M_isMissing 72 = .ok (.goto (-49), 3) := by decide +kernel
theorem d_M_isMissing_75 : decode b_M_isMissing 75 = .ok (.iconst 1, 1) := by decide +kernel
theorem d_M_isMissing_76 : decode b_M_isMissing 76 = .ok (.ireturn, 1) := by decide +kernel
abbrev b_M_missing : ByteArray := prog_10_method_38_code
def y_M_missing : MethodName := ⟨"StationRowsModel", "missing", "(II)I"⟩
theorem d_M_missing_0 : decode b_M_missing 0 = .ok (.aload_n 0, 1) := by decide +kernel
theorem d_M_missing_1 : decode b_M_missing 1 = .ok (.iconst 2, 1) := by decide +kernel
theorem d_M_missing_2 : decode b_M_missing 2 = .ok (.iconst 1, 1) := by decide +kernel
theorem d_M_missing_3 : decode b_M_missing 3 = .ok (.iload_n 1, 1) := by decide +kernel
theorem d_M_missing_4 : decode b_M_missing 4 = .ok (.invokestatic 113, 3) := by decide +kernel
theorem d_M_missing_7 : decode b_M_missing 7 = .ok (.ifCond .eq 11, 3) := by decide +kernel
theorem d_M_missing_10 : decode b_M_missing 10 = .ok (.iload_n 2, 1) := by decide +kernel
theorem d_M_missing_11 : decode b_M_missing 11 = .ok (.ifCond .lt 7, 3) := by decide +kernel
theorem d_M_missing_14 : decode b_M_missing 14 = .ok (.iconst 1, 1) := by decide +kernel
theorem d_M_missing_15 : decode b_M_missing 15 = .ok (.goto 4, 3) := by decide +kernel
theorem d_M_missing_18 : decode b_M_missing 18 = .ok (.iconst 0, 1) := by decide +kernel
theorem d_M_missing_19 : decode b_M_missing 19 = .ok (.iconst 1, 1) := by decide +kernel
theorem d_M_missing_20 : decode b_M_missing 20 = .ok (.iconst 1, 1) := by decide +kernel
theorem d_M_missing_21 : decode b_M_missing 21 = .ok (.invokevirtual 117, 3) := by decide +kernel
theorem d_M_missing_24 : decode b_M_missing 24 = .ok (.ifCond .ne 5, 3) := by decide +kernel
theorem d_M_missing_27 : decode b_M_missing 27 = .ok (.iconst 0, 1) := by decide +kernel
theorem d_M_missing_28 : decode b_M_missing 28 = .ok (.ireturn, 1) := by decide +kernel
theorem d_M_missing_29 : decode b_M_missing 29 = .ok (.iload_n 2, 1) := by decide +kernel
theorem d_M_missing_30 : decode b_M_missing 30 = .ok (.istore_n 3, 1) := by decide +kernel
theorem d_M_missing_31 : decode b_M_missing 31 = .ok (.iconst 0, 1) := by decide +kernel
theorem d_M_missing_32 : decode b_M_missing 32 = .ok (.istore 4, 2) := by decide +kernel
theorem d_M_missing_34 : decode b_M_missing 34 = .ok (.iload 4, 2) := by decide +kernel
theorem d_M_missing_36 : decode b_M_missing 36 = .ok (.iconst 5, 1) := by decide +kernel
theorem d_M_missing_37 : decode b_M_missing 37 = .ok (.aload_n 0, 1) := by decide +kernel
theorem d_M_missing_38 : decode b_M_missing 38 = .ok (.getfield 105, 3) := by decide +kernel
theorem d_M_missing_41 : decode b_M_missing 41 = .ok (.imul, 1) := by decide +kernel
theorem d_M_missing_42 : decode b_M_missing 42 = .ok (.if_icmp .ge 54, 3) := by decide +kernel
theorem d_M_missing_45 : decode b_M_missing 45 = .ok (.aload_n 0, 1) := by decide +kernel
theorem d_M_missing_46 : decode b_M_missing 46 = .ok (.iload 4, 2) := by decide +kernel
theorem d_M_missing_48 : decode b_M_missing 48 = .ok (.iconst 5, 1) := by decide +kernel
theorem d_M_missing_49 : decode b_M_missing 49 = .ok (.idiv, 1) := by decide +kernel
theorem d_M_missing_50 : decode b_M_missing 50 = .ok (.iload_n 1, 1) := by decide +kernel
theorem d_M_missing_51 : decode b_M_missing 51 = .ok (.invokevirtual 153, 3) := by decide +kernel
theorem d_M_missing_54 : decode b_M_missing 54 = .ok (.ifCond .eq 36, 3) := by decide +kernel
theorem d_M_missing_57 : decode b_M_missing 57 = .ok (.aload_n 0, 1) := by decide +kernel
theorem d_M_missing_58 : decode b_M_missing 58 = .ok (.iload 4, 2) := by decide +kernel
theorem d_M_missing_60 : decode b_M_missing 60 = .ok (.iload_n 1, 1) := by decide +kernel
theorem d_M_missing_61 : decode b_M_missing 61 = .ok (.invokevirtual 185, 3) := by decide +kernel
theorem d_M_missing_64 : decode b_M_missing 64 = .ok (.ifCond .ne 6, 3) := by decide +kernel
theorem d_M_missing_67 : decode b_M_missing 67 = .ok (.goto 23, 3) := by decide +kernel
theorem d_M_missing_70 : decode b_M_missing 70 = .ok (.iload_n 3, 1) := by decide +kernel
theorem d_M_missing_71 : decode b_M_missing 71 = .ok (.ifCond .ne 16, 3) := by decide +kernel
theorem d_M_missing_74 : decode b_M_missing 74 = .ok (.bipush 10, 2) := by decide +kernel
theorem d_M_missing_76 : decode b_M_missing 76 = .ok (.iload 4, 2) := by decide +kernel
theorem d_M_missing_78 : decode b_M_missing 78 = .ok (.iconst 5, 1) := by decide +kernel
theorem d_M_missing_79 : decode b_M_missing 79 = .ok (.idiv, 1) := by decide +kernel
theorem d_M_missing_80 : decode b_M_missing 80 = .ok (.imul, 1) := by decide +kernel
theorem d_M_missing_81 : decode b_M_missing 81 = .ok (.iload 4, 2) := by decide +kernel
theorem d_M_missing_83 : decode b_M_missing 83 = .ok (.iconst 5, 1) := by decide +kernel
theorem d_M_missing_84 : decode b_M_missing 84 = .ok (.irem, 1) := by decide +kernel
theorem d_M_missing_85 : decode b_M_missing 85 = .ok (.iadd, 1) := by decide +kernel
theorem d_M_missing_86 : decode b_M_missing 86 = .ok (.ireturn, 1) := by decide +kernel
theorem d_M_missing_87 : decode b_M_missing 87 = .ok (.iinc 3 (-1), 3) := by decide +kernel
theorem d_M_missing_90 : decode b_M_missing 90 = .ok (.iinc 4 1, 3) := by decide +kernel
theorem d_M_missing_93 : decode b_M_missing 93 = .ok (.goto (-59), 3) := by decide +kernel
theorem d_M_missing_96 : decode b_M_missing 96 = .ok (.iconst (-1), 1) := by decide +kernel
theorem d_M_missing_97 : decode b_M_missing 97 = .ok (.ireturn, 1) := by decide +kernel
abbrev b_M_key : ByteArray := prog_10_method_39_code
def y_M_key : MethodName := ⟨"StationRowsModel", "key", "(IIZ)V"⟩
theorem d_M_key_0 : decode b_M_key 0 = .ok (.aload_n 0, 1) := by decide +kernel
theorem d_M_key_1 : decode b_M_key 1 = .ok (.iload_n 1, 1) := by decide +kernel
theorem d_M_key_2 : decode b_M_key 2 = .ok (.invokevirtual 133, 3) := by decide +kernel
theorem d_M_key_5 : decode b_M_key 5 = .ok (.ifCond .eq 17, 3) := by decide +kernel
theorem d_M_key_8 : decode b_M_key 8 = .ok (.iload_n 2, 1) := by decide +kernel
theorem d_M_key_9 : decode b_M_key 9 = .ok (.iconst 0, 1) := by decide +kernel
theorem d_M_key_10 : decode b_M_key 10 = .ok (.bipush 99, 2) := by decide +kernel
theorem d_M_key_12 : decode b_M_key 12 = .ok (.invokestatic 108, 3) := by decide +kernel
theorem d_M_key_15 : decode b_M_key 15 = .ok (.ifCond .eq 7, 3) := by decide +kernel
theorem d_M_key_18 : decode b_M_key 18 = .ok (.iconst 1, 1) := by decide +kernel
theorem d_M_key_19 : decode b_M_key 19 = .ok (.goto 4, 3) := by decide +kernel
theorem d_M_key_22 : decode b_M_key 22 = .ok (.iconst 0, 1) := by decide +kernel
theorem d_M_key_23 : decode b_M_key 23 = .ok (.istore 4, 2) := by decide +kernel
theorem d_M_key_25 : decode b_M_key 25 = .ok (.aload_n 0, 1) := by decide +kernel
theorem d_M_key_26 : decode b_M_key 26 = .ok (.bipush 7, 2) := by decide +kernel
theorem d_M_key_28 : decode b_M_key 28 = .ok (.aload_n 0, 1) := by decide +kernel
theorem d_M_key_29 : decode b_M_key 29 = .ok (.iload_n 1, 1) := by decide +kernel
theorem d_M_key_30 : decode b_M_key 30 = .ok (.invokevirtual 133, 3) := by decide +kernel
theorem d_M_key_33 : decode b_M_key 33 = .ok (.iload_n 2, 1) := by decide +kernel
theorem d_M_key_34 : decode b_M_key 34 = .ok (.iconst 0, 1) := by decide +kernel
theorem d_M_key_35 : decode b_M_key 35 = .ok (.bipush 99, 2) := by decide +kernel
theorem d_M_key_37 : decode b_M_key 37 = .ok (.invokestatic 108, 3) := by decide +kernel
theorem d_M_key_40 : decode b_M_key 40 = .ok (.iload 4, 2) := by decide +kernel
theorem d_M_key_42 : decode b_M_key 42 = .ok (.ifCond .eq 22, 3) := by decide +kernel
theorem d_M_key_45 : decode b_M_key 45 = .ok (.aload_n 0, 1) := by decide +kernel
theorem d_M_key_46 : decode b_M_key 46 = .ok (.getfield 80, 3) := by decide +kernel
theorem d_M_key_49 : decode b_M_key 49 = .ok (.bipush 100, 2) := by decide +kernel
theorem d_M_key_51 : decode b_M_key 51 = .ok (.iload_n 1, 1) := by decide +kernel
theorem d_M_key_52 : decode b_M_key 52 = .ok (.imul, 1) := by decide +kernel
theorem d_M_key_53 : decode b_M_key 53 = .ok (.iload_n 2, 1) := by decide +kernel
theorem d_M_key_54 : decode b_M_key 54 = .ok (.iadd, 1) := by decide +kernel
theorem d_M_key_55 : decode b_M_key 55 = .ok (.baload, 1) := by decide +kernel
theorem d_M_key_56 : decode b_M_key 56 = .ok (.iload_n 3, 1) := by decide +kernel
theorem d_M_key_57 : decode b_M_key 57 = .ok (.if_icmp .eq 7, 3) := by decide +kernel
theorem d_M_key_60 : decode b_M_key 60 = .ok (.iconst 1, 1) := by decide +kernel
theorem d_M_key_61 : decode b_M_key 61 = .ok (.goto 4, 3) := by decide +kernel
theorem d_M_key_64 : decode b_M_key 64 = .ok (.iconst 0, 1) := by decide +kernel
theorem d_M_key_65 : decode b_M_key 65 = .ok (.iconst 1, 1) := by decide +kernel
theorem d_M_key_66 : decode b_M_key 66 = .ok (.invokevirtual 117, 3) := by decide +kernel
theorem d_M_key_69 : decode b_M_key 69 = .ok (.ifCond .ne 4, 3) := by decide +kernel
theorem d_M_key_72 : decode b_M_key 72 = .ok (.return_, 1) := by decide +kernel
theorem d_M_key_73 : decode b_M_key 73 = .ok (.aload_n 0, 1) := by decide +kernel
theorem d_M_key_74 : decode b_M_key 74 = .ok (.getfield 80, 3) := by decide +kernel
theorem d_M_key_77 : decode b_M_key 77 = .ok (.bipush 100, 2) := by decide +kernel
theorem d_M_key_79 : decode b_M_key 79 = .ok (.iload_n 1, 1) := by decide +kernel
theorem d_M_key_80 : decode b_M_key 80 = .ok (.imul, 1) := by decide +kernel
theorem d_M_key_81 : decode b_M_key 81 = .ok (.iload_n 2, 1) := by decide +kernel
theorem d_M_key_82 : decode b_M_key 82 = .ok (.iadd, 1) := by decide +kernel
theorem d_M_key_83 : decode b_M_key 83 = .ok (.iload_n 3, 1) := by decide +kernel
theorem d_M_key_84 : decode b_M_key 84 = .ok (.bastore, 1) := by decide +kernel
theorem d_M_key_85 : decode b_M_key 85 = .ok (.return_, 1) := by decide +kernel
abbrev b_M_holder : ByteArray := prog_10_method_40_code
def y_M_holder : MethodName := ⟨"StationRowsModel", "holder", "(II)I"⟩
theorem d_M_holder_0 : decode b_M_holder 0 = .ok (.aload_n 0, 1) := by decide +kernel
theorem d_M_holder_1 : decode b_M_holder 1 = .ok (.iconst 2, 1) := by decide +kernel
theorem d_M_holder_2 : decode b_M_holder 2 = .ok (.iconst 1, 1) := by decide +kernel
theorem d_M_holder_3 : decode b_M_holder 3 = .ok (.iload_n 1, 1) := by decide +kernel
theorem d_M_holder_4 : decode b_M_holder 4 = .ok (.iconst 0, 1) := by decide +kernel
theorem d_M_holder_5 : decode b_M_holder 5 = .ok (.bipush 99, 2) := by decide +kernel
theorem d_M_holder_7 : decode b_M_holder 7 = .ok (.invokestatic 108, 3) := by decide +kernel
theorem d_M_holder_10 : decode b_M_holder 10 = .ok (.ifCond .eq 11, 3) := by decide +kernel
theorem d_M_holder_13 : decode b_M_holder 13 = .ok (.iload_n 2, 1) := by decide +kernel
theorem d_M_holder_14 : decode b_M_holder 14 = .ok (.ifCond .lt 7, 3) := by decide +kernel
theorem d_M_holder_17 : decode b_M_holder 17 = .ok (.iconst 1, 1) := by decide +kernel
theorem d_M_holder_18 : decode b_M_holder 18 = .ok (.goto 4, 3) := by decide +kernel
theorem d_M_holder_21 : decode b_M_holder 21 = .ok (.iconst 0, 1) := by decide +kernel
theorem d_M_holder_22 : decode b_M_holder 22 = .ok (.iconst 1, 1) := by decide +kernel
theorem d_M_holder_23 : decode b_M_holder 23 = .ok (.iconst 1, 1) := by decide +kernel
theorem d_M_holder_24 : decode b_M_holder 24 = .ok (.invokevirtual 117, 3) := by decide +kernel
theorem d_M_holder_27 : decode b_M_holder 27 = .ok (.ifCond .ne 5, 3) := by decide +kernel
theorem d_M_holder_30 : decode b_M_holder 30 = .ok (.iconst 0, 1) := by decide +kernel
theorem d_M_holder_31 : decode b_M_holder 31 = .ok (.ireturn, 1) := by decide +kernel
theorem d_M_holder_32 : decode b_M_holder 32 = .ok (.iload_n 2, 1) := by decide +kernel
theorem d_M_holder_33 : decode b_M_holder 33 = .ok (.istore_n 3, 1) := by decide +kernel
theorem d_M_holder_34 : decode b_M_holder 34 = .ok (.iconst 0, 1) := by decide +kernel
theorem d_M_holder_35 : decode b_M_holder 35 = .ok (.istore 4, 2) := by decide +kernel
theorem d_M_holder_37 : decode b_M_holder 37 = .ok (.iload 4, 2) := by decide +kernel
theorem d_M_holder_39 : decode b_M_holder 39 = .ok (.aload_n 0, 1) := by decide +kernel
theorem d_M_holder_40 : decode b_M_holder 40 = .ok (.getfield 105, 3) := by decide +kernel
theorem d_M_holder_43 : decode b_M_holder 43 = .ok (.if_icmp .ge 37, 3) := by decide +kernel
theorem d_M_holder_46 : decode b_M_holder 46 = .ok (.aload_n 0, 1) := by decide +kernel
theorem d_M_holder_47 : decode b_M_holder 47 = .ok (.getfield 80, 3) := by decide +kernel
theorem d_M_holder_50 : decode b_M_holder 50 = .ok (.bipush 100, 2) := by decide +kernel
theorem d_M_holder_52 : decode b_M_holder 52 = .ok (.iload 4, 2) := by decide +kernel
theorem d_M_holder_54 : decode b_M_holder 54 = .ok (.imul, 1) := by decide +kernel
theorem d_M_holder_55 : decode b_M_holder 55 = .ok (.iload_n 1, 1) := by decide +kernel
theorem d_M_holder_56 : decode b_M_holder 56 = .ok (.iadd, 1) := by decide +kernel
theorem d_M_holder_57 : decode b_M_holder 57 = .ok (.baload, 1) := by decide +kernel
theorem d_M_holder_58 : decode b_M_holder 58 = .ok (.ifCond .ne 6, 3) := by decide +kernel
theorem d_M_holder_61 : decode b_M_holder 61 = .ok (.goto 13, 3) := by decide +kernel
theorem d_M_holder_64 : decode b_M_holder 64 = .ok (.iload_n 3, 1) := by decide +kernel
theorem d_M_holder_65 : decode b_M_holder 65 = .ok (.ifCond .ne 6, 3) := by decide +kernel
theorem d_M_holder_68 : decode b_M_holder 68 = .ok (.iload 4, 2) := by decide +kernel
theorem d_M_holder_70 : decode b_M_holder 70 = .ok (.ireturn, 1) := by decide +kernel
theorem d_M_holder_71 : decode b_M_holder 71 = .ok (.iinc 3 (-1), 3) := by decide +kernel
theorem d_M_holder_74 : decode b_M_holder 74 = .ok (.iinc 4 1, 3) := by decide +kernel
theorem d_M_holder_77 : decode b_M_holder 77 = .ok (.goto (-40), 3) := by decide +kernel
theorem d_M_holder_80 : decode b_M_holder 80 = .ok (.iconst (-1), 1) := by decide +kernel
theorem d_M_holder_81 : decode b_M_holder 81 = .ok (.ireturn, 1) := by decide +kernel
abbrev b_M_twice : ByteArray := prog_10_method_41_code
def y_M_twice : MethodName := ⟨"StationRowsModel", "twice", "()I"⟩
theorem d_M_twice_0 : decode b_M_twice 0 = .ok (.aload_n 0, 1) := by decide +kernel
theorem d_M_twice_1 : decode b_M_twice 1 = .ok (.iconst 0, 1) := by decide +kernel
theorem d_M_twice_2 : decode b_M_twice 2 = .ok (.putfield 102, 3) := by decide +kernel
theorem d_M_twice_5 : decode b_M_twice 5 = .ok (.iconst 0, 1) := by decide +kernel
theorem d_M_twice_6 : decode b_M_twice 6 = .ok (.istore_n 1, 1) := by decide +kernel
theorem d_M_twice_7 : decode b_M_twice 7 = .ok (.iconst 0, 1) := by decide +kernel
theorem d_M_twice_8 : decode b_M_twice 8 = .ok (.istore_n 2, 1) := by decide +kernel
theorem d_M_twice_9 : decode b_M_twice 9 = .ok (.iload_n 2, 1) := by decide +kernel
theorem d_M_twice_10 : decode b_M_twice 10 = .ok (.bipush 100, 2) := by decide +kernel
theorem d_M_twice_12 : decode b_M_twice 12 = .ok (.if_icmp .ge 55, 3) := by decide +kernel
theorem d_M_twice_15 : decode b_M_twice 15 = .ok (.iconst 0, 1) := by decide +kernel
theorem d_M_twice_16 : decode b_M_twice 16 = .ok (.istore_n 3, 1) := by decide +kernel
theorem d_M_twice_17 : decode b_M_twice 17 = .ok (.iconst 0, 1) := by decide +kernel
theorem d_M_twice_18 : decode b_M_twice 18 = .ok (.istore 4, 2) := by decide +kernel
theorem d_M_twice_20 : decode b_M_twice 20 = .ok (.iload 4, 2) := by decide +kernel
theorem d_M_twice_22 : decode b_M_twice 22 = .ok (.aload_n 0, 1) := by decide +kernel
theorem d_M_twice_23 : decode b_M_twice 23 = .ok (.getfield 105, 3) := by decide +kernel
theorem d_M_twice_26 : decode b_M_twice 26 = .ok (.if_icmp .ge 27, 3) := by decide +kernel
theorem d_M_twice_29 : decode b_M_twice 29 = .ok (.aload_n 0, 1) := by decide +kernel
theorem d_M_twice_30 : decode b_M_twice 30 = .ok (.getfield 80, 3) := by decide +kernel
theorem d_M_twice_33 : decode b_M_twice 33 = .ok (.bipush 100, 2) := by decide +kernel
theorem d_M_twice_35 : decode b_M_twice 35 = .ok (.iload 4, 2) := by decide +kernel
theorem d_M_twice_37 : decode b_M_twice 37 = .ok (.imul, 1) := by decide +kernel
theorem d_M_twice_38 : decode b_M_twice 38 = .ok (.iload_n 2, 1) := by decide +kernel
theorem d_M_twice_39 : decode b_M_twice 39 = .ok (.iadd, 1) := by decide +kernel
theorem d_M_twice_40 : decode b_M_twice 40 = .ok (.baload, 1) := by decide +kernel
theorem d_M_twice_41 : decode b_M_twice 41 = .ok (.ifCond .eq 6, 3) := by decide +kernel
theorem d_M_twice_44 : decode b_M_twice 44 = .ok (.iinc 3 1, 3) := by decide +kernel
theorem d_M_twice_47 : decode b_M_twice 47 = .ok (.iinc 4 1, 3) := by decide +kernel
theorem d_M_twice_50 : decode b_M_twice 50 = .ok (.goto (-30), 3) := by decide +kernel
theorem d_M_twice_53 : decode b_M_twice 53 = .ok (.iload_n 3, 1) := by decide +kernel
theorem d_M_twice_54 : decode b_M_twice 54 = .ok (.iconst 1, 1) := by decide +kernel
theorem d_M_twice_55 : decode b_M_twice 55 = .ok (.if_icmp .le 6, 3) := by decide +kernel
theorem d_M_twice_58 : decode b_M_twice 58 = .ok (.iinc 1 1, 3) := by decide +kernel
theorem d_M_twice_61 : decode b_M_twice 61 = .ok (.iinc 2 1, 3) := by decide +kernel
theorem d_M_twice_64 : decode b_M_twice 64 = .ok (.goto (-55), 3) := by decide +kernel
theorem d_M_twice_67 : decode b_M_twice 67 = .ok (.iload_n 1, 1) := by decide +kernel
theorem d_M_twice_68 : decode b_M_twice 68 = .ok (.ireturn, 1) := by decide +kernel