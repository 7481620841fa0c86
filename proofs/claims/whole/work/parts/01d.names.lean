theorem dX7_readSworn_105 : decode cX7_readSworn 105 = .ok (.iadd, 1) := by decide +kernel
theorem dX7_readSworn_106 : decode cX7_readSworn 106 = .ok (.bipush (-9), 2) := by decide +kernel
theorem dX7_readSworn_108 : decode cX7_readSworn 108 = .ok (.iastore, 1) := by decide +kernel
theorem dX7_readSworn_109 : decode cX7_readSworn 109 = .ok (.aload_n 0, 1) := by decide +kernel
theorem dX7_readSworn_110 : decode cX7_readSworn 110 = .ok (.dup, 1) := by decide +kernel
theorem dX7_readSworn_111 : decode cX7_readSworn 111 = .ok (.getfield 78, 3) := by decide +kernel
theorem dX7_readSworn_114 : decode cX7_readSworn 114 = .ok (.iconst 1, 1) := by decide +kernel
theorem dX7_readSworn_115 : decode cX7_readSworn 115 = .ok (.iadd, 1) := by decide +kernel
theorem dX7_readSworn_116 : decode cX7_readSworn 116 = .ok (.putfield 78, 3) := by decide +kernel
theorem dX7_readSworn_119 : decode cX7_readSworn 119 = .ok (.goto 23, 3) := by decide +kernel
theorem dX7_readSworn_122 : decode cX7_readSworn 122 = .ok (.aload_n 0, 1) := by decide +kernel
theorem dX7_readSworn_123 : decode cX7_readSworn 123 = .ok (.getfield 40, 3) := by decide +kernel
theorem dX7_readSworn_126 : decode cX7_readSworn 126 = .ok (.iload_n 1, 1) := by decide +kernel
theorem dX7_readSworn_127 : decode cX7_readSworn 127 = .ok (.iconst 3, 1) := by decide +kernel
theorem dX7_readSworn_128 : decode cX7_readSworn 128 = .ok (.iadd, 1) := by decide +kernel
theorem dX7_readSworn_129 : decode cX7_readSworn 129 = .ok (.aload_n 0, 1) := by decide +kernel
theorem dX7_readSworn_130 : decode cX7_readSworn 130 = .ok (.aload_n 0, 1) := by decide +kernel
theorem dX7_readSworn_131 : decode cX7_readSworn 131 = .ok (.getfield 87, 3) := by decide +kernel
theorem dX7_readSworn_134 : decode cX7_readSworn 134 = .ok (.iconst 1, 1) := by decide +kernel
theorem dX7_readSworn_135 : decode cX7_readSworn 135 = .ok (.isub, 1) := by decide +kernel
theorem dX7_readSworn_136 : decode cX7_readSworn 136 = .ok (.bipush (-9), 2) := by decide +kernel
theorem dX7_readSworn_138 : decode cX7_readSworn 138 = .ok (.invokevirtual 94, 3) := by decide +kernel
theorem dX7_readSworn_141 : decode cX7_readSworn 141 = .ok (.iastore, 1) := by decide +kernel
theorem dX7_readSworn_142 : decode cX7_readSworn 142 = .ok (.aload_n 0, 1) := by decide +kernel
theorem dX7_readSworn_143 : decode cX7_readSworn 143 = .ok (.dup, 1) := by decide +kernel
theorem dX7_readSworn_144 : decode cX7_readSworn 144 = .ok (.getfield 87, 3) := by decide +kernel
theorem dX7_readSworn_147 : decode cX7_readSworn 147 = .ok (.iconst 1, 1) := by decide +kernel
theorem dX7_readSworn_148 : decode cX7_readSworn 148 = .ok (.iadd, 1) := by decide +kernel
theorem dX7_readSworn_149 : decode cX7_readSworn 149 = .ok (.putfield 87, 3) := by decide +kernel
theorem dX7_readSworn_152 : decode cX7_readSworn 152 = .ok (.return_, 1) := by decide +kernel
set_option maxRecDepth 20000 in
theorem ggX7_fault_X7_readText : GoodIn wsX7_fault wsX7_readText := goodIn_r _ [5, 6, 7, 8, 9, 10, 11, 12, 13, 14, 15, 4, 16, 17, 18, 19, 20, 21, 22, 23, 24, 25, 26, 27, 28, 29, 30, 31, 32, 33, 34, 35, 36, 37, 38, 39, 40, 41, 42, 43, 44, 45, 46, 47, 48, 49, 50, 51, 52, 53, 54, 55, 56, 57, 58, 59, 60, 61] (by decide +kernel) (by decide +kernel)
set_option maxRecDepth 20000 in
theorem gX7_fault_X7_readText : GoodIn wsX7_fault (wsV RX7 101 RX7 yX7_readText wsX7_readText) := goodIn_app (goodIn_of _ (by decide +kernel)) ggX7_fault_X7_readText
theorem dX7_fault_0 : decode cX7_fault 0 = .ok (.aload_n 0, 1) := by decide +kernel
theorem dX7_fault_1 : decode cX7_fault 1 = .ok (.invokevirtual 101, 3) := by decide +kernel
theorem dX7_fault_4 : decode cX7_fault 4 = .ok (.ireturn, 1) := by decide +kernel
set_option maxRecDepth 20000 in
theorem ggX7_county_X7_readText : GoodIn wsX7_county wsX7_readText := goodIn_r _ [24, 25, 26, 1, 3, 5, 27, 28, 29, 30, 31, 23, 32, 8, 11, 33, 34, 35, 36, 37, 38, 39, 40, 41, 42, 43, 14, 44, 45, 46, 47, 48, 49, 50, 51, 52, 53, 54, 55, 56, 57, 58, 59, 60, 61, 62, 63, 64, 65, 66, 67, 68, 69, 70, 71, 72, 73, 74] (by decide +kernel) (by decide +kernel)
set_option maxRecDepth 20000 in
theorem gX7_county_X7_readText : GoodIn wsX7_county (wsV RX7 101 RX7 yX7_readText wsX7_readText) := goodIn_app (goodIn_of _ (by decide +kernel)) ggX7_county_X7_readText
theorem dX7_county_0 : decode cX7_county 0 = .ok (.aload_n 0, 1) := by decide +kernel
theorem dX7_county_1 : decode cX7_county 1 = .ok (.invokevirtual 101, 3) := by decide +kernel
theorem dX7_county_4 : decode cX7_county 4 = .ok (.bipush (-9), 2) := by decide +kernel
theorem dX7_county_6 : decode cX7_county 6 = .ok (.if_icmp .eq 6, 3) := by decide +kernel
theorem dX7_county_9 : decode cX7_county 9 = .ok (.bipush (-3), 2) := by decide +kernel
theorem dX7_county_11 : decode cX7_county 11 = .ok (.ireturn, 1) := by decide +kernel
theorem dX7_county_12 : decode cX7_county 12 = .ok (.aload_n 0, 1) := by decide +kernel
theorem dX7_county_13 : decode cX7_county 13 = .ok (.aload_n 0, 1) := by decide +kernel
theorem dX7_county_14 : decode cX7_county 14 = .ok (.getfield 81, 3) := by decide +kernel
theorem dX7_county_17 : decode cX7_county 17 = .ok (.putfield 105, 3) := by decide +kernel
theorem dX7_county_20 : decode cX7_county 20 = .ok (.aload_n 0, 1) := by decide +kernel
theorem dX7_county_21 : decode cX7_county 21 = .ok (.aload_n 0, 1) := by decide +kernel
theorem dX7_county_22 : decode cX7_county 22 = .ok (.getfield 84, 3) := by decide +kernel
theorem dX7_county_25 : decode cX7_county 25 = .ok (.putfield 108, 3) := by decide +kernel
theorem dX7_county_28 : decode cX7_county 28 = .ok (.aload_n 0, 1) := by decide +kernel
theorem dX7_county_29 : decode cX7_county 29 = .ok (.aload_n 0, 1) := by decide +kernel
theorem dX7_county_30 : decode cX7_county 30 = .ok (.getfield 87, 3) := by decide +kernel
theorem dX7_county_33 : decode cX7_county 33 = .ok (.putfield 111, 3) := by decide +kernel
theorem dX7_county_36 : decode cX7_county 36 = .ok (.iconst 0, 1) := by decide +kernel
theorem dX7_county_37 : decode cX7_county 37 = .ok (.istore_n 1, 1) := by decide +kernel
theorem dX7_county_38 : decode cX7_county 38 = .ok (.iload_n 1, 1) := by decide +kernel
theorem dX7_county_39 : decode cX7_county 39 = .ok (.bipush 9, 2) := by decide +kernel
theorem dX7_county_41 : decode cX7_county 41 = .ok (.if_icmp .ge 16, 3) := by decide +kernel
theorem dX7_county_44 : decode cX7_county 44 = .ok (.aload_n 0, 1) := by decide +kernel
theorem dX7_county_45 : decode cX7_county 45 = .ok (.getfield 31, 3) := by decide +kernel
theorem dX7_county_48 : decode cX7_county 48 = .ok (.iload_n 1, 1) := by decide +kernel
theorem dX7_county_49 : decode cX7_county 49 = .ok (.iconst 0, 1) := by decide +kernel
theorem dX7_county_50 : decode cX7_county 50 = .ok (.iastore, 1) := by decide +kernel
theorem dX7_county_51 : decode cX7_county 51 = .ok (.iinc 1 1, 3) := by decide +kernel
theorem dX7_county_54 : decode cX7_county 54 = .ok (.goto (-16), 3) := by decide +kernel
theorem dX7_county_57 : decode cX7_county 57 = .ok (.iconst 0, 1) := by decide +kernel
theorem dX7_county_58 : decode cX7_county 58 = .ok (.istore_n 1, 1) := by decide +kernel
theorem dX7_county_59 : decode cX7_county 59 = .ok (.iload_n 1, 1) := by decide +kernel
theorem dX7_county_60 : decode cX7_county 60 = .ok (.aload_n 0, 1) := by decide +kernel
theorem dX7_county_61 : decode cX7_county 61 = .ok (.getfield 105, 3) := by decide +kernel
theorem dX7_county_64 : decode cX7_county 64 = .ok (.if_icmp .ge 65, 3) := by decide +kernel
theorem dX7_county_67 : decode cX7_county 67 = .ok (.aload_n 0, 1) := by decide +kernel
theorem dX7_county_68 : decode cX7_county 68 = .ok (.getfield 31, 3) := by decide +kernel
theorem dX7_county_71 : decode cX7_county 71 = .ok (.iload_n 1, 1) := by decide +kernel
theorem dX7_county_72 : decode cX7_county 72 = .ok (.aload_n 0, 1) := by decide +kernel
theorem dX7_county_73 : decode cX7_county 73 = .ok (.getfield 34, 3) := by decide +kernel
theorem dX7_county_76 : decode cX7_county 76 = .ok (.iconst 2, 1) := by decide +kernel
theorem dX7_county_77 : decode cX7_county 77 = .ok (.iload_n 1, 1) := by decide +kernel
theorem dX7_county_78 : decode cX7_county 78 = .ok (.imul, 1) := by decide +kernel
theorem dX7_county_79 : decode cX7_county 79 = .ok (.iaload, 1) := by decide +kernel
theorem dX7_county_80 : decode cX7_county 80 = .ok (.iastore, 1) := by decide +kernel
theorem dX7_county_81 : decode cX7_county 81 = .ok (.aload_n 0, 1) := by decide +kernel
theorem dX7_county_82 : decode cX7_county 82 = .ok (.getfield 7, 3) := by decide +kernel
theorem dX7_county_85 : decode cX7_county 85 = .ok (.iload_n 1, 1) := by decide +kernel
theorem dX7_county_86 : decode cX7_county 86 = .ok (.aload_n 0, 1) := by decide +kernel
theorem dX7_county_87 : decode cX7_county 87 = .ok (.getfield 34, 3) := by decide +kernel
theorem dX7_county_90 : decode cX7_county 90 = .ok (.iconst 2, 1) := by decide +kernel
theorem dX7_county_91 : decode cX7_county 91 = .ok (.iload_n 1, 1) := by decide +kernel
theorem dX7_county_92 : decode cX7_county 92 = .ok (.imul, 1) := by decide +kernel
theorem dX7_county_93 : decode cX7_county 93 = .ok (.iconst 1, 1) := by decide +kernel
theorem dX7_county_94 : decode cX7_county 94 = .ok (.iadd, 1) := by decide +kernel
theorem dX7_county_95 : decode cX7_county 95 = .ok (.iaload, 1) := by decide +kernel
theorem dX7_county_96 : decode cX7_county 96 = .ok (.iastore, 1) := by decide +kernel
theorem dX7_county_97 : decode cX7_county 97 = .ok (.aload_n 0, 1) := by decide +kernel
theorem dX7_county_98 : decode cX7_county 98 = .ok (.getfield 31, 3) := by decide +kernel
theorem dX7_county_101 : decode cX7_county 101 = .ok (.iconst 5, 1) := by decide +kernel
theorem dX7_county_102 : decode cX7_county 102 = .ok (.dup2, 1) := by decide +kernel
theorem dX7_county_103 : decode cX7_county 103 = .ok (.iaload, 1) := by decide +kernel
theorem dX7_county_104 : decode cX7_county 104 = .ok (.aload_n 0, 1) := by decide +kernel
theorem dX7_county_105 : decode cX7_county 105 = .ok (.getfield 7, 3) := by decide +kernel
theorem dX7_county_108 : decode cX7_county 108 = .ok (.iload_n 1, 1) := by decide +kernel
theorem dX7_county_109 : decode cX7_county 109 = .ok (.iaload, 1) := by decide +kernel
theorem dX7_county_110 : decode cX7_county 110 = .ok (.iconst 1, 1) := by decide +kernel
theorem dX7_county_111 : decode cX7_county 111 = .ok (.if_icmp .ne 9, 3) := by decide +kernel
theorem dX7_county_114 : decode cX7_county 114 = .ok (.iconst 1, 1) := by decide +kernel
theorem dX7_county_115 : decode cX7_county 115 = .ok (.iload_n 1, 1) := by decide +kernel
theorem dX7_county_116 : decode cX7_county 116 = .ok (.ishl, 1) := by decide +kernel
theorem dX7_county_117 : decode cX7_county 117 = .ok (.goto 4, 3) := by decide +kernel
theorem dX7_county_120 : decode cX7_county 120 = .ok (.iconst 0, 1) := by decide +kernel
theorem dX7_county_121 : decode cX7_county 121 = .ok (.ior, 1) := by decide +kernel
theorem dX7_county_122 : decode cX7_county 122 = .ok (.iastore, 1) := by decide +kernel
theorem dX7_county_123 : decode cX7_county 123 = .ok (.iinc 1 1, 3) := by decide +kernel
theorem dX7_county_126 : decode cX7_county 126 = .ok (.goto (-67), 3) := by decide +kernel
theorem dX7_county_129 : decode cX7_county 129 = .ok (.iconst 0, 1) := by decide +kernel
theorem dX7_county_130 : decode cX7_county 130 = .ok (.istore_n 1, 1) := by decide +kernel
theorem dX7_county_131 : decode cX7_county 131 = .ok (.iload_n 1, 1) := by decide +kernel
theorem dX7_county_132 : decode cX7_county 132 = .ok (.aload_n 0, 1) := by decide +kernel
theorem dX7_county_133 : decode cX7_county 133 = .ok (.getfield 108, 3) := by decide +kernel
theorem dX7_county_136 : decode cX7_county 136 = .ok (.if_icmp .ge 39, 3) := by decide +kernel
theorem dX7_county_139 : decode cX7_county 139 = .ok (.aload_n 0, 1) := by decide +kernel
theorem dX7_county_140 : decode cX7_county 140 = .ok (.getfield 13, 3) := by decide +kernel
theorem dX7_county_143 : decode cX7_county 143 = .ok (.iload_n 1, 1) := by decide +kernel
theorem dX7_county_144 : decode cX7_county 144 = .ok (.aload_n 0, 1) := by decide +kernel
theorem dX7_county_145 : decode cX7_county 145 = .ok (.getfield 37, 3) := by decide +kernel
theorem dX7_county_148 : decode cX7_county 148 = .ok (.iconst 2, 1) := by decide +kernel
theorem dX7_county_149 : decode cX7_county 149 = .ok (.iload_n 1, 1) := by decide +kernel
theorem dX7_county_150 : decode cX7_county 150 = .ok (.imul, 1) := by decide +kernel
theorem dX7_county_151 : decode cX7_county 151 = .ok (.iaload, 1) := by decide +kernel
theorem dX7_county_152 : decode cX7_county 152 = .ok (.iastore, 1) := by decide +kernel
theorem dX7_county_153 : decode cX7_county 153 = .ok (.aload_n 0, 1) := by decide +kernel
theorem dX7_county_154 : decode cX7_county 154 = .ok (.getfield 16, 3) := by decide +kernel
theorem dX7_county_157 : decode cX7_county 157 = .ok (.iload_n 1, 1) := by decide +kernel
theorem dX7_county_158 : decode cX7_county 158 = .ok (.aload_n 0, 1) := by decide +kernel
theorem dX7_county_159 : decode cX7_county 159 = .ok (.getfield 37, 3) := by decide +kernel
theorem dX7_county_162 : decode cX7_county 162 = .ok (.iconst 2, 1) := by decide +kernel
theorem dX7_county_163 : decode cX7_county 163 = .ok (.iload_n 1, 1) := by decide +kernel
theorem dX7_county_164 : decode cX7_county 164 = .ok (.imul, 1) := by decide +kernel
theorem dX7_county_165 : decode cX7_county 165 = .ok (.iconst 1, 1) := by decide +kernel
theorem dX7_county_166 : decode cX7_county 166 = .ok (.iadd, 1) := by decide +kernel
theorem dX7_county_167 : decode cX7_county 167 = .ok (.iaload, 1) := by decide +kernel
theorem dX7_county_168 : decode cX7_county 168 = .ok (.iastore, 1) := by decide +kernel
theorem dX7_county_169 : decode cX7_county 169 = .ok (.iinc 1 1, 3) := by decide +kernel
theorem dX7_county_172 : decode cX7_county 172 = .ok (.goto (-41), 3) := by decide +kernel
theorem dX7_county_175 : decode cX7_county 175 = .ok (.iconst 0, 1) := by decide +kernel
theorem dX7_county_176 : decode cX7_county 176 = .ok (.istore_n 1, 1) := by decide +kernel
theorem dX7_county_177 : decode cX7_county 177 = .ok (.iload_n 1, 1) := by decide +kernel
theorem dX7_county_178 : decode cX7_county 178 = .ok (.aload_n 0, 1) := by decide +kernel
theorem dX7_county_179 : decode cX7_county 179 = .ok (.getfield 111, 3) := by decide +kernel
theorem dX7_county_182 : decode cX7_county 182 = .ok (.if_icmp .ge 71, 3) := by decide +kernel
theorem dX7_county_185 : decode cX7_county 185 = .ok (.aload_n 0, 1) := by decide +kernel
theorem dX7_county_186 : decode cX7_county 186 = .ok (.getfield 19, 3) := by decide +kernel
theorem dX7_county_189 : decode cX7_county 189 = .ok (.iload_n 1, 1) := by decide +kernel
theorem dX7_county_190 : decode cX7_county 190 = .ok (.aload_n 0, 1) := by decide +kernel
theorem dX7_county_191 : decode cX7_county 191 = .ok (.getfield 40, 3) := by decide +kernel
theorem dX7_county_194 : decode cX7_county 194 = .ok (.iconst 4, 1) := by decide +kernel
theorem dX7_county_195 : decode cX7_county 195 = .ok (.iload_n 1, 1) := by decide +kernel
theorem dX7_county_196 : decode cX7_county 196 = .ok (.imul, 1) := by decide +kernel
theorem dX7_county_197 : decode cX7_county 197 = .ok (.iaload, 1) := by decide +kernel
theorem dX7_county_198 : decode cX7_county 198 = .ok (.iastore, 1) := by decide +kernel
theorem dX7_county_199 : decode cX7_county 199 = .ok (.aload_n 0, 1) := by decide +kernel
theorem dX7_county_200 : decode cX7_county 200 = .ok (.getfield 22, 3) := by decide +kernel
theorem dX7_county_203 : decode cX7_county 203 = .ok (.iload_n 1, 1) := by decide +kernel
theorem dX7_county_204 : decode cX7_county 204 = .ok (.aload_n 0, 1) := by decide +kernel
theorem dX7_county_205 : decode cX7_county 205 = .ok (.getfield 40, 3) := by decide +kernel
theorem dX7_county_208 : decode cX7_county 208 = .ok (.iconst 4, 1) := by decide +kernel
theorem dX7_county_209 : decode cX7_county 209 = .ok (.iload_n 1, 1) := by decide +kernel
theorem dX7_county_210 : decode cX7_county 210 = .ok (.imul, 1) := by decide +kernel
theorem dX7_county_211 : decode cX7_county 211 = .ok (.iconst 1, 1) := by decide +kernel
theorem dX7_county_212 : decode cX7_county 212 = .ok (.iadd, 1) := by decide +kernel
theorem dX7_county_213 : decode cX7_county 213 = .ok (.iaload, 1) := by decide +kernel
theorem dX7_county_214 : decode cX7_county 214 = .ok (.iastore, 1) := by decide +kernel
theorem dX7_county_215 : decode cX7_county 215 = .ok (.aload_n 0, 1) := by decide +kernel
theorem dX7_county_216 : decode cX7_county 216 = .ok (.getfield 25, 3) := by decide +kernel
theorem dX7_county_219 : decode cX7_county 219 = .ok (.iload_n 1, 1) := by decide +kernel
theorem dX7_county_220 : decode cX7_county 220 = .ok (.aload_n 0, 1) := by decide +kernel
theorem dX7_county_221 : decode cX7_county 221 = .ok (.getfield 40, 3) := by decide +kernel
theorem dX7_county_224 : decode cX7_county 224 = .ok (.iconst 4, 1) := by decide +kernel
theorem dX7_county_225 : decode cX7_county 225 = .ok (.iload_n 1, 1) := by decide +kernel
theorem dX7_county_226 : decode cX7_county 226 = .ok (.imul, 1) := by decide +kernel
theorem dX7_county_227 : decode cX7_county 227 = .ok (.iconst 2, 1) := by decide +kernel
theorem dX7_county_228 : decode cX7_county 228 = .ok (.iadd, 1) := by decide +kernel
theorem dX7_county_229 : decode cX7_county 229 = .ok (.iaload, 1) := by decide +kernel
theorem dX7_county_230 : decode cX7_county 230 = .ok (.iastore, 1) := by decide +kernel
theorem dX7_county_231 : decode cX7_county 231 = .ok (.aload_n 0, 1) := by decide +kernel
theorem dX7_county_232 : decode cX7_county 232 = .ok (.getfield 28, 3) := by decide +kernel
theorem dX7_county_235 : decode cX7_county 235 = .ok (.iload_n 1, 1) := by decide +kernel
theorem dX7_county_236 : decode cX7_county 236 = .ok (.aload_n 0, 1) := by decide +kernel
theorem dX7_county_237 : decode cX7_county 237 = .ok (.getfield 40, 3) := by decide +kernel
theorem dX7_county_240 : decode cX7_county 240 = .ok (.iconst 4, 1) := by decide +kernel
theorem dX7_county_241 : decode cX7_county 241 = .ok (.iload_n 1, 1) := by decide +kernel
theorem dX7_county_242 : decode cX7_county 242 = .ok (.imul, 1) := by decide +kernel
theorem dX7_county_243 : decode cX7_county 243 = .ok (.iconst 3, 1) := by decide +kernel
theorem dX7_county_244 : decode cX7_county 244 = .ok (.iadd, 1) := by decide +kernel
theorem dX7_county_245 : decode cX7_county 245 = .ok (.iaload, 1) := by decide +kernel
theorem dX7_county_246 : decode cX7_county 246 = .ok (.iastore, 1) := by decide +kernel
theorem dX7_county_247 : decode cX7_county 247 = .ok (.iinc 1 1, 3) := by decide +kernel
theorem dX7_county_250 : decode cX7_county 250 = .ok (.goto (-73), 3) := by decide +kernel
theorem dX7_county_253 : decode cX7_county 253 = .ok (.aload_n 0, 1) := by decide +kernel
theorem dX7_county_254 : decode cX7_county 254 = .ok (.getfield 31, 3) := by decide +kernel
theorem dX7_county_257 : decode cX7_county 257 = .ok (.bipush 6, 2) := by decide +kernel
theorem dX7_county_259 : decode cX7_county 259 = .ok (.iconst 1, 1) := by decide +kernel
theorem dX7_county_260 : decode cX7_county 260 = .ok (.aload_n 0, 1) := by decide +kernel
theorem dX7_county_261 : decode cX7_county 261 = .ok (.getfield 111, 3) := by decide +kernel
theorem dX7_county_264 : decode cX7_county 264 = .ok (.ishl, 1) := by decide +kernel
theorem dX7_county_265 : decode cX7_county 265 = .ok (.iconst 1, 1) := by decide +kernel
theorem dX7_county_266 : decode cX7_county 266 = .ok (.isub, 1) := by decide +kernel
theorem dX7_county_267 : decode cX7_county 267 = .ok (.iastore, 1) := by decide +kernel
theorem dX7_county_268 : decode cX7_county 268 = .ok (.aload_n 0, 1) := by decide +kernel
theorem dX7_county_269 : decode cX7_county 269 = .ok (.iconst 0, 1) := by decide +kernel
theorem dX7_county_270 : decode cX7_county 270 = .ok (.putfield 114, 3) := by decide +kernel
theorem dX7_county_273 : decode cX7_county 273 = .ok (.aload_n 0, 1) := by decide +kernel
theorem dX7_county_274 : decode cX7_county 274 = .ok (.getfield 58, 3) := by decide +kernel
theorem dX7_county_277 : decode cX7_county 277 = .ok (.iconst 0, 1) := by decide +kernel
theorem dX7_county_278 : decode cX7_county 278 = .ok (.iconst 0, 1) := by decide +kernel
theorem dX7_county_279 : decode cX7_county 279 = .ok (.bastore, 1) := by decide +kernel
theorem dX7_county_280 : decode cX7_county 280 = .ok (.aload_n 0, 1) := by decide +kernel
theorem dX7_county_281 : decode cX7_county 281 = .ok (.getfield 58, 3) := by decide +kernel
theorem dX7_county_284 : decode cX7_county 284 = .ok (.iconst 1, 1) := by decide +kernel
theorem dX7_county_285 : decode cX7_county 285 = .ok (.iconst 0, 1) := by decide +kernel
theorem dX7_county_286 : decode cX7_county 286 = .ok (.bastore, 1) := by decide +kernel
theorem dX7_county_287 : decode cX7_county 287 = .ok (.bipush 100, 2) := by decide +kernel
theorem dX7_county_289 : decode cX7_county 289 = .ok (.aload_n 0, 1) := by decide +kernel
theorem dX7_county_290 : decode cX7_county 290 = .ok (.getfield 105, 3) := by decide +kernel
theorem dX7_county_293 : decode cX7_county 293 = .ok (.imul, 1) := by decide +kernel
theorem dX7_county_294 : decode cX7_county 294 = .ok (.bipush 10, 2) := by decide +kernel
theorem dX7_county_296 : decode cX7_county 296 = .ok (.aload_n 0, 1) := by decide +kernel
theorem dX7_county_297 : decode cX7_county 297 = .ok (.getfield 108, 3) := by decide +kernel
theorem dX7_county_300 : decode cX7_county 300 = .ok (.imul, 1) := by decide +kernel
theorem dX7_county_301 : decode cX7_county 301 = .ok (.iadd, 1) := by decide +kernel
theorem dX7_county_302 : decode cX7_county 302 = .ok (.aload_n 0, 1) := by decide +kernel
theorem dX7_county_303 : decode cX7_county 303 = .ok (.getfield 111, 3) := by decide +kernel
theorem dX7_county_306 : decode cX7_county 306 = .ok (.iadd, 1) := by decide +kernel
theorem dX7_county_307 : decode cX7_county 307 = .ok (.ireturn, 1) := by decide +kernel
set_option maxRecDepth 20000 in
theorem ggX7_isPerson_X7_in : GoodIn wsX7_isPerson wsX7_in := goodIn_r _ [5] (by decide +kernel) (by decide +kernel)
set_option maxRecDepth 20000 in
theorem gX7_isPerson_X7_in : GoodIn wsX7_isPerson (va_wsS RX7 67 yX7_in wsX7_in) := goodIn_app (goodIn_of _ (by decide +kernel)) ggX7_isPerson_X7_in
theorem dX7_isPerson_0 : decode cX7_isPerson 0 = .ok (.iload_n 1, 1) := by decide +kernel
theorem dX7_isPerson_1 : decode cX7_isPerson 1 = .ok (.i2l, 1) := by decide +kernel
theorem dX7_isPerson_2 : decode cX7_isPerson 2 = .ok (.lconst 0, 1) := by decide +kernel
theorem dX7_isPerson_3 : decode cX7_isPerson 3 = .ok (.aload_n 0, 1) := by decide +kernel
theorem dX7_isPerson_4 : decode cX7_isPerson 4 = .ok (.getfield 105, 3) := by decide +kernel
theorem dX7_isPerson_7 : decode cX7_isPerson 7 = .ok (.iconst 1, 1) := by decide +kernel
theorem dX7_isPerson_8 : decode cX7_isPerson 8 = .ok (.isub, 1) := by decide +kernel
theorem dX7_isPerson_9 : decode cX7_isPerson 9 = .ok (.i2l, 1) := by decide +kernel
theorem dX7_isPerson_10 : decode cX7_isPerson 10 = .ok (.invokestatic 67, 3) := by decide +kernel
theorem dX7_isPerson_13 : decode cX7_isPerson 13 = .ok (.ireturn, 1) := by decide +kernel
set_option maxRecDepth 20000 in
theorem ggX7_isOath_X7_in : GoodIn wsX7_isOath wsX7_in := goodIn_r _ [5] (by decide +kernel) (by decide +kernel)
set_option maxRecDepth 20000 in
theorem gX7_isOath_X7_in : GoodIn wsX7_isOath (va_wsS RX7 67 yX7_in wsX7_in) := goodIn_app (goodIn_of _ (by decide +kernel)) ggX7_isOath_X7_in
theorem dX7_isOath_0 : decode cX7_isOath 0 = .ok (.iload_n 1, 1) := by decide +kernel
theorem dX7_isOath_1 : decode cX7_isOath 1 = .ok (.i2l, 1) := by decide +kernel
theorem dX7_isOath_2 : decode cX7_isOath 2 = .ok (.lconst 0, 1) := by decide +kernel
theorem dX7_isOath_3 : decode cX7_isOath 3 = .ok (.aload_n 0, 1) := by decide +kernel
theorem dX7_isOath_4 : decode cX7_isOath 4 = .ok (.getfield 111, 3) := by decide +kernel
theorem dX7_isOath_7 : decode cX7_isOath 7 = .ok (.iconst 1, 1) := by decide +kernel
theorem dX7_isOath_8 : decode cX7_isOath 8 = .ok (.isub, 1) := by decide +kernel
theorem dX7_isOath_9 : decode cX7_isOath 9 = .ok (.i2l, 1) := by decide +kernel
theorem dX7_isOath_10 : decode cX7_isOath 10 = .ok (.invokestatic 67, 3) := by decide +kernel
theorem dX7_isOath_13 : decode cX7_isOath 13 = .ok (.ireturn, 1) := by decide +kernel
set_option maxRecDepth 20000 in
theorem ggX7_isPlace_X7_in : GoodIn wsX7_isPlace wsX7_in := goodIn_r _ [5] (by decide +kernel) (by decide +kernel)
set_option maxRecDepth 20000 in
theorem gX7_isPlace_X7_in : GoodIn wsX7_isPlace (va_wsS RX7 67 yX7_in wsX7_in) := goodIn_app (goodIn_of _ (by decide +kernel)) ggX7_isPlace_X7_in
theorem dX7_isPlace_0 : decode cX7_isPlace 0 = .ok (.iload_n 0, 1) := by decide +kernel
theorem dX7_isPlace_1 : decode cX7_isPlace 1 = .ok (.i2l, 1) := by decide +kernel
theorem dX7_isPlace_2 : decode cX7_isPlace 2 = .ok (.lconst 0, 1) := by decide +kernel
theorem dX7_isPlace_3 : decode cX7_isPlace 3 = .ok (.ldc2_w 117, 3) := by decide +kernel
theorem dX7_isPlace_6 : decode cX7_isPlace 6 = .ok (.invokestatic 67, 3) := by decide +kernel
theorem dX7_isPlace_9 : decode cX7_isPlace 9 = .ok (.ireturn, 1) := by decide +kernel
theorem dX7_far_0 : decode cX7_far 0 = .ok (.iload_n 0, 1) := by decide +kernel
theorem dX7_far_1 : decode cX7_far 1 = .ok (.iload_n 1, 1) := by decide +kernel
theorem dX7_far_2 : decode cX7_far 2 = .ok (.if_icmp .le 9, 3) := by decide +kernel
theorem dX7_far_5 : decode cX7_far 5 = .ok (.iload_n 0, 1) := by decide +kernel
theorem dX7_far_6 : decode cX7_far 6 = .ok (.iload_n 1, 1) := by decide +kernel
theorem dX7_far_7 : decode cX7_far 7 = .ok (.isub, 1) := by decide +kernel
theorem dX7_far_8 : decode cX7_far 8 = .ok (.goto 6, 3) := by decide +kernel
theorem dX7_far_11 : decode cX7_far 11 = .ok (.iload_n 1, 1) := by decide +kernel
theorem dX7_far_12 : decode cX7_far 12 = .ok (.iload_n 0, 1) := by decide +kernel
theorem dX7_far_13 : decode cX7_far 13 = .ok (.isub, 1) := by decide +kernel
theorem dX7_far_14 : decode cX7_far 14 = .ok (.ireturn, 1) := by decide +kernel
set_option maxRecDepth 20000 in
theorem ggX7_hears_X7_has : GoodIn wsX7_hears wsX7_has := goodIn_r _ [6] (by decide +kernel) (by decide +kernel)
set_option maxRecDepth 20000 in
theorem gX7_hears_X7_has : GoodIn wsX7_hears (va_wsS RX7 119 yX7_has wsX7_has) := goodIn_app (goodIn_of _ (by decide +kernel)) ggX7_hears_X7_has
set_option maxRecDepth 20000 in
theorem ggX7_hears_X7_far : GoodIn wsX7_hears wsX7_far := goodIn_r _ [9] (by decide +kernel) (by decide +kernel)
set_option maxRecDepth 20000 in
theorem gX7_hears_X7_far : GoodIn wsX7_hears (va_wsS RX7 123 yX7_far wsX7_far) := goodIn_app (goodIn_of _ (by decide +kernel)) ggX7_hears_X7_far
theorem dX7_hears_0 : decode cX7_hears 0 = .ok (.aload_n 0, 1) := by decide +kernel
theorem dX7_hears_1 : decode cX7_hears 1 = .ok (.getfield 31, 3) := by decide +kernel
theorem dX7_hears_4 : decode cX7_hears 4 = .ok (.bipush 9, 2) := by decide +kernel
theorem dX7_hears_6 : decode cX7_hears 6 = .ok (.iload_n 1, 1) := by decide +kernel
theorem dX7_hears_7 : decode cX7_hears 7 = .ok (.imul, 1) := by decide +kernel
theorem dX7_hears_8 : decode cX7_hears 8 = .ok (.iconst 5, 1) := by decide +kernel
theorem dX7_hears_9 : decode cX7_hears 9 = .ok (.iadd, 1) := by decide +kernel
theorem dX7_hears_10 : decode cX7_hears 10 = .ok (.iaload, 1) := by decide +kernel
theorem dX7_hears_11 : decode cX7_hears 11 = .ok (.iload_n 2, 1) := by decide +kernel
theorem dX7_hears_12 : decode cX7_hears 12 = .ok (.invokestatic 119, 3) := by decide +kernel
theorem dX7_hears_15 : decode cX7_hears 15 = .ok (.ifCond .eq 10, 3) := by decide +kernel
theorem dX7_hears_18 : decode cX7_hears 18 = .ok (.iload 4, 2) := by decide +kernel
theorem dX7_hears_20 : decode cX7_hears 20 = .ok (.iconst 2, 1) := by decide +kernel
theorem dX7_hears_21 : decode cX7_hears 21 = .ok (.idiv, 1) := by decide +kernel
theorem dX7_hears_22 : decode cX7_hears 22 = .ok (.goto 5, 3) := by decide +kernel
theorem dX7_hears_25 : decode cX7_hears 25 = .ok (.iload 4, 2) := by decide +kernel
theorem dX7_hears_27 : decode cX7_hears 27 = .ok (.istore 5, 2) := by decide +kernel
theorem dX7_hears_29 : decode cX7_hears 29 = .ok (.aload_n 0, 1) := by decide +kernel
theorem dX7_hears_30 : decode cX7_hears 30 = .ok (.getfield 7, 3) := by decide +kernel
theorem dX7_hears_33 : decode cX7_hears 33 = .ok (.iload_n 2, 1) := by decide +kernel
theorem dX7_hears_34 : decode cX7_hears 34 = .ok (.iaload, 1) := by decide +kernel
theorem dX7_hears_35 : decode cX7_hears 35 = .ok (.iconst 2, 1) := by decide +kernel
theorem dX7_hears_36 : decode cX7_hears 36 = .ok (.if_icmp .eq 27, 3) := by decide +kernel
theorem dX7_hears_39 : decode cX7_hears 39 = .ok (.aload_n 0, 1) := by decide +kernel
theorem dX7_hears_40 : decode cX7_hears 40 = .ok (.getfield 31, 3) := by decide +kernel
theorem dX7_hears_43 : decode cX7_hears 43 = .ok (.bipush 9, 2) := by decide +kernel
theorem dX7_hears_45 : decode cX7_hears 45 = .ok (.iload_n 1, 1) := by decide +kernel
theorem dX7_hears_46 : decode cX7_hears 46 = .ok (.imul, 1) := by decide +kernel
theorem dX7_hears_47 : decode cX7_hears 47 = .ok (.iload_n 2, 1) := by decide +kernel
theorem dX7_hears_48 : decode cX7_hears 48 = .ok (.iadd, 1) := by decide +kernel
theorem dX7_hears_49 : decode cX7_hears 49 = .ok (.iaload, 1) := by decide +kernel
theorem dX7_hears_50 : decode cX7_hears 50 = .ok (.iload_n 3, 1) := by decide +kernel
theorem dX7_hears_51 : decode cX7_hears 51 = .ok (.invokestatic 123, 3) := by decide +kernel
theorem dX7_hears_54 : decode cX7_hears 54 = .ok (.iload 5, 2) := by decide +kernel
theorem dX7_hears_56 : decode cX7_hears 56 = .ok (.if_icmp .gt 7, 3) := by decide +kernel
theorem dX7_hears_59 : decode cX7_hears 59 = .ok (.iconst 1, 1) := by decide +kernel
theorem dX7_hears_60 : decode cX7_hears 60 = .ok (.goto 4, 3) := by decide +kernel
theorem dX7_hears_63 : decode cX7_hears 63 = .ok (.iconst 0, 1) := by decide +kernel
theorem dX7_hears_64 : decode cX7_hears 64 = .ok (.ireturn, 1) := by decide +kernel
set_option maxRecDepth 20000 in
theorem ggX7_hearers_X7_hears : GoodIn wsX7_hearers wsX7_hears := goodIn_r _ [6, 7, 8, 9, 10, 5, 11, 12, 13, 14, 15, 16, 17, 18, 19, 20, 21, 22, 23, 24, 25, 26, 27, 28, 29, 30, 31, 32, 33, 34, 35, 36, 37, 38, 39, 40, 41, 42, 43, 44, 45] (by decide +kernel) (by decide +kernel)
set_option maxRecDepth 20000 in
theorem gX7_hearers_X7_hears : GoodIn wsX7_hearers (wsV RX7 126 RX7 yX7_hears wsX7_hears) := goodIn_app (goodIn_of _ (by decide +kernel)) ggX7_hearers_X7_hears
theorem dX7_hearers_0 : decode cX7_hearers 0 = .ok (.iconst 0, 1) := by decide +kernel
theorem dX7_hearers_1 : decode cX7_hearers 1 = .ok (.istore 4, 2) := by decide +kernel
theorem dX7_hearers_3 : decode cX7_hearers 3 = .ok (.iconst 0, 1) := by decide +kernel
theorem dX7_hearers_4 : decode cX7_hearers 4 = .ok (.istore 5, 2) := by decide +kernel
theorem dX7_hearers_6 : decode cX7_hearers 6 = .ok (.iload 5, 2) := by decide +kernel
theorem dX7_hearers_8 : decode cX7_hearers 8 = .ok (.aload_n 0, 1) := by decide +kernel
theorem dX7_hearers_9 : decode cX7_hearers 9 = .ok (.getfield 105, 3) := by decide +kernel
theorem dX7_hearers_12 : decode cX7_hearers 12 = .ok (.if_icmp .ge 40, 3) := by decide +kernel
theorem dX7_hearers_15 : decode cX7_hearers 15 = .ok (.iload_n 2, 1) := by decide +kernel
theorem dX7_hearers_16 : decode cX7_hearers 16 = .ok (.bipush (-9), 2) := by decide +kernel
theorem dX7_hearers_18 : decode cX7_hearers 18 = .ok (.if_icmp .eq 34, 3) := by decide +kernel
theorem dX7_hearers_21 : decode cX7_hearers 21 = .ok (.iload 4, 2) := by decide +kernel
theorem dX7_hearers_23 : decode cX7_hearers 23 = .ok (.aload_n 0, 1) := by decide +kernel
theorem dX7_hearers_24 : decode cX7_hearers 24 = .ok (.iload_n 1, 1) := by decide +kernel
theorem dX7_hearers_25 : decode cX7_hearers 25 = .ok (.iload 5, 2) := by decide +kernel
theorem dX7_hearers_27 : decode cX7_hearers 27 = .ok (.iload_n 2, 1) := by decide +kernel
theorem dX7_hearers_28 : decode cX7_hearers 28 = .ok (.iload_n 3, 1) := by decide +kernel
theorem dX7_hearers_29 : decode cX7_hearers 29 = .ok (.invokevirtual 126, 3) := by decide +kernel
theorem dX7_hearers_32 : decode cX7_hearers 32 = .ok (.ifCond .eq 10, 3) := by decide +kernel
theorem dX7_hearers_35 : decode cX7_hearers 35 = .ok (.iconst 1, 1) := by decide +kernel
theorem dX7_hearers_36 : decode cX7_hearers 36 = .ok (.iload 5, 2) := by decide +kernel
theorem dX7_hearers_38 : decode cX7_hearers 38 = .ok (.ishl, 1) := by decide +kernel
theorem dX7_hearers_39 : decode cX7_hearers 39 = .ok (.goto 4, 3) := by decide +kernel
theorem dX7_hearers_42 : decode cX7_hearers 42 = .ok (.iconst 0, 1) := by decide +kernel
theorem dX7_hearers_43 : decode cX7_hearers 43 = .ok (.ior, 1) := by decide +kernel
theorem dX7_hearers_44 : decode cX7_hearers 44 = .ok (.istore 4, 2) := by decide +kernel
theorem dX7_hearers_46 : decode cX7_hearers 46 = .ok (.iinc 5 1, 3) := by decide +kernel
theorem dX7_hearers_49 : decode cX7_hearers 49 = .ok (.goto (-43), 3) := by decide +kernel
theorem dX7_hearers_52 : decode cX7_hearers 52 = .ok (.iload 4, 2) := by decide +kernel
theorem dX7_hearers_54 : decode cX7_hearers 54 = .ok (.ireturn, 1) := by decide +kernel
set_option maxRecDepth 20000 in
theorem ggX7_fallOn_X7_has : GoodIn wsX7_fallOn wsX7_has := goodIn_r _ [7] (by decide +kernel) (by decide +kernel)
set_option maxRecDepth 20000 in
theorem gX7_fallOn_X7_has : GoodIn wsX7_fallOn (va_wsS RX7 119 yX7_has wsX7_has) := goodIn_app (goodIn_of _ (by decide +kernel)) ggX7_fallOn_X7_has
theorem dX7_fallOn_0 : decode cX7_fallOn 0 = .ok (.iconst 0, 1) := by decide +kernel
theorem dX7_fallOn_1 : decode cX7_fallOn 1 = .ok (.istore_n 2, 1) := by decide +kernel
theorem dX7_fallOn_2 : decode cX7_fallOn 2 = .ok (.iload_n 2, 1) := by decide +kernel
theorem dX7_fallOn_3 : decode cX7_fallOn 3 = .ok (.aload_n 0, 1) := by decide +kernel
theorem dX7_fallOn_4 : decode cX7_fallOn 4 = .ok (.getfield 111, 3) := by decide +kernel
theorem dX7_fallOn_7 : decode cX7_fallOn 7 = .ok (.if_icmp .ge 80, 3) := by decide +kernel
theorem dX7_fallOn_10 : decode cX7_fallOn 10 = .ok (.iconst 0, 1) := by decide +kernel
theorem dX7_fallOn_11 : decode cX7_fallOn 11 = .ok (.istore_n 3, 1) := by decide +kernel
theorem dX7_fallOn_12 : decode cX7_fallOn 12 = .ok (.iload_n 3, 1) := by decide +kernel
theorem dX7_fallOn_13 : decode cX7_fallOn 13 = .ok (.aload_n 0, 1) := by decide +kernel
theorem dX7_fallOn_14 : decode cX7_fallOn 14 = .ok (.getfield 111, 3) := by decide +kernel
theorem dX7_fallOn_17 : decode cX7_fallOn 17 = .ok (.if_icmp .ge 64, 3) := by decide +kernel
theorem dX7_fallOn_20 : decode cX7_fallOn 20 = .ok (.aload_n 0, 1) := by decide +kernel
theorem dX7_fallOn_21 : decode cX7_fallOn 21 = .ok (.getfield 28, 3) := by decide +kernel
theorem dX7_fallOn_24 : decode cX7_fallOn 24 = .ok (.iload_n 3, 1) := by decide +kernel
theorem dX7_fallOn_25 : decode cX7_fallOn 25 = .ok (.iaload, 1) := by decide +kernel
theorem dX7_fallOn_26 : decode cX7_fallOn 26 = .ok (.bipush (-9), 2) := by decide +kernel
theorem dX7_fallOn_28 : decode cX7_fallOn 28 = .ok (.if_icmp .eq 47, 3) := by decide +kernel
theorem dX7_fallOn_31 : decode cX7_fallOn 31 = .ok (.aload_n 0, 1) := by decide +kernel
theorem dX7_fallOn_32 : decode cX7_fallOn 32 = .ok (.getfield 31, 3) := by decide +kernel
theorem dX7_fallOn_35 : decode cX7_fallOn 35 = .ok (.bipush 9, 2) := by decide +kernel
theorem dX7_fallOn_37 : decode cX7_fallOn 37 = .ok (.iload_n 1, 1) := by decide +kernel
theorem dX7_fallOn_38 : decode cX7_fallOn 38 = .ok (.imul, 1) := by decide +kernel
theorem dX7_fallOn_39 : decode cX7_fallOn 39 = .ok (.bipush 6, 2) := by decide +kernel
theorem dX7_fallOn_41 : decode cX7_fallOn 41 = .ok (.iadd, 1) := by decide +kernel
theorem dX7_fallOn_42 : decode cX7_fallOn 42 = .ok (.iaload, 1) := by decide +kernel
theorem dX7_fallOn_43 : decode cX7_fallOn 43 = .ok (.aload_n 0, 1) := by decide +kernel
theorem dX7_fallOn_44 : decode cX7_fallOn 44 = .ok (.getfield 28, 3) := by decide +kernel
theorem dX7_fallOn_47 : decode cX7_fallOn 47 = .ok (.iload_n 3, 1) := by decide +kernel
theorem dX7_fallOn_48 : decode cX7_fallOn 48 = .ok (.iaload, 1) := by decide +kernel
theorem dX7_fallOn_49 : decode cX7_fallOn 49 = .ok (.invokestatic 119, 3) := by decide +kernel
theorem dX7_fallOn_52 : decode cX7_fallOn 52 = .ok (.ifCond .ne 23, 3) := by decide +kernel
theorem dX7_fallOn_55 : decode cX7_fallOn 55 = .ok (.aload_n 0, 1) := by decide +kernel
theorem dX7_fallOn_56 : decode cX7_fallOn 56 = .ok (.getfield 31, 3) := by decide +kernel
theorem dX7_fallOn_59 : decode cX7_fallOn 59 = .ok (.bipush 9, 2) := by decide +kernel
theorem dX7_fallOn_61 : decode cX7_fallOn 61 = .ok (.iload_n 1, 1) := by decide +kernel
theorem dX7_fallOn_62 : decode cX7_fallOn 62 = .ok (.imul, 1) := by decide +kernel
theorem dX7_fallOn_63 : decode cX7_fallOn 63 = .ok (.bipush 6, 2) := by decide +kernel
theorem dX7_fallOn_65 : decode cX7_fallOn 65 = .ok (.iadd, 1) := by decide +kernel
theorem dX7_fallOn_66 : decode cX7_fallOn 66 = .ok (.dup2, 1) := by decide +kernel
theorem dX7_fallOn_67 : decode cX7_fallOn 67 = .ok (.iaload, 1) := by decide +kernel
theorem dX7_fallOn_68 : decode cX7_fallOn 68 = .ok (.iconst 1, 1) := by decide +kernel
theorem dX7_fallOn_69 : decode cX7_fallOn 69 = .ok (.iload_n 3, 1) := by decide +kernel
theorem dX7_fallOn_70 : decode cX7_fallOn 70 = .ok (.ishl, 1) := by decide +kernel
theorem dX7_fallOn_71 : decode cX7_fallOn 71 = .ok (.iconst (-1), 1) := by decide +kernel
theorem dX7_fallOn_72 : decode cX7_fallOn 72 = .ok (.ixor, 1) := by decide +kernel
theorem dX7_fallOn_73 : decode cX7_fallOn 73 = .ok (.iand, 1) := by decide +kernel
theorem dX7_fallOn_74 : decode cX7_fallOn 74 = .ok (.iastore, 1) := by decide +kernel
theorem dX7_fallOn_75 : decode cX7_fallOn 75 = .ok (.iinc 3 1, 3) := by decide +kernel
theorem dX7_fallOn_78 : decode cX7_fallOn 78 = .ok (.goto (-66), 3) := by decide +kernel
theorem dX7_fallOn_81 : decode cX7_fallOn 81 = .ok (.iinc 2 1, 3) := by decide +kernel
theorem dX7_fallOn_84 : decode cX7_fallOn 84 = .ok (.goto (-82), 3) := by decide +kernel
theorem dX7_fallOn_87 : decode cX7_fallOn 87 = .ok (.return_, 1) := by decide +kernel
set_option maxRecDepth 20000 in
theorem ggX7_clapOn_X7_hearers : GoodIn wsX7_clapOn wsX7_hearers := goodIn_r _ [10, 11, 12, 13, 14, 9, 15, 1, 5, 16, 17, 18, 19, 20, 21, 30, 31, 32, 33, 34, 35, 36, 37, 38, 39, 40, 41, 42, 43, 44, 45, 46, 47, 48, 49, 50, 51, 52, 53, 54, 55, 56, 57, 58, 59, 60] (by decide +kernel) (by decide +kernel)
set_option maxRecDepth 20000 in
theorem gX7_clapOn_X7_hearers : GoodIn wsX7_clapOn (wsV RX7 130 RX7 yX7_hearers wsX7_hearers) := goodIn_app (goodIn_of _ (by decide +kernel)) ggX7_clapOn_X7_hearers
set_option maxRecDepth 20000 in
theorem ggX7_clapOn_X7_has : GoodIn wsX7_clapOn wsX7_has := goodIn_r _ [18] (by decide +kernel) (by decide +kernel)
set_option maxRecDepth 20000 in
theorem gX7_clapOn_X7_has : GoodIn wsX7_clapOn (va_wsS RX7 119 yX7_has wsX7_has) := goodIn_app (goodIn_of _ (by decide +kernel)) ggX7_clapOn_X7_has
set_option maxRecDepth 20000 in
theorem ggX7_clapOn_X7_fallOn : GoodIn wsX7_clapOn wsX7_fallOn := goodIn_r _ [25, 2, 26, 1, 16, 17, 9, 18, 30, 31, 32, 33, 34, 35, 36, 37, 38, 39, 40, 41, 42, 43, 44, 45, 46, 47, 48, 49, 50, 51, 52, 53, 54, 55, 56, 57, 58, 59, 60] (by decide +kernel) (by decide +kernel)
set_option maxRecDepth 20000 in
theorem gX7_clapOn_X7_fallOn : GoodIn wsX7_clapOn (wsV RX7 134 RX7 yX7_fallOn wsX7_fallOn) := goodIn_app (goodIn_of _ (by decide +kernel)) ggX7_clapOn_X7_fallOn
set_option maxRecDepth 20000 in
theorem ggX7_clapOn_X7_ones : GoodIn wsX7_clapOn wsX7_ones := goodIn_r _ [29] (by decide +kernel) (by decide +kernel)
set_option maxRecDepth 20000 in
theorem gX7_clapOn_X7_ones : GoodIn wsX7_clapOn (va_wsS RX7 137 yX7_ones wsX7_ones) := goodIn_app (goodIn_of _ (by decide +kernel)) ggX7_clapOn_X7_ones
theorem dX7_clapOn_0 : decode cX7_clapOn 0 = .ok (.aload_n 0, 1) := by decide +kernel
theorem dX7_clapOn_1 : decode cX7_clapOn 1 = .ok (.getfield 31, 3) := by decide +kernel
theorem dX7_clapOn_4 : decode cX7_clapOn 4 = .ok (.bipush 9, 2) := by decide +kernel
theorem dX7_clapOn_6 : decode cX7_clapOn 6 = .ok (.iload_n 1, 1) := by decide +kernel
theorem dX7_clapOn_7 : decode cX7_clapOn 7 = .ok (.imul, 1) := by decide +kernel
theorem dX7_clapOn_8 : decode cX7_clapOn 8 = .ok (.bipush 6, 2) := by decide +kernel
theorem dX7_clapOn_10 : decode cX7_clapOn 10 = .ok (.iadd, 1) := by decide +kernel
theorem dX7_clapOn_11 : decode cX7_clapOn 11 = .ok (.iaload, 1) := by decide +kernel
theorem dX7_clapOn_12 : decode cX7_clapOn 12 = .ok (.istore 4, 2) := by decide +kernel
theorem dX7_clapOn_14 : decode cX7_clapOn 14 = .ok (.aload_n 0, 1) := by decide +kernel
theorem dX7_clapOn_15 : decode cX7_clapOn 15 = .ok (.iload_n 1, 1) := by decide +kernel
theorem dX7_clapOn_16 : decode cX7_clapOn 16 = .ok (.iload_n 2, 1) := by decide +kernel
theorem dX7_clapOn_17 : decode cX7_clapOn 17 = .ok (.iload_n 3, 1) := by decide +kernel
theorem dX7_clapOn_18 : decode cX7_clapOn 18 = .ok (.invokevirtual 130, 3) := by decide +kernel
theorem dX7_clapOn_21 : decode cX7_clapOn 21 = .ok (.istore 5, 2) := by decide +kernel
theorem dX7_clapOn_23 : decode cX7_clapOn 23 = .ok (.iconst 0, 1) := by decide +kernel
theorem dX7_clapOn_24 : decode cX7_clapOn 24 = .ok (.istore 6, 2) := by decide +kernel
theorem dX7_clapOn_26 : decode cX7_clapOn 26 = .ok (.iload 6, 2) := by decide +kernel
theorem dX7_clapOn_28 : decode cX7_clapOn 28 = .ok (.aload_n 0, 1) := by decide +kernel
theorem dX7_clapOn_29 : decode cX7_clapOn 29 = .ok (.getfield 111, 3) := by decide +kernel
theorem dX7_clapOn_32 : decode cX7_clapOn 32 = .ok (.if_icmp .ge 126, 3) := by decide +kernel
theorem dX7_clapOn_35 : decode cX7_clapOn 35 = .ok (.iload 5, 2) := by decide +kernel
theorem dX7_clapOn_37 : decode cX7_clapOn 37 = .ok (.aload_n 0, 1) := by decide +kernel
theorem dX7_clapOn_38 : decode cX7_clapOn 38 = .ok (.getfield 19, 3) := by decide +kernel
theorem dX7_clapOn_41 : decode cX7_clapOn 41 = .ok (.iload 6, 2) := by decide +kernel
theorem dX7_clapOn_43 : decode cX7_clapOn 43 = .ok (.iaload, 1) := by decide +kernel
theorem dX7_clapOn_44 : decode cX7_clapOn 44 = .ok (.invokestatic 119, 3) := by decide +kernel
theorem dX7_clapOn_47 : decode cX7_clapOn 47 = .ok (.istore 7, 2) := by decide +kernel
theorem dX7_clapOn_49 : decode cX7_clapOn 49 = .ok (.iload 5, 2) := by decide +kernel
theorem dX7_clapOn_51 : decode cX7_clapOn 51 = .ok (.aload_n 0, 1) := by decide +kernel
theorem dX7_clapOn_52 : decode cX7_clapOn 52 = .ok (.getfield 22, 3) := by decide +kernel
theorem dX7_clapOn_55 : decode cX7_clapOn 55 = .ok (.iload 6, 2) := by decide +kernel
theorem dX7_clapOn_57 : decode cX7_clapOn 57 = .ok (.iaload, 1) := by decide +kernel
theorem dX7_clapOn_58 : decode cX7_clapOn 58 = .ok (.invokestatic 119, 3) := by decide +kernel
theorem dX7_clapOn_61 : decode cX7_clapOn 61 = .ok (.istore 8, 2) := by decide +kernel
theorem dX7_clapOn_63 : decode cX7_clapOn 63 = .ok (.iload 7, 2) := by decide +kernel
theorem dX7_clapOn_65 : decode cX7_clapOn 65 = .ok (.ifCond .eq 8, 3) := by decide +kernel
theorem dX7_clapOn_68 : decode cX7_clapOn 68 = .ok (.iload 8, 2) := by decide +kernel
theorem dX7_clapOn_70 : decode cX7_clapOn 70 = .ok (.ifCond .ne 45, 3) := by decide +kernel
theorem dX7_clapOn_73 : decode cX7_clapOn 73 = .ok (.iload 7, 2) := by decide +kernel
theorem dX7_clapOn_75 : decode cX7_clapOn 75 = .ok (.ifCond .eq 19, 3) := by decide +kernel
theorem dX7_clapOn_78 : decode cX7_clapOn 78 = .ok (.aload_n 0, 1) := by decide +kernel
theorem dX7_clapOn_79 : decode cX7_clapOn 79 = .ok (.getfield 7, 3) := by decide +kernel
theorem dX7_clapOn_82 : decode cX7_clapOn 82 = .ok (.aload_n 0, 1) := by decide +kernel
theorem dX7_clapOn_83 : decode cX7_clapOn 83 = .ok (.getfield 19, 3) := by decide +kernel
theorem dX7_clapOn_86 : decode cX7_clapOn 86 = .ok (.iload 6, 2) := by decide +kernel
theorem dX7_clapOn_88 : decode cX7_clapOn 88 = .ok (.iaload, 1) := by decide +kernel
theorem dX7_clapOn_89 : decode cX7_clapOn 89 = .ok (.iaload, 1) := by decide +kernel
theorem dX7_clapOn_90 : decode cX7_clapOn 90 = .ok (.iconst 3, 1) := by decide +kernel
theorem dX7_clapOn_91 : decode cX7_clapOn 91 = .ok (.if_icmp .eq 24, 3) := by decide +kernel
theorem dX7_clapOn_94 : decode cX7_clapOn 94 = .ok (.iload 8, 2) := by decide +kernel
theorem dX7_clapOn_96 : decode cX7_clapOn 96 = .ok (.ifCond .eq 23, 3) := by decide +kernel
theorem dX7_clapOn_99 : decode cX7_clapOn 99 = .ok (.aload_n 0, 1) := by decide +kernel
theorem dX7_clapOn_100 : decode cX7_clapOn 100 = .ok (.getfield 7, 3) := by decide +kernel
theorem dX7_clapOn_103 : decode cX7_clapOn 103 = .ok (.aload_n 0, 1) := by decide +kernel
theorem dX7_clapOn_104 : decode cX7_clapOn 104 = .ok (.getfield 22, 3) := by decide +kernel
theorem dX7_clapOn_107 : decode cX7_clapOn 107 = .ok (.iload 6, 2) := by decide +kernel
theorem dX7_clapOn_109 : decode cX7_clapOn 109 = .ok (.iaload, 1) := by decide +kernel
theorem dX7_clapOn_110 : decode cX7_clapOn 110 = .ok (.iaload, 1) := by decide +kernel
theorem dX7_clapOn_111 : decode cX7_clapOn 111 = .ok (.iconst 3, 1) := by decide +kernel
theorem dX7_clapOn_112 : decode cX7_clapOn 112 = .ok (.if_icmp .ne 7, 3) := by decide +kernel
theorem dX7_clapOn_115 : decode cX7_clapOn 115 = .ok (.iconst 1, 1) := by decide +kernel
theorem dX7_clapOn_116 : decode cX7_clapOn 116 = .ok (.goto 4, 3) := by decide +kernel
theorem dX7_clapOn_119 : decode cX7_clapOn 119 = .ok (.iconst 0, 1) := by decide +kernel
theorem dX7_clapOn_120 : decode cX7_clapOn 120 = .ok (.istore 9, 2) := by decide +kernel
theorem dX7_clapOn_122 : decode cX7_clapOn 122 = .ok (.aload_n 0, 1) := by decide +kernel
theorem dX7_clapOn_123 : decode cX7_clapOn 123 = .ok (.getfield 31, 3) := by decide +kernel
theorem dX7_clapOn_126 : decode cX7_clapOn 126 = .ok (.bipush 9, 2) := by decide +kernel
theorem dX7_clapOn_128 : decode cX7_clapOn 128 = .ok (.iload_n 1, 1) := by decide +kernel
theorem dX7_clapOn_129 : decode cX7_clapOn 129 = .ok (.imul, 1) := by decide +kernel
theorem dX7_clapOn_130 : decode cX7_clapOn 130 = .ok (.bipush 6, 2) := by decide +kernel
theorem dX7_clapOn_132 : decode cX7_clapOn 132 = .ok (.iadd, 1) := by decide +kernel
theorem dX7_clapOn_133 : decode cX7_clapOn 133 = .ok (.dup2, 1) := by decide +kernel
theorem dX7_clapOn_134 : decode cX7_clapOn 134 = .ok (.iaload, 1) := by decide +kernel
theorem dX7_clapOn_135 : decode cX7_clapOn 135 = .ok (.iload 9, 2) := by decide +kernel
theorem dX7_clapOn_137 : decode cX7_clapOn 137 = .ok (.ifCond .eq 12, 3) := by decide +kernel
theorem dX7_clapOn_140 : decode cX7_clapOn 140 = .ok (.iconst 1, 1) := by decide +kernel
theorem dX7_clapOn_141 : decode cX7_clapOn 141 = .ok (.iload 6, 2) := by decide +kernel
theorem dX7_clapOn_143 : decode cX7_clapOn 143 = .ok (.ishl, 1) := by decide +kernel
theorem dX7_clapOn_144 : decode cX7_clapOn 144 = .ok (.iconst (-1), 1) := by decide +kernel
theorem dX7_clapOn_145 : decode cX7_clapOn 145 = .ok (.ixor, 1) := by decide +kernel
theorem dX7_clapOn_146 : decode cX7_clapOn 146 = .ok (.goto 4, 3) := by decide +kernel
theorem dX7_clapOn_149 : decode cX7_clapOn 149 = .ok (.iconst (-1), 1) := by decide +kernel
theorem dX7_clapOn_150 : decode cX7_clapOn 150 = .ok (.iand, 1) := by decide +kernel
theorem dX7_clapOn_151 : decode cX7_clapOn 151 = .ok (.iastore, 1) := by decide +kernel
theorem dX7_clapOn_152 : decode cX7_clapOn 152 = .ok (.iinc 6 1, 3) := by decide +kernel
theorem dX7_clapOn_155 : decode cX7_clapOn 155 = .ok (.goto (-129), 3) := by decide +kernel
theorem dX7_clapOn_158 : decode cX7_clapOn 158 = .ok (.aload_n 0, 1) := by decide +kernel
theorem dX7_clapOn_159 : decode cX7_clapOn 159 = .ok (.iload_n 1, 1) := by decide +kernel
theorem dX7_clapOn_160 : decode cX7_clapOn 160 = .ok (.invokevirtual 134, 3) := by decide +kernel
theorem dX7_clapOn_163 : decode cX7_clapOn 163 = .ok (.iload 4, 2) := by decide +kernel
theorem dX7_clapOn_165 : decode cX7_clapOn 165 = .ok (.aload_n 0, 1) := by decide +kernel
theorem dX7_clapOn_166 : decode cX7_clapOn 166 = .ok (.getfield 31, 3) := by decide +kernel
theorem dX7_clapOn_169 : decode cX7_clapOn 169 = .ok (.bipush 9, 2) := by decide +kernel
theorem dX7_clapOn_171 : decode cX7_clapOn 171 = .ok (.iload_n 1, 1) := by decide +kernel
theorem dX7_clapOn_172 : decode cX7_clapOn 172 = .ok (.imul, 1) := by decide +kernel
theorem dX7_clapOn_173 : decode cX7_clapOn 173 = .ok (.bipush 6, 2) := by decide +kernel
theorem dX7_clapOn_175 : decode cX7_clapOn 175 = .ok (.iadd, 1) := by decide +kernel
theorem dX7_clapOn_176 : decode cX7_clapOn 176 = .ok (.iaload, 1) := by decide +kernel
theorem dX7_clapOn_177 : decode cX7_clapOn 177 = .ok (.iconst (-1), 1) := by decide +kernel
theorem dX7_clapOn_178 : decode cX7_clapOn 178 = .ok (.ixor, 1) := by decide +kernel
theorem dX7_clapOn_179 : decode cX7_clapOn 179 = .ok (.iand, 1) := by decide +kernel
theorem dX7_clapOn_180 : decode cX7_clapOn 180 = .ok (.invokestatic 137, 3) := by decide +kernel
theorem dX7_clapOn_183 : decode cX7_clapOn 183 = .ok (.ireturn, 1) := by decide +kernel
set_option maxRecDepth 20000 in
theorem ggX7_worthsOf_X7_has : GoodIn wsX7_worthsOf wsX7_has := goodIn_r _ [6] (by decide +kernel) (by decide +kernel)
set_option maxRecDepth 20000 in
theorem gX7_worthsOf_X7_has : GoodIn wsX7_worthsOf (va_wsS RX7 119 yX7_has wsX7_has) := goodIn_app (goodIn_of _ (by decide +kernel)) ggX7_worthsOf_X7_has
theorem dX7_worthsOf_0 : decode cX7_worthsOf 0 = .ok (.iconst 0, 1) := by decide +kernel
theorem dX7_worthsOf_1 : decode cX7_worthsOf 1 = .ok (.istore_n 2, 1) := by decide +kernel
theorem dX7_worthsOf_2 : decode cX7_worthsOf 2 = .ok (.iconst 0, 1) := by decide +kernel
theorem dX7_worthsOf_3 : decode cX7_worthsOf 3 = .ok (.istore_n 3, 1) := by decide +kernel
theorem dX7_worthsOf_4 : decode cX7_worthsOf 4 = .ok (.iload_n 3, 1) := by decide +kernel
theorem dX7_worthsOf_5 : decode cX7_worthsOf 5 = .ok (.aload_n 0, 1) := by decide +kernel
theorem dX7_worthsOf_6 : decode cX7_worthsOf 6 = .ok (.getfield 111, 3) := by decide +kernel
theorem dX7_worthsOf_9 : decode cX7_worthsOf 9 = .ok (.if_icmp .ge 30, 3) := by decide +kernel
theorem dX7_worthsOf_12 : decode cX7_worthsOf 12 = .ok (.iload_n 2, 1) := by decide +kernel
theorem dX7_worthsOf_13 : decode cX7_worthsOf 13 = .ok (.iload_n 1, 1) := by decide +kernel
theorem dX7_worthsOf_14 : decode cX7_worthsOf 14 = .ok (.iload_n 3, 1) := by decide +kernel
theorem dX7_worthsOf_15 : decode cX7_worthsOf 15 = .ok (.invokestatic 119, 3) := by decide +kernel
theorem dX7_worthsOf_18 : decode cX7_worthsOf 18 = .ok (.ifCond .eq 12, 3) := by decide +kernel
theorem dX7_worthsOf_21 : decode cX7_worthsOf 21 = .ok (.aload_n 0, 1) := by decide +kernel
theorem dX7_worthsOf_22 : decode cX7_worthsOf 22 = .ok (.getfield 25, 3) := by decide +kernel
theorem dX7_worthsOf_25 : decode cX7_worthsOf 25 = .ok (.iload_n 3, 1) := by decide +kernel
theorem dX7_worthsOf_26 : decode cX7_worthsOf 26 = .ok (.iaload, 1) := by decide +kernel
theorem dX7_worthsOf_27 : decode cX7_worthsOf 27 = .ok (.goto 4, 3) := by decide +kernel
theorem dX7_worthsOf_30 : decode cX7_worthsOf 30 = .ok (.iconst 0, 1) := by decide +kernel
theorem dX7_worthsOf_31 : decode cX7_worthsOf 31 = .ok (.iadd, 1) := by decide +kernel
theorem dX7_worthsOf_32 : decode cX7_worthsOf 32 = .ok (.istore_n 2, 1) := by decide +kernel
theorem dX7_worthsOf_33 : decode cX7_worthsOf 33 = .ok (.iinc 3 1, 3) := by decide +kernel
theorem dX7_worthsOf_36 : decode cX7_worthsOf 36 = .ok (.goto (-32), 3) := by decide +kernel
theorem dX7_worthsOf_39 : decode cX7_worthsOf 39 = .ok (.iload_n 2, 1) := by decide +kernel
theorem dX7_worthsOf_40 : decode cX7_worthsOf 40 = .ok (.ireturn, 1) := by decide +kernel
theorem dX7_skyOf_0 : decode cX7_skyOf 0 = .ok (.aload_n 0, 1) := by decide +kernel
theorem dX7_skyOf_1 : decode cX7_skyOf 1 = .ok (.getfield 108, 3) := by decide +kernel
theorem dX7_skyOf_4 : decode cX7_skyOf 4 = .ok (.ifCond .ne 8, 3) := by decide +kernel
theorem dX7_skyOf_7 : decode cX7_skyOf 7 = .ok (.bipush (-9), 2) := by decide +kernel
theorem dX7_skyOf_9 : decode cX7_skyOf 9 = .ok (.goto 14, 3) := by decide +kernel
theorem dX7_skyOf_12 : decode cX7_skyOf 12 = .ok (.aload_n 0, 1) := by decide +kernel
theorem dX7_skyOf_13 : decode cX7_skyOf 13 = .ok (.getfield 13, 3) := by decide +kernel
theorem dX7_skyOf_16 : decode cX7_skyOf 16 = .ok (.iload_n 1, 1) := by decide +kernel
theorem dX7_skyOf_17 : decode cX7_skyOf 17 = .ok (.aload_n 0, 1) := by decide +kernel
theorem dX7_skyOf_18 : decode cX7_skyOf 18 = .ok (.getfield 108, 3) := by decide +kernel
theorem dX7_skyOf_21 : decode cX7_skyOf 21 = .ok (.irem, 1) := by decide +kernel
theorem dX7_skyOf_22 : decode cX7_skyOf 22 = .ok (.iaload, 1) := by decide +kernel
theorem dX7_skyOf_23 : decode cX7_skyOf 23 = .ok (.ireturn, 1) := by decide +kernel
theorem dX7_loudOf_0 : decode cX7_loudOf 0 = .ok (.aload_n 0, 1) := by decide +kernel
theorem dX7_loudOf_1 : decode cX7_loudOf 1 = .ok (.getfield 108, 3) := by decide +kernel
theorem dX7_loudOf_4 : decode cX7_loudOf 4 = .ok (.ifCond .ne 7, 3) := by decide +kernel
theorem dX7_loudOf_7 : decode cX7_loudOf 7 = .ok (.iconst 0, 1) := by decide +kernel
theorem dX7_loudOf_8 : decode cX7_loudOf 8 = .ok (.goto 14, 3) := by decide +kernel
theorem dX7_loudOf_11 : decode cX7_loudOf 11 = .ok (.aload_n 0, 1) := by decide +kernel
theorem dX7_loudOf_12 : decode cX7_loudOf 12 = .ok (.getfield 16, 3) := by decide +kernel
theorem dX7_loudOf_15 : decode cX7_loudOf 15 = .ok (.iload_n 1, 1) := by decide +kernel
theorem dX7_loudOf_16 : decode cX7_loudOf 16 = .ok (.aload_n 0, 1) := by decide +kernel
theorem dX7_loudOf_17 : decode cX7_loudOf 17 = .ok (.getfield 108, 3) := by decide +kernel
theorem dX7_loudOf_20 : decode cX7_loudOf 20 = .ok (.irem, 1) := by decide +kernel
theorem dX7_loudOf_21 : decode cX7_loudOf 21 = .ok (.iaload, 1) := by decide +kernel
theorem dX7_loudOf_22 : decode cX7_loudOf 22 = .ok (.ireturn, 1) := by decide +kernel
set_option maxRecDepth 20000 in
theorem ggX7_passOn_X7_skyOf : GoodIn wsX7_passOn wsX7_skyOf := goodIn_r _ [6, 7, 8, 50, 51, 52, 53, 54, 55, 56, 57, 58, 59, 60, 61, 62, 63, 64, 65, 66, 67, 68, 69, 70, 71, 72, 73, 74, 75, 76, 77, 78, 79, 80] (by decide +kernel) (by decide +kernel)
set_option maxRecDepth 20000 in
theorem gX7_passOn_X7_skyOf : GoodIn wsX7_passOn (wsV RX7 141 RX7 yX7_skyOf wsX7_skyOf) := goodIn_app (goodIn_of _ (by decide +kernel)) ggX7_passOn_X7_skyOf
set_option maxRecDepth 20000 in
theorem ggX7_passOn_X7_loudOf : GoodIn wsX7_passOn wsX7_loudOf := goodIn_r _ [12, 7, 13, 50, 51, 52, 53, 54, 55, 56, 57, 58, 59, 60, 61, 62, 63, 64, 65, 66, 67, 68, 69, 70, 71, 72, 73, 74, 75, 76, 77, 78, 79, 80] (by decide +kernel) (by decide +kernel)
set_option maxRecDepth 20000 in
theorem gX7_passOn_X7_loudOf : GoodIn wsX7_passOn (wsV RX7 144 RX7 yX7_loudOf wsX7_loudOf) := goodIn_app (goodIn_of _ (by decide +kernel)) ggX7_passOn_X7_loudOf
set_option maxRecDepth 20000 in
theorem ggX7_passOn_X7_clapOn : GoodIn wsX7_passOn wsX7_clapOn := goodIn_r _ [17, 1, 18, 19, 20, 21, 22, 23, 24, 5, 25, 26, 27, 28, 29, 30, 31, 32, 33, 34, 35, 36, 37, 38, 39, 40, 41, 42, 43, 44, 50, 51, 52, 53, 54, 55, 56, 57, 58, 59, 60, 61, 62, 63, 64, 65, 66, 67, 68, 69, 70, 71, 72, 73, 74, 75, 76, 77, 78, 79, 80] (by decide +kernel) (by decide +kernel)
set_option maxRecDepth 20000 in
theorem gX7_passOn_X7_clapOn : GoodIn wsX7_passOn (wsV RX7 147 RX7 yX7_clapOn wsX7_clapOn) := goodIn_app (goodIn_of _ (by decide +kernel)) ggX7_passOn_X7_clapOn
set_option maxRecDepth 20000 in
theorem ggX7_passOn_X7_worthsOf : GoodIn wsX7_passOn wsX7_worthsOf := goodIn_r _ [48, 18, 49, 31, 32, 5, 33, 50, 51, 52, 53, 54, 55, 56, 57, 58, 59, 60, 61, 62, 63, 64, 65, 66, 67, 68, 69, 70, 71, 72, 73, 74, 75, 76, 77, 78, 79, 80] (by decide +kernel) (by decide +kernel)
set_option maxRecDepth 20000 in
theorem gX7_passOn_X7_worthsOf : GoodIn wsX7_passOn (wsV RX7 150 RX7 yX7_worthsOf wsX7_worthsOf) := goodIn_app (goodIn_of _ (by decide +kernel)) ggX7_passOn_X7_worthsOf
theorem dX7_passOn_0 : decode cX7_passOn 0 = .ok (.bipush 9, 2) := by decide +kernel
theorem dX7_passOn_2 : decode cX7_passOn 2 = .ok (.iload_n 1, 1) := by decide +kernel
theorem dX7_passOn_3 : decode cX7_passOn 3 = .ok (.imul, 1) := by decide +kernel
theorem dX7_passOn_4 : decode cX7_passOn 4 = .ok (.istore_n 3, 1) := by decide +kernel
theorem dX7_passOn_5 : decode cX7_passOn 5 = .ok (.iload_n 2, 1) := by decide +kernel
theorem dX7_passOn_6 : decode cX7_passOn 6 = .ok (.ifCond .eq 19, 3) := by decide +kernel
theorem dX7_passOn_9 : decode cX7_passOn 9 = .ok (.aload_n 0, 1) := by decide +kernel
theorem dX7_passOn_10 : decode cX7_passOn 10 = .ok (.aload_n 0, 1) := by decide +kernel
theorem dX7_passOn_11 : decode cX7_passOn 11 = .ok (.getfield 31, 3) := by decide +kernel
theorem dX7_passOn_14 : decode cX7_passOn 14 = .ok (.iload_n 3, 1) := by decide +kernel
theorem dX7_passOn_15 : decode cX7_passOn 15 = .ok (.bipush 8, 2) := by decide +kernel
theorem dX7_passOn_17 : decode cX7_passOn 17 = .ok (.iadd, 1) := by decide +kernel
theorem dX7_passOn_18 : decode cX7_passOn 18 = .ok (.iaload, 1) := by decide +kernel
theorem dX7_passOn_19 : decode cX7_passOn 19 = .ok (.invokevirtual 141, 3) := by decide +kernel
theorem dX7_passOn_22 : decode cX7_passOn 22 = .ok (.goto 5, 3) := by decide +kernel
theorem dX7_passOn_25 : decode cX7_passOn 25 = .ok (.bipush (-9), 2) := by decide +kernel
theorem dX7_passOn_27 : decode cX7_passOn 27 = .ok (.istore 4, 2) := by decide +kernel
theorem dX7_passOn_29 : decode cX7_passOn 29 = .ok (.aload_n 0, 1) := by decide +kernel
theorem dX7_passOn_30 : decode cX7_passOn 30 = .ok (.iload_n 1, 1) := by decide +kernel
theorem dX7_passOn_31 : decode cX7_passOn 31 = .ok (.iload 4, 2) := by decide +kernel
theorem dX7_passOn_33 : decode cX7_passOn 33 = .ok (.aload_n 0, 1) := by decide +kernel
theorem dX7_passOn_34 : decode cX7_passOn 34 = .ok (.aload_n 0, 1) := by decide +kernel
theorem dX7_passOn_35 : decode cX7_passOn 35 = .ok (.getfield 31, 3) := by decide +kernel
theorem dX7_passOn_38 : decode cX7_passOn 38 = .ok (.iload_n 3, 1) := by decide +kernel
theorem dX7_passOn_39 : decode cX7_passOn 39 = .ok (.bipush 8, 2) := by decide +kernel
theorem dX7_passOn_41 : decode cX7_passOn 41 = .ok (.iadd, 1) := by decide +kernel
theorem dX7_passOn_42 : decode cX7_passOn 42 = .ok (.iaload, 1) := by decide +kernel
theorem dX7_passOn_43 : decode cX7_passOn 43 = .ok (.invokevirtual 144, 3) := by decide +kernel
theorem dX7_passOn_46 : decode cX7_passOn 46 = .ok (.invokevirtual 147, 3) := by decide +kernel
theorem dX7_passOn_49 : decode cX7_passOn 49 = .ok (.istore 5, 2) := by decide +kernel
theorem dX7_passOn_51 : decode cX7_passOn 51 = .ok (.aload_n 0, 1) := by decide +kernel
theorem dX7_passOn_52 : decode cX7_passOn 52 = .ok (.getfield 31, 3) := by decide +kernel
theorem dX7_passOn_55 : decode cX7_passOn 55 = .ok (.iload_n 3, 1) := by decide +kernel
theorem dX7_passOn_56 : decode cX7_passOn 56 = .ok (.bipush 7, 2) := by decide +kernel
theorem dX7_passOn_58 : decode cX7_passOn 58 = .ok (.iadd, 1) := by decide +kernel
theorem dX7_passOn_59 : decode cX7_passOn 59 = .ok (.iaload, 1) := by decide +kernel
theorem dX7_passOn_60 : decode cX7_passOn 60 = .ok (.aload_n 0, 1) := by decide +kernel
theorem dX7_passOn_61 : decode cX7_passOn 61 = .ok (.aload_n 0, 1) := by decide +kernel
theorem dX7_passOn_62 : decode cX7_passOn 62 = .ok (.getfield 31, 3) := by decide +kernel
theorem dX7_passOn_65 : decode cX7_passOn 65 = .ok (.iload_n 3, 1) := by decide +kernel
theorem dX7_passOn_66 : decode cX7_passOn 66 = .ok (.bipush 6, 2) := by decide +kernel
theorem dX7_passOn_68 : decode cX7_passOn 68 = .ok (.iadd, 1) := by decide +kernel
theorem dX7_passOn_69 : decode cX7_passOn 69 = .ok (.iaload, 1) := by decide +kernel
theorem dX7_passOn_70 : decode cX7_passOn 70 = .ok (.invokevirtual 150, 3) := by decide +kernel
theorem dX7_passOn_73 : decode cX7_passOn 73 = .ok (.iadd, 1) := by decide +kernel
theorem dX7_passOn_74 : decode cX7_passOn 74 = .ok (.istore 6, 2) := by decide +kernel
theorem dX7_passOn_76 : decode cX7_passOn 76 = .ok (.aload_n 0, 1) := by decide +kernel
theorem dX7_passOn_77 : decode cX7_passOn 77 = .ok (.getfield 31, 3) := by decide +kernel
theorem dX7_passOn_80 : decode cX7_passOn 80 = .ok (.iload_n 3, 1) := by decide +kernel
theorem dX7_passOn_81 : decode cX7_passOn 81 = .ok (.bipush 7, 2) := by decide +kernel
theorem dX7_passOn_83 : decode cX7_passOn 83 = .ok (.iadd, 1) := by decide +kernel
theorem dX7_passOn_84 : decode cX7_passOn 84 = .ok (.iload 6, 2) := by decide +kernel
theorem dX7_passOn_86 : decode cX7_passOn 86 = .ok (.sipush 9999, 3) := by decide +kernel
theorem dX7_passOn_89 : decode cX7_passOn 89 = .ok (.if_icmp .le 9, 3) := by decide +kernel
theorem dX7_passOn_92 : decode cX7_passOn 92 = .ok (.sipush 9999, 3) := by decide +kernel
theorem dX7_passOn_95 : decode cX7_passOn 95 = .ok (.goto 5, 3) := by decide +kernel
theorem dX7_passOn_98 : decode cX7_passOn 98 = .ok (.iload 6, 2) := by decide +kernel
theorem dX7_passOn_100 : decode cX7_passOn 100 = .ok (.iastore, 1) := by decide +kernel
theorem dX7_passOn_101 : decode cX7_passOn 101 = .ok (.aload_n 0, 1) := by decide +kernel
theorem dX7_passOn_102 : decode cX7_passOn 102 = .ok (.getfield 31, 3) := by decide +kernel
theorem dX7_passOn_105 : decode cX7_passOn 105 = .ok (.iload_n 3, 1) := by decide +kernel
theorem dX7_passOn_106 : decode cX7_passOn 106 = .ok (.bipush 8, 2) := by decide +kernel
theorem dX7_passOn_108 : decode cX7_passOn 108 = .ok (.iadd, 1) := by decide +kernel
theorem dX7_passOn_109 : decode cX7_passOn 109 = .ok (.dup2, 1) := by decide +kernel
theorem dX7_passOn_110 : decode cX7_passOn 110 = .ok (.iaload, 1) := by decide +kernel
theorem dX7_passOn_111 : decode cX7_passOn 111 = .ok (.iconst 1, 1) := by decide +kernel
theorem dX7_passOn_112 : decode cX7_passOn 112 = .ok (.iadd, 1) := by decide +kernel
theorem dX7_passOn_113 : decode cX7_passOn 113 = .ok (.iastore, 1) := by decide +kernel
theorem dX7_passOn_114 : decode cX7_passOn 114 = .ok (.iload 5, 2) := by decide +kernel
theorem dX7_passOn_116 : decode cX7_passOn 116 = .ok (.ireturn, 1) := by decide +kernel
set_option maxRecDepth 20000 in
theorem ggX7_canSwear_X7_isOath : GoodIn wsX7_canSwear wsX7_isOath := goodIn_r _ [7, 8, 9, 10, 6, 11, 15, 16, 17, 18, 19, 20, 21, 22, 23, 24, 25, 26, 27, 28, 29, 30, 31, 32, 33, 34, 35, 36, 37, 38, 39, 40, 41, 42, 43, 44, 45] (by decide +kernel) (by decide +kernel)
set_option maxRecDepth 20000 in
theorem gX7_canSwear_X7_isOath : GoodIn wsX7_canSwear (wsV RX7 153 RX7 yX7_isOath wsX7_isOath) := goodIn_app (goodIn_of _ (by decide +kernel)) ggX7_canSwear_X7_isOath
set_option maxRecDepth 20000 in
theorem ggX7_canSwear_X7_has : GoodIn wsX7_canSwear wsX7_has := goodIn_r _ [14] (by decide +kernel) (by decide +kernel)
set_option maxRecDepth 20000 in
theorem gX7_canSwear_X7_has : GoodIn wsX7_canSwear (va_wsS RX7 119 yX7_has wsX7_has) := goodIn_app (goodIn_of _ (by decide +kernel)) ggX7_canSwear_X7_has
theorem dX7_canSwear_0 : decode cX7_canSwear 0 = .ok (.aload_n 0, 1) := by decide +kernel
theorem dX7_canSwear_1 : decode cX7_canSwear 1 = .ok (.getfield 31, 3) := by decide +kernel
theorem dX7_canSwear_4 : decode cX7_canSwear 4 = .ok (.bipush 9, 2) := by decide +kernel
theorem dX7_canSwear_6 : decode cX7_canSwear 6 = .ok (.iload_n 1, 1) := by decide +kernel
theorem dX7_canSwear_7 : decode cX7_canSwear 7 = .ok (.imul, 1) := by decide +kernel
theorem dX7_canSwear_8 : decode cX7_canSwear 8 = .ok (.bipush 6, 2) := by decide +kernel
theorem dX7_canSwear_10 : decode cX7_canSwear 10 = .ok (.iadd, 1) := by decide +kernel
theorem dX7_canSwear_11 : decode cX7_canSwear 11 = .ok (.iaload, 1) := by decide +kernel
theorem dX7_canSwear_12 : decode cX7_canSwear 12 = .ok (.istore_n 3, 1) := by decide +kernel
theorem dX7_canSwear_13 : decode cX7_canSwear 13 = .ok (.aload_n 0, 1) := by decide +kernel
theorem dX7_canSwear_14 : decode cX7_canSwear 14 = .ok (.iload_n 2, 1) := by decide +kernel
theorem dX7_canSwear_15 : decode cX7_canSwear 15 = .ok (.invokevirtual 153, 3) := by decide +kernel
theorem dX7_canSwear_18 : decode cX7_canSwear 18 = .ok (.ifCond .eq 39, 3) := by decide +kernel
theorem dX7_canSwear_21 : decode cX7_canSwear 21 = .ok (.iload_n 3, 1) := by decide +kernel
theorem dX7_canSwear_22 : decode cX7_canSwear 22 = .ok (.iload_n 2, 1) := by decide +kernel
theorem dX7_canSwear_23 : decode cX7_canSwear 23 = .ok (.invokestatic 119, 3) := by decide +kernel
theorem dX7_canSwear_26 : decode cX7_canSwear 26 = .ok (.ifCond .ne 31, 3) := by decide +kernel
theorem dX7_canSwear_29 : decode cX7_canSwear 29 = .ok (.aload_n 0, 1) := by decide +kernel
theorem dX7_canSwear_30 : decode cX7_canSwear 30 = .ok (.getfield 28, 3) := by decide +kernel
theorem dX7_canSwear_33 : decode cX7_canSwear 33 = .ok (.iload_n 2, 1) := by decide +kernel
theorem dX7_canSwear_34 : decode cX7_canSwear 34 = .ok (.iaload, 1) := by decide +kernel
theorem dX7_canSwear_35 : decode cX7_canSwear 35 = .ok (.bipush (-9), 2) := by decide +kernel
theorem dX7_canSwear_37 : decode cX7_canSwear 37 = .ok (.if_icmp .eq 16, 3) := by decide +kernel
theorem dX7_canSwear_40 : decode cX7_canSwear 40 = .ok (.iload_n 3, 1) := by decide +kernel
theorem dX7_canSwear_41 : decode cX7_canSwear 41 = .ok (.aload_n 0, 1) := by decide +kernel
theorem dX7_canSwear_42 : decode cX7_canSwear 42 = .ok (.getfield 28, 3) := by decide +kernel
theorem dX7_canSwear_45 : decode cX7_canSwear 45 = .ok (.iload_n 2, 1) := by decide +kernel
theorem dX7_canSwear_46 : decode cX7_canSwear 46 = .ok (.iaload, 1) := by decide +kernel
theorem dX7_canSwear_47 : decode cX7_canSwear 47 = .ok (.invokestatic 119, 3) := by decide +kernel
theorem dX7_canSwear_50 : decode cX7_canSwear 50 = .ok (.ifCond .eq 7, 3) := by decide +kernel
theorem dX7_canSwear_53 : decode cX7_canSwear 53 = .ok (.iconst 1, 1) := by decide +kernel
theorem dX7_canSwear_54 : decode cX7_canSwear 54 = .ok (.goto 4, 3) := by decide +kernel
theorem dX7_canSwear_57 : decode cX7_canSwear 57 = .ok (.iconst 0, 1) := by decide +kernel
theorem dX7_canSwear_58 : decode cX7_canSwear 58 = .ok (.ireturn, 1) := by decide +kernel
set_option maxRecDepth 20000 in
theorem ggX7_formOn_X7_fallOn : GoodIn wsX7_formOn wsX7_fallOn := goodIn_r _ [6, 7, 8, 1, 9, 10, 5, 11, 15, 16, 17, 18, 19, 20, 21, 22, 23, 24, 25, 26, 27, 28, 29, 30, 31, 32, 33, 34, 35, 36, 37, 38, 39, 40, 41, 42, 43, 44, 45] (by decide +kernel) (by decide +kernel)
set_option maxRecDepth 20000 in
theorem gX7_formOn_X7_fallOn : GoodIn wsX7_formOn (wsV RX7 134 RX7 yX7_fallOn wsX7_fallOn) := goodIn_app (goodIn_of _ (by decide +kernel)) ggX7_formOn_X7_fallOn
set_option maxRecDepth 20000 in
theorem ggX7_formOn_X7_ones : GoodIn wsX7_formOn wsX7_ones := goodIn_r _ [14] (by decide +kernel) (by decide +kernel)
set_option maxRecDepth 20000 in
theorem gX7_formOn_X7_ones : GoodIn wsX7_formOn (va_wsS RX7 137 yX7_ones wsX7_ones) := goodIn_app (goodIn_of _ (by decide +kernel)) ggX7_formOn_X7_ones
theorem dX7_formOn_0 : decode cX7_formOn 0 = .ok (.aload_n 0, 1) := by decide +kernel
theorem dX7_formOn_1 : decode cX7_formOn 1 = .ok (.getfield 31, 3) := by decide +kernel
theorem dX7_formOn_4 : decode cX7_formOn 4 = .ok (.bipush 9, 2) := by decide +kernel
theorem dX7_formOn_6 : decode cX7_formOn 6 = .ok (.iload_n 1, 1) := by decide +kernel
theorem dX7_formOn_7 : decode cX7_formOn 7 = .ok (.imul, 1) := by decide +kernel
theorem dX7_formOn_8 : decode cX7_formOn 8 = .ok (.bipush 6, 2) := by decide +kernel
theorem dX7_formOn_10 : decode cX7_formOn 10 = .ok (.iadd, 1) := by decide +kernel
theorem dX7_formOn_11 : decode cX7_formOn 11 = .ok (.iaload, 1) := by decide +kernel
theorem dX7_formOn_12 : decode cX7_formOn 12 = .ok (.istore_n 3, 1) := by decide +kernel
theorem dX7_formOn_13 : decode cX7_formOn 13 = .ok (.aload_n 0, 1) := by decide +kernel
theorem dX7_formOn_14 : decode cX7_formOn 14 = .ok (.getfield 31, 3) := by decide +kernel
theorem dX7_formOn_17 : decode cX7_formOn 17 = .ok (.bipush 9, 2) := by decide +kernel
theorem dX7_formOn_19 : decode cX7_formOn 19 = .ok (.iload_n 1, 1) := by decide +kernel
theorem dX7_formOn_20 : decode cX7_formOn 20 = .ok (.imul, 1) := by decide +kernel
theorem dX7_formOn_21 : decode cX7_formOn 21 = .ok (.bipush 6, 2) := by decide +kernel
theorem dX7_formOn_23 : decode cX7_formOn 23 = .ok (.iadd, 1) := by decide +kernel
theorem dX7_formOn_24 : decode cX7_formOn 24 = .ok (.dup2, 1) := by decide +kernel
theorem dX7_formOn_25 : decode cX7_formOn 25 = .ok (.iaload, 1) := by decide +kernel
theorem dX7_formOn_26 : decode cX7_formOn 26 = .ok (.iconst 1, 1) := by decide +kernel
theorem dX7_formOn_27 : decode cX7_formOn 27 = .ok (.iload_n 2, 1) := by decide +kernel
theorem dX7_formOn_28 : decode cX7_formOn 28 = .ok (.ishl, 1) := by decide +kernel
theorem dX7_formOn_29 : decode cX7_formOn 29 = .ok (.iconst (-1), 1) := by decide +kernel
theorem dX7_formOn_30 : decode cX7_formOn 30 = .ok (.ixor, 1) := by decide +kernel
theorem dX7_formOn_31 : decode cX7_formOn 31 = .ok (.iand, 1) := by decide +kernel
theorem dX7_formOn_32 : decode cX7_formOn 32 = .ok (.iastore, 1) := by decide +kernel
theorem dX7_formOn_33 : decode cX7_formOn 33 = .ok (.aload_n 0, 1) := by decide +kernel
theorem dX7_formOn_34 : decode cX7_formOn 34 = .ok (.iload_n 1, 1) := by decide +kernel
theorem dX7_formOn_35 : decode cX7_formOn 35 = .ok (.invokevirtual 134, 3) := by decide +kernel
theorem dX7_formOn_38 : decode cX7_formOn 38 = .ok (.iload_n 3, 1) := by decide +kernel
theorem dX7_formOn_39 : decode cX7_formOn 39 = .ok (.aload_n 0, 1) := by decide +kernel
theorem dX7_formOn_40 : decode cX7_formOn 40 = .ok (.getfield 31, 3) := by decide +kernel
theorem dX7_formOn_43 : decode cX7_formOn 43 = .ok (.bipush 9, 2) := by decide +kernel
theorem dX7_formOn_45 : decode cX7_formOn 45 = .ok (.iload_n 1, 1) := by decide +kernel
theorem dX7_formOn_46 : decode cX7_formOn 46 = .ok (.imul, 1) := by decide +kernel
theorem dX7_formOn_47 : decode cX7_formOn 47 = .ok (.bipush 6, 2) := by decide +kernel
theorem dX7_formOn_49 : decode cX7_formOn 49 = .ok (.iadd, 1) := by decide +kernel
theorem dX7_formOn_50 : decode cX7_formOn 50 = .ok (.iaload, 1) := by decide +kernel
theorem dX7_formOn_51 : decode cX7_formOn 51 = .ok (.iconst (-1), 1) := by decide +kernel
theorem dX7_formOn_52 : decode cX7_formOn 52 = .ok (.ixor, 1) := by decide +kernel
theorem dX7_formOn_53 : decode cX7_formOn 53 = .ok (.iand, 1) := by decide +kernel
theorem dX7_formOn_54 : decode cX7_formOn 54 = .ok (.invokestatic 137, 3) := by decide +kernel
theorem dX7_formOn_57 : decode cX7_formOn 57 = .ok (.ireturn, 1) := by decide +kernel
set_option maxRecDepth 20000 in
theorem ggX7_canWool_X7_isPerson : GoodIn wsX7_canWool wsX7_isPerson := goodIn_r _ [6, 7, 8, 9, 5, 10, 11, 12, 13, 14, 15, 16, 17, 18, 19, 20, 21, 22, 23, 24, 25, 26, 27, 28, 29, 30, 31, 32, 33, 34, 35, 36, 37, 38, 39, 40, 41] (by decide +kernel) (by decide +kernel)
set_option maxRecDepth 20000 in
theorem gX7_canWool_X7_isPerson : GoodIn wsX7_canWool (wsV RX7 157 RX7 yX7_isPerson wsX7_isPerson) := goodIn_app (goodIn_of _ (by decide +kernel)) ggX7_canWool_X7_isPerson
theorem dX7_canWool_0 : decode cX7_canWool 0 = .ok (.aload_n 0, 1) := by decide +kernel
theorem dX7_canWool_1 : decode cX7_canWool 1 = .ok (.iload_n 1, 1) := by decide +kernel
theorem dX7_canWool_2 : decode cX7_canWool 2 = .ok (.invokevirtual 157, 3) := by decide +kernel
theorem dX7_canWool_5 : decode cX7_canWool 5 = .ok (.ifCond .eq 27, 3) := by decide +kernel
theorem dX7_canWool_8 : decode cX7_canWool 8 = .ok (.aload_n 0, 1) := by decide +kernel
theorem dX7_canWool_9 : decode cX7_canWool 9 = .ok (.getfield 7, 3) := by decide +kernel
theorem dX7_canWool_12 : decode cX7_canWool 12 = .ok (.iload_n 1, 1) := by decide +kernel
theorem dX7_canWool_13 : decode cX7_canWool 13 = .ok (.iaload, 1) := by decide +kernel
theorem dX7_canWool_14 : decode cX7_canWool 14 = .ok (.iconst 1, 1) := by decide +kernel
theorem dX7_canWool_15 : decode cX7_canWool 15 = .ok (.if_icmp .eq 17, 3) := by decide +kernel
theorem dX7_canWool_18 : decode cX7_canWool 18 = .ok (.aload_n 0, 1) := by decide +kernel
theorem dX7_canWool_19 : decode cX7_canWool 19 = .ok (.getfield 7, 3) := by decide +kernel
theorem dX7_canWool_22 : decode cX7_canWool 22 = .ok (.iload_n 1, 1) := by decide +kernel
theorem dX7_canWool_23 : decode cX7_canWool 23 = .ok (.iaload, 1) := by decide +kernel
theorem dX7_canWool_24 : decode cX7_canWool 24 = .ok (.iconst 2, 1) := by decide +kernel
theorem dX7_canWool_25 : decode cX7_canWool 25 = .ok (.if_icmp .eq 7, 3) := by decide +kernel
theorem dX7_canWool_28 : decode cX7_canWool 28 = .ok (.iconst 1, 1) := by decide +kernel
theorem dX7_canWool_29 : decode cX7_canWool 29 = .ok (.goto 4, 3) := by decide +kernel
theorem dX7_canWool_32 : decode cX7_canWool 32 = .ok (.iconst 0, 1) := by decide +kernel
theorem dX7_canWool_33 : decode cX7_canWool 33 = .ok (.ireturn, 1) := by decide +kernel
theorem dX7_oathsOf_0 : decode cX7_oathsOf 0 = .ok (.iconst 0, 1) := by decide +kernel
theorem dX7_oathsOf_1 : decode cX7_oathsOf 1 = .ok (.istore_n 2, 1) := by decide +kernel
theorem dX7_oathsOf_2 : decode cX7_oathsOf 2 = .ok (.iconst 0, 1) := by decide +kernel
theorem dX7_oathsOf_3 : decode cX7_oathsOf 3 = .ok (.istore_n 3, 1) := by decide +kernel
theorem dX7_oathsOf_4 : decode cX7_oathsOf 4 = .ok (.iload_n 3, 1) := by decide +kernel
theorem dX7_oathsOf_5 : decode cX7_oathsOf 5 = .ok (.aload_n 0, 1) := by decide +kernel
theorem dX7_oathsOf_6 : decode cX7_oathsOf 6 = .ok (.getfield 111, 3) := by decide +kernel
theorem dX7_oathsOf_9 : decode cX7_oathsOf 9 = .ok (.if_icmp .ge 39, 3) := by decide +kernel
theorem dX7_oathsOf_12 : decode cX7_oathsOf 12 = .ok (.iload_n 2, 1) := by decide +kernel
theorem dX7_oathsOf_13 : decode cX7_oathsOf 13 = .ok (.aload_n 0, 1) := by decide +kernel
theorem dX7_oathsOf_14 : decode cX7_oathsOf 14 = .ok (.getfield 19, 3) := by decide +kernel
theorem dX7_oathsOf_17 : decode cX7_oathsOf 17 = .ok (.iload_n 3, 1) := by decide +kernel
theorem dX7_oathsOf_18 : decode cX7_oathsOf 18 = .ok (.iaload, 1) := by decide +kernel
theorem dX7_oathsOf_19 : decode cX7_oathsOf 19 = .ok (.iload_n 1, 1) := by decide +kernel
theorem dX7_oathsOf_20 : decode cX7_oathsOf 20 = .ok (.if_icmp .eq 13, 3) := by decide +kernel
theorem dX7_oathsOf_23 : decode cX7_oathsOf 23 = .ok (.aload_n 0, 1) := by decide +kernel
theorem dX7_oathsOf_24 : decode cX7_oathsOf 24 = .ok (.getfield 22, 3) := by decide +kernel
theorem dX7_oathsOf_27 : decode cX7_oathsOf 27 = .ok (.iload_n 3, 1) := by decide +kernel
theorem dX7_oathsOf_28 : decode cX7_oathsOf 28 = .ok (.iaload, 1) := by decide +kernel
theorem dX7_oathsOf_29 : decode cX7_oathsOf 29 = .ok (.iload_n 1, 1) := by decide +kernel
theorem dX7_oathsOf_30 : decode cX7_oathsOf 30 = .ok (.if_icmp .ne 9, 3) := by decide +kernel
theorem dX7_oathsOf_33 : decode cX7_oathsOf 33 = .ok (.iconst 1, 1) := by decide +kernel
theorem dX7_oathsOf_34 : decode cX7_oathsOf 34 = .ok (.iload_n 3, 1) := by decide +kernel
theorem dX7_oathsOf_35 : decode cX7_oathsOf 35 = .ok (.ishl, 1) := by decide +kernel
theorem dX7_oathsOf_36 : decode cX7_oathsOf 36 = .ok (.goto 4, 3) := by decide +kernel
theorem dX7_oathsOf_39 : decode cX7_oathsOf 39 = .ok (.iconst 0, 1) := by decide +kernel
theorem dX7_oathsOf_40 : decode cX7_oathsOf 40 = .ok (.ior, 1) := by decide +kernel
theorem dX7_oathsOf_41 : decode cX7_oathsOf 41 = .ok (.istore_n 2, 1) := by decide +kernel
theorem dX7_oathsOf_42 : decode cX7_oathsOf 42 = .ok (.iinc 3 1, 3) := by decide +kernel
theorem dX7_oathsOf_45 : decode cX7_oathsOf 45 = .ok (.goto (-41), 3) := by decide +kernel
theorem dX7_oathsOf_48 : decode cX7_oathsOf 48 = .ok (.iload_n 2, 1) := by decide +kernel
theorem dX7_oathsOf_49 : decode cX7_oathsOf 49 = .ok (.ireturn, 1) := by decide +kernel
set_option maxRecDepth 20000 in
theorem ggX7_hearNow_X7_skyOf : GoodIn wsX7_hearNow wsX7_skyOf := goodIn_r _ [6, 7, 8, 30, 31, 32, 33, 34, 35, 36, 37, 38, 39, 40, 41, 42, 43, 44, 45, 46, 47, 48, 49, 50, 51, 52, 53, 54, 55, 56, 57, 58, 59, 60] (by decide +kernel) (by decide +kernel)
set_option maxRecDepth 20000 in
theorem gX7_hearNow_X7_skyOf : GoodIn wsX7_hearNow (wsV RX7 141 RX7 yX7_skyOf wsX7_skyOf) := goodIn_app (goodIn_of _ (by decide +kernel)) ggX7_hearNow_X7_skyOf
set_option maxRecDepth 20000 in
theorem ggX7_hearNow_X7_loudOf : GoodIn wsX7_hearNow wsX7_loudOf := goodIn_r _ [12, 7, 13, 30, 31, 32, 33, 34, 35, 36, 37, 38, 39, 40, 41, 42, 43, 44, 45, 46, 47, 48, 49, 50, 51, 52, 53, 54, 55, 56, 57, 58, 59, 60] (by decide +kernel) (by decide +kernel)
set_option maxRecDepth 20000 in
theorem gX7_hearNow_X7_loudOf : GoodIn wsX7_hearNow (wsV RX7 144 RX7 yX7_loudOf wsX7_loudOf) := goodIn_app (goodIn_of _ (by decide +kernel)) ggX7_hearNow_X7_loudOf
set_option maxRecDepth 20000 in
theorem ggX7_hearNow_X7_hearers : GoodIn wsX7_hearNow wsX7_hearers := goodIn_r _ [17, 18, 19, 20, 21, 5, 22, 1, 23, 24, 25, 26, 27, 28, 29, 30, 31, 32, 33, 34, 35, 36, 37, 38, 39, 40, 41, 42, 43, 44, 45, 46, 47, 48, 49, 50, 51, 52, 53, 54, 55, 56, 57, 58, 59, 60] (by decide +kernel) (by decide +kernel)
set_option maxRecDepth 20000 in
theorem gX7_hearNow_X7_hearers : GoodIn wsX7_hearNow (wsV RX7 130 RX7 yX7_hearers wsX7_hearers) := goodIn_app (goodIn_of _ (by decide +kernel)) ggX7_hearNow_X7_hearers
theorem dX7_hearNow_0 : decode cX7_hearNow 0 = .ok (.aload_n 0, 1) := by decide +kernel
theorem dX7_hearNow_1 : decode cX7_hearNow 1 = .ok (.iconst 0, 1) := by decide +kernel
theorem dX7_hearNow_2 : decode cX7_hearNow 2 = .ok (.aload_n 0, 1) := by decide +kernel
theorem dX7_hearNow_3 : decode cX7_hearNow 3 = .ok (.aload_n 0, 1) := by decide +kernel
theorem dX7_hearNow_4 : decode cX7_hearNow 4 = .ok (.getfield 31, 3) := by decide +kernel
theorem dX7_hearNow_7 : decode cX7_hearNow 7 = .ok (.bipush 8, 2) := by decide +kernel
theorem dX7_hearNow_9 : decode cX7_hearNow 9 = .ok (.iaload, 1) := by decide +kernel
theorem dX7_hearNow_10 : decode cX7_hearNow 10 = .ok (.invokevirtual 141, 3) := by decide +kernel
theorem dX7_hearNow_13 : decode cX7_hearNow 13 = .ok (.aload_n 0, 1) := by decide +kernel
theorem dX7_hearNow_14 : decode cX7_hearNow 14 = .ok (.aload_n 0, 1) := by decide +kernel
theorem dX7_hearNow_15 : decode cX7_hearNow 15 = .ok (.getfield 31, 3) := by decide +kernel
theorem dX7_hearNow_18 : decode cX7_hearNow 18 = .ok (.bipush 8, 2) := by decide +kernel
theorem dX7_hearNow_20 : decode cX7_hearNow 20 = .ok (.iaload, 1) := by decide +kernel
theorem dX7_hearNow_21 : decode cX7_hearNow 21 = .ok (.invokevirtual 144, 3) := by decide +kernel
theorem dX7_hearNow_24 : decode cX7_hearNow 24 = .ok (.invokevirtual 130, 3) := by decide +kernel
theorem dX7_hearNow_27 : decode cX7_hearNow 27 = .ok (.ireturn, 1) := by decide +kernel
set_option maxRecDepth 20000 in
theorem ggX7_person_X7_isPerson : GoodIn wsX7_person wsX7_isPerson := goodIn_r _ [7, 8, 9, 10, 6, 11, 48, 49, 50, 51, 52, 53, 54, 55, 56, 57, 58, 59, 60, 61, 62, 63, 64, 65, 66, 67, 68, 69, 70, 71, 72, 73, 74, 75, 76, 77, 78] (by decide +kernel) (by decide +kernel)
set_option maxRecDepth 20000 in
theorem gX7_person_X7_isPerson : GoodIn wsX7_person (wsV RX7 157 RX7 yX7_isPerson wsX7_isPerson) := goodIn_app (goodIn_of _ (by decide +kernel)) ggX7_person_X7_isPerson
set_option maxRecDepth 20000 in
theorem ggX7_person_X7_oathsOf : GoodIn wsX7_person wsX7_oathsOf := goodIn_r _ [15, 16, 17, 18, 48, 49, 50, 51, 52, 53, 54, 55, 56, 57, 58, 59, 60, 61, 62, 63, 64, 65, 66, 67, 68, 69, 70, 71, 72, 73, 74, 75, 76, 77, 78] (by decide +kernel) (by decide +kernel)
set_option maxRecDepth 20000 in
theorem gX7_person_X7_oathsOf : GoodIn wsX7_person (wsV RX7 160 RX7 yX7_oathsOf wsX7_oathsOf) := goodIn_app (goodIn_of _ (by decide +kernel)) ggX7_person_X7_oathsOf
set_option maxRecDepth 20000 in
theorem ggX7_person_X7_hearNow : GoodIn wsX7_person wsX7_hearNow := goodIn_r _ [22, 1, 23, 24, 25, 6, 26, 27, 28, 29, 30, 31, 32, 33, 34, 35, 36, 37, 8, 38, 39, 40, 41, 2, 42, 43, 44, 45, 46, 47, 48, 49, 50, 51, 52, 53, 54, 55, 56, 57, 58, 59, 60, 61, 62, 63, 64, 65, 66, 67, 68, 69, 70, 71, 72, 73, 74, 75, 76, 77, 78] (by decide +kernel) (by decide +kernel)
set_option maxRecDepth 20000 in
theorem gX7_person_X7_hearNow : GoodIn wsX7_person (wsV RX7 163 RX7 yX7_hearNow wsX7_hearNow) := goodIn_app (goodIn_of _ (by decide +kernel)) ggX7_person_X7_hearNow
theorem dX7_person_0 : decode cX7_person 0 = .ok (.aload_n 0, 1) := by decide +kernel
theorem dX7_person_1 : decode cX7_person 1 = .ok (.iload_n 1, 1) := by decide +kernel
theorem dX7_person_2 : decode cX7_person 2 = .ok (.invokevirtual 157, 3) := by decide +kernel
theorem dX7_person_5 : decode cX7_person 5 = .ok (.ifCond .ne 5, 3) := by decide +kernel
theorem dX7_person_8 : decode cX7_person 8 = .ok (.iconst (-1), 1) := by decide +kernel
theorem dX7_person_9 : decode cX7_person 9 = .ok (.ireturn, 1) := by decide +kernel
theorem dX7_person_10 : decode cX7_person 10 = .ok (.iload_n 2, 1) := by decide +kernel
theorem dX7_person_11 : decode cX7_person 11 = .ok (.tableswitch 91 0 5 #[37, 44, 51, 62, 68, 82], 37) := by decide +kernel
theorem dX7_person_48 : decode cX7_person 48 = .ok (.aload_n 0, 1) := by decide +kernel
theorem dX7_person_49 : decode cX7_person 49 = .ok (.getfield 31, 3) := by decide +kernel
theorem dX7_person_52 : decode cX7_person 52 = .ok (.iload_n 1, 1) := by decide +kernel
theorem dX7_person_53 : decode cX7_person 53 = .ok (.iaload, 1) := by decide +kernel
theorem dX7_person_54 : decode cX7_person 54 = .ok (.ireturn, 1) := by decide +kernel
theorem dX7_person_55 : decode cX7_person 55 = .ok (.aload_n 0, 1) := by decide +kernel
theorem dX7_person_56 : decode cX7_person 56 = .ok (.getfield 7, 3) := by decide +kernel
theorem dX7_person_59 : decode cX7_person 59 = .ok (.iload_n 1, 1) := by decide +kernel
theorem dX7_person_60 : decode cX7_person 60 = .ok (.iaload, 1) := by decide +kernel
theorem dX7_person_61 : decode cX7_person 61 = .ok (.ireturn, 1) := by decide +kernel
theorem dX7_person_62 : decode cX7_person 62 = .ok (.aload_n 0, 1) := by decide +kernel
theorem dX7_person_63 : decode cX7_person 63 = .ok (.getfield 31, 3) := by decide +kernel
theorem dX7_person_66 : decode cX7_person 66 = .ok (.iconst 5, 1) := by decide +kernel
theorem dX7_person_67 : decode cX7_person 67 = .ok (.iaload, 1) := by decide +kernel
theorem dX7_person_68 : decode cX7_person 68 = .ok (.iload_n 1, 1) := by decide +kernel
theorem dX7_person_69 : decode cX7_person 69 = .ok (.ishr, 1) := by decide +kernel
theorem dX7_person_70 : decode cX7_person 70 = .ok (.iconst 1, 1) := by decide +kernel
theorem dX7_person_71 : decode cX7_person 71 = .ok (.iand, 1) := by decide +kernel
theorem dX7_person_72 : decode cX7_person 72 = .ok (.ireturn, 1) := by decide +kernel
theorem dX7_person_73 : decode cX7_person 73 = .ok (.aload_n 0, 1) := by decide +kernel
theorem dX7_person_74 : decode cX7_person 74 = .ok (.iload_n 1, 1) := by decide +kernel
theorem dX7_person_75 : decode cX7_person 75 = .ok (.invokevirtual 160, 3) := by decide +kernel
theorem dX7_person_78 : decode cX7_person 78 = .ok (.ireturn, 1) := by decide +kernel
theorem dX7_person_79 : decode cX7_person 79 = .ok (.aload_n 0, 1) := by decide +kernel
theorem dX7_person_80 : decode cX7_person 80 = .ok (.iload_n 1, 1) := by decide +kernel
theorem dX7_person_81 : decode cX7_person 81 = .ok (.invokevirtual 160, 3) := by decide +kernel
theorem dX7_person_84 : decode cX7_person 84 = .ok (.aload_n 0, 1) := by decide +kernel
theorem dX7_person_85 : decode cX7_person 85 = .ok (.getfield 31, 3) := by decide +kernel
theorem dX7_person_88 : decode cX7_person 88 = .ok (.bipush 6, 2) := by decide +kernel
theorem dX7_person_90 : decode cX7_person 90 = .ok (.iaload, 1) := by decide +kernel
theorem dX7_person_91 : decode cX7_person 91 = .ok (.iand, 1) := by decide +kernel
theorem dX7_person_92 : decode cX7_person 92 = .ok (.ireturn, 1) := by decide +kernel
theorem dX7_person_93 : decode cX7_person 93 = .ok (.aload_n 0, 1) := by decide +kernel
theorem dX7_person_94 : decode cX7_person 94 = .ok (.invokevirtual 163, 3) := by decide +kernel
theorem dX7_person_97 : decode cX7_person 97 = .ok (.iload_n 1, 1) := by decide +kernel
theorem dX7_person_98 : decode cX7_person 98 = .ok (.ishr, 1) := by decide +kernel
theorem dX7_person_99 : decode cX7_person 99 = .ok (.iconst 1, 1) := by decide +kernel
theorem dX7_person_100 : decode cX7_person 100 = .ok (.iand, 1) := by decide +kernel
theorem dX7_person_101 : decode cX7_person 101 = .ok (.ireturn, 1) := by decide +kernel
theorem dX7_person_102 : decode cX7_person 102 = .ok (.bipush (-2), 2) := by decide +kernel
theorem dX7_person_104 : decode cX7_person 104 = .ok (.ireturn, 1) := by decide +kernel
set_option maxRecDepth 20000 in
theorem ggX7_oath_X7_isOath : GoodIn wsX7_oath wsX7_isOath := goodIn_r _ [10, 11, 12, 13, 9, 14, 15, 16, 17, 18, 19, 20, 21, 22, 23, 24, 25, 26, 27, 28, 29, 30, 31, 32, 33, 34, 35, 36, 37, 38, 39, 40, 41, 42, 43, 44, 45] (by decide +kernel) (by decide +kernel)
set_option maxRecDepth 20000 in
theorem gX7_oath_X7_isOath : GoodIn wsX7_oath (wsV RX7 153 RX7 yX7_isOath wsX7_isOath) := goodIn_app (goodIn_of _ (by decide +kernel)) ggX7_oath_X7_isOath
theorem dX7_oath_0 : decode cX7_oath 0 = .ok (.aload_n 0, 1) := by decide +kernel
theorem dX7_oath_1 : decode cX7_oath 1 = .ok (.iload_n 1, 1) := by decide +kernel
theorem dX7_oath_2 : decode cX7_oath 2 = .ok (.invokevirtual 153, 3) := by decide +kernel
theorem dX7_oath_5 : decode cX7_oath 5 = .ok (.ifCond .ne 5, 3) := by decide +kernel
theorem dX7_oath_8 : decode cX7_oath 8 = .ok (.iconst (-1), 1) := by decide +kernel
theorem dX7_oath_9 : decode cX7_oath 9 = .ok (.ireturn, 1) := by decide +kernel
theorem dX7_oath_10 : decode cX7_oath 10 = .ok (.iload_n 2, 1) := by decide +kernel
theorem dX7_oath_11 : decode cX7_oath 11 = .ok (.tableswitch 73 0 4 #[33, 40, 47, 54, 61], 33) := by decide +kernel
theorem dX7_oath_44 : decode cX7_oath 44 = .ok (.aload_n 0, 1) := by decide +kernel
theorem dX7_oath_45 : decode cX7_oath 45 = .ok (.getfield 19, 3) := by decide +kernel
theorem dX7_oath_48 : decode cX7_oath 48 = .ok (.iload_n 1, 1) := by decide +kernel
theorem dX7_oath_49 : decode cX7_oath 49 = .ok (.iaload, 1) := by decide +kernel
theorem dX7_oath_50 : decode cX7_oath 50 = .ok (.ireturn, 1) := by decide +kernel
theorem dX7_oath_51 : decode cX7_oath 51 = .ok (.aload_n 0, 1) := by decide +kernel
theorem dX7_oath_52 : decode cX7_oath 52 = .ok (.getfield 22, 3) := by decide +kernel
theorem dX7_oath_55 : decode cX7_oath 55 = .ok (.iload_n 1, 1) := by decide +kernel
theorem dX7_oath_56 : decode cX7_oath 56 = .ok (.iaload, 1) := by decide +kernel
theorem dX7_oath_57 : decode cX7_oath 57 = .ok (.ireturn, 1) := by decide +kernel
theorem dX7_oath_58 : decode cX7_oath 58 = .ok (.aload_n 0, 1) := by decide +kernel
theorem dX7_oath_59 : decode cX7_oath 59 = .ok (.getfield 25, 3) := by decide +kernel
theorem dX7_oath_62 : decode cX7_oath 62 = .ok (.iload_n 1, 1) := by decide +kernel
theorem dX7_oath_63 : decode cX7_oath 63 = .ok (.iaload, 1) := by decide +kernel
theorem dX7_oath_64 : decode cX7_oath 64 = .ok (.ireturn, 1) := by decide +kernel
theorem dX7_oath_65 : decode cX7_oath 65 = .ok (.aload_n 0, 1) := by decide +kernel
theorem dX7_oath_66 : decode cX7_oath 66 = .ok (.getfield 28, 3) := by decide +kernel
theorem dX7_oath_69 : decode cX7_oath 69 = .ok (.iload_n 1, 1) := by decide +kernel
theorem dX7_oath_70 : decode cX7_oath 70 = .ok (.iaload, 1) := by decide +kernel
theorem dX7_oath_71 : decode cX7_oath 71 = .ok (.ireturn, 1) := by decide +kernel
theorem dX7_oath_72 : decode cX7_oath 72 = .ok (.aload_n 0, 1) := by decide +kernel
theorem dX7_oath_73 : decode cX7_oath 73 = .ok (.getfield 31, 3) := by decide +kernel
theorem dX7_oath_76 : decode cX7_oath 76 = .ok (.bipush 6, 2) := by decide +kernel
theorem dX7_oath_78 : decode cX7_oath 78 = .ok (.iaload, 1) := by decide +kernel
theorem dX7_oath_79 : decode cX7_oath 79 = .ok (.iload_n 1, 1) := by decide +kernel
theorem dX7_oath_80 : decode cX7_oath 80 = .ok (.ishr, 1) := by decide +kernel
theorem dX7_oath_81 : decode cX7_oath 81 = .ok (.iconst 1, 1) := by decide +kernel
theorem dX7_oath_82 : decode cX7_oath 82 = .ok (.iand, 1) := by decide +kernel
theorem dX7_oath_83 : decode cX7_oath 83 = .ok (.ireturn, 1) := by decide +kernel
theorem dX7_oath_84 : decode cX7_oath 84 = .ok (.bipush (-2), 2) := by decide +kernel
theorem dX7_oath_86 : decode cX7_oath 86 = .ok (.ireturn, 1) := by decide +kernel
theorem dX7_keepAct_0 : decode cX7_keepAct 0 = .ok (.iconst 0, 1) := by decide +kernel
theorem dX7_keepAct_1 : decode cX7_keepAct 1 = .ok (.istore_n 1, 1) := by decide +kernel
theorem dX7_keepAct_2 : decode cX7_keepAct 2 = .ok (.iload_n 1, 1) := by decide +kernel
theorem dX7_keepAct_3 : decode cX7_keepAct 3 = .ok (.bipush 9, 2) := by decide +kernel
theorem dX7_keepAct_5 : decode cX7_keepAct 5 = .ok (.if_icmp .ge 29, 3) := by decide +kernel
theorem dX7_keepAct_8 : decode cX7_keepAct 8 = .ok (.aload_n 0, 1) := by decide +kernel
theorem dX7_keepAct_9 : decode cX7_keepAct 9 = .ok (.getfield 46, 3) := by decide +kernel
theorem dX7_keepAct_12 : decode cX7_keepAct 12 = .ok (.bipush 9, 2) := by decide +kernel
theorem dX7_keepAct_14 : decode cX7_keepAct 14 = .ok (.aload_n 0, 1) := by decide +kernel
theorem dX7_keepAct_15 : decode cX7_keepAct 15 = .ok (.getfield 166, 3) := by decide +kernel
theorem dX7_keepAct_18 : decode cX7_keepAct 18 = .ok (.imul, 1) := by decide +kernel
theorem dX7_keepAct_19 : decode cX7_keepAct 19 = .ok (.iload_n 1, 1) := by decide +kernel
theorem dX7_keepAct_20 : decode cX7_keepAct 20 = .ok (.iadd, 1) := by decide +kernel
theorem dX7_keepAct_21 : decode cX7_keepAct 21 = .ok (.aload_n 0, 1) := by decide +kernel
theorem dX7_keepAct_22 : decode cX7_keepAct 22 = .ok (.getfield 31, 3) := by decide +kernel
theorem dX7_keepAct_25 : decode cX7_keepAct 25 = .ok (.iload_n 1, 1) := by decide +kernel
theorem dX7_keepAct_26 : decode cX7_keepAct 26 = .ok (.iaload, 1) := by decide +kernel
theorem dX7_keepAct_27 : decode cX7_keepAct 27 = .ok (.iastore, 1) := by decide +kernel
theorem dX7_keepAct_28 : decode cX7_keepAct 28 = .ok (.iinc 1 1, 3) := by decide +kernel
theorem dX7_keepAct_31 : decode cX7_keepAct 31 = .ok (.goto (-29), 3) := by decide +kernel
theorem dX7_keepAct_34 : decode cX7_keepAct 34 = .ok (.aload_n 0, 1) := by decide +kernel
theorem dX7_keepAct_35 : decode cX7_keepAct 35 = .ok (.aload_n 0, 1) := by decide +kernel
theorem dX7_keepAct_36 : decode cX7_keepAct 36 = .ok (.getfield 166, 3) := by decide +kernel
theorem dX7_keepAct_39 : decode cX7_keepAct 39 = .ok (.iconst 1, 1) := by decide +kernel
theorem dX7_keepAct_40 : decode cX7_keepAct 40 = .ok (.iadd, 1) := by decide +kernel
theorem dX7_keepAct_41 : decode cX7_keepAct 41 = .ok (.bipush 14, 2) := by decide +kernel
theorem dX7_keepAct_43 : decode cX7_keepAct 43 = .ok (.irem, 1) := by decide +kernel
theorem dX7_keepAct_44 : decode cX7_keepAct 44 = .ok (.putfield 166, 3) := by decide +kernel
theorem dX7_keepAct_47 : decode cX7_keepAct 47 = .ok (.aload_n 0, 1) := by decide +kernel
theorem dX7_keepAct_48 : decode cX7_keepAct 48 = .ok (.aload_n 0, 1) := by decide +kernel
theorem dX7_keepAct_49 : decode cX7_keepAct 49 = .ok (.getfield 114, 3) := by decide +kernel
theorem dX7_keepAct_52 : decode cX7_keepAct 52 = .ok (.bipush 14, 2) := by decide +kernel
theorem dX7_keepAct_54 : decode cX7_keepAct 54 = .ok (.if_icmp .ge 12, 3) := by decide +kernel
theorem dX7_keepAct_57 : decode cX7_keepAct 57 = .ok (.aload_n 0, 1) := by decide +kernel
theorem dX7_keepAct_58 : decode cX7_keepAct 58 = .ok (.getfield 114, 3) := by decide +kernel
theorem dX7_keepAct_61 : decode cX7_keepAct 61 = .ok (.iconst 1, 1) := by decide +kernel
theorem dX7_keepAct_62 : decode cX7_keepAct 62 = .ok (.iadd, 1) := by decide +kernel
theorem dX7_keepAct_63 : decode cX7_keepAct 63 = .ok (.goto 5, 3) := by decide +kernel
theorem dX7_keepAct_66 : decode cX7_keepAct 66 = .ok (.bipush 14, 2) := by decide +kernel
theorem dX7_keepAct_68 : decode cX7_keepAct 68 = .ok (.putfield 114, 3) := by decide +kernel
theorem dX7_keepAct_71 : decode cX7_keepAct 71 = .ok (.return_, 1) := by decide +kernel
set_option maxRecDepth 20000 in
theorem ggX7_day_X7_keepAct : GoodIn wsX7_day wsX7_keepAct := goodIn_r _ [5, 6, 7, 8, 9, 61, 62, 63, 64, 65, 66, 67, 68, 69, 70, 71, 72, 73, 74, 75, 76, 77, 78, 79, 80, 81, 82, 83, 84, 85, 86, 87, 88, 89, 90, 91] (by decide +kernel) (by decide +kernel)
set_option maxRecDepth 20000 in
theorem gX7_day_X7_keepAct : GoodIn wsX7_day (wsV RX7 169 RX7 yX7_keepAct wsX7_keepAct) := goodIn_app (goodIn_of _ (by decide +kernel)) ggX7_day_X7_keepAct
set_option maxRecDepth 20000 in
theorem ggX7_day_X7_passOn : GoodIn wsX7_day wsX7_passOn := goodIn_r _ [13, 8, 14, 15, 16, 4, 17, 18, 19, 20, 21, 22, 23, 24, 25, 26, 27, 28, 29, 30, 31, 32, 33, 34, 35, 36, 37, 38, 39, 40, 41, 42, 43, 44, 45, 46, 47, 48, 49, 50, 51, 52, 53, 54, 55, 56, 57, 58, 59, 60, 61, 62, 63, 64, 65, 66, 67, 68, 69, 70, 71, 72, 73, 74, 75, 76, 77, 78, 79, 80, 81, 82, 83, 84, 85, 86, 87, 88, 89, 90, 91] (by decide +kernel) (by decide +kernel)
set_option maxRecDepth 20000 in
theorem gX7_day_X7_passOn : GoodIn wsX7_day (wsV RX7 172 RX7 yX7_passOn wsX7_passOn) := goodIn_app (goodIn_of _ (by decide +kernel)) ggX7_day_X7_passOn
theorem dX7_day_0 : decode cX7_day 0 = .ok (.aload_n 0, 1) := by decide +kernel
theorem dX7_day_1 : decode cX7_day 1 = .ok (.invokevirtual 169, 3) := by decide +kernel
theorem dX7_day_4 : decode cX7_day 4 = .ok (.aload_n 0, 1) := by decide +kernel
theorem dX7_day_5 : decode cX7_day 5 = .ok (.iconst 0, 1) := by decide +kernel
theorem dX7_day_6 : decode cX7_day 6 = .ok (.iconst 1, 1) := by decide +kernel
theorem dX7_day_7 : decode cX7_day 7 = .ok (.invokevirtual 172, 3) := by decide +kernel
theorem dX7_day_10 : decode cX7_day 10 = .ok (.ireturn, 1) := by decide +kernel
set_option maxRecDepth 20000 in
theorem ggX7_drum_X7_isPlace : GoodIn wsX7_drum wsX7_isPlace := goodIn_r _ [5, 1, 6, 7, 4, 8] (by decide +kernel) (by decide +kernel)
set_option maxRecDepth 20000 in
theorem gX7_drum_X7_isPlace : GoodIn wsX7_drum (va_wsS RX7 176 yX7_isPlace wsX7_isPlace) := goodIn_app (goodIn_of _ (by decide +kernel)) ggX7_drum_X7_isPlace
set_option maxRecDepth 20000 in
theorem ggX7_drum_X7_in : GoodIn wsX7_drum wsX7_in := goodIn_r _ [8] (by decide +kernel) (by decide +kernel)
set_option maxRecDepth 20000 in
theorem gX7_drum_X7_in : GoodIn wsX7_drum (va_wsS RX7 67 yX7_in wsX7_in) := goodIn_app (goodIn_of _ (by decide +kernel)) ggX7_drum_X7_in
set_option maxRecDepth 20000 in
theorem ggX7_drum_X7_keepAct : GoodIn wsX7_drum wsX7_keepAct := goodIn_r _ [12, 13, 14, 15, 16, 48, 49, 50, 51, 52, 53, 54, 55, 56, 57, 58, 59, 60, 61, 62, 63, 64, 65, 66, 67, 68, 69, 70, 71, 72, 73, 74, 75, 76, 77, 78] (by decide +kernel) (by decide +kernel)
set_option maxRecDepth 20000 in
theorem gX7_drum_X7_keepAct : GoodIn wsX7_drum (wsV RX7 169 RX7 yX7_keepAct wsX7_keepAct) := goodIn_app (goodIn_of _ (by decide +kernel)) ggX7_drum_X7_keepAct
set_option maxRecDepth 20000 in
theorem ggX7_drum_X7_clapOn : GoodIn wsX7_drum wsX7_clapOn := goodIn_r _ [20, 15, 21, 22, 23, 24, 25, 26, 27, 4, 28, 29, 30, 31, 32, 33, 34, 35, 36, 37, 38, 39, 40, 41, 42, 43, 44, 45, 46, 47, 48, 49, 50, 51, 52, 53, 54, 55, 56, 57, 58, 59, 60, 61, 62, 63, 64, 65, 66, 67, 68, 69, 70, 71, 72, 73, 74, 75, 76, 77, 78] (by decide +kernel) (by decide +kernel)
set_option maxRecDepth 20000 in
theorem gX7_drum_X7_clapOn : GoodIn wsX7_drum (wsV RX7 147 RX7 yX7_clapOn wsX7_clapOn) := goodIn_app (goodIn_of _ (by decide +kernel)) ggX7_drum_X7_clapOn
theorem dX7_drum_0 : decode cX7_drum 0 = .ok (.iload_n 1, 1) := by decide +kernel
theorem dX7_drum_1 : decode cX7_drum 1 = .ok (.invokestatic 176, 3) := by decide +kernel
theorem dX7_drum_4 : decode cX7_drum 4 = .ok (.ifCond .ne 5, 3) := by decide +kernel
theorem dX7_drum_7 : decode cX7_drum 7 = .ok (.iconst (-1), 1) := by decide +kernel
theorem dX7_drum_8 : decode cX7_drum 8 = .ok (.ireturn, 1) := by decide +kernel
theorem dX7_drum_9 : decode cX7_drum 9 = .ok (.iload_n 2, 1) := by decide +kernel
theorem dX7_drum_10 : decode cX7_drum 10 = .ok (.i2l, 1) := by decide +kernel
theorem dX7_drum_11 : decode cX7_drum 11 = .ok (.lconst 0, 1) := by decide +kernel
theorem dX7_drum_12 : decode cX7_drum 12 = .ok (.ldc2_w 117, 3) := by decide +kernel
theorem dX7_drum_15 : decode cX7_drum 15 = .ok (.invokestatic 67, 3) := by decide +kernel
theorem dX7_drum_18 : decode cX7_drum 18 = .ok (.ifCond .ne 6, 3) := by decide +kernel
theorem dX7_drum_21 : decode cX7_drum 21 = .ok (.bipush (-2), 2) := by decide +kernel
theorem dX7_drum_23 : decode cX7_drum 23 = .ok (.ireturn, 1) := by decide +kernel
theorem dX7_drum_24 : decode cX7_drum 24 = .ok (.aload_n 0, 1) := by decide +kernel
theorem dX7_drum_25 : decode cX7_drum 25 = .ok (.invokevirtual 169, 3) := by decide +kernel
theorem dX7_drum_28 : decode cX7_drum 28 = .ok (.aload_n 0, 1) := by decide +kernel
theorem dX7_drum_29 : decode cX7_drum 29 = .ok (.iconst 0, 1) := by decide +kernel
theorem dX7_drum_30 : decode cX7_drum 30 = .ok (.iload_n 1, 1) := by decide +kernel
theorem dX7_drum_31 : decode cX7_drum 31 = .ok (.iload_n 2, 1) := by decide +kernel
theorem dX7_drum_32 : decode cX7_drum 32 = .ok (.invokevirtual 147, 3) := by decide +kernel
theorem dX7_drum_35 : decode cX7_drum 35 = .ok (.ireturn, 1) := by decide +kernel
set_option maxRecDepth 20000 in
theorem ggX7_swear_X7_isOath : GoodIn wsX7_swear wsX7_isOath := goodIn_r _ [6, 7, 8, 9, 5, 10, 29, 30, 31, 32, 33, 34, 35, 36, 37, 38, 39, 40, 41, 42, 43, 44, 45, 46, 47, 48, 49, 50, 51, 52, 53, 54, 55, 56, 57, 58, 59] (by decide +kernel) (by decide +kernel)
set_option maxRecDepth 20000 in
theorem gX7_swear_X7_isOath : GoodIn wsX7_swear (wsV RX7 153 RX7 yX7_isOath wsX7_isOath) := goodIn_app (goodIn_of _ (by decide +kernel)) ggX7_swear_X7_isOath
set_option maxRecDepth 20000 in
theorem ggX7_swear_X7_canSwear : GoodIn wsX7_swear wsX7_canSwear := goodIn_r _ [14, 1, 15, 2, 3, 4, 5, 6, 7, 8, 9, 10, 16, 17, 18, 29, 30, 31, 32, 33, 34, 35, 36, 37, 38, 39, 40, 41, 42, 43, 44, 45, 46, 47, 48, 49, 50, 51, 52, 53, 54, 55, 56, 57, 58, 59] (by decide +kernel) (by decide +kernel)
set_option maxRecDepth 20000 in
theorem gX7_swear_X7_canSwear : GoodIn wsX7_swear (wsV RX7 179 RX7 yX7_canSwear wsX7_canSwear) := goodIn_app (goodIn_of _ (by decide +kernel)) ggX7_swear_X7_canSwear
set_option maxRecDepth 20000 in
theorem ggX7_swear_X7_keepAct : GoodIn wsX7_swear wsX7_keepAct := goodIn_r _ [22, 23, 24, 1, 25, 29, 30, 31, 32, 33, 34, 35, 36, 37, 38, 39, 40, 41, 42, 43, 44, 45, 46, 47, 48, 49, 50, 51, 52, 53, 54, 55, 56, 57, 58, 59] (by decide +kernel) (by decide +kernel)
set_option maxRecDepth 20000 in
theorem gX7_swear_X7_keepAct : GoodIn wsX7_swear (wsV RX7 169 RX7 yX7_keepAct wsX7_keepAct) := goodIn_app (goodIn_of _ (by decide +kernel)) ggX7_swear_X7_keepAct
set_option maxRecDepth 20000 in
theorem ggX7_swear_X7_ones : GoodIn wsX7_swear wsX7_ones := goodIn_r _ [28] (by decide +kernel) (by decide +kernel)
set_option maxRecDepth 20000 in
theorem gX7_swear_X7_ones : GoodIn wsX7_swear (va_wsS RX7 137 yX7_ones wsX7_ones) := goodIn_app (goodIn_of _ (by decide +kernel)) ggX7_swear_X7_ones
theorem dX7_swear_0 : decode cX7_swear 0 = .ok (.aload_n 0, 1) := by decide +kernel
theorem dX7_swear_1 : decode cX7_swear 1 = .ok (.iload_n 1, 1) := by decide +kernel
theorem dX7_swear_2 : decode cX7_swear 2 = .ok (.invokevirtual 153, 3) := by decide +kernel
theorem dX7_swear_5 : decode cX7_swear 5 = .ok (.ifCond .ne 5, 3) := by decide +kernel
theorem dX7_swear_8 : decode cX7_swear 8 = .ok (.iconst (-1), 1) := by decide +kernel
theorem dX7_swear_9 : decode cX7_swear 9 = .ok (.ireturn, 1) := by decide +kernel
theorem dX7_swear_10 : decode cX7_swear 10 = .ok (.aload_n 0, 1) := by decide +kernel
theorem dX7_swear_11 : decode cX7_swear 11 = .ok (.iconst 0, 1) := by decide +kernel
theorem dX7_swear_12 : decode cX7_swear 12 = .ok (.iload_n 1, 1) := by decide +kernel
theorem dX7_swear_13 : decode cX7_swear 13 = .ok (.invokevirtual 179, 3) := by decide +kernel
theorem dX7_swear_16 : decode cX7_swear 16 = .ok (.ifCond .ne 6, 3) := by decide +kernel
theorem dX7_swear_19 : decode cX7_swear 19 = .ok (.bipush (-3), 2) := by decide +kernel
theorem dX7_swear_21 : decode cX7_swear 21 = .ok (.ireturn, 1) := by decide +kernel
theorem dX7_swear_22 : decode cX7_swear 22 = .ok (.aload_n 0, 1) := by decide +kernel
theorem dX7_swear_23 : decode cX7_swear 23 = .ok (.invokevirtual 169, 3) := by decide +kernel
theorem dX7_swear_26 : decode cX7_swear 26 = .ok (.aload_n 0, 1) := by decide +kernel
theorem dX7_swear_27 : decode cX7_swear 27 = .ok (.getfield 31, 3) := by decide +kernel
theorem dX7_swear_30 : decode cX7_swear 30 = .ok (.bipush 6, 2) := by decide +kernel
theorem dX7_swear_32 : decode cX7_swear 32 = .ok (.dup2, 1) := by decide +kernel
theorem dX7_swear_33 : decode cX7_swear 33 = .ok (.iaload, 1) := by decide +kernel
theorem dX7_swear_34 : decode cX7_swear 34 = .ok (.iconst 1, 1) := by decide +kernel
theorem dX7_swear_35 : decode cX7_swear 35 = .ok (.iload_n 1, 1) := by decide +kernel
theorem dX7_swear_36 : decode cX7_swear 36 = .ok (.ishl, 1) := by decide +kernel
theorem dX7_swear_37 : decode cX7_swear 37 = .ok (.ior, 1) := by decide +kernel
theorem dX7_swear_38 : decode cX7_swear 38 = .ok (.iastore, 1) := by decide +kernel
theorem dX7_swear_39 : decode cX7_swear 39 = .ok (.aload_n 0, 1) := by decide +kernel
theorem dX7_swear_40 : decode cX7_swear 40 = .ok (.getfield 31, 3) := by decide +kernel
theorem dX7_swear_43 : decode cX7_swear 43 = .ok (.bipush 6, 2) := by decide +kernel
theorem dX7_swear_45 : decode cX7_swear 45 = .ok (.iaload, 1) := by decide +kernel
theorem dX7_swear_46 : decode cX7_swear 46 = .ok (.invokestatic 137, 3) := by decide +kernel
theorem dX7_swear_49 : decode cX7_swear 49 = .ok (.ireturn, 1) := by decide +kernel
set_option maxRecDepth 20000 in
theorem ggX7_form_X7_isOath : GoodIn wsX7_form wsX7_isOath := goodIn_r _ [6, 7, 8, 9, 5, 10, 33, 34, 35, 36, 37, 38, 39, 40, 41, 42, 43, 44, 45, 46, 47, 48, 49, 50, 51, 52, 53, 54, 55, 56, 57, 58, 59, 60, 61, 62, 63] (by decide +kernel) (by decide +kernel)
set_option maxRecDepth 20000 in
theorem gX7_form_X7_isOath : GoodIn wsX7_form (wsV RX7 153 RX7 yX7_isOath wsX7_isOath) := goodIn_app (goodIn_of _ (by decide +kernel)) ggX7_form_X7_isOath
set_option maxRecDepth 20000 in
theorem ggX7_form_X7_has : GoodIn wsX7_form wsX7_has := goodIn_r _ [13] (by decide +kernel) (by decide +kernel)
set_option maxRecDepth 20000 in
theorem gX7_form_X7_has : GoodIn wsX7_form (va_wsS RX7 119 yX7_has wsX7_has) := goodIn_app (goodIn_of _ (by decide +kernel)) ggX7_form_X7_has
set_option maxRecDepth 20000 in
theorem ggX7_form_X7_keepAct : GoodIn wsX7_form wsX7_keepAct := goodIn_r _ [17, 18, 19, 1, 20, 33, 34, 35, 36, 37, 38, 39, 40, 41, 42, 43, 44, 45, 46, 47, 48, 49, 50, 51, 52, 53, 54, 55, 56, 57, 58, 59, 60, 61, 62, 63] (by decide +kernel) (by decide +kernel)
set_option maxRecDepth 20000 in
theorem gX7_form_X7_keepAct : GoodIn wsX7_form (wsV RX7 169 RX7 yX7_keepAct wsX7_keepAct) := goodIn_app (goodIn_of _ (by decide +kernel)) ggX7_form_X7_keepAct
set_option maxRecDepth 20000 in
theorem ggX7_form_X7_formOn : GoodIn wsX7_form wsX7_formOn := goodIn_r _ [24, 1, 25, 26, 27, 5, 28, 7, 29, 11, 12, 13, 30, 31, 32, 33, 34, 35, 36, 37, 38, 39, 40, 41, 42, 43, 44, 45, 46, 47, 48, 49, 50, 51, 52, 53, 54, 55, 56, 57, 58, 59, 60, 61, 62, 63] (by decide +kernel) (by decide +kernel)
set_option maxRecDepth 20000 in
theorem gX7_form_X7_formOn : GoodIn wsX7_form (wsV RX7 182 RX7 yX7_formOn wsX7_formOn) := goodIn_app (goodIn_of _ (by decide +kernel)) ggX7_form_X7_formOn
theorem dX7_form_0 : decode cX7_form 0 = .ok (.aload_n 0, 1) := by decide +kernel
theorem dX7_form_1 : decode cX7_form 1 = .ok (.iload_n 1, 1) := by decide +kernel
theorem dX7_form_2 : decode cX7_form 2 = .ok (.invokevirtual 153, 3) := by decide +kernel
theorem dX7_form_5 : decode cX7_form 5 = .ok (.ifCond .ne 5, 3) := by decide +kernel
theorem dX7_form_8 : decode cX7_form 8 = .ok (.iconst (-1), 1) := by decide +kernel
theorem dX7_form_9 : decode cX7_form 9 = .ok (.ireturn, 1) := by decide +kernel
theorem dX7_form_10 : decode cX7_form 10 = .ok (.aload_n 0, 1) := by decide +kernel
theorem dX7_form_11 : decode cX7_form 11 = .ok (.getfield 31, 3) := by decide +kernel
theorem dX7_form_14 : decode cX7_form 14 = .ok (.bipush 6, 2) := by decide +kernel
theorem dX7_form_16 : decode cX7_form 16 = .ok (.iaload, 1) := by decide +kernel
theorem dX7_form_17 : decode cX7_form 17 = .ok (.iload_n 1, 1) := by decide +kernel
theorem dX7_form_18 : decode cX7_form 18 = .ok (.invokestatic 119, 3) := by decide +kernel
theorem dX7_form_21 : decode cX7_form 21 = .ok (.ifCond .ne 6, 3) := by decide +kernel
theorem dX7_form_24 : decode cX7_form 24 = .ok (.bipush (-3), 2) := by decide +kernel
theorem dX7_form_26 : decode cX7_form 26 = .ok (.ireturn, 1) := by decide +kernel
theorem dX7_form_27 : decode cX7_form 27 = .ok (.aload_n 0, 1) := by decide +kernel
theorem dX7_form_28 : decode cX7_form 28 = .ok (.invokevirtual 169, 3) := by decide +kernel
theorem dX7_form_31 : decode cX7_form 31 = .ok (.aload_n 0, 1) := by decide +kernel
theorem dX7_form_32 : decode cX7_form 32 = .ok (.iconst 0, 1) := by decide +kernel
theorem dX7_form_33 : decode cX7_form 33 = .ok (.iload_n 1, 1) := by decide +kernel
theorem dX7_form_34 : decode cX7_form 34 = .ok (.invokevirtual 182, 3) := by decide +kernel
theorem dX7_form_37 : decode cX7_form 37 = .ok (.ireturn, 1) := by decide +kernel
set_option maxRecDepth 20000 in
theorem ggX7_move_X7_isPerson : GoodIn wsX7_move wsX7_isPerson := goodIn_r _ [6, 7, 8, 9, 5, 10, 22, 23, 24, 25, 26, 27, 28, 29, 30, 31, 32, 33, 34, 35, 36, 37, 38, 39, 40, 41, 42, 43, 44, 45, 46, 47, 48, 49, 50, 51, 52] (by decide +kernel) (by decide +kernel)
set_option maxRecDepth 20000 in
theorem gX7_move_X7_isPerson : GoodIn wsX7_move (wsV RX7 157 RX7 yX7_isPerson wsX7_isPerson) := goodIn_app (goodIn_of _ (by decide +kernel)) ggX7_move_X7_isPerson
set_option maxRecDepth 20000 in
theorem ggX7_move_X7_isPlace : GoodIn wsX7_move wsX7_isPlace := goodIn_r _ [13, 14, 8, 9, 5, 10] (by decide +kernel) (by decide +kernel)
set_option maxRecDepth 20000 in
theorem gX7_move_X7_isPlace : GoodIn wsX7_move (va_wsS RX7 176 yX7_isPlace wsX7_isPlace) := goodIn_app (goodIn_of _ (by decide +kernel)) ggX7_move_X7_isPlace
set_option maxRecDepth 20000 in
theorem ggX7_move_X7_keepAct : GoodIn wsX7_move wsX7_keepAct := goodIn_r _ [18, 19, 20, 1, 21, 22, 23, 24, 25, 26, 27, 28, 29, 30, 31, 32, 33, 34, 35, 36, 37, 38, 39, 40, 41, 42, 43, 44, 45, 46, 47, 48, 49, 50, 51, 52] (by decide +kernel) (by decide +kernel)
set_option maxRecDepth 20000 in
theorem gX7_move_X7_keepAct : GoodIn wsX7_move (wsV RX7 169 RX7 yX7_keepAct wsX7_keepAct) := goodIn_app (goodIn_of _ (by decide +kernel)) ggX7_move_X7_keepAct
theorem dX7_move_0 : decode cX7_move 0 = .ok (.aload_n 0, 1) := by decide +kernel
theorem dX7_move_1 : decode cX7_move 1 = .ok (.iload_n 1, 1) := by decide +kernel
theorem dX7_move_2 : decode cX7_move 2 = .ok (.invokevirtual 157, 3) := by decide +kernel
theorem dX7_move_5 : decode cX7_move 5 = .ok (.ifCond .eq 10, 3) := by decide +kernel
theorem dX7_move_8 : decode cX7_move 8 = .ok (.iload_n 2, 1) := by decide +kernel
theorem dX7_move_9 : decode cX7_move 9 = .ok (.invokestatic 176, 3) := by decide +kernel
theorem dX7_move_12 : decode cX7_move 12 = .ok (.ifCond .ne 5, 3) := by decide +kernel
theorem dX7_move_15 : decode cX7_move 15 = .ok (.iconst (-1), 1) := by decide +kernel
theorem dX7_move_16 : decode cX7_move 16 = .ok (.ireturn, 1) := by decide +kernel
theorem dX7_move_17 : decode cX7_move 17 = .ok (.aload_n 0, 1) := by decide +kernel
theorem dX7_move_18 : decode cX7_move 18 = .ok (.getfield 31, 3) := by decide +kernel
theorem dX7_move_21 : decode cX7_move 21 = .ok (.iload_n 1, 1) := by decide +kernel
theorem dX7_move_22 : decode cX7_move 22 = .ok (.iaload, 1) := by decide +kernel
theorem dX7_move_23 : decode cX7_move 23 = .ok (.iload_n 2, 1) := by decide +kernel
theorem dX7_move_24 : decode cX7_move 24 = .ok (.if_icmp .ne 6, 3) := by decide +kernel
theorem dX7_move_27 : decode cX7_move 27 = .ok (.bipush (-3), 2) := by decide +kernel
theorem dX7_move_29 : decode cX7_move 29 = .ok (.ireturn, 1) := by decide +kernel
theorem dX7_move_30 : decode cX7_move 30 = .ok (.aload_n 0, 1) := by decide +kernel
theorem dX7_move_31 : decode cX7_move 31 = .ok (.invokevirtual 169, 3) := by decide +kernel
theorem dX7_move_34 : decode cX7_move 34 = .ok (.aload_n 0, 1) := by decide +kernel
theorem dX7_move_35 : decode cX7_move 35 = .ok (.getfield 31, 3) := by decide +kernel
theorem dX7_move_38 : decode cX7_move 38 = .ok (.iload_n 1, 1) := by decide +kernel
theorem dX7_move_39 : decode cX7_move 39 = .ok (.iaload, 1) := by decide +kernel
theorem dX7_move_40 : decode cX7_move 40 = .ok (.istore_n 3, 1) := by decide +kernel
theorem dX7_move_41 : decode cX7_move 41 = .ok (.aload_n 0, 1) := by decide +kernel
theorem dX7_move_42 : decode cX7_move 42 = .ok (.getfield 31, 3) := by decide +kernel
theorem dX7_move_45 : decode cX7_move 45 = .ok (.iload_n 1, 1) := by decide +kernel
theorem dX7_move_46 : decode cX7_move 46 = .ok (.iload_n 2, 1) := by decide +kernel
theorem dX7_move_47 : decode cX7_move 47 = .ok (.iastore, 1) := by decide +kernel
theorem dX7_move_48 : decode cX7_move 48 = .ok (.iload_n 3, 1) := by decide +kernel
theorem dX7_move_49 : decode cX7_move 49 = .ok (.ireturn, 1) := by decide +kernel
set_option maxRecDepth 20000 in
theorem ggX7_wool_X7_isPerson : GoodIn wsX7_wool wsX7_isPerson := goodIn_r _ [6, 7, 8, 9, 5, 10, 23, 24, 25, 26, 27, 28, 29, 30, 31, 32, 33, 34, 35, 36, 37, 38, 39, 40, 41, 42, 43, 44, 45, 46, 47, 48, 49, 50, 51, 52, 53] (by decide +kernel) (by decide +kernel)
set_option maxRecDepth 20000 in
theorem gX7_wool_X7_isPerson : GoodIn wsX7_wool (wsV RX7 157 RX7 yX7_isPerson wsX7_isPerson) := goodIn_app (goodIn_of _ (by decide +kernel)) ggX7_wool_X7_isPerson
set_option maxRecDepth 20000 in
theorem ggX7_wool_X7_canWool : GoodIn wsX7_wool wsX7_canWool := goodIn_r _ [14, 15, 2, 3, 4, 5, 6, 7, 8, 9, 10, 23, 24, 25, 26, 27, 28, 29, 30, 31, 32, 33, 34, 35, 36, 37, 38, 39, 40, 41, 42, 43, 44, 45, 46, 47, 48, 49, 50, 51, 52, 53] (by decide +kernel) (by decide +kernel)
set_option maxRecDepth 20000 in
theorem gX7_wool_X7_canWool : GoodIn wsX7_wool (wsV RX7 185 RX7 yX7_canWool wsX7_canWool) := goodIn_app (goodIn_of _ (by decide +kernel)) ggX7_wool_X7_canWool
set_option maxRecDepth 20000 in
theorem ggX7_wool_X7_keepAct : GoodIn wsX7_wool wsX7_keepAct := goodIn_r _ [19, 20, 21, 1, 22, 23, 24, 25, 26, 27, 28, 29, 30, 31, 32, 33, 34, 35, 36, 37, 38, 39, 40, 41, 42, 43, 44, 45, 46, 47, 48, 49, 50, 51, 52, 53] (by decide +kernel) (by decide +kernel)
set_option maxRecDepth 20000 in
theorem gX7_wool_X7_keepAct : GoodIn wsX7_wool (wsV RX7 169 RX7 yX7_keepAct wsX7_keepAct) := goodIn_app (goodIn_of _ (by decide +kernel)) ggX7_wool_X7_keepAct
theorem dX7_wool_0 : decode cX7_wool 0 = .ok (.aload_n 0, 1) := by decide +kernel
theorem dX7_wool_1 : decode cX7_wool 1 = .ok (.iload_n 1, 1) := by decide +kernel
theorem dX7_wool_2 : decode cX7_wool 2 = .ok (.invokevirtual 157, 3) := by decide +kernel
theorem dX7_wool_5 : decode cX7_wool 5 = .ok (.ifCond .ne 5, 3) := by decide +kernel
theorem dX7_wool_8 : decode cX7_wool 8 = .ok (.iconst (-1), 1) := by decide +kernel
theorem dX7_wool_9 : decode cX7_wool 9 = .ok (.ireturn, 1) := by decide +kernel
theorem dX7_wool_10 : decode cX7_wool 10 = .ok (.aload_n 0, 1) := by decide +kernel
theorem dX7_wool_11 : decode cX7_wool 11 = .ok (.iload_n 1, 1) := by decide +kernel
theorem dX7_wool_12 : decode cX7_wool 12 = .ok (.invokevirtual 185, 3) := by decide +kernel
theorem dX7_wool_15 : decode cX7_wool 15 = .ok (.ifCond .ne 6, 3) := by decide +kernel
theorem dX7_wool_18 : decode cX7_wool 18 = .ok (.bipush (-3), 2) := by decide +kernel
theorem dX7_wool_20 : decode cX7_wool 20 = .ok (.ireturn, 1) := by decide +kernel
theorem dX7_wool_21 : decode cX7_wool 21 = .ok (.aload_n 0, 1) := by decide +kernel
theorem dX7_wool_22 : decode cX7_wool 22 = .ok (.invokevirtual 169, 3) := by decide +kernel
theorem dX7_wool_25 : decode cX7_wool 25 = .ok (.aload_n 0, 1) := by decide +kernel
theorem dX7_wool_26 : decode cX7_wool 26 = .ok (.getfield 31, 3) := by decide +kernel
theorem dX7_wool_29 : decode cX7_wool 29 = .ok (.iconst 5, 1) := by decide +kernel
theorem dX7_wool_30 : decode cX7_wool 30 = .ok (.dup2, 1) := by decide +kernel
theorem dX7_wool_31 : decode cX7_wool 31 = .ok (.iaload, 1) := by decide +kernel
theorem dX7_wool_32 : decode cX7_wool 32 = .ok (.iconst 1, 1) := by decide +kernel
theorem dX7_wool_33 : decode cX7_wool 33 = .ok (.iload_n 1, 1) := by decide +kernel
theorem dX7_wool_34 : decode cX7_wool 34 = .ok (.ishl, 1) := by decide +kernel
theorem dX7_wool_35 : decode cX7_wool 35 = .ok (.ixor, 1) := by decide +kernel
theorem dX7_wool_36 : decode cX7_wool 36 = .ok (.iastore, 1) := by decide +kernel
theorem dX7_wool_37 : decode cX7_wool 37 = .ok (.aload_n 0, 1) := by decide +kernel
theorem dX7_wool_38 : decode cX7_wool 38 = .ok (.getfield 31, 3) := by decide +kernel
theorem dX7_wool_41 : decode cX7_wool 41 = .ok (.iconst 5, 1) := by decide +kernel
theorem dX7_wool_42 : decode cX7_wool 42 = .ok (.iaload, 1) := by decide +kernel
theorem dX7_wool_43 : decode cX7_wool 43 = .ok (.iload_n 1, 1) := by decide +kernel
theorem dX7_wool_44 : decode cX7_wool 44 = .ok (.ishr, 1) := by decide +kernel
theorem dX7_wool_45 : decode cX7_wool 45 = .ok (.iconst 1, 1) := by decide +kernel
theorem dX7_wool_46 : decode cX7_wool 46 = .ok (.iand, 1) := by decide +kernel
theorem dX7_wool_47 : decode cX7_wool 47 = .ok (.ireturn, 1) := by decide +kernel
theorem dX7_undo_0 : decode cX7_undo 0 = .ok (.aload_n 0, 1) := by decide +kernel
theorem dX7_undo_1 : decode cX7_undo 1 = .ok (.getfield 114, 3) := by decide +kernel
theorem dX7_undo_4 : decode cX7_undo 4 = .ok (.ifCond .ne 6, 3) := by decide +kernel
theorem dX7_undo_7 : decode cX7_undo 7 = .ok (.bipush (-3), 2) := by decide +kernel
theorem dX7_undo_9 : decode cX7_undo 9 = .ok (.ireturn, 1) := by decide +kernel
theorem dX7_undo_10 : decode cX7_undo 10 = .ok (.aload_n 0, 1) := by decide +kernel
theorem dX7_undo_11 : decode cX7_undo 11 = .ok (.dup, 1) := by decide +kernel
theorem dX7_undo_12 : decode cX7_undo 12 = .ok (.getfield 114, 3) := by decide +kernel
theorem dX7_undo_15 : decode cX7_undo 15 = .ok (.iconst 1, 1) := by decide +kernel
theorem dX7_undo_16 : decode cX7_undo 16 = .ok (.isub, 1) := by decide +kernel
theorem dX7_undo_17 : decode cX7_undo 17 = .ok (.putfield 114, 3) := by decide +kernel
theorem dX7_undo_20 : decode cX7_undo 20 = .ok (.aload_n 0, 1) := by decide +kernel
theorem dX7_undo_21 : decode cX7_undo 21 = .ok (.aload_n 0, 1) := by decide +kernel
theorem dX7_undo_22 : decode cX7_undo 22 = .ok (.getfield 166, 3) := by decide +kernel
theorem dX7_undo_25 : decode cX7_undo 25 = .ok (.bipush 13, 2) := by decide +kernel
theorem dX7_undo_27 : decode cX7_undo 27 = .ok (.iadd, 1) := by decide +kernel
theorem dX7_undo_28 : decode cX7_undo 28 = .ok (.bipush 14, 2) := by decide +kernel
theorem dX7_undo_30 : decode cX7_undo 30 = .ok (.irem, 1) := by decide +kernel
theorem dX7_undo_31 : decode cX7_undo 31 = .ok (.putfield 166, 3) := by decide +kernel
theorem dX7_undo_34 : decode cX7_undo 34 = .ok (.iconst 0, 1) := by decide +kernel
theorem dX7_undo_35 : decode cX7_undo 35 = .ok (.istore_n 1, 1) := by decide +kernel
theorem dX7_undo_36 : decode cX7_undo 36 = .ok (.iload_n 1, 1) := by decide +kernel
theorem dX7_undo_37 : decode cX7_undo 37 = .ok (.bipush 9, 2) := by decide +kernel
theorem dX7_undo_39 : decode cX7_undo 39 = .ok (.if_icmp .ge 29, 3) := by decide +kernel
theorem dX7_undo_42 : decode cX7_undo 42 = .ok (.aload_n 0, 1) := by decide +kernel
theorem dX7_undo_43 : decode cX7_undo 43 = .ok (.getfield 31, 3) := by decide +kernel
theorem dX7_undo_46 : decode cX7_undo 46 = .ok (.iload_n 1, 1) := by decide +kernel
theorem dX7_undo_47 : decode cX7_undo 47 = .ok (.aload_n 0, 1) := by decide +kernel
theorem dX7_undo_48 : decode cX7_undo 48 = .ok (.getfield 46, 3) := by decide +kernel
theorem dX7_undo_51 : decode cX7_undo 51 = .ok (.bipush 9, 2) := by decide +kernel
theorem dX7_undo_53 : decode cX7_undo 53 = .ok (.aload_n 0, 1) := by decide +kernel
theorem dX7_undo_54 : decode cX7_undo 54 = .ok (.getfield 166, 3) := by decide +kernel
theorem dX7_undo_57 : decode cX7_undo 57 = .ok (.imul, 1) := by decide +kernel
theorem dX7_undo_58 : decode cX7_undo 58 = .ok (.iload_n 1, 1) := by decide +kernel
theorem dX7_undo_59 : decode cX7_undo 59 = .ok (.iadd, 1) := by decide +kernel
theorem dX7_undo_60 : decode cX7_undo 60 = .ok (.iaload, 1) := by decide +kernel
theorem dX7_undo_61 : decode cX7_undo 61 = .ok (.iastore, 1) := by decide +kernel
theorem dX7_undo_62 : decode cX7_undo 62 = .ok (.iinc 1 1, 3) := by decide +kernel
theorem dX7_undo_65 : decode cX7_undo 65 = .ok (.goto (-29), 3) := by decide +kernel
theorem dX7_undo_68 : decode cX7_undo 68 = .ok (.aload_n 0, 1) := by decide +kernel
theorem dX7_undo_69 : decode cX7_undo 69 = .ok (.getfield 114, 3) := by decide +kernel
theorem dX7_undo_72 : decode cX7_undo 72 = .ok (.ireturn, 1) := by decide +kernel
theorem dX7_layTrial_0 : decode cX7_layTrial 0 = .ok (.iconst 0, 1) := by decide +kernel
theorem dX7_layTrial_1 : decode cX7_layTrial 1 = .ok (.istore_n 1, 1) := by decide +kernel
theorem dX7_layTrial_2 : decode cX7_layTrial 2 = .ok (.iload_n 1, 1) := by decide +kernel
theorem dX7_layTrial_3 : decode cX7_layTrial 3 = .ok (.bipush 9, 2) := by decide +kernel
theorem dX7_layTrial_5 : decode cX7_layTrial 5 = .ok (.if_icmp .ge 24, 3) := by decide +kernel
theorem dX7_layTrial_8 : decode cX7_layTrial 8 = .ok (.aload_n 0, 1) := by decide +kernel
theorem dX7_layTrial_9 : decode cX7_layTrial 9 = .ok (.getfield 31, 3) := by decide +kernel
theorem dX7_layTrial_12 : decode cX7_layTrial 12 = .ok (.bipush 9, 2) := by decide +kernel
theorem dX7_layTrial_14 : decode cX7_layTrial 14 = .ok (.iload_n 1, 1) := by decide +kernel
theorem dX7_layTrial_15 : decode cX7_layTrial 15 = .ok (.iadd, 1) := by decide +kernel
theorem dX7_layTrial_16 : decode cX7_layTrial 16 = .ok (.aload_n 0, 1) := by decide +kernel
theorem dX7_layTrial_17 : decode cX7_layTrial 17 = .ok (.getfield 31, 3) := by decide +kernel
theorem dX7_layTrial_20 : decode cX7_layTrial 20 = .ok (.iload_n 1, 1) := by decide +kernel
theorem dX7_layTrial_21 : decode cX7_layTrial 21 = .ok (.iaload, 1) := by decide +kernel
theorem dX7_layTrial_22 : decode cX7_layTrial 22 = .ok (.iastore, 1) := by decide +kernel
theorem dX7_layTrial_23 : decode cX7_layTrial 23 = .ok (.iinc 1 1, 3) := by decide +kernel
theorem dX7_layTrial_26 : decode cX7_layTrial 26 = .ok (.goto (-24), 3) := by decide +kernel
theorem dX7_layTrial_29 : decode cX7_layTrial 29 = .ok (.return_, 1) := by decide +kernel
set_option maxRecDepth 20000 in
theorem ggX7_goOn_X7_passOn : GoodIn wsX7_goOn wsX7_passOn := goodIn_r _ [5, 6, 7, 8, 9, 4, 10, 11, 12, 13, 14, 15, 16, 17, 18, 19, 20, 21, 22, 23, 24, 25, 26, 27, 28, 29, 30, 31, 32, 33, 34, 35, 36, 37, 38, 39, 40, 41, 42, 43, 44, 45, 46, 47, 48, 49, 50, 51, 52, 53, 54, 55, 56, 57, 58, 59, 60, 61, 62, 63, 64, 65, 66, 67, 68, 69, 70, 71, 72, 73, 74, 75, 76, 77, 78, 79, 80, 81, 82, 83, 84] (by decide +kernel) (by decide +kernel)
set_option maxRecDepth 20000 in
theorem gX7_goOn_X7_passOn : GoodIn wsX7_goOn (wsV RX7 172 RX7 yX7_passOn wsX7_passOn) := goodIn_app (goodIn_of _ (by decide +kernel)) ggX7_goOn_X7_passOn
theorem dX7_goOn_0 : decode cX7_goOn 0 = .ok (.iconst 0, 1) := by decide +kernel
theorem dX7_goOn_1 : decode cX7_goOn 1 = .ok (.istore_n 2, 1) := by decide +kernel
theorem dX7_goOn_2 : decode cX7_goOn 2 = .ok (.iload_n 2, 1) := by decide +kernel
theorem dX7_goOn_3 : decode cX7_goOn 3 = .ok (.iload_n 1, 1) := by decide +kernel
theorem dX7_goOn_4 : decode cX7_goOn 4 = .ok (.if_icmp .ge 16, 3) := by decide +kernel
theorem dX7_goOn_7 : decode cX7_goOn 7 = .ok (.aload_n 0, 1) := by decide +kernel
theorem dX7_goOn_8 : decode cX7_goOn 8 = .ok (.iconst 1, 1) := by decide +kernel
theorem dX7_goOn_9 : decode cX7_goOn 9 = .ok (.iconst 1, 1) := by decide +kernel
theorem dX7_goOn_10 : decode cX7_goOn 10 = .ok (.invokevirtual 172, 3) := by decide +kernel
theorem dX7_goOn_13 : decode cX7_goOn 13 = .ok (.pop, 1) := by decide +kernel
theorem dX7_goOn_14 : decode cX7_goOn 14 = .ok (.iinc 2 1, 3) := by decide +kernel
theorem dX7_goOn_17 : decode cX7_goOn 17 = .ok (.goto (-15), 3) := by decide +kernel
theorem dX7_goOn_20 : decode cX7_goOn 20 = .ok (.return_, 1) := by decide +kernel
set_option maxRecDepth 20000 in
theorem ggX7_later_X7_in : GoodIn wsX7_later wsX7_in := goodIn_r _ [6] (by decide +kernel) (by decide +kernel)
set_option maxRecDepth 20000 in
theorem gX7_later_X7_in : GoodIn wsX7_later (va_wsS RX7 67 yX7_in wsX7_in) := goodIn_app (goodIn_of _ (by decide +kernel)) ggX7_later_X7_in
set_option maxRecDepth 20000 in
theorem ggX7_later_X7_layTrial : GoodIn wsX7_later wsX7_layTrial := goodIn_r _ [10, 2, 66, 67, 68, 69, 70, 71, 72, 73, 74, 75, 76, 77, 78, 79, 80, 81, 82, 83, 84, 85, 86, 87, 88, 89, 90, 91, 92, 93, 94, 95, 96] (by decide +kernel) (by decide +kernel)
set_option maxRecDepth 20000 in
theorem gX7_later_X7_layTrial : GoodIn wsX7_later (wsV RX7 190 RX7 yX7_layTrial wsX7_layTrial) := goodIn_app (goodIn_of _ (by decide +kernel)) ggX7_later_X7_layTrial
set_option maxRecDepth 20000 in
theorem ggX7_later_X7_goOn : GoodIn wsX7_later wsX7_goOn := goodIn_r _ [14, 15, 16, 17, 5, 18, 2, 19, 20, 21, 22, 23, 24, 25, 26, 27, 28, 29, 30, 31, 32, 33, 34, 35, 36, 37, 38, 39, 40, 41, 42, 43, 44, 45, 46, 47, 48, 49, 50, 51, 52, 53, 54, 55, 56, 57, 58, 59, 60, 61, 62, 63, 64, 65, 66, 67, 68, 69, 70, 71, 72, 73, 74, 75, 76, 77, 78, 79, 80, 81, 82, 83, 84, 85, 86, 87, 88, 89, 90, 91, 92, 93, 94, 95, 96] (by decide +kernel) (by decide +kernel)
set_option maxRecDepth 20000 in
theorem gX7_later_X7_goOn : GoodIn wsX7_later (wsV RX7 193 RX7 yX7_goOn wsX7_goOn) := goodIn_app (goodIn_of _ (by decide +kernel)) ggX7_later_X7_goOn
theorem dX7_later_0 : decode cX7_later 0 = .ok (.iload_n 1, 1) := by decide +kernel
theorem dX7_later_1 : decode cX7_later 1 = .ok (.i2l, 1) := by decide +kernel
theorem dX7_later_2 : decode cX7_later 2 = .ok (.lconst 0, 1) := by decide +kernel
theorem dX7_later_3 : decode cX7_later 3 = .ok (.ldc2_w 188, 3) := by decide +kernel
theorem dX7_later_6 : decode cX7_later 6 = .ok (.invokestatic 67, 3) := by decide +kernel
theorem dX7_later_9 : decode cX7_later 9 = .ok (.ifCond .eq 13, 3) := by decide +kernel
theorem dX7_later_12 : decode cX7_later 12 = .ok (.iload_n 2, 1) := by decide +kernel
theorem dX7_later_13 : decode cX7_later 13 = .ok (.i2l, 1) := by decide +kernel
theorem dX7_later_14 : decode cX7_later 14 = .ok (.lconst 0, 1) := by decide +kernel
theorem dX7_later_15 : decode cX7_later 15 = .ok (.lconst 1, 1) := by decide +kernel
theorem dX7_later_16 : decode cX7_later 16 = .ok (.invokestatic 67, 3) := by decide +kernel
theorem dX7_later_19 : decode cX7_later 19 = .ok (.ifCond .ne 6, 3) := by decide +kernel
theorem dX7_later_22 : decode cX7_later 22 = .ok (.bipush (-2), 2) := by decide +kernel
theorem dX7_later_24 : decode cX7_later 24 = .ok (.ireturn, 1) := by decide +kernel
theorem dX7_later_25 : decode cX7_later 25 = .ok (.aload_n 0, 1) := by decide +kernel
theorem dX7_later_26 : decode cX7_later 26 = .ok (.invokevirtual 190, 3) := by decide +kernel
theorem dX7_later_29 : decode cX7_later 29 = .ok (.aload_n 0, 1) := by decide +kernel
theorem dX7_later_30 : decode cX7_later 30 = .ok (.iload_n 1, 1) := by decide +kernel
theorem dX7_later_31 : decode cX7_later 31 = .ok (.invokevirtual 193, 3) := by decide +kernel
theorem dX7_later_34 : decode cX7_later 34 = .ok (.aload_n 0, 1) := by decide +kernel
theorem dX7_later_35 : decode cX7_later 35 = .ok (.getfield 31, 3) := by decide +kernel
theorem dX7_later_38 : decode cX7_later 38 = .ok (.bipush 9, 2) := by decide +kernel
theorem dX7_later_40 : decode cX7_later 40 = .ok (.iload_n 2, 1) := by decide +kernel
theorem dX7_later_41 : decode cX7_later 41 = .ok (.ifCond .ne 8, 3) := by decide +kernel
theorem dX7_later_44 : decode cX7_later 44 = .ok (.bipush 6, 2) := by decide +kernel
theorem dX7_later_46 : decode cX7_later 46 = .ok (.goto 5, 3) := by decide +kernel
theorem dX7_later_49 : decode cX7_later 49 = .ok (.bipush 7, 2) := by decide +kernel
theorem dX7_later_51 : decode cX7_later 51 = .ok (.iadd, 1) := by decide +kernel
theorem dX7_later_52 : decode cX7_later 52 = .ok (.iaload, 1) := by decide +kernel
theorem dX7_later_53 : decode cX7_later 53 = .ok (.ireturn, 1) := by decide +kernel
set_option maxRecDepth 20000 in
theorem ggX7_lasts_X7_isOath : GoodIn wsX7_lasts wsX7_isOath := goodIn_r _ [6, 7, 8, 9, 5, 10, 65, 66, 67, 68, 69, 70, 71, 72, 73, 74, 75, 76, 77, 78, 79, 80, 81, 82, 83, 84, 85, 86, 87, 88, 89, 90, 91, 92, 93, 94, 95] (by decide +kernel) (by decide +kernel)
set_option maxRecDepth 20000 in
theorem gX7_lasts_X7_isOath : GoodIn wsX7_lasts (wsV RX7 153 RX7 yX7_isOath wsX7_isOath) := goodIn_app (goodIn_of _ (by decide +kernel)) ggX7_lasts_X7_isOath
set_option maxRecDepth 20000 in
theorem ggX7_lasts_X7_has : GoodIn wsX7_lasts wsX7_has := goodIn_r _ [13] (by decide +kernel) (by decide +kernel)
set_option maxRecDepth 20000 in
theorem gX7_lasts_X7_has : GoodIn wsX7_lasts (va_wsS RX7 119 yX7_has wsX7_has) := goodIn_app (goodIn_of _ (by decide +kernel)) ggX7_lasts_X7_has
set_option maxRecDepth 20000 in
theorem ggX7_lasts_X7_layTrial : GoodIn wsX7_lasts wsX7_layTrial := goodIn_r _ [17, 1, 65, 66, 67, 68, 69, 70, 71, 72, 73, 74, 75, 76, 77, 78, 79, 80, 81, 82, 83, 84, 85, 86, 87, 88, 89, 90, 91, 92, 93, 94, 95] (by decide +kernel) (by decide +kernel)
set_option maxRecDepth 20000 in
theorem gX7_lasts_X7_layTrial : GoodIn wsX7_lasts (wsV RX7 190 RX7 yX7_layTrial wsX7_layTrial) := goodIn_app (goodIn_of _ (by decide +kernel)) ggX7_lasts_X7_layTrial
set_option maxRecDepth 20000 in
theorem ggX7_lasts_X7_passOn : GoodIn wsX7_lasts wsX7_passOn := goodIn_r _ [21, 1, 22, 23, 24, 5, 25, 26, 27, 28, 29, 30, 31, 32, 33, 34, 35, 36, 7, 37, 38, 39, 40, 41, 42, 43, 44, 45, 46, 47, 48, 11, 12, 13, 49, 50, 51, 52, 53, 54, 55, 56, 57, 58, 59, 60, 61, 62, 63, 64, 65, 66, 67, 68, 69, 70, 71, 72, 73, 74, 75, 76, 77, 78, 79, 80, 81, 82, 83, 84, 85, 86, 87, 88, 89, 90, 91, 92, 93, 94, 95] (by decide +kernel) (by decide +kernel)
set_option maxRecDepth 20000 in
theorem gX7_lasts_X7_passOn : GoodIn wsX7_lasts (wsV RX7 172 RX7 yX7_passOn wsX7_passOn) := goodIn_app (goodIn_of _ (by decide +kernel)) ggX7_lasts_X7_passOn
theorem dX7_lasts_0 : decode cX7_lasts 0 = .ok (.aload_n 0, 1) := by decide +kernel
theorem dX7_lasts_1 : decode cX7_lasts 1 = .ok (.iload_n 1, 1) := by decide +kernel
theorem dX7_lasts_2 : decode cX7_lasts 2 = .ok (.invokevirtual 153, 3) := by decide +kernel
theorem dX7_lasts_5 : decode cX7_lasts 5 = .ok (.ifCond .ne 5, 3) := by decide +kernel
theorem dX7_lasts_8 : decode cX7_lasts 8 = .ok (.iconst (-1), 1) := by decide +kernel
theorem dX7_lasts_9 : decode cX7_lasts 9 = .ok (.ireturn, 1) := by decide +kernel
theorem dX7_lasts_10 : decode cX7_lasts 10 = .ok (.aload_n 0, 1) := by decide +kernel
theorem dX7_lasts_11 : decode cX7_lasts 11 = .ok (.getfield 31, 3) := by decide +kernel
theorem dX7_lasts_14 : decode cX7_lasts 14 = .ok (.bipush 6, 2) := by decide +kernel
theorem dX7_lasts_16 : decode cX7_lasts 16 = .ok (.iaload, 1) := by decide +kernel
theorem dX7_lasts_17 : decode cX7_lasts 17 = .ok (.iload_n 1, 1) := by decide +kernel
theorem dX7_lasts_18 : decode cX7_lasts 18 = .ok (.invokestatic 119, 3) := by decide +kernel
theorem dX7_lasts_21 : decode cX7_lasts 21 = .ok (.ifCond .ne 6, 3) := by decide +kernel
theorem dX7_lasts_24 : decode cX7_lasts 24 = .ok (.bipush (-3), 2) := by decide +kernel
theorem dX7_lasts_26 : decode cX7_lasts 26 = .ok (.ireturn, 1) := by decide +kernel
theorem dX7_lasts_27 : decode cX7_lasts 27 = .ok (.aload_n 0, 1) := by decide +kernel
theorem dX7_lasts_28 : decode cX7_lasts 28 = .ok (.invokevirtual 190, 3) := by decide +kernel
theorem dX7_lasts_31 : decode cX7_lasts 31 = .ok (.iconst 1, 1) := by decide +kernel
theorem dX7_lasts_32 : decode cX7_lasts 32 = .ok (.istore_n 2, 1) := by decide +kernel
theorem dX7_lasts_33 : decode cX7_lasts 33 = .ok (.iload_n 2, 1) := by decide +kernel
theorem dX7_lasts_34 : decode cX7_lasts 34 = .ok (.bipush 31, 2) := by decide +kernel
theorem dX7_lasts_36 : decode cX7_lasts 36 = .ok (.if_icmp .ge 32, 3) := by decide +kernel
theorem dX7_lasts_39 : decode cX7_lasts 39 = .ok (.aload_n 0, 1) := by decide +kernel
theorem dX7_lasts_40 : decode cX7_lasts 40 = .ok (.iconst 1, 1) := by decide +kernel
theorem dX7_lasts_41 : decode cX7_lasts 41 = .ok (.iconst 1, 1) := by decide +kernel
theorem dX7_lasts_42 : decode cX7_lasts 42 = .ok (.invokevirtual 172, 3) := by decide +kernel
theorem dX7_lasts_45 : decode cX7_lasts 45 = .ok (.pop, 1) := by decide +kernel
theorem dX7_lasts_46 : decode cX7_lasts 46 = .ok (.aload_n 0, 1) := by decide +kernel
theorem dX7_lasts_47 : decode cX7_lasts 47 = .ok (.getfield 31, 3) := by decide +kernel
theorem dX7_lasts_50 : decode cX7_lasts 50 = .ok (.bipush 15, 2) := by decide +kernel
theorem dX7_lasts_52 : decode cX7_lasts 52 = .ok (.iaload, 1) := by decide +kernel
theorem dX7_lasts_53 : decode cX7_lasts 53 = .ok (.iload_n 1, 1) := by decide +kernel
theorem dX7_lasts_54 : decode cX7_lasts 54 = .ok (.invokestatic 119, 3) := by decide +kernel
theorem dX7_lasts_57 : decode cX7_lasts 57 = .ok (.ifCond .ne 5, 3) := by decide +kernel
theorem dX7_lasts_60 : decode cX7_lasts 60 = .ok (.iload_n 2, 1) := by decide +kernel
theorem dX7_lasts_61 : decode cX7_lasts 61 = .ok (.ireturn, 1) := by decide +kernel
theorem dX7_lasts_62 : decode cX7_lasts 62 = .ok (.iinc 2 1, 3) := by decide +kernel
theorem dX7_lasts_65 : decode cX7_lasts 65 = .ok (.goto (-32), 3) := by decide +kernel
theorem dX7_lasts_68 : decode cX7_lasts 68 = .ok (.bipush (-9), 2) := by decide +kernel
theorem dX7_lasts_70 : decode cX7_lasts 70 = .ok (.ireturn, 1) := by decide +kernel
set_option maxRecDepth 20000 in
theorem ggX7_best_X7_isPerson : GoodIn wsX7_best wsX7_isPerson := goodIn_r _ [7, 8, 9, 10, 6, 11, 70, 71, 72, 73, 74, 75, 76, 77, 78, 79, 80, 81, 82, 83, 84, 85, 86, 87, 88, 89, 90, 91, 92, 93, 94, 95, 96, 97, 98, 99, 100] (by decide +kernel) (by decide +kernel)
set_option maxRecDepth 20000 in
theorem gX7_best_X7_isPerson : GoodIn wsX7_best (wsV RX7 157 RX7 yX7_isPerson wsX7_isPerson) := goodIn_app (goodIn_of _ (by decide +kernel)) ggX7_best_X7_isPerson
set_option maxRecDepth 20000 in
theorem ggX7_best_X7_in : GoodIn wsX7_best wsX7_in := goodIn_r _ [11] (by decide +kernel) (by decide +kernel)
set_option maxRecDepth 20000 in
theorem gX7_best_X7_in : GoodIn wsX7_best (va_wsS RX7 67 yX7_in wsX7_in) := goodIn_app (goodIn_of _ (by decide +kernel)) ggX7_best_X7_in
set_option maxRecDepth 20000 in
theorem ggX7_best_X7_layTrial : GoodIn wsX7_best wsX7_layTrial := goodIn_r _ [15, 2, 70, 71, 72, 73, 74, 75, 76, 77, 78, 79, 80, 81, 82, 83, 84, 85, 86, 87, 88, 89, 90, 91, 92, 93, 94, 95, 96, 97, 98, 99, 100] (by decide +kernel) (by decide +kernel)
set_option maxRecDepth 20000 in
theorem gX7_best_X7_layTrial : GoodIn wsX7_best (wsV RX7 190 RX7 yX7_layTrial wsX7_layTrial) := goodIn_app (goodIn_of _ (by decide +kernel)) ggX7_best_X7_layTrial
set_option maxRecDepth 20000 in
theorem ggX7_best_X7_goOn : GoodIn wsX7_best wsX7_goOn := goodIn_r _ [19, 20, 21, 22, 6, 23, 2, 24, 25, 26, 27, 28, 29, 30, 31, 32, 33, 34, 35, 36, 37, 38, 39, 40, 41, 42, 43, 44, 45, 46, 8, 47, 48, 49, 50, 51, 52, 53, 54, 55, 56, 57, 58, 59, 60, 61, 62, 63, 64, 65, 66, 67, 68, 69, 70, 71, 72, 73, 74, 75, 76, 77, 78, 79, 80, 81, 82, 83, 84, 85, 86, 87, 88, 89, 90, 91, 92, 93, 94, 95, 96, 97, 98, 99, 100] (by decide +kernel) (by decide +kernel)
set_option maxRecDepth 20000 in
theorem gX7_best_X7_goOn : GoodIn wsX7_best (wsV RX7 193 RX7 yX7_goOn wsX7_goOn) := goodIn_app (goodIn_of _ (by decide +kernel)) ggX7_best_X7_goOn
theorem dX7_best_0 : decode cX7_best 0 = .ok (.aload_n 0, 1) := by decide +kernel
theorem dX7_best_1 : decode cX7_best 1 = .ok (.iload_n 1, 1) := by decide +kernel
theorem dX7_best_2 : decode cX7_best 2 = .ok (.invokevirtual 157, 3) := by decide +kernel
theorem dX7_best_5 : decode cX7_best 5 = .ok (.ifCond .ne 5, 3) := by decide +kernel
theorem dX7_best_8 : decode cX7_best 8 = .ok (.iconst (-1), 1) := by decide +kernel
theorem dX7_best_9 : decode cX7_best 9 = .ok (.ireturn, 1) := by decide +kernel
theorem dX7_best_10 : decode cX7_best 10 = .ok (.iload_n 2, 1) := by decide +kernel
theorem dX7_best_11 : decode cX7_best 11 = .ok (.i2l, 1) := by decide +kernel
theorem dX7_best_12 : decode cX7_best 12 = .ok (.lconst 1, 1) := by decide +kernel
theorem dX7_best_13 : decode cX7_best 13 = .ok (.ldc2_w 117, 3) := by decide +kernel
theorem dX7_best_16 : decode cX7_best 16 = .ok (.invokestatic 67, 3) := by decide +kernel
theorem dX7_best_19 : decode cX7_best 19 = .ok (.ifCond .eq 13, 3) := by decide +kernel
theorem dX7_best_22 : decode cX7_best 22 = .ok (.iload_n 3, 1) := by decide +kernel
theorem dX7_best_23 : decode cX7_best 23 = .ok (.i2l, 1) := by decide +kernel
theorem dX7_best_24 : decode cX7_best 24 = .ok (.lconst 0, 1) := by decide +kernel
theorem dX7_best_25 : decode cX7_best 25 = .ok (.lconst 1, 1) := by decide +kernel
theorem dX7_best_26 : decode cX7_best 26 = .ok (.invokestatic 67, 3) := by decide +kernel
theorem dX7_best_29 : decode cX7_best 29 = .ok (.ifCond .ne 6, 3) := by decide +kernel
theorem dX7_best_32 : decode cX7_best 32 = .ok (.bipush (-2), 2) := by decide +kernel
theorem dX7_best_34 : decode cX7_best 34 = .ok (.ireturn, 1) := by decide +kernel
theorem dX7_best_35 : decode cX7_best 35 = .ok (.bipush (-9), 2) := by decide +kernel
theorem dX7_best_37 : decode cX7_best 37 = .ok (.istore 4, 2) := by decide +kernel
theorem dX7_best_39 : decode cX7_best 39 = .ok (.bipush (-9), 2) := by decide +kernel
theorem dX7_best_41 : decode cX7_best 41 = .ok (.istore 5, 2) := by decide +kernel
theorem dX7_best_43 : decode cX7_best 43 = .ok (.iconst 0, 1) := by decide +kernel
theorem dX7_best_44 : decode cX7_best 44 = .ok (.istore 6, 2) := by decide +kernel
theorem dX7_best_46 : decode cX7_best 46 = .ok (.iload 6, 2) := by decide +kernel
theorem dX7_best_48 : decode cX7_best 48 = .ok (.bipush 10, 2) := by decide +kernel
theorem dX7_best_50 : decode cX7_best 50 = .ok (.if_icmp .ge 76, 3) := by decide +kernel
theorem dX7_best_53 : decode cX7_best 53 = .ok (.aload_n 0, 1) := by decide +kernel
theorem dX7_best_54 : decode cX7_best 54 = .ok (.invokevirtual 190, 3) := by decide +kernel
theorem dX7_best_57 : decode cX7_best 57 = .ok (.aload_n 0, 1) := by decide +kernel
theorem dX7_best_58 : decode cX7_best 58 = .ok (.getfield 31, 3) := by decide +kernel
theorem dX7_best_61 : decode cX7_best 61 = .ok (.bipush 9, 2) := by decide +kernel
theorem dX7_best_63 : decode cX7_best 63 = .ok (.iload_n 1, 1) := by decide +kernel
theorem dX7_best_64 : decode cX7_best 64 = .ok (.iadd, 1) := by decide +kernel
theorem dX7_best_65 : decode cX7_best 65 = .ok (.iload 6, 2) := by decide +kernel
theorem dX7_best_67 : decode cX7_best 67 = .ok (.iastore, 1) := by decide +kernel
theorem dX7_best_68 : decode cX7_best 68 = .ok (.aload_n 0, 1) := by decide +kernel
theorem dX7_best_69 : decode cX7_best 69 = .ok (.iload_n 2, 1) := by decide +kernel
theorem dX7_best_70 : decode cX7_best 70 = .ok (.invokevirtual 193, 3) := by decide +kernel
theorem dX7_best_73 : decode cX7_best 73 = .ok (.aload_n 0, 1) := by decide +kernel
theorem dX7_best_74 : decode cX7_best 74 = .ok (.getfield 31, 3) := by decide +kernel
theorem dX7_best_77 : decode cX7_best 77 = .ok (.bipush 16, 2) := by decide +kernel
theorem dX7_best_79 : decode cX7_best 79 = .ok (.iaload, 1) := by decide +kernel
theorem dX7_best_80 : decode cX7_best 80 = .ok (.iload 5, 2) := by decide +kernel
theorem dX7_best_82 : decode cX7_best 82 = .ok (.if_icmp .le 8, 3) := by decide +kernel
theorem dX7_best_85 : decode cX7_best 85 = .ok (.iload 6, 2) := by decide +kernel
theorem dX7_best_87 : decode cX7_best 87 = .ok (.goto 5, 3) := by decide +kernel
theorem dX7_best_90 : decode cX7_best 90 = .ok (.iload 4, 2) := by decide +kernel
theorem dX7_best_92 : decode cX7_best 92 = .ok (.istore 4, 2) := by decide +kernel
theorem dX7_best_94 : decode cX7_best 94 = .ok (.aload_n 0, 1) := by decide +kernel
theorem dX7_best_95 : decode cX7_best 95 = .ok (.getfield 31, 3) := by decide +kernel
theorem dX7_best_98 : decode cX7_best 98 = .ok (.bipush 16, 2) := by decide +kernel
theorem dX7_best_100 : decode cX7_best 100 = .ok (.iaload, 1) := by decide +kernel
theorem dX7_best_101 : decode cX7_best 101 = .ok (.iload 5, 2) := by decide +kernel
theorem dX7_best_103 : decode cX7_best 103 = .ok (.if_icmp .le 13, 3) := by decide +kernel
theorem dX7_best_106 : decode cX7_best 106 = .ok (.aload_n 0, 1) := by decide +kernel
theorem dX7_best_107 : decode cX7_best 107 = .ok (.getfield 31, 3) := by decide +kernel
theorem dX7_best_110 : decode cX7_best 110 = .ok (.bipush 16, 2) := by decide +kernel
theorem dX7_best_112 : decode cX7_best 112 = .ok (.iaload, 1) := by decide +kernel
theorem dX7_best_113 : decode cX7_best 113 = .ok (.goto 5, 3) := by decide +kernel
theorem dX7_best_116 : decode cX7_best 116 = .ok (.iload 5, 2) := by decide +kernel
theorem dX7_best_118 : decode cX7_best 118 = .ok (.istore 5, 2) := by decide +kernel
theorem dX7_best_120 : decode cX7_best 120 = .ok (.iinc 6 1, 3) := by decide +kernel
theorem dX7_best_123 : decode cX7_best 123 = .ok (.goto (-77), 3) := by decide +kernel
theorem dX7_best_126 : decode cX7_best 126 = .ok (.iload_n 3, 1) := by decide +kernel
theorem dX7_best_127 : decode cX7_best 127 = .ok (.ifCond .ne 8, 3) := by decide +kernel
theorem dX7_best_130 : decode cX7_best 130 = .ok (.iload 4, 2) := by decide +kernel
theorem dX7_best_132 : decode cX7_best 132 = .ok (.goto 5, 3) := by decide +kernel
theorem dX7_best_135 : decode cX7_best 135 = .ok (.iload 5, 2) := by decide +kernel
theorem dX7_best_137 : decode cX7_best 137 = .ok (.ireturn, 1) := by decide +kernel
set_option maxRecDepth 20000 in
theorem ggX7_frees_X7_in : GoodIn wsX7_frees wsX7_in := goodIn_r _ [6] (by decide +kernel) (by decide +kernel)
set_option maxRecDepth 20000 in
theorem gX7_frees_X7_in : GoodIn wsX7_frees (va_wsS RX7 67 yX7_in wsX7_in) := goodIn_app (goodIn_of _ (by decide +kernel)) ggX7_frees_X7_in
set_option maxRecDepth 20000 in
theorem ggX7_frees_X7_layTrial : GoodIn wsX7_frees wsX7_layTrial := goodIn_r _ [10, 2, 41, 42, 43, 44, 45, 46, 47, 48, 49, 50, 51, 52, 53, 54, 55, 56, 57, 58, 59, 60, 61, 62, 63, 64, 65, 66, 67, 68, 69, 70, 71] (by decide +kernel) (by decide +kernel)
set_option maxRecDepth 20000 in
theorem gX7_frees_X7_layTrial : GoodIn wsX7_frees (wsV RX7 190 RX7 yX7_layTrial wsX7_layTrial) := goodIn_app (goodIn_of _ (by decide +kernel)) ggX7_frees_X7_layTrial
set_option maxRecDepth 20000 in
theorem ggX7_frees_X7_clapOn : GoodIn wsX7_frees wsX7_clapOn := goodIn_r _ [14, 2, 1, 15, 16, 17, 18, 19, 20, 5, 21, 22, 23, 24, 25, 26, 27, 28, 29, 30, 31, 32, 33, 34, 35, 36, 37, 38, 39, 40, 41, 42, 43, 44, 45, 46, 47, 48, 49, 50, 51, 52, 53, 54, 55, 56, 57, 58, 59, 60, 61, 62, 63, 64, 65, 66, 67, 68, 69, 70, 71] (by decide +kernel) (by decide +kernel)
set_option maxRecDepth 20000 in
theorem gX7_frees_X7_clapOn : GoodIn wsX7_frees (wsV RX7 147 RX7 yX7_clapOn wsX7_clapOn) := goodIn_app (goodIn_of _ (by decide +kernel)) ggX7_frees_X7_clapOn
theorem dX7_frees_0 : decode cX7_frees 0 = .ok (.iload_n 1, 1) := by decide +kernel
theorem dX7_frees_1 : decode cX7_frees 1 = .ok (.i2l, 1) := by decide +kernel
theorem dX7_frees_2 : decode cX7_frees 2 = .ok (.lconst 0, 1) := by decide +kernel
theorem dX7_frees_3 : decode cX7_frees 3 = .ok (.iconst 1, 1) := by decide +kernel
theorem dX7_frees_4 : decode cX7_frees 4 = .ok (.aload_n 0, 1) := by decide +kernel
theorem dX7_frees_5 : decode cX7_frees 5 = .ok (.getfield 111, 3) := by decide +kernel
theorem dX7_frees_8 : decode cX7_frees 8 = .ok (.ishl, 1) := by decide +kernel
theorem dX7_frees_9 : decode cX7_frees 9 = .ok (.iconst 1, 1) := by decide +kernel
theorem dX7_frees_10 : decode cX7_frees 10 = .ok (.isub, 1) := by decide +kernel
theorem dX7_frees_11 : decode cX7_frees 11 = .ok (.i2l, 1) := by decide +kernel
theorem dX7_frees_12 : decode cX7_frees 12 = .ok (.invokestatic 67, 3) := by decide +kernel
theorem dX7_frees_15 : decode cX7_frees 15 = .ok (.ifCond .eq 13, 3) := by decide +kernel
theorem dX7_frees_18 : decode cX7_frees 18 = .ok (.iload_n 2, 1) := by decide +kernel
theorem dX7_frees_19 : decode cX7_frees 19 = .ok (.i2l, 1) := by decide +kernel
theorem dX7_frees_20 : decode cX7_frees 20 = .ok (.lconst 0, 1) := by decide +kernel
theorem dX7_frees_21 : decode cX7_frees 21 = .ok (.lconst 1, 1) := by decide +kernel
theorem dX7_frees_22 : decode cX7_frees 22 = .ok (.invokestatic 67, 3) := by decide +kernel
theorem dX7_frees_25 : decode cX7_frees 25 = .ok (.ifCond .ne 6, 3) := by decide +kernel
theorem dX7_frees_28 : decode cX7_frees 28 = .ok (.bipush (-2), 2) := by decide +kernel
theorem dX7_frees_30 : decode cX7_frees 30 = .ok (.ireturn, 1) := by decide +kernel
theorem dX7_frees_31 : decode cX7_frees 31 = .ok (.iconst 0, 1) := by decide +kernel
theorem dX7_frees_32 : decode cX7_frees 32 = .ok (.istore_n 3, 1) := by decide +kernel
theorem dX7_frees_33 : decode cX7_frees 33 = .ok (.iload_n 3, 1) := by decide +kernel
theorem dX7_frees_34 : decode cX7_frees 34 = .ok (.bipush 10, 2) := by decide +kernel
theorem dX7_frees_36 : decode cX7_frees 36 = .ok (.if_icmp .ge 61, 3) := by decide +kernel
theorem dX7_frees_39 : decode cX7_frees 39 = .ok (.iconst 0, 1) := by decide +kernel
theorem dX7_frees_40 : decode cX7_frees 40 = .ok (.istore 4, 2) := by decide +kernel
theorem dX7_frees_42 : decode cX7_frees 42 = .ok (.iload 4, 2) := by decide +kernel
theorem dX7_frees_44 : decode cX7_frees 44 = .ok (.bipush 10, 2) := by decide +kernel
theorem dX7_frees_46 : decode cX7_frees 46 = .ok (.if_icmp .ge 45, 3) := by decide +kernel
theorem dX7_frees_49 : decode cX7_frees 49 = .ok (.aload_n 0, 1) := by decide +kernel
theorem dX7_frees_50 : decode cX7_frees 50 = .ok (.invokevirtual 190, 3) := by decide +kernel
theorem dX7_frees_53 : decode cX7_frees 53 = .ok (.aload_n 0, 1) := by decide +kernel
theorem dX7_frees_54 : decode cX7_frees 54 = .ok (.iconst 1, 1) := by decide +kernel
theorem dX7_frees_55 : decode cX7_frees 55 = .ok (.iload 4, 2) := by decide +kernel
theorem dX7_frees_57 : decode cX7_frees 57 = .ok (.iload_n 3, 1) := by decide +kernel
theorem dX7_frees_58 : decode cX7_frees 58 = .ok (.invokevirtual 147, 3) := by decide +kernel
theorem dX7_frees_61 : decode cX7_frees 61 = .ok (.pop, 1) := by decide +kernel
theorem dX7_frees_62 : decode cX7_frees 62 = .ok (.iload_n 1, 1) := by decide +kernel
theorem dX7_frees_63 : decode cX7_frees 63 = .ok (.aload_n 0, 1) := by decide +kernel
theorem dX7_frees_64 : decode cX7_frees 64 = .ok (.getfield 31, 3) := by decide +kernel
theorem dX7_frees_67 : decode cX7_frees 67 = .ok (.bipush 15, 2) := by decide +kernel
theorem dX7_frees_69 : decode cX7_frees 69 = .ok (.iaload, 1) := by decide +kernel
theorem dX7_frees_70 : decode cX7_frees 70 = .ok (.iand, 1) := by decide +kernel
theorem dX7_frees_71 : decode cX7_frees 71 = .ok (.ifCond .ne 14, 3) := by decide +kernel
theorem dX7_frees_74 : decode cX7_frees 74 = .ok (.iload_n 2, 1) := by decide +kernel
theorem dX7_frees_75 : decode cX7_frees 75 = .ok (.ifCond .ne 7, 3) := by decide +kernel
theorem dX7_frees_78 : decode cX7_frees 78 = .ok (.iload_n 3, 1) := by decide +kernel
theorem dX7_frees_79 : decode cX7_frees 79 = .ok (.goto 5, 3) := by decide +kernel
theorem dX7_frees_82 : decode cX7_frees 82 = .ok (.iload 4, 2) := by decide +kernel
theorem dX7_frees_84 : decode cX7_frees 84 = .ok (.ireturn, 1) := by decide +kernel
theorem dX7_frees_85 : decode cX7_frees 85 = .ok (.iinc 4 1, 3) := by decide +kernel
theorem dX7_frees_88 : decode cX7_frees 88 = .ok (.goto (-46), 3) := by decide +kernel
theorem dX7_frees_91 : decode cX7_frees 91 = .ok (.iinc 3 1, 3) := by decide +kernel
theorem dX7_frees_94 : decode cX7_frees 94 = .ok (.goto (-61), 3) := by decide +kernel
theorem dX7_frees_97 : decode cX7_frees 97 = .ok (.bipush (-9), 2) := by decide +kernel
theorem dX7_frees_99 : decode cX7_frees 99 = .ok (.ireturn, 1) := by decide +kernel
set_option maxRecDepth 20000 in
theorem ggX7_tryThing_X7_passOn : GoodIn wsX7_tryThing wsX7_passOn := goodIn_r _ [6, 1, 7, 8, 9, 5, 10, 11, 12, 13, 14, 15, 16, 17, 18, 19, 20, 21, 22, 23, 24, 25, 26, 27, 28, 29, 30, 31, 32, 33, 34, 35, 36, 37, 38, 39, 40, 41, 42, 43, 44, 45, 46, 47, 48, 49, 50, 51, 52, 53, 81, 82, 83, 84, 85, 86, 87, 88, 89, 90, 91, 92, 93, 94, 95, 96, 97, 98, 99, 100, 101, 102, 103, 104, 105, 106, 107, 108, 109, 110, 111] (by decide +kernel) (by decide +kernel)
set_option maxRecDepth 20000 in
theorem gX7_tryThing_X7_passOn : GoodIn wsX7_tryThing (wsV RX7 172 RX7 yX7_passOn wsX7_passOn) := goodIn_app (goodIn_of _ (by decide +kernel)) ggX7_tryThing_X7_passOn
set_option maxRecDepth 20000 in
theorem ggX7_tryThing_X7_clapOn : GoodIn wsX7_tryThing wsX7_clapOn := goodIn_r _ [21, 1, 22, 23, 24, 25, 26, 27, 28, 5, 29, 30, 31, 32, 33, 34, 35, 36, 37, 38, 39, 40, 41, 42, 43, 44, 45, 46, 47, 48, 81, 82, 83, 84, 85, 86, 87, 88, 89, 90, 91, 92, 93, 94, 95, 96, 97, 98, 99, 100, 101, 102, 103, 104, 105, 106, 107, 108, 109, 110, 111] (by decide +kernel) (by decide +kernel)
set_option maxRecDepth 20000 in
theorem gX7_tryThing_X7_clapOn : GoodIn wsX7_tryThing (wsV RX7 147 RX7 yX7_clapOn wsX7_clapOn) := goodIn_app (goodIn_of _ (by decide +kernel)) ggX7_tryThing_X7_clapOn
set_option maxRecDepth 20000 in
theorem ggX7_tryThing_X7_canSwear : GoodIn wsX7_tryThing wsX7_canSwear := goodIn_r _ [57, 1, 45, 58, 59, 60, 5, 61, 22, 62, 63, 64, 35, 36, 37, 81, 82, 83, 84, 85, 86, 87, 88, 89, 90, 91, 92, 93, 94, 95, 96, 97, 98, 99, 100, 101, 102, 103, 104, 105, 106, 107, 108, 109, 110, 111] (by decide +kernel) (by decide +kernel)
set_option maxRecDepth 20000 in
theorem gX7_tryThing_X7_canSwear : GoodIn wsX7_tryThing (wsV RX7 179 RX7 yX7_canSwear wsX7_canSwear) := goodIn_app (goodIn_of _ (by decide +kernel)) ggX7_tryThing_X7_canSwear
set_option maxRecDepth 20000 in
theorem ggX7_tryThing_X7_isOath : GoodIn wsX7_tryThing wsX7_isOath := goodIn_r _ [61, 22, 62, 63, 5, 64, 81, 82, 83, 84, 85, 86, 87, 88, 89, 90, 91, 92, 93, 94, 95, 96, 97, 98, 99, 100, 101, 102, 103, 104, 105, 106, 107, 108, 109, 110, 111] (by decide +kernel) (by decide +kernel)
set_option maxRecDepth 20000 in
theorem gX7_tryThing_X7_isOath : GoodIn wsX7_tryThing (wsV RX7 153 RX7 yX7_isOath wsX7_isOath) := goodIn_app (goodIn_of _ (by decide +kernel)) ggX7_tryThing_X7_isOath
set_option maxRecDepth 20000 in
theorem ggX7_tryThing_X7_has : GoodIn wsX7_tryThing wsX7_has := goodIn_r _ [37] (by decide +kernel) (by decide +kernel)
set_option maxRecDepth 20000 in
theorem gX7_tryThing_X7_has : GoodIn wsX7_tryThing (va_wsS RX7 119 yX7_has wsX7_has) := goodIn_app (goodIn_of _ (by decide +kernel)) ggX7_tryThing_X7_has
set_option maxRecDepth 20000 in
theorem ggX7_tryThing_X7_formOn : GoodIn wsX7_tryThing wsX7_formOn := goodIn_r _ [68, 1, 41, 42, 43, 5, 44, 22, 45, 35, 36, 37, 46, 47, 48, 81, 82, 83, 84, 85, 86, 87, 88, 89, 90, 91, 92, 93, 94, 95, 96, 97, 98, 99, 100, 101, 102, 103, 104, 105, 106, 107, 108, 109, 110, 111] (by decide +kernel) (by decide +kernel)
set_option maxRecDepth 20000 in
theorem gX7_tryThing_X7_formOn : GoodIn wsX7_tryThing (wsV RX7 182 RX7 yX7_formOn wsX7_formOn) := goodIn_app (goodIn_of _ (by decide +kernel)) ggX7_tryThing_X7_formOn
set_option maxRecDepth 20000 in
theorem ggX7_tryThing_X7_isPerson : GoodIn wsX7_tryThing wsX7_isPerson := goodIn_r _ [72, 30, 62, 63, 5, 64, 81, 82, 83, 84, 85, 86, 87, 88, 89, 90, 91, 92, 93, 94, 95, 96, 97, 98, 99, 100, 101, 102, 103, 104, 105, 106, 107, 108, 109, 110, 111] (by decide +kernel) (by decide +kernel)
set_option maxRecDepth 20000 in
theorem gX7_tryThing_X7_isPerson : GoodIn wsX7_tryThing (wsV RX7 157 RX7 yX7_isPerson wsX7_isPerson) := goodIn_app (goodIn_of _ (by decide +kernel)) ggX7_tryThing_X7_isPerson
set_option maxRecDepth 20000 in
theorem ggX7_tryThing_X7_isPlace : GoodIn wsX7_tryThing wsX7_isPlace := goodIn_r _ [75, 76, 62, 63, 5, 64] (by decide +kernel) (by decide +kernel)
set_option maxRecDepth 20000 in
theorem gX7_tryThing_X7_isPlace : GoodIn wsX7_tryThing (va_wsS RX7 176 yX7_isPlace wsX7_isPlace) := goodIn_app (goodIn_of _ (by decide +kernel)) ggX7_tryThing_X7_isPlace
set_option maxRecDepth 20000 in
theorem ggX7_tryThing_X7_canWool : GoodIn wsX7_tryThing wsX7_canWool := goodIn_r _ [80, 25, 69, 70, 71, 5, 72, 30, 62, 63, 64, 81, 82, 83, 84, 85, 86, 87, 88, 89, 90, 91, 92, 93, 94, 95, 96, 97, 98, 99, 100, 101, 102, 103, 104, 105, 106, 107, 108, 109, 110, 111] (by decide +kernel) (by decide +kernel)
set_option maxRecDepth 20000 in
theorem gX7_tryThing_X7_canWool : GoodIn wsX7_tryThing (wsV RX7 185 RX7 yX7_canWool wsX7_canWool) := goodIn_app (goodIn_of _ (by decide +kernel)) ggX7_tryThing_X7_canWool
theorem dX7_tryThing_0 : decode cX7_tryThing 0 = .ok (.iload_n 1, 1) := by decide +kernel
theorem dX7_tryThing_1 : decode cX7_tryThing 1 = .ok (.tableswitch 296 0 6 #[43, 64, 74, 119, 167, 220, 264], 43) := by decide +kernel
theorem dX7_tryThing_44 : decode cX7_tryThing 44 = .ok (.aload_n 0, 1) := by decide +kernel
theorem dX7_tryThing_45 : decode cX7_tryThing 45 = .ok (.iconst 1, 1) := by decide +kernel
theorem dX7_tryThing_46 : decode cX7_tryThing 46 = .ok (.iconst 1, 1) := by decide +kernel
theorem dX7_tryThing_47 : decode cX7_tryThing 47 = .ok (.invokevirtual 172, 3) := by decide +kernel
theorem dX7_tryThing_50 : decode cX7_tryThing 50 = .ok (.pop, 1) := by decide +kernel
theorem dX7_tryThing_51 : decode cX7_tryThing 51 = .ok (.iload_n 2, 1) := by decide +kernel
theorem dX7_tryThing_52 : decode cX7_tryThing 52 = .ok (.ifCond .ne 11, 3) := by decide +kernel
theorem dX7_tryThing_55 : decode cX7_tryThing 55 = .ok (.iload_n 3, 1) := by decide +kernel
theorem dX7_tryThing_56 : decode cX7_tryThing 56 = .ok (.ifCond .ne 7, 3) := by decide +kernel
theorem dX7_tryThing_59 : decode cX7_tryThing 59 = .ok (.iconst 1, 1) := by decide +kernel
theorem dX7_tryThing_60 : decode cX7_tryThing 60 = .ok (.goto 4, 3) := by decide +kernel
theorem dX7_tryThing_63 : decode cX7_tryThing 63 = .ok (.iconst 0, 1) := by decide +kernel
theorem dX7_tryThing_64 : decode cX7_tryThing 64 = .ok (.ireturn, 1) := by decide +kernel
theorem dX7_tryThing_65 : decode cX7_tryThing 65 = .ok (.aload_n 0, 1) := by decide +kernel
theorem dX7_tryThing_66 : decode cX7_tryThing 66 = .ok (.iconst 1, 1) := by decide +kernel
theorem dX7_tryThing_67 : decode cX7_tryThing 67 = .ok (.iload_n 2, 1) := by decide +kernel
theorem dX7_tryThing_68 : decode cX7_tryThing 68 = .ok (.iload_n 3, 1) := by decide +kernel
theorem dX7_tryThing_69 : decode cX7_tryThing 69 = .ok (.invokevirtual 147, 3) := by decide +kernel
theorem dX7_tryThing_72 : decode cX7_tryThing 72 = .ok (.pop, 1) := by decide +kernel
theorem dX7_tryThing_73 : decode cX7_tryThing 73 = .ok (.iconst 1, 1) := by decide +kernel
theorem dX7_tryThing_74 : decode cX7_tryThing 74 = .ok (.ireturn, 1) := by decide +kernel
theorem dX7_tryThing_75 : decode cX7_tryThing 75 = .ok (.iload_n 2, 1) := by decide +kernel
theorem dX7_tryThing_76 : decode cX7_tryThing 76 = .ok (.ifCond .ne 16, 3) := by decide +kernel
theorem dX7_tryThing_79 : decode cX7_tryThing 79 = .ok (.aload_n 0, 1) := by decide +kernel
theorem dX7_tryThing_80 : decode cX7_tryThing 80 = .ok (.iconst 1, 1) := by decide +kernel
theorem dX7_tryThing_81 : decode cX7_tryThing 81 = .ok (.iload_n 3, 1) := by decide +kernel
theorem dX7_tryThing_82 : decode cX7_tryThing 82 = .ok (.invokevirtual 179, 3) := by decide +kernel
theorem dX7_tryThing_85 : decode cX7_tryThing 85 = .ok (.ifCond .eq 7, 3) := by decide +kernel
theorem dX7_tryThing_88 : decode cX7_tryThing 88 = .ok (.iconst 1, 1) := by decide +kernel
theorem dX7_tryThing_89 : decode cX7_tryThing 89 = .ok (.goto 4, 3) := by decide +kernel
theorem dX7_tryThing_92 : decode cX7_tryThing 92 = .ok (.iconst 0, 1) := by decide +kernel
theorem dX7_tryThing_93 : decode cX7_tryThing 93 = .ok (.istore 4, 2) := by decide +kernel
theorem dX7_tryThing_95 : decode cX7_tryThing 95 = .ok (.aload_n 0, 1) := by decide +kernel
theorem dX7_tryThing_96 : decode cX7_tryThing 96 = .ok (.getfield 31, 3) := by decide +kernel
theorem dX7_tryThing_99 : decode cX7_tryThing 99 = .ok (.bipush 15, 2) := by decide +kernel
theorem dX7_tryThing_101 : decode cX7_tryThing 101 = .ok (.dup2, 1) := by decide +kernel
theorem dX7_tryThing_102 : decode cX7_tryThing 102 = .ok (.iaload, 1) := by decide +kernel
theorem dX7_tryThing_103 : decode cX7_tryThing 103 = .ok (.iload 4, 2) := by decide +kernel
theorem dX7_tryThing_105 : decode cX7_tryThing 105 = .ok (.ifCond .eq 9, 3) := by decide +kernel
theorem dX7_tryThing_108 : decode cX7_tryThing 108 = .ok (.iconst 1, 1) := by decide +kernel
theorem dX7_tryThing_109 : decode cX7_tryThing 109 = .ok (.iload_n 3, 1) := by decide +kernel
theorem dX7_tryThing_110 : decode cX7_tryThing 110 = .ok (.ishl, 1) := by decide +kernel
theorem dX7_tryThing_111 : decode cX7_tryThing 111 = .ok (.goto 4, 3) := by decide +kernel
theorem dX7_tryThing_114 : decode cX7_tryThing 114 = .ok (.iconst 0, 1) := by decide +kernel
theorem dX7_tryThing_115 : decode cX7_tryThing 115 = .ok (.ior, 1) := by decide +kernel
theorem dX7_tryThing_116 : decode cX7_tryThing 116 = .ok (.iastore, 1) := by decide +kernel
theorem dX7_tryThing_117 : decode cX7_tryThing 117 = .ok (.iload 4, 2) := by decide +kernel
theorem dX7_tryThing_119 : decode cX7_tryThing 119 = .ok (.ireturn, 1) := by decide +kernel
theorem dX7_tryThing_120 : decode cX7_tryThing 120 = .ok (.iload_n 2, 1) := by decide +kernel
theorem dX7_tryThing_121 : decode cX7_tryThing 121 = .ok (.ifCond .ne 29, 3) := by decide +kernel
theorem dX7_tryThing_124 : decode cX7_tryThing 124 = .ok (.aload_n 0, 1) := by decide +kernel
theorem dX7_tryThing_125 : decode cX7_tryThing 125 = .ok (.iload_n 3, 1) := by decide +kernel
theorem dX7_tryThing_126 : decode cX7_tryThing 126 = .ok (.invokevirtual 153, 3) := by decide +kernel
theorem dX7_tryThing_129 : decode cX7_tryThing 129 = .ok (.ifCond .eq 21, 3) := by decide +kernel
theorem dX7_tryThing_132 : decode cX7_tryThing 132 = .ok (.aload_n 0, 1) := by decide +kernel
theorem dX7_tryThing_133 : decode cX7_tryThing 133 = .ok (.getfield 31, 3) := by decide +kernel
theorem dX7_tryThing_136 : decode cX7_tryThing 136 = .ok (.bipush 15, 2) := by decide +kernel
theorem dX7_tryThing_138 : decode cX7_tryThing 138 = .ok (.iaload, 1) := by decide +kernel
theorem dX7_tryThing_139 : decode cX7_tryThing 139 = .ok (.iload_n 3, 1) := by decide +kernel
theorem dX7_tryThing_140 : decode cX7_tryThing 140 = .ok (.invokestatic 119, 3) := by decide +kernel
theorem dX7_tryThing_143 : decode cX7_tryThing 143 = .ok (.ifCond .eq 7, 3) := by decide +kernel
theorem dX7_tryThing_146 : decode cX7_tryThing 146 = .ok (.iconst 1, 1) := by decide +kernel
theorem dX7_tryThing_147 : decode cX7_tryThing 147 = .ok (.goto 4, 3) := by decide +kernel
theorem dX7_tryThing_150 : decode cX7_tryThing 150 = .ok (.iconst 0, 1) := by decide +kernel
theorem dX7_tryThing_151 : decode cX7_tryThing 151 = .ok (.istore 5, 2) := by decide +kernel
theorem dX7_tryThing_153 : decode cX7_tryThing 153 = .ok (.iload 5, 2) := by decide +kernel
theorem dX7_tryThing_155 : decode cX7_tryThing 155 = .ok (.ifCond .eq 10, 3) := by decide +kernel
theorem dX7_tryThing_158 : decode cX7_tryThing 158 = .ok (.aload_n 0, 1) := by decide +kernel
theorem dX7_tryThing_159 : decode cX7_tryThing 159 = .ok (.iconst 1, 1) := by decide +kernel
theorem dX7_tryThing_160 : decode cX7_tryThing 160 = .ok (.iload_n 3, 1) := by decide +kernel
theorem dX7_tryThing_161 : decode cX7_tryThing 161 = .ok (.invokevirtual 182, 3) := by decide +kernel
theorem dX7_tryThing_164 : decode cX7_tryThing 164 = .ok (.pop, 1) := by decide +kernel
theorem dX7_tryThing_165 : decode cX7_tryThing 165 = .ok (.iload 5, 2) := by decide +kernel
theorem dX7_tryThing_167 : decode cX7_tryThing 167 = .ok (.ireturn, 1) := by decide +kernel
theorem dX7_tryThing_168 : decode cX7_tryThing 168 = .ok (.aload_n 0, 1) := by decide +kernel
theorem dX7_tryThing_169 : decode cX7_tryThing 169 = .ok (.iload_n 2, 1) := by decide +kernel
theorem dX7_tryThing_170 : decode cX7_tryThing 170 = .ok (.invokevirtual 157, 3) := by decide +kernel
theorem dX7_tryThing_173 : decode cX7_tryThing 173 = .ok (.ifCond .eq 27, 3) := by decide +kernel
theorem dX7_tryThing_176 : decode cX7_tryThing 176 = .ok (.iload_n 3, 1) := by decide +kernel
theorem dX7_tryThing_177 : decode cX7_tryThing 177 = .ok (.invokestatic 176, 3) := by decide +kernel
theorem dX7_tryThing_180 : decode cX7_tryThing 180 = .ok (.ifCond .eq 20, 3) := by decide +kernel
theorem dX7_tryThing_183 : decode cX7_tryThing 183 = .ok (.aload_n 0, 1) := by decide +kernel
theorem dX7_tryThing_184 : decode cX7_tryThing 184 = .ok (.getfield 31, 3) := by decide +kernel
theorem dX7_tryThing_187 : decode cX7_tryThing 187 = .ok (.bipush 9, 2) := by decide +kernel
theorem dX7_tryThing_189 : decode cX7_tryThing 189 = .ok (.iload_n 2, 1) := by decide +kernel
theorem dX7_tryThing_190 : decode cX7_tryThing 190 = .ok (.iadd, 1) := by decide +kernel
theorem dX7_tryThing_191 : decode cX7_tryThing 191 = .ok (.iaload, 1) := by decide +kernel
theorem dX7_tryThing_192 : decode cX7_tryThing 192 = .ok (.iload_n 3, 1) := by decide +kernel
theorem dX7_tryThing_193 : decode cX7_tryThing 193 = .ok (.if_icmp .eq 7, 3) := by decide +kernel
theorem dX7_tryThing_196 : decode cX7_tryThing 196 = .ok (.iconst 1, 1) := by decide +kernel
theorem dX7_tryThing_197 : decode cX7_tryThing 197 = .ok (.goto 4, 3) := by decide +kernel
theorem dX7_tryThing_200 : decode cX7_tryThing 200 = .ok (.iconst 0, 1) := by decide +kernel
theorem dX7_tryThing_201 : decode cX7_tryThing 201 = .ok (.istore 6, 2) := by decide +kernel
theorem dX7_tryThing_203 : decode cX7_tryThing 203 = .ok (.iload 6, 2) := by decide +kernel
theorem dX7_tryThing_205 : decode cX7_tryThing 205 = .ok (.ifCond .eq 13, 3) := by decide +kernel
theorem dX7_tryThing_208 : decode cX7_tryThing 208 = .ok (.aload_n 0, 1) := by decide +kernel
theorem dX7_tryThing_209 : decode cX7_tryThing 209 = .ok (.getfield 31, 3) := by decide +kernel
theorem dX7_tryThing_212 : decode cX7_tryThing 212 = .ok (.bipush 9, 2) := by decide +kernel
theorem dX7_tryThing_214 : decode cX7_tryThing 214 = .ok (.iload_n 2, 1) := by decide +kernel
theorem dX7_tryThing_215 : decode cX7_tryThing 215 = .ok (.iadd, 1) := by decide +kernel
theorem dX7_tryThing_216 : decode cX7_tryThing 216 = .ok (.iload_n 3, 1) := by decide +kernel
theorem dX7_tryThing_217 : decode cX7_tryThing 217 = .ok (.iastore, 1) := by decide +kernel
theorem dX7_tryThing_218 : decode cX7_tryThing 218 = .ok (.iload 6, 2) := by decide +kernel
theorem dX7_tryThing_220 : decode cX7_tryThing 220 = .ok (.ireturn, 1) := by decide +kernel
theorem dX7_tryThing_221 : decode cX7_tryThing 221 = .ok (.iload_n 2, 1) := by decide +kernel
theorem dX7_tryThing_222 : decode cX7_tryThing 222 = .ok (.ifCond .ne 15, 3) := by decide +kernel
theorem dX7_tryThing_225 : decode cX7_tryThing 225 = .ok (.aload_n 0, 1) := by decide +kernel
theorem dX7_tryThing_226 : decode cX7_tryThing 226 = .ok (.iload_n 3, 1) := by decide +kernel
theorem dX7_tryThing_227 : decode cX7_tryThing 227 = .ok (.invokevirtual 185, 3) := by decide +kernel
theorem dX7_tryThing_230 : decode cX7_tryThing 230 = .ok (.ifCond .eq 7, 3) := by decide +kernel
theorem dX7_tryThing_233 : decode cX7_tryThing 233 = .ok (.iconst 1, 1) := by decide +kernel
theorem dX7_tryThing_234 : decode cX7_tryThing 234 = .ok (.goto 4, 3) := by decide +kernel
theorem dX7_tryThing_237 : decode cX7_tryThing 237 = .ok (.iconst 0, 1) := by decide +kernel
theorem dX7_tryThing_238 : decode cX7_tryThing 238 = .ok (.istore 7, 2) := by decide +kernel
theorem dX7_tryThing_240 : decode cX7_tryThing 240 = .ok (.aload_n 0, 1) := by decide +kernel
theorem dX7_tryThing_241 : decode cX7_tryThing 241 = .ok (.getfield 31, 3) := by decide +kernel
theorem dX7_tryThing_244 : decode cX7_tryThing 244 = .ok (.bipush 14, 2) := by decide +kernel
theorem dX7_tryThing_246 : decode cX7_tryThing 246 = .ok (.dup2, 1) := by decide +kernel
theorem dX7_tryThing_247 : decode cX7_tryThing 247 = .ok (.iaload, 1) := by decide +kernel
theorem dX7_tryThing_248 : decode cX7_tryThing 248 = .ok (.iload 7, 2) := by decide +kernel
theorem dX7_tryThing_250 : decode cX7_tryThing 250 = .ok (.ifCond .eq 9, 3) := by decide +kernel
theorem dX7_tryThing_253 : decode cX7_tryThing 253 = .ok (.iconst 1, 1) := by decide +kernel
theorem dX7_tryThing_254 : decode cX7_tryThing 254 = .ok (.iload_n 3, 1) := by decide +kernel
theorem dX7_tryThing_255 : decode cX7_tryThing 255 = .ok (.ishl, 1) := by decide +kernel
theorem dX7_tryThing_256 : decode cX7_tryThing 256 = .ok (.goto 4, 3) := by decide +kernel
theorem dX7_tryThing_259 : decode cX7_tryThing 259 = .ok (.iconst 0, 1) := by decide +kernel
theorem dX7_tryThing_260 : decode cX7_tryThing 260 = .ok (.ixor, 1) := by decide +kernel
theorem dX7_tryThing_261 : decode cX7_tryThing 261 = .ok (.iastore, 1) := by decide +kernel
theorem dX7_tryThing_262 : decode cX7_tryThing 262 = .ok (.iload 7, 2) := by decide +kernel
theorem dX7_tryThing_264 : decode cX7_tryThing 264 = .ok (.ireturn, 1) := by decide +kernel
theorem dX7_tryThing_265 : decode cX7_tryThing 265 = .ok (.iload_n 2, 1) := by decide +kernel
theorem dX7_tryThing_266 : decode cX7_tryThing 266 = .ok (.ifCond .ne 29, 3) := by decide +kernel
theorem dX7_tryThing_269 : decode cX7_tryThing 269 = .ok (.aload_n 0, 1) := by decide +kernel
theorem dX7_tryThing_270 : decode cX7_tryThing 270 = .ok (.iload_n 3, 1) := by decide +kernel
theorem dX7_tryThing_271 : decode cX7_tryThing 271 = .ok (.invokevirtual 153, 3) := by decide +kernel
theorem dX7_tryThing_274 : decode cX7_tryThing 274 = .ok (.ifCond .eq 21, 3) := by decide +kernel
theorem dX7_tryThing_277 : decode cX7_tryThing 277 = .ok (.aload_n 0, 1) := by decide +kernel
theorem dX7_tryThing_278 : decode cX7_tryThing 278 = .ok (.getfield 31, 3) := by decide +kernel
theorem dX7_tryThing_281 : decode cX7_tryThing 281 = .ok (.bipush 15, 2) := by decide +kernel
theorem dX7_tryThing_283 : decode cX7_tryThing 283 = .ok (.iaload, 1) := by decide +kernel
theorem dX7_tryThing_284 : decode cX7_tryThing 284 = .ok (.iload_n 3, 1) := by decide +kernel
theorem dX7_tryThing_285 : decode cX7_tryThing 285 = .ok (.invokestatic 119, 3) := by decide +kernel
theorem dX7_tryThing_288 : decode cX7_tryThing 288 = .ok (.ifCond .eq 7, 3) := by decide +kernel
theorem dX7_tryThing_291 : decode cX7_tryThing 291 = .ok (.iconst 1, 1) := by decide +kernel
theorem dX7_tryThing_292 : decode cX7_tryThing 292 = .ok (.goto 4, 3) := by decide +kernel
theorem dX7_tryThing_295 : decode cX7_tryThing 295 = .ok (.iconst 0, 1) := by decide +kernel
theorem dX7_tryThing_296 : decode cX7_tryThing 296 = .ok (.ireturn, 1) := by decide +kernel
theorem dX7_tryThing_297 : decode cX7_tryThing 297 = .ok (.iconst 0, 1) := by decide +kernel
theorem dX7_tryThing_298 : decode cX7_tryThing 298 = .ok (.ireturn, 1) := by decide +kernel
theorem dX7_thousandTo_0 : decode cX7_thousandTo 0 = .ok (.lconst 1, 1) := by decide +kernel
theorem dX7_thousandTo_1 : decode cX7_thousandTo 1 = .ok (.lstore_n 1, 1) := by decide +kernel
theorem dX7_thousandTo_2 : decode cX7_thousandTo 2 = .ok (.iconst 0, 1) := by decide +kernel
theorem dX7_thousandTo_3 : decode cX7_thousandTo 3 = .ok (.istore_n 3, 1) := by decide +kernel
theorem dX7_thousandTo_4 : decode cX7_thousandTo 4 = .ok (.iload_n 3, 1) := by decide +kernel
theorem dX7_thousandTo_5 : decode cX7_thousandTo 5 = .ok (.iload_n 0, 1) := by decide +kernel
theorem dX7_thousandTo_6 : decode cX7_thousandTo 6 = .ok (.if_icmp .ge 15, 3) := by decide +kernel
theorem dX7_thousandTo_9 : decode cX7_thousandTo 9 = .ok (.lload_n 1, 1) := by decide +kernel
theorem dX7_thousandTo_10 : decode cX7_thousandTo 10 = .ok (.ldc2_w 196, 3) := by decide +kernel
theorem dX7_thousandTo_13 : decode cX7_thousandTo 13 = .ok (.lmul, 1) := by decide +kernel
theorem dX7_thousandTo_14 : decode cX7_thousandTo 14 = .ok (.lstore_n 1, 1) := by decide +kernel
theorem dX7_thousandTo_15 : decode cX7_thousandTo 15 = .ok (.iinc 3 1, 3) := by decide +kernel
theorem dX7_thousandTo_18 : decode cX7_thousandTo 18 = .ok (.goto (-14), 3) := by decide +kernel
theorem dX7_thousandTo_21 : decode cX7_thousandTo 21 = .ok (.lload_n 1, 1) := by decide +kernel
theorem dX7_thousandTo_22 : decode cX7_thousandTo 22 = .ok (.lreturn, 1) := by decide +kernel
set_option maxRecDepth 20000 in
theorem ggX7_judge_X7_in : GoodIn wsX7_judge wsX7_in := goodIn_r _ [6] (by decide +kernel) (by decide +kernel)
set_option maxRecDepth 20000 in
theorem gX7_judge_X7_in : GoodIn wsX7_judge (va_wsS RX7 67 yX7_in wsX7_in) := goodIn_app (goodIn_of _ (by decide +kernel)) ggX7_judge_X7_in
set_option maxRecDepth 20000 in
theorem ggX7_judge_X7_thousandTo : GoodIn wsX7_judge wsX7_thousandTo := goodIn_r _ [9, 2] (by decide +kernel) (by decide +kernel)
set_option maxRecDepth 20000 in
theorem gX7_judge_X7_thousandTo : GoodIn wsX7_judge (va_wsS RX7 200 yX7_thousandTo wsX7_thousandTo) := goodIn_app (goodIn_of _ (by decide +kernel)) ggX7_judge_X7_thousandTo
set_option maxRecDepth 20000 in
theorem ggX7_judge_X7_layTrial : GoodIn wsX7_judge wsX7_layTrial := goodIn_r _ [13, 14, 94, 95, 96, 97, 98, 99, 100, 101, 102, 103, 104, 105, 106, 107, 108, 109, 110, 111, 112, 113, 114, 115, 116, 117, 118, 119, 120, 121, 122, 123, 124] (by decide +kernel) (by decide +kernel)
set_option maxRecDepth 20000 in
theorem gX7_judge_X7_layTrial : GoodIn wsX7_judge (wsV RX7 190 RX7 yX7_layTrial wsX7_layTrial) := goodIn_app (goodIn_of _ (by decide +kernel)) ggX7_judge_X7_layTrial
set_option maxRecDepth 20000 in
theorem ggX7_judge_X7_tryThing : GoodIn wsX7_judge wsX7_tryThing := goodIn_r _ [18, 14, 19, 20, 21, 5, 22, 23, 24, 25, 26, 27, 28, 29, 30, 31, 32, 33, 34, 35, 36, 37, 38, 39, 40, 41, 42, 43, 44, 45, 46, 47, 48, 49, 50, 51, 52, 53, 54, 55, 56, 57, 58, 59, 60, 61, 62, 63, 64, 65, 66, 67, 68, 69, 70, 71, 72, 73, 74, 75, 76, 77, 3, 4, 6, 78, 79, 80, 81, 82, 83, 84, 85, 86, 87, 88, 89, 90, 91, 92, 93, 94, 95, 96, 97, 98, 99, 100, 101, 102, 103, 104, 105, 106, 107, 108, 109, 110, 111, 112, 113, 114, 115, 116, 117, 118, 119, 120, 121, 122, 123, 124] (by decide +kernel) (by decide +kernel)
set_option maxRecDepth 20000 in
theorem gX7_judge_X7_tryThing : GoodIn wsX7_judge (wsV RX7 204 RX7 yX7_tryThing wsX7_tryThing) := goodIn_app (goodIn_of _ (by decide +kernel)) ggX7_judge_X7_tryThing
theorem dX7_judge_0 : decode cX7_judge 0 = .ok (.iload_n 1, 1) := by decide +kernel
theorem dX7_judge_1 : decode cX7_judge 1 = .ok (.i2l, 1) := by decide +kernel
theorem dX7_judge_2 : decode cX7_judge 2 = .ok (.lconst 1, 1) := by decide +kernel
theorem dX7_judge_3 : decode cX7_judge 3 = .ok (.ldc2_w 198, 3) := by decide +kernel
theorem dX7_judge_6 : decode cX7_judge 6 = .ok (.invokestatic 67, 3) := by decide +kernel
theorem dX7_judge_9 : decode cX7_judge 9 = .ok (.ifCond .eq 17, 3) := by decide +kernel
theorem dX7_judge_12 : decode cX7_judge 12 = .ok (.lload_n 2, 1) := by decide +kernel
theorem dX7_judge_13 : decode cX7_judge 13 = .ok (.lconst 0, 1) := by decide +kernel
theorem dX7_judge_14 : decode cX7_judge 14 = .ok (.iload_n 1, 1) := by decide +kernel
theorem dX7_judge_15 : decode cX7_judge 15 = .ok (.invokestatic 200, 3) := by decide +kernel
theorem dX7_judge_18 : decode cX7_judge 18 = .ok (.lconst 1, 1) := by decide +kernel
theorem dX7_judge_19 : decode cX7_judge 19 = .ok (.lsub, 1) := by decide +kernel
theorem dX7_judge_20 : decode cX7_judge 20 = .ok (.invokestatic 67, 3) := by decide +kernel
theorem dX7_judge_23 : decode cX7_judge 23 = .ok (.ifCond .ne 6, 3) := by decide +kernel
theorem dX7_judge_26 : decode cX7_judge 26 = .ok (.bipush (-2), 2) := by decide +kernel
theorem dX7_judge_28 : decode cX7_judge 28 = .ok (.ireturn, 1) := by decide +kernel
theorem dX7_judge_29 : decode cX7_judge 29 = .ok (.aload_n 0, 1) := by decide +kernel
theorem dX7_judge_30 : decode cX7_judge 30 = .ok (.invokevirtual 190, 3) := by decide +kernel
theorem dX7_judge_33 : decode cX7_judge 33 = .ok (.iconst 0, 1) := by decide +kernel
theorem dX7_judge_34 : decode cX7_judge 34 = .ok (.istore 4, 2) := by decide +kernel
theorem dX7_judge_36 : decode cX7_judge 36 = .ok (.iload 4, 2) := by decide +kernel
theorem dX7_judge_38 : decode cX7_judge 38 = .ok (.iload_n 1, 1) := by decide +kernel
theorem dX7_judge_39 : decode cX7_judge 39 = .ok (.if_icmp .ge 55, 3) := by decide +kernel
theorem dX7_judge_42 : decode cX7_judge 42 = .ok (.lload_n 2, 1) := by decide +kernel
theorem dX7_judge_43 : decode cX7_judge 43 = .ok (.iload_n 1, 1) := by decide +kernel
theorem dX7_judge_44 : decode cX7_judge 44 = .ok (.iconst 1, 1) := by decide +kernel
theorem dX7_judge_45 : decode cX7_judge 45 = .ok (.isub, 1) := by decide +kernel
theorem dX7_judge_46 : decode cX7_judge 46 = .ok (.iload 4, 2) := by decide +kernel
theorem dX7_judge_48 : decode cX7_judge 48 = .ok (.isub, 1) := by decide +kernel
theorem dX7_judge_49 : decode cX7_judge 49 = .ok (.invokestatic 200, 3) := by decide +kernel
theorem dX7_judge_52 : decode cX7_judge 52 = .ok (.ldiv, 1) := by decide +kernel
theorem dX7_judge_53 : decode cX7_judge 53 = .ok (.ldc2_w 196, 3) := by decide +kernel
theorem dX7_judge_56 : decode cX7_judge 56 = .ok (.lrem, 1) := by decide +kernel
theorem dX7_judge_57 : decode cX7_judge 57 = .ok (.l2i, 1) := by decide +kernel
theorem dX7_judge_58 : decode cX7_judge 58 = .ok (.istore 5, 2) := by decide +kernel
theorem dX7_judge_60 : decode cX7_judge 60 = .ok (.aload_n 0, 1) := by decide +kernel
theorem dX7_judge_61 : decode cX7_judge 61 = .ok (.iload 5, 2) := by decide +kernel
theorem dX7_judge_63 : decode cX7_judge 63 = .ok (.bipush 100, 2) := by decide +kernel
theorem dX7_judge_65 : decode cX7_judge 65 = .ok (.idiv, 1) := by decide +kernel
theorem dX7_judge_66 : decode cX7_judge 66 = .ok (.iload 5, 2) := by decide +kernel
theorem dX7_judge_68 : decode cX7_judge 68 = .ok (.bipush 10, 2) := by decide +kernel
theorem dX7_judge_70 : decode cX7_judge 70 = .ok (.idiv, 1) := by decide +kernel
theorem dX7_judge_71 : decode cX7_judge 71 = .ok (.bipush 10, 2) := by decide +kernel
theorem dX7_judge_73 : decode cX7_judge 73 = .ok (.irem, 1) := by decide +kernel
theorem dX7_judge_74 : decode cX7_judge 74 = .ok (.iload 5, 2) := by decide +kernel
theorem dX7_judge_76 : decode cX7_judge 76 = .ok (.bipush 10, 2) := by decide +kernel
theorem dX7_judge_78 : decode cX7_judge 78 = .ok (.irem, 1) := by decide +kernel
theorem dX7_judge_79 : decode cX7_judge 79 = .ok (.invokevirtual 204, 3) := by decide +kernel
theorem dX7_judge_82 : decode cX7_judge 82 = .ok (.ifCond .ne 6, 3) := by decide +kernel
theorem dX7_judge_85 : decode cX7_judge 85 = .ok (.iload 4, 2) := by decide +kernel
theorem dX7_judge_87 : decode cX7_judge 87 = .ok (.ireturn, 1) := by decide +kernel
theorem dX7_judge_88 : decode cX7_judge 88 = .ok (.iinc 4 1, 3) := by decide +kernel
theorem dX7_judge_91 : decode cX7_judge 91 = .ok (.goto (-55), 3) := by decide +kernel
theorem dX7_judge_94 : decode cX7_judge 94 = .ok (.bipush (-9), 2) := by decide +kernel
theorem dX7_judge_96 : decode cX7_judge 96 = .ok (.ireturn, 1) := by decide +kernel
set_option maxRecDepth 20000 in
theorem ggX7_hear_X7_isPlace : GoodIn wsX7_hear wsX7_isPlace := goodIn_r _ [8, 9, 10, 11, 7, 12] (by decide +kernel) (by decide +kernel)
set_option maxRecDepth 20000 in
theorem gX7_hear_X7_isPlace : GoodIn wsX7_hear (va_wsS RX7 176 yX7_isPlace wsX7_isPlace) := goodIn_app (goodIn_of _ (by decide +kernel)) ggX7_hear_X7_isPlace
set_option maxRecDepth 20000 in
theorem ggX7_hear_X7_in : GoodIn wsX7_hear wsX7_in := goodIn_r _ [12] (by decide +kernel) (by decide +kernel)
set_option maxRecDepth 20000 in
theorem gX7_hear_X7_in : GoodIn wsX7_hear (va_wsS RX7 67 yX7_in wsX7_in) := goodIn_app (goodIn_of _ (by decide +kernel)) ggX7_hear_X7_in
theorem dX7_hear_0 : decode cX7_hear 0 = .ok (.iload_n 1, 1) := by decide +kernel
theorem dX7_hear_1 : decode cX7_hear 1 = .ok (.invokestatic 176, 3) := by decide +kernel
theorem dX7_hear_4 : decode cX7_hear 4 = .ok (.ifCond .ne 5, 3) := by decide +kernel
theorem dX7_hear_7 : decode cX7_hear 7 = .ok (.iconst (-1), 1) := by decide +kernel
theorem dX7_hear_8 : decode cX7_hear 8 = .ok (.ireturn, 1) := by decide +kernel
theorem dX7_hear_9 : decode cX7_hear 9 = .ok (.iload_n 2, 1) := by decide +kernel
theorem dX7_hear_10 : decode cX7_hear 10 = .ok (.i2l, 1) := by decide +kernel
theorem dX7_hear_11 : decode cX7_hear 11 = .ok (.lconst 0, 1) := by decide +kernel
theorem dX7_hear_12 : decode cX7_hear 12 = .ok (.lconst 1, 1) := by decide +kernel
theorem dX7_hear_13 : decode cX7_hear 13 = .ok (.invokestatic 67, 3) := by decide +kernel
theorem dX7_hear_16 : decode cX7_hear 16 = .ok (.ifCond .eq 13, 3) := by decide +kernel
theorem dX7_hear_19 : decode cX7_hear 19 = .ok (.iload_n 3, 1) := by decide +kernel
theorem dX7_hear_20 : decode cX7_hear 20 = .ok (.i2l, 1) := by decide +kernel
theorem dX7_hear_21 : decode cX7_hear 21 = .ok (.lconst 0, 1) := by decide +kernel
theorem dX7_hear_22 : decode cX7_hear 22 = .ok (.lconst 1, 1) := by decide +kernel
theorem dX7_hear_23 : decode cX7_hear 23 = .ok (.invokestatic 67, 3) := by decide +kernel
theorem dX7_hear_26 : decode cX7_hear 26 = .ok (.ifCond .ne 6, 3) := by decide +kernel
theorem dX7_hear_29 : decode cX7_hear 29 = .ok (.bipush (-2), 2) := by decide +kernel
theorem dX7_hear_31 : decode cX7_hear 31 = .ok (.ireturn, 1) := by decide +kernel
theorem dX7_hear_32 : decode cX7_hear 32 = .ok (.aload_n 0, 1) := by decide +kernel
theorem dX7_hear_33 : decode cX7_hear 33 = .ok (.getfield 208, 3) := by decide +kernel
theorem dX7_hear_36 : decode cX7_hear 36 = .ok (.bipush 6, 2) := by decide +kernel
theorem dX7_hear_38 : decode cX7_hear 38 = .ok (.if_icmp .ne 6, 3) := by decide +kernel
theorem dX7_hear_41 : decode cX7_hear 41 = .ok (.bipush (-4), 2) := by decide +kernel
theorem dX7_hear_43 : decode cX7_hear 43 = .ok (.ireturn, 1) := by decide +kernel
theorem dX7_hear_44 : decode cX7_hear 44 = .ok (.aload_n 0, 1) := by decide +kernel
theorem dX7_hear_45 : decode cX7_hear 45 = .ok (.getfield 49, 3) := by decide +kernel
theorem dX7_hear_48 : decode cX7_hear 48 = .ok (.aload_n 0, 1) := by decide +kernel
theorem dX7_hear_49 : decode cX7_hear 49 = .ok (.getfield 208, 3) := by decide +kernel
theorem dX7_hear_52 : decode cX7_hear 52 = .ok (.iload_n 1, 1) := by decide +kernel
theorem dX7_hear_53 : decode cX7_hear 53 = .ok (.iastore, 1) := by decide +kernel
theorem dX7_hear_54 : decode cX7_hear 54 = .ok (.aload_n 0, 1) := by decide +kernel
theorem dX7_hear_55 : decode cX7_hear 55 = .ok (.getfield 52, 3) := by decide +kernel
theorem dX7_hear_58 : decode cX7_hear 58 = .ok (.aload_n 0, 1) := by decide +kernel
theorem dX7_hear_59 : decode cX7_hear 59 = .ok (.getfield 208, 3) := by decide +kernel
theorem dX7_hear_62 : decode cX7_hear 62 = .ok (.iload_n 2, 1) := by decide +kernel
theorem dX7_hear_63 : decode cX7_hear 63 = .ok (.iastore, 1) := by decide +kernel
theorem dX7_hear_64 : decode cX7_hear 64 = .ok (.aload_n 0, 1) := by decide +kernel
theorem dX7_hear_65 : decode cX7_hear 65 = .ok (.getfield 55, 3) := by decide +kernel
theorem dX7_hear_68 : decode cX7_hear 68 = .ok (.aload_n 0, 1) := by decide +kernel
theorem dX7_hear_69 : decode cX7_hear 69 = .ok (.getfield 208, 3) := by decide +kernel
theorem dX7_hear_72 : decode cX7_hear 72 = .ok (.iload_n 3, 1) := by decide +kernel
theorem dX7_hear_73 : decode cX7_hear 73 = .ok (.iastore, 1) := by decide +kernel
theorem dX7_hear_74 : decode cX7_hear 74 = .ok (.aload_n 0, 1) := by decide +kernel
theorem dX7_hear_75 : decode cX7_hear 75 = .ok (.dup, 1) := by decide +kernel
theorem dX7_hear_76 : decode cX7_hear 76 = .ok (.getfield 208, 3) := by decide +kernel
theorem dX7_hear_79 : decode cX7_hear 79 = .ok (.iconst 1, 1) := by decide +kernel
theorem dX7_hear_80 : decode cX7_hear 80 = .ok (.iadd, 1) := by decide +kernel
theorem dX7_hear_81 : decode cX7_hear 81 = .ok (.putfield 208, 3) := by decide +kernel
theorem dX7_hear_84 : decode cX7_hear 84 = .ok (.aload_n 0, 1) := by decide +kernel
theorem dX7_hear_85 : decode cX7_hear 85 = .ok (.getfield 208, 3) := by decide +kernel
theorem dX7_hear_88 : decode cX7_hear 88 = .ok (.ireturn, 1) := by decide +kernel
theorem dX7_unhear_0 : decode cX7_unhear 0 = .ok (.aload_n 0, 1) := by decide +kernel
theorem dX7_unhear_1 : decode cX7_unhear 1 = .ok (.getfield 208, 3) := by decide +kernel
theorem dX7_unhear_4 : decode cX7_unhear 4 = .ok (.istore_n 1, 1) := by decide +kernel
theorem dX7_unhear_5 : decode cX7_unhear 5 = .ok (.aload_n 0, 1) := by decide +kernel
theorem dX7_unhear_6 : decode cX7_unhear 6 = .ok (.iconst 0, 1) := by decide +kernel
theorem dX7_unhear_7 : decode cX7_unhear 7 = .ok (.putfield 208, 3) := by decide +kernel
theorem dX7_unhear_10 : decode cX7_unhear 10 = .ok (.iload_n 1, 1) := by decide +kernel
theorem dX7_unhear_11 : decode cX7_unhear 11 = .ok (.ireturn, 1) := by decide +kernel
set_option maxRecDepth 20000 in
theorem ggX7_which_X7_in : GoodIn wsX7_which wsX7_in := goodIn_r _ [8] (by decide +kernel) (by decide +kernel)
set_option maxRecDepth 20000 in
theorem gX7_which_X7_in : GoodIn wsX7_which (va_wsS RX7 67 yX7_in wsX7_in) := goodIn_app (goodIn_of _ (by decide +kernel)) ggX7_which_X7_in
set_option maxRecDepth 20000 in
theorem ggX7_which_X7_far : GoodIn wsX7_which wsX7_far := goodIn_r _ [11] (by decide +kernel) (by decide +kernel)
set_option maxRecDepth 20000 in
theorem gX7_which_X7_far : GoodIn wsX7_which (va_wsS RX7 123 yX7_far wsX7_far) := goodIn_app (goodIn_of _ (by decide +kernel)) ggX7_which_X7_far
theorem dX7_which_0 : decode cX7_which 0 = .ok (.iload_n 1, 1) := by decide +kernel
theorem dX7_which_1 : decode cX7_which 1 = .ok (.i2l, 1) := by decide +kernel
theorem dX7_which_2 : decode cX7_which 2 = .ok (.lconst 0, 1) := by decide +kernel
theorem dX7_which_3 : decode cX7_which 3 = .ok (.lconst 1, 1) := by decide +kernel
theorem dX7_which_4 : decode cX7_which 4 = .ok (.invokestatic 67, 3) := by decide +kernel
theorem dX7_which_7 : decode cX7_which 7 = .ok (.ifCond .ne 6, 3) := by decide +kernel
theorem dX7_which_10 : decode cX7_which 10 = .ok (.bipush (-2), 2) := by decide +kernel
theorem dX7_which_12 : decode cX7_which 12 = .ok (.ireturn, 1) := by decide +kernel
theorem dX7_which_13 : decode cX7_which 13 = .ok (.iconst 0, 1) := by decide +kernel
theorem dX7_which_14 : decode cX7_which 14 = .ok (.istore_n 2, 1) := by decide +kernel
theorem dX7_which_15 : decode cX7_which 15 = .ok (.bipush (-9), 2) := by decide +kernel
theorem dX7_which_17 : decode cX7_which 17 = .ok (.istore_n 3, 1) := by decide +kernel
theorem dX7_which_18 : decode cX7_which 18 = .ok (.iconst 0, 1) := by decide +kernel
theorem dX7_which_19 : decode cX7_which 19 = .ok (.istore 4, 2) := by decide +kernel
theorem dX7_which_21 : decode cX7_which 21 = .ok (.iload 4, 2) := by decide +kernel
theorem dX7_which_23 : decode cX7_which 23 = .ok (.bipush 100, 2) := by decide +kernel
theorem dX7_which_25 : decode cX7_which 25 = .ok (.if_icmp .ge 143, 3) := by decide +kernel
theorem dX7_which_28 : decode cX7_which 28 = .ok (.iconst 1, 1) := by decide +kernel
theorem dX7_which_29 : decode cX7_which 29 = .ok (.istore 5, 2) := by decide +kernel
theorem dX7_which_31 : decode cX7_which 31 = .ok (.iconst 0, 1) := by decide +kernel
theorem dX7_which_32 : decode cX7_which 32 = .ok (.istore 6, 2) := by decide +kernel
theorem dX7_which_34 : decode cX7_which 34 = .ok (.iload 6, 2) := by decide +kernel
theorem dX7_which_36 : decode cX7_which 36 = .ok (.aload_n 0, 1) := by decide +kernel
theorem dX7_which_37 : decode cX7_which 37 = .ok (.getfield 208, 3) := by decide +kernel
theorem dX7_which_40 : decode cX7_which 40 = .ok (.if_icmp .ge 93, 3) := by decide +kernel
theorem dX7_which_43 : decode cX7_which 43 = .ok (.aload_n 0, 1) := by decide +kernel
theorem dX7_which_44 : decode cX7_which 44 = .ok (.getfield 52, 3) := by decide +kernel
theorem dX7_which_47 : decode cX7_which 47 = .ok (.iload 6, 2) := by decide +kernel
theorem dX7_which_49 : decode cX7_which 49 = .ok (.iaload, 1) := by decide +kernel
theorem dX7_which_50 : decode cX7_which 50 = .ok (.iconst 1, 1) := by decide +kernel
theorem dX7_which_51 : decode cX7_which 51 = .ok (.if_icmp .ne 13, 3) := by decide +kernel
theorem dX7_which_54 : decode cX7_which 54 = .ok (.iload 4, 2) := by decide +kernel
theorem dX7_which_56 : decode cX7_which 56 = .ok (.bipush 10, 2) := by decide +kernel
theorem dX7_which_58 : decode cX7_which 58 = .ok (.irem, 1) := by decide +kernel
theorem dX7_which_59 : decode cX7_which 59 = .ok (.iconst 2, 1) := by decide +kernel
theorem dX7_which_60 : decode cX7_which 60 = .ok (.idiv, 1) := by decide +kernel
theorem dX7_which_61 : decode cX7_which 61 = .ok (.goto 8, 3) := by decide +kernel
theorem dX7_which_64 : decode cX7_which 64 = .ok (.iload 4, 2) := by decide +kernel
theorem dX7_which_66 : decode cX7_which 66 = .ok (.bipush 10, 2) := by decide +kernel
theorem dX7_which_68 : decode cX7_which 68 = .ok (.irem, 1) := by decide +kernel
theorem dX7_which_69 : decode cX7_which 69 = .ok (.istore 7, 2) := by decide +kernel
theorem dX7_which_71 : decode cX7_which 71 = .ok (.iload 5, 2) := by decide +kernel
theorem dX7_which_73 : decode cX7_which 73 = .ok (.ifCond .eq 51, 3) := by decide +kernel
theorem dX7_which_76 : decode cX7_which 76 = .ok (.aload_n 0, 1) := by decide +kernel
theorem dX7_which_77 : decode cX7_which 77 = .ok (.getfield 49, 3) := by decide +kernel
theorem dX7_which_80 : decode cX7_which 80 = .ok (.iload 6, 2) := by decide +kernel
theorem dX7_which_82 : decode cX7_which 82 = .ok (.iaload, 1) := by decide +kernel
theorem dX7_which_83 : decode cX7_which 83 = .ok (.iload 4, 2) := by decide +kernel
theorem dX7_which_85 : decode cX7_which 85 = .ok (.bipush 10, 2) := by decide +kernel
theorem dX7_which_87 : decode cX7_which 87 = .ok (.idiv, 1) := by decide +kernel
theorem dX7_which_88 : decode cX7_which 88 = .ok (.invokestatic 123, 3) := by decide +kernel
theorem dX7_which_91 : decode cX7_which 91 = .ok (.iload 7, 2) := by decide +kernel
theorem dX7_which_93 : decode cX7_which 93 = .ok (.if_icmp .gt 7, 3) := by decide +kernel
theorem dX7_which_96 : decode cX7_which 96 = .ok (.iconst 1, 1) := by decide +kernel
theorem dX7_which_97 : decode cX7_which 97 = .ok (.goto 4, 3) := by decide +kernel
theorem dX7_which_100 : decode cX7_which 100 = .ok (.iconst 0, 1) := by decide +kernel
theorem dX7_which_101 : decode cX7_which 101 = .ok (.aload_n 0, 1) := by decide +kernel
theorem dX7_which_102 : decode cX7_which 102 = .ok (.getfield 55, 3) := by decide +kernel
theorem dX7_which_105 : decode cX7_which 105 = .ok (.iload 6, 2) := by decide +kernel
theorem dX7_which_107 : decode cX7_which 107 = .ok (.iaload, 1) := by decide +kernel
theorem dX7_which_108 : decode cX7_which 108 = .ok (.iconst 1, 1) := by decide +kernel
theorem dX7_which_109 : decode cX7_which 109 = .ok (.if_icmp .ne 7, 3) := by decide +kernel
theorem dX7_which_112 : decode cX7_which 112 = .ok (.iconst 1, 1) := by decide +kernel
theorem dX7_which_113 : decode cX7_which 113 = .ok (.goto 4, 3) := by decide +kernel
theorem dX7_which_116 : decode cX7_which 116 = .ok (.iconst 0, 1) := by decide +kernel
theorem dX7_which_117 : decode cX7_which 117 = .ok (.if_icmp .ne 7, 3) := by decide +kernel
theorem dX7_which_120 : decode cX7_which 120 = .ok (.iconst 1, 1) := by decide +kernel
theorem dX7_which_121 : decode cX7_which 121 = .ok (.goto 4, 3) := by decide +kernel
theorem dX7_which_124 : decode cX7_which 124 = .ok (.iconst 0, 1) := by decide +kernel
theorem dX7_which_125 : decode cX7_which 125 = .ok (.istore 5, 2) := by decide +kernel
theorem dX7_which_127 : decode cX7_which 127 = .ok (.iinc 6 1, 3) := by decide +kernel
theorem dX7_which_130 : decode cX7_which 130 = .ok (.goto (-96), 3) := by decide +kernel
theorem dX7_which_133 : decode cX7_which 133 = .ok (.iload 5, 2) := by decide +kernel
theorem dX7_which_135 : decode cX7_which 135 = .ok (.ifCond .eq 12, 3) := by decide +kernel
theorem dX7_which_138 : decode cX7_which 138 = .ok (.iload_n 2, 1) := by decide +kernel
theorem dX7_which_139 : decode cX7_which 139 = .ok (.ifCond .ne 8, 3) := by decide +kernel
theorem dX7_which_142 : decode cX7_which 142 = .ok (.iload 4, 2) := by decide +kernel
theorem dX7_which_144 : decode cX7_which 144 = .ok (.goto 4, 3) := by decide +kernel
theorem dX7_which_147 : decode cX7_which 147 = .ok (.iload_n 3, 1) := by decide +kernel
theorem dX7_which_148 : decode cX7_which 148 = .ok (.istore_n 3, 1) := by decide +kernel
theorem dX7_which_149 : decode cX7_which 149 = .ok (.iload_n 2, 1) := by decide +kernel
theorem dX7_which_150 : decode cX7_which 150 = .ok (.iload 5, 2) := by decide +kernel
theorem dX7_which_152 : decode cX7_which 152 = .ok (.ifCond .eq 7, 3) := by decide +kernel
theorem dX7_which_155 : decode cX7_which 155 = .ok (.iconst 1, 1) := by decide +kernel
theorem dX7_which_156 : decode cX7_which 156 = .ok (.goto 4, 3) := by decide +kernel
theorem dX7_which_159 : decode cX7_which 159 = .ok (.iconst 0, 1) := by decide +kernel
