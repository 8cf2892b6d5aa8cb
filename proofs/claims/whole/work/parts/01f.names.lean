theorem dX3_see_23 : decode cX3_see 23 = .ok (.goto (-16), 3) := by decide +kernel
theorem dX3_see_26 : decode cX3_see 26 = .ok (.iconst 1, 1) := by decide +kernel
theorem dX3_see_27 : decode cX3_see 27 = .ok (.istore_n 3, 1) := by decide +kernel
theorem dX3_see_28 : decode cX3_see 28 = .ok (.aload_n 0, 1) := by decide +kernel
theorem dX3_see_29 : decode cX3_see 29 = .ok (.getfield 50, 3) := by decide +kernel
theorem dX3_see_32 : decode cX3_see 32 = .ok (.iconst 0, 1) := by decide +kernel
theorem dX3_see_33 : decode cX3_see 33 = .ok (.iload_n 1, 1) := by decide +kernel
theorem dX3_see_34 : decode cX3_see 34 = .ok (.iastore, 1) := by decide +kernel
theorem dX3_see_35 : decode cX3_see 35 = .ok (.aload_n 0, 1) := by decide +kernel
theorem dX3_see_36 : decode cX3_see 36 = .ok (.getfield 53, 3) := by decide +kernel
theorem dX3_see_39 : decode cX3_see 39 = .ok (.iconst 0, 1) := by decide +kernel
theorem dX3_see_40 : decode cX3_see 40 = .ok (.iconst 0, 1) := by decide +kernel
theorem dX3_see_41 : decode cX3_see 41 = .ok (.iastore, 1) := by decide +kernel
theorem dX3_see_42 : decode cX3_see 42 = .ok (.iload_n 3, 1) := by decide +kernel
theorem dX3_see_43 : decode cX3_see 43 = .ok (.ifCond .le 220, 3) := by decide +kernel
theorem dX3_see_46 : decode cX3_see 46 = .ok (.aload_n 0, 1) := by decide +kernel
theorem dX3_see_47 : decode cX3_see 47 = .ok (.getfield 50, 3) := by decide +kernel
theorem dX3_see_50 : decode cX3_see 50 = .ok (.iload_n 3, 1) := by decide +kernel
theorem dX3_see_51 : decode cX3_see 51 = .ok (.iconst 1, 1) := by decide +kernel
theorem dX3_see_52 : decode cX3_see 52 = .ok (.isub, 1) := by decide +kernel
theorem dX3_see_53 : decode cX3_see 53 = .ok (.iaload, 1) := by decide +kernel
theorem dX3_see_54 : decode cX3_see 54 = .ok (.istore 4, 2) := by decide +kernel
theorem dX3_see_56 : decode cX3_see 56 = .ok (.bipush 6, 2) := by decide +kernel
theorem dX3_see_58 : decode cX3_see 58 = .ok (.iload 4, 2) := by decide +kernel
theorem dX3_see_60 : decode cX3_see 60 = .ok (.imul, 1) := by decide +kernel
theorem dX3_see_61 : decode cX3_see 61 = .ok (.aload_n 0, 1) := by decide +kernel
theorem dX3_see_62 : decode cX3_see 62 = .ok (.getfield 53, 3) := by decide +kernel
theorem dX3_see_65 : decode cX3_see 65 = .ok (.iload_n 3, 1) := by decide +kernel
theorem dX3_see_66 : decode cX3_see 66 = .ok (.iconst 1, 1) := by decide +kernel
theorem dX3_see_67 : decode cX3_see 67 = .ok (.isub, 1) := by decide +kernel
theorem dX3_see_68 : decode cX3_see 68 = .ok (.iaload, 1) := by decide +kernel
theorem dX3_see_69 : decode cX3_see 69 = .ok (.iadd, 1) := by decide +kernel
theorem dX3_see_70 : decode cX3_see 70 = .ok (.istore 5, 2) := by decide +kernel
theorem dX3_see_72 : decode cX3_see 72 = .ok (.aload_n 0, 1) := by decide +kernel
theorem dX3_see_73 : decode cX3_see 73 = .ok (.getfield 53, 3) := by decide +kernel
theorem dX3_see_76 : decode cX3_see 76 = .ok (.iload_n 3, 1) := by decide +kernel
theorem dX3_see_77 : decode cX3_see 77 = .ok (.iconst 1, 1) := by decide +kernel
theorem dX3_see_78 : decode cX3_see 78 = .ok (.isub, 1) := by decide +kernel
theorem dX3_see_79 : decode cX3_see 79 = .ok (.iaload, 1) := by decide +kernel
theorem dX3_see_80 : decode cX3_see 80 = .ok (.aload_n 0, 1) := by decide +kernel
theorem dX3_see_81 : decode cX3_see 81 = .ok (.getfield 26, 3) := by decide +kernel
theorem dX3_see_84 : decode cX3_see 84 = .ok (.iload 4, 2) := by decide +kernel
theorem dX3_see_86 : decode cX3_see 86 = .ok (.iaload, 1) := by decide +kernel
theorem dX3_see_87 : decode cX3_see 87 = .ok (.if_icmp .ge 7, 3) := by decide +kernel
theorem dX3_see_90 : decode cX3_see 90 = .ok (.iconst 1, 1) := by decide +kernel
theorem dX3_see_91 : decode cX3_see 91 = .ok (.goto 4, 3) := by decide +kernel
theorem dX3_see_94 : decode cX3_see 94 = .ok (.iconst 0, 1) := by decide +kernel
theorem dX3_see_95 : decode cX3_see 95 = .ok (.istore 6, 2) := by decide +kernel
theorem dX3_see_97 : decode cX3_see 97 = .ok (.aload_n 0, 1) := by decide +kernel
theorem dX3_see_98 : decode cX3_see 98 = .ok (.getfield 53, 3) := by decide +kernel
theorem dX3_see_101 : decode cX3_see 101 = .ok (.iload_n 3, 1) := by decide +kernel
theorem dX3_see_102 : decode cX3_see 102 = .ok (.iconst 1, 1) := by decide +kernel
theorem dX3_see_103 : decode cX3_see 103 = .ok (.isub, 1) := by decide +kernel
theorem dX3_see_104 : decode cX3_see 104 = .ok (.aload_n 0, 1) := by decide +kernel
theorem dX3_see_105 : decode cX3_see 105 = .ok (.getfield 53, 3) := by decide +kernel
theorem dX3_see_108 : decode cX3_see 108 = .ok (.iload_n 3, 1) := by decide +kernel
theorem dX3_see_109 : decode cX3_see 109 = .ok (.iconst 1, 1) := by decide +kernel
theorem dX3_see_110 : decode cX3_see 110 = .ok (.isub, 1) := by decide +kernel
theorem dX3_see_111 : decode cX3_see 111 = .ok (.iaload, 1) := by decide +kernel
theorem dX3_see_112 : decode cX3_see 112 = .ok (.iconst 1, 1) := by decide +kernel
theorem dX3_see_113 : decode cX3_see 113 = .ok (.iadd, 1) := by decide +kernel
theorem dX3_see_114 : decode cX3_see 114 = .ok (.iastore, 1) := by decide +kernel
theorem dX3_see_115 : decode cX3_see 115 = .ok (.iload 6, 2) := by decide +kernel
theorem dX3_see_117 : decode cX3_see 117 = .ok (.ifCond .ne 10, 3) := by decide +kernel
theorem dX3_see_120 : decode cX3_see 120 = .ok (.iload_n 3, 1) := by decide +kernel
theorem dX3_see_121 : decode cX3_see 121 = .ok (.iconst 1, 1) := by decide +kernel
theorem dX3_see_122 : decode cX3_see 122 = .ok (.isub, 1) := by decide +kernel
theorem dX3_see_123 : decode cX3_see 123 = .ok (.istore_n 3, 1) := by decide +kernel
theorem dX3_see_124 : decode cX3_see 124 = .ok (.goto 136, 3) := by decide +kernel
theorem dX3_see_127 : decode cX3_see 127 = .ok (.aload_n 0, 1) := by decide +kernel
theorem dX3_see_128 : decode cX3_see 128 = .ok (.getfield 29, 3) := by decide +kernel
theorem dX3_see_131 : decode cX3_see 131 = .ok (.iload 5, 2) := by decide +kernel
theorem dX3_see_133 : decode cX3_see 133 = .ok (.iaload, 1) := by decide +kernel
theorem dX3_see_134 : decode cX3_see 134 = .ok (.iload 4, 2) := by decide +kernel
theorem dX3_see_136 : decode cX3_see 136 = .ok (.if_icmp .ne 22, 3) := by decide +kernel
theorem dX3_see_139 : decode cX3_see 139 = .ok (.aload_n 0, 1) := by decide +kernel
theorem dX3_see_140 : decode cX3_see 140 = .ok (.iload 4, 2) := by decide +kernel
theorem dX3_see_142 : decode cX3_see 142 = .ok (.iload_n 2, 1) := by decide +kernel
theorem dX3_see_143 : decode cX3_see 143 = .ok (.invokevirtual 92, 3) := by decide +kernel
theorem dX3_see_146 : decode cX3_see 146 = .ok (.ifCond .eq 114, 3) := by decide +kernel
theorem dX3_see_149 : decode cX3_see 149 = .ok (.aload_n 0, 1) := by decide +kernel
theorem dX3_see_150 : decode cX3_see 150 = .ok (.iload 4, 2) := by decide +kernel
theorem dX3_see_152 : decode cX3_see 152 = .ok (.invokevirtual 96, 3) := by decide +kernel
theorem dX3_see_155 : decode cX3_see 155 = .ok (.goto 105, 3) := by decide +kernel
theorem dX3_see_158 : decode cX3_see 158 = .ok (.aload_n 0, 1) := by decide +kernel
theorem dX3_see_159 : decode cX3_see 159 = .ok (.getfield 13, 3) := by decide +kernel
theorem dX3_see_162 : decode cX3_see 162 = .ok (.aload_n 0, 1) := by decide +kernel
theorem dX3_see_163 : decode cX3_see 163 = .ok (.getfield 29, 3) := by decide +kernel
theorem dX3_see_166 : decode cX3_see 166 = .ok (.iload 5, 2) := by decide +kernel
theorem dX3_see_168 : decode cX3_see 168 = .ok (.iaload, 1) := by decide +kernel
theorem dX3_see_169 : decode cX3_see 169 = .ok (.baload, 1) := by decide +kernel
theorem dX3_see_170 : decode cX3_see 170 = .ok (.ifCond .eq 90, 3) := by decide +kernel
theorem dX3_see_173 : decode cX3_see 173 = .ok (.aload_n 0, 1) := by decide +kernel
theorem dX3_see_174 : decode cX3_see 174 = .ok (.getfield 44, 3) := by decide +kernel
theorem dX3_see_177 : decode cX3_see 177 = .ok (.aload_n 0, 1) := by decide +kernel
theorem dX3_see_178 : decode cX3_see 178 = .ok (.getfield 29, 3) := by decide +kernel
theorem dX3_see_181 : decode cX3_see 181 = .ok (.iload 5, 2) := by decide +kernel
theorem dX3_see_183 : decode cX3_see 183 = .ok (.iaload, 1) := by decide +kernel
theorem dX3_see_184 : decode cX3_see 184 = .ok (.baload, 1) := by decide +kernel
theorem dX3_see_185 : decode cX3_see 185 = .ok (.ifCond .ne 75, 3) := by decide +kernel
theorem dX3_see_188 : decode cX3_see 188 = .ok (.aload_n 0, 1) := by decide +kernel
theorem dX3_see_189 : decode cX3_see 189 = .ok (.getfield 32, 3) := by decide +kernel
theorem dX3_see_192 : decode cX3_see 192 = .ok (.iload 5, 2) := by decide +kernel
theorem dX3_see_194 : decode cX3_see 194 = .ok (.iaload, 1) := by decide +kernel
theorem dX3_see_195 : decode cX3_see 195 = .ok (.iload_n 2, 1) := by decide +kernel
theorem dX3_see_196 : decode cX3_see 196 = .ok (.ishr, 1) := by decide +kernel
theorem dX3_see_197 : decode cX3_see 197 = .ok (.iconst 1, 1) := by decide +kernel
theorem dX3_see_198 : decode cX3_see 198 = .ok (.iand, 1) := by decide +kernel
theorem dX3_see_199 : decode cX3_see 199 = .ok (.iconst 1, 1) := by decide +kernel
theorem dX3_see_200 : decode cX3_see 200 = .ok (.if_icmp .ne 60, 3) := by decide +kernel
theorem dX3_see_203 : decode cX3_see 203 = .ok (.iload_n 3, 1) := by decide +kernel
theorem dX3_see_204 : decode cX3_see 204 = .ok (.iconst 1, 1) := by decide +kernel
theorem dX3_see_205 : decode cX3_see 205 = .ok (.if_icmp .eq 18, 3) := by decide +kernel
theorem dX3_see_208 : decode cX3_see 208 = .ok (.aload_n 0, 1) := by decide +kernel
theorem dX3_see_209 : decode cX3_see 209 = .ok (.getfield 35, 3) := by decide +kernel
theorem dX3_see_212 : decode cX3_see 212 = .ok (.iload 5, 2) := by decide +kernel
theorem dX3_see_214 : decode cX3_see 214 = .ok (.iaload, 1) := by decide +kernel
theorem dX3_see_215 : decode cX3_see 215 = .ok (.iload_n 2, 1) := by decide +kernel
theorem dX3_see_216 : decode cX3_see 216 = .ok (.ishr, 1) := by decide +kernel
theorem dX3_see_217 : decode cX3_see 217 = .ok (.iconst 1, 1) := by decide +kernel
theorem dX3_see_218 : decode cX3_see 218 = .ok (.iand, 1) := by decide +kernel
theorem dX3_see_219 : decode cX3_see 219 = .ok (.iconst 1, 1) := by decide +kernel
theorem dX3_see_220 : decode cX3_see 220 = .ok (.if_icmp .ne 40, 3) := by decide +kernel
theorem dX3_see_223 : decode cX3_see 223 = .ok (.aload_n 0, 1) := by decide +kernel
theorem dX3_see_224 : decode cX3_see 224 = .ok (.getfield 44, 3) := by decide +kernel
theorem dX3_see_227 : decode cX3_see 227 = .ok (.aload_n 0, 1) := by decide +kernel
theorem dX3_see_228 : decode cX3_see 228 = .ok (.getfield 29, 3) := by decide +kernel
theorem dX3_see_231 : decode cX3_see 231 = .ok (.iload 5, 2) := by decide +kernel
theorem dX3_see_233 : decode cX3_see 233 = .ok (.iaload, 1) := by decide +kernel
theorem dX3_see_234 : decode cX3_see 234 = .ok (.iconst 1, 1) := by decide +kernel
theorem dX3_see_235 : decode cX3_see 235 = .ok (.bastore, 1) := by decide +kernel
theorem dX3_see_236 : decode cX3_see 236 = .ok (.aload_n 0, 1) := by decide +kernel
theorem dX3_see_237 : decode cX3_see 237 = .ok (.getfield 50, 3) := by decide +kernel
theorem dX3_see_240 : decode cX3_see 240 = .ok (.iload_n 3, 1) := by decide +kernel
theorem dX3_see_241 : decode cX3_see 241 = .ok (.aload_n 0, 1) := by decide +kernel
theorem dX3_see_242 : decode cX3_see 242 = .ok (.getfield 29, 3) := by decide +kernel
theorem dX3_see_245 : decode cX3_see 245 = .ok (.iload 5, 2) := by decide +kernel
theorem dX3_see_247 : decode cX3_see 247 = .ok (.iaload, 1) := by decide +kernel
theorem dX3_see_248 : decode cX3_see 248 = .ok (.iastore, 1) := by decide +kernel
theorem dX3_see_249 : decode cX3_see 249 = .ok (.aload_n 0, 1) := by decide +kernel
theorem dX3_see_250 : decode cX3_see 250 = .ok (.getfield 53, 3) := by decide +kernel
theorem dX3_see_253 : decode cX3_see 253 = .ok (.iload_n 3, 1) := by decide +kernel
theorem dX3_see_254 : decode cX3_see 254 = .ok (.iconst 0, 1) := by decide +kernel
theorem dX3_see_255 : decode cX3_see 255 = .ok (.iastore, 1) := by decide +kernel
theorem dX3_see_256 : decode cX3_see 256 = .ok (.iload_n 3, 1) := by decide +kernel
theorem dX3_see_257 : decode cX3_see 257 = .ok (.iconst 1, 1) := by decide +kernel
theorem dX3_see_258 : decode cX3_see 258 = .ok (.iadd, 1) := by decide +kernel
theorem dX3_see_259 : decode cX3_see 259 = .ok (.istore_n 3, 1) := by decide +kernel
theorem dX3_see_260 : decode cX3_see 260 = .ok (.goto (-218), 3) := by decide +kernel
theorem dX3_see_263 : decode cX3_see 263 = .ok (.return_, 1) := by decide +kernel
set_option maxRecDepth 20000 in
theorem ggX3_holder_X3_see : GoodIn wsX3_holder wsX3_see := goodIn_r _ [8, 1, 9, 10, 11, 12, 13, 14, 15, 16, 17, 18, 19, 7, 20, 2, 21, 22, 23, 24, 3, 25, 26, 27, 28, 29, 30, 31, 32, 33, 34, 35, 36, 37, 38, 39, 40, 41, 42, 43] (by decide +kernel) (by decide +kernel)
set_option maxRecDepth 20000 in
theorem gX3_holder_X3_see : GoodIn wsX3_holder (wsV RX3 100 RX3 yX3_see wsX3_see) := goodIn_app (goodIn_of _ (by decide +kernel)) ggX3_holder_X3_see
theorem dX3_holder_0 : decode cX3_holder 0 = .ok (.iload_n 2, 1) := by decide +kernel
theorem dX3_holder_1 : decode cX3_holder 1 = .ok (.iconst 2, 1) := by decide +kernel
theorem dX3_holder_2 : decode cX3_holder 2 = .ok (.if_icmp .ge 6, 3) := by decide +kernel
theorem dX3_holder_5 : decode cX3_holder 5 = .ok (.bipush 8, 2) := by decide +kernel
theorem dX3_holder_7 : decode cX3_holder 7 = .ok (.ireturn, 1) := by decide +kernel
theorem dX3_holder_8 : decode cX3_holder 8 = .ok (.aload_n 0, 1) := by decide +kernel
theorem dX3_holder_9 : decode cX3_holder 9 = .ok (.iload_n 1, 1) := by decide +kernel
theorem dX3_holder_10 : decode cX3_holder 10 = .ok (.iload_n 2, 1) := by decide +kernel
theorem dX3_holder_11 : decode cX3_holder 11 = .ok (.iconst 4, 1) := by decide +kernel
theorem dX3_holder_12 : decode cX3_holder 12 = .ok (.idiv, 1) := by decide +kernel
theorem dX3_holder_13 : decode cX3_holder 13 = .ok (.invokevirtual 100, 3) := by decide +kernel
theorem dX3_holder_16 : decode cX3_holder 16 = .ok (.iconst (-1), 1) := by decide +kernel
theorem dX3_holder_17 : decode cX3_holder 17 = .ok (.istore_n 3, 1) := by decide +kernel
theorem dX3_holder_18 : decode cX3_holder 18 = .ok (.aload_n 0, 1) := by decide +kernel
theorem dX3_holder_19 : decode cX3_holder 19 = .ok (.getfield 89, 3) := by decide +kernel
theorem dX3_holder_22 : decode cX3_holder 22 = .ok (.iconst 1, 1) := by decide +kernel
theorem dX3_holder_23 : decode cX3_holder 23 = .ok (.isub, 1) := by decide +kernel
theorem dX3_holder_24 : decode cX3_holder 24 = .ok (.istore 4, 2) := by decide +kernel
theorem dX3_holder_26 : decode cX3_holder 26 = .ok (.iload 4, 2) := by decide +kernel
theorem dX3_holder_28 : decode cX3_holder 28 = .ok (.ifCond .lt 43, 3) := by decide +kernel
theorem dX3_holder_31 : decode cX3_holder 31 = .ok (.aload_n 0, 1) := by decide +kernel
theorem dX3_holder_32 : decode cX3_holder 32 = .ok (.getfield 19, 3) := by decide +kernel
theorem dX3_holder_35 : decode cX3_holder 35 = .ok (.bipush 24, 2) := by decide +kernel
theorem dX3_holder_37 : decode cX3_holder 37 = .ok (.aload_n 0, 1) := by decide +kernel
theorem dX3_holder_38 : decode cX3_holder 38 = .ok (.getfield 41, 3) := by decide +kernel
theorem dX3_holder_41 : decode cX3_holder 41 = .ok (.iload 4, 2) := by decide +kernel
theorem dX3_holder_43 : decode cX3_holder 43 = .ok (.iaload, 1) := by decide +kernel
theorem dX3_holder_44 : decode cX3_holder 44 = .ok (.imul, 1) := by decide +kernel
theorem dX3_holder_45 : decode cX3_holder 45 = .ok (.iload_n 2, 1) := by decide +kernel
theorem dX3_holder_46 : decode cX3_holder 46 = .ok (.iadd, 1) := by decide +kernel
theorem dX3_holder_47 : decode cX3_holder 47 = .ok (.iaload, 1) := by decide +kernel
theorem dX3_holder_48 : decode cX3_holder 48 = .ok (.bipush (-3), 2) := by decide +kernel
theorem dX3_holder_50 : decode cX3_holder 50 = .ok (.if_icmp .eq 13, 3) := by decide +kernel
theorem dX3_holder_53 : decode cX3_holder 53 = .ok (.aload_n 0, 1) := by decide +kernel
theorem dX3_holder_54 : decode cX3_holder 54 = .ok (.getfield 41, 3) := by decide +kernel
theorem dX3_holder_57 : decode cX3_holder 57 = .ok (.iload 4, 2) := by decide +kernel
theorem dX3_holder_59 : decode cX3_holder 59 = .ok (.iaload, 1) := by decide +kernel
theorem dX3_holder_60 : decode cX3_holder 60 = .ok (.goto 4, 3) := by decide +kernel
theorem dX3_holder_63 : decode cX3_holder 63 = .ok (.iload_n 3, 1) := by decide +kernel
theorem dX3_holder_64 : decode cX3_holder 64 = .ok (.istore_n 3, 1) := by decide +kernel
theorem dX3_holder_65 : decode cX3_holder 65 = .ok (.iinc 4 (-1), 3) := by decide +kernel
theorem dX3_holder_68 : decode cX3_holder 68 = .ok (.goto (-42), 3) := by decide +kernel
theorem dX3_holder_71 : decode cX3_holder 71 = .ok (.iload_n 3, 1) := by decide +kernel
theorem dX3_holder_72 : decode cX3_holder 72 = .ok (.ireturn, 1) := by decide +kernel
set_option maxRecDepth 20000 in
theorem ggX3_needs_X3_holder : GoodIn wsX3_needs wsX3_holder := goodIn_r _ [8, 9, 3, 10, 11, 12, 13, 7, 14, 15, 16, 17, 18, 19, 20, 21, 22, 23, 24, 25, 26, 27, 28, 29, 30, 31, 32, 33, 34, 35, 36, 37, 38, 39, 40, 41, 42, 43, 44, 45, 46, 47, 48, 49] (by decide +kernel) (by decide +kernel)
set_option maxRecDepth 20000 in
theorem gX3_needs_X3_holder : GoodIn wsX3_needs (wsV RX3 104 RX3 yX3_holder wsX3_holder) := goodIn_app (goodIn_of _ (by decide +kernel)) ggX3_needs_X3_holder
theorem dX3_needs_0 : decode cX3_needs 0 = .ok (.iconst 0, 1) := by decide +kernel
theorem dX3_needs_1 : decode cX3_needs 1 = .ok (.istore_n 3, 1) := by decide +kernel
theorem dX3_needs_2 : decode cX3_needs 2 = .ok (.iload_n 1, 1) := by decide +kernel
theorem dX3_needs_3 : decode cX3_needs 3 = .ok (.istore 4, 2) := by decide +kernel
theorem dX3_needs_5 : decode cX3_needs 5 = .ok (.iload_n 2, 1) := by decide +kernel
theorem dX3_needs_6 : decode cX3_needs 6 = .ok (.istore 5, 2) := by decide +kernel
theorem dX3_needs_8 : decode cX3_needs 8 = .ok (.iload 4, 2) := by decide +kernel
theorem dX3_needs_10 : decode cX3_needs 10 = .ok (.bipush 8, 2) := by decide +kernel
theorem dX3_needs_12 : decode cX3_needs 12 = .ok (.if_icmp .ge 151, 3) := by decide +kernel
theorem dX3_needs_15 : decode cX3_needs 15 = .ok (.aload_n 0, 1) := by decide +kernel
theorem dX3_needs_16 : decode cX3_needs 16 = .ok (.getfield 23, 3) := by decide +kernel
theorem dX3_needs_19 : decode cX3_needs 19 = .ok (.bipush 24, 2) := by decide +kernel
theorem dX3_needs_21 : decode cX3_needs 21 = .ok (.iload 4, 2) := by decide +kernel
theorem dX3_needs_23 : decode cX3_needs 23 = .ok (.imul, 1) := by decide +kernel
theorem dX3_needs_24 : decode cX3_needs 24 = .ok (.iload 5, 2) := by decide +kernel
theorem dX3_needs_26 : decode cX3_needs 26 = .ok (.iadd, 1) := by decide +kernel
theorem dX3_needs_27 : decode cX3_needs 27 = .ok (.iaload, 1) := by decide +kernel
theorem dX3_needs_28 : decode cX3_needs 28 = .ok (.ifCond .ge 135, 3) := by decide +kernel
theorem dX3_needs_31 : decode cX3_needs 31 = .ok (.bipush 24, 2) := by decide +kernel
theorem dX3_needs_33 : decode cX3_needs 33 = .ok (.iload 4, 2) := by decide +kernel
theorem dX3_needs_35 : decode cX3_needs 35 = .ok (.imul, 1) := by decide +kernel
theorem dX3_needs_36 : decode cX3_needs 36 = .ok (.iload 5, 2) := by decide +kernel
theorem dX3_needs_38 : decode cX3_needs 38 = .ok (.iadd, 1) := by decide +kernel
theorem dX3_needs_39 : decode cX3_needs 39 = .ok (.istore 6, 2) := by decide +kernel
theorem dX3_needs_41 : decode cX3_needs 41 = .ok (.iconst 0, 1) := by decide +kernel
theorem dX3_needs_42 : decode cX3_needs 42 = .ok (.istore 7, 2) := by decide +kernel
theorem dX3_needs_44 : decode cX3_needs 44 = .ok (.iconst 0, 1) := by decide +kernel
theorem dX3_needs_45 : decode cX3_needs 45 = .ok (.istore 8, 2) := by decide +kernel
theorem dX3_needs_47 : decode cX3_needs 47 = .ok (.iload 8, 2) := by decide +kernel
theorem dX3_needs_49 : decode cX3_needs 49 = .ok (.iload_n 3, 1) := by decide +kernel
theorem dX3_needs_50 : decode cX3_needs 50 = .ok (.if_icmp .ge 33, 3) := by decide +kernel
theorem dX3_needs_53 : decode cX3_needs 53 = .ok (.iload 7, 2) := by decide +kernel
theorem dX3_needs_55 : decode cX3_needs 55 = .ok (.ifCond .ne 15, 3) := by decide +kernel
theorem dX3_needs_58 : decode cX3_needs 58 = .ok (.aload_n 0, 1) := by decide +kernel
theorem dX3_needs_59 : decode cX3_needs 59 = .ok (.getfield 56, 3) := by decide +kernel
theorem dX3_needs_62 : decode cX3_needs 62 = .ok (.iload 8, 2) := by decide +kernel
theorem dX3_needs_64 : decode cX3_needs 64 = .ok (.iaload, 1) := by decide +kernel
theorem dX3_needs_65 : decode cX3_needs 65 = .ok (.iload 6, 2) := by decide +kernel
theorem dX3_needs_67 : decode cX3_needs 67 = .ok (.if_icmp .ne 7, 3) := by decide +kernel
theorem dX3_needs_70 : decode cX3_needs 70 = .ok (.iconst 1, 1) := by decide +kernel
theorem dX3_needs_71 : decode cX3_needs 71 = .ok (.goto 4, 3) := by decide +kernel
theorem dX3_needs_74 : decode cX3_needs 74 = .ok (.iconst 0, 1) := by decide +kernel
theorem dX3_needs_75 : decode cX3_needs 75 = .ok (.istore 7, 2) := by decide +kernel
theorem dX3_needs_77 : decode cX3_needs 77 = .ok (.iinc 8 1, 3) := by decide +kernel
theorem dX3_needs_80 : decode cX3_needs 80 = .ok (.goto (-33), 3) := by decide +kernel
theorem dX3_needs_83 : decode cX3_needs 83 = .ok (.aload_n 0, 1) := by decide +kernel
theorem dX3_needs_84 : decode cX3_needs 84 = .ok (.getfield 19, 3) := by decide +kernel
theorem dX3_needs_87 : decode cX3_needs 87 = .ok (.iload 6, 2) := by decide +kernel
theorem dX3_needs_89 : decode cX3_needs 89 = .ok (.iaload, 1) := by decide +kernel
theorem dX3_needs_90 : decode cX3_needs 90 = .ok (.bipush (-2), 2) := by decide +kernel
theorem dX3_needs_92 : decode cX3_needs 92 = .ok (.if_icmp .eq 14, 3) := by decide +kernel
theorem dX3_needs_95 : decode cX3_needs 95 = .ok (.iload 7, 2) := by decide +kernel
theorem dX3_needs_97 : decode cX3_needs 97 = .ok (.ifCond .ne 9, 3) := by decide +kernel
theorem dX3_needs_100 : decode cX3_needs 100 = .ok (.iload_n 3, 1) := by decide +kernel
theorem dX3_needs_101 : decode cX3_needs 101 = .ok (.bipush 10, 2) := by decide +kernel
theorem dX3_needs_103 : decode cX3_needs 103 = .ok (.if_icmp .lt 5, 3) := by decide +kernel
theorem dX3_needs_106 : decode cX3_needs 106 = .ok (.iconst (-1), 1) := by decide +kernel
theorem dX3_needs_107 : decode cX3_needs 107 = .ok (.ireturn, 1) := by decide +kernel
theorem dX3_needs_108 : decode cX3_needs 108 = .ok (.aload_n 0, 1) := by decide +kernel
theorem dX3_needs_109 : decode cX3_needs 109 = .ok (.getfield 56, 3) := by decide +kernel
theorem dX3_needs_112 : decode cX3_needs 112 = .ok (.iload_n 3, 1) := by decide +kernel
theorem dX3_needs_113 : decode cX3_needs 113 = .ok (.iload 6, 2) := by decide +kernel
theorem dX3_needs_115 : decode cX3_needs 115 = .ok (.iastore, 1) := by decide +kernel
theorem dX3_needs_116 : decode cX3_needs 116 = .ok (.iload_n 3, 1) := by decide +kernel
theorem dX3_needs_117 : decode cX3_needs 117 = .ok (.iconst 1, 1) := by decide +kernel
theorem dX3_needs_118 : decode cX3_needs 118 = .ok (.iadd, 1) := by decide +kernel
theorem dX3_needs_119 : decode cX3_needs 119 = .ok (.istore_n 3, 1) := by decide +kernel
theorem dX3_needs_120 : decode cX3_needs 120 = .ok (.aload_n 0, 1) := by decide +kernel
theorem dX3_needs_121 : decode cX3_needs 121 = .ok (.getfield 19, 3) := by decide +kernel
theorem dX3_needs_124 : decode cX3_needs 124 = .ok (.iload 6, 2) := by decide +kernel
theorem dX3_needs_126 : decode cX3_needs 126 = .ok (.iaload, 1) := by decide +kernel
theorem dX3_needs_127 : decode cX3_needs 127 = .ok (.istore 8, 2) := by decide +kernel
theorem dX3_needs_129 : decode cX3_needs 129 = .ok (.iload 8, 2) := by decide +kernel
theorem dX3_needs_131 : decode cX3_needs 131 = .ok (.ifCond .ge 8, 3) := by decide +kernel
theorem dX3_needs_134 : decode cX3_needs 134 = .ok (.bipush 8, 2) := by decide +kernel
theorem dX3_needs_136 : decode cX3_needs 136 = .ok (.goto 11, 3) := by decide +kernel
theorem dX3_needs_139 : decode cX3_needs 139 = .ok (.aload_n 0, 1) := by decide +kernel
theorem dX3_needs_140 : decode cX3_needs 140 = .ok (.iload 4, 2) := by decide +kernel
theorem dX3_needs_142 : decode cX3_needs 142 = .ok (.iload 8, 2) := by decide +kernel
theorem dX3_needs_144 : decode cX3_needs 144 = .ok (.invokevirtual 104, 3) := by decide +kernel
theorem dX3_needs_147 : decode cX3_needs 147 = .ok (.istore 4, 2) := by decide +kernel
theorem dX3_needs_149 : decode cX3_needs 149 = .ok (.iload 4, 2) := by decide +kernel
theorem dX3_needs_151 : decode cX3_needs 151 = .ok (.ifCond .ge 5, 3) := by decide +kernel
theorem dX3_needs_154 : decode cX3_needs 154 = .ok (.iconst (-1), 1) := by decide +kernel
theorem dX3_needs_155 : decode cX3_needs 155 = .ok (.ireturn, 1) := by decide +kernel
theorem dX3_needs_156 : decode cX3_needs 156 = .ok (.iload 8, 2) := by decide +kernel
theorem dX3_needs_158 : decode cX3_needs 158 = .ok (.istore 5, 2) := by decide +kernel
theorem dX3_needs_160 : decode cX3_needs 160 = .ok (.goto (-152), 3) := by decide +kernel
theorem dX3_needs_163 : decode cX3_needs 163 = .ok (.iload_n 3, 1) := by decide +kernel
theorem dX3_needs_164 : decode cX3_needs 164 = .ok (.ireturn, 1) := by decide +kernel
set_option maxRecDepth 20000 in
theorem ggX3_define_X3_holder : GoodIn wsX3_define wsX3_holder := goodIn_r _ [8, 9, 1, 10, 11, 12, 13, 7, 14, 15, 16, 17, 18, 19, 20, 21, 22, 23, 24, 25, 26, 27, 28, 29, 30, 31, 32, 33, 34, 35, 36, 37, 38, 39, 40, 41, 42, 43, 44, 45, 46, 47, 48, 49] (by decide +kernel) (by decide +kernel)
set_option maxRecDepth 20000 in
theorem gX3_define_X3_holder : GoodIn wsX3_define (wsV RX3 104 RX3 yX3_holder wsX3_holder) := goodIn_app (goodIn_of _ (by decide +kernel)) ggX3_define_X3_holder
theorem dX3_define_0 : decode cX3_define 0 = .ok (.aload_n 0, 1) := by decide +kernel
theorem dX3_define_1 : decode cX3_define 1 = .ok (.getfield 19, 3) := by decide +kernel
theorem dX3_define_4 : decode cX3_define 4 = .ok (.iload_n 1, 1) := by decide +kernel
theorem dX3_define_5 : decode cX3_define 5 = .ok (.iaload, 1) := by decide +kernel
theorem dX3_define_6 : decode cX3_define 6 = .ok (.istore_n 2, 1) := by decide +kernel
theorem dX3_define_7 : decode cX3_define 7 = .ok (.aload_n 0, 1) := by decide +kernel
theorem dX3_define_8 : decode cX3_define 8 = .ok (.getfield 23, 3) := by decide +kernel
theorem dX3_define_11 : decode cX3_define 11 = .ok (.iload_n 1, 1) := by decide +kernel
theorem dX3_define_12 : decode cX3_define 12 = .ok (.iload_n 2, 1) := by decide +kernel
theorem dX3_define_13 : decode cX3_define 13 = .ok (.ifCond .ge 8, 3) := by decide +kernel
theorem dX3_define_16 : decode cX3_define 16 = .ok (.bipush 9, 2) := by decide +kernel
theorem dX3_define_18 : decode cX3_define 18 = .ok (.goto 12, 3) := by decide +kernel
theorem dX3_define_21 : decode cX3_define 21 = .ok (.aload_n 0, 1) := by decide +kernel
theorem dX3_define_22 : decode cX3_define 22 = .ok (.iload_n 1, 1) := by decide +kernel
theorem dX3_define_23 : decode cX3_define 23 = .ok (.bipush 24, 2) := by decide +kernel
theorem dX3_define_25 : decode cX3_define 25 = .ok (.idiv, 1) := by decide +kernel
theorem dX3_define_26 : decode cX3_define 26 = .ok (.iload_n 2, 1) := by decide +kernel
theorem dX3_define_27 : decode cX3_define 27 = .ok (.invokevirtual 104, 3) := by decide +kernel
theorem dX3_define_30 : decode cX3_define 30 = .ok (.iastore, 1) := by decide +kernel
theorem dX3_define_31 : decode cX3_define 31 = .ok (.aload_n 0, 1) := by decide +kernel
theorem dX3_define_32 : decode cX3_define 32 = .ok (.aload_n 0, 1) := by decide +kernel
theorem dX3_define_33 : decode cX3_define 33 = .ok (.getfield 86, 3) := by decide +kernel
theorem dX3_define_36 : decode cX3_define 36 = .ok (.iconst 1, 1) := by decide +kernel
theorem dX3_define_37 : decode cX3_define 37 = .ok (.iadd, 1) := by decide +kernel
theorem dX3_define_38 : decode cX3_define 38 = .ok (.putfield 86, 3) := by decide +kernel
theorem dX3_define_41 : decode cX3_define 41 = .ok (.return_, 1) := by decide +kernel
set_option maxRecDepth 20000 in
theorem ggX3_find_X3_isLoaded : GoodIn wsX3_find wsX3_isLoaded := goodIn_r _ [6, 7, 8, 9, 5, 10, 11, 12, 13, 55, 56, 57, 58, 59, 60, 61, 62, 63, 64, 65, 66, 67, 68, 69, 70, 71, 72, 73] (by decide +kernel) (by decide +kernel)
set_option maxRecDepth 20000 in
theorem gX3_find_X3_isLoaded : GoodIn wsX3_find (wsV RX3 80 RX3 yX3_isLoaded wsX3_isLoaded) := goodIn_app (goodIn_of _ (by decide +kernel)) ggX3_find_X3_isLoaded
set_option maxRecDepth 20000 in
theorem ggX3_find_X3_in : GoodIn wsX3_find wsX3_in := goodIn_r _ [13] (by decide +kernel) (by decide +kernel)
set_option maxRecDepth 20000 in
theorem gX3_find_X3_in : GoodIn wsX3_find (va_wsS RX3 63 yX3_in wsX3_in) := goodIn_app (goodIn_of _ (by decide +kernel)) ggX3_find_X3_in
set_option maxRecDepth 20000 in
theorem ggX3_find_X3_holder : GoodIn wsX3_find wsX3_holder := goodIn_r _ [17, 18, 19, 20, 21, 22, 23, 5, 24, 25, 26, 27, 28, 29, 7, 30, 31, 32, 33, 34, 35, 36, 37, 38, 39, 55, 56, 57, 58, 59, 60, 61, 62, 63, 64, 65, 66, 67, 68, 69, 70, 71, 72, 73] (by decide +kernel) (by decide +kernel)
set_option maxRecDepth 20000 in
theorem gX3_find_X3_holder : GoodIn wsX3_find (wsV RX3 104 RX3 yX3_holder wsX3_holder) := goodIn_app (goodIn_of _ (by decide +kernel)) ggX3_find_X3_holder
set_option maxRecDepth 20000 in
theorem ggX3_find_X3_needs : GoodIn wsX3_find wsX3_needs := goodIn_r _ [43, 44, 1, 19, 14, 15, 16, 5, 17, 18, 20, 21, 22, 23, 24, 25, 26, 27, 28, 29, 7, 30, 31, 32, 33, 34, 35, 36, 37, 38, 39, 55, 56, 57, 58, 59, 60, 61, 62, 63, 64, 65, 66, 67, 68, 69, 70, 71, 72, 73] (by decide +kernel) (by decide +kernel)
set_option maxRecDepth 20000 in
theorem gX3_find_X3_needs : GoodIn wsX3_find (wsV RX3 108 RX3 yX3_needs wsX3_needs) := goodIn_app (goodIn_of _ (by decide +kernel)) ggX3_find_X3_needs
set_option maxRecDepth 20000 in
theorem ggX3_find_X3_throwsBy : GoodIn wsX3_find wsX3_throwsBy := goodIn_r _ [48, 49, 55, 56, 57, 58, 59, 60, 61, 62, 63, 64, 65, 66, 67, 68, 69, 70, 71, 72, 73] (by decide +kernel) (by decide +kernel)
set_option maxRecDepth 20000 in
theorem gX3_find_X3_throwsBy : GoodIn wsX3_find (wsV RX3 71 RX3 yX3_throwsBy wsX3_throwsBy) := goodIn_app (goodIn_of _ (by decide +kernel)) ggX3_find_X3_throwsBy
set_option maxRecDepth 20000 in
theorem ggX3_find_X3_define : GoodIn wsX3_find wsX3_define := goodIn_r _ [53, 19, 44, 54, 14, 15, 16, 5, 17, 18, 20, 21, 22, 23, 24, 25, 26, 27, 28, 29, 7, 30, 31, 32, 33, 34, 35, 36, 37, 38, 39, 55, 56, 57, 58, 59, 60, 61, 62, 63, 64, 65, 66, 67, 68, 69, 70, 71, 72, 73] (by decide +kernel) (by decide +kernel)
set_option maxRecDepth 20000 in
theorem gX3_find_X3_define : GoodIn wsX3_find (wsV RX3 111 RX3 yX3_define wsX3_define) := goodIn_app (goodIn_of _ (by decide +kernel)) ggX3_find_X3_define
theorem dX3_find_0 : decode cX3_find 0 = .ok (.aload_n 0, 1) := by decide +kernel
theorem dX3_find_1 : decode cX3_find 1 = .ok (.iload_n 1, 1) := by decide +kernel
theorem dX3_find_2 : decode cX3_find 2 = .ok (.invokevirtual 80, 3) := by decide +kernel
theorem dX3_find_5 : decode cX3_find 5 = .ok (.ifCond .eq 17, 3) := by decide +kernel
theorem dX3_find_8 : decode cX3_find 8 = .ok (.iload_n 2, 1) := by decide +kernel
theorem dX3_find_9 : decode cX3_find 9 = .ok (.iconst 0, 1) := by decide +kernel
theorem dX3_find_10 : decode cX3_find 10 = .ok (.bipush 23, 2) := by decide +kernel
theorem dX3_find_12 : decode cX3_find 12 = .ok (.invokestatic 63, 3) := by decide +kernel
theorem dX3_find_15 : decode cX3_find 15 = .ok (.ifCond .eq 7, 3) := by decide +kernel
theorem dX3_find_18 : decode cX3_find 18 = .ok (.iconst 1, 1) := by decide +kernel
theorem dX3_find_19 : decode cX3_find 19 = .ok (.goto 4, 3) := by decide +kernel
theorem dX3_find_22 : decode cX3_find 22 = .ok (.iconst 0, 1) := by decide +kernel
theorem dX3_find_23 : decode cX3_find 23 = .ok (.istore_n 3, 1) := by decide +kernel
theorem dX3_find_24 : decode cX3_find 24 = .ok (.iload_n 3, 1) := by decide +kernel
theorem dX3_find_25 : decode cX3_find 25 = .ok (.ifCond .eq 12, 3) := by decide +kernel
theorem dX3_find_28 : decode cX3_find 28 = .ok (.aload_n 0, 1) := by decide +kernel
theorem dX3_find_29 : decode cX3_find 29 = .ok (.iload_n 1, 1) := by decide +kernel
theorem dX3_find_30 : decode cX3_find 30 = .ok (.iload_n 2, 1) := by decide +kernel
theorem dX3_find_31 : decode cX3_find 31 = .ok (.invokevirtual 104, 3) := by decide +kernel
theorem dX3_find_34 : decode cX3_find 34 = .ok (.goto 4, 3) := by decide +kernel
theorem dX3_find_37 : decode cX3_find 37 = .ok (.iconst 0, 1) := by decide +kernel
theorem dX3_find_38 : decode cX3_find 38 = .ok (.istore 4, 2) := by decide +kernel
theorem dX3_find_40 : decode cX3_find 40 = .ok (.iload_n 3, 1) := by decide +kernel
theorem dX3_find_41 : decode cX3_find 41 = .ok (.ifCond .eq 24, 3) := by decide +kernel
theorem dX3_find_44 : decode cX3_find 44 = .ok (.iload 4, 2) := by decide +kernel
theorem dX3_find_46 : decode cX3_find 46 = .ok (.iconst 0, 1) := by decide +kernel
theorem dX3_find_47 : decode cX3_find 47 = .ok (.bipush 7, 2) := by decide +kernel
theorem dX3_find_49 : decode cX3_find 49 = .ok (.invokestatic 63, 3) := by decide +kernel
theorem dX3_find_52 : decode cX3_find 52 = .ok (.ifCond .eq 13, 3) := by decide +kernel
theorem dX3_find_55 : decode cX3_find 55 = .ok (.aload_n 0, 1) := by decide +kernel
theorem dX3_find_56 : decode cX3_find 56 = .ok (.iload 4, 2) := by decide +kernel
theorem dX3_find_58 : decode cX3_find 58 = .ok (.iload_n 2, 1) := by decide +kernel
theorem dX3_find_59 : decode cX3_find 59 = .ok (.invokevirtual 108, 3) := by decide +kernel
theorem dX3_find_62 : decode cX3_find 62 = .ok (.goto 4, 3) := by decide +kernel
theorem dX3_find_65 : decode cX3_find 65 = .ok (.iconst 0, 1) := by decide +kernel
theorem dX3_find_66 : decode cX3_find 66 = .ok (.istore 5, 2) := by decide +kernel
theorem dX3_find_68 : decode cX3_find 68 = .ok (.aload_n 0, 1) := by decide +kernel
theorem dX3_find_69 : decode cX3_find 69 = .ok (.iload_n 3, 1) := by decide +kernel
theorem dX3_find_70 : decode cX3_find 70 = .ok (.ifCond .ne 7, 3) := by decide +kernel
theorem dX3_find_73 : decode cX3_find 73 = .ok (.iconst 1, 1) := by decide +kernel
theorem dX3_find_74 : decode cX3_find 74 = .ok (.goto 22, 3) := by decide +kernel
theorem dX3_find_77 : decode cX3_find 77 = .ok (.iload 4, 2) := by decide +kernel
theorem dX3_find_79 : decode cX3_find 79 = .ok (.ifCond .ge 7, 3) := by decide +kernel
theorem dX3_find_82 : decode cX3_find 82 = .ok (.iconst 2, 1) := by decide +kernel
theorem dX3_find_83 : decode cX3_find 83 = .ok (.goto 13, 3) := by decide +kernel
theorem dX3_find_86 : decode cX3_find 86 = .ok (.iload 5, 2) := by decide +kernel
theorem dX3_find_88 : decode cX3_find 88 = .ok (.ifCond .ge 7, 3) := by decide +kernel
theorem dX3_find_91 : decode cX3_find 91 = .ok (.iconst 3, 1) := by decide +kernel
theorem dX3_find_92 : decode cX3_find 92 = .ok (.goto 4, 3) := by decide +kernel
theorem dX3_find_95 : decode cX3_find 95 = .ok (.iconst 0, 1) := by decide +kernel
theorem dX3_find_96 : decode cX3_find 96 = .ok (.invokevirtual 71, 3) := by decide +kernel
theorem dX3_find_99 : decode cX3_find 99 = .ok (.ifCond .eq 5, 3) := by decide +kernel
theorem dX3_find_102 : decode cX3_find 102 = .ok (.iconst 0, 1) := by decide +kernel
theorem dX3_find_103 : decode cX3_find 103 = .ok (.ireturn, 1) := by decide +kernel
theorem dX3_find_104 : decode cX3_find 104 = .ok (.iload 5, 2) := by decide +kernel
theorem dX3_find_106 : decode cX3_find 106 = .ok (.iconst 1, 1) := by decide +kernel
theorem dX3_find_107 : decode cX3_find 107 = .ok (.isub, 1) := by decide +kernel
theorem dX3_find_108 : decode cX3_find 108 = .ok (.istore 6, 2) := by decide +kernel
theorem dX3_find_110 : decode cX3_find 110 = .ok (.iload 6, 2) := by decide +kernel
theorem dX3_find_112 : decode cX3_find 112 = .ok (.ifCond .lt 20, 3) := by decide +kernel
theorem dX3_find_115 : decode cX3_find 115 = .ok (.aload_n 0, 1) := by decide +kernel
theorem dX3_find_116 : decode cX3_find 116 = .ok (.aload_n 0, 1) := by decide +kernel
theorem dX3_find_117 : decode cX3_find 117 = .ok (.getfield 56, 3) := by decide +kernel
theorem dX3_find_120 : decode cX3_find 120 = .ok (.iload 6, 2) := by decide +kernel
theorem dX3_find_122 : decode cX3_find 122 = .ok (.iaload, 1) := by decide +kernel
theorem dX3_find_123 : decode cX3_find 123 = .ok (.invokevirtual 111, 3) := by decide +kernel
theorem dX3_find_126 : decode cX3_find 126 = .ok (.iinc 6 (-1), 3) := by decide +kernel
theorem dX3_find_129 : decode cX3_find 129 = .ok (.goto (-19), 3) := by decide +kernel
theorem dX3_find_132 : decode cX3_find 132 = .ok (.iload 4, 2) := by decide +kernel
theorem dX3_find_134 : decode cX3_find 134 = .ok (.ireturn, 1) := by decide +kernel
set_option maxRecDepth 20000 in
theorem ggX3_visible_X3_isLoaded : GoodIn wsX3_visible wsX3_isLoaded := goodIn_r _ [8, 9, 10, 11, 7, 12, 13, 14, 15, 36, 37, 38, 39, 40, 41, 42, 43, 44, 45, 46, 47, 48, 49, 50, 51, 52, 53, 54] (by decide +kernel) (by decide +kernel)
set_option maxRecDepth 20000 in
theorem gX3_visible_X3_isLoaded : GoodIn wsX3_visible (wsV RX3 80 RX3 yX3_isLoaded wsX3_isLoaded) := goodIn_app (goodIn_of _ (by decide +kernel)) ggX3_visible_X3_isLoaded
set_option maxRecDepth 20000 in
theorem ggX3_visible_X3_in : GoodIn wsX3_visible wsX3_in := goodIn_r _ [15] (by decide +kernel) (by decide +kernel)
set_option maxRecDepth 20000 in
theorem gX3_visible_X3_in : GoodIn wsX3_visible (va_wsS RX3 63 yX3_in wsX3_in) := goodIn_app (goodIn_of _ (by decide +kernel)) ggX3_visible_X3_in
set_option maxRecDepth 20000 in
theorem ggX3_visible_X3_see : GoodIn wsX3_visible wsX3_see := goodIn_r _ [19, 2, 20, 21, 22, 23, 24, 9, 25, 26, 27, 28, 29, 7, 30, 31, 32, 33, 34, 35, 3, 36, 37, 38, 39, 40, 41, 42, 43, 44, 45, 46, 47, 48, 49, 50, 51, 52, 53, 54] (by decide +kernel) (by decide +kernel)
set_option maxRecDepth 20000 in
theorem gX3_visible_X3_see : GoodIn wsX3_visible (wsV RX3 100 RX3 yX3_see wsX3_see) := goodIn_app (goodIn_of _ (by decide +kernel)) ggX3_visible_X3_see
theorem dX3_visible_0 : decode cX3_visible 0 = .ok (.aload_n 0, 1) := by decide +kernel
theorem dX3_visible_1 : decode cX3_visible 1 = .ok (.iconst 0, 1) := by decide +kernel
theorem dX3_visible_2 : decode cX3_visible 2 = .ok (.putfield 59, 3) := by decide +kernel
theorem dX3_visible_5 : decode cX3_visible 5 = .ok (.aload_n 0, 1) := by decide +kernel
theorem dX3_visible_6 : decode cX3_visible 6 = .ok (.iload_n 1, 1) := by decide +kernel
theorem dX3_visible_7 : decode cX3_visible 7 = .ok (.invokevirtual 80, 3) := by decide +kernel
theorem dX3_visible_10 : decode cX3_visible 10 = .ok (.ifCond .eq 12, 3) := by decide +kernel
theorem dX3_visible_13 : decode cX3_visible 13 = .ok (.iload_n 2, 1) := by decide +kernel
theorem dX3_visible_14 : decode cX3_visible 14 = .ok (.iconst 0, 1) := by decide +kernel
theorem dX3_visible_15 : decode cX3_visible 15 = .ok (.iconst 5, 1) := by decide +kernel
theorem dX3_visible_16 : decode cX3_visible 16 = .ok (.invokestatic 63, 3) := by decide +kernel
theorem dX3_visible_19 : decode cX3_visible 19 = .ok (.ifCond .ne 5, 3) := by decide +kernel
theorem dX3_visible_22 : decode cX3_visible 22 = .ok (.iconst (-1), 1) := by decide +kernel
theorem dX3_visible_23 : decode cX3_visible 23 = .ok (.ireturn, 1) := by decide +kernel
theorem dX3_visible_24 : decode cX3_visible 24 = .ok (.aload_n 0, 1) := by decide +kernel
theorem dX3_visible_25 : decode cX3_visible 25 = .ok (.iload_n 1, 1) := by decide +kernel
theorem dX3_visible_26 : decode cX3_visible 26 = .ok (.iload_n 2, 1) := by decide +kernel
theorem dX3_visible_27 : decode cX3_visible 27 = .ok (.invokevirtual 100, 3) := by decide +kernel
theorem dX3_visible_30 : decode cX3_visible 30 = .ok (.iload_n 3, 1) := by decide +kernel
theorem dX3_visible_31 : decode cX3_visible 31 = .ok (.iconst 0, 1) := by decide +kernel
theorem dX3_visible_32 : decode cX3_visible 32 = .ok (.aload_n 0, 1) := by decide +kernel
theorem dX3_visible_33 : decode cX3_visible 33 = .ok (.getfield 89, 3) := by decide +kernel
theorem dX3_visible_36 : decode cX3_visible 36 = .ok (.iconst 1, 1) := by decide +kernel
theorem dX3_visible_37 : decode cX3_visible 37 = .ok (.isub, 1) := by decide +kernel
theorem dX3_visible_38 : decode cX3_visible 38 = .ok (.invokestatic 63, 3) := by decide +kernel
theorem dX3_visible_41 : decode cX3_visible 41 = .ok (.ifCond .eq 12, 3) := by decide +kernel
theorem dX3_visible_44 : decode cX3_visible 44 = .ok (.aload_n 0, 1) := by decide +kernel
theorem dX3_visible_45 : decode cX3_visible 45 = .ok (.getfield 41, 3) := by decide +kernel
theorem dX3_visible_48 : decode cX3_visible 48 = .ok (.iload_n 3, 1) := by decide +kernel
theorem dX3_visible_49 : decode cX3_visible 49 = .ok (.iaload, 1) := by decide +kernel
theorem dX3_visible_50 : decode cX3_visible 50 = .ok (.goto 4, 3) := by decide +kernel
theorem dX3_visible_53 : decode cX3_visible 53 = .ok (.iconst (-1), 1) := by decide +kernel
theorem dX3_visible_54 : decode cX3_visible 54 = .ok (.ireturn, 1) := by decide +kernel
set_option maxRecDepth 20000 in
theorem ggX3_why_X3_isLoaded : GoodIn wsX3_why wsX3_isLoaded := goodIn_r _ [8, 3, 9, 10, 7, 11, 12, 13, 14, 40, 41, 42, 43, 44, 45, 46, 47, 48, 49, 50, 51, 52, 53, 54, 55, 56, 57, 58] (by decide +kernel) (by decide +kernel)
set_option maxRecDepth 20000 in
theorem gX3_why_X3_isLoaded : GoodIn wsX3_why (wsV RX3 80 RX3 yX3_isLoaded wsX3_isLoaded) := goodIn_app (goodIn_of _ (by decide +kernel)) ggX3_why_X3_isLoaded
set_option maxRecDepth 20000 in
theorem ggX3_why_X3_in : GoodIn wsX3_why wsX3_in := goodIn_r _ [14] (by decide +kernel) (by decide +kernel)
set_option maxRecDepth 20000 in
theorem gX3_why_X3_in : GoodIn wsX3_why (va_wsS RX3 63 yX3_in wsX3_in) := goodIn_app (goodIn_of _ (by decide +kernel)) ggX3_why_X3_in
set_option maxRecDepth 20000 in
theorem ggX3_why_X3_holder : GoodIn wsX3_why wsX3_holder := goodIn_r _ [18, 19, 2, 20, 21, 22, 23, 7, 24, 25, 26, 27, 28, 29, 3, 30, 31, 32, 33, 34, 35, 36, 37, 38, 39, 40, 41, 42, 43, 44, 45, 46, 47, 48, 49, 50, 51, 52, 53, 54, 55, 56, 57, 58] (by decide +kernel) (by decide +kernel)
set_option maxRecDepth 20000 in
theorem gX3_why_X3_holder : GoodIn wsX3_why (wsV RX3 104 RX3 yX3_holder wsX3_holder) := goodIn_app (goodIn_of _ (by decide +kernel)) ggX3_why_X3_holder
theorem dX3_why_0 : decode cX3_why 0 = .ok (.aload_n 0, 1) := by decide +kernel
theorem dX3_why_1 : decode cX3_why 1 = .ok (.iconst 0, 1) := by decide +kernel
theorem dX3_why_2 : decode cX3_why 2 = .ok (.putfield 59, 3) := by decide +kernel
theorem dX3_why_5 : decode cX3_why 5 = .ok (.aload_n 0, 1) := by decide +kernel
theorem dX3_why_6 : decode cX3_why 6 = .ok (.iload_n 1, 1) := by decide +kernel
theorem dX3_why_7 : decode cX3_why 7 = .ok (.invokevirtual 80, 3) := by decide +kernel
theorem dX3_why_10 : decode cX3_why 10 = .ok (.ifCond .eq 13, 3) := by decide +kernel
theorem dX3_why_13 : decode cX3_why 13 = .ok (.iload_n 2, 1) := by decide +kernel
theorem dX3_why_14 : decode cX3_why 14 = .ok (.iconst 0, 1) := by decide +kernel
theorem dX3_why_15 : decode cX3_why 15 = .ok (.bipush 23, 2) := by decide +kernel
theorem dX3_why_17 : decode cX3_why 17 = .ok (.invokestatic 63, 3) := by decide +kernel
theorem dX3_why_20 : decode cX3_why 20 = .ok (.ifCond .ne 5, 3) := by decide +kernel
theorem dX3_why_23 : decode cX3_why 23 = .ok (.iconst 1, 1) := by decide +kernel
theorem dX3_why_24 : decode cX3_why 24 = .ok (.ireturn, 1) := by decide +kernel
theorem dX3_why_25 : decode cX3_why 25 = .ok (.aload_n 0, 1) := by decide +kernel
theorem dX3_why_26 : decode cX3_why 26 = .ok (.iload_n 1, 1) := by decide +kernel
theorem dX3_why_27 : decode cX3_why 27 = .ok (.iload_n 2, 1) := by decide +kernel
theorem dX3_why_28 : decode cX3_why 28 = .ok (.invokevirtual 104, 3) := by decide +kernel
theorem dX3_why_31 : decode cX3_why 31 = .ok (.ifCond .lt 5, 3) := by decide +kernel
theorem dX3_why_34 : decode cX3_why 34 = .ok (.iconst 0, 1) := by decide +kernel
theorem dX3_why_35 : decode cX3_why 35 = .ok (.ireturn, 1) := by decide +kernel
theorem dX3_why_36 : decode cX3_why 36 = .ok (.iconst 0, 1) := by decide +kernel
theorem dX3_why_37 : decode cX3_why 37 = .ok (.istore_n 3, 1) := by decide +kernel
theorem dX3_why_38 : decode cX3_why 38 = .ok (.iconst 0, 1) := by decide +kernel
theorem dX3_why_39 : decode cX3_why 39 = .ok (.istore 4, 2) := by decide +kernel
theorem dX3_why_41 : decode cX3_why 41 = .ok (.iconst 0, 1) := by decide +kernel
theorem dX3_why_42 : decode cX3_why 42 = .ok (.istore 5, 2) := by decide +kernel
theorem dX3_why_44 : decode cX3_why 44 = .ok (.iload 5, 2) := by decide +kernel
theorem dX3_why_46 : decode cX3_why 46 = .ok (.bipush 8, 2) := by decide +kernel
theorem dX3_why_48 : decode cX3_why 48 = .ok (.if_icmp .ge 85, 3) := by decide +kernel
theorem dX3_why_51 : decode cX3_why 51 = .ok (.iload_n 3, 1) := by decide +kernel
theorem dX3_why_52 : decode cX3_why 52 = .ok (.ifCond .ne 30, 3) := by decide +kernel
theorem dX3_why_55 : decode cX3_why 55 = .ok (.aload_n 0, 1) := by decide +kernel
theorem dX3_why_56 : decode cX3_why 56 = .ok (.getfield 19, 3) := by decide +kernel
theorem dX3_why_59 : decode cX3_why 59 = .ok (.bipush 24, 2) := by decide +kernel
theorem dX3_why_61 : decode cX3_why 61 = .ok (.iload 5, 2) := by decide +kernel
theorem dX3_why_63 : decode cX3_why 63 = .ok (.imul, 1) := by decide +kernel
theorem dX3_why_64 : decode cX3_why 64 = .ok (.iload_n 2, 1) := by decide +kernel
theorem dX3_why_65 : decode cX3_why 65 = .ok (.iadd, 1) := by decide +kernel
theorem dX3_why_66 : decode cX3_why 66 = .ok (.iaload, 1) := by decide +kernel
theorem dX3_why_67 : decode cX3_why 67 = .ok (.bipush (-3), 2) := by decide +kernel
theorem dX3_why_69 : decode cX3_why 69 = .ok (.if_icmp .eq 17, 3) := by decide +kernel
theorem dX3_why_72 : decode cX3_why 72 = .ok (.aload_n 0, 1) := by decide +kernel
theorem dX3_why_73 : decode cX3_why 73 = .ok (.getfield 13, 3) := by decide +kernel
theorem dX3_why_76 : decode cX3_why 76 = .ok (.iload 5, 2) := by decide +kernel
theorem dX3_why_78 : decode cX3_why 78 = .ok (.baload, 1) := by decide +kernel
theorem dX3_why_79 : decode cX3_why 79 = .ok (.ifCond .eq 7, 3) := by decide +kernel
theorem dX3_why_82 : decode cX3_why 82 = .ok (.iconst 1, 1) := by decide +kernel
theorem dX3_why_83 : decode cX3_why 83 = .ok (.goto 4, 3) := by decide +kernel
theorem dX3_why_86 : decode cX3_why 86 = .ok (.iconst 0, 1) := by decide +kernel
theorem dX3_why_87 : decode cX3_why 87 = .ok (.istore_n 3, 1) := by decide +kernel
theorem dX3_why_88 : decode cX3_why 88 = .ok (.iload 4, 2) := by decide +kernel
theorem dX3_why_90 : decode cX3_why 90 = .ok (.ifCond .ne 30, 3) := by decide +kernel
theorem dX3_why_93 : decode cX3_why 93 = .ok (.aload_n 0, 1) := by decide +kernel
theorem dX3_why_94 : decode cX3_why 94 = .ok (.getfield 19, 3) := by decide +kernel
theorem dX3_why_97 : decode cX3_why 97 = .ok (.bipush 24, 2) := by decide +kernel
theorem dX3_why_99 : decode cX3_why 99 = .ok (.iload 5, 2) := by decide +kernel
theorem dX3_why_101 : decode cX3_why 101 = .ok (.imul, 1) := by decide +kernel
theorem dX3_why_102 : decode cX3_why 102 = .ok (.iload_n 2, 1) := by decide +kernel
theorem dX3_why_103 : decode cX3_why 103 = .ok (.iadd, 1) := by decide +kernel
theorem dX3_why_104 : decode cX3_why 104 = .ok (.iaload, 1) := by decide +kernel
theorem dX3_why_105 : decode cX3_why 105 = .ok (.bipush (-3), 2) := by decide +kernel
theorem dX3_why_107 : decode cX3_why 107 = .ok (.if_icmp .eq 17, 3) := by decide +kernel
theorem dX3_why_110 : decode cX3_why 110 = .ok (.aload_n 0, 1) := by decide +kernel
theorem dX3_why_111 : decode cX3_why 111 = .ok (.getfield 13, 3) := by decide +kernel
theorem dX3_why_114 : decode cX3_why 114 = .ok (.iload 5, 2) := by decide +kernel
theorem dX3_why_116 : decode cX3_why 116 = .ok (.baload, 1) := by decide +kernel
theorem dX3_why_117 : decode cX3_why 117 = .ok (.ifCond .ne 7, 3) := by decide +kernel
theorem dX3_why_120 : decode cX3_why 120 = .ok (.iconst 1, 1) := by decide +kernel
theorem dX3_why_121 : decode cX3_why 121 = .ok (.goto 4, 3) := by decide +kernel
theorem dX3_why_124 : decode cX3_why 124 = .ok (.iconst 0, 1) := by decide +kernel
theorem dX3_why_125 : decode cX3_why 125 = .ok (.istore 4, 2) := by decide +kernel
theorem dX3_why_127 : decode cX3_why 127 = .ok (.iinc 5 1, 3) := by decide +kernel
theorem dX3_why_130 : decode cX3_why 130 = .ok (.goto (-86), 3) := by decide +kernel
theorem dX3_why_133 : decode cX3_why 133 = .ok (.iload_n 3, 1) := by decide +kernel
theorem dX3_why_134 : decode cX3_why 134 = .ok (.ifCond .eq 7, 3) := by decide +kernel
theorem dX3_why_137 : decode cX3_why 137 = .ok (.iconst 2, 1) := by decide +kernel
theorem dX3_why_138 : decode cX3_why 138 = .ok (.goto 13, 3) := by decide +kernel
theorem dX3_why_141 : decode cX3_why 141 = .ok (.iload 4, 2) := by decide +kernel
theorem dX3_why_143 : decode cX3_why 143 = .ok (.ifCond .eq 7, 3) := by decide +kernel
theorem dX3_why_146 : decode cX3_why 146 = .ok (.iconst 3, 1) := by decide +kernel
theorem dX3_why_147 : decode cX3_why 147 = .ok (.goto 4, 3) := by decide +kernel
theorem dX3_why_150 : decode cX3_why 150 = .ok (.iconst 4, 1) := by decide +kernel
theorem dX3_why_151 : decode cX3_why 151 = .ok (.ireturn, 1) := by decide +kernel
set_option maxRecDepth 20000 in
theorem ggX3_state_X3_isModule : GoodIn wsX3_state wsX3_isModule := goodIn_r _ [8, 9, 10, 7, 11] (by decide +kernel) (by decide +kernel)
set_option maxRecDepth 20000 in
theorem gX3_state_X3_isModule : GoodIn wsX3_state (va_wsS RX3 67 yX3_isModule wsX3_isModule) := goodIn_app (goodIn_of _ (by decide +kernel)) ggX3_state_X3_isModule
set_option maxRecDepth 20000 in
theorem ggX3_state_X3_judge : GoodIn wsX3_state wsX3_judge := goodIn_r _ [15, 3, 4, 16, 17, 18, 19, 20, 21, 22, 23, 24, 25, 26, 27, 28, 29, 30, 31, 32, 33, 34, 35, 36, 37] (by decide +kernel) (by decide +kernel)
set_option maxRecDepth 20000 in
theorem gX3_state_X3_judge : GoodIn wsX3_state (wsV RX3 77 RX3 yX3_judge wsX3_judge) := goodIn_app (goodIn_of _ (by decide +kernel)) ggX3_state_X3_judge
theorem dX3_state_0 : decode cX3_state 0 = .ok (.aload_n 0, 1) := by decide +kernel
theorem dX3_state_1 : decode cX3_state 1 = .ok (.iconst 0, 1) := by decide +kernel
theorem dX3_state_2 : decode cX3_state 2 = .ok (.putfield 59, 3) := by decide +kernel
theorem dX3_state_5 : decode cX3_state 5 = .ok (.iload_n 1, 1) := by decide +kernel
theorem dX3_state_6 : decode cX3_state 6 = .ok (.invokestatic 67, 3) := by decide +kernel
theorem dX3_state_9 : decode cX3_state 9 = .ok (.ifCond .ne 5, 3) := by decide +kernel
theorem dX3_state_12 : decode cX3_state 12 = .ok (.iconst (-1), 1) := by decide +kernel
theorem dX3_state_13 : decode cX3_state 13 = .ok (.ireturn, 1) := by decide +kernel
theorem dX3_state_14 : decode cX3_state 14 = .ok (.aload_n 0, 1) := by decide +kernel
theorem dX3_state_15 : decode cX3_state 15 = .ok (.invokevirtual 77, 3) := by decide +kernel
theorem dX3_state_18 : decode cX3_state 18 = .ok (.aload_n 0, 1) := by decide +kernel
theorem dX3_state_19 : decode cX3_state 19 = .ok (.getfield 13, 3) := by decide +kernel
theorem dX3_state_22 : decode cX3_state 22 = .ok (.iload_n 1, 1) := by decide +kernel
theorem dX3_state_23 : decode cX3_state 23 = .ok (.baload, 1) := by decide +kernel
theorem dX3_state_24 : decode cX3_state 24 = .ok (.ifCond .eq 7, 3) := by decide +kernel
theorem dX3_state_27 : decode cX3_state 27 = .ok (.iconst 3, 1) := by decide +kernel
theorem dX3_state_28 : decode cX3_state 28 = .ok (.goto 30, 3) := by decide +kernel
theorem dX3_state_31 : decode cX3_state 31 = .ok (.aload_n 0, 1) := by decide +kernel
theorem dX3_state_32 : decode cX3_state 32 = .ok (.getfield 16, 3) := by decide +kernel
theorem dX3_state_35 : decode cX3_state 35 = .ok (.iload_n 1, 1) := by decide +kernel
theorem dX3_state_36 : decode cX3_state 36 = .ok (.baload, 1) := by decide +kernel
theorem dX3_state_37 : decode cX3_state 37 = .ok (.ifCond .eq 7, 3) := by decide +kernel
theorem dX3_state_40 : decode cX3_state 40 = .ok (.iconst 2, 1) := by decide +kernel
theorem dX3_state_41 : decode cX3_state 41 = .ok (.goto 17, 3) := by decide +kernel
theorem dX3_state_44 : decode cX3_state 44 = .ok (.aload_n 0, 1) := by decide +kernel
theorem dX3_state_45 : decode cX3_state 45 = .ok (.getfield 7, 3) := by decide +kernel
theorem dX3_state_48 : decode cX3_state 48 = .ok (.iload_n 1, 1) := by decide +kernel
theorem dX3_state_49 : decode cX3_state 49 = .ok (.baload, 1) := by decide +kernel
theorem dX3_state_50 : decode cX3_state 50 = .ok (.ifCond .eq 7, 3) := by decide +kernel
theorem dX3_state_53 : decode cX3_state 53 = .ok (.iconst 1, 1) := by decide +kernel
theorem dX3_state_54 : decode cX3_state 54 = .ok (.goto 4, 3) := by decide +kernel
theorem dX3_state_57 : decode cX3_state 57 = .ok (.iconst 0, 1) := by decide +kernel
theorem dX3_state_58 : decode cX3_state 58 = .ok (.ireturn, 1) := by decide +kernel
set_option maxRecDepth 20000 in
theorem ggX3_above_X3_isModule : GoodIn wsX3_above wsX3_isModule := goodIn_r _ [6, 7, 8, 5, 9] (by decide +kernel) (by decide +kernel)
set_option maxRecDepth 20000 in
theorem gX3_above_X3_isModule : GoodIn wsX3_above (va_wsS RX3 67 yX3_isModule wsX3_isModule) := goodIn_app (goodIn_of _ (by decide +kernel)) ggX3_above_X3_isModule
set_option maxRecDepth 20000 in
theorem ggX3_above_X3_in : GoodIn wsX3_above wsX3_in := goodIn_r _ [9] (by decide +kernel) (by decide +kernel)
set_option maxRecDepth 20000 in
theorem gX3_above_X3_in : GoodIn wsX3_above (va_wsS RX3 63 yX3_in wsX3_in) := goodIn_app (goodIn_of _ (by decide +kernel)) ggX3_above_X3_in
theorem dX3_above_0 : decode cX3_above 0 = .ok (.aload_n 0, 1) := by decide +kernel
theorem dX3_above_1 : decode cX3_above 1 = .ok (.iconst 0, 1) := by decide +kernel
theorem dX3_above_2 : decode cX3_above 2 = .ok (.putfield 59, 3) := by decide +kernel
theorem dX3_above_5 : decode cX3_above 5 = .ok (.iload_n 1, 1) := by decide +kernel
theorem dX3_above_6 : decode cX3_above 6 = .ok (.invokestatic 67, 3) := by decide +kernel
theorem dX3_above_9 : decode cX3_above 9 = .ok (.ifCond .eq 27, 3) := by decide +kernel
theorem dX3_above_12 : decode cX3_above 12 = .ok (.iload_n 2, 1) := by decide +kernel
theorem dX3_above_13 : decode cX3_above 13 = .ok (.iconst 0, 1) := by decide +kernel
theorem dX3_above_14 : decode cX3_above 14 = .ok (.bipush 23, 2) := by decide +kernel
theorem dX3_above_16 : decode cX3_above 16 = .ok (.invokestatic 63, 3) := by decide +kernel
theorem dX3_above_19 : decode cX3_above 19 = .ok (.ifCond .eq 17, 3) := by decide +kernel
theorem dX3_above_22 : decode cX3_above 22 = .ok (.aload_n 0, 1) := by decide +kernel
theorem dX3_above_23 : decode cX3_above 23 = .ok (.getfield 23, 3) := by decide +kernel
theorem dX3_above_26 : decode cX3_above 26 = .ok (.bipush 24, 2) := by decide +kernel
theorem dX3_above_28 : decode cX3_above 28 = .ok (.iload_n 1, 1) := by decide +kernel
theorem dX3_above_29 : decode cX3_above 29 = .ok (.imul, 1) := by decide +kernel
theorem dX3_above_30 : decode cX3_above 30 = .ok (.iload_n 2, 1) := by decide +kernel
theorem dX3_above_31 : decode cX3_above 31 = .ok (.iadd, 1) := by decide +kernel
theorem dX3_above_32 : decode cX3_above 32 = .ok (.iaload, 1) := by decide +kernel
theorem dX3_above_33 : decode cX3_above 33 = .ok (.goto 4, 3) := by decide +kernel
theorem dX3_above_36 : decode cX3_above 36 = .ok (.iconst (-1), 1) := by decide +kernel
theorem dX3_above_37 : decode cX3_above 37 = .ok (.ireturn, 1) := by decide +kernel
theorem dX3_defined_0 : decode cX3_defined 0 = .ok (.aload_n 0, 1) := by decide +kernel
theorem dX3_defined_1 : decode cX3_defined 1 = .ok (.iconst 0, 1) := by decide +kernel
theorem dX3_defined_2 : decode cX3_defined 2 = .ok (.putfield 59, 3) := by decide +kernel
theorem dX3_defined_5 : decode cX3_defined 5 = .ok (.aload_n 0, 1) := by decide +kernel
theorem dX3_defined_6 : decode cX3_defined 6 = .ok (.getfield 86, 3) := by decide +kernel
theorem dX3_defined_9 : decode cX3_defined 9 = .ok (.ireturn, 1) := by decide +kernel
theorem dJ6_bitCount_0f7a4_0 : decode cJ6_bitCount_0f7a4 0 = .ok (.iload_n 0, 1) := by decide +kernel
theorem dJ6_bitCount_0f7a4_1 : decode cJ6_bitCount_0f7a4 1 = .ok (.iload_n 0, 1) := by decide +kernel
theorem dJ6_bitCount_0f7a4_2 : decode cJ6_bitCount_0f7a4 2 = .ok (.iconst 1, 1) := by decide +kernel
theorem dJ6_bitCount_0f7a4_3 : decode cJ6_bitCount_0f7a4 3 = .ok (.iushr, 1) := by decide +kernel
theorem dJ6_bitCount_0f7a4_4 : decode cJ6_bitCount_0f7a4 4 = .ok (.ldc_w 265, 3) := by decide +kernel
theorem dJ6_bitCount_0f7a4_7 : decode cJ6_bitCount_0f7a4 7 = .ok (.iand, 1) := by decide +kernel
theorem dJ6_bitCount_0f7a4_8 : decode cJ6_bitCount_0f7a4 8 = .ok (.isub, 1) := by decide +kernel
theorem dJ6_bitCount_0f7a4_9 : decode cJ6_bitCount_0f7a4 9 = .ok (.istore_n 0, 1) := by decide +kernel
theorem dJ6_bitCount_0f7a4_10 : decode cJ6_bitCount_0f7a4 10 = .ok (.iload_n 0, 1) := by decide +kernel
theorem dJ6_bitCount_0f7a4_11 : decode cJ6_bitCount_0f7a4 11 = .ok (.ldc_w 266, 3) := by decide +kernel
theorem dJ6_bitCount_0f7a4_14 : decode cJ6_bitCount_0f7a4 14 = .ok (.iand, 1) := by decide +kernel
theorem dJ6_bitCount_0f7a4_15 : decode cJ6_bitCount_0f7a4 15 = .ok (.iload_n 0, 1) := by decide +kernel
theorem dJ6_bitCount_0f7a4_16 : decode cJ6_bitCount_0f7a4 16 = .ok (.iconst 2, 1) := by decide +kernel
theorem dJ6_bitCount_0f7a4_17 : decode cJ6_bitCount_0f7a4 17 = .ok (.iushr, 1) := by decide +kernel
theorem dJ6_bitCount_0f7a4_18 : decode cJ6_bitCount_0f7a4 18 = .ok (.ldc_w 266, 3) := by decide +kernel
theorem dJ6_bitCount_0f7a4_21 : decode cJ6_bitCount_0f7a4 21 = .ok (.iand, 1) := by decide +kernel
theorem dJ6_bitCount_0f7a4_22 : decode cJ6_bitCount_0f7a4 22 = .ok (.iadd, 1) := by decide +kernel
theorem dJ6_bitCount_0f7a4_23 : decode cJ6_bitCount_0f7a4 23 = .ok (.istore_n 0, 1) := by decide +kernel
theorem dJ6_bitCount_0f7a4_24 : decode cJ6_bitCount_0f7a4 24 = .ok (.iload_n 0, 1) := by decide +kernel
theorem dJ6_bitCount_0f7a4_25 : decode cJ6_bitCount_0f7a4 25 = .ok (.iload_n 0, 1) := by decide +kernel
theorem dJ6_bitCount_0f7a4_26 : decode cJ6_bitCount_0f7a4 26 = .ok (.iconst 4, 1) := by decide +kernel
theorem dJ6_bitCount_0f7a4_27 : decode cJ6_bitCount_0f7a4 27 = .ok (.iushr, 1) := by decide +kernel
theorem dJ6_bitCount_0f7a4_28 : decode cJ6_bitCount_0f7a4 28 = .ok (.iadd, 1) := by decide +kernel
theorem dJ6_bitCount_0f7a4_29 : decode cJ6_bitCount_0f7a4 29 = .ok (.ldc_w 267, 3) := by decide +kernel
theorem dJ6_bitCount_0f7a4_32 : decode cJ6_bitCount_0f7a4 32 = .ok (.iand, 1) := by decide +kernel
theorem dJ6_bitCount_0f7a4_33 : decode cJ6_bitCount_0f7a4 33 = .ok (.istore_n 0, 1) := by decide +kernel
theorem dJ6_bitCount_0f7a4_34 : decode cJ6_bitCount_0f7a4 34 = .ok (.iload_n 0, 1) := by decide +kernel
theorem dJ6_bitCount_0f7a4_35 : decode cJ6_bitCount_0f7a4 35 = .ok (.iload_n 0, 1) := by decide +kernel
theorem dJ6_bitCount_0f7a4_36 : decode cJ6_bitCount_0f7a4 36 = .ok (.bipush 8, 2) := by decide +kernel
theorem dJ6_bitCount_0f7a4_38 : decode cJ6_bitCount_0f7a4 38 = .ok (.iushr, 1) := by decide +kernel
theorem dJ6_bitCount_0f7a4_39 : decode cJ6_bitCount_0f7a4 39 = .ok (.iadd, 1) := by decide +kernel
theorem dJ6_bitCount_0f7a4_40 : decode cJ6_bitCount_0f7a4 40 = .ok (.istore_n 0, 1) := by decide +kernel
theorem dJ6_bitCount_0f7a4_41 : decode cJ6_bitCount_0f7a4 41 = .ok (.iload_n 0, 1) := by decide +kernel
theorem dJ6_bitCount_0f7a4_42 : decode cJ6_bitCount_0f7a4 42 = .ok (.iload_n 0, 1) := by decide +kernel
theorem dJ6_bitCount_0f7a4_43 : decode cJ6_bitCount_0f7a4 43 = .ok (.bipush 16, 2) := by decide +kernel
theorem dJ6_bitCount_0f7a4_45 : decode cJ6_bitCount_0f7a4 45 = .ok (.iushr, 1) := by decide +kernel
theorem dJ6_bitCount_0f7a4_46 : decode cJ6_bitCount_0f7a4 46 = .ok (.iadd, 1) := by decide +kernel
theorem dJ6_bitCount_0f7a4_47 : decode cJ6_bitCount_0f7a4 47 = .ok (.istore_n 0, 1) := by decide +kernel
theorem dJ6_bitCount_0f7a4_48 : decode cJ6_bitCount_0f7a4 48 = .ok (.iload_n 0, 1) := by decide +kernel
theorem dJ6_bitCount_0f7a4_49 : decode cJ6_bitCount_0f7a4 49 = .ok (.bipush 63, 2) := by decide +kernel
theorem dJ6_bitCount_0f7a4_51 : decode cJ6_bitCount_0f7a4 51 = .ok (.iand, 1) := by decide +kernel
theorem dJ6_bitCount_0f7a4_52 : decode cJ6_bitCount_0f7a4 52 = .ok (.ireturn, 1) := by decide +kernel
set_option maxRecDepth 20000 in
theorem ggL_present_X2_present : GoodIn wsL_present wsX2_present := goodIn_ca (goodIn_ca (goodIn_r _ [7, 8, 9, 10, 11, 12, 13, 14, 6, 15, 16, 17, 18, 19, 20, 21, 22, 23, 24, 25, 26, 27, 28, 29, 30, 31] (by decide +kernel) (by decide +kernel)) (goodIn_sub (fun _ h => List.mem_cons_of_mem _ (List.mem_append_left _ (List.mem_append_right _ h))) (by decide +kernel))) (goodIn_sub (fun _ h => List.mem_cons_of_mem _ (List.mem_append_right _ h)) (by decide +kernel))
set_option maxRecDepth 20000 in
theorem gL_present_X2_present : GoodIn wsL_present (wsV RL 7 RX2 yX2_present wsX2_present) := goodIn_app (goodIn_of _ (by decide +kernel)) ggL_present_X2_present
theorem dL_present_0 : decode cL_present 0 = .ok (.aload_n 0, 1) := by decide +kernel
theorem dL_present_1 : decode cL_present 1 = .ok (.iload_n 1, 1) := by decide +kernel
theorem dL_present_2 : decode cL_present 2 = .ok (.invokevirtual 7, 3) := by decide +kernel
theorem dL_present_5 : decode cL_present 5 = .ok (.goto 9, 3) := by decide +kernel
theorem dL_present_8 : decode cL_present 8 = .ok (.astore_n 2, 1) := by decide +kernel
theorem dL_present_9 : decode cL_present 9 = .ok (.iconst 1, 1) := by decide +kernel
theorem dL_present_10 : decode cL_present 10 = .ok (.ireturn, 1) := by decide +kernel
theorem dL_present_11 : decode cL_present 11 = .ok (.astore_n 2, 1) := by decide +kernel
theorem dL_present_12 : decode cL_present 12 = .ok (.iconst 2, 1) := by decide +kernel
theorem dL_present_13 : decode cL_present 13 = .ok (.ireturn, 1) := by decide +kernel
theorem dL_present_14 : decode cL_present 14 = .ok (.iconst 0, 1) := by decide +kernel
theorem dL_present_15 : decode cL_present 15 = .ok (.ireturn, 1) := by decide +kernel
set_option maxRecDepth 20000 in
theorem ggL_file_X2_file : GoodIn wsL_file wsX2_file := goodIn_ca (goodIn_ca (goodIn_r _ [7, 8, 9, 10, 11, 12, 13, 14, 15, 6, 16, 17, 18, 19, 20, 21, 22, 23, 24, 25, 26, 27, 28, 29, 30, 31, 32, 33, 34, 35, 36, 37, 38, 39, 40, 41, 42, 43, 44, 45, 46, 47, 48, 49, 50, 51, 52, 53] (by decide +kernel) (by decide +kernel)) (goodIn_sub (fun _ h => List.mem_cons_of_mem _ (List.mem_append_left _ (List.mem_append_right _ h))) (by decide +kernel))) (goodIn_sub (fun _ h => List.mem_cons_of_mem _ (List.mem_append_right _ h)) (by decide +kernel))
set_option maxRecDepth 20000 in
theorem gL_file_X2_file : GoodIn wsL_file (wsV RL 17 RX2 yX2_file wsX2_file) := goodIn_app (goodIn_of _ (by decide +kernel)) ggL_file_X2_file
theorem dL_file_0 : decode cL_file 0 = .ok (.aload_n 0, 1) := by decide +kernel
theorem dL_file_1 : decode cL_file 1 = .ok (.iload_n 1, 1) := by decide +kernel
theorem dL_file_2 : decode cL_file 2 = .ok (.iload_n 2, 1) := by decide +kernel
theorem dL_file_3 : decode cL_file 3 = .ok (.iload_n 3, 1) := by decide +kernel
