def M_Md_firstDue : mj_M := (⟨"MarketTownModel", "firstDue", "()I"⟩, prog_13_method_59_code, 2, some .int, 0, 0)
theorem d_Md_firstDue_0 : decode M_Md_firstDue.2.1 0 = .ok (.iconst 0, 1) := by decide +kernel
theorem d_Md_firstDue_1 : decode M_Md_firstDue.2.1 1 = .ok (.istore_n 1, 1) := by decide +kernel
theorem d_Md_firstDue_2 : decode M_Md_firstDue.2.1 2 = .ok (.iload_n 1, 1) := by decide +kernel
theorem d_Md_firstDue_3 : decode M_Md_firstDue.2.1 3 = .ok (.aload_n 0, 1) := by decide +kernel
theorem d_Md_firstDue_4 : decode M_Md_firstDue.2.1 4 = .ok (.getfield 7, 3) := by decide +kernel
theorem d_Md_firstDue_7 : decode M_Md_firstDue.2.1 7 = .ok (.sipush 2168, 3) := by decide +kernel
theorem d_Md_firstDue_10 : decode M_Md_firstDue.2.1 10 = .ok (.iaload, 1) := by decide +kernel
theorem d_Md_firstDue_11 : decode M_Md_firstDue.2.1 11 = .ok (.if_icmp .ge 36, 3) := by decide +kernel
theorem d_Md_firstDue_14 : decode M_Md_firstDue.2.1 14 = .ok (.aload_n 0, 1) := by decide +kernel
theorem d_Md_firstDue_15 : decode M_Md_firstDue.2.1 15 = .ok (.getfield 7, 3) := by decide +kernel
theorem d_Md_firstDue_18 : decode M_Md_firstDue.2.1 18 = .ok (.sipush 1363, 3) := by decide +kernel
theorem d_Md_firstDue_21 : decode M_Md_firstDue.2.1 21 = .ok (.iconst 4, 1) := by decide +kernel
theorem d_Md_firstDue_22 : decode M_Md_firstDue.2.1 22 = .ok (.iload_n 1, 1) := by decide +kernel
theorem d_Md_firstDue_23 : decode M_Md_firstDue.2.1 23 = .ok (.imul, 1) := by decide +kernel
theorem d_Md_firstDue_24 : decode M_Md_firstDue.2.1 24 = .ok (.iadd, 1) := by decide +kernel
theorem d_Md_firstDue_25 : decode M_Md_firstDue.2.1 25 = .ok (.iconst 3, 1) := by decide +kernel
theorem d_Md_firstDue_26 : decode M_Md_firstDue.2.1 26 = .ok (.iadd, 1) := by decide +kernel
theorem d_Md_firstDue_27 : decode M_Md_firstDue.2.1 27 = .ok (.iaload, 1) := by decide +kernel
theorem d_Md_firstDue_28 : decode M_Md_firstDue.2.1 28 = .ok (.aload_n 0, 1) := by decide +kernel
theorem d_Md_firstDue_29 : decode M_Md_firstDue.2.1 29 = .ok (.getfield 7, 3) := by decide +kernel
theorem d_Md_firstDue_32 : decode M_Md_firstDue.2.1 32 = .ok (.sipush 2164, 3) := by decide +kernel
theorem d_Md_firstDue_35 : decode M_Md_firstDue.2.1 35 = .ok (.iaload, 1) := by decide +kernel
theorem d_Md_firstDue_36 : decode M_Md_firstDue.2.1 36 = .ok (.if_icmp .ne 5, 3) := by decide +kernel
theorem d_Md_firstDue_39 : decode M_Md_firstDue.2.1 39 = .ok (.iload_n 1, 1) := by decide +kernel
theorem d_Md_firstDue_40 : decode M_Md_firstDue.2.1 40 = .ok (.ireturn, 1) := by decide +kernel
theorem d_Md_firstDue_41 : decode M_Md_firstDue.2.1 41 = .ok (.iinc 1 1, 3) := by decide +kernel
theorem d_Md_firstDue_44 : decode M_Md_firstDue.2.1 44 = .ok (.goto (-42), 3) := by decide +kernel
theorem d_Md_firstDue_47 : decode M_Md_firstDue.2.1 47 = .ok (.iconst (-1), 1) := by decide +kernel
theorem d_Md_firstDue_48 : decode M_Md_firstDue.2.1 48 = .ok (.ireturn, 1) := by decide +kernel
def M_Md_breaks : mj_M := (⟨"MarketTownModel", "breaks", "(I)V"⟩, prog_13_method_58_code, 7, none, 1, 24)
theorem d_Md_breaks_0 : decode M_Md_breaks.2.1 0 = .ok (.aload_n 0, 1) := by decide +kernel
theorem d_Md_breaks_1 : decode M_Md_breaks.2.1 1 = .ok (.getfield 7, 3) := by decide +kernel
theorem d_Md_breaks_4 : decode M_Md_breaks.2.1 4 = .ok (.iconst 0, 1) := by decide +kernel
theorem d_Md_breaks_5 : decode M_Md_breaks.2.1 5 = .ok (.iconst 5, 1) := by decide +kernel
theorem d_Md_breaks_6 : decode M_Md_breaks.2.1 6 = .ok (.iload_n 1, 1) := by decide +kernel
theorem d_Md_breaks_7 : decode M_Md_breaks.2.1 7 = .ok (.imul, 1) := by decide +kernel
theorem d_Md_breaks_8 : decode M_Md_breaks.2.1 8 = .ok (.iadd, 1) := by decide +kernel
theorem d_Md_breaks_9 : decode M_Md_breaks.2.1 9 = .ok (.iconst 2, 1) := by decide +kernel
theorem d_Md_breaks_10 : decode M_Md_breaks.2.1 10 = .ok (.iadd, 1) := by decide +kernel
theorem d_Md_breaks_11 : decode M_Md_breaks.2.1 11 = .ok (.iconst 1, 1) := by decide +kernel
theorem d_Md_breaks_12 : decode M_Md_breaks.2.1 12 = .ok (.iastore, 1) := by decide +kernel
theorem d_Md_breaks_13 : decode M_Md_breaks.2.1 13 = .ok (.aload_n 0, 1) := by decide +kernel
theorem d_Md_breaks_14 : decode M_Md_breaks.2.1 14 = .ok (.iload_n 1, 1) := by decide +kernel
theorem d_Md_breaks_15 : decode M_Md_breaks.2.1 15 = .ok (.invokevirtual 220, 3) := by decide +kernel
theorem d_Md_breaks_18 : decode M_Md_breaks.2.1 18 = .ok (.istore_n 2, 1) := by decide +kernel
theorem d_Md_breaks_19 : decode M_Md_breaks.2.1 19 = .ok (.aload_n 0, 1) := by decide +kernel
theorem d_Md_breaks_20 : decode M_Md_breaks.2.1 20 = .ok (.iload_n 1, 1) := by decide +kernel
theorem d_Md_breaks_21 : decode M_Md_breaks.2.1 21 = .ok (.invokevirtual 150, 3) := by decide +kernel
theorem d_Md_breaks_24 : decode M_Md_breaks.2.1 24 = .ok (.istore_n 3, 1) := by decide +kernel
theorem d_Md_breaks_25 : decode M_Md_breaks.2.1 25 = .ok (.iload_n 3, 1) := by decide +kernel
theorem d_Md_breaks_26 : decode M_Md_breaks.2.1 26 = .ok (.istore 4, 2) := by decide +kernel
theorem d_Md_breaks_28 : decode M_Md_breaks.2.1 28 = .ok (.iconst 0, 1) := by decide +kernel
theorem d_Md_breaks_29 : decode M_Md_breaks.2.1 29 = .ok (.istore 5, 2) := by decide +kernel
theorem d_Md_breaks_31 : decode M_Md_breaks.2.1 31 = .ok (.iload 5, 2) := by decide +kernel
theorem d_Md_breaks_33 : decode M_Md_breaks.2.1 33 = .ok (.aload_n 0, 1) := by decide +kernel
theorem d_Md_breaks_34 : decode M_Md_breaks.2.1 34 = .ok (.getfield 7, 3) := by decide +kernel
theorem d_Md_breaks_37 : decode M_Md_breaks.2.1 37 = .ok (.sipush 2168, 3) := by decide +kernel
theorem d_Md_breaks_40 : decode M_Md_breaks.2.1 40 = .ok (.iaload, 1) := by decide +kernel
theorem d_Md_breaks_41 : decode M_Md_breaks.2.1 41 = .ok (.if_icmp .ge 86, 3) := by decide +kernel
theorem d_Md_breaks_44 : decode M_Md_breaks.2.1 44 = .ok (.aload_n 0, 1) := by decide +kernel
theorem d_Md_breaks_45 : decode M_Md_breaks.2.1 45 = .ok (.getfield 7, 3) := by decide +kernel
theorem d_Md_breaks_48 : decode M_Md_breaks.2.1 48 = .ok (.sipush 1363, 3) := by decide +kernel
theorem d_Md_breaks_51 : decode M_Md_breaks.2.1 51 = .ok (.iconst 4, 1) := by decide +kernel
theorem d_Md_breaks_52 : decode M_Md_breaks.2.1 52 = .ok (.iload 5, 2) := by decide +kernel
theorem d_Md_breaks_54 : decode M_Md_breaks.2.1 54 = .ok (.imul, 1) := by decide +kernel
theorem d_Md_breaks_55 : decode M_Md_breaks.2.1 55 = .ok (.iadd, 1) := by decide +kernel
theorem d_Md_breaks_56 : decode M_Md_breaks.2.1 56 = .ok (.iconst 1, 1) := by decide +kernel
theorem d_Md_breaks_57 : decode M_Md_breaks.2.1 57 = .ok (.iadd, 1) := by decide +kernel
theorem d_Md_breaks_58 : decode M_Md_breaks.2.1 58 = .ok (.iaload, 1) := by decide +kernel
theorem d_Md_breaks_59 : decode M_Md_breaks.2.1 59 = .ok (.iload_n 1, 1) := by decide +kernel
theorem d_Md_breaks_60 : decode M_Md_breaks.2.1 60 = .ok (.if_icmp .ne 7, 3) := by decide +kernel
theorem d_Md_breaks_63 : decode M_Md_breaks.2.1 63 = .ok (.iconst 1, 1) := by decide +kernel
theorem d_Md_breaks_64 : decode M_Md_breaks.2.1 64 = .ok (.goto 4, 3) := by decide +kernel
theorem d_Md_breaks_67 : decode M_Md_breaks.2.1 67 = .ok (.iconst 0, 1) := by decide +kernel
theorem d_Md_breaks_68 : decode M_Md_breaks.2.1 68 = .ok (.istore 6, 2) := by decide +kernel
theorem d_Md_breaks_70 : decode M_Md_breaks.2.1 70 = .ok (.aload_n 0, 1) := by decide +kernel
theorem d_Md_breaks_71 : decode M_Md_breaks.2.1 71 = .ok (.getfield 50, 3) := by decide +kernel
theorem d_Md_breaks_74 : decode M_Md_breaks.2.1 74 = .ok (.iload 5, 2) := by decide +kernel
theorem d_Md_breaks_76 : decode M_Md_breaks.2.1 76 = .ok (.iload 6, 2) := by decide +kernel
theorem d_Md_breaks_78 : decode M_Md_breaks.2.1 78 = .ok (.ifCond .eq 29, 3) := by decide +kernel
theorem d_Md_breaks_81 : decode M_Md_breaks.2.1 81 = .ok (.iload_n 3, 1) := by decide +kernel
theorem d_Md_breaks_82 : decode M_Md_breaks.2.1 82 = .ok (.i2l, 1) := by decide +kernel
theorem d_Md_breaks_83 : decode M_Md_breaks.2.1 83 = .ok (.aload_n 0, 1) := by decide +kernel
theorem d_Md_breaks_84 : decode M_Md_breaks.2.1 84 = .ok (.getfield 7, 3) := by decide +kernel
theorem d_Md_breaks_87 : decode M_Md_breaks.2.1 87 = .ok (.sipush 1363, 3) := by decide +kernel
theorem d_Md_breaks_90 : decode M_Md_breaks.2.1 90 = .ok (.iconst 4, 1) := by decide +kernel
theorem d_Md_breaks_91 : decode M_Md_breaks.2.1 91 = .ok (.iload 5, 2) := by decide +kernel
theorem d_Md_breaks_93 : decode M_Md_breaks.2.1 93 = .ok (.imul, 1) := by decide +kernel
theorem d_Md_breaks_94 : decode M_Md_breaks.2.1 94 = .ok (.iadd, 1) := by decide +kernel
theorem d_Md_breaks_95 : decode M_Md_breaks.2.1 95 = .ok (.iconst 2, 1) := by decide +kernel
theorem d_Md_breaks_96 : decode M_Md_breaks.2.1 96 = .ok (.iadd, 1) := by decide +kernel
theorem d_Md_breaks_97 : decode M_Md_breaks.2.1 97 = .ok (.iaload, 1) := by decide +kernel
theorem d_Md_breaks_98 : decode M_Md_breaks.2.1 98 = .ok (.i2l, 1) := by decide +kernel
theorem d_Md_breaks_99 : decode M_Md_breaks.2.1 99 = .ok (.lmul, 1) := by decide +kernel
theorem d_Md_breaks_100 : decode M_Md_breaks.2.1 100 = .ok (.iload_n 2, 1) := by decide +kernel
theorem d_Md_breaks_101 : decode M_Md_breaks.2.1 101 = .ok (.i2l, 1) := by decide +kernel
theorem d_Md_breaks_102 : decode M_Md_breaks.2.1 102 = .ok (.ldiv, 1) := by decide +kernel
theorem d_Md_breaks_103 : decode M_Md_breaks.2.1 103 = .ok (.l2i, 1) := by decide +kernel
theorem d_Md_breaks_104 : decode M_Md_breaks.2.1 104 = .ok (.goto 4, 3) := by decide +kernel
theorem d_Md_breaks_107 : decode M_Md_breaks.2.1 107 = .ok (.iconst 0, 1) := by decide +kernel
theorem d_Md_breaks_108 : decode M_Md_breaks.2.1 108 = .ok (.iastore, 1) := by decide +kernel
theorem d_Md_breaks_109 : decode M_Md_breaks.2.1 109 = .ok (.iload 4, 2) := by decide +kernel
theorem d_Md_breaks_111 : decode M_Md_breaks.2.1 111 = .ok (.aload_n 0, 1) := by decide +kernel
theorem d_Md_breaks_112 : decode M_Md_breaks.2.1 112 = .ok (.getfield 50, 3) := by decide +kernel
theorem d_Md_breaks_115 : decode M_Md_breaks.2.1 115 = .ok (.iload 5, 2) := by decide +kernel
theorem d_Md_breaks_117 : decode M_Md_breaks.2.1 117 = .ok (.iaload, 1) := by decide +kernel
theorem d_Md_breaks_118 : decode M_Md_breaks.2.1 118 = .ok (.isub, 1) := by decide +kernel
theorem d_Md_breaks_119 : decode M_Md_breaks.2.1 119 = .ok (.istore 4, 2) := by decide +kernel
theorem d_Md_breaks_121 : decode M_Md_breaks.2.1 121 = .ok (.iinc 5 1, 3) := by decide +kernel
theorem d_Md_breaks_124 : decode M_Md_breaks.2.1 124 = .ok (.goto (-93), 3) := by decide +kernel
theorem d_Md_breaks_127 : decode M_Md_breaks.2.1 127 = .ok (.iload 4, 2) := by decide +kernel
theorem d_Md_breaks_129 : decode M_Md_breaks.2.1 129 = .ok (.ifCond .le 66, 3) := by decide +kernel
theorem d_Md_breaks_132 : decode M_Md_breaks.2.1 132 = .ok (.iconst 0, 1) := by decide +kernel
theorem d_Md_breaks_133 : decode M_Md_breaks.2.1 133 = .ok (.istore 5, 2) := by decide +kernel
theorem d_Md_breaks_135 : decode M_Md_breaks.2.1 135 = .ok (.iload 5, 2) := by decide +kernel
theorem d_Md_breaks_137 : decode M_Md_breaks.2.1 137 = .ok (.aload_n 0, 1) := by decide +kernel
theorem d_Md_breaks_138 : decode M_Md_breaks.2.1 138 = .ok (.getfield 7, 3) := by decide +kernel
theorem d_Md_breaks_141 : decode M_Md_breaks.2.1 141 = .ok (.sipush 2168, 3) := by decide +kernel
theorem d_Md_breaks_144 : decode M_Md_breaks.2.1 144 = .ok (.iaload, 1) := by decide +kernel
theorem d_Md_breaks_145 : decode M_Md_breaks.2.1 145 = .ok (.if_icmp .ge 47, 3) := by decide +kernel
theorem d_Md_breaks_148 : decode M_Md_breaks.2.1 148 = .ok (.iload 4, 2) := by decide +kernel
theorem d_Md_breaks_150 : decode M_Md_breaks.2.1 150 = .ok (.ifCond .le 42, 3) := by decide +kernel
theorem d_Md_breaks_153 : decode M_Md_breaks.2.1 153 = .ok (.aload_n 0, 1) := by decide +kernel
theorem d_Md_breaks_154 : decode M_Md_breaks.2.1 154 = .ok (.getfield 7, 3) := by decide +kernel
theorem d_Md_breaks_157 : decode M_Md_breaks.2.1 157 = .ok (.sipush 1363, 3) := by decide +kernel
theorem d_Md_breaks_160 : decode M_Md_breaks.2.1 160 = .ok (.iconst 4, 1) := by decide +kernel
theorem d_Md_breaks_161 : decode M_Md_breaks.2.1 161 = .ok (.iload 5, 2) := by decide +kernel
theorem d_Md_breaks_163 : decode M_Md_breaks.2.1 163 = .ok (.imul, 1) := by decide +kernel
theorem d_Md_breaks_164 : decode M_Md_breaks.2.1 164 = .ok (.iadd, 1) := by decide +kernel
theorem d_Md_breaks_165 : decode M_Md_breaks.2.1 165 = .ok (.iconst 1, 1) := by decide +kernel
theorem d_Md_breaks_166 : decode M_Md_breaks.2.1 166 = .ok (.iadd, 1) := by decide +kernel
theorem d_Md_breaks_167 : decode M_Md_breaks.2.1 167 = .ok (.iaload, 1) := by decide +kernel
theorem d_Md_breaks_168 : decode M_Md_breaks.2.1 168 = .ok (.iload_n 1, 1) := by decide +kernel
theorem d_Md_breaks_169 : decode M_Md_breaks.2.1 169 = .ok (.if_icmp .ne 17, 3) := by decide +kernel
theorem d_Md_breaks_172 : decode M_Md_breaks.2.1 172 = .ok (.aload_n 0, 1) := by decide +kernel
theorem d_Md_breaks_173 : decode M_Md_breaks.2.1 173 = .ok (.getfield 50, 3) := by decide +kernel
theorem d_Md_breaks_176 : decode M_Md_breaks.2.1 176 = .ok (.iload 5, 2) := by decide +kernel
theorem d_Md_breaks_178 : decode M_Md_breaks.2.1 178 = .ok (.dup2, 1) := by decide +kernel
theorem d_Md_breaks_179 : decode M_Md_breaks.2.1 179 = .ok (.iaload, 1) := by decide +kernel
theorem d_Md_breaks_180 : decode M_Md_breaks.2.1 180 = .ok (.iconst 1, 1) := by decide +kernel
theorem d_Md_breaks_181 : decode M_Md_breaks.2.1 181 = .ok (.iadd, 1) := by decide +kernel
theorem d_Md_breaks_182 : decode M_Md_breaks.2.1 182 = .ok (.iastore, 1) := by decide +kernel
theorem d_Md_breaks_183 : decode M_Md_breaks.2.1 183 = .ok (.iinc 4 (-1), 3) := by decide +kernel
theorem d_Md_breaks_186 : decode M_Md_breaks.2.1 186 = .ok (.iinc 5 1, 3) := by decide +kernel
theorem d_Md_breaks_189 : decode M_Md_breaks.2.1 189 = .ok (.goto (-54), 3) := by decide +kernel
theorem d_Md_breaks_192 : decode M_Md_breaks.2.1 192 = .ok (.goto (-65), 3) := by decide +kernel
theorem d_Md_breaks_195 : decode M_Md_breaks.2.1 195 = .ok (.iconst 0, 1) := by decide +kernel
theorem d_Md_breaks_196 : decode M_Md_breaks.2.1 196 = .ok (.istore 5, 2) := by decide +kernel
theorem d_Md_breaks_198 : decode M_Md_breaks.2.1 198 = .ok (.iload 5, 2) := by decide +kernel
theorem d_Md_breaks_200 : decode M_Md_breaks.2.1 200 = .ok (.aload_n 0, 1) := by decide +kernel
theorem d_Md_breaks_201 : decode M_Md_breaks.2.1 201 = .ok (.getfield 7, 3) := by decide +kernel
theorem d_Md_breaks_204 : decode M_Md_breaks.2.1 204 = .ok (.sipush 2168, 3) := by decide +kernel
theorem d_Md_breaks_207 : decode M_Md_breaks.2.1 207 = .ok (.iaload, 1) := by decide +kernel
theorem d_Md_breaks_208 : decode M_Md_breaks.2.1 208 = .ok (.if_icmp .ge 54, 3) := by decide +kernel
theorem d_Md_breaks_211 : decode M_Md_breaks.2.1 211 = .ok (.aload_n 0, 1) := by decide +kernel
theorem d_Md_breaks_212 : decode M_Md_breaks.2.1 212 = .ok (.getfield 7, 3) := by decide +kernel
theorem d_Md_breaks_215 : decode M_Md_breaks.2.1 215 = .ok (.sipush 1363, 3) := by decide +kernel
theorem d_Md_breaks_218 : decode M_Md_breaks.2.1 218 = .ok (.iconst 4, 1) := by decide +kernel
theorem d_Md_breaks_219 : decode M_Md_breaks.2.1 219 = .ok (.iload 5, 2) := by decide +kernel
theorem d_Md_breaks_221 : decode M_Md_breaks.2.1 221 = .ok (.imul, 1) := by decide +kernel
theorem d_Md_breaks_222 : decode M_Md_breaks.2.1 222 = .ok (.iadd, 1) := by decide +kernel
theorem d_Md_breaks_223 : decode M_Md_breaks.2.1 223 = .ok (.iconst 1, 1) := by decide +kernel
theorem d_Md_breaks_224 : decode M_Md_breaks.2.1 224 = .ok (.iadd, 1) := by decide +kernel
theorem d_Md_breaks_225 : decode M_Md_breaks.2.1 225 = .ok (.iaload, 1) := by decide +kernel
theorem d_Md_breaks_226 : decode M_Md_breaks.2.1 226 = .ok (.iload_n 1, 1) := by decide +kernel
theorem d_Md_breaks_227 : decode M_Md_breaks.2.1 227 = .ok (.if_icmp .ne 29, 3) := by decide +kernel
theorem d_Md_breaks_230 : decode M_Md_breaks.2.1 230 = .ok (.aload_n 0, 1) := by decide +kernel
theorem d_Md_breaks_231 : decode M_Md_breaks.2.1 231 = .ok (.iload_n 1, 1) := by decide +kernel
theorem d_Md_breaks_232 : decode M_Md_breaks.2.1 232 = .ok (.aload_n 0, 1) := by decide +kernel
theorem d_Md_breaks_233 : decode M_Md_breaks.2.1 233 = .ok (.getfield 7, 3) := by decide +kernel
theorem d_Md_breaks_236 : decode M_Md_breaks.2.1 236 = .ok (.sipush 1363, 3) := by decide +kernel
theorem d_Md_breaks_239 : decode M_Md_breaks.2.1 239 = .ok (.iconst 4, 1) := by decide +kernel
theorem d_Md_breaks_240 : decode M_Md_breaks.2.1 240 = .ok (.iload 5, 2) := by decide +kernel
theorem d_Md_breaks_242 : decode M_Md_breaks.2.1 242 = .ok (.imul, 1) := by decide +kernel
theorem d_Md_breaks_243 : decode M_Md_breaks.2.1 243 = .ok (.iadd, 1) := by decide +kernel
theorem d_Md_breaks_244 : decode M_Md_breaks.2.1 244 = .ok (.iaload, 1) := by decide +kernel
theorem d_Md_breaks_245 : decode M_Md_breaks.2.1 245 = .ok (.aload_n 0, 1) := by decide +kernel
theorem d_Md_breaks_246 : decode M_Md_breaks.2.1 246 = .ok (.getfield 50, 3) := by decide +kernel
theorem d_Md_breaks_249 : decode M_Md_breaks.2.1 249 = .ok (.iload 5, 2) := by decide +kernel
theorem d_Md_breaks_251 : decode M_Md_breaks.2.1 251 = .ok (.iaload, 1) := by decide +kernel
theorem d_Md_breaks_252 : decode M_Md_breaks.2.1 252 = .ok (.iconst 4, 1) := by decide +kernel
theorem d_Md_breaks_253 : decode M_Md_breaks.2.1 253 = .ok (.invokevirtual 176, 3) := by decide +kernel
theorem d_Md_breaks_256 : decode M_Md_breaks.2.1 256 = .ok (.iinc 5 1, 3) := by decide +kernel
theorem d_Md_breaks_259 : decode M_Md_breaks.2.1 259 = .ok (.goto (-61), 3) := by decide +kernel
theorem d_Md_breaks_262 : decode M_Md_breaks.2.1 262 = .ok (.aload_n 0, 1) := by decide +kernel
theorem d_Md_breaks_263 : decode M_Md_breaks.2.1 263 = .ok (.getfield 7, 3) := by decide +kernel
theorem d_Md_breaks_266 : decode M_Md_breaks.2.1 266 = .ok (.sipush 2168, 3) := by decide +kernel
theorem d_Md_breaks_269 : decode M_Md_breaks.2.1 269 = .ok (.iaload, 1) := by decide +kernel
theorem d_Md_breaks_270 : decode M_Md_breaks.2.1 270 = .ok (.iconst 1, 1) := by decide +kernel
theorem d_Md_breaks_271 : decode M_Md_breaks.2.1 271 = .ok (.isub, 1) := by decide +kernel
theorem d_Md_breaks_272 : decode M_Md_breaks.2.1 272 = .ok (.istore 5, 2) := by decide +kernel
theorem d_Md_breaks_274 : decode M_Md_breaks.2.1 274 = .ok (.iload 5, 2) := by decide +kernel
theorem d_Md_breaks_276 : decode M_Md_breaks.2.1 276 = .ok (.ifCond .lt 34, 3) := by decide +kernel
theorem d_Md_breaks_279 : decode M_Md_breaks.2.1 279 = .ok (.aload_n 0, 1) := by decide +kernel
theorem d_Md_breaks_280 : decode M_Md_breaks.2.1 280 = .ok (.getfield 7, 3) := by decide +kernel
theorem d_Md_breaks_283 : decode M_Md_breaks.2.1 283 = .ok (.sipush 1363, 3) := by decide +kernel
theorem d_Md_breaks_286 : decode M_Md_breaks.2.1 286 = .ok (.iconst 4, 1) := by decide +kernel
theorem d_Md_breaks_287 : decode M_Md_breaks.2.1 287 = .ok (.iload 5, 2) := by decide +kernel
theorem d_Md_breaks_289 : decode M_Md_breaks.2.1 289 = .ok (.imul, 1) := by decide +kernel
theorem d_Md_breaks_290 : decode M_Md_breaks.2.1 290 = .ok (.iadd, 1) := by decide +kernel
theorem d_Md_breaks_291 : decode M_Md_breaks.2.1 291 = .ok (.iconst 1, 1) := by decide +kernel
theorem d_Md_breaks_292 : decode M_Md_breaks.2.1 292 = .ok (.iadd, 1) := by decide +kernel
theorem d_Md_breaks_293 : decode M_Md_breaks.2.1 293 = .ok (.iaload, 1) := by decide +kernel
theorem d_Md_breaks_294 : decode M_Md_breaks.2.1 294 = .ok (.iload_n 1, 1) := by decide +kernel
theorem d_Md_breaks_295 : decode M_Md_breaks.2.1 295 = .ok (.if_icmp .ne 9, 3) := by decide +kernel
theorem d_Md_breaks_298 : decode M_Md_breaks.2.1 298 = .ok (.aload_n 0, 1) := by decide +kernel
theorem d_Md_breaks_299 : decode M_Md_breaks.2.1 299 = .ok (.iload 5, 2) := by decide +kernel
theorem d_Md_breaks_301 : decode M_Md_breaks.2.1 301 = .ok (.invokevirtual 223, 3) := by decide +kernel
theorem d_Md_breaks_304 : decode M_Md_breaks.2.1 304 = .ok (.iinc 5 (-1), 3) := by decide +kernel
theorem d_Md_breaks_307 : decode M_Md_breaks.2.1 307 = .ok (.goto (-33), 3) := by decide +kernel
theorem d_Md_breaks_310 : decode M_Md_breaks.2.1 310 = .ok (.return_, 1) := by decide +kernel
def M_Md_owes : mj_M := (⟨"MarketTownModel", "owes", "(I)I"⟩, prog_13_method_56_code, 4, some .int, 0, 0)
theorem d_Md_owes_0 : decode M_Md_owes.2.1 0 = .ok (.iconst 0, 1) := by decide +kernel
theorem d_Md_owes_1 : decode M_Md_owes.2.1 1 = .ok (.istore_n 2, 1) := by decide +kernel
theorem d_Md_owes_2 : decode M_Md_owes.2.1 2 = .ok (.iconst 0, 1) := by decide +kernel
theorem d_Md_owes_3 : decode M_Md_owes.2.1 3 = .ok (.istore_n 3, 1) := by decide +kernel
theorem d_Md_owes_4 : decode M_Md_owes.2.1 4 = .ok (.iload_n 3, 1) := by decide +kernel
theorem d_Md_owes_5 : decode M_Md_owes.2.1 5 = .ok (.aload_n 0, 1) := by decide +kernel
theorem d_Md_owes_6 : decode M_Md_owes.2.1 6 = .ok (.getfield 7, 3) := by decide +kernel
theorem d_Md_owes_9 : decode M_Md_owes.2.1 9 = .ok (.sipush 2168, 3) := by decide +kernel
theorem d_Md_owes_12 : decode M_Md_owes.2.1 12 = .ok (.iaload, 1) := by decide +kernel
theorem d_Md_owes_13 : decode M_Md_owes.2.1 13 = .ok (.if_icmp .ge 48, 3) := by decide +kernel
theorem d_Md_owes_16 : decode M_Md_owes.2.1 16 = .ok (.iload_n 2, 1) := by decide +kernel
theorem d_Md_owes_17 : decode M_Md_owes.2.1 17 = .ok (.aload_n 0, 1) := by decide +kernel
theorem d_Md_owes_18 : decode M_Md_owes.2.1 18 = .ok (.getfield 7, 3) := by decide +kernel
theorem d_Md_owes_21 : decode M_Md_owes.2.1 21 = .ok (.sipush 1363, 3) := by decide +kernel
theorem d_Md_owes_24 : decode M_Md_owes.2.1 24 = .ok (.iconst 4, 1) := by decide +kernel
theorem d_Md_owes_25 : decode M_Md_owes.2.1 25 = .ok (.iload_n 3, 1) := by decide +kernel
theorem d_Md_owes_26 : decode M_Md_owes.2.1 26 = .ok (.imul, 1) := by decide +kernel
theorem d_Md_owes_27 : decode M_Md_owes.2.1 27 = .ok (.iadd, 1) := by decide +kernel
theorem d_Md_owes_28 : decode M_Md_owes.2.1 28 = .ok (.iconst 1, 1) := by decide +kernel
theorem d_Md_owes_29 : decode M_Md_owes.2.1 29 = .ok (.iadd, 1) := by decide +kernel
theorem d_Md_owes_30 : decode M_Md_owes.2.1 30 = .ok (.iaload, 1) := by decide +kernel
theorem d_Md_owes_31 : decode M_Md_owes.2.1 31 = .ok (.iload_n 1, 1) := by decide +kernel
theorem d_Md_owes_32 : decode M_Md_owes.2.1 32 = .ok (.if_icmp .ne 20, 3) := by decide +kernel
theorem d_Md_owes_35 : decode M_Md_owes.2.1 35 = .ok (.aload_n 0, 1) := by decide +kernel
theorem d_Md_owes_36 : decode M_Md_owes.2.1 36 = .ok (.getfield 7, 3) := by decide +kernel
theorem d_Md_owes_39 : decode M_Md_owes.2.1 39 = .ok (.sipush 1363, 3) := by decide +kernel
theorem d_Md_owes_42 : decode M_Md_owes.2.1 42 = .ok (.iconst 4, 1) := by decide +kernel
theorem d_Md_owes_43 : decode M_Md_owes.2.1 43 = .ok (.iload_n 3, 1) := by decide +kernel
theorem d_Md_owes_44 : decode M_Md_owes.2.1 44 = .ok (.imul, 1) := by decide +kernel
theorem d_Md_owes_45 : decode M_Md_owes.2.1 45 = .ok (.iadd, 1) := by decide +kernel
theorem d_Md_owes_46 : decode M_Md_owes.2.1 46 = .ok (.iconst 2, 1) := by decide +kernel
theorem d_Md_owes_47 : decode M_Md_owes.2.1 47 = .ok (.iadd, 1) := by decide +kernel
theorem d_Md_owes_48 : decode M_Md_owes.2.1 48 = .ok (.iaload, 1) := by decide +kernel
theorem d_Md_owes_49 : decode M_Md_owes.2.1 49 = .ok (.goto 4, 3) := by decide +kernel
theorem d_Md_owes_52 : decode M_Md_owes.2.1 52 = .ok (.iconst 0, 1) := by decide +kernel
theorem d_Md_owes_53 : decode M_Md_owes.2.1 53 = .ok (.iadd, 1) := by decide +kernel
theorem d_Md_owes_54 : decode M_Md_owes.2.1 54 = .ok (.istore_n 2, 1) := by decide +kernel
theorem d_Md_owes_55 : decode M_Md_owes.2.1 55 = .ok (.iinc 3 1, 3) := by decide +kernel
theorem d_Md_owes_58 : decode M_Md_owes.2.1 58 = .ok (.goto (-54), 3) := by decide +kernel
theorem d_Md_owes_61 : decode M_Md_owes.2.1 61 = .ok (.iload_n 2, 1) := by decide +kernel
theorem d_Md_owes_62 : decode M_Md_owes.2.1 62 = .ok (.ireturn, 1) := by decide +kernel
def M_Md_closeLoan : mj_M := (⟨"MarketTownModel", "closeLoan", "(I)V"⟩, prog_13_method_57_code, 3, none, 0, 0)
theorem d_Md_closeLoan_0 : decode M_Md_closeLoan.2.1 0 = .ok (.sipush 1363, 3) := by decide +kernel
theorem d_Md_closeLoan_3 : decode M_Md_closeLoan.2.1 3 = .ok (.iconst 4, 1) := by decide +kernel
theorem d_Md_closeLoan_4 : decode M_Md_closeLoan.2.1 4 = .ok (.iload_n 1, 1) := by decide +kernel
theorem d_Md_closeLoan_5 : decode M_Md_closeLoan.2.1 5 = .ok (.imul, 1) := by decide +kernel
theorem d_Md_closeLoan_6 : decode M_Md_closeLoan.2.1 6 = .ok (.iadd, 1) := by decide +kernel
theorem d_Md_closeLoan_7 : decode M_Md_closeLoan.2.1 7 = .ok (.istore_n 2, 1) := by decide +kernel
theorem d_Md_closeLoan_8 : decode M_Md_closeLoan.2.1 8 = .ok (.iload_n 2, 1) := by decide +kernel
theorem d_Md_closeLoan_9 : decode M_Md_closeLoan.2.1 9 = .ok (.sipush 1363, 3) := by decide +kernel
theorem d_Md_closeLoan_12 : decode M_Md_closeLoan.2.1 12 = .ok (.iconst 4, 1) := by decide +kernel
theorem d_Md_closeLoan_13 : decode M_Md_closeLoan.2.1 13 = .ok (.aload_n 0, 1) := by decide +kernel
theorem d_Md_closeLoan_14 : decode M_Md_closeLoan.2.1 14 = .ok (.getfield 7, 3) := by decide +kernel
theorem d_Md_closeLoan_17 : decode M_Md_closeLoan.2.1 17 = .ok (.sipush 2168, 3) := by decide +kernel
theorem d_Md_closeLoan_20 : decode M_Md_closeLoan.2.1 20 = .ok (.iaload, 1) := by decide +kernel
theorem d_Md_closeLoan_21 : decode M_Md_closeLoan.2.1 21 = .ok (.iconst 1, 1) := by decide +kernel
theorem d_Md_closeLoan_22 : decode M_Md_closeLoan.2.1 22 = .ok (.isub, 1) := by decide +kernel
theorem d_Md_closeLoan_23 : decode M_Md_closeLoan.2.1 23 = .ok (.imul, 1) := by decide +kernel
theorem d_Md_closeLoan_24 : decode M_Md_closeLoan.2.1 24 = .ok (.iadd, 1) := by decide +kernel
theorem d_Md_closeLoan_25 : decode M_Md_closeLoan.2.1 25 = .ok (.if_icmp .ge 23, 3) := by decide +kernel
theorem d_Md_closeLoan_28 : decode M_Md_closeLoan.2.1 28 = .ok (.aload_n 0, 1) := by decide +kernel
theorem d_Md_closeLoan_29 : decode M_Md_closeLoan.2.1 29 = .ok (.getfield 7, 3) := by decide +kernel
theorem d_Md_closeLoan_32 : decode M_Md_closeLoan.2.1 32 = .ok (.iload_n 2, 1) := by decide +kernel
theorem d_Md_closeLoan_33 : decode M_Md_closeLoan.2.1 33 = .ok (.aload_n 0, 1) := by decide +kernel
theorem d_Md_closeLoan_34 : decode M_Md_closeLoan.2.1 34 = .ok (.getfield 7, 3) := by decide +kernel
theorem d_Md_closeLoan_37 : decode M_Md_closeLoan.2.1 37 = .ok (.iload_n 2, 1) := by decide +kernel
theorem d_Md_closeLoan_38 : decode M_Md_closeLoan.2.1 38 = .ok (.iconst 4, 1) := by decide +kernel
theorem d_Md_closeLoan_39 : decode M_Md_closeLoan.2.1 39 = .ok (.iadd, 1) := by decide +kernel
theorem d_Md_closeLoan_40 : decode M_Md_closeLoan.2.1 40 = .ok (.iaload, 1) := by decide +kernel
theorem d_Md_closeLoan_41 : decode M_Md_closeLoan.2.1 41 = .ok (.iastore, 1) := by decide +kernel
theorem d_Md_closeLoan_42 : decode M_Md_closeLoan.2.1 42 = .ok (.iinc 2 1, 3) := by decide +kernel
theorem d_Md_closeLoan_45 : decode M_Md_closeLoan.2.1 45 = .ok (.goto (-37), 3) := by decide +kernel
theorem d_Md_closeLoan_48 : decode M_Md_closeLoan.2.1 48 = .ok (.aload_n 0, 1) := by decide +kernel
theorem d_Md_closeLoan_49 : decode M_Md_closeLoan.2.1 49 = .ok (.getfield 7, 3) := by decide +kernel
theorem d_Md_closeLoan_52 : decode M_Md_closeLoan.2.1 52 = .ok (.sipush 2168, 3) := by decide +kernel
theorem d_Md_closeLoan_55 : decode M_Md_closeLoan.2.1 55 = .ok (.dup2, 1) := by decide +kernel
theorem d_Md_closeLoan_56 : decode M_Md_closeLoan.2.1 56 = .ok (.iaload, 1) := by decide +kernel
theorem d_Md_closeLoan_57 : decode M_Md_closeLoan.2.1 57 = .ok (.iconst 1, 1) := by decide +kernel
theorem d_Md_closeLoan_58 : decode M_Md_closeLoan.2.1 58 = .ok (.isub, 1) := by decide +kernel
theorem d_Md_closeLoan_59 : decode M_Md_closeLoan.2.1 59 = .ok (.iastore, 1) := by decide +kernel
theorem d_Md_closeLoan_60 : decode M_Md_closeLoan.2.1 60 = .ok (.return_, 1) := by decide +kernel
def M_Md_age : mj_M := (⟨"MarketTownModel", "age", "(II)V"⟩, prog_13_method_61_code, 5, none, 1, 23)
theorem d_Md_age_0 : decode M_Md_age.2.1 0 = .ok (.aload_n 0, 1) := by decide +kernel
theorem d_Md_age_1 : decode M_Md_age.2.1 1 = .ok (.getfield 7, 3) := by decide +kernel
theorem d_Md_age_4 : decode M_Md_age.2.1 4 = .ok (.iload_n 1, 1) := by decide +kernel
theorem d_Md_age_5 : decode M_Md_age.2.1 5 = .ok (.iload_n 2, 1) := by decide +kernel
theorem d_Md_age_6 : decode M_Md_age.2.1 6 = .ok (.bipush 9, 2) := by decide +kernel
theorem d_Md_age_8 : decode M_Md_age.2.1 8 = .ok (.invokestatic 57, 3) := by decide +kernel
theorem d_Md_age_11 : decode M_Md_age.2.1 11 = .ok (.dup2, 1) := by decide +kernel
theorem d_Md_age_12 : decode M_Md_age.2.1 12 = .ok (.iaload, 1) := by decide +kernel
theorem d_Md_age_13 : decode M_Md_age.2.1 13 = .ok (.aload_n 0, 1) := by decide +kernel
theorem d_Md_age_14 : decode M_Md_age.2.1 14 = .ok (.getfield 7, 3) := by decide +kernel
theorem d_Md_age_17 : decode M_Md_age.2.1 17 = .ok (.iload_n 1, 1) := by decide +kernel
theorem d_Md_age_18 : decode M_Md_age.2.1 18 = .ok (.iload_n 2, 1) := by decide +kernel
theorem d_Md_age_19 : decode M_Md_age.2.1 19 = .ok (.bipush 8, 2) := by decide +kernel
theorem d_Md_age_21 : decode M_Md_age.2.1 21 = .ok (.invokestatic 57, 3) := by decide +kernel
theorem d_Md_age_24 : decode M_Md_age.2.1 24 = .ok (.iaload, 1) := by decide +kernel
theorem d_Md_age_25 : decode M_Md_age.2.1 25 = .ok (.iadd, 1) := by decide +kernel
theorem d_Md_age_26 : decode M_Md_age.2.1 26 = .ok (.iastore, 1) := by decide +kernel
theorem d_Md_age_27 : decode M_Md_age.2.1 27 = .ok (.bipush 8, 2) := by decide +kernel
theorem d_Md_age_29 : decode M_Md_age.2.1 29 = .ok (.istore_n 3, 1) := by decide +kernel
theorem d_Md_age_30 : decode M_Md_age.2.1 30 = .ok (.iload_n 3, 1) := by decide +kernel
theorem d_Md_age_31 : decode M_Md_age.2.1 31 = .ok (.ifCond .le 33, 3) := by decide +kernel
theorem d_Md_age_34 : decode M_Md_age.2.1 34 = .ok (.aload_n 0, 1) := by decide +kernel
theorem d_Md_age_35 : decode M_Md_age.2.1 35 = .ok (.getfield 7, 3) := by decide +kernel
theorem d_Md_age_38 : decode M_Md_age.2.1 38 = .ok (.iload_n 1, 1) := by decide +kernel
theorem d_Md_age_39 : decode M_Md_age.2.1 39 = .ok (.iload_n 2, 1) := by decide +kernel
theorem d_Md_age_40 : decode M_Md_age.2.1 40 = .ok (.iload_n 3, 1) := by decide +kernel
theorem d_Md_age_41 : decode M_Md_age.2.1 41 = .ok (.invokestatic 57, 3) := by decide +kernel
theorem d_Md_age_44 : decode M_Md_age.2.1 44 = .ok (.aload_n 0, 1) := by decide +kernel
theorem d_Md_age_45 : decode M_Md_age.2.1 45 = .ok (.getfield 7, 3) := by decide +kernel
theorem d_Md_age_48 : decode M_Md_age.2.1 48 = .ok (.iload_n 1, 1) := by decide +kernel
theorem d_Md_age_49 : decode M_Md_age.2.1 49 = .ok (.iload_n 2, 1) := by decide +kernel
theorem d_Md_age_50 : decode M_Md_age.2.1 50 = .ok (.iload_n 3, 1) := by decide +kernel
theorem d_Md_age_51 : decode M_Md_age.2.1 51 = .ok (.iconst 1, 1) := by decide +kernel
theorem d_Md_age_52 : decode M_Md_age.2.1 52 = .ok (.isub, 1) := by decide +kernel
theorem d_Md_age_53 : decode M_Md_age.2.1 53 = .ok (.invokestatic 57, 3) := by decide +kernel
theorem d_Md_age_56 : decode M_Md_age.2.1 56 = .ok (.iaload, 1) := by decide +kernel
theorem d_Md_age_57 : decode M_Md_age.2.1 57 = .ok (.iastore, 1) := by decide +kernel
theorem d_Md_age_58 : decode M_Md_age.2.1 58 = .ok (.iinc 3 (-1), 3) := by decide +kernel
theorem d_Md_age_61 : decode M_Md_age.2.1 61 = .ok (.goto (-31), 3) := by decide +kernel
theorem d_Md_age_64 : decode M_Md_age.2.1 64 = .ok (.aload_n 0, 1) := by decide +kernel
theorem d_Md_age_65 : decode M_Md_age.2.1 65 = .ok (.getfield 7, 3) := by decide +kernel
theorem d_Md_age_68 : decode M_Md_age.2.1 68 = .ok (.iload_n 1, 1) := by decide +kernel
theorem d_Md_age_69 : decode M_Md_age.2.1 69 = .ok (.iload_n 2, 1) := by decide +kernel
theorem d_Md_age_70 : decode M_Md_age.2.1 70 = .ok (.iconst 0, 1) := by decide +kernel
theorem d_Md_age_71 : decode M_Md_age.2.1 71 = .ok (.invokestatic 57, 3) := by decide +kernel
theorem d_Md_age_74 : decode M_Md_age.2.1 74 = .ok (.iconst 0, 1) := by decide +kernel
theorem d_Md_age_75 : decode M_Md_age.2.1 75 = .ok (.iastore, 1) := by decide +kernel
theorem d_Md_age_76 : decode M_Md_age.2.1 76 = .ok (.aload_n 0, 1) := by decide +kernel
theorem d_Md_age_77 : decode M_Md_age.2.1 77 = .ok (.iload_n 2, 1) := by decide +kernel
theorem d_Md_age_78 : decode M_Md_age.2.1 78 = .ok (.iconst 0, 1) := by decide +kernel
theorem d_Md_age_79 : decode M_Md_age.2.1 79 = .ok (.invokevirtual 153, 3) := by decide +kernel
theorem d_Md_age_82 : decode M_Md_age.2.1 82 = .ok (.istore_n 3, 1) := by decide +kernel
theorem d_Md_age_83 : decode M_Md_age.2.1 83 = .ok (.iload_n 3, 1) := by decide +kernel
theorem d_Md_age_84 : decode M_Md_age.2.1 84 = .ok (.istore 4, 2) := by decide +kernel
theorem d_Md_age_86 : decode M_Md_age.2.1 86 = .ok (.iload 4, 2) := by decide +kernel
theorem d_Md_age_88 : decode M_Md_age.2.1 88 = .ok (.bipush 10, 2) := by decide +kernel
theorem d_Md_age_90 : decode M_Md_age.2.1 90 = .ok (.if_icmp .ge 45, 3) := by decide +kernel
theorem d_Md_age_93 : decode M_Md_age.2.1 93 = .ok (.iload_n 3, 1) := by decide +kernel
theorem d_Md_age_94 : decode M_Md_age.2.1 94 = .ok (.ifCond .le 41, 3) := by decide +kernel
theorem d_Md_age_97 : decode M_Md_age.2.1 97 = .ok (.aload_n 0, 1) := by decide +kernel
theorem d_Md_age_98 : decode M_Md_age.2.1 98 = .ok (.iload_n 2, 1) := by decide +kernel
theorem d_Md_age_99 : decode M_Md_age.2.1 99 = .ok (.bipush 6, 2) := by decide +kernel
theorem d_Md_age_101 : decode M_Md_age.2.1 101 = .ok (.aload_n 0, 1) := by decide +kernel
theorem d_Md_age_102 : decode M_Md_age.2.1 102 = .ok (.getfield 7, 3) := by decide +kernel
theorem d_Md_age_105 : decode M_Md_age.2.1 105 = .ok (.iload_n 1, 1) := by decide +kernel
theorem d_Md_age_106 : decode M_Md_age.2.1 106 = .ok (.iload_n 2, 1) := by decide +kernel
theorem d_Md_age_107 : decode M_Md_age.2.1 107 = .ok (.iload 4, 2) := by decide +kernel
theorem d_Md_age_109 : decode M_Md_age.2.1 109 = .ok (.invokestatic 57, 3) := by decide +kernel
theorem d_Md_age_112 : decode M_Md_age.2.1 112 = .ok (.iaload, 1) := by decide +kernel
theorem d_Md_age_113 : decode M_Md_age.2.1 113 = .ok (.invokevirtual 169, 3) := by decide +kernel
theorem d_Md_age_116 : decode M_Md_age.2.1 116 = .ok (.aload_n 0, 1) := by decide +kernel
theorem d_Md_age_117 : decode M_Md_age.2.1 117 = .ok (.getfield 7, 3) := by decide +kernel
theorem d_Md_age_120 : decode M_Md_age.2.1 120 = .ok (.iload_n 1, 1) := by decide +kernel
theorem d_Md_age_121 : decode M_Md_age.2.1 121 = .ok (.iload_n 2, 1) := by decide +kernel
theorem d_Md_age_122 : decode M_Md_age.2.1 122 = .ok (.iload 4, 2) := by decide +kernel
theorem d_Md_age_124 : decode M_Md_age.2.1 124 = .ok (.invokestatic 57, 3) := by decide +kernel
theorem d_Md_age_127 : decode M_Md_age.2.1 127 = .ok (.iconst 0, 1) := by decide +kernel
theorem d_Md_age_128 : decode M_Md_age.2.1 128 = .ok (.iastore, 1) := by decide +kernel
theorem d_Md_age_129 : decode M_Md_age.2.1 129 = .ok (.iinc 4 1, 3) := by decide +kernel
theorem d_Md_age_132 : decode M_Md_age.2.1 132 = .ok (.goto (-46), 3) := by decide +kernel
theorem d_Md_age_135 : decode M_Md_age.2.1 135 = .ok (.return_, 1) := by decide +kernel
def M_Md_about : mj_M := (⟨"MarketTownModel", "about", "(II)I"⟩, prog_13_method_65_code, 3, some .int, 2, 43)
theorem d_Md_about_0 : decode M_Md_about.2.1 0 = .ok (.aload_n 0, 1) := by decide +kernel
theorem d_Md_about_1 : decode M_Md_about.2.1 1 = .ok (.iload_n 1, 1) := by decide +kernel
theorem d_Md_about_2 : decode M_Md_about.2.1 2 = .ok (.invokevirtual 69, 3) := by decide +kernel
theorem d_Md_about_5 : decode M_Md_about.2.1 5 = .ok (.ifCond .eq 13, 3) := by decide +kernel
theorem d_Md_about_8 : decode M_Md_about.2.1 8 = .ok (.iload_n 2, 1) := by decide +kernel
theorem d_Md_about_9 : decode M_Md_about.2.1 9 = .ok (.iconst 0, 1) := by decide +kernel
theorem d_Md_about_10 : decode M_Md_about.2.1 10 = .ok (.bipush 6, 2) := by decide +kernel
theorem d_Md_about_12 : decode M_Md_about.2.1 12 = .ok (.invokestatic 53, 3) := by decide +kernel
theorem d_Md_about_15 : decode M_Md_about.2.1 15 = .ok (.ifCond .ne 6, 3) := by decide +kernel
theorem d_Md_about_18 : decode M_Md_about.2.1 18 = .ok (.ldc 66, 2) := by decide +kernel
theorem d_Md_about_20 : decode M_Md_about.2.1 20 = .ok (.ireturn, 1) := by decide +kernel
theorem d_Md_about_21 : decode M_Md_about.2.1 21 = .ok (.iload_n 2, 1) := by decide +kernel
theorem d_Md_about_22 : decode M_Md_about.2.1 22 = .ok (.tableswitch 61 3 6 #[30, 36, 42, 48], 30) := by decide +kernel
theorem d_Md_about_52 : decode M_Md_about.2.1 52 = .ok (.aload_n 0, 1) := by decide +kernel
theorem d_Md_about_53 : decode M_Md_about.2.1 53 = .ok (.iload_n 1, 1) := by decide +kernel
theorem d_Md_about_54 : decode M_Md_about.2.1 54 = .ok (.invokevirtual 129, 3) := by decide +kernel
theorem d_Md_about_57 : decode M_Md_about.2.1 57 = .ok (.ireturn, 1) := by decide +kernel
theorem d_Md_about_58 : decode M_Md_about.2.1 58 = .ok (.aload_n 0, 1) := by decide +kernel
theorem d_Md_about_59 : decode M_Md_about.2.1 59 = .ok (.iload_n 1, 1) := by decide +kernel
theorem d_Md_about_60 : decode M_Md_about.2.1 60 = .ok (.invokevirtual 220, 3) := by decide +kernel
theorem d_Md_about_63 : decode M_Md_about.2.1 63 = .ok (.ireturn, 1) := by decide +kernel
theorem d_Md_about_64 : decode M_Md_about.2.1 64 = .ok (.aload_n 0, 1) := by decide +kernel
theorem d_Md_about_65 : decode M_Md_about.2.1 65 = .ok (.iload_n 1, 1) := by decide +kernel
theorem d_Md_about_66 : decode M_Md_about.2.1 66 = .ok (.invokevirtual 256, 3) := by decide +kernel
theorem d_Md_about_69 : decode M_Md_about.2.1 69 = .ok (.ireturn, 1) := by decide +kernel
theorem d_Md_about_70 : decode M_Md_about.2.1 70 = .ok (.aload_n 0, 1) := by decide +kernel
theorem d_Md_about_71 : decode M_Md_about.2.1 71 = .ok (.getfield 7, 3) := by decide +kernel
theorem d_Md_about_74 : decode M_Md_about.2.1 74 = .ok (.iconst 0, 1) := by decide +kernel
theorem d_Md_about_75 : decode M_Md_about.2.1 75 = .ok (.iconst 5, 1) := by decide +kernel
theorem d_Md_about_76 : decode M_Md_about.2.1 76 = .ok (.iload_n 1, 1) := by decide +kernel
theorem d_Md_about_77 : decode M_Md_about.2.1 77 = .ok (.imul, 1) := by decide +kernel
theorem d_Md_about_78 : decode M_Md_about.2.1 78 = .ok (.iadd, 1) := by decide +kernel
theorem d_Md_about_79 : decode M_Md_about.2.1 79 = .ok (.iconst 3, 1) := by decide +kernel
theorem d_Md_about_80 : decode M_Md_about.2.1 80 = .ok (.iadd, 1) := by decide +kernel
theorem d_Md_about_81 : decode M_Md_about.2.1 81 = .ok (.iaload, 1) := by decide +kernel
theorem d_Md_about_82 : decode M_Md_about.2.1 82 = .ok (.ireturn, 1) := by decide +kernel
theorem d_Md_about_83 : decode M_Md_about.2.1 83 = .ok (.aload_n 0, 1) := by decide +kernel
theorem d_Md_about_84 : decode M_Md_about.2.1 84 = .ok (.getfield 7, 3) := by decide +kernel
theorem d_Md_about_87 : decode M_Md_about.2.1 87 = .ok (.iconst 0, 1) := by decide +kernel
theorem d_Md_about_88 : decode M_Md_about.2.1 88 = .ok (.iconst 5, 1) := by decide +kernel
theorem d_Md_about_89 : decode M_Md_about.2.1 89 = .ok (.iload_n 1, 1) := by decide +kernel
theorem d_Md_about_90 : decode M_Md_about.2.1 90 = .ok (.imul, 1) := by decide +kernel
theorem d_Md_about_91 : decode M_Md_about.2.1 91 = .ok (.iadd, 1) := by decide +kernel
theorem d_Md_about_92 : decode M_Md_about.2.1 92 = .ok (.iload_n 2, 1) := by decide +kernel
theorem d_Md_about_93 : decode M_Md_about.2.1 93 = .ok (.iadd, 1) := by decide +kernel
theorem d_Md_about_94 : decode M_Md_about.2.1 94 = .ok (.iaload, 1) := by decide +kernel
theorem d_Md_about_95 : decode M_Md_about.2.1 95 = .ok (.ireturn, 1) := by decide +kernel
def M_Md_owed : mj_M := (⟨"MarketTownModel", "owed", "(I)I"⟩, prog_13_method_64_code, 4, some .int, 0, 0)
theorem d_Md_owed_0 : decode M_Md_owed.2.1 0 = .ok (.iconst 0, 1) := by decide +kernel
theorem d_Md_owed_1 : decode M_Md_owed.2.1 1 = .ok (.istore_n 2, 1) := by decide +kernel
theorem d_Md_owed_2 : decode M_Md_owed.2.1 2 = .ok (.iconst 0, 1) := by decide +kernel
theorem d_Md_owed_3 : decode M_Md_owed.2.1 3 = .ok (.istore_n 3, 1) := by decide +kernel
theorem d_Md_owed_4 : decode M_Md_owed.2.1 4 = .ok (.iload_n 3, 1) := by decide +kernel
theorem d_Md_owed_5 : decode M_Md_owed.2.1 5 = .ok (.aload_n 0, 1) := by decide +kernel
theorem d_Md_owed_6 : decode M_Md_owed.2.1 6 = .ok (.getfield 7, 3) := by decide +kernel
theorem d_Md_owed_9 : decode M_Md_owed.2.1 9 = .ok (.sipush 2168, 3) := by decide +kernel
theorem d_Md_owed_12 : decode M_Md_owed.2.1 12 = .ok (.iaload, 1) := by decide +kernel
theorem d_Md_owed_13 : decode M_Md_owed.2.1 13 = .ok (.if_icmp .ge 46, 3) := by decide +kernel
theorem d_Md_owed_16 : decode M_Md_owed.2.1 16 = .ok (.iload_n 2, 1) := by decide +kernel
theorem d_Md_owed_17 : decode M_Md_owed.2.1 17 = .ok (.aload_n 0, 1) := by decide +kernel
theorem d_Md_owed_18 : decode M_Md_owed.2.1 18 = .ok (.getfield 7, 3) := by decide +kernel
theorem d_Md_owed_21 : decode M_Md_owed.2.1 21 = .ok (.sipush 1363, 3) := by decide +kernel
theorem d_Md_owed_24 : decode M_Md_owed.2.1 24 = .ok (.iconst 4, 1) := by decide +kernel
theorem d_Md_owed_25 : decode M_Md_owed.2.1 25 = .ok (.iload_n 3, 1) := by decide +kernel
theorem d_Md_owed_26 : decode M_Md_owed.2.1 26 = .ok (.imul, 1) := by decide +kernel
theorem d_Md_owed_27 : decode M_Md_owed.2.1 27 = .ok (.iadd, 1) := by decide +kernel
theorem d_Md_owed_28 : decode M_Md_owed.2.1 28 = .ok (.iaload, 1) := by decide +kernel
theorem d_Md_owed_29 : decode M_Md_owed.2.1 29 = .ok (.iload_n 1, 1) := by decide +kernel
theorem d_Md_owed_30 : decode M_Md_owed.2.1 30 = .ok (.if_icmp .ne 20, 3) := by decide +kernel
theorem d_Md_owed_33 : decode M_Md_owed.2.1 33 = .ok (.aload_n 0, 1) := by decide +kernel
theorem d_Md_owed_34 : decode M_Md_owed.2.1 34 = .ok (.getfield 7, 3) := by decide +kernel
theorem d_Md_owed_37 : decode M_Md_owed.2.1 37 = .ok (.sipush 1363, 3) := by decide +kernel
theorem d_Md_owed_40 : decode M_Md_owed.2.1 40 = .ok (.iconst 4, 1) := by decide +kernel
theorem d_Md_owed_41 : decode M_Md_owed.2.1 41 = .ok (.iload_n 3, 1) := by decide +kernel
theorem d_Md_owed_42 : decode M_Md_owed.2.1 42 = .ok (.imul, 1) := by decide +kernel
theorem d_Md_owed_43 : decode M_Md_owed.2.1 43 = .ok (.iadd, 1) := by decide +kernel
theorem d_Md_owed_44 : decode M_Md_owed.2.1 44 = .ok (.iconst 2, 1) := by decide +kernel
theorem d_Md_owed_45 : decode M_Md_owed.2.1 45 = .ok (.iadd, 1) := by decide +kernel
theorem d_Md_owed_46 : decode M_Md_owed.2.1 46 = .ok (.iaload, 1) := by decide +kernel
theorem d_Md_owed_47 : decode M_Md_owed.2.1 47 = .ok (.goto 4, 3) := by decide +kernel
theorem d_Md_owed_50 : decode M_Md_owed.2.1 50 = .ok (.iconst 0, 1) := by decide +kernel
theorem d_Md_owed_51 : decode M_Md_owed.2.1 51 = .ok (.iadd, 1) := by decide +kernel
theorem d_Md_owed_52 : decode M_Md_owed.2.1 52 = .ok (.istore_n 2, 1) := by decide +kernel
theorem d_Md_owed_53 : decode M_Md_owed.2.1 53 = .ok (.iinc 3 1, 3) := by decide +kernel
theorem d_Md_owed_56 : decode M_Md_owed.2.1 56 = .ok (.goto (-52), 3) := by decide +kernel
theorem d_Md_owed_59 : decode M_Md_owed.2.1 59 = .ok (.iload_n 2, 1) := by decide +kernel
theorem d_Md_owed_60 : decode M_Md_owed.2.1 60 = .ok (.ireturn, 1) := by decide +kernel
def M_Md_isOf : mj_M := (⟨"MarketTownModel", "isOf", "(II)I"⟩, prog_13_method_66_code, 3, some .int, 2, 43)
theorem d_Md_isOf_0 : decode M_Md_isOf.2.1 0 = .ok (.aload_n 0, 1) := by decide +kernel
theorem d_Md_isOf_1 : decode M_Md_isOf.2.1 1 = .ok (.iload_n 1, 1) := by decide +kernel
theorem d_Md_isOf_2 : decode M_Md_isOf.2.1 2 = .ok (.invokevirtual 69, 3) := by decide +kernel
theorem d_Md_isOf_5 : decode M_Md_isOf.2.1 5 = .ok (.ifCond .eq 12, 3) := by decide +kernel
theorem d_Md_isOf_8 : decode M_Md_isOf.2.1 8 = .ok (.iload_n 2, 1) := by decide +kernel
theorem d_Md_isOf_9 : decode M_Md_isOf.2.1 9 = .ok (.iconst 0, 1) := by decide +kernel
theorem d_Md_isOf_10 : decode M_Md_isOf.2.1 10 = .ok (.iconst 5, 1) := by decide +kernel
theorem d_Md_isOf_11 : decode M_Md_isOf.2.1 11 = .ok (.invokestatic 53, 3) := by decide +kernel
theorem d_Md_isOf_14 : decode M_Md_isOf.2.1 14 = .ok (.ifCond .ne 6, 3) := by decide +kernel
theorem d_Md_isOf_17 : decode M_Md_isOf.2.1 17 = .ok (.ldc 66, 2) := by decide +kernel
theorem d_Md_isOf_19 : decode M_Md_isOf.2.1 19 = .ok (.ireturn, 1) := by decide +kernel
theorem d_Md_isOf_20 : decode M_Md_isOf.2.1 20 = .ok (.aload_n 0, 1) := by decide +kernel
theorem d_Md_isOf_21 : decode M_Md_isOf.2.1 21 = .ok (.iload_n 1, 1) := by decide +kernel
theorem d_Md_isOf_22 : decode M_Md_isOf.2.1 22 = .ok (.iload_n 2, 1) := by decide +kernel
theorem d_Md_isOf_23 : decode M_Md_isOf.2.1 23 = .ok (.invokevirtual 140, 3) := by decide +kernel
theorem d_Md_isOf_26 : decode M_Md_isOf.2.1 26 = .ok (.ifCond .eq 7, 3) := by decide +kernel
theorem d_Md_isOf_29 : decode M_Md_isOf.2.1 29 = .ok (.iconst 1, 1) := by decide +kernel
theorem d_Md_isOf_30 : decode M_Md_isOf.2.1 30 = .ok (.goto 4, 3) := by decide +kernel
theorem d_Md_isOf_33 : decode M_Md_isOf.2.1 33 = .ok (.iconst 0, 1) := by decide +kernel
theorem d_Md_isOf_34 : decode M_Md_isOf.2.1 34 = .ok (.ireturn, 1) := by decide +kernel
def M_Md_has : mj_M := (⟨"MarketTownModel", "has", "(III)I"⟩, prog_13_method_67_code, 4, some .int, 2, 46)
theorem d_Md_has_0 : decode M_Md_has.2.1 0 = .ok (.aload_n 0, 1) := by decide +kernel
theorem d_Md_has_1 : decode M_Md_has.2.1 1 = .ok (.iload_n 1, 1) := by decide +kernel
theorem d_Md_has_2 : decode M_Md_has.2.1 2 = .ok (.invokevirtual 69, 3) := by decide +kernel
theorem d_Md_has_5 : decode M_Md_has.2.1 5 = .ok (.ifCond .eq 20, 3) := by decide +kernel
theorem d_Md_has_8 : decode M_Md_has.2.1 8 = .ok (.iload_n 2, 1) := by decide +kernel
theorem d_Md_has_9 : decode M_Md_has.2.1 9 = .ok (.invokestatic 73, 3) := by decide +kernel
theorem d_Md_has_12 : decode M_Md_has.2.1 12 = .ok (.ifCond .eq 13, 3) := by decide +kernel
theorem d_Md_has_15 : decode M_Md_has.2.1 15 = .ok (.iload_n 3, 1) := by decide +kernel
theorem d_Md_has_16 : decode M_Md_has.2.1 16 = .ok (.iconst (-1), 1) := by decide +kernel
theorem d_Md_has_17 : decode M_Md_has.2.1 17 = .ok (.bipush 9, 2) := by decide +kernel
theorem d_Md_has_19 : decode M_Md_has.2.1 19 = .ok (.invokestatic 53, 3) := by decide +kernel
theorem d_Md_has_22 : decode M_Md_has.2.1 22 = .ok (.ifCond .ne 6, 3) := by decide +kernel
theorem d_Md_has_25 : decode M_Md_has.2.1 25 = .ok (.ldc 66, 2) := by decide +kernel
theorem d_Md_has_27 : decode M_Md_has.2.1 27 = .ok (.ireturn, 1) := by decide +kernel
theorem d_Md_has_28 : decode M_Md_has.2.1 28 = .ok (.iload_n 3, 1) := by decide +kernel
theorem d_Md_has_29 : decode M_Md_has.2.1 29 = .ok (.ifCond .ge 12, 3) := by decide +kernel
theorem d_Md_has_32 : decode M_Md_has.2.1 32 = .ok (.aload_n 0, 1) := by decide +kernel
theorem d_Md_has_33 : decode M_Md_has.2.1 33 = .ok (.iload_n 1, 1) := by decide +kernel
theorem d_Md_has_34 : decode M_Md_has.2.1 34 = .ok (.iload_n 2, 1) := by decide +kernel
theorem d_Md_has_35 : decode M_Md_has.2.1 35 = .ok (.invokevirtual 76, 3) := by decide +kernel
theorem d_Md_has_38 : decode M_Md_has.2.1 38 = .ok (.goto 14, 3) := by decide +kernel
theorem d_Md_has_41 : decode M_Md_has.2.1 41 = .ok (.aload_n 0, 1) := by decide +kernel
theorem d_Md_has_42 : decode M_Md_has.2.1 42 = .ok (.getfield 7, 3) := by decide +kernel
theorem d_Md_has_45 : decode M_Md_has.2.1 45 = .ok (.iload_n 1, 1) := by decide +kernel
theorem d_Md_has_46 : decode M_Md_has.2.1 46 = .ok (.iload_n 2, 1) := by decide +kernel
theorem d_Md_has_47 : decode M_Md_has.2.1 47 = .ok (.iload_n 3, 1) := by decide +kernel
theorem d_Md_has_48 : decode M_Md_has.2.1 48 = .ok (.invokestatic 57, 3) := by decide +kernel
theorem d_Md_has_51 : decode M_Md_has.2.1 51 = .ok (.iaload, 1) := by decide +kernel
theorem d_Md_has_52 : decode M_Md_has.2.1 52 = .ok (.ireturn, 1) := by decide +kernel
def M_Md_told : mj_M := (⟨"MarketTownModel", "told", "(III)I"⟩, prog_13_method_68_code, 4, some .int, 2, 43)
theorem d_Md_told_0 : decode M_Md_told.2.1 0 = .ok (.aload_n 0, 1) := by decide +kernel
theorem d_Md_told_1 : decode M_Md_told.2.1 1 = .ok (.iload_n 1, 1) := by decide +kernel
theorem d_Md_told_2 : decode M_Md_told.2.1 2 = .ok (.invokevirtual 69, 3) := by decide +kernel
theorem d_Md_told_5 : decode M_Md_told.2.1 5 = .ok (.ifCond .eq 28, 3) := by decide +kernel
theorem d_Md_told_8 : decode M_Md_told.2.1 8 = .ok (.iload_n 2, 1) := by decide +kernel
theorem d_Md_told_9 : decode M_Md_told.2.1 9 = .ok (.iconst 0, 1) := by decide +kernel
theorem d_Md_told_10 : decode M_Md_told.2.1 10 = .ok (.aload_n 0, 1) := by decide +kernel
theorem d_Md_told_11 : decode M_Md_told.2.1 11 = .ok (.iload_n 1, 1) := by decide +kernel
theorem d_Md_told_12 : decode M_Md_told.2.1 12 = .ok (.invokevirtual 129, 3) := by decide +kernel
theorem d_Md_told_15 : decode M_Md_told.2.1 15 = .ok (.iconst 1, 1) := by decide +kernel
theorem d_Md_told_16 : decode M_Md_told.2.1 16 = .ok (.isub, 1) := by decide +kernel
theorem d_Md_told_17 : decode M_Md_told.2.1 17 = .ok (.invokestatic 53, 3) := by decide +kernel
theorem d_Md_told_20 : decode M_Md_told.2.1 20 = .ok (.ifCond .eq 13, 3) := by decide +kernel
theorem d_Md_told_23 : decode M_Md_told.2.1 23 = .ok (.iload_n 3, 1) := by decide +kernel
theorem d_Md_told_24 : decode M_Md_told.2.1 24 = .ok (.iconst 0, 1) := by decide +kernel
theorem d_Md_told_25 : decode M_Md_told.2.1 25 = .ok (.bipush 8, 2) := by decide +kernel
theorem d_Md_told_27 : decode M_Md_told.2.1 27 = .ok (.invokestatic 53, 3) := by decide +kernel
theorem d_Md_told_30 : decode M_Md_told.2.1 30 = .ok (.ifCond .ne 6, 3) := by decide +kernel
theorem d_Md_told_33 : decode M_Md_told.2.1 33 = .ok (.ldc 66, 2) := by decide +kernel
theorem d_Md_told_35 : decode M_Md_told.2.1 35 = .ok (.ireturn, 1) := by decide +kernel
theorem d_Md_told_36 : decode M_Md_told.2.1 36 = .ok (.aload_n 0, 1) := by decide +kernel
theorem d_Md_told_37 : decode M_Md_told.2.1 37 = .ok (.iload_n 1, 1) := by decide +kernel
theorem d_Md_told_38 : decode M_Md_told.2.1 38 = .ok (.iload_n 2, 1) := by decide +kernel
theorem d_Md_told_39 : decode M_Md_told.2.1 39 = .ok (.iload_n 3, 1) := by decide +kernel
theorem d_Md_told_40 : decode M_Md_told.2.1 40 = .ok (.invokevirtual 144, 3) := by decide +kernel
theorem d_Md_told_43 : decode M_Md_told.2.1 43 = .ok (.ireturn, 1) := by decide +kernel
def M_Md_goods : mj_M := (⟨"MarketTownModel", "goods", "(II)I"⟩, prog_13_method_69_code, 5, some .int, 2, 46)
theorem d_Md_goods_0 : decode M_Md_goods.2.1 0 = .ok (.iload_n 1, 1) := by decide +kernel
theorem d_Md_goods_1 : decode M_Md_goods.2.1 1 = .ok (.invokestatic 73, 3) := by decide +kernel
theorem d_Md_goods_4 : decode M_Md_goods.2.1 4 = .ok (.ifCond .eq 13, 3) := by decide +kernel
theorem d_Md_goods_7 : decode M_Md_goods.2.1 7 = .ok (.iload_n 2, 1) := by decide +kernel
theorem d_Md_goods_8 : decode M_Md_goods.2.1 8 = .ok (.iconst 0, 1) := by decide +kernel
theorem d_Md_goods_9 : decode M_Md_goods.2.1 9 = .ok (.bipush 7, 2) := by decide +kernel
theorem d_Md_goods_11 : decode M_Md_goods.2.1 11 = .ok (.invokestatic 53, 3) := by decide +kernel
theorem d_Md_goods_14 : decode M_Md_goods.2.1 14 = .ok (.ifCond .ne 6, 3) := by decide +kernel
theorem d_Md_goods_17 : decode M_Md_goods.2.1 17 = .ok (.ldc 66, 2) := by decide +kernel
theorem d_Md_goods_19 : decode M_Md_goods.2.1 19 = .ok (.ireturn, 1) := by decide +kernel
theorem d_Md_goods_20 : decode M_Md_goods.2.1 20 = .ok (.iload_n 2, 1) := by decide +kernel
theorem d_Md_goods_21 : decode M_Md_goods.2.1 21 = .ok (.bipush 7, 2) := by decide +kernel
theorem d_Md_goods_23 : decode M_Md_goods.2.1 23 = .ok (.if_icmp .ge 10, 3) := by decide +kernel
theorem d_Md_goods_26 : decode M_Md_goods.2.1 26 = .ok (.aload_n 0, 1) := by decide +kernel
theorem d_Md_goods_27 : decode M_Md_goods.2.1 27 = .ok (.iload_n 1, 1) := by decide +kernel
theorem d_Md_goods_28 : decode M_Md_goods.2.1 28 = .ok (.iload_n 2, 1) := by decide +kernel
theorem d_Md_goods_29 : decode M_Md_goods.2.1 29 = .ok (.invokevirtual 153, 3) := by decide +kernel
theorem d_Md_goods_32 : decode M_Md_goods.2.1 32 = .ok (.ireturn, 1) := by decide +kernel
theorem d_Md_goods_33 : decode M_Md_goods.2.1 33 = .ok (.iconst 0, 1) := by decide +kernel
theorem d_Md_goods_34 : decode M_Md_goods.2.1 34 = .ok (.istore_n 3, 1) := by decide +kernel
theorem d_Md_goods_35 : decode M_Md_goods.2.1 35 = .ok (.iconst 0, 1) := by decide +kernel
theorem d_Md_goods_36 : decode M_Md_goods.2.1 36 = .ok (.istore 4, 2) := by decide +kernel
theorem d_Md_goods_38 : decode M_Md_goods.2.1 38 = .ok (.iload 4, 2) := by decide +kernel
theorem d_Md_goods_40 : decode M_Md_goods.2.1 40 = .ok (.aload_n 0, 1) := by decide +kernel
theorem d_Md_goods_41 : decode M_Md_goods.2.1 41 = .ok (.getfield 7, 3) := by decide +kernel
theorem d_Md_goods_44 : decode M_Md_goods.2.1 44 = .ok (.sipush 2163, 3) := by decide +kernel
theorem d_Md_goods_47 : decode M_Md_goods.2.1 47 = .ok (.iaload, 1) := by decide +kernel
theorem d_Md_goods_48 : decode M_Md_goods.2.1 48 = .ok (.if_icmp .ge 19, 3) := by decide +kernel
theorem d_Md_goods_51 : decode M_Md_goods.2.1 51 = .ok (.iload_n 3, 1) := by decide +kernel
theorem d_Md_goods_52 : decode M_Md_goods.2.1 52 = .ok (.aload_n 0, 1) := by decide +kernel
theorem d_Md_goods_53 : decode M_Md_goods.2.1 53 = .ok (.iload 4, 2) := by decide +kernel
theorem d_Md_goods_55 : decode M_Md_goods.2.1 55 = .ok (.iload_n 1, 1) := by decide +kernel
theorem d_Md_goods_56 : decode M_Md_goods.2.1 56 = .ok (.invokevirtual 76, 3) := by decide +kernel
theorem d_Md_goods_59 : decode M_Md_goods.2.1 59 = .ok (.iadd, 1) := by decide +kernel
theorem d_Md_goods_60 : decode M_Md_goods.2.1 60 = .ok (.istore_n 3, 1) := by decide +kernel
theorem d_Md_goods_61 : decode M_Md_goods.2.1 61 = .ok (.iinc 4 1, 3) := by decide +kernel
theorem d_Md_goods_64 : decode M_Md_goods.2.1 64 = .ok (.goto (-26), 3) := by decide +kernel
theorem d_Md_goods_67 : decode M_Md_goods.2.1 67 = .ok (.iload_n 3, 1) := by decide +kernel
theorem d_Md_goods_68 : decode M_Md_goods.2.1 68 = .ok (.ireturn, 1) := by decide +kernel
def M_Md_paid : mj_M := (⟨"MarketTownModel", "paid", "(III)I"⟩, prog_13_method_70_code, 7, some .int, 2, 43)
theorem d_Md_paid_0 : decode M_Md_paid.2.1 0 = .ok (.aload_n 0, 1) := by decide +kernel
theorem d_Md_paid_1 : decode M_Md_paid.2.1 1 = .ok (.iload_n 1, 1) := by decide +kernel
theorem d_Md_paid_2 : decode M_Md_paid.2.1 2 = .ok (.invokevirtual 69, 3) := by decide +kernel
theorem d_Md_paid_5 : decode M_Md_paid.2.1 5 = .ok (.ifCond .eq 20, 3) := by decide +kernel
theorem d_Md_paid_8 : decode M_Md_paid.2.1 8 = .ok (.aload_n 0, 1) := by decide +kernel
theorem d_Md_paid_9 : decode M_Md_paid.2.1 9 = .ok (.iload_n 2, 1) := by decide +kernel
theorem d_Md_paid_10 : decode M_Md_paid.2.1 10 = .ok (.invokevirtual 69, 3) := by decide +kernel
theorem d_Md_paid_13 : decode M_Md_paid.2.1 13 = .ok (.ifCond .eq 12, 3) := by decide +kernel
theorem d_Md_paid_16 : decode M_Md_paid.2.1 16 = .ok (.iload_n 3, 1) := by decide +kernel
theorem d_Md_paid_17 : decode M_Md_paid.2.1 17 = .ok (.iconst (-1), 1) := by decide +kernel
theorem d_Md_paid_18 : decode M_Md_paid.2.1 18 = .ok (.iconst 4, 1) := by decide +kernel
theorem d_Md_paid_19 : decode M_Md_paid.2.1 19 = .ok (.invokestatic 53, 3) := by decide +kernel
theorem d_Md_paid_22 : decode M_Md_paid.2.1 22 = .ok (.ifCond .ne 6, 3) := by decide +kernel
theorem d_Md_paid_25 : decode M_Md_paid.2.1 25 = .ok (.ldc 66, 2) := by decide +kernel
theorem d_Md_paid_27 : decode M_Md_paid.2.1 27 = .ok (.ireturn, 1) := by decide +kernel
theorem d_Md_paid_28 : decode M_Md_paid.2.1 28 = .ok (.sipush 1443, 3) := by decide +kernel
theorem d_Md_paid_31 : decode M_Md_paid.2.1 31 = .ok (.iconst 5, 1) := by decide +kernel
theorem d_Md_paid_32 : decode M_Md_paid.2.1 32 = .ok (.bipush 12, 2) := by decide +kernel
theorem d_Md_paid_34 : decode M_Md_paid.2.1 34 = .ok (.iload_n 1, 1) := by decide +kernel
theorem d_Md_paid_35 : decode M_Md_paid.2.1 35 = .ok (.imul, 1) := by decide +kernel
theorem d_Md_paid_36 : decode M_Md_paid.2.1 36 = .ok (.iload_n 2, 1) := by decide +kernel
theorem d_Md_paid_37 : decode M_Md_paid.2.1 37 = .ok (.iadd, 1) := by decide +kernel
theorem d_Md_paid_38 : decode M_Md_paid.2.1 38 = .ok (.imul, 1) := by decide +kernel
theorem d_Md_paid_39 : decode M_Md_paid.2.1 39 = .ok (.iadd, 1) := by decide +kernel
theorem d_Md_paid_40 : decode M_Md_paid.2.1 40 = .ok (.istore 4, 2) := by decide +kernel
theorem d_Md_paid_42 : decode M_Md_paid.2.1 42 = .ok (.iload_n 3, 1) := by decide +kernel
theorem d_Md_paid_43 : decode M_Md_paid.2.1 43 = .ok (.ifCond .lt 13, 3) := by decide +kernel
theorem d_Md_paid_46 : decode M_Md_paid.2.1 46 = .ok (.aload_n 0, 1) := by decide +kernel
theorem d_Md_paid_47 : decode M_Md_paid.2.1 47 = .ok (.getfield 7, 3) := by decide +kernel
theorem d_Md_paid_50 : decode M_Md_paid.2.1 50 = .ok (.iload 4, 2) := by decide +kernel
theorem d_Md_paid_52 : decode M_Md_paid.2.1 52 = .ok (.iload_n 3, 1) := by decide +kernel
theorem d_Md_paid_53 : decode M_Md_paid.2.1 53 = .ok (.iadd, 1) := by decide +kernel
theorem d_Md_paid_54 : decode M_Md_paid.2.1 54 = .ok (.iaload, 1) := by decide +kernel
theorem d_Md_paid_55 : decode M_Md_paid.2.1 55 = .ok (.ireturn, 1) := by decide +kernel
theorem d_Md_paid_56 : decode M_Md_paid.2.1 56 = .ok (.iconst 0, 1) := by decide +kernel
theorem d_Md_paid_57 : decode M_Md_paid.2.1 57 = .ok (.istore 5, 2) := by decide +kernel
theorem d_Md_paid_59 : decode M_Md_paid.2.1 59 = .ok (.iconst 0, 1) := by decide +kernel
theorem d_Md_paid_60 : decode M_Md_paid.2.1 60 = .ok (.istore 6, 2) := by decide +kernel
theorem d_Md_paid_62 : decode M_Md_paid.2.1 62 = .ok (.iload 6, 2) := by decide +kernel
theorem d_Md_paid_64 : decode M_Md_paid.2.1 64 = .ok (.iconst 5, 1) := by decide +kernel
theorem d_Md_paid_65 : decode M_Md_paid.2.1 65 = .ok (.if_icmp .ge 24, 3) := by decide +kernel
theorem d_Md_paid_68 : decode M_Md_paid.2.1 68 = .ok (.iload 5, 2) := by decide +kernel
theorem d_Md_paid_70 : decode M_Md_paid.2.1 70 = .ok (.aload_n 0, 1) := by decide +kernel
theorem d_Md_paid_71 : decode M_Md_paid.2.1 71 = .ok (.getfield 7, 3) := by decide +kernel
theorem d_Md_paid_74 : decode M_Md_paid.2.1 74 = .ok (.iload 4, 2) := by decide +kernel
theorem d_Md_paid_76 : decode M_Md_paid.2.1 76 = .ok (.iload 6, 2) := by decide +kernel
theorem d_Md_paid_78 : decode M_Md_paid.2.1 78 = .ok (.iadd, 1) := by decide +kernel
theorem d_Md_paid_79 : decode M_Md_paid.2.1 79 = .ok (.iaload, 1) := by decide +kernel
theorem d_Md_paid_80 : decode M_Md_paid.2.1 80 = .ok (.iadd, 1) := by decide +kernel
theorem d_Md_paid_81 : decode M_Md_paid.2.1 81 = .ok (.istore 5, 2) := by decide +kernel
theorem d_Md_paid_83 : decode M_Md_paid.2.1 83 = .ok (.iinc 6 1, 3) := by decide +kernel
theorem d_Md_paid_86 : decode M_Md_paid.2.1 86 = .ok (.goto (-24), 3) := by decide +kernel
theorem d_Md_paid_89 : decode M_Md_paid.2.1 89 = .ok (.iload 5, 2) := by decide +kernel
theorem d_Md_paid_91 : decode M_Md_paid.2.1 91 = .ok (.ireturn, 1) := by decide +kernel
def M_Md_loan : mj_M := (⟨"MarketTownModel", "loan", "(II)I"⟩, prog_13_method_71_code, 3, some .int, 1, 22)
theorem d_Md_loan_0 : decode M_Md_loan.2.1 0 = .ok (.iload_n 1, 1) := by decide +kernel
theorem d_Md_loan_1 : decode M_Md_loan.2.1 1 = .ok (.ifCond .lt 12, 3) := by decide +kernel
theorem d_Md_loan_4 : decode M_Md_loan.2.1 4 = .ok (.iload_n 2, 1) := by decide +kernel
theorem d_Md_loan_5 : decode M_Md_loan.2.1 5 = .ok (.iconst 0, 1) := by decide +kernel
theorem d_Md_loan_6 : decode M_Md_loan.2.1 6 = .ok (.iconst 3, 1) := by decide +kernel
theorem d_Md_loan_7 : decode M_Md_loan.2.1 7 = .ok (.invokestatic 53, 3) := by decide +kernel
theorem d_Md_loan_10 : decode M_Md_loan.2.1 10 = .ok (.ifCond .ne 6, 3) := by decide +kernel
theorem d_Md_loan_13 : decode M_Md_loan.2.1 13 = .ok (.ldc 66, 2) := by decide +kernel
theorem d_Md_loan_15 : decode M_Md_loan.2.1 15 = .ok (.ireturn, 1) := by decide +kernel
theorem d_Md_loan_16 : decode M_Md_loan.2.1 16 = .ok (.iload_n 1, 1) := by decide +kernel
theorem d_Md_loan_17 : decode M_Md_loan.2.1 17 = .ok (.aload_n 0, 1) := by decide +kernel
theorem d_Md_loan_18 : decode M_Md_loan.2.1 18 = .ok (.getfield 7, 3) := by decide +kernel
theorem d_Md_loan_21 : decode M_Md_loan.2.1 21 = .ok (.sipush 2168, 3) := by decide +kernel
theorem d_Md_loan_24 : decode M_Md_loan.2.1 24 = .ok (.iaload, 1) := by decide +kernel
theorem d_Md_loan_25 : decode M_Md_loan.2.1 25 = .ok (.if_icmp .ge 20, 3) := by decide +kernel
theorem d_Md_loan_28 : decode M_Md_loan.2.1 28 = .ok (.aload_n 0, 1) := by decide +kernel
theorem d_Md_loan_29 : decode M_Md_loan.2.1 29 = .ok (.getfield 7, 3) := by decide +kernel
theorem d_Md_loan_32 : decode M_Md_loan.2.1 32 = .ok (.sipush 1363, 3) := by decide +kernel
theorem d_Md_loan_35 : decode M_Md_loan.2.1 35 = .ok (.iconst 4, 1) := by decide +kernel
theorem d_Md_loan_36 : decode M_Md_loan.2.1 36 = .ok (.iload_n 1, 1) := by decide +kernel
theorem d_Md_loan_37 : decode M_Md_loan.2.1 37 = .ok (.imul, 1) := by decide +kernel
theorem d_Md_loan_38 : decode M_Md_loan.2.1 38 = .ok (.iadd, 1) := by decide +kernel
theorem d_Md_loan_39 : decode M_Md_loan.2.1 39 = .ok (.iload_n 2, 1) := by decide +kernel
theorem d_Md_loan_40 : decode M_Md_loan.2.1 40 = .ok (.iadd, 1) := by decide +kernel
theorem d_Md_loan_41 : decode M_Md_loan.2.1 41 = .ok (.iaload, 1) := by decide +kernel
theorem d_Md_loan_42 : decode M_Md_loan.2.1 42 = .ok (.goto 5, 3) := by decide +kernel
theorem d_Md_loan_45 : decode M_Md_loan.2.1 45 = .ok (.ldc 68, 2) := by decide +kernel
theorem d_Md_loan_47 : decode M_Md_loan.2.1 47 = .ok (.ireturn, 1) := by decide +kernel
def M_Md_median : mj_M := (⟨"MarketTownModel", "median", "(I)I"⟩, prog_13_method_72_code, 7, some .int, 2, 43)
theorem d_Md_median_0 : decode M_Md_median.2.1 0 = .ok (.iload_n 1, 1) := by decide +kernel
theorem d_Md_median_1 : decode M_Md_median.2.1 1 = .ok (.iconst 0, 1) := by decide +kernel
theorem d_Md_median_2 : decode M_Md_median.2.1 2 = .ok (.iconst 5, 1) := by decide +kernel
theorem d_Md_median_3 : decode M_Md_median.2.1 3 = .ok (.invokestatic 53, 3) := by decide +kernel
theorem d_Md_median_6 : decode M_Md_median.2.1 6 = .ok (.ifCond .ne 6, 3) := by decide +kernel
theorem d_Md_median_9 : decode M_Md_median.2.1 9 = .ok (.ldc 66, 2) := by decide +kernel
theorem d_Md_median_11 : decode M_Md_median.2.1 11 = .ok (.ireturn, 1) := by decide +kernel
theorem d_Md_median_12 : decode M_Md_median.2.1 12 = .ok (.iconst 0, 1) := by decide +kernel
theorem d_Md_median_13 : decode M_Md_median.2.1 13 = .ok (.istore_n 2, 1) := by decide +kernel
theorem d_Md_median_14 : decode M_Md_median.2.1 14 = .ok (.iconst 0, 1) := by decide +kernel
theorem d_Md_median_15 : decode M_Md_median.2.1 15 = .ok (.istore_n 3, 1) := by decide +kernel
theorem d_Md_median_16 : decode M_Md_median.2.1 16 = .ok (.iload_n 3, 1) := by decide +kernel
theorem d_Md_median_17 : decode M_Md_median.2.1 17 = .ok (.aload_n 0, 1) := by decide +kernel
theorem d_Md_median_18 : decode M_Md_median.2.1 18 = .ok (.getfield 7, 3) := by decide +kernel
theorem d_Md_median_21 : decode M_Md_median.2.1 21 = .ok (.sipush 2163, 3) := by decide +kernel
theorem d_Md_median_24 : decode M_Md_median.2.1 24 = .ok (.iaload, 1) := by decide +kernel
theorem d_Md_median_25 : decode M_Md_median.2.1 25 = .ok (.if_icmp .ge 26, 3) := by decide +kernel
theorem d_Md_median_28 : decode M_Md_median.2.1 28 = .ok (.iload_n 2, 1) := by decide +kernel
theorem d_Md_median_29 : decode M_Md_median.2.1 29 = .ok (.aload_n 0, 1) := by decide +kernel
theorem d_Md_median_30 : decode M_Md_median.2.1 30 = .ok (.iload_n 3, 1) := by decide +kernel
theorem d_Md_median_31 : decode M_Md_median.2.1 31 = .ok (.iload_n 1, 1) := by decide +kernel
theorem d_Md_median_32 : decode M_Md_median.2.1 32 = .ok (.invokevirtual 140, 3) := by decide +kernel
theorem d_Md_median_35 : decode M_Md_median.2.1 35 = .ok (.ifCond .eq 7, 3) := by decide +kernel
theorem d_Md_median_38 : decode M_Md_median.2.1 38 = .ok (.iconst 1, 1) := by decide +kernel
theorem d_Md_median_39 : decode M_Md_median.2.1 39 = .ok (.goto 4, 3) := by decide +kernel
theorem d_Md_median_42 : decode M_Md_median.2.1 42 = .ok (.iconst 0, 1) := by decide +kernel
theorem d_Md_median_43 : decode M_Md_median.2.1 43 = .ok (.iadd, 1) := by decide +kernel
theorem d_Md_median_44 : decode M_Md_median.2.1 44 = .ok (.istore_n 2, 1) := by decide +kernel
theorem d_Md_median_45 : decode M_Md_median.2.1 45 = .ok (.iinc 3 1, 3) := by decide +kernel
theorem d_Md_median_48 : decode M_Md_median.2.1 48 = .ok (.goto (-32), 3) := by decide +kernel
theorem d_Md_median_51 : decode M_Md_median.2.1 51 = .ok (.iconst 0, 1) := by decide +kernel
theorem d_Md_median_52 : decode M_Md_median.2.1 52 = .ok (.istore_n 3, 1) := by decide +kernel
theorem d_Md_median_53 : decode M_Md_median.2.1 53 = .ok (.iload_n 3, 1) := by decide +kernel
theorem d_Md_median_54 : decode M_Md_median.2.1 54 = .ok (.aload_n 0, 1) := by decide +kernel
theorem d_Md_median_55 : decode M_Md_median.2.1 55 = .ok (.getfield 7, 3) := by decide +kernel
theorem d_Md_median_58 : decode M_Md_median.2.1 58 = .ok (.sipush 2163, 3) := by decide +kernel
theorem d_Md_median_61 : decode M_Md_median.2.1 61 = .ok (.iaload, 1) := by decide +kernel
theorem d_Md_median_62 : decode M_Md_median.2.1 62 = .ok (.if_icmp .ge 125, 3) := by decide +kernel
theorem d_Md_median_65 : decode M_Md_median.2.1 65 = .ok (.iconst 0, 1) := by decide +kernel
theorem d_Md_median_66 : decode M_Md_median.2.1 66 = .ok (.istore 4, 2) := by decide +kernel
theorem d_Md_median_68 : decode M_Md_median.2.1 68 = .ok (.iconst 0, 1) := by decide +kernel
theorem d_Md_median_69 : decode M_Md_median.2.1 69 = .ok (.istore 5, 2) := by decide +kernel
theorem d_Md_median_71 : decode M_Md_median.2.1 71 = .ok (.iload 5, 2) := by decide +kernel
theorem d_Md_median_73 : decode M_Md_median.2.1 73 = .ok (.aload_n 0, 1) := by decide +kernel
theorem d_Md_median_74 : decode M_Md_median.2.1 74 = .ok (.getfield 7, 3) := by decide +kernel
theorem d_Md_median_77 : decode M_Md_median.2.1 77 = .ok (.sipush 2163, 3) := by decide +kernel
theorem d_Md_median_80 : decode M_Md_median.2.1 80 = .ok (.iaload, 1) := by decide +kernel
theorem d_Md_median_81 : decode M_Md_median.2.1 81 = .ok (.if_icmp .ge 75, 3) := by decide +kernel
theorem d_Md_median_84 : decode M_Md_median.2.1 84 = .ok (.aload_n 0, 1) := by decide +kernel
theorem d_Md_median_85 : decode M_Md_median.2.1 85 = .ok (.iload 5, 2) := by decide +kernel
theorem d_Md_median_87 : decode M_Md_median.2.1 87 = .ok (.invokevirtual 150, 3) := by decide +kernel
theorem d_Md_median_90 : decode M_Md_median.2.1 90 = .ok (.aload_n 0, 1) := by decide +kernel
theorem d_Md_median_91 : decode M_Md_median.2.1 91 = .ok (.iload_n 3, 1) := by decide +kernel
theorem d_Md_median_92 : decode M_Md_median.2.1 92 = .ok (.invokevirtual 150, 3) := by decide +kernel
theorem d_Md_median_95 : decode M_Md_median.2.1 95 = .ok (.if_icmp .lt 23, 3) := by decide +kernel
theorem d_Md_median_98 : decode M_Md_median.2.1 98 = .ok (.aload_n 0, 1) := by decide +kernel
theorem d_Md_median_99 : decode M_Md_median.2.1 99 = .ok (.iload 5, 2) := by decide +kernel
theorem d_Md_median_101 : decode M_Md_median.2.1 101 = .ok (.invokevirtual 150, 3) := by decide +kernel
theorem d_Md_median_104 : decode M_Md_median.2.1 104 = .ok (.aload_n 0, 1) := by decide +kernel
theorem d_Md_median_105 : decode M_Md_median.2.1 105 = .ok (.iload_n 3, 1) := by decide +kernel
theorem d_Md_median_106 : decode M_Md_median.2.1 106 = .ok (.invokevirtual 150, 3) := by decide +kernel
theorem d_Md_median_109 : decode M_Md_median.2.1 109 = .ok (.if_icmp .ne 13, 3) := by decide +kernel
theorem d_Md_median_112 : decode M_Md_median.2.1 112 = .ok (.iload 5, 2) := by decide +kernel
theorem d_Md_median_114 : decode M_Md_median.2.1 114 = .ok (.iload_n 3, 1) := by decide +kernel
theorem d_Md_median_115 : decode M_Md_median.2.1 115 = .ok (.if_icmp .ge 7, 3) := by decide +kernel
theorem d_Md_median_118 : decode M_Md_median.2.1 118 = .ok (.iconst 1, 1) := by decide +kernel
theorem d_Md_median_119 : decode M_Md_median.2.1 119 = .ok (.goto 4, 3) := by decide +kernel
theorem d_Md_median_122 : decode M_Md_median.2.1 122 = .ok (.iconst 0, 1) := by decide +kernel
theorem d_Md_median_123 : decode M_Md_median.2.1 123 = .ok (.istore 6, 2) := by decide +kernel
theorem d_Md_median_125 : decode M_Md_median.2.1 125 = .ok (.iload 4, 2) := by decide +kernel
theorem d_Md_median_127 : decode M_Md_median.2.1 127 = .ok (.aload_n 0, 1) := by decide +kernel
theorem d_Md_median_128 : decode M_Md_median.2.1 128 = .ok (.iload 5, 2) := by decide +kernel
theorem d_Md_median_130 : decode M_Md_median.2.1 130 = .ok (.iload_n 1, 1) := by decide +kernel
theorem d_Md_median_131 : decode M_Md_median.2.1 131 = .ok (.invokevirtual 140, 3) := by decide +kernel
theorem d_Md_median_134 : decode M_Md_median.2.1 134 = .ok (.ifCond .eq 12, 3) := by decide +kernel
theorem d_Md_median_137 : decode M_Md_median.2.1 137 = .ok (.iload 6, 2) := by decide +kernel
theorem d_Md_median_139 : decode M_Md_median.2.1 139 = .ok (.ifCond .eq 7, 3) := by decide +kernel
theorem d_Md_median_142 : decode M_Md_median.2.1 142 = .ok (.iconst 1, 1) := by decide +kernel
theorem d_Md_median_143 : decode M_Md_median.2.1 143 = .ok (.goto 4, 3) := by decide +kernel
theorem d_Md_median_146 : decode M_Md_median.2.1 146 = .ok (.iconst 0, 1) := by decide +kernel
theorem d_Md_median_147 : decode M_Md_median.2.1 147 = .ok (.iadd, 1) := by decide +kernel
theorem d_Md_median_148 : decode M_Md_median.2.1 148 = .ok (.istore 4, 2) := by decide +kernel
theorem d_Md_median_150 : decode M_Md_median.2.1 150 = .ok (.iinc 5 1, 3) := by decide +kernel
theorem d_Md_median_153 : decode M_Md_median.2.1 153 = .ok (.goto (-82), 3) := by decide +kernel
theorem d_Md_median_156 : decode M_Md_median.2.1 156 = .ok (.aload_n 0, 1) := by decide +kernel
theorem d_Md_median_157 : decode M_Md_median.2.1 157 = .ok (.iload_n 3, 1) := by decide +kernel
theorem d_Md_median_158 : decode M_Md_median.2.1 158 = .ok (.iload_n 1, 1) := by decide +kernel
theorem d_Md_median_159 : decode M_Md_median.2.1 159 = .ok (.invokevirtual 140, 3) := by decide +kernel
theorem d_Md_median_162 : decode M_Md_median.2.1 162 = .ok (.ifCond .eq 19, 3) := by decide +kernel
theorem d_Md_median_165 : decode M_Md_median.2.1 165 = .ok (.iload 4, 2) := by decide +kernel
theorem d_Md_median_167 : decode M_Md_median.2.1 167 = .ok (.iload_n 2, 1) := by decide +kernel
theorem d_Md_median_168 : decode M_Md_median.2.1 168 = .ok (.iconst 1, 1) := by decide +kernel
theorem d_Md_median_169 : decode M_Md_median.2.1 169 = .ok (.isub, 1) := by decide +kernel
theorem d_Md_median_170 : decode M_Md_median.2.1 170 = .ok (.iconst 2, 1) := by decide +kernel
theorem d_Md_median_171 : decode M_Md_median.2.1 171 = .ok (.idiv, 1) := by decide +kernel
theorem d_Md_median_172 : decode M_Md_median.2.1 172 = .ok (.if_icmp .ne 9, 3) := by decide +kernel
theorem d_Md_median_175 : decode M_Md_median.2.1 175 = .ok (.aload_n 0, 1) := by decide +kernel
theorem d_Md_median_176 : decode M_Md_median.2.1 176 = .ok (.iload_n 3, 1) := by decide +kernel
theorem d_Md_median_177 : decode M_Md_median.2.1 177 = .ok (.invokevirtual 150, 3) := by decide +kernel
theorem d_Md_median_180 : decode M_Md_median.2.1 180 = .ok (.ireturn, 1) := by decide +kernel
theorem d_Md_median_181 : decode M_Md_median.2.1 181 = .ok (.iinc 3 1, 3) := by decide +kernel
theorem d_Md_median_184 : decode M_Md_median.2.1 184 = .ok (.goto (-131), 3) := by decide +kernel
theorem d_Md_median_187 : decode M_Md_median.2.1 187 = .ok (.ldc 68, 2) := by decide +kernel
theorem d_Md_median_189 : decode M_Md_median.2.1 189 = .ok (.ireturn, 1) := by decide +kernel
def M_Md_save : mj_M := (⟨"MarketTownModel", "save", "(I)I"⟩, prog_13_method_73_code, 3, some .int, 1, 22)
theorem d_Md_save_0 : decode M_Md_save.2.1 0 = .ok (.iload_n 1, 1) := by decide +kernel
theorem d_Md_save_1 : decode M_Md_save.2.1 1 = .ok (.iconst 0, 1) := by decide +kernel
theorem d_Md_save_2 : decode M_Md_save.2.1 2 = .ok (.iconst 2, 1) := by decide +kernel
theorem d_Md_save_3 : decode M_Md_save.2.1 3 = .ok (.invokestatic 53, 3) := by decide +kernel
theorem d_Md_save_6 : decode M_Md_save.2.1 6 = .ok (.ifCond .ne 6, 3) := by decide +kernel
theorem d_Md_save_9 : decode M_Md_save.2.1 9 = .ok (.ldc 66, 2) := by decide +kernel
theorem d_Md_save_11 : decode M_Md_save.2.1 11 = .ok (.ireturn, 1) := by decide +kernel
theorem d_Md_save_12 : decode M_Md_save.2.1 12 = .ok (.iconst 0, 1) := by decide +kernel
theorem d_Md_save_13 : decode M_Md_save.2.1 13 = .ok (.istore_n 2, 1) := by decide +kernel
theorem d_Md_save_14 : decode M_Md_save.2.1 14 = .ok (.iload_n 2, 1) := by decide +kernel
theorem d_Md_save_15 : decode M_Md_save.2.1 15 = .ok (.sipush 2200, 3) := by decide +kernel
theorem d_Md_save_18 : decode M_Md_save.2.1 18 = .ok (.if_icmp .ge 27, 3) := by decide +kernel
theorem d_Md_save_21 : decode M_Md_save.2.1 21 = .ok (.aload_n 0, 1) := by decide +kernel
theorem d_Md_save_22 : decode M_Md_save.2.1 22 = .ok (.getfield 13, 3) := by decide +kernel
theorem d_Md_save_25 : decode M_Md_save.2.1 25 = .ok (.sipush 2200, 3) := by decide +kernel
theorem d_Md_save_28 : decode M_Md_save.2.1 28 = .ok (.iload_n 1, 1) := by decide +kernel
theorem d_Md_save_29 : decode M_Md_save.2.1 29 = .ok (.imul, 1) := by decide +kernel
theorem d_Md_save_30 : decode M_Md_save.2.1 30 = .ok (.iload_n 2, 1) := by decide +kernel
theorem d_Md_save_31 : decode M_Md_save.2.1 31 = .ok (.iadd, 1) := by decide +kernel
theorem d_Md_save_32 : decode M_Md_save.2.1 32 = .ok (.aload_n 0, 1) := by decide +kernel
theorem d_Md_save_33 : decode M_Md_save.2.1 33 = .ok (.getfield 7, 3) := by decide +kernel
theorem d_Md_save_36 : decode M_Md_save.2.1 36 = .ok (.iload_n 2, 1) := by decide +kernel
theorem d_Md_save_37 : decode M_Md_save.2.1 37 = .ok (.iaload, 1) := by decide +kernel
theorem d_Md_save_38 : decode M_Md_save.2.1 38 = .ok (.iastore, 1) := by decide +kernel
theorem d_Md_save_39 : decode M_Md_save.2.1 39 = .ok (.iinc 2 1, 3) := by decide +kernel
theorem d_Md_save_42 : decode M_Md_save.2.1 42 = .ok (.goto (-28), 3) := by decide +kernel
theorem d_Md_save_45 : decode M_Md_save.2.1 45 = .ok (.aload_n 0, 1) := by decide +kernel
theorem d_Md_save_46 : decode M_Md_save.2.1 46 = .ok (.getfield 16, 3) := by decide +kernel
theorem d_Md_save_49 : decode M_Md_save.2.1 49 = .ok (.iload_n 1, 1) := by decide +kernel
theorem d_Md_save_50 : decode M_Md_save.2.1 50 = .ok (.iconst 1, 1) := by decide +kernel
theorem d_Md_save_51 : decode M_Md_save.2.1 51 = .ok (.bastore, 1) := by decide +kernel
theorem d_Md_save_52 : decode M_Md_save.2.1 52 = .ok (.aload_n 0, 1) := by decide +kernel
theorem d_Md_save_53 : decode M_Md_save.2.1 53 = .ok (.getfield 7, 3) := by decide +kernel
theorem d_Md_save_56 : decode M_Md_save.2.1 56 = .ok (.sipush 2164, 3) := by decide +kernel
theorem d_Md_save_59 : decode M_Md_save.2.1 59 = .ok (.iaload, 1) := by decide +kernel
theorem d_Md_save_60 : decode M_Md_save.2.1 60 = .ok (.ireturn, 1) := by decide +kernel
def M_Md_load : mj_M := (⟨"MarketTownModel", "load", "(I)I"⟩, prog_13_method_74_code, 3, some .int, 1, 22)
theorem d_Md_load_0 : decode M_Md_load.2.1 0 = .ok (.iload_n 1, 1) := by decide +kernel
theorem d_Md_load_1 : decode M_Md_load.2.1 1 = .ok (.iconst 0, 1) := by decide +kernel
theorem d_Md_load_2 : decode M_Md_load.2.1 2 = .ok (.iconst 2, 1) := by decide +kernel
theorem d_Md_load_3 : decode M_Md_load.2.1 3 = .ok (.invokestatic 53, 3) := by decide +kernel
theorem d_Md_load_6 : decode M_Md_load.2.1 6 = .ok (.ifCond .ne 6, 3) := by decide +kernel
theorem d_Md_load_9 : decode M_Md_load.2.1 9 = .ok (.ldc 66, 2) := by decide +kernel
theorem d_Md_load_11 : decode M_Md_load.2.1 11 = .ok (.ireturn, 1) := by decide +kernel
theorem d_Md_load_12 : decode M_Md_load.2.1 12 = .ok (.aload_n 0, 1) := by decide +kernel
theorem d_Md_load_13 : decode M_Md_load.2.1 13 = .ok (.getfield 16, 3) := by decide +kernel
theorem d_Md_load_16 : decode M_Md_load.2.1 16 = .ok (.iload_n 1, 1) := by decide +kernel
theorem d_Md_load_17 : decode M_Md_load.2.1 17 = .ok (.baload, 1) := by decide +kernel
theorem d_Md_load_18 : decode M_Md_load.2.1 18 = .ok (.ifCond .ne 6, 3) := by decide +kernel
theorem d_Md_load_21 : decode M_Md_load.2.1 21 = .ok (.ldc 132, 2) := by decide +kernel
theorem d_Md_load_23 : decode M_Md_load.2.1 23 = .ok (.ireturn, 1) := by decide +kernel
theorem d_Md_load_24 : decode M_Md_load.2.1 24 = .ok (.iconst 0, 1) := by decide +kernel
theorem d_Md_load_25 : decode M_Md_load.2.1 25 = .ok (.istore_n 2, 1) := by decide +kernel
theorem d_Md_load_26 : decode M_Md_load.2.1 26 = .ok (.iload_n 2, 1) := by decide +kernel
theorem d_Md_load_27 : decode M_Md_load.2.1 27 = .ok (.sipush 2200, 3) := by decide +kernel
theorem d_Md_load_30 : decode M_Md_load.2.1 30 = .ok (.if_icmp .ge 27, 3) := by decide +kernel
theorem d_Md_load_33 : decode M_Md_load.2.1 33 = .ok (.aload_n 0, 1) := by decide +kernel
theorem d_Md_load_34 : decode M_Md_load.2.1 34 = .ok (.getfield 7, 3) := by decide +kernel
theorem d_Md_load_37 : decode M_Md_load.2.1 37 = .ok (.iload_n 2, 1) := by decide +kernel
theorem d_Md_load_38 : decode M_Md_load.2.1 38 = .ok (.aload_n 0, 1) := by decide +kernel
theorem d_Md_load_39 : decode M_Md_load.2.1 39 = .ok (.getfield 13, 3) := by decide +kernel
theorem d_Md_load_42 : decode M_Md_load.2.1 42 = .ok (.sipush 2200, 3) := by decide +kernel
theorem d_Md_load_45 : decode M_Md_load.2.1 45 = .ok (.iload_n 1, 1) := by decide +kernel
theorem d_Md_load_46 : decode M_Md_load.2.1 46 = .ok (.imul, 1) := by decide +kernel
theorem d_Md_load_47 : decode M_Md_load.2.1 47 = .ok (.iload_n 2, 1) := by decide +kernel
theorem d_Md_load_48 : decode M_Md_load.2.1 48 = .ok (.iadd, 1) := by decide +kernel
theorem d_Md_load_49 : decode M_Md_load.2.1 49 = .ok (.iaload, 1) := by decide +kernel
theorem d_Md_load_50 : decode M_Md_load.2.1 50 = .ok (.iastore, 1) := by decide +kernel
theorem d_Md_load_51 : decode M_Md_load.2.1 51 = .ok (.iinc 2 1, 3) := by decide +kernel
theorem d_Md_load_54 : decode M_Md_load.2.1 54 = .ok (.goto (-28), 3) := by decide +kernel
theorem d_Md_load_57 : decode M_Md_load.2.1 57 = .ok (.aload_n 0, 1) := by decide +kernel
theorem d_Md_load_58 : decode M_Md_load.2.1 58 = .ok (.getfield 7, 3) := by decide +kernel
theorem d_Md_load_61 : decode M_Md_load.2.1 61 = .ok (.sipush 2164, 3) := by decide +kernel
theorem d_Md_load_64 : decode M_Md_load.2.1 64 = .ok (.iaload, 1) := by decide +kernel
theorem d_Md_load_65 : decode M_Md_load.2.1 65 = .ok (.ireturn, 1) := by decide +kernel
def M_Md_differs : mj_M := (⟨"MarketTownModel", "differs", "(I)I"⟩, prog_13_method_75_code, 7, some .int, 1, 22)
theorem d_Md_differs_0 : decode M_Md_differs.2.1 0 = .ok (.iload_n 1, 1) := by decide +kernel
theorem d_Md_differs_1 : decode M_Md_differs.2.1 1 = .ok (.iconst 0, 1) := by decide +kernel
theorem d_Md_differs_2 : decode M_Md_differs.2.1 2 = .ok (.iconst 2, 1) := by decide +kernel
theorem d_Md_differs_3 : decode M_Md_differs.2.1 3 = .ok (.invokestatic 53, 3) := by decide +kernel
theorem d_Md_differs_6 : decode M_Md_differs.2.1 6 = .ok (.ifCond .ne 6, 3) := by decide +kernel
theorem d_Md_differs_9 : decode M_Md_differs.2.1 9 = .ok (.ldc 66, 2) := by decide +kernel
theorem d_Md_differs_11 : decode M_Md_differs.2.1 11 = .ok (.ireturn, 1) := by decide +kernel
theorem d_Md_differs_12 : decode M_Md_differs.2.1 12 = .ok (.aload_n 0, 1) := by decide +kernel
theorem d_Md_differs_13 : decode M_Md_differs.2.1 13 = .ok (.getfield 16, 3) := by decide +kernel
theorem d_Md_differs_16 : decode M_Md_differs.2.1 16 = .ok (.iload_n 1, 1) := by decide +kernel
theorem d_Md_differs_17 : decode M_Md_differs.2.1 17 = .ok (.baload, 1) := by decide +kernel
theorem d_Md_differs_18 : decode M_Md_differs.2.1 18 = .ok (.ifCond .ne 6, 3) := by decide +kernel
theorem d_Md_differs_21 : decode M_Md_differs.2.1 21 = .ok (.ldc 132, 2) := by decide +kernel
theorem d_Md_differs_23 : decode M_Md_differs.2.1 23 = .ok (.ireturn, 1) := by decide +kernel
theorem d_Md_differs_24 : decode M_Md_differs.2.1 24 = .ok (.iconst 0, 1) := by decide +kernel
theorem d_Md_differs_25 : decode M_Md_differs.2.1 25 = .ok (.istore_n 2, 1) := by decide +kernel
theorem d_Md_differs_26 : decode M_Md_differs.2.1 26 = .ok (.iload_n 2, 1) := by decide +kernel
theorem d_Md_differs_27 : decode M_Md_differs.2.1 27 = .ok (.bipush 12, 2) := by decide +kernel
theorem d_Md_differs_29 : decode M_Md_differs.2.1 29 = .ok (.if_icmp .ge 176, 3) := by decide +kernel
theorem d_Md_differs_32 : decode M_Md_differs.2.1 32 = .ok (.iload_n 2, 1) := by decide +kernel
theorem d_Md_differs_33 : decode M_Md_differs.2.1 33 = .ok (.aload_n 0, 1) := by decide +kernel
theorem d_Md_differs_34 : decode M_Md_differs.2.1 34 = .ok (.getfield 7, 3) := by decide +kernel
theorem d_Md_differs_37 : decode M_Md_differs.2.1 37 = .ok (.sipush 2163, 3) := by decide +kernel
theorem d_Md_differs_40 : decode M_Md_differs.2.1 40 = .ok (.iaload, 1) := by decide +kernel
theorem d_Md_differs_41 : decode M_Md_differs.2.1 41 = .ok (.if_icmp .ge 7, 3) := by decide +kernel
theorem d_Md_differs_44 : decode M_Md_differs.2.1 44 = .ok (.iconst 1, 1) := by decide +kernel
theorem d_Md_differs_45 : decode M_Md_differs.2.1 45 = .ok (.goto 4, 3) := by decide +kernel
theorem d_Md_differs_48 : decode M_Md_differs.2.1 48 = .ok (.iconst 0, 1) := by decide +kernel
theorem d_Md_differs_49 : decode M_Md_differs.2.1 49 = .ok (.istore_n 3, 1) := by decide +kernel
theorem d_Md_differs_50 : decode M_Md_differs.2.1 50 = .ok (.iload_n 2, 1) := by decide +kernel
theorem d_Md_differs_51 : decode M_Md_differs.2.1 51 = .ok (.aload_n 0, 1) := by decide +kernel
theorem d_Md_differs_52 : decode M_Md_differs.2.1 52 = .ok (.getfield 13, 3) := by decide +kernel
theorem d_Md_differs_55 : decode M_Md_differs.2.1 55 = .ok (.sipush 2200, 3) := by decide +kernel
theorem d_Md_differs_58 : decode M_Md_differs.2.1 58 = .ok (.iload_n 1, 1) := by decide +kernel
theorem d_Md_differs_59 : decode M_Md_differs.2.1 59 = .ok (.imul, 1) := by decide +kernel
theorem d_Md_differs_60 : decode M_Md_differs.2.1 60 = .ok (.sipush 2163, 3) := by decide +kernel
theorem d_Md_differs_63 : decode M_Md_differs.2.1 63 = .ok (.iadd, 1) := by decide +kernel
theorem d_Md_differs_64 : decode M_Md_differs.2.1 64 = .ok (.iaload, 1) := by decide +kernel
theorem d_Md_differs_65 : decode M_Md_differs.2.1 65 = .ok (.if_icmp .ge 7, 3) := by decide +kernel
theorem d_Md_differs_68 : decode M_Md_differs.2.1 68 = .ok (.iconst 1, 1) := by decide +kernel
theorem d_Md_differs_69 : decode M_Md_differs.2.1 69 = .ok (.goto 4, 3) := by decide +kernel
theorem d_Md_differs_72 : decode M_Md_differs.2.1 72 = .ok (.iconst 0, 1) := by decide +kernel
theorem d_Md_differs_73 : decode M_Md_differs.2.1 73 = .ok (.istore 4, 2) := by decide +kernel
theorem d_Md_differs_75 : decode M_Md_differs.2.1 75 = .ok (.iload_n 3, 1) := by decide +kernel
theorem d_Md_differs_76 : decode M_Md_differs.2.1 76 = .ok (.iload 4, 2) := by decide +kernel
theorem d_Md_differs_78 : decode M_Md_differs.2.1 78 = .ok (.if_icmp .ne 7, 3) := by decide +kernel
theorem d_Md_differs_81 : decode M_Md_differs.2.1 81 = .ok (.iconst 1, 1) := by decide +kernel
theorem d_Md_differs_82 : decode M_Md_differs.2.1 82 = .ok (.goto 4, 3) := by decide +kernel
theorem d_Md_differs_85 : decode M_Md_differs.2.1 85 = .ok (.iconst 0, 1) := by decide +kernel
theorem d_Md_differs_86 : decode M_Md_differs.2.1 86 = .ok (.istore 5, 2) := by decide +kernel
theorem d_Md_differs_88 : decode M_Md_differs.2.1 88 = .ok (.iload_n 3, 1) := by decide +kernel
theorem d_Md_differs_89 : decode M_Md_differs.2.1 89 = .ok (.ifCond .eq 103, 3) := by decide +kernel
theorem d_Md_differs_92 : decode M_Md_differs.2.1 92 = .ok (.iload 4, 2) := by decide +kernel
theorem d_Md_differs_94 : decode M_Md_differs.2.1 94 = .ok (.ifCond .eq 98, 3) := by decide +kernel
theorem d_Md_differs_97 : decode M_Md_differs.2.1 97 = .ok (.aload_n 0, 1) := by decide +kernel
theorem d_Md_differs_98 : decode M_Md_differs.2.1 98 = .ok (.iload_n 2, 1) := by decide +kernel
theorem d_Md_differs_99 : decode M_Md_differs.2.1 99 = .ok (.invokevirtual 150, 3) := by decide +kernel
theorem d_Md_differs_102 : decode M_Md_differs.2.1 102 = .ok (.aload_n 0, 1) := by decide +kernel
theorem d_Md_differs_103 : decode M_Md_differs.2.1 103 = .ok (.getfield 13, 3) := by decide +kernel
theorem d_Md_differs_106 : decode M_Md_differs.2.1 106 = .ok (.sipush 2200, 3) := by decide +kernel
theorem d_Md_differs_109 : decode M_Md_differs.2.1 109 = .ok (.iload_n 1, 1) := by decide +kernel
theorem d_Md_differs_110 : decode M_Md_differs.2.1 110 = .ok (.imul, 1) := by decide +kernel
theorem d_Md_differs_111 : decode M_Md_differs.2.1 111 = .ok (.iconst 0, 1) := by decide +kernel
theorem d_Md_differs_112 : decode M_Md_differs.2.1 112 = .ok (.iadd, 1) := by decide +kernel
theorem d_Md_differs_113 : decode M_Md_differs.2.1 113 = .ok (.iconst 5, 1) := by decide +kernel
theorem d_Md_differs_114 : decode M_Md_differs.2.1 114 = .ok (.iload_n 2, 1) := by decide +kernel
theorem d_Md_differs_115 : decode M_Md_differs.2.1 115 = .ok (.imul, 1) := by decide +kernel
theorem d_Md_differs_116 : decode M_Md_differs.2.1 116 = .ok (.iadd, 1) := by decide +kernel
theorem d_Md_differs_117 : decode M_Md_differs.2.1 117 = .ok (.iconst 1, 1) := by decide +kernel
theorem d_Md_differs_118 : decode M_Md_differs.2.1 118 = .ok (.iadd, 1) := by decide +kernel
theorem d_Md_differs_119 : decode M_Md_differs.2.1 119 = .ok (.iaload, 1) := by decide +kernel
theorem d_Md_differs_120 : decode M_Md_differs.2.1 120 = .ok (.if_icmp .ne 7, 3) := by decide +kernel
theorem d_Md_differs_123 : decode M_Md_differs.2.1 123 = .ok (.iconst 1, 1) := by decide +kernel
theorem d_Md_differs_124 : decode M_Md_differs.2.1 124 = .ok (.goto 4, 3) := by decide +kernel
theorem d_Md_differs_127 : decode M_Md_differs.2.1 127 = .ok (.iconst 0, 1) := by decide +kernel
theorem d_Md_differs_128 : decode M_Md_differs.2.1 128 = .ok (.istore 5, 2) := by decide +kernel
theorem d_Md_differs_130 : decode M_Md_differs.2.1 130 = .ok (.iload_n 2, 1) := by decide +kernel
theorem d_Md_differs_131 : decode M_Md_differs.2.1 131 = .ok (.iconst 0, 1) := by decide +kernel
theorem d_Md_differs_132 : decode M_Md_differs.2.1 132 = .ok (.iconst 0, 1) := by decide +kernel
theorem d_Md_differs_133 : decode M_Md_differs.2.1 133 = .ok (.invokestatic 57, 3) := by decide +kernel
theorem d_Md_differs_136 : decode M_Md_differs.2.1 136 = .ok (.istore 6, 2) := by decide +kernel
theorem d_Md_differs_138 : decode M_Md_differs.2.1 138 = .ok (.iload 6, 2) := by decide +kernel
theorem d_Md_differs_140 : decode M_Md_differs.2.1 140 = .ok (.iload_n 2, 1) := by decide +kernel
theorem d_Md_differs_141 : decode M_Md_differs.2.1 141 = .ok (.iconst 1, 1) := by decide +kernel
theorem d_Md_differs_142 : decode M_Md_differs.2.1 142 = .ok (.iadd, 1) := by decide +kernel
theorem d_Md_differs_143 : decode M_Md_differs.2.1 143 = .ok (.iconst 0, 1) := by decide +kernel
theorem d_Md_differs_144 : decode M_Md_differs.2.1 144 = .ok (.iconst 0, 1) := by decide +kernel
theorem d_Md_differs_145 : decode M_Md_differs.2.1 145 = .ok (.invokestatic 57, 3) := by decide +kernel
theorem d_Md_differs_148 : decode M_Md_differs.2.1 148 = .ok (.if_icmp .ge 44, 3) := by decide +kernel
theorem d_Md_differs_151 : decode M_Md_differs.2.1 151 = .ok (.iload 5, 2) := by decide +kernel
theorem d_Md_differs_153 : decode M_Md_differs.2.1 153 = .ok (.ifCond .eq 30, 3) := by decide +kernel
theorem d_Md_differs_156 : decode M_Md_differs.2.1 156 = .ok (.aload_n 0, 1) := by decide +kernel
theorem d_Md_differs_157 : decode M_Md_differs.2.1 157 = .ok (.getfield 7, 3) := by decide +kernel
theorem d_Md_differs_160 : decode M_Md_differs.2.1 160 = .ok (.iload 6, 2) := by decide +kernel
theorem d_Md_differs_162 : decode M_Md_differs.2.1 162 = .ok (.iaload, 1) := by decide +kernel
theorem d_Md_differs_163 : decode M_Md_differs.2.1 163 = .ok (.aload_n 0, 1) := by decide +kernel
theorem d_Md_differs_164 : decode M_Md_differs.2.1 164 = .ok (.getfield 13, 3) := by decide +kernel
theorem d_Md_differs_167 : decode M_Md_differs.2.1 167 = .ok (.sipush 2200, 3) := by decide +kernel
theorem d_Md_differs_170 : decode M_Md_differs.2.1 170 = .ok (.iload_n 1, 1) := by decide +kernel
theorem d_Md_differs_171 : decode M_Md_differs.2.1 171 = .ok (.imul, 1) := by decide +kernel
theorem d_Md_differs_172 : decode M_Md_differs.2.1 172 = .ok (.iload 6, 2) := by decide +kernel
theorem d_Md_differs_174 : decode M_Md_differs.2.1 174 = .ok (.iadd, 1) := by decide +kernel
theorem d_Md_differs_175 : decode M_Md_differs.2.1 175 = .ok (.iaload, 1) := by decide +kernel
theorem d_Md_differs_176 : decode M_Md_differs.2.1 176 = .ok (.if_icmp .ne 7, 3) := by decide +kernel
theorem d_Md_differs_179 : decode M_Md_differs.2.1 179 = .ok (.iconst 1, 1) := by decide +kernel
theorem d_Md_differs_180 : decode M_Md_differs.2.1 180 = .ok (.goto 4, 3) := by decide +kernel
theorem d_Md_differs_183 : decode M_Md_differs.2.1 183 = .ok (.iconst 0, 1) := by decide +kernel
theorem d_Md_differs_184 : decode M_Md_differs.2.1 184 = .ok (.istore 5, 2) := by decide +kernel
theorem d_Md_differs_186 : decode M_Md_differs.2.1 186 = .ok (.iinc 6 1, 3) := by decide +kernel
theorem d_Md_differs_189 : decode M_Md_differs.2.1 189 = .ok (.goto (-51), 3) := by decide +kernel
theorem d_Md_differs_192 : decode M_Md_differs.2.1 192 = .ok (.iload 5, 2) := by decide +kernel
theorem d_Md_differs_194 : decode M_Md_differs.2.1 194 = .ok (.ifCond .ne 5, 3) := by decide +kernel
theorem d_Md_differs_197 : decode M_Md_differs.2.1 197 = .ok (.iload_n 2, 1) := by decide +kernel
theorem d_Md_differs_198 : decode M_Md_differs.2.1 198 = .ok (.ireturn, 1) := by decide +kernel
theorem d_Md_differs_199 : decode M_Md_differs.2.1 199 = .ok (.iinc 2 1, 3) := by decide +kernel
theorem d_Md_differs_202 : decode M_Md_differs.2.1 202 = .ok (.goto (-176), 3) := by decide +kernel
theorem d_Md_differs_205 : decode M_Md_differs.2.1 205 = .ok (.ldc 68, 2) := by decide +kernel
theorem d_Md_differs_207 : decode M_Md_differs.2.1 207 = .ok (.ireturn, 1) := by decide +kernel
def M_Md_count : mj_M := (⟨"MarketTownModel", "count", "(I)I"⟩, prog_13_method_76_code, 4, some .int, 1, 21)
theorem d_Md_count_0 : decode M_Md_count.2.1 0 = .ok (.iconst 0, 1) := by decide +kernel
theorem d_Md_count_1 : decode M_Md_count.2.1 1 = .ok (.istore_n 2, 1) := by decide +kernel
theorem d_Md_count_2 : decode M_Md_count.2.1 2 = .ok (.iload_n 1, 1) := by decide +kernel
theorem d_Md_count_3 : decode M_Md_count.2.1 3 = .ok (.tableswitch 182 0 7 #[45, 54, 63, 93, 102, 140, 145, 154], 45) := by decide +kernel
theorem d_Md_count_48 : decode M_Md_count.2.1 48 = .ok (.aload_n 0, 1) := by decide +kernel
theorem d_Md_count_49 : decode M_Md_count.2.1 49 = .ok (.getfield 7, 3) := by decide +kernel
theorem d_Md_count_52 : decode M_Md_count.2.1 52 = .ok (.sipush 2163, 3) := by decide +kernel
theorem d_Md_count_55 : decode M_Md_count.2.1 55 = .ok (.iaload, 1) := by decide +kernel
theorem d_Md_count_56 : decode M_Md_count.2.1 56 = .ok (.ireturn, 1) := by decide +kernel
theorem d_Md_count_57 : decode M_Md_count.2.1 57 = .ok (.aload_n 0, 1) := by decide +kernel
theorem d_Md_count_58 : decode M_Md_count.2.1 58 = .ok (.getfield 7, 3) := by decide +kernel
theorem d_Md_count_61 : decode M_Md_count.2.1 61 = .ok (.sipush 2164, 3) := by decide +kernel
theorem d_Md_count_64 : decode M_Md_count.2.1 64 = .ok (.iaload, 1) := by decide +kernel
theorem d_Md_count_65 : decode M_Md_count.2.1 65 = .ok (.ireturn, 1) := by decide +kernel
theorem d_Md_count_66 : decode M_Md_count.2.1 66 = .ok (.iconst 0, 1) := by decide +kernel
theorem d_Md_count_67 : decode M_Md_count.2.1 67 = .ok (.istore_n 3, 1) := by decide +kernel
theorem d_Md_count_68 : decode M_Md_count.2.1 68 = .ok (.iload_n 3, 1) := by decide +kernel
theorem d_Md_count_69 : decode M_Md_count.2.1 69 = .ok (.aload_n 0, 1) := by decide +kernel
theorem d_Md_count_70 : decode M_Md_count.2.1 70 = .ok (.getfield 7, 3) := by decide +kernel
theorem d_Md_count_73 : decode M_Md_count.2.1 73 = .ok (.sipush 2163, 3) := by decide +kernel
theorem d_Md_count_76 : decode M_Md_count.2.1 76 = .ok (.iaload, 1) := by decide +kernel
theorem d_Md_count_77 : decode M_Md_count.2.1 77 = .ok (.if_icmp .ge 17, 3) := by decide +kernel
theorem d_Md_count_80 : decode M_Md_count.2.1 80 = .ok (.iload_n 2, 1) := by decide +kernel
theorem d_Md_count_81 : decode M_Md_count.2.1 81 = .ok (.aload_n 0, 1) := by decide +kernel
theorem d_Md_count_82 : decode M_Md_count.2.1 82 = .ok (.iload_n 3, 1) := by decide +kernel
theorem d_Md_count_83 : decode M_Md_count.2.1 83 = .ok (.invokevirtual 150, 3) := by decide +kernel
theorem d_Md_count_86 : decode M_Md_count.2.1 86 = .ok (.iadd, 1) := by decide +kernel
theorem d_Md_count_87 : decode M_Md_count.2.1 87 = .ok (.istore_n 2, 1) := by decide +kernel
theorem d_Md_count_88 : decode M_Md_count.2.1 88 = .ok (.iinc 3 1, 3) := by decide +kernel
theorem d_Md_count_91 : decode M_Md_count.2.1 91 = .ok (.goto (-23), 3) := by decide +kernel
theorem d_Md_count_94 : decode M_Md_count.2.1 94 = .ok (.iload_n 2, 1) := by decide +kernel
theorem d_Md_count_95 : decode M_Md_count.2.1 95 = .ok (.ireturn, 1) := by decide +kernel
theorem d_Md_count_96 : decode M_Md_count.2.1 96 = .ok (.aload_n 0, 1) := by decide +kernel
theorem d_Md_count_97 : decode M_Md_count.2.1 97 = .ok (.getfield 7, 3) := by decide +kernel
theorem d_Md_count_100 : decode M_Md_count.2.1 100 = .ok (.sipush 2168, 3) := by decide +kernel
theorem d_Md_count_103 : decode M_Md_count.2.1 103 = .ok (.iaload, 1) := by decide +kernel
theorem d_Md_count_104 : decode M_Md_count.2.1 104 = .ok (.ireturn, 1) := by decide +kernel
theorem d_Md_count_105 : decode M_Md_count.2.1 105 = .ok (.iconst 0, 1) := by decide +kernel
theorem d_Md_count_106 : decode M_Md_count.2.1 106 = .ok (.istore_n 3, 1) := by decide +kernel
theorem d_Md_count_107 : decode M_Md_count.2.1 107 = .ok (.iload_n 3, 1) := by decide +kernel
theorem d_Md_count_108 : decode M_Md_count.2.1 108 = .ok (.aload_n 0, 1) := by decide +kernel
theorem d_Md_count_109 : decode M_Md_count.2.1 109 = .ok (.getfield 7, 3) := by decide +kernel
theorem d_Md_count_112 : decode M_Md_count.2.1 112 = .ok (.sipush 2163, 3) := by decide +kernel
theorem d_Md_count_115 : decode M_Md_count.2.1 115 = .ok (.iaload, 1) := by decide +kernel
theorem d_Md_count_116 : decode M_Md_count.2.1 116 = .ok (.if_icmp .ge 25, 3) := by decide +kernel
theorem d_Md_count_119 : decode M_Md_count.2.1 119 = .ok (.iload_n 2, 1) := by decide +kernel
theorem d_Md_count_120 : decode M_Md_count.2.1 120 = .ok (.aload_n 0, 1) := by decide +kernel
theorem d_Md_count_121 : decode M_Md_count.2.1 121 = .ok (.iload_n 3, 1) := by decide +kernel
theorem d_Md_count_122 : decode M_Md_count.2.1 122 = .ok (.invokevirtual 189, 3) := by decide +kernel
theorem d_Md_count_125 : decode M_Md_count.2.1 125 = .ok (.ifCond .eq 7, 3) := by decide +kernel
theorem d_Md_count_128 : decode M_Md_count.2.1 128 = .ok (.iconst 1, 1) := by decide +kernel
theorem d_Md_count_129 : decode M_Md_count.2.1 129 = .ok (.goto 4, 3) := by decide +kernel
theorem d_Md_count_132 : decode M_Md_count.2.1 132 = .ok (.iconst 0, 1) := by decide +kernel
theorem d_Md_count_133 : decode M_Md_count.2.1 133 = .ok (.iadd, 1) := by decide +kernel
theorem d_Md_count_134 : decode M_Md_count.2.1 134 = .ok (.istore_n 2, 1) := by decide +kernel
theorem d_Md_count_135 : decode M_Md_count.2.1 135 = .ok (.iinc 3 1, 3) := by decide +kernel
theorem d_Md_count_138 : decode M_Md_count.2.1 138 = .ok (.goto (-31), 3) := by decide +kernel
theorem d_Md_count_141 : decode M_Md_count.2.1 141 = .ok (.iload_n 2, 1) := by decide +kernel
theorem d_Md_count_142 : decode M_Md_count.2.1 142 = .ok (.ireturn, 1) := by decide +kernel
theorem d_Md_count_143 : decode M_Md_count.2.1 143 = .ok (.aload_n 0, 1) := by decide +kernel
theorem d_Md_count_144 : decode M_Md_count.2.1 144 = .ok (.getfield 80, 3) := by decide +kernel
theorem d_Md_count_147 : decode M_Md_count.2.1 147 = .ok (.ireturn, 1) := by decide +kernel
theorem d_Md_count_148 : decode M_Md_count.2.1 148 = .ok (.aload_n 0, 1) := by decide +kernel
theorem d_Md_count_149 : decode M_Md_count.2.1 149 = .ok (.getfield 7, 3) := by decide +kernel
theorem d_Md_count_152 : decode M_Md_count.2.1 152 = .ok (.sipush 2165, 3) := by decide +kernel
theorem d_Md_count_155 : decode M_Md_count.2.1 155 = .ok (.iaload, 1) := by decide +kernel
theorem d_Md_count_156 : decode M_Md_count.2.1 156 = .ok (.ireturn, 1) := by decide +kernel
theorem d_Md_count_157 : decode M_Md_count.2.1 157 = .ok (.sipush 1443, 3) := by decide +kernel
theorem d_Md_count_160 : decode M_Md_count.2.1 160 = .ok (.istore_n 3, 1) := by decide +kernel
theorem d_Md_count_161 : decode M_Md_count.2.1 161 = .ok (.iload_n 3, 1) := by decide +kernel
theorem d_Md_count_162 : decode M_Md_count.2.1 162 = .ok (.sipush 2163, 3) := by decide +kernel
theorem d_Md_count_165 : decode M_Md_count.2.1 165 = .ok (.if_icmp .ge 18, 3) := by decide +kernel
theorem d_Md_count_168 : decode M_Md_count.2.1 168 = .ok (.iload_n 2, 1) := by decide +kernel
theorem d_Md_count_169 : decode M_Md_count.2.1 169 = .ok (.aload_n 0, 1) := by decide +kernel
theorem d_Md_count_170 : decode M_Md_count.2.1 170 = .ok (.getfield 7, 3) := by decide +kernel
theorem d_Md_count_173 : decode M_Md_count.2.1 173 = .ok (.iload_n 3, 1) := by decide +kernel
theorem d_Md_count_174 : decode M_Md_count.2.1 174 = .ok (.iaload, 1) := by decide +kernel
theorem d_Md_count_175 : decode M_Md_count.2.1 175 = .ok (.iadd, 1) := by decide +kernel
theorem d_Md_count_176 : decode M_Md_count.2.1 176 = .ok (.istore_n 2, 1) := by decide +kernel
theorem d_Md_count_177 : decode M_Md_count.2.1 177 = .ok (.iinc 3 1, 3) := by decide +kernel
theorem d_Md_count_180 : decode M_Md_count.2.1 180 = .ok (.goto (-19), 3) := by decide +kernel
theorem d_Md_count_183 : decode M_Md_count.2.1 183 = .ok (.iload_n 2, 1) := by decide +kernel
theorem d_Md_count_184 : decode M_Md_count.2.1 184 = .ok (.ireturn, 1) := by decide +kernel
theorem d_Md_count_185 : decode M_Md_count.2.1 185 = .ok (.ldc 66, 2) := by decide +kernel
theorem d_Md_count_187 : decode M_Md_count.2.1 187 = .ok (.ireturn, 1) := by decide +kernel
