/-! fetch rows of the methods 95 to 95, laid by wip/whole/gen/fetch.py -/
theorem k_95_52 : (pm_own 95, 52, 86, 2, (none : Option Nat)) ∈ pm_call ∧ pm_rank 86 < pm_rank 95 := ⟨k7_52, by decide⟩
theorem k_95_57 : (pm_own 95, 57, 67, 1, (some 6 : Option Nat)) ∈ pm_call ∧ pm_rank 67 < pm_rank 95 := ⟨k7_57, by decide⟩
theorem k_95_58 : (pm_own 95, 58, 63, 1, (some 6 : Option Nat)) ∈ pm_call ∧ pm_rank 63 < pm_rank 95 := ⟨k7_58, by decide⟩
theorem k_95_61 : (pm_own 95, 61, 87, 3, (none : Option Nat)) ∈ pm_call ∧ pm_rank 87 < pm_rank 95 := ⟨k7_61, by decide⟩
theorem k_95_64 : (pm_own 95, 64, 68, 2, (some 6 : Option Nat)) ∈ pm_call ∧ pm_rank 68 < pm_rank 95 := ⟨k7_64, by decide⟩
theorem k_95_65 : (pm_own 95, 65, 88, 5, (none : Option Nat)) ∈ pm_call ∧ pm_rank 88 < pm_rank 95 := ⟨k7_65, by decide⟩
theorem k_95_68 : (pm_own 95, 68, 69, 4, (some 6 : Option Nat)) ∈ pm_call ∧ pm_rank 69 < pm_rank 95 := ⟨k7_68, by decide⟩
theorem k_95_69 : (pm_own 95, 69, 89, 5, (none : Option Nat)) ∈ pm_call ∧ pm_rank 89 < pm_rank 95 := ⟨k7_69, by decide⟩
theorem k_95_71 : (pm_own 95, 71, 70, 4, (some 6 : Option Nat)) ∈ pm_call ∧ pm_rank 70 < pm_rank 95 := ⟨k7_71, by decide⟩
theorem k_95_72 : (pm_own 95, 72, 90, 3, (none : Option Nat)) ∈ pm_call ∧ pm_rank 90 < pm_rank 95 := ⟨k7_72, by decide⟩
theorem k_95_74 : (pm_own 95, 74, 71, 2, (some 6 : Option Nat)) ∈ pm_call ∧ pm_rank 71 < pm_rank 95 := ⟨k7_74, by decide⟩
theorem k_95_75 : (pm_own 95, 75, 5, 1, (some 0 : Option Nat)) ∈ pm_call ∧ pm_rank 5 < pm_rank 95 := ⟨k7_75, by decide⟩
theorem k_95_78 : (pm_own 95, 78, 72, 1, (some 6 : Option Nat)) ∈ pm_call ∧ pm_rank 72 < pm_rank 95 := ⟨k7_78, by decide⟩
theorem k_95_79 : (pm_own 95, 79, 6, 1, (some 0 : Option Nat)) ∈ pm_call ∧ pm_rank 6 < pm_rank 95 := ⟨k7_79, by decide⟩
theorem k_95_83 : (pm_own 95, 83, 78, 1, (some 6 : Option Nat)) ∈ pm_call ∧ pm_rank 78 < pm_rank 95 := ⟨k7_83, by decide⟩
theorem k_95_84 : (pm_own 95, 84, 7, 1, (some 0 : Option Nat)) ∈ pm_call ∧ pm_rank 7 < pm_rank 95 := ⟨k7_84, by decide⟩
theorem k_95_87 : (pm_own 95, 87, 79, 1, (some 6 : Option Nat)) ∈ pm_call ∧ pm_rank 79 < pm_rank 95 := ⟨k7_87, by decide⟩
theorem k_95_88 : (pm_own 95, 88, 91, 3, (none : Option Nat)) ∈ pm_call ∧ pm_rank 91 < pm_rank 95 := ⟨k7_88, by decide⟩
theorem k_95_90 : (pm_own 95, 90, 80, 2, (some 6 : Option Nat)) ∈ pm_call ∧ pm_rank 80 < pm_rank 95 := ⟨k7_90, by decide⟩
theorem k_95_91 : (pm_own 95, 91, 92, 4, (none : Option Nat)) ∈ pm_call ∧ pm_rank 92 < pm_rank 95 := ⟨k7_91, by decide⟩
theorem k_95_94 : (pm_own 95, 94, 81, 3, (some 6 : Option Nat)) ∈ pm_call ∧ pm_rank 81 < pm_rank 95 := ⟨k7_94, by decide⟩
theorem k_95_95 : (pm_own 95, 95, 93, 4, (none : Option Nat)) ∈ pm_call ∧ pm_rank 93 < pm_rank 95 := ⟨k7_95, by decide⟩
theorem k_95_98 : (pm_own 95, 98, 82, 3, (some 6 : Option Nat)) ∈ pm_call ∧ pm_rank 82 < pm_rank 95 := ⟨k7_98, by decide⟩
theorem k_95_99 : (pm_own 95, 99, 94, 3, (none : Option Nat)) ∈ pm_call ∧ pm_rank 94 < pm_rank 95 := ⟨k7_99, by decide⟩
theorem k_95_101 : (pm_own 95, 101, 83, 2, (some 6 : Option Nat)) ∈ pm_call ∧ pm_rank 83 < pm_rank 95 := ⟨k7_101, by decide⟩
theorem k_95_102 : (pm_own 95, 102, 12, 1, (some 0 : Option Nat)) ∈ pm_call ∧ pm_rank 12 < pm_rank 95 := ⟨k7_102, by decide⟩
theorem k_95_105 : (pm_own 95, 105, 84, 1, (some 6 : Option Nat)) ∈ pm_call ∧ pm_rank 84 < pm_rank 95 := ⟨k7_105, by decide⟩
theorem k_95_106 : (pm_own 95, 106, 13, 2, (some 0 : Option Nat)) ∈ pm_call ∧ pm_rank 13 < pm_rank 95 := ⟨k7_106, by decide⟩
theorem k_95_109 : (pm_own 95, 109, 85, 2, (some 6 : Option Nat)) ∈ pm_call ∧ pm_rank 85 < pm_rank 95 := ⟨k7_109, by decide⟩
theorem m_95 : pm_mL 95 = 7 := rfl
theorem r_95 : pm_ret 95 = 2 := rfl
theorem i_95_20 : Jvm.ClassFile.decode (pm_bytes 95) 20 = .ok (.iconst 0, 1) := by decide +kernel
theorem i_95_21 : Jvm.ClassFile.decode (pm_bytes 95) 21 = .ok (.istore 4, 2) := by decide +kernel
theorem i_95_23 : Jvm.ClassFile.decode (pm_bytes 95) 23 = .ok (.iload 4, 2) := by decide +kernel
theorem i_95_25 : Jvm.ClassFile.decode (pm_bytes 95) 25 = .ok (.aload_n 0, 1) := by decide +kernel
theorem i_95_26 : Jvm.ClassFile.decode (pm_bytes 95) 26 = .ok (.arraylength, 1) := by decide +kernel
theorem i_95_27 : Jvm.ClassFile.decode (pm_bytes 95) 27 = .ok (.iconst 4, 1) := by decide +kernel
theorem i_95_28 : Jvm.ClassFile.decode (pm_bytes 95) 28 = .ok (.isub, 1) := by decide +kernel
theorem i_95_29 : Jvm.ClassFile.decode (pm_bytes 95) 29 = .ok (.if_icmp .gt (763), 3) := by decide +kernel
theorem i_95_32 : Jvm.ClassFile.decode (pm_bytes 95) 32 = .ok (.aload_n 0, 1) := by decide +kernel
theorem i_95_33 : Jvm.ClassFile.decode (pm_bytes 95) 33 = .ok (.iload 4, 2) := by decide +kernel
theorem i_95_35 : Jvm.ClassFile.decode (pm_bytes 95) 35 = .ok (.iaload, 1) := by decide +kernel
theorem i_95_36 : Jvm.ClassFile.decode (pm_bytes 95) 36 = .ok (.bipush (15), 2) := by decide +kernel
theorem i_95_38 : Jvm.ClassFile.decode (pm_bytes 95) 38 = .ok (.iand, 1) := by decide +kernel
theorem i_95_39 : Jvm.ClassFile.decode (pm_bytes 95) 39 = .ok (.tableswitch (747) (0) (13) #[69, 113, 169, 249, 329, 385, 398, 411, 424, 480, 555, 646, 709, 722], 69) := by decide +kernel
theorem i_95_108 : Jvm.ClassFile.decode (pm_bytes 95) 108 = .ok (.aload_n 1, 1) := by decide +kernel
theorem i_95_109 : Jvm.ClassFile.decode (pm_bytes 95) 109 = .ok (.aload_n 3, 1) := by decide +kernel
theorem i_95_110 : Jvm.ClassFile.decode (pm_bytes 95) 110 = .ok (.invokestatic 52, 3) := by decide +kernel
theorem i_95_113 : Jvm.ClassFile.decode (pm_bytes 95) 113 = .ok (.istore 5, 2) := by decide +kernel
theorem i_95_115 : Jvm.ClassFile.decode (pm_bytes 95) 115 = .ok (.aload_n 2, 1) := by decide +kernel
theorem i_95_116 : Jvm.ClassFile.decode (pm_bytes 95) 116 = .ok (.invokevirtual 57, 3) := by decide +kernel
theorem i_95_119 : Jvm.ClassFile.decode (pm_bytes 95) 119 = .ok (.istore 6, 2) := by decide +kernel
theorem i_95_121 : Jvm.ClassFile.decode (pm_bytes 95) 121 = .ok (.aload_n 2, 1) := by decide +kernel
theorem i_95_122 : Jvm.ClassFile.decode (pm_bytes 95) 122 = .ok (.invokevirtual 58, 3) := by decide +kernel
theorem i_95_125 : Jvm.ClassFile.decode (pm_bytes 95) 125 = .ok (.iload 5, 2) := by decide +kernel
theorem i_95_127 : Jvm.ClassFile.decode (pm_bytes 95) 127 = .ok (.if_icmp .eq (5), 3) := by decide +kernel
theorem i_95_130 : Jvm.ClassFile.decode (pm_bytes 95) 130 = .ok (.iconst 0, 1) := by decide +kernel
theorem i_95_131 : Jvm.ClassFile.decode (pm_bytes 95) 131 = .ok (.ireturn, 1) := by decide +kernel
theorem i_95_132 : Jvm.ClassFile.decode (pm_bytes 95) 132 = .ok (.iload 5, 2) := by decide +kernel
theorem i_95_134 : Jvm.ClassFile.decode (pm_bytes 95) 134 = .ok (.ifCond .ne (15), 3) := by decide +kernel
theorem i_95_137 : Jvm.ClassFile.decode (pm_bytes 95) 137 = .ok (.aload_n 3, 1) := by decide +kernel
theorem i_95_138 : Jvm.ClassFile.decode (pm_bytes 95) 138 = .ok (.iconst 0, 1) := by decide +kernel
theorem i_95_139 : Jvm.ClassFile.decode (pm_bytes 95) 139 = .ok (.laload, 1) := by decide +kernel
theorem i_95_140 : Jvm.ClassFile.decode (pm_bytes 95) 140 = .ok (.iload 6, 2) := by decide +kernel
theorem i_95_142 : Jvm.ClassFile.decode (pm_bytes 95) 142 = .ok (.i2l, 1) := by decide +kernel
theorem i_95_143 : Jvm.ClassFile.decode (pm_bytes 95) 143 = .ok (.lcmp, 1) := by decide +kernel
theorem i_95_144 : Jvm.ClassFile.decode (pm_bytes 95) 144 = .ok (.ifCond .eq (5), 3) := by decide +kernel
theorem i_95_147 : Jvm.ClassFile.decode (pm_bytes 95) 147 = .ok (.iconst 0, 1) := by decide +kernel
theorem i_95_148 : Jvm.ClassFile.decode (pm_bytes 95) 148 = .ok (.ireturn, 1) := by decide +kernel
theorem i_95_149 : Jvm.ClassFile.decode (pm_bytes 95) 149 = .ok (.goto (637), 3) := by decide +kernel
theorem i_95_152 : Jvm.ClassFile.decode (pm_bytes 95) 152 = .ok (.aload_n 1, 1) := by decide +kernel
theorem i_95_153 : Jvm.ClassFile.decode (pm_bytes 95) 153 = .ok (.aload_n 0, 1) := by decide +kernel
theorem i_95_154 : Jvm.ClassFile.decode (pm_bytes 95) 154 = .ok (.iload 4, 2) := by decide +kernel
theorem i_95_156 : Jvm.ClassFile.decode (pm_bytes 95) 156 = .ok (.iconst 1, 1) := by decide +kernel
theorem i_95_157 : Jvm.ClassFile.decode (pm_bytes 95) 157 = .ok (.iadd, 1) := by decide +kernel
theorem i_95_158 : Jvm.ClassFile.decode (pm_bytes 95) 158 = .ok (.iaload, 1) := by decide +kernel
theorem i_95_159 : Jvm.ClassFile.decode (pm_bytes 95) 159 = .ok (.aload_n 3, 1) := by decide +kernel
theorem i_95_160 : Jvm.ClassFile.decode (pm_bytes 95) 160 = .ok (.invokestatic 61, 3) := by decide +kernel
theorem i_95_163 : Jvm.ClassFile.decode (pm_bytes 95) 163 = .ok (.istore 5, 2) := by decide +kernel
theorem i_95_165 : Jvm.ClassFile.decode (pm_bytes 95) 165 = .ok (.aload_n 2, 1) := by decide +kernel
theorem i_95_166 : Jvm.ClassFile.decode (pm_bytes 95) 166 = .ok (.aload_n 0, 1) := by decide +kernel
theorem i_95_167 : Jvm.ClassFile.decode (pm_bytes 95) 167 = .ok (.iload 4, 2) := by decide +kernel
theorem i_95_169 : Jvm.ClassFile.decode (pm_bytes 95) 169 = .ok (.iconst 1, 1) := by decide +kernel
theorem i_95_170 : Jvm.ClassFile.decode (pm_bytes 95) 170 = .ok (.iadd, 1) := by decide +kernel
theorem i_95_171 : Jvm.ClassFile.decode (pm_bytes 95) 171 = .ok (.iaload, 1) := by decide +kernel
theorem i_95_172 : Jvm.ClassFile.decode (pm_bytes 95) 172 = .ok (.invokevirtual 64, 3) := by decide +kernel
theorem i_95_175 : Jvm.ClassFile.decode (pm_bytes 95) 175 = .ok (.istore 6, 2) := by decide +kernel
theorem i_95_177 : Jvm.ClassFile.decode (pm_bytes 95) 177 = .ok (.aload_n 2, 1) := by decide +kernel
theorem i_95_178 : Jvm.ClassFile.decode (pm_bytes 95) 178 = .ok (.invokevirtual 58, 3) := by decide +kernel
theorem i_95_181 : Jvm.ClassFile.decode (pm_bytes 95) 181 = .ok (.iload 5, 2) := by decide +kernel
theorem i_95_183 : Jvm.ClassFile.decode (pm_bytes 95) 183 = .ok (.if_icmp .eq (5), 3) := by decide +kernel
theorem i_95_186 : Jvm.ClassFile.decode (pm_bytes 95) 186 = .ok (.iconst 0, 1) := by decide +kernel
theorem i_95_187 : Jvm.ClassFile.decode (pm_bytes 95) 187 = .ok (.ireturn, 1) := by decide +kernel
theorem i_95_188 : Jvm.ClassFile.decode (pm_bytes 95) 188 = .ok (.iload 5, 2) := by decide +kernel
theorem i_95_190 : Jvm.ClassFile.decode (pm_bytes 95) 190 = .ok (.ifCond .ne (15), 3) := by decide +kernel
theorem i_95_193 : Jvm.ClassFile.decode (pm_bytes 95) 193 = .ok (.aload_n 3, 1) := by decide +kernel
theorem i_95_194 : Jvm.ClassFile.decode (pm_bytes 95) 194 = .ok (.iconst 0, 1) := by decide +kernel
theorem i_95_195 : Jvm.ClassFile.decode (pm_bytes 95) 195 = .ok (.laload, 1) := by decide +kernel
theorem i_95_196 : Jvm.ClassFile.decode (pm_bytes 95) 196 = .ok (.iload 6, 2) := by decide +kernel
theorem i_95_198 : Jvm.ClassFile.decode (pm_bytes 95) 198 = .ok (.i2l, 1) := by decide +kernel
theorem i_95_199 : Jvm.ClassFile.decode (pm_bytes 95) 199 = .ok (.lcmp, 1) := by decide +kernel
theorem i_95_200 : Jvm.ClassFile.decode (pm_bytes 95) 200 = .ok (.ifCond .eq (5), 3) := by decide +kernel
theorem i_95_203 : Jvm.ClassFile.decode (pm_bytes 95) 203 = .ok (.iconst 0, 1) := by decide +kernel
theorem i_95_204 : Jvm.ClassFile.decode (pm_bytes 95) 204 = .ok (.ireturn, 1) := by decide +kernel
theorem i_95_205 : Jvm.ClassFile.decode (pm_bytes 95) 205 = .ok (.goto (581), 3) := by decide +kernel
theorem i_95_208 : Jvm.ClassFile.decode (pm_bytes 95) 208 = .ok (.aload_n 1, 1) := by decide +kernel
theorem i_95_209 : Jvm.ClassFile.decode (pm_bytes 95) 209 = .ok (.aload_n 0, 1) := by decide +kernel
theorem i_95_210 : Jvm.ClassFile.decode (pm_bytes 95) 210 = .ok (.iload 4, 2) := by decide +kernel
theorem i_95_212 : Jvm.ClassFile.decode (pm_bytes 95) 212 = .ok (.iconst 1, 1) := by decide +kernel
theorem i_95_213 : Jvm.ClassFile.decode (pm_bytes 95) 213 = .ok (.iadd, 1) := by decide +kernel
theorem i_95_214 : Jvm.ClassFile.decode (pm_bytes 95) 214 = .ok (.iaload, 1) := by decide +kernel
theorem i_95_215 : Jvm.ClassFile.decode (pm_bytes 95) 215 = .ok (.aload_n 0, 1) := by decide +kernel
theorem i_95_216 : Jvm.ClassFile.decode (pm_bytes 95) 216 = .ok (.iload 4, 2) := by decide +kernel
theorem i_95_218 : Jvm.ClassFile.decode (pm_bytes 95) 218 = .ok (.iconst 2, 1) := by decide +kernel
theorem i_95_219 : Jvm.ClassFile.decode (pm_bytes 95) 219 = .ok (.iadd, 1) := by decide +kernel
theorem i_95_220 : Jvm.ClassFile.decode (pm_bytes 95) 220 = .ok (.iaload, 1) := by decide +kernel
theorem i_95_221 : Jvm.ClassFile.decode (pm_bytes 95) 221 = .ok (.aload_n 0, 1) := by decide +kernel
theorem i_95_222 : Jvm.ClassFile.decode (pm_bytes 95) 222 = .ok (.iload 4, 2) := by decide +kernel
theorem i_95_224 : Jvm.ClassFile.decode (pm_bytes 95) 224 = .ok (.iconst 3, 1) := by decide +kernel
theorem i_95_225 : Jvm.ClassFile.decode (pm_bytes 95) 225 = .ok (.iadd, 1) := by decide +kernel
theorem i_95_226 : Jvm.ClassFile.decode (pm_bytes 95) 226 = .ok (.iaload, 1) := by decide +kernel
theorem i_95_227 : Jvm.ClassFile.decode (pm_bytes 95) 227 = .ok (.aload_n 3, 1) := by decide +kernel
theorem i_95_228 : Jvm.ClassFile.decode (pm_bytes 95) 228 = .ok (.invokestatic 65, 3) := by decide +kernel
theorem i_95_231 : Jvm.ClassFile.decode (pm_bytes 95) 231 = .ok (.istore 5, 2) := by decide +kernel
theorem i_95_233 : Jvm.ClassFile.decode (pm_bytes 95) 233 = .ok (.aload_n 2, 1) := by decide +kernel
theorem i_95_234 : Jvm.ClassFile.decode (pm_bytes 95) 234 = .ok (.aload_n 0, 1) := by decide +kernel
theorem i_95_235 : Jvm.ClassFile.decode (pm_bytes 95) 235 = .ok (.iload 4, 2) := by decide +kernel
theorem i_95_237 : Jvm.ClassFile.decode (pm_bytes 95) 237 = .ok (.iconst 1, 1) := by decide +kernel
theorem i_95_238 : Jvm.ClassFile.decode (pm_bytes 95) 238 = .ok (.iadd, 1) := by decide +kernel
theorem i_95_239 : Jvm.ClassFile.decode (pm_bytes 95) 239 = .ok (.iaload, 1) := by decide +kernel
theorem i_95_240 : Jvm.ClassFile.decode (pm_bytes 95) 240 = .ok (.aload_n 0, 1) := by decide +kernel
theorem i_95_241 : Jvm.ClassFile.decode (pm_bytes 95) 241 = .ok (.iload 4, 2) := by decide +kernel
theorem i_95_243 : Jvm.ClassFile.decode (pm_bytes 95) 243 = .ok (.iconst 2, 1) := by decide +kernel
theorem i_95_244 : Jvm.ClassFile.decode (pm_bytes 95) 244 = .ok (.iadd, 1) := by decide +kernel
theorem i_95_245 : Jvm.ClassFile.decode (pm_bytes 95) 245 = .ok (.iaload, 1) := by decide +kernel
theorem i_95_246 : Jvm.ClassFile.decode (pm_bytes 95) 246 = .ok (.aload_n 0, 1) := by decide +kernel
theorem i_95_247 : Jvm.ClassFile.decode (pm_bytes 95) 247 = .ok (.iload 4, 2) := by decide +kernel
theorem i_95_249 : Jvm.ClassFile.decode (pm_bytes 95) 249 = .ok (.iconst 3, 1) := by decide +kernel
theorem i_95_250 : Jvm.ClassFile.decode (pm_bytes 95) 250 = .ok (.iadd, 1) := by decide +kernel
theorem i_95_251 : Jvm.ClassFile.decode (pm_bytes 95) 251 = .ok (.iaload, 1) := by decide +kernel
theorem i_95_252 : Jvm.ClassFile.decode (pm_bytes 95) 252 = .ok (.invokevirtual 68, 3) := by decide +kernel
theorem i_95_255 : Jvm.ClassFile.decode (pm_bytes 95) 255 = .ok (.istore 6, 2) := by decide +kernel
theorem i_95_257 : Jvm.ClassFile.decode (pm_bytes 95) 257 = .ok (.aload_n 2, 1) := by decide +kernel
theorem i_95_258 : Jvm.ClassFile.decode (pm_bytes 95) 258 = .ok (.invokevirtual 58, 3) := by decide +kernel
theorem i_95_261 : Jvm.ClassFile.decode (pm_bytes 95) 261 = .ok (.iload 5, 2) := by decide +kernel
theorem i_95_263 : Jvm.ClassFile.decode (pm_bytes 95) 263 = .ok (.if_icmp .eq (5), 3) := by decide +kernel
theorem i_95_266 : Jvm.ClassFile.decode (pm_bytes 95) 266 = .ok (.iconst 0, 1) := by decide +kernel
theorem i_95_267 : Jvm.ClassFile.decode (pm_bytes 95) 267 = .ok (.ireturn, 1) := by decide +kernel
theorem i_95_268 : Jvm.ClassFile.decode (pm_bytes 95) 268 = .ok (.iload 5, 2) := by decide +kernel
theorem i_95_270 : Jvm.ClassFile.decode (pm_bytes 95) 270 = .ok (.ifCond .ne (15), 3) := by decide +kernel
theorem i_95_273 : Jvm.ClassFile.decode (pm_bytes 95) 273 = .ok (.aload_n 3, 1) := by decide +kernel
theorem i_95_274 : Jvm.ClassFile.decode (pm_bytes 95) 274 = .ok (.iconst 0, 1) := by decide +kernel
theorem i_95_275 : Jvm.ClassFile.decode (pm_bytes 95) 275 = .ok (.laload, 1) := by decide +kernel
theorem i_95_276 : Jvm.ClassFile.decode (pm_bytes 95) 276 = .ok (.iload 6, 2) := by decide +kernel
theorem i_95_278 : Jvm.ClassFile.decode (pm_bytes 95) 278 = .ok (.i2l, 1) := by decide +kernel
theorem i_95_279 : Jvm.ClassFile.decode (pm_bytes 95) 279 = .ok (.lcmp, 1) := by decide +kernel
theorem i_95_280 : Jvm.ClassFile.decode (pm_bytes 95) 280 = .ok (.ifCond .eq (5), 3) := by decide +kernel
theorem i_95_283 : Jvm.ClassFile.decode (pm_bytes 95) 283 = .ok (.iconst 0, 1) := by decide +kernel
theorem i_95_284 : Jvm.ClassFile.decode (pm_bytes 95) 284 = .ok (.ireturn, 1) := by decide +kernel
theorem i_95_285 : Jvm.ClassFile.decode (pm_bytes 95) 285 = .ok (.goto (501), 3) := by decide +kernel
theorem i_95_288 : Jvm.ClassFile.decode (pm_bytes 95) 288 = .ok (.aload_n 1, 1) := by decide +kernel
theorem i_95_289 : Jvm.ClassFile.decode (pm_bytes 95) 289 = .ok (.aload_n 0, 1) := by decide +kernel
theorem i_95_290 : Jvm.ClassFile.decode (pm_bytes 95) 290 = .ok (.iload 4, 2) := by decide +kernel
theorem i_95_292 : Jvm.ClassFile.decode (pm_bytes 95) 292 = .ok (.iconst 1, 1) := by decide +kernel
theorem i_95_293 : Jvm.ClassFile.decode (pm_bytes 95) 293 = .ok (.iadd, 1) := by decide +kernel
theorem i_95_294 : Jvm.ClassFile.decode (pm_bytes 95) 294 = .ok (.iaload, 1) := by decide +kernel
theorem i_95_295 : Jvm.ClassFile.decode (pm_bytes 95) 295 = .ok (.aload_n 0, 1) := by decide +kernel
theorem i_95_296 : Jvm.ClassFile.decode (pm_bytes 95) 296 = .ok (.iload 4, 2) := by decide +kernel
theorem i_95_298 : Jvm.ClassFile.decode (pm_bytes 95) 298 = .ok (.iconst 2, 1) := by decide +kernel
theorem i_95_299 : Jvm.ClassFile.decode (pm_bytes 95) 299 = .ok (.iadd, 1) := by decide +kernel
theorem i_95_300 : Jvm.ClassFile.decode (pm_bytes 95) 300 = .ok (.iaload, 1) := by decide +kernel
theorem i_95_301 : Jvm.ClassFile.decode (pm_bytes 95) 301 = .ok (.aload_n 0, 1) := by decide +kernel
theorem i_95_302 : Jvm.ClassFile.decode (pm_bytes 95) 302 = .ok (.iload 4, 2) := by decide +kernel
theorem i_95_304 : Jvm.ClassFile.decode (pm_bytes 95) 304 = .ok (.iconst 3, 1) := by decide +kernel
theorem i_95_305 : Jvm.ClassFile.decode (pm_bytes 95) 305 = .ok (.iadd, 1) := by decide +kernel
theorem i_95_306 : Jvm.ClassFile.decode (pm_bytes 95) 306 = .ok (.iaload, 1) := by decide +kernel
theorem i_95_307 : Jvm.ClassFile.decode (pm_bytes 95) 307 = .ok (.aload_n 3, 1) := by decide +kernel
theorem i_95_308 : Jvm.ClassFile.decode (pm_bytes 95) 308 = .ok (.invokestatic 69, 3) := by decide +kernel
theorem i_95_311 : Jvm.ClassFile.decode (pm_bytes 95) 311 = .ok (.istore 5, 2) := by decide +kernel
theorem i_95_313 : Jvm.ClassFile.decode (pm_bytes 95) 313 = .ok (.aload_n 2, 1) := by decide +kernel
theorem i_95_314 : Jvm.ClassFile.decode (pm_bytes 95) 314 = .ok (.aload_n 0, 1) := by decide +kernel
theorem i_95_315 : Jvm.ClassFile.decode (pm_bytes 95) 315 = .ok (.iload 4, 2) := by decide +kernel
theorem i_95_317 : Jvm.ClassFile.decode (pm_bytes 95) 317 = .ok (.iconst 1, 1) := by decide +kernel
theorem i_95_318 : Jvm.ClassFile.decode (pm_bytes 95) 318 = .ok (.iadd, 1) := by decide +kernel
theorem i_95_319 : Jvm.ClassFile.decode (pm_bytes 95) 319 = .ok (.iaload, 1) := by decide +kernel
theorem i_95_320 : Jvm.ClassFile.decode (pm_bytes 95) 320 = .ok (.aload_n 0, 1) := by decide +kernel
theorem i_95_321 : Jvm.ClassFile.decode (pm_bytes 95) 321 = .ok (.iload 4, 2) := by decide +kernel
theorem i_95_323 : Jvm.ClassFile.decode (pm_bytes 95) 323 = .ok (.iconst 2, 1) := by decide +kernel
theorem i_95_324 : Jvm.ClassFile.decode (pm_bytes 95) 324 = .ok (.iadd, 1) := by decide +kernel
theorem i_95_325 : Jvm.ClassFile.decode (pm_bytes 95) 325 = .ok (.iaload, 1) := by decide +kernel
theorem i_95_326 : Jvm.ClassFile.decode (pm_bytes 95) 326 = .ok (.aload_n 0, 1) := by decide +kernel
theorem i_95_327 : Jvm.ClassFile.decode (pm_bytes 95) 327 = .ok (.iload 4, 2) := by decide +kernel
theorem i_95_329 : Jvm.ClassFile.decode (pm_bytes 95) 329 = .ok (.iconst 3, 1) := by decide +kernel
theorem i_95_330 : Jvm.ClassFile.decode (pm_bytes 95) 330 = .ok (.iadd, 1) := by decide +kernel
theorem i_95_331 : Jvm.ClassFile.decode (pm_bytes 95) 331 = .ok (.iaload, 1) := by decide +kernel
theorem i_95_332 : Jvm.ClassFile.decode (pm_bytes 95) 332 = .ok (.invokevirtual 71, 3) := by decide +kernel
theorem i_95_335 : Jvm.ClassFile.decode (pm_bytes 95) 335 = .ok (.istore 6, 2) := by decide +kernel
theorem i_95_337 : Jvm.ClassFile.decode (pm_bytes 95) 337 = .ok (.aload_n 2, 1) := by decide +kernel
theorem i_95_338 : Jvm.ClassFile.decode (pm_bytes 95) 338 = .ok (.invokevirtual 58, 3) := by decide +kernel
theorem i_95_341 : Jvm.ClassFile.decode (pm_bytes 95) 341 = .ok (.iload 5, 2) := by decide +kernel
theorem i_95_343 : Jvm.ClassFile.decode (pm_bytes 95) 343 = .ok (.if_icmp .eq (5), 3) := by decide +kernel
theorem i_95_346 : Jvm.ClassFile.decode (pm_bytes 95) 346 = .ok (.iconst 0, 1) := by decide +kernel
theorem i_95_347 : Jvm.ClassFile.decode (pm_bytes 95) 347 = .ok (.ireturn, 1) := by decide +kernel
theorem i_95_348 : Jvm.ClassFile.decode (pm_bytes 95) 348 = .ok (.iload 5, 2) := by decide +kernel
theorem i_95_350 : Jvm.ClassFile.decode (pm_bytes 95) 350 = .ok (.ifCond .ne (15), 3) := by decide +kernel
theorem i_95_353 : Jvm.ClassFile.decode (pm_bytes 95) 353 = .ok (.aload_n 3, 1) := by decide +kernel
theorem i_95_354 : Jvm.ClassFile.decode (pm_bytes 95) 354 = .ok (.iconst 0, 1) := by decide +kernel
theorem i_95_355 : Jvm.ClassFile.decode (pm_bytes 95) 355 = .ok (.laload, 1) := by decide +kernel
theorem i_95_356 : Jvm.ClassFile.decode (pm_bytes 95) 356 = .ok (.iload 6, 2) := by decide +kernel
theorem i_95_358 : Jvm.ClassFile.decode (pm_bytes 95) 358 = .ok (.i2l, 1) := by decide +kernel
theorem i_95_359 : Jvm.ClassFile.decode (pm_bytes 95) 359 = .ok (.lcmp, 1) := by decide +kernel
theorem i_95_360 : Jvm.ClassFile.decode (pm_bytes 95) 360 = .ok (.ifCond .eq (5), 3) := by decide +kernel
theorem i_95_363 : Jvm.ClassFile.decode (pm_bytes 95) 363 = .ok (.iconst 0, 1) := by decide +kernel
theorem i_95_364 : Jvm.ClassFile.decode (pm_bytes 95) 364 = .ok (.ireturn, 1) := by decide +kernel
theorem i_95_365 : Jvm.ClassFile.decode (pm_bytes 95) 365 = .ok (.goto (421), 3) := by decide +kernel
theorem i_95_368 : Jvm.ClassFile.decode (pm_bytes 95) 368 = .ok (.aload_n 1, 1) := by decide +kernel
theorem i_95_369 : Jvm.ClassFile.decode (pm_bytes 95) 369 = .ok (.aload_n 0, 1) := by decide +kernel
theorem i_95_370 : Jvm.ClassFile.decode (pm_bytes 95) 370 = .ok (.iload 4, 2) := by decide +kernel
theorem i_95_372 : Jvm.ClassFile.decode (pm_bytes 95) 372 = .ok (.iconst 1, 1) := by decide +kernel
theorem i_95_373 : Jvm.ClassFile.decode (pm_bytes 95) 373 = .ok (.iadd, 1) := by decide +kernel
theorem i_95_374 : Jvm.ClassFile.decode (pm_bytes 95) 374 = .ok (.iaload, 1) := by decide +kernel
theorem i_95_375 : Jvm.ClassFile.decode (pm_bytes 95) 375 = .ok (.aload_n 3, 1) := by decide +kernel
theorem i_95_376 : Jvm.ClassFile.decode (pm_bytes 95) 376 = .ok (.invokestatic 72, 3) := by decide +kernel
theorem i_95_379 : Jvm.ClassFile.decode (pm_bytes 95) 379 = .ok (.istore 5, 2) := by decide +kernel
theorem i_95_381 : Jvm.ClassFile.decode (pm_bytes 95) 381 = .ok (.aload_n 2, 1) := by decide +kernel
theorem i_95_382 : Jvm.ClassFile.decode (pm_bytes 95) 382 = .ok (.aload_n 0, 1) := by decide +kernel
theorem i_95_383 : Jvm.ClassFile.decode (pm_bytes 95) 383 = .ok (.iload 4, 2) := by decide +kernel
theorem i_95_385 : Jvm.ClassFile.decode (pm_bytes 95) 385 = .ok (.iconst 1, 1) := by decide +kernel
theorem i_95_386 : Jvm.ClassFile.decode (pm_bytes 95) 386 = .ok (.iadd, 1) := by decide +kernel
theorem i_95_387 : Jvm.ClassFile.decode (pm_bytes 95) 387 = .ok (.iaload, 1) := by decide +kernel
theorem i_95_388 : Jvm.ClassFile.decode (pm_bytes 95) 388 = .ok (.invokevirtual 74, 3) := by decide +kernel
theorem i_95_391 : Jvm.ClassFile.decode (pm_bytes 95) 391 = .ok (.istore 6, 2) := by decide +kernel
theorem i_95_393 : Jvm.ClassFile.decode (pm_bytes 95) 393 = .ok (.aload_n 2, 1) := by decide +kernel
theorem i_95_394 : Jvm.ClassFile.decode (pm_bytes 95) 394 = .ok (.invokevirtual 58, 3) := by decide +kernel
theorem i_95_397 : Jvm.ClassFile.decode (pm_bytes 95) 397 = .ok (.iload 5, 2) := by decide +kernel
theorem i_95_399 : Jvm.ClassFile.decode (pm_bytes 95) 399 = .ok (.if_icmp .eq (5), 3) := by decide +kernel
theorem i_95_402 : Jvm.ClassFile.decode (pm_bytes 95) 402 = .ok (.iconst 0, 1) := by decide +kernel
theorem i_95_403 : Jvm.ClassFile.decode (pm_bytes 95) 403 = .ok (.ireturn, 1) := by decide +kernel
theorem i_95_404 : Jvm.ClassFile.decode (pm_bytes 95) 404 = .ok (.iload 5, 2) := by decide +kernel
theorem i_95_406 : Jvm.ClassFile.decode (pm_bytes 95) 406 = .ok (.ifCond .ne (15), 3) := by decide +kernel
theorem i_95_409 : Jvm.ClassFile.decode (pm_bytes 95) 409 = .ok (.aload_n 3, 1) := by decide +kernel
theorem i_95_410 : Jvm.ClassFile.decode (pm_bytes 95) 410 = .ok (.iconst 0, 1) := by decide +kernel
theorem i_95_411 : Jvm.ClassFile.decode (pm_bytes 95) 411 = .ok (.laload, 1) := by decide +kernel
theorem i_95_412 : Jvm.ClassFile.decode (pm_bytes 95) 412 = .ok (.iload 6, 2) := by decide +kernel
theorem i_95_414 : Jvm.ClassFile.decode (pm_bytes 95) 414 = .ok (.i2l, 1) := by decide +kernel
theorem i_95_415 : Jvm.ClassFile.decode (pm_bytes 95) 415 = .ok (.lcmp, 1) := by decide +kernel
theorem i_95_416 : Jvm.ClassFile.decode (pm_bytes 95) 416 = .ok (.ifCond .eq (5), 3) := by decide +kernel
theorem i_95_419 : Jvm.ClassFile.decode (pm_bytes 95) 419 = .ok (.iconst 0, 1) := by decide +kernel
theorem i_95_420 : Jvm.ClassFile.decode (pm_bytes 95) 420 = .ok (.ireturn, 1) := by decide +kernel
theorem i_95_421 : Jvm.ClassFile.decode (pm_bytes 95) 421 = .ok (.goto (365), 3) := by decide +kernel
theorem i_95_424 : Jvm.ClassFile.decode (pm_bytes 95) 424 = .ok (.aload_n 1, 1) := by decide +kernel
theorem i_95_425 : Jvm.ClassFile.decode (pm_bytes 95) 425 = .ok (.invokevirtual 75, 3) := by decide +kernel
theorem i_95_428 : Jvm.ClassFile.decode (pm_bytes 95) 428 = .ok (.aload_n 2, 1) := by decide +kernel
theorem i_95_429 : Jvm.ClassFile.decode (pm_bytes 95) 429 = .ok (.invokevirtual 78, 3) := by decide +kernel
theorem i_95_432 : Jvm.ClassFile.decode (pm_bytes 95) 432 = .ok (.if_icmp .eq (354), 3) := by decide +kernel
theorem i_95_435 : Jvm.ClassFile.decode (pm_bytes 95) 435 = .ok (.iconst 0, 1) := by decide +kernel
theorem i_95_436 : Jvm.ClassFile.decode (pm_bytes 95) 436 = .ok (.ireturn, 1) := by decide +kernel
theorem i_95_437 : Jvm.ClassFile.decode (pm_bytes 95) 437 = .ok (.aload_n 1, 1) := by decide +kernel
theorem i_95_438 : Jvm.ClassFile.decode (pm_bytes 95) 438 = .ok (.invokevirtual 79, 3) := by decide +kernel
theorem i_95_441 : Jvm.ClassFile.decode (pm_bytes 95) 441 = .ok (.aload_n 2, 1) := by decide +kernel
theorem i_95_442 : Jvm.ClassFile.decode (pm_bytes 95) 442 = .ok (.invokevirtual 83, 3) := by decide +kernel
theorem i_95_445 : Jvm.ClassFile.decode (pm_bytes 95) 445 = .ok (.if_icmp .eq (341), 3) := by decide +kernel
theorem i_95_448 : Jvm.ClassFile.decode (pm_bytes 95) 448 = .ok (.iconst 0, 1) := by decide +kernel
theorem i_95_449 : Jvm.ClassFile.decode (pm_bytes 95) 449 = .ok (.ireturn, 1) := by decide +kernel
theorem i_95_450 : Jvm.ClassFile.decode (pm_bytes 95) 450 = .ok (.aload_n 1, 1) := by decide +kernel
theorem i_95_451 : Jvm.ClassFile.decode (pm_bytes 95) 451 = .ok (.invokevirtual 84, 3) := by decide +kernel
theorem i_95_454 : Jvm.ClassFile.decode (pm_bytes 95) 454 = .ok (.aload_n 2, 1) := by decide +kernel
theorem i_95_455 : Jvm.ClassFile.decode (pm_bytes 95) 455 = .ok (.invokevirtual 87, 3) := by decide +kernel
theorem i_95_458 : Jvm.ClassFile.decode (pm_bytes 95) 458 = .ok (.if_icmp .eq (328), 3) := by decide +kernel
theorem i_95_461 : Jvm.ClassFile.decode (pm_bytes 95) 461 = .ok (.iconst 0, 1) := by decide +kernel
theorem i_95_462 : Jvm.ClassFile.decode (pm_bytes 95) 462 = .ok (.ireturn, 1) := by decide +kernel
theorem i_95_463 : Jvm.ClassFile.decode (pm_bytes 95) 463 = .ok (.aload_n 1, 1) := by decide +kernel
theorem i_95_464 : Jvm.ClassFile.decode (pm_bytes 95) 464 = .ok (.aload_n 0, 1) := by decide +kernel
theorem i_95_465 : Jvm.ClassFile.decode (pm_bytes 95) 465 = .ok (.iload 4, 2) := by decide +kernel
theorem i_95_467 : Jvm.ClassFile.decode (pm_bytes 95) 467 = .ok (.iconst 1, 1) := by decide +kernel
theorem i_95_468 : Jvm.ClassFile.decode (pm_bytes 95) 468 = .ok (.iadd, 1) := by decide +kernel
theorem i_95_469 : Jvm.ClassFile.decode (pm_bytes 95) 469 = .ok (.iaload, 1) := by decide +kernel
theorem i_95_470 : Jvm.ClassFile.decode (pm_bytes 95) 470 = .ok (.aload_n 3, 1) := by decide +kernel
theorem i_95_471 : Jvm.ClassFile.decode (pm_bytes 95) 471 = .ok (.invokestatic 88, 3) := by decide +kernel
theorem i_95_474 : Jvm.ClassFile.decode (pm_bytes 95) 474 = .ok (.istore 5, 2) := by decide +kernel
theorem i_95_476 : Jvm.ClassFile.decode (pm_bytes 95) 476 = .ok (.aload_n 2, 1) := by decide +kernel
theorem i_95_477 : Jvm.ClassFile.decode (pm_bytes 95) 477 = .ok (.aload_n 0, 1) := by decide +kernel
theorem i_95_478 : Jvm.ClassFile.decode (pm_bytes 95) 478 = .ok (.iload 4, 2) := by decide +kernel
theorem i_95_480 : Jvm.ClassFile.decode (pm_bytes 95) 480 = .ok (.iconst 1, 1) := by decide +kernel
theorem i_95_481 : Jvm.ClassFile.decode (pm_bytes 95) 481 = .ok (.iadd, 1) := by decide +kernel
theorem i_95_482 : Jvm.ClassFile.decode (pm_bytes 95) 482 = .ok (.iaload, 1) := by decide +kernel
theorem i_95_483 : Jvm.ClassFile.decode (pm_bytes 95) 483 = .ok (.invokevirtual 90, 3) := by decide +kernel
theorem i_95_486 : Jvm.ClassFile.decode (pm_bytes 95) 486 = .ok (.istore 6, 2) := by decide +kernel
theorem i_95_488 : Jvm.ClassFile.decode (pm_bytes 95) 488 = .ok (.aload_n 2, 1) := by decide +kernel
theorem i_95_489 : Jvm.ClassFile.decode (pm_bytes 95) 489 = .ok (.invokevirtual 58, 3) := by decide +kernel
theorem i_95_492 : Jvm.ClassFile.decode (pm_bytes 95) 492 = .ok (.iload 5, 2) := by decide +kernel
theorem i_95_494 : Jvm.ClassFile.decode (pm_bytes 95) 494 = .ok (.if_icmp .eq (5), 3) := by decide +kernel
theorem i_95_497 : Jvm.ClassFile.decode (pm_bytes 95) 497 = .ok (.iconst 0, 1) := by decide +kernel
theorem i_95_498 : Jvm.ClassFile.decode (pm_bytes 95) 498 = .ok (.ireturn, 1) := by decide +kernel
theorem i_95_499 : Jvm.ClassFile.decode (pm_bytes 95) 499 = .ok (.iload 5, 2) := by decide +kernel
theorem i_95_501 : Jvm.ClassFile.decode (pm_bytes 95) 501 = .ok (.ifCond .ne (15), 3) := by decide +kernel
theorem i_95_504 : Jvm.ClassFile.decode (pm_bytes 95) 504 = .ok (.aload_n 3, 1) := by decide +kernel
theorem i_95_505 : Jvm.ClassFile.decode (pm_bytes 95) 505 = .ok (.iconst 0, 1) := by decide +kernel
theorem i_95_506 : Jvm.ClassFile.decode (pm_bytes 95) 506 = .ok (.laload, 1) := by decide +kernel
theorem i_95_507 : Jvm.ClassFile.decode (pm_bytes 95) 507 = .ok (.iload 6, 2) := by decide +kernel
theorem i_95_509 : Jvm.ClassFile.decode (pm_bytes 95) 509 = .ok (.i2l, 1) := by decide +kernel
theorem i_95_510 : Jvm.ClassFile.decode (pm_bytes 95) 510 = .ok (.lcmp, 1) := by decide +kernel
theorem i_95_511 : Jvm.ClassFile.decode (pm_bytes 95) 511 = .ok (.ifCond .eq (5), 3) := by decide +kernel
theorem i_95_514 : Jvm.ClassFile.decode (pm_bytes 95) 514 = .ok (.iconst 0, 1) := by decide +kernel
theorem i_95_515 : Jvm.ClassFile.decode (pm_bytes 95) 515 = .ok (.ireturn, 1) := by decide +kernel
theorem i_95_516 : Jvm.ClassFile.decode (pm_bytes 95) 516 = .ok (.goto (270), 3) := by decide +kernel
theorem i_95_519 : Jvm.ClassFile.decode (pm_bytes 95) 519 = .ok (.aload_n 1, 1) := by decide +kernel
theorem i_95_520 : Jvm.ClassFile.decode (pm_bytes 95) 520 = .ok (.aload_n 0, 1) := by decide +kernel
theorem i_95_521 : Jvm.ClassFile.decode (pm_bytes 95) 521 = .ok (.iload 4, 2) := by decide +kernel
theorem i_95_523 : Jvm.ClassFile.decode (pm_bytes 95) 523 = .ok (.iconst 1, 1) := by decide +kernel
theorem i_95_524 : Jvm.ClassFile.decode (pm_bytes 95) 524 = .ok (.iadd, 1) := by decide +kernel
theorem i_95_525 : Jvm.ClassFile.decode (pm_bytes 95) 525 = .ok (.iaload, 1) := by decide +kernel
theorem i_95_526 : Jvm.ClassFile.decode (pm_bytes 95) 526 = .ok (.aload_n 0, 1) := by decide +kernel
theorem i_95_527 : Jvm.ClassFile.decode (pm_bytes 95) 527 = .ok (.iload 4, 2) := by decide +kernel
theorem i_95_529 : Jvm.ClassFile.decode (pm_bytes 95) 529 = .ok (.iconst 2, 1) := by decide +kernel
theorem i_95_530 : Jvm.ClassFile.decode (pm_bytes 95) 530 = .ok (.iadd, 1) := by decide +kernel
theorem i_95_531 : Jvm.ClassFile.decode (pm_bytes 95) 531 = .ok (.iaload, 1) := by decide +kernel
theorem i_95_532 : Jvm.ClassFile.decode (pm_bytes 95) 532 = .ok (.aload_n 3, 1) := by decide +kernel
theorem i_95_533 : Jvm.ClassFile.decode (pm_bytes 95) 533 = .ok (.invokestatic 91, 3) := by decide +kernel
theorem i_95_536 : Jvm.ClassFile.decode (pm_bytes 95) 536 = .ok (.istore 5, 2) := by decide +kernel
theorem i_95_538 : Jvm.ClassFile.decode (pm_bytes 95) 538 = .ok (.aload_n 2, 1) := by decide +kernel
theorem i_95_539 : Jvm.ClassFile.decode (pm_bytes 95) 539 = .ok (.aload_n 0, 1) := by decide +kernel
theorem i_95_540 : Jvm.ClassFile.decode (pm_bytes 95) 540 = .ok (.iload 4, 2) := by decide +kernel
theorem i_95_542 : Jvm.ClassFile.decode (pm_bytes 95) 542 = .ok (.iconst 1, 1) := by decide +kernel
theorem i_95_543 : Jvm.ClassFile.decode (pm_bytes 95) 543 = .ok (.iadd, 1) := by decide +kernel
theorem i_95_544 : Jvm.ClassFile.decode (pm_bytes 95) 544 = .ok (.iaload, 1) := by decide +kernel
theorem i_95_545 : Jvm.ClassFile.decode (pm_bytes 95) 545 = .ok (.aload_n 0, 1) := by decide +kernel
theorem i_95_546 : Jvm.ClassFile.decode (pm_bytes 95) 546 = .ok (.iload 4, 2) := by decide +kernel
theorem i_95_548 : Jvm.ClassFile.decode (pm_bytes 95) 548 = .ok (.iconst 2, 1) := by decide +kernel
theorem i_95_549 : Jvm.ClassFile.decode (pm_bytes 95) 549 = .ok (.iadd, 1) := by decide +kernel
theorem i_95_550 : Jvm.ClassFile.decode (pm_bytes 95) 550 = .ok (.iaload, 1) := by decide +kernel
theorem i_95_551 : Jvm.ClassFile.decode (pm_bytes 95) 551 = .ok (.invokevirtual 94, 3) := by decide +kernel
theorem i_95_554 : Jvm.ClassFile.decode (pm_bytes 95) 554 = .ok (.istore 6, 2) := by decide +kernel
theorem i_95_556 : Jvm.ClassFile.decode (pm_bytes 95) 556 = .ok (.aload_n 2, 1) := by decide +kernel
theorem i_95_557 : Jvm.ClassFile.decode (pm_bytes 95) 557 = .ok (.invokevirtual 58, 3) := by decide +kernel
theorem i_95_560 : Jvm.ClassFile.decode (pm_bytes 95) 560 = .ok (.iload 5, 2) := by decide +kernel
theorem i_95_562 : Jvm.ClassFile.decode (pm_bytes 95) 562 = .ok (.if_icmp .eq (5), 3) := by decide +kernel
theorem i_95_565 : Jvm.ClassFile.decode (pm_bytes 95) 565 = .ok (.iconst 0, 1) := by decide +kernel
theorem i_95_566 : Jvm.ClassFile.decode (pm_bytes 95) 566 = .ok (.ireturn, 1) := by decide +kernel
theorem i_95_567 : Jvm.ClassFile.decode (pm_bytes 95) 567 = .ok (.iload 5, 2) := by decide +kernel
theorem i_95_569 : Jvm.ClassFile.decode (pm_bytes 95) 569 = .ok (.ifCond .ne (22), 3) := by decide +kernel
theorem i_95_572 : Jvm.ClassFile.decode (pm_bytes 95) 572 = .ok (.aload_n 3, 1) := by decide +kernel
theorem i_95_573 : Jvm.ClassFile.decode (pm_bytes 95) 573 = .ok (.iconst 0, 1) := by decide +kernel
theorem i_95_574 : Jvm.ClassFile.decode (pm_bytes 95) 574 = .ok (.laload, 1) := by decide +kernel
theorem i_95_575 : Jvm.ClassFile.decode (pm_bytes 95) 575 = .ok (.iload 6, 2) := by decide +kernel
theorem i_95_577 : Jvm.ClassFile.decode (pm_bytes 95) 577 = .ok (.ifCond .eq (7), 3) := by decide +kernel
theorem i_95_580 : Jvm.ClassFile.decode (pm_bytes 95) 580 = .ok (.lconst 1, 1) := by decide +kernel
theorem i_95_581 : Jvm.ClassFile.decode (pm_bytes 95) 581 = .ok (.goto (4), 3) := by decide +kernel
theorem i_95_584 : Jvm.ClassFile.decode (pm_bytes 95) 584 = .ok (.lconst 0, 1) := by decide +kernel
theorem i_95_585 : Jvm.ClassFile.decode (pm_bytes 95) 585 = .ok (.lcmp, 1) := by decide +kernel
theorem i_95_586 : Jvm.ClassFile.decode (pm_bytes 95) 586 = .ok (.ifCond .eq (5), 3) := by decide +kernel
theorem i_95_589 : Jvm.ClassFile.decode (pm_bytes 95) 589 = .ok (.iconst 0, 1) := by decide +kernel
theorem i_95_590 : Jvm.ClassFile.decode (pm_bytes 95) 590 = .ok (.ireturn, 1) := by decide +kernel
theorem i_95_591 : Jvm.ClassFile.decode (pm_bytes 95) 591 = .ok (.goto (195), 3) := by decide +kernel
theorem i_95_594 : Jvm.ClassFile.decode (pm_bytes 95) 594 = .ok (.aload_n 1, 1) := by decide +kernel
theorem i_95_595 : Jvm.ClassFile.decode (pm_bytes 95) 595 = .ok (.aload_n 0, 1) := by decide +kernel
theorem i_95_596 : Jvm.ClassFile.decode (pm_bytes 95) 596 = .ok (.iload 4, 2) := by decide +kernel
theorem i_95_598 : Jvm.ClassFile.decode (pm_bytes 95) 598 = .ok (.iconst 1, 1) := by decide +kernel
theorem i_95_599 : Jvm.ClassFile.decode (pm_bytes 95) 599 = .ok (.iadd, 1) := by decide +kernel
theorem i_95_600 : Jvm.ClassFile.decode (pm_bytes 95) 600 = .ok (.iaload, 1) := by decide +kernel
theorem i_95_601 : Jvm.ClassFile.decode (pm_bytes 95) 601 = .ok (.aload_n 0, 1) := by decide +kernel
theorem i_95_602 : Jvm.ClassFile.decode (pm_bytes 95) 602 = .ok (.iload 4, 2) := by decide +kernel
theorem i_95_604 : Jvm.ClassFile.decode (pm_bytes 95) 604 = .ok (.iconst 2, 1) := by decide +kernel
theorem i_95_605 : Jvm.ClassFile.decode (pm_bytes 95) 605 = .ok (.iadd, 1) := by decide +kernel
theorem i_95_606 : Jvm.ClassFile.decode (pm_bytes 95) 606 = .ok (.iaload, 1) := by decide +kernel
theorem i_95_607 : Jvm.ClassFile.decode (pm_bytes 95) 607 = .ok (.ifCond .eq (7), 3) := by decide +kernel
theorem i_95_610 : Jvm.ClassFile.decode (pm_bytes 95) 610 = .ok (.iconst 1, 1) := by decide +kernel
theorem i_95_611 : Jvm.ClassFile.decode (pm_bytes 95) 611 = .ok (.goto (4), 3) := by decide +kernel
theorem i_95_614 : Jvm.ClassFile.decode (pm_bytes 95) 614 = .ok (.iconst 0, 1) := by decide +kernel
theorem i_95_615 : Jvm.ClassFile.decode (pm_bytes 95) 615 = .ok (.aload_n 3, 1) := by decide +kernel
theorem i_95_616 : Jvm.ClassFile.decode (pm_bytes 95) 616 = .ok (.invokestatic 95, 3) := by decide +kernel
theorem i_95_619 : Jvm.ClassFile.decode (pm_bytes 95) 619 = .ok (.istore 5, 2) := by decide +kernel
theorem i_95_621 : Jvm.ClassFile.decode (pm_bytes 95) 621 = .ok (.aload_n 2, 1) := by decide +kernel
theorem i_95_622 : Jvm.ClassFile.decode (pm_bytes 95) 622 = .ok (.aload_n 0, 1) := by decide +kernel
theorem i_95_623 : Jvm.ClassFile.decode (pm_bytes 95) 623 = .ok (.iload 4, 2) := by decide +kernel
theorem i_95_625 : Jvm.ClassFile.decode (pm_bytes 95) 625 = .ok (.iconst 1, 1) := by decide +kernel
theorem i_95_626 : Jvm.ClassFile.decode (pm_bytes 95) 626 = .ok (.iadd, 1) := by decide +kernel
theorem i_95_627 : Jvm.ClassFile.decode (pm_bytes 95) 627 = .ok (.iaload, 1) := by decide +kernel
theorem i_95_628 : Jvm.ClassFile.decode (pm_bytes 95) 628 = .ok (.aload_n 0, 1) := by decide +kernel
theorem i_95_629 : Jvm.ClassFile.decode (pm_bytes 95) 629 = .ok (.iload 4, 2) := by decide +kernel
theorem i_95_631 : Jvm.ClassFile.decode (pm_bytes 95) 631 = .ok (.iconst 2, 1) := by decide +kernel
theorem i_95_632 : Jvm.ClassFile.decode (pm_bytes 95) 632 = .ok (.iadd, 1) := by decide +kernel
theorem i_95_633 : Jvm.ClassFile.decode (pm_bytes 95) 633 = .ok (.iaload, 1) := by decide +kernel
theorem i_95_634 : Jvm.ClassFile.decode (pm_bytes 95) 634 = .ok (.ifCond .eq (7), 3) := by decide +kernel
theorem i_95_637 : Jvm.ClassFile.decode (pm_bytes 95) 637 = .ok (.iconst 1, 1) := by decide +kernel
theorem i_95_638 : Jvm.ClassFile.decode (pm_bytes 95) 638 = .ok (.goto (4), 3) := by decide +kernel
theorem i_95_641 : Jvm.ClassFile.decode (pm_bytes 95) 641 = .ok (.iconst 0, 1) := by decide +kernel
theorem i_95_642 : Jvm.ClassFile.decode (pm_bytes 95) 642 = .ok (.invokevirtual 98, 3) := by decide +kernel
theorem i_95_645 : Jvm.ClassFile.decode (pm_bytes 95) 645 = .ok (.istore 6, 2) := by decide +kernel
theorem i_95_647 : Jvm.ClassFile.decode (pm_bytes 95) 647 = .ok (.aload_n 2, 1) := by decide +kernel
theorem i_95_648 : Jvm.ClassFile.decode (pm_bytes 95) 648 = .ok (.invokevirtual 58, 3) := by decide +kernel
theorem i_95_651 : Jvm.ClassFile.decode (pm_bytes 95) 651 = .ok (.iload 5, 2) := by decide +kernel
theorem i_95_653 : Jvm.ClassFile.decode (pm_bytes 95) 653 = .ok (.if_icmp .eq (5), 3) := by decide +kernel
theorem i_95_656 : Jvm.ClassFile.decode (pm_bytes 95) 656 = .ok (.iconst 0, 1) := by decide +kernel
theorem i_95_657 : Jvm.ClassFile.decode (pm_bytes 95) 657 = .ok (.ireturn, 1) := by decide +kernel
theorem i_95_658 : Jvm.ClassFile.decode (pm_bytes 95) 658 = .ok (.iload 5, 2) := by decide +kernel
theorem i_95_660 : Jvm.ClassFile.decode (pm_bytes 95) 660 = .ok (.ifCond .ne (22), 3) := by decide +kernel
theorem i_95_663 : Jvm.ClassFile.decode (pm_bytes 95) 663 = .ok (.aload_n 3, 1) := by decide +kernel
theorem i_95_664 : Jvm.ClassFile.decode (pm_bytes 95) 664 = .ok (.iconst 0, 1) := by decide +kernel
theorem i_95_665 : Jvm.ClassFile.decode (pm_bytes 95) 665 = .ok (.laload, 1) := by decide +kernel
theorem i_95_666 : Jvm.ClassFile.decode (pm_bytes 95) 666 = .ok (.iload 6, 2) := by decide +kernel
theorem i_95_668 : Jvm.ClassFile.decode (pm_bytes 95) 668 = .ok (.ifCond .eq (7), 3) := by decide +kernel
theorem i_95_671 : Jvm.ClassFile.decode (pm_bytes 95) 671 = .ok (.lconst 1, 1) := by decide +kernel
theorem i_95_672 : Jvm.ClassFile.decode (pm_bytes 95) 672 = .ok (.goto (4), 3) := by decide +kernel
theorem i_95_675 : Jvm.ClassFile.decode (pm_bytes 95) 675 = .ok (.lconst 0, 1) := by decide +kernel
theorem i_95_676 : Jvm.ClassFile.decode (pm_bytes 95) 676 = .ok (.lcmp, 1) := by decide +kernel
theorem i_95_677 : Jvm.ClassFile.decode (pm_bytes 95) 677 = .ok (.ifCond .eq (5), 3) := by decide +kernel
theorem i_95_680 : Jvm.ClassFile.decode (pm_bytes 95) 680 = .ok (.iconst 0, 1) := by decide +kernel
theorem i_95_681 : Jvm.ClassFile.decode (pm_bytes 95) 681 = .ok (.ireturn, 1) := by decide +kernel
theorem i_95_682 : Jvm.ClassFile.decode (pm_bytes 95) 682 = .ok (.goto (104), 3) := by decide +kernel
theorem i_95_685 : Jvm.ClassFile.decode (pm_bytes 95) 685 = .ok (.aload_n 1, 1) := by decide +kernel
theorem i_95_686 : Jvm.ClassFile.decode (pm_bytes 95) 686 = .ok (.aload_n 0, 1) := by decide +kernel
theorem i_95_687 : Jvm.ClassFile.decode (pm_bytes 95) 687 = .ok (.iload 4, 2) := by decide +kernel
theorem i_95_689 : Jvm.ClassFile.decode (pm_bytes 95) 689 = .ok (.iconst 1, 1) := by decide +kernel
theorem i_95_690 : Jvm.ClassFile.decode (pm_bytes 95) 690 = .ok (.iadd, 1) := by decide +kernel
theorem i_95_691 : Jvm.ClassFile.decode (pm_bytes 95) 691 = .ok (.iaload, 1) := by decide +kernel
theorem i_95_692 : Jvm.ClassFile.decode (pm_bytes 95) 692 = .ok (.aload_n 3, 1) := by decide +kernel
theorem i_95_693 : Jvm.ClassFile.decode (pm_bytes 95) 693 = .ok (.invokestatic 99, 3) := by decide +kernel
theorem i_95_696 : Jvm.ClassFile.decode (pm_bytes 95) 696 = .ok (.istore 5, 2) := by decide +kernel
theorem i_95_698 : Jvm.ClassFile.decode (pm_bytes 95) 698 = .ok (.aload_n 2, 1) := by decide +kernel
theorem i_95_699 : Jvm.ClassFile.decode (pm_bytes 95) 699 = .ok (.aload_n 0, 1) := by decide +kernel
theorem i_95_700 : Jvm.ClassFile.decode (pm_bytes 95) 700 = .ok (.iload 4, 2) := by decide +kernel
theorem i_95_702 : Jvm.ClassFile.decode (pm_bytes 95) 702 = .ok (.iconst 1, 1) := by decide +kernel
theorem i_95_703 : Jvm.ClassFile.decode (pm_bytes 95) 703 = .ok (.iadd, 1) := by decide +kernel
theorem i_95_704 : Jvm.ClassFile.decode (pm_bytes 95) 704 = .ok (.iaload, 1) := by decide +kernel
theorem i_95_705 : Jvm.ClassFile.decode (pm_bytes 95) 705 = .ok (.invokevirtual 101, 3) := by decide +kernel
theorem i_95_708 : Jvm.ClassFile.decode (pm_bytes 95) 708 = .ok (.istore 6, 2) := by decide +kernel
theorem i_95_710 : Jvm.ClassFile.decode (pm_bytes 95) 710 = .ok (.aload_n 2, 1) := by decide +kernel
theorem i_95_711 : Jvm.ClassFile.decode (pm_bytes 95) 711 = .ok (.invokevirtual 58, 3) := by decide +kernel
theorem i_95_714 : Jvm.ClassFile.decode (pm_bytes 95) 714 = .ok (.iload 5, 2) := by decide +kernel
theorem i_95_716 : Jvm.ClassFile.decode (pm_bytes 95) 716 = .ok (.if_icmp .eq (5), 3) := by decide +kernel
theorem i_95_719 : Jvm.ClassFile.decode (pm_bytes 95) 719 = .ok (.iconst 0, 1) := by decide +kernel
theorem i_95_720 : Jvm.ClassFile.decode (pm_bytes 95) 720 = .ok (.ireturn, 1) := by decide +kernel
theorem i_95_721 : Jvm.ClassFile.decode (pm_bytes 95) 721 = .ok (.iload 5, 2) := by decide +kernel
theorem i_95_723 : Jvm.ClassFile.decode (pm_bytes 95) 723 = .ok (.ifCond .ne (22), 3) := by decide +kernel
theorem i_95_726 : Jvm.ClassFile.decode (pm_bytes 95) 726 = .ok (.aload_n 3, 1) := by decide +kernel
theorem i_95_727 : Jvm.ClassFile.decode (pm_bytes 95) 727 = .ok (.iconst 0, 1) := by decide +kernel
theorem i_95_728 : Jvm.ClassFile.decode (pm_bytes 95) 728 = .ok (.laload, 1) := by decide +kernel
theorem i_95_729 : Jvm.ClassFile.decode (pm_bytes 95) 729 = .ok (.iload 6, 2) := by decide +kernel
theorem i_95_731 : Jvm.ClassFile.decode (pm_bytes 95) 731 = .ok (.ifCond .eq (7), 3) := by decide +kernel
theorem i_95_734 : Jvm.ClassFile.decode (pm_bytes 95) 734 = .ok (.lconst 1, 1) := by decide +kernel
theorem i_95_735 : Jvm.ClassFile.decode (pm_bytes 95) 735 = .ok (.goto (4), 3) := by decide +kernel
theorem i_95_738 : Jvm.ClassFile.decode (pm_bytes 95) 738 = .ok (.lconst 0, 1) := by decide +kernel
theorem i_95_739 : Jvm.ClassFile.decode (pm_bytes 95) 739 = .ok (.lcmp, 1) := by decide +kernel
theorem i_95_740 : Jvm.ClassFile.decode (pm_bytes 95) 740 = .ok (.ifCond .eq (5), 3) := by decide +kernel
theorem i_95_743 : Jvm.ClassFile.decode (pm_bytes 95) 743 = .ok (.iconst 0, 1) := by decide +kernel
theorem i_95_744 : Jvm.ClassFile.decode (pm_bytes 95) 744 = .ok (.ireturn, 1) := by decide +kernel
theorem i_95_745 : Jvm.ClassFile.decode (pm_bytes 95) 745 = .ok (.goto (41), 3) := by decide +kernel
theorem i_95_748 : Jvm.ClassFile.decode (pm_bytes 95) 748 = .ok (.aload_n 1, 1) := by decide +kernel
theorem i_95_749 : Jvm.ClassFile.decode (pm_bytes 95) 749 = .ok (.invokevirtual 102, 3) := by decide +kernel
theorem i_95_752 : Jvm.ClassFile.decode (pm_bytes 95) 752 = .ok (.aload_n 2, 1) := by decide +kernel
theorem i_95_753 : Jvm.ClassFile.decode (pm_bytes 95) 753 = .ok (.invokevirtual 105, 3) := by decide +kernel
theorem i_95_756 : Jvm.ClassFile.decode (pm_bytes 95) 756 = .ok (.if_icmp .eq (30), 3) := by decide +kernel
theorem i_95_759 : Jvm.ClassFile.decode (pm_bytes 95) 759 = .ok (.iconst 0, 1) := by decide +kernel
theorem i_95_760 : Jvm.ClassFile.decode (pm_bytes 95) 760 = .ok (.ireturn, 1) := by decide +kernel
theorem i_95_761 : Jvm.ClassFile.decode (pm_bytes 95) 761 = .ok (.aload_n 1, 1) := by decide +kernel
theorem i_95_762 : Jvm.ClassFile.decode (pm_bytes 95) 762 = .ok (.aload_n 0, 1) := by decide +kernel
theorem i_95_763 : Jvm.ClassFile.decode (pm_bytes 95) 763 = .ok (.iload 4, 2) := by decide +kernel
theorem i_95_765 : Jvm.ClassFile.decode (pm_bytes 95) 765 = .ok (.iconst 1, 1) := by decide +kernel
theorem i_95_766 : Jvm.ClassFile.decode (pm_bytes 95) 766 = .ok (.iadd, 1) := by decide +kernel
theorem i_95_767 : Jvm.ClassFile.decode (pm_bytes 95) 767 = .ok (.iaload, 1) := by decide +kernel
theorem i_95_768 : Jvm.ClassFile.decode (pm_bytes 95) 768 = .ok (.invokevirtual 106, 3) := by decide +kernel
theorem i_95_771 : Jvm.ClassFile.decode (pm_bytes 95) 771 = .ok (.aload_n 2, 1) := by decide +kernel
theorem i_95_772 : Jvm.ClassFile.decode (pm_bytes 95) 772 = .ok (.aload_n 0, 1) := by decide +kernel
theorem i_95_773 : Jvm.ClassFile.decode (pm_bytes 95) 773 = .ok (.iload 4, 2) := by decide +kernel
theorem i_95_775 : Jvm.ClassFile.decode (pm_bytes 95) 775 = .ok (.iconst 1, 1) := by decide +kernel
theorem i_95_776 : Jvm.ClassFile.decode (pm_bytes 95) 776 = .ok (.iadd, 1) := by decide +kernel
theorem i_95_777 : Jvm.ClassFile.decode (pm_bytes 95) 777 = .ok (.iaload, 1) := by decide +kernel
theorem i_95_778 : Jvm.ClassFile.decode (pm_bytes 95) 778 = .ok (.invokevirtual 109, 3) := by decide +kernel
theorem i_95_781 : Jvm.ClassFile.decode (pm_bytes 95) 781 = .ok (.if_icmp .eq (5), 3) := by decide +kernel
theorem i_95_784 : Jvm.ClassFile.decode (pm_bytes 95) 784 = .ok (.iconst 0, 1) := by decide +kernel
theorem i_95_785 : Jvm.ClassFile.decode (pm_bytes 95) 785 = .ok (.ireturn, 1) := by decide +kernel
theorem i_95_786 : Jvm.ClassFile.decode (pm_bytes 95) 786 = .ok (.iinc 4 (4), 3) := by decide +kernel
theorem i_95_789 : Jvm.ClassFile.decode (pm_bytes 95) 789 = .ok (.goto (-766), 3) := by decide +kernel
theorem i_95_792 : Jvm.ClassFile.decode (pm_bytes 95) 792 = .ok (.iconst 1, 1) := by decide +kernel
theorem i_95_793 : Jvm.ClassFile.decode (pm_bytes 95) 793 = .ok (.ireturn, 1) := by decide +kernel
