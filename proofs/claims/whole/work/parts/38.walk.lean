theorem dX11_readTold_0 : decode cX11_readTold 0 = .ok (.iload_n 1, 1) := by decide +kernel
theorem dX11_readTold_1 : decode cX11_readTold 1 = .ok (.ifCond .eq 15, 3) := by decide +kernel
theorem dX11_readTold_4 : decode cX11_readTold 4 = .ok (.aload_n 0, 1) := by decide +kernel
theorem dX11_readTold_5 : decode cX11_readTold 5 = .ok (.getfield 20, 3) := by decide +kernel
theorem dX11_readTold_8 : decode cX11_readTold 8 = .ok (.aload_n 0, 1) := by decide +kernel
theorem dX11_readTold_9 : decode cX11_readTold 9 = .ok (.getfield 285, 3) := by decide +kernel
theorem dX11_readTold_12 : decode cX11_readTold 12 = .ok (.iaload, 1) := by decide +kernel
theorem dX11_readTold_13 : decode cX11_readTold 13 = .ok (.goto 12, 3) := by decide +kernel
theorem dX11_readTold_16 : decode cX11_readTold 16 = .ok (.aload_n 0, 1) := by decide +kernel
theorem dX11_readTold_17 : decode cX11_readTold 17 = .ok (.getfield 23, 3) := by decide +kernel
theorem dX11_readTold_20 : decode cX11_readTold 20 = .ok (.aload_n 0, 1) := by decide +kernel
theorem dX11_readTold_21 : decode cX11_readTold 21 = .ok (.getfield 285, 3) := by decide +kernel
theorem dX11_readTold_24 : decode cX11_readTold 24 = .ok (.iaload, 1) := by decide +kernel
theorem dX11_readTold_25 : decode cX11_readTold 25 = .ok (.istore_n 3, 1) := by decide +kernel
theorem dX11_readTold_26 : decode cX11_readTold 26 = .ok (.iload_n 3, 1) := by decide +kernel
theorem dX11_readTold_27 : decode cX11_readTold 27 = .ok (.iload_n 1, 1) := by decide +kernel
theorem dX11_readTold_28 : decode cX11_readTold 28 = .ok (.ifCond .eq 8, 3) := by decide +kernel
theorem dX11_readTold_31 : decode cX11_readTold 31 = .ok (.bipush 8, 2) := by decide +kernel
theorem dX11_readTold_33 : decode cX11_readTold 33 = .ok (.goto 4, 3) := by decide +kernel
theorem dX11_readTold_36 : decode cX11_readTold 36 = .ok (.iconst 5, 1) := by decide +kernel
theorem dX11_readTold_37 : decode cX11_readTold 37 = .ok (.if_icmp .ne 10, 3) := by decide +kernel
theorem dX11_readTold_40 : decode cX11_readTold 40 = .ok (.aload_n 0, 1) := by decide +kernel
theorem dX11_readTold_41 : decode cX11_readTold 41 = .ok (.bipush 6, 2) := by decide +kernel
theorem dX11_readTold_43 : decode cX11_readTold 43 = .ok (.invokevirtual 279, 3) := by decide +kernel
theorem dX11_readTold_46 : decode cX11_readTold 46 = .ok (.ireturn, 1) := by decide +kernel
theorem dX11_readTold_47 : decode cX11_readTold 47 = .ok (.aload_n 0, 1) := by decide +kernel
theorem dX11_readTold_48 : decode cX11_readTold 48 = .ok (.invokevirtual 282, 3) := by decide +kernel
theorem dX11_readTold_51 : decode cX11_readTold 51 = .ok (.aload_n 0, 1) := by decide +kernel
theorem dX11_readTold_52 : decode cX11_readTold 52 = .ok (.getfield 236, 3) := by decide +kernel
theorem dX11_readTold_55 : decode cX11_readTold 55 = .ok (.iconst 2, 1) := by decide +kernel
theorem dX11_readTold_56 : decode cX11_readTold 56 = .ok (.if_icmp .eq 9, 3) := by decide +kernel
theorem dX11_readTold_59 : decode cX11_readTold 59 = .ok (.aload_n 0, 1) := by decide +kernel
theorem dX11_readTold_60 : decode cX11_readTold 60 = .ok (.iconst 2, 1) := by decide +kernel
theorem dX11_readTold_61 : decode cX11_readTold 61 = .ok (.invokevirtual 279, 3) := by decide +kernel
theorem dX11_readTold_64 : decode cX11_readTold 64 = .ok (.ireturn, 1) := by decide +kernel
theorem dX11_readTold_65 : decode cX11_readTold 65 = .ok (.aload_n 0, 1) := by decide +kernel
theorem dX11_readTold_66 : decode cX11_readTold 66 = .ok (.aload_n 0, 1) := by decide +kernel
theorem dX11_readTold_67 : decode cX11_readTold 67 = .ok (.getfield 246, 3) := by decide +kernel
theorem dX11_readTold_70 : decode cX11_readTold 70 = .ok (.invokevirtual 329, 3) := by decide +kernel
theorem dX11_readTold_73 : decode cX11_readTold 73 = .ok (.iconst (-1), 1) := by decide +kernel
theorem dX11_readTold_74 : decode cX11_readTold 74 = .ok (.if_icmp .ne 15, 3) := by decide +kernel
theorem dX11_readTold_77 : decode cX11_readTold 77 = .ok (.aload_n 0, 1) := by decide +kernel
theorem dX11_readTold_78 : decode cX11_readTold 78 = .ok (.aload_n 0, 1) := by decide +kernel
theorem dX11_readTold_79 : decode cX11_readTold 79 = .ok (.getfield 246, 3) := by decide +kernel
theorem dX11_readTold_82 : decode cX11_readTold 82 = .ok (.invokevirtual 333, 3) := by decide +kernel
theorem dX11_readTold_85 : decode cX11_readTold 85 = .ok (.iconst (-1), 1) := by decide +kernel
theorem dX11_readTold_86 : decode cX11_readTold 86 = .ok (.if_icmp .eq 9, 3) := by decide +kernel
theorem dX11_readTold_89 : decode cX11_readTold 89 = .ok (.aload_n 0, 1) := by decide +kernel
theorem dX11_readTold_90 : decode cX11_readTold 90 = .ok (.iconst 4, 1) := by decide +kernel
theorem dX11_readTold_91 : decode cX11_readTold 91 = .ok (.invokevirtual 279, 3) := by decide +kernel
theorem dX11_readTold_94 : decode cX11_readTold 94 = .ok (.ireturn, 1) := by decide +kernel
theorem dX11_readTold_95 : decode cX11_readTold 95 = .ok (.aload_n 0, 1) := by decide +kernel
theorem dX11_readTold_96 : decode cX11_readTold 96 = .ok (.getfield 246, 3) := by decide +kernel
theorem dX11_readTold_99 : decode cX11_readTold 99 = .ok (.lstore 4, 2) := by decide +kernel
theorem dX11_readTold_101 : decode cX11_readTold 101 = .ok (.aload_n 0, 1) := by decide +kernel
theorem dX11_readTold_102 : decode cX11_readTold 102 = .ok (.invokevirtual 282, 3) := by decide +kernel
theorem dX11_readTold_105 : decode cX11_readTold 105 = .ok (.aload_n 0, 1) := by decide +kernel
theorem dX11_readTold_106 : decode cX11_readTold 106 = .ok (.getfield 236, 3) := by decide +kernel
theorem dX11_readTold_109 : decode cX11_readTold 109 = .ok (.iconst 4, 1) := by decide +kernel
theorem dX11_readTold_110 : decode cX11_readTold 110 = .ok (.if_icmp .eq 9, 3) := by decide +kernel
theorem dX11_readTold_113 : decode cX11_readTold 113 = .ok (.aload_n 0, 1) := by decide +kernel
theorem dX11_readTold_114 : decode cX11_readTold 114 = .ok (.iconst 2, 1) := by decide +kernel
theorem dX11_readTold_115 : decode cX11_readTold 115 = .ok (.invokevirtual 279, 3) := by decide +kernel
theorem dX11_readTold_118 : decode cX11_readTold 118 = .ok (.ireturn, 1) := by decide +kernel
theorem dX11_readTold_119 : decode cX11_readTold 119 = .ok (.aload_n 0, 1) := by decide +kernel
theorem dX11_readTold_120 : decode cX11_readTold 120 = .ok (.getfield 253, 3) := by decide +kernel
theorem dX11_readTold_123 : decode cX11_readTold 123 = .ok (.iload_n 1, 1) := by decide +kernel
theorem dX11_readTold_124 : decode cX11_readTold 124 = .ok (.ifCond .eq 7, 3) := by decide +kernel
theorem dX11_readTold_127 : decode cX11_readTold 127 = .ok (.iconst 0, 1) := by decide +kernel
theorem dX11_readTold_128 : decode cX11_readTold 128 = .ok (.goto 4, 3) := by decide +kernel
theorem dX11_readTold_131 : decode cX11_readTold 131 = .ok (.iconst 1, 1) := by decide +kernel
theorem dX11_readTold_132 : decode cX11_readTold 132 = .ok (.iconst 3, 1) := by decide +kernel
theorem dX11_readTold_133 : decode cX11_readTold 133 = .ok (.invokestatic 354, 3) := by decide +kernel
theorem dX11_readTold_136 : decode cX11_readTold 136 = .ok (.ifCond .ne 9, 3) := by decide +kernel
theorem dX11_readTold_139 : decode cX11_readTold 139 = .ok (.aload_n 0, 1) := by decide +kernel
theorem dX11_readTold_140 : decode cX11_readTold 140 = .ok (.iconst 5, 1) := by decide +kernel
theorem dX11_readTold_141 : decode cX11_readTold 141 = .ok (.invokevirtual 279, 3) := by decide +kernel
theorem dX11_readTold_144 : decode cX11_readTold 144 = .ok (.ireturn, 1) := by decide +kernel
theorem dX11_readTold_145 : decode cX11_readTold 145 = .ok (.iload_n 1, 1) := by decide +kernel
theorem dX11_readTold_146 : decode cX11_readTold 146 = .ok (.ifCond .eq 61, 3) := by decide +kernel
theorem dX11_readTold_149 : decode cX11_readTold 149 = .ok (.aload_n 0, 1) := by decide +kernel
theorem dX11_readTold_150 : decode cX11_readTold 150 = .ok (.getfield 29, 3) := by decide +kernel
theorem dX11_readTold_153 : decode cX11_readTold 153 = .ok (.bipush 8, 2) := by decide +kernel
theorem dX11_readTold_155 : decode cX11_readTold 155 = .ok (.aload_n 0, 1) := by decide +kernel
theorem dX11_readTold_156 : decode cX11_readTold 156 = .ok (.getfield 285, 3) := by decide +kernel
theorem dX11_readTold_159 : decode cX11_readTold 159 = .ok (.imul, 1) := by decide +kernel
theorem dX11_readTold_160 : decode cX11_readTold 160 = .ok (.iload_n 3, 1) := by decide +kernel
theorem dX11_readTold_161 : decode cX11_readTold 161 = .ok (.iadd, 1) := by decide +kernel
theorem dX11_readTold_162 : decode cX11_readTold 162 = .ok (.lload 4, 2) := by decide +kernel
theorem dX11_readTold_164 : decode cX11_readTold 164 = .ok (.lastore, 1) := by decide +kernel
theorem dX11_readTold_165 : decode cX11_readTold 165 = .ok (.aload_n 0, 1) := by decide +kernel
theorem dX11_readTold_166 : decode cX11_readTold 166 = .ok (.getfield 36, 3) := by decide +kernel
theorem dX11_readTold_169 : decode cX11_readTold 169 = .ok (.bipush 8, 2) := by decide +kernel
theorem dX11_readTold_171 : decode cX11_readTold 171 = .ok (.aload_n 0, 1) := by decide +kernel
theorem dX11_readTold_172 : decode cX11_readTold 172 = .ok (.getfield 285, 3) := by decide +kernel
theorem dX11_readTold_175 : decode cX11_readTold 175 = .ok (.imul, 1) := by decide +kernel
theorem dX11_readTold_176 : decode cX11_readTold 176 = .ok (.iload_n 3, 1) := by decide +kernel
theorem dX11_readTold_177 : decode cX11_readTold 177 = .ok (.iadd, 1) := by decide +kernel
theorem dX11_readTold_178 : decode cX11_readTold 178 = .ok (.aload_n 0, 1) := by decide +kernel
theorem dX11_readTold_179 : decode cX11_readTold 179 = .ok (.getfield 253, 3) := by decide +kernel
theorem dX11_readTold_182 : decode cX11_readTold 182 = .ok (.iastore, 1) := by decide +kernel
theorem dX11_readTold_183 : decode cX11_readTold 183 = .ok (.aload_n 0, 1) := by decide +kernel
theorem dX11_readTold_184 : decode cX11_readTold 184 = .ok (.getfield 20, 3) := by decide +kernel
theorem dX11_readTold_187 : decode cX11_readTold 187 = .ok (.aload_n 0, 1) := by decide +kernel
theorem dX11_readTold_188 : decode cX11_readTold 188 = .ok (.getfield 285, 3) := by decide +kernel
theorem dX11_readTold_191 : decode cX11_readTold 191 = .ok (.dup2, 1) := by decide +kernel
theorem dX11_readTold_192 : decode cX11_readTold 192 = .ok (.iaload, 1) := by decide +kernel
theorem dX11_readTold_193 : decode cX11_readTold 193 = .ok (.iconst 1, 1) := by decide +kernel
theorem dX11_readTold_194 : decode cX11_readTold 194 = .ok (.iadd, 1) := by decide +kernel
theorem dX11_readTold_195 : decode cX11_readTold 195 = .ok (.iastore, 1) := by decide +kernel
theorem dX11_readTold_196 : decode cX11_readTold 196 = .ok (.aload_n 0, 1) := by decide +kernel
theorem dX11_readTold_197 : decode cX11_readTold 197 = .ok (.invokevirtual 282, 3) := by decide +kernel
theorem dX11_readTold_200 : decode cX11_readTold 200 = .ok (.aload_n 0, 1) := by decide +kernel
theorem dX11_readTold_201 : decode cX11_readTold 201 = .ok (.bipush 59, 2) := by decide +kernel
theorem dX11_readTold_203 : decode cX11_readTold 203 = .ok (.invokevirtual 351, 3) := by decide +kernel
theorem dX11_readTold_206 : decode cX11_readTold 206 = .ok (.ireturn, 1) := by decide +kernel
theorem dX11_readTold_207 : decode cX11_readTold 207 = .ok (.aload_n 0, 1) := by decide +kernel
theorem dX11_readTold_208 : decode cX11_readTold 208 = .ok (.getfield 33, 3) := by decide +kernel
theorem dX11_readTold_211 : decode cX11_readTold 211 = .ok (.iconst 5, 1) := by decide +kernel
theorem dX11_readTold_212 : decode cX11_readTold 212 = .ok (.aload_n 0, 1) := by decide +kernel
theorem dX11_readTold_213 : decode cX11_readTold 213 = .ok (.getfield 285, 3) := by decide +kernel
theorem dX11_readTold_216 : decode cX11_readTold 216 = .ok (.imul, 1) := by decide +kernel
theorem dX11_readTold_217 : decode cX11_readTold 217 = .ok (.iload_n 3, 1) := by decide +kernel
theorem dX11_readTold_218 : decode cX11_readTold 218 = .ok (.iadd, 1) := by decide +kernel
theorem dX11_readTold_219 : decode cX11_readTold 219 = .ok (.lload 4, 2) := by decide +kernel
theorem dX11_readTold_221 : decode cX11_readTold 221 = .ok (.lastore, 1) := by decide +kernel
theorem dX11_readTold_222 : decode cX11_readTold 222 = .ok (.aload_n 0, 1) := by decide +kernel
theorem dX11_readTold_223 : decode cX11_readTold 223 = .ok (.getfield 39, 3) := by decide +kernel
theorem dX11_readTold_226 : decode cX11_readTold 226 = .ok (.iconst 5, 1) := by decide +kernel
theorem dX11_readTold_227 : decode cX11_readTold 227 = .ok (.aload_n 0, 1) := by decide +kernel
theorem dX11_readTold_228 : decode cX11_readTold 228 = .ok (.getfield 285, 3) := by decide +kernel
theorem dX11_readTold_231 : decode cX11_readTold 231 = .ok (.imul, 1) := by decide +kernel
theorem dX11_readTold_232 : decode cX11_readTold 232 = .ok (.iload_n 3, 1) := by decide +kernel
theorem dX11_readTold_233 : decode cX11_readTold 233 = .ok (.iadd, 1) := by decide +kernel
theorem dX11_readTold_234 : decode cX11_readTold 234 = .ok (.aload_n 0, 1) := by decide +kernel
theorem dX11_readTold_235 : decode cX11_readTold 235 = .ok (.getfield 253, 3) := by decide +kernel
theorem dX11_readTold_238 : decode cX11_readTold 238 = .ok (.iastore, 1) := by decide +kernel
theorem dX11_readTold_239 : decode cX11_readTold 239 = .ok (.aload_n 0, 1) := by decide +kernel
theorem dX11_readTold_240 : decode cX11_readTold 240 = .ok (.getfield 42, 3) := by decide +kernel
theorem dX11_readTold_243 : decode cX11_readTold 243 = .ok (.iconst 5, 1) := by decide +kernel
theorem dX11_readTold_244 : decode cX11_readTold 244 = .ok (.aload_n 0, 1) := by decide +kernel
theorem dX11_readTold_245 : decode cX11_readTold 245 = .ok (.getfield 285, 3) := by decide +kernel
theorem dX11_readTold_248 : decode cX11_readTold 248 = .ok (.imul, 1) := by decide +kernel
theorem dX11_readTold_249 : decode cX11_readTold 249 = .ok (.iload_n 3, 1) := by decide +kernel
theorem dX11_readTold_250 : decode cX11_readTold 250 = .ok (.iadd, 1) := by decide +kernel
theorem dX11_readTold_251 : decode cX11_readTold 251 = .ok (.iload_n 2, 1) := by decide +kernel
theorem dX11_readTold_252 : decode cX11_readTold 252 = .ok (.bastore, 1) := by decide +kernel
theorem dX11_readTold_253 : decode cX11_readTold 253 = .ok (.aload_n 0, 1) := by decide +kernel
theorem dX11_readTold_254 : decode cX11_readTold 254 = .ok (.invokevirtual 282, 3) := by decide +kernel
theorem dX11_readTold_257 : decode cX11_readTold 257 = .ok (.aload_n 0, 1) := by decide +kernel
theorem dX11_readTold_258 : decode cX11_readTold 258 = .ok (.getfield 46, 3) := by decide +kernel
theorem dX11_readTold_261 : decode cX11_readTold 261 = .ok (.iconst 5, 1) := by decide +kernel
theorem dX11_readTold_262 : decode cX11_readTold 262 = .ok (.aload_n 0, 1) := by decide +kernel
theorem dX11_readTold_263 : decode cX11_readTold 263 = .ok (.getfield 285, 3) := by decide +kernel
theorem dX11_readTold_266 : decode cX11_readTold 266 = .ok (.imul, 1) := by decide +kernel
theorem dX11_readTold_267 : decode cX11_readTold 267 = .ok (.iload_n 3, 1) := by decide +kernel
theorem dX11_readTold_268 : decode cX11_readTold 268 = .ok (.iadd, 1) := by decide +kernel
theorem dX11_readTold_269 : decode cX11_readTold 269 = .ok (.aload_n 0, 1) := by decide +kernel
theorem dX11_readTold_270 : decode cX11_readTold 270 = .ok (.iconst 3, 1) := by decide +kernel
theorem dX11_readTold_271 : decode cX11_readTold 271 = .ok (.invokevirtual 267, 3) := by decide +kernel
theorem dX11_readTold_274 : decode cX11_readTold 274 = .ok (.bastore, 1) := by decide +kernel
theorem dX11_readTold_275 : decode cX11_readTold 275 = .ok (.aload_n 0, 1) := by decide +kernel
theorem dX11_readTold_276 : decode cX11_readTold 276 = .ok (.iconst 3, 1) := by decide +kernel
theorem dX11_readTold_277 : decode cX11_readTold 277 = .ok (.invokevirtual 267, 3) := by decide +kernel
theorem dX11_readTold_280 : decode cX11_readTold 280 = .ok (.ifCond .eq 7, 3) := by decide +kernel
theorem dX11_readTold_283 : decode cX11_readTold 283 = .ok (.aload_n 0, 1) := by decide +kernel
theorem dX11_readTold_284 : decode cX11_readTold 284 = .ok (.invokevirtual 282, 3) := by decide +kernel
theorem dX11_readTold_287 : decode cX11_readTold 287 = .ok (.aload_n 0, 1) := by decide +kernel
theorem dX11_readTold_288 : decode cX11_readTold 288 = .ok (.getfield 23, 3) := by decide +kernel
theorem dX11_readTold_291 : decode cX11_readTold 291 = .ok (.aload_n 0, 1) := by decide +kernel
theorem dX11_readTold_292 : decode cX11_readTold 292 = .ok (.getfield 285, 3) := by decide +kernel
theorem dX11_readTold_295 : decode cX11_readTold 295 = .ok (.dup2, 1) := by decide +kernel
theorem dX11_readTold_296 : decode cX11_readTold 296 = .ok (.iaload, 1) := by decide +kernel
theorem dX11_readTold_297 : decode cX11_readTold 297 = .ok (.iconst 1, 1) := by decide +kernel
theorem dX11_readTold_298 : decode cX11_readTold 298 = .ok (.iadd, 1) := by decide +kernel
theorem dX11_readTold_299 : decode cX11_readTold 299 = .ok (.iastore, 1) := by decide +kernel
theorem dX11_readTold_300 : decode cX11_readTold 300 = .ok (.aload_n 0, 1) := by decide +kernel
theorem dX11_readTold_301 : decode cX11_readTold 301 = .ok (.bipush 59, 2) := by decide +kernel
theorem dX11_readTold_303 : decode cX11_readTold 303 = .ok (.invokevirtual 351, 3) := by decide +kernel
theorem dX11_readTold_306 : decode cX11_readTold 306 = .ok (.ireturn, 1) := by decide +kernel
set_option maxRecDepth 10000 in
set_option maxHeartbeats 4000000 in
theorem A_X11_readTold_287 {Z : az_Z} {d : Nat} (C : az_C Z yX11_readTold cX11_readTold 6 (some .boolean) d) (hD : 4 ≤ d) (n : Nat) {σ : az_Hp} {v0 : Int} {r : (Int × az_Hp)} (h : fz_X11_readTold_287 n σ v0 = some r) : az_AW Z 6 287 [(13, v0), (31, 0), (31, 0), (31, 0), (31, 0), (31, 0)] [] σ (some (0, r.1), r.2) := by
  have hd1 : 1 ≤ d := by omega
  unfold fz_X11_readTold_287 at h
  refine az_al0 (pc := 287) C rfl rfl dX11_readTold_287 ?_
  refine az_getR (pc := 288) (c2 := 13) C h fl_X11_23 rfl rfl dX11_readTold_288 (fun h => ?_)
  refine az_al0 (pc := 291) C rfl rfl dX11_readTold_291 ?_
  refine az_getI (pc := 292) C fl_X11_285 rfl dX11_readTold_292 ?_
  refine az_dup2 (pc := 295) C rfl rfl rfl rfl dX11_readTold_295 ?_
  refine az_iaload (pc := 296) C h dX11_readTold_296 (fun h => ?_)
  refine az_ik1 (pc := 297) C dX11_readTold_297 ?_
  refine az_iadd (pc := 298) C dX11_readTold_298 ?_
  refine az_iastore (pc := 299) C h dX11_readTold_299 (fun h => ?_)
  refine az_al0 (pc := 300) C rfl rfl dX11_readTold_300 ?_
  refine az_bk59 (pc := 301) C dX11_readTold_301 ?_
  refine az_cV1ii (pc := 303) (c := 11) C hd1 h mv_X11_eats ml_X11_351 rfl (fun x hx => A_X11_eats (by omega) n hx) dX11_readTold_303 (fun r4 h => ?_)
  obtain ⟨hz, h⟩ := az_zif h
  obtain rfl := Option.some.inj h
  exact az_zreturn (pc := 306) C hz dX11_readTold_306 rfl
set_option maxRecDepth 10000 in
set_option maxHeartbeats 4000000 in
theorem A_X11_readTold_132 {Z : az_Z} {d : Nat} (C : az_C Z yX11_readTold cX11_readTold 6 (some .boolean) d) (hD : 4 ≤ d) (n : Nat) {σ : az_Hp} {v0 v1 v2 v3 v4 w0 w1 : Int} {r : (Int × az_Hp)} (h : fz_X11_readTold_132 n σ v0 v1 v2 v3 v4 w0 w1 = some r) : az_AW Z 6 132 [(13, v0), (0, v1), (0, v2), (0, v3), (1, v4), (31, 0)] [(0, w1), (0, w0)] σ (some (0, r.1), r.2) := by
  have hd1 : 1 ≤ d := by omega
  unfold fz_X11_readTold_132 at h
  refine az_ik3 (pc := 132) C dX11_readTold_132 ?_
  refine az_cS3pi (pc := 133) C hd1 h ms_X11_isFrom ml_X11_354 rfl (fun x hx => A_X11_isFrom (by omega) hx) dX11_readTold_133 (fun r1 h => ?_)
  refine az_if_ne (pc := 136) (tgt := 145) C h dX11_readTold_136 (by decide) (fun _ h => ?_) (fun _ h => ?_)
  · refine az_il1 (pc := 145) C dX11_readTold_145 ?_
    refine az_if_eq (pc := 146) (tgt := 207) C h dX11_readTold_146 (by decide) (fun _ h => ?_) (fun _ h => ?_)
    · refine az_al0 (pc := 207) C rfl rfl dX11_readTold_207 ?_
      refine az_getR (pc := 208) (c2 := 14) C h fl_X11_33 rfl rfl dX11_readTold_208 (fun h => ?_)
      refine az_ik5 (pc := 211) C dX11_readTold_211 ?_
      refine az_al0 (pc := 212) C rfl rfl dX11_readTold_212 ?_
      refine az_getI (pc := 213) C fl_X11_285 rfl dX11_readTold_213 ?_
      refine az_imul (pc := 216) C dX11_readTold_216 ?_
      refine az_il3 (pc := 217) C dX11_readTold_217 ?_
      refine az_iadd (pc := 218) C dX11_readTold_218 ?_
      refine az_ll4 (pc := 219) C dX11_readTold_219 ?_
      refine az_lastore (pc := 221) C h dX11_readTold_221 (fun h => ?_)
      refine az_al0 (pc := 222) C rfl rfl dX11_readTold_222 ?_
      refine az_getR (pc := 223) (c2 := 13) C h fl_X11_39 rfl rfl dX11_readTold_223 (fun h => ?_)
      refine az_ik5 (pc := 226) C dX11_readTold_226 ?_
      refine az_al0 (pc := 227) C rfl rfl dX11_readTold_227 ?_
      refine az_getI (pc := 228) C fl_X11_285 rfl dX11_readTold_228 ?_
      refine az_imul (pc := 231) C dX11_readTold_231 ?_
      refine az_il3 (pc := 232) C dX11_readTold_232 ?_
      refine az_iadd (pc := 233) C dX11_readTold_233 ?_
      refine az_al0 (pc := 234) C rfl rfl dX11_readTold_234 ?_
      refine az_getI (pc := 235) C fl_X11_253 rfl dX11_readTold_235 ?_
      refine az_iastore (pc := 238) C h dX11_readTold_238 (fun h => ?_)
      refine az_al0 (pc := 239) C rfl rfl dX11_readTold_239 ?_
      refine az_getR (pc := 240) (c2 := 15) C h fl_X11_42 rfl rfl dX11_readTold_240 (fun h => ?_)
      refine az_ik5 (pc := 243) C dX11_readTold_243 ?_
      refine az_al0 (pc := 244) C rfl rfl dX11_readTold_244 ?_
      refine az_getI (pc := 245) C fl_X11_285 rfl dX11_readTold_245 ?_
      refine az_imul (pc := 248) C dX11_readTold_248 ?_
      refine az_il3 (pc := 249) C dX11_readTold_249 ?_
      refine az_iadd (pc := 250) C dX11_readTold_250 ?_
      refine az_il2 (pc := 251) C dX11_readTold_251 ?_
      refine az_zastore (pc := 252) C h dX11_readTold_252 (fun h => ?_)
      refine az_al0 (pc := 253) C rfl rfl dX11_readTold_253 ?_
      refine az_cV0v (pc := 254) (c := 11) C hd1 h mv_X11_go ml_X11_282 rfl (fun x hx => A_X11_go (by omega) n hx) dX11_readTold_254 (fun r8 h => ?_)
      refine az_al0 (pc := 257) C rfl rfl dX11_readTold_257 ?_
      refine az_getR (pc := 258) (c2 := 15) C h fl_X11_46 rfl rfl dX11_readTold_258 (fun h => ?_)
      refine az_ik5 (pc := 261) C dX11_readTold_261 ?_
      refine az_al0 (pc := 262) C rfl rfl dX11_readTold_262 ?_
      refine az_getI (pc := 263) C fl_X11_285 rfl dX11_readTold_263 ?_
      refine az_imul (pc := 266) C dX11_readTold_266 ?_
      refine az_il3 (pc := 267) C dX11_readTold_267 ?_
      refine az_iadd (pc := 268) C dX11_readTold_268 ?_
      refine az_al0 (pc := 269) C rfl rfl dX11_readTold_269 ?_
      refine az_ik3 (pc := 270) C dX11_readTold_270 ?_
      refine az_cV1pi (pc := 271) (c := 11) C hd1 h mv_X11_isWord ml_X11_267 rfl (fun x hx => A_X11_isWord (by omega) hx) dX11_readTold_271 (fun r10 h => ?_)
      refine az_zastore (pc := 274) C h dX11_readTold_274 (fun h => ?_)
      refine az_al0 (pc := 275) C rfl rfl dX11_readTold_275 ?_
      refine az_ik3 (pc := 276) C dX11_readTold_276 ?_
      refine az_cV1pi (pc := 277) (c := 11) C hd1 h mv_X11_isWord ml_X11_267 rfl (fun x hx => A_X11_isWord (by omega) hx) dX11_readTold_277 (fun r12 h => ?_)
      refine az_if_eq (pc := 280) (tgt := 287) C h dX11_readTold_280 (by decide) (fun _ h => ?_) (fun _ h => ?_)
      · exact (az_wkk (A_X11_readTold_287 C hD n h) (az_sE (az_sJ (az_sJ (az_sJ (az_sJ (az_sJ az_sN)))))))
      refine az_al0 (pc := 283) C rfl rfl dX11_readTold_283 ?_
      refine az_cV0v (pc := 284) (c := 11) C hd1 h mv_X11_go ml_X11_282 rfl (fun x hx => A_X11_go (by omega) n hx) dX11_readTold_284 (fun r13 h => ?_)
      exact (az_wkk (A_X11_readTold_287 C hD n h) (az_sE (az_sJ (az_sJ (az_sJ (az_sJ (az_sJ az_sN)))))))
    refine az_al0 (pc := 149) C rfl rfl dX11_readTold_149 ?_
    refine az_getR (pc := 150) (c2 := 14) C h fl_X11_29 rfl rfl dX11_readTold_150 (fun h => ?_)
    refine az_bk8 (pc := 153) C dX11_readTold_153 ?_
    refine az_al0 (pc := 155) C rfl rfl dX11_readTold_155 ?_
    refine az_getI (pc := 156) C fl_X11_285 rfl dX11_readTold_156 ?_
    refine az_imul (pc := 159) C dX11_readTold_159 ?_
    refine az_il3 (pc := 160) C dX11_readTold_160 ?_
    refine az_iadd (pc := 161) C dX11_readTold_161 ?_
    refine az_ll4 (pc := 162) C dX11_readTold_162 ?_
    refine az_lastore (pc := 164) C h dX11_readTold_164 (fun h => ?_)
    refine az_al0 (pc := 165) C rfl rfl dX11_readTold_165 ?_
    refine az_getR (pc := 166) (c2 := 13) C h fl_X11_36 rfl rfl dX11_readTold_166 (fun h => ?_)
    refine az_bk8 (pc := 169) C dX11_readTold_169 ?_
    refine az_al0 (pc := 171) C rfl rfl dX11_readTold_171 ?_
    refine az_getI (pc := 172) C fl_X11_285 rfl dX11_readTold_172 ?_
    refine az_imul (pc := 175) C dX11_readTold_175 ?_
    refine az_il3 (pc := 176) C dX11_readTold_176 ?_
    refine az_iadd (pc := 177) C dX11_readTold_177 ?_
    refine az_al0 (pc := 178) C rfl rfl dX11_readTold_178 ?_
    refine az_getI (pc := 179) C fl_X11_253 rfl dX11_readTold_179 ?_
    refine az_iastore (pc := 182) C h dX11_readTold_182 (fun h => ?_)
    refine az_al0 (pc := 183) C rfl rfl dX11_readTold_183 ?_
    refine az_getR (pc := 184) (c2 := 13) C h fl_X11_20 rfl rfl dX11_readTold_184 (fun h => ?_)
    refine az_al0 (pc := 187) C rfl rfl dX11_readTold_187 ?_
    refine az_getI (pc := 188) C fl_X11_285 rfl dX11_readTold_188 ?_
    refine az_dup2 (pc := 191) C rfl rfl rfl rfl dX11_readTold_191 ?_
    refine az_iaload (pc := 192) C h dX11_readTold_192 (fun h => ?_)
    refine az_ik1 (pc := 193) C dX11_readTold_193 ?_
    refine az_iadd (pc := 194) C dX11_readTold_194 ?_
    refine az_iastore (pc := 195) C h dX11_readTold_195 (fun h => ?_)
    refine az_al0 (pc := 196) C rfl rfl dX11_readTold_196 ?_
    refine az_cV0v (pc := 197) (c := 11) C hd1 h mv_X11_go ml_X11_282 rfl (fun x hx => A_X11_go (by omega) n hx) dX11_readTold_197 (fun r21 h => ?_)
    refine az_al0 (pc := 200) C rfl rfl dX11_readTold_200 ?_
    refine az_bk59 (pc := 201) C dX11_readTold_201 ?_
    refine az_cV1ii (pc := 203) (c := 11) C hd1 h mv_X11_eats ml_X11_351 rfl (fun x hx => A_X11_eats (by omega) n hx) dX11_readTold_203 (fun r22 h => ?_)
    obtain ⟨hz, h⟩ := az_zif h
    obtain rfl := Option.some.inj h
    exact az_zreturn (pc := 206) C hz dX11_readTold_206 rfl
  refine az_al0 (pc := 139) C rfl rfl dX11_readTold_139 ?_
  refine az_ik5 (pc := 140) C dX11_readTold_140 ?_
  refine az_cV1ii (pc := 141) (c := 11) C hd1 h mv_X11_bad ml_X11_279 rfl (fun x hx => A_X11_bad (by omega) hx) dX11_readTold_141 (fun r23 h => ?_)
  obtain ⟨hz, h⟩ := az_zif h
  obtain rfl := Option.some.inj h
  exact az_zreturn (pc := 144) C hz dX11_readTold_144 rfl
set_option maxRecDepth 10000 in
set_option maxHeartbeats 4000000 in
theorem A_X11_readTold_37 {Z : az_Z} {d : Nat} (C : az_C Z yX11_readTold cX11_readTold 6 (some .boolean) d) (hD : 4 ≤ d) (n : Nat) {σ : az_Hp} {v0 v1 v2 v3 w0 w1 : Int} {r : (Int × az_Hp)} (h : fz_X11_readTold_37 n σ v0 v1 v2 v3 w0 w1 = some r) : az_AW Z 6 37 [(13, v0), (0, v1), (0, v2), (0, v3), (31, 0), (31, 0)] [(0, w1), (0, w0)] σ (some (0, r.1), r.2) := by
  have hd1 : 1 ≤ d := by omega
  unfold fz_X11_readTold_37 at h
  refine az_icmp_ne (pc := 37) (tgt := 47) C h dX11_readTold_37 (by decide) (fun _ h => ?_) (fun _ h => ?_)
  · refine az_al0 (pc := 47) C rfl rfl dX11_readTold_47 ?_
    refine az_cV0v (pc := 48) (c := 11) C hd1 h mv_X11_go ml_X11_282 rfl (fun x hx => A_X11_go (by omega) n hx) dX11_readTold_48 (fun r1 h => ?_)
    refine az_al0 (pc := 51) C rfl rfl dX11_readTold_51 ?_
    refine az_getI (pc := 52) C fl_X11_236 rfl dX11_readTold_52 ?_
    refine az_ik2 (pc := 55) C dX11_readTold_55 ?_
    refine az_icmp_eq (pc := 56) (tgt := 65) C h dX11_readTold_56 (by decide) (fun _ h => ?_) (fun _ h => ?_)
    · refine az_al0 (pc := 65) C rfl rfl dX11_readTold_65 ?_
      refine az_al0 (pc := 66) C rfl rfl dX11_readTold_66 ?_
      refine az_getJ (pc := 67) C fl_X11_246 rfl dX11_readTold_67 ?_
      refine az_cV1pi (pc := 70) (c := 11) C hd1 h mv_X11_famOf ml_X11_329 rfl (fun x hx => A_X11_famOf (by omega) n hx) dX11_readTold_70 (fun r2 h => ?_)
      refine az_ikm1 (pc := 73) C dX11_readTold_73 ?_
      refine az_icmp_ne (pc := 74) (tgt := 89) C h dX11_readTold_74 (by decide) (fun _ h => ?_) (fun _ h => ?_)
      · refine az_al0 (pc := 89) C rfl rfl dX11_readTold_89 ?_
        refine az_ik4 (pc := 90) C dX11_readTold_90 ?_
        refine az_cV1ii (pc := 91) (c := 11) C hd1 h mv_X11_bad ml_X11_279 rfl (fun x hx => A_X11_bad (by omega) hx) dX11_readTold_91 (fun r3 h => ?_)
        obtain ⟨hz, h⟩ := az_zif h
        obtain rfl := Option.some.inj h
        exact az_zreturn (pc := 94) C hz dX11_readTold_94 rfl
      refine az_al0 (pc := 77) C rfl rfl dX11_readTold_77 ?_
      refine az_al0 (pc := 78) C rfl rfl dX11_readTold_78 ?_
      refine az_getJ (pc := 79) C fl_X11_246 rfl dX11_readTold_79 ?_
      refine az_cV1pi (pc := 82) (c := 11) C hd1 h mv_X11_conOf ml_X11_333 rfl (fun x hx => A_X11_conOf (by omega) n hx) dX11_readTold_82 (fun r4 h => ?_)
      refine az_ikm1 (pc := 85) C dX11_readTold_85 ?_
      refine az_icmp_eq (pc := 86) (tgt := 95) C h dX11_readTold_86 (by decide) (fun _ h => ?_) (fun _ h => ?_)
      · refine az_al0 (pc := 95) C rfl rfl dX11_readTold_95 ?_
        refine az_getJ (pc := 96) C fl_X11_246 rfl dX11_readTold_96 ?_
        refine az_ls4 (pc := 99) C rfl rfl dX11_readTold_99 ?_
        refine az_al0 (pc := 101) C rfl rfl dX11_readTold_101 ?_
        refine az_cV0v (pc := 102) (c := 11) C hd1 h mv_X11_go ml_X11_282 rfl (fun x hx => A_X11_go (by omega) n hx) dX11_readTold_102 (fun r5 h => ?_)
        refine az_al0 (pc := 105) C rfl rfl dX11_readTold_105 ?_
        refine az_getI (pc := 106) C fl_X11_236 rfl dX11_readTold_106 ?_
        refine az_ik4 (pc := 109) C dX11_readTold_109 ?_
        refine az_icmp_eq (pc := 110) (tgt := 119) C h dX11_readTold_110 (by decide) (fun _ h => ?_) (fun _ h => ?_)
        · refine az_al0 (pc := 119) C rfl rfl dX11_readTold_119 ?_
          refine az_getI (pc := 120) C fl_X11_253 rfl dX11_readTold_120 ?_
          refine az_il1 (pc := 123) C dX11_readTold_123 ?_
          refine az_if_eq (pc := 124) (tgt := 131) C h dX11_readTold_124 (by decide) (fun _ h => ?_) (fun _ h => ?_)
          · refine az_ik1 (pc := 131) C dX11_readTold_131 ?_
            exact (A_X11_readTold_132 C hD n h)
          refine az_ik0 (pc := 127) C dX11_readTold_127 ?_
          refine az_goto (pc := 128) (tgt := 132) C dX11_readTold_128 (by decide) ?_
          exact (A_X11_readTold_132 C hD n h)
        refine az_al0 (pc := 113) C rfl rfl dX11_readTold_113 ?_
        refine az_ik2 (pc := 114) C dX11_readTold_114 ?_
        refine az_cV1ii (pc := 115) (c := 11) C hd1 h mv_X11_bad ml_X11_279 rfl (fun x hx => A_X11_bad (by omega) hx) dX11_readTold_115 (fun r6 h => ?_)
        obtain ⟨hz, h⟩ := az_zif h
        obtain rfl := Option.some.inj h
        exact az_zreturn (pc := 118) C hz dX11_readTold_118 rfl
      refine az_al0 (pc := 89) C rfl rfl dX11_readTold_89 ?_
      refine az_ik4 (pc := 90) C dX11_readTold_90 ?_
      refine az_cV1ii (pc := 91) (c := 11) C hd1 h mv_X11_bad ml_X11_279 rfl (fun x hx => A_X11_bad (by omega) hx) dX11_readTold_91 (fun r7 h => ?_)
      obtain ⟨hz, h⟩ := az_zif h
      obtain rfl := Option.some.inj h
      exact az_zreturn (pc := 94) C hz dX11_readTold_94 rfl
    refine az_al0 (pc := 59) C rfl rfl dX11_readTold_59 ?_
    refine az_ik2 (pc := 60) C dX11_readTold_60 ?_
    refine az_cV1ii (pc := 61) (c := 11) C hd1 h mv_X11_bad ml_X11_279 rfl (fun x hx => A_X11_bad (by omega) hx) dX11_readTold_61 (fun r8 h => ?_)
    obtain ⟨hz, h⟩ := az_zif h
    obtain rfl := Option.some.inj h
    exact az_zreturn (pc := 64) C hz dX11_readTold_64 rfl
  refine az_al0 (pc := 40) C rfl rfl dX11_readTold_40 ?_
  refine az_bk6 (pc := 41) C dX11_readTold_41 ?_
  refine az_cV1ii (pc := 43) (c := 11) C hd1 h mv_X11_bad ml_X11_279 rfl (fun x hx => A_X11_bad (by omega) hx) dX11_readTold_43 (fun r9 h => ?_)
  obtain ⟨hz, h⟩ := az_zif h
  obtain rfl := Option.some.inj h
  exact az_zreturn (pc := 46) C hz dX11_readTold_46 rfl
set_option maxRecDepth 10000 in
set_option maxHeartbeats 4000000 in
theorem A_X11_readTold_25 {Z : az_Z} {d : Nat} (C : az_C Z yX11_readTold cX11_readTold 6 (some .boolean) d) (hD : 4 ≤ d) (n : Nat) {σ : az_Hp} {v0 v1 v2 w0 : Int} {r : (Int × az_Hp)} (h : fz_X11_readTold_25 n σ v0 v1 v2 w0 = some r) : az_AW Z 6 25 [(13, v0), (0, v1), (0, v2), (31, 0), (31, 0), (31, 0)] [(0, w0)] σ (some (0, r.1), r.2) := by
  have hd1 : 1 ≤ d := by omega
  unfold fz_X11_readTold_25 at h
  refine az_is3 (pc := 25) C rfl rfl dX11_readTold_25 ?_
  refine az_il3 (pc := 26) C dX11_readTold_26 ?_
  refine az_il1 (pc := 27) C dX11_readTold_27 ?_
  refine az_if_eq (pc := 28) (tgt := 36) C h dX11_readTold_28 (by decide) (fun _ h => ?_) (fun _ h => ?_)
  · refine az_ik5 (pc := 36) C dX11_readTold_36 ?_
    exact (A_X11_readTold_37 C hD n h)
  refine az_bk8 (pc := 31) C dX11_readTold_31 ?_
  refine az_goto (pc := 33) (tgt := 37) C dX11_readTold_33 (by decide) ?_
  exact (A_X11_readTold_37 C hD n h)
set_option maxRecDepth 10000 in
set_option maxHeartbeats 4000000 in
theorem A_X11_readTold_e {Z : az_Z} {d : Nat} (C : az_C Z yX11_readTold cX11_readTold 6 (some .boolean) d) (hD : 4 ≤ d) (n : Nat) {σ : az_Hp} {v0 v1 v2 : Int} {r : (Int × az_Hp)} (h : fz_X11_readTold n σ v0 v1 v2 = some r) : az_AW Z 6 0 [(13, v0), (0, v1), (0, v2), (31, 0), (31, 0), (31, 0)] [] σ (some (0, r.1), r.2) := by
  have hd1 : 1 ≤ d := by omega
  unfold fz_X11_readTold at h
  refine az_il1 (pc := 0) C dX11_readTold_0 ?_
  refine az_if_eq (pc := 1) (tgt := 16) C h dX11_readTold_1 (by decide) (fun _ h => ?_) (fun _ h => ?_)
  · refine az_al0 (pc := 16) C rfl rfl dX11_readTold_16 ?_
    refine az_getR (pc := 17) (c2 := 13) C h fl_X11_23 rfl rfl dX11_readTold_17 (fun h => ?_)
    refine az_al0 (pc := 20) C rfl rfl dX11_readTold_20 ?_
    refine az_getI (pc := 21) C fl_X11_285 rfl dX11_readTold_21 ?_
    refine az_iaload (pc := 24) C h dX11_readTold_24 (fun h => ?_)
    exact (A_X11_readTold_25 C hD n h)
  refine az_al0 (pc := 4) C rfl rfl dX11_readTold_4 ?_
  refine az_getR (pc := 5) (c2 := 13) C h fl_X11_20 rfl rfl dX11_readTold_5 (fun h => ?_)
  refine az_al0 (pc := 8) C rfl rfl dX11_readTold_8 ?_
  refine az_getI (pc := 9) C fl_X11_285 rfl dX11_readTold_9 ?_
  refine az_iaload (pc := 12) C h dX11_readTold_12 (fun h => ?_)
  refine az_goto (pc := 13) (tgt := 25) C dX11_readTold_13 (by decide) ?_
  exact (A_X11_readTold_25 C hD n h)
set_option maxRecDepth 10000 in
set_option maxHeartbeats 4000000 in
theorem A_X11_readTold {l : Launch} {d : Nat} (hD : 4 ≤ d) (n : Nat) {σ : az_Hp} {v0 v1 v2 : Int} {r : (Int × az_Hp)} (h : fz_X11_readTold n σ v0 v1 v2 = some r) : az_AC l yX11_readTold cX11_readTold 6 (some .boolean) d [(13, v0), (0, v1), (0, v2)] σ (some (0, r.1), r.2) := az_AC.of mt_X11_readTold rfl rfl rfl (fun Z hZ C => A_X11_readTold_e C hD n h)
theorem dX11_readLine_0 : decode cX11_readLine 0 = .ok (.aload_n 0, 1) := by decide +kernel
theorem dX11_readLine_1 : decode cX11_readLine 1 = .ok (.iconst 0, 1) := by decide +kernel
theorem dX11_readLine_2 : decode cX11_readLine 2 = .ok (.invokevirtual 267, 3) := by decide +kernel
theorem dX11_readLine_5 : decode cX11_readLine 5 = .ok (.ifCond .eq 10, 3) := by decide +kernel
theorem dX11_readLine_8 : decode cX11_readLine 8 = .ok (.aload_n 0, 1) := by decide +kernel
theorem dX11_readLine_9 : decode cX11_readLine 9 = .ok (.iconst 1, 1) := by decide +kernel
theorem dX11_readLine_10 : decode cX11_readLine 10 = .ok (.iconst 0, 1) := by decide +kernel
theorem dX11_readLine_11 : decode cX11_readLine 11 = .ok (.invokevirtual 365, 3) := by decide +kernel
theorem dX11_readLine_14 : decode cX11_readLine 14 = .ok (.ireturn, 1) := by decide +kernel
theorem dX11_readLine_15 : decode cX11_readLine 15 = .ok (.aload_n 0, 1) := by decide +kernel
theorem dX11_readLine_16 : decode cX11_readLine 16 = .ok (.iconst 1, 1) := by decide +kernel
theorem dX11_readLine_17 : decode cX11_readLine 17 = .ok (.invokevirtual 267, 3) := by decide +kernel
theorem dX11_readLine_20 : decode cX11_readLine 20 = .ok (.ifCond .ne 11, 3) := by decide +kernel
theorem dX11_readLine_23 : decode cX11_readLine 23 = .ok (.aload_n 0, 1) := by decide +kernel
theorem dX11_readLine_24 : decode cX11_readLine 24 = .ok (.iconst 2, 1) := by decide +kernel
theorem dX11_readLine_25 : decode cX11_readLine 25 = .ok (.invokevirtual 267, 3) := by decide +kernel
theorem dX11_readLine_28 : decode cX11_readLine 28 = .ok (.ifCond .eq 14, 3) := by decide +kernel
theorem dX11_readLine_31 : decode cX11_readLine 31 = .ok (.aload_n 0, 1) := by decide +kernel
theorem dX11_readLine_32 : decode cX11_readLine 32 = .ok (.iconst 0, 1) := by decide +kernel
theorem dX11_readLine_33 : decode cX11_readLine 33 = .ok (.aload_n 0, 1) := by decide +kernel
theorem dX11_readLine_34 : decode cX11_readLine 34 = .ok (.iconst 2, 1) := by decide +kernel
theorem dX11_readLine_35 : decode cX11_readLine 35 = .ok (.invokevirtual 267, 3) := by decide +kernel
theorem dX11_readLine_38 : decode cX11_readLine 38 = .ok (.invokevirtual 365, 3) := by decide +kernel
theorem dX11_readLine_41 : decode cX11_readLine 41 = .ok (.ireturn, 1) := by decide +kernel
theorem dX11_readLine_42 : decode cX11_readLine 42 = .ok (.aload_n 0, 1) := by decide +kernel
theorem dX11_readLine_43 : decode cX11_readLine 43 = .ok (.iconst 4, 1) := by decide +kernel
theorem dX11_readLine_44 : decode cX11_readLine 44 = .ok (.invokevirtual 267, 3) := by decide +kernel
theorem dX11_readLine_47 : decode cX11_readLine 47 = .ok (.ifCond .eq 10, 3) := by decide +kernel
theorem dX11_readLine_50 : decode cX11_readLine 50 = .ok (.aload_n 0, 1) := by decide +kernel
theorem dX11_readLine_51 : decode cX11_readLine 51 = .ok (.invokevirtual 369, 3) := by decide +kernel
theorem dX11_readLine_54 : decode cX11_readLine 54 = .ok (.goto 8, 3) := by decide +kernel
theorem dX11_readLine_57 : decode cX11_readLine 57 = .ok (.aload_n 0, 1) := by decide +kernel
theorem dX11_readLine_58 : decode cX11_readLine 58 = .ok (.iconst 2, 1) := by decide +kernel
theorem dX11_readLine_59 : decode cX11_readLine 59 = .ok (.invokevirtual 279, 3) := by decide +kernel
theorem dX11_readLine_62 : decode cX11_readLine 62 = .ok (.ireturn, 1) := by decide +kernel
set_option maxRecDepth 10000 in
set_option maxHeartbeats 4000000 in
theorem A_X11_readLine_e {Z : az_Z} {d : Nat} (C : az_C Z yX11_readLine cX11_readLine 1 (some .boolean) d) (hD : 408 ≤ d) (n : Nat) {σ : az_Hp} {v0 : Int} {r : (Int × az_Hp)} (h : fz_X11_readLine n σ v0 = some r) : az_AW Z 1 0 [(13, v0)] [] σ (some (0, r.1), r.2) := by
  have hd1 : 1 ≤ d := by omega
  unfold fz_X11_readLine at h
  refine az_al0 (pc := 0) C rfl rfl dX11_readLine_0 ?_
  refine az_ik0 (pc := 1) C dX11_readLine_1 ?_
  refine az_cV1pi (pc := 2) (c := 11) C hd1 h mv_X11_isWord ml_X11_267 rfl (fun x hx => A_X11_isWord (by omega) hx) dX11_readLine_2 (fun r1 h => ?_)
  refine az_if_eq (pc := 5) (tgt := 15) C h dX11_readLine_5 (by decide) (fun _ h => ?_) (fun _ h => ?_)
  · refine az_al0 (pc := 15) C rfl rfl dX11_readLine_15 ?_
    refine az_ik1 (pc := 16) C dX11_readLine_16 ?_
    refine az_cV1pi (pc := 17) (c := 11) C hd1 h mv_X11_isWord ml_X11_267 rfl (fun x hx => A_X11_isWord (by omega) hx) dX11_readLine_17 (fun r2 h => ?_)
    refine az_if_ne (pc := 20) (tgt := 31) C h dX11_readLine_20 (by decide) (fun _ h => ?_) (fun _ h => ?_)
    · refine az_al0 (pc := 31) C rfl rfl dX11_readLine_31 ?_
      refine az_ik0 (pc := 32) C dX11_readLine_32 ?_
      refine az_al0 (pc := 33) C rfl rfl dX11_readLine_33 ?_
      refine az_ik2 (pc := 34) C dX11_readLine_34 ?_
      refine az_cV1pi (pc := 35) (c := 11) C hd1 h mv_X11_isWord ml_X11_267 rfl (fun x hx => A_X11_isWord (by omega) hx) dX11_readLine_35 (fun r3 h => ?_)
      refine az_cV2ii (pc := 38) (c := 11) C hd1 h mv_X11_readTold ml_X11_365 rfl (fun x hx => A_X11_readTold (by omega) n hx) dX11_readLine_38 (fun r4 h => ?_)
      obtain ⟨hz, h⟩ := az_zif h
      obtain rfl := Option.some.inj h
      exact az_zreturn (pc := 41) C hz dX11_readLine_41 rfl
    refine az_al0 (pc := 23) C rfl rfl dX11_readLine_23 ?_
    refine az_ik2 (pc := 24) C dX11_readLine_24 ?_
    refine az_cV1pi (pc := 25) (c := 11) C hd1 h mv_X11_isWord ml_X11_267 rfl (fun x hx => A_X11_isWord (by omega) hx) dX11_readLine_25 (fun r5 h => ?_)
    refine az_if_eq (pc := 28) (tgt := 42) C h dX11_readLine_28 (by decide) (fun _ h => ?_) (fun _ h => ?_)
    · refine az_al0 (pc := 42) C rfl rfl dX11_readLine_42 ?_
      refine az_ik4 (pc := 43) C dX11_readLine_43 ?_
      refine az_cV1pi (pc := 44) (c := 11) C hd1 h mv_X11_isWord ml_X11_267 rfl (fun x hx => A_X11_isWord (by omega) hx) dX11_readLine_44 (fun r6 h => ?_)
      refine az_if_eq (pc := 47) (tgt := 57) C h dX11_readLine_47 (by decide) (fun _ h => ?_) (fun _ h => ?_)
      · refine az_al0 (pc := 57) C rfl rfl dX11_readLine_57 ?_
        refine az_ik2 (pc := 58) C dX11_readLine_58 ?_
        refine az_cV1ii (pc := 59) (c := 11) C hd1 h mv_X11_bad ml_X11_279 rfl (fun x hx => A_X11_bad (by omega) hx) dX11_readLine_59 (fun r7 h => ?_)
        obtain ⟨hz, h⟩ := az_zif h
        obtain rfl := Option.some.inj h
        exact az_zreturn (pc := 62) C hz dX11_readLine_62 rfl
      refine az_al0 (pc := 50) C rfl rfl dX11_readLine_50 ?_
      refine az_cV0ii (pc := 51) (c := 11) C hd1 h mv_X11_readEquation ml_X11_369 rfl (fun x hx => A_X11_readEquation (by omega) n hx) dX11_readLine_51 (fun r8 h => ?_)
      refine az_goto (pc := 54) (tgt := 62) C dX11_readLine_54 (by decide) ?_
      obtain ⟨hz, h⟩ := az_zif h
      obtain rfl := Option.some.inj h
      exact az_zreturn (pc := 62) C hz dX11_readLine_62 rfl
    refine az_al0 (pc := 31) C rfl rfl dX11_readLine_31 ?_
    refine az_ik0 (pc := 32) C dX11_readLine_32 ?_
    refine az_al0 (pc := 33) C rfl rfl dX11_readLine_33 ?_
    refine az_ik2 (pc := 34) C dX11_readLine_34 ?_
    refine az_cV1pi (pc := 35) (c := 11) C hd1 h mv_X11_isWord ml_X11_267 rfl (fun x hx => A_X11_isWord (by omega) hx) dX11_readLine_35 (fun r9 h => ?_)
    refine az_cV2ii (pc := 38) (c := 11) C hd1 h mv_X11_readTold ml_X11_365 rfl (fun x hx => A_X11_readTold (by omega) n hx) dX11_readLine_38 (fun r10 h => ?_)
    obtain ⟨hz, h⟩ := az_zif h
    obtain rfl := Option.some.inj h
    exact az_zreturn (pc := 41) C hz dX11_readLine_41 rfl
  refine az_al0 (pc := 8) C rfl rfl dX11_readLine_8 ?_
  refine az_ik1 (pc := 9) C dX11_readLine_9 ?_
  refine az_ik0 (pc := 10) C dX11_readLine_10 ?_
  refine az_cV2ii (pc := 11) (c := 11) C hd1 h mv_X11_readTold ml_X11_365 rfl (fun x hx => A_X11_readTold (by omega) n hx) dX11_readLine_11 (fun r11 h => ?_)
  obtain ⟨hz, h⟩ := az_zif h
  obtain rfl := Option.some.inj h
  exact az_zreturn (pc := 14) C hz dX11_readLine_14 rfl
set_option maxRecDepth 10000 in
set_option maxHeartbeats 4000000 in
theorem A_X11_readLine {l : Launch} {d : Nat} (hD : 408 ≤ d) (n : Nat) {σ : az_Hp} {v0 : Int} {r : (Int × az_Hp)} (h : fz_X11_readLine n σ v0 = some r) : az_AC l yX11_readLine cX11_readLine 1 (some .boolean) d [(13, v0)] σ (some (0, r.1), r.2) := az_AC.of mt_X11_readLine rfl rfl rfl (fun Z hZ C => A_X11_readLine_e C hD n h)
theorem dX11_load_0 : decode cX11_load 0 = .ok (.iload_n 1, 1) := by decide +kernel
theorem dX11_load_1 : decode cX11_load 1 = .ok (.iconst 0, 1) := by decide +kernel
theorem dX11_load_2 : decode cX11_load 2 = .ok (.aload_n 0, 1) := by decide +kernel
theorem dX11_load_3 : decode cX11_load 3 = .ok (.getfield 216, 3) := by decide +kernel
theorem dX11_load_6 : decode cX11_load 6 = .ok (.invokestatic 354, 3) := by decide +kernel
theorem dX11_load_9 : decode cX11_load 9 = .ok (.ifCond .ne 9, 3) := by decide +kernel
theorem dX11_load_12 : decode cX11_load 12 = .ok (.aload_n 0, 1) := by decide +kernel
theorem dX11_load_13 : decode cX11_load 13 = .ok (.iconst 1, 1) := by decide +kernel
theorem dX11_load_14 : decode cX11_load 14 = .ok (.invokevirtual 372, 3) := by decide +kernel
theorem dX11_load_17 : decode cX11_load 17 = .ok (.ireturn, 1) := by decide +kernel
theorem dX11_load_18 : decode cX11_load 18 = .ok (.aload_n 0, 1) := by decide +kernel
theorem dX11_load_19 : decode cX11_load 19 = .ok (.iload_n 1, 1) := by decide +kernel
theorem dX11_load_20 : decode cX11_load 20 = .ok (.invokevirtual 375, 3) := by decide +kernel
theorem dX11_load_23 : decode cX11_load 23 = .ok (.aload_n 0, 1) := by decide +kernel
theorem dX11_load_24 : decode cX11_load 24 = .ok (.iconst 1, 1) := by decide +kernel
theorem dX11_load_25 : decode cX11_load 25 = .ok (.aload_n 0, 1) := by decide +kernel
theorem dX11_load_26 : decode cX11_load 26 = .ok (.getfield 378, 3) := by decide +kernel
theorem dX11_load_29 : decode cX11_load 29 = .ok (.isub, 1) := by decide +kernel
theorem dX11_load_30 : decode cX11_load 30 = .ok (.putfield 285, 3) := by decide +kernel
theorem dX11_load_33 : decode cX11_load 33 = .ok (.aload_n 0, 1) := by decide +kernel
theorem dX11_load_34 : decode cX11_load 34 = .ok (.getfield 20, 3) := by decide +kernel
theorem dX11_load_37 : decode cX11_load 37 = .ok (.aload_n 0, 1) := by decide +kernel
theorem dX11_load_38 : decode cX11_load 38 = .ok (.getfield 285, 3) := by decide +kernel
theorem dX11_load_41 : decode cX11_load 41 = .ok (.iconst 0, 1) := by decide +kernel
theorem dX11_load_42 : decode cX11_load 42 = .ok (.iastore, 1) := by decide +kernel
theorem dX11_load_43 : decode cX11_load 43 = .ok (.aload_n 0, 1) := by decide +kernel
theorem dX11_load_44 : decode cX11_load 44 = .ok (.getfield 23, 3) := by decide +kernel
theorem dX11_load_47 : decode cX11_load 47 = .ok (.aload_n 0, 1) := by decide +kernel
theorem dX11_load_48 : decode cX11_load 48 = .ok (.getfield 285, 3) := by decide +kernel
theorem dX11_load_51 : decode cX11_load 51 = .ok (.iconst 0, 1) := by decide +kernel
theorem dX11_load_52 : decode cX11_load 52 = .ok (.iastore, 1) := by decide +kernel
theorem dX11_load_53 : decode cX11_load 53 = .ok (.aload_n 0, 1) := by decide +kernel
theorem dX11_load_54 : decode cX11_load 54 = .ok (.getfield 26, 3) := by decide +kernel
theorem dX11_load_57 : decode cX11_load 57 = .ok (.aload_n 0, 1) := by decide +kernel
theorem dX11_load_58 : decode cX11_load 58 = .ok (.getfield 285, 3) := by decide +kernel
theorem dX11_load_61 : decode cX11_load 61 = .ok (.iconst 0, 1) := by decide +kernel
theorem dX11_load_62 : decode cX11_load 62 = .ok (.iastore, 1) := by decide +kernel
theorem dX11_load_63 : decode cX11_load 63 = .ok (.iconst 1, 1) := by decide +kernel
theorem dX11_load_64 : decode cX11_load 64 = .ok (.istore_n 2, 1) := by decide +kernel
theorem dX11_load_65 : decode cX11_load 65 = .ok (.iload_n 2, 1) := by decide +kernel
theorem dX11_load_66 : decode cX11_load 66 = .ok (.ifCond .eq 18, 3) := by decide +kernel
theorem dX11_load_69 : decode cX11_load 69 = .ok (.aload_n 0, 1) := by decide +kernel
theorem dX11_load_70 : decode cX11_load 70 = .ok (.getfield 236, 3) := by decide +kernel
theorem dX11_load_73 : decode cX11_load 73 = .ok (.ifCond .eq 11, 3) := by decide +kernel
theorem dX11_load_76 : decode cX11_load 76 = .ok (.aload_n 0, 1) := by decide +kernel
theorem dX11_load_77 : decode cX11_load 77 = .ok (.invokevirtual 381, 3) := by decide +kernel
theorem dX11_load_80 : decode cX11_load 80 = .ok (.istore_n 2, 1) := by decide +kernel
theorem dX11_load_81 : decode cX11_load 81 = .ok (.goto (-16), 3) := by decide +kernel
theorem dX11_load_84 : decode cX11_load 84 = .ok (.iload_n 2, 1) := by decide +kernel
theorem dX11_load_85 : decode cX11_load 85 = .ok (.ifCond .ne 11, 3) := by decide +kernel
theorem dX11_load_88 : decode cX11_load 88 = .ok (.aload_n 0, 1) := by decide +kernel
theorem dX11_load_89 : decode cX11_load 89 = .ok (.aload_n 0, 1) := by decide +kernel
theorem dX11_load_90 : decode cX11_load 90 = .ok (.getfield 378, 3) := by decide +kernel
theorem dX11_load_93 : decode cX11_load 93 = .ok (.putfield 285, 3) := by decide +kernel
theorem dX11_load_96 : decode cX11_load 96 = .ok (.aload_n 0, 1) := by decide +kernel
theorem dX11_load_97 : decode cX11_load 97 = .ok (.iload_n 2, 1) := by decide +kernel
theorem dX11_load_98 : decode cX11_load 98 = .ok (.invokevirtual 384, 3) := by decide +kernel
theorem dX11_load_101 : decode cX11_load 101 = .ok (.ifCond .ne 10, 3) := by decide +kernel
theorem dX11_load_104 : decode cX11_load 104 = .ok (.aload_n 0, 1) := by decide +kernel
theorem dX11_load_105 : decode cX11_load 105 = .ok (.bipush 9, 2) := by decide +kernel
theorem dX11_load_107 : decode cX11_load 107 = .ok (.invokevirtual 372, 3) := by decide +kernel
theorem dX11_load_110 : decode cX11_load 110 = .ok (.ireturn, 1) := by decide +kernel
theorem dX11_load_111 : decode cX11_load 111 = .ok (.aload_n 0, 1) := by decide +kernel
theorem dX11_load_112 : decode cX11_load 112 = .ok (.aload_n 0, 1) := by decide +kernel
theorem dX11_load_113 : decode cX11_load 113 = .ok (.getfield 285, 3) := by decide +kernel
theorem dX11_load_116 : decode cX11_load 116 = .ok (.putfield 378, 3) := by decide +kernel
theorem dX11_load_119 : decode cX11_load 119 = .ok (.aload_n 0, 1) := by decide +kernel
theorem dX11_load_120 : decode cX11_load 120 = .ok (.iconst 0, 1) := by decide +kernel
theorem dX11_load_121 : decode cX11_load 121 = .ok (.putfield 388, 3) := by decide +kernel
theorem dX11_load_124 : decode cX11_load 124 = .ok (.aload_n 0, 1) := by decide +kernel
theorem dX11_load_125 : decode cX11_load 125 = .ok (.iconst 0, 1) := by decide +kernel
theorem dX11_load_126 : decode cX11_load 126 = .ok (.putfield 391, 3) := by decide +kernel
theorem dX11_load_129 : decode cX11_load 129 = .ok (.aload_n 0, 1) := by decide +kernel
theorem dX11_load_130 : decode cX11_load 130 = .ok (.iconst 0, 1) := by decide +kernel
theorem dX11_load_131 : decode cX11_load 131 = .ok (.putfield 395, 3) := by decide +kernel
theorem dX11_load_134 : decode cX11_load 134 = .ok (.aload_n 0, 1) := by decide +kernel
theorem dX11_load_135 : decode cX11_load 135 = .ok (.iconst (-1), 1) := by decide +kernel
theorem dX11_load_136 : decode cX11_load 136 = .ok (.putfield 144, 3) := by decide +kernel
theorem dX11_load_139 : decode cX11_load 139 = .ok (.aload_n 0, 1) := by decide +kernel
theorem dX11_load_140 : decode cX11_load 140 = .ok (.invokevirtual 398, 3) := by decide +kernel
theorem dX11_load_143 : decode cX11_load 143 = .ok (.aload_n 0, 1) := by decide +kernel
theorem dX11_load_144 : decode cX11_load 144 = .ok (.aload_n 0, 1) := by decide +kernel
theorem dX11_load_145 : decode cX11_load 145 = .ok (.getfield 26, 3) := by decide +kernel
theorem dX11_load_148 : decode cX11_load 148 = .ok (.aload_n 0, 1) := by decide +kernel
theorem dX11_load_149 : decode cX11_load 149 = .ok (.getfield 378, 3) := by decide +kernel
theorem dX11_load_152 : decode cX11_load 152 = .ok (.iaload, 1) := by decide +kernel
theorem dX11_load_153 : decode cX11_load 153 = .ok (.invokevirtual 401, 3) := by decide +kernel
theorem dX11_load_156 : decode cX11_load 156 = .ok (.ireturn, 1) := by decide +kernel
set_option maxRecDepth 10000 in
set_option maxHeartbeats 4000000 in
theorem A_X11_load_96 {Z : az_Z} {d : Nat} (C : az_C Z yX11_load cX11_load 3 (some .int) d) (hD : 409 ≤ d) (n : Nat) {σ : az_Hp} {v0 v2 : Int} {r : (Int × az_Hp)} (h : fz_X11_load_96 n σ v0 v2 = some r) : az_AW Z 3 96 [(13, v0), (31, 0), (0, v2)] [] σ (some (0, r.1), r.2) := by
  have hd1 : 1 ≤ d := by omega
  unfold fz_X11_load_96 at h
  refine az_al0 (pc := 96) C rfl rfl dX11_load_96 ?_
  refine az_il2 (pc := 97) C dX11_load_97 ?_
  refine az_cV1ii (pc := 98) (c := 11) C hd1 h mv_X11_ends ml_X11_384 rfl (fun x hx => A_X11_ends (by omega) hx) dX11_load_98 (fun r1 h => ?_)
  refine az_if_ne (pc := 101) (tgt := 111) C h dX11_load_101 (by decide) (fun _ h => ?_) (fun _ h => ?_)
  · refine az_al0 (pc := 111) C rfl rfl dX11_load_111 ?_
    refine az_al0 (pc := 112) C rfl rfl dX11_load_112 ?_
    refine az_getI (pc := 113) C fl_X11_285 rfl dX11_load_113 ?_
    refine az_putI (pc := 116) C fl_X11_378 (Or.inl rfl) rfl dX11_load_116 ?_
    refine az_al0 (pc := 119) C rfl rfl dX11_load_119 ?_
    refine az_ik0 (pc := 120) C dX11_load_120 ?_
    refine az_putI (pc := 121) C fl_X11_388 (Or.inl rfl) rfl dX11_load_121 ?_
    refine az_al0 (pc := 124) C rfl rfl dX11_load_124 ?_
    refine az_ik0 (pc := 125) C dX11_load_125 ?_
    refine az_putZc (pc := 126) C (by decide) fl_X11_391 (Or.inl rfl) rfl dX11_load_126 ?_
    refine az_al0 (pc := 129) C rfl rfl dX11_load_129 ?_
    refine az_ik0 (pc := 130) C dX11_load_130 ?_
    refine az_putI (pc := 131) C fl_X11_395 (Or.inl rfl) rfl dX11_load_131 ?_
    refine az_al0 (pc := 134) C rfl rfl dX11_load_134 ?_
    refine az_ikm1 (pc := 135) C dX11_load_135 ?_
    refine az_putI (pc := 136) C fl_X11_144 (Or.inl rfl) rfl dX11_load_136 ?_
    refine az_al0 (pc := 139) C rfl rfl dX11_load_139 ?_
    refine az_cV0v (pc := 140) (c := 11) C hd1 h mv_X11_laysCompatible ml_X11_398 rfl (fun x hx => A_X11_laysCompatible (by omega) n hx) dX11_load_140 (fun r2 h => ?_)
    refine az_al0 (pc := 143) C rfl rfl dX11_load_143 ?_
    refine az_al0 (pc := 144) C rfl rfl dX11_load_144 ?_
    refine az_getR (pc := 145) (c2 := 13) C h fl_X11_26 rfl rfl dX11_load_145 (fun h => ?_)
    refine az_al0 (pc := 148) C rfl rfl dX11_load_148 ?_
    refine az_getI (pc := 149) C fl_X11_378 rfl dX11_load_149 ?_
    refine az_iaload (pc := 152) C h dX11_load_152 (fun h => ?_)
    refine az_cV1ii (pc := 153) (c := 11) C hd1 h mv_X11_gives ml_X11_401 rfl (fun x hx => A_X11_gives (by omega) hx) dX11_load_153 (fun r5 h => ?_)
    obtain rfl := Option.some.inj h
    exact az_ireturn (pc := 156) C dX11_load_156 rfl
  refine az_al0 (pc := 104) C rfl rfl dX11_load_104 ?_
  refine az_bk9 (pc := 105) C dX11_load_105 ?_
  refine az_cV1ii (pc := 107) (c := 11) C hd1 h mv_X11_refuse ml_X11_372 rfl (fun x hx => A_X11_refuse (by omega) hx) dX11_load_107 (fun r6 h => ?_)
  obtain rfl := Option.some.inj h
  exact az_ireturn (pc := 110) C dX11_load_110 rfl
set_option maxRecDepth 10000 in
set_option maxHeartbeats 4000000 in
theorem A_X11_load_84 {Z : az_Z} {d : Nat} (C : az_C Z yX11_load cX11_load 3 (some .int) d) (hD : 409 ≤ d) (n : Nat) {σ : az_Hp} {v0 v2 : Int} {r : (Int × az_Hp)} (h : fz_X11_load_84 n σ v0 v2 = some r) : az_AW Z 3 84 [(13, v0), (31, 0), (0, v2)] [] σ (some (0, r.1), r.2) := by
  have hd1 : 1 ≤ d := by omega
  unfold fz_X11_load_84 at h
  refine az_il2 (pc := 84) C dX11_load_84 ?_
  refine az_if_ne (pc := 85) (tgt := 96) C h dX11_load_85 (by decide) (fun _ h => ?_) (fun _ h => ?_)
  · exact (A_X11_load_96 C hD n h)
  refine az_al0 (pc := 88) C rfl rfl dX11_load_88 ?_
  refine az_al0 (pc := 89) C rfl rfl dX11_load_89 ?_
  refine az_getI (pc := 90) C fl_X11_378 rfl dX11_load_90 ?_
  refine az_putI (pc := 93) C fl_X11_285 (Or.inl rfl) rfl dX11_load_93 ?_
  exact (A_X11_load_96 C hD n h)
set_option maxRecDepth 10000 in
set_option maxHeartbeats 4000000 in
theorem A_X11_load_65 {Z : az_Z} {d : Nat} (C : az_C Z yX11_load cX11_load 3 (some .int) d) (hD : 409 ≤ d) (n : Nat) (k : Nat) : ∀ {σ : az_Hp} {v0 v2 : Int} {r : (Int × az_Hp)}, fz_X11_load_65 n k σ v0 v2 = some r → az_AW Z 3 65 [(13, v0), (31, 0), (0, v2)] [] σ (some (0, r.1), r.2) := by
  have hd1 : 1 ≤ d := by omega
  induction k with
  | zero => intro σ v0 v2 r h; simp [fz_X11_load_65] at h
  | succ k ih =>
    intro σ v0 v2 r h
    unfold fz_X11_load_65 at h
    refine az_il2 (pc := 65) C dX11_load_65 ?_
    refine az_if_eq (pc := 66) (tgt := 84) C h dX11_load_66 (by decide) (fun _ h => ?_) (fun _ h => ?_)
    · exact (A_X11_load_84 C hD n h)
    refine az_al0 (pc := 69) C rfl rfl dX11_load_69 ?_
    refine az_getI (pc := 70) C fl_X11_236 rfl dX11_load_70 ?_
    refine az_if_eq (pc := 73) (tgt := 84) C h dX11_load_73 (by decide) (fun _ h => ?_) (fun _ h => ?_)
    · exact (A_X11_load_84 C hD n h)
    refine az_al0 (pc := 76) C rfl rfl dX11_load_76 ?_
    refine az_cV0ii (pc := 77) (c := 11) C hd1 h mv_X11_readLine ml_X11_381 rfl (fun x hx => A_X11_readLine (by omega) n hx) dX11_load_77 (fun r1 h => ?_)
    refine az_is2 (pc := 80) C rfl rfl dX11_load_80 ?_
    refine az_goto (pc := 81) (tgt := 65) C dX11_load_81 (by decide) ?_
    exact (ih h)
set_option maxRecDepth 10000 in
set_option maxHeartbeats 4000000 in
theorem A_X11_load_e {Z : az_Z} {d : Nat} (C : az_C Z yX11_load cX11_load 3 (some .int) d) (hD : 409 ≤ d) (n : Nat) {σ : az_Hp} {v0 v1 : Int} {r : (Int × az_Hp)} (h : fz_X11_load n σ v0 v1 = some r) : az_AW Z 3 0 [(13, v0), (0, v1), (31, 0)] [] σ (some (0, r.1), r.2) := by
  have hd1 : 1 ≤ d := by omega
  unfold fz_X11_load at h
  refine az_il1 (pc := 0) C dX11_load_0 ?_
  refine az_ik0 (pc := 1) C dX11_load_1 ?_
  refine az_al0 (pc := 2) C rfl rfl dX11_load_2 ?_
  refine az_getI (pc := 3) C fl_X11_216 rfl dX11_load_3 ?_
  refine az_cS3pi (pc := 6) C hd1 h ms_X11_isFrom ml_X11_354 rfl (fun x hx => A_X11_isFrom (by omega) hx) dX11_load_6 (fun r1 h => ?_)
  refine az_if_ne (pc := 9) (tgt := 18) C h dX11_load_9 (by decide) (fun _ h => ?_) (fun _ h => ?_)
  · refine az_al0 (pc := 18) C rfl rfl dX11_load_18 ?_
    refine az_il1 (pc := 19) C dX11_load_19 ?_
    refine az_cV1v (pc := 20) (c := 11) C hd1 h mv_X11_begins ml_X11_375 rfl (fun x hx => A_X11_begins (by omega) n hx) dX11_load_20 (fun r2 h => ?_)
    refine az_al0 (pc := 23) C rfl rfl dX11_load_23 ?_
    refine az_ik1 (pc := 24) C dX11_load_24 ?_
    refine az_al0 (pc := 25) C rfl rfl dX11_load_25 ?_
    refine az_getI (pc := 26) C fl_X11_378 rfl dX11_load_26 ?_
    refine az_isub (pc := 29) C dX11_load_29 ?_
    refine az_putI (pc := 30) C fl_X11_285 (Or.inl rfl) rfl dX11_load_30 ?_
    refine az_al0 (pc := 33) C rfl rfl dX11_load_33 ?_
    refine az_getR (pc := 34) (c2 := 13) C h fl_X11_20 rfl rfl dX11_load_34 (fun h => ?_)
    refine az_al0 (pc := 37) C rfl rfl dX11_load_37 ?_
    refine az_getI (pc := 38) C fl_X11_285 rfl dX11_load_38 ?_
    refine az_ik0 (pc := 41) C dX11_load_41 ?_
    refine az_iastore (pc := 42) C h dX11_load_42 (fun h => ?_)
    refine az_al0 (pc := 43) C rfl rfl dX11_load_43 ?_
    refine az_getR (pc := 44) (c2 := 13) C h fl_X11_23 rfl rfl dX11_load_44 (fun h => ?_)
    refine az_al0 (pc := 47) C rfl rfl dX11_load_47 ?_
    refine az_getI (pc := 48) C fl_X11_285 rfl dX11_load_48 ?_
    refine az_ik0 (pc := 51) C dX11_load_51 ?_
    refine az_iastore (pc := 52) C h dX11_load_52 (fun h => ?_)
    refine az_al0 (pc := 53) C rfl rfl dX11_load_53 ?_
    refine az_getR (pc := 54) (c2 := 13) C h fl_X11_26 rfl rfl dX11_load_54 (fun h => ?_)
    refine az_al0 (pc := 57) C rfl rfl dX11_load_57 ?_
    refine az_getI (pc := 58) C fl_X11_285 rfl dX11_load_58 ?_
    refine az_ik0 (pc := 61) C dX11_load_61 ?_
    refine az_iastore (pc := 62) C h dX11_load_62 (fun h => ?_)
    refine az_ik1 (pc := 63) C dX11_load_63 ?_
    refine az_is2 (pc := 64) C rfl rfl dX11_load_64 ?_
    exact (az_wkk (A_X11_load_65 C hD n n h) (az_sE (az_sJ (az_sE az_sN))))
  refine az_al0 (pc := 12) C rfl rfl dX11_load_12 ?_
  refine az_ik1 (pc := 13) C dX11_load_13 ?_
  refine az_cV1ii (pc := 14) (c := 11) C hd1 h mv_X11_refuse ml_X11_372 rfl (fun x hx => A_X11_refuse (by omega) hx) dX11_load_14 (fun r9 h => ?_)
  obtain rfl := Option.some.inj h
  exact az_ireturn (pc := 17) C dX11_load_17 rfl
set_option maxRecDepth 10000 in
set_option maxHeartbeats 4000000 in
theorem A_X11_load {l : Launch} {d : Nat} (hD : 409 ≤ d) (n : Nat) {σ : az_Hp} {v0 v1 : Int} {r : (Int × az_Hp)} (h : fz_X11_load n σ v0 v1 = some r) : az_AC l yX11_load cX11_load 3 (some .int) d [(13, v0), (0, v1)] σ (some (0, r.1), r.2) := az_AC.of mt_X11_load rfl rfl rfl (fun Z hZ C => A_X11_load_e C hD n h)
theorem dX11_many_0 : decode cX11_many 0 = .ok (.iload_n 1, 1) := by decide +kernel
theorem dX11_many_1 : decode cX11_many 1 = .ok (.tableswitch 69 0 2 #[27, 41, 55], 27) := by decide +kernel
theorem dX11_many_28 : decode cX11_many 28 = .ok (.aload_n 0, 1) := by decide +kernel
theorem dX11_many_29 : decode cX11_many 29 = .ok (.aload_n 0, 1) := by decide +kernel
theorem dX11_many_30 : decode cX11_many 30 = .ok (.getfield 20, 3) := by decide +kernel
theorem dX11_many_33 : decode cX11_many 33 = .ok (.aload_n 0, 1) := by decide +kernel
theorem dX11_many_34 : decode cX11_many 34 = .ok (.getfield 378, 3) := by decide +kernel
theorem dX11_many_37 : decode cX11_many 37 = .ok (.iaload, 1) := by decide +kernel
theorem dX11_many_38 : decode cX11_many 38 = .ok (.invokevirtual 401, 3) := by decide +kernel
theorem dX11_many_41 : decode cX11_many 41 = .ok (.ireturn, 1) := by decide +kernel
theorem dX11_many_42 : decode cX11_many 42 = .ok (.aload_n 0, 1) := by decide +kernel
theorem dX11_many_43 : decode cX11_many 43 = .ok (.aload_n 0, 1) := by decide +kernel
theorem dX11_many_44 : decode cX11_many 44 = .ok (.getfield 23, 3) := by decide +kernel
theorem dX11_many_47 : decode cX11_many 47 = .ok (.aload_n 0, 1) := by decide +kernel
theorem dX11_many_48 : decode cX11_many 48 = .ok (.getfield 378, 3) := by decide +kernel
theorem dX11_many_51 : decode cX11_many 51 = .ok (.iaload, 1) := by decide +kernel
theorem dX11_many_52 : decode cX11_many 52 = .ok (.invokevirtual 401, 3) := by decide +kernel
theorem dX11_many_55 : decode cX11_many 55 = .ok (.ireturn, 1) := by decide +kernel
theorem dX11_many_56 : decode cX11_many 56 = .ok (.aload_n 0, 1) := by decide +kernel
theorem dX11_many_57 : decode cX11_many 57 = .ok (.aload_n 0, 1) := by decide +kernel
theorem dX11_many_58 : decode cX11_many 58 = .ok (.getfield 26, 3) := by decide +kernel
theorem dX11_many_61 : decode cX11_many 61 = .ok (.aload_n 0, 1) := by decide +kernel
theorem dX11_many_62 : decode cX11_many 62 = .ok (.getfield 378, 3) := by decide +kernel
theorem dX11_many_65 : decode cX11_many 65 = .ok (.iaload, 1) := by decide +kernel
theorem dX11_many_66 : decode cX11_many 66 = .ok (.invokevirtual 401, 3) := by decide +kernel
theorem dX11_many_69 : decode cX11_many 69 = .ok (.ireturn, 1) := by decide +kernel
theorem dX11_many_70 : decode cX11_many 70 = .ok (.aload_n 0, 1) := by decide +kernel
theorem dX11_many_71 : decode cX11_many 71 = .ok (.iconst 1, 1) := by decide +kernel
theorem dX11_many_72 : decode cX11_many 72 = .ok (.invokevirtual 372, 3) := by decide +kernel
theorem dX11_many_75 : decode cX11_many 75 = .ok (.ireturn, 1) := by decide +kernel
set_option maxRecDepth 10000 in
set_option maxHeartbeats 4000000 in
theorem A_X11_many_e {Z : az_Z} {d : Nat} (C : az_C Z yX11_many cX11_many 2 (some .int) d) (hD : 2 ≤ d) {σ : az_Hp} {v0 v1 : Int} {r : (Int × az_Hp)} (h : fz_X11_many σ v0 v1 = some r) : az_AW Z 2 0 [(13, v0), (0, v1)] [] σ (some (0, r.1), r.2) := by
  have hd1 : 1 ≤ d := by omega
  unfold fz_X11_many at h
  refine az_il1 (pc := 0) C dX11_many_0 ?_
  rcases az_ite h with ⟨c0, h⟩ | ⟨c0, h⟩
  · refine az_tswIn (pc := 1) (i := 0) (tgt := 28) C (by exact c0) (by decide) rfl dX11_many_1 (by decide) ?_
    refine az_al0 (pc := 28) C rfl rfl dX11_many_28 ?_
    refine az_al0 (pc := 29) C rfl rfl dX11_many_29 ?_
    refine az_getR (pc := 30) (c2 := 13) C h fl_X11_20 rfl rfl dX11_many_30 (fun h => ?_)
    refine az_al0 (pc := 33) C rfl rfl dX11_many_33 ?_
    refine az_getI (pc := 34) C fl_X11_378 rfl dX11_many_34 ?_
    refine az_iaload (pc := 37) C h dX11_many_37 (fun h => ?_)
    refine az_cV1ii (pc := 38) (c := 11) C hd1 h mv_X11_gives ml_X11_401 rfl (fun x hx => A_X11_gives (by omega) hx) dX11_many_38 (fun r3 h => ?_)
    obtain rfl := Option.some.inj h
    exact az_ireturn (pc := 41) C dX11_many_41 rfl
  rcases az_ite h with ⟨c1, h⟩ | ⟨c1, h⟩
  · refine az_tswIn (pc := 1) (i := 1) (tgt := 42) C (by exact c1) (by decide) rfl dX11_many_1 (by decide) ?_
    refine az_al0 (pc := 42) C rfl rfl dX11_many_42 ?_
    refine az_al0 (pc := 43) C rfl rfl dX11_many_43 ?_
    refine az_getR (pc := 44) (c2 := 13) C h fl_X11_23 rfl rfl dX11_many_44 (fun h => ?_)
    refine az_al0 (pc := 47) C rfl rfl dX11_many_47 ?_
    refine az_getI (pc := 48) C fl_X11_378 rfl dX11_many_48 ?_
    refine az_iaload (pc := 51) C h dX11_many_51 (fun h => ?_)
    refine az_cV1ii (pc := 52) (c := 11) C hd1 h mv_X11_gives ml_X11_401 rfl (fun x hx => A_X11_gives (by omega) hx) dX11_many_52 (fun r6 h => ?_)
    obtain rfl := Option.some.inj h
    exact az_ireturn (pc := 55) C dX11_many_55 rfl
  rcases az_ite h with ⟨c2, h⟩ | ⟨c2, h⟩
  · refine az_tswIn (pc := 1) (i := 2) (tgt := 56) C (by exact c2) (by decide) rfl dX11_many_1 (by decide) ?_
    refine az_al0 (pc := 56) C rfl rfl dX11_many_56 ?_
    refine az_al0 (pc := 57) C rfl rfl dX11_many_57 ?_
    refine az_getR (pc := 58) (c2 := 13) C h fl_X11_26 rfl rfl dX11_many_58 (fun h => ?_)
    refine az_al0 (pc := 61) C rfl rfl dX11_many_61 ?_
    refine az_getI (pc := 62) C fl_X11_378 rfl dX11_many_62 ?_
    refine az_iaload (pc := 65) C h dX11_many_65 (fun h => ?_)
    refine az_cV1ii (pc := 66) (c := 11) C hd1 h mv_X11_gives ml_X11_401 rfl (fun x hx => A_X11_gives (by omega) hx) dX11_many_66 (fun r9 h => ?_)
    obtain rfl := Option.some.inj h
    exact az_ireturn (pc := 69) C dX11_many_69 rfl
  refine az_tswOut (pc := 1) (tgt := 70) C (by omega) dX11_many_1 (by decide) ?_
  refine az_al0 (pc := 70) C rfl rfl dX11_many_70 ?_
  refine az_ik1 (pc := 71) C dX11_many_71 ?_
  refine az_cV1ii (pc := 72) (c := 11) C hd1 h mv_X11_refuse ml_X11_372 rfl (fun x hx => A_X11_refuse (by omega) hx) dX11_many_72 (fun r10 h => ?_)
  obtain rfl := Option.some.inj h
  exact az_ireturn (pc := 75) C dX11_many_75 rfl
set_option maxRecDepth 10000 in
set_option maxHeartbeats 4000000 in
theorem A_X11_many {l : Launch} {d : Nat} (hD : 2 ≤ d) {σ : az_Hp} {v0 v1 : Int} {r : (Int × az_Hp)} (h : fz_X11_many σ v0 v1 = some r) : az_AC l yX11_many cX11_many 2 (some .int) d [(13, v0), (0, v1)] σ (some (0, r.1), r.2) := az_AC.of mt_X11_many rfl rfl rfl (fun Z hZ C => A_X11_many_e C hD h)
theorem dX11_meets_0 : decode cX11_meets 0 = .ok (.aload_n 0, 1) := by decide +kernel
theorem dX11_meets_1 : decode cX11_meets 1 = .ok (.iload_n 1, 1) := by decide +kernel
theorem dX11_meets_2 : decode cX11_meets 2 = .ok (.invokevirtual 471, 3) := by decide +kernel
theorem dX11_meets_5 : decode cX11_meets 5 = .ok (.ifCond .eq 29, 3) := by decide +kernel
theorem dX11_meets_8 : decode cX11_meets 8 = .ok (.aload_n 0, 1) := by decide +kernel
theorem dX11_meets_9 : decode cX11_meets 9 = .ok (.iload_n 2, 1) := by decide +kernel
theorem dX11_meets_10 : decode cX11_meets 10 = .ok (.invokevirtual 471, 3) := by decide +kernel
theorem dX11_meets_13 : decode cX11_meets 13 = .ok (.ifCond .eq 21, 3) := by decide +kernel
theorem dX11_meets_16 : decode cX11_meets 16 = .ok (.aload_n 0, 1) := by decide +kernel
theorem dX11_meets_17 : decode cX11_meets 17 = .ok (.aload_n 0, 1) := by decide +kernel
theorem dX11_meets_18 : decode cX11_meets 18 = .ok (.getfield 106, 3) := by decide +kernel
theorem dX11_meets_21 : decode cX11_meets 21 = .ok (.bipush 16, 2) := by decide +kernel
theorem dX11_meets_23 : decode cX11_meets 23 = .ok (.iload_n 1, 1) := by decide +kernel
theorem dX11_meets_24 : decode cX11_meets 24 = .ok (.imul, 1) := by decide +kernel
theorem dX11_meets_25 : decode cX11_meets 25 = .ok (.iload_n 2, 1) := by decide +kernel
theorem dX11_meets_26 : decode cX11_meets 26 = .ok (.iadd, 1) := by decide +kernel
theorem dX11_meets_27 : decode cX11_meets 27 = .ok (.iaload, 1) := by decide +kernel
theorem dX11_meets_28 : decode cX11_meets 28 = .ok (.invokevirtual 401, 3) := by decide +kernel
theorem dX11_meets_31 : decode cX11_meets 31 = .ok (.goto 8, 3) := by decide +kernel
theorem dX11_meets_34 : decode cX11_meets 34 = .ok (.aload_n 0, 1) := by decide +kernel
theorem dX11_meets_35 : decode cX11_meets 35 = .ok (.iconst 2, 1) := by decide +kernel
theorem dX11_meets_36 : decode cX11_meets 36 = .ok (.invokevirtual 372, 3) := by decide +kernel
theorem dX11_meets_39 : decode cX11_meets 39 = .ok (.ireturn, 1) := by decide +kernel
set_option maxRecDepth 10000 in
set_option maxHeartbeats 4000000 in
theorem A_X11_meets_e {Z : az_Z} {d : Nat} (C : az_C Z yX11_meets cX11_meets 3 (some .int) d) (hD : 3 ≤ d) {σ : az_Hp} {v0 v1 v2 : Int} {r : (Int × az_Hp)} (h : fz_X11_meets σ v0 v1 v2 = some r) : az_AW Z 3 0 [(13, v0), (0, v1), (0, v2)] [] σ (some (0, r.1), r.2) := by
  have hd1 : 1 ≤ d := by omega
  unfold fz_X11_meets at h
  refine az_al0 (pc := 0) C rfl rfl dX11_meets_0 ?_
  refine az_il1 (pc := 1) C dX11_meets_1 ?_
  refine az_cV1pi (pc := 2) (c := 11) C hd1 h mv_X11_isEquation ml_X11_471 rfl (fun x hx => A_X11_isEquation (by omega) hx) dX11_meets_2 (fun r1 h => ?_)
  refine az_if_eq (pc := 5) (tgt := 34) C h dX11_meets_5 (by decide) (fun _ h => ?_) (fun _ h => ?_)
  · refine az_al0 (pc := 34) C rfl rfl dX11_meets_34 ?_
    refine az_ik2 (pc := 35) C dX11_meets_35 ?_
    refine az_cV1ii (pc := 36) (c := 11) C hd1 h mv_X11_refuse ml_X11_372 rfl (fun x hx => A_X11_refuse (by omega) hx) dX11_meets_36 (fun r2 h => ?_)
    obtain rfl := Option.some.inj h
    exact az_ireturn (pc := 39) C dX11_meets_39 rfl
  refine az_al0 (pc := 8) C rfl rfl dX11_meets_8 ?_
  refine az_il2 (pc := 9) C dX11_meets_9 ?_
  refine az_cV1pi (pc := 10) (c := 11) C hd1 h mv_X11_isEquation ml_X11_471 rfl (fun x hx => A_X11_isEquation (by omega) hx) dX11_meets_10 (fun r3 h => ?_)
  refine az_if_eq (pc := 13) (tgt := 34) C h dX11_meets_13 (by decide) (fun _ h => ?_) (fun _ h => ?_)
  · refine az_al0 (pc := 34) C rfl rfl dX11_meets_34 ?_
    refine az_ik2 (pc := 35) C dX11_meets_35 ?_
    refine az_cV1ii (pc := 36) (c := 11) C hd1 h mv_X11_refuse ml_X11_372 rfl (fun x hx => A_X11_refuse (by omega) hx) dX11_meets_36 (fun r4 h => ?_)
    obtain rfl := Option.some.inj h
    exact az_ireturn (pc := 39) C dX11_meets_39 rfl
  refine az_al0 (pc := 16) C rfl rfl dX11_meets_16 ?_
  refine az_al0 (pc := 17) C rfl rfl dX11_meets_17 ?_
  refine az_getR (pc := 18) (c2 := 13) C h fl_X11_106 rfl rfl dX11_meets_18 (fun h => ?_)
  refine az_bk16 (pc := 21) C dX11_meets_21 ?_
  refine az_il1 (pc := 23) C dX11_meets_23 ?_
  refine az_imul (pc := 24) C dX11_meets_24 ?_
  refine az_il2 (pc := 25) C dX11_meets_25 ?_
  refine az_iadd (pc := 26) C dX11_meets_26 ?_
  refine az_iaload (pc := 27) C h dX11_meets_27 (fun h => ?_)
  refine az_cV1ii (pc := 28) (c := 11) C hd1 h mv_X11_gives ml_X11_401 rfl (fun x hx => A_X11_gives (by omega) hx) dX11_meets_28 (fun r7 h => ?_)
  refine az_goto (pc := 31) (tgt := 39) C dX11_meets_31 (by decide) ?_
  obtain rfl := Option.some.inj h
  exact az_ireturn (pc := 39) C dX11_meets_39 rfl
set_option maxRecDepth 10000 in
set_option maxHeartbeats 4000000 in
theorem A_X11_meets {l : Launch} {d : Nat} (hD : 3 ≤ d) {σ : az_Hp} {v0 v1 v2 : Int} {r : (Int × az_Hp)} (h : fz_X11_meets σ v0 v1 v2 = some r) : az_AC l yX11_meets cX11_meets 3 (some .int) d [(13, v0), (0, v1), (0, v2)] σ (some (0, r.1), r.2) := az_AC.of mt_X11_meets rfl rfl rfl (fun Z hZ C => A_X11_meets_e C hD h)
theorem dX11_deepOf_0 : decode cX11_deepOf 0 = .ok (.iconst 0, 1) := by decide +kernel
theorem dX11_deepOf_1 : decode cX11_deepOf 1 = .ok (.istore_n 2, 1) := by decide +kernel
theorem dX11_deepOf_2 : decode cX11_deepOf 2 = .ok (.iconst 0, 1) := by decide +kernel
theorem dX11_deepOf_3 : decode cX11_deepOf 3 = .ok (.istore_n 3, 1) := by decide +kernel
theorem dX11_deepOf_4 : decode cX11_deepOf 4 = .ok (.iload_n 3, 1) := by decide +kernel
theorem dX11_deepOf_5 : decode cX11_deepOf 5 = .ok (.iload_n 1, 1) := by decide +kernel
theorem dX11_deepOf_6 : decode cX11_deepOf 6 = .ok (.if_icmp .ge 32, 3) := by decide +kernel
theorem dX11_deepOf_9 : decode cX11_deepOf 9 = .ok (.iload_n 2, 1) := by decide +kernel
theorem dX11_deepOf_10 : decode cX11_deepOf 10 = .ok (.iload_n 3, 1) := by decide +kernel
theorem dX11_deepOf_11 : decode cX11_deepOf 11 = .ok (.aload_n 0, 1) := by decide +kernel
theorem dX11_deepOf_12 : decode cX11_deepOf 12 = .ok (.aload_n 0, 1) := by decide +kernel
theorem dX11_deepOf_13 : decode cX11_deepOf 13 = .ok (.getfield 138, 3) := by decide +kernel
theorem dX11_deepOf_16 : decode cX11_deepOf 16 = .ok (.iload_n 3, 1) := by decide +kernel
theorem dX11_deepOf_17 : decode cX11_deepOf 17 = .ok (.invokevirtual 416, 3) := by decide +kernel
theorem dX11_deepOf_20 : decode cX11_deepOf 20 = .ok (.iadd, 1) := by decide +kernel
theorem dX11_deepOf_21 : decode cX11_deepOf 21 = .ok (.iload_n 1, 1) := by decide +kernel
theorem dX11_deepOf_22 : decode cX11_deepOf 22 = .ok (.if_icmp .le 7, 3) := by decide +kernel
theorem dX11_deepOf_25 : decode cX11_deepOf 25 = .ok (.iconst 1, 1) := by decide +kernel
theorem dX11_deepOf_26 : decode cX11_deepOf 26 = .ok (.goto 4, 3) := by decide +kernel
theorem dX11_deepOf_29 : decode cX11_deepOf 29 = .ok (.iconst 0, 1) := by decide +kernel
theorem dX11_deepOf_30 : decode cX11_deepOf 30 = .ok (.iadd, 1) := by decide +kernel
theorem dX11_deepOf_31 : decode cX11_deepOf 31 = .ok (.istore_n 2, 1) := by decide +kernel
theorem dX11_deepOf_32 : decode cX11_deepOf 32 = .ok (.iinc 3 1, 3) := by decide +kernel
theorem dX11_deepOf_35 : decode cX11_deepOf 35 = .ok (.goto (-31), 3) := by decide +kernel
theorem dX11_deepOf_38 : decode cX11_deepOf 38 = .ok (.iload_n 2, 1) := by decide +kernel
theorem dX11_deepOf_39 : decode cX11_deepOf 39 = .ok (.ireturn, 1) := by decide +kernel
set_option maxRecDepth 10000 in
set_option maxHeartbeats 4000000 in
theorem A_X11_deepOf_4 {Z : az_Z} {d : Nat} (C : az_C Z yX11_deepOf cX11_deepOf 4 (some .int) d) (hD : 4 ≤ d) (n : Nat) (k : Nat) : ∀ {σ : az_Hp} {v0 v1 v2 v3 : Int} {r : Int}, fz_X11_deepOf_4 n k σ v0 v1 v2 v3 = some r → az_AW Z 4 4 [(13, v0), (0, v1), (0, v2), (0, v3)] [] σ (some (0, r), σ) := by
  have hd1 : 1 ≤ d := by omega
  induction k with
  | zero => intro σ v0 v1 v2 v3 r h; simp [fz_X11_deepOf_4] at h
  | succ k ih =>
    intro σ v0 v1 v2 v3 r h
    unfold fz_X11_deepOf_4 at h
    refine az_il3 (pc := 4) C dX11_deepOf_4 ?_
    refine az_il1 (pc := 5) C dX11_deepOf_5 ?_
    refine az_icmp_ge (pc := 6) (tgt := 38) C h dX11_deepOf_6 (by decide) (fun _ h => ?_) (fun _ h => ?_)
    · refine az_il2 (pc := 38) C dX11_deepOf_38 ?_
      obtain rfl := Option.some.inj h
      exact az_ireturn (pc := 39) C dX11_deepOf_39 rfl
    refine az_il2 (pc := 9) C dX11_deepOf_9 ?_
    refine az_il3 (pc := 10) C dX11_deepOf_10 ?_
    refine az_al0 (pc := 11) C rfl rfl dX11_deepOf_11 ?_
    refine az_al0 (pc := 12) C rfl rfl dX11_deepOf_12 ?_
    refine az_getR (pc := 13) (c2 := 13) C h fl_X11_138 rfl rfl dX11_deepOf_13 (fun h => ?_)
    refine az_il3 (pc := 16) C dX11_deepOf_16 ?_
    refine az_cV2pi (pc := 17) (c := 11) C hd1 h mv_X11_sizeAt ml_X11_416 rfl (fun x hx => A_X11_sizeAt (by omega) n hx) dX11_deepOf_17 (fun r2 h => ?_)
    refine az_iadd (pc := 20) C dX11_deepOf_20 ?_
    refine az_il1 (pc := 21) C dX11_deepOf_21 ?_
    refine az_icmp_le (pc := 22) (tgt := 29) C h dX11_deepOf_22 (by decide) (fun _ h => ?_) (fun _ h => ?_)
    · refine az_ik0 (pc := 29) C dX11_deepOf_29 ?_
      refine az_iadd (pc := 30) C dX11_deepOf_30 ?_
      refine az_is2 (pc := 31) C rfl rfl dX11_deepOf_31 ?_
      refine az_ii3 (pc := 32) C az_n1 rfl rfl dX11_deepOf_32 ?_
      refine az_goto (pc := 35) (tgt := 4) C dX11_deepOf_35 (by decide) ?_
      exact (ih h)
    refine az_ik1 (pc := 25) C dX11_deepOf_25 ?_
    refine az_goto (pc := 26) (tgt := 30) C dX11_deepOf_26 (by decide) ?_
    refine az_iadd (pc := 30) C dX11_deepOf_30 ?_
    refine az_is2 (pc := 31) C rfl rfl dX11_deepOf_31 ?_
    refine az_ii3 (pc := 32) C az_n1 rfl rfl dX11_deepOf_32 ?_
    refine az_goto (pc := 35) (tgt := 4) C dX11_deepOf_35 (by decide) ?_
    exact (ih h)
set_option maxRecDepth 10000 in
set_option maxHeartbeats 4000000 in
theorem A_X11_deepOf_e {Z : az_Z} {d : Nat} (C : az_C Z yX11_deepOf cX11_deepOf 4 (some .int) d) (hD : 4 ≤ d) (n : Nat) {σ : az_Hp} {v0 v1 : Int} {r : Int} (h : fz_X11_deepOf n σ v0 v1 = some r) : az_AW Z 4 0 [(13, v0), (0, v1), (31, 0), (31, 0)] [] σ (some (0, r), σ) := by
  have hd1 : 1 ≤ d := by omega
  unfold fz_X11_deepOf at h
  refine az_ik0 (pc := 0) C dX11_deepOf_0 ?_
  refine az_is2 (pc := 1) C rfl rfl dX11_deepOf_1 ?_
  refine az_ik0 (pc := 2) C dX11_deepOf_2 ?_
  refine az_is3 (pc := 3) C rfl rfl dX11_deepOf_3 ?_
  exact (A_X11_deepOf_4 C hD n n h)
set_option maxRecDepth 10000 in
set_option maxHeartbeats 4000000 in
theorem A_X11_deepOf {l : Launch} {d : Nat} (hD : 4 ≤ d) (n : Nat) {σ : az_Hp} {v0 v1 : Int} {r : Int} (h : fz_X11_deepOf n σ v0 v1 = some r) : az_AC l yX11_deepOf cX11_deepOf 4 (some .int) d [(13, v0), (0, v1)] σ (some (0, r), σ) := az_AC.of mt_X11_deepOf rfl rfl rfl (fun Z hZ C => A_X11_deepOf_e C hD n h)
theorem dX11_fits_0 : decode cX11_fits 0 = .ok (.iconst 0, 1) := by decide +kernel
theorem dX11_fits_1 : decode cX11_fits 1 = .ok (.istore 4, 2) := by decide +kernel
theorem dX11_fits_3 : decode cX11_fits 3 = .ok (.iload 4, 2) := by decide +kernel
theorem dX11_fits_5 : decode cX11_fits 5 = .ok (.bipush 6, 2) := by decide +kernel
theorem dX11_fits_7 : decode cX11_fits 7 = .ok (.if_icmp .ge 17, 3) := by decide +kernel
theorem dX11_fits_10 : decode cX11_fits 10 = .ok (.aload_n 0, 1) := by decide +kernel
theorem dX11_fits_11 : decode cX11_fits 11 = .ok (.getfield 123, 3) := by decide +kernel
theorem dX11_fits_14 : decode cX11_fits 14 = .ok (.iload 4, 2) := by decide +kernel
theorem dX11_fits_16 : decode cX11_fits 16 = .ok (.iconst 0, 1) := by decide +kernel
theorem dX11_fits_17 : decode cX11_fits 17 = .ok (.iastore, 1) := by decide +kernel
theorem dX11_fits_18 : decode cX11_fits 18 = .ok (.iinc 4 1, 3) := by decide +kernel
theorem dX11_fits_21 : decode cX11_fits 21 = .ok (.goto (-18), 3) := by decide +kernel
theorem dX11_fits_24 : decode cX11_fits 24 = .ok (.iload_n 3, 1) := by decide +kernel
theorem dX11_fits_25 : decode cX11_fits 25 = .ok (.istore 4, 2) := by decide +kernel
theorem dX11_fits_27 : decode cX11_fits 27 = .ok (.bipush 16, 2) := by decide +kernel
theorem dX11_fits_29 : decode cX11_fits 29 = .ok (.aload_n 0, 1) := by decide +kernel
theorem dX11_fits_30 : decode cX11_fits 30 = .ok (.iload_n 1, 1) := by decide +kernel
theorem dX11_fits_31 : decode cX11_fits 31 = .ok (.invokevirtual 358, 3) := by decide +kernel
theorem dX11_fits_34 : decode cX11_fits 34 = .ok (.imul, 1) := by decide +kernel
theorem dX11_fits_35 : decode cX11_fits 35 = .ok (.istore 5, 2) := by decide +kernel
theorem dX11_fits_37 : decode cX11_fits 37 = .ok (.iconst 0, 1) := by decide +kernel
theorem dX11_fits_38 : decode cX11_fits 38 = .ok (.istore 6, 2) := by decide +kernel
theorem dX11_fits_40 : decode cX11_fits 40 = .ok (.iload 6, 2) := by decide +kernel
theorem dX11_fits_42 : decode cX11_fits 42 = .ok (.aload_n 0, 1) := by decide +kernel
theorem dX11_fits_43 : decode cX11_fits 43 = .ok (.getfield 55, 3) := by decide +kernel
theorem dX11_fits_46 : decode cX11_fits 46 = .ok (.aload_n 0, 1) := by decide +kernel
theorem dX11_fits_47 : decode cX11_fits 47 = .ok (.iload_n 1, 1) := by decide +kernel
theorem dX11_fits_48 : decode cX11_fits 48 = .ok (.invokevirtual 358, 3) := by decide +kernel
theorem dX11_fits_51 : decode cX11_fits 51 = .ok (.iaload, 1) := by decide +kernel
theorem dX11_fits_52 : decode cX11_fits 52 = .ok (.if_icmp .ge 131, 3) := by decide +kernel
theorem dX11_fits_55 : decode cX11_fits 55 = .ok (.aload_n 0, 1) := by decide +kernel
theorem dX11_fits_56 : decode cX11_fits 56 = .ok (.getfield 49, 3) := by decide +kernel
theorem dX11_fits_59 : decode cX11_fits 59 = .ok (.iload 5, 2) := by decide +kernel
theorem dX11_fits_61 : decode cX11_fits 61 = .ok (.iload 6, 2) := by decide +kernel
theorem dX11_fits_63 : decode cX11_fits 63 = .ok (.iadd, 1) := by decide +kernel
theorem dX11_fits_64 : decode cX11_fits 64 = .ok (.iaload, 1) := by decide +kernel
theorem dX11_fits_65 : decode cX11_fits 65 = .ok (.istore 7, 2) := by decide +kernel
theorem dX11_fits_67 : decode cX11_fits 67 = .ok (.iload 7, 2) := by decide +kernel
theorem dX11_fits_69 : decode cX11_fits 69 = .ok (.invokestatic 288, 3) := by decide +kernel
theorem dX11_fits_72 : decode cX11_fits 72 = .ok (.ifCond .ne 20, 3) := by decide +kernel
theorem dX11_fits_75 : decode cX11_fits 75 = .ok (.aload_n 2, 1) := by decide +kernel
theorem dX11_fits_76 : decode cX11_fits 76 = .ok (.iload 4, 2) := by decide +kernel
theorem dX11_fits_78 : decode cX11_fits 78 = .ok (.iaload, 1) := by decide +kernel
theorem dX11_fits_79 : decode cX11_fits 79 = .ok (.iload 7, 2) := by decide +kernel
theorem dX11_fits_81 : decode cX11_fits 81 = .ok (.if_icmp .eq 5, 3) := by decide +kernel
theorem dX11_fits_84 : decode cX11_fits 84 = .ok (.iconst 0, 1) := by decide +kernel
theorem dX11_fits_85 : decode cX11_fits 85 = .ok (.ireturn, 1) := by decide +kernel
theorem dX11_fits_86 : decode cX11_fits 86 = .ok (.iinc 4 1, 3) := by decide +kernel
theorem dX11_fits_89 : decode cX11_fits 89 = .ok (.goto 88, 3) := by decide +kernel
theorem dX11_fits_92 : decode cX11_fits 92 = .ok (.iload 7, 2) := by decide +kernel
theorem dX11_fits_94 : decode cX11_fits 94 = .ok (.sipush 1000, 3) := by decide +kernel
theorem dX11_fits_97 : decode cX11_fits 97 = .ok (.isub, 1) := by decide +kernel
theorem dX11_fits_98 : decode cX11_fits 98 = .ok (.istore 8, 2) := by decide +kernel
theorem dX11_fits_100 : decode cX11_fits 100 = .ok (.aload_n 0, 1) := by decide +kernel
theorem dX11_fits_101 : decode cX11_fits 101 = .ok (.aload_n 2, 1) := by decide +kernel
theorem dX11_fits_102 : decode cX11_fits 102 = .ok (.iload 4, 2) := by decide +kernel
theorem dX11_fits_104 : decode cX11_fits 104 = .ok (.invokevirtual 416, 3) := by decide +kernel
theorem dX11_fits_107 : decode cX11_fits 107 = .ok (.istore 9, 2) := by decide +kernel
theorem dX11_fits_109 : decode cX11_fits 109 = .ok (.aload_n 0, 1) := by decide +kernel
theorem dX11_fits_110 : decode cX11_fits 110 = .ok (.getfield 123, 3) := by decide +kernel
theorem dX11_fits_113 : decode cX11_fits 113 = .ok (.iload 8, 2) := by decide +kernel
theorem dX11_fits_115 : decode cX11_fits 115 = .ok (.iaload, 1) := by decide +kernel
theorem dX11_fits_116 : decode cX11_fits 116 = .ok (.ifCond .le 36, 3) := by decide +kernel
theorem dX11_fits_119 : decode cX11_fits 119 = .ok (.aload_n 0, 1) := by decide +kernel
theorem dX11_fits_120 : decode cX11_fits 120 = .ok (.getfield 123, 3) := by decide +kernel
theorem dX11_fits_123 : decode cX11_fits 123 = .ok (.iload 8, 2) := by decide +kernel
theorem dX11_fits_125 : decode cX11_fits 125 = .ok (.iaload, 1) := by decide +kernel
theorem dX11_fits_126 : decode cX11_fits 126 = .ok (.iload 9, 2) := by decide +kernel
theorem dX11_fits_128 : decode cX11_fits 128 = .ok (.if_icmp .ne 22, 3) := by decide +kernel
theorem dX11_fits_131 : decode cX11_fits 131 = .ok (.aload_n 2, 1) := by decide +kernel
theorem dX11_fits_132 : decode cX11_fits 132 = .ok (.iload 4, 2) := by decide +kernel
theorem dX11_fits_134 : decode cX11_fits 134 = .ok (.aload_n 2, 1) := by decide +kernel
theorem dX11_fits_135 : decode cX11_fits 135 = .ok (.aload_n 0, 1) := by decide +kernel
theorem dX11_fits_136 : decode cX11_fits 136 = .ok (.getfield 120, 3) := by decide +kernel
theorem dX11_fits_139 : decode cX11_fits 139 = .ok (.iload 8, 2) := by decide +kernel
theorem dX11_fits_141 : decode cX11_fits 141 = .ok (.iaload, 1) := by decide +kernel
theorem dX11_fits_142 : decode cX11_fits 142 = .ok (.iload 9, 2) := by decide +kernel
theorem dX11_fits_144 : decode cX11_fits 144 = .ok (.invokestatic 420, 3) := by decide +kernel
theorem dX11_fits_147 : decode cX11_fits 147 = .ok (.ifCond .ne 5, 3) := by decide +kernel
theorem dX11_fits_150 : decode cX11_fits 150 = .ok (.iconst 0, 1) := by decide +kernel
theorem dX11_fits_151 : decode cX11_fits 151 = .ok (.ireturn, 1) := by decide +kernel
theorem dX11_fits_152 : decode cX11_fits 152 = .ok (.aload_n 0, 1) := by decide +kernel
theorem dX11_fits_153 : decode cX11_fits 153 = .ok (.getfield 120, 3) := by decide +kernel
theorem dX11_fits_156 : decode cX11_fits 156 = .ok (.iload 8, 2) := by decide +kernel
theorem dX11_fits_158 : decode cX11_fits 158 = .ok (.iload 4, 2) := by decide +kernel
theorem dX11_fits_160 : decode cX11_fits 160 = .ok (.iastore, 1) := by decide +kernel
theorem dX11_fits_161 : decode cX11_fits 161 = .ok (.aload_n 0, 1) := by decide +kernel
theorem dX11_fits_162 : decode cX11_fits 162 = .ok (.getfield 123, 3) := by decide +kernel
theorem dX11_fits_165 : decode cX11_fits 165 = .ok (.iload 8, 2) := by decide +kernel
theorem dX11_fits_167 : decode cX11_fits 167 = .ok (.iload 9, 2) := by decide +kernel
theorem dX11_fits_169 : decode cX11_fits 169 = .ok (.iastore, 1) := by decide +kernel
theorem dX11_fits_170 : decode cX11_fits 170 = .ok (.iload 4, 2) := by decide +kernel
theorem dX11_fits_172 : decode cX11_fits 172 = .ok (.iload 9, 2) := by decide +kernel
theorem dX11_fits_174 : decode cX11_fits 174 = .ok (.iadd, 1) := by decide +kernel
theorem dX11_fits_175 : decode cX11_fits 175 = .ok (.istore 4, 2) := by decide +kernel
theorem dX11_fits_177 : decode cX11_fits 177 = .ok (.iinc 6 1, 3) := by decide +kernel
theorem dX11_fits_180 : decode cX11_fits 180 = .ok (.goto (-140), 3) := by decide +kernel
theorem dX11_fits_183 : decode cX11_fits 183 = .ok (.iconst 1, 1) := by decide +kernel
theorem dX11_fits_184 : decode cX11_fits 184 = .ok (.ireturn, 1) := by decide +kernel
set_option maxRecDepth 10000 in
set_option maxHeartbeats 4000000 in
theorem A_X11_fits_152 {Z : az_Z} {d : Nat} (C : az_C Z yX11_fits cX11_fits 10 (some .boolean) d) (hD : 4 ≤ d) (n : Nat) {k40 : az_Hp → Int → Int → Int → Int → Int → Int → Option (Int × az_Hp)} (hk40 : ∀ {σ : az_Hp} {v0 v1 v2 v4 v5 v6 : Int} {r : (Int × az_Hp)}, k40 σ v0 v1 v2 v4 v5 v6 = some r → az_AW Z 10 40 [(13, v0), (0, v1), (15, v2), (31, 0), (0, v4), (0, v5), (0, v6), (31, 0), (31, 0), (31, 0)] [] σ (some (0, r.1), r.2)) {σ : az_Hp} {v0 v1 v2 v4 v5 v6 v8 v9 : Int} {r : (Int × az_Hp)} (h : fz_X11_fits_152 n k40 σ v0 v1 v2 v4 v5 v6 v8 v9 = some r) : az_AW Z 10 152 [(13, v0), (0, v1), (15, v2), (31, 0), (0, v4), (0, v5), (0, v6), (31, 0), (0, v8), (0, v9)] [] σ (some (0, r.1), r.2) := by
  have hd1 : 1 ≤ d := by omega
  unfold fz_X11_fits_152 at h
  refine az_al0 (pc := 152) C rfl rfl dX11_fits_152 ?_
  refine az_getR (pc := 153) (c2 := 13) C h fl_X11_120 rfl rfl dX11_fits_153 (fun h => ?_)
  refine az_il8 (pc := 156) C dX11_fits_156 ?_
  refine az_il4 (pc := 158) C dX11_fits_158 ?_
  refine az_iastore (pc := 160) C h dX11_fits_160 (fun h => ?_)
  refine az_al0 (pc := 161) C rfl rfl dX11_fits_161 ?_
  refine az_getR (pc := 162) (c2 := 13) C h fl_X11_123 rfl rfl dX11_fits_162 (fun h => ?_)
  refine az_il8 (pc := 165) C dX11_fits_165 ?_
  refine az_il9 (pc := 167) C dX11_fits_167 ?_
  refine az_iastore (pc := 169) C h dX11_fits_169 (fun h => ?_)
  refine az_il4 (pc := 170) C dX11_fits_170 ?_
  refine az_il9 (pc := 172) C dX11_fits_172 ?_
  refine az_iadd (pc := 174) C dX11_fits_174 ?_
  refine az_is4 (pc := 175) C rfl rfl dX11_fits_175 ?_
  refine az_ii6 (pc := 177) C az_n1 rfl rfl dX11_fits_177 ?_
  refine az_goto (pc := 180) (tgt := 40) C dX11_fits_180 (by decide) ?_
  exact (az_wkk (hk40 h) (az_sE (az_sE (az_sE (az_sJ (az_sE (az_sE (az_sE (az_sJ (az_sJ (az_sJ az_sN)))))))))))
set_option maxRecDepth 10000 in
set_option maxHeartbeats 4000000 in
theorem A_X11_fits_40 {Z : az_Z} {d : Nat} (C : az_C Z yX11_fits cX11_fits 10 (some .boolean) d) (hD : 4 ≤ d) (n : Nat) (k : Nat) : ∀ {σ : az_Hp} {v0 v1 v2 v4 v5 v6 : Int} {r : (Int × az_Hp)}, fz_X11_fits_40 n k σ v0 v1 v2 v4 v5 v6 = some r → az_AW Z 10 40 [(13, v0), (0, v1), (15, v2), (31, 0), (0, v4), (0, v5), (0, v6), (31, 0), (31, 0), (31, 0)] [] σ (some (0, r.1), r.2) := by
  have hd1 : 1 ≤ d := by omega
  induction k with
  | zero => intro σ v0 v1 v2 v4 v5 v6 r h; simp [fz_X11_fits_40] at h
  | succ k ih =>
    intro σ v0 v1 v2 v4 v5 v6 r h
    unfold fz_X11_fits_40 at h
    refine az_il6 (pc := 40) C dX11_fits_40 ?_
    refine az_al0 (pc := 42) C rfl rfl dX11_fits_42 ?_
    refine az_getR (pc := 43) (c2 := 13) C h fl_X11_55 rfl rfl dX11_fits_43 (fun h => ?_)
    refine az_al0 (pc := 46) C rfl rfl dX11_fits_46 ?_
    refine az_il1 (pc := 47) C dX11_fits_47 ?_
    refine az_cV1pi (pc := 48) (c := 11) C hd1 h mv_X11_eqAt ml_X11_358 rfl (fun x hx => A_X11_eqAt (by omega) hx) dX11_fits_48 (fun r2 h => ?_)
    refine az_iaload (pc := 51) C h dX11_fits_51 (fun h => ?_)
    refine az_icmp_ge (pc := 52) (tgt := 183) C h dX11_fits_52 (by decide) (fun _ h => ?_) (fun _ h => ?_)
    · refine az_ik1 (pc := 183) C dX11_fits_183 ?_
      obtain rfl := Option.some.inj h
      exact az_zreturn (pc := 184) C (by decide) dX11_fits_184 rfl
    refine az_al0 (pc := 55) C rfl rfl dX11_fits_55 ?_
    refine az_getR (pc := 56) (c2 := 13) C h fl_X11_49 rfl rfl dX11_fits_56 (fun h => ?_)
    refine az_il5 (pc := 59) C dX11_fits_59 ?_
    refine az_il6 (pc := 61) C dX11_fits_61 ?_
    refine az_iadd (pc := 63) C dX11_fits_63 ?_
    refine az_iaload (pc := 64) C h dX11_fits_64 (fun h => ?_)
    refine az_is7 (pc := 65) C rfl rfl dX11_fits_65 ?_
    refine az_il7 (pc := 67) C dX11_fits_67 ?_
    refine az_cS1pi (pc := 69) C hd1 h ms_X11_isVar ml_X11_288 rfl (fun x hx => A_X11_isVar (by omega) hx) dX11_fits_69 (fun r6 h => ?_)
    refine az_if_ne (pc := 72) (tgt := 92) C h dX11_fits_72 (by decide) (fun _ h => ?_) (fun _ h => ?_)
    · refine az_il7 (pc := 92) C dX11_fits_92 ?_
      refine az_sk1000 (pc := 94) C dX11_fits_94 ?_
      refine az_isub (pc := 97) C dX11_fits_97 ?_
      refine az_is8 (pc := 98) C rfl rfl dX11_fits_98 ?_
      refine az_al0 (pc := 100) C rfl rfl dX11_fits_100 ?_
      refine az_al2 (pc := 101) C rfl rfl dX11_fits_101 ?_
      refine az_il4 (pc := 102) C dX11_fits_102 ?_
      refine az_cV2pi (pc := 104) (c := 11) C hd1 h mv_X11_sizeAt ml_X11_416 rfl (fun x hx => A_X11_sizeAt (by omega) n hx) dX11_fits_104 (fun r7 h => ?_)
      refine az_is9 (pc := 107) C rfl rfl dX11_fits_107 ?_
      refine az_al0 (pc := 109) C rfl rfl dX11_fits_109 ?_
      refine az_getR (pc := 110) (c2 := 13) C h fl_X11_123 rfl rfl dX11_fits_110 (fun h => ?_)
      refine az_il8 (pc := 113) C dX11_fits_113 ?_
      refine az_iaload (pc := 115) C h dX11_fits_115 (fun h => ?_)
      refine az_if_le (pc := 116) (tgt := 152) C h dX11_fits_116 (by decide) (fun _ h => ?_) (fun _ h => ?_)
      · exact (az_wkk (A_X11_fits_152 C hD n (fun h => ih h) h) (az_sE (az_sE (az_sE (az_sJ (az_sE (az_sE (az_sE (az_sJ (az_sE (az_sE az_sN)))))))))))
      refine az_al0 (pc := 119) C rfl rfl dX11_fits_119 ?_
      refine az_getR (pc := 120) (c2 := 13) C h fl_X11_123 rfl rfl dX11_fits_120 (fun h => ?_)
      refine az_il8 (pc := 123) C dX11_fits_123 ?_
      refine az_iaload (pc := 125) C h dX11_fits_125 (fun h => ?_)
      refine az_il9 (pc := 126) C dX11_fits_126 ?_
      refine az_icmp_ne (pc := 128) (tgt := 150) C h dX11_fits_128 (by decide) (fun _ h => ?_) (fun _ h => ?_)
      · refine az_ik0 (pc := 150) C dX11_fits_150 ?_
        obtain rfl := Option.some.inj h
        exact az_zreturn (pc := 151) C (by decide) dX11_fits_151 rfl
      refine az_al2 (pc := 131) C rfl rfl dX11_fits_131 ?_
      refine az_il4 (pc := 132) C dX11_fits_132 ?_
      refine az_al2 (pc := 134) C rfl rfl dX11_fits_134 ?_
      refine az_al0 (pc := 135) C rfl rfl dX11_fits_135 ?_
      refine az_getR (pc := 136) (c2 := 13) C h fl_X11_120 rfl rfl dX11_fits_136 (fun h => ?_)
      refine az_il8 (pc := 139) C dX11_fits_139 ?_
      refine az_iaload (pc := 141) C h dX11_fits_141 (fun h => ?_)
      refine az_il9 (pc := 142) C dX11_fits_142 ?_
      refine az_cS5pi (pc := 144) C hd1 h ms_X11_isSame ml_X11_420 rfl (fun x hx => A_X11_isSame (by omega) n hx) dX11_fits_144 (fun r14 h => ?_)
      refine az_if_ne (pc := 147) (tgt := 152) C h dX11_fits_147 (by decide) (fun _ h => ?_) (fun _ h => ?_)
      · exact (az_wkk (A_X11_fits_152 C hD n (fun h => ih h) h) (az_sE (az_sE (az_sE (az_sJ (az_sE (az_sE (az_sE (az_sJ (az_sE (az_sE az_sN)))))))))))
      refine az_ik0 (pc := 150) C dX11_fits_150 ?_
      obtain rfl := Option.some.inj h
      exact az_zreturn (pc := 151) C (by decide) dX11_fits_151 rfl
    refine az_al2 (pc := 75) C rfl rfl dX11_fits_75 ?_
    refine az_il4 (pc := 76) C dX11_fits_76 ?_
    refine az_iaload (pc := 78) C h dX11_fits_78 (fun h => ?_)
    refine az_il7 (pc := 79) C dX11_fits_79 ?_
    refine az_icmp_eq (pc := 81) (tgt := 86) C h dX11_fits_81 (by decide) (fun _ h => ?_) (fun _ h => ?_)
    · refine az_ii4 (pc := 86) C az_n1 rfl rfl dX11_fits_86 ?_
      refine az_goto (pc := 89) (tgt := 177) C dX11_fits_89 (by decide) ?_
      refine az_ii6 (pc := 177) C az_n1 rfl rfl dX11_fits_177 ?_
      refine az_goto (pc := 180) (tgt := 40) C dX11_fits_180 (by decide) ?_
      exact (az_wkk (ih h) (az_sE (az_sE (az_sE (az_sJ (az_sE (az_sE (az_sE (az_sJ (az_sJ (az_sJ az_sN)))))))))))
    refine az_ik0 (pc := 84) C dX11_fits_84 ?_
    obtain rfl := Option.some.inj h
    exact az_zreturn (pc := 85) C (by decide) dX11_fits_85 rfl
set_option maxRecDepth 10000 in
set_option maxHeartbeats 4000000 in
theorem A_X11_fits_3 {Z : az_Z} {d : Nat} (C : az_C Z yX11_fits cX11_fits 10 (some .boolean) d) (hD : 4 ≤ d) (n : Nat) (k : Nat) : ∀ {σ : az_Hp} {v0 v1 v2 v3 v4 : Int} {r : (Int × az_Hp)}, fz_X11_fits_3 n k σ v0 v1 v2 v3 v4 = some r → az_AW Z 10 3 [(13, v0), (0, v1), (15, v2), (0, v3), (0, v4), (31, 0), (31, 0), (31, 0), (31, 0), (31, 0)] [] σ (some (0, r.1), r.2) := by
  have hd1 : 1 ≤ d := by omega
  induction k with
  | zero => intro σ v0 v1 v2 v3 v4 r h; simp [fz_X11_fits_3] at h
  | succ k ih =>
    intro σ v0 v1 v2 v3 v4 r h
    unfold fz_X11_fits_3 at h
    refine az_il4 (pc := 3) C dX11_fits_3 ?_
    refine az_bk6 (pc := 5) C dX11_fits_5 ?_
    refine az_icmp_ge (pc := 7) (tgt := 24) C h dX11_fits_7 (by decide) (fun _ h => ?_) (fun _ h => ?_)
    · refine az_il3 (pc := 24) C dX11_fits_24 ?_
      refine az_is4 (pc := 25) C rfl rfl dX11_fits_25 ?_
      refine az_bk16 (pc := 27) C dX11_fits_27 ?_
      refine az_al0 (pc := 29) C rfl rfl dX11_fits_29 ?_
      refine az_il1 (pc := 30) C dX11_fits_30 ?_
      refine az_cV1pi (pc := 31) (c := 11) C hd1 h mv_X11_eqAt ml_X11_358 rfl (fun x hx => A_X11_eqAt (by omega) hx) dX11_fits_31 (fun r1 h => ?_)
      refine az_imul (pc := 34) C dX11_fits_34 ?_
      refine az_is5 (pc := 35) C rfl rfl dX11_fits_35 ?_
      refine az_ik0 (pc := 37) C dX11_fits_37 ?_
      refine az_is6 (pc := 38) C rfl rfl dX11_fits_38 ?_
      exact (az_wkk (A_X11_fits_40 C hD n n h) (az_sE (az_sE (az_sE (az_sJ (az_sE (az_sE (az_sE (az_sJ (az_sJ (az_sJ az_sN)))))))))))
    refine az_al0 (pc := 10) C rfl rfl dX11_fits_10 ?_
    refine az_getR (pc := 11) (c2 := 13) C h fl_X11_123 rfl rfl dX11_fits_11 (fun h => ?_)
    refine az_il4 (pc := 14) C dX11_fits_14 ?_
    refine az_ik0 (pc := 16) C dX11_fits_16 ?_
    refine az_iastore (pc := 17) C h dX11_fits_17 (fun h => ?_)
    refine az_ii4 (pc := 18) C az_n1 rfl rfl dX11_fits_18 ?_
    refine az_goto (pc := 21) (tgt := 3) C dX11_fits_21 (by decide) ?_
    exact (ih h)
set_option maxRecDepth 10000 in
set_option maxHeartbeats 4000000 in
theorem A_X11_fits_e {Z : az_Z} {d : Nat} (C : az_C Z yX11_fits cX11_fits 10 (some .boolean) d) (hD : 4 ≤ d) (n : Nat) {σ : az_Hp} {v0 v1 v2 v3 : Int} {r : (Int × az_Hp)} (h : fz_X11_fits n σ v0 v1 v2 v3 = some r) : az_AW Z 10 0 [(13, v0), (0, v1), (15, v2), (0, v3), (31, 0), (31, 0), (31, 0), (31, 0), (31, 0), (31, 0)] [] σ (some (0, r.1), r.2) := by
  have hd1 : 1 ≤ d := by omega
  unfold fz_X11_fits at h
  refine az_ik0 (pc := 0) C dX11_fits_0 ?_
  refine az_is4 (pc := 1) C rfl rfl dX11_fits_1 ?_
  exact (A_X11_fits_3 C hD n n h)
set_option maxRecDepth 10000 in
set_option maxHeartbeats 4000000 in
theorem A_X11_fits {l : Launch} {d : Nat} (hD : 4 ≤ d) (n : Nat) {σ : az_Hp} {v0 v1 v2 v3 : Int} {r : (Int × az_Hp)} (h : fz_X11_fits n σ v0 v1 v2 v3 = some r) : az_AC l yX11_fits cX11_fits 10 (some .boolean) d [(13, v0), (0, v1), (15, v2), (0, v3)] σ (some (0, r.1), r.2) := az_AC.of mt_X11_fits rfl rfl rfl (fun Z hZ C => A_X11_fits_e C hD n h)
theorem dX11_builtFlat_0 : decode cX11_builtFlat 0 = .ok (.aload_n 0, 1) := by decide +kernel
theorem dX11_builtFlat_1 : decode cX11_builtFlat 1 = .ok (.iload_n 2, 1) := by decide +kernel
theorem dX11_builtFlat_2 : decode cX11_builtFlat 2 = .ok (.iconst 1, 1) := by decide +kernel
theorem dX11_builtFlat_3 : decode cX11_builtFlat 3 = .ok (.iadd, 1) := by decide +kernel
theorem dX11_builtFlat_4 : decode cX11_builtFlat 4 = .ok (.putfield 424, 3) := by decide +kernel
theorem dX11_builtFlat_7 : decode cX11_builtFlat 7 = .ok (.aload_n 0, 1) := by decide +kernel
theorem dX11_builtFlat_8 : decode cX11_builtFlat 8 = .ok (.aload_n 1, 1) := by decide +kernel
theorem dX11_builtFlat_9 : decode cX11_builtFlat 9 = .ok (.iload_n 2, 1) := by decide +kernel
theorem dX11_builtFlat_10 : decode cX11_builtFlat 10 = .ok (.iaload, 1) := by decide +kernel
theorem dX11_builtFlat_11 : decode cX11_builtFlat 11 = .ok (.invokevirtual 413, 3) := by decide +kernel
theorem dX11_builtFlat_14 : decode cX11_builtFlat 14 = .ok (.istore 4, 2) := by decide +kernel
theorem dX11_builtFlat_16 : decode cX11_builtFlat 16 = .ok (.iconst 0, 1) := by decide +kernel
theorem dX11_builtFlat_17 : decode cX11_builtFlat 17 = .ok (.istore 5, 2) := by decide +kernel
theorem dX11_builtFlat_19 : decode cX11_builtFlat 19 = .ok (.iload 5, 2) := by decide +kernel
theorem dX11_builtFlat_21 : decode cX11_builtFlat 21 = .ok (.aload_n 0, 1) := by decide +kernel
theorem dX11_builtFlat_22 : decode cX11_builtFlat 22 = .ok (.aload_n 1, 1) := by decide +kernel
theorem dX11_builtFlat_23 : decode cX11_builtFlat 23 = .ok (.iload_n 2, 1) := by decide +kernel
theorem dX11_builtFlat_24 : decode cX11_builtFlat 24 = .ok (.iaload, 1) := by decide +kernel
theorem dX11_builtFlat_25 : decode cX11_builtFlat 25 = .ok (.invokevirtual 336, 3) := by decide +kernel
theorem dX11_builtFlat_28 : decode cX11_builtFlat 28 = .ok (.if_icmp .ge 28, 3) := by decide +kernel
theorem dX11_builtFlat_31 : decode cX11_builtFlat 31 = .ok (.aload_n 0, 1) := by decide +kernel
theorem dX11_builtFlat_32 : decode cX11_builtFlat 32 = .ok (.getfield 76, 3) := by decide +kernel
theorem dX11_builtFlat_35 : decode cX11_builtFlat 35 = .ok (.iconst 3, 1) := by decide +kernel
theorem dX11_builtFlat_36 : decode cX11_builtFlat 36 = .ok (.iload 4, 2) := by decide +kernel
theorem dX11_builtFlat_38 : decode cX11_builtFlat 38 = .ok (.imul, 1) := by decide +kernel
theorem dX11_builtFlat_39 : decode cX11_builtFlat 39 = .ok (.iload 5, 2) := by decide +kernel
theorem dX11_builtFlat_41 : decode cX11_builtFlat 41 = .ok (.iadd, 1) := by decide +kernel
theorem dX11_builtFlat_42 : decode cX11_builtFlat 42 = .ok (.aload_n 0, 1) := by decide +kernel
theorem dX11_builtFlat_43 : decode cX11_builtFlat 43 = .ok (.aload_n 1, 1) := by decide +kernel
theorem dX11_builtFlat_44 : decode cX11_builtFlat 44 = .ok (.iload_n 3, 1) := by decide +kernel
theorem dX11_builtFlat_45 : decode cX11_builtFlat 45 = .ok (.iconst 1, 1) := by decide +kernel
theorem dX11_builtFlat_46 : decode cX11_builtFlat 46 = .ok (.invokevirtual 434, 3) := by decide +kernel
theorem dX11_builtFlat_49 : decode cX11_builtFlat 49 = .ok (.iastore, 1) := by decide +kernel
theorem dX11_builtFlat_50 : decode cX11_builtFlat 50 = .ok (.iinc 5 1, 3) := by decide +kernel
theorem dX11_builtFlat_53 : decode cX11_builtFlat 53 = .ok (.goto (-34), 3) := by decide +kernel
theorem dX11_builtFlat_56 : decode cX11_builtFlat 56 = .ok (.iload 4, 2) := by decide +kernel
theorem dX11_builtFlat_58 : decode cX11_builtFlat 58 = .ok (.ireturn, 1) := by decide +kernel
set_option maxRecDepth 10000 in
set_option maxHeartbeats 4000000 in
theorem A_X11_builtFlat_19 {Z : az_Z} {d : Nat} (C : az_C Z yX11_builtFlat cX11_builtFlat 6 (some .int) d) (hD : 206 ≤ d) (n : Nat) (k : Nat) : ∀ {σ : az_Hp} {v0 v1 v2 v3 v4 v5 : Int} {r : (Int × az_Hp)}, fz_X11_builtFlat_19 n k σ v0 v1 v2 v3 v4 v5 = some r → az_AW Z 6 19 [(13, v0), (15, v1), (0, v2), (0, v3), (0, v4), (0, v5)] [] σ (some (0, r.1), r.2) := by
  have hd1 : 1 ≤ d := by omega
  induction k with
  | zero => intro σ v0 v1 v2 v3 v4 v5 r h; simp [fz_X11_builtFlat_19] at h
  | succ k ih =>
    intro σ v0 v1 v2 v3 v4 v5 r h
    unfold fz_X11_builtFlat_19 at h
    refine az_il5 (pc := 19) C dX11_builtFlat_19 ?_
    refine az_al0 (pc := 21) C rfl rfl dX11_builtFlat_21 ?_
    refine az_al1 (pc := 22) C rfl rfl dX11_builtFlat_22 ?_
    refine az_il2 (pc := 23) C dX11_builtFlat_23 ?_
    refine az_iaload (pc := 24) C h dX11_builtFlat_24 (fun h => ?_)
    refine az_cV1pi (pc := 25) (c := 11) C hd1 h mv_X11_takes ml_X11_336 rfl (fun x hx => A_X11_takes (by omega) hx) dX11_builtFlat_25 (fun r2 h => ?_)
    refine az_icmp_ge (pc := 28) (tgt := 56) C h dX11_builtFlat_28 (by decide) (fun _ h => ?_) (fun _ h => ?_)
    · refine az_il4 (pc := 56) C dX11_builtFlat_56 ?_
      obtain rfl := Option.some.inj h
      exact az_ireturn (pc := 58) C dX11_builtFlat_58 rfl
    refine az_al0 (pc := 31) C rfl rfl dX11_builtFlat_31 ?_
    refine az_getR (pc := 32) (c2 := 13) C h fl_X11_76 rfl rfl dX11_builtFlat_32 (fun h => ?_)
    refine az_ik3 (pc := 35) C dX11_builtFlat_35 ?_
    refine az_il4 (pc := 36) C dX11_builtFlat_36 ?_
    refine az_imul (pc := 38) C dX11_builtFlat_38 ?_
    refine az_il5 (pc := 39) C dX11_builtFlat_39 ?_
    refine az_iadd (pc := 41) C dX11_builtFlat_41 ?_
    refine az_al0 (pc := 42) C rfl rfl dX11_builtFlat_42 ?_
    refine az_al1 (pc := 43) C rfl rfl dX11_builtFlat_43 ?_
    refine az_il3 (pc := 44) C dX11_builtFlat_44 ?_
    refine az_ik1 (pc := 45) C dX11_builtFlat_45 ?_
    refine az_cV3ii (pc := 46) (c := 11) C hd1 h mv_X11_builds ml_X11_434 rfl (fun x hx => A_X11_builds n 200 (by omega) hx) dX11_builtFlat_46 (fun r4 h => ?_)
    refine az_iastore (pc := 49) C h dX11_builtFlat_49 (fun h => ?_)
    refine az_ii5 (pc := 50) C az_n1 rfl rfl dX11_builtFlat_50 ?_
    refine az_goto (pc := 53) (tgt := 19) C dX11_builtFlat_53 (by decide) ?_
    exact (ih h)
set_option maxRecDepth 10000 in
set_option maxHeartbeats 4000000 in
theorem A_X11_builtFlat_e {Z : az_Z} {d : Nat} (C : az_C Z yX11_builtFlat cX11_builtFlat 6 (some .int) d) (hD : 206 ≤ d) (n : Nat) {σ : az_Hp} {v0 v1 v2 v3 : Int} {r : (Int × az_Hp)} (h : fz_X11_builtFlat n σ v0 v1 v2 v3 = some r) : az_AW Z 6 0 [(13, v0), (15, v1), (0, v2), (0, v3), (31, 0), (31, 0)] [] σ (some (0, r.1), r.2) := by
  have hd1 : 1 ≤ d := by omega
  unfold fz_X11_builtFlat at h
  refine az_al0 (pc := 0) C rfl rfl dX11_builtFlat_0 ?_
  refine az_il2 (pc := 1) C dX11_builtFlat_1 ?_
  refine az_ik1 (pc := 2) C dX11_builtFlat_2 ?_
  refine az_iadd (pc := 3) C dX11_builtFlat_3 ?_
  refine az_putI (pc := 4) C fl_X11_424 (Or.inl rfl) rfl dX11_builtFlat_4 ?_
  refine az_al0 (pc := 7) C rfl rfl dX11_builtFlat_7 ?_
  refine az_al1 (pc := 8) C rfl rfl dX11_builtFlat_8 ?_
  refine az_il2 (pc := 9) C dX11_builtFlat_9 ?_
  refine az_iaload (pc := 10) C h dX11_builtFlat_10 (fun h => ?_)
  refine az_cV1ii (pc := 11) (c := 11) C hd1 h mv_X11_adds ml_X11_413 rfl (fun x hx => A_X11_adds (by omega) hx) dX11_builtFlat_11 (fun r2 h => ?_)
  refine az_is4 (pc := 14) C rfl rfl dX11_builtFlat_14 ?_
  refine az_ik0 (pc := 16) C dX11_builtFlat_16 ?_
  refine az_is5 (pc := 17) C rfl rfl dX11_builtFlat_17 ?_
  exact (A_X11_builtFlat_19 C hD n n h)
set_option maxRecDepth 10000 in
set_option maxHeartbeats 4000000 in
theorem A_X11_builtFlat {l : Launch} {d : Nat} (hD : 206 ≤ d) (n : Nat) {σ : az_Hp} {v0 v1 v2 v3 : Int} {r : (Int × az_Hp)} (h : fz_X11_builtFlat n σ v0 v1 v2 v3 = some r) : az_AC l yX11_builtFlat cX11_builtFlat 6 (some .int) d [(13, v0), (15, v1), (0, v2), (0, v3)] σ (some (0, r.1), r.2) := az_AC.of mt_X11_builtFlat rfl rfl rfl (fun Z hZ C => A_X11_builtFlat_e C hD n h)
theorem dX11_isApart_0 : decode cX11_isApart 0 = .ok (.aload_n 0, 1) := by decide +kernel
theorem dX11_isApart_1 : decode cX11_isApart 1 = .ok (.invokevirtual 455, 3) := by decide +kernel
theorem dX11_isApart_4 : decode cX11_isApart 4 = .ok (.aload_n 0, 1) := by decide +kernel
theorem dX11_isApart_5 : decode cX11_isApart 5 = .ok (.iload_n 1, 1) := by decide +kernel
theorem dX11_isApart_6 : decode cX11_isApart 6 = .ok (.iconst 0, 1) := by decide +kernel
theorem dX11_isApart_7 : decode cX11_isApart 7 = .ok (.invokevirtual 458, 3) := by decide +kernel
theorem dX11_isApart_10 : decode cX11_isApart 10 = .ok (.istore 4, 2) := by decide +kernel
theorem dX11_isApart_12 : decode cX11_isApart 12 = .ok (.aload_n 0, 1) := by decide +kernel
theorem dX11_isApart_13 : decode cX11_isApart 13 = .ok (.aload_n 2, 1) := by decide +kernel
theorem dX11_isApart_14 : decode cX11_isApart 14 = .ok (.iload_n 3, 1) := by decide +kernel
theorem dX11_isApart_15 : decode cX11_isApart 15 = .ok (.iconst 1, 1) := by decide +kernel
theorem dX11_isApart_16 : decode cX11_isApart 16 = .ok (.invokevirtual 565, 3) := by decide +kernel
theorem dX11_isApart_19 : decode cX11_isApart 19 = .ok (.istore 5, 2) := by decide +kernel
theorem dX11_isApart_21 : decode cX11_isApart 21 = .ok (.aload_n 0, 1) := by decide +kernel
theorem dX11_isApart_22 : decode cX11_isApart 22 = .ok (.iload 4, 2) := by decide +kernel
theorem dX11_isApart_24 : decode cX11_isApart 24 = .ok (.iload 5, 2) := by decide +kernel
theorem dX11_isApart_26 : decode cX11_isApart 26 = .ok (.invokevirtual 441, 3) := by decide +kernel
theorem dX11_isApart_29 : decode cX11_isApart 29 = .ok (.ifCond .ne 7, 3) := by decide +kernel
theorem dX11_isApart_32 : decode cX11_isApart 32 = .ok (.iconst 1, 1) := by decide +kernel
theorem dX11_isApart_33 : decode cX11_isApart 33 = .ok (.goto 4, 3) := by decide +kernel
theorem dX11_isApart_36 : decode cX11_isApart 36 = .ok (.iconst 0, 1) := by decide +kernel
theorem dX11_isApart_37 : decode cX11_isApart 37 = .ok (.ireturn, 1) := by decide +kernel
set_option maxRecDepth 10000 in
set_option maxHeartbeats 4000000 in
theorem A_X11_isApart_e {Z : az_Z} {d : Nat} (C : az_C Z yX11_isApart cX11_isApart 6 (some .boolean) d) (hD : 208 ≤ d) (n : Nat) {σ : az_Hp} {v0 v1 v2 v3 : Int} {r : (Int × az_Hp)} (h : fz_X11_isApart n σ v0 v1 v2 v3 = some r) : az_AW Z 6 0 [(13, v0), (0, v1), (15, v2), (0, v3), (31, 0), (31, 0)] [] σ (some (0, r.1), r.2) := by
  have hd1 : 1 ≤ d := by omega
  unfold fz_X11_isApart at h
  refine az_al0 (pc := 0) C rfl rfl dX11_isApart_0 ?_
  refine az_cV0v (pc := 1) (c := 11) C hd1 h mv_X11_clears ml_X11_455 rfl (fun x hx => A_X11_clears (by omega) hx) dX11_isApart_1 (fun r1 h => ?_)
  refine az_al0 (pc := 4) C rfl rfl dX11_isApart_4 ?_
  refine az_il1 (pc := 5) C dX11_isApart_5 ?_
  refine az_ik0 (pc := 6) C dX11_isApart_6 ?_
  refine az_cV2ii (pc := 7) (c := 11) C hd1 h mv_X11_leftNode ml_X11_458 rfl (fun x hx => A_X11_leftNode (by omega) n hx) dX11_isApart_7 (fun r2 h => ?_)
  refine az_is4 (pc := 10) C rfl rfl dX11_isApart_10 ?_
  refine az_al0 (pc := 12) C rfl rfl dX11_isApart_12 ?_
  refine az_al2 (pc := 13) C rfl rfl dX11_isApart_13 ?_
  refine az_il3 (pc := 14) C dX11_isApart_14 ?_
  refine az_ik1 (pc := 15) C dX11_isApart_15 ?_
  refine az_cV3ii (pc := 16) (c := 11) C hd1 h mv_X11_builtFlat ml_X11_565 rfl (fun x hx => A_X11_builtFlat (by omega) n hx) dX11_isApart_16 (fun r3 h => ?_)
  refine az_is5 (pc := 19) C rfl rfl dX11_isApart_19 ?_
  refine az_al0 (pc := 21) C rfl rfl dX11_isApart_21 ?_
  refine az_il4 (pc := 22) C dX11_isApart_22 ?_
  refine az_il5 (pc := 24) C dX11_isApart_24 ?_
  refine az_cV2ii (pc := 26) (c := 11) C hd1 h mv_X11_joins ml_X11_441 rfl (fun x hx => A_X11_joins n 200 (by omega) hx) dX11_isApart_26 (fun r4 h => ?_)
  refine az_if_ne (pc := 29) (tgt := 36) C h dX11_isApart_29 (by decide) (fun _ h => ?_) (fun _ h => ?_)
  · refine az_ik0 (pc := 36) C dX11_isApart_36 ?_
    obtain rfl := Option.some.inj h
    exact az_zreturn (pc := 37) C (by decide) dX11_isApart_37 rfl
  refine az_ik1 (pc := 32) C dX11_isApart_32 ?_
  refine az_goto (pc := 33) (tgt := 37) C dX11_isApart_33 (by decide) ?_
  obtain rfl := Option.some.inj h
  exact az_zreturn (pc := 37) C (by decide) dX11_isApart_37 rfl
set_option maxRecDepth 10000 in
set_option maxHeartbeats 4000000 in
theorem A_X11_isApart {l : Launch} {d : Nat} (hD : 208 ≤ d) (n : Nat) {σ : az_Hp} {v0 v1 v2 v3 : Int} {r : (Int × az_Hp)} (h : fz_X11_isApart n σ v0 v1 v2 v3 = some r) : az_AC l yX11_isApart cX11_isApart 6 (some .boolean) d [(13, v0), (0, v1), (15, v2), (0, v3)] σ (some (0, r.1), r.2) := az_AC.of mt_X11_isApart rfl rfl rfl (fun Z hZ C => A_X11_isApart_e C hD n h)
theorem dX11_mayStill_0 : decode cX11_mayStill 0 = .ok (.aload_n 0, 1) := by decide +kernel
theorem dX11_mayStill_1 : decode cX11_mayStill 1 = .ok (.getfield 42, 3) := by decide +kernel
theorem dX11_mayStill_4 : decode cX11_mayStill 4 = .ok (.iconst 5, 1) := by decide +kernel
theorem dX11_mayStill_5 : decode cX11_mayStill 5 = .ok (.aload_n 0, 1) := by decide +kernel
theorem dX11_mayStill_6 : decode cX11_mayStill 6 = .ok (.getfield 285, 3) := by decide +kernel
theorem dX11_mayStill_9 : decode cX11_mayStill 9 = .ok (.imul, 1) := by decide +kernel
theorem dX11_mayStill_10 : decode cX11_mayStill 10 = .ok (.aload_n 0, 1) := by decide +kernel
theorem dX11_mayStill_11 : decode cX11_mayStill 11 = .ok (.iload_n 1, 1) := by decide +kernel
theorem dX11_mayStill_12 : decode cX11_mayStill 12 = .ok (.invokevirtual 474, 3) := by decide +kernel
theorem dX11_mayStill_15 : decode cX11_mayStill 15 = .ok (.iadd, 1) := by decide +kernel
theorem dX11_mayStill_16 : decode cX11_mayStill 16 = .ok (.baload, 1) := by decide +kernel
theorem dX11_mayStill_17 : decode cX11_mayStill 17 = .ok (.ifCond .ne 5, 3) := by decide +kernel
theorem dX11_mayStill_20 : decode cX11_mayStill 20 = .ok (.iconst (-1), 1) := by decide +kernel
theorem dX11_mayStill_21 : decode cX11_mayStill 21 = .ok (.ireturn, 1) := by decide +kernel
theorem dX11_mayStill_22 : decode cX11_mayStill 22 = .ok (.iconst 0, 1) := by decide +kernel
theorem dX11_mayStill_23 : decode cX11_mayStill 23 = .ok (.istore 4, 2) := by decide +kernel
theorem dX11_mayStill_25 : decode cX11_mayStill 25 = .ok (.iload 4, 2) := by decide +kernel
theorem dX11_mayStill_27 : decode cX11_mayStill 27 = .ok (.iload_n 1, 1) := by decide +kernel
theorem dX11_mayStill_28 : decode cX11_mayStill 28 = .ok (.if_icmp .ge 52, 3) := by decide +kernel
theorem dX11_mayStill_31 : decode cX11_mayStill 31 = .ok (.aload_n 0, 1) := by decide +kernel
theorem dX11_mayStill_32 : decode cX11_mayStill 32 = .ok (.iload 4, 2) := by decide +kernel
theorem dX11_mayStill_34 : decode cX11_mayStill 34 = .ok (.invokevirtual 474, 3) := by decide +kernel
theorem dX11_mayStill_37 : decode cX11_mayStill 37 = .ok (.aload_n 0, 1) := by decide +kernel
theorem dX11_mayStill_38 : decode cX11_mayStill 38 = .ok (.iload_n 1, 1) := by decide +kernel
theorem dX11_mayStill_39 : decode cX11_mayStill 39 = .ok (.invokevirtual 474, 3) := by decide +kernel
theorem dX11_mayStill_42 : decode cX11_mayStill 42 = .ok (.if_icmp .ne 32, 3) := by decide +kernel
theorem dX11_mayStill_45 : decode cX11_mayStill 45 = .ok (.aload_n 0, 1) := by decide +kernel
theorem dX11_mayStill_46 : decode cX11_mayStill 46 = .ok (.getfield 109, 3) := by decide +kernel
theorem dX11_mayStill_49 : decode cX11_mayStill 49 = .ok (.bipush 16, 2) := by decide +kernel
theorem dX11_mayStill_51 : decode cX11_mayStill 51 = .ok (.iload 4, 2) := by decide +kernel
theorem dX11_mayStill_53 : decode cX11_mayStill 53 = .ok (.imul, 1) := by decide +kernel
theorem dX11_mayStill_54 : decode cX11_mayStill 54 = .ok (.iload_n 1, 1) := by decide +kernel
theorem dX11_mayStill_55 : decode cX11_mayStill 55 = .ok (.iadd, 1) := by decide +kernel
theorem dX11_mayStill_56 : decode cX11_mayStill 56 = .ok (.baload, 1) := by decide +kernel
theorem dX11_mayStill_57 : decode cX11_mayStill 57 = .ok (.ifCond .ne 17, 3) := by decide +kernel
theorem dX11_mayStill_60 : decode cX11_mayStill 60 = .ok (.aload_n 0, 1) := by decide +kernel
theorem dX11_mayStill_61 : decode cX11_mayStill 61 = .ok (.iload 4, 2) := by decide +kernel
theorem dX11_mayStill_63 : decode cX11_mayStill 63 = .ok (.aload_n 2, 1) := by decide +kernel
theorem dX11_mayStill_64 : decode cX11_mayStill 64 = .ok (.iload_n 3, 1) := by decide +kernel
theorem dX11_mayStill_65 : decode cX11_mayStill 65 = .ok (.invokevirtual 569, 3) := by decide +kernel
theorem dX11_mayStill_68 : decode cX11_mayStill 68 = .ok (.ifCond .ne 6, 3) := by decide +kernel
theorem dX11_mayStill_71 : decode cX11_mayStill 71 = .ok (.iload 4, 2) := by decide +kernel
theorem dX11_mayStill_73 : decode cX11_mayStill 73 = .ok (.ireturn, 1) := by decide +kernel
theorem dX11_mayStill_74 : decode cX11_mayStill 74 = .ok (.iinc 4 1, 3) := by decide +kernel
theorem dX11_mayStill_77 : decode cX11_mayStill 77 = .ok (.goto (-52), 3) := by decide +kernel
theorem dX11_mayStill_80 : decode cX11_mayStill 80 = .ok (.iconst (-1), 1) := by decide +kernel
theorem dX11_mayStill_81 : decode cX11_mayStill 81 = .ok (.ireturn, 1) := by decide +kernel
set_option maxRecDepth 10000 in
set_option maxHeartbeats 4000000 in
theorem A_X11_mayStill_25 {Z : az_Z} {d : Nat} (C : az_C Z yX11_mayStill cX11_mayStill 5 (some .int) d) (hD : 209 ≤ d) (n : Nat) (k : Nat) : ∀ {σ : az_Hp} {v0 v1 v2 v3 v4 : Int} {r : (Int × az_Hp)}, fz_X11_mayStill_25 n k σ v0 v1 v2 v3 v4 = some r → az_AW Z 5 25 [(13, v0), (0, v1), (15, v2), (0, v3), (0, v4)] [] σ (some (0, r.1), r.2) := by
  have hd1 : 1 ≤ d := by omega
  induction k with
  | zero => intro σ v0 v1 v2 v3 v4 r h; simp [fz_X11_mayStill_25] at h
  | succ k ih =>
    intro σ v0 v1 v2 v3 v4 r h
    unfold fz_X11_mayStill_25 at h
    refine az_il4 (pc := 25) C dX11_mayStill_25 ?_
    refine az_il1 (pc := 27) C dX11_mayStill_27 ?_
    refine az_icmp_ge (pc := 28) (tgt := 80) C h dX11_mayStill_28 (by decide) (fun _ h => ?_) (fun _ h => ?_)
    · refine az_ikm1 (pc := 80) C dX11_mayStill_80 ?_
      obtain rfl := Option.some.inj h
      exact az_ireturn (pc := 81) C dX11_mayStill_81 rfl
    refine az_al0 (pc := 31) C rfl rfl dX11_mayStill_31 ?_
    refine az_il4 (pc := 32) C dX11_mayStill_32 ?_
    refine az_cV1pi (pc := 34) (c := 11) C hd1 h mv_X11_familyOf ml_X11_474 rfl (fun x hx => A_X11_familyOf (by omega) hx) dX11_mayStill_34 (fun r1 h => ?_)
    refine az_al0 (pc := 37) C rfl rfl dX11_mayStill_37 ?_
    refine az_il1 (pc := 38) C dX11_mayStill_38 ?_
    refine az_cV1pi (pc := 39) (c := 11) C hd1 h mv_X11_familyOf ml_X11_474 rfl (fun x hx => A_X11_familyOf (by omega) hx) dX11_mayStill_39 (fun r2 h => ?_)
    refine az_icmp_ne (pc := 42) (tgt := 74) C h dX11_mayStill_42 (by decide) (fun _ h => ?_) (fun _ h => ?_)
    · refine az_ii4 (pc := 74) C az_n1 rfl rfl dX11_mayStill_74 ?_
      refine az_goto (pc := 77) (tgt := 25) C dX11_mayStill_77 (by decide) ?_
      exact (ih h)
    refine az_al0 (pc := 45) C rfl rfl dX11_mayStill_45 ?_
    refine az_getR (pc := 46) (c2 := 15) C h fl_X11_109 rfl rfl dX11_mayStill_46 (fun h => ?_)
    refine az_bk16 (pc := 49) C dX11_mayStill_49 ?_
    refine az_il4 (pc := 51) C dX11_mayStill_51 ?_
    refine az_imul (pc := 53) C dX11_mayStill_53 ?_
    refine az_il1 (pc := 54) C dX11_mayStill_54 ?_
    refine az_iadd (pc := 55) C dX11_mayStill_55 ?_
    refine az_zaload (pc := 56) C h dX11_mayStill_56 (fun h => ?_)
    refine az_if_ne (pc := 57) (tgt := 74) C h dX11_mayStill_57 (by decide) (fun _ h => ?_) (fun _ h => ?_)
    · refine az_ii4 (pc := 74) C az_n1 rfl rfl dX11_mayStill_74 ?_
      refine az_goto (pc := 77) (tgt := 25) C dX11_mayStill_77 (by decide) ?_
      exact (ih h)
    refine az_al0 (pc := 60) C rfl rfl dX11_mayStill_60 ?_
    refine az_il4 (pc := 61) C dX11_mayStill_61 ?_
    refine az_al2 (pc := 63) C rfl rfl dX11_mayStill_63 ?_
    refine az_il3 (pc := 64) C dX11_mayStill_64 ?_
    refine az_cV3ii (pc := 65) (c := 11) C hd1 h mv_X11_isApart ml_X11_569 rfl (fun x hx => A_X11_isApart (by omega) n hx) dX11_mayStill_65 (fun r5 h => ?_)
    refine az_if_ne (pc := 68) (tgt := 74) C h dX11_mayStill_68 (by decide) (fun _ h => ?_) (fun _ h => ?_)
    · refine az_ii4 (pc := 74) C az_n1 rfl rfl dX11_mayStill_74 ?_
      refine az_goto (pc := 77) (tgt := 25) C dX11_mayStill_77 (by decide) ?_
      exact (ih h)
    refine az_il4 (pc := 71) C dX11_mayStill_71 ?_
    obtain rfl := Option.some.inj h
    exact az_ireturn (pc := 73) C dX11_mayStill_73 rfl
set_option maxRecDepth 10000 in
set_option maxHeartbeats 4000000 in
theorem A_X11_mayStill_e {Z : az_Z} {d : Nat} (C : az_C Z yX11_mayStill cX11_mayStill 5 (some .int) d) (hD : 209 ≤ d) (n : Nat) {σ : az_Hp} {v0 v1 v2 v3 : Int} {r : (Int × az_Hp)} (h : fz_X11_mayStill n σ v0 v1 v2 v3 = some r) : az_AW Z 5 0 [(13, v0), (0, v1), (15, v2), (0, v3), (31, 0)] [] σ (some (0, r.1), r.2) := by
  have hd1 : 1 ≤ d := by omega
  unfold fz_X11_mayStill at h
  refine az_al0 (pc := 0) C rfl rfl dX11_mayStill_0 ?_
  refine az_getR (pc := 1) (c2 := 15) C h fl_X11_42 rfl rfl dX11_mayStill_1 (fun h => ?_)
  refine az_ik5 (pc := 4) C dX11_mayStill_4 ?_
  refine az_al0 (pc := 5) C rfl rfl dX11_mayStill_5 ?_
  refine az_getI (pc := 6) C fl_X11_285 rfl dX11_mayStill_6 ?_
  refine az_imul (pc := 9) C dX11_mayStill_9 ?_
  refine az_al0 (pc := 10) C rfl rfl dX11_mayStill_10 ?_
  refine az_il1 (pc := 11) C dX11_mayStill_11 ?_
  refine az_cV1pi (pc := 12) (c := 11) C hd1 h mv_X11_familyOf ml_X11_474 rfl (fun x hx => A_X11_familyOf (by omega) hx) dX11_mayStill_12 (fun r2 h => ?_)
  refine az_iadd (pc := 15) C dX11_mayStill_15 ?_
  refine az_zaload (pc := 16) C h dX11_mayStill_16 (fun h => ?_)
  refine az_if_ne (pc := 17) (tgt := 22) C h dX11_mayStill_17 (by decide) (fun _ h => ?_) (fun _ h => ?_)
  · refine az_ik0 (pc := 22) C dX11_mayStill_22 ?_
    refine az_is4 (pc := 23) C rfl rfl dX11_mayStill_23 ?_
    exact (A_X11_mayStill_25 C hD n n h)
  refine az_ikm1 (pc := 20) C dX11_mayStill_20 ?_
  obtain rfl := Option.some.inj h
  exact az_ireturn (pc := 21) C dX11_mayStill_21 rfl
set_option maxRecDepth 10000 in
set_option maxHeartbeats 4000000 in
theorem A_X11_mayStill {l : Launch} {d : Nat} (hD : 209 ≤ d) (n : Nat) {σ : az_Hp} {v0 v1 v2 v3 : Int} {r : (Int × az_Hp)} (h : fz_X11_mayStill n σ v0 v1 v2 v3 = some r) : az_AC l yX11_mayStill cX11_mayStill 5 (some .int) d [(13, v0), (0, v1), (15, v2), (0, v3)] σ (some (0, r.1), r.2) := az_AC.of mt_X11_mayStill rfl rfl rfl (fun Z hZ C => A_X11_mayStill_e C hD n h)
