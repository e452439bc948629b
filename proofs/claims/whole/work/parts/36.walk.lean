theorem dX11_go_0 : decode cX11_go 0 = .ok (.aload_n 0, 1) := by decide +kernel
theorem dX11_go_1 : decode cX11_go 1 = .ok (.aload_n 0, 1) := by decide +kernel
theorem dX11_go_2 : decode cX11_go 2 = .ok (.getfield 226, 3) := by decide +kernel
theorem dX11_go_5 : decode cX11_go 5 = .ok (.invokevirtual 229, 3) := by decide +kernel
theorem dX11_go_8 : decode cX11_go 8 = .ok (.bipush 32, 2) := by decide +kernel
theorem dX11_go_10 : decode cX11_go 10 = .ok (.if_icmp .eq 16, 3) := by decide +kernel
theorem dX11_go_13 : decode cX11_go 13 = .ok (.aload_n 0, 1) := by decide +kernel
theorem dX11_go_14 : decode cX11_go 14 = .ok (.aload_n 0, 1) := by decide +kernel
theorem dX11_go_15 : decode cX11_go 15 = .ok (.getfield 226, 3) := by decide +kernel
theorem dX11_go_18 : decode cX11_go 18 = .ok (.invokevirtual 229, 3) := by decide +kernel
theorem dX11_go_21 : decode cX11_go 21 = .ok (.bipush 10, 2) := by decide +kernel
theorem dX11_go_23 : decode cX11_go 23 = .ok (.if_icmp .ne 16, 3) := by decide +kernel
theorem dX11_go_26 : decode cX11_go 26 = .ok (.aload_n 0, 1) := by decide +kernel
theorem dX11_go_27 : decode cX11_go 27 = .ok (.dup, 1) := by decide +kernel
theorem dX11_go_28 : decode cX11_go 28 = .ok (.getfield 226, 3) := by decide +kernel
theorem dX11_go_31 : decode cX11_go 31 = .ok (.iconst 1, 1) := by decide +kernel
theorem dX11_go_32 : decode cX11_go 32 = .ok (.iadd, 1) := by decide +kernel
theorem dX11_go_33 : decode cX11_go 33 = .ok (.putfield 226, 3) := by decide +kernel
theorem dX11_go_36 : decode cX11_go 36 = .ok (.goto (-36), 3) := by decide +kernel
theorem dX11_go_39 : decode cX11_go 39 = .ok (.aload_n 0, 1) := by decide +kernel
theorem dX11_go_40 : decode cX11_go 40 = .ok (.aload_n 0, 1) := by decide +kernel
theorem dX11_go_41 : decode cX11_go 41 = .ok (.getfield 226, 3) := by decide +kernel
theorem dX11_go_44 : decode cX11_go 44 = .ok (.putfield 233, 3) := by decide +kernel
theorem dX11_go_47 : decode cX11_go 47 = .ok (.aload_n 0, 1) := by decide +kernel
theorem dX11_go_48 : decode cX11_go 48 = .ok (.aload_n 0, 1) := by decide +kernel
theorem dX11_go_49 : decode cX11_go 49 = .ok (.getfield 226, 3) := by decide +kernel
theorem dX11_go_52 : decode cX11_go 52 = .ok (.invokevirtual 229, 3) := by decide +kernel
theorem dX11_go_55 : decode cX11_go 55 = .ok (.istore_n 1, 1) := by decide +kernel
theorem dX11_go_56 : decode cX11_go 56 = .ok (.iload_n 1, 1) := by decide +kernel
theorem dX11_go_57 : decode cX11_go 57 = .ok (.iconst (-1), 1) := by decide +kernel
theorem dX11_go_58 : decode cX11_go 58 = .ok (.if_icmp .ne 11, 3) := by decide +kernel
theorem dX11_go_61 : decode cX11_go 61 = .ok (.aload_n 0, 1) := by decide +kernel
theorem dX11_go_62 : decode cX11_go 62 = .ok (.iconst 0, 1) := by decide +kernel
theorem dX11_go_63 : decode cX11_go 63 = .ok (.putfield 236, 3) := by decide +kernel
theorem dX11_go_66 : decode cX11_go 66 = .ok (.goto 301, 3) := by decide +kernel
theorem dX11_go_69 : decode cX11_go 69 = .ok (.iload_n 1, 1) := by decide +kernel
theorem dX11_go_70 : decode cX11_go 70 = .ok (.invokestatic 239, 3) := by decide +kernel
theorem dX11_go_73 : decode cX11_go 73 = .ok (.ifCond .ne 10, 3) := by decide +kernel
theorem dX11_go_76 : decode cX11_go 76 = .ok (.iload_n 1, 1) := by decide +kernel
theorem dX11_go_77 : decode cX11_go 77 = .ok (.invokestatic 243, 3) := by decide +kernel
theorem dX11_go_80 : decode cX11_go 80 = .ok (.ifCond .eq 160, 3) := by decide +kernel
theorem dX11_go_83 : decode cX11_go 83 = .ok (.iconst 0, 1) := by decide +kernel
theorem dX11_go_84 : decode cX11_go 84 = .ok (.istore_n 2, 1) := by decide +kernel
theorem dX11_go_85 : decode cX11_go 85 = .ok (.aload_n 0, 1) := by decide +kernel
theorem dX11_go_86 : decode cX11_go 86 = .ok (.lconst 0, 1) := by decide +kernel
theorem dX11_go_87 : decode cX11_go 87 = .ok (.putfield 246, 3) := by decide +kernel
theorem dX11_go_90 : decode cX11_go 90 = .ok (.aload_n 0, 1) := by decide +kernel
theorem dX11_go_91 : decode cX11_go 91 = .ok (.aload_n 0, 1) := by decide +kernel
theorem dX11_go_92 : decode cX11_go 92 = .ok (.getfield 226, 3) := by decide +kernel
theorem dX11_go_95 : decode cX11_go 95 = .ok (.invokevirtual 229, 3) := by decide +kernel
theorem dX11_go_98 : decode cX11_go 98 = .ok (.invokestatic 239, 3) := by decide +kernel
theorem dX11_go_101 : decode cX11_go 101 = .ok (.ifCond .ne 17, 3) := by decide +kernel
theorem dX11_go_104 : decode cX11_go 104 = .ok (.aload_n 0, 1) := by decide +kernel
theorem dX11_go_105 : decode cX11_go 105 = .ok (.aload_n 0, 1) := by decide +kernel
theorem dX11_go_106 : decode cX11_go 106 = .ok (.getfield 226, 3) := by decide +kernel
theorem dX11_go_109 : decode cX11_go 109 = .ok (.invokevirtual 229, 3) := by decide +kernel
theorem dX11_go_112 : decode cX11_go 112 = .ok (.invokestatic 243, 3) := by decide +kernel
theorem dX11_go_115 : decode cX11_go 115 = .ok (.ifCond .eq 84, 3) := by decide +kernel
theorem dX11_go_118 : decode cX11_go 118 = .ok (.iload_n 2, 1) := by decide +kernel
theorem dX11_go_119 : decode cX11_go 119 = .ok (.aload_n 0, 1) := by decide +kernel
theorem dX11_go_120 : decode cX11_go 120 = .ok (.getfield 226, 3) := by decide +kernel
theorem dX11_go_123 : decode cX11_go 123 = .ok (.aload_n 0, 1) := by decide +kernel
theorem dX11_go_124 : decode cX11_go 124 = .ok (.getfield 233, 3) := by decide +kernel
theorem dX11_go_127 : decode cX11_go 127 = .ok (.if_icmp .le 21, 3) := by decide +kernel
theorem dX11_go_130 : decode cX11_go 130 = .ok (.aload_n 0, 1) := by decide +kernel
theorem dX11_go_131 : decode cX11_go 131 = .ok (.aload_n 0, 1) := by decide +kernel
theorem dX11_go_132 : decode cX11_go 132 = .ok (.getfield 226, 3) := by decide +kernel
theorem dX11_go_135 : decode cX11_go 135 = .ok (.invokevirtual 229, 3) := by decide +kernel
theorem dX11_go_138 : decode cX11_go 138 = .ok (.invokestatic 243, 3) := by decide +kernel
theorem dX11_go_141 : decode cX11_go 141 = .ok (.ifCond .eq 7, 3) := by decide +kernel
theorem dX11_go_144 : decode cX11_go 144 = .ok (.iconst 1, 1) := by decide +kernel
theorem dX11_go_145 : decode cX11_go 145 = .ok (.goto 4, 3) := by decide +kernel
theorem dX11_go_148 : decode cX11_go 148 = .ok (.iconst 0, 1) := by decide +kernel
theorem dX11_go_149 : decode cX11_go 149 = .ok (.iadd, 1) := by decide +kernel
theorem dX11_go_150 : decode cX11_go 150 = .ok (.istore_n 2, 1) := by decide +kernel
theorem dX11_go_151 : decode cX11_go 151 = .ok (.aload_n 0, 1) := by decide +kernel
theorem dX11_go_152 : decode cX11_go 152 = .ok (.getfield 226, 3) := by decide +kernel
theorem dX11_go_155 : decode cX11_go 155 = .ok (.aload_n 0, 1) := by decide +kernel
theorem dX11_go_156 : decode cX11_go 156 = .ok (.getfield 233, 3) := by decide +kernel
theorem dX11_go_159 : decode cX11_go 159 = .ok (.isub, 1) := by decide +kernel
theorem dX11_go_160 : decode cX11_go 160 = .ok (.bipush 6, 2) := by decide +kernel
theorem dX11_go_162 : decode cX11_go 162 = .ok (.if_icmp .ge 24, 3) := by decide +kernel
theorem dX11_go_165 : decode cX11_go 165 = .ok (.aload_n 0, 1) := by decide +kernel
theorem dX11_go_166 : decode cX11_go 166 = .ok (.aload_n 0, 1) := by decide +kernel
theorem dX11_go_167 : decode cX11_go 167 = .ok (.getfield 246, 3) := by decide +kernel
theorem dX11_go_170 : decode cX11_go 170 = .ok (.bipush 8, 2) := by decide +kernel
theorem dX11_go_172 : decode cX11_go 172 = .ok (.lshl, 1) := by decide +kernel
theorem dX11_go_173 : decode cX11_go 173 = .ok (.aload_n 0, 1) := by decide +kernel
theorem dX11_go_174 : decode cX11_go 174 = .ok (.aload_n 0, 1) := by decide +kernel
theorem dX11_go_175 : decode cX11_go 175 = .ok (.getfield 226, 3) := by decide +kernel
theorem dX11_go_178 : decode cX11_go 178 = .ok (.invokevirtual 229, 3) := by decide +kernel
theorem dX11_go_181 : decode cX11_go 181 = .ok (.i2l, 1) := by decide +kernel
theorem dX11_go_182 : decode cX11_go 182 = .ok (.lor, 1) := by decide +kernel
theorem dX11_go_183 : decode cX11_go 183 = .ok (.putfield 246, 3) := by decide +kernel
theorem dX11_go_186 : decode cX11_go 186 = .ok (.aload_n 0, 1) := by decide +kernel
theorem dX11_go_187 : decode cX11_go 187 = .ok (.dup, 1) := by decide +kernel
theorem dX11_go_188 : decode cX11_go 188 = .ok (.getfield 226, 3) := by decide +kernel
theorem dX11_go_191 : decode cX11_go 191 = .ok (.iconst 1, 1) := by decide +kernel
theorem dX11_go_192 : decode cX11_go 192 = .ok (.iadd, 1) := by decide +kernel
theorem dX11_go_193 : decode cX11_go 193 = .ok (.putfield 226, 3) := by decide +kernel
theorem dX11_go_196 : decode cX11_go 196 = .ok (.goto (-106), 3) := by decide +kernel
theorem dX11_go_199 : decode cX11_go 199 = .ok (.aload_n 0, 1) := by decide +kernel
theorem dX11_go_200 : decode cX11_go 200 = .ok (.aload_n 0, 1) := by decide +kernel
theorem dX11_go_201 : decode cX11_go 201 = .ok (.getfield 226, 3) := by decide +kernel
theorem dX11_go_204 : decode cX11_go 204 = .ok (.aload_n 0, 1) := by decide +kernel
theorem dX11_go_205 : decode cX11_go 205 = .ok (.getfield 233, 3) := by decide +kernel
theorem dX11_go_208 : decode cX11_go 208 = .ok (.isub, 1) := by decide +kernel
theorem dX11_go_209 : decode cX11_go 209 = .ok (.bipush 6, 2) := by decide +kernel
theorem dX11_go_211 : decode cX11_go 211 = .ok (.if_icmp .gt 7, 3) := by decide +kernel
theorem dX11_go_214 : decode cX11_go 214 = .ok (.iload_n 2, 1) := by decide +kernel
theorem dX11_go_215 : decode cX11_go 215 = .ok (.ifCond .le 7, 3) := by decide +kernel
theorem dX11_go_218 : decode cX11_go 218 = .ok (.iconst 1, 1) := by decide +kernel
theorem dX11_go_219 : decode cX11_go 219 = .ok (.goto 15, 3) := by decide +kernel
theorem dX11_go_222 : decode cX11_go 222 = .ok (.iload_n 1, 1) := by decide +kernel
theorem dX11_go_223 : decode cX11_go 223 = .ok (.invokestatic 243, 3) := by decide +kernel
theorem dX11_go_226 : decode cX11_go 226 = .ok (.ifCond .eq 7, 3) := by decide +kernel
theorem dX11_go_229 : decode cX11_go 229 = .ok (.iconst 2, 1) := by decide +kernel
theorem dX11_go_230 : decode cX11_go 230 = .ok (.goto 4, 3) := by decide +kernel
theorem dX11_go_233 : decode cX11_go 233 = .ok (.iconst 3, 1) := by decide +kernel
theorem dX11_go_234 : decode cX11_go 234 = .ok (.putfield 236, 3) := by decide +kernel
theorem dX11_go_237 : decode cX11_go 237 = .ok (.goto 130, 3) := by decide +kernel
theorem dX11_go_240 : decode cX11_go 240 = .ok (.iload_n 1, 1) := by decide +kernel
theorem dX11_go_241 : decode cX11_go 241 = .ok (.invokestatic 250, 3) := by decide +kernel
theorem dX11_go_244 : decode cX11_go 244 = .ok (.ifCond .eq 63, 3) := by decide +kernel
theorem dX11_go_247 : decode cX11_go 247 = .ok (.aload_n 0, 1) := by decide +kernel
theorem dX11_go_248 : decode cX11_go 248 = .ok (.aload_n 0, 1) := by decide +kernel
theorem dX11_go_249 : decode cX11_go 249 = .ok (.getfield 226, 3) := by decide +kernel
theorem dX11_go_252 : decode cX11_go 252 = .ok (.invokevirtual 229, 3) := by decide +kernel
theorem dX11_go_255 : decode cX11_go 255 = .ok (.invokestatic 250, 3) := by decide +kernel
theorem dX11_go_258 : decode cX11_go 258 = .ok (.ifCond .eq 16, 3) := by decide +kernel
theorem dX11_go_261 : decode cX11_go 261 = .ok (.aload_n 0, 1) := by decide +kernel
theorem dX11_go_262 : decode cX11_go 262 = .ok (.dup, 1) := by decide +kernel
theorem dX11_go_263 : decode cX11_go 263 = .ok (.getfield 226, 3) := by decide +kernel
theorem dX11_go_266 : decode cX11_go 266 = .ok (.iconst 1, 1) := by decide +kernel
theorem dX11_go_267 : decode cX11_go 267 = .ok (.iadd, 1) := by decide +kernel
theorem dX11_go_268 : decode cX11_go 268 = .ok (.putfield 226, 3) := by decide +kernel
theorem dX11_go_271 : decode cX11_go 271 = .ok (.goto (-24), 3) := by decide +kernel
theorem dX11_go_274 : decode cX11_go 274 = .ok (.aload_n 0, 1) := by decide +kernel
theorem dX11_go_275 : decode cX11_go 275 = .ok (.iload_n 1, 1) := by decide +kernel
theorem dX11_go_276 : decode cX11_go 276 = .ok (.bipush 48, 2) := by decide +kernel
theorem dX11_go_278 : decode cX11_go 278 = .ok (.isub, 1) := by decide +kernel
theorem dX11_go_279 : decode cX11_go 279 = .ok (.putfield 253, 3) := by decide +kernel
theorem dX11_go_282 : decode cX11_go 282 = .ok (.aload_n 0, 1) := by decide +kernel
theorem dX11_go_283 : decode cX11_go 283 = .ok (.aload_n 0, 1) := by decide +kernel
theorem dX11_go_284 : decode cX11_go 284 = .ok (.getfield 226, 3) := by decide +kernel
theorem dX11_go_287 : decode cX11_go 287 = .ok (.aload_n 0, 1) := by decide +kernel
theorem dX11_go_288 : decode cX11_go 288 = .ok (.getfield 233, 3) := by decide +kernel
theorem dX11_go_291 : decode cX11_go 291 = .ok (.isub, 1) := by decide +kernel
theorem dX11_go_292 : decode cX11_go 292 = .ok (.iconst 1, 1) := by decide +kernel
theorem dX11_go_293 : decode cX11_go 293 = .ok (.if_icmp .le 7, 3) := by decide +kernel
theorem dX11_go_296 : decode cX11_go 296 = .ok (.iconst 1, 1) := by decide +kernel
theorem dX11_go_297 : decode cX11_go 297 = .ok (.goto 4, 3) := by decide +kernel
theorem dX11_go_300 : decode cX11_go 300 = .ok (.iconst 4, 1) := by decide +kernel
theorem dX11_go_301 : decode cX11_go 301 = .ok (.putfield 236, 3) := by decide +kernel
theorem dX11_go_304 : decode cX11_go 304 = .ok (.goto 63, 3) := by decide +kernel
theorem dX11_go_307 : decode cX11_go 307 = .ok (.aload_n 0, 1) := by decide +kernel
theorem dX11_go_308 : decode cX11_go 308 = .ok (.dup, 1) := by decide +kernel
theorem dX11_go_309 : decode cX11_go 309 = .ok (.getfield 226, 3) := by decide +kernel
theorem dX11_go_312 : decode cX11_go 312 = .ok (.iconst 1, 1) := by decide +kernel
theorem dX11_go_313 : decode cX11_go 313 = .ok (.iadd, 1) := by decide +kernel
theorem dX11_go_314 : decode cX11_go 314 = .ok (.putfield 226, 3) := by decide +kernel
theorem dX11_go_317 : decode cX11_go 317 = .ok (.aload_n 0, 1) := by decide +kernel
theorem dX11_go_318 : decode cX11_go 318 = .ok (.iload_n 1, 1) := by decide +kernel
theorem dX11_go_319 : decode cX11_go 319 = .ok (.bipush 59, 2) := by decide +kernel
theorem dX11_go_321 : decode cX11_go 321 = .ok (.if_icmp .eq 33, 3) := by decide +kernel
theorem dX11_go_324 : decode cX11_go 324 = .ok (.iload_n 1, 1) := by decide +kernel
theorem dX11_go_325 : decode cX11_go 325 = .ok (.bipush 40, 2) := by decide +kernel
theorem dX11_go_327 : decode cX11_go 327 = .ok (.if_icmp .eq 27, 3) := by decide +kernel
theorem dX11_go_330 : decode cX11_go 330 = .ok (.iload_n 1, 1) := by decide +kernel
theorem dX11_go_331 : decode cX11_go 331 = .ok (.bipush 41, 2) := by decide +kernel
theorem dX11_go_333 : decode cX11_go 333 = .ok (.if_icmp .eq 21, 3) := by decide +kernel
theorem dX11_go_336 : decode cX11_go 336 = .ok (.iload_n 1, 1) := by decide +kernel
theorem dX11_go_337 : decode cX11_go 337 = .ok (.bipush 44, 2) := by decide +kernel
theorem dX11_go_339 : decode cX11_go 339 = .ok (.if_icmp .eq 15, 3) := by decide +kernel
theorem dX11_go_342 : decode cX11_go 342 = .ok (.iload_n 1, 1) := by decide +kernel
theorem dX11_go_343 : decode cX11_go 343 = .ok (.bipush 61, 2) := by decide +kernel
theorem dX11_go_345 : decode cX11_go 345 = .ok (.if_icmp .eq 9, 3) := by decide +kernel
theorem dX11_go_348 : decode cX11_go 348 = .ok (.iload_n 1, 1) := by decide +kernel
theorem dX11_go_349 : decode cX11_go 349 = .ok (.bipush 63, 2) := by decide +kernel
theorem dX11_go_351 : decode cX11_go 351 = .ok (.if_icmp .ne 7, 3) := by decide +kernel
theorem dX11_go_354 : decode cX11_go 354 = .ok (.iconst 5, 1) := by decide +kernel
theorem dX11_go_355 : decode cX11_go 355 = .ok (.goto 4, 3) := by decide +kernel
theorem dX11_go_358 : decode cX11_go 358 = .ok (.iconst 1, 1) := by decide +kernel
theorem dX11_go_359 : decode cX11_go 359 = .ok (.putfield 236, 3) := by decide +kernel
theorem dX11_go_362 : decode cX11_go 362 = .ok (.aload_n 0, 1) := by decide +kernel
theorem dX11_go_363 : decode cX11_go 363 = .ok (.iload_n 1, 1) := by decide +kernel
theorem dX11_go_364 : decode cX11_go 364 = .ok (.putfield 256, 3) := by decide +kernel
theorem dX11_go_367 : decode cX11_go 367 = .ok (.return_, 1) := by decide +kernel
set_option maxRecDepth 10000 in
set_option maxHeartbeats 4000000 in
theorem A_X11_go_149 {Z : az_Z} {d : Nat} (C : az_C Z yX11_go cX11_go 3 none d) (hD : 2 ≤ d) (n : Nat) {k90 : az_Hp → Int → Int → Int → Option az_Hp} (hk90 : ∀ {σ : az_Hp} {v0 v1 v2 : Int} {r : az_Hp}, k90 σ v0 v1 v2 = some r → az_AW Z 3 90 [(13, v0), (0, v1), (0, v2)] [] σ (none, r)) {σ : az_Hp} {v0 v1 w0 w1 : Int} {r : az_Hp} (h : fz_X11_go_149 n k90 σ v0 v1 w0 w1 = some r) : az_AW Z 3 149 [(13, v0), (0, v1), (31, 0)] [(0, w1), (0, w0)] σ (none, r) := by
  have hd1 : 1 ≤ d := by omega
  unfold fz_X11_go_149 at h
  refine az_iadd (pc := 149) C dX11_go_149 ?_
  refine az_is2 (pc := 150) C rfl rfl dX11_go_150 ?_
  refine az_al0 (pc := 151) C rfl rfl dX11_go_151 ?_
  refine az_getI (pc := 152) C fl_X11_226 rfl dX11_go_152 ?_
  refine az_al0 (pc := 155) C rfl rfl dX11_go_155 ?_
  refine az_getI (pc := 156) C fl_X11_233 rfl dX11_go_156 ?_
  refine az_isub (pc := 159) C dX11_go_159 ?_
  refine az_bk6 (pc := 160) C dX11_go_160 ?_
  refine az_icmp_ge (pc := 162) (tgt := 186) C h dX11_go_162 (by decide) (fun _ h => ?_) (fun _ h => ?_)
  · refine az_al0 (pc := 186) C rfl rfl dX11_go_186 ?_
    refine az_dup (pc := 187) C rfl rfl dX11_go_187 ?_
    refine az_getI (pc := 188) C fl_X11_226 rfl dX11_go_188 ?_
    refine az_ik1 (pc := 191) C dX11_go_191 ?_
    refine az_iadd (pc := 192) C dX11_go_192 ?_
    refine az_putI (pc := 193) C fl_X11_226 (Or.inl rfl) rfl dX11_go_193 ?_
    refine az_goto (pc := 196) (tgt := 90) C dX11_go_196 (by decide) ?_
    exact (hk90 h)
  refine az_al0 (pc := 165) C rfl rfl dX11_go_165 ?_
  refine az_al0 (pc := 166) C rfl rfl dX11_go_166 ?_
  refine az_getJ (pc := 167) C fl_X11_246 rfl dX11_go_167 ?_
  refine az_bk8 (pc := 170) C dX11_go_170 ?_
  refine az_lshl (pc := 172) C dX11_go_172 ?_
  refine az_al0 (pc := 173) C rfl rfl dX11_go_173 ?_
  refine az_al0 (pc := 174) C rfl rfl dX11_go_174 ?_
  refine az_getI (pc := 175) C fl_X11_226 rfl dX11_go_175 ?_
  refine az_cV1pi (pc := 178) (c := 11) C hd1 h mv_X11_byteAt ml_X11_229 rfl (fun x hx => A_X11_byteAt (by omega) hx) dX11_go_178 (fun r1 h => ?_)
  refine az_i2l (pc := 181) C dX11_go_181 ?_
  refine az_lor (pc := 182) C dX11_go_182 ?_
  refine az_putJ (pc := 183) C fl_X11_246 (Or.inl rfl) rfl dX11_go_183 ?_
  refine az_al0 (pc := 186) C rfl rfl dX11_go_186 ?_
  refine az_dup (pc := 187) C rfl rfl dX11_go_187 ?_
  refine az_getI (pc := 188) C fl_X11_226 rfl dX11_go_188 ?_
  refine az_ik1 (pc := 191) C dX11_go_191 ?_
  refine az_iadd (pc := 192) C dX11_go_192 ?_
  refine az_putI (pc := 193) C fl_X11_226 (Or.inl rfl) rfl dX11_go_193 ?_
  refine az_goto (pc := 196) (tgt := 90) C dX11_go_196 (by decide) ?_
  exact (hk90 h)
set_option maxRecDepth 10000 in
set_option maxHeartbeats 4000000 in
theorem A_X11_go_118 {Z : az_Z} {d : Nat} (C : az_C Z yX11_go cX11_go 3 none d) (hD : 2 ≤ d) (n : Nat) {k90 : az_Hp → Int → Int → Int → Option az_Hp} (hk90 : ∀ {σ : az_Hp} {v0 v1 v2 : Int} {r : az_Hp}, k90 σ v0 v1 v2 = some r → az_AW Z 3 90 [(13, v0), (0, v1), (0, v2)] [] σ (none, r)) {σ : az_Hp} {v0 v1 v2 : Int} {r : az_Hp} (h : fz_X11_go_118 n k90 σ v0 v1 v2 = some r) : az_AW Z 3 118 [(13, v0), (0, v1), (0, v2)] [] σ (none, r) := by
  have hd1 : 1 ≤ d := by omega
  unfold fz_X11_go_118 at h
  refine az_il2 (pc := 118) C dX11_go_118 ?_
  refine az_al0 (pc := 119) C rfl rfl dX11_go_119 ?_
  refine az_getI (pc := 120) C fl_X11_226 rfl dX11_go_120 ?_
  refine az_al0 (pc := 123) C rfl rfl dX11_go_123 ?_
  refine az_getI (pc := 124) C fl_X11_233 rfl dX11_go_124 ?_
  refine az_icmp_le (pc := 127) (tgt := 148) C h dX11_go_127 (by decide) (fun _ h => ?_) (fun _ h => ?_)
  · refine az_ik0 (pc := 148) C dX11_go_148 ?_
    exact (az_wkk (A_X11_go_149 C hD n (fun h => hk90 h) h) (az_sE (az_sE (az_sJ az_sN))))
  refine az_al0 (pc := 130) C rfl rfl dX11_go_130 ?_
  refine az_al0 (pc := 131) C rfl rfl dX11_go_131 ?_
  refine az_getI (pc := 132) C fl_X11_226 rfl dX11_go_132 ?_
  refine az_cV1pi (pc := 135) (c := 11) C hd1 h mv_X11_byteAt ml_X11_229 rfl (fun x hx => A_X11_byteAt (by omega) hx) dX11_go_135 (fun r1 h => ?_)
  refine az_cS1pi (pc := 138) C hd1 h ms_X11_isGreat ml_X11_243 rfl (fun x hx => A_X11_isGreat (by omega) hx) dX11_go_138 (fun r2 h => ?_)
  refine az_if_eq (pc := 141) (tgt := 148) C h dX11_go_141 (by decide) (fun _ h => ?_) (fun _ h => ?_)
  · refine az_ik0 (pc := 148) C dX11_go_148 ?_
    exact (az_wkk (A_X11_go_149 C hD n (fun h => hk90 h) h) (az_sE (az_sE (az_sJ az_sN))))
  refine az_ik1 (pc := 144) C dX11_go_144 ?_
  refine az_goto (pc := 145) (tgt := 149) C dX11_go_145 (by decide) ?_
  exact (az_wkk (A_X11_go_149 C hD n (fun h => hk90 h) h) (az_sE (az_sE (az_sJ az_sN))))
set_option maxRecDepth 10000 in
set_option maxHeartbeats 4000000 in
theorem A_X11_go_90 {Z : az_Z} {d : Nat} (C : az_C Z yX11_go cX11_go 3 none d) (hD : 2 ≤ d) (n : Nat) (k : Nat) : ∀ {σ : az_Hp} {v0 v1 v2 : Int} {r : az_Hp}, fz_X11_go_90 n k σ v0 v1 v2 = some r → az_AW Z 3 90 [(13, v0), (0, v1), (0, v2)] [] σ (none, r) := by
  have hd1 : 1 ≤ d := by omega
  induction k with
  | zero => intro σ v0 v1 v2 r h; simp [fz_X11_go_90] at h
  | succ k ih =>
    intro σ v0 v1 v2 r h
    unfold fz_X11_go_90 at h
    refine az_al0 (pc := 90) C rfl rfl dX11_go_90 ?_
    refine az_al0 (pc := 91) C rfl rfl dX11_go_91 ?_
    refine az_getI (pc := 92) C fl_X11_226 rfl dX11_go_92 ?_
    refine az_cV1pi (pc := 95) (c := 11) C hd1 h mv_X11_byteAt ml_X11_229 rfl (fun x hx => A_X11_byteAt (by omega) hx) dX11_go_95 (fun r1 h => ?_)
    refine az_cS1pi (pc := 98) C hd1 h ms_X11_isSmall ml_X11_239 rfl (fun x hx => A_X11_isSmall (by omega) hx) dX11_go_98 (fun r2 h => ?_)
    refine az_if_ne (pc := 101) (tgt := 118) C h dX11_go_101 (by decide) (fun _ h => ?_) (fun _ h => ?_)
    · exact (A_X11_go_118 C hD n (fun h => ih h) h)
    refine az_al0 (pc := 104) C rfl rfl dX11_go_104 ?_
    refine az_al0 (pc := 105) C rfl rfl dX11_go_105 ?_
    refine az_getI (pc := 106) C fl_X11_226 rfl dX11_go_106 ?_
    refine az_cV1pi (pc := 109) (c := 11) C hd1 h mv_X11_byteAt ml_X11_229 rfl (fun x hx => A_X11_byteAt (by omega) hx) dX11_go_109 (fun r3 h => ?_)
    refine az_cS1pi (pc := 112) C hd1 h ms_X11_isGreat ml_X11_243 rfl (fun x hx => A_X11_isGreat (by omega) hx) dX11_go_112 (fun r4 h => ?_)
    refine az_if_eq (pc := 115) (tgt := 199) C h dX11_go_115 (by decide) (fun _ h => ?_) (fun _ h => ?_)
    · refine az_al0 (pc := 199) C rfl rfl dX11_go_199 ?_
      refine az_al0 (pc := 200) C rfl rfl dX11_go_200 ?_
      refine az_getI (pc := 201) C fl_X11_226 rfl dX11_go_201 ?_
      refine az_al0 (pc := 204) C rfl rfl dX11_go_204 ?_
      refine az_getI (pc := 205) C fl_X11_233 rfl dX11_go_205 ?_
      refine az_isub (pc := 208) C dX11_go_208 ?_
      refine az_bk6 (pc := 209) C dX11_go_209 ?_
      refine az_icmp_gt (pc := 211) (tgt := 218) C h dX11_go_211 (by decide) (fun _ h => ?_) (fun _ h => ?_)
      · refine az_ik1 (pc := 218) C dX11_go_218 ?_
        refine az_goto (pc := 219) (tgt := 234) C dX11_go_219 (by decide) ?_
        refine az_putI (pc := 234) C fl_X11_236 (Or.inl rfl) rfl dX11_go_234 ?_
        refine az_goto (pc := 237) (tgt := 367) C dX11_go_237 (by decide) ?_
        obtain rfl := Option.some.inj h
        exact az_return (pc := 367) C dX11_go_367 rfl
      refine az_il2 (pc := 214) C dX11_go_214 ?_
      refine az_if_le (pc := 215) (tgt := 222) C h dX11_go_215 (by decide) (fun _ h => ?_) (fun _ h => ?_)
      · refine az_il1 (pc := 222) C dX11_go_222 ?_
        refine az_cS1pi (pc := 223) C hd1 h ms_X11_isGreat ml_X11_243 rfl (fun x hx => A_X11_isGreat (by omega) hx) dX11_go_223 (fun r5 h => ?_)
        refine az_if_eq (pc := 226) (tgt := 233) C h dX11_go_226 (by decide) (fun _ h => ?_) (fun _ h => ?_)
        · refine az_ik3 (pc := 233) C dX11_go_233 ?_
          refine az_putI (pc := 234) C fl_X11_236 (Or.inl rfl) rfl dX11_go_234 ?_
          refine az_goto (pc := 237) (tgt := 367) C dX11_go_237 (by decide) ?_
          obtain rfl := Option.some.inj h
          exact az_return (pc := 367) C dX11_go_367 rfl
        refine az_ik2 (pc := 229) C dX11_go_229 ?_
        refine az_goto (pc := 230) (tgt := 234) C dX11_go_230 (by decide) ?_
        refine az_putI (pc := 234) C fl_X11_236 (Or.inl rfl) rfl dX11_go_234 ?_
        refine az_goto (pc := 237) (tgt := 367) C dX11_go_237 (by decide) ?_
        obtain rfl := Option.some.inj h
        exact az_return (pc := 367) C dX11_go_367 rfl
      refine az_ik1 (pc := 218) C dX11_go_218 ?_
      refine az_goto (pc := 219) (tgt := 234) C dX11_go_219 (by decide) ?_
      refine az_putI (pc := 234) C fl_X11_236 (Or.inl rfl) rfl dX11_go_234 ?_
      refine az_goto (pc := 237) (tgt := 367) C dX11_go_237 (by decide) ?_
      obtain rfl := Option.some.inj h
      exact az_return (pc := 367) C dX11_go_367 rfl
    exact (A_X11_go_118 C hD n (fun h => ih h) h)
set_option maxRecDepth 10000 in
set_option maxHeartbeats 4000000 in
theorem A_X11_go_247 {Z : az_Z} {d : Nat} (C : az_C Z yX11_go cX11_go 3 none d) (hD : 2 ≤ d) (n : Nat) (k : Nat) : ∀ {σ : az_Hp} {v0 v1 : Int} {r : az_Hp}, fz_X11_go_247 n k σ v0 v1 = some r → az_AW Z 3 247 [(13, v0), (0, v1), (31, 0)] [] σ (none, r) := by
  have hd1 : 1 ≤ d := by omega
  induction k with
  | zero => intro σ v0 v1 r h; simp [fz_X11_go_247] at h
  | succ k ih =>
    intro σ v0 v1 r h
    unfold fz_X11_go_247 at h
    refine az_al0 (pc := 247) C rfl rfl dX11_go_247 ?_
    refine az_al0 (pc := 248) C rfl rfl dX11_go_248 ?_
    refine az_getI (pc := 249) C fl_X11_226 rfl dX11_go_249 ?_
    refine az_cV1pi (pc := 252) (c := 11) C hd1 h mv_X11_byteAt ml_X11_229 rfl (fun x hx => A_X11_byteAt (by omega) hx) dX11_go_252 (fun r1 h => ?_)
    refine az_cS1pi (pc := 255) C hd1 h ms_X11_isDigit ml_X11_250 rfl (fun x hx => A_X11_isDigit (by omega) hx) dX11_go_255 (fun r2 h => ?_)
    refine az_if_eq (pc := 258) (tgt := 274) C h dX11_go_258 (by decide) (fun _ h => ?_) (fun _ h => ?_)
    · refine az_al0 (pc := 274) C rfl rfl dX11_go_274 ?_
      refine az_il1 (pc := 275) C dX11_go_275 ?_
      refine az_bk48 (pc := 276) C dX11_go_276 ?_
      refine az_isub (pc := 278) C dX11_go_278 ?_
      refine az_putI (pc := 279) C fl_X11_253 (Or.inl rfl) rfl dX11_go_279 ?_
      refine az_al0 (pc := 282) C rfl rfl dX11_go_282 ?_
      refine az_al0 (pc := 283) C rfl rfl dX11_go_283 ?_
      refine az_getI (pc := 284) C fl_X11_226 rfl dX11_go_284 ?_
      refine az_al0 (pc := 287) C rfl rfl dX11_go_287 ?_
      refine az_getI (pc := 288) C fl_X11_233 rfl dX11_go_288 ?_
      refine az_isub (pc := 291) C dX11_go_291 ?_
      refine az_ik1 (pc := 292) C dX11_go_292 ?_
      refine az_icmp_le (pc := 293) (tgt := 300) C h dX11_go_293 (by decide) (fun _ h => ?_) (fun _ h => ?_)
      · refine az_ik4 (pc := 300) C dX11_go_300 ?_
        refine az_putI (pc := 301) C fl_X11_236 (Or.inl rfl) rfl dX11_go_301 ?_
        refine az_goto (pc := 304) (tgt := 367) C dX11_go_304 (by decide) ?_
        obtain rfl := Option.some.inj h
        exact az_return (pc := 367) C dX11_go_367 rfl
      refine az_ik1 (pc := 296) C dX11_go_296 ?_
      refine az_goto (pc := 297) (tgt := 301) C dX11_go_297 (by decide) ?_
      refine az_putI (pc := 301) C fl_X11_236 (Or.inl rfl) rfl dX11_go_301 ?_
      refine az_goto (pc := 304) (tgt := 367) C dX11_go_304 (by decide) ?_
      obtain rfl := Option.some.inj h
      exact az_return (pc := 367) C dX11_go_367 rfl
    refine az_al0 (pc := 261) C rfl rfl dX11_go_261 ?_
    refine az_dup (pc := 262) C rfl rfl dX11_go_262 ?_
    refine az_getI (pc := 263) C fl_X11_226 rfl dX11_go_263 ?_
    refine az_ik1 (pc := 266) C dX11_go_266 ?_
    refine az_iadd (pc := 267) C dX11_go_267 ?_
    refine az_putI (pc := 268) C fl_X11_226 (Or.inl rfl) rfl dX11_go_268 ?_
    refine az_goto (pc := 271) (tgt := 247) C dX11_go_271 (by decide) ?_
    exact (ih h)
set_option maxRecDepth 10000 in
set_option maxHeartbeats 4000000 in
theorem A_X11_go_0 {Z : az_Z} {d : Nat} (C : az_C Z yX11_go cX11_go 3 none d) (hD : 2 ≤ d) (n : Nat) (k : Nat) : ∀ {σ : az_Hp} {v0 : Int} {r : az_Hp}, fz_X11_go_0 n k σ v0 = some r → az_AW Z 3 0 [(13, v0), (31, 0), (31, 0)] [] σ (none, r) := by
  have hd1 : 1 ≤ d := by omega
  induction k with
  | zero => intro σ v0 r h; simp [fz_X11_go_0] at h
  | succ k ih =>
    intro σ v0 r h
    unfold fz_X11_go_0 at h
    refine az_al0 (pc := 0) C rfl rfl dX11_go_0 ?_
    refine az_al0 (pc := 1) C rfl rfl dX11_go_1 ?_
    refine az_getI (pc := 2) C fl_X11_226 rfl dX11_go_2 ?_
    refine az_cV1pi (pc := 5) (c := 11) C hd1 h mv_X11_byteAt ml_X11_229 rfl (fun x hx => A_X11_byteAt (by omega) hx) dX11_go_5 (fun r1 h => ?_)
    refine az_bk32 (pc := 8) C dX11_go_8 ?_
    refine az_icmp_eq (pc := 10) (tgt := 26) C h dX11_go_10 (by decide) (fun _ h => ?_) (fun _ h => ?_)
    · refine az_al0 (pc := 26) C rfl rfl dX11_go_26 ?_
      refine az_dup (pc := 27) C rfl rfl dX11_go_27 ?_
      refine az_getI (pc := 28) C fl_X11_226 rfl dX11_go_28 ?_
      refine az_ik1 (pc := 31) C dX11_go_31 ?_
      refine az_iadd (pc := 32) C dX11_go_32 ?_
      refine az_putI (pc := 33) C fl_X11_226 (Or.inl rfl) rfl dX11_go_33 ?_
      refine az_goto (pc := 36) (tgt := 0) C dX11_go_36 (by decide) ?_
      exact (ih h)
    refine az_al0 (pc := 13) C rfl rfl dX11_go_13 ?_
    refine az_al0 (pc := 14) C rfl rfl dX11_go_14 ?_
    refine az_getI (pc := 15) C fl_X11_226 rfl dX11_go_15 ?_
    refine az_cV1pi (pc := 18) (c := 11) C hd1 h mv_X11_byteAt ml_X11_229 rfl (fun x hx => A_X11_byteAt (by omega) hx) dX11_go_18 (fun r2 h => ?_)
    refine az_bk10 (pc := 21) C dX11_go_21 ?_
    refine az_icmp_ne (pc := 23) (tgt := 39) C h dX11_go_23 (by decide) (fun _ h => ?_) (fun _ h => ?_)
    · refine az_al0 (pc := 39) C rfl rfl dX11_go_39 ?_
      refine az_al0 (pc := 40) C rfl rfl dX11_go_40 ?_
      refine az_getI (pc := 41) C fl_X11_226 rfl dX11_go_41 ?_
      refine az_putI (pc := 44) C fl_X11_233 (Or.inl rfl) rfl dX11_go_44 ?_
      refine az_al0 (pc := 47) C rfl rfl dX11_go_47 ?_
      refine az_al0 (pc := 48) C rfl rfl dX11_go_48 ?_
      refine az_getI (pc := 49) C fl_X11_226 rfl dX11_go_49 ?_
      refine az_cV1pi (pc := 52) (c := 11) C hd1 h mv_X11_byteAt ml_X11_229 rfl (fun x hx => A_X11_byteAt (by omega) hx) dX11_go_52 (fun r3 h => ?_)
      refine az_is1 (pc := 55) C rfl rfl dX11_go_55 ?_
      refine az_il1 (pc := 56) C dX11_go_56 ?_
      refine az_ikm1 (pc := 57) C dX11_go_57 ?_
      refine az_icmp_ne (pc := 58) (tgt := 69) C h dX11_go_58 (by decide) (fun _ h => ?_) (fun _ h => ?_)
      · refine az_il1 (pc := 69) C dX11_go_69 ?_
        refine az_cS1pi (pc := 70) C hd1 h ms_X11_isSmall ml_X11_239 rfl (fun x hx => A_X11_isSmall (by omega) hx) dX11_go_70 (fun r4 h => ?_)
        refine az_if_ne (pc := 73) (tgt := 83) C h dX11_go_73 (by decide) (fun _ h => ?_) (fun _ h => ?_)
        · refine az_ik0 (pc := 83) C dX11_go_83 ?_
          refine az_is2 (pc := 84) C rfl rfl dX11_go_84 ?_
          refine az_al0 (pc := 85) C rfl rfl dX11_go_85 ?_
          refine az_lconst (pc := 86) (x := 0) C dX11_go_86 (by decide) ?_
          refine az_putJ (pc := 87) C fl_X11_246 (Or.inl rfl) rfl dX11_go_87 ?_
          exact (A_X11_go_90 C hD n n h)
        refine az_il1 (pc := 76) C dX11_go_76 ?_
        refine az_cS1pi (pc := 77) C hd1 h ms_X11_isGreat ml_X11_243 rfl (fun x hx => A_X11_isGreat (by omega) hx) dX11_go_77 (fun r5 h => ?_)
        refine az_if_eq (pc := 80) (tgt := 240) C h dX11_go_80 (by decide) (fun _ h => ?_) (fun _ h => ?_)
        · refine az_il1 (pc := 240) C dX11_go_240 ?_
          refine az_cS1pi (pc := 241) C hd1 h ms_X11_isDigit ml_X11_250 rfl (fun x hx => A_X11_isDigit (by omega) hx) dX11_go_241 (fun r6 h => ?_)
          refine az_if_eq (pc := 244) (tgt := 307) C h dX11_go_244 (by decide) (fun _ h => ?_) (fun _ h => ?_)
          · refine az_al0 (pc := 307) C rfl rfl dX11_go_307 ?_
            refine az_dup (pc := 308) C rfl rfl dX11_go_308 ?_
            refine az_getI (pc := 309) C fl_X11_226 rfl dX11_go_309 ?_
            refine az_ik1 (pc := 312) C dX11_go_312 ?_
            refine az_iadd (pc := 313) C dX11_go_313 ?_
            refine az_putI (pc := 314) C fl_X11_226 (Or.inl rfl) rfl dX11_go_314 ?_
            refine az_al0 (pc := 317) C rfl rfl dX11_go_317 ?_
            refine az_il1 (pc := 318) C dX11_go_318 ?_
            refine az_bk59 (pc := 319) C dX11_go_319 ?_
            refine az_icmp_eq (pc := 321) (tgt := 354) C h dX11_go_321 (by decide) (fun _ h => ?_) (fun _ h => ?_)
            · refine az_ik5 (pc := 354) C dX11_go_354 ?_
              refine az_goto (pc := 355) (tgt := 359) C dX11_go_355 (by decide) ?_
              refine az_putI (pc := 359) C fl_X11_236 (Or.inl rfl) rfl dX11_go_359 ?_
              refine az_al0 (pc := 362) C rfl rfl dX11_go_362 ?_
              refine az_il1 (pc := 363) C dX11_go_363 ?_
              refine az_putI (pc := 364) C fl_X11_256 (Or.inl rfl) rfl dX11_go_364 ?_
              obtain rfl := Option.some.inj h
              exact az_return (pc := 367) C dX11_go_367 rfl
            refine az_il1 (pc := 324) C dX11_go_324 ?_
            refine az_bk40 (pc := 325) C dX11_go_325 ?_
            refine az_icmp_eq (pc := 327) (tgt := 354) C h dX11_go_327 (by decide) (fun _ h => ?_) (fun _ h => ?_)
            · refine az_ik5 (pc := 354) C dX11_go_354 ?_
              refine az_goto (pc := 355) (tgt := 359) C dX11_go_355 (by decide) ?_
              refine az_putI (pc := 359) C fl_X11_236 (Or.inl rfl) rfl dX11_go_359 ?_
              refine az_al0 (pc := 362) C rfl rfl dX11_go_362 ?_
              refine az_il1 (pc := 363) C dX11_go_363 ?_
              refine az_putI (pc := 364) C fl_X11_256 (Or.inl rfl) rfl dX11_go_364 ?_
              obtain rfl := Option.some.inj h
              exact az_return (pc := 367) C dX11_go_367 rfl
            refine az_il1 (pc := 330) C dX11_go_330 ?_
            refine az_bk41 (pc := 331) C dX11_go_331 ?_
            refine az_icmp_eq (pc := 333) (tgt := 354) C h dX11_go_333 (by decide) (fun _ h => ?_) (fun _ h => ?_)
            · refine az_ik5 (pc := 354) C dX11_go_354 ?_
              refine az_goto (pc := 355) (tgt := 359) C dX11_go_355 (by decide) ?_
              refine az_putI (pc := 359) C fl_X11_236 (Or.inl rfl) rfl dX11_go_359 ?_
              refine az_al0 (pc := 362) C rfl rfl dX11_go_362 ?_
              refine az_il1 (pc := 363) C dX11_go_363 ?_
              refine az_putI (pc := 364) C fl_X11_256 (Or.inl rfl) rfl dX11_go_364 ?_
              obtain rfl := Option.some.inj h
              exact az_return (pc := 367) C dX11_go_367 rfl
            refine az_il1 (pc := 336) C dX11_go_336 ?_
            refine az_bk44 (pc := 337) C dX11_go_337 ?_
            refine az_icmp_eq (pc := 339) (tgt := 354) C h dX11_go_339 (by decide) (fun _ h => ?_) (fun _ h => ?_)
            · refine az_ik5 (pc := 354) C dX11_go_354 ?_
              refine az_goto (pc := 355) (tgt := 359) C dX11_go_355 (by decide) ?_
              refine az_putI (pc := 359) C fl_X11_236 (Or.inl rfl) rfl dX11_go_359 ?_
              refine az_al0 (pc := 362) C rfl rfl dX11_go_362 ?_
              refine az_il1 (pc := 363) C dX11_go_363 ?_
              refine az_putI (pc := 364) C fl_X11_256 (Or.inl rfl) rfl dX11_go_364 ?_
              obtain rfl := Option.some.inj h
              exact az_return (pc := 367) C dX11_go_367 rfl
            refine az_il1 (pc := 342) C dX11_go_342 ?_
            refine az_bk61 (pc := 343) C dX11_go_343 ?_
            refine az_icmp_eq (pc := 345) (tgt := 354) C h dX11_go_345 (by decide) (fun _ h => ?_) (fun _ h => ?_)
            · refine az_ik5 (pc := 354) C dX11_go_354 ?_
              refine az_goto (pc := 355) (tgt := 359) C dX11_go_355 (by decide) ?_
              refine az_putI (pc := 359) C fl_X11_236 (Or.inl rfl) rfl dX11_go_359 ?_
              refine az_al0 (pc := 362) C rfl rfl dX11_go_362 ?_
              refine az_il1 (pc := 363) C dX11_go_363 ?_
              refine az_putI (pc := 364) C fl_X11_256 (Or.inl rfl) rfl dX11_go_364 ?_
              obtain rfl := Option.some.inj h
              exact az_return (pc := 367) C dX11_go_367 rfl
            refine az_il1 (pc := 348) C dX11_go_348 ?_
            refine az_bk63 (pc := 349) C dX11_go_349 ?_
            refine az_icmp_ne (pc := 351) (tgt := 358) C h dX11_go_351 (by decide) (fun _ h => ?_) (fun _ h => ?_)
            · refine az_ik1 (pc := 358) C dX11_go_358 ?_
              refine az_putI (pc := 359) C fl_X11_236 (Or.inl rfl) rfl dX11_go_359 ?_
              refine az_al0 (pc := 362) C rfl rfl dX11_go_362 ?_
              refine az_il1 (pc := 363) C dX11_go_363 ?_
              refine az_putI (pc := 364) C fl_X11_256 (Or.inl rfl) rfl dX11_go_364 ?_
              obtain rfl := Option.some.inj h
              exact az_return (pc := 367) C dX11_go_367 rfl
            refine az_ik5 (pc := 354) C dX11_go_354 ?_
            refine az_goto (pc := 355) (tgt := 359) C dX11_go_355 (by decide) ?_
            refine az_putI (pc := 359) C fl_X11_236 (Or.inl rfl) rfl dX11_go_359 ?_
            refine az_al0 (pc := 362) C rfl rfl dX11_go_362 ?_
            refine az_il1 (pc := 363) C dX11_go_363 ?_
            refine az_putI (pc := 364) C fl_X11_256 (Or.inl rfl) rfl dX11_go_364 ?_
            obtain rfl := Option.some.inj h
            exact az_return (pc := 367) C dX11_go_367 rfl
          exact (A_X11_go_247 C hD n n h)
        refine az_ik0 (pc := 83) C dX11_go_83 ?_
        refine az_is2 (pc := 84) C rfl rfl dX11_go_84 ?_
        refine az_al0 (pc := 85) C rfl rfl dX11_go_85 ?_
        refine az_lconst (pc := 86) (x := 0) C dX11_go_86 (by decide) ?_
        refine az_putJ (pc := 87) C fl_X11_246 (Or.inl rfl) rfl dX11_go_87 ?_
        exact (A_X11_go_90 C hD n n h)
      refine az_al0 (pc := 61) C rfl rfl dX11_go_61 ?_
      refine az_ik0 (pc := 62) C dX11_go_62 ?_
      refine az_putI (pc := 63) C fl_X11_236 (Or.inl rfl) rfl dX11_go_63 ?_
      refine az_goto (pc := 66) (tgt := 367) C dX11_go_66 (by decide) ?_
      obtain rfl := Option.some.inj h
      exact az_return (pc := 367) C dX11_go_367 rfl
    refine az_al0 (pc := 26) C rfl rfl dX11_go_26 ?_
    refine az_dup (pc := 27) C rfl rfl dX11_go_27 ?_
    refine az_getI (pc := 28) C fl_X11_226 rfl dX11_go_28 ?_
    refine az_ik1 (pc := 31) C dX11_go_31 ?_
    refine az_iadd (pc := 32) C dX11_go_32 ?_
    refine az_putI (pc := 33) C fl_X11_226 (Or.inl rfl) rfl dX11_go_33 ?_
    refine az_goto (pc := 36) (tgt := 0) C dX11_go_36 (by decide) ?_
    exact (ih h)
set_option maxRecDepth 10000 in
set_option maxHeartbeats 4000000 in
theorem A_X11_go_e {Z : az_Z} {d : Nat} (C : az_C Z yX11_go cX11_go 3 none d) (hD : 2 ≤ d) (n : Nat) {σ : az_Hp} {v0 : Int} {r : az_Hp} (h : fz_X11_go n σ v0 = some r) : az_AW Z 3 0 [(13, v0), (31, 0), (31, 0)] [] σ (none, r) := by
  have hd1 : 1 ≤ d := by omega
  unfold fz_X11_go at h
  exact (A_X11_go_0 C hD n n h)
set_option maxRecDepth 10000 in
set_option maxHeartbeats 4000000 in
theorem A_X11_go {l : Launch} {d : Nat} (hD : 2 ≤ d) (n : Nat) {σ : az_Hp} {v0 : Int} {r : az_Hp} (h : fz_X11_go n σ v0 = some r) : az_AC l yX11_go cX11_go 3 none d [(13, v0)] σ (none, r) := az_AC.of mt_X11_go rfl rfl rfl (fun Z hZ C => A_X11_go_e C hD n h)
theorem dX11_begins_0 : decode cX11_begins 0 = .ok (.aload_n 0, 1) := by decide +kernel
theorem dX11_begins_1 : decode cX11_begins 1 = .ok (.iload_n 1, 1) := by decide +kernel
theorem dX11_begins_2 : decode cX11_begins 2 = .ok (.putfield 223, 3) := by decide +kernel
theorem dX11_begins_5 : decode cX11_begins 5 = .ok (.aload_n 0, 1) := by decide +kernel
theorem dX11_begins_6 : decode cX11_begins 6 = .ok (.iconst 0, 1) := by decide +kernel
theorem dX11_begins_7 : decode cX11_begins 7 = .ok (.putfield 216, 3) := by decide +kernel
theorem dX11_begins_10 : decode cX11_begins 10 = .ok (.aload_n 0, 1) := by decide +kernel
theorem dX11_begins_11 : decode cX11_begins 11 = .ok (.iconst 0, 1) := by decide +kernel
theorem dX11_begins_12 : decode cX11_begins 12 = .ok (.putfield 226, 3) := by decide +kernel
theorem dX11_begins_15 : decode cX11_begins 15 = .ok (.aload_n 0, 1) := by decide +kernel
theorem dX11_begins_16 : decode cX11_begins 16 = .ok (.iconst 0, 1) := by decide +kernel
theorem dX11_begins_17 : decode cX11_begins 17 = .ok (.putfield 270, 3) := by decide +kernel
theorem dX11_begins_20 : decode cX11_begins 20 = .ok (.aload_n 0, 1) := by decide +kernel
theorem dX11_begins_21 : decode cX11_begins 21 = .ok (.iconst (-1), 1) := by decide +kernel
theorem dX11_begins_22 : decode cX11_begins 22 = .ok (.putfield 273, 3) := by decide +kernel
theorem dX11_begins_25 : decode cX11_begins 25 = .ok (.aload_n 0, 1) := by decide +kernel
theorem dX11_begins_26 : decode cX11_begins 26 = .ok (.invokevirtual 282, 3) := by decide +kernel
theorem dX11_begins_29 : decode cX11_begins 29 = .ok (.return_, 1) := by decide +kernel
set_option maxRecDepth 10000 in
set_option maxHeartbeats 4000000 in
theorem A_X11_begins_e {Z : az_Z} {d : Nat} (C : az_C Z yX11_begins cX11_begins 2 none d) (hD : 3 ≤ d) (n : Nat) {σ : az_Hp} {v0 v1 : Int} {r : az_Hp} (h : fz_X11_begins n σ v0 v1 = some r) : az_AW Z 2 0 [(13, v0), (0, v1)] [] σ (none, r) := by
  have hd1 : 1 ≤ d := by omega
  unfold fz_X11_begins at h
  refine az_al0 (pc := 0) C rfl rfl dX11_begins_0 ?_
  refine az_il1 (pc := 1) C dX11_begins_1 ?_
  refine az_putI (pc := 2) C fl_X11_223 (Or.inl rfl) rfl dX11_begins_2 ?_
  refine az_al0 (pc := 5) C rfl rfl dX11_begins_5 ?_
  refine az_ik0 (pc := 6) C dX11_begins_6 ?_
  refine az_putI (pc := 7) C fl_X11_216 (Or.inl rfl) rfl dX11_begins_7 ?_
  refine az_al0 (pc := 10) C rfl rfl dX11_begins_10 ?_
  refine az_ik0 (pc := 11) C dX11_begins_11 ?_
  refine az_putI (pc := 12) C fl_X11_226 (Or.inl rfl) rfl dX11_begins_12 ?_
  refine az_al0 (pc := 15) C rfl rfl dX11_begins_15 ?_
  refine az_ik0 (pc := 16) C dX11_begins_16 ?_
  refine az_putI (pc := 17) C fl_X11_270 (Or.inl rfl) rfl dX11_begins_17 ?_
  refine az_al0 (pc := 20) C rfl rfl dX11_begins_20 ?_
  refine az_ikm1 (pc := 21) C dX11_begins_21 ?_
  refine az_putI (pc := 22) C fl_X11_273 (Or.inl rfl) rfl dX11_begins_22 ?_
  refine az_al0 (pc := 25) C rfl rfl dX11_begins_25 ?_
  refine az_cV0v (pc := 26) (c := 11) C hd1 h mv_X11_go ml_X11_282 rfl (fun x hx => A_X11_go (by omega) n hx) dX11_begins_26 (fun r1 h => ?_)
  obtain rfl := Option.some.inj h
  exact az_return (pc := 29) C dX11_begins_29 rfl
set_option maxRecDepth 10000 in
set_option maxHeartbeats 4000000 in
theorem A_X11_begins {l : Launch} {d : Nat} (hD : 3 ≤ d) (n : Nat) {σ : az_Hp} {v0 v1 : Int} {r : az_Hp} (h : fz_X11_begins n σ v0 v1 = some r) : az_AC l yX11_begins cX11_begins 2 none d [(13, v0), (0, v1)] σ (none, r) := az_AC.of mt_X11_begins rfl rfl rfl (fun Z hZ C => A_X11_begins_e C hD n h)
theorem dX11_ends_0 : decode cX11_ends 0 = .ok (.aload_n 0, 1) := by decide +kernel
theorem dX11_ends_1 : decode cX11_ends 1 = .ok (.aload_n 0, 1) := by decide +kernel
theorem dX11_ends_2 : decode cX11_ends 2 = .ok (.getfield 270, 3) := by decide +kernel
theorem dX11_ends_5 : decode cX11_ends 5 = .ok (.putfield 13, 3) := by decide +kernel
theorem dX11_ends_8 : decode cX11_ends 8 = .ok (.aload_n 0, 1) := by decide +kernel
theorem dX11_ends_9 : decode cX11_ends 9 = .ok (.aload_n 0, 1) := by decide +kernel
theorem dX11_ends_10 : decode cX11_ends 10 = .ok (.getfield 273, 3) := by decide +kernel
theorem dX11_ends_13 : decode cX11_ends 13 = .ok (.putfield 17, 3) := by decide +kernel
theorem dX11_ends_16 : decode cX11_ends 16 = .ok (.iload_n 1, 1) := by decide +kernel
theorem dX11_ends_17 : decode cX11_ends 17 = .ok (.ireturn, 1) := by decide +kernel
set_option maxRecDepth 10000 in
set_option maxHeartbeats 4000000 in
theorem A_X11_ends_e {Z : az_Z} {d : Nat} (C : az_C Z yX11_ends cX11_ends 2 (some .boolean) d) (hD : 1 ≤ d) {σ : az_Hp} {v0 v1 : Int} {r : (Int × az_Hp)} (h : fz_X11_ends σ v0 v1 = some r) : az_AW Z 2 0 [(13, v0), (0, v1)] [] σ (some (0, r.1), r.2) := by
  have hd1 : 1 ≤ d := by omega
  unfold fz_X11_ends at h
  refine az_al0 (pc := 0) C rfl rfl dX11_ends_0 ?_
  refine az_al0 (pc := 1) C rfl rfl dX11_ends_1 ?_
  refine az_getI (pc := 2) C fl_X11_270 rfl dX11_ends_2 ?_
  refine az_putI (pc := 5) C fl_X11_13 (Or.inl rfl) rfl dX11_ends_5 ?_
  refine az_al0 (pc := 8) C rfl rfl dX11_ends_8 ?_
  refine az_al0 (pc := 9) C rfl rfl dX11_ends_9 ?_
  refine az_getI (pc := 10) C fl_X11_273 rfl dX11_ends_10 ?_
  refine az_putI (pc := 13) C fl_X11_17 (Or.inl rfl) rfl dX11_ends_13 ?_
  refine az_il1 (pc := 16) C dX11_ends_16 ?_
  obtain ⟨hz, h⟩ := az_zif h
  obtain rfl := Option.some.inj h
  exact az_zreturn (pc := 17) C hz dX11_ends_17 rfl
set_option maxRecDepth 10000 in
set_option maxHeartbeats 4000000 in
theorem A_X11_ends {l : Launch} {d : Nat} (hD : 1 ≤ d) {σ : az_Hp} {v0 v1 : Int} {r : (Int × az_Hp)} (h : fz_X11_ends σ v0 v1 = some r) : az_AC l yX11_ends cX11_ends 2 (some .boolean) d [(13, v0), (0, v1)] σ (some (0, r.1), r.2) := az_AC.of mt_X11_ends rfl rfl rfl (fun Z hZ C => A_X11_ends_e C hD h)
theorem dX11_laysCompatible_0 : decode cX11_laysCompatible 0 = .ok (.iconst 0, 1) := by decide +kernel
theorem dX11_laysCompatible_1 : decode cX11_laysCompatible 1 = .ok (.istore_n 1, 1) := by decide +kernel
theorem dX11_laysCompatible_2 : decode cX11_laysCompatible 2 = .ok (.iload_n 1, 1) := by decide +kernel
theorem dX11_laysCompatible_3 : decode cX11_laysCompatible 3 = .ok (.aload_n 0, 1) := by decide +kernel
theorem dX11_laysCompatible_4 : decode cX11_laysCompatible 4 = .ok (.getfield 26, 3) := by decide +kernel
theorem dX11_laysCompatible_7 : decode cX11_laysCompatible 7 = .ok (.aload_n 0, 1) := by decide +kernel
theorem dX11_laysCompatible_8 : decode cX11_laysCompatible 8 = .ok (.getfield 285, 3) := by decide +kernel
theorem dX11_laysCompatible_11 : decode cX11_laysCompatible 11 = .ok (.iaload, 1) := by decide +kernel
theorem dX11_laysCompatible_12 : decode cX11_laysCompatible 12 = .ok (.if_icmp .ge 93, 3) := by decide +kernel
theorem dX11_laysCompatible_15 : decode cX11_laysCompatible 15 = .ok (.iconst 0, 1) := by decide +kernel
theorem dX11_laysCompatible_16 : decode cX11_laysCompatible 16 = .ok (.istore_n 2, 1) := by decide +kernel
theorem dX11_laysCompatible_17 : decode cX11_laysCompatible 17 = .ok (.iload_n 2, 1) := by decide +kernel
theorem dX11_laysCompatible_18 : decode cX11_laysCompatible 18 = .ok (.aload_n 0, 1) := by decide +kernel
theorem dX11_laysCompatible_19 : decode cX11_laysCompatible 19 = .ok (.getfield 26, 3) := by decide +kernel
theorem dX11_laysCompatible_22 : decode cX11_laysCompatible 22 = .ok (.aload_n 0, 1) := by decide +kernel
theorem dX11_laysCompatible_23 : decode cX11_laysCompatible 23 = .ok (.getfield 285, 3) := by decide +kernel
theorem dX11_laysCompatible_26 : decode cX11_laysCompatible 26 = .ok (.iaload, 1) := by decide +kernel
theorem dX11_laysCompatible_27 : decode cX11_laysCompatible 27 = .ok (.if_icmp .ge 72, 3) := by decide +kernel
theorem dX11_laysCompatible_30 : decode cX11_laysCompatible 30 = .ok (.aload_n 0, 1) := by decide +kernel
theorem dX11_laysCompatible_31 : decode cX11_laysCompatible 31 = .ok (.iload_n 1, 1) := by decide +kernel
theorem dX11_laysCompatible_32 : decode cX11_laysCompatible 32 = .ok (.iload_n 2, 1) := by decide +kernel
theorem dX11_laysCompatible_33 : decode cX11_laysCompatible 33 = .ok (.invokevirtual 468, 3) := by decide +kernel
theorem dX11_laysCompatible_36 : decode cX11_laysCompatible 36 = .ok (.istore_n 3, 1) := by decide +kernel
theorem dX11_laysCompatible_37 : decode cX11_laysCompatible 37 = .ok (.aload_n 0, 1) := by decide +kernel
theorem dX11_laysCompatible_38 : decode cX11_laysCompatible 38 = .ok (.getfield 106, 3) := by decide +kernel
theorem dX11_laysCompatible_41 : decode cX11_laysCompatible 41 = .ok (.bipush 16, 2) := by decide +kernel
theorem dX11_laysCompatible_43 : decode cX11_laysCompatible 43 = .ok (.iload_n 1, 1) := by decide +kernel
theorem dX11_laysCompatible_44 : decode cX11_laysCompatible 44 = .ok (.imul, 1) := by decide +kernel
theorem dX11_laysCompatible_45 : decode cX11_laysCompatible 45 = .ok (.iload_n 2, 1) := by decide +kernel
theorem dX11_laysCompatible_46 : decode cX11_laysCompatible 46 = .ok (.iadd, 1) := by decide +kernel
theorem dX11_laysCompatible_47 : decode cX11_laysCompatible 47 = .ok (.iload_n 3, 1) := by decide +kernel
theorem dX11_laysCompatible_48 : decode cX11_laysCompatible 48 = .ok (.iastore, 1) := by decide +kernel
theorem dX11_laysCompatible_49 : decode cX11_laysCompatible 49 = .ok (.aload_n 0, 1) := by decide +kernel
theorem dX11_laysCompatible_50 : decode cX11_laysCompatible 50 = .ok (.getfield 109, 3) := by decide +kernel
theorem dX11_laysCompatible_53 : decode cX11_laysCompatible 53 = .ok (.bipush 16, 2) := by decide +kernel
theorem dX11_laysCompatible_55 : decode cX11_laysCompatible 55 = .ok (.iload_n 1, 1) := by decide +kernel
theorem dX11_laysCompatible_56 : decode cX11_laysCompatible 56 = .ok (.imul, 1) := by decide +kernel
theorem dX11_laysCompatible_57 : decode cX11_laysCompatible 57 = .ok (.iload_n 2, 1) := by decide +kernel
theorem dX11_laysCompatible_58 : decode cX11_laysCompatible 58 = .ok (.iadd, 1) := by decide +kernel
theorem dX11_laysCompatible_59 : decode cX11_laysCompatible 59 = .ok (.iload_n 3, 1) := by decide +kernel
theorem dX11_laysCompatible_60 : decode cX11_laysCompatible 60 = .ok (.ifCond .eq 27, 3) := by decide +kernel
theorem dX11_laysCompatible_63 : decode cX11_laysCompatible 63 = .ok (.iload_n 3, 1) := by decide +kernel
theorem dX11_laysCompatible_64 : decode cX11_laysCompatible 64 = .ok (.iconst 1, 1) := by decide +kernel
theorem dX11_laysCompatible_65 : decode cX11_laysCompatible 65 = .ok (.if_icmp .ne 26, 3) := by decide +kernel
theorem dX11_laysCompatible_68 : decode cX11_laysCompatible 68 = .ok (.aload_n 0, 1) := by decide +kernel
theorem dX11_laysCompatible_69 : decode cX11_laysCompatible 69 = .ok (.aload_n 0, 1) := by decide +kernel
theorem dX11_laysCompatible_70 : decode cX11_laysCompatible 70 = .ok (.getfield 103, 3) := by decide +kernel
theorem dX11_laysCompatible_73 : decode cX11_laysCompatible 73 = .ok (.iconst 2, 1) := by decide +kernel
theorem dX11_laysCompatible_74 : decode cX11_laysCompatible 74 = .ok (.iaload, 1) := by decide +kernel
theorem dX11_laysCompatible_75 : decode cX11_laysCompatible 75 = .ok (.aload_n 0, 1) := by decide +kernel
theorem dX11_laysCompatible_76 : decode cX11_laysCompatible 76 = .ok (.getfield 103, 3) := by decide +kernel
theorem dX11_laysCompatible_79 : decode cX11_laysCompatible 79 = .ok (.iconst 3, 1) := by decide +kernel
theorem dX11_laysCompatible_80 : decode cX11_laysCompatible 80 = .ok (.iaload, 1) := by decide +kernel
theorem dX11_laysCompatible_81 : decode cX11_laysCompatible 81 = .ok (.invokevirtual 448, 3) := by decide +kernel
theorem dX11_laysCompatible_84 : decode cX11_laysCompatible 84 = .ok (.ifCond .eq 7, 3) := by decide +kernel
theorem dX11_laysCompatible_87 : decode cX11_laysCompatible 87 = .ok (.iconst 1, 1) := by decide +kernel
theorem dX11_laysCompatible_88 : decode cX11_laysCompatible 88 = .ok (.goto 4, 3) := by decide +kernel
theorem dX11_laysCompatible_91 : decode cX11_laysCompatible 91 = .ok (.iconst 0, 1) := by decide +kernel
theorem dX11_laysCompatible_92 : decode cX11_laysCompatible 92 = .ok (.bastore, 1) := by decide +kernel
theorem dX11_laysCompatible_93 : decode cX11_laysCompatible 93 = .ok (.iinc 2 1, 3) := by decide +kernel
theorem dX11_laysCompatible_96 : decode cX11_laysCompatible 96 = .ok (.goto (-79), 3) := by decide +kernel
theorem dX11_laysCompatible_99 : decode cX11_laysCompatible 99 = .ok (.iinc 1 1, 3) := by decide +kernel
theorem dX11_laysCompatible_102 : decode cX11_laysCompatible 102 = .ok (.goto (-100), 3) := by decide +kernel
theorem dX11_laysCompatible_105 : decode cX11_laysCompatible 105 = .ok (.return_, 1) := by decide +kernel
set_option maxRecDepth 10000 in
set_option maxHeartbeats 4000000 in
theorem A_X11_laysCompatible_17 {Z : az_Z} {d : Nat} (C : az_C Z yX11_laysCompatible cX11_laysCompatible 4 none d) (hD : 209 ≤ d) (n : Nat) {k2 : az_Hp → Int → Int → Option az_Hp} (hk2 : ∀ {σ : az_Hp} {v0 v1 : Int} {r : az_Hp}, k2 σ v0 v1 = some r → az_AW Z 4 2 [(13, v0), (0, v1), (31, 0), (31, 0)] [] σ (none, r)) (k : Nat) : ∀ {σ : az_Hp} {v0 v1 v2 : Int} {r : az_Hp}, fz_X11_laysCompatible_17 n k2 k σ v0 v1 v2 = some r → az_AW Z 4 17 [(13, v0), (0, v1), (0, v2), (31, 0)] [] σ (none, r) := by
  have hd1 : 1 ≤ d := by omega
  induction k with
  | zero => intro σ v0 v1 v2 r h; simp [fz_X11_laysCompatible_17] at h
  | succ k ih =>
    intro σ v0 v1 v2 r h
    unfold fz_X11_laysCompatible_17 at h
    refine az_il2 (pc := 17) C dX11_laysCompatible_17 ?_
    refine az_al0 (pc := 18) C rfl rfl dX11_laysCompatible_18 ?_
    refine az_getR (pc := 19) (c2 := 13) C h fl_X11_26 rfl rfl dX11_laysCompatible_19 (fun h => ?_)
    refine az_al0 (pc := 22) C rfl rfl dX11_laysCompatible_22 ?_
    refine az_getI (pc := 23) C fl_X11_285 rfl dX11_laysCompatible_23 ?_
    refine az_iaload (pc := 26) C h dX11_laysCompatible_26 (fun h => ?_)
    refine az_icmp_ge (pc := 27) (tgt := 99) C h dX11_laysCompatible_27 (by decide) (fun _ h => ?_) (fun _ h => ?_)
    · refine az_ii1 (pc := 99) C az_n1 rfl rfl dX11_laysCompatible_99 ?_
      refine az_goto (pc := 102) (tgt := 2) C dX11_laysCompatible_102 (by decide) ?_
      exact (az_wkk (hk2 h) (az_sE (az_sE (az_sJ (az_sJ az_sN)))))
    refine az_al0 (pc := 30) C rfl rfl dX11_laysCompatible_30 ?_
    refine az_il1 (pc := 31) C dX11_laysCompatible_31 ?_
    refine az_il2 (pc := 32) C dX11_laysCompatible_32 ?_
    refine az_cV2ii (pc := 33) (c := 11) C hd1 h mv_X11_meeting ml_X11_468 rfl (fun x hx => A_X11_meeting (by omega) n hx) dX11_laysCompatible_33 (fun r3 h => ?_)
    refine az_is3 (pc := 36) C rfl rfl dX11_laysCompatible_36 ?_
    refine az_al0 (pc := 37) C rfl rfl dX11_laysCompatible_37 ?_
    refine az_getR (pc := 38) (c2 := 13) C h fl_X11_106 rfl rfl dX11_laysCompatible_38 (fun h => ?_)
    refine az_bk16 (pc := 41) C dX11_laysCompatible_41 ?_
    refine az_il1 (pc := 43) C dX11_laysCompatible_43 ?_
    refine az_imul (pc := 44) C dX11_laysCompatible_44 ?_
    refine az_il2 (pc := 45) C dX11_laysCompatible_45 ?_
    refine az_iadd (pc := 46) C dX11_laysCompatible_46 ?_
    refine az_il3 (pc := 47) C dX11_laysCompatible_47 ?_
    refine az_iastore (pc := 48) C h dX11_laysCompatible_48 (fun h => ?_)
    refine az_al0 (pc := 49) C rfl rfl dX11_laysCompatible_49 ?_
    refine az_getR (pc := 50) (c2 := 15) C h fl_X11_109 rfl rfl dX11_laysCompatible_50 (fun h => ?_)
    refine az_bk16 (pc := 53) C dX11_laysCompatible_53 ?_
    refine az_il1 (pc := 55) C dX11_laysCompatible_55 ?_
    refine az_imul (pc := 56) C dX11_laysCompatible_56 ?_
    refine az_il2 (pc := 57) C dX11_laysCompatible_57 ?_
    refine az_iadd (pc := 58) C dX11_laysCompatible_58 ?_
    refine az_il3 (pc := 59) C dX11_laysCompatible_59 ?_
    refine az_if_eq (pc := 60) (tgt := 87) C h dX11_laysCompatible_60 (by decide) (fun _ h => ?_) (fun _ h => ?_)
    · refine az_ik1 (pc := 87) C dX11_laysCompatible_87 ?_
      refine az_goto (pc := 88) (tgt := 92) C dX11_laysCompatible_88 (by decide) ?_
      refine az_zastore (pc := 92) C h dX11_laysCompatible_92 (fun h => ?_)
      refine az_ii2 (pc := 93) C az_n1 rfl rfl dX11_laysCompatible_93 ?_
      refine az_goto (pc := 96) (tgt := 17) C dX11_laysCompatible_96 (by decide) ?_
      exact (az_wkk (ih h) (az_sE (az_sE (az_sE (az_sJ az_sN)))))
    refine az_il3 (pc := 63) C dX11_laysCompatible_63 ?_
    refine az_ik1 (pc := 64) C dX11_laysCompatible_64 ?_
    refine az_icmp_ne (pc := 65) (tgt := 91) C h dX11_laysCompatible_65 (by decide) (fun _ h => ?_) (fun _ h => ?_)
    · refine az_ik0 (pc := 91) C dX11_laysCompatible_91 ?_
      refine az_zastore (pc := 92) C h dX11_laysCompatible_92 (fun h => ?_)
      refine az_ii2 (pc := 93) C az_n1 rfl rfl dX11_laysCompatible_93 ?_
      refine az_goto (pc := 96) (tgt := 17) C dX11_laysCompatible_96 (by decide) ?_
      exact (az_wkk (ih h) (az_sE (az_sE (az_sE (az_sJ az_sN)))))
    refine az_al0 (pc := 68) C rfl rfl dX11_laysCompatible_68 ?_
    refine az_al0 (pc := 69) C rfl rfl dX11_laysCompatible_69 ?_
    refine az_getR (pc := 70) (c2 := 13) C h fl_X11_103 rfl rfl dX11_laysCompatible_70 (fun h => ?_)
    refine az_ik2 (pc := 73) C dX11_laysCompatible_73 ?_
    refine az_iaload (pc := 74) C h dX11_laysCompatible_74 (fun h => ?_)
    refine az_al0 (pc := 75) C rfl rfl dX11_laysCompatible_75 ?_
    refine az_getR (pc := 76) (c2 := 13) C h fl_X11_103 rfl rfl dX11_laysCompatible_76 (fun h => ?_)
    refine az_ik3 (pc := 79) C dX11_laysCompatible_79 ?_
    refine az_iaload (pc := 80) C h dX11_laysCompatible_80 (fun h => ?_)
    refine az_cV2pi (pc := 81) (c := 11) C hd1 h mv_X11_areSame ml_X11_448 rfl (fun x hx => A_X11_areSame n 200 (by omega) hx) dX11_laysCompatible_81 (fun r13 h => ?_)
    refine az_if_eq (pc := 84) (tgt := 91) C h dX11_laysCompatible_84 (by decide) (fun _ h => ?_) (fun _ h => ?_)
    · refine az_ik0 (pc := 91) C dX11_laysCompatible_91 ?_
      refine az_zastore (pc := 92) C h dX11_laysCompatible_92 (fun h => ?_)
      refine az_ii2 (pc := 93) C az_n1 rfl rfl dX11_laysCompatible_93 ?_
      refine az_goto (pc := 96) (tgt := 17) C dX11_laysCompatible_96 (by decide) ?_
      exact (az_wkk (ih h) (az_sE (az_sE (az_sE (az_sJ az_sN)))))
    refine az_ik1 (pc := 87) C dX11_laysCompatible_87 ?_
    refine az_goto (pc := 88) (tgt := 92) C dX11_laysCompatible_88 (by decide) ?_
    refine az_zastore (pc := 92) C h dX11_laysCompatible_92 (fun h => ?_)
    refine az_ii2 (pc := 93) C az_n1 rfl rfl dX11_laysCompatible_93 ?_
    refine az_goto (pc := 96) (tgt := 17) C dX11_laysCompatible_96 (by decide) ?_
    exact (az_wkk (ih h) (az_sE (az_sE (az_sE (az_sJ az_sN)))))
set_option maxRecDepth 10000 in
set_option maxHeartbeats 4000000 in
theorem A_X11_laysCompatible_2 {Z : az_Z} {d : Nat} (C : az_C Z yX11_laysCompatible cX11_laysCompatible 4 none d) (hD : 209 ≤ d) (n : Nat) (k : Nat) : ∀ {σ : az_Hp} {v0 v1 : Int} {r : az_Hp}, fz_X11_laysCompatible_2 n k σ v0 v1 = some r → az_AW Z 4 2 [(13, v0), (0, v1), (31, 0), (31, 0)] [] σ (none, r) := by
  have hd1 : 1 ≤ d := by omega
  induction k with
  | zero => intro σ v0 v1 r h; simp [fz_X11_laysCompatible_2] at h
  | succ k ih =>
    intro σ v0 v1 r h
    unfold fz_X11_laysCompatible_2 at h
    refine az_il1 (pc := 2) C dX11_laysCompatible_2 ?_
    refine az_al0 (pc := 3) C rfl rfl dX11_laysCompatible_3 ?_
    refine az_getR (pc := 4) (c2 := 13) C h fl_X11_26 rfl rfl dX11_laysCompatible_4 (fun h => ?_)
    refine az_al0 (pc := 7) C rfl rfl dX11_laysCompatible_7 ?_
    refine az_getI (pc := 8) C fl_X11_285 rfl dX11_laysCompatible_8 ?_
    refine az_iaload (pc := 11) C h dX11_laysCompatible_11 (fun h => ?_)
    refine az_icmp_ge (pc := 12) (tgt := 105) C h dX11_laysCompatible_12 (by decide) (fun _ h => ?_) (fun _ h => ?_)
    · obtain rfl := Option.some.inj h
      exact az_return (pc := 105) C dX11_laysCompatible_105 rfl
    refine az_ik0 (pc := 15) C dX11_laysCompatible_15 ?_
    refine az_is2 (pc := 16) C rfl rfl dX11_laysCompatible_16 ?_
    exact (A_X11_laysCompatible_17 C hD n (fun h => ih h) n h)
set_option maxRecDepth 10000 in
set_option maxHeartbeats 4000000 in
theorem A_X11_laysCompatible_e {Z : az_Z} {d : Nat} (C : az_C Z yX11_laysCompatible cX11_laysCompatible 4 none d) (hD : 209 ≤ d) (n : Nat) {σ : az_Hp} {v0 : Int} {r : az_Hp} (h : fz_X11_laysCompatible n σ v0 = some r) : az_AW Z 4 0 [(13, v0), (31, 0), (31, 0), (31, 0)] [] σ (none, r) := by
  have hd1 : 1 ≤ d := by omega
  unfold fz_X11_laysCompatible at h
  refine az_ik0 (pc := 0) C dX11_laysCompatible_0 ?_
  refine az_is1 (pc := 1) C rfl rfl dX11_laysCompatible_1 ?_
  exact (A_X11_laysCompatible_2 C hD n n h)
set_option maxRecDepth 10000 in
set_option maxHeartbeats 4000000 in
theorem A_X11_laysCompatible {l : Launch} {d : Nat} (hD : 209 ≤ d) (n : Nat) {σ : az_Hp} {v0 : Int} {r : az_Hp} (h : fz_X11_laysCompatible n σ v0 = some r) : az_AC l yX11_laysCompatible cX11_laysCompatible 4 none d [(13, v0)] σ (none, r) := az_AC.of mt_X11_laysCompatible rfl rfl rfl (fun Z hZ C => A_X11_laysCompatible_e C hD n h)
theorem dX11_bad_0 : decode cX11_bad 0 = .ok (.aload_n 0, 1) := by decide +kernel
theorem dX11_bad_1 : decode cX11_bad 1 = .ok (.aload_n 0, 1) := by decide +kernel
theorem dX11_bad_2 : decode cX11_bad 2 = .ok (.getfield 236, 3) := by decide +kernel
theorem dX11_bad_5 : decode cX11_bad 5 = .ok (.iconst 1, 1) := by decide +kernel
theorem dX11_bad_6 : decode cX11_bad 6 = .ok (.if_icmp .ne 7, 3) := by decide +kernel
theorem dX11_bad_9 : decode cX11_bad 9 = .ok (.iconst 1, 1) := by decide +kernel
theorem dX11_bad_10 : decode cX11_bad 10 = .ok (.goto 4, 3) := by decide +kernel
theorem dX11_bad_13 : decode cX11_bad 13 = .ok (.iload_n 1, 1) := by decide +kernel
theorem dX11_bad_14 : decode cX11_bad 14 = .ok (.putfield 270, 3) := by decide +kernel
theorem dX11_bad_17 : decode cX11_bad 17 = .ok (.aload_n 0, 1) := by decide +kernel
theorem dX11_bad_18 : decode cX11_bad 18 = .ok (.aload_n 0, 1) := by decide +kernel
theorem dX11_bad_19 : decode cX11_bad 19 = .ok (.getfield 233, 3) := by decide +kernel
theorem dX11_bad_22 : decode cX11_bad 22 = .ok (.putfield 273, 3) := by decide +kernel
theorem dX11_bad_25 : decode cX11_bad 25 = .ok (.iconst 0, 1) := by decide +kernel
theorem dX11_bad_26 : decode cX11_bad 26 = .ok (.ireturn, 1) := by decide +kernel
set_option maxRecDepth 10000 in
set_option maxHeartbeats 4000000 in
theorem A_X11_bad_e {Z : az_Z} {d : Nat} (C : az_C Z yX11_bad cX11_bad 2 (some .boolean) d) (hD : 1 ≤ d) {σ : az_Hp} {v0 v1 : Int} {r : (Int × az_Hp)} (h : fz_X11_bad σ v0 v1 = some r) : az_AW Z 2 0 [(13, v0), (0, v1)] [] σ (some (0, r.1), r.2) := by
  have hd1 : 1 ≤ d := by omega
  unfold fz_X11_bad at h
  refine az_al0 (pc := 0) C rfl rfl dX11_bad_0 ?_
  refine az_al0 (pc := 1) C rfl rfl dX11_bad_1 ?_
  refine az_getI (pc := 2) C fl_X11_236 rfl dX11_bad_2 ?_
  refine az_ik1 (pc := 5) C dX11_bad_5 ?_
  refine az_icmp_ne (pc := 6) (tgt := 13) C h dX11_bad_6 (by decide) (fun _ h => ?_) (fun _ h => ?_)
  · refine az_il1 (pc := 13) C dX11_bad_13 ?_
    refine az_putI (pc := 14) C fl_X11_270 (Or.inl rfl) rfl dX11_bad_14 ?_
    refine az_al0 (pc := 17) C rfl rfl dX11_bad_17 ?_
    refine az_al0 (pc := 18) C rfl rfl dX11_bad_18 ?_
    refine az_getI (pc := 19) C fl_X11_233 rfl dX11_bad_19 ?_
    refine az_putI (pc := 22) C fl_X11_273 (Or.inl rfl) rfl dX11_bad_22 ?_
    refine az_ik0 (pc := 25) C dX11_bad_25 ?_
    obtain rfl := Option.some.inj h
    exact az_zreturn (pc := 26) C (by decide) dX11_bad_26 rfl
  refine az_ik1 (pc := 9) C dX11_bad_9 ?_
  refine az_goto (pc := 10) (tgt := 14) C dX11_bad_10 (by decide) ?_
  refine az_putI (pc := 14) C fl_X11_270 (Or.inl rfl) rfl dX11_bad_14 ?_
  refine az_al0 (pc := 17) C rfl rfl dX11_bad_17 ?_
  refine az_al0 (pc := 18) C rfl rfl dX11_bad_18 ?_
  refine az_getI (pc := 19) C fl_X11_233 rfl dX11_bad_19 ?_
  refine az_putI (pc := 22) C fl_X11_273 (Or.inl rfl) rfl dX11_bad_22 ?_
  refine az_ik0 (pc := 25) C dX11_bad_25 ?_
  obtain rfl := Option.some.inj h
  exact az_zreturn (pc := 26) C (by decide) dX11_bad_26 rfl
set_option maxRecDepth 10000 in
set_option maxHeartbeats 4000000 in
theorem A_X11_bad {l : Launch} {d : Nat} (hD : 1 ≤ d) {σ : az_Hp} {v0 v1 : Int} {r : (Int × az_Hp)} (h : fz_X11_bad σ v0 v1 = some r) : az_AC l yX11_bad cX11_bad 2 (some .boolean) d [(13, v0), (0, v1)] σ (some (0, r.1), r.2) := az_AC.of mt_X11_bad rfl rfl rfl (fun Z hZ C => A_X11_bad_e C hD h)
theorem dX11_spelt_0 : decode cX11_spelt 0 = .ok (.iload_n 0, 1) := by decide +kernel
theorem dX11_spelt_1 : decode cX11_spelt 1 = .ok (.i2l, 1) := by decide +kernel
theorem dX11_spelt_2 : decode cX11_spelt 2 = .ok (.bipush 8, 2) := by decide +kernel
theorem dX11_spelt_4 : decode cX11_spelt 4 = .ok (.lshl, 1) := by decide +kernel
theorem dX11_spelt_5 : decode cX11_spelt 5 = .ok (.iload_n 1, 1) := by decide +kernel
theorem dX11_spelt_6 : decode cX11_spelt 6 = .ok (.i2l, 1) := by decide +kernel
theorem dX11_spelt_7 : decode cX11_spelt 7 = .ok (.lor, 1) := by decide +kernel
theorem dX11_spelt_8 : decode cX11_spelt 8 = .ok (.lstore 6, 2) := by decide +kernel
theorem dX11_spelt_10 : decode cX11_spelt 10 = .ok (.iload_n 2, 1) := by decide +kernel
theorem dX11_spelt_11 : decode cX11_spelt 11 = .ok (.ifCond .le 13, 3) := by decide +kernel
theorem dX11_spelt_14 : decode cX11_spelt 14 = .ok (.lload 6, 2) := by decide +kernel
theorem dX11_spelt_16 : decode cX11_spelt 16 = .ok (.bipush 8, 2) := by decide +kernel
theorem dX11_spelt_18 : decode cX11_spelt 18 = .ok (.lshl, 1) := by decide +kernel
theorem dX11_spelt_19 : decode cX11_spelt 19 = .ok (.iload_n 2, 1) := by decide +kernel
theorem dX11_spelt_20 : decode cX11_spelt 20 = .ok (.i2l, 1) := by decide +kernel
theorem dX11_spelt_21 : decode cX11_spelt 21 = .ok (.lor, 1) := by decide +kernel
theorem dX11_spelt_22 : decode cX11_spelt 22 = .ok (.lstore 6, 2) := by decide +kernel
theorem dX11_spelt_24 : decode cX11_spelt 24 = .ok (.iload_n 3, 1) := by decide +kernel
theorem dX11_spelt_25 : decode cX11_spelt 25 = .ok (.ifCond .le 13, 3) := by decide +kernel
theorem dX11_spelt_28 : decode cX11_spelt 28 = .ok (.lload 6, 2) := by decide +kernel
theorem dX11_spelt_30 : decode cX11_spelt 30 = .ok (.bipush 8, 2) := by decide +kernel
theorem dX11_spelt_32 : decode cX11_spelt 32 = .ok (.lshl, 1) := by decide +kernel
theorem dX11_spelt_33 : decode cX11_spelt 33 = .ok (.iload_n 3, 1) := by decide +kernel
theorem dX11_spelt_34 : decode cX11_spelt 34 = .ok (.i2l, 1) := by decide +kernel
theorem dX11_spelt_35 : decode cX11_spelt 35 = .ok (.lor, 1) := by decide +kernel
theorem dX11_spelt_36 : decode cX11_spelt 36 = .ok (.lstore 6, 2) := by decide +kernel
theorem dX11_spelt_38 : decode cX11_spelt 38 = .ok (.iload 4, 2) := by decide +kernel
theorem dX11_spelt_40 : decode cX11_spelt 40 = .ok (.ifCond .le 14, 3) := by decide +kernel
theorem dX11_spelt_43 : decode cX11_spelt 43 = .ok (.lload 6, 2) := by decide +kernel
theorem dX11_spelt_45 : decode cX11_spelt 45 = .ok (.bipush 8, 2) := by decide +kernel
theorem dX11_spelt_47 : decode cX11_spelt 47 = .ok (.lshl, 1) := by decide +kernel
theorem dX11_spelt_48 : decode cX11_spelt 48 = .ok (.iload 4, 2) := by decide +kernel
theorem dX11_spelt_50 : decode cX11_spelt 50 = .ok (.i2l, 1) := by decide +kernel
theorem dX11_spelt_51 : decode cX11_spelt 51 = .ok (.lor, 1) := by decide +kernel
theorem dX11_spelt_52 : decode cX11_spelt 52 = .ok (.lstore 6, 2) := by decide +kernel
theorem dX11_spelt_54 : decode cX11_spelt 54 = .ok (.iload 5, 2) := by decide +kernel
theorem dX11_spelt_56 : decode cX11_spelt 56 = .ok (.ifCond .le 14, 3) := by decide +kernel
theorem dX11_spelt_59 : decode cX11_spelt 59 = .ok (.lload 6, 2) := by decide +kernel
theorem dX11_spelt_61 : decode cX11_spelt 61 = .ok (.bipush 8, 2) := by decide +kernel
theorem dX11_spelt_63 : decode cX11_spelt 63 = .ok (.lshl, 1) := by decide +kernel
theorem dX11_spelt_64 : decode cX11_spelt 64 = .ok (.iload 5, 2) := by decide +kernel
theorem dX11_spelt_66 : decode cX11_spelt 66 = .ok (.i2l, 1) := by decide +kernel
theorem dX11_spelt_67 : decode cX11_spelt 67 = .ok (.lor, 1) := by decide +kernel
theorem dX11_spelt_68 : decode cX11_spelt 68 = .ok (.lstore 6, 2) := by decide +kernel
theorem dX11_spelt_70 : decode cX11_spelt 70 = .ok (.lload 6, 2) := by decide +kernel
theorem dX11_spelt_72 : decode cX11_spelt 72 = .ok (.lreturn, 1) := by decide +kernel
set_option maxRecDepth 10000 in
set_option maxHeartbeats 4000000 in
theorem A_X11_spelt_54 {Z : az_Z} {d : Nat} (C : az_C Z yX11_spelt cX11_spelt 8 (some .long) d) (hD : 1 ≤ d) {σ : az_Hp} {v5 v6 : Int} {r : Int} (h : fz_X11_spelt_54 σ v5 v6 = some r) : az_AW Z 8 54 [(31, 0), (31, 0), (31, 0), (31, 0), (31, 0), (0, v5), (1, v6), (31, 0)] [] σ (some (1, r), σ) := by
  have hd1 : 1 ≤ d := by omega
  unfold fz_X11_spelt_54 at h
  refine az_il5 (pc := 54) C dX11_spelt_54 ?_
  refine az_if_le (pc := 56) (tgt := 70) C h dX11_spelt_56 (by decide) (fun _ h => ?_) (fun _ h => ?_)
  · refine az_ll6 (pc := 70) C dX11_spelt_70 ?_
    obtain rfl := Option.some.inj h
    exact az_lreturn (pc := 72) C dX11_spelt_72 rfl
  refine az_ll6 (pc := 59) C dX11_spelt_59 ?_
  refine az_bk8 (pc := 61) C dX11_spelt_61 ?_
  refine az_lshl (pc := 63) C dX11_spelt_63 ?_
  refine az_il5 (pc := 64) C dX11_spelt_64 ?_
  refine az_i2l (pc := 66) C dX11_spelt_66 ?_
  refine az_lor (pc := 67) C dX11_spelt_67 ?_
  refine az_ls6 (pc := 68) C rfl rfl dX11_spelt_68 ?_
  refine az_ll6 (pc := 70) C dX11_spelt_70 ?_
  obtain rfl := Option.some.inj h
  exact az_lreturn (pc := 72) C dX11_spelt_72 rfl
set_option maxRecDepth 10000 in
set_option maxHeartbeats 4000000 in
theorem A_X11_spelt_38 {Z : az_Z} {d : Nat} (C : az_C Z yX11_spelt cX11_spelt 8 (some .long) d) (hD : 1 ≤ d) {σ : az_Hp} {v4 v5 v6 : Int} {r : Int} (h : fz_X11_spelt_38 σ v4 v5 v6 = some r) : az_AW Z 8 38 [(31, 0), (31, 0), (31, 0), (31, 0), (0, v4), (0, v5), (1, v6), (31, 0)] [] σ (some (1, r), σ) := by
  have hd1 : 1 ≤ d := by omega
  unfold fz_X11_spelt_38 at h
  refine az_il4 (pc := 38) C dX11_spelt_38 ?_
  refine az_if_le (pc := 40) (tgt := 54) C h dX11_spelt_40 (by decide) (fun _ h => ?_) (fun _ h => ?_)
  · exact (az_wkk (A_X11_spelt_54 C hD h) (az_sJ (az_sJ (az_sJ (az_sJ (az_sJ (az_sE (az_sE (az_sJ az_sN)))))))))
  refine az_ll6 (pc := 43) C dX11_spelt_43 ?_
  refine az_bk8 (pc := 45) C dX11_spelt_45 ?_
  refine az_lshl (pc := 47) C dX11_spelt_47 ?_
  refine az_il4 (pc := 48) C dX11_spelt_48 ?_
  refine az_i2l (pc := 50) C dX11_spelt_50 ?_
  refine az_lor (pc := 51) C dX11_spelt_51 ?_
  refine az_ls6 (pc := 52) C rfl rfl dX11_spelt_52 ?_
  exact (az_wkk (A_X11_spelt_54 C hD h) (az_sJ (az_sJ (az_sJ (az_sJ (az_sJ (az_sE (az_sE (az_sJ az_sN)))))))))
set_option maxRecDepth 10000 in
set_option maxHeartbeats 4000000 in
theorem A_X11_spelt_24 {Z : az_Z} {d : Nat} (C : az_C Z yX11_spelt cX11_spelt 8 (some .long) d) (hD : 1 ≤ d) {σ : az_Hp} {v3 v4 v5 v6 : Int} {r : Int} (h : fz_X11_spelt_24 σ v3 v4 v5 v6 = some r) : az_AW Z 8 24 [(31, 0), (31, 0), (31, 0), (0, v3), (0, v4), (0, v5), (1, v6), (31, 0)] [] σ (some (1, r), σ) := by
  have hd1 : 1 ≤ d := by omega
  unfold fz_X11_spelt_24 at h
  refine az_il3 (pc := 24) C dX11_spelt_24 ?_
  refine az_if_le (pc := 25) (tgt := 38) C h dX11_spelt_25 (by decide) (fun _ h => ?_) (fun _ h => ?_)
  · exact (az_wkk (A_X11_spelt_38 C hD h) (az_sJ (az_sJ (az_sJ (az_sJ (az_sE (az_sE (az_sE (az_sJ az_sN)))))))))
  refine az_ll6 (pc := 28) C dX11_spelt_28 ?_
  refine az_bk8 (pc := 30) C dX11_spelt_30 ?_
  refine az_lshl (pc := 32) C dX11_spelt_32 ?_
  refine az_il3 (pc := 33) C dX11_spelt_33 ?_
  refine az_i2l (pc := 34) C dX11_spelt_34 ?_
  refine az_lor (pc := 35) C dX11_spelt_35 ?_
  refine az_ls6 (pc := 36) C rfl rfl dX11_spelt_36 ?_
  exact (az_wkk (A_X11_spelt_38 C hD h) (az_sJ (az_sJ (az_sJ (az_sJ (az_sE (az_sE (az_sE (az_sJ az_sN)))))))))
set_option maxRecDepth 10000 in
set_option maxHeartbeats 4000000 in
theorem A_X11_spelt_e {Z : az_Z} {d : Nat} (C : az_C Z yX11_spelt cX11_spelt 8 (some .long) d) (hD : 1 ≤ d) {σ : az_Hp} {v0 v1 v2 v3 v4 v5 : Int} {r : Int} (h : fz_X11_spelt σ v0 v1 v2 v3 v4 v5 = some r) : az_AW Z 8 0 [(0, v0), (0, v1), (0, v2), (0, v3), (0, v4), (0, v5), (31, 0), (31, 0)] [] σ (some (1, r), σ) := by
  have hd1 : 1 ≤ d := by omega
  unfold fz_X11_spelt at h
  refine az_il0 (pc := 0) C dX11_spelt_0 ?_
  refine az_i2l (pc := 1) C dX11_spelt_1 ?_
  refine az_bk8 (pc := 2) C dX11_spelt_2 ?_
  refine az_lshl (pc := 4) C dX11_spelt_4 ?_
  refine az_il1 (pc := 5) C dX11_spelt_5 ?_
  refine az_i2l (pc := 6) C dX11_spelt_6 ?_
  refine az_lor (pc := 7) C dX11_spelt_7 ?_
  refine az_ls6 (pc := 8) C rfl rfl dX11_spelt_8 ?_
  refine az_il2 (pc := 10) C dX11_spelt_10 ?_
  refine az_if_le (pc := 11) (tgt := 24) C h dX11_spelt_11 (by decide) (fun _ h => ?_) (fun _ h => ?_)
  · exact (az_wkk (A_X11_spelt_24 C hD h) (az_sJ (az_sJ (az_sJ (az_sE (az_sE (az_sE (az_sE (az_sJ az_sN)))))))))
  refine az_ll6 (pc := 14) C dX11_spelt_14 ?_
  refine az_bk8 (pc := 16) C dX11_spelt_16 ?_
  refine az_lshl (pc := 18) C dX11_spelt_18 ?_
  refine az_il2 (pc := 19) C dX11_spelt_19 ?_
  refine az_i2l (pc := 20) C dX11_spelt_20 ?_
  refine az_lor (pc := 21) C dX11_spelt_21 ?_
  refine az_ls6 (pc := 22) C rfl rfl dX11_spelt_22 ?_
  exact (az_wkk (A_X11_spelt_24 C hD h) (az_sJ (az_sJ (az_sJ (az_sE (az_sE (az_sE (az_sE (az_sJ az_sN)))))))))
set_option maxRecDepth 10000 in
set_option maxHeartbeats 4000000 in
theorem A_X11_spelt {l : Launch} {d : Nat} (hD : 1 ≤ d) {σ : az_Hp} {v0 v1 v2 v3 v4 v5 : Int} {r : Int} (h : fz_X11_spelt σ v0 v1 v2 v3 v4 v5 = some r) : az_AC l yX11_spelt cX11_spelt 8 (some .long) d [(0, v0), (0, v1), (0, v2), (0, v3), (0, v4), (0, v5)] σ (some (1, r), σ) := az_AC.of mt_X11_spelt rfl rfl rfl (fun Z hZ C => A_X11_spelt_e C hD h)
theorem dX11_wordOf_0 : decode cX11_wordOf 0 = .ok (.iload_n 0, 1) := by decide +kernel
theorem dX11_wordOf_1 : decode cX11_wordOf 1 = .ok (.tableswitch 123 0 5 #[39, 52, 66, 82, 96, 108], 39) := by decide +kernel
theorem dX11_wordOf_40 : decode cX11_wordOf 40 = .ok (.bipush 99, 2) := by decide +kernel
theorem dX11_wordOf_42 : decode cX11_wordOf 42 = .ok (.bipush 111, 2) := by decide +kernel
theorem dX11_wordOf_44 : decode cX11_wordOf 44 = .ok (.bipush 110, 2) := by decide +kernel
theorem dX11_wordOf_46 : decode cX11_wordOf 46 = .ok (.iconst 0, 1) := by decide +kernel
theorem dX11_wordOf_47 : decode cX11_wordOf 47 = .ok (.iconst 0, 1) := by decide +kernel
theorem dX11_wordOf_48 : decode cX11_wordOf 48 = .ok (.iconst 0, 1) := by decide +kernel
theorem dX11_wordOf_49 : decode cX11_wordOf 49 = .ok (.invokestatic 259, 3) := by decide +kernel
theorem dX11_wordOf_52 : decode cX11_wordOf 52 = .ok (.lreturn, 1) := by decide +kernel
theorem dX11_wordOf_53 : decode cX11_wordOf 53 = .ok (.bipush 111, 2) := by decide +kernel
theorem dX11_wordOf_55 : decode cX11_wordOf 55 = .ok (.bipush 112, 2) := by decide +kernel
theorem dX11_wordOf_57 : decode cX11_wordOf 57 = .ok (.bipush 101, 2) := by decide +kernel
theorem dX11_wordOf_59 : decode cX11_wordOf 59 = .ok (.bipush 110, 2) := by decide +kernel
theorem dX11_wordOf_61 : decode cX11_wordOf 61 = .ok (.iconst 0, 1) := by decide +kernel
theorem dX11_wordOf_62 : decode cX11_wordOf 62 = .ok (.iconst 0, 1) := by decide +kernel
theorem dX11_wordOf_63 : decode cX11_wordOf 63 = .ok (.invokestatic 259, 3) := by decide +kernel
theorem dX11_wordOf_66 : decode cX11_wordOf 66 = .ok (.lreturn, 1) := by decide +kernel
theorem dX11_wordOf_67 : decode cX11_wordOf 67 = .ok (.bipush 99, 2) := by decide +kernel
theorem dX11_wordOf_69 : decode cX11_wordOf 69 = .ok (.bipush 108, 2) := by decide +kernel
theorem dX11_wordOf_71 : decode cX11_wordOf 71 = .ok (.bipush 111, 2) := by decide +kernel
theorem dX11_wordOf_73 : decode cX11_wordOf 73 = .ok (.bipush 115, 2) := by decide +kernel
theorem dX11_wordOf_75 : decode cX11_wordOf 75 = .ok (.bipush 101, 2) := by decide +kernel
theorem dX11_wordOf_77 : decode cX11_wordOf 77 = .ok (.bipush 100, 2) := by decide +kernel
theorem dX11_wordOf_79 : decode cX11_wordOf 79 = .ok (.invokestatic 259, 3) := by decide +kernel
theorem dX11_wordOf_82 : decode cX11_wordOf 82 = .ok (.lreturn, 1) := by decide +kernel
theorem dX11_wordOf_83 : decode cX11_wordOf 83 = .ok (.bipush 98, 2) := by decide +kernel
theorem dX11_wordOf_85 : decode cX11_wordOf 85 = .ok (.bipush 97, 2) := by decide +kernel
theorem dX11_wordOf_87 : decode cX11_wordOf 87 = .ok (.bipush 99, 2) := by decide +kernel
theorem dX11_wordOf_89 : decode cX11_wordOf 89 = .ok (.bipush 107, 2) := by decide +kernel
theorem dX11_wordOf_91 : decode cX11_wordOf 91 = .ok (.iconst 0, 1) := by decide +kernel
theorem dX11_wordOf_92 : decode cX11_wordOf 92 = .ok (.iconst 0, 1) := by decide +kernel
theorem dX11_wordOf_93 : decode cX11_wordOf 93 = .ok (.invokestatic 259, 3) := by decide +kernel
theorem dX11_wordOf_96 : decode cX11_wordOf 96 = .ok (.lreturn, 1) := by decide +kernel
theorem dX11_wordOf_97 : decode cX11_wordOf 97 = .ok (.bipush 101, 2) := by decide +kernel
theorem dX11_wordOf_99 : decode cX11_wordOf 99 = .ok (.bipush 113, 2) := by decide +kernel
theorem dX11_wordOf_101 : decode cX11_wordOf 101 = .ok (.iconst 0, 1) := by decide +kernel
theorem dX11_wordOf_102 : decode cX11_wordOf 102 = .ok (.iconst 0, 1) := by decide +kernel
theorem dX11_wordOf_103 : decode cX11_wordOf 103 = .ok (.iconst 0, 1) := by decide +kernel
theorem dX11_wordOf_104 : decode cX11_wordOf 104 = .ok (.iconst 0, 1) := by decide +kernel
theorem dX11_wordOf_105 : decode cX11_wordOf 105 = .ok (.invokestatic 259, 3) := by decide +kernel
theorem dX11_wordOf_108 : decode cX11_wordOf 108 = .ok (.lreturn, 1) := by decide +kernel
theorem dX11_wordOf_109 : decode cX11_wordOf 109 = .ok (.bipush 103, 2) := by decide +kernel
theorem dX11_wordOf_111 : decode cX11_wordOf 111 = .ok (.bipush 105, 2) := by decide +kernel
theorem dX11_wordOf_113 : decode cX11_wordOf 113 = .ok (.bipush 118, 2) := by decide +kernel
theorem dX11_wordOf_115 : decode cX11_wordOf 115 = .ok (.bipush 101, 2) := by decide +kernel
theorem dX11_wordOf_117 : decode cX11_wordOf 117 = .ok (.bipush 110, 2) := by decide +kernel
theorem dX11_wordOf_119 : decode cX11_wordOf 119 = .ok (.iconst 0, 1) := by decide +kernel
theorem dX11_wordOf_120 : decode cX11_wordOf 120 = .ok (.invokestatic 259, 3) := by decide +kernel
theorem dX11_wordOf_123 : decode cX11_wordOf 123 = .ok (.lreturn, 1) := by decide +kernel
theorem dX11_wordOf_124 : decode cX11_wordOf 124 = .ok (.bipush 119, 2) := by decide +kernel
theorem dX11_wordOf_126 : decode cX11_wordOf 126 = .ok (.bipush 97, 2) := by decide +kernel
theorem dX11_wordOf_128 : decode cX11_wordOf 128 = .ok (.bipush 110, 2) := by decide +kernel
theorem dX11_wordOf_130 : decode cX11_wordOf 130 = .ok (.bipush 116, 2) := by decide +kernel
theorem dX11_wordOf_132 : decode cX11_wordOf 132 = .ok (.iconst 0, 1) := by decide +kernel
theorem dX11_wordOf_133 : decode cX11_wordOf 133 = .ok (.iconst 0, 1) := by decide +kernel
theorem dX11_wordOf_134 : decode cX11_wordOf 134 = .ok (.invokestatic 259, 3) := by decide +kernel
theorem dX11_wordOf_137 : decode cX11_wordOf 137 = .ok (.lreturn, 1) := by decide +kernel
set_option maxRecDepth 10000 in
set_option maxHeartbeats 4000000 in
theorem A_X11_wordOf_e {Z : az_Z} {d : Nat} (C : az_C Z yX11_wordOf cX11_wordOf 1 (some .long) d) (hD : 2 ≤ d) {σ : az_Hp} {v0 : Int} {r : Int} (h : fz_X11_wordOf σ v0 = some r) : az_AW Z 1 0 [(0, v0)] [] σ (some (1, r), σ) := by
  have hd1 : 1 ≤ d := by omega
  unfold fz_X11_wordOf at h
  refine az_il0 (pc := 0) C dX11_wordOf_0 ?_
  rcases az_ite h with ⟨c0, h⟩ | ⟨c0, h⟩
  · refine az_tswIn (pc := 1) (i := 0) (tgt := 40) C (by exact c0) (by decide) rfl dX11_wordOf_1 (by decide) ?_
    refine az_bk99 (pc := 40) C dX11_wordOf_40 ?_
    refine az_bk111 (pc := 42) C dX11_wordOf_42 ?_
    refine az_bk110 (pc := 44) C dX11_wordOf_44 ?_
    refine az_ik0 (pc := 46) C dX11_wordOf_46 ?_
    refine az_ik0 (pc := 47) C dX11_wordOf_47 ?_
    refine az_ik0 (pc := 48) C dX11_wordOf_48 ?_
    refine az_cS6pl (pc := 49) C hd1 h ms_X11_spelt ml_X11_259 rfl (fun x hx => A_X11_spelt (by omega) hx) dX11_wordOf_49 (fun r1 h => ?_)
    obtain rfl := Option.some.inj h
    exact az_lreturn (pc := 52) C dX11_wordOf_52 rfl
  rcases az_ite h with ⟨c1, h⟩ | ⟨c1, h⟩
  · refine az_tswIn (pc := 1) (i := 1) (tgt := 53) C (by exact c1) (by decide) rfl dX11_wordOf_1 (by decide) ?_
    refine az_bk111 (pc := 53) C dX11_wordOf_53 ?_
    refine az_bk112 (pc := 55) C dX11_wordOf_55 ?_
    refine az_bk101 (pc := 57) C dX11_wordOf_57 ?_
    refine az_bk110 (pc := 59) C dX11_wordOf_59 ?_
    refine az_ik0 (pc := 61) C dX11_wordOf_61 ?_
    refine az_ik0 (pc := 62) C dX11_wordOf_62 ?_
    refine az_cS6pl (pc := 63) C hd1 h ms_X11_spelt ml_X11_259 rfl (fun x hx => A_X11_spelt (by omega) hx) dX11_wordOf_63 (fun r2 h => ?_)
    obtain rfl := Option.some.inj h
    exact az_lreturn (pc := 66) C dX11_wordOf_66 rfl
  rcases az_ite h with ⟨c2, h⟩ | ⟨c2, h⟩
  · refine az_tswIn (pc := 1) (i := 2) (tgt := 67) C (by exact c2) (by decide) rfl dX11_wordOf_1 (by decide) ?_
    refine az_bk99 (pc := 67) C dX11_wordOf_67 ?_
    refine az_bk108 (pc := 69) C dX11_wordOf_69 ?_
    refine az_bk111 (pc := 71) C dX11_wordOf_71 ?_
    refine az_bk115 (pc := 73) C dX11_wordOf_73 ?_
    refine az_bk101 (pc := 75) C dX11_wordOf_75 ?_
    refine az_bk100 (pc := 77) C dX11_wordOf_77 ?_
    refine az_cS6pl (pc := 79) C hd1 h ms_X11_spelt ml_X11_259 rfl (fun x hx => A_X11_spelt (by omega) hx) dX11_wordOf_79 (fun r3 h => ?_)
    obtain rfl := Option.some.inj h
    exact az_lreturn (pc := 82) C dX11_wordOf_82 rfl
  rcases az_ite h with ⟨c3, h⟩ | ⟨c3, h⟩
  · refine az_tswIn (pc := 1) (i := 3) (tgt := 83) C (by exact c3) (by decide) rfl dX11_wordOf_1 (by decide) ?_
    refine az_bk98 (pc := 83) C dX11_wordOf_83 ?_
    refine az_bk97 (pc := 85) C dX11_wordOf_85 ?_
    refine az_bk99 (pc := 87) C dX11_wordOf_87 ?_
    refine az_bk107 (pc := 89) C dX11_wordOf_89 ?_
    refine az_ik0 (pc := 91) C dX11_wordOf_91 ?_
    refine az_ik0 (pc := 92) C dX11_wordOf_92 ?_
    refine az_cS6pl (pc := 93) C hd1 h ms_X11_spelt ml_X11_259 rfl (fun x hx => A_X11_spelt (by omega) hx) dX11_wordOf_93 (fun r4 h => ?_)
    obtain rfl := Option.some.inj h
    exact az_lreturn (pc := 96) C dX11_wordOf_96 rfl
  rcases az_ite h with ⟨c4, h⟩ | ⟨c4, h⟩
  · refine az_tswIn (pc := 1) (i := 4) (tgt := 97) C (by exact c4) (by decide) rfl dX11_wordOf_1 (by decide) ?_
    refine az_bk101 (pc := 97) C dX11_wordOf_97 ?_
    refine az_bk113 (pc := 99) C dX11_wordOf_99 ?_
    refine az_ik0 (pc := 101) C dX11_wordOf_101 ?_
    refine az_ik0 (pc := 102) C dX11_wordOf_102 ?_
    refine az_ik0 (pc := 103) C dX11_wordOf_103 ?_
    refine az_ik0 (pc := 104) C dX11_wordOf_104 ?_
    refine az_cS6pl (pc := 105) C hd1 h ms_X11_spelt ml_X11_259 rfl (fun x hx => A_X11_spelt (by omega) hx) dX11_wordOf_105 (fun r5 h => ?_)
    obtain rfl := Option.some.inj h
    exact az_lreturn (pc := 108) C dX11_wordOf_108 rfl
  rcases az_ite h with ⟨c5, h⟩ | ⟨c5, h⟩
  · refine az_tswIn (pc := 1) (i := 5) (tgt := 109) C (by exact c5) (by decide) rfl dX11_wordOf_1 (by decide) ?_
    refine az_bk103 (pc := 109) C dX11_wordOf_109 ?_
    refine az_bk105 (pc := 111) C dX11_wordOf_111 ?_
    refine az_bk118 (pc := 113) C dX11_wordOf_113 ?_
    refine az_bk101 (pc := 115) C dX11_wordOf_115 ?_
    refine az_bk110 (pc := 117) C dX11_wordOf_117 ?_
    refine az_ik0 (pc := 119) C dX11_wordOf_119 ?_
    refine az_cS6pl (pc := 120) C hd1 h ms_X11_spelt ml_X11_259 rfl (fun x hx => A_X11_spelt (by omega) hx) dX11_wordOf_120 (fun r6 h => ?_)
    obtain rfl := Option.some.inj h
    exact az_lreturn (pc := 123) C dX11_wordOf_123 rfl
  refine az_tswOut (pc := 1) (tgt := 124) C (by omega) dX11_wordOf_1 (by decide) ?_
  refine az_bk119 (pc := 124) C dX11_wordOf_124 ?_
  refine az_bk97 (pc := 126) C dX11_wordOf_126 ?_
  refine az_bk110 (pc := 128) C dX11_wordOf_128 ?_
  refine az_bk116 (pc := 130) C dX11_wordOf_130 ?_
  refine az_ik0 (pc := 132) C dX11_wordOf_132 ?_
  refine az_ik0 (pc := 133) C dX11_wordOf_133 ?_
  refine az_cS6pl (pc := 134) C hd1 h ms_X11_spelt ml_X11_259 rfl (fun x hx => A_X11_spelt (by omega) hx) dX11_wordOf_134 (fun r7 h => ?_)
  obtain rfl := Option.some.inj h
  exact az_lreturn (pc := 137) C dX11_wordOf_137 rfl
set_option maxRecDepth 10000 in
set_option maxHeartbeats 4000000 in
theorem A_X11_wordOf {l : Launch} {d : Nat} (hD : 2 ≤ d) {σ : az_Hp} {v0 : Int} {r : Int} (h : fz_X11_wordOf σ v0 = some r) : az_AC l yX11_wordOf cX11_wordOf 1 (some .long) d [(0, v0)] σ (some (1, r), σ) := az_AC.of mt_X11_wordOf rfl rfl rfl (fun Z hZ C => A_X11_wordOf_e C hD h)
theorem dX11_isWord_0 : decode cX11_isWord 0 = .ok (.aload_n 0, 1) := by decide +kernel
theorem dX11_isWord_1 : decode cX11_isWord 1 = .ok (.getfield 236, 3) := by decide +kernel
theorem dX11_isWord_4 : decode cX11_isWord 4 = .ok (.iconst 3, 1) := by decide +kernel
theorem dX11_isWord_5 : decode cX11_isWord 5 = .ok (.if_icmp .ne 19, 3) := by decide +kernel
theorem dX11_isWord_8 : decode cX11_isWord 8 = .ok (.aload_n 0, 1) := by decide +kernel
theorem dX11_isWord_9 : decode cX11_isWord 9 = .ok (.getfield 246, 3) := by decide +kernel
theorem dX11_isWord_12 : decode cX11_isWord 12 = .ok (.iload_n 1, 1) := by decide +kernel
theorem dX11_isWord_13 : decode cX11_isWord 13 = .ok (.invokestatic 263, 3) := by decide +kernel
theorem dX11_isWord_16 : decode cX11_isWord 16 = .ok (.lcmp, 1) := by decide +kernel
theorem dX11_isWord_17 : decode cX11_isWord 17 = .ok (.ifCond .ne 7, 3) := by decide +kernel
theorem dX11_isWord_20 : decode cX11_isWord 20 = .ok (.iconst 1, 1) := by decide +kernel
theorem dX11_isWord_21 : decode cX11_isWord 21 = .ok (.goto 4, 3) := by decide +kernel
theorem dX11_isWord_24 : decode cX11_isWord 24 = .ok (.iconst 0, 1) := by decide +kernel
theorem dX11_isWord_25 : decode cX11_isWord 25 = .ok (.ireturn, 1) := by decide +kernel
set_option maxRecDepth 10000 in
set_option maxHeartbeats 4000000 in
theorem A_X11_isWord_e {Z : az_Z} {d : Nat} (C : az_C Z yX11_isWord cX11_isWord 2 (some .boolean) d) (hD : 3 ≤ d) {σ : az_Hp} {v0 v1 : Int} {r : Int} (h : fz_X11_isWord σ v0 v1 = some r) : az_AW Z 2 0 [(13, v0), (0, v1)] [] σ (some (0, r), σ) := by
  have hd1 : 1 ≤ d := by omega
  unfold fz_X11_isWord at h
  refine az_al0 (pc := 0) C rfl rfl dX11_isWord_0 ?_
  refine az_getI (pc := 1) C fl_X11_236 rfl dX11_isWord_1 ?_
  refine az_ik3 (pc := 4) C dX11_isWord_4 ?_
  refine az_icmp_ne (pc := 5) (tgt := 24) C h dX11_isWord_5 (by decide) (fun _ h => ?_) (fun _ h => ?_)
  · refine az_ik0 (pc := 24) C dX11_isWord_24 ?_
    obtain rfl := Option.some.inj h
    exact az_zreturn (pc := 25) C (by decide) dX11_isWord_25 rfl
  refine az_al0 (pc := 8) C rfl rfl dX11_isWord_8 ?_
  refine az_getJ (pc := 9) C fl_X11_246 rfl dX11_isWord_9 ?_
  refine az_il1 (pc := 12) C dX11_isWord_12 ?_
  refine az_cS1pl (pc := 13) C hd1 h ms_X11_wordOf ml_X11_263 rfl (fun x hx => A_X11_wordOf (by omega) hx) dX11_isWord_13 (fun r1 h => ?_)
  refine az_lcmp (pc := 16) C dX11_isWord_16 ?_
  refine az_if_ne (pc := 17) (tgt := 24) C h dX11_isWord_17 (by decide) (fun _ h => ?_) (fun _ h => ?_)
  · refine az_ik0 (pc := 24) C dX11_isWord_24 ?_
    obtain rfl := Option.some.inj h
    exact az_zreturn (pc := 25) C (by decide) dX11_isWord_25 rfl
  refine az_ik1 (pc := 20) C dX11_isWord_20 ?_
  refine az_goto (pc := 21) (tgt := 25) C dX11_isWord_21 (by decide) ?_
  obtain rfl := Option.some.inj h
  exact az_zreturn (pc := 25) C (by decide) dX11_isWord_25 rfl
set_option maxRecDepth 10000 in
set_option maxHeartbeats 4000000 in
theorem A_X11_isWord {l : Launch} {d : Nat} (hD : 3 ≤ d) {σ : az_Hp} {v0 v1 : Int} {r : Int} (h : fz_X11_isWord σ v0 v1 = some r) : az_AC l yX11_isWord cX11_isWord 2 (some .boolean) d [(13, v0), (0, v1)] σ (some (0, r), σ) := az_AC.of mt_X11_isWord rfl rfl rfl (fun Z hZ C => A_X11_isWord_e C hD h)
theorem dX11_isSign_0 : decode cX11_isSign 0 = .ok (.aload_n 0, 1) := by decide +kernel
theorem dX11_isSign_1 : decode cX11_isSign 1 = .ok (.getfield 236, 3) := by decide +kernel
theorem dX11_isSign_4 : decode cX11_isSign 4 = .ok (.iconst 5, 1) := by decide +kernel
theorem dX11_isSign_5 : decode cX11_isSign 5 = .ok (.if_icmp .ne 15, 3) := by decide +kernel
theorem dX11_isSign_8 : decode cX11_isSign 8 = .ok (.aload_n 0, 1) := by decide +kernel
theorem dX11_isSign_9 : decode cX11_isSign 9 = .ok (.getfield 256, 3) := by decide +kernel
theorem dX11_isSign_12 : decode cX11_isSign 12 = .ok (.iload_n 1, 1) := by decide +kernel
theorem dX11_isSign_13 : decode cX11_isSign 13 = .ok (.if_icmp .ne 7, 3) := by decide +kernel
theorem dX11_isSign_16 : decode cX11_isSign 16 = .ok (.iconst 1, 1) := by decide +kernel
theorem dX11_isSign_17 : decode cX11_isSign 17 = .ok (.goto 4, 3) := by decide +kernel
theorem dX11_isSign_20 : decode cX11_isSign 20 = .ok (.iconst 0, 1) := by decide +kernel
theorem dX11_isSign_21 : decode cX11_isSign 21 = .ok (.ireturn, 1) := by decide +kernel
set_option maxRecDepth 10000 in
set_option maxHeartbeats 4000000 in
theorem A_X11_isSign_e {Z : az_Z} {d : Nat} (C : az_C Z yX11_isSign cX11_isSign 2 (some .boolean) d) (hD : 1 ≤ d) {σ : az_Hp} {v0 v1 : Int} {r : Int} (h : fz_X11_isSign σ v0 v1 = some r) : az_AW Z 2 0 [(13, v0), (0, v1)] [] σ (some (0, r), σ) := by
  have hd1 : 1 ≤ d := by omega
  unfold fz_X11_isSign at h
  refine az_al0 (pc := 0) C rfl rfl dX11_isSign_0 ?_
  refine az_getI (pc := 1) C fl_X11_236 rfl dX11_isSign_1 ?_
  refine az_ik5 (pc := 4) C dX11_isSign_4 ?_
  refine az_icmp_ne (pc := 5) (tgt := 20) C h dX11_isSign_5 (by decide) (fun _ h => ?_) (fun _ h => ?_)
  · refine az_ik0 (pc := 20) C dX11_isSign_20 ?_
    obtain rfl := Option.some.inj h
    exact az_zreturn (pc := 21) C (by decide) dX11_isSign_21 rfl
  refine az_al0 (pc := 8) C rfl rfl dX11_isSign_8 ?_
  refine az_getI (pc := 9) C fl_X11_256 rfl dX11_isSign_9 ?_
  refine az_il1 (pc := 12) C dX11_isSign_12 ?_
  refine az_icmp_ne (pc := 13) (tgt := 20) C h dX11_isSign_13 (by decide) (fun _ h => ?_) (fun _ h => ?_)
  · refine az_ik0 (pc := 20) C dX11_isSign_20 ?_
    obtain rfl := Option.some.inj h
    exact az_zreturn (pc := 21) C (by decide) dX11_isSign_21 rfl
  refine az_ik1 (pc := 16) C dX11_isSign_16 ?_
  refine az_goto (pc := 17) (tgt := 21) C dX11_isSign_17 (by decide) ?_
  obtain rfl := Option.some.inj h
  exact az_zreturn (pc := 21) C (by decide) dX11_isSign_21 rfl
set_option maxRecDepth 10000 in
set_option maxHeartbeats 4000000 in
theorem A_X11_isSign {l : Launch} {d : Nat} (hD : 1 ≤ d) {σ : az_Hp} {v0 v1 : Int} {r : Int} (h : fz_X11_isSign σ v0 v1 = some r) : az_AC l yX11_isSign cX11_isSign 2 (some .boolean) d [(13, v0), (0, v1)] σ (some (0, r), σ) := az_AC.of mt_X11_isSign rfl rfl rfl (fun Z hZ C => A_X11_isSign_e C hD h)
theorem dX11_eats_0 : decode cX11_eats 0 = .ok (.aload_n 0, 1) := by decide +kernel
theorem dX11_eats_1 : decode cX11_eats 1 = .ok (.iload_n 1, 1) := by decide +kernel
theorem dX11_eats_2 : decode cX11_eats 2 = .ok (.invokevirtual 276, 3) := by decide +kernel
theorem dX11_eats_5 : decode cX11_eats 5 = .ok (.ifCond .ne 9, 3) := by decide +kernel
theorem dX11_eats_8 : decode cX11_eats 8 = .ok (.aload_n 0, 1) := by decide +kernel
theorem dX11_eats_9 : decode cX11_eats 9 = .ok (.iconst 2, 1) := by decide +kernel
theorem dX11_eats_10 : decode cX11_eats 10 = .ok (.invokevirtual 279, 3) := by decide +kernel
theorem dX11_eats_13 : decode cX11_eats 13 = .ok (.ireturn, 1) := by decide +kernel
theorem dX11_eats_14 : decode cX11_eats 14 = .ok (.aload_n 0, 1) := by decide +kernel
theorem dX11_eats_15 : decode cX11_eats 15 = .ok (.invokevirtual 282, 3) := by decide +kernel
theorem dX11_eats_18 : decode cX11_eats 18 = .ok (.iconst 1, 1) := by decide +kernel
theorem dX11_eats_19 : decode cX11_eats 19 = .ok (.ireturn, 1) := by decide +kernel
set_option maxRecDepth 10000 in
set_option maxHeartbeats 4000000 in
theorem A_X11_eats_e {Z : az_Z} {d : Nat} (C : az_C Z yX11_eats cX11_eats 2 (some .boolean) d) (hD : 3 ≤ d) (n : Nat) {σ : az_Hp} {v0 v1 : Int} {r : (Int × az_Hp)} (h : fz_X11_eats n σ v0 v1 = some r) : az_AW Z 2 0 [(13, v0), (0, v1)] [] σ (some (0, r.1), r.2) := by
  have hd1 : 1 ≤ d := by omega
  unfold fz_X11_eats at h
  refine az_al0 (pc := 0) C rfl rfl dX11_eats_0 ?_
  refine az_il1 (pc := 1) C dX11_eats_1 ?_
  refine az_cV1pi (pc := 2) (c := 11) C hd1 h mv_X11_isSign ml_X11_276 rfl (fun x hx => A_X11_isSign (by omega) hx) dX11_eats_2 (fun r1 h => ?_)
  refine az_if_ne (pc := 5) (tgt := 14) C h dX11_eats_5 (by decide) (fun _ h => ?_) (fun _ h => ?_)
  · refine az_al0 (pc := 14) C rfl rfl dX11_eats_14 ?_
    refine az_cV0v (pc := 15) (c := 11) C hd1 h mv_X11_go ml_X11_282 rfl (fun x hx => A_X11_go (by omega) n hx) dX11_eats_15 (fun r2 h => ?_)
    refine az_ik1 (pc := 18) C dX11_eats_18 ?_
    obtain rfl := Option.some.inj h
    exact az_zreturn (pc := 19) C (by decide) dX11_eats_19 rfl
  refine az_al0 (pc := 8) C rfl rfl dX11_eats_8 ?_
  refine az_ik2 (pc := 9) C dX11_eats_9 ?_
  refine az_cV1ii (pc := 10) (c := 11) C hd1 h mv_X11_bad ml_X11_279 rfl (fun x hx => A_X11_bad (by omega) hx) dX11_eats_10 (fun r3 h => ?_)
  obtain ⟨hz, h⟩ := az_zif h
  obtain rfl := Option.some.inj h
  exact az_zreturn (pc := 13) C hz dX11_eats_13 rfl
set_option maxRecDepth 10000 in
set_option maxHeartbeats 4000000 in
theorem A_X11_eats {l : Launch} {d : Nat} (hD : 3 ≤ d) (n : Nat) {σ : az_Hp} {v0 v1 : Int} {r : (Int × az_Hp)} (h : fz_X11_eats n σ v0 v1 = some r) : az_AC l yX11_eats cX11_eats 2 (some .boolean) d [(13, v0), (0, v1)] σ (some (0, r.1), r.2) := az_AC.of mt_X11_eats rfl rfl rfl (fun Z hZ C => A_X11_eats_e C hD n h)
theorem dX11_conOf_0 : decode cX11_conOf 0 = .ok (.iconst 0, 1) := by decide +kernel
theorem dX11_conOf_1 : decode cX11_conOf 1 = .ok (.istore_n 3, 1) := by decide +kernel
theorem dX11_conOf_2 : decode cX11_conOf 2 = .ok (.iload_n 3, 1) := by decide +kernel
theorem dX11_conOf_3 : decode cX11_conOf 3 = .ok (.aload_n 0, 1) := by decide +kernel
theorem dX11_conOf_4 : decode cX11_conOf 4 = .ok (.getfield 20, 3) := by decide +kernel
theorem dX11_conOf_7 : decode cX11_conOf 7 = .ok (.aload_n 0, 1) := by decide +kernel
theorem dX11_conOf_8 : decode cX11_conOf 8 = .ok (.getfield 285, 3) := by decide +kernel
theorem dX11_conOf_11 : decode cX11_conOf 11 = .ok (.iaload, 1) := by decide +kernel
theorem dX11_conOf_12 : decode cX11_conOf 12 = .ok (.if_icmp .ge 30, 3) := by decide +kernel
theorem dX11_conOf_15 : decode cX11_conOf 15 = .ok (.aload_n 0, 1) := by decide +kernel
theorem dX11_conOf_16 : decode cX11_conOf 16 = .ok (.getfield 29, 3) := by decide +kernel
theorem dX11_conOf_19 : decode cX11_conOf 19 = .ok (.bipush 8, 2) := by decide +kernel
theorem dX11_conOf_21 : decode cX11_conOf 21 = .ok (.aload_n 0, 1) := by decide +kernel
theorem dX11_conOf_22 : decode cX11_conOf 22 = .ok (.getfield 285, 3) := by decide +kernel
theorem dX11_conOf_25 : decode cX11_conOf 25 = .ok (.imul, 1) := by decide +kernel
theorem dX11_conOf_26 : decode cX11_conOf 26 = .ok (.iload_n 3, 1) := by decide +kernel
theorem dX11_conOf_27 : decode cX11_conOf 27 = .ok (.iadd, 1) := by decide +kernel
theorem dX11_conOf_28 : decode cX11_conOf 28 = .ok (.laload, 1) := by decide +kernel
theorem dX11_conOf_29 : decode cX11_conOf 29 = .ok (.lload_n 1, 1) := by decide +kernel
theorem dX11_conOf_30 : decode cX11_conOf 30 = .ok (.lcmp, 1) := by decide +kernel
theorem dX11_conOf_31 : decode cX11_conOf 31 = .ok (.ifCond .ne 5, 3) := by decide +kernel
theorem dX11_conOf_34 : decode cX11_conOf 34 = .ok (.iload_n 3, 1) := by decide +kernel
theorem dX11_conOf_35 : decode cX11_conOf 35 = .ok (.ireturn, 1) := by decide +kernel
theorem dX11_conOf_36 : decode cX11_conOf 36 = .ok (.iinc 3 1, 3) := by decide +kernel
theorem dX11_conOf_39 : decode cX11_conOf 39 = .ok (.goto (-37), 3) := by decide +kernel
theorem dX11_conOf_42 : decode cX11_conOf 42 = .ok (.iconst (-1), 1) := by decide +kernel
theorem dX11_conOf_43 : decode cX11_conOf 43 = .ok (.ireturn, 1) := by decide +kernel
set_option maxRecDepth 10000 in
set_option maxHeartbeats 4000000 in
theorem A_X11_conOf_2 {Z : az_Z} {d : Nat} (C : az_C Z yX11_conOf cX11_conOf 4 (some .int) d) (hD : 1 ≤ d) (n : Nat) (k : Nat) : ∀ {σ : az_Hp} {v0 v1 v3 : Int} {r : Int}, fz_X11_conOf_2 n k σ v0 v1 v3 = some r → az_AW Z 4 2 [(13, v0), (1, v1), (31, 0), (0, v3)] [] σ (some (0, r), σ) := by
  have hd1 : 1 ≤ d := by omega
  induction k with
  | zero => intro σ v0 v1 v3 r h; simp [fz_X11_conOf_2] at h
  | succ k ih =>
    intro σ v0 v1 v3 r h
    unfold fz_X11_conOf_2 at h
    refine az_il3 (pc := 2) C dX11_conOf_2 ?_
    refine az_al0 (pc := 3) C rfl rfl dX11_conOf_3 ?_
    refine az_getR (pc := 4) (c2 := 13) C h fl_X11_20 rfl rfl dX11_conOf_4 (fun h => ?_)
    refine az_al0 (pc := 7) C rfl rfl dX11_conOf_7 ?_
    refine az_getI (pc := 8) C fl_X11_285 rfl dX11_conOf_8 ?_
    refine az_iaload (pc := 11) C h dX11_conOf_11 (fun h => ?_)
    refine az_icmp_ge (pc := 12) (tgt := 42) C h dX11_conOf_12 (by decide) (fun _ h => ?_) (fun _ h => ?_)
    · refine az_ikm1 (pc := 42) C dX11_conOf_42 ?_
      obtain rfl := Option.some.inj h
      exact az_ireturn (pc := 43) C dX11_conOf_43 rfl
    refine az_al0 (pc := 15) C rfl rfl dX11_conOf_15 ?_
    refine az_getR (pc := 16) (c2 := 14) C h fl_X11_29 rfl rfl dX11_conOf_16 (fun h => ?_)
    refine az_bk8 (pc := 19) C dX11_conOf_19 ?_
    refine az_al0 (pc := 21) C rfl rfl dX11_conOf_21 ?_
    refine az_getI (pc := 22) C fl_X11_285 rfl dX11_conOf_22 ?_
    refine az_imul (pc := 25) C dX11_conOf_25 ?_
    refine az_il3 (pc := 26) C dX11_conOf_26 ?_
    refine az_iadd (pc := 27) C dX11_conOf_27 ?_
    refine az_laload (pc := 28) C h dX11_conOf_28 (fun h => ?_)
    refine az_ll1 (pc := 29) C dX11_conOf_29 ?_
    refine az_lcmp (pc := 30) C dX11_conOf_30 ?_
    refine az_if_ne (pc := 31) (tgt := 36) C h dX11_conOf_31 (by decide) (fun _ h => ?_) (fun _ h => ?_)
    · refine az_ii3 (pc := 36) C az_n1 rfl rfl dX11_conOf_36 ?_
      refine az_goto (pc := 39) (tgt := 2) C dX11_conOf_39 (by decide) ?_
      exact (ih h)
    refine az_il3 (pc := 34) C dX11_conOf_34 ?_
    obtain rfl := Option.some.inj h
    exact az_ireturn (pc := 35) C dX11_conOf_35 rfl
set_option maxRecDepth 10000 in
set_option maxHeartbeats 4000000 in
theorem A_X11_conOf_e {Z : az_Z} {d : Nat} (C : az_C Z yX11_conOf cX11_conOf 4 (some .int) d) (hD : 1 ≤ d) (n : Nat) {σ : az_Hp} {v0 v1 : Int} {r : Int} (h : fz_X11_conOf n σ v0 v1 = some r) : az_AW Z 4 0 [(13, v0), (1, v1), (31, 0), (31, 0)] [] σ (some (0, r), σ) := by
  have hd1 : 1 ≤ d := by omega
  unfold fz_X11_conOf at h
  refine az_ik0 (pc := 0) C dX11_conOf_0 ?_
  refine az_is3 (pc := 1) C rfl rfl dX11_conOf_1 ?_
  exact (A_X11_conOf_2 C hD n n h)
set_option maxRecDepth 10000 in
set_option maxHeartbeats 4000000 in
theorem A_X11_conOf {l : Launch} {d : Nat} (hD : 1 ≤ d) (n : Nat) {σ : az_Hp} {v0 v1 : Int} {r : Int} (h : fz_X11_conOf n σ v0 v1 = some r) : az_AC l yX11_conOf cX11_conOf 4 (some .int) d [(13, v0), (1, v1)] σ (some (0, r), σ) := az_AC.of mt_X11_conOf rfl rfl rfl (fun Z hZ C => A_X11_conOf_e C hD n h)
theorem dX11_famOf_0 : decode cX11_famOf 0 = .ok (.iconst 0, 1) := by decide +kernel
theorem dX11_famOf_1 : decode cX11_famOf 1 = .ok (.istore_n 3, 1) := by decide +kernel
theorem dX11_famOf_2 : decode cX11_famOf 2 = .ok (.iload_n 3, 1) := by decide +kernel
theorem dX11_famOf_3 : decode cX11_famOf 3 = .ok (.aload_n 0, 1) := by decide +kernel
theorem dX11_famOf_4 : decode cX11_famOf 4 = .ok (.getfield 23, 3) := by decide +kernel
theorem dX11_famOf_7 : decode cX11_famOf 7 = .ok (.aload_n 0, 1) := by decide +kernel
theorem dX11_famOf_8 : decode cX11_famOf 8 = .ok (.getfield 285, 3) := by decide +kernel
theorem dX11_famOf_11 : decode cX11_famOf 11 = .ok (.iaload, 1) := by decide +kernel
theorem dX11_famOf_12 : decode cX11_famOf 12 = .ok (.if_icmp .ge 29, 3) := by decide +kernel
theorem dX11_famOf_15 : decode cX11_famOf 15 = .ok (.aload_n 0, 1) := by decide +kernel
theorem dX11_famOf_16 : decode cX11_famOf 16 = .ok (.getfield 33, 3) := by decide +kernel
theorem dX11_famOf_19 : decode cX11_famOf 19 = .ok (.iconst 5, 1) := by decide +kernel
theorem dX11_famOf_20 : decode cX11_famOf 20 = .ok (.aload_n 0, 1) := by decide +kernel
theorem dX11_famOf_21 : decode cX11_famOf 21 = .ok (.getfield 285, 3) := by decide +kernel
theorem dX11_famOf_24 : decode cX11_famOf 24 = .ok (.imul, 1) := by decide +kernel
theorem dX11_famOf_25 : decode cX11_famOf 25 = .ok (.iload_n 3, 1) := by decide +kernel
theorem dX11_famOf_26 : decode cX11_famOf 26 = .ok (.iadd, 1) := by decide +kernel
theorem dX11_famOf_27 : decode cX11_famOf 27 = .ok (.laload, 1) := by decide +kernel
theorem dX11_famOf_28 : decode cX11_famOf 28 = .ok (.lload_n 1, 1) := by decide +kernel
theorem dX11_famOf_29 : decode cX11_famOf 29 = .ok (.lcmp, 1) := by decide +kernel
theorem dX11_famOf_30 : decode cX11_famOf 30 = .ok (.ifCond .ne 5, 3) := by decide +kernel
theorem dX11_famOf_33 : decode cX11_famOf 33 = .ok (.iload_n 3, 1) := by decide +kernel
theorem dX11_famOf_34 : decode cX11_famOf 34 = .ok (.ireturn, 1) := by decide +kernel
theorem dX11_famOf_35 : decode cX11_famOf 35 = .ok (.iinc 3 1, 3) := by decide +kernel
theorem dX11_famOf_38 : decode cX11_famOf 38 = .ok (.goto (-36), 3) := by decide +kernel
theorem dX11_famOf_41 : decode cX11_famOf 41 = .ok (.iconst (-1), 1) := by decide +kernel
theorem dX11_famOf_42 : decode cX11_famOf 42 = .ok (.ireturn, 1) := by decide +kernel
set_option maxRecDepth 10000 in
set_option maxHeartbeats 4000000 in
theorem A_X11_famOf_2 {Z : az_Z} {d : Nat} (C : az_C Z yX11_famOf cX11_famOf 4 (some .int) d) (hD : 1 ≤ d) (n : Nat) (k : Nat) : ∀ {σ : az_Hp} {v0 v1 v3 : Int} {r : Int}, fz_X11_famOf_2 n k σ v0 v1 v3 = some r → az_AW Z 4 2 [(13, v0), (1, v1), (31, 0), (0, v3)] [] σ (some (0, r), σ) := by
  have hd1 : 1 ≤ d := by omega
  induction k with
  | zero => intro σ v0 v1 v3 r h; simp [fz_X11_famOf_2] at h
  | succ k ih =>
    intro σ v0 v1 v3 r h
    unfold fz_X11_famOf_2 at h
    refine az_il3 (pc := 2) C dX11_famOf_2 ?_
    refine az_al0 (pc := 3) C rfl rfl dX11_famOf_3 ?_
    refine az_getR (pc := 4) (c2 := 13) C h fl_X11_23 rfl rfl dX11_famOf_4 (fun h => ?_)
    refine az_al0 (pc := 7) C rfl rfl dX11_famOf_7 ?_
    refine az_getI (pc := 8) C fl_X11_285 rfl dX11_famOf_8 ?_
    refine az_iaload (pc := 11) C h dX11_famOf_11 (fun h => ?_)
    refine az_icmp_ge (pc := 12) (tgt := 41) C h dX11_famOf_12 (by decide) (fun _ h => ?_) (fun _ h => ?_)
    · refine az_ikm1 (pc := 41) C dX11_famOf_41 ?_
      obtain rfl := Option.some.inj h
      exact az_ireturn (pc := 42) C dX11_famOf_42 rfl
    refine az_al0 (pc := 15) C rfl rfl dX11_famOf_15 ?_
    refine az_getR (pc := 16) (c2 := 14) C h fl_X11_33 rfl rfl dX11_famOf_16 (fun h => ?_)
    refine az_ik5 (pc := 19) C dX11_famOf_19 ?_
    refine az_al0 (pc := 20) C rfl rfl dX11_famOf_20 ?_
    refine az_getI (pc := 21) C fl_X11_285 rfl dX11_famOf_21 ?_
    refine az_imul (pc := 24) C dX11_famOf_24 ?_
    refine az_il3 (pc := 25) C dX11_famOf_25 ?_
    refine az_iadd (pc := 26) C dX11_famOf_26 ?_
    refine az_laload (pc := 27) C h dX11_famOf_27 (fun h => ?_)
    refine az_ll1 (pc := 28) C dX11_famOf_28 ?_
    refine az_lcmp (pc := 29) C dX11_famOf_29 ?_
    refine az_if_ne (pc := 30) (tgt := 35) C h dX11_famOf_30 (by decide) (fun _ h => ?_) (fun _ h => ?_)
    · refine az_ii3 (pc := 35) C az_n1 rfl rfl dX11_famOf_35 ?_
      refine az_goto (pc := 38) (tgt := 2) C dX11_famOf_38 (by decide) ?_
      exact (ih h)
    refine az_il3 (pc := 33) C dX11_famOf_33 ?_
    obtain rfl := Option.some.inj h
    exact az_ireturn (pc := 34) C dX11_famOf_34 rfl
set_option maxRecDepth 10000 in
set_option maxHeartbeats 4000000 in
theorem A_X11_famOf_e {Z : az_Z} {d : Nat} (C : az_C Z yX11_famOf cX11_famOf 4 (some .int) d) (hD : 1 ≤ d) (n : Nat) {σ : az_Hp} {v0 v1 : Int} {r : Int} (h : fz_X11_famOf n σ v0 v1 = some r) : az_AW Z 4 0 [(13, v0), (1, v1), (31, 0), (31, 0)] [] σ (some (0, r), σ) := by
  have hd1 : 1 ≤ d := by omega
  unfold fz_X11_famOf at h
  refine az_ik0 (pc := 0) C dX11_famOf_0 ?_
  refine az_is3 (pc := 1) C rfl rfl dX11_famOf_1 ?_
  exact (A_X11_famOf_2 C hD n n h)
set_option maxRecDepth 10000 in
set_option maxHeartbeats 4000000 in
theorem A_X11_famOf {l : Launch} {d : Nat} (hD : 1 ≤ d) (n : Nat) {σ : az_Hp} {v0 v1 : Int} {r : Int} (h : fz_X11_famOf n σ v0 v1 = some r) : az_AC l yX11_famOf cX11_famOf 4 (some .int) d [(13, v0), (1, v1)] σ (some (0, r), σ) := az_AC.of mt_X11_famOf rfl rfl rfl (fun Z hZ C => A_X11_famOf_e C hD n h)
theorem dX11_isVariable_0 : decode cX11_isVariable 0 = .ok (.iconst 0, 1) := by decide +kernel
theorem dX11_isVariable_1 : decode cX11_isVariable 1 = .ok (.istore_n 1, 1) := by decide +kernel
theorem dX11_isVariable_2 : decode cX11_isVariable 2 = .ok (.iload_n 1, 1) := by decide +kernel
theorem dX11_isVariable_3 : decode cX11_isVariable 3 = .ok (.bipush 7, 2) := by decide +kernel
theorem dX11_isVariable_5 : decode cX11_isVariable 5 = .ok (.if_icmp .ge 19, 3) := by decide +kernel
theorem dX11_isVariable_8 : decode cX11_isVariable 8 = .ok (.aload_n 0, 1) := by decide +kernel
theorem dX11_isVariable_9 : decode cX11_isVariable 9 = .ok (.iload_n 1, 1) := by decide +kernel
theorem dX11_isVariable_10 : decode cX11_isVariable 10 = .ok (.invokevirtual 267, 3) := by decide +kernel
theorem dX11_isVariable_13 : decode cX11_isVariable 13 = .ok (.ifCond .eq 5, 3) := by decide +kernel
theorem dX11_isVariable_16 : decode cX11_isVariable 16 = .ok (.iconst 0, 1) := by decide +kernel
theorem dX11_isVariable_17 : decode cX11_isVariable 17 = .ok (.ireturn, 1) := by decide +kernel
theorem dX11_isVariable_18 : decode cX11_isVariable 18 = .ok (.iinc 1 1, 3) := by decide +kernel
theorem dX11_isVariable_21 : decode cX11_isVariable 21 = .ok (.goto (-19), 3) := by decide +kernel
theorem dX11_isVariable_24 : decode cX11_isVariable 24 = .ok (.aload_n 0, 1) := by decide +kernel
theorem dX11_isVariable_25 : decode cX11_isVariable 25 = .ok (.getfield 236, 3) := by decide +kernel
theorem dX11_isVariable_28 : decode cX11_isVariable 28 = .ok (.iconst 3, 1) := by decide +kernel
theorem dX11_isVariable_29 : decode cX11_isVariable 29 = .ok (.if_icmp .ne 7, 3) := by decide +kernel
theorem dX11_isVariable_32 : decode cX11_isVariable 32 = .ok (.iconst 1, 1) := by decide +kernel
theorem dX11_isVariable_33 : decode cX11_isVariable 33 = .ok (.goto 4, 3) := by decide +kernel
theorem dX11_isVariable_36 : decode cX11_isVariable 36 = .ok (.iconst 0, 1) := by decide +kernel
theorem dX11_isVariable_37 : decode cX11_isVariable 37 = .ok (.ireturn, 1) := by decide +kernel
set_option maxRecDepth 10000 in
set_option maxHeartbeats 4000000 in
theorem A_X11_isVariable_2 {Z : az_Z} {d : Nat} (C : az_C Z yX11_isVariable cX11_isVariable 2 (some .boolean) d) (hD : 4 ≤ d) (n : Nat) (k : Nat) : ∀ {σ : az_Hp} {v0 v1 : Int} {r : Int}, fz_X11_isVariable_2 n k σ v0 v1 = some r → az_AW Z 2 2 [(13, v0), (0, v1)] [] σ (some (0, r), σ) := by
  have hd1 : 1 ≤ d := by omega
  induction k with
  | zero => intro σ v0 v1 r h; simp [fz_X11_isVariable_2] at h
  | succ k ih =>
    intro σ v0 v1 r h
    unfold fz_X11_isVariable_2 at h
    refine az_il1 (pc := 2) C dX11_isVariable_2 ?_
    refine az_bk7 (pc := 3) C dX11_isVariable_3 ?_
    refine az_icmp_ge (pc := 5) (tgt := 24) C h dX11_isVariable_5 (by decide) (fun _ h => ?_) (fun _ h => ?_)
    · refine az_al0 (pc := 24) C rfl rfl dX11_isVariable_24 ?_
      refine az_getI (pc := 25) C fl_X11_236 rfl dX11_isVariable_25 ?_
      refine az_ik3 (pc := 28) C dX11_isVariable_28 ?_
      refine az_icmp_ne (pc := 29) (tgt := 36) C h dX11_isVariable_29 (by decide) (fun _ h => ?_) (fun _ h => ?_)
      · refine az_ik0 (pc := 36) C dX11_isVariable_36 ?_
        obtain rfl := Option.some.inj h
        exact az_zreturn (pc := 37) C (by decide) dX11_isVariable_37 rfl
      refine az_ik1 (pc := 32) C dX11_isVariable_32 ?_
      refine az_goto (pc := 33) (tgt := 37) C dX11_isVariable_33 (by decide) ?_
      obtain rfl := Option.some.inj h
      exact az_zreturn (pc := 37) C (by decide) dX11_isVariable_37 rfl
    refine az_al0 (pc := 8) C rfl rfl dX11_isVariable_8 ?_
    refine az_il1 (pc := 9) C dX11_isVariable_9 ?_
    refine az_cV1pi (pc := 10) (c := 11) C hd1 h mv_X11_isWord ml_X11_267 rfl (fun x hx => A_X11_isWord (by omega) hx) dX11_isVariable_10 (fun r1 h => ?_)
    refine az_if_eq (pc := 13) (tgt := 18) C h dX11_isVariable_13 (by decide) (fun _ h => ?_) (fun _ h => ?_)
    · refine az_ii1 (pc := 18) C az_n1 rfl rfl dX11_isVariable_18 ?_
      refine az_goto (pc := 21) (tgt := 2) C dX11_isVariable_21 (by decide) ?_
      exact (ih h)
    refine az_ik0 (pc := 16) C dX11_isVariable_16 ?_
    obtain rfl := Option.some.inj h
    exact az_zreturn (pc := 17) C (by decide) dX11_isVariable_17 rfl
set_option maxRecDepth 10000 in
set_option maxHeartbeats 4000000 in
theorem A_X11_isVariable_e {Z : az_Z} {d : Nat} (C : az_C Z yX11_isVariable cX11_isVariable 2 (some .boolean) d) (hD : 4 ≤ d) (n : Nat) {σ : az_Hp} {v0 : Int} {r : Int} (h : fz_X11_isVariable n σ v0 = some r) : az_AW Z 2 0 [(13, v0), (31, 0)] [] σ (some (0, r), σ) := by
  have hd1 : 1 ≤ d := by omega
  unfold fz_X11_isVariable at h
  refine az_ik0 (pc := 0) C dX11_isVariable_0 ?_
  refine az_is1 (pc := 1) C rfl rfl dX11_isVariable_1 ?_
  exact (A_X11_isVariable_2 C hD n n h)
set_option maxRecDepth 10000 in
set_option maxHeartbeats 4000000 in
theorem A_X11_isVariable {l : Launch} {d : Nat} (hD : 4 ≤ d) (n : Nat) {σ : az_Hp} {v0 : Int} {r : Int} (h : fz_X11_isVariable n σ v0 = some r) : az_AC l yX11_isVariable cX11_isVariable 2 (some .boolean) d [(13, v0)] σ (some (0, r), σ) := az_AC.of mt_X11_isVariable rfl rfl rfl (fun Z hZ C => A_X11_isVariable_e C hD n h)
theorem dX11_puts_0 : decode cX11_puts 0 = .ok (.aload_n 0, 1) := by decide +kernel
theorem dX11_puts_1 : decode cX11_puts 1 = .ok (.getfield 64, 3) := by decide +kernel
theorem dX11_puts_4 : decode cX11_puts 4 = .ok (.aload_n 0, 1) := by decide +kernel
theorem dX11_puts_5 : decode cX11_puts 5 = .ok (.getfield 294, 3) := by decide +kernel
theorem dX11_puts_8 : decode cX11_puts 8 = .ok (.iload_n 1, 1) := by decide +kernel
theorem dX11_puts_9 : decode cX11_puts 9 = .ok (.iastore, 1) := by decide +kernel
theorem dX11_puts_10 : decode cX11_puts 10 = .ok (.aload_n 0, 1) := by decide +kernel
theorem dX11_puts_11 : decode cX11_puts 11 = .ok (.dup, 1) := by decide +kernel
theorem dX11_puts_12 : decode cX11_puts 12 = .ok (.getfield 294, 3) := by decide +kernel
theorem dX11_puts_15 : decode cX11_puts 15 = .ok (.iconst 1, 1) := by decide +kernel
theorem dX11_puts_16 : decode cX11_puts 16 = .ok (.iadd, 1) := by decide +kernel
theorem dX11_puts_17 : decode cX11_puts 17 = .ok (.putfield 294, 3) := by decide +kernel
theorem dX11_puts_20 : decode cX11_puts 20 = .ok (.aload_n 0, 1) := by decide +kernel
theorem dX11_puts_21 : decode cX11_puts 21 = .ok (.invokevirtual 282, 3) := by decide +kernel
theorem dX11_puts_24 : decode cX11_puts 24 = .ok (.iconst 1, 1) := by decide +kernel
theorem dX11_puts_25 : decode cX11_puts 25 = .ok (.ireturn, 1) := by decide +kernel
set_option maxRecDepth 10000 in
set_option maxHeartbeats 4000000 in
theorem A_X11_puts_e {Z : az_Z} {d : Nat} (C : az_C Z yX11_puts cX11_puts 2 (some .boolean) d) (hD : 3 ≤ d) (n : Nat) {σ : az_Hp} {v0 v1 : Int} {r : (Int × az_Hp)} (h : fz_X11_puts n σ v0 v1 = some r) : az_AW Z 2 0 [(13, v0), (0, v1)] [] σ (some (0, r.1), r.2) := by
  have hd1 : 1 ≤ d := by omega
  unfold fz_X11_puts at h
  refine az_al0 (pc := 0) C rfl rfl dX11_puts_0 ?_
  refine az_getR (pc := 1) (c2 := 13) C h fl_X11_64 rfl rfl dX11_puts_1 (fun h => ?_)
  refine az_al0 (pc := 4) C rfl rfl dX11_puts_4 ?_
  refine az_getI (pc := 5) C fl_X11_294 rfl dX11_puts_5 ?_
  refine az_il1 (pc := 8) C dX11_puts_8 ?_
  refine az_iastore (pc := 9) C h dX11_puts_9 (fun h => ?_)
  refine az_al0 (pc := 10) C rfl rfl dX11_puts_10 ?_
  refine az_dup (pc := 11) C rfl rfl dX11_puts_11 ?_
  refine az_getI (pc := 12) C fl_X11_294 rfl dX11_puts_12 ?_
  refine az_ik1 (pc := 15) C dX11_puts_15 ?_
  refine az_iadd (pc := 16) C dX11_puts_16 ?_
  refine az_putI (pc := 17) C fl_X11_294 (Or.inl rfl) rfl dX11_puts_17 ?_
  refine az_al0 (pc := 20) C rfl rfl dX11_puts_20 ?_
  refine az_cV0v (pc := 21) (c := 11) C hd1 h mv_X11_go ml_X11_282 rfl (fun x hx => A_X11_go (by omega) n hx) dX11_puts_21 (fun r3 h => ?_)
  refine az_ik1 (pc := 24) C dX11_puts_24 ?_
  obtain rfl := Option.some.inj h
  exact az_zreturn (pc := 25) C (by decide) dX11_puts_25 rfl
set_option maxRecDepth 10000 in
set_option maxHeartbeats 4000000 in
theorem A_X11_puts {l : Launch} {d : Nat} (hD : 3 ≤ d) (n : Nat) {σ : az_Hp} {v0 v1 : Int} {r : (Int × az_Hp)} (h : fz_X11_puts n σ v0 v1 = some r) : az_AC l yX11_puts cX11_puts 2 (some .boolean) d [(13, v0), (0, v1)] σ (some (0, r.1), r.2) := az_AC.of mt_X11_puts rfl rfl rfl (fun Z hZ C => A_X11_puts_e C hD n h)
theorem dX11_mayEnd_0 : decode cX11_mayEnd 0 = .ok (.iload_n 2, 1) := by decide +kernel
theorem dX11_mayEnd_1 : decode cX11_mayEnd 1 = .ok (.ifCond .eq 29, 3) := by decide +kernel
theorem dX11_mayEnd_4 : decode cX11_mayEnd 4 = .ok (.aload_n 0, 1) := by decide +kernel
theorem dX11_mayEnd_5 : decode cX11_mayEnd 5 = .ok (.bipush 44, 2) := by decide +kernel
theorem dX11_mayEnd_7 : decode cX11_mayEnd 7 = .ok (.invokevirtual 276, 3) := by decide +kernel
theorem dX11_mayEnd_10 : decode cX11_mayEnd 10 = .ok (.ifCond .ne 12, 3) := by decide +kernel
theorem dX11_mayEnd_13 : decode cX11_mayEnd 13 = .ok (.aload_n 0, 1) := by decide +kernel
theorem dX11_mayEnd_14 : decode cX11_mayEnd 14 = .ok (.bipush 41, 2) := by decide +kernel
theorem dX11_mayEnd_16 : decode cX11_mayEnd 16 = .ok (.invokevirtual 276, 3) := by decide +kernel
theorem dX11_mayEnd_19 : decode cX11_mayEnd 19 = .ok (.ifCond .eq 7, 3) := by decide +kernel
theorem dX11_mayEnd_22 : decode cX11_mayEnd 22 = .ok (.iconst 1, 1) := by decide +kernel
theorem dX11_mayEnd_23 : decode cX11_mayEnd 23 = .ok (.goto 25, 3) := by decide +kernel
theorem dX11_mayEnd_26 : decode cX11_mayEnd 26 = .ok (.iconst 0, 1) := by decide +kernel
theorem dX11_mayEnd_27 : decode cX11_mayEnd 27 = .ok (.goto 21, 3) := by decide +kernel
theorem dX11_mayEnd_30 : decode cX11_mayEnd 30 = .ok (.iload_n 1, 1) := by decide +kernel
theorem dX11_mayEnd_31 : decode cX11_mayEnd 31 = .ok (.iconst (-1), 1) := by decide +kernel
theorem dX11_mayEnd_32 : decode cX11_mayEnd 32 = .ok (.if_icmp .eq 15, 3) := by decide +kernel
theorem dX11_mayEnd_35 : decode cX11_mayEnd 35 = .ok (.aload_n 0, 1) := by decide +kernel
theorem dX11_mayEnd_36 : decode cX11_mayEnd 36 = .ok (.iload_n 1, 1) := by decide +kernel
theorem dX11_mayEnd_37 : decode cX11_mayEnd 37 = .ok (.invokevirtual 276, 3) := by decide +kernel
theorem dX11_mayEnd_40 : decode cX11_mayEnd 40 = .ok (.ifCond .eq 7, 3) := by decide +kernel
theorem dX11_mayEnd_43 : decode cX11_mayEnd 43 = .ok (.iconst 1, 1) := by decide +kernel
theorem dX11_mayEnd_44 : decode cX11_mayEnd 44 = .ok (.goto 4, 3) := by decide +kernel
theorem dX11_mayEnd_47 : decode cX11_mayEnd 47 = .ok (.iconst 0, 1) := by decide +kernel
theorem dX11_mayEnd_48 : decode cX11_mayEnd 48 = .ok (.ireturn, 1) := by decide +kernel
set_option maxRecDepth 10000 in
set_option maxHeartbeats 4000000 in
theorem A_X11_mayEnd_e {Z : az_Z} {d : Nat} (C : az_C Z yX11_mayEnd cX11_mayEnd 3 (some .boolean) d) (hD : 2 ≤ d) {σ : az_Hp} {v0 v1 v2 : Int} {r : Int} (h : fz_X11_mayEnd σ v0 v1 v2 = some r) : az_AW Z 3 0 [(13, v0), (0, v1), (0, v2)] [] σ (some (0, r), σ) := by
  have hd1 : 1 ≤ d := by omega
  unfold fz_X11_mayEnd at h
  refine az_il2 (pc := 0) C dX11_mayEnd_0 ?_
  refine az_if_eq (pc := 1) (tgt := 30) C h dX11_mayEnd_1 (by decide) (fun _ h => ?_) (fun _ h => ?_)
  · refine az_il1 (pc := 30) C dX11_mayEnd_30 ?_
    refine az_ikm1 (pc := 31) C dX11_mayEnd_31 ?_
    refine az_icmp_eq (pc := 32) (tgt := 47) C h dX11_mayEnd_32 (by decide) (fun _ h => ?_) (fun _ h => ?_)
    · refine az_ik0 (pc := 47) C dX11_mayEnd_47 ?_
      obtain rfl := Option.some.inj h
      exact az_zreturn (pc := 48) C (by decide) dX11_mayEnd_48 rfl
    refine az_al0 (pc := 35) C rfl rfl dX11_mayEnd_35 ?_
    refine az_il1 (pc := 36) C dX11_mayEnd_36 ?_
    refine az_cV1pi (pc := 37) (c := 11) C hd1 h mv_X11_isSign ml_X11_276 rfl (fun x hx => A_X11_isSign (by omega) hx) dX11_mayEnd_37 (fun r1 h => ?_)
    refine az_if_eq (pc := 40) (tgt := 47) C h dX11_mayEnd_40 (by decide) (fun _ h => ?_) (fun _ h => ?_)
    · refine az_ik0 (pc := 47) C dX11_mayEnd_47 ?_
      obtain rfl := Option.some.inj h
      exact az_zreturn (pc := 48) C (by decide) dX11_mayEnd_48 rfl
    refine az_ik1 (pc := 43) C dX11_mayEnd_43 ?_
    refine az_goto (pc := 44) (tgt := 48) C dX11_mayEnd_44 (by decide) ?_
    obtain rfl := Option.some.inj h
    exact az_zreturn (pc := 48) C (by decide) dX11_mayEnd_48 rfl
  refine az_al0 (pc := 4) C rfl rfl dX11_mayEnd_4 ?_
  refine az_bk44 (pc := 5) C dX11_mayEnd_5 ?_
  refine az_cV1pi (pc := 7) (c := 11) C hd1 h mv_X11_isSign ml_X11_276 rfl (fun x hx => A_X11_isSign (by omega) hx) dX11_mayEnd_7 (fun r2 h => ?_)
  refine az_if_ne (pc := 10) (tgt := 22) C h dX11_mayEnd_10 (by decide) (fun _ h => ?_) (fun _ h => ?_)
  · refine az_ik1 (pc := 22) C dX11_mayEnd_22 ?_
    refine az_goto (pc := 23) (tgt := 48) C dX11_mayEnd_23 (by decide) ?_
    obtain rfl := Option.some.inj h
    exact az_zreturn (pc := 48) C (by decide) dX11_mayEnd_48 rfl
  refine az_al0 (pc := 13) C rfl rfl dX11_mayEnd_13 ?_
  refine az_bk41 (pc := 14) C dX11_mayEnd_14 ?_
  refine az_cV1pi (pc := 16) (c := 11) C hd1 h mv_X11_isSign ml_X11_276 rfl (fun x hx => A_X11_isSign (by omega) hx) dX11_mayEnd_16 (fun r3 h => ?_)
  refine az_if_eq (pc := 19) (tgt := 26) C h dX11_mayEnd_19 (by decide) (fun _ h => ?_) (fun _ h => ?_)
  · refine az_ik0 (pc := 26) C dX11_mayEnd_26 ?_
    refine az_goto (pc := 27) (tgt := 48) C dX11_mayEnd_27 (by decide) ?_
    obtain rfl := Option.some.inj h
    exact az_zreturn (pc := 48) C (by decide) dX11_mayEnd_48 rfl
  refine az_ik1 (pc := 22) C dX11_mayEnd_22 ?_
  refine az_goto (pc := 23) (tgt := 48) C dX11_mayEnd_23 (by decide) ?_
  obtain rfl := Option.some.inj h
  exact az_zreturn (pc := 48) C (by decide) dX11_mayEnd_48 rfl
set_option maxRecDepth 10000 in
set_option maxHeartbeats 4000000 in
theorem A_X11_mayEnd {l : Launch} {d : Nat} (hD : 2 ≤ d) {σ : az_Hp} {v0 v1 v2 : Int} {r : Int} (h : fz_X11_mayEnd σ v0 v1 v2 = some r) : az_AC l yX11_mayEnd cX11_mayEnd 3 (some .boolean) d [(13, v0), (0, v1), (0, v2)] σ (some (0, r), σ) := az_AC.of mt_X11_mayEnd rfl rfl rfl (fun Z hZ C => A_X11_mayEnd_e C hD h)
