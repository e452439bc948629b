theorem dX11_asks_0 : decode cX11_asks 0 = .ok (.aload_n 0, 1) := by decide +kernel
theorem dX11_asks_1 : decode cX11_asks 1 = .ok (.iload_n 1, 1) := by decide +kernel
theorem dX11_asks_2 : decode cX11_asks 2 = .ok (.iconst 0, 1) := by decide +kernel
theorem dX11_asks_3 : decode cX11_asks 3 = .ok (.invokevirtual 699, 3) := by decide +kernel
theorem dX11_asks_6 : decode cX11_asks 6 = .ok (.ifCond .ne 5, 3) := by decide +kernel
theorem dX11_asks_9 : decode cX11_asks 9 = .ok (.iconst 3, 1) := by decide +kernel
theorem dX11_asks_10 : decode cX11_asks 10 = .ok (.ireturn, 1) := by decide +kernel
theorem dX11_asks_11 : decode cX11_asks 11 = .ok (.aload_n 0, 1) := by decide +kernel
theorem dX11_asks_12 : decode cX11_asks 12 = .ok (.aload_n 0, 1) := by decide +kernel
theorem dX11_asks_13 : decode cX11_asks 13 = .ok (.getfield 601, 3) := by decide +kernel
theorem dX11_asks_16 : decode cX11_asks 16 = .ok (.putfield 702, 3) := by decide +kernel
theorem dX11_asks_19 : decode cX11_asks 19 = .ok (.iconst 0, 1) := by decide +kernel
theorem dX11_asks_20 : decode cX11_asks 20 = .ok (.istore_n 2, 1) := by decide +kernel
theorem dX11_asks_21 : decode cX11_asks 21 = .ok (.iload_n 2, 1) := by decide +kernel
theorem dX11_asks_22 : decode cX11_asks 22 = .ok (.aload_n 0, 1) := by decide +kernel
theorem dX11_asks_23 : decode cX11_asks 23 = .ok (.getfield 601, 3) := by decide +kernel
theorem dX11_asks_26 : decode cX11_asks 26 = .ok (.if_icmp .ge 21, 3) := by decide +kernel
theorem dX11_asks_29 : decode cX11_asks 29 = .ok (.aload_n 0, 1) := by decide +kernel
theorem dX11_asks_30 : decode cX11_asks 30 = .ok (.getfield 207, 3) := by decide +kernel
theorem dX11_asks_33 : decode cX11_asks 33 = .ok (.iload_n 2, 1) := by decide +kernel
theorem dX11_asks_34 : decode cX11_asks 34 = .ok (.aload_n 0, 1) := by decide +kernel
theorem dX11_asks_35 : decode cX11_asks 35 = .ok (.getfield 126, 3) := by decide +kernel
theorem dX11_asks_38 : decode cX11_asks 38 = .ok (.iload_n 2, 1) := by decide +kernel
theorem dX11_asks_39 : decode cX11_asks 39 = .ok (.iaload, 1) := by decide +kernel
theorem dX11_asks_40 : decode cX11_asks 40 = .ok (.iastore, 1) := by decide +kernel
theorem dX11_asks_41 : decode cX11_asks 41 = .ok (.iinc 2 1, 3) := by decide +kernel
theorem dX11_asks_44 : decode cX11_asks 44 = .ok (.goto (-23), 3) := by decide +kernel
theorem dX11_asks_47 : decode cX11_asks 47 = .ok (.aload_n 0, 1) := by decide +kernel
theorem dX11_asks_48 : decode cX11_asks 48 = .ok (.iload_n 1, 1) := by decide +kernel
theorem dX11_asks_49 : decode cX11_asks 49 = .ok (.iconst 1, 1) := by decide +kernel
theorem dX11_asks_50 : decode cX11_asks 50 = .ok (.invokevirtual 699, 3) := by decide +kernel
theorem dX11_asks_53 : decode cX11_asks 53 = .ok (.ifCond .ne 5, 3) := by decide +kernel
theorem dX11_asks_56 : decode cX11_asks 56 = .ok (.iconst 3, 1) := by decide +kernel
theorem dX11_asks_57 : decode cX11_asks 57 = .ok (.ireturn, 1) := by decide +kernel
theorem dX11_asks_58 : decode cX11_asks 58 = .ok (.aload_n 0, 1) := by decide +kernel
theorem dX11_asks_59 : decode cX11_asks 59 = .ok (.aload_n 0, 1) := by decide +kernel
theorem dX11_asks_60 : decode cX11_asks 60 = .ok (.getfield 601, 3) := by decide +kernel
theorem dX11_asks_63 : decode cX11_asks 63 = .ok (.putfield 705, 3) := by decide +kernel
theorem dX11_asks_66 : decode cX11_asks 66 = .ok (.iconst 0, 1) := by decide +kernel
theorem dX11_asks_67 : decode cX11_asks 67 = .ok (.istore_n 2, 1) := by decide +kernel
theorem dX11_asks_68 : decode cX11_asks 68 = .ok (.iload_n 2, 1) := by decide +kernel
theorem dX11_asks_69 : decode cX11_asks 69 = .ok (.aload_n 0, 1) := by decide +kernel
theorem dX11_asks_70 : decode cX11_asks 70 = .ok (.getfield 601, 3) := by decide +kernel
theorem dX11_asks_73 : decode cX11_asks 73 = .ok (.if_icmp .ge 21, 3) := by decide +kernel
theorem dX11_asks_76 : decode cX11_asks 76 = .ok (.aload_n 0, 1) := by decide +kernel
theorem dX11_asks_77 : decode cX11_asks 77 = .ok (.getfield 210, 3) := by decide +kernel
theorem dX11_asks_80 : decode cX11_asks 80 = .ok (.iload_n 2, 1) := by decide +kernel
theorem dX11_asks_81 : decode cX11_asks 81 = .ok (.aload_n 0, 1) := by decide +kernel
theorem dX11_asks_82 : decode cX11_asks 82 = .ok (.getfield 126, 3) := by decide +kernel
theorem dX11_asks_85 : decode cX11_asks 85 = .ok (.iload_n 2, 1) := by decide +kernel
theorem dX11_asks_86 : decode cX11_asks 86 = .ok (.iaload, 1) := by decide +kernel
theorem dX11_asks_87 : decode cX11_asks 87 = .ok (.iastore, 1) := by decide +kernel
theorem dX11_asks_88 : decode cX11_asks 88 = .ok (.iinc 2 1, 3) := by decide +kernel
theorem dX11_asks_91 : decode cX11_asks 91 = .ok (.goto (-23), 3) := by decide +kernel
theorem dX11_asks_94 : decode cX11_asks 94 = .ok (.aload_n 0, 1) := by decide +kernel
theorem dX11_asks_95 : decode cX11_asks 95 = .ok (.getfield 702, 3) := by decide +kernel
theorem dX11_asks_98 : decode cX11_asks 98 = .ok (.aload_n 0, 1) := by decide +kernel
theorem dX11_asks_99 : decode cX11_asks 99 = .ok (.getfield 705, 3) := by decide +kernel
theorem dX11_asks_102 : decode cX11_asks 102 = .ok (.if_icmp .ne 25, 3) := by decide +kernel
theorem dX11_asks_105 : decode cX11_asks 105 = .ok (.aload_n 0, 1) := by decide +kernel
theorem dX11_asks_106 : decode cX11_asks 106 = .ok (.getfield 207, 3) := by decide +kernel
theorem dX11_asks_109 : decode cX11_asks 109 = .ok (.iconst 0, 1) := by decide +kernel
theorem dX11_asks_110 : decode cX11_asks 110 = .ok (.aload_n 0, 1) := by decide +kernel
theorem dX11_asks_111 : decode cX11_asks 111 = .ok (.getfield 210, 3) := by decide +kernel
theorem dX11_asks_114 : decode cX11_asks 114 = .ok (.iconst 0, 1) := by decide +kernel
theorem dX11_asks_115 : decode cX11_asks 115 = .ok (.aload_n 0, 1) := by decide +kernel
theorem dX11_asks_116 : decode cX11_asks 116 = .ok (.getfield 702, 3) := by decide +kernel
theorem dX11_asks_119 : decode cX11_asks 119 = .ok (.invokestatic 420, 3) := by decide +kernel
theorem dX11_asks_122 : decode cX11_asks 122 = .ok (.ifCond .eq 5, 3) := by decide +kernel
theorem dX11_asks_125 : decode cX11_asks 125 = .ok (.iconst 0, 1) := by decide +kernel
theorem dX11_asks_126 : decode cX11_asks 126 = .ok (.ireturn, 1) := by decide +kernel
theorem dX11_asks_127 : decode cX11_asks 127 = .ok (.aload_n 0, 1) := by decide +kernel
theorem dX11_asks_128 : decode cX11_asks 128 = .ok (.aload_n 0, 1) := by decide +kernel
theorem dX11_asks_129 : decode cX11_asks 129 = .ok (.getfield 207, 3) := by decide +kernel
theorem dX11_asks_132 : decode cX11_asks 132 = .ok (.invokevirtual 708, 3) := by decide +kernel
theorem dX11_asks_135 : decode cX11_asks 135 = .ok (.ifCond .eq 22, 3) := by decide +kernel
theorem dX11_asks_138 : decode cX11_asks 138 = .ok (.aload_n 0, 1) := by decide +kernel
theorem dX11_asks_139 : decode cX11_asks 139 = .ok (.aload_n 0, 1) := by decide +kernel
theorem dX11_asks_140 : decode cX11_asks 140 = .ok (.getfield 207, 3) := by decide +kernel
theorem dX11_asks_143 : decode cX11_asks 143 = .ok (.iconst 0, 1) := by decide +kernel
theorem dX11_asks_144 : decode cX11_asks 144 = .ok (.iaload, 1) := by decide +kernel
theorem dX11_asks_145 : decode cX11_asks 145 = .ok (.aload_n 0, 1) := by decide +kernel
theorem dX11_asks_146 : decode cX11_asks 146 = .ok (.getfield 210, 3) := by decide +kernel
theorem dX11_asks_149 : decode cX11_asks 149 = .ok (.aload_n 0, 1) := by decide +kernel
theorem dX11_asks_150 : decode cX11_asks 150 = .ok (.getfield 705, 3) := by decide +kernel
theorem dX11_asks_153 : decode cX11_asks 153 = .ok (.invokevirtual 712, 3) := by decide +kernel
theorem dX11_asks_156 : decode cX11_asks 156 = .ok (.ireturn, 1) := by decide +kernel
theorem dX11_asks_157 : decode cX11_asks 157 = .ok (.aload_n 0, 1) := by decide +kernel
theorem dX11_asks_158 : decode cX11_asks 158 = .ok (.aload_n 0, 1) := by decide +kernel
theorem dX11_asks_159 : decode cX11_asks 159 = .ok (.getfield 210, 3) := by decide +kernel
theorem dX11_asks_162 : decode cX11_asks 162 = .ok (.invokevirtual 708, 3) := by decide +kernel
theorem dX11_asks_165 : decode cX11_asks 165 = .ok (.ifCond .eq 22, 3) := by decide +kernel
theorem dX11_asks_168 : decode cX11_asks 168 = .ok (.aload_n 0, 1) := by decide +kernel
theorem dX11_asks_169 : decode cX11_asks 169 = .ok (.aload_n 0, 1) := by decide +kernel
theorem dX11_asks_170 : decode cX11_asks 170 = .ok (.getfield 210, 3) := by decide +kernel
theorem dX11_asks_173 : decode cX11_asks 173 = .ok (.iconst 0, 1) := by decide +kernel
theorem dX11_asks_174 : decode cX11_asks 174 = .ok (.iaload, 1) := by decide +kernel
theorem dX11_asks_175 : decode cX11_asks 175 = .ok (.aload_n 0, 1) := by decide +kernel
theorem dX11_asks_176 : decode cX11_asks 176 = .ok (.getfield 207, 3) := by decide +kernel
theorem dX11_asks_179 : decode cX11_asks 179 = .ok (.aload_n 0, 1) := by decide +kernel
theorem dX11_asks_180 : decode cX11_asks 180 = .ok (.getfield 702, 3) := by decide +kernel
theorem dX11_asks_183 : decode cX11_asks 183 = .ok (.invokevirtual 712, 3) := by decide +kernel
theorem dX11_asks_186 : decode cX11_asks 186 = .ok (.ireturn, 1) := by decide +kernel
theorem dX11_asks_187 : decode cX11_asks 187 = .ok (.aload_n 0, 1) := by decide +kernel
theorem dX11_asks_188 : decode cX11_asks 188 = .ok (.getfield 207, 3) := by decide +kernel
theorem dX11_asks_191 : decode cX11_asks 191 = .ok (.iconst 0, 1) := by decide +kernel
theorem dX11_asks_192 : decode cX11_asks 192 = .ok (.iaload, 1) := by decide +kernel
theorem dX11_asks_193 : decode cX11_asks 193 = .ok (.invokestatic 645, 3) := by decide +kernel
theorem dX11_asks_196 : decode cX11_asks 196 = .ok (.ifCond .eq 40, 3) := by decide +kernel
theorem dX11_asks_199 : decode cX11_asks 199 = .ok (.aload_n 0, 1) := by decide +kernel
theorem dX11_asks_200 : decode cX11_asks 200 = .ok (.getfield 210, 3) := by decide +kernel
theorem dX11_asks_203 : decode cX11_asks 203 = .ok (.iconst 0, 1) := by decide +kernel
theorem dX11_asks_204 : decode cX11_asks 204 = .ok (.iaload, 1) := by decide +kernel
theorem dX11_asks_205 : decode cX11_asks 205 = .ok (.invokestatic 645, 3) := by decide +kernel
theorem dX11_asks_208 : decode cX11_asks 208 = .ok (.ifCond .eq 28, 3) := by decide +kernel
theorem dX11_asks_211 : decode cX11_asks 211 = .ok (.aload_n 0, 1) := by decide +kernel
theorem dX11_asks_212 : decode cX11_asks 212 = .ok (.getfield 207, 3) := by decide +kernel
theorem dX11_asks_215 : decode cX11_asks 215 = .ok (.iconst 0, 1) := by decide +kernel
theorem dX11_asks_216 : decode cX11_asks 216 = .ok (.iaload, 1) := by decide +kernel
theorem dX11_asks_217 : decode cX11_asks 217 = .ok (.aload_n 0, 1) := by decide +kernel
theorem dX11_asks_218 : decode cX11_asks 218 = .ok (.getfield 210, 3) := by decide +kernel
theorem dX11_asks_221 : decode cX11_asks 221 = .ok (.iconst 0, 1) := by decide +kernel
theorem dX11_asks_222 : decode cX11_asks 222 = .ok (.iaload, 1) := by decide +kernel
theorem dX11_asks_223 : decode cX11_asks 223 = .ok (.if_icmp .ne 11, 3) := by decide +kernel
theorem dX11_asks_226 : decode cX11_asks 226 = .ok (.aload_n 0, 1) := by decide +kernel
theorem dX11_asks_227 : decode cX11_asks 227 = .ok (.iload_n 1, 1) := by decide +kernel
theorem dX11_asks_228 : decode cX11_asks 228 = .ok (.invokevirtual 715, 3) := by decide +kernel
theorem dX11_asks_231 : decode cX11_asks 231 = .ok (.goto 4, 3) := by decide +kernel
theorem dX11_asks_234 : decode cX11_asks 234 = .ok (.iconst 1, 1) := by decide +kernel
theorem dX11_asks_235 : decode cX11_asks 235 = .ok (.ireturn, 1) := by decide +kernel
theorem dX11_asks_236 : decode cX11_asks 236 = .ok (.aload_n 0, 1) := by decide +kernel
theorem dX11_asks_237 : decode cX11_asks 237 = .ok (.getfield 207, 3) := by decide +kernel
theorem dX11_asks_240 : decode cX11_asks 240 = .ok (.iconst 0, 1) := by decide +kernel
theorem dX11_asks_241 : decode cX11_asks 241 = .ok (.iaload, 1) := by decide +kernel
theorem dX11_asks_242 : decode cX11_asks 242 = .ok (.invokestatic 291, 3) := by decide +kernel
theorem dX11_asks_245 : decode cX11_asks 245 = .ok (.ifCond .eq 41, 3) := by decide +kernel
theorem dX11_asks_248 : decode cX11_asks 248 = .ok (.aload_n 0, 1) := by decide +kernel
theorem dX11_asks_249 : decode cX11_asks 249 = .ok (.getfield 207, 3) := by decide +kernel
theorem dX11_asks_252 : decode cX11_asks 252 = .ok (.iconst 0, 1) := by decide +kernel
theorem dX11_asks_253 : decode cX11_asks 253 = .ok (.iaload, 1) := by decide +kernel
theorem dX11_asks_254 : decode cX11_asks 254 = .ok (.aload_n 0, 1) := by decide +kernel
theorem dX11_asks_255 : decode cX11_asks 255 = .ok (.getfield 210, 3) := by decide +kernel
theorem dX11_asks_258 : decode cX11_asks 258 = .ok (.iconst 0, 1) := by decide +kernel
theorem dX11_asks_259 : decode cX11_asks 259 = .ok (.iaload, 1) := by decide +kernel
theorem dX11_asks_260 : decode cX11_asks 260 = .ok (.if_icmp .ne 26, 3) := by decide +kernel
theorem dX11_asks_263 : decode cX11_asks 263 = .ok (.aload_n 0, 1) := by decide +kernel
theorem dX11_asks_264 : decode cX11_asks 264 = .ok (.aload_n 0, 1) := by decide +kernel
theorem dX11_asks_265 : decode cX11_asks 265 = .ok (.getfield 207, 3) := by decide +kernel
theorem dX11_asks_268 : decode cX11_asks 268 = .ok (.iconst 0, 1) := by decide +kernel
theorem dX11_asks_269 : decode cX11_asks 269 = .ok (.iaload, 1) := by decide +kernel
theorem dX11_asks_270 : decode cX11_asks 270 = .ok (.sipush 200, 3) := by decide +kernel
theorem dX11_asks_273 : decode cX11_asks 273 = .ok (.isub, 1) := by decide +kernel
theorem dX11_asks_274 : decode cX11_asks 274 = .ok (.invokevirtual 526, 3) := by decide +kernel
theorem dX11_asks_277 : decode cX11_asks 277 = .ok (.ifCond .eq 9, 3) := by decide +kernel
theorem dX11_asks_280 : decode cX11_asks 280 = .ok (.aload_n 0, 1) := by decide +kernel
theorem dX11_asks_281 : decode cX11_asks 281 = .ok (.iload_n 1, 1) := by decide +kernel
theorem dX11_asks_282 : decode cX11_asks 282 = .ok (.invokevirtual 715, 3) := by decide +kernel
theorem dX11_asks_285 : decode cX11_asks 285 = .ok (.ireturn, 1) := by decide +kernel
theorem dX11_asks_286 : decode cX11_asks 286 = .ok (.aload_n 0, 1) := by decide +kernel
theorem dX11_asks_287 : decode cX11_asks 287 = .ok (.getfield 207, 3) := by decide +kernel
theorem dX11_asks_290 : decode cX11_asks 290 = .ok (.iconst 0, 1) := by decide +kernel
theorem dX11_asks_291 : decode cX11_asks 291 = .ok (.iaload, 1) := by decide +kernel
theorem dX11_asks_292 : decode cX11_asks 292 = .ok (.invokestatic 291, 3) := by decide +kernel
theorem dX11_asks_295 : decode cX11_asks 295 = .ok (.ifCond .ne 15, 3) := by decide +kernel
theorem dX11_asks_298 : decode cX11_asks 298 = .ok (.aload_n 0, 1) := by decide +kernel
theorem dX11_asks_299 : decode cX11_asks 299 = .ok (.getfield 210, 3) := by decide +kernel
theorem dX11_asks_302 : decode cX11_asks 302 = .ok (.iconst 0, 1) := by decide +kernel
theorem dX11_asks_303 : decode cX11_asks 303 = .ok (.iaload, 1) := by decide +kernel
theorem dX11_asks_304 : decode cX11_asks 304 = .ok (.invokestatic 291, 3) := by decide +kernel
theorem dX11_asks_307 : decode cX11_asks 307 = .ok (.ifCond .eq 7, 3) := by decide +kernel
theorem dX11_asks_310 : decode cX11_asks 310 = .ok (.iconst (-1), 1) := by decide +kernel
theorem dX11_asks_311 : decode cX11_asks 311 = .ok (.goto 4, 3) := by decide +kernel
theorem dX11_asks_314 : decode cX11_asks 314 = .ok (.iconst 1, 1) := by decide +kernel
theorem dX11_asks_315 : decode cX11_asks 315 = .ok (.ireturn, 1) := by decide +kernel
set_option maxRecDepth 10000 in
set_option maxHeartbeats 4000000 in
theorem A_X11_asks_286 {Z : az_Z} {d : Nat} (C : az_C Z yX11_asks cX11_asks 3 (some .int) d) (hD : 417 ≤ d) (n : Nat) {σ : az_Hp} {v0 : Int} {r : (Int × az_Hp)} (h : fz_X11_asks_286 n σ v0 = some r) : az_AW Z 3 286 [(13, v0), (31, 0), (31, 0)] [] σ (some (0, r.1), r.2) := by
  have hd1 : 1 ≤ d := by omega
  unfold fz_X11_asks_286 at h
  refine az_al0 (pc := 286) C rfl rfl dX11_asks_286 ?_
  refine az_getR (pc := 287) (c2 := 13) C h fl_X11_207 rfl rfl dX11_asks_287 (fun h => ?_)
  refine az_ik0 (pc := 290) C dX11_asks_290 ?_
  refine az_iaload (pc := 291) C h dX11_asks_291 (fun h => ?_)
  refine az_cS1pi (pc := 292) C hd1 h ms_X11_isFam ml_X11_291 rfl (fun x hx => A_X11_isFam (by omega) hx) dX11_asks_292 (fun r3 h => ?_)
  refine az_if_ne (pc := 295) (tgt := 310) C h dX11_asks_295 (by decide) (fun _ h => ?_) (fun _ h => ?_)
  · refine az_ikm1 (pc := 310) C dX11_asks_310 ?_
    refine az_goto (pc := 311) (tgt := 315) C dX11_asks_311 (by decide) ?_
    obtain rfl := Option.some.inj h
    exact az_ireturn (pc := 315) C dX11_asks_315 rfl
  refine az_al0 (pc := 298) C rfl rfl dX11_asks_298 ?_
  refine az_getR (pc := 299) (c2 := 13) C h fl_X11_210 rfl rfl dX11_asks_299 (fun h => ?_)
  refine az_ik0 (pc := 302) C dX11_asks_302 ?_
  refine az_iaload (pc := 303) C h dX11_asks_303 (fun h => ?_)
  refine az_cS1pi (pc := 304) C hd1 h ms_X11_isFam ml_X11_291 rfl (fun x hx => A_X11_isFam (by omega) hx) dX11_asks_304 (fun r6 h => ?_)
  refine az_if_eq (pc := 307) (tgt := 314) C h dX11_asks_307 (by decide) (fun _ h => ?_) (fun _ h => ?_)
  · refine az_ik1 (pc := 314) C dX11_asks_314 ?_
    obtain rfl := Option.some.inj h
    exact az_ireturn (pc := 315) C dX11_asks_315 rfl
  refine az_ikm1 (pc := 310) C dX11_asks_310 ?_
  refine az_goto (pc := 311) (tgt := 315) C dX11_asks_311 (by decide) ?_
  obtain rfl := Option.some.inj h
  exact az_ireturn (pc := 315) C dX11_asks_315 rfl
set_option maxRecDepth 10000 in
set_option maxHeartbeats 4000000 in
theorem A_X11_asks_236 {Z : az_Z} {d : Nat} (C : az_C Z yX11_asks cX11_asks 3 (some .int) d) (hD : 417 ≤ d) (n : Nat) {σ : az_Hp} {v0 v1 : Int} {r : (Int × az_Hp)} (h : fz_X11_asks_236 n σ v0 v1 = some r) : az_AW Z 3 236 [(13, v0), (0, v1), (31, 0)] [] σ (some (0, r.1), r.2) := by
  have hd1 : 1 ≤ d := by omega
  unfold fz_X11_asks_236 at h
  refine az_al0 (pc := 236) C rfl rfl dX11_asks_236 ?_
  refine az_getR (pc := 237) (c2 := 13) C h fl_X11_207 rfl rfl dX11_asks_237 (fun h => ?_)
  refine az_ik0 (pc := 240) C dX11_asks_240 ?_
  refine az_iaload (pc := 241) C h dX11_asks_241 (fun h => ?_)
  refine az_cS1pi (pc := 242) C hd1 h ms_X11_isFam ml_X11_291 rfl (fun x hx => A_X11_isFam (by omega) hx) dX11_asks_242 (fun r3 h => ?_)
  refine az_if_eq (pc := 245) (tgt := 286) C h dX11_asks_245 (by decide) (fun _ h => ?_) (fun _ h => ?_)
  · exact (az_wkk (A_X11_asks_286 C hD n h) (az_sE (az_sJ (az_sJ az_sN))))
  refine az_al0 (pc := 248) C rfl rfl dX11_asks_248 ?_
  refine az_getR (pc := 249) (c2 := 13) C h fl_X11_207 rfl rfl dX11_asks_249 (fun h => ?_)
  refine az_ik0 (pc := 252) C dX11_asks_252 ?_
  refine az_iaload (pc := 253) C h dX11_asks_253 (fun h => ?_)
  refine az_al0 (pc := 254) C rfl rfl dX11_asks_254 ?_
  refine az_getR (pc := 255) (c2 := 13) C h fl_X11_210 rfl rfl dX11_asks_255 (fun h => ?_)
  refine az_ik0 (pc := 258) C dX11_asks_258 ?_
  refine az_iaload (pc := 259) C h dX11_asks_259 (fun h => ?_)
  refine az_icmp_ne (pc := 260) (tgt := 286) C h dX11_asks_260 (by decide) (fun _ h => ?_) (fun _ h => ?_)
  · exact (az_wkk (A_X11_asks_286 C hD n h) (az_sE (az_sJ (az_sJ az_sN))))
  refine az_al0 (pc := 263) C rfl rfl dX11_asks_263 ?_
  refine az_al0 (pc := 264) C rfl rfl dX11_asks_264 ?_
  refine az_getR (pc := 265) (c2 := 13) C h fl_X11_207 rfl rfl dX11_asks_265 (fun h => ?_)
  refine az_ik0 (pc := 268) C dX11_asks_268 ?_
  refine az_iaload (pc := 269) C h dX11_asks_269 (fun h => ?_)
  refine az_sk200 (pc := 270) C dX11_asks_270 ?_
  refine az_isub (pc := 273) C dX11_asks_273 ?_
  refine az_cV1ii (pc := 274) (c := 11) C hd1 h mv_X11_canBack ml_X11_526 rfl (fun x hx => A_X11_canBack (by omega) n hx) dX11_asks_274 (fun r10 h => ?_)
  refine az_if_eq (pc := 277) (tgt := 286) C h dX11_asks_277 (by decide) (fun _ h => ?_) (fun _ h => ?_)
  · exact (az_wkk (A_X11_asks_286 C hD n h) (az_sE (az_sJ (az_sJ az_sN))))
  refine az_al0 (pc := 280) C rfl rfl dX11_asks_280 ?_
  refine az_il1 (pc := 281) C dX11_asks_281 ?_
  refine az_cV1ii (pc := 282) (c := 11) C hd1 h mv_X11_splits ml_X11_715 rfl (fun x hx => A_X11_splits (by omega) n hx) dX11_asks_282 (fun r11 h => ?_)
  obtain rfl := Option.some.inj h
  exact az_ireturn (pc := 285) C dX11_asks_285 rfl
set_option maxRecDepth 10000 in
set_option maxHeartbeats 4000000 in
theorem A_X11_asks_127 {Z : az_Z} {d : Nat} (C : az_C Z yX11_asks cX11_asks 3 (some .int) d) (hD : 417 ≤ d) (n : Nat) {σ : az_Hp} {v0 v1 : Int} {r : (Int × az_Hp)} (h : fz_X11_asks_127 n σ v0 v1 = some r) : az_AW Z 3 127 [(13, v0), (0, v1), (31, 0)] [] σ (some (0, r.1), r.2) := by
  have hd1 : 1 ≤ d := by omega
  unfold fz_X11_asks_127 at h
  refine az_al0 (pc := 127) C rfl rfl dX11_asks_127 ?_
  refine az_al0 (pc := 128) C rfl rfl dX11_asks_128 ?_
  refine az_getR (pc := 129) (c2 := 13) C h fl_X11_207 rfl rfl dX11_asks_129 (fun h => ?_)
  refine az_cV1pi (pc := 132) (c := 11) C hd1 h mv_X11_isUnknown ml_X11_708 rfl (fun x hx => A_X11_isUnknown (by omega) hx) dX11_asks_132 (fun r2 h => ?_)
  refine az_if_eq (pc := 135) (tgt := 157) C h dX11_asks_135 (by decide) (fun _ h => ?_) (fun _ h => ?_)
  · refine az_al0 (pc := 157) C rfl rfl dX11_asks_157 ?_
    refine az_al0 (pc := 158) C rfl rfl dX11_asks_158 ?_
    refine az_getR (pc := 159) (c2 := 13) C h fl_X11_210 rfl rfl dX11_asks_159 (fun h => ?_)
    refine az_cV1pi (pc := 162) (c := 11) C hd1 h mv_X11_isUnknown ml_X11_708 rfl (fun x hx => A_X11_isUnknown (by omega) hx) dX11_asks_162 (fun r4 h => ?_)
    refine az_if_eq (pc := 165) (tgt := 187) C h dX11_asks_165 (by decide) (fun _ h => ?_) (fun _ h => ?_)
    · refine az_al0 (pc := 187) C rfl rfl dX11_asks_187 ?_
      refine az_getR (pc := 188) (c2 := 13) C h fl_X11_207 rfl rfl dX11_asks_188 (fun h => ?_)
      refine az_ik0 (pc := 191) C dX11_asks_191 ?_
      refine az_iaload (pc := 192) C h dX11_asks_192 (fun h => ?_)
      refine az_cS1pi (pc := 193) C hd1 h ms_X11_isCon ml_X11_645 rfl (fun x hx => A_X11_isCon (by omega) hx) dX11_asks_193 (fun r7 h => ?_)
      refine az_if_eq (pc := 196) (tgt := 236) C h dX11_asks_196 (by decide) (fun _ h => ?_) (fun _ h => ?_)
      · exact (A_X11_asks_236 C hD n h)
      refine az_al0 (pc := 199) C rfl rfl dX11_asks_199 ?_
      refine az_getR (pc := 200) (c2 := 13) C h fl_X11_210 rfl rfl dX11_asks_200 (fun h => ?_)
      refine az_ik0 (pc := 203) C dX11_asks_203 ?_
      refine az_iaload (pc := 204) C h dX11_asks_204 (fun h => ?_)
      refine az_cS1pi (pc := 205) C hd1 h ms_X11_isCon ml_X11_645 rfl (fun x hx => A_X11_isCon (by omega) hx) dX11_asks_205 (fun r10 h => ?_)
      refine az_if_eq (pc := 208) (tgt := 236) C h dX11_asks_208 (by decide) (fun _ h => ?_) (fun _ h => ?_)
      · exact (A_X11_asks_236 C hD n h)
      refine az_al0 (pc := 211) C rfl rfl dX11_asks_211 ?_
      refine az_getR (pc := 212) (c2 := 13) C h fl_X11_207 rfl rfl dX11_asks_212 (fun h => ?_)
      refine az_ik0 (pc := 215) C dX11_asks_215 ?_
      refine az_iaload (pc := 216) C h dX11_asks_216 (fun h => ?_)
      refine az_al0 (pc := 217) C rfl rfl dX11_asks_217 ?_
      refine az_getR (pc := 218) (c2 := 13) C h fl_X11_210 rfl rfl dX11_asks_218 (fun h => ?_)
      refine az_ik0 (pc := 221) C dX11_asks_221 ?_
      refine az_iaload (pc := 222) C h dX11_asks_222 (fun h => ?_)
      refine az_icmp_ne (pc := 223) (tgt := 234) C h dX11_asks_223 (by decide) (fun _ h => ?_) (fun _ h => ?_)
      · refine az_ik1 (pc := 234) C dX11_asks_234 ?_
        obtain rfl := Option.some.inj h
        exact az_ireturn (pc := 235) C dX11_asks_235 rfl
      refine az_al0 (pc := 226) C rfl rfl dX11_asks_226 ?_
      refine az_il1 (pc := 227) C dX11_asks_227 ?_
      refine az_cV1ii (pc := 228) (c := 11) C hd1 h mv_X11_splits ml_X11_715 rfl (fun x hx => A_X11_splits (by omega) n hx) dX11_asks_228 (fun r15 h => ?_)
      refine az_goto (pc := 231) (tgt := 235) C dX11_asks_231 (by decide) ?_
      obtain rfl := Option.some.inj h
      exact az_ireturn (pc := 235) C dX11_asks_235 rfl
    refine az_al0 (pc := 168) C rfl rfl dX11_asks_168 ?_
    refine az_al0 (pc := 169) C rfl rfl dX11_asks_169 ?_
    refine az_getR (pc := 170) (c2 := 13) C h fl_X11_210 rfl rfl dX11_asks_170 (fun h => ?_)
    refine az_ik0 (pc := 173) C dX11_asks_173 ?_
    refine az_iaload (pc := 174) C h dX11_asks_174 (fun h => ?_)
    refine az_al0 (pc := 175) C rfl rfl dX11_asks_175 ?_
    refine az_getR (pc := 176) (c2 := 13) C h fl_X11_207 rfl rfl dX11_asks_176 (fun h => ?_)
    refine az_al0 (pc := 179) C rfl rfl dX11_asks_179 ?_
    refine az_getI (pc := 180) C fl_X11_702 rfl dX11_asks_180 ?_
    refine az_cV3ii (pc := 183) (c := 11) C hd1 h mv_X11_unknownBy ml_X11_712 rfl (fun x hx => A_X11_unknownBy (by omega) n hx) dX11_asks_183 (fun r19 h => ?_)
    obtain rfl := Option.some.inj h
    exact az_ireturn (pc := 186) C dX11_asks_186 rfl
  refine az_al0 (pc := 138) C rfl rfl dX11_asks_138 ?_
  refine az_al0 (pc := 139) C rfl rfl dX11_asks_139 ?_
  refine az_getR (pc := 140) (c2 := 13) C h fl_X11_207 rfl rfl dX11_asks_140 (fun h => ?_)
  refine az_ik0 (pc := 143) C dX11_asks_143 ?_
  refine az_iaload (pc := 144) C h dX11_asks_144 (fun h => ?_)
  refine az_al0 (pc := 145) C rfl rfl dX11_asks_145 ?_
  refine az_getR (pc := 146) (c2 := 13) C h fl_X11_210 rfl rfl dX11_asks_146 (fun h => ?_)
  refine az_al0 (pc := 149) C rfl rfl dX11_asks_149 ?_
  refine az_getI (pc := 150) C fl_X11_705 rfl dX11_asks_150 ?_
  refine az_cV3ii (pc := 153) (c := 11) C hd1 h mv_X11_unknownBy ml_X11_712 rfl (fun x hx => A_X11_unknownBy (by omega) n hx) dX11_asks_153 (fun r23 h => ?_)
  obtain rfl := Option.some.inj h
  exact az_ireturn (pc := 156) C dX11_asks_156 rfl
set_option maxRecDepth 10000 in
set_option maxHeartbeats 4000000 in
theorem A_X11_asks_68 {Z : az_Z} {d : Nat} (C : az_C Z yX11_asks cX11_asks 3 (some .int) d) (hD : 417 ≤ d) (n : Nat) (k : Nat) : ∀ {σ : az_Hp} {v0 v1 v2 : Int} {r : (Int × az_Hp)}, fz_X11_asks_68 n k σ v0 v1 v2 = some r → az_AW Z 3 68 [(13, v0), (0, v1), (0, v2)] [] σ (some (0, r.1), r.2) := by
  have hd1 : 1 ≤ d := by omega
  induction k with
  | zero => intro σ v0 v1 v2 r h; simp [fz_X11_asks_68] at h
  | succ k ih =>
    intro σ v0 v1 v2 r h
    unfold fz_X11_asks_68 at h
    refine az_il2 (pc := 68) C dX11_asks_68 ?_
    refine az_al0 (pc := 69) C rfl rfl dX11_asks_69 ?_
    refine az_getI (pc := 70) C fl_X11_601 rfl dX11_asks_70 ?_
    refine az_icmp_ge (pc := 73) (tgt := 94) C h dX11_asks_73 (by decide) (fun _ h => ?_) (fun _ h => ?_)
    · refine az_al0 (pc := 94) C rfl rfl dX11_asks_94 ?_
      refine az_getI (pc := 95) C fl_X11_702 rfl dX11_asks_95 ?_
      refine az_al0 (pc := 98) C rfl rfl dX11_asks_98 ?_
      refine az_getI (pc := 99) C fl_X11_705 rfl dX11_asks_99 ?_
      refine az_icmp_ne (pc := 102) (tgt := 127) C h dX11_asks_102 (by decide) (fun _ h => ?_) (fun _ h => ?_)
      · exact (az_wkk (A_X11_asks_127 C hD n h) (az_sE (az_sE (az_sJ az_sN))))
      refine az_al0 (pc := 105) C rfl rfl dX11_asks_105 ?_
      refine az_getR (pc := 106) (c2 := 13) C h fl_X11_207 rfl rfl dX11_asks_106 (fun h => ?_)
      refine az_ik0 (pc := 109) C dX11_asks_109 ?_
      refine az_al0 (pc := 110) C rfl rfl dX11_asks_110 ?_
      refine az_getR (pc := 111) (c2 := 13) C h fl_X11_210 rfl rfl dX11_asks_111 (fun h => ?_)
      refine az_ik0 (pc := 114) C dX11_asks_114 ?_
      refine az_al0 (pc := 115) C rfl rfl dX11_asks_115 ?_
      refine az_getI (pc := 116) C fl_X11_702 rfl dX11_asks_116 ?_
      refine az_cS5pi (pc := 119) C hd1 h ms_X11_isSame ml_X11_420 rfl (fun x hx => A_X11_isSame (by omega) n hx) dX11_asks_119 (fun r3 h => ?_)
      refine az_if_eq (pc := 122) (tgt := 127) C h dX11_asks_122 (by decide) (fun _ h => ?_) (fun _ h => ?_)
      · exact (az_wkk (A_X11_asks_127 C hD n h) (az_sE (az_sE (az_sJ az_sN))))
      refine az_ik0 (pc := 125) C dX11_asks_125 ?_
      obtain rfl := Option.some.inj h
      exact az_ireturn (pc := 126) C dX11_asks_126 rfl
    refine az_al0 (pc := 76) C rfl rfl dX11_asks_76 ?_
    refine az_getR (pc := 77) (c2 := 13) C h fl_X11_210 rfl rfl dX11_asks_77 (fun h => ?_)
    refine az_il2 (pc := 80) C dX11_asks_80 ?_
    refine az_al0 (pc := 81) C rfl rfl dX11_asks_81 ?_
    refine az_getR (pc := 82) (c2 := 13) C h fl_X11_126 rfl rfl dX11_asks_82 (fun h => ?_)
    refine az_il2 (pc := 85) C dX11_asks_85 ?_
    refine az_iaload (pc := 86) C h dX11_asks_86 (fun h => ?_)
    refine az_iastore (pc := 87) C h dX11_asks_87 (fun h => ?_)
    refine az_ii2 (pc := 88) C az_n1 rfl rfl dX11_asks_88 ?_
    refine az_goto (pc := 91) (tgt := 68) C dX11_asks_91 (by decide) ?_
    exact (ih h)
set_option maxRecDepth 10000 in
set_option maxHeartbeats 4000000 in
theorem A_X11_asks_21 {Z : az_Z} {d : Nat} (C : az_C Z yX11_asks cX11_asks 3 (some .int) d) (hD : 417 ≤ d) (n : Nat) (k : Nat) : ∀ {σ : az_Hp} {v0 v1 v2 : Int} {r : (Int × az_Hp)}, fz_X11_asks_21 n k σ v0 v1 v2 = some r → az_AW Z 3 21 [(13, v0), (0, v1), (0, v2)] [] σ (some (0, r.1), r.2) := by
  have hd1 : 1 ≤ d := by omega
  induction k with
  | zero => intro σ v0 v1 v2 r h; simp [fz_X11_asks_21] at h
  | succ k ih =>
    intro σ v0 v1 v2 r h
    unfold fz_X11_asks_21 at h
    refine az_il2 (pc := 21) C dX11_asks_21 ?_
    refine az_al0 (pc := 22) C rfl rfl dX11_asks_22 ?_
    refine az_getI (pc := 23) C fl_X11_601 rfl dX11_asks_23 ?_
    refine az_icmp_ge (pc := 26) (tgt := 47) C h dX11_asks_26 (by decide) (fun _ h => ?_) (fun _ h => ?_)
    · refine az_al0 (pc := 47) C rfl rfl dX11_asks_47 ?_
      refine az_il1 (pc := 48) C dX11_asks_48 ?_
      refine az_ik1 (pc := 49) C dX11_asks_49 ?_
      refine az_cV2ii (pc := 50) (c := 11) C hd1 h mv_X11_reducesSide ml_X11_699 rfl (fun x hx => A_X11_reducesSide (by omega) n hx) dX11_asks_50 (fun r1 h => ?_)
      refine az_if_ne (pc := 53) (tgt := 58) C h dX11_asks_53 (by decide) (fun _ h => ?_) (fun _ h => ?_)
      · refine az_al0 (pc := 58) C rfl rfl dX11_asks_58 ?_
        refine az_al0 (pc := 59) C rfl rfl dX11_asks_59 ?_
        refine az_getI (pc := 60) C fl_X11_601 rfl dX11_asks_60 ?_
        refine az_putI (pc := 63) C fl_X11_705 (Or.inl rfl) rfl dX11_asks_63 ?_
        refine az_ik0 (pc := 66) C dX11_asks_66 ?_
        refine az_is2 (pc := 67) C rfl rfl dX11_asks_67 ?_
        exact (A_X11_asks_68 C hD n n h)
      refine az_ik3 (pc := 56) C dX11_asks_56 ?_
      obtain rfl := Option.some.inj h
      exact az_ireturn (pc := 57) C dX11_asks_57 rfl
    refine az_al0 (pc := 29) C rfl rfl dX11_asks_29 ?_
    refine az_getR (pc := 30) (c2 := 13) C h fl_X11_207 rfl rfl dX11_asks_30 (fun h => ?_)
    refine az_il2 (pc := 33) C dX11_asks_33 ?_
    refine az_al0 (pc := 34) C rfl rfl dX11_asks_34 ?_
    refine az_getR (pc := 35) (c2 := 13) C h fl_X11_126 rfl rfl dX11_asks_35 (fun h => ?_)
    refine az_il2 (pc := 38) C dX11_asks_38 ?_
    refine az_iaload (pc := 39) C h dX11_asks_39 (fun h => ?_)
    refine az_iastore (pc := 40) C h dX11_asks_40 (fun h => ?_)
    refine az_ii2 (pc := 41) C az_n1 rfl rfl dX11_asks_41 ?_
    refine az_goto (pc := 44) (tgt := 21) C dX11_asks_44 (by decide) ?_
    exact (ih h)
set_option maxRecDepth 10000 in
set_option maxHeartbeats 4000000 in
theorem A_X11_asks_e {Z : az_Z} {d : Nat} (C : az_C Z yX11_asks cX11_asks 3 (some .int) d) (hD : 417 ≤ d) (n : Nat) {σ : az_Hp} {v0 v1 : Int} {r : (Int × az_Hp)} (h : fz_X11_asks n σ v0 v1 = some r) : az_AW Z 3 0 [(13, v0), (0, v1), (31, 0)] [] σ (some (0, r.1), r.2) := by
  have hd1 : 1 ≤ d := by omega
  unfold fz_X11_asks at h
  refine az_al0 (pc := 0) C rfl rfl dX11_asks_0 ?_
  refine az_il1 (pc := 1) C dX11_asks_1 ?_
  refine az_ik0 (pc := 2) C dX11_asks_2 ?_
  refine az_cV2ii (pc := 3) (c := 11) C hd1 h mv_X11_reducesSide ml_X11_699 rfl (fun x hx => A_X11_reducesSide (by omega) n hx) dX11_asks_3 (fun r1 h => ?_)
  refine az_if_ne (pc := 6) (tgt := 11) C h dX11_asks_6 (by decide) (fun _ h => ?_) (fun _ h => ?_)
  · refine az_al0 (pc := 11) C rfl rfl dX11_asks_11 ?_
    refine az_al0 (pc := 12) C rfl rfl dX11_asks_12 ?_
    refine az_getI (pc := 13) C fl_X11_601 rfl dX11_asks_13 ?_
    refine az_putI (pc := 16) C fl_X11_702 (Or.inl rfl) rfl dX11_asks_16 ?_
    refine az_ik0 (pc := 19) C dX11_asks_19 ?_
    refine az_is2 (pc := 20) C rfl rfl dX11_asks_20 ?_
    exact (A_X11_asks_21 C hD n n h)
  refine az_ik3 (pc := 9) C dX11_asks_9 ?_
  obtain rfl := Option.some.inj h
  exact az_ireturn (pc := 10) C dX11_asks_10 rfl
set_option maxRecDepth 10000 in
set_option maxHeartbeats 4000000 in
theorem A_X11_asks {l : Launch} {d : Nat} (hD : 417 ≤ d) (n : Nat) {σ : az_Hp} {v0 v1 : Int} {r : (Int × az_Hp)} (h : fz_X11_asks n σ v0 v1 = some r) : az_AC l yX11_asks cX11_asks 3 (some .int) d [(13, v0), (0, v1)] σ (some (0, r.1), r.2) := az_AC.of mt_X11_asks rfl rfl rfl (fun Z hZ C => A_X11_asks_e C hD n h)
theorem dX11_closesUp_0 : decode cX11_closesUp 0 = .ok (.iconst 0, 1) := by decide +kernel
theorem dX11_closesUp_1 : decode cX11_closesUp 1 = .ok (.istore_n 1, 1) := by decide +kernel
theorem dX11_closesUp_2 : decode cX11_closesUp 2 = .ok (.iconst 0, 1) := by decide +kernel
theorem dX11_closesUp_3 : decode cX11_closesUp 3 = .ok (.istore_n 2, 1) := by decide +kernel
theorem dX11_closesUp_4 : decode cX11_closesUp 4 = .ok (.iload_n 2, 1) := by decide +kernel
theorem dX11_closesUp_5 : decode cX11_closesUp 5 = .ok (.aload_n 0, 1) := by decide +kernel
theorem dX11_closesUp_6 : decode cX11_closesUp 6 = .ok (.getfield 676, 3) := by decide +kernel
theorem dX11_closesUp_9 : decode cX11_closesUp 9 = .ok (.if_icmp .ge 125, 3) := by decide +kernel
theorem dX11_closesUp_12 : decode cX11_closesUp 12 = .ok (.aload_n 0, 1) := by decide +kernel
theorem dX11_closesUp_13 : decode cX11_closesUp 13 = .ok (.getfield 204, 3) := by decide +kernel
theorem dX11_closesUp_16 : decode cX11_closesUp 16 = .ok (.iload_n 2, 1) := by decide +kernel
theorem dX11_closesUp_17 : decode cX11_closesUp 17 = .ok (.baload, 1) := by decide +kernel
theorem dX11_closesUp_18 : decode cX11_closesUp 18 = .ok (.ifCond .eq 6, 3) := by decide +kernel
theorem dX11_closesUp_21 : decode cX11_closesUp 21 = .ok (.goto 107, 3) := by decide +kernel
theorem dX11_closesUp_24 : decode cX11_closesUp 24 = .ok (.iconst 0, 1) := by decide +kernel
theorem dX11_closesUp_25 : decode cX11_closesUp 25 = .ok (.istore_n 3, 1) := by decide +kernel
theorem dX11_closesUp_26 : decode cX11_closesUp 26 = .ok (.iload_n 3, 1) := by decide +kernel
theorem dX11_closesUp_27 : decode cX11_closesUp 27 = .ok (.iconst 2, 1) := by decide +kernel
theorem dX11_closesUp_28 : decode cX11_closesUp 28 = .ok (.if_icmp .ge 85, 3) := by decide +kernel
theorem dX11_closesUp_31 : decode cX11_closesUp 31 = .ok (.aload_n 0, 1) := by decide +kernel
theorem dX11_closesUp_32 : decode cX11_closesUp 32 = .ok (.getfield 192, 3) := by decide +kernel
theorem dX11_closesUp_35 : decode cX11_closesUp 35 = .ok (.iconst 2, 1) := by decide +kernel
theorem dX11_closesUp_36 : decode cX11_closesUp 36 = .ok (.iload_n 1, 1) := by decide +kernel
theorem dX11_closesUp_37 : decode cX11_closesUp 37 = .ok (.imul, 1) := by decide +kernel
theorem dX11_closesUp_38 : decode cX11_closesUp 38 = .ok (.iload_n 3, 1) := by decide +kernel
theorem dX11_closesUp_39 : decode cX11_closesUp 39 = .ok (.iadd, 1) := by decide +kernel
theorem dX11_closesUp_40 : decode cX11_closesUp 40 = .ok (.aload_n 0, 1) := by decide +kernel
theorem dX11_closesUp_41 : decode cX11_closesUp 41 = .ok (.getfield 192, 3) := by decide +kernel
theorem dX11_closesUp_44 : decode cX11_closesUp 44 = .ok (.iconst 2, 1) := by decide +kernel
theorem dX11_closesUp_45 : decode cX11_closesUp 45 = .ok (.iload_n 2, 1) := by decide +kernel
theorem dX11_closesUp_46 : decode cX11_closesUp 46 = .ok (.imul, 1) := by decide +kernel
theorem dX11_closesUp_47 : decode cX11_closesUp 47 = .ok (.iload_n 3, 1) := by decide +kernel
theorem dX11_closesUp_48 : decode cX11_closesUp 48 = .ok (.iadd, 1) := by decide +kernel
theorem dX11_closesUp_49 : decode cX11_closesUp 49 = .ok (.iaload, 1) := by decide +kernel
theorem dX11_closesUp_50 : decode cX11_closesUp 50 = .ok (.iastore, 1) := by decide +kernel
theorem dX11_closesUp_51 : decode cX11_closesUp 51 = .ok (.iconst 0, 1) := by decide +kernel
theorem dX11_closesUp_52 : decode cX11_closesUp 52 = .ok (.istore 4, 2) := by decide +kernel
theorem dX11_closesUp_54 : decode cX11_closesUp 54 = .ok (.iload 4, 2) := by decide +kernel
theorem dX11_closesUp_56 : decode cX11_closesUp 56 = .ok (.aload_n 0, 1) := by decide +kernel
theorem dX11_closesUp_57 : decode cX11_closesUp 57 = .ok (.getfield 192, 3) := by decide +kernel
theorem dX11_closesUp_60 : decode cX11_closesUp 60 = .ok (.iconst 2, 1) := by decide +kernel
theorem dX11_closesUp_61 : decode cX11_closesUp 61 = .ok (.iload_n 2, 1) := by decide +kernel
theorem dX11_closesUp_62 : decode cX11_closesUp 62 = .ok (.imul, 1) := by decide +kernel
theorem dX11_closesUp_63 : decode cX11_closesUp 63 = .ok (.iload_n 3, 1) := by decide +kernel
theorem dX11_closesUp_64 : decode cX11_closesUp 64 = .ok (.iadd, 1) := by decide +kernel
theorem dX11_closesUp_65 : decode cX11_closesUp 65 = .ok (.iaload, 1) := by decide +kernel
theorem dX11_closesUp_66 : decode cX11_closesUp 66 = .ok (.if_icmp .ge 41, 3) := by decide +kernel
theorem dX11_closesUp_69 : decode cX11_closesUp 69 = .ok (.aload_n 0, 1) := by decide +kernel
theorem dX11_closesUp_70 : decode cX11_closesUp 70 = .ok (.getfield 189, 3) := by decide +kernel
theorem dX11_closesUp_73 : decode cX11_closesUp 73 = .ok (.bipush 60, 2) := by decide +kernel
theorem dX11_closesUp_75 : decode cX11_closesUp 75 = .ok (.iconst 2, 1) := by decide +kernel
theorem dX11_closesUp_76 : decode cX11_closesUp 76 = .ok (.iload_n 1, 1) := by decide +kernel
theorem dX11_closesUp_77 : decode cX11_closesUp 77 = .ok (.imul, 1) := by decide +kernel
theorem dX11_closesUp_78 : decode cX11_closesUp 78 = .ok (.iload_n 3, 1) := by decide +kernel
theorem dX11_closesUp_79 : decode cX11_closesUp 79 = .ok (.iadd, 1) := by decide +kernel
theorem dX11_closesUp_80 : decode cX11_closesUp 80 = .ok (.imul, 1) := by decide +kernel
theorem dX11_closesUp_81 : decode cX11_closesUp 81 = .ok (.iload 4, 2) := by decide +kernel
theorem dX11_closesUp_83 : decode cX11_closesUp 83 = .ok (.iadd, 1) := by decide +kernel
theorem dX11_closesUp_84 : decode cX11_closesUp 84 = .ok (.aload_n 0, 1) := by decide +kernel
theorem dX11_closesUp_85 : decode cX11_closesUp 85 = .ok (.getfield 189, 3) := by decide +kernel
theorem dX11_closesUp_88 : decode cX11_closesUp 88 = .ok (.bipush 60, 2) := by decide +kernel
theorem dX11_closesUp_90 : decode cX11_closesUp 90 = .ok (.iconst 2, 1) := by decide +kernel
theorem dX11_closesUp_91 : decode cX11_closesUp 91 = .ok (.iload_n 2, 1) := by decide +kernel
theorem dX11_closesUp_92 : decode cX11_closesUp 92 = .ok (.imul, 1) := by decide +kernel
theorem dX11_closesUp_93 : decode cX11_closesUp 93 = .ok (.iload_n 3, 1) := by decide +kernel
theorem dX11_closesUp_94 : decode cX11_closesUp 94 = .ok (.iadd, 1) := by decide +kernel
theorem dX11_closesUp_95 : decode cX11_closesUp 95 = .ok (.imul, 1) := by decide +kernel
theorem dX11_closesUp_96 : decode cX11_closesUp 96 = .ok (.iload 4, 2) := by decide +kernel
theorem dX11_closesUp_98 : decode cX11_closesUp 98 = .ok (.iadd, 1) := by decide +kernel
theorem dX11_closesUp_99 : decode cX11_closesUp 99 = .ok (.iaload, 1) := by decide +kernel
theorem dX11_closesUp_100 : decode cX11_closesUp 100 = .ok (.iastore, 1) := by decide +kernel
theorem dX11_closesUp_101 : decode cX11_closesUp 101 = .ok (.iinc 4 1, 3) := by decide +kernel
theorem dX11_closesUp_104 : decode cX11_closesUp 104 = .ok (.goto (-50), 3) := by decide +kernel
theorem dX11_closesUp_107 : decode cX11_closesUp 107 = .ok (.iinc 3 1, 3) := by decide +kernel
theorem dX11_closesUp_110 : decode cX11_closesUp 110 = .ok (.goto (-84), 3) := by decide +kernel
theorem dX11_closesUp_113 : decode cX11_closesUp 113 = .ok (.aload_n 0, 1) := by decide +kernel
theorem dX11_closesUp_114 : decode cX11_closesUp 114 = .ok (.getfield 195, 3) := by decide +kernel
theorem dX11_closesUp_117 : decode cX11_closesUp 117 = .ok (.iload_n 1, 1) := by decide +kernel
theorem dX11_closesUp_118 : decode cX11_closesUp 118 = .ok (.aload_n 0, 1) := by decide +kernel
theorem dX11_closesUp_119 : decode cX11_closesUp 119 = .ok (.getfield 195, 3) := by decide +kernel
theorem dX11_closesUp_122 : decode cX11_closesUp 122 = .ok (.iload_n 2, 1) := by decide +kernel
theorem dX11_closesUp_123 : decode cX11_closesUp 123 = .ok (.iaload, 1) := by decide +kernel
theorem dX11_closesUp_124 : decode cX11_closesUp 124 = .ok (.iastore, 1) := by decide +kernel
theorem dX11_closesUp_125 : decode cX11_closesUp 125 = .ok (.iinc 1 1, 3) := by decide +kernel
theorem dX11_closesUp_128 : decode cX11_closesUp 128 = .ok (.iinc 2 1, 3) := by decide +kernel
theorem dX11_closesUp_131 : decode cX11_closesUp 131 = .ok (.goto (-127), 3) := by decide +kernel
theorem dX11_closesUp_134 : decode cX11_closesUp 134 = .ok (.aload_n 0, 1) := by decide +kernel
theorem dX11_closesUp_135 : decode cX11_closesUp 135 = .ok (.iload_n 1, 1) := by decide +kernel
theorem dX11_closesUp_136 : decode cX11_closesUp 136 = .ok (.putfield 676, 3) := by decide +kernel
theorem dX11_closesUp_139 : decode cX11_closesUp 139 = .ok (.return_, 1) := by decide +kernel
set_option maxRecDepth 10000 in
set_option maxHeartbeats 4000000 in
theorem A_X11_closesUp_54 {Z : az_Z} {d : Nat} (C : az_C Z yX11_closesUp cX11_closesUp 5 none d) (hD : 1 ≤ d) (n : Nat) {k4 : az_Hp → Int → Int → Int → Option az_Hp} (hk4 : ∀ {σ : az_Hp} {v0 v1 v2 : Int} {r : az_Hp}, k4 σ v0 v1 v2 = some r → az_AW Z 5 4 [(13, v0), (0, v1), (0, v2), (31, 0), (31, 0)] [] σ (none, r)) {k26 : az_Hp → Int → Int → Int → Int → Option az_Hp} (hk26 : ∀ {σ : az_Hp} {v0 v1 v2 v3 : Int} {r : az_Hp}, k26 σ v0 v1 v2 v3 = some r → az_AW Z 5 26 [(13, v0), (0, v1), (0, v2), (0, v3), (31, 0)] [] σ (none, r)) (k : Nat) : ∀ {σ : az_Hp} {v0 v1 v2 v3 v4 : Int} {r : az_Hp}, fz_X11_closesUp_54 n k4 k26 k σ v0 v1 v2 v3 v4 = some r → az_AW Z 5 54 [(13, v0), (0, v1), (0, v2), (0, v3), (0, v4)] [] σ (none, r) := by
  have hd1 : 1 ≤ d := by omega
  induction k with
  | zero => intro σ v0 v1 v2 v3 v4 r h; simp [fz_X11_closesUp_54] at h
  | succ k ih =>
    intro σ v0 v1 v2 v3 v4 r h
    unfold fz_X11_closesUp_54 at h
    refine az_il4 (pc := 54) C dX11_closesUp_54 ?_
    refine az_al0 (pc := 56) C rfl rfl dX11_closesUp_56 ?_
    refine az_getR (pc := 57) (c2 := 13) C h fl_X11_192 rfl rfl dX11_closesUp_57 (fun h => ?_)
    refine az_ik2 (pc := 60) C dX11_closesUp_60 ?_
    refine az_il2 (pc := 61) C dX11_closesUp_61 ?_
    refine az_imul (pc := 62) C dX11_closesUp_62 ?_
    refine az_il3 (pc := 63) C dX11_closesUp_63 ?_
    refine az_iadd (pc := 64) C dX11_closesUp_64 ?_
    refine az_iaload (pc := 65) C h dX11_closesUp_65 (fun h => ?_)
    refine az_icmp_ge (pc := 66) (tgt := 107) C h dX11_closesUp_66 (by decide) (fun _ h => ?_) (fun _ h => ?_)
    · refine az_ii3 (pc := 107) C az_n1 rfl rfl dX11_closesUp_107 ?_
      refine az_goto (pc := 110) (tgt := 26) C dX11_closesUp_110 (by decide) ?_
      exact (az_wkk (hk26 h) (az_sE (az_sE (az_sE (az_sE (az_sJ az_sN))))))
    refine az_al0 (pc := 69) C rfl rfl dX11_closesUp_69 ?_
    refine az_getR (pc := 70) (c2 := 13) C h fl_X11_189 rfl rfl dX11_closesUp_70 (fun h => ?_)
    refine az_bk60 (pc := 73) C dX11_closesUp_73 ?_
    refine az_ik2 (pc := 75) C dX11_closesUp_75 ?_
    refine az_il1 (pc := 76) C dX11_closesUp_76 ?_
    refine az_imul (pc := 77) C dX11_closesUp_77 ?_
    refine az_il3 (pc := 78) C dX11_closesUp_78 ?_
    refine az_iadd (pc := 79) C dX11_closesUp_79 ?_
    refine az_imul (pc := 80) C dX11_closesUp_80 ?_
    refine az_il4 (pc := 81) C dX11_closesUp_81 ?_
    refine az_iadd (pc := 83) C dX11_closesUp_83 ?_
    refine az_al0 (pc := 84) C rfl rfl dX11_closesUp_84 ?_
    refine az_getR (pc := 85) (c2 := 13) C h fl_X11_189 rfl rfl dX11_closesUp_85 (fun h => ?_)
    refine az_bk60 (pc := 88) C dX11_closesUp_88 ?_
    refine az_ik2 (pc := 90) C dX11_closesUp_90 ?_
    refine az_il2 (pc := 91) C dX11_closesUp_91 ?_
    refine az_imul (pc := 92) C dX11_closesUp_92 ?_
    refine az_il3 (pc := 93) C dX11_closesUp_93 ?_
    refine az_iadd (pc := 94) C dX11_closesUp_94 ?_
    refine az_imul (pc := 95) C dX11_closesUp_95 ?_
    refine az_il4 (pc := 96) C dX11_closesUp_96 ?_
    refine az_iadd (pc := 98) C dX11_closesUp_98 ?_
    refine az_iaload (pc := 99) C h dX11_closesUp_99 (fun h => ?_)
    refine az_iastore (pc := 100) C h dX11_closesUp_100 (fun h => ?_)
    refine az_ii4 (pc := 101) C az_n1 rfl rfl dX11_closesUp_101 ?_
    refine az_goto (pc := 104) (tgt := 54) C dX11_closesUp_104 (by decide) ?_
    exact (ih h)
set_option maxRecDepth 10000 in
set_option maxHeartbeats 4000000 in
theorem A_X11_closesUp_26 {Z : az_Z} {d : Nat} (C : az_C Z yX11_closesUp cX11_closesUp 5 none d) (hD : 1 ≤ d) (n : Nat) {k4 : az_Hp → Int → Int → Int → Option az_Hp} (hk4 : ∀ {σ : az_Hp} {v0 v1 v2 : Int} {r : az_Hp}, k4 σ v0 v1 v2 = some r → az_AW Z 5 4 [(13, v0), (0, v1), (0, v2), (31, 0), (31, 0)] [] σ (none, r)) (k : Nat) : ∀ {σ : az_Hp} {v0 v1 v2 v3 : Int} {r : az_Hp}, fz_X11_closesUp_26 n k4 k σ v0 v1 v2 v3 = some r → az_AW Z 5 26 [(13, v0), (0, v1), (0, v2), (0, v3), (31, 0)] [] σ (none, r) := by
  have hd1 : 1 ≤ d := by omega
  induction k with
  | zero => intro σ v0 v1 v2 v3 r h; simp [fz_X11_closesUp_26] at h
  | succ k ih =>
    intro σ v0 v1 v2 v3 r h
    unfold fz_X11_closesUp_26 at h
    refine az_il3 (pc := 26) C dX11_closesUp_26 ?_
    refine az_ik2 (pc := 27) C dX11_closesUp_27 ?_
    refine az_icmp_ge (pc := 28) (tgt := 113) C h dX11_closesUp_28 (by decide) (fun _ h => ?_) (fun _ h => ?_)
    · refine az_al0 (pc := 113) C rfl rfl dX11_closesUp_113 ?_
      refine az_getR (pc := 114) (c2 := 13) C h fl_X11_195 rfl rfl dX11_closesUp_114 (fun h => ?_)
      refine az_il1 (pc := 117) C dX11_closesUp_117 ?_
      refine az_al0 (pc := 118) C rfl rfl dX11_closesUp_118 ?_
      refine az_getR (pc := 119) (c2 := 13) C h fl_X11_195 rfl rfl dX11_closesUp_119 (fun h => ?_)
      refine az_il2 (pc := 122) C dX11_closesUp_122 ?_
      refine az_iaload (pc := 123) C h dX11_closesUp_123 (fun h => ?_)
      refine az_iastore (pc := 124) C h dX11_closesUp_124 (fun h => ?_)
      refine az_ii1 (pc := 125) C az_n1 rfl rfl dX11_closesUp_125 ?_
      refine az_ii2 (pc := 128) C az_n1 rfl rfl dX11_closesUp_128 ?_
      refine az_goto (pc := 131) (tgt := 4) C dX11_closesUp_131 (by decide) ?_
      exact (az_wkk (hk4 h) (az_sE (az_sE (az_sE (az_sJ (az_sJ az_sN))))))
    refine az_al0 (pc := 31) C rfl rfl dX11_closesUp_31 ?_
    refine az_getR (pc := 32) (c2 := 13) C h fl_X11_192 rfl rfl dX11_closesUp_32 (fun h => ?_)
    refine az_ik2 (pc := 35) C dX11_closesUp_35 ?_
    refine az_il1 (pc := 36) C dX11_closesUp_36 ?_
    refine az_imul (pc := 37) C dX11_closesUp_37 ?_
    refine az_il3 (pc := 38) C dX11_closesUp_38 ?_
    refine az_iadd (pc := 39) C dX11_closesUp_39 ?_
    refine az_al0 (pc := 40) C rfl rfl dX11_closesUp_40 ?_
    refine az_getR (pc := 41) (c2 := 13) C h fl_X11_192 rfl rfl dX11_closesUp_41 (fun h => ?_)
    refine az_ik2 (pc := 44) C dX11_closesUp_44 ?_
    refine az_il2 (pc := 45) C dX11_closesUp_45 ?_
    refine az_imul (pc := 46) C dX11_closesUp_46 ?_
    refine az_il3 (pc := 47) C dX11_closesUp_47 ?_
    refine az_iadd (pc := 48) C dX11_closesUp_48 ?_
    refine az_iaload (pc := 49) C h dX11_closesUp_49 (fun h => ?_)
    refine az_iastore (pc := 50) C h dX11_closesUp_50 (fun h => ?_)
    refine az_ik0 (pc := 51) C dX11_closesUp_51 ?_
    refine az_is4 (pc := 52) C rfl rfl dX11_closesUp_52 ?_
    exact (A_X11_closesUp_54 C hD n (fun h => hk4 h) (fun h => ih h) n h)
set_option maxRecDepth 10000 in
set_option maxHeartbeats 4000000 in
theorem A_X11_closesUp_4 {Z : az_Z} {d : Nat} (C : az_C Z yX11_closesUp cX11_closesUp 5 none d) (hD : 1 ≤ d) (n : Nat) (k : Nat) : ∀ {σ : az_Hp} {v0 v1 v2 : Int} {r : az_Hp}, fz_X11_closesUp_4 n k σ v0 v1 v2 = some r → az_AW Z 5 4 [(13, v0), (0, v1), (0, v2), (31, 0), (31, 0)] [] σ (none, r) := by
  have hd1 : 1 ≤ d := by omega
  induction k with
  | zero => intro σ v0 v1 v2 r h; simp [fz_X11_closesUp_4] at h
  | succ k ih =>
    intro σ v0 v1 v2 r h
    unfold fz_X11_closesUp_4 at h
    refine az_il2 (pc := 4) C dX11_closesUp_4 ?_
    refine az_al0 (pc := 5) C rfl rfl dX11_closesUp_5 ?_
    refine az_getI (pc := 6) C fl_X11_676 rfl dX11_closesUp_6 ?_
    refine az_icmp_ge (pc := 9) (tgt := 134) C h dX11_closesUp_9 (by decide) (fun _ h => ?_) (fun _ h => ?_)
    · refine az_al0 (pc := 134) C rfl rfl dX11_closesUp_134 ?_
      refine az_il1 (pc := 135) C dX11_closesUp_135 ?_
      refine az_putI (pc := 136) C fl_X11_676 (Or.inl rfl) rfl dX11_closesUp_136 ?_
      obtain rfl := Option.some.inj h
      exact az_return (pc := 139) C dX11_closesUp_139 rfl
    refine az_al0 (pc := 12) C rfl rfl dX11_closesUp_12 ?_
    refine az_getR (pc := 13) (c2 := 15) C h fl_X11_204 rfl rfl dX11_closesUp_13 (fun h => ?_)
    refine az_il2 (pc := 16) C dX11_closesUp_16 ?_
    refine az_zaload (pc := 17) C h dX11_closesUp_17 (fun h => ?_)
    refine az_if_eq (pc := 18) (tgt := 24) C h dX11_closesUp_18 (by decide) (fun _ h => ?_) (fun _ h => ?_)
    · refine az_ik0 (pc := 24) C dX11_closesUp_24 ?_
      refine az_is3 (pc := 25) C rfl rfl dX11_closesUp_25 ?_
      exact (A_X11_closesUp_26 C hD n (fun h => ih h) n h)
    refine az_goto (pc := 21) (tgt := 128) C dX11_closesUp_21 (by decide) ?_
    refine az_ii2 (pc := 128) C az_n1 rfl rfl dX11_closesUp_128 ?_
    refine az_goto (pc := 131) (tgt := 4) C dX11_closesUp_131 (by decide) ?_
    exact (ih h)
set_option maxRecDepth 10000 in
set_option maxHeartbeats 4000000 in
theorem A_X11_closesUp_e {Z : az_Z} {d : Nat} (C : az_C Z yX11_closesUp cX11_closesUp 5 none d) (hD : 1 ≤ d) (n : Nat) {σ : az_Hp} {v0 : Int} {r : az_Hp} (h : fz_X11_closesUp n σ v0 = some r) : az_AW Z 5 0 [(13, v0), (31, 0), (31, 0), (31, 0), (31, 0)] [] σ (none, r) := by
  have hd1 : 1 ≤ d := by omega
  unfold fz_X11_closesUp at h
  refine az_ik0 (pc := 0) C dX11_closesUp_0 ?_
  refine az_is1 (pc := 1) C rfl rfl dX11_closesUp_1 ?_
  refine az_ik0 (pc := 2) C dX11_closesUp_2 ?_
  refine az_is2 (pc := 3) C rfl rfl dX11_closesUp_3 ?_
  exact (A_X11_closesUp_4 C hD n n h)
set_option maxRecDepth 10000 in
set_option maxHeartbeats 4000000 in
theorem A_X11_closesUp {l : Launch} {d : Nat} (hD : 1 ≤ d) (n : Nat) {σ : az_Hp} {v0 : Int} {r : az_Hp} (h : fz_X11_closesUp n σ v0 = some r) : az_AC l yX11_closesUp cX11_closesUp 5 none d [(13, v0)] σ (none, r) := az_AC.of mt_X11_closesUp rfl rfl rfl (fun Z hZ C => A_X11_closesUp_e C hD n h)
theorem dX11_round_0 : decode cX11_round 0 = .ok (.aload_n 0, 1) := by decide +kernel
theorem dX11_round_1 : decode cX11_round 1 = .ok (.getfield 676, 3) := by decide +kernel
theorem dX11_round_4 : decode cX11_round 4 = .ok (.istore_n 1, 1) := by decide +kernel
theorem dX11_round_5 : decode cX11_round 5 = .ok (.iconst 0, 1) := by decide +kernel
theorem dX11_round_6 : decode cX11_round 6 = .ok (.istore_n 2, 1) := by decide +kernel
theorem dX11_round_7 : decode cX11_round 7 = .ok (.iconst 0, 1) := by decide +kernel
theorem dX11_round_8 : decode cX11_round 8 = .ok (.istore_n 3, 1) := by decide +kernel
theorem dX11_round_9 : decode cX11_round 9 = .ok (.iload_n 3, 1) := by decide +kernel
theorem dX11_round_10 : decode cX11_round 10 = .ok (.iload_n 1, 1) := by decide +kernel
theorem dX11_round_11 : decode cX11_round 11 = .ok (.if_icmp .ge 16, 3) := by decide +kernel
theorem dX11_round_14 : decode cX11_round 14 = .ok (.aload_n 0, 1) := by decide +kernel
theorem dX11_round_15 : decode cX11_round 15 = .ok (.getfield 204, 3) := by decide +kernel
theorem dX11_round_18 : decode cX11_round 18 = .ok (.iload_n 3, 1) := by decide +kernel
theorem dX11_round_19 : decode cX11_round 19 = .ok (.iconst 0, 1) := by decide +kernel
theorem dX11_round_20 : decode cX11_round 20 = .ok (.bastore, 1) := by decide +kernel
theorem dX11_round_21 : decode cX11_round 21 = .ok (.iinc 3 1, 3) := by decide +kernel
theorem dX11_round_24 : decode cX11_round 24 = .ok (.goto (-15), 3) := by decide +kernel
theorem dX11_round_27 : decode cX11_round 27 = .ok (.iconst 0, 1) := by decide +kernel
theorem dX11_round_28 : decode cX11_round 28 = .ok (.istore_n 3, 1) := by decide +kernel
theorem dX11_round_29 : decode cX11_round 29 = .ok (.iload_n 3, 1) := by decide +kernel
theorem dX11_round_30 : decode cX11_round 30 = .ok (.iload_n 1, 1) := by decide +kernel
theorem dX11_round_31 : decode cX11_round 31 = .ok (.if_icmp .ge 95, 3) := by decide +kernel
theorem dX11_round_34 : decode cX11_round 34 = .ok (.aload_n 0, 1) := by decide +kernel
theorem dX11_round_35 : decode cX11_round 35 = .ok (.getfield 718, 3) := by decide +kernel
theorem dX11_round_38 : decode cX11_round 38 = .ok (.ifCond .ne 88, 3) := by decide +kernel
theorem dX11_round_41 : decode cX11_round 41 = .ok (.aload_n 0, 1) := by decide +kernel
theorem dX11_round_42 : decode cX11_round 42 = .ok (.iload_n 3, 1) := by decide +kernel
theorem dX11_round_43 : decode cX11_round 43 = .ok (.invokevirtual 730, 3) := by decide +kernel
theorem dX11_round_46 : decode cX11_round 46 = .ok (.istore 4, 2) := by decide +kernel
theorem dX11_round_48 : decode cX11_round 48 = .ok (.iload 4, 2) := by decide +kernel
theorem dX11_round_50 : decode cX11_round 50 = .ok (.ifCond .ne 15, 3) := by decide +kernel
theorem dX11_round_53 : decode cX11_round 53 = .ok (.aload_n 0, 1) := by decide +kernel
theorem dX11_round_54 : decode cX11_round 54 = .ok (.getfield 204, 3) := by decide +kernel
theorem dX11_round_57 : decode cX11_round 57 = .ok (.iload_n 3, 1) := by decide +kernel
theorem dX11_round_58 : decode cX11_round 58 = .ok (.iconst 1, 1) := by decide +kernel
theorem dX11_round_59 : decode cX11_round 59 = .ok (.bastore, 1) := by decide +kernel
theorem dX11_round_60 : decode cX11_round 60 = .ok (.iconst 1, 1) := by decide +kernel
theorem dX11_round_61 : decode cX11_round 61 = .ok (.istore_n 2, 1) := by decide +kernel
theorem dX11_round_62 : decode cX11_round 62 = .ok (.goto 58, 3) := by decide +kernel
theorem dX11_round_65 : decode cX11_round 65 = .ok (.iload 4, 2) := by decide +kernel
theorem dX11_round_67 : decode cX11_round 67 = .ok (.iconst (-1), 1) := by decide +kernel
theorem dX11_round_68 : decode cX11_round 68 = .ok (.if_icmp .ne 36, 3) := by decide +kernel
theorem dX11_round_71 : decode cX11_round 71 = .ok (.aload_n 0, 1) := by decide +kernel
theorem dX11_round_72 : decode cX11_round 72 = .ok (.iload_n 3, 1) := by decide +kernel
theorem dX11_round_73 : decode cX11_round 73 = .ok (.iconst 0, 1) := by decide +kernel
theorem dX11_round_74 : decode cX11_round 74 = .ok (.aload_n 0, 1) := by decide +kernel
theorem dX11_round_75 : decode cX11_round 75 = .ok (.getfield 207, 3) := by decide +kernel
theorem dX11_round_78 : decode cX11_round 78 = .ok (.iconst 0, 1) := by decide +kernel
theorem dX11_round_79 : decode cX11_round 79 = .ok (.aload_n 0, 1) := by decide +kernel
theorem dX11_round_80 : decode cX11_round 80 = .ok (.getfield 702, 3) := by decide +kernel
theorem dX11_round_83 : decode cX11_round 83 = .ok (.invokevirtual 695, 3) := by decide +kernel
theorem dX11_round_86 : decode cX11_round 86 = .ok (.aload_n 0, 1) := by decide +kernel
theorem dX11_round_87 : decode cX11_round 87 = .ok (.iload_n 3, 1) := by decide +kernel
theorem dX11_round_88 : decode cX11_round 88 = .ok (.iconst 1, 1) := by decide +kernel
theorem dX11_round_89 : decode cX11_round 89 = .ok (.aload_n 0, 1) := by decide +kernel
theorem dX11_round_90 : decode cX11_round 90 = .ok (.getfield 210, 3) := by decide +kernel
theorem dX11_round_93 : decode cX11_round 93 = .ok (.iconst 0, 1) := by decide +kernel
theorem dX11_round_94 : decode cX11_round 94 = .ok (.aload_n 0, 1) := by decide +kernel
theorem dX11_round_95 : decode cX11_round 95 = .ok (.getfield 705, 3) := by decide +kernel
theorem dX11_round_98 : decode cX11_round 98 = .ok (.invokevirtual 695, 3) := by decide +kernel
theorem dX11_round_101 : decode cX11_round 101 = .ok (.goto 19, 3) := by decide +kernel
theorem dX11_round_104 : decode cX11_round 104 = .ok (.aload_n 0, 1) := by decide +kernel
theorem dX11_round_105 : decode cX11_round 105 = .ok (.iload 4, 2) := by decide +kernel
theorem dX11_round_107 : decode cX11_round 107 = .ok (.putfield 718, 3) := by decide +kernel
theorem dX11_round_110 : decode cX11_round 110 = .ok (.aload_n 0, 1) := by decide +kernel
theorem dX11_round_111 : decode cX11_round 111 = .ok (.aload_n 0, 1) := by decide +kernel
theorem dX11_round_112 : decode cX11_round 112 = .ok (.getfield 195, 3) := by decide +kernel
theorem dX11_round_115 : decode cX11_round 115 = .ok (.iload_n 3, 1) := by decide +kernel
theorem dX11_round_116 : decode cX11_round 116 = .ok (.iaload, 1) := by decide +kernel
theorem dX11_round_117 : decode cX11_round 117 = .ok (.putfield 721, 3) := by decide +kernel
theorem dX11_round_120 : decode cX11_round 120 = .ok (.iinc 3 1, 3) := by decide +kernel
theorem dX11_round_123 : decode cX11_round 123 = .ok (.goto (-94), 3) := by decide +kernel
theorem dX11_round_126 : decode cX11_round 126 = .ok (.aload_n 0, 1) := by decide +kernel
theorem dX11_round_127 : decode cX11_round 127 = .ok (.invokevirtual 733, 3) := by decide +kernel
theorem dX11_round_130 : decode cX11_round 130 = .ok (.iload_n 2, 1) := by decide +kernel
theorem dX11_round_131 : decode cX11_round 131 = .ok (.ireturn, 1) := by decide +kernel
set_option maxRecDepth 10000 in
set_option maxHeartbeats 4000000 in
theorem A_X11_round_29 {Z : az_Z} {d : Nat} (C : az_C Z yX11_round cX11_round 5 (some .boolean) d) (hD : 418 ≤ d) (n : Nat) (k : Nat) : ∀ {σ : az_Hp} {v0 v1 v2 v3 : Int} {r : (Int × az_Hp)}, fz_X11_round_29 n k σ v0 v1 v2 v3 = some r → az_AW Z 5 29 [(13, v0), (0, v1), (0, v2), (0, v3), (31, 0)] [] σ (some (0, r.1), r.2) := by
  have hd1 : 1 ≤ d := by omega
  induction k with
  | zero => intro σ v0 v1 v2 v3 r h; simp [fz_X11_round_29] at h
  | succ k ih =>
    intro σ v0 v1 v2 v3 r h
    unfold fz_X11_round_29 at h
    refine az_il3 (pc := 29) C dX11_round_29 ?_
    refine az_il1 (pc := 30) C dX11_round_30 ?_
    refine az_icmp_ge (pc := 31) (tgt := 126) C h dX11_round_31 (by decide) (fun _ h => ?_) (fun _ h => ?_)
    · refine az_al0 (pc := 126) C rfl rfl dX11_round_126 ?_
      refine az_cV0v (pc := 127) (c := 11) C hd1 h mv_X11_closesUp ml_X11_733 rfl (fun x hx => A_X11_closesUp (by omega) n hx) dX11_round_127 (fun r1 h => ?_)
      refine az_il2 (pc := 130) C dX11_round_130 ?_
      obtain ⟨hz, h⟩ := az_zif h
      obtain rfl := Option.some.inj h
      exact az_zreturn (pc := 131) C hz dX11_round_131 rfl
    refine az_al0 (pc := 34) C rfl rfl dX11_round_34 ?_
    refine az_getI (pc := 35) C fl_X11_718 rfl dX11_round_35 ?_
    refine az_if_ne (pc := 38) (tgt := 126) C h dX11_round_38 (by decide) (fun _ h => ?_) (fun _ h => ?_)
    · refine az_al0 (pc := 126) C rfl rfl dX11_round_126 ?_
      refine az_cV0v (pc := 127) (c := 11) C hd1 h mv_X11_closesUp ml_X11_733 rfl (fun x hx => A_X11_closesUp (by omega) n hx) dX11_round_127 (fun r2 h => ?_)
      refine az_il2 (pc := 130) C dX11_round_130 ?_
      obtain ⟨hz, h⟩ := az_zif h
      obtain rfl := Option.some.inj h
      exact az_zreturn (pc := 131) C hz dX11_round_131 rfl
    refine az_al0 (pc := 41) C rfl rfl dX11_round_41 ?_
    refine az_il3 (pc := 42) C dX11_round_42 ?_
    refine az_cV1ii (pc := 43) (c := 11) C hd1 h mv_X11_asks ml_X11_730 rfl (fun x hx => A_X11_asks (by omega) n hx) dX11_round_43 (fun r3 h => ?_)
    refine az_is4 (pc := 46) C rfl rfl dX11_round_46 ?_
    refine az_il4 (pc := 48) C dX11_round_48 ?_
    refine az_if_ne (pc := 50) (tgt := 65) C h dX11_round_50 (by decide) (fun _ h => ?_) (fun _ h => ?_)
    · refine az_il4 (pc := 65) C dX11_round_65 ?_
      refine az_ikm1 (pc := 67) C dX11_round_67 ?_
      refine az_icmp_ne (pc := 68) (tgt := 104) C h dX11_round_68 (by decide) (fun _ h => ?_) (fun _ h => ?_)
      · refine az_al0 (pc := 104) C rfl rfl dX11_round_104 ?_
        refine az_il4 (pc := 105) C dX11_round_105 ?_
        refine az_putI (pc := 107) C fl_X11_718 (Or.inl rfl) rfl dX11_round_107 ?_
        refine az_al0 (pc := 110) C rfl rfl dX11_round_110 ?_
        refine az_al0 (pc := 111) C rfl rfl dX11_round_111 ?_
        refine az_getR (pc := 112) (c2 := 13) C h fl_X11_195 rfl rfl dX11_round_112 (fun h => ?_)
        refine az_il3 (pc := 115) C dX11_round_115 ?_
        refine az_iaload (pc := 116) C h dX11_round_116 (fun h => ?_)
        refine az_putI (pc := 117) C fl_X11_721 (Or.inl rfl) rfl dX11_round_117 ?_
        refine az_ii3 (pc := 120) C az_n1 rfl rfl dX11_round_120 ?_
        refine az_goto (pc := 123) (tgt := 29) C dX11_round_123 (by decide) ?_
        exact (az_wkk (ih h) (az_sE (az_sE (az_sE (az_sE (az_sJ az_sN))))))
      refine az_al0 (pc := 71) C rfl rfl dX11_round_71 ?_
      refine az_il3 (pc := 72) C dX11_round_72 ?_
      refine az_ik0 (pc := 73) C dX11_round_73 ?_
      refine az_al0 (pc := 74) C rfl rfl dX11_round_74 ?_
      refine az_getR (pc := 75) (c2 := 13) C h fl_X11_207 rfl rfl dX11_round_75 (fun h => ?_)
      refine az_ik0 (pc := 78) C dX11_round_78 ?_
      refine az_al0 (pc := 79) C rfl rfl dX11_round_79 ?_
      refine az_getI (pc := 80) C fl_X11_702 rfl dX11_round_80 ?_
      refine az_cV5v (pc := 83) (c := 11) C hd1 h mv_X11_putsSide ml_X11_695 rfl (fun x hx => A_X11_putsSide (by omega) n hx) dX11_round_83 (fun r7 h => ?_)
      refine az_al0 (pc := 86) C rfl rfl dX11_round_86 ?_
      refine az_il3 (pc := 87) C dX11_round_87 ?_
      refine az_ik1 (pc := 88) C dX11_round_88 ?_
      refine az_al0 (pc := 89) C rfl rfl dX11_round_89 ?_
      refine az_getR (pc := 90) (c2 := 13) C h fl_X11_210 rfl rfl dX11_round_90 (fun h => ?_)
      refine az_ik0 (pc := 93) C dX11_round_93 ?_
      refine az_al0 (pc := 94) C rfl rfl dX11_round_94 ?_
      refine az_getI (pc := 95) C fl_X11_705 rfl dX11_round_95 ?_
      refine az_cV5v (pc := 98) (c := 11) C hd1 h mv_X11_putsSide ml_X11_695 rfl (fun x hx => A_X11_putsSide (by omega) n hx) dX11_round_98 (fun r9 h => ?_)
      refine az_goto (pc := 101) (tgt := 120) C dX11_round_101 (by decide) ?_
      refine az_ii3 (pc := 120) C az_n1 rfl rfl dX11_round_120 ?_
      refine az_goto (pc := 123) (tgt := 29) C dX11_round_123 (by decide) ?_
      exact (az_wkk (ih h) (az_sE (az_sE (az_sE (az_sE (az_sJ az_sN))))))
    refine az_al0 (pc := 53) C rfl rfl dX11_round_53 ?_
    refine az_getR (pc := 54) (c2 := 15) C h fl_X11_204 rfl rfl dX11_round_54 (fun h => ?_)
    refine az_il3 (pc := 57) C dX11_round_57 ?_
    refine az_ik1 (pc := 58) C dX11_round_58 ?_
    refine az_zastore (pc := 59) C h dX11_round_59 (fun h => ?_)
    refine az_ik1 (pc := 60) C dX11_round_60 ?_
    refine az_is2 (pc := 61) C rfl rfl dX11_round_61 ?_
    refine az_goto (pc := 62) (tgt := 120) C dX11_round_62 (by decide) ?_
    refine az_ii3 (pc := 120) C az_n1 rfl rfl dX11_round_120 ?_
    refine az_goto (pc := 123) (tgt := 29) C dX11_round_123 (by decide) ?_
    exact (az_wkk (ih h) (az_sE (az_sE (az_sE (az_sE (az_sJ az_sN))))))
set_option maxRecDepth 10000 in
set_option maxHeartbeats 4000000 in
theorem A_X11_round_9 {Z : az_Z} {d : Nat} (C : az_C Z yX11_round cX11_round 5 (some .boolean) d) (hD : 418 ≤ d) (n : Nat) (k : Nat) : ∀ {σ : az_Hp} {v0 v1 v2 v3 : Int} {r : (Int × az_Hp)}, fz_X11_round_9 n k σ v0 v1 v2 v3 = some r → az_AW Z 5 9 [(13, v0), (0, v1), (0, v2), (0, v3), (31, 0)] [] σ (some (0, r.1), r.2) := by
  have hd1 : 1 ≤ d := by omega
  induction k with
  | zero => intro σ v0 v1 v2 v3 r h; simp [fz_X11_round_9] at h
  | succ k ih =>
    intro σ v0 v1 v2 v3 r h
    unfold fz_X11_round_9 at h
    refine az_il3 (pc := 9) C dX11_round_9 ?_
    refine az_il1 (pc := 10) C dX11_round_10 ?_
    refine az_icmp_ge (pc := 11) (tgt := 27) C h dX11_round_11 (by decide) (fun _ h => ?_) (fun _ h => ?_)
    · refine az_ik0 (pc := 27) C dX11_round_27 ?_
      refine az_is3 (pc := 28) C rfl rfl dX11_round_28 ?_
      exact (A_X11_round_29 C hD n n h)
    refine az_al0 (pc := 14) C rfl rfl dX11_round_14 ?_
    refine az_getR (pc := 15) (c2 := 15) C h fl_X11_204 rfl rfl dX11_round_15 (fun h => ?_)
    refine az_il3 (pc := 18) C dX11_round_18 ?_
    refine az_ik0 (pc := 19) C dX11_round_19 ?_
    refine az_zastore (pc := 20) C h dX11_round_20 (fun h => ?_)
    refine az_ii3 (pc := 21) C az_n1 rfl rfl dX11_round_21 ?_
    refine az_goto (pc := 24) (tgt := 9) C dX11_round_24 (by decide) ?_
    exact (ih h)
set_option maxRecDepth 10000 in
set_option maxHeartbeats 4000000 in
theorem A_X11_round_e {Z : az_Z} {d : Nat} (C : az_C Z yX11_round cX11_round 5 (some .boolean) d) (hD : 418 ≤ d) (n : Nat) {σ : az_Hp} {v0 : Int} {r : (Int × az_Hp)} (h : fz_X11_round n σ v0 = some r) : az_AW Z 5 0 [(13, v0), (31, 0), (31, 0), (31, 0), (31, 0)] [] σ (some (0, r.1), r.2) := by
  have hd1 : 1 ≤ d := by omega
  unfold fz_X11_round at h
  refine az_al0 (pc := 0) C rfl rfl dX11_round_0 ?_
  refine az_getI (pc := 1) C fl_X11_676 rfl dX11_round_1 ?_
  refine az_is1 (pc := 4) C rfl rfl dX11_round_4 ?_
  refine az_ik0 (pc := 5) C dX11_round_5 ?_
  refine az_is2 (pc := 6) C rfl rfl dX11_round_6 ?_
  refine az_ik0 (pc := 7) C dX11_round_7 ?_
  refine az_is3 (pc := 8) C rfl rfl dX11_round_8 ?_
  exact (A_X11_round_9 C hD n n h)
set_option maxRecDepth 10000 in
set_option maxHeartbeats 4000000 in
theorem A_X11_round {l : Launch} {d : Nat} (hD : 418 ≤ d) (n : Nat) {σ : az_Hp} {v0 : Int} {r : (Int × az_Hp)} (h : fz_X11_round n σ v0 = some r) : az_AC l yX11_round cX11_round 5 (some .boolean) d [(13, v0)] σ (some (0, r.1), r.2) := az_AC.of mt_X11_round rfl rfl rfl (fun Z hZ C => A_X11_round_e C hD n h)
theorem dX11_solves_0 : decode cX11_solves 0 = .ok (.aload_n 0, 1) := by decide +kernel
theorem dX11_solves_1 : decode cX11_solves 1 = .ok (.iconst 0, 1) := by decide +kernel
theorem dX11_solves_2 : decode cX11_solves 2 = .ok (.putfield 718, 3) := by decide +kernel
theorem dX11_solves_5 : decode cX11_solves 5 = .ok (.aload_n 0, 1) := by decide +kernel
theorem dX11_solves_6 : decode cX11_solves 6 = .ok (.iconst (-1), 1) := by decide +kernel
theorem dX11_solves_7 : decode cX11_solves 7 = .ok (.putfield 721, 3) := by decide +kernel
theorem dX11_solves_10 : decode cX11_solves 10 = .ok (.aload_n 0, 1) := by decide +kernel
theorem dX11_solves_11 : decode cX11_solves 11 = .ok (.iconst 0, 1) := by decide +kernel
theorem dX11_solves_12 : decode cX11_solves 12 = .ok (.putfield 724, 3) := by decide +kernel
theorem dX11_solves_15 : decode cX11_solves 15 = .ok (.iconst 1, 1) := by decide +kernel
theorem dX11_solves_16 : decode cX11_solves 16 = .ok (.istore_n 1, 1) := by decide +kernel
theorem dX11_solves_17 : decode cX11_solves 17 = .ok (.iload_n 1, 1) := by decide +kernel
theorem dX11_solves_18 : decode cX11_solves 18 = .ok (.ifCond .eq 37, 3) := by decide +kernel
theorem dX11_solves_21 : decode cX11_solves 21 = .ok (.aload_n 0, 1) := by decide +kernel
theorem dX11_solves_22 : decode cX11_solves 22 = .ok (.getfield 724, 3) := by decide +kernel
theorem dX11_solves_25 : decode cX11_solves 25 = .ok (.bipush 20, 2) := by decide +kernel
theorem dX11_solves_27 : decode cX11_solves 27 = .ok (.if_icmp .ge 28, 3) := by decide +kernel
theorem dX11_solves_30 : decode cX11_solves 30 = .ok (.aload_n 0, 1) := by decide +kernel
theorem dX11_solves_31 : decode cX11_solves 31 = .ok (.getfield 718, 3) := by decide +kernel
theorem dX11_solves_34 : decode cX11_solves 34 = .ok (.ifCond .ne 21, 3) := by decide +kernel
theorem dX11_solves_37 : decode cX11_solves 37 = .ok (.aload_n 0, 1) := by decide +kernel
theorem dX11_solves_38 : decode cX11_solves 38 = .ok (.dup, 1) := by decide +kernel
theorem dX11_solves_39 : decode cX11_solves 39 = .ok (.getfield 724, 3) := by decide +kernel
theorem dX11_solves_42 : decode cX11_solves 42 = .ok (.iconst 1, 1) := by decide +kernel
theorem dX11_solves_43 : decode cX11_solves 43 = .ok (.iadd, 1) := by decide +kernel
theorem dX11_solves_44 : decode cX11_solves 44 = .ok (.putfield 724, 3) := by decide +kernel
theorem dX11_solves_47 : decode cX11_solves 47 = .ok (.aload_n 0, 1) := by decide +kernel
theorem dX11_solves_48 : decode cX11_solves 48 = .ok (.invokevirtual 727, 3) := by decide +kernel
theorem dX11_solves_51 : decode cX11_solves 51 = .ok (.istore_n 1, 1) := by decide +kernel
theorem dX11_solves_52 : decode cX11_solves 52 = .ok (.goto (-35), 3) := by decide +kernel
theorem dX11_solves_55 : decode cX11_solves 55 = .ok (.return_, 1) := by decide +kernel
set_option maxRecDepth 10000 in
set_option maxHeartbeats 4000000 in
theorem A_X11_solves_17 {Z : az_Z} {d : Nat} (C : az_C Z yX11_solves cX11_solves 2 none d) (hD : 419 ≤ d) (n : Nat) (k : Nat) : ∀ {σ : az_Hp} {v0 v1 : Int} {r : az_Hp}, fz_X11_solves_17 n k σ v0 v1 = some r → az_AW Z 2 17 [(13, v0), (0, v1)] [] σ (none, r) := by
  have hd1 : 1 ≤ d := by omega
  induction k with
  | zero => intro σ v0 v1 r h; simp [fz_X11_solves_17] at h
  | succ k ih =>
    intro σ v0 v1 r h
    unfold fz_X11_solves_17 at h
    refine az_il1 (pc := 17) C dX11_solves_17 ?_
    refine az_if_eq (pc := 18) (tgt := 55) C h dX11_solves_18 (by decide) (fun _ h => ?_) (fun _ h => ?_)
    · obtain rfl := Option.some.inj h
      exact az_return (pc := 55) C dX11_solves_55 rfl
    refine az_al0 (pc := 21) C rfl rfl dX11_solves_21 ?_
    refine az_getI (pc := 22) C fl_X11_724 rfl dX11_solves_22 ?_
    refine az_bk20 (pc := 25) C dX11_solves_25 ?_
    refine az_icmp_ge (pc := 27) (tgt := 55) C h dX11_solves_27 (by decide) (fun _ h => ?_) (fun _ h => ?_)
    · obtain rfl := Option.some.inj h
      exact az_return (pc := 55) C dX11_solves_55 rfl
    refine az_al0 (pc := 30) C rfl rfl dX11_solves_30 ?_
    refine az_getI (pc := 31) C fl_X11_718 rfl dX11_solves_31 ?_
    refine az_if_ne (pc := 34) (tgt := 55) C h dX11_solves_34 (by decide) (fun _ h => ?_) (fun _ h => ?_)
    · obtain rfl := Option.some.inj h
      exact az_return (pc := 55) C dX11_solves_55 rfl
    refine az_al0 (pc := 37) C rfl rfl dX11_solves_37 ?_
    refine az_dup (pc := 38) C rfl rfl dX11_solves_38 ?_
    refine az_getI (pc := 39) C fl_X11_724 rfl dX11_solves_39 ?_
    refine az_ik1 (pc := 42) C dX11_solves_42 ?_
    refine az_iadd (pc := 43) C dX11_solves_43 ?_
    refine az_putI (pc := 44) C fl_X11_724 (Or.inl rfl) rfl dX11_solves_44 ?_
    refine az_al0 (pc := 47) C rfl rfl dX11_solves_47 ?_
    refine az_cV0ii (pc := 48) (c := 11) C hd1 h mv_X11_round ml_X11_727 rfl (fun x hx => A_X11_round (by omega) n hx) dX11_solves_48 (fun r1 h => ?_)
    refine az_is1 (pc := 51) C rfl rfl dX11_solves_51 ?_
    refine az_goto (pc := 52) (tgt := 17) C dX11_solves_52 (by decide) ?_
    exact (ih h)
set_option maxRecDepth 10000 in
set_option maxHeartbeats 4000000 in
theorem A_X11_solves_e {Z : az_Z} {d : Nat} (C : az_C Z yX11_solves cX11_solves 2 none d) (hD : 419 ≤ d) (n : Nat) {σ : az_Hp} {v0 : Int} {r : az_Hp} (h : fz_X11_solves n σ v0 = some r) : az_AW Z 2 0 [(13, v0), (31, 0)] [] σ (none, r) := by
  have hd1 : 1 ≤ d := by omega
  unfold fz_X11_solves at h
  refine az_al0 (pc := 0) C rfl rfl dX11_solves_0 ?_
  refine az_ik0 (pc := 1) C dX11_solves_1 ?_
  refine az_putI (pc := 2) C fl_X11_718 (Or.inl rfl) rfl dX11_solves_2 ?_
  refine az_al0 (pc := 5) C rfl rfl dX11_solves_5 ?_
  refine az_ikm1 (pc := 6) C dX11_solves_6 ?_
  refine az_putI (pc := 7) C fl_X11_721 (Or.inl rfl) rfl dX11_solves_7 ?_
  refine az_al0 (pc := 10) C rfl rfl dX11_solves_10 ?_
  refine az_ik0 (pc := 11) C dX11_solves_11 ?_
  refine az_putI (pc := 12) C fl_X11_724 (Or.inl rfl) rfl dX11_solves_12 ?_
  refine az_ik1 (pc := 15) C dX11_solves_15 ?_
  refine az_is1 (pc := 16) C rfl rfl dX11_solves_16 ?_
  exact (A_X11_solves_17 C hD n n h)
set_option maxRecDepth 10000 in
set_option maxHeartbeats 4000000 in
theorem A_X11_solves {l : Launch} {d : Nat} (hD : 419 ≤ d) (n : Nat) {σ : az_Hp} {v0 : Int} {r : az_Hp} (h : fz_X11_solves n σ v0 = some r) : az_AC l yX11_solves cX11_solves 2 none d [(13, v0)] σ (none, r) := az_AC.of mt_X11_solves rfl rfl rfl (fun Z hZ C => A_X11_solves_e C hD n h)
theorem dX11_takesWanted_0 : decode cX11_takesWanted 0 = .ok (.aload_n 0, 1) := by decide +kernel
theorem dX11_takesWanted_1 : decode cX11_takesWanted 1 = .ok (.aload_n 0, 1) := by decide +kernel
theorem dX11_takesWanted_2 : decode cX11_takesWanted 2 = .ok (.getfield 661, 3) := by decide +kernel
theorem dX11_takesWanted_5 : decode cX11_takesWanted 5 = .ok (.putfield 583, 3) := by decide +kernel
theorem dX11_takesWanted_8 : decode cX11_takesWanted 8 = .ok (.iconst 0, 1) := by decide +kernel
theorem dX11_takesWanted_9 : decode cX11_takesWanted 9 = .ok (.istore_n 1, 1) := by decide +kernel
theorem dX11_takesWanted_10 : decode cX11_takesWanted 10 = .ok (.iload_n 1, 1) := by decide +kernel
theorem dX11_takesWanted_11 : decode cX11_takesWanted 11 = .ok (.aload_n 0, 1) := by decide +kernel
theorem dX11_takesWanted_12 : decode cX11_takesWanted 12 = .ok (.getfield 583, 3) := by decide +kernel
theorem dX11_takesWanted_15 : decode cX11_takesWanted 15 = .ok (.if_icmp .ge 33, 3) := by decide +kernel
theorem dX11_takesWanted_18 : decode cX11_takesWanted 18 = .ok (.aload_n 0, 1) := by decide +kernel
theorem dX11_takesWanted_19 : decode cX11_takesWanted 19 = .ok (.getfield 159, 3) := by decide +kernel
theorem dX11_takesWanted_22 : decode cX11_takesWanted 22 = .ok (.iload_n 1, 1) := by decide +kernel
theorem dX11_takesWanted_23 : decode cX11_takesWanted 23 = .ok (.aload_n 0, 1) := by decide +kernel
theorem dX11_takesWanted_24 : decode cX11_takesWanted 24 = .ok (.getfield 171, 3) := by decide +kernel
theorem dX11_takesWanted_27 : decode cX11_takesWanted 27 = .ok (.iload_n 1, 1) := by decide +kernel
theorem dX11_takesWanted_28 : decode cX11_takesWanted 28 = .ok (.iaload, 1) := by decide +kernel
theorem dX11_takesWanted_29 : decode cX11_takesWanted 29 = .ok (.iastore, 1) := by decide +kernel
theorem dX11_takesWanted_30 : decode cX11_takesWanted 30 = .ok (.aload_n 0, 1) := by decide +kernel
theorem dX11_takesWanted_31 : decode cX11_takesWanted 31 = .ok (.getfield 162, 3) := by decide +kernel
theorem dX11_takesWanted_34 : decode cX11_takesWanted 34 = .ok (.iload_n 1, 1) := by decide +kernel
theorem dX11_takesWanted_35 : decode cX11_takesWanted 35 = .ok (.aload_n 0, 1) := by decide +kernel
theorem dX11_takesWanted_36 : decode cX11_takesWanted 36 = .ok (.getfield 174, 3) := by decide +kernel
theorem dX11_takesWanted_39 : decode cX11_takesWanted 39 = .ok (.iload_n 1, 1) := by decide +kernel
theorem dX11_takesWanted_40 : decode cX11_takesWanted 40 = .ok (.iaload, 1) := by decide +kernel
theorem dX11_takesWanted_41 : decode cX11_takesWanted 41 = .ok (.iastore, 1) := by decide +kernel
theorem dX11_takesWanted_42 : decode cX11_takesWanted 42 = .ok (.iinc 1 1, 3) := by decide +kernel
theorem dX11_takesWanted_45 : decode cX11_takesWanted 45 = .ok (.goto (-35), 3) := by decide +kernel
theorem dX11_takesWanted_48 : decode cX11_takesWanted 48 = .ok (.iconst 0, 1) := by decide +kernel
theorem dX11_takesWanted_49 : decode cX11_takesWanted 49 = .ok (.istore_n 1, 1) := by decide +kernel
theorem dX11_takesWanted_50 : decode cX11_takesWanted 50 = .ok (.iload_n 1, 1) := by decide +kernel
theorem dX11_takesWanted_51 : decode cX11_takesWanted 51 = .ok (.sipush 180, 3) := by decide +kernel
theorem dX11_takesWanted_54 : decode cX11_takesWanted 54 = .ok (.if_icmp .ge 33, 3) := by decide +kernel
theorem dX11_takesWanted_57 : decode cX11_takesWanted 57 = .ok (.aload_n 0, 1) := by decide +kernel
theorem dX11_takesWanted_58 : decode cX11_takesWanted 58 = .ok (.getfield 153, 3) := by decide +kernel
theorem dX11_takesWanted_61 : decode cX11_takesWanted 61 = .ok (.iload_n 1, 1) := by decide +kernel
theorem dX11_takesWanted_62 : decode cX11_takesWanted 62 = .ok (.aload_n 0, 1) := by decide +kernel
theorem dX11_takesWanted_63 : decode cX11_takesWanted 63 = .ok (.getfield 165, 3) := by decide +kernel
theorem dX11_takesWanted_66 : decode cX11_takesWanted 66 = .ok (.iload_n 1, 1) := by decide +kernel
theorem dX11_takesWanted_67 : decode cX11_takesWanted 67 = .ok (.iaload, 1) := by decide +kernel
theorem dX11_takesWanted_68 : decode cX11_takesWanted 68 = .ok (.iastore, 1) := by decide +kernel
theorem dX11_takesWanted_69 : decode cX11_takesWanted 69 = .ok (.aload_n 0, 1) := by decide +kernel
theorem dX11_takesWanted_70 : decode cX11_takesWanted 70 = .ok (.getfield 156, 3) := by decide +kernel
theorem dX11_takesWanted_73 : decode cX11_takesWanted 73 = .ok (.iload_n 1, 1) := by decide +kernel
theorem dX11_takesWanted_74 : decode cX11_takesWanted 74 = .ok (.aload_n 0, 1) := by decide +kernel
theorem dX11_takesWanted_75 : decode cX11_takesWanted 75 = .ok (.getfield 168, 3) := by decide +kernel
theorem dX11_takesWanted_78 : decode cX11_takesWanted 78 = .ok (.iload_n 1, 1) := by decide +kernel
theorem dX11_takesWanted_79 : decode cX11_takesWanted 79 = .ok (.iaload, 1) := by decide +kernel
theorem dX11_takesWanted_80 : decode cX11_takesWanted 80 = .ok (.iastore, 1) := by decide +kernel
theorem dX11_takesWanted_81 : decode cX11_takesWanted 81 = .ok (.iinc 1 1, 3) := by decide +kernel
theorem dX11_takesWanted_84 : decode cX11_takesWanted 84 = .ok (.goto (-34), 3) := by decide +kernel
theorem dX11_takesWanted_87 : decode cX11_takesWanted 87 = .ok (.iconst 0, 1) := by decide +kernel
theorem dX11_takesWanted_88 : decode cX11_takesWanted 88 = .ok (.istore_n 1, 1) := by decide +kernel
theorem dX11_takesWanted_89 : decode cX11_takesWanted 89 = .ok (.iload_n 1, 1) := by decide +kernel
theorem dX11_takesWanted_90 : decode cX11_takesWanted 90 = .ok (.aload_n 0, 1) := by decide +kernel
theorem dX11_takesWanted_91 : decode cX11_takesWanted 91 = .ok (.getfield 297, 3) := by decide +kernel
theorem dX11_takesWanted_94 : decode cX11_takesWanted 94 = .ok (.if_icmp .ge 21, 3) := by decide +kernel
theorem dX11_takesWanted_97 : decode cX11_takesWanted 97 = .ok (.aload_n 0, 1) := by decide +kernel
theorem dX11_takesWanted_98 : decode cX11_takesWanted 98 = .ok (.getfield 183, 3) := by decide +kernel
theorem dX11_takesWanted_101 : decode cX11_takesWanted 101 = .ok (.iload_n 1, 1) := by decide +kernel
theorem dX11_takesWanted_102 : decode cX11_takesWanted 102 = .ok (.aload_n 0, 1) := by decide +kernel
theorem dX11_takesWanted_103 : decode cX11_takesWanted 103 = .ok (.getfield 67, 3) := by decide +kernel
theorem dX11_takesWanted_106 : decode cX11_takesWanted 106 = .ok (.iload_n 1, 1) := by decide +kernel
theorem dX11_takesWanted_107 : decode cX11_takesWanted 107 = .ok (.laload, 1) := by decide +kernel
theorem dX11_takesWanted_108 : decode cX11_takesWanted 108 = .ok (.lastore, 1) := by decide +kernel
theorem dX11_takesWanted_109 : decode cX11_takesWanted 109 = .ok (.iinc 1 1, 3) := by decide +kernel
theorem dX11_takesWanted_112 : decode cX11_takesWanted 112 = .ok (.goto (-23), 3) := by decide +kernel
theorem dX11_takesWanted_115 : decode cX11_takesWanted 115 = .ok (.iconst 0, 1) := by decide +kernel
theorem dX11_takesWanted_116 : decode cX11_takesWanted 116 = .ok (.istore_n 1, 1) := by decide +kernel
theorem dX11_takesWanted_117 : decode cX11_takesWanted 117 = .ok (.iload_n 1, 1) := by decide +kernel
theorem dX11_takesWanted_118 : decode cX11_takesWanted 118 = .ok (.aload_n 0, 1) := by decide +kernel
theorem dX11_takesWanted_119 : decode cX11_takesWanted 119 = .ok (.getfield 316, 3) := by decide +kernel
theorem dX11_takesWanted_122 : decode cX11_takesWanted 122 = .ok (.if_icmp .ge 28, 3) := by decide +kernel
theorem dX11_takesWanted_125 : decode cX11_takesWanted 125 = .ok (.aload_n 0, 1) := by decide +kernel
theorem dX11_takesWanted_126 : decode cX11_takesWanted 126 = .ok (.getfield 186, 3) := by decide +kernel
theorem dX11_takesWanted_129 : decode cX11_takesWanted 129 = .ok (.iload_n 1, 1) := by decide +kernel
theorem dX11_takesWanted_130 : decode cX11_takesWanted 130 = .ok (.aload_n 0, 1) := by decide +kernel
theorem dX11_takesWanted_131 : decode cX11_takesWanted 131 = .ok (.getfield 70, 3) := by decide +kernel
theorem dX11_takesWanted_134 : decode cX11_takesWanted 134 = .ok (.iload_n 1, 1) := by decide +kernel
theorem dX11_takesWanted_135 : decode cX11_takesWanted 135 = .ok (.laload, 1) := by decide +kernel
theorem dX11_takesWanted_136 : decode cX11_takesWanted 136 = .ok (.lastore, 1) := by decide +kernel
theorem dX11_takesWanted_137 : decode cX11_takesWanted 137 = .ok (.aload_n 0, 1) := by decide +kernel
theorem dX11_takesWanted_138 : decode cX11_takesWanted 138 = .ok (.getfield 201, 3) := by decide +kernel
theorem dX11_takesWanted_141 : decode cX11_takesWanted 141 = .ok (.iload_n 1, 1) := by decide +kernel
theorem dX11_takesWanted_142 : decode cX11_takesWanted 142 = .ok (.iconst 0, 1) := by decide +kernel
theorem dX11_takesWanted_143 : decode cX11_takesWanted 143 = .ok (.iastore, 1) := by decide +kernel
theorem dX11_takesWanted_144 : decode cX11_takesWanted 144 = .ok (.iinc 1 1, 3) := by decide +kernel
theorem dX11_takesWanted_147 : decode cX11_takesWanted 147 = .ok (.goto (-30), 3) := by decide +kernel
theorem dX11_takesWanted_150 : decode cX11_takesWanted 150 = .ok (.aload_n 0, 1) := by decide +kernel
theorem dX11_takesWanted_151 : decode cX11_takesWanted 151 = .ok (.aload_n 0, 1) := by decide +kernel
theorem dX11_takesWanted_152 : decode cX11_takesWanted 152 = .ok (.getfield 316, 3) := by decide +kernel
theorem dX11_takesWanted_155 : decode cX11_takesWanted 155 = .ok (.putfield 395, 3) := by decide +kernel
theorem dX11_takesWanted_158 : decode cX11_takesWanted 158 = .ok (.aload_n 0, 1) := by decide +kernel
theorem dX11_takesWanted_159 : decode cX11_takesWanted 159 = .ok (.aload_n 0, 1) := by decide +kernel
theorem dX11_takesWanted_160 : decode cX11_takesWanted 160 = .ok (.getfield 664, 3) := by decide +kernel
theorem dX11_takesWanted_163 : decode cX11_takesWanted 163 = .ok (.putfield 676, 3) := by decide +kernel
theorem dX11_takesWanted_166 : decode cX11_takesWanted 166 = .ok (.iconst 0, 1) := by decide +kernel
theorem dX11_takesWanted_167 : decode cX11_takesWanted 167 = .ok (.istore_n 1, 1) := by decide +kernel
theorem dX11_takesWanted_168 : decode cX11_takesWanted 168 = .ok (.iload_n 1, 1) := by decide +kernel
theorem dX11_takesWanted_169 : decode cX11_takesWanted 169 = .ok (.aload_n 0, 1) := by decide +kernel
theorem dX11_takesWanted_170 : decode cX11_takesWanted 170 = .ok (.getfield 664, 3) := by decide +kernel
theorem dX11_takesWanted_173 : decode cX11_takesWanted 173 = .ok (.if_icmp .ge 101, 3) := by decide +kernel
theorem dX11_takesWanted_176 : decode cX11_takesWanted 176 = .ok (.iconst 0, 1) := by decide +kernel
theorem dX11_takesWanted_177 : decode cX11_takesWanted 177 = .ok (.istore_n 2, 1) := by decide +kernel
theorem dX11_takesWanted_178 : decode cX11_takesWanted 178 = .ok (.iload_n 2, 1) := by decide +kernel
theorem dX11_takesWanted_179 : decode cX11_takesWanted 179 = .ok (.iconst 2, 1) := by decide +kernel
theorem dX11_takesWanted_180 : decode cX11_takesWanted 180 = .ok (.if_icmp .ge 81, 3) := by decide +kernel
theorem dX11_takesWanted_183 : decode cX11_takesWanted 183 = .ok (.aload_n 0, 1) := by decide +kernel
theorem dX11_takesWanted_184 : decode cX11_takesWanted 184 = .ok (.getfield 192, 3) := by decide +kernel
theorem dX11_takesWanted_187 : decode cX11_takesWanted 187 = .ok (.iconst 2, 1) := by decide +kernel
theorem dX11_takesWanted_188 : decode cX11_takesWanted 188 = .ok (.iload_n 1, 1) := by decide +kernel
theorem dX11_takesWanted_189 : decode cX11_takesWanted 189 = .ok (.imul, 1) := by decide +kernel
theorem dX11_takesWanted_190 : decode cX11_takesWanted 190 = .ok (.iload_n 2, 1) := by decide +kernel
theorem dX11_takesWanted_191 : decode cX11_takesWanted 191 = .ok (.iadd, 1) := by decide +kernel
theorem dX11_takesWanted_192 : decode cX11_takesWanted 192 = .ok (.aload_n 0, 1) := by decide +kernel
theorem dX11_takesWanted_193 : decode cX11_takesWanted 193 = .ok (.getfield 180, 3) := by decide +kernel
theorem dX11_takesWanted_196 : decode cX11_takesWanted 196 = .ok (.iconst 2, 1) := by decide +kernel
theorem dX11_takesWanted_197 : decode cX11_takesWanted 197 = .ok (.iload_n 1, 1) := by decide +kernel
theorem dX11_takesWanted_198 : decode cX11_takesWanted 198 = .ok (.imul, 1) := by decide +kernel
theorem dX11_takesWanted_199 : decode cX11_takesWanted 199 = .ok (.iload_n 2, 1) := by decide +kernel
theorem dX11_takesWanted_200 : decode cX11_takesWanted 200 = .ok (.iadd, 1) := by decide +kernel
theorem dX11_takesWanted_201 : decode cX11_takesWanted 201 = .ok (.iaload, 1) := by decide +kernel
theorem dX11_takesWanted_202 : decode cX11_takesWanted 202 = .ok (.iastore, 1) := by decide +kernel
theorem dX11_takesWanted_203 : decode cX11_takesWanted 203 = .ok (.iconst 0, 1) := by decide +kernel
theorem dX11_takesWanted_204 : decode cX11_takesWanted 204 = .ok (.istore_n 3, 1) := by decide +kernel
theorem dX11_takesWanted_205 : decode cX11_takesWanted 205 = .ok (.iload_n 3, 1) := by decide +kernel
theorem dX11_takesWanted_206 : decode cX11_takesWanted 206 = .ok (.aload_n 0, 1) := by decide +kernel
theorem dX11_takesWanted_207 : decode cX11_takesWanted 207 = .ok (.getfield 180, 3) := by decide +kernel
theorem dX11_takesWanted_210 : decode cX11_takesWanted 210 = .ok (.iconst 2, 1) := by decide +kernel
theorem dX11_takesWanted_211 : decode cX11_takesWanted 211 = .ok (.iload_n 1, 1) := by decide +kernel
theorem dX11_takesWanted_212 : decode cX11_takesWanted 212 = .ok (.imul, 1) := by decide +kernel
theorem dX11_takesWanted_213 : decode cX11_takesWanted 213 = .ok (.iload_n 2, 1) := by decide +kernel
theorem dX11_takesWanted_214 : decode cX11_takesWanted 214 = .ok (.iadd, 1) := by decide +kernel
theorem dX11_takesWanted_215 : decode cX11_takesWanted 215 = .ok (.iaload, 1) := by decide +kernel
theorem dX11_takesWanted_216 : decode cX11_takesWanted 216 = .ok (.if_icmp .ge 39, 3) := by decide +kernel
theorem dX11_takesWanted_219 : decode cX11_takesWanted 219 = .ok (.aload_n 0, 1) := by decide +kernel
theorem dX11_takesWanted_220 : decode cX11_takesWanted 220 = .ok (.getfield 189, 3) := by decide +kernel
theorem dX11_takesWanted_223 : decode cX11_takesWanted 223 = .ok (.bipush 60, 2) := by decide +kernel
theorem dX11_takesWanted_225 : decode cX11_takesWanted 225 = .ok (.iconst 2, 1) := by decide +kernel
theorem dX11_takesWanted_226 : decode cX11_takesWanted 226 = .ok (.iload_n 1, 1) := by decide +kernel
theorem dX11_takesWanted_227 : decode cX11_takesWanted 227 = .ok (.imul, 1) := by decide +kernel
theorem dX11_takesWanted_228 : decode cX11_takesWanted 228 = .ok (.iload_n 2, 1) := by decide +kernel
theorem dX11_takesWanted_229 : decode cX11_takesWanted 229 = .ok (.iadd, 1) := by decide +kernel
theorem dX11_takesWanted_230 : decode cX11_takesWanted 230 = .ok (.imul, 1) := by decide +kernel
theorem dX11_takesWanted_231 : decode cX11_takesWanted 231 = .ok (.iload_n 3, 1) := by decide +kernel
theorem dX11_takesWanted_232 : decode cX11_takesWanted 232 = .ok (.iadd, 1) := by decide +kernel
theorem dX11_takesWanted_233 : decode cX11_takesWanted 233 = .ok (.aload_n 0, 1) := by decide +kernel
theorem dX11_takesWanted_234 : decode cX11_takesWanted 234 = .ok (.getfield 177, 3) := by decide +kernel
theorem dX11_takesWanted_237 : decode cX11_takesWanted 237 = .ok (.bipush 30, 2) := by decide +kernel
theorem dX11_takesWanted_239 : decode cX11_takesWanted 239 = .ok (.iconst 2, 1) := by decide +kernel
theorem dX11_takesWanted_240 : decode cX11_takesWanted 240 = .ok (.iload_n 1, 1) := by decide +kernel
theorem dX11_takesWanted_241 : decode cX11_takesWanted 241 = .ok (.imul, 1) := by decide +kernel
theorem dX11_takesWanted_242 : decode cX11_takesWanted 242 = .ok (.iload_n 2, 1) := by decide +kernel
theorem dX11_takesWanted_243 : decode cX11_takesWanted 243 = .ok (.iadd, 1) := by decide +kernel
theorem dX11_takesWanted_244 : decode cX11_takesWanted 244 = .ok (.imul, 1) := by decide +kernel
theorem dX11_takesWanted_245 : decode cX11_takesWanted 245 = .ok (.iload_n 3, 1) := by decide +kernel
theorem dX11_takesWanted_246 : decode cX11_takesWanted 246 = .ok (.iadd, 1) := by decide +kernel
theorem dX11_takesWanted_247 : decode cX11_takesWanted 247 = .ok (.iaload, 1) := by decide +kernel
theorem dX11_takesWanted_248 : decode cX11_takesWanted 248 = .ok (.iastore, 1) := by decide +kernel
theorem dX11_takesWanted_249 : decode cX11_takesWanted 249 = .ok (.iinc 3 1, 3) := by decide +kernel
theorem dX11_takesWanted_252 : decode cX11_takesWanted 252 = .ok (.goto (-47), 3) := by decide +kernel
theorem dX11_takesWanted_255 : decode cX11_takesWanted 255 = .ok (.iinc 2 1, 3) := by decide +kernel
theorem dX11_takesWanted_258 : decode cX11_takesWanted 258 = .ok (.goto (-80), 3) := by decide +kernel
theorem dX11_takesWanted_261 : decode cX11_takesWanted 261 = .ok (.aload_n 0, 1) := by decide +kernel
theorem dX11_takesWanted_262 : decode cX11_takesWanted 262 = .ok (.getfield 195, 3) := by decide +kernel
theorem dX11_takesWanted_265 : decode cX11_takesWanted 265 = .ok (.iload_n 1, 1) := by decide +kernel
theorem dX11_takesWanted_266 : decode cX11_takesWanted 266 = .ok (.iload_n 1, 1) := by decide +kernel
theorem dX11_takesWanted_267 : decode cX11_takesWanted 267 = .ok (.iastore, 1) := by decide +kernel
theorem dX11_takesWanted_268 : decode cX11_takesWanted 268 = .ok (.iinc 1 1, 3) := by decide +kernel
theorem dX11_takesWanted_271 : decode cX11_takesWanted 271 = .ok (.goto (-103), 3) := by decide +kernel
theorem dX11_takesWanted_274 : decode cX11_takesWanted 274 = .ok (.aload_n 0, 1) := by decide +kernel
theorem dX11_takesWanted_275 : decode cX11_takesWanted 275 = .ok (.iconst 1, 1) := by decide +kernel
theorem dX11_takesWanted_276 : decode cX11_takesWanted 276 = .ok (.putfield 391, 3) := by decide +kernel
theorem dX11_takesWanted_279 : decode cX11_takesWanted 279 = .ok (.return_, 1) := by decide +kernel
set_option maxRecDepth 10000 in
set_option maxHeartbeats 4000000 in
theorem A_X11_takesWanted_205 {Z : az_Z} {d : Nat} (C : az_C Z yX11_takesWanted cX11_takesWanted 4 none d) (hD : 1 ≤ d) (n : Nat) {k168 : az_Hp → Int → Int → Option az_Hp} (hk168 : ∀ {σ : az_Hp} {v0 v1 : Int} {r : az_Hp}, k168 σ v0 v1 = some r → az_AW Z 4 168 [(13, v0), (0, v1), (31, 0), (31, 0)] [] σ (none, r)) {k178 : az_Hp → Int → Int → Int → Option az_Hp} (hk178 : ∀ {σ : az_Hp} {v0 v1 v2 : Int} {r : az_Hp}, k178 σ v0 v1 v2 = some r → az_AW Z 4 178 [(13, v0), (0, v1), (0, v2), (31, 0)] [] σ (none, r)) (k : Nat) : ∀ {σ : az_Hp} {v0 v1 v2 v3 : Int} {r : az_Hp}, fz_X11_takesWanted_205 n k168 k178 k σ v0 v1 v2 v3 = some r → az_AW Z 4 205 [(13, v0), (0, v1), (0, v2), (0, v3)] [] σ (none, r) := by
  have hd1 : 1 ≤ d := by omega
  induction k with
  | zero => intro σ v0 v1 v2 v3 r h; simp [fz_X11_takesWanted_205] at h
  | succ k ih =>
    intro σ v0 v1 v2 v3 r h
    unfold fz_X11_takesWanted_205 at h
    refine az_il3 (pc := 205) C dX11_takesWanted_205 ?_
    refine az_al0 (pc := 206) C rfl rfl dX11_takesWanted_206 ?_
    refine az_getR (pc := 207) (c2 := 13) C h fl_X11_180 rfl rfl dX11_takesWanted_207 (fun h => ?_)
    refine az_ik2 (pc := 210) C dX11_takesWanted_210 ?_
    refine az_il1 (pc := 211) C dX11_takesWanted_211 ?_
    refine az_imul (pc := 212) C dX11_takesWanted_212 ?_
    refine az_il2 (pc := 213) C dX11_takesWanted_213 ?_
    refine az_iadd (pc := 214) C dX11_takesWanted_214 ?_
    refine az_iaload (pc := 215) C h dX11_takesWanted_215 (fun h => ?_)
    refine az_icmp_ge (pc := 216) (tgt := 255) C h dX11_takesWanted_216 (by decide) (fun _ h => ?_) (fun _ h => ?_)
    · refine az_ii2 (pc := 255) C az_n1 rfl rfl dX11_takesWanted_255 ?_
      refine az_goto (pc := 258) (tgt := 178) C dX11_takesWanted_258 (by decide) ?_
      exact (az_wkk (hk178 h) (az_sE (az_sE (az_sE (az_sJ az_sN)))))
    refine az_al0 (pc := 219) C rfl rfl dX11_takesWanted_219 ?_
    refine az_getR (pc := 220) (c2 := 13) C h fl_X11_189 rfl rfl dX11_takesWanted_220 (fun h => ?_)
    refine az_bk60 (pc := 223) C dX11_takesWanted_223 ?_
    refine az_ik2 (pc := 225) C dX11_takesWanted_225 ?_
    refine az_il1 (pc := 226) C dX11_takesWanted_226 ?_
    refine az_imul (pc := 227) C dX11_takesWanted_227 ?_
    refine az_il2 (pc := 228) C dX11_takesWanted_228 ?_
    refine az_iadd (pc := 229) C dX11_takesWanted_229 ?_
    refine az_imul (pc := 230) C dX11_takesWanted_230 ?_
    refine az_il3 (pc := 231) C dX11_takesWanted_231 ?_
    refine az_iadd (pc := 232) C dX11_takesWanted_232 ?_
    refine az_al0 (pc := 233) C rfl rfl dX11_takesWanted_233 ?_
    refine az_getR (pc := 234) (c2 := 13) C h fl_X11_177 rfl rfl dX11_takesWanted_234 (fun h => ?_)
    refine az_bk30 (pc := 237) C dX11_takesWanted_237 ?_
    refine az_ik2 (pc := 239) C dX11_takesWanted_239 ?_
    refine az_il1 (pc := 240) C dX11_takesWanted_240 ?_
    refine az_imul (pc := 241) C dX11_takesWanted_241 ?_
    refine az_il2 (pc := 242) C dX11_takesWanted_242 ?_
    refine az_iadd (pc := 243) C dX11_takesWanted_243 ?_
    refine az_imul (pc := 244) C dX11_takesWanted_244 ?_
    refine az_il3 (pc := 245) C dX11_takesWanted_245 ?_
    refine az_iadd (pc := 246) C dX11_takesWanted_246 ?_
    refine az_iaload (pc := 247) C h dX11_takesWanted_247 (fun h => ?_)
    refine az_iastore (pc := 248) C h dX11_takesWanted_248 (fun h => ?_)
    refine az_ii3 (pc := 249) C az_n1 rfl rfl dX11_takesWanted_249 ?_
    refine az_goto (pc := 252) (tgt := 205) C dX11_takesWanted_252 (by decide) ?_
    exact (ih h)
set_option maxRecDepth 10000 in
set_option maxHeartbeats 4000000 in
theorem A_X11_takesWanted_178 {Z : az_Z} {d : Nat} (C : az_C Z yX11_takesWanted cX11_takesWanted 4 none d) (hD : 1 ≤ d) (n : Nat) {k168 : az_Hp → Int → Int → Option az_Hp} (hk168 : ∀ {σ : az_Hp} {v0 v1 : Int} {r : az_Hp}, k168 σ v0 v1 = some r → az_AW Z 4 168 [(13, v0), (0, v1), (31, 0), (31, 0)] [] σ (none, r)) (k : Nat) : ∀ {σ : az_Hp} {v0 v1 v2 : Int} {r : az_Hp}, fz_X11_takesWanted_178 n k168 k σ v0 v1 v2 = some r → az_AW Z 4 178 [(13, v0), (0, v1), (0, v2), (31, 0)] [] σ (none, r) := by
  have hd1 : 1 ≤ d := by omega
  induction k with
  | zero => intro σ v0 v1 v2 r h; simp [fz_X11_takesWanted_178] at h
  | succ k ih =>
    intro σ v0 v1 v2 r h
    unfold fz_X11_takesWanted_178 at h
    refine az_il2 (pc := 178) C dX11_takesWanted_178 ?_
    refine az_ik2 (pc := 179) C dX11_takesWanted_179 ?_
    refine az_icmp_ge (pc := 180) (tgt := 261) C h dX11_takesWanted_180 (by decide) (fun _ h => ?_) (fun _ h => ?_)
    · refine az_al0 (pc := 261) C rfl rfl dX11_takesWanted_261 ?_
      refine az_getR (pc := 262) (c2 := 13) C h fl_X11_195 rfl rfl dX11_takesWanted_262 (fun h => ?_)
      refine az_il1 (pc := 265) C dX11_takesWanted_265 ?_
      refine az_il1 (pc := 266) C dX11_takesWanted_266 ?_
      refine az_iastore (pc := 267) C h dX11_takesWanted_267 (fun h => ?_)
      refine az_ii1 (pc := 268) C az_n1 rfl rfl dX11_takesWanted_268 ?_
      refine az_goto (pc := 271) (tgt := 168) C dX11_takesWanted_271 (by decide) ?_
      exact (az_wkk (hk168 h) (az_sE (az_sE (az_sJ (az_sJ az_sN)))))
    refine az_al0 (pc := 183) C rfl rfl dX11_takesWanted_183 ?_
    refine az_getR (pc := 184) (c2 := 13) C h fl_X11_192 rfl rfl dX11_takesWanted_184 (fun h => ?_)
    refine az_ik2 (pc := 187) C dX11_takesWanted_187 ?_
    refine az_il1 (pc := 188) C dX11_takesWanted_188 ?_
    refine az_imul (pc := 189) C dX11_takesWanted_189 ?_
    refine az_il2 (pc := 190) C dX11_takesWanted_190 ?_
    refine az_iadd (pc := 191) C dX11_takesWanted_191 ?_
    refine az_al0 (pc := 192) C rfl rfl dX11_takesWanted_192 ?_
    refine az_getR (pc := 193) (c2 := 13) C h fl_X11_180 rfl rfl dX11_takesWanted_193 (fun h => ?_)
    refine az_ik2 (pc := 196) C dX11_takesWanted_196 ?_
    refine az_il1 (pc := 197) C dX11_takesWanted_197 ?_
    refine az_imul (pc := 198) C dX11_takesWanted_198 ?_
    refine az_il2 (pc := 199) C dX11_takesWanted_199 ?_
    refine az_iadd (pc := 200) C dX11_takesWanted_200 ?_
    refine az_iaload (pc := 201) C h dX11_takesWanted_201 (fun h => ?_)
    refine az_iastore (pc := 202) C h dX11_takesWanted_202 (fun h => ?_)
    refine az_ik0 (pc := 203) C dX11_takesWanted_203 ?_
    refine az_is3 (pc := 204) C rfl rfl dX11_takesWanted_204 ?_
    exact (A_X11_takesWanted_205 C hD n (fun h => hk168 h) (fun h => ih h) n h)
set_option maxRecDepth 10000 in
set_option maxHeartbeats 4000000 in
theorem A_X11_takesWanted_168 {Z : az_Z} {d : Nat} (C : az_C Z yX11_takesWanted cX11_takesWanted 4 none d) (hD : 1 ≤ d) (n : Nat) (k : Nat) : ∀ {σ : az_Hp} {v0 v1 : Int} {r : az_Hp}, fz_X11_takesWanted_168 n k σ v0 v1 = some r → az_AW Z 4 168 [(13, v0), (0, v1), (31, 0), (31, 0)] [] σ (none, r) := by
  have hd1 : 1 ≤ d := by omega
  induction k with
  | zero => intro σ v0 v1 r h; simp [fz_X11_takesWanted_168] at h
  | succ k ih =>
    intro σ v0 v1 r h
    unfold fz_X11_takesWanted_168 at h
    refine az_il1 (pc := 168) C dX11_takesWanted_168 ?_
    refine az_al0 (pc := 169) C rfl rfl dX11_takesWanted_169 ?_
    refine az_getI (pc := 170) C fl_X11_664 rfl dX11_takesWanted_170 ?_
    refine az_icmp_ge (pc := 173) (tgt := 274) C h dX11_takesWanted_173 (by decide) (fun _ h => ?_) (fun _ h => ?_)
    · refine az_al0 (pc := 274) C rfl rfl dX11_takesWanted_274 ?_
      refine az_ik1 (pc := 275) C dX11_takesWanted_275 ?_
      refine az_putZc (pc := 276) C (by decide) fl_X11_391 (Or.inl rfl) rfl dX11_takesWanted_276 ?_
      obtain rfl := Option.some.inj h
      exact az_return (pc := 279) C dX11_takesWanted_279 rfl
    refine az_ik0 (pc := 176) C dX11_takesWanted_176 ?_
    refine az_is2 (pc := 177) C rfl rfl dX11_takesWanted_177 ?_
    exact (A_X11_takesWanted_178 C hD n (fun h => ih h) n h)
set_option maxRecDepth 10000 in
set_option maxHeartbeats 4000000 in
theorem A_X11_takesWanted_117 {Z : az_Z} {d : Nat} (C : az_C Z yX11_takesWanted cX11_takesWanted 4 none d) (hD : 1 ≤ d) (n : Nat) (k : Nat) : ∀ {σ : az_Hp} {v0 v1 : Int} {r : az_Hp}, fz_X11_takesWanted_117 n k σ v0 v1 = some r → az_AW Z 4 117 [(13, v0), (0, v1), (31, 0), (31, 0)] [] σ (none, r) := by
  have hd1 : 1 ≤ d := by omega
  induction k with
  | zero => intro σ v0 v1 r h; simp [fz_X11_takesWanted_117] at h
  | succ k ih =>
    intro σ v0 v1 r h
    unfold fz_X11_takesWanted_117 at h
    refine az_il1 (pc := 117) C dX11_takesWanted_117 ?_
    refine az_al0 (pc := 118) C rfl rfl dX11_takesWanted_118 ?_
    refine az_getI (pc := 119) C fl_X11_316 rfl dX11_takesWanted_119 ?_
    refine az_icmp_ge (pc := 122) (tgt := 150) C h dX11_takesWanted_122 (by decide) (fun _ h => ?_) (fun _ h => ?_)
    · refine az_al0 (pc := 150) C rfl rfl dX11_takesWanted_150 ?_
      refine az_al0 (pc := 151) C rfl rfl dX11_takesWanted_151 ?_
      refine az_getI (pc := 152) C fl_X11_316 rfl dX11_takesWanted_152 ?_
      refine az_putI (pc := 155) C fl_X11_395 (Or.inl rfl) rfl dX11_takesWanted_155 ?_
      refine az_al0 (pc := 158) C rfl rfl dX11_takesWanted_158 ?_
      refine az_al0 (pc := 159) C rfl rfl dX11_takesWanted_159 ?_
      refine az_getI (pc := 160) C fl_X11_664 rfl dX11_takesWanted_160 ?_
      refine az_putI (pc := 163) C fl_X11_676 (Or.inl rfl) rfl dX11_takesWanted_163 ?_
      refine az_ik0 (pc := 166) C dX11_takesWanted_166 ?_
      refine az_is1 (pc := 167) C rfl rfl dX11_takesWanted_167 ?_
      exact (A_X11_takesWanted_168 C hD n n h)
    refine az_al0 (pc := 125) C rfl rfl dX11_takesWanted_125 ?_
    refine az_getR (pc := 126) (c2 := 14) C h fl_X11_186 rfl rfl dX11_takesWanted_126 (fun h => ?_)
    refine az_il1 (pc := 129) C dX11_takesWanted_129 ?_
    refine az_al0 (pc := 130) C rfl rfl dX11_takesWanted_130 ?_
    refine az_getR (pc := 131) (c2 := 14) C h fl_X11_70 rfl rfl dX11_takesWanted_131 (fun h => ?_)
    refine az_il1 (pc := 134) C dX11_takesWanted_134 ?_
    refine az_laload (pc := 135) C h dX11_takesWanted_135 (fun h => ?_)
    refine az_lastore (pc := 136) C h dX11_takesWanted_136 (fun h => ?_)
    refine az_al0 (pc := 137) C rfl rfl dX11_takesWanted_137 ?_
    refine az_getR (pc := 138) (c2 := 13) C h fl_X11_201 rfl rfl dX11_takesWanted_138 (fun h => ?_)
    refine az_il1 (pc := 141) C dX11_takesWanted_141 ?_
    refine az_ik0 (pc := 142) C dX11_takesWanted_142 ?_
    refine az_iastore (pc := 143) C h dX11_takesWanted_143 (fun h => ?_)
    refine az_ii1 (pc := 144) C az_n1 rfl rfl dX11_takesWanted_144 ?_
    refine az_goto (pc := 147) (tgt := 117) C dX11_takesWanted_147 (by decide) ?_
    exact (ih h)
set_option maxRecDepth 10000 in
set_option maxHeartbeats 4000000 in
theorem A_X11_takesWanted_89 {Z : az_Z} {d : Nat} (C : az_C Z yX11_takesWanted cX11_takesWanted 4 none d) (hD : 1 ≤ d) (n : Nat) (k : Nat) : ∀ {σ : az_Hp} {v0 v1 : Int} {r : az_Hp}, fz_X11_takesWanted_89 n k σ v0 v1 = some r → az_AW Z 4 89 [(13, v0), (0, v1), (31, 0), (31, 0)] [] σ (none, r) := by
  have hd1 : 1 ≤ d := by omega
  induction k with
  | zero => intro σ v0 v1 r h; simp [fz_X11_takesWanted_89] at h
  | succ k ih =>
    intro σ v0 v1 r h
    unfold fz_X11_takesWanted_89 at h
    refine az_il1 (pc := 89) C dX11_takesWanted_89 ?_
    refine az_al0 (pc := 90) C rfl rfl dX11_takesWanted_90 ?_
    refine az_getI (pc := 91) C fl_X11_297 rfl dX11_takesWanted_91 ?_
    refine az_icmp_ge (pc := 94) (tgt := 115) C h dX11_takesWanted_94 (by decide) (fun _ h => ?_) (fun _ h => ?_)
    · refine az_ik0 (pc := 115) C dX11_takesWanted_115 ?_
      refine az_is1 (pc := 116) C rfl rfl dX11_takesWanted_116 ?_
      exact (A_X11_takesWanted_117 C hD n n h)
    refine az_al0 (pc := 97) C rfl rfl dX11_takesWanted_97 ?_
    refine az_getR (pc := 98) (c2 := 14) C h fl_X11_183 rfl rfl dX11_takesWanted_98 (fun h => ?_)
    refine az_il1 (pc := 101) C dX11_takesWanted_101 ?_
    refine az_al0 (pc := 102) C rfl rfl dX11_takesWanted_102 ?_
    refine az_getR (pc := 103) (c2 := 14) C h fl_X11_67 rfl rfl dX11_takesWanted_103 (fun h => ?_)
    refine az_il1 (pc := 106) C dX11_takesWanted_106 ?_
    refine az_laload (pc := 107) C h dX11_takesWanted_107 (fun h => ?_)
    refine az_lastore (pc := 108) C h dX11_takesWanted_108 (fun h => ?_)
    refine az_ii1 (pc := 109) C az_n1 rfl rfl dX11_takesWanted_109 ?_
    refine az_goto (pc := 112) (tgt := 89) C dX11_takesWanted_112 (by decide) ?_
    exact (ih h)
set_option maxRecDepth 10000 in
set_option maxHeartbeats 4000000 in
theorem A_X11_takesWanted_50 {Z : az_Z} {d : Nat} (C : az_C Z yX11_takesWanted cX11_takesWanted 4 none d) (hD : 1 ≤ d) (n : Nat) (k : Nat) : ∀ {σ : az_Hp} {v0 v1 : Int} {r : az_Hp}, fz_X11_takesWanted_50 n k σ v0 v1 = some r → az_AW Z 4 50 [(13, v0), (0, v1), (31, 0), (31, 0)] [] σ (none, r) := by
  have hd1 : 1 ≤ d := by omega
  induction k with
  | zero => intro σ v0 v1 r h; simp [fz_X11_takesWanted_50] at h
  | succ k ih =>
    intro σ v0 v1 r h
    unfold fz_X11_takesWanted_50 at h
    refine az_il1 (pc := 50) C dX11_takesWanted_50 ?_
    refine az_sk180 (pc := 51) C dX11_takesWanted_51 ?_
    refine az_icmp_ge (pc := 54) (tgt := 87) C h dX11_takesWanted_54 (by decide) (fun _ h => ?_) (fun _ h => ?_)
    · refine az_ik0 (pc := 87) C dX11_takesWanted_87 ?_
      refine az_is1 (pc := 88) C rfl rfl dX11_takesWanted_88 ?_
      exact (A_X11_takesWanted_89 C hD n n h)
    refine az_al0 (pc := 57) C rfl rfl dX11_takesWanted_57 ?_
    refine az_getR (pc := 58) (c2 := 13) C h fl_X11_153 rfl rfl dX11_takesWanted_58 (fun h => ?_)
    refine az_il1 (pc := 61) C dX11_takesWanted_61 ?_
    refine az_al0 (pc := 62) C rfl rfl dX11_takesWanted_62 ?_
    refine az_getR (pc := 63) (c2 := 13) C h fl_X11_165 rfl rfl dX11_takesWanted_63 (fun h => ?_)
    refine az_il1 (pc := 66) C dX11_takesWanted_66 ?_
    refine az_iaload (pc := 67) C h dX11_takesWanted_67 (fun h => ?_)
    refine az_iastore (pc := 68) C h dX11_takesWanted_68 (fun h => ?_)
    refine az_al0 (pc := 69) C rfl rfl dX11_takesWanted_69 ?_
    refine az_getR (pc := 70) (c2 := 13) C h fl_X11_156 rfl rfl dX11_takesWanted_70 (fun h => ?_)
    refine az_il1 (pc := 73) C dX11_takesWanted_73 ?_
    refine az_al0 (pc := 74) C rfl rfl dX11_takesWanted_74 ?_
    refine az_getR (pc := 75) (c2 := 13) C h fl_X11_168 rfl rfl dX11_takesWanted_75 (fun h => ?_)
    refine az_il1 (pc := 78) C dX11_takesWanted_78 ?_
    refine az_iaload (pc := 79) C h dX11_takesWanted_79 (fun h => ?_)
    refine az_iastore (pc := 80) C h dX11_takesWanted_80 (fun h => ?_)
    refine az_ii1 (pc := 81) C az_n1 rfl rfl dX11_takesWanted_81 ?_
    refine az_goto (pc := 84) (tgt := 50) C dX11_takesWanted_84 (by decide) ?_
    exact (ih h)
set_option maxRecDepth 10000 in
set_option maxHeartbeats 4000000 in
theorem A_X11_takesWanted_10 {Z : az_Z} {d : Nat} (C : az_C Z yX11_takesWanted cX11_takesWanted 4 none d) (hD : 1 ≤ d) (n : Nat) (k : Nat) : ∀ {σ : az_Hp} {v0 v1 : Int} {r : az_Hp}, fz_X11_takesWanted_10 n k σ v0 v1 = some r → az_AW Z 4 10 [(13, v0), (0, v1), (31, 0), (31, 0)] [] σ (none, r) := by
  have hd1 : 1 ≤ d := by omega
  induction k with
  | zero => intro σ v0 v1 r h; simp [fz_X11_takesWanted_10] at h
  | succ k ih =>
    intro σ v0 v1 r h
    unfold fz_X11_takesWanted_10 at h
    refine az_il1 (pc := 10) C dX11_takesWanted_10 ?_
    refine az_al0 (pc := 11) C rfl rfl dX11_takesWanted_11 ?_
    refine az_getI (pc := 12) C fl_X11_583 rfl dX11_takesWanted_12 ?_
    refine az_icmp_ge (pc := 15) (tgt := 48) C h dX11_takesWanted_15 (by decide) (fun _ h => ?_) (fun _ h => ?_)
    · refine az_ik0 (pc := 48) C dX11_takesWanted_48 ?_
      refine az_is1 (pc := 49) C rfl rfl dX11_takesWanted_49 ?_
      exact (A_X11_takesWanted_50 C hD n n h)
    refine az_al0 (pc := 18) C rfl rfl dX11_takesWanted_18 ?_
    refine az_getR (pc := 19) (c2 := 13) C h fl_X11_159 rfl rfl dX11_takesWanted_19 (fun h => ?_)
    refine az_il1 (pc := 22) C dX11_takesWanted_22 ?_
    refine az_al0 (pc := 23) C rfl rfl dX11_takesWanted_23 ?_
    refine az_getR (pc := 24) (c2 := 13) C h fl_X11_171 rfl rfl dX11_takesWanted_24 (fun h => ?_)
    refine az_il1 (pc := 27) C dX11_takesWanted_27 ?_
    refine az_iaload (pc := 28) C h dX11_takesWanted_28 (fun h => ?_)
    refine az_iastore (pc := 29) C h dX11_takesWanted_29 (fun h => ?_)
    refine az_al0 (pc := 30) C rfl rfl dX11_takesWanted_30 ?_
    refine az_getR (pc := 31) (c2 := 13) C h fl_X11_162 rfl rfl dX11_takesWanted_31 (fun h => ?_)
    refine az_il1 (pc := 34) C dX11_takesWanted_34 ?_
    refine az_al0 (pc := 35) C rfl rfl dX11_takesWanted_35 ?_
    refine az_getR (pc := 36) (c2 := 13) C h fl_X11_174 rfl rfl dX11_takesWanted_36 (fun h => ?_)
    refine az_il1 (pc := 39) C dX11_takesWanted_39 ?_
    refine az_iaload (pc := 40) C h dX11_takesWanted_40 (fun h => ?_)
    refine az_iastore (pc := 41) C h dX11_takesWanted_41 (fun h => ?_)
    refine az_ii1 (pc := 42) C az_n1 rfl rfl dX11_takesWanted_42 ?_
    refine az_goto (pc := 45) (tgt := 10) C dX11_takesWanted_45 (by decide) ?_
    exact (ih h)
set_option maxRecDepth 10000 in
set_option maxHeartbeats 4000000 in
theorem A_X11_takesWanted_e {Z : az_Z} {d : Nat} (C : az_C Z yX11_takesWanted cX11_takesWanted 4 none d) (hD : 1 ≤ d) (n : Nat) {σ : az_Hp} {v0 : Int} {r : az_Hp} (h : fz_X11_takesWanted n σ v0 = some r) : az_AW Z 4 0 [(13, v0), (31, 0), (31, 0), (31, 0)] [] σ (none, r) := by
  have hd1 : 1 ≤ d := by omega
  unfold fz_X11_takesWanted at h
  refine az_al0 (pc := 0) C rfl rfl dX11_takesWanted_0 ?_
  refine az_al0 (pc := 1) C rfl rfl dX11_takesWanted_1 ?_
  refine az_getI (pc := 2) C fl_X11_661 rfl dX11_takesWanted_2 ?_
  refine az_putI (pc := 5) C fl_X11_583 (Or.inl rfl) rfl dX11_takesWanted_5 ?_
  refine az_ik0 (pc := 8) C dX11_takesWanted_8 ?_
  refine az_is1 (pc := 9) C rfl rfl dX11_takesWanted_9 ?_
  exact (A_X11_takesWanted_10 C hD n n h)
set_option maxRecDepth 10000 in
set_option maxHeartbeats 4000000 in
theorem A_X11_takesWanted {l : Launch} {d : Nat} (hD : 1 ≤ d) (n : Nat) {σ : az_Hp} {v0 : Int} {r : az_Hp} (h : fz_X11_takesWanted n σ v0 = some r) : az_AC l yX11_takesWanted cX11_takesWanted 4 none d [(13, v0)] σ (none, r) := az_AC.of mt_X11_takesWanted rfl rfl rfl (fun Z hZ C => A_X11_takesWanted_e C hD n h)
theorem dX11_want_0 : decode cX11_want 0 = .ok (.iload_n 1, 1) := by decide +kernel
theorem dX11_want_1 : decode cX11_want 1 = .ok (.iconst 0, 1) := by decide +kernel
theorem dX11_want_2 : decode cX11_want 2 = .ok (.aload_n 0, 1) := by decide +kernel
theorem dX11_want_3 : decode cX11_want 3 = .ok (.getfield 216, 3) := by decide +kernel
theorem dX11_want_6 : decode cX11_want 6 = .ok (.invokestatic 354, 3) := by decide +kernel
theorem dX11_want_9 : decode cX11_want 9 = .ok (.ifCond .ne 9, 3) := by decide +kernel
theorem dX11_want_12 : decode cX11_want 12 = .ok (.aload_n 0, 1) := by decide +kernel
theorem dX11_want_13 : decode cX11_want 13 = .ok (.iconst 1, 1) := by decide +kernel
theorem dX11_want_14 : decode cX11_want 14 = .ok (.invokevirtual 372, 3) := by decide +kernel
theorem dX11_want_17 : decode cX11_want 17 = .ok (.ireturn, 1) := by decide +kernel
theorem dX11_want_18 : decode cX11_want 18 = .ok (.aload_n 0, 1) := by decide +kernel
theorem dX11_want_19 : decode cX11_want 19 = .ok (.iload_n 1, 1) := by decide +kernel
theorem dX11_want_20 : decode cX11_want 20 = .ok (.invokevirtual 375, 3) := by decide +kernel
theorem dX11_want_23 : decode cX11_want 23 = .ok (.aload_n 0, 1) := by decide +kernel
theorem dX11_want_24 : decode cX11_want 24 = .ok (.iconst 0, 1) := by decide +kernel
theorem dX11_want_25 : decode cX11_want 25 = .ok (.putfield 297, 3) := by decide +kernel
theorem dX11_want_28 : decode cX11_want 28 = .ok (.aload_n 0, 1) := by decide +kernel
theorem dX11_want_29 : decode cX11_want 29 = .ok (.sipush 450, 3) := by decide +kernel
theorem dX11_want_32 : decode cX11_want 32 = .ok (.putfield 310, 3) := by decide +kernel
theorem dX11_want_35 : decode cX11_want 35 = .ok (.aload_n 0, 1) := by decide +kernel
theorem dX11_want_36 : decode cX11_want 36 = .ok (.iconst 0, 1) := by decide +kernel
theorem dX11_want_37 : decode cX11_want 37 = .ok (.putfield 316, 3) := by decide +kernel
theorem dX11_want_40 : decode cX11_want 40 = .ok (.aload_n 0, 1) := by decide +kernel
theorem dX11_want_41 : decode cX11_want 41 = .ok (.iconst 0, 1) := by decide +kernel
theorem dX11_want_42 : decode cX11_want 42 = .ok (.putfield 661, 3) := by decide +kernel
theorem dX11_want_45 : decode cX11_want 45 = .ok (.aload_n 0, 1) := by decide +kernel
theorem dX11_want_46 : decode cX11_want 46 = .ok (.iconst 0, 1) := by decide +kernel
theorem dX11_want_47 : decode cX11_want 47 = .ok (.putfield 664, 3) := by decide +kernel
theorem dX11_want_50 : decode cX11_want 50 = .ok (.iconst 1, 1) := by decide +kernel
theorem dX11_want_51 : decode cX11_want 51 = .ok (.istore_n 2, 1) := by decide +kernel
theorem dX11_want_52 : decode cX11_want 52 = .ok (.iload_n 2, 1) := by decide +kernel
theorem dX11_want_53 : decode cX11_want 53 = .ok (.ifCond .eq 18, 3) := by decide +kernel
theorem dX11_want_56 : decode cX11_want 56 = .ok (.aload_n 0, 1) := by decide +kernel
theorem dX11_want_57 : decode cX11_want 57 = .ok (.getfield 236, 3) := by decide +kernel
theorem dX11_want_60 : decode cX11_want 60 = .ok (.ifCond .eq 11, 3) := by decide +kernel
theorem dX11_want_63 : decode cX11_want 63 = .ok (.aload_n 0, 1) := by decide +kernel
theorem dX11_want_64 : decode cX11_want 64 = .ok (.invokevirtual 667, 3) := by decide +kernel
theorem dX11_want_67 : decode cX11_want 67 = .ok (.istore_n 2, 1) := by decide +kernel
theorem dX11_want_68 : decode cX11_want 68 = .ok (.goto (-16), 3) := by decide +kernel
theorem dX11_want_71 : decode cX11_want 71 = .ok (.aload_n 0, 1) := by decide +kernel
theorem dX11_want_72 : decode cX11_want 72 = .ok (.iload_n 2, 1) := by decide +kernel
theorem dX11_want_73 : decode cX11_want 73 = .ok (.invokevirtual 384, 3) := by decide +kernel
theorem dX11_want_76 : decode cX11_want 76 = .ok (.ifCond .ne 10, 3) := by decide +kernel
theorem dX11_want_79 : decode cX11_want 79 = .ok (.aload_n 0, 1) := by decide +kernel
theorem dX11_want_80 : decode cX11_want 80 = .ok (.bipush 9, 2) := by decide +kernel
theorem dX11_want_82 : decode cX11_want 82 = .ok (.invokevirtual 372, 3) := by decide +kernel
theorem dX11_want_85 : decode cX11_want 85 = .ok (.ireturn, 1) := by decide +kernel
theorem dX11_want_86 : decode cX11_want 86 = .ok (.aload_n 0, 1) := by decide +kernel
theorem dX11_want_87 : decode cX11_want 87 = .ok (.invokevirtual 670, 3) := by decide +kernel
theorem dX11_want_90 : decode cX11_want 90 = .ok (.aload_n 0, 1) := by decide +kernel
theorem dX11_want_91 : decode cX11_want 91 = .ok (.invokevirtual 673, 3) := by decide +kernel
theorem dX11_want_94 : decode cX11_want 94 = .ok (.aload_n 0, 1) := by decide +kernel
theorem dX11_want_95 : decode cX11_want 95 = .ok (.aload_n 0, 1) := by decide +kernel
theorem dX11_want_96 : decode cX11_want 96 = .ok (.getfield 676, 3) := by decide +kernel
theorem dX11_want_99 : decode cX11_want 99 = .ok (.invokevirtual 401, 3) := by decide +kernel
theorem dX11_want_102 : decode cX11_want 102 = .ok (.ireturn, 1) := by decide +kernel
set_option maxRecDepth 10000 in
set_option maxHeartbeats 4000000 in
theorem A_X11_want_71 {Z : az_Z} {d : Nat} (C : az_C Z yX11_want cX11_want 3 (some .int) d) (hD : 420 ≤ d) (n : Nat) {σ : az_Hp} {v0 v2 : Int} {r : (Int × az_Hp)} (h : fz_X11_want_71 n σ v0 v2 = some r) : az_AW Z 3 71 [(13, v0), (31, 0), (0, v2)] [] σ (some (0, r.1), r.2) := by
  have hd1 : 1 ≤ d := by omega
  unfold fz_X11_want_71 at h
  refine az_al0 (pc := 71) C rfl rfl dX11_want_71 ?_
  refine az_il2 (pc := 72) C dX11_want_72 ?_
  refine az_cV1ii (pc := 73) (c := 11) C hd1 h mv_X11_ends ml_X11_384 rfl (fun x hx => A_X11_ends (by omega) hx) dX11_want_73 (fun r1 h => ?_)
  refine az_if_ne (pc := 76) (tgt := 86) C h dX11_want_76 (by decide) (fun _ h => ?_) (fun _ h => ?_)
  · refine az_al0 (pc := 86) C rfl rfl dX11_want_86 ?_
    refine az_cV0v (pc := 87) (c := 11) C hd1 h mv_X11_takesWanted ml_X11_670 rfl (fun x hx => A_X11_takesWanted (by omega) n hx) dX11_want_87 (fun r2 h => ?_)
    refine az_al0 (pc := 90) C rfl rfl dX11_want_90 ?_
    refine az_cV0v (pc := 91) (c := 11) C hd1 h mv_X11_solves ml_X11_673 rfl (fun x hx => A_X11_solves (by omega) n hx) dX11_want_91 (fun r3 h => ?_)
    refine az_al0 (pc := 94) C rfl rfl dX11_want_94 ?_
    refine az_al0 (pc := 95) C rfl rfl dX11_want_95 ?_
    refine az_getI (pc := 96) C fl_X11_676 rfl dX11_want_96 ?_
    refine az_cV1ii (pc := 99) (c := 11) C hd1 h mv_X11_gives ml_X11_401 rfl (fun x hx => A_X11_gives (by omega) hx) dX11_want_99 (fun r4 h => ?_)
    obtain rfl := Option.some.inj h
    exact az_ireturn (pc := 102) C dX11_want_102 rfl
  refine az_al0 (pc := 79) C rfl rfl dX11_want_79 ?_
  refine az_bk9 (pc := 80) C dX11_want_80 ?_
  refine az_cV1ii (pc := 82) (c := 11) C hd1 h mv_X11_refuse ml_X11_372 rfl (fun x hx => A_X11_refuse (by omega) hx) dX11_want_82 (fun r5 h => ?_)
  obtain rfl := Option.some.inj h
  exact az_ireturn (pc := 85) C dX11_want_85 rfl
set_option maxRecDepth 10000 in
set_option maxHeartbeats 4000000 in
theorem A_X11_want_52 {Z : az_Z} {d : Nat} (C : az_C Z yX11_want cX11_want 3 (some .int) d) (hD : 420 ≤ d) (n : Nat) (k : Nat) : ∀ {σ : az_Hp} {v0 v2 : Int} {r : (Int × az_Hp)}, fz_X11_want_52 n k σ v0 v2 = some r → az_AW Z 3 52 [(13, v0), (31, 0), (0, v2)] [] σ (some (0, r.1), r.2) := by
  have hd1 : 1 ≤ d := by omega
  induction k with
  | zero => intro σ v0 v2 r h; simp [fz_X11_want_52] at h
  | succ k ih =>
    intro σ v0 v2 r h
    unfold fz_X11_want_52 at h
    refine az_il2 (pc := 52) C dX11_want_52 ?_
    refine az_if_eq (pc := 53) (tgt := 71) C h dX11_want_53 (by decide) (fun _ h => ?_) (fun _ h => ?_)
    · exact (A_X11_want_71 C hD n h)
    refine az_al0 (pc := 56) C rfl rfl dX11_want_56 ?_
    refine az_getI (pc := 57) C fl_X11_236 rfl dX11_want_57 ?_
    refine az_if_eq (pc := 60) (tgt := 71) C h dX11_want_60 (by decide) (fun _ h => ?_) (fun _ h => ?_)
    · exact (A_X11_want_71 C hD n h)
    refine az_al0 (pc := 63) C rfl rfl dX11_want_63 ?_
    refine az_cV0ii (pc := 64) (c := 11) C hd1 h mv_X11_readWanted ml_X11_667 rfl (fun x hx => A_X11_readWanted (by omega) n hx) dX11_want_64 (fun r1 h => ?_)
    refine az_is2 (pc := 67) C rfl rfl dX11_want_67 ?_
    refine az_goto (pc := 68) (tgt := 52) C dX11_want_68 (by decide) ?_
    exact (ih h)
set_option maxRecDepth 10000 in
set_option maxHeartbeats 4000000 in
theorem A_X11_want_e {Z : az_Z} {d : Nat} (C : az_C Z yX11_want cX11_want 3 (some .int) d) (hD : 420 ≤ d) (n : Nat) {σ : az_Hp} {v0 v1 : Int} {r : (Int × az_Hp)} (h : fz_X11_want n σ v0 v1 = some r) : az_AW Z 3 0 [(13, v0), (0, v1), (31, 0)] [] σ (some (0, r.1), r.2) := by
  have hd1 : 1 ≤ d := by omega
  unfold fz_X11_want at h
  refine az_il1 (pc := 0) C dX11_want_0 ?_
  refine az_ik0 (pc := 1) C dX11_want_1 ?_
  refine az_al0 (pc := 2) C rfl rfl dX11_want_2 ?_
  refine az_getI (pc := 3) C fl_X11_216 rfl dX11_want_3 ?_
  refine az_cS3pi (pc := 6) C hd1 h ms_X11_isFrom ml_X11_354 rfl (fun x hx => A_X11_isFrom (by omega) hx) dX11_want_6 (fun r1 h => ?_)
  refine az_if_ne (pc := 9) (tgt := 18) C h dX11_want_9 (by decide) (fun _ h => ?_) (fun _ h => ?_)
  · refine az_al0 (pc := 18) C rfl rfl dX11_want_18 ?_
    refine az_il1 (pc := 19) C dX11_want_19 ?_
    refine az_cV1v (pc := 20) (c := 11) C hd1 h mv_X11_begins ml_X11_375 rfl (fun x hx => A_X11_begins (by omega) n hx) dX11_want_20 (fun r2 h => ?_)
    refine az_al0 (pc := 23) C rfl rfl dX11_want_23 ?_
    refine az_ik0 (pc := 24) C dX11_want_24 ?_
    refine az_putI (pc := 25) C fl_X11_297 (Or.inl rfl) rfl dX11_want_25 ?_
    refine az_al0 (pc := 28) C rfl rfl dX11_want_28 ?_
    refine az_sk450 (pc := 29) C dX11_want_29 ?_
    refine az_putI (pc := 32) C fl_X11_310 (Or.inl rfl) rfl dX11_want_32 ?_
    refine az_al0 (pc := 35) C rfl rfl dX11_want_35 ?_
    refine az_ik0 (pc := 36) C dX11_want_36 ?_
    refine az_putI (pc := 37) C fl_X11_316 (Or.inl rfl) rfl dX11_want_37 ?_
    refine az_al0 (pc := 40) C rfl rfl dX11_want_40 ?_
    refine az_ik0 (pc := 41) C dX11_want_41 ?_
    refine az_putI (pc := 42) C fl_X11_661 (Or.inl rfl) rfl dX11_want_42 ?_
    refine az_al0 (pc := 45) C rfl rfl dX11_want_45 ?_
    refine az_ik0 (pc := 46) C dX11_want_46 ?_
    refine az_putI (pc := 47) C fl_X11_664 (Or.inl rfl) rfl dX11_want_47 ?_
    refine az_ik1 (pc := 50) C dX11_want_50 ?_
    refine az_is2 (pc := 51) C rfl rfl dX11_want_51 ?_
    exact (az_wkk (A_X11_want_52 C hD n n h) (az_sE (az_sJ (az_sE az_sN))))
  refine az_al0 (pc := 12) C rfl rfl dX11_want_12 ?_
  refine az_ik1 (pc := 13) C dX11_want_13 ?_
  refine az_cV1ii (pc := 14) (c := 11) C hd1 h mv_X11_refuse ml_X11_372 rfl (fun x hx => A_X11_refuse (by omega) hx) dX11_want_14 (fun r3 h => ?_)
  obtain rfl := Option.some.inj h
  exact az_ireturn (pc := 17) C dX11_want_17 rfl
set_option maxRecDepth 10000 in
set_option maxHeartbeats 4000000 in
theorem A_X11_want {l : Launch} {d : Nat} (hD : 420 ≤ d) (n : Nat) {σ : az_Hp} {v0 v1 : Int} {r : (Int × az_Hp)} (h : fz_X11_want n σ v0 v1 = some r) : az_AC l yX11_want cX11_want 3 (some .int) d [(13, v0), (0, v1)] σ (some (0, r.1), r.2) := az_AC.of mt_X11_want rfl rfl rfl (fun Z hZ C => A_X11_want_e C hD n h)
