theorem dX9_goesBackwards_0 : decode cX9_goesBackwards 0 = .ok (.aload_n 0, 1) := by decide +kernel
theorem dX9_goesBackwards_1 : decode cX9_goesBackwards 1 = .ok (.getfield 38, 3) := by decide +kernel
theorem dX9_goesBackwards_4 : decode cX9_goesBackwards 4 = .ok (.iload_n 1, 1) := by decide +kernel
theorem dX9_goesBackwards_5 : decode cX9_goesBackwards 5 = .ok (.baload, 1) := by decide +kernel
theorem dX9_goesBackwards_6 : decode cX9_goesBackwards 6 = .ok (.ifCond .eq 16, 3) := by decide +kernel
theorem dX9_goesBackwards_9 : decode cX9_goesBackwards 9 = .ok (.aload_n 0, 1) := by decide +kernel
theorem dX9_goesBackwards_10 : decode cX9_goesBackwards 10 = .ok (.getfield 59, 3) := by decide +kernel
theorem dX9_goesBackwards_13 : decode cX9_goesBackwards 13 = .ok (.iload_n 1, 1) := by decide +kernel
theorem dX9_goesBackwards_14 : decode cX9_goesBackwards 14 = .ok (.iaload, 1) := by decide +kernel
theorem dX9_goesBackwards_15 : decode cX9_goesBackwards 15 = .ok (.ifCond .ne 7, 3) := by decide +kernel
theorem dX9_goesBackwards_18 : decode cX9_goesBackwards 18 = .ok (.iconst 1, 1) := by decide +kernel
theorem dX9_goesBackwards_19 : decode cX9_goesBackwards 19 = .ok (.goto 4, 3) := by decide +kernel
theorem dX9_goesBackwards_22 : decode cX9_goesBackwards 22 = .ok (.iconst 0, 1) := by decide +kernel
theorem dX9_goesBackwards_23 : decode cX9_goesBackwards 23 = .ok (.ireturn, 1) := by decide +kernel
set_option maxRecDepth 10000 in
set_option maxHeartbeats 4000000 in
theorem A_X9_goesBackwards_e {Z : az_Z} {d : Nat} (C : az_C Z yX9_goesBackwards cX9_goesBackwards 2 (some .boolean) d) (hD : 1 ≤ d) {σ : az_Hp} {v0 v1 : Int} {r : Int} (h : fz_X9_goesBackwards σ v0 v1 = some r) : az_AW Z 2 0 [(11, v0), (0, v1)] [] σ (some (0, r), σ) := by
  have hd1 : 1 ≤ d := by omega
  unfold fz_X9_goesBackwards at h
  refine az_al0 (pc := 0) C rfl rfl dX9_goesBackwards_0 ?_
  refine az_getR (pc := 1) (c2 := 15) C h fl_X9_38 rfl rfl dX9_goesBackwards_1 (fun h => ?_)
  refine az_il1 (pc := 4) C dX9_goesBackwards_4 ?_
  refine az_zaload (pc := 5) C h dX9_goesBackwards_5 (fun h => ?_)
  refine az_if_eq (pc := 6) (tgt := 22) C h dX9_goesBackwards_6 (by decide) (fun _ h => ?_) (fun _ h => ?_)
  · refine az_ik0 (pc := 22) C dX9_goesBackwards_22 ?_
    obtain rfl := Option.some.inj h
    exact az_zreturn (pc := 23) C (by decide) dX9_goesBackwards_23 rfl
  refine az_al0 (pc := 9) C rfl rfl dX9_goesBackwards_9 ?_
  refine az_getR (pc := 10) (c2 := 13) C h fl_X9_59 rfl rfl dX9_goesBackwards_10 (fun h => ?_)
  refine az_il1 (pc := 13) C dX9_goesBackwards_13 ?_
  refine az_iaload (pc := 14) C h dX9_goesBackwards_14 (fun h => ?_)
  refine az_if_ne (pc := 15) (tgt := 22) C h dX9_goesBackwards_15 (by decide) (fun _ h => ?_) (fun _ h => ?_)
  · refine az_ik0 (pc := 22) C dX9_goesBackwards_22 ?_
    obtain rfl := Option.some.inj h
    exact az_zreturn (pc := 23) C (by decide) dX9_goesBackwards_23 rfl
  refine az_ik1 (pc := 18) C dX9_goesBackwards_18 ?_
  refine az_goto (pc := 19) (tgt := 23) C dX9_goesBackwards_19 (by decide) ?_
  obtain rfl := Option.some.inj h
  exact az_zreturn (pc := 23) C (by decide) dX9_goesBackwards_23 rfl
set_option maxRecDepth 10000 in
set_option maxHeartbeats 4000000 in
theorem A_X9_goesBackwards {l : Launch} {d : Nat} (hD : 1 ≤ d) {σ : az_Hp} {v0 v1 : Int} {r : Int} (h : fz_X9_goesBackwards σ v0 v1 = some r) : az_AC l yX9_goesBackwards cX9_goesBackwards 2 (some .boolean) d [(11, v0), (0, v1)] σ (some (0, r), σ) := az_AC.of mt_X9_goesBackwards rfl rfl rfl (fun Z hZ C => A_X9_goesBackwards_e C hD h)
theorem dX10_family_0 : decode cX10_family 0 = .ok (.iload_n 2, 1) := by decide +kernel
theorem dX10_family_1 : decode cX10_family 1 = .ok (.ifCond .lt 9, 3) := by decide +kernel
theorem dX10_family_4 : decode cX10_family 4 = .ok (.iload_n 2, 1) := by decide +kernel
theorem dX10_family_5 : decode cX10_family 5 = .ok (.bipush 7, 2) := by decide +kernel
theorem dX10_family_7 : decode cX10_family 7 = .ok (.if_icmp .le 9, 3) := by decide +kernel
theorem dX10_family_10 : decode cX10_family 10 = .ok (.aload_n 0, 1) := by decide +kernel
theorem dX10_family_11 : decode cX10_family 11 = .ok (.iconst 1, 1) := by decide +kernel
theorem dX10_family_12 : decode cX10_family 12 = .ok (.invokevirtual 112, 3) := by decide +kernel
theorem dX10_family_15 : decode cX10_family 15 = .ok (.ireturn, 1) := by decide +kernel
theorem dX10_family_16 : decode cX10_family 16 = .ok (.iload_n 1, 1) := by decide +kernel
theorem dX10_family_17 : decode cX10_family 17 = .ok (.ifCond .lt 14, 3) := by decide +kernel
theorem dX10_family_20 : decode cX10_family 20 = .ok (.iload_n 1, 1) := by decide +kernel
theorem dX10_family_21 : decode cX10_family 21 = .ok (.aload_n 0, 1) := by decide +kernel
theorem dX10_family_22 : decode cX10_family 22 = .ok (.getfield 29, 3) := by decide +kernel
theorem dX10_family_25 : decode cX10_family 25 = .ok (.getfield 144, 3) := by decide +kernel
theorem dX10_family_28 : decode cX10_family 28 = .ok (.if_icmp .lt 9, 3) := by decide +kernel
theorem dX10_family_31 : decode cX10_family 31 = .ok (.aload_n 0, 1) := by decide +kernel
theorem dX10_family_32 : decode cX10_family 32 = .ok (.iconst 2, 1) := by decide +kernel
theorem dX10_family_33 : decode cX10_family 33 = .ok (.invokevirtual 112, 3) := by decide +kernel
theorem dX10_family_36 : decode cX10_family 36 = .ok (.ireturn, 1) := by decide +kernel
theorem dX10_family_37 : decode cX10_family 37 = .ok (.iload_n 2, 1) := by decide +kernel
theorem dX10_family_38 : decode cX10_family 38 = .ok (.tableswitch 164 0 6 #[42, 59, 81, 103, 116, 129, 142], 42) := by decide +kernel
theorem dX10_family_80 : decode cX10_family 80 = .ok (.aload_n 0, 1) := by decide +kernel
theorem dX10_family_81 : decode cX10_family 81 = .ok (.aload_n 0, 1) := by decide +kernel
theorem dX10_family_82 : decode cX10_family 82 = .ok (.getfield 29, 3) := by decide +kernel
theorem dX10_family_85 : decode cX10_family 85 = .ok (.getfield 147, 3) := by decide +kernel
theorem dX10_family_88 : decode cX10_family 88 = .ok (.iload_n 1, 1) := by decide +kernel
theorem dX10_family_89 : decode cX10_family 89 = .ok (.iaload, 1) := by decide +kernel
theorem dX10_family_90 : decode cX10_family 90 = .ok (.invokestatic 150, 3) := by decide +kernel
theorem dX10_family_93 : decode cX10_family 93 = .ok (.invokevirtual 138, 3) := by decide +kernel
theorem dX10_family_96 : decode cX10_family 96 = .ok (.ireturn, 1) := by decide +kernel
theorem dX10_family_97 : decode cX10_family 97 = .ok (.aload_n 0, 1) := by decide +kernel
theorem dX10_family_98 : decode cX10_family 98 = .ok (.aload_n 0, 1) := by decide +kernel
theorem dX10_family_99 : decode cX10_family 99 = .ok (.getfield 29, 3) := by decide +kernel
theorem dX10_family_102 : decode cX10_family 102 = .ok (.getfield 153, 3) := by decide +kernel
theorem dX10_family_105 : decode cX10_family 105 = .ok (.iload_n 1, 1) := by decide +kernel
theorem dX10_family_106 : decode cX10_family 106 = .ok (.baload, 1) := by decide +kernel
theorem dX10_family_107 : decode cX10_family 107 = .ok (.ifCond .eq 7, 3) := by decide +kernel
theorem dX10_family_110 : decode cX10_family 110 = .ok (.iconst 1, 1) := by decide +kernel
theorem dX10_family_111 : decode cX10_family 111 = .ok (.goto 4, 3) := by decide +kernel
theorem dX10_family_114 : decode cX10_family 114 = .ok (.iconst 0, 1) := by decide +kernel
theorem dX10_family_115 : decode cX10_family 115 = .ok (.invokevirtual 138, 3) := by decide +kernel
theorem dX10_family_118 : decode cX10_family 118 = .ok (.ireturn, 1) := by decide +kernel
theorem dX10_family_119 : decode cX10_family 119 = .ok (.aload_n 0, 1) := by decide +kernel
theorem dX10_family_120 : decode cX10_family 120 = .ok (.aload_n 0, 1) := by decide +kernel
theorem dX10_family_121 : decode cX10_family 121 = .ok (.getfield 29, 3) := by decide +kernel
theorem dX10_family_124 : decode cX10_family 124 = .ok (.getfield 157, 3) := by decide +kernel
theorem dX10_family_127 : decode cX10_family 127 = .ok (.iload_n 1, 1) := by decide +kernel
theorem dX10_family_128 : decode cX10_family 128 = .ok (.baload, 1) := by decide +kernel
theorem dX10_family_129 : decode cX10_family 129 = .ok (.ifCond .eq 7, 3) := by decide +kernel
theorem dX10_family_132 : decode cX10_family 132 = .ok (.iconst 1, 1) := by decide +kernel
theorem dX10_family_133 : decode cX10_family 133 = .ok (.goto 4, 3) := by decide +kernel
theorem dX10_family_136 : decode cX10_family 136 = .ok (.iconst 0, 1) := by decide +kernel
theorem dX10_family_137 : decode cX10_family 137 = .ok (.invokevirtual 138, 3) := by decide +kernel
theorem dX10_family_140 : decode cX10_family 140 = .ok (.ireturn, 1) := by decide +kernel
theorem dX10_family_141 : decode cX10_family 141 = .ok (.aload_n 0, 1) := by decide +kernel
theorem dX10_family_142 : decode cX10_family 142 = .ok (.aload_n 0, 1) := by decide +kernel
theorem dX10_family_143 : decode cX10_family 143 = .ok (.getfield 29, 3) := by decide +kernel
theorem dX10_family_146 : decode cX10_family 146 = .ok (.iload_n 1, 1) := by decide +kernel
theorem dX10_family_147 : decode cX10_family 147 = .ok (.invokevirtual 160, 3) := by decide +kernel
theorem dX10_family_150 : decode cX10_family 150 = .ok (.invokevirtual 138, 3) := by decide +kernel
theorem dX10_family_153 : decode cX10_family 153 = .ok (.ireturn, 1) := by decide +kernel
theorem dX10_family_154 : decode cX10_family 154 = .ok (.aload_n 0, 1) := by decide +kernel
theorem dX10_family_155 : decode cX10_family 155 = .ok (.aload_n 0, 1) := by decide +kernel
theorem dX10_family_156 : decode cX10_family 156 = .ok (.getfield 29, 3) := by decide +kernel
theorem dX10_family_159 : decode cX10_family 159 = .ok (.iload_n 1, 1) := by decide +kernel
theorem dX10_family_160 : decode cX10_family 160 = .ok (.invokevirtual 163, 3) := by decide +kernel
theorem dX10_family_163 : decode cX10_family 163 = .ok (.invokevirtual 138, 3) := by decide +kernel
theorem dX10_family_166 : decode cX10_family 166 = .ok (.ireturn, 1) := by decide +kernel
theorem dX10_family_167 : decode cX10_family 167 = .ok (.aload_n 0, 1) := by decide +kernel
theorem dX10_family_168 : decode cX10_family 168 = .ok (.aload_n 0, 1) := by decide +kernel
theorem dX10_family_169 : decode cX10_family 169 = .ok (.getfield 29, 3) := by decide +kernel
theorem dX10_family_172 : decode cX10_family 172 = .ok (.iload_n 1, 1) := by decide +kernel
theorem dX10_family_173 : decode cX10_family 173 = .ok (.invokevirtual 166, 3) := by decide +kernel
theorem dX10_family_176 : decode cX10_family 176 = .ok (.invokevirtual 138, 3) := by decide +kernel
theorem dX10_family_179 : decode cX10_family 179 = .ok (.ireturn, 1) := by decide +kernel
theorem dX10_family_180 : decode cX10_family 180 = .ok (.aload_n 0, 1) := by decide +kernel
theorem dX10_family_181 : decode cX10_family 181 = .ok (.aload_n 0, 1) := by decide +kernel
theorem dX10_family_182 : decode cX10_family 182 = .ok (.getfield 29, 3) := by decide +kernel
theorem dX10_family_185 : decode cX10_family 185 = .ok (.iload_n 1, 1) := by decide +kernel
theorem dX10_family_186 : decode cX10_family 186 = .ok (.invokevirtual 169, 3) := by decide +kernel
theorem dX10_family_189 : decode cX10_family 189 = .ok (.iconst (-1), 1) := by decide +kernel
theorem dX10_family_190 : decode cX10_family 190 = .ok (.if_icmp .ne 7, 3) := by decide +kernel
theorem dX10_family_193 : decode cX10_family 193 = .ok (.iconst 1, 1) := by decide +kernel
theorem dX10_family_194 : decode cX10_family 194 = .ok (.goto 4, 3) := by decide +kernel
theorem dX10_family_197 : decode cX10_family 197 = .ok (.iconst 0, 1) := by decide +kernel
theorem dX10_family_198 : decode cX10_family 198 = .ok (.invokevirtual 138, 3) := by decide +kernel
theorem dX10_family_201 : decode cX10_family 201 = .ok (.ireturn, 1) := by decide +kernel
theorem dX10_family_202 : decode cX10_family 202 = .ok (.aload_n 0, 1) := by decide +kernel
theorem dX10_family_203 : decode cX10_family 203 = .ok (.aload_n 0, 1) := by decide +kernel
theorem dX10_family_204 : decode cX10_family 204 = .ok (.getfield 29, 3) := by decide +kernel
theorem dX10_family_207 : decode cX10_family 207 = .ok (.iload_n 1, 1) := by decide +kernel
theorem dX10_family_208 : decode cX10_family 208 = .ok (.invokevirtual 172, 3) := by decide +kernel
theorem dX10_family_211 : decode cX10_family 211 = .ok (.ifCond .eq 7, 3) := by decide +kernel
theorem dX10_family_214 : decode cX10_family 214 = .ok (.iconst 1, 1) := by decide +kernel
theorem dX10_family_215 : decode cX10_family 215 = .ok (.goto 4, 3) := by decide +kernel
theorem dX10_family_218 : decode cX10_family 218 = .ok (.iconst 0, 1) := by decide +kernel
theorem dX10_family_219 : decode cX10_family 219 = .ok (.invokevirtual 138, 3) := by decide +kernel
theorem dX10_family_222 : decode cX10_family 222 = .ok (.ireturn, 1) := by decide +kernel
set_option maxRecDepth 10000 in
set_option maxHeartbeats 4000000 in
theorem A_X10_family_e {Z : az_Z} {d : Nat} (C : az_C Z yX10_family cX10_family 3 (some .int) d) (hD : 4 ≤ d) (n : Nat) {σ : az_Hp} {v0 v1 v2 : Int} {r : (Int × az_Hp)} (h : fz_X10_family n σ v0 v1 v2 = some r) : az_AW Z 3 0 [(12, v0), (0, v1), (0, v2)] [] σ (some (0, r.1), r.2) := by
  have hd1 : 1 ≤ d := by omega
  unfold fz_X10_family at h
  refine az_il2 (pc := 0) C dX10_family_0 ?_
  refine az_if_lt (pc := 1) (tgt := 10) C h dX10_family_1 (by decide) (fun _ h => ?_) (fun _ h => ?_)
  · refine az_al0 (pc := 10) C rfl rfl dX10_family_10 ?_
    refine az_ik1 (pc := 11) C dX10_family_11 ?_
    refine az_cV1ii (pc := 12) (c := 10) C hd1 h mv_X10_refuse ml_X10_112 rfl (fun x hx => A_X10_refuse (by omega) hx) dX10_family_12 (fun r1 h => ?_)
    obtain rfl := Option.some.inj h
    exact az_ireturn (pc := 15) C dX10_family_15 rfl
  refine az_il2 (pc := 4) C dX10_family_4 ?_
  refine az_bk7 (pc := 5) C dX10_family_5 ?_
  refine az_icmp_le (pc := 7) (tgt := 16) C h dX10_family_7 (by decide) (fun _ h => ?_) (fun _ h => ?_)
  · refine az_il1 (pc := 16) C dX10_family_16 ?_
    refine az_if_lt (pc := 17) (tgt := 31) C h dX10_family_17 (by decide) (fun _ h => ?_) (fun _ h => ?_)
    · refine az_al0 (pc := 31) C rfl rfl dX10_family_31 ?_
      refine az_ik2 (pc := 32) C dX10_family_32 ?_
      refine az_cV1ii (pc := 33) (c := 10) C hd1 h mv_X10_refuse ml_X10_112 rfl (fun x hx => A_X10_refuse (by omega) hx) dX10_family_33 (fun r2 h => ?_)
      obtain rfl := Option.some.inj h
      exact az_ireturn (pc := 36) C dX10_family_36 rfl
    refine az_il1 (pc := 20) C dX10_family_20 ?_
    refine az_al0 (pc := 21) C rfl rfl dX10_family_21 ?_
    refine az_getR (pc := 22) (c2 := 9) C h fl_X10_29 rfl rfl dX10_family_22 (fun h => ?_)
    refine az_getI (pc := 25) C fl_X10_144 rfl dX10_family_25 ?_
    refine az_icmp_lt (pc := 28) (tgt := 37) C h dX10_family_28 (by decide) (fun _ h => ?_) (fun _ h => ?_)
    · refine az_il2 (pc := 37) C dX10_family_37 ?_
      rcases az_ite h with ⟨c0, h⟩ | ⟨c0, h⟩
      · refine az_tswIn (pc := 38) (i := 0) (tgt := 80) C (by exact c0) (by decide) rfl dX10_family_38 (by decide) ?_
        refine az_al0 (pc := 80) C rfl rfl dX10_family_80 ?_
        refine az_al0 (pc := 81) C rfl rfl dX10_family_81 ?_
        refine az_getR (pc := 82) (c2 := 9) C h fl_X10_29 rfl rfl dX10_family_82 (fun h => ?_)
        refine az_getR (pc := 85) (c2 := 13) C h fl_X10_147 rfl rfl dX10_family_85 (fun h => ?_)
        refine az_il1 (pc := 88) C dX10_family_88 ?_
        refine az_iaload (pc := 89) C h dX10_family_89 (fun h => ?_)
        refine az_cS1pi (pc := 90) C hd1 h ms_X7_arity ml_X10_150 rfl (fun x hx => A_X7_arity (by omega) hx) dX10_family_90 (fun r7 h => ?_)
        refine az_cV1ii (pc := 93) (c := 10) C hd1 h mv_X10_give ml_X10_138 rfl (fun x hx => A_X10_give (by omega) hx) dX10_family_93 (fun r8 h => ?_)
        obtain rfl := Option.some.inj h
        exact az_ireturn (pc := 96) C dX10_family_96 rfl
      rcases az_ite h with ⟨c1, h⟩ | ⟨c1, h⟩
      · refine az_tswIn (pc := 38) (i := 1) (tgt := 97) C (by exact c1) (by decide) rfl dX10_family_38 (by decide) ?_
        refine az_al0 (pc := 97) C rfl rfl dX10_family_97 ?_
        refine az_al0 (pc := 98) C rfl rfl dX10_family_98 ?_
        refine az_getR (pc := 99) (c2 := 9) C h fl_X10_29 rfl rfl dX10_family_99 (fun h => ?_)
        refine az_getR (pc := 102) (c2 := 15) C h fl_X10_153 rfl rfl dX10_family_102 (fun h => ?_)
        refine az_il1 (pc := 105) C dX10_family_105 ?_
        refine az_zaload (pc := 106) C h dX10_family_106 (fun h => ?_)
        refine az_if_eq (pc := 107) (tgt := 114) C h dX10_family_107 (by decide) (fun _ h => ?_) (fun _ h => ?_)
        · refine az_ik0 (pc := 114) C dX10_family_114 ?_
          refine az_cV1ii (pc := 115) (c := 10) C hd1 h mv_X10_give ml_X10_138 rfl (fun x hx => A_X10_give (by omega) hx) dX10_family_115 (fun r12 h => ?_)
          obtain rfl := Option.some.inj h
          exact az_ireturn (pc := 118) C dX10_family_118 rfl
        refine az_ik1 (pc := 110) C dX10_family_110 ?_
        refine az_goto (pc := 111) (tgt := 115) C dX10_family_111 (by decide) ?_
        refine az_cV1ii (pc := 115) (c := 10) C hd1 h mv_X10_give ml_X10_138 rfl (fun x hx => A_X10_give (by omega) hx) dX10_family_115 (fun r13 h => ?_)
        obtain rfl := Option.some.inj h
        exact az_ireturn (pc := 118) C dX10_family_118 rfl
      rcases az_ite h with ⟨c2, h⟩ | ⟨c2, h⟩
      · refine az_tswIn (pc := 38) (i := 2) (tgt := 119) C (by exact c2) (by decide) rfl dX10_family_38 (by decide) ?_
        refine az_al0 (pc := 119) C rfl rfl dX10_family_119 ?_
        refine az_al0 (pc := 120) C rfl rfl dX10_family_120 ?_
        refine az_getR (pc := 121) (c2 := 9) C h fl_X10_29 rfl rfl dX10_family_121 (fun h => ?_)
        refine az_getR (pc := 124) (c2 := 15) C h fl_X10_157 rfl rfl dX10_family_124 (fun h => ?_)
        refine az_il1 (pc := 127) C dX10_family_127 ?_
        refine az_zaload (pc := 128) C h dX10_family_128 (fun h => ?_)
        refine az_if_eq (pc := 129) (tgt := 136) C h dX10_family_129 (by decide) (fun _ h => ?_) (fun _ h => ?_)
        · refine az_ik0 (pc := 136) C dX10_family_136 ?_
          refine az_cV1ii (pc := 137) (c := 10) C hd1 h mv_X10_give ml_X10_138 rfl (fun x hx => A_X10_give (by omega) hx) dX10_family_137 (fun r17 h => ?_)
          obtain rfl := Option.some.inj h
          exact az_ireturn (pc := 140) C dX10_family_140 rfl
        refine az_ik1 (pc := 132) C dX10_family_132 ?_
        refine az_goto (pc := 133) (tgt := 137) C dX10_family_133 (by decide) ?_
        refine az_cV1ii (pc := 137) (c := 10) C hd1 h mv_X10_give ml_X10_138 rfl (fun x hx => A_X10_give (by omega) hx) dX10_family_137 (fun r18 h => ?_)
        obtain rfl := Option.some.inj h
        exact az_ireturn (pc := 140) C dX10_family_140 rfl
      rcases az_ite h with ⟨c3, h⟩ | ⟨c3, h⟩
      · refine az_tswIn (pc := 38) (i := 3) (tgt := 141) C (by exact c3) (by decide) rfl dX10_family_38 (by decide) ?_
        refine az_al0 (pc := 141) C rfl rfl dX10_family_141 ?_
        refine az_al0 (pc := 142) C rfl rfl dX10_family_142 ?_
        refine az_getR (pc := 143) (c2 := 9) C h fl_X10_29 rfl rfl dX10_family_143 (fun h => ?_)
        refine az_il1 (pc := 146) C dX10_family_146 ?_
        refine az_cV1pi (pc := 147) (c := 9) C hd1 h mv_X9_equationsOf ml_X10_160 rfl (fun x hx => A_X9_equationsOf (by omega) n hx) dX10_family_147 (fun r20 h => ?_)
        refine az_cV1ii (pc := 150) (c := 10) C hd1 h mv_X10_give ml_X10_138 rfl (fun x hx => A_X10_give (by omega) hx) dX10_family_150 (fun r21 h => ?_)
        obtain rfl := Option.some.inj h
        exact az_ireturn (pc := 153) C dX10_family_153 rfl
      rcases az_ite h with ⟨c4, h⟩ | ⟨c4, h⟩
      · refine az_tswIn (pc := 38) (i := 4) (tgt := 154) C (by exact c4) (by decide) rfl dX10_family_38 (by decide) ?_
        refine az_al0 (pc := 154) C rfl rfl dX10_family_154 ?_
        refine az_al0 (pc := 155) C rfl rfl dX10_family_155 ?_
        refine az_getR (pc := 156) (c2 := 9) C h fl_X10_29 rfl rfl dX10_family_156 (fun h => ?_)
        refine az_il1 (pc := 159) C dX10_family_159 ?_
        refine az_cV1pi (pc := 160) (c := 9) C hd1 h mv_X9_called ml_X10_163 rfl (fun x hx => A_X9_called (by omega) n hx) dX10_family_160 (fun r23 h => ?_)
        refine az_cV1ii (pc := 163) (c := 10) C hd1 h mv_X10_give ml_X10_138 rfl (fun x hx => A_X10_give (by omega) hx) dX10_family_163 (fun r24 h => ?_)
        obtain rfl := Option.some.inj h
        exact az_ireturn (pc := 166) C dX10_family_166 rfl
      rcases az_ite h with ⟨c5, h⟩ | ⟨c5, h⟩
      · refine az_tswIn (pc := 38) (i := 5) (tgt := 167) C (by exact c5) (by decide) rfl dX10_family_38 (by decide) ?_
        refine az_al0 (pc := 167) C rfl rfl dX10_family_167 ?_
        refine az_al0 (pc := 168) C rfl rfl dX10_family_168 ?_
        refine az_getR (pc := 169) (c2 := 9) C h fl_X10_29 rfl rfl dX10_family_169 (fun h => ?_)
        refine az_il1 (pc := 172) C dX10_family_172 ?_
        refine az_cV1pi (pc := 173) (c := 9) C hd1 h mv_X9_calledAtLast ml_X10_166 rfl (fun x hx => A_X9_calledAtLast (by omega) n hx) dX10_family_173 (fun r26 h => ?_)
        refine az_cV1ii (pc := 176) (c := 10) C hd1 h mv_X10_give ml_X10_138 rfl (fun x hx => A_X10_give (by omega) hx) dX10_family_176 (fun r27 h => ?_)
        obtain rfl := Option.some.inj h
        exact az_ireturn (pc := 179) C dX10_family_179 rfl
      rcases az_ite h with ⟨c6, h⟩ | ⟨c6, h⟩
      · refine az_tswIn (pc := 38) (i := 6) (tgt := 180) C (by exact c6) (by decide) rfl dX10_family_38 (by decide) ?_
        refine az_al0 (pc := 180) C rfl rfl dX10_family_180 ?_
        refine az_al0 (pc := 181) C rfl rfl dX10_family_181 ?_
        refine az_getR (pc := 182) (c2 := 9) C h fl_X10_29 rfl rfl dX10_family_182 (fun h => ?_)
        refine az_il1 (pc := 185) C dX10_family_185 ?_
        refine az_cV1pi (pc := 186) (c := 9) C hd1 h mv_X9_firstParting ml_X10_169 rfl (fun x hx => A_X9_firstParting (by omega) n hx) dX10_family_186 (fun r29 h => ?_)
        refine az_ikm1 (pc := 189) C dX10_family_189 ?_
        refine az_icmp_ne (pc := 190) (tgt := 197) C h dX10_family_190 (by decide) (fun _ h => ?_) (fun _ h => ?_)
        · refine az_ik0 (pc := 197) C dX10_family_197 ?_
          refine az_cV1ii (pc := 198) (c := 10) C hd1 h mv_X10_give ml_X10_138 rfl (fun x hx => A_X10_give (by omega) hx) dX10_family_198 (fun r30 h => ?_)
          obtain rfl := Option.some.inj h
          exact az_ireturn (pc := 201) C dX10_family_201 rfl
        refine az_ik1 (pc := 193) C dX10_family_193 ?_
        refine az_goto (pc := 194) (tgt := 198) C dX10_family_194 (by decide) ?_
        refine az_cV1ii (pc := 198) (c := 10) C hd1 h mv_X10_give ml_X10_138 rfl (fun x hx => A_X10_give (by omega) hx) dX10_family_198 (fun r31 h => ?_)
        obtain rfl := Option.some.inj h
        exact az_ireturn (pc := 201) C dX10_family_201 rfl
      refine az_tswOut (pc := 38) (tgt := 202) C (by omega) dX10_family_38 (by decide) ?_
      refine az_al0 (pc := 202) C rfl rfl dX10_family_202 ?_
      refine az_al0 (pc := 203) C rfl rfl dX10_family_203 ?_
      refine az_getR (pc := 204) (c2 := 9) C h fl_X10_29 rfl rfl dX10_family_204 (fun h => ?_)
      refine az_il1 (pc := 207) C dX10_family_207 ?_
      refine az_cV1pi (pc := 208) (c := 9) C hd1 h mv_X9_goesBackwards ml_X10_172 rfl (fun x hx => A_X9_goesBackwards (by omega) hx) dX10_family_208 (fun r33 h => ?_)
      refine az_if_eq (pc := 211) (tgt := 218) C h dX10_family_211 (by decide) (fun _ h => ?_) (fun _ h => ?_)
      · refine az_ik0 (pc := 218) C dX10_family_218 ?_
        refine az_cV1ii (pc := 219) (c := 10) C hd1 h mv_X10_give ml_X10_138 rfl (fun x hx => A_X10_give (by omega) hx) dX10_family_219 (fun r34 h => ?_)
        obtain rfl := Option.some.inj h
        exact az_ireturn (pc := 222) C dX10_family_222 rfl
      refine az_ik1 (pc := 214) C dX10_family_214 ?_
      refine az_goto (pc := 215) (tgt := 219) C dX10_family_215 (by decide) ?_
      refine az_cV1ii (pc := 219) (c := 10) C hd1 h mv_X10_give ml_X10_138 rfl (fun x hx => A_X10_give (by omega) hx) dX10_family_219 (fun r35 h => ?_)
      obtain rfl := Option.some.inj h
      exact az_ireturn (pc := 222) C dX10_family_222 rfl
    refine az_al0 (pc := 31) C rfl rfl dX10_family_31 ?_
    refine az_ik2 (pc := 32) C dX10_family_32 ?_
    refine az_cV1ii (pc := 33) (c := 10) C hd1 h mv_X10_refuse ml_X10_112 rfl (fun x hx => A_X10_refuse (by omega) hx) dX10_family_33 (fun r36 h => ?_)
    obtain rfl := Option.some.inj h
    exact az_ireturn (pc := 36) C dX10_family_36 rfl
  refine az_al0 (pc := 10) C rfl rfl dX10_family_10 ?_
  refine az_ik1 (pc := 11) C dX10_family_11 ?_
  refine az_cV1ii (pc := 12) (c := 10) C hd1 h mv_X10_refuse ml_X10_112 rfl (fun x hx => A_X10_refuse (by omega) hx) dX10_family_12 (fun r37 h => ?_)
  obtain rfl := Option.some.inj h
  exact az_ireturn (pc := 15) C dX10_family_15 rfl
set_option maxRecDepth 10000 in
set_option maxHeartbeats 4000000 in
theorem A_X10_family {l : Launch} {d : Nat} (hD : 4 ≤ d) (n : Nat) {σ : az_Hp} {v0 v1 v2 : Int} {r : (Int × az_Hp)} (h : fz_X10_family n σ v0 v1 v2 = some r) : az_AC l yX10_family cX10_family 3 (some .int) d [(12, v0), (0, v1), (0, v2)] σ (some (0, r.1), r.2) := az_AC.of mt_X10_family rfl rfl rfl (fun Z hZ C => A_X10_family_e C hD n h)
theorem dX10_fault_0 : decode cX10_fault 0 = .ok (.iload_n 1, 1) := by decide +kernel
theorem dX10_fault_1 : decode cX10_fault 1 = .ok (.ifCond .ne 10, 3) := by decide +kernel
theorem dX10_fault_4 : decode cX10_fault 4 = .ok (.aload_n 0, 1) := by decide +kernel
theorem dX10_fault_5 : decode cX10_fault 5 = .ok (.getfield 20, 3) := by decide +kernel
theorem dX10_fault_8 : decode cX10_fault 8 = .ok (.goto 16, 3) := by decide +kernel
theorem dX10_fault_11 : decode cX10_fault 11 = .ok (.iload_n 1, 1) := by decide +kernel
theorem dX10_fault_12 : decode cX10_fault 12 = .ok (.iconst 1, 1) := by decide +kernel
theorem dX10_fault_13 : decode cX10_fault 13 = .ok (.if_icmp .ne 10, 3) := by decide +kernel
theorem dX10_fault_16 : decode cX10_fault 16 = .ok (.aload_n 0, 1) := by decide +kernel
theorem dX10_fault_17 : decode cX10_fault 17 = .ok (.getfield 23, 3) := by decide +kernel
theorem dX10_fault_20 : decode cX10_fault 20 = .ok (.goto 4, 3) := by decide +kernel
theorem dX10_fault_23 : decode cX10_fault 23 = .ok (.iconst (-1), 1) := by decide +kernel
theorem dX10_fault_24 : decode cX10_fault 24 = .ok (.ireturn, 1) := by decide +kernel
set_option maxRecDepth 10000 in
set_option maxHeartbeats 4000000 in
theorem A_X10_fault_e {Z : az_Z} {d : Nat} (C : az_C Z yX10_fault cX10_fault 2 (some .int) d) (hD : 1 ≤ d) {σ : az_Hp} {v0 v1 : Int} {r : Int} (h : fz_X10_fault σ v0 v1 = some r) : az_AW Z 2 0 [(12, v0), (0, v1)] [] σ (some (0, r), σ) := by
  have hd1 : 1 ≤ d := by omega
  unfold fz_X10_fault at h
  refine az_il1 (pc := 0) C dX10_fault_0 ?_
  refine az_if_ne (pc := 1) (tgt := 11) C h dX10_fault_1 (by decide) (fun _ h => ?_) (fun _ h => ?_)
  · refine az_il1 (pc := 11) C dX10_fault_11 ?_
    refine az_ik1 (pc := 12) C dX10_fault_12 ?_
    refine az_icmp_ne (pc := 13) (tgt := 23) C h dX10_fault_13 (by decide) (fun _ h => ?_) (fun _ h => ?_)
    · refine az_ikm1 (pc := 23) C dX10_fault_23 ?_
      obtain rfl := Option.some.inj h
      exact az_ireturn (pc := 24) C dX10_fault_24 rfl
    refine az_al0 (pc := 16) C rfl rfl dX10_fault_16 ?_
    refine az_getI (pc := 17) C fl_X10_23 rfl dX10_fault_17 ?_
    refine az_goto (pc := 20) (tgt := 24) C dX10_fault_20 (by decide) ?_
    obtain rfl := Option.some.inj h
    exact az_ireturn (pc := 24) C dX10_fault_24 rfl
  refine az_al0 (pc := 4) C rfl rfl dX10_fault_4 ?_
  refine az_getI (pc := 5) C fl_X10_20 rfl dX10_fault_5 ?_
  refine az_goto (pc := 8) (tgt := 24) C dX10_fault_8 (by decide) ?_
  obtain rfl := Option.some.inj h
  exact az_ireturn (pc := 24) C dX10_fault_24 rfl
set_option maxRecDepth 10000 in
set_option maxHeartbeats 4000000 in
theorem A_X10_fault {l : Launch} {d : Nat} (hD : 1 ≤ d) {σ : az_Hp} {v0 v1 : Int} {r : Int} (h : fz_X10_fault σ v0 v1 = some r) : az_AC l yX10_fault cX10_fault 2 (some .int) d [(12, v0), (0, v1)] σ (some (0, r), σ) := az_AC.of mt_X10_fault rfl rfl rfl (fun Z hZ C => A_X10_fault_e C hD h)
theorem dX10_putInt_0 : decode cX10_putInt 0 = .ok (.bipush 24, 2) := by decide +kernel
theorem dX10_putInt_2 : decode cX10_putInt 2 = .ok (.istore_n 2, 1) := by decide +kernel
theorem dX10_putInt_3 : decode cX10_putInt 3 = .ok (.iload_n 2, 1) := by decide +kernel
theorem dX10_putInt_4 : decode cX10_putInt 4 = .ok (.ifCond .lt 45, 3) := by decide +kernel
theorem dX10_putInt_7 : decode cX10_putInt 7 = .ok (.aload_n 0, 1) := by decide +kernel
theorem dX10_putInt_8 : decode cX10_putInt 8 = .ok (.getfield 13, 3) := by decide +kernel
theorem dX10_putInt_11 : decode cX10_putInt 11 = .ok (.sipush 900, 3) := by decide +kernel
theorem dX10_putInt_14 : decode cX10_putInt 14 = .ok (.if_icmp .ge 35, 3) := by decide +kernel
theorem dX10_putInt_17 : decode cX10_putInt 17 = .ok (.aload_n 0, 1) := by decide +kernel
theorem dX10_putInt_18 : decode cX10_putInt 18 = .ok (.getfield 9, 3) := by decide +kernel
theorem dX10_putInt_21 : decode cX10_putInt 21 = .ok (.aload_n 0, 1) := by decide +kernel
theorem dX10_putInt_22 : decode cX10_putInt 22 = .ok (.getfield 13, 3) := by decide +kernel
theorem dX10_putInt_25 : decode cX10_putInt 25 = .ok (.iload_n 1, 1) := by decide +kernel
theorem dX10_putInt_26 : decode cX10_putInt 26 = .ok (.iload_n 2, 1) := by decide +kernel
theorem dX10_putInt_27 : decode cX10_putInt 27 = .ok (.iushr, 1) := by decide +kernel
theorem dX10_putInt_28 : decode cX10_putInt 28 = .ok (.sipush 255, 3) := by decide +kernel
theorem dX10_putInt_31 : decode cX10_putInt 31 = .ok (.iand, 1) := by decide +kernel
theorem dX10_putInt_32 : decode cX10_putInt 32 = .ok (.iastore, 1) := by decide +kernel
theorem dX10_putInt_33 : decode cX10_putInt 33 = .ok (.aload_n 0, 1) := by decide +kernel
theorem dX10_putInt_34 : decode cX10_putInt 34 = .ok (.dup, 1) := by decide +kernel
theorem dX10_putInt_35 : decode cX10_putInt 35 = .ok (.getfield 13, 3) := by decide +kernel
theorem dX10_putInt_38 : decode cX10_putInt 38 = .ok (.iconst 1, 1) := by decide +kernel
theorem dX10_putInt_39 : decode cX10_putInt 39 = .ok (.iadd, 1) := by decide +kernel
theorem dX10_putInt_40 : decode cX10_putInt 40 = .ok (.putfield 13, 3) := by decide +kernel
theorem dX10_putInt_43 : decode cX10_putInt 43 = .ok (.iinc 2 (-8), 3) := by decide +kernel
theorem dX10_putInt_46 : decode cX10_putInt 46 = .ok (.goto (-43), 3) := by decide +kernel
theorem dX10_putInt_49 : decode cX10_putInt 49 = .ok (.return_, 1) := by decide +kernel
set_option maxRecDepth 10000 in
set_option maxHeartbeats 4000000 in
theorem A_X10_putInt_3 {Z : az_Z} {d : Nat} (C : az_C Z yX10_putInt cX10_putInt 3 none d) (hD : 1 ≤ d) (n : Nat) (k : Nat) : ∀ {σ : az_Hp} {v0 v1 v2 : Int} {r : az_Hp}, fz_X10_putInt_3 n k σ v0 v1 v2 = some r → az_AW Z 3 3 [(12, v0), (0, v1), (0, v2)] [] σ (none, r) := by
  have hd1 : 1 ≤ d := by omega
  induction k with
  | zero => intro σ v0 v1 v2 r h; simp [fz_X10_putInt_3] at h
  | succ k ih =>
    intro σ v0 v1 v2 r h
    unfold fz_X10_putInt_3 at h
    refine az_il2 (pc := 3) C dX10_putInt_3 ?_
    refine az_if_lt (pc := 4) (tgt := 49) C h dX10_putInt_4 (by decide) (fun _ h => ?_) (fun _ h => ?_)
    · obtain rfl := Option.some.inj h
      exact az_return (pc := 49) C dX10_putInt_49 rfl
    refine az_al0 (pc := 7) C rfl rfl dX10_putInt_7 ?_
    refine az_getI (pc := 8) C fl_X10_13 rfl dX10_putInt_8 ?_
    refine az_sk900 (pc := 11) C dX10_putInt_11 ?_
    refine az_icmp_ge (pc := 14) (tgt := 49) C h dX10_putInt_14 (by decide) (fun _ h => ?_) (fun _ h => ?_)
    · obtain rfl := Option.some.inj h
      exact az_return (pc := 49) C dX10_putInt_49 rfl
    refine az_al0 (pc := 17) C rfl rfl dX10_putInt_17 ?_
    refine az_getR (pc := 18) (c2 := 13) C h fl_X10_9 rfl rfl dX10_putInt_18 (fun h => ?_)
    refine az_al0 (pc := 21) C rfl rfl dX10_putInt_21 ?_
    refine az_getI (pc := 22) C fl_X10_13 rfl dX10_putInt_22 ?_
    refine az_il1 (pc := 25) C dX10_putInt_25 ?_
    refine az_il2 (pc := 26) C dX10_putInt_26 ?_
    refine az_iushr (pc := 27) C dX10_putInt_27 ?_
    refine az_sk255 (pc := 28) C dX10_putInt_28 ?_
    refine az_iand (pc := 31) C dX10_putInt_31 ?_
    refine az_iastore (pc := 32) C h dX10_putInt_32 (fun h => ?_)
    refine az_al0 (pc := 33) C rfl rfl dX10_putInt_33 ?_
    refine az_dup (pc := 34) C rfl rfl dX10_putInt_34 ?_
    refine az_getI (pc := 35) C fl_X10_13 rfl dX10_putInt_35 ?_
    refine az_ik1 (pc := 38) C dX10_putInt_38 ?_
    refine az_iadd (pc := 39) C dX10_putInt_39 ?_
    refine az_putI (pc := 40) C fl_X10_13 (Or.inl rfl) rfl dX10_putInt_40 ?_
    refine az_ii2 (pc := 43) C az_nm8 rfl rfl dX10_putInt_43 ?_
    refine az_goto (pc := 46) (tgt := 3) C dX10_putInt_46 (by decide) ?_
    exact (ih h)
set_option maxRecDepth 10000 in
set_option maxHeartbeats 4000000 in
theorem A_X10_putInt_e {Z : az_Z} {d : Nat} (C : az_C Z yX10_putInt cX10_putInt 3 none d) (hD : 1 ≤ d) (n : Nat) {σ : az_Hp} {v0 v1 : Int} {r : az_Hp} (h : fz_X10_putInt n σ v0 v1 = some r) : az_AW Z 3 0 [(12, v0), (0, v1), (31, 0)] [] σ (none, r) := by
  have hd1 : 1 ≤ d := by omega
  unfold fz_X10_putInt at h
  refine az_bk24 (pc := 0) C dX10_putInt_0 ?_
  refine az_is2 (pc := 2) C rfl rfl dX10_putInt_2 ?_
  exact (A_X10_putInt_3 C hD n n h)
set_option maxRecDepth 10000 in
set_option maxHeartbeats 4000000 in
theorem A_X10_putInt {l : Launch} {d : Nat} (hD : 1 ≤ d) (n : Nat) {σ : az_Hp} {v0 v1 : Int} {r : az_Hp} (h : fz_X10_putInt n σ v0 v1 = some r) : az_AC l yX10_putInt cX10_putInt 3 none d [(12, v0), (0, v1)] σ (none, r) := az_AC.of mt_X10_putInt rfl rfl rfl (fun Z hZ C => A_X10_putInt_e C hD n h)
theorem dX10_feed_0 : decode cX10_feed 0 = .ok (.aload_n 0, 1) := by decide +kernel
theorem dX10_feed_1 : decode cX10_feed 1 = .ok (.getfield 13, 3) := by decide +kernel
theorem dX10_feed_4 : decode cX10_feed 4 = .ok (.bipush 20, 2) := by decide +kernel
theorem dX10_feed_6 : decode cX10_feed 6 = .ok (.iadd, 1) := by decide +kernel
theorem dX10_feed_7 : decode cX10_feed 7 = .ok (.sipush 900, 3) := by decide +kernel
theorem dX10_feed_10 : decode cX10_feed 10 = .ok (.if_icmp .le 5, 3) := by decide +kernel
theorem dX10_feed_13 : decode cX10_feed 13 = .ok (.iconst (-1), 1) := by decide +kernel
theorem dX10_feed_14 : decode cX10_feed 14 = .ok (.ireturn, 1) := by decide +kernel
theorem dX10_feed_15 : decode cX10_feed 15 = .ok (.aload_n 0, 1) := by decide +kernel
theorem dX10_feed_16 : decode cX10_feed 16 = .ok (.iload_n 1, 1) := by decide +kernel
theorem dX10_feed_17 : decode cX10_feed 17 = .ok (.invokevirtual 109, 3) := by decide +kernel
theorem dX10_feed_20 : decode cX10_feed 20 = .ok (.aload_n 0, 1) := by decide +kernel
theorem dX10_feed_21 : decode cX10_feed 21 = .ok (.iload_n 2, 1) := by decide +kernel
theorem dX10_feed_22 : decode cX10_feed 22 = .ok (.invokevirtual 109, 3) := by decide +kernel
theorem dX10_feed_25 : decode cX10_feed 25 = .ok (.aload_n 0, 1) := by decide +kernel
theorem dX10_feed_26 : decode cX10_feed 26 = .ok (.iload_n 3, 1) := by decide +kernel
theorem dX10_feed_27 : decode cX10_feed 27 = .ok (.invokevirtual 109, 3) := by decide +kernel
theorem dX10_feed_30 : decode cX10_feed 30 = .ok (.aload_n 0, 1) := by decide +kernel
theorem dX10_feed_31 : decode cX10_feed 31 = .ok (.iload 4, 2) := by decide +kernel
theorem dX10_feed_33 : decode cX10_feed 33 = .ok (.invokevirtual 109, 3) := by decide +kernel
theorem dX10_feed_36 : decode cX10_feed 36 = .ok (.aload_n 0, 1) := by decide +kernel
theorem dX10_feed_37 : decode cX10_feed 37 = .ok (.iload 5, 2) := by decide +kernel
theorem dX10_feed_39 : decode cX10_feed 39 = .ok (.invokevirtual 109, 3) := by decide +kernel
theorem dX10_feed_42 : decode cX10_feed 42 = .ok (.aload_n 0, 1) := by decide +kernel
theorem dX10_feed_43 : decode cX10_feed 43 = .ok (.getfield 13, 3) := by decide +kernel
theorem dX10_feed_46 : decode cX10_feed 46 = .ok (.ireturn, 1) := by decide +kernel
set_option maxRecDepth 10000 in
set_option maxHeartbeats 4000000 in
theorem A_X10_feed_e {Z : az_Z} {d : Nat} (C : az_C Z yX10_feed cX10_feed 6 (some .int) d) (hD : 2 ≤ d) (n : Nat) {σ : az_Hp} {v0 v1 v2 v3 v4 v5 : Int} {r : (Int × az_Hp)} (h : fz_X10_feed n σ v0 v1 v2 v3 v4 v5 = some r) : az_AW Z 6 0 [(12, v0), (0, v1), (0, v2), (0, v3), (0, v4), (0, v5)] [] σ (some (0, r.1), r.2) := by
  have hd1 : 1 ≤ d := by omega
  unfold fz_X10_feed at h
  refine az_al0 (pc := 0) C rfl rfl dX10_feed_0 ?_
  refine az_getI (pc := 1) C fl_X10_13 rfl dX10_feed_1 ?_
  refine az_bk20 (pc := 4) C dX10_feed_4 ?_
  refine az_iadd (pc := 6) C dX10_feed_6 ?_
  refine az_sk900 (pc := 7) C dX10_feed_7 ?_
  refine az_icmp_le (pc := 10) (tgt := 15) C h dX10_feed_10 (by decide) (fun _ h => ?_) (fun _ h => ?_)
  · refine az_al0 (pc := 15) C rfl rfl dX10_feed_15 ?_
    refine az_il1 (pc := 16) C dX10_feed_16 ?_
    refine az_cV1v (pc := 17) (c := 10) C hd1 h mv_X10_putInt ml_X10_109 rfl (fun x hx => A_X10_putInt (by omega) n hx) dX10_feed_17 (fun r1 h => ?_)
    refine az_al0 (pc := 20) C rfl rfl dX10_feed_20 ?_
    refine az_il2 (pc := 21) C dX10_feed_21 ?_
    refine az_cV1v (pc := 22) (c := 10) C hd1 h mv_X10_putInt ml_X10_109 rfl (fun x hx => A_X10_putInt (by omega) n hx) dX10_feed_22 (fun r2 h => ?_)
    refine az_al0 (pc := 25) C rfl rfl dX10_feed_25 ?_
    refine az_il3 (pc := 26) C dX10_feed_26 ?_
    refine az_cV1v (pc := 27) (c := 10) C hd1 h mv_X10_putInt ml_X10_109 rfl (fun x hx => A_X10_putInt (by omega) n hx) dX10_feed_27 (fun r3 h => ?_)
    refine az_al0 (pc := 30) C rfl rfl dX10_feed_30 ?_
    refine az_il4 (pc := 31) C dX10_feed_31 ?_
    refine az_cV1v (pc := 33) (c := 10) C hd1 h mv_X10_putInt ml_X10_109 rfl (fun x hx => A_X10_putInt (by omega) n hx) dX10_feed_33 (fun r4 h => ?_)
    refine az_al0 (pc := 36) C rfl rfl dX10_feed_36 ?_
    refine az_il5 (pc := 37) C dX10_feed_37 ?_
    refine az_cV1v (pc := 39) (c := 10) C hd1 h mv_X10_putInt ml_X10_109 rfl (fun x hx => A_X10_putInt (by omega) n hx) dX10_feed_39 (fun r5 h => ?_)
    refine az_al0 (pc := 42) C rfl rfl dX10_feed_42 ?_
    refine az_getI (pc := 43) C fl_X10_13 rfl dX10_feed_43 ?_
    obtain rfl := Option.some.inj h
    exact az_ireturn (pc := 46) C dX10_feed_46 rfl
  refine az_ikm1 (pc := 13) C dX10_feed_13 ?_
  obtain rfl := Option.some.inj h
  exact az_ireturn (pc := 14) C dX10_feed_14 rfl
set_option maxRecDepth 10000 in
set_option maxHeartbeats 4000000 in
theorem A_X10_feed {l : Launch} {d : Nat} (hD : 2 ≤ d) (n : Nat) {σ : az_Hp} {v0 v1 v2 v3 v4 v5 : Int} {r : (Int × az_Hp)} (h : fz_X10_feed n σ v0 v1 v2 v3 v4 v5 = some r) : az_AC l yX10_feed cX10_feed 6 (some .int) d [(12, v0), (0, v1), (0, v2), (0, v3), (0, v4), (0, v5)] σ (some (0, r.1), r.2) := az_AC.of mt_X10_feed rfl rfl rfl (fun Z hZ C => A_X10_feed_e C hD n h)
theorem dX0_init_0 : decode cX0_init 0 = .ok (.aload_n 0, 1) := by decide +kernel
theorem dX0_init_1 : decode cX0_init 1 = .ok (.invokespecial 3, 3) := by decide +kernel
theorem dX0_init_4 : decode cX0_init 4 = .ok (.aload_n 0, 1) := by decide +kernel
theorem dX0_init_5 : decode cX0_init 5 = .ok (.iconst 0, 1) := by decide +kernel
theorem dX0_init_6 : decode cX0_init 6 = .ok (.putfield 9, 3) := by decide +kernel
theorem dX0_init_9 : decode cX0_init 9 = .ok (.aload_n 0, 1) := by decide +kernel
theorem dX0_init_10 : decode cX0_init 10 = .ok (.sipush 128, 3) := by decide +kernel
theorem dX0_init_13 : decode cX0_init 13 = .ok (.newarray .int, 2) := by decide +kernel
theorem dX0_init_15 : decode cX0_init 15 = .ok (.putfield 15, 3) := by decide +kernel
theorem dX0_init_18 : decode cX0_init 18 = .ok (.aload_n 0, 1) := by decide +kernel
theorem dX0_init_19 : decode cX0_init 19 = .ok (.sipush 128, 3) := by decide +kernel
theorem dX0_init_22 : decode cX0_init 22 = .ok (.newarray .int, 2) := by decide +kernel
theorem dX0_init_24 : decode cX0_init 24 = .ok (.putfield 19, 3) := by decide +kernel
theorem dX0_init_27 : decode cX0_init 27 = .ok (.aload_n 0, 1) := by decide +kernel
theorem dX0_init_28 : decode cX0_init 28 = .ok (.sipush 128, 3) := by decide +kernel
theorem dX0_init_31 : decode cX0_init 31 = .ok (.newarray .int, 2) := by decide +kernel
theorem dX0_init_33 : decode cX0_init 33 = .ok (.putfield 22, 3) := by decide +kernel
theorem dX0_init_36 : decode cX0_init 36 = .ok (.aload_n 0, 1) := by decide +kernel
theorem dX0_init_37 : decode cX0_init 37 = .ok (.sipush 128, 3) := by decide +kernel
theorem dX0_init_40 : decode cX0_init 40 = .ok (.newarray .int, 2) := by decide +kernel
theorem dX0_init_42 : decode cX0_init 42 = .ok (.putfield 25, 3) := by decide +kernel
theorem dX0_init_45 : decode cX0_init 45 = .ok (.aload_n 0, 1) := by decide +kernel
theorem dX0_init_46 : decode cX0_init 46 = .ok (.sipush 128, 3) := by decide +kernel
theorem dX0_init_49 : decode cX0_init 49 = .ok (.newarray .int, 2) := by decide +kernel
theorem dX0_init_51 : decode cX0_init 51 = .ok (.putfield 28, 3) := by decide +kernel
theorem dX0_init_54 : decode cX0_init 54 = .ok (.aload_n 0, 1) := by decide +kernel
theorem dX0_init_55 : decode cX0_init 55 = .ok (.sipush 128, 3) := by decide +kernel
theorem dX0_init_58 : decode cX0_init 58 = .ok (.newarray .boolean, 2) := by decide +kernel
theorem dX0_init_60 : decode cX0_init 60 = .ok (.putfield 31, 3) := by decide +kernel
theorem dX0_init_63 : decode cX0_init 63 = .ok (.aload_n 0, 1) := by decide +kernel
theorem dX0_init_64 : decode cX0_init 64 = .ok (.sipush 384, 3) := by decide +kernel
theorem dX0_init_67 : decode cX0_init 67 = .ok (.newarray .int, 2) := by decide +kernel
theorem dX0_init_69 : decode cX0_init 69 = .ok (.putfield 35, 3) := by decide +kernel
theorem dX0_init_72 : decode cX0_init 72 = .ok (.aload_n 0, 1) := by decide +kernel
theorem dX0_init_73 : decode cX0_init 73 = .ok (.sipush 1024, 3) := by decide +kernel
theorem dX0_init_76 : decode cX0_init 76 = .ok (.newarray .int, 2) := by decide +kernel
theorem dX0_init_78 : decode cX0_init 78 = .ok (.putfield 38, 3) := by decide +kernel
theorem dX0_init_81 : decode cX0_init 81 = .ok (.aload_n 0, 1) := by decide +kernel
theorem dX0_init_82 : decode cX0_init 82 = .ok (.sipush 128, 3) := by decide +kernel
theorem dX0_init_85 : decode cX0_init 85 = .ok (.newarray .int, 2) := by decide +kernel
theorem dX0_init_87 : decode cX0_init 87 = .ok (.putfield 41, 3) := by decide +kernel
theorem dX0_init_90 : decode cX0_init 90 = .ok (.aload_n 0, 1) := by decide +kernel
theorem dX0_init_91 : decode cX0_init 91 = .ok (.sipush 128, 3) := by decide +kernel
theorem dX0_init_94 : decode cX0_init 94 = .ok (.newarray .int, 2) := by decide +kernel
theorem dX0_init_96 : decode cX0_init 96 = .ok (.putfield 44, 3) := by decide +kernel
theorem dX0_init_99 : decode cX0_init 99 = .ok (.return_, 1) := by decide +kernel
set_option maxRecDepth 10000 in
set_option maxHeartbeats 4000000 in
theorem A_X0_init_e {Z : az_Z} {d : Nat} (C : az_C Z yX0_init cX0_init 1 none d) (hD : 2 ≤ d) {σ : az_Hp} {v0 : Int} {r : az_Hp} (h : fz_X0_init σ v0 = some r) : az_AW Z 1 0 [(2, v0)] [] σ (none, r) := by
  have hd1 : 1 ≤ d := by omega
  unfold fz_X0_init at h
  refine az_al0 (pc := 0) C rfl rfl dX0_init_0 ?_
  refine az_objInit (pc := 1) C hd1 rfl ml_X0_3 az_w_obi az_w_obc rfl dX0_init_1 ?_
  refine az_al0 (pc := 4) C rfl rfl dX0_init_4 ?_
  refine az_ik0 (pc := 5) C dX0_init_5 ?_
  refine az_putI (pc := 6) C fl_X0_9 (Or.inl rfl) rfl dX0_init_6 ?_
  refine az_al0 (pc := 9) C rfl rfl dX0_init_9 ?_
  refine az_sk128 (pc := 10) C dX0_init_10 ?_
  refine az_newa (pc := 13) (at_ := .int) (ty := .int) C h rfl (by decide) az_ac_int dX0_init_13 (fun h => ?_)
  refine az_putR (pc := 15) (c2 := 13) C fl_X0_15 (Or.inr ⟨rfl, _, _, rfl⟩) rfl rfl rfl dX0_init_15 ?_
  refine az_al0 (pc := 18) C rfl rfl dX0_init_18 ?_
  refine az_sk128 (pc := 19) C dX0_init_19 ?_
  refine az_newa (pc := 22) (at_ := .int) (ty := .int) C h rfl (by decide) az_ac_int dX0_init_22 (fun h => ?_)
  refine az_putR (pc := 24) (c2 := 13) C fl_X0_19 (Or.inr ⟨rfl, _, _, rfl⟩) rfl rfl rfl dX0_init_24 ?_
  refine az_al0 (pc := 27) C rfl rfl dX0_init_27 ?_
  refine az_sk128 (pc := 28) C dX0_init_28 ?_
  refine az_newa (pc := 31) (at_ := .int) (ty := .int) C h rfl (by decide) az_ac_int dX0_init_31 (fun h => ?_)
  refine az_putR (pc := 33) (c2 := 13) C fl_X0_22 (Or.inr ⟨rfl, _, _, rfl⟩) rfl rfl rfl dX0_init_33 ?_
  refine az_al0 (pc := 36) C rfl rfl dX0_init_36 ?_
  refine az_sk128 (pc := 37) C dX0_init_37 ?_
  refine az_newa (pc := 40) (at_ := .int) (ty := .int) C h rfl (by decide) az_ac_int dX0_init_40 (fun h => ?_)
  refine az_putR (pc := 42) (c2 := 13) C fl_X0_25 (Or.inr ⟨rfl, _, _, rfl⟩) rfl rfl rfl dX0_init_42 ?_
  refine az_al0 (pc := 45) C rfl rfl dX0_init_45 ?_
  refine az_sk128 (pc := 46) C dX0_init_46 ?_
  refine az_newa (pc := 49) (at_ := .int) (ty := .int) C h rfl (by decide) az_ac_int dX0_init_49 (fun h => ?_)
  refine az_putR (pc := 51) (c2 := 13) C fl_X0_28 (Or.inr ⟨rfl, _, _, rfl⟩) rfl rfl rfl dX0_init_51 ?_
  refine az_al0 (pc := 54) C rfl rfl dX0_init_54 ?_
  refine az_sk128 (pc := 55) C dX0_init_55 ?_
  refine az_newa (pc := 58) (at_ := .boolean) (ty := .boolean) C h rfl (by decide) az_ac_boolean dX0_init_58 (fun h => ?_)
  refine az_putR (pc := 60) (c2 := 15) C fl_X0_31 (Or.inr ⟨rfl, _, _, rfl⟩) rfl rfl rfl dX0_init_60 ?_
  refine az_al0 (pc := 63) C rfl rfl dX0_init_63 ?_
  refine az_sk384 (pc := 64) C dX0_init_64 ?_
  refine az_newa (pc := 67) (at_ := .int) (ty := .int) C h rfl (by decide) az_ac_int dX0_init_67 (fun h => ?_)
  refine az_putR (pc := 69) (c2 := 13) C fl_X0_35 (Or.inr ⟨rfl, _, _, rfl⟩) rfl rfl rfl dX0_init_69 ?_
  refine az_al0 (pc := 72) C rfl rfl dX0_init_72 ?_
  refine az_sk1024 (pc := 73) C dX0_init_73 ?_
  refine az_newa (pc := 76) (at_ := .int) (ty := .int) C h rfl (by decide) az_ac_int dX0_init_76 (fun h => ?_)
  refine az_putR (pc := 78) (c2 := 13) C fl_X0_38 (Or.inr ⟨rfl, _, _, rfl⟩) rfl rfl rfl dX0_init_78 ?_
  refine az_al0 (pc := 81) C rfl rfl dX0_init_81 ?_
  refine az_sk128 (pc := 82) C dX0_init_82 ?_
  refine az_newa (pc := 85) (at_ := .int) (ty := .int) C h rfl (by decide) az_ac_int dX0_init_85 (fun h => ?_)
  refine az_putR (pc := 87) (c2 := 13) C fl_X0_41 (Or.inr ⟨rfl, _, _, rfl⟩) rfl rfl rfl dX0_init_87 ?_
  refine az_al0 (pc := 90) C rfl rfl dX0_init_90 ?_
  refine az_sk128 (pc := 91) C dX0_init_91 ?_
  refine az_newa (pc := 94) (at_ := .int) (ty := .int) C h rfl (by decide) az_ac_int dX0_init_94 (fun h => ?_)
  refine az_putR (pc := 96) (c2 := 13) C fl_X0_44 (Or.inr ⟨rfl, _, _, rfl⟩) rfl rfl rfl dX0_init_96 ?_
  obtain rfl := Option.some.inj h
  exact az_return (pc := 99) C dX0_init_99 rfl
set_option maxRecDepth 10000 in
set_option maxHeartbeats 4000000 in
theorem A_X0_init {l : Launch} {d : Nat} (hD : 2 ≤ d) {σ : az_Hp} {v0 : Int} {r : az_Hp} (h : fz_X0_init σ v0 = some r) : az_AC l yX0_init cX0_init 1 none d [(2, v0)] σ (none, r) := az_AC.of mt_X0_init rfl rfl rfl (fun Z hZ C => A_X0_init_e C hD h)
theorem dX1_init_0 : decode cX1_init 0 = .ok (.aload_n 0, 1) := by decide +kernel
theorem dX1_init_1 : decode cX1_init 1 = .ok (.invokespecial 3, 3) := by decide +kernel
theorem dX1_init_4 : decode cX1_init 4 = .ok (.aload_n 0, 1) := by decide +kernel
theorem dX1_init_5 : decode cX1_init 5 = .ok (.iconst (-1), 1) := by decide +kernel
theorem dX1_init_6 : decode cX1_init 6 = .ok (.putfield 9, 3) := by decide +kernel
theorem dX1_init_9 : decode cX1_init 9 = .ok (.aload_n 0, 1) := by decide +kernel
theorem dX1_init_10 : decode cX1_init 10 = .ok (.aload_n 1, 1) := by decide +kernel
theorem dX1_init_11 : decode cX1_init 11 = .ok (.putfield 15, 3) := by decide +kernel
theorem dX1_init_14 : decode cX1_init 14 = .ok (.return_, 1) := by decide +kernel
set_option maxRecDepth 10000 in
set_option maxHeartbeats 4000000 in
theorem A_X1_init_e {Z : az_Z} {d : Nat} (C : az_C Z yX1_init cX1_init 2 none d) (hD : 2 ≤ d) {σ : az_Hp} {v0 v1 : Int} {r : az_Hp} (h : fz_X1_init σ v0 v1 = some r) : az_AW Z 2 0 [(3, v0), (2, v1)] [] σ (none, r) := by
  have hd1 : 1 ≤ d := by omega
  unfold fz_X1_init at h
  refine az_al0 (pc := 0) C rfl rfl dX1_init_0 ?_
  refine az_objInit (pc := 1) C hd1 rfl ml_X1_3 az_w_obi az_w_obc rfl dX1_init_1 ?_
  refine az_al0 (pc := 4) C rfl rfl dX1_init_4 ?_
  refine az_ikm1 (pc := 5) C dX1_init_5 ?_
  refine az_putI (pc := 6) C fl_X1_9 (Or.inl rfl) rfl dX1_init_6 ?_
  refine az_al0 (pc := 9) C rfl rfl dX1_init_9 ?_
  refine az_al1 (pc := 10) C rfl rfl dX1_init_10 ?_
  refine az_putR (pc := 11) (c2 := 0) C fl_X1_15 (Or.inr ⟨rfl, _, _, rfl⟩) rfl rfl rfl dX1_init_11 ?_
  obtain rfl := Option.some.inj h
  exact az_return (pc := 14) C dX1_init_14 rfl
set_option maxRecDepth 10000 in
set_option maxHeartbeats 4000000 in
theorem A_X1_init {l : Launch} {d : Nat} (hD : 2 ≤ d) {σ : az_Hp} {v0 v1 : Int} {r : az_Hp} (h : fz_X1_init σ v0 v1 = some r) : az_AC l yX1_init cX1_init 2 none d [(3, v0), (2, v1)] σ (none, r) := az_AC.of mt_X1_init rfl rfl rfl (fun Z hZ C => A_X1_init_e C hD h)
theorem dX3_init_0 : decode cX3_init 0 = .ok (.aload_n 0, 1) := by decide +kernel
theorem dX3_init_1 : decode cX3_init 1 = .ok (.invokespecial 3, 3) := by decide +kernel
theorem dX3_init_4 : decode cX3_init 4 = .ok (.aload_n 0, 1) := by decide +kernel
theorem dX3_init_5 : decode cX3_init 5 = .ok (.iconst 0, 1) := by decide +kernel
theorem dX3_init_6 : decode cX3_init 6 = .ok (.putfield 9, 3) := by decide +kernel
theorem dX3_init_9 : decode cX3_init 9 = .ok (.aload_n 0, 1) := by decide +kernel
theorem dX3_init_10 : decode cX3_init 10 = .ok (.sipush 1024, 3) := by decide +kernel
theorem dX3_init_13 : decode cX3_init 13 = .ok (.newarray .int, 2) := by decide +kernel
theorem dX3_init_15 : decode cX3_init 15 = .ok (.putfield 15, 3) := by decide +kernel
theorem dX3_init_18 : decode cX3_init 18 = .ok (.aload_n 0, 1) := by decide +kernel
theorem dX3_init_19 : decode cX3_init 19 = .ok (.sipush 1024, 3) := by decide +kernel
theorem dX3_init_22 : decode cX3_init 22 = .ok (.newarray .int, 2) := by decide +kernel
theorem dX3_init_24 : decode cX3_init 24 = .ok (.putfield 19, 3) := by decide +kernel
theorem dX3_init_27 : decode cX3_init 27 = .ok (.return_, 1) := by decide +kernel
set_option maxRecDepth 10000 in
set_option maxHeartbeats 4000000 in
theorem A_X3_init_e {Z : az_Z} {d : Nat} (C : az_C Z yX3_init cX3_init 1 none d) (hD : 2 ≤ d) {σ : az_Hp} {v0 : Int} {r : az_Hp} (h : fz_X3_init σ v0 = some r) : az_AW Z 1 0 [(5, v0)] [] σ (none, r) := by
  have hd1 : 1 ≤ d := by omega
  unfold fz_X3_init at h
  refine az_al0 (pc := 0) C rfl rfl dX3_init_0 ?_
  refine az_objInit (pc := 1) C hd1 rfl ml_X3_3 az_w_obi az_w_obc rfl dX3_init_1 ?_
  refine az_al0 (pc := 4) C rfl rfl dX3_init_4 ?_
  refine az_ik0 (pc := 5) C dX3_init_5 ?_
  refine az_putI (pc := 6) C fl_X3_9 (Or.inl rfl) rfl dX3_init_6 ?_
  refine az_al0 (pc := 9) C rfl rfl dX3_init_9 ?_
  refine az_sk1024 (pc := 10) C dX3_init_10 ?_
  refine az_newa (pc := 13) (at_ := .int) (ty := .int) C h rfl (by decide) az_ac_int dX3_init_13 (fun h => ?_)
  refine az_putR (pc := 15) (c2 := 13) C fl_X3_15 (Or.inl rfl) rfl rfl rfl dX3_init_15 ?_
  refine az_al0 (pc := 18) C rfl rfl dX3_init_18 ?_
  refine az_sk1024 (pc := 19) C dX3_init_19 ?_
  refine az_newa (pc := 22) (at_ := .int) (ty := .int) C h rfl (by decide) az_ac_int dX3_init_22 (fun h => ?_)
  refine az_putR (pc := 24) (c2 := 13) C fl_X3_19 (Or.inr ⟨rfl, _, _, rfl⟩) rfl rfl rfl dX3_init_24 ?_
  obtain rfl := Option.some.inj h
  exact az_return (pc := 27) C dX3_init_27 rfl
set_option maxRecDepth 10000 in
set_option maxHeartbeats 4000000 in
theorem A_X3_init {l : Launch} {d : Nat} (hD : 2 ≤ d) {σ : az_Hp} {v0 : Int} {r : az_Hp} (h : fz_X3_init σ v0 = some r) : az_AC l yX3_init cX3_init 1 none d [(5, v0)] σ (none, r) := az_AC.of mt_X3_init rfl rfl rfl (fun Z hZ C => A_X3_init_e C hD h)
theorem dX2_init_0 : decode cX2_init 0 = .ok (.aload_n 0, 1) := by decide +kernel
theorem dX2_init_1 : decode cX2_init 1 = .ok (.invokespecial 3, 3) := by decide +kernel
theorem dX2_init_4 : decode cX2_init 4 = .ok (.aload_n 0, 1) := by decide +kernel
theorem dX2_init_5 : decode cX2_init 5 = .ok (.sipush 901, 3) := by decide +kernel
theorem dX2_init_8 : decode cX2_init 8 = .ok (.newarray .int, 2) := by decide +kernel
theorem dX2_init_10 : decode cX2_init 10 = .ok (.putfield 9, 3) := by decide +kernel
theorem dX2_init_13 : decode cX2_init 13 = .ok (.aload_n 0, 1) := by decide +kernel
theorem dX2_init_14 : decode cX2_init 14 = .ok (.sipush 901, 3) := by decide +kernel
theorem dX2_init_17 : decode cX2_init 17 = .ok (.newarray .int, 2) := by decide +kernel
theorem dX2_init_19 : decode cX2_init 19 = .ok (.putfield 15, 3) := by decide +kernel
theorem dX2_init_22 : decode cX2_init 22 = .ok (.aload_n 0, 1) := by decide +kernel
theorem dX2_init_23 : decode cX2_init 23 = .ok (.sipush 901, 3) := by decide +kernel
theorem dX2_init_26 : decode cX2_init 26 = .ok (.newarray .int, 2) := by decide +kernel
theorem dX2_init_28 : decode cX2_init 28 = .ok (.putfield 18, 3) := by decide +kernel
theorem dX2_init_31 : decode cX2_init 31 = .ok (.aload_n 0, 1) := by decide +kernel
theorem dX2_init_32 : decode cX2_init 32 = .ok (.iconst 0, 1) := by decide +kernel
theorem dX2_init_33 : decode cX2_init 33 = .ok (.putfield 21, 3) := by decide +kernel
theorem dX2_init_36 : decode cX2_init 36 = .ok (.return_, 1) := by decide +kernel
set_option maxRecDepth 10000 in
set_option maxHeartbeats 4000000 in
theorem A_X2_init_e {Z : az_Z} {d : Nat} (C : az_C Z yX2_init cX2_init 1 none d) (hD : 2 ≤ d) {σ : az_Hp} {v0 : Int} {r : az_Hp} (h : fz_X2_init σ v0 = some r) : az_AW Z 1 0 [(4, v0)] [] σ (none, r) := by
  have hd1 : 1 ≤ d := by omega
  unfold fz_X2_init at h
  refine az_al0 (pc := 0) C rfl rfl dX2_init_0 ?_
  refine az_objInit (pc := 1) C hd1 rfl ml_X2_3 az_w_obi az_w_obc rfl dX2_init_1 ?_
  refine az_al0 (pc := 4) C rfl rfl dX2_init_4 ?_
  refine az_sk901 (pc := 5) C dX2_init_5 ?_
  refine az_newa (pc := 8) (at_ := .int) (ty := .int) C h rfl (by decide) az_ac_int dX2_init_8 (fun h => ?_)
  refine az_putR (pc := 10) (c2 := 13) C fl_X2_9 (Or.inr ⟨rfl, _, _, rfl⟩) rfl rfl rfl dX2_init_10 ?_
  refine az_al0 (pc := 13) C rfl rfl dX2_init_13 ?_
  refine az_sk901 (pc := 14) C dX2_init_14 ?_
  refine az_newa (pc := 17) (at_ := .int) (ty := .int) C h rfl (by decide) az_ac_int dX2_init_17 (fun h => ?_)
  refine az_putR (pc := 19) (c2 := 13) C fl_X2_15 (Or.inr ⟨rfl, _, _, rfl⟩) rfl rfl rfl dX2_init_19 ?_
  refine az_al0 (pc := 22) C rfl rfl dX2_init_22 ?_
  refine az_sk901 (pc := 23) C dX2_init_23 ?_
  refine az_newa (pc := 26) (at_ := .int) (ty := .int) C h rfl (by decide) az_ac_int dX2_init_26 (fun h => ?_)
  refine az_putR (pc := 28) (c2 := 13) C fl_X2_18 (Or.inr ⟨rfl, _, _, rfl⟩) rfl rfl rfl dX2_init_28 ?_
  refine az_al0 (pc := 31) C rfl rfl dX2_init_31 ?_
  refine az_ik0 (pc := 32) C dX2_init_32 ?_
  refine az_putI (pc := 33) C fl_X2_21 (Or.inl rfl) rfl dX2_init_33 ?_
  obtain rfl := Option.some.inj h
  exact az_return (pc := 36) C dX2_init_36 rfl
set_option maxRecDepth 10000 in
set_option maxHeartbeats 4000000 in
theorem A_X2_init {l : Launch} {d : Nat} (hD : 2 ≤ d) {σ : az_Hp} {v0 : Int} {r : az_Hp} (h : fz_X2_init σ v0 = some r) : az_AC l yX2_init cX2_init 1 none d [(4, v0)] σ (none, r) := az_AC.of mt_X2_init rfl rfl rfl (fun Z hZ C => A_X2_init_e C hD h)
theorem dX4_init_0 : decode cX4_init 0 = .ok (.aload_n 0, 1) := by decide +kernel
theorem dX4_init_1 : decode cX4_init 1 = .ok (.invokespecial 3, 3) := by decide +kernel
theorem dX4_init_4 : decode cX4_init 4 = .ok (.aload_n 0, 1) := by decide +kernel
theorem dX4_init_5 : decode cX4_init 5 = .ok (.iconst 0, 1) := by decide +kernel
theorem dX4_init_6 : decode cX4_init 6 = .ok (.putfield 9, 3) := by decide +kernel
theorem dX4_init_9 : decode cX4_init 9 = .ok (.aload_n 0, 1) := by decide +kernel
theorem dX4_init_10 : decode cX4_init 10 = .ok (.iconst (-1), 1) := by decide +kernel
theorem dX4_init_11 : decode cX4_init 11 = .ok (.putfield 15, 3) := by decide +kernel
theorem dX4_init_14 : decode cX4_init 14 = .ok (.aload_n 0, 1) := by decide +kernel
theorem dX4_init_15 : decode cX4_init 15 = .ok (.bipush 12, 2) := by decide +kernel
theorem dX4_init_17 : decode cX4_init 17 = .ok (.newarray .int, 2) := by decide +kernel
theorem dX4_init_19 : decode cX4_init 19 = .ok (.putfield 18, 3) := by decide +kernel
theorem dX4_init_22 : decode cX4_init 22 = .ok (.aload_n 0, 1) := by decide +kernel
theorem dX4_init_23 : decode cX4_init 23 = .ok (.iconst 0, 1) := by decide +kernel
theorem dX4_init_24 : decode cX4_init 24 = .ok (.putfield 22, 3) := by decide +kernel
theorem dX4_init_27 : decode cX4_init 27 = .ok (.aload_n 0, 1) := by decide +kernel
theorem dX4_init_28 : decode cX4_init 28 = .ok (.iconst 0, 1) := by decide +kernel
theorem dX4_init_29 : decode cX4_init 29 = .ok (.putfield 25, 3) := by decide +kernel
theorem dX4_init_32 : decode cX4_init 32 = .ok (.aload_n 0, 1) := by decide +kernel
theorem dX4_init_33 : decode cX4_init 33 = .ok (.iconst 2, 1) := by decide +kernel
theorem dX4_init_34 : decode cX4_init 34 = .ok (.putfield 28, 3) := by decide +kernel
theorem dX4_init_37 : decode cX4_init 37 = .ok (.aload_n 0, 1) := by decide +kernel
theorem dX4_init_38 : decode cX4_init 38 = .ok (.new 31, 3) := by decide +kernel
theorem dX4_init_41 : decode cX4_init 41 = .ok (.dup, 1) := by decide +kernel
theorem dX4_init_42 : decode cX4_init 42 = .ok (.invokespecial 33, 3) := by decide +kernel
theorem dX4_init_45 : decode cX4_init 45 = .ok (.putfield 34, 3) := by decide +kernel
theorem dX4_init_48 : decode cX4_init 48 = .ok (.aload_n 0, 1) := by decide +kernel
theorem dX4_init_49 : decode cX4_init 49 = .ok (.iconst 0, 1) := by decide +kernel
theorem dX4_init_50 : decode cX4_init 50 = .ok (.putfield 38, 3) := by decide +kernel
theorem dX4_init_53 : decode cX4_init 53 = .ok (.aload_n 0, 1) := by decide +kernel
theorem dX4_init_54 : decode cX4_init 54 = .ok (.iconst 0, 1) := by decide +kernel
theorem dX4_init_55 : decode cX4_init 55 = .ok (.putfield 41, 3) := by decide +kernel
theorem dX4_init_58 : decode cX4_init 58 = .ok (.aload_n 0, 1) := by decide +kernel
theorem dX4_init_59 : decode cX4_init 59 = .ok (.iconst 0, 1) := by decide +kernel
theorem dX4_init_60 : decode cX4_init 60 = .ok (.putfield 44, 3) := by decide +kernel
theorem dX4_init_63 : decode cX4_init 63 = .ok (.aload_n 0, 1) := by decide +kernel
theorem dX4_init_64 : decode cX4_init 64 = .ok (.iconst 0, 1) := by decide +kernel
theorem dX4_init_65 : decode cX4_init 65 = .ok (.putfield 47, 3) := by decide +kernel
theorem dX4_init_68 : decode cX4_init 68 = .ok (.aload_n 0, 1) := by decide +kernel
theorem dX4_init_69 : decode cX4_init 69 = .ok (.bipush 60, 2) := by decide +kernel
theorem dX4_init_71 : decode cX4_init 71 = .ok (.newarray .int, 2) := by decide +kernel
theorem dX4_init_73 : decode cX4_init 73 = .ok (.putfield 50, 3) := by decide +kernel
theorem dX4_init_76 : decode cX4_init 76 = .ok (.aload_n 0, 1) := by decide +kernel
theorem dX4_init_77 : decode cX4_init 77 = .ok (.bipush 60, 2) := by decide +kernel
theorem dX4_init_79 : decode cX4_init 79 = .ok (.newarray .int, 2) := by decide +kernel
theorem dX4_init_81 : decode cX4_init 81 = .ok (.putfield 53, 3) := by decide +kernel
theorem dX4_init_84 : decode cX4_init 84 = .ok (.aload_n 0, 1) := by decide +kernel
theorem dX4_init_85 : decode cX4_init 85 = .ok (.aload_n 1, 1) := by decide +kernel
theorem dX4_init_86 : decode cX4_init 86 = .ok (.putfield 56, 3) := by decide +kernel
theorem dX4_init_89 : decode cX4_init 89 = .ok (.aload_n 0, 1) := by decide +kernel
theorem dX4_init_90 : decode cX4_init 90 = .ok (.aload_n 2, 1) := by decide +kernel
theorem dX4_init_91 : decode cX4_init 91 = .ok (.putfield 60, 3) := by decide +kernel
theorem dX4_init_94 : decode cX4_init 94 = .ok (.return_, 1) := by decide +kernel
set_option maxRecDepth 10000 in
set_option maxHeartbeats 4000000 in
theorem A_X4_init_e {Z : az_Z} {d : Nat} (C : az_C Z yX4_init cX4_init 3 none d) (hD : 3 ≤ d) {σ : az_Hp} {v0 v1 v2 : Int} {r : az_Hp} (h : fz_X4_init σ v0 v1 v2 = some r) : az_AW Z 3 0 [(6, v0), (11, v1), (8, v2)] [] σ (none, r) := by
  have hd1 : 1 ≤ d := by omega
  unfold fz_X4_init at h
  refine az_al0 (pc := 0) C rfl rfl dX4_init_0 ?_
  refine az_objInit (pc := 1) C hd1 rfl ml_X4_3 az_w_obi az_w_obc rfl dX4_init_1 ?_
  refine az_al0 (pc := 4) C rfl rfl dX4_init_4 ?_
  refine az_ik0 (pc := 5) C dX4_init_5 ?_
  refine az_putI (pc := 6) C fl_X4_9 (Or.inl rfl) rfl dX4_init_6 ?_
  refine az_al0 (pc := 9) C rfl rfl dX4_init_9 ?_
  refine az_ikm1 (pc := 10) C dX4_init_10 ?_
  refine az_putI (pc := 11) C fl_X4_15 (Or.inl rfl) rfl dX4_init_11 ?_
  refine az_al0 (pc := 14) C rfl rfl dX4_init_14 ?_
  refine az_bk12 (pc := 15) C dX4_init_15 ?_
  refine az_newa (pc := 17) (at_ := .int) (ty := .int) C h rfl (by decide) az_ac_int dX4_init_17 (fun h => ?_)
  refine az_putR (pc := 19) (c2 := 13) C fl_X4_18 (Or.inr ⟨rfl, _, _, rfl⟩) rfl rfl rfl dX4_init_19 ?_
  refine az_al0 (pc := 22) C rfl rfl dX4_init_22 ?_
  refine az_ik0 (pc := 23) C dX4_init_23 ?_
  refine az_putI (pc := 24) C fl_X4_22 (Or.inl rfl) rfl dX4_init_24 ?_
  refine az_al0 (pc := 27) C rfl rfl dX4_init_27 ?_
  refine az_ik0 (pc := 28) C dX4_init_28 ?_
  refine az_putI (pc := 29) C fl_X4_25 (Or.inl rfl) rfl dX4_init_29 ?_
  refine az_al0 (pc := 32) C rfl rfl dX4_init_32 ?_
  refine az_ik2 (pc := 33) C dX4_init_33 ?_
  refine az_putI (pc := 34) C fl_X4_28 (Or.inl rfl) rfl dX4_init_34 ?_
  refine az_al0 (pc := 37) C rfl rfl dX4_init_37 ?_
  refine az_newc (pc := 38) C h az_cl2 rfl cl_X4_31 az_inst2 az_ini2 dX4_init_38 (fun h => ?_)
  refine az_dup (pc := 41) C rfl rfl dX4_init_41 ?_
  refine az_cN0 (pc := 42) (c := 2) C hd1 h mi_X2_init ml_X4_33 rfl rfl (fun x hx => A_X2_init (by omega) hx) dX4_init_42 (fun r3 h => ?_)
  refine az_putR (pc := 45) (c2 := 2) C fl_X4_34 (Or.inr ⟨rfl, _, _, rfl⟩) rfl rfl rfl dX4_init_45 ?_
  refine az_al0 (pc := 48) C rfl rfl dX4_init_48 ?_
  refine az_ik0 (pc := 49) C dX4_init_49 ?_
  refine az_putI (pc := 50) C fl_X4_38 (Or.inl rfl) rfl dX4_init_50 ?_
  refine az_al0 (pc := 53) C rfl rfl dX4_init_53 ?_
  refine az_ik0 (pc := 54) C dX4_init_54 ?_
  refine az_putI (pc := 55) C fl_X4_41 (Or.inl rfl) rfl dX4_init_55 ?_
  refine az_al0 (pc := 58) C rfl rfl dX4_init_58 ?_
  refine az_ik0 (pc := 59) C dX4_init_59 ?_
  refine az_putI (pc := 60) C fl_X4_44 (Or.inl rfl) rfl dX4_init_60 ?_
  refine az_al0 (pc := 63) C rfl rfl dX4_init_63 ?_
  refine az_ik0 (pc := 64) C dX4_init_64 ?_
  refine az_putI (pc := 65) C fl_X4_47 (Or.inl rfl) rfl dX4_init_65 ?_
  refine az_al0 (pc := 68) C rfl rfl dX4_init_68 ?_
  refine az_bk60 (pc := 69) C dX4_init_69 ?_
  refine az_newa (pc := 71) (at_ := .int) (ty := .int) C h rfl (by decide) az_ac_int dX4_init_71 (fun h => ?_)
  refine az_putR (pc := 73) (c2 := 13) C fl_X4_50 (Or.inr ⟨rfl, _, _, rfl⟩) rfl rfl rfl dX4_init_73 ?_
  refine az_al0 (pc := 76) C rfl rfl dX4_init_76 ?_
  refine az_bk60 (pc := 77) C dX4_init_77 ?_
  refine az_newa (pc := 79) (at_ := .int) (ty := .int) C h rfl (by decide) az_ac_int dX4_init_79 (fun h => ?_)
  refine az_putR (pc := 81) (c2 := 13) C fl_X4_53 (Or.inr ⟨rfl, _, _, rfl⟩) rfl rfl rfl dX4_init_81 ?_
  refine az_al0 (pc := 84) C rfl rfl dX4_init_84 ?_
  refine az_al1 (pc := 85) C rfl rfl dX4_init_85 ?_
  refine az_putR (pc := 86) (c2 := 9) C fl_X4_56 (Or.inl rfl) rfl rfl rfl dX4_init_86 ?_
  refine az_al0 (pc := 89) C rfl rfl dX4_init_89 ?_
  refine az_al2 (pc := 90) C rfl rfl dX4_init_90 ?_
  refine az_putR (pc := 91) (c2 := 6) C fl_X4_60 (Or.inr ⟨rfl, _, _, rfl⟩) rfl rfl rfl dX4_init_91 ?_
  obtain rfl := Option.some.inj h
  exact az_return (pc := 94) C dX4_init_94 rfl
set_option maxRecDepth 10000 in
set_option maxHeartbeats 4000000 in
theorem A_X4_init {l : Launch} {d : Nat} (hD : 3 ≤ d) {σ : az_Hp} {v0 v1 v2 : Int} {r : az_Hp} (h : fz_X4_init σ v0 v1 v2 = some r) : az_AC l yX4_init cX4_init 3 none d [(6, v0), (11, v1), (8, v2)] σ (none, r) := az_AC.of mt_X4_init rfl rfl rfl (fun Z hZ C => A_X4_init_e C hD h)
theorem dX7_init_0 : decode cX7_init 0 = .ok (.aload_n 0, 1) := by decide +kernel
theorem dX7_init_1 : decode cX7_init 1 = .ok (.invokespecial 3, 3) := by decide +kernel
theorem dX7_init_4 : decode cX7_init 4 = .ok (.aload_n 0, 1) := by decide +kernel
theorem dX7_init_5 : decode cX7_init 5 = .ok (.iconst 0, 1) := by decide +kernel
theorem dX7_init_6 : decode cX7_init 6 = .ok (.putfield 9, 3) := by decide +kernel
theorem dX7_init_9 : decode cX7_init 9 = .ok (.aload_n 0, 1) := by decide +kernel
theorem dX7_init_10 : decode cX7_init 10 = .ok (.iload_n 1, 1) := by decide +kernel
theorem dX7_init_11 : decode cX7_init 11 = .ok (.iconst 0, 1) := by decide +kernel
theorem dX7_init_12 : decode cX7_init 12 = .ok (.invokestatic 15, 3) := by decide +kernel
theorem dX7_init_15 : decode cX7_init 15 = .ok (.newarray .int, 2) := by decide +kernel
theorem dX7_init_17 : decode cX7_init 17 = .ok (.putfield 21, 3) := by decide +kernel
theorem dX7_init_20 : decode cX7_init 20 = .ok (.return_, 1) := by decide +kernel
set_option maxRecDepth 10000 in
set_option maxHeartbeats 4000000 in
theorem A_X7_init_e {Z : az_Z} {d : Nat} (C : az_C Z yX7_init cX7_init 2 none d) (hD : 2 ≤ d) {σ : az_Hp} {v0 v1 : Int} {r : az_Hp} (h : fz_X7_init σ v0 v1 = some r) : az_AW Z 2 0 [(9, v0), (0, v1)] [] σ (none, r) := by
  have hd1 : 1 ≤ d := by omega
  unfold fz_X7_init at h
  refine az_al0 (pc := 0) C rfl rfl dX7_init_0 ?_
  refine az_objInit (pc := 1) C hd1 rfl ml_X7_3 az_w_obi az_w_obc rfl dX7_init_1 ?_
  refine az_al0 (pc := 4) C rfl rfl dX7_init_4 ?_
  refine az_ik0 (pc := 5) C dX7_init_5 ?_
  refine az_putI (pc := 6) C fl_X7_9 (Or.inl rfl) rfl dX7_init_6 ?_
  refine az_al0 (pc := 9) C rfl rfl dX7_init_9 ?_
  refine az_il1 (pc := 10) C dX7_init_10 ?_
  refine az_ik0 (pc := 11) C dX7_init_11 ?_
  refine az_mmax (pc := 12) C hd1 ml_X7_15 az_w_maxst az_w_math az_w_maxc rfl dX7_init_12 ?_
  refine az_newa (pc := 15) (at_ := .int) (ty := .int) C h rfl (by decide) az_ac_int dX7_init_15 (fun h => ?_)
  refine az_putR (pc := 17) (c2 := 13) C fl_X7_21 (Or.inr ⟨rfl, _, _, rfl⟩) rfl rfl rfl dX7_init_17 ?_
  obtain rfl := Option.some.inj h
  exact az_return (pc := 20) C dX7_init_20 rfl
set_option maxRecDepth 10000 in
set_option maxHeartbeats 4000000 in
theorem A_X7_init {l : Launch} {d : Nat} (hD : 2 ≤ d) {σ : az_Hp} {v0 v1 : Int} {r : az_Hp} (h : fz_X7_init σ v0 v1 = some r) : az_AC l yX7_init cX7_init 2 none d [(9, v0), (0, v1)] σ (none, r) := az_AC.of mt_X7_init rfl rfl rfl (fun Z hZ C => A_X7_init_e C hD h)
theorem dX5_init_0 : decode cX5_init 0 = .ok (.aload_n 0, 1) := by decide +kernel
theorem dX5_init_1 : decode cX5_init 1 = .ok (.invokespecial 3, 3) := by decide +kernel
theorem dX5_init_4 : decode cX5_init 4 = .ok (.aload_n 0, 1) := by decide +kernel
theorem dX5_init_5 : decode cX5_init 5 = .ok (.new 9, 3) := by decide +kernel
theorem dX5_init_8 : decode cX5_init 8 = .ok (.dup, 1) := by decide +kernel
theorem dX5_init_9 : decode cX5_init 9 = .ok (.bipush 60, 2) := by decide +kernel
theorem dX5_init_11 : decode cX5_init 11 = .ok (.invokespecial 11, 3) := by decide +kernel
theorem dX5_init_14 : decode cX5_init 14 = .ok (.putfield 14, 3) := by decide +kernel
theorem dX5_init_17 : decode cX5_init 17 = .ok (.aload_n 0, 1) := by decide +kernel
theorem dX5_init_18 : decode cX5_init 18 = .ok (.iconst 0, 1) := by decide +kernel
theorem dX5_init_19 : decode cX5_init 19 = .ok (.putfield 20, 3) := by decide +kernel
theorem dX5_init_22 : decode cX5_init 22 = .ok (.aload_n 0, 1) := by decide +kernel
theorem dX5_init_23 : decode cX5_init 23 = .ok (.iconst (-1), 1) := by decide +kernel
theorem dX5_init_24 : decode cX5_init 24 = .ok (.putfield 24, 3) := by decide +kernel
theorem dX5_init_27 : decode cX5_init 27 = .ok (.aload_n 0, 1) := by decide +kernel
theorem dX5_init_28 : decode cX5_init 28 = .ok (.iconst 0, 1) := by decide +kernel
theorem dX5_init_29 : decode cX5_init 29 = .ok (.putfield 28, 3) := by decide +kernel
theorem dX5_init_32 : decode cX5_init 32 = .ok (.aload_n 0, 1) := by decide +kernel
theorem dX5_init_33 : decode cX5_init 33 = .ok (.iconst 0, 1) := by decide +kernel
theorem dX5_init_34 : decode cX5_init 34 = .ok (.putfield 31, 3) := by decide +kernel
theorem dX5_init_37 : decode cX5_init 37 = .ok (.aload_n 0, 1) := by decide +kernel
theorem dX5_init_38 : decode cX5_init 38 = .ok (.iconst 0, 1) := by decide +kernel
theorem dX5_init_39 : decode cX5_init 39 = .ok (.putfield 34, 3) := by decide +kernel
theorem dX5_init_42 : decode cX5_init 42 = .ok (.aload_n 0, 1) := by decide +kernel
theorem dX5_init_43 : decode cX5_init 43 = .ok (.iconst (-1), 1) := by decide +kernel
theorem dX5_init_44 : decode cX5_init 44 = .ok (.putfield 37, 3) := by decide +kernel
theorem dX5_init_47 : decode cX5_init 47 = .ok (.aload_n 0, 1) := by decide +kernel
theorem dX5_init_48 : decode cX5_init 48 = .ok (.new 9, 3) := by decide +kernel
theorem dX5_init_51 : decode cX5_init 51 = .ok (.dup, 1) := by decide +kernel
theorem dX5_init_52 : decode cX5_init 52 = .ok (.bipush 60, 2) := by decide +kernel
theorem dX5_init_54 : decode cX5_init 54 = .ok (.invokespecial 11, 3) := by decide +kernel
theorem dX5_init_57 : decode cX5_init 57 = .ok (.putfield 40, 3) := by decide +kernel
theorem dX5_init_60 : decode cX5_init 60 = .ok (.aload_n 0, 1) := by decide +kernel
theorem dX5_init_61 : decode cX5_init 61 = .ok (.bipush 61, 2) := by decide +kernel
theorem dX5_init_63 : decode cX5_init 63 = .ok (.anewarray 9, 3) := by decide +kernel
theorem dX5_init_66 : decode cX5_init 66 = .ok (.putfield 43, 3) := by decide +kernel
theorem dX5_init_69 : decode cX5_init 69 = .ok (.aload_n 0, 1) := by decide +kernel
theorem dX5_init_70 : decode cX5_init 70 = .ok (.bipush 60, 2) := by decide +kernel
theorem dX5_init_72 : decode cX5_init 72 = .ok (.newarray .int, 2) := by decide +kernel
theorem dX5_init_74 : decode cX5_init 74 = .ok (.putfield 47, 3) := by decide +kernel
theorem dX5_init_77 : decode cX5_init 77 = .ok (.aload_n 0, 1) := by decide +kernel
theorem dX5_init_78 : decode cX5_init 78 = .ok (.bipush 60, 2) := by decide +kernel
theorem dX5_init_80 : decode cX5_init 80 = .ok (.newarray .int, 2) := by decide +kernel
theorem dX5_init_82 : decode cX5_init 82 = .ok (.putfield 51, 3) := by decide +kernel
theorem dX5_init_85 : decode cX5_init 85 = .ok (.aload_n 0, 1) := by decide +kernel
theorem dX5_init_86 : decode cX5_init 86 = .ok (.bipush 60, 2) := by decide +kernel
theorem dX5_init_88 : decode cX5_init 88 = .ok (.newarray .int, 2) := by decide +kernel
theorem dX5_init_90 : decode cX5_init 90 = .ok (.putfield 54, 3) := by decide +kernel
theorem dX5_init_93 : decode cX5_init 93 = .ok (.aload_n 0, 1) := by decide +kernel
theorem dX5_init_94 : decode cX5_init 94 = .ok (.bipush 6, 2) := by decide +kernel
theorem dX5_init_96 : decode cX5_init 96 = .ok (.newarray .int, 2) := by decide +kernel
theorem dX5_init_98 : decode cX5_init 98 = .ok (.putfield 57, 3) := by decide +kernel
theorem dX5_init_101 : decode cX5_init 101 = .ok (.aload_n 0, 1) := by decide +kernel
theorem dX5_init_102 : decode cX5_init 102 = .ok (.aload_n 1, 1) := by decide +kernel
theorem dX5_init_103 : decode cX5_init 103 = .ok (.putfield 60, 3) := by decide +kernel
theorem dX5_init_106 : decode cX5_init 106 = .ok (.aload_n 0, 1) := by decide +kernel
theorem dX5_init_107 : decode cX5_init 107 = .ok (.aload_n 2, 1) := by decide +kernel
theorem dX5_init_108 : decode cX5_init 108 = .ok (.putfield 64, 3) := by decide +kernel
theorem dX5_init_111 : decode cX5_init 111 = .ok (.aload_n 0, 1) := by decide +kernel
theorem dX5_init_112 : decode cX5_init 112 = .ok (.aload_n 3, 1) := by decide +kernel
theorem dX5_init_113 : decode cX5_init 113 = .ok (.putfield 68, 3) := by decide +kernel
theorem dX5_init_116 : decode cX5_init 116 = .ok (.iconst 0, 1) := by decide +kernel
theorem dX5_init_117 : decode cX5_init 117 = .ok (.istore 4, 2) := by decide +kernel
theorem dX5_init_119 : decode cX5_init 119 = .ok (.iload 4, 2) := by decide +kernel
theorem dX5_init_121 : decode cX5_init 121 = .ok (.bipush 60, 2) := by decide +kernel
theorem dX5_init_123 : decode cX5_init 123 = .ok (.if_icmp .gt 25, 3) := by decide +kernel
theorem dX5_init_126 : decode cX5_init 126 = .ok (.aload_n 0, 1) := by decide +kernel
theorem dX5_init_127 : decode cX5_init 127 = .ok (.getfield 43, 3) := by decide +kernel
theorem dX5_init_130 : decode cX5_init 130 = .ok (.iload 4, 2) := by decide +kernel
theorem dX5_init_132 : decode cX5_init 132 = .ok (.new 9, 3) := by decide +kernel
theorem dX5_init_135 : decode cX5_init 135 = .ok (.dup, 1) := by decide +kernel
theorem dX5_init_136 : decode cX5_init 136 = .ok (.bipush 60, 2) := by decide +kernel
theorem dX5_init_138 : decode cX5_init 138 = .ok (.invokespecial 11, 3) := by decide +kernel
theorem dX5_init_141 : decode cX5_init 141 = .ok (.aastore, 1) := by decide +kernel
theorem dX5_init_142 : decode cX5_init 142 = .ok (.iinc 4 1, 3) := by decide +kernel
theorem dX5_init_145 : decode cX5_init 145 = .ok (.goto (-26), 3) := by decide +kernel
theorem dX5_init_148 : decode cX5_init 148 = .ok (.return_, 1) := by decide +kernel
set_option maxRecDepth 10000 in
set_option maxHeartbeats 4000000 in
theorem A_X5_init_119 {Z : az_Z} {d : Nat} (C : az_C Z yX5_init cX5_init 5 none d) (hD : 3 ≤ d) (n : Nat) (k : Nat) : ∀ {σ : az_Hp} {v0 v4 : Int} {r : az_Hp}, fz_X5_init_119 n k σ v0 v4 = some r → az_AW Z 5 119 [(7, v0), (31, 0), (31, 0), (31, 0), (0, v4)] [] σ (none, r) := by
  have hd1 : 1 ≤ d := by omega
  induction k with
  | zero => intro σ v0 v4 r h; simp [fz_X5_init_119] at h
  | succ k ih =>
    intro σ v0 v4 r h
    unfold fz_X5_init_119 at h
    refine az_il4 (pc := 119) C dX5_init_119 ?_
    refine az_bk60 (pc := 121) C dX5_init_121 ?_
    refine az_icmp_gt (pc := 123) (tgt := 148) C h dX5_init_123 (by decide) (fun _ h => ?_) (fun _ h => ?_)
    · obtain rfl := Option.some.inj h
      exact az_return (pc := 148) C dX5_init_148 rfl
    refine az_al0 (pc := 126) C rfl rfl dX5_init_126 ?_
    refine az_getR (pc := 127) (c2 := 16) C h fl_X5_43 rfl rfl dX5_init_127 (fun h => ?_)
    refine az_il4 (pc := 130) C dX5_init_130 ?_
    refine az_newc (pc := 132) C h az_cl7 rfl cl_X5_9 az_inst7 az_ini7 dX5_init_132 (fun h => ?_)
    refine az_dup (pc := 135) C rfl rfl dX5_init_135 ?_
    refine az_bk60 (pc := 136) C dX5_init_136 ?_
    refine az_cI1 (pc := 138) (c := 7) C hd1 h mi_X7_init ml_X5_11 rfl rfl (fun x hx => A_X7_init (by omega) hx) dX5_init_138 (fun r3 h => ?_)
    refine az_aastore (pc := 141) C h dX5_init_141 (fun h => ?_)
    refine az_ii4 (pc := 142) C az_n1 rfl rfl dX5_init_142 ?_
    refine az_goto (pc := 145) (tgt := 119) C dX5_init_145 (by decide) ?_
    exact (ih h)
set_option maxRecDepth 10000 in
set_option maxHeartbeats 4000000 in
theorem A_X5_init_e {Z : az_Z} {d : Nat} (C : az_C Z yX5_init cX5_init 5 none d) (hD : 3 ≤ d) (n : Nat) {σ : az_Hp} {v0 v1 v2 v3 : Int} {r : az_Hp} (h : fz_X5_init n σ v0 v1 v2 v3 = some r) : az_AW Z 5 0 [(7, v0), (2, v1), (11, v2), (8, v3), (31, 0)] [] σ (none, r) := by
  have hd1 : 1 ≤ d := by omega
  unfold fz_X5_init at h
  refine az_al0 (pc := 0) C rfl rfl dX5_init_0 ?_
  refine az_objInit (pc := 1) C hd1 rfl ml_X5_3 az_w_obi az_w_obc rfl dX5_init_1 ?_
  refine az_al0 (pc := 4) C rfl rfl dX5_init_4 ?_
  refine az_newc (pc := 5) C h az_cl7 rfl cl_X5_9 az_inst7 az_ini7 dX5_init_5 (fun h => ?_)
  refine az_dup (pc := 8) C rfl rfl dX5_init_8 ?_
  refine az_bk60 (pc := 9) C dX5_init_9 ?_
  refine az_cI1 (pc := 11) (c := 7) C hd1 h mi_X7_init ml_X5_11 rfl rfl (fun x hx => A_X7_init (by omega) hx) dX5_init_11 (fun r2 h => ?_)
  refine az_putR (pc := 14) (c2 := 7) C fl_X5_14 (Or.inr ⟨rfl, _, _, rfl⟩) rfl rfl rfl dX5_init_14 ?_
  refine az_al0 (pc := 17) C rfl rfl dX5_init_17 ?_
  refine az_ik0 (pc := 18) C dX5_init_18 ?_
  refine az_putZc (pc := 19) C (by decide) fl_X5_20 (Or.inl rfl) rfl dX5_init_19 ?_
  refine az_al0 (pc := 22) C rfl rfl dX5_init_22 ?_
  refine az_ikm1 (pc := 23) C dX5_init_23 ?_
  refine az_putI (pc := 24) C fl_X5_24 (Or.inl rfl) rfl dX5_init_24 ?_
  refine az_al0 (pc := 27) C rfl rfl dX5_init_27 ?_
  refine az_ik0 (pc := 28) C dX5_init_28 ?_
  refine az_putI (pc := 29) C fl_X5_28 (Or.inl rfl) rfl dX5_init_29 ?_
  refine az_al0 (pc := 32) C rfl rfl dX5_init_32 ?_
  refine az_ik0 (pc := 33) C dX5_init_33 ?_
  refine az_putI (pc := 34) C fl_X5_31 (Or.inl rfl) rfl dX5_init_34 ?_
  refine az_al0 (pc := 37) C rfl rfl dX5_init_37 ?_
  refine az_ik0 (pc := 38) C dX5_init_38 ?_
  refine az_putI (pc := 39) C fl_X5_34 (Or.inl rfl) rfl dX5_init_39 ?_
  refine az_al0 (pc := 42) C rfl rfl dX5_init_42 ?_
  refine az_ikm1 (pc := 43) C dX5_init_43 ?_
  refine az_putI (pc := 44) C fl_X5_37 (Or.inl rfl) rfl dX5_init_44 ?_
  refine az_al0 (pc := 47) C rfl rfl dX5_init_47 ?_
  refine az_newc (pc := 48) C h az_cl7 rfl cl_X5_9 az_inst7 az_ini7 dX5_init_48 (fun h => ?_)
  refine az_dup (pc := 51) C rfl rfl dX5_init_51 ?_
  refine az_bk60 (pc := 52) C dX5_init_52 ?_
  refine az_cI1 (pc := 54) (c := 7) C hd1 h mi_X7_init ml_X5_11 rfl rfl (fun x hx => A_X7_init (by omega) hx) dX5_init_54 (fun r4 h => ?_)
  refine az_putR (pc := 57) (c2 := 7) C fl_X5_40 (Or.inr ⟨rfl, _, _, rfl⟩) rfl rfl rfl dX5_init_57 ?_
  refine az_al0 (pc := 60) C rfl rfl dX5_init_60 ?_
  refine az_bk61 (pc := 61) C dX5_init_61 ?_
  refine az_newq (pc := 63) C h cl_X5_9 dX5_init_63 (fun h => ?_)
  refine az_putR (pc := 66) (c2 := 16) C fl_X5_43 (Or.inr ⟨rfl, _, _, rfl⟩) rfl rfl rfl dX5_init_66 ?_
  refine az_al0 (pc := 69) C rfl rfl dX5_init_69 ?_
  refine az_bk60 (pc := 70) C dX5_init_70 ?_
  refine az_newa (pc := 72) (at_ := .int) (ty := .int) C h rfl (by decide) az_ac_int dX5_init_72 (fun h => ?_)
  refine az_putR (pc := 74) (c2 := 13) C fl_X5_47 (Or.inr ⟨rfl, _, _, rfl⟩) rfl rfl rfl dX5_init_74 ?_
  refine az_al0 (pc := 77) C rfl rfl dX5_init_77 ?_
  refine az_bk60 (pc := 78) C dX5_init_78 ?_
  refine az_newa (pc := 80) (at_ := .int) (ty := .int) C h rfl (by decide) az_ac_int dX5_init_80 (fun h => ?_)
  refine az_putR (pc := 82) (c2 := 13) C fl_X5_51 (Or.inr ⟨rfl, _, _, rfl⟩) rfl rfl rfl dX5_init_82 ?_
  refine az_al0 (pc := 85) C rfl rfl dX5_init_85 ?_
  refine az_bk60 (pc := 86) C dX5_init_86 ?_
  refine az_newa (pc := 88) (at_ := .int) (ty := .int) C h rfl (by decide) az_ac_int dX5_init_88 (fun h => ?_)
  refine az_putR (pc := 90) (c2 := 13) C fl_X5_54 (Or.inr ⟨rfl, _, _, rfl⟩) rfl rfl rfl dX5_init_90 ?_
  refine az_al0 (pc := 93) C rfl rfl dX5_init_93 ?_
  refine az_bk6 (pc := 94) C dX5_init_94 ?_
  refine az_newa (pc := 96) (at_ := .int) (ty := .int) C h rfl (by decide) az_ac_int dX5_init_96 (fun h => ?_)
  refine az_putR (pc := 98) (c2 := 13) C fl_X5_57 (Or.inr ⟨rfl, _, _, rfl⟩) rfl rfl rfl dX5_init_98 ?_
  refine az_al0 (pc := 101) C rfl rfl dX5_init_101 ?_
  refine az_al1 (pc := 102) C rfl rfl dX5_init_102 ?_
  refine az_putR (pc := 103) (c2 := 0) C fl_X5_60 (Or.inr ⟨rfl, _, _, rfl⟩) rfl rfl rfl dX5_init_103 ?_
  refine az_al0 (pc := 106) C rfl rfl dX5_init_106 ?_
  refine az_al2 (pc := 107) C rfl rfl dX5_init_107 ?_
  refine az_putR (pc := 108) (c2 := 9) C fl_X5_64 (Or.inl rfl) rfl rfl rfl dX5_init_108 ?_
  refine az_al0 (pc := 111) C rfl rfl dX5_init_111 ?_
  refine az_al3 (pc := 112) C rfl rfl dX5_init_112 ?_
  refine az_putR (pc := 113) (c2 := 6) C fl_X5_68 (Or.inr ⟨rfl, _, _, rfl⟩) rfl rfl rfl dX5_init_113 ?_
  refine az_ik0 (pc := 116) C dX5_init_116 ?_
  refine az_is4 (pc := 117) C rfl rfl dX5_init_117 ?_
  exact (az_wkk (A_X5_init_119 C hD n n h) (az_sE (az_sJ (az_sJ (az_sJ (az_sE az_sN))))))
set_option maxRecDepth 10000 in
set_option maxHeartbeats 4000000 in
theorem A_X5_init {l : Launch} {d : Nat} (hD : 3 ≤ d) (n : Nat) {σ : az_Hp} {v0 v1 v2 v3 : Int} {r : az_Hp} (h : fz_X5_init n σ v0 v1 v2 v3 = some r) : az_AC l yX5_init cX5_init 5 none d [(7, v0), (2, v1), (11, v2), (8, v3)] σ (none, r) := az_AC.of mt_X5_init rfl rfl rfl (fun Z hZ C => A_X5_init_e C hD n h)
theorem dX6_init_0 : decode cX6_init 0 = .ok (.aload_n 0, 1) := by decide +kernel
theorem dX6_init_1 : decode cX6_init 1 = .ok (.invokespecial 3, 3) := by decide +kernel
theorem dX6_init_4 : decode cX6_init 4 = .ok (.aload_n 0, 1) := by decide +kernel
theorem dX6_init_5 : decode cX6_init 5 = .ok (.iconst 0, 1) := by decide +kernel
theorem dX6_init_6 : decode cX6_init 6 = .ok (.putfield 9, 3) := by decide +kernel
theorem dX6_init_9 : decode cX6_init 9 = .ok (.aload_n 0, 1) := by decide +kernel
theorem dX6_init_10 : decode cX6_init 10 = .ok (.iconst 0, 1) := by decide +kernel
theorem dX6_init_11 : decode cX6_init 11 = .ok (.putfield 15, 3) := by decide +kernel
theorem dX6_init_14 : decode cX6_init 14 = .ok (.aload_n 0, 1) := by decide +kernel
theorem dX6_init_15 : decode cX6_init 15 = .ok (.iconst 0, 1) := by decide +kernel
theorem dX6_init_16 : decode cX6_init 16 = .ok (.putfield 18, 3) := by decide +kernel
theorem dX6_init_19 : decode cX6_init 19 = .ok (.aload_n 0, 1) := by decide +kernel
theorem dX6_init_20 : decode cX6_init 20 = .ok (.bipush 6, 2) := by decide +kernel
theorem dX6_init_22 : decode cX6_init 22 = .ok (.anewarray 21, 3) := by decide +kernel
theorem dX6_init_25 : decode cX6_init 25 = .ok (.putfield 23, 3) := by decide +kernel
theorem dX6_init_28 : decode cX6_init 28 = .ok (.aload_n 0, 1) := by decide +kernel
theorem dX6_init_29 : decode cX6_init 29 = .ok (.bipush 6, 2) := by decide +kernel
theorem dX6_init_31 : decode cX6_init 31 = .ok (.anewarray 21, 3) := by decide +kernel
theorem dX6_init_34 : decode cX6_init 34 = .ok (.putfield 27, 3) := by decide +kernel
theorem dX6_init_37 : decode cX6_init 37 = .ok (.aload_n 0, 1) := by decide +kernel
theorem dX6_init_38 : decode cX6_init 38 = .ok (.bipush 8, 2) := by decide +kernel
theorem dX6_init_40 : decode cX6_init 40 = .ok (.anewarray 21, 3) := by decide +kernel
theorem dX6_init_43 : decode cX6_init 43 = .ok (.putfield 30, 3) := by decide +kernel
theorem dX6_init_46 : decode cX6_init 46 = .ok (.aload_n 0, 1) := by decide +kernel
theorem dX6_init_47 : decode cX6_init 47 = .ok (.bipush 8, 2) := by decide +kernel
theorem dX6_init_49 : decode cX6_init 49 = .ok (.anewarray 21, 3) := by decide +kernel
theorem dX6_init_52 : decode cX6_init 52 = .ok (.putfield 33, 3) := by decide +kernel
theorem dX6_init_55 : decode cX6_init 55 = .ok (.aload_n 0, 1) := by decide +kernel
theorem dX6_init_56 : decode cX6_init 56 = .ok (.bipush 6, 2) := by decide +kernel
theorem dX6_init_58 : decode cX6_init 58 = .ok (.newarray .int, 2) := by decide +kernel
theorem dX6_init_60 : decode cX6_init 60 = .ok (.putfield 36, 3) := by decide +kernel
theorem dX6_init_63 : decode cX6_init 63 = .ok (.iconst 0, 1) := by decide +kernel
theorem dX6_init_64 : decode cX6_init 64 = .ok (.istore_n 1, 1) := by decide +kernel
theorem dX6_init_65 : decode cX6_init 65 = .ok (.iload_n 1, 1) := by decide +kernel
theorem dX6_init_66 : decode cX6_init 66 = .ok (.bipush 6, 2) := by decide +kernel
theorem dX6_init_68 : decode cX6_init 68 = .ok (.if_icmp .ge 39, 3) := by decide +kernel
theorem dX6_init_71 : decode cX6_init 71 = .ok (.aload_n 0, 1) := by decide +kernel
theorem dX6_init_72 : decode cX6_init 72 = .ok (.getfield 23, 3) := by decide +kernel
theorem dX6_init_75 : decode cX6_init 75 = .ok (.iload_n 1, 1) := by decide +kernel
theorem dX6_init_76 : decode cX6_init 76 = .ok (.new 21, 3) := by decide +kernel
theorem dX6_init_79 : decode cX6_init 79 = .ok (.dup, 1) := by decide +kernel
theorem dX6_init_80 : decode cX6_init 80 = .ok (.bipush 30, 2) := by decide +kernel
theorem dX6_init_82 : decode cX6_init 82 = .ok (.invokespecial 40, 3) := by decide +kernel
theorem dX6_init_85 : decode cX6_init 85 = .ok (.aastore, 1) := by decide +kernel
theorem dX6_init_86 : decode cX6_init 86 = .ok (.aload_n 0, 1) := by decide +kernel
theorem dX6_init_87 : decode cX6_init 87 = .ok (.getfield 27, 3) := by decide +kernel
theorem dX6_init_90 : decode cX6_init 90 = .ok (.iload_n 1, 1) := by decide +kernel
theorem dX6_init_91 : decode cX6_init 91 = .ok (.new 21, 3) := by decide +kernel
theorem dX6_init_94 : decode cX6_init 94 = .ok (.dup, 1) := by decide +kernel
theorem dX6_init_95 : decode cX6_init 95 = .ok (.bipush 30, 2) := by decide +kernel
theorem dX6_init_97 : decode cX6_init 97 = .ok (.invokespecial 40, 3) := by decide +kernel
theorem dX6_init_100 : decode cX6_init 100 = .ok (.aastore, 1) := by decide +kernel
theorem dX6_init_101 : decode cX6_init 101 = .ok (.iinc 1 1, 3) := by decide +kernel
theorem dX6_init_104 : decode cX6_init 104 = .ok (.goto (-39), 3) := by decide +kernel
theorem dX6_init_107 : decode cX6_init 107 = .ok (.iconst 0, 1) := by decide +kernel
theorem dX6_init_108 : decode cX6_init 108 = .ok (.istore_n 1, 1) := by decide +kernel
theorem dX6_init_109 : decode cX6_init 109 = .ok (.iload_n 1, 1) := by decide +kernel
theorem dX6_init_110 : decode cX6_init 110 = .ok (.bipush 8, 2) := by decide +kernel
theorem dX6_init_112 : decode cX6_init 112 = .ok (.if_icmp .ge 39, 3) := by decide +kernel
theorem dX6_init_115 : decode cX6_init 115 = .ok (.aload_n 0, 1) := by decide +kernel
theorem dX6_init_116 : decode cX6_init 116 = .ok (.getfield 30, 3) := by decide +kernel
theorem dX6_init_119 : decode cX6_init 119 = .ok (.iload_n 1, 1) := by decide +kernel
theorem dX6_init_120 : decode cX6_init 120 = .ok (.new 21, 3) := by decide +kernel
theorem dX6_init_123 : decode cX6_init 123 = .ok (.dup, 1) := by decide +kernel
theorem dX6_init_124 : decode cX6_init 124 = .ok (.bipush 30, 2) := by decide +kernel
theorem dX6_init_126 : decode cX6_init 126 = .ok (.invokespecial 40, 3) := by decide +kernel
theorem dX6_init_129 : decode cX6_init 129 = .ok (.aastore, 1) := by decide +kernel
theorem dX6_init_130 : decode cX6_init 130 = .ok (.aload_n 0, 1) := by decide +kernel
theorem dX6_init_131 : decode cX6_init 131 = .ok (.getfield 33, 3) := by decide +kernel
theorem dX6_init_134 : decode cX6_init 134 = .ok (.iload_n 1, 1) := by decide +kernel
theorem dX6_init_135 : decode cX6_init 135 = .ok (.new 21, 3) := by decide +kernel
theorem dX6_init_138 : decode cX6_init 138 = .ok (.dup, 1) := by decide +kernel
theorem dX6_init_139 : decode cX6_init 139 = .ok (.bipush 30, 2) := by decide +kernel
theorem dX6_init_141 : decode cX6_init 141 = .ok (.invokespecial 40, 3) := by decide +kernel
theorem dX6_init_144 : decode cX6_init 144 = .ok (.aastore, 1) := by decide +kernel
theorem dX6_init_145 : decode cX6_init 145 = .ok (.iinc 1 1, 3) := by decide +kernel
theorem dX6_init_148 : decode cX6_init 148 = .ok (.goto (-39), 3) := by decide +kernel
theorem dX6_init_151 : decode cX6_init 151 = .ok (.return_, 1) := by decide +kernel
set_option maxRecDepth 10000 in
set_option maxHeartbeats 4000000 in
theorem A_X6_init_109 {Z : az_Z} {d : Nat} (C : az_C Z yX6_init cX6_init 2 none d) (hD : 3 ≤ d) (n : Nat) (k : Nat) : ∀ {σ : az_Hp} {v0 v1 : Int} {r : az_Hp}, fz_X6_init_109 n k σ v0 v1 = some r → az_AW Z 2 109 [(8, v0), (0, v1)] [] σ (none, r) := by
  have hd1 : 1 ≤ d := by omega
  induction k with
  | zero => intro σ v0 v1 r h; simp [fz_X6_init_109] at h
  | succ k ih =>
    intro σ v0 v1 r h
    unfold fz_X6_init_109 at h
    refine az_il1 (pc := 109) C dX6_init_109 ?_
    refine az_bk8 (pc := 110) C dX6_init_110 ?_
    refine az_icmp_ge (pc := 112) (tgt := 151) C h dX6_init_112 (by decide) (fun _ h => ?_) (fun _ h => ?_)
    · obtain rfl := Option.some.inj h
      exact az_return (pc := 151) C dX6_init_151 rfl
    refine az_al0 (pc := 115) C rfl rfl dX6_init_115 ?_
    refine az_getR (pc := 116) (c2 := 16) C h fl_X6_30 rfl rfl dX6_init_116 (fun h => ?_)
    refine az_il1 (pc := 119) C dX6_init_119 ?_
    refine az_newc (pc := 120) C h az_cl7 rfl cl_X6_21 az_inst7 az_ini7 dX6_init_120 (fun h => ?_)
    refine az_dup (pc := 123) C rfl rfl dX6_init_123 ?_
    refine az_bk30 (pc := 124) C dX6_init_124 ?_
    refine az_cI1 (pc := 126) (c := 7) C hd1 h mi_X7_init ml_X6_40 rfl rfl (fun x hx => A_X7_init (by omega) hx) dX6_init_126 (fun r3 h => ?_)
    refine az_aastore (pc := 129) C h dX6_init_129 (fun h => ?_)
    refine az_al0 (pc := 130) C rfl rfl dX6_init_130 ?_
    refine az_getR (pc := 131) (c2 := 16) C h fl_X6_33 rfl rfl dX6_init_131 (fun h => ?_)
    refine az_il1 (pc := 134) C dX6_init_134 ?_
    refine az_newc (pc := 135) C h az_cl7 rfl cl_X6_21 az_inst7 az_ini7 dX6_init_135 (fun h => ?_)
    refine az_dup (pc := 138) C rfl rfl dX6_init_138 ?_
    refine az_bk30 (pc := 139) C dX6_init_139 ?_
    refine az_cI1 (pc := 141) (c := 7) C hd1 h mi_X7_init ml_X6_40 rfl rfl (fun x hx => A_X7_init (by omega) hx) dX6_init_141 (fun r7 h => ?_)
    refine az_aastore (pc := 144) C h dX6_init_144 (fun h => ?_)
    refine az_ii1 (pc := 145) C az_n1 rfl rfl dX6_init_145 ?_
    refine az_goto (pc := 148) (tgt := 109) C dX6_init_148 (by decide) ?_
    exact (ih h)
set_option maxRecDepth 10000 in
set_option maxHeartbeats 4000000 in
theorem A_X6_init_65 {Z : az_Z} {d : Nat} (C : az_C Z yX6_init cX6_init 2 none d) (hD : 3 ≤ d) (n : Nat) (k : Nat) : ∀ {σ : az_Hp} {v0 v1 : Int} {r : az_Hp}, fz_X6_init_65 n k σ v0 v1 = some r → az_AW Z 2 65 [(8, v0), (0, v1)] [] σ (none, r) := by
  have hd1 : 1 ≤ d := by omega
  induction k with
  | zero => intro σ v0 v1 r h; simp [fz_X6_init_65] at h
  | succ k ih =>
    intro σ v0 v1 r h
    unfold fz_X6_init_65 at h
    refine az_il1 (pc := 65) C dX6_init_65 ?_
    refine az_bk6 (pc := 66) C dX6_init_66 ?_
    refine az_icmp_ge (pc := 68) (tgt := 107) C h dX6_init_68 (by decide) (fun _ h => ?_) (fun _ h => ?_)
    · refine az_ik0 (pc := 107) C dX6_init_107 ?_
      refine az_is1 (pc := 108) C rfl rfl dX6_init_108 ?_
      exact (A_X6_init_109 C hD n n h)
    refine az_al0 (pc := 71) C rfl rfl dX6_init_71 ?_
    refine az_getR (pc := 72) (c2 := 16) C h fl_X6_23 rfl rfl dX6_init_72 (fun h => ?_)
    refine az_il1 (pc := 75) C dX6_init_75 ?_
    refine az_newc (pc := 76) C h az_cl7 rfl cl_X6_21 az_inst7 az_ini7 dX6_init_76 (fun h => ?_)
    refine az_dup (pc := 79) C rfl rfl dX6_init_79 ?_
    refine az_bk30 (pc := 80) C dX6_init_80 ?_
    refine az_cI1 (pc := 82) (c := 7) C hd1 h mi_X7_init ml_X6_40 rfl rfl (fun x hx => A_X7_init (by omega) hx) dX6_init_82 (fun r3 h => ?_)
    refine az_aastore (pc := 85) C h dX6_init_85 (fun h => ?_)
    refine az_al0 (pc := 86) C rfl rfl dX6_init_86 ?_
    refine az_getR (pc := 87) (c2 := 16) C h fl_X6_27 rfl rfl dX6_init_87 (fun h => ?_)
    refine az_il1 (pc := 90) C dX6_init_90 ?_
    refine az_newc (pc := 91) C h az_cl7 rfl cl_X6_21 az_inst7 az_ini7 dX6_init_91 (fun h => ?_)
    refine az_dup (pc := 94) C rfl rfl dX6_init_94 ?_
    refine az_bk30 (pc := 95) C dX6_init_95 ?_
    refine az_cI1 (pc := 97) (c := 7) C hd1 h mi_X7_init ml_X6_40 rfl rfl (fun x hx => A_X7_init (by omega) hx) dX6_init_97 (fun r7 h => ?_)
    refine az_aastore (pc := 100) C h dX6_init_100 (fun h => ?_)
    refine az_ii1 (pc := 101) C az_n1 rfl rfl dX6_init_101 ?_
    refine az_goto (pc := 104) (tgt := 65) C dX6_init_104 (by decide) ?_
    exact (ih h)
set_option maxRecDepth 10000 in
set_option maxHeartbeats 4000000 in
theorem A_X6_init_e {Z : az_Z} {d : Nat} (C : az_C Z yX6_init cX6_init 2 none d) (hD : 3 ≤ d) (n : Nat) {σ : az_Hp} {v0 : Int} {r : az_Hp} (h : fz_X6_init n σ v0 = some r) : az_AW Z 2 0 [(8, v0), (31, 0)] [] σ (none, r) := by
  have hd1 : 1 ≤ d := by omega
  unfold fz_X6_init at h
  refine az_al0 (pc := 0) C rfl rfl dX6_init_0 ?_
  refine az_objInit (pc := 1) C hd1 rfl ml_X6_3 az_w_obi az_w_obc rfl dX6_init_1 ?_
  refine az_al0 (pc := 4) C rfl rfl dX6_init_4 ?_
  refine az_ik0 (pc := 5) C dX6_init_5 ?_
  refine az_putI (pc := 6) C fl_X6_9 (Or.inl rfl) rfl dX6_init_6 ?_
  refine az_al0 (pc := 9) C rfl rfl dX6_init_9 ?_
  refine az_ik0 (pc := 10) C dX6_init_10 ?_
  refine az_putI (pc := 11) C fl_X6_15 (Or.inl rfl) rfl dX6_init_11 ?_
  refine az_al0 (pc := 14) C rfl rfl dX6_init_14 ?_
  refine az_ik0 (pc := 15) C dX6_init_15 ?_
  refine az_putI (pc := 16) C fl_X6_18 (Or.inl rfl) rfl dX6_init_16 ?_
  refine az_al0 (pc := 19) C rfl rfl dX6_init_19 ?_
  refine az_bk6 (pc := 20) C dX6_init_20 ?_
  refine az_newq (pc := 22) C h cl_X6_21 dX6_init_22 (fun h => ?_)
  refine az_putR (pc := 25) (c2 := 16) C fl_X6_23 (Or.inr ⟨rfl, _, _, rfl⟩) rfl rfl rfl dX6_init_25 ?_
  refine az_al0 (pc := 28) C rfl rfl dX6_init_28 ?_
  refine az_bk6 (pc := 29) C dX6_init_29 ?_
  refine az_newq (pc := 31) C h cl_X6_21 dX6_init_31 (fun h => ?_)
  refine az_putR (pc := 34) (c2 := 16) C fl_X6_27 (Or.inr ⟨rfl, _, _, rfl⟩) rfl rfl rfl dX6_init_34 ?_
  refine az_al0 (pc := 37) C rfl rfl dX6_init_37 ?_
  refine az_bk8 (pc := 38) C dX6_init_38 ?_
  refine az_newq (pc := 40) C h cl_X6_21 dX6_init_40 (fun h => ?_)
  refine az_putR (pc := 43) (c2 := 16) C fl_X6_30 (Or.inr ⟨rfl, _, _, rfl⟩) rfl rfl rfl dX6_init_43 ?_
  refine az_al0 (pc := 46) C rfl rfl dX6_init_46 ?_
  refine az_bk8 (pc := 47) C dX6_init_47 ?_
  refine az_newq (pc := 49) C h cl_X6_21 dX6_init_49 (fun h => ?_)
  refine az_putR (pc := 52) (c2 := 16) C fl_X6_33 (Or.inr ⟨rfl, _, _, rfl⟩) rfl rfl rfl dX6_init_52 ?_
  refine az_al0 (pc := 55) C rfl rfl dX6_init_55 ?_
  refine az_bk6 (pc := 56) C dX6_init_56 ?_
  refine az_newa (pc := 58) (at_ := .int) (ty := .int) C h rfl (by decide) az_ac_int dX6_init_58 (fun h => ?_)
  refine az_putR (pc := 60) (c2 := 13) C fl_X6_36 (Or.inr ⟨rfl, _, _, rfl⟩) rfl rfl rfl dX6_init_60 ?_
  refine az_ik0 (pc := 63) C dX6_init_63 ?_
  refine az_is1 (pc := 64) C rfl rfl dX6_init_64 ?_
  exact (A_X6_init_65 C hD n n h)
set_option maxRecDepth 10000 in
set_option maxHeartbeats 4000000 in
theorem A_X6_init {l : Launch} {d : Nat} (hD : 3 ≤ d) (n : Nat) {σ : az_Hp} {v0 : Int} {r : az_Hp} (h : fz_X6_init n σ v0 = some r) : az_AC l yX6_init cX6_init 2 none d [(8, v0)] σ (none, r) := az_AC.of mt_X6_init rfl rfl rfl (fun Z hZ C => A_X6_init_e C hD n h)
theorem dX8_init_0 : decode cX8_init 0 = .ok (.aload_n 0, 1) := by decide +kernel
theorem dX8_init_1 : decode cX8_init 1 = .ok (.invokespecial 3, 3) := by decide +kernel
theorem dX8_init_4 : decode cX8_init 4 = .ok (.aload_n 0, 1) := by decide +kernel
theorem dX8_init_5 : decode cX8_init 5 = .ok (.iconst 0, 1) := by decide +kernel
theorem dX8_init_6 : decode cX8_init 6 = .ok (.putfield 9, 3) := by decide +kernel
theorem dX8_init_9 : decode cX8_init 9 = .ok (.aload_n 0, 1) := by decide +kernel
theorem dX8_init_10 : decode cX8_init 10 = .ok (.iconst 0, 1) := by decide +kernel
theorem dX8_init_11 : decode cX8_init 11 = .ok (.putfield 15, 3) := by decide +kernel
theorem dX8_init_14 : decode cX8_init 14 = .ok (.aload_n 0, 1) := by decide +kernel
theorem dX8_init_15 : decode cX8_init 15 = .ok (.iconst 0, 1) := by decide +kernel
theorem dX8_init_16 : decode cX8_init 16 = .ok (.putfield 19, 3) := by decide +kernel
theorem dX8_init_19 : decode cX8_init 19 = .ok (.aload_n 0, 1) := by decide +kernel
theorem dX8_init_20 : decode cX8_init 20 = .ok (.iconst (-1), 1) := by decide +kernel
theorem dX8_init_21 : decode cX8_init 21 = .ok (.putfield 22, 3) := by decide +kernel
theorem dX8_init_24 : decode cX8_init 24 = .ok (.aload_n 0, 1) := by decide +kernel
theorem dX8_init_25 : decode cX8_init 25 = .ok (.iconst 0, 1) := by decide +kernel
theorem dX8_init_26 : decode cX8_init 26 = .ok (.putfield 25, 3) := by decide +kernel
theorem dX8_init_29 : decode cX8_init 29 = .ok (.aload_n 0, 1) := by decide +kernel
theorem dX8_init_30 : decode cX8_init 30 = .ok (.iconst 0, 1) := by decide +kernel
theorem dX8_init_31 : decode cX8_init 31 = .ok (.putfield 28, 3) := by decide +kernel
theorem dX8_init_34 : decode cX8_init 34 = .ok (.aload_n 0, 1) := by decide +kernel
theorem dX8_init_35 : decode cX8_init 35 = .ok (.iconst 0, 1) := by decide +kernel
theorem dX8_init_36 : decode cX8_init 36 = .ok (.putfield 31, 3) := by decide +kernel
theorem dX8_init_39 : decode cX8_init 39 = .ok (.aload_n 0, 1) := by decide +kernel
theorem dX8_init_40 : decode cX8_init 40 = .ok (.bipush 6, 2) := by decide +kernel
theorem dX8_init_42 : decode cX8_init 42 = .ok (.newarray .int, 2) := by decide +kernel
theorem dX8_init_44 : decode cX8_init 44 = .ok (.putfield 34, 3) := by decide +kernel
theorem dX8_init_47 : decode cX8_init 47 = .ok (.aload_n 0, 1) := by decide +kernel
theorem dX8_init_48 : decode cX8_init 48 = .ok (.bipush 6, 2) := by decide +kernel
theorem dX8_init_50 : decode cX8_init 50 = .ok (.anewarray 38, 3) := by decide +kernel
theorem dX8_init_53 : decode cX8_init 53 = .ok (.putfield 40, 3) := by decide +kernel
theorem dX8_init_56 : decode cX8_init 56 = .ok (.aload_n 0, 1) := by decide +kernel
theorem dX8_init_57 : decode cX8_init 57 = .ok (.iconst 0, 1) := by decide +kernel
theorem dX8_init_58 : decode cX8_init 58 = .ok (.putfield 44, 3) := by decide +kernel
theorem dX8_init_61 : decode cX8_init 61 = .ok (.aload_n 0, 1) := by decide +kernel
theorem dX8_init_62 : decode cX8_init 62 = .ok (.bipush 100, 2) := by decide +kernel
theorem dX8_init_64 : decode cX8_init 64 = .ok (.newarray .int, 2) := by decide +kernel
theorem dX8_init_66 : decode cX8_init 66 = .ok (.putfield 47, 3) := by decide +kernel
theorem dX8_init_69 : decode cX8_init 69 = .ok (.aload_n 0, 1) := by decide +kernel
theorem dX8_init_70 : decode cX8_init 70 = .ok (.bipush 100, 2) := by decide +kernel
theorem dX8_init_72 : decode cX8_init 72 = .ok (.newarray .int, 2) := by decide +kernel
theorem dX8_init_74 : decode cX8_init 74 = .ok (.putfield 50, 3) := by decide +kernel
theorem dX8_init_77 : decode cX8_init 77 = .ok (.aload_n 0, 1) := by decide +kernel
theorem dX8_init_78 : decode cX8_init 78 = .ok (.bipush 100, 2) := by decide +kernel
theorem dX8_init_80 : decode cX8_init 80 = .ok (.anewarray 38, 3) := by decide +kernel
theorem dX8_init_83 : decode cX8_init 83 = .ok (.putfield 53, 3) := by decide +kernel
theorem dX8_init_86 : decode cX8_init 86 = .ok (.aload_n 0, 1) := by decide +kernel
theorem dX8_init_87 : decode cX8_init 87 = .ok (.bipush 100, 2) := by decide +kernel
theorem dX8_init_89 : decode cX8_init 89 = .ok (.anewarray 38, 3) := by decide +kernel
theorem dX8_init_92 : decode cX8_init 92 = .ok (.putfield 56, 3) := by decide +kernel
theorem dX8_init_95 : decode cX8_init 95 = .ok (.aload_n 0, 1) := by decide +kernel
theorem dX8_init_96 : decode cX8_init 96 = .ok (.bipush 7, 2) := by decide +kernel
theorem dX8_init_98 : decode cX8_init 98 = .ok (.anewarray 38, 3) := by decide +kernel
theorem dX8_init_101 : decode cX8_init 101 = .ok (.putfield 59, 3) := by decide +kernel
theorem dX8_init_104 : decode cX8_init 104 = .ok (.aload_n 0, 1) := by decide +kernel
theorem dX8_init_105 : decode cX8_init 105 = .ok (.bipush 7, 2) := by decide +kernel
theorem dX8_init_107 : decode cX8_init 107 = .ok (.newarray .int, 2) := by decide +kernel
theorem dX8_init_109 : decode cX8_init 109 = .ok (.putfield 62, 3) := by decide +kernel
theorem dX8_init_112 : decode cX8_init 112 = .ok (.iconst 0, 1) := by decide +kernel
theorem dX8_init_113 : decode cX8_init 113 = .ok (.istore_n 1, 1) := by decide +kernel
theorem dX8_init_114 : decode cX8_init 114 = .ok (.iload_n 1, 1) := by decide +kernel
theorem dX8_init_115 : decode cX8_init 115 = .ok (.bipush 100, 2) := by decide +kernel
theorem dX8_init_117 : decode cX8_init 117 = .ok (.if_icmp .ge 46, 3) := by decide +kernel
theorem dX8_init_120 : decode cX8_init 120 = .ok (.aload_n 0, 1) := by decide +kernel
theorem dX8_init_121 : decode cX8_init 121 = .ok (.getfield 47, 3) := by decide +kernel
theorem dX8_init_124 : decode cX8_init 124 = .ok (.iload_n 1, 1) := by decide +kernel
theorem dX8_init_125 : decode cX8_init 125 = .ok (.iload_n 1, 1) := by decide +kernel
theorem dX8_init_126 : decode cX8_init 126 = .ok (.iastore, 1) := by decide +kernel
theorem dX8_init_127 : decode cX8_init 127 = .ok (.aload_n 0, 1) := by decide +kernel
theorem dX8_init_128 : decode cX8_init 128 = .ok (.getfield 53, 3) := by decide +kernel
theorem dX8_init_131 : decode cX8_init 131 = .ok (.iload_n 1, 1) := by decide +kernel
theorem dX8_init_132 : decode cX8_init 132 = .ok (.new 38, 3) := by decide +kernel
theorem dX8_init_135 : decode cX8_init 135 = .ok (.dup, 1) := by decide +kernel
theorem dX8_init_136 : decode cX8_init 136 = .ok (.bipush 60, 2) := by decide +kernel
theorem dX8_init_138 : decode cX8_init 138 = .ok (.invokespecial 65, 3) := by decide +kernel
theorem dX8_init_141 : decode cX8_init 141 = .ok (.aastore, 1) := by decide +kernel
theorem dX8_init_142 : decode cX8_init 142 = .ok (.aload_n 0, 1) := by decide +kernel
theorem dX8_init_143 : decode cX8_init 143 = .ok (.getfield 56, 3) := by decide +kernel
theorem dX8_init_146 : decode cX8_init 146 = .ok (.iload_n 1, 1) := by decide +kernel
theorem dX8_init_147 : decode cX8_init 147 = .ok (.new 38, 3) := by decide +kernel
theorem dX8_init_150 : decode cX8_init 150 = .ok (.dup, 1) := by decide +kernel
theorem dX8_init_151 : decode cX8_init 151 = .ok (.bipush 60, 2) := by decide +kernel
theorem dX8_init_153 : decode cX8_init 153 = .ok (.invokespecial 65, 3) := by decide +kernel
theorem dX8_init_156 : decode cX8_init 156 = .ok (.aastore, 1) := by decide +kernel
theorem dX8_init_157 : decode cX8_init 157 = .ok (.iinc 1 1, 3) := by decide +kernel
theorem dX8_init_160 : decode cX8_init 160 = .ok (.goto (-46), 3) := by decide +kernel
theorem dX8_init_163 : decode cX8_init 163 = .ok (.iconst 0, 1) := by decide +kernel
theorem dX8_init_164 : decode cX8_init 164 = .ok (.istore_n 1, 1) := by decide +kernel
theorem dX8_init_165 : decode cX8_init 165 = .ok (.iload_n 1, 1) := by decide +kernel
theorem dX8_init_166 : decode cX8_init 166 = .ok (.bipush 6, 2) := by decide +kernel
theorem dX8_init_168 : decode cX8_init 168 = .ok (.if_icmp .ge 24, 3) := by decide +kernel
theorem dX8_init_171 : decode cX8_init 171 = .ok (.aload_n 0, 1) := by decide +kernel
theorem dX8_init_172 : decode cX8_init 172 = .ok (.getfield 40, 3) := by decide +kernel
theorem dX8_init_175 : decode cX8_init 175 = .ok (.iload_n 1, 1) := by decide +kernel
theorem dX8_init_176 : decode cX8_init 176 = .ok (.new 38, 3) := by decide +kernel
theorem dX8_init_179 : decode cX8_init 179 = .ok (.dup, 1) := by decide +kernel
theorem dX8_init_180 : decode cX8_init 180 = .ok (.bipush 60, 2) := by decide +kernel
theorem dX8_init_182 : decode cX8_init 182 = .ok (.invokespecial 65, 3) := by decide +kernel
theorem dX8_init_185 : decode cX8_init 185 = .ok (.aastore, 1) := by decide +kernel
theorem dX8_init_186 : decode cX8_init 186 = .ok (.iinc 1 1, 3) := by decide +kernel
theorem dX8_init_189 : decode cX8_init 189 = .ok (.goto (-24), 3) := by decide +kernel
theorem dX8_init_192 : decode cX8_init 192 = .ok (.return_, 1) := by decide +kernel
set_option maxRecDepth 10000 in
set_option maxHeartbeats 4000000 in
theorem A_X8_init_165 {Z : az_Z} {d : Nat} (C : az_C Z yX8_init cX8_init 2 none d) (hD : 3 ≤ d) (n : Nat) (k : Nat) : ∀ {σ : az_Hp} {v0 v1 : Int} {r : az_Hp}, fz_X8_init_165 n k σ v0 v1 = some r → az_AW Z 2 165 [(10, v0), (0, v1)] [] σ (none, r) := by
  have hd1 : 1 ≤ d := by omega
  induction k with
  | zero => intro σ v0 v1 r h; simp [fz_X8_init_165] at h
  | succ k ih =>
    intro σ v0 v1 r h
    unfold fz_X8_init_165 at h
    refine az_il1 (pc := 165) C dX8_init_165 ?_
    refine az_bk6 (pc := 166) C dX8_init_166 ?_
    refine az_icmp_ge (pc := 168) (tgt := 192) C h dX8_init_168 (by decide) (fun _ h => ?_) (fun _ h => ?_)
    · obtain rfl := Option.some.inj h
      exact az_return (pc := 192) C dX8_init_192 rfl
    refine az_al0 (pc := 171) C rfl rfl dX8_init_171 ?_
    refine az_getR (pc := 172) (c2 := 16) C h fl_X8_40 rfl rfl dX8_init_172 (fun h => ?_)
    refine az_il1 (pc := 175) C dX8_init_175 ?_
    refine az_newc (pc := 176) C h az_cl7 rfl cl_X8_38 az_inst7 az_ini7 dX8_init_176 (fun h => ?_)
    refine az_dup (pc := 179) C rfl rfl dX8_init_179 ?_
    refine az_bk60 (pc := 180) C dX8_init_180 ?_
    refine az_cI1 (pc := 182) (c := 7) C hd1 h mi_X7_init ml_X8_65 rfl rfl (fun x hx => A_X7_init (by omega) hx) dX8_init_182 (fun r3 h => ?_)
    refine az_aastore (pc := 185) C h dX8_init_185 (fun h => ?_)
    refine az_ii1 (pc := 186) C az_n1 rfl rfl dX8_init_186 ?_
    refine az_goto (pc := 189) (tgt := 165) C dX8_init_189 (by decide) ?_
    exact (ih h)
set_option maxRecDepth 10000 in
set_option maxHeartbeats 4000000 in
theorem A_X8_init_114 {Z : az_Z} {d : Nat} (C : az_C Z yX8_init cX8_init 2 none d) (hD : 3 ≤ d) (n : Nat) (k : Nat) : ∀ {σ : az_Hp} {v0 v1 : Int} {r : az_Hp}, fz_X8_init_114 n k σ v0 v1 = some r → az_AW Z 2 114 [(10, v0), (0, v1)] [] σ (none, r) := by
  have hd1 : 1 ≤ d := by omega
  induction k with
  | zero => intro σ v0 v1 r h; simp [fz_X8_init_114] at h
  | succ k ih =>
    intro σ v0 v1 r h
    unfold fz_X8_init_114 at h
    refine az_il1 (pc := 114) C dX8_init_114 ?_
    refine az_bk100 (pc := 115) C dX8_init_115 ?_
    refine az_icmp_ge (pc := 117) (tgt := 163) C h dX8_init_117 (by decide) (fun _ h => ?_) (fun _ h => ?_)
    · refine az_ik0 (pc := 163) C dX8_init_163 ?_
      refine az_is1 (pc := 164) C rfl rfl dX8_init_164 ?_
      exact (A_X8_init_165 C hD n n h)
    refine az_al0 (pc := 120) C rfl rfl dX8_init_120 ?_
    refine az_getR (pc := 121) (c2 := 13) C h fl_X8_47 rfl rfl dX8_init_121 (fun h => ?_)
    refine az_il1 (pc := 124) C dX8_init_124 ?_
    refine az_il1 (pc := 125) C dX8_init_125 ?_
    refine az_iastore (pc := 126) C h dX8_init_126 (fun h => ?_)
    refine az_al0 (pc := 127) C rfl rfl dX8_init_127 ?_
    refine az_getR (pc := 128) (c2 := 16) C h fl_X8_53 rfl rfl dX8_init_128 (fun h => ?_)
    refine az_il1 (pc := 131) C dX8_init_131 ?_
    refine az_newc (pc := 132) C h az_cl7 rfl cl_X8_38 az_inst7 az_ini7 dX8_init_132 (fun h => ?_)
    refine az_dup (pc := 135) C rfl rfl dX8_init_135 ?_
    refine az_bk60 (pc := 136) C dX8_init_136 ?_
    refine az_cI1 (pc := 138) (c := 7) C hd1 h mi_X7_init ml_X8_65 rfl rfl (fun x hx => A_X7_init (by omega) hx) dX8_init_138 (fun r5 h => ?_)
    refine az_aastore (pc := 141) C h dX8_init_141 (fun h => ?_)
    refine az_al0 (pc := 142) C rfl rfl dX8_init_142 ?_
    refine az_getR (pc := 143) (c2 := 16) C h fl_X8_56 rfl rfl dX8_init_143 (fun h => ?_)
    refine az_il1 (pc := 146) C dX8_init_146 ?_
    refine az_newc (pc := 147) C h az_cl7 rfl cl_X8_38 az_inst7 az_ini7 dX8_init_147 (fun h => ?_)
    refine az_dup (pc := 150) C rfl rfl dX8_init_150 ?_
    refine az_bk60 (pc := 151) C dX8_init_151 ?_
    refine az_cI1 (pc := 153) (c := 7) C hd1 h mi_X7_init ml_X8_65 rfl rfl (fun x hx => A_X7_init (by omega) hx) dX8_init_153 (fun r9 h => ?_)
    refine az_aastore (pc := 156) C h dX8_init_156 (fun h => ?_)
    refine az_ii1 (pc := 157) C az_n1 rfl rfl dX8_init_157 ?_
    refine az_goto (pc := 160) (tgt := 114) C dX8_init_160 (by decide) ?_
    exact (ih h)
set_option maxRecDepth 10000 in
set_option maxHeartbeats 4000000 in
theorem A_X8_init_e {Z : az_Z} {d : Nat} (C : az_C Z yX8_init cX8_init 2 none d) (hD : 3 ≤ d) (n : Nat) {σ : az_Hp} {v0 : Int} {r : az_Hp} (h : fz_X8_init n σ v0 = some r) : az_AW Z 2 0 [(10, v0), (31, 0)] [] σ (none, r) := by
  have hd1 : 1 ≤ d := by omega
  unfold fz_X8_init at h
  refine az_al0 (pc := 0) C rfl rfl dX8_init_0 ?_
  refine az_objInit (pc := 1) C hd1 rfl ml_X8_3 az_w_obi az_w_obc rfl dX8_init_1 ?_
  refine az_al0 (pc := 4) C rfl rfl dX8_init_4 ?_
  refine az_ik0 (pc := 5) C dX8_init_5 ?_
  refine az_putZc (pc := 6) C (by decide) fl_X8_9 (Or.inl rfl) rfl dX8_init_6 ?_
  refine az_al0 (pc := 9) C rfl rfl dX8_init_9 ?_
  refine az_ik0 (pc := 10) C dX8_init_10 ?_
  refine az_putI (pc := 11) C fl_X8_15 (Or.inl rfl) rfl dX8_init_11 ?_
  refine az_al0 (pc := 14) C rfl rfl dX8_init_14 ?_
  refine az_ik0 (pc := 15) C dX8_init_15 ?_
  refine az_putI (pc := 16) C fl_X8_19 (Or.inl rfl) rfl dX8_init_16 ?_
  refine az_al0 (pc := 19) C rfl rfl dX8_init_19 ?_
  refine az_ikm1 (pc := 20) C dX8_init_20 ?_
  refine az_putI (pc := 21) C fl_X8_22 (Or.inl rfl) rfl dX8_init_21 ?_
  refine az_al0 (pc := 24) C rfl rfl dX8_init_24 ?_
  refine az_ik0 (pc := 25) C dX8_init_25 ?_
  refine az_putI (pc := 26) C fl_X8_25 (Or.inl rfl) rfl dX8_init_26 ?_
  refine az_al0 (pc := 29) C rfl rfl dX8_init_29 ?_
  refine az_ik0 (pc := 30) C dX8_init_30 ?_
  refine az_putI (pc := 31) C fl_X8_28 (Or.inl rfl) rfl dX8_init_31 ?_
  refine az_al0 (pc := 34) C rfl rfl dX8_init_34 ?_
  refine az_ik0 (pc := 35) C dX8_init_35 ?_
  refine az_putI (pc := 36) C fl_X8_31 (Or.inl rfl) rfl dX8_init_36 ?_
  refine az_al0 (pc := 39) C rfl rfl dX8_init_39 ?_
  refine az_bk6 (pc := 40) C dX8_init_40 ?_
  refine az_newa (pc := 42) (at_ := .int) (ty := .int) C h rfl (by decide) az_ac_int dX8_init_42 (fun h => ?_)
  refine az_putR (pc := 44) (c2 := 13) C fl_X8_34 (Or.inr ⟨rfl, _, _, rfl⟩) rfl rfl rfl dX8_init_44 ?_
  refine az_al0 (pc := 47) C rfl rfl dX8_init_47 ?_
  refine az_bk6 (pc := 48) C dX8_init_48 ?_
  refine az_newq (pc := 50) C h cl_X8_38 dX8_init_50 (fun h => ?_)
  refine az_putR (pc := 53) (c2 := 16) C fl_X8_40 (Or.inr ⟨rfl, _, _, rfl⟩) rfl rfl rfl dX8_init_53 ?_
  refine az_al0 (pc := 56) C rfl rfl dX8_init_56 ?_
  refine az_ik0 (pc := 57) C dX8_init_57 ?_
  refine az_putZc (pc := 58) C (by decide) fl_X8_44 (Or.inl rfl) rfl dX8_init_58 ?_
  refine az_al0 (pc := 61) C rfl rfl dX8_init_61 ?_
  refine az_bk100 (pc := 62) C dX8_init_62 ?_
  refine az_newa (pc := 64) (at_ := .int) (ty := .int) C h rfl (by decide) az_ac_int dX8_init_64 (fun h => ?_)
  refine az_putR (pc := 66) (c2 := 13) C fl_X8_47 (Or.inr ⟨rfl, _, _, rfl⟩) rfl rfl rfl dX8_init_66 ?_
  refine az_al0 (pc := 69) C rfl rfl dX8_init_69 ?_
  refine az_bk100 (pc := 70) C dX8_init_70 ?_
  refine az_newa (pc := 72) (at_ := .int) (ty := .int) C h rfl (by decide) az_ac_int dX8_init_72 (fun h => ?_)
  refine az_putR (pc := 74) (c2 := 13) C fl_X8_50 (Or.inr ⟨rfl, _, _, rfl⟩) rfl rfl rfl dX8_init_74 ?_
  refine az_al0 (pc := 77) C rfl rfl dX8_init_77 ?_
  refine az_bk100 (pc := 78) C dX8_init_78 ?_
  refine az_newq (pc := 80) C h cl_X8_38 dX8_init_80 (fun h => ?_)
  refine az_putR (pc := 83) (c2 := 16) C fl_X8_53 (Or.inr ⟨rfl, _, _, rfl⟩) rfl rfl rfl dX8_init_83 ?_
  refine az_al0 (pc := 86) C rfl rfl dX8_init_86 ?_
  refine az_bk100 (pc := 87) C dX8_init_87 ?_
  refine az_newq (pc := 89) C h cl_X8_38 dX8_init_89 (fun h => ?_)
  refine az_putR (pc := 92) (c2 := 16) C fl_X8_56 (Or.inr ⟨rfl, _, _, rfl⟩) rfl rfl rfl dX8_init_92 ?_
  refine az_al0 (pc := 95) C rfl rfl dX8_init_95 ?_
  refine az_bk7 (pc := 96) C dX8_init_96 ?_
  refine az_newq (pc := 98) C h cl_X8_38 dX8_init_98 (fun h => ?_)
  refine az_putR (pc := 101) (c2 := 16) C fl_X8_59 (Or.inr ⟨rfl, _, _, rfl⟩) rfl rfl rfl dX8_init_101 ?_
  refine az_al0 (pc := 104) C rfl rfl dX8_init_104 ?_
  refine az_bk7 (pc := 105) C dX8_init_105 ?_
  refine az_newa (pc := 107) (at_ := .int) (ty := .int) C h rfl (by decide) az_ac_int dX8_init_107 (fun h => ?_)
  refine az_putR (pc := 109) (c2 := 13) C fl_X8_62 (Or.inr ⟨rfl, _, _, rfl⟩) rfl rfl rfl dX8_init_109 ?_
  refine az_ik0 (pc := 112) C dX8_init_112 ?_
  refine az_is1 (pc := 113) C rfl rfl dX8_init_113 ?_
  exact (A_X8_init_114 C hD n n h)
set_option maxRecDepth 10000 in
set_option maxHeartbeats 4000000 in
theorem A_X8_init {l : Launch} {d : Nat} (hD : 3 ≤ d) (n : Nat) {σ : az_Hp} {v0 : Int} {r : az_Hp} (h : fz_X8_init n σ v0 = some r) : az_AC l yX8_init cX8_init 2 none d [(10, v0)] σ (none, r) := az_AC.of mt_X8_init rfl rfl rfl (fun Z hZ C => A_X8_init_e C hD n h)
