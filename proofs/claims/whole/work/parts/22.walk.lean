theorem dX3_putJoined_0 : decode cX3_putJoined 0 = .ok (.iconst 0, 1) := by decide +kernel
theorem dX3_putJoined_1 : decode cX3_putJoined 1 = .ok (.istore 4, 2) := by decide +kernel
theorem dX3_putJoined_3 : decode cX3_putJoined 3 = .ok (.iload_n 2, 1) := by decide +kernel
theorem dX3_putJoined_4 : decode cX3_putJoined 4 = .ok (.ifCond .lt 13, 3) := by decide +kernel
theorem dX3_putJoined_7 : decode cX3_putJoined 7 = .ok (.aload_n 0, 1) := by decide +kernel
theorem dX3_putJoined_8 : decode cX3_putJoined 8 = .ok (.getfield 19, 3) := by decide +kernel
theorem dX3_putJoined_11 : decode cX3_putJoined 11 = .ok (.iconst 0, 1) := by decide +kernel
theorem dX3_putJoined_12 : decode cX3_putJoined 12 = .ok (.iload_n 2, 1) := by decide +kernel
theorem dX3_putJoined_13 : decode cX3_putJoined 13 = .ok (.iastore, 1) := by decide +kernel
theorem dX3_putJoined_14 : decode cX3_putJoined 14 = .ok (.iconst 1, 1) := by decide +kernel
theorem dX3_putJoined_15 : decode cX3_putJoined 15 = .ok (.istore 4, 2) := by decide +kernel
theorem dX3_putJoined_17 : decode cX3_putJoined 17 = .ok (.iconst 0, 1) := by decide +kernel
theorem dX3_putJoined_18 : decode cX3_putJoined 18 = .ok (.istore 5, 2) := by decide +kernel
theorem dX3_putJoined_20 : decode cX3_putJoined 20 = .ok (.iload 5, 2) := by decide +kernel
theorem dX3_putJoined_22 : decode cX3_putJoined 22 = .ok (.ldc 22, 2) := by decide +kernel
theorem dX3_putJoined_24 : decode cX3_putJoined 24 = .ok (.if_icmp .ge 185, 3) := by decide +kernel
theorem dX3_putJoined_27 : decode cX3_putJoined 27 = .ok (.iload 4, 2) := by decide +kernel
theorem dX3_putJoined_29 : decode cX3_putJoined 29 = .ok (.ifCond .le 180, 3) := by decide +kernel
theorem dX3_putJoined_32 : decode cX3_putJoined 32 = .ok (.iinc 4 (-1), 3) := by decide +kernel
theorem dX3_putJoined_35 : decode cX3_putJoined 35 = .ok (.aload_n 0, 1) := by decide +kernel
theorem dX3_putJoined_36 : decode cX3_putJoined 36 = .ok (.getfield 19, 3) := by decide +kernel
theorem dX3_putJoined_39 : decode cX3_putJoined 39 = .ok (.iload 4, 2) := by decide +kernel
theorem dX3_putJoined_41 : decode cX3_putJoined 41 = .ok (.iaload, 1) := by decide +kernel
theorem dX3_putJoined_42 : decode cX3_putJoined 42 = .ok (.istore 6, 2) := by decide +kernel
theorem dX3_putJoined_44 : decode cX3_putJoined 44 = .ok (.iload 6, 2) := by decide +kernel
theorem dX3_putJoined_46 : decode cX3_putJoined 46 = .ok (.ifCond .ge 23, 3) := by decide +kernel
theorem dX3_putJoined_49 : decode cX3_putJoined 49 = .ok (.aload_n 0, 1) := by decide +kernel
theorem dX3_putJoined_50 : decode cX3_putJoined 50 = .ok (.iload 6, 2) := by decide +kernel
theorem dX3_putJoined_52 : decode cX3_putJoined 52 = .ok (.iconst (-1), 1) := by decide +kernel
theorem dX3_putJoined_53 : decode cX3_putJoined 53 = .ok (.if_icmp .ne 8, 3) := by decide +kernel
theorem dX3_putJoined_56 : decode cX3_putJoined 56 = .ok (.bipush 44, 2) := by decide +kernel
theorem dX3_putJoined_58 : decode cX3_putJoined 58 = .ok (.goto 5, 3) := by decide +kernel
theorem dX3_putJoined_61 : decode cX3_putJoined 61 = .ok (.bipush 41, 2) := by decide +kernel
theorem dX3_putJoined_63 : decode cX3_putJoined 63 = .ok (.invokevirtual 30, 3) := by decide +kernel
theorem dX3_putJoined_66 : decode cX3_putJoined 66 = .ok (.goto 137, 3) := by decide +kernel
theorem dX3_putJoined_69 : decode cX3_putJoined 69 = .ok (.aload_n 1, 1) := by decide +kernel
theorem dX3_putJoined_70 : decode cX3_putJoined 70 = .ok (.iload 6, 2) := by decide +kernel
theorem dX3_putJoined_72 : decode cX3_putJoined 72 = .ok (.invokevirtual 63, 3) := by decide +kernel
theorem dX3_putJoined_75 : decode cX3_putJoined 75 = .ok (.istore 7, 2) := by decide +kernel
theorem dX3_putJoined_77 : decode cX3_putJoined 77 = .ok (.iload 7, 2) := by decide +kernel
theorem dX3_putJoined_79 : decode cX3_putJoined 79 = .ok (.ifCond .ge 17, 3) := by decide +kernel
theorem dX3_putJoined_82 : decode cX3_putJoined 82 = .ok (.aload_n 0, 1) := by decide +kernel
theorem dX3_putJoined_83 : decode cX3_putJoined 83 = .ok (.bipush 97, 2) := by decide +kernel
theorem dX3_putJoined_85 : decode cX3_putJoined 85 = .ok (.iload 7, 2) := by decide +kernel
theorem dX3_putJoined_87 : decode cX3_putJoined 87 = .ok (.iconst (-1), 1) := by decide +kernel
theorem dX3_putJoined_88 : decode cX3_putJoined 88 = .ok (.ixor, 1) := by decide +kernel
theorem dX3_putJoined_89 : decode cX3_putJoined 89 = .ok (.iadd, 1) := by decide +kernel
theorem dX3_putJoined_90 : decode cX3_putJoined 90 = .ok (.invokevirtual 30, 3) := by decide +kernel
theorem dX3_putJoined_93 : decode cX3_putJoined 93 = .ok (.goto 110, 3) := by decide +kernel
theorem dX3_putJoined_96 : decode cX3_putJoined 96 = .ok (.aload_n 0, 1) := by decide +kernel
theorem dX3_putJoined_97 : decode cX3_putJoined 97 = .ok (.aload_n 3, 1) := by decide +kernel
theorem dX3_putJoined_98 : decode cX3_putJoined 98 = .ok (.iload 7, 2) := by decide +kernel
theorem dX3_putJoined_100 : decode cX3_putJoined 100 = .ok (.invokevirtual 58, 3) := by decide +kernel
theorem dX3_putJoined_103 : decode cX3_putJoined 103 = .ok (.bipush 65, 2) := by decide +kernel
theorem dX3_putJoined_105 : decode cX3_putJoined 105 = .ok (.invokevirtual 48, 3) := by decide +kernel
theorem dX3_putJoined_108 : decode cX3_putJoined 108 = .ok (.iload 7, 2) := by decide +kernel
theorem dX3_putJoined_110 : decode cX3_putJoined 110 = .ok (.invokestatic 44, 3) := by decide +kernel
theorem dX3_putJoined_113 : decode cX3_putJoined 113 = .ok (.istore 8, 2) := by decide +kernel
theorem dX3_putJoined_115 : decode cX3_putJoined 115 = .ok (.iload 8, 2) := by decide +kernel
theorem dX3_putJoined_117 : decode cX3_putJoined 117 = .ok (.ifCond .eq 86, 3) := by decide +kernel
theorem dX3_putJoined_120 : decode cX3_putJoined 120 = .ok (.iload 4, 2) := by decide +kernel
theorem dX3_putJoined_122 : decode cX3_putJoined 122 = .ok (.iconst 2, 1) := by decide +kernel
theorem dX3_putJoined_123 : decode cX3_putJoined 123 = .ok (.iload 8, 2) := by decide +kernel
theorem dX3_putJoined_125 : decode cX3_putJoined 125 = .ok (.imul, 1) := by decide +kernel
theorem dX3_putJoined_126 : decode cX3_putJoined 126 = .ok (.iadd, 1) := by decide +kernel
theorem dX3_putJoined_127 : decode cX3_putJoined 127 = .ok (.aload_n 0, 1) := by decide +kernel
theorem dX3_putJoined_128 : decode cX3_putJoined 128 = .ok (.getfield 19, 3) := by decide +kernel
theorem dX3_putJoined_131 : decode cX3_putJoined 131 = .ok (.arraylength, 1) := by decide +kernel
theorem dX3_putJoined_132 : decode cX3_putJoined 132 = .ok (.if_icmp .le 6, 3) := by decide +kernel
theorem dX3_putJoined_135 : decode cX3_putJoined 135 = .ok (.goto 68, 3) := by decide +kernel
theorem dX3_putJoined_138 : decode cX3_putJoined 138 = .ok (.aload_n 0, 1) := by decide +kernel
theorem dX3_putJoined_139 : decode cX3_putJoined 139 = .ok (.bipush 40, 2) := by decide +kernel
theorem dX3_putJoined_141 : decode cX3_putJoined 141 = .ok (.invokevirtual 30, 3) := by decide +kernel
theorem dX3_putJoined_144 : decode cX3_putJoined 144 = .ok (.iload 8, 2) := by decide +kernel
theorem dX3_putJoined_146 : decode cX3_putJoined 146 = .ok (.iconst 1, 1) := by decide +kernel
theorem dX3_putJoined_147 : decode cX3_putJoined 147 = .ok (.isub, 1) := by decide +kernel
theorem dX3_putJoined_148 : decode cX3_putJoined 148 = .ok (.istore 9, 2) := by decide +kernel
theorem dX3_putJoined_150 : decode cX3_putJoined 150 = .ok (.iload 9, 2) := by decide +kernel
theorem dX3_putJoined_152 : decode cX3_putJoined 152 = .ok (.ifCond .lt 51, 3) := by decide +kernel
theorem dX3_putJoined_155 : decode cX3_putJoined 155 = .ok (.aload_n 0, 1) := by decide +kernel
theorem dX3_putJoined_156 : decode cX3_putJoined 156 = .ok (.getfield 19, 3) := by decide +kernel
theorem dX3_putJoined_159 : decode cX3_putJoined 159 = .ok (.iload 4, 2) := by decide +kernel
theorem dX3_putJoined_161 : decode cX3_putJoined 161 = .ok (.iload 9, 2) := by decide +kernel
theorem dX3_putJoined_163 : decode cX3_putJoined 163 = .ok (.iload 8, 2) := by decide +kernel
theorem dX3_putJoined_165 : decode cX3_putJoined 165 = .ok (.iconst 1, 1) := by decide +kernel
theorem dX3_putJoined_166 : decode cX3_putJoined 166 = .ok (.isub, 1) := by decide +kernel
theorem dX3_putJoined_167 : decode cX3_putJoined 167 = .ok (.if_icmp .ne 8, 3) := by decide +kernel
theorem dX3_putJoined_170 : decode cX3_putJoined 170 = .ok (.bipush (-2), 2) := by decide +kernel
theorem dX3_putJoined_172 : decode cX3_putJoined 172 = .ok (.goto 4, 3) := by decide +kernel
theorem dX3_putJoined_175 : decode cX3_putJoined 175 = .ok (.iconst (-1), 1) := by decide +kernel
theorem dX3_putJoined_176 : decode cX3_putJoined 176 = .ok (.iastore, 1) := by decide +kernel
theorem dX3_putJoined_177 : decode cX3_putJoined 177 = .ok (.aload_n 0, 1) := by decide +kernel
theorem dX3_putJoined_178 : decode cX3_putJoined 178 = .ok (.getfield 19, 3) := by decide +kernel
theorem dX3_putJoined_181 : decode cX3_putJoined 181 = .ok (.iload 4, 2) := by decide +kernel
theorem dX3_putJoined_183 : decode cX3_putJoined 183 = .ok (.iconst 1, 1) := by decide +kernel
theorem dX3_putJoined_184 : decode cX3_putJoined 184 = .ok (.iadd, 1) := by decide +kernel
theorem dX3_putJoined_185 : decode cX3_putJoined 185 = .ok (.aload_n 1, 1) := by decide +kernel
theorem dX3_putJoined_186 : decode cX3_putJoined 186 = .ok (.iload 6, 2) := by decide +kernel
theorem dX3_putJoined_188 : decode cX3_putJoined 188 = .ok (.iload 9, 2) := by decide +kernel
theorem dX3_putJoined_190 : decode cX3_putJoined 190 = .ok (.invokevirtual 68, 3) := by decide +kernel
theorem dX3_putJoined_193 : decode cX3_putJoined 193 = .ok (.iastore, 1) := by decide +kernel
theorem dX3_putJoined_194 : decode cX3_putJoined 194 = .ok (.iinc 4 2, 3) := by decide +kernel
theorem dX3_putJoined_197 : decode cX3_putJoined 197 = .ok (.iinc 9 (-1), 3) := by decide +kernel
theorem dX3_putJoined_200 : decode cX3_putJoined 200 = .ok (.goto (-50), 3) := by decide +kernel
theorem dX3_putJoined_203 : decode cX3_putJoined 203 = .ok (.iinc 5 1, 3) := by decide +kernel
theorem dX3_putJoined_206 : decode cX3_putJoined 206 = .ok (.goto (-186), 3) := by decide +kernel
theorem dX3_putJoined_209 : decode cX3_putJoined 209 = .ok (.return_, 1) := by decide +kernel
set_option maxRecDepth 10000 in
set_option maxHeartbeats 4000000 in
theorem A_X3_putJoined_176 {Z : az_Z} {d : Nat} (C : az_C Z yX3_putJoined cX3_putJoined 10 none d) (hD : 4 ≤ d) (n : Nat) {k20 : az_Hp → Int → Int → Int → Int → Int → Option az_Hp} (hk20 : ∀ {σ : az_Hp} {v0 v1 v3 v4 v5 : Int} {r : az_Hp}, k20 σ v0 v1 v3 v4 v5 = some r → az_AW Z 10 20 [(5, v0), (2, v1), (31, 0), (11, v3), (0, v4), (0, v5), (31, 0), (31, 0), (31, 0), (31, 0)] [] σ (none, r)) {k150 : az_Hp → Int → Int → Int → Int → Int → Int → Int → Int → Option az_Hp} (hk150 : ∀ {σ : az_Hp} {v0 v1 v3 v4 v5 v6 v8 v9 : Int} {r : az_Hp}, k150 σ v0 v1 v3 v4 v5 v6 v8 v9 = some r → az_AW Z 10 150 [(5, v0), (2, v1), (31, 0), (11, v3), (0, v4), (0, v5), (0, v6), (31, 0), (0, v8), (0, v9)] [] σ (none, r)) {σ : az_Hp} {v0 v1 v3 v4 v5 v6 v8 v9 w0 w1 w2 : Int} {r : az_Hp} (h : fz_X3_putJoined_176 n k20 k150 σ v0 v1 v3 v4 v5 v6 v8 v9 w0 w1 w2 = some r) : az_AW Z 10 176 [(5, v0), (2, v1), (31, 0), (11, v3), (0, v4), (0, v5), (0, v6), (31, 0), (0, v8), (0, v9)] [(0, w2), (0, w1), (15, w0)] σ (none, r) := by
  have hd1 : 1 ≤ d := by omega
  unfold fz_X3_putJoined_176 at h
  refine az_iastore (pc := 176) C h dX3_putJoined_176 (fun h => ?_)
  refine az_al0 (pc := 177) C rfl rfl dX3_putJoined_177 ?_
  refine az_getR (pc := 178) (c2 := 13) C h fl_X3_19 rfl rfl dX3_putJoined_178 (fun h => ?_)
  refine az_il4 (pc := 181) C dX3_putJoined_181 ?_
  refine az_ik1 (pc := 183) C dX3_putJoined_183 ?_
  refine az_iadd (pc := 184) C dX3_putJoined_184 ?_
  refine az_al1 (pc := 185) C rfl rfl dX3_putJoined_185 ?_
  refine az_il6 (pc := 186) C dX3_putJoined_186 ?_
  refine az_il9 (pc := 188) C dX3_putJoined_188 ?_
  refine az_cV2pi (pc := 190) (c := 0) C hd1 h mv_X0_joinedKid ml_X3_68 rfl (fun x hx => A_X0_joinedKid (by omega) n hx) dX3_putJoined_190 (fun r3 h => ?_)
  refine az_iastore (pc := 193) C h dX3_putJoined_193 (fun h => ?_)
  refine az_ii4 (pc := 194) C az_n2 rfl rfl dX3_putJoined_194 ?_
  refine az_ii9 (pc := 197) C az_nm1 rfl rfl dX3_putJoined_197 ?_
  refine az_goto (pc := 200) (tgt := 150) C dX3_putJoined_200 (by decide) ?_
  exact (hk150 h)
set_option maxRecDepth 10000 in
set_option maxHeartbeats 4000000 in
theorem A_X3_putJoined_150 {Z : az_Z} {d : Nat} (C : az_C Z yX3_putJoined cX3_putJoined 10 none d) (hD : 4 ≤ d) (n : Nat) {k20 : az_Hp → Int → Int → Int → Int → Int → Option az_Hp} (hk20 : ∀ {σ : az_Hp} {v0 v1 v3 v4 v5 : Int} {r : az_Hp}, k20 σ v0 v1 v3 v4 v5 = some r → az_AW Z 10 20 [(5, v0), (2, v1), (31, 0), (11, v3), (0, v4), (0, v5), (31, 0), (31, 0), (31, 0), (31, 0)] [] σ (none, r)) (k : Nat) : ∀ {σ : az_Hp} {v0 v1 v3 v4 v5 v6 v8 v9 : Int} {r : az_Hp}, fz_X3_putJoined_150 n k20 k σ v0 v1 v3 v4 v5 v6 v8 v9 = some r → az_AW Z 10 150 [(5, v0), (2, v1), (31, 0), (11, v3), (0, v4), (0, v5), (0, v6), (31, 0), (0, v8), (0, v9)] [] σ (none, r) := by
  have hd1 : 1 ≤ d := by omega
  induction k with
  | zero => intro σ v0 v1 v3 v4 v5 v6 v8 v9 r h; simp [fz_X3_putJoined_150] at h
  | succ k ih =>
    intro σ v0 v1 v3 v4 v5 v6 v8 v9 r h
    unfold fz_X3_putJoined_150 at h
    refine az_il9 (pc := 150) C dX3_putJoined_150 ?_
    refine az_if_lt (pc := 152) (tgt := 203) C h dX3_putJoined_152 (by decide) (fun _ h => ?_) (fun _ h => ?_)
    · refine az_ii5 (pc := 203) C az_n1 rfl rfl dX3_putJoined_203 ?_
      refine az_goto (pc := 206) (tgt := 20) C dX3_putJoined_206 (by decide) ?_
      exact (az_wkk (hk20 h) (az_sE (az_sE (az_sJ (az_sE (az_sE (az_sE (az_sJ (az_sJ (az_sJ (az_sJ az_sN)))))))))))
    refine az_al0 (pc := 155) C rfl rfl dX3_putJoined_155 ?_
    refine az_getR (pc := 156) (c2 := 13) C h fl_X3_19 rfl rfl dX3_putJoined_156 (fun h => ?_)
    refine az_il4 (pc := 159) C dX3_putJoined_159 ?_
    refine az_il9 (pc := 161) C dX3_putJoined_161 ?_
    refine az_il8 (pc := 163) C dX3_putJoined_163 ?_
    refine az_ik1 (pc := 165) C dX3_putJoined_165 ?_
    refine az_isub (pc := 166) C dX3_putJoined_166 ?_
    refine az_icmp_ne (pc := 167) (tgt := 175) C h dX3_putJoined_167 (by decide) (fun _ h => ?_) (fun _ h => ?_)
    · refine az_ikm1 (pc := 175) C dX3_putJoined_175 ?_
      exact (A_X3_putJoined_176 C hD n (fun h => hk20 h) (fun h => ih h) h)
    refine az_bkm2 (pc := 170) C dX3_putJoined_170 ?_
    refine az_goto (pc := 172) (tgt := 176) C dX3_putJoined_172 (by decide) ?_
    exact (A_X3_putJoined_176 C hD n (fun h => hk20 h) (fun h => ih h) h)
set_option maxRecDepth 10000 in
set_option maxHeartbeats 4000000 in
theorem A_X3_putJoined_20 {Z : az_Z} {d : Nat} (C : az_C Z yX3_putJoined cX3_putJoined 10 none d) (hD : 4 ≤ d) (n : Nat) (k : Nat) : ∀ {σ : az_Hp} {v0 v1 v3 v4 v5 : Int} {r : az_Hp}, fz_X3_putJoined_20 n k σ v0 v1 v3 v4 v5 = some r → az_AW Z 10 20 [(5, v0), (2, v1), (31, 0), (11, v3), (0, v4), (0, v5), (31, 0), (31, 0), (31, 0), (31, 0)] [] σ (none, r) := by
  have hd1 : 1 ≤ d := by omega
  induction k with
  | zero => intro σ v0 v1 v3 v4 v5 r h; simp [fz_X3_putJoined_20] at h
  | succ k ih =>
    intro σ v0 v1 v3 v4 v5 r h
    unfold fz_X3_putJoined_20 at h
    refine az_il5 (pc := 20) C dX3_putJoined_20 ?_
    refine az_ldc (pc := 22) (x := 1000000) C ct_X3_22 dX3_putJoined_22 (by decide) ?_
    refine az_icmp_ge (pc := 24) (tgt := 209) C h dX3_putJoined_24 (by decide) (fun _ h => ?_) (fun _ h => ?_)
    · obtain rfl := Option.some.inj h
      exact az_return (pc := 209) C dX3_putJoined_209 rfl
    refine az_il4 (pc := 27) C dX3_putJoined_27 ?_
    refine az_if_le (pc := 29) (tgt := 209) C h dX3_putJoined_29 (by decide) (fun _ h => ?_) (fun _ h => ?_)
    · obtain rfl := Option.some.inj h
      exact az_return (pc := 209) C dX3_putJoined_209 rfl
    refine az_ii4 (pc := 32) C az_nm1 rfl rfl dX3_putJoined_32 ?_
    refine az_al0 (pc := 35) C rfl rfl dX3_putJoined_35 ?_
    refine az_getR (pc := 36) (c2 := 13) C h fl_X3_19 rfl rfl dX3_putJoined_36 (fun h => ?_)
    refine az_il4 (pc := 39) C dX3_putJoined_39 ?_
    refine az_iaload (pc := 41) C h dX3_putJoined_41 (fun h => ?_)
    refine az_is6 (pc := 42) C rfl rfl dX3_putJoined_42 ?_
    refine az_il6 (pc := 44) C dX3_putJoined_44 ?_
    refine az_if_ge (pc := 46) (tgt := 69) C h dX3_putJoined_46 (by decide) (fun _ h => ?_) (fun _ h => ?_)
    · refine az_al1 (pc := 69) C rfl rfl dX3_putJoined_69 ?_
      refine az_il6 (pc := 70) C dX3_putJoined_70 ?_
      refine az_cV1pi (pc := 72) (c := 0) C hd1 h mv_X0_joinedCode ml_X3_63 rfl (fun x hx => A_X0_joinedCode (by omega) n hx) dX3_putJoined_72 (fun r3 h => ?_)
      refine az_is7 (pc := 75) C rfl rfl dX3_putJoined_75 ?_
      refine az_il7 (pc := 77) C dX3_putJoined_77 ?_
      refine az_if_ge (pc := 79) (tgt := 96) C h dX3_putJoined_79 (by decide) (fun _ h => ?_) (fun _ h => ?_)
      · refine az_al0 (pc := 96) C rfl rfl dX3_putJoined_96 ?_
        refine az_al3 (pc := 97) C rfl rfl dX3_putJoined_97 ?_
        refine az_il7 (pc := 98) C dX3_putJoined_98 ?_
        refine az_cV1pi (pc := 100) (c := 9) C hd1 h mv_X9_nameOf ml_X3_58 rfl (fun x hx => A_X9_nameOf (by omega) hx) dX3_putJoined_100 (fun r4 h => ?_)
        refine az_bk65 (pc := 103) C dX3_putJoined_103 ?_
        refine az_cV2v (pc := 105) (c := 3) C hd1 h mv_X3_putLetters ml_X3_48 rfl (fun x hx => A_X3_putLetters (by omega) n hx) dX3_putJoined_105 (fun r5 h => ?_)
        refine az_il7 (pc := 108) C dX3_putJoined_108 ?_
        refine az_cS1pi (pc := 110) C hd1 h ms_X7_arity ml_X3_44 rfl (fun x hx => A_X7_arity (by omega) hx) dX3_putJoined_110 (fun r6 h => ?_)
        refine az_is8 (pc := 113) C rfl rfl dX3_putJoined_113 ?_
        refine az_il8 (pc := 115) C dX3_putJoined_115 ?_
        refine az_if_eq (pc := 117) (tgt := 203) C h dX3_putJoined_117 (by decide) (fun _ h => ?_) (fun _ h => ?_)
        · refine az_ii5 (pc := 203) C az_n1 rfl rfl dX3_putJoined_203 ?_
          refine az_goto (pc := 206) (tgt := 20) C dX3_putJoined_206 (by decide) ?_
          exact (az_wkk (ih h) (az_sE (az_sE (az_sJ (az_sE (az_sE (az_sE (az_sJ (az_sJ (az_sJ (az_sJ az_sN)))))))))))
        refine az_il4 (pc := 120) C dX3_putJoined_120 ?_
        refine az_ik2 (pc := 122) C dX3_putJoined_122 ?_
        refine az_il8 (pc := 123) C dX3_putJoined_123 ?_
        refine az_imul (pc := 125) C dX3_putJoined_125 ?_
        refine az_iadd (pc := 126) C dX3_putJoined_126 ?_
        refine az_al0 (pc := 127) C rfl rfl dX3_putJoined_127 ?_
        refine az_getR (pc := 128) (c2 := 13) C h fl_X3_19 rfl rfl dX3_putJoined_128 (fun h => ?_)
        refine az_arraylength (pc := 131) (k := 13) C rfl rfl dX3_putJoined_131 ?_
        refine az_icmp_le (pc := 132) (tgt := 138) C h dX3_putJoined_132 (by decide) (fun _ h => ?_) (fun _ h => ?_)
        · refine az_al0 (pc := 138) C rfl rfl dX3_putJoined_138 ?_
          refine az_bk40 (pc := 139) C dX3_putJoined_139 ?_
          refine az_cV1v (pc := 141) (c := 3) C hd1 h mv_X3_put ml_X3_30 rfl (fun x hx => A_X3_put (by omega) hx) dX3_putJoined_141 (fun r8 h => ?_)
          refine az_il8 (pc := 144) C dX3_putJoined_144 ?_
          refine az_ik1 (pc := 146) C dX3_putJoined_146 ?_
          refine az_isub (pc := 147) C dX3_putJoined_147 ?_
          refine az_is9 (pc := 148) C rfl rfl dX3_putJoined_148 ?_
          exact (az_wkk (A_X3_putJoined_150 C hD n (fun h => ih h) n h) (az_sE (az_sE (az_sJ (az_sE (az_sE (az_sE (az_sE (az_sJ (az_sE (az_sE az_sN)))))))))))
        refine az_goto (pc := 135) (tgt := 203) C dX3_putJoined_135 (by decide) ?_
        refine az_ii5 (pc := 203) C az_n1 rfl rfl dX3_putJoined_203 ?_
        refine az_goto (pc := 206) (tgt := 20) C dX3_putJoined_206 (by decide) ?_
        exact (az_wkk (ih h) (az_sE (az_sE (az_sJ (az_sE (az_sE (az_sE (az_sJ (az_sJ (az_sJ (az_sJ az_sN)))))))))))
      refine az_al0 (pc := 82) C rfl rfl dX3_putJoined_82 ?_
      refine az_bk97 (pc := 83) C dX3_putJoined_83 ?_
      refine az_il7 (pc := 85) C dX3_putJoined_85 ?_
      refine az_ikm1 (pc := 87) C dX3_putJoined_87 ?_
      refine az_ixor (pc := 88) C dX3_putJoined_88 ?_
      refine az_iadd (pc := 89) C dX3_putJoined_89 ?_
      refine az_cV1v (pc := 90) (c := 3) C hd1 h mv_X3_put ml_X3_30 rfl (fun x hx => A_X3_put (by omega) hx) dX3_putJoined_90 (fun r9 h => ?_)
      refine az_goto (pc := 93) (tgt := 203) C dX3_putJoined_93 (by decide) ?_
      refine az_ii5 (pc := 203) C az_n1 rfl rfl dX3_putJoined_203 ?_
      refine az_goto (pc := 206) (tgt := 20) C dX3_putJoined_206 (by decide) ?_
      exact (az_wkk (ih h) (az_sE (az_sE (az_sJ (az_sE (az_sE (az_sE (az_sJ (az_sJ (az_sJ (az_sJ az_sN)))))))))))
    refine az_al0 (pc := 49) C rfl rfl dX3_putJoined_49 ?_
    refine az_il6 (pc := 50) C dX3_putJoined_50 ?_
    refine az_ikm1 (pc := 52) C dX3_putJoined_52 ?_
    refine az_icmp_ne (pc := 53) (tgt := 61) C h dX3_putJoined_53 (by decide) (fun _ h => ?_) (fun _ h => ?_)
    · refine az_bk41 (pc := 61) C dX3_putJoined_61 ?_
      refine az_cV1v (pc := 63) (c := 3) C hd1 h mv_X3_put ml_X3_30 rfl (fun x hx => A_X3_put (by omega) hx) dX3_putJoined_63 (fun r10 h => ?_)
      refine az_goto (pc := 66) (tgt := 203) C dX3_putJoined_66 (by decide) ?_
      refine az_ii5 (pc := 203) C az_n1 rfl rfl dX3_putJoined_203 ?_
      refine az_goto (pc := 206) (tgt := 20) C dX3_putJoined_206 (by decide) ?_
      exact (az_wkk (ih h) (az_sE (az_sE (az_sJ (az_sE (az_sE (az_sE (az_sJ (az_sJ (az_sJ (az_sJ az_sN)))))))))))
    refine az_bk44 (pc := 56) C dX3_putJoined_56 ?_
    refine az_goto (pc := 58) (tgt := 63) C dX3_putJoined_58 (by decide) ?_
    refine az_cV1v (pc := 63) (c := 3) C hd1 h mv_X3_put ml_X3_30 rfl (fun x hx => A_X3_put (by omega) hx) dX3_putJoined_63 (fun r11 h => ?_)
    refine az_goto (pc := 66) (tgt := 203) C dX3_putJoined_66 (by decide) ?_
    refine az_ii5 (pc := 203) C az_n1 rfl rfl dX3_putJoined_203 ?_
    refine az_goto (pc := 206) (tgt := 20) C dX3_putJoined_206 (by decide) ?_
    exact (az_wkk (ih h) (az_sE (az_sE (az_sJ (az_sE (az_sE (az_sE (az_sJ (az_sJ (az_sJ (az_sJ az_sN)))))))))))
set_option maxRecDepth 10000 in
set_option maxHeartbeats 4000000 in
theorem A_X3_putJoined_e {Z : az_Z} {d : Nat} (C : az_C Z yX3_putJoined cX3_putJoined 10 none d) (hD : 4 ≤ d) (n : Nat) {σ : az_Hp} {v0 v1 v2 v3 : Int} {r : az_Hp} (h : fz_X3_putJoined n σ v0 v1 v2 v3 = some r) : az_AW Z 10 0 [(5, v0), (2, v1), (0, v2), (11, v3), (31, 0), (31, 0), (31, 0), (31, 0), (31, 0), (31, 0)] [] σ (none, r) := by
  have hd1 : 1 ≤ d := by omega
  unfold fz_X3_putJoined at h
  refine az_ik0 (pc := 0) C dX3_putJoined_0 ?_
  refine az_is4 (pc := 1) C rfl rfl dX3_putJoined_1 ?_
  refine az_il2 (pc := 3) C dX3_putJoined_3 ?_
  refine az_if_lt (pc := 4) (tgt := 17) C h dX3_putJoined_4 (by decide) (fun _ h => ?_) (fun _ h => ?_)
  · refine az_ik0 (pc := 17) C dX3_putJoined_17 ?_
    refine az_is5 (pc := 18) C rfl rfl dX3_putJoined_18 ?_
    exact (az_wkk (A_X3_putJoined_20 C hD n n h) (az_sE (az_sE (az_sJ (az_sE (az_sE (az_sE (az_sJ (az_sJ (az_sJ (az_sJ az_sN)))))))))))
  refine az_al0 (pc := 7) C rfl rfl dX3_putJoined_7 ?_
  refine az_getR (pc := 8) (c2 := 13) C h fl_X3_19 rfl rfl dX3_putJoined_8 (fun h => ?_)
  refine az_ik0 (pc := 11) C dX3_putJoined_11 ?_
  refine az_il2 (pc := 12) C dX3_putJoined_12 ?_
  refine az_iastore (pc := 13) C h dX3_putJoined_13 (fun h => ?_)
  refine az_ik1 (pc := 14) C dX3_putJoined_14 ?_
  refine az_is4 (pc := 15) C rfl rfl dX3_putJoined_15 ?_
  refine az_ik0 (pc := 17) C dX3_putJoined_17 ?_
  refine az_is5 (pc := 18) C rfl rfl dX3_putJoined_18 ?_
  exact (az_wkk (A_X3_putJoined_20 C hD n n h) (az_sE (az_sE (az_sJ (az_sE (az_sE (az_sE (az_sJ (az_sJ (az_sJ (az_sJ az_sN)))))))))))
set_option maxRecDepth 10000 in
set_option maxHeartbeats 4000000 in
theorem A_X3_putJoined {l : Launch} {d : Nat} (hD : 4 ≤ d) (n : Nat) {σ : az_Hp} {v0 v1 v2 v3 : Int} {r : az_Hp} (h : fz_X3_putJoined n σ v0 v1 v2 v3 = some r) : az_AC l yX3_putJoined cX3_putJoined 10 none d [(5, v0), (2, v1), (0, v2), (11, v3)] σ (none, r) := az_AC.of mt_X3_putJoined rfl rfl rfl (fun Z hZ C => A_X3_putJoined_e C hD n h)
theorem dX10_ends_0 : decode cX10_ends 0 = .ok (.iload_n 3, 1) := by decide +kernel
theorem dX10_ends_1 : decode cX10_ends 1 = .ok (.ifCond .eq 14, 3) := by decide +kernel
theorem dX10_ends_4 : decode cX10_ends 4 = .ok (.iload_n 3, 1) := by decide +kernel
theorem dX10_ends_5 : decode cX10_ends 5 = .ok (.iconst 1, 1) := by decide +kernel
theorem dX10_ends_6 : decode cX10_ends 6 = .ok (.if_icmp .eq 9, 3) := by decide +kernel
theorem dX10_ends_9 : decode cX10_ends 9 = .ok (.aload_n 0, 1) := by decide +kernel
theorem dX10_ends_10 : decode cX10_ends 10 = .ok (.iconst 1, 1) := by decide +kernel
theorem dX10_ends_11 : decode cX10_ends 11 = .ok (.invokevirtual 112, 3) := by decide +kernel
theorem dX10_ends_14 : decode cX10_ends 14 = .ok (.ireturn, 1) := by decide +kernel
theorem dX10_ends_15 : decode cX10_ends 15 = .ok (.aload_n 0, 1) := by decide +kernel
theorem dX10_ends_16 : decode cX10_ends 16 = .ok (.iload_n 1, 1) := by decide +kernel
theorem dX10_ends_17 : decode cX10_ends 17 = .ok (.invokevirtual 176, 3) := by decide +kernel
theorem dX10_ends_20 : decode cX10_ends 20 = .ok (.ifCond .eq 11, 3) := by decide +kernel
theorem dX10_ends_23 : decode cX10_ends 23 = .ok (.aload_n 0, 1) := by decide +kernel
theorem dX10_ends_24 : decode cX10_ends 24 = .ok (.iload_n 2, 1) := by decide +kernel
theorem dX10_ends_25 : decode cX10_ends 25 = .ok (.invokevirtual 176, 3) := by decide +kernel
theorem dX10_ends_28 : decode cX10_ends 28 = .ok (.ifCond .ne 9, 3) := by decide +kernel
theorem dX10_ends_31 : decode cX10_ends 31 = .ok (.aload_n 0, 1) := by decide +kernel
theorem dX10_ends_32 : decode cX10_ends 32 = .ok (.iconst 2, 1) := by decide +kernel
theorem dX10_ends_33 : decode cX10_ends 33 = .ok (.invokevirtual 112, 3) := by decide +kernel
theorem dX10_ends_36 : decode cX10_ends 36 = .ok (.ireturn, 1) := by decide +kernel
theorem dX10_ends_37 : decode cX10_ends 37 = .ok (.aload_n 0, 1) := by decide +kernel
theorem dX10_ends_38 : decode cX10_ends 38 = .ok (.getfield 64, 3) := by decide +kernel
theorem dX10_ends_41 : decode cX10_ends 41 = .ok (.aload_n 0, 1) := by decide +kernel
theorem dX10_ends_42 : decode cX10_ends 42 = .ok (.getfield 29, 3) := by decide +kernel
theorem dX10_ends_45 : decode cX10_ends 45 = .ok (.iload_n 1, 1) := by decide +kernel
theorem dX10_ends_46 : decode cX10_ends 46 = .ok (.iload_n 2, 1) := by decide +kernel
theorem dX10_ends_47 : decode cX10_ends 47 = .ok (.invokevirtual 198, 3) := by decide +kernel
theorem dX10_ends_50 : decode cX10_ends 50 = .ok (.iconst 1, 1) := by decide +kernel
theorem dX10_ends_51 : decode cX10_ends 51 = .ok (.if_icmp .eq 9, 3) := by decide +kernel
theorem dX10_ends_54 : decode cX10_ends 54 = .ok (.aload_n 0, 1) := by decide +kernel
theorem dX10_ends_55 : decode cX10_ends 55 = .ok (.iconst 5, 1) := by decide +kernel
theorem dX10_ends_56 : decode cX10_ends 56 = .ok (.invokevirtual 112, 3) := by decide +kernel
theorem dX10_ends_59 : decode cX10_ends 59 = .ok (.ireturn, 1) := by decide +kernel
theorem dX10_ends_60 : decode cX10_ends 60 = .ok (.aload_n 0, 1) := by decide +kernel
theorem dX10_ends_61 : decode cX10_ends 61 = .ok (.getfield 55, 3) := by decide +kernel
theorem dX10_ends_64 : decode cX10_ends 64 = .ok (.aload_n 0, 1) := by decide +kernel
theorem dX10_ends_65 : decode cX10_ends 65 = .ok (.getfield 64, 3) := by decide +kernel
theorem dX10_ends_68 : decode cX10_ends 68 = .ok (.getfield 206, 3) := by decide +kernel
theorem dX10_ends_71 : decode cX10_ends 71 = .ok (.invokevirtual 209, 3) := by decide +kernel
theorem dX10_ends_74 : decode cX10_ends 74 = .ok (.aload_n 0, 1) := by decide +kernel
theorem dX10_ends_75 : decode cX10_ends 75 = .ok (.getfield 55, 3) := by decide +kernel
theorem dX10_ends_78 : decode cX10_ends 78 = .ok (.aload_n 0, 1) := by decide +kernel
theorem dX10_ends_79 : decode cX10_ends 79 = .ok (.getfield 29, 3) := by decide +kernel
theorem dX10_ends_82 : decode cX10_ends 82 = .ok (.getfield 192, 3) := by decide +kernel
theorem dX10_ends_85 : decode cX10_ends 85 = .ok (.iload_n 3, 1) := by decide +kernel
theorem dX10_ends_86 : decode cX10_ends 86 = .ok (.ifCond .ne 7, 3) := by decide +kernel
theorem dX10_ends_89 : decode cX10_ends 89 = .ok (.iload_n 1, 1) := by decide +kernel
theorem dX10_ends_90 : decode cX10_ends 90 = .ok (.goto 4, 3) := by decide +kernel
theorem dX10_ends_93 : decode cX10_ends 93 = .ok (.iload_n 2, 1) := by decide +kernel
theorem dX10_ends_94 : decode cX10_ends 94 = .ok (.aaload, 1) := by decide +kernel
theorem dX10_ends_95 : decode cX10_ends 95 = .ok (.iconst 0, 1) := by decide +kernel
theorem dX10_ends_96 : decode cX10_ends 96 = .ok (.iload_n 3, 1) := by decide +kernel
theorem dX10_ends_97 : decode cX10_ends 97 = .ok (.iconst 0, 1) := by decide +kernel
theorem dX10_ends_98 : decode cX10_ends 98 = .ok (.invokevirtual 212, 3) := by decide +kernel
theorem dX10_ends_101 : decode cX10_ends 101 = .ok (.istore 4, 2) := by decide +kernel
theorem dX10_ends_103 : decode cX10_ends 103 = .ok (.aload_n 0, 1) := by decide +kernel
theorem dX10_ends_104 : decode cX10_ends 104 = .ok (.getfield 105, 3) := by decide +kernel
theorem dX10_ends_107 : decode cX10_ends 107 = .ok (.iconst 0, 1) := by decide +kernel
theorem dX10_ends_108 : decode cX10_ends 108 = .ok (.putfield 216, 3) := by decide +kernel
theorem dX10_ends_111 : decode cX10_ends 111 = .ok (.aload_n 0, 1) := by decide +kernel
theorem dX10_ends_112 : decode cX10_ends 112 = .ok (.getfield 105, 3) := by decide +kernel
theorem dX10_ends_115 : decode cX10_ends 115 = .ok (.aload_n 0, 1) := by decide +kernel
theorem dX10_ends_116 : decode cX10_ends 116 = .ok (.getfield 55, 3) := by decide +kernel
theorem dX10_ends_119 : decode cX10_ends 119 = .ok (.iload 4, 2) := by decide +kernel
theorem dX10_ends_121 : decode cX10_ends 121 = .ok (.aload_n 0, 1) := by decide +kernel
theorem dX10_ends_122 : decode cX10_ends 122 = .ok (.getfield 29, 3) := by decide +kernel
theorem dX10_ends_125 : decode cX10_ends 125 = .ok (.invokevirtual 217, 3) := by decide +kernel
theorem dX10_ends_128 : decode cX10_ends 128 = .ok (.aload_n 0, 1) := by decide +kernel
theorem dX10_ends_129 : decode cX10_ends 129 = .ok (.aload_n 0, 1) := by decide +kernel
theorem dX10_ends_130 : decode cX10_ends 130 = .ok (.getfield 105, 3) := by decide +kernel
theorem dX10_ends_133 : decode cX10_ends 133 = .ok (.getfield 216, 3) := by decide +kernel
theorem dX10_ends_136 : decode cX10_ends 136 = .ok (.invokevirtual 138, 3) := by decide +kernel
theorem dX10_ends_139 : decode cX10_ends 139 = .ok (.ireturn, 1) := by decide +kernel
set_option maxRecDepth 10000 in
set_option maxHeartbeats 4000000 in
theorem A_X10_ends_94 {Z : az_Z} {d : Nat} (C : az_C Z yX10_ends cX10_ends 5 (some .int) d) (hD : 5 ≤ d) (n : Nat) {σ : az_Hp} {v0 v3 w0 w1 w2 : Int} {r : (Int × az_Hp)} (h : fz_X10_ends_94 n σ v0 v3 w0 w1 w2 = some r) : az_AW Z 5 94 [(12, v0), (31, 0), (31, 0), (0, v3), (31, 0)] [(0, w2), (18, w1), (2, w0)] σ (some (0, r.1), r.2) := by
  have hd1 : 1 ≤ d := by omega
  unfold fz_X10_ends_94 at h
  refine az_aaload (pc := 94) C h dX10_ends_94 (fun h => ?_)
  refine az_ik0 (pc := 95) C dX10_ends_95 ?_
  refine az_il3 (pc := 96) C dX10_ends_96 ?_
  refine az_ik0 (pc := 97) C dX10_ends_97 ?_
  refine az_cV4ii (pc := 98) (c := 0) C hd1 h mv_X0_lay ml_X10_212 rfl (fun x hx => A_X0_lay (by omega) n hx) dX10_ends_98 (fun r2 h => ?_)
  refine az_is4 (pc := 101) C rfl rfl dX10_ends_101 ?_
  refine az_al0 (pc := 103) C rfl rfl dX10_ends_103 ?_
  refine az_getR (pc := 104) (c2 := 3) C h fl_X10_105 rfl rfl dX10_ends_104 (fun h => ?_)
  refine az_ik0 (pc := 107) C dX10_ends_107 ?_
  refine az_putI (pc := 108) C fl_X10_216 (Or.inl rfl) rfl dX10_ends_108 ?_
  refine az_al0 (pc := 111) C rfl rfl dX10_ends_111 ?_
  refine az_getR (pc := 112) (c2 := 3) C h fl_X10_105 rfl rfl dX10_ends_112 (fun h => ?_)
  refine az_al0 (pc := 115) C rfl rfl dX10_ends_115 ?_
  refine az_getR (pc := 116) (c2 := 0) C h fl_X10_55 rfl rfl dX10_ends_116 (fun h => ?_)
  refine az_il4 (pc := 119) C dX10_ends_119 ?_
  refine az_al0 (pc := 121) C rfl rfl dX10_ends_121 ?_
  refine az_getR (pc := 122) (c2 := 9) C h fl_X10_29 rfl rfl dX10_ends_122 (fun h => ?_)
  refine az_cV3v (pc := 125) (c := 3) C hd1 h mv_X3_putJoined ml_X10_217 rfl (fun x hx => A_X3_putJoined (by omega) n hx) dX10_ends_125 (fun r7 h => ?_)
  refine az_al0 (pc := 128) C rfl rfl dX10_ends_128 ?_
  refine az_al0 (pc := 129) C rfl rfl dX10_ends_129 ?_
  refine az_getR (pc := 130) (c2 := 3) C h fl_X10_105 rfl rfl dX10_ends_130 (fun h => ?_)
  refine az_getI (pc := 133) C fl_X10_216 rfl dX10_ends_133 ?_
  refine az_cV1ii (pc := 136) (c := 10) C hd1 h mv_X10_give ml_X10_138 rfl (fun x hx => A_X10_give (by omega) hx) dX10_ends_136 (fun r9 h => ?_)
  obtain rfl := Option.some.inj h
  exact az_ireturn (pc := 139) C dX10_ends_139 rfl
set_option maxRecDepth 10000 in
set_option maxHeartbeats 4000000 in
theorem A_X10_ends_15 {Z : az_Z} {d : Nat} (C : az_C Z yX10_ends cX10_ends 5 (some .int) d) (hD : 5 ≤ d) (n : Nat) {σ : az_Hp} {v0 v1 v2 v3 : Int} {r : (Int × az_Hp)} (h : fz_X10_ends_15 n σ v0 v1 v2 v3 = some r) : az_AW Z 5 15 [(12, v0), (0, v1), (0, v2), (0, v3), (31, 0)] [] σ (some (0, r.1), r.2) := by
  have hd1 : 1 ≤ d := by omega
  unfold fz_X10_ends_15 at h
  refine az_al0 (pc := 15) C rfl rfl dX10_ends_15 ?_
  refine az_il1 (pc := 16) C dX10_ends_16 ?_
  refine az_cV1pi (pc := 17) (c := 10) C hd1 h mv_X10_isEquation ml_X10_176 rfl (fun x hx => A_X10_isEquation (by omega) hx) dX10_ends_17 (fun r1 h => ?_)
  refine az_if_eq (pc := 20) (tgt := 31) C h dX10_ends_20 (by decide) (fun _ h => ?_) (fun _ h => ?_)
  · refine az_al0 (pc := 31) C rfl rfl dX10_ends_31 ?_
    refine az_ik2 (pc := 32) C dX10_ends_32 ?_
    refine az_cV1ii (pc := 33) (c := 10) C hd1 h mv_X10_refuse ml_X10_112 rfl (fun x hx => A_X10_refuse (by omega) hx) dX10_ends_33 (fun r2 h => ?_)
    obtain rfl := Option.some.inj h
    exact az_ireturn (pc := 36) C dX10_ends_36 rfl
  refine az_al0 (pc := 23) C rfl rfl dX10_ends_23 ?_
  refine az_il2 (pc := 24) C dX10_ends_24 ?_
  refine az_cV1pi (pc := 25) (c := 10) C hd1 h mv_X10_isEquation ml_X10_176 rfl (fun x hx => A_X10_isEquation (by omega) hx) dX10_ends_25 (fun r3 h => ?_)
  refine az_if_ne (pc := 28) (tgt := 37) C h dX10_ends_28 (by decide) (fun _ h => ?_) (fun _ h => ?_)
  · refine az_al0 (pc := 37) C rfl rfl dX10_ends_37 ?_
    refine az_getR (pc := 38) (c2 := 1) C h fl_X10_64 rfl rfl dX10_ends_38 (fun h => ?_)
    refine az_al0 (pc := 41) C rfl rfl dX10_ends_41 ?_
    refine az_getR (pc := 42) (c2 := 9) C h fl_X10_29 rfl rfl dX10_ends_42 (fun h => ?_)
    refine az_il1 (pc := 45) C dX10_ends_45 ?_
    refine az_il2 (pc := 46) C dX10_ends_46 ?_
    refine az_cV3ii (pc := 47) (c := 1) C hd1 h mv_X1_meetLefts ml_X10_198 rfl (fun x hx => A_X1_meetLefts (by omega) n hx) dX10_ends_47 (fun r6 h => ?_)
    refine az_ik1 (pc := 50) C dX10_ends_50 ?_
    refine az_icmp_eq (pc := 51) (tgt := 60) C h dX10_ends_51 (by decide) (fun _ h => ?_) (fun _ h => ?_)
    · refine az_al0 (pc := 60) C rfl rfl dX10_ends_60 ?_
      refine az_getR (pc := 61) (c2 := 0) C h fl_X10_55 rfl rfl dX10_ends_61 (fun h => ?_)
      refine az_al0 (pc := 64) C rfl rfl dX10_ends_64 ?_
      refine az_getR (pc := 65) (c2 := 1) C h fl_X10_64 rfl rfl dX10_ends_65 (fun h => ?_)
      refine az_getI (pc := 68) C fl_X10_206 rfl dX10_ends_68 ?_
      refine az_cV1v (pc := 71) (c := 0) C hd1 h mv_X0_nameVariables ml_X10_209 rfl (fun x hx => A_X0_nameVariables (by omega) n hx) dX10_ends_71 (fun r9 h => ?_)
      refine az_al0 (pc := 74) C rfl rfl dX10_ends_74 ?_
      refine az_getR (pc := 75) (c2 := 0) C h fl_X10_55 rfl rfl dX10_ends_75 (fun h => ?_)
      refine az_al0 (pc := 78) C rfl rfl dX10_ends_78 ?_
      refine az_getR (pc := 79) (c2 := 9) C h fl_X10_29 rfl rfl dX10_ends_79 (fun h => ?_)
      refine az_getR (pc := 82) (c2 := 16) C h fl_X10_192 rfl rfl dX10_ends_82 (fun h => ?_)
      refine az_il3 (pc := 85) C dX10_ends_85 ?_
      refine az_if_ne (pc := 86) (tgt := 93) C h dX10_ends_86 (by decide) (fun _ h => ?_) (fun _ h => ?_)
      · refine az_il2 (pc := 93) C dX10_ends_93 ?_
        exact (az_wkk (A_X10_ends_94 C hD n h) (az_sE (az_sJ (az_sJ (az_sE (az_sJ az_sN))))))
      refine az_il1 (pc := 89) C dX10_ends_89 ?_
      refine az_goto (pc := 90) (tgt := 94) C dX10_ends_90 (by decide) ?_
      exact (az_wkk (A_X10_ends_94 C hD n h) (az_sE (az_sJ (az_sJ (az_sE (az_sJ az_sN))))))
    refine az_al0 (pc := 54) C rfl rfl dX10_ends_54 ?_
    refine az_ik5 (pc := 55) C dX10_ends_55 ?_
    refine az_cV1ii (pc := 56) (c := 10) C hd1 h mv_X10_refuse ml_X10_112 rfl (fun x hx => A_X10_refuse (by omega) hx) dX10_ends_56 (fun r13 h => ?_)
    obtain rfl := Option.some.inj h
    exact az_ireturn (pc := 59) C dX10_ends_59 rfl
  refine az_al0 (pc := 31) C rfl rfl dX10_ends_31 ?_
  refine az_ik2 (pc := 32) C dX10_ends_32 ?_
  refine az_cV1ii (pc := 33) (c := 10) C hd1 h mv_X10_refuse ml_X10_112 rfl (fun x hx => A_X10_refuse (by omega) hx) dX10_ends_33 (fun r14 h => ?_)
  obtain rfl := Option.some.inj h
  exact az_ireturn (pc := 36) C dX10_ends_36 rfl
set_option maxRecDepth 10000 in
set_option maxHeartbeats 4000000 in
theorem A_X10_ends_e {Z : az_Z} {d : Nat} (C : az_C Z yX10_ends cX10_ends 5 (some .int) d) (hD : 5 ≤ d) (n : Nat) {σ : az_Hp} {v0 v1 v2 v3 : Int} {r : (Int × az_Hp)} (h : fz_X10_ends n σ v0 v1 v2 v3 = some r) : az_AW Z 5 0 [(12, v0), (0, v1), (0, v2), (0, v3), (31, 0)] [] σ (some (0, r.1), r.2) := by
  have hd1 : 1 ≤ d := by omega
  unfold fz_X10_ends at h
  refine az_il3 (pc := 0) C dX10_ends_0 ?_
  refine az_if_eq (pc := 1) (tgt := 15) C h dX10_ends_1 (by decide) (fun _ h => ?_) (fun _ h => ?_)
  · exact (A_X10_ends_15 C hD n h)
  refine az_il3 (pc := 4) C dX10_ends_4 ?_
  refine az_ik1 (pc := 5) C dX10_ends_5 ?_
  refine az_icmp_eq (pc := 6) (tgt := 15) C h dX10_ends_6 (by decide) (fun _ h => ?_) (fun _ h => ?_)
  · exact (A_X10_ends_15 C hD n h)
  refine az_al0 (pc := 9) C rfl rfl dX10_ends_9 ?_
  refine az_ik1 (pc := 10) C dX10_ends_10 ?_
  refine az_cV1ii (pc := 11) (c := 10) C hd1 h mv_X10_refuse ml_X10_112 rfl (fun x hx => A_X10_refuse (by omega) hx) dX10_ends_11 (fun r1 h => ?_)
  obtain rfl := Option.some.inj h
  exact az_ireturn (pc := 14) C dX10_ends_14 rfl
set_option maxRecDepth 10000 in
set_option maxHeartbeats 4000000 in
theorem A_X10_ends {l : Launch} {d : Nat} (hD : 5 ≤ d) (n : Nat) {σ : az_Hp} {v0 v1 v2 v3 : Int} {r : (Int × az_Hp)} (h : fz_X10_ends n σ v0 v1 v2 v3 = some r) : az_AC l yX10_ends cX10_ends 5 (some .int) d [(12, v0), (0, v1), (0, v2), (0, v3)] σ (some (0, r.1), r.2) := az_AC.of mt_X10_ends rfl rfl rfl (fun Z hZ C => A_X10_ends_e C hD n h)
theorem dX9_rank_0 : decode cX9_rank 0 = .ok (.iconst 0, 1) := by decide +kernel
theorem dX9_rank_1 : decode cX9_rank 1 = .ok (.istore_n 2, 1) := by decide +kernel
theorem dX9_rank_2 : decode cX9_rank 2 = .ok (.iconst 0, 1) := by decide +kernel
theorem dX9_rank_3 : decode cX9_rank 3 = .ok (.istore_n 3, 1) := by decide +kernel
theorem dX9_rank_4 : decode cX9_rank 4 = .ok (.iload_n 3, 1) := by decide +kernel
theorem dX9_rank_5 : decode cX9_rank 5 = .ok (.iload_n 1, 1) := by decide +kernel
theorem dX9_rank_6 : decode cX9_rank 6 = .ok (.if_icmp .ge 27, 3) := by decide +kernel
theorem dX9_rank_9 : decode cX9_rank 9 = .ok (.aload_n 0, 1) := by decide +kernel
theorem dX9_rank_10 : decode cX9_rank 10 = .ok (.getfield 41, 3) := by decide +kernel
theorem dX9_rank_13 : decode cX9_rank 13 = .ok (.iload_n 3, 1) := by decide +kernel
theorem dX9_rank_14 : decode cX9_rank 14 = .ok (.iaload, 1) := by decide +kernel
theorem dX9_rank_15 : decode cX9_rank 15 = .ok (.aload_n 0, 1) := by decide +kernel
theorem dX9_rank_16 : decode cX9_rank 16 = .ok (.getfield 41, 3) := by decide +kernel
theorem dX9_rank_19 : decode cX9_rank 19 = .ok (.iload_n 1, 1) := by decide +kernel
theorem dX9_rank_20 : decode cX9_rank 20 = .ok (.iaload, 1) := by decide +kernel
theorem dX9_rank_21 : decode cX9_rank 21 = .ok (.if_icmp .ne 6, 3) := by decide +kernel
theorem dX9_rank_24 : decode cX9_rank 24 = .ok (.iinc 2 1, 3) := by decide +kernel
theorem dX9_rank_27 : decode cX9_rank 27 = .ok (.iinc 3 1, 3) := by decide +kernel
theorem dX9_rank_30 : decode cX9_rank 30 = .ok (.goto (-26), 3) := by decide +kernel
theorem dX9_rank_33 : decode cX9_rank 33 = .ok (.iload_n 2, 1) := by decide +kernel
theorem dX9_rank_34 : decode cX9_rank 34 = .ok (.ireturn, 1) := by decide +kernel
set_option maxRecDepth 10000 in
set_option maxHeartbeats 4000000 in
theorem A_X9_rank_4 {Z : az_Z} {d : Nat} (C : az_C Z yX9_rank cX9_rank 4 (some .int) d) (hD : 1 ≤ d) (n : Nat) (k : Nat) : ∀ {σ : az_Hp} {v0 v1 v2 v3 : Int} {r : Int}, fz_X9_rank_4 n k σ v0 v1 v2 v3 = some r → az_AW Z 4 4 [(11, v0), (0, v1), (0, v2), (0, v3)] [] σ (some (0, r), σ) := by
  have hd1 : 1 ≤ d := by omega
  induction k with
  | zero => intro σ v0 v1 v2 v3 r h; simp [fz_X9_rank_4] at h
  | succ k ih =>
    intro σ v0 v1 v2 v3 r h
    unfold fz_X9_rank_4 at h
    refine az_il3 (pc := 4) C dX9_rank_4 ?_
    refine az_il1 (pc := 5) C dX9_rank_5 ?_
    refine az_icmp_ge (pc := 6) (tgt := 33) C h dX9_rank_6 (by decide) (fun _ h => ?_) (fun _ h => ?_)
    · refine az_il2 (pc := 33) C dX9_rank_33 ?_
      obtain rfl := Option.some.inj h
      exact az_ireturn (pc := 34) C dX9_rank_34 rfl
    refine az_al0 (pc := 9) C rfl rfl dX9_rank_9 ?_
    refine az_getR (pc := 10) (c2 := 13) C h fl_X9_41 rfl rfl dX9_rank_10 (fun h => ?_)
    refine az_il3 (pc := 13) C dX9_rank_13 ?_
    refine az_iaload (pc := 14) C h dX9_rank_14 (fun h => ?_)
    refine az_al0 (pc := 15) C rfl rfl dX9_rank_15 ?_
    refine az_getR (pc := 16) (c2 := 13) C h fl_X9_41 rfl rfl dX9_rank_16 (fun h => ?_)
    refine az_il1 (pc := 19) C dX9_rank_19 ?_
    refine az_iaload (pc := 20) C h dX9_rank_20 (fun h => ?_)
    refine az_icmp_ne (pc := 21) (tgt := 27) C h dX9_rank_21 (by decide) (fun _ h => ?_) (fun _ h => ?_)
    · refine az_ii3 (pc := 27) C az_n1 rfl rfl dX9_rank_27 ?_
      refine az_goto (pc := 30) (tgt := 4) C dX9_rank_30 (by decide) ?_
      exact (ih h)
    refine az_ii2 (pc := 24) C az_n1 rfl rfl dX9_rank_24 ?_
    refine az_ii3 (pc := 27) C az_n1 rfl rfl dX9_rank_27 ?_
    refine az_goto (pc := 30) (tgt := 4) C dX9_rank_30 (by decide) ?_
    exact (ih h)
set_option maxRecDepth 10000 in
set_option maxHeartbeats 4000000 in
theorem A_X9_rank_e {Z : az_Z} {d : Nat} (C : az_C Z yX9_rank cX9_rank 4 (some .int) d) (hD : 1 ≤ d) (n : Nat) {σ : az_Hp} {v0 v1 : Int} {r : Int} (h : fz_X9_rank n σ v0 v1 = some r) : az_AW Z 4 0 [(11, v0), (0, v1), (31, 0), (31, 0)] [] σ (some (0, r), σ) := by
  have hd1 : 1 ≤ d := by omega
  unfold fz_X9_rank at h
  refine az_ik0 (pc := 0) C dX9_rank_0 ?_
  refine az_is2 (pc := 1) C rfl rfl dX9_rank_1 ?_
  refine az_ik0 (pc := 2) C dX9_rank_2 ?_
  refine az_is3 (pc := 3) C rfl rfl dX9_rank_3 ?_
  exact (A_X9_rank_4 C hD n n h)
set_option maxRecDepth 10000 in
set_option maxHeartbeats 4000000 in
theorem A_X9_rank {l : Launch} {d : Nat} (hD : 1 ≤ d) (n : Nat) {σ : az_Hp} {v0 v1 : Int} {r : Int} (h : fz_X9_rank n σ v0 v1 = some r) : az_AC l yX9_rank cX9_rank 4 (some .int) d [(11, v0), (0, v1)] σ (some (0, r), σ) := az_AC.of mt_X9_rank rfl rfl rfl (fun Z hZ C => A_X9_rank_e C hD n h)
theorem dX7_times_0 : decode cX7_times 0 = .ok (.iconst 0, 1) := by decide +kernel
theorem dX7_times_1 : decode cX7_times 1 = .ok (.istore 4, 2) := by decide +kernel
theorem dX7_times_3 : decode cX7_times 3 = .ok (.iload_n 2, 1) := by decide +kernel
theorem dX7_times_4 : decode cX7_times 4 = .ok (.iconst 0, 1) := by decide +kernel
theorem dX7_times_5 : decode cX7_times 5 = .ok (.invokestatic 15, 3) := by decide +kernel
theorem dX7_times_8 : decode cX7_times 8 = .ok (.istore 5, 2) := by decide +kernel
theorem dX7_times_10 : decode cX7_times 10 = .ok (.iload 5, 2) := by decide +kernel
theorem dX7_times_12 : decode cX7_times 12 = .ok (.iload_n 3, 1) := by decide +kernel
theorem dX7_times_13 : decode cX7_times 13 = .ok (.if_icmp .ge 32, 3) := by decide +kernel
theorem dX7_times_16 : decode cX7_times 16 = .ok (.iload 5, 2) := by decide +kernel
theorem dX7_times_18 : decode cX7_times 18 = .ok (.aload_n 0, 1) := by decide +kernel
theorem dX7_times_19 : decode cX7_times 19 = .ok (.getfield 9, 3) := by decide +kernel
theorem dX7_times_22 : decode cX7_times 22 = .ok (.if_icmp .ge 23, 3) := by decide +kernel
theorem dX7_times_25 : decode cX7_times 25 = .ok (.aload_n 0, 1) := by decide +kernel
theorem dX7_times_26 : decode cX7_times 26 = .ok (.getfield 21, 3) := by decide +kernel
theorem dX7_times_29 : decode cX7_times 29 = .ok (.iload 5, 2) := by decide +kernel
theorem dX7_times_31 : decode cX7_times 31 = .ok (.iaload, 1) := by decide +kernel
theorem dX7_times_32 : decode cX7_times 32 = .ok (.iload_n 1, 1) := by decide +kernel
theorem dX7_times_33 : decode cX7_times 33 = .ok (.if_icmp .ne 6, 3) := by decide +kernel
theorem dX7_times_36 : decode cX7_times 36 = .ok (.iinc 4 1, 3) := by decide +kernel
theorem dX7_times_39 : decode cX7_times 39 = .ok (.iinc 5 1, 3) := by decide +kernel
theorem dX7_times_42 : decode cX7_times 42 = .ok (.goto (-32), 3) := by decide +kernel
theorem dX7_times_45 : decode cX7_times 45 = .ok (.iload 4, 2) := by decide +kernel
theorem dX7_times_47 : decode cX7_times 47 = .ok (.ireturn, 1) := by decide +kernel
set_option maxRecDepth 10000 in
set_option maxHeartbeats 4000000 in
theorem A_X7_times_10 {Z : az_Z} {d : Nat} (C : az_C Z yX7_times cX7_times 6 (some .int) d) (hD : 2 ≤ d) (n : Nat) (k : Nat) : ∀ {σ : az_Hp} {v0 v1 v3 v4 v5 : Int} {r : Int}, fz_X7_times_10 n k σ v0 v1 v3 v4 v5 = some r → az_AW Z 6 10 [(9, v0), (0, v1), (31, 0), (0, v3), (0, v4), (0, v5)] [] σ (some (0, r), σ) := by
  have hd1 : 1 ≤ d := by omega
  induction k with
  | zero => intro σ v0 v1 v3 v4 v5 r h; simp [fz_X7_times_10] at h
  | succ k ih =>
    intro σ v0 v1 v3 v4 v5 r h
    unfold fz_X7_times_10 at h
    refine az_il5 (pc := 10) C dX7_times_10 ?_
    refine az_il3 (pc := 12) C dX7_times_12 ?_
    refine az_icmp_ge (pc := 13) (tgt := 45) C h dX7_times_13 (by decide) (fun _ h => ?_) (fun _ h => ?_)
    · refine az_il4 (pc := 45) C dX7_times_45 ?_
      obtain rfl := Option.some.inj h
      exact az_ireturn (pc := 47) C dX7_times_47 rfl
    refine az_il5 (pc := 16) C dX7_times_16 ?_
    refine az_al0 (pc := 18) C rfl rfl dX7_times_18 ?_
    refine az_getI (pc := 19) C fl_X7_9 rfl dX7_times_19 ?_
    refine az_icmp_ge (pc := 22) (tgt := 45) C h dX7_times_22 (by decide) (fun _ h => ?_) (fun _ h => ?_)
    · refine az_il4 (pc := 45) C dX7_times_45 ?_
      obtain rfl := Option.some.inj h
      exact az_ireturn (pc := 47) C dX7_times_47 rfl
    refine az_al0 (pc := 25) C rfl rfl dX7_times_25 ?_
    refine az_getR (pc := 26) (c2 := 13) C h fl_X7_21 rfl rfl dX7_times_26 (fun h => ?_)
    refine az_il5 (pc := 29) C dX7_times_29 ?_
    refine az_iaload (pc := 31) C h dX7_times_31 (fun h => ?_)
    refine az_il1 (pc := 32) C dX7_times_32 ?_
    refine az_icmp_ne (pc := 33) (tgt := 39) C h dX7_times_33 (by decide) (fun _ h => ?_) (fun _ h => ?_)
    · refine az_ii5 (pc := 39) C az_n1 rfl rfl dX7_times_39 ?_
      refine az_goto (pc := 42) (tgt := 10) C dX7_times_42 (by decide) ?_
      exact (ih h)
    refine az_ii4 (pc := 36) C az_n1 rfl rfl dX7_times_36 ?_
    refine az_ii5 (pc := 39) C az_n1 rfl rfl dX7_times_39 ?_
    refine az_goto (pc := 42) (tgt := 10) C dX7_times_42 (by decide) ?_
    exact (ih h)
set_option maxRecDepth 10000 in
set_option maxHeartbeats 4000000 in
theorem A_X7_times_e {Z : az_Z} {d : Nat} (C : az_C Z yX7_times cX7_times 6 (some .int) d) (hD : 2 ≤ d) (n : Nat) {σ : az_Hp} {v0 v1 v2 v3 : Int} {r : Int} (h : fz_X7_times n σ v0 v1 v2 v3 = some r) : az_AW Z 6 0 [(9, v0), (0, v1), (0, v2), (0, v3), (31, 0), (31, 0)] [] σ (some (0, r), σ) := by
  have hd1 : 1 ≤ d := by omega
  unfold fz_X7_times at h
  refine az_ik0 (pc := 0) C dX7_times_0 ?_
  refine az_is4 (pc := 1) C rfl rfl dX7_times_1 ?_
  refine az_il2 (pc := 3) C dX7_times_3 ?_
  refine az_ik0 (pc := 4) C dX7_times_4 ?_
  refine az_mmax (pc := 5) C hd1 ml_X7_15 az_w_maxst az_w_math az_w_maxc rfl dX7_times_5 ?_
  refine az_is5 (pc := 8) C rfl rfl dX7_times_8 ?_
  exact (az_wkk (A_X7_times_10 C hD n n h) (az_sE (az_sE (az_sJ (az_sE (az_sE (az_sE az_sN)))))))
set_option maxRecDepth 10000 in
set_option maxHeartbeats 4000000 in
theorem A_X7_times {l : Launch} {d : Nat} (hD : 2 ≤ d) (n : Nat) {σ : az_Hp} {v0 v1 v2 v3 : Int} {r : Int} (h : fz_X7_times n σ v0 v1 v2 v3 = some r) : az_AC l yX7_times cX7_times 6 (some .int) d [(9, v0), (0, v1), (0, v2), (0, v3)] σ (some (0, r), σ) := az_AC.of mt_X7_times rfl rfl rfl (fun Z hZ C => A_X7_times_e C hD n h)
theorem dX9_unboundedAt_0 : decode cX9_unboundedAt 0 = .ok (.aload_n 0, 1) := by decide +kernel
theorem dX9_unboundedAt_1 : decode cX9_unboundedAt 1 = .ok (.getfield 53, 3) := by decide +kernel
theorem dX9_unboundedAt_4 : decode cX9_unboundedAt 4 = .ok (.iload_n 1, 1) := by decide +kernel
theorem dX9_unboundedAt_5 : decode cX9_unboundedAt 5 = .ok (.aaload, 1) := by decide +kernel
theorem dX9_unboundedAt_6 : decode cX9_unboundedAt 6 = .ok (.astore 4, 2) := by decide +kernel
theorem dX9_unboundedAt_8 : decode cX9_unboundedAt 8 = .ok (.iload_n 2, 1) := by decide +kernel
theorem dX9_unboundedAt_9 : decode cX9_unboundedAt 9 = .ok (.iconst 1, 1) := by decide +kernel
theorem dX9_unboundedAt_10 : decode cX9_unboundedAt 10 = .ok (.iadd, 1) := by decide +kernel
theorem dX9_unboundedAt_11 : decode cX9_unboundedAt 11 = .ok (.istore 5, 2) := by decide +kernel
theorem dX9_unboundedAt_13 : decode cX9_unboundedAt 13 = .ok (.iload 5, 2) := by decide +kernel
theorem dX9_unboundedAt_15 : decode cX9_unboundedAt 15 = .ok (.iload_n 3, 1) := by decide +kernel
theorem dX9_unboundedAt_16 : decode cX9_unboundedAt 16 = .ok (.if_icmp .ge 26, 3) := by decide +kernel
theorem dX9_unboundedAt_19 : decode cX9_unboundedAt 19 = .ok (.aload 4, 2) := by decide +kernel
theorem dX9_unboundedAt_21 : decode cX9_unboundedAt 21 = .ok (.getfield 85, 3) := by decide +kernel
theorem dX9_unboundedAt_24 : decode cX9_unboundedAt 24 = .ok (.iload 5, 2) := by decide +kernel
theorem dX9_unboundedAt_26 : decode cX9_unboundedAt 26 = .ok (.iaload, 1) := by decide +kernel
theorem dX9_unboundedAt_27 : decode cX9_unboundedAt 27 = .ok (.invokestatic 75, 3) := by decide +kernel
theorem dX9_unboundedAt_30 : decode cX9_unboundedAt 30 = .ok (.iconst 2, 1) := by decide +kernel
theorem dX9_unboundedAt_31 : decode cX9_unboundedAt 31 = .ok (.if_icmp .ne 5, 3) := by decide +kernel
theorem dX9_unboundedAt_34 : decode cX9_unboundedAt 34 = .ok (.iconst 1, 1) := by decide +kernel
theorem dX9_unboundedAt_35 : decode cX9_unboundedAt 35 = .ok (.ireturn, 1) := by decide +kernel
theorem dX9_unboundedAt_36 : decode cX9_unboundedAt 36 = .ok (.iinc 5 1, 3) := by decide +kernel
theorem dX9_unboundedAt_39 : decode cX9_unboundedAt 39 = .ok (.goto (-26), 3) := by decide +kernel
theorem dX9_unboundedAt_42 : decode cX9_unboundedAt 42 = .ok (.iload_n 3, 1) := by decide +kernel
theorem dX9_unboundedAt_43 : decode cX9_unboundedAt 43 = .ok (.iload_n 2, 1) := by decide +kernel
theorem dX9_unboundedAt_44 : decode cX9_unboundedAt 44 = .ok (.isub, 1) := by decide +kernel
theorem dX9_unboundedAt_45 : decode cX9_unboundedAt 45 = .ok (.aload_n 0, 1) := by decide +kernel
theorem dX9_unboundedAt_46 : decode cX9_unboundedAt 46 = .ok (.getfield 49, 3) := by decide +kernel
theorem dX9_unboundedAt_49 : decode cX9_unboundedAt 49 = .ok (.iload_n 1, 1) := by decide +kernel
theorem dX9_unboundedAt_50 : decode cX9_unboundedAt 50 = .ok (.aaload, 1) := by decide +kernel
theorem dX9_unboundedAt_51 : decode cX9_unboundedAt 51 = .ok (.getfield 82, 3) := by decide +kernel
theorem dX9_unboundedAt_54 : decode cX9_unboundedAt 54 = .ok (.if_icmp .lt 5, 3) := by decide +kernel
theorem dX9_unboundedAt_57 : decode cX9_unboundedAt 57 = .ok (.iconst 2, 1) := by decide +kernel
theorem dX9_unboundedAt_58 : decode cX9_unboundedAt 58 = .ok (.ireturn, 1) := by decide +kernel
theorem dX9_unboundedAt_59 : decode cX9_unboundedAt 59 = .ok (.iconst 0, 1) := by decide +kernel
theorem dX9_unboundedAt_60 : decode cX9_unboundedAt 60 = .ok (.istore 5, 2) := by decide +kernel
theorem dX9_unboundedAt_62 : decode cX9_unboundedAt 62 = .ok (.iload 5, 2) := by decide +kernel
theorem dX9_unboundedAt_64 : decode cX9_unboundedAt 64 = .ok (.aload_n 0, 1) := by decide +kernel
theorem dX9_unboundedAt_65 : decode cX9_unboundedAt 65 = .ok (.getfield 44, 3) := by decide +kernel
theorem dX9_unboundedAt_68 : decode cX9_unboundedAt 68 = .ok (.iload_n 1, 1) := by decide +kernel
theorem dX9_unboundedAt_69 : decode cX9_unboundedAt 69 = .ok (.iaload, 1) := by decide +kernel
theorem dX9_unboundedAt_70 : decode cX9_unboundedAt 70 = .ok (.if_icmp .ge 48, 3) := by decide +kernel
theorem dX9_unboundedAt_73 : decode cX9_unboundedAt 73 = .ok (.aload 4, 2) := by decide +kernel
theorem dX9_unboundedAt_75 : decode cX9_unboundedAt 75 = .ok (.iload 5, 2) := by decide +kernel
theorem dX9_unboundedAt_77 : decode cX9_unboundedAt 77 = .ok (.iconst (-1), 1) := by decide +kernel
theorem dX9_unboundedAt_78 : decode cX9_unboundedAt 78 = .ok (.ixor, 1) := by decide +kernel
theorem dX9_unboundedAt_79 : decode cX9_unboundedAt 79 = .ok (.iload_n 2, 1) := by decide +kernel
theorem dX9_unboundedAt_80 : decode cX9_unboundedAt 80 = .ok (.iload_n 3, 1) := by decide +kernel
theorem dX9_unboundedAt_81 : decode cX9_unboundedAt 81 = .ok (.invokevirtual 101, 3) := by decide +kernel
theorem dX9_unboundedAt_84 : decode cX9_unboundedAt 84 = .ok (.aload_n 0, 1) := by decide +kernel
theorem dX9_unboundedAt_85 : decode cX9_unboundedAt 85 = .ok (.getfield 49, 3) := by decide +kernel
theorem dX9_unboundedAt_88 : decode cX9_unboundedAt 88 = .ok (.iload_n 1, 1) := by decide +kernel
theorem dX9_unboundedAt_89 : decode cX9_unboundedAt 89 = .ok (.aaload, 1) := by decide +kernel
theorem dX9_unboundedAt_90 : decode cX9_unboundedAt 90 = .ok (.iload 5, 2) := by decide +kernel
theorem dX9_unboundedAt_92 : decode cX9_unboundedAt 92 = .ok (.iconst (-1), 1) := by decide +kernel
theorem dX9_unboundedAt_93 : decode cX9_unboundedAt 93 = .ok (.ixor, 1) := by decide +kernel
theorem dX9_unboundedAt_94 : decode cX9_unboundedAt 94 = .ok (.iconst 0, 1) := by decide +kernel
theorem dX9_unboundedAt_95 : decode cX9_unboundedAt 95 = .ok (.aload_n 0, 1) := by decide +kernel
theorem dX9_unboundedAt_96 : decode cX9_unboundedAt 96 = .ok (.getfield 49, 3) := by decide +kernel
theorem dX9_unboundedAt_99 : decode cX9_unboundedAt 99 = .ok (.iload_n 1, 1) := by decide +kernel
theorem dX9_unboundedAt_100 : decode cX9_unboundedAt 100 = .ok (.aaload, 1) := by decide +kernel
theorem dX9_unboundedAt_101 : decode cX9_unboundedAt 101 = .ok (.getfield 82, 3) := by decide +kernel
theorem dX9_unboundedAt_104 : decode cX9_unboundedAt 104 = .ok (.invokevirtual 101, 3) := by decide +kernel
theorem dX9_unboundedAt_107 : decode cX9_unboundedAt 107 = .ok (.if_icmp .le 5, 3) := by decide +kernel
theorem dX9_unboundedAt_110 : decode cX9_unboundedAt 110 = .ok (.iconst 3, 1) := by decide +kernel
theorem dX9_unboundedAt_111 : decode cX9_unboundedAt 111 = .ok (.ireturn, 1) := by decide +kernel
theorem dX9_unboundedAt_112 : decode cX9_unboundedAt 112 = .ok (.iinc 5 1, 3) := by decide +kernel
theorem dX9_unboundedAt_115 : decode cX9_unboundedAt 115 = .ok (.goto (-53), 3) := by decide +kernel
theorem dX9_unboundedAt_118 : decode cX9_unboundedAt 118 = .ok (.iconst 0, 1) := by decide +kernel
theorem dX9_unboundedAt_119 : decode cX9_unboundedAt 119 = .ok (.ireturn, 1) := by decide +kernel
set_option maxRecDepth 10000 in
set_option maxHeartbeats 4000000 in
theorem A_X9_unboundedAt_62 {Z : az_Z} {d : Nat} (C : az_C Z yX9_unboundedAt cX9_unboundedAt 6 (some .int) d) (hD : 3 ≤ d) (n : Nat) (k : Nat) : ∀ {σ : az_Hp} {v0 v1 v2 v3 v4 v5 : Int} {r : Int}, fz_X9_unboundedAt_62 n k σ v0 v1 v2 v3 v4 v5 = some r → az_AW Z 6 62 [(11, v0), (0, v1), (0, v2), (0, v3), (9, v4), (0, v5)] [] σ (some (0, r), σ) := by
  have hd1 : 1 ≤ d := by omega
  induction k with
  | zero => intro σ v0 v1 v2 v3 v4 v5 r h; simp [fz_X9_unboundedAt_62] at h
  | succ k ih =>
    intro σ v0 v1 v2 v3 v4 v5 r h
    unfold fz_X9_unboundedAt_62 at h
    refine az_il5 (pc := 62) C dX9_unboundedAt_62 ?_
    refine az_al0 (pc := 64) C rfl rfl dX9_unboundedAt_64 ?_
    refine az_getR (pc := 65) (c2 := 13) C h fl_X9_44 rfl rfl dX9_unboundedAt_65 (fun h => ?_)
    refine az_il1 (pc := 68) C dX9_unboundedAt_68 ?_
    refine az_iaload (pc := 69) C h dX9_unboundedAt_69 (fun h => ?_)
    refine az_icmp_ge (pc := 70) (tgt := 118) C h dX9_unboundedAt_70 (by decide) (fun _ h => ?_) (fun _ h => ?_)
    · refine az_ik0 (pc := 118) C dX9_unboundedAt_118 ?_
      obtain rfl := Option.some.inj h
      exact az_ireturn (pc := 119) C dX9_unboundedAt_119 rfl
    refine az_al4 (pc := 73) C rfl rfl dX9_unboundedAt_73 ?_
    refine az_il5 (pc := 75) C dX9_unboundedAt_75 ?_
    refine az_ikm1 (pc := 77) C dX9_unboundedAt_77 ?_
    refine az_ixor (pc := 78) C dX9_unboundedAt_78 ?_
    refine az_il2 (pc := 79) C dX9_unboundedAt_79 ?_
    refine az_il3 (pc := 80) C dX9_unboundedAt_80 ?_
    refine az_cV3pi (pc := 81) (c := 7) C hd1 h mv_X7_times ml_X9_101 rfl (fun x hx => A_X7_times (by omega) n hx) dX9_unboundedAt_81 (fun r3 h => ?_)
    refine az_al0 (pc := 84) C rfl rfl dX9_unboundedAt_84 ?_
    refine az_getR (pc := 85) (c2 := 16) C h fl_X9_49 rfl rfl dX9_unboundedAt_85 (fun h => ?_)
    refine az_il1 (pc := 88) C dX9_unboundedAt_88 ?_
    refine az_aaload (pc := 89) C h dX9_unboundedAt_89 (fun h => ?_)
    refine az_il5 (pc := 90) C dX9_unboundedAt_90 ?_
    refine az_ikm1 (pc := 92) C dX9_unboundedAt_92 ?_
    refine az_ixor (pc := 93) C dX9_unboundedAt_93 ?_
    refine az_ik0 (pc := 94) C dX9_unboundedAt_94 ?_
    refine az_al0 (pc := 95) C rfl rfl dX9_unboundedAt_95 ?_
    refine az_getR (pc := 96) (c2 := 16) C h fl_X9_49 rfl rfl dX9_unboundedAt_96 (fun h => ?_)
    refine az_il1 (pc := 99) C dX9_unboundedAt_99 ?_
    refine az_aaload (pc := 100) C h dX9_unboundedAt_100 (fun h => ?_)
    refine az_getI (pc := 101) C fl_X9_82 rfl dX9_unboundedAt_101 ?_
    refine az_cV3pi (pc := 104) (c := 7) C hd1 h mv_X7_times ml_X9_101 rfl (fun x hx => A_X7_times (by omega) n hx) dX9_unboundedAt_104 (fun r8 h => ?_)
    refine az_icmp_le (pc := 107) (tgt := 112) C h dX9_unboundedAt_107 (by decide) (fun _ h => ?_) (fun _ h => ?_)
    · refine az_ii5 (pc := 112) C az_n1 rfl rfl dX9_unboundedAt_112 ?_
      refine az_goto (pc := 115) (tgt := 62) C dX9_unboundedAt_115 (by decide) ?_
      exact (ih h)
    refine az_ik3 (pc := 110) C dX9_unboundedAt_110 ?_
    obtain rfl := Option.some.inj h
    exact az_ireturn (pc := 111) C dX9_unboundedAt_111 rfl
set_option maxRecDepth 10000 in
set_option maxHeartbeats 4000000 in
theorem A_X9_unboundedAt_13 {Z : az_Z} {d : Nat} (C : az_C Z yX9_unboundedAt cX9_unboundedAt 6 (some .int) d) (hD : 3 ≤ d) (n : Nat) (k : Nat) : ∀ {σ : az_Hp} {v0 v1 v2 v3 v4 v5 : Int} {r : Int}, fz_X9_unboundedAt_13 n k σ v0 v1 v2 v3 v4 v5 = some r → az_AW Z 6 13 [(11, v0), (0, v1), (0, v2), (0, v3), (9, v4), (0, v5)] [] σ (some (0, r), σ) := by
  have hd1 : 1 ≤ d := by omega
  induction k with
  | zero => intro σ v0 v1 v2 v3 v4 v5 r h; simp [fz_X9_unboundedAt_13] at h
  | succ k ih =>
    intro σ v0 v1 v2 v3 v4 v5 r h
    unfold fz_X9_unboundedAt_13 at h
    refine az_il5 (pc := 13) C dX9_unboundedAt_13 ?_
    refine az_il3 (pc := 15) C dX9_unboundedAt_15 ?_
    refine az_icmp_ge (pc := 16) (tgt := 42) C h dX9_unboundedAt_16 (by decide) (fun _ h => ?_) (fun _ h => ?_)
    · refine az_il3 (pc := 42) C dX9_unboundedAt_42 ?_
      refine az_il2 (pc := 43) C dX9_unboundedAt_43 ?_
      refine az_isub (pc := 44) C dX9_unboundedAt_44 ?_
      refine az_al0 (pc := 45) C rfl rfl dX9_unboundedAt_45 ?_
      refine az_getR (pc := 46) (c2 := 16) C h fl_X9_49 rfl rfl dX9_unboundedAt_46 (fun h => ?_)
      refine az_il1 (pc := 49) C dX9_unboundedAt_49 ?_
      refine az_aaload (pc := 50) C h dX9_unboundedAt_50 (fun h => ?_)
      refine az_getI (pc := 51) C fl_X9_82 rfl dX9_unboundedAt_51 ?_
      refine az_icmp_lt (pc := 54) (tgt := 59) C h dX9_unboundedAt_54 (by decide) (fun _ h => ?_) (fun _ h => ?_)
      · refine az_ik0 (pc := 59) C dX9_unboundedAt_59 ?_
        refine az_is5 (pc := 60) C rfl rfl dX9_unboundedAt_60 ?_
        exact (A_X9_unboundedAt_62 C hD n n h)
      refine az_ik2 (pc := 57) C dX9_unboundedAt_57 ?_
      obtain rfl := Option.some.inj h
      exact az_ireturn (pc := 58) C dX9_unboundedAt_58 rfl
    refine az_al4 (pc := 19) C rfl rfl dX9_unboundedAt_19 ?_
    refine az_getR (pc := 21) (c2 := 13) C h fl_X9_85 rfl rfl dX9_unboundedAt_21 (fun h => ?_)
    refine az_il5 (pc := 24) C dX9_unboundedAt_24 ?_
    refine az_iaload (pc := 26) C h dX9_unboundedAt_26 (fun h => ?_)
    refine az_cS1pi (pc := 27) C hd1 h ms_X7_kind ml_X9_75 rfl (fun x hx => A_X7_kind (by omega) hx) dX9_unboundedAt_27 (fun r5 h => ?_)
    refine az_ik2 (pc := 30) C dX9_unboundedAt_30 ?_
    refine az_icmp_ne (pc := 31) (tgt := 36) C h dX9_unboundedAt_31 (by decide) (fun _ h => ?_) (fun _ h => ?_)
    · refine az_ii5 (pc := 36) C az_n1 rfl rfl dX9_unboundedAt_36 ?_
      refine az_goto (pc := 39) (tgt := 13) C dX9_unboundedAt_39 (by decide) ?_
      exact (ih h)
    refine az_ik1 (pc := 34) C dX9_unboundedAt_34 ?_
    obtain rfl := Option.some.inj h
    exact az_ireturn (pc := 35) C dX9_unboundedAt_35 rfl
set_option maxRecDepth 10000 in
set_option maxHeartbeats 4000000 in
theorem A_X9_unboundedAt_e {Z : az_Z} {d : Nat} (C : az_C Z yX9_unboundedAt cX9_unboundedAt 6 (some .int) d) (hD : 3 ≤ d) (n : Nat) {σ : az_Hp} {v0 v1 v2 v3 : Int} {r : Int} (h : fz_X9_unboundedAt n σ v0 v1 v2 v3 = some r) : az_AW Z 6 0 [(11, v0), (0, v1), (0, v2), (0, v3), (31, 0), (31, 0)] [] σ (some (0, r), σ) := by
  have hd1 : 1 ≤ d := by omega
  unfold fz_X9_unboundedAt at h
  refine az_al0 (pc := 0) C rfl rfl dX9_unboundedAt_0 ?_
  refine az_getR (pc := 1) (c2 := 16) C h fl_X9_53 rfl rfl dX9_unboundedAt_1 (fun h => ?_)
  refine az_il1 (pc := 4) C dX9_unboundedAt_4 ?_
  refine az_aaload (pc := 5) C h dX9_unboundedAt_5 (fun h => ?_)
  refine az_as4 (pc := 6) C rfl rfl rfl rfl dX9_unboundedAt_6 ?_
  refine az_il2 (pc := 8) C dX9_unboundedAt_8 ?_
  refine az_ik1 (pc := 9) C dX9_unboundedAt_9 ?_
  refine az_iadd (pc := 10) C dX9_unboundedAt_10 ?_
  refine az_is5 (pc := 11) C rfl rfl dX9_unboundedAt_11 ?_
  exact (A_X9_unboundedAt_13 C hD n n h)
set_option maxRecDepth 10000 in
set_option maxHeartbeats 4000000 in
theorem A_X9_unboundedAt {l : Launch} {d : Nat} (hD : 3 ≤ d) (n : Nat) {σ : az_Hp} {v0 v1 v2 v3 : Int} {r : Int} (h : fz_X9_unboundedAt n σ v0 v1 v2 v3 = some r) : az_AC l yX9_unboundedAt cX9_unboundedAt 6 (some .int) d [(11, v0), (0, v1), (0, v2), (0, v3)] σ (some (0, r), σ) := az_AC.of mt_X9_unboundedAt rfl rfl rfl (fun Z hZ C => A_X9_unboundedAt_e C hD n h)
theorem dX9_unbounded_0 : decode cX9_unbounded 0 = .ok (.iconst 0, 1) := by decide +kernel
theorem dX9_unbounded_1 : decode cX9_unbounded 1 = .ok (.istore_n 2, 1) := by decide +kernel
theorem dX9_unbounded_2 : decode cX9_unbounded 2 = .ok (.aload_n 0, 1) := by decide +kernel
theorem dX9_unbounded_3 : decode cX9_unbounded 3 = .ok (.getfield 53, 3) := by decide +kernel
theorem dX9_unbounded_6 : decode cX9_unbounded 6 = .ok (.iload_n 1, 1) := by decide +kernel
theorem dX9_unbounded_7 : decode cX9_unbounded 7 = .ok (.aaload, 1) := by decide +kernel
theorem dX9_unbounded_8 : decode cX9_unbounded 8 = .ok (.astore_n 3, 1) := by decide +kernel
theorem dX9_unbounded_9 : decode cX9_unbounded 9 = .ok (.iconst 0, 1) := by decide +kernel
theorem dX9_unbounded_10 : decode cX9_unbounded 10 = .ok (.istore 4, 2) := by decide +kernel
theorem dX9_unbounded_12 : decode cX9_unbounded 12 = .ok (.iload 4, 2) := by decide +kernel
theorem dX9_unbounded_14 : decode cX9_unbounded 14 = .ok (.aload_n 3, 1) := by decide +kernel
theorem dX9_unbounded_15 : decode cX9_unbounded 15 = .ok (.getfield 82, 3) := by decide +kernel
theorem dX9_unbounded_18 : decode cX9_unbounded 18 = .ok (.if_icmp .ge 56, 3) := by decide +kernel
theorem dX9_unbounded_21 : decode cX9_unbounded 21 = .ok (.aload_n 3, 1) := by decide +kernel
theorem dX9_unbounded_22 : decode cX9_unbounded 22 = .ok (.getfield 85, 3) := by decide +kernel
theorem dX9_unbounded_25 : decode cX9_unbounded 25 = .ok (.iload 4, 2) := by decide +kernel
theorem dX9_unbounded_27 : decode cX9_unbounded 27 = .ok (.iaload, 1) := by decide +kernel
theorem dX9_unbounded_28 : decode cX9_unbounded 28 = .ok (.invokestatic 75, 3) := by decide +kernel
theorem dX9_unbounded_31 : decode cX9_unbounded 31 = .ok (.iconst 2, 1) := by decide +kernel
theorem dX9_unbounded_32 : decode cX9_unbounded 32 = .ok (.if_icmp .ne 36, 3) := by decide +kernel
theorem dX9_unbounded_35 : decode cX9_unbounded 35 = .ok (.aload_n 0, 1) := by decide +kernel
theorem dX9_unbounded_36 : decode cX9_unbounded 36 = .ok (.iload_n 1, 1) := by decide +kernel
theorem dX9_unbounded_37 : decode cX9_unbounded 37 = .ok (.iload 4, 2) := by decide +kernel
theorem dX9_unbounded_39 : decode cX9_unbounded 39 = .ok (.aload_n 3, 1) := by decide +kernel
theorem dX9_unbounded_40 : decode cX9_unbounded 40 = .ok (.iload 4, 2) := by decide +kernel
theorem dX9_unbounded_42 : decode cX9_unbounded 42 = .ok (.invokevirtual 95, 3) := by decide +kernel
theorem dX9_unbounded_45 : decode cX9_unbounded 45 = .ok (.invokevirtual 98, 3) := by decide +kernel
theorem dX9_unbounded_48 : decode cX9_unbounded 48 = .ok (.istore 5, 2) := by decide +kernel
theorem dX9_unbounded_50 : decode cX9_unbounded 50 = .ok (.iload 5, 2) := by decide +kernel
theorem dX9_unbounded_52 : decode cX9_unbounded 52 = .ok (.ifCond .eq 16, 3) := by decide +kernel
theorem dX9_unbounded_55 : decode cX9_unbounded 55 = .ok (.iload_n 2, 1) := by decide +kernel
theorem dX9_unbounded_56 : decode cX9_unbounded 56 = .ok (.ifCond .eq 9, 3) := by decide +kernel
theorem dX9_unbounded_59 : decode cX9_unbounded 59 = .ok (.iload 5, 2) := by decide +kernel
theorem dX9_unbounded_61 : decode cX9_unbounded 61 = .ok (.iload_n 2, 1) := by decide +kernel
theorem dX9_unbounded_62 : decode cX9_unbounded 62 = .ok (.if_icmp .ge 6, 3) := by decide +kernel
theorem dX9_unbounded_65 : decode cX9_unbounded 65 = .ok (.iload 5, 2) := by decide +kernel
theorem dX9_unbounded_67 : decode cX9_unbounded 67 = .ok (.istore_n 2, 1) := by decide +kernel
theorem dX9_unbounded_68 : decode cX9_unbounded 68 = .ok (.iinc 4 1, 3) := by decide +kernel
theorem dX9_unbounded_71 : decode cX9_unbounded 71 = .ok (.goto (-59), 3) := by decide +kernel
theorem dX9_unbounded_74 : decode cX9_unbounded 74 = .ok (.iload_n 2, 1) := by decide +kernel
theorem dX9_unbounded_75 : decode cX9_unbounded 75 = .ok (.ireturn, 1) := by decide +kernel
set_option maxRecDepth 10000 in
set_option maxHeartbeats 4000000 in
theorem A_X9_unbounded_12 {Z : az_Z} {d : Nat} (C : az_C Z yX9_unbounded cX9_unbounded 6 (some .int) d) (hD : 4 ≤ d) (n : Nat) (k : Nat) : ∀ {σ : az_Hp} {v0 v1 v2 v3 v4 : Int} {r : Int}, fz_X9_unbounded_12 n k σ v0 v1 v2 v3 v4 = some r → az_AW Z 6 12 [(11, v0), (0, v1), (0, v2), (9, v3), (0, v4), (31, 0)] [] σ (some (0, r), σ) := by
  have hd1 : 1 ≤ d := by omega
  induction k with
  | zero => intro σ v0 v1 v2 v3 v4 r h; simp [fz_X9_unbounded_12] at h
  | succ k ih =>
    intro σ v0 v1 v2 v3 v4 r h
    unfold fz_X9_unbounded_12 at h
    refine az_il4 (pc := 12) C dX9_unbounded_12 ?_
    refine az_al3 (pc := 14) C rfl rfl dX9_unbounded_14 ?_
    refine az_getI (pc := 15) C fl_X9_82 rfl dX9_unbounded_15 ?_
    refine az_icmp_ge (pc := 18) (tgt := 74) C h dX9_unbounded_18 (by decide) (fun _ h => ?_) (fun _ h => ?_)
    · refine az_il2 (pc := 74) C dX9_unbounded_74 ?_
      obtain rfl := Option.some.inj h
      exact az_ireturn (pc := 75) C dX9_unbounded_75 rfl
    refine az_al3 (pc := 21) C rfl rfl dX9_unbounded_21 ?_
    refine az_getR (pc := 22) (c2 := 13) C h fl_X9_85 rfl rfl dX9_unbounded_22 (fun h => ?_)
    refine az_il4 (pc := 25) C dX9_unbounded_25 ?_
    refine az_iaload (pc := 27) C h dX9_unbounded_27 (fun h => ?_)
    refine az_cS1pi (pc := 28) C hd1 h ms_X7_kind ml_X9_75 rfl (fun x hx => A_X7_kind (by omega) hx) dX9_unbounded_28 (fun r3 h => ?_)
    refine az_ik2 (pc := 31) C dX9_unbounded_31 ?_
    refine az_icmp_ne (pc := 32) (tgt := 68) C h dX9_unbounded_32 (by decide) (fun _ h => ?_) (fun _ h => ?_)
    · refine az_ii4 (pc := 68) C az_n1 rfl rfl dX9_unbounded_68 ?_
      refine az_goto (pc := 71) (tgt := 12) C dX9_unbounded_71 (by decide) ?_
      exact (ih h)
    refine az_al0 (pc := 35) C rfl rfl dX9_unbounded_35 ?_
    refine az_il1 (pc := 36) C dX9_unbounded_36 ?_
    refine az_il4 (pc := 37) C dX9_unbounded_37 ?_
    refine az_al3 (pc := 39) C rfl rfl dX9_unbounded_39 ?_
    refine az_il4 (pc := 40) C dX9_unbounded_40 ?_
    refine az_cV1pi (pc := 42) (c := 7) C hd1 h mv_X7_end ml_X9_95 rfl (fun x hx => A_X7_end (by omega) n hx) dX9_unbounded_42 (fun r4 h => ?_)
    refine az_cV3pi (pc := 45) (c := 9) C hd1 h mv_X9_unboundedAt ml_X9_98 rfl (fun x hx => A_X9_unboundedAt (by omega) n hx) dX9_unbounded_45 (fun r5 h => ?_)
    refine az_is5 (pc := 48) C rfl rfl dX9_unbounded_48 ?_
    refine az_il5 (pc := 50) C dX9_unbounded_50 ?_
    refine az_if_eq (pc := 52) (tgt := 68) C h dX9_unbounded_52 (by decide) (fun _ h => ?_) (fun _ h => ?_)
    · refine az_ii4 (pc := 68) C az_n1 rfl rfl dX9_unbounded_68 ?_
      refine az_goto (pc := 71) (tgt := 12) C dX9_unbounded_71 (by decide) ?_
      exact (az_wkk (ih h) (az_sE (az_sE (az_sE (az_sE (az_sE (az_sJ az_sN)))))))
    refine az_il2 (pc := 55) C dX9_unbounded_55 ?_
    refine az_if_eq (pc := 56) (tgt := 65) C h dX9_unbounded_56 (by decide) (fun _ h => ?_) (fun _ h => ?_)
    · refine az_il5 (pc := 65) C dX9_unbounded_65 ?_
      refine az_is2 (pc := 67) C rfl rfl dX9_unbounded_67 ?_
      refine az_ii4 (pc := 68) C az_n1 rfl rfl dX9_unbounded_68 ?_
      refine az_goto (pc := 71) (tgt := 12) C dX9_unbounded_71 (by decide) ?_
      exact (az_wkk (ih h) (az_sE (az_sE (az_sE (az_sE (az_sE (az_sJ az_sN)))))))
    refine az_il5 (pc := 59) C dX9_unbounded_59 ?_
    refine az_il2 (pc := 61) C dX9_unbounded_61 ?_
    refine az_icmp_ge (pc := 62) (tgt := 68) C h dX9_unbounded_62 (by decide) (fun _ h => ?_) (fun _ h => ?_)
    · refine az_ii4 (pc := 68) C az_n1 rfl rfl dX9_unbounded_68 ?_
      refine az_goto (pc := 71) (tgt := 12) C dX9_unbounded_71 (by decide) ?_
      exact (az_wkk (ih h) (az_sE (az_sE (az_sE (az_sE (az_sE (az_sJ az_sN)))))))
    refine az_il5 (pc := 65) C dX9_unbounded_65 ?_
    refine az_is2 (pc := 67) C rfl rfl dX9_unbounded_67 ?_
    refine az_ii4 (pc := 68) C az_n1 rfl rfl dX9_unbounded_68 ?_
    refine az_goto (pc := 71) (tgt := 12) C dX9_unbounded_71 (by decide) ?_
    exact (az_wkk (ih h) (az_sE (az_sE (az_sE (az_sE (az_sE (az_sJ az_sN)))))))
set_option maxRecDepth 10000 in
set_option maxHeartbeats 4000000 in
theorem A_X9_unbounded_e {Z : az_Z} {d : Nat} (C : az_C Z yX9_unbounded cX9_unbounded 6 (some .int) d) (hD : 4 ≤ d) (n : Nat) {σ : az_Hp} {v0 v1 : Int} {r : Int} (h : fz_X9_unbounded n σ v0 v1 = some r) : az_AW Z 6 0 [(11, v0), (0, v1), (31, 0), (31, 0), (31, 0), (31, 0)] [] σ (some (0, r), σ) := by
  have hd1 : 1 ≤ d := by omega
  unfold fz_X9_unbounded at h
  refine az_ik0 (pc := 0) C dX9_unbounded_0 ?_
  refine az_is2 (pc := 1) C rfl rfl dX9_unbounded_1 ?_
  refine az_al0 (pc := 2) C rfl rfl dX9_unbounded_2 ?_
  refine az_getR (pc := 3) (c2 := 16) C h fl_X9_53 rfl rfl dX9_unbounded_3 (fun h => ?_)
  refine az_il1 (pc := 6) C dX9_unbounded_6 ?_
  refine az_aaload (pc := 7) C h dX9_unbounded_7 (fun h => ?_)
  refine az_as3 (pc := 8) C rfl rfl rfl rfl dX9_unbounded_8 ?_
  refine az_ik0 (pc := 9) C dX9_unbounded_9 ?_
  refine az_is4 (pc := 10) C rfl rfl dX9_unbounded_10 ?_
  exact (A_X9_unbounded_12 C hD n n h)
set_option maxRecDepth 10000 in
set_option maxHeartbeats 4000000 in
theorem A_X9_unbounded {l : Launch} {d : Nat} (hD : 4 ≤ d) (n : Nat) {σ : az_Hp} {v0 v1 : Int} {r : Int} (h : fz_X9_unbounded n σ v0 v1 = some r) : az_AC l yX9_unbounded cX9_unbounded 6 (some .int) d [(11, v0), (0, v1)] σ (some (0, r), σ) := az_AC.of mt_X9_unbounded rfl rfl rfl (fun Z hZ C => A_X9_unbounded_e C hD n h)
theorem dX10_equation_0 : decode cX10_equation 0 = .ok (.iload_n 2, 1) := by decide +kernel
theorem dX10_equation_1 : decode cX10_equation 1 = .ok (.ifCond .lt 8, 3) := by decide +kernel
theorem dX10_equation_4 : decode cX10_equation 4 = .ok (.iload_n 2, 1) := by decide +kernel
theorem dX10_equation_5 : decode cX10_equation 5 = .ok (.iconst 5, 1) := by decide +kernel
theorem dX10_equation_6 : decode cX10_equation 6 = .ok (.if_icmp .le 9, 3) := by decide +kernel
theorem dX10_equation_9 : decode cX10_equation 9 = .ok (.aload_n 0, 1) := by decide +kernel
theorem dX10_equation_10 : decode cX10_equation 10 = .ok (.iconst 1, 1) := by decide +kernel
theorem dX10_equation_11 : decode cX10_equation 11 = .ok (.invokevirtual 112, 3) := by decide +kernel
theorem dX10_equation_14 : decode cX10_equation 14 = .ok (.ireturn, 1) := by decide +kernel
theorem dX10_equation_15 : decode cX10_equation 15 = .ok (.aload_n 0, 1) := by decide +kernel
theorem dX10_equation_16 : decode cX10_equation 16 = .ok (.iload_n 1, 1) := by decide +kernel
theorem dX10_equation_17 : decode cX10_equation 17 = .ok (.invokevirtual 176, 3) := by decide +kernel
theorem dX10_equation_20 : decode cX10_equation 20 = .ok (.ifCond .ne 9, 3) := by decide +kernel
theorem dX10_equation_23 : decode cX10_equation 23 = .ok (.aload_n 0, 1) := by decide +kernel
theorem dX10_equation_24 : decode cX10_equation 24 = .ok (.iconst 2, 1) := by decide +kernel
theorem dX10_equation_25 : decode cX10_equation 25 = .ok (.invokevirtual 112, 3) := by decide +kernel
theorem dX10_equation_28 : decode cX10_equation 28 = .ok (.ireturn, 1) := by decide +kernel
theorem dX10_equation_29 : decode cX10_equation 29 = .ok (.iload_n 2, 1) := by decide +kernel
theorem dX10_equation_30 : decode cX10_equation 30 = .ok (.tableswitch 109 0 4 #[34, 48, 61, 75, 92], 34) := by decide +kernel
theorem dX10_equation_64 : decode cX10_equation 64 = .ok (.aload_n 0, 1) := by decide +kernel
theorem dX10_equation_65 : decode cX10_equation 65 = .ok (.aload_n 0, 1) := by decide +kernel
theorem dX10_equation_66 : decode cX10_equation 66 = .ok (.getfield 29, 3) := by decide +kernel
theorem dX10_equation_69 : decode cX10_equation 69 = .ok (.getfield 179, 3) := by decide +kernel
theorem dX10_equation_72 : decode cX10_equation 72 = .ok (.iload_n 1, 1) := by decide +kernel
theorem dX10_equation_73 : decode cX10_equation 73 = .ok (.iaload, 1) := by decide +kernel
theorem dX10_equation_74 : decode cX10_equation 74 = .ok (.invokevirtual 138, 3) := by decide +kernel
theorem dX10_equation_77 : decode cX10_equation 77 = .ok (.ireturn, 1) := by decide +kernel
theorem dX10_equation_78 : decode cX10_equation 78 = .ok (.aload_n 0, 1) := by decide +kernel
theorem dX10_equation_79 : decode cX10_equation 79 = .ok (.aload_n 0, 1) := by decide +kernel
theorem dX10_equation_80 : decode cX10_equation 80 = .ok (.getfield 29, 3) := by decide +kernel
theorem dX10_equation_83 : decode cX10_equation 83 = .ok (.iload_n 1, 1) := by decide +kernel
theorem dX10_equation_84 : decode cX10_equation 84 = .ok (.invokevirtual 182, 3) := by decide +kernel
theorem dX10_equation_87 : decode cX10_equation 87 = .ok (.invokevirtual 138, 3) := by decide +kernel
theorem dX10_equation_90 : decode cX10_equation 90 = .ok (.ireturn, 1) := by decide +kernel
theorem dX10_equation_91 : decode cX10_equation 91 = .ok (.aload_n 0, 1) := by decide +kernel
theorem dX10_equation_92 : decode cX10_equation 92 = .ok (.aload_n 0, 1) := by decide +kernel
theorem dX10_equation_93 : decode cX10_equation 93 = .ok (.getfield 29, 3) := by decide +kernel
theorem dX10_equation_96 : decode cX10_equation 96 = .ok (.getfield 185, 3) := by decide +kernel
theorem dX10_equation_99 : decode cX10_equation 99 = .ok (.iload_n 1, 1) := by decide +kernel
theorem dX10_equation_100 : decode cX10_equation 100 = .ok (.iaload, 1) := by decide +kernel
theorem dX10_equation_101 : decode cX10_equation 101 = .ok (.invokevirtual 138, 3) := by decide +kernel
theorem dX10_equation_104 : decode cX10_equation 104 = .ok (.ireturn, 1) := by decide +kernel
theorem dX10_equation_105 : decode cX10_equation 105 = .ok (.aload_n 0, 1) := by decide +kernel
theorem dX10_equation_106 : decode cX10_equation 106 = .ok (.aload_n 0, 1) := by decide +kernel
theorem dX10_equation_107 : decode cX10_equation 107 = .ok (.getfield 29, 3) := by decide +kernel
theorem dX10_equation_110 : decode cX10_equation 110 = .ok (.getfield 188, 3) := by decide +kernel
theorem dX10_equation_113 : decode cX10_equation 113 = .ok (.iload_n 1, 1) := by decide +kernel
theorem dX10_equation_114 : decode cX10_equation 114 = .ok (.aaload, 1) := by decide +kernel
theorem dX10_equation_115 : decode cX10_equation 115 = .ok (.getfield 129, 3) := by decide +kernel
theorem dX10_equation_118 : decode cX10_equation 118 = .ok (.invokevirtual 138, 3) := by decide +kernel
theorem dX10_equation_121 : decode cX10_equation 121 = .ok (.ireturn, 1) := by decide +kernel
theorem dX10_equation_122 : decode cX10_equation 122 = .ok (.aload_n 0, 1) := by decide +kernel
theorem dX10_equation_123 : decode cX10_equation 123 = .ok (.aload_n 0, 1) := by decide +kernel
theorem dX10_equation_124 : decode cX10_equation 124 = .ok (.getfield 29, 3) := by decide +kernel
theorem dX10_equation_127 : decode cX10_equation 127 = .ok (.getfield 192, 3) := by decide +kernel
theorem dX10_equation_130 : decode cX10_equation 130 = .ok (.iload_n 1, 1) := by decide +kernel
theorem dX10_equation_131 : decode cX10_equation 131 = .ok (.aaload, 1) := by decide +kernel
theorem dX10_equation_132 : decode cX10_equation 132 = .ok (.getfield 129, 3) := by decide +kernel
theorem dX10_equation_135 : decode cX10_equation 135 = .ok (.invokevirtual 138, 3) := by decide +kernel
theorem dX10_equation_138 : decode cX10_equation 138 = .ok (.ireturn, 1) := by decide +kernel
theorem dX10_equation_139 : decode cX10_equation 139 = .ok (.aload_n 0, 1) := by decide +kernel
theorem dX10_equation_140 : decode cX10_equation 140 = .ok (.aload_n 0, 1) := by decide +kernel
theorem dX10_equation_141 : decode cX10_equation 141 = .ok (.getfield 29, 3) := by decide +kernel
theorem dX10_equation_144 : decode cX10_equation 144 = .ok (.iload_n 1, 1) := by decide +kernel
theorem dX10_equation_145 : decode cX10_equation 145 = .ok (.invokevirtual 195, 3) := by decide +kernel
theorem dX10_equation_148 : decode cX10_equation 148 = .ok (.invokevirtual 138, 3) := by decide +kernel
theorem dX10_equation_151 : decode cX10_equation 151 = .ok (.ireturn, 1) := by decide +kernel
set_option maxRecDepth 10000 in
set_option maxHeartbeats 4000000 in
theorem A_X10_equation_e {Z : az_Z} {d : Nat} (C : az_C Z yX10_equation cX10_equation 3 (some .int) d) (hD : 5 ≤ d) (n : Nat) {σ : az_Hp} {v0 v1 v2 : Int} {r : (Int × az_Hp)} (h : fz_X10_equation n σ v0 v1 v2 = some r) : az_AW Z 3 0 [(12, v0), (0, v1), (0, v2)] [] σ (some (0, r.1), r.2) := by
  have hd1 : 1 ≤ d := by omega
  unfold fz_X10_equation at h
  refine az_il2 (pc := 0) C dX10_equation_0 ?_
  refine az_if_lt (pc := 1) (tgt := 9) C h dX10_equation_1 (by decide) (fun _ h => ?_) (fun _ h => ?_)
  · refine az_al0 (pc := 9) C rfl rfl dX10_equation_9 ?_
    refine az_ik1 (pc := 10) C dX10_equation_10 ?_
    refine az_cV1ii (pc := 11) (c := 10) C hd1 h mv_X10_refuse ml_X10_112 rfl (fun x hx => A_X10_refuse (by omega) hx) dX10_equation_11 (fun r1 h => ?_)
    obtain rfl := Option.some.inj h
    exact az_ireturn (pc := 14) C dX10_equation_14 rfl
  refine az_il2 (pc := 4) C dX10_equation_4 ?_
  refine az_ik5 (pc := 5) C dX10_equation_5 ?_
  refine az_icmp_le (pc := 6) (tgt := 15) C h dX10_equation_6 (by decide) (fun _ h => ?_) (fun _ h => ?_)
  · refine az_al0 (pc := 15) C rfl rfl dX10_equation_15 ?_
    refine az_il1 (pc := 16) C dX10_equation_16 ?_
    refine az_cV1pi (pc := 17) (c := 10) C hd1 h mv_X10_isEquation ml_X10_176 rfl (fun x hx => A_X10_isEquation (by omega) hx) dX10_equation_17 (fun r2 h => ?_)
    refine az_if_ne (pc := 20) (tgt := 29) C h dX10_equation_20 (by decide) (fun _ h => ?_) (fun _ h => ?_)
    · refine az_il2 (pc := 29) C dX10_equation_29 ?_
      rcases az_ite h with ⟨c0, h⟩ | ⟨c0, h⟩
      · refine az_tswIn (pc := 30) (i := 0) (tgt := 64) C (by exact c0) (by decide) rfl dX10_equation_30 (by decide) ?_
        refine az_al0 (pc := 64) C rfl rfl dX10_equation_64 ?_
        refine az_al0 (pc := 65) C rfl rfl dX10_equation_65 ?_
        refine az_getR (pc := 66) (c2 := 9) C h fl_X10_29 rfl rfl dX10_equation_66 (fun h => ?_)
        refine az_getR (pc := 69) (c2 := 13) C h fl_X10_179 rfl rfl dX10_equation_69 (fun h => ?_)
        refine az_il1 (pc := 72) C dX10_equation_72 ?_
        refine az_iaload (pc := 73) C h dX10_equation_73 (fun h => ?_)
        refine az_cV1ii (pc := 74) (c := 10) C hd1 h mv_X10_give ml_X10_138 rfl (fun x hx => A_X10_give (by omega) hx) dX10_equation_74 (fun r6 h => ?_)
        obtain rfl := Option.some.inj h
        exact az_ireturn (pc := 77) C dX10_equation_77 rfl
      rcases az_ite h with ⟨c1, h⟩ | ⟨c1, h⟩
      · refine az_tswIn (pc := 30) (i := 1) (tgt := 78) C (by exact c1) (by decide) rfl dX10_equation_30 (by decide) ?_
        refine az_al0 (pc := 78) C rfl rfl dX10_equation_78 ?_
        refine az_al0 (pc := 79) C rfl rfl dX10_equation_79 ?_
        refine az_getR (pc := 80) (c2 := 9) C h fl_X10_29 rfl rfl dX10_equation_80 (fun h => ?_)
        refine az_il1 (pc := 83) C dX10_equation_83 ?_
        refine az_cV1pi (pc := 84) (c := 9) C hd1 h mv_X9_rank ml_X10_182 rfl (fun x hx => A_X9_rank (by omega) n hx) dX10_equation_84 (fun r8 h => ?_)
        refine az_cV1ii (pc := 87) (c := 10) C hd1 h mv_X10_give ml_X10_138 rfl (fun x hx => A_X10_give (by omega) hx) dX10_equation_87 (fun r9 h => ?_)
        obtain rfl := Option.some.inj h
        exact az_ireturn (pc := 90) C dX10_equation_90 rfl
      rcases az_ite h with ⟨c2, h⟩ | ⟨c2, h⟩
      · refine az_tswIn (pc := 30) (i := 2) (tgt := 91) C (by exact c2) (by decide) rfl dX10_equation_30 (by decide) ?_
        refine az_al0 (pc := 91) C rfl rfl dX10_equation_91 ?_
        refine az_al0 (pc := 92) C rfl rfl dX10_equation_92 ?_
        refine az_getR (pc := 93) (c2 := 9) C h fl_X10_29 rfl rfl dX10_equation_93 (fun h => ?_)
        refine az_getR (pc := 96) (c2 := 13) C h fl_X10_185 rfl rfl dX10_equation_96 (fun h => ?_)
        refine az_il1 (pc := 99) C dX10_equation_99 ?_
        refine az_iaload (pc := 100) C h dX10_equation_100 (fun h => ?_)
        refine az_cV1ii (pc := 101) (c := 10) C hd1 h mv_X10_give ml_X10_138 rfl (fun x hx => A_X10_give (by omega) hx) dX10_equation_101 (fun r13 h => ?_)
        obtain rfl := Option.some.inj h
        exact az_ireturn (pc := 104) C dX10_equation_104 rfl
      rcases az_ite h with ⟨c3, h⟩ | ⟨c3, h⟩
      · refine az_tswIn (pc := 30) (i := 3) (tgt := 105) C (by exact c3) (by decide) rfl dX10_equation_30 (by decide) ?_
        refine az_al0 (pc := 105) C rfl rfl dX10_equation_105 ?_
        refine az_al0 (pc := 106) C rfl rfl dX10_equation_106 ?_
        refine az_getR (pc := 107) (c2 := 9) C h fl_X10_29 rfl rfl dX10_equation_107 (fun h => ?_)
        refine az_getR (pc := 110) (c2 := 16) C h fl_X10_188 rfl rfl dX10_equation_110 (fun h => ?_)
        refine az_il1 (pc := 113) C dX10_equation_113 ?_
        refine az_aaload (pc := 114) C h dX10_equation_114 (fun h => ?_)
        refine az_getI (pc := 115) C fl_X10_129 rfl dX10_equation_115 ?_
        refine az_cV1ii (pc := 118) (c := 10) C hd1 h mv_X10_give ml_X10_138 rfl (fun x hx => A_X10_give (by omega) hx) dX10_equation_118 (fun r17 h => ?_)
        obtain rfl := Option.some.inj h
        exact az_ireturn (pc := 121) C dX10_equation_121 rfl
      rcases az_ite h with ⟨c4, h⟩ | ⟨c4, h⟩
      · refine az_tswIn (pc := 30) (i := 4) (tgt := 122) C (by exact c4) (by decide) rfl dX10_equation_30 (by decide) ?_
        refine az_al0 (pc := 122) C rfl rfl dX10_equation_122 ?_
        refine az_al0 (pc := 123) C rfl rfl dX10_equation_123 ?_
        refine az_getR (pc := 124) (c2 := 9) C h fl_X10_29 rfl rfl dX10_equation_124 (fun h => ?_)
        refine az_getR (pc := 127) (c2 := 16) C h fl_X10_192 rfl rfl dX10_equation_127 (fun h => ?_)
        refine az_il1 (pc := 130) C dX10_equation_130 ?_
        refine az_aaload (pc := 131) C h dX10_equation_131 (fun h => ?_)
        refine az_getI (pc := 132) C fl_X10_129 rfl dX10_equation_132 ?_
        refine az_cV1ii (pc := 135) (c := 10) C hd1 h mv_X10_give ml_X10_138 rfl (fun x hx => A_X10_give (by omega) hx) dX10_equation_135 (fun r21 h => ?_)
        obtain rfl := Option.some.inj h
        exact az_ireturn (pc := 138) C dX10_equation_138 rfl
      refine az_tswOut (pc := 30) (tgt := 139) C (by omega) dX10_equation_30 (by decide) ?_
      refine az_al0 (pc := 139) C rfl rfl dX10_equation_139 ?_
      refine az_al0 (pc := 140) C rfl rfl dX10_equation_140 ?_
      refine az_getR (pc := 141) (c2 := 9) C h fl_X10_29 rfl rfl dX10_equation_141 (fun h => ?_)
      refine az_il1 (pc := 144) C dX10_equation_144 ?_
      refine az_cV1pi (pc := 145) (c := 9) C hd1 h mv_X9_unbounded ml_X10_195 rfl (fun x hx => A_X9_unbounded (by omega) n hx) dX10_equation_145 (fun r23 h => ?_)
      refine az_cV1ii (pc := 148) (c := 10) C hd1 h mv_X10_give ml_X10_138 rfl (fun x hx => A_X10_give (by omega) hx) dX10_equation_148 (fun r24 h => ?_)
      obtain rfl := Option.some.inj h
      exact az_ireturn (pc := 151) C dX10_equation_151 rfl
    refine az_al0 (pc := 23) C rfl rfl dX10_equation_23 ?_
    refine az_ik2 (pc := 24) C dX10_equation_24 ?_
    refine az_cV1ii (pc := 25) (c := 10) C hd1 h mv_X10_refuse ml_X10_112 rfl (fun x hx => A_X10_refuse (by omega) hx) dX10_equation_25 (fun r25 h => ?_)
    obtain rfl := Option.some.inj h
    exact az_ireturn (pc := 28) C dX10_equation_28 rfl
  refine az_al0 (pc := 9) C rfl rfl dX10_equation_9 ?_
  refine az_ik1 (pc := 10) C dX10_equation_10 ?_
  refine az_cV1ii (pc := 11) (c := 10) C hd1 h mv_X10_refuse ml_X10_112 rfl (fun x hx => A_X10_refuse (by omega) hx) dX10_equation_11 (fun r26 h => ?_)
  obtain rfl := Option.some.inj h
  exact az_ireturn (pc := 14) C dX10_equation_14 rfl
set_option maxRecDepth 10000 in
set_option maxHeartbeats 4000000 in
theorem A_X10_equation {l : Launch} {d : Nat} (hD : 5 ≤ d) (n : Nat) {σ : az_Hp} {v0 v1 v2 : Int} {r : (Int × az_Hp)} (h : fz_X10_equation n σ v0 v1 v2 = some r) : az_AC l yX10_equation cX10_equation 3 (some .int) d [(12, v0), (0, v1), (0, v2)] σ (some (0, r.1), r.2) := az_AC.of mt_X10_equation rfl rfl rfl (fun Z hZ C => A_X10_equation_e C hD n h)
theorem dX9_called_0 : decode cX9_called 0 = .ok (.iconst 0, 1) := by decide +kernel
theorem dX9_called_1 : decode cX9_called 1 = .ok (.istore_n 2, 1) := by decide +kernel
theorem dX9_called_2 : decode cX9_called 2 = .ok (.iconst 0, 1) := by decide +kernel
theorem dX9_called_3 : decode cX9_called 3 = .ok (.istore_n 3, 1) := by decide +kernel
theorem dX9_called_4 : decode cX9_called 4 = .ok (.iload_n 3, 1) := by decide +kernel
theorem dX9_called_5 : decode cX9_called 5 = .ok (.aload_n 0, 1) := by decide +kernel
theorem dX9_called_6 : decode cX9_called 6 = .ok (.getfield 18, 3) := by decide +kernel
theorem dX9_called_9 : decode cX9_called 9 = .ok (.if_icmp .ge 75, 3) := by decide +kernel
theorem dX9_called_12 : decode cX9_called 12 = .ok (.iconst 0, 1) := by decide +kernel
theorem dX9_called_13 : decode cX9_called 13 = .ok (.istore 4, 2) := by decide +kernel
theorem dX9_called_15 : decode cX9_called 15 = .ok (.aload_n 0, 1) := by decide +kernel
theorem dX9_called_16 : decode cX9_called 16 = .ok (.getfield 41, 3) := by decide +kernel
theorem dX9_called_19 : decode cX9_called 19 = .ok (.iload_n 3, 1) := by decide +kernel
theorem dX9_called_20 : decode cX9_called 20 = .ok (.iaload, 1) := by decide +kernel
theorem dX9_called_21 : decode cX9_called 21 = .ok (.iload_n 1, 1) := by decide +kernel
theorem dX9_called_22 : decode cX9_called 22 = .ok (.if_icmp .ne 56, 3) := by decide +kernel
theorem dX9_called_25 : decode cX9_called 25 = .ok (.iload 4, 2) := by decide +kernel
theorem dX9_called_27 : decode cX9_called 27 = .ok (.aload_n 0, 1) := by decide +kernel
theorem dX9_called_28 : decode cX9_called 28 = .ok (.getfield 53, 3) := by decide +kernel
theorem dX9_called_31 : decode cX9_called 31 = .ok (.iload_n 3, 1) := by decide +kernel
theorem dX9_called_32 : decode cX9_called 32 = .ok (.aaload, 1) := by decide +kernel
theorem dX9_called_33 : decode cX9_called 33 = .ok (.getfield 82, 3) := by decide +kernel
theorem dX9_called_36 : decode cX9_called 36 = .ok (.if_icmp .ge 42, 3) := by decide +kernel
theorem dX9_called_39 : decode cX9_called 39 = .ok (.aload_n 0, 1) := by decide +kernel
theorem dX9_called_40 : decode cX9_called 40 = .ok (.getfield 53, 3) := by decide +kernel
theorem dX9_called_43 : decode cX9_called 43 = .ok (.iload_n 3, 1) := by decide +kernel
theorem dX9_called_44 : decode cX9_called 44 = .ok (.aaload, 1) := by decide +kernel
theorem dX9_called_45 : decode cX9_called 45 = .ok (.getfield 85, 3) := by decide +kernel
theorem dX9_called_48 : decode cX9_called 48 = .ok (.iload 4, 2) := by decide +kernel
theorem dX9_called_50 : decode cX9_called 50 = .ok (.iaload, 1) := by decide +kernel
theorem dX9_called_51 : decode cX9_called 51 = .ok (.istore 5, 2) := by decide +kernel
theorem dX9_called_53 : decode cX9_called 53 = .ok (.iload 5, 2) := by decide +kernel
theorem dX9_called_55 : decode cX9_called 55 = .ok (.invokestatic 75, 3) := by decide +kernel
theorem dX9_called_58 : decode cX9_called 58 = .ok (.iconst 2, 1) := by decide +kernel
theorem dX9_called_59 : decode cX9_called 59 = .ok (.if_icmp .ne 13, 3) := by decide +kernel
theorem dX9_called_62 : decode cX9_called 62 = .ok (.iload_n 2, 1) := by decide +kernel
theorem dX9_called_63 : decode cX9_called 63 = .ok (.iconst 1, 1) := by decide +kernel
theorem dX9_called_64 : decode cX9_called 64 = .ok (.iload 5, 2) := by decide +kernel
theorem dX9_called_66 : decode cX9_called 66 = .ok (.invokestatic 71, 3) := by decide +kernel
theorem dX9_called_69 : decode cX9_called 69 = .ok (.ishl, 1) := by decide +kernel
theorem dX9_called_70 : decode cX9_called 70 = .ok (.ior, 1) := by decide +kernel
theorem dX9_called_71 : decode cX9_called 71 = .ok (.istore_n 2, 1) := by decide +kernel
theorem dX9_called_72 : decode cX9_called 72 = .ok (.iinc 4 1, 3) := by decide +kernel
theorem dX9_called_75 : decode cX9_called 75 = .ok (.goto (-60), 3) := by decide +kernel
theorem dX9_called_78 : decode cX9_called 78 = .ok (.iinc 3 1, 3) := by decide +kernel
theorem dX9_called_81 : decode cX9_called 81 = .ok (.goto (-77), 3) := by decide +kernel
theorem dX9_called_84 : decode cX9_called 84 = .ok (.iload_n 2, 1) := by decide +kernel
theorem dX9_called_85 : decode cX9_called 85 = .ok (.ireturn, 1) := by decide +kernel
set_option maxRecDepth 10000 in
set_option maxHeartbeats 4000000 in
theorem A_X9_called_15 {Z : az_Z} {d : Nat} (C : az_C Z yX9_called cX9_called 6 (some .int) d) (hD : 2 ≤ d) (n : Nat) {k4 : az_Hp → Int → Int → Int → Int → Option Int} (hk4 : ∀ {σ : az_Hp} {v0 v1 v2 v3 : Int} {r : Int}, k4 σ v0 v1 v2 v3 = some r → az_AW Z 6 4 [(11, v0), (0, v1), (0, v2), (0, v3), (31, 0), (31, 0)] [] σ (some (0, r), σ)) (k : Nat) : ∀ {σ : az_Hp} {v0 v1 v2 v3 v4 : Int} {r : Int}, fz_X9_called_15 n k4 k σ v0 v1 v2 v3 v4 = some r → az_AW Z 6 15 [(11, v0), (0, v1), (0, v2), (0, v3), (0, v4), (31, 0)] [] σ (some (0, r), σ) := by
  have hd1 : 1 ≤ d := by omega
  induction k with
  | zero => intro σ v0 v1 v2 v3 v4 r h; simp [fz_X9_called_15] at h
  | succ k ih =>
    intro σ v0 v1 v2 v3 v4 r h
    unfold fz_X9_called_15 at h
    refine az_al0 (pc := 15) C rfl rfl dX9_called_15 ?_
    refine az_getR (pc := 16) (c2 := 13) C h fl_X9_41 rfl rfl dX9_called_16 (fun h => ?_)
    refine az_il3 (pc := 19) C dX9_called_19 ?_
    refine az_iaload (pc := 20) C h dX9_called_20 (fun h => ?_)
    refine az_il1 (pc := 21) C dX9_called_21 ?_
    refine az_icmp_ne (pc := 22) (tgt := 78) C h dX9_called_22 (by decide) (fun _ h => ?_) (fun _ h => ?_)
    · refine az_ii3 (pc := 78) C az_n1 rfl rfl dX9_called_78 ?_
      refine az_goto (pc := 81) (tgt := 4) C dX9_called_81 (by decide) ?_
      exact (az_wkk (hk4 h) (az_sE (az_sE (az_sE (az_sE (az_sJ (az_sJ az_sN)))))))
    refine az_il4 (pc := 25) C dX9_called_25 ?_
    refine az_al0 (pc := 27) C rfl rfl dX9_called_27 ?_
    refine az_getR (pc := 28) (c2 := 16) C h fl_X9_53 rfl rfl dX9_called_28 (fun h => ?_)
    refine az_il3 (pc := 31) C dX9_called_31 ?_
    refine az_aaload (pc := 32) C h dX9_called_32 (fun h => ?_)
    refine az_getI (pc := 33) C fl_X9_82 rfl dX9_called_33 ?_
    refine az_icmp_ge (pc := 36) (tgt := 78) C h dX9_called_36 (by decide) (fun _ h => ?_) (fun _ h => ?_)
    · refine az_ii3 (pc := 78) C az_n1 rfl rfl dX9_called_78 ?_
      refine az_goto (pc := 81) (tgt := 4) C dX9_called_81 (by decide) ?_
      exact (az_wkk (hk4 h) (az_sE (az_sE (az_sE (az_sE (az_sJ (az_sJ az_sN)))))))
    refine az_al0 (pc := 39) C rfl rfl dX9_called_39 ?_
    refine az_getR (pc := 40) (c2 := 16) C h fl_X9_53 rfl rfl dX9_called_40 (fun h => ?_)
    refine az_il3 (pc := 43) C dX9_called_43 ?_
    refine az_aaload (pc := 44) C h dX9_called_44 (fun h => ?_)
    refine az_getR (pc := 45) (c2 := 13) C h fl_X9_85 rfl rfl dX9_called_45 (fun h => ?_)
    refine az_il4 (pc := 48) C dX9_called_48 ?_
    refine az_iaload (pc := 50) C h dX9_called_50 (fun h => ?_)
    refine az_is5 (pc := 51) C rfl rfl dX9_called_51 ?_
    refine az_il5 (pc := 53) C dX9_called_53 ?_
    refine az_cS1pi (pc := 55) C hd1 h ms_X7_kind ml_X9_75 rfl (fun x hx => A_X7_kind (by omega) hx) dX9_called_55 (fun r9 h => ?_)
    refine az_ik2 (pc := 58) C dX9_called_58 ?_
    refine az_icmp_ne (pc := 59) (tgt := 72) C h dX9_called_59 (by decide) (fun _ h => ?_) (fun _ h => ?_)
    · refine az_ii4 (pc := 72) C az_n1 rfl rfl dX9_called_72 ?_
      refine az_goto (pc := 75) (tgt := 15) C dX9_called_75 (by decide) ?_
      exact (az_wkk (ih h) (az_sE (az_sE (az_sE (az_sE (az_sE (az_sJ az_sN)))))))
    refine az_il2 (pc := 62) C dX9_called_62 ?_
    refine az_ik1 (pc := 63) C dX9_called_63 ?_
    refine az_il5 (pc := 64) C dX9_called_64 ?_
    refine az_cS1pi (pc := 66) C hd1 h ms_X7_number ml_X9_71 rfl (fun x hx => A_X7_number (by omega) hx) dX9_called_66 (fun r10 h => ?_)
    refine az_ishl (pc := 69) C dX9_called_69 ?_
    refine az_ior (pc := 70) C dX9_called_70 ?_
    refine az_is2 (pc := 71) C rfl rfl dX9_called_71 ?_
    refine az_ii4 (pc := 72) C az_n1 rfl rfl dX9_called_72 ?_
    refine az_goto (pc := 75) (tgt := 15) C dX9_called_75 (by decide) ?_
    exact (az_wkk (ih h) (az_sE (az_sE (az_sE (az_sE (az_sE (az_sJ az_sN)))))))
set_option maxRecDepth 10000 in
set_option maxHeartbeats 4000000 in
theorem A_X9_called_4 {Z : az_Z} {d : Nat} (C : az_C Z yX9_called cX9_called 6 (some .int) d) (hD : 2 ≤ d) (n : Nat) (k : Nat) : ∀ {σ : az_Hp} {v0 v1 v2 v3 : Int} {r : Int}, fz_X9_called_4 n k σ v0 v1 v2 v3 = some r → az_AW Z 6 4 [(11, v0), (0, v1), (0, v2), (0, v3), (31, 0), (31, 0)] [] σ (some (0, r), σ) := by
  have hd1 : 1 ≤ d := by omega
  induction k with
  | zero => intro σ v0 v1 v2 v3 r h; simp [fz_X9_called_4] at h
  | succ k ih =>
    intro σ v0 v1 v2 v3 r h
    unfold fz_X9_called_4 at h
    refine az_il3 (pc := 4) C dX9_called_4 ?_
    refine az_al0 (pc := 5) C rfl rfl dX9_called_5 ?_
    refine az_getI (pc := 6) C fl_X9_18 rfl dX9_called_6 ?_
    refine az_icmp_ge (pc := 9) (tgt := 84) C h dX9_called_9 (by decide) (fun _ h => ?_) (fun _ h => ?_)
    · refine az_il2 (pc := 84) C dX9_called_84 ?_
      obtain rfl := Option.some.inj h
      exact az_ireturn (pc := 85) C dX9_called_85 rfl
    refine az_ik0 (pc := 12) C dX9_called_12 ?_
    refine az_is4 (pc := 13) C rfl rfl dX9_called_13 ?_
    exact (A_X9_called_15 C hD n (fun h => ih h) n h)
set_option maxRecDepth 10000 in
set_option maxHeartbeats 4000000 in
theorem A_X9_called_e {Z : az_Z} {d : Nat} (C : az_C Z yX9_called cX9_called 6 (some .int) d) (hD : 2 ≤ d) (n : Nat) {σ : az_Hp} {v0 v1 : Int} {r : Int} (h : fz_X9_called n σ v0 v1 = some r) : az_AW Z 6 0 [(11, v0), (0, v1), (31, 0), (31, 0), (31, 0), (31, 0)] [] σ (some (0, r), σ) := by
  have hd1 : 1 ≤ d := by omega
  unfold fz_X9_called at h
  refine az_ik0 (pc := 0) C dX9_called_0 ?_
  refine az_is2 (pc := 1) C rfl rfl dX9_called_1 ?_
  refine az_ik0 (pc := 2) C dX9_called_2 ?_
  refine az_is3 (pc := 3) C rfl rfl dX9_called_3 ?_
  exact (A_X9_called_4 C hD n n h)
set_option maxRecDepth 10000 in
set_option maxHeartbeats 4000000 in
theorem A_X9_called {l : Launch} {d : Nat} (hD : 2 ≤ d) (n : Nat) {σ : az_Hp} {v0 v1 : Int} {r : Int} (h : fz_X9_called n σ v0 v1 = some r) : az_AC l yX9_called cX9_called 6 (some .int) d [(11, v0), (0, v1)] σ (some (0, r), σ) := az_AC.of mt_X9_called rfl rfl rfl (fun Z hZ C => A_X9_called_e C hD n h)
theorem dX9_calledAtLast_0 : decode cX9_calledAtLast 0 = .ok (.aload_n 0, 1) := by decide +kernel
theorem dX9_calledAtLast_1 : decode cX9_calledAtLast 1 = .ok (.iload_n 1, 1) := by decide +kernel
theorem dX9_calledAtLast_2 : decode cX9_calledAtLast 2 = .ok (.invokevirtual 88, 3) := by decide +kernel
theorem dX9_calledAtLast_5 : decode cX9_calledAtLast 5 = .ok (.istore_n 2, 1) := by decide +kernel
theorem dX9_calledAtLast_6 : decode cX9_calledAtLast 6 = .ok (.iconst 0, 1) := by decide +kernel
theorem dX9_calledAtLast_7 : decode cX9_calledAtLast 7 = .ok (.istore_n 3, 1) := by decide +kernel
theorem dX9_calledAtLast_8 : decode cX9_calledAtLast 8 = .ok (.iload_n 3, 1) := by decide +kernel
theorem dX9_calledAtLast_9 : decode cX9_calledAtLast 9 = .ok (.iconst 5, 1) := by decide +kernel
theorem dX9_calledAtLast_10 : decode cX9_calledAtLast 10 = .ok (.if_icmp .ge 45, 3) := by decide +kernel
theorem dX9_calledAtLast_13 : decode cX9_calledAtLast 13 = .ok (.iconst 0, 1) := by decide +kernel
theorem dX9_calledAtLast_14 : decode cX9_calledAtLast 14 = .ok (.istore 4, 2) := by decide +kernel
theorem dX9_calledAtLast_16 : decode cX9_calledAtLast 16 = .ok (.iload 4, 2) := by decide +kernel
theorem dX9_calledAtLast_18 : decode cX9_calledAtLast 18 = .ok (.aload_n 0, 1) := by decide +kernel
theorem dX9_calledAtLast_19 : decode cX9_calledAtLast 19 = .ok (.getfield 15, 3) := by decide +kernel
theorem dX9_calledAtLast_22 : decode cX9_calledAtLast 22 = .ok (.if_icmp .ge 27, 3) := by decide +kernel
theorem dX9_calledAtLast_25 : decode cX9_calledAtLast 25 = .ok (.iload_n 2, 1) := by decide +kernel
theorem dX9_calledAtLast_26 : decode cX9_calledAtLast 26 = .ok (.iload 4, 2) := by decide +kernel
theorem dX9_calledAtLast_28 : decode cX9_calledAtLast 28 = .ok (.ishr, 1) := by decide +kernel
theorem dX9_calledAtLast_29 : decode cX9_calledAtLast 29 = .ok (.iconst 1, 1) := by decide +kernel
theorem dX9_calledAtLast_30 : decode cX9_calledAtLast 30 = .ok (.iand, 1) := by decide +kernel
theorem dX9_calledAtLast_31 : decode cX9_calledAtLast 31 = .ok (.ifCond .eq 12, 3) := by decide +kernel
theorem dX9_calledAtLast_34 : decode cX9_calledAtLast 34 = .ok (.iload_n 2, 1) := by decide +kernel
theorem dX9_calledAtLast_35 : decode cX9_calledAtLast 35 = .ok (.aload_n 0, 1) := by decide +kernel
theorem dX9_calledAtLast_36 : decode cX9_calledAtLast 36 = .ok (.iload 4, 2) := by decide +kernel
theorem dX9_calledAtLast_38 : decode cX9_calledAtLast 38 = .ok (.invokevirtual 88, 3) := by decide +kernel
theorem dX9_calledAtLast_41 : decode cX9_calledAtLast 41 = .ok (.ior, 1) := by decide +kernel
theorem dX9_calledAtLast_42 : decode cX9_calledAtLast 42 = .ok (.istore_n 2, 1) := by decide +kernel
theorem dX9_calledAtLast_43 : decode cX9_calledAtLast 43 = .ok (.iinc 4 1, 3) := by decide +kernel
theorem dX9_calledAtLast_46 : decode cX9_calledAtLast 46 = .ok (.goto (-30), 3) := by decide +kernel
theorem dX9_calledAtLast_49 : decode cX9_calledAtLast 49 = .ok (.iinc 3 1, 3) := by decide +kernel
theorem dX9_calledAtLast_52 : decode cX9_calledAtLast 52 = .ok (.goto (-44), 3) := by decide +kernel
theorem dX9_calledAtLast_55 : decode cX9_calledAtLast 55 = .ok (.iload_n 2, 1) := by decide +kernel
theorem dX9_calledAtLast_56 : decode cX9_calledAtLast 56 = .ok (.ireturn, 1) := by decide +kernel
set_option maxRecDepth 10000 in
set_option maxHeartbeats 4000000 in
theorem A_X9_calledAtLast_16 {Z : az_Z} {d : Nat} (C : az_C Z yX9_calledAtLast cX9_calledAtLast 5 (some .int) d) (hD : 3 ≤ d) (n : Nat) {k8 : az_Hp → Int → Int → Int → Option Int} (hk8 : ∀ {σ : az_Hp} {v0 v2 v3 : Int} {r : Int}, k8 σ v0 v2 v3 = some r → az_AW Z 5 8 [(11, v0), (31, 0), (0, v2), (0, v3), (31, 0)] [] σ (some (0, r), σ)) (k : Nat) : ∀ {σ : az_Hp} {v0 v2 v3 v4 : Int} {r : Int}, fz_X9_calledAtLast_16 n k8 k σ v0 v2 v3 v4 = some r → az_AW Z 5 16 [(11, v0), (31, 0), (0, v2), (0, v3), (0, v4)] [] σ (some (0, r), σ) := by
  have hd1 : 1 ≤ d := by omega
  induction k with
  | zero => intro σ v0 v2 v3 v4 r h; simp [fz_X9_calledAtLast_16] at h
  | succ k ih =>
    intro σ v0 v2 v3 v4 r h
    unfold fz_X9_calledAtLast_16 at h
    refine az_il4 (pc := 16) C dX9_calledAtLast_16 ?_
    refine az_al0 (pc := 18) C rfl rfl dX9_calledAtLast_18 ?_
    refine az_getI (pc := 19) C fl_X9_15 rfl dX9_calledAtLast_19 ?_
    refine az_icmp_ge (pc := 22) (tgt := 49) C h dX9_calledAtLast_22 (by decide) (fun _ h => ?_) (fun _ h => ?_)
    · refine az_ii3 (pc := 49) C az_n1 rfl rfl dX9_calledAtLast_49 ?_
      refine az_goto (pc := 52) (tgt := 8) C dX9_calledAtLast_52 (by decide) ?_
      exact (az_wkk (hk8 h) (az_sE (az_sJ (az_sE (az_sE (az_sJ az_sN))))))
    refine az_il2 (pc := 25) C dX9_calledAtLast_25 ?_
    refine az_il4 (pc := 26) C dX9_calledAtLast_26 ?_
    refine az_ishr (pc := 28) C dX9_calledAtLast_28 ?_
    refine az_ik1 (pc := 29) C dX9_calledAtLast_29 ?_
    refine az_iand (pc := 30) C dX9_calledAtLast_30 ?_
    refine az_if_eq (pc := 31) (tgt := 43) C h dX9_calledAtLast_31 (by decide) (fun _ h => ?_) (fun _ h => ?_)
    · refine az_ii4 (pc := 43) C az_n1 rfl rfl dX9_calledAtLast_43 ?_
      refine az_goto (pc := 46) (tgt := 16) C dX9_calledAtLast_46 (by decide) ?_
      exact (ih h)
    refine az_il2 (pc := 34) C dX9_calledAtLast_34 ?_
    refine az_al0 (pc := 35) C rfl rfl dX9_calledAtLast_35 ?_
    refine az_il4 (pc := 36) C dX9_calledAtLast_36 ?_
    refine az_cV1pi (pc := 38) (c := 9) C hd1 h mv_X9_called ml_X9_88 rfl (fun x hx => A_X9_called (by omega) n hx) dX9_calledAtLast_38 (fun r1 h => ?_)
    refine az_ior (pc := 41) C dX9_calledAtLast_41 ?_
    refine az_is2 (pc := 42) C rfl rfl dX9_calledAtLast_42 ?_
    refine az_ii4 (pc := 43) C az_n1 rfl rfl dX9_calledAtLast_43 ?_
    refine az_goto (pc := 46) (tgt := 16) C dX9_calledAtLast_46 (by decide) ?_
    exact (ih h)
set_option maxRecDepth 10000 in
set_option maxHeartbeats 4000000 in
theorem A_X9_calledAtLast_8 {Z : az_Z} {d : Nat} (C : az_C Z yX9_calledAtLast cX9_calledAtLast 5 (some .int) d) (hD : 3 ≤ d) (n : Nat) (k : Nat) : ∀ {σ : az_Hp} {v0 v2 v3 : Int} {r : Int}, fz_X9_calledAtLast_8 n k σ v0 v2 v3 = some r → az_AW Z 5 8 [(11, v0), (31, 0), (0, v2), (0, v3), (31, 0)] [] σ (some (0, r), σ) := by
  have hd1 : 1 ≤ d := by omega
  induction k with
  | zero => intro σ v0 v2 v3 r h; simp [fz_X9_calledAtLast_8] at h
  | succ k ih =>
    intro σ v0 v2 v3 r h
    unfold fz_X9_calledAtLast_8 at h
    refine az_il3 (pc := 8) C dX9_calledAtLast_8 ?_
    refine az_ik5 (pc := 9) C dX9_calledAtLast_9 ?_
    refine az_icmp_ge (pc := 10) (tgt := 55) C h dX9_calledAtLast_10 (by decide) (fun _ h => ?_) (fun _ h => ?_)
    · refine az_il2 (pc := 55) C dX9_calledAtLast_55 ?_
      obtain rfl := Option.some.inj h
      exact az_ireturn (pc := 56) C dX9_calledAtLast_56 rfl
    refine az_ik0 (pc := 13) C dX9_calledAtLast_13 ?_
    refine az_is4 (pc := 14) C rfl rfl dX9_calledAtLast_14 ?_
    exact (A_X9_calledAtLast_16 C hD n (fun h => ih h) n h)
set_option maxRecDepth 10000 in
set_option maxHeartbeats 4000000 in
theorem A_X9_calledAtLast_e {Z : az_Z} {d : Nat} (C : az_C Z yX9_calledAtLast cX9_calledAtLast 5 (some .int) d) (hD : 3 ≤ d) (n : Nat) {σ : az_Hp} {v0 v1 : Int} {r : Int} (h : fz_X9_calledAtLast n σ v0 v1 = some r) : az_AW Z 5 0 [(11, v0), (0, v1), (31, 0), (31, 0), (31, 0)] [] σ (some (0, r), σ) := by
  have hd1 : 1 ≤ d := by omega
  unfold fz_X9_calledAtLast at h
  refine az_al0 (pc := 0) C rfl rfl dX9_calledAtLast_0 ?_
  refine az_il1 (pc := 1) C dX9_calledAtLast_1 ?_
  refine az_cV1pi (pc := 2) (c := 9) C hd1 h mv_X9_called ml_X9_88 rfl (fun x hx => A_X9_called (by omega) n hx) dX9_calledAtLast_2 (fun r1 h => ?_)
  refine az_is2 (pc := 5) C rfl rfl dX9_calledAtLast_5 ?_
  refine az_ik0 (pc := 6) C dX9_calledAtLast_6 ?_
  refine az_is3 (pc := 7) C rfl rfl dX9_calledAtLast_7 ?_
  exact (az_wkk (A_X9_calledAtLast_8 C hD n n h) (az_sE (az_sJ (az_sE (az_sE (az_sJ az_sN))))))
set_option maxRecDepth 10000 in
set_option maxHeartbeats 4000000 in
theorem A_X9_calledAtLast {l : Launch} {d : Nat} (hD : 3 ≤ d) (n : Nat) {σ : az_Hp} {v0 v1 : Int} {r : Int} (h : fz_X9_calledAtLast n σ v0 v1 = some r) : az_AC l yX9_calledAtLast cX9_calledAtLast 5 (some .int) d [(11, v0), (0, v1)] σ (some (0, r), σ) := az_AC.of mt_X9_calledAtLast rfl rfl rfl (fun Z hZ C => A_X9_calledAtLast_e C hD n h)
theorem dX9_equationsOf_0 : decode cX9_equationsOf 0 = .ok (.iconst 0, 1) := by decide +kernel
theorem dX9_equationsOf_1 : decode cX9_equationsOf 1 = .ok (.istore_n 2, 1) := by decide +kernel
theorem dX9_equationsOf_2 : decode cX9_equationsOf 2 = .ok (.iconst 0, 1) := by decide +kernel
theorem dX9_equationsOf_3 : decode cX9_equationsOf 3 = .ok (.istore_n 3, 1) := by decide +kernel
theorem dX9_equationsOf_4 : decode cX9_equationsOf 4 = .ok (.iload_n 3, 1) := by decide +kernel
theorem dX9_equationsOf_5 : decode cX9_equationsOf 5 = .ok (.aload_n 0, 1) := by decide +kernel
theorem dX9_equationsOf_6 : decode cX9_equationsOf 6 = .ok (.getfield 18, 3) := by decide +kernel
theorem dX9_equationsOf_9 : decode cX9_equationsOf 9 = .ok (.if_icmp .ge 22, 3) := by decide +kernel
theorem dX9_equationsOf_12 : decode cX9_equationsOf 12 = .ok (.aload_n 0, 1) := by decide +kernel
theorem dX9_equationsOf_13 : decode cX9_equationsOf 13 = .ok (.getfield 41, 3) := by decide +kernel
theorem dX9_equationsOf_16 : decode cX9_equationsOf 16 = .ok (.iload_n 3, 1) := by decide +kernel
theorem dX9_equationsOf_17 : decode cX9_equationsOf 17 = .ok (.iaload, 1) := by decide +kernel
theorem dX9_equationsOf_18 : decode cX9_equationsOf 18 = .ok (.iload_n 1, 1) := by decide +kernel
theorem dX9_equationsOf_19 : decode cX9_equationsOf 19 = .ok (.if_icmp .ne 6, 3) := by decide +kernel
theorem dX9_equationsOf_22 : decode cX9_equationsOf 22 = .ok (.iinc 2 1, 3) := by decide +kernel
theorem dX9_equationsOf_25 : decode cX9_equationsOf 25 = .ok (.iinc 3 1, 3) := by decide +kernel
theorem dX9_equationsOf_28 : decode cX9_equationsOf 28 = .ok (.goto (-24), 3) := by decide +kernel
theorem dX9_equationsOf_31 : decode cX9_equationsOf 31 = .ok (.iload_n 2, 1) := by decide +kernel
theorem dX9_equationsOf_32 : decode cX9_equationsOf 32 = .ok (.ireturn, 1) := by decide +kernel
set_option maxRecDepth 10000 in
set_option maxHeartbeats 4000000 in
theorem A_X9_equationsOf_4 {Z : az_Z} {d : Nat} (C : az_C Z yX9_equationsOf cX9_equationsOf 4 (some .int) d) (hD : 1 ≤ d) (n : Nat) (k : Nat) : ∀ {σ : az_Hp} {v0 v1 v2 v3 : Int} {r : Int}, fz_X9_equationsOf_4 n k σ v0 v1 v2 v3 = some r → az_AW Z 4 4 [(11, v0), (0, v1), (0, v2), (0, v3)] [] σ (some (0, r), σ) := by
  have hd1 : 1 ≤ d := by omega
  induction k with
  | zero => intro σ v0 v1 v2 v3 r h; simp [fz_X9_equationsOf_4] at h
  | succ k ih =>
    intro σ v0 v1 v2 v3 r h
    unfold fz_X9_equationsOf_4 at h
    refine az_il3 (pc := 4) C dX9_equationsOf_4 ?_
    refine az_al0 (pc := 5) C rfl rfl dX9_equationsOf_5 ?_
    refine az_getI (pc := 6) C fl_X9_18 rfl dX9_equationsOf_6 ?_
    refine az_icmp_ge (pc := 9) (tgt := 31) C h dX9_equationsOf_9 (by decide) (fun _ h => ?_) (fun _ h => ?_)
    · refine az_il2 (pc := 31) C dX9_equationsOf_31 ?_
      obtain rfl := Option.some.inj h
      exact az_ireturn (pc := 32) C dX9_equationsOf_32 rfl
    refine az_al0 (pc := 12) C rfl rfl dX9_equationsOf_12 ?_
    refine az_getR (pc := 13) (c2 := 13) C h fl_X9_41 rfl rfl dX9_equationsOf_13 (fun h => ?_)
    refine az_il3 (pc := 16) C dX9_equationsOf_16 ?_
    refine az_iaload (pc := 17) C h dX9_equationsOf_17 (fun h => ?_)
    refine az_il1 (pc := 18) C dX9_equationsOf_18 ?_
    refine az_icmp_ne (pc := 19) (tgt := 25) C h dX9_equationsOf_19 (by decide) (fun _ h => ?_) (fun _ h => ?_)
    · refine az_ii3 (pc := 25) C az_n1 rfl rfl dX9_equationsOf_25 ?_
      refine az_goto (pc := 28) (tgt := 4) C dX9_equationsOf_28 (by decide) ?_
      exact (ih h)
    refine az_ii2 (pc := 22) C az_n1 rfl rfl dX9_equationsOf_22 ?_
    refine az_ii3 (pc := 25) C az_n1 rfl rfl dX9_equationsOf_25 ?_
    refine az_goto (pc := 28) (tgt := 4) C dX9_equationsOf_28 (by decide) ?_
    exact (ih h)
set_option maxRecDepth 10000 in
set_option maxHeartbeats 4000000 in
theorem A_X9_equationsOf_e {Z : az_Z} {d : Nat} (C : az_C Z yX9_equationsOf cX9_equationsOf 4 (some .int) d) (hD : 1 ≤ d) (n : Nat) {σ : az_Hp} {v0 v1 : Int} {r : Int} (h : fz_X9_equationsOf n σ v0 v1 = some r) : az_AW Z 4 0 [(11, v0), (0, v1), (31, 0), (31, 0)] [] σ (some (0, r), σ) := by
  have hd1 : 1 ≤ d := by omega
  unfold fz_X9_equationsOf at h
  refine az_ik0 (pc := 0) C dX9_equationsOf_0 ?_
  refine az_is2 (pc := 1) C rfl rfl dX9_equationsOf_1 ?_
  refine az_ik0 (pc := 2) C dX9_equationsOf_2 ?_
  refine az_is3 (pc := 3) C rfl rfl dX9_equationsOf_3 ?_
  exact (A_X9_equationsOf_4 C hD n n h)
set_option maxRecDepth 10000 in
set_option maxHeartbeats 4000000 in
theorem A_X9_equationsOf {l : Launch} {d : Nat} (hD : 1 ≤ d) (n : Nat) {σ : az_Hp} {v0 v1 : Int} {r : Int} (h : fz_X9_equationsOf n σ v0 v1 = some r) : az_AC l yX9_equationsOf cX9_equationsOf 4 (some .int) d [(11, v0), (0, v1)] σ (some (0, r), σ) := az_AC.of mt_X9_equationsOf rfl rfl rfl (fun Z hZ C => A_X9_equationsOf_e C hD n h)
theorem dX9_firstParting_0 : decode cX9_firstParting 0 = .ok (.iconst 0, 1) := by decide +kernel
theorem dX9_firstParting_1 : decode cX9_firstParting 1 = .ok (.istore_n 2, 1) := by decide +kernel
theorem dX9_firstParting_2 : decode cX9_firstParting 2 = .ok (.iload_n 2, 1) := by decide +kernel
theorem dX9_firstParting_3 : decode cX9_firstParting 3 = .ok (.aload_n 0, 1) := by decide +kernel
theorem dX9_firstParting_4 : decode cX9_firstParting 4 = .ok (.getfield 18, 3) := by decide +kernel
theorem dX9_firstParting_7 : decode cX9_firstParting 7 = .ok (.if_icmp .ge 63, 3) := by decide +kernel
theorem dX9_firstParting_10 : decode cX9_firstParting 10 = .ok (.iload_n 2, 1) := by decide +kernel
theorem dX9_firstParting_11 : decode cX9_firstParting 11 = .ok (.iconst 1, 1) := by decide +kernel
theorem dX9_firstParting_12 : decode cX9_firstParting 12 = .ok (.iadd, 1) := by decide +kernel
theorem dX9_firstParting_13 : decode cX9_firstParting 13 = .ok (.istore_n 3, 1) := by decide +kernel
theorem dX9_firstParting_14 : decode cX9_firstParting 14 = .ok (.iload_n 3, 1) := by decide +kernel
theorem dX9_firstParting_15 : decode cX9_firstParting 15 = .ok (.aload_n 0, 1) := by decide +kernel
theorem dX9_firstParting_16 : decode cX9_firstParting 16 = .ok (.getfield 18, 3) := by decide +kernel
theorem dX9_firstParting_19 : decode cX9_firstParting 19 = .ok (.if_icmp .ge 45, 3) := by decide +kernel
theorem dX9_firstParting_22 : decode cX9_firstParting 22 = .ok (.aload_n 0, 1) := by decide +kernel
theorem dX9_firstParting_23 : decode cX9_firstParting 23 = .ok (.getfield 41, 3) := by decide +kernel
theorem dX9_firstParting_26 : decode cX9_firstParting 26 = .ok (.iload_n 2, 1) := by decide +kernel
theorem dX9_firstParting_27 : decode cX9_firstParting 27 = .ok (.iaload, 1) := by decide +kernel
theorem dX9_firstParting_28 : decode cX9_firstParting 28 = .ok (.iload_n 1, 1) := by decide +kernel
theorem dX9_firstParting_29 : decode cX9_firstParting 29 = .ok (.if_icmp .ne 29, 3) := by decide +kernel
theorem dX9_firstParting_32 : decode cX9_firstParting 32 = .ok (.aload_n 0, 1) := by decide +kernel
theorem dX9_firstParting_33 : decode cX9_firstParting 33 = .ok (.getfield 41, 3) := by decide +kernel
theorem dX9_firstParting_36 : decode cX9_firstParting 36 = .ok (.iload_n 3, 1) := by decide +kernel
theorem dX9_firstParting_37 : decode cX9_firstParting 37 = .ok (.iaload, 1) := by decide +kernel
theorem dX9_firstParting_38 : decode cX9_firstParting 38 = .ok (.iload_n 1, 1) := by decide +kernel
theorem dX9_firstParting_39 : decode cX9_firstParting 39 = .ok (.if_icmp .ne 19, 3) := by decide +kernel
theorem dX9_firstParting_42 : decode cX9_firstParting 42 = .ok (.aload_n 0, 1) := by decide +kernel
theorem dX9_firstParting_43 : decode cX9_firstParting 43 = .ok (.iload_n 2, 1) := by decide +kernel
theorem dX9_firstParting_44 : decode cX9_firstParting 44 = .ok (.iload_n 3, 1) := by decide +kernel
theorem dX9_firstParting_45 : decode cX9_firstParting 45 = .ok (.invokevirtual 91, 3) := by decide +kernel
theorem dX9_firstParting_48 : decode cX9_firstParting 48 = .ok (.ifCond .ne 10, 3) := by decide +kernel
theorem dX9_firstParting_51 : decode cX9_firstParting 51 = .ok (.iload_n 2, 1) := by decide +kernel
theorem dX9_firstParting_52 : decode cX9_firstParting 52 = .ok (.bipush 16, 2) := by decide +kernel
theorem dX9_firstParting_54 : decode cX9_firstParting 54 = .ok (.imul, 1) := by decide +kernel
theorem dX9_firstParting_55 : decode cX9_firstParting 55 = .ok (.iload_n 3, 1) := by decide +kernel
theorem dX9_firstParting_56 : decode cX9_firstParting 56 = .ok (.iadd, 1) := by decide +kernel
theorem dX9_firstParting_57 : decode cX9_firstParting 57 = .ok (.ireturn, 1) := by decide +kernel
theorem dX9_firstParting_58 : decode cX9_firstParting 58 = .ok (.iinc 3 1, 3) := by decide +kernel
theorem dX9_firstParting_61 : decode cX9_firstParting 61 = .ok (.goto (-47), 3) := by decide +kernel
theorem dX9_firstParting_64 : decode cX9_firstParting 64 = .ok (.iinc 2 1, 3) := by decide +kernel
theorem dX9_firstParting_67 : decode cX9_firstParting 67 = .ok (.goto (-65), 3) := by decide +kernel
theorem dX9_firstParting_70 : decode cX9_firstParting 70 = .ok (.iconst (-1), 1) := by decide +kernel
theorem dX9_firstParting_71 : decode cX9_firstParting 71 = .ok (.ireturn, 1) := by decide +kernel
set_option maxRecDepth 10000 in
set_option maxHeartbeats 4000000 in
theorem A_X9_firstParting_14 {Z : az_Z} {d : Nat} (C : az_C Z yX9_firstParting cX9_firstParting 4 (some .int) d) (hD : 2 ≤ d) (n : Nat) {k2 : az_Hp → Int → Int → Int → Option Int} (hk2 : ∀ {σ : az_Hp} {v0 v1 v2 : Int} {r : Int}, k2 σ v0 v1 v2 = some r → az_AW Z 4 2 [(11, v0), (0, v1), (0, v2), (31, 0)] [] σ (some (0, r), σ)) (k : Nat) : ∀ {σ : az_Hp} {v0 v1 v2 v3 : Int} {r : Int}, fz_X9_firstParting_14 n k2 k σ v0 v1 v2 v3 = some r → az_AW Z 4 14 [(11, v0), (0, v1), (0, v2), (0, v3)] [] σ (some (0, r), σ) := by
  have hd1 : 1 ≤ d := by omega
  induction k with
  | zero => intro σ v0 v1 v2 v3 r h; simp [fz_X9_firstParting_14] at h
  | succ k ih =>
    intro σ v0 v1 v2 v3 r h
    unfold fz_X9_firstParting_14 at h
    refine az_il3 (pc := 14) C dX9_firstParting_14 ?_
    refine az_al0 (pc := 15) C rfl rfl dX9_firstParting_15 ?_
    refine az_getI (pc := 16) C fl_X9_18 rfl dX9_firstParting_16 ?_
    refine az_icmp_ge (pc := 19) (tgt := 64) C h dX9_firstParting_19 (by decide) (fun _ h => ?_) (fun _ h => ?_)
    · refine az_ii2 (pc := 64) C az_n1 rfl rfl dX9_firstParting_64 ?_
      refine az_goto (pc := 67) (tgt := 2) C dX9_firstParting_67 (by decide) ?_
      exact (az_wkk (hk2 h) (az_sE (az_sE (az_sE (az_sJ az_sN)))))
    refine az_al0 (pc := 22) C rfl rfl dX9_firstParting_22 ?_
    refine az_getR (pc := 23) (c2 := 13) C h fl_X9_41 rfl rfl dX9_firstParting_23 (fun h => ?_)
    refine az_il2 (pc := 26) C dX9_firstParting_26 ?_
    refine az_iaload (pc := 27) C h dX9_firstParting_27 (fun h => ?_)
    refine az_il1 (pc := 28) C dX9_firstParting_28 ?_
    refine az_icmp_ne (pc := 29) (tgt := 58) C h dX9_firstParting_29 (by decide) (fun _ h => ?_) (fun _ h => ?_)
    · refine az_ii3 (pc := 58) C az_n1 rfl rfl dX9_firstParting_58 ?_
      refine az_goto (pc := 61) (tgt := 14) C dX9_firstParting_61 (by decide) ?_
      exact (ih h)
    refine az_al0 (pc := 32) C rfl rfl dX9_firstParting_32 ?_
    refine az_getR (pc := 33) (c2 := 13) C h fl_X9_41 rfl rfl dX9_firstParting_33 (fun h => ?_)
    refine az_il3 (pc := 36) C dX9_firstParting_36 ?_
    refine az_iaload (pc := 37) C h dX9_firstParting_37 (fun h => ?_)
    refine az_il1 (pc := 38) C dX9_firstParting_38 ?_
    refine az_icmp_ne (pc := 39) (tgt := 58) C h dX9_firstParting_39 (by decide) (fun _ h => ?_) (fun _ h => ?_)
    · refine az_ii3 (pc := 58) C az_n1 rfl rfl dX9_firstParting_58 ?_
      refine az_goto (pc := 61) (tgt := 14) C dX9_firstParting_61 (by decide) ?_
      exact (ih h)
    refine az_al0 (pc := 42) C rfl rfl dX9_firstParting_42 ?_
    refine az_il2 (pc := 43) C dX9_firstParting_43 ?_
    refine az_il3 (pc := 44) C dX9_firstParting_44 ?_
    refine az_cV2pi (pc := 45) (c := 9) C hd1 h mv_X9_agree ml_X9_91 rfl (fun x hx => A_X9_agree (by omega) hx) dX9_firstParting_45 (fun r5 h => ?_)
    refine az_if_ne (pc := 48) (tgt := 58) C h dX9_firstParting_48 (by decide) (fun _ h => ?_) (fun _ h => ?_)
    · refine az_ii3 (pc := 58) C az_n1 rfl rfl dX9_firstParting_58 ?_
      refine az_goto (pc := 61) (tgt := 14) C dX9_firstParting_61 (by decide) ?_
      exact (ih h)
    refine az_il2 (pc := 51) C dX9_firstParting_51 ?_
    refine az_bk16 (pc := 52) C dX9_firstParting_52 ?_
    refine az_imul (pc := 54) C dX9_firstParting_54 ?_
    refine az_il3 (pc := 55) C dX9_firstParting_55 ?_
    refine az_iadd (pc := 56) C dX9_firstParting_56 ?_
    obtain rfl := Option.some.inj h
    exact az_ireturn (pc := 57) C dX9_firstParting_57 rfl
set_option maxRecDepth 10000 in
set_option maxHeartbeats 4000000 in
theorem A_X9_firstParting_2 {Z : az_Z} {d : Nat} (C : az_C Z yX9_firstParting cX9_firstParting 4 (some .int) d) (hD : 2 ≤ d) (n : Nat) (k : Nat) : ∀ {σ : az_Hp} {v0 v1 v2 : Int} {r : Int}, fz_X9_firstParting_2 n k σ v0 v1 v2 = some r → az_AW Z 4 2 [(11, v0), (0, v1), (0, v2), (31, 0)] [] σ (some (0, r), σ) := by
  have hd1 : 1 ≤ d := by omega
  induction k with
  | zero => intro σ v0 v1 v2 r h; simp [fz_X9_firstParting_2] at h
  | succ k ih =>
    intro σ v0 v1 v2 r h
    unfold fz_X9_firstParting_2 at h
    refine az_il2 (pc := 2) C dX9_firstParting_2 ?_
    refine az_al0 (pc := 3) C rfl rfl dX9_firstParting_3 ?_
    refine az_getI (pc := 4) C fl_X9_18 rfl dX9_firstParting_4 ?_
    refine az_icmp_ge (pc := 7) (tgt := 70) C h dX9_firstParting_7 (by decide) (fun _ h => ?_) (fun _ h => ?_)
    · refine az_ikm1 (pc := 70) C dX9_firstParting_70 ?_
      obtain rfl := Option.some.inj h
      exact az_ireturn (pc := 71) C dX9_firstParting_71 rfl
    refine az_il2 (pc := 10) C dX9_firstParting_10 ?_
    refine az_ik1 (pc := 11) C dX9_firstParting_11 ?_
    refine az_iadd (pc := 12) C dX9_firstParting_12 ?_
    refine az_is3 (pc := 13) C rfl rfl dX9_firstParting_13 ?_
    exact (A_X9_firstParting_14 C hD n (fun h => ih h) n h)
set_option maxRecDepth 10000 in
set_option maxHeartbeats 4000000 in
theorem A_X9_firstParting_e {Z : az_Z} {d : Nat} (C : az_C Z yX9_firstParting cX9_firstParting 4 (some .int) d) (hD : 2 ≤ d) (n : Nat) {σ : az_Hp} {v0 v1 : Int} {r : Int} (h : fz_X9_firstParting n σ v0 v1 = some r) : az_AW Z 4 0 [(11, v0), (0, v1), (31, 0), (31, 0)] [] σ (some (0, r), σ) := by
  have hd1 : 1 ≤ d := by omega
  unfold fz_X9_firstParting at h
  refine az_ik0 (pc := 0) C dX9_firstParting_0 ?_
  refine az_is2 (pc := 1) C rfl rfl dX9_firstParting_1 ?_
  exact (A_X9_firstParting_2 C hD n n h)
set_option maxRecDepth 10000 in
set_option maxHeartbeats 4000000 in
theorem A_X9_firstParting {l : Launch} {d : Nat} (hD : 2 ≤ d) (n : Nat) {σ : az_Hp} {v0 v1 : Int} {r : Int} (h : fz_X9_firstParting n σ v0 v1 = some r) : az_AC l yX9_firstParting cX9_firstParting 4 (some .int) d [(11, v0), (0, v1)] σ (some (0, r), σ) := az_AC.of mt_X9_firstParting rfl rfl rfl (fun Z hZ C => A_X9_firstParting_e C hD n h)
