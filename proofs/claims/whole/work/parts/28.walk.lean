theorem dX5_fits_0 : decode cX5_fits 0 = .ok (.aload_n 0, 1) := by decide +kernel
theorem dX5_fits_1 : decode cX5_fits 1 = .ok (.getfield 64, 3) := by decide +kernel
theorem dX5_fits_4 : decode cX5_fits 4 = .ok (.getfield 72, 3) := by decide +kernel
theorem dX5_fits_7 : decode cX5_fits 7 = .ok (.iload_n 1, 1) := by decide +kernel
theorem dX5_fits_8 : decode cX5_fits 8 = .ok (.aaload, 1) := by decide +kernel
theorem dX5_fits_9 : decode cX5_fits 9 = .ok (.astore 4, 2) := by decide +kernel
theorem dX5_fits_11 : decode cX5_fits 11 = .ok (.iconst 0, 1) := by decide +kernel
theorem dX5_fits_12 : decode cX5_fits 12 = .ok (.istore 5, 2) := by decide +kernel
theorem dX5_fits_14 : decode cX5_fits 14 = .ok (.iload 5, 2) := by decide +kernel
theorem dX5_fits_16 : decode cX5_fits 16 = .ok (.bipush 6, 2) := by decide +kernel
theorem dX5_fits_18 : decode cX5_fits 18 = .ok (.if_icmp .ge 17, 3) := by decide +kernel
theorem dX5_fits_21 : decode cX5_fits 21 = .ok (.aload_n 0, 1) := by decide +kernel
theorem dX5_fits_22 : decode cX5_fits 22 = .ok (.getfield 57, 3) := by decide +kernel
theorem dX5_fits_25 : decode cX5_fits 25 = .ok (.iload 5, 2) := by decide +kernel
theorem dX5_fits_27 : decode cX5_fits 27 = .ok (.iconst (-1), 1) := by decide +kernel
theorem dX5_fits_28 : decode cX5_fits 28 = .ok (.iastore, 1) := by decide +kernel
theorem dX5_fits_29 : decode cX5_fits 29 = .ok (.iinc 5 1, 3) := by decide +kernel
theorem dX5_fits_32 : decode cX5_fits 32 = .ok (.goto (-18), 3) := by decide +kernel
theorem dX5_fits_35 : decode cX5_fits 35 = .ok (.iload_n 3, 1) := by decide +kernel
theorem dX5_fits_36 : decode cX5_fits 36 = .ok (.istore 5, 2) := by decide +kernel
theorem dX5_fits_38 : decode cX5_fits 38 = .ok (.iconst 0, 1) := by decide +kernel
theorem dX5_fits_39 : decode cX5_fits 39 = .ok (.istore 6, 2) := by decide +kernel
theorem dX5_fits_41 : decode cX5_fits 41 = .ok (.iload 6, 2) := by decide +kernel
theorem dX5_fits_43 : decode cX5_fits 43 = .ok (.aload 4, 2) := by decide +kernel
theorem dX5_fits_45 : decode cX5_fits 45 = .ok (.getfield 77, 3) := by decide +kernel
theorem dX5_fits_48 : decode cX5_fits 48 = .ok (.if_icmp .ge 126, 3) := by decide +kernel
theorem dX5_fits_51 : decode cX5_fits 51 = .ok (.iload 5, 2) := by decide +kernel
theorem dX5_fits_53 : decode cX5_fits 53 = .ok (.aload_n 2, 1) := by decide +kernel
theorem dX5_fits_54 : decode cX5_fits 54 = .ok (.getfield 77, 3) := by decide +kernel
theorem dX5_fits_57 : decode cX5_fits 57 = .ok (.if_icmp .lt 5, 3) := by decide +kernel
theorem dX5_fits_60 : decode cX5_fits 60 = .ok (.iconst 0, 1) := by decide +kernel
theorem dX5_fits_61 : decode cX5_fits 61 = .ok (.ireturn, 1) := by decide +kernel
theorem dX5_fits_62 : decode cX5_fits 62 = .ok (.aload 4, 2) := by decide +kernel
theorem dX5_fits_64 : decode cX5_fits 64 = .ok (.getfield 80, 3) := by decide +kernel
theorem dX5_fits_67 : decode cX5_fits 67 = .ok (.iload 6, 2) := by decide +kernel
theorem dX5_fits_69 : decode cX5_fits 69 = .ok (.iaload, 1) := by decide +kernel
theorem dX5_fits_70 : decode cX5_fits 70 = .ok (.istore 7, 2) := by decide +kernel
theorem dX5_fits_72 : decode cX5_fits 72 = .ok (.iload 7, 2) := by decide +kernel
theorem dX5_fits_74 : decode cX5_fits 74 = .ok (.ifCond .lt 23, 3) := by decide +kernel
theorem dX5_fits_77 : decode cX5_fits 77 = .ok (.iload 7, 2) := by decide +kernel
theorem dX5_fits_79 : decode cX5_fits 79 = .ok (.aload_n 2, 1) := by decide +kernel
theorem dX5_fits_80 : decode cX5_fits 80 = .ok (.getfield 80, 3) := by decide +kernel
theorem dX5_fits_83 : decode cX5_fits 83 = .ok (.iload 5, 2) := by decide +kernel
theorem dX5_fits_85 : decode cX5_fits 85 = .ok (.iaload, 1) := by decide +kernel
theorem dX5_fits_86 : decode cX5_fits 86 = .ok (.if_icmp .eq 5, 3) := by decide +kernel
theorem dX5_fits_89 : decode cX5_fits 89 = .ok (.iconst 0, 1) := by decide +kernel
theorem dX5_fits_90 : decode cX5_fits 90 = .ok (.ireturn, 1) := by decide +kernel
theorem dX5_fits_91 : decode cX5_fits 91 = .ok (.iinc 5 1, 3) := by decide +kernel
theorem dX5_fits_94 : decode cX5_fits 94 = .ok (.goto 74, 3) := by decide +kernel
theorem dX5_fits_97 : decode cX5_fits 97 = .ok (.iload 7, 2) := by decide +kernel
theorem dX5_fits_99 : decode cX5_fits 99 = .ok (.iconst (-1), 1) := by decide +kernel
theorem dX5_fits_100 : decode cX5_fits 100 = .ok (.ixor, 1) := by decide +kernel
theorem dX5_fits_101 : decode cX5_fits 101 = .ok (.istore 8, 2) := by decide +kernel
theorem dX5_fits_103 : decode cX5_fits 103 = .ok (.iload 8, 2) := by decide +kernel
theorem dX5_fits_105 : decode cX5_fits 105 = .ok (.bipush 6, 2) := by decide +kernel
theorem dX5_fits_107 : decode cX5_fits 107 = .ok (.if_icmp .ge 31, 3) := by decide +kernel
theorem dX5_fits_110 : decode cX5_fits 110 = .ok (.aload_n 0, 1) := by decide +kernel
theorem dX5_fits_111 : decode cX5_fits 111 = .ok (.getfield 57, 3) := by decide +kernel
theorem dX5_fits_114 : decode cX5_fits 114 = .ok (.iload 8, 2) := by decide +kernel
theorem dX5_fits_116 : decode cX5_fits 116 = .ok (.iaload, 1) := by decide +kernel
theorem dX5_fits_117 : decode cX5_fits 117 = .ok (.iconst (-1), 1) := by decide +kernel
theorem dX5_fits_118 : decode cX5_fits 118 = .ok (.if_icmp .eq 22, 3) := by decide +kernel
theorem dX5_fits_121 : decode cX5_fits 121 = .ok (.aload_n 2, 1) := by decide +kernel
theorem dX5_fits_122 : decode cX5_fits 122 = .ok (.aload_n 0, 1) := by decide +kernel
theorem dX5_fits_123 : decode cX5_fits 123 = .ok (.getfield 57, 3) := by decide +kernel
theorem dX5_fits_126 : decode cX5_fits 126 = .ok (.iload 8, 2) := by decide +kernel
theorem dX5_fits_128 : decode cX5_fits 128 = .ok (.iaload, 1) := by decide +kernel
theorem dX5_fits_129 : decode cX5_fits 129 = .ok (.aload_n 2, 1) := by decide +kernel
theorem dX5_fits_130 : decode cX5_fits 130 = .ok (.iload 5, 2) := by decide +kernel
theorem dX5_fits_132 : decode cX5_fits 132 = .ok (.invokevirtual 83, 3) := by decide +kernel
theorem dX5_fits_135 : decode cX5_fits 135 = .ok (.ifCond .ne 5, 3) := by decide +kernel
theorem dX5_fits_138 : decode cX5_fits 138 = .ok (.iconst 0, 1) := by decide +kernel
theorem dX5_fits_139 : decode cX5_fits 139 = .ok (.ireturn, 1) := by decide +kernel
theorem dX5_fits_140 : decode cX5_fits 140 = .ok (.aload_n 0, 1) := by decide +kernel
theorem dX5_fits_141 : decode cX5_fits 141 = .ok (.getfield 57, 3) := by decide +kernel
theorem dX5_fits_144 : decode cX5_fits 144 = .ok (.iload 8, 2) := by decide +kernel
theorem dX5_fits_146 : decode cX5_fits 146 = .ok (.iaload, 1) := by decide +kernel
theorem dX5_fits_147 : decode cX5_fits 147 = .ok (.iconst (-1), 1) := by decide +kernel
theorem dX5_fits_148 : decode cX5_fits 148 = .ok (.if_icmp .ne 12, 3) := by decide +kernel
theorem dX5_fits_151 : decode cX5_fits 151 = .ok (.aload_n 0, 1) := by decide +kernel
theorem dX5_fits_152 : decode cX5_fits 152 = .ok (.getfield 57, 3) := by decide +kernel
theorem dX5_fits_155 : decode cX5_fits 155 = .ok (.iload 8, 2) := by decide +kernel
theorem dX5_fits_157 : decode cX5_fits 157 = .ok (.iload 5, 2) := by decide +kernel
theorem dX5_fits_159 : decode cX5_fits 159 = .ok (.iastore, 1) := by decide +kernel
theorem dX5_fits_160 : decode cX5_fits 160 = .ok (.aload_n 2, 1) := by decide +kernel
theorem dX5_fits_161 : decode cX5_fits 161 = .ok (.iload 5, 2) := by decide +kernel
theorem dX5_fits_163 : decode cX5_fits 163 = .ok (.invokevirtual 87, 3) := by decide +kernel
theorem dX5_fits_166 : decode cX5_fits 166 = .ok (.istore 5, 2) := by decide +kernel
theorem dX5_fits_168 : decode cX5_fits 168 = .ok (.iinc 6 1, 3) := by decide +kernel
theorem dX5_fits_171 : decode cX5_fits 171 = .ok (.goto (-130), 3) := by decide +kernel
theorem dX5_fits_174 : decode cX5_fits 174 = .ok (.iconst 1, 1) := by decide +kernel
theorem dX5_fits_175 : decode cX5_fits 175 = .ok (.ireturn, 1) := by decide +kernel
set_option maxRecDepth 10000 in
set_option maxHeartbeats 4000000 in
theorem A_X5_fits_140 {Z : az_Z} {d : Nat} (C : az_C Z yX5_fits cX5_fits 9 (some .boolean) d) (hD : 2 ≤ d) (n : Nat) {k41 : az_Hp → Int → Int → Int → Int → Int → Option (Int × az_Hp)} (hk41 : ∀ {σ : az_Hp} {v0 v2 v4 v5 v6 : Int} {r : (Int × az_Hp)}, k41 σ v0 v2 v4 v5 v6 = some r → az_AW Z 9 41 [(7, v0), (31, 0), (9, v2), (31, 0), (9, v4), (0, v5), (0, v6), (31, 0), (31, 0)] [] σ (some (0, r.1), r.2)) {σ : az_Hp} {v0 v2 v4 v5 v6 v8 : Int} {r : (Int × az_Hp)} (h : fz_X5_fits_140 n k41 σ v0 v2 v4 v5 v6 v8 = some r) : az_AW Z 9 140 [(7, v0), (31, 0), (9, v2), (31, 0), (9, v4), (0, v5), (0, v6), (31, 0), (0, v8)] [] σ (some (0, r.1), r.2) := by
  have hd1 : 1 ≤ d := by omega
  unfold fz_X5_fits_140 at h
  refine az_al0 (pc := 140) C rfl rfl dX5_fits_140 ?_
  refine az_getR (pc := 141) (c2 := 13) C h fl_X5_57 rfl rfl dX5_fits_141 (fun h => ?_)
  refine az_il8 (pc := 144) C dX5_fits_144 ?_
  refine az_iaload (pc := 146) C h dX5_fits_146 (fun h => ?_)
  refine az_ikm1 (pc := 147) C dX5_fits_147 ?_
  refine az_icmp_ne (pc := 148) (tgt := 160) C h dX5_fits_148 (by decide) (fun _ h => ?_) (fun _ h => ?_)
  · refine az_al2 (pc := 160) C rfl rfl dX5_fits_160 ?_
    refine az_il5 (pc := 161) C dX5_fits_161 ?_
    refine az_cV1pi (pc := 163) (c := 7) C hd1 h mv_X7_end ml_X5_87 rfl (fun x hx => A_X7_end (by omega) n hx) dX5_fits_163 (fun r3 h => ?_)
    refine az_is5 (pc := 166) C rfl rfl dX5_fits_166 ?_
    refine az_ii6 (pc := 168) C az_n1 rfl rfl dX5_fits_168 ?_
    refine az_goto (pc := 171) (tgt := 41) C dX5_fits_171 (by decide) ?_
    exact (az_wkk (hk41 h) (az_sE (az_sJ (az_sE (az_sJ (az_sE (az_sE (az_sE (az_sJ (az_sJ az_sN))))))))))
  refine az_al0 (pc := 151) C rfl rfl dX5_fits_151 ?_
  refine az_getR (pc := 152) (c2 := 13) C h fl_X5_57 rfl rfl dX5_fits_152 (fun h => ?_)
  refine az_il8 (pc := 155) C dX5_fits_155 ?_
  refine az_il5 (pc := 157) C dX5_fits_157 ?_
  refine az_iastore (pc := 159) C h dX5_fits_159 (fun h => ?_)
  refine az_al2 (pc := 160) C rfl rfl dX5_fits_160 ?_
  refine az_il5 (pc := 161) C dX5_fits_161 ?_
  refine az_cV1pi (pc := 163) (c := 7) C hd1 h mv_X7_end ml_X5_87 rfl (fun x hx => A_X7_end (by omega) n hx) dX5_fits_163 (fun r6 h => ?_)
  refine az_is5 (pc := 166) C rfl rfl dX5_fits_166 ?_
  refine az_ii6 (pc := 168) C az_n1 rfl rfl dX5_fits_168 ?_
  refine az_goto (pc := 171) (tgt := 41) C dX5_fits_171 (by decide) ?_
  exact (az_wkk (hk41 h) (az_sE (az_sJ (az_sE (az_sJ (az_sE (az_sE (az_sE (az_sJ (az_sJ az_sN))))))))))
set_option maxRecDepth 10000 in
set_option maxHeartbeats 4000000 in
theorem A_X5_fits_41 {Z : az_Z} {d : Nat} (C : az_C Z yX5_fits cX5_fits 9 (some .boolean) d) (hD : 2 ≤ d) (n : Nat) (k : Nat) : ∀ {σ : az_Hp} {v0 v2 v4 v5 v6 : Int} {r : (Int × az_Hp)}, fz_X5_fits_41 n k σ v0 v2 v4 v5 v6 = some r → az_AW Z 9 41 [(7, v0), (31, 0), (9, v2), (31, 0), (9, v4), (0, v5), (0, v6), (31, 0), (31, 0)] [] σ (some (0, r.1), r.2) := by
  have hd1 : 1 ≤ d := by omega
  induction k with
  | zero => intro σ v0 v2 v4 v5 v6 r h; simp [fz_X5_fits_41] at h
  | succ k ih =>
    intro σ v0 v2 v4 v5 v6 r h
    unfold fz_X5_fits_41 at h
    refine az_il6 (pc := 41) C dX5_fits_41 ?_
    refine az_al4 (pc := 43) C rfl rfl dX5_fits_43 ?_
    refine az_getI (pc := 45) C fl_X5_77 rfl dX5_fits_45 ?_
    refine az_icmp_ge (pc := 48) (tgt := 174) C h dX5_fits_48 (by decide) (fun _ h => ?_) (fun _ h => ?_)
    · refine az_ik1 (pc := 174) C dX5_fits_174 ?_
      obtain rfl := Option.some.inj h
      exact az_zreturn (pc := 175) C (by decide) dX5_fits_175 rfl
    refine az_il5 (pc := 51) C dX5_fits_51 ?_
    refine az_al2 (pc := 53) C rfl rfl dX5_fits_53 ?_
    refine az_getI (pc := 54) C fl_X5_77 rfl dX5_fits_54 ?_
    refine az_icmp_lt (pc := 57) (tgt := 62) C h dX5_fits_57 (by decide) (fun _ h => ?_) (fun _ h => ?_)
    · refine az_al4 (pc := 62) C rfl rfl dX5_fits_62 ?_
      refine az_getR (pc := 64) (c2 := 13) C h fl_X5_80 rfl rfl dX5_fits_64 (fun h => ?_)
      refine az_il6 (pc := 67) C dX5_fits_67 ?_
      refine az_iaload (pc := 69) C h dX5_fits_69 (fun h => ?_)
      refine az_is7 (pc := 70) C rfl rfl dX5_fits_70 ?_
      refine az_il7 (pc := 72) C dX5_fits_72 ?_
      refine az_if_lt (pc := 74) (tgt := 97) C h dX5_fits_74 (by decide) (fun _ h => ?_) (fun _ h => ?_)
      · refine az_il7 (pc := 97) C dX5_fits_97 ?_
        refine az_ikm1 (pc := 99) C dX5_fits_99 ?_
        refine az_ixor (pc := 100) C dX5_fits_100 ?_
        refine az_is8 (pc := 101) C rfl rfl dX5_fits_101 ?_
        refine az_il8 (pc := 103) C dX5_fits_103 ?_
        refine az_bk6 (pc := 105) C dX5_fits_105 ?_
        refine az_icmp_ge (pc := 107) (tgt := 138) C h dX5_fits_107 (by decide) (fun _ h => ?_) (fun _ h => ?_)
        · refine az_ik0 (pc := 138) C dX5_fits_138 ?_
          obtain rfl := Option.some.inj h
          exact az_zreturn (pc := 139) C (by decide) dX5_fits_139 rfl
        refine az_al0 (pc := 110) C rfl rfl dX5_fits_110 ?_
        refine az_getR (pc := 111) (c2 := 13) C h fl_X5_57 rfl rfl dX5_fits_111 (fun h => ?_)
        refine az_il8 (pc := 114) C dX5_fits_114 ?_
        refine az_iaload (pc := 116) C h dX5_fits_116 (fun h => ?_)
        refine az_ikm1 (pc := 117) C dX5_fits_117 ?_
        refine az_icmp_eq (pc := 118) (tgt := 140) C h dX5_fits_118 (by decide) (fun _ h => ?_) (fun _ h => ?_)
        · exact (az_wkk (A_X5_fits_140 C hD n (fun h => ih h) h) (az_sE (az_sJ (az_sE (az_sJ (az_sE (az_sE (az_sE (az_sJ (az_sE az_sN))))))))))
        refine az_al2 (pc := 121) C rfl rfl dX5_fits_121 ?_
        refine az_al0 (pc := 122) C rfl rfl dX5_fits_122 ?_
        refine az_getR (pc := 123) (c2 := 13) C h fl_X5_57 rfl rfl dX5_fits_123 (fun h => ?_)
        refine az_il8 (pc := 126) C dX5_fits_126 ?_
        refine az_iaload (pc := 128) C h dX5_fits_128 (fun h => ?_)
        refine az_al2 (pc := 129) C rfl rfl dX5_fits_129 ?_
        refine az_il5 (pc := 130) C dX5_fits_130 ?_
        refine az_cV3pi (pc := 132) (c := 7) C hd1 h mv_X7_samePart ml_X5_83 rfl (fun x hx => A_X7_samePart (by omega) n hx) dX5_fits_132 (fun r7 h => ?_)
        refine az_if_ne (pc := 135) (tgt := 140) C h dX5_fits_135 (by decide) (fun _ h => ?_) (fun _ h => ?_)
        · exact (az_wkk (A_X5_fits_140 C hD n (fun h => ih h) h) (az_sE (az_sJ (az_sE (az_sJ (az_sE (az_sE (az_sE (az_sJ (az_sE az_sN))))))))))
        refine az_ik0 (pc := 138) C dX5_fits_138 ?_
        obtain rfl := Option.some.inj h
        exact az_zreturn (pc := 139) C (by decide) dX5_fits_139 rfl
      refine az_il7 (pc := 77) C dX5_fits_77 ?_
      refine az_al2 (pc := 79) C rfl rfl dX5_fits_79 ?_
      refine az_getR (pc := 80) (c2 := 13) C h fl_X5_80 rfl rfl dX5_fits_80 (fun h => ?_)
      refine az_il5 (pc := 83) C dX5_fits_83 ?_
      refine az_iaload (pc := 85) C h dX5_fits_85 (fun h => ?_)
      refine az_icmp_eq (pc := 86) (tgt := 91) C h dX5_fits_86 (by decide) (fun _ h => ?_) (fun _ h => ?_)
      · refine az_ii5 (pc := 91) C az_n1 rfl rfl dX5_fits_91 ?_
        refine az_goto (pc := 94) (tgt := 168) C dX5_fits_94 (by decide) ?_
        refine az_ii6 (pc := 168) C az_n1 rfl rfl dX5_fits_168 ?_
        refine az_goto (pc := 171) (tgt := 41) C dX5_fits_171 (by decide) ?_
        exact (az_wkk (ih h) (az_sE (az_sJ (az_sE (az_sJ (az_sE (az_sE (az_sE (az_sJ (az_sJ az_sN))))))))))
      refine az_ik0 (pc := 89) C dX5_fits_89 ?_
      obtain rfl := Option.some.inj h
      exact az_zreturn (pc := 90) C (by decide) dX5_fits_90 rfl
    refine az_ik0 (pc := 60) C dX5_fits_60 ?_
    obtain rfl := Option.some.inj h
    exact az_zreturn (pc := 61) C (by decide) dX5_fits_61 rfl
set_option maxRecDepth 10000 in
set_option maxHeartbeats 4000000 in
theorem A_X5_fits_14 {Z : az_Z} {d : Nat} (C : az_C Z yX5_fits cX5_fits 9 (some .boolean) d) (hD : 2 ≤ d) (n : Nat) (k : Nat) : ∀ {σ : az_Hp} {v0 v2 v3 v4 v5 : Int} {r : (Int × az_Hp)}, fz_X5_fits_14 n k σ v0 v2 v3 v4 v5 = some r → az_AW Z 9 14 [(7, v0), (31, 0), (9, v2), (0, v3), (9, v4), (0, v5), (31, 0), (31, 0), (31, 0)] [] σ (some (0, r.1), r.2) := by
  have hd1 : 1 ≤ d := by omega
  induction k with
  | zero => intro σ v0 v2 v3 v4 v5 r h; simp [fz_X5_fits_14] at h
  | succ k ih =>
    intro σ v0 v2 v3 v4 v5 r h
    unfold fz_X5_fits_14 at h
    refine az_il5 (pc := 14) C dX5_fits_14 ?_
    refine az_bk6 (pc := 16) C dX5_fits_16 ?_
    refine az_icmp_ge (pc := 18) (tgt := 35) C h dX5_fits_18 (by decide) (fun _ h => ?_) (fun _ h => ?_)
    · refine az_il3 (pc := 35) C dX5_fits_35 ?_
      refine az_is5 (pc := 36) C rfl rfl dX5_fits_36 ?_
      refine az_ik0 (pc := 38) C dX5_fits_38 ?_
      refine az_is6 (pc := 39) C rfl rfl dX5_fits_39 ?_
      exact (az_wkk (A_X5_fits_41 C hD n n h) (az_sE (az_sJ (az_sE (az_sJ (az_sE (az_sE (az_sE (az_sJ (az_sJ az_sN))))))))))
    refine az_al0 (pc := 21) C rfl rfl dX5_fits_21 ?_
    refine az_getR (pc := 22) (c2 := 13) C h fl_X5_57 rfl rfl dX5_fits_22 (fun h => ?_)
    refine az_il5 (pc := 25) C dX5_fits_25 ?_
    refine az_ikm1 (pc := 27) C dX5_fits_27 ?_
    refine az_iastore (pc := 28) C h dX5_fits_28 (fun h => ?_)
    refine az_ii5 (pc := 29) C az_n1 rfl rfl dX5_fits_29 ?_
    refine az_goto (pc := 32) (tgt := 14) C dX5_fits_32 (by decide) ?_
    exact (ih h)
set_option maxRecDepth 10000 in
set_option maxHeartbeats 4000000 in
theorem A_X5_fits_e {Z : az_Z} {d : Nat} (C : az_C Z yX5_fits cX5_fits 9 (some .boolean) d) (hD : 2 ≤ d) (n : Nat) {σ : az_Hp} {v0 v1 v2 v3 : Int} {r : (Int × az_Hp)} (h : fz_X5_fits n σ v0 v1 v2 v3 = some r) : az_AW Z 9 0 [(7, v0), (0, v1), (9, v2), (0, v3), (31, 0), (31, 0), (31, 0), (31, 0), (31, 0)] [] σ (some (0, r.1), r.2) := by
  have hd1 : 1 ≤ d := by omega
  unfold fz_X5_fits at h
  refine az_al0 (pc := 0) C rfl rfl dX5_fits_0 ?_
  refine az_getR (pc := 1) (c2 := 9) C h fl_X5_64 rfl rfl dX5_fits_1 (fun h => ?_)
  refine az_getR (pc := 4) (c2 := 16) C h fl_X5_72 rfl rfl dX5_fits_4 (fun h => ?_)
  refine az_il1 (pc := 7) C dX5_fits_7 ?_
  refine az_aaload (pc := 8) C h dX5_fits_8 (fun h => ?_)
  refine az_as4 (pc := 9) C rfl rfl rfl rfl dX5_fits_9 ?_
  refine az_ik0 (pc := 11) C dX5_fits_11 ?_
  refine az_is5 (pc := 12) C rfl rfl dX5_fits_12 ?_
  exact (az_wkk (A_X5_fits_14 C hD n n h) (az_sE (az_sJ (az_sE (az_sE (az_sE (az_sE (az_sJ (az_sJ (az_sJ az_sN))))))))))
set_option maxRecDepth 10000 in
set_option maxHeartbeats 4000000 in
theorem A_X5_fits {l : Launch} {d : Nat} (hD : 2 ≤ d) (n : Nat) {σ : az_Hp} {v0 v1 v2 v3 : Int} {r : (Int × az_Hp)} (h : fz_X5_fits n σ v0 v1 v2 v3 = some r) : az_AC l yX5_fits cX5_fits 9 (some .boolean) d [(7, v0), (0, v1), (9, v2), (0, v3)] σ (some (0, r.1), r.2) := az_AC.of mt_X5_fits rfl rfl rfl (fun Z hZ C => A_X5_fits_e C hD n h)
theorem dX5_firingAt_0 : decode cX5_firingAt 0 = .ok (.iconst 0, 1) := by decide +kernel
theorem dX5_firingAt_1 : decode cX5_firingAt 1 = .ok (.istore_n 3, 1) := by decide +kernel
theorem dX5_firingAt_2 : decode cX5_firingAt 2 = .ok (.iload_n 3, 1) := by decide +kernel
theorem dX5_firingAt_3 : decode cX5_firingAt 3 = .ok (.aload_n 0, 1) := by decide +kernel
theorem dX5_firingAt_4 : decode cX5_firingAt 4 = .ok (.getfield 64, 3) := by decide +kernel
theorem dX5_firingAt_7 : decode cX5_firingAt 7 = .ok (.getfield 125, 3) := by decide +kernel
theorem dX5_firingAt_10 : decode cX5_firingAt 10 = .ok (.if_icmp .ge 70, 3) := by decide +kernel
theorem dX5_firingAt_13 : decode cX5_firingAt 13 = .ok (.aload_n 1, 1) := by decide +kernel
theorem dX5_firingAt_14 : decode cX5_firingAt 14 = .ok (.getfield 80, 3) := by decide +kernel
theorem dX5_firingAt_17 : decode cX5_firingAt 17 = .ok (.iload_n 2, 1) := by decide +kernel
theorem dX5_firingAt_18 : decode cX5_firingAt 18 = .ok (.iaload, 1) := by decide +kernel
theorem dX5_firingAt_19 : decode cX5_firingAt 19 = .ok (.aload_n 0, 1) := by decide +kernel
theorem dX5_firingAt_20 : decode cX5_firingAt 20 = .ok (.getfield 64, 3) := by decide +kernel
theorem dX5_firingAt_23 : decode cX5_firingAt 23 = .ok (.getfield 115, 3) := by decide +kernel
theorem dX5_firingAt_26 : decode cX5_firingAt 26 = .ok (.aload_n 0, 1) := by decide +kernel
theorem dX5_firingAt_27 : decode cX5_firingAt 27 = .ok (.getfield 64, 3) := by decide +kernel
theorem dX5_firingAt_30 : decode cX5_firingAt 30 = .ok (.getfield 91, 3) := by decide +kernel
theorem dX5_firingAt_33 : decode cX5_firingAt 33 = .ok (.iload_n 3, 1) := by decide +kernel
theorem dX5_firingAt_34 : decode cX5_firingAt 34 = .ok (.iaload, 1) := by decide +kernel
theorem dX5_firingAt_35 : decode cX5_firingAt 35 = .ok (.iaload, 1) := by decide +kernel
theorem dX5_firingAt_36 : decode cX5_firingAt 36 = .ok (.if_icmp .ne 7, 3) := by decide +kernel
theorem dX5_firingAt_39 : decode cX5_firingAt 39 = .ok (.iconst 1, 1) := by decide +kernel
theorem dX5_firingAt_40 : decode cX5_firingAt 40 = .ok (.goto 4, 3) := by decide +kernel
theorem dX5_firingAt_43 : decode cX5_firingAt 43 = .ok (.iconst 0, 1) := by decide +kernel
theorem dX5_firingAt_44 : decode cX5_firingAt 44 = .ok (.istore 4, 2) := by decide +kernel
theorem dX5_firingAt_46 : decode cX5_firingAt 46 = .ok (.iload 4, 2) := by decide +kernel
theorem dX5_firingAt_48 : decode cX5_firingAt 48 = .ok (.ifCond .eq 26, 3) := by decide +kernel
theorem dX5_firingAt_51 : decode cX5_firingAt 51 = .ok (.aload_n 0, 1) := by decide +kernel
theorem dX5_firingAt_52 : decode cX5_firingAt 52 = .ok (.iload_n 3, 1) := by decide +kernel
theorem dX5_firingAt_53 : decode cX5_firingAt 53 = .ok (.aload_n 1, 1) := by decide +kernel
theorem dX5_firingAt_54 : decode cX5_firingAt 54 = .ok (.iload_n 2, 1) := by decide +kernel
theorem dX5_firingAt_55 : decode cX5_firingAt 55 = .ok (.invokevirtual 118, 3) := by decide +kernel
theorem dX5_firingAt_58 : decode cX5_firingAt 58 = .ok (.ifCond .eq 16, 3) := by decide +kernel
theorem dX5_firingAt_61 : decode cX5_firingAt 61 = .ok (.aload_n 0, 1) := by decide +kernel
theorem dX5_firingAt_62 : decode cX5_firingAt 62 = .ok (.iload_n 3, 1) := by decide +kernel
theorem dX5_firingAt_63 : decode cX5_firingAt 63 = .ok (.aload_n 1, 1) := by decide +kernel
theorem dX5_firingAt_64 : decode cX5_firingAt 64 = .ok (.iload_n 2, 1) := by decide +kernel
theorem dX5_firingAt_65 : decode cX5_firingAt 65 = .ok (.invokevirtual 121, 3) := by decide +kernel
theorem dX5_firingAt_68 : decode cX5_firingAt 68 = .ok (.iconst (-1), 1) := by decide +kernel
theorem dX5_firingAt_69 : decode cX5_firingAt 69 = .ok (.if_icmp .ne 5, 3) := by decide +kernel
theorem dX5_firingAt_72 : decode cX5_firingAt 72 = .ok (.iload_n 3, 1) := by decide +kernel
theorem dX5_firingAt_73 : decode cX5_firingAt 73 = .ok (.ireturn, 1) := by decide +kernel
theorem dX5_firingAt_74 : decode cX5_firingAt 74 = .ok (.iinc 3 1, 3) := by decide +kernel
theorem dX5_firingAt_77 : decode cX5_firingAt 77 = .ok (.goto (-75), 3) := by decide +kernel
theorem dX5_firingAt_80 : decode cX5_firingAt 80 = .ok (.iconst (-1), 1) := by decide +kernel
theorem dX5_firingAt_81 : decode cX5_firingAt 81 = .ok (.ireturn, 1) := by decide +kernel
set_option maxRecDepth 10000 in
set_option maxHeartbeats 4000000 in
theorem A_X5_firingAt_44 {Z : az_Z} {d : Nat} (C : az_C Z yX5_firingAt cX5_firingAt 5 (some .int) d) (hD : 4 ≤ d) (n : Nat) {k2 : az_Hp → Int → Int → Int → Int → Option (Int × az_Hp)} (hk2 : ∀ {σ : az_Hp} {v0 v1 v2 v3 : Int} {r : (Int × az_Hp)}, k2 σ v0 v1 v2 v3 = some r → az_AW Z 5 2 [(7, v0), (9, v1), (0, v2), (0, v3), (31, 0)] [] σ (some (0, r.1), r.2)) {σ : az_Hp} {v0 v1 v2 v3 w0 : Int} {r : (Int × az_Hp)} (h : fz_X5_firingAt_44 n k2 σ v0 v1 v2 v3 w0 = some r) : az_AW Z 5 44 [(7, v0), (9, v1), (0, v2), (0, v3), (31, 0)] [(0, w0)] σ (some (0, r.1), r.2) := by
  have hd1 : 1 ≤ d := by omega
  unfold fz_X5_firingAt_44 at h
  refine az_is4 (pc := 44) C rfl rfl dX5_firingAt_44 ?_
  refine az_il4 (pc := 46) C dX5_firingAt_46 ?_
  refine az_if_eq (pc := 48) (tgt := 74) C h dX5_firingAt_48 (by decide) (fun _ h => ?_) (fun _ h => ?_)
  · refine az_ii3 (pc := 74) C az_n1 rfl rfl dX5_firingAt_74 ?_
    refine az_goto (pc := 77) (tgt := 2) C dX5_firingAt_77 (by decide) ?_
    exact (az_wkk (hk2 h) (az_sE (az_sE (az_sE (az_sE (az_sJ az_sN))))))
  refine az_al0 (pc := 51) C rfl rfl dX5_firingAt_51 ?_
  refine az_il3 (pc := 52) C dX5_firingAt_52 ?_
  refine az_al1 (pc := 53) C rfl rfl dX5_firingAt_53 ?_
  refine az_il2 (pc := 54) C dX5_firingAt_54 ?_
  refine az_cV3ii (pc := 55) (c := 5) C hd1 h mv_X5_fits ml_X5_118 rfl (fun x hx => A_X5_fits (by omega) n hx) dX5_firingAt_55 (fun r1 h => ?_)
  refine az_if_eq (pc := 58) (tgt := 74) C h dX5_firingAt_58 (by decide) (fun _ h => ?_) (fun _ h => ?_)
  · refine az_ii3 (pc := 74) C az_n1 rfl rfl dX5_firingAt_74 ?_
    refine az_goto (pc := 77) (tgt := 2) C dX5_firingAt_77 (by decide) ?_
    exact (az_wkk (hk2 h) (az_sE (az_sE (az_sE (az_sE (az_sJ az_sN))))))
  refine az_al0 (pc := 61) C rfl rfl dX5_firingAt_61 ?_
  refine az_il3 (pc := 62) C dX5_firingAt_62 ?_
  refine az_al1 (pc := 63) C rfl rfl dX5_firingAt_63 ?_
  refine az_il2 (pc := 64) C dX5_firingAt_64 ?_
  refine az_cV3ii (pc := 65) (c := 5) C hd1 h mv_X5_firstStill ml_X5_121 rfl (fun x hx => A_X5_firstStill (by omega) n hx) dX5_firingAt_65 (fun r2 h => ?_)
  refine az_ikm1 (pc := 68) C dX5_firingAt_68 ?_
  refine az_icmp_ne (pc := 69) (tgt := 74) C h dX5_firingAt_69 (by decide) (fun _ h => ?_) (fun _ h => ?_)
  · refine az_ii3 (pc := 74) C az_n1 rfl rfl dX5_firingAt_74 ?_
    refine az_goto (pc := 77) (tgt := 2) C dX5_firingAt_77 (by decide) ?_
    exact (az_wkk (hk2 h) (az_sE (az_sE (az_sE (az_sE (az_sJ az_sN))))))
  refine az_il3 (pc := 72) C dX5_firingAt_72 ?_
  obtain rfl := Option.some.inj h
  exact az_ireturn (pc := 73) C dX5_firingAt_73 rfl
set_option maxRecDepth 10000 in
set_option maxHeartbeats 4000000 in
theorem A_X5_firingAt_2 {Z : az_Z} {d : Nat} (C : az_C Z yX5_firingAt cX5_firingAt 5 (some .int) d) (hD : 4 ≤ d) (n : Nat) (k : Nat) : ∀ {σ : az_Hp} {v0 v1 v2 v3 : Int} {r : (Int × az_Hp)}, fz_X5_firingAt_2 n k σ v0 v1 v2 v3 = some r → az_AW Z 5 2 [(7, v0), (9, v1), (0, v2), (0, v3), (31, 0)] [] σ (some (0, r.1), r.2) := by
  have hd1 : 1 ≤ d := by omega
  induction k with
  | zero => intro σ v0 v1 v2 v3 r h; simp [fz_X5_firingAt_2] at h
  | succ k ih =>
    intro σ v0 v1 v2 v3 r h
    unfold fz_X5_firingAt_2 at h
    refine az_il3 (pc := 2) C dX5_firingAt_2 ?_
    refine az_al0 (pc := 3) C rfl rfl dX5_firingAt_3 ?_
    refine az_getR (pc := 4) (c2 := 9) C h fl_X5_64 rfl rfl dX5_firingAt_4 (fun h => ?_)
    refine az_getI (pc := 7) C fl_X5_125 rfl dX5_firingAt_7 ?_
    refine az_icmp_ge (pc := 10) (tgt := 80) C h dX5_firingAt_10 (by decide) (fun _ h => ?_) (fun _ h => ?_)
    · refine az_ikm1 (pc := 80) C dX5_firingAt_80 ?_
      obtain rfl := Option.some.inj h
      exact az_ireturn (pc := 81) C dX5_firingAt_81 rfl
    refine az_al1 (pc := 13) C rfl rfl dX5_firingAt_13 ?_
    refine az_getR (pc := 14) (c2 := 13) C h fl_X5_80 rfl rfl dX5_firingAt_14 (fun h => ?_)
    refine az_il2 (pc := 17) C dX5_firingAt_17 ?_
    refine az_iaload (pc := 18) C h dX5_firingAt_18 (fun h => ?_)
    refine az_al0 (pc := 19) C rfl rfl dX5_firingAt_19 ?_
    refine az_getR (pc := 20) (c2 := 9) C h fl_X5_64 rfl rfl dX5_firingAt_20 (fun h => ?_)
    refine az_getR (pc := 23) (c2 := 13) C h fl_X5_115 rfl rfl dX5_firingAt_23 (fun h => ?_)
    refine az_al0 (pc := 26) C rfl rfl dX5_firingAt_26 ?_
    refine az_getR (pc := 27) (c2 := 9) C h fl_X5_64 rfl rfl dX5_firingAt_27 (fun h => ?_)
    refine az_getR (pc := 30) (c2 := 13) C h fl_X5_91 rfl rfl dX5_firingAt_30 (fun h => ?_)
    refine az_il3 (pc := 33) C dX5_firingAt_33 ?_
    refine az_iaload (pc := 34) C h dX5_firingAt_34 (fun h => ?_)
    refine az_iaload (pc := 35) C h dX5_firingAt_35 (fun h => ?_)
    refine az_icmp_ne (pc := 36) (tgt := 43) C h dX5_firingAt_36 (by decide) (fun _ h => ?_) (fun _ h => ?_)
    · refine az_ik0 (pc := 43) C dX5_firingAt_43 ?_
      exact (A_X5_firingAt_44 C hD n (fun h => ih h) h)
    refine az_ik1 (pc := 39) C dX5_firingAt_39 ?_
    refine az_goto (pc := 40) (tgt := 44) C dX5_firingAt_40 (by decide) ?_
    exact (A_X5_firingAt_44 C hD n (fun h => ih h) h)
set_option maxRecDepth 10000 in
set_option maxHeartbeats 4000000 in
theorem A_X5_firingAt_e {Z : az_Z} {d : Nat} (C : az_C Z yX5_firingAt cX5_firingAt 5 (some .int) d) (hD : 4 ≤ d) (n : Nat) {σ : az_Hp} {v0 v1 v2 : Int} {r : (Int × az_Hp)} (h : fz_X5_firingAt n σ v0 v1 v2 = some r) : az_AW Z 5 0 [(7, v0), (9, v1), (0, v2), (31, 0), (31, 0)] [] σ (some (0, r.1), r.2) := by
  have hd1 : 1 ≤ d := by omega
  unfold fz_X5_firingAt at h
  refine az_ik0 (pc := 0) C dX5_firingAt_0 ?_
  refine az_is3 (pc := 1) C rfl rfl dX5_firingAt_1 ?_
  exact (A_X5_firingAt_2 C hD n n h)
set_option maxRecDepth 10000 in
set_option maxHeartbeats 4000000 in
theorem A_X5_firingAt {l : Launch} {d : Nat} (hD : 4 ≤ d) (n : Nat) {σ : az_Hp} {v0 v1 v2 : Int} {r : (Int × az_Hp)} (h : fz_X5_firingAt n σ v0 v1 v2 = some r) : az_AC l yX5_firingAt cX5_firingAt 5 (some .int) d [(7, v0), (9, v1), (0, v2)] σ (some (0, r.1), r.2) := az_AC.of mt_X5_firingAt rfl rfl rfl (fun Z hZ C => A_X5_firingAt_e C hD n h)
theorem dX7_depth_0 : decode cX7_depth 0 = .ok (.iconst 0, 1) := by decide +kernel
theorem dX7_depth_1 : decode cX7_depth 1 = .ok (.istore_n 2, 1) := by decide +kernel
theorem dX7_depth_2 : decode cX7_depth 2 = .ok (.iconst 0, 1) := by decide +kernel
theorem dX7_depth_3 : decode cX7_depth 3 = .ok (.istore_n 3, 1) := by decide +kernel
theorem dX7_depth_4 : decode cX7_depth 4 = .ok (.iload_n 3, 1) := by decide +kernel
theorem dX7_depth_5 : decode cX7_depth 5 = .ok (.iload_n 1, 1) := by decide +kernel
theorem dX7_depth_6 : decode cX7_depth 6 = .ok (.if_icmp .ge 29, 3) := by decide +kernel
theorem dX7_depth_9 : decode cX7_depth 9 = .ok (.iload_n 3, 1) := by decide +kernel
theorem dX7_depth_10 : decode cX7_depth 10 = .ok (.aload_n 0, 1) := by decide +kernel
theorem dX7_depth_11 : decode cX7_depth 11 = .ok (.getfield 9, 3) := by decide +kernel
theorem dX7_depth_14 : decode cX7_depth 14 = .ok (.if_icmp .ge 21, 3) := by decide +kernel
theorem dX7_depth_17 : decode cX7_depth 17 = .ok (.aload_n 0, 1) := by decide +kernel
theorem dX7_depth_18 : decode cX7_depth 18 = .ok (.iload_n 3, 1) := by decide +kernel
theorem dX7_depth_19 : decode cX7_depth 19 = .ok (.invokevirtual 35, 3) := by decide +kernel
theorem dX7_depth_22 : decode cX7_depth 22 = .ok (.iload_n 1, 1) := by decide +kernel
theorem dX7_depth_23 : decode cX7_depth 23 = .ok (.if_icmp .le 6, 3) := by decide +kernel
theorem dX7_depth_26 : decode cX7_depth 26 = .ok (.iinc 2 1, 3) := by decide +kernel
theorem dX7_depth_29 : decode cX7_depth 29 = .ok (.iinc 3 1, 3) := by decide +kernel
theorem dX7_depth_32 : decode cX7_depth 32 = .ok (.goto (-28), 3) := by decide +kernel
theorem dX7_depth_35 : decode cX7_depth 35 = .ok (.iload_n 2, 1) := by decide +kernel
theorem dX7_depth_36 : decode cX7_depth 36 = .ok (.ireturn, 1) := by decide +kernel
set_option maxRecDepth 10000 in
set_option maxHeartbeats 4000000 in
theorem A_X7_depth_4 {Z : az_Z} {d : Nat} (C : az_C Z yX7_depth cX7_depth 4 (some .int) d) (hD : 2 ≤ d) (n : Nat) (k : Nat) : ∀ {σ : az_Hp} {v0 v1 v2 v3 : Int} {r : Int}, fz_X7_depth_4 n k σ v0 v1 v2 v3 = some r → az_AW Z 4 4 [(9, v0), (0, v1), (0, v2), (0, v3)] [] σ (some (0, r), σ) := by
  have hd1 : 1 ≤ d := by omega
  induction k with
  | zero => intro σ v0 v1 v2 v3 r h; simp [fz_X7_depth_4] at h
  | succ k ih =>
    intro σ v0 v1 v2 v3 r h
    unfold fz_X7_depth_4 at h
    refine az_il3 (pc := 4) C dX7_depth_4 ?_
    refine az_il1 (pc := 5) C dX7_depth_5 ?_
    refine az_icmp_ge (pc := 6) (tgt := 35) C h dX7_depth_6 (by decide) (fun _ h => ?_) (fun _ h => ?_)
    · refine az_il2 (pc := 35) C dX7_depth_35 ?_
      obtain rfl := Option.some.inj h
      exact az_ireturn (pc := 36) C dX7_depth_36 rfl
    refine az_il3 (pc := 9) C dX7_depth_9 ?_
    refine az_al0 (pc := 10) C rfl rfl dX7_depth_10 ?_
    refine az_getI (pc := 11) C fl_X7_9 rfl dX7_depth_11 ?_
    refine az_icmp_ge (pc := 14) (tgt := 35) C h dX7_depth_14 (by decide) (fun _ h => ?_) (fun _ h => ?_)
    · refine az_il2 (pc := 35) C dX7_depth_35 ?_
      obtain rfl := Option.some.inj h
      exact az_ireturn (pc := 36) C dX7_depth_36 rfl
    refine az_al0 (pc := 17) C rfl rfl dX7_depth_17 ?_
    refine az_il3 (pc := 18) C dX7_depth_18 ?_
    refine az_cV1pi (pc := 19) (c := 7) C hd1 h mv_X7_end ml_X7_35 rfl (fun x hx => A_X7_end (by omega) n hx) dX7_depth_19 (fun r1 h => ?_)
    refine az_il1 (pc := 22) C dX7_depth_22 ?_
    refine az_icmp_le (pc := 23) (tgt := 29) C h dX7_depth_23 (by decide) (fun _ h => ?_) (fun _ h => ?_)
    · refine az_ii3 (pc := 29) C az_n1 rfl rfl dX7_depth_29 ?_
      refine az_goto (pc := 32) (tgt := 4) C dX7_depth_32 (by decide) ?_
      exact (ih h)
    refine az_ii2 (pc := 26) C az_n1 rfl rfl dX7_depth_26 ?_
    refine az_ii3 (pc := 29) C az_n1 rfl rfl dX7_depth_29 ?_
    refine az_goto (pc := 32) (tgt := 4) C dX7_depth_32 (by decide) ?_
    exact (ih h)
set_option maxRecDepth 10000 in
set_option maxHeartbeats 4000000 in
theorem A_X7_depth_e {Z : az_Z} {d : Nat} (C : az_C Z yX7_depth cX7_depth 4 (some .int) d) (hD : 2 ≤ d) (n : Nat) {σ : az_Hp} {v0 v1 : Int} {r : Int} (h : fz_X7_depth n σ v0 v1 = some r) : az_AW Z 4 0 [(9, v0), (0, v1), (31, 0), (31, 0)] [] σ (some (0, r), σ) := by
  have hd1 : 1 ≤ d := by omega
  unfold fz_X7_depth at h
  refine az_ik0 (pc := 0) C dX7_depth_0 ?_
  refine az_is2 (pc := 1) C rfl rfl dX7_depth_1 ?_
  refine az_ik0 (pc := 2) C dX7_depth_2 ?_
  refine az_is3 (pc := 3) C rfl rfl dX7_depth_3 ?_
  exact (A_X7_depth_4 C hD n n h)
set_option maxRecDepth 10000 in
set_option maxHeartbeats 4000000 in
theorem A_X7_depth {l : Launch} {d : Nat} (hD : 2 ≤ d) (n : Nat) {σ : az_Hp} {v0 v1 : Int} {r : Int} (h : fz_X7_depth n σ v0 v1 = some r) : az_AC l yX7_depth cX7_depth 4 (some .int) d [(9, v0), (0, v1)] σ (some (0, r), σ) := az_AC.of mt_X7_depth rfl rfl rfl (fun Z hZ C => A_X7_depth_e C hD n h)
theorem dX10_node_0 : decode cX10_node 0 = .ok (.iload_n 2, 1) := by decide +kernel
theorem dX10_node_1 : decode cX10_node 1 = .ok (.ifCond .lt 8, 3) := by decide +kernel
theorem dX10_node_4 : decode cX10_node 4 = .ok (.iload_n 2, 1) := by decide +kernel
theorem dX10_node_5 : decode cX10_node 5 = .ok (.iconst 4, 1) := by decide +kernel
theorem dX10_node_6 : decode cX10_node 6 = .ok (.if_icmp .le 9, 3) := by decide +kernel
theorem dX10_node_9 : decode cX10_node 9 = .ok (.aload_n 0, 1) := by decide +kernel
theorem dX10_node_10 : decode cX10_node 10 = .ok (.iconst 1, 1) := by decide +kernel
theorem dX10_node_11 : decode cX10_node 11 = .ok (.invokevirtual 112, 3) := by decide +kernel
theorem dX10_node_14 : decode cX10_node 14 = .ok (.ireturn, 1) := by decide +kernel
theorem dX10_node_15 : decode cX10_node 15 = .ok (.aload_n 0, 1) := by decide +kernel
theorem dX10_node_16 : decode cX10_node 16 = .ok (.getfield 82, 3) := by decide +kernel
theorem dX10_node_19 : decode cX10_node 19 = .ok (.getfield 129, 3) := by decide +kernel
theorem dX10_node_22 : decode cX10_node 22 = .ok (.ifCond .ne 9, 3) := by decide +kernel
theorem dX10_node_25 : decode cX10_node 25 = .ok (.aload_n 0, 1) := by decide +kernel
theorem dX10_node_26 : decode cX10_node 26 = .ok (.iconst 3, 1) := by decide +kernel
theorem dX10_node_27 : decode cX10_node 27 = .ok (.invokevirtual 112, 3) := by decide +kernel
theorem dX10_node_30 : decode cX10_node 30 = .ok (.ireturn, 1) := by decide +kernel
theorem dX10_node_31 : decode cX10_node 31 = .ok (.iload_n 1, 1) := by decide +kernel
theorem dX10_node_32 : decode cX10_node 32 = .ok (.ifCond .lt 14, 3) := by decide +kernel
theorem dX10_node_35 : decode cX10_node 35 = .ok (.iload_n 1, 1) := by decide +kernel
theorem dX10_node_36 : decode cX10_node 36 = .ok (.aload_n 0, 1) := by decide +kernel
theorem dX10_node_37 : decode cX10_node 37 = .ok (.getfield 82, 3) := by decide +kernel
theorem dX10_node_40 : decode cX10_node 40 = .ok (.getfield 129, 3) := by decide +kernel
theorem dX10_node_43 : decode cX10_node 43 = .ok (.if_icmp .lt 9, 3) := by decide +kernel
theorem dX10_node_46 : decode cX10_node 46 = .ok (.aload_n 0, 1) := by decide +kernel
theorem dX10_node_47 : decode cX10_node 47 = .ok (.iconst 2, 1) := by decide +kernel
theorem dX10_node_48 : decode cX10_node 48 = .ok (.invokevirtual 112, 3) := by decide +kernel
theorem dX10_node_51 : decode cX10_node 51 = .ok (.ireturn, 1) := by decide +kernel
theorem dX10_node_52 : decode cX10_node 52 = .ok (.aload_n 0, 1) := by decide +kernel
theorem dX10_node_53 : decode cX10_node 53 = .ok (.getfield 82, 3) := by decide +kernel
theorem dX10_node_56 : decode cX10_node 56 = .ok (.getfield 258, 3) := by decide +kernel
theorem dX10_node_59 : decode cX10_node 59 = .ok (.iload_n 1, 1) := by decide +kernel
theorem dX10_node_60 : decode cX10_node 60 = .ok (.iaload, 1) := by decide +kernel
theorem dX10_node_61 : decode cX10_node 61 = .ok (.istore_n 3, 1) := by decide +kernel
theorem dX10_node_62 : decode cX10_node 62 = .ok (.iload_n 2, 1) := by decide +kernel
theorem dX10_node_63 : decode cX10_node 63 = .ok (.tableswitch 93 0 3 #[29, 38, 61, 76], 29) := by decide +kernel
theorem dX10_node_92 : decode cX10_node 92 = .ok (.aload_n 0, 1) := by decide +kernel
theorem dX10_node_93 : decode cX10_node 93 = .ok (.iload_n 3, 1) := by decide +kernel
theorem dX10_node_94 : decode cX10_node 94 = .ok (.invokestatic 261, 3) := by decide +kernel
theorem dX10_node_97 : decode cX10_node 97 = .ok (.invokevirtual 138, 3) := by decide +kernel
theorem dX10_node_100 : decode cX10_node 100 = .ok (.ireturn, 1) := by decide +kernel
theorem dX10_node_101 : decode cX10_node 101 = .ok (.aload_n 0, 1) := by decide +kernel
theorem dX10_node_102 : decode cX10_node 102 = .ok (.iload_n 3, 1) := by decide +kernel
theorem dX10_node_103 : decode cX10_node 103 = .ok (.ifCond .ge 13, 3) := by decide +kernel
theorem dX10_node_106 : decode cX10_node 106 = .ok (.aload_n 0, 1) := by decide +kernel
theorem dX10_node_107 : decode cX10_node 107 = .ok (.iload_n 3, 1) := by decide +kernel
theorem dX10_node_108 : decode cX10_node 108 = .ok (.iconst (-1), 1) := by decide +kernel
theorem dX10_node_109 : decode cX10_node 109 = .ok (.ixor, 1) := by decide +kernel
theorem dX10_node_110 : decode cX10_node 110 = .ok (.invokevirtual 264, 3) := by decide +kernel
theorem dX10_node_113 : decode cX10_node 113 = .ok (.goto 7, 3) := by decide +kernel
theorem dX10_node_116 : decode cX10_node 116 = .ok (.iload_n 3, 1) := by decide +kernel
theorem dX10_node_117 : decode cX10_node 117 = .ok (.invokestatic 267, 3) := by decide +kernel
theorem dX10_node_120 : decode cX10_node 120 = .ok (.invokevirtual 138, 3) := by decide +kernel
theorem dX10_node_123 : decode cX10_node 123 = .ok (.ireturn, 1) := by decide +kernel
theorem dX10_node_124 : decode cX10_node 124 = .ok (.aload_n 0, 1) := by decide +kernel
theorem dX10_node_125 : decode cX10_node 125 = .ok (.aload_n 0, 1) := by decide +kernel
theorem dX10_node_126 : decode cX10_node 126 = .ok (.getfield 82, 3) := by decide +kernel
theorem dX10_node_129 : decode cX10_node 129 = .ok (.iload_n 1, 1) := by decide +kernel
theorem dX10_node_130 : decode cX10_node 130 = .ok (.invokevirtual 270, 3) := by decide +kernel
theorem dX10_node_133 : decode cX10_node 133 = .ok (.iload_n 1, 1) := by decide +kernel
theorem dX10_node_134 : decode cX10_node 134 = .ok (.isub, 1) := by decide +kernel
theorem dX10_node_135 : decode cX10_node 135 = .ok (.invokevirtual 138, 3) := by decide +kernel
theorem dX10_node_138 : decode cX10_node 138 = .ok (.ireturn, 1) := by decide +kernel
theorem dX10_node_139 : decode cX10_node 139 = .ok (.aload_n 0, 1) := by decide +kernel
theorem dX10_node_140 : decode cX10_node 140 = .ok (.aload_n 0, 1) := by decide +kernel
theorem dX10_node_141 : decode cX10_node 141 = .ok (.getfield 73, 3) := by decide +kernel
theorem dX10_node_144 : decode cX10_node 144 = .ok (.aload_n 0, 1) := by decide +kernel
theorem dX10_node_145 : decode cX10_node 145 = .ok (.getfield 82, 3) := by decide +kernel
theorem dX10_node_148 : decode cX10_node 148 = .ok (.iload_n 1, 1) := by decide +kernel
theorem dX10_node_149 : decode cX10_node 149 = .ok (.invokevirtual 273, 3) := by decide +kernel
theorem dX10_node_152 : decode cX10_node 152 = .ok (.invokevirtual 138, 3) := by decide +kernel
theorem dX10_node_155 : decode cX10_node 155 = .ok (.ireturn, 1) := by decide +kernel
theorem dX10_node_156 : decode cX10_node 156 = .ok (.aload_n 0, 1) := by decide +kernel
theorem dX10_node_157 : decode cX10_node 157 = .ok (.aload_n 0, 1) := by decide +kernel
theorem dX10_node_158 : decode cX10_node 158 = .ok (.getfield 82, 3) := by decide +kernel
theorem dX10_node_161 : decode cX10_node 161 = .ok (.iload_n 1, 1) := by decide +kernel
theorem dX10_node_162 : decode cX10_node 162 = .ok (.invokevirtual 277, 3) := by decide +kernel
theorem dX10_node_165 : decode cX10_node 165 = .ok (.invokevirtual 138, 3) := by decide +kernel
theorem dX10_node_168 : decode cX10_node 168 = .ok (.ireturn, 1) := by decide +kernel
set_option maxRecDepth 10000 in
set_option maxHeartbeats 4000000 in
theorem A_X10_node_e {Z : az_Z} {d : Nat} (C : az_C Z yX10_node cX10_node 4 (some .int) d) (hD : 5 ≤ d) (n : Nat) {σ : az_Hp} {v0 v1 v2 : Int} {r : (Int × az_Hp)} (h : fz_X10_node n σ v0 v1 v2 = some r) : az_AW Z 4 0 [(12, v0), (0, v1), (0, v2), (31, 0)] [] σ (some (0, r.1), r.2) := by
  have hd1 : 1 ≤ d := by omega
  unfold fz_X10_node at h
  refine az_il2 (pc := 0) C dX10_node_0 ?_
  refine az_if_lt (pc := 1) (tgt := 9) C h dX10_node_1 (by decide) (fun _ h => ?_) (fun _ h => ?_)
  · refine az_al0 (pc := 9) C rfl rfl dX10_node_9 ?_
    refine az_ik1 (pc := 10) C dX10_node_10 ?_
    refine az_cV1ii (pc := 11) (c := 10) C hd1 h mv_X10_refuse ml_X10_112 rfl (fun x hx => A_X10_refuse (by omega) hx) dX10_node_11 (fun r1 h => ?_)
    obtain rfl := Option.some.inj h
    exact az_ireturn (pc := 14) C dX10_node_14 rfl
  refine az_il2 (pc := 4) C dX10_node_4 ?_
  refine az_ik4 (pc := 5) C dX10_node_5 ?_
  refine az_icmp_le (pc := 6) (tgt := 15) C h dX10_node_6 (by decide) (fun _ h => ?_) (fun _ h => ?_)
  · refine az_al0 (pc := 15) C rfl rfl dX10_node_15 ?_
    refine az_getR (pc := 16) (c2 := 7) C h fl_X10_82 rfl rfl dX10_node_16 (fun h => ?_)
    refine az_getI (pc := 19) C fl_X10_129 rfl dX10_node_19 ?_
    refine az_if_ne (pc := 22) (tgt := 31) C h dX10_node_22 (by decide) (fun _ h => ?_) (fun _ h => ?_)
    · refine az_il1 (pc := 31) C dX10_node_31 ?_
      refine az_if_lt (pc := 32) (tgt := 46) C h dX10_node_32 (by decide) (fun _ h => ?_) (fun _ h => ?_)
      · refine az_al0 (pc := 46) C rfl rfl dX10_node_46 ?_
        refine az_ik2 (pc := 47) C dX10_node_47 ?_
        refine az_cV1ii (pc := 48) (c := 10) C hd1 h mv_X10_refuse ml_X10_112 rfl (fun x hx => A_X10_refuse (by omega) hx) dX10_node_48 (fun r3 h => ?_)
        obtain rfl := Option.some.inj h
        exact az_ireturn (pc := 51) C dX10_node_51 rfl
      refine az_il1 (pc := 35) C dX10_node_35 ?_
      refine az_al0 (pc := 36) C rfl rfl dX10_node_36 ?_
      refine az_getR (pc := 37) (c2 := 7) C h fl_X10_82 rfl rfl dX10_node_37 (fun h => ?_)
      refine az_getI (pc := 40) C fl_X10_129 rfl dX10_node_40 ?_
      refine az_icmp_lt (pc := 43) (tgt := 52) C h dX10_node_43 (by decide) (fun _ h => ?_) (fun _ h => ?_)
      · refine az_al0 (pc := 52) C rfl rfl dX10_node_52 ?_
        refine az_getR (pc := 53) (c2 := 7) C h fl_X10_82 rfl rfl dX10_node_53 (fun h => ?_)
        refine az_getR (pc := 56) (c2 := 13) C h fl_X10_258 rfl rfl dX10_node_56 (fun h => ?_)
        refine az_il1 (pc := 59) C dX10_node_59 ?_
        refine az_iaload (pc := 60) C h dX10_node_60 (fun h => ?_)
        refine az_is3 (pc := 61) C rfl rfl dX10_node_61 ?_
        refine az_il2 (pc := 62) C dX10_node_62 ?_
        rcases az_ite h with ⟨c0, h⟩ | ⟨c0, h⟩
        · refine az_tswIn (pc := 63) (i := 0) (tgt := 92) C (by exact c0) (by decide) rfl dX10_node_63 (by decide) ?_
          refine az_al0 (pc := 92) C rfl rfl dX10_node_92 ?_
          refine az_il3 (pc := 93) C dX10_node_93 ?_
          refine az_cS1pi (pc := 94) C hd1 h ms_X7_kind ml_X10_261 rfl (fun x hx => A_X7_kind (by omega) hx) dX10_node_94 (fun r8 h => ?_)
          refine az_cV1ii (pc := 97) (c := 10) C hd1 h mv_X10_give ml_X10_138 rfl (fun x hx => A_X10_give (by omega) hx) dX10_node_97 (fun r9 h => ?_)
          obtain rfl := Option.some.inj h
          exact az_ireturn (pc := 100) C dX10_node_100 rfl
        rcases az_ite h with ⟨c1, h⟩ | ⟨c1, h⟩
        · refine az_tswIn (pc := 63) (i := 1) (tgt := 101) C (by exact c1) (by decide) rfl dX10_node_63 (by decide) ?_
          refine az_al0 (pc := 101) C rfl rfl dX10_node_101 ?_
          refine az_il3 (pc := 102) C dX10_node_102 ?_
          refine az_if_ge (pc := 103) (tgt := 116) C h dX10_node_103 (by decide) (fun _ h => ?_) (fun _ h => ?_)
          · refine az_il3 (pc := 116) C dX10_node_116 ?_
            refine az_cS1pi (pc := 117) C hd1 h ms_X7_number ml_X10_267 rfl (fun x hx => A_X7_number (by omega) hx) dX10_node_117 (fun r10 h => ?_)
            refine az_cV1ii (pc := 120) (c := 10) C hd1 h mv_X10_give ml_X10_138 rfl (fun x hx => A_X10_give (by omega) hx) dX10_node_120 (fun r11 h => ?_)
            obtain rfl := Option.some.inj h
            exact az_ireturn (pc := 123) C dX10_node_123 rfl
          refine az_al0 (pc := 106) C rfl rfl dX10_node_106 ?_
          refine az_il3 (pc := 107) C dX10_node_107 ?_
          refine az_ikm1 (pc := 108) C dX10_node_108 ?_
          refine az_ixor (pc := 109) C dX10_node_109 ?_
          refine az_cV1pi (pc := 110) (c := 10) C hd1 h mv_X10_termVariable ml_X10_264 rfl (fun x hx => A_X10_termVariable (by omega) n hx) dX10_node_110 (fun r12 h => ?_)
          refine az_goto (pc := 113) (tgt := 120) C dX10_node_113 (by decide) ?_
          refine az_cV1ii (pc := 120) (c := 10) C hd1 h mv_X10_give ml_X10_138 rfl (fun x hx => A_X10_give (by omega) hx) dX10_node_120 (fun r13 h => ?_)
          obtain rfl := Option.some.inj h
          exact az_ireturn (pc := 123) C dX10_node_123 rfl
        rcases az_ite h with ⟨c2, h⟩ | ⟨c2, h⟩
        · refine az_tswIn (pc := 63) (i := 2) (tgt := 124) C (by exact c2) (by decide) rfl dX10_node_63 (by decide) ?_
          refine az_al0 (pc := 124) C rfl rfl dX10_node_124 ?_
          refine az_al0 (pc := 125) C rfl rfl dX10_node_125 ?_
          refine az_getR (pc := 126) (c2 := 7) C h fl_X10_82 rfl rfl dX10_node_126 (fun h => ?_)
          refine az_il1 (pc := 129) C dX10_node_129 ?_
          refine az_cV1pi (pc := 130) (c := 7) C hd1 h mv_X7_end ml_X10_270 rfl (fun x hx => A_X7_end (by omega) n hx) dX10_node_130 (fun r15 h => ?_)
          refine az_il1 (pc := 133) C dX10_node_133 ?_
          refine az_isub (pc := 134) C dX10_node_134 ?_
          refine az_cV1ii (pc := 135) (c := 10) C hd1 h mv_X10_give ml_X10_138 rfl (fun x hx => A_X10_give (by omega) hx) dX10_node_135 (fun r16 h => ?_)
          obtain rfl := Option.some.inj h
          exact az_ireturn (pc := 138) C dX10_node_138 rfl
        rcases az_ite h with ⟨c3, h⟩ | ⟨c3, h⟩
        · refine az_tswIn (pc := 63) (i := 3) (tgt := 139) C (by exact c3) (by decide) rfl dX10_node_63 (by decide) ?_
          refine az_al0 (pc := 139) C rfl rfl dX10_node_139 ?_
          refine az_al0 (pc := 140) C rfl rfl dX10_node_140 ?_
          refine az_getR (pc := 141) (c2 := 5) C h fl_X10_73 rfl rfl dX10_node_141 (fun h => ?_)
          refine az_al0 (pc := 144) C rfl rfl dX10_node_144 ?_
          refine az_getR (pc := 145) (c2 := 7) C h fl_X10_82 rfl rfl dX10_node_145 (fun h => ?_)
          refine az_il1 (pc := 148) C dX10_node_148 ?_
          refine az_cV2ii (pc := 149) (c := 5) C hd1 h mv_X5_firingAt ml_X10_273 rfl (fun x hx => A_X5_firingAt (by omega) n hx) dX10_node_149 (fun r19 h => ?_)
          refine az_cV1ii (pc := 152) (c := 10) C hd1 h mv_X10_give ml_X10_138 rfl (fun x hx => A_X10_give (by omega) hx) dX10_node_152 (fun r20 h => ?_)
          obtain rfl := Option.some.inj h
          exact az_ireturn (pc := 155) C dX10_node_155 rfl
        refine az_tswOut (pc := 63) (tgt := 156) C (by omega) dX10_node_63 (by decide) ?_
        refine az_al0 (pc := 156) C rfl rfl dX10_node_156 ?_
        refine az_al0 (pc := 157) C rfl rfl dX10_node_157 ?_
        refine az_getR (pc := 158) (c2 := 7) C h fl_X10_82 rfl rfl dX10_node_158 (fun h => ?_)
        refine az_il1 (pc := 161) C dX10_node_161 ?_
        refine az_cV1pi (pc := 162) (c := 7) C hd1 h mv_X7_depth ml_X10_277 rfl (fun x hx => A_X7_depth (by omega) n hx) dX10_node_162 (fun r22 h => ?_)
        refine az_cV1ii (pc := 165) (c := 10) C hd1 h mv_X10_give ml_X10_138 rfl (fun x hx => A_X10_give (by omega) hx) dX10_node_165 (fun r23 h => ?_)
        obtain rfl := Option.some.inj h
        exact az_ireturn (pc := 168) C dX10_node_168 rfl
      refine az_al0 (pc := 46) C rfl rfl dX10_node_46 ?_
      refine az_ik2 (pc := 47) C dX10_node_47 ?_
      refine az_cV1ii (pc := 48) (c := 10) C hd1 h mv_X10_refuse ml_X10_112 rfl (fun x hx => A_X10_refuse (by omega) hx) dX10_node_48 (fun r24 h => ?_)
      obtain rfl := Option.some.inj h
      exact az_ireturn (pc := 51) C dX10_node_51 rfl
    refine az_al0 (pc := 25) C rfl rfl dX10_node_25 ?_
    refine az_ik3 (pc := 26) C dX10_node_26 ?_
    refine az_cV1ii (pc := 27) (c := 10) C hd1 h mv_X10_refuse ml_X10_112 rfl (fun x hx => A_X10_refuse (by omega) hx) dX10_node_27 (fun r25 h => ?_)
    obtain rfl := Option.some.inj h
    exact az_ireturn (pc := 30) C dX10_node_30 rfl
  refine az_al0 (pc := 9) C rfl rfl dX10_node_9 ?_
  refine az_ik1 (pc := 10) C dX10_node_10 ?_
  refine az_cV1ii (pc := 11) (c := 10) C hd1 h mv_X10_refuse ml_X10_112 rfl (fun x hx => A_X10_refuse (by omega) hx) dX10_node_11 (fun r26 h => ?_)
  obtain rfl := Option.some.inj h
  exact az_ireturn (pc := 14) C dX10_node_14 rfl
set_option maxRecDepth 10000 in
set_option maxHeartbeats 4000000 in
theorem A_X10_node {l : Launch} {d : Nat} (hD : 5 ≤ d) (n : Nat) {σ : az_Hp} {v0 v1 v2 : Int} {r : (Int × az_Hp)} (h : fz_X10_node n σ v0 v1 v2 = some r) : az_AC l yX10_node cX10_node 4 (some .int) d [(12, v0), (0, v1), (0, v2)] σ (some (0, r.1), r.2) := az_AC.of mt_X10_node rfl rfl rfl (fun Z hZ C => A_X10_node_e C hD n h)
theorem dX10_deepest_0 : decode cX10_deepest 0 = .ok (.iconst 0, 1) := by decide +kernel
theorem dX10_deepest_1 : decode cX10_deepest 1 = .ok (.istore_n 1, 1) := by decide +kernel
theorem dX10_deepest_2 : decode cX10_deepest 2 = .ok (.iconst 0, 1) := by decide +kernel
theorem dX10_deepest_3 : decode cX10_deepest 3 = .ok (.istore_n 2, 1) := by decide +kernel
theorem dX10_deepest_4 : decode cX10_deepest 4 = .ok (.iload_n 2, 1) := by decide +kernel
theorem dX10_deepest_5 : decode cX10_deepest 5 = .ok (.aload_n 0, 1) := by decide +kernel
theorem dX10_deepest_6 : decode cX10_deepest 6 = .ok (.getfield 82, 3) := by decide +kernel
theorem dX10_deepest_9 : decode cX10_deepest 9 = .ok (.getfield 129, 3) := by decide +kernel
theorem dX10_deepest_12 : decode cX10_deepest 12 = .ok (.if_icmp .ge 22, 3) := by decide +kernel
theorem dX10_deepest_15 : decode cX10_deepest 15 = .ok (.iload_n 1, 1) := by decide +kernel
theorem dX10_deepest_16 : decode cX10_deepest 16 = .ok (.aload_n 0, 1) := by decide +kernel
theorem dX10_deepest_17 : decode cX10_deepest 17 = .ok (.getfield 82, 3) := by decide +kernel
theorem dX10_deepest_20 : decode cX10_deepest 20 = .ok (.iload_n 2, 1) := by decide +kernel
theorem dX10_deepest_21 : decode cX10_deepest 21 = .ok (.invokevirtual 277, 3) := by decide +kernel
theorem dX10_deepest_24 : decode cX10_deepest 24 = .ok (.invokestatic 370, 3) := by decide +kernel
theorem dX10_deepest_27 : decode cX10_deepest 27 = .ok (.istore_n 1, 1) := by decide +kernel
theorem dX10_deepest_28 : decode cX10_deepest 28 = .ok (.iinc 2 1, 3) := by decide +kernel
theorem dX10_deepest_31 : decode cX10_deepest 31 = .ok (.goto (-27), 3) := by decide +kernel
theorem dX10_deepest_34 : decode cX10_deepest 34 = .ok (.iload_n 1, 1) := by decide +kernel
theorem dX10_deepest_35 : decode cX10_deepest 35 = .ok (.ireturn, 1) := by decide +kernel
set_option maxRecDepth 10000 in
set_option maxHeartbeats 4000000 in
theorem A_X10_deepest_4 {Z : az_Z} {d : Nat} (C : az_C Z yX10_deepest cX10_deepest 3 (some .int) d) (hD : 3 ≤ d) (n : Nat) (k : Nat) : ∀ {σ : az_Hp} {v0 v1 v2 : Int} {r : Int}, fz_X10_deepest_4 n k σ v0 v1 v2 = some r → az_AW Z 3 4 [(12, v0), (0, v1), (0, v2)] [] σ (some (0, r), σ) := by
  have hd1 : 1 ≤ d := by omega
  induction k with
  | zero => intro σ v0 v1 v2 r h; simp [fz_X10_deepest_4] at h
  | succ k ih =>
    intro σ v0 v1 v2 r h
    unfold fz_X10_deepest_4 at h
    refine az_il2 (pc := 4) C dX10_deepest_4 ?_
    refine az_al0 (pc := 5) C rfl rfl dX10_deepest_5 ?_
    refine az_getR (pc := 6) (c2 := 7) C h fl_X10_82 rfl rfl dX10_deepest_6 (fun h => ?_)
    refine az_getI (pc := 9) C fl_X10_129 rfl dX10_deepest_9 ?_
    refine az_icmp_ge (pc := 12) (tgt := 34) C h dX10_deepest_12 (by decide) (fun _ h => ?_) (fun _ h => ?_)
    · refine az_il1 (pc := 34) C dX10_deepest_34 ?_
      obtain rfl := Option.some.inj h
      exact az_ireturn (pc := 35) C dX10_deepest_35 rfl
    refine az_il1 (pc := 15) C dX10_deepest_15 ?_
    refine az_al0 (pc := 16) C rfl rfl dX10_deepest_16 ?_
    refine az_getR (pc := 17) (c2 := 7) C h fl_X10_82 rfl rfl dX10_deepest_17 (fun h => ?_)
    refine az_il2 (pc := 20) C dX10_deepest_20 ?_
    refine az_cV1pi (pc := 21) (c := 7) C hd1 h mv_X7_depth ml_X10_277 rfl (fun x hx => A_X7_depth (by omega) n hx) dX10_deepest_21 (fun r3 h => ?_)
    refine az_mmax (pc := 24) C hd1 ml_X10_370 az_w_maxst az_w_math az_w_maxc rfl dX10_deepest_24 ?_
    refine az_is1 (pc := 27) C rfl rfl dX10_deepest_27 ?_
    refine az_ii2 (pc := 28) C az_n1 rfl rfl dX10_deepest_28 ?_
    refine az_goto (pc := 31) (tgt := 4) C dX10_deepest_31 (by decide) ?_
    exact (ih h)
set_option maxRecDepth 10000 in
set_option maxHeartbeats 4000000 in
theorem A_X10_deepest_e {Z : az_Z} {d : Nat} (C : az_C Z yX10_deepest cX10_deepest 3 (some .int) d) (hD : 3 ≤ d) (n : Nat) {σ : az_Hp} {v0 : Int} {r : Int} (h : fz_X10_deepest n σ v0 = some r) : az_AW Z 3 0 [(12, v0), (31, 0), (31, 0)] [] σ (some (0, r), σ) := by
  have hd1 : 1 ≤ d := by omega
  unfold fz_X10_deepest at h
  refine az_ik0 (pc := 0) C dX10_deepest_0 ?_
  refine az_is1 (pc := 1) C rfl rfl dX10_deepest_1 ?_
  refine az_ik0 (pc := 2) C dX10_deepest_2 ?_
  refine az_is2 (pc := 3) C rfl rfl dX10_deepest_3 ?_
  exact (A_X10_deepest_4 C hD n n h)
set_option maxRecDepth 10000 in
set_option maxHeartbeats 4000000 in
theorem A_X10_deepest {l : Launch} {d : Nat} (hD : 3 ≤ d) (n : Nat) {σ : az_Hp} {v0 : Int} {r : Int} (h : fz_X10_deepest n σ v0 = some r) : az_AC l yX10_deepest cX10_deepest 3 (some .int) d [(12, v0)] σ (some (0, r), σ) := az_AC.of mt_X10_deepest rfl rfl rfl (fun Z hZ C => A_X10_deepest_e C hD n h)
theorem dX5_firingPlaces_0 : decode cX5_firingPlaces 0 = .ok (.iconst 0, 1) := by decide +kernel
theorem dX5_firingPlaces_1 : decode cX5_firingPlaces 1 = .ok (.istore_n 2, 1) := by decide +kernel
theorem dX5_firingPlaces_2 : decode cX5_firingPlaces 2 = .ok (.iconst 0, 1) := by decide +kernel
theorem dX5_firingPlaces_3 : decode cX5_firingPlaces 3 = .ok (.istore_n 3, 1) := by decide +kernel
theorem dX5_firingPlaces_4 : decode cX5_firingPlaces 4 = .ok (.iload_n 3, 1) := by decide +kernel
theorem dX5_firingPlaces_5 : decode cX5_firingPlaces 5 = .ok (.aload_n 1, 1) := by decide +kernel
theorem dX5_firingPlaces_6 : decode cX5_firingPlaces 6 = .ok (.getfield 77, 3) := by decide +kernel
theorem dX5_firingPlaces_9 : decode cX5_firingPlaces 9 = .ok (.if_icmp .ge 22, 3) := by decide +kernel
theorem dX5_firingPlaces_12 : decode cX5_firingPlaces 12 = .ok (.aload_n 0, 1) := by decide +kernel
theorem dX5_firingPlaces_13 : decode cX5_firingPlaces 13 = .ok (.aload_n 1, 1) := by decide +kernel
theorem dX5_firingPlaces_14 : decode cX5_firingPlaces 14 = .ok (.iload_n 3, 1) := by decide +kernel
theorem dX5_firingPlaces_15 : decode cX5_firingPlaces 15 = .ok (.invokevirtual 128, 3) := by decide +kernel
theorem dX5_firingPlaces_18 : decode cX5_firingPlaces 18 = .ok (.iconst (-1), 1) := by decide +kernel
theorem dX5_firingPlaces_19 : decode cX5_firingPlaces 19 = .ok (.if_icmp .eq 6, 3) := by decide +kernel
theorem dX5_firingPlaces_22 : decode cX5_firingPlaces 22 = .ok (.iinc 2 1, 3) := by decide +kernel
theorem dX5_firingPlaces_25 : decode cX5_firingPlaces 25 = .ok (.iinc 3 1, 3) := by decide +kernel
theorem dX5_firingPlaces_28 : decode cX5_firingPlaces 28 = .ok (.goto (-24), 3) := by decide +kernel
theorem dX5_firingPlaces_31 : decode cX5_firingPlaces 31 = .ok (.iload_n 2, 1) := by decide +kernel
theorem dX5_firingPlaces_32 : decode cX5_firingPlaces 32 = .ok (.ireturn, 1) := by decide +kernel
set_option maxRecDepth 10000 in
set_option maxHeartbeats 4000000 in
theorem A_X5_firingPlaces_4 {Z : az_Z} {d : Nat} (C : az_C Z yX5_firingPlaces cX5_firingPlaces 4 (some .int) d) (hD : 5 ≤ d) (n : Nat) (k : Nat) : ∀ {σ : az_Hp} {v0 v1 v2 v3 : Int} {r : (Int × az_Hp)}, fz_X5_firingPlaces_4 n k σ v0 v1 v2 v3 = some r → az_AW Z 4 4 [(7, v0), (9, v1), (0, v2), (0, v3)] [] σ (some (0, r.1), r.2) := by
  have hd1 : 1 ≤ d := by omega
  induction k with
  | zero => intro σ v0 v1 v2 v3 r h; simp [fz_X5_firingPlaces_4] at h
  | succ k ih =>
    intro σ v0 v1 v2 v3 r h
    unfold fz_X5_firingPlaces_4 at h
    refine az_il3 (pc := 4) C dX5_firingPlaces_4 ?_
    refine az_al1 (pc := 5) C rfl rfl dX5_firingPlaces_5 ?_
    refine az_getI (pc := 6) C fl_X5_77 rfl dX5_firingPlaces_6 ?_
    refine az_icmp_ge (pc := 9) (tgt := 31) C h dX5_firingPlaces_9 (by decide) (fun _ h => ?_) (fun _ h => ?_)
    · refine az_il2 (pc := 31) C dX5_firingPlaces_31 ?_
      obtain rfl := Option.some.inj h
      exact az_ireturn (pc := 32) C dX5_firingPlaces_32 rfl
    refine az_al0 (pc := 12) C rfl rfl dX5_firingPlaces_12 ?_
    refine az_al1 (pc := 13) C rfl rfl dX5_firingPlaces_13 ?_
    refine az_il3 (pc := 14) C dX5_firingPlaces_14 ?_
    refine az_cV2ii (pc := 15) (c := 5) C hd1 h mv_X5_firingAt ml_X5_128 rfl (fun x hx => A_X5_firingAt (by omega) n hx) dX5_firingPlaces_15 (fun r1 h => ?_)
    refine az_ikm1 (pc := 18) C dX5_firingPlaces_18 ?_
    refine az_icmp_eq (pc := 19) (tgt := 25) C h dX5_firingPlaces_19 (by decide) (fun _ h => ?_) (fun _ h => ?_)
    · refine az_ii3 (pc := 25) C az_n1 rfl rfl dX5_firingPlaces_25 ?_
      refine az_goto (pc := 28) (tgt := 4) C dX5_firingPlaces_28 (by decide) ?_
      exact (ih h)
    refine az_ii2 (pc := 22) C az_n1 rfl rfl dX5_firingPlaces_22 ?_
    refine az_ii3 (pc := 25) C az_n1 rfl rfl dX5_firingPlaces_25 ?_
    refine az_goto (pc := 28) (tgt := 4) C dX5_firingPlaces_28 (by decide) ?_
    exact (ih h)
set_option maxRecDepth 10000 in
set_option maxHeartbeats 4000000 in
theorem A_X5_firingPlaces_e {Z : az_Z} {d : Nat} (C : az_C Z yX5_firingPlaces cX5_firingPlaces 4 (some .int) d) (hD : 5 ≤ d) (n : Nat) {σ : az_Hp} {v0 v1 : Int} {r : (Int × az_Hp)} (h : fz_X5_firingPlaces n σ v0 v1 = some r) : az_AW Z 4 0 [(7, v0), (9, v1), (31, 0), (31, 0)] [] σ (some (0, r.1), r.2) := by
  have hd1 : 1 ≤ d := by omega
  unfold fz_X5_firingPlaces at h
  refine az_ik0 (pc := 0) C dX5_firingPlaces_0 ?_
  refine az_is2 (pc := 1) C rfl rfl dX5_firingPlaces_1 ?_
  refine az_ik0 (pc := 2) C dX5_firingPlaces_2 ?_
  refine az_is3 (pc := 3) C rfl rfl dX5_firingPlaces_3 ?_
  exact (A_X5_firingPlaces_4 C hD n n h)
set_option maxRecDepth 10000 in
set_option maxHeartbeats 4000000 in
theorem A_X5_firingPlaces {l : Launch} {d : Nat} (hD : 5 ≤ d) (n : Nat) {σ : az_Hp} {v0 v1 : Int} {r : (Int × az_Hp)} (h : fz_X5_firingPlaces n σ v0 v1 = some r) : az_AC l yX5_firingPlaces cX5_firingPlaces 4 (some .int) d [(7, v0), (9, v1)] σ (some (0, r.1), r.2) := az_AC.of mt_X5_firingPlaces rfl rfl rfl (fun Z hZ C => A_X5_firingPlaces_e C hD n h)
theorem dX7_families_0 : decode cX7_families 0 = .ok (.iconst 0, 1) := by decide +kernel
theorem dX7_families_1 : decode cX7_families 1 = .ok (.istore_n 1, 1) := by decide +kernel
theorem dX7_families_2 : decode cX7_families 2 = .ok (.iconst 0, 1) := by decide +kernel
theorem dX7_families_3 : decode cX7_families 3 = .ok (.istore_n 2, 1) := by decide +kernel
theorem dX7_families_4 : decode cX7_families 4 = .ok (.iload_n 2, 1) := by decide +kernel
theorem dX7_families_5 : decode cX7_families 5 = .ok (.aload_n 0, 1) := by decide +kernel
theorem dX7_families_6 : decode cX7_families 6 = .ok (.getfield 9, 3) := by decide +kernel
theorem dX7_families_9 : decode cX7_families 9 = .ok (.if_icmp .ge 25, 3) := by decide +kernel
theorem dX7_families_12 : decode cX7_families 12 = .ok (.aload_n 0, 1) := by decide +kernel
theorem dX7_families_13 : decode cX7_families 13 = .ok (.getfield 21, 3) := by decide +kernel
theorem dX7_families_16 : decode cX7_families 16 = .ok (.iload_n 2, 1) := by decide +kernel
theorem dX7_families_17 : decode cX7_families 17 = .ok (.iaload, 1) := by decide +kernel
theorem dX7_families_18 : decode cX7_families 18 = .ok (.invokestatic 43, 3) := by decide +kernel
theorem dX7_families_21 : decode cX7_families 21 = .ok (.iconst 2, 1) := by decide +kernel
theorem dX7_families_22 : decode cX7_families 22 = .ok (.if_icmp .ne 6, 3) := by decide +kernel
theorem dX7_families_25 : decode cX7_families 25 = .ok (.iinc 1 1, 3) := by decide +kernel
theorem dX7_families_28 : decode cX7_families 28 = .ok (.iinc 2 1, 3) := by decide +kernel
theorem dX7_families_31 : decode cX7_families 31 = .ok (.goto (-27), 3) := by decide +kernel
theorem dX7_families_34 : decode cX7_families 34 = .ok (.iload_n 1, 1) := by decide +kernel
theorem dX7_families_35 : decode cX7_families 35 = .ok (.ireturn, 1) := by decide +kernel
set_option maxRecDepth 10000 in
set_option maxHeartbeats 4000000 in
theorem A_X7_families_4 {Z : az_Z} {d : Nat} (C : az_C Z yX7_families cX7_families 3 (some .int) d) (hD : 2 ≤ d) (n : Nat) (k : Nat) : ∀ {σ : az_Hp} {v0 v1 v2 : Int} {r : Int}, fz_X7_families_4 n k σ v0 v1 v2 = some r → az_AW Z 3 4 [(9, v0), (0, v1), (0, v2)] [] σ (some (0, r), σ) := by
  have hd1 : 1 ≤ d := by omega
  induction k with
  | zero => intro σ v0 v1 v2 r h; simp [fz_X7_families_4] at h
  | succ k ih =>
    intro σ v0 v1 v2 r h
    unfold fz_X7_families_4 at h
    refine az_il2 (pc := 4) C dX7_families_4 ?_
    refine az_al0 (pc := 5) C rfl rfl dX7_families_5 ?_
    refine az_getI (pc := 6) C fl_X7_9 rfl dX7_families_6 ?_
    refine az_icmp_ge (pc := 9) (tgt := 34) C h dX7_families_9 (by decide) (fun _ h => ?_) (fun _ h => ?_)
    · refine az_il1 (pc := 34) C dX7_families_34 ?_
      obtain rfl := Option.some.inj h
      exact az_ireturn (pc := 35) C dX7_families_35 rfl
    refine az_al0 (pc := 12) C rfl rfl dX7_families_12 ?_
    refine az_getR (pc := 13) (c2 := 13) C h fl_X7_21 rfl rfl dX7_families_13 (fun h => ?_)
    refine az_il2 (pc := 16) C dX7_families_16 ?_
    refine az_iaload (pc := 17) C h dX7_families_17 (fun h => ?_)
    refine az_cS1pi (pc := 18) C hd1 h ms_X7_kind ml_X7_43 rfl (fun x hx => A_X7_kind (by omega) hx) dX7_families_18 (fun r3 h => ?_)
    refine az_ik2 (pc := 21) C dX7_families_21 ?_
    refine az_icmp_ne (pc := 22) (tgt := 28) C h dX7_families_22 (by decide) (fun _ h => ?_) (fun _ h => ?_)
    · refine az_ii2 (pc := 28) C az_n1 rfl rfl dX7_families_28 ?_
      refine az_goto (pc := 31) (tgt := 4) C dX7_families_31 (by decide) ?_
      exact (ih h)
    refine az_ii1 (pc := 25) C az_n1 rfl rfl dX7_families_25 ?_
    refine az_ii2 (pc := 28) C az_n1 rfl rfl dX7_families_28 ?_
    refine az_goto (pc := 31) (tgt := 4) C dX7_families_31 (by decide) ?_
    exact (ih h)
set_option maxRecDepth 10000 in
set_option maxHeartbeats 4000000 in
theorem A_X7_families_e {Z : az_Z} {d : Nat} (C : az_C Z yX7_families cX7_families 3 (some .int) d) (hD : 2 ≤ d) (n : Nat) {σ : az_Hp} {v0 : Int} {r : Int} (h : fz_X7_families n σ v0 = some r) : az_AW Z 3 0 [(9, v0), (31, 0), (31, 0)] [] σ (some (0, r), σ) := by
  have hd1 : 1 ≤ d := by omega
  unfold fz_X7_families at h
  refine az_ik0 (pc := 0) C dX7_families_0 ?_
  refine az_is1 (pc := 1) C rfl rfl dX7_families_1 ?_
  refine az_ik0 (pc := 2) C dX7_families_2 ?_
  refine az_is2 (pc := 3) C rfl rfl dX7_families_3 ?_
  exact (A_X7_families_4 C hD n n h)
set_option maxRecDepth 10000 in
set_option maxHeartbeats 4000000 in
theorem A_X7_families {l : Launch} {d : Nat} (hD : 2 ≤ d) (n : Nat) {σ : az_Hp} {v0 : Int} {r : Int} (h : fz_X7_families n σ v0 = some r) : az_AC l yX7_families cX7_families 3 (some .int) d [(9, v0)] σ (some (0, r), σ) := az_AC.of mt_X7_families rfl rfl rfl (fun Z hZ C => A_X7_families_e C hD n h)
theorem dX10_now_0 : decode cX10_now 0 = .ok (.iload_n 1, 1) := by decide +kernel
theorem dX10_now_1 : decode cX10_now 1 = .ok (.ifCond .lt 8, 3) := by decide +kernel
theorem dX10_now_4 : decode cX10_now 4 = .ok (.iload_n 1, 1) := by decide +kernel
theorem dX10_now_5 : decode cX10_now 5 = .ok (.iconst 3, 1) := by decide +kernel
theorem dX10_now_6 : decode cX10_now 6 = .ok (.if_icmp .le 9, 3) := by decide +kernel
theorem dX10_now_9 : decode cX10_now 9 = .ok (.aload_n 0, 1) := by decide +kernel
theorem dX10_now_10 : decode cX10_now 10 = .ok (.iconst 1, 1) := by decide +kernel
theorem dX10_now_11 : decode cX10_now 11 = .ok (.invokevirtual 112, 3) := by decide +kernel
theorem dX10_now_14 : decode cX10_now 14 = .ok (.ireturn, 1) := by decide +kernel
theorem dX10_now_15 : decode cX10_now 15 = .ok (.aload_n 0, 1) := by decide +kernel
theorem dX10_now_16 : decode cX10_now 16 = .ok (.getfield 82, 3) := by decide +kernel
theorem dX10_now_19 : decode cX10_now 19 = .ok (.getfield 129, 3) := by decide +kernel
theorem dX10_now_22 : decode cX10_now 22 = .ok (.ifCond .ne 9, 3) := by decide +kernel
theorem dX10_now_25 : decode cX10_now 25 = .ok (.aload_n 0, 1) := by decide +kernel
theorem dX10_now_26 : decode cX10_now 26 = .ok (.iconst 3, 1) := by decide +kernel
theorem dX10_now_27 : decode cX10_now 27 = .ok (.invokevirtual 112, 3) := by decide +kernel
theorem dX10_now_30 : decode cX10_now 30 = .ok (.ireturn, 1) := by decide +kernel
theorem dX10_now_31 : decode cX10_now 31 = .ok (.iload_n 1, 1) := by decide +kernel
theorem dX10_now_32 : decode cX10_now 32 = .ok (.tableswitch 63 0 2 #[28, 40, 51], 28) := by decide +kernel
theorem dX10_now_60 : decode cX10_now 60 = .ok (.aload_n 0, 1) := by decide +kernel
theorem dX10_now_61 : decode cX10_now 61 = .ok (.aload_n 0, 1) := by decide +kernel
theorem dX10_now_62 : decode cX10_now 62 = .ok (.getfield 82, 3) := by decide +kernel
theorem dX10_now_65 : decode cX10_now 65 = .ok (.getfield 129, 3) := by decide +kernel
theorem dX10_now_68 : decode cX10_now 68 = .ok (.invokevirtual 138, 3) := by decide +kernel
theorem dX10_now_71 : decode cX10_now 71 = .ok (.ireturn, 1) := by decide +kernel
theorem dX10_now_72 : decode cX10_now 72 = .ok (.aload_n 0, 1) := by decide +kernel
theorem dX10_now_73 : decode cX10_now 73 = .ok (.aload_n 0, 1) := by decide +kernel
theorem dX10_now_74 : decode cX10_now 74 = .ok (.invokevirtual 247, 3) := by decide +kernel
theorem dX10_now_77 : decode cX10_now 77 = .ok (.iconst 1, 1) := by decide +kernel
theorem dX10_now_78 : decode cX10_now 78 = .ok (.iadd, 1) := by decide +kernel
theorem dX10_now_79 : decode cX10_now 79 = .ok (.invokevirtual 138, 3) := by decide +kernel
theorem dX10_now_82 : decode cX10_now 82 = .ok (.ireturn, 1) := by decide +kernel
theorem dX10_now_83 : decode cX10_now 83 = .ok (.aload_n 0, 1) := by decide +kernel
theorem dX10_now_84 : decode cX10_now 84 = .ok (.aload_n 0, 1) := by decide +kernel
theorem dX10_now_85 : decode cX10_now 85 = .ok (.getfield 82, 3) := by decide +kernel
theorem dX10_now_88 : decode cX10_now 88 = .ok (.invokevirtual 251, 3) := by decide +kernel
theorem dX10_now_91 : decode cX10_now 91 = .ok (.invokevirtual 138, 3) := by decide +kernel
theorem dX10_now_94 : decode cX10_now 94 = .ok (.ireturn, 1) := by decide +kernel
theorem dX10_now_95 : decode cX10_now 95 = .ok (.aload_n 0, 1) := by decide +kernel
theorem dX10_now_96 : decode cX10_now 96 = .ok (.aload_n 0, 1) := by decide +kernel
theorem dX10_now_97 : decode cX10_now 97 = .ok (.getfield 73, 3) := by decide +kernel
theorem dX10_now_100 : decode cX10_now 100 = .ok (.aload_n 0, 1) := by decide +kernel
theorem dX10_now_101 : decode cX10_now 101 = .ok (.getfield 82, 3) := by decide +kernel
theorem dX10_now_104 : decode cX10_now 104 = .ok (.invokevirtual 254, 3) := by decide +kernel
theorem dX10_now_107 : decode cX10_now 107 = .ok (.invokevirtual 138, 3) := by decide +kernel
theorem dX10_now_110 : decode cX10_now 110 = .ok (.ireturn, 1) := by decide +kernel
set_option maxRecDepth 10000 in
set_option maxHeartbeats 4000000 in
theorem A_X10_now_e {Z : az_Z} {d : Nat} (C : az_C Z yX10_now cX10_now 2 (some .int) d) (hD : 6 ≤ d) (n : Nat) {σ : az_Hp} {v0 v1 : Int} {r : (Int × az_Hp)} (h : fz_X10_now n σ v0 v1 = some r) : az_AW Z 2 0 [(12, v0), (0, v1)] [] σ (some (0, r.1), r.2) := by
  have hd1 : 1 ≤ d := by omega
  unfold fz_X10_now at h
  refine az_il1 (pc := 0) C dX10_now_0 ?_
  refine az_if_lt (pc := 1) (tgt := 9) C h dX10_now_1 (by decide) (fun _ h => ?_) (fun _ h => ?_)
  · refine az_al0 (pc := 9) C rfl rfl dX10_now_9 ?_
    refine az_ik1 (pc := 10) C dX10_now_10 ?_
    refine az_cV1ii (pc := 11) (c := 10) C hd1 h mv_X10_refuse ml_X10_112 rfl (fun x hx => A_X10_refuse (by omega) hx) dX10_now_11 (fun r1 h => ?_)
    obtain rfl := Option.some.inj h
    exact az_ireturn (pc := 14) C dX10_now_14 rfl
  refine az_il1 (pc := 4) C dX10_now_4 ?_
  refine az_ik3 (pc := 5) C dX10_now_5 ?_
  refine az_icmp_le (pc := 6) (tgt := 15) C h dX10_now_6 (by decide) (fun _ h => ?_) (fun _ h => ?_)
  · refine az_al0 (pc := 15) C rfl rfl dX10_now_15 ?_
    refine az_getR (pc := 16) (c2 := 7) C h fl_X10_82 rfl rfl dX10_now_16 (fun h => ?_)
    refine az_getI (pc := 19) C fl_X10_129 rfl dX10_now_19 ?_
    refine az_if_ne (pc := 22) (tgt := 31) C h dX10_now_22 (by decide) (fun _ h => ?_) (fun _ h => ?_)
    · refine az_il1 (pc := 31) C dX10_now_31 ?_
      rcases az_ite h with ⟨c0, h⟩ | ⟨c0, h⟩
      · refine az_tswIn (pc := 32) (i := 0) (tgt := 60) C (by exact c0) (by decide) rfl dX10_now_32 (by decide) ?_
        refine az_al0 (pc := 60) C rfl rfl dX10_now_60 ?_
        refine az_al0 (pc := 61) C rfl rfl dX10_now_61 ?_
        refine az_getR (pc := 62) (c2 := 7) C h fl_X10_82 rfl rfl dX10_now_62 (fun h => ?_)
        refine az_getI (pc := 65) C fl_X10_129 rfl dX10_now_65 ?_
        refine az_cV1ii (pc := 68) (c := 10) C hd1 h mv_X10_give ml_X10_138 rfl (fun x hx => A_X10_give (by omega) hx) dX10_now_68 (fun r4 h => ?_)
        obtain rfl := Option.some.inj h
        exact az_ireturn (pc := 71) C dX10_now_71 rfl
      rcases az_ite h with ⟨c1, h⟩ | ⟨c1, h⟩
      · refine az_tswIn (pc := 32) (i := 1) (tgt := 72) C (by exact c1) (by decide) rfl dX10_now_32 (by decide) ?_
        refine az_al0 (pc := 72) C rfl rfl dX10_now_72 ?_
        refine az_al0 (pc := 73) C rfl rfl dX10_now_73 ?_
        refine az_cV0pi (pc := 74) (c := 10) C hd1 h mv_X10_deepest ml_X10_247 rfl (fun x hx => A_X10_deepest (by omega) n hx) dX10_now_74 (fun r5 h => ?_)
        refine az_ik1 (pc := 77) C dX10_now_77 ?_
        refine az_iadd (pc := 78) C dX10_now_78 ?_
        refine az_cV1ii (pc := 79) (c := 10) C hd1 h mv_X10_give ml_X10_138 rfl (fun x hx => A_X10_give (by omega) hx) dX10_now_79 (fun r6 h => ?_)
        obtain rfl := Option.some.inj h
        exact az_ireturn (pc := 82) C dX10_now_82 rfl
      rcases az_ite h with ⟨c2, h⟩ | ⟨c2, h⟩
      · refine az_tswIn (pc := 32) (i := 2) (tgt := 83) C (by exact c2) (by decide) rfl dX10_now_32 (by decide) ?_
        refine az_al0 (pc := 83) C rfl rfl dX10_now_83 ?_
        refine az_al0 (pc := 84) C rfl rfl dX10_now_84 ?_
        refine az_getR (pc := 85) (c2 := 7) C h fl_X10_82 rfl rfl dX10_now_85 (fun h => ?_)
        refine az_cV0pi (pc := 88) (c := 7) C hd1 h mv_X7_families ml_X10_251 rfl (fun x hx => A_X7_families (by omega) n hx) dX10_now_88 (fun r8 h => ?_)
        refine az_cV1ii (pc := 91) (c := 10) C hd1 h mv_X10_give ml_X10_138 rfl (fun x hx => A_X10_give (by omega) hx) dX10_now_91 (fun r9 h => ?_)
        obtain rfl := Option.some.inj h
        exact az_ireturn (pc := 94) C dX10_now_94 rfl
      refine az_tswOut (pc := 32) (tgt := 95) C (by omega) dX10_now_32 (by decide) ?_
      refine az_al0 (pc := 95) C rfl rfl dX10_now_95 ?_
      refine az_al0 (pc := 96) C rfl rfl dX10_now_96 ?_
      refine az_getR (pc := 97) (c2 := 5) C h fl_X10_73 rfl rfl dX10_now_97 (fun h => ?_)
      refine az_al0 (pc := 100) C rfl rfl dX10_now_100 ?_
      refine az_getR (pc := 101) (c2 := 7) C h fl_X10_82 rfl rfl dX10_now_101 (fun h => ?_)
      refine az_cV1ii (pc := 104) (c := 5) C hd1 h mv_X5_firingPlaces ml_X10_254 rfl (fun x hx => A_X5_firingPlaces (by omega) n hx) dX10_now_104 (fun r12 h => ?_)
      refine az_cV1ii (pc := 107) (c := 10) C hd1 h mv_X10_give ml_X10_138 rfl (fun x hx => A_X10_give (by omega) hx) dX10_now_107 (fun r13 h => ?_)
      obtain rfl := Option.some.inj h
      exact az_ireturn (pc := 110) C dX10_now_110 rfl
    refine az_al0 (pc := 25) C rfl rfl dX10_now_25 ?_
    refine az_ik3 (pc := 26) C dX10_now_26 ?_
    refine az_cV1ii (pc := 27) (c := 10) C hd1 h mv_X10_refuse ml_X10_112 rfl (fun x hx => A_X10_refuse (by omega) hx) dX10_now_27 (fun r14 h => ?_)
    obtain rfl := Option.some.inj h
    exact az_ireturn (pc := 30) C dX10_now_30 rfl
  refine az_al0 (pc := 9) C rfl rfl dX10_now_9 ?_
  refine az_ik1 (pc := 10) C dX10_now_10 ?_
  refine az_cV1ii (pc := 11) (c := 10) C hd1 h mv_X10_refuse ml_X10_112 rfl (fun x hx => A_X10_refuse (by omega) hx) dX10_now_11 (fun r15 h => ?_)
  obtain rfl := Option.some.inj h
  exact az_ireturn (pc := 14) C dX10_now_14 rfl
set_option maxRecDepth 10000 in
set_option maxHeartbeats 4000000 in
theorem A_X10_now {l : Launch} {d : Nat} (hD : 6 ≤ d) (n : Nat) {σ : az_Hp} {v0 v1 : Int} {r : (Int × az_Hp)} (h : fz_X10_now n σ v0 v1 = some r) : az_AC l yX10_now cX10_now 2 (some .int) d [(12, v0), (0, v1)] σ (some (0, r.1), r.2) := az_AC.of mt_X10_now rfl rfl rfl (fun Z hZ C => A_X10_now_e C hD n h)
theorem dX10_out_0 : decode cX10_out 0 = .ok (.iload_n 1, 1) := by decide +kernel
theorem dX10_out_1 : decode cX10_out 1 = .ok (.ifCond .ge 9, 3) := by decide +kernel
theorem dX10_out_4 : decode cX10_out 4 = .ok (.aload_n 0, 1) := by decide +kernel
theorem dX10_out_5 : decode cX10_out 5 = .ok (.iconst 1, 1) := by decide +kernel
theorem dX10_out_6 : decode cX10_out 6 = .ok (.invokevirtual 112, 3) := by decide +kernel
theorem dX10_out_9 : decode cX10_out 9 = .ok (.ireturn, 1) := by decide +kernel
theorem dX10_out_10 : decode cX10_out 10 = .ok (.iload_n 1, 1) := by decide +kernel
theorem dX10_out_11 : decode cX10_out 11 = .ok (.aload_n 0, 1) := by decide +kernel
theorem dX10_out_12 : decode cX10_out 12 = .ok (.getfield 105, 3) := by decide +kernel
theorem dX10_out_15 : decode cX10_out 15 = .ok (.getfield 216, 3) := by decide +kernel
theorem dX10_out_18 : decode cX10_out 18 = .ok (.if_icmp .lt 9, 3) := by decide +kernel
theorem dX10_out_21 : decode cX10_out 21 = .ok (.aload_n 0, 1) := by decide +kernel
theorem dX10_out_22 : decode cX10_out 22 = .ok (.iconst 5, 1) := by decide +kernel
theorem dX10_out_23 : decode cX10_out 23 = .ok (.invokevirtual 112, 3) := by decide +kernel
theorem dX10_out_26 : decode cX10_out 26 = .ok (.ireturn, 1) := by decide +kernel
theorem dX10_out_27 : decode cX10_out 27 = .ok (.aload_n 0, 1) := by decide +kernel
theorem dX10_out_28 : decode cX10_out 28 = .ok (.aload_n 0, 1) := by decide +kernel
theorem dX10_out_29 : decode cX10_out 29 = .ok (.getfield 105, 3) := by decide +kernel
theorem dX10_out_32 : decode cX10_out 32 = .ok (.getfield 318, 3) := by decide +kernel
theorem dX10_out_35 : decode cX10_out 35 = .ok (.iload_n 1, 1) := by decide +kernel
theorem dX10_out_36 : decode cX10_out 36 = .ok (.iaload, 1) := by decide +kernel
theorem dX10_out_37 : decode cX10_out 37 = .ok (.invokevirtual 138, 3) := by decide +kernel
theorem dX10_out_40 : decode cX10_out 40 = .ok (.ireturn, 1) := by decide +kernel
set_option maxRecDepth 10000 in
set_option maxHeartbeats 4000000 in
theorem A_X10_out_e {Z : az_Z} {d : Nat} (C : az_C Z yX10_out cX10_out 2 (some .int) d) (hD : 2 ≤ d) {σ : az_Hp} {v0 v1 : Int} {r : (Int × az_Hp)} (h : fz_X10_out σ v0 v1 = some r) : az_AW Z 2 0 [(12, v0), (0, v1)] [] σ (some (0, r.1), r.2) := by
  have hd1 : 1 ≤ d := by omega
  unfold fz_X10_out at h
  refine az_il1 (pc := 0) C dX10_out_0 ?_
  refine az_if_ge (pc := 1) (tgt := 10) C h dX10_out_1 (by decide) (fun _ h => ?_) (fun _ h => ?_)
  · refine az_il1 (pc := 10) C dX10_out_10 ?_
    refine az_al0 (pc := 11) C rfl rfl dX10_out_11 ?_
    refine az_getR (pc := 12) (c2 := 3) C h fl_X10_105 rfl rfl dX10_out_12 (fun h => ?_)
    refine az_getI (pc := 15) C fl_X10_216 rfl dX10_out_15 ?_
    refine az_icmp_lt (pc := 18) (tgt := 27) C h dX10_out_18 (by decide) (fun _ h => ?_) (fun _ h => ?_)
    · refine az_al0 (pc := 27) C rfl rfl dX10_out_27 ?_
      refine az_al0 (pc := 28) C rfl rfl dX10_out_28 ?_
      refine az_getR (pc := 29) (c2 := 3) C h fl_X10_105 rfl rfl dX10_out_29 (fun h => ?_)
      refine az_getR (pc := 32) (c2 := 13) C h fl_X10_318 rfl rfl dX10_out_32 (fun h => ?_)
      refine az_il1 (pc := 35) C dX10_out_35 ?_
      refine az_iaload (pc := 36) C h dX10_out_36 (fun h => ?_)
      refine az_cV1ii (pc := 37) (c := 10) C hd1 h mv_X10_give ml_X10_138 rfl (fun x hx => A_X10_give (by omega) hx) dX10_out_37 (fun r5 h => ?_)
      obtain rfl := Option.some.inj h
      exact az_ireturn (pc := 40) C dX10_out_40 rfl
    refine az_al0 (pc := 21) C rfl rfl dX10_out_21 ?_
    refine az_ik5 (pc := 22) C dX10_out_22 ?_
    refine az_cV1ii (pc := 23) (c := 10) C hd1 h mv_X10_refuse ml_X10_112 rfl (fun x hx => A_X10_refuse (by omega) hx) dX10_out_23 (fun r6 h => ?_)
    obtain rfl := Option.some.inj h
    exact az_ireturn (pc := 26) C dX10_out_26 rfl
  refine az_al0 (pc := 4) C rfl rfl dX10_out_4 ?_
  refine az_ik1 (pc := 5) C dX10_out_5 ?_
  refine az_cV1ii (pc := 6) (c := 10) C hd1 h mv_X10_refuse ml_X10_112 rfl (fun x hx => A_X10_refuse (by omega) hx) dX10_out_6 (fun r7 h => ?_)
  obtain rfl := Option.some.inj h
  exact az_ireturn (pc := 9) C dX10_out_9 rfl
set_option maxRecDepth 10000 in
set_option maxHeartbeats 4000000 in
theorem A_X10_out {l : Launch} {d : Nat} (hD : 2 ≤ d) {σ : az_Hp} {v0 v1 : Int} {r : (Int × az_Hp)} (h : fz_X10_out σ v0 v1 = some r) : az_AC l yX10_out cX10_out 2 (some .int) d [(12, v0), (0, v1)] σ (some (0, r.1), r.2) := az_AC.of mt_X10_out rfl rfl rfl (fun Z hZ C => A_X10_out_e C hD h)
theorem dX10_parts_0 : decode cX10_parts 0 = .ok (.iload_n 2, 1) := by decide +kernel
theorem dX10_parts_1 : decode cX10_parts 1 = .ok (.ifCond .eq 14, 3) := by decide +kernel
theorem dX10_parts_4 : decode cX10_parts 4 = .ok (.iload_n 2, 1) := by decide +kernel
theorem dX10_parts_5 : decode cX10_parts 5 = .ok (.iconst 1, 1) := by decide +kernel
theorem dX10_parts_6 : decode cX10_parts 6 = .ok (.if_icmp .eq 9, 3) := by decide +kernel
theorem dX10_parts_9 : decode cX10_parts 9 = .ok (.aload_n 0, 1) := by decide +kernel
theorem dX10_parts_10 : decode cX10_parts 10 = .ok (.iconst 1, 1) := by decide +kernel
theorem dX10_parts_11 : decode cX10_parts 11 = .ok (.invokevirtual 112, 3) := by decide +kernel
theorem dX10_parts_14 : decode cX10_parts 14 = .ok (.ireturn, 1) := by decide +kernel
theorem dX10_parts_15 : decode cX10_parts 15 = .ok (.iload_n 1, 1) := by decide +kernel
theorem dX10_parts_16 : decode cX10_parts 16 = .ok (.ifCond .lt 14, 3) := by decide +kernel
theorem dX10_parts_19 : decode cX10_parts 19 = .ok (.iload_n 1, 1) := by decide +kernel
theorem dX10_parts_20 : decode cX10_parts 20 = .ok (.aload_n 0, 1) := by decide +kernel
theorem dX10_parts_21 : decode cX10_parts 21 = .ok (.getfield 29, 3) := by decide +kernel
theorem dX10_parts_24 : decode cX10_parts 24 = .ok (.getfield 144, 3) := by decide +kernel
theorem dX10_parts_27 : decode cX10_parts 27 = .ok (.if_icmp .lt 9, 3) := by decide +kernel
theorem dX10_parts_30 : decode cX10_parts 30 = .ok (.aload_n 0, 1) := by decide +kernel
theorem dX10_parts_31 : decode cX10_parts 31 = .ok (.iconst 2, 1) := by decide +kernel
theorem dX10_parts_32 : decode cX10_parts 32 = .ok (.invokevirtual 112, 3) := by decide +kernel
theorem dX10_parts_35 : decode cX10_parts 35 = .ok (.ireturn, 1) := by decide +kernel
theorem dX10_parts_36 : decode cX10_parts 36 = .ok (.aload_n 0, 1) := by decide +kernel
theorem dX10_parts_37 : decode cX10_parts 37 = .ok (.getfield 29, 3) := by decide +kernel
theorem dX10_parts_40 : decode cX10_parts 40 = .ok (.iload_n 1, 1) := by decide +kernel
theorem dX10_parts_41 : decode cX10_parts 41 = .ok (.invokevirtual 169, 3) := by decide +kernel
theorem dX10_parts_44 : decode cX10_parts 44 = .ok (.istore_n 3, 1) := by decide +kernel
theorem dX10_parts_45 : decode cX10_parts 45 = .ok (.iload_n 3, 1) := by decide +kernel
theorem dX10_parts_46 : decode cX10_parts 46 = .ok (.iconst (-1), 1) := by decide +kernel
theorem dX10_parts_47 : decode cX10_parts 47 = .ok (.if_icmp .ne 9, 3) := by decide +kernel
theorem dX10_parts_50 : decode cX10_parts 50 = .ok (.aload_n 0, 1) := by decide +kernel
theorem dX10_parts_51 : decode cX10_parts 51 = .ok (.iconst 5, 1) := by decide +kernel
theorem dX10_parts_52 : decode cX10_parts 52 = .ok (.invokevirtual 112, 3) := by decide +kernel
theorem dX10_parts_55 : decode cX10_parts 55 = .ok (.ireturn, 1) := by decide +kernel
theorem dX10_parts_56 : decode cX10_parts 56 = .ok (.aload_n 0, 1) := by decide +kernel
theorem dX10_parts_57 : decode cX10_parts 57 = .ok (.iload_n 2, 1) := by decide +kernel
theorem dX10_parts_58 : decode cX10_parts 58 = .ok (.ifCond .ne 10, 3) := by decide +kernel
theorem dX10_parts_61 : decode cX10_parts 61 = .ok (.iload_n 3, 1) := by decide +kernel
theorem dX10_parts_62 : decode cX10_parts 62 = .ok (.bipush 16, 2) := by decide +kernel
theorem dX10_parts_64 : decode cX10_parts 64 = .ok (.idiv, 1) := by decide +kernel
theorem dX10_parts_65 : decode cX10_parts 65 = .ok (.goto 7, 3) := by decide +kernel
theorem dX10_parts_68 : decode cX10_parts 68 = .ok (.iload_n 3, 1) := by decide +kernel
theorem dX10_parts_69 : decode cX10_parts 69 = .ok (.bipush 16, 2) := by decide +kernel
theorem dX10_parts_71 : decode cX10_parts 71 = .ok (.irem, 1) := by decide +kernel
theorem dX10_parts_72 : decode cX10_parts 72 = .ok (.invokevirtual 138, 3) := by decide +kernel
theorem dX10_parts_75 : decode cX10_parts 75 = .ok (.ireturn, 1) := by decide +kernel
set_option maxRecDepth 10000 in
set_option maxHeartbeats 4000000 in
theorem A_X10_parts_15 {Z : az_Z} {d : Nat} (C : az_C Z yX10_parts cX10_parts 4 (some .int) d) (hD : 3 ≤ d) (n : Nat) {σ : az_Hp} {v0 v1 v2 : Int} {r : (Int × az_Hp)} (h : fz_X10_parts_15 n σ v0 v1 v2 = some r) : az_AW Z 4 15 [(12, v0), (0, v1), (0, v2), (31, 0)] [] σ (some (0, r.1), r.2) := by
  have hd1 : 1 ≤ d := by omega
  unfold fz_X10_parts_15 at h
  refine az_il1 (pc := 15) C dX10_parts_15 ?_
  refine az_if_lt (pc := 16) (tgt := 30) C h dX10_parts_16 (by decide) (fun _ h => ?_) (fun _ h => ?_)
  · refine az_al0 (pc := 30) C rfl rfl dX10_parts_30 ?_
    refine az_ik2 (pc := 31) C dX10_parts_31 ?_
    refine az_cV1ii (pc := 32) (c := 10) C hd1 h mv_X10_refuse ml_X10_112 rfl (fun x hx => A_X10_refuse (by omega) hx) dX10_parts_32 (fun r1 h => ?_)
    obtain rfl := Option.some.inj h
    exact az_ireturn (pc := 35) C dX10_parts_35 rfl
  refine az_il1 (pc := 19) C dX10_parts_19 ?_
  refine az_al0 (pc := 20) C rfl rfl dX10_parts_20 ?_
  refine az_getR (pc := 21) (c2 := 9) C h fl_X10_29 rfl rfl dX10_parts_21 (fun h => ?_)
  refine az_getI (pc := 24) C fl_X10_144 rfl dX10_parts_24 ?_
  refine az_icmp_lt (pc := 27) (tgt := 36) C h dX10_parts_27 (by decide) (fun _ h => ?_) (fun _ h => ?_)
  · refine az_al0 (pc := 36) C rfl rfl dX10_parts_36 ?_
    refine az_getR (pc := 37) (c2 := 9) C h fl_X10_29 rfl rfl dX10_parts_37 (fun h => ?_)
    refine az_il1 (pc := 40) C dX10_parts_40 ?_
    refine az_cV1pi (pc := 41) (c := 9) C hd1 h mv_X9_firstParting ml_X10_169 rfl (fun x hx => A_X9_firstParting (by omega) n hx) dX10_parts_41 (fun r4 h => ?_)
    refine az_is3 (pc := 44) C rfl rfl dX10_parts_44 ?_
    refine az_il3 (pc := 45) C dX10_parts_45 ?_
    refine az_ikm1 (pc := 46) C dX10_parts_46 ?_
    refine az_icmp_ne (pc := 47) (tgt := 56) C h dX10_parts_47 (by decide) (fun _ h => ?_) (fun _ h => ?_)
    · refine az_al0 (pc := 56) C rfl rfl dX10_parts_56 ?_
      refine az_il2 (pc := 57) C dX10_parts_57 ?_
      refine az_if_ne (pc := 58) (tgt := 68) C h dX10_parts_58 (by decide) (fun _ h => ?_) (fun _ h => ?_)
      · refine az_il3 (pc := 68) C dX10_parts_68 ?_
        refine az_bk16 (pc := 69) C dX10_parts_69 ?_
        refine az_irem (pc := 71) (K := fun _ => _) C h dX10_parts_71 (fun h => ?_)
        refine az_cV1ii (pc := 72) (c := 10) C hd1 h mv_X10_give ml_X10_138 rfl (fun x hx => A_X10_give (by omega) hx) dX10_parts_72 (fun r5 h => ?_)
        obtain rfl := Option.some.inj h
        exact az_ireturn (pc := 75) C dX10_parts_75 rfl
      refine az_il3 (pc := 61) C dX10_parts_61 ?_
      refine az_bk16 (pc := 62) C dX10_parts_62 ?_
      refine az_idiv (pc := 64) (K := fun _ => _) C h dX10_parts_64 (fun h => ?_)
      refine az_goto (pc := 65) (tgt := 72) C dX10_parts_65 (by decide) ?_
      refine az_cV1ii (pc := 72) (c := 10) C hd1 h mv_X10_give ml_X10_138 rfl (fun x hx => A_X10_give (by omega) hx) dX10_parts_72 (fun r6 h => ?_)
      obtain rfl := Option.some.inj h
      exact az_ireturn (pc := 75) C dX10_parts_75 rfl
    refine az_al0 (pc := 50) C rfl rfl dX10_parts_50 ?_
    refine az_ik5 (pc := 51) C dX10_parts_51 ?_
    refine az_cV1ii (pc := 52) (c := 10) C hd1 h mv_X10_refuse ml_X10_112 rfl (fun x hx => A_X10_refuse (by omega) hx) dX10_parts_52 (fun r7 h => ?_)
    obtain rfl := Option.some.inj h
    exact az_ireturn (pc := 55) C dX10_parts_55 rfl
  refine az_al0 (pc := 30) C rfl rfl dX10_parts_30 ?_
  refine az_ik2 (pc := 31) C dX10_parts_31 ?_
  refine az_cV1ii (pc := 32) (c := 10) C hd1 h mv_X10_refuse ml_X10_112 rfl (fun x hx => A_X10_refuse (by omega) hx) dX10_parts_32 (fun r8 h => ?_)
  obtain rfl := Option.some.inj h
  exact az_ireturn (pc := 35) C dX10_parts_35 rfl
set_option maxRecDepth 10000 in
set_option maxHeartbeats 4000000 in
theorem A_X10_parts_e {Z : az_Z} {d : Nat} (C : az_C Z yX10_parts cX10_parts 4 (some .int) d) (hD : 3 ≤ d) (n : Nat) {σ : az_Hp} {v0 v1 v2 : Int} {r : (Int × az_Hp)} (h : fz_X10_parts n σ v0 v1 v2 = some r) : az_AW Z 4 0 [(12, v0), (0, v1), (0, v2), (31, 0)] [] σ (some (0, r.1), r.2) := by
  have hd1 : 1 ≤ d := by omega
  unfold fz_X10_parts at h
  refine az_il2 (pc := 0) C dX10_parts_0 ?_
  refine az_if_eq (pc := 1) (tgt := 15) C h dX10_parts_1 (by decide) (fun _ h => ?_) (fun _ h => ?_)
  · exact (A_X10_parts_15 C hD n h)
  refine az_il2 (pc := 4) C dX10_parts_4 ?_
  refine az_ik1 (pc := 5) C dX10_parts_5 ?_
  refine az_icmp_eq (pc := 6) (tgt := 15) C h dX10_parts_6 (by decide) (fun _ h => ?_) (fun _ h => ?_)
  · exact (A_X10_parts_15 C hD n h)
  refine az_al0 (pc := 9) C rfl rfl dX10_parts_9 ?_
  refine az_ik1 (pc := 10) C dX10_parts_10 ?_
  refine az_cV1ii (pc := 11) (c := 10) C hd1 h mv_X10_refuse ml_X10_112 rfl (fun x hx => A_X10_refuse (by omega) hx) dX10_parts_11 (fun r1 h => ?_)
  obtain rfl := Option.some.inj h
  exact az_ireturn (pc := 14) C dX10_parts_14 rfl
set_option maxRecDepth 10000 in
set_option maxHeartbeats 4000000 in
theorem A_X10_parts {l : Launch} {d : Nat} (hD : 3 ≤ d) (n : Nat) {σ : az_Hp} {v0 v1 v2 : Int} {r : (Int × az_Hp)} (h : fz_X10_parts n σ v0 v1 v2 = some r) : az_AC l yX10_parts cX10_parts 4 (some .int) d [(12, v0), (0, v1), (0, v2)] σ (some (0, r.1), r.2) := az_AC.of mt_X10_parts rfl rfl rfl (fun Z hZ C => A_X10_parts_e C hD n h)
theorem dX10_period_0 : decode cX10_period 0 = .ok (.aload_n 0, 1) := by decide +kernel
theorem dX10_period_1 : decode cX10_period 1 = .ok (.getfield 92, 3) := by decide +kernel
theorem dX10_period_4 : decode cX10_period 4 = .ok (.iconst (-1), 1) := by decide +kernel
theorem dX10_period_5 : decode cX10_period 5 = .ok (.if_icmp .ne 11, 3) := by decide +kernel
theorem dX10_period_8 : decode cX10_period 8 = .ok (.aload_n 0, 1) := by decide +kernel
theorem dX10_period_9 : decode cX10_period 9 = .ok (.iconst 5, 1) := by decide +kernel
theorem dX10_period_10 : decode cX10_period 10 = .ok (.invokevirtual 112, 3) := by decide +kernel
theorem dX10_period_13 : decode cX10_period 13 = .ok (.goto 11, 3) := by decide +kernel
theorem dX10_period_16 : decode cX10_period 16 = .ok (.aload_n 0, 1) := by decide +kernel
theorem dX10_period_17 : decode cX10_period 17 = .ok (.aload_n 0, 1) := by decide +kernel
theorem dX10_period_18 : decode cX10_period 18 = .ok (.getfield 92, 3) := by decide +kernel
theorem dX10_period_21 : decode cX10_period 21 = .ok (.invokevirtual 138, 3) := by decide +kernel
theorem dX10_period_24 : decode cX10_period 24 = .ok (.ireturn, 1) := by decide +kernel
set_option maxRecDepth 10000 in
set_option maxHeartbeats 4000000 in
theorem A_X10_period_e {Z : az_Z} {d : Nat} (C : az_C Z yX10_period cX10_period 1 (some .int) d) (hD : 2 ≤ d) {σ : az_Hp} {v0 : Int} {r : (Int × az_Hp)} (h : fz_X10_period σ v0 = some r) : az_AW Z 1 0 [(12, v0)] [] σ (some (0, r.1), r.2) := by
  have hd1 : 1 ≤ d := by omega
  unfold fz_X10_period at h
  refine az_al0 (pc := 0) C rfl rfl dX10_period_0 ?_
  refine az_getI (pc := 1) C fl_X10_92 rfl dX10_period_1 ?_
  refine az_ikm1 (pc := 4) C dX10_period_4 ?_
  refine az_icmp_ne (pc := 5) (tgt := 16) C h dX10_period_5 (by decide) (fun _ h => ?_) (fun _ h => ?_)
  · refine az_al0 (pc := 16) C rfl rfl dX10_period_16 ?_
    refine az_al0 (pc := 17) C rfl rfl dX10_period_17 ?_
    refine az_getI (pc := 18) C fl_X10_92 rfl dX10_period_18 ?_
    refine az_cV1ii (pc := 21) (c := 10) C hd1 h mv_X10_give ml_X10_138 rfl (fun x hx => A_X10_give (by omega) hx) dX10_period_21 (fun r1 h => ?_)
    obtain rfl := Option.some.inj h
    exact az_ireturn (pc := 24) C dX10_period_24 rfl
  refine az_al0 (pc := 8) C rfl rfl dX10_period_8 ?_
  refine az_ik5 (pc := 9) C dX10_period_9 ?_
  refine az_cV1ii (pc := 10) (c := 10) C hd1 h mv_X10_refuse ml_X10_112 rfl (fun x hx => A_X10_refuse (by omega) hx) dX10_period_10 (fun r2 h => ?_)
  refine az_goto (pc := 13) (tgt := 24) C dX10_period_13 (by decide) ?_
  obtain rfl := Option.some.inj h
  exact az_ireturn (pc := 24) C dX10_period_24 rfl
set_option maxRecDepth 10000 in
set_option maxHeartbeats 4000000 in
theorem A_X10_period {l : Launch} {d : Nat} (hD : 2 ≤ d) {σ : az_Hp} {v0 : Int} {r : (Int × az_Hp)} (h : fz_X10_period σ v0 = some r) : az_AC l yX10_period cX10_period 1 (some .int) d [(12, v0)] σ (some (0, r.1), r.2) := az_AC.of mt_X10_period rfl rfl rfl (fun Z hZ C => A_X10_period_e C hD h)
theorem dX3_putCode_0 : decode cX3_putCode 0 = .ok (.iload_n 1, 1) := by decide +kernel
theorem dX3_putCode_1 : decode cX3_putCode 1 = .ok (.ifCond .ge 13, 3) := by decide +kernel
theorem dX3_putCode_4 : decode cX3_putCode 4 = .ok (.aload_n 0, 1) := by decide +kernel
theorem dX3_putCode_5 : decode cX3_putCode 5 = .ok (.iload_n 1, 1) := by decide +kernel
theorem dX3_putCode_6 : decode cX3_putCode 6 = .ok (.iconst (-1), 1) := by decide +kernel
theorem dX3_putCode_7 : decode cX3_putCode 7 = .ok (.ixor, 1) := by decide +kernel
theorem dX3_putCode_8 : decode cX3_putCode 8 = .ok (.bipush 97, 2) := by decide +kernel
theorem dX3_putCode_10 : decode cX3_putCode 10 = .ok (.invokevirtual 48, 3) := by decide +kernel
theorem dX3_putCode_13 : decode cX3_putCode 13 = .ok (.return_, 1) := by decide +kernel
theorem dX3_putCode_14 : decode cX3_putCode 14 = .ok (.iload_n 1, 1) := by decide +kernel
theorem dX3_putCode_15 : decode cX3_putCode 15 = .ok (.invokestatic 52, 3) := by decide +kernel
theorem dX3_putCode_18 : decode cX3_putCode 18 = .ok (.iconst 3, 1) := by decide +kernel
theorem dX3_putCode_19 : decode cX3_putCode 19 = .ok (.if_icmp .ne 37, 3) := by decide +kernel
theorem dX3_putCode_22 : decode cX3_putCode 22 = .ok (.aload_n 0, 1) := by decide +kernel
theorem dX3_putCode_23 : decode cX3_putCode 23 = .ok (.bipush 63, 2) := by decide +kernel
theorem dX3_putCode_25 : decode cX3_putCode 25 = .ok (.invokevirtual 30, 3) := by decide +kernel
theorem dX3_putCode_28 : decode cX3_putCode 28 = .ok (.iload_n 1, 1) := by decide +kernel
theorem dX3_putCode_29 : decode cX3_putCode 29 = .ok (.invokestatic 55, 3) := by decide +kernel
theorem dX3_putCode_32 : decode cX3_putCode 32 = .ok (.istore 4, 2) := by decide +kernel
theorem dX3_putCode_34 : decode cX3_putCode 34 = .ok (.aload_n 0, 1) := by decide +kernel
theorem dX3_putCode_35 : decode cX3_putCode 35 = .ok (.iload 4, 2) := by decide +kernel
theorem dX3_putCode_37 : decode cX3_putCode 37 = .ok (.aload_n 3, 1) := by decide +kernel
theorem dX3_putCode_38 : decode cX3_putCode 38 = .ok (.arraylength, 1) := by decide +kernel
theorem dX3_putCode_39 : decode cX3_putCode 39 = .ok (.if_icmp .ge 10, 3) := by decide +kernel
theorem dX3_putCode_42 : decode cX3_putCode 42 = .ok (.aload_n 3, 1) := by decide +kernel
theorem dX3_putCode_43 : decode cX3_putCode 43 = .ok (.iload 4, 2) := by decide +kernel
theorem dX3_putCode_45 : decode cX3_putCode 45 = .ok (.iaload, 1) := by decide +kernel
theorem dX3_putCode_46 : decode cX3_putCode 46 = .ok (.goto 4, 3) := by decide +kernel
theorem dX3_putCode_49 : decode cX3_putCode 49 = .ok (.iconst 0, 1) := by decide +kernel
theorem dX3_putCode_50 : decode cX3_putCode 50 = .ok (.bipush 97, 2) := by decide +kernel
theorem dX3_putCode_52 : decode cX3_putCode 52 = .ok (.invokevirtual 48, 3) := by decide +kernel
theorem dX3_putCode_55 : decode cX3_putCode 55 = .ok (.return_, 1) := by decide +kernel
theorem dX3_putCode_56 : decode cX3_putCode 56 = .ok (.aload_n 0, 1) := by decide +kernel
theorem dX3_putCode_57 : decode cX3_putCode 57 = .ok (.aload_n 2, 1) := by decide +kernel
theorem dX3_putCode_58 : decode cX3_putCode 58 = .ok (.iload_n 1, 1) := by decide +kernel
theorem dX3_putCode_59 : decode cX3_putCode 59 = .ok (.invokevirtual 58, 3) := by decide +kernel
theorem dX3_putCode_62 : decode cX3_putCode 62 = .ok (.bipush 65, 2) := by decide +kernel
theorem dX3_putCode_64 : decode cX3_putCode 64 = .ok (.invokevirtual 48, 3) := by decide +kernel
theorem dX3_putCode_67 : decode cX3_putCode 67 = .ok (.return_, 1) := by decide +kernel
set_option maxRecDepth 10000 in
set_option maxHeartbeats 4000000 in
theorem A_X3_putCode_e {Z : az_Z} {d : Nat} (C : az_C Z yX3_putCode cX3_putCode 5 none d) (hD : 4 ≤ d) (n : Nat) {σ : az_Hp} {v0 v1 v2 v3 : Int} {r : az_Hp} (h : fz_X3_putCode n σ v0 v1 v2 v3 = some r) : az_AW Z 5 0 [(5, v0), (0, v1), (11, v2), (15, v3), (31, 0)] [] σ (none, r) := by
  have hd1 : 1 ≤ d := by omega
  unfold fz_X3_putCode at h
  refine az_il1 (pc := 0) C dX3_putCode_0 ?_
  refine az_if_ge (pc := 1) (tgt := 14) C h dX3_putCode_1 (by decide) (fun _ h => ?_) (fun _ h => ?_)
  · refine az_il1 (pc := 14) C dX3_putCode_14 ?_
    refine az_cS1pi (pc := 15) C hd1 h ms_X7_kind ml_X3_52 rfl (fun x hx => A_X7_kind (by omega) hx) dX3_putCode_15 (fun r1 h => ?_)
    refine az_ik3 (pc := 18) C dX3_putCode_18 ?_
    refine az_icmp_ne (pc := 19) (tgt := 56) C h dX3_putCode_19 (by decide) (fun _ h => ?_) (fun _ h => ?_)
    · refine az_al0 (pc := 56) C rfl rfl dX3_putCode_56 ?_
      refine az_al2 (pc := 57) C rfl rfl dX3_putCode_57 ?_
      refine az_il1 (pc := 58) C dX3_putCode_58 ?_
      refine az_cV1pi (pc := 59) (c := 9) C hd1 h mv_X9_nameOf ml_X3_58 rfl (fun x hx => A_X9_nameOf (by omega) hx) dX3_putCode_59 (fun r2 h => ?_)
      refine az_bk65 (pc := 62) C dX3_putCode_62 ?_
      refine az_cV2v (pc := 64) (c := 3) C hd1 h mv_X3_putLetters ml_X3_48 rfl (fun x hx => A_X3_putLetters (by omega) n hx) dX3_putCode_64 (fun r3 h => ?_)
      obtain rfl := Option.some.inj h
      exact az_return (pc := 67) C dX3_putCode_67 rfl
    refine az_al0 (pc := 22) C rfl rfl dX3_putCode_22 ?_
    refine az_bk63 (pc := 23) C dX3_putCode_23 ?_
    refine az_cV1v (pc := 25) (c := 3) C hd1 h mv_X3_put ml_X3_30 rfl (fun x hx => A_X3_put (by omega) hx) dX3_putCode_25 (fun r4 h => ?_)
    refine az_il1 (pc := 28) C dX3_putCode_28 ?_
    refine az_cS1pi (pc := 29) C hd1 h ms_X7_number ml_X3_55 rfl (fun x hx => A_X7_number (by omega) hx) dX3_putCode_29 (fun r5 h => ?_)
    refine az_is4 (pc := 32) C rfl rfl dX3_putCode_32 ?_
    refine az_al0 (pc := 34) C rfl rfl dX3_putCode_34 ?_
    refine az_il4 (pc := 35) C dX3_putCode_35 ?_
    refine az_al3 (pc := 37) C rfl rfl dX3_putCode_37 ?_
    refine az_arraylength (pc := 38) (k := 13) C rfl rfl dX3_putCode_38 ?_
    refine az_icmp_ge (pc := 39) (tgt := 49) C h dX3_putCode_39 (by decide) (fun _ h => ?_) (fun _ h => ?_)
    · refine az_ik0 (pc := 49) C dX3_putCode_49 ?_
      refine az_bk97 (pc := 50) C dX3_putCode_50 ?_
      refine az_cV2v (pc := 52) (c := 3) C hd1 h mv_X3_putLetters ml_X3_48 rfl (fun x hx => A_X3_putLetters (by omega) n hx) dX3_putCode_52 (fun r6 h => ?_)
      obtain rfl := Option.some.inj h
      exact az_return (pc := 55) C dX3_putCode_55 rfl
    refine az_al3 (pc := 42) C rfl rfl dX3_putCode_42 ?_
    refine az_il4 (pc := 43) C dX3_putCode_43 ?_
    refine az_iaload (pc := 45) C h dX3_putCode_45 (fun h => ?_)
    refine az_goto (pc := 46) (tgt := 50) C dX3_putCode_46 (by decide) ?_
    refine az_bk97 (pc := 50) C dX3_putCode_50 ?_
    refine az_cV2v (pc := 52) (c := 3) C hd1 h mv_X3_putLetters ml_X3_48 rfl (fun x hx => A_X3_putLetters (by omega) n hx) dX3_putCode_52 (fun r8 h => ?_)
    obtain rfl := Option.some.inj h
    exact az_return (pc := 55) C dX3_putCode_55 rfl
  refine az_al0 (pc := 4) C rfl rfl dX3_putCode_4 ?_
  refine az_il1 (pc := 5) C dX3_putCode_5 ?_
  refine az_ikm1 (pc := 6) C dX3_putCode_6 ?_
  refine az_ixor (pc := 7) C dX3_putCode_7 ?_
  refine az_bk97 (pc := 8) C dX3_putCode_8 ?_
  refine az_cV2v (pc := 10) (c := 3) C hd1 h mv_X3_putLetters ml_X3_48 rfl (fun x hx => A_X3_putLetters (by omega) n hx) dX3_putCode_10 (fun r9 h => ?_)
  obtain rfl := Option.some.inj h
  exact az_return (pc := 13) C dX3_putCode_13 rfl
set_option maxRecDepth 10000 in
set_option maxHeartbeats 4000000 in
theorem A_X3_putCode {l : Launch} {d : Nat} (hD : 4 ≤ d) (n : Nat) {σ : az_Hp} {v0 v1 v2 v3 : Int} {r : az_Hp} (h : fz_X3_putCode n σ v0 v1 v2 v3 = some r) : az_AC l yX3_putCode cX3_putCode 5 none d [(5, v0), (0, v1), (11, v2), (15, v3)] σ (none, r) := az_AC.of mt_X3_putCode rfl rfl rfl (fun Z hZ C => A_X3_putCode_e C hD n h)
theorem dX3_putRow_0 : decode cX3_putRow 0 = .ok (.iconst 0, 1) := by decide +kernel
theorem dX3_putRow_1 : decode cX3_putRow 1 = .ok (.istore 4, 2) := by decide +kernel
theorem dX3_putRow_3 : decode cX3_putRow 3 = .ok (.iconst 0, 1) := by decide +kernel
theorem dX3_putRow_4 : decode cX3_putRow 4 = .ok (.istore 5, 2) := by decide +kernel
theorem dX3_putRow_6 : decode cX3_putRow 6 = .ok (.iload 5, 2) := by decide +kernel
theorem dX3_putRow_8 : decode cX3_putRow 8 = .ok (.aload_n 1, 1) := by decide +kernel
theorem dX3_putRow_9 : decode cX3_putRow 9 = .ok (.getfield 34, 3) := by decide +kernel
theorem dX3_putRow_12 : decode cX3_putRow 12 = .ok (.if_icmp .ge 127, 3) := by decide +kernel
theorem dX3_putRow_15 : decode cX3_putRow 15 = .ok (.aload_n 0, 1) := by decide +kernel
theorem dX3_putRow_16 : decode cX3_putRow 16 = .ok (.aload_n 1, 1) := by decide +kernel
theorem dX3_putRow_17 : decode cX3_putRow 17 = .ok (.getfield 37, 3) := by decide +kernel
theorem dX3_putRow_20 : decode cX3_putRow 20 = .ok (.iload 5, 2) := by decide +kernel
theorem dX3_putRow_22 : decode cX3_putRow 22 = .ok (.iaload, 1) := by decide +kernel
theorem dX3_putRow_23 : decode cX3_putRow 23 = .ok (.aload_n 2, 1) := by decide +kernel
theorem dX3_putRow_24 : decode cX3_putRow 24 = .ok (.aload_n 3, 1) := by decide +kernel
theorem dX3_putRow_25 : decode cX3_putRow 25 = .ok (.invokevirtual 40, 3) := by decide +kernel
theorem dX3_putRow_28 : decode cX3_putRow 28 = .ok (.aload_n 1, 1) := by decide +kernel
theorem dX3_putRow_29 : decode cX3_putRow 29 = .ok (.getfield 37, 3) := by decide +kernel
theorem dX3_putRow_32 : decode cX3_putRow 32 = .ok (.iload 5, 2) := by decide +kernel
theorem dX3_putRow_34 : decode cX3_putRow 34 = .ok (.iaload, 1) := by decide +kernel
theorem dX3_putRow_35 : decode cX3_putRow 35 = .ok (.invokestatic 44, 3) := by decide +kernel
theorem dX3_putRow_38 : decode cX3_putRow 38 = .ok (.istore 6, 2) := by decide +kernel
theorem dX3_putRow_40 : decode cX3_putRow 40 = .ok (.iload 6, 2) := by decide +kernel
theorem dX3_putRow_42 : decode cX3_putRow 42 = .ok (.ifCond .le 34, 3) := by decide +kernel
theorem dX3_putRow_45 : decode cX3_putRow 45 = .ok (.iload 4, 2) := by decide +kernel
theorem dX3_putRow_47 : decode cX3_putRow 47 = .ok (.aload_n 0, 1) := by decide +kernel
theorem dX3_putRow_48 : decode cX3_putRow 48 = .ok (.getfield 19, 3) := by decide +kernel
theorem dX3_putRow_51 : decode cX3_putRow 51 = .ok (.arraylength, 1) := by decide +kernel
theorem dX3_putRow_52 : decode cX3_putRow 52 = .ok (.if_icmp .ge 24, 3) := by decide +kernel
theorem dX3_putRow_55 : decode cX3_putRow 55 = .ok (.aload_n 0, 1) := by decide +kernel
theorem dX3_putRow_56 : decode cX3_putRow 56 = .ok (.bipush 40, 2) := by decide +kernel
theorem dX3_putRow_58 : decode cX3_putRow 58 = .ok (.invokevirtual 30, 3) := by decide +kernel
theorem dX3_putRow_61 : decode cX3_putRow 61 = .ok (.aload_n 0, 1) := by decide +kernel
theorem dX3_putRow_62 : decode cX3_putRow 62 = .ok (.getfield 19, 3) := by decide +kernel
theorem dX3_putRow_65 : decode cX3_putRow 65 = .ok (.iload 4, 2) := by decide +kernel
theorem dX3_putRow_67 : decode cX3_putRow 67 = .ok (.iload 6, 2) := by decide +kernel
theorem dX3_putRow_69 : decode cX3_putRow 69 = .ok (.iastore, 1) := by decide +kernel
theorem dX3_putRow_70 : decode cX3_putRow 70 = .ok (.iinc 4 1, 3) := by decide +kernel
theorem dX3_putRow_73 : decode cX3_putRow 73 = .ok (.goto 60, 3) := by decide +kernel
theorem dX3_putRow_76 : decode cX3_putRow 76 = .ok (.iload 4, 2) := by decide +kernel
theorem dX3_putRow_78 : decode cX3_putRow 78 = .ok (.iconst 1, 1) := by decide +kernel
theorem dX3_putRow_79 : decode cX3_putRow 79 = .ok (.isub, 1) := by decide +kernel
theorem dX3_putRow_80 : decode cX3_putRow 80 = .ok (.istore 7, 2) := by decide +kernel
theorem dX3_putRow_82 : decode cX3_putRow 82 = .ok (.iload 7, 2) := by decide +kernel
theorem dX3_putRow_84 : decode cX3_putRow 84 = .ok (.ifCond .lt 49, 3) := by decide +kernel
theorem dX3_putRow_87 : decode cX3_putRow 87 = .ok (.aload_n 0, 1) := by decide +kernel
theorem dX3_putRow_88 : decode cX3_putRow 88 = .ok (.getfield 19, 3) := by decide +kernel
theorem dX3_putRow_91 : decode cX3_putRow 91 = .ok (.iload 7, 2) := by decide +kernel
theorem dX3_putRow_93 : decode cX3_putRow 93 = .ok (.dup2, 1) := by decide +kernel
theorem dX3_putRow_94 : decode cX3_putRow 94 = .ok (.iaload, 1) := by decide +kernel
theorem dX3_putRow_95 : decode cX3_putRow 95 = .ok (.iconst 1, 1) := by decide +kernel
theorem dX3_putRow_96 : decode cX3_putRow 96 = .ok (.isub, 1) := by decide +kernel
theorem dX3_putRow_97 : decode cX3_putRow 97 = .ok (.iastore, 1) := by decide +kernel
theorem dX3_putRow_98 : decode cX3_putRow 98 = .ok (.aload_n 0, 1) := by decide +kernel
theorem dX3_putRow_99 : decode cX3_putRow 99 = .ok (.getfield 19, 3) := by decide +kernel
theorem dX3_putRow_102 : decode cX3_putRow 102 = .ok (.iload 7, 2) := by decide +kernel
theorem dX3_putRow_104 : decode cX3_putRow 104 = .ok (.iaload, 1) := by decide +kernel
theorem dX3_putRow_105 : decode cX3_putRow 105 = .ok (.ifCond .le 12, 3) := by decide +kernel
theorem dX3_putRow_108 : decode cX3_putRow 108 = .ok (.aload_n 0, 1) := by decide +kernel
theorem dX3_putRow_109 : decode cX3_putRow 109 = .ok (.bipush 44, 2) := by decide +kernel
theorem dX3_putRow_111 : decode cX3_putRow 111 = .ok (.invokevirtual 30, 3) := by decide +kernel
theorem dX3_putRow_114 : decode cX3_putRow 114 = .ok (.goto 19, 3) := by decide +kernel
theorem dX3_putRow_117 : decode cX3_putRow 117 = .ok (.aload_n 0, 1) := by decide +kernel
theorem dX3_putRow_118 : decode cX3_putRow 118 = .ok (.bipush 41, 2) := by decide +kernel
theorem dX3_putRow_120 : decode cX3_putRow 120 = .ok (.invokevirtual 30, 3) := by decide +kernel
theorem dX3_putRow_123 : decode cX3_putRow 123 = .ok (.iload 7, 2) := by decide +kernel
theorem dX3_putRow_125 : decode cX3_putRow 125 = .ok (.istore 4, 2) := by decide +kernel
theorem dX3_putRow_127 : decode cX3_putRow 127 = .ok (.iinc 7 (-1), 3) := by decide +kernel
theorem dX3_putRow_130 : decode cX3_putRow 130 = .ok (.goto (-48), 3) := by decide +kernel
theorem dX3_putRow_133 : decode cX3_putRow 133 = .ok (.iinc 5 1, 3) := by decide +kernel
theorem dX3_putRow_136 : decode cX3_putRow 136 = .ok (.goto (-130), 3) := by decide +kernel
theorem dX3_putRow_139 : decode cX3_putRow 139 = .ok (.return_, 1) := by decide +kernel
set_option maxRecDepth 10000 in
set_option maxHeartbeats 4000000 in
theorem A_X3_putRow_82 {Z : az_Z} {d : Nat} (C : az_C Z yX3_putRow cX3_putRow 8 none d) (hD : 5 ≤ d) (n : Nat) {k6 : az_Hp → Int → Int → Int → Int → Int → Int → Option az_Hp} (hk6 : ∀ {σ : az_Hp} {v0 v1 v2 v3 v4 v5 : Int} {r : az_Hp}, k6 σ v0 v1 v2 v3 v4 v5 = some r → az_AW Z 8 6 [(5, v0), (9, v1), (11, v2), (15, v3), (0, v4), (0, v5), (31, 0), (31, 0)] [] σ (none, r)) (k : Nat) : ∀ {σ : az_Hp} {v0 v1 v2 v3 v4 v5 v7 : Int} {r : az_Hp}, fz_X3_putRow_82 n k6 k σ v0 v1 v2 v3 v4 v5 v7 = some r → az_AW Z 8 82 [(5, v0), (9, v1), (11, v2), (15, v3), (0, v4), (0, v5), (31, 0), (0, v7)] [] σ (none, r) := by
  have hd1 : 1 ≤ d := by omega
  induction k with
  | zero => intro σ v0 v1 v2 v3 v4 v5 v7 r h; simp [fz_X3_putRow_82] at h
  | succ k ih =>
    intro σ v0 v1 v2 v3 v4 v5 v7 r h
    unfold fz_X3_putRow_82 at h
    refine az_il7 (pc := 82) C dX3_putRow_82 ?_
    refine az_if_lt (pc := 84) (tgt := 133) C h dX3_putRow_84 (by decide) (fun _ h => ?_) (fun _ h => ?_)
    · refine az_ii5 (pc := 133) C az_n1 rfl rfl dX3_putRow_133 ?_
      refine az_goto (pc := 136) (tgt := 6) C dX3_putRow_136 (by decide) ?_
      exact (az_wkk (hk6 h) (az_sE (az_sE (az_sE (az_sE (az_sE (az_sE (az_sJ (az_sJ az_sN)))))))))
    refine az_al0 (pc := 87) C rfl rfl dX3_putRow_87 ?_
    refine az_getR (pc := 88) (c2 := 13) C h fl_X3_19 rfl rfl dX3_putRow_88 (fun h => ?_)
    refine az_il7 (pc := 91) C dX3_putRow_91 ?_
    refine az_dup2 (pc := 93) C rfl rfl rfl rfl dX3_putRow_93 ?_
    refine az_iaload (pc := 94) C h dX3_putRow_94 (fun h => ?_)
    refine az_ik1 (pc := 95) C dX3_putRow_95 ?_
    refine az_isub (pc := 96) C dX3_putRow_96 ?_
    refine az_iastore (pc := 97) C h dX3_putRow_97 (fun h => ?_)
    refine az_al0 (pc := 98) C rfl rfl dX3_putRow_98 ?_
    refine az_getR (pc := 99) (c2 := 13) C h fl_X3_19 rfl rfl dX3_putRow_99 (fun h => ?_)
    refine az_il7 (pc := 102) C dX3_putRow_102 ?_
    refine az_iaload (pc := 104) C h dX3_putRow_104 (fun h => ?_)
    refine az_if_le (pc := 105) (tgt := 117) C h dX3_putRow_105 (by decide) (fun _ h => ?_) (fun _ h => ?_)
    · refine az_al0 (pc := 117) C rfl rfl dX3_putRow_117 ?_
      refine az_bk41 (pc := 118) C dX3_putRow_118 ?_
      refine az_cV1v (pc := 120) (c := 3) C hd1 h mv_X3_put ml_X3_30 rfl (fun x hx => A_X3_put (by omega) hx) dX3_putRow_120 (fun r6 h => ?_)
      refine az_il7 (pc := 123) C dX3_putRow_123 ?_
      refine az_is4 (pc := 125) C rfl rfl dX3_putRow_125 ?_
      refine az_ii7 (pc := 127) C az_nm1 rfl rfl dX3_putRow_127 ?_
      refine az_goto (pc := 130) (tgt := 82) C dX3_putRow_130 (by decide) ?_
      exact (ih h)
    refine az_al0 (pc := 108) C rfl rfl dX3_putRow_108 ?_
    refine az_bk44 (pc := 109) C dX3_putRow_109 ?_
    refine az_cV1v (pc := 111) (c := 3) C hd1 h mv_X3_put ml_X3_30 rfl (fun x hx => A_X3_put (by omega) hx) dX3_putRow_111 (fun r7 h => ?_)
    refine az_goto (pc := 114) (tgt := 133) C dX3_putRow_114 (by decide) ?_
    refine az_ii5 (pc := 133) C az_n1 rfl rfl dX3_putRow_133 ?_
    refine az_goto (pc := 136) (tgt := 6) C dX3_putRow_136 (by decide) ?_
    exact (az_wkk (hk6 h) (az_sE (az_sE (az_sE (az_sE (az_sE (az_sE (az_sJ (az_sJ az_sN)))))))))
set_option maxRecDepth 10000 in
set_option maxHeartbeats 4000000 in
theorem A_X3_putRow_6 {Z : az_Z} {d : Nat} (C : az_C Z yX3_putRow cX3_putRow 8 none d) (hD : 5 ≤ d) (n : Nat) (k : Nat) : ∀ {σ : az_Hp} {v0 v1 v2 v3 v4 v5 : Int} {r : az_Hp}, fz_X3_putRow_6 n k σ v0 v1 v2 v3 v4 v5 = some r → az_AW Z 8 6 [(5, v0), (9, v1), (11, v2), (15, v3), (0, v4), (0, v5), (31, 0), (31, 0)] [] σ (none, r) := by
  have hd1 : 1 ≤ d := by omega
  induction k with
  | zero => intro σ v0 v1 v2 v3 v4 v5 r h; simp [fz_X3_putRow_6] at h
  | succ k ih =>
    intro σ v0 v1 v2 v3 v4 v5 r h
    unfold fz_X3_putRow_6 at h
    refine az_il5 (pc := 6) C dX3_putRow_6 ?_
    refine az_al1 (pc := 8) C rfl rfl dX3_putRow_8 ?_
    refine az_getI (pc := 9) C fl_X3_34 rfl dX3_putRow_9 ?_
    refine az_icmp_ge (pc := 12) (tgt := 139) C h dX3_putRow_12 (by decide) (fun _ h => ?_) (fun _ h => ?_)
    · obtain rfl := Option.some.inj h
      exact az_return (pc := 139) C dX3_putRow_139 rfl
    refine az_al0 (pc := 15) C rfl rfl dX3_putRow_15 ?_
    refine az_al1 (pc := 16) C rfl rfl dX3_putRow_16 ?_
    refine az_getR (pc := 17) (c2 := 13) C h fl_X3_37 rfl rfl dX3_putRow_17 (fun h => ?_)
    refine az_il5 (pc := 20) C dX3_putRow_20 ?_
    refine az_iaload (pc := 22) C h dX3_putRow_22 (fun h => ?_)
    refine az_al2 (pc := 23) C rfl rfl dX3_putRow_23 ?_
    refine az_al3 (pc := 24) C rfl rfl dX3_putRow_24 ?_
    refine az_cV3v (pc := 25) (c := 3) C hd1 h mv_X3_putCode ml_X3_40 rfl (fun x hx => A_X3_putCode (by omega) n hx) dX3_putRow_25 (fun r3 h => ?_)
    refine az_al1 (pc := 28) C rfl rfl dX3_putRow_28 ?_
    refine az_getR (pc := 29) (c2 := 13) C h fl_X3_37 rfl rfl dX3_putRow_29 (fun h => ?_)
    refine az_il5 (pc := 32) C dX3_putRow_32 ?_
    refine az_iaload (pc := 34) C h dX3_putRow_34 (fun h => ?_)
    refine az_cS1pi (pc := 35) C hd1 h ms_X7_arity ml_X3_44 rfl (fun x hx => A_X7_arity (by omega) hx) dX3_putRow_35 (fun r6 h => ?_)
    refine az_is6 (pc := 38) C rfl rfl dX3_putRow_38 ?_
    refine az_il6 (pc := 40) C dX3_putRow_40 ?_
    refine az_if_le (pc := 42) (tgt := 76) C h dX3_putRow_42 (by decide) (fun _ h => ?_) (fun _ h => ?_)
    · refine az_il4 (pc := 76) C dX3_putRow_76 ?_
      refine az_ik1 (pc := 78) C dX3_putRow_78 ?_
      refine az_isub (pc := 79) C dX3_putRow_79 ?_
      refine az_is7 (pc := 80) C rfl rfl dX3_putRow_80 ?_
      exact (az_wkk (A_X3_putRow_82 C hD n (fun h => ih h) n h) (az_sE (az_sE (az_sE (az_sE (az_sE (az_sE (az_sJ (az_sE az_sN)))))))))
    refine az_il4 (pc := 45) C dX3_putRow_45 ?_
    refine az_al0 (pc := 47) C rfl rfl dX3_putRow_47 ?_
    refine az_getR (pc := 48) (c2 := 13) C h fl_X3_19 rfl rfl dX3_putRow_48 (fun h => ?_)
    refine az_arraylength (pc := 51) (k := 13) C rfl rfl dX3_putRow_51 ?_
    refine az_icmp_ge (pc := 52) (tgt := 76) C h dX3_putRow_52 (by decide) (fun _ h => ?_) (fun _ h => ?_)
    · refine az_il4 (pc := 76) C dX3_putRow_76 ?_
      refine az_ik1 (pc := 78) C dX3_putRow_78 ?_
      refine az_isub (pc := 79) C dX3_putRow_79 ?_
      refine az_is7 (pc := 80) C rfl rfl dX3_putRow_80 ?_
      exact (az_wkk (A_X3_putRow_82 C hD n (fun h => ih h) n h) (az_sE (az_sE (az_sE (az_sE (az_sE (az_sE (az_sJ (az_sE az_sN)))))))))
    refine az_al0 (pc := 55) C rfl rfl dX3_putRow_55 ?_
    refine az_bk40 (pc := 56) C dX3_putRow_56 ?_
    refine az_cV1v (pc := 58) (c := 3) C hd1 h mv_X3_put ml_X3_30 rfl (fun x hx => A_X3_put (by omega) hx) dX3_putRow_58 (fun r8 h => ?_)
    refine az_al0 (pc := 61) C rfl rfl dX3_putRow_61 ?_
    refine az_getR (pc := 62) (c2 := 13) C h fl_X3_19 rfl rfl dX3_putRow_62 (fun h => ?_)
    refine az_il4 (pc := 65) C dX3_putRow_65 ?_
    refine az_il6 (pc := 67) C dX3_putRow_67 ?_
    refine az_iastore (pc := 69) C h dX3_putRow_69 (fun h => ?_)
    refine az_ii4 (pc := 70) C az_n1 rfl rfl dX3_putRow_70 ?_
    refine az_goto (pc := 73) (tgt := 133) C dX3_putRow_73 (by decide) ?_
    refine az_ii5 (pc := 133) C az_n1 rfl rfl dX3_putRow_133 ?_
    refine az_goto (pc := 136) (tgt := 6) C dX3_putRow_136 (by decide) ?_
    exact (az_wkk (ih h) (az_sE (az_sE (az_sE (az_sE (az_sE (az_sE (az_sJ (az_sJ az_sN)))))))))
set_option maxRecDepth 10000 in
set_option maxHeartbeats 4000000 in
theorem A_X3_putRow_e {Z : az_Z} {d : Nat} (C : az_C Z yX3_putRow cX3_putRow 8 none d) (hD : 5 ≤ d) (n : Nat) {σ : az_Hp} {v0 v1 v2 v3 : Int} {r : az_Hp} (h : fz_X3_putRow n σ v0 v1 v2 v3 = some r) : az_AW Z 8 0 [(5, v0), (9, v1), (11, v2), (15, v3), (31, 0), (31, 0), (31, 0), (31, 0)] [] σ (none, r) := by
  have hd1 : 1 ≤ d := by omega
  unfold fz_X3_putRow at h
  refine az_ik0 (pc := 0) C dX3_putRow_0 ?_
  refine az_is4 (pc := 1) C rfl rfl dX3_putRow_1 ?_
  refine az_ik0 (pc := 3) C dX3_putRow_3 ?_
  refine az_is5 (pc := 4) C rfl rfl dX3_putRow_4 ?_
  exact (A_X3_putRow_6 C hD n n h)
set_option maxRecDepth 10000 in
set_option maxHeartbeats 4000000 in
theorem A_X3_putRow {l : Launch} {d : Nat} (hD : 5 ≤ d) (n : Nat) {σ : az_Hp} {v0 v1 v2 v3 : Int} {r : az_Hp} (h : fz_X3_putRow n σ v0 v1 v2 v3 = some r) : az_AC l yX3_putRow cX3_putRow 8 none d [(5, v0), (9, v1), (11, v2), (15, v3)] σ (none, r) := az_AC.of mt_X3_putRow rfl rfl rfl (fun Z hZ C => A_X3_putRow_e C hD n h)
theorem dX10_print_0 : decode cX10_print 0 = .ok (.aload_n 0, 1) := by decide +kernel
theorem dX10_print_1 : decode cX10_print 1 = .ok (.getfield 82, 3) := by decide +kernel
theorem dX10_print_4 : decode cX10_print 4 = .ok (.getfield 129, 3) := by decide +kernel
theorem dX10_print_7 : decode cX10_print 7 = .ok (.ifCond .ne 9, 3) := by decide +kernel
theorem dX10_print_10 : decode cX10_print 10 = .ok (.aload_n 0, 1) := by decide +kernel
theorem dX10_print_11 : decode cX10_print 11 = .ok (.iconst 3, 1) := by decide +kernel
theorem dX10_print_12 : decode cX10_print 12 = .ok (.invokevirtual 112, 3) := by decide +kernel
theorem dX10_print_15 : decode cX10_print 15 = .ok (.ireturn, 1) := by decide +kernel
theorem dX10_print_16 : decode cX10_print 16 = .ok (.aload_n 0, 1) := by decide +kernel
theorem dX10_print_17 : decode cX10_print 17 = .ok (.getfield 105, 3) := by decide +kernel
theorem dX10_print_20 : decode cX10_print 20 = .ok (.iconst 0, 1) := by decide +kernel
theorem dX10_print_21 : decode cX10_print 21 = .ok (.putfield 216, 3) := by decide +kernel
theorem dX10_print_24 : decode cX10_print 24 = .ok (.aload_n 0, 1) := by decide +kernel
theorem dX10_print_25 : decode cX10_print 25 = .ok (.getfield 105, 3) := by decide +kernel
theorem dX10_print_28 : decode cX10_print 28 = .ok (.aload_n 0, 1) := by decide +kernel
theorem dX10_print_29 : decode cX10_print 29 = .ok (.getfield 82, 3) := by decide +kernel
theorem dX10_print_32 : decode cX10_print 32 = .ok (.aload_n 0, 1) := by decide +kernel
theorem dX10_print_33 : decode cX10_print 33 = .ok (.getfield 29, 3) := by decide +kernel
theorem dX10_print_36 : decode cX10_print 36 = .ok (.aload_n 0, 1) := by decide +kernel
theorem dX10_print_37 : decode cX10_print 37 = .ok (.getfield 98, 3) := by decide +kernel
theorem dX10_print_40 : decode cX10_print 40 = .ok (.getfield 313, 3) := by decide +kernel
theorem dX10_print_43 : decode cX10_print 43 = .ok (.invokevirtual 314, 3) := by decide +kernel
theorem dX10_print_46 : decode cX10_print 46 = .ok (.aload_n 0, 1) := by decide +kernel
theorem dX10_print_47 : decode cX10_print 47 = .ok (.aload_n 0, 1) := by decide +kernel
theorem dX10_print_48 : decode cX10_print 48 = .ok (.getfield 105, 3) := by decide +kernel
theorem dX10_print_51 : decode cX10_print 51 = .ok (.getfield 216, 3) := by decide +kernel
theorem dX10_print_54 : decode cX10_print 54 = .ok (.invokevirtual 138, 3) := by decide +kernel
theorem dX10_print_57 : decode cX10_print 57 = .ok (.ireturn, 1) := by decide +kernel
set_option maxRecDepth 10000 in
set_option maxHeartbeats 4000000 in
theorem A_X10_print_e {Z : az_Z} {d : Nat} (C : az_C Z yX10_print cX10_print 1 (some .int) d) (hD : 6 ≤ d) (n : Nat) {σ : az_Hp} {v0 : Int} {r : (Int × az_Hp)} (h : fz_X10_print n σ v0 = some r) : az_AW Z 1 0 [(12, v0)] [] σ (some (0, r.1), r.2) := by
  have hd1 : 1 ≤ d := by omega
  unfold fz_X10_print at h
  refine az_al0 (pc := 0) C rfl rfl dX10_print_0 ?_
  refine az_getR (pc := 1) (c2 := 7) C h fl_X10_82 rfl rfl dX10_print_1 (fun h => ?_)
  refine az_getI (pc := 4) C fl_X10_129 rfl dX10_print_4 ?_
  refine az_if_ne (pc := 7) (tgt := 16) C h dX10_print_7 (by decide) (fun _ h => ?_) (fun _ h => ?_)
  · refine az_al0 (pc := 16) C rfl rfl dX10_print_16 ?_
    refine az_getR (pc := 17) (c2 := 3) C h fl_X10_105 rfl rfl dX10_print_17 (fun h => ?_)
    refine az_ik0 (pc := 20) C dX10_print_20 ?_
    refine az_putI (pc := 21) C fl_X10_216 (Or.inl rfl) rfl dX10_print_21 ?_
    refine az_al0 (pc := 24) C rfl rfl dX10_print_24 ?_
    refine az_getR (pc := 25) (c2 := 3) C h fl_X10_105 rfl rfl dX10_print_25 (fun h => ?_)
    refine az_al0 (pc := 28) C rfl rfl dX10_print_28 ?_
    refine az_getR (pc := 29) (c2 := 7) C h fl_X10_82 rfl rfl dX10_print_29 (fun h => ?_)
    refine az_al0 (pc := 32) C rfl rfl dX10_print_32 ?_
    refine az_getR (pc := 33) (c2 := 9) C h fl_X10_29 rfl rfl dX10_print_33 (fun h => ?_)
    refine az_al0 (pc := 36) C rfl rfl dX10_print_36 ?_
    refine az_getR (pc := 37) (c2 := 8) C h fl_X10_98 rfl rfl dX10_print_37 (fun h => ?_)
    refine az_getR (pc := 40) (c2 := 13) C h fl_X10_313 rfl rfl dX10_print_40 (fun h => ?_)
    refine az_cV3v (pc := 43) (c := 3) C hd1 h mv_X3_putRow ml_X10_314 rfl (fun x hx => A_X3_putRow (by omega) n hx) dX10_print_43 (fun r8 h => ?_)
    refine az_al0 (pc := 46) C rfl rfl dX10_print_46 ?_
    refine az_al0 (pc := 47) C rfl rfl dX10_print_47 ?_
    refine az_getR (pc := 48) (c2 := 3) C h fl_X10_105 rfl rfl dX10_print_48 (fun h => ?_)
    refine az_getI (pc := 51) C fl_X10_216 rfl dX10_print_51 ?_
    refine az_cV1ii (pc := 54) (c := 10) C hd1 h mv_X10_give ml_X10_138 rfl (fun x hx => A_X10_give (by omega) hx) dX10_print_54 (fun r10 h => ?_)
    obtain rfl := Option.some.inj h
    exact az_ireturn (pc := 57) C dX10_print_57 rfl
  refine az_al0 (pc := 10) C rfl rfl dX10_print_10 ?_
  refine az_ik3 (pc := 11) C dX10_print_11 ?_
  refine az_cV1ii (pc := 12) (c := 10) C hd1 h mv_X10_refuse ml_X10_112 rfl (fun x hx => A_X10_refuse (by omega) hx) dX10_print_12 (fun r11 h => ?_)
  obtain rfl := Option.some.inj h
  exact az_ireturn (pc := 15) C dX10_print_15 rfl
set_option maxRecDepth 10000 in
set_option maxHeartbeats 4000000 in
theorem A_X10_print {l : Launch} {d : Nat} (hD : 6 ≤ d) (n : Nat) {σ : az_Hp} {v0 : Int} {r : (Int × az_Hp)} (h : fz_X10_print n σ v0 = some r) : az_AC l yX10_print cX10_print 1 (some .int) d [(12, v0)] σ (some (0, r.1), r.2) := az_AC.of mt_X10_print rfl rfl rfl (fun Z hZ C => A_X10_print_e C hD n h)
