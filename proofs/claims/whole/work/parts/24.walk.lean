theorem dX9_init_0 : decode cX9_init 0 = .ok (.aload_n 0, 1) := by decide +kernel
theorem dX9_init_1 : decode cX9_init 1 = .ok (.invokespecial 3, 3) := by decide +kernel
theorem dX9_init_4 : decode cX9_init 4 = .ok (.aload_n 0, 1) := by decide +kernel
theorem dX9_init_5 : decode cX9_init 5 = .ok (.iconst 0, 1) := by decide +kernel
theorem dX9_init_6 : decode cX9_init 6 = .ok (.putfield 9, 3) := by decide +kernel
theorem dX9_init_9 : decode cX9_init 9 = .ok (.aload_n 0, 1) := by decide +kernel
theorem dX9_init_10 : decode cX9_init 10 = .ok (.iconst 0, 1) := by decide +kernel
theorem dX9_init_11 : decode cX9_init 11 = .ok (.putfield 15, 3) := by decide +kernel
theorem dX9_init_14 : decode cX9_init 14 = .ok (.aload_n 0, 1) := by decide +kernel
theorem dX9_init_15 : decode cX9_init 15 = .ok (.iconst 0, 1) := by decide +kernel
theorem dX9_init_16 : decode cX9_init 16 = .ok (.putfield 18, 3) := by decide +kernel
theorem dX9_init_19 : decode cX9_init 19 = .ok (.aload_n 0, 1) := by decide +kernel
theorem dX9_init_20 : decode cX9_init 20 = .ok (.bipush 8, 2) := by decide +kernel
theorem dX9_init_22 : decode cX9_init 22 = .ok (.newarray .int, 2) := by decide +kernel
theorem dX9_init_24 : decode cX9_init 24 = .ok (.putfield 21, 3) := by decide +kernel
theorem dX9_init_27 : decode cX9_init 27 = .ok (.aload_n 0, 1) := by decide +kernel
theorem dX9_init_28 : decode cX9_init 28 = .ok (.bipush 8, 2) := by decide +kernel
theorem dX9_init_30 : decode cX9_init 30 = .ok (.newarray .int, 2) := by decide +kernel
theorem dX9_init_32 : decode cX9_init 32 = .ok (.putfield 25, 3) := by decide +kernel
theorem dX9_init_35 : decode cX9_init 35 = .ok (.aload_n 0, 1) := by decide +kernel
theorem dX9_init_36 : decode cX9_init 36 = .ok (.iconst 5, 1) := by decide +kernel
theorem dX9_init_37 : decode cX9_init 37 = .ok (.newarray .int, 2) := by decide +kernel
theorem dX9_init_39 : decode cX9_init 39 = .ok (.putfield 28, 3) := by decide +kernel
theorem dX9_init_42 : decode cX9_init 42 = .ok (.aload_n 0, 1) := by decide +kernel
theorem dX9_init_43 : decode cX9_init 43 = .ok (.iconst 5, 1) := by decide +kernel
theorem dX9_init_44 : decode cX9_init 44 = .ok (.newarray .int, 2) := by decide +kernel
theorem dX9_init_46 : decode cX9_init 46 = .ok (.putfield 31, 3) := by decide +kernel
theorem dX9_init_49 : decode cX9_init 49 = .ok (.aload_n 0, 1) := by decide +kernel
theorem dX9_init_50 : decode cX9_init 50 = .ok (.iconst 5, 1) := by decide +kernel
theorem dX9_init_51 : decode cX9_init 51 = .ok (.newarray .boolean, 2) := by decide +kernel
theorem dX9_init_53 : decode cX9_init 53 = .ok (.putfield 34, 3) := by decide +kernel
theorem dX9_init_56 : decode cX9_init 56 = .ok (.aload_n 0, 1) := by decide +kernel
theorem dX9_init_57 : decode cX9_init 57 = .ok (.iconst 5, 1) := by decide +kernel
theorem dX9_init_58 : decode cX9_init 58 = .ok (.newarray .boolean, 2) := by decide +kernel
theorem dX9_init_60 : decode cX9_init 60 = .ok (.putfield 38, 3) := by decide +kernel
theorem dX9_init_63 : decode cX9_init 63 = .ok (.aload_n 0, 1) := by decide +kernel
theorem dX9_init_64 : decode cX9_init 64 = .ok (.bipush 16, 2) := by decide +kernel
theorem dX9_init_66 : decode cX9_init 66 = .ok (.newarray .int, 2) := by decide +kernel
theorem dX9_init_68 : decode cX9_init 68 = .ok (.putfield 41, 3) := by decide +kernel
theorem dX9_init_71 : decode cX9_init 71 = .ok (.aload_n 0, 1) := by decide +kernel
theorem dX9_init_72 : decode cX9_init 72 = .ok (.bipush 16, 2) := by decide +kernel
theorem dX9_init_74 : decode cX9_init 74 = .ok (.newarray .int, 2) := by decide +kernel
theorem dX9_init_76 : decode cX9_init 76 = .ok (.putfield 44, 3) := by decide +kernel
theorem dX9_init_79 : decode cX9_init 79 = .ok (.aload_n 0, 1) := by decide +kernel
theorem dX9_init_80 : decode cX9_init 80 = .ok (.bipush 16, 2) := by decide +kernel
theorem dX9_init_82 : decode cX9_init 82 = .ok (.anewarray 47, 3) := by decide +kernel
theorem dX9_init_85 : decode cX9_init 85 = .ok (.putfield 49, 3) := by decide +kernel
theorem dX9_init_88 : decode cX9_init 88 = .ok (.aload_n 0, 1) := by decide +kernel
theorem dX9_init_89 : decode cX9_init 89 = .ok (.bipush 16, 2) := by decide +kernel
theorem dX9_init_91 : decode cX9_init 91 = .ok (.anewarray 47, 3) := by decide +kernel
theorem dX9_init_94 : decode cX9_init 94 = .ok (.putfield 53, 3) := by decide +kernel
theorem dX9_init_97 : decode cX9_init 97 = .ok (.aload_n 0, 1) := by decide +kernel
theorem dX9_init_98 : decode cX9_init 98 = .ok (.sipush 256, 3) := by decide +kernel
theorem dX9_init_101 : decode cX9_init 101 = .ok (.newarray .boolean, 2) := by decide +kernel
theorem dX9_init_103 : decode cX9_init 103 = .ok (.putfield 56, 3) := by decide +kernel
theorem dX9_init_106 : decode cX9_init 106 = .ok (.aload_n 0, 1) := by decide +kernel
theorem dX9_init_107 : decode cX9_init 107 = .ok (.iconst 5, 1) := by decide +kernel
theorem dX9_init_108 : decode cX9_init 108 = .ok (.newarray .int, 2) := by decide +kernel
theorem dX9_init_110 : decode cX9_init 110 = .ok (.putfield 59, 3) := by decide +kernel
theorem dX9_init_113 : decode cX9_init 113 = .ok (.aload_n 0, 1) := by decide +kernel
theorem dX9_init_114 : decode cX9_init 114 = .ok (.iconst 5, 1) := by decide +kernel
theorem dX9_init_115 : decode cX9_init 115 = .ok (.newarray .int, 2) := by decide +kernel
theorem dX9_init_117 : decode cX9_init 117 = .ok (.putfield 62, 3) := by decide +kernel
theorem dX9_init_120 : decode cX9_init 120 = .ok (.aload_n 0, 1) := by decide +kernel
theorem dX9_init_121 : decode cX9_init 121 = .ok (.iconst 5, 1) := by decide +kernel
theorem dX9_init_122 : decode cX9_init 122 = .ok (.newarray .int, 2) := by decide +kernel
theorem dX9_init_124 : decode cX9_init 124 = .ok (.putfield 65, 3) := by decide +kernel
theorem dX9_init_127 : decode cX9_init 127 = .ok (.iconst 0, 1) := by decide +kernel
theorem dX9_init_128 : decode cX9_init 128 = .ok (.istore_n 1, 1) := by decide +kernel
theorem dX9_init_129 : decode cX9_init 129 = .ok (.iload_n 1, 1) := by decide +kernel
theorem dX9_init_130 : decode cX9_init 130 = .ok (.bipush 16, 2) := by decide +kernel
theorem dX9_init_132 : decode cX9_init 132 = .ok (.if_icmp .ge 39, 3) := by decide +kernel
theorem dX9_init_135 : decode cX9_init 135 = .ok (.aload_n 0, 1) := by decide +kernel
theorem dX9_init_136 : decode cX9_init 136 = .ok (.getfield 49, 3) := by decide +kernel
theorem dX9_init_139 : decode cX9_init 139 = .ok (.iload_n 1, 1) := by decide +kernel
theorem dX9_init_140 : decode cX9_init 140 = .ok (.new 47, 3) := by decide +kernel
theorem dX9_init_143 : decode cX9_init 143 = .ok (.dup, 1) := by decide +kernel
theorem dX9_init_144 : decode cX9_init 144 = .ok (.bipush 16, 2) := by decide +kernel
theorem dX9_init_146 : decode cX9_init 146 = .ok (.invokespecial 68, 3) := by decide +kernel
theorem dX9_init_149 : decode cX9_init 149 = .ok (.aastore, 1) := by decide +kernel
theorem dX9_init_150 : decode cX9_init 150 = .ok (.aload_n 0, 1) := by decide +kernel
theorem dX9_init_151 : decode cX9_init 151 = .ok (.getfield 53, 3) := by decide +kernel
theorem dX9_init_154 : decode cX9_init 154 = .ok (.iload_n 1, 1) := by decide +kernel
theorem dX9_init_155 : decode cX9_init 155 = .ok (.new 47, 3) := by decide +kernel
theorem dX9_init_158 : decode cX9_init 158 = .ok (.dup, 1) := by decide +kernel
theorem dX9_init_159 : decode cX9_init 159 = .ok (.bipush 16, 2) := by decide +kernel
theorem dX9_init_161 : decode cX9_init 161 = .ok (.invokespecial 68, 3) := by decide +kernel
theorem dX9_init_164 : decode cX9_init 164 = .ok (.aastore, 1) := by decide +kernel
theorem dX9_init_165 : decode cX9_init 165 = .ok (.iinc 1 1, 3) := by decide +kernel
theorem dX9_init_168 : decode cX9_init 168 = .ok (.goto (-39), 3) := by decide +kernel
theorem dX9_init_171 : decode cX9_init 171 = .ok (.return_, 1) := by decide +kernel
set_option maxRecDepth 10000 in
set_option maxHeartbeats 4000000 in
theorem A_X9_init_129 {Z : az_Z} {d : Nat} (C : az_C Z yX9_init cX9_init 2 none d) (hD : 3 ≤ d) (n : Nat) (k : Nat) : ∀ {σ : az_Hp} {v0 v1 : Int} {r : az_Hp}, fz_X9_init_129 n k σ v0 v1 = some r → az_AW Z 2 129 [(11, v0), (0, v1)] [] σ (none, r) := by
  have hd1 : 1 ≤ d := by omega
  induction k with
  | zero => intro σ v0 v1 r h; simp [fz_X9_init_129] at h
  | succ k ih =>
    intro σ v0 v1 r h
    unfold fz_X9_init_129 at h
    refine az_il1 (pc := 129) C dX9_init_129 ?_
    refine az_bk16 (pc := 130) C dX9_init_130 ?_
    refine az_icmp_ge (pc := 132) (tgt := 171) C h dX9_init_132 (by decide) (fun _ h => ?_) (fun _ h => ?_)
    · obtain rfl := Option.some.inj h
      exact az_return (pc := 171) C dX9_init_171 rfl
    refine az_al0 (pc := 135) C rfl rfl dX9_init_135 ?_
    refine az_getR (pc := 136) (c2 := 16) C h fl_X9_49 rfl rfl dX9_init_136 (fun h => ?_)
    refine az_il1 (pc := 139) C dX9_init_139 ?_
    refine az_newc (pc := 140) C h az_cl7 rfl cl_X9_47 az_inst7 az_ini7 dX9_init_140 (fun h => ?_)
    refine az_dup (pc := 143) C rfl rfl dX9_init_143 ?_
    refine az_bk16 (pc := 144) C dX9_init_144 ?_
    refine az_cI1 (pc := 146) (c := 7) C hd1 h mi_X7_init ml_X9_68 rfl rfl (fun x hx => A_X7_init (by omega) hx) dX9_init_146 (fun r3 h => ?_)
    refine az_aastore (pc := 149) C h dX9_init_149 (fun h => ?_)
    refine az_al0 (pc := 150) C rfl rfl dX9_init_150 ?_
    refine az_getR (pc := 151) (c2 := 16) C h fl_X9_53 rfl rfl dX9_init_151 (fun h => ?_)
    refine az_il1 (pc := 154) C dX9_init_154 ?_
    refine az_newc (pc := 155) C h az_cl7 rfl cl_X9_47 az_inst7 az_ini7 dX9_init_155 (fun h => ?_)
    refine az_dup (pc := 158) C rfl rfl dX9_init_158 ?_
    refine az_bk16 (pc := 159) C dX9_init_159 ?_
    refine az_cI1 (pc := 161) (c := 7) C hd1 h mi_X7_init ml_X9_68 rfl rfl (fun x hx => A_X7_init (by omega) hx) dX9_init_161 (fun r7 h => ?_)
    refine az_aastore (pc := 164) C h dX9_init_164 (fun h => ?_)
    refine az_ii1 (pc := 165) C az_n1 rfl rfl dX9_init_165 ?_
    refine az_goto (pc := 168) (tgt := 129) C dX9_init_168 (by decide) ?_
    exact (ih h)
set_option maxRecDepth 10000 in
set_option maxHeartbeats 4000000 in
theorem A_X9_init_e {Z : az_Z} {d : Nat} (C : az_C Z yX9_init cX9_init 2 none d) (hD : 3 ≤ d) (n : Nat) {σ : az_Hp} {v0 : Int} {r : az_Hp} (h : fz_X9_init n σ v0 = some r) : az_AW Z 2 0 [(11, v0), (31, 0)] [] σ (none, r) := by
  have hd1 : 1 ≤ d := by omega
  unfold fz_X9_init at h
  refine az_al0 (pc := 0) C rfl rfl dX9_init_0 ?_
  refine az_objInit (pc := 1) C hd1 rfl ml_X9_3 az_w_obi az_w_obc rfl dX9_init_1 ?_
  refine az_al0 (pc := 4) C rfl rfl dX9_init_4 ?_
  refine az_ik0 (pc := 5) C dX9_init_5 ?_
  refine az_putI (pc := 6) C fl_X9_9 (Or.inl rfl) rfl dX9_init_6 ?_
  refine az_al0 (pc := 9) C rfl rfl dX9_init_9 ?_
  refine az_ik0 (pc := 10) C dX9_init_10 ?_
  refine az_putI (pc := 11) C fl_X9_15 (Or.inl rfl) rfl dX9_init_11 ?_
  refine az_al0 (pc := 14) C rfl rfl dX9_init_14 ?_
  refine az_ik0 (pc := 15) C dX9_init_15 ?_
  refine az_putI (pc := 16) C fl_X9_18 (Or.inl rfl) rfl dX9_init_16 ?_
  refine az_al0 (pc := 19) C rfl rfl dX9_init_19 ?_
  refine az_bk8 (pc := 20) C dX9_init_20 ?_
  refine az_newa (pc := 22) (at_ := .int) (ty := .int) C h rfl (by decide) az_ac_int dX9_init_22 (fun h => ?_)
  refine az_putR (pc := 24) (c2 := 13) C fl_X9_21 (Or.inr ⟨rfl, _, _, rfl⟩) rfl rfl rfl dX9_init_24 ?_
  refine az_al0 (pc := 27) C rfl rfl dX9_init_27 ?_
  refine az_bk8 (pc := 28) C dX9_init_28 ?_
  refine az_newa (pc := 30) (at_ := .int) (ty := .int) C h rfl (by decide) az_ac_int dX9_init_30 (fun h => ?_)
  refine az_putR (pc := 32) (c2 := 13) C fl_X9_25 (Or.inr ⟨rfl, _, _, rfl⟩) rfl rfl rfl dX9_init_32 ?_
  refine az_al0 (pc := 35) C rfl rfl dX9_init_35 ?_
  refine az_ik5 (pc := 36) C dX9_init_36 ?_
  refine az_newa (pc := 37) (at_ := .int) (ty := .int) C h rfl (by decide) az_ac_int dX9_init_37 (fun h => ?_)
  refine az_putR (pc := 39) (c2 := 13) C fl_X9_28 (Or.inr ⟨rfl, _, _, rfl⟩) rfl rfl rfl dX9_init_39 ?_
  refine az_al0 (pc := 42) C rfl rfl dX9_init_42 ?_
  refine az_ik5 (pc := 43) C dX9_init_43 ?_
  refine az_newa (pc := 44) (at_ := .int) (ty := .int) C h rfl (by decide) az_ac_int dX9_init_44 (fun h => ?_)
  refine az_putR (pc := 46) (c2 := 13) C fl_X9_31 (Or.inr ⟨rfl, _, _, rfl⟩) rfl rfl rfl dX9_init_46 ?_
  refine az_al0 (pc := 49) C rfl rfl dX9_init_49 ?_
  refine az_ik5 (pc := 50) C dX9_init_50 ?_
  refine az_newa (pc := 51) (at_ := .boolean) (ty := .boolean) C h rfl (by decide) az_ac_boolean dX9_init_51 (fun h => ?_)
  refine az_putR (pc := 53) (c2 := 15) C fl_X9_34 (Or.inr ⟨rfl, _, _, rfl⟩) rfl rfl rfl dX9_init_53 ?_
  refine az_al0 (pc := 56) C rfl rfl dX9_init_56 ?_
  refine az_ik5 (pc := 57) C dX9_init_57 ?_
  refine az_newa (pc := 58) (at_ := .boolean) (ty := .boolean) C h rfl (by decide) az_ac_boolean dX9_init_58 (fun h => ?_)
  refine az_putR (pc := 60) (c2 := 15) C fl_X9_38 (Or.inr ⟨rfl, _, _, rfl⟩) rfl rfl rfl dX9_init_60 ?_
  refine az_al0 (pc := 63) C rfl rfl dX9_init_63 ?_
  refine az_bk16 (pc := 64) C dX9_init_64 ?_
  refine az_newa (pc := 66) (at_ := .int) (ty := .int) C h rfl (by decide) az_ac_int dX9_init_66 (fun h => ?_)
  refine az_putR (pc := 68) (c2 := 13) C fl_X9_41 (Or.inr ⟨rfl, _, _, rfl⟩) rfl rfl rfl dX9_init_68 ?_
  refine az_al0 (pc := 71) C rfl rfl dX9_init_71 ?_
  refine az_bk16 (pc := 72) C dX9_init_72 ?_
  refine az_newa (pc := 74) (at_ := .int) (ty := .int) C h rfl (by decide) az_ac_int dX9_init_74 (fun h => ?_)
  refine az_putR (pc := 76) (c2 := 13) C fl_X9_44 (Or.inr ⟨rfl, _, _, rfl⟩) rfl rfl rfl dX9_init_76 ?_
  refine az_al0 (pc := 79) C rfl rfl dX9_init_79 ?_
  refine az_bk16 (pc := 80) C dX9_init_80 ?_
  refine az_newq (pc := 82) C h cl_X9_47 dX9_init_82 (fun h => ?_)
  refine az_putR (pc := 85) (c2 := 16) C fl_X9_49 (Or.inr ⟨rfl, _, _, rfl⟩) rfl rfl rfl dX9_init_85 ?_
  refine az_al0 (pc := 88) C rfl rfl dX9_init_88 ?_
  refine az_bk16 (pc := 89) C dX9_init_89 ?_
  refine az_newq (pc := 91) C h cl_X9_47 dX9_init_91 (fun h => ?_)
  refine az_putR (pc := 94) (c2 := 16) C fl_X9_53 (Or.inr ⟨rfl, _, _, rfl⟩) rfl rfl rfl dX9_init_94 ?_
  refine az_al0 (pc := 97) C rfl rfl dX9_init_97 ?_
  refine az_sk256 (pc := 98) C dX9_init_98 ?_
  refine az_newa (pc := 101) (at_ := .boolean) (ty := .boolean) C h rfl (by decide) az_ac_boolean dX9_init_101 (fun h => ?_)
  refine az_putR (pc := 103) (c2 := 15) C fl_X9_56 (Or.inr ⟨rfl, _, _, rfl⟩) rfl rfl rfl dX9_init_103 ?_
  refine az_al0 (pc := 106) C rfl rfl dX9_init_106 ?_
  refine az_ik5 (pc := 107) C dX9_init_107 ?_
  refine az_newa (pc := 108) (at_ := .int) (ty := .int) C h rfl (by decide) az_ac_int dX9_init_108 (fun h => ?_)
  refine az_putR (pc := 110) (c2 := 13) C fl_X9_59 (Or.inr ⟨rfl, _, _, rfl⟩) rfl rfl rfl dX9_init_110 ?_
  refine az_al0 (pc := 113) C rfl rfl dX9_init_113 ?_
  refine az_ik5 (pc := 114) C dX9_init_114 ?_
  refine az_newa (pc := 115) (at_ := .int) (ty := .int) C h rfl (by decide) az_ac_int dX9_init_115 (fun h => ?_)
  refine az_putR (pc := 117) (c2 := 13) C fl_X9_62 (Or.inr ⟨rfl, _, _, rfl⟩) rfl rfl rfl dX9_init_117 ?_
  refine az_al0 (pc := 120) C rfl rfl dX9_init_120 ?_
  refine az_ik5 (pc := 121) C dX9_init_121 ?_
  refine az_newa (pc := 122) (at_ := .int) (ty := .int) C h rfl (by decide) az_ac_int dX9_init_122 (fun h => ?_)
  refine az_putR (pc := 124) (c2 := 13) C fl_X9_65 (Or.inr ⟨rfl, _, _, rfl⟩) rfl rfl rfl dX9_init_124 ?_
  refine az_ik0 (pc := 127) C dX9_init_127 ?_
  refine az_is1 (pc := 128) C rfl rfl dX9_init_128 ?_
  exact (A_X9_init_129 C hD n n h)
set_option maxRecDepth 10000 in
set_option maxHeartbeats 4000000 in
theorem A_X9_init {l : Launch} {d : Nat} (hD : 3 ≤ d) (n : Nat) {σ : az_Hp} {v0 : Int} {r : az_Hp} (h : fz_X9_init n σ v0 = some r) : az_AC l yX9_init cX9_init 2 none d [(11, v0)] σ (none, r) := az_AC.of mt_X9_init rfl rfl rfl (fun Z hZ C => A_X9_init_e C hD n h)
theorem dX10_init_0 : decode cX10_init 0 = .ok (.aload_n 0, 1) := by decide +kernel
theorem dX10_init_1 : decode cX10_init 1 = .ok (.invokespecial 1, 3) := by decide +kernel
theorem dX10_init_4 : decode cX10_init 4 = .ok (.aload_n 0, 1) := by decide +kernel
theorem dX10_init_5 : decode cX10_init 5 = .ok (.sipush 900, 3) := by decide +kernel
theorem dX10_init_8 : decode cX10_init 8 = .ok (.newarray .int, 2) := by decide +kernel
theorem dX10_init_10 : decode cX10_init 10 = .ok (.putfield 9, 3) := by decide +kernel
theorem dX10_init_13 : decode cX10_init 13 = .ok (.aload_n 0, 1) := by decide +kernel
theorem dX10_init_14 : decode cX10_init 14 = .ok (.iconst 0, 1) := by decide +kernel
theorem dX10_init_15 : decode cX10_init 15 = .ok (.putfield 13, 3) := by decide +kernel
theorem dX10_init_18 : decode cX10_init 18 = .ok (.aload_n 0, 1) := by decide +kernel
theorem dX10_init_19 : decode cX10_init 19 = .ok (.iconst 0, 1) := by decide +kernel
theorem dX10_init_20 : decode cX10_init 20 = .ok (.putfield 17, 3) := by decide +kernel
theorem dX10_init_23 : decode cX10_init 23 = .ok (.aload_n 0, 1) := by decide +kernel
theorem dX10_init_24 : decode cX10_init 24 = .ok (.iconst (-1), 1) := by decide +kernel
theorem dX10_init_25 : decode cX10_init 25 = .ok (.putfield 20, 3) := by decide +kernel
theorem dX10_init_28 : decode cX10_init 28 = .ok (.aload_n 0, 1) := by decide +kernel
theorem dX10_init_29 : decode cX10_init 29 = .ok (.iconst (-1), 1) := by decide +kernel
theorem dX10_init_30 : decode cX10_init 30 = .ok (.putfield 23, 3) := by decide +kernel
theorem dX10_init_33 : decode cX10_init 33 = .ok (.aload_n 0, 1) := by decide +kernel
theorem dX10_init_34 : decode cX10_init 34 = .ok (.new 26, 3) := by decide +kernel
theorem dX10_init_37 : decode cX10_init 37 = .ok (.dup, 1) := by decide +kernel
theorem dX10_init_38 : decode cX10_init 38 = .ok (.invokespecial 28, 3) := by decide +kernel
theorem dX10_init_41 : decode cX10_init 41 = .ok (.putfield 29, 3) := by decide +kernel
theorem dX10_init_44 : decode cX10_init 44 = .ok (.aload_n 0, 1) := by decide +kernel
theorem dX10_init_45 : decode cX10_init 45 = .ok (.new 26, 3) := by decide +kernel
theorem dX10_init_48 : decode cX10_init 48 = .ok (.dup, 1) := by decide +kernel
theorem dX10_init_49 : decode cX10_init 49 = .ok (.invokespecial 28, 3) := by decide +kernel
theorem dX10_init_52 : decode cX10_init 52 = .ok (.putfield 33, 3) := by decide +kernel
theorem dX10_init_55 : decode cX10_init 55 = .ok (.aload_n 0, 1) := by decide +kernel
theorem dX10_init_56 : decode cX10_init 56 = .ok (.new 36, 3) := by decide +kernel
theorem dX10_init_59 : decode cX10_init 59 = .ok (.dup, 1) := by decide +kernel
theorem dX10_init_60 : decode cX10_init 60 = .ok (.invokespecial 38, 3) := by decide +kernel
theorem dX10_init_63 : decode cX10_init 63 = .ok (.putfield 39, 3) := by decide +kernel
theorem dX10_init_66 : decode cX10_init 66 = .ok (.aload_n 0, 1) := by decide +kernel
theorem dX10_init_67 : decode cX10_init 67 = .ok (.new 43, 3) := by decide +kernel
theorem dX10_init_70 : decode cX10_init 70 = .ok (.dup, 1) := by decide +kernel
theorem dX10_init_71 : decode cX10_init 71 = .ok (.aload_n 0, 1) := by decide +kernel
theorem dX10_init_72 : decode cX10_init 72 = .ok (.getfield 29, 3) := by decide +kernel
theorem dX10_init_75 : decode cX10_init 75 = .ok (.aload_n 0, 1) := by decide +kernel
theorem dX10_init_76 : decode cX10_init 76 = .ok (.getfield 39, 3) := by decide +kernel
theorem dX10_init_79 : decode cX10_init 79 = .ok (.invokespecial 45, 3) := by decide +kernel
theorem dX10_init_82 : decode cX10_init 82 = .ok (.putfield 48, 3) := by decide +kernel
theorem dX10_init_85 : decode cX10_init 85 = .ok (.aload_n 0, 1) := by decide +kernel
theorem dX10_init_86 : decode cX10_init 86 = .ok (.new 52, 3) := by decide +kernel
theorem dX10_init_89 : decode cX10_init 89 = .ok (.dup, 1) := by decide +kernel
theorem dX10_init_90 : decode cX10_init 90 = .ok (.invokespecial 54, 3) := by decide +kernel
theorem dX10_init_93 : decode cX10_init 93 = .ok (.putfield 55, 3) := by decide +kernel
theorem dX10_init_96 : decode cX10_init 96 = .ok (.aload_n 0, 1) := by decide +kernel
theorem dX10_init_97 : decode cX10_init 97 = .ok (.new 59, 3) := by decide +kernel
theorem dX10_init_100 : decode cX10_init 100 = .ok (.dup, 1) := by decide +kernel
theorem dX10_init_101 : decode cX10_init 101 = .ok (.aload_n 0, 1) := by decide +kernel
theorem dX10_init_102 : decode cX10_init 102 = .ok (.getfield 55, 3) := by decide +kernel
theorem dX10_init_105 : decode cX10_init 105 = .ok (.invokespecial 61, 3) := by decide +kernel
theorem dX10_init_108 : decode cX10_init 108 = .ok (.putfield 64, 3) := by decide +kernel
theorem dX10_init_111 : decode cX10_init 111 = .ok (.aload_n 0, 1) := by decide +kernel
theorem dX10_init_112 : decode cX10_init 112 = .ok (.new 68, 3) := by decide +kernel
theorem dX10_init_115 : decode cX10_init 115 = .ok (.dup, 1) := by decide +kernel
theorem dX10_init_116 : decode cX10_init 116 = .ok (.aload_n 0, 1) := by decide +kernel
theorem dX10_init_117 : decode cX10_init 117 = .ok (.getfield 55, 3) := by decide +kernel
theorem dX10_init_120 : decode cX10_init 120 = .ok (.aload_n 0, 1) := by decide +kernel
theorem dX10_init_121 : decode cX10_init 121 = .ok (.getfield 29, 3) := by decide +kernel
theorem dX10_init_124 : decode cX10_init 124 = .ok (.aload_n 0, 1) := by decide +kernel
theorem dX10_init_125 : decode cX10_init 125 = .ok (.getfield 39, 3) := by decide +kernel
theorem dX10_init_128 : decode cX10_init 128 = .ok (.invokespecial 70, 3) := by decide +kernel
theorem dX10_init_131 : decode cX10_init 131 = .ok (.putfield 73, 3) := by decide +kernel
theorem dX10_init_134 : decode cX10_init 134 = .ok (.aload_n 0, 1) := by decide +kernel
theorem dX10_init_135 : decode cX10_init 135 = .ok (.new 77, 3) := by decide +kernel
theorem dX10_init_138 : decode cX10_init 138 = .ok (.dup, 1) := by decide +kernel
theorem dX10_init_139 : decode cX10_init 139 = .ok (.bipush 60, 2) := by decide +kernel
theorem dX10_init_141 : decode cX10_init 141 = .ok (.invokespecial 79, 3) := by decide +kernel
theorem dX10_init_144 : decode cX10_init 144 = .ok (.putfield 82, 3) := by decide +kernel
theorem dX10_init_147 : decode cX10_init 147 = .ok (.aload_n 0, 1) := by decide +kernel
theorem dX10_init_148 : decode cX10_init 148 = .ok (.new 77, 3) := by decide +kernel
theorem dX10_init_151 : decode cX10_init 151 = .ok (.dup, 1) := by decide +kernel
theorem dX10_init_152 : decode cX10_init 152 = .ok (.bipush 60, 2) := by decide +kernel
theorem dX10_init_154 : decode cX10_init 154 = .ok (.invokespecial 79, 3) := by decide +kernel
theorem dX10_init_157 : decode cX10_init 157 = .ok (.putfield 86, 3) := by decide +kernel
theorem dX10_init_160 : decode cX10_init 160 = .ok (.aload_n 0, 1) := by decide +kernel
theorem dX10_init_161 : decode cX10_init 161 = .ok (.bipush 12, 2) := by decide +kernel
theorem dX10_init_163 : decode cX10_init 163 = .ok (.newarray .int, 2) := by decide +kernel
theorem dX10_init_165 : decode cX10_init 165 = .ok (.putfield 89, 3) := by decide +kernel
theorem dX10_init_168 : decode cX10_init 168 = .ok (.aload_n 0, 1) := by decide +kernel
theorem dX10_init_169 : decode cX10_init 169 = .ok (.iconst (-1), 1) := by decide +kernel
theorem dX10_init_170 : decode cX10_init 170 = .ok (.putfield 92, 3) := by decide +kernel
theorem dX10_init_173 : decode cX10_init 173 = .ok (.aload_n 0, 1) := by decide +kernel
theorem dX10_init_174 : decode cX10_init 174 = .ok (.new 95, 3) := by decide +kernel
theorem dX10_init_177 : decode cX10_init 177 = .ok (.dup, 1) := by decide +kernel
theorem dX10_init_178 : decode cX10_init 178 = .ok (.invokespecial 97, 3) := by decide +kernel
theorem dX10_init_181 : decode cX10_init 181 = .ok (.putfield 98, 3) := by decide +kernel
theorem dX10_init_184 : decode cX10_init 184 = .ok (.aload_n 0, 1) := by decide +kernel
theorem dX10_init_185 : decode cX10_init 185 = .ok (.new 102, 3) := by decide +kernel
theorem dX10_init_188 : decode cX10_init 188 = .ok (.dup, 1) := by decide +kernel
theorem dX10_init_189 : decode cX10_init 189 = .ok (.invokespecial 104, 3) := by decide +kernel
theorem dX10_init_192 : decode cX10_init 192 = .ok (.putfield 105, 3) := by decide +kernel
theorem dX10_init_195 : decode cX10_init 195 = .ok (.return_, 1) := by decide +kernel
set_option maxRecDepth 10000 in
set_option maxHeartbeats 4000000 in
theorem A_X10_init_173 {Z : az_Z} {d : Nat} (C : az_C Z yX10_init cX10_init 1 none d) (hD : 4 ≤ d) (n : Nat) {σ : az_Hp} {v0 : Int} {r : az_Hp} (h : fz_X10_init_173 n σ v0 = some r) : az_AW Z 1 173 [(12, v0)] [] σ (none, r) := by
  have hd1 : 1 ≤ d := by omega
  unfold fz_X10_init_173 at h
  refine az_al0 (pc := 173) C rfl rfl dX10_init_173 ?_
  refine az_newc (pc := 174) C h az_cl8 rfl cl_X10_95 az_inst8 az_ini8 dX10_init_174 (fun h => ?_)
  refine az_dup (pc := 177) C rfl rfl dX10_init_177 ?_
  refine az_cI0 (pc := 178) (c := 8) C hd1 h mi_X8_init ml_X10_97 rfl rfl (fun x hx => A_X8_init (by omega) n hx) dX10_init_178 (fun r2 h => ?_)
  refine az_putR (pc := 181) (c2 := 8) C fl_X10_98 (Or.inr ⟨rfl, _, _, rfl⟩) rfl rfl rfl dX10_init_181 ?_
  refine az_al0 (pc := 184) C rfl rfl dX10_init_184 ?_
  refine az_newc (pc := 185) C h az_cl3 rfl cl_X10_102 az_inst3 az_ini3 dX10_init_185 (fun h => ?_)
  refine az_dup (pc := 188) C rfl rfl dX10_init_188 ?_
  refine az_cN0 (pc := 189) (c := 3) C hd1 h mi_X3_init ml_X10_104 rfl rfl (fun x hx => A_X3_init (by omega) hx) dX10_init_189 (fun r4 h => ?_)
  refine az_putR (pc := 192) (c2 := 3) C fl_X10_105 (Or.inr ⟨rfl, _, _, rfl⟩) rfl rfl rfl dX10_init_192 ?_
  obtain rfl := Option.some.inj h
  exact az_return (pc := 195) C dX10_init_195 rfl
set_option maxRecDepth 10000 in
set_option maxHeartbeats 4000000 in
theorem A_X10_init_134 {Z : az_Z} {d : Nat} (C : az_C Z yX10_init cX10_init 1 none d) (hD : 4 ≤ d) (n : Nat) {σ : az_Hp} {v0 : Int} {r : az_Hp} (h : fz_X10_init_134 n σ v0 = some r) : az_AW Z 1 134 [(12, v0)] [] σ (none, r) := by
  have hd1 : 1 ≤ d := by omega
  unfold fz_X10_init_134 at h
  refine az_al0 (pc := 134) C rfl rfl dX10_init_134 ?_
  refine az_newc (pc := 135) C h az_cl7 rfl cl_X10_77 az_inst7 az_ini7 dX10_init_135 (fun h => ?_)
  refine az_dup (pc := 138) C rfl rfl dX10_init_138 ?_
  refine az_bk60 (pc := 139) C dX10_init_139 ?_
  refine az_cI1 (pc := 141) (c := 7) C hd1 h mi_X7_init ml_X10_79 rfl rfl (fun x hx => A_X7_init (by omega) hx) dX10_init_141 (fun r2 h => ?_)
  refine az_putR (pc := 144) (c2 := 7) C fl_X10_82 (Or.inr ⟨rfl, _, _, rfl⟩) rfl rfl rfl dX10_init_144 ?_
  refine az_al0 (pc := 147) C rfl rfl dX10_init_147 ?_
  refine az_newc (pc := 148) C h az_cl7 rfl cl_X10_77 az_inst7 az_ini7 dX10_init_148 (fun h => ?_)
  refine az_dup (pc := 151) C rfl rfl dX10_init_151 ?_
  refine az_bk60 (pc := 152) C dX10_init_152 ?_
  refine az_cI1 (pc := 154) (c := 7) C hd1 h mi_X7_init ml_X10_79 rfl rfl (fun x hx => A_X7_init (by omega) hx) dX10_init_154 (fun r4 h => ?_)
  refine az_putR (pc := 157) (c2 := 7) C fl_X10_86 (Or.inr ⟨rfl, _, _, rfl⟩) rfl rfl rfl dX10_init_157 ?_
  refine az_al0 (pc := 160) C rfl rfl dX10_init_160 ?_
  refine az_bk12 (pc := 161) C dX10_init_161 ?_
  refine az_newa (pc := 163) (at_ := .int) (ty := .int) C h rfl (by decide) az_ac_int dX10_init_163 (fun h => ?_)
  refine az_putR (pc := 165) (c2 := 13) C fl_X10_89 (Or.inr ⟨rfl, _, _, rfl⟩) rfl rfl rfl dX10_init_165 ?_
  refine az_al0 (pc := 168) C rfl rfl dX10_init_168 ?_
  refine az_ikm1 (pc := 169) C dX10_init_169 ?_
  refine az_putI (pc := 170) C fl_X10_92 (Or.inl rfl) rfl dX10_init_170 ?_
  exact (A_X10_init_173 C hD n h)
set_option maxRecDepth 10000 in
set_option maxHeartbeats 4000000 in
theorem A_X10_init_66 {Z : az_Z} {d : Nat} (C : az_C Z yX10_init cX10_init 1 none d) (hD : 4 ≤ d) (n : Nat) {σ : az_Hp} {v0 : Int} {r : az_Hp} (h : fz_X10_init_66 n σ v0 = some r) : az_AW Z 1 66 [(12, v0)] [] σ (none, r) := by
  have hd1 : 1 ≤ d := by omega
  unfold fz_X10_init_66 at h
  refine az_al0 (pc := 66) C rfl rfl dX10_init_66 ?_
  refine az_newc (pc := 67) C h az_cl4 rfl cl_X10_43 az_inst4 az_ini4 dX10_init_67 (fun h => ?_)
  refine az_dup (pc := 70) C rfl rfl dX10_init_70 ?_
  refine az_al0 (pc := 71) C rfl rfl dX10_init_71 ?_
  refine az_getR (pc := 72) (c2 := 9) C h fl_X10_29 rfl rfl dX10_init_72 (fun h => ?_)
  refine az_al0 (pc := 75) C rfl rfl dX10_init_75 ?_
  refine az_getR (pc := 76) (c2 := 6) C h fl_X10_39 rfl rfl dX10_init_76 (fun h => ?_)
  refine az_cI2 (pc := 79) (c := 4) C hd1 h mi_X4_init ml_X10_45 rfl rfl (fun x hx => A_X4_init (by omega) hx) dX10_init_79 (fun r4 h => ?_)
  refine az_putR (pc := 82) (c2 := 4) C fl_X10_48 (Or.inr ⟨rfl, _, _, rfl⟩) rfl rfl rfl dX10_init_82 ?_
  refine az_al0 (pc := 85) C rfl rfl dX10_init_85 ?_
  refine az_newc (pc := 86) C h az_cl0 rfl cl_X10_52 az_inst0 az_ini0 dX10_init_86 (fun h => ?_)
  refine az_dup (pc := 89) C rfl rfl dX10_init_89 ?_
  refine az_cN0 (pc := 90) (c := 0) C hd1 h mi_X0_init ml_X10_54 rfl rfl (fun x hx => A_X0_init (by omega) hx) dX10_init_90 (fun r6 h => ?_)
  refine az_putR (pc := 93) (c2 := 0) C fl_X10_55 (Or.inr ⟨rfl, _, _, rfl⟩) rfl rfl rfl dX10_init_93 ?_
  refine az_al0 (pc := 96) C rfl rfl dX10_init_96 ?_
  refine az_newc (pc := 97) C h az_cl1 rfl cl_X10_59 az_inst1 az_ini1 dX10_init_97 (fun h => ?_)
  refine az_dup (pc := 100) C rfl rfl dX10_init_100 ?_
  refine az_al0 (pc := 101) C rfl rfl dX10_init_101 ?_
  refine az_getR (pc := 102) (c2 := 0) C h fl_X10_55 rfl rfl dX10_init_102 (fun h => ?_)
  refine az_cI1 (pc := 105) (c := 1) C hd1 h mi_X1_init ml_X10_61 rfl rfl (fun x hx => A_X1_init (by omega) hx) dX10_init_105 (fun r9 h => ?_)
  refine az_putR (pc := 108) (c2 := 1) C fl_X10_64 (Or.inr ⟨rfl, _, _, rfl⟩) rfl rfl rfl dX10_init_108 ?_
  refine az_al0 (pc := 111) C rfl rfl dX10_init_111 ?_
  refine az_newc (pc := 112) C h az_cl5 rfl cl_X10_68 az_inst5 az_ini5 dX10_init_112 (fun h => ?_)
  refine az_dup (pc := 115) C rfl rfl dX10_init_115 ?_
  refine az_al0 (pc := 116) C rfl rfl dX10_init_116 ?_
  refine az_getR (pc := 117) (c2 := 0) C h fl_X10_55 rfl rfl dX10_init_117 (fun h => ?_)
  refine az_al0 (pc := 120) C rfl rfl dX10_init_120 ?_
  refine az_getR (pc := 121) (c2 := 9) C h fl_X10_29 rfl rfl dX10_init_121 (fun h => ?_)
  refine az_al0 (pc := 124) C rfl rfl dX10_init_124 ?_
  refine az_getR (pc := 125) (c2 := 6) C h fl_X10_39 rfl rfl dX10_init_125 (fun h => ?_)
  refine az_cI3 (pc := 128) (c := 5) C hd1 h mi_X5_init ml_X10_70 rfl rfl (fun x hx => A_X5_init (by omega) n hx) dX10_init_128 (fun r14 h => ?_)
  refine az_putR (pc := 131) (c2 := 5) C fl_X10_73 (Or.inr ⟨rfl, _, _, rfl⟩) rfl rfl rfl dX10_init_131 ?_
  exact (A_X10_init_134 C hD n h)
set_option maxRecDepth 10000 in
set_option maxHeartbeats 4000000 in
theorem A_X10_init_28 {Z : az_Z} {d : Nat} (C : az_C Z yX10_init cX10_init 1 none d) (hD : 4 ≤ d) (n : Nat) {σ : az_Hp} {v0 : Int} {r : az_Hp} (h : fz_X10_init_28 n σ v0 = some r) : az_AW Z 1 28 [(12, v0)] [] σ (none, r) := by
  have hd1 : 1 ≤ d := by omega
  unfold fz_X10_init_28 at h
  refine az_al0 (pc := 28) C rfl rfl dX10_init_28 ?_
  refine az_ikm1 (pc := 29) C dX10_init_29 ?_
  refine az_putI (pc := 30) C fl_X10_23 (Or.inl rfl) rfl dX10_init_30 ?_
  refine az_al0 (pc := 33) C rfl rfl dX10_init_33 ?_
  refine az_newc (pc := 34) C h az_cl9 rfl cl_X10_26 az_inst9 az_ini9 dX10_init_34 (fun h => ?_)
  refine az_dup (pc := 37) C rfl rfl dX10_init_37 ?_
  refine az_cI0 (pc := 38) (c := 9) C hd1 h mi_X9_init ml_X10_28 rfl rfl (fun x hx => A_X9_init (by omega) n hx) dX10_init_38 (fun r2 h => ?_)
  refine az_putR (pc := 41) (c2 := 9) C fl_X10_29 (Or.inl rfl) rfl rfl rfl dX10_init_41 ?_
  refine az_al0 (pc := 44) C rfl rfl dX10_init_44 ?_
  refine az_newc (pc := 45) C h az_cl9 rfl cl_X10_26 az_inst9 az_ini9 dX10_init_45 (fun h => ?_)
  refine az_dup (pc := 48) C rfl rfl dX10_init_48 ?_
  refine az_cI0 (pc := 49) (c := 9) C hd1 h mi_X9_init ml_X10_28 rfl rfl (fun x hx => A_X9_init (by omega) n hx) dX10_init_49 (fun r4 h => ?_)
  refine az_putR (pc := 52) (c2 := 9) C fl_X10_33 (Or.inl rfl) rfl rfl rfl dX10_init_52 ?_
  refine az_al0 (pc := 55) C rfl rfl dX10_init_55 ?_
  refine az_newc (pc := 56) C h az_cl6 rfl cl_X10_36 az_inst6 az_ini6 dX10_init_56 (fun h => ?_)
  refine az_dup (pc := 59) C rfl rfl dX10_init_59 ?_
  refine az_cI0 (pc := 60) (c := 6) C hd1 h mi_X6_init ml_X10_38 rfl rfl (fun x hx => A_X6_init (by omega) n hx) dX10_init_60 (fun r6 h => ?_)
  refine az_putR (pc := 63) (c2 := 6) C fl_X10_39 (Or.inr ⟨rfl, _, _, rfl⟩) rfl rfl rfl dX10_init_63 ?_
  exact (A_X10_init_66 C hD n h)
set_option maxRecDepth 10000 in
set_option maxHeartbeats 4000000 in
theorem A_X10_init_e {Z : az_Z} {d : Nat} (C : az_C Z yX10_init cX10_init 1 none d) (hD : 4 ≤ d) (n : Nat) {σ : az_Hp} {v0 : Int} {r : az_Hp} (h : fz_X10_init n σ v0 = some r) : az_AW Z 1 0 [(12, v0)] [] σ (none, r) := by
  have hd1 : 1 ≤ d := by omega
  unfold fz_X10_init at h
  refine az_al0 (pc := 0) C rfl rfl dX10_init_0 ?_
  refine az_objInit (pc := 1) C hd1 rfl ml_X10_1 az_w_obi az_w_obc rfl dX10_init_1 ?_
  refine az_al0 (pc := 4) C rfl rfl dX10_init_4 ?_
  refine az_sk900 (pc := 5) C dX10_init_5 ?_
  refine az_newa (pc := 8) (at_ := .int) (ty := .int) C h rfl (by decide) az_ac_int dX10_init_8 (fun h => ?_)
  refine az_putR (pc := 10) (c2 := 13) C fl_X10_9 (Or.inr ⟨rfl, _, _, rfl⟩) rfl rfl rfl dX10_init_10 ?_
  refine az_al0 (pc := 13) C rfl rfl dX10_init_13 ?_
  refine az_ik0 (pc := 14) C dX10_init_14 ?_
  refine az_putI (pc := 15) C fl_X10_13 (Or.inl rfl) rfl dX10_init_15 ?_
  refine az_al0 (pc := 18) C rfl rfl dX10_init_18 ?_
  refine az_ik0 (pc := 19) C dX10_init_19 ?_
  refine az_putI (pc := 20) C fl_X10_17 (Or.inl rfl) rfl dX10_init_20 ?_
  refine az_al0 (pc := 23) C rfl rfl dX10_init_23 ?_
  refine az_ikm1 (pc := 24) C dX10_init_24 ?_
  refine az_putI (pc := 25) C fl_X10_20 (Or.inl rfl) rfl dX10_init_25 ?_
  exact (A_X10_init_28 C hD n h)
set_option maxRecDepth 10000 in
set_option maxHeartbeats 4000000 in
theorem A_X10_init {l : Launch} {d : Nat} (hD : 4 ≤ d) (n : Nat) {σ : az_Hp} {v0 : Int} {r : az_Hp} (h : fz_X10_init n σ v0 = some r) : az_AC l yX10_init cX10_init 1 none d [(12, v0)] σ (none, r) := az_AC.of mt_X10_init rfl rfl rfl (fun Z hZ C => A_X10_init_e C hD n h)
theorem dX10_takeTape_0 : decode cX10_takeTape 0 = .ok (.aload_n 0, 1) := by decide +kernel
theorem dX10_takeTape_1 : decode cX10_takeTape 1 = .ok (.iconst 0, 1) := by decide +kernel
theorem dX10_takeTape_2 : decode cX10_takeTape 2 = .ok (.putfield 13, 3) := by decide +kernel
theorem dX10_takeTape_5 : decode cX10_takeTape 5 = .ok (.aload_n 0, 1) := by decide +kernel
theorem dX10_takeTape_6 : decode cX10_takeTape 6 = .ok (.iload_n 1, 1) := by decide +kernel
theorem dX10_takeTape_7 : decode cX10_takeTape 7 = .ok (.ifCond .eq 7, 3) := by decide +kernel
theorem dX10_takeTape_10 : decode cX10_takeTape 10 = .ok (.iconst 0, 1) := by decide +kernel
theorem dX10_takeTape_11 : decode cX10_takeTape 11 = .ok (.goto 10, 3) := by decide +kernel
theorem dX10_takeTape_14 : decode cX10_takeTape 14 = .ok (.aload_n 0, 1) := by decide +kernel
theorem dX10_takeTape_15 : decode cX10_takeTape 15 = .ok (.getfield 48, 3) := by decide +kernel
theorem dX10_takeTape_18 : decode cX10_takeTape 18 = .ok (.getfield 368, 3) := by decide +kernel
theorem dX10_takeTape_21 : decode cX10_takeTape 21 = .ok (.putfield 20, 3) := by decide +kernel
theorem dX10_takeTape_24 : decode cX10_takeTape 24 = .ok (.aload_n 0, 1) := by decide +kernel
theorem dX10_takeTape_25 : decode cX10_takeTape 25 = .ok (.iload_n 1, 1) := by decide +kernel
theorem dX10_takeTape_26 : decode cX10_takeTape 26 = .ok (.ifCond .eq 7, 3) := by decide +kernel
theorem dX10_takeTape_29 : decode cX10_takeTape 29 = .ok (.iconst (-1), 1) := by decide +kernel
theorem dX10_takeTape_30 : decode cX10_takeTape 30 = .ok (.goto 10, 3) := by decide +kernel
theorem dX10_takeTape_33 : decode cX10_takeTape 33 = .ok (.aload_n 0, 1) := by decide +kernel
theorem dX10_takeTape_34 : decode cX10_takeTape 34 = .ok (.getfield 48, 3) := by decide +kernel
theorem dX10_takeTape_37 : decode cX10_takeTape 37 = .ok (.getfield 369, 3) := by decide +kernel
theorem dX10_takeTape_40 : decode cX10_takeTape 40 = .ok (.putfield 23, 3) := by decide +kernel
theorem dX10_takeTape_43 : decode cX10_takeTape 43 = .ok (.iload_n 1, 1) := by decide +kernel
theorem dX10_takeTape_44 : decode cX10_takeTape 44 = .ok (.ireturn, 1) := by decide +kernel
set_option maxRecDepth 10000 in
set_option maxHeartbeats 4000000 in
theorem A_X10_takeTape_21 {Z : az_Z} {d : Nat} (C : az_C Z yX10_takeTape cX10_takeTape 2 (some .boolean) d) (hD : 1 ≤ d) {σ : az_Hp} {v0 v1 w0 w1 : Int} {r : (Int × az_Hp)} (h : fz_X10_takeTape_21 σ v0 v1 w0 w1 = some r) : az_AW Z 2 21 [(12, v0), (0, v1)] [(0, w1), (12, w0)] σ (some (0, r.1), r.2) := by
  have hd1 : 1 ≤ d := by omega
  unfold fz_X10_takeTape_21 at h
  refine az_putI (pc := 21) C fl_X10_20 (Or.inl rfl) rfl dX10_takeTape_21 ?_
  refine az_al0 (pc := 24) C rfl rfl dX10_takeTape_24 ?_
  refine az_il1 (pc := 25) C dX10_takeTape_25 ?_
  refine az_if_eq (pc := 26) (tgt := 33) C h dX10_takeTape_26 (by decide) (fun _ h => ?_) (fun _ h => ?_)
  · refine az_al0 (pc := 33) C rfl rfl dX10_takeTape_33 ?_
    refine az_getR (pc := 34) (c2 := 4) C h fl_X10_48 rfl rfl dX10_takeTape_34 (fun h => ?_)
    refine az_getI (pc := 37) C fl_X10_369 rfl dX10_takeTape_37 ?_
    refine az_putI (pc := 40) C fl_X10_23 (Or.inl rfl) rfl dX10_takeTape_40 ?_
    refine az_il1 (pc := 43) C dX10_takeTape_43 ?_
    obtain ⟨hz, h⟩ := az_zif h
    obtain rfl := Option.some.inj h
    exact az_zreturn (pc := 44) C hz dX10_takeTape_44 rfl
  refine az_ikm1 (pc := 29) C dX10_takeTape_29 ?_
  refine az_goto (pc := 30) (tgt := 40) C dX10_takeTape_30 (by decide) ?_
  refine az_putI (pc := 40) C fl_X10_23 (Or.inl rfl) rfl dX10_takeTape_40 ?_
  refine az_il1 (pc := 43) C dX10_takeTape_43 ?_
  obtain ⟨hz, h⟩ := az_zif h
  obtain rfl := Option.some.inj h
  exact az_zreturn (pc := 44) C hz dX10_takeTape_44 rfl
set_option maxRecDepth 10000 in
set_option maxHeartbeats 4000000 in
theorem A_X10_takeTape_e {Z : az_Z} {d : Nat} (C : az_C Z yX10_takeTape cX10_takeTape 2 (some .boolean) d) (hD : 1 ≤ d) {σ : az_Hp} {v0 v1 : Int} {r : (Int × az_Hp)} (h : fz_X10_takeTape σ v0 v1 = some r) : az_AW Z 2 0 [(12, v0), (0, v1)] [] σ (some (0, r.1), r.2) := by
  have hd1 : 1 ≤ d := by omega
  unfold fz_X10_takeTape at h
  refine az_al0 (pc := 0) C rfl rfl dX10_takeTape_0 ?_
  refine az_ik0 (pc := 1) C dX10_takeTape_1 ?_
  refine az_putI (pc := 2) C fl_X10_13 (Or.inl rfl) rfl dX10_takeTape_2 ?_
  refine az_al0 (pc := 5) C rfl rfl dX10_takeTape_5 ?_
  refine az_il1 (pc := 6) C dX10_takeTape_6 ?_
  refine az_if_eq (pc := 7) (tgt := 14) C h dX10_takeTape_7 (by decide) (fun _ h => ?_) (fun _ h => ?_)
  · refine az_al0 (pc := 14) C rfl rfl dX10_takeTape_14 ?_
    refine az_getR (pc := 15) (c2 := 4) C h fl_X10_48 rfl rfl dX10_takeTape_15 (fun h => ?_)
    refine az_getI (pc := 18) C fl_X10_368 rfl dX10_takeTape_18 ?_
    exact (A_X10_takeTape_21 C hD h)
  refine az_ik0 (pc := 10) C dX10_takeTape_10 ?_
  refine az_goto (pc := 11) (tgt := 21) C dX10_takeTape_11 (by decide) ?_
  exact (A_X10_takeTape_21 C hD h)
set_option maxRecDepth 10000 in
set_option maxHeartbeats 4000000 in
theorem A_X10_takeTape {l : Launch} {d : Nat} (hD : 1 ≤ d) {σ : az_Hp} {v0 v1 : Int} {r : (Int × az_Hp)} (h : fz_X10_takeTape σ v0 v1 = some r) : az_AC l yX10_takeTape cX10_takeTape 2 (some .boolean) d [(12, v0), (0, v1)] σ (some (0, r.1), r.2) := az_AC.of mt_X10_takeTape rfl rfl rfl (fun Z hZ C => A_X10_takeTape_e C hD h)
theorem dX7_standsOutsideFamilies_0 : decode cX7_standsOutsideFamilies 0 = .ok (.iconst 0, 1) := by decide +kernel
theorem dX7_standsOutsideFamilies_1 : decode cX7_standsOutsideFamilies 1 = .ok (.istore_n 2, 1) := by decide +kernel
theorem dX7_standsOutsideFamilies_2 : decode cX7_standsOutsideFamilies 2 = .ok (.iload_n 2, 1) := by decide +kernel
theorem dX7_standsOutsideFamilies_3 : decode cX7_standsOutsideFamilies 3 = .ok (.aload_n 0, 1) := by decide +kernel
theorem dX7_standsOutsideFamilies_4 : decode cX7_standsOutsideFamilies 4 = .ok (.getfield 9, 3) := by decide +kernel
theorem dX7_standsOutsideFamilies_7 : decode cX7_standsOutsideFamilies 7 = .ok (.if_icmp .ge 49, 3) := by decide +kernel
theorem dX7_standsOutsideFamilies_10 : decode cX7_standsOutsideFamilies 10 = .ok (.aload_n 0, 1) := by decide +kernel
theorem dX7_standsOutsideFamilies_11 : decode cX7_standsOutsideFamilies 11 = .ok (.getfield 21, 3) := by decide +kernel
theorem dX7_standsOutsideFamilies_14 : decode cX7_standsOutsideFamilies 14 = .ok (.iload_n 2, 1) := by decide +kernel
theorem dX7_standsOutsideFamilies_15 : decode cX7_standsOutsideFamilies 15 = .ok (.iaload, 1) := by decide +kernel
theorem dX7_standsOutsideFamilies_16 : decode cX7_standsOutsideFamilies 16 = .ok (.iload_n 1, 1) := by decide +kernel
theorem dX7_standsOutsideFamilies_17 : decode cX7_standsOutsideFamilies 17 = .ok (.if_icmp .ne 5, 3) := by decide +kernel
theorem dX7_standsOutsideFamilies_20 : decode cX7_standsOutsideFamilies 20 = .ok (.iconst 1, 1) := by decide +kernel
theorem dX7_standsOutsideFamilies_21 : decode cX7_standsOutsideFamilies 21 = .ok (.ireturn, 1) := by decide +kernel
theorem dX7_standsOutsideFamilies_22 : decode cX7_standsOutsideFamilies 22 = .ok (.aload_n 0, 1) := by decide +kernel
theorem dX7_standsOutsideFamilies_23 : decode cX7_standsOutsideFamilies 23 = .ok (.getfield 21, 3) := by decide +kernel
theorem dX7_standsOutsideFamilies_26 : decode cX7_standsOutsideFamilies 26 = .ok (.iload_n 2, 1) := by decide +kernel
theorem dX7_standsOutsideFamilies_27 : decode cX7_standsOutsideFamilies 27 = .ok (.iaload, 1) := by decide +kernel
theorem dX7_standsOutsideFamilies_28 : decode cX7_standsOutsideFamilies 28 = .ok (.invokestatic 43, 3) := by decide +kernel
theorem dX7_standsOutsideFamilies_31 : decode cX7_standsOutsideFamilies 31 = .ok (.iconst 2, 1) := by decide +kernel
theorem dX7_standsOutsideFamilies_32 : decode cX7_standsOutsideFamilies 32 = .ok (.if_icmp .ne 17, 3) := by decide +kernel
theorem dX7_standsOutsideFamilies_35 : decode cX7_standsOutsideFamilies 35 = .ok (.aload_n 0, 1) := by decide +kernel
theorem dX7_standsOutsideFamilies_36 : decode cX7_standsOutsideFamilies 36 = .ok (.iload_n 2, 1) := by decide +kernel
theorem dX7_standsOutsideFamilies_37 : decode cX7_standsOutsideFamilies 37 = .ok (.invokevirtual 35, 3) := by decide +kernel
theorem dX7_standsOutsideFamilies_40 : decode cX7_standsOutsideFamilies 40 = .ok (.iload_n 2, 1) := by decide +kernel
theorem dX7_standsOutsideFamilies_41 : decode cX7_standsOutsideFamilies 41 = .ok (.iconst 1, 1) := by decide +kernel
theorem dX7_standsOutsideFamilies_42 : decode cX7_standsOutsideFamilies 42 = .ok (.iadd, 1) := by decide +kernel
theorem dX7_standsOutsideFamilies_43 : decode cX7_standsOutsideFamilies 43 = .ok (.invokestatic 15, 3) := by decide +kernel
theorem dX7_standsOutsideFamilies_46 : decode cX7_standsOutsideFamilies 46 = .ok (.goto 6, 3) := by decide +kernel
theorem dX7_standsOutsideFamilies_49 : decode cX7_standsOutsideFamilies 49 = .ok (.iload_n 2, 1) := by decide +kernel
theorem dX7_standsOutsideFamilies_50 : decode cX7_standsOutsideFamilies 50 = .ok (.iconst 1, 1) := by decide +kernel
theorem dX7_standsOutsideFamilies_51 : decode cX7_standsOutsideFamilies 51 = .ok (.iadd, 1) := by decide +kernel
theorem dX7_standsOutsideFamilies_52 : decode cX7_standsOutsideFamilies 52 = .ok (.istore_n 2, 1) := by decide +kernel
theorem dX7_standsOutsideFamilies_53 : decode cX7_standsOutsideFamilies 53 = .ok (.goto (-51), 3) := by decide +kernel
theorem dX7_standsOutsideFamilies_56 : decode cX7_standsOutsideFamilies 56 = .ok (.iconst 0, 1) := by decide +kernel
theorem dX7_standsOutsideFamilies_57 : decode cX7_standsOutsideFamilies 57 = .ok (.ireturn, 1) := by decide +kernel
set_option maxRecDepth 10000 in
set_option maxHeartbeats 4000000 in
theorem A_X7_standsOutsideFamilies_2 {Z : az_Z} {d : Nat} (C : az_C Z yX7_standsOutsideFamilies cX7_standsOutsideFamilies 3 (some .boolean) d) (hD : 2 ≤ d) (n : Nat) (k : Nat) : ∀ {σ : az_Hp} {v0 v1 v2 : Int} {r : Int}, fz_X7_standsOutsideFamilies_2 n k σ v0 v1 v2 = some r → az_AW Z 3 2 [(9, v0), (0, v1), (0, v2)] [] σ (some (0, r), σ) := by
  have hd1 : 1 ≤ d := by omega
  induction k with
  | zero => intro σ v0 v1 v2 r h; simp [fz_X7_standsOutsideFamilies_2] at h
  | succ k ih =>
    intro σ v0 v1 v2 r h
    unfold fz_X7_standsOutsideFamilies_2 at h
    refine az_il2 (pc := 2) C dX7_standsOutsideFamilies_2 ?_
    refine az_al0 (pc := 3) C rfl rfl dX7_standsOutsideFamilies_3 ?_
    refine az_getI (pc := 4) C fl_X7_9 rfl dX7_standsOutsideFamilies_4 ?_
    refine az_icmp_ge (pc := 7) (tgt := 56) C h dX7_standsOutsideFamilies_7 (by decide) (fun _ h => ?_) (fun _ h => ?_)
    · refine az_ik0 (pc := 56) C dX7_standsOutsideFamilies_56 ?_
      obtain rfl := Option.some.inj h
      exact az_zreturn (pc := 57) C (by decide) dX7_standsOutsideFamilies_57 rfl
    refine az_al0 (pc := 10) C rfl rfl dX7_standsOutsideFamilies_10 ?_
    refine az_getR (pc := 11) (c2 := 13) C h fl_X7_21 rfl rfl dX7_standsOutsideFamilies_11 (fun h => ?_)
    refine az_il2 (pc := 14) C dX7_standsOutsideFamilies_14 ?_
    refine az_iaload (pc := 15) C h dX7_standsOutsideFamilies_15 (fun h => ?_)
    refine az_il1 (pc := 16) C dX7_standsOutsideFamilies_16 ?_
    refine az_icmp_ne (pc := 17) (tgt := 22) C h dX7_standsOutsideFamilies_17 (by decide) (fun _ h => ?_) (fun _ h => ?_)
    · refine az_al0 (pc := 22) C rfl rfl dX7_standsOutsideFamilies_22 ?_
      refine az_getR (pc := 23) (c2 := 13) C h fl_X7_21 rfl rfl dX7_standsOutsideFamilies_23 (fun h => ?_)
      refine az_il2 (pc := 26) C dX7_standsOutsideFamilies_26 ?_
      refine az_iaload (pc := 27) C h dX7_standsOutsideFamilies_27 (fun h => ?_)
      refine az_cS1pi (pc := 28) C hd1 h ms_X7_kind ml_X7_43 rfl (fun x hx => A_X7_kind (by omega) hx) dX7_standsOutsideFamilies_28 (fun r5 h => ?_)
      refine az_ik2 (pc := 31) C dX7_standsOutsideFamilies_31 ?_
      refine az_icmp_ne (pc := 32) (tgt := 49) C h dX7_standsOutsideFamilies_32 (by decide) (fun _ h => ?_) (fun _ h => ?_)
      · refine az_il2 (pc := 49) C dX7_standsOutsideFamilies_49 ?_
        refine az_ik1 (pc := 50) C dX7_standsOutsideFamilies_50 ?_
        refine az_iadd (pc := 51) C dX7_standsOutsideFamilies_51 ?_
        refine az_is2 (pc := 52) C rfl rfl dX7_standsOutsideFamilies_52 ?_
        refine az_goto (pc := 53) (tgt := 2) C dX7_standsOutsideFamilies_53 (by decide) ?_
        exact (ih h)
      refine az_al0 (pc := 35) C rfl rfl dX7_standsOutsideFamilies_35 ?_
      refine az_il2 (pc := 36) C dX7_standsOutsideFamilies_36 ?_
      refine az_cV1pi (pc := 37) (c := 7) C hd1 h mv_X7_end ml_X7_35 rfl (fun x hx => A_X7_end (by omega) n hx) dX7_standsOutsideFamilies_37 (fun r6 h => ?_)
      refine az_il2 (pc := 40) C dX7_standsOutsideFamilies_40 ?_
      refine az_ik1 (pc := 41) C dX7_standsOutsideFamilies_41 ?_
      refine az_iadd (pc := 42) C dX7_standsOutsideFamilies_42 ?_
      refine az_mmax (pc := 43) C hd1 ml_X7_15 az_w_maxst az_w_math az_w_maxc rfl dX7_standsOutsideFamilies_43 ?_
      refine az_goto (pc := 46) (tgt := 52) C dX7_standsOutsideFamilies_46 (by decide) ?_
      refine az_is2 (pc := 52) C rfl rfl dX7_standsOutsideFamilies_52 ?_
      refine az_goto (pc := 53) (tgt := 2) C dX7_standsOutsideFamilies_53 (by decide) ?_
      exact (ih h)
    refine az_ik1 (pc := 20) C dX7_standsOutsideFamilies_20 ?_
    obtain rfl := Option.some.inj h
    exact az_zreturn (pc := 21) C (by decide) dX7_standsOutsideFamilies_21 rfl
set_option maxRecDepth 10000 in
set_option maxHeartbeats 4000000 in
theorem A_X7_standsOutsideFamilies_e {Z : az_Z} {d : Nat} (C : az_C Z yX7_standsOutsideFamilies cX7_standsOutsideFamilies 3 (some .boolean) d) (hD : 2 ≤ d) (n : Nat) {σ : az_Hp} {v0 v1 : Int} {r : Int} (h : fz_X7_standsOutsideFamilies n σ v0 v1 = some r) : az_AW Z 3 0 [(9, v0), (0, v1), (31, 0)] [] σ (some (0, r), σ) := by
  have hd1 : 1 ≤ d := by omega
  unfold fz_X7_standsOutsideFamilies at h
  refine az_ik0 (pc := 0) C dX7_standsOutsideFamilies_0 ?_
  refine az_is2 (pc := 1) C rfl rfl dX7_standsOutsideFamilies_1 ?_
  exact (A_X7_standsOutsideFamilies_2 C hD n n h)
set_option maxRecDepth 10000 in
set_option maxHeartbeats 4000000 in
theorem A_X7_standsOutsideFamilies {l : Launch} {d : Nat} (hD : 2 ≤ d) (n : Nat) {σ : az_Hp} {v0 v1 : Int} {r : Int} (h : fz_X7_standsOutsideFamilies n σ v0 v1 = some r) : az_AC l yX7_standsOutsideFamilies cX7_standsOutsideFamilies 3 (some .boolean) d [(9, v0), (0, v1)] σ (some (0, r), σ) := az_AC.of mt_X7_standsOutsideFamilies rfl rfl rfl (fun Z hZ C => A_X7_standsOutsideFamilies_e C hD n h)
theorem dX1_badAlone_0 : decode cX1_badAlone 0 = .ok (.aload_n 1, 1) := by decide +kernel
theorem dX1_badAlone_1 : decode cX1_badAlone 1 = .ok (.getfield 48, 3) := by decide +kernel
theorem dX1_badAlone_4 : decode cX1_badAlone 4 = .ok (.iload_n 2, 1) := by decide +kernel
theorem dX1_badAlone_5 : decode cX1_badAlone 5 = .ok (.aaload, 1) := by decide +kernel
theorem dX1_badAlone_6 : decode cX1_badAlone 6 = .ok (.astore_n 3, 1) := by decide +kernel
theorem dX1_badAlone_7 : decode cX1_badAlone 7 = .ok (.aload_n 1, 1) := by decide +kernel
theorem dX1_badAlone_8 : decode cX1_badAlone 8 = .ok (.getfield 68, 3) := by decide +kernel
theorem dX1_badAlone_11 : decode cX1_badAlone 11 = .ok (.iload_n 2, 1) := by decide +kernel
theorem dX1_badAlone_12 : decode cX1_badAlone 12 = .ok (.aaload, 1) := by decide +kernel
theorem dX1_badAlone_13 : decode cX1_badAlone 13 = .ok (.astore 4, 2) := by decide +kernel
theorem dX1_badAlone_15 : decode cX1_badAlone 15 = .ok (.aload 4, 2) := by decide +kernel
theorem dX1_badAlone_17 : decode cX1_badAlone 17 = .ok (.getfield 87, 3) := by decide +kernel
theorem dX1_badAlone_20 : decode cX1_badAlone 20 = .ok (.iconst 0, 1) := by decide +kernel
theorem dX1_badAlone_21 : decode cX1_badAlone 21 = .ok (.iaload, 1) := by decide +kernel
theorem dX1_badAlone_22 : decode cX1_badAlone 22 = .ok (.invokestatic 92, 3) := by decide +kernel
theorem dX1_badAlone_25 : decode cX1_badAlone 25 = .ok (.istore 5, 2) := by decide +kernel
theorem dX1_badAlone_27 : decode cX1_badAlone 27 = .ok (.aload_n 3, 1) := by decide +kernel
theorem dX1_badAlone_28 : decode cX1_badAlone 28 = .ok (.getfield 96, 3) := by decide +kernel
theorem dX1_badAlone_31 : decode cX1_badAlone 31 = .ok (.iconst 2, 1) := by decide +kernel
theorem dX1_badAlone_32 : decode cX1_badAlone 32 = .ok (.if_icmp .ne 16, 3) := by decide +kernel
theorem dX1_badAlone_35 : decode cX1_badAlone 35 = .ok (.aload_n 3, 1) := by decide +kernel
theorem dX1_badAlone_36 : decode cX1_badAlone 36 = .ok (.getfield 87, 3) := by decide +kernel
theorem dX1_badAlone_39 : decode cX1_badAlone 39 = .ok (.iconst 1, 1) := by decide +kernel
theorem dX1_badAlone_40 : decode cX1_badAlone 40 = .ok (.iaload, 1) := by decide +kernel
theorem dX1_badAlone_41 : decode cX1_badAlone 41 = .ok (.ifCond .ge 7, 3) := by decide +kernel
theorem dX1_badAlone_44 : decode cX1_badAlone 44 = .ok (.iconst 1, 1) := by decide +kernel
theorem dX1_badAlone_45 : decode cX1_badAlone 45 = .ok (.goto 4, 3) := by decide +kernel
theorem dX1_badAlone_48 : decode cX1_badAlone 48 = .ok (.iconst 0, 1) := by decide +kernel
theorem dX1_badAlone_49 : decode cX1_badAlone 49 = .ok (.istore 6, 2) := by decide +kernel
theorem dX1_badAlone_51 : decode cX1_badAlone 51 = .ok (.iload 5, 2) := by decide +kernel
theorem dX1_badAlone_53 : decode cX1_badAlone 53 = .ok (.ifCond .ne 24, 3) := by decide +kernel
theorem dX1_badAlone_56 : decode cX1_badAlone 56 = .ok (.iload 6, 2) := by decide +kernel
theorem dX1_badAlone_58 : decode cX1_badAlone 58 = .ok (.ifCond .eq 17, 3) := by decide +kernel
theorem dX1_badAlone_61 : decode cX1_badAlone 61 = .ok (.aload_n 1, 1) := by decide +kernel
theorem dX1_badAlone_62 : decode cX1_badAlone 62 = .ok (.aload_n 1, 1) := by decide +kernel
theorem dX1_badAlone_63 : decode cX1_badAlone 63 = .ok (.getfield 24, 3) := by decide +kernel
theorem dX1_badAlone_66 : decode cX1_badAlone 66 = .ok (.iload_n 2, 1) := by decide +kernel
theorem dX1_badAlone_67 : decode cX1_badAlone 67 = .ok (.iaload, 1) := by decide +kernel
theorem dX1_badAlone_68 : decode cX1_badAlone 68 = .ok (.invokevirtual 99, 3) := by decide +kernel
theorem dX1_badAlone_71 : decode cX1_badAlone 71 = .ok (.iconst 1, 1) := by decide +kernel
theorem dX1_badAlone_72 : decode cX1_badAlone 72 = .ok (.if_icmp .eq 5, 3) := by decide +kernel
theorem dX1_badAlone_75 : decode cX1_badAlone 75 = .ok (.iconst 1, 1) := by decide +kernel
theorem dX1_badAlone_76 : decode cX1_badAlone 76 = .ok (.ireturn, 1) := by decide +kernel
theorem dX1_badAlone_77 : decode cX1_badAlone 77 = .ok (.iload 5, 2) := by decide +kernel
theorem dX1_badAlone_79 : decode cX1_badAlone 79 = .ok (.iconst 2, 1) := by decide +kernel
theorem dX1_badAlone_80 : decode cX1_badAlone 80 = .ok (.if_icmp .ne 5, 3) := by decide +kernel
theorem dX1_badAlone_83 : decode cX1_badAlone 83 = .ok (.iconst 2, 1) := by decide +kernel
theorem dX1_badAlone_84 : decode cX1_badAlone 84 = .ok (.ireturn, 1) := by decide +kernel
theorem dX1_badAlone_85 : decode cX1_badAlone 85 = .ok (.iconst 0, 1) := by decide +kernel
theorem dX1_badAlone_86 : decode cX1_badAlone 86 = .ok (.istore 7, 2) := by decide +kernel
theorem dX1_badAlone_88 : decode cX1_badAlone 88 = .ok (.iload 7, 2) := by decide +kernel
theorem dX1_badAlone_90 : decode cX1_badAlone 90 = .ok (.aload_n 1, 1) := by decide +kernel
theorem dX1_badAlone_91 : decode cX1_badAlone 91 = .ok (.getfield 102, 3) := by decide +kernel
theorem dX1_badAlone_94 : decode cX1_badAlone 94 = .ok (.iload_n 2, 1) := by decide +kernel
theorem dX1_badAlone_95 : decode cX1_badAlone 95 = .ok (.iaload, 1) := by decide +kernel
theorem dX1_badAlone_96 : decode cX1_badAlone 96 = .ok (.if_icmp .ge 23, 3) := by decide +kernel
theorem dX1_badAlone_99 : decode cX1_badAlone 99 = .ok (.aload 4, 2) := by decide +kernel
theorem dX1_badAlone_101 : decode cX1_badAlone 101 = .ok (.iload 7, 2) := by decide +kernel
theorem dX1_badAlone_103 : decode cX1_badAlone 103 = .ok (.iconst (-1), 1) := by decide +kernel
theorem dX1_badAlone_104 : decode cX1_badAlone 104 = .ok (.ixor, 1) := by decide +kernel
theorem dX1_badAlone_105 : decode cX1_badAlone 105 = .ok (.invokevirtual 105, 3) := by decide +kernel
theorem dX1_badAlone_108 : decode cX1_badAlone 108 = .ok (.ifCond .ne 5, 3) := by decide +kernel
theorem dX1_badAlone_111 : decode cX1_badAlone 111 = .ok (.iconst 3, 1) := by decide +kernel
theorem dX1_badAlone_112 : decode cX1_badAlone 112 = .ok (.ireturn, 1) := by decide +kernel
theorem dX1_badAlone_113 : decode cX1_badAlone 113 = .ok (.iinc 7 1, 3) := by decide +kernel
theorem dX1_badAlone_116 : decode cX1_badAlone 116 = .ok (.goto (-28), 3) := by decide +kernel
theorem dX1_badAlone_119 : decode cX1_badAlone 119 = .ok (.iconst 0, 1) := by decide +kernel
theorem dX1_badAlone_120 : decode cX1_badAlone 120 = .ok (.ireturn, 1) := by decide +kernel
set_option maxRecDepth 10000 in
set_option maxHeartbeats 4000000 in
theorem A_X1_badAlone_88 {Z : az_Z} {d : Nat} (C : az_C Z yX1_badAlone cX1_badAlone 8 (some .int) d) (hD : 3 ≤ d) (n : Nat) (k : Nat) : ∀ {σ : az_Hp} {v1 v2 v4 v7 : Int} {r : Int}, fz_X1_badAlone_88 n k σ v1 v2 v4 v7 = some r → az_AW Z 8 88 [(31, 0), (11, v1), (0, v2), (31, 0), (9, v4), (31, 0), (31, 0), (0, v7)] [] σ (some (0, r), σ) := by
  have hd1 : 1 ≤ d := by omega
  induction k with
  | zero => intro σ v1 v2 v4 v7 r h; simp [fz_X1_badAlone_88] at h
  | succ k ih =>
    intro σ v1 v2 v4 v7 r h
    unfold fz_X1_badAlone_88 at h
    refine az_il7 (pc := 88) C dX1_badAlone_88 ?_
    refine az_al1 (pc := 90) C rfl rfl dX1_badAlone_90 ?_
    refine az_getR (pc := 91) (c2 := 13) C h fl_X1_102 rfl rfl dX1_badAlone_91 (fun h => ?_)
    refine az_il2 (pc := 94) C dX1_badAlone_94 ?_
    refine az_iaload (pc := 95) C h dX1_badAlone_95 (fun h => ?_)
    refine az_icmp_ge (pc := 96) (tgt := 119) C h dX1_badAlone_96 (by decide) (fun _ h => ?_) (fun _ h => ?_)
    · refine az_ik0 (pc := 119) C dX1_badAlone_119 ?_
      obtain rfl := Option.some.inj h
      exact az_ireturn (pc := 120) C dX1_badAlone_120 rfl
    refine az_al4 (pc := 99) C rfl rfl dX1_badAlone_99 ?_
    refine az_il7 (pc := 101) C dX1_badAlone_101 ?_
    refine az_ikm1 (pc := 103) C dX1_badAlone_103 ?_
    refine az_ixor (pc := 104) C dX1_badAlone_104 ?_
    refine az_cV1pi (pc := 105) (c := 7) C hd1 h mv_X7_standsOutsideFamilies ml_X1_105 rfl (fun x hx => A_X7_standsOutsideFamilies (by omega) n hx) dX1_badAlone_105 (fun r3 h => ?_)
    refine az_if_ne (pc := 108) (tgt := 113) C h dX1_badAlone_108 (by decide) (fun _ h => ?_) (fun _ h => ?_)
    · refine az_ii7 (pc := 113) C az_n1 rfl rfl dX1_badAlone_113 ?_
      refine az_goto (pc := 116) (tgt := 88) C dX1_badAlone_116 (by decide) ?_
      exact (ih h)
    refine az_ik3 (pc := 111) C dX1_badAlone_111 ?_
    obtain rfl := Option.some.inj h
    exact az_ireturn (pc := 112) C dX1_badAlone_112 rfl
set_option maxRecDepth 10000 in
set_option maxHeartbeats 4000000 in
theorem A_X1_badAlone_77 {Z : az_Z} {d : Nat} (C : az_C Z yX1_badAlone cX1_badAlone 8 (some .int) d) (hD : 3 ≤ d) (n : Nat) {σ : az_Hp} {v1 v2 v4 v5 : Int} {r : Int} (h : fz_X1_badAlone_77 n σ v1 v2 v4 v5 = some r) : az_AW Z 8 77 [(31, 0), (11, v1), (0, v2), (31, 0), (9, v4), (0, v5), (31, 0), (31, 0)] [] σ (some (0, r), σ) := by
  have hd1 : 1 ≤ d := by omega
  unfold fz_X1_badAlone_77 at h
  refine az_il5 (pc := 77) C dX1_badAlone_77 ?_
  refine az_ik2 (pc := 79) C dX1_badAlone_79 ?_
  refine az_icmp_ne (pc := 80) (tgt := 85) C h dX1_badAlone_80 (by decide) (fun _ h => ?_) (fun _ h => ?_)
  · refine az_ik0 (pc := 85) C dX1_badAlone_85 ?_
    refine az_is7 (pc := 86) C rfl rfl dX1_badAlone_86 ?_
    exact (az_wkk (A_X1_badAlone_88 C hD n n h) (az_sJ (az_sE (az_sE (az_sJ (az_sE (az_sJ (az_sJ (az_sE az_sN)))))))))
  refine az_ik2 (pc := 83) C dX1_badAlone_83 ?_
  obtain rfl := Option.some.inj h
  exact az_ireturn (pc := 84) C dX1_badAlone_84 rfl
set_option maxRecDepth 10000 in
set_option maxHeartbeats 4000000 in
theorem A_X1_badAlone_49 {Z : az_Z} {d : Nat} (C : az_C Z yX1_badAlone cX1_badAlone 8 (some .int) d) (hD : 3 ≤ d) (n : Nat) {σ : az_Hp} {v1 v2 v4 v5 w0 : Int} {r : Int} (h : fz_X1_badAlone_49 n σ v1 v2 v4 v5 w0 = some r) : az_AW Z 8 49 [(31, 0), (11, v1), (0, v2), (31, 0), (9, v4), (0, v5), (31, 0), (31, 0)] [(0, w0)] σ (some (0, r), σ) := by
  have hd1 : 1 ≤ d := by omega
  unfold fz_X1_badAlone_49 at h
  refine az_is6 (pc := 49) C rfl rfl dX1_badAlone_49 ?_
  refine az_il5 (pc := 51) C dX1_badAlone_51 ?_
  refine az_if_ne (pc := 53) (tgt := 77) C h dX1_badAlone_53 (by decide) (fun _ h => ?_) (fun _ h => ?_)
  · exact (az_wkk (A_X1_badAlone_77 C hD n h) (az_sJ (az_sE (az_sE (az_sJ (az_sE (az_sE (az_sJ (az_sJ az_sN)))))))))
  refine az_il6 (pc := 56) C dX1_badAlone_56 ?_
  refine az_if_eq (pc := 58) (tgt := 75) C h dX1_badAlone_58 (by decide) (fun _ h => ?_) (fun _ h => ?_)
  · refine az_ik1 (pc := 75) C dX1_badAlone_75 ?_
    obtain rfl := Option.some.inj h
    exact az_ireturn (pc := 76) C dX1_badAlone_76 rfl
  refine az_al1 (pc := 61) C rfl rfl dX1_badAlone_61 ?_
  refine az_al1 (pc := 62) C rfl rfl dX1_badAlone_62 ?_
  refine az_getR (pc := 63) (c2 := 13) C h fl_X1_24 rfl rfl dX1_badAlone_63 (fun h => ?_)
  refine az_il2 (pc := 66) C dX1_badAlone_66 ?_
  refine az_iaload (pc := 67) C h dX1_badAlone_67 (fun h => ?_)
  refine az_cV1pi (pc := 68) (c := 9) C hd1 h mv_X9_equationsOf ml_X1_99 rfl (fun x hx => A_X9_equationsOf (by omega) n hx) dX1_badAlone_68 (fun r3 h => ?_)
  refine az_ik1 (pc := 71) C dX1_badAlone_71 ?_
  refine az_icmp_eq (pc := 72) (tgt := 77) C h dX1_badAlone_72 (by decide) (fun _ h => ?_) (fun _ h => ?_)
  · exact (az_wkk (A_X1_badAlone_77 C hD n h) (az_sJ (az_sE (az_sE (az_sJ (az_sE (az_sE (az_sJ (az_sJ az_sN)))))))))
  refine az_ik1 (pc := 75) C dX1_badAlone_75 ?_
  obtain rfl := Option.some.inj h
  exact az_ireturn (pc := 76) C dX1_badAlone_76 rfl
set_option maxRecDepth 10000 in
set_option maxHeartbeats 4000000 in
theorem A_X1_badAlone_e {Z : az_Z} {d : Nat} (C : az_C Z yX1_badAlone cX1_badAlone 8 (some .int) d) (hD : 3 ≤ d) (n : Nat) {σ : az_Hp} {v0 v1 v2 : Int} {r : Int} (h : fz_X1_badAlone n σ v0 v1 v2 = some r) : az_AW Z 8 0 [(3, v0), (11, v1), (0, v2), (31, 0), (31, 0), (31, 0), (31, 0), (31, 0)] [] σ (some (0, r), σ) := by
  have hd1 : 1 ≤ d := by omega
  unfold fz_X1_badAlone at h
  refine az_al1 (pc := 0) C rfl rfl dX1_badAlone_0 ?_
  refine az_getR (pc := 1) (c2 := 16) C h fl_X1_48 rfl rfl dX1_badAlone_1 (fun h => ?_)
  refine az_il2 (pc := 4) C dX1_badAlone_4 ?_
  refine az_aaload (pc := 5) C h dX1_badAlone_5 (fun h => ?_)
  refine az_as3 (pc := 6) C rfl rfl rfl rfl dX1_badAlone_6 ?_
  refine az_al1 (pc := 7) C rfl rfl dX1_badAlone_7 ?_
  refine az_getR (pc := 8) (c2 := 16) C h fl_X1_68 rfl rfl dX1_badAlone_8 (fun h => ?_)
  refine az_il2 (pc := 11) C dX1_badAlone_11 ?_
  refine az_aaload (pc := 12) C h dX1_badAlone_12 (fun h => ?_)
  refine az_as4 (pc := 13) C rfl rfl rfl rfl dX1_badAlone_13 ?_
  refine az_al4 (pc := 15) C rfl rfl dX1_badAlone_15 ?_
  refine az_getR (pc := 17) (c2 := 13) C h fl_X1_87 rfl rfl dX1_badAlone_17 (fun h => ?_)
  refine az_ik0 (pc := 20) C dX1_badAlone_20 ?_
  refine az_iaload (pc := 21) C h dX1_badAlone_21 (fun h => ?_)
  refine az_cS1pi (pc := 22) C hd1 h ms_X7_kind ml_X1_92 rfl (fun x hx => A_X7_kind (by omega) hx) dX1_badAlone_22 (fun r7 h => ?_)
  refine az_is5 (pc := 25) C rfl rfl dX1_badAlone_25 ?_
  refine az_al3 (pc := 27) C rfl rfl dX1_badAlone_27 ?_
  refine az_getI (pc := 28) C fl_X1_96 rfl dX1_badAlone_28 ?_
  refine az_ik2 (pc := 31) C dX1_badAlone_31 ?_
  refine az_icmp_ne (pc := 32) (tgt := 48) C h dX1_badAlone_32 (by decide) (fun _ h => ?_) (fun _ h => ?_)
  · refine az_ik0 (pc := 48) C dX1_badAlone_48 ?_
    exact (az_wkk (A_X1_badAlone_49 C hD n h) (az_sJ (az_sE (az_sE (az_sJ (az_sE (az_sE (az_sJ (az_sJ az_sN)))))))))
  refine az_al3 (pc := 35) C rfl rfl dX1_badAlone_35 ?_
  refine az_getR (pc := 36) (c2 := 13) C h fl_X1_87 rfl rfl dX1_badAlone_36 (fun h => ?_)
  refine az_ik1 (pc := 39) C dX1_badAlone_39 ?_
  refine az_iaload (pc := 40) C h dX1_badAlone_40 (fun h => ?_)
  refine az_if_ge (pc := 41) (tgt := 48) C h dX1_badAlone_41 (by decide) (fun _ h => ?_) (fun _ h => ?_)
  · refine az_ik0 (pc := 48) C dX1_badAlone_48 ?_
    exact (az_wkk (A_X1_badAlone_49 C hD n h) (az_sJ (az_sE (az_sE (az_sJ (az_sE (az_sE (az_sJ (az_sJ az_sN)))))))))
  refine az_ik1 (pc := 44) C dX1_badAlone_44 ?_
  refine az_goto (pc := 45) (tgt := 49) C dX1_badAlone_45 (by decide) ?_
  exact (az_wkk (A_X1_badAlone_49 C hD n h) (az_sJ (az_sE (az_sE (az_sJ (az_sE (az_sE (az_sJ (az_sJ az_sN)))))))))
set_option maxRecDepth 10000 in
set_option maxHeartbeats 4000000 in
theorem A_X1_badAlone {l : Launch} {d : Nat} (hD : 3 ≤ d) (n : Nat) {σ : az_Hp} {v0 v1 v2 : Int} {r : Int} (h : fz_X1_badAlone n σ v0 v1 v2 = some r) : az_AC l yX1_badAlone cX1_badAlone 8 (some .int) d [(3, v0), (11, v1), (0, v2)] σ (some (0, r), σ) := az_AC.of mt_X1_badAlone rfl rfl rfl (fun Z hZ C => A_X1_badAlone_e C hD n h)
theorem dX1_badTogether_0 : decode cX1_badTogether 0 = .ok (.aload_n 0, 1) := by decide +kernel
theorem dX1_badTogether_1 : decode cX1_badTogether 1 = .ok (.getfield 15, 3) := by decide +kernel
theorem dX1_badTogether_4 : decode cX1_badTogether 4 = .ok (.invokevirtual 43, 3) := by decide +kernel
theorem dX1_badTogether_7 : decode cX1_badTogether 7 = .ok (.aload_n 0, 1) := by decide +kernel
theorem dX1_badTogether_8 : decode cX1_badTogether 8 = .ok (.getfield 15, 3) := by decide +kernel
theorem dX1_badTogether_11 : decode cX1_badTogether 11 = .ok (.aload_n 1, 1) := by decide +kernel
theorem dX1_badTogether_12 : decode cX1_badTogether 12 = .ok (.getfield 68, 3) := by decide +kernel
theorem dX1_badTogether_15 : decode cX1_badTogether 15 = .ok (.iload_n 2, 1) := by decide +kernel
theorem dX1_badTogether_16 : decode cX1_badTogether 16 = .ok (.aaload, 1) := by decide +kernel
theorem dX1_badTogether_17 : decode cX1_badTogether 17 = .ok (.iconst 0, 1) := by decide +kernel
theorem dX1_badTogether_18 : decode cX1_badTogether 18 = .ok (.iconst 0, 1) := by decide +kernel
theorem dX1_badTogether_19 : decode cX1_badTogether 19 = .ok (.iconst 1, 1) := by decide +kernel
theorem dX1_badTogether_20 : decode cX1_badTogether 20 = .ok (.invokevirtual 52, 3) := by decide +kernel
theorem dX1_badTogether_23 : decode cX1_badTogether 23 = .ok (.istore 4, 2) := by decide +kernel
theorem dX1_badTogether_25 : decode cX1_badTogether 25 = .ok (.aload_n 0, 1) := by decide +kernel
theorem dX1_badTogether_26 : decode cX1_badTogether 26 = .ok (.getfield 15, 3) := by decide +kernel
theorem dX1_badTogether_29 : decode cX1_badTogether 29 = .ok (.aload_n 1, 1) := by decide +kernel
theorem dX1_badTogether_30 : decode cX1_badTogether 30 = .ok (.getfield 68, 3) := by decide +kernel
theorem dX1_badTogether_33 : decode cX1_badTogether 33 = .ok (.iload_n 3, 1) := by decide +kernel
theorem dX1_badTogether_34 : decode cX1_badTogether 34 = .ok (.aaload, 1) := by decide +kernel
theorem dX1_badTogether_35 : decode cX1_badTogether 35 = .ok (.iconst 0, 1) := by decide +kernel
theorem dX1_badTogether_36 : decode cX1_badTogether 36 = .ok (.iconst 1, 1) := by decide +kernel
theorem dX1_badTogether_37 : decode cX1_badTogether 37 = .ok (.iconst 1, 1) := by decide +kernel
theorem dX1_badTogether_38 : decode cX1_badTogether 38 = .ok (.invokevirtual 52, 3) := by decide +kernel
theorem dX1_badTogether_41 : decode cX1_badTogether 41 = .ok (.istore 5, 2) := by decide +kernel
theorem dX1_badTogether_43 : decode cX1_badTogether 43 = .ok (.aload_n 0, 1) := by decide +kernel
theorem dX1_badTogether_44 : decode cX1_badTogether 44 = .ok (.getfield 15, 3) := by decide +kernel
theorem dX1_badTogether_47 : decode cX1_badTogether 47 = .ok (.iload 4, 2) := by decide +kernel
theorem dX1_badTogether_49 : decode cX1_badTogether 49 = .ok (.iload 5, 2) := by decide +kernel
theorem dX1_badTogether_51 : decode cX1_badTogether 51 = .ok (.iconst 0, 1) := by decide +kernel
theorem dX1_badTogether_52 : decode cX1_badTogether 52 = .ok (.invokevirtual 56, 3) := by decide +kernel
theorem dX1_badTogether_55 : decode cX1_badTogether 55 = .ok (.ifCond .eq 13, 3) := by decide +kernel
theorem dX1_badTogether_58 : decode cX1_badTogether 58 = .ok (.aload_n 0, 1) := by decide +kernel
theorem dX1_badTogether_59 : decode cX1_badTogether 59 = .ok (.getfield 15, 3) := by decide +kernel
theorem dX1_badTogether_62 : decode cX1_badTogether 62 = .ok (.invokevirtual 60, 3) := by decide +kernel
theorem dX1_badTogether_65 : decode cX1_badTogether 65 = .ok (.ifCond .eq 5, 3) := by decide +kernel
theorem dX1_badTogether_68 : decode cX1_badTogether 68 = .ok (.iconst 0, 1) := by decide +kernel
theorem dX1_badTogether_69 : decode cX1_badTogether 69 = .ok (.ireturn, 1) := by decide +kernel
theorem dX1_badTogether_70 : decode cX1_badTogether 70 = .ok (.aload_n 0, 1) := by decide +kernel
theorem dX1_badTogether_71 : decode cX1_badTogether 71 = .ok (.getfield 15, 3) := by decide +kernel
theorem dX1_badTogether_74 : decode cX1_badTogether 74 = .ok (.aload_n 1, 1) := by decide +kernel
theorem dX1_badTogether_75 : decode cX1_badTogether 75 = .ok (.getfield 48, 3) := by decide +kernel
theorem dX1_badTogether_78 : decode cX1_badTogether 78 = .ok (.iload_n 2, 1) := by decide +kernel
theorem dX1_badTogether_79 : decode cX1_badTogether 79 = .ok (.aaload, 1) := by decide +kernel
theorem dX1_badTogether_80 : decode cX1_badTogether 80 = .ok (.iconst 0, 1) := by decide +kernel
theorem dX1_badTogether_81 : decode cX1_badTogether 81 = .ok (.iconst 0, 1) := by decide +kernel
theorem dX1_badTogether_82 : decode cX1_badTogether 82 = .ok (.iconst 0, 1) := by decide +kernel
theorem dX1_badTogether_83 : decode cX1_badTogether 83 = .ok (.invokevirtual 52, 3) := by decide +kernel
theorem dX1_badTogether_86 : decode cX1_badTogether 86 = .ok (.istore 6, 2) := by decide +kernel
theorem dX1_badTogether_88 : decode cX1_badTogether 88 = .ok (.aload_n 0, 1) := by decide +kernel
theorem dX1_badTogether_89 : decode cX1_badTogether 89 = .ok (.getfield 15, 3) := by decide +kernel
theorem dX1_badTogether_92 : decode cX1_badTogether 92 = .ok (.aload_n 1, 1) := by decide +kernel
theorem dX1_badTogether_93 : decode cX1_badTogether 93 = .ok (.getfield 48, 3) := by decide +kernel
theorem dX1_badTogether_96 : decode cX1_badTogether 96 = .ok (.iload_n 3, 1) := by decide +kernel
theorem dX1_badTogether_97 : decode cX1_badTogether 97 = .ok (.aaload, 1) := by decide +kernel
theorem dX1_badTogether_98 : decode cX1_badTogether 98 = .ok (.iconst 0, 1) := by decide +kernel
theorem dX1_badTogether_99 : decode cX1_badTogether 99 = .ok (.iconst 1, 1) := by decide +kernel
theorem dX1_badTogether_100 : decode cX1_badTogether 100 = .ok (.iconst 0, 1) := by decide +kernel
theorem dX1_badTogether_101 : decode cX1_badTogether 101 = .ok (.invokevirtual 52, 3) := by decide +kernel
theorem dX1_badTogether_104 : decode cX1_badTogether 104 = .ok (.istore 7, 2) := by decide +kernel
theorem dX1_badTogether_106 : decode cX1_badTogether 106 = .ok (.aload_n 0, 1) := by decide +kernel
theorem dX1_badTogether_107 : decode cX1_badTogether 107 = .ok (.getfield 15, 3) := by decide +kernel
theorem dX1_badTogether_110 : decode cX1_badTogether 110 = .ok (.iload 6, 2) := by decide +kernel
theorem dX1_badTogether_112 : decode cX1_badTogether 112 = .ok (.iload 7, 2) := by decide +kernel
theorem dX1_badTogether_114 : decode cX1_badTogether 114 = .ok (.iconst 1, 1) := by decide +kernel
theorem dX1_badTogether_115 : decode cX1_badTogether 115 = .ok (.invokevirtual 56, 3) := by decide +kernel
theorem dX1_badTogether_118 : decode cX1_badTogether 118 = .ok (.ifCond .ne 7, 3) := by decide +kernel
theorem dX1_badTogether_121 : decode cX1_badTogether 121 = .ok (.iconst 1, 1) := by decide +kernel
theorem dX1_badTogether_122 : decode cX1_badTogether 122 = .ok (.goto 4, 3) := by decide +kernel
theorem dX1_badTogether_125 : decode cX1_badTogether 125 = .ok (.iconst 0, 1) := by decide +kernel
theorem dX1_badTogether_126 : decode cX1_badTogether 126 = .ok (.ireturn, 1) := by decide +kernel
set_option maxRecDepth 10000 in
set_option maxHeartbeats 4000000 in
theorem A_X1_badTogether_e {Z : az_Z} {d : Nat} (C : az_C Z yX1_badTogether cX1_badTogether 8 (some .boolean) d) (hD : 4 ≤ d) (n : Nat) {σ : az_Hp} {v0 v1 v2 v3 : Int} {r : (Int × az_Hp)} (h : fz_X1_badTogether n σ v0 v1 v2 v3 = some r) : az_AW Z 8 0 [(3, v0), (11, v1), (0, v2), (0, v3), (31, 0), (31, 0), (31, 0), (31, 0)] [] σ (some (0, r.1), r.2) := by
  have hd1 : 1 ≤ d := by omega
  unfold fz_X1_badTogether at h
  refine az_al0 (pc := 0) C rfl rfl dX1_badTogether_0 ?_
  refine az_getR (pc := 1) (c2 := 0) C h fl_X1_15 rfl rfl dX1_badTogether_1 (fun h => ?_)
  refine az_cV0v (pc := 4) (c := 0) C hd1 h mv_X0_clear ml_X1_43 rfl (fun x hx => A_X0_clear (by omega) hx) dX1_badTogether_4 (fun r2 h => ?_)
  refine az_al0 (pc := 7) C rfl rfl dX1_badTogether_7 ?_
  refine az_getR (pc := 8) (c2 := 0) C h fl_X1_15 rfl rfl dX1_badTogether_8 (fun h => ?_)
  refine az_al1 (pc := 11) C rfl rfl dX1_badTogether_11 ?_
  refine az_getR (pc := 12) (c2 := 16) C h fl_X1_68 rfl rfl dX1_badTogether_12 (fun h => ?_)
  refine az_il2 (pc := 15) C dX1_badTogether_15 ?_
  refine az_aaload (pc := 16) C h dX1_badTogether_16 (fun h => ?_)
  refine az_ik0 (pc := 17) C dX1_badTogether_17 ?_
  refine az_ik0 (pc := 18) C dX1_badTogether_18 ?_
  refine az_ik1 (pc := 19) C dX1_badTogether_19 ?_
  refine az_cV4ii (pc := 20) (c := 0) C hd1 h mv_X0_lay ml_X1_52 rfl (fun x hx => A_X0_lay (by omega) n hx) dX1_badTogether_20 (fun r6 h => ?_)
  refine az_is4 (pc := 23) C rfl rfl dX1_badTogether_23 ?_
  refine az_al0 (pc := 25) C rfl rfl dX1_badTogether_25 ?_
  refine az_getR (pc := 26) (c2 := 0) C h fl_X1_15 rfl rfl dX1_badTogether_26 (fun h => ?_)
  refine az_al1 (pc := 29) C rfl rfl dX1_badTogether_29 ?_
  refine az_getR (pc := 30) (c2 := 16) C h fl_X1_68 rfl rfl dX1_badTogether_30 (fun h => ?_)
  refine az_il3 (pc := 33) C dX1_badTogether_33 ?_
  refine az_aaload (pc := 34) C h dX1_badTogether_34 (fun h => ?_)
  refine az_ik0 (pc := 35) C dX1_badTogether_35 ?_
  refine az_ik1 (pc := 36) C dX1_badTogether_36 ?_
  refine az_ik1 (pc := 37) C dX1_badTogether_37 ?_
  refine az_cV4ii (pc := 38) (c := 0) C hd1 h mv_X0_lay ml_X1_52 rfl (fun x hx => A_X0_lay (by omega) n hx) dX1_badTogether_38 (fun r10 h => ?_)
  refine az_is5 (pc := 41) C rfl rfl dX1_badTogether_41 ?_
  refine az_al0 (pc := 43) C rfl rfl dX1_badTogether_43 ?_
  refine az_getR (pc := 44) (c2 := 0) C h fl_X1_15 rfl rfl dX1_badTogether_44 (fun h => ?_)
  refine az_il4 (pc := 47) C dX1_badTogether_47 ?_
  refine az_il5 (pc := 49) C dX1_badTogether_49 ?_
  refine az_ik0 (pc := 51) C dX1_badTogether_51 ?_
  refine az_cV3ii (pc := 52) (c := 0) C hd1 h mv_X0_join ml_X1_56 rfl (fun x hx => A_X0_join (by omega) n hx) dX1_badTogether_52 (fun r12 h => ?_)
  refine az_if_eq (pc := 55) (tgt := 68) C h dX1_badTogether_55 (by decide) (fun _ h => ?_) (fun _ h => ?_)
  · refine az_ik0 (pc := 68) C dX1_badTogether_68 ?_
    obtain rfl := Option.some.inj h
    exact az_zreturn (pc := 69) C (by decide) dX1_badTogether_69 rfl
  refine az_al0 (pc := 58) C rfl rfl dX1_badTogether_58 ?_
  refine az_getR (pc := 59) (c2 := 0) C h fl_X1_15 rfl rfl dX1_badTogether_59 (fun h => ?_)
  refine az_cV0ii (pc := 62) (c := 0) C hd1 h mv_X0_hasCircle ml_X1_60 rfl (fun x hx => A_X0_hasCircle (by omega) n hx) dX1_badTogether_62 (fun r14 h => ?_)
  refine az_if_eq (pc := 65) (tgt := 70) C h dX1_badTogether_65 (by decide) (fun _ h => ?_) (fun _ h => ?_)
  · refine az_al0 (pc := 70) C rfl rfl dX1_badTogether_70 ?_
    refine az_getR (pc := 71) (c2 := 0) C h fl_X1_15 rfl rfl dX1_badTogether_71 (fun h => ?_)
    refine az_al1 (pc := 74) C rfl rfl dX1_badTogether_74 ?_
    refine az_getR (pc := 75) (c2 := 16) C h fl_X1_48 rfl rfl dX1_badTogether_75 (fun h => ?_)
    refine az_il2 (pc := 78) C dX1_badTogether_78 ?_
    refine az_aaload (pc := 79) C h dX1_badTogether_79 (fun h => ?_)
    refine az_ik0 (pc := 80) C dX1_badTogether_80 ?_
    refine az_ik0 (pc := 81) C dX1_badTogether_81 ?_
    refine az_ik0 (pc := 82) C dX1_badTogether_82 ?_
    refine az_cV4ii (pc := 83) (c := 0) C hd1 h mv_X0_lay ml_X1_52 rfl (fun x hx => A_X0_lay (by omega) n hx) dX1_badTogether_83 (fun r18 h => ?_)
    refine az_is6 (pc := 86) C rfl rfl dX1_badTogether_86 ?_
    refine az_al0 (pc := 88) C rfl rfl dX1_badTogether_88 ?_
    refine az_getR (pc := 89) (c2 := 0) C h fl_X1_15 rfl rfl dX1_badTogether_89 (fun h => ?_)
    refine az_al1 (pc := 92) C rfl rfl dX1_badTogether_92 ?_
    refine az_getR (pc := 93) (c2 := 16) C h fl_X1_48 rfl rfl dX1_badTogether_93 (fun h => ?_)
    refine az_il3 (pc := 96) C dX1_badTogether_96 ?_
    refine az_aaload (pc := 97) C h dX1_badTogether_97 (fun h => ?_)
    refine az_ik0 (pc := 98) C dX1_badTogether_98 ?_
    refine az_ik1 (pc := 99) C dX1_badTogether_99 ?_
    refine az_ik0 (pc := 100) C dX1_badTogether_100 ?_
    refine az_cV4ii (pc := 101) (c := 0) C hd1 h mv_X0_lay ml_X1_52 rfl (fun x hx => A_X0_lay (by omega) n hx) dX1_badTogether_101 (fun r22 h => ?_)
    refine az_is7 (pc := 104) C rfl rfl dX1_badTogether_104 ?_
    refine az_al0 (pc := 106) C rfl rfl dX1_badTogether_106 ?_
    refine az_getR (pc := 107) (c2 := 0) C h fl_X1_15 rfl rfl dX1_badTogether_107 (fun h => ?_)
    refine az_il6 (pc := 110) C dX1_badTogether_110 ?_
    refine az_il7 (pc := 112) C dX1_badTogether_112 ?_
    refine az_ik1 (pc := 114) C dX1_badTogether_114 ?_
    refine az_cV3ii (pc := 115) (c := 0) C hd1 h mv_X0_join ml_X1_56 rfl (fun x hx => A_X0_join (by omega) n hx) dX1_badTogether_115 (fun r24 h => ?_)
    refine az_if_ne (pc := 118) (tgt := 125) C h dX1_badTogether_118 (by decide) (fun _ h => ?_) (fun _ h => ?_)
    · refine az_ik0 (pc := 125) C dX1_badTogether_125 ?_
      obtain rfl := Option.some.inj h
      exact az_zreturn (pc := 126) C (by decide) dX1_badTogether_126 rfl
    refine az_ik1 (pc := 121) C dX1_badTogether_121 ?_
    refine az_goto (pc := 122) (tgt := 126) C dX1_badTogether_122 (by decide) ?_
    obtain rfl := Option.some.inj h
    exact az_zreturn (pc := 126) C (by decide) dX1_badTogether_126 rfl
  refine az_ik0 (pc := 68) C dX1_badTogether_68 ?_
  obtain rfl := Option.some.inj h
  exact az_zreturn (pc := 69) C (by decide) dX1_badTogether_69 rfl
set_option maxRecDepth 10000 in
set_option maxHeartbeats 4000000 in
theorem A_X1_badTogether {l : Launch} {d : Nat} (hD : 4 ≤ d) (n : Nat) {σ : az_Hp} {v0 v1 v2 v3 : Int} {r : (Int × az_Hp)} (h : fz_X1_badTogether n σ v0 v1 v2 v3 = some r) : az_AC l yX1_badTogether cX1_badTogether 8 (some .boolean) d [(3, v0), (11, v1), (0, v2), (0, v3)] σ (some (0, r.1), r.2) := az_AC.of mt_X1_badTogether rfl rfl rfl (fun Z hZ C => A_X1_badTogether_e C hD n h)
theorem dX1_judgeBackwards_0 : decode cX1_judgeBackwards 0 = .ok (.aload_n 1, 1) := by decide +kernel
theorem dX1_judgeBackwards_1 : decode cX1_judgeBackwards 1 = .ok (.getfield 71, 3) := by decide +kernel
theorem dX1_judgeBackwards_4 : decode cX1_judgeBackwards 4 = .ok (.iload_n 2, 1) := by decide +kernel
theorem dX1_judgeBackwards_5 : decode cX1_judgeBackwards 5 = .ok (.iconst 0, 1) := by decide +kernel
theorem dX1_judgeBackwards_6 : decode cX1_judgeBackwards 6 = .ok (.iastore, 1) := by decide +kernel
theorem dX1_judgeBackwards_7 : decode cX1_judgeBackwards 7 = .ok (.aload_n 1, 1) := by decide +kernel
theorem dX1_judgeBackwards_8 : decode cX1_judgeBackwards 8 = .ok (.getfield 74, 3) := by decide +kernel
theorem dX1_judgeBackwards_11 : decode cX1_judgeBackwards 11 = .ok (.iload_n 2, 1) := by decide +kernel
theorem dX1_judgeBackwards_12 : decode cX1_judgeBackwards 12 = .ok (.iconst (-1), 1) := by decide +kernel
theorem dX1_judgeBackwards_13 : decode cX1_judgeBackwards 13 = .ok (.iastore, 1) := by decide +kernel
theorem dX1_judgeBackwards_14 : decode cX1_judgeBackwards 14 = .ok (.aload_n 1, 1) := by decide +kernel
theorem dX1_judgeBackwards_15 : decode cX1_judgeBackwards 15 = .ok (.getfield 77, 3) := by decide +kernel
theorem dX1_judgeBackwards_18 : decode cX1_judgeBackwards 18 = .ok (.iload_n 2, 1) := by decide +kernel
theorem dX1_judgeBackwards_19 : decode cX1_judgeBackwards 19 = .ok (.iconst (-1), 1) := by decide +kernel
theorem dX1_judgeBackwards_20 : decode cX1_judgeBackwards 20 = .ok (.iastore, 1) := by decide +kernel
theorem dX1_judgeBackwards_21 : decode cX1_judgeBackwards 21 = .ok (.iconst 0, 1) := by decide +kernel
theorem dX1_judgeBackwards_22 : decode cX1_judgeBackwards 22 = .ok (.istore_n 3, 1) := by decide +kernel
theorem dX1_judgeBackwards_23 : decode cX1_judgeBackwards 23 = .ok (.iload_n 3, 1) := by decide +kernel
theorem dX1_judgeBackwards_24 : decode cX1_judgeBackwards 24 = .ok (.aload_n 1, 1) := by decide +kernel
theorem dX1_judgeBackwards_25 : decode cX1_judgeBackwards 25 = .ok (.getfield 19, 3) := by decide +kernel
theorem dX1_judgeBackwards_28 : decode cX1_judgeBackwards 28 = .ok (.if_icmp .ge 47, 3) := by decide +kernel
theorem dX1_judgeBackwards_31 : decode cX1_judgeBackwards 31 = .ok (.aload_n 1, 1) := by decide +kernel
theorem dX1_judgeBackwards_32 : decode cX1_judgeBackwards 32 = .ok (.getfield 71, 3) := by decide +kernel
theorem dX1_judgeBackwards_35 : decode cX1_judgeBackwards 35 = .ok (.iload_n 2, 1) := by decide +kernel
theorem dX1_judgeBackwards_36 : decode cX1_judgeBackwards 36 = .ok (.iaload, 1) := by decide +kernel
theorem dX1_judgeBackwards_37 : decode cX1_judgeBackwards 37 = .ok (.ifCond .ne 38, 3) := by decide +kernel
theorem dX1_judgeBackwards_40 : decode cX1_judgeBackwards 40 = .ok (.aload_n 1, 1) := by decide +kernel
theorem dX1_judgeBackwards_41 : decode cX1_judgeBackwards 41 = .ok (.getfield 24, 3) := by decide +kernel
theorem dX1_judgeBackwards_44 : decode cX1_judgeBackwards 44 = .ok (.iload_n 3, 1) := by decide +kernel
theorem dX1_judgeBackwards_45 : decode cX1_judgeBackwards 45 = .ok (.iaload, 1) := by decide +kernel
theorem dX1_judgeBackwards_46 : decode cX1_judgeBackwards 46 = .ok (.iload_n 2, 1) := by decide +kernel
theorem dX1_judgeBackwards_47 : decode cX1_judgeBackwards 47 = .ok (.if_icmp .ne 22, 3) := by decide +kernel
theorem dX1_judgeBackwards_50 : decode cX1_judgeBackwards 50 = .ok (.aload_n 1, 1) := by decide +kernel
theorem dX1_judgeBackwards_51 : decode cX1_judgeBackwards 51 = .ok (.getfield 71, 3) := by decide +kernel
theorem dX1_judgeBackwards_54 : decode cX1_judgeBackwards 54 = .ok (.iload_n 2, 1) := by decide +kernel
theorem dX1_judgeBackwards_55 : decode cX1_judgeBackwards 55 = .ok (.aload_n 0, 1) := by decide +kernel
theorem dX1_judgeBackwards_56 : decode cX1_judgeBackwards 56 = .ok (.aload_n 1, 1) := by decide +kernel
theorem dX1_judgeBackwards_57 : decode cX1_judgeBackwards 57 = .ok (.iload_n 3, 1) := by decide +kernel
theorem dX1_judgeBackwards_58 : decode cX1_judgeBackwards 58 = .ok (.invokevirtual 80, 3) := by decide +kernel
theorem dX1_judgeBackwards_61 : decode cX1_judgeBackwards 61 = .ok (.iastore, 1) := by decide +kernel
theorem dX1_judgeBackwards_62 : decode cX1_judgeBackwards 62 = .ok (.aload_n 1, 1) := by decide +kernel
theorem dX1_judgeBackwards_63 : decode cX1_judgeBackwards 63 = .ok (.getfield 74, 3) := by decide +kernel
theorem dX1_judgeBackwards_66 : decode cX1_judgeBackwards 66 = .ok (.iload_n 2, 1) := by decide +kernel
theorem dX1_judgeBackwards_67 : decode cX1_judgeBackwards 67 = .ok (.iload_n 3, 1) := by decide +kernel
theorem dX1_judgeBackwards_68 : decode cX1_judgeBackwards 68 = .ok (.iastore, 1) := by decide +kernel
theorem dX1_judgeBackwards_69 : decode cX1_judgeBackwards 69 = .ok (.iinc 3 1, 3) := by decide +kernel
theorem dX1_judgeBackwards_72 : decode cX1_judgeBackwards 72 = .ok (.goto (-49), 3) := by decide +kernel
theorem dX1_judgeBackwards_75 : decode cX1_judgeBackwards 75 = .ok (.iconst 0, 1) := by decide +kernel
theorem dX1_judgeBackwards_76 : decode cX1_judgeBackwards 76 = .ok (.istore_n 3, 1) := by decide +kernel
theorem dX1_judgeBackwards_77 : decode cX1_judgeBackwards 77 = .ok (.iload_n 3, 1) := by decide +kernel
theorem dX1_judgeBackwards_78 : decode cX1_judgeBackwards 78 = .ok (.aload_n 1, 1) := by decide +kernel
theorem dX1_judgeBackwards_79 : decode cX1_judgeBackwards 79 = .ok (.getfield 19, 3) := by decide +kernel
theorem dX1_judgeBackwards_82 : decode cX1_judgeBackwards 82 = .ok (.if_icmp .ge 101, 3) := by decide +kernel
theorem dX1_judgeBackwards_85 : decode cX1_judgeBackwards 85 = .ok (.aload_n 1, 1) := by decide +kernel
theorem dX1_judgeBackwards_86 : decode cX1_judgeBackwards 86 = .ok (.getfield 71, 3) := by decide +kernel
theorem dX1_judgeBackwards_89 : decode cX1_judgeBackwards 89 = .ok (.iload_n 2, 1) := by decide +kernel
theorem dX1_judgeBackwards_90 : decode cX1_judgeBackwards 90 = .ok (.iaload, 1) := by decide +kernel
theorem dX1_judgeBackwards_91 : decode cX1_judgeBackwards 91 = .ok (.ifCond .ne 92, 3) := by decide +kernel
theorem dX1_judgeBackwards_94 : decode cX1_judgeBackwards 94 = .ok (.iload_n 3, 1) := by decide +kernel
theorem dX1_judgeBackwards_95 : decode cX1_judgeBackwards 95 = .ok (.iconst 1, 1) := by decide +kernel
theorem dX1_judgeBackwards_96 : decode cX1_judgeBackwards 96 = .ok (.iadd, 1) := by decide +kernel
theorem dX1_judgeBackwards_97 : decode cX1_judgeBackwards 97 = .ok (.istore 4, 2) := by decide +kernel
theorem dX1_judgeBackwards_99 : decode cX1_judgeBackwards 99 = .ok (.iload 4, 2) := by decide +kernel
theorem dX1_judgeBackwards_101 : decode cX1_judgeBackwards 101 = .ok (.aload_n 1, 1) := by decide +kernel
theorem dX1_judgeBackwards_102 : decode cX1_judgeBackwards 102 = .ok (.getfield 19, 3) := by decide +kernel
theorem dX1_judgeBackwards_105 : decode cX1_judgeBackwards 105 = .ok (.if_icmp .ge 72, 3) := by decide +kernel
theorem dX1_judgeBackwards_108 : decode cX1_judgeBackwards 108 = .ok (.aload_n 1, 1) := by decide +kernel
theorem dX1_judgeBackwards_109 : decode cX1_judgeBackwards 109 = .ok (.getfield 71, 3) := by decide +kernel
theorem dX1_judgeBackwards_112 : decode cX1_judgeBackwards 112 = .ok (.iload_n 2, 1) := by decide +kernel
theorem dX1_judgeBackwards_113 : decode cX1_judgeBackwards 113 = .ok (.iaload, 1) := by decide +kernel
theorem dX1_judgeBackwards_114 : decode cX1_judgeBackwards 114 = .ok (.ifCond .ne 63, 3) := by decide +kernel
theorem dX1_judgeBackwards_117 : decode cX1_judgeBackwards 117 = .ok (.aload_n 1, 1) := by decide +kernel
theorem dX1_judgeBackwards_118 : decode cX1_judgeBackwards 118 = .ok (.getfield 24, 3) := by decide +kernel
theorem dX1_judgeBackwards_121 : decode cX1_judgeBackwards 121 = .ok (.iload_n 3, 1) := by decide +kernel
theorem dX1_judgeBackwards_122 : decode cX1_judgeBackwards 122 = .ok (.iaload, 1) := by decide +kernel
theorem dX1_judgeBackwards_123 : decode cX1_judgeBackwards 123 = .ok (.iload_n 2, 1) := by decide +kernel
theorem dX1_judgeBackwards_124 : decode cX1_judgeBackwards 124 = .ok (.if_icmp .ne 47, 3) := by decide +kernel
theorem dX1_judgeBackwards_127 : decode cX1_judgeBackwards 127 = .ok (.aload_n 1, 1) := by decide +kernel
theorem dX1_judgeBackwards_128 : decode cX1_judgeBackwards 128 = .ok (.getfield 24, 3) := by decide +kernel
theorem dX1_judgeBackwards_131 : decode cX1_judgeBackwards 131 = .ok (.iload 4, 2) := by decide +kernel
theorem dX1_judgeBackwards_133 : decode cX1_judgeBackwards 133 = .ok (.iaload, 1) := by decide +kernel
theorem dX1_judgeBackwards_134 : decode cX1_judgeBackwards 134 = .ok (.iload_n 2, 1) := by decide +kernel
theorem dX1_judgeBackwards_135 : decode cX1_judgeBackwards 135 = .ok (.if_icmp .ne 36, 3) := by decide +kernel
theorem dX1_judgeBackwards_138 : decode cX1_judgeBackwards 138 = .ok (.aload_n 0, 1) := by decide +kernel
theorem dX1_judgeBackwards_139 : decode cX1_judgeBackwards 139 = .ok (.aload_n 1, 1) := by decide +kernel
theorem dX1_judgeBackwards_140 : decode cX1_judgeBackwards 140 = .ok (.iload_n 3, 1) := by decide +kernel
theorem dX1_judgeBackwards_141 : decode cX1_judgeBackwards 141 = .ok (.iload 4, 2) := by decide +kernel
theorem dX1_judgeBackwards_143 : decode cX1_judgeBackwards 143 = .ok (.invokevirtual 84, 3) := by decide +kernel
theorem dX1_judgeBackwards_146 : decode cX1_judgeBackwards 146 = .ok (.ifCond .eq 25, 3) := by decide +kernel
theorem dX1_judgeBackwards_149 : decode cX1_judgeBackwards 149 = .ok (.aload_n 1, 1) := by decide +kernel
theorem dX1_judgeBackwards_150 : decode cX1_judgeBackwards 150 = .ok (.getfield 71, 3) := by decide +kernel
theorem dX1_judgeBackwards_153 : decode cX1_judgeBackwards 153 = .ok (.iload_n 2, 1) := by decide +kernel
theorem dX1_judgeBackwards_154 : decode cX1_judgeBackwards 154 = .ok (.iconst 4, 1) := by decide +kernel
theorem dX1_judgeBackwards_155 : decode cX1_judgeBackwards 155 = .ok (.iastore, 1) := by decide +kernel
theorem dX1_judgeBackwards_156 : decode cX1_judgeBackwards 156 = .ok (.aload_n 1, 1) := by decide +kernel
theorem dX1_judgeBackwards_157 : decode cX1_judgeBackwards 157 = .ok (.getfield 74, 3) := by decide +kernel
theorem dX1_judgeBackwards_160 : decode cX1_judgeBackwards 160 = .ok (.iload_n 2, 1) := by decide +kernel
theorem dX1_judgeBackwards_161 : decode cX1_judgeBackwards 161 = .ok (.iload_n 3, 1) := by decide +kernel
theorem dX1_judgeBackwards_162 : decode cX1_judgeBackwards 162 = .ok (.iastore, 1) := by decide +kernel
theorem dX1_judgeBackwards_163 : decode cX1_judgeBackwards 163 = .ok (.aload_n 1, 1) := by decide +kernel
theorem dX1_judgeBackwards_164 : decode cX1_judgeBackwards 164 = .ok (.getfield 77, 3) := by decide +kernel
theorem dX1_judgeBackwards_167 : decode cX1_judgeBackwards 167 = .ok (.iload_n 2, 1) := by decide +kernel
theorem dX1_judgeBackwards_168 : decode cX1_judgeBackwards 168 = .ok (.iload 4, 2) := by decide +kernel
theorem dX1_judgeBackwards_170 : decode cX1_judgeBackwards 170 = .ok (.iastore, 1) := by decide +kernel
theorem dX1_judgeBackwards_171 : decode cX1_judgeBackwards 171 = .ok (.iinc 4 1, 3) := by decide +kernel
theorem dX1_judgeBackwards_174 : decode cX1_judgeBackwards 174 = .ok (.goto (-75), 3) := by decide +kernel
theorem dX1_judgeBackwards_177 : decode cX1_judgeBackwards 177 = .ok (.iinc 3 1, 3) := by decide +kernel
theorem dX1_judgeBackwards_180 : decode cX1_judgeBackwards 180 = .ok (.goto (-103), 3) := by decide +kernel
theorem dX1_judgeBackwards_183 : decode cX1_judgeBackwards 183 = .ok (.return_, 1) := by decide +kernel
set_option maxRecDepth 10000 in
set_option maxHeartbeats 4000000 in
theorem A_X1_judgeBackwards_99 {Z : az_Z} {d : Nat} (C : az_C Z yX1_judgeBackwards cX1_judgeBackwards 5 none d) (hD : 5 ≤ d) (n : Nat) {k77 : az_Hp → Int → Int → Int → Int → Option az_Hp} (hk77 : ∀ {σ : az_Hp} {v0 v1 v2 v3 : Int} {r : az_Hp}, k77 σ v0 v1 v2 v3 = some r → az_AW Z 5 77 [(3, v0), (11, v1), (0, v2), (0, v3), (31, 0)] [] σ (none, r)) (k : Nat) : ∀ {σ : az_Hp} {v0 v1 v2 v3 v4 : Int} {r : az_Hp}, fz_X1_judgeBackwards_99 n k77 k σ v0 v1 v2 v3 v4 = some r → az_AW Z 5 99 [(3, v0), (11, v1), (0, v2), (0, v3), (0, v4)] [] σ (none, r) := by
  have hd1 : 1 ≤ d := by omega
  induction k with
  | zero => intro σ v0 v1 v2 v3 v4 r h; simp [fz_X1_judgeBackwards_99] at h
  | succ k ih =>
    intro σ v0 v1 v2 v3 v4 r h
    unfold fz_X1_judgeBackwards_99 at h
    refine az_il4 (pc := 99) C dX1_judgeBackwards_99 ?_
    refine az_al1 (pc := 101) C rfl rfl dX1_judgeBackwards_101 ?_
    refine az_getI (pc := 102) C fl_X1_19 rfl dX1_judgeBackwards_102 ?_
    refine az_icmp_ge (pc := 105) (tgt := 177) C h dX1_judgeBackwards_105 (by decide) (fun _ h => ?_) (fun _ h => ?_)
    · refine az_ii3 (pc := 177) C az_n1 rfl rfl dX1_judgeBackwards_177 ?_
      refine az_goto (pc := 180) (tgt := 77) C dX1_judgeBackwards_180 (by decide) ?_
      exact (az_wkk (hk77 h) (az_sE (az_sE (az_sE (az_sE (az_sJ az_sN))))))
    refine az_al1 (pc := 108) C rfl rfl dX1_judgeBackwards_108 ?_
    refine az_getR (pc := 109) (c2 := 13) C h fl_X1_71 rfl rfl dX1_judgeBackwards_109 (fun h => ?_)
    refine az_il2 (pc := 112) C dX1_judgeBackwards_112 ?_
    refine az_iaload (pc := 113) C h dX1_judgeBackwards_113 (fun h => ?_)
    refine az_if_ne (pc := 114) (tgt := 177) C h dX1_judgeBackwards_114 (by decide) (fun _ h => ?_) (fun _ h => ?_)
    · refine az_ii3 (pc := 177) C az_n1 rfl rfl dX1_judgeBackwards_177 ?_
      refine az_goto (pc := 180) (tgt := 77) C dX1_judgeBackwards_180 (by decide) ?_
      exact (az_wkk (hk77 h) (az_sE (az_sE (az_sE (az_sE (az_sJ az_sN))))))
    refine az_al1 (pc := 117) C rfl rfl dX1_judgeBackwards_117 ?_
    refine az_getR (pc := 118) (c2 := 13) C h fl_X1_24 rfl rfl dX1_judgeBackwards_118 (fun h => ?_)
    refine az_il3 (pc := 121) C dX1_judgeBackwards_121 ?_
    refine az_iaload (pc := 122) C h dX1_judgeBackwards_122 (fun h => ?_)
    refine az_il2 (pc := 123) C dX1_judgeBackwards_123 ?_
    refine az_icmp_ne (pc := 124) (tgt := 171) C h dX1_judgeBackwards_124 (by decide) (fun _ h => ?_) (fun _ h => ?_)
    · refine az_ii4 (pc := 171) C az_n1 rfl rfl dX1_judgeBackwards_171 ?_
      refine az_goto (pc := 174) (tgt := 99) C dX1_judgeBackwards_174 (by decide) ?_
      exact (ih h)
    refine az_al1 (pc := 127) C rfl rfl dX1_judgeBackwards_127 ?_
    refine az_getR (pc := 128) (c2 := 13) C h fl_X1_24 rfl rfl dX1_judgeBackwards_128 (fun h => ?_)
    refine az_il4 (pc := 131) C dX1_judgeBackwards_131 ?_
    refine az_iaload (pc := 133) C h dX1_judgeBackwards_133 (fun h => ?_)
    refine az_il2 (pc := 134) C dX1_judgeBackwards_134 ?_
    refine az_icmp_ne (pc := 135) (tgt := 171) C h dX1_judgeBackwards_135 (by decide) (fun _ h => ?_) (fun _ h => ?_)
    · refine az_ii4 (pc := 171) C az_n1 rfl rfl dX1_judgeBackwards_171 ?_
      refine az_goto (pc := 174) (tgt := 99) C dX1_judgeBackwards_174 (by decide) ?_
      exact (ih h)
    refine az_al0 (pc := 138) C rfl rfl dX1_judgeBackwards_138 ?_
    refine az_al1 (pc := 139) C rfl rfl dX1_judgeBackwards_139 ?_
    refine az_il3 (pc := 140) C dX1_judgeBackwards_140 ?_
    refine az_il4 (pc := 141) C dX1_judgeBackwards_141 ?_
    refine az_cV3ii (pc := 143) (c := 1) C hd1 h mv_X1_badTogether ml_X1_84 rfl (fun x hx => A_X1_badTogether (by omega) n hx) dX1_judgeBackwards_143 (fun r7 h => ?_)
    refine az_if_eq (pc := 146) (tgt := 171) C h dX1_judgeBackwards_146 (by decide) (fun _ h => ?_) (fun _ h => ?_)
    · refine az_ii4 (pc := 171) C az_n1 rfl rfl dX1_judgeBackwards_171 ?_
      refine az_goto (pc := 174) (tgt := 99) C dX1_judgeBackwards_174 (by decide) ?_
      exact (ih h)
    refine az_al1 (pc := 149) C rfl rfl dX1_judgeBackwards_149 ?_
    refine az_getR (pc := 150) (c2 := 13) C h fl_X1_71 rfl rfl dX1_judgeBackwards_150 (fun h => ?_)
    refine az_il2 (pc := 153) C dX1_judgeBackwards_153 ?_
    refine az_ik4 (pc := 154) C dX1_judgeBackwards_154 ?_
    refine az_iastore (pc := 155) C h dX1_judgeBackwards_155 (fun h => ?_)
    refine az_al1 (pc := 156) C rfl rfl dX1_judgeBackwards_156 ?_
    refine az_getR (pc := 157) (c2 := 13) C h fl_X1_74 rfl rfl dX1_judgeBackwards_157 (fun h => ?_)
    refine az_il2 (pc := 160) C dX1_judgeBackwards_160 ?_
    refine az_il3 (pc := 161) C dX1_judgeBackwards_161 ?_
    refine az_iastore (pc := 162) C h dX1_judgeBackwards_162 (fun h => ?_)
    refine az_al1 (pc := 163) C rfl rfl dX1_judgeBackwards_163 ?_
    refine az_getR (pc := 164) (c2 := 13) C h fl_X1_77 rfl rfl dX1_judgeBackwards_164 (fun h => ?_)
    refine az_il2 (pc := 167) C dX1_judgeBackwards_167 ?_
    refine az_il4 (pc := 168) C dX1_judgeBackwards_168 ?_
    refine az_iastore (pc := 170) C h dX1_judgeBackwards_170 (fun h => ?_)
    refine az_ii4 (pc := 171) C az_n1 rfl rfl dX1_judgeBackwards_171 ?_
    refine az_goto (pc := 174) (tgt := 99) C dX1_judgeBackwards_174 (by decide) ?_
    exact (ih h)
set_option maxRecDepth 10000 in
set_option maxHeartbeats 4000000 in
theorem A_X1_judgeBackwards_77 {Z : az_Z} {d : Nat} (C : az_C Z yX1_judgeBackwards cX1_judgeBackwards 5 none d) (hD : 5 ≤ d) (n : Nat) (k : Nat) : ∀ {σ : az_Hp} {v0 v1 v2 v3 : Int} {r : az_Hp}, fz_X1_judgeBackwards_77 n k σ v0 v1 v2 v3 = some r → az_AW Z 5 77 [(3, v0), (11, v1), (0, v2), (0, v3), (31, 0)] [] σ (none, r) := by
  have hd1 : 1 ≤ d := by omega
  induction k with
  | zero => intro σ v0 v1 v2 v3 r h; simp [fz_X1_judgeBackwards_77] at h
  | succ k ih =>
    intro σ v0 v1 v2 v3 r h
    unfold fz_X1_judgeBackwards_77 at h
    refine az_il3 (pc := 77) C dX1_judgeBackwards_77 ?_
    refine az_al1 (pc := 78) C rfl rfl dX1_judgeBackwards_78 ?_
    refine az_getI (pc := 79) C fl_X1_19 rfl dX1_judgeBackwards_79 ?_
    refine az_icmp_ge (pc := 82) (tgt := 183) C h dX1_judgeBackwards_82 (by decide) (fun _ h => ?_) (fun _ h => ?_)
    · obtain rfl := Option.some.inj h
      exact az_return (pc := 183) C dX1_judgeBackwards_183 rfl
    refine az_al1 (pc := 85) C rfl rfl dX1_judgeBackwards_85 ?_
    refine az_getR (pc := 86) (c2 := 13) C h fl_X1_71 rfl rfl dX1_judgeBackwards_86 (fun h => ?_)
    refine az_il2 (pc := 89) C dX1_judgeBackwards_89 ?_
    refine az_iaload (pc := 90) C h dX1_judgeBackwards_90 (fun h => ?_)
    refine az_if_ne (pc := 91) (tgt := 183) C h dX1_judgeBackwards_91 (by decide) (fun _ h => ?_) (fun _ h => ?_)
    · obtain rfl := Option.some.inj h
      exact az_return (pc := 183) C dX1_judgeBackwards_183 rfl
    refine az_il3 (pc := 94) C dX1_judgeBackwards_94 ?_
    refine az_ik1 (pc := 95) C dX1_judgeBackwards_95 ?_
    refine az_iadd (pc := 96) C dX1_judgeBackwards_96 ?_
    refine az_is4 (pc := 97) C rfl rfl dX1_judgeBackwards_97 ?_
    exact (A_X1_judgeBackwards_99 C hD n (fun h => ih h) n h)
set_option maxRecDepth 10000 in
set_option maxHeartbeats 4000000 in
theorem A_X1_judgeBackwards_23 {Z : az_Z} {d : Nat} (C : az_C Z yX1_judgeBackwards cX1_judgeBackwards 5 none d) (hD : 5 ≤ d) (n : Nat) (k : Nat) : ∀ {σ : az_Hp} {v0 v1 v2 v3 : Int} {r : az_Hp}, fz_X1_judgeBackwards_23 n k σ v0 v1 v2 v3 = some r → az_AW Z 5 23 [(3, v0), (11, v1), (0, v2), (0, v3), (31, 0)] [] σ (none, r) := by
  have hd1 : 1 ≤ d := by omega
  induction k with
  | zero => intro σ v0 v1 v2 v3 r h; simp [fz_X1_judgeBackwards_23] at h
  | succ k ih =>
    intro σ v0 v1 v2 v3 r h
    unfold fz_X1_judgeBackwards_23 at h
    refine az_il3 (pc := 23) C dX1_judgeBackwards_23 ?_
    refine az_al1 (pc := 24) C rfl rfl dX1_judgeBackwards_24 ?_
    refine az_getI (pc := 25) C fl_X1_19 rfl dX1_judgeBackwards_25 ?_
    refine az_icmp_ge (pc := 28) (tgt := 75) C h dX1_judgeBackwards_28 (by decide) (fun _ h => ?_) (fun _ h => ?_)
    · refine az_ik0 (pc := 75) C dX1_judgeBackwards_75 ?_
      refine az_is3 (pc := 76) C rfl rfl dX1_judgeBackwards_76 ?_
      exact (A_X1_judgeBackwards_77 C hD n n h)
    refine az_al1 (pc := 31) C rfl rfl dX1_judgeBackwards_31 ?_
    refine az_getR (pc := 32) (c2 := 13) C h fl_X1_71 rfl rfl dX1_judgeBackwards_32 (fun h => ?_)
    refine az_il2 (pc := 35) C dX1_judgeBackwards_35 ?_
    refine az_iaload (pc := 36) C h dX1_judgeBackwards_36 (fun h => ?_)
    refine az_if_ne (pc := 37) (tgt := 75) C h dX1_judgeBackwards_37 (by decide) (fun _ h => ?_) (fun _ h => ?_)
    · refine az_ik0 (pc := 75) C dX1_judgeBackwards_75 ?_
      refine az_is3 (pc := 76) C rfl rfl dX1_judgeBackwards_76 ?_
      exact (A_X1_judgeBackwards_77 C hD n n h)
    refine az_al1 (pc := 40) C rfl rfl dX1_judgeBackwards_40 ?_
    refine az_getR (pc := 41) (c2 := 13) C h fl_X1_24 rfl rfl dX1_judgeBackwards_41 (fun h => ?_)
    refine az_il3 (pc := 44) C dX1_judgeBackwards_44 ?_
    refine az_iaload (pc := 45) C h dX1_judgeBackwards_45 (fun h => ?_)
    refine az_il2 (pc := 46) C dX1_judgeBackwards_46 ?_
    refine az_icmp_ne (pc := 47) (tgt := 69) C h dX1_judgeBackwards_47 (by decide) (fun _ h => ?_) (fun _ h => ?_)
    · refine az_ii3 (pc := 69) C az_n1 rfl rfl dX1_judgeBackwards_69 ?_
      refine az_goto (pc := 72) (tgt := 23) C dX1_judgeBackwards_72 (by decide) ?_
      exact (ih h)
    refine az_al1 (pc := 50) C rfl rfl dX1_judgeBackwards_50 ?_
    refine az_getR (pc := 51) (c2 := 13) C h fl_X1_71 rfl rfl dX1_judgeBackwards_51 (fun h => ?_)
    refine az_il2 (pc := 54) C dX1_judgeBackwards_54 ?_
    refine az_al0 (pc := 55) C rfl rfl dX1_judgeBackwards_55 ?_
    refine az_al1 (pc := 56) C rfl rfl dX1_judgeBackwards_56 ?_
    refine az_il3 (pc := 57) C dX1_judgeBackwards_57 ?_
    refine az_cV2pi (pc := 58) (c := 1) C hd1 h mv_X1_badAlone ml_X1_80 rfl (fun x hx => A_X1_badAlone (by omega) n hx) dX1_judgeBackwards_58 (fun r6 h => ?_)
    refine az_iastore (pc := 61) C h dX1_judgeBackwards_61 (fun h => ?_)
    refine az_al1 (pc := 62) C rfl rfl dX1_judgeBackwards_62 ?_
    refine az_getR (pc := 63) (c2 := 13) C h fl_X1_74 rfl rfl dX1_judgeBackwards_63 (fun h => ?_)
    refine az_il2 (pc := 66) C dX1_judgeBackwards_66 ?_
    refine az_il3 (pc := 67) C dX1_judgeBackwards_67 ?_
    refine az_iastore (pc := 68) C h dX1_judgeBackwards_68 (fun h => ?_)
    refine az_ii3 (pc := 69) C az_n1 rfl rfl dX1_judgeBackwards_69 ?_
    refine az_goto (pc := 72) (tgt := 23) C dX1_judgeBackwards_72 (by decide) ?_
    exact (ih h)
set_option maxRecDepth 10000 in
set_option maxHeartbeats 4000000 in
theorem A_X1_judgeBackwards_e {Z : az_Z} {d : Nat} (C : az_C Z yX1_judgeBackwards cX1_judgeBackwards 5 none d) (hD : 5 ≤ d) (n : Nat) {σ : az_Hp} {v0 v1 v2 : Int} {r : az_Hp} (h : fz_X1_judgeBackwards n σ v0 v1 v2 = some r) : az_AW Z 5 0 [(3, v0), (11, v1), (0, v2), (31, 0), (31, 0)] [] σ (none, r) := by
  have hd1 : 1 ≤ d := by omega
  unfold fz_X1_judgeBackwards at h
  refine az_al1 (pc := 0) C rfl rfl dX1_judgeBackwards_0 ?_
  refine az_getR (pc := 1) (c2 := 13) C h fl_X1_71 rfl rfl dX1_judgeBackwards_1 (fun h => ?_)
  refine az_il2 (pc := 4) C dX1_judgeBackwards_4 ?_
  refine az_ik0 (pc := 5) C dX1_judgeBackwards_5 ?_
  refine az_iastore (pc := 6) C h dX1_judgeBackwards_6 (fun h => ?_)
  refine az_al1 (pc := 7) C rfl rfl dX1_judgeBackwards_7 ?_
  refine az_getR (pc := 8) (c2 := 13) C h fl_X1_74 rfl rfl dX1_judgeBackwards_8 (fun h => ?_)
  refine az_il2 (pc := 11) C dX1_judgeBackwards_11 ?_
  refine az_ikm1 (pc := 12) C dX1_judgeBackwards_12 ?_
  refine az_iastore (pc := 13) C h dX1_judgeBackwards_13 (fun h => ?_)
  refine az_al1 (pc := 14) C rfl rfl dX1_judgeBackwards_14 ?_
  refine az_getR (pc := 15) (c2 := 13) C h fl_X1_77 rfl rfl dX1_judgeBackwards_15 (fun h => ?_)
  refine az_il2 (pc := 18) C dX1_judgeBackwards_18 ?_
  refine az_ikm1 (pc := 19) C dX1_judgeBackwards_19 ?_
  refine az_iastore (pc := 20) C h dX1_judgeBackwards_20 (fun h => ?_)
  refine az_ik0 (pc := 21) C dX1_judgeBackwards_21 ?_
  refine az_is3 (pc := 22) C rfl rfl dX1_judgeBackwards_22 ?_
  exact (A_X1_judgeBackwards_23 C hD n n h)
set_option maxRecDepth 10000 in
set_option maxHeartbeats 4000000 in
theorem A_X1_judgeBackwards {l : Launch} {d : Nat} (hD : 5 ≤ d) (n : Nat) {σ : az_Hp} {v0 v1 v2 : Int} {r : az_Hp} (h : fz_X1_judgeBackwards n σ v0 v1 v2 = some r) : az_AC l yX1_judgeBackwards cX1_judgeBackwards 5 none d [(3, v0), (11, v1), (0, v2)] σ (none, r) := az_AC.of mt_X1_judgeBackwards rfl rfl rfl (fun Z hZ C => A_X1_judgeBackwards_e C hD n h)
theorem dX1_rightsAgree_0 : decode cX1_rightsAgree 0 = .ok (.aload_n 0, 1) := by decide +kernel
theorem dX1_rightsAgree_1 : decode cX1_rightsAgree 1 = .ok (.aload_n 1, 1) := by decide +kernel
theorem dX1_rightsAgree_2 : decode cX1_rightsAgree 2 = .ok (.iload_n 2, 1) := by decide +kernel
theorem dX1_rightsAgree_3 : decode cX1_rightsAgree 3 = .ok (.iload_n 3, 1) := by decide +kernel
theorem dX1_rightsAgree_4 : decode cX1_rightsAgree 4 = .ok (.invokevirtual 64, 3) := by decide +kernel
theorem dX1_rightsAgree_7 : decode cX1_rightsAgree 7 = .ok (.istore 4, 2) := by decide +kernel
theorem dX1_rightsAgree_9 : decode cX1_rightsAgree 9 = .ok (.iload 4, 2) := by decide +kernel
theorem dX1_rightsAgree_11 : decode cX1_rightsAgree 11 = .ok (.iconst 1, 1) := by decide +kernel
theorem dX1_rightsAgree_12 : decode cX1_rightsAgree 12 = .ok (.if_icmp .eq 14, 3) := by decide +kernel
theorem dX1_rightsAgree_15 : decode cX1_rightsAgree 15 = .ok (.iload 4, 2) := by decide +kernel
theorem dX1_rightsAgree_17 : decode cX1_rightsAgree 17 = .ok (.ifCond .ne 7, 3) := by decide +kernel
theorem dX1_rightsAgree_20 : decode cX1_rightsAgree 20 = .ok (.iconst 1, 1) := by decide +kernel
theorem dX1_rightsAgree_21 : decode cX1_rightsAgree 21 = .ok (.goto 4, 3) := by decide +kernel
theorem dX1_rightsAgree_24 : decode cX1_rightsAgree 24 = .ok (.iconst 0, 1) := by decide +kernel
theorem dX1_rightsAgree_25 : decode cX1_rightsAgree 25 = .ok (.ireturn, 1) := by decide +kernel
theorem dX1_rightsAgree_26 : decode cX1_rightsAgree 26 = .ok (.aload_n 0, 1) := by decide +kernel
theorem dX1_rightsAgree_27 : decode cX1_rightsAgree 27 = .ok (.getfield 15, 3) := by decide +kernel
theorem dX1_rightsAgree_30 : decode cX1_rightsAgree 30 = .ok (.aload_n 1, 1) := by decide +kernel
theorem dX1_rightsAgree_31 : decode cX1_rightsAgree 31 = .ok (.getfield 68, 3) := by decide +kernel
theorem dX1_rightsAgree_34 : decode cX1_rightsAgree 34 = .ok (.iload_n 2, 1) := by decide +kernel
theorem dX1_rightsAgree_35 : decode cX1_rightsAgree 35 = .ok (.aaload, 1) := by decide +kernel
theorem dX1_rightsAgree_36 : decode cX1_rightsAgree 36 = .ok (.iconst 0, 1) := by decide +kernel
theorem dX1_rightsAgree_37 : decode cX1_rightsAgree 37 = .ok (.iconst 0, 1) := by decide +kernel
theorem dX1_rightsAgree_38 : decode cX1_rightsAgree 38 = .ok (.iconst 0, 1) := by decide +kernel
theorem dX1_rightsAgree_39 : decode cX1_rightsAgree 39 = .ok (.invokevirtual 52, 3) := by decide +kernel
theorem dX1_rightsAgree_42 : decode cX1_rightsAgree 42 = .ok (.istore 5, 2) := by decide +kernel
theorem dX1_rightsAgree_44 : decode cX1_rightsAgree 44 = .ok (.aload_n 0, 1) := by decide +kernel
theorem dX1_rightsAgree_45 : decode cX1_rightsAgree 45 = .ok (.getfield 15, 3) := by decide +kernel
theorem dX1_rightsAgree_48 : decode cX1_rightsAgree 48 = .ok (.aload_n 1, 1) := by decide +kernel
theorem dX1_rightsAgree_49 : decode cX1_rightsAgree 49 = .ok (.getfield 68, 3) := by decide +kernel
theorem dX1_rightsAgree_52 : decode cX1_rightsAgree 52 = .ok (.iload_n 3, 1) := by decide +kernel
theorem dX1_rightsAgree_53 : decode cX1_rightsAgree 53 = .ok (.aaload, 1) := by decide +kernel
theorem dX1_rightsAgree_54 : decode cX1_rightsAgree 54 = .ok (.iconst 0, 1) := by decide +kernel
theorem dX1_rightsAgree_55 : decode cX1_rightsAgree 55 = .ok (.iconst 1, 1) := by decide +kernel
theorem dX1_rightsAgree_56 : decode cX1_rightsAgree 56 = .ok (.iconst 0, 1) := by decide +kernel
theorem dX1_rightsAgree_57 : decode cX1_rightsAgree 57 = .ok (.invokevirtual 52, 3) := by decide +kernel
theorem dX1_rightsAgree_60 : decode cX1_rightsAgree 60 = .ok (.istore 6, 2) := by decide +kernel
theorem dX1_rightsAgree_62 : decode cX1_rightsAgree 62 = .ok (.aload_n 0, 1) := by decide +kernel
theorem dX1_rightsAgree_63 : decode cX1_rightsAgree 63 = .ok (.getfield 15, 3) := by decide +kernel
theorem dX1_rightsAgree_66 : decode cX1_rightsAgree 66 = .ok (.iload 5, 2) := by decide +kernel
theorem dX1_rightsAgree_68 : decode cX1_rightsAgree 68 = .ok (.iload 6, 2) := by decide +kernel
theorem dX1_rightsAgree_70 : decode cX1_rightsAgree 70 = .ok (.iconst 1, 1) := by decide +kernel
theorem dX1_rightsAgree_71 : decode cX1_rightsAgree 71 = .ok (.invokevirtual 56, 3) := by decide +kernel
theorem dX1_rightsAgree_74 : decode cX1_rightsAgree 74 = .ok (.ireturn, 1) := by decide +kernel
set_option maxRecDepth 10000 in
set_option maxHeartbeats 4000000 in
theorem A_X1_rightsAgree_e {Z : az_Z} {d : Nat} (C : az_C Z yX1_rightsAgree cX1_rightsAgree 7 (some .boolean) d) (hD : 5 ≤ d) (n : Nat) {σ : az_Hp} {v0 v1 v2 v3 : Int} {r : (Int × az_Hp)} (h : fz_X1_rightsAgree n σ v0 v1 v2 v3 = some r) : az_AW Z 7 0 [(3, v0), (11, v1), (0, v2), (0, v3), (31, 0), (31, 0), (31, 0)] [] σ (some (0, r.1), r.2) := by
  have hd1 : 1 ≤ d := by omega
  unfold fz_X1_rightsAgree at h
  refine az_al0 (pc := 0) C rfl rfl dX1_rightsAgree_0 ?_
  refine az_al1 (pc := 1) C rfl rfl dX1_rightsAgree_1 ?_
  refine az_il2 (pc := 2) C dX1_rightsAgree_2 ?_
  refine az_il3 (pc := 3) C dX1_rightsAgree_3 ?_
  refine az_cV3ii (pc := 4) (c := 1) C hd1 h mv_X1_meetLefts ml_X1_64 rfl (fun x hx => A_X1_meetLefts (by omega) n hx) dX1_rightsAgree_4 (fun r1 h => ?_)
  refine az_is4 (pc := 7) C rfl rfl dX1_rightsAgree_7 ?_
  refine az_il4 (pc := 9) C dX1_rightsAgree_9 ?_
  refine az_ik1 (pc := 11) C dX1_rightsAgree_11 ?_
  refine az_icmp_eq (pc := 12) (tgt := 26) C h dX1_rightsAgree_12 (by decide) (fun _ h => ?_) (fun _ h => ?_)
  · refine az_al0 (pc := 26) C rfl rfl dX1_rightsAgree_26 ?_
    refine az_getR (pc := 27) (c2 := 0) C h fl_X1_15 rfl rfl dX1_rightsAgree_27 (fun h => ?_)
    refine az_al1 (pc := 30) C rfl rfl dX1_rightsAgree_30 ?_
    refine az_getR (pc := 31) (c2 := 16) C h fl_X1_68 rfl rfl dX1_rightsAgree_31 (fun h => ?_)
    refine az_il2 (pc := 34) C dX1_rightsAgree_34 ?_
    refine az_aaload (pc := 35) C h dX1_rightsAgree_35 (fun h => ?_)
    refine az_ik0 (pc := 36) C dX1_rightsAgree_36 ?_
    refine az_ik0 (pc := 37) C dX1_rightsAgree_37 ?_
    refine az_ik0 (pc := 38) C dX1_rightsAgree_38 ?_
    refine az_cV4ii (pc := 39) (c := 0) C hd1 h mv_X0_lay ml_X1_52 rfl (fun x hx => A_X0_lay (by omega) n hx) dX1_rightsAgree_39 (fun r5 h => ?_)
    refine az_is5 (pc := 42) C rfl rfl dX1_rightsAgree_42 ?_
    refine az_al0 (pc := 44) C rfl rfl dX1_rightsAgree_44 ?_
    refine az_getR (pc := 45) (c2 := 0) C h fl_X1_15 rfl rfl dX1_rightsAgree_45 (fun h => ?_)
    refine az_al1 (pc := 48) C rfl rfl dX1_rightsAgree_48 ?_
    refine az_getR (pc := 49) (c2 := 16) C h fl_X1_68 rfl rfl dX1_rightsAgree_49 (fun h => ?_)
    refine az_il3 (pc := 52) C dX1_rightsAgree_52 ?_
    refine az_aaload (pc := 53) C h dX1_rightsAgree_53 (fun h => ?_)
    refine az_ik0 (pc := 54) C dX1_rightsAgree_54 ?_
    refine az_ik1 (pc := 55) C dX1_rightsAgree_55 ?_
    refine az_ik0 (pc := 56) C dX1_rightsAgree_56 ?_
    refine az_cV4ii (pc := 57) (c := 0) C hd1 h mv_X0_lay ml_X1_52 rfl (fun x hx => A_X0_lay (by omega) n hx) dX1_rightsAgree_57 (fun r9 h => ?_)
    refine az_is6 (pc := 60) C rfl rfl dX1_rightsAgree_60 ?_
    refine az_al0 (pc := 62) C rfl rfl dX1_rightsAgree_62 ?_
    refine az_getR (pc := 63) (c2 := 0) C h fl_X1_15 rfl rfl dX1_rightsAgree_63 (fun h => ?_)
    refine az_il5 (pc := 66) C dX1_rightsAgree_66 ?_
    refine az_il6 (pc := 68) C dX1_rightsAgree_68 ?_
    refine az_ik1 (pc := 70) C dX1_rightsAgree_70 ?_
    refine az_cV3ii (pc := 71) (c := 0) C hd1 h mv_X0_join ml_X1_56 rfl (fun x hx => A_X0_join (by omega) n hx) dX1_rightsAgree_71 (fun r11 h => ?_)
    obtain ⟨hz, h⟩ := az_zif h
    obtain rfl := Option.some.inj h
    exact az_zreturn (pc := 74) C hz dX1_rightsAgree_74 rfl
  refine az_il4 (pc := 15) C dX1_rightsAgree_15 ?_
  refine az_if_ne (pc := 17) (tgt := 24) C h dX1_rightsAgree_17 (by decide) (fun _ h => ?_) (fun _ h => ?_)
  · refine az_ik0 (pc := 24) C dX1_rightsAgree_24 ?_
    obtain rfl := Option.some.inj h
    exact az_zreturn (pc := 25) C (by decide) dX1_rightsAgree_25 rfl
  refine az_ik1 (pc := 20) C dX1_rightsAgree_20 ?_
  refine az_goto (pc := 21) (tgt := 25) C dX1_rightsAgree_21 (by decide) ?_
  obtain rfl := Option.some.inj h
  exact az_zreturn (pc := 25) C (by decide) dX1_rightsAgree_25 rfl
set_option maxRecDepth 10000 in
set_option maxHeartbeats 4000000 in
theorem A_X1_rightsAgree {l : Launch} {d : Nat} (hD : 5 ≤ d) (n : Nat) {σ : az_Hp} {v0 v1 v2 v3 : Int} {r : (Int × az_Hp)} (h : fz_X1_rightsAgree n σ v0 v1 v2 v3 = some r) : az_AC l yX1_rightsAgree cX1_rightsAgree 7 (some .boolean) d [(3, v0), (11, v1), (0, v2), (0, v3)] σ (some (0, r.1), r.2) := az_AC.of mt_X1_rightsAgree rfl rfl rfl (fun Z hZ C => A_X1_rightsAgree_e C hD n h)
