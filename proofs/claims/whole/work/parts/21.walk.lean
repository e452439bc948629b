theorem dX0_nameVariables_0 : decode cX0_nameVariables 0 = .ok (.iconst 0, 1) := by decide +kernel
theorem dX0_nameVariables_1 : decode cX0_nameVariables 1 = .ok (.istore_n 2, 1) := by decide +kernel
theorem dX0_nameVariables_2 : decode cX0_nameVariables 2 = .ok (.iload_n 2, 1) := by decide +kernel
theorem dX0_nameVariables_3 : decode cX0_nameVariables 3 = .ok (.aload_n 0, 1) := by decide +kernel
theorem dX0_nameVariables_4 : decode cX0_nameVariables 4 = .ok (.getfield 9, 3) := by decide +kernel
theorem dX0_nameVariables_7 : decode cX0_nameVariables 7 = .ok (.if_icmp .ge 16, 3) := by decide +kernel
theorem dX0_nameVariables_10 : decode cX0_nameVariables 10 = .ok (.aload_n 0, 1) := by decide +kernel
theorem dX0_nameVariables_11 : decode cX0_nameVariables 11 = .ok (.getfield 31, 3) := by decide +kernel
theorem dX0_nameVariables_14 : decode cX0_nameVariables 14 = .ok (.iload_n 2, 1) := by decide +kernel
theorem dX0_nameVariables_15 : decode cX0_nameVariables 15 = .ok (.iconst 0, 1) := by decide +kernel
theorem dX0_nameVariables_16 : decode cX0_nameVariables 16 = .ok (.bastore, 1) := by decide +kernel
theorem dX0_nameVariables_17 : decode cX0_nameVariables 17 = .ok (.iinc 2 1, 3) := by decide +kernel
theorem dX0_nameVariables_20 : decode cX0_nameVariables 20 = .ok (.goto (-18), 3) := by decide +kernel
theorem dX0_nameVariables_23 : decode cX0_nameVariables 23 = .ok (.iconst 0, 1) := by decide +kernel
theorem dX0_nameVariables_24 : decode cX0_nameVariables 24 = .ok (.istore_n 2, 1) := by decide +kernel
theorem dX0_nameVariables_25 : decode cX0_nameVariables 25 = .ok (.iconst 0, 1) := by decide +kernel
theorem dX0_nameVariables_26 : decode cX0_nameVariables 26 = .ok (.istore_n 3, 1) := by decide +kernel
theorem dX0_nameVariables_27 : decode cX0_nameVariables 27 = .ok (.iload_n 1, 1) := by decide +kernel
theorem dX0_nameVariables_28 : decode cX0_nameVariables 28 = .ok (.ifCond .lt 12, 3) := by decide +kernel
theorem dX0_nameVariables_31 : decode cX0_nameVariables 31 = .ok (.aload_n 0, 1) := by decide +kernel
theorem dX0_nameVariables_32 : decode cX0_nameVariables 32 = .ok (.getfield 38, 3) := by decide +kernel
theorem dX0_nameVariables_35 : decode cX0_nameVariables 35 = .ok (.iconst 0, 1) := by decide +kernel
theorem dX0_nameVariables_36 : decode cX0_nameVariables 36 = .ok (.iload_n 1, 1) := by decide +kernel
theorem dX0_nameVariables_37 : decode cX0_nameVariables 37 = .ok (.iastore, 1) := by decide +kernel
theorem dX0_nameVariables_38 : decode cX0_nameVariables 38 = .ok (.iconst 1, 1) := by decide +kernel
theorem dX0_nameVariables_39 : decode cX0_nameVariables 39 = .ok (.istore_n 3, 1) := by decide +kernel
theorem dX0_nameVariables_40 : decode cX0_nameVariables 40 = .ok (.iconst 0, 1) := by decide +kernel
theorem dX0_nameVariables_41 : decode cX0_nameVariables 41 = .ok (.istore 4, 2) := by decide +kernel
theorem dX0_nameVariables_43 : decode cX0_nameVariables 43 = .ok (.iload 4, 2) := by decide +kernel
theorem dX0_nameVariables_45 : decode cX0_nameVariables 45 = .ok (.ldc 73, 2) := by decide +kernel
theorem dX0_nameVariables_47 : decode cX0_nameVariables 47 = .ok (.if_icmp .ge 127, 3) := by decide +kernel
theorem dX0_nameVariables_50 : decode cX0_nameVariables 50 = .ok (.iload_n 3, 1) := by decide +kernel
theorem dX0_nameVariables_51 : decode cX0_nameVariables 51 = .ok (.ifCond .le 123, 3) := by decide +kernel
theorem dX0_nameVariables_54 : decode cX0_nameVariables 54 = .ok (.iinc 3 (-1), 3) := by decide +kernel
theorem dX0_nameVariables_57 : decode cX0_nameVariables 57 = .ok (.aload_n 0, 1) := by decide +kernel
theorem dX0_nameVariables_58 : decode cX0_nameVariables 58 = .ok (.aload_n 0, 1) := by decide +kernel
theorem dX0_nameVariables_59 : decode cX0_nameVariables 59 = .ok (.getfield 38, 3) := by decide +kernel
theorem dX0_nameVariables_62 : decode cX0_nameVariables 62 = .ok (.iload_n 3, 1) := by decide +kernel
theorem dX0_nameVariables_63 : decode cX0_nameVariables 63 = .ok (.iaload, 1) := by decide +kernel
theorem dX0_nameVariables_64 : decode cX0_nameVariables 64 = .ok (.invokevirtual 74, 3) := by decide +kernel
theorem dX0_nameVariables_67 : decode cX0_nameVariables 67 = .ok (.istore 5, 2) := by decide +kernel
theorem dX0_nameVariables_69 : decode cX0_nameVariables 69 = .ok (.aload_n 0, 1) := by decide +kernel
theorem dX0_nameVariables_70 : decode cX0_nameVariables 70 = .ok (.getfield 31, 3) := by decide +kernel
theorem dX0_nameVariables_73 : decode cX0_nameVariables 73 = .ok (.iload 5, 2) := by decide +kernel
theorem dX0_nameVariables_75 : decode cX0_nameVariables 75 = .ok (.baload, 1) := by decide +kernel
theorem dX0_nameVariables_76 : decode cX0_nameVariables 76 = .ok (.ifCond .eq 6, 3) := by decide +kernel
theorem dX0_nameVariables_79 : decode cX0_nameVariables 79 = .ok (.goto 89, 3) := by decide +kernel
theorem dX0_nameVariables_82 : decode cX0_nameVariables 82 = .ok (.aload_n 0, 1) := by decide +kernel
theorem dX0_nameVariables_83 : decode cX0_nameVariables 83 = .ok (.getfield 31, 3) := by decide +kernel
theorem dX0_nameVariables_86 : decode cX0_nameVariables 86 = .ok (.iload 5, 2) := by decide +kernel
theorem dX0_nameVariables_88 : decode cX0_nameVariables 88 = .ok (.iconst 1, 1) := by decide +kernel
theorem dX0_nameVariables_89 : decode cX0_nameVariables 89 = .ok (.bastore, 1) := by decide +kernel
theorem dX0_nameVariables_90 : decode cX0_nameVariables 90 = .ok (.aload_n 0, 1) := by decide +kernel
theorem dX0_nameVariables_91 : decode cX0_nameVariables 91 = .ok (.iload 5, 2) := by decide +kernel
theorem dX0_nameVariables_93 : decode cX0_nameVariables 93 = .ok (.invokevirtual 77, 3) := by decide +kernel
theorem dX0_nameVariables_96 : decode cX0_nameVariables 96 = .ok (.ifCond .eq 17, 3) := by decide +kernel
theorem dX0_nameVariables_99 : decode cX0_nameVariables 99 = .ok (.aload_n 0, 1) := by decide +kernel
theorem dX0_nameVariables_100 : decode cX0_nameVariables 100 = .ok (.getfield 28, 3) := by decide +kernel
theorem dX0_nameVariables_103 : decode cX0_nameVariables 103 = .ok (.iload 5, 2) := by decide +kernel
theorem dX0_nameVariables_105 : decode cX0_nameVariables 105 = .ok (.iload_n 2, 1) := by decide +kernel
theorem dX0_nameVariables_106 : decode cX0_nameVariables 106 = .ok (.iastore, 1) := by decide +kernel
theorem dX0_nameVariables_107 : decode cX0_nameVariables 107 = .ok (.iinc 2 1, 3) := by decide +kernel
theorem dX0_nameVariables_110 : decode cX0_nameVariables 110 = .ok (.goto 58, 3) := by decide +kernel
theorem dX0_nameVariables_113 : decode cX0_nameVariables 113 = .ok (.aload_n 0, 1) := by decide +kernel
theorem dX0_nameVariables_114 : decode cX0_nameVariables 114 = .ok (.getfield 15, 3) := by decide +kernel
theorem dX0_nameVariables_117 : decode cX0_nameVariables 117 = .ok (.iload 5, 2) := by decide +kernel
theorem dX0_nameVariables_119 : decode cX0_nameVariables 119 = .ok (.iaload, 1) := by decide +kernel
theorem dX0_nameVariables_120 : decode cX0_nameVariables 120 = .ok (.invokestatic 64, 3) := by decide +kernel
theorem dX0_nameVariables_123 : decode cX0_nameVariables 123 = .ok (.iconst 1, 1) := by decide +kernel
theorem dX0_nameVariables_124 : decode cX0_nameVariables 124 = .ok (.isub, 1) := by decide +kernel
theorem dX0_nameVariables_125 : decode cX0_nameVariables 125 = .ok (.istore 6, 2) := by decide +kernel
theorem dX0_nameVariables_127 : decode cX0_nameVariables 127 = .ok (.iload 6, 2) := by decide +kernel
theorem dX0_nameVariables_129 : decode cX0_nameVariables 129 = .ok (.ifCond .lt 39, 3) := by decide +kernel
theorem dX0_nameVariables_132 : decode cX0_nameVariables 132 = .ok (.iload_n 3, 1) := by decide +kernel
theorem dX0_nameVariables_133 : decode cX0_nameVariables 133 = .ok (.aload_n 0, 1) := by decide +kernel
theorem dX0_nameVariables_134 : decode cX0_nameVariables 134 = .ok (.getfield 38, 3) := by decide +kernel
theorem dX0_nameVariables_137 : decode cX0_nameVariables 137 = .ok (.arraylength, 1) := by decide +kernel
theorem dX0_nameVariables_138 : decode cX0_nameVariables 138 = .ok (.if_icmp .ge 30, 3) := by decide +kernel
theorem dX0_nameVariables_141 : decode cX0_nameVariables 141 = .ok (.aload_n 0, 1) := by decide +kernel
theorem dX0_nameVariables_142 : decode cX0_nameVariables 142 = .ok (.getfield 38, 3) := by decide +kernel
theorem dX0_nameVariables_145 : decode cX0_nameVariables 145 = .ok (.iload_n 3, 1) := by decide +kernel
theorem dX0_nameVariables_146 : decode cX0_nameVariables 146 = .ok (.aload_n 0, 1) := by decide +kernel
theorem dX0_nameVariables_147 : decode cX0_nameVariables 147 = .ok (.getfield 35, 3) := by decide +kernel
theorem dX0_nameVariables_150 : decode cX0_nameVariables 150 = .ok (.iload 5, 2) := by decide +kernel
theorem dX0_nameVariables_152 : decode cX0_nameVariables 152 = .ok (.iconst 3, 1) := by decide +kernel
theorem dX0_nameVariables_153 : decode cX0_nameVariables 153 = .ok (.imul, 1) := by decide +kernel
theorem dX0_nameVariables_154 : decode cX0_nameVariables 154 = .ok (.iload 6, 2) := by decide +kernel
theorem dX0_nameVariables_156 : decode cX0_nameVariables 156 = .ok (.iadd, 1) := by decide +kernel
theorem dX0_nameVariables_157 : decode cX0_nameVariables 157 = .ok (.iaload, 1) := by decide +kernel
theorem dX0_nameVariables_158 : decode cX0_nameVariables 158 = .ok (.iastore, 1) := by decide +kernel
theorem dX0_nameVariables_159 : decode cX0_nameVariables 159 = .ok (.iinc 3 1, 3) := by decide +kernel
theorem dX0_nameVariables_162 : decode cX0_nameVariables 162 = .ok (.iinc 6 (-1), 3) := by decide +kernel
theorem dX0_nameVariables_165 : decode cX0_nameVariables 165 = .ok (.goto (-38), 3) := by decide +kernel
theorem dX0_nameVariables_168 : decode cX0_nameVariables 168 = .ok (.iinc 4 1, 3) := by decide +kernel
theorem dX0_nameVariables_171 : decode cX0_nameVariables 171 = .ok (.goto (-128), 3) := by decide +kernel
theorem dX0_nameVariables_174 : decode cX0_nameVariables 174 = .ok (.return_, 1) := by decide +kernel
set_option maxRecDepth 10000 in
set_option maxHeartbeats 4000000 in
theorem A_X0_nameVariables_127 {Z : az_Z} {d : Nat} (C : az_C Z yX0_nameVariables cX0_nameVariables 7 none d) (hD : 2 ≤ d) (n : Nat) {k43 : az_Hp → Int → Int → Int → Int → Option az_Hp} (hk43 : ∀ {σ : az_Hp} {v0 v2 v3 v4 : Int} {r : az_Hp}, k43 σ v0 v2 v3 v4 = some r → az_AW Z 7 43 [(2, v0), (31, 0), (0, v2), (0, v3), (0, v4), (31, 0), (31, 0)] [] σ (none, r)) (k : Nat) : ∀ {σ : az_Hp} {v0 v2 v3 v4 v5 v6 : Int} {r : az_Hp}, fz_X0_nameVariables_127 n k43 k σ v0 v2 v3 v4 v5 v6 = some r → az_AW Z 7 127 [(2, v0), (31, 0), (0, v2), (0, v3), (0, v4), (0, v5), (0, v6)] [] σ (none, r) := by
  have hd1 : 1 ≤ d := by omega
  induction k with
  | zero => intro σ v0 v2 v3 v4 v5 v6 r h; simp [fz_X0_nameVariables_127] at h
  | succ k ih =>
    intro σ v0 v2 v3 v4 v5 v6 r h
    unfold fz_X0_nameVariables_127 at h
    refine az_il6 (pc := 127) C dX0_nameVariables_127 ?_
    refine az_if_lt (pc := 129) (tgt := 168) C h dX0_nameVariables_129 (by decide) (fun _ h => ?_) (fun _ h => ?_)
    · refine az_ii4 (pc := 168) C az_n1 rfl rfl dX0_nameVariables_168 ?_
      refine az_goto (pc := 171) (tgt := 43) C dX0_nameVariables_171 (by decide) ?_
      exact (az_wkk (hk43 h) (az_sE (az_sJ (az_sE (az_sE (az_sE (az_sJ (az_sJ az_sN))))))))
    refine az_il3 (pc := 132) C dX0_nameVariables_132 ?_
    refine az_al0 (pc := 133) C rfl rfl dX0_nameVariables_133 ?_
    refine az_getR (pc := 134) (c2 := 13) C h fl_X0_38 rfl rfl dX0_nameVariables_134 (fun h => ?_)
    refine az_arraylength (pc := 137) (k := 13) C rfl rfl dX0_nameVariables_137 ?_
    refine az_icmp_ge (pc := 138) (tgt := 168) C h dX0_nameVariables_138 (by decide) (fun _ h => ?_) (fun _ h => ?_)
    · refine az_ii4 (pc := 168) C az_n1 rfl rfl dX0_nameVariables_168 ?_
      refine az_goto (pc := 171) (tgt := 43) C dX0_nameVariables_171 (by decide) ?_
      exact (az_wkk (hk43 h) (az_sE (az_sJ (az_sE (az_sE (az_sE (az_sJ (az_sJ az_sN))))))))
    refine az_al0 (pc := 141) C rfl rfl dX0_nameVariables_141 ?_
    refine az_getR (pc := 142) (c2 := 13) C h fl_X0_38 rfl rfl dX0_nameVariables_142 (fun h => ?_)
    refine az_il3 (pc := 145) C dX0_nameVariables_145 ?_
    refine az_al0 (pc := 146) C rfl rfl dX0_nameVariables_146 ?_
    refine az_getR (pc := 147) (c2 := 13) C h fl_X0_35 rfl rfl dX0_nameVariables_147 (fun h => ?_)
    refine az_il5 (pc := 150) C dX0_nameVariables_150 ?_
    refine az_ik3 (pc := 152) C dX0_nameVariables_152 ?_
    refine az_imul (pc := 153) C dX0_nameVariables_153 ?_
    refine az_il6 (pc := 154) C dX0_nameVariables_154 ?_
    refine az_iadd (pc := 156) C dX0_nameVariables_156 ?_
    refine az_iaload (pc := 157) C h dX0_nameVariables_157 (fun h => ?_)
    refine az_iastore (pc := 158) C h dX0_nameVariables_158 (fun h => ?_)
    refine az_ii3 (pc := 159) C az_n1 rfl rfl dX0_nameVariables_159 ?_
    refine az_ii6 (pc := 162) C az_nm1 rfl rfl dX0_nameVariables_162 ?_
    refine az_goto (pc := 165) (tgt := 127) C dX0_nameVariables_165 (by decide) ?_
    exact (ih h)
set_option maxRecDepth 10000 in
set_option maxHeartbeats 4000000 in
theorem A_X0_nameVariables_43 {Z : az_Z} {d : Nat} (C : az_C Z yX0_nameVariables cX0_nameVariables 7 none d) (hD : 2 ≤ d) (n : Nat) (k : Nat) : ∀ {σ : az_Hp} {v0 v2 v3 v4 : Int} {r : az_Hp}, fz_X0_nameVariables_43 n k σ v0 v2 v3 v4 = some r → az_AW Z 7 43 [(2, v0), (31, 0), (0, v2), (0, v3), (0, v4), (31, 0), (31, 0)] [] σ (none, r) := by
  have hd1 : 1 ≤ d := by omega
  induction k with
  | zero => intro σ v0 v2 v3 v4 r h; simp [fz_X0_nameVariables_43] at h
  | succ k ih =>
    intro σ v0 v2 v3 v4 r h
    unfold fz_X0_nameVariables_43 at h
    refine az_il4 (pc := 43) C dX0_nameVariables_43 ?_
    refine az_ldc (pc := 45) (x := 1000000) C ct_X0_73 dX0_nameVariables_45 (by decide) ?_
    refine az_icmp_ge (pc := 47) (tgt := 174) C h dX0_nameVariables_47 (by decide) (fun _ h => ?_) (fun _ h => ?_)
    · obtain rfl := Option.some.inj h
      exact az_return (pc := 174) C dX0_nameVariables_174 rfl
    refine az_il3 (pc := 50) C dX0_nameVariables_50 ?_
    refine az_if_le (pc := 51) (tgt := 174) C h dX0_nameVariables_51 (by decide) (fun _ h => ?_) (fun _ h => ?_)
    · obtain rfl := Option.some.inj h
      exact az_return (pc := 174) C dX0_nameVariables_174 rfl
    refine az_ii3 (pc := 54) C az_nm1 rfl rfl dX0_nameVariables_54 ?_
    refine az_al0 (pc := 57) C rfl rfl dX0_nameVariables_57 ?_
    refine az_al0 (pc := 58) C rfl rfl dX0_nameVariables_58 ?_
    refine az_getR (pc := 59) (c2 := 13) C h fl_X0_38 rfl rfl dX0_nameVariables_59 (fun h => ?_)
    refine az_il3 (pc := 62) C dX0_nameVariables_62 ?_
    refine az_iaload (pc := 63) C h dX0_nameVariables_63 (fun h => ?_)
    refine az_cV1pi (pc := 64) (c := 0) C hd1 h mv_X0_top ml_X0_74 rfl (fun x hx => A_X0_top (by omega) n hx) dX0_nameVariables_64 (fun r3 h => ?_)
    refine az_is5 (pc := 67) C rfl rfl dX0_nameVariables_67 ?_
    refine az_al0 (pc := 69) C rfl rfl dX0_nameVariables_69 ?_
    refine az_getR (pc := 70) (c2 := 15) C h fl_X0_31 rfl rfl dX0_nameVariables_70 (fun h => ?_)
    refine az_il5 (pc := 73) C dX0_nameVariables_73 ?_
    refine az_zaload (pc := 75) C h dX0_nameVariables_75 (fun h => ?_)
    refine az_if_eq (pc := 76) (tgt := 82) C h dX0_nameVariables_76 (by decide) (fun _ h => ?_) (fun _ h => ?_)
    · refine az_al0 (pc := 82) C rfl rfl dX0_nameVariables_82 ?_
      refine az_getR (pc := 83) (c2 := 15) C h fl_X0_31 rfl rfl dX0_nameVariables_83 (fun h => ?_)
      refine az_il5 (pc := 86) C dX0_nameVariables_86 ?_
      refine az_ik1 (pc := 88) C dX0_nameVariables_88 ?_
      refine az_zastore (pc := 89) C h dX0_nameVariables_89 (fun h => ?_)
      refine az_al0 (pc := 90) C rfl rfl dX0_nameVariables_90 ?_
      refine az_il5 (pc := 91) C dX0_nameVariables_91 ?_
      refine az_cV1pi (pc := 93) (c := 0) C hd1 h mv_X0_isVariable ml_X0_77 rfl (fun x hx => A_X0_isVariable (by omega) hx) dX0_nameVariables_93 (fun r8 h => ?_)
      refine az_if_eq (pc := 96) (tgt := 113) C h dX0_nameVariables_96 (by decide) (fun _ h => ?_) (fun _ h => ?_)
      · refine az_al0 (pc := 113) C rfl rfl dX0_nameVariables_113 ?_
        refine az_getR (pc := 114) (c2 := 13) C h fl_X0_15 rfl rfl dX0_nameVariables_114 (fun h => ?_)
        refine az_il5 (pc := 117) C dX0_nameVariables_117 ?_
        refine az_iaload (pc := 119) C h dX0_nameVariables_119 (fun h => ?_)
        refine az_cS1pi (pc := 120) C hd1 h ms_X7_arity ml_X0_64 rfl (fun x hx => A_X7_arity (by omega) hx) dX0_nameVariables_120 (fun r11 h => ?_)
        refine az_ik1 (pc := 123) C dX0_nameVariables_123 ?_
        refine az_isub (pc := 124) C dX0_nameVariables_124 ?_
        refine az_is6 (pc := 125) C rfl rfl dX0_nameVariables_125 ?_
        exact (A_X0_nameVariables_127 C hD n (fun h => ih h) n h)
      refine az_al0 (pc := 99) C rfl rfl dX0_nameVariables_99 ?_
      refine az_getR (pc := 100) (c2 := 13) C h fl_X0_28 rfl rfl dX0_nameVariables_100 (fun h => ?_)
      refine az_il5 (pc := 103) C dX0_nameVariables_103 ?_
      refine az_il2 (pc := 105) C dX0_nameVariables_105 ?_
      refine az_iastore (pc := 106) C h dX0_nameVariables_106 (fun h => ?_)
      refine az_ii2 (pc := 107) C az_n1 rfl rfl dX0_nameVariables_107 ?_
      refine az_goto (pc := 110) (tgt := 168) C dX0_nameVariables_110 (by decide) ?_
      refine az_ii4 (pc := 168) C az_n1 rfl rfl dX0_nameVariables_168 ?_
      refine az_goto (pc := 171) (tgt := 43) C dX0_nameVariables_171 (by decide) ?_
      exact (az_wkk (ih h) (az_sE (az_sJ (az_sE (az_sE (az_sE (az_sJ (az_sJ az_sN))))))))
    refine az_goto (pc := 79) (tgt := 168) C dX0_nameVariables_79 (by decide) ?_
    refine az_ii4 (pc := 168) C az_n1 rfl rfl dX0_nameVariables_168 ?_
    refine az_goto (pc := 171) (tgt := 43) C dX0_nameVariables_171 (by decide) ?_
    exact (az_wkk (ih h) (az_sE (az_sJ (az_sE (az_sE (az_sE (az_sJ (az_sJ az_sN))))))))
set_option maxRecDepth 10000 in
set_option maxHeartbeats 4000000 in
theorem A_X0_nameVariables_2 {Z : az_Z} {d : Nat} (C : az_C Z yX0_nameVariables cX0_nameVariables 7 none d) (hD : 2 ≤ d) (n : Nat) (k : Nat) : ∀ {σ : az_Hp} {v0 v1 v2 : Int} {r : az_Hp}, fz_X0_nameVariables_2 n k σ v0 v1 v2 = some r → az_AW Z 7 2 [(2, v0), (0, v1), (0, v2), (31, 0), (31, 0), (31, 0), (31, 0)] [] σ (none, r) := by
  have hd1 : 1 ≤ d := by omega
  induction k with
  | zero => intro σ v0 v1 v2 r h; simp [fz_X0_nameVariables_2] at h
  | succ k ih =>
    intro σ v0 v1 v2 r h
    unfold fz_X0_nameVariables_2 at h
    refine az_il2 (pc := 2) C dX0_nameVariables_2 ?_
    refine az_al0 (pc := 3) C rfl rfl dX0_nameVariables_3 ?_
    refine az_getI (pc := 4) C fl_X0_9 rfl dX0_nameVariables_4 ?_
    refine az_icmp_ge (pc := 7) (tgt := 23) C h dX0_nameVariables_7 (by decide) (fun _ h => ?_) (fun _ h => ?_)
    · refine az_ik0 (pc := 23) C dX0_nameVariables_23 ?_
      refine az_is2 (pc := 24) C rfl rfl dX0_nameVariables_24 ?_
      refine az_ik0 (pc := 25) C dX0_nameVariables_25 ?_
      refine az_is3 (pc := 26) C rfl rfl dX0_nameVariables_26 ?_
      refine az_il1 (pc := 27) C dX0_nameVariables_27 ?_
      refine az_if_lt (pc := 28) (tgt := 40) C h dX0_nameVariables_28 (by decide) (fun _ h => ?_) (fun _ h => ?_)
      · refine az_ik0 (pc := 40) C dX0_nameVariables_40 ?_
        refine az_is4 (pc := 41) C rfl rfl dX0_nameVariables_41 ?_
        exact (az_wkk (A_X0_nameVariables_43 C hD n n h) (az_sE (az_sJ (az_sE (az_sE (az_sE (az_sJ (az_sJ az_sN))))))))
      refine az_al0 (pc := 31) C rfl rfl dX0_nameVariables_31 ?_
      refine az_getR (pc := 32) (c2 := 13) C h fl_X0_38 rfl rfl dX0_nameVariables_32 (fun h => ?_)
      refine az_ik0 (pc := 35) C dX0_nameVariables_35 ?_
      refine az_il1 (pc := 36) C dX0_nameVariables_36 ?_
      refine az_iastore (pc := 37) C h dX0_nameVariables_37 (fun h => ?_)
      refine az_ik1 (pc := 38) C dX0_nameVariables_38 ?_
      refine az_is3 (pc := 39) C rfl rfl dX0_nameVariables_39 ?_
      refine az_ik0 (pc := 40) C dX0_nameVariables_40 ?_
      refine az_is4 (pc := 41) C rfl rfl dX0_nameVariables_41 ?_
      exact (az_wkk (A_X0_nameVariables_43 C hD n n h) (az_sE (az_sJ (az_sE (az_sE (az_sE (az_sJ (az_sJ az_sN))))))))
    refine az_al0 (pc := 10) C rfl rfl dX0_nameVariables_10 ?_
    refine az_getR (pc := 11) (c2 := 15) C h fl_X0_31 rfl rfl dX0_nameVariables_11 (fun h => ?_)
    refine az_il2 (pc := 14) C dX0_nameVariables_14 ?_
    refine az_ik0 (pc := 15) C dX0_nameVariables_15 ?_
    refine az_zastore (pc := 16) C h dX0_nameVariables_16 (fun h => ?_)
    refine az_ii2 (pc := 17) C az_n1 rfl rfl dX0_nameVariables_17 ?_
    refine az_goto (pc := 20) (tgt := 2) C dX0_nameVariables_20 (by decide) ?_
    exact (ih h)
set_option maxRecDepth 10000 in
set_option maxHeartbeats 4000000 in
theorem A_X0_nameVariables_e {Z : az_Z} {d : Nat} (C : az_C Z yX0_nameVariables cX0_nameVariables 7 none d) (hD : 2 ≤ d) (n : Nat) {σ : az_Hp} {v0 v1 : Int} {r : az_Hp} (h : fz_X0_nameVariables n σ v0 v1 = some r) : az_AW Z 7 0 [(2, v0), (0, v1), (31, 0), (31, 0), (31, 0), (31, 0), (31, 0)] [] σ (none, r) := by
  have hd1 : 1 ≤ d := by omega
  unfold fz_X0_nameVariables at h
  refine az_ik0 (pc := 0) C dX0_nameVariables_0 ?_
  refine az_is2 (pc := 1) C rfl rfl dX0_nameVariables_1 ?_
  exact (A_X0_nameVariables_2 C hD n n h)
set_option maxRecDepth 10000 in
set_option maxHeartbeats 4000000 in
theorem A_X0_nameVariables {l : Launch} {d : Nat} (hD : 2 ≤ d) (n : Nat) {σ : az_Hp} {v0 v1 : Int} {r : az_Hp} (h : fz_X0_nameVariables n σ v0 v1 = some r) : az_AC l yX0_nameVariables cX0_nameVariables 7 none d [(2, v0), (0, v1)] σ (none, r) := az_AC.of mt_X0_nameVariables rfl rfl rfl (fun Z hZ C => A_X0_nameVariables_e C hD n h)
theorem dX0_clear_0 : decode cX0_clear 0 = .ok (.aload_n 0, 1) := by decide +kernel
theorem dX0_clear_1 : decode cX0_clear 1 = .ok (.iconst 0, 1) := by decide +kernel
theorem dX0_clear_2 : decode cX0_clear 2 = .ok (.putfield 9, 3) := by decide +kernel
theorem dX0_clear_5 : decode cX0_clear 5 = .ok (.return_, 1) := by decide +kernel
set_option maxRecDepth 10000 in
set_option maxHeartbeats 4000000 in
theorem A_X0_clear_e {Z : az_Z} {d : Nat} (C : az_C Z yX0_clear cX0_clear 1 none d) (hD : 1 ≤ d) {σ : az_Hp} {v0 : Int} {r : az_Hp} (h : fz_X0_clear σ v0 = some r) : az_AW Z 1 0 [(2, v0)] [] σ (none, r) := by
  have hd1 : 1 ≤ d := by omega
  unfold fz_X0_clear at h
  refine az_al0 (pc := 0) C rfl rfl dX0_clear_0 ?_
  refine az_ik0 (pc := 1) C dX0_clear_1 ?_
  refine az_putI (pc := 2) C fl_X0_9 (Or.inl rfl) rfl dX0_clear_2 ?_
  obtain rfl := Option.some.inj h
  exact az_return (pc := 5) C dX0_clear_5 rfl
set_option maxRecDepth 10000 in
set_option maxHeartbeats 4000000 in
theorem A_X0_clear {l : Launch} {d : Nat} (hD : 1 ≤ d) {σ : az_Hp} {v0 : Int} {r : az_Hp} (h : fz_X0_clear σ v0 = some r) : az_AC l yX0_clear cX0_clear 1 none d [(2, v0)] σ (none, r) := az_AC.of mt_X0_clear rfl rfl rfl (fun Z hZ C => A_X0_clear_e C hD h)
theorem dX0_kidsAreMarked_0 : decode cX0_kidsAreMarked 0 = .ok (.aload_n 0, 1) := by decide +kernel
theorem dX0_kidsAreMarked_1 : decode cX0_kidsAreMarked 1 = .ok (.iload_n 1, 1) := by decide +kernel
theorem dX0_kidsAreMarked_2 : decode cX0_kidsAreMarked 2 = .ok (.invokevirtual 77, 3) := by decide +kernel
theorem dX0_kidsAreMarked_5 : decode cX0_kidsAreMarked 5 = .ok (.ifCond .eq 7, 3) := by decide +kernel
theorem dX0_kidsAreMarked_8 : decode cX0_kidsAreMarked 8 = .ok (.iconst 0, 1) := by decide +kernel
theorem dX0_kidsAreMarked_9 : decode cX0_kidsAreMarked 9 = .ok (.goto 12, 3) := by decide +kernel
theorem dX0_kidsAreMarked_12 : decode cX0_kidsAreMarked 12 = .ok (.aload_n 0, 1) := by decide +kernel
theorem dX0_kidsAreMarked_13 : decode cX0_kidsAreMarked 13 = .ok (.getfield 15, 3) := by decide +kernel
theorem dX0_kidsAreMarked_16 : decode cX0_kidsAreMarked 16 = .ok (.iload_n 1, 1) := by decide +kernel
theorem dX0_kidsAreMarked_17 : decode cX0_kidsAreMarked 17 = .ok (.iaload, 1) := by decide +kernel
theorem dX0_kidsAreMarked_18 : decode cX0_kidsAreMarked 18 = .ok (.invokestatic 64, 3) := by decide +kernel
theorem dX0_kidsAreMarked_21 : decode cX0_kidsAreMarked 21 = .ok (.istore_n 2, 1) := by decide +kernel
theorem dX0_kidsAreMarked_22 : decode cX0_kidsAreMarked 22 = .ok (.iconst 0, 1) := by decide +kernel
theorem dX0_kidsAreMarked_23 : decode cX0_kidsAreMarked 23 = .ok (.istore_n 3, 1) := by decide +kernel
theorem dX0_kidsAreMarked_24 : decode cX0_kidsAreMarked 24 = .ok (.iload_n 3, 1) := by decide +kernel
theorem dX0_kidsAreMarked_25 : decode cX0_kidsAreMarked 25 = .ok (.iload_n 2, 1) := by decide +kernel
theorem dX0_kidsAreMarked_26 : decode cX0_kidsAreMarked 26 = .ok (.if_icmp .ge 33, 3) := by decide +kernel
theorem dX0_kidsAreMarked_29 : decode cX0_kidsAreMarked 29 = .ok (.aload_n 0, 1) := by decide +kernel
theorem dX0_kidsAreMarked_30 : decode cX0_kidsAreMarked 30 = .ok (.getfield 31, 3) := by decide +kernel
theorem dX0_kidsAreMarked_33 : decode cX0_kidsAreMarked 33 = .ok (.aload_n 0, 1) := by decide +kernel
theorem dX0_kidsAreMarked_34 : decode cX0_kidsAreMarked 34 = .ok (.aload_n 0, 1) := by decide +kernel
theorem dX0_kidsAreMarked_35 : decode cX0_kidsAreMarked 35 = .ok (.getfield 35, 3) := by decide +kernel
theorem dX0_kidsAreMarked_38 : decode cX0_kidsAreMarked 38 = .ok (.iload_n 1, 1) := by decide +kernel
theorem dX0_kidsAreMarked_39 : decode cX0_kidsAreMarked 39 = .ok (.iconst 3, 1) := by decide +kernel
theorem dX0_kidsAreMarked_40 : decode cX0_kidsAreMarked 40 = .ok (.imul, 1) := by decide +kernel
theorem dX0_kidsAreMarked_41 : decode cX0_kidsAreMarked 41 = .ok (.iload_n 3, 1) := by decide +kernel
theorem dX0_kidsAreMarked_42 : decode cX0_kidsAreMarked 42 = .ok (.iadd, 1) := by decide +kernel
theorem dX0_kidsAreMarked_43 : decode cX0_kidsAreMarked 43 = .ok (.iaload, 1) := by decide +kernel
theorem dX0_kidsAreMarked_44 : decode cX0_kidsAreMarked 44 = .ok (.invokevirtual 74, 3) := by decide +kernel
theorem dX0_kidsAreMarked_47 : decode cX0_kidsAreMarked 47 = .ok (.baload, 1) := by decide +kernel
theorem dX0_kidsAreMarked_48 : decode cX0_kidsAreMarked 48 = .ok (.ifCond .ne 5, 3) := by decide +kernel
theorem dX0_kidsAreMarked_51 : decode cX0_kidsAreMarked 51 = .ok (.iconst 0, 1) := by decide +kernel
theorem dX0_kidsAreMarked_52 : decode cX0_kidsAreMarked 52 = .ok (.ireturn, 1) := by decide +kernel
theorem dX0_kidsAreMarked_53 : decode cX0_kidsAreMarked 53 = .ok (.iinc 3 1, 3) := by decide +kernel
theorem dX0_kidsAreMarked_56 : decode cX0_kidsAreMarked 56 = .ok (.goto (-32), 3) := by decide +kernel
theorem dX0_kidsAreMarked_59 : decode cX0_kidsAreMarked 59 = .ok (.iconst 1, 1) := by decide +kernel
theorem dX0_kidsAreMarked_60 : decode cX0_kidsAreMarked 60 = .ok (.ireturn, 1) := by decide +kernel
set_option maxRecDepth 10000 in
set_option maxHeartbeats 4000000 in
theorem A_X0_kidsAreMarked_24 {Z : az_Z} {d : Nat} (C : az_C Z yX0_kidsAreMarked cX0_kidsAreMarked 4 (some .boolean) d) (hD : 2 ≤ d) (n : Nat) (k : Nat) : ∀ {σ : az_Hp} {v0 v1 v2 v3 : Int} {r : Int}, fz_X0_kidsAreMarked_24 n k σ v0 v1 v2 v3 = some r → az_AW Z 4 24 [(2, v0), (0, v1), (0, v2), (0, v3)] [] σ (some (0, r), σ) := by
  have hd1 : 1 ≤ d := by omega
  induction k with
  | zero => intro σ v0 v1 v2 v3 r h; simp [fz_X0_kidsAreMarked_24] at h
  | succ k ih =>
    intro σ v0 v1 v2 v3 r h
    unfold fz_X0_kidsAreMarked_24 at h
    refine az_il3 (pc := 24) C dX0_kidsAreMarked_24 ?_
    refine az_il2 (pc := 25) C dX0_kidsAreMarked_25 ?_
    refine az_icmp_ge (pc := 26) (tgt := 59) C h dX0_kidsAreMarked_26 (by decide) (fun _ h => ?_) (fun _ h => ?_)
    · refine az_ik1 (pc := 59) C dX0_kidsAreMarked_59 ?_
      obtain rfl := Option.some.inj h
      exact az_zreturn (pc := 60) C (by decide) dX0_kidsAreMarked_60 rfl
    refine az_al0 (pc := 29) C rfl rfl dX0_kidsAreMarked_29 ?_
    refine az_getR (pc := 30) (c2 := 15) C h fl_X0_31 rfl rfl dX0_kidsAreMarked_30 (fun h => ?_)
    refine az_al0 (pc := 33) C rfl rfl dX0_kidsAreMarked_33 ?_
    refine az_al0 (pc := 34) C rfl rfl dX0_kidsAreMarked_34 ?_
    refine az_getR (pc := 35) (c2 := 13) C h fl_X0_35 rfl rfl dX0_kidsAreMarked_35 (fun h => ?_)
    refine az_il1 (pc := 38) C dX0_kidsAreMarked_38 ?_
    refine az_ik3 (pc := 39) C dX0_kidsAreMarked_39 ?_
    refine az_imul (pc := 40) C dX0_kidsAreMarked_40 ?_
    refine az_il3 (pc := 41) C dX0_kidsAreMarked_41 ?_
    refine az_iadd (pc := 42) C dX0_kidsAreMarked_42 ?_
    refine az_iaload (pc := 43) C h dX0_kidsAreMarked_43 (fun h => ?_)
    refine az_cV1pi (pc := 44) (c := 0) C hd1 h mv_X0_top ml_X0_74 rfl (fun x hx => A_X0_top (by omega) n hx) dX0_kidsAreMarked_44 (fun r4 h => ?_)
    refine az_zaload (pc := 47) C h dX0_kidsAreMarked_47 (fun h => ?_)
    refine az_if_ne (pc := 48) (tgt := 53) C h dX0_kidsAreMarked_48 (by decide) (fun _ h => ?_) (fun _ h => ?_)
    · refine az_ii3 (pc := 53) C az_n1 rfl rfl dX0_kidsAreMarked_53 ?_
      refine az_goto (pc := 56) (tgt := 24) C dX0_kidsAreMarked_56 (by decide) ?_
      exact (ih h)
    refine az_ik0 (pc := 51) C dX0_kidsAreMarked_51 ?_
    obtain rfl := Option.some.inj h
    exact az_zreturn (pc := 52) C (by decide) dX0_kidsAreMarked_52 rfl
set_option maxRecDepth 10000 in
set_option maxHeartbeats 4000000 in
theorem A_X0_kidsAreMarked_e {Z : az_Z} {d : Nat} (C : az_C Z yX0_kidsAreMarked cX0_kidsAreMarked 4 (some .boolean) d) (hD : 2 ≤ d) (n : Nat) {σ : az_Hp} {v0 v1 : Int} {r : Int} (h : fz_X0_kidsAreMarked n σ v0 v1 = some r) : az_AW Z 4 0 [(2, v0), (0, v1), (31, 0), (31, 0)] [] σ (some (0, r), σ) := by
  have hd1 : 1 ≤ d := by omega
  unfold fz_X0_kidsAreMarked at h
  refine az_al0 (pc := 0) C rfl rfl dX0_kidsAreMarked_0 ?_
  refine az_il1 (pc := 1) C dX0_kidsAreMarked_1 ?_
  refine az_cV1pi (pc := 2) (c := 0) C hd1 h mv_X0_isVariable ml_X0_77 rfl (fun x hx => A_X0_isVariable (by omega) hx) dX0_kidsAreMarked_2 (fun r1 h => ?_)
  refine az_if_eq (pc := 5) (tgt := 12) C h dX0_kidsAreMarked_5 (by decide) (fun _ h => ?_) (fun _ h => ?_)
  · refine az_al0 (pc := 12) C rfl rfl dX0_kidsAreMarked_12 ?_
    refine az_getR (pc := 13) (c2 := 13) C h fl_X0_15 rfl rfl dX0_kidsAreMarked_13 (fun h => ?_)
    refine az_il1 (pc := 16) C dX0_kidsAreMarked_16 ?_
    refine az_iaload (pc := 17) C h dX0_kidsAreMarked_17 (fun h => ?_)
    refine az_cS1pi (pc := 18) C hd1 h ms_X7_arity ml_X0_64 rfl (fun x hx => A_X7_arity (by omega) hx) dX0_kidsAreMarked_18 (fun r4 h => ?_)
    refine az_is2 (pc := 21) C rfl rfl dX0_kidsAreMarked_21 ?_
    refine az_ik0 (pc := 22) C dX0_kidsAreMarked_22 ?_
    refine az_is3 (pc := 23) C rfl rfl dX0_kidsAreMarked_23 ?_
    exact (A_X0_kidsAreMarked_24 C hD n n h)
  refine az_ik0 (pc := 8) C dX0_kidsAreMarked_8 ?_
  refine az_goto (pc := 9) (tgt := 21) C dX0_kidsAreMarked_9 (by decide) ?_
  refine az_is2 (pc := 21) C rfl rfl dX0_kidsAreMarked_21 ?_
  refine az_ik0 (pc := 22) C dX0_kidsAreMarked_22 ?_
  refine az_is3 (pc := 23) C rfl rfl dX0_kidsAreMarked_23 ?_
  exact (A_X0_kidsAreMarked_24 C hD n n h)
set_option maxRecDepth 10000 in
set_option maxHeartbeats 4000000 in
theorem A_X0_kidsAreMarked {l : Launch} {d : Nat} (hD : 2 ≤ d) (n : Nat) {σ : az_Hp} {v0 v1 : Int} {r : Int} (h : fz_X0_kidsAreMarked n σ v0 v1 = some r) : az_AC l yX0_kidsAreMarked cX0_kidsAreMarked 4 (some .boolean) d [(2, v0), (0, v1)] σ (some (0, r), σ) := az_AC.of mt_X0_kidsAreMarked rfl rfl rfl (fun Z hZ C => A_X0_kidsAreMarked_e C hD n h)
theorem dX0_hasCircle_0 : decode cX0_hasCircle 0 = .ok (.iconst 0, 1) := by decide +kernel
theorem dX0_hasCircle_1 : decode cX0_hasCircle 1 = .ok (.istore_n 1, 1) := by decide +kernel
theorem dX0_hasCircle_2 : decode cX0_hasCircle 2 = .ok (.iload_n 1, 1) := by decide +kernel
theorem dX0_hasCircle_3 : decode cX0_hasCircle 3 = .ok (.aload_n 0, 1) := by decide +kernel
theorem dX0_hasCircle_4 : decode cX0_hasCircle 4 = .ok (.getfield 9, 3) := by decide +kernel
theorem dX0_hasCircle_7 : decode cX0_hasCircle 7 = .ok (.if_icmp .ge 16, 3) := by decide +kernel
theorem dX0_hasCircle_10 : decode cX0_hasCircle 10 = .ok (.aload_n 0, 1) := by decide +kernel
theorem dX0_hasCircle_11 : decode cX0_hasCircle 11 = .ok (.getfield 31, 3) := by decide +kernel
theorem dX0_hasCircle_14 : decode cX0_hasCircle 14 = .ok (.iload_n 1, 1) := by decide +kernel
theorem dX0_hasCircle_15 : decode cX0_hasCircle 15 = .ok (.iconst 0, 1) := by decide +kernel
theorem dX0_hasCircle_16 : decode cX0_hasCircle 16 = .ok (.bastore, 1) := by decide +kernel
theorem dX0_hasCircle_17 : decode cX0_hasCircle 17 = .ok (.iinc 1 1, 3) := by decide +kernel
theorem dX0_hasCircle_20 : decode cX0_hasCircle 20 = .ok (.goto (-18), 3) := by decide +kernel
theorem dX0_hasCircle_23 : decode cX0_hasCircle 23 = .ok (.iconst 1, 1) := by decide +kernel
theorem dX0_hasCircle_24 : decode cX0_hasCircle 24 = .ok (.istore_n 1, 1) := by decide +kernel
theorem dX0_hasCircle_25 : decode cX0_hasCircle 25 = .ok (.iconst 0, 1) := by decide +kernel
theorem dX0_hasCircle_26 : decode cX0_hasCircle 26 = .ok (.istore_n 2, 1) := by decide +kernel
theorem dX0_hasCircle_27 : decode cX0_hasCircle 27 = .ok (.iload_n 2, 1) := by decide +kernel
theorem dX0_hasCircle_28 : decode cX0_hasCircle 28 = .ok (.aload_n 0, 1) := by decide +kernel
theorem dX0_hasCircle_29 : decode cX0_hasCircle 29 = .ok (.getfield 9, 3) := by decide +kernel
theorem dX0_hasCircle_32 : decode cX0_hasCircle 32 = .ok (.if_icmp .gt 67, 3) := by decide +kernel
theorem dX0_hasCircle_35 : decode cX0_hasCircle 35 = .ok (.iload_n 1, 1) := by decide +kernel
theorem dX0_hasCircle_36 : decode cX0_hasCircle 36 = .ok (.ifCond .eq 63, 3) := by decide +kernel
theorem dX0_hasCircle_39 : decode cX0_hasCircle 39 = .ok (.iconst 0, 1) := by decide +kernel
theorem dX0_hasCircle_40 : decode cX0_hasCircle 40 = .ok (.istore_n 1, 1) := by decide +kernel
theorem dX0_hasCircle_41 : decode cX0_hasCircle 41 = .ok (.iconst 0, 1) := by decide +kernel
theorem dX0_hasCircle_42 : decode cX0_hasCircle 42 = .ok (.istore_n 3, 1) := by decide +kernel
theorem dX0_hasCircle_43 : decode cX0_hasCircle 43 = .ok (.iload_n 3, 1) := by decide +kernel
theorem dX0_hasCircle_44 : decode cX0_hasCircle 44 = .ok (.aload_n 0, 1) := by decide +kernel
theorem dX0_hasCircle_45 : decode cX0_hasCircle 45 = .ok (.getfield 9, 3) := by decide +kernel
theorem dX0_hasCircle_48 : decode cX0_hasCircle 48 = .ok (.if_icmp .ge 45, 3) := by decide +kernel
theorem dX0_hasCircle_51 : decode cX0_hasCircle 51 = .ok (.aload_n 0, 1) := by decide +kernel
theorem dX0_hasCircle_52 : decode cX0_hasCircle 52 = .ok (.getfield 25, 3) := by decide +kernel
theorem dX0_hasCircle_55 : decode cX0_hasCircle 55 = .ok (.iload_n 3, 1) := by decide +kernel
theorem dX0_hasCircle_56 : decode cX0_hasCircle 56 = .ok (.iaload, 1) := by decide +kernel
theorem dX0_hasCircle_57 : decode cX0_hasCircle 57 = .ok (.iload_n 3, 1) := by decide +kernel
theorem dX0_hasCircle_58 : decode cX0_hasCircle 58 = .ok (.if_icmp .ne 29, 3) := by decide +kernel
theorem dX0_hasCircle_61 : decode cX0_hasCircle 61 = .ok (.aload_n 0, 1) := by decide +kernel
theorem dX0_hasCircle_62 : decode cX0_hasCircle 62 = .ok (.getfield 31, 3) := by decide +kernel
theorem dX0_hasCircle_65 : decode cX0_hasCircle 65 = .ok (.iload_n 3, 1) := by decide +kernel
theorem dX0_hasCircle_66 : decode cX0_hasCircle 66 = .ok (.baload, 1) := by decide +kernel
theorem dX0_hasCircle_67 : decode cX0_hasCircle 67 = .ok (.ifCond .ne 20, 3) := by decide +kernel
theorem dX0_hasCircle_70 : decode cX0_hasCircle 70 = .ok (.aload_n 0, 1) := by decide +kernel
theorem dX0_hasCircle_71 : decode cX0_hasCircle 71 = .ok (.iload_n 3, 1) := by decide +kernel
theorem dX0_hasCircle_72 : decode cX0_hasCircle 72 = .ok (.invokevirtual 81, 3) := by decide +kernel
theorem dX0_hasCircle_75 : decode cX0_hasCircle 75 = .ok (.ifCond .eq 12, 3) := by decide +kernel
theorem dX0_hasCircle_78 : decode cX0_hasCircle 78 = .ok (.aload_n 0, 1) := by decide +kernel
theorem dX0_hasCircle_79 : decode cX0_hasCircle 79 = .ok (.getfield 31, 3) := by decide +kernel
theorem dX0_hasCircle_82 : decode cX0_hasCircle 82 = .ok (.iload_n 3, 1) := by decide +kernel
theorem dX0_hasCircle_83 : decode cX0_hasCircle 83 = .ok (.iconst 1, 1) := by decide +kernel
theorem dX0_hasCircle_84 : decode cX0_hasCircle 84 = .ok (.bastore, 1) := by decide +kernel
theorem dX0_hasCircle_85 : decode cX0_hasCircle 85 = .ok (.iconst 1, 1) := by decide +kernel
theorem dX0_hasCircle_86 : decode cX0_hasCircle 86 = .ok (.istore_n 1, 1) := by decide +kernel
theorem dX0_hasCircle_87 : decode cX0_hasCircle 87 = .ok (.iinc 3 1, 3) := by decide +kernel
theorem dX0_hasCircle_90 : decode cX0_hasCircle 90 = .ok (.goto (-47), 3) := by decide +kernel
theorem dX0_hasCircle_93 : decode cX0_hasCircle 93 = .ok (.iinc 2 1, 3) := by decide +kernel
theorem dX0_hasCircle_96 : decode cX0_hasCircle 96 = .ok (.goto (-69), 3) := by decide +kernel
theorem dX0_hasCircle_99 : decode cX0_hasCircle 99 = .ok (.iconst 0, 1) := by decide +kernel
theorem dX0_hasCircle_100 : decode cX0_hasCircle 100 = .ok (.istore_n 2, 1) := by decide +kernel
theorem dX0_hasCircle_101 : decode cX0_hasCircle 101 = .ok (.iload_n 2, 1) := by decide +kernel
theorem dX0_hasCircle_102 : decode cX0_hasCircle 102 = .ok (.aload_n 0, 1) := by decide +kernel
theorem dX0_hasCircle_103 : decode cX0_hasCircle 103 = .ok (.getfield 9, 3) := by decide +kernel
theorem dX0_hasCircle_106 : decode cX0_hasCircle 106 = .ok (.if_icmp .ge 30, 3) := by decide +kernel
theorem dX0_hasCircle_109 : decode cX0_hasCircle 109 = .ok (.aload_n 0, 1) := by decide +kernel
theorem dX0_hasCircle_110 : decode cX0_hasCircle 110 = .ok (.getfield 25, 3) := by decide +kernel
theorem dX0_hasCircle_113 : decode cX0_hasCircle 113 = .ok (.iload_n 2, 1) := by decide +kernel
theorem dX0_hasCircle_114 : decode cX0_hasCircle 114 = .ok (.iaload, 1) := by decide +kernel
theorem dX0_hasCircle_115 : decode cX0_hasCircle 115 = .ok (.iload_n 2, 1) := by decide +kernel
theorem dX0_hasCircle_116 : decode cX0_hasCircle 116 = .ok (.if_icmp .ne 14, 3) := by decide +kernel
theorem dX0_hasCircle_119 : decode cX0_hasCircle 119 = .ok (.aload_n 0, 1) := by decide +kernel
theorem dX0_hasCircle_120 : decode cX0_hasCircle 120 = .ok (.getfield 31, 3) := by decide +kernel
theorem dX0_hasCircle_123 : decode cX0_hasCircle 123 = .ok (.iload_n 2, 1) := by decide +kernel
theorem dX0_hasCircle_124 : decode cX0_hasCircle 124 = .ok (.baload, 1) := by decide +kernel
theorem dX0_hasCircle_125 : decode cX0_hasCircle 125 = .ok (.ifCond .ne 5, 3) := by decide +kernel
theorem dX0_hasCircle_128 : decode cX0_hasCircle 128 = .ok (.iconst 1, 1) := by decide +kernel
theorem dX0_hasCircle_129 : decode cX0_hasCircle 129 = .ok (.ireturn, 1) := by decide +kernel
theorem dX0_hasCircle_130 : decode cX0_hasCircle 130 = .ok (.iinc 2 1, 3) := by decide +kernel
theorem dX0_hasCircle_133 : decode cX0_hasCircle 133 = .ok (.goto (-32), 3) := by decide +kernel
theorem dX0_hasCircle_136 : decode cX0_hasCircle 136 = .ok (.iconst 0, 1) := by decide +kernel
theorem dX0_hasCircle_137 : decode cX0_hasCircle 137 = .ok (.ireturn, 1) := by decide +kernel
set_option maxRecDepth 10000 in
set_option maxHeartbeats 4000000 in
theorem A_X0_hasCircle_101 {Z : az_Z} {d : Nat} (C : az_C Z yX0_hasCircle cX0_hasCircle 4 (some .boolean) d) (hD : 3 ≤ d) (n : Nat) (k : Nat) : ∀ {σ : az_Hp} {v0 v2 : Int} {r : (Int × az_Hp)}, fz_X0_hasCircle_101 n k σ v0 v2 = some r → az_AW Z 4 101 [(2, v0), (31, 0), (0, v2), (31, 0)] [] σ (some (0, r.1), r.2) := by
  have hd1 : 1 ≤ d := by omega
  induction k with
  | zero => intro σ v0 v2 r h; simp [fz_X0_hasCircle_101] at h
  | succ k ih =>
    intro σ v0 v2 r h
    unfold fz_X0_hasCircle_101 at h
    refine az_il2 (pc := 101) C dX0_hasCircle_101 ?_
    refine az_al0 (pc := 102) C rfl rfl dX0_hasCircle_102 ?_
    refine az_getI (pc := 103) C fl_X0_9 rfl dX0_hasCircle_103 ?_
    refine az_icmp_ge (pc := 106) (tgt := 136) C h dX0_hasCircle_106 (by decide) (fun _ h => ?_) (fun _ h => ?_)
    · refine az_ik0 (pc := 136) C dX0_hasCircle_136 ?_
      obtain rfl := Option.some.inj h
      exact az_zreturn (pc := 137) C (by decide) dX0_hasCircle_137 rfl
    refine az_al0 (pc := 109) C rfl rfl dX0_hasCircle_109 ?_
    refine az_getR (pc := 110) (c2 := 13) C h fl_X0_25 rfl rfl dX0_hasCircle_110 (fun h => ?_)
    refine az_il2 (pc := 113) C dX0_hasCircle_113 ?_
    refine az_iaload (pc := 114) C h dX0_hasCircle_114 (fun h => ?_)
    refine az_il2 (pc := 115) C dX0_hasCircle_115 ?_
    refine az_icmp_ne (pc := 116) (tgt := 130) C h dX0_hasCircle_116 (by decide) (fun _ h => ?_) (fun _ h => ?_)
    · refine az_ii2 (pc := 130) C az_n1 rfl rfl dX0_hasCircle_130 ?_
      refine az_goto (pc := 133) (tgt := 101) C dX0_hasCircle_133 (by decide) ?_
      exact (ih h)
    refine az_al0 (pc := 119) C rfl rfl dX0_hasCircle_119 ?_
    refine az_getR (pc := 120) (c2 := 15) C h fl_X0_31 rfl rfl dX0_hasCircle_120 (fun h => ?_)
    refine az_il2 (pc := 123) C dX0_hasCircle_123 ?_
    refine az_zaload (pc := 124) C h dX0_hasCircle_124 (fun h => ?_)
    refine az_if_ne (pc := 125) (tgt := 130) C h dX0_hasCircle_125 (by decide) (fun _ h => ?_) (fun _ h => ?_)
    · refine az_ii2 (pc := 130) C az_n1 rfl rfl dX0_hasCircle_130 ?_
      refine az_goto (pc := 133) (tgt := 101) C dX0_hasCircle_133 (by decide) ?_
      exact (ih h)
    refine az_ik1 (pc := 128) C dX0_hasCircle_128 ?_
    obtain rfl := Option.some.inj h
    exact az_zreturn (pc := 129) C (by decide) dX0_hasCircle_129 rfl
set_option maxRecDepth 10000 in
set_option maxHeartbeats 4000000 in
theorem A_X0_hasCircle_43 {Z : az_Z} {d : Nat} (C : az_C Z yX0_hasCircle cX0_hasCircle 4 (some .boolean) d) (hD : 3 ≤ d) (n : Nat) {k27 : az_Hp → Int → Int → Int → Option (Int × az_Hp)} (hk27 : ∀ {σ : az_Hp} {v0 v1 v2 : Int} {r : (Int × az_Hp)}, k27 σ v0 v1 v2 = some r → az_AW Z 4 27 [(2, v0), (0, v1), (0, v2), (31, 0)] [] σ (some (0, r.1), r.2)) (k : Nat) : ∀ {σ : az_Hp} {v0 v1 v2 v3 : Int} {r : (Int × az_Hp)}, fz_X0_hasCircle_43 n k27 k σ v0 v1 v2 v3 = some r → az_AW Z 4 43 [(2, v0), (0, v1), (0, v2), (0, v3)] [] σ (some (0, r.1), r.2) := by
  have hd1 : 1 ≤ d := by omega
  induction k with
  | zero => intro σ v0 v1 v2 v3 r h; simp [fz_X0_hasCircle_43] at h
  | succ k ih =>
    intro σ v0 v1 v2 v3 r h
    unfold fz_X0_hasCircle_43 at h
    refine az_il3 (pc := 43) C dX0_hasCircle_43 ?_
    refine az_al0 (pc := 44) C rfl rfl dX0_hasCircle_44 ?_
    refine az_getI (pc := 45) C fl_X0_9 rfl dX0_hasCircle_45 ?_
    refine az_icmp_ge (pc := 48) (tgt := 93) C h dX0_hasCircle_48 (by decide) (fun _ h => ?_) (fun _ h => ?_)
    · refine az_ii2 (pc := 93) C az_n1 rfl rfl dX0_hasCircle_93 ?_
      refine az_goto (pc := 96) (tgt := 27) C dX0_hasCircle_96 (by decide) ?_
      exact (az_wkk (hk27 h) (az_sE (az_sE (az_sE (az_sJ az_sN)))))
    refine az_al0 (pc := 51) C rfl rfl dX0_hasCircle_51 ?_
    refine az_getR (pc := 52) (c2 := 13) C h fl_X0_25 rfl rfl dX0_hasCircle_52 (fun h => ?_)
    refine az_il3 (pc := 55) C dX0_hasCircle_55 ?_
    refine az_iaload (pc := 56) C h dX0_hasCircle_56 (fun h => ?_)
    refine az_il3 (pc := 57) C dX0_hasCircle_57 ?_
    refine az_icmp_ne (pc := 58) (tgt := 87) C h dX0_hasCircle_58 (by decide) (fun _ h => ?_) (fun _ h => ?_)
    · refine az_ii3 (pc := 87) C az_n1 rfl rfl dX0_hasCircle_87 ?_
      refine az_goto (pc := 90) (tgt := 43) C dX0_hasCircle_90 (by decide) ?_
      exact (ih h)
    refine az_al0 (pc := 61) C rfl rfl dX0_hasCircle_61 ?_
    refine az_getR (pc := 62) (c2 := 15) C h fl_X0_31 rfl rfl dX0_hasCircle_62 (fun h => ?_)
    refine az_il3 (pc := 65) C dX0_hasCircle_65 ?_
    refine az_zaload (pc := 66) C h dX0_hasCircle_66 (fun h => ?_)
    refine az_if_ne (pc := 67) (tgt := 87) C h dX0_hasCircle_67 (by decide) (fun _ h => ?_) (fun _ h => ?_)
    · refine az_ii3 (pc := 87) C az_n1 rfl rfl dX0_hasCircle_87 ?_
      refine az_goto (pc := 90) (tgt := 43) C dX0_hasCircle_90 (by decide) ?_
      exact (ih h)
    refine az_al0 (pc := 70) C rfl rfl dX0_hasCircle_70 ?_
    refine az_il3 (pc := 71) C dX0_hasCircle_71 ?_
    refine az_cV1pi (pc := 72) (c := 0) C hd1 h mv_X0_kidsAreMarked ml_X0_81 rfl (fun x hx => A_X0_kidsAreMarked (by omega) n hx) dX0_hasCircle_72 (fun r5 h => ?_)
    refine az_if_eq (pc := 75) (tgt := 87) C h dX0_hasCircle_75 (by decide) (fun _ h => ?_) (fun _ h => ?_)
    · refine az_ii3 (pc := 87) C az_n1 rfl rfl dX0_hasCircle_87 ?_
      refine az_goto (pc := 90) (tgt := 43) C dX0_hasCircle_90 (by decide) ?_
      exact (ih h)
    refine az_al0 (pc := 78) C rfl rfl dX0_hasCircle_78 ?_
    refine az_getR (pc := 79) (c2 := 15) C h fl_X0_31 rfl rfl dX0_hasCircle_79 (fun h => ?_)
    refine az_il3 (pc := 82) C dX0_hasCircle_82 ?_
    refine az_ik1 (pc := 83) C dX0_hasCircle_83 ?_
    refine az_zastore (pc := 84) C h dX0_hasCircle_84 (fun h => ?_)
    refine az_ik1 (pc := 85) C dX0_hasCircle_85 ?_
    refine az_is1 (pc := 86) C rfl rfl dX0_hasCircle_86 ?_
    refine az_ii3 (pc := 87) C az_n1 rfl rfl dX0_hasCircle_87 ?_
    refine az_goto (pc := 90) (tgt := 43) C dX0_hasCircle_90 (by decide) ?_
    exact (ih h)
set_option maxRecDepth 10000 in
set_option maxHeartbeats 4000000 in
theorem A_X0_hasCircle_27 {Z : az_Z} {d : Nat} (C : az_C Z yX0_hasCircle cX0_hasCircle 4 (some .boolean) d) (hD : 3 ≤ d) (n : Nat) (k : Nat) : ∀ {σ : az_Hp} {v0 v1 v2 : Int} {r : (Int × az_Hp)}, fz_X0_hasCircle_27 n k σ v0 v1 v2 = some r → az_AW Z 4 27 [(2, v0), (0, v1), (0, v2), (31, 0)] [] σ (some (0, r.1), r.2) := by
  have hd1 : 1 ≤ d := by omega
  induction k with
  | zero => intro σ v0 v1 v2 r h; simp [fz_X0_hasCircle_27] at h
  | succ k ih =>
    intro σ v0 v1 v2 r h
    unfold fz_X0_hasCircle_27 at h
    refine az_il2 (pc := 27) C dX0_hasCircle_27 ?_
    refine az_al0 (pc := 28) C rfl rfl dX0_hasCircle_28 ?_
    refine az_getI (pc := 29) C fl_X0_9 rfl dX0_hasCircle_29 ?_
    refine az_icmp_gt (pc := 32) (tgt := 99) C h dX0_hasCircle_32 (by decide) (fun _ h => ?_) (fun _ h => ?_)
    · refine az_ik0 (pc := 99) C dX0_hasCircle_99 ?_
      refine az_is2 (pc := 100) C rfl rfl dX0_hasCircle_100 ?_
      exact (az_wkk (A_X0_hasCircle_101 C hD n n h) (az_sE (az_sJ (az_sE (az_sJ az_sN)))))
    refine az_il1 (pc := 35) C dX0_hasCircle_35 ?_
    refine az_if_eq (pc := 36) (tgt := 99) C h dX0_hasCircle_36 (by decide) (fun _ h => ?_) (fun _ h => ?_)
    · refine az_ik0 (pc := 99) C dX0_hasCircle_99 ?_
      refine az_is2 (pc := 100) C rfl rfl dX0_hasCircle_100 ?_
      exact (az_wkk (A_X0_hasCircle_101 C hD n n h) (az_sE (az_sJ (az_sE (az_sJ az_sN)))))
    refine az_ik0 (pc := 39) C dX0_hasCircle_39 ?_
    refine az_is1 (pc := 40) C rfl rfl dX0_hasCircle_40 ?_
    refine az_ik0 (pc := 41) C dX0_hasCircle_41 ?_
    refine az_is3 (pc := 42) C rfl rfl dX0_hasCircle_42 ?_
    exact (A_X0_hasCircle_43 C hD n (fun h => ih h) n h)
set_option maxRecDepth 10000 in
set_option maxHeartbeats 4000000 in
theorem A_X0_hasCircle_2 {Z : az_Z} {d : Nat} (C : az_C Z yX0_hasCircle cX0_hasCircle 4 (some .boolean) d) (hD : 3 ≤ d) (n : Nat) (k : Nat) : ∀ {σ : az_Hp} {v0 v1 : Int} {r : (Int × az_Hp)}, fz_X0_hasCircle_2 n k σ v0 v1 = some r → az_AW Z 4 2 [(2, v0), (0, v1), (31, 0), (31, 0)] [] σ (some (0, r.1), r.2) := by
  have hd1 : 1 ≤ d := by omega
  induction k with
  | zero => intro σ v0 v1 r h; simp [fz_X0_hasCircle_2] at h
  | succ k ih =>
    intro σ v0 v1 r h
    unfold fz_X0_hasCircle_2 at h
    refine az_il1 (pc := 2) C dX0_hasCircle_2 ?_
    refine az_al0 (pc := 3) C rfl rfl dX0_hasCircle_3 ?_
    refine az_getI (pc := 4) C fl_X0_9 rfl dX0_hasCircle_4 ?_
    refine az_icmp_ge (pc := 7) (tgt := 23) C h dX0_hasCircle_7 (by decide) (fun _ h => ?_) (fun _ h => ?_)
    · refine az_ik1 (pc := 23) C dX0_hasCircle_23 ?_
      refine az_is1 (pc := 24) C rfl rfl dX0_hasCircle_24 ?_
      refine az_ik0 (pc := 25) C dX0_hasCircle_25 ?_
      refine az_is2 (pc := 26) C rfl rfl dX0_hasCircle_26 ?_
      exact (A_X0_hasCircle_27 C hD n n h)
    refine az_al0 (pc := 10) C rfl rfl dX0_hasCircle_10 ?_
    refine az_getR (pc := 11) (c2 := 15) C h fl_X0_31 rfl rfl dX0_hasCircle_11 (fun h => ?_)
    refine az_il1 (pc := 14) C dX0_hasCircle_14 ?_
    refine az_ik0 (pc := 15) C dX0_hasCircle_15 ?_
    refine az_zastore (pc := 16) C h dX0_hasCircle_16 (fun h => ?_)
    refine az_ii1 (pc := 17) C az_n1 rfl rfl dX0_hasCircle_17 ?_
    refine az_goto (pc := 20) (tgt := 2) C dX0_hasCircle_20 (by decide) ?_
    exact (ih h)
set_option maxRecDepth 10000 in
set_option maxHeartbeats 4000000 in
theorem A_X0_hasCircle_e {Z : az_Z} {d : Nat} (C : az_C Z yX0_hasCircle cX0_hasCircle 4 (some .boolean) d) (hD : 3 ≤ d) (n : Nat) {σ : az_Hp} {v0 : Int} {r : (Int × az_Hp)} (h : fz_X0_hasCircle n σ v0 = some r) : az_AW Z 4 0 [(2, v0), (31, 0), (31, 0), (31, 0)] [] σ (some (0, r.1), r.2) := by
  have hd1 : 1 ≤ d := by omega
  unfold fz_X0_hasCircle at h
  refine az_ik0 (pc := 0) C dX0_hasCircle_0 ?_
  refine az_is1 (pc := 1) C rfl rfl dX0_hasCircle_1 ?_
  exact (A_X0_hasCircle_2 C hD n n h)
set_option maxRecDepth 10000 in
set_option maxHeartbeats 4000000 in
theorem A_X0_hasCircle {l : Launch} {d : Nat} (hD : 3 ≤ d) (n : Nat) {σ : az_Hp} {v0 : Int} {r : (Int × az_Hp)} (h : fz_X0_hasCircle n σ v0 = some r) : az_AC l yX0_hasCircle cX0_hasCircle 4 (some .boolean) d [(2, v0)] σ (some (0, r.1), r.2) := az_AC.of mt_X0_hasCircle rfl rfl rfl (fun Z hZ C => A_X0_hasCircle_e C hD n h)
theorem dX0_join_0 : decode cX0_join 0 = .ok (.iload_n 1, 1) := by decide +kernel
theorem dX0_join_1 : decode cX0_join 1 = .ok (.ifCond .lt 7, 3) := by decide +kernel
theorem dX0_join_4 : decode cX0_join 4 = .ok (.iload_n 2, 1) := by decide +kernel
theorem dX0_join_5 : decode cX0_join 5 = .ok (.ifCond .ge 5, 3) := by decide +kernel
theorem dX0_join_8 : decode cX0_join 8 = .ok (.iconst 0, 1) := by decide +kernel
theorem dX0_join_9 : decode cX0_join 9 = .ok (.ireturn, 1) := by decide +kernel
theorem dX0_join_10 : decode cX0_join 10 = .ok (.aload_n 0, 1) := by decide +kernel
theorem dX0_join_11 : decode cX0_join 11 = .ok (.getfield 38, 3) := by decide +kernel
theorem dX0_join_14 : decode cX0_join 14 = .ok (.iconst 0, 1) := by decide +kernel
theorem dX0_join_15 : decode cX0_join 15 = .ok (.iload_n 1, 1) := by decide +kernel
theorem dX0_join_16 : decode cX0_join 16 = .ok (.iastore, 1) := by decide +kernel
theorem dX0_join_17 : decode cX0_join 17 = .ok (.aload_n 0, 1) := by decide +kernel
theorem dX0_join_18 : decode cX0_join 18 = .ok (.getfield 38, 3) := by decide +kernel
theorem dX0_join_21 : decode cX0_join 21 = .ok (.iconst 1, 1) := by decide +kernel
theorem dX0_join_22 : decode cX0_join 22 = .ok (.iload_n 2, 1) := by decide +kernel
theorem dX0_join_23 : decode cX0_join 23 = .ok (.iastore, 1) := by decide +kernel
theorem dX0_join_24 : decode cX0_join 24 = .ok (.iconst 2, 1) := by decide +kernel
theorem dX0_join_25 : decode cX0_join 25 = .ok (.istore 4, 2) := by decide +kernel
theorem dX0_join_27 : decode cX0_join 27 = .ok (.iconst 0, 1) := by decide +kernel
theorem dX0_join_28 : decode cX0_join 28 = .ok (.istore 5, 2) := by decide +kernel
theorem dX0_join_30 : decode cX0_join 30 = .ok (.iload 5, 2) := by decide +kernel
theorem dX0_join_32 : decode cX0_join 32 = .ok (.ldc 73, 2) := by decide +kernel
theorem dX0_join_34 : decode cX0_join 34 = .ok (.if_icmp .ge 239, 3) := by decide +kernel
theorem dX0_join_37 : decode cX0_join 37 = .ok (.iload 4, 2) := by decide +kernel
theorem dX0_join_39 : decode cX0_join 39 = .ok (.iconst 1, 1) := by decide +kernel
theorem dX0_join_40 : decode cX0_join 40 = .ok (.if_icmp .le 233, 3) := by decide +kernel
theorem dX0_join_43 : decode cX0_join 43 = .ok (.iinc 4 (-2), 3) := by decide +kernel
theorem dX0_join_46 : decode cX0_join 46 = .ok (.aload_n 0, 1) := by decide +kernel
theorem dX0_join_47 : decode cX0_join 47 = .ok (.aload_n 0, 1) := by decide +kernel
theorem dX0_join_48 : decode cX0_join 48 = .ok (.getfield 38, 3) := by decide +kernel
theorem dX0_join_51 : decode cX0_join 51 = .ok (.iload 4, 2) := by decide +kernel
theorem dX0_join_53 : decode cX0_join 53 = .ok (.iaload, 1) := by decide +kernel
theorem dX0_join_54 : decode cX0_join 54 = .ok (.invokevirtual 74, 3) := by decide +kernel
theorem dX0_join_57 : decode cX0_join 57 = .ok (.istore 6, 2) := by decide +kernel
theorem dX0_join_59 : decode cX0_join 59 = .ok (.aload_n 0, 1) := by decide +kernel
theorem dX0_join_60 : decode cX0_join 60 = .ok (.aload_n 0, 1) := by decide +kernel
theorem dX0_join_61 : decode cX0_join 61 = .ok (.getfield 38, 3) := by decide +kernel
theorem dX0_join_64 : decode cX0_join 64 = .ok (.iload 4, 2) := by decide +kernel
theorem dX0_join_66 : decode cX0_join 66 = .ok (.iconst 1, 1) := by decide +kernel
theorem dX0_join_67 : decode cX0_join 67 = .ok (.iadd, 1) := by decide +kernel
theorem dX0_join_68 : decode cX0_join 68 = .ok (.iaload, 1) := by decide +kernel
theorem dX0_join_69 : decode cX0_join 69 = .ok (.invokevirtual 74, 3) := by decide +kernel
theorem dX0_join_72 : decode cX0_join 72 = .ok (.istore 7, 2) := by decide +kernel
theorem dX0_join_74 : decode cX0_join 74 = .ok (.iload 6, 2) := by decide +kernel
theorem dX0_join_76 : decode cX0_join 76 = .ok (.iload 7, 2) := by decide +kernel
theorem dX0_join_78 : decode cX0_join 78 = .ok (.if_icmp .ne 6, 3) := by decide +kernel
theorem dX0_join_81 : decode cX0_join 81 = .ok (.goto 186, 3) := by decide +kernel
theorem dX0_join_84 : decode cX0_join 84 = .ok (.aload_n 0, 1) := by decide +kernel
theorem dX0_join_85 : decode cX0_join 85 = .ok (.iload 6, 2) := by decide +kernel
theorem dX0_join_87 : decode cX0_join 87 = .ok (.invokevirtual 77, 3) := by decide +kernel
theorem dX0_join_90 : decode cX0_join 90 = .ok (.ifCond .ne 12, 3) := by decide +kernel
theorem dX0_join_93 : decode cX0_join 93 = .ok (.aload_n 0, 1) := by decide +kernel
theorem dX0_join_94 : decode cX0_join 94 = .ok (.iload 7, 2) := by decide +kernel
theorem dX0_join_96 : decode cX0_join 96 = .ok (.invokevirtual 77, 3) := by decide +kernel
theorem dX0_join_99 : decode cX0_join 99 = .ok (.ifCond .eq 7, 3) := by decide +kernel
theorem dX0_join_102 : decode cX0_join 102 = .ok (.iconst 1, 1) := by decide +kernel
theorem dX0_join_103 : decode cX0_join 103 = .ok (.goto 4, 3) := by decide +kernel
theorem dX0_join_106 : decode cX0_join 106 = .ok (.iconst 0, 1) := by decide +kernel
theorem dX0_join_107 : decode cX0_join 107 = .ok (.istore 8, 2) := by decide +kernel
theorem dX0_join_109 : decode cX0_join 109 = .ok (.iload 8, 2) := by decide +kernel
theorem dX0_join_111 : decode cX0_join 111 = .ok (.ifCond .eq 10, 3) := by decide +kernel
theorem dX0_join_114 : decode cX0_join 114 = .ok (.iload_n 3, 1) := by decide +kernel
theorem dX0_join_115 : decode cX0_join 115 = .ok (.ifCond .eq 25, 3) := by decide +kernel
theorem dX0_join_118 : decode cX0_join 118 = .ok (.goto 20, 3) := by decide +kernel
theorem dX0_join_121 : decode cX0_join 121 = .ok (.aload_n 0, 1) := by decide +kernel
theorem dX0_join_122 : decode cX0_join 122 = .ok (.getfield 15, 3) := by decide +kernel
theorem dX0_join_125 : decode cX0_join 125 = .ok (.iload 6, 2) := by decide +kernel
theorem dX0_join_127 : decode cX0_join 127 = .ok (.iaload, 1) := by decide +kernel
theorem dX0_join_128 : decode cX0_join 128 = .ok (.aload_n 0, 1) := by decide +kernel
theorem dX0_join_129 : decode cX0_join 129 = .ok (.getfield 15, 3) := by decide +kernel
theorem dX0_join_132 : decode cX0_join 132 = .ok (.iload 7, 2) := by decide +kernel
theorem dX0_join_134 : decode cX0_join 134 = .ok (.iaload, 1) := by decide +kernel
theorem dX0_join_135 : decode cX0_join 135 = .ok (.if_icmp .eq 5, 3) := by decide +kernel
theorem dX0_join_138 : decode cX0_join 138 = .ok (.iconst 0, 1) := by decide +kernel
theorem dX0_join_139 : decode cX0_join 139 = .ok (.ireturn, 1) := by decide +kernel
theorem dX0_join_140 : decode cX0_join 140 = .ok (.aload_n 0, 1) := by decide +kernel
theorem dX0_join_141 : decode cX0_join 141 = .ok (.iload 6, 2) := by decide +kernel
theorem dX0_join_143 : decode cX0_join 143 = .ok (.invokevirtual 77, 3) := by decide +kernel
theorem dX0_join_146 : decode cX0_join 146 = .ok (.ifCond .eq 15, 3) := by decide +kernel
theorem dX0_join_149 : decode cX0_join 149 = .ok (.aload_n 0, 1) := by decide +kernel
theorem dX0_join_150 : decode cX0_join 150 = .ok (.getfield 25, 3) := by decide +kernel
theorem dX0_join_153 : decode cX0_join 153 = .ok (.iload 6, 2) := by decide +kernel
theorem dX0_join_155 : decode cX0_join 155 = .ok (.iload 7, 2) := by decide +kernel
theorem dX0_join_157 : decode cX0_join 157 = .ok (.iastore, 1) := by decide +kernel
theorem dX0_join_158 : decode cX0_join 158 = .ok (.goto 109, 3) := by decide +kernel
theorem dX0_join_161 : decode cX0_join 161 = .ok (.aload_n 0, 1) := by decide +kernel
theorem dX0_join_162 : decode cX0_join 162 = .ok (.getfield 25, 3) := by decide +kernel
theorem dX0_join_165 : decode cX0_join 165 = .ok (.iload 7, 2) := by decide +kernel
theorem dX0_join_167 : decode cX0_join 167 = .ok (.iload 6, 2) := by decide +kernel
theorem dX0_join_169 : decode cX0_join 169 = .ok (.iastore, 1) := by decide +kernel
theorem dX0_join_170 : decode cX0_join 170 = .ok (.aload_n 0, 1) := by decide +kernel
theorem dX0_join_171 : decode cX0_join 171 = .ok (.iload 7, 2) := by decide +kernel
theorem dX0_join_173 : decode cX0_join 173 = .ok (.invokevirtual 77, 3) := by decide +kernel
theorem dX0_join_176 : decode cX0_join 176 = .ok (.ifCond .eq 7, 3) := by decide +kernel
theorem dX0_join_179 : decode cX0_join 179 = .ok (.iconst 0, 1) := by decide +kernel
theorem dX0_join_180 : decode cX0_join 180 = .ok (.goto 13, 3) := by decide +kernel
theorem dX0_join_183 : decode cX0_join 183 = .ok (.aload_n 0, 1) := by decide +kernel
theorem dX0_join_184 : decode cX0_join 184 = .ok (.getfield 15, 3) := by decide +kernel
theorem dX0_join_187 : decode cX0_join 187 = .ok (.iload 6, 2) := by decide +kernel
theorem dX0_join_189 : decode cX0_join 189 = .ok (.iaload, 1) := by decide +kernel
theorem dX0_join_190 : decode cX0_join 190 = .ok (.invokestatic 64, 3) := by decide +kernel
theorem dX0_join_193 : decode cX0_join 193 = .ok (.istore 9, 2) := by decide +kernel
theorem dX0_join_195 : decode cX0_join 195 = .ok (.iload 9, 2) := by decide +kernel
theorem dX0_join_197 : decode cX0_join 197 = .ok (.iconst 1, 1) := by decide +kernel
theorem dX0_join_198 : decode cX0_join 198 = .ok (.isub, 1) := by decide +kernel
theorem dX0_join_199 : decode cX0_join 199 = .ok (.istore 10, 2) := by decide +kernel
theorem dX0_join_201 : decode cX0_join 201 = .ok (.iload 10, 2) := by decide +kernel
theorem dX0_join_203 : decode cX0_join 203 = .ok (.ifCond .lt 64, 3) := by decide +kernel
theorem dX0_join_206 : decode cX0_join 206 = .ok (.iload 4, 2) := by decide +kernel
theorem dX0_join_208 : decode cX0_join 208 = .ok (.iconst 2, 1) := by decide +kernel
theorem dX0_join_209 : decode cX0_join 209 = .ok (.iadd, 1) := by decide +kernel
theorem dX0_join_210 : decode cX0_join 210 = .ok (.aload_n 0, 1) := by decide +kernel
theorem dX0_join_211 : decode cX0_join 211 = .ok (.getfield 38, 3) := by decide +kernel
theorem dX0_join_214 : decode cX0_join 214 = .ok (.arraylength, 1) := by decide +kernel
theorem dX0_join_215 : decode cX0_join 215 = .ok (.if_icmp .gt 52, 3) := by decide +kernel
theorem dX0_join_218 : decode cX0_join 218 = .ok (.aload_n 0, 1) := by decide +kernel
theorem dX0_join_219 : decode cX0_join 219 = .ok (.getfield 38, 3) := by decide +kernel
theorem dX0_join_222 : decode cX0_join 222 = .ok (.iload 4, 2) := by decide +kernel
theorem dX0_join_224 : decode cX0_join 224 = .ok (.aload_n 0, 1) := by decide +kernel
theorem dX0_join_225 : decode cX0_join 225 = .ok (.getfield 35, 3) := by decide +kernel
theorem dX0_join_228 : decode cX0_join 228 = .ok (.iload 6, 2) := by decide +kernel
theorem dX0_join_230 : decode cX0_join 230 = .ok (.iconst 3, 1) := by decide +kernel
theorem dX0_join_231 : decode cX0_join 231 = .ok (.imul, 1) := by decide +kernel
theorem dX0_join_232 : decode cX0_join 232 = .ok (.iload 10, 2) := by decide +kernel
theorem dX0_join_234 : decode cX0_join 234 = .ok (.iadd, 1) := by decide +kernel
theorem dX0_join_235 : decode cX0_join 235 = .ok (.iaload, 1) := by decide +kernel
theorem dX0_join_236 : decode cX0_join 236 = .ok (.iastore, 1) := by decide +kernel
theorem dX0_join_237 : decode cX0_join 237 = .ok (.aload_n 0, 1) := by decide +kernel
theorem dX0_join_238 : decode cX0_join 238 = .ok (.getfield 38, 3) := by decide +kernel
theorem dX0_join_241 : decode cX0_join 241 = .ok (.iload 4, 2) := by decide +kernel
theorem dX0_join_243 : decode cX0_join 243 = .ok (.iconst 1, 1) := by decide +kernel
theorem dX0_join_244 : decode cX0_join 244 = .ok (.iadd, 1) := by decide +kernel
theorem dX0_join_245 : decode cX0_join 245 = .ok (.aload_n 0, 1) := by decide +kernel
theorem dX0_join_246 : decode cX0_join 246 = .ok (.getfield 35, 3) := by decide +kernel
theorem dX0_join_249 : decode cX0_join 249 = .ok (.iload 7, 2) := by decide +kernel
theorem dX0_join_251 : decode cX0_join 251 = .ok (.iconst 3, 1) := by decide +kernel
theorem dX0_join_252 : decode cX0_join 252 = .ok (.imul, 1) := by decide +kernel
theorem dX0_join_253 : decode cX0_join 253 = .ok (.iload 10, 2) := by decide +kernel
theorem dX0_join_255 : decode cX0_join 255 = .ok (.iadd, 1) := by decide +kernel
theorem dX0_join_256 : decode cX0_join 256 = .ok (.iaload, 1) := by decide +kernel
theorem dX0_join_257 : decode cX0_join 257 = .ok (.iastore, 1) := by decide +kernel
theorem dX0_join_258 : decode cX0_join 258 = .ok (.iinc 4 2, 3) := by decide +kernel
theorem dX0_join_261 : decode cX0_join 261 = .ok (.iinc 10 (-1), 3) := by decide +kernel
theorem dX0_join_264 : decode cX0_join 264 = .ok (.goto (-63), 3) := by decide +kernel
theorem dX0_join_267 : decode cX0_join 267 = .ok (.iinc 5 1, 3) := by decide +kernel
theorem dX0_join_270 : decode cX0_join 270 = .ok (.goto (-240), 3) := by decide +kernel
theorem dX0_join_273 : decode cX0_join 273 = .ok (.iconst 1, 1) := by decide +kernel
theorem dX0_join_274 : decode cX0_join 274 = .ok (.ireturn, 1) := by decide +kernel
set_option maxRecDepth 10000 in
set_option maxHeartbeats 4000000 in
theorem A_X0_join_201 {Z : az_Z} {d : Nat} (C : az_C Z yX0_join cX0_join 11 (some .boolean) d) (hD : 2 ≤ d) (n : Nat) {k30 : az_Hp → Int → Int → Int → Int → Option (Int × az_Hp)} (hk30 : ∀ {σ : az_Hp} {v0 v3 v4 v5 : Int} {r : (Int × az_Hp)}, k30 σ v0 v3 v4 v5 = some r → az_AW Z 11 30 [(2, v0), (31, 0), (31, 0), (0, v3), (0, v4), (0, v5), (31, 0), (31, 0), (31, 0), (31, 0), (31, 0)] [] σ (some (0, r.1), r.2)) (k : Nat) : ∀ {σ : az_Hp} {v0 v3 v4 v5 v6 v7 v10 : Int} {r : (Int × az_Hp)}, fz_X0_join_201 n k30 k σ v0 v3 v4 v5 v6 v7 v10 = some r → az_AW Z 11 201 [(2, v0), (31, 0), (31, 0), (0, v3), (0, v4), (0, v5), (0, v6), (0, v7), (31, 0), (31, 0), (0, v10)] [] σ (some (0, r.1), r.2) := by
  have hd1 : 1 ≤ d := by omega
  induction k with
  | zero => intro σ v0 v3 v4 v5 v6 v7 v10 r h; simp [fz_X0_join_201] at h
  | succ k ih =>
    intro σ v0 v3 v4 v5 v6 v7 v10 r h
    unfold fz_X0_join_201 at h
    refine az_il10 (pc := 201) C dX0_join_201 ?_
    refine az_if_lt (pc := 203) (tgt := 267) C h dX0_join_203 (by decide) (fun _ h => ?_) (fun _ h => ?_)
    · refine az_ii5 (pc := 267) C az_n1 rfl rfl dX0_join_267 ?_
      refine az_goto (pc := 270) (tgt := 30) C dX0_join_270 (by decide) ?_
      exact (az_wkk (hk30 h) (az_sE (az_sJ (az_sJ (az_sE (az_sE (az_sE (az_sJ (az_sJ (az_sJ (az_sJ (az_sJ az_sN))))))))))))
    refine az_il4 (pc := 206) C dX0_join_206 ?_
    refine az_ik2 (pc := 208) C dX0_join_208 ?_
    refine az_iadd (pc := 209) C dX0_join_209 ?_
    refine az_al0 (pc := 210) C rfl rfl dX0_join_210 ?_
    refine az_getR (pc := 211) (c2 := 13) C h fl_X0_38 rfl rfl dX0_join_211 (fun h => ?_)
    refine az_arraylength (pc := 214) (k := 13) C rfl rfl dX0_join_214 ?_
    refine az_icmp_gt (pc := 215) (tgt := 267) C h dX0_join_215 (by decide) (fun _ h => ?_) (fun _ h => ?_)
    · refine az_ii5 (pc := 267) C az_n1 rfl rfl dX0_join_267 ?_
      refine az_goto (pc := 270) (tgt := 30) C dX0_join_270 (by decide) ?_
      exact (az_wkk (hk30 h) (az_sE (az_sJ (az_sJ (az_sE (az_sE (az_sE (az_sJ (az_sJ (az_sJ (az_sJ (az_sJ az_sN))))))))))))
    refine az_al0 (pc := 218) C rfl rfl dX0_join_218 ?_
    refine az_getR (pc := 219) (c2 := 13) C h fl_X0_38 rfl rfl dX0_join_219 (fun h => ?_)
    refine az_il4 (pc := 222) C dX0_join_222 ?_
    refine az_al0 (pc := 224) C rfl rfl dX0_join_224 ?_
    refine az_getR (pc := 225) (c2 := 13) C h fl_X0_35 rfl rfl dX0_join_225 (fun h => ?_)
    refine az_il6 (pc := 228) C dX0_join_228 ?_
    refine az_ik3 (pc := 230) C dX0_join_230 ?_
    refine az_imul (pc := 231) C dX0_join_231 ?_
    refine az_il10 (pc := 232) C dX0_join_232 ?_
    refine az_iadd (pc := 234) C dX0_join_234 ?_
    refine az_iaload (pc := 235) C h dX0_join_235 (fun h => ?_)
    refine az_iastore (pc := 236) C h dX0_join_236 (fun h => ?_)
    refine az_al0 (pc := 237) C rfl rfl dX0_join_237 ?_
    refine az_getR (pc := 238) (c2 := 13) C h fl_X0_38 rfl rfl dX0_join_238 (fun h => ?_)
    refine az_il4 (pc := 241) C dX0_join_241 ?_
    refine az_ik1 (pc := 243) C dX0_join_243 ?_
    refine az_iadd (pc := 244) C dX0_join_244 ?_
    refine az_al0 (pc := 245) C rfl rfl dX0_join_245 ?_
    refine az_getR (pc := 246) (c2 := 13) C h fl_X0_35 rfl rfl dX0_join_246 (fun h => ?_)
    refine az_il7 (pc := 249) C dX0_join_249 ?_
    refine az_ik3 (pc := 251) C dX0_join_251 ?_
    refine az_imul (pc := 252) C dX0_join_252 ?_
    refine az_il10 (pc := 253) C dX0_join_253 ?_
    refine az_iadd (pc := 255) C dX0_join_255 ?_
    refine az_iaload (pc := 256) C h dX0_join_256 (fun h => ?_)
    refine az_iastore (pc := 257) C h dX0_join_257 (fun h => ?_)
    refine az_ii4 (pc := 258) C az_n2 rfl rfl dX0_join_258 ?_
    refine az_ii10 (pc := 261) C az_nm1 rfl rfl dX0_join_261 ?_
    refine az_goto (pc := 264) (tgt := 201) C dX0_join_264 (by decide) ?_
    exact (ih h)
set_option maxRecDepth 10000 in
set_option maxHeartbeats 4000000 in
theorem A_X0_join_140 {Z : az_Z} {d : Nat} (C : az_C Z yX0_join cX0_join 11 (some .boolean) d) (hD : 2 ≤ d) (n : Nat) {k30 : az_Hp → Int → Int → Int → Int → Option (Int × az_Hp)} (hk30 : ∀ {σ : az_Hp} {v0 v3 v4 v5 : Int} {r : (Int × az_Hp)}, k30 σ v0 v3 v4 v5 = some r → az_AW Z 11 30 [(2, v0), (31, 0), (31, 0), (0, v3), (0, v4), (0, v5), (31, 0), (31, 0), (31, 0), (31, 0), (31, 0)] [] σ (some (0, r.1), r.2)) {σ : az_Hp} {v0 v3 v4 v5 v6 v7 : Int} {r : (Int × az_Hp)} (h : fz_X0_join_140 n k30 σ v0 v3 v4 v5 v6 v7 = some r) : az_AW Z 11 140 [(2, v0), (31, 0), (31, 0), (0, v3), (0, v4), (0, v5), (0, v6), (0, v7), (31, 0), (31, 0), (31, 0)] [] σ (some (0, r.1), r.2) := by
  have hd1 : 1 ≤ d := by omega
  unfold fz_X0_join_140 at h
  refine az_al0 (pc := 140) C rfl rfl dX0_join_140 ?_
  refine az_il6 (pc := 141) C dX0_join_141 ?_
  refine az_cV1pi (pc := 143) (c := 0) C hd1 h mv_X0_isVariable ml_X0_77 rfl (fun x hx => A_X0_isVariable (by omega) hx) dX0_join_143 (fun r1 h => ?_)
  refine az_if_eq (pc := 146) (tgt := 161) C h dX0_join_146 (by decide) (fun _ h => ?_) (fun _ h => ?_)
  · refine az_al0 (pc := 161) C rfl rfl dX0_join_161 ?_
    refine az_getR (pc := 162) (c2 := 13) C h fl_X0_25 rfl rfl dX0_join_162 (fun h => ?_)
    refine az_il7 (pc := 165) C dX0_join_165 ?_
    refine az_il6 (pc := 167) C dX0_join_167 ?_
    refine az_iastore (pc := 169) C h dX0_join_169 (fun h => ?_)
    refine az_al0 (pc := 170) C rfl rfl dX0_join_170 ?_
    refine az_il7 (pc := 171) C dX0_join_171 ?_
    refine az_cV1pi (pc := 173) (c := 0) C hd1 h mv_X0_isVariable ml_X0_77 rfl (fun x hx => A_X0_isVariable (by omega) hx) dX0_join_173 (fun r4 h => ?_)
    refine az_if_eq (pc := 176) (tgt := 183) C h dX0_join_176 (by decide) (fun _ h => ?_) (fun _ h => ?_)
    · refine az_al0 (pc := 183) C rfl rfl dX0_join_183 ?_
      refine az_getR (pc := 184) (c2 := 13) C h fl_X0_15 rfl rfl dX0_join_184 (fun h => ?_)
      refine az_il6 (pc := 187) C dX0_join_187 ?_
      refine az_iaload (pc := 189) C h dX0_join_189 (fun h => ?_)
      refine az_cS1pi (pc := 190) C hd1 h ms_X7_arity ml_X0_64 rfl (fun x hx => A_X7_arity (by omega) hx) dX0_join_190 (fun r7 h => ?_)
      refine az_is9 (pc := 193) C rfl rfl dX0_join_193 ?_
      refine az_il9 (pc := 195) C dX0_join_195 ?_
      refine az_ik1 (pc := 197) C dX0_join_197 ?_
      refine az_isub (pc := 198) C dX0_join_198 ?_
      refine az_is10 (pc := 199) C rfl rfl dX0_join_199 ?_
      exact (az_wkk (A_X0_join_201 C hD n (fun h => hk30 h) n h) (az_sE (az_sJ (az_sJ (az_sE (az_sE (az_sE (az_sE (az_sE (az_sJ (az_sJ (az_sE az_sN))))))))))))
    refine az_ik0 (pc := 179) C dX0_join_179 ?_
    refine az_goto (pc := 180) (tgt := 193) C dX0_join_180 (by decide) ?_
    refine az_is9 (pc := 193) C rfl rfl dX0_join_193 ?_
    refine az_il9 (pc := 195) C dX0_join_195 ?_
    refine az_ik1 (pc := 197) C dX0_join_197 ?_
    refine az_isub (pc := 198) C dX0_join_198 ?_
    refine az_is10 (pc := 199) C rfl rfl dX0_join_199 ?_
    exact (az_wkk (A_X0_join_201 C hD n (fun h => hk30 h) n h) (az_sE (az_sJ (az_sJ (az_sE (az_sE (az_sE (az_sE (az_sE (az_sJ (az_sJ (az_sE az_sN))))))))))))
  refine az_al0 (pc := 149) C rfl rfl dX0_join_149 ?_
  refine az_getR (pc := 150) (c2 := 13) C h fl_X0_25 rfl rfl dX0_join_150 (fun h => ?_)
  refine az_il6 (pc := 153) C dX0_join_153 ?_
  refine az_il7 (pc := 155) C dX0_join_155 ?_
  refine az_iastore (pc := 157) C h dX0_join_157 (fun h => ?_)
  refine az_goto (pc := 158) (tgt := 267) C dX0_join_158 (by decide) ?_
  refine az_ii5 (pc := 267) C az_n1 rfl rfl dX0_join_267 ?_
  refine az_goto (pc := 270) (tgt := 30) C dX0_join_270 (by decide) ?_
  exact (az_wkk (hk30 h) (az_sE (az_sJ (az_sJ (az_sE (az_sE (az_sE (az_sJ (az_sJ (az_sJ (az_sJ (az_sJ az_sN))))))))))))
set_option maxRecDepth 10000 in
set_option maxHeartbeats 4000000 in
theorem A_X0_join_107 {Z : az_Z} {d : Nat} (C : az_C Z yX0_join cX0_join 11 (some .boolean) d) (hD : 2 ≤ d) (n : Nat) {k30 : az_Hp → Int → Int → Int → Int → Option (Int × az_Hp)} (hk30 : ∀ {σ : az_Hp} {v0 v3 v4 v5 : Int} {r : (Int × az_Hp)}, k30 σ v0 v3 v4 v5 = some r → az_AW Z 11 30 [(2, v0), (31, 0), (31, 0), (0, v3), (0, v4), (0, v5), (31, 0), (31, 0), (31, 0), (31, 0), (31, 0)] [] σ (some (0, r.1), r.2)) {σ : az_Hp} {v0 v3 v4 v5 v6 v7 w0 : Int} {r : (Int × az_Hp)} (h : fz_X0_join_107 n k30 σ v0 v3 v4 v5 v6 v7 w0 = some r) : az_AW Z 11 107 [(2, v0), (31, 0), (31, 0), (0, v3), (0, v4), (0, v5), (0, v6), (0, v7), (31, 0), (31, 0), (31, 0)] [(0, w0)] σ (some (0, r.1), r.2) := by
  have hd1 : 1 ≤ d := by omega
  unfold fz_X0_join_107 at h
  refine az_is8 (pc := 107) C rfl rfl dX0_join_107 ?_
  refine az_il8 (pc := 109) C dX0_join_109 ?_
  refine az_if_eq (pc := 111) (tgt := 121) C h dX0_join_111 (by decide) (fun _ h => ?_) (fun _ h => ?_)
  · refine az_al0 (pc := 121) C rfl rfl dX0_join_121 ?_
    refine az_getR (pc := 122) (c2 := 13) C h fl_X0_15 rfl rfl dX0_join_122 (fun h => ?_)
    refine az_il6 (pc := 125) C dX0_join_125 ?_
    refine az_iaload (pc := 127) C h dX0_join_127 (fun h => ?_)
    refine az_al0 (pc := 128) C rfl rfl dX0_join_128 ?_
    refine az_getR (pc := 129) (c2 := 13) C h fl_X0_15 rfl rfl dX0_join_129 (fun h => ?_)
    refine az_il7 (pc := 132) C dX0_join_132 ?_
    refine az_iaload (pc := 134) C h dX0_join_134 (fun h => ?_)
    refine az_icmp_eq (pc := 135) (tgt := 140) C h dX0_join_135 (by decide) (fun _ h => ?_) (fun _ h => ?_)
    · exact (az_wkk (A_X0_join_140 C hD n (fun h => hk30 h) h) (az_sE (az_sJ (az_sJ (az_sE (az_sE (az_sE (az_sE (az_sE (az_sJ (az_sJ (az_sJ az_sN))))))))))))
    refine az_ik0 (pc := 138) C dX0_join_138 ?_
    obtain rfl := Option.some.inj h
    exact az_zreturn (pc := 139) C (by decide) dX0_join_139 rfl
  refine az_il3 (pc := 114) C dX0_join_114 ?_
  refine az_if_eq (pc := 115) (tgt := 140) C h dX0_join_115 (by decide) (fun _ h => ?_) (fun _ h => ?_)
  · exact (az_wkk (A_X0_join_140 C hD n (fun h => hk30 h) h) (az_sE (az_sJ (az_sJ (az_sE (az_sE (az_sE (az_sE (az_sE (az_sJ (az_sJ (az_sJ az_sN))))))))))))
  refine az_goto (pc := 118) (tgt := 138) C dX0_join_118 (by decide) ?_
  refine az_ik0 (pc := 138) C dX0_join_138 ?_
  obtain rfl := Option.some.inj h
  exact az_zreturn (pc := 139) C (by decide) dX0_join_139 rfl
set_option maxRecDepth 10000 in
set_option maxHeartbeats 4000000 in
theorem A_X0_join_30 {Z : az_Z} {d : Nat} (C : az_C Z yX0_join cX0_join 11 (some .boolean) d) (hD : 2 ≤ d) (n : Nat) (k : Nat) : ∀ {σ : az_Hp} {v0 v3 v4 v5 : Int} {r : (Int × az_Hp)}, fz_X0_join_30 n k σ v0 v3 v4 v5 = some r → az_AW Z 11 30 [(2, v0), (31, 0), (31, 0), (0, v3), (0, v4), (0, v5), (31, 0), (31, 0), (31, 0), (31, 0), (31, 0)] [] σ (some (0, r.1), r.2) := by
  have hd1 : 1 ≤ d := by omega
  induction k with
  | zero => intro σ v0 v3 v4 v5 r h; simp [fz_X0_join_30] at h
  | succ k ih =>
    intro σ v0 v3 v4 v5 r h
    unfold fz_X0_join_30 at h
    refine az_il5 (pc := 30) C dX0_join_30 ?_
    refine az_ldc (pc := 32) (x := 1000000) C ct_X0_73 dX0_join_32 (by decide) ?_
    refine az_icmp_ge (pc := 34) (tgt := 273) C h dX0_join_34 (by decide) (fun _ h => ?_) (fun _ h => ?_)
    · refine az_ik1 (pc := 273) C dX0_join_273 ?_
      obtain rfl := Option.some.inj h
      exact az_zreturn (pc := 274) C (by decide) dX0_join_274 rfl
    refine az_il4 (pc := 37) C dX0_join_37 ?_
    refine az_ik1 (pc := 39) C dX0_join_39 ?_
    refine az_icmp_le (pc := 40) (tgt := 273) C h dX0_join_40 (by decide) (fun _ h => ?_) (fun _ h => ?_)
    · refine az_ik1 (pc := 273) C dX0_join_273 ?_
      obtain rfl := Option.some.inj h
      exact az_zreturn (pc := 274) C (by decide) dX0_join_274 rfl
    refine az_ii4 (pc := 43) C az_nm2 rfl rfl dX0_join_43 ?_
    refine az_al0 (pc := 46) C rfl rfl dX0_join_46 ?_
    refine az_al0 (pc := 47) C rfl rfl dX0_join_47 ?_
    refine az_getR (pc := 48) (c2 := 13) C h fl_X0_38 rfl rfl dX0_join_48 (fun h => ?_)
    refine az_il4 (pc := 51) C dX0_join_51 ?_
    refine az_iaload (pc := 53) C h dX0_join_53 (fun h => ?_)
    refine az_cV1pi (pc := 54) (c := 0) C hd1 h mv_X0_top ml_X0_74 rfl (fun x hx => A_X0_top (by omega) n hx) dX0_join_54 (fun r3 h => ?_)
    refine az_is6 (pc := 57) C rfl rfl dX0_join_57 ?_
    refine az_al0 (pc := 59) C rfl rfl dX0_join_59 ?_
    refine az_al0 (pc := 60) C rfl rfl dX0_join_60 ?_
    refine az_getR (pc := 61) (c2 := 13) C h fl_X0_38 rfl rfl dX0_join_61 (fun h => ?_)
    refine az_il4 (pc := 64) C dX0_join_64 ?_
    refine az_ik1 (pc := 66) C dX0_join_66 ?_
    refine az_iadd (pc := 67) C dX0_join_67 ?_
    refine az_iaload (pc := 68) C h dX0_join_68 (fun h => ?_)
    refine az_cV1pi (pc := 69) (c := 0) C hd1 h mv_X0_top ml_X0_74 rfl (fun x hx => A_X0_top (by omega) n hx) dX0_join_69 (fun r6 h => ?_)
    refine az_is7 (pc := 72) C rfl rfl dX0_join_72 ?_
    refine az_il6 (pc := 74) C dX0_join_74 ?_
    refine az_il7 (pc := 76) C dX0_join_76 ?_
    refine az_icmp_ne (pc := 78) (tgt := 84) C h dX0_join_78 (by decide) (fun _ h => ?_) (fun _ h => ?_)
    · refine az_al0 (pc := 84) C rfl rfl dX0_join_84 ?_
      refine az_il6 (pc := 85) C dX0_join_85 ?_
      refine az_cV1pi (pc := 87) (c := 0) C hd1 h mv_X0_isVariable ml_X0_77 rfl (fun x hx => A_X0_isVariable (by omega) hx) dX0_join_87 (fun r7 h => ?_)
      refine az_if_ne (pc := 90) (tgt := 102) C h dX0_join_90 (by decide) (fun _ h => ?_) (fun _ h => ?_)
      · refine az_ik1 (pc := 102) C dX0_join_102 ?_
        refine az_goto (pc := 103) (tgt := 107) C dX0_join_103 (by decide) ?_
        exact (A_X0_join_107 C hD n (fun h => ih h) h)
      refine az_al0 (pc := 93) C rfl rfl dX0_join_93 ?_
      refine az_il7 (pc := 94) C dX0_join_94 ?_
      refine az_cV1pi (pc := 96) (c := 0) C hd1 h mv_X0_isVariable ml_X0_77 rfl (fun x hx => A_X0_isVariable (by omega) hx) dX0_join_96 (fun r8 h => ?_)
      refine az_if_eq (pc := 99) (tgt := 106) C h dX0_join_99 (by decide) (fun _ h => ?_) (fun _ h => ?_)
      · refine az_ik0 (pc := 106) C dX0_join_106 ?_
        exact (A_X0_join_107 C hD n (fun h => ih h) h)
      refine az_ik1 (pc := 102) C dX0_join_102 ?_
      refine az_goto (pc := 103) (tgt := 107) C dX0_join_103 (by decide) ?_
      exact (A_X0_join_107 C hD n (fun h => ih h) h)
    refine az_goto (pc := 81) (tgt := 267) C dX0_join_81 (by decide) ?_
    refine az_ii5 (pc := 267) C az_n1 rfl rfl dX0_join_267 ?_
    refine az_goto (pc := 270) (tgt := 30) C dX0_join_270 (by decide) ?_
    exact (az_wkk (ih h) (az_sE (az_sJ (az_sJ (az_sE (az_sE (az_sE (az_sJ (az_sJ (az_sJ (az_sJ (az_sJ az_sN))))))))))))
set_option maxRecDepth 10000 in
set_option maxHeartbeats 4000000 in
theorem A_X0_join_e {Z : az_Z} {d : Nat} (C : az_C Z yX0_join cX0_join 11 (some .boolean) d) (hD : 2 ≤ d) (n : Nat) {σ : az_Hp} {v0 v1 v2 v3 : Int} {r : (Int × az_Hp)} (h : fz_X0_join n σ v0 v1 v2 v3 = some r) : az_AW Z 11 0 [(2, v0), (0, v1), (0, v2), (0, v3), (31, 0), (31, 0), (31, 0), (31, 0), (31, 0), (31, 0), (31, 0)] [] σ (some (0, r.1), r.2) := by
  have hd1 : 1 ≤ d := by omega
  unfold fz_X0_join at h
  refine az_il1 (pc := 0) C dX0_join_0 ?_
  refine az_if_lt (pc := 1) (tgt := 8) C h dX0_join_1 (by decide) (fun _ h => ?_) (fun _ h => ?_)
  · refine az_ik0 (pc := 8) C dX0_join_8 ?_
    obtain rfl := Option.some.inj h
    exact az_zreturn (pc := 9) C (by decide) dX0_join_9 rfl
  refine az_il2 (pc := 4) C dX0_join_4 ?_
  refine az_if_ge (pc := 5) (tgt := 10) C h dX0_join_5 (by decide) (fun _ h => ?_) (fun _ h => ?_)
  · refine az_al0 (pc := 10) C rfl rfl dX0_join_10 ?_
    refine az_getR (pc := 11) (c2 := 13) C h fl_X0_38 rfl rfl dX0_join_11 (fun h => ?_)
    refine az_ik0 (pc := 14) C dX0_join_14 ?_
    refine az_il1 (pc := 15) C dX0_join_15 ?_
    refine az_iastore (pc := 16) C h dX0_join_16 (fun h => ?_)
    refine az_al0 (pc := 17) C rfl rfl dX0_join_17 ?_
    refine az_getR (pc := 18) (c2 := 13) C h fl_X0_38 rfl rfl dX0_join_18 (fun h => ?_)
    refine az_ik1 (pc := 21) C dX0_join_21 ?_
    refine az_il2 (pc := 22) C dX0_join_22 ?_
    refine az_iastore (pc := 23) C h dX0_join_23 (fun h => ?_)
    refine az_ik2 (pc := 24) C dX0_join_24 ?_
    refine az_is4 (pc := 25) C rfl rfl dX0_join_25 ?_
    refine az_ik0 (pc := 27) C dX0_join_27 ?_
    refine az_is5 (pc := 28) C rfl rfl dX0_join_28 ?_
    exact (az_wkk (A_X0_join_30 C hD n n h) (az_sE (az_sJ (az_sJ (az_sE (az_sE (az_sE (az_sJ (az_sJ (az_sJ (az_sJ (az_sJ az_sN))))))))))))
  refine az_ik0 (pc := 8) C dX0_join_8 ?_
  obtain rfl := Option.some.inj h
  exact az_zreturn (pc := 9) C (by decide) dX0_join_9 rfl
set_option maxRecDepth 10000 in
set_option maxHeartbeats 4000000 in
theorem A_X0_join {l : Launch} {d : Nat} (hD : 2 ≤ d) (n : Nat) {σ : az_Hp} {v0 v1 v2 v3 : Int} {r : (Int × az_Hp)} (h : fz_X0_join n σ v0 v1 v2 v3 = some r) : az_AC l yX0_join cX0_join 11 (some .boolean) d [(2, v0), (0, v1), (0, v2), (0, v3)] σ (some (0, r.1), r.2) := az_AC.of mt_X0_join rfl rfl rfl (fun Z hZ C => A_X0_join_e C hD n h)
theorem dX1_meetLefts_0 : decode cX1_meetLefts 0 = .ok (.aload_n 0, 1) := by decide +kernel
theorem dX1_meetLefts_1 : decode cX1_meetLefts 1 = .ok (.getfield 15, 3) := by decide +kernel
theorem dX1_meetLefts_4 : decode cX1_meetLefts 4 = .ok (.invokevirtual 43, 3) := by decide +kernel
theorem dX1_meetLefts_7 : decode cX1_meetLefts 7 = .ok (.aload_n 0, 1) := by decide +kernel
theorem dX1_meetLefts_8 : decode cX1_meetLefts 8 = .ok (.aload_n 0, 1) := by decide +kernel
theorem dX1_meetLefts_9 : decode cX1_meetLefts 9 = .ok (.getfield 15, 3) := by decide +kernel
theorem dX1_meetLefts_12 : decode cX1_meetLefts 12 = .ok (.aload_n 1, 1) := by decide +kernel
theorem dX1_meetLefts_13 : decode cX1_meetLefts 13 = .ok (.getfield 48, 3) := by decide +kernel
theorem dX1_meetLefts_16 : decode cX1_meetLefts 16 = .ok (.iload_n 2, 1) := by decide +kernel
theorem dX1_meetLefts_17 : decode cX1_meetLefts 17 = .ok (.aaload, 1) := by decide +kernel
theorem dX1_meetLefts_18 : decode cX1_meetLefts 18 = .ok (.iconst 0, 1) := by decide +kernel
theorem dX1_meetLefts_19 : decode cX1_meetLefts 19 = .ok (.iconst 0, 1) := by decide +kernel
theorem dX1_meetLefts_20 : decode cX1_meetLefts 20 = .ok (.iconst 0, 1) := by decide +kernel
theorem dX1_meetLefts_21 : decode cX1_meetLefts 21 = .ok (.invokevirtual 52, 3) := by decide +kernel
theorem dX1_meetLefts_24 : decode cX1_meetLefts 24 = .ok (.putfield 9, 3) := by decide +kernel
theorem dX1_meetLefts_27 : decode cX1_meetLefts 27 = .ok (.aload_n 0, 1) := by decide +kernel
theorem dX1_meetLefts_28 : decode cX1_meetLefts 28 = .ok (.getfield 15, 3) := by decide +kernel
theorem dX1_meetLefts_31 : decode cX1_meetLefts 31 = .ok (.aload_n 1, 1) := by decide +kernel
theorem dX1_meetLefts_32 : decode cX1_meetLefts 32 = .ok (.getfield 48, 3) := by decide +kernel
theorem dX1_meetLefts_35 : decode cX1_meetLefts 35 = .ok (.iload_n 3, 1) := by decide +kernel
theorem dX1_meetLefts_36 : decode cX1_meetLefts 36 = .ok (.aaload, 1) := by decide +kernel
theorem dX1_meetLefts_37 : decode cX1_meetLefts 37 = .ok (.iconst 0, 1) := by decide +kernel
theorem dX1_meetLefts_38 : decode cX1_meetLefts 38 = .ok (.iconst 1, 1) := by decide +kernel
theorem dX1_meetLefts_39 : decode cX1_meetLefts 39 = .ok (.iconst 0, 1) := by decide +kernel
theorem dX1_meetLefts_40 : decode cX1_meetLefts 40 = .ok (.invokevirtual 52, 3) := by decide +kernel
theorem dX1_meetLefts_43 : decode cX1_meetLefts 43 = .ok (.istore 4, 2) := by decide +kernel
theorem dX1_meetLefts_45 : decode cX1_meetLefts 45 = .ok (.aload_n 0, 1) := by decide +kernel
theorem dX1_meetLefts_46 : decode cX1_meetLefts 46 = .ok (.getfield 15, 3) := by decide +kernel
theorem dX1_meetLefts_49 : decode cX1_meetLefts 49 = .ok (.aload_n 0, 1) := by decide +kernel
theorem dX1_meetLefts_50 : decode cX1_meetLefts 50 = .ok (.getfield 9, 3) := by decide +kernel
theorem dX1_meetLefts_53 : decode cX1_meetLefts 53 = .ok (.iload 4, 2) := by decide +kernel
theorem dX1_meetLefts_55 : decode cX1_meetLefts 55 = .ok (.iconst 0, 1) := by decide +kernel
theorem dX1_meetLefts_56 : decode cX1_meetLefts 56 = .ok (.invokevirtual 56, 3) := by decide +kernel
theorem dX1_meetLefts_59 : decode cX1_meetLefts 59 = .ok (.ifCond .ne 5, 3) := by decide +kernel
theorem dX1_meetLefts_62 : decode cX1_meetLefts 62 = .ok (.iconst 0, 1) := by decide +kernel
theorem dX1_meetLefts_63 : decode cX1_meetLefts 63 = .ok (.ireturn, 1) := by decide +kernel
theorem dX1_meetLefts_64 : decode cX1_meetLefts 64 = .ok (.aload_n 0, 1) := by decide +kernel
theorem dX1_meetLefts_65 : decode cX1_meetLefts 65 = .ok (.getfield 15, 3) := by decide +kernel
theorem dX1_meetLefts_68 : decode cX1_meetLefts 68 = .ok (.invokevirtual 60, 3) := by decide +kernel
theorem dX1_meetLefts_71 : decode cX1_meetLefts 71 = .ok (.ifCond .eq 7, 3) := by decide +kernel
theorem dX1_meetLefts_74 : decode cX1_meetLefts 74 = .ok (.iconst 2, 1) := by decide +kernel
theorem dX1_meetLefts_75 : decode cX1_meetLefts 75 = .ok (.goto 4, 3) := by decide +kernel
theorem dX1_meetLefts_78 : decode cX1_meetLefts 78 = .ok (.iconst 1, 1) := by decide +kernel
theorem dX1_meetLefts_79 : decode cX1_meetLefts 79 = .ok (.ireturn, 1) := by decide +kernel
set_option maxRecDepth 10000 in
set_option maxHeartbeats 4000000 in
theorem A_X1_meetLefts_e {Z : az_Z} {d : Nat} (C : az_C Z yX1_meetLefts cX1_meetLefts 5 (some .int) d) (hD : 4 ≤ d) (n : Nat) {σ : az_Hp} {v0 v1 v2 v3 : Int} {r : (Int × az_Hp)} (h : fz_X1_meetLefts n σ v0 v1 v2 v3 = some r) : az_AW Z 5 0 [(3, v0), (11, v1), (0, v2), (0, v3), (31, 0)] [] σ (some (0, r.1), r.2) := by
  have hd1 : 1 ≤ d := by omega
  unfold fz_X1_meetLefts at h
  refine az_al0 (pc := 0) C rfl rfl dX1_meetLefts_0 ?_
  refine az_getR (pc := 1) (c2 := 0) C h fl_X1_15 rfl rfl dX1_meetLefts_1 (fun h => ?_)
  refine az_cV0v (pc := 4) (c := 0) C hd1 h mv_X0_clear ml_X1_43 rfl (fun x hx => A_X0_clear (by omega) hx) dX1_meetLefts_4 (fun r2 h => ?_)
  refine az_al0 (pc := 7) C rfl rfl dX1_meetLefts_7 ?_
  refine az_al0 (pc := 8) C rfl rfl dX1_meetLefts_8 ?_
  refine az_getR (pc := 9) (c2 := 0) C h fl_X1_15 rfl rfl dX1_meetLefts_9 (fun h => ?_)
  refine az_al1 (pc := 12) C rfl rfl dX1_meetLefts_12 ?_
  refine az_getR (pc := 13) (c2 := 16) C h fl_X1_48 rfl rfl dX1_meetLefts_13 (fun h => ?_)
  refine az_il2 (pc := 16) C dX1_meetLefts_16 ?_
  refine az_aaload (pc := 17) C h dX1_meetLefts_17 (fun h => ?_)
  refine az_ik0 (pc := 18) C dX1_meetLefts_18 ?_
  refine az_ik0 (pc := 19) C dX1_meetLefts_19 ?_
  refine az_ik0 (pc := 20) C dX1_meetLefts_20 ?_
  refine az_cV4ii (pc := 21) (c := 0) C hd1 h mv_X0_lay ml_X1_52 rfl (fun x hx => A_X0_lay (by omega) n hx) dX1_meetLefts_21 (fun r6 h => ?_)
  refine az_putI (pc := 24) C fl_X1_9 (Or.inl rfl) rfl dX1_meetLefts_24 ?_
  refine az_al0 (pc := 27) C rfl rfl dX1_meetLefts_27 ?_
  refine az_getR (pc := 28) (c2 := 0) C h fl_X1_15 rfl rfl dX1_meetLefts_28 (fun h => ?_)
  refine az_al1 (pc := 31) C rfl rfl dX1_meetLefts_31 ?_
  refine az_getR (pc := 32) (c2 := 16) C h fl_X1_48 rfl rfl dX1_meetLefts_32 (fun h => ?_)
  refine az_il3 (pc := 35) C dX1_meetLefts_35 ?_
  refine az_aaload (pc := 36) C h dX1_meetLefts_36 (fun h => ?_)
  refine az_ik0 (pc := 37) C dX1_meetLefts_37 ?_
  refine az_ik1 (pc := 38) C dX1_meetLefts_38 ?_
  refine az_ik0 (pc := 39) C dX1_meetLefts_39 ?_
  refine az_cV4ii (pc := 40) (c := 0) C hd1 h mv_X0_lay ml_X1_52 rfl (fun x hx => A_X0_lay (by omega) n hx) dX1_meetLefts_40 (fun r10 h => ?_)
  refine az_is4 (pc := 43) C rfl rfl dX1_meetLefts_43 ?_
  refine az_al0 (pc := 45) C rfl rfl dX1_meetLefts_45 ?_
  refine az_getR (pc := 46) (c2 := 0) C h fl_X1_15 rfl rfl dX1_meetLefts_46 (fun h => ?_)
  refine az_al0 (pc := 49) C rfl rfl dX1_meetLefts_49 ?_
  refine az_getI (pc := 50) C fl_X1_9 rfl dX1_meetLefts_50 ?_
  refine az_il4 (pc := 53) C dX1_meetLefts_53 ?_
  refine az_ik0 (pc := 55) C dX1_meetLefts_55 ?_
  refine az_cV3ii (pc := 56) (c := 0) C hd1 h mv_X0_join ml_X1_56 rfl (fun x hx => A_X0_join (by omega) n hx) dX1_meetLefts_56 (fun r12 h => ?_)
  refine az_if_ne (pc := 59) (tgt := 64) C h dX1_meetLefts_59 (by decide) (fun _ h => ?_) (fun _ h => ?_)
  · refine az_al0 (pc := 64) C rfl rfl dX1_meetLefts_64 ?_
    refine az_getR (pc := 65) (c2 := 0) C h fl_X1_15 rfl rfl dX1_meetLefts_65 (fun h => ?_)
    refine az_cV0ii (pc := 68) (c := 0) C hd1 h mv_X0_hasCircle ml_X1_60 rfl (fun x hx => A_X0_hasCircle (by omega) n hx) dX1_meetLefts_68 (fun r14 h => ?_)
    refine az_if_eq (pc := 71) (tgt := 78) C h dX1_meetLefts_71 (by decide) (fun _ h => ?_) (fun _ h => ?_)
    · refine az_ik1 (pc := 78) C dX1_meetLefts_78 ?_
      obtain rfl := Option.some.inj h
      exact az_ireturn (pc := 79) C dX1_meetLefts_79 rfl
    refine az_ik2 (pc := 74) C dX1_meetLefts_74 ?_
    refine az_goto (pc := 75) (tgt := 79) C dX1_meetLefts_75 (by decide) ?_
    obtain rfl := Option.some.inj h
    exact az_ireturn (pc := 79) C dX1_meetLefts_79 rfl
  refine az_ik0 (pc := 62) C dX1_meetLefts_62 ?_
  obtain rfl := Option.some.inj h
  exact az_ireturn (pc := 63) C dX1_meetLefts_63 rfl
set_option maxRecDepth 10000 in
set_option maxHeartbeats 4000000 in
theorem A_X1_meetLefts {l : Launch} {d : Nat} (hD : 4 ≤ d) (n : Nat) {σ : az_Hp} {v0 v1 v2 v3 : Int} {r : (Int × az_Hp)} (h : fz_X1_meetLefts n σ v0 v1 v2 v3 = some r) : az_AC l yX1_meetLefts cX1_meetLefts 5 (some .int) d [(3, v0), (11, v1), (0, v2), (0, v3)] σ (some (0, r.1), r.2) := az_AC.of mt_X1_meetLefts rfl rfl rfl (fun Z hZ C => A_X1_meetLefts_e C hD n h)
theorem dX0_joinedCode_0 : decode cX0_joinedCode 0 = .ok (.aload_n 0, 1) := by decide +kernel
theorem dX0_joinedCode_1 : decode cX0_joinedCode 1 = .ok (.iload_n 1, 1) := by decide +kernel
theorem dX0_joinedCode_2 : decode cX0_joinedCode 2 = .ok (.invokevirtual 74, 3) := by decide +kernel
theorem dX0_joinedCode_5 : decode cX0_joinedCode 5 = .ok (.istore_n 2, 1) := by decide +kernel
theorem dX0_joinedCode_6 : decode cX0_joinedCode 6 = .ok (.aload_n 0, 1) := by decide +kernel
theorem dX0_joinedCode_7 : decode cX0_joinedCode 7 = .ok (.iload_n 2, 1) := by decide +kernel
theorem dX0_joinedCode_8 : decode cX0_joinedCode 8 = .ok (.invokevirtual 77, 3) := by decide +kernel
theorem dX0_joinedCode_11 : decode cX0_joinedCode 11 = .ok (.ifCond .eq 14, 3) := by decide +kernel
theorem dX0_joinedCode_14 : decode cX0_joinedCode 14 = .ok (.aload_n 0, 1) := by decide +kernel
theorem dX0_joinedCode_15 : decode cX0_joinedCode 15 = .ok (.getfield 28, 3) := by decide +kernel
theorem dX0_joinedCode_18 : decode cX0_joinedCode 18 = .ok (.iload_n 2, 1) := by decide +kernel
theorem dX0_joinedCode_19 : decode cX0_joinedCode 19 = .ok (.iaload, 1) := by decide +kernel
theorem dX0_joinedCode_20 : decode cX0_joinedCode 20 = .ok (.iconst (-1), 1) := by decide +kernel
theorem dX0_joinedCode_21 : decode cX0_joinedCode 21 = .ok (.ixor, 1) := by decide +kernel
theorem dX0_joinedCode_22 : decode cX0_joinedCode 22 = .ok (.goto 9, 3) := by decide +kernel
theorem dX0_joinedCode_25 : decode cX0_joinedCode 25 = .ok (.aload_n 0, 1) := by decide +kernel
theorem dX0_joinedCode_26 : decode cX0_joinedCode 26 = .ok (.getfield 15, 3) := by decide +kernel
theorem dX0_joinedCode_29 : decode cX0_joinedCode 29 = .ok (.iload_n 2, 1) := by decide +kernel
theorem dX0_joinedCode_30 : decode cX0_joinedCode 30 = .ok (.iaload, 1) := by decide +kernel
theorem dX0_joinedCode_31 : decode cX0_joinedCode 31 = .ok (.ireturn, 1) := by decide +kernel
set_option maxRecDepth 10000 in
set_option maxHeartbeats 4000000 in
theorem A_X0_joinedCode_e {Z : az_Z} {d : Nat} (C : az_C Z yX0_joinedCode cX0_joinedCode 3 (some .int) d) (hD : 2 ≤ d) (n : Nat) {σ : az_Hp} {v0 v1 : Int} {r : Int} (h : fz_X0_joinedCode n σ v0 v1 = some r) : az_AW Z 3 0 [(2, v0), (0, v1), (31, 0)] [] σ (some (0, r), σ) := by
  have hd1 : 1 ≤ d := by omega
  unfold fz_X0_joinedCode at h
  refine az_al0 (pc := 0) C rfl rfl dX0_joinedCode_0 ?_
  refine az_il1 (pc := 1) C dX0_joinedCode_1 ?_
  refine az_cV1pi (pc := 2) (c := 0) C hd1 h mv_X0_top ml_X0_74 rfl (fun x hx => A_X0_top (by omega) n hx) dX0_joinedCode_2 (fun r1 h => ?_)
  refine az_is2 (pc := 5) C rfl rfl dX0_joinedCode_5 ?_
  refine az_al0 (pc := 6) C rfl rfl dX0_joinedCode_6 ?_
  refine az_il2 (pc := 7) C dX0_joinedCode_7 ?_
  refine az_cV1pi (pc := 8) (c := 0) C hd1 h mv_X0_isVariable ml_X0_77 rfl (fun x hx => A_X0_isVariable (by omega) hx) dX0_joinedCode_8 (fun r2 h => ?_)
  refine az_if_eq (pc := 11) (tgt := 25) C h dX0_joinedCode_11 (by decide) (fun _ h => ?_) (fun _ h => ?_)
  · refine az_al0 (pc := 25) C rfl rfl dX0_joinedCode_25 ?_
    refine az_getR (pc := 26) (c2 := 13) C h fl_X0_15 rfl rfl dX0_joinedCode_26 (fun h => ?_)
    refine az_il2 (pc := 29) C dX0_joinedCode_29 ?_
    refine az_iaload (pc := 30) C h dX0_joinedCode_30 (fun h => ?_)
    obtain rfl := Option.some.inj h
    exact az_ireturn (pc := 31) C dX0_joinedCode_31 rfl
  refine az_al0 (pc := 14) C rfl rfl dX0_joinedCode_14 ?_
  refine az_getR (pc := 15) (c2 := 13) C h fl_X0_28 rfl rfl dX0_joinedCode_15 (fun h => ?_)
  refine az_il2 (pc := 18) C dX0_joinedCode_18 ?_
  refine az_iaload (pc := 19) C h dX0_joinedCode_19 (fun h => ?_)
  refine az_ikm1 (pc := 20) C dX0_joinedCode_20 ?_
  refine az_ixor (pc := 21) C dX0_joinedCode_21 ?_
  refine az_goto (pc := 22) (tgt := 31) C dX0_joinedCode_22 (by decide) ?_
  obtain rfl := Option.some.inj h
  exact az_ireturn (pc := 31) C dX0_joinedCode_31 rfl
set_option maxRecDepth 10000 in
set_option maxHeartbeats 4000000 in
theorem A_X0_joinedCode {l : Launch} {d : Nat} (hD : 2 ≤ d) (n : Nat) {σ : az_Hp} {v0 v1 : Int} {r : Int} (h : fz_X0_joinedCode n σ v0 v1 = some r) : az_AC l yX0_joinedCode cX0_joinedCode 3 (some .int) d [(2, v0), (0, v1)] σ (some (0, r), σ) := az_AC.of mt_X0_joinedCode rfl rfl rfl (fun Z hZ C => A_X0_joinedCode_e C hD n h)
theorem dX0_joinedKid_0 : decode cX0_joinedKid 0 = .ok (.aload_n 0, 1) := by decide +kernel
theorem dX0_joinedKid_1 : decode cX0_joinedKid 1 = .ok (.getfield 35, 3) := by decide +kernel
theorem dX0_joinedKid_4 : decode cX0_joinedKid 4 = .ok (.aload_n 0, 1) := by decide +kernel
theorem dX0_joinedKid_5 : decode cX0_joinedKid 5 = .ok (.iload_n 1, 1) := by decide +kernel
theorem dX0_joinedKid_6 : decode cX0_joinedKid 6 = .ok (.invokevirtual 74, 3) := by decide +kernel
theorem dX0_joinedKid_9 : decode cX0_joinedKid 9 = .ok (.iconst 3, 1) := by decide +kernel
theorem dX0_joinedKid_10 : decode cX0_joinedKid 10 = .ok (.imul, 1) := by decide +kernel
theorem dX0_joinedKid_11 : decode cX0_joinedKid 11 = .ok (.iload_n 2, 1) := by decide +kernel
theorem dX0_joinedKid_12 : decode cX0_joinedKid 12 = .ok (.iadd, 1) := by decide +kernel
theorem dX0_joinedKid_13 : decode cX0_joinedKid 13 = .ok (.iaload, 1) := by decide +kernel
theorem dX0_joinedKid_14 : decode cX0_joinedKid 14 = .ok (.ireturn, 1) := by decide +kernel
set_option maxRecDepth 10000 in
set_option maxHeartbeats 4000000 in
theorem A_X0_joinedKid_e {Z : az_Z} {d : Nat} (C : az_C Z yX0_joinedKid cX0_joinedKid 3 (some .int) d) (hD : 2 ≤ d) (n : Nat) {σ : az_Hp} {v0 v1 v2 : Int} {r : Int} (h : fz_X0_joinedKid n σ v0 v1 v2 = some r) : az_AW Z 3 0 [(2, v0), (0, v1), (0, v2)] [] σ (some (0, r), σ) := by
  have hd1 : 1 ≤ d := by omega
  unfold fz_X0_joinedKid at h
  refine az_al0 (pc := 0) C rfl rfl dX0_joinedKid_0 ?_
  refine az_getR (pc := 1) (c2 := 13) C h fl_X0_35 rfl rfl dX0_joinedKid_1 (fun h => ?_)
  refine az_al0 (pc := 4) C rfl rfl dX0_joinedKid_4 ?_
  refine az_il1 (pc := 5) C dX0_joinedKid_5 ?_
  refine az_cV1pi (pc := 6) (c := 0) C hd1 h mv_X0_top ml_X0_74 rfl (fun x hx => A_X0_top (by omega) n hx) dX0_joinedKid_6 (fun r2 h => ?_)
  refine az_ik3 (pc := 9) C dX0_joinedKid_9 ?_
  refine az_imul (pc := 10) C dX0_joinedKid_10 ?_
  refine az_il2 (pc := 11) C dX0_joinedKid_11 ?_
  refine az_iadd (pc := 12) C dX0_joinedKid_12 ?_
  refine az_iaload (pc := 13) C h dX0_joinedKid_13 (fun h => ?_)
  obtain rfl := Option.some.inj h
  exact az_ireturn (pc := 14) C dX0_joinedKid_14 rfl
set_option maxRecDepth 10000 in
set_option maxHeartbeats 4000000 in
theorem A_X0_joinedKid {l : Launch} {d : Nat} (hD : 2 ≤ d) (n : Nat) {σ : az_Hp} {v0 v1 v2 : Int} {r : Int} (h : fz_X0_joinedKid n σ v0 v1 v2 = some r) : az_AC l yX0_joinedKid cX0_joinedKid 3 (some .int) d [(2, v0), (0, v1), (0, v2)] σ (some (0, r), σ) := az_AC.of mt_X0_joinedKid rfl rfl rfl (fun Z hZ C => A_X0_joinedKid_e C hD n h)
theorem dX3_put_0 : decode cX3_put 0 = .ok (.aload_n 0, 1) := by decide +kernel
theorem dX3_put_1 : decode cX3_put 1 = .ok (.getfield 9, 3) := by decide +kernel
theorem dX3_put_4 : decode cX3_put 4 = .ok (.aload_n 0, 1) := by decide +kernel
theorem dX3_put_5 : decode cX3_put 5 = .ok (.getfield 15, 3) := by decide +kernel
theorem dX3_put_8 : decode cX3_put 8 = .ok (.arraylength, 1) := by decide +kernel
theorem dX3_put_9 : decode cX3_put 9 = .ok (.if_icmp .lt 43, 3) := by decide +kernel
theorem dX3_put_12 : decode cX3_put 12 = .ok (.aload_n 0, 1) := by decide +kernel
theorem dX3_put_13 : decode cX3_put 13 = .ok (.getfield 15, 3) := by decide +kernel
theorem dX3_put_16 : decode cX3_put 16 = .ok (.arraylength, 1) := by decide +kernel
theorem dX3_put_17 : decode cX3_put 17 = .ok (.ldc 22, 2) := by decide +kernel
theorem dX3_put_19 : decode cX3_put 19 = .ok (.if_icmp .le 4, 3) := by decide +kernel
theorem dX3_put_22 : decode cX3_put 22 = .ok (.return_, 1) := by decide +kernel
theorem dX3_put_23 : decode cX3_put 23 = .ok (.aload_n 0, 1) := by decide +kernel
theorem dX3_put_24 : decode cX3_put 24 = .ok (.getfield 15, 3) := by decide +kernel
theorem dX3_put_27 : decode cX3_put 27 = .ok (.arraylength, 1) := by decide +kernel
theorem dX3_put_28 : decode cX3_put 28 = .ok (.iconst 2, 1) := by decide +kernel
theorem dX3_put_29 : decode cX3_put 29 = .ok (.imul, 1) := by decide +kernel
theorem dX3_put_30 : decode cX3_put 30 = .ok (.newarray .int, 2) := by decide +kernel
theorem dX3_put_32 : decode cX3_put 32 = .ok (.astore_n 2, 1) := by decide +kernel
theorem dX3_put_33 : decode cX3_put 33 = .ok (.aload_n 0, 1) := by decide +kernel
theorem dX3_put_34 : decode cX3_put 34 = .ok (.getfield 15, 3) := by decide +kernel
theorem dX3_put_37 : decode cX3_put 37 = .ok (.iconst 0, 1) := by decide +kernel
theorem dX3_put_38 : decode cX3_put 38 = .ok (.aload_n 2, 1) := by decide +kernel
theorem dX3_put_39 : decode cX3_put 39 = .ok (.iconst 0, 1) := by decide +kernel
theorem dX3_put_40 : decode cX3_put 40 = .ok (.aload_n 0, 1) := by decide +kernel
theorem dX3_put_41 : decode cX3_put 41 = .ok (.getfield 9, 3) := by decide +kernel
theorem dX3_put_44 : decode cX3_put 44 = .ok (.invokestatic 23, 3) := by decide +kernel
theorem dX3_put_47 : decode cX3_put 47 = .ok (.aload_n 0, 1) := by decide +kernel
theorem dX3_put_48 : decode cX3_put 48 = .ok (.aload_n 2, 1) := by decide +kernel
theorem dX3_put_49 : decode cX3_put 49 = .ok (.putfield 15, 3) := by decide +kernel
theorem dX3_put_52 : decode cX3_put 52 = .ok (.aload_n 0, 1) := by decide +kernel
theorem dX3_put_53 : decode cX3_put 53 = .ok (.getfield 15, 3) := by decide +kernel
theorem dX3_put_56 : decode cX3_put 56 = .ok (.aload_n 0, 1) := by decide +kernel
theorem dX3_put_57 : decode cX3_put 57 = .ok (.getfield 9, 3) := by decide +kernel
theorem dX3_put_60 : decode cX3_put 60 = .ok (.iload_n 1, 1) := by decide +kernel
theorem dX3_put_61 : decode cX3_put 61 = .ok (.iastore, 1) := by decide +kernel
theorem dX3_put_62 : decode cX3_put 62 = .ok (.aload_n 0, 1) := by decide +kernel
theorem dX3_put_63 : decode cX3_put 63 = .ok (.dup, 1) := by decide +kernel
theorem dX3_put_64 : decode cX3_put 64 = .ok (.getfield 9, 3) := by decide +kernel
theorem dX3_put_67 : decode cX3_put 67 = .ok (.iconst 1, 1) := by decide +kernel
theorem dX3_put_68 : decode cX3_put 68 = .ok (.iadd, 1) := by decide +kernel
theorem dX3_put_69 : decode cX3_put 69 = .ok (.putfield 9, 3) := by decide +kernel
theorem dX3_put_72 : decode cX3_put 72 = .ok (.return_, 1) := by decide +kernel
set_option maxRecDepth 10000 in
set_option maxHeartbeats 4000000 in
theorem A_X3_put_52 {Z : az_Z} {d : Nat} (C : az_C Z yX3_put cX3_put 3 none d) (hD : 2 ≤ d) {σ : az_Hp} {v0 v1 : Int} {r : az_Hp} (h : fz_X3_put_52 σ v0 v1 = some r) : az_AW Z 3 52 [(5, v0), (0, v1), (31, 0)] [] σ (none, r) := by
  have hd1 : 1 ≤ d := by omega
  unfold fz_X3_put_52 at h
  refine az_al0 (pc := 52) C rfl rfl dX3_put_52 ?_
  refine az_getR (pc := 53) (c2 := 13) C h fl_X3_15 rfl rfl dX3_put_53 (fun h => ?_)
  refine az_al0 (pc := 56) C rfl rfl dX3_put_56 ?_
  refine az_getI (pc := 57) C fl_X3_9 rfl dX3_put_57 ?_
  refine az_il1 (pc := 60) C dX3_put_60 ?_
  refine az_iastore (pc := 61) C h dX3_put_61 (fun h => ?_)
  refine az_al0 (pc := 62) C rfl rfl dX3_put_62 ?_
  refine az_dup (pc := 63) C rfl rfl dX3_put_63 ?_
  refine az_getI (pc := 64) C fl_X3_9 rfl dX3_put_64 ?_
  refine az_ik1 (pc := 67) C dX3_put_67 ?_
  refine az_iadd (pc := 68) C dX3_put_68 ?_
  refine az_putI (pc := 69) C fl_X3_9 (Or.inl rfl) rfl dX3_put_69 ?_
  obtain rfl := Option.some.inj h
  exact az_return (pc := 72) C dX3_put_72 rfl
set_option maxRecDepth 10000 in
set_option maxHeartbeats 4000000 in
theorem A_X3_put_e {Z : az_Z} {d : Nat} (C : az_C Z yX3_put cX3_put 3 none d) (hD : 2 ≤ d) {σ : az_Hp} {v0 v1 : Int} {r : az_Hp} (h : fz_X3_put σ v0 v1 = some r) : az_AW Z 3 0 [(5, v0), (0, v1), (31, 0)] [] σ (none, r) := by
  have hd1 : 1 ≤ d := by omega
  unfold fz_X3_put at h
  refine az_al0 (pc := 0) C rfl rfl dX3_put_0 ?_
  refine az_getI (pc := 1) C fl_X3_9 rfl dX3_put_1 ?_
  refine az_al0 (pc := 4) C rfl rfl dX3_put_4 ?_
  refine az_getR (pc := 5) (c2 := 13) C h fl_X3_15 rfl rfl dX3_put_5 (fun h => ?_)
  refine az_arraylength (pc := 8) (k := 13) C rfl rfl dX3_put_8 ?_
  refine az_icmp_lt (pc := 9) (tgt := 52) C h dX3_put_9 (by decide) (fun _ h => ?_) (fun _ h => ?_)
  · exact (A_X3_put_52 C hD h)
  refine az_al0 (pc := 12) C rfl rfl dX3_put_12 ?_
  refine az_getR (pc := 13) (c2 := 13) C h fl_X3_15 rfl rfl dX3_put_13 (fun h => ?_)
  refine az_arraylength (pc := 16) (k := 13) C rfl rfl dX3_put_16 ?_
  refine az_ldc (pc := 17) (x := 1000000) C ct_X3_22 dX3_put_17 (by decide) ?_
  refine az_icmp_le (pc := 19) (tgt := 23) C h dX3_put_19 (by decide) (fun _ h => ?_) (fun _ h => ?_)
  · refine az_al0 (pc := 23) C rfl rfl dX3_put_23 ?_
    refine az_getR (pc := 24) (c2 := 13) C h fl_X3_15 rfl rfl dX3_put_24 (fun h => ?_)
    refine az_arraylength (pc := 27) (k := 13) C rfl rfl dX3_put_27 ?_
    refine az_ik2 (pc := 28) C dX3_put_28 ?_
    refine az_imul (pc := 29) C dX3_put_29 ?_
    refine az_newa (pc := 30) (at_ := .int) (ty := .int) C h rfl (by decide) az_ac_int dX3_put_30 (fun h => ?_)
    refine az_as2 (pc := 32) C rfl rfl rfl rfl dX3_put_32 ?_
    refine az_al0 (pc := 33) C rfl rfl dX3_put_33 ?_
    refine az_getR (pc := 34) (c2 := 13) C h fl_X3_15 rfl rfl dX3_put_34 (fun h => ?_)
    refine az_ik0 (pc := 37) C dX3_put_37 ?_
    refine az_al2 (pc := 38) C rfl rfl dX3_put_38 ?_
    refine az_ik0 (pc := 39) C dX3_put_39 ?_
    refine az_al0 (pc := 40) C rfl rfl dX3_put_40 ?_
    refine az_getI (pc := 41) C fl_X3_9 rfl dX3_put_41 ?_
    refine az_arraycopy (pc := 44) C hd1 h ml_X3_23 az_w_cpn az_w_cps az_w_sys rfl dX3_put_44 (fun h => ?_)
    refine az_al0 (pc := 47) C rfl rfl dX3_put_47 ?_
    refine az_al2 (pc := 48) C rfl rfl dX3_put_48 ?_
    refine az_putR (pc := 49) (c2 := 13) C fl_X3_15 (Or.inl rfl) rfl rfl rfl dX3_put_49 ?_
    exact (az_wkk (A_X3_put_52 C hD h) (az_sE (az_sE (az_sJ az_sN))))
  obtain rfl := Option.some.inj h
  exact az_return (pc := 22) C dX3_put_22 rfl
set_option maxRecDepth 10000 in
set_option maxHeartbeats 4000000 in
theorem A_X3_put {l : Launch} {d : Nat} (hD : 2 ≤ d) {σ : az_Hp} {v0 v1 : Int} {r : az_Hp} (h : fz_X3_put σ v0 v1 = some r) : az_AC l yX3_put cX3_put 3 none d [(5, v0), (0, v1)] σ (none, r) := az_AC.of mt_X3_put rfl rfl rfl (fun Z hZ C => A_X3_put_e C hD h)
theorem dX3_putLetters_0 : decode cX3_putLetters 0 = .ok (.iload_n 2, 1) := by decide +kernel
theorem dX3_putLetters_1 : decode cX3_putLetters 1 = .ok (.istore_n 3, 1) := by decide +kernel
theorem dX3_putLetters_2 : decode cX3_putLetters 2 = .ok (.ldc 29, 2) := by decide +kernel
theorem dX3_putLetters_4 : decode cX3_putLetters 4 = .ok (.istore 4, 2) := by decide +kernel
theorem dX3_putLetters_6 : decode cX3_putLetters 6 = .ok (.iload 4, 2) := by decide +kernel
theorem dX3_putLetters_8 : decode cX3_putLetters 8 = .ok (.ifCond .le 40, 3) := by decide +kernel
theorem dX3_putLetters_11 : decode cX3_putLetters 11 = .ok (.iload_n 1, 1) := by decide +kernel
theorem dX3_putLetters_12 : decode cX3_putLetters 12 = .ok (.iload 4, 2) := by decide +kernel
theorem dX3_putLetters_14 : decode cX3_putLetters 14 = .ok (.idiv, 1) := by decide +kernel
theorem dX3_putLetters_15 : decode cX3_putLetters 15 = .ok (.bipush 27, 2) := by decide +kernel
theorem dX3_putLetters_17 : decode cX3_putLetters 17 = .ok (.irem, 1) := by decide +kernel
theorem dX3_putLetters_18 : decode cX3_putLetters 18 = .ok (.istore 5, 2) := by decide +kernel
theorem dX3_putLetters_20 : decode cX3_putLetters 20 = .ok (.iload 5, 2) := by decide +kernel
theorem dX3_putLetters_22 : decode cX3_putLetters 22 = .ok (.ifCond .le 16, 3) := by decide +kernel
theorem dX3_putLetters_25 : decode cX3_putLetters 25 = .ok (.aload_n 0, 1) := by decide +kernel
theorem dX3_putLetters_26 : decode cX3_putLetters 26 = .ok (.iload_n 3, 1) := by decide +kernel
theorem dX3_putLetters_27 : decode cX3_putLetters 27 = .ok (.iload 5, 2) := by decide +kernel
theorem dX3_putLetters_29 : decode cX3_putLetters 29 = .ok (.iadd, 1) := by decide +kernel
theorem dX3_putLetters_30 : decode cX3_putLetters 30 = .ok (.iconst 1, 1) := by decide +kernel
theorem dX3_putLetters_31 : decode cX3_putLetters 31 = .ok (.isub, 1) := by decide +kernel
theorem dX3_putLetters_32 : decode cX3_putLetters 32 = .ok (.invokevirtual 30, 3) := by decide +kernel
theorem dX3_putLetters_35 : decode cX3_putLetters 35 = .ok (.bipush 97, 2) := by decide +kernel
theorem dX3_putLetters_37 : decode cX3_putLetters 37 = .ok (.istore_n 3, 1) := by decide +kernel
theorem dX3_putLetters_38 : decode cX3_putLetters 38 = .ok (.iload 4, 2) := by decide +kernel
theorem dX3_putLetters_40 : decode cX3_putLetters 40 = .ok (.bipush 27, 2) := by decide +kernel
theorem dX3_putLetters_42 : decode cX3_putLetters 42 = .ok (.idiv, 1) := by decide +kernel
theorem dX3_putLetters_43 : decode cX3_putLetters 43 = .ok (.istore 4, 2) := by decide +kernel
theorem dX3_putLetters_45 : decode cX3_putLetters 45 = .ok (.goto (-39), 3) := by decide +kernel
theorem dX3_putLetters_48 : decode cX3_putLetters 48 = .ok (.return_, 1) := by decide +kernel
set_option maxRecDepth 10000 in
set_option maxHeartbeats 4000000 in
theorem A_X3_putLetters_6 {Z : az_Z} {d : Nat} (C : az_C Z yX3_putLetters cX3_putLetters 6 none d) (hD : 3 ≤ d) (n : Nat) (k : Nat) : ∀ {σ : az_Hp} {v0 v1 v3 v4 : Int} {r : az_Hp}, fz_X3_putLetters_6 n k σ v0 v1 v3 v4 = some r → az_AW Z 6 6 [(5, v0), (0, v1), (31, 0), (0, v3), (0, v4), (31, 0)] [] σ (none, r) := by
  have hd1 : 1 ≤ d := by omega
  induction k with
  | zero => intro σ v0 v1 v3 v4 r h; simp [fz_X3_putLetters_6] at h
  | succ k ih =>
    intro σ v0 v1 v3 v4 r h
    unfold fz_X3_putLetters_6 at h
    refine az_il4 (pc := 6) C dX3_putLetters_6 ?_
    refine az_if_le (pc := 8) (tgt := 48) C h dX3_putLetters_8 (by decide) (fun _ h => ?_) (fun _ h => ?_)
    · obtain rfl := Option.some.inj h
      exact az_return (pc := 48) C dX3_putLetters_48 rfl
    refine az_il1 (pc := 11) C dX3_putLetters_11 ?_
    refine az_il4 (pc := 12) C dX3_putLetters_12 ?_
    refine az_idiv (pc := 14) (K := fun _ => _) C h dX3_putLetters_14 (fun h => ?_)
    refine az_bk27 (pc := 15) C dX3_putLetters_15 ?_
    refine az_irem (pc := 17) (K := fun _ => _) C h dX3_putLetters_17 (fun h => ?_)
    refine az_is5 (pc := 18) C rfl rfl dX3_putLetters_18 ?_
    refine az_il5 (pc := 20) C dX3_putLetters_20 ?_
    refine az_if_le (pc := 22) (tgt := 38) C h dX3_putLetters_22 (by decide) (fun _ h => ?_) (fun _ h => ?_)
    · refine az_il4 (pc := 38) C dX3_putLetters_38 ?_
      refine az_bk27 (pc := 40) C dX3_putLetters_40 ?_
      refine az_idiv (pc := 42) (K := fun _ => _) C h dX3_putLetters_42 (fun h => ?_)
      refine az_is4 (pc := 43) C rfl rfl dX3_putLetters_43 ?_
      refine az_goto (pc := 45) (tgt := 6) C dX3_putLetters_45 (by decide) ?_
      exact (az_wkk (ih h) (az_sE (az_sE (az_sJ (az_sE (az_sE (az_sJ az_sN)))))))
    refine az_al0 (pc := 25) C rfl rfl dX3_putLetters_25 ?_
    refine az_il3 (pc := 26) C dX3_putLetters_26 ?_
    refine az_il5 (pc := 27) C dX3_putLetters_27 ?_
    refine az_iadd (pc := 29) C dX3_putLetters_29 ?_
    refine az_ik1 (pc := 30) C dX3_putLetters_30 ?_
    refine az_isub (pc := 31) C dX3_putLetters_31 ?_
    refine az_cV1v (pc := 32) (c := 3) C hd1 h mv_X3_put ml_X3_30 rfl (fun x hx => A_X3_put (by omega) hx) dX3_putLetters_32 (fun r1 h => ?_)
    refine az_bk97 (pc := 35) C dX3_putLetters_35 ?_
    refine az_is3 (pc := 37) C rfl rfl dX3_putLetters_37 ?_
    refine az_il4 (pc := 38) C dX3_putLetters_38 ?_
    refine az_bk27 (pc := 40) C dX3_putLetters_40 ?_
    refine az_idiv (pc := 42) (K := fun _ => _) C h dX3_putLetters_42 (fun h => ?_)
    refine az_is4 (pc := 43) C rfl rfl dX3_putLetters_43 ?_
    refine az_goto (pc := 45) (tgt := 6) C dX3_putLetters_45 (by decide) ?_
    exact (az_wkk (ih h) (az_sE (az_sE (az_sJ (az_sE (az_sE (az_sJ az_sN)))))))
set_option maxRecDepth 10000 in
set_option maxHeartbeats 4000000 in
theorem A_X3_putLetters_e {Z : az_Z} {d : Nat} (C : az_C Z yX3_putLetters cX3_putLetters 6 none d) (hD : 3 ≤ d) (n : Nat) {σ : az_Hp} {v0 v1 v2 : Int} {r : az_Hp} (h : fz_X3_putLetters n σ v0 v1 v2 = some r) : az_AW Z 6 0 [(5, v0), (0, v1), (0, v2), (31, 0), (31, 0), (31, 0)] [] σ (none, r) := by
  have hd1 : 1 ≤ d := by omega
  unfold fz_X3_putLetters at h
  refine az_il2 (pc := 0) C dX3_putLetters_0 ?_
  refine az_is3 (pc := 1) C rfl rfl dX3_putLetters_1 ?_
  refine az_ldc (pc := 2) (x := 14348907) C ct_X3_29 dX3_putLetters_2 (by decide) ?_
  refine az_is4 (pc := 4) C rfl rfl dX3_putLetters_4 ?_
  exact (az_wkk (A_X3_putLetters_6 C hD n n h) (az_sE (az_sE (az_sJ (az_sE (az_sE (az_sJ az_sN)))))))
set_option maxRecDepth 10000 in
set_option maxHeartbeats 4000000 in
theorem A_X3_putLetters {l : Launch} {d : Nat} (hD : 3 ≤ d) (n : Nat) {σ : az_Hp} {v0 v1 v2 : Int} {r : az_Hp} (h : fz_X3_putLetters n σ v0 v1 v2 = some r) : az_AC l yX3_putLetters cX3_putLetters 6 none d [(5, v0), (0, v1), (0, v2)] σ (none, r) := az_AC.of mt_X3_putLetters rfl rfl rfl (fun Z hZ C => A_X3_putLetters_e C hD n h)
theorem dX7_number_0 : decode cX7_number 0 = .ok (.iload_n 0, 1) := by decide +kernel
theorem dX7_number_1 : decode cX7_number 1 = .ok (.ifCond .ge 9, 3) := by decide +kernel
theorem dX7_number_4 : decode cX7_number 4 = .ok (.iload_n 0, 1) := by decide +kernel
theorem dX7_number_5 : decode cX7_number 5 = .ok (.iconst (-1), 1) := by decide +kernel
theorem dX7_number_6 : decode cX7_number 6 = .ok (.ixor, 1) := by decide +kernel
theorem dX7_number_7 : decode cX7_number 7 = .ok (.goto 6, 3) := by decide +kernel
theorem dX7_number_10 : decode cX7_number 10 = .ok (.iload_n 0, 1) := by decide +kernel
theorem dX7_number_11 : decode cX7_number 11 = .ok (.iconst 4, 1) := by decide +kernel
theorem dX7_number_12 : decode cX7_number 12 = .ok (.ishr, 1) := by decide +kernel
theorem dX7_number_13 : decode cX7_number 13 = .ok (.ireturn, 1) := by decide +kernel
set_option maxRecDepth 10000 in
set_option maxHeartbeats 4000000 in
theorem A_X7_number_e {Z : az_Z} {d : Nat} (C : az_C Z yX7_number cX7_number 1 (some .int) d) (hD : 1 ≤ d) {σ : az_Hp} {v0 : Int} {r : Int} (h : fz_X7_number σ v0 = some r) : az_AW Z 1 0 [(0, v0)] [] σ (some (0, r), σ) := by
  have hd1 : 1 ≤ d := by omega
  unfold fz_X7_number at h
  refine az_il0 (pc := 0) C dX7_number_0 ?_
  refine az_if_ge (pc := 1) (tgt := 10) C h dX7_number_1 (by decide) (fun _ h => ?_) (fun _ h => ?_)
  · refine az_il0 (pc := 10) C dX7_number_10 ?_
    refine az_ik4 (pc := 11) C dX7_number_11 ?_
    refine az_ishr (pc := 12) C dX7_number_12 ?_
    obtain rfl := Option.some.inj h
    exact az_ireturn (pc := 13) C dX7_number_13 rfl
  refine az_il0 (pc := 4) C dX7_number_4 ?_
  refine az_ikm1 (pc := 5) C dX7_number_5 ?_
  refine az_ixor (pc := 6) C dX7_number_6 ?_
  refine az_goto (pc := 7) (tgt := 13) C dX7_number_7 (by decide) ?_
  obtain rfl := Option.some.inj h
  exact az_ireturn (pc := 13) C dX7_number_13 rfl
set_option maxRecDepth 10000 in
set_option maxHeartbeats 4000000 in
theorem A_X7_number {l : Launch} {d : Nat} (hD : 1 ≤ d) {σ : az_Hp} {v0 : Int} {r : Int} (h : fz_X7_number σ v0 = some r) : az_AC l yX7_number cX7_number 1 (some .int) d [(0, v0)] σ (some (0, r), σ) := az_AC.of mt_X7_number rfl rfl rfl (fun Z hZ C => A_X7_number_e C hD h)
theorem dX9_nameOf_0 : decode cX9_nameOf 0 = .ok (.iload_n 1, 1) := by decide +kernel
theorem dX9_nameOf_1 : decode cX9_nameOf 1 = .ok (.invokestatic 71, 3) := by decide +kernel
theorem dX9_nameOf_4 : decode cX9_nameOf 4 = .ok (.istore_n 2, 1) := by decide +kernel
theorem dX9_nameOf_5 : decode cX9_nameOf 5 = .ok (.iload_n 1, 1) := by decide +kernel
theorem dX9_nameOf_6 : decode cX9_nameOf 6 = .ok (.invokestatic 75, 3) := by decide +kernel
theorem dX9_nameOf_9 : decode cX9_nameOf 9 = .ok (.iconst 1, 1) := by decide +kernel
theorem dX9_nameOf_10 : decode cX9_nameOf 10 = .ok (.if_icmp .ne 22, 3) := by decide +kernel
theorem dX9_nameOf_13 : decode cX9_nameOf 13 = .ok (.iload_n 2, 1) := by decide +kernel
theorem dX9_nameOf_14 : decode cX9_nameOf 14 = .ok (.aload_n 0, 1) := by decide +kernel
theorem dX9_nameOf_15 : decode cX9_nameOf 15 = .ok (.getfield 9, 3) := by decide +kernel
theorem dX9_nameOf_18 : decode cX9_nameOf 18 = .ok (.if_icmp .ge 12, 3) := by decide +kernel
theorem dX9_nameOf_21 : decode cX9_nameOf 21 = .ok (.aload_n 0, 1) := by decide +kernel
theorem dX9_nameOf_22 : decode cX9_nameOf 22 = .ok (.getfield 21, 3) := by decide +kernel
theorem dX9_nameOf_25 : decode cX9_nameOf 25 = .ok (.iload_n 2, 1) := by decide +kernel
theorem dX9_nameOf_26 : decode cX9_nameOf 26 = .ok (.iaload, 1) := by decide +kernel
theorem dX9_nameOf_27 : decode cX9_nameOf 27 = .ok (.goto 4, 3) := by decide +kernel
theorem dX9_nameOf_30 : decode cX9_nameOf 30 = .ok (.iconst 0, 1) := by decide +kernel
theorem dX9_nameOf_31 : decode cX9_nameOf 31 = .ok (.ireturn, 1) := by decide +kernel
theorem dX9_nameOf_32 : decode cX9_nameOf 32 = .ok (.iload_n 1, 1) := by decide +kernel
theorem dX9_nameOf_33 : decode cX9_nameOf 33 = .ok (.invokestatic 75, 3) := by decide +kernel
theorem dX9_nameOf_36 : decode cX9_nameOf 36 = .ok (.iconst 2, 1) := by decide +kernel
theorem dX9_nameOf_37 : decode cX9_nameOf 37 = .ok (.if_icmp .ne 20, 3) := by decide +kernel
theorem dX9_nameOf_40 : decode cX9_nameOf 40 = .ok (.iload_n 2, 1) := by decide +kernel
theorem dX9_nameOf_41 : decode cX9_nameOf 41 = .ok (.aload_n 0, 1) := by decide +kernel
theorem dX9_nameOf_42 : decode cX9_nameOf 42 = .ok (.getfield 15, 3) := by decide +kernel
theorem dX9_nameOf_45 : decode cX9_nameOf 45 = .ok (.if_icmp .ge 12, 3) := by decide +kernel
theorem dX9_nameOf_48 : decode cX9_nameOf 48 = .ok (.aload_n 0, 1) := by decide +kernel
theorem dX9_nameOf_49 : decode cX9_nameOf 49 = .ok (.getfield 28, 3) := by decide +kernel
theorem dX9_nameOf_52 : decode cX9_nameOf 52 = .ok (.iload_n 2, 1) := by decide +kernel
theorem dX9_nameOf_53 : decode cX9_nameOf 53 = .ok (.iaload, 1) := by decide +kernel
theorem dX9_nameOf_54 : decode cX9_nameOf 54 = .ok (.goto 4, 3) := by decide +kernel
theorem dX9_nameOf_57 : decode cX9_nameOf 57 = .ok (.iconst 0, 1) := by decide +kernel
theorem dX9_nameOf_58 : decode cX9_nameOf 58 = .ok (.ireturn, 1) := by decide +kernel
set_option maxRecDepth 10000 in
set_option maxHeartbeats 4000000 in
theorem A_X9_nameOf_e {Z : az_Z} {d : Nat} (C : az_C Z yX9_nameOf cX9_nameOf 3 (some .int) d) (hD : 2 ≤ d) {σ : az_Hp} {v0 v1 : Int} {r : Int} (h : fz_X9_nameOf σ v0 v1 = some r) : az_AW Z 3 0 [(11, v0), (0, v1), (31, 0)] [] σ (some (0, r), σ) := by
  have hd1 : 1 ≤ d := by omega
  unfold fz_X9_nameOf at h
  refine az_il1 (pc := 0) C dX9_nameOf_0 ?_
  refine az_cS1pi (pc := 1) C hd1 h ms_X7_number ml_X9_71 rfl (fun x hx => A_X7_number (by omega) hx) dX9_nameOf_1 (fun r1 h => ?_)
  refine az_is2 (pc := 4) C rfl rfl dX9_nameOf_4 ?_
  refine az_il1 (pc := 5) C dX9_nameOf_5 ?_
  refine az_cS1pi (pc := 6) C hd1 h ms_X7_kind ml_X9_75 rfl (fun x hx => A_X7_kind (by omega) hx) dX9_nameOf_6 (fun r2 h => ?_)
  refine az_ik1 (pc := 9) C dX9_nameOf_9 ?_
  refine az_icmp_ne (pc := 10) (tgt := 32) C h dX9_nameOf_10 (by decide) (fun _ h => ?_) (fun _ h => ?_)
  · refine az_il1 (pc := 32) C dX9_nameOf_32 ?_
    refine az_cS1pi (pc := 33) C hd1 h ms_X7_kind ml_X9_75 rfl (fun x hx => A_X7_kind (by omega) hx) dX9_nameOf_33 (fun r3 h => ?_)
    refine az_ik2 (pc := 36) C dX9_nameOf_36 ?_
    refine az_icmp_ne (pc := 37) (tgt := 57) C h dX9_nameOf_37 (by decide) (fun _ h => ?_) (fun _ h => ?_)
    · refine az_ik0 (pc := 57) C dX9_nameOf_57 ?_
      obtain rfl := Option.some.inj h
      exact az_ireturn (pc := 58) C dX9_nameOf_58 rfl
    refine az_il2 (pc := 40) C dX9_nameOf_40 ?_
    refine az_al0 (pc := 41) C rfl rfl dX9_nameOf_41 ?_
    refine az_getI (pc := 42) C fl_X9_15 rfl dX9_nameOf_42 ?_
    refine az_icmp_ge (pc := 45) (tgt := 57) C h dX9_nameOf_45 (by decide) (fun _ h => ?_) (fun _ h => ?_)
    · refine az_ik0 (pc := 57) C dX9_nameOf_57 ?_
      obtain rfl := Option.some.inj h
      exact az_ireturn (pc := 58) C dX9_nameOf_58 rfl
    refine az_al0 (pc := 48) C rfl rfl dX9_nameOf_48 ?_
    refine az_getR (pc := 49) (c2 := 13) C h fl_X9_28 rfl rfl dX9_nameOf_49 (fun h => ?_)
    refine az_il2 (pc := 52) C dX9_nameOf_52 ?_
    refine az_iaload (pc := 53) C h dX9_nameOf_53 (fun h => ?_)
    refine az_goto (pc := 54) (tgt := 58) C dX9_nameOf_54 (by decide) ?_
    obtain rfl := Option.some.inj h
    exact az_ireturn (pc := 58) C dX9_nameOf_58 rfl
  refine az_il2 (pc := 13) C dX9_nameOf_13 ?_
  refine az_al0 (pc := 14) C rfl rfl dX9_nameOf_14 ?_
  refine az_getI (pc := 15) C fl_X9_9 rfl dX9_nameOf_15 ?_
  refine az_icmp_ge (pc := 18) (tgt := 30) C h dX9_nameOf_18 (by decide) (fun _ h => ?_) (fun _ h => ?_)
  · refine az_ik0 (pc := 30) C dX9_nameOf_30 ?_
    obtain rfl := Option.some.inj h
    exact az_ireturn (pc := 31) C dX9_nameOf_31 rfl
  refine az_al0 (pc := 21) C rfl rfl dX9_nameOf_21 ?_
  refine az_getR (pc := 22) (c2 := 13) C h fl_X9_21 rfl rfl dX9_nameOf_22 (fun h => ?_)
  refine az_il2 (pc := 25) C dX9_nameOf_25 ?_
  refine az_iaload (pc := 26) C h dX9_nameOf_26 (fun h => ?_)
  refine az_goto (pc := 27) (tgt := 31) C dX9_nameOf_27 (by decide) ?_
  obtain rfl := Option.some.inj h
  exact az_ireturn (pc := 31) C dX9_nameOf_31 rfl
set_option maxRecDepth 10000 in
set_option maxHeartbeats 4000000 in
theorem A_X9_nameOf {l : Launch} {d : Nat} (hD : 2 ≤ d) {σ : az_Hp} {v0 v1 : Int} {r : Int} (h : fz_X9_nameOf σ v0 v1 = some r) : az_AC l yX9_nameOf cX9_nameOf 3 (some .int) d [(11, v0), (0, v1)] σ (some (0, r), σ) := az_AC.of mt_X9_nameOf rfl rfl rfl (fun Z hZ C => A_X9_nameOf_e C hD h)
