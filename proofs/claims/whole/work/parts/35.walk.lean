theorem dX11_onRightAgain_0 : decode cX11_onRightAgain 0 = .ok (.aload_n 0, 1) := by decide +kernel
theorem dX11_onRightAgain_1 : decode cX11_onRightAgain 1 = .ok (.iload_n 1, 1) := by decide +kernel
theorem dX11_onRightAgain_2 : decode cX11_onRightAgain 2 = .ok (.invokevirtual 505, 3) := by decide +kernel
theorem dX11_onRightAgain_5 : decode cX11_onRightAgain 5 = .ok (.istore_n 2, 1) := by decide +kernel
theorem dX11_onRightAgain_6 : decode cX11_onRightAgain 6 = .ok (.iconst (-1), 1) := by decide +kernel
theorem dX11_onRightAgain_7 : decode cX11_onRightAgain 7 = .ok (.istore_n 3, 1) := by decide +kernel
theorem dX11_onRightAgain_8 : decode cX11_onRightAgain 8 = .ok (.iload_n 3, 1) := by decide +kernel
theorem dX11_onRightAgain_9 : decode cX11_onRightAgain 9 = .ok (.iload_n 2, 1) := by decide +kernel
theorem dX11_onRightAgain_10 : decode cX11_onRightAgain 10 = .ok (.if_icmp .eq 54, 3) := by decide +kernel
theorem dX11_onRightAgain_13 : decode cX11_onRightAgain 13 = .ok (.iload_n 2, 1) := by decide +kernel
theorem dX11_onRightAgain_14 : decode cX11_onRightAgain 14 = .ok (.istore_n 3, 1) := by decide +kernel
theorem dX11_onRightAgain_15 : decode cX11_onRightAgain 15 = .ok (.iconst 0, 1) := by decide +kernel
theorem dX11_onRightAgain_16 : decode cX11_onRightAgain 16 = .ok (.istore 4, 2) := by decide +kernel
theorem dX11_onRightAgain_18 : decode cX11_onRightAgain 18 = .ok (.iload 4, 2) := by decide +kernel
theorem dX11_onRightAgain_20 : decode cX11_onRightAgain 20 = .ok (.aload_n 0, 1) := by decide +kernel
theorem dX11_onRightAgain_21 : decode cX11_onRightAgain 21 = .ok (.getfield 23, 3) := by decide +kernel
theorem dX11_onRightAgain_24 : decode cX11_onRightAgain 24 = .ok (.aload_n 0, 1) := by decide +kernel
theorem dX11_onRightAgain_25 : decode cX11_onRightAgain 25 = .ok (.getfield 285, 3) := by decide +kernel
theorem dX11_onRightAgain_28 : decode cX11_onRightAgain 28 = .ok (.iaload, 1) := by decide +kernel
theorem dX11_onRightAgain_29 : decode cX11_onRightAgain 29 = .ok (.if_icmp .ge 32, 3) := by decide +kernel
theorem dX11_onRightAgain_32 : decode cX11_onRightAgain 32 = .ok (.iload_n 2, 1) := by decide +kernel
theorem dX11_onRightAgain_33 : decode cX11_onRightAgain 33 = .ok (.iload_n 3, 1) := by decide +kernel
theorem dX11_onRightAgain_34 : decode cX11_onRightAgain 34 = .ok (.iload 4, 2) := by decide +kernel
theorem dX11_onRightAgain_36 : decode cX11_onRightAgain 36 = .ok (.ishr, 1) := by decide +kernel
theorem dX11_onRightAgain_37 : decode cX11_onRightAgain 37 = .ok (.iconst 1, 1) := by decide +kernel
theorem dX11_onRightAgain_38 : decode cX11_onRightAgain 38 = .ok (.iand, 1) := by decide +kernel
theorem dX11_onRightAgain_39 : decode cX11_onRightAgain 39 = .ok (.iconst 1, 1) := by decide +kernel
theorem dX11_onRightAgain_40 : decode cX11_onRightAgain 40 = .ok (.if_icmp .ne 12, 3) := by decide +kernel
theorem dX11_onRightAgain_43 : decode cX11_onRightAgain 43 = .ok (.aload_n 0, 1) := by decide +kernel
theorem dX11_onRightAgain_44 : decode cX11_onRightAgain 44 = .ok (.iload 4, 2) := by decide +kernel
theorem dX11_onRightAgain_46 : decode cX11_onRightAgain 46 = .ok (.invokevirtual 505, 3) := by decide +kernel
theorem dX11_onRightAgain_49 : decode cX11_onRightAgain 49 = .ok (.goto 4, 3) := by decide +kernel
theorem dX11_onRightAgain_52 : decode cX11_onRightAgain 52 = .ok (.iconst 0, 1) := by decide +kernel
theorem dX11_onRightAgain_53 : decode cX11_onRightAgain 53 = .ok (.ior, 1) := by decide +kernel
theorem dX11_onRightAgain_54 : decode cX11_onRightAgain 54 = .ok (.istore_n 2, 1) := by decide +kernel
theorem dX11_onRightAgain_55 : decode cX11_onRightAgain 55 = .ok (.iinc 4 1, 3) := by decide +kernel
theorem dX11_onRightAgain_58 : decode cX11_onRightAgain 58 = .ok (.goto (-40), 3) := by decide +kernel
theorem dX11_onRightAgain_61 : decode cX11_onRightAgain 61 = .ok (.goto (-53), 3) := by decide +kernel
theorem dX11_onRightAgain_64 : decode cX11_onRightAgain 64 = .ok (.iload_n 2, 1) := by decide +kernel
theorem dX11_onRightAgain_65 : decode cX11_onRightAgain 65 = .ok (.ireturn, 1) := by decide +kernel
set_option maxRecDepth 10000 in
set_option maxHeartbeats 4000000 in
theorem A_X11_onRightAgain_18 {Z : az_Z} {d : Nat} (C : az_C Z yX11_onRightAgain cX11_onRightAgain 5 (some .int) d) (hD : 4 ≤ d) (n : Nat) {k8 : az_Hp → Int → Int → Int → Option Int} (hk8 : ∀ {σ : az_Hp} {v0 v2 v3 : Int} {r : Int}, k8 σ v0 v2 v3 = some r → az_AW Z 5 8 [(13, v0), (31, 0), (0, v2), (0, v3), (31, 0)] [] σ (some (0, r), σ)) (k : Nat) : ∀ {σ : az_Hp} {v0 v2 v3 v4 : Int} {r : Int}, fz_X11_onRightAgain_18 n k8 k σ v0 v2 v3 v4 = some r → az_AW Z 5 18 [(13, v0), (31, 0), (0, v2), (0, v3), (0, v4)] [] σ (some (0, r), σ) := by
  have hd1 : 1 ≤ d := by omega
  induction k with
  | zero => intro σ v0 v2 v3 v4 r h; simp [fz_X11_onRightAgain_18] at h
  | succ k ih =>
    intro σ v0 v2 v3 v4 r h
    unfold fz_X11_onRightAgain_18 at h
    refine az_il4 (pc := 18) C dX11_onRightAgain_18 ?_
    refine az_al0 (pc := 20) C rfl rfl dX11_onRightAgain_20 ?_
    refine az_getR (pc := 21) (c2 := 13) C h fl_X11_23 rfl rfl dX11_onRightAgain_21 (fun h => ?_)
    refine az_al0 (pc := 24) C rfl rfl dX11_onRightAgain_24 ?_
    refine az_getI (pc := 25) C fl_X11_285 rfl dX11_onRightAgain_25 ?_
    refine az_iaload (pc := 28) C h dX11_onRightAgain_28 (fun h => ?_)
    refine az_icmp_ge (pc := 29) (tgt := 61) C h dX11_onRightAgain_29 (by decide) (fun _ h => ?_) (fun _ h => ?_)
    · refine az_goto (pc := 61) (tgt := 8) C dX11_onRightAgain_61 (by decide) ?_
      exact (az_wkk (hk8 h) (az_sE (az_sJ (az_sE (az_sE (az_sJ az_sN))))))
    refine az_il2 (pc := 32) C dX11_onRightAgain_32 ?_
    refine az_il3 (pc := 33) C dX11_onRightAgain_33 ?_
    refine az_il4 (pc := 34) C dX11_onRightAgain_34 ?_
    refine az_ishr (pc := 36) C dX11_onRightAgain_36 ?_
    refine az_ik1 (pc := 37) C dX11_onRightAgain_37 ?_
    refine az_iand (pc := 38) C dX11_onRightAgain_38 ?_
    refine az_ik1 (pc := 39) C dX11_onRightAgain_39 ?_
    refine az_icmp_ne (pc := 40) (tgt := 52) C h dX11_onRightAgain_40 (by decide) (fun _ h => ?_) (fun _ h => ?_)
    · refine az_ik0 (pc := 52) C dX11_onRightAgain_52 ?_
      refine az_ior (pc := 53) C dX11_onRightAgain_53 ?_
      refine az_is2 (pc := 54) C rfl rfl dX11_onRightAgain_54 ?_
      refine az_ii4 (pc := 55) C az_n1 rfl rfl dX11_onRightAgain_55 ?_
      refine az_goto (pc := 58) (tgt := 18) C dX11_onRightAgain_58 (by decide) ?_
      exact (ih h)
    refine az_al0 (pc := 43) C rfl rfl dX11_onRightAgain_43 ?_
    refine az_il4 (pc := 44) C dX11_onRightAgain_44 ?_
    refine az_cV1pi (pc := 46) (c := 11) C hd1 h mv_X11_onRight ml_X11_505 rfl (fun x hx => A_X11_onRight (by omega) n hx) dX11_onRightAgain_46 (fun r3 h => ?_)
    refine az_goto (pc := 49) (tgt := 53) C dX11_onRightAgain_49 (by decide) ?_
    refine az_ior (pc := 53) C dX11_onRightAgain_53 ?_
    refine az_is2 (pc := 54) C rfl rfl dX11_onRightAgain_54 ?_
    refine az_ii4 (pc := 55) C az_n1 rfl rfl dX11_onRightAgain_55 ?_
    refine az_goto (pc := 58) (tgt := 18) C dX11_onRightAgain_58 (by decide) ?_
    exact (ih h)
set_option maxRecDepth 10000 in
set_option maxHeartbeats 4000000 in
theorem A_X11_onRightAgain_8 {Z : az_Z} {d : Nat} (C : az_C Z yX11_onRightAgain cX11_onRightAgain 5 (some .int) d) (hD : 4 ≤ d) (n : Nat) (k : Nat) : ∀ {σ : az_Hp} {v0 v2 v3 : Int} {r : Int}, fz_X11_onRightAgain_8 n k σ v0 v2 v3 = some r → az_AW Z 5 8 [(13, v0), (31, 0), (0, v2), (0, v3), (31, 0)] [] σ (some (0, r), σ) := by
  have hd1 : 1 ≤ d := by omega
  induction k with
  | zero => intro σ v0 v2 v3 r h; simp [fz_X11_onRightAgain_8] at h
  | succ k ih =>
    intro σ v0 v2 v3 r h
    unfold fz_X11_onRightAgain_8 at h
    refine az_il3 (pc := 8) C dX11_onRightAgain_8 ?_
    refine az_il2 (pc := 9) C dX11_onRightAgain_9 ?_
    refine az_icmp_eq (pc := 10) (tgt := 64) C h dX11_onRightAgain_10 (by decide) (fun _ h => ?_) (fun _ h => ?_)
    · refine az_il2 (pc := 64) C dX11_onRightAgain_64 ?_
      obtain rfl := Option.some.inj h
      exact az_ireturn (pc := 65) C dX11_onRightAgain_65 rfl
    refine az_il2 (pc := 13) C dX11_onRightAgain_13 ?_
    refine az_is3 (pc := 14) C rfl rfl dX11_onRightAgain_14 ?_
    refine az_ik0 (pc := 15) C dX11_onRightAgain_15 ?_
    refine az_is4 (pc := 16) C rfl rfl dX11_onRightAgain_16 ?_
    exact (A_X11_onRightAgain_18 C hD n (fun h => ih h) n h)
set_option maxRecDepth 10000 in
set_option maxHeartbeats 4000000 in
theorem A_X11_onRightAgain_e {Z : az_Z} {d : Nat} (C : az_C Z yX11_onRightAgain cX11_onRightAgain 5 (some .int) d) (hD : 4 ≤ d) (n : Nat) {σ : az_Hp} {v0 v1 : Int} {r : Int} (h : fz_X11_onRightAgain n σ v0 v1 = some r) : az_AW Z 5 0 [(13, v0), (0, v1), (31, 0), (31, 0), (31, 0)] [] σ (some (0, r), σ) := by
  have hd1 : 1 ≤ d := by omega
  unfold fz_X11_onRightAgain at h
  refine az_al0 (pc := 0) C rfl rfl dX11_onRightAgain_0 ?_
  refine az_il1 (pc := 1) C dX11_onRightAgain_1 ?_
  refine az_cV1pi (pc := 2) (c := 11) C hd1 h mv_X11_onRight ml_X11_505 rfl (fun x hx => A_X11_onRight (by omega) n hx) dX11_onRightAgain_2 (fun r1 h => ?_)
  refine az_is2 (pc := 5) C rfl rfl dX11_onRightAgain_5 ?_
  refine az_ikm1 (pc := 6) C dX11_onRightAgain_6 ?_
  refine az_is3 (pc := 7) C rfl rfl dX11_onRightAgain_7 ?_
  exact (az_wkk (A_X11_onRightAgain_8 C hD n n h) (az_sE (az_sJ (az_sE (az_sE (az_sJ az_sN))))))
set_option maxRecDepth 10000 in
set_option maxHeartbeats 4000000 in
theorem A_X11_onRightAgain {l : Launch} {d : Nat} (hD : 4 ≤ d) (n : Nat) {σ : az_Hp} {v0 v1 : Int} {r : Int} (h : fz_X11_onRightAgain n σ v0 v1 = some r) : az_AC l yX11_onRightAgain cX11_onRightAgain 5 (some .int) d [(13, v0), (0, v1)] σ (some (0, r), σ) := az_AC.of mt_X11_onRightAgain rfl rfl rfl (fun Z hZ C => A_X11_onRightAgain_e C hD n h)
theorem dX11_family_0 : decode cX11_family 0 = .ok (.iload_n 2, 1) := by decide +kernel
theorem dX11_family_1 : decode cX11_family 1 = .ok (.iconst 0, 1) := by decide +kernel
theorem dX11_family_2 : decode cX11_family 2 = .ok (.bipush 7, 2) := by decide +kernel
theorem dX11_family_4 : decode cX11_family 4 = .ok (.invokestatic 354, 3) := by decide +kernel
theorem dX11_family_7 : decode cX11_family 7 = .ok (.ifCond .ne 9, 3) := by decide +kernel
theorem dX11_family_10 : decode cX11_family 10 = .ok (.aload_n 0, 1) := by decide +kernel
theorem dX11_family_11 : decode cX11_family 11 = .ok (.iconst 1, 1) := by decide +kernel
theorem dX11_family_12 : decode cX11_family 12 = .ok (.invokevirtual 372, 3) := by decide +kernel
theorem dX11_family_15 : decode cX11_family 15 = .ok (.ireturn, 1) := by decide +kernel
theorem dX11_family_16 : decode cX11_family 16 = .ok (.aload_n 0, 1) := by decide +kernel
theorem dX11_family_17 : decode cX11_family 17 = .ok (.iload_n 1, 1) := by decide +kernel
theorem dX11_family_18 : decode cX11_family 18 = .ok (.invokevirtual 514, 3) := by decide +kernel
theorem dX11_family_21 : decode cX11_family 21 = .ok (.ifCond .ne 9, 3) := by decide +kernel
theorem dX11_family_24 : decode cX11_family 24 = .ok (.aload_n 0, 1) := by decide +kernel
theorem dX11_family_25 : decode cX11_family 25 = .ok (.iconst 2, 1) := by decide +kernel
theorem dX11_family_26 : decode cX11_family 26 = .ok (.invokevirtual 372, 3) := by decide +kernel
theorem dX11_family_29 : decode cX11_family 29 = .ok (.ireturn, 1) := by decide +kernel
theorem dX11_family_30 : decode cX11_family 30 = .ok (.iload_n 2, 1) := by decide +kernel
theorem dX11_family_31 : decode cX11_family 31 = .ok (.tableswitch 159 0 6 #[41, 59, 85, 111, 121, 131, 141], 41) := by decide +kernel
theorem dX11_family_72 : decode cX11_family 72 = .ok (.aload_n 0, 1) := by decide +kernel
theorem dX11_family_73 : decode cX11_family 73 = .ok (.aload_n 0, 1) := by decide +kernel
theorem dX11_family_74 : decode cX11_family 74 = .ok (.getfield 39, 3) := by decide +kernel
theorem dX11_family_77 : decode cX11_family 77 = .ok (.iconst 5, 1) := by decide +kernel
theorem dX11_family_78 : decode cX11_family 78 = .ok (.aload_n 0, 1) := by decide +kernel
theorem dX11_family_79 : decode cX11_family 79 = .ok (.getfield 285, 3) := by decide +kernel
theorem dX11_family_82 : decode cX11_family 82 = .ok (.imul, 1) := by decide +kernel
theorem dX11_family_83 : decode cX11_family 83 = .ok (.iload_n 1, 1) := by decide +kernel
theorem dX11_family_84 : decode cX11_family 84 = .ok (.iadd, 1) := by decide +kernel
theorem dX11_family_85 : decode cX11_family 85 = .ok (.iaload, 1) := by decide +kernel
theorem dX11_family_86 : decode cX11_family 86 = .ok (.invokevirtual 401, 3) := by decide +kernel
theorem dX11_family_89 : decode cX11_family 89 = .ok (.ireturn, 1) := by decide +kernel
theorem dX11_family_90 : decode cX11_family 90 = .ok (.aload_n 0, 1) := by decide +kernel
theorem dX11_family_91 : decode cX11_family 91 = .ok (.aload_n 0, 1) := by decide +kernel
theorem dX11_family_92 : decode cX11_family 92 = .ok (.getfield 42, 3) := by decide +kernel
theorem dX11_family_95 : decode cX11_family 95 = .ok (.iconst 5, 1) := by decide +kernel
theorem dX11_family_96 : decode cX11_family 96 = .ok (.aload_n 0, 1) := by decide +kernel
theorem dX11_family_97 : decode cX11_family 97 = .ok (.getfield 285, 3) := by decide +kernel
theorem dX11_family_100 : decode cX11_family 100 = .ok (.imul, 1) := by decide +kernel
theorem dX11_family_101 : decode cX11_family 101 = .ok (.iload_n 1, 1) := by decide +kernel
theorem dX11_family_102 : decode cX11_family 102 = .ok (.iadd, 1) := by decide +kernel
theorem dX11_family_103 : decode cX11_family 103 = .ok (.baload, 1) := by decide +kernel
theorem dX11_family_104 : decode cX11_family 104 = .ok (.ifCond .eq 7, 3) := by decide +kernel
theorem dX11_family_107 : decode cX11_family 107 = .ok (.iconst 1, 1) := by decide +kernel
theorem dX11_family_108 : decode cX11_family 108 = .ok (.goto 4, 3) := by decide +kernel
theorem dX11_family_111 : decode cX11_family 111 = .ok (.iconst 0, 1) := by decide +kernel
theorem dX11_family_112 : decode cX11_family 112 = .ok (.invokevirtual 401, 3) := by decide +kernel
theorem dX11_family_115 : decode cX11_family 115 = .ok (.ireturn, 1) := by decide +kernel
theorem dX11_family_116 : decode cX11_family 116 = .ok (.aload_n 0, 1) := by decide +kernel
theorem dX11_family_117 : decode cX11_family 117 = .ok (.aload_n 0, 1) := by decide +kernel
theorem dX11_family_118 : decode cX11_family 118 = .ok (.getfield 46, 3) := by decide +kernel
theorem dX11_family_121 : decode cX11_family 121 = .ok (.iconst 5, 1) := by decide +kernel
theorem dX11_family_122 : decode cX11_family 122 = .ok (.aload_n 0, 1) := by decide +kernel
theorem dX11_family_123 : decode cX11_family 123 = .ok (.getfield 285, 3) := by decide +kernel
theorem dX11_family_126 : decode cX11_family 126 = .ok (.imul, 1) := by decide +kernel
theorem dX11_family_127 : decode cX11_family 127 = .ok (.iload_n 1, 1) := by decide +kernel
theorem dX11_family_128 : decode cX11_family 128 = .ok (.iadd, 1) := by decide +kernel
theorem dX11_family_129 : decode cX11_family 129 = .ok (.baload, 1) := by decide +kernel
theorem dX11_family_130 : decode cX11_family 130 = .ok (.ifCond .eq 7, 3) := by decide +kernel
theorem dX11_family_133 : decode cX11_family 133 = .ok (.iconst 1, 1) := by decide +kernel
theorem dX11_family_134 : decode cX11_family 134 = .ok (.goto 4, 3) := by decide +kernel
theorem dX11_family_137 : decode cX11_family 137 = .ok (.iconst 0, 1) := by decide +kernel
theorem dX11_family_138 : decode cX11_family 138 = .ok (.invokevirtual 401, 3) := by decide +kernel
theorem dX11_family_141 : decode cX11_family 141 = .ok (.ireturn, 1) := by decide +kernel
theorem dX11_family_142 : decode cX11_family 142 = .ok (.aload_n 0, 1) := by decide +kernel
theorem dX11_family_143 : decode cX11_family 143 = .ok (.aload_n 0, 1) := by decide +kernel
theorem dX11_family_144 : decode cX11_family 144 = .ok (.iload_n 1, 1) := by decide +kernel
theorem dX11_family_145 : decode cX11_family 145 = .ok (.invokevirtual 517, 3) := by decide +kernel
theorem dX11_family_148 : decode cX11_family 148 = .ok (.invokevirtual 401, 3) := by decide +kernel
theorem dX11_family_151 : decode cX11_family 151 = .ok (.ireturn, 1) := by decide +kernel
theorem dX11_family_152 : decode cX11_family 152 = .ok (.aload_n 0, 1) := by decide +kernel
theorem dX11_family_153 : decode cX11_family 153 = .ok (.aload_n 0, 1) := by decide +kernel
theorem dX11_family_154 : decode cX11_family 154 = .ok (.iload_n 1, 1) := by decide +kernel
theorem dX11_family_155 : decode cX11_family 155 = .ok (.invokevirtual 505, 3) := by decide +kernel
theorem dX11_family_158 : decode cX11_family 158 = .ok (.invokevirtual 401, 3) := by decide +kernel
theorem dX11_family_161 : decode cX11_family 161 = .ok (.ireturn, 1) := by decide +kernel
theorem dX11_family_162 : decode cX11_family 162 = .ok (.aload_n 0, 1) := by decide +kernel
theorem dX11_family_163 : decode cX11_family 163 = .ok (.aload_n 0, 1) := by decide +kernel
theorem dX11_family_164 : decode cX11_family 164 = .ok (.iload_n 1, 1) := by decide +kernel
theorem dX11_family_165 : decode cX11_family 165 = .ok (.invokevirtual 520, 3) := by decide +kernel
theorem dX11_family_168 : decode cX11_family 168 = .ok (.invokevirtual 401, 3) := by decide +kernel
theorem dX11_family_171 : decode cX11_family 171 = .ok (.ireturn, 1) := by decide +kernel
theorem dX11_family_172 : decode cX11_family 172 = .ok (.aload_n 0, 1) := by decide +kernel
theorem dX11_family_173 : decode cX11_family 173 = .ok (.aload_n 0, 1) := by decide +kernel
theorem dX11_family_174 : decode cX11_family 174 = .ok (.iload_n 1, 1) := by decide +kernel
theorem dX11_family_175 : decode cX11_family 175 = .ok (.invokevirtual 523, 3) := by decide +kernel
theorem dX11_family_178 : decode cX11_family 178 = .ok (.ifCond .eq 7, 3) := by decide +kernel
theorem dX11_family_181 : decode cX11_family 181 = .ok (.iconst 0, 1) := by decide +kernel
theorem dX11_family_182 : decode cX11_family 182 = .ok (.goto 4, 3) := by decide +kernel
theorem dX11_family_185 : decode cX11_family 185 = .ok (.iconst 1, 1) := by decide +kernel
theorem dX11_family_186 : decode cX11_family 186 = .ok (.invokevirtual 401, 3) := by decide +kernel
theorem dX11_family_189 : decode cX11_family 189 = .ok (.ireturn, 1) := by decide +kernel
theorem dX11_family_190 : decode cX11_family 190 = .ok (.aload_n 0, 1) := by decide +kernel
theorem dX11_family_191 : decode cX11_family 191 = .ok (.aload_n 0, 1) := by decide +kernel
theorem dX11_family_192 : decode cX11_family 192 = .ok (.iload_n 1, 1) := by decide +kernel
theorem dX11_family_193 : decode cX11_family 193 = .ok (.invokevirtual 526, 3) := by decide +kernel
theorem dX11_family_196 : decode cX11_family 196 = .ok (.ifCond .eq 7, 3) := by decide +kernel
theorem dX11_family_199 : decode cX11_family 199 = .ok (.iconst 1, 1) := by decide +kernel
theorem dX11_family_200 : decode cX11_family 200 = .ok (.goto 4, 3) := by decide +kernel
theorem dX11_family_203 : decode cX11_family 203 = .ok (.iconst 0, 1) := by decide +kernel
theorem dX11_family_204 : decode cX11_family 204 = .ok (.invokevirtual 401, 3) := by decide +kernel
theorem dX11_family_207 : decode cX11_family 207 = .ok (.ireturn, 1) := by decide +kernel
set_option maxRecDepth 10000 in
set_option maxHeartbeats 4000000 in
theorem A_X11_family_e {Z : az_Z} {d : Nat} (C : az_C Z yX11_family cX11_family 3 (some .int) d) (hD : 211 ≤ d) (n : Nat) {σ : az_Hp} {v0 v1 v2 : Int} {r : (Int × az_Hp)} (h : fz_X11_family n σ v0 v1 v2 = some r) : az_AW Z 3 0 [(13, v0), (0, v1), (0, v2)] [] σ (some (0, r.1), r.2) := by
  have hd1 : 1 ≤ d := by omega
  unfold fz_X11_family at h
  refine az_il2 (pc := 0) C dX11_family_0 ?_
  refine az_ik0 (pc := 1) C dX11_family_1 ?_
  refine az_bk7 (pc := 2) C dX11_family_2 ?_
  refine az_cS3pi (pc := 4) C hd1 h ms_X11_isFrom ml_X11_354 rfl (fun x hx => A_X11_isFrom (by omega) hx) dX11_family_4 (fun r1 h => ?_)
  refine az_if_ne (pc := 7) (tgt := 16) C h dX11_family_7 (by decide) (fun _ h => ?_) (fun _ h => ?_)
  · refine az_al0 (pc := 16) C rfl rfl dX11_family_16 ?_
    refine az_il1 (pc := 17) C dX11_family_17 ?_
    refine az_cV1pi (pc := 18) (c := 11) C hd1 h mv_X11_isFamily ml_X11_514 rfl (fun x hx => A_X11_isFamily (by omega) hx) dX11_family_18 (fun r2 h => ?_)
    refine az_if_ne (pc := 21) (tgt := 30) C h dX11_family_21 (by decide) (fun _ h => ?_) (fun _ h => ?_)
    · refine az_il2 (pc := 30) C dX11_family_30 ?_
      rcases az_ite h with ⟨c0, h⟩ | ⟨c0, h⟩
      · refine az_tswIn (pc := 31) (i := 0) (tgt := 72) C (by exact c0) (by decide) rfl dX11_family_31 (by decide) ?_
        refine az_al0 (pc := 72) C rfl rfl dX11_family_72 ?_
        refine az_al0 (pc := 73) C rfl rfl dX11_family_73 ?_
        refine az_getR (pc := 74) (c2 := 13) C h fl_X11_39 rfl rfl dX11_family_74 (fun h => ?_)
        refine az_ik5 (pc := 77) C dX11_family_77 ?_
        refine az_al0 (pc := 78) C rfl rfl dX11_family_78 ?_
        refine az_getI (pc := 79) C fl_X11_285 rfl dX11_family_79 ?_
        refine az_imul (pc := 82) C dX11_family_82 ?_
        refine az_il1 (pc := 83) C dX11_family_83 ?_
        refine az_iadd (pc := 84) C dX11_family_84 ?_
        refine az_iaload (pc := 85) C h dX11_family_85 (fun h => ?_)
        refine az_cV1ii (pc := 86) (c := 11) C hd1 h mv_X11_gives ml_X11_401 rfl (fun x hx => A_X11_gives (by omega) hx) dX11_family_86 (fun r5 h => ?_)
        obtain rfl := Option.some.inj h
        exact az_ireturn (pc := 89) C dX11_family_89 rfl
      rcases az_ite h with ⟨c1, h⟩ | ⟨c1, h⟩
      · refine az_tswIn (pc := 31) (i := 1) (tgt := 90) C (by exact c1) (by decide) rfl dX11_family_31 (by decide) ?_
        refine az_al0 (pc := 90) C rfl rfl dX11_family_90 ?_
        refine az_al0 (pc := 91) C rfl rfl dX11_family_91 ?_
        refine az_getR (pc := 92) (c2 := 15) C h fl_X11_42 rfl rfl dX11_family_92 (fun h => ?_)
        refine az_ik5 (pc := 95) C dX11_family_95 ?_
        refine az_al0 (pc := 96) C rfl rfl dX11_family_96 ?_
        refine az_getI (pc := 97) C fl_X11_285 rfl dX11_family_97 ?_
        refine az_imul (pc := 100) C dX11_family_100 ?_
        refine az_il1 (pc := 101) C dX11_family_101 ?_
        refine az_iadd (pc := 102) C dX11_family_102 ?_
        refine az_zaload (pc := 103) C h dX11_family_103 (fun h => ?_)
        refine az_if_eq (pc := 104) (tgt := 111) C h dX11_family_104 (by decide) (fun _ h => ?_) (fun _ h => ?_)
        · refine az_ik0 (pc := 111) C dX11_family_111 ?_
          refine az_cV1ii (pc := 112) (c := 11) C hd1 h mv_X11_gives ml_X11_401 rfl (fun x hx => A_X11_gives (by omega) hx) dX11_family_112 (fun r8 h => ?_)
          obtain rfl := Option.some.inj h
          exact az_ireturn (pc := 115) C dX11_family_115 rfl
        refine az_ik1 (pc := 107) C dX11_family_107 ?_
        refine az_goto (pc := 108) (tgt := 112) C dX11_family_108 (by decide) ?_
        refine az_cV1ii (pc := 112) (c := 11) C hd1 h mv_X11_gives ml_X11_401 rfl (fun x hx => A_X11_gives (by omega) hx) dX11_family_112 (fun r9 h => ?_)
        obtain rfl := Option.some.inj h
        exact az_ireturn (pc := 115) C dX11_family_115 rfl
      rcases az_ite h with ⟨c2, h⟩ | ⟨c2, h⟩
      · refine az_tswIn (pc := 31) (i := 2) (tgt := 116) C (by exact c2) (by decide) rfl dX11_family_31 (by decide) ?_
        refine az_al0 (pc := 116) C rfl rfl dX11_family_116 ?_
        refine az_al0 (pc := 117) C rfl rfl dX11_family_117 ?_
        refine az_getR (pc := 118) (c2 := 15) C h fl_X11_46 rfl rfl dX11_family_118 (fun h => ?_)
        refine az_ik5 (pc := 121) C dX11_family_121 ?_
        refine az_al0 (pc := 122) C rfl rfl dX11_family_122 ?_
        refine az_getI (pc := 123) C fl_X11_285 rfl dX11_family_123 ?_
        refine az_imul (pc := 126) C dX11_family_126 ?_
        refine az_il1 (pc := 127) C dX11_family_127 ?_
        refine az_iadd (pc := 128) C dX11_family_128 ?_
        refine az_zaload (pc := 129) C h dX11_family_129 (fun h => ?_)
        refine az_if_eq (pc := 130) (tgt := 137) C h dX11_family_130 (by decide) (fun _ h => ?_) (fun _ h => ?_)
        · refine az_ik0 (pc := 137) C dX11_family_137 ?_
          refine az_cV1ii (pc := 138) (c := 11) C hd1 h mv_X11_gives ml_X11_401 rfl (fun x hx => A_X11_gives (by omega) hx) dX11_family_138 (fun r12 h => ?_)
          obtain rfl := Option.some.inj h
          exact az_ireturn (pc := 141) C dX11_family_141 rfl
        refine az_ik1 (pc := 133) C dX11_family_133 ?_
        refine az_goto (pc := 134) (tgt := 138) C dX11_family_134 (by decide) ?_
        refine az_cV1ii (pc := 138) (c := 11) C hd1 h mv_X11_gives ml_X11_401 rfl (fun x hx => A_X11_gives (by omega) hx) dX11_family_138 (fun r13 h => ?_)
        obtain rfl := Option.some.inj h
        exact az_ireturn (pc := 141) C dX11_family_141 rfl
      rcases az_ite h with ⟨c3, h⟩ | ⟨c3, h⟩
      · refine az_tswIn (pc := 31) (i := 3) (tgt := 142) C (by exact c3) (by decide) rfl dX11_family_31 (by decide) ?_
        refine az_al0 (pc := 142) C rfl rfl dX11_family_142 ?_
        refine az_al0 (pc := 143) C rfl rfl dX11_family_143 ?_
        refine az_il1 (pc := 144) C dX11_family_144 ?_
        refine az_cV1pi (pc := 145) (c := 11) C hd1 h mv_X11_equationsOf ml_X11_517 rfl (fun x hx => A_X11_equationsOf (by omega) n hx) dX11_family_145 (fun r14 h => ?_)
        refine az_cV1ii (pc := 148) (c := 11) C hd1 h mv_X11_gives ml_X11_401 rfl (fun x hx => A_X11_gives (by omega) hx) dX11_family_148 (fun r15 h => ?_)
        obtain rfl := Option.some.inj h
        exact az_ireturn (pc := 151) C dX11_family_151 rfl
      rcases az_ite h with ⟨c4, h⟩ | ⟨c4, h⟩
      · refine az_tswIn (pc := 31) (i := 4) (tgt := 152) C (by exact c4) (by decide) rfl dX11_family_31 (by decide) ?_
        refine az_al0 (pc := 152) C rfl rfl dX11_family_152 ?_
        refine az_al0 (pc := 153) C rfl rfl dX11_family_153 ?_
        refine az_il1 (pc := 154) C dX11_family_154 ?_
        refine az_cV1pi (pc := 155) (c := 11) C hd1 h mv_X11_onRight ml_X11_505 rfl (fun x hx => A_X11_onRight (by omega) n hx) dX11_family_155 (fun r16 h => ?_)
        refine az_cV1ii (pc := 158) (c := 11) C hd1 h mv_X11_gives ml_X11_401 rfl (fun x hx => A_X11_gives (by omega) hx) dX11_family_158 (fun r17 h => ?_)
        obtain rfl := Option.some.inj h
        exact az_ireturn (pc := 161) C dX11_family_161 rfl
      rcases az_ite h with ⟨c5, h⟩ | ⟨c5, h⟩
      · refine az_tswIn (pc := 31) (i := 5) (tgt := 162) C (by exact c5) (by decide) rfl dX11_family_31 (by decide) ?_
        refine az_al0 (pc := 162) C rfl rfl dX11_family_162 ?_
        refine az_al0 (pc := 163) C rfl rfl dX11_family_163 ?_
        refine az_il1 (pc := 164) C dX11_family_164 ?_
        refine az_cV1pi (pc := 165) (c := 11) C hd1 h mv_X11_onRightAgain ml_X11_520 rfl (fun x hx => A_X11_onRightAgain (by omega) n hx) dX11_family_165 (fun r18 h => ?_)
        refine az_cV1ii (pc := 168) (c := 11) C hd1 h mv_X11_gives ml_X11_401 rfl (fun x hx => A_X11_gives (by omega) hx) dX11_family_168 (fun r19 h => ?_)
        obtain rfl := Option.some.inj h
        exact az_ireturn (pc := 171) C dX11_family_171 rfl
      rcases az_ite h with ⟨c6, h⟩ | ⟨c6, h⟩
      · refine az_tswIn (pc := 31) (i := 6) (tgt := 172) C (by exact c6) (by decide) rfl dX11_family_31 (by decide) ?_
        refine az_al0 (pc := 172) C rfl rfl dX11_family_172 ?_
        refine az_al0 (pc := 173) C rfl rfl dX11_family_173 ?_
        refine az_il1 (pc := 174) C dX11_family_174 ?_
        refine az_cV1ii (pc := 175) (c := 11) C hd1 h mv_X11_isParted ml_X11_523 rfl (fun x hx => A_X11_isParted (by omega) n hx) dX11_family_175 (fun r20 h => ?_)
        refine az_if_eq (pc := 178) (tgt := 185) C h dX11_family_178 (by decide) (fun _ h => ?_) (fun _ h => ?_)
        · refine az_ik1 (pc := 185) C dX11_family_185 ?_
          refine az_cV1ii (pc := 186) (c := 11) C hd1 h mv_X11_gives ml_X11_401 rfl (fun x hx => A_X11_gives (by omega) hx) dX11_family_186 (fun r21 h => ?_)
          obtain rfl := Option.some.inj h
          exact az_ireturn (pc := 189) C dX11_family_189 rfl
        refine az_ik0 (pc := 181) C dX11_family_181 ?_
        refine az_goto (pc := 182) (tgt := 186) C dX11_family_182 (by decide) ?_
        refine az_cV1ii (pc := 186) (c := 11) C hd1 h mv_X11_gives ml_X11_401 rfl (fun x hx => A_X11_gives (by omega) hx) dX11_family_186 (fun r22 h => ?_)
        obtain rfl := Option.some.inj h
        exact az_ireturn (pc := 189) C dX11_family_189 rfl
      refine az_tswOut (pc := 31) (tgt := 190) C (by omega) dX11_family_31 (by decide) ?_
      refine az_al0 (pc := 190) C rfl rfl dX11_family_190 ?_
      refine az_al0 (pc := 191) C rfl rfl dX11_family_191 ?_
      refine az_il1 (pc := 192) C dX11_family_192 ?_
      refine az_cV1ii (pc := 193) (c := 11) C hd1 h mv_X11_canBack ml_X11_526 rfl (fun x hx => A_X11_canBack (by omega) n hx) dX11_family_193 (fun r23 h => ?_)
      refine az_if_eq (pc := 196) (tgt := 203) C h dX11_family_196 (by decide) (fun _ h => ?_) (fun _ h => ?_)
      · refine az_ik0 (pc := 203) C dX11_family_203 ?_
        refine az_cV1ii (pc := 204) (c := 11) C hd1 h mv_X11_gives ml_X11_401 rfl (fun x hx => A_X11_gives (by omega) hx) dX11_family_204 (fun r24 h => ?_)
        obtain rfl := Option.some.inj h
        exact az_ireturn (pc := 207) C dX11_family_207 rfl
      refine az_ik1 (pc := 199) C dX11_family_199 ?_
      refine az_goto (pc := 200) (tgt := 204) C dX11_family_200 (by decide) ?_
      refine az_cV1ii (pc := 204) (c := 11) C hd1 h mv_X11_gives ml_X11_401 rfl (fun x hx => A_X11_gives (by omega) hx) dX11_family_204 (fun r25 h => ?_)
      obtain rfl := Option.some.inj h
      exact az_ireturn (pc := 207) C dX11_family_207 rfl
    refine az_al0 (pc := 24) C rfl rfl dX11_family_24 ?_
    refine az_ik2 (pc := 25) C dX11_family_25 ?_
    refine az_cV1ii (pc := 26) (c := 11) C hd1 h mv_X11_refuse ml_X11_372 rfl (fun x hx => A_X11_refuse (by omega) hx) dX11_family_26 (fun r26 h => ?_)
    obtain rfl := Option.some.inj h
    exact az_ireturn (pc := 29) C dX11_family_29 rfl
  refine az_al0 (pc := 10) C rfl rfl dX11_family_10 ?_
  refine az_ik1 (pc := 11) C dX11_family_11 ?_
  refine az_cV1ii (pc := 12) (c := 11) C hd1 h mv_X11_refuse ml_X11_372 rfl (fun x hx => A_X11_refuse (by omega) hx) dX11_family_12 (fun r27 h => ?_)
  obtain rfl := Option.some.inj h
  exact az_ireturn (pc := 15) C dX11_family_15 rfl
set_option maxRecDepth 10000 in
set_option maxHeartbeats 4000000 in
theorem A_X11_family {l : Launch} {d : Nat} (hD : 211 ≤ d) (n : Nat) {σ : az_Hp} {v0 v1 v2 : Int} {r : (Int × az_Hp)} (h : fz_X11_family n σ v0 v1 v2 = some r) : az_AC l yX11_family cX11_family 3 (some .int) d [(13, v0), (0, v1), (0, v2)] σ (some (0, r.1), r.2) := az_AC.of mt_X11_family rfl rfl rfl (fun Z hZ C => A_X11_family_e C hD n h)
theorem dX11_fault_0 : decode cX11_fault 0 = .ok (.iload_n 1, 1) := by decide +kernel
theorem dX11_fault_1 : decode cX11_fault 1 = .ok (.ifCond .ne 10, 3) := by decide +kernel
theorem dX11_fault_4 : decode cX11_fault 4 = .ok (.aload_n 0, 1) := by decide +kernel
theorem dX11_fault_5 : decode cX11_fault 5 = .ok (.getfield 13, 3) := by decide +kernel
theorem dX11_fault_8 : decode cX11_fault 8 = .ok (.goto 16, 3) := by decide +kernel
theorem dX11_fault_11 : decode cX11_fault 11 = .ok (.iload_n 1, 1) := by decide +kernel
theorem dX11_fault_12 : decode cX11_fault 12 = .ok (.iconst 1, 1) := by decide +kernel
theorem dX11_fault_13 : decode cX11_fault 13 = .ok (.if_icmp .ne 10, 3) := by decide +kernel
theorem dX11_fault_16 : decode cX11_fault 16 = .ok (.aload_n 0, 1) := by decide +kernel
theorem dX11_fault_17 : decode cX11_fault 17 = .ok (.getfield 17, 3) := by decide +kernel
theorem dX11_fault_20 : decode cX11_fault 20 = .ok (.goto 4, 3) := by decide +kernel
theorem dX11_fault_23 : decode cX11_fault 23 = .ok (.iconst (-1), 1) := by decide +kernel
theorem dX11_fault_24 : decode cX11_fault 24 = .ok (.ireturn, 1) := by decide +kernel
set_option maxRecDepth 10000 in
set_option maxHeartbeats 4000000 in
theorem A_X11_fault_e {Z : az_Z} {d : Nat} (C : az_C Z yX11_fault cX11_fault 2 (some .int) d) (hD : 1 ≤ d) {σ : az_Hp} {v0 v1 : Int} {r : Int} (h : fz_X11_fault σ v0 v1 = some r) : az_AW Z 2 0 [(13, v0), (0, v1)] [] σ (some (0, r), σ) := by
  have hd1 : 1 ≤ d := by omega
  unfold fz_X11_fault at h
  refine az_il1 (pc := 0) C dX11_fault_0 ?_
  refine az_if_ne (pc := 1) (tgt := 11) C h dX11_fault_1 (by decide) (fun _ h => ?_) (fun _ h => ?_)
  · refine az_il1 (pc := 11) C dX11_fault_11 ?_
    refine az_ik1 (pc := 12) C dX11_fault_12 ?_
    refine az_icmp_ne (pc := 13) (tgt := 23) C h dX11_fault_13 (by decide) (fun _ h => ?_) (fun _ h => ?_)
    · refine az_ikm1 (pc := 23) C dX11_fault_23 ?_
      obtain rfl := Option.some.inj h
      exact az_ireturn (pc := 24) C dX11_fault_24 rfl
    refine az_al0 (pc := 16) C rfl rfl dX11_fault_16 ?_
    refine az_getI (pc := 17) C fl_X11_17 rfl dX11_fault_17 ?_
    refine az_goto (pc := 20) (tgt := 24) C dX11_fault_20 (by decide) ?_
    obtain rfl := Option.some.inj h
    exact az_ireturn (pc := 24) C dX11_fault_24 rfl
  refine az_al0 (pc := 4) C rfl rfl dX11_fault_4 ?_
  refine az_getI (pc := 5) C fl_X11_13 rfl dX11_fault_5 ?_
  refine az_goto (pc := 8) (tgt := 24) C dX11_fault_8 (by decide) ?_
  obtain rfl := Option.some.inj h
  exact az_ireturn (pc := 24) C dX11_fault_24 rfl
set_option maxRecDepth 10000 in
set_option maxHeartbeats 4000000 in
theorem A_X11_fault {l : Launch} {d : Nat} (hD : 1 ≤ d) {σ : az_Hp} {v0 v1 : Int} {r : Int} (h : fz_X11_fault σ v0 v1 = some r) : az_AC l yX11_fault cX11_fault 2 (some .int) d [(13, v0), (0, v1)] σ (some (0, r), σ) := az_AC.of mt_X11_fault rfl rfl rfl (fun Z hZ C => A_X11_fault_e C hD h)
theorem dX11_come_0 : decode cX11_come 0 = .ok (.bipush 24, 2) := by decide +kernel
theorem dX11_come_2 : decode cX11_come 2 = .ok (.istore_n 2, 1) := by decide +kernel
theorem dX11_come_3 : decode cX11_come 3 = .ok (.iload_n 2, 1) := by decide +kernel
theorem dX11_come_4 : decode cX11_come 4 = .ok (.ifCond .lt 35, 3) := by decide +kernel
theorem dX11_come_7 : decode cX11_come 7 = .ok (.aload_n 0, 1) := by decide +kernel
theorem dX11_come_8 : decode cX11_come 8 = .ok (.getfield 7, 3) := by decide +kernel
theorem dX11_come_11 : decode cX11_come 11 = .ok (.aload_n 0, 1) := by decide +kernel
theorem dX11_come_12 : decode cX11_come 12 = .ok (.getfield 216, 3) := by decide +kernel
theorem dX11_come_15 : decode cX11_come 15 = .ok (.iload_n 1, 1) := by decide +kernel
theorem dX11_come_16 : decode cX11_come 16 = .ok (.iload_n 2, 1) := by decide +kernel
theorem dX11_come_17 : decode cX11_come 17 = .ok (.iushr, 1) := by decide +kernel
theorem dX11_come_18 : decode cX11_come 18 = .ok (.sipush 255, 3) := by decide +kernel
theorem dX11_come_21 : decode cX11_come 21 = .ok (.iand, 1) := by decide +kernel
theorem dX11_come_22 : decode cX11_come 22 = .ok (.iastore, 1) := by decide +kernel
theorem dX11_come_23 : decode cX11_come 23 = .ok (.aload_n 0, 1) := by decide +kernel
theorem dX11_come_24 : decode cX11_come 24 = .ok (.dup, 1) := by decide +kernel
theorem dX11_come_25 : decode cX11_come 25 = .ok (.getfield 216, 3) := by decide +kernel
theorem dX11_come_28 : decode cX11_come 28 = .ok (.iconst 1, 1) := by decide +kernel
theorem dX11_come_29 : decode cX11_come 29 = .ok (.iadd, 1) := by decide +kernel
theorem dX11_come_30 : decode cX11_come 30 = .ok (.putfield 216, 3) := by decide +kernel
theorem dX11_come_33 : decode cX11_come 33 = .ok (.iinc 2 (-8), 3) := by decide +kernel
theorem dX11_come_36 : decode cX11_come 36 = .ok (.goto (-33), 3) := by decide +kernel
theorem dX11_come_39 : decode cX11_come 39 = .ok (.return_, 1) := by decide +kernel
set_option maxRecDepth 10000 in
set_option maxHeartbeats 4000000 in
theorem A_X11_come_3 {Z : az_Z} {d : Nat} (C : az_C Z yX11_come cX11_come 3 none d) (hD : 1 ≤ d) (n : Nat) (k : Nat) : ∀ {σ : az_Hp} {v0 v1 v2 : Int} {r : az_Hp}, fz_X11_come_3 n k σ v0 v1 v2 = some r → az_AW Z 3 3 [(13, v0), (0, v1), (0, v2)] [] σ (none, r) := by
  have hd1 : 1 ≤ d := by omega
  induction k with
  | zero => intro σ v0 v1 v2 r h; simp [fz_X11_come_3] at h
  | succ k ih =>
    intro σ v0 v1 v2 r h
    unfold fz_X11_come_3 at h
    refine az_il2 (pc := 3) C dX11_come_3 ?_
    refine az_if_lt (pc := 4) (tgt := 39) C h dX11_come_4 (by decide) (fun _ h => ?_) (fun _ h => ?_)
    · obtain rfl := Option.some.inj h
      exact az_return (pc := 39) C dX11_come_39 rfl
    refine az_al0 (pc := 7) C rfl rfl dX11_come_7 ?_
    refine az_getR (pc := 8) (c2 := 13) C h fl_X11_7 rfl rfl dX11_come_8 (fun h => ?_)
    refine az_al0 (pc := 11) C rfl rfl dX11_come_11 ?_
    refine az_getI (pc := 12) C fl_X11_216 rfl dX11_come_12 ?_
    refine az_il1 (pc := 15) C dX11_come_15 ?_
    refine az_il2 (pc := 16) C dX11_come_16 ?_
    refine az_iushr (pc := 17) C dX11_come_17 ?_
    refine az_sk255 (pc := 18) C dX11_come_18 ?_
    refine az_iand (pc := 21) C dX11_come_21 ?_
    refine az_iastore (pc := 22) C h dX11_come_22 (fun h => ?_)
    refine az_al0 (pc := 23) C rfl rfl dX11_come_23 ?_
    refine az_dup (pc := 24) C rfl rfl dX11_come_24 ?_
    refine az_getI (pc := 25) C fl_X11_216 rfl dX11_come_25 ?_
    refine az_ik1 (pc := 28) C dX11_come_28 ?_
    refine az_iadd (pc := 29) C dX11_come_29 ?_
    refine az_putI (pc := 30) C fl_X11_216 (Or.inl rfl) rfl dX11_come_30 ?_
    refine az_ii2 (pc := 33) C az_nm8 rfl rfl dX11_come_33 ?_
    refine az_goto (pc := 36) (tgt := 3) C dX11_come_36 (by decide) ?_
    exact (ih h)
set_option maxRecDepth 10000 in
set_option maxHeartbeats 4000000 in
theorem A_X11_come_e {Z : az_Z} {d : Nat} (C : az_C Z yX11_come cX11_come 3 none d) (hD : 1 ≤ d) (n : Nat) {σ : az_Hp} {v0 v1 : Int} {r : az_Hp} (h : fz_X11_come n σ v0 v1 = some r) : az_AW Z 3 0 [(13, v0), (0, v1), (31, 0)] [] σ (none, r) := by
  have hd1 : 1 ≤ d := by omega
  unfold fz_X11_come at h
  refine az_bk24 (pc := 0) C dX11_come_0 ?_
  refine az_is2 (pc := 2) C rfl rfl dX11_come_2 ?_
  exact (A_X11_come_3 C hD n n h)
set_option maxRecDepth 10000 in
set_option maxHeartbeats 4000000 in
theorem A_X11_come {l : Launch} {d : Nat} (hD : 1 ≤ d) (n : Nat) {σ : az_Hp} {v0 v1 : Int} {r : az_Hp} (h : fz_X11_come n σ v0 v1 = some r) : az_AC l yX11_come cX11_come 3 none d [(13, v0), (0, v1)] σ (none, r) := az_AC.of mt_X11_come rfl rfl rfl (fun Z hZ C => A_X11_come_e C hD n h)
theorem dX11_feed_0 : decode cX11_feed 0 = .ok (.aload_n 0, 1) := by decide +kernel
theorem dX11_feed_1 : decode cX11_feed 1 = .ok (.getfield 216, 3) := by decide +kernel
theorem dX11_feed_4 : decode cX11_feed 4 = .ok (.bipush 20, 2) := by decide +kernel
theorem dX11_feed_6 : decode cX11_feed 6 = .ok (.iadd, 1) := by decide +kernel
theorem dX11_feed_7 : decode cX11_feed 7 = .ok (.sipush 900, 3) := by decide +kernel
theorem dX11_feed_10 : decode cX11_feed 10 = .ok (.if_icmp .le 5, 3) := by decide +kernel
theorem dX11_feed_13 : decode cX11_feed 13 = .ok (.iconst (-1), 1) := by decide +kernel
theorem dX11_feed_14 : decode cX11_feed 14 = .ok (.ireturn, 1) := by decide +kernel
theorem dX11_feed_15 : decode cX11_feed 15 = .ok (.aload_n 0, 1) := by decide +kernel
theorem dX11_feed_16 : decode cX11_feed 16 = .ok (.iload_n 1, 1) := by decide +kernel
theorem dX11_feed_17 : decode cX11_feed 17 = .ok (.invokevirtual 219, 3) := by decide +kernel
theorem dX11_feed_20 : decode cX11_feed 20 = .ok (.aload_n 0, 1) := by decide +kernel
theorem dX11_feed_21 : decode cX11_feed 21 = .ok (.iload_n 2, 1) := by decide +kernel
theorem dX11_feed_22 : decode cX11_feed 22 = .ok (.invokevirtual 219, 3) := by decide +kernel
theorem dX11_feed_25 : decode cX11_feed 25 = .ok (.aload_n 0, 1) := by decide +kernel
theorem dX11_feed_26 : decode cX11_feed 26 = .ok (.iload_n 3, 1) := by decide +kernel
theorem dX11_feed_27 : decode cX11_feed 27 = .ok (.invokevirtual 219, 3) := by decide +kernel
theorem dX11_feed_30 : decode cX11_feed 30 = .ok (.aload_n 0, 1) := by decide +kernel
theorem dX11_feed_31 : decode cX11_feed 31 = .ok (.iload 4, 2) := by decide +kernel
theorem dX11_feed_33 : decode cX11_feed 33 = .ok (.invokevirtual 219, 3) := by decide +kernel
theorem dX11_feed_36 : decode cX11_feed 36 = .ok (.aload_n 0, 1) := by decide +kernel
theorem dX11_feed_37 : decode cX11_feed 37 = .ok (.iload 5, 2) := by decide +kernel
theorem dX11_feed_39 : decode cX11_feed 39 = .ok (.invokevirtual 219, 3) := by decide +kernel
theorem dX11_feed_42 : decode cX11_feed 42 = .ok (.aload_n 0, 1) := by decide +kernel
theorem dX11_feed_43 : decode cX11_feed 43 = .ok (.getfield 216, 3) := by decide +kernel
theorem dX11_feed_46 : decode cX11_feed 46 = .ok (.ireturn, 1) := by decide +kernel
set_option maxRecDepth 10000 in
set_option maxHeartbeats 4000000 in
theorem A_X11_feed_e {Z : az_Z} {d : Nat} (C : az_C Z yX11_feed cX11_feed 6 (some .int) d) (hD : 2 ≤ d) (n : Nat) {σ : az_Hp} {v0 v1 v2 v3 v4 v5 : Int} {r : (Int × az_Hp)} (h : fz_X11_feed n σ v0 v1 v2 v3 v4 v5 = some r) : az_AW Z 6 0 [(13, v0), (0, v1), (0, v2), (0, v3), (0, v4), (0, v5)] [] σ (some (0, r.1), r.2) := by
  have hd1 : 1 ≤ d := by omega
  unfold fz_X11_feed at h
  refine az_al0 (pc := 0) C rfl rfl dX11_feed_0 ?_
  refine az_getI (pc := 1) C fl_X11_216 rfl dX11_feed_1 ?_
  refine az_bk20 (pc := 4) C dX11_feed_4 ?_
  refine az_iadd (pc := 6) C dX11_feed_6 ?_
  refine az_sk900 (pc := 7) C dX11_feed_7 ?_
  refine az_icmp_le (pc := 10) (tgt := 15) C h dX11_feed_10 (by decide) (fun _ h => ?_) (fun _ h => ?_)
  · refine az_al0 (pc := 15) C rfl rfl dX11_feed_15 ?_
    refine az_il1 (pc := 16) C dX11_feed_16 ?_
    refine az_cV1v (pc := 17) (c := 11) C hd1 h mv_X11_come ml_X11_219 rfl (fun x hx => A_X11_come (by omega) n hx) dX11_feed_17 (fun r1 h => ?_)
    refine az_al0 (pc := 20) C rfl rfl dX11_feed_20 ?_
    refine az_il2 (pc := 21) C dX11_feed_21 ?_
    refine az_cV1v (pc := 22) (c := 11) C hd1 h mv_X11_come ml_X11_219 rfl (fun x hx => A_X11_come (by omega) n hx) dX11_feed_22 (fun r2 h => ?_)
    refine az_al0 (pc := 25) C rfl rfl dX11_feed_25 ?_
    refine az_il3 (pc := 26) C dX11_feed_26 ?_
    refine az_cV1v (pc := 27) (c := 11) C hd1 h mv_X11_come ml_X11_219 rfl (fun x hx => A_X11_come (by omega) n hx) dX11_feed_27 (fun r3 h => ?_)
    refine az_al0 (pc := 30) C rfl rfl dX11_feed_30 ?_
    refine az_il4 (pc := 31) C dX11_feed_31 ?_
    refine az_cV1v (pc := 33) (c := 11) C hd1 h mv_X11_come ml_X11_219 rfl (fun x hx => A_X11_come (by omega) n hx) dX11_feed_33 (fun r4 h => ?_)
    refine az_al0 (pc := 36) C rfl rfl dX11_feed_36 ?_
    refine az_il5 (pc := 37) C dX11_feed_37 ?_
    refine az_cV1v (pc := 39) (c := 11) C hd1 h mv_X11_come ml_X11_219 rfl (fun x hx => A_X11_come (by omega) n hx) dX11_feed_39 (fun r5 h => ?_)
    refine az_al0 (pc := 42) C rfl rfl dX11_feed_42 ?_
    refine az_getI (pc := 43) C fl_X11_216 rfl dX11_feed_43 ?_
    obtain rfl := Option.some.inj h
    exact az_ireturn (pc := 46) C dX11_feed_46 rfl
  refine az_ikm1 (pc := 13) C dX11_feed_13 ?_
  obtain rfl := Option.some.inj h
  exact az_ireturn (pc := 14) C dX11_feed_14 rfl
set_option maxRecDepth 10000 in
set_option maxHeartbeats 4000000 in
theorem A_X11_feed {l : Launch} {d : Nat} (hD : 2 ≤ d) (n : Nat) {σ : az_Hp} {v0 v1 v2 v3 v4 v5 : Int} {r : (Int × az_Hp)} (h : fz_X11_feed n σ v0 v1 v2 v3 v4 v5 = some r) : az_AC l yX11_feed cX11_feed 6 (some .int) d [(13, v0), (0, v1), (0, v2), (0, v3), (0, v4), (0, v5)] σ (some (0, r.1), r.2) := az_AC.of mt_X11_feed rfl rfl rfl (fun Z hZ C => A_X11_feed_e C hD n h)
theorem dX11_init_0 : decode cX11_init 0 = .ok (.aload_n 0, 1) := by decide +kernel
theorem dX11_init_1 : decode cX11_init 1 = .ok (.invokespecial 1, 3) := by decide +kernel
theorem dX11_init_4 : decode cX11_init 4 = .ok (.aload_n 0, 1) := by decide +kernel
theorem dX11_init_5 : decode cX11_init 5 = .ok (.sipush 900, 3) := by decide +kernel
theorem dX11_init_8 : decode cX11_init 8 = .ok (.newarray .int, 2) := by decide +kernel
theorem dX11_init_10 : decode cX11_init 10 = .ok (.putfield 7, 3) := by decide +kernel
theorem dX11_init_13 : decode cX11_init 13 = .ok (.aload_n 0, 1) := by decide +kernel
theorem dX11_init_14 : decode cX11_init 14 = .ok (.iconst (-1), 1) := by decide +kernel
theorem dX11_init_15 : decode cX11_init 15 = .ok (.putfield 13, 3) := by decide +kernel
theorem dX11_init_18 : decode cX11_init 18 = .ok (.aload_n 0, 1) := by decide +kernel
theorem dX11_init_19 : decode cX11_init 19 = .ok (.iconst (-1), 1) := by decide +kernel
theorem dX11_init_20 : decode cX11_init 20 = .ok (.putfield 17, 3) := by decide +kernel
theorem dX11_init_23 : decode cX11_init 23 = .ok (.aload_n 0, 1) := by decide +kernel
theorem dX11_init_24 : decode cX11_init 24 = .ok (.iconst 2, 1) := by decide +kernel
theorem dX11_init_25 : decode cX11_init 25 = .ok (.newarray .int, 2) := by decide +kernel
theorem dX11_init_27 : decode cX11_init 27 = .ok (.putfield 20, 3) := by decide +kernel
theorem dX11_init_30 : decode cX11_init 30 = .ok (.aload_n 0, 1) := by decide +kernel
theorem dX11_init_31 : decode cX11_init 31 = .ok (.iconst 2, 1) := by decide +kernel
theorem dX11_init_32 : decode cX11_init 32 = .ok (.newarray .int, 2) := by decide +kernel
theorem dX11_init_34 : decode cX11_init 34 = .ok (.putfield 23, 3) := by decide +kernel
theorem dX11_init_37 : decode cX11_init 37 = .ok (.aload_n 0, 1) := by decide +kernel
theorem dX11_init_38 : decode cX11_init 38 = .ok (.iconst 2, 1) := by decide +kernel
theorem dX11_init_39 : decode cX11_init 39 = .ok (.newarray .int, 2) := by decide +kernel
theorem dX11_init_41 : decode cX11_init 41 = .ok (.putfield 26, 3) := by decide +kernel
theorem dX11_init_44 : decode cX11_init 44 = .ok (.aload_n 0, 1) := by decide +kernel
theorem dX11_init_45 : decode cX11_init 45 = .ok (.bipush 16, 2) := by decide +kernel
theorem dX11_init_47 : decode cX11_init 47 = .ok (.newarray .long, 2) := by decide +kernel
theorem dX11_init_49 : decode cX11_init 49 = .ok (.putfield 29, 3) := by decide +kernel
theorem dX11_init_52 : decode cX11_init 52 = .ok (.aload_n 0, 1) := by decide +kernel
theorem dX11_init_53 : decode cX11_init 53 = .ok (.bipush 10, 2) := by decide +kernel
theorem dX11_init_55 : decode cX11_init 55 = .ok (.newarray .long, 2) := by decide +kernel
theorem dX11_init_57 : decode cX11_init 57 = .ok (.putfield 33, 3) := by decide +kernel
theorem dX11_init_60 : decode cX11_init 60 = .ok (.aload_n 0, 1) := by decide +kernel
theorem dX11_init_61 : decode cX11_init 61 = .ok (.bipush 16, 2) := by decide +kernel
theorem dX11_init_63 : decode cX11_init 63 = .ok (.newarray .int, 2) := by decide +kernel
theorem dX11_init_65 : decode cX11_init 65 = .ok (.putfield 36, 3) := by decide +kernel
theorem dX11_init_68 : decode cX11_init 68 = .ok (.aload_n 0, 1) := by decide +kernel
theorem dX11_init_69 : decode cX11_init 69 = .ok (.bipush 10, 2) := by decide +kernel
theorem dX11_init_71 : decode cX11_init 71 = .ok (.newarray .int, 2) := by decide +kernel
theorem dX11_init_73 : decode cX11_init 73 = .ok (.putfield 39, 3) := by decide +kernel
theorem dX11_init_76 : decode cX11_init 76 = .ok (.aload_n 0, 1) := by decide +kernel
theorem dX11_init_77 : decode cX11_init 77 = .ok (.bipush 10, 2) := by decide +kernel
theorem dX11_init_79 : decode cX11_init 79 = .ok (.newarray .boolean, 2) := by decide +kernel
theorem dX11_init_81 : decode cX11_init 81 = .ok (.putfield 42, 3) := by decide +kernel
theorem dX11_init_84 : decode cX11_init 84 = .ok (.aload_n 0, 1) := by decide +kernel
theorem dX11_init_85 : decode cX11_init 85 = .ok (.bipush 10, 2) := by decide +kernel
theorem dX11_init_87 : decode cX11_init 87 = .ok (.newarray .boolean, 2) := by decide +kernel
theorem dX11_init_89 : decode cX11_init 89 = .ok (.putfield 46, 3) := by decide +kernel
theorem dX11_init_92 : decode cX11_init 92 = .ok (.aload_n 0, 1) := by decide +kernel
theorem dX11_init_93 : decode cX11_init 93 = .ok (.sipush 512, 3) := by decide +kernel
theorem dX11_init_96 : decode cX11_init 96 = .ok (.newarray .int, 2) := by decide +kernel
theorem dX11_init_98 : decode cX11_init 98 = .ok (.putfield 49, 3) := by decide +kernel
theorem dX11_init_101 : decode cX11_init 101 = .ok (.aload_n 0, 1) := by decide +kernel
theorem dX11_init_102 : decode cX11_init 102 = .ok (.sipush 512, 3) := by decide +kernel
theorem dX11_init_105 : decode cX11_init 105 = .ok (.newarray .int, 2) := by decide +kernel
theorem dX11_init_107 : decode cX11_init 107 = .ok (.putfield 52, 3) := by decide +kernel
theorem dX11_init_110 : decode cX11_init 110 = .ok (.aload_n 0, 1) := by decide +kernel
theorem dX11_init_111 : decode cX11_init 111 = .ok (.bipush 32, 2) := by decide +kernel
theorem dX11_init_113 : decode cX11_init 113 = .ok (.newarray .int, 2) := by decide +kernel
theorem dX11_init_115 : decode cX11_init 115 = .ok (.putfield 55, 3) := by decide +kernel
theorem dX11_init_118 : decode cX11_init 118 = .ok (.aload_n 0, 1) := by decide +kernel
theorem dX11_init_119 : decode cX11_init 119 = .ok (.bipush 32, 2) := by decide +kernel
theorem dX11_init_121 : decode cX11_init 121 = .ok (.newarray .int, 2) := by decide +kernel
theorem dX11_init_123 : decode cX11_init 123 = .ok (.putfield 58, 3) := by decide +kernel
theorem dX11_init_126 : decode cX11_init 126 = .ok (.aload_n 0, 1) := by decide +kernel
theorem dX11_init_127 : decode cX11_init 127 = .ok (.bipush 32, 2) := by decide +kernel
theorem dX11_init_129 : decode cX11_init 129 = .ok (.newarray .int, 2) := by decide +kernel
theorem dX11_init_131 : decode cX11_init 131 = .ok (.putfield 61, 3) := by decide +kernel
theorem dX11_init_134 : decode cX11_init 134 = .ok (.aload_n 0, 1) := by decide +kernel
theorem dX11_init_135 : decode cX11_init 135 = .ok (.bipush 64, 2) := by decide +kernel
theorem dX11_init_137 : decode cX11_init 137 = .ok (.newarray .int, 2) := by decide +kernel
theorem dX11_init_139 : decode cX11_init 139 = .ok (.putfield 64, 3) := by decide +kernel
theorem dX11_init_142 : decode cX11_init 142 = .ok (.aload_n 0, 1) := by decide +kernel
theorem dX11_init_143 : decode cX11_init 143 = .ok (.sipush 450, 3) := by decide +kernel
theorem dX11_init_146 : decode cX11_init 146 = .ok (.newarray .long, 2) := by decide +kernel
theorem dX11_init_148 : decode cX11_init 148 = .ok (.putfield 67, 3) := by decide +kernel
theorem dX11_init_151 : decode cX11_init 151 = .ok (.aload_n 0, 1) := by decide +kernel
theorem dX11_init_152 : decode cX11_init 152 = .ok (.bipush 6, 2) := by decide +kernel
theorem dX11_init_154 : decode cX11_init 154 = .ok (.newarray .long, 2) := by decide +kernel
theorem dX11_init_156 : decode cX11_init 156 = .ok (.putfield 70, 3) := by decide +kernel
theorem dX11_init_159 : decode cX11_init 159 = .ok (.aload_n 0, 1) := by decide +kernel
theorem dX11_init_160 : decode cX11_init 160 = .ok (.sipush 400, 3) := by decide +kernel
theorem dX11_init_163 : decode cX11_init 163 = .ok (.newarray .int, 2) := by decide +kernel
theorem dX11_init_165 : decode cX11_init 165 = .ok (.putfield 73, 3) := by decide +kernel
theorem dX11_init_168 : decode cX11_init 168 = .ok (.aload_n 0, 1) := by decide +kernel
theorem dX11_init_169 : decode cX11_init 169 = .ok (.sipush 1200, 3) := by decide +kernel
theorem dX11_init_172 : decode cX11_init 172 = .ok (.newarray .int, 2) := by decide +kernel
theorem dX11_init_174 : decode cX11_init 174 = .ok (.putfield 76, 3) := by decide +kernel
theorem dX11_init_177 : decode cX11_init 177 = .ok (.aload_n 0, 1) := by decide +kernel
theorem dX11_init_178 : decode cX11_init 178 = .ok (.sipush 400, 3) := by decide +kernel
theorem dX11_init_181 : decode cX11_init 181 = .ok (.newarray .int, 2) := by decide +kernel
theorem dX11_init_183 : decode cX11_init 183 = .ok (.putfield 79, 3) := by decide +kernel
theorem dX11_init_186 : decode cX11_init 186 = .ok (.aload_n 0, 1) := by decide +kernel
theorem dX11_init_187 : decode cX11_init 187 = .ok (.sipush 400, 3) := by decide +kernel
theorem dX11_init_190 : decode cX11_init 190 = .ok (.newarray .int, 2) := by decide +kernel
theorem dX11_init_192 : decode cX11_init 192 = .ok (.putfield 82, 3) := by decide +kernel
theorem dX11_init_195 : decode cX11_init 195 = .ok (.aload_n 0, 1) := by decide +kernel
theorem dX11_init_196 : decode cX11_init 196 = .ok (.sipush 200, 3) := by decide +kernel
theorem dX11_init_199 : decode cX11_init 199 = .ok (.newarray .int, 2) := by decide +kernel
theorem dX11_init_201 : decode cX11_init 201 = .ok (.putfield 85, 3) := by decide +kernel
theorem dX11_init_204 : decode cX11_init 204 = .ok (.aload_n 0, 1) := by decide +kernel
theorem dX11_init_205 : decode cX11_init 205 = .ok (.sipush 200, 3) := by decide +kernel
theorem dX11_init_208 : decode cX11_init 208 = .ok (.newarray .int, 2) := by decide +kernel
theorem dX11_init_210 : decode cX11_init 210 = .ok (.putfield 88, 3) := by decide +kernel
theorem dX11_init_213 : decode cX11_init 213 = .ok (.aload_n 0, 1) := by decide +kernel
theorem dX11_init_214 : decode cX11_init 214 = .ok (.sipush 200, 3) := by decide +kernel
theorem dX11_init_217 : decode cX11_init 217 = .ok (.newarray .int, 2) := by decide +kernel
theorem dX11_init_219 : decode cX11_init 219 = .ok (.putfield 91, 3) := by decide +kernel
theorem dX11_init_222 : decode cX11_init 222 = .ok (.aload_n 0, 1) := by decide +kernel
theorem dX11_init_223 : decode cX11_init 223 = .ok (.bipush 64, 2) := by decide +kernel
theorem dX11_init_225 : decode cX11_init 225 = .ok (.newarray .int, 2) := by decide +kernel
theorem dX11_init_227 : decode cX11_init 227 = .ok (.putfield 94, 3) := by decide +kernel
theorem dX11_init_230 : decode cX11_init 230 = .ok (.aload_n 0, 1) := by decide +kernel
theorem dX11_init_231 : decode cX11_init 231 = .ok (.bipush 64, 2) := by decide +kernel
theorem dX11_init_233 : decode cX11_init 233 = .ok (.newarray .int, 2) := by decide +kernel
theorem dX11_init_235 : decode cX11_init 235 = .ok (.putfield 97, 3) := by decide +kernel
theorem dX11_init_238 : decode cX11_init 238 = .ok (.aload_n 0, 1) := by decide +kernel
theorem dX11_init_239 : decode cX11_init 239 = .ok (.bipush 64, 2) := by decide +kernel
theorem dX11_init_241 : decode cX11_init 241 = .ok (.newarray .int, 2) := by decide +kernel
theorem dX11_init_243 : decode cX11_init 243 = .ok (.putfield 100, 3) := by decide +kernel
theorem dX11_init_246 : decode cX11_init 246 = .ok (.aload_n 0, 1) := by decide +kernel
theorem dX11_init_247 : decode cX11_init 247 = .ok (.iconst 4, 1) := by decide +kernel
theorem dX11_init_248 : decode cX11_init 248 = .ok (.newarray .int, 2) := by decide +kernel
theorem dX11_init_250 : decode cX11_init 250 = .ok (.putfield 103, 3) := by decide +kernel
theorem dX11_init_253 : decode cX11_init 253 = .ok (.aload_n 0, 1) := by decide +kernel
theorem dX11_init_254 : decode cX11_init 254 = .ok (.sipush 256, 3) := by decide +kernel
theorem dX11_init_257 : decode cX11_init 257 = .ok (.newarray .int, 2) := by decide +kernel
theorem dX11_init_259 : decode cX11_init 259 = .ok (.putfield 106, 3) := by decide +kernel
theorem dX11_init_262 : decode cX11_init 262 = .ok (.aload_n 0, 1) := by decide +kernel
theorem dX11_init_263 : decode cX11_init 263 = .ok (.sipush 256, 3) := by decide +kernel
theorem dX11_init_266 : decode cX11_init 266 = .ok (.newarray .boolean, 2) := by decide +kernel
theorem dX11_init_268 : decode cX11_init 268 = .ok (.putfield 109, 3) := by decide +kernel
theorem dX11_init_271 : decode cX11_init 271 = .ok (.aload_n 0, 1) := by decide +kernel
theorem dX11_init_272 : decode cX11_init 272 = .ok (.ldc 112, 2) := by decide +kernel
theorem dX11_init_274 : decode cX11_init 274 = .ok (.newarray .byte, 2) := by decide +kernel
theorem dX11_init_276 : decode cX11_init 276 = .ok (.putfield 113, 3) := by decide +kernel
theorem dX11_init_279 : decode cX11_init 279 = .ok (.aload_n 0, 1) := by decide +kernel
theorem dX11_init_280 : decode cX11_init 280 = .ok (.sipush 200, 3) := by decide +kernel
theorem dX11_init_283 : decode cX11_init 283 = .ok (.newarray .int, 2) := by decide +kernel
theorem dX11_init_285 : decode cX11_init 285 = .ok (.putfield 117, 3) := by decide +kernel
theorem dX11_init_288 : decode cX11_init 288 = .ok (.aload_n 0, 1) := by decide +kernel
theorem dX11_init_289 : decode cX11_init 289 = .ok (.bipush 6, 2) := by decide +kernel
theorem dX11_init_291 : decode cX11_init 291 = .ok (.newarray .int, 2) := by decide +kernel
theorem dX11_init_293 : decode cX11_init 293 = .ok (.putfield 120, 3) := by decide +kernel
theorem dX11_init_296 : decode cX11_init 296 = .ok (.aload_n 0, 1) := by decide +kernel
theorem dX11_init_297 : decode cX11_init 297 = .ok (.bipush 6, 2) := by decide +kernel
theorem dX11_init_299 : decode cX11_init 299 = .ok (.newarray .int, 2) := by decide +kernel
theorem dX11_init_301 : decode cX11_init 301 = .ok (.putfield 123, 3) := by decide +kernel
theorem dX11_init_304 : decode cX11_init 304 = .ok (.aload_n 0, 1) := by decide +kernel
theorem dX11_init_305 : decode cX11_init 305 = .ok (.bipush 64, 2) := by decide +kernel
theorem dX11_init_307 : decode cX11_init 307 = .ok (.newarray .int, 2) := by decide +kernel
theorem dX11_init_309 : decode cX11_init 309 = .ok (.putfield 126, 3) := by decide +kernel
theorem dX11_init_312 : decode cX11_init 312 = .ok (.aload_n 0, 1) := by decide +kernel
theorem dX11_init_313 : decode cX11_init 313 = .ok (.bipush 64, 2) := by decide +kernel
theorem dX11_init_315 : decode cX11_init 315 = .ok (.newarray .int, 2) := by decide +kernel
theorem dX11_init_317 : decode cX11_init 317 = .ok (.putfield 129, 3) := by decide +kernel
theorem dX11_init_320 : decode cX11_init 320 = .ok (.aload_n 0, 1) := by decide +kernel
theorem dX11_init_321 : decode cX11_init 321 = .ok (.sipush 3660, 3) := by decide +kernel
theorem dX11_init_324 : decode cX11_init 324 = .ok (.newarray .int, 2) := by decide +kernel
theorem dX11_init_326 : decode cX11_init 326 = .ok (.putfield 132, 3) := by decide +kernel
theorem dX11_init_329 : decode cX11_init 329 = .ok (.aload_n 0, 1) := by decide +kernel
theorem dX11_init_330 : decode cX11_init 330 = .ok (.bipush 61, 2) := by decide +kernel
theorem dX11_init_332 : decode cX11_init 332 = .ok (.newarray .int, 2) := by decide +kernel
theorem dX11_init_334 : decode cX11_init 334 = .ok (.putfield 135, 3) := by decide +kernel
theorem dX11_init_337 : decode cX11_init 337 = .ok (.aload_n 0, 1) := by decide +kernel
theorem dX11_init_338 : decode cX11_init 338 = .ok (.bipush 64, 2) := by decide +kernel
theorem dX11_init_340 : decode cX11_init 340 = .ok (.newarray .int, 2) := by decide +kernel
theorem dX11_init_342 : decode cX11_init 342 = .ok (.putfield 138, 3) := by decide +kernel
theorem dX11_init_345 : decode cX11_init 345 = .ok (.aload_n 0, 1) := by decide +kernel
theorem dX11_init_346 : decode cX11_init 346 = .ok (.bipush 12, 2) := by decide +kernel
theorem dX11_init_348 : decode cX11_init 348 = .ok (.newarray .long, 2) := by decide +kernel
theorem dX11_init_350 : decode cX11_init 350 = .ok (.putfield 141, 3) := by decide +kernel
theorem dX11_init_353 : decode cX11_init 353 = .ok (.aload_n 0, 1) := by decide +kernel
theorem dX11_init_354 : decode cX11_init 354 = .ok (.iconst (-1), 1) := by decide +kernel
theorem dX11_init_355 : decode cX11_init 355 = .ok (.putfield 144, 3) := by decide +kernel
theorem dX11_init_358 : decode cX11_init 358 = .ok (.aload_n 0, 1) := by decide +kernel
theorem dX11_init_359 : decode cX11_init 359 = .ok (.bipush 64, 2) := by decide +kernel
theorem dX11_init_361 : decode cX11_init 361 = .ok (.newarray .int, 2) := by decide +kernel
theorem dX11_init_363 : decode cX11_init 363 = .ok (.putfield 147, 3) := by decide +kernel
theorem dX11_init_366 : decode cX11_init 366 = .ok (.aload_n 0, 1) := by decide +kernel
theorem dX11_init_367 : decode cX11_init 367 = .ok (.bipush 64, 2) := by decide +kernel
theorem dX11_init_369 : decode cX11_init 369 = .ok (.newarray .int, 2) := by decide +kernel
theorem dX11_init_371 : decode cX11_init 371 = .ok (.putfield 150, 3) := by decide +kernel
theorem dX11_init_374 : decode cX11_init 374 = .ok (.aload_n 0, 1) := by decide +kernel
theorem dX11_init_375 : decode cX11_init 375 = .ok (.sipush 180, 3) := by decide +kernel
theorem dX11_init_378 : decode cX11_init 378 = .ok (.newarray .int, 2) := by decide +kernel
theorem dX11_init_380 : decode cX11_init 380 = .ok (.putfield 153, 3) := by decide +kernel
theorem dX11_init_383 : decode cX11_init 383 = .ok (.aload_n 0, 1) := by decide +kernel
theorem dX11_init_384 : decode cX11_init 384 = .ok (.sipush 180, 3) := by decide +kernel
theorem dX11_init_387 : decode cX11_init 387 = .ok (.newarray .int, 2) := by decide +kernel
theorem dX11_init_389 : decode cX11_init 389 = .ok (.putfield 156, 3) := by decide +kernel
theorem dX11_init_392 : decode cX11_init 392 = .ok (.aload_n 0, 1) := by decide +kernel
theorem dX11_init_393 : decode cX11_init 393 = .ok (.bipush 6, 2) := by decide +kernel
theorem dX11_init_395 : decode cX11_init 395 = .ok (.newarray .int, 2) := by decide +kernel
theorem dX11_init_397 : decode cX11_init 397 = .ok (.putfield 159, 3) := by decide +kernel
theorem dX11_init_400 : decode cX11_init 400 = .ok (.aload_n 0, 1) := by decide +kernel
theorem dX11_init_401 : decode cX11_init 401 = .ok (.bipush 6, 2) := by decide +kernel
theorem dX11_init_403 : decode cX11_init 403 = .ok (.newarray .int, 2) := by decide +kernel
theorem dX11_init_405 : decode cX11_init 405 = .ok (.putfield 162, 3) := by decide +kernel
theorem dX11_init_408 : decode cX11_init 408 = .ok (.aload_n 0, 1) := by decide +kernel
theorem dX11_init_409 : decode cX11_init 409 = .ok (.sipush 180, 3) := by decide +kernel
theorem dX11_init_412 : decode cX11_init 412 = .ok (.newarray .int, 2) := by decide +kernel
theorem dX11_init_414 : decode cX11_init 414 = .ok (.putfield 165, 3) := by decide +kernel
theorem dX11_init_417 : decode cX11_init 417 = .ok (.aload_n 0, 1) := by decide +kernel
theorem dX11_init_418 : decode cX11_init 418 = .ok (.sipush 180, 3) := by decide +kernel
theorem dX11_init_421 : decode cX11_init 421 = .ok (.newarray .int, 2) := by decide +kernel
theorem dX11_init_423 : decode cX11_init 423 = .ok (.putfield 168, 3) := by decide +kernel
theorem dX11_init_426 : decode cX11_init 426 = .ok (.aload_n 0, 1) := by decide +kernel
theorem dX11_init_427 : decode cX11_init 427 = .ok (.bipush 6, 2) := by decide +kernel
theorem dX11_init_429 : decode cX11_init 429 = .ok (.newarray .int, 2) := by decide +kernel
theorem dX11_init_431 : decode cX11_init 431 = .ok (.putfield 171, 3) := by decide +kernel
theorem dX11_init_434 : decode cX11_init 434 = .ok (.aload_n 0, 1) := by decide +kernel
theorem dX11_init_435 : decode cX11_init 435 = .ok (.bipush 6, 2) := by decide +kernel
theorem dX11_init_437 : decode cX11_init 437 = .ok (.newarray .int, 2) := by decide +kernel
theorem dX11_init_439 : decode cX11_init 439 = .ok (.putfield 174, 3) := by decide +kernel
theorem dX11_init_442 : decode cX11_init 442 = .ok (.aload_n 0, 1) := by decide +kernel
theorem dX11_init_443 : decode cX11_init 443 = .ok (.sipush 480, 3) := by decide +kernel
theorem dX11_init_446 : decode cX11_init 446 = .ok (.newarray .int, 2) := by decide +kernel
theorem dX11_init_448 : decode cX11_init 448 = .ok (.putfield 177, 3) := by decide +kernel
theorem dX11_init_451 : decode cX11_init 451 = .ok (.aload_n 0, 1) := by decide +kernel
theorem dX11_init_452 : decode cX11_init 452 = .ok (.bipush 16, 2) := by decide +kernel
theorem dX11_init_454 : decode cX11_init 454 = .ok (.newarray .int, 2) := by decide +kernel
theorem dX11_init_456 : decode cX11_init 456 = .ok (.putfield 180, 3) := by decide +kernel
theorem dX11_init_459 : decode cX11_init 459 = .ok (.aload_n 0, 1) := by decide +kernel
theorem dX11_init_460 : decode cX11_init 460 = .ok (.sipush 450, 3) := by decide +kernel
theorem dX11_init_463 : decode cX11_init 463 = .ok (.newarray .long, 2) := by decide +kernel
theorem dX11_init_465 : decode cX11_init 465 = .ok (.putfield 183, 3) := by decide +kernel
theorem dX11_init_468 : decode cX11_init 468 = .ok (.aload_n 0, 1) := by decide +kernel
theorem dX11_init_469 : decode cX11_init 469 = .ok (.bipush 6, 2) := by decide +kernel
theorem dX11_init_471 : decode cX11_init 471 = .ok (.newarray .long, 2) := by decide +kernel
theorem dX11_init_473 : decode cX11_init 473 = .ok (.putfield 186, 3) := by decide +kernel
theorem dX11_init_476 : decode cX11_init 476 = .ok (.aload_n 0, 1) := by decide +kernel
theorem dX11_init_477 : decode cX11_init 477 = .ok (.sipush 24480, 3) := by decide +kernel
theorem dX11_init_480 : decode cX11_init 480 = .ok (.newarray .int, 2) := by decide +kernel
theorem dX11_init_482 : decode cX11_init 482 = .ok (.putfield 189, 3) := by decide +kernel
theorem dX11_init_485 : decode cX11_init 485 = .ok (.aload_n 0, 1) := by decide +kernel
theorem dX11_init_486 : decode cX11_init 486 = .ok (.sipush 408, 3) := by decide +kernel
theorem dX11_init_489 : decode cX11_init 489 = .ok (.newarray .int, 2) := by decide +kernel
theorem dX11_init_491 : decode cX11_init 491 = .ok (.putfield 192, 3) := by decide +kernel
theorem dX11_init_494 : decode cX11_init 494 = .ok (.aload_n 0, 1) := by decide +kernel
theorem dX11_init_495 : decode cX11_init 495 = .ok (.sipush 204, 3) := by decide +kernel
theorem dX11_init_498 : decode cX11_init 498 = .ok (.newarray .int, 2) := by decide +kernel
theorem dX11_init_500 : decode cX11_init 500 = .ok (.putfield 195, 3) := by decide +kernel
theorem dX11_init_503 : decode cX11_init 503 = .ok (.aload_n 0, 1) := by decide +kernel
theorem dX11_init_504 : decode cX11_init 504 = .ok (.sipush 360, 3) := by decide +kernel
theorem dX11_init_507 : decode cX11_init 507 = .ok (.newarray .int, 2) := by decide +kernel
theorem dX11_init_509 : decode cX11_init 509 = .ok (.putfield 198, 3) := by decide +kernel
theorem dX11_init_512 : decode cX11_init 512 = .ok (.aload_n 0, 1) := by decide +kernel
theorem dX11_init_513 : decode cX11_init 513 = .ok (.bipush 6, 2) := by decide +kernel
theorem dX11_init_515 : decode cX11_init 515 = .ok (.newarray .int, 2) := by decide +kernel
theorem dX11_init_517 : decode cX11_init 517 = .ok (.putfield 201, 3) := by decide +kernel
theorem dX11_init_520 : decode cX11_init 520 = .ok (.aload_n 0, 1) := by decide +kernel
theorem dX11_init_521 : decode cX11_init 521 = .ok (.sipush 204, 3) := by decide +kernel
theorem dX11_init_524 : decode cX11_init 524 = .ok (.newarray .boolean, 2) := by decide +kernel
theorem dX11_init_526 : decode cX11_init 526 = .ok (.putfield 204, 3) := by decide +kernel
theorem dX11_init_529 : decode cX11_init 529 = .ok (.aload_n 0, 1) := by decide +kernel
theorem dX11_init_530 : decode cX11_init 530 = .ok (.bipush 64, 2) := by decide +kernel
theorem dX11_init_532 : decode cX11_init 532 = .ok (.newarray .int, 2) := by decide +kernel
theorem dX11_init_534 : decode cX11_init 534 = .ok (.putfield 207, 3) := by decide +kernel
theorem dX11_init_537 : decode cX11_init 537 = .ok (.aload_n 0, 1) := by decide +kernel
theorem dX11_init_538 : decode cX11_init 538 = .ok (.bipush 64, 2) := by decide +kernel
theorem dX11_init_540 : decode cX11_init 540 = .ok (.newarray .int, 2) := by decide +kernel
theorem dX11_init_542 : decode cX11_init 542 = .ok (.putfield 210, 3) := by decide +kernel
theorem dX11_init_545 : decode cX11_init 545 = .ok (.return_, 1) := by decide +kernel
set_option maxRecDepth 10000 in
set_option maxHeartbeats 4000000 in
theorem A_X11_init_529 {Z : az_Z} {d : Nat} (C : az_C Z yX11_init cX11_init 1 none d) (hD : 2 ≤ d) {σ : az_Hp} {v0 : Int} {r : az_Hp} (h : fz_X11_init_529 σ v0 = some r) : az_AW Z 1 529 [(13, v0)] [] σ (none, r) := by
  have hd1 : 1 ≤ d := by omega
  unfold fz_X11_init_529 at h
  refine az_al0 (pc := 529) C rfl rfl dX11_init_529 ?_
  refine az_bk64 (pc := 530) C dX11_init_530 ?_
  refine az_newa (pc := 532) (at_ := .int) (ty := .int) C h rfl (by decide) az_ac_int dX11_init_532 (fun h => ?_)
  refine az_putR (pc := 534) (c2 := 13) C fl_X11_207 (Or.inr ⟨rfl, _, _, rfl⟩) rfl rfl rfl dX11_init_534 ?_
  refine az_al0 (pc := 537) C rfl rfl dX11_init_537 ?_
  refine az_bk64 (pc := 538) C dX11_init_538 ?_
  refine az_newa (pc := 540) (at_ := .int) (ty := .int) C h rfl (by decide) az_ac_int dX11_init_540 (fun h => ?_)
  refine az_putR (pc := 542) (c2 := 13) C fl_X11_210 (Or.inr ⟨rfl, _, _, rfl⟩) rfl rfl rfl dX11_init_542 ?_
  obtain rfl := Option.some.inj h
  exact az_return (pc := 545) C dX11_init_545 rfl
set_option maxRecDepth 10000 in
set_option maxHeartbeats 4000000 in
theorem A_X11_init_494 {Z : az_Z} {d : Nat} (C : az_C Z yX11_init cX11_init 1 none d) (hD : 2 ≤ d) {σ : az_Hp} {v0 : Int} {r : az_Hp} (h : fz_X11_init_494 σ v0 = some r) : az_AW Z 1 494 [(13, v0)] [] σ (none, r) := by
  have hd1 : 1 ≤ d := by omega
  unfold fz_X11_init_494 at h
  refine az_al0 (pc := 494) C rfl rfl dX11_init_494 ?_
  refine az_sk204 (pc := 495) C dX11_init_495 ?_
  refine az_newa (pc := 498) (at_ := .int) (ty := .int) C h rfl (by decide) az_ac_int dX11_init_498 (fun h => ?_)
  refine az_putR (pc := 500) (c2 := 13) C fl_X11_195 (Or.inr ⟨rfl, _, _, rfl⟩) rfl rfl rfl dX11_init_500 ?_
  refine az_al0 (pc := 503) C rfl rfl dX11_init_503 ?_
  refine az_sk360 (pc := 504) C dX11_init_504 ?_
  refine az_newa (pc := 507) (at_ := .int) (ty := .int) C h rfl (by decide) az_ac_int dX11_init_507 (fun h => ?_)
  refine az_putR (pc := 509) (c2 := 13) C fl_X11_198 (Or.inr ⟨rfl, _, _, rfl⟩) rfl rfl rfl dX11_init_509 ?_
  refine az_al0 (pc := 512) C rfl rfl dX11_init_512 ?_
  refine az_bk6 (pc := 513) C dX11_init_513 ?_
  refine az_newa (pc := 515) (at_ := .int) (ty := .int) C h rfl (by decide) az_ac_int dX11_init_515 (fun h => ?_)
  refine az_putR (pc := 517) (c2 := 13) C fl_X11_201 (Or.inr ⟨rfl, _, _, rfl⟩) rfl rfl rfl dX11_init_517 ?_
  refine az_al0 (pc := 520) C rfl rfl dX11_init_520 ?_
  refine az_sk204 (pc := 521) C dX11_init_521 ?_
  refine az_newa (pc := 524) (at_ := .boolean) (ty := .boolean) C h rfl (by decide) az_ac_boolean dX11_init_524 (fun h => ?_)
  refine az_putR (pc := 526) (c2 := 15) C fl_X11_204 (Or.inr ⟨rfl, _, _, rfl⟩) rfl rfl rfl dX11_init_526 ?_
  exact (A_X11_init_529 C hD h)
set_option maxRecDepth 10000 in
set_option maxHeartbeats 4000000 in
theorem A_X11_init_459 {Z : az_Z} {d : Nat} (C : az_C Z yX11_init cX11_init 1 none d) (hD : 2 ≤ d) {σ : az_Hp} {v0 : Int} {r : az_Hp} (h : fz_X11_init_459 σ v0 = some r) : az_AW Z 1 459 [(13, v0)] [] σ (none, r) := by
  have hd1 : 1 ≤ d := by omega
  unfold fz_X11_init_459 at h
  refine az_al0 (pc := 459) C rfl rfl dX11_init_459 ?_
  refine az_sk450 (pc := 460) C dX11_init_460 ?_
  refine az_newa (pc := 463) (at_ := .long) (ty := .long) C h rfl (by decide) az_ac_long dX11_init_463 (fun h => ?_)
  refine az_putR (pc := 465) (c2 := 14) C fl_X11_183 (Or.inr ⟨rfl, _, _, rfl⟩) rfl rfl rfl dX11_init_465 ?_
  refine az_al0 (pc := 468) C rfl rfl dX11_init_468 ?_
  refine az_bk6 (pc := 469) C dX11_init_469 ?_
  refine az_newa (pc := 471) (at_ := .long) (ty := .long) C h rfl (by decide) az_ac_long dX11_init_471 (fun h => ?_)
  refine az_putR (pc := 473) (c2 := 14) C fl_X11_186 (Or.inr ⟨rfl, _, _, rfl⟩) rfl rfl rfl dX11_init_473 ?_
  refine az_al0 (pc := 476) C rfl rfl dX11_init_476 ?_
  refine az_sk24480 (pc := 477) C dX11_init_477 ?_
  refine az_newa (pc := 480) (at_ := .int) (ty := .int) C h rfl (by decide) az_ac_int dX11_init_480 (fun h => ?_)
  refine az_putR (pc := 482) (c2 := 13) C fl_X11_189 (Or.inr ⟨rfl, _, _, rfl⟩) rfl rfl rfl dX11_init_482 ?_
  refine az_al0 (pc := 485) C rfl rfl dX11_init_485 ?_
  refine az_sk408 (pc := 486) C dX11_init_486 ?_
  refine az_newa (pc := 489) (at_ := .int) (ty := .int) C h rfl (by decide) az_ac_int dX11_init_489 (fun h => ?_)
  refine az_putR (pc := 491) (c2 := 13) C fl_X11_192 (Or.inr ⟨rfl, _, _, rfl⟩) rfl rfl rfl dX11_init_491 ?_
  exact (A_X11_init_494 C hD h)
set_option maxRecDepth 10000 in
set_option maxHeartbeats 4000000 in
theorem A_X11_init_426 {Z : az_Z} {d : Nat} (C : az_C Z yX11_init cX11_init 1 none d) (hD : 2 ≤ d) {σ : az_Hp} {v0 : Int} {r : az_Hp} (h : fz_X11_init_426 σ v0 = some r) : az_AW Z 1 426 [(13, v0)] [] σ (none, r) := by
  have hd1 : 1 ≤ d := by omega
  unfold fz_X11_init_426 at h
  refine az_al0 (pc := 426) C rfl rfl dX11_init_426 ?_
  refine az_bk6 (pc := 427) C dX11_init_427 ?_
  refine az_newa (pc := 429) (at_ := .int) (ty := .int) C h rfl (by decide) az_ac_int dX11_init_429 (fun h => ?_)
  refine az_putR (pc := 431) (c2 := 13) C fl_X11_171 (Or.inr ⟨rfl, _, _, rfl⟩) rfl rfl rfl dX11_init_431 ?_
  refine az_al0 (pc := 434) C rfl rfl dX11_init_434 ?_
  refine az_bk6 (pc := 435) C dX11_init_435 ?_
  refine az_newa (pc := 437) (at_ := .int) (ty := .int) C h rfl (by decide) az_ac_int dX11_init_437 (fun h => ?_)
  refine az_putR (pc := 439) (c2 := 13) C fl_X11_174 (Or.inr ⟨rfl, _, _, rfl⟩) rfl rfl rfl dX11_init_439 ?_
  refine az_al0 (pc := 442) C rfl rfl dX11_init_442 ?_
  refine az_sk480 (pc := 443) C dX11_init_443 ?_
  refine az_newa (pc := 446) (at_ := .int) (ty := .int) C h rfl (by decide) az_ac_int dX11_init_446 (fun h => ?_)
  refine az_putR (pc := 448) (c2 := 13) C fl_X11_177 (Or.inr ⟨rfl, _, _, rfl⟩) rfl rfl rfl dX11_init_448 ?_
  refine az_al0 (pc := 451) C rfl rfl dX11_init_451 ?_
  refine az_bk16 (pc := 452) C dX11_init_452 ?_
  refine az_newa (pc := 454) (at_ := .int) (ty := .int) C h rfl (by decide) az_ac_int dX11_init_454 (fun h => ?_)
  refine az_putR (pc := 456) (c2 := 13) C fl_X11_180 (Or.inr ⟨rfl, _, _, rfl⟩) rfl rfl rfl dX11_init_456 ?_
  exact (A_X11_init_459 C hD h)
set_option maxRecDepth 10000 in
set_option maxHeartbeats 4000000 in
theorem A_X11_init_392 {Z : az_Z} {d : Nat} (C : az_C Z yX11_init cX11_init 1 none d) (hD : 2 ≤ d) {σ : az_Hp} {v0 : Int} {r : az_Hp} (h : fz_X11_init_392 σ v0 = some r) : az_AW Z 1 392 [(13, v0)] [] σ (none, r) := by
  have hd1 : 1 ≤ d := by omega
  unfold fz_X11_init_392 at h
  refine az_al0 (pc := 392) C rfl rfl dX11_init_392 ?_
  refine az_bk6 (pc := 393) C dX11_init_393 ?_
  refine az_newa (pc := 395) (at_ := .int) (ty := .int) C h rfl (by decide) az_ac_int dX11_init_395 (fun h => ?_)
  refine az_putR (pc := 397) (c2 := 13) C fl_X11_159 (Or.inr ⟨rfl, _, _, rfl⟩) rfl rfl rfl dX11_init_397 ?_
  refine az_al0 (pc := 400) C rfl rfl dX11_init_400 ?_
  refine az_bk6 (pc := 401) C dX11_init_401 ?_
  refine az_newa (pc := 403) (at_ := .int) (ty := .int) C h rfl (by decide) az_ac_int dX11_init_403 (fun h => ?_)
  refine az_putR (pc := 405) (c2 := 13) C fl_X11_162 (Or.inr ⟨rfl, _, _, rfl⟩) rfl rfl rfl dX11_init_405 ?_
  refine az_al0 (pc := 408) C rfl rfl dX11_init_408 ?_
  refine az_sk180 (pc := 409) C dX11_init_409 ?_
  refine az_newa (pc := 412) (at_ := .int) (ty := .int) C h rfl (by decide) az_ac_int dX11_init_412 (fun h => ?_)
  refine az_putR (pc := 414) (c2 := 13) C fl_X11_165 (Or.inr ⟨rfl, _, _, rfl⟩) rfl rfl rfl dX11_init_414 ?_
  refine az_al0 (pc := 417) C rfl rfl dX11_init_417 ?_
  refine az_sk180 (pc := 418) C dX11_init_418 ?_
  refine az_newa (pc := 421) (at_ := .int) (ty := .int) C h rfl (by decide) az_ac_int dX11_init_421 (fun h => ?_)
  refine az_putR (pc := 423) (c2 := 13) C fl_X11_168 (Or.inr ⟨rfl, _, _, rfl⟩) rfl rfl rfl dX11_init_423 ?_
  exact (A_X11_init_426 C hD h)
set_option maxRecDepth 10000 in
set_option maxHeartbeats 4000000 in
theorem A_X11_init_358 {Z : az_Z} {d : Nat} (C : az_C Z yX11_init cX11_init 1 none d) (hD : 2 ≤ d) {σ : az_Hp} {v0 : Int} {r : az_Hp} (h : fz_X11_init_358 σ v0 = some r) : az_AW Z 1 358 [(13, v0)] [] σ (none, r) := by
  have hd1 : 1 ≤ d := by omega
  unfold fz_X11_init_358 at h
  refine az_al0 (pc := 358) C rfl rfl dX11_init_358 ?_
  refine az_bk64 (pc := 359) C dX11_init_359 ?_
  refine az_newa (pc := 361) (at_ := .int) (ty := .int) C h rfl (by decide) az_ac_int dX11_init_361 (fun h => ?_)
  refine az_putR (pc := 363) (c2 := 13) C fl_X11_147 (Or.inr ⟨rfl, _, _, rfl⟩) rfl rfl rfl dX11_init_363 ?_
  refine az_al0 (pc := 366) C rfl rfl dX11_init_366 ?_
  refine az_bk64 (pc := 367) C dX11_init_367 ?_
  refine az_newa (pc := 369) (at_ := .int) (ty := .int) C h rfl (by decide) az_ac_int dX11_init_369 (fun h => ?_)
  refine az_putR (pc := 371) (c2 := 13) C fl_X11_150 (Or.inr ⟨rfl, _, _, rfl⟩) rfl rfl rfl dX11_init_371 ?_
  refine az_al0 (pc := 374) C rfl rfl dX11_init_374 ?_
  refine az_sk180 (pc := 375) C dX11_init_375 ?_
  refine az_newa (pc := 378) (at_ := .int) (ty := .int) C h rfl (by decide) az_ac_int dX11_init_378 (fun h => ?_)
  refine az_putR (pc := 380) (c2 := 13) C fl_X11_153 (Or.inr ⟨rfl, _, _, rfl⟩) rfl rfl rfl dX11_init_380 ?_
  refine az_al0 (pc := 383) C rfl rfl dX11_init_383 ?_
  refine az_sk180 (pc := 384) C dX11_init_384 ?_
  refine az_newa (pc := 387) (at_ := .int) (ty := .int) C h rfl (by decide) az_ac_int dX11_init_387 (fun h => ?_)
  refine az_putR (pc := 389) (c2 := 13) C fl_X11_156 (Or.inr ⟨rfl, _, _, rfl⟩) rfl rfl rfl dX11_init_389 ?_
  exact (A_X11_init_392 C hD h)
set_option maxRecDepth 10000 in
set_option maxHeartbeats 4000000 in
theorem A_X11_init_329 {Z : az_Z} {d : Nat} (C : az_C Z yX11_init cX11_init 1 none d) (hD : 2 ≤ d) {σ : az_Hp} {v0 : Int} {r : az_Hp} (h : fz_X11_init_329 σ v0 = some r) : az_AW Z 1 329 [(13, v0)] [] σ (none, r) := by
  have hd1 : 1 ≤ d := by omega
  unfold fz_X11_init_329 at h
  refine az_al0 (pc := 329) C rfl rfl dX11_init_329 ?_
  refine az_bk61 (pc := 330) C dX11_init_330 ?_
  refine az_newa (pc := 332) (at_ := .int) (ty := .int) C h rfl (by decide) az_ac_int dX11_init_332 (fun h => ?_)
  refine az_putR (pc := 334) (c2 := 13) C fl_X11_135 (Or.inr ⟨rfl, _, _, rfl⟩) rfl rfl rfl dX11_init_334 ?_
  refine az_al0 (pc := 337) C rfl rfl dX11_init_337 ?_
  refine az_bk64 (pc := 338) C dX11_init_338 ?_
  refine az_newa (pc := 340) (at_ := .int) (ty := .int) C h rfl (by decide) az_ac_int dX11_init_340 (fun h => ?_)
  refine az_putR (pc := 342) (c2 := 13) C fl_X11_138 (Or.inr ⟨rfl, _, _, rfl⟩) rfl rfl rfl dX11_init_342 ?_
  refine az_al0 (pc := 345) C rfl rfl dX11_init_345 ?_
  refine az_bk12 (pc := 346) C dX11_init_346 ?_
  refine az_newa (pc := 348) (at_ := .long) (ty := .long) C h rfl (by decide) az_ac_long dX11_init_348 (fun h => ?_)
  refine az_putR (pc := 350) (c2 := 14) C fl_X11_141 (Or.inr ⟨rfl, _, _, rfl⟩) rfl rfl rfl dX11_init_350 ?_
  refine az_al0 (pc := 353) C rfl rfl dX11_init_353 ?_
  refine az_ikm1 (pc := 354) C dX11_init_354 ?_
  refine az_putI (pc := 355) C fl_X11_144 (Or.inl rfl) rfl dX11_init_355 ?_
  exact (A_X11_init_358 C hD h)
set_option maxRecDepth 10000 in
set_option maxHeartbeats 4000000 in
theorem A_X11_init_296 {Z : az_Z} {d : Nat} (C : az_C Z yX11_init cX11_init 1 none d) (hD : 2 ≤ d) {σ : az_Hp} {v0 : Int} {r : az_Hp} (h : fz_X11_init_296 σ v0 = some r) : az_AW Z 1 296 [(13, v0)] [] σ (none, r) := by
  have hd1 : 1 ≤ d := by omega
  unfold fz_X11_init_296 at h
  refine az_al0 (pc := 296) C rfl rfl dX11_init_296 ?_
  refine az_bk6 (pc := 297) C dX11_init_297 ?_
  refine az_newa (pc := 299) (at_ := .int) (ty := .int) C h rfl (by decide) az_ac_int dX11_init_299 (fun h => ?_)
  refine az_putR (pc := 301) (c2 := 13) C fl_X11_123 (Or.inr ⟨rfl, _, _, rfl⟩) rfl rfl rfl dX11_init_301 ?_
  refine az_al0 (pc := 304) C rfl rfl dX11_init_304 ?_
  refine az_bk64 (pc := 305) C dX11_init_305 ?_
  refine az_newa (pc := 307) (at_ := .int) (ty := .int) C h rfl (by decide) az_ac_int dX11_init_307 (fun h => ?_)
  refine az_putR (pc := 309) (c2 := 13) C fl_X11_126 (Or.inr ⟨rfl, _, _, rfl⟩) rfl rfl rfl dX11_init_309 ?_
  refine az_al0 (pc := 312) C rfl rfl dX11_init_312 ?_
  refine az_bk64 (pc := 313) C dX11_init_313 ?_
  refine az_newa (pc := 315) (at_ := .int) (ty := .int) C h rfl (by decide) az_ac_int dX11_init_315 (fun h => ?_)
  refine az_putR (pc := 317) (c2 := 13) C fl_X11_129 (Or.inr ⟨rfl, _, _, rfl⟩) rfl rfl rfl dX11_init_317 ?_
  refine az_al0 (pc := 320) C rfl rfl dX11_init_320 ?_
  refine az_sk3660 (pc := 321) C dX11_init_321 ?_
  refine az_newa (pc := 324) (at_ := .int) (ty := .int) C h rfl (by decide) az_ac_int dX11_init_324 (fun h => ?_)
  refine az_putR (pc := 326) (c2 := 13) C fl_X11_132 (Or.inr ⟨rfl, _, _, rfl⟩) rfl rfl rfl dX11_init_326 ?_
  exact (A_X11_init_329 C hD h)
set_option maxRecDepth 10000 in
set_option maxHeartbeats 4000000 in
theorem A_X11_init_262 {Z : az_Z} {d : Nat} (C : az_C Z yX11_init cX11_init 1 none d) (hD : 2 ≤ d) {σ : az_Hp} {v0 : Int} {r : az_Hp} (h : fz_X11_init_262 σ v0 = some r) : az_AW Z 1 262 [(13, v0)] [] σ (none, r) := by
  have hd1 : 1 ≤ d := by omega
  unfold fz_X11_init_262 at h
  refine az_al0 (pc := 262) C rfl rfl dX11_init_262 ?_
  refine az_sk256 (pc := 263) C dX11_init_263 ?_
  refine az_newa (pc := 266) (at_ := .boolean) (ty := .boolean) C h rfl (by decide) az_ac_boolean dX11_init_266 (fun h => ?_)
  refine az_putR (pc := 268) (c2 := 15) C fl_X11_109 (Or.inr ⟨rfl, _, _, rfl⟩) rfl rfl rfl dX11_init_268 ?_
  refine az_al0 (pc := 271) C rfl rfl dX11_init_271 ?_
  refine az_ldc (pc := 272) (x := 100000) C ct_X11_112 dX11_init_272 (by decide) ?_
  refine az_newa (pc := 274) (at_ := .byte) (ty := .byte) C h rfl (by decide) az_ac_byte dX11_init_274 (fun h => ?_)
  refine az_putR (pc := 276) (c2 := 12) C fl_X11_113 (Or.inr ⟨rfl, _, _, rfl⟩) rfl rfl rfl dX11_init_276 ?_
  refine az_al0 (pc := 279) C rfl rfl dX11_init_279 ?_
  refine az_sk200 (pc := 280) C dX11_init_280 ?_
  refine az_newa (pc := 283) (at_ := .int) (ty := .int) C h rfl (by decide) az_ac_int dX11_init_283 (fun h => ?_)
  refine az_putR (pc := 285) (c2 := 13) C fl_X11_117 (Or.inr ⟨rfl, _, _, rfl⟩) rfl rfl rfl dX11_init_285 ?_
  refine az_al0 (pc := 288) C rfl rfl dX11_init_288 ?_
  refine az_bk6 (pc := 289) C dX11_init_289 ?_
  refine az_newa (pc := 291) (at_ := .int) (ty := .int) C h rfl (by decide) az_ac_int dX11_init_291 (fun h => ?_)
  refine az_putR (pc := 293) (c2 := 13) C fl_X11_120 (Or.inr ⟨rfl, _, _, rfl⟩) rfl rfl rfl dX11_init_293 ?_
  exact (A_X11_init_296 C hD h)
set_option maxRecDepth 10000 in
set_option maxHeartbeats 4000000 in
theorem A_X11_init_230 {Z : az_Z} {d : Nat} (C : az_C Z yX11_init cX11_init 1 none d) (hD : 2 ≤ d) {σ : az_Hp} {v0 : Int} {r : az_Hp} (h : fz_X11_init_230 σ v0 = some r) : az_AW Z 1 230 [(13, v0)] [] σ (none, r) := by
  have hd1 : 1 ≤ d := by omega
  unfold fz_X11_init_230 at h
  refine az_al0 (pc := 230) C rfl rfl dX11_init_230 ?_
  refine az_bk64 (pc := 231) C dX11_init_231 ?_
  refine az_newa (pc := 233) (at_ := .int) (ty := .int) C h rfl (by decide) az_ac_int dX11_init_233 (fun h => ?_)
  refine az_putR (pc := 235) (c2 := 13) C fl_X11_97 (Or.inr ⟨rfl, _, _, rfl⟩) rfl rfl rfl dX11_init_235 ?_
  refine az_al0 (pc := 238) C rfl rfl dX11_init_238 ?_
  refine az_bk64 (pc := 239) C dX11_init_239 ?_
  refine az_newa (pc := 241) (at_ := .int) (ty := .int) C h rfl (by decide) az_ac_int dX11_init_241 (fun h => ?_)
  refine az_putR (pc := 243) (c2 := 13) C fl_X11_100 (Or.inr ⟨rfl, _, _, rfl⟩) rfl rfl rfl dX11_init_243 ?_
  refine az_al0 (pc := 246) C rfl rfl dX11_init_246 ?_
  refine az_ik4 (pc := 247) C dX11_init_247 ?_
  refine az_newa (pc := 248) (at_ := .int) (ty := .int) C h rfl (by decide) az_ac_int dX11_init_248 (fun h => ?_)
  refine az_putR (pc := 250) (c2 := 13) C fl_X11_103 (Or.inr ⟨rfl, _, _, rfl⟩) rfl rfl rfl dX11_init_250 ?_
  refine az_al0 (pc := 253) C rfl rfl dX11_init_253 ?_
  refine az_sk256 (pc := 254) C dX11_init_254 ?_
  refine az_newa (pc := 257) (at_ := .int) (ty := .int) C h rfl (by decide) az_ac_int dX11_init_257 (fun h => ?_)
  refine az_putR (pc := 259) (c2 := 13) C fl_X11_106 (Or.inr ⟨rfl, _, _, rfl⟩) rfl rfl rfl dX11_init_259 ?_
  exact (A_X11_init_262 C hD h)
set_option maxRecDepth 10000 in
set_option maxHeartbeats 4000000 in
theorem A_X11_init_195 {Z : az_Z} {d : Nat} (C : az_C Z yX11_init cX11_init 1 none d) (hD : 2 ≤ d) {σ : az_Hp} {v0 : Int} {r : az_Hp} (h : fz_X11_init_195 σ v0 = some r) : az_AW Z 1 195 [(13, v0)] [] σ (none, r) := by
  have hd1 : 1 ≤ d := by omega
  unfold fz_X11_init_195 at h
  refine az_al0 (pc := 195) C rfl rfl dX11_init_195 ?_
  refine az_sk200 (pc := 196) C dX11_init_196 ?_
  refine az_newa (pc := 199) (at_ := .int) (ty := .int) C h rfl (by decide) az_ac_int dX11_init_199 (fun h => ?_)
  refine az_putR (pc := 201) (c2 := 13) C fl_X11_85 (Or.inr ⟨rfl, _, _, rfl⟩) rfl rfl rfl dX11_init_201 ?_
  refine az_al0 (pc := 204) C rfl rfl dX11_init_204 ?_
  refine az_sk200 (pc := 205) C dX11_init_205 ?_
  refine az_newa (pc := 208) (at_ := .int) (ty := .int) C h rfl (by decide) az_ac_int dX11_init_208 (fun h => ?_)
  refine az_putR (pc := 210) (c2 := 13) C fl_X11_88 (Or.inr ⟨rfl, _, _, rfl⟩) rfl rfl rfl dX11_init_210 ?_
  refine az_al0 (pc := 213) C rfl rfl dX11_init_213 ?_
  refine az_sk200 (pc := 214) C dX11_init_214 ?_
  refine az_newa (pc := 217) (at_ := .int) (ty := .int) C h rfl (by decide) az_ac_int dX11_init_217 (fun h => ?_)
  refine az_putR (pc := 219) (c2 := 13) C fl_X11_91 (Or.inr ⟨rfl, _, _, rfl⟩) rfl rfl rfl dX11_init_219 ?_
  refine az_al0 (pc := 222) C rfl rfl dX11_init_222 ?_
  refine az_bk64 (pc := 223) C dX11_init_223 ?_
  refine az_newa (pc := 225) (at_ := .int) (ty := .int) C h rfl (by decide) az_ac_int dX11_init_225 (fun h => ?_)
  refine az_putR (pc := 227) (c2 := 13) C fl_X11_94 (Or.inr ⟨rfl, _, _, rfl⟩) rfl rfl rfl dX11_init_227 ?_
  exact (A_X11_init_230 C hD h)
set_option maxRecDepth 10000 in
set_option maxHeartbeats 4000000 in
theorem A_X11_init_159 {Z : az_Z} {d : Nat} (C : az_C Z yX11_init cX11_init 1 none d) (hD : 2 ≤ d) {σ : az_Hp} {v0 : Int} {r : az_Hp} (h : fz_X11_init_159 σ v0 = some r) : az_AW Z 1 159 [(13, v0)] [] σ (none, r) := by
  have hd1 : 1 ≤ d := by omega
  unfold fz_X11_init_159 at h
  refine az_al0 (pc := 159) C rfl rfl dX11_init_159 ?_
  refine az_sk400 (pc := 160) C dX11_init_160 ?_
  refine az_newa (pc := 163) (at_ := .int) (ty := .int) C h rfl (by decide) az_ac_int dX11_init_163 (fun h => ?_)
  refine az_putR (pc := 165) (c2 := 13) C fl_X11_73 (Or.inr ⟨rfl, _, _, rfl⟩) rfl rfl rfl dX11_init_165 ?_
  refine az_al0 (pc := 168) C rfl rfl dX11_init_168 ?_
  refine az_sk1200 (pc := 169) C dX11_init_169 ?_
  refine az_newa (pc := 172) (at_ := .int) (ty := .int) C h rfl (by decide) az_ac_int dX11_init_172 (fun h => ?_)
  refine az_putR (pc := 174) (c2 := 13) C fl_X11_76 (Or.inr ⟨rfl, _, _, rfl⟩) rfl rfl rfl dX11_init_174 ?_
  refine az_al0 (pc := 177) C rfl rfl dX11_init_177 ?_
  refine az_sk400 (pc := 178) C dX11_init_178 ?_
  refine az_newa (pc := 181) (at_ := .int) (ty := .int) C h rfl (by decide) az_ac_int dX11_init_181 (fun h => ?_)
  refine az_putR (pc := 183) (c2 := 13) C fl_X11_79 (Or.inr ⟨rfl, _, _, rfl⟩) rfl rfl rfl dX11_init_183 ?_
  refine az_al0 (pc := 186) C rfl rfl dX11_init_186 ?_
  refine az_sk400 (pc := 187) C dX11_init_187 ?_
  refine az_newa (pc := 190) (at_ := .int) (ty := .int) C h rfl (by decide) az_ac_int dX11_init_190 (fun h => ?_)
  refine az_putR (pc := 192) (c2 := 13) C fl_X11_82 (Or.inr ⟨rfl, _, _, rfl⟩) rfl rfl rfl dX11_init_192 ?_
  exact (A_X11_init_195 C hD h)
set_option maxRecDepth 10000 in
set_option maxHeartbeats 4000000 in
theorem A_X11_init_126 {Z : az_Z} {d : Nat} (C : az_C Z yX11_init cX11_init 1 none d) (hD : 2 ≤ d) {σ : az_Hp} {v0 : Int} {r : az_Hp} (h : fz_X11_init_126 σ v0 = some r) : az_AW Z 1 126 [(13, v0)] [] σ (none, r) := by
  have hd1 : 1 ≤ d := by omega
  unfold fz_X11_init_126 at h
  refine az_al0 (pc := 126) C rfl rfl dX11_init_126 ?_
  refine az_bk32 (pc := 127) C dX11_init_127 ?_
  refine az_newa (pc := 129) (at_ := .int) (ty := .int) C h rfl (by decide) az_ac_int dX11_init_129 (fun h => ?_)
  refine az_putR (pc := 131) (c2 := 13) C fl_X11_61 (Or.inr ⟨rfl, _, _, rfl⟩) rfl rfl rfl dX11_init_131 ?_
  refine az_al0 (pc := 134) C rfl rfl dX11_init_134 ?_
  refine az_bk64 (pc := 135) C dX11_init_135 ?_
  refine az_newa (pc := 137) (at_ := .int) (ty := .int) C h rfl (by decide) az_ac_int dX11_init_137 (fun h => ?_)
  refine az_putR (pc := 139) (c2 := 13) C fl_X11_64 (Or.inr ⟨rfl, _, _, rfl⟩) rfl rfl rfl dX11_init_139 ?_
  refine az_al0 (pc := 142) C rfl rfl dX11_init_142 ?_
  refine az_sk450 (pc := 143) C dX11_init_143 ?_
  refine az_newa (pc := 146) (at_ := .long) (ty := .long) C h rfl (by decide) az_ac_long dX11_init_146 (fun h => ?_)
  refine az_putR (pc := 148) (c2 := 14) C fl_X11_67 (Or.inr ⟨rfl, _, _, rfl⟩) rfl rfl rfl dX11_init_148 ?_
  refine az_al0 (pc := 151) C rfl rfl dX11_init_151 ?_
  refine az_bk6 (pc := 152) C dX11_init_152 ?_
  refine az_newa (pc := 154) (at_ := .long) (ty := .long) C h rfl (by decide) az_ac_long dX11_init_154 (fun h => ?_)
  refine az_putR (pc := 156) (c2 := 14) C fl_X11_70 (Or.inr ⟨rfl, _, _, rfl⟩) rfl rfl rfl dX11_init_156 ?_
  exact (A_X11_init_159 C hD h)
set_option maxRecDepth 10000 in
set_option maxHeartbeats 4000000 in
theorem A_X11_init_92 {Z : az_Z} {d : Nat} (C : az_C Z yX11_init cX11_init 1 none d) (hD : 2 ≤ d) {σ : az_Hp} {v0 : Int} {r : az_Hp} (h : fz_X11_init_92 σ v0 = some r) : az_AW Z 1 92 [(13, v0)] [] σ (none, r) := by
  have hd1 : 1 ≤ d := by omega
  unfold fz_X11_init_92 at h
  refine az_al0 (pc := 92) C rfl rfl dX11_init_92 ?_
  refine az_sk512 (pc := 93) C dX11_init_93 ?_
  refine az_newa (pc := 96) (at_ := .int) (ty := .int) C h rfl (by decide) az_ac_int dX11_init_96 (fun h => ?_)
  refine az_putR (pc := 98) (c2 := 13) C fl_X11_49 (Or.inr ⟨rfl, _, _, rfl⟩) rfl rfl rfl dX11_init_98 ?_
  refine az_al0 (pc := 101) C rfl rfl dX11_init_101 ?_
  refine az_sk512 (pc := 102) C dX11_init_102 ?_
  refine az_newa (pc := 105) (at_ := .int) (ty := .int) C h rfl (by decide) az_ac_int dX11_init_105 (fun h => ?_)
  refine az_putR (pc := 107) (c2 := 13) C fl_X11_52 (Or.inr ⟨rfl, _, _, rfl⟩) rfl rfl rfl dX11_init_107 ?_
  refine az_al0 (pc := 110) C rfl rfl dX11_init_110 ?_
  refine az_bk32 (pc := 111) C dX11_init_111 ?_
  refine az_newa (pc := 113) (at_ := .int) (ty := .int) C h rfl (by decide) az_ac_int dX11_init_113 (fun h => ?_)
  refine az_putR (pc := 115) (c2 := 13) C fl_X11_55 (Or.inr ⟨rfl, _, _, rfl⟩) rfl rfl rfl dX11_init_115 ?_
  refine az_al0 (pc := 118) C rfl rfl dX11_init_118 ?_
  refine az_bk32 (pc := 119) C dX11_init_119 ?_
  refine az_newa (pc := 121) (at_ := .int) (ty := .int) C h rfl (by decide) az_ac_int dX11_init_121 (fun h => ?_)
  refine az_putR (pc := 123) (c2 := 13) C fl_X11_58 (Or.inr ⟨rfl, _, _, rfl⟩) rfl rfl rfl dX11_init_123 ?_
  exact (A_X11_init_126 C hD h)
set_option maxRecDepth 10000 in
set_option maxHeartbeats 4000000 in
theorem A_X11_init_60 {Z : az_Z} {d : Nat} (C : az_C Z yX11_init cX11_init 1 none d) (hD : 2 ≤ d) {σ : az_Hp} {v0 : Int} {r : az_Hp} (h : fz_X11_init_60 σ v0 = some r) : az_AW Z 1 60 [(13, v0)] [] σ (none, r) := by
  have hd1 : 1 ≤ d := by omega
  unfold fz_X11_init_60 at h
  refine az_al0 (pc := 60) C rfl rfl dX11_init_60 ?_
  refine az_bk16 (pc := 61) C dX11_init_61 ?_
  refine az_newa (pc := 63) (at_ := .int) (ty := .int) C h rfl (by decide) az_ac_int dX11_init_63 (fun h => ?_)
  refine az_putR (pc := 65) (c2 := 13) C fl_X11_36 (Or.inr ⟨rfl, _, _, rfl⟩) rfl rfl rfl dX11_init_65 ?_
  refine az_al0 (pc := 68) C rfl rfl dX11_init_68 ?_
  refine az_bk10 (pc := 69) C dX11_init_69 ?_
  refine az_newa (pc := 71) (at_ := .int) (ty := .int) C h rfl (by decide) az_ac_int dX11_init_71 (fun h => ?_)
  refine az_putR (pc := 73) (c2 := 13) C fl_X11_39 (Or.inr ⟨rfl, _, _, rfl⟩) rfl rfl rfl dX11_init_73 ?_
  refine az_al0 (pc := 76) C rfl rfl dX11_init_76 ?_
  refine az_bk10 (pc := 77) C dX11_init_77 ?_
  refine az_newa (pc := 79) (at_ := .boolean) (ty := .boolean) C h rfl (by decide) az_ac_boolean dX11_init_79 (fun h => ?_)
  refine az_putR (pc := 81) (c2 := 15) C fl_X11_42 (Or.inr ⟨rfl, _, _, rfl⟩) rfl rfl rfl dX11_init_81 ?_
  refine az_al0 (pc := 84) C rfl rfl dX11_init_84 ?_
  refine az_bk10 (pc := 85) C dX11_init_85 ?_
  refine az_newa (pc := 87) (at_ := .boolean) (ty := .boolean) C h rfl (by decide) az_ac_boolean dX11_init_87 (fun h => ?_)
  refine az_putR (pc := 89) (c2 := 15) C fl_X11_46 (Or.inr ⟨rfl, _, _, rfl⟩) rfl rfl rfl dX11_init_89 ?_
  exact (A_X11_init_92 C hD h)
set_option maxRecDepth 10000 in
set_option maxHeartbeats 4000000 in
theorem A_X11_init_30 {Z : az_Z} {d : Nat} (C : az_C Z yX11_init cX11_init 1 none d) (hD : 2 ≤ d) {σ : az_Hp} {v0 : Int} {r : az_Hp} (h : fz_X11_init_30 σ v0 = some r) : az_AW Z 1 30 [(13, v0)] [] σ (none, r) := by
  have hd1 : 1 ≤ d := by omega
  unfold fz_X11_init_30 at h
  refine az_al0 (pc := 30) C rfl rfl dX11_init_30 ?_
  refine az_ik2 (pc := 31) C dX11_init_31 ?_
  refine az_newa (pc := 32) (at_ := .int) (ty := .int) C h rfl (by decide) az_ac_int dX11_init_32 (fun h => ?_)
  refine az_putR (pc := 34) (c2 := 13) C fl_X11_23 (Or.inr ⟨rfl, _, _, rfl⟩) rfl rfl rfl dX11_init_34 ?_
  refine az_al0 (pc := 37) C rfl rfl dX11_init_37 ?_
  refine az_ik2 (pc := 38) C dX11_init_38 ?_
  refine az_newa (pc := 39) (at_ := .int) (ty := .int) C h rfl (by decide) az_ac_int dX11_init_39 (fun h => ?_)
  refine az_putR (pc := 41) (c2 := 13) C fl_X11_26 (Or.inr ⟨rfl, _, _, rfl⟩) rfl rfl rfl dX11_init_41 ?_
  refine az_al0 (pc := 44) C rfl rfl dX11_init_44 ?_
  refine az_bk16 (pc := 45) C dX11_init_45 ?_
  refine az_newa (pc := 47) (at_ := .long) (ty := .long) C h rfl (by decide) az_ac_long dX11_init_47 (fun h => ?_)
  refine az_putR (pc := 49) (c2 := 14) C fl_X11_29 (Or.inr ⟨rfl, _, _, rfl⟩) rfl rfl rfl dX11_init_49 ?_
  refine az_al0 (pc := 52) C rfl rfl dX11_init_52 ?_
  refine az_bk10 (pc := 53) C dX11_init_53 ?_
  refine az_newa (pc := 55) (at_ := .long) (ty := .long) C h rfl (by decide) az_ac_long dX11_init_55 (fun h => ?_)
  refine az_putR (pc := 57) (c2 := 14) C fl_X11_33 (Or.inr ⟨rfl, _, _, rfl⟩) rfl rfl rfl dX11_init_57 ?_
  exact (A_X11_init_60 C hD h)
set_option maxRecDepth 10000 in
set_option maxHeartbeats 4000000 in
theorem A_X11_init_e {Z : az_Z} {d : Nat} (C : az_C Z yX11_init cX11_init 1 none d) (hD : 2 ≤ d) {σ : az_Hp} {v0 : Int} {r : az_Hp} (h : fz_X11_init σ v0 = some r) : az_AW Z 1 0 [(13, v0)] [] σ (none, r) := by
  have hd1 : 1 ≤ d := by omega
  unfold fz_X11_init at h
  refine az_al0 (pc := 0) C rfl rfl dX11_init_0 ?_
  refine az_objInit (pc := 1) C hd1 rfl ml_X11_1 az_w_obi az_w_obc rfl dX11_init_1 ?_
  refine az_al0 (pc := 4) C rfl rfl dX11_init_4 ?_
  refine az_sk900 (pc := 5) C dX11_init_5 ?_
  refine az_newa (pc := 8) (at_ := .int) (ty := .int) C h rfl (by decide) az_ac_int dX11_init_8 (fun h => ?_)
  refine az_putR (pc := 10) (c2 := 13) C fl_X11_7 (Or.inr ⟨rfl, _, _, rfl⟩) rfl rfl rfl dX11_init_10 ?_
  refine az_al0 (pc := 13) C rfl rfl dX11_init_13 ?_
  refine az_ikm1 (pc := 14) C dX11_init_14 ?_
  refine az_putI (pc := 15) C fl_X11_13 (Or.inl rfl) rfl dX11_init_15 ?_
  refine az_al0 (pc := 18) C rfl rfl dX11_init_18 ?_
  refine az_ikm1 (pc := 19) C dX11_init_19 ?_
  refine az_putI (pc := 20) C fl_X11_17 (Or.inl rfl) rfl dX11_init_20 ?_
  refine az_al0 (pc := 23) C rfl rfl dX11_init_23 ?_
  refine az_ik2 (pc := 24) C dX11_init_24 ?_
  refine az_newa (pc := 25) (at_ := .int) (ty := .int) C h rfl (by decide) az_ac_int dX11_init_25 (fun h => ?_)
  refine az_putR (pc := 27) (c2 := 13) C fl_X11_20 (Or.inr ⟨rfl, _, _, rfl⟩) rfl rfl rfl dX11_init_27 ?_
  exact (A_X11_init_30 C hD h)
set_option maxRecDepth 10000 in
set_option maxHeartbeats 4000000 in
theorem A_X11_init {l : Launch} {d : Nat} (hD : 2 ≤ d) {σ : az_Hp} {v0 : Int} {r : az_Hp} (h : fz_X11_init σ v0 = some r) : az_AC l yX11_init cX11_init 1 none d [(13, v0)] σ (none, r) := az_AC.of mt_X11_init rfl rfl rfl (fun Z hZ C => A_X11_init_e C hD h)
theorem dX11_byteAt_0 : decode cX11_byteAt 0 = .ok (.iload_n 1, 1) := by decide +kernel
theorem dX11_byteAt_1 : decode cX11_byteAt 1 = .ok (.aload_n 0, 1) := by decide +kernel
theorem dX11_byteAt_2 : decode cX11_byteAt 2 = .ok (.getfield 223, 3) := by decide +kernel
theorem dX11_byteAt_5 : decode cX11_byteAt 5 = .ok (.if_icmp .ge 12, 3) := by decide +kernel
theorem dX11_byteAt_8 : decode cX11_byteAt 8 = .ok (.aload_n 0, 1) := by decide +kernel
theorem dX11_byteAt_9 : decode cX11_byteAt 9 = .ok (.getfield 7, 3) := by decide +kernel
theorem dX11_byteAt_12 : decode cX11_byteAt 12 = .ok (.iload_n 1, 1) := by decide +kernel
theorem dX11_byteAt_13 : decode cX11_byteAt 13 = .ok (.iaload, 1) := by decide +kernel
theorem dX11_byteAt_14 : decode cX11_byteAt 14 = .ok (.goto 4, 3) := by decide +kernel
theorem dX11_byteAt_17 : decode cX11_byteAt 17 = .ok (.iconst (-1), 1) := by decide +kernel
theorem dX11_byteAt_18 : decode cX11_byteAt 18 = .ok (.ireturn, 1) := by decide +kernel
set_option maxRecDepth 10000 in
set_option maxHeartbeats 4000000 in
theorem A_X11_byteAt_e {Z : az_Z} {d : Nat} (C : az_C Z yX11_byteAt cX11_byteAt 2 (some .int) d) (hD : 1 ≤ d) {σ : az_Hp} {v0 v1 : Int} {r : Int} (h : fz_X11_byteAt σ v0 v1 = some r) : az_AW Z 2 0 [(13, v0), (0, v1)] [] σ (some (0, r), σ) := by
  have hd1 : 1 ≤ d := by omega
  unfold fz_X11_byteAt at h
  refine az_il1 (pc := 0) C dX11_byteAt_0 ?_
  refine az_al0 (pc := 1) C rfl rfl dX11_byteAt_1 ?_
  refine az_getI (pc := 2) C fl_X11_223 rfl dX11_byteAt_2 ?_
  refine az_icmp_ge (pc := 5) (tgt := 17) C h dX11_byteAt_5 (by decide) (fun _ h => ?_) (fun _ h => ?_)
  · refine az_ikm1 (pc := 17) C dX11_byteAt_17 ?_
    obtain rfl := Option.some.inj h
    exact az_ireturn (pc := 18) C dX11_byteAt_18 rfl
  refine az_al0 (pc := 8) C rfl rfl dX11_byteAt_8 ?_
  refine az_getR (pc := 9) (c2 := 13) C h fl_X11_7 rfl rfl dX11_byteAt_9 (fun h => ?_)
  refine az_il1 (pc := 12) C dX11_byteAt_12 ?_
  refine az_iaload (pc := 13) C h dX11_byteAt_13 (fun h => ?_)
  refine az_goto (pc := 14) (tgt := 18) C dX11_byteAt_14 (by decide) ?_
  obtain rfl := Option.some.inj h
  exact az_ireturn (pc := 18) C dX11_byteAt_18 rfl
set_option maxRecDepth 10000 in
set_option maxHeartbeats 4000000 in
theorem A_X11_byteAt {l : Launch} {d : Nat} (hD : 1 ≤ d) {σ : az_Hp} {v0 v1 : Int} {r : Int} (h : fz_X11_byteAt σ v0 v1 = some r) : az_AC l yX11_byteAt cX11_byteAt 2 (some .int) d [(13, v0), (0, v1)] σ (some (0, r), σ) := az_AC.of mt_X11_byteAt rfl rfl rfl (fun Z hZ C => A_X11_byteAt_e C hD h)
theorem dX11_isDigit_0 : decode cX11_isDigit 0 = .ok (.iload_n 0, 1) := by decide +kernel
theorem dX11_isDigit_1 : decode cX11_isDigit 1 = .ok (.bipush 48, 2) := by decide +kernel
theorem dX11_isDigit_3 : decode cX11_isDigit 3 = .ok (.if_icmp .lt 13, 3) := by decide +kernel
theorem dX11_isDigit_6 : decode cX11_isDigit 6 = .ok (.iload_n 0, 1) := by decide +kernel
theorem dX11_isDigit_7 : decode cX11_isDigit 7 = .ok (.bipush 57, 2) := by decide +kernel
theorem dX11_isDigit_9 : decode cX11_isDigit 9 = .ok (.if_icmp .gt 7, 3) := by decide +kernel
theorem dX11_isDigit_12 : decode cX11_isDigit 12 = .ok (.iconst 1, 1) := by decide +kernel
theorem dX11_isDigit_13 : decode cX11_isDigit 13 = .ok (.goto 4, 3) := by decide +kernel
theorem dX11_isDigit_16 : decode cX11_isDigit 16 = .ok (.iconst 0, 1) := by decide +kernel
theorem dX11_isDigit_17 : decode cX11_isDigit 17 = .ok (.ireturn, 1) := by decide +kernel
set_option maxRecDepth 10000 in
set_option maxHeartbeats 4000000 in
theorem A_X11_isDigit_e {Z : az_Z} {d : Nat} (C : az_C Z yX11_isDigit cX11_isDigit 1 (some .boolean) d) (hD : 1 ≤ d) {σ : az_Hp} {v0 : Int} {r : Int} (h : fz_X11_isDigit σ v0 = some r) : az_AW Z 1 0 [(0, v0)] [] σ (some (0, r), σ) := by
  have hd1 : 1 ≤ d := by omega
  unfold fz_X11_isDigit at h
  refine az_il0 (pc := 0) C dX11_isDigit_0 ?_
  refine az_bk48 (pc := 1) C dX11_isDigit_1 ?_
  refine az_icmp_lt (pc := 3) (tgt := 16) C h dX11_isDigit_3 (by decide) (fun _ h => ?_) (fun _ h => ?_)
  · refine az_ik0 (pc := 16) C dX11_isDigit_16 ?_
    obtain rfl := Option.some.inj h
    exact az_zreturn (pc := 17) C (by decide) dX11_isDigit_17 rfl
  refine az_il0 (pc := 6) C dX11_isDigit_6 ?_
  refine az_bk57 (pc := 7) C dX11_isDigit_7 ?_
  refine az_icmp_gt (pc := 9) (tgt := 16) C h dX11_isDigit_9 (by decide) (fun _ h => ?_) (fun _ h => ?_)
  · refine az_ik0 (pc := 16) C dX11_isDigit_16 ?_
    obtain rfl := Option.some.inj h
    exact az_zreturn (pc := 17) C (by decide) dX11_isDigit_17 rfl
  refine az_ik1 (pc := 12) C dX11_isDigit_12 ?_
  refine az_goto (pc := 13) (tgt := 17) C dX11_isDigit_13 (by decide) ?_
  obtain rfl := Option.some.inj h
  exact az_zreturn (pc := 17) C (by decide) dX11_isDigit_17 rfl
set_option maxRecDepth 10000 in
set_option maxHeartbeats 4000000 in
theorem A_X11_isDigit {l : Launch} {d : Nat} (hD : 1 ≤ d) {σ : az_Hp} {v0 : Int} {r : Int} (h : fz_X11_isDigit σ v0 = some r) : az_AC l yX11_isDigit cX11_isDigit 1 (some .boolean) d [(0, v0)] σ (some (0, r), σ) := az_AC.of mt_X11_isDigit rfl rfl rfl (fun Z hZ C => A_X11_isDigit_e C hD h)
theorem dX11_isGreat_0 : decode cX11_isGreat 0 = .ok (.iload_n 0, 1) := by decide +kernel
theorem dX11_isGreat_1 : decode cX11_isGreat 1 = .ok (.bipush 65, 2) := by decide +kernel
theorem dX11_isGreat_3 : decode cX11_isGreat 3 = .ok (.if_icmp .lt 13, 3) := by decide +kernel
theorem dX11_isGreat_6 : decode cX11_isGreat 6 = .ok (.iload_n 0, 1) := by decide +kernel
theorem dX11_isGreat_7 : decode cX11_isGreat 7 = .ok (.bipush 90, 2) := by decide +kernel
theorem dX11_isGreat_9 : decode cX11_isGreat 9 = .ok (.if_icmp .gt 7, 3) := by decide +kernel
theorem dX11_isGreat_12 : decode cX11_isGreat 12 = .ok (.iconst 1, 1) := by decide +kernel
theorem dX11_isGreat_13 : decode cX11_isGreat 13 = .ok (.goto 4, 3) := by decide +kernel
theorem dX11_isGreat_16 : decode cX11_isGreat 16 = .ok (.iconst 0, 1) := by decide +kernel
theorem dX11_isGreat_17 : decode cX11_isGreat 17 = .ok (.ireturn, 1) := by decide +kernel
set_option maxRecDepth 10000 in
set_option maxHeartbeats 4000000 in
theorem A_X11_isGreat_e {Z : az_Z} {d : Nat} (C : az_C Z yX11_isGreat cX11_isGreat 1 (some .boolean) d) (hD : 1 ≤ d) {σ : az_Hp} {v0 : Int} {r : Int} (h : fz_X11_isGreat σ v0 = some r) : az_AW Z 1 0 [(0, v0)] [] σ (some (0, r), σ) := by
  have hd1 : 1 ≤ d := by omega
  unfold fz_X11_isGreat at h
  refine az_il0 (pc := 0) C dX11_isGreat_0 ?_
  refine az_bk65 (pc := 1) C dX11_isGreat_1 ?_
  refine az_icmp_lt (pc := 3) (tgt := 16) C h dX11_isGreat_3 (by decide) (fun _ h => ?_) (fun _ h => ?_)
  · refine az_ik0 (pc := 16) C dX11_isGreat_16 ?_
    obtain rfl := Option.some.inj h
    exact az_zreturn (pc := 17) C (by decide) dX11_isGreat_17 rfl
  refine az_il0 (pc := 6) C dX11_isGreat_6 ?_
  refine az_bk90 (pc := 7) C dX11_isGreat_7 ?_
  refine az_icmp_gt (pc := 9) (tgt := 16) C h dX11_isGreat_9 (by decide) (fun _ h => ?_) (fun _ h => ?_)
  · refine az_ik0 (pc := 16) C dX11_isGreat_16 ?_
    obtain rfl := Option.some.inj h
    exact az_zreturn (pc := 17) C (by decide) dX11_isGreat_17 rfl
  refine az_ik1 (pc := 12) C dX11_isGreat_12 ?_
  refine az_goto (pc := 13) (tgt := 17) C dX11_isGreat_13 (by decide) ?_
  obtain rfl := Option.some.inj h
  exact az_zreturn (pc := 17) C (by decide) dX11_isGreat_17 rfl
set_option maxRecDepth 10000 in
set_option maxHeartbeats 4000000 in
theorem A_X11_isGreat {l : Launch} {d : Nat} (hD : 1 ≤ d) {σ : az_Hp} {v0 : Int} {r : Int} (h : fz_X11_isGreat σ v0 = some r) : az_AC l yX11_isGreat cX11_isGreat 1 (some .boolean) d [(0, v0)] σ (some (0, r), σ) := az_AC.of mt_X11_isGreat rfl rfl rfl (fun Z hZ C => A_X11_isGreat_e C hD h)
theorem dX11_isSmall_0 : decode cX11_isSmall 0 = .ok (.iload_n 0, 1) := by decide +kernel
theorem dX11_isSmall_1 : decode cX11_isSmall 1 = .ok (.bipush 97, 2) := by decide +kernel
theorem dX11_isSmall_3 : decode cX11_isSmall 3 = .ok (.if_icmp .lt 13, 3) := by decide +kernel
theorem dX11_isSmall_6 : decode cX11_isSmall 6 = .ok (.iload_n 0, 1) := by decide +kernel
theorem dX11_isSmall_7 : decode cX11_isSmall 7 = .ok (.bipush 122, 2) := by decide +kernel
theorem dX11_isSmall_9 : decode cX11_isSmall 9 = .ok (.if_icmp .gt 7, 3) := by decide +kernel
theorem dX11_isSmall_12 : decode cX11_isSmall 12 = .ok (.iconst 1, 1) := by decide +kernel
theorem dX11_isSmall_13 : decode cX11_isSmall 13 = .ok (.goto 4, 3) := by decide +kernel
theorem dX11_isSmall_16 : decode cX11_isSmall 16 = .ok (.iconst 0, 1) := by decide +kernel
theorem dX11_isSmall_17 : decode cX11_isSmall 17 = .ok (.ireturn, 1) := by decide +kernel
set_option maxRecDepth 10000 in
set_option maxHeartbeats 4000000 in
theorem A_X11_isSmall_e {Z : az_Z} {d : Nat} (C : az_C Z yX11_isSmall cX11_isSmall 1 (some .boolean) d) (hD : 1 ≤ d) {σ : az_Hp} {v0 : Int} {r : Int} (h : fz_X11_isSmall σ v0 = some r) : az_AW Z 1 0 [(0, v0)] [] σ (some (0, r), σ) := by
  have hd1 : 1 ≤ d := by omega
  unfold fz_X11_isSmall at h
  refine az_il0 (pc := 0) C dX11_isSmall_0 ?_
  refine az_bk97 (pc := 1) C dX11_isSmall_1 ?_
  refine az_icmp_lt (pc := 3) (tgt := 16) C h dX11_isSmall_3 (by decide) (fun _ h => ?_) (fun _ h => ?_)
  · refine az_ik0 (pc := 16) C dX11_isSmall_16 ?_
    obtain rfl := Option.some.inj h
    exact az_zreturn (pc := 17) C (by decide) dX11_isSmall_17 rfl
  refine az_il0 (pc := 6) C dX11_isSmall_6 ?_
  refine az_bk122 (pc := 7) C dX11_isSmall_7 ?_
  refine az_icmp_gt (pc := 9) (tgt := 16) C h dX11_isSmall_9 (by decide) (fun _ h => ?_) (fun _ h => ?_)
  · refine az_ik0 (pc := 16) C dX11_isSmall_16 ?_
    obtain rfl := Option.some.inj h
    exact az_zreturn (pc := 17) C (by decide) dX11_isSmall_17 rfl
  refine az_ik1 (pc := 12) C dX11_isSmall_12 ?_
  refine az_goto (pc := 13) (tgt := 17) C dX11_isSmall_13 (by decide) ?_
  obtain rfl := Option.some.inj h
  exact az_zreturn (pc := 17) C (by decide) dX11_isSmall_17 rfl
set_option maxRecDepth 10000 in
set_option maxHeartbeats 4000000 in
theorem A_X11_isSmall {l : Launch} {d : Nat} (hD : 1 ≤ d) {σ : az_Hp} {v0 : Int} {r : Int} (h : fz_X11_isSmall σ v0 = some r) : az_AC l yX11_isSmall cX11_isSmall 1 (some .boolean) d [(0, v0)] σ (some (0, r), σ) := az_AC.of mt_X11_isSmall rfl rfl rfl (fun Z hZ C => A_X11_isSmall_e C hD h)
