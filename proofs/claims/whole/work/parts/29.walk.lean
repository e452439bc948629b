theorem dX5_givenAt_0 : decode cX5_givenAt 0 = .ok (.iconst 0, 1) := by decide +kernel
theorem dX5_givenAt_1 : decode cX5_givenAt 1 = .ok (.istore_n 2, 1) := by decide +kernel
theorem dX5_givenAt_2 : decode cX5_givenAt 2 = .ok (.aload_n 0, 1) := by decide +kernel
theorem dX5_givenAt_3 : decode cX5_givenAt 3 = .ok (.getfield 20, 3) := by decide +kernel
theorem dX5_givenAt_6 : decode cX5_givenAt 6 = .ok (.ifCond .eq 43, 3) := by decide +kernel
theorem dX5_givenAt_9 : decode cX5_givenAt 9 = .ok (.iload_n 2, 1) := by decide +kernel
theorem dX5_givenAt_10 : decode cX5_givenAt 10 = .ok (.aload_n 0, 1) := by decide +kernel
theorem dX5_givenAt_11 : decode cX5_givenAt 11 = .ok (.getfield 68, 3) := by decide +kernel
theorem dX5_givenAt_14 : decode cX5_givenAt 14 = .ok (.getfield 141, 3) := by decide +kernel
theorem dX5_givenAt_17 : decode cX5_givenAt 17 = .ok (.if_icmp .ge 32, 3) := by decide +kernel
theorem dX5_givenAt_20 : decode cX5_givenAt 20 = .ok (.aload_n 0, 1) := by decide +kernel
theorem dX5_givenAt_21 : decode cX5_givenAt 21 = .ok (.getfield 14, 3) := by decide +kernel
theorem dX5_givenAt_24 : decode cX5_givenAt 24 = .ok (.iload_n 1, 1) := by decide +kernel
theorem dX5_givenAt_25 : decode cX5_givenAt 25 = .ok (.aload_n 0, 1) := by decide +kernel
theorem dX5_givenAt_26 : decode cX5_givenAt 26 = .ok (.getfield 68, 3) := by decide +kernel
theorem dX5_givenAt_29 : decode cX5_givenAt 29 = .ok (.getfield 146, 3) := by decide +kernel
theorem dX5_givenAt_32 : decode cX5_givenAt 32 = .ok (.iload_n 2, 1) := by decide +kernel
theorem dX5_givenAt_33 : decode cX5_givenAt 33 = .ok (.aaload, 1) := by decide +kernel
theorem dX5_givenAt_34 : decode cX5_givenAt 34 = .ok (.iconst 0, 1) := by decide +kernel
theorem dX5_givenAt_35 : decode cX5_givenAt 35 = .ok (.invokevirtual 83, 3) := by decide +kernel
theorem dX5_givenAt_38 : decode cX5_givenAt 38 = .ok (.ifCond .eq 5, 3) := by decide +kernel
theorem dX5_givenAt_41 : decode cX5_givenAt 41 = .ok (.iload_n 2, 1) := by decide +kernel
theorem dX5_givenAt_42 : decode cX5_givenAt 42 = .ok (.ireturn, 1) := by decide +kernel
theorem dX5_givenAt_43 : decode cX5_givenAt 43 = .ok (.iinc 2 1, 3) := by decide +kernel
theorem dX5_givenAt_46 : decode cX5_givenAt 46 = .ok (.goto (-44), 3) := by decide +kernel
theorem dX5_givenAt_49 : decode cX5_givenAt 49 = .ok (.iconst (-1), 1) := by decide +kernel
theorem dX5_givenAt_50 : decode cX5_givenAt 50 = .ok (.ireturn, 1) := by decide +kernel
set_option maxRecDepth 10000 in
set_option maxHeartbeats 4000000 in
theorem A_X5_givenAt_2 {Z : az_Z} {d : Nat} (C : az_C Z yX5_givenAt cX5_givenAt 3 (some .int) d) (hD : 2 ≤ d) (n : Nat) (k : Nat) : ∀ {σ : az_Hp} {v0 v1 v2 : Int} {r : Int}, fz_X5_givenAt_2 n k σ v0 v1 v2 = some r → az_AW Z 3 2 [(7, v0), (0, v1), (0, v2)] [] σ (some (0, r), σ) := by
  have hd1 : 1 ≤ d := by omega
  induction k with
  | zero => intro σ v0 v1 v2 r h; simp [fz_X5_givenAt_2] at h
  | succ k ih =>
    intro σ v0 v1 v2 r h
    unfold fz_X5_givenAt_2 at h
    refine az_al0 (pc := 2) C rfl rfl dX5_givenAt_2 ?_
    refine az_getI (pc := 3) C fl_X5_20 rfl dX5_givenAt_3 ?_
    refine az_if_eq (pc := 6) (tgt := 49) C h dX5_givenAt_6 (by decide) (fun _ h => ?_) (fun _ h => ?_)
    · refine az_ikm1 (pc := 49) C dX5_givenAt_49 ?_
      obtain rfl := Option.some.inj h
      exact az_ireturn (pc := 50) C dX5_givenAt_50 rfl
    refine az_il2 (pc := 9) C dX5_givenAt_9 ?_
    refine az_al0 (pc := 10) C rfl rfl dX5_givenAt_10 ?_
    refine az_getR (pc := 11) (c2 := 6) C h fl_X5_68 rfl rfl dX5_givenAt_11 (fun h => ?_)
    refine az_getI (pc := 14) C fl_X5_141 rfl dX5_givenAt_14 ?_
    refine az_icmp_ge (pc := 17) (tgt := 49) C h dX5_givenAt_17 (by decide) (fun _ h => ?_) (fun _ h => ?_)
    · refine az_ikm1 (pc := 49) C dX5_givenAt_49 ?_
      obtain rfl := Option.some.inj h
      exact az_ireturn (pc := 50) C dX5_givenAt_50 rfl
    refine az_al0 (pc := 20) C rfl rfl dX5_givenAt_20 ?_
    refine az_getR (pc := 21) (c2 := 7) C h fl_X5_14 rfl rfl dX5_givenAt_21 (fun h => ?_)
    refine az_il1 (pc := 24) C dX5_givenAt_24 ?_
    refine az_al0 (pc := 25) C rfl rfl dX5_givenAt_25 ?_
    refine az_getR (pc := 26) (c2 := 6) C h fl_X5_68 rfl rfl dX5_givenAt_26 (fun h => ?_)
    refine az_getR (pc := 29) (c2 := 16) C h fl_X5_146 rfl rfl dX5_givenAt_29 (fun h => ?_)
    refine az_il2 (pc := 32) C dX5_givenAt_32 ?_
    refine az_aaload (pc := 33) C h dX5_givenAt_33 (fun h => ?_)
    refine az_ik0 (pc := 34) C dX5_givenAt_34 ?_
    refine az_cV3pi (pc := 35) (c := 7) C hd1 h mv_X7_samePart ml_X5_83 rfl (fun x hx => A_X7_samePart (by omega) n hx) dX5_givenAt_35 (fun r6 h => ?_)
    refine az_if_eq (pc := 38) (tgt := 43) C h dX5_givenAt_38 (by decide) (fun _ h => ?_) (fun _ h => ?_)
    · refine az_ii2 (pc := 43) C az_n1 rfl rfl dX5_givenAt_43 ?_
      refine az_goto (pc := 46) (tgt := 2) C dX5_givenAt_46 (by decide) ?_
      exact (ih h)
    refine az_il2 (pc := 41) C dX5_givenAt_41 ?_
    obtain rfl := Option.some.inj h
    exact az_ireturn (pc := 42) C dX5_givenAt_42 rfl
set_option maxRecDepth 10000 in
set_option maxHeartbeats 4000000 in
theorem A_X5_givenAt_e {Z : az_Z} {d : Nat} (C : az_C Z yX5_givenAt cX5_givenAt 3 (some .int) d) (hD : 2 ≤ d) (n : Nat) {σ : az_Hp} {v0 v1 : Int} {r : Int} (h : fz_X5_givenAt n σ v0 v1 = some r) : az_AW Z 3 0 [(7, v0), (0, v1), (31, 0)] [] σ (some (0, r), σ) := by
  have hd1 : 1 ≤ d := by omega
  unfold fz_X5_givenAt at h
  refine az_ik0 (pc := 0) C dX5_givenAt_0 ?_
  refine az_is2 (pc := 1) C rfl rfl dX5_givenAt_1 ?_
  exact (A_X5_givenAt_2 C hD n n h)
set_option maxRecDepth 10000 in
set_option maxHeartbeats 4000000 in
theorem A_X5_givenAt {l : Launch} {d : Nat} (hD : 2 ≤ d) (n : Nat) {σ : az_Hp} {v0 v1 : Int} {r : Int} (h : fz_X5_givenAt n σ v0 v1 = some r) : az_AC l yX5_givenAt cX5_givenAt 3 (some .int) d [(7, v0), (0, v1)] σ (some (0, r), σ) := az_AC.of mt_X5_givenAt rfl rfl rfl (fun Z hZ C => A_X5_givenAt_e C hD n h)
theorem dX5_orderPlaces_0 : decode cX5_orderPlaces 0 = .ok (.iconst 0, 1) := by decide +kernel
theorem dX5_orderPlaces_1 : decode cX5_orderPlaces 1 = .ok (.istore_n 2, 1) := by decide +kernel
theorem dX5_orderPlaces_2 : decode cX5_orderPlaces 2 = .ok (.iconst 0, 1) := by decide +kernel
theorem dX5_orderPlaces_3 : decode cX5_orderPlaces 3 = .ok (.istore_n 3, 1) := by decide +kernel
theorem dX5_orderPlaces_4 : decode cX5_orderPlaces 4 = .ok (.iconst 0, 1) := by decide +kernel
theorem dX5_orderPlaces_5 : decode cX5_orderPlaces 5 = .ok (.istore 4, 2) := by decide +kernel
theorem dX5_orderPlaces_7 : decode cX5_orderPlaces 7 = .ok (.iload 4, 2) := by decide +kernel
theorem dX5_orderPlaces_9 : decode cX5_orderPlaces 9 = .ok (.aload_n 0, 1) := by decide +kernel
theorem dX5_orderPlaces_10 : decode cX5_orderPlaces 10 = .ok (.getfield 14, 3) := by decide +kernel
theorem dX5_orderPlaces_13 : decode cX5_orderPlaces 13 = .ok (.getfield 77, 3) := by decide +kernel
theorem dX5_orderPlaces_16 : decode cX5_orderPlaces 16 = .ok (.if_icmp .ge 119, 3) := by decide +kernel
theorem dX5_orderPlaces_19 : decode cX5_orderPlaces 19 = .ok (.iload_n 1, 1) := by decide +kernel
theorem dX5_orderPlaces_20 : decode cX5_orderPlaces 20 = .ok (.iconst 1, 1) := by decide +kernel
theorem dX5_orderPlaces_21 : decode cX5_orderPlaces 21 = .ok (.if_icmp .ne 15, 3) := by decide +kernel
theorem dX5_orderPlaces_24 : decode cX5_orderPlaces 24 = .ok (.aload_n 0, 1) := by decide +kernel
theorem dX5_orderPlaces_25 : decode cX5_orderPlaces 25 = .ok (.getfield 47, 3) := by decide +kernel
theorem dX5_orderPlaces_28 : decode cX5_orderPlaces 28 = .ok (.iload 4, 2) := by decide +kernel
theorem dX5_orderPlaces_30 : decode cX5_orderPlaces 30 = .ok (.iload 4, 2) := by decide +kernel
theorem dX5_orderPlaces_32 : decode cX5_orderPlaces 32 = .ok (.iastore, 1) := by decide +kernel
theorem dX5_orderPlaces_33 : decode cX5_orderPlaces 33 = .ok (.goto 96, 3) := by decide +kernel
theorem dX5_orderPlaces_36 : decode cX5_orderPlaces 36 = .ok (.aload_n 0, 1) := by decide +kernel
theorem dX5_orderPlaces_37 : decode cX5_orderPlaces 37 = .ok (.getfield 51, 3) := by decide +kernel
theorem dX5_orderPlaces_40 : decode cX5_orderPlaces 40 = .ok (.iload_n 3, 1) := by decide +kernel
theorem dX5_orderPlaces_41 : decode cX5_orderPlaces 41 = .ok (.iload 4, 2) := by decide +kernel
theorem dX5_orderPlaces_43 : decode cX5_orderPlaces 43 = .ok (.iastore, 1) := by decide +kernel
theorem dX5_orderPlaces_44 : decode cX5_orderPlaces 44 = .ok (.aload_n 0, 1) := by decide +kernel
theorem dX5_orderPlaces_45 : decode cX5_orderPlaces 45 = .ok (.getfield 54, 3) := by decide +kernel
theorem dX5_orderPlaces_48 : decode cX5_orderPlaces 48 = .ok (.iload_n 3, 1) := by decide +kernel
theorem dX5_orderPlaces_49 : decode cX5_orderPlaces 49 = .ok (.aload_n 0, 1) := by decide +kernel
theorem dX5_orderPlaces_50 : decode cX5_orderPlaces 50 = .ok (.getfield 14, 3) := by decide +kernel
theorem dX5_orderPlaces_53 : decode cX5_orderPlaces 53 = .ok (.getfield 80, 3) := by decide +kernel
theorem dX5_orderPlaces_56 : decode cX5_orderPlaces 56 = .ok (.iload 4, 2) := by decide +kernel
theorem dX5_orderPlaces_58 : decode cX5_orderPlaces 58 = .ok (.iaload, 1) := by decide +kernel
theorem dX5_orderPlaces_59 : decode cX5_orderPlaces 59 = .ok (.invokestatic 149, 3) := by decide +kernel
theorem dX5_orderPlaces_62 : decode cX5_orderPlaces 62 = .ok (.iastore, 1) := by decide +kernel
theorem dX5_orderPlaces_63 : decode cX5_orderPlaces 63 = .ok (.iinc 3 1, 3) := by decide +kernel
theorem dX5_orderPlaces_66 : decode cX5_orderPlaces 66 = .ok (.iload_n 3, 1) := by decide +kernel
theorem dX5_orderPlaces_67 : decode cX5_orderPlaces 67 = .ok (.iconst 1, 1) := by decide +kernel
theorem dX5_orderPlaces_68 : decode cX5_orderPlaces 68 = .ok (.isub, 1) := by decide +kernel
theorem dX5_orderPlaces_69 : decode cX5_orderPlaces 69 = .ok (.istore 5, 2) := by decide +kernel
theorem dX5_orderPlaces_71 : decode cX5_orderPlaces 71 = .ok (.iload 5, 2) := by decide +kernel
theorem dX5_orderPlaces_73 : decode cX5_orderPlaces 73 = .ok (.ifCond .lt 56, 3) := by decide +kernel
theorem dX5_orderPlaces_76 : decode cX5_orderPlaces 76 = .ok (.aload_n 0, 1) := by decide +kernel
theorem dX5_orderPlaces_77 : decode cX5_orderPlaces 77 = .ok (.getfield 54, 3) := by decide +kernel
theorem dX5_orderPlaces_80 : decode cX5_orderPlaces 80 = .ok (.iload 5, 2) := by decide +kernel
theorem dX5_orderPlaces_82 : decode cX5_orderPlaces 82 = .ok (.iaload, 1) := by decide +kernel
theorem dX5_orderPlaces_83 : decode cX5_orderPlaces 83 = .ok (.ifCond .ne 46, 3) := by decide +kernel
theorem dX5_orderPlaces_86 : decode cX5_orderPlaces 86 = .ok (.aload_n 0, 1) := by decide +kernel
theorem dX5_orderPlaces_87 : decode cX5_orderPlaces 87 = .ok (.getfield 47, 3) := by decide +kernel
theorem dX5_orderPlaces_90 : decode cX5_orderPlaces 90 = .ok (.iload_n 2, 1) := by decide +kernel
theorem dX5_orderPlaces_91 : decode cX5_orderPlaces 91 = .ok (.aload_n 0, 1) := by decide +kernel
theorem dX5_orderPlaces_92 : decode cX5_orderPlaces 92 = .ok (.getfield 51, 3) := by decide +kernel
theorem dX5_orderPlaces_95 : decode cX5_orderPlaces 95 = .ok (.iload 5, 2) := by decide +kernel
theorem dX5_orderPlaces_97 : decode cX5_orderPlaces 97 = .ok (.iaload, 1) := by decide +kernel
theorem dX5_orderPlaces_98 : decode cX5_orderPlaces 98 = .ok (.iastore, 1) := by decide +kernel
theorem dX5_orderPlaces_99 : decode cX5_orderPlaces 99 = .ok (.iinc 2 1, 3) := by decide +kernel
theorem dX5_orderPlaces_102 : decode cX5_orderPlaces 102 = .ok (.iload 5, 2) := by decide +kernel
theorem dX5_orderPlaces_104 : decode cX5_orderPlaces 104 = .ok (.istore_n 3, 1) := by decide +kernel
theorem dX5_orderPlaces_105 : decode cX5_orderPlaces 105 = .ok (.iload 5, 2) := by decide +kernel
theorem dX5_orderPlaces_107 : decode cX5_orderPlaces 107 = .ok (.ifCond .le 16, 3) := by decide +kernel
theorem dX5_orderPlaces_110 : decode cX5_orderPlaces 110 = .ok (.aload_n 0, 1) := by decide +kernel
theorem dX5_orderPlaces_111 : decode cX5_orderPlaces 111 = .ok (.getfield 54, 3) := by decide +kernel
theorem dX5_orderPlaces_114 : decode cX5_orderPlaces 114 = .ok (.iload 5, 2) := by decide +kernel
theorem dX5_orderPlaces_116 : decode cX5_orderPlaces 116 = .ok (.iconst 1, 1) := by decide +kernel
theorem dX5_orderPlaces_117 : decode cX5_orderPlaces 117 = .ok (.isub, 1) := by decide +kernel
theorem dX5_orderPlaces_118 : decode cX5_orderPlaces 118 = .ok (.dup2, 1) := by decide +kernel
theorem dX5_orderPlaces_119 : decode cX5_orderPlaces 119 = .ok (.iaload, 1) := by decide +kernel
theorem dX5_orderPlaces_120 : decode cX5_orderPlaces 120 = .ok (.iconst 1, 1) := by decide +kernel
theorem dX5_orderPlaces_121 : decode cX5_orderPlaces 121 = .ok (.isub, 1) := by decide +kernel
theorem dX5_orderPlaces_122 : decode cX5_orderPlaces 122 = .ok (.iastore, 1) := by decide +kernel
theorem dX5_orderPlaces_123 : decode cX5_orderPlaces 123 = .ok (.iinc 5 (-1), 3) := by decide +kernel
theorem dX5_orderPlaces_126 : decode cX5_orderPlaces 126 = .ok (.goto (-55), 3) := by decide +kernel
theorem dX5_orderPlaces_129 : decode cX5_orderPlaces 129 = .ok (.iinc 4 1, 3) := by decide +kernel
theorem dX5_orderPlaces_132 : decode cX5_orderPlaces 132 = .ok (.goto (-125), 3) := by decide +kernel
theorem dX5_orderPlaces_135 : decode cX5_orderPlaces 135 = .ok (.return_, 1) := by decide +kernel
set_option maxRecDepth 10000 in
set_option maxHeartbeats 4000000 in
theorem A_X5_orderPlaces_71 {Z : az_Z} {d : Nat} (C : az_C Z yX5_orderPlaces cX5_orderPlaces 6 none d) (hD : 2 ≤ d) (n : Nat) {k7 : az_Hp → Int → Int → Int → Int → Int → Option az_Hp} (hk7 : ∀ {σ : az_Hp} {v0 v1 v2 v3 v4 : Int} {r : az_Hp}, k7 σ v0 v1 v2 v3 v4 = some r → az_AW Z 6 7 [(7, v0), (0, v1), (0, v2), (0, v3), (0, v4), (31, 0)] [] σ (none, r)) (k : Nat) : ∀ {σ : az_Hp} {v0 v1 v2 v3 v4 v5 : Int} {r : az_Hp}, fz_X5_orderPlaces_71 n k7 k σ v0 v1 v2 v3 v4 v5 = some r → az_AW Z 6 71 [(7, v0), (0, v1), (0, v2), (0, v3), (0, v4), (0, v5)] [] σ (none, r) := by
  have hd1 : 1 ≤ d := by omega
  induction k with
  | zero => intro σ v0 v1 v2 v3 v4 v5 r h; simp [fz_X5_orderPlaces_71] at h
  | succ k ih =>
    intro σ v0 v1 v2 v3 v4 v5 r h
    unfold fz_X5_orderPlaces_71 at h
    refine az_il5 (pc := 71) C dX5_orderPlaces_71 ?_
    refine az_if_lt (pc := 73) (tgt := 129) C h dX5_orderPlaces_73 (by decide) (fun _ h => ?_) (fun _ h => ?_)
    · refine az_ii4 (pc := 129) C az_n1 rfl rfl dX5_orderPlaces_129 ?_
      refine az_goto (pc := 132) (tgt := 7) C dX5_orderPlaces_132 (by decide) ?_
      exact (az_wkk (hk7 h) (az_sE (az_sE (az_sE (az_sE (az_sE (az_sJ az_sN)))))))
    refine az_al0 (pc := 76) C rfl rfl dX5_orderPlaces_76 ?_
    refine az_getR (pc := 77) (c2 := 13) C h fl_X5_54 rfl rfl dX5_orderPlaces_77 (fun h => ?_)
    refine az_il5 (pc := 80) C dX5_orderPlaces_80 ?_
    refine az_iaload (pc := 82) C h dX5_orderPlaces_82 (fun h => ?_)
    refine az_if_ne (pc := 83) (tgt := 129) C h dX5_orderPlaces_83 (by decide) (fun _ h => ?_) (fun _ h => ?_)
    · refine az_ii4 (pc := 129) C az_n1 rfl rfl dX5_orderPlaces_129 ?_
      refine az_goto (pc := 132) (tgt := 7) C dX5_orderPlaces_132 (by decide) ?_
      exact (az_wkk (hk7 h) (az_sE (az_sE (az_sE (az_sE (az_sE (az_sJ az_sN)))))))
    refine az_al0 (pc := 86) C rfl rfl dX5_orderPlaces_86 ?_
    refine az_getR (pc := 87) (c2 := 13) C h fl_X5_47 rfl rfl dX5_orderPlaces_87 (fun h => ?_)
    refine az_il2 (pc := 90) C dX5_orderPlaces_90 ?_
    refine az_al0 (pc := 91) C rfl rfl dX5_orderPlaces_91 ?_
    refine az_getR (pc := 92) (c2 := 13) C h fl_X5_51 rfl rfl dX5_orderPlaces_92 (fun h => ?_)
    refine az_il5 (pc := 95) C dX5_orderPlaces_95 ?_
    refine az_iaload (pc := 97) C h dX5_orderPlaces_97 (fun h => ?_)
    refine az_iastore (pc := 98) C h dX5_orderPlaces_98 (fun h => ?_)
    refine az_ii2 (pc := 99) C az_n1 rfl rfl dX5_orderPlaces_99 ?_
    refine az_il5 (pc := 102) C dX5_orderPlaces_102 ?_
    refine az_is3 (pc := 104) C rfl rfl dX5_orderPlaces_104 ?_
    refine az_il5 (pc := 105) C dX5_orderPlaces_105 ?_
    refine az_if_le (pc := 107) (tgt := 123) C h dX5_orderPlaces_107 (by decide) (fun _ h => ?_) (fun _ h => ?_)
    · refine az_ii5 (pc := 123) C az_nm1 rfl rfl dX5_orderPlaces_123 ?_
      refine az_goto (pc := 126) (tgt := 71) C dX5_orderPlaces_126 (by decide) ?_
      exact (ih h)
    refine az_al0 (pc := 110) C rfl rfl dX5_orderPlaces_110 ?_
    refine az_getR (pc := 111) (c2 := 13) C h fl_X5_54 rfl rfl dX5_orderPlaces_111 (fun h => ?_)
    refine az_il5 (pc := 114) C dX5_orderPlaces_114 ?_
    refine az_ik1 (pc := 116) C dX5_orderPlaces_116 ?_
    refine az_isub (pc := 117) C dX5_orderPlaces_117 ?_
    refine az_dup2 (pc := 118) C rfl rfl rfl rfl dX5_orderPlaces_118 ?_
    refine az_iaload (pc := 119) C h dX5_orderPlaces_119 (fun h => ?_)
    refine az_ik1 (pc := 120) C dX5_orderPlaces_120 ?_
    refine az_isub (pc := 121) C dX5_orderPlaces_121 ?_
    refine az_iastore (pc := 122) C h dX5_orderPlaces_122 (fun h => ?_)
    refine az_ii5 (pc := 123) C az_nm1 rfl rfl dX5_orderPlaces_123 ?_
    refine az_goto (pc := 126) (tgt := 71) C dX5_orderPlaces_126 (by decide) ?_
    exact (ih h)
set_option maxRecDepth 10000 in
set_option maxHeartbeats 4000000 in
theorem A_X5_orderPlaces_7 {Z : az_Z} {d : Nat} (C : az_C Z yX5_orderPlaces cX5_orderPlaces 6 none d) (hD : 2 ≤ d) (n : Nat) (k : Nat) : ∀ {σ : az_Hp} {v0 v1 v2 v3 v4 : Int} {r : az_Hp}, fz_X5_orderPlaces_7 n k σ v0 v1 v2 v3 v4 = some r → az_AW Z 6 7 [(7, v0), (0, v1), (0, v2), (0, v3), (0, v4), (31, 0)] [] σ (none, r) := by
  have hd1 : 1 ≤ d := by omega
  induction k with
  | zero => intro σ v0 v1 v2 v3 v4 r h; simp [fz_X5_orderPlaces_7] at h
  | succ k ih =>
    intro σ v0 v1 v2 v3 v4 r h
    unfold fz_X5_orderPlaces_7 at h
    refine az_il4 (pc := 7) C dX5_orderPlaces_7 ?_
    refine az_al0 (pc := 9) C rfl rfl dX5_orderPlaces_9 ?_
    refine az_getR (pc := 10) (c2 := 7) C h fl_X5_14 rfl rfl dX5_orderPlaces_10 (fun h => ?_)
    refine az_getI (pc := 13) C fl_X5_77 rfl dX5_orderPlaces_13 ?_
    refine az_icmp_ge (pc := 16) (tgt := 135) C h dX5_orderPlaces_16 (by decide) (fun _ h => ?_) (fun _ h => ?_)
    · obtain rfl := Option.some.inj h
      exact az_return (pc := 135) C dX5_orderPlaces_135 rfl
    refine az_il1 (pc := 19) C dX5_orderPlaces_19 ?_
    refine az_ik1 (pc := 20) C dX5_orderPlaces_20 ?_
    refine az_icmp_ne (pc := 21) (tgt := 36) C h dX5_orderPlaces_21 (by decide) (fun _ h => ?_) (fun _ h => ?_)
    · refine az_al0 (pc := 36) C rfl rfl dX5_orderPlaces_36 ?_
      refine az_getR (pc := 37) (c2 := 13) C h fl_X5_51 rfl rfl dX5_orderPlaces_37 (fun h => ?_)
      refine az_il3 (pc := 40) C dX5_orderPlaces_40 ?_
      refine az_il4 (pc := 41) C dX5_orderPlaces_41 ?_
      refine az_iastore (pc := 43) C h dX5_orderPlaces_43 (fun h => ?_)
      refine az_al0 (pc := 44) C rfl rfl dX5_orderPlaces_44 ?_
      refine az_getR (pc := 45) (c2 := 13) C h fl_X5_54 rfl rfl dX5_orderPlaces_45 (fun h => ?_)
      refine az_il3 (pc := 48) C dX5_orderPlaces_48 ?_
      refine az_al0 (pc := 49) C rfl rfl dX5_orderPlaces_49 ?_
      refine az_getR (pc := 50) (c2 := 7) C h fl_X5_14 rfl rfl dX5_orderPlaces_50 (fun h => ?_)
      refine az_getR (pc := 53) (c2 := 13) C h fl_X5_80 rfl rfl dX5_orderPlaces_53 (fun h => ?_)
      refine az_il4 (pc := 56) C dX5_orderPlaces_56 ?_
      refine az_iaload (pc := 58) C h dX5_orderPlaces_58 (fun h => ?_)
      refine az_cS1pi (pc := 59) C hd1 h ms_X7_arity ml_X5_149 rfl (fun x hx => A_X7_arity (by omega) hx) dX5_orderPlaces_59 (fun r8 h => ?_)
      refine az_iastore (pc := 62) C h dX5_orderPlaces_62 (fun h => ?_)
      refine az_ii3 (pc := 63) C az_n1 rfl rfl dX5_orderPlaces_63 ?_
      refine az_il3 (pc := 66) C dX5_orderPlaces_66 ?_
      refine az_ik1 (pc := 67) C dX5_orderPlaces_67 ?_
      refine az_isub (pc := 68) C dX5_orderPlaces_68 ?_
      refine az_is5 (pc := 69) C rfl rfl dX5_orderPlaces_69 ?_
      exact (A_X5_orderPlaces_71 C hD n (fun h => ih h) n h)
    refine az_al0 (pc := 24) C rfl rfl dX5_orderPlaces_24 ?_
    refine az_getR (pc := 25) (c2 := 13) C h fl_X5_47 rfl rfl dX5_orderPlaces_25 (fun h => ?_)
    refine az_il4 (pc := 28) C dX5_orderPlaces_28 ?_
    refine az_il4 (pc := 30) C dX5_orderPlaces_30 ?_
    refine az_iastore (pc := 32) C h dX5_orderPlaces_32 (fun h => ?_)
    refine az_goto (pc := 33) (tgt := 129) C dX5_orderPlaces_33 (by decide) ?_
    refine az_ii4 (pc := 129) C az_n1 rfl rfl dX5_orderPlaces_129 ?_
    refine az_goto (pc := 132) (tgt := 7) C dX5_orderPlaces_132 (by decide) ?_
    exact (ih h)
set_option maxRecDepth 10000 in
set_option maxHeartbeats 4000000 in
theorem A_X5_orderPlaces_e {Z : az_Z} {d : Nat} (C : az_C Z yX5_orderPlaces cX5_orderPlaces 6 none d) (hD : 2 ≤ d) (n : Nat) {σ : az_Hp} {v0 v1 : Int} {r : az_Hp} (h : fz_X5_orderPlaces n σ v0 v1 = some r) : az_AW Z 6 0 [(7, v0), (0, v1), (31, 0), (31, 0), (31, 0), (31, 0)] [] σ (none, r) := by
  have hd1 : 1 ≤ d := by omega
  unfold fz_X5_orderPlaces at h
  refine az_ik0 (pc := 0) C dX5_orderPlaces_0 ?_
  refine az_is2 (pc := 1) C rfl rfl dX5_orderPlaces_1 ?_
  refine az_ik0 (pc := 2) C dX5_orderPlaces_2 ?_
  refine az_is3 (pc := 3) C rfl rfl dX5_orderPlaces_3 ?_
  refine az_ik0 (pc := 4) C dX5_orderPlaces_4 ?_
  refine az_is4 (pc := 5) C rfl rfl dX5_orderPlaces_5 ?_
  exact (A_X5_orderPlaces_7 C hD n n h)
set_option maxRecDepth 10000 in
set_option maxHeartbeats 4000000 in
theorem A_X5_orderPlaces {l : Launch} {d : Nat} (hD : 2 ≤ d) (n : Nat) {σ : az_Hp} {v0 v1 : Int} {r : az_Hp} (h : fz_X5_orderPlaces n σ v0 v1 = some r) : az_AC l yX5_orderPlaces cX5_orderPlaces 6 none d [(7, v0), (0, v1)] σ (none, r) := az_AC.of mt_X5_orderPlaces rfl rfl rfl (fun Z hZ C => A_X5_orderPlaces_e C hD n h)
theorem dX5_findPlace_0 : decode cX5_findPlace 0 = .ok (.aload_n 0, 1) := by decide +kernel
theorem dX5_findPlace_1 : decode cX5_findPlace 1 = .ok (.iload_n 1, 1) := by decide +kernel
theorem dX5_findPlace_2 : decode cX5_findPlace 2 = .ok (.invokevirtual 132, 3) := by decide +kernel
theorem dX5_findPlace_5 : decode cX5_findPlace 5 = .ok (.iconst 0, 1) := by decide +kernel
theorem dX5_findPlace_6 : decode cX5_findPlace 6 = .ok (.istore_n 2, 1) := by decide +kernel
theorem dX5_findPlace_7 : decode cX5_findPlace 7 = .ok (.iload_n 2, 1) := by decide +kernel
theorem dX5_findPlace_8 : decode cX5_findPlace 8 = .ok (.aload_n 0, 1) := by decide +kernel
theorem dX5_findPlace_9 : decode cX5_findPlace 9 = .ok (.getfield 14, 3) := by decide +kernel
theorem dX5_findPlace_12 : decode cX5_findPlace 12 = .ok (.getfield 77, 3) := by decide +kernel
theorem dX5_findPlace_15 : decode cX5_findPlace 15 = .ok (.if_icmp .ge 100, 3) := by decide +kernel
theorem dX5_findPlace_18 : decode cX5_findPlace 18 = .ok (.aload_n 0, 1) := by decide +kernel
theorem dX5_findPlace_19 : decode cX5_findPlace 19 = .ok (.aload_n 0, 1) := by decide +kernel
theorem dX5_findPlace_20 : decode cX5_findPlace 20 = .ok (.getfield 47, 3) := by decide +kernel
theorem dX5_findPlace_23 : decode cX5_findPlace 23 = .ok (.iload_n 2, 1) := by decide +kernel
theorem dX5_findPlace_24 : decode cX5_findPlace 24 = .ok (.iaload, 1) := by decide +kernel
theorem dX5_findPlace_25 : decode cX5_findPlace 25 = .ok (.putfield 34, 3) := by decide +kernel
theorem dX5_findPlace_28 : decode cX5_findPlace 28 = .ok (.aload_n 0, 1) := by decide +kernel
theorem dX5_findPlace_29 : decode cX5_findPlace 29 = .ok (.getfield 14, 3) := by decide +kernel
theorem dX5_findPlace_32 : decode cX5_findPlace 32 = .ok (.getfield 80, 3) := by decide +kernel
theorem dX5_findPlace_35 : decode cX5_findPlace 35 = .ok (.aload_n 0, 1) := by decide +kernel
theorem dX5_findPlace_36 : decode cX5_findPlace 36 = .ok (.getfield 34, 3) := by decide +kernel
theorem dX5_findPlace_39 : decode cX5_findPlace 39 = .ok (.iaload, 1) := by decide +kernel
theorem dX5_findPlace_40 : decode cX5_findPlace 40 = .ok (.invokestatic 135, 3) := by decide +kernel
theorem dX5_findPlace_43 : decode cX5_findPlace 43 = .ok (.iconst 2, 1) := by decide +kernel
theorem dX5_findPlace_44 : decode cX5_findPlace 44 = .ok (.if_icmp .eq 6, 3) := by decide +kernel
theorem dX5_findPlace_47 : decode cX5_findPlace 47 = .ok (.goto 62, 3) := by decide +kernel
theorem dX5_findPlace_50 : decode cX5_findPlace 50 = .ok (.aload_n 0, 1) := by decide +kernel
theorem dX5_findPlace_51 : decode cX5_findPlace 51 = .ok (.iconst (-1), 1) := by decide +kernel
theorem dX5_findPlace_52 : decode cX5_findPlace 52 = .ok (.putfield 24, 3) := by decide +kernel
theorem dX5_findPlace_55 : decode cX5_findPlace 55 = .ok (.aload_n 0, 1) := by decide +kernel
theorem dX5_findPlace_56 : decode cX5_findPlace 56 = .ok (.aload_n 0, 1) := by decide +kernel
theorem dX5_findPlace_57 : decode cX5_findPlace 57 = .ok (.aload_n 0, 1) := by decide +kernel
theorem dX5_findPlace_58 : decode cX5_findPlace 58 = .ok (.getfield 34, 3) := by decide +kernel
theorem dX5_findPlace_61 : decode cX5_findPlace 61 = .ok (.invokevirtual 138, 3) := by decide +kernel
theorem dX5_findPlace_64 : decode cX5_findPlace 64 = .ok (.putfield 37, 3) := by decide +kernel
theorem dX5_findPlace_67 : decode cX5_findPlace 67 = .ok (.aload_n 0, 1) := by decide +kernel
theorem dX5_findPlace_68 : decode cX5_findPlace 68 = .ok (.getfield 37, 3) := by decide +kernel
theorem dX5_findPlace_71 : decode cX5_findPlace 71 = .ok (.iconst (-1), 1) := by decide +kernel
theorem dX5_findPlace_72 : decode cX5_findPlace 72 = .ok (.if_icmp .ne 19, 3) := by decide +kernel
theorem dX5_findPlace_75 : decode cX5_findPlace 75 = .ok (.aload_n 0, 1) := by decide +kernel
theorem dX5_findPlace_76 : decode cX5_findPlace 76 = .ok (.aload_n 0, 1) := by decide +kernel
theorem dX5_findPlace_77 : decode cX5_findPlace 77 = .ok (.aload_n 0, 1) := by decide +kernel
theorem dX5_findPlace_78 : decode cX5_findPlace 78 = .ok (.getfield 14, 3) := by decide +kernel
theorem dX5_findPlace_81 : decode cX5_findPlace 81 = .ok (.aload_n 0, 1) := by decide +kernel
theorem dX5_findPlace_82 : decode cX5_findPlace 82 = .ok (.getfield 34, 3) := by decide +kernel
theorem dX5_findPlace_85 : decode cX5_findPlace 85 = .ok (.invokevirtual 128, 3) := by decide +kernel
theorem dX5_findPlace_88 : decode cX5_findPlace 88 = .ok (.putfield 24, 3) := by decide +kernel
theorem dX5_findPlace_91 : decode cX5_findPlace 91 = .ok (.aload_n 0, 1) := by decide +kernel
theorem dX5_findPlace_92 : decode cX5_findPlace 92 = .ok (.getfield 37, 3) := by decide +kernel
theorem dX5_findPlace_95 : decode cX5_findPlace 95 = .ok (.iconst (-1), 1) := by decide +kernel
theorem dX5_findPlace_96 : decode cX5_findPlace 96 = .ok (.if_icmp .ne 11, 3) := by decide +kernel
theorem dX5_findPlace_99 : decode cX5_findPlace 99 = .ok (.aload_n 0, 1) := by decide +kernel
theorem dX5_findPlace_100 : decode cX5_findPlace 100 = .ok (.getfield 24, 3) := by decide +kernel
theorem dX5_findPlace_103 : decode cX5_findPlace 103 = .ok (.iconst (-1), 1) := by decide +kernel
theorem dX5_findPlace_104 : decode cX5_findPlace 104 = .ok (.if_icmp .eq 5, 3) := by decide +kernel
theorem dX5_findPlace_107 : decode cX5_findPlace 107 = .ok (.iconst 1, 1) := by decide +kernel
theorem dX5_findPlace_108 : decode cX5_findPlace 108 = .ok (.ireturn, 1) := by decide +kernel
theorem dX5_findPlace_109 : decode cX5_findPlace 109 = .ok (.iinc 2 1, 3) := by decide +kernel
theorem dX5_findPlace_112 : decode cX5_findPlace 112 = .ok (.goto (-105), 3) := by decide +kernel
theorem dX5_findPlace_115 : decode cX5_findPlace 115 = .ok (.iconst 0, 1) := by decide +kernel
theorem dX5_findPlace_116 : decode cX5_findPlace 116 = .ok (.ireturn, 1) := by decide +kernel
set_option maxRecDepth 10000 in
set_option maxHeartbeats 4000000 in
theorem A_X5_findPlace_91 {Z : az_Z} {d : Nat} (C : az_C Z yX5_findPlace cX5_findPlace 3 (some .boolean) d) (hD : 5 ≤ d) (n : Nat) {k7 : az_Hp → Int → Int → Option (Int × az_Hp)} (hk7 : ∀ {σ : az_Hp} {v0 v2 : Int} {r : (Int × az_Hp)}, k7 σ v0 v2 = some r → az_AW Z 3 7 [(7, v0), (31, 0), (0, v2)] [] σ (some (0, r.1), r.2)) {σ : az_Hp} {v0 v2 : Int} {r : (Int × az_Hp)} (h : fz_X5_findPlace_91 n k7 σ v0 v2 = some r) : az_AW Z 3 91 [(7, v0), (31, 0), (0, v2)] [] σ (some (0, r.1), r.2) := by
  have hd1 : 1 ≤ d := by omega
  unfold fz_X5_findPlace_91 at h
  refine az_al0 (pc := 91) C rfl rfl dX5_findPlace_91 ?_
  refine az_getI (pc := 92) C fl_X5_37 rfl dX5_findPlace_92 ?_
  refine az_ikm1 (pc := 95) C dX5_findPlace_95 ?_
  refine az_icmp_ne (pc := 96) (tgt := 107) C h dX5_findPlace_96 (by decide) (fun _ h => ?_) (fun _ h => ?_)
  · refine az_ik1 (pc := 107) C dX5_findPlace_107 ?_
    obtain rfl := Option.some.inj h
    exact az_zreturn (pc := 108) C (by decide) dX5_findPlace_108 rfl
  refine az_al0 (pc := 99) C rfl rfl dX5_findPlace_99 ?_
  refine az_getI (pc := 100) C fl_X5_24 rfl dX5_findPlace_100 ?_
  refine az_ikm1 (pc := 103) C dX5_findPlace_103 ?_
  refine az_icmp_eq (pc := 104) (tgt := 109) C h dX5_findPlace_104 (by decide) (fun _ h => ?_) (fun _ h => ?_)
  · refine az_ii2 (pc := 109) C az_n1 rfl rfl dX5_findPlace_109 ?_
    refine az_goto (pc := 112) (tgt := 7) C dX5_findPlace_112 (by decide) ?_
    exact (hk7 h)
  refine az_ik1 (pc := 107) C dX5_findPlace_107 ?_
  obtain rfl := Option.some.inj h
  exact az_zreturn (pc := 108) C (by decide) dX5_findPlace_108 rfl
set_option maxRecDepth 10000 in
set_option maxHeartbeats 4000000 in
theorem A_X5_findPlace_7 {Z : az_Z} {d : Nat} (C : az_C Z yX5_findPlace cX5_findPlace 3 (some .boolean) d) (hD : 5 ≤ d) (n : Nat) (k : Nat) : ∀ {σ : az_Hp} {v0 v2 : Int} {r : (Int × az_Hp)}, fz_X5_findPlace_7 n k σ v0 v2 = some r → az_AW Z 3 7 [(7, v0), (31, 0), (0, v2)] [] σ (some (0, r.1), r.2) := by
  have hd1 : 1 ≤ d := by omega
  induction k with
  | zero => intro σ v0 v2 r h; simp [fz_X5_findPlace_7] at h
  | succ k ih =>
    intro σ v0 v2 r h
    unfold fz_X5_findPlace_7 at h
    refine az_il2 (pc := 7) C dX5_findPlace_7 ?_
    refine az_al0 (pc := 8) C rfl rfl dX5_findPlace_8 ?_
    refine az_getR (pc := 9) (c2 := 7) C h fl_X5_14 rfl rfl dX5_findPlace_9 (fun h => ?_)
    refine az_getI (pc := 12) C fl_X5_77 rfl dX5_findPlace_12 ?_
    refine az_icmp_ge (pc := 15) (tgt := 115) C h dX5_findPlace_15 (by decide) (fun _ h => ?_) (fun _ h => ?_)
    · refine az_ik0 (pc := 115) C dX5_findPlace_115 ?_
      obtain rfl := Option.some.inj h
      exact az_zreturn (pc := 116) C (by decide) dX5_findPlace_116 rfl
    refine az_al0 (pc := 18) C rfl rfl dX5_findPlace_18 ?_
    refine az_al0 (pc := 19) C rfl rfl dX5_findPlace_19 ?_
    refine az_getR (pc := 20) (c2 := 13) C h fl_X5_47 rfl rfl dX5_findPlace_20 (fun h => ?_)
    refine az_il2 (pc := 23) C dX5_findPlace_23 ?_
    refine az_iaload (pc := 24) C h dX5_findPlace_24 (fun h => ?_)
    refine az_putI (pc := 25) C fl_X5_34 (Or.inl rfl) rfl dX5_findPlace_25 ?_
    refine az_al0 (pc := 28) C rfl rfl dX5_findPlace_28 ?_
    refine az_getR (pc := 29) (c2 := 7) C h fl_X5_14 rfl rfl dX5_findPlace_29 (fun h => ?_)
    refine az_getR (pc := 32) (c2 := 13) C h fl_X5_80 rfl rfl dX5_findPlace_32 (fun h => ?_)
    refine az_al0 (pc := 35) C rfl rfl dX5_findPlace_35 ?_
    refine az_getI (pc := 36) C fl_X5_34 rfl dX5_findPlace_36 ?_
    refine az_iaload (pc := 39) C h dX5_findPlace_39 (fun h => ?_)
    refine az_cS1pi (pc := 40) C hd1 h ms_X7_kind ml_X5_135 rfl (fun x hx => A_X7_kind (by omega) hx) dX5_findPlace_40 (fun r7 h => ?_)
    refine az_ik2 (pc := 43) C dX5_findPlace_43 ?_
    refine az_icmp_eq (pc := 44) (tgt := 50) C h dX5_findPlace_44 (by decide) (fun _ h => ?_) (fun _ h => ?_)
    · refine az_al0 (pc := 50) C rfl rfl dX5_findPlace_50 ?_
      refine az_ikm1 (pc := 51) C dX5_findPlace_51 ?_
      refine az_putI (pc := 52) C fl_X5_24 (Or.inl rfl) rfl dX5_findPlace_52 ?_
      refine az_al0 (pc := 55) C rfl rfl dX5_findPlace_55 ?_
      refine az_al0 (pc := 56) C rfl rfl dX5_findPlace_56 ?_
      refine az_al0 (pc := 57) C rfl rfl dX5_findPlace_57 ?_
      refine az_getI (pc := 58) C fl_X5_34 rfl dX5_findPlace_58 ?_
      refine az_cV1pi (pc := 61) (c := 5) C hd1 h mv_X5_givenAt ml_X5_138 rfl (fun x hx => A_X5_givenAt (by omega) n hx) dX5_findPlace_61 (fun r8 h => ?_)
      refine az_putI (pc := 64) C fl_X5_37 (Or.inl rfl) rfl dX5_findPlace_64 ?_
      refine az_al0 (pc := 67) C rfl rfl dX5_findPlace_67 ?_
      refine az_getI (pc := 68) C fl_X5_37 rfl dX5_findPlace_68 ?_
      refine az_ikm1 (pc := 71) C dX5_findPlace_71 ?_
      refine az_icmp_ne (pc := 72) (tgt := 91) C h dX5_findPlace_72 (by decide) (fun _ h => ?_) (fun _ h => ?_)
      · exact (A_X5_findPlace_91 C hD n (fun h => ih h) h)
      refine az_al0 (pc := 75) C rfl rfl dX5_findPlace_75 ?_
      refine az_al0 (pc := 76) C rfl rfl dX5_findPlace_76 ?_
      refine az_al0 (pc := 77) C rfl rfl dX5_findPlace_77 ?_
      refine az_getR (pc := 78) (c2 := 7) C h fl_X5_14 rfl rfl dX5_findPlace_78 (fun h => ?_)
      refine az_al0 (pc := 81) C rfl rfl dX5_findPlace_81 ?_
      refine az_getI (pc := 82) C fl_X5_34 rfl dX5_findPlace_82 ?_
      refine az_cV2ii (pc := 85) (c := 5) C hd1 h mv_X5_firingAt ml_X5_128 rfl (fun x hx => A_X5_firingAt (by omega) n hx) dX5_findPlace_85 (fun r10 h => ?_)
      refine az_putI (pc := 88) C fl_X5_24 (Or.inl rfl) rfl dX5_findPlace_88 ?_
      exact (A_X5_findPlace_91 C hD n (fun h => ih h) h)
    refine az_goto (pc := 47) (tgt := 109) C dX5_findPlace_47 (by decide) ?_
    refine az_ii2 (pc := 109) C az_n1 rfl rfl dX5_findPlace_109 ?_
    refine az_goto (pc := 112) (tgt := 7) C dX5_findPlace_112 (by decide) ?_
    exact (ih h)
set_option maxRecDepth 10000 in
set_option maxHeartbeats 4000000 in
theorem A_X5_findPlace_e {Z : az_Z} {d : Nat} (C : az_C Z yX5_findPlace cX5_findPlace 3 (some .boolean) d) (hD : 5 ≤ d) (n : Nat) {σ : az_Hp} {v0 v1 : Int} {r : (Int × az_Hp)} (h : fz_X5_findPlace n σ v0 v1 = some r) : az_AW Z 3 0 [(7, v0), (0, v1), (31, 0)] [] σ (some (0, r.1), r.2) := by
  have hd1 : 1 ≤ d := by omega
  unfold fz_X5_findPlace at h
  refine az_al0 (pc := 0) C rfl rfl dX5_findPlace_0 ?_
  refine az_il1 (pc := 1) C dX5_findPlace_1 ?_
  refine az_cV1v (pc := 2) (c := 5) C hd1 h mv_X5_orderPlaces ml_X5_132 rfl (fun x hx => A_X5_orderPlaces (by omega) n hx) dX5_findPlace_2 (fun r1 h => ?_)
  refine az_ik0 (pc := 5) C dX5_findPlace_5 ?_
  refine az_is2 (pc := 6) C rfl rfl dX5_findPlace_6 ?_
  exact (az_wkk (A_X5_findPlace_7 C hD n n h) (az_sE (az_sJ (az_sE az_sN))))
set_option maxRecDepth 10000 in
set_option maxHeartbeats 4000000 in
theorem A_X5_findPlace {l : Launch} {d : Nat} (hD : 5 ≤ d) (n : Nat) {σ : az_Hp} {v0 v1 : Int} {r : (Int × az_Hp)} (h : fz_X5_findPlace n σ v0 v1 = some r) : az_AC l yX5_findPlace cX5_findPlace 3 (some .boolean) d [(7, v0), (0, v1)] σ (some (0, r.1), r.2) := az_AC.of mt_X5_findPlace rfl rfl rfl (fun Z hZ C => A_X5_findPlace_e C hD n h)
theorem dX7_addPart_0 : decode cX7_addPart 0 = .ok (.iload_n 3, 1) := by decide +kernel
theorem dX7_addPart_1 : decode cX7_addPart 1 = .ok (.iload_n 2, 1) := by decide +kernel
theorem dX7_addPart_2 : decode cX7_addPart 2 = .ok (.isub, 1) := by decide +kernel
theorem dX7_addPart_3 : decode cX7_addPart 3 = .ok (.istore 4, 2) := by decide +kernel
theorem dX7_addPart_5 : decode cX7_addPart 5 = .ok (.iload_n 2, 1) := by decide +kernel
theorem dX7_addPart_6 : decode cX7_addPart 6 = .ok (.ifCond .lt 31, 3) := by decide +kernel
theorem dX7_addPart_9 : decode cX7_addPart 9 = .ok (.iload 4, 2) := by decide +kernel
theorem dX7_addPart_11 : decode cX7_addPart 11 = .ok (.ifCond .lt 26, 3) := by decide +kernel
theorem dX7_addPart_14 : decode cX7_addPart 14 = .ok (.iload_n 3, 1) := by decide +kernel
theorem dX7_addPart_15 : decode cX7_addPart 15 = .ok (.aload_n 1, 1) := by decide +kernel
theorem dX7_addPart_16 : decode cX7_addPart 16 = .ok (.getfield 9, 3) := by decide +kernel
theorem dX7_addPart_19 : decode cX7_addPart 19 = .ok (.if_icmp .gt 18, 3) := by decide +kernel
theorem dX7_addPart_22 : decode cX7_addPart 22 = .ok (.aload_n 0, 1) := by decide +kernel
theorem dX7_addPart_23 : decode cX7_addPart 23 = .ok (.getfield 9, 3) := by decide +kernel
theorem dX7_addPart_26 : decode cX7_addPart 26 = .ok (.iload 4, 2) := by decide +kernel
theorem dX7_addPart_28 : decode cX7_addPart 28 = .ok (.iadd, 1) := by decide +kernel
theorem dX7_addPart_29 : decode cX7_addPart 29 = .ok (.aload_n 0, 1) := by decide +kernel
theorem dX7_addPart_30 : decode cX7_addPart 30 = .ok (.getfield 21, 3) := by decide +kernel
theorem dX7_addPart_33 : decode cX7_addPart 33 = .ok (.arraylength, 1) := by decide +kernel
theorem dX7_addPart_34 : decode cX7_addPart 34 = .ok (.if_icmp .le 5, 3) := by decide +kernel
theorem dX7_addPart_37 : decode cX7_addPart 37 = .ok (.iconst 0, 1) := by decide +kernel
theorem dX7_addPart_38 : decode cX7_addPart 38 = .ok (.ireturn, 1) := by decide +kernel
theorem dX7_addPart_39 : decode cX7_addPart 39 = .ok (.aload_n 1, 1) := by decide +kernel
theorem dX7_addPart_40 : decode cX7_addPart 40 = .ok (.getfield 21, 3) := by decide +kernel
theorem dX7_addPart_43 : decode cX7_addPart 43 = .ok (.iload_n 2, 1) := by decide +kernel
theorem dX7_addPart_44 : decode cX7_addPart 44 = .ok (.aload_n 0, 1) := by decide +kernel
theorem dX7_addPart_45 : decode cX7_addPart 45 = .ok (.getfield 21, 3) := by decide +kernel
theorem dX7_addPart_48 : decode cX7_addPart 48 = .ok (.aload_n 0, 1) := by decide +kernel
theorem dX7_addPart_49 : decode cX7_addPart 49 = .ok (.getfield 9, 3) := by decide +kernel
theorem dX7_addPart_52 : decode cX7_addPart 52 = .ok (.iload 4, 2) := by decide +kernel
theorem dX7_addPart_54 : decode cX7_addPart 54 = .ok (.invokestatic 25, 3) := by decide +kernel
theorem dX7_addPart_57 : decode cX7_addPart 57 = .ok (.aload_n 0, 1) := by decide +kernel
theorem dX7_addPart_58 : decode cX7_addPart 58 = .ok (.dup, 1) := by decide +kernel
theorem dX7_addPart_59 : decode cX7_addPart 59 = .ok (.getfield 9, 3) := by decide +kernel
theorem dX7_addPart_62 : decode cX7_addPart 62 = .ok (.iload 4, 2) := by decide +kernel
theorem dX7_addPart_64 : decode cX7_addPart 64 = .ok (.iadd, 1) := by decide +kernel
theorem dX7_addPart_65 : decode cX7_addPart 65 = .ok (.putfield 9, 3) := by decide +kernel
theorem dX7_addPart_68 : decode cX7_addPart 68 = .ok (.iconst 1, 1) := by decide +kernel
theorem dX7_addPart_69 : decode cX7_addPart 69 = .ok (.ireturn, 1) := by decide +kernel
set_option maxRecDepth 10000 in
set_option maxHeartbeats 4000000 in
theorem A_X7_addPart_e {Z : az_Z} {d : Nat} (C : az_C Z yX7_addPart cX7_addPart 5 (some .boolean) d) (hD : 2 ≤ d) {σ : az_Hp} {v0 v1 v2 v3 : Int} {r : (Int × az_Hp)} (h : fz_X7_addPart σ v0 v1 v2 v3 = some r) : az_AW Z 5 0 [(9, v0), (9, v1), (0, v2), (0, v3), (31, 0)] [] σ (some (0, r.1), r.2) := by
  have hd1 : 1 ≤ d := by omega
  unfold fz_X7_addPart at h
  refine az_il3 (pc := 0) C dX7_addPart_0 ?_
  refine az_il2 (pc := 1) C dX7_addPart_1 ?_
  refine az_isub (pc := 2) C dX7_addPart_2 ?_
  refine az_is4 (pc := 3) C rfl rfl dX7_addPart_3 ?_
  refine az_il2 (pc := 5) C dX7_addPart_5 ?_
  refine az_if_lt (pc := 6) (tgt := 37) C h dX7_addPart_6 (by decide) (fun _ h => ?_) (fun _ h => ?_)
  · refine az_ik0 (pc := 37) C dX7_addPart_37 ?_
    obtain rfl := Option.some.inj h
    exact az_zreturn (pc := 38) C (by decide) dX7_addPart_38 rfl
  refine az_il4 (pc := 9) C dX7_addPart_9 ?_
  refine az_if_lt (pc := 11) (tgt := 37) C h dX7_addPart_11 (by decide) (fun _ h => ?_) (fun _ h => ?_)
  · refine az_ik0 (pc := 37) C dX7_addPart_37 ?_
    obtain rfl := Option.some.inj h
    exact az_zreturn (pc := 38) C (by decide) dX7_addPart_38 rfl
  refine az_il3 (pc := 14) C dX7_addPart_14 ?_
  refine az_al1 (pc := 15) C rfl rfl dX7_addPart_15 ?_
  refine az_getI (pc := 16) C fl_X7_9 rfl dX7_addPart_16 ?_
  refine az_icmp_gt (pc := 19) (tgt := 37) C h dX7_addPart_19 (by decide) (fun _ h => ?_) (fun _ h => ?_)
  · refine az_ik0 (pc := 37) C dX7_addPart_37 ?_
    obtain rfl := Option.some.inj h
    exact az_zreturn (pc := 38) C (by decide) dX7_addPart_38 rfl
  refine az_al0 (pc := 22) C rfl rfl dX7_addPart_22 ?_
  refine az_getI (pc := 23) C fl_X7_9 rfl dX7_addPart_23 ?_
  refine az_il4 (pc := 26) C dX7_addPart_26 ?_
  refine az_iadd (pc := 28) C dX7_addPart_28 ?_
  refine az_al0 (pc := 29) C rfl rfl dX7_addPart_29 ?_
  refine az_getR (pc := 30) (c2 := 13) C h fl_X7_21 rfl rfl dX7_addPart_30 (fun h => ?_)
  refine az_arraylength (pc := 33) (k := 13) C rfl rfl dX7_addPart_33 ?_
  refine az_icmp_le (pc := 34) (tgt := 39) C h dX7_addPart_34 (by decide) (fun _ h => ?_) (fun _ h => ?_)
  · refine az_al1 (pc := 39) C rfl rfl dX7_addPart_39 ?_
    refine az_getR (pc := 40) (c2 := 13) C h fl_X7_21 rfl rfl dX7_addPart_40 (fun h => ?_)
    refine az_il2 (pc := 43) C dX7_addPart_43 ?_
    refine az_al0 (pc := 44) C rfl rfl dX7_addPart_44 ?_
    refine az_getR (pc := 45) (c2 := 13) C h fl_X7_21 rfl rfl dX7_addPart_45 (fun h => ?_)
    refine az_al0 (pc := 48) C rfl rfl dX7_addPart_48 ?_
    refine az_getI (pc := 49) C fl_X7_9 rfl dX7_addPart_49 ?_
    refine az_il4 (pc := 52) C dX7_addPart_52 ?_
    refine az_arraycopy (pc := 54) C hd1 h ml_X7_25 az_w_cpn az_w_cps az_w_sys rfl dX7_addPart_54 (fun h => ?_)
    refine az_al0 (pc := 57) C rfl rfl dX7_addPart_57 ?_
    refine az_dup (pc := 58) C rfl rfl dX7_addPart_58 ?_
    refine az_getI (pc := 59) C fl_X7_9 rfl dX7_addPart_59 ?_
    refine az_il4 (pc := 62) C dX7_addPart_62 ?_
    refine az_iadd (pc := 64) C dX7_addPart_64 ?_
    refine az_putI (pc := 65) C fl_X7_9 (Or.inl rfl) rfl dX7_addPart_65 ?_
    refine az_ik1 (pc := 68) C dX7_addPart_68 ?_
    obtain rfl := Option.some.inj h
    exact az_zreturn (pc := 69) C (by decide) dX7_addPart_69 rfl
  refine az_ik0 (pc := 37) C dX7_addPart_37 ?_
  obtain rfl := Option.some.inj h
  exact az_zreturn (pc := 38) C (by decide) dX7_addPart_38 rfl
set_option maxRecDepth 10000 in
set_option maxHeartbeats 4000000 in
theorem A_X7_addPart {l : Launch} {d : Nat} (hD : 2 ≤ d) {σ : az_Hp} {v0 v1 v2 v3 : Int} {r : (Int × az_Hp)} (h : fz_X7_addPart σ v0 v1 v2 v3 = some r) : az_AC l yX7_addPart cX7_addPart 5 (some .boolean) d [(9, v0), (9, v1), (0, v2), (0, v3)] σ (some (0, r.1), r.2) := az_AC.of mt_X7_addPart rfl rfl rfl (fun Z hZ C => A_X7_addPart_e C hD h)
theorem dX7_take_0 : decode cX7_take 0 = .ok (.aload_n 0, 1) := by decide +kernel
theorem dX7_take_1 : decode cX7_take 1 = .ok (.iconst 0, 1) := by decide +kernel
theorem dX7_take_2 : decode cX7_take 2 = .ok (.putfield 9, 3) := by decide +kernel
theorem dX7_take_5 : decode cX7_take 5 = .ok (.aload_n 0, 1) := by decide +kernel
theorem dX7_take_6 : decode cX7_take 6 = .ok (.aload_n 1, 1) := by decide +kernel
theorem dX7_take_7 : decode cX7_take 7 = .ok (.iconst 0, 1) := by decide +kernel
theorem dX7_take_8 : decode cX7_take 8 = .ok (.aload_n 1, 1) := by decide +kernel
theorem dX7_take_9 : decode cX7_take 9 = .ok (.getfield 9, 3) := by decide +kernel
theorem dX7_take_12 : decode cX7_take 12 = .ok (.invokevirtual 31, 3) := by decide +kernel
theorem dX7_take_15 : decode cX7_take 15 = .ok (.pop, 1) := by decide +kernel
theorem dX7_take_16 : decode cX7_take 16 = .ok (.return_, 1) := by decide +kernel
set_option maxRecDepth 10000 in
set_option maxHeartbeats 4000000 in
theorem A_X7_take_e {Z : az_Z} {d : Nat} (C : az_C Z yX7_take cX7_take 2 none d) (hD : 3 ≤ d) {σ : az_Hp} {v0 v1 : Int} {r : az_Hp} (h : fz_X7_take σ v0 v1 = some r) : az_AW Z 2 0 [(9, v0), (9, v1)] [] σ (none, r) := by
  have hd1 : 1 ≤ d := by omega
  unfold fz_X7_take at h
  refine az_al0 (pc := 0) C rfl rfl dX7_take_0 ?_
  refine az_ik0 (pc := 1) C dX7_take_1 ?_
  refine az_putI (pc := 2) C fl_X7_9 (Or.inl rfl) rfl dX7_take_2 ?_
  refine az_al0 (pc := 5) C rfl rfl dX7_take_5 ?_
  refine az_al1 (pc := 6) C rfl rfl dX7_take_6 ?_
  refine az_ik0 (pc := 7) C dX7_take_7 ?_
  refine az_al1 (pc := 8) C rfl rfl dX7_take_8 ?_
  refine az_getI (pc := 9) C fl_X7_9 rfl dX7_take_9 ?_
  refine az_cV3ii (pc := 12) (c := 7) C hd1 h mv_X7_addPart ml_X7_31 rfl (fun x hx => A_X7_addPart (by omega) hx) dX7_take_12 (fun r1 h => ?_)
  refine az_pop (pc := 15) C rfl rfl dX7_take_15 ?_
  obtain rfl := Option.some.inj h
  exact az_return (pc := 16) C dX7_take_16 rfl
set_option maxRecDepth 10000 in
set_option maxHeartbeats 4000000 in
theorem A_X7_take {l : Launch} {d : Nat} (hD : 3 ≤ d) {σ : az_Hp} {v0 v1 : Int} {r : az_Hp} (h : fz_X7_take σ v0 v1 = some r) : az_AC l yX7_take cX7_take 2 none d [(9, v0), (9, v1)] σ (none, r) := az_AC.of mt_X7_take rfl rfl rfl (fun Z hZ C => A_X7_take_e C hD h)
theorem dX5_rewrite_0 : decode cX5_rewrite 0 = .ok (.aload_n 0, 1) := by decide +kernel
theorem dX5_rewrite_1 : decode cX5_rewrite 1 = .ok (.getfield 37, 3) := by decide +kernel
theorem dX5_rewrite_4 : decode cX5_rewrite 4 = .ok (.iconst (-1), 1) := by decide +kernel
theorem dX5_rewrite_5 : decode cX5_rewrite 5 = .ok (.if_icmp .eq 7, 3) := by decide +kernel
theorem dX5_rewrite_8 : decode cX5_rewrite 8 = .ok (.iconst 1, 1) := by decide +kernel
theorem dX5_rewrite_9 : decode cX5_rewrite 9 = .ok (.goto 4, 3) := by decide +kernel
theorem dX5_rewrite_12 : decode cX5_rewrite 12 = .ok (.iconst 0, 1) := by decide +kernel
theorem dX5_rewrite_13 : decode cX5_rewrite 13 = .ok (.istore_n 1, 1) := by decide +kernel
theorem dX5_rewrite_14 : decode cX5_rewrite 14 = .ok (.iload_n 1, 1) := by decide +kernel
theorem dX5_rewrite_15 : decode cX5_rewrite 15 = .ok (.ifCond .ne 13, 3) := by decide +kernel
theorem dX5_rewrite_18 : decode cX5_rewrite 18 = .ok (.aload_n 0, 1) := by decide +kernel
theorem dX5_rewrite_19 : decode cX5_rewrite 19 = .ok (.getfield 24, 3) := by decide +kernel
theorem dX5_rewrite_22 : decode cX5_rewrite 22 = .ok (.iconst (-1), 1) := by decide +kernel
theorem dX5_rewrite_23 : decode cX5_rewrite 23 = .ok (.if_icmp .ne 5, 3) := by decide +kernel
theorem dX5_rewrite_26 : decode cX5_rewrite 26 = .ok (.iconst 0, 1) := by decide +kernel
theorem dX5_rewrite_27 : decode cX5_rewrite 27 = .ok (.ireturn, 1) := by decide +kernel
theorem dX5_rewrite_28 : decode cX5_rewrite 28 = .ok (.iload_n 1, 1) := by decide +kernel
theorem dX5_rewrite_29 : decode cX5_rewrite 29 = .ok (.ifCond .eq 18, 3) := by decide +kernel
theorem dX5_rewrite_32 : decode cX5_rewrite 32 = .ok (.aload_n 0, 1) := by decide +kernel
theorem dX5_rewrite_33 : decode cX5_rewrite 33 = .ok (.getfield 68, 3) := by decide +kernel
theorem dX5_rewrite_36 : decode cX5_rewrite 36 = .ok (.getfield 152, 3) := by decide +kernel
theorem dX5_rewrite_39 : decode cX5_rewrite 39 = .ok (.aload_n 0, 1) := by decide +kernel
theorem dX5_rewrite_40 : decode cX5_rewrite 40 = .ok (.getfield 37, 3) := by decide +kernel
theorem dX5_rewrite_43 : decode cX5_rewrite 43 = .ok (.aaload, 1) := by decide +kernel
theorem dX5_rewrite_44 : decode cX5_rewrite 44 = .ok (.goto 15, 3) := by decide +kernel
theorem dX5_rewrite_47 : decode cX5_rewrite 47 = .ok (.aload_n 0, 1) := by decide +kernel
theorem dX5_rewrite_48 : decode cX5_rewrite 48 = .ok (.getfield 64, 3) := by decide +kernel
theorem dX5_rewrite_51 : decode cX5_rewrite 51 = .ok (.getfield 155, 3) := by decide +kernel
theorem dX5_rewrite_54 : decode cX5_rewrite 54 = .ok (.aload_n 0, 1) := by decide +kernel
theorem dX5_rewrite_55 : decode cX5_rewrite 55 = .ok (.getfield 24, 3) := by decide +kernel
theorem dX5_rewrite_58 : decode cX5_rewrite 58 = .ok (.aaload, 1) := by decide +kernel
theorem dX5_rewrite_59 : decode cX5_rewrite 59 = .ok (.astore_n 2, 1) := by decide +kernel
theorem dX5_rewrite_60 : decode cX5_rewrite 60 = .ok (.aload_n 0, 1) := by decide +kernel
theorem dX5_rewrite_61 : decode cX5_rewrite 61 = .ok (.getfield 40, 3) := by decide +kernel
theorem dX5_rewrite_64 : decode cX5_rewrite 64 = .ok (.iconst 0, 1) := by decide +kernel
theorem dX5_rewrite_65 : decode cX5_rewrite 65 = .ok (.putfield 77, 3) := by decide +kernel
theorem dX5_rewrite_68 : decode cX5_rewrite 68 = .ok (.aload_n 0, 1) := by decide +kernel
theorem dX5_rewrite_69 : decode cX5_rewrite 69 = .ok (.getfield 40, 3) := by decide +kernel
theorem dX5_rewrite_72 : decode cX5_rewrite 72 = .ok (.aload_n 0, 1) := by decide +kernel
theorem dX5_rewrite_73 : decode cX5_rewrite 73 = .ok (.getfield 14, 3) := by decide +kernel
theorem dX5_rewrite_76 : decode cX5_rewrite 76 = .ok (.iconst 0, 1) := by decide +kernel
theorem dX5_rewrite_77 : decode cX5_rewrite 77 = .ok (.aload_n 0, 1) := by decide +kernel
theorem dX5_rewrite_78 : decode cX5_rewrite 78 = .ok (.getfield 34, 3) := by decide +kernel
theorem dX5_rewrite_81 : decode cX5_rewrite 81 = .ok (.invokevirtual 158, 3) := by decide +kernel
theorem dX5_rewrite_84 : decode cX5_rewrite 84 = .ok (.istore_n 3, 1) := by decide +kernel
theorem dX5_rewrite_85 : decode cX5_rewrite 85 = .ok (.iconst 0, 1) := by decide +kernel
theorem dX5_rewrite_86 : decode cX5_rewrite 86 = .ok (.istore 4, 2) := by decide +kernel
theorem dX5_rewrite_88 : decode cX5_rewrite 88 = .ok (.iload 4, 2) := by decide +kernel
theorem dX5_rewrite_90 : decode cX5_rewrite 90 = .ok (.aload_n 2, 1) := by decide +kernel
theorem dX5_rewrite_91 : decode cX5_rewrite 91 = .ok (.getfield 77, 3) := by decide +kernel
theorem dX5_rewrite_94 : decode cX5_rewrite 94 = .ok (.if_icmp .ge 87, 3) := by decide +kernel
theorem dX5_rewrite_97 : decode cX5_rewrite 97 = .ok (.iload_n 3, 1) := by decide +kernel
theorem dX5_rewrite_98 : decode cX5_rewrite 98 = .ok (.ifCond .eq 83, 3) := by decide +kernel
theorem dX5_rewrite_101 : decode cX5_rewrite 101 = .ok (.aload_n 2, 1) := by decide +kernel
theorem dX5_rewrite_102 : decode cX5_rewrite 102 = .ok (.getfield 80, 3) := by decide +kernel
theorem dX5_rewrite_105 : decode cX5_rewrite 105 = .ok (.iload 4, 2) := by decide +kernel
theorem dX5_rewrite_107 : decode cX5_rewrite 107 = .ok (.iaload, 1) := by decide +kernel
theorem dX5_rewrite_108 : decode cX5_rewrite 108 = .ok (.istore 5, 2) := by decide +kernel
theorem dX5_rewrite_110 : decode cX5_rewrite 110 = .ok (.iload_n 1, 1) := by decide +kernel
theorem dX5_rewrite_111 : decode cX5_rewrite 111 = .ok (.ifCond .ne 17, 3) := by decide +kernel
theorem dX5_rewrite_114 : decode cX5_rewrite 114 = .ok (.iload 5, 2) := by decide +kernel
theorem dX5_rewrite_116 : decode cX5_rewrite 116 = .ok (.ifCond .ge 12, 3) := by decide +kernel
theorem dX5_rewrite_119 : decode cX5_rewrite 119 = .ok (.iload 5, 2) := by decide +kernel
theorem dX5_rewrite_121 : decode cX5_rewrite 121 = .ok (.iconst (-1), 1) := by decide +kernel
theorem dX5_rewrite_122 : decode cX5_rewrite 122 = .ok (.ixor, 1) := by decide +kernel
theorem dX5_rewrite_123 : decode cX5_rewrite 123 = .ok (.bipush 6, 2) := by decide +kernel
theorem dX5_rewrite_125 : decode cX5_rewrite 125 = .ok (.if_icmp .lt 16, 3) := by decide +kernel
theorem dX5_rewrite_128 : decode cX5_rewrite 128 = .ok (.aload_n 0, 1) := by decide +kernel
theorem dX5_rewrite_129 : decode cX5_rewrite 129 = .ok (.getfield 40, 3) := by decide +kernel
theorem dX5_rewrite_132 : decode cX5_rewrite 132 = .ok (.iload 5, 2) := by decide +kernel
theorem dX5_rewrite_134 : decode cX5_rewrite 134 = .ok (.invokevirtual 162, 3) := by decide +kernel
theorem dX5_rewrite_137 : decode cX5_rewrite 137 = .ok (.istore_n 3, 1) := by decide +kernel
theorem dX5_rewrite_138 : decode cX5_rewrite 138 = .ok (.goto 37, 3) := by decide +kernel
theorem dX5_rewrite_141 : decode cX5_rewrite 141 = .ok (.aload_n 0, 1) := by decide +kernel
theorem dX5_rewrite_142 : decode cX5_rewrite 142 = .ok (.getfield 57, 3) := by decide +kernel
theorem dX5_rewrite_145 : decode cX5_rewrite 145 = .ok (.iload 5, 2) := by decide +kernel
theorem dX5_rewrite_147 : decode cX5_rewrite 147 = .ok (.iconst (-1), 1) := by decide +kernel
theorem dX5_rewrite_148 : decode cX5_rewrite 148 = .ok (.ixor, 1) := by decide +kernel
theorem dX5_rewrite_149 : decode cX5_rewrite 149 = .ok (.iaload, 1) := by decide +kernel
theorem dX5_rewrite_150 : decode cX5_rewrite 150 = .ok (.istore 6, 2) := by decide +kernel
theorem dX5_rewrite_152 : decode cX5_rewrite 152 = .ok (.aload_n 0, 1) := by decide +kernel
theorem dX5_rewrite_153 : decode cX5_rewrite 153 = .ok (.getfield 40, 3) := by decide +kernel
theorem dX5_rewrite_156 : decode cX5_rewrite 156 = .ok (.aload_n 0, 1) := by decide +kernel
theorem dX5_rewrite_157 : decode cX5_rewrite 157 = .ok (.getfield 14, 3) := by decide +kernel
theorem dX5_rewrite_160 : decode cX5_rewrite 160 = .ok (.iload 6, 2) := by decide +kernel
theorem dX5_rewrite_162 : decode cX5_rewrite 162 = .ok (.aload_n 0, 1) := by decide +kernel
theorem dX5_rewrite_163 : decode cX5_rewrite 163 = .ok (.getfield 14, 3) := by decide +kernel
theorem dX5_rewrite_166 : decode cX5_rewrite 166 = .ok (.iload 6, 2) := by decide +kernel
theorem dX5_rewrite_168 : decode cX5_rewrite 168 = .ok (.invokevirtual 87, 3) := by decide +kernel
theorem dX5_rewrite_171 : decode cX5_rewrite 171 = .ok (.invokevirtual 158, 3) := by decide +kernel
theorem dX5_rewrite_174 : decode cX5_rewrite 174 = .ok (.istore_n 3, 1) := by decide +kernel
theorem dX5_rewrite_175 : decode cX5_rewrite 175 = .ok (.iinc 4 1, 3) := by decide +kernel
theorem dX5_rewrite_178 : decode cX5_rewrite 178 = .ok (.goto (-90), 3) := by decide +kernel
theorem dX5_rewrite_181 : decode cX5_rewrite 181 = .ok (.iload_n 3, 1) := by decide +kernel
theorem dX5_rewrite_182 : decode cX5_rewrite 182 = .ok (.ifCond .eq 35, 3) := by decide +kernel
theorem dX5_rewrite_185 : decode cX5_rewrite 185 = .ok (.aload_n 0, 1) := by decide +kernel
theorem dX5_rewrite_186 : decode cX5_rewrite 186 = .ok (.getfield 40, 3) := by decide +kernel
theorem dX5_rewrite_189 : decode cX5_rewrite 189 = .ok (.aload_n 0, 1) := by decide +kernel
theorem dX5_rewrite_190 : decode cX5_rewrite 190 = .ok (.getfield 14, 3) := by decide +kernel
theorem dX5_rewrite_193 : decode cX5_rewrite 193 = .ok (.aload_n 0, 1) := by decide +kernel
theorem dX5_rewrite_194 : decode cX5_rewrite 194 = .ok (.getfield 14, 3) := by decide +kernel
theorem dX5_rewrite_197 : decode cX5_rewrite 197 = .ok (.aload_n 0, 1) := by decide +kernel
theorem dX5_rewrite_198 : decode cX5_rewrite 198 = .ok (.getfield 34, 3) := by decide +kernel
theorem dX5_rewrite_201 : decode cX5_rewrite 201 = .ok (.invokevirtual 87, 3) := by decide +kernel
theorem dX5_rewrite_204 : decode cX5_rewrite 204 = .ok (.aload_n 0, 1) := by decide +kernel
theorem dX5_rewrite_205 : decode cX5_rewrite 205 = .ok (.getfield 14, 3) := by decide +kernel
theorem dX5_rewrite_208 : decode cX5_rewrite 208 = .ok (.getfield 77, 3) := by decide +kernel
theorem dX5_rewrite_211 : decode cX5_rewrite 211 = .ok (.invokevirtual 158, 3) := by decide +kernel
theorem dX5_rewrite_214 : decode cX5_rewrite 214 = .ok (.ifCond .ne 5, 3) := by decide +kernel
theorem dX5_rewrite_217 : decode cX5_rewrite 217 = .ok (.iconst 0, 1) := by decide +kernel
theorem dX5_rewrite_218 : decode cX5_rewrite 218 = .ok (.ireturn, 1) := by decide +kernel
theorem dX5_rewrite_219 : decode cX5_rewrite 219 = .ok (.aload_n 0, 1) := by decide +kernel
theorem dX5_rewrite_220 : decode cX5_rewrite 220 = .ok (.getfield 14, 3) := by decide +kernel
theorem dX5_rewrite_223 : decode cX5_rewrite 223 = .ok (.aload_n 0, 1) := by decide +kernel
theorem dX5_rewrite_224 : decode cX5_rewrite 224 = .ok (.getfield 40, 3) := by decide +kernel
theorem dX5_rewrite_227 : decode cX5_rewrite 227 = .ok (.invokevirtual 166, 3) := by decide +kernel
theorem dX5_rewrite_230 : decode cX5_rewrite 230 = .ok (.iconst 1, 1) := by decide +kernel
theorem dX5_rewrite_231 : decode cX5_rewrite 231 = .ok (.ireturn, 1) := by decide +kernel
set_option maxRecDepth 10000 in
set_option maxHeartbeats 4000000 in
theorem A_X5_rewrite_181 {Z : az_Z} {d : Nat} (C : az_C Z yX5_rewrite cX5_rewrite 7 (some .boolean) d) (hD : 4 ≤ d) (n : Nat) {σ : az_Hp} {v0 v3 : Int} {r : (Int × az_Hp)} (h : fz_X5_rewrite_181 n σ v0 v3 = some r) : az_AW Z 7 181 [(7, v0), (31, 0), (31, 0), (0, v3), (31, 0), (31, 0), (31, 0)] [] σ (some (0, r.1), r.2) := by
  have hd1 : 1 ≤ d := by omega
  unfold fz_X5_rewrite_181 at h
  refine az_il3 (pc := 181) C dX5_rewrite_181 ?_
  refine az_if_eq (pc := 182) (tgt := 217) C h dX5_rewrite_182 (by decide) (fun _ h => ?_) (fun _ h => ?_)
  · refine az_ik0 (pc := 217) C dX5_rewrite_217 ?_
    obtain rfl := Option.some.inj h
    exact az_zreturn (pc := 218) C (by decide) dX5_rewrite_218 rfl
  refine az_al0 (pc := 185) C rfl rfl dX5_rewrite_185 ?_
  refine az_getR (pc := 186) (c2 := 7) C h fl_X5_40 rfl rfl dX5_rewrite_186 (fun h => ?_)
  refine az_al0 (pc := 189) C rfl rfl dX5_rewrite_189 ?_
  refine az_getR (pc := 190) (c2 := 7) C h fl_X5_14 rfl rfl dX5_rewrite_190 (fun h => ?_)
  refine az_al0 (pc := 193) C rfl rfl dX5_rewrite_193 ?_
  refine az_getR (pc := 194) (c2 := 7) C h fl_X5_14 rfl rfl dX5_rewrite_194 (fun h => ?_)
  refine az_al0 (pc := 197) C rfl rfl dX5_rewrite_197 ?_
  refine az_getI (pc := 198) C fl_X5_34 rfl dX5_rewrite_198 ?_
  refine az_cV1pi (pc := 201) (c := 7) C hd1 h mv_X7_end ml_X5_87 rfl (fun x hx => A_X7_end (by omega) n hx) dX5_rewrite_201 (fun r4 h => ?_)
  refine az_al0 (pc := 204) C rfl rfl dX5_rewrite_204 ?_
  refine az_getR (pc := 205) (c2 := 7) C h fl_X5_14 rfl rfl dX5_rewrite_205 (fun h => ?_)
  refine az_getI (pc := 208) C fl_X5_77 rfl dX5_rewrite_208 ?_
  refine az_cV3ii (pc := 211) (c := 7) C hd1 h mv_X7_addPart ml_X5_158 rfl (fun x hx => A_X7_addPart (by omega) hx) dX5_rewrite_211 (fun r6 h => ?_)
  refine az_if_ne (pc := 214) (tgt := 219) C h dX5_rewrite_214 (by decide) (fun _ h => ?_) (fun _ h => ?_)
  · refine az_al0 (pc := 219) C rfl rfl dX5_rewrite_219 ?_
    refine az_getR (pc := 220) (c2 := 7) C h fl_X5_14 rfl rfl dX5_rewrite_220 (fun h => ?_)
    refine az_al0 (pc := 223) C rfl rfl dX5_rewrite_223 ?_
    refine az_getR (pc := 224) (c2 := 7) C h fl_X5_40 rfl rfl dX5_rewrite_224 (fun h => ?_)
    refine az_cV1v (pc := 227) (c := 7) C hd1 h mv_X7_take ml_X5_166 rfl (fun x hx => A_X7_take (by omega) hx) dX5_rewrite_227 (fun r9 h => ?_)
    refine az_ik1 (pc := 230) C dX5_rewrite_230 ?_
    obtain rfl := Option.some.inj h
    exact az_zreturn (pc := 231) C (by decide) dX5_rewrite_231 rfl
  refine az_ik0 (pc := 217) C dX5_rewrite_217 ?_
  obtain rfl := Option.some.inj h
  exact az_zreturn (pc := 218) C (by decide) dX5_rewrite_218 rfl
set_option maxRecDepth 10000 in
set_option maxHeartbeats 4000000 in
theorem A_X5_rewrite_88 {Z : az_Z} {d : Nat} (C : az_C Z yX5_rewrite cX5_rewrite 7 (some .boolean) d) (hD : 4 ≤ d) (n : Nat) (k : Nat) : ∀ {σ : az_Hp} {v0 v1 v2 v3 v4 : Int} {r : (Int × az_Hp)}, fz_X5_rewrite_88 n k σ v0 v1 v2 v3 v4 = some r → az_AW Z 7 88 [(7, v0), (0, v1), (9, v2), (0, v3), (0, v4), (31, 0), (31, 0)] [] σ (some (0, r.1), r.2) := by
  have hd1 : 1 ≤ d := by omega
  induction k with
  | zero => intro σ v0 v1 v2 v3 v4 r h; simp [fz_X5_rewrite_88] at h
  | succ k ih =>
    intro σ v0 v1 v2 v3 v4 r h
    unfold fz_X5_rewrite_88 at h
    refine az_il4 (pc := 88) C dX5_rewrite_88 ?_
    refine az_al2 (pc := 90) C rfl rfl dX5_rewrite_90 ?_
    refine az_getI (pc := 91) C fl_X5_77 rfl dX5_rewrite_91 ?_
    refine az_icmp_ge (pc := 94) (tgt := 181) C h dX5_rewrite_94 (by decide) (fun _ h => ?_) (fun _ h => ?_)
    · exact (az_wkk (A_X5_rewrite_181 C hD n h) (az_sE (az_sJ (az_sJ (az_sE (az_sJ (az_sJ (az_sJ az_sN))))))))
    refine az_il3 (pc := 97) C dX5_rewrite_97 ?_
    refine az_if_eq (pc := 98) (tgt := 181) C h dX5_rewrite_98 (by decide) (fun _ h => ?_) (fun _ h => ?_)
    · exact (az_wkk (A_X5_rewrite_181 C hD n h) (az_sE (az_sJ (az_sJ (az_sE (az_sJ (az_sJ (az_sJ az_sN))))))))
    refine az_al2 (pc := 101) C rfl rfl dX5_rewrite_101 ?_
    refine az_getR (pc := 102) (c2 := 13) C h fl_X5_80 rfl rfl dX5_rewrite_102 (fun h => ?_)
    refine az_il4 (pc := 105) C dX5_rewrite_105 ?_
    refine az_iaload (pc := 107) C h dX5_rewrite_107 (fun h => ?_)
    refine az_is5 (pc := 108) C rfl rfl dX5_rewrite_108 ?_
    refine az_il1 (pc := 110) C dX5_rewrite_110 ?_
    refine az_if_ne (pc := 111) (tgt := 128) C h dX5_rewrite_111 (by decide) (fun _ h => ?_) (fun _ h => ?_)
    · refine az_al0 (pc := 128) C rfl rfl dX5_rewrite_128 ?_
      refine az_getR (pc := 129) (c2 := 7) C h fl_X5_40 rfl rfl dX5_rewrite_129 (fun h => ?_)
      refine az_il5 (pc := 132) C dX5_rewrite_132 ?_
      refine az_cV1ii (pc := 134) (c := 7) C hd1 h mv_X7_add ml_X5_162 rfl (fun x hx => A_X7_add (by omega) hx) dX5_rewrite_134 (fun r4 h => ?_)
      refine az_is3 (pc := 137) C rfl rfl dX5_rewrite_137 ?_
      refine az_goto (pc := 138) (tgt := 175) C dX5_rewrite_138 (by decide) ?_
      refine az_ii4 (pc := 175) C az_n1 rfl rfl dX5_rewrite_175 ?_
      refine az_goto (pc := 178) (tgt := 88) C dX5_rewrite_178 (by decide) ?_
      exact (az_wkk (ih h) (az_sE (az_sE (az_sE (az_sE (az_sE (az_sJ (az_sJ az_sN))))))))
    refine az_il5 (pc := 114) C dX5_rewrite_114 ?_
    refine az_if_ge (pc := 116) (tgt := 128) C h dX5_rewrite_116 (by decide) (fun _ h => ?_) (fun _ h => ?_)
    · refine az_al0 (pc := 128) C rfl rfl dX5_rewrite_128 ?_
      refine az_getR (pc := 129) (c2 := 7) C h fl_X5_40 rfl rfl dX5_rewrite_129 (fun h => ?_)
      refine az_il5 (pc := 132) C dX5_rewrite_132 ?_
      refine az_cV1ii (pc := 134) (c := 7) C hd1 h mv_X7_add ml_X5_162 rfl (fun x hx => A_X7_add (by omega) hx) dX5_rewrite_134 (fun r6 h => ?_)
      refine az_is3 (pc := 137) C rfl rfl dX5_rewrite_137 ?_
      refine az_goto (pc := 138) (tgt := 175) C dX5_rewrite_138 (by decide) ?_
      refine az_ii4 (pc := 175) C az_n1 rfl rfl dX5_rewrite_175 ?_
      refine az_goto (pc := 178) (tgt := 88) C dX5_rewrite_178 (by decide) ?_
      exact (az_wkk (ih h) (az_sE (az_sE (az_sE (az_sE (az_sE (az_sJ (az_sJ az_sN))))))))
    refine az_il5 (pc := 119) C dX5_rewrite_119 ?_
    refine az_ikm1 (pc := 121) C dX5_rewrite_121 ?_
    refine az_ixor (pc := 122) C dX5_rewrite_122 ?_
    refine az_bk6 (pc := 123) C dX5_rewrite_123 ?_
    refine az_icmp_lt (pc := 125) (tgt := 141) C h dX5_rewrite_125 (by decide) (fun _ h => ?_) (fun _ h => ?_)
    · refine az_al0 (pc := 141) C rfl rfl dX5_rewrite_141 ?_
      refine az_getR (pc := 142) (c2 := 13) C h fl_X5_57 rfl rfl dX5_rewrite_142 (fun h => ?_)
      refine az_il5 (pc := 145) C dX5_rewrite_145 ?_
      refine az_ikm1 (pc := 147) C dX5_rewrite_147 ?_
      refine az_ixor (pc := 148) C dX5_rewrite_148 ?_
      refine az_iaload (pc := 149) C h dX5_rewrite_149 (fun h => ?_)
      refine az_is6 (pc := 150) C rfl rfl dX5_rewrite_150 ?_
      refine az_al0 (pc := 152) C rfl rfl dX5_rewrite_152 ?_
      refine az_getR (pc := 153) (c2 := 7) C h fl_X5_40 rfl rfl dX5_rewrite_153 (fun h => ?_)
      refine az_al0 (pc := 156) C rfl rfl dX5_rewrite_156 ?_
      refine az_getR (pc := 157) (c2 := 7) C h fl_X5_14 rfl rfl dX5_rewrite_157 (fun h => ?_)
      refine az_il6 (pc := 160) C dX5_rewrite_160 ?_
      refine az_al0 (pc := 162) C rfl rfl dX5_rewrite_162 ?_
      refine az_getR (pc := 163) (c2 := 7) C h fl_X5_14 rfl rfl dX5_rewrite_163 (fun h => ?_)
      refine az_il6 (pc := 166) C dX5_rewrite_166 ?_
      refine az_cV1pi (pc := 168) (c := 7) C hd1 h mv_X7_end ml_X5_87 rfl (fun x hx => A_X7_end (by omega) n hx) dX5_rewrite_168 (fun r12 h => ?_)
      refine az_cV3ii (pc := 171) (c := 7) C hd1 h mv_X7_addPart ml_X5_158 rfl (fun x hx => A_X7_addPart (by omega) hx) dX5_rewrite_171 (fun r13 h => ?_)
      refine az_is3 (pc := 174) C rfl rfl dX5_rewrite_174 ?_
      refine az_ii4 (pc := 175) C az_n1 rfl rfl dX5_rewrite_175 ?_
      refine az_goto (pc := 178) (tgt := 88) C dX5_rewrite_178 (by decide) ?_
      exact (az_wkk (ih h) (az_sE (az_sE (az_sE (az_sE (az_sE (az_sJ (az_sJ az_sN))))))))
    refine az_al0 (pc := 128) C rfl rfl dX5_rewrite_128 ?_
    refine az_getR (pc := 129) (c2 := 7) C h fl_X5_40 rfl rfl dX5_rewrite_129 (fun h => ?_)
    refine az_il5 (pc := 132) C dX5_rewrite_132 ?_
    refine az_cV1ii (pc := 134) (c := 7) C hd1 h mv_X7_add ml_X5_162 rfl (fun x hx => A_X7_add (by omega) hx) dX5_rewrite_134 (fun r15 h => ?_)
    refine az_is3 (pc := 137) C rfl rfl dX5_rewrite_137 ?_
    refine az_goto (pc := 138) (tgt := 175) C dX5_rewrite_138 (by decide) ?_
    refine az_ii4 (pc := 175) C az_n1 rfl rfl dX5_rewrite_175 ?_
    refine az_goto (pc := 178) (tgt := 88) C dX5_rewrite_178 (by decide) ?_
    exact (az_wkk (ih h) (az_sE (az_sE (az_sE (az_sE (az_sE (az_sJ (az_sJ az_sN))))))))
set_option maxRecDepth 10000 in
set_option maxHeartbeats 4000000 in
theorem A_X5_rewrite_59 {Z : az_Z} {d : Nat} (C : az_C Z yX5_rewrite cX5_rewrite 7 (some .boolean) d) (hD : 4 ≤ d) (n : Nat) {σ : az_Hp} {v0 v1 w0 : Int} {r : (Int × az_Hp)} (h : fz_X5_rewrite_59 n σ v0 v1 w0 = some r) : az_AW Z 7 59 [(7, v0), (0, v1), (31, 0), (31, 0), (31, 0), (31, 0), (31, 0)] [(9, w0)] σ (some (0, r.1), r.2) := by
  have hd1 : 1 ≤ d := by omega
  unfold fz_X5_rewrite_59 at h
  refine az_as2 (pc := 59) C rfl rfl rfl rfl dX5_rewrite_59 ?_
  refine az_al0 (pc := 60) C rfl rfl dX5_rewrite_60 ?_
  refine az_getR (pc := 61) (c2 := 7) C h fl_X5_40 rfl rfl dX5_rewrite_61 (fun h => ?_)
  refine az_ik0 (pc := 64) C dX5_rewrite_64 ?_
  refine az_putI (pc := 65) C fl_X5_77 (Or.inl rfl) rfl dX5_rewrite_65 ?_
  refine az_al0 (pc := 68) C rfl rfl dX5_rewrite_68 ?_
  refine az_getR (pc := 69) (c2 := 7) C h fl_X5_40 rfl rfl dX5_rewrite_69 (fun h => ?_)
  refine az_al0 (pc := 72) C rfl rfl dX5_rewrite_72 ?_
  refine az_getR (pc := 73) (c2 := 7) C h fl_X5_14 rfl rfl dX5_rewrite_73 (fun h => ?_)
  refine az_ik0 (pc := 76) C dX5_rewrite_76 ?_
  refine az_al0 (pc := 77) C rfl rfl dX5_rewrite_77 ?_
  refine az_getI (pc := 78) C fl_X5_34 rfl dX5_rewrite_78 ?_
  refine az_cV3ii (pc := 81) (c := 7) C hd1 h mv_X7_addPart ml_X5_158 rfl (fun x hx => A_X7_addPart (by omega) hx) dX5_rewrite_81 (fun r4 h => ?_)
  refine az_is3 (pc := 84) C rfl rfl dX5_rewrite_84 ?_
  refine az_ik0 (pc := 85) C dX5_rewrite_85 ?_
  refine az_is4 (pc := 86) C rfl rfl dX5_rewrite_86 ?_
  exact (A_X5_rewrite_88 C hD n n h)
set_option maxRecDepth 10000 in
set_option maxHeartbeats 4000000 in
theorem A_X5_rewrite_28 {Z : az_Z} {d : Nat} (C : az_C Z yX5_rewrite cX5_rewrite 7 (some .boolean) d) (hD : 4 ≤ d) (n : Nat) {σ : az_Hp} {v0 v1 : Int} {r : (Int × az_Hp)} (h : fz_X5_rewrite_28 n σ v0 v1 = some r) : az_AW Z 7 28 [(7, v0), (0, v1), (31, 0), (31, 0), (31, 0), (31, 0), (31, 0)] [] σ (some (0, r.1), r.2) := by
  have hd1 : 1 ≤ d := by omega
  unfold fz_X5_rewrite_28 at h
  refine az_il1 (pc := 28) C dX5_rewrite_28 ?_
  refine az_if_eq (pc := 29) (tgt := 47) C h dX5_rewrite_29 (by decide) (fun _ h => ?_) (fun _ h => ?_)
  · refine az_al0 (pc := 47) C rfl rfl dX5_rewrite_47 ?_
    refine az_getR (pc := 48) (c2 := 9) C h fl_X5_64 rfl rfl dX5_rewrite_48 (fun h => ?_)
    refine az_getR (pc := 51) (c2 := 16) C h fl_X5_155 rfl rfl dX5_rewrite_51 (fun h => ?_)
    refine az_al0 (pc := 54) C rfl rfl dX5_rewrite_54 ?_
    refine az_getI (pc := 55) C fl_X5_24 rfl dX5_rewrite_55 ?_
    refine az_aaload (pc := 58) C h dX5_rewrite_58 (fun h => ?_)
    exact (A_X5_rewrite_59 C hD n h)
  refine az_al0 (pc := 32) C rfl rfl dX5_rewrite_32 ?_
  refine az_getR (pc := 33) (c2 := 6) C h fl_X5_68 rfl rfl dX5_rewrite_33 (fun h => ?_)
  refine az_getR (pc := 36) (c2 := 16) C h fl_X5_152 rfl rfl dX5_rewrite_36 (fun h => ?_)
  refine az_al0 (pc := 39) C rfl rfl dX5_rewrite_39 ?_
  refine az_getI (pc := 40) C fl_X5_37 rfl dX5_rewrite_40 ?_
  refine az_aaload (pc := 43) C h dX5_rewrite_43 (fun h => ?_)
  refine az_goto (pc := 44) (tgt := 59) C dX5_rewrite_44 (by decide) ?_
  exact (A_X5_rewrite_59 C hD n h)
set_option maxRecDepth 10000 in
set_option maxHeartbeats 4000000 in
theorem A_X5_rewrite_13 {Z : az_Z} {d : Nat} (C : az_C Z yX5_rewrite cX5_rewrite 7 (some .boolean) d) (hD : 4 ≤ d) (n : Nat) {σ : az_Hp} {v0 w0 : Int} {r : (Int × az_Hp)} (h : fz_X5_rewrite_13 n σ v0 w0 = some r) : az_AW Z 7 13 [(7, v0), (31, 0), (31, 0), (31, 0), (31, 0), (31, 0), (31, 0)] [(0, w0)] σ (some (0, r.1), r.2) := by
  have hd1 : 1 ≤ d := by omega
  unfold fz_X5_rewrite_13 at h
  refine az_is1 (pc := 13) C rfl rfl dX5_rewrite_13 ?_
  refine az_il1 (pc := 14) C dX5_rewrite_14 ?_
  refine az_if_ne (pc := 15) (tgt := 28) C h dX5_rewrite_15 (by decide) (fun _ h => ?_) (fun _ h => ?_)
  · exact (A_X5_rewrite_28 C hD n h)
  refine az_al0 (pc := 18) C rfl rfl dX5_rewrite_18 ?_
  refine az_getI (pc := 19) C fl_X5_24 rfl dX5_rewrite_19 ?_
  refine az_ikm1 (pc := 22) C dX5_rewrite_22 ?_
  refine az_icmp_ne (pc := 23) (tgt := 28) C h dX5_rewrite_23 (by decide) (fun _ h => ?_) (fun _ h => ?_)
  · exact (A_X5_rewrite_28 C hD n h)
  refine az_ik0 (pc := 26) C dX5_rewrite_26 ?_
  obtain rfl := Option.some.inj h
  exact az_zreturn (pc := 27) C (by decide) dX5_rewrite_27 rfl
set_option maxRecDepth 10000 in
set_option maxHeartbeats 4000000 in
theorem A_X5_rewrite_e {Z : az_Z} {d : Nat} (C : az_C Z yX5_rewrite cX5_rewrite 7 (some .boolean) d) (hD : 4 ≤ d) (n : Nat) {σ : az_Hp} {v0 : Int} {r : (Int × az_Hp)} (h : fz_X5_rewrite n σ v0 = some r) : az_AW Z 7 0 [(7, v0), (31, 0), (31, 0), (31, 0), (31, 0), (31, 0), (31, 0)] [] σ (some (0, r.1), r.2) := by
  have hd1 : 1 ≤ d := by omega
  unfold fz_X5_rewrite at h
  refine az_al0 (pc := 0) C rfl rfl dX5_rewrite_0 ?_
  refine az_getI (pc := 1) C fl_X5_37 rfl dX5_rewrite_1 ?_
  refine az_ikm1 (pc := 4) C dX5_rewrite_4 ?_
  refine az_icmp_eq (pc := 5) (tgt := 12) C h dX5_rewrite_5 (by decide) (fun _ h => ?_) (fun _ h => ?_)
  · refine az_ik0 (pc := 12) C dX5_rewrite_12 ?_
    exact (A_X5_rewrite_13 C hD n h)
  refine az_ik1 (pc := 8) C dX5_rewrite_8 ?_
  refine az_goto (pc := 9) (tgt := 13) C dX5_rewrite_9 (by decide) ?_
  exact (A_X5_rewrite_13 C hD n h)
set_option maxRecDepth 10000 in
set_option maxHeartbeats 4000000 in
theorem A_X5_rewrite {l : Launch} {d : Nat} (hD : 4 ≤ d) (n : Nat) {σ : az_Hp} {v0 : Int} {r : (Int × az_Hp)} (h : fz_X5_rewrite n σ v0 = some r) : az_AC l yX5_rewrite cX5_rewrite 7 (some .boolean) d [(7, v0)] σ (some (0, r.1), r.2) := az_AC.of mt_X5_rewrite rfl rfl rfl (fun Z hZ C => A_X5_rewrite_e C hD n h)
theorem dX7_same_0 : decode cX7_same 0 = .ok (.aload_n 0, 1) := by decide +kernel
theorem dX7_same_1 : decode cX7_same 1 = .ok (.getfield 9, 3) := by decide +kernel
theorem dX7_same_4 : decode cX7_same 4 = .ok (.aload_n 1, 1) := by decide +kernel
theorem dX7_same_5 : decode cX7_same 5 = .ok (.getfield 9, 3) := by decide +kernel
theorem dX7_same_8 : decode cX7_same 8 = .ok (.if_icmp .ne 17, 3) := by decide +kernel
theorem dX7_same_11 : decode cX7_same 11 = .ok (.aload_n 0, 1) := by decide +kernel
theorem dX7_same_12 : decode cX7_same 12 = .ok (.iconst 0, 1) := by decide +kernel
theorem dX7_same_13 : decode cX7_same 13 = .ok (.aload_n 1, 1) := by decide +kernel
theorem dX7_same_14 : decode cX7_same 14 = .ok (.iconst 0, 1) := by decide +kernel
theorem dX7_same_15 : decode cX7_same 15 = .ok (.invokevirtual 39, 3) := by decide +kernel
theorem dX7_same_18 : decode cX7_same 18 = .ok (.ifCond .eq 7, 3) := by decide +kernel
theorem dX7_same_21 : decode cX7_same 21 = .ok (.iconst 1, 1) := by decide +kernel
theorem dX7_same_22 : decode cX7_same 22 = .ok (.goto 4, 3) := by decide +kernel
theorem dX7_same_25 : decode cX7_same 25 = .ok (.iconst 0, 1) := by decide +kernel
theorem dX7_same_26 : decode cX7_same 26 = .ok (.ireturn, 1) := by decide +kernel
set_option maxRecDepth 10000 in
set_option maxHeartbeats 4000000 in
theorem A_X7_same_e {Z : az_Z} {d : Nat} (C : az_C Z yX7_same cX7_same 2 (some .boolean) d) (hD : 2 ≤ d) (n : Nat) {σ : az_Hp} {v0 v1 : Int} {r : Int} (h : fz_X7_same n σ v0 v1 = some r) : az_AW Z 2 0 [(9, v0), (9, v1)] [] σ (some (0, r), σ) := by
  have hd1 : 1 ≤ d := by omega
  unfold fz_X7_same at h
  refine az_al0 (pc := 0) C rfl rfl dX7_same_0 ?_
  refine az_getI (pc := 1) C fl_X7_9 rfl dX7_same_1 ?_
  refine az_al1 (pc := 4) C rfl rfl dX7_same_4 ?_
  refine az_getI (pc := 5) C fl_X7_9 rfl dX7_same_5 ?_
  refine az_icmp_ne (pc := 8) (tgt := 25) C h dX7_same_8 (by decide) (fun _ h => ?_) (fun _ h => ?_)
  · refine az_ik0 (pc := 25) C dX7_same_25 ?_
    obtain rfl := Option.some.inj h
    exact az_zreturn (pc := 26) C (by decide) dX7_same_26 rfl
  refine az_al0 (pc := 11) C rfl rfl dX7_same_11 ?_
  refine az_ik0 (pc := 12) C dX7_same_12 ?_
  refine az_al1 (pc := 13) C rfl rfl dX7_same_13 ?_
  refine az_ik0 (pc := 14) C dX7_same_14 ?_
  refine az_cV3pi (pc := 15) (c := 7) C hd1 h mv_X7_samePart ml_X7_39 rfl (fun x hx => A_X7_samePart (by omega) n hx) dX7_same_15 (fun r1 h => ?_)
  refine az_if_eq (pc := 18) (tgt := 25) C h dX7_same_18 (by decide) (fun _ h => ?_) (fun _ h => ?_)
  · refine az_ik0 (pc := 25) C dX7_same_25 ?_
    obtain rfl := Option.some.inj h
    exact az_zreturn (pc := 26) C (by decide) dX7_same_26 rfl
  refine az_ik1 (pc := 21) C dX7_same_21 ?_
  refine az_goto (pc := 22) (tgt := 26) C dX7_same_22 (by decide) ?_
  obtain rfl := Option.some.inj h
  exact az_zreturn (pc := 26) C (by decide) dX7_same_26 rfl
set_option maxRecDepth 10000 in
set_option maxHeartbeats 4000000 in
theorem A_X7_same {l : Launch} {d : Nat} (hD : 2 ≤ d) (n : Nat) {σ : az_Hp} {v0 v1 : Int} {r : Int} (h : fz_X7_same n σ v0 v1 = some r) : az_AC l yX7_same cX7_same 2 (some .boolean) d [(9, v0), (9, v1)] σ (some (0, r), σ) := az_AC.of mt_X7_same rfl rfl rfl (fun Z hZ C => A_X7_same_e C hD n h)
theorem dX5_reduceAll_0 : decode cX5_reduceAll 0 = .ok (.aload_n 0, 1) := by decide +kernel
theorem dX5_reduceAll_1 : decode cX5_reduceAll 1 = .ok (.iconst 0, 1) := by decide +kernel
theorem dX5_reduceAll_2 : decode cX5_reduceAll 2 = .ok (.putfield 28, 3) := by decide +kernel
theorem dX5_reduceAll_5 : decode cX5_reduceAll 5 = .ok (.iconst 0, 1) := by decide +kernel
theorem dX5_reduceAll_6 : decode cX5_reduceAll 6 = .ok (.istore_n 2, 1) := by decide +kernel
theorem dX5_reduceAll_7 : decode cX5_reduceAll 7 = .ok (.iload_n 2, 1) := by decide +kernel
theorem dX5_reduceAll_8 : decode cX5_reduceAll 8 = .ok (.bipush 60, 2) := by decide +kernel
theorem dX5_reduceAll_10 : decode cX5_reduceAll 10 = .ok (.if_icmp .gt 103, 3) := by decide +kernel
theorem dX5_reduceAll_13 : decode cX5_reduceAll 13 = .ok (.aload_n 0, 1) := by decide +kernel
theorem dX5_reduceAll_14 : decode cX5_reduceAll 14 = .ok (.getfield 43, 3) := by decide +kernel
theorem dX5_reduceAll_17 : decode cX5_reduceAll 17 = .ok (.iload_n 2, 1) := by decide +kernel
theorem dX5_reduceAll_18 : decode cX5_reduceAll 18 = .ok (.aaload, 1) := by decide +kernel
theorem dX5_reduceAll_19 : decode cX5_reduceAll 19 = .ok (.aload_n 0, 1) := by decide +kernel
theorem dX5_reduceAll_20 : decode cX5_reduceAll 20 = .ok (.getfield 14, 3) := by decide +kernel
theorem dX5_reduceAll_23 : decode cX5_reduceAll 23 = .ok (.invokevirtual 166, 3) := by decide +kernel
theorem dX5_reduceAll_26 : decode cX5_reduceAll 26 = .ok (.aload_n 0, 1) := by decide +kernel
theorem dX5_reduceAll_27 : decode cX5_reduceAll 27 = .ok (.iload_n 1, 1) := by decide +kernel
theorem dX5_reduceAll_28 : decode cX5_reduceAll 28 = .ok (.invokevirtual 170, 3) := by decide +kernel
theorem dX5_reduceAll_31 : decode cX5_reduceAll 31 = .ok (.ifCond .ne 5, 3) := by decide +kernel
theorem dX5_reduceAll_34 : decode cX5_reduceAll 34 = .ok (.iconst 0, 1) := by decide +kernel
theorem dX5_reduceAll_35 : decode cX5_reduceAll 35 = .ok (.ireturn, 1) := by decide +kernel
theorem dX5_reduceAll_36 : decode cX5_reduceAll 36 = .ok (.iload_n 2, 1) := by decide +kernel
theorem dX5_reduceAll_37 : decode cX5_reduceAll 37 = .ok (.bipush 60, 2) := by decide +kernel
theorem dX5_reduceAll_39 : decode cX5_reduceAll 39 = .ok (.if_icmp .ne 6, 3) := by decide +kernel
theorem dX5_reduceAll_42 : decode cX5_reduceAll 42 = .ok (.bipush 8, 2) := by decide +kernel
theorem dX5_reduceAll_44 : decode cX5_reduceAll 44 = .ok (.ireturn, 1) := by decide +kernel
theorem dX5_reduceAll_45 : decode cX5_reduceAll 45 = .ok (.aload_n 0, 1) := by decide +kernel
theorem dX5_reduceAll_46 : decode cX5_reduceAll 46 = .ok (.invokevirtual 173, 3) := by decide +kernel
theorem dX5_reduceAll_49 : decode cX5_reduceAll 49 = .ok (.ifCond .ne 6, 3) := by decide +kernel
theorem dX5_reduceAll_52 : decode cX5_reduceAll 52 = .ok (.bipush 6, 2) := by decide +kernel
theorem dX5_reduceAll_54 : decode cX5_reduceAll 54 = .ok (.ireturn, 1) := by decide +kernel
theorem dX5_reduceAll_55 : decode cX5_reduceAll 55 = .ok (.aload_n 0, 1) := by decide +kernel
theorem dX5_reduceAll_56 : decode cX5_reduceAll 56 = .ok (.dup, 1) := by decide +kernel
theorem dX5_reduceAll_57 : decode cX5_reduceAll 57 = .ok (.getfield 28, 3) := by decide +kernel
theorem dX5_reduceAll_60 : decode cX5_reduceAll 60 = .ok (.iconst 1, 1) := by decide +kernel
theorem dX5_reduceAll_61 : decode cX5_reduceAll 61 = .ok (.iadd, 1) := by decide +kernel
theorem dX5_reduceAll_62 : decode cX5_reduceAll 62 = .ok (.putfield 28, 3) := by decide +kernel
theorem dX5_reduceAll_65 : decode cX5_reduceAll 65 = .ok (.iconst 0, 1) := by decide +kernel
theorem dX5_reduceAll_66 : decode cX5_reduceAll 66 = .ok (.istore_n 3, 1) := by decide +kernel
theorem dX5_reduceAll_67 : decode cX5_reduceAll 67 = .ok (.iload_n 3, 1) := by decide +kernel
theorem dX5_reduceAll_68 : decode cX5_reduceAll 68 = .ok (.iload_n 2, 1) := by decide +kernel
theorem dX5_reduceAll_69 : decode cX5_reduceAll 69 = .ok (.if_icmp .gt 38, 3) := by decide +kernel
theorem dX5_reduceAll_72 : decode cX5_reduceAll 72 = .ok (.aload_n 0, 1) := by decide +kernel
theorem dX5_reduceAll_73 : decode cX5_reduceAll 73 = .ok (.getfield 43, 3) := by decide +kernel
theorem dX5_reduceAll_76 : decode cX5_reduceAll 76 = .ok (.iload_n 3, 1) := by decide +kernel
theorem dX5_reduceAll_77 : decode cX5_reduceAll 77 = .ok (.aaload, 1) := by decide +kernel
theorem dX5_reduceAll_78 : decode cX5_reduceAll 78 = .ok (.aload_n 0, 1) := by decide +kernel
theorem dX5_reduceAll_79 : decode cX5_reduceAll 79 = .ok (.getfield 14, 3) := by decide +kernel
theorem dX5_reduceAll_82 : decode cX5_reduceAll 82 = .ok (.invokevirtual 177, 3) := by decide +kernel
theorem dX5_reduceAll_85 : decode cX5_reduceAll 85 = .ok (.ifCond .eq 16, 3) := by decide +kernel
theorem dX5_reduceAll_88 : decode cX5_reduceAll 88 = .ok (.aload_n 0, 1) := by decide +kernel
theorem dX5_reduceAll_89 : decode cX5_reduceAll 89 = .ok (.aload_n 0, 1) := by decide +kernel
theorem dX5_reduceAll_90 : decode cX5_reduceAll 90 = .ok (.getfield 28, 3) := by decide +kernel
theorem dX5_reduceAll_93 : decode cX5_reduceAll 93 = .ok (.iload_n 3, 1) := by decide +kernel
theorem dX5_reduceAll_94 : decode cX5_reduceAll 94 = .ok (.isub, 1) := by decide +kernel
theorem dX5_reduceAll_95 : decode cX5_reduceAll 95 = .ok (.putfield 31, 3) := by decide +kernel
theorem dX5_reduceAll_98 : decode cX5_reduceAll 98 = .ok (.bipush 7, 2) := by decide +kernel
theorem dX5_reduceAll_100 : decode cX5_reduceAll 100 = .ok (.ireturn, 1) := by decide +kernel
theorem dX5_reduceAll_101 : decode cX5_reduceAll 101 = .ok (.iinc 3 1, 3) := by decide +kernel
theorem dX5_reduceAll_104 : decode cX5_reduceAll 104 = .ok (.goto (-37), 3) := by decide +kernel
theorem dX5_reduceAll_107 : decode cX5_reduceAll 107 = .ok (.iinc 2 1, 3) := by decide +kernel
theorem dX5_reduceAll_110 : decode cX5_reduceAll 110 = .ok (.goto (-103), 3) := by decide +kernel
theorem dX5_reduceAll_113 : decode cX5_reduceAll 113 = .ok (.bipush 8, 2) := by decide +kernel
theorem dX5_reduceAll_115 : decode cX5_reduceAll 115 = .ok (.ireturn, 1) := by decide +kernel
set_option maxRecDepth 10000 in
set_option maxHeartbeats 4000000 in
theorem A_X5_reduceAll_67 {Z : az_Z} {d : Nat} (C : az_C Z yX5_reduceAll cX5_reduceAll 4 (some .int) d) (hD : 6 ≤ d) (n : Nat) {k7 : az_Hp → Int → Int → Int → Option (Int × az_Hp)} (hk7 : ∀ {σ : az_Hp} {v0 v1 v2 : Int} {r : (Int × az_Hp)}, k7 σ v0 v1 v2 = some r → az_AW Z 4 7 [(7, v0), (0, v1), (0, v2), (31, 0)] [] σ (some (0, r.1), r.2)) (k : Nat) : ∀ {σ : az_Hp} {v0 v1 v2 v3 : Int} {r : (Int × az_Hp)}, fz_X5_reduceAll_67 n k7 k σ v0 v1 v2 v3 = some r → az_AW Z 4 67 [(7, v0), (0, v1), (0, v2), (0, v3)] [] σ (some (0, r.1), r.2) := by
  have hd1 : 1 ≤ d := by omega
  induction k with
  | zero => intro σ v0 v1 v2 v3 r h; simp [fz_X5_reduceAll_67] at h
  | succ k ih =>
    intro σ v0 v1 v2 v3 r h
    unfold fz_X5_reduceAll_67 at h
    refine az_il3 (pc := 67) C dX5_reduceAll_67 ?_
    refine az_il2 (pc := 68) C dX5_reduceAll_68 ?_
    refine az_icmp_gt (pc := 69) (tgt := 107) C h dX5_reduceAll_69 (by decide) (fun _ h => ?_) (fun _ h => ?_)
    · refine az_ii2 (pc := 107) C az_n1 rfl rfl dX5_reduceAll_107 ?_
      refine az_goto (pc := 110) (tgt := 7) C dX5_reduceAll_110 (by decide) ?_
      exact (az_wkk (hk7 h) (az_sE (az_sE (az_sE (az_sJ az_sN)))))
    refine az_al0 (pc := 72) C rfl rfl dX5_reduceAll_72 ?_
    refine az_getR (pc := 73) (c2 := 16) C h fl_X5_43 rfl rfl dX5_reduceAll_73 (fun h => ?_)
    refine az_il3 (pc := 76) C dX5_reduceAll_76 ?_
    refine az_aaload (pc := 77) C h dX5_reduceAll_77 (fun h => ?_)
    refine az_al0 (pc := 78) C rfl rfl dX5_reduceAll_78 ?_
    refine az_getR (pc := 79) (c2 := 7) C h fl_X5_14 rfl rfl dX5_reduceAll_79 (fun h => ?_)
    refine az_cV1pi (pc := 82) (c := 7) C hd1 h mv_X7_same ml_X5_177 rfl (fun x hx => A_X7_same (by omega) n hx) dX5_reduceAll_82 (fun r4 h => ?_)
    refine az_if_eq (pc := 85) (tgt := 101) C h dX5_reduceAll_85 (by decide) (fun _ h => ?_) (fun _ h => ?_)
    · refine az_ii3 (pc := 101) C az_n1 rfl rfl dX5_reduceAll_101 ?_
      refine az_goto (pc := 104) (tgt := 67) C dX5_reduceAll_104 (by decide) ?_
      exact (ih h)
    refine az_al0 (pc := 88) C rfl rfl dX5_reduceAll_88 ?_
    refine az_al0 (pc := 89) C rfl rfl dX5_reduceAll_89 ?_
    refine az_getI (pc := 90) C fl_X5_28 rfl dX5_reduceAll_90 ?_
    refine az_il3 (pc := 93) C dX5_reduceAll_93 ?_
    refine az_isub (pc := 94) C dX5_reduceAll_94 ?_
    refine az_putI (pc := 95) C fl_X5_31 (Or.inl rfl) rfl dX5_reduceAll_95 ?_
    refine az_bk7 (pc := 98) C dX5_reduceAll_98 ?_
    obtain rfl := Option.some.inj h
    exact az_ireturn (pc := 100) C dX5_reduceAll_100 rfl
set_option maxRecDepth 10000 in
set_option maxHeartbeats 4000000 in
theorem A_X5_reduceAll_7 {Z : az_Z} {d : Nat} (C : az_C Z yX5_reduceAll cX5_reduceAll 4 (some .int) d) (hD : 6 ≤ d) (n : Nat) (k : Nat) : ∀ {σ : az_Hp} {v0 v1 v2 : Int} {r : (Int × az_Hp)}, fz_X5_reduceAll_7 n k σ v0 v1 v2 = some r → az_AW Z 4 7 [(7, v0), (0, v1), (0, v2), (31, 0)] [] σ (some (0, r.1), r.2) := by
  have hd1 : 1 ≤ d := by omega
  induction k with
  | zero => intro σ v0 v1 v2 r h; simp [fz_X5_reduceAll_7] at h
  | succ k ih =>
    intro σ v0 v1 v2 r h
    unfold fz_X5_reduceAll_7 at h
    refine az_il2 (pc := 7) C dX5_reduceAll_7 ?_
    refine az_bk60 (pc := 8) C dX5_reduceAll_8 ?_
    refine az_icmp_gt (pc := 10) (tgt := 113) C h dX5_reduceAll_10 (by decide) (fun _ h => ?_) (fun _ h => ?_)
    · refine az_bk8 (pc := 113) C dX5_reduceAll_113 ?_
      obtain rfl := Option.some.inj h
      exact az_ireturn (pc := 115) C dX5_reduceAll_115 rfl
    refine az_al0 (pc := 13) C rfl rfl dX5_reduceAll_13 ?_
    refine az_getR (pc := 14) (c2 := 16) C h fl_X5_43 rfl rfl dX5_reduceAll_14 (fun h => ?_)
    refine az_il2 (pc := 17) C dX5_reduceAll_17 ?_
    refine az_aaload (pc := 18) C h dX5_reduceAll_18 (fun h => ?_)
    refine az_al0 (pc := 19) C rfl rfl dX5_reduceAll_19 ?_
    refine az_getR (pc := 20) (c2 := 7) C h fl_X5_14 rfl rfl dX5_reduceAll_20 (fun h => ?_)
    refine az_cV1v (pc := 23) (c := 7) C hd1 h mv_X7_take ml_X5_166 rfl (fun x hx => A_X7_take (by omega) hx) dX5_reduceAll_23 (fun r4 h => ?_)
    refine az_al0 (pc := 26) C rfl rfl dX5_reduceAll_26 ?_
    refine az_il1 (pc := 27) C dX5_reduceAll_27 ?_
    refine az_cV1ii (pc := 28) (c := 5) C hd1 h mv_X5_findPlace ml_X5_170 rfl (fun x hx => A_X5_findPlace (by omega) n hx) dX5_reduceAll_28 (fun r5 h => ?_)
    refine az_if_ne (pc := 31) (tgt := 36) C h dX5_reduceAll_31 (by decide) (fun _ h => ?_) (fun _ h => ?_)
    · refine az_il2 (pc := 36) C dX5_reduceAll_36 ?_
      refine az_bk60 (pc := 37) C dX5_reduceAll_37 ?_
      refine az_icmp_ne (pc := 39) (tgt := 45) C h dX5_reduceAll_39 (by decide) (fun _ h => ?_) (fun _ h => ?_)
      · refine az_al0 (pc := 45) C rfl rfl dX5_reduceAll_45 ?_
        refine az_cV0ii (pc := 46) (c := 5) C hd1 h mv_X5_rewrite ml_X5_173 rfl (fun x hx => A_X5_rewrite (by omega) n hx) dX5_reduceAll_46 (fun r6 h => ?_)
        refine az_if_ne (pc := 49) (tgt := 55) C h dX5_reduceAll_49 (by decide) (fun _ h => ?_) (fun _ h => ?_)
        · refine az_al0 (pc := 55) C rfl rfl dX5_reduceAll_55 ?_
          refine az_dup (pc := 56) C rfl rfl dX5_reduceAll_56 ?_
          refine az_getI (pc := 57) C fl_X5_28 rfl dX5_reduceAll_57 ?_
          refine az_ik1 (pc := 60) C dX5_reduceAll_60 ?_
          refine az_iadd (pc := 61) C dX5_reduceAll_61 ?_
          refine az_putI (pc := 62) C fl_X5_28 (Or.inl rfl) rfl dX5_reduceAll_62 ?_
          refine az_ik0 (pc := 65) C dX5_reduceAll_65 ?_
          refine az_is3 (pc := 66) C rfl rfl dX5_reduceAll_66 ?_
          exact (A_X5_reduceAll_67 C hD n (fun h => ih h) n h)
        refine az_bk6 (pc := 52) C dX5_reduceAll_52 ?_
        obtain rfl := Option.some.inj h
        exact az_ireturn (pc := 54) C dX5_reduceAll_54 rfl
      refine az_bk8 (pc := 42) C dX5_reduceAll_42 ?_
      obtain rfl := Option.some.inj h
      exact az_ireturn (pc := 44) C dX5_reduceAll_44 rfl
    refine az_ik0 (pc := 34) C dX5_reduceAll_34 ?_
    obtain rfl := Option.some.inj h
    exact az_ireturn (pc := 35) C dX5_reduceAll_35 rfl
set_option maxRecDepth 10000 in
set_option maxHeartbeats 4000000 in
theorem A_X5_reduceAll_e {Z : az_Z} {d : Nat} (C : az_C Z yX5_reduceAll cX5_reduceAll 4 (some .int) d) (hD : 6 ≤ d) (n : Nat) {σ : az_Hp} {v0 v1 : Int} {r : (Int × az_Hp)} (h : fz_X5_reduceAll n σ v0 v1 = some r) : az_AW Z 4 0 [(7, v0), (0, v1), (31, 0), (31, 0)] [] σ (some (0, r.1), r.2) := by
  have hd1 : 1 ≤ d := by omega
  unfold fz_X5_reduceAll at h
  refine az_al0 (pc := 0) C rfl rfl dX5_reduceAll_0 ?_
  refine az_ik0 (pc := 1) C dX5_reduceAll_1 ?_
  refine az_putI (pc := 2) C fl_X5_28 (Or.inl rfl) rfl dX5_reduceAll_2 ?_
  refine az_ik0 (pc := 5) C dX5_reduceAll_5 ?_
  refine az_is2 (pc := 6) C rfl rfl dX5_reduceAll_6 ?_
  exact (A_X5_reduceAll_7 C hD n n h)
set_option maxRecDepth 10000 in
set_option maxHeartbeats 4000000 in
theorem A_X5_reduceAll {l : Launch} {d : Nat} (hD : 6 ≤ d) (n : Nat) {σ : az_Hp} {v0 v1 : Int} {r : (Int × az_Hp)} (h : fz_X5_reduceAll n σ v0 v1 = some r) : az_AC l yX5_reduceAll cX5_reduceAll 4 (some .int) d [(7, v0), (0, v1)] σ (some (0, r.1), r.2) := az_AC.of mt_X5_reduceAll rfl rfl rfl (fun Z hZ C => A_X5_reduceAll_e C hD n h)
theorem dX10_reduce_0 : decode cX10_reduce 0 = .ok (.iload_n 1, 1) := by decide +kernel
theorem dX10_reduce_1 : decode cX10_reduce 1 = .ok (.ifCond .eq 14, 3) := by decide +kernel
theorem dX10_reduce_4 : decode cX10_reduce 4 = .ok (.iload_n 1, 1) := by decide +kernel
theorem dX10_reduce_5 : decode cX10_reduce 5 = .ok (.iconst 1, 1) := by decide +kernel
theorem dX10_reduce_6 : decode cX10_reduce 6 = .ok (.if_icmp .eq 9, 3) := by decide +kernel
theorem dX10_reduce_9 : decode cX10_reduce 9 = .ok (.aload_n 0, 1) := by decide +kernel
theorem dX10_reduce_10 : decode cX10_reduce 10 = .ok (.iconst 1, 1) := by decide +kernel
theorem dX10_reduce_11 : decode cX10_reduce 11 = .ok (.invokevirtual 112, 3) := by decide +kernel
theorem dX10_reduce_14 : decode cX10_reduce 14 = .ok (.ireturn, 1) := by decide +kernel
theorem dX10_reduce_15 : decode cX10_reduce 15 = .ok (.aload_n 0, 1) := by decide +kernel
theorem dX10_reduce_16 : decode cX10_reduce 16 = .ok (.getfield 82, 3) := by decide +kernel
theorem dX10_reduce_19 : decode cX10_reduce 19 = .ok (.getfield 129, 3) := by decide +kernel
theorem dX10_reduce_22 : decode cX10_reduce 22 = .ok (.ifCond .ne 9, 3) := by decide +kernel
theorem dX10_reduce_25 : decode cX10_reduce 25 = .ok (.aload_n 0, 1) := by decide +kernel
theorem dX10_reduce_26 : decode cX10_reduce 26 = .ok (.iconst 3, 1) := by decide +kernel
theorem dX10_reduce_27 : decode cX10_reduce 27 = .ok (.invokevirtual 112, 3) := by decide +kernel
theorem dX10_reduce_30 : decode cX10_reduce 30 = .ok (.ireturn, 1) := by decide +kernel
theorem dX10_reduce_31 : decode cX10_reduce 31 = .ok (.aload_n 0, 1) := by decide +kernel
theorem dX10_reduce_32 : decode cX10_reduce 32 = .ok (.getfield 73, 3) := by decide +kernel
theorem dX10_reduce_35 : decode cX10_reduce 35 = .ok (.getfield 287, 3) := by decide +kernel
theorem dX10_reduce_38 : decode cX10_reduce 38 = .ok (.aload_n 0, 1) := by decide +kernel
theorem dX10_reduce_39 : decode cX10_reduce 39 = .ok (.getfield 82, 3) := by decide +kernel
theorem dX10_reduce_42 : decode cX10_reduce 42 = .ok (.invokevirtual 234, 3) := by decide +kernel
theorem dX10_reduce_45 : decode cX10_reduce 45 = .ok (.aload_n 0, 1) := by decide +kernel
theorem dX10_reduce_46 : decode cX10_reduce 46 = .ok (.getfield 73, 3) := by decide +kernel
theorem dX10_reduce_49 : decode cX10_reduce 49 = .ok (.iload_n 1, 1) := by decide +kernel
theorem dX10_reduce_50 : decode cX10_reduce 50 = .ok (.invokevirtual 300, 3) := by decide +kernel
theorem dX10_reduce_53 : decode cX10_reduce 53 = .ok (.istore_n 2, 1) := by decide +kernel
theorem dX10_reduce_54 : decode cX10_reduce 54 = .ok (.aload_n 0, 1) := by decide +kernel
theorem dX10_reduce_55 : decode cX10_reduce 55 = .ok (.getfield 82, 3) := by decide +kernel
theorem dX10_reduce_58 : decode cX10_reduce 58 = .ok (.aload_n 0, 1) := by decide +kernel
theorem dX10_reduce_59 : decode cX10_reduce 59 = .ok (.getfield 73, 3) := by decide +kernel
theorem dX10_reduce_62 : decode cX10_reduce 62 = .ok (.getfield 287, 3) := by decide +kernel
theorem dX10_reduce_65 : decode cX10_reduce 65 = .ok (.invokevirtual 234, 3) := by decide +kernel
theorem dX10_reduce_68 : decode cX10_reduce 68 = .ok (.iload_n 2, 1) := by decide +kernel
theorem dX10_reduce_69 : decode cX10_reduce 69 = .ok (.bipush 7, 2) := by decide +kernel
theorem dX10_reduce_71 : decode cX10_reduce 71 = .ok (.if_icmp .ne 14, 3) := by decide +kernel
theorem dX10_reduce_74 : decode cX10_reduce 74 = .ok (.aload_n 0, 1) := by decide +kernel
theorem dX10_reduce_75 : decode cX10_reduce 75 = .ok (.aload_n 0, 1) := by decide +kernel
theorem dX10_reduce_76 : decode cX10_reduce 76 = .ok (.getfield 73, 3) := by decide +kernel
theorem dX10_reduce_79 : decode cX10_reduce 79 = .ok (.getfield 303, 3) := by decide +kernel
theorem dX10_reduce_82 : decode cX10_reduce 82 = .ok (.putfield 92, 3) := by decide +kernel
theorem dX10_reduce_85 : decode cX10_reduce 85 = .ok (.iload_n 2, 1) := by decide +kernel
theorem dX10_reduce_86 : decode cX10_reduce 86 = .ok (.ifCond .ne 17, 3) := by decide +kernel
theorem dX10_reduce_89 : decode cX10_reduce 89 = .ok (.aload_n 0, 1) := by decide +kernel
theorem dX10_reduce_90 : decode cX10_reduce 90 = .ok (.aload_n 0, 1) := by decide +kernel
theorem dX10_reduce_91 : decode cX10_reduce 91 = .ok (.getfield 73, 3) := by decide +kernel
theorem dX10_reduce_94 : decode cX10_reduce 94 = .ok (.getfield 306, 3) := by decide +kernel
theorem dX10_reduce_97 : decode cX10_reduce 97 = .ok (.invokevirtual 138, 3) := by decide +kernel
theorem dX10_reduce_100 : decode cX10_reduce 100 = .ok (.goto 8, 3) := by decide +kernel
theorem dX10_reduce_103 : decode cX10_reduce 103 = .ok (.aload_n 0, 1) := by decide +kernel
theorem dX10_reduce_104 : decode cX10_reduce 104 = .ok (.iload_n 2, 1) := by decide +kernel
theorem dX10_reduce_105 : decode cX10_reduce 105 = .ok (.invokevirtual 112, 3) := by decide +kernel
theorem dX10_reduce_108 : decode cX10_reduce 108 = .ok (.ireturn, 1) := by decide +kernel
set_option maxRecDepth 10000 in
set_option maxHeartbeats 4000000 in
theorem A_X10_reduce_85 {Z : az_Z} {d : Nat} (C : az_C Z yX10_reduce cX10_reduce 3 (some .int) d) (hD : 7 ≤ d) (n : Nat) {σ : az_Hp} {v0 v2 : Int} {r : (Int × az_Hp)} (h : fz_X10_reduce_85 n σ v0 v2 = some r) : az_AW Z 3 85 [(12, v0), (31, 0), (0, v2)] [] σ (some (0, r.1), r.2) := by
  have hd1 : 1 ≤ d := by omega
  unfold fz_X10_reduce_85 at h
  refine az_il2 (pc := 85) C dX10_reduce_85 ?_
  refine az_if_ne (pc := 86) (tgt := 103) C h dX10_reduce_86 (by decide) (fun _ h => ?_) (fun _ h => ?_)
  · refine az_al0 (pc := 103) C rfl rfl dX10_reduce_103 ?_
    refine az_il2 (pc := 104) C dX10_reduce_104 ?_
    refine az_cV1ii (pc := 105) (c := 10) C hd1 h mv_X10_refuse ml_X10_112 rfl (fun x hx => A_X10_refuse (by omega) hx) dX10_reduce_105 (fun r1 h => ?_)
    obtain rfl := Option.some.inj h
    exact az_ireturn (pc := 108) C dX10_reduce_108 rfl
  refine az_al0 (pc := 89) C rfl rfl dX10_reduce_89 ?_
  refine az_al0 (pc := 90) C rfl rfl dX10_reduce_90 ?_
  refine az_getR (pc := 91) (c2 := 5) C h fl_X10_73 rfl rfl dX10_reduce_91 (fun h => ?_)
  refine az_getI (pc := 94) C fl_X10_306 rfl dX10_reduce_94 ?_
  refine az_cV1ii (pc := 97) (c := 10) C hd1 h mv_X10_give ml_X10_138 rfl (fun x hx => A_X10_give (by omega) hx) dX10_reduce_97 (fun r3 h => ?_)
  refine az_goto (pc := 100) (tgt := 108) C dX10_reduce_100 (by decide) ?_
  obtain rfl := Option.some.inj h
  exact az_ireturn (pc := 108) C dX10_reduce_108 rfl
set_option maxRecDepth 10000 in
set_option maxHeartbeats 4000000 in
theorem A_X10_reduce_15 {Z : az_Z} {d : Nat} (C : az_C Z yX10_reduce cX10_reduce 3 (some .int) d) (hD : 7 ≤ d) (n : Nat) {σ : az_Hp} {v0 v1 : Int} {r : (Int × az_Hp)} (h : fz_X10_reduce_15 n σ v0 v1 = some r) : az_AW Z 3 15 [(12, v0), (0, v1), (31, 0)] [] σ (some (0, r.1), r.2) := by
  have hd1 : 1 ≤ d := by omega
  unfold fz_X10_reduce_15 at h
  refine az_al0 (pc := 15) C rfl rfl dX10_reduce_15 ?_
  refine az_getR (pc := 16) (c2 := 7) C h fl_X10_82 rfl rfl dX10_reduce_16 (fun h => ?_)
  refine az_getI (pc := 19) C fl_X10_129 rfl dX10_reduce_19 ?_
  refine az_if_ne (pc := 22) (tgt := 31) C h dX10_reduce_22 (by decide) (fun _ h => ?_) (fun _ h => ?_)
  · refine az_al0 (pc := 31) C rfl rfl dX10_reduce_31 ?_
    refine az_getR (pc := 32) (c2 := 5) C h fl_X10_73 rfl rfl dX10_reduce_32 (fun h => ?_)
    refine az_getR (pc := 35) (c2 := 7) C h fl_X10_287 rfl rfl dX10_reduce_35 (fun h => ?_)
    refine az_al0 (pc := 38) C rfl rfl dX10_reduce_38 ?_
    refine az_getR (pc := 39) (c2 := 7) C h fl_X10_82 rfl rfl dX10_reduce_39 (fun h => ?_)
    refine az_cV1v (pc := 42) (c := 7) C hd1 h mv_X7_take ml_X10_234 rfl (fun x hx => A_X7_take (by omega) hx) dX10_reduce_42 (fun r5 h => ?_)
    refine az_al0 (pc := 45) C rfl rfl dX10_reduce_45 ?_
    refine az_getR (pc := 46) (c2 := 5) C h fl_X10_73 rfl rfl dX10_reduce_46 (fun h => ?_)
    refine az_il1 (pc := 49) C dX10_reduce_49 ?_
    refine az_cV1ii (pc := 50) (c := 5) C hd1 h mv_X5_reduceAll ml_X10_300 rfl (fun x hx => A_X5_reduceAll (by omega) n hx) dX10_reduce_50 (fun r7 h => ?_)
    refine az_is2 (pc := 53) C rfl rfl dX10_reduce_53 ?_
    refine az_al0 (pc := 54) C rfl rfl dX10_reduce_54 ?_
    refine az_getR (pc := 55) (c2 := 7) C h fl_X10_82 rfl rfl dX10_reduce_55 (fun h => ?_)
    refine az_al0 (pc := 58) C rfl rfl dX10_reduce_58 ?_
    refine az_getR (pc := 59) (c2 := 5) C h fl_X10_73 rfl rfl dX10_reduce_59 (fun h => ?_)
    refine az_getR (pc := 62) (c2 := 7) C h fl_X10_287 rfl rfl dX10_reduce_62 (fun h => ?_)
    refine az_cV1v (pc := 65) (c := 7) C hd1 h mv_X7_take ml_X10_234 rfl (fun x hx => A_X7_take (by omega) hx) dX10_reduce_65 (fun r11 h => ?_)
    refine az_il2 (pc := 68) C dX10_reduce_68 ?_
    refine az_bk7 (pc := 69) C dX10_reduce_69 ?_
    refine az_icmp_ne (pc := 71) (tgt := 85) C h dX10_reduce_71 (by decide) (fun _ h => ?_) (fun _ h => ?_)
    · exact (az_wkk (A_X10_reduce_85 C hD n h) (az_sE (az_sJ (az_sE az_sN))))
    refine az_al0 (pc := 74) C rfl rfl dX10_reduce_74 ?_
    refine az_al0 (pc := 75) C rfl rfl dX10_reduce_75 ?_
    refine az_getR (pc := 76) (c2 := 5) C h fl_X10_73 rfl rfl dX10_reduce_76 (fun h => ?_)
    refine az_getI (pc := 79) C fl_X10_303 rfl dX10_reduce_79 ?_
    refine az_putI (pc := 82) C fl_X10_92 (Or.inl rfl) rfl dX10_reduce_82 ?_
    exact (az_wkk (A_X10_reduce_85 C hD n h) (az_sE (az_sJ (az_sE az_sN))))
  refine az_al0 (pc := 25) C rfl rfl dX10_reduce_25 ?_
  refine az_ik3 (pc := 26) C dX10_reduce_26 ?_
  refine az_cV1ii (pc := 27) (c := 10) C hd1 h mv_X10_refuse ml_X10_112 rfl (fun x hx => A_X10_refuse (by omega) hx) dX10_reduce_27 (fun r13 h => ?_)
  obtain rfl := Option.some.inj h
  exact az_ireturn (pc := 30) C dX10_reduce_30 rfl
set_option maxRecDepth 10000 in
set_option maxHeartbeats 4000000 in
theorem A_X10_reduce_e {Z : az_Z} {d : Nat} (C : az_C Z yX10_reduce cX10_reduce 3 (some .int) d) (hD : 7 ≤ d) (n : Nat) {σ : az_Hp} {v0 v1 : Int} {r : (Int × az_Hp)} (h : fz_X10_reduce n σ v0 v1 = some r) : az_AW Z 3 0 [(12, v0), (0, v1), (31, 0)] [] σ (some (0, r.1), r.2) := by
  have hd1 : 1 ≤ d := by omega
  unfold fz_X10_reduce at h
  refine az_il1 (pc := 0) C dX10_reduce_0 ?_
  refine az_if_eq (pc := 1) (tgt := 15) C h dX10_reduce_1 (by decide) (fun _ h => ?_) (fun _ h => ?_)
  · exact (A_X10_reduce_15 C hD n h)
  refine az_il1 (pc := 4) C dX10_reduce_4 ?_
  refine az_ik1 (pc := 5) C dX10_reduce_5 ?_
  refine az_icmp_eq (pc := 6) (tgt := 15) C h dX10_reduce_6 (by decide) (fun _ h => ?_) (fun _ h => ?_)
  · exact (A_X10_reduce_15 C hD n h)
  refine az_al0 (pc := 9) C rfl rfl dX10_reduce_9 ?_
  refine az_ik1 (pc := 10) C dX10_reduce_10 ?_
  refine az_cV1ii (pc := 11) (c := 10) C hd1 h mv_X10_refuse ml_X10_112 rfl (fun x hx => A_X10_refuse (by omega) hx) dX10_reduce_11 (fun r1 h => ?_)
  obtain rfl := Option.some.inj h
  exact az_ireturn (pc := 14) C dX10_reduce_14 rfl
set_option maxRecDepth 10000 in
set_option maxHeartbeats 4000000 in
theorem A_X10_reduce {l : Launch} {d : Nat} (hD : 7 ≤ d) (n : Nat) {σ : az_Hp} {v0 v1 : Int} {r : (Int × az_Hp)} (h : fz_X10_reduce n σ v0 v1 = some r) : az_AC l yX10_reduce cX10_reduce 3 (some .int) d [(12, v0), (0, v1)] σ (some (0, r.1), r.2) := az_AC.of mt_X10_reduce rfl rfl rfl (fun Z hZ C => A_X10_reduce_e C hD n h)
theorem dX10_status_0 : decode cX10_status 0 = .ok (.aload_n 0, 1) := by decide +kernel
theorem dX10_status_1 : decode cX10_status 1 = .ok (.getfield 17, 3) := by decide +kernel
theorem dX10_status_4 : decode cX10_status 4 = .ok (.ireturn, 1) := by decide +kernel
set_option maxRecDepth 10000 in
set_option maxHeartbeats 4000000 in
theorem A_X10_status_e {Z : az_Z} {d : Nat} (C : az_C Z yX10_status cX10_status 1 (some .int) d) (hD : 1 ≤ d) {σ : az_Hp} {v0 : Int} {r : Int} (h : fz_X10_status σ v0 = some r) : az_AW Z 1 0 [(12, v0)] [] σ (some (0, r), σ) := by
  have hd1 : 1 ≤ d := by omega
  unfold fz_X10_status at h
  refine az_al0 (pc := 0) C rfl rfl dX10_status_0 ?_
  refine az_getI (pc := 1) C fl_X10_17 rfl dX10_status_1 ?_
  obtain rfl := Option.some.inj h
  exact az_ireturn (pc := 4) C dX10_status_4 rfl
set_option maxRecDepth 10000 in
set_option maxHeartbeats 4000000 in
theorem A_X10_status {l : Launch} {d : Nat} (hD : 1 ≤ d) {σ : az_Hp} {v0 : Int} {r : Int} (h : fz_X10_status σ v0 = some r) : az_AC l yX10_status cX10_status 1 (some .int) d [(12, v0)] σ (some (0, r), σ) := az_AC.of mt_X10_status rfl rfl rfl (fun Z hZ C => A_X10_status_e C hD h)
theorem dX10_step_0 : decode cX10_step 0 = .ok (.iload_n 1, 1) := by decide +kernel
theorem dX10_step_1 : decode cX10_step 1 = .ok (.ifCond .eq 14, 3) := by decide +kernel
theorem dX10_step_4 : decode cX10_step 4 = .ok (.iload_n 1, 1) := by decide +kernel
theorem dX10_step_5 : decode cX10_step 5 = .ok (.iconst 1, 1) := by decide +kernel
theorem dX10_step_6 : decode cX10_step 6 = .ok (.if_icmp .eq 9, 3) := by decide +kernel
theorem dX10_step_9 : decode cX10_step 9 = .ok (.aload_n 0, 1) := by decide +kernel
theorem dX10_step_10 : decode cX10_step 10 = .ok (.iconst 1, 1) := by decide +kernel
theorem dX10_step_11 : decode cX10_step 11 = .ok (.invokevirtual 112, 3) := by decide +kernel
theorem dX10_step_14 : decode cX10_step 14 = .ok (.ireturn, 1) := by decide +kernel
theorem dX10_step_15 : decode cX10_step 15 = .ok (.aload_n 0, 1) := by decide +kernel
theorem dX10_step_16 : decode cX10_step 16 = .ok (.getfield 82, 3) := by decide +kernel
theorem dX10_step_19 : decode cX10_step 19 = .ok (.getfield 129, 3) := by decide +kernel
theorem dX10_step_22 : decode cX10_step 22 = .ok (.ifCond .ne 9, 3) := by decide +kernel
theorem dX10_step_25 : decode cX10_step 25 = .ok (.aload_n 0, 1) := by decide +kernel
theorem dX10_step_26 : decode cX10_step 26 = .ok (.iconst 3, 1) := by decide +kernel
theorem dX10_step_27 : decode cX10_step 27 = .ok (.invokevirtual 112, 3) := by decide +kernel
theorem dX10_step_30 : decode cX10_step 30 = .ok (.ireturn, 1) := by decide +kernel
theorem dX10_step_31 : decode cX10_step 31 = .ok (.aload_n 0, 1) := by decide +kernel
theorem dX10_step_32 : decode cX10_step 32 = .ok (.getfield 73, 3) := by decide +kernel
theorem dX10_step_35 : decode cX10_step 35 = .ok (.getfield 287, 3) := by decide +kernel
theorem dX10_step_38 : decode cX10_step 38 = .ok (.aload_n 0, 1) := by decide +kernel
theorem dX10_step_39 : decode cX10_step 39 = .ok (.getfield 82, 3) := by decide +kernel
theorem dX10_step_42 : decode cX10_step 42 = .ok (.invokevirtual 234, 3) := by decide +kernel
theorem dX10_step_45 : decode cX10_step 45 = .ok (.aload_n 0, 1) := by decide +kernel
theorem dX10_step_46 : decode cX10_step 46 = .ok (.getfield 73, 3) := by decide +kernel
theorem dX10_step_49 : decode cX10_step 49 = .ok (.iload_n 1, 1) := by decide +kernel
theorem dX10_step_50 : decode cX10_step 50 = .ok (.invokevirtual 290, 3) := by decide +kernel
theorem dX10_step_53 : decode cX10_step 53 = .ok (.ifCond .ne 9, 3) := by decide +kernel
theorem dX10_step_56 : decode cX10_step 56 = .ok (.aload_n 0, 1) := by decide +kernel
theorem dX10_step_57 : decode cX10_step 57 = .ok (.iconst 5, 1) := by decide +kernel
theorem dX10_step_58 : decode cX10_step 58 = .ok (.invokevirtual 112, 3) := by decide +kernel
theorem dX10_step_61 : decode cX10_step 61 = .ok (.ireturn, 1) := by decide +kernel
theorem dX10_step_62 : decode cX10_step 62 = .ok (.aload_n 0, 1) := by decide +kernel
theorem dX10_step_63 : decode cX10_step 63 = .ok (.getfield 73, 3) := by decide +kernel
theorem dX10_step_66 : decode cX10_step 66 = .ok (.invokevirtual 293, 3) := by decide +kernel
theorem dX10_step_69 : decode cX10_step 69 = .ok (.ifCond .ne 10, 3) := by decide +kernel
theorem dX10_step_72 : decode cX10_step 72 = .ok (.aload_n 0, 1) := by decide +kernel
theorem dX10_step_73 : decode cX10_step 73 = .ok (.bipush 6, 2) := by decide +kernel
theorem dX10_step_75 : decode cX10_step 75 = .ok (.invokevirtual 112, 3) := by decide +kernel
theorem dX10_step_78 : decode cX10_step 78 = .ok (.ireturn, 1) := by decide +kernel
theorem dX10_step_79 : decode cX10_step 79 = .ok (.aload_n 0, 1) := by decide +kernel
theorem dX10_step_80 : decode cX10_step 80 = .ok (.getfield 82, 3) := by decide +kernel
theorem dX10_step_83 : decode cX10_step 83 = .ok (.aload_n 0, 1) := by decide +kernel
theorem dX10_step_84 : decode cX10_step 84 = .ok (.getfield 73, 3) := by decide +kernel
theorem dX10_step_87 : decode cX10_step 87 = .ok (.getfield 287, 3) := by decide +kernel
theorem dX10_step_90 : decode cX10_step 90 = .ok (.invokevirtual 234, 3) := by decide +kernel
theorem dX10_step_93 : decode cX10_step 93 = .ok (.aload_n 0, 1) := by decide +kernel
theorem dX10_step_94 : decode cX10_step 94 = .ok (.aload_n 0, 1) := by decide +kernel
theorem dX10_step_95 : decode cX10_step 95 = .ok (.getfield 73, 3) := by decide +kernel
theorem dX10_step_98 : decode cX10_step 98 = .ok (.getfield 297, 3) := by decide +kernel
theorem dX10_step_101 : decode cX10_step 101 = .ok (.invokevirtual 138, 3) := by decide +kernel
theorem dX10_step_104 : decode cX10_step 104 = .ok (.ireturn, 1) := by decide +kernel
set_option maxRecDepth 10000 in
set_option maxHeartbeats 4000000 in
theorem A_X10_step_15 {Z : az_Z} {d : Nat} (C : az_C Z yX10_step cX10_step 2 (some .int) d) (hD : 6 ≤ d) (n : Nat) {σ : az_Hp} {v0 v1 : Int} {r : (Int × az_Hp)} (h : fz_X10_step_15 n σ v0 v1 = some r) : az_AW Z 2 15 [(12, v0), (0, v1)] [] σ (some (0, r.1), r.2) := by
  have hd1 : 1 ≤ d := by omega
  unfold fz_X10_step_15 at h
  refine az_al0 (pc := 15) C rfl rfl dX10_step_15 ?_
  refine az_getR (pc := 16) (c2 := 7) C h fl_X10_82 rfl rfl dX10_step_16 (fun h => ?_)
  refine az_getI (pc := 19) C fl_X10_129 rfl dX10_step_19 ?_
  refine az_if_ne (pc := 22) (tgt := 31) C h dX10_step_22 (by decide) (fun _ h => ?_) (fun _ h => ?_)
  · refine az_al0 (pc := 31) C rfl rfl dX10_step_31 ?_
    refine az_getR (pc := 32) (c2 := 5) C h fl_X10_73 rfl rfl dX10_step_32 (fun h => ?_)
    refine az_getR (pc := 35) (c2 := 7) C h fl_X10_287 rfl rfl dX10_step_35 (fun h => ?_)
    refine az_al0 (pc := 38) C rfl rfl dX10_step_38 ?_
    refine az_getR (pc := 39) (c2 := 7) C h fl_X10_82 rfl rfl dX10_step_39 (fun h => ?_)
    refine az_cV1v (pc := 42) (c := 7) C hd1 h mv_X7_take ml_X10_234 rfl (fun x hx => A_X7_take (by omega) hx) dX10_step_42 (fun r5 h => ?_)
    refine az_al0 (pc := 45) C rfl rfl dX10_step_45 ?_
    refine az_getR (pc := 46) (c2 := 5) C h fl_X10_73 rfl rfl dX10_step_46 (fun h => ?_)
    refine az_il1 (pc := 49) C dX10_step_49 ?_
    refine az_cV1ii (pc := 50) (c := 5) C hd1 h mv_X5_findPlace ml_X10_290 rfl (fun x hx => A_X5_findPlace (by omega) n hx) dX10_step_50 (fun r7 h => ?_)
    refine az_if_ne (pc := 53) (tgt := 62) C h dX10_step_53 (by decide) (fun _ h => ?_) (fun _ h => ?_)
    · refine az_al0 (pc := 62) C rfl rfl dX10_step_62 ?_
      refine az_getR (pc := 63) (c2 := 5) C h fl_X10_73 rfl rfl dX10_step_63 (fun h => ?_)
      refine az_cV0ii (pc := 66) (c := 5) C hd1 h mv_X5_rewrite ml_X10_293 rfl (fun x hx => A_X5_rewrite (by omega) n hx) dX10_step_66 (fun r9 h => ?_)
      refine az_if_ne (pc := 69) (tgt := 79) C h dX10_step_69 (by decide) (fun _ h => ?_) (fun _ h => ?_)
      · refine az_al0 (pc := 79) C rfl rfl dX10_step_79 ?_
        refine az_getR (pc := 80) (c2 := 7) C h fl_X10_82 rfl rfl dX10_step_80 (fun h => ?_)
        refine az_al0 (pc := 83) C rfl rfl dX10_step_83 ?_
        refine az_getR (pc := 84) (c2 := 5) C h fl_X10_73 rfl rfl dX10_step_84 (fun h => ?_)
        refine az_getR (pc := 87) (c2 := 7) C h fl_X10_287 rfl rfl dX10_step_87 (fun h => ?_)
        refine az_cV1v (pc := 90) (c := 7) C hd1 h mv_X7_take ml_X10_234 rfl (fun x hx => A_X7_take (by omega) hx) dX10_step_90 (fun r13 h => ?_)
        refine az_al0 (pc := 93) C rfl rfl dX10_step_93 ?_
        refine az_al0 (pc := 94) C rfl rfl dX10_step_94 ?_
        refine az_getR (pc := 95) (c2 := 5) C h fl_X10_73 rfl rfl dX10_step_95 (fun h => ?_)
        refine az_getI (pc := 98) C fl_X10_297 rfl dX10_step_98 ?_
        refine az_cV1ii (pc := 101) (c := 10) C hd1 h mv_X10_give ml_X10_138 rfl (fun x hx => A_X10_give (by omega) hx) dX10_step_101 (fun r15 h => ?_)
        obtain rfl := Option.some.inj h
        exact az_ireturn (pc := 104) C dX10_step_104 rfl
      refine az_al0 (pc := 72) C rfl rfl dX10_step_72 ?_
      refine az_bk6 (pc := 73) C dX10_step_73 ?_
      refine az_cV1ii (pc := 75) (c := 10) C hd1 h mv_X10_refuse ml_X10_112 rfl (fun x hx => A_X10_refuse (by omega) hx) dX10_step_75 (fun r16 h => ?_)
      obtain rfl := Option.some.inj h
      exact az_ireturn (pc := 78) C dX10_step_78 rfl
    refine az_al0 (pc := 56) C rfl rfl dX10_step_56 ?_
    refine az_ik5 (pc := 57) C dX10_step_57 ?_
    refine az_cV1ii (pc := 58) (c := 10) C hd1 h mv_X10_refuse ml_X10_112 rfl (fun x hx => A_X10_refuse (by omega) hx) dX10_step_58 (fun r17 h => ?_)
    obtain rfl := Option.some.inj h
    exact az_ireturn (pc := 61) C dX10_step_61 rfl
  refine az_al0 (pc := 25) C rfl rfl dX10_step_25 ?_
  refine az_ik3 (pc := 26) C dX10_step_26 ?_
  refine az_cV1ii (pc := 27) (c := 10) C hd1 h mv_X10_refuse ml_X10_112 rfl (fun x hx => A_X10_refuse (by omega) hx) dX10_step_27 (fun r18 h => ?_)
  obtain rfl := Option.some.inj h
  exact az_ireturn (pc := 30) C dX10_step_30 rfl
set_option maxRecDepth 10000 in
set_option maxHeartbeats 4000000 in
theorem A_X10_step_e {Z : az_Z} {d : Nat} (C : az_C Z yX10_step cX10_step 2 (some .int) d) (hD : 6 ≤ d) (n : Nat) {σ : az_Hp} {v0 v1 : Int} {r : (Int × az_Hp)} (h : fz_X10_step n σ v0 v1 = some r) : az_AW Z 2 0 [(12, v0), (0, v1)] [] σ (some (0, r.1), r.2) := by
  have hd1 : 1 ≤ d := by omega
  unfold fz_X10_step at h
  refine az_il1 (pc := 0) C dX10_step_0 ?_
  refine az_if_eq (pc := 1) (tgt := 15) C h dX10_step_1 (by decide) (fun _ h => ?_) (fun _ h => ?_)
  · exact (A_X10_step_15 C hD n h)
  refine az_il1 (pc := 4) C dX10_step_4 ?_
  refine az_ik1 (pc := 5) C dX10_step_5 ?_
  refine az_icmp_eq (pc := 6) (tgt := 15) C h dX10_step_6 (by decide) (fun _ h => ?_) (fun _ h => ?_)
  · exact (A_X10_step_15 C hD n h)
  refine az_al0 (pc := 9) C rfl rfl dX10_step_9 ?_
  refine az_ik1 (pc := 10) C dX10_step_10 ?_
  refine az_cV1ii (pc := 11) (c := 10) C hd1 h mv_X10_refuse ml_X10_112 rfl (fun x hx => A_X10_refuse (by omega) hx) dX10_step_11 (fun r1 h => ?_)
  obtain rfl := Option.some.inj h
  exact az_ireturn (pc := 14) C dX10_step_14 rfl
set_option maxRecDepth 10000 in
set_option maxHeartbeats 4000000 in
theorem A_X10_step {l : Launch} {d : Nat} (hD : 6 ≤ d) (n : Nat) {σ : az_Hp} {v0 v1 : Int} {r : (Int × az_Hp)} (h : fz_X10_step n σ v0 v1 = some r) : az_AC l yX10_step cX10_step 2 (some .int) d [(12, v0), (0, v1)] σ (some (0, r.1), r.2) := az_AC.of mt_X10_step rfl rfl rfl (fun Z hZ C => A_X10_step_e C hD n h)
theorem dX5_reason_0 : decode cX5_reason 0 = .ok (.aload_n 2, 1) := by decide +kernel
theorem dX5_reason_1 : decode cX5_reason 1 = .ok (.getfield 80, 3) := by decide +kernel
theorem dX5_reason_4 : decode cX5_reason 4 = .ok (.iload_n 3, 1) := by decide +kernel
theorem dX5_reason_5 : decode cX5_reason 5 = .ok (.iaload, 1) := by decide +kernel
theorem dX5_reason_6 : decode cX5_reason 6 = .ok (.aload_n 0, 1) := by decide +kernel
theorem dX5_reason_7 : decode cX5_reason 7 = .ok (.getfield 64, 3) := by decide +kernel
theorem dX5_reason_10 : decode cX5_reason 10 = .ok (.getfield 115, 3) := by decide +kernel
theorem dX5_reason_13 : decode cX5_reason 13 = .ok (.aload_n 0, 1) := by decide +kernel
theorem dX5_reason_14 : decode cX5_reason 14 = .ok (.getfield 64, 3) := by decide +kernel
theorem dX5_reason_17 : decode cX5_reason 17 = .ok (.getfield 91, 3) := by decide +kernel
theorem dX5_reason_20 : decode cX5_reason 20 = .ok (.iload_n 1, 1) := by decide +kernel
theorem dX5_reason_21 : decode cX5_reason 21 = .ok (.iaload, 1) := by decide +kernel
theorem dX5_reason_22 : decode cX5_reason 22 = .ok (.iaload, 1) := by decide +kernel
theorem dX5_reason_23 : decode cX5_reason 23 = .ok (.if_icmp .eq 5, 3) := by decide +kernel
theorem dX5_reason_26 : decode cX5_reason 26 = .ok (.iconst 1, 1) := by decide +kernel
theorem dX5_reason_27 : decode cX5_reason 27 = .ok (.ireturn, 1) := by decide +kernel
theorem dX5_reason_28 : decode cX5_reason 28 = .ok (.aload_n 0, 1) := by decide +kernel
theorem dX5_reason_29 : decode cX5_reason 29 = .ok (.iload_n 1, 1) := by decide +kernel
theorem dX5_reason_30 : decode cX5_reason 30 = .ok (.aload_n 2, 1) := by decide +kernel
theorem dX5_reason_31 : decode cX5_reason 31 = .ok (.iload_n 3, 1) := by decide +kernel
theorem dX5_reason_32 : decode cX5_reason 32 = .ok (.invokevirtual 118, 3) := by decide +kernel
theorem dX5_reason_35 : decode cX5_reason 35 = .ok (.ifCond .ne 5, 3) := by decide +kernel
theorem dX5_reason_38 : decode cX5_reason 38 = .ok (.iconst 2, 1) := by decide +kernel
theorem dX5_reason_39 : decode cX5_reason 39 = .ok (.ireturn, 1) := by decide +kernel
theorem dX5_reason_40 : decode cX5_reason 40 = .ok (.aload_n 0, 1) := by decide +kernel
theorem dX5_reason_41 : decode cX5_reason 41 = .ok (.iload_n 1, 1) := by decide +kernel
theorem dX5_reason_42 : decode cX5_reason 42 = .ok (.aload_n 2, 1) := by decide +kernel
theorem dX5_reason_43 : decode cX5_reason 43 = .ok (.iload_n 3, 1) := by decide +kernel
theorem dX5_reason_44 : decode cX5_reason 44 = .ok (.invokevirtual 121, 3) := by decide +kernel
theorem dX5_reason_47 : decode cX5_reason 47 = .ok (.iconst (-1), 1) := by decide +kernel
theorem dX5_reason_48 : decode cX5_reason 48 = .ok (.if_icmp .ne 7, 3) := by decide +kernel
theorem dX5_reason_51 : decode cX5_reason 51 = .ok (.iconst 0, 1) := by decide +kernel
theorem dX5_reason_52 : decode cX5_reason 52 = .ok (.goto 4, 3) := by decide +kernel
theorem dX5_reason_55 : decode cX5_reason 55 = .ok (.iconst 3, 1) := by decide +kernel
theorem dX5_reason_56 : decode cX5_reason 56 = .ok (.ireturn, 1) := by decide +kernel
set_option maxRecDepth 10000 in
set_option maxHeartbeats 4000000 in
theorem A_X5_reason_e {Z : az_Z} {d : Nat} (C : az_C Z yX5_reason cX5_reason 4 (some .int) d) (hD : 4 ≤ d) (n : Nat) {σ : az_Hp} {v0 v1 v2 v3 : Int} {r : (Int × az_Hp)} (h : fz_X5_reason n σ v0 v1 v2 v3 = some r) : az_AW Z 4 0 [(7, v0), (0, v1), (9, v2), (0, v3)] [] σ (some (0, r.1), r.2) := by
  have hd1 : 1 ≤ d := by omega
  unfold fz_X5_reason at h
  refine az_al2 (pc := 0) C rfl rfl dX5_reason_0 ?_
  refine az_getR (pc := 1) (c2 := 13) C h fl_X5_80 rfl rfl dX5_reason_1 (fun h => ?_)
  refine az_il3 (pc := 4) C dX5_reason_4 ?_
  refine az_iaload (pc := 5) C h dX5_reason_5 (fun h => ?_)
  refine az_al0 (pc := 6) C rfl rfl dX5_reason_6 ?_
  refine az_getR (pc := 7) (c2 := 9) C h fl_X5_64 rfl rfl dX5_reason_7 (fun h => ?_)
  refine az_getR (pc := 10) (c2 := 13) C h fl_X5_115 rfl rfl dX5_reason_10 (fun h => ?_)
  refine az_al0 (pc := 13) C rfl rfl dX5_reason_13 ?_
  refine az_getR (pc := 14) (c2 := 9) C h fl_X5_64 rfl rfl dX5_reason_14 (fun h => ?_)
  refine az_getR (pc := 17) (c2 := 13) C h fl_X5_91 rfl rfl dX5_reason_17 (fun h => ?_)
  refine az_il1 (pc := 20) C dX5_reason_20 ?_
  refine az_iaload (pc := 21) C h dX5_reason_21 (fun h => ?_)
  refine az_iaload (pc := 22) C h dX5_reason_22 (fun h => ?_)
  refine az_icmp_eq (pc := 23) (tgt := 28) C h dX5_reason_23 (by decide) (fun _ h => ?_) (fun _ h => ?_)
  · refine az_al0 (pc := 28) C rfl rfl dX5_reason_28 ?_
    refine az_il1 (pc := 29) C dX5_reason_29 ?_
    refine az_al2 (pc := 30) C rfl rfl dX5_reason_30 ?_
    refine az_il3 (pc := 31) C dX5_reason_31 ?_
    refine az_cV3ii (pc := 32) (c := 5) C hd1 h mv_X5_fits ml_X5_118 rfl (fun x hx => A_X5_fits (by omega) n hx) dX5_reason_32 (fun r9 h => ?_)
    refine az_if_ne (pc := 35) (tgt := 40) C h dX5_reason_35 (by decide) (fun _ h => ?_) (fun _ h => ?_)
    · refine az_al0 (pc := 40) C rfl rfl dX5_reason_40 ?_
      refine az_il1 (pc := 41) C dX5_reason_41 ?_
      refine az_al2 (pc := 42) C rfl rfl dX5_reason_42 ?_
      refine az_il3 (pc := 43) C dX5_reason_43 ?_
      refine az_cV3ii (pc := 44) (c := 5) C hd1 h mv_X5_firstStill ml_X5_121 rfl (fun x hx => A_X5_firstStill (by omega) n hx) dX5_reason_44 (fun r10 h => ?_)
      refine az_ikm1 (pc := 47) C dX5_reason_47 ?_
      refine az_icmp_ne (pc := 48) (tgt := 55) C h dX5_reason_48 (by decide) (fun _ h => ?_) (fun _ h => ?_)
      · refine az_ik3 (pc := 55) C dX5_reason_55 ?_
        obtain rfl := Option.some.inj h
        exact az_ireturn (pc := 56) C dX5_reason_56 rfl
      refine az_ik0 (pc := 51) C dX5_reason_51 ?_
      refine az_goto (pc := 52) (tgt := 56) C dX5_reason_52 (by decide) ?_
      obtain rfl := Option.some.inj h
      exact az_ireturn (pc := 56) C dX5_reason_56 rfl
    refine az_ik2 (pc := 38) C dX5_reason_38 ?_
    obtain rfl := Option.some.inj h
    exact az_ireturn (pc := 39) C dX5_reason_39 rfl
  refine az_ik1 (pc := 26) C dX5_reason_26 ?_
  obtain rfl := Option.some.inj h
  exact az_ireturn (pc := 27) C dX5_reason_27 rfl
set_option maxRecDepth 10000 in
set_option maxHeartbeats 4000000 in
theorem A_X5_reason {l : Launch} {d : Nat} (hD : 4 ≤ d) (n : Nat) {σ : az_Hp} {v0 v1 v2 v3 : Int} {r : (Int × az_Hp)} (h : fz_X5_reason n σ v0 v1 v2 v3 = some r) : az_AC l yX5_reason cX5_reason 4 (some .int) d [(7, v0), (0, v1), (9, v2), (0, v3)] σ (some (0, r.1), r.2) := az_AC.of mt_X5_reason rfl rfl rfl (fun Z hZ C => A_X5_reason_e C hD n h)
