theorem dX7_takePart_0 : decode cX7_takePart 0 = .ok (.aload_n 0, 1) := by decide +kernel
theorem dX7_takePart_1 : decode cX7_takePart 1 = .ok (.iconst 0, 1) := by decide +kernel
theorem dX7_takePart_2 : decode cX7_takePart 2 = .ok (.putfield 9, 3) := by decide +kernel
theorem dX7_takePart_5 : decode cX7_takePart 5 = .ok (.aload_n 0, 1) := by decide +kernel
theorem dX7_takePart_6 : decode cX7_takePart 6 = .ok (.aload_n 1, 1) := by decide +kernel
theorem dX7_takePart_7 : decode cX7_takePart 7 = .ok (.iload_n 2, 1) := by decide +kernel
theorem dX7_takePart_8 : decode cX7_takePart 8 = .ok (.aload_n 1, 1) := by decide +kernel
theorem dX7_takePart_9 : decode cX7_takePart 9 = .ok (.iload_n 2, 1) := by decide +kernel
theorem dX7_takePart_10 : decode cX7_takePart 10 = .ok (.invokevirtual 35, 3) := by decide +kernel
theorem dX7_takePart_13 : decode cX7_takePart 13 = .ok (.invokevirtual 31, 3) := by decide +kernel
theorem dX7_takePart_16 : decode cX7_takePart 16 = .ok (.pop, 1) := by decide +kernel
theorem dX7_takePart_17 : decode cX7_takePart 17 = .ok (.return_, 1) := by decide +kernel
set_option maxRecDepth 10000 in
set_option maxHeartbeats 4000000 in
theorem A_X7_takePart_e {Z : az_Z} {d : Nat} (C : az_C Z yX7_takePart cX7_takePart 3 none d) (hD : 3 ≤ d) (n : Nat) {σ : az_Hp} {v0 v1 v2 : Int} {r : az_Hp} (h : fz_X7_takePart n σ v0 v1 v2 = some r) : az_AW Z 3 0 [(9, v0), (9, v1), (0, v2)] [] σ (none, r) := by
  have hd1 : 1 ≤ d := by omega
  unfold fz_X7_takePart at h
  refine az_al0 (pc := 0) C rfl rfl dX7_takePart_0 ?_
  refine az_ik0 (pc := 1) C dX7_takePart_1 ?_
  refine az_putI (pc := 2) C fl_X7_9 (Or.inl rfl) rfl dX7_takePart_2 ?_
  refine az_al0 (pc := 5) C rfl rfl dX7_takePart_5 ?_
  refine az_al1 (pc := 6) C rfl rfl dX7_takePart_6 ?_
  refine az_il2 (pc := 7) C dX7_takePart_7 ?_
  refine az_al1 (pc := 8) C rfl rfl dX7_takePart_8 ?_
  refine az_il2 (pc := 9) C dX7_takePart_9 ?_
  refine az_cV1pi (pc := 10) (c := 7) C hd1 h mv_X7_end ml_X7_35 rfl (fun x hx => A_X7_end (by omega) n hx) dX7_takePart_10 (fun r1 h => ?_)
  refine az_cV3ii (pc := 13) (c := 7) C hd1 h mv_X7_addPart ml_X7_31 rfl (fun x hx => A_X7_addPart (by omega) hx) dX7_takePart_13 (fun r2 h => ?_)
  refine az_pop (pc := 16) C rfl rfl dX7_takePart_16 ?_
  obtain rfl := Option.some.inj h
  exact az_return (pc := 17) C dX7_takePart_17 rfl
set_option maxRecDepth 10000 in
set_option maxHeartbeats 4000000 in
theorem A_X7_takePart {l : Launch} {d : Nat} (hD : 3 ≤ d) (n : Nat) {σ : az_Hp} {v0 v1 v2 : Int} {r : az_Hp} (h : fz_X7_takePart n σ v0 v1 v2 = some r) : az_AC l yX7_takePart cX7_takePart 3 none d [(9, v0), (9, v1), (0, v2)] σ (none, r) := az_AC.of mt_X7_takePart rfl rfl rfl (fun Z hZ C => A_X7_takePart_e C hD n h)
theorem dX8_takeApart_0 : decode cX8_takeApart 0 = .ok (.aload_n 0, 1) := by decide +kernel
theorem dX8_takeApart_1 : decode cX8_takeApart 1 = .ok (.getfield 53, 3) := by decide +kernel
theorem dX8_takeApart_4 : decode cX8_takeApart 4 = .ok (.iload_n 1, 1) := by decide +kernel
theorem dX8_takeApart_5 : decode cX8_takeApart 5 = .ok (.aaload, 1) := by decide +kernel
theorem dX8_takeApart_6 : decode cX8_takeApart 6 = .ok (.astore_n 2, 1) := by decide +kernel
theorem dX8_takeApart_7 : decode cX8_takeApart 7 = .ok (.aload_n 0, 1) := by decide +kernel
theorem dX8_takeApart_8 : decode cX8_takeApart 8 = .ok (.getfield 56, 3) := by decide +kernel
theorem dX8_takeApart_11 : decode cX8_takeApart 11 = .ok (.iload_n 1, 1) := by decide +kernel
theorem dX8_takeApart_12 : decode cX8_takeApart 12 = .ok (.aaload, 1) := by decide +kernel
theorem dX8_takeApart_13 : decode cX8_takeApart 13 = .ok (.astore_n 3, 1) := by decide +kernel
theorem dX8_takeApart_14 : decode cX8_takeApart 14 = .ok (.aload_n 2, 1) := by decide +kernel
theorem dX8_takeApart_15 : decode cX8_takeApart 15 = .ok (.getfield 116, 3) := by decide +kernel
theorem dX8_takeApart_18 : decode cX8_takeApart 18 = .ok (.iconst 0, 1) := by decide +kernel
theorem dX8_takeApart_19 : decode cX8_takeApart 19 = .ok (.iaload, 1) := by decide +kernel
theorem dX8_takeApart_20 : decode cX8_takeApart 20 = .ok (.invokestatic 146, 3) := by decide +kernel
theorem dX8_takeApart_23 : decode cX8_takeApart 23 = .ok (.istore 4, 2) := by decide +kernel
theorem dX8_takeApart_25 : decode cX8_takeApart 25 = .ok (.iconst 1, 1) := by decide +kernel
theorem dX8_takeApart_26 : decode cX8_takeApart 26 = .ok (.istore 5, 2) := by decide +kernel
theorem dX8_takeApart_28 : decode cX8_takeApart 28 = .ok (.iconst 1, 1) := by decide +kernel
theorem dX8_takeApart_29 : decode cX8_takeApart 29 = .ok (.istore 6, 2) := by decide +kernel
theorem dX8_takeApart_31 : decode cX8_takeApart 31 = .ok (.iconst 0, 1) := by decide +kernel
theorem dX8_takeApart_32 : decode cX8_takeApart 32 = .ok (.istore 7, 2) := by decide +kernel
theorem dX8_takeApart_34 : decode cX8_takeApart 34 = .ok (.iload 7, 2) := by decide +kernel
theorem dX8_takeApart_36 : decode cX8_takeApart 36 = .ok (.iload 4, 2) := by decide +kernel
theorem dX8_takeApart_38 : decode cX8_takeApart 38 = .ok (.if_icmp .ge 96, 3) := by decide +kernel
theorem dX8_takeApart_41 : decode cX8_takeApart 41 = .ok (.aload_n 0, 1) := by decide +kernel
theorem dX8_takeApart_42 : decode cX8_takeApart 42 = .ok (.getfield 15, 3) := by decide +kernel
theorem dX8_takeApart_45 : decode cX8_takeApart 45 = .ok (.bipush 100, 2) := by decide +kernel
theorem dX8_takeApart_47 : decode cX8_takeApart 47 = .ok (.if_icmp .lt 5, 3) := by decide +kernel
theorem dX8_takeApart_50 : decode cX8_takeApart 50 = .ok (.iconst 3, 1) := by decide +kernel
theorem dX8_takeApart_51 : decode cX8_takeApart 51 = .ok (.ireturn, 1) := by decide +kernel
theorem dX8_takeApart_52 : decode cX8_takeApart 52 = .ok (.aload_n 0, 1) := by decide +kernel
theorem dX8_takeApart_53 : decode cX8_takeApart 53 = .ok (.getfield 47, 3) := by decide +kernel
theorem dX8_takeApart_56 : decode cX8_takeApart 56 = .ok (.aload_n 0, 1) := by decide +kernel
theorem dX8_takeApart_57 : decode cX8_takeApart 57 = .ok (.getfield 15, 3) := by decide +kernel
theorem dX8_takeApart_60 : decode cX8_takeApart 60 = .ok (.iaload, 1) := by decide +kernel
theorem dX8_takeApart_61 : decode cX8_takeApart 61 = .ok (.istore 8, 2) := by decide +kernel
theorem dX8_takeApart_63 : decode cX8_takeApart 63 = .ok (.aload_n 0, 1) := by decide +kernel
theorem dX8_takeApart_64 : decode cX8_takeApart 64 = .ok (.dup, 1) := by decide +kernel
theorem dX8_takeApart_65 : decode cX8_takeApart 65 = .ok (.getfield 15, 3) := by decide +kernel
theorem dX8_takeApart_68 : decode cX8_takeApart 68 = .ok (.iconst 1, 1) := by decide +kernel
theorem dX8_takeApart_69 : decode cX8_takeApart 69 = .ok (.iadd, 1) := by decide +kernel
theorem dX8_takeApart_70 : decode cX8_takeApart 70 = .ok (.putfield 15, 3) := by decide +kernel
theorem dX8_takeApart_73 : decode cX8_takeApart 73 = .ok (.aload_n 0, 1) := by decide +kernel
theorem dX8_takeApart_74 : decode cX8_takeApart 74 = .ok (.getfield 53, 3) := by decide +kernel
theorem dX8_takeApart_77 : decode cX8_takeApart 77 = .ok (.iload 8, 2) := by decide +kernel
theorem dX8_takeApart_79 : decode cX8_takeApart 79 = .ok (.aaload, 1) := by decide +kernel
theorem dX8_takeApart_80 : decode cX8_takeApart 80 = .ok (.aload_n 2, 1) := by decide +kernel
theorem dX8_takeApart_81 : decode cX8_takeApart 81 = .ok (.iload 5, 2) := by decide +kernel
theorem dX8_takeApart_83 : decode cX8_takeApart 83 = .ok (.invokevirtual 149, 3) := by decide +kernel
theorem dX8_takeApart_86 : decode cX8_takeApart 86 = .ok (.aload_n 0, 1) := by decide +kernel
theorem dX8_takeApart_87 : decode cX8_takeApart 87 = .ok (.getfield 56, 3) := by decide +kernel
theorem dX8_takeApart_90 : decode cX8_takeApart 90 = .ok (.iload 8, 2) := by decide +kernel
theorem dX8_takeApart_92 : decode cX8_takeApart 92 = .ok (.aaload, 1) := by decide +kernel
theorem dX8_takeApart_93 : decode cX8_takeApart 93 = .ok (.aload_n 3, 1) := by decide +kernel
theorem dX8_takeApart_94 : decode cX8_takeApart 94 = .ok (.iload 6, 2) := by decide +kernel
theorem dX8_takeApart_96 : decode cX8_takeApart 96 = .ok (.invokevirtual 149, 3) := by decide +kernel
theorem dX8_takeApart_99 : decode cX8_takeApart 99 = .ok (.aload_n 0, 1) := by decide +kernel
theorem dX8_takeApart_100 : decode cX8_takeApart 100 = .ok (.getfield 50, 3) := by decide +kernel
theorem dX8_takeApart_103 : decode cX8_takeApart 103 = .ok (.iload 8, 2) := by decide +kernel
theorem dX8_takeApart_105 : decode cX8_takeApart 105 = .ok (.aload_n 0, 1) := by decide +kernel
theorem dX8_takeApart_106 : decode cX8_takeApart 106 = .ok (.getfield 50, 3) := by decide +kernel
theorem dX8_takeApart_109 : decode cX8_takeApart 109 = .ok (.iload_n 1, 1) := by decide +kernel
theorem dX8_takeApart_110 : decode cX8_takeApart 110 = .ok (.iaload, 1) := by decide +kernel
theorem dX8_takeApart_111 : decode cX8_takeApart 111 = .ok (.iastore, 1) := by decide +kernel
theorem dX8_takeApart_112 : decode cX8_takeApart 112 = .ok (.aload_n 2, 1) := by decide +kernel
theorem dX8_takeApart_113 : decode cX8_takeApart 113 = .ok (.iload 5, 2) := by decide +kernel
theorem dX8_takeApart_115 : decode cX8_takeApart 115 = .ok (.invokevirtual 153, 3) := by decide +kernel
theorem dX8_takeApart_118 : decode cX8_takeApart 118 = .ok (.istore 5, 2) := by decide +kernel
theorem dX8_takeApart_120 : decode cX8_takeApart 120 = .ok (.aload_n 3, 1) := by decide +kernel
theorem dX8_takeApart_121 : decode cX8_takeApart 121 = .ok (.iload 6, 2) := by decide +kernel
theorem dX8_takeApart_123 : decode cX8_takeApart 123 = .ok (.invokevirtual 153, 3) := by decide +kernel
theorem dX8_takeApart_126 : decode cX8_takeApart 126 = .ok (.istore 6, 2) := by decide +kernel
theorem dX8_takeApart_128 : decode cX8_takeApart 128 = .ok (.iinc 7 1, 3) := by decide +kernel
theorem dX8_takeApart_131 : decode cX8_takeApart 131 = .ok (.goto (-97), 3) := by decide +kernel
theorem dX8_takeApart_134 : decode cX8_takeApart 134 = .ok (.iconst 4, 1) := by decide +kernel
theorem dX8_takeApart_135 : decode cX8_takeApart 135 = .ok (.ireturn, 1) := by decide +kernel
set_option maxRecDepth 10000 in
set_option maxHeartbeats 4000000 in
theorem A_X8_takeApart_34 {Z : az_Z} {d : Nat} (C : az_C Z yX8_takeApart cX8_takeApart 9 (some .int) d) (hD : 4 ≤ d) (n : Nat) (k : Nat) : ∀ {σ : az_Hp} {v0 v1 v2 v3 v4 v5 v6 v7 : Int} {r : (Int × az_Hp)}, fz_X8_takeApart_34 n k σ v0 v1 v2 v3 v4 v5 v6 v7 = some r → az_AW Z 9 34 [(10, v0), (0, v1), (9, v2), (9, v3), (0, v4), (0, v5), (0, v6), (0, v7), (31, 0)] [] σ (some (0, r.1), r.2) := by
  have hd1 : 1 ≤ d := by omega
  induction k with
  | zero => intro σ v0 v1 v2 v3 v4 v5 v6 v7 r h; simp [fz_X8_takeApart_34] at h
  | succ k ih =>
    intro σ v0 v1 v2 v3 v4 v5 v6 v7 r h
    unfold fz_X8_takeApart_34 at h
    refine az_il7 (pc := 34) C dX8_takeApart_34 ?_
    refine az_il4 (pc := 36) C dX8_takeApart_36 ?_
    refine az_icmp_ge (pc := 38) (tgt := 134) C h dX8_takeApart_38 (by decide) (fun _ h => ?_) (fun _ h => ?_)
    · refine az_ik4 (pc := 134) C dX8_takeApart_134 ?_
      obtain rfl := Option.some.inj h
      exact az_ireturn (pc := 135) C dX8_takeApart_135 rfl
    refine az_al0 (pc := 41) C rfl rfl dX8_takeApart_41 ?_
    refine az_getI (pc := 42) C fl_X8_15 rfl dX8_takeApart_42 ?_
    refine az_bk100 (pc := 45) C dX8_takeApart_45 ?_
    refine az_icmp_lt (pc := 47) (tgt := 52) C h dX8_takeApart_47 (by decide) (fun _ h => ?_) (fun _ h => ?_)
    · refine az_al0 (pc := 52) C rfl rfl dX8_takeApart_52 ?_
      refine az_getR (pc := 53) (c2 := 13) C h fl_X8_47 rfl rfl dX8_takeApart_53 (fun h => ?_)
      refine az_al0 (pc := 56) C rfl rfl dX8_takeApart_56 ?_
      refine az_getI (pc := 57) C fl_X8_15 rfl dX8_takeApart_57 ?_
      refine az_iaload (pc := 60) C h dX8_takeApart_60 (fun h => ?_)
      refine az_is8 (pc := 61) C rfl rfl dX8_takeApart_61 ?_
      refine az_al0 (pc := 63) C rfl rfl dX8_takeApart_63 ?_
      refine az_dup (pc := 64) C rfl rfl dX8_takeApart_64 ?_
      refine az_getI (pc := 65) C fl_X8_15 rfl dX8_takeApart_65 ?_
      refine az_ik1 (pc := 68) C dX8_takeApart_68 ?_
      refine az_iadd (pc := 69) C dX8_takeApart_69 ?_
      refine az_putI (pc := 70) C fl_X8_15 (Or.inl rfl) rfl dX8_takeApart_70 ?_
      refine az_al0 (pc := 73) C rfl rfl dX8_takeApart_73 ?_
      refine az_getR (pc := 74) (c2 := 16) C h fl_X8_53 rfl rfl dX8_takeApart_74 (fun h => ?_)
      refine az_il8 (pc := 77) C dX8_takeApart_77 ?_
      refine az_aaload (pc := 79) C h dX8_takeApart_79 (fun h => ?_)
      refine az_al2 (pc := 80) C rfl rfl dX8_takeApart_80 ?_
      refine az_il5 (pc := 81) C dX8_takeApart_81 ?_
      refine az_cV2v (pc := 83) (c := 7) C hd1 h mv_X7_takePart ml_X8_149 rfl (fun x hx => A_X7_takePart (by omega) n hx) dX8_takeApart_83 (fun r5 h => ?_)
      refine az_al0 (pc := 86) C rfl rfl dX8_takeApart_86 ?_
      refine az_getR (pc := 87) (c2 := 16) C h fl_X8_56 rfl rfl dX8_takeApart_87 (fun h => ?_)
      refine az_il8 (pc := 90) C dX8_takeApart_90 ?_
      refine az_aaload (pc := 92) C h dX8_takeApart_92 (fun h => ?_)
      refine az_al3 (pc := 93) C rfl rfl dX8_takeApart_93 ?_
      refine az_il6 (pc := 94) C dX8_takeApart_94 ?_
      refine az_cV2v (pc := 96) (c := 7) C hd1 h mv_X7_takePart ml_X8_149 rfl (fun x hx => A_X7_takePart (by omega) n hx) dX8_takeApart_96 (fun r8 h => ?_)
      refine az_al0 (pc := 99) C rfl rfl dX8_takeApart_99 ?_
      refine az_getR (pc := 100) (c2 := 13) C h fl_X8_50 rfl rfl dX8_takeApart_100 (fun h => ?_)
      refine az_il8 (pc := 103) C dX8_takeApart_103 ?_
      refine az_al0 (pc := 105) C rfl rfl dX8_takeApart_105 ?_
      refine az_getR (pc := 106) (c2 := 13) C h fl_X8_50 rfl rfl dX8_takeApart_106 (fun h => ?_)
      refine az_il1 (pc := 109) C dX8_takeApart_109 ?_
      refine az_iaload (pc := 110) C h dX8_takeApart_110 (fun h => ?_)
      refine az_iastore (pc := 111) C h dX8_takeApart_111 (fun h => ?_)
      refine az_al2 (pc := 112) C rfl rfl dX8_takeApart_112 ?_
      refine az_il5 (pc := 113) C dX8_takeApart_113 ?_
      refine az_cV1pi (pc := 115) (c := 7) C hd1 h mv_X7_end ml_X8_153 rfl (fun x hx => A_X7_end (by omega) n hx) dX8_takeApart_115 (fun r13 h => ?_)
      refine az_is5 (pc := 118) C rfl rfl dX8_takeApart_118 ?_
      refine az_al3 (pc := 120) C rfl rfl dX8_takeApart_120 ?_
      refine az_il6 (pc := 121) C dX8_takeApart_121 ?_
      refine az_cV1pi (pc := 123) (c := 7) C hd1 h mv_X7_end ml_X8_153 rfl (fun x hx => A_X7_end (by omega) n hx) dX8_takeApart_123 (fun r14 h => ?_)
      refine az_is6 (pc := 126) C rfl rfl dX8_takeApart_126 ?_
      refine az_ii7 (pc := 128) C az_n1 rfl rfl dX8_takeApart_128 ?_
      refine az_goto (pc := 131) (tgt := 34) C dX8_takeApart_131 (by decide) ?_
      exact (az_wkk (ih h) (az_sE (az_sE (az_sE (az_sE (az_sE (az_sE (az_sE (az_sE (az_sJ az_sN))))))))))
    refine az_ik3 (pc := 50) C dX8_takeApart_50 ?_
    obtain rfl := Option.some.inj h
    exact az_ireturn (pc := 51) C dX8_takeApart_51 rfl
set_option maxRecDepth 10000 in
set_option maxHeartbeats 4000000 in
theorem A_X8_takeApart_e {Z : az_Z} {d : Nat} (C : az_C Z yX8_takeApart cX8_takeApart 9 (some .int) d) (hD : 4 ≤ d) (n : Nat) {σ : az_Hp} {v0 v1 : Int} {r : (Int × az_Hp)} (h : fz_X8_takeApart n σ v0 v1 = some r) : az_AW Z 9 0 [(10, v0), (0, v1), (31, 0), (31, 0), (31, 0), (31, 0), (31, 0), (31, 0), (31, 0)] [] σ (some (0, r.1), r.2) := by
  have hd1 : 1 ≤ d := by omega
  unfold fz_X8_takeApart at h
  refine az_al0 (pc := 0) C rfl rfl dX8_takeApart_0 ?_
  refine az_getR (pc := 1) (c2 := 16) C h fl_X8_53 rfl rfl dX8_takeApart_1 (fun h => ?_)
  refine az_il1 (pc := 4) C dX8_takeApart_4 ?_
  refine az_aaload (pc := 5) C h dX8_takeApart_5 (fun h => ?_)
  refine az_as2 (pc := 6) C rfl rfl rfl rfl dX8_takeApart_6 ?_
  refine az_al0 (pc := 7) C rfl rfl dX8_takeApart_7 ?_
  refine az_getR (pc := 8) (c2 := 16) C h fl_X8_56 rfl rfl dX8_takeApart_8 (fun h => ?_)
  refine az_il1 (pc := 11) C dX8_takeApart_11 ?_
  refine az_aaload (pc := 12) C h dX8_takeApart_12 (fun h => ?_)
  refine az_as3 (pc := 13) C rfl rfl rfl rfl dX8_takeApart_13 ?_
  refine az_al2 (pc := 14) C rfl rfl dX8_takeApart_14 ?_
  refine az_getR (pc := 15) (c2 := 13) C h fl_X8_116 rfl rfl dX8_takeApart_15 (fun h => ?_)
  refine az_ik0 (pc := 18) C dX8_takeApart_18 ?_
  refine az_iaload (pc := 19) C h dX8_takeApart_19 (fun h => ?_)
  refine az_cS1pi (pc := 20) C hd1 h ms_X7_arity ml_X8_146 rfl (fun x hx => A_X7_arity (by omega) hx) dX8_takeApart_20 (fun r7 h => ?_)
  refine az_is4 (pc := 23) C rfl rfl dX8_takeApart_23 ?_
  refine az_ik1 (pc := 25) C dX8_takeApart_25 ?_
  refine az_is5 (pc := 26) C rfl rfl dX8_takeApart_26 ?_
  refine az_ik1 (pc := 28) C dX8_takeApart_28 ?_
  refine az_is6 (pc := 29) C rfl rfl dX8_takeApart_29 ?_
  refine az_ik0 (pc := 31) C dX8_takeApart_31 ?_
  refine az_is7 (pc := 32) C rfl rfl dX8_takeApart_32 ?_
  exact (A_X8_takeApart_34 C hD n n h)
set_option maxRecDepth 10000 in
set_option maxHeartbeats 4000000 in
theorem A_X8_takeApart {l : Launch} {d : Nat} (hD : 4 ≤ d) (n : Nat) {σ : az_Hp} {v0 v1 : Int} {r : (Int × az_Hp)} (h : fz_X8_takeApart n σ v0 v1 = some r) : az_AC l yX8_takeApart cX8_takeApart 9 (some .int) d [(10, v0), (0, v1)] σ (some (0, r.1), r.2) := az_AC.of mt_X8_takeApart rfl rfl rfl (fun Z hZ C => A_X8_takeApart_e C hD n h)
theorem dX8_settle_0 : decode cX8_settle 0 = .ok (.aload_n 0, 1) := by decide +kernel
theorem dX8_settle_1 : decode cX8_settle 1 = .ok (.getfield 53, 3) := by decide +kernel
theorem dX8_settle_4 : decode cX8_settle 4 = .ok (.iload_n 2, 1) := by decide +kernel
theorem dX8_settle_5 : decode cX8_settle 5 = .ok (.aaload, 1) := by decide +kernel
theorem dX8_settle_6 : decode cX8_settle 6 = .ok (.astore_n 3, 1) := by decide +kernel
theorem dX8_settle_7 : decode cX8_settle 7 = .ok (.aload_n 0, 1) := by decide +kernel
theorem dX8_settle_8 : decode cX8_settle 8 = .ok (.getfield 56, 3) := by decide +kernel
theorem dX8_settle_11 : decode cX8_settle 11 = .ok (.iload_n 2, 1) := by decide +kernel
theorem dX8_settle_12 : decode cX8_settle 12 = .ok (.aaload, 1) := by decide +kernel
theorem dX8_settle_13 : decode cX8_settle 13 = .ok (.astore 4, 2) := by decide +kernel
theorem dX8_settle_15 : decode cX8_settle 15 = .ok (.aload_n 3, 1) := by decide +kernel
theorem dX8_settle_16 : decode cX8_settle 16 = .ok (.aload 4, 2) := by decide +kernel
theorem dX8_settle_18 : decode cX8_settle 18 = .ok (.invokevirtual 112, 3) := by decide +kernel
theorem dX8_settle_21 : decode cX8_settle 21 = .ok (.ifCond .eq 5, 3) := by decide +kernel
theorem dX8_settle_24 : decode cX8_settle 24 = .ok (.iconst 4, 1) := by decide +kernel
theorem dX8_settle_25 : decode cX8_settle 25 = .ok (.ireturn, 1) := by decide +kernel
theorem dX8_settle_26 : decode cX8_settle 26 = .ok (.aload_n 3, 1) := by decide +kernel
theorem dX8_settle_27 : decode cX8_settle 27 = .ok (.getfield 116, 3) := by decide +kernel
theorem dX8_settle_30 : decode cX8_settle 30 = .ok (.iconst 0, 1) := by decide +kernel
theorem dX8_settle_31 : decode cX8_settle 31 = .ok (.iaload, 1) := by decide +kernel
theorem dX8_settle_32 : decode cX8_settle 32 = .ok (.istore 5, 2) := by decide +kernel
theorem dX8_settle_34 : decode cX8_settle 34 = .ok (.aload 4, 2) := by decide +kernel
theorem dX8_settle_36 : decode cX8_settle 36 = .ok (.getfield 116, 3) := by decide +kernel
theorem dX8_settle_39 : decode cX8_settle 39 = .ok (.iconst 0, 1) := by decide +kernel
theorem dX8_settle_40 : decode cX8_settle 40 = .ok (.iaload, 1) := by decide +kernel
theorem dX8_settle_41 : decode cX8_settle 41 = .ok (.istore 6, 2) := by decide +kernel
theorem dX8_settle_43 : decode cX8_settle 43 = .ok (.iload 5, 2) := by decide +kernel
theorem dX8_settle_45 : decode cX8_settle 45 = .ok (.invokestatic 119, 3) := by decide +kernel
theorem dX8_settle_48 : decode cX8_settle 48 = .ok (.iconst 3, 1) := by decide +kernel
theorem dX8_settle_49 : decode cX8_settle 49 = .ok (.if_icmp .ne 12, 3) := by decide +kernel
theorem dX8_settle_52 : decode cX8_settle 52 = .ok (.aload_n 0, 1) := by decide +kernel
theorem dX8_settle_53 : decode cX8_settle 53 = .ok (.iload 5, 2) := by decide +kernel
theorem dX8_settle_55 : decode cX8_settle 55 = .ok (.aload 4, 2) := by decide +kernel
theorem dX8_settle_57 : decode cX8_settle 57 = .ok (.invokevirtual 122, 3) := by decide +kernel
theorem dX8_settle_60 : decode cX8_settle 60 = .ok (.ireturn, 1) := by decide +kernel
theorem dX8_settle_61 : decode cX8_settle 61 = .ok (.iload 6, 2) := by decide +kernel
theorem dX8_settle_63 : decode cX8_settle 63 = .ok (.invokestatic 119, 3) := by decide +kernel
theorem dX8_settle_66 : decode cX8_settle 66 = .ok (.iconst 3, 1) := by decide +kernel
theorem dX8_settle_67 : decode cX8_settle 67 = .ok (.if_icmp .ne 11, 3) := by decide +kernel
theorem dX8_settle_70 : decode cX8_settle 70 = .ok (.aload_n 0, 1) := by decide +kernel
theorem dX8_settle_71 : decode cX8_settle 71 = .ok (.iload 6, 2) := by decide +kernel
theorem dX8_settle_73 : decode cX8_settle 73 = .ok (.aload_n 3, 1) := by decide +kernel
theorem dX8_settle_74 : decode cX8_settle 74 = .ok (.invokevirtual 122, 3) := by decide +kernel
theorem dX8_settle_77 : decode cX8_settle 77 = .ok (.ireturn, 1) := by decide +kernel
theorem dX8_settle_78 : decode cX8_settle 78 = .ok (.iload 5, 2) := by decide +kernel
theorem dX8_settle_80 : decode cX8_settle 80 = .ok (.invokestatic 119, 3) := by decide +kernel
theorem dX8_settle_83 : decode cX8_settle 83 = .ok (.iconst 1, 1) := by decide +kernel
theorem dX8_settle_84 : decode cX8_settle 84 = .ok (.if_icmp .ne 29, 3) := by decide +kernel
theorem dX8_settle_87 : decode cX8_settle 87 = .ok (.iload 6, 2) := by decide +kernel
theorem dX8_settle_89 : decode cX8_settle 89 = .ok (.invokestatic 119, 3) := by decide +kernel
theorem dX8_settle_92 : decode cX8_settle 92 = .ok (.iconst 1, 1) := by decide +kernel
theorem dX8_settle_93 : decode cX8_settle 93 = .ok (.if_icmp .ne 20, 3) := by decide +kernel
theorem dX8_settle_96 : decode cX8_settle 96 = .ok (.iload 5, 2) := by decide +kernel
theorem dX8_settle_98 : decode cX8_settle 98 = .ok (.iload 6, 2) := by decide +kernel
theorem dX8_settle_100 : decode cX8_settle 100 = .ok (.if_icmp .ne 11, 3) := by decide +kernel
theorem dX8_settle_103 : decode cX8_settle 103 = .ok (.aload_n 0, 1) := by decide +kernel
theorem dX8_settle_104 : decode cX8_settle 104 = .ok (.iload_n 2, 1) := by decide +kernel
theorem dX8_settle_105 : decode cX8_settle 105 = .ok (.invokevirtual 126, 3) := by decide +kernel
theorem dX8_settle_108 : decode cX8_settle 108 = .ok (.goto 4, 3) := by decide +kernel
theorem dX8_settle_111 : decode cX8_settle 111 = .ok (.iconst 1, 1) := by decide +kernel
theorem dX8_settle_112 : decode cX8_settle 112 = .ok (.ireturn, 1) := by decide +kernel
theorem dX8_settle_113 : decode cX8_settle 113 = .ok (.iload 5, 2) := by decide +kernel
theorem dX8_settle_115 : decode cX8_settle 115 = .ok (.invokestatic 119, 3) := by decide +kernel
theorem dX8_settle_118 : decode cX8_settle 118 = .ok (.iconst 2, 1) := by decide +kernel
theorem dX8_settle_119 : decode cX8_settle 119 = .ok (.if_icmp .ne 28, 3) := by decide +kernel
theorem dX8_settle_122 : decode cX8_settle 122 = .ok (.iload 5, 2) := by decide +kernel
theorem dX8_settle_124 : decode cX8_settle 124 = .ok (.iload 6, 2) := by decide +kernel
theorem dX8_settle_126 : decode cX8_settle 126 = .ok (.if_icmp .ne 21, 3) := by decide +kernel
theorem dX8_settle_129 : decode cX8_settle 129 = .ok (.aload_n 1, 1) := by decide +kernel
theorem dX8_settle_130 : decode cX8_settle 130 = .ok (.iload 5, 2) := by decide +kernel
theorem dX8_settle_132 : decode cX8_settle 132 = .ok (.invokestatic 129, 3) := by decide +kernel
theorem dX8_settle_135 : decode cX8_settle 135 = .ok (.invokevirtual 132, 3) := by decide +kernel
theorem dX8_settle_138 : decode cX8_settle 138 = .ok (.ifCond .eq 9, 3) := by decide +kernel
theorem dX8_settle_141 : decode cX8_settle 141 = .ok (.aload_n 0, 1) := by decide +kernel
theorem dX8_settle_142 : decode cX8_settle 142 = .ok (.iload_n 2, 1) := by decide +kernel
theorem dX8_settle_143 : decode cX8_settle 143 = .ok (.invokevirtual 126, 3) := by decide +kernel
theorem dX8_settle_146 : decode cX8_settle 146 = .ok (.ireturn, 1) := by decide +kernel
theorem dX8_settle_147 : decode cX8_settle 147 = .ok (.iload 5, 2) := by decide +kernel
theorem dX8_settle_149 : decode cX8_settle 149 = .ok (.invokestatic 119, 3) := by decide +kernel
theorem dX8_settle_152 : decode cX8_settle 152 = .ok (.iconst 2, 1) := by decide +kernel
theorem dX8_settle_153 : decode cX8_settle 153 = .ok (.if_icmp .eq 12, 3) := by decide +kernel
theorem dX8_settle_156 : decode cX8_settle 156 = .ok (.iload 6, 2) := by decide +kernel
theorem dX8_settle_158 : decode cX8_settle 158 = .ok (.invokestatic 119, 3) := by decide +kernel
theorem dX8_settle_161 : decode cX8_settle 161 = .ok (.iconst 2, 1) := by decide +kernel
theorem dX8_settle_162 : decode cX8_settle 162 = .ok (.if_icmp .ne 7, 3) := by decide +kernel
theorem dX8_settle_165 : decode cX8_settle 165 = .ok (.iconst 0, 1) := by decide +kernel
theorem dX8_settle_166 : decode cX8_settle 166 = .ok (.goto 4, 3) := by decide +kernel
theorem dX8_settle_169 : decode cX8_settle 169 = .ok (.iconst 1, 1) := by decide +kernel
theorem dX8_settle_170 : decode cX8_settle 170 = .ok (.ireturn, 1) := by decide +kernel
set_option maxRecDepth 10000 in
set_option maxHeartbeats 4000000 in
theorem A_X8_settle_147 {Z : az_Z} {d : Nat} (C : az_C Z yX8_settle cX8_settle 7 (some .int) d) (hD : 5 ≤ d) (n : Nat) {σ : az_Hp} {v5 v6 : Int} {r : (Int × az_Hp)} (h : fz_X8_settle_147 n σ v5 v6 = some r) : az_AW Z 7 147 [(31, 0), (31, 0), (31, 0), (31, 0), (31, 0), (0, v5), (0, v6)] [] σ (some (0, r.1), r.2) := by
  have hd1 : 1 ≤ d := by omega
  unfold fz_X8_settle_147 at h
  refine az_il5 (pc := 147) C dX8_settle_147 ?_
  refine az_cS1pi (pc := 149) C hd1 h ms_X7_kind ml_X8_119 rfl (fun x hx => A_X7_kind (by omega) hx) dX8_settle_149 (fun r1 h => ?_)
  refine az_ik2 (pc := 152) C dX8_settle_152 ?_
  refine az_icmp_eq (pc := 153) (tgt := 165) C h dX8_settle_153 (by decide) (fun _ h => ?_) (fun _ h => ?_)
  · refine az_ik0 (pc := 165) C dX8_settle_165 ?_
    refine az_goto (pc := 166) (tgt := 170) C dX8_settle_166 (by decide) ?_
    obtain rfl := Option.some.inj h
    exact az_ireturn (pc := 170) C dX8_settle_170 rfl
  refine az_il6 (pc := 156) C dX8_settle_156 ?_
  refine az_cS1pi (pc := 158) C hd1 h ms_X7_kind ml_X8_119 rfl (fun x hx => A_X7_kind (by omega) hx) dX8_settle_158 (fun r2 h => ?_)
  refine az_ik2 (pc := 161) C dX8_settle_161 ?_
  refine az_icmp_ne (pc := 162) (tgt := 169) C h dX8_settle_162 (by decide) (fun _ h => ?_) (fun _ h => ?_)
  · refine az_ik1 (pc := 169) C dX8_settle_169 ?_
    obtain rfl := Option.some.inj h
    exact az_ireturn (pc := 170) C dX8_settle_170 rfl
  refine az_ik0 (pc := 165) C dX8_settle_165 ?_
  refine az_goto (pc := 166) (tgt := 170) C dX8_settle_166 (by decide) ?_
  obtain rfl := Option.some.inj h
  exact az_ireturn (pc := 170) C dX8_settle_170 rfl
set_option maxRecDepth 10000 in
set_option maxHeartbeats 4000000 in
theorem A_X8_settle_113 {Z : az_Z} {d : Nat} (C : az_C Z yX8_settle cX8_settle 7 (some .int) d) (hD : 5 ≤ d) (n : Nat) {σ : az_Hp} {v0 v1 v2 v5 v6 : Int} {r : (Int × az_Hp)} (h : fz_X8_settle_113 n σ v0 v1 v2 v5 v6 = some r) : az_AW Z 7 113 [(10, v0), (11, v1), (0, v2), (31, 0), (31, 0), (0, v5), (0, v6)] [] σ (some (0, r.1), r.2) := by
  have hd1 : 1 ≤ d := by omega
  unfold fz_X8_settle_113 at h
  refine az_il5 (pc := 113) C dX8_settle_113 ?_
  refine az_cS1pi (pc := 115) C hd1 h ms_X7_kind ml_X8_119 rfl (fun x hx => A_X7_kind (by omega) hx) dX8_settle_115 (fun r1 h => ?_)
  refine az_ik2 (pc := 118) C dX8_settle_118 ?_
  refine az_icmp_ne (pc := 119) (tgt := 147) C h dX8_settle_119 (by decide) (fun _ h => ?_) (fun _ h => ?_)
  · exact (az_wkk (A_X8_settle_147 C hD n h) (az_sJ (az_sJ (az_sJ (az_sJ (az_sJ (az_sE (az_sE az_sN))))))))
  refine az_il5 (pc := 122) C dX8_settle_122 ?_
  refine az_il6 (pc := 124) C dX8_settle_124 ?_
  refine az_icmp_ne (pc := 126) (tgt := 147) C h dX8_settle_126 (by decide) (fun _ h => ?_) (fun _ h => ?_)
  · exact (az_wkk (A_X8_settle_147 C hD n h) (az_sJ (az_sJ (az_sJ (az_sJ (az_sJ (az_sE (az_sE az_sN))))))))
  refine az_al1 (pc := 129) C rfl rfl dX8_settle_129 ?_
  refine az_il5 (pc := 130) C dX8_settle_130 ?_
  refine az_cS1pi (pc := 132) C hd1 h ms_X7_number ml_X8_129 rfl (fun x hx => A_X7_number (by omega) hx) dX8_settle_132 (fun r2 h => ?_)
  refine az_cV1pi (pc := 135) (c := 9) C hd1 h mv_X9_goesBackwards ml_X8_132 rfl (fun x hx => A_X9_goesBackwards (by omega) hx) dX8_settle_135 (fun r3 h => ?_)
  refine az_if_eq (pc := 138) (tgt := 147) C h dX8_settle_138 (by decide) (fun _ h => ?_) (fun _ h => ?_)
  · exact (az_wkk (A_X8_settle_147 C hD n h) (az_sJ (az_sJ (az_sJ (az_sJ (az_sJ (az_sE (az_sE az_sN))))))))
  refine az_al0 (pc := 141) C rfl rfl dX8_settle_141 ?_
  refine az_il2 (pc := 142) C dX8_settle_142 ?_
  refine az_cV1ii (pc := 143) (c := 8) C hd1 h mv_X8_takeApart ml_X8_126 rfl (fun x hx => A_X8_takeApart (by omega) n hx) dX8_settle_143 (fun r4 h => ?_)
  obtain rfl := Option.some.inj h
  exact az_ireturn (pc := 146) C dX8_settle_146 rfl
set_option maxRecDepth 10000 in
set_option maxHeartbeats 4000000 in
theorem A_X8_settle_e {Z : az_Z} {d : Nat} (C : az_C Z yX8_settle cX8_settle 7 (some .int) d) (hD : 5 ≤ d) (n : Nat) {σ : az_Hp} {v0 v1 v2 : Int} {r : (Int × az_Hp)} (h : fz_X8_settle n σ v0 v1 v2 = some r) : az_AW Z 7 0 [(10, v0), (11, v1), (0, v2), (31, 0), (31, 0), (31, 0), (31, 0)] [] σ (some (0, r.1), r.2) := by
  have hd1 : 1 ≤ d := by omega
  unfold fz_X8_settle at h
  refine az_al0 (pc := 0) C rfl rfl dX8_settle_0 ?_
  refine az_getR (pc := 1) (c2 := 16) C h fl_X8_53 rfl rfl dX8_settle_1 (fun h => ?_)
  refine az_il2 (pc := 4) C dX8_settle_4 ?_
  refine az_aaload (pc := 5) C h dX8_settle_5 (fun h => ?_)
  refine az_as3 (pc := 6) C rfl rfl rfl rfl dX8_settle_6 ?_
  refine az_al0 (pc := 7) C rfl rfl dX8_settle_7 ?_
  refine az_getR (pc := 8) (c2 := 16) C h fl_X8_56 rfl rfl dX8_settle_8 (fun h => ?_)
  refine az_il2 (pc := 11) C dX8_settle_11 ?_
  refine az_aaload (pc := 12) C h dX8_settle_12 (fun h => ?_)
  refine az_as4 (pc := 13) C rfl rfl rfl rfl dX8_settle_13 ?_
  refine az_al3 (pc := 15) C rfl rfl dX8_settle_15 ?_
  refine az_al4 (pc := 16) C rfl rfl dX8_settle_16 ?_
  refine az_cV1pi (pc := 18) (c := 7) C hd1 h mv_X7_same ml_X8_112 rfl (fun x hx => A_X7_same (by omega) n hx) dX8_settle_18 (fun r5 h => ?_)
  refine az_if_eq (pc := 21) (tgt := 26) C h dX8_settle_21 (by decide) (fun _ h => ?_) (fun _ h => ?_)
  · refine az_al3 (pc := 26) C rfl rfl dX8_settle_26 ?_
    refine az_getR (pc := 27) (c2 := 13) C h fl_X8_116 rfl rfl dX8_settle_27 (fun h => ?_)
    refine az_ik0 (pc := 30) C dX8_settle_30 ?_
    refine az_iaload (pc := 31) C h dX8_settle_31 (fun h => ?_)
    refine az_is5 (pc := 32) C rfl rfl dX8_settle_32 ?_
    refine az_al4 (pc := 34) C rfl rfl dX8_settle_34 ?_
    refine az_getR (pc := 36) (c2 := 13) C h fl_X8_116 rfl rfl dX8_settle_36 (fun h => ?_)
    refine az_ik0 (pc := 39) C dX8_settle_39 ?_
    refine az_iaload (pc := 40) C h dX8_settle_40 (fun h => ?_)
    refine az_is6 (pc := 41) C rfl rfl dX8_settle_41 ?_
    refine az_il5 (pc := 43) C dX8_settle_43 ?_
    refine az_cS1pi (pc := 45) C hd1 h ms_X7_kind ml_X8_119 rfl (fun x hx => A_X7_kind (by omega) hx) dX8_settle_45 (fun r10 h => ?_)
    refine az_ik3 (pc := 48) C dX8_settle_48 ?_
    refine az_icmp_ne (pc := 49) (tgt := 61) C h dX8_settle_49 (by decide) (fun _ h => ?_) (fun _ h => ?_)
    · refine az_il6 (pc := 61) C dX8_settle_61 ?_
      refine az_cS1pi (pc := 63) C hd1 h ms_X7_kind ml_X8_119 rfl (fun x hx => A_X7_kind (by omega) hx) dX8_settle_63 (fun r11 h => ?_)
      refine az_ik3 (pc := 66) C dX8_settle_66 ?_
      refine az_icmp_ne (pc := 67) (tgt := 78) C h dX8_settle_67 (by decide) (fun _ h => ?_) (fun _ h => ?_)
      · refine az_il5 (pc := 78) C dX8_settle_78 ?_
        refine az_cS1pi (pc := 80) C hd1 h ms_X7_kind ml_X8_119 rfl (fun x hx => A_X7_kind (by omega) hx) dX8_settle_80 (fun r12 h => ?_)
        refine az_ik1 (pc := 83) C dX8_settle_83 ?_
        refine az_icmp_ne (pc := 84) (tgt := 113) C h dX8_settle_84 (by decide) (fun _ h => ?_) (fun _ h => ?_)
        · exact (az_wkk (A_X8_settle_113 C hD n h) (az_sE (az_sE (az_sE (az_sJ (az_sJ (az_sE (az_sE az_sN))))))))
        refine az_il6 (pc := 87) C dX8_settle_87 ?_
        refine az_cS1pi (pc := 89) C hd1 h ms_X7_kind ml_X8_119 rfl (fun x hx => A_X7_kind (by omega) hx) dX8_settle_89 (fun r13 h => ?_)
        refine az_ik1 (pc := 92) C dX8_settle_92 ?_
        refine az_icmp_ne (pc := 93) (tgt := 113) C h dX8_settle_93 (by decide) (fun _ h => ?_) (fun _ h => ?_)
        · exact (az_wkk (A_X8_settle_113 C hD n h) (az_sE (az_sE (az_sE (az_sJ (az_sJ (az_sE (az_sE az_sN))))))))
        refine az_il5 (pc := 96) C dX8_settle_96 ?_
        refine az_il6 (pc := 98) C dX8_settle_98 ?_
        refine az_icmp_ne (pc := 100) (tgt := 111) C h dX8_settle_100 (by decide) (fun _ h => ?_) (fun _ h => ?_)
        · refine az_ik1 (pc := 111) C dX8_settle_111 ?_
          obtain rfl := Option.some.inj h
          exact az_ireturn (pc := 112) C dX8_settle_112 rfl
        refine az_al0 (pc := 103) C rfl rfl dX8_settle_103 ?_
        refine az_il2 (pc := 104) C dX8_settle_104 ?_
        refine az_cV1ii (pc := 105) (c := 8) C hd1 h mv_X8_takeApart ml_X8_126 rfl (fun x hx => A_X8_takeApart (by omega) n hx) dX8_settle_105 (fun r14 h => ?_)
        refine az_goto (pc := 108) (tgt := 112) C dX8_settle_108 (by decide) ?_
        obtain rfl := Option.some.inj h
        exact az_ireturn (pc := 112) C dX8_settle_112 rfl
      refine az_al0 (pc := 70) C rfl rfl dX8_settle_70 ?_
      refine az_il6 (pc := 71) C dX8_settle_71 ?_
      refine az_al3 (pc := 73) C rfl rfl dX8_settle_73 ?_
      refine az_cV2ii (pc := 74) (c := 8) C hd1 h mv_X8_become ml_X8_122 rfl (fun x hx => A_X8_become (by omega) n hx) dX8_settle_74 (fun r15 h => ?_)
      obtain rfl := Option.some.inj h
      exact az_ireturn (pc := 77) C dX8_settle_77 rfl
    refine az_al0 (pc := 52) C rfl rfl dX8_settle_52 ?_
    refine az_il5 (pc := 53) C dX8_settle_53 ?_
    refine az_al4 (pc := 55) C rfl rfl dX8_settle_55 ?_
    refine az_cV2ii (pc := 57) (c := 8) C hd1 h mv_X8_become ml_X8_122 rfl (fun x hx => A_X8_become (by omega) n hx) dX8_settle_57 (fun r16 h => ?_)
    obtain rfl := Option.some.inj h
    exact az_ireturn (pc := 60) C dX8_settle_60 rfl
  refine az_ik4 (pc := 24) C dX8_settle_24 ?_
  obtain rfl := Option.some.inj h
  exact az_ireturn (pc := 25) C dX8_settle_25 rfl
set_option maxRecDepth 10000 in
set_option maxHeartbeats 4000000 in
theorem A_X8_settle {l : Launch} {d : Nat} (hD : 5 ≤ d) (n : Nat) {σ : az_Hp} {v0 v1 v2 : Int} {r : (Int × az_Hp)} (h : fz_X8_settle n σ v0 v1 v2 = some r) : az_AC l yX8_settle cX8_settle 7 (some .int) d [(10, v0), (11, v1), (0, v2)] σ (some (0, r.1), r.2) := az_AC.of mt_X8_settle rfl rfl rfl (fun Z hZ C => A_X8_settle_e C hD n h)
theorem dX8_oneRound_0 : decode cX8_oneRound 0 = .ok (.aload_n 0, 1) := by decide +kernel
theorem dX8_oneRound_1 : decode cX8_oneRound 1 = .ok (.dup, 1) := by decide +kernel
theorem dX8_oneRound_2 : decode cX8_oneRound 2 = .ok (.getfield 25, 3) := by decide +kernel
theorem dX8_oneRound_5 : decode cX8_oneRound 5 = .ok (.iconst 1, 1) := by decide +kernel
theorem dX8_oneRound_6 : decode cX8_oneRound 6 = .ok (.iadd, 1) := by decide +kernel
theorem dX8_oneRound_7 : decode cX8_oneRound 7 = .ok (.putfield 25, 3) := by decide +kernel
theorem dX8_oneRound_10 : decode cX8_oneRound 10 = .ok (.aload_n 0, 1) := by decide +kernel
theorem dX8_oneRound_11 : decode cX8_oneRound 11 = .ok (.iconst 0, 1) := by decide +kernel
theorem dX8_oneRound_12 : decode cX8_oneRound 12 = .ok (.putfield 44, 3) := by decide +kernel
theorem dX8_oneRound_15 : decode cX8_oneRound 15 = .ok (.aload_n 0, 1) := by decide +kernel
theorem dX8_oneRound_16 : decode cX8_oneRound 16 = .ok (.getfield 15, 3) := by decide +kernel
theorem dX8_oneRound_19 : decode cX8_oneRound 19 = .ok (.istore_n 3, 1) := by decide +kernel
theorem dX8_oneRound_20 : decode cX8_oneRound 20 = .ok (.iconst 0, 1) := by decide +kernel
theorem dX8_oneRound_21 : decode cX8_oneRound 21 = .ok (.istore 4, 2) := by decide +kernel
theorem dX8_oneRound_23 : decode cX8_oneRound 23 = .ok (.iconst 0, 1) := by decide +kernel
theorem dX8_oneRound_24 : decode cX8_oneRound 24 = .ok (.istore 5, 2) := by decide +kernel
theorem dX8_oneRound_26 : decode cX8_oneRound 26 = .ok (.iload 5, 2) := by decide +kernel
theorem dX8_oneRound_28 : decode cX8_oneRound 28 = .ok (.iload_n 3, 1) := by decide +kernel
theorem dX8_oneRound_29 : decode cX8_oneRound 29 = .ok (.if_icmp .ge 168, 3) := by decide +kernel
theorem dX8_oneRound_32 : decode cX8_oneRound 32 = .ok (.aload_n 0, 1) := by decide +kernel
theorem dX8_oneRound_33 : decode cX8_oneRound 33 = .ok (.getfield 19, 3) := by decide +kernel
theorem dX8_oneRound_36 : decode cX8_oneRound 36 = .ok (.ifCond .ne 161, 3) := by decide +kernel
theorem dX8_oneRound_39 : decode cX8_oneRound 39 = .ok (.aload_n 0, 1) := by decide +kernel
theorem dX8_oneRound_40 : decode cX8_oneRound 40 = .ok (.getfield 47, 3) := by decide +kernel
theorem dX8_oneRound_43 : decode cX8_oneRound 43 = .ok (.iload 4, 2) := by decide +kernel
theorem dX8_oneRound_45 : decode cX8_oneRound 45 = .ok (.iaload, 1) := by decide +kernel
theorem dX8_oneRound_46 : decode cX8_oneRound 46 = .ok (.istore 6, 2) := by decide +kernel
theorem dX8_oneRound_48 : decode cX8_oneRound 48 = .ok (.iconst 3, 1) := by decide +kernel
theorem dX8_oneRound_49 : decode cX8_oneRound 49 = .ok (.istore 7, 2) := by decide +kernel
theorem dX8_oneRound_51 : decode cX8_oneRound 51 = .ok (.aload_n 0, 1) := by decide +kernel
theorem dX8_oneRound_52 : decode cX8_oneRound 52 = .ok (.aload_n 0, 1) := by decide +kernel
theorem dX8_oneRound_53 : decode cX8_oneRound 53 = .ok (.getfield 53, 3) := by decide +kernel
theorem dX8_oneRound_56 : decode cX8_oneRound 56 = .ok (.iload 6, 2) := by decide +kernel
theorem dX8_oneRound_58 : decode cX8_oneRound 58 = .ok (.aaload, 1) := by decide +kernel
theorem dX8_oneRound_59 : decode cX8_oneRound 59 = .ok (.aload_n 2, 1) := by decide +kernel
theorem dX8_oneRound_60 : decode cX8_oneRound 60 = .ok (.getfield 91, 3) := by decide +kernel
theorem dX8_oneRound_63 : decode cX8_oneRound 63 = .ok (.invokevirtual 97, 3) := by decide +kernel
theorem dX8_oneRound_66 : decode cX8_oneRound 66 = .ok (.ifCond .eq 74, 3) := by decide +kernel
theorem dX8_oneRound_69 : decode cX8_oneRound 69 = .ok (.aload_n 2, 1) := by decide +kernel
theorem dX8_oneRound_70 : decode cX8_oneRound 70 = .ok (.iconst 0, 1) := by decide +kernel
theorem dX8_oneRound_71 : decode cX8_oneRound 71 = .ok (.invokevirtual 101, 3) := by decide +kernel
theorem dX8_oneRound_74 : decode cX8_oneRound 74 = .ok (.ifCond .ne 66, 3) := by decide +kernel
theorem dX8_oneRound_77 : decode cX8_oneRound 77 = .ok (.aload_n 0, 1) := by decide +kernel
theorem dX8_oneRound_78 : decode cX8_oneRound 78 = .ok (.getfield 53, 3) := by decide +kernel
theorem dX8_oneRound_81 : decode cX8_oneRound 81 = .ok (.iload 6, 2) := by decide +kernel
theorem dX8_oneRound_83 : decode cX8_oneRound 83 = .ok (.aaload, 1) := by decide +kernel
theorem dX8_oneRound_84 : decode cX8_oneRound 84 = .ok (.aload_n 2, 1) := by decide +kernel
theorem dX8_oneRound_85 : decode cX8_oneRound 85 = .ok (.getfield 91, 3) := by decide +kernel
theorem dX8_oneRound_88 : decode cX8_oneRound 88 = .ok (.invokevirtual 84, 3) := by decide +kernel
theorem dX8_oneRound_91 : decode cX8_oneRound 91 = .ok (.aload_n 0, 1) := by decide +kernel
theorem dX8_oneRound_92 : decode cX8_oneRound 92 = .ok (.aload_n 0, 1) := by decide +kernel
theorem dX8_oneRound_93 : decode cX8_oneRound 93 = .ok (.getfield 56, 3) := by decide +kernel
theorem dX8_oneRound_96 : decode cX8_oneRound 96 = .ok (.iload 6, 2) := by decide +kernel
theorem dX8_oneRound_98 : decode cX8_oneRound 98 = .ok (.aaload, 1) := by decide +kernel
theorem dX8_oneRound_99 : decode cX8_oneRound 99 = .ok (.aload_n 2, 1) := by decide +kernel
theorem dX8_oneRound_100 : decode cX8_oneRound 100 = .ok (.getfield 91, 3) := by decide +kernel
theorem dX8_oneRound_103 : decode cX8_oneRound 103 = .ok (.invokevirtual 97, 3) := by decide +kernel
theorem dX8_oneRound_106 : decode cX8_oneRound 106 = .ok (.ifCond .eq 34, 3) := by decide +kernel
theorem dX8_oneRound_109 : decode cX8_oneRound 109 = .ok (.aload_n 2, 1) := by decide +kernel
theorem dX8_oneRound_110 : decode cX8_oneRound 110 = .ok (.iconst 0, 1) := by decide +kernel
theorem dX8_oneRound_111 : decode cX8_oneRound 111 = .ok (.invokevirtual 101, 3) := by decide +kernel
theorem dX8_oneRound_114 : decode cX8_oneRound 114 = .ok (.ifCond .ne 26, 3) := by decide +kernel
theorem dX8_oneRound_117 : decode cX8_oneRound 117 = .ok (.aload_n 0, 1) := by decide +kernel
theorem dX8_oneRound_118 : decode cX8_oneRound 118 = .ok (.getfield 56, 3) := by decide +kernel
theorem dX8_oneRound_121 : decode cX8_oneRound 121 = .ok (.iload 6, 2) := by decide +kernel
theorem dX8_oneRound_123 : decode cX8_oneRound 123 = .ok (.aaload, 1) := by decide +kernel
theorem dX8_oneRound_124 : decode cX8_oneRound 124 = .ok (.aload_n 2, 1) := by decide +kernel
theorem dX8_oneRound_125 : decode cX8_oneRound 125 = .ok (.getfield 91, 3) := by decide +kernel
theorem dX8_oneRound_128 : decode cX8_oneRound 128 = .ok (.invokevirtual 84, 3) := by decide +kernel
theorem dX8_oneRound_131 : decode cX8_oneRound 131 = .ok (.aload_n 0, 1) := by decide +kernel
theorem dX8_oneRound_132 : decode cX8_oneRound 132 = .ok (.aload_n 1, 1) := by decide +kernel
theorem dX8_oneRound_133 : decode cX8_oneRound 133 = .ok (.iload 6, 2) := by decide +kernel
theorem dX8_oneRound_135 : decode cX8_oneRound 135 = .ok (.invokevirtual 105, 3) := by decide +kernel
theorem dX8_oneRound_138 : decode cX8_oneRound 138 = .ok (.istore 7, 2) := by decide +kernel
theorem dX8_oneRound_140 : decode cX8_oneRound 140 = .ok (.iload 7, 2) := by decide +kernel
theorem dX8_oneRound_142 : decode cX8_oneRound 142 = .ok (.iconst 4, 1) := by decide +kernel
theorem dX8_oneRound_143 : decode cX8_oneRound 143 = .ok (.if_icmp .ne 17, 3) := by decide +kernel
theorem dX8_oneRound_146 : decode cX8_oneRound 146 = .ok (.aload_n 0, 1) := by decide +kernel
theorem dX8_oneRound_147 : decode cX8_oneRound 147 = .ok (.iconst 1, 1) := by decide +kernel
theorem dX8_oneRound_148 : decode cX8_oneRound 148 = .ok (.putfield 44, 3) := by decide +kernel
theorem dX8_oneRound_151 : decode cX8_oneRound 151 = .ok (.aload_n 0, 1) := by decide +kernel
theorem dX8_oneRound_152 : decode cX8_oneRound 152 = .ok (.iload 4, 2) := by decide +kernel
theorem dX8_oneRound_154 : decode cX8_oneRound 154 = .ok (.invokevirtual 109, 3) := by decide +kernel
theorem dX8_oneRound_157 : decode cX8_oneRound 157 = .ok (.goto 6, 3) := by decide +kernel
theorem dX8_oneRound_160 : decode cX8_oneRound 160 = .ok (.iinc 4 1, 3) := by decide +kernel
theorem dX8_oneRound_163 : decode cX8_oneRound 163 = .ok (.iload 7, 2) := by decide +kernel
theorem dX8_oneRound_165 : decode cX8_oneRound 165 = .ok (.iconst 4, 1) := by decide +kernel
theorem dX8_oneRound_166 : decode cX8_oneRound 166 = .ok (.if_icmp .eq 25, 3) := by decide +kernel
theorem dX8_oneRound_169 : decode cX8_oneRound 169 = .ok (.iload 7, 2) := by decide +kernel
theorem dX8_oneRound_171 : decode cX8_oneRound 171 = .ok (.ifCond .eq 20, 3) := by decide +kernel
theorem dX8_oneRound_174 : decode cX8_oneRound 174 = .ok (.aload_n 0, 1) := by decide +kernel
theorem dX8_oneRound_175 : decode cX8_oneRound 175 = .ok (.iload 7, 2) := by decide +kernel
theorem dX8_oneRound_177 : decode cX8_oneRound 177 = .ok (.putfield 19, 3) := by decide +kernel
theorem dX8_oneRound_180 : decode cX8_oneRound 180 = .ok (.aload_n 0, 1) := by decide +kernel
theorem dX8_oneRound_181 : decode cX8_oneRound 181 = .ok (.aload_n 0, 1) := by decide +kernel
theorem dX8_oneRound_182 : decode cX8_oneRound 182 = .ok (.getfield 50, 3) := by decide +kernel
theorem dX8_oneRound_185 : decode cX8_oneRound 185 = .ok (.iload 6, 2) := by decide +kernel
theorem dX8_oneRound_187 : decode cX8_oneRound 187 = .ok (.iaload, 1) := by decide +kernel
theorem dX8_oneRound_188 : decode cX8_oneRound 188 = .ok (.putfield 22, 3) := by decide +kernel
theorem dX8_oneRound_191 : decode cX8_oneRound 191 = .ok (.iinc 5 1, 3) := by decide +kernel
theorem dX8_oneRound_194 : decode cX8_oneRound 194 = .ok (.goto (-168), 3) := by decide +kernel
theorem dX8_oneRound_197 : decode cX8_oneRound 197 = .ok (.return_, 1) := by decide +kernel
set_option maxRecDepth 10000 in
set_option maxHeartbeats 4000000 in
theorem A_X8_oneRound_163 {Z : az_Z} {d : Nat} (C : az_C Z yX8_oneRound cX8_oneRound 8 none d) (hD : 7 ≤ d) (n : Nat) {k26 : az_Hp → Int → Int → Int → Int → Int → Int → Option az_Hp} (hk26 : ∀ {σ : az_Hp} {v0 v1 v2 v3 v4 v5 : Int} {r : az_Hp}, k26 σ v0 v1 v2 v3 v4 v5 = some r → az_AW Z 8 26 [(10, v0), (11, v1), (7, v2), (0, v3), (0, v4), (0, v5), (31, 0), (31, 0)] [] σ (none, r)) {σ : az_Hp} {v0 v1 v2 v3 v4 v5 v6 v7 : Int} {r : az_Hp} (h : fz_X8_oneRound_163 n k26 σ v0 v1 v2 v3 v4 v5 v6 v7 = some r) : az_AW Z 8 163 [(10, v0), (11, v1), (7, v2), (0, v3), (0, v4), (0, v5), (0, v6), (0, v7)] [] σ (none, r) := by
  have hd1 : 1 ≤ d := by omega
  unfold fz_X8_oneRound_163 at h
  refine az_il7 (pc := 163) C dX8_oneRound_163 ?_
  refine az_ik4 (pc := 165) C dX8_oneRound_165 ?_
  refine az_icmp_eq (pc := 166) (tgt := 191) C h dX8_oneRound_166 (by decide) (fun _ h => ?_) (fun _ h => ?_)
  · refine az_ii5 (pc := 191) C az_n1 rfl rfl dX8_oneRound_191 ?_
    refine az_goto (pc := 194) (tgt := 26) C dX8_oneRound_194 (by decide) ?_
    exact (az_wkk (hk26 h) (az_sE (az_sE (az_sE (az_sE (az_sE (az_sE (az_sJ (az_sJ az_sN)))))))))
  refine az_il7 (pc := 169) C dX8_oneRound_169 ?_
  refine az_if_eq (pc := 171) (tgt := 191) C h dX8_oneRound_171 (by decide) (fun _ h => ?_) (fun _ h => ?_)
  · refine az_ii5 (pc := 191) C az_n1 rfl rfl dX8_oneRound_191 ?_
    refine az_goto (pc := 194) (tgt := 26) C dX8_oneRound_194 (by decide) ?_
    exact (az_wkk (hk26 h) (az_sE (az_sE (az_sE (az_sE (az_sE (az_sE (az_sJ (az_sJ az_sN)))))))))
  refine az_al0 (pc := 174) C rfl rfl dX8_oneRound_174 ?_
  refine az_il7 (pc := 175) C dX8_oneRound_175 ?_
  refine az_putI (pc := 177) C fl_X8_19 (Or.inl rfl) rfl dX8_oneRound_177 ?_
  refine az_al0 (pc := 180) C rfl rfl dX8_oneRound_180 ?_
  refine az_al0 (pc := 181) C rfl rfl dX8_oneRound_181 ?_
  refine az_getR (pc := 182) (c2 := 13) C h fl_X8_50 rfl rfl dX8_oneRound_182 (fun h => ?_)
  refine az_il6 (pc := 185) C dX8_oneRound_185 ?_
  refine az_iaload (pc := 187) C h dX8_oneRound_187 (fun h => ?_)
  refine az_putI (pc := 188) C fl_X8_22 (Or.inl rfl) rfl dX8_oneRound_188 ?_
  refine az_ii5 (pc := 191) C az_n1 rfl rfl dX8_oneRound_191 ?_
  refine az_goto (pc := 194) (tgt := 26) C dX8_oneRound_194 (by decide) ?_
  exact (az_wkk (hk26 h) (az_sE (az_sE (az_sE (az_sE (az_sE (az_sE (az_sJ (az_sJ az_sN)))))))))
set_option maxRecDepth 10000 in
set_option maxHeartbeats 4000000 in
theorem A_X8_oneRound_140 {Z : az_Z} {d : Nat} (C : az_C Z yX8_oneRound cX8_oneRound 8 none d) (hD : 7 ≤ d) (n : Nat) {k26 : az_Hp → Int → Int → Int → Int → Int → Int → Option az_Hp} (hk26 : ∀ {σ : az_Hp} {v0 v1 v2 v3 v4 v5 : Int} {r : az_Hp}, k26 σ v0 v1 v2 v3 v4 v5 = some r → az_AW Z 8 26 [(10, v0), (11, v1), (7, v2), (0, v3), (0, v4), (0, v5), (31, 0), (31, 0)] [] σ (none, r)) {σ : az_Hp} {v0 v1 v2 v3 v4 v5 v6 v7 : Int} {r : az_Hp} (h : fz_X8_oneRound_140 n k26 σ v0 v1 v2 v3 v4 v5 v6 v7 = some r) : az_AW Z 8 140 [(10, v0), (11, v1), (7, v2), (0, v3), (0, v4), (0, v5), (0, v6), (0, v7)] [] σ (none, r) := by
  have hd1 : 1 ≤ d := by omega
  unfold fz_X8_oneRound_140 at h
  refine az_il7 (pc := 140) C dX8_oneRound_140 ?_
  refine az_ik4 (pc := 142) C dX8_oneRound_142 ?_
  refine az_icmp_ne (pc := 143) (tgt := 160) C h dX8_oneRound_143 (by decide) (fun _ h => ?_) (fun _ h => ?_)
  · refine az_ii4 (pc := 160) C az_n1 rfl rfl dX8_oneRound_160 ?_
    exact (A_X8_oneRound_163 C hD n (fun h => hk26 h) h)
  refine az_al0 (pc := 146) C rfl rfl dX8_oneRound_146 ?_
  refine az_ik1 (pc := 147) C dX8_oneRound_147 ?_
  refine az_putZc (pc := 148) C (by decide) fl_X8_44 (Or.inl rfl) rfl dX8_oneRound_148 ?_
  refine az_al0 (pc := 151) C rfl rfl dX8_oneRound_151 ?_
  refine az_il4 (pc := 152) C dX8_oneRound_152 ?_
  refine az_cV1v (pc := 154) (c := 8) C hd1 h mv_X8_remove ml_X8_109 rfl (fun x hx => A_X8_remove (by omega) n hx) dX8_oneRound_154 (fun r1 h => ?_)
  refine az_goto (pc := 157) (tgt := 163) C dX8_oneRound_157 (by decide) ?_
  exact (A_X8_oneRound_163 C hD n (fun h => hk26 h) h)
set_option maxRecDepth 10000 in
set_option maxHeartbeats 4000000 in
theorem A_X8_oneRound_26 {Z : az_Z} {d : Nat} (C : az_C Z yX8_oneRound cX8_oneRound 8 none d) (hD : 7 ≤ d) (n : Nat) (k : Nat) : ∀ {σ : az_Hp} {v0 v1 v2 v3 v4 v5 : Int} {r : az_Hp}, fz_X8_oneRound_26 n k σ v0 v1 v2 v3 v4 v5 = some r → az_AW Z 8 26 [(10, v0), (11, v1), (7, v2), (0, v3), (0, v4), (0, v5), (31, 0), (31, 0)] [] σ (none, r) := by
  have hd1 : 1 ≤ d := by omega
  induction k with
  | zero => intro σ v0 v1 v2 v3 v4 v5 r h; simp [fz_X8_oneRound_26] at h
  | succ k ih =>
    intro σ v0 v1 v2 v3 v4 v5 r h
    unfold fz_X8_oneRound_26 at h
    refine az_il5 (pc := 26) C dX8_oneRound_26 ?_
    refine az_il3 (pc := 28) C dX8_oneRound_28 ?_
    refine az_icmp_ge (pc := 29) (tgt := 197) C h dX8_oneRound_29 (by decide) (fun _ h => ?_) (fun _ h => ?_)
    · obtain rfl := Option.some.inj h
      exact az_return (pc := 197) C dX8_oneRound_197 rfl
    refine az_al0 (pc := 32) C rfl rfl dX8_oneRound_32 ?_
    refine az_getI (pc := 33) C fl_X8_19 rfl dX8_oneRound_33 ?_
    refine az_if_ne (pc := 36) (tgt := 197) C h dX8_oneRound_36 (by decide) (fun _ h => ?_) (fun _ h => ?_)
    · obtain rfl := Option.some.inj h
      exact az_return (pc := 197) C dX8_oneRound_197 rfl
    refine az_al0 (pc := 39) C rfl rfl dX8_oneRound_39 ?_
    refine az_getR (pc := 40) (c2 := 13) C h fl_X8_47 rfl rfl dX8_oneRound_40 (fun h => ?_)
    refine az_il4 (pc := 43) C dX8_oneRound_43 ?_
    refine az_iaload (pc := 45) C h dX8_oneRound_45 (fun h => ?_)
    refine az_is6 (pc := 46) C rfl rfl dX8_oneRound_46 ?_
    refine az_ik3 (pc := 48) C dX8_oneRound_48 ?_
    refine az_is7 (pc := 49) C rfl rfl dX8_oneRound_49 ?_
    refine az_al0 (pc := 51) C rfl rfl dX8_oneRound_51 ?_
    refine az_al0 (pc := 52) C rfl rfl dX8_oneRound_52 ?_
    refine az_getR (pc := 53) (c2 := 16) C h fl_X8_53 rfl rfl dX8_oneRound_53 (fun h => ?_)
    refine az_il6 (pc := 56) C dX8_oneRound_56 ?_
    refine az_aaload (pc := 58) C h dX8_oneRound_58 (fun h => ?_)
    refine az_al2 (pc := 59) C rfl rfl dX8_oneRound_59 ?_
    refine az_getR (pc := 60) (c2 := 7) C h fl_X8_91 rfl rfl dX8_oneRound_60 (fun h => ?_)
    refine az_cV2ii (pc := 63) (c := 8) C hd1 h mv_X8_expand ml_X8_97 rfl (fun x hx => A_X8_expand (by omega) n hx) dX8_oneRound_63 (fun r6 h => ?_)
    refine az_if_eq (pc := 66) (tgt := 140) C h dX8_oneRound_66 (by decide) (fun _ h => ?_) (fun _ h => ?_)
    · exact (A_X8_oneRound_140 C hD n (fun h => ih h) h)
    refine az_al2 (pc := 69) C rfl rfl dX8_oneRound_69 ?_
    refine az_ik0 (pc := 70) C dX8_oneRound_70 ?_
    refine az_cV1ii (pc := 71) (c := 5) C hd1 h mv_X5_reduceAll ml_X8_101 rfl (fun x hx => A_X5_reduceAll (by omega) n hx) dX8_oneRound_71 (fun r7 h => ?_)
    refine az_if_ne (pc := 74) (tgt := 140) C h dX8_oneRound_74 (by decide) (fun _ h => ?_) (fun _ h => ?_)
    · exact (A_X8_oneRound_140 C hD n (fun h => ih h) h)
    refine az_al0 (pc := 77) C rfl rfl dX8_oneRound_77 ?_
    refine az_getR (pc := 78) (c2 := 16) C h fl_X8_53 rfl rfl dX8_oneRound_78 (fun h => ?_)
    refine az_il6 (pc := 81) C dX8_oneRound_81 ?_
    refine az_aaload (pc := 83) C h dX8_oneRound_83 (fun h => ?_)
    refine az_al2 (pc := 84) C rfl rfl dX8_oneRound_84 ?_
    refine az_getR (pc := 85) (c2 := 7) C h fl_X8_91 rfl rfl dX8_oneRound_85 (fun h => ?_)
    refine az_cV1v (pc := 88) (c := 7) C hd1 h mv_X7_take ml_X8_84 rfl (fun x hx => A_X7_take (by omega) hx) dX8_oneRound_88 (fun r11 h => ?_)
    refine az_al0 (pc := 91) C rfl rfl dX8_oneRound_91 ?_
    refine az_al0 (pc := 92) C rfl rfl dX8_oneRound_92 ?_
    refine az_getR (pc := 93) (c2 := 16) C h fl_X8_56 rfl rfl dX8_oneRound_93 (fun h => ?_)
    refine az_il6 (pc := 96) C dX8_oneRound_96 ?_
    refine az_aaload (pc := 98) C h dX8_oneRound_98 (fun h => ?_)
    refine az_al2 (pc := 99) C rfl rfl dX8_oneRound_99 ?_
    refine az_getR (pc := 100) (c2 := 7) C h fl_X8_91 rfl rfl dX8_oneRound_100 (fun h => ?_)
    refine az_cV2ii (pc := 103) (c := 8) C hd1 h mv_X8_expand ml_X8_97 rfl (fun x hx => A_X8_expand (by omega) n hx) dX8_oneRound_103 (fun r15 h => ?_)
    refine az_if_eq (pc := 106) (tgt := 140) C h dX8_oneRound_106 (by decide) (fun _ h => ?_) (fun _ h => ?_)
    · exact (A_X8_oneRound_140 C hD n (fun h => ih h) h)
    refine az_al2 (pc := 109) C rfl rfl dX8_oneRound_109 ?_
    refine az_ik0 (pc := 110) C dX8_oneRound_110 ?_
    refine az_cV1ii (pc := 111) (c := 5) C hd1 h mv_X5_reduceAll ml_X8_101 rfl (fun x hx => A_X5_reduceAll (by omega) n hx) dX8_oneRound_111 (fun r16 h => ?_)
    refine az_if_ne (pc := 114) (tgt := 140) C h dX8_oneRound_114 (by decide) (fun _ h => ?_) (fun _ h => ?_)
    · exact (A_X8_oneRound_140 C hD n (fun h => ih h) h)
    refine az_al0 (pc := 117) C rfl rfl dX8_oneRound_117 ?_
    refine az_getR (pc := 118) (c2 := 16) C h fl_X8_56 rfl rfl dX8_oneRound_118 (fun h => ?_)
    refine az_il6 (pc := 121) C dX8_oneRound_121 ?_
    refine az_aaload (pc := 123) C h dX8_oneRound_123 (fun h => ?_)
    refine az_al2 (pc := 124) C rfl rfl dX8_oneRound_124 ?_
    refine az_getR (pc := 125) (c2 := 7) C h fl_X8_91 rfl rfl dX8_oneRound_125 (fun h => ?_)
    refine az_cV1v (pc := 128) (c := 7) C hd1 h mv_X7_take ml_X8_84 rfl (fun x hx => A_X7_take (by omega) hx) dX8_oneRound_128 (fun r20 h => ?_)
    refine az_al0 (pc := 131) C rfl rfl dX8_oneRound_131 ?_
    refine az_al1 (pc := 132) C rfl rfl dX8_oneRound_132 ?_
    refine az_il6 (pc := 133) C dX8_oneRound_133 ?_
    refine az_cV2ii (pc := 135) (c := 8) C hd1 h mv_X8_settle ml_X8_105 rfl (fun x hx => A_X8_settle (by omega) n hx) dX8_oneRound_135 (fun r21 h => ?_)
    refine az_is7 (pc := 138) C rfl rfl dX8_oneRound_138 ?_
    exact (A_X8_oneRound_140 C hD n (fun h => ih h) h)
set_option maxRecDepth 10000 in
set_option maxHeartbeats 4000000 in
theorem A_X8_oneRound_e {Z : az_Z} {d : Nat} (C : az_C Z yX8_oneRound cX8_oneRound 8 none d) (hD : 7 ≤ d) (n : Nat) {σ : az_Hp} {v0 v1 v2 : Int} {r : az_Hp} (h : fz_X8_oneRound n σ v0 v1 v2 = some r) : az_AW Z 8 0 [(10, v0), (11, v1), (7, v2), (31, 0), (31, 0), (31, 0), (31, 0), (31, 0)] [] σ (none, r) := by
  have hd1 : 1 ≤ d := by omega
  unfold fz_X8_oneRound at h
  refine az_al0 (pc := 0) C rfl rfl dX8_oneRound_0 ?_
  refine az_dup (pc := 1) C rfl rfl dX8_oneRound_1 ?_
  refine az_getI (pc := 2) C fl_X8_25 rfl dX8_oneRound_2 ?_
  refine az_ik1 (pc := 5) C dX8_oneRound_5 ?_
  refine az_iadd (pc := 6) C dX8_oneRound_6 ?_
  refine az_putI (pc := 7) C fl_X8_25 (Or.inl rfl) rfl dX8_oneRound_7 ?_
  refine az_al0 (pc := 10) C rfl rfl dX8_oneRound_10 ?_
  refine az_ik0 (pc := 11) C dX8_oneRound_11 ?_
  refine az_putZc (pc := 12) C (by decide) fl_X8_44 (Or.inl rfl) rfl dX8_oneRound_12 ?_
  refine az_al0 (pc := 15) C rfl rfl dX8_oneRound_15 ?_
  refine az_getI (pc := 16) C fl_X8_15 rfl dX8_oneRound_16 ?_
  refine az_is3 (pc := 19) C rfl rfl dX8_oneRound_19 ?_
  refine az_ik0 (pc := 20) C dX8_oneRound_20 ?_
  refine az_is4 (pc := 21) C rfl rfl dX8_oneRound_21 ?_
  refine az_ik0 (pc := 23) C dX8_oneRound_23 ?_
  refine az_is5 (pc := 24) C rfl rfl dX8_oneRound_24 ?_
  exact (A_X8_oneRound_26 C hD n n h)
set_option maxRecDepth 10000 in
set_option maxHeartbeats 4000000 in
theorem A_X8_oneRound {l : Launch} {d : Nat} (hD : 7 ≤ d) (n : Nat) {σ : az_Hp} {v0 v1 v2 : Int} {r : az_Hp} (h : fz_X8_oneRound n σ v0 v1 v2 = some r) : az_AC l yX8_oneRound cX8_oneRound 8 none d [(10, v0), (11, v1), (7, v2)] σ (none, r) := az_AC.of mt_X8_oneRound rfl rfl rfl (fun Z hZ C => A_X8_oneRound_e C hD n h)
theorem dX10_want_0 : decode cX10_want 0 = .ok (.iload_n 1, 1) := by decide +kernel
theorem dX10_want_1 : decode cX10_want 1 = .ok (.ifCond .lt 11, 3) := by decide +kernel
theorem dX10_want_4 : decode cX10_want 4 = .ok (.iload_n 1, 1) := by decide +kernel
theorem dX10_want_5 : decode cX10_want 5 = .ok (.aload_n 0, 1) := by decide +kernel
theorem dX10_want_6 : decode cX10_want 6 = .ok (.getfield 13, 3) := by decide +kernel
theorem dX10_want_9 : decode cX10_want 9 = .ok (.if_icmp .le 9, 3) := by decide +kernel
theorem dX10_want_12 : decode cX10_want 12 = .ok (.aload_n 0, 1) := by decide +kernel
theorem dX10_want_13 : decode cX10_want 13 = .ok (.iconst 1, 1) := by decide +kernel
theorem dX10_want_14 : decode cX10_want 14 = .ok (.invokevirtual 112, 3) := by decide +kernel
theorem dX10_want_17 : decode cX10_want 17 = .ok (.ireturn, 1) := by decide +kernel
theorem dX10_want_18 : decode cX10_want 18 = .ok (.aload_n 0, 1) := by decide +kernel
theorem dX10_want_19 : decode cX10_want 19 = .ok (.getfield 48, 3) := by decide +kernel
theorem dX10_want_22 : decode cX10_want 22 = .ok (.aload_n 0, 1) := by decide +kernel
theorem dX10_want_23 : decode cX10_want 23 = .ok (.getfield 9, 3) := by decide +kernel
theorem dX10_want_26 : decode cX10_want 26 = .ok (.iload_n 1, 1) := by decide +kernel
theorem dX10_want_27 : decode cX10_want 27 = .ok (.aload_n 0, 1) := by decide +kernel
theorem dX10_want_28 : decode cX10_want 28 = .ok (.getfield 29, 3) := by decide +kernel
theorem dX10_want_31 : decode cX10_want 31 = .ok (.invokevirtual 321, 3) := by decide +kernel
theorem dX10_want_34 : decode cX10_want 34 = .ok (.istore_n 2, 1) := by decide +kernel
theorem dX10_want_35 : decode cX10_want 35 = .ok (.aload_n 0, 1) := by decide +kernel
theorem dX10_want_36 : decode cX10_want 36 = .ok (.iload_n 2, 1) := by decide +kernel
theorem dX10_want_37 : decode cX10_want 37 = .ok (.invokevirtual 120, 3) := by decide +kernel
theorem dX10_want_40 : decode cX10_want 40 = .ok (.ifCond .ne 10, 3) := by decide +kernel
theorem dX10_want_43 : decode cX10_want 43 = .ok (.aload_n 0, 1) := by decide +kernel
theorem dX10_want_44 : decode cX10_want 44 = .ok (.bipush 9, 2) := by decide +kernel
theorem dX10_want_46 : decode cX10_want 46 = .ok (.invokevirtual 112, 3) := by decide +kernel
theorem dX10_want_49 : decode cX10_want 49 = .ok (.ireturn, 1) := by decide +kernel
theorem dX10_want_50 : decode cX10_want 50 = .ok (.aload_n 0, 1) := by decide +kernel
theorem dX10_want_51 : decode cX10_want 51 = .ok (.getfield 98, 3) := by decide +kernel
theorem dX10_want_54 : decode cX10_want 54 = .ok (.aload_n 0, 1) := by decide +kernel
theorem dX10_want_55 : decode cX10_want 55 = .ok (.getfield 39, 3) := by decide +kernel
theorem dX10_want_58 : decode cX10_want 58 = .ok (.invokevirtual 324, 3) := by decide +kernel
theorem dX10_want_61 : decode cX10_want 61 = .ok (.aload_n 0, 1) := by decide +kernel
theorem dX10_want_62 : decode cX10_want 62 = .ok (.getfield 73, 3) := by decide +kernel
theorem dX10_want_65 : decode cX10_want 65 = .ok (.iconst 1, 1) := by decide +kernel
theorem dX10_want_66 : decode cX10_want 66 = .ok (.putfield 328, 3) := by decide +kernel
theorem dX10_want_69 : decode cX10_want 69 = .ok (.iconst 0, 1) := by decide +kernel
theorem dX10_want_70 : decode cX10_want 70 = .ok (.istore_n 3, 1) := by decide +kernel
theorem dX10_want_71 : decode cX10_want 71 = .ok (.iload_n 3, 1) := by decide +kernel
theorem dX10_want_72 : decode cX10_want 72 = .ok (.bipush 20, 2) := by decide +kernel
theorem dX10_want_74 : decode cX10_want 74 = .ok (.if_icmp .ge 34, 3) := by decide +kernel
theorem dX10_want_77 : decode cX10_want 77 = .ok (.aload_n 0, 1) := by decide +kernel
theorem dX10_want_78 : decode cX10_want 78 = .ok (.getfield 98, 3) := by decide +kernel
theorem dX10_want_81 : decode cX10_want 81 = .ok (.invokevirtual 332, 3) := by decide +kernel
theorem dX10_want_84 : decode cX10_want 84 = .ok (.ifCond .eq 24, 3) := by decide +kernel
theorem dX10_want_87 : decode cX10_want 87 = .ok (.aload_n 0, 1) := by decide +kernel
theorem dX10_want_88 : decode cX10_want 88 = .ok (.getfield 98, 3) := by decide +kernel
theorem dX10_want_91 : decode cX10_want 91 = .ok (.aload_n 0, 1) := by decide +kernel
theorem dX10_want_92 : decode cX10_want 92 = .ok (.getfield 29, 3) := by decide +kernel
theorem dX10_want_95 : decode cX10_want 95 = .ok (.aload_n 0, 1) := by decide +kernel
theorem dX10_want_96 : decode cX10_want 96 = .ok (.getfield 73, 3) := by decide +kernel
theorem dX10_want_99 : decode cX10_want 99 = .ok (.invokevirtual 335, 3) := by decide +kernel
theorem dX10_want_102 : decode cX10_want 102 = .ok (.iinc 3 1, 3) := by decide +kernel
theorem dX10_want_105 : decode cX10_want 105 = .ok (.goto (-34), 3) := by decide +kernel
theorem dX10_want_108 : decode cX10_want 108 = .ok (.aload_n 0, 1) := by decide +kernel
theorem dX10_want_109 : decode cX10_want 109 = .ok (.getfield 73, 3) := by decide +kernel
theorem dX10_want_112 : decode cX10_want 112 = .ok (.iconst 0, 1) := by decide +kernel
theorem dX10_want_113 : decode cX10_want 113 = .ok (.putfield 328, 3) := by decide +kernel
theorem dX10_want_116 : decode cX10_want 116 = .ok (.aload_n 0, 1) := by decide +kernel
theorem dX10_want_117 : decode cX10_want 117 = .ok (.aload_n 0, 1) := by decide +kernel
theorem dX10_want_118 : decode cX10_want 118 = .ok (.getfield 98, 3) := by decide +kernel
theorem dX10_want_121 : decode cX10_want 121 = .ok (.getfield 339, 3) := by decide +kernel
theorem dX10_want_124 : decode cX10_want 124 = .ok (.invokevirtual 138, 3) := by decide +kernel
theorem dX10_want_127 : decode cX10_want 127 = .ok (.ireturn, 1) := by decide +kernel
set_option maxRecDepth 10000 in
set_option maxHeartbeats 4000000 in
theorem A_X10_want_108 {Z : az_Z} {d : Nat} (C : az_C Z yX10_want cX10_want 4 (some .int) d) (hD : 8 ≤ d) (n : Nat) {σ : az_Hp} {v0 : Int} {r : (Int × az_Hp)} (h : fz_X10_want_108 n σ v0 = some r) : az_AW Z 4 108 [(12, v0), (31, 0), (31, 0), (31, 0)] [] σ (some (0, r.1), r.2) := by
  have hd1 : 1 ≤ d := by omega
  unfold fz_X10_want_108 at h
  refine az_al0 (pc := 108) C rfl rfl dX10_want_108 ?_
  refine az_getR (pc := 109) (c2 := 5) C h fl_X10_73 rfl rfl dX10_want_109 (fun h => ?_)
  refine az_ik0 (pc := 112) C dX10_want_112 ?_
  refine az_putZc (pc := 113) C (by decide) fl_X10_328 (Or.inl rfl) rfl dX10_want_113 ?_
  refine az_al0 (pc := 116) C rfl rfl dX10_want_116 ?_
  refine az_al0 (pc := 117) C rfl rfl dX10_want_117 ?_
  refine az_getR (pc := 118) (c2 := 8) C h fl_X10_98 rfl rfl dX10_want_118 (fun h => ?_)
  refine az_getI (pc := 121) C fl_X10_339 rfl dX10_want_121 ?_
  refine az_cV1ii (pc := 124) (c := 10) C hd1 h mv_X10_give ml_X10_138 rfl (fun x hx => A_X10_give (by omega) hx) dX10_want_124 (fun r3 h => ?_)
  obtain rfl := Option.some.inj h
  exact az_ireturn (pc := 127) C dX10_want_127 rfl
set_option maxRecDepth 10000 in
set_option maxHeartbeats 4000000 in
theorem A_X10_want_71 {Z : az_Z} {d : Nat} (C : az_C Z yX10_want cX10_want 4 (some .int) d) (hD : 8 ≤ d) (n : Nat) (k : Nat) : ∀ {σ : az_Hp} {v0 v3 : Int} {r : (Int × az_Hp)}, fz_X10_want_71 n k σ v0 v3 = some r → az_AW Z 4 71 [(12, v0), (31, 0), (31, 0), (0, v3)] [] σ (some (0, r.1), r.2) := by
  have hd1 : 1 ≤ d := by omega
  induction k with
  | zero => intro σ v0 v3 r h; simp [fz_X10_want_71] at h
  | succ k ih =>
    intro σ v0 v3 r h
    unfold fz_X10_want_71 at h
    refine az_il3 (pc := 71) C dX10_want_71 ?_
    refine az_bk20 (pc := 72) C dX10_want_72 ?_
    refine az_icmp_ge (pc := 74) (tgt := 108) C h dX10_want_74 (by decide) (fun _ h => ?_) (fun _ h => ?_)
    · exact (az_wkk (A_X10_want_108 C hD n h) (az_sE (az_sJ (az_sJ (az_sJ az_sN)))))
    refine az_al0 (pc := 77) C rfl rfl dX10_want_77 ?_
    refine az_getR (pc := 78) (c2 := 8) C h fl_X10_98 rfl rfl dX10_want_78 (fun h => ?_)
    refine az_cV0pi (pc := 81) (c := 8) C hd1 h mv_X8_goesOn ml_X10_332 rfl (fun x hx => A_X8_goesOn (by omega) hx) dX10_want_81 (fun r2 h => ?_)
    refine az_if_eq (pc := 84) (tgt := 108) C h dX10_want_84 (by decide) (fun _ h => ?_) (fun _ h => ?_)
    · exact (az_wkk (A_X10_want_108 C hD n h) (az_sE (az_sJ (az_sJ (az_sJ az_sN)))))
    refine az_al0 (pc := 87) C rfl rfl dX10_want_87 ?_
    refine az_getR (pc := 88) (c2 := 8) C h fl_X10_98 rfl rfl dX10_want_88 (fun h => ?_)
    refine az_al0 (pc := 91) C rfl rfl dX10_want_91 ?_
    refine az_getR (pc := 92) (c2 := 9) C h fl_X10_29 rfl rfl dX10_want_92 (fun h => ?_)
    refine az_al0 (pc := 95) C rfl rfl dX10_want_95 ?_
    refine az_getR (pc := 96) (c2 := 5) C h fl_X10_73 rfl rfl dX10_want_96 (fun h => ?_)
    refine az_cV2v (pc := 99) (c := 8) C hd1 h mv_X8_oneRound ml_X10_335 rfl (fun x hx => A_X8_oneRound (by omega) n hx) dX10_want_99 (fun r6 h => ?_)
    refine az_ii3 (pc := 102) C az_n1 rfl rfl dX10_want_102 ?_
    refine az_goto (pc := 105) (tgt := 71) C dX10_want_105 (by decide) ?_
    exact (ih h)
set_option maxRecDepth 10000 in
set_option maxHeartbeats 4000000 in
theorem A_X10_want_e {Z : az_Z} {d : Nat} (C : az_C Z yX10_want cX10_want 4 (some .int) d) (hD : 8 ≤ d) (n : Nat) {σ : az_Hp} {v0 v1 : Int} {r : (Int × az_Hp)} (h : fz_X10_want n σ v0 v1 = some r) : az_AW Z 4 0 [(12, v0), (0, v1), (31, 0), (31, 0)] [] σ (some (0, r.1), r.2) := by
  have hd1 : 1 ≤ d := by omega
  unfold fz_X10_want at h
  refine az_il1 (pc := 0) C dX10_want_0 ?_
  refine az_if_lt (pc := 1) (tgt := 12) C h dX10_want_1 (by decide) (fun _ h => ?_) (fun _ h => ?_)
  · refine az_al0 (pc := 12) C rfl rfl dX10_want_12 ?_
    refine az_ik1 (pc := 13) C dX10_want_13 ?_
    refine az_cV1ii (pc := 14) (c := 10) C hd1 h mv_X10_refuse ml_X10_112 rfl (fun x hx => A_X10_refuse (by omega) hx) dX10_want_14 (fun r1 h => ?_)
    obtain rfl := Option.some.inj h
    exact az_ireturn (pc := 17) C dX10_want_17 rfl
  refine az_il1 (pc := 4) C dX10_want_4 ?_
  refine az_al0 (pc := 5) C rfl rfl dX10_want_5 ?_
  refine az_getI (pc := 6) C fl_X10_13 rfl dX10_want_6 ?_
  refine az_icmp_le (pc := 9) (tgt := 18) C h dX10_want_9 (by decide) (fun _ h => ?_) (fun _ h => ?_)
  · refine az_al0 (pc := 18) C rfl rfl dX10_want_18 ?_
    refine az_getR (pc := 19) (c2 := 4) C h fl_X10_48 rfl rfl dX10_want_19 (fun h => ?_)
    refine az_al0 (pc := 22) C rfl rfl dX10_want_22 ?_
    refine az_getR (pc := 23) (c2 := 13) C h fl_X10_9 rfl rfl dX10_want_23 (fun h => ?_)
    refine az_il1 (pc := 26) C dX10_want_26 ?_
    refine az_al0 (pc := 27) C rfl rfl dX10_want_27 ?_
    refine az_getR (pc := 28) (c2 := 9) C h fl_X10_29 rfl rfl dX10_want_28 (fun h => ?_)
    refine az_cV3ii (pc := 31) (c := 4) C hd1 h mv_X4_readRequest ml_X10_321 rfl (fun x hx => A_X4_readRequest (by omega) n hx) dX10_want_31 (fun r5 h => ?_)
    refine az_is2 (pc := 34) C rfl rfl dX10_want_34 ?_
    refine az_al0 (pc := 35) C rfl rfl dX10_want_35 ?_
    refine az_il2 (pc := 36) C dX10_want_36 ?_
    refine az_cV1ii (pc := 37) (c := 10) C hd1 h mv_X10_takeTape ml_X10_120 rfl (fun x hx => A_X10_takeTape (by omega) hx) dX10_want_37 (fun r6 h => ?_)
    refine az_if_ne (pc := 40) (tgt := 50) C h dX10_want_40 (by decide) (fun _ h => ?_) (fun _ h => ?_)
    · refine az_al0 (pc := 50) C rfl rfl dX10_want_50 ?_
      refine az_getR (pc := 51) (c2 := 8) C h fl_X10_98 rfl rfl dX10_want_51 (fun h => ?_)
      refine az_al0 (pc := 54) C rfl rfl dX10_want_54 ?_
      refine az_getR (pc := 55) (c2 := 6) C h fl_X10_39 rfl rfl dX10_want_55 (fun h => ?_)
      refine az_cV1v (pc := 58) (c := 8) C hd1 h mv_X8_begin ml_X10_324 rfl (fun x hx => A_X8_begin (by omega) n hx) dX10_want_58 (fun r9 h => ?_)
      refine az_al0 (pc := 61) C rfl rfl dX10_want_61 ?_
      refine az_getR (pc := 62) (c2 := 5) C h fl_X10_73 rfl rfl dX10_want_62 (fun h => ?_)
      refine az_ik1 (pc := 65) C dX10_want_65 ?_
      refine az_putZc (pc := 66) C (by decide) fl_X10_328 (Or.inl rfl) rfl dX10_want_66 ?_
      refine az_ik0 (pc := 69) C dX10_want_69 ?_
      refine az_is3 (pc := 70) C rfl rfl dX10_want_70 ?_
      exact (az_wkk (A_X10_want_71 C hD n n h) (az_sE (az_sJ (az_sJ (az_sE az_sN)))))
    refine az_al0 (pc := 43) C rfl rfl dX10_want_43 ?_
    refine az_bk9 (pc := 44) C dX10_want_44 ?_
    refine az_cV1ii (pc := 46) (c := 10) C hd1 h mv_X10_refuse ml_X10_112 rfl (fun x hx => A_X10_refuse (by omega) hx) dX10_want_46 (fun r11 h => ?_)
    obtain rfl := Option.some.inj h
    exact az_ireturn (pc := 49) C dX10_want_49 rfl
  refine az_al0 (pc := 12) C rfl rfl dX10_want_12 ?_
  refine az_ik1 (pc := 13) C dX10_want_13 ?_
  refine az_cV1ii (pc := 14) (c := 10) C hd1 h mv_X10_refuse ml_X10_112 rfl (fun x hx => A_X10_refuse (by omega) hx) dX10_want_14 (fun r12 h => ?_)
  obtain rfl := Option.some.inj h
  exact az_ireturn (pc := 17) C dX10_want_17 rfl
set_option maxRecDepth 10000 in
set_option maxHeartbeats 4000000 in
theorem A_X10_want {l : Launch} {d : Nat} (hD : 8 ≤ d) (n : Nat) {σ : az_Hp} {v0 v1 : Int} {r : (Int × az_Hp)} (h : fz_X10_want n σ v0 v1 = some r) : az_AC l yX10_want cX10_want 4 (some .int) d [(12, v0), (0, v1)] σ (some (0, r.1), r.2) := az_AC.of mt_X10_want rfl rfl rfl (fun Z hZ C => A_X10_want_e C hD n h)
theorem dX10_wanted_0 : decode cX10_wanted 0 = .ok (.iload_n 1, 1) := by decide +kernel
theorem dX10_wanted_1 : decode cX10_wanted 1 = .ok (.ifCond .lt 8, 3) := by decide +kernel
theorem dX10_wanted_4 : decode cX10_wanted 4 = .ok (.iload_n 1, 1) := by decide +kernel
theorem dX10_wanted_5 : decode cX10_wanted 5 = .ok (.iconst 5, 1) := by decide +kernel
theorem dX10_wanted_6 : decode cX10_wanted 6 = .ok (.if_icmp .le 9, 3) := by decide +kernel
theorem dX10_wanted_9 : decode cX10_wanted 9 = .ok (.aload_n 0, 1) := by decide +kernel
theorem dX10_wanted_10 : decode cX10_wanted 10 = .ok (.iconst 1, 1) := by decide +kernel
theorem dX10_wanted_11 : decode cX10_wanted 11 = .ok (.invokevirtual 112, 3) := by decide +kernel
theorem dX10_wanted_14 : decode cX10_wanted 14 = .ok (.ireturn, 1) := by decide +kernel
theorem dX10_wanted_15 : decode cX10_wanted 15 = .ok (.aload_n 0, 1) := by decide +kernel
theorem dX10_wanted_16 : decode cX10_wanted 16 = .ok (.getfield 98, 3) := by decide +kernel
theorem dX10_wanted_19 : decode cX10_wanted 19 = .ok (.getfield 340, 3) := by decide +kernel
theorem dX10_wanted_22 : decode cX10_wanted 22 = .ok (.ifCond .ne 9, 3) := by decide +kernel
theorem dX10_wanted_25 : decode cX10_wanted 25 = .ok (.aload_n 0, 1) := by decide +kernel
theorem dX10_wanted_26 : decode cX10_wanted 26 = .ok (.iconst 5, 1) := by decide +kernel
theorem dX10_wanted_27 : decode cX10_wanted 27 = .ok (.invokevirtual 112, 3) := by decide +kernel
theorem dX10_wanted_30 : decode cX10_wanted 30 = .ok (.ireturn, 1) := by decide +kernel
theorem dX10_wanted_31 : decode cX10_wanted 31 = .ok (.iload_n 1, 1) := by decide +kernel
theorem dX10_wanted_32 : decode cX10_wanted 32 = .ok (.tableswitch 96 0 4 #[36, 48, 60, 72, 84], 36) := by decide +kernel
theorem dX10_wanted_68 : decode cX10_wanted 68 = .ok (.aload_n 0, 1) := by decide +kernel
theorem dX10_wanted_69 : decode cX10_wanted 69 = .ok (.aload_n 0, 1) := by decide +kernel
theorem dX10_wanted_70 : decode cX10_wanted 70 = .ok (.getfield 98, 3) := by decide +kernel
theorem dX10_wanted_73 : decode cX10_wanted 73 = .ok (.getfield 339, 3) := by decide +kernel
theorem dX10_wanted_76 : decode cX10_wanted 76 = .ok (.invokevirtual 138, 3) := by decide +kernel
theorem dX10_wanted_79 : decode cX10_wanted 79 = .ok (.ireturn, 1) := by decide +kernel
theorem dX10_wanted_80 : decode cX10_wanted 80 = .ok (.aload_n 0, 1) := by decide +kernel
theorem dX10_wanted_81 : decode cX10_wanted 81 = .ok (.aload_n 0, 1) := by decide +kernel
theorem dX10_wanted_82 : decode cX10_wanted 82 = .ok (.getfield 98, 3) := by decide +kernel
theorem dX10_wanted_85 : decode cX10_wanted 85 = .ok (.getfield 343, 3) := by decide +kernel
theorem dX10_wanted_88 : decode cX10_wanted 88 = .ok (.invokevirtual 138, 3) := by decide +kernel
theorem dX10_wanted_91 : decode cX10_wanted 91 = .ok (.ireturn, 1) := by decide +kernel
theorem dX10_wanted_92 : decode cX10_wanted 92 = .ok (.aload_n 0, 1) := by decide +kernel
theorem dX10_wanted_93 : decode cX10_wanted 93 = .ok (.aload_n 0, 1) := by decide +kernel
theorem dX10_wanted_94 : decode cX10_wanted 94 = .ok (.getfield 98, 3) := by decide +kernel
theorem dX10_wanted_97 : decode cX10_wanted 97 = .ok (.getfield 346, 3) := by decide +kernel
theorem dX10_wanted_100 : decode cX10_wanted 100 = .ok (.invokevirtual 138, 3) := by decide +kernel
theorem dX10_wanted_103 : decode cX10_wanted 103 = .ok (.ireturn, 1) := by decide +kernel
theorem dX10_wanted_104 : decode cX10_wanted 104 = .ok (.aload_n 0, 1) := by decide +kernel
theorem dX10_wanted_105 : decode cX10_wanted 105 = .ok (.aload_n 0, 1) := by decide +kernel
theorem dX10_wanted_106 : decode cX10_wanted 106 = .ok (.getfield 98, 3) := by decide +kernel
theorem dX10_wanted_109 : decode cX10_wanted 109 = .ok (.getfield 349, 3) := by decide +kernel
theorem dX10_wanted_112 : decode cX10_wanted 112 = .ok (.invokevirtual 138, 3) := by decide +kernel
theorem dX10_wanted_115 : decode cX10_wanted 115 = .ok (.ireturn, 1) := by decide +kernel
theorem dX10_wanted_116 : decode cX10_wanted 116 = .ok (.aload_n 0, 1) := by decide +kernel
theorem dX10_wanted_117 : decode cX10_wanted 117 = .ok (.aload_n 0, 1) := by decide +kernel
theorem dX10_wanted_118 : decode cX10_wanted 118 = .ok (.getfield 98, 3) := by decide +kernel
theorem dX10_wanted_121 : decode cX10_wanted 121 = .ok (.getfield 352, 3) := by decide +kernel
theorem dX10_wanted_124 : decode cX10_wanted 124 = .ok (.invokevirtual 138, 3) := by decide +kernel
theorem dX10_wanted_127 : decode cX10_wanted 127 = .ok (.ireturn, 1) := by decide +kernel
theorem dX10_wanted_128 : decode cX10_wanted 128 = .ok (.aload_n 0, 1) := by decide +kernel
theorem dX10_wanted_129 : decode cX10_wanted 129 = .ok (.aload_n 0, 1) := by decide +kernel
theorem dX10_wanted_130 : decode cX10_wanted 130 = .ok (.getfield 98, 3) := by decide +kernel
theorem dX10_wanted_133 : decode cX10_wanted 133 = .ok (.getfield 355, 3) := by decide +kernel
theorem dX10_wanted_136 : decode cX10_wanted 136 = .ok (.invokevirtual 138, 3) := by decide +kernel
theorem dX10_wanted_139 : decode cX10_wanted 139 = .ok (.ireturn, 1) := by decide +kernel
set_option maxRecDepth 10000 in
set_option maxHeartbeats 4000000 in
theorem A_X10_wanted_e {Z : az_Z} {d : Nat} (C : az_C Z yX10_wanted cX10_wanted 2 (some .int) d) (hD : 2 ≤ d) {σ : az_Hp} {v0 v1 : Int} {r : (Int × az_Hp)} (h : fz_X10_wanted σ v0 v1 = some r) : az_AW Z 2 0 [(12, v0), (0, v1)] [] σ (some (0, r.1), r.2) := by
  have hd1 : 1 ≤ d := by omega
  unfold fz_X10_wanted at h
  refine az_il1 (pc := 0) C dX10_wanted_0 ?_
  refine az_if_lt (pc := 1) (tgt := 9) C h dX10_wanted_1 (by decide) (fun _ h => ?_) (fun _ h => ?_)
  · refine az_al0 (pc := 9) C rfl rfl dX10_wanted_9 ?_
    refine az_ik1 (pc := 10) C dX10_wanted_10 ?_
    refine az_cV1ii (pc := 11) (c := 10) C hd1 h mv_X10_refuse ml_X10_112 rfl (fun x hx => A_X10_refuse (by omega) hx) dX10_wanted_11 (fun r1 h => ?_)
    obtain rfl := Option.some.inj h
    exact az_ireturn (pc := 14) C dX10_wanted_14 rfl
  refine az_il1 (pc := 4) C dX10_wanted_4 ?_
  refine az_ik5 (pc := 5) C dX10_wanted_5 ?_
  refine az_icmp_le (pc := 6) (tgt := 15) C h dX10_wanted_6 (by decide) (fun _ h => ?_) (fun _ h => ?_)
  · refine az_al0 (pc := 15) C rfl rfl dX10_wanted_15 ?_
    refine az_getR (pc := 16) (c2 := 8) C h fl_X10_98 rfl rfl dX10_wanted_16 (fun h => ?_)
    refine az_getI (pc := 19) C fl_X10_340 rfl dX10_wanted_19 ?_
    refine az_if_ne (pc := 22) (tgt := 31) C h dX10_wanted_22 (by decide) (fun _ h => ?_) (fun _ h => ?_)
    · refine az_il1 (pc := 31) C dX10_wanted_31 ?_
      rcases az_ite h with ⟨c0, h⟩ | ⟨c0, h⟩
      · refine az_tswIn (pc := 32) (i := 0) (tgt := 68) C (by exact c0) (by decide) rfl dX10_wanted_32 (by decide) ?_
        refine az_al0 (pc := 68) C rfl rfl dX10_wanted_68 ?_
        refine az_al0 (pc := 69) C rfl rfl dX10_wanted_69 ?_
        refine az_getR (pc := 70) (c2 := 8) C h fl_X10_98 rfl rfl dX10_wanted_70 (fun h => ?_)
        refine az_getI (pc := 73) C fl_X10_339 rfl dX10_wanted_73 ?_
        refine az_cV1ii (pc := 76) (c := 10) C hd1 h mv_X10_give ml_X10_138 rfl (fun x hx => A_X10_give (by omega) hx) dX10_wanted_76 (fun r4 h => ?_)
        obtain rfl := Option.some.inj h
        exact az_ireturn (pc := 79) C dX10_wanted_79 rfl
      rcases az_ite h with ⟨c1, h⟩ | ⟨c1, h⟩
      · refine az_tswIn (pc := 32) (i := 1) (tgt := 80) C (by exact c1) (by decide) rfl dX10_wanted_32 (by decide) ?_
        refine az_al0 (pc := 80) C rfl rfl dX10_wanted_80 ?_
        refine az_al0 (pc := 81) C rfl rfl dX10_wanted_81 ?_
        refine az_getR (pc := 82) (c2 := 8) C h fl_X10_98 rfl rfl dX10_wanted_82 (fun h => ?_)
        refine az_getI (pc := 85) C fl_X10_343 rfl dX10_wanted_85 ?_
        refine az_cV1ii (pc := 88) (c := 10) C hd1 h mv_X10_give ml_X10_138 rfl (fun x hx => A_X10_give (by omega) hx) dX10_wanted_88 (fun r6 h => ?_)
        obtain rfl := Option.some.inj h
        exact az_ireturn (pc := 91) C dX10_wanted_91 rfl
      rcases az_ite h with ⟨c2, h⟩ | ⟨c2, h⟩
      · refine az_tswIn (pc := 32) (i := 2) (tgt := 92) C (by exact c2) (by decide) rfl dX10_wanted_32 (by decide) ?_
        refine az_al0 (pc := 92) C rfl rfl dX10_wanted_92 ?_
        refine az_al0 (pc := 93) C rfl rfl dX10_wanted_93 ?_
        refine az_getR (pc := 94) (c2 := 8) C h fl_X10_98 rfl rfl dX10_wanted_94 (fun h => ?_)
        refine az_getI (pc := 97) C fl_X10_346 rfl dX10_wanted_97 ?_
        refine az_cV1ii (pc := 100) (c := 10) C hd1 h mv_X10_give ml_X10_138 rfl (fun x hx => A_X10_give (by omega) hx) dX10_wanted_100 (fun r8 h => ?_)
        obtain rfl := Option.some.inj h
        exact az_ireturn (pc := 103) C dX10_wanted_103 rfl
      rcases az_ite h with ⟨c3, h⟩ | ⟨c3, h⟩
      · refine az_tswIn (pc := 32) (i := 3) (tgt := 104) C (by exact c3) (by decide) rfl dX10_wanted_32 (by decide) ?_
        refine az_al0 (pc := 104) C rfl rfl dX10_wanted_104 ?_
        refine az_al0 (pc := 105) C rfl rfl dX10_wanted_105 ?_
        refine az_getR (pc := 106) (c2 := 8) C h fl_X10_98 rfl rfl dX10_wanted_106 (fun h => ?_)
        refine az_getI (pc := 109) C fl_X10_349 rfl dX10_wanted_109 ?_
        refine az_cV1ii (pc := 112) (c := 10) C hd1 h mv_X10_give ml_X10_138 rfl (fun x hx => A_X10_give (by omega) hx) dX10_wanted_112 (fun r10 h => ?_)
        obtain rfl := Option.some.inj h
        exact az_ireturn (pc := 115) C dX10_wanted_115 rfl
      rcases az_ite h with ⟨c4, h⟩ | ⟨c4, h⟩
      · refine az_tswIn (pc := 32) (i := 4) (tgt := 116) C (by exact c4) (by decide) rfl dX10_wanted_32 (by decide) ?_
        refine az_al0 (pc := 116) C rfl rfl dX10_wanted_116 ?_
        refine az_al0 (pc := 117) C rfl rfl dX10_wanted_117 ?_
        refine az_getR (pc := 118) (c2 := 8) C h fl_X10_98 rfl rfl dX10_wanted_118 (fun h => ?_)
        refine az_getI (pc := 121) C fl_X10_352 rfl dX10_wanted_121 ?_
        refine az_cV1ii (pc := 124) (c := 10) C hd1 h mv_X10_give ml_X10_138 rfl (fun x hx => A_X10_give (by omega) hx) dX10_wanted_124 (fun r12 h => ?_)
        obtain rfl := Option.some.inj h
        exact az_ireturn (pc := 127) C dX10_wanted_127 rfl
      refine az_tswOut (pc := 32) (tgt := 128) C (by omega) dX10_wanted_32 (by decide) ?_
      refine az_al0 (pc := 128) C rfl rfl dX10_wanted_128 ?_
      refine az_al0 (pc := 129) C rfl rfl dX10_wanted_129 ?_
      refine az_getR (pc := 130) (c2 := 8) C h fl_X10_98 rfl rfl dX10_wanted_130 (fun h => ?_)
      refine az_getI (pc := 133) C fl_X10_355 rfl dX10_wanted_133 ?_
      refine az_cV1ii (pc := 136) (c := 10) C hd1 h mv_X10_give ml_X10_138 rfl (fun x hx => A_X10_give (by omega) hx) dX10_wanted_136 (fun r14 h => ?_)
      obtain rfl := Option.some.inj h
      exact az_ireturn (pc := 139) C dX10_wanted_139 rfl
    refine az_al0 (pc := 25) C rfl rfl dX10_wanted_25 ?_
    refine az_ik5 (pc := 26) C dX10_wanted_26 ?_
    refine az_cV1ii (pc := 27) (c := 10) C hd1 h mv_X10_refuse ml_X10_112 rfl (fun x hx => A_X10_refuse (by omega) hx) dX10_wanted_27 (fun r15 h => ?_)
    obtain rfl := Option.some.inj h
    exact az_ireturn (pc := 30) C dX10_wanted_30 rfl
  refine az_al0 (pc := 9) C rfl rfl dX10_wanted_9 ?_
  refine az_ik1 (pc := 10) C dX10_wanted_10 ?_
  refine az_cV1ii (pc := 11) (c := 10) C hd1 h mv_X10_refuse ml_X10_112 rfl (fun x hx => A_X10_refuse (by omega) hx) dX10_wanted_11 (fun r16 h => ?_)
  obtain rfl := Option.some.inj h
  exact az_ireturn (pc := 14) C dX10_wanted_14 rfl
set_option maxRecDepth 10000 in
set_option maxHeartbeats 4000000 in
theorem A_X10_wanted {l : Launch} {d : Nat} (hD : 2 ≤ d) {σ : az_Hp} {v0 v1 : Int} {r : (Int × az_Hp)} (h : fz_X10_wanted σ v0 v1 = some r) : az_AC l yX10_wanted cX10_wanted 2 (some .int) d [(12, v0), (0, v1)] σ (some (0, r.1), r.2) := az_AC.of mt_X10_wanted rfl rfl rfl (fun Z hZ C => A_X10_wanted_e C hD h)
theorem dX10_why_0 : decode cX10_why 0 = .ok (.aload_n 0, 1) := by decide +kernel
theorem dX10_why_1 : decode cX10_why 1 = .ok (.getfield 82, 3) := by decide +kernel
theorem dX10_why_4 : decode cX10_why 4 = .ok (.getfield 129, 3) := by decide +kernel
theorem dX10_why_7 : decode cX10_why 7 = .ok (.ifCond .ne 9, 3) := by decide +kernel
theorem dX10_why_10 : decode cX10_why 10 = .ok (.aload_n 0, 1) := by decide +kernel
theorem dX10_why_11 : decode cX10_why 11 = .ok (.iconst 3, 1) := by decide +kernel
theorem dX10_why_12 : decode cX10_why 12 = .ok (.invokevirtual 112, 3) := by decide +kernel
theorem dX10_why_15 : decode cX10_why 15 = .ok (.ireturn, 1) := by decide +kernel
theorem dX10_why_16 : decode cX10_why 16 = .ok (.iload_n 1, 1) := by decide +kernel
theorem dX10_why_17 : decode cX10_why 17 = .ok (.ifCond .lt 22, 3) := by decide +kernel
theorem dX10_why_20 : decode cX10_why 20 = .ok (.iload_n 1, 1) := by decide +kernel
theorem dX10_why_21 : decode cX10_why 21 = .ok (.aload_n 0, 1) := by decide +kernel
theorem dX10_why_22 : decode cX10_why 22 = .ok (.getfield 82, 3) := by decide +kernel
theorem dX10_why_25 : decode cX10_why 25 = .ok (.getfield 129, 3) := by decide +kernel
theorem dX10_why_28 : decode cX10_why 28 = .ok (.if_icmp .ge 11, 3) := by decide +kernel
theorem dX10_why_31 : decode cX10_why 31 = .ok (.aload_n 0, 1) := by decide +kernel
theorem dX10_why_32 : decode cX10_why 32 = .ok (.iload_n 2, 1) := by decide +kernel
theorem dX10_why_33 : decode cX10_why 33 = .ok (.invokevirtual 176, 3) := by decide +kernel
theorem dX10_why_36 : decode cX10_why 36 = .ok (.ifCond .ne 9, 3) := by decide +kernel
theorem dX10_why_39 : decode cX10_why 39 = .ok (.aload_n 0, 1) := by decide +kernel
theorem dX10_why_40 : decode cX10_why 40 = .ok (.iconst 2, 1) := by decide +kernel
theorem dX10_why_41 : decode cX10_why 41 = .ok (.invokevirtual 112, 3) := by decide +kernel
theorem dX10_why_44 : decode cX10_why 44 = .ok (.ireturn, 1) := by decide +kernel
theorem dX10_why_45 : decode cX10_why 45 = .ok (.aload_n 0, 1) := by decide +kernel
theorem dX10_why_46 : decode cX10_why 46 = .ok (.aload_n 0, 1) := by decide +kernel
theorem dX10_why_47 : decode cX10_why 47 = .ok (.getfield 73, 3) := by decide +kernel
theorem dX10_why_50 : decode cX10_why 50 = .ok (.iload_n 2, 1) := by decide +kernel
theorem dX10_why_51 : decode cX10_why 51 = .ok (.aload_n 0, 1) := by decide +kernel
theorem dX10_why_52 : decode cX10_why 52 = .ok (.getfield 82, 3) := by decide +kernel
theorem dX10_why_55 : decode cX10_why 55 = .ok (.iload_n 1, 1) := by decide +kernel
theorem dX10_why_56 : decode cX10_why 56 = .ok (.invokevirtual 280, 3) := by decide +kernel
theorem dX10_why_59 : decode cX10_why 59 = .ok (.invokevirtual 138, 3) := by decide +kernel
theorem dX10_why_62 : decode cX10_why 62 = .ok (.ireturn, 1) := by decide +kernel
set_option maxRecDepth 10000 in
set_option maxHeartbeats 4000000 in
theorem A_X10_why_e {Z : az_Z} {d : Nat} (C : az_C Z yX10_why cX10_why 3 (some .int) d) (hD : 5 ≤ d) (n : Nat) {σ : az_Hp} {v0 v1 v2 : Int} {r : (Int × az_Hp)} (h : fz_X10_why n σ v0 v1 v2 = some r) : az_AW Z 3 0 [(12, v0), (0, v1), (0, v2)] [] σ (some (0, r.1), r.2) := by
  have hd1 : 1 ≤ d := by omega
  unfold fz_X10_why at h
  refine az_al0 (pc := 0) C rfl rfl dX10_why_0 ?_
  refine az_getR (pc := 1) (c2 := 7) C h fl_X10_82 rfl rfl dX10_why_1 (fun h => ?_)
  refine az_getI (pc := 4) C fl_X10_129 rfl dX10_why_4 ?_
  refine az_if_ne (pc := 7) (tgt := 16) C h dX10_why_7 (by decide) (fun _ h => ?_) (fun _ h => ?_)
  · refine az_il1 (pc := 16) C dX10_why_16 ?_
    refine az_if_lt (pc := 17) (tgt := 39) C h dX10_why_17 (by decide) (fun _ h => ?_) (fun _ h => ?_)
    · refine az_al0 (pc := 39) C rfl rfl dX10_why_39 ?_
      refine az_ik2 (pc := 40) C dX10_why_40 ?_
      refine az_cV1ii (pc := 41) (c := 10) C hd1 h mv_X10_refuse ml_X10_112 rfl (fun x hx => A_X10_refuse (by omega) hx) dX10_why_41 (fun r2 h => ?_)
      obtain rfl := Option.some.inj h
      exact az_ireturn (pc := 44) C dX10_why_44 rfl
    refine az_il1 (pc := 20) C dX10_why_20 ?_
    refine az_al0 (pc := 21) C rfl rfl dX10_why_21 ?_
    refine az_getR (pc := 22) (c2 := 7) C h fl_X10_82 rfl rfl dX10_why_22 (fun h => ?_)
    refine az_getI (pc := 25) C fl_X10_129 rfl dX10_why_25 ?_
    refine az_icmp_ge (pc := 28) (tgt := 39) C h dX10_why_28 (by decide) (fun _ h => ?_) (fun _ h => ?_)
    · refine az_al0 (pc := 39) C rfl rfl dX10_why_39 ?_
      refine az_ik2 (pc := 40) C dX10_why_40 ?_
      refine az_cV1ii (pc := 41) (c := 10) C hd1 h mv_X10_refuse ml_X10_112 rfl (fun x hx => A_X10_refuse (by omega) hx) dX10_why_41 (fun r4 h => ?_)
      obtain rfl := Option.some.inj h
      exact az_ireturn (pc := 44) C dX10_why_44 rfl
    refine az_al0 (pc := 31) C rfl rfl dX10_why_31 ?_
    refine az_il2 (pc := 32) C dX10_why_32 ?_
    refine az_cV1pi (pc := 33) (c := 10) C hd1 h mv_X10_isEquation ml_X10_176 rfl (fun x hx => A_X10_isEquation (by omega) hx) dX10_why_33 (fun r5 h => ?_)
    refine az_if_ne (pc := 36) (tgt := 45) C h dX10_why_36 (by decide) (fun _ h => ?_) (fun _ h => ?_)
    · refine az_al0 (pc := 45) C rfl rfl dX10_why_45 ?_
      refine az_al0 (pc := 46) C rfl rfl dX10_why_46 ?_
      refine az_getR (pc := 47) (c2 := 5) C h fl_X10_73 rfl rfl dX10_why_47 (fun h => ?_)
      refine az_il2 (pc := 50) C dX10_why_50 ?_
      refine az_al0 (pc := 51) C rfl rfl dX10_why_51 ?_
      refine az_getR (pc := 52) (c2 := 7) C h fl_X10_82 rfl rfl dX10_why_52 (fun h => ?_)
      refine az_il1 (pc := 55) C dX10_why_55 ?_
      refine az_cV3ii (pc := 56) (c := 5) C hd1 h mv_X5_reason ml_X10_280 rfl (fun x hx => A_X5_reason (by omega) n hx) dX10_why_56 (fun r8 h => ?_)
      refine az_cV1ii (pc := 59) (c := 10) C hd1 h mv_X10_give ml_X10_138 rfl (fun x hx => A_X10_give (by omega) hx) dX10_why_59 (fun r9 h => ?_)
      obtain rfl := Option.some.inj h
      exact az_ireturn (pc := 62) C dX10_why_62 rfl
    refine az_al0 (pc := 39) C rfl rfl dX10_why_39 ?_
    refine az_ik2 (pc := 40) C dX10_why_40 ?_
    refine az_cV1ii (pc := 41) (c := 10) C hd1 h mv_X10_refuse ml_X10_112 rfl (fun x hx => A_X10_refuse (by omega) hx) dX10_why_41 (fun r10 h => ?_)
    obtain rfl := Option.some.inj h
    exact az_ireturn (pc := 44) C dX10_why_44 rfl
  refine az_al0 (pc := 10) C rfl rfl dX10_why_10 ?_
  refine az_ik3 (pc := 11) C dX10_why_11 ?_
  refine az_cV1ii (pc := 12) (c := 10) C hd1 h mv_X10_refuse ml_X10_112 rfl (fun x hx => A_X10_refuse (by omega) hx) dX10_why_12 (fun r11 h => ?_)
  obtain rfl := Option.some.inj h
  exact az_ireturn (pc := 15) C dX10_why_15 rfl
set_option maxRecDepth 10000 in
set_option maxHeartbeats 4000000 in
theorem A_X10_why {l : Launch} {d : Nat} (hD : 5 ≤ d) (n : Nat) {σ : az_Hp} {v0 v1 v2 : Int} {r : (Int × az_Hp)} (h : fz_X10_why n σ v0 v1 v2 = some r) : az_AC l yX10_why cX10_why 3 (some .int) d [(12, v0), (0, v1), (0, v2)] σ (some (0, r.1), r.2) := az_AC.of mt_X10_why rfl rfl rfl (fun Z hZ C => A_X10_why_e C hD n h)
theorem dX10_would_0 : decode cX10_would 0 = .ok (.iload_n 1, 1) := by decide +kernel
theorem dX10_would_1 : decode cX10_would 1 = .ok (.ifCond .eq 8, 3) := by decide +kernel
theorem dX10_would_4 : decode cX10_would 4 = .ok (.iload_n 1, 1) := by decide +kernel
theorem dX10_would_5 : decode cX10_would 5 = .ok (.iconst 1, 1) := by decide +kernel
theorem dX10_would_6 : decode cX10_would 6 = .ok (.if_icmp .ne 12, 3) := by decide +kernel
theorem dX10_would_9 : decode cX10_would 9 = .ok (.iload_n 2, 1) := by decide +kernel
theorem dX10_would_10 : decode cX10_would 10 = .ok (.ifCond .eq 14, 3) := by decide +kernel
theorem dX10_would_13 : decode cX10_would 13 = .ok (.iload_n 2, 1) := by decide +kernel
theorem dX10_would_14 : decode cX10_would 14 = .ok (.iconst 1, 1) := by decide +kernel
theorem dX10_would_15 : decode cX10_would 15 = .ok (.if_icmp .eq 9, 3) := by decide +kernel
theorem dX10_would_18 : decode cX10_would 18 = .ok (.aload_n 0, 1) := by decide +kernel
theorem dX10_would_19 : decode cX10_would 19 = .ok (.iconst 1, 1) := by decide +kernel
theorem dX10_would_20 : decode cX10_would 20 = .ok (.invokevirtual 112, 3) := by decide +kernel
theorem dX10_would_23 : decode cX10_would 23 = .ok (.ireturn, 1) := by decide +kernel
theorem dX10_would_24 : decode cX10_would 24 = .ok (.aload_n 0, 1) := by decide +kernel
theorem dX10_would_25 : decode cX10_would 25 = .ok (.getfield 82, 3) := by decide +kernel
theorem dX10_would_28 : decode cX10_would 28 = .ok (.getfield 129, 3) := by decide +kernel
theorem dX10_would_31 : decode cX10_would 31 = .ok (.ifCond .ne 9, 3) := by decide +kernel
theorem dX10_would_34 : decode cX10_would 34 = .ok (.aload_n 0, 1) := by decide +kernel
theorem dX10_would_35 : decode cX10_would 35 = .ok (.iconst 3, 1) := by decide +kernel
theorem dX10_would_36 : decode cX10_would 36 = .ok (.invokevirtual 112, 3) := by decide +kernel
theorem dX10_would_39 : decode cX10_would 39 = .ok (.ireturn, 1) := by decide +kernel
theorem dX10_would_40 : decode cX10_would 40 = .ok (.aload_n 0, 1) := by decide +kernel
theorem dX10_would_41 : decode cX10_would 41 = .ok (.getfield 73, 3) := by decide +kernel
theorem dX10_would_44 : decode cX10_would 44 = .ok (.getfield 287, 3) := by decide +kernel
theorem dX10_would_47 : decode cX10_would 47 = .ok (.aload_n 0, 1) := by decide +kernel
theorem dX10_would_48 : decode cX10_would 48 = .ok (.getfield 82, 3) := by decide +kernel
theorem dX10_would_51 : decode cX10_would 51 = .ok (.invokevirtual 234, 3) := by decide +kernel
theorem dX10_would_54 : decode cX10_would 54 = .ok (.iload_n 2, 1) := by decide +kernel
theorem dX10_would_55 : decode cX10_would 55 = .ok (.ifCond .ne 36, 3) := by decide +kernel
theorem dX10_would_58 : decode cX10_would 58 = .ok (.aload_n 0, 1) := by decide +kernel
theorem dX10_would_59 : decode cX10_would 59 = .ok (.getfield 73, 3) := by decide +kernel
theorem dX10_would_62 : decode cX10_would 62 = .ok (.iload_n 1, 1) := by decide +kernel
theorem dX10_would_63 : decode cX10_would 63 = .ok (.invokevirtual 300, 3) := by decide +kernel
theorem dX10_would_66 : decode cX10_would 66 = .ok (.istore_n 3, 1) := by decide +kernel
theorem dX10_would_67 : decode cX10_would 67 = .ok (.iload_n 3, 1) := by decide +kernel
theorem dX10_would_68 : decode cX10_would 68 = .ok (.ifCond .ne 17, 3) := by decide +kernel
theorem dX10_would_71 : decode cX10_would 71 = .ok (.aload_n 0, 1) := by decide +kernel
theorem dX10_would_72 : decode cX10_would 72 = .ok (.aload_n 0, 1) := by decide +kernel
theorem dX10_would_73 : decode cX10_would 73 = .ok (.getfield 73, 3) := by decide +kernel
theorem dX10_would_76 : decode cX10_would 76 = .ok (.getfield 306, 3) := by decide +kernel
theorem dX10_would_79 : decode cX10_would 79 = .ok (.invokevirtual 138, 3) := by decide +kernel
theorem dX10_would_82 : decode cX10_would 82 = .ok (.goto 8, 3) := by decide +kernel
theorem dX10_would_85 : decode cX10_would 85 = .ok (.aload_n 0, 1) := by decide +kernel
theorem dX10_would_86 : decode cX10_would 86 = .ok (.iload_n 3, 1) := by decide +kernel
theorem dX10_would_87 : decode cX10_would 87 = .ok (.invokevirtual 112, 3) := by decide +kernel
theorem dX10_would_90 : decode cX10_would 90 = .ok (.ireturn, 1) := by decide +kernel
theorem dX10_would_91 : decode cX10_would 91 = .ok (.aload_n 0, 1) := by decide +kernel
theorem dX10_would_92 : decode cX10_would 92 = .ok (.getfield 73, 3) := by decide +kernel
theorem dX10_would_95 : decode cX10_would 95 = .ok (.iconst 0, 1) := by decide +kernel
theorem dX10_would_96 : decode cX10_would 96 = .ok (.invokevirtual 300, 3) := by decide +kernel
theorem dX10_would_99 : decode cX10_would 99 = .ok (.ifCond .ne 7, 3) := by decide +kernel
theorem dX10_would_102 : decode cX10_would 102 = .ok (.iconst 1, 1) := by decide +kernel
theorem dX10_would_103 : decode cX10_would 103 = .ok (.goto 4, 3) := by decide +kernel
theorem dX10_would_106 : decode cX10_would 106 = .ok (.iconst 0, 1) := by decide +kernel
theorem dX10_would_107 : decode cX10_would 107 = .ok (.istore_n 3, 1) := by decide +kernel
theorem dX10_would_108 : decode cX10_would 108 = .ok (.aload_n 0, 1) := by decide +kernel
theorem dX10_would_109 : decode cX10_would 109 = .ok (.getfield 86, 3) := by decide +kernel
theorem dX10_would_112 : decode cX10_would 112 = .ok (.aload_n 0, 1) := by decide +kernel
theorem dX10_would_113 : decode cX10_would 113 = .ok (.getfield 73, 3) := by decide +kernel
theorem dX10_would_116 : decode cX10_would 116 = .ok (.getfield 287, 3) := by decide +kernel
theorem dX10_would_119 : decode cX10_would 119 = .ok (.invokevirtual 234, 3) := by decide +kernel
theorem dX10_would_122 : decode cX10_would 122 = .ok (.aload_n 0, 1) := by decide +kernel
theorem dX10_would_123 : decode cX10_would 123 = .ok (.getfield 73, 3) := by decide +kernel
theorem dX10_would_126 : decode cX10_would 126 = .ok (.getfield 287, 3) := by decide +kernel
theorem dX10_would_129 : decode cX10_would 129 = .ok (.aload_n 0, 1) := by decide +kernel
theorem dX10_would_130 : decode cX10_would 130 = .ok (.getfield 82, 3) := by decide +kernel
theorem dX10_would_133 : decode cX10_would 133 = .ok (.invokevirtual 234, 3) := by decide +kernel
theorem dX10_would_136 : decode cX10_would 136 = .ok (.aload_n 0, 1) := by decide +kernel
theorem dX10_would_137 : decode cX10_would 137 = .ok (.getfield 73, 3) := by decide +kernel
theorem dX10_would_140 : decode cX10_would 140 = .ok (.iconst 1, 1) := by decide +kernel
theorem dX10_would_141 : decode cX10_would 141 = .ok (.invokevirtual 300, 3) := by decide +kernel
theorem dX10_would_144 : decode cX10_would 144 = .ok (.ifCond .ne 7, 3) := by decide +kernel
theorem dX10_would_147 : decode cX10_would 147 = .ok (.iconst 1, 1) := by decide +kernel
theorem dX10_would_148 : decode cX10_would 148 = .ok (.goto 4, 3) := by decide +kernel
theorem dX10_would_151 : decode cX10_would 151 = .ok (.iconst 0, 1) := by decide +kernel
theorem dX10_would_152 : decode cX10_would 152 = .ok (.istore 4, 2) := by decide +kernel
theorem dX10_would_154 : decode cX10_would 154 = .ok (.aload_n 0, 1) := by decide +kernel
theorem dX10_would_155 : decode cX10_would 155 = .ok (.iload_n 3, 1) := by decide +kernel
theorem dX10_would_156 : decode cX10_would 156 = .ok (.ifCond .eq 8, 3) := by decide +kernel
theorem dX10_would_159 : decode cX10_would 159 = .ok (.iload 4, 2) := by decide +kernel
theorem dX10_would_161 : decode cX10_would 161 = .ok (.ifCond .ne 7, 3) := by decide +kernel
theorem dX10_would_164 : decode cX10_would 164 = .ok (.iconst 0, 1) := by decide +kernel
theorem dX10_would_165 : decode cX10_would 165 = .ok (.goto 25, 3) := by decide +kernel
theorem dX10_would_168 : decode cX10_would 168 = .ok (.aload_n 0, 1) := by decide +kernel
theorem dX10_would_169 : decode cX10_would 169 = .ok (.getfield 86, 3) := by decide +kernel
theorem dX10_would_172 : decode cX10_would 172 = .ok (.aload_n 0, 1) := by decide +kernel
theorem dX10_would_173 : decode cX10_would 173 = .ok (.getfield 73, 3) := by decide +kernel
theorem dX10_would_176 : decode cX10_would 176 = .ok (.getfield 287, 3) := by decide +kernel
theorem dX10_would_179 : decode cX10_would 179 = .ok (.invokevirtual 309, 3) := by decide +kernel
theorem dX10_would_182 : decode cX10_would 182 = .ok (.ifCond .eq 7, 3) := by decide +kernel
theorem dX10_would_185 : decode cX10_would 185 = .ok (.iconst 1, 1) := by decide +kernel
theorem dX10_would_186 : decode cX10_would 186 = .ok (.goto 4, 3) := by decide +kernel
theorem dX10_would_189 : decode cX10_would 189 = .ok (.iconst 2, 1) := by decide +kernel
theorem dX10_would_190 : decode cX10_would 190 = .ok (.invokevirtual 138, 3) := by decide +kernel
theorem dX10_would_193 : decode cX10_would 193 = .ok (.ireturn, 1) := by decide +kernel
set_option maxRecDepth 10000 in
set_option maxHeartbeats 4000000 in
theorem A_X10_would_152 {Z : az_Z} {d : Nat} (C : az_C Z yX10_would cX10_would 5 (some .int) d) (hD : 7 ≤ d) (n : Nat) {σ : az_Hp} {v0 v3 w0 : Int} {r : (Int × az_Hp)} (h : fz_X10_would_152 n σ v0 v3 w0 = some r) : az_AW Z 5 152 [(12, v0), (31, 0), (31, 0), (0, v3), (31, 0)] [(0, w0)] σ (some (0, r.1), r.2) := by
  have hd1 : 1 ≤ d := by omega
  unfold fz_X10_would_152 at h
  refine az_is4 (pc := 152) C rfl rfl dX10_would_152 ?_
  refine az_al0 (pc := 154) C rfl rfl dX10_would_154 ?_
  refine az_il3 (pc := 155) C dX10_would_155 ?_
  refine az_if_eq (pc := 156) (tgt := 164) C h dX10_would_156 (by decide) (fun _ h => ?_) (fun _ h => ?_)
  · refine az_ik0 (pc := 164) C dX10_would_164 ?_
    refine az_goto (pc := 165) (tgt := 190) C dX10_would_165 (by decide) ?_
    refine az_cV1ii (pc := 190) (c := 10) C hd1 h mv_X10_give ml_X10_138 rfl (fun x hx => A_X10_give (by omega) hx) dX10_would_190 (fun r1 h => ?_)
    obtain rfl := Option.some.inj h
    exact az_ireturn (pc := 193) C dX10_would_193 rfl
  refine az_il4 (pc := 159) C dX10_would_159 ?_
  refine az_if_ne (pc := 161) (tgt := 168) C h dX10_would_161 (by decide) (fun _ h => ?_) (fun _ h => ?_)
  · refine az_al0 (pc := 168) C rfl rfl dX10_would_168 ?_
    refine az_getR (pc := 169) (c2 := 7) C h fl_X10_86 rfl rfl dX10_would_169 (fun h => ?_)
    refine az_al0 (pc := 172) C rfl rfl dX10_would_172 ?_
    refine az_getR (pc := 173) (c2 := 5) C h fl_X10_73 rfl rfl dX10_would_173 (fun h => ?_)
    refine az_getR (pc := 176) (c2 := 7) C h fl_X10_287 rfl rfl dX10_would_176 (fun h => ?_)
    refine az_cV1pi (pc := 179) (c := 7) C hd1 h mv_X7_same ml_X10_309 rfl (fun x hx => A_X7_same (by omega) n hx) dX10_would_179 (fun r5 h => ?_)
    refine az_if_eq (pc := 182) (tgt := 189) C h dX10_would_182 (by decide) (fun _ h => ?_) (fun _ h => ?_)
    · refine az_ik2 (pc := 189) C dX10_would_189 ?_
      refine az_cV1ii (pc := 190) (c := 10) C hd1 h mv_X10_give ml_X10_138 rfl (fun x hx => A_X10_give (by omega) hx) dX10_would_190 (fun r6 h => ?_)
      obtain rfl := Option.some.inj h
      exact az_ireturn (pc := 193) C dX10_would_193 rfl
    refine az_ik1 (pc := 185) C dX10_would_185 ?_
    refine az_goto (pc := 186) (tgt := 190) C dX10_would_186 (by decide) ?_
    refine az_cV1ii (pc := 190) (c := 10) C hd1 h mv_X10_give ml_X10_138 rfl (fun x hx => A_X10_give (by omega) hx) dX10_would_190 (fun r7 h => ?_)
    obtain rfl := Option.some.inj h
    exact az_ireturn (pc := 193) C dX10_would_193 rfl
  refine az_ik0 (pc := 164) C dX10_would_164 ?_
  refine az_goto (pc := 165) (tgt := 190) C dX10_would_165 (by decide) ?_
  refine az_cV1ii (pc := 190) (c := 10) C hd1 h mv_X10_give ml_X10_138 rfl (fun x hx => A_X10_give (by omega) hx) dX10_would_190 (fun r8 h => ?_)
  obtain rfl := Option.some.inj h
  exact az_ireturn (pc := 193) C dX10_would_193 rfl
set_option maxRecDepth 10000 in
set_option maxHeartbeats 4000000 in
theorem A_X10_would_107 {Z : az_Z} {d : Nat} (C : az_C Z yX10_would cX10_would 5 (some .int) d) (hD : 7 ≤ d) (n : Nat) {σ : az_Hp} {v0 w0 : Int} {r : (Int × az_Hp)} (h : fz_X10_would_107 n σ v0 w0 = some r) : az_AW Z 5 107 [(12, v0), (31, 0), (31, 0), (31, 0), (31, 0)] [(0, w0)] σ (some (0, r.1), r.2) := by
  have hd1 : 1 ≤ d := by omega
  unfold fz_X10_would_107 at h
  refine az_is3 (pc := 107) C rfl rfl dX10_would_107 ?_
  refine az_al0 (pc := 108) C rfl rfl dX10_would_108 ?_
  refine az_getR (pc := 109) (c2 := 7) C h fl_X10_86 rfl rfl dX10_would_109 (fun h => ?_)
  refine az_al0 (pc := 112) C rfl rfl dX10_would_112 ?_
  refine az_getR (pc := 113) (c2 := 5) C h fl_X10_73 rfl rfl dX10_would_113 (fun h => ?_)
  refine az_getR (pc := 116) (c2 := 7) C h fl_X10_287 rfl rfl dX10_would_116 (fun h => ?_)
  refine az_cV1v (pc := 119) (c := 7) C hd1 h mv_X7_take ml_X10_234 rfl (fun x hx => A_X7_take (by omega) hx) dX10_would_119 (fun r4 h => ?_)
  refine az_al0 (pc := 122) C rfl rfl dX10_would_122 ?_
  refine az_getR (pc := 123) (c2 := 5) C h fl_X10_73 rfl rfl dX10_would_123 (fun h => ?_)
  refine az_getR (pc := 126) (c2 := 7) C h fl_X10_287 rfl rfl dX10_would_126 (fun h => ?_)
  refine az_al0 (pc := 129) C rfl rfl dX10_would_129 ?_
  refine az_getR (pc := 130) (c2 := 7) C h fl_X10_82 rfl rfl dX10_would_130 (fun h => ?_)
  refine az_cV1v (pc := 133) (c := 7) C hd1 h mv_X7_take ml_X10_234 rfl (fun x hx => A_X7_take (by omega) hx) dX10_would_133 (fun r8 h => ?_)
  refine az_al0 (pc := 136) C rfl rfl dX10_would_136 ?_
  refine az_getR (pc := 137) (c2 := 5) C h fl_X10_73 rfl rfl dX10_would_137 (fun h => ?_)
  refine az_ik1 (pc := 140) C dX10_would_140 ?_
  refine az_cV1ii (pc := 141) (c := 5) C hd1 h mv_X5_reduceAll ml_X10_300 rfl (fun x hx => A_X5_reduceAll (by omega) n hx) dX10_would_141 (fun r10 h => ?_)
  refine az_if_ne (pc := 144) (tgt := 151) C h dX10_would_144 (by decide) (fun _ h => ?_) (fun _ h => ?_)
  · refine az_ik0 (pc := 151) C dX10_would_151 ?_
    exact (A_X10_would_152 C hD n h)
  refine az_ik1 (pc := 147) C dX10_would_147 ?_
  refine az_goto (pc := 148) (tgt := 152) C dX10_would_148 (by decide) ?_
  exact (A_X10_would_152 C hD n h)
set_option maxRecDepth 10000 in
set_option maxHeartbeats 4000000 in
theorem A_X10_would_24 {Z : az_Z} {d : Nat} (C : az_C Z yX10_would cX10_would 5 (some .int) d) (hD : 7 ≤ d) (n : Nat) {σ : az_Hp} {v0 v1 v2 : Int} {r : (Int × az_Hp)} (h : fz_X10_would_24 n σ v0 v1 v2 = some r) : az_AW Z 5 24 [(12, v0), (0, v1), (0, v2), (31, 0), (31, 0)] [] σ (some (0, r.1), r.2) := by
  have hd1 : 1 ≤ d := by omega
  unfold fz_X10_would_24 at h
  refine az_al0 (pc := 24) C rfl rfl dX10_would_24 ?_
  refine az_getR (pc := 25) (c2 := 7) C h fl_X10_82 rfl rfl dX10_would_25 (fun h => ?_)
  refine az_getI (pc := 28) C fl_X10_129 rfl dX10_would_28 ?_
  refine az_if_ne (pc := 31) (tgt := 40) C h dX10_would_31 (by decide) (fun _ h => ?_) (fun _ h => ?_)
  · refine az_al0 (pc := 40) C rfl rfl dX10_would_40 ?_
    refine az_getR (pc := 41) (c2 := 5) C h fl_X10_73 rfl rfl dX10_would_41 (fun h => ?_)
    refine az_getR (pc := 44) (c2 := 7) C h fl_X10_287 rfl rfl dX10_would_44 (fun h => ?_)
    refine az_al0 (pc := 47) C rfl rfl dX10_would_47 ?_
    refine az_getR (pc := 48) (c2 := 7) C h fl_X10_82 rfl rfl dX10_would_48 (fun h => ?_)
    refine az_cV1v (pc := 51) (c := 7) C hd1 h mv_X7_take ml_X10_234 rfl (fun x hx => A_X7_take (by omega) hx) dX10_would_51 (fun r5 h => ?_)
    refine az_il2 (pc := 54) C dX10_would_54 ?_
    refine az_if_ne (pc := 55) (tgt := 91) C h dX10_would_55 (by decide) (fun _ h => ?_) (fun _ h => ?_)
    · refine az_al0 (pc := 91) C rfl rfl dX10_would_91 ?_
      refine az_getR (pc := 92) (c2 := 5) C h fl_X10_73 rfl rfl dX10_would_92 (fun h => ?_)
      refine az_ik0 (pc := 95) C dX10_would_95 ?_
      refine az_cV1ii (pc := 96) (c := 5) C hd1 h mv_X5_reduceAll ml_X10_300 rfl (fun x hx => A_X5_reduceAll (by omega) n hx) dX10_would_96 (fun r7 h => ?_)
      refine az_if_ne (pc := 99) (tgt := 106) C h dX10_would_99 (by decide) (fun _ h => ?_) (fun _ h => ?_)
      · refine az_ik0 (pc := 106) C dX10_would_106 ?_
        exact (az_wkk (A_X10_would_107 C hD n h) (az_sE (az_sJ (az_sJ (az_sJ (az_sJ az_sN))))))
      refine az_ik1 (pc := 102) C dX10_would_102 ?_
      refine az_goto (pc := 103) (tgt := 107) C dX10_would_103 (by decide) ?_
      exact (az_wkk (A_X10_would_107 C hD n h) (az_sE (az_sJ (az_sJ (az_sJ (az_sJ az_sN))))))
    refine az_al0 (pc := 58) C rfl rfl dX10_would_58 ?_
    refine az_getR (pc := 59) (c2 := 5) C h fl_X10_73 rfl rfl dX10_would_59 (fun h => ?_)
    refine az_il1 (pc := 62) C dX10_would_62 ?_
    refine az_cV1ii (pc := 63) (c := 5) C hd1 h mv_X5_reduceAll ml_X10_300 rfl (fun x hx => A_X5_reduceAll (by omega) n hx) dX10_would_63 (fun r9 h => ?_)
    refine az_is3 (pc := 66) C rfl rfl dX10_would_66 ?_
    refine az_il3 (pc := 67) C dX10_would_67 ?_
    refine az_if_ne (pc := 68) (tgt := 85) C h dX10_would_68 (by decide) (fun _ h => ?_) (fun _ h => ?_)
    · refine az_al0 (pc := 85) C rfl rfl dX10_would_85 ?_
      refine az_il3 (pc := 86) C dX10_would_86 ?_
      refine az_cV1ii (pc := 87) (c := 10) C hd1 h mv_X10_refuse ml_X10_112 rfl (fun x hx => A_X10_refuse (by omega) hx) dX10_would_87 (fun r10 h => ?_)
      obtain rfl := Option.some.inj h
      exact az_ireturn (pc := 90) C dX10_would_90 rfl
    refine az_al0 (pc := 71) C rfl rfl dX10_would_71 ?_
    refine az_al0 (pc := 72) C rfl rfl dX10_would_72 ?_
    refine az_getR (pc := 73) (c2 := 5) C h fl_X10_73 rfl rfl dX10_would_73 (fun h => ?_)
    refine az_getI (pc := 76) C fl_X10_306 rfl dX10_would_76 ?_
    refine az_cV1ii (pc := 79) (c := 10) C hd1 h mv_X10_give ml_X10_138 rfl (fun x hx => A_X10_give (by omega) hx) dX10_would_79 (fun r12 h => ?_)
    refine az_goto (pc := 82) (tgt := 90) C dX10_would_82 (by decide) ?_
    obtain rfl := Option.some.inj h
    exact az_ireturn (pc := 90) C dX10_would_90 rfl
  refine az_al0 (pc := 34) C rfl rfl dX10_would_34 ?_
  refine az_ik3 (pc := 35) C dX10_would_35 ?_
  refine az_cV1ii (pc := 36) (c := 10) C hd1 h mv_X10_refuse ml_X10_112 rfl (fun x hx => A_X10_refuse (by omega) hx) dX10_would_36 (fun r13 h => ?_)
  obtain rfl := Option.some.inj h
  exact az_ireturn (pc := 39) C dX10_would_39 rfl
set_option maxRecDepth 10000 in
set_option maxHeartbeats 4000000 in
theorem A_X10_would_9 {Z : az_Z} {d : Nat} (C : az_C Z yX10_would cX10_would 5 (some .int) d) (hD : 7 ≤ d) (n : Nat) {σ : az_Hp} {v0 v1 v2 : Int} {r : (Int × az_Hp)} (h : fz_X10_would_9 n σ v0 v1 v2 = some r) : az_AW Z 5 9 [(12, v0), (0, v1), (0, v2), (31, 0), (31, 0)] [] σ (some (0, r.1), r.2) := by
  have hd1 : 1 ≤ d := by omega
  unfold fz_X10_would_9 at h
  refine az_il2 (pc := 9) C dX10_would_9 ?_
  refine az_if_eq (pc := 10) (tgt := 24) C h dX10_would_10 (by decide) (fun _ h => ?_) (fun _ h => ?_)
  · exact (A_X10_would_24 C hD n h)
  refine az_il2 (pc := 13) C dX10_would_13 ?_
  refine az_ik1 (pc := 14) C dX10_would_14 ?_
  refine az_icmp_eq (pc := 15) (tgt := 24) C h dX10_would_15 (by decide) (fun _ h => ?_) (fun _ h => ?_)
  · exact (A_X10_would_24 C hD n h)
  refine az_al0 (pc := 18) C rfl rfl dX10_would_18 ?_
  refine az_ik1 (pc := 19) C dX10_would_19 ?_
  refine az_cV1ii (pc := 20) (c := 10) C hd1 h mv_X10_refuse ml_X10_112 rfl (fun x hx => A_X10_refuse (by omega) hx) dX10_would_20 (fun r1 h => ?_)
  obtain rfl := Option.some.inj h
  exact az_ireturn (pc := 23) C dX10_would_23 rfl
set_option maxRecDepth 10000 in
set_option maxHeartbeats 4000000 in
theorem A_X10_would_e {Z : az_Z} {d : Nat} (C : az_C Z yX10_would cX10_would 5 (some .int) d) (hD : 7 ≤ d) (n : Nat) {σ : az_Hp} {v0 v1 v2 : Int} {r : (Int × az_Hp)} (h : fz_X10_would n σ v0 v1 v2 = some r) : az_AW Z 5 0 [(12, v0), (0, v1), (0, v2), (31, 0), (31, 0)] [] σ (some (0, r.1), r.2) := by
  have hd1 : 1 ≤ d := by omega
  unfold fz_X10_would at h
  refine az_il1 (pc := 0) C dX10_would_0 ?_
  refine az_if_eq (pc := 1) (tgt := 9) C h dX10_would_1 (by decide) (fun _ h => ?_) (fun _ h => ?_)
  · exact (A_X10_would_9 C hD n h)
  refine az_il1 (pc := 4) C dX10_would_4 ?_
  refine az_ik1 (pc := 5) C dX10_would_5 ?_
  refine az_icmp_ne (pc := 6) (tgt := 18) C h dX10_would_6 (by decide) (fun _ h => ?_) (fun _ h => ?_)
  · refine az_al0 (pc := 18) C rfl rfl dX10_would_18 ?_
    refine az_ik1 (pc := 19) C dX10_would_19 ?_
    refine az_cV1ii (pc := 20) (c := 10) C hd1 h mv_X10_refuse ml_X10_112 rfl (fun x hx => A_X10_refuse (by omega) hx) dX10_would_20 (fun r1 h => ?_)
    obtain rfl := Option.some.inj h
    exact az_ireturn (pc := 23) C dX10_would_23 rfl
  exact (A_X10_would_9 C hD n h)
set_option maxRecDepth 10000 in
set_option maxHeartbeats 4000000 in
theorem A_X10_would {l : Launch} {d : Nat} (hD : 7 ≤ d) (n : Nat) {σ : az_Hp} {v0 v1 v2 : Int} {r : (Int × az_Hp)} (h : fz_X10_would n σ v0 v1 v2 = some r) : az_AC l yX10_would cX10_would 5 (some .int) d [(12, v0), (0, v1), (0, v2)] σ (some (0, r.1), r.2) := az_AC.of mt_X10_would rfl rfl rfl (fun Z hZ C => A_X10_would_e C hD n h)
theorem dX11_gives_0 : decode cX11_gives 0 = .ok (.aload_n 0, 1) := by decide +kernel
theorem dX11_gives_1 : decode cX11_gives 1 = .ok (.iconst 0, 1) := by decide +kernel
theorem dX11_gives_2 : decode cX11_gives 2 = .ok (.putfield 213, 3) := by decide +kernel
theorem dX11_gives_5 : decode cX11_gives 5 = .ok (.iload_n 1, 1) := by decide +kernel
theorem dX11_gives_6 : decode cX11_gives 6 = .ok (.ireturn, 1) := by decide +kernel
set_option maxRecDepth 10000 in
set_option maxHeartbeats 4000000 in
theorem A_X11_gives_e {Z : az_Z} {d : Nat} (C : az_C Z yX11_gives cX11_gives 2 (some .int) d) (hD : 1 ≤ d) {σ : az_Hp} {v0 v1 : Int} {r : (Int × az_Hp)} (h : fz_X11_gives σ v0 v1 = some r) : az_AW Z 2 0 [(13, v0), (0, v1)] [] σ (some (0, r.1), r.2) := by
  have hd1 : 1 ≤ d := by omega
  unfold fz_X11_gives at h
  refine az_al0 (pc := 0) C rfl rfl dX11_gives_0 ?_
  refine az_ik0 (pc := 1) C dX11_gives_1 ?_
  refine az_putI (pc := 2) C fl_X11_213 (Or.inl rfl) rfl dX11_gives_2 ?_
  refine az_il1 (pc := 5) C dX11_gives_5 ?_
  obtain rfl := Option.some.inj h
  exact az_ireturn (pc := 6) C dX11_gives_6 rfl
set_option maxRecDepth 10000 in
set_option maxHeartbeats 4000000 in
theorem A_X11_gives {l : Launch} {d : Nat} (hD : 1 ≤ d) {σ : az_Hp} {v0 v1 : Int} {r : (Int × az_Hp)} (h : fz_X11_gives σ v0 v1 = some r) : az_AC l yX11_gives cX11_gives 2 (some .int) d [(13, v0), (0, v1)] σ (some (0, r.1), r.2) := az_AC.of mt_X11_gives rfl rfl rfl (fun Z hZ C => A_X11_gives_e C hD h)
theorem dX11_find_0 : decode cX11_find 0 = .ok (.iload_n 1, 1) := by decide +kernel
theorem dX11_find_1 : decode cX11_find 1 = .ok (.istore_n 2, 1) := by decide +kernel
theorem dX11_find_2 : decode cX11_find 2 = .ok (.aload_n 0, 1) := by decide +kernel
theorem dX11_find_3 : decode cX11_find 3 = .ok (.getfield 79, 3) := by decide +kernel
theorem dX11_find_6 : decode cX11_find 6 = .ok (.iload_n 2, 1) := by decide +kernel
theorem dX11_find_7 : decode cX11_find 7 = .ok (.iaload, 1) := by decide +kernel
theorem dX11_find_8 : decode cX11_find 8 = .ok (.iload_n 2, 1) := by decide +kernel
theorem dX11_find_9 : decode cX11_find 9 = .ok (.if_icmp .eq 13, 3) := by decide +kernel
theorem dX11_find_12 : decode cX11_find 12 = .ok (.aload_n 0, 1) := by decide +kernel
theorem dX11_find_13 : decode cX11_find 13 = .ok (.getfield 79, 3) := by decide +kernel
theorem dX11_find_16 : decode cX11_find 16 = .ok (.iload_n 2, 1) := by decide +kernel
theorem dX11_find_17 : decode cX11_find 17 = .ok (.iaload, 1) := by decide +kernel
theorem dX11_find_18 : decode cX11_find 18 = .ok (.istore_n 2, 1) := by decide +kernel
theorem dX11_find_19 : decode cX11_find 19 = .ok (.goto (-17), 3) := by decide +kernel
theorem dX11_find_22 : decode cX11_find 22 = .ok (.iload_n 2, 1) := by decide +kernel
theorem dX11_find_23 : decode cX11_find 23 = .ok (.ireturn, 1) := by decide +kernel
set_option maxRecDepth 10000 in
set_option maxHeartbeats 4000000 in
theorem A_X11_find_2 {Z : az_Z} {d : Nat} (C : az_C Z yX11_find cX11_find 3 (some .int) d) (hD : 1 ≤ d) (n : Nat) (k : Nat) : ∀ {σ : az_Hp} {v0 v2 : Int} {r : Int}, fz_X11_find_2 n k σ v0 v2 = some r → az_AW Z 3 2 [(13, v0), (31, 0), (0, v2)] [] σ (some (0, r), σ) := by
  have hd1 : 1 ≤ d := by omega
  induction k with
  | zero => intro σ v0 v2 r h; simp [fz_X11_find_2] at h
  | succ k ih =>
    intro σ v0 v2 r h
    unfold fz_X11_find_2 at h
    refine az_al0 (pc := 2) C rfl rfl dX11_find_2 ?_
    refine az_getR (pc := 3) (c2 := 13) C h fl_X11_79 rfl rfl dX11_find_3 (fun h => ?_)
    refine az_il2 (pc := 6) C dX11_find_6 ?_
    refine az_iaload (pc := 7) C h dX11_find_7 (fun h => ?_)
    refine az_il2 (pc := 8) C dX11_find_8 ?_
    refine az_icmp_eq (pc := 9) (tgt := 22) C h dX11_find_9 (by decide) (fun _ h => ?_) (fun _ h => ?_)
    · refine az_il2 (pc := 22) C dX11_find_22 ?_
      obtain rfl := Option.some.inj h
      exact az_ireturn (pc := 23) C dX11_find_23 rfl
    refine az_al0 (pc := 12) C rfl rfl dX11_find_12 ?_
    refine az_getR (pc := 13) (c2 := 13) C h fl_X11_79 rfl rfl dX11_find_13 (fun h => ?_)
    refine az_il2 (pc := 16) C dX11_find_16 ?_
    refine az_iaload (pc := 17) C h dX11_find_17 (fun h => ?_)
    refine az_is2 (pc := 18) C rfl rfl dX11_find_18 ?_
    refine az_goto (pc := 19) (tgt := 2) C dX11_find_19 (by decide) ?_
    exact (ih h)
set_option maxRecDepth 10000 in
set_option maxHeartbeats 4000000 in
theorem A_X11_find_e {Z : az_Z} {d : Nat} (C : az_C Z yX11_find cX11_find 3 (some .int) d) (hD : 1 ≤ d) (n : Nat) {σ : az_Hp} {v0 v1 : Int} {r : Int} (h : fz_X11_find n σ v0 v1 = some r) : az_AW Z 3 0 [(13, v0), (0, v1), (31, 0)] [] σ (some (0, r), σ) := by
  have hd1 : 1 ≤ d := by omega
  unfold fz_X11_find at h
  refine az_il1 (pc := 0) C dX11_find_0 ?_
  refine az_is2 (pc := 1) C rfl rfl dX11_find_1 ?_
  exact (az_wkk (A_X11_find_2 C hD n n h) (az_sE (az_sJ (az_sE az_sN))))
set_option maxRecDepth 10000 in
set_option maxHeartbeats 4000000 in
theorem A_X11_find {l : Launch} {d : Nat} (hD : 1 ≤ d) (n : Nat) {σ : az_Hp} {v0 v1 : Int} {r : Int} (h : fz_X11_find n σ v0 v1 = some r) : az_AC l yX11_find cX11_find 3 (some .int) d [(13, v0), (0, v1)] σ (some (0, r), σ) := az_AC.of mt_X11_find rfl rfl rfl (fun Z hZ C => A_X11_find_e C hD n h)
theorem dX11_isVar_0 : decode cX11_isVar 0 = .ok (.iload_n 0, 1) := by decide +kernel
theorem dX11_isVar_1 : decode cX11_isVar 1 = .ok (.sipush 1000, 3) := by decide +kernel
theorem dX11_isVar_4 : decode cX11_isVar 4 = .ok (.if_icmp .lt 7, 3) := by decide +kernel
theorem dX11_isVar_7 : decode cX11_isVar 7 = .ok (.iconst 1, 1) := by decide +kernel
theorem dX11_isVar_8 : decode cX11_isVar 8 = .ok (.goto 4, 3) := by decide +kernel
theorem dX11_isVar_11 : decode cX11_isVar 11 = .ok (.iconst 0, 1) := by decide +kernel
theorem dX11_isVar_12 : decode cX11_isVar 12 = .ok (.ireturn, 1) := by decide +kernel
set_option maxRecDepth 10000 in
set_option maxHeartbeats 4000000 in
theorem A_X11_isVar_e {Z : az_Z} {d : Nat} (C : az_C Z yX11_isVar cX11_isVar 1 (some .boolean) d) (hD : 1 ≤ d) {σ : az_Hp} {v0 : Int} {r : Int} (h : fz_X11_isVar σ v0 = some r) : az_AW Z 1 0 [(0, v0)] [] σ (some (0, r), σ) := by
  have hd1 : 1 ≤ d := by omega
  unfold fz_X11_isVar at h
  refine az_il0 (pc := 0) C dX11_isVar_0 ?_
  refine az_sk1000 (pc := 1) C dX11_isVar_1 ?_
  refine az_icmp_lt (pc := 4) (tgt := 11) C h dX11_isVar_4 (by decide) (fun _ h => ?_) (fun _ h => ?_)
  · refine az_ik0 (pc := 11) C dX11_isVar_11 ?_
    obtain rfl := Option.some.inj h
    exact az_zreturn (pc := 12) C (by decide) dX11_isVar_12 rfl
  refine az_ik1 (pc := 7) C dX11_isVar_7 ?_
  refine az_goto (pc := 8) (tgt := 12) C dX11_isVar_8 (by decide) ?_
  obtain rfl := Option.some.inj h
  exact az_zreturn (pc := 12) C (by decide) dX11_isVar_12 rfl
set_option maxRecDepth 10000 in
set_option maxHeartbeats 4000000 in
theorem A_X11_isVar {l : Launch} {d : Nat} (hD : 1 ≤ d) {σ : az_Hp} {v0 : Int} {r : Int} (h : fz_X11_isVar σ v0 = some r) : az_AC l yX11_isVar cX11_isVar 1 (some .boolean) d [(0, v0)] σ (some (0, r), σ) := az_AC.of mt_X11_isVar rfl rfl rfl (fun Z hZ C => A_X11_isVar_e C hD h)
theorem dX11_isFam_0 : decode cX11_isFam 0 = .ok (.iload_n 0, 1) := by decide +kernel
theorem dX11_isFam_1 : decode cX11_isFam 1 = .ok (.sipush 200, 3) := by decide +kernel
theorem dX11_isFam_4 : decode cX11_isFam 4 = .ok (.if_icmp .lt 14, 3) := by decide +kernel
theorem dX11_isFam_7 : decode cX11_isFam 7 = .ok (.iload_n 0, 1) := by decide +kernel
theorem dX11_isFam_8 : decode cX11_isFam 8 = .ok (.sipush 1000, 3) := by decide +kernel
theorem dX11_isFam_11 : decode cX11_isFam 11 = .ok (.if_icmp .ge 7, 3) := by decide +kernel
theorem dX11_isFam_14 : decode cX11_isFam 14 = .ok (.iconst 1, 1) := by decide +kernel
theorem dX11_isFam_15 : decode cX11_isFam 15 = .ok (.goto 4, 3) := by decide +kernel
theorem dX11_isFam_18 : decode cX11_isFam 18 = .ok (.iconst 0, 1) := by decide +kernel
theorem dX11_isFam_19 : decode cX11_isFam 19 = .ok (.ireturn, 1) := by decide +kernel
set_option maxRecDepth 10000 in
set_option maxHeartbeats 4000000 in
theorem A_X11_isFam_e {Z : az_Z} {d : Nat} (C : az_C Z yX11_isFam cX11_isFam 1 (some .boolean) d) (hD : 1 ≤ d) {σ : az_Hp} {v0 : Int} {r : Int} (h : fz_X11_isFam σ v0 = some r) : az_AW Z 1 0 [(0, v0)] [] σ (some (0, r), σ) := by
  have hd1 : 1 ≤ d := by omega
  unfold fz_X11_isFam at h
  refine az_il0 (pc := 0) C dX11_isFam_0 ?_
  refine az_sk200 (pc := 1) C dX11_isFam_1 ?_
  refine az_icmp_lt (pc := 4) (tgt := 18) C h dX11_isFam_4 (by decide) (fun _ h => ?_) (fun _ h => ?_)
  · refine az_ik0 (pc := 18) C dX11_isFam_18 ?_
    obtain rfl := Option.some.inj h
    exact az_zreturn (pc := 19) C (by decide) dX11_isFam_19 rfl
  refine az_il0 (pc := 7) C dX11_isFam_7 ?_
  refine az_sk1000 (pc := 8) C dX11_isFam_8 ?_
  refine az_icmp_ge (pc := 11) (tgt := 18) C h dX11_isFam_11 (by decide) (fun _ h => ?_) (fun _ h => ?_)
  · refine az_ik0 (pc := 18) C dX11_isFam_18 ?_
    obtain rfl := Option.some.inj h
    exact az_zreturn (pc := 19) C (by decide) dX11_isFam_19 rfl
  refine az_ik1 (pc := 14) C dX11_isFam_14 ?_
  refine az_goto (pc := 15) (tgt := 19) C dX11_isFam_15 (by decide) ?_
  obtain rfl := Option.some.inj h
  exact az_zreturn (pc := 19) C (by decide) dX11_isFam_19 rfl
set_option maxRecDepth 10000 in
set_option maxHeartbeats 4000000 in
theorem A_X11_isFam {l : Launch} {d : Nat} (hD : 1 ≤ d) {σ : az_Hp} {v0 : Int} {r : Int} (h : fz_X11_isFam σ v0 = some r) : az_AC l yX11_isFam cX11_isFam 1 (some .boolean) d [(0, v0)] σ (some (0, r), σ) := az_AC.of mt_X11_isFam rfl rfl rfl (fun Z hZ C => A_X11_isFam_e C hD h)
