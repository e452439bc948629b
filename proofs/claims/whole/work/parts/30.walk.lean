theorem dX10_still_0 : decode cX10_still 0 = .ok (.aload_n 0, 1) := by decide +kernel
theorem dX10_still_1 : decode cX10_still 1 = .ok (.getfield 82, 3) := by decide +kernel
theorem dX10_still_4 : decode cX10_still 4 = .ok (.getfield 129, 3) := by decide +kernel
theorem dX10_still_7 : decode cX10_still 7 = .ok (.ifCond .ne 9, 3) := by decide +kernel
theorem dX10_still_10 : decode cX10_still 10 = .ok (.aload_n 0, 1) := by decide +kernel
theorem dX10_still_11 : decode cX10_still 11 = .ok (.iconst 3, 1) := by decide +kernel
theorem dX10_still_12 : decode cX10_still 12 = .ok (.invokevirtual 112, 3) := by decide +kernel
theorem dX10_still_15 : decode cX10_still 15 = .ok (.ireturn, 1) := by decide +kernel
theorem dX10_still_16 : decode cX10_still 16 = .ok (.iload_n 1, 1) := by decide +kernel
theorem dX10_still_17 : decode cX10_still 17 = .ok (.ifCond .lt 22, 3) := by decide +kernel
theorem dX10_still_20 : decode cX10_still 20 = .ok (.iload_n 1, 1) := by decide +kernel
theorem dX10_still_21 : decode cX10_still 21 = .ok (.aload_n 0, 1) := by decide +kernel
theorem dX10_still_22 : decode cX10_still 22 = .ok (.getfield 82, 3) := by decide +kernel
theorem dX10_still_25 : decode cX10_still 25 = .ok (.getfield 129, 3) := by decide +kernel
theorem dX10_still_28 : decode cX10_still 28 = .ok (.if_icmp .ge 11, 3) := by decide +kernel
theorem dX10_still_31 : decode cX10_still 31 = .ok (.aload_n 0, 1) := by decide +kernel
theorem dX10_still_32 : decode cX10_still 32 = .ok (.iload_n 2, 1) := by decide +kernel
theorem dX10_still_33 : decode cX10_still 33 = .ok (.invokevirtual 176, 3) := by decide +kernel
theorem dX10_still_36 : decode cX10_still 36 = .ok (.ifCond .ne 9, 3) := by decide +kernel
theorem dX10_still_39 : decode cX10_still 39 = .ok (.aload_n 0, 1) := by decide +kernel
theorem dX10_still_40 : decode cX10_still 40 = .ok (.iconst 2, 1) := by decide +kernel
theorem dX10_still_41 : decode cX10_still 41 = .ok (.invokevirtual 112, 3) := by decide +kernel
theorem dX10_still_44 : decode cX10_still 44 = .ok (.ireturn, 1) := by decide +kernel
theorem dX10_still_45 : decode cX10_still 45 = .ok (.aload_n 0, 1) := by decide +kernel
theorem dX10_still_46 : decode cX10_still 46 = .ok (.getfield 73, 3) := by decide +kernel
theorem dX10_still_49 : decode cX10_still 49 = .ok (.iload_n 2, 1) := by decide +kernel
theorem dX10_still_50 : decode cX10_still 50 = .ok (.aload_n 0, 1) := by decide +kernel
theorem dX10_still_51 : decode cX10_still 51 = .ok (.getfield 82, 3) := by decide +kernel
theorem dX10_still_54 : decode cX10_still 54 = .ok (.iload_n 1, 1) := by decide +kernel
theorem dX10_still_55 : decode cX10_still 55 = .ok (.invokevirtual 280, 3) := by decide +kernel
theorem dX10_still_58 : decode cX10_still 58 = .ok (.iconst 3, 1) := by decide +kernel
theorem dX10_still_59 : decode cX10_still 59 = .ok (.if_icmp .eq 9, 3) := by decide +kernel
theorem dX10_still_62 : decode cX10_still 62 = .ok (.aload_n 0, 1) := by decide +kernel
theorem dX10_still_63 : decode cX10_still 63 = .ok (.iconst 5, 1) := by decide +kernel
theorem dX10_still_64 : decode cX10_still 64 = .ok (.invokevirtual 112, 3) := by decide +kernel
theorem dX10_still_67 : decode cX10_still 67 = .ok (.ireturn, 1) := by decide +kernel
theorem dX10_still_68 : decode cX10_still 68 = .ok (.aload_n 0, 1) := by decide +kernel
theorem dX10_still_69 : decode cX10_still 69 = .ok (.aload_n 0, 1) := by decide +kernel
theorem dX10_still_70 : decode cX10_still 70 = .ok (.getfield 73, 3) := by decide +kernel
theorem dX10_still_73 : decode cX10_still 73 = .ok (.iload_n 2, 1) := by decide +kernel
theorem dX10_still_74 : decode cX10_still 74 = .ok (.aload_n 0, 1) := by decide +kernel
theorem dX10_still_75 : decode cX10_still 75 = .ok (.getfield 82, 3) := by decide +kernel
theorem dX10_still_78 : decode cX10_still 78 = .ok (.iload_n 1, 1) := by decide +kernel
theorem dX10_still_79 : decode cX10_still 79 = .ok (.invokevirtual 284, 3) := by decide +kernel
theorem dX10_still_82 : decode cX10_still 82 = .ok (.invokevirtual 138, 3) := by decide +kernel
theorem dX10_still_85 : decode cX10_still 85 = .ok (.ireturn, 1) := by decide +kernel
set_option maxRecDepth 10000 in
set_option maxHeartbeats 4000000 in
theorem A_X10_still_e {Z : az_Z} {d : Nat} (C : az_C Z yX10_still cX10_still 3 (some .int) d) (hD : 5 ≤ d) (n : Nat) {σ : az_Hp} {v0 v1 v2 : Int} {r : (Int × az_Hp)} (h : fz_X10_still n σ v0 v1 v2 = some r) : az_AW Z 3 0 [(12, v0), (0, v1), (0, v2)] [] σ (some (0, r.1), r.2) := by
  have hd1 : 1 ≤ d := by omega
  unfold fz_X10_still at h
  refine az_al0 (pc := 0) C rfl rfl dX10_still_0 ?_
  refine az_getR (pc := 1) (c2 := 7) C h fl_X10_82 rfl rfl dX10_still_1 (fun h => ?_)
  refine az_getI (pc := 4) C fl_X10_129 rfl dX10_still_4 ?_
  refine az_if_ne (pc := 7) (tgt := 16) C h dX10_still_7 (by decide) (fun _ h => ?_) (fun _ h => ?_)
  · refine az_il1 (pc := 16) C dX10_still_16 ?_
    refine az_if_lt (pc := 17) (tgt := 39) C h dX10_still_17 (by decide) (fun _ h => ?_) (fun _ h => ?_)
    · refine az_al0 (pc := 39) C rfl rfl dX10_still_39 ?_
      refine az_ik2 (pc := 40) C dX10_still_40 ?_
      refine az_cV1ii (pc := 41) (c := 10) C hd1 h mv_X10_refuse ml_X10_112 rfl (fun x hx => A_X10_refuse (by omega) hx) dX10_still_41 (fun r2 h => ?_)
      obtain rfl := Option.some.inj h
      exact az_ireturn (pc := 44) C dX10_still_44 rfl
    refine az_il1 (pc := 20) C dX10_still_20 ?_
    refine az_al0 (pc := 21) C rfl rfl dX10_still_21 ?_
    refine az_getR (pc := 22) (c2 := 7) C h fl_X10_82 rfl rfl dX10_still_22 (fun h => ?_)
    refine az_getI (pc := 25) C fl_X10_129 rfl dX10_still_25 ?_
    refine az_icmp_ge (pc := 28) (tgt := 39) C h dX10_still_28 (by decide) (fun _ h => ?_) (fun _ h => ?_)
    · refine az_al0 (pc := 39) C rfl rfl dX10_still_39 ?_
      refine az_ik2 (pc := 40) C dX10_still_40 ?_
      refine az_cV1ii (pc := 41) (c := 10) C hd1 h mv_X10_refuse ml_X10_112 rfl (fun x hx => A_X10_refuse (by omega) hx) dX10_still_41 (fun r4 h => ?_)
      obtain rfl := Option.some.inj h
      exact az_ireturn (pc := 44) C dX10_still_44 rfl
    refine az_al0 (pc := 31) C rfl rfl dX10_still_31 ?_
    refine az_il2 (pc := 32) C dX10_still_32 ?_
    refine az_cV1pi (pc := 33) (c := 10) C hd1 h mv_X10_isEquation ml_X10_176 rfl (fun x hx => A_X10_isEquation (by omega) hx) dX10_still_33 (fun r5 h => ?_)
    refine az_if_ne (pc := 36) (tgt := 45) C h dX10_still_36 (by decide) (fun _ h => ?_) (fun _ h => ?_)
    · refine az_al0 (pc := 45) C rfl rfl dX10_still_45 ?_
      refine az_getR (pc := 46) (c2 := 5) C h fl_X10_73 rfl rfl dX10_still_46 (fun h => ?_)
      refine az_il2 (pc := 49) C dX10_still_49 ?_
      refine az_al0 (pc := 50) C rfl rfl dX10_still_50 ?_
      refine az_getR (pc := 51) (c2 := 7) C h fl_X10_82 rfl rfl dX10_still_51 (fun h => ?_)
      refine az_il1 (pc := 54) C dX10_still_54 ?_
      refine az_cV3ii (pc := 55) (c := 5) C hd1 h mv_X5_reason ml_X10_280 rfl (fun x hx => A_X5_reason (by omega) n hx) dX10_still_55 (fun r8 h => ?_)
      refine az_ik3 (pc := 58) C dX10_still_58 ?_
      refine az_icmp_eq (pc := 59) (tgt := 68) C h dX10_still_59 (by decide) (fun _ h => ?_) (fun _ h => ?_)
      · refine az_al0 (pc := 68) C rfl rfl dX10_still_68 ?_
        refine az_al0 (pc := 69) C rfl rfl dX10_still_69 ?_
        refine az_getR (pc := 70) (c2 := 5) C h fl_X10_73 rfl rfl dX10_still_70 (fun h => ?_)
        refine az_il2 (pc := 73) C dX10_still_73 ?_
        refine az_al0 (pc := 74) C rfl rfl dX10_still_74 ?_
        refine az_getR (pc := 75) (c2 := 7) C h fl_X10_82 rfl rfl dX10_still_75 (fun h => ?_)
        refine az_il1 (pc := 78) C dX10_still_78 ?_
        refine az_cV3ii (pc := 79) (c := 5) C hd1 h mv_X5_firstStill ml_X10_284 rfl (fun x hx => A_X5_firstStill (by omega) n hx) dX10_still_79 (fun r11 h => ?_)
        refine az_cV1ii (pc := 82) (c := 10) C hd1 h mv_X10_give ml_X10_138 rfl (fun x hx => A_X10_give (by omega) hx) dX10_still_82 (fun r12 h => ?_)
        obtain rfl := Option.some.inj h
        exact az_ireturn (pc := 85) C dX10_still_85 rfl
      refine az_al0 (pc := 62) C rfl rfl dX10_still_62 ?_
      refine az_ik5 (pc := 63) C dX10_still_63 ?_
      refine az_cV1ii (pc := 64) (c := 10) C hd1 h mv_X10_refuse ml_X10_112 rfl (fun x hx => A_X10_refuse (by omega) hx) dX10_still_64 (fun r13 h => ?_)
      obtain rfl := Option.some.inj h
      exact az_ireturn (pc := 67) C dX10_still_67 rfl
    refine az_al0 (pc := 39) C rfl rfl dX10_still_39 ?_
    refine az_ik2 (pc := 40) C dX10_still_40 ?_
    refine az_cV1ii (pc := 41) (c := 10) C hd1 h mv_X10_refuse ml_X10_112 rfl (fun x hx => A_X10_refuse (by omega) hx) dX10_still_41 (fun r14 h => ?_)
    obtain rfl := Option.some.inj h
    exact az_ireturn (pc := 44) C dX10_still_44 rfl
  refine az_al0 (pc := 10) C rfl rfl dX10_still_10 ?_
  refine az_ik3 (pc := 11) C dX10_still_11 ?_
  refine az_cV1ii (pc := 12) (c := 10) C hd1 h mv_X10_refuse ml_X10_112 rfl (fun x hx => A_X10_refuse (by omega) hx) dX10_still_12 (fun r15 h => ?_)
  obtain rfl := Option.some.inj h
  exact az_ireturn (pc := 15) C dX10_still_15 rfl
set_option maxRecDepth 10000 in
set_option maxHeartbeats 4000000 in
theorem A_X10_still {l : Launch} {d : Nat} (hD : 5 ≤ d) (n : Nat) {σ : az_Hp} {v0 v1 v2 : Int} {r : (Int × az_Hp)} (h : fz_X10_still n σ v0 v1 v2 = some r) : az_AC l yX10_still cX10_still 3 (some .int) d [(12, v0), (0, v1), (0, v2)] σ (some (0, r.1), r.2) := az_AC.of mt_X10_still rfl rfl rfl (fun Z hZ C => A_X10_still_e C hD n h)
theorem dX4_readWhole_0 : decode cX4_readWhole 0 = .ok (.aload_n 0, 1) := by decide +kernel
theorem dX4_readWhole_1 : decode cX4_readWhole 1 = .ok (.aload_n 1, 1) := by decide +kernel
theorem dX4_readWhole_2 : decode cX4_readWhole 2 = .ok (.iload_n 2, 1) := by decide +kernel
theorem dX4_readWhole_3 : decode cX4_readWhole 3 = .ok (.aload_n 3, 1) := by decide +kernel
theorem dX4_readWhole_4 : decode cX4_readWhole 4 = .ok (.invokevirtual 69, 3) := by decide +kernel
theorem dX4_readWhole_7 : decode cX4_readWhole 7 = .ok (.aload_n 0, 1) := by decide +kernel
theorem dX4_readWhole_8 : decode cX4_readWhole 8 = .ok (.bipush 12, 2) := by decide +kernel
theorem dX4_readWhole_10 : decode cX4_readWhole 10 = .ok (.invokevirtual 98, 3) := by decide +kernel
theorem dX4_readWhole_13 : decode cX4_readWhole 13 = .ok (.aload_n 0, 1) := by decide +kernel
theorem dX4_readWhole_14 : decode cX4_readWhole 14 = .ok (.aload 4, 2) := by decide +kernel
theorem dX4_readWhole_16 : decode cX4_readWhole 16 = .ok (.iconst 2, 1) := by decide +kernel
theorem dX4_readWhole_17 : decode cX4_readWhole 17 = .ok (.invokevirtual 102, 3) := by decide +kernel
theorem dX4_readWhole_20 : decode cX4_readWhole 20 = .ok (.ifCond .eq 22, 3) := by decide +kernel
theorem dX4_readWhole_23 : decode cX4_readWhole 23 = .ok (.aload_n 0, 1) := by decide +kernel
theorem dX4_readWhole_24 : decode cX4_readWhole 24 = .ok (.getfield 41, 3) := by decide +kernel
theorem dX4_readWhole_27 : decode cX4_readWhole 27 = .ok (.ifCond .eq 11, 3) := by decide +kernel
theorem dX4_readWhole_30 : decode cX4_readWhole 30 = .ok (.aload_n 0, 1) := by decide +kernel
theorem dX4_readWhole_31 : decode cX4_readWhole 31 = .ok (.iconst 2, 1) := by decide +kernel
theorem dX4_readWhole_32 : decode cX4_readWhole 32 = .ok (.invokevirtual 84, 3) := by decide +kernel
theorem dX4_readWhole_35 : decode cX4_readWhole 35 = .ok (.ifCond .eq 7, 3) := by decide +kernel
theorem dX4_readWhole_38 : decode cX4_readWhole 38 = .ok (.iconst 1, 1) := by decide +kernel
theorem dX4_readWhole_39 : decode cX4_readWhole 39 = .ok (.goto 4, 3) := by decide +kernel
theorem dX4_readWhole_42 : decode cX4_readWhole 42 = .ok (.iconst 0, 1) := by decide +kernel
theorem dX4_readWhole_43 : decode cX4_readWhole 43 = .ok (.ireturn, 1) := by decide +kernel
set_option maxRecDepth 10000 in
set_option maxHeartbeats 4000000 in
theorem A_X4_readWhole_e {Z : az_Z} {d : Nat} (C : az_C Z yX4_readWhole cX4_readWhole 5 (some .boolean) d) (hD : 6 ≤ d) (n : Nat) {σ : az_Hp} {v0 v1 v2 v3 v4 : Int} {r : (Int × az_Hp)} (h : fz_X4_readWhole n σ v0 v1 v2 v3 v4 = some r) : az_AW Z 5 0 [(6, v0), (15, v1), (0, v2), (11, v3), (9, v4)] [] σ (some (0, r.1), r.2) := by
  have hd1 : 1 ≤ d := by omega
  unfold fz_X4_readWhole at h
  refine az_al0 (pc := 0) C rfl rfl dX4_readWhole_0 ?_
  refine az_al1 (pc := 1) C rfl rfl dX4_readWhole_1 ?_
  refine az_il2 (pc := 2) C dX4_readWhole_2 ?_
  refine az_al3 (pc := 3) C rfl rfl dX4_readWhole_3 ?_
  refine az_cV3v (pc := 4) (c := 4) C hd1 h mv_X4_begin ml_X4_69 rfl (fun x hx => A_X4_begin (by omega) n hx) dX4_readWhole_4 (fun r1 h => ?_)
  refine az_al0 (pc := 7) C rfl rfl dX4_readWhole_7 ?_
  refine az_bk12 (pc := 8) C dX4_readWhole_8 ?_
  refine az_cV1v (pc := 10) (c := 4) C hd1 h mv_X4_forgetWords ml_X4_98 rfl (fun x hx => A_X4_forgetWords (by omega) hx) dX4_readWhole_10 (fun r2 h => ?_)
  refine az_al0 (pc := 13) C rfl rfl dX4_readWhole_13 ?_
  refine az_al4 (pc := 14) C rfl rfl dX4_readWhole_14 ?_
  refine az_ik2 (pc := 16) C dX4_readWhole_16 ?_
  refine az_cV2ii (pc := 17) (c := 4) C hd1 h mv_X4_readSide ml_X4_102 rfl (fun x hx => A_X4_readSide (by omega) n hx) dX4_readWhole_17 (fun r3 h => ?_)
  refine az_if_eq (pc := 20) (tgt := 42) C h dX4_readWhole_20 (by decide) (fun _ h => ?_) (fun _ h => ?_)
  · refine az_ik0 (pc := 42) C dX4_readWhole_42 ?_
    obtain rfl := Option.some.inj h
    exact az_zreturn (pc := 43) C (by decide) dX4_readWhole_43 rfl
  refine az_al0 (pc := 23) C rfl rfl dX4_readWhole_23 ?_
  refine az_getI (pc := 24) C fl_X4_41 rfl dX4_readWhole_24 ?_
  refine az_if_eq (pc := 27) (tgt := 38) C h dX4_readWhole_27 (by decide) (fun _ h => ?_) (fun _ h => ?_)
  · refine az_ik1 (pc := 38) C dX4_readWhole_38 ?_
    refine az_goto (pc := 39) (tgt := 43) C dX4_readWhole_39 (by decide) ?_
    obtain rfl := Option.some.inj h
    exact az_zreturn (pc := 43) C (by decide) dX4_readWhole_43 rfl
  refine az_al0 (pc := 30) C rfl rfl dX4_readWhole_30 ?_
  refine az_ik2 (pc := 31) C dX4_readWhole_31 ?_
  refine az_cV1ii (pc := 32) (c := 4) C hd1 h mv_X4_fail ml_X4_84 rfl (fun x hx => A_X4_fail (by omega) hx) dX4_readWhole_32 (fun r4 h => ?_)
  refine az_if_eq (pc := 35) (tgt := 42) C h dX4_readWhole_35 (by decide) (fun _ h => ?_) (fun _ h => ?_)
  · refine az_ik0 (pc := 42) C dX4_readWhole_42 ?_
    obtain rfl := Option.some.inj h
    exact az_zreturn (pc := 43) C (by decide) dX4_readWhole_43 rfl
  refine az_ik1 (pc := 38) C dX4_readWhole_38 ?_
  refine az_goto (pc := 39) (tgt := 43) C dX4_readWhole_39 (by decide) ?_
  obtain rfl := Option.some.inj h
  exact az_zreturn (pc := 43) C (by decide) dX4_readWhole_43 rfl
set_option maxRecDepth 10000 in
set_option maxHeartbeats 4000000 in
theorem A_X4_readWhole {l : Launch} {d : Nat} (hD : 6 ≤ d) (n : Nat) {σ : az_Hp} {v0 v1 v2 v3 v4 : Int} {r : (Int × az_Hp)} (h : fz_X4_readWhole n σ v0 v1 v2 v3 v4 = some r) : az_AC l yX4_readWhole cX4_readWhole 5 (some .boolean) d [(6, v0), (15, v1), (0, v2), (11, v3), (9, v4)] σ (some (0, r.1), r.2) := az_AC.of mt_X4_readWhole rfl rfl rfl (fun Z hZ C => A_X4_readWhole_e C hD n h)
theorem dX10_term_0 : decode cX10_term 0 = .ok (.iload_n 1, 1) := by decide +kernel
theorem dX10_term_1 : decode cX10_term 1 = .ok (.ifCond .lt 11, 3) := by decide +kernel
theorem dX10_term_4 : decode cX10_term 4 = .ok (.iload_n 1, 1) := by decide +kernel
theorem dX10_term_5 : decode cX10_term 5 = .ok (.aload_n 0, 1) := by decide +kernel
theorem dX10_term_6 : decode cX10_term 6 = .ok (.getfield 13, 3) := by decide +kernel
theorem dX10_term_9 : decode cX10_term 9 = .ok (.if_icmp .le 9, 3) := by decide +kernel
theorem dX10_term_12 : decode cX10_term 12 = .ok (.aload_n 0, 1) := by decide +kernel
theorem dX10_term_13 : decode cX10_term 13 = .ok (.iconst 1, 1) := by decide +kernel
theorem dX10_term_14 : decode cX10_term 14 = .ok (.invokevirtual 112, 3) := by decide +kernel
theorem dX10_term_17 : decode cX10_term 17 = .ok (.ireturn, 1) := by decide +kernel
theorem dX10_term_18 : decode cX10_term 18 = .ok (.aload_n 0, 1) := by decide +kernel
theorem dX10_term_19 : decode cX10_term 19 = .ok (.getfield 48, 3) := by decide +kernel
theorem dX10_term_22 : decode cX10_term 22 = .ok (.aload_n 0, 1) := by decide +kernel
theorem dX10_term_23 : decode cX10_term 23 = .ok (.getfield 9, 3) := by decide +kernel
theorem dX10_term_26 : decode cX10_term 26 = .ok (.iload_n 1, 1) := by decide +kernel
theorem dX10_term_27 : decode cX10_term 27 = .ok (.aload_n 0, 1) := by decide +kernel
theorem dX10_term_28 : decode cX10_term 28 = .ok (.getfield 29, 3) := by decide +kernel
theorem dX10_term_31 : decode cX10_term 31 = .ok (.aload_n 0, 1) := by decide +kernel
theorem dX10_term_32 : decode cX10_term 32 = .ok (.getfield 86, 3) := by decide +kernel
theorem dX10_term_35 : decode cX10_term 35 = .ok (.invokevirtual 230, 3) := by decide +kernel
theorem dX10_term_38 : decode cX10_term 38 = .ok (.istore_n 2, 1) := by decide +kernel
theorem dX10_term_39 : decode cX10_term 39 = .ok (.aload_n 0, 1) := by decide +kernel
theorem dX10_term_40 : decode cX10_term 40 = .ok (.iload_n 2, 1) := by decide +kernel
theorem dX10_term_41 : decode cX10_term 41 = .ok (.invokevirtual 120, 3) := by decide +kernel
theorem dX10_term_44 : decode cX10_term 44 = .ok (.ifCond .ne 10, 3) := by decide +kernel
theorem dX10_term_47 : decode cX10_term 47 = .ok (.aload_n 0, 1) := by decide +kernel
theorem dX10_term_48 : decode cX10_term 48 = .ok (.bipush 9, 2) := by decide +kernel
theorem dX10_term_50 : decode cX10_term 50 = .ok (.invokevirtual 112, 3) := by decide +kernel
theorem dX10_term_53 : decode cX10_term 53 = .ok (.ireturn, 1) := by decide +kernel
theorem dX10_term_54 : decode cX10_term 54 = .ok (.aload_n 0, 1) := by decide +kernel
theorem dX10_term_55 : decode cX10_term 55 = .ok (.getfield 82, 3) := by decide +kernel
theorem dX10_term_58 : decode cX10_term 58 = .ok (.aload_n 0, 1) := by decide +kernel
theorem dX10_term_59 : decode cX10_term 59 = .ok (.getfield 86, 3) := by decide +kernel
theorem dX10_term_62 : decode cX10_term 62 = .ok (.invokevirtual 234, 3) := by decide +kernel
theorem dX10_term_65 : decode cX10_term 65 = .ok (.aload_n 0, 1) := by decide +kernel
theorem dX10_term_66 : decode cX10_term 66 = .ok (.getfield 48, 3) := by decide +kernel
theorem dX10_term_69 : decode cX10_term 69 = .ok (.getfield 238, 3) := by decide +kernel
theorem dX10_term_72 : decode cX10_term 72 = .ok (.iconst 0, 1) := by decide +kernel
theorem dX10_term_73 : decode cX10_term 73 = .ok (.aload_n 0, 1) := by decide +kernel
theorem dX10_term_74 : decode cX10_term 74 = .ok (.getfield 89, 3) := by decide +kernel
theorem dX10_term_77 : decode cX10_term 77 = .ok (.iconst 0, 1) := by decide +kernel
theorem dX10_term_78 : decode cX10_term 78 = .ok (.bipush 12, 2) := by decide +kernel
theorem dX10_term_80 : decode cX10_term 80 = .ok (.invokestatic 241, 3) := by decide +kernel
theorem dX10_term_83 : decode cX10_term 83 = .ok (.aload_n 0, 1) := by decide +kernel
theorem dX10_term_84 : decode cX10_term 84 = .ok (.aload_n 0, 1) := by decide +kernel
theorem dX10_term_85 : decode cX10_term 85 = .ok (.getfield 82, 3) := by decide +kernel
theorem dX10_term_88 : decode cX10_term 88 = .ok (.getfield 129, 3) := by decide +kernel
theorem dX10_term_91 : decode cX10_term 91 = .ok (.invokevirtual 138, 3) := by decide +kernel
theorem dX10_term_94 : decode cX10_term 94 = .ok (.ireturn, 1) := by decide +kernel
set_option maxRecDepth 10000 in
set_option maxHeartbeats 4000000 in
theorem A_X10_term_e {Z : az_Z} {d : Nat} (C : az_C Z yX10_term cX10_term 3 (some .int) d) (hD : 7 ≤ d) (n : Nat) {σ : az_Hp} {v0 v1 : Int} {r : (Int × az_Hp)} (h : fz_X10_term n σ v0 v1 = some r) : az_AW Z 3 0 [(12, v0), (0, v1), (31, 0)] [] σ (some (0, r.1), r.2) := by
  have hd1 : 1 ≤ d := by omega
  unfold fz_X10_term at h
  refine az_il1 (pc := 0) C dX10_term_0 ?_
  refine az_if_lt (pc := 1) (tgt := 12) C h dX10_term_1 (by decide) (fun _ h => ?_) (fun _ h => ?_)
  · refine az_al0 (pc := 12) C rfl rfl dX10_term_12 ?_
    refine az_ik1 (pc := 13) C dX10_term_13 ?_
    refine az_cV1ii (pc := 14) (c := 10) C hd1 h mv_X10_refuse ml_X10_112 rfl (fun x hx => A_X10_refuse (by omega) hx) dX10_term_14 (fun r1 h => ?_)
    obtain rfl := Option.some.inj h
    exact az_ireturn (pc := 17) C dX10_term_17 rfl
  refine az_il1 (pc := 4) C dX10_term_4 ?_
  refine az_al0 (pc := 5) C rfl rfl dX10_term_5 ?_
  refine az_getI (pc := 6) C fl_X10_13 rfl dX10_term_6 ?_
  refine az_icmp_le (pc := 9) (tgt := 18) C h dX10_term_9 (by decide) (fun _ h => ?_) (fun _ h => ?_)
  · refine az_al0 (pc := 18) C rfl rfl dX10_term_18 ?_
    refine az_getR (pc := 19) (c2 := 4) C h fl_X10_48 rfl rfl dX10_term_19 (fun h => ?_)
    refine az_al0 (pc := 22) C rfl rfl dX10_term_22 ?_
    refine az_getR (pc := 23) (c2 := 13) C h fl_X10_9 rfl rfl dX10_term_23 (fun h => ?_)
    refine az_il1 (pc := 26) C dX10_term_26 ?_
    refine az_al0 (pc := 27) C rfl rfl dX10_term_27 ?_
    refine az_getR (pc := 28) (c2 := 9) C h fl_X10_29 rfl rfl dX10_term_28 (fun h => ?_)
    refine az_al0 (pc := 31) C rfl rfl dX10_term_31 ?_
    refine az_getR (pc := 32) (c2 := 7) C h fl_X10_86 rfl rfl dX10_term_32 (fun h => ?_)
    refine az_cV4ii (pc := 35) (c := 4) C hd1 h mv_X4_readWhole ml_X10_230 rfl (fun x hx => A_X4_readWhole (by omega) n hx) dX10_term_35 (fun r6 h => ?_)
    refine az_is2 (pc := 38) C rfl rfl dX10_term_38 ?_
    refine az_al0 (pc := 39) C rfl rfl dX10_term_39 ?_
    refine az_il2 (pc := 40) C dX10_term_40 ?_
    refine az_cV1ii (pc := 41) (c := 10) C hd1 h mv_X10_takeTape ml_X10_120 rfl (fun x hx => A_X10_takeTape (by omega) hx) dX10_term_41 (fun r7 h => ?_)
    refine az_if_ne (pc := 44) (tgt := 54) C h dX10_term_44 (by decide) (fun _ h => ?_) (fun _ h => ?_)
    · refine az_al0 (pc := 54) C rfl rfl dX10_term_54 ?_
      refine az_getR (pc := 55) (c2 := 7) C h fl_X10_82 rfl rfl dX10_term_55 (fun h => ?_)
      refine az_al0 (pc := 58) C rfl rfl dX10_term_58 ?_
      refine az_getR (pc := 59) (c2 := 7) C h fl_X10_86 rfl rfl dX10_term_59 (fun h => ?_)
      refine az_cV1v (pc := 62) (c := 7) C hd1 h mv_X7_take ml_X10_234 rfl (fun x hx => A_X7_take (by omega) hx) dX10_term_62 (fun r10 h => ?_)
      refine az_al0 (pc := 65) C rfl rfl dX10_term_65 ?_
      refine az_getR (pc := 66) (c2 := 4) C h fl_X10_48 rfl rfl dX10_term_66 (fun h => ?_)
      refine az_getR (pc := 69) (c2 := 13) C h fl_X10_238 rfl rfl dX10_term_69 (fun h => ?_)
      refine az_ik0 (pc := 72) C dX10_term_72 ?_
      refine az_al0 (pc := 73) C rfl rfl dX10_term_73 ?_
      refine az_getR (pc := 74) (c2 := 13) C h fl_X10_89 rfl rfl dX10_term_74 (fun h => ?_)
      refine az_ik0 (pc := 77) C dX10_term_77 ?_
      refine az_bk12 (pc := 78) C dX10_term_78 ?_
      refine az_arraycopy (pc := 80) C hd1 h ml_X10_241 az_w_cpn az_w_cps az_w_sys rfl dX10_term_80 (fun h => ?_)
      refine az_al0 (pc := 83) C rfl rfl dX10_term_83 ?_
      refine az_al0 (pc := 84) C rfl rfl dX10_term_84 ?_
      refine az_getR (pc := 85) (c2 := 7) C h fl_X10_82 rfl rfl dX10_term_85 (fun h => ?_)
      refine az_getI (pc := 88) C fl_X10_129 rfl dX10_term_88 ?_
      refine az_cV1ii (pc := 91) (c := 10) C hd1 h mv_X10_give ml_X10_138 rfl (fun x hx => A_X10_give (by omega) hx) dX10_term_91 (fun r16 h => ?_)
      obtain rfl := Option.some.inj h
      exact az_ireturn (pc := 94) C dX10_term_94 rfl
    refine az_al0 (pc := 47) C rfl rfl dX10_term_47 ?_
    refine az_bk9 (pc := 48) C dX10_term_48 ?_
    refine az_cV1ii (pc := 50) (c := 10) C hd1 h mv_X10_refuse ml_X10_112 rfl (fun x hx => A_X10_refuse (by omega) hx) dX10_term_50 (fun r17 h => ?_)
    obtain rfl := Option.some.inj h
    exact az_ireturn (pc := 53) C dX10_term_53 rfl
  refine az_al0 (pc := 12) C rfl rfl dX10_term_12 ?_
  refine az_ik1 (pc := 13) C dX10_term_13 ?_
  refine az_cV1ii (pc := 14) (c := 10) C hd1 h mv_X10_refuse ml_X10_112 rfl (fun x hx => A_X10_refuse (by omega) hx) dX10_term_14 (fun r18 h => ?_)
  obtain rfl := Option.some.inj h
  exact az_ireturn (pc := 17) C dX10_term_17 rfl
set_option maxRecDepth 10000 in
set_option maxHeartbeats 4000000 in
theorem A_X10_term {l : Launch} {d : Nat} (hD : 7 ≤ d) (n : Nat) {σ : az_Hp} {v0 v1 : Int} {r : (Int × az_Hp)} (h : fz_X10_term n σ v0 v1 = some r) : az_AC l yX10_term cX10_term 3 (some .int) d [(12, v0), (0, v1)] σ (some (0, r.1), r.2) := az_AC.of mt_X10_term rfl rfl rfl (fun Z hZ C => A_X10_term_e C hD n h)
theorem dX8_isBound_0 : decode cX8_isBound 0 = .ok (.aload_n 0, 1) := by decide +kernel
theorem dX8_isBound_1 : decode cX8_isBound 1 = .ok (.getfield 31, 3) := by decide +kernel
theorem dX8_isBound_4 : decode cX8_isBound 4 = .ok (.iload_n 1, 1) := by decide +kernel
theorem dX8_isBound_5 : decode cX8_isBound 5 = .ok (.ishr, 1) := by decide +kernel
theorem dX8_isBound_6 : decode cX8_isBound 6 = .ok (.iconst 1, 1) := by decide +kernel
theorem dX8_isBound_7 : decode cX8_isBound 7 = .ok (.iand, 1) := by decide +kernel
theorem dX8_isBound_8 : decode cX8_isBound 8 = .ok (.ifCond .eq 7, 3) := by decide +kernel
theorem dX8_isBound_11 : decode cX8_isBound 11 = .ok (.iconst 1, 1) := by decide +kernel
theorem dX8_isBound_12 : decode cX8_isBound 12 = .ok (.goto 4, 3) := by decide +kernel
theorem dX8_isBound_15 : decode cX8_isBound 15 = .ok (.iconst 0, 1) := by decide +kernel
theorem dX8_isBound_16 : decode cX8_isBound 16 = .ok (.ireturn, 1) := by decide +kernel
set_option maxRecDepth 10000 in
set_option maxHeartbeats 4000000 in
theorem A_X8_isBound_e {Z : az_Z} {d : Nat} (C : az_C Z yX8_isBound cX8_isBound 2 (some .boolean) d) (hD : 1 ≤ d) {σ : az_Hp} {v0 v1 : Int} {r : Int} (h : fz_X8_isBound σ v0 v1 = some r) : az_AW Z 2 0 [(10, v0), (0, v1)] [] σ (some (0, r), σ) := by
  have hd1 : 1 ≤ d := by omega
  unfold fz_X8_isBound at h
  refine az_al0 (pc := 0) C rfl rfl dX8_isBound_0 ?_
  refine az_getI (pc := 1) C fl_X8_31 rfl dX8_isBound_1 ?_
  refine az_il1 (pc := 4) C dX8_isBound_4 ?_
  refine az_ishr (pc := 5) C dX8_isBound_5 ?_
  refine az_ik1 (pc := 6) C dX8_isBound_6 ?_
  refine az_iand (pc := 7) C dX8_isBound_7 ?_
  refine az_if_eq (pc := 8) (tgt := 15) C h dX8_isBound_8 (by decide) (fun _ h => ?_) (fun _ h => ?_)
  · refine az_ik0 (pc := 15) C dX8_isBound_15 ?_
    obtain rfl := Option.some.inj h
    exact az_zreturn (pc := 16) C (by decide) dX8_isBound_16 rfl
  refine az_ik1 (pc := 11) C dX8_isBound_11 ?_
  refine az_goto (pc := 12) (tgt := 16) C dX8_isBound_12 (by decide) ?_
  obtain rfl := Option.some.inj h
  exact az_zreturn (pc := 16) C (by decide) dX8_isBound_16 rfl
set_option maxRecDepth 10000 in
set_option maxHeartbeats 4000000 in
theorem A_X8_isBound {l : Launch} {d : Nat} (hD : 1 ≤ d) {σ : az_Hp} {v0 v1 : Int} {r : Int} (h : fz_X8_isBound σ v0 v1 = some r) : az_AC l yX8_isBound cX8_isBound 2 (some .boolean) d [(10, v0), (0, v1)] σ (some (0, r), σ) := az_AC.of mt_X8_isBound rfl rfl rfl (fun Z hZ C => A_X8_isBound_e C hD h)
theorem dX8_expand_0 : decode cX8_expand 0 = .ok (.aload_n 2, 1) := by decide +kernel
theorem dX8_expand_1 : decode cX8_expand 1 = .ok (.iconst 0, 1) := by decide +kernel
theorem dX8_expand_2 : decode cX8_expand 2 = .ok (.putfield 138, 3) := by decide +kernel
theorem dX8_expand_5 : decode cX8_expand 5 = .ok (.aload_n 0, 1) := by decide +kernel
theorem dX8_expand_6 : decode cX8_expand 6 = .ok (.getfield 59, 3) := by decide +kernel
theorem dX8_expand_9 : decode cX8_expand 9 = .ok (.iconst 0, 1) := by decide +kernel
theorem dX8_expand_10 : decode cX8_expand 10 = .ok (.aload_n 1, 1) := by decide +kernel
theorem dX8_expand_11 : decode cX8_expand 11 = .ok (.aastore, 1) := by decide +kernel
theorem dX8_expand_12 : decode cX8_expand 12 = .ok (.aload_n 0, 1) := by decide +kernel
theorem dX8_expand_13 : decode cX8_expand 13 = .ok (.getfield 62, 3) := by decide +kernel
theorem dX8_expand_16 : decode cX8_expand 16 = .ok (.iconst 0, 1) := by decide +kernel
theorem dX8_expand_17 : decode cX8_expand 17 = .ok (.iconst 0, 1) := by decide +kernel
theorem dX8_expand_18 : decode cX8_expand 18 = .ok (.iastore, 1) := by decide +kernel
theorem dX8_expand_19 : decode cX8_expand 19 = .ok (.iconst 1, 1) := by decide +kernel
theorem dX8_expand_20 : decode cX8_expand 20 = .ok (.istore_n 3, 1) := by decide +kernel
theorem dX8_expand_21 : decode cX8_expand 21 = .ok (.iconst 0, 1) := by decide +kernel
theorem dX8_expand_22 : decode cX8_expand 22 = .ok (.istore 4, 2) := by decide +kernel
theorem dX8_expand_24 : decode cX8_expand 24 = .ok (.iload 4, 2) := by decide +kernel
theorem dX8_expand_26 : decode cX8_expand 26 = .ok (.ldc 156, 2) := by decide +kernel
theorem dX8_expand_28 : decode cX8_expand 28 = .ok (.if_icmp .ge 161, 3) := by decide +kernel
theorem dX8_expand_31 : decode cX8_expand 31 = .ok (.iload_n 3, 1) := by decide +kernel
theorem dX8_expand_32 : decode cX8_expand 32 = .ok (.ifCond .le 157, 3) := by decide +kernel
theorem dX8_expand_35 : decode cX8_expand 35 = .ok (.aload_n 0, 1) := by decide +kernel
theorem dX8_expand_36 : decode cX8_expand 36 = .ok (.getfield 59, 3) := by decide +kernel
theorem dX8_expand_39 : decode cX8_expand 39 = .ok (.iload_n 3, 1) := by decide +kernel
theorem dX8_expand_40 : decode cX8_expand 40 = .ok (.iconst 1, 1) := by decide +kernel
theorem dX8_expand_41 : decode cX8_expand 41 = .ok (.isub, 1) := by decide +kernel
theorem dX8_expand_42 : decode cX8_expand 42 = .ok (.aaload, 1) := by decide +kernel
theorem dX8_expand_43 : decode cX8_expand 43 = .ok (.astore 5, 2) := by decide +kernel
theorem dX8_expand_45 : decode cX8_expand 45 = .ok (.aload_n 0, 1) := by decide +kernel
theorem dX8_expand_46 : decode cX8_expand 46 = .ok (.getfield 62, 3) := by decide +kernel
theorem dX8_expand_49 : decode cX8_expand 49 = .ok (.iload_n 3, 1) := by decide +kernel
theorem dX8_expand_50 : decode cX8_expand 50 = .ok (.iconst 1, 1) := by decide +kernel
theorem dX8_expand_51 : decode cX8_expand 51 = .ok (.isub, 1) := by decide +kernel
theorem dX8_expand_52 : decode cX8_expand 52 = .ok (.iaload, 1) := by decide +kernel
theorem dX8_expand_53 : decode cX8_expand 53 = .ok (.istore 6, 2) := by decide +kernel
theorem dX8_expand_55 : decode cX8_expand 55 = .ok (.iload 6, 2) := by decide +kernel
theorem dX8_expand_57 : decode cX8_expand 57 = .ok (.aload 5, 2) := by decide +kernel
theorem dX8_expand_59 : decode cX8_expand 59 = .ok (.getfield 138, 3) := by decide +kernel
theorem dX8_expand_62 : decode cX8_expand 62 = .ok (.if_icmp .lt 9, 3) := by decide +kernel
theorem dX8_expand_65 : decode cX8_expand 65 = .ok (.iinc 3 (-1), 3) := by decide +kernel
theorem dX8_expand_68 : decode cX8_expand 68 = .ok (.goto 115, 3) := by decide +kernel
theorem dX8_expand_71 : decode cX8_expand 71 = .ok (.aload_n 0, 1) := by decide +kernel
theorem dX8_expand_72 : decode cX8_expand 72 = .ok (.getfield 62, 3) := by decide +kernel
theorem dX8_expand_75 : decode cX8_expand 75 = .ok (.iload_n 3, 1) := by decide +kernel
theorem dX8_expand_76 : decode cX8_expand 76 = .ok (.iconst 1, 1) := by decide +kernel
theorem dX8_expand_77 : decode cX8_expand 77 = .ok (.isub, 1) := by decide +kernel
theorem dX8_expand_78 : decode cX8_expand 78 = .ok (.dup2, 1) := by decide +kernel
theorem dX8_expand_79 : decode cX8_expand 79 = .ok (.iaload, 1) := by decide +kernel
theorem dX8_expand_80 : decode cX8_expand 80 = .ok (.iconst 1, 1) := by decide +kernel
theorem dX8_expand_81 : decode cX8_expand 81 = .ok (.iadd, 1) := by decide +kernel
theorem dX8_expand_82 : decode cX8_expand 82 = .ok (.iastore, 1) := by decide +kernel
theorem dX8_expand_83 : decode cX8_expand 83 = .ok (.aload 5, 2) := by decide +kernel
theorem dX8_expand_85 : decode cX8_expand 85 = .ok (.getfield 116, 3) := by decide +kernel
theorem dX8_expand_88 : decode cX8_expand 88 = .ok (.iload 6, 2) := by decide +kernel
theorem dX8_expand_90 : decode cX8_expand 90 = .ok (.iaload, 1) := by decide +kernel
theorem dX8_expand_91 : decode cX8_expand 91 = .ok (.istore 7, 2) := by decide +kernel
theorem dX8_expand_93 : decode cX8_expand 93 = .ok (.iload 7, 2) := by decide +kernel
theorem dX8_expand_95 : decode cX8_expand 95 = .ok (.invokestatic 129, 3) := by decide +kernel
theorem dX8_expand_98 : decode cX8_expand 98 = .ok (.istore 8, 2) := by decide +kernel
theorem dX8_expand_100 : decode cX8_expand 100 = .ok (.iload 7, 2) := by decide +kernel
theorem dX8_expand_102 : decode cX8_expand 102 = .ok (.invokestatic 119, 3) := by decide +kernel
theorem dX8_expand_105 : decode cX8_expand 105 = .ok (.iconst 3, 1) := by decide +kernel
theorem dX8_expand_106 : decode cX8_expand 106 = .ok (.if_icmp .ne 23, 3) := by decide +kernel
theorem dX8_expand_109 : decode cX8_expand 109 = .ok (.iload 8, 2) := by decide +kernel
theorem dX8_expand_111 : decode cX8_expand 111 = .ok (.bipush 6, 2) := by decide +kernel
theorem dX8_expand_113 : decode cX8_expand 113 = .ok (.if_icmp .ge 16, 3) := by decide +kernel
theorem dX8_expand_116 : decode cX8_expand 116 = .ok (.aload_n 0, 1) := by decide +kernel
theorem dX8_expand_117 : decode cX8_expand 117 = .ok (.iload 8, 2) := by decide +kernel
theorem dX8_expand_119 : decode cX8_expand 119 = .ok (.invokevirtual 157, 3) := by decide +kernel
theorem dX8_expand_122 : decode cX8_expand 122 = .ok (.ifCond .eq 7, 3) := by decide +kernel
theorem dX8_expand_125 : decode cX8_expand 125 = .ok (.iconst 1, 1) := by decide +kernel
theorem dX8_expand_126 : decode cX8_expand 126 = .ok (.goto 4, 3) := by decide +kernel
theorem dX8_expand_129 : decode cX8_expand 129 = .ok (.iconst 0, 1) := by decide +kernel
theorem dX8_expand_130 : decode cX8_expand 130 = .ok (.istore 9, 2) := by decide +kernel
theorem dX8_expand_132 : decode cX8_expand 132 = .ok (.iload 9, 2) := by decide +kernel
theorem dX8_expand_134 : decode cX8_expand 134 = .ok (.ifCond .eq 38, 3) := by decide +kernel
theorem dX8_expand_137 : decode cX8_expand 137 = .ok (.iload_n 3, 1) := by decide +kernel
theorem dX8_expand_138 : decode cX8_expand 138 = .ok (.aload_n 0, 1) := by decide +kernel
theorem dX8_expand_139 : decode cX8_expand 139 = .ok (.getfield 59, 3) := by decide +kernel
theorem dX8_expand_142 : decode cX8_expand 142 = .ok (.arraylength, 1) := by decide +kernel
theorem dX8_expand_143 : decode cX8_expand 143 = .ok (.if_icmp .ge 29, 3) := by decide +kernel
theorem dX8_expand_146 : decode cX8_expand 146 = .ok (.aload_n 0, 1) := by decide +kernel
theorem dX8_expand_147 : decode cX8_expand 147 = .ok (.getfield 59, 3) := by decide +kernel
theorem dX8_expand_150 : decode cX8_expand 150 = .ok (.iload_n 3, 1) := by decide +kernel
theorem dX8_expand_151 : decode cX8_expand 151 = .ok (.aload_n 0, 1) := by decide +kernel
theorem dX8_expand_152 : decode cX8_expand 152 = .ok (.getfield 40, 3) := by decide +kernel
theorem dX8_expand_155 : decode cX8_expand 155 = .ok (.iload 8, 2) := by decide +kernel
theorem dX8_expand_157 : decode cX8_expand 157 = .ok (.aaload, 1) := by decide +kernel
theorem dX8_expand_158 : decode cX8_expand 158 = .ok (.aastore, 1) := by decide +kernel
theorem dX8_expand_159 : decode cX8_expand 159 = .ok (.aload_n 0, 1) := by decide +kernel
theorem dX8_expand_160 : decode cX8_expand 160 = .ok (.getfield 62, 3) := by decide +kernel
theorem dX8_expand_163 : decode cX8_expand 163 = .ok (.iload_n 3, 1) := by decide +kernel
theorem dX8_expand_164 : decode cX8_expand 164 = .ok (.iconst 0, 1) := by decide +kernel
theorem dX8_expand_165 : decode cX8_expand 165 = .ok (.iastore, 1) := by decide +kernel
theorem dX8_expand_166 : decode cX8_expand 166 = .ok (.iinc 3 1, 3) := by decide +kernel
theorem dX8_expand_169 : decode cX8_expand 169 = .ok (.goto 14, 3) := by decide +kernel
theorem dX8_expand_172 : decode cX8_expand 172 = .ok (.aload_n 2, 1) := by decide +kernel
theorem dX8_expand_173 : decode cX8_expand 173 = .ok (.iload 7, 2) := by decide +kernel
theorem dX8_expand_175 : decode cX8_expand 175 = .ok (.invokevirtual 160, 3) := by decide +kernel
theorem dX8_expand_178 : decode cX8_expand 178 = .ok (.ifCond .ne 5, 3) := by decide +kernel
theorem dX8_expand_181 : decode cX8_expand 181 = .ok (.iconst 0, 1) := by decide +kernel
theorem dX8_expand_182 : decode cX8_expand 182 = .ok (.ireturn, 1) := by decide +kernel
theorem dX8_expand_183 : decode cX8_expand 183 = .ok (.iinc 4 1, 3) := by decide +kernel
theorem dX8_expand_186 : decode cX8_expand 186 = .ok (.goto (-162), 3) := by decide +kernel
theorem dX8_expand_189 : decode cX8_expand 189 = .ok (.iconst 1, 1) := by decide +kernel
theorem dX8_expand_190 : decode cX8_expand 190 = .ok (.ireturn, 1) := by decide +kernel
set_option maxRecDepth 10000 in
set_option maxHeartbeats 4000000 in
theorem A_X8_expand_172 {Z : az_Z} {d : Nat} (C : az_C Z yX8_expand cX8_expand 10 (some .boolean) d) (hD : 2 ≤ d) (n : Nat) {k24 : az_Hp → Int → Int → Int → Int → Option (Int × az_Hp)} (hk24 : ∀ {σ : az_Hp} {v0 v2 v3 v4 : Int} {r : (Int × az_Hp)}, k24 σ v0 v2 v3 v4 = some r → az_AW Z 10 24 [(10, v0), (31, 0), (9, v2), (0, v3), (0, v4), (31, 0), (31, 0), (31, 0), (31, 0), (31, 0)] [] σ (some (0, r.1), r.2)) {σ : az_Hp} {v0 v2 v3 v4 v7 : Int} {r : (Int × az_Hp)} (h : fz_X8_expand_172 n k24 σ v0 v2 v3 v4 v7 = some r) : az_AW Z 10 172 [(10, v0), (31, 0), (9, v2), (0, v3), (0, v4), (31, 0), (31, 0), (0, v7), (31, 0), (31, 0)] [] σ (some (0, r.1), r.2) := by
  have hd1 : 1 ≤ d := by omega
  unfold fz_X8_expand_172 at h
  refine az_al2 (pc := 172) C rfl rfl dX8_expand_172 ?_
  refine az_il7 (pc := 173) C dX8_expand_173 ?_
  refine az_cV1ii (pc := 175) (c := 7) C hd1 h mv_X7_add ml_X8_160 rfl (fun x hx => A_X7_add (by omega) hx) dX8_expand_175 (fun r1 h => ?_)
  refine az_if_ne (pc := 178) (tgt := 183) C h dX8_expand_178 (by decide) (fun _ h => ?_) (fun _ h => ?_)
  · refine az_ii4 (pc := 183) C az_n1 rfl rfl dX8_expand_183 ?_
    refine az_goto (pc := 186) (tgt := 24) C dX8_expand_186 (by decide) ?_
    exact (az_wkk (hk24 h) (az_sE (az_sJ (az_sE (az_sE (az_sE (az_sJ (az_sJ (az_sJ (az_sJ (az_sJ az_sN)))))))))))
  refine az_ik0 (pc := 181) C dX8_expand_181 ?_
  obtain rfl := Option.some.inj h
  exact az_zreturn (pc := 182) C (by decide) dX8_expand_182 rfl
set_option maxRecDepth 10000 in
set_option maxHeartbeats 4000000 in
theorem A_X8_expand_130 {Z : az_Z} {d : Nat} (C : az_C Z yX8_expand cX8_expand 10 (some .boolean) d) (hD : 2 ≤ d) (n : Nat) {k24 : az_Hp → Int → Int → Int → Int → Option (Int × az_Hp)} (hk24 : ∀ {σ : az_Hp} {v0 v2 v3 v4 : Int} {r : (Int × az_Hp)}, k24 σ v0 v2 v3 v4 = some r → az_AW Z 10 24 [(10, v0), (31, 0), (9, v2), (0, v3), (0, v4), (31, 0), (31, 0), (31, 0), (31, 0), (31, 0)] [] σ (some (0, r.1), r.2)) {σ : az_Hp} {v0 v2 v3 v4 v7 v8 w0 : Int} {r : (Int × az_Hp)} (h : fz_X8_expand_130 n k24 σ v0 v2 v3 v4 v7 v8 w0 = some r) : az_AW Z 10 130 [(10, v0), (31, 0), (9, v2), (0, v3), (0, v4), (31, 0), (31, 0), (0, v7), (0, v8), (31, 0)] [(0, w0)] σ (some (0, r.1), r.2) := by
  have hd1 : 1 ≤ d := by omega
  unfold fz_X8_expand_130 at h
  refine az_is9 (pc := 130) C rfl rfl dX8_expand_130 ?_
  refine az_il9 (pc := 132) C dX8_expand_132 ?_
  refine az_if_eq (pc := 134) (tgt := 172) C h dX8_expand_134 (by decide) (fun _ h => ?_) (fun _ h => ?_)
  · exact (az_wkk (A_X8_expand_172 C hD n (fun h => hk24 h) h) (az_sE (az_sJ (az_sE (az_sE (az_sE (az_sJ (az_sJ (az_sE (az_sJ (az_sJ az_sN)))))))))))
  refine az_il3 (pc := 137) C dX8_expand_137 ?_
  refine az_al0 (pc := 138) C rfl rfl dX8_expand_138 ?_
  refine az_getR (pc := 139) (c2 := 16) C h fl_X8_59 rfl rfl dX8_expand_139 (fun h => ?_)
  refine az_arraylength (pc := 142) (k := 16) C rfl rfl dX8_expand_142 ?_
  refine az_icmp_ge (pc := 143) (tgt := 172) C h dX8_expand_143 (by decide) (fun _ h => ?_) (fun _ h => ?_)
  · exact (az_wkk (A_X8_expand_172 C hD n (fun h => hk24 h) h) (az_sE (az_sJ (az_sE (az_sE (az_sE (az_sJ (az_sJ (az_sE (az_sJ (az_sJ az_sN)))))))))))
  refine az_al0 (pc := 146) C rfl rfl dX8_expand_146 ?_
  refine az_getR (pc := 147) (c2 := 16) C h fl_X8_59 rfl rfl dX8_expand_147 (fun h => ?_)
  refine az_il3 (pc := 150) C dX8_expand_150 ?_
  refine az_al0 (pc := 151) C rfl rfl dX8_expand_151 ?_
  refine az_getR (pc := 152) (c2 := 16) C h fl_X8_40 rfl rfl dX8_expand_152 (fun h => ?_)
  refine az_il8 (pc := 155) C dX8_expand_155 ?_
  refine az_aaload (pc := 157) C h dX8_expand_157 (fun h => ?_)
  refine az_aastore (pc := 158) C h dX8_expand_158 (fun h => ?_)
  refine az_al0 (pc := 159) C rfl rfl dX8_expand_159 ?_
  refine az_getR (pc := 160) (c2 := 13) C h fl_X8_62 rfl rfl dX8_expand_160 (fun h => ?_)
  refine az_il3 (pc := 163) C dX8_expand_163 ?_
  refine az_ik0 (pc := 164) C dX8_expand_164 ?_
  refine az_iastore (pc := 165) C h dX8_expand_165 (fun h => ?_)
  refine az_ii3 (pc := 166) C az_n1 rfl rfl dX8_expand_166 ?_
  refine az_goto (pc := 169) (tgt := 183) C dX8_expand_169 (by decide) ?_
  refine az_ii4 (pc := 183) C az_n1 rfl rfl dX8_expand_183 ?_
  refine az_goto (pc := 186) (tgt := 24) C dX8_expand_186 (by decide) ?_
  exact (az_wkk (hk24 h) (az_sE (az_sJ (az_sE (az_sE (az_sE (az_sJ (az_sJ (az_sJ (az_sJ (az_sJ az_sN)))))))))))
set_option maxRecDepth 10000 in
set_option maxHeartbeats 4000000 in
theorem A_X8_expand_24 {Z : az_Z} {d : Nat} (C : az_C Z yX8_expand cX8_expand 10 (some .boolean) d) (hD : 2 ≤ d) (n : Nat) (k : Nat) : ∀ {σ : az_Hp} {v0 v2 v3 v4 : Int} {r : (Int × az_Hp)}, fz_X8_expand_24 n k σ v0 v2 v3 v4 = some r → az_AW Z 10 24 [(10, v0), (31, 0), (9, v2), (0, v3), (0, v4), (31, 0), (31, 0), (31, 0), (31, 0), (31, 0)] [] σ (some (0, r.1), r.2) := by
  have hd1 : 1 ≤ d := by omega
  induction k with
  | zero => intro σ v0 v2 v3 v4 r h; simp [fz_X8_expand_24] at h
  | succ k ih =>
    intro σ v0 v2 v3 v4 r h
    unfold fz_X8_expand_24 at h
    refine az_il4 (pc := 24) C dX8_expand_24 ?_
    refine az_ldc (pc := 26) (x := 1000000) C ct_X8_156 dX8_expand_26 (by decide) ?_
    refine az_icmp_ge (pc := 28) (tgt := 189) C h dX8_expand_28 (by decide) (fun _ h => ?_) (fun _ h => ?_)
    · refine az_ik1 (pc := 189) C dX8_expand_189 ?_
      obtain rfl := Option.some.inj h
      exact az_zreturn (pc := 190) C (by decide) dX8_expand_190 rfl
    refine az_il3 (pc := 31) C dX8_expand_31 ?_
    refine az_if_le (pc := 32) (tgt := 189) C h dX8_expand_32 (by decide) (fun _ h => ?_) (fun _ h => ?_)
    · refine az_ik1 (pc := 189) C dX8_expand_189 ?_
      obtain rfl := Option.some.inj h
      exact az_zreturn (pc := 190) C (by decide) dX8_expand_190 rfl
    refine az_al0 (pc := 35) C rfl rfl dX8_expand_35 ?_
    refine az_getR (pc := 36) (c2 := 16) C h fl_X8_59 rfl rfl dX8_expand_36 (fun h => ?_)
    refine az_il3 (pc := 39) C dX8_expand_39 ?_
    refine az_ik1 (pc := 40) C dX8_expand_40 ?_
    refine az_isub (pc := 41) C dX8_expand_41 ?_
    refine az_aaload (pc := 42) C h dX8_expand_42 (fun h => ?_)
    refine az_as5 (pc := 43) C rfl rfl rfl rfl dX8_expand_43 ?_
    refine az_al0 (pc := 45) C rfl rfl dX8_expand_45 ?_
    refine az_getR (pc := 46) (c2 := 13) C h fl_X8_62 rfl rfl dX8_expand_46 (fun h => ?_)
    refine az_il3 (pc := 49) C dX8_expand_49 ?_
    refine az_ik1 (pc := 50) C dX8_expand_50 ?_
    refine az_isub (pc := 51) C dX8_expand_51 ?_
    refine az_iaload (pc := 52) C h dX8_expand_52 (fun h => ?_)
    refine az_is6 (pc := 53) C rfl rfl dX8_expand_53 ?_
    refine az_il6 (pc := 55) C dX8_expand_55 ?_
    refine az_al5 (pc := 57) C rfl rfl dX8_expand_57 ?_
    refine az_getI (pc := 59) C fl_X8_138 rfl dX8_expand_59 ?_
    refine az_icmp_lt (pc := 62) (tgt := 71) C h dX8_expand_62 (by decide) (fun _ h => ?_) (fun _ h => ?_)
    · refine az_al0 (pc := 71) C rfl rfl dX8_expand_71 ?_
      refine az_getR (pc := 72) (c2 := 13) C h fl_X8_62 rfl rfl dX8_expand_72 (fun h => ?_)
      refine az_il3 (pc := 75) C dX8_expand_75 ?_
      refine az_ik1 (pc := 76) C dX8_expand_76 ?_
      refine az_isub (pc := 77) C dX8_expand_77 ?_
      refine az_dup2 (pc := 78) C rfl rfl rfl rfl dX8_expand_78 ?_
      refine az_iaload (pc := 79) C h dX8_expand_79 (fun h => ?_)
      refine az_ik1 (pc := 80) C dX8_expand_80 ?_
      refine az_iadd (pc := 81) C dX8_expand_81 ?_
      refine az_iastore (pc := 82) C h dX8_expand_82 (fun h => ?_)
      refine az_al5 (pc := 83) C rfl rfl dX8_expand_83 ?_
      refine az_getR (pc := 85) (c2 := 13) C h fl_X8_116 rfl rfl dX8_expand_85 (fun h => ?_)
      refine az_il6 (pc := 88) C dX8_expand_88 ?_
      refine az_iaload (pc := 90) C h dX8_expand_90 (fun h => ?_)
      refine az_is7 (pc := 91) C rfl rfl dX8_expand_91 ?_
      refine az_il7 (pc := 93) C dX8_expand_93 ?_
      refine az_cS1pi (pc := 95) C hd1 h ms_X7_number ml_X8_129 rfl (fun x hx => A_X7_number (by omega) hx) dX8_expand_95 (fun r10 h => ?_)
      refine az_is8 (pc := 98) C rfl rfl dX8_expand_98 ?_
      refine az_il7 (pc := 100) C dX8_expand_100 ?_
      refine az_cS1pi (pc := 102) C hd1 h ms_X7_kind ml_X8_119 rfl (fun x hx => A_X7_kind (by omega) hx) dX8_expand_102 (fun r11 h => ?_)
      refine az_ik3 (pc := 105) C dX8_expand_105 ?_
      refine az_icmp_ne (pc := 106) (tgt := 129) C h dX8_expand_106 (by decide) (fun _ h => ?_) (fun _ h => ?_)
      · refine az_ik0 (pc := 129) C dX8_expand_129 ?_
        exact (az_wkk (A_X8_expand_130 C hD n (fun h => ih h) h) (az_sE (az_sJ (az_sE (az_sE (az_sE (az_sJ (az_sJ (az_sE (az_sE (az_sJ az_sN)))))))))))
      refine az_il8 (pc := 109) C dX8_expand_109 ?_
      refine az_bk6 (pc := 111) C dX8_expand_111 ?_
      refine az_icmp_ge (pc := 113) (tgt := 129) C h dX8_expand_113 (by decide) (fun _ h => ?_) (fun _ h => ?_)
      · refine az_ik0 (pc := 129) C dX8_expand_129 ?_
        exact (az_wkk (A_X8_expand_130 C hD n (fun h => ih h) h) (az_sE (az_sJ (az_sE (az_sE (az_sE (az_sJ (az_sJ (az_sE (az_sE (az_sJ az_sN)))))))))))
      refine az_al0 (pc := 116) C rfl rfl dX8_expand_116 ?_
      refine az_il8 (pc := 117) C dX8_expand_117 ?_
      refine az_cV1pi (pc := 119) (c := 8) C hd1 h mv_X8_isBound ml_X8_157 rfl (fun x hx => A_X8_isBound (by omega) hx) dX8_expand_119 (fun r12 h => ?_)
      refine az_if_eq (pc := 122) (tgt := 129) C h dX8_expand_122 (by decide) (fun _ h => ?_) (fun _ h => ?_)
      · refine az_ik0 (pc := 129) C dX8_expand_129 ?_
        exact (az_wkk (A_X8_expand_130 C hD n (fun h => ih h) h) (az_sE (az_sJ (az_sE (az_sE (az_sE (az_sJ (az_sJ (az_sE (az_sE (az_sJ az_sN)))))))))))
      refine az_ik1 (pc := 125) C dX8_expand_125 ?_
      refine az_goto (pc := 126) (tgt := 130) C dX8_expand_126 (by decide) ?_
      exact (az_wkk (A_X8_expand_130 C hD n (fun h => ih h) h) (az_sE (az_sJ (az_sE (az_sE (az_sE (az_sJ (az_sJ (az_sE (az_sE (az_sJ az_sN)))))))))))
    refine az_ii3 (pc := 65) C az_nm1 rfl rfl dX8_expand_65 ?_
    refine az_goto (pc := 68) (tgt := 183) C dX8_expand_68 (by decide) ?_
    refine az_ii4 (pc := 183) C az_n1 rfl rfl dX8_expand_183 ?_
    refine az_goto (pc := 186) (tgt := 24) C dX8_expand_186 (by decide) ?_
    exact (az_wkk (ih h) (az_sE (az_sJ (az_sE (az_sE (az_sE (az_sJ (az_sJ (az_sJ (az_sJ (az_sJ az_sN)))))))))))
set_option maxRecDepth 10000 in
set_option maxHeartbeats 4000000 in
theorem A_X8_expand_e {Z : az_Z} {d : Nat} (C : az_C Z yX8_expand cX8_expand 10 (some .boolean) d) (hD : 2 ≤ d) (n : Nat) {σ : az_Hp} {v0 v1 v2 : Int} {r : (Int × az_Hp)} (h : fz_X8_expand n σ v0 v1 v2 = some r) : az_AW Z 10 0 [(10, v0), (9, v1), (9, v2), (31, 0), (31, 0), (31, 0), (31, 0), (31, 0), (31, 0), (31, 0)] [] σ (some (0, r.1), r.2) := by
  have hd1 : 1 ≤ d := by omega
  unfold fz_X8_expand at h
  refine az_al2 (pc := 0) C rfl rfl dX8_expand_0 ?_
  refine az_ik0 (pc := 1) C dX8_expand_1 ?_
  refine az_putI (pc := 2) C fl_X8_138 (Or.inl rfl) rfl dX8_expand_2 ?_
  refine az_al0 (pc := 5) C rfl rfl dX8_expand_5 ?_
  refine az_getR (pc := 6) (c2 := 16) C h fl_X8_59 rfl rfl dX8_expand_6 (fun h => ?_)
  refine az_ik0 (pc := 9) C dX8_expand_9 ?_
  refine az_al1 (pc := 10) C rfl rfl dX8_expand_10 ?_
  refine az_aastore (pc := 11) C h dX8_expand_11 (fun h => ?_)
  refine az_al0 (pc := 12) C rfl rfl dX8_expand_12 ?_
  refine az_getR (pc := 13) (c2 := 13) C h fl_X8_62 rfl rfl dX8_expand_13 (fun h => ?_)
  refine az_ik0 (pc := 16) C dX8_expand_16 ?_
  refine az_ik0 (pc := 17) C dX8_expand_17 ?_
  refine az_iastore (pc := 18) C h dX8_expand_18 (fun h => ?_)
  refine az_ik1 (pc := 19) C dX8_expand_19 ?_
  refine az_is3 (pc := 20) C rfl rfl dX8_expand_20 ?_
  refine az_ik0 (pc := 21) C dX8_expand_21 ?_
  refine az_is4 (pc := 22) C rfl rfl dX8_expand_22 ?_
  exact (az_wkk (A_X8_expand_24 C hD n n h) (az_sE (az_sJ (az_sE (az_sE (az_sE (az_sJ (az_sJ (az_sJ (az_sJ (az_sJ az_sN)))))))))))
set_option maxRecDepth 10000 in
set_option maxHeartbeats 4000000 in
theorem A_X8_expand {l : Launch} {d : Nat} (hD : 2 ≤ d) (n : Nat) {σ : az_Hp} {v0 v1 v2 : Int} {r : (Int × az_Hp)} (h : fz_X8_expand n σ v0 v1 v2 = some r) : az_AC l yX8_expand cX8_expand 10 (some .boolean) d [(10, v0), (9, v1), (9, v2)] σ (some (0, r.1), r.2) := az_AC.of mt_X8_expand rfl rfl rfl (fun Z hZ C => A_X8_expand_e C hD n h)
theorem dX10_unknown_0 : decode cX10_unknown 0 = .ok (.iload_n 1, 1) := by decide +kernel
theorem dX10_unknown_1 : decode cX10_unknown 1 = .ok (.ifCond .lt 14, 3) := by decide +kernel
theorem dX10_unknown_4 : decode cX10_unknown 4 = .ok (.iload_n 1, 1) := by decide +kernel
theorem dX10_unknown_5 : decode cX10_unknown 5 = .ok (.aload_n 0, 1) := by decide +kernel
theorem dX10_unknown_6 : decode cX10_unknown 6 = .ok (.getfield 98, 3) := by decide +kernel
theorem dX10_unknown_9 : decode cX10_unknown 9 = .ok (.getfield 352, 3) := by decide +kernel
theorem dX10_unknown_12 : decode cX10_unknown 12 = .ok (.if_icmp .lt 9, 3) := by decide +kernel
theorem dX10_unknown_15 : decode cX10_unknown 15 = .ok (.aload_n 0, 1) := by decide +kernel
theorem dX10_unknown_16 : decode cX10_unknown 16 = .ok (.iconst 2, 1) := by decide +kernel
theorem dX10_unknown_17 : decode cX10_unknown 17 = .ok (.invokevirtual 112, 3) := by decide +kernel
theorem dX10_unknown_20 : decode cX10_unknown 20 = .ok (.ireturn, 1) := by decide +kernel
theorem dX10_unknown_21 : decode cX10_unknown 21 = .ok (.aload_n 0, 1) := by decide +kernel
theorem dX10_unknown_22 : decode cX10_unknown 22 = .ok (.getfield 98, 3) := by decide +kernel
theorem dX10_unknown_25 : decode cX10_unknown 25 = .ok (.iload_n 1, 1) := by decide +kernel
theorem dX10_unknown_26 : decode cX10_unknown 26 = .ok (.invokevirtual 358, 3) := by decide +kernel
theorem dX10_unknown_29 : decode cX10_unknown 29 = .ok (.ifCond .ne 9, 3) := by decide +kernel
theorem dX10_unknown_32 : decode cX10_unknown 32 = .ok (.aload_n 0, 1) := by decide +kernel
theorem dX10_unknown_33 : decode cX10_unknown 33 = .ok (.iconst 5, 1) := by decide +kernel
theorem dX10_unknown_34 : decode cX10_unknown 34 = .ok (.invokevirtual 112, 3) := by decide +kernel
theorem dX10_unknown_37 : decode cX10_unknown 37 = .ok (.ireturn, 1) := by decide +kernel
theorem dX10_unknown_38 : decode cX10_unknown 38 = .ok (.aload_n 0, 1) := by decide +kernel
theorem dX10_unknown_39 : decode cX10_unknown 39 = .ok (.getfield 98, 3) := by decide +kernel
theorem dX10_unknown_42 : decode cX10_unknown 42 = .ok (.aload_n 0, 1) := by decide +kernel
theorem dX10_unknown_43 : decode cX10_unknown 43 = .ok (.getfield 98, 3) := by decide +kernel
theorem dX10_unknown_46 : decode cX10_unknown 46 = .ok (.getfield 361, 3) := by decide +kernel
theorem dX10_unknown_49 : decode cX10_unknown 49 = .ok (.iload_n 1, 1) := by decide +kernel
theorem dX10_unknown_50 : decode cX10_unknown 50 = .ok (.aaload, 1) := by decide +kernel
theorem dX10_unknown_51 : decode cX10_unknown 51 = .ok (.aload_n 0, 1) := by decide +kernel
theorem dX10_unknown_52 : decode cX10_unknown 52 = .ok (.getfield 86, 3) := by decide +kernel
theorem dX10_unknown_55 : decode cX10_unknown 55 = .ok (.invokevirtual 364, 3) := by decide +kernel
theorem dX10_unknown_58 : decode cX10_unknown 58 = .ok (.ifCond .ne 10, 3) := by decide +kernel
theorem dX10_unknown_61 : decode cX10_unknown 61 = .ok (.aload_n 0, 1) := by decide +kernel
theorem dX10_unknown_62 : decode cX10_unknown 62 = .ok (.bipush 6, 2) := by decide +kernel
theorem dX10_unknown_64 : decode cX10_unknown 64 = .ok (.invokevirtual 112, 3) := by decide +kernel
theorem dX10_unknown_67 : decode cX10_unknown 67 = .ok (.ireturn, 1) := by decide +kernel
theorem dX10_unknown_68 : decode cX10_unknown 68 = .ok (.aload_n 0, 1) := by decide +kernel
theorem dX10_unknown_69 : decode cX10_unknown 69 = .ok (.getfield 105, 3) := by decide +kernel
theorem dX10_unknown_72 : decode cX10_unknown 72 = .ok (.iconst 0, 1) := by decide +kernel
theorem dX10_unknown_73 : decode cX10_unknown 73 = .ok (.putfield 216, 3) := by decide +kernel
theorem dX10_unknown_76 : decode cX10_unknown 76 = .ok (.aload_n 0, 1) := by decide +kernel
theorem dX10_unknown_77 : decode cX10_unknown 77 = .ok (.getfield 105, 3) := by decide +kernel
theorem dX10_unknown_80 : decode cX10_unknown 80 = .ok (.aload_n 0, 1) := by decide +kernel
theorem dX10_unknown_81 : decode cX10_unknown 81 = .ok (.getfield 86, 3) := by decide +kernel
theorem dX10_unknown_84 : decode cX10_unknown 84 = .ok (.aload_n 0, 1) := by decide +kernel
theorem dX10_unknown_85 : decode cX10_unknown 85 = .ok (.getfield 29, 3) := by decide +kernel
theorem dX10_unknown_88 : decode cX10_unknown 88 = .ok (.aload_n 0, 1) := by decide +kernel
theorem dX10_unknown_89 : decode cX10_unknown 89 = .ok (.getfield 98, 3) := by decide +kernel
theorem dX10_unknown_92 : decode cX10_unknown 92 = .ok (.getfield 313, 3) := by decide +kernel
theorem dX10_unknown_95 : decode cX10_unknown 95 = .ok (.invokevirtual 314, 3) := by decide +kernel
theorem dX10_unknown_98 : decode cX10_unknown 98 = .ok (.aload_n 0, 1) := by decide +kernel
theorem dX10_unknown_99 : decode cX10_unknown 99 = .ok (.aload_n 0, 1) := by decide +kernel
theorem dX10_unknown_100 : decode cX10_unknown 100 = .ok (.getfield 105, 3) := by decide +kernel
theorem dX10_unknown_103 : decode cX10_unknown 103 = .ok (.getfield 216, 3) := by decide +kernel
theorem dX10_unknown_106 : decode cX10_unknown 106 = .ok (.invokevirtual 138, 3) := by decide +kernel
theorem dX10_unknown_109 : decode cX10_unknown 109 = .ok (.ireturn, 1) := by decide +kernel
set_option maxRecDepth 10000 in
set_option maxHeartbeats 4000000 in
theorem A_X10_unknown_e {Z : az_Z} {d : Nat} (C : az_C Z yX10_unknown cX10_unknown 2 (some .int) d) (hD : 6 ≤ d) (n : Nat) {σ : az_Hp} {v0 v1 : Int} {r : (Int × az_Hp)} (h : fz_X10_unknown n σ v0 v1 = some r) : az_AW Z 2 0 [(12, v0), (0, v1)] [] σ (some (0, r.1), r.2) := by
  have hd1 : 1 ≤ d := by omega
  unfold fz_X10_unknown at h
  refine az_il1 (pc := 0) C dX10_unknown_0 ?_
  refine az_if_lt (pc := 1) (tgt := 15) C h dX10_unknown_1 (by decide) (fun _ h => ?_) (fun _ h => ?_)
  · refine az_al0 (pc := 15) C rfl rfl dX10_unknown_15 ?_
    refine az_ik2 (pc := 16) C dX10_unknown_16 ?_
    refine az_cV1ii (pc := 17) (c := 10) C hd1 h mv_X10_refuse ml_X10_112 rfl (fun x hx => A_X10_refuse (by omega) hx) dX10_unknown_17 (fun r1 h => ?_)
    obtain rfl := Option.some.inj h
    exact az_ireturn (pc := 20) C dX10_unknown_20 rfl
  refine az_il1 (pc := 4) C dX10_unknown_4 ?_
  refine az_al0 (pc := 5) C rfl rfl dX10_unknown_5 ?_
  refine az_getR (pc := 6) (c2 := 8) C h fl_X10_98 rfl rfl dX10_unknown_6 (fun h => ?_)
  refine az_getI (pc := 9) C fl_X10_352 rfl dX10_unknown_9 ?_
  refine az_icmp_lt (pc := 12) (tgt := 21) C h dX10_unknown_12 (by decide) (fun _ h => ?_) (fun _ h => ?_)
  · refine az_al0 (pc := 21) C rfl rfl dX10_unknown_21 ?_
    refine az_getR (pc := 22) (c2 := 8) C h fl_X10_98 rfl rfl dX10_unknown_22 (fun h => ?_)
    refine az_il1 (pc := 25) C dX10_unknown_25 ?_
    refine az_cV1pi (pc := 26) (c := 8) C hd1 h mv_X8_isBound ml_X10_358 rfl (fun x hx => A_X8_isBound (by omega) hx) dX10_unknown_26 (fun r4 h => ?_)
    refine az_if_ne (pc := 29) (tgt := 38) C h dX10_unknown_29 (by decide) (fun _ h => ?_) (fun _ h => ?_)
    · refine az_al0 (pc := 38) C rfl rfl dX10_unknown_38 ?_
      refine az_getR (pc := 39) (c2 := 8) C h fl_X10_98 rfl rfl dX10_unknown_39 (fun h => ?_)
      refine az_al0 (pc := 42) C rfl rfl dX10_unknown_42 ?_
      refine az_getR (pc := 43) (c2 := 8) C h fl_X10_98 rfl rfl dX10_unknown_43 (fun h => ?_)
      refine az_getR (pc := 46) (c2 := 16) C h fl_X10_361 rfl rfl dX10_unknown_46 (fun h => ?_)
      refine az_il1 (pc := 49) C dX10_unknown_49 ?_
      refine az_aaload (pc := 50) C h dX10_unknown_50 (fun h => ?_)
      refine az_al0 (pc := 51) C rfl rfl dX10_unknown_51 ?_
      refine az_getR (pc := 52) (c2 := 7) C h fl_X10_86 rfl rfl dX10_unknown_52 (fun h => ?_)
      refine az_cV2ii (pc := 55) (c := 8) C hd1 h mv_X8_expand ml_X10_364 rfl (fun x hx => A_X8_expand (by omega) n hx) dX10_unknown_55 (fun r10 h => ?_)
      refine az_if_ne (pc := 58) (tgt := 68) C h dX10_unknown_58 (by decide) (fun _ h => ?_) (fun _ h => ?_)
      · refine az_al0 (pc := 68) C rfl rfl dX10_unknown_68 ?_
        refine az_getR (pc := 69) (c2 := 3) C h fl_X10_105 rfl rfl dX10_unknown_69 (fun h => ?_)
        refine az_ik0 (pc := 72) C dX10_unknown_72 ?_
        refine az_putI (pc := 73) C fl_X10_216 (Or.inl rfl) rfl dX10_unknown_73 ?_
        refine az_al0 (pc := 76) C rfl rfl dX10_unknown_76 ?_
        refine az_getR (pc := 77) (c2 := 3) C h fl_X10_105 rfl rfl dX10_unknown_77 (fun h => ?_)
        refine az_al0 (pc := 80) C rfl rfl dX10_unknown_80 ?_
        refine az_getR (pc := 81) (c2 := 7) C h fl_X10_86 rfl rfl dX10_unknown_81 (fun h => ?_)
        refine az_al0 (pc := 84) C rfl rfl dX10_unknown_84 ?_
        refine az_getR (pc := 85) (c2 := 9) C h fl_X10_29 rfl rfl dX10_unknown_85 (fun h => ?_)
        refine az_al0 (pc := 88) C rfl rfl dX10_unknown_88 ?_
        refine az_getR (pc := 89) (c2 := 8) C h fl_X10_98 rfl rfl dX10_unknown_89 (fun h => ?_)
        refine az_getR (pc := 92) (c2 := 13) C h fl_X10_313 rfl rfl dX10_unknown_92 (fun h => ?_)
        refine az_cV3v (pc := 95) (c := 3) C hd1 h mv_X3_putRow ml_X10_314 rfl (fun x hx => A_X3_putRow (by omega) n hx) dX10_unknown_95 (fun r17 h => ?_)
        refine az_al0 (pc := 98) C rfl rfl dX10_unknown_98 ?_
        refine az_al0 (pc := 99) C rfl rfl dX10_unknown_99 ?_
        refine az_getR (pc := 100) (c2 := 3) C h fl_X10_105 rfl rfl dX10_unknown_100 (fun h => ?_)
        refine az_getI (pc := 103) C fl_X10_216 rfl dX10_unknown_103 ?_
        refine az_cV1ii (pc := 106) (c := 10) C hd1 h mv_X10_give ml_X10_138 rfl (fun x hx => A_X10_give (by omega) hx) dX10_unknown_106 (fun r19 h => ?_)
        obtain rfl := Option.some.inj h
        exact az_ireturn (pc := 109) C dX10_unknown_109 rfl
      refine az_al0 (pc := 61) C rfl rfl dX10_unknown_61 ?_
      refine az_bk6 (pc := 62) C dX10_unknown_62 ?_
      refine az_cV1ii (pc := 64) (c := 10) C hd1 h mv_X10_refuse ml_X10_112 rfl (fun x hx => A_X10_refuse (by omega) hx) dX10_unknown_64 (fun r20 h => ?_)
      obtain rfl := Option.some.inj h
      exact az_ireturn (pc := 67) C dX10_unknown_67 rfl
    refine az_al0 (pc := 32) C rfl rfl dX10_unknown_32 ?_
    refine az_ik5 (pc := 33) C dX10_unknown_33 ?_
    refine az_cV1ii (pc := 34) (c := 10) C hd1 h mv_X10_refuse ml_X10_112 rfl (fun x hx => A_X10_refuse (by omega) hx) dX10_unknown_34 (fun r21 h => ?_)
    obtain rfl := Option.some.inj h
    exact az_ireturn (pc := 37) C dX10_unknown_37 rfl
  refine az_al0 (pc := 15) C rfl rfl dX10_unknown_15 ?_
  refine az_ik2 (pc := 16) C dX10_unknown_16 ?_
  refine az_cV1ii (pc := 17) (c := 10) C hd1 h mv_X10_refuse ml_X10_112 rfl (fun x hx => A_X10_refuse (by omega) hx) dX10_unknown_17 (fun r22 h => ?_)
  obtain rfl := Option.some.inj h
  exact az_ireturn (pc := 20) C dX10_unknown_20 rfl
set_option maxRecDepth 10000 in
set_option maxHeartbeats 4000000 in
theorem A_X10_unknown {l : Launch} {d : Nat} (hD : 6 ≤ d) (n : Nat) {σ : az_Hp} {v0 v1 : Int} {r : (Int × az_Hp)} (h : fz_X10_unknown n σ v0 v1 = some r) : az_AC l yX10_unknown cX10_unknown 2 (some .int) d [(12, v0), (0, v1)] σ (some (0, r.1), r.2) := az_AC.of mt_X10_unknown rfl rfl rfl (fun Z hZ C => A_X10_unknown_e C hD n h)
theorem dX4_readGiven_0 : decode cX4_readGiven 0 = .ok (.aload_n 0, 1) := by decide +kernel
theorem dX4_readGiven_1 : decode cX4_readGiven 1 = .ok (.invokevirtual 127, 3) := by decide +kernel
theorem dX4_readGiven_4 : decode cX4_readGiven 4 = .ok (.aload_n 0, 1) := by decide +kernel
theorem dX4_readGiven_5 : decode cX4_readGiven 5 = .ok (.aload_n 0, 1) := by decide +kernel
theorem dX4_readGiven_6 : decode cX4_readGiven 6 = .ok (.getfield 60, 3) := by decide +kernel
theorem dX4_readGiven_9 : decode cX4_readGiven 9 = .ok (.getfield 157, 3) := by decide +kernel
theorem dX4_readGiven_12 : decode cX4_readGiven 12 = .ok (.iload_n 1, 1) := by decide +kernel
theorem dX4_readGiven_13 : decode cX4_readGiven 13 = .ok (.aaload, 1) := by decide +kernel
theorem dX4_readGiven_14 : decode cX4_readGiven 14 = .ok (.aload_n 0, 1) := by decide +kernel
theorem dX4_readGiven_15 : decode cX4_readGiven 15 = .ok (.getfield 60, 3) := by decide +kernel
theorem dX4_readGiven_18 : decode cX4_readGiven 18 = .ok (.getfield 160, 3) := by decide +kernel
theorem dX4_readGiven_21 : decode cX4_readGiven 21 = .ok (.iload_n 1, 1) := by decide +kernel
theorem dX4_readGiven_22 : decode cX4_readGiven 22 = .ok (.aaload, 1) := by decide +kernel
theorem dX4_readGiven_23 : decode cX4_readGiven 23 = .ok (.iconst 3, 1) := by decide +kernel
theorem dX4_readGiven_24 : decode cX4_readGiven 24 = .ok (.iconst 4, 1) := by decide +kernel
theorem dX4_readGiven_25 : decode cX4_readGiven 25 = .ok (.invokevirtual 150, 3) := by decide +kernel
theorem dX4_readGiven_28 : decode cX4_readGiven 28 = .ok (.ifCond .ne 5, 3) := by decide +kernel
theorem dX4_readGiven_31 : decode cX4_readGiven 31 = .ok (.iconst 0, 1) := by decide +kernel
theorem dX4_readGiven_32 : decode cX4_readGiven 32 = .ok (.ireturn, 1) := by decide +kernel
theorem dX4_readGiven_33 : decode cX4_readGiven 33 = .ok (.aload_n 0, 1) := by decide +kernel
theorem dX4_readGiven_34 : decode cX4_readGiven 34 = .ok (.getfield 60, 3) := by decide +kernel
theorem dX4_readGiven_37 : decode cX4_readGiven 37 = .ok (.dup, 1) := by decide +kernel
theorem dX4_readGiven_38 : decode cX4_readGiven 38 = .ok (.getfield 110, 3) := by decide +kernel
theorem dX4_readGiven_41 : decode cX4_readGiven 41 = .ok (.iconst 1, 1) := by decide +kernel
theorem dX4_readGiven_42 : decode cX4_readGiven 42 = .ok (.iadd, 1) := by decide +kernel
theorem dX4_readGiven_43 : decode cX4_readGiven 43 = .ok (.putfield 110, 3) := by decide +kernel
theorem dX4_readGiven_46 : decode cX4_readGiven 46 = .ok (.iconst 1, 1) := by decide +kernel
theorem dX4_readGiven_47 : decode cX4_readGiven 47 = .ok (.ireturn, 1) := by decide +kernel
set_option maxRecDepth 10000 in
set_option maxHeartbeats 4000000 in
theorem A_X4_readGiven_e {Z : az_Z} {d : Nat} (C : az_C Z yX4_readGiven cX4_readGiven 2 (some .boolean) d) (hD : 6 ≤ d) (n : Nat) {σ : az_Hp} {v0 v1 : Int} {r : (Int × az_Hp)} (h : fz_X4_readGiven n σ v0 v1 = some r) : az_AW Z 2 0 [(6, v0), (0, v1)] [] σ (some (0, r.1), r.2) := by
  have hd1 : 1 ≤ d := by omega
  unfold fz_X4_readGiven at h
  refine az_al0 (pc := 0) C rfl rfl dX4_readGiven_0 ?_
  refine az_cV0v (pc := 1) (c := 4) C hd1 h mv_X4_next ml_X4_127 rfl (fun x hx => A_X4_next (by omega) hx) dX4_readGiven_1 (fun r1 h => ?_)
  refine az_al0 (pc := 4) C rfl rfl dX4_readGiven_4 ?_
  refine az_al0 (pc := 5) C rfl rfl dX4_readGiven_5 ?_
  refine az_getR (pc := 6) (c2 := 6) C h fl_X4_60 rfl rfl dX4_readGiven_6 (fun h => ?_)
  refine az_getR (pc := 9) (c2 := 16) C h fl_X4_157 rfl rfl dX4_readGiven_9 (fun h => ?_)
  refine az_il1 (pc := 12) C dX4_readGiven_12 ?_
  refine az_aaload (pc := 13) C h dX4_readGiven_13 (fun h => ?_)
  refine az_al0 (pc := 14) C rfl rfl dX4_readGiven_14 ?_
  refine az_getR (pc := 15) (c2 := 6) C h fl_X4_60 rfl rfl dX4_readGiven_15 (fun h => ?_)
  refine az_getR (pc := 18) (c2 := 16) C h fl_X4_160 rfl rfl dX4_readGiven_18 (fun h => ?_)
  refine az_il1 (pc := 21) C dX4_readGiven_21 ?_
  refine az_aaload (pc := 22) C h dX4_readGiven_22 (fun h => ?_)
  refine az_ik3 (pc := 23) C dX4_readGiven_23 ?_
  refine az_ik4 (pc := 24) C dX4_readGiven_24 ?_
  refine az_cV4ii (pc := 25) (c := 4) C hd1 h mv_X4_readBoth ml_X4_150 rfl (fun x hx => A_X4_readBoth (by omega) n hx) dX4_readGiven_25 (fun r8 h => ?_)
  refine az_if_ne (pc := 28) (tgt := 33) C h dX4_readGiven_28 (by decide) (fun _ h => ?_) (fun _ h => ?_)
  · refine az_al0 (pc := 33) C rfl rfl dX4_readGiven_33 ?_
    refine az_getR (pc := 34) (c2 := 6) C h fl_X4_60 rfl rfl dX4_readGiven_34 (fun h => ?_)
    refine az_dup (pc := 37) C rfl rfl dX4_readGiven_37 ?_
    refine az_getI (pc := 38) C fl_X4_110 rfl dX4_readGiven_38 ?_
    refine az_ik1 (pc := 41) C dX4_readGiven_41 ?_
    refine az_iadd (pc := 42) C dX4_readGiven_42 ?_
    refine az_putI (pc := 43) C fl_X4_110 (Or.inl rfl) rfl dX4_readGiven_43 ?_
    refine az_ik1 (pc := 46) C dX4_readGiven_46 ?_
    obtain rfl := Option.some.inj h
    exact az_zreturn (pc := 47) C (by decide) dX4_readGiven_47 rfl
  refine az_ik0 (pc := 31) C dX4_readGiven_31 ?_
  obtain rfl := Option.some.inj h
  exact az_zreturn (pc := 32) C (by decide) dX4_readGiven_32 rfl
set_option maxRecDepth 10000 in
set_option maxHeartbeats 4000000 in
theorem A_X4_readGiven {l : Launch} {d : Nat} (hD : 6 ≤ d) (n : Nat) {σ : az_Hp} {v0 v1 : Int} {r : (Int × az_Hp)} (h : fz_X4_readGiven n σ v0 v1 = some r) : az_AC l yX4_readGiven cX4_readGiven 2 (some .boolean) d [(6, v0), (0, v1)] σ (some (0, r.1), r.2) := az_AC.of mt_X4_readGiven rfl rfl rfl (fun Z hZ C => A_X4_readGiven_e C hD n h)
theorem dX4_readWant_0 : decode cX4_readWant 0 = .ok (.aload_n 0, 1) := by decide +kernel
theorem dX4_readWant_1 : decode cX4_readWant 1 = .ok (.invokevirtual 127, 3) := by decide +kernel
theorem dX4_readWant_4 : decode cX4_readWant 4 = .ok (.aload_n 0, 1) := by decide +kernel
theorem dX4_readWant_5 : decode cX4_readWant 5 = .ok (.aload_n 0, 1) := by decide +kernel
theorem dX4_readWant_6 : decode cX4_readWant 6 = .ok (.getfield 60, 3) := by decide +kernel
theorem dX4_readWant_9 : decode cX4_readWant 9 = .ok (.getfield 163, 3) := by decide +kernel
theorem dX4_readWant_12 : decode cX4_readWant 12 = .ok (.iload_n 1, 1) := by decide +kernel
theorem dX4_readWant_13 : decode cX4_readWant 13 = .ok (.aaload, 1) := by decide +kernel
theorem dX4_readWant_14 : decode cX4_readWant 14 = .ok (.aload_n 0, 1) := by decide +kernel
theorem dX4_readWant_15 : decode cX4_readWant 15 = .ok (.getfield 60, 3) := by decide +kernel
theorem dX4_readWant_18 : decode cX4_readWant 18 = .ok (.getfield 166, 3) := by decide +kernel
theorem dX4_readWant_21 : decode cX4_readWant 21 = .ok (.iload_n 1, 1) := by decide +kernel
theorem dX4_readWant_22 : decode cX4_readWant 22 = .ok (.aaload, 1) := by decide +kernel
theorem dX4_readWant_23 : decode cX4_readWant 23 = .ok (.iconst 5, 1) := by decide +kernel
theorem dX4_readWant_24 : decode cX4_readWant 24 = .ok (.bipush 6, 2) := by decide +kernel
theorem dX4_readWant_26 : decode cX4_readWant 26 = .ok (.invokevirtual 150, 3) := by decide +kernel
theorem dX4_readWant_29 : decode cX4_readWant 29 = .ok (.ifCond .ne 5, 3) := by decide +kernel
theorem dX4_readWant_32 : decode cX4_readWant 32 = .ok (.iconst 0, 1) := by decide +kernel
theorem dX4_readWant_33 : decode cX4_readWant 33 = .ok (.ireturn, 1) := by decide +kernel
theorem dX4_readWant_34 : decode cX4_readWant 34 = .ok (.aload_n 0, 1) := by decide +kernel
theorem dX4_readWant_35 : decode cX4_readWant 35 = .ok (.getfield 60, 3) := by decide +kernel
theorem dX4_readWant_38 : decode cX4_readWant 38 = .ok (.dup, 1) := by decide +kernel
theorem dX4_readWant_39 : decode cX4_readWant 39 = .ok (.getfield 117, 3) := by decide +kernel
theorem dX4_readWant_42 : decode cX4_readWant 42 = .ok (.iconst 1, 1) := by decide +kernel
theorem dX4_readWant_43 : decode cX4_readWant 43 = .ok (.iadd, 1) := by decide +kernel
theorem dX4_readWant_44 : decode cX4_readWant 44 = .ok (.putfield 117, 3) := by decide +kernel
theorem dX4_readWant_47 : decode cX4_readWant 47 = .ok (.iconst 1, 1) := by decide +kernel
theorem dX4_readWant_48 : decode cX4_readWant 48 = .ok (.ireturn, 1) := by decide +kernel
set_option maxRecDepth 10000 in
set_option maxHeartbeats 4000000 in
theorem A_X4_readWant_e {Z : az_Z} {d : Nat} (C : az_C Z yX4_readWant cX4_readWant 2 (some .boolean) d) (hD : 6 ≤ d) (n : Nat) {σ : az_Hp} {v0 v1 : Int} {r : (Int × az_Hp)} (h : fz_X4_readWant n σ v0 v1 = some r) : az_AW Z 2 0 [(6, v0), (0, v1)] [] σ (some (0, r.1), r.2) := by
  have hd1 : 1 ≤ d := by omega
  unfold fz_X4_readWant at h
  refine az_al0 (pc := 0) C rfl rfl dX4_readWant_0 ?_
  refine az_cV0v (pc := 1) (c := 4) C hd1 h mv_X4_next ml_X4_127 rfl (fun x hx => A_X4_next (by omega) hx) dX4_readWant_1 (fun r1 h => ?_)
  refine az_al0 (pc := 4) C rfl rfl dX4_readWant_4 ?_
  refine az_al0 (pc := 5) C rfl rfl dX4_readWant_5 ?_
  refine az_getR (pc := 6) (c2 := 6) C h fl_X4_60 rfl rfl dX4_readWant_6 (fun h => ?_)
  refine az_getR (pc := 9) (c2 := 16) C h fl_X4_163 rfl rfl dX4_readWant_9 (fun h => ?_)
  refine az_il1 (pc := 12) C dX4_readWant_12 ?_
  refine az_aaload (pc := 13) C h dX4_readWant_13 (fun h => ?_)
  refine az_al0 (pc := 14) C rfl rfl dX4_readWant_14 ?_
  refine az_getR (pc := 15) (c2 := 6) C h fl_X4_60 rfl rfl dX4_readWant_15 (fun h => ?_)
  refine az_getR (pc := 18) (c2 := 16) C h fl_X4_166 rfl rfl dX4_readWant_18 (fun h => ?_)
  refine az_il1 (pc := 21) C dX4_readWant_21 ?_
  refine az_aaload (pc := 22) C h dX4_readWant_22 (fun h => ?_)
  refine az_ik5 (pc := 23) C dX4_readWant_23 ?_
  refine az_bk6 (pc := 24) C dX4_readWant_24 ?_
  refine az_cV4ii (pc := 26) (c := 4) C hd1 h mv_X4_readBoth ml_X4_150 rfl (fun x hx => A_X4_readBoth (by omega) n hx) dX4_readWant_26 (fun r8 h => ?_)
  refine az_if_ne (pc := 29) (tgt := 34) C h dX4_readWant_29 (by decide) (fun _ h => ?_) (fun _ h => ?_)
  · refine az_al0 (pc := 34) C rfl rfl dX4_readWant_34 ?_
    refine az_getR (pc := 35) (c2 := 6) C h fl_X4_60 rfl rfl dX4_readWant_35 (fun h => ?_)
    refine az_dup (pc := 38) C rfl rfl dX4_readWant_38 ?_
    refine az_getI (pc := 39) C fl_X4_117 rfl dX4_readWant_39 ?_
    refine az_ik1 (pc := 42) C dX4_readWant_42 ?_
    refine az_iadd (pc := 43) C dX4_readWant_43 ?_
    refine az_putI (pc := 44) C fl_X4_117 (Or.inl rfl) rfl dX4_readWant_44 ?_
    refine az_ik1 (pc := 47) C dX4_readWant_47 ?_
    obtain rfl := Option.some.inj h
    exact az_zreturn (pc := 48) C (by decide) dX4_readWant_48 rfl
  refine az_ik0 (pc := 32) C dX4_readWant_32 ?_
  obtain rfl := Option.some.inj h
  exact az_zreturn (pc := 33) C (by decide) dX4_readWant_33 rfl
set_option maxRecDepth 10000 in
set_option maxHeartbeats 4000000 in
theorem A_X4_readWant {l : Launch} {d : Nat} (hD : 6 ≤ d) (n : Nat) {σ : az_Hp} {v0 v1 : Int} {r : (Int × az_Hp)} (h : fz_X4_readWant n σ v0 v1 = some r) : az_AC l yX4_readWant cX4_readWant 2 (some .boolean) d [(6, v0), (0, v1)] σ (some (0, r.1), r.2) := az_AC.of mt_X4_readWant rfl rfl rfl (fun Z hZ C => A_X4_readWant_e C hD n h)
theorem dX6_clear_0 : decode cX6_clear 0 = .ok (.aload_n 0, 1) := by decide +kernel
theorem dX6_clear_1 : decode cX6_clear 1 = .ok (.iconst 0, 1) := by decide +kernel
theorem dX6_clear_2 : decode cX6_clear 2 = .ok (.putfield 9, 3) := by decide +kernel
theorem dX6_clear_5 : decode cX6_clear 5 = .ok (.aload_n 0, 1) := by decide +kernel
theorem dX6_clear_6 : decode cX6_clear 6 = .ok (.iconst 0, 1) := by decide +kernel
theorem dX6_clear_7 : decode cX6_clear 7 = .ok (.putfield 15, 3) := by decide +kernel
theorem dX6_clear_10 : decode cX6_clear 10 = .ok (.aload_n 0, 1) := by decide +kernel
theorem dX6_clear_11 : decode cX6_clear 11 = .ok (.iconst 0, 1) := by decide +kernel
theorem dX6_clear_12 : decode cX6_clear 12 = .ok (.putfield 18, 3) := by decide +kernel
theorem dX6_clear_15 : decode cX6_clear 15 = .ok (.return_, 1) := by decide +kernel
set_option maxRecDepth 10000 in
set_option maxHeartbeats 4000000 in
theorem A_X6_clear_e {Z : az_Z} {d : Nat} (C : az_C Z yX6_clear cX6_clear 1 none d) (hD : 1 ≤ d) {σ : az_Hp} {v0 : Int} {r : az_Hp} (h : fz_X6_clear σ v0 = some r) : az_AW Z 1 0 [(8, v0)] [] σ (none, r) := by
  have hd1 : 1 ≤ d := by omega
  unfold fz_X6_clear at h
  refine az_al0 (pc := 0) C rfl rfl dX6_clear_0 ?_
  refine az_ik0 (pc := 1) C dX6_clear_1 ?_
  refine az_putI (pc := 2) C fl_X6_9 (Or.inl rfl) rfl dX6_clear_2 ?_
  refine az_al0 (pc := 5) C rfl rfl dX6_clear_5 ?_
  refine az_ik0 (pc := 6) C dX6_clear_6 ?_
  refine az_putI (pc := 7) C fl_X6_15 (Or.inl rfl) rfl dX6_clear_7 ?_
  refine az_al0 (pc := 10) C rfl rfl dX6_clear_10 ?_
  refine az_ik0 (pc := 11) C dX6_clear_11 ?_
  refine az_putI (pc := 12) C fl_X6_18 (Or.inl rfl) rfl dX6_clear_12 ?_
  obtain rfl := Option.some.inj h
  exact az_return (pc := 15) C dX6_clear_15 rfl
set_option maxRecDepth 10000 in
set_option maxHeartbeats 4000000 in
theorem A_X6_clear {l : Launch} {d : Nat} (hD : 1 ≤ d) {σ : az_Hp} {v0 : Int} {r : az_Hp} (h : fz_X6_clear σ v0 = some r) : az_AC l yX6_clear cX6_clear 1 none d [(8, v0)] σ (none, r) := az_AC.of mt_X6_clear rfl rfl rfl (fun Z hZ C => A_X6_clear_e C hD h)
theorem dX4_readRequest_0 : decode cX4_readRequest 0 = .ok (.aload_n 0, 1) := by decide +kernel
theorem dX4_readRequest_1 : decode cX4_readRequest 1 = .ok (.getfield 60, 3) := by decide +kernel
theorem dX4_readRequest_4 : decode cX4_readRequest 4 = .ok (.invokevirtual 106, 3) := by decide +kernel
theorem dX4_readRequest_7 : decode cX4_readRequest 7 = .ok (.aload_n 0, 1) := by decide +kernel
theorem dX4_readRequest_8 : decode cX4_readRequest 8 = .ok (.aload_n 1, 1) := by decide +kernel
theorem dX4_readRequest_9 : decode cX4_readRequest 9 = .ok (.iload_n 2, 1) := by decide +kernel
theorem dX4_readRequest_10 : decode cX4_readRequest 10 = .ok (.aload_n 3, 1) := by decide +kernel
theorem dX4_readRequest_11 : decode cX4_readRequest 11 = .ok (.invokevirtual 69, 3) := by decide +kernel
theorem dX4_readRequest_14 : decode cX4_readRequest 14 = .ok (.aload_n 0, 1) := by decide +kernel
theorem dX4_readRequest_15 : decode cX4_readRequest 15 = .ok (.iconst 0, 1) := by decide +kernel
theorem dX4_readRequest_16 : decode cX4_readRequest 16 = .ok (.invokevirtual 98, 3) := by decide +kernel
theorem dX4_readRequest_19 : decode cX4_readRequest 19 = .ok (.iconst 0, 1) := by decide +kernel
theorem dX4_readRequest_20 : decode cX4_readRequest 20 = .ok (.istore 4, 2) := by decide +kernel
theorem dX4_readRequest_22 : decode cX4_readRequest 22 = .ok (.iload 4, 2) := by decide +kernel
theorem dX4_readRequest_24 : decode cX4_readRequest 24 = .ok (.sipush 900, 3) := by decide +kernel
theorem dX4_readRequest_27 : decode cX4_readRequest 27 = .ok (.if_icmp .ge 122, 3) := by decide +kernel
theorem dX4_readRequest_30 : decode cX4_readRequest 30 = .ok (.aload_n 0, 1) := by decide +kernel
theorem dX4_readRequest_31 : decode cX4_readRequest 31 = .ok (.getfield 41, 3) := by decide +kernel
theorem dX4_readRequest_34 : decode cX4_readRequest 34 = .ok (.ifCond .eq 115, 3) := by decide +kernel
theorem dX4_readRequest_37 : decode cX4_readRequest 37 = .ok (.aload_n 0, 1) := by decide +kernel
theorem dX4_readRequest_38 : decode cX4_readRequest 38 = .ok (.ldc 109, 2) := by decide +kernel
theorem dX4_readRequest_40 : decode cX4_readRequest 40 = .ok (.invokevirtual 73, 3) := by decide +kernel
theorem dX4_readRequest_43 : decode cX4_readRequest 43 = .ok (.ifCond .eq 40, 3) := by decide +kernel
theorem dX4_readRequest_46 : decode cX4_readRequest 46 = .ok (.aload_n 0, 1) := by decide +kernel
theorem dX4_readRequest_47 : decode cX4_readRequest 47 = .ok (.getfield 60, 3) := by decide +kernel
theorem dX4_readRequest_50 : decode cX4_readRequest 50 = .ok (.getfield 110, 3) := by decide +kernel
theorem dX4_readRequest_53 : decode cX4_readRequest 53 = .ok (.bipush 6, 2) := by decide +kernel
theorem dX4_readRequest_55 : decode cX4_readRequest 55 = .ok (.if_icmp .ge 17, 3) := by decide +kernel
theorem dX4_readRequest_58 : decode cX4_readRequest 58 = .ok (.aload_n 0, 1) := by decide +kernel
theorem dX4_readRequest_59 : decode cX4_readRequest 59 = .ok (.aload_n 0, 1) := by decide +kernel
theorem dX4_readRequest_60 : decode cX4_readRequest 60 = .ok (.getfield 60, 3) := by decide +kernel
theorem dX4_readRequest_63 : decode cX4_readRequest 63 = .ok (.getfield 110, 3) := by decide +kernel
theorem dX4_readRequest_66 : decode cX4_readRequest 66 = .ok (.invokevirtual 113, 3) := by decide +kernel
theorem dX4_readRequest_69 : decode cX4_readRequest 69 = .ok (.goto 9, 3) := by decide +kernel
theorem dX4_readRequest_72 : decode cX4_readRequest 72 = .ok (.aload_n 0, 1) := by decide +kernel
theorem dX4_readRequest_73 : decode cX4_readRequest 73 = .ok (.bipush 6, 2) := by decide +kernel
theorem dX4_readRequest_75 : decode cX4_readRequest 75 = .ok (.invokevirtual 84, 3) := by decide +kernel
theorem dX4_readRequest_78 : decode cX4_readRequest 78 = .ok (.istore 5, 2) := by decide +kernel
theorem dX4_readRequest_80 : decode cX4_readRequest 80 = .ok (.goto 56, 3) := by decide +kernel
theorem dX4_readRequest_83 : decode cX4_readRequest 83 = .ok (.aload_n 0, 1) := by decide +kernel
theorem dX4_readRequest_84 : decode cX4_readRequest 84 = .ok (.ldc 116, 2) := by decide +kernel
theorem dX4_readRequest_86 : decode cX4_readRequest 86 = .ok (.invokevirtual 73, 3) := by decide +kernel
theorem dX4_readRequest_89 : decode cX4_readRequest 89 = .ok (.ifCond .eq 40, 3) := by decide +kernel
theorem dX4_readRequest_92 : decode cX4_readRequest 92 = .ok (.aload_n 0, 1) := by decide +kernel
theorem dX4_readRequest_93 : decode cX4_readRequest 93 = .ok (.getfield 60, 3) := by decide +kernel
theorem dX4_readRequest_96 : decode cX4_readRequest 96 = .ok (.getfield 117, 3) := by decide +kernel
theorem dX4_readRequest_99 : decode cX4_readRequest 99 = .ok (.bipush 8, 2) := by decide +kernel
theorem dX4_readRequest_101 : decode cX4_readRequest 101 = .ok (.if_icmp .ge 17, 3) := by decide +kernel
theorem dX4_readRequest_104 : decode cX4_readRequest 104 = .ok (.aload_n 0, 1) := by decide +kernel
theorem dX4_readRequest_105 : decode cX4_readRequest 105 = .ok (.aload_n 0, 1) := by decide +kernel
theorem dX4_readRequest_106 : decode cX4_readRequest 106 = .ok (.getfield 60, 3) := by decide +kernel
theorem dX4_readRequest_109 : decode cX4_readRequest 109 = .ok (.getfield 117, 3) := by decide +kernel
theorem dX4_readRequest_112 : decode cX4_readRequest 112 = .ok (.invokevirtual 120, 3) := by decide +kernel
theorem dX4_readRequest_115 : decode cX4_readRequest 115 = .ok (.goto 9, 3) := by decide +kernel
theorem dX4_readRequest_118 : decode cX4_readRequest 118 = .ok (.aload_n 0, 1) := by decide +kernel
theorem dX4_readRequest_119 : decode cX4_readRequest 119 = .ok (.bipush 6, 2) := by decide +kernel
theorem dX4_readRequest_121 : decode cX4_readRequest 121 = .ok (.invokevirtual 84, 3) := by decide +kernel
theorem dX4_readRequest_124 : decode cX4_readRequest 124 = .ok (.istore 5, 2) := by decide +kernel
theorem dX4_readRequest_126 : decode cX4_readRequest 126 = .ok (.goto 10, 3) := by decide +kernel
theorem dX4_readRequest_129 : decode cX4_readRequest 129 = .ok (.aload_n 0, 1) := by decide +kernel
theorem dX4_readRequest_130 : decode cX4_readRequest 130 = .ok (.iconst 2, 1) := by decide +kernel
theorem dX4_readRequest_131 : decode cX4_readRequest 131 = .ok (.invokevirtual 84, 3) := by decide +kernel
theorem dX4_readRequest_134 : decode cX4_readRequest 134 = .ok (.istore 5, 2) := by decide +kernel
theorem dX4_readRequest_136 : decode cX4_readRequest 136 = .ok (.iload 5, 2) := by decide +kernel
theorem dX4_readRequest_138 : decode cX4_readRequest 138 = .ok (.ifCond .ne 5, 3) := by decide +kernel
theorem dX4_readRequest_141 : decode cX4_readRequest 141 = .ok (.iconst 0, 1) := by decide +kernel
theorem dX4_readRequest_142 : decode cX4_readRequest 142 = .ok (.ireturn, 1) := by decide +kernel
theorem dX4_readRequest_143 : decode cX4_readRequest 143 = .ok (.iinc 4 1, 3) := by decide +kernel
theorem dX4_readRequest_146 : decode cX4_readRequest 146 = .ok (.goto (-124), 3) := by decide +kernel
theorem dX4_readRequest_149 : decode cX4_readRequest 149 = .ok (.iconst 1, 1) := by decide +kernel
theorem dX4_readRequest_150 : decode cX4_readRequest 150 = .ok (.ireturn, 1) := by decide +kernel
set_option maxRecDepth 10000 in
set_option maxHeartbeats 4000000 in
theorem A_X4_readRequest_136 {Z : az_Z} {d : Nat} (C : az_C Z yX4_readRequest cX4_readRequest 6 (some .boolean) d) (hD : 7 ≤ d) (n : Nat) {k22 : az_Hp → Int → Int → Option (Int × az_Hp)} (hk22 : ∀ {σ : az_Hp} {v0 v4 : Int} {r : (Int × az_Hp)}, k22 σ v0 v4 = some r → az_AW Z 6 22 [(6, v0), (31, 0), (31, 0), (31, 0), (0, v4), (31, 0)] [] σ (some (0, r.1), r.2)) {σ : az_Hp} {v0 v4 v5 : Int} {r : (Int × az_Hp)} (h : fz_X4_readRequest_136 n k22 σ v0 v4 v5 = some r) : az_AW Z 6 136 [(6, v0), (31, 0), (31, 0), (31, 0), (0, v4), (0, v5)] [] σ (some (0, r.1), r.2) := by
  have hd1 : 1 ≤ d := by omega
  unfold fz_X4_readRequest_136 at h
  refine az_il5 (pc := 136) C dX4_readRequest_136 ?_
  refine az_if_ne (pc := 138) (tgt := 143) C h dX4_readRequest_138 (by decide) (fun _ h => ?_) (fun _ h => ?_)
  · refine az_ii4 (pc := 143) C az_n1 rfl rfl dX4_readRequest_143 ?_
    refine az_goto (pc := 146) (tgt := 22) C dX4_readRequest_146 (by decide) ?_
    exact (az_wkk (hk22 h) (az_sE (az_sJ (az_sJ (az_sJ (az_sE (az_sJ az_sN)))))))
  refine az_ik0 (pc := 141) C dX4_readRequest_141 ?_
  obtain rfl := Option.some.inj h
  exact az_zreturn (pc := 142) C (by decide) dX4_readRequest_142 rfl
set_option maxRecDepth 10000 in
set_option maxHeartbeats 4000000 in
theorem A_X4_readRequest_22 {Z : az_Z} {d : Nat} (C : az_C Z yX4_readRequest cX4_readRequest 6 (some .boolean) d) (hD : 7 ≤ d) (n : Nat) (k : Nat) : ∀ {σ : az_Hp} {v0 v4 : Int} {r : (Int × az_Hp)}, fz_X4_readRequest_22 n k σ v0 v4 = some r → az_AW Z 6 22 [(6, v0), (31, 0), (31, 0), (31, 0), (0, v4), (31, 0)] [] σ (some (0, r.1), r.2) := by
  have hd1 : 1 ≤ d := by omega
  induction k with
  | zero => intro σ v0 v4 r h; simp [fz_X4_readRequest_22] at h
  | succ k ih =>
    intro σ v0 v4 r h
    unfold fz_X4_readRequest_22 at h
    refine az_il4 (pc := 22) C dX4_readRequest_22 ?_
    refine az_sk900 (pc := 24) C dX4_readRequest_24 ?_
    refine az_icmp_ge (pc := 27) (tgt := 149) C h dX4_readRequest_27 (by decide) (fun _ h => ?_) (fun _ h => ?_)
    · refine az_ik1 (pc := 149) C dX4_readRequest_149 ?_
      obtain rfl := Option.some.inj h
      exact az_zreturn (pc := 150) C (by decide) dX4_readRequest_150 rfl
    refine az_al0 (pc := 30) C rfl rfl dX4_readRequest_30 ?_
    refine az_getI (pc := 31) C fl_X4_41 rfl dX4_readRequest_31 ?_
    refine az_if_eq (pc := 34) (tgt := 149) C h dX4_readRequest_34 (by decide) (fun _ h => ?_) (fun _ h => ?_)
    · refine az_ik1 (pc := 149) C dX4_readRequest_149 ?_
      obtain rfl := Option.some.inj h
      exact az_zreturn (pc := 150) C (by decide) dX4_readRequest_150 rfl
    refine az_al0 (pc := 37) C rfl rfl dX4_readRequest_37 ?_
    refine az_ldc (pc := 38) (x := 3913421) C ct_X4_109 dX4_readRequest_38 (by decide) ?_
    refine az_cV1pi (pc := 40) (c := 4) C hd1 h mv_X4_isWord ml_X4_73 rfl (fun x hx => A_X4_isWord (by omega) hx) dX4_readRequest_40 (fun r1 h => ?_)
    refine az_if_eq (pc := 43) (tgt := 83) C h dX4_readRequest_43 (by decide) (fun _ h => ?_) (fun _ h => ?_)
    · refine az_al0 (pc := 83) C rfl rfl dX4_readRequest_83 ?_
      refine az_ldc (pc := 84) (x := 453836) C ct_X4_116 dX4_readRequest_84 (by decide) ?_
      refine az_cV1pi (pc := 86) (c := 4) C hd1 h mv_X4_isWord ml_X4_73 rfl (fun x hx => A_X4_isWord (by omega) hx) dX4_readRequest_86 (fun r2 h => ?_)
      refine az_if_eq (pc := 89) (tgt := 129) C h dX4_readRequest_89 (by decide) (fun _ h => ?_) (fun _ h => ?_)
      · refine az_al0 (pc := 129) C rfl rfl dX4_readRequest_129 ?_
        refine az_ik2 (pc := 130) C dX4_readRequest_130 ?_
        refine az_cV1ii (pc := 131) (c := 4) C hd1 h mv_X4_fail ml_X4_84 rfl (fun x hx => A_X4_fail (by omega) hx) dX4_readRequest_131 (fun r3 h => ?_)
        refine az_is5 (pc := 134) C rfl rfl dX4_readRequest_134 ?_
        exact (A_X4_readRequest_136 C hD n (fun h => ih h) h)
      refine az_al0 (pc := 92) C rfl rfl dX4_readRequest_92 ?_
      refine az_getR (pc := 93) (c2 := 6) C h fl_X4_60 rfl rfl dX4_readRequest_93 (fun h => ?_)
      refine az_getI (pc := 96) C fl_X4_117 rfl dX4_readRequest_96 ?_
      refine az_bk8 (pc := 99) C dX4_readRequest_99 ?_
      refine az_icmp_ge (pc := 101) (tgt := 118) C h dX4_readRequest_101 (by decide) (fun _ h => ?_) (fun _ h => ?_)
      · refine az_al0 (pc := 118) C rfl rfl dX4_readRequest_118 ?_
        refine az_bk6 (pc := 119) C dX4_readRequest_119 ?_
        refine az_cV1ii (pc := 121) (c := 4) C hd1 h mv_X4_fail ml_X4_84 rfl (fun x hx => A_X4_fail (by omega) hx) dX4_readRequest_121 (fun r5 h => ?_)
        refine az_is5 (pc := 124) C rfl rfl dX4_readRequest_124 ?_
        refine az_goto (pc := 126) (tgt := 136) C dX4_readRequest_126 (by decide) ?_
        exact (A_X4_readRequest_136 C hD n (fun h => ih h) h)
      refine az_al0 (pc := 104) C rfl rfl dX4_readRequest_104 ?_
      refine az_al0 (pc := 105) C rfl rfl dX4_readRequest_105 ?_
      refine az_getR (pc := 106) (c2 := 6) C h fl_X4_60 rfl rfl dX4_readRequest_106 (fun h => ?_)
      refine az_getI (pc := 109) C fl_X4_117 rfl dX4_readRequest_109 ?_
      refine az_cV1ii (pc := 112) (c := 4) C hd1 h mv_X4_readWant ml_X4_120 rfl (fun x hx => A_X4_readWant (by omega) n hx) dX4_readRequest_112 (fun r7 h => ?_)
      refine az_goto (pc := 115) (tgt := 124) C dX4_readRequest_115 (by decide) ?_
      refine az_is5 (pc := 124) C rfl rfl dX4_readRequest_124 ?_
      refine az_goto (pc := 126) (tgt := 136) C dX4_readRequest_126 (by decide) ?_
      exact (A_X4_readRequest_136 C hD n (fun h => ih h) h)
    refine az_al0 (pc := 46) C rfl rfl dX4_readRequest_46 ?_
    refine az_getR (pc := 47) (c2 := 6) C h fl_X4_60 rfl rfl dX4_readRequest_47 (fun h => ?_)
    refine az_getI (pc := 50) C fl_X4_110 rfl dX4_readRequest_50 ?_
    refine az_bk6 (pc := 53) C dX4_readRequest_53 ?_
    refine az_icmp_ge (pc := 55) (tgt := 72) C h dX4_readRequest_55 (by decide) (fun _ h => ?_) (fun _ h => ?_)
    · refine az_al0 (pc := 72) C rfl rfl dX4_readRequest_72 ?_
      refine az_bk6 (pc := 73) C dX4_readRequest_73 ?_
      refine az_cV1ii (pc := 75) (c := 4) C hd1 h mv_X4_fail ml_X4_84 rfl (fun x hx => A_X4_fail (by omega) hx) dX4_readRequest_75 (fun r9 h => ?_)
      refine az_is5 (pc := 78) C rfl rfl dX4_readRequest_78 ?_
      refine az_goto (pc := 80) (tgt := 136) C dX4_readRequest_80 (by decide) ?_
      exact (A_X4_readRequest_136 C hD n (fun h => ih h) h)
    refine az_al0 (pc := 58) C rfl rfl dX4_readRequest_58 ?_
    refine az_al0 (pc := 59) C rfl rfl dX4_readRequest_59 ?_
    refine az_getR (pc := 60) (c2 := 6) C h fl_X4_60 rfl rfl dX4_readRequest_60 (fun h => ?_)
    refine az_getI (pc := 63) C fl_X4_110 rfl dX4_readRequest_63 ?_
    refine az_cV1ii (pc := 66) (c := 4) C hd1 h mv_X4_readGiven ml_X4_113 rfl (fun x hx => A_X4_readGiven (by omega) n hx) dX4_readRequest_66 (fun r11 h => ?_)
    refine az_goto (pc := 69) (tgt := 78) C dX4_readRequest_69 (by decide) ?_
    refine az_is5 (pc := 78) C rfl rfl dX4_readRequest_78 ?_
    refine az_goto (pc := 80) (tgt := 136) C dX4_readRequest_80 (by decide) ?_
    exact (A_X4_readRequest_136 C hD n (fun h => ih h) h)
set_option maxRecDepth 10000 in
set_option maxHeartbeats 4000000 in
theorem A_X4_readRequest_e {Z : az_Z} {d : Nat} (C : az_C Z yX4_readRequest cX4_readRequest 6 (some .boolean) d) (hD : 7 ≤ d) (n : Nat) {σ : az_Hp} {v0 v1 v2 v3 : Int} {r : (Int × az_Hp)} (h : fz_X4_readRequest n σ v0 v1 v2 v3 = some r) : az_AW Z 6 0 [(6, v0), (15, v1), (0, v2), (11, v3), (31, 0), (31, 0)] [] σ (some (0, r.1), r.2) := by
  have hd1 : 1 ≤ d := by omega
  unfold fz_X4_readRequest at h
  refine az_al0 (pc := 0) C rfl rfl dX4_readRequest_0 ?_
  refine az_getR (pc := 1) (c2 := 6) C h fl_X4_60 rfl rfl dX4_readRequest_1 (fun h => ?_)
  refine az_cV0v (pc := 4) (c := 6) C hd1 h mv_X6_clear ml_X4_106 rfl (fun x hx => A_X6_clear (by omega) hx) dX4_readRequest_4 (fun r2 h => ?_)
  refine az_al0 (pc := 7) C rfl rfl dX4_readRequest_7 ?_
  refine az_al1 (pc := 8) C rfl rfl dX4_readRequest_8 ?_
  refine az_il2 (pc := 9) C dX4_readRequest_9 ?_
  refine az_al3 (pc := 10) C rfl rfl dX4_readRequest_10 ?_
  refine az_cV3v (pc := 11) (c := 4) C hd1 h mv_X4_begin ml_X4_69 rfl (fun x hx => A_X4_begin (by omega) n hx) dX4_readRequest_11 (fun r3 h => ?_)
  refine az_al0 (pc := 14) C rfl rfl dX4_readRequest_14 ?_
  refine az_ik0 (pc := 15) C dX4_readRequest_15 ?_
  refine az_cV1v (pc := 16) (c := 4) C hd1 h mv_X4_forgetWords ml_X4_98 rfl (fun x hx => A_X4_forgetWords (by omega) hx) dX4_readRequest_16 (fun r4 h => ?_)
  refine az_ik0 (pc := 19) C dX4_readRequest_19 ?_
  refine az_is4 (pc := 20) C rfl rfl dX4_readRequest_20 ?_
  exact (az_wkk (A_X4_readRequest_22 C hD n n h) (az_sE (az_sJ (az_sJ (az_sJ (az_sE (az_sJ az_sN)))))))
set_option maxRecDepth 10000 in
set_option maxHeartbeats 4000000 in
theorem A_X4_readRequest {l : Launch} {d : Nat} (hD : 7 ≤ d) (n : Nat) {σ : az_Hp} {v0 v1 v2 v3 : Int} {r : (Int × az_Hp)} (h : fz_X4_readRequest n σ v0 v1 v2 v3 = some r) : az_AC l yX4_readRequest cX4_readRequest 6 (some .boolean) d [(6, v0), (15, v1), (0, v2), (11, v3)] σ (some (0, r.1), r.2) := az_AC.of mt_X4_readRequest rfl rfl rfl (fun Z hZ C => A_X4_readRequest_e C hD n h)
theorem dX8_begin_0 : decode cX8_begin 0 = .ok (.aload_n 0, 1) := by decide +kernel
theorem dX8_begin_1 : decode cX8_begin 1 = .ok (.iconst 1, 1) := by decide +kernel
theorem dX8_begin_2 : decode cX8_begin 2 = .ok (.putfield 9, 3) := by decide +kernel
theorem dX8_begin_5 : decode cX8_begin 5 = .ok (.aload_n 0, 1) := by decide +kernel
theorem dX8_begin_6 : decode cX8_begin 6 = .ok (.iconst 0, 1) := by decide +kernel
theorem dX8_begin_7 : decode cX8_begin 7 = .ok (.putfield 19, 3) := by decide +kernel
theorem dX8_begin_10 : decode cX8_begin 10 = .ok (.aload_n 0, 1) := by decide +kernel
theorem dX8_begin_11 : decode cX8_begin 11 = .ok (.iconst (-1), 1) := by decide +kernel
theorem dX8_begin_12 : decode cX8_begin 12 = .ok (.putfield 22, 3) := by decide +kernel
theorem dX8_begin_15 : decode cX8_begin 15 = .ok (.aload_n 0, 1) := by decide +kernel
theorem dX8_begin_16 : decode cX8_begin 16 = .ok (.iconst 0, 1) := by decide +kernel
theorem dX8_begin_17 : decode cX8_begin 17 = .ok (.putfield 25, 3) := by decide +kernel
theorem dX8_begin_20 : decode cX8_begin 20 = .ok (.aload_n 0, 1) := by decide +kernel
theorem dX8_begin_21 : decode cX8_begin 21 = .ok (.iconst 0, 1) := by decide +kernel
theorem dX8_begin_22 : decode cX8_begin 22 = .ok (.putfield 31, 3) := by decide +kernel
theorem dX8_begin_25 : decode cX8_begin 25 = .ok (.aload_n 0, 1) := by decide +kernel
theorem dX8_begin_26 : decode cX8_begin 26 = .ok (.iconst 1, 1) := by decide +kernel
theorem dX8_begin_27 : decode cX8_begin 27 = .ok (.putfield 44, 3) := by decide +kernel
theorem dX8_begin_30 : decode cX8_begin 30 = .ok (.aload_n 0, 1) := by decide +kernel
theorem dX8_begin_31 : decode cX8_begin 31 = .ok (.aload_n 1, 1) := by decide +kernel
theorem dX8_begin_32 : decode cX8_begin 32 = .ok (.getfield 68, 3) := by decide +kernel
theorem dX8_begin_35 : decode cX8_begin 35 = .ok (.putfield 28, 3) := by decide +kernel
theorem dX8_begin_38 : decode cX8_begin 38 = .ok (.aload_n 1, 1) := by decide +kernel
theorem dX8_begin_39 : decode cX8_begin 39 = .ok (.getfield 71, 3) := by decide +kernel
theorem dX8_begin_42 : decode cX8_begin 42 = .ok (.iconst 0, 1) := by decide +kernel
theorem dX8_begin_43 : decode cX8_begin 43 = .ok (.aload_n 0, 1) := by decide +kernel
theorem dX8_begin_44 : decode cX8_begin 44 = .ok (.getfield 34, 3) := by decide +kernel
theorem dX8_begin_47 : decode cX8_begin 47 = .ok (.iconst 0, 1) := by decide +kernel
theorem dX8_begin_48 : decode cX8_begin 48 = .ok (.bipush 6, 2) := by decide +kernel
theorem dX8_begin_50 : decode cX8_begin 50 = .ok (.invokestatic 72, 3) := by decide +kernel
theorem dX8_begin_53 : decode cX8_begin 53 = .ok (.aload_n 0, 1) := by decide +kernel
theorem dX8_begin_54 : decode cX8_begin 54 = .ok (.aload_n 1, 1) := by decide +kernel
theorem dX8_begin_55 : decode cX8_begin 55 = .ok (.getfield 78, 3) := by decide +kernel
theorem dX8_begin_58 : decode cX8_begin 58 = .ok (.putfield 15, 3) := by decide +kernel
theorem dX8_begin_61 : decode cX8_begin 61 = .ok (.iconst 0, 1) := by decide +kernel
theorem dX8_begin_62 : decode cX8_begin 62 = .ok (.istore_n 2, 1) := by decide +kernel
theorem dX8_begin_63 : decode cX8_begin 63 = .ok (.iload_n 2, 1) := by decide +kernel
theorem dX8_begin_64 : decode cX8_begin 64 = .ok (.aload_n 0, 1) := by decide +kernel
theorem dX8_begin_65 : decode cX8_begin 65 = .ok (.getfield 15, 3) := by decide +kernel
theorem dX8_begin_68 : decode cX8_begin 68 = .ok (.if_icmp .ge 53, 3) := by decide +kernel
theorem dX8_begin_71 : decode cX8_begin 71 = .ok (.aload_n 0, 1) := by decide +kernel
theorem dX8_begin_72 : decode cX8_begin 72 = .ok (.getfield 47, 3) := by decide +kernel
theorem dX8_begin_75 : decode cX8_begin 75 = .ok (.iload_n 2, 1) := by decide +kernel
theorem dX8_begin_76 : decode cX8_begin 76 = .ok (.iaload, 1) := by decide +kernel
theorem dX8_begin_77 : decode cX8_begin 77 = .ok (.istore_n 3, 1) := by decide +kernel
theorem dX8_begin_78 : decode cX8_begin 78 = .ok (.aload_n 0, 1) := by decide +kernel
theorem dX8_begin_79 : decode cX8_begin 79 = .ok (.getfield 53, 3) := by decide +kernel
theorem dX8_begin_82 : decode cX8_begin 82 = .ok (.iload_n 3, 1) := by decide +kernel
theorem dX8_begin_83 : decode cX8_begin 83 = .ok (.aaload, 1) := by decide +kernel
theorem dX8_begin_84 : decode cX8_begin 84 = .ok (.aload_n 1, 1) := by decide +kernel
theorem dX8_begin_85 : decode cX8_begin 85 = .ok (.getfield 81, 3) := by decide +kernel
theorem dX8_begin_88 : decode cX8_begin 88 = .ok (.iload_n 2, 1) := by decide +kernel
theorem dX8_begin_89 : decode cX8_begin 89 = .ok (.aaload, 1) := by decide +kernel
theorem dX8_begin_90 : decode cX8_begin 90 = .ok (.invokevirtual 84, 3) := by decide +kernel
theorem dX8_begin_93 : decode cX8_begin 93 = .ok (.aload_n 0, 1) := by decide +kernel
theorem dX8_begin_94 : decode cX8_begin 94 = .ok (.getfield 56, 3) := by decide +kernel
theorem dX8_begin_97 : decode cX8_begin 97 = .ok (.iload_n 3, 1) := by decide +kernel
theorem dX8_begin_98 : decode cX8_begin 98 = .ok (.aaload, 1) := by decide +kernel
theorem dX8_begin_99 : decode cX8_begin 99 = .ok (.aload_n 1, 1) := by decide +kernel
theorem dX8_begin_100 : decode cX8_begin 100 = .ok (.getfield 88, 3) := by decide +kernel
theorem dX8_begin_103 : decode cX8_begin 103 = .ok (.iload_n 2, 1) := by decide +kernel
theorem dX8_begin_104 : decode cX8_begin 104 = .ok (.aaload, 1) := by decide +kernel
theorem dX8_begin_105 : decode cX8_begin 105 = .ok (.invokevirtual 84, 3) := by decide +kernel
theorem dX8_begin_108 : decode cX8_begin 108 = .ok (.aload_n 0, 1) := by decide +kernel
theorem dX8_begin_109 : decode cX8_begin 109 = .ok (.getfield 50, 3) := by decide +kernel
theorem dX8_begin_112 : decode cX8_begin 112 = .ok (.iload_n 3, 1) := by decide +kernel
theorem dX8_begin_113 : decode cX8_begin 113 = .ok (.iload_n 2, 1) := by decide +kernel
theorem dX8_begin_114 : decode cX8_begin 114 = .ok (.iastore, 1) := by decide +kernel
theorem dX8_begin_115 : decode cX8_begin 115 = .ok (.iinc 2 1, 3) := by decide +kernel
theorem dX8_begin_118 : decode cX8_begin 118 = .ok (.goto (-55), 3) := by decide +kernel
theorem dX8_begin_121 : decode cX8_begin 121 = .ok (.return_, 1) := by decide +kernel
set_option maxRecDepth 10000 in
set_option maxHeartbeats 4000000 in
theorem A_X8_begin_63 {Z : az_Z} {d : Nat} (C : az_C Z yX8_begin cX8_begin 4 none d) (hD : 4 ≤ d) (n : Nat) (k : Nat) : ∀ {σ : az_Hp} {v0 v1 v2 : Int} {r : az_Hp}, fz_X8_begin_63 n k σ v0 v1 v2 = some r → az_AW Z 4 63 [(10, v0), (8, v1), (0, v2), (31, 0)] [] σ (none, r) := by
  have hd1 : 1 ≤ d := by omega
  induction k with
  | zero => intro σ v0 v1 v2 r h; simp [fz_X8_begin_63] at h
  | succ k ih =>
    intro σ v0 v1 v2 r h
    unfold fz_X8_begin_63 at h
    refine az_il2 (pc := 63) C dX8_begin_63 ?_
    refine az_al0 (pc := 64) C rfl rfl dX8_begin_64 ?_
    refine az_getI (pc := 65) C fl_X8_15 rfl dX8_begin_65 ?_
    refine az_icmp_ge (pc := 68) (tgt := 121) C h dX8_begin_68 (by decide) (fun _ h => ?_) (fun _ h => ?_)
    · obtain rfl := Option.some.inj h
      exact az_return (pc := 121) C dX8_begin_121 rfl
    refine az_al0 (pc := 71) C rfl rfl dX8_begin_71 ?_
    refine az_getR (pc := 72) (c2 := 13) C h fl_X8_47 rfl rfl dX8_begin_72 (fun h => ?_)
    refine az_il2 (pc := 75) C dX8_begin_75 ?_
    refine az_iaload (pc := 76) C h dX8_begin_76 (fun h => ?_)
    refine az_is3 (pc := 77) C rfl rfl dX8_begin_77 ?_
    refine az_al0 (pc := 78) C rfl rfl dX8_begin_78 ?_
    refine az_getR (pc := 79) (c2 := 16) C h fl_X8_53 rfl rfl dX8_begin_79 (fun h => ?_)
    refine az_il3 (pc := 82) C dX8_begin_82 ?_
    refine az_aaload (pc := 83) C h dX8_begin_83 (fun h => ?_)
    refine az_al1 (pc := 84) C rfl rfl dX8_begin_84 ?_
    refine az_getR (pc := 85) (c2 := 16) C h fl_X8_81 rfl rfl dX8_begin_85 (fun h => ?_)
    refine az_il2 (pc := 88) C dX8_begin_88 ?_
    refine az_aaload (pc := 89) C h dX8_begin_89 (fun h => ?_)
    refine az_cV1v (pc := 90) (c := 7) C hd1 h mv_X7_take ml_X8_84 rfl (fun x hx => A_X7_take (by omega) hx) dX8_begin_90 (fun r7 h => ?_)
    refine az_al0 (pc := 93) C rfl rfl dX8_begin_93 ?_
    refine az_getR (pc := 94) (c2 := 16) C h fl_X8_56 rfl rfl dX8_begin_94 (fun h => ?_)
    refine az_il3 (pc := 97) C dX8_begin_97 ?_
    refine az_aaload (pc := 98) C h dX8_begin_98 (fun h => ?_)
    refine az_al1 (pc := 99) C rfl rfl dX8_begin_99 ?_
    refine az_getR (pc := 100) (c2 := 16) C h fl_X8_88 rfl rfl dX8_begin_100 (fun h => ?_)
    refine az_il2 (pc := 103) C dX8_begin_103 ?_
    refine az_aaload (pc := 104) C h dX8_begin_104 (fun h => ?_)
    refine az_cV1v (pc := 105) (c := 7) C hd1 h mv_X7_take ml_X8_84 rfl (fun x hx => A_X7_take (by omega) hx) dX8_begin_105 (fun r12 h => ?_)
    refine az_al0 (pc := 108) C rfl rfl dX8_begin_108 ?_
    refine az_getR (pc := 109) (c2 := 13) C h fl_X8_50 rfl rfl dX8_begin_109 (fun h => ?_)
    refine az_il3 (pc := 112) C dX8_begin_112 ?_
    refine az_il2 (pc := 113) C dX8_begin_113 ?_
    refine az_iastore (pc := 114) C h dX8_begin_114 (fun h => ?_)
    refine az_ii2 (pc := 115) C az_n1 rfl rfl dX8_begin_115 ?_
    refine az_goto (pc := 118) (tgt := 63) C dX8_begin_118 (by decide) ?_
    exact (az_wkk (ih h) (az_sE (az_sE (az_sE (az_sJ az_sN)))))
set_option maxRecDepth 10000 in
set_option maxHeartbeats 4000000 in
theorem A_X8_begin_e {Z : az_Z} {d : Nat} (C : az_C Z yX8_begin cX8_begin 4 none d) (hD : 4 ≤ d) (n : Nat) {σ : az_Hp} {v0 v1 : Int} {r : az_Hp} (h : fz_X8_begin n σ v0 v1 = some r) : az_AW Z 4 0 [(10, v0), (8, v1), (31, 0), (31, 0)] [] σ (none, r) := by
  have hd1 : 1 ≤ d := by omega
  unfold fz_X8_begin at h
  refine az_al0 (pc := 0) C rfl rfl dX8_begin_0 ?_
  refine az_ik1 (pc := 1) C dX8_begin_1 ?_
  refine az_putZc (pc := 2) C (by decide) fl_X8_9 (Or.inl rfl) rfl dX8_begin_2 ?_
  refine az_al0 (pc := 5) C rfl rfl dX8_begin_5 ?_
  refine az_ik0 (pc := 6) C dX8_begin_6 ?_
  refine az_putI (pc := 7) C fl_X8_19 (Or.inl rfl) rfl dX8_begin_7 ?_
  refine az_al0 (pc := 10) C rfl rfl dX8_begin_10 ?_
  refine az_ikm1 (pc := 11) C dX8_begin_11 ?_
  refine az_putI (pc := 12) C fl_X8_22 (Or.inl rfl) rfl dX8_begin_12 ?_
  refine az_al0 (pc := 15) C rfl rfl dX8_begin_15 ?_
  refine az_ik0 (pc := 16) C dX8_begin_16 ?_
  refine az_putI (pc := 17) C fl_X8_25 (Or.inl rfl) rfl dX8_begin_17 ?_
  refine az_al0 (pc := 20) C rfl rfl dX8_begin_20 ?_
  refine az_ik0 (pc := 21) C dX8_begin_21 ?_
  refine az_putI (pc := 22) C fl_X8_31 (Or.inl rfl) rfl dX8_begin_22 ?_
  refine az_al0 (pc := 25) C rfl rfl dX8_begin_25 ?_
  refine az_ik1 (pc := 26) C dX8_begin_26 ?_
  refine az_putZc (pc := 27) C (by decide) fl_X8_44 (Or.inl rfl) rfl dX8_begin_27 ?_
  refine az_al0 (pc := 30) C rfl rfl dX8_begin_30 ?_
  refine az_al1 (pc := 31) C rfl rfl dX8_begin_31 ?_
  refine az_getI (pc := 32) C fl_X8_68 rfl dX8_begin_32 ?_
  refine az_putI (pc := 35) C fl_X8_28 (Or.inl rfl) rfl dX8_begin_35 ?_
  refine az_al1 (pc := 38) C rfl rfl dX8_begin_38 ?_
  refine az_getR (pc := 39) (c2 := 13) C h fl_X8_71 rfl rfl dX8_begin_39 (fun h => ?_)
  refine az_ik0 (pc := 42) C dX8_begin_42 ?_
  refine az_al0 (pc := 43) C rfl rfl dX8_begin_43 ?_
  refine az_getR (pc := 44) (c2 := 13) C h fl_X8_34 rfl rfl dX8_begin_44 (fun h => ?_)
  refine az_ik0 (pc := 47) C dX8_begin_47 ?_
  refine az_bk6 (pc := 48) C dX8_begin_48 ?_
  refine az_arraycopy (pc := 50) C hd1 h ml_X8_72 az_w_cpn az_w_cps az_w_sys rfl dX8_begin_50 (fun h => ?_)
  refine az_al0 (pc := 53) C rfl rfl dX8_begin_53 ?_
  refine az_al1 (pc := 54) C rfl rfl dX8_begin_54 ?_
  refine az_getI (pc := 55) C fl_X8_78 rfl dX8_begin_55 ?_
  refine az_putI (pc := 58) C fl_X8_15 (Or.inl rfl) rfl dX8_begin_58 ?_
  refine az_ik0 (pc := 61) C dX8_begin_61 ?_
  refine az_is2 (pc := 62) C rfl rfl dX8_begin_62 ?_
  exact (A_X8_begin_63 C hD n n h)
set_option maxRecDepth 10000 in
set_option maxHeartbeats 4000000 in
theorem A_X8_begin {l : Launch} {d : Nat} (hD : 4 ≤ d) (n : Nat) {σ : az_Hp} {v0 v1 : Int} {r : az_Hp} (h : fz_X8_begin n σ v0 v1 = some r) : az_AC l yX8_begin cX8_begin 4 none d [(10, v0), (8, v1)] σ (none, r) := az_AC.of mt_X8_begin rfl rfl rfl (fun Z hZ C => A_X8_begin_e C hD n h)
theorem dX8_goesOn_0 : decode cX8_goesOn 0 = .ok (.aload_n 0, 1) := by decide +kernel
theorem dX8_goesOn_1 : decode cX8_goesOn 1 = .ok (.getfield 19, 3) := by decide +kernel
theorem dX8_goesOn_4 : decode cX8_goesOn 4 = .ok (.ifCond .ne 14, 3) := by decide +kernel
theorem dX8_goesOn_7 : decode cX8_goesOn 7 = .ok (.aload_n 0, 1) := by decide +kernel
theorem dX8_goesOn_8 : decode cX8_goesOn 8 = .ok (.getfield 44, 3) := by decide +kernel
theorem dX8_goesOn_11 : decode cX8_goesOn 11 = .ok (.ifCond .eq 7, 3) := by decide +kernel
theorem dX8_goesOn_14 : decode cX8_goesOn 14 = .ok (.iconst 1, 1) := by decide +kernel
theorem dX8_goesOn_15 : decode cX8_goesOn 15 = .ok (.goto 4, 3) := by decide +kernel
theorem dX8_goesOn_18 : decode cX8_goesOn 18 = .ok (.iconst 0, 1) := by decide +kernel
theorem dX8_goesOn_19 : decode cX8_goesOn 19 = .ok (.ireturn, 1) := by decide +kernel
set_option maxRecDepth 10000 in
set_option maxHeartbeats 4000000 in
theorem A_X8_goesOn_e {Z : az_Z} {d : Nat} (C : az_C Z yX8_goesOn cX8_goesOn 1 (some .boolean) d) (hD : 1 ≤ d) {σ : az_Hp} {v0 : Int} {r : Int} (h : fz_X8_goesOn σ v0 = some r) : az_AW Z 1 0 [(10, v0)] [] σ (some (0, r), σ) := by
  have hd1 : 1 ≤ d := by omega
  unfold fz_X8_goesOn at h
  refine az_al0 (pc := 0) C rfl rfl dX8_goesOn_0 ?_
  refine az_getI (pc := 1) C fl_X8_19 rfl dX8_goesOn_1 ?_
  refine az_if_ne (pc := 4) (tgt := 18) C h dX8_goesOn_4 (by decide) (fun _ h => ?_) (fun _ h => ?_)
  · refine az_ik0 (pc := 18) C dX8_goesOn_18 ?_
    obtain rfl := Option.some.inj h
    exact az_zreturn (pc := 19) C (by decide) dX8_goesOn_19 rfl
  refine az_al0 (pc := 7) C rfl rfl dX8_goesOn_7 ?_
  refine az_getI (pc := 8) C fl_X8_44 rfl dX8_goesOn_8 ?_
  refine az_if_eq (pc := 11) (tgt := 18) C h dX8_goesOn_11 (by decide) (fun _ h => ?_) (fun _ h => ?_)
  · refine az_ik0 (pc := 18) C dX8_goesOn_18 ?_
    obtain rfl := Option.some.inj h
    exact az_zreturn (pc := 19) C (by decide) dX8_goesOn_19 rfl
  refine az_ik1 (pc := 14) C dX8_goesOn_14 ?_
  refine az_goto (pc := 15) (tgt := 19) C dX8_goesOn_15 (by decide) ?_
  obtain rfl := Option.some.inj h
  exact az_zreturn (pc := 19) C (by decide) dX8_goesOn_19 rfl
set_option maxRecDepth 10000 in
set_option maxHeartbeats 4000000 in
theorem A_X8_goesOn {l : Launch} {d : Nat} (hD : 1 ≤ d) {σ : az_Hp} {v0 : Int} {r : Int} (h : fz_X8_goesOn σ v0 = some r) : az_AC l yX8_goesOn cX8_goesOn 1 (some .boolean) d [(10, v0)] σ (some (0, r), σ) := az_AC.of mt_X8_goesOn rfl rfl rfl (fun Z hZ C => A_X8_goesOn_e C hD h)
theorem dX8_remove_0 : decode cX8_remove 0 = .ok (.aload_n 0, 1) := by decide +kernel
theorem dX8_remove_1 : decode cX8_remove 1 = .ok (.getfield 47, 3) := by decide +kernel
theorem dX8_remove_4 : decode cX8_remove 4 = .ok (.iload_n 1, 1) := by decide +kernel
theorem dX8_remove_5 : decode cX8_remove 5 = .ok (.iaload, 1) := by decide +kernel
theorem dX8_remove_6 : decode cX8_remove 6 = .ok (.istore_n 2, 1) := by decide +kernel
theorem dX8_remove_7 : decode cX8_remove 7 = .ok (.iload_n 1, 1) := by decide +kernel
theorem dX8_remove_8 : decode cX8_remove 8 = .ok (.istore_n 3, 1) := by decide +kernel
theorem dX8_remove_9 : decode cX8_remove 9 = .ok (.iload_n 3, 1) := by decide +kernel
theorem dX8_remove_10 : decode cX8_remove 10 = .ok (.iconst 1, 1) := by decide +kernel
theorem dX8_remove_11 : decode cX8_remove 11 = .ok (.iadd, 1) := by decide +kernel
theorem dX8_remove_12 : decode cX8_remove 12 = .ok (.aload_n 0, 1) := by decide +kernel
theorem dX8_remove_13 : decode cX8_remove 13 = .ok (.getfield 15, 3) := by decide +kernel
theorem dX8_remove_16 : decode cX8_remove 16 = .ok (.if_icmp .ge 23, 3) := by decide +kernel
theorem dX8_remove_19 : decode cX8_remove 19 = .ok (.aload_n 0, 1) := by decide +kernel
theorem dX8_remove_20 : decode cX8_remove 20 = .ok (.getfield 47, 3) := by decide +kernel
theorem dX8_remove_23 : decode cX8_remove 23 = .ok (.iload_n 3, 1) := by decide +kernel
theorem dX8_remove_24 : decode cX8_remove 24 = .ok (.aload_n 0, 1) := by decide +kernel
theorem dX8_remove_25 : decode cX8_remove 25 = .ok (.getfield 47, 3) := by decide +kernel
theorem dX8_remove_28 : decode cX8_remove 28 = .ok (.iload_n 3, 1) := by decide +kernel
theorem dX8_remove_29 : decode cX8_remove 29 = .ok (.iconst 1, 1) := by decide +kernel
theorem dX8_remove_30 : decode cX8_remove 30 = .ok (.iadd, 1) := by decide +kernel
theorem dX8_remove_31 : decode cX8_remove 31 = .ok (.iaload, 1) := by decide +kernel
theorem dX8_remove_32 : decode cX8_remove 32 = .ok (.iastore, 1) := by decide +kernel
theorem dX8_remove_33 : decode cX8_remove 33 = .ok (.iinc 3 1, 3) := by decide +kernel
theorem dX8_remove_36 : decode cX8_remove 36 = .ok (.goto (-27), 3) := by decide +kernel
theorem dX8_remove_39 : decode cX8_remove 39 = .ok (.aload_n 0, 1) := by decide +kernel
theorem dX8_remove_40 : decode cX8_remove 40 = .ok (.dup, 1) := by decide +kernel
theorem dX8_remove_41 : decode cX8_remove 41 = .ok (.getfield 15, 3) := by decide +kernel
theorem dX8_remove_44 : decode cX8_remove 44 = .ok (.iconst 1, 1) := by decide +kernel
theorem dX8_remove_45 : decode cX8_remove 45 = .ok (.isub, 1) := by decide +kernel
theorem dX8_remove_46 : decode cX8_remove 46 = .ok (.putfield 15, 3) := by decide +kernel
theorem dX8_remove_49 : decode cX8_remove 49 = .ok (.aload_n 0, 1) := by decide +kernel
theorem dX8_remove_50 : decode cX8_remove 50 = .ok (.getfield 47, 3) := by decide +kernel
theorem dX8_remove_53 : decode cX8_remove 53 = .ok (.aload_n 0, 1) := by decide +kernel
theorem dX8_remove_54 : decode cX8_remove 54 = .ok (.getfield 15, 3) := by decide +kernel
theorem dX8_remove_57 : decode cX8_remove 57 = .ok (.iload_n 2, 1) := by decide +kernel
theorem dX8_remove_58 : decode cX8_remove 58 = .ok (.iastore, 1) := by decide +kernel
theorem dX8_remove_59 : decode cX8_remove 59 = .ok (.return_, 1) := by decide +kernel
set_option maxRecDepth 10000 in
set_option maxHeartbeats 4000000 in
theorem A_X8_remove_9 {Z : az_Z} {d : Nat} (C : az_C Z yX8_remove cX8_remove 4 none d) (hD : 1 ≤ d) (n : Nat) (k : Nat) : ∀ {σ : az_Hp} {v0 v2 v3 : Int} {r : az_Hp}, fz_X8_remove_9 n k σ v0 v2 v3 = some r → az_AW Z 4 9 [(10, v0), (31, 0), (0, v2), (0, v3)] [] σ (none, r) := by
  have hd1 : 1 ≤ d := by omega
  induction k with
  | zero => intro σ v0 v2 v3 r h; simp [fz_X8_remove_9] at h
  | succ k ih =>
    intro σ v0 v2 v3 r h
    unfold fz_X8_remove_9 at h
    refine az_il3 (pc := 9) C dX8_remove_9 ?_
    refine az_ik1 (pc := 10) C dX8_remove_10 ?_
    refine az_iadd (pc := 11) C dX8_remove_11 ?_
    refine az_al0 (pc := 12) C rfl rfl dX8_remove_12 ?_
    refine az_getI (pc := 13) C fl_X8_15 rfl dX8_remove_13 ?_
    refine az_icmp_ge (pc := 16) (tgt := 39) C h dX8_remove_16 (by decide) (fun _ h => ?_) (fun _ h => ?_)
    · refine az_al0 (pc := 39) C rfl rfl dX8_remove_39 ?_
      refine az_dup (pc := 40) C rfl rfl dX8_remove_40 ?_
      refine az_getI (pc := 41) C fl_X8_15 rfl dX8_remove_41 ?_
      refine az_ik1 (pc := 44) C dX8_remove_44 ?_
      refine az_isub (pc := 45) C dX8_remove_45 ?_
      refine az_putI (pc := 46) C fl_X8_15 (Or.inl rfl) rfl dX8_remove_46 ?_
      refine az_al0 (pc := 49) C rfl rfl dX8_remove_49 ?_
      refine az_getR (pc := 50) (c2 := 13) C h fl_X8_47 rfl rfl dX8_remove_50 (fun h => ?_)
      refine az_al0 (pc := 53) C rfl rfl dX8_remove_53 ?_
      refine az_getI (pc := 54) C fl_X8_15 rfl dX8_remove_54 ?_
      refine az_il2 (pc := 57) C dX8_remove_57 ?_
      refine az_iastore (pc := 58) C h dX8_remove_58 (fun h => ?_)
      obtain rfl := Option.some.inj h
      exact az_return (pc := 59) C dX8_remove_59 rfl
    refine az_al0 (pc := 19) C rfl rfl dX8_remove_19 ?_
    refine az_getR (pc := 20) (c2 := 13) C h fl_X8_47 rfl rfl dX8_remove_20 (fun h => ?_)
    refine az_il3 (pc := 23) C dX8_remove_23 ?_
    refine az_al0 (pc := 24) C rfl rfl dX8_remove_24 ?_
    refine az_getR (pc := 25) (c2 := 13) C h fl_X8_47 rfl rfl dX8_remove_25 (fun h => ?_)
    refine az_il3 (pc := 28) C dX8_remove_28 ?_
    refine az_ik1 (pc := 29) C dX8_remove_29 ?_
    refine az_iadd (pc := 30) C dX8_remove_30 ?_
    refine az_iaload (pc := 31) C h dX8_remove_31 (fun h => ?_)
    refine az_iastore (pc := 32) C h dX8_remove_32 (fun h => ?_)
    refine az_ii3 (pc := 33) C az_n1 rfl rfl dX8_remove_33 ?_
    refine az_goto (pc := 36) (tgt := 9) C dX8_remove_36 (by decide) ?_
    exact (ih h)
set_option maxRecDepth 10000 in
set_option maxHeartbeats 4000000 in
theorem A_X8_remove_e {Z : az_Z} {d : Nat} (C : az_C Z yX8_remove cX8_remove 4 none d) (hD : 1 ≤ d) (n : Nat) {σ : az_Hp} {v0 v1 : Int} {r : az_Hp} (h : fz_X8_remove n σ v0 v1 = some r) : az_AW Z 4 0 [(10, v0), (0, v1), (31, 0), (31, 0)] [] σ (none, r) := by
  have hd1 : 1 ≤ d := by omega
  unfold fz_X8_remove at h
  refine az_al0 (pc := 0) C rfl rfl dX8_remove_0 ?_
  refine az_getR (pc := 1) (c2 := 13) C h fl_X8_47 rfl rfl dX8_remove_1 (fun h => ?_)
  refine az_il1 (pc := 4) C dX8_remove_4 ?_
  refine az_iaload (pc := 5) C h dX8_remove_5 (fun h => ?_)
  refine az_is2 (pc := 6) C rfl rfl dX8_remove_6 ?_
  refine az_il1 (pc := 7) C dX8_remove_7 ?_
  refine az_is3 (pc := 8) C rfl rfl dX8_remove_8 ?_
  exact (az_wkk (A_X8_remove_9 C hD n n h) (az_sE (az_sJ (az_sE (az_sE az_sN)))))
set_option maxRecDepth 10000 in
set_option maxHeartbeats 4000000 in
theorem A_X8_remove {l : Launch} {d : Nat} (hD : 1 ≤ d) (n : Nat) {σ : az_Hp} {v0 v1 : Int} {r : az_Hp} (h : fz_X8_remove n σ v0 v1 = some r) : az_AC l yX8_remove cX8_remove 4 none d [(10, v0), (0, v1)] σ (none, r) := az_AC.of mt_X8_remove rfl rfl rfl (fun Z hZ C => A_X8_remove_e C hD n h)
theorem dX8_become_0 : decode cX8_become 0 = .ok (.aload_n 2, 1) := by decide +kernel
theorem dX8_become_1 : decode cX8_become 1 = .ok (.iload_n 1, 1) := by decide +kernel
theorem dX8_become_2 : decode cX8_become 2 = .ok (.iconst 0, 1) := by decide +kernel
theorem dX8_become_3 : decode cX8_become 3 = .ok (.aload_n 2, 1) := by decide +kernel
theorem dX8_become_4 : decode cX8_become 4 = .ok (.getfield 138, 3) := by decide +kernel
theorem dX8_become_7 : decode cX8_become 7 = .ok (.invokevirtual 139, 3) := by decide +kernel
theorem dX8_become_10 : decode cX8_become 10 = .ok (.ifCond .le 17, 3) := by decide +kernel
theorem dX8_become_13 : decode cX8_become 13 = .ok (.aload_n 2, 1) := by decide +kernel
theorem dX8_become_14 : decode cX8_become 14 = .ok (.iload_n 1, 1) := by decide +kernel
theorem dX8_become_15 : decode cX8_become 15 = .ok (.invokevirtual 143, 3) := by decide +kernel
theorem dX8_become_18 : decode cX8_become 18 = .ok (.ifCond .eq 7, 3) := by decide +kernel
theorem dX8_become_21 : decode cX8_become 21 = .ok (.iconst 2, 1) := by decide +kernel
theorem dX8_become_22 : decode cX8_become 22 = .ok (.goto 4, 3) := by decide +kernel
theorem dX8_become_25 : decode cX8_become 25 = .ok (.iconst 0, 1) := by decide +kernel
theorem dX8_become_26 : decode cX8_become 26 = .ok (.ireturn, 1) := by decide +kernel
theorem dX8_become_27 : decode cX8_become 27 = .ok (.iload_n 1, 1) := by decide +kernel
theorem dX8_become_28 : decode cX8_become 28 = .ok (.invokestatic 129, 3) := by decide +kernel
theorem dX8_become_31 : decode cX8_become 31 = .ok (.istore_n 3, 1) := by decide +kernel
theorem dX8_become_32 : decode cX8_become 32 = .ok (.iload_n 3, 1) := by decide +kernel
theorem dX8_become_33 : decode cX8_become 33 = .ok (.bipush 6, 2) := by decide +kernel
theorem dX8_become_35 : decode cX8_become 35 = .ok (.if_icmp .lt 5, 3) := by decide +kernel
theorem dX8_become_38 : decode cX8_become 38 = .ok (.iconst 0, 1) := by decide +kernel
theorem dX8_become_39 : decode cX8_become 39 = .ok (.ireturn, 1) := by decide +kernel
theorem dX8_become_40 : decode cX8_become 40 = .ok (.aload_n 0, 1) := by decide +kernel
theorem dX8_become_41 : decode cX8_become 41 = .ok (.getfield 40, 3) := by decide +kernel
theorem dX8_become_44 : decode cX8_become 44 = .ok (.iload_n 3, 1) := by decide +kernel
theorem dX8_become_45 : decode cX8_become 45 = .ok (.aaload, 1) := by decide +kernel
theorem dX8_become_46 : decode cX8_become 46 = .ok (.aload_n 2, 1) := by decide +kernel
theorem dX8_become_47 : decode cX8_become 47 = .ok (.invokevirtual 84, 3) := by decide +kernel
theorem dX8_become_50 : decode cX8_become 50 = .ok (.aload_n 0, 1) := by decide +kernel
theorem dX8_become_51 : decode cX8_become 51 = .ok (.dup, 1) := by decide +kernel
theorem dX8_become_52 : decode cX8_become 52 = .ok (.getfield 31, 3) := by decide +kernel
theorem dX8_become_55 : decode cX8_become 55 = .ok (.iconst 1, 1) := by decide +kernel
theorem dX8_become_56 : decode cX8_become 56 = .ok (.iload_n 3, 1) := by decide +kernel
theorem dX8_become_57 : decode cX8_become 57 = .ok (.ishl, 1) := by decide +kernel
theorem dX8_become_58 : decode cX8_become 58 = .ok (.ior, 1) := by decide +kernel
theorem dX8_become_59 : decode cX8_become 59 = .ok (.putfield 31, 3) := by decide +kernel
theorem dX8_become_62 : decode cX8_become 62 = .ok (.iconst 4, 1) := by decide +kernel
theorem dX8_become_63 : decode cX8_become 63 = .ok (.ireturn, 1) := by decide +kernel
set_option maxRecDepth 10000 in
set_option maxHeartbeats 4000000 in
theorem A_X8_become_e {Z : az_Z} {d : Nat} (C : az_C Z yX8_become cX8_become 4 (some .int) d) (hD : 4 ≤ d) (n : Nat) {σ : az_Hp} {v0 v1 v2 : Int} {r : (Int × az_Hp)} (h : fz_X8_become n σ v0 v1 v2 = some r) : az_AW Z 4 0 [(10, v0), (0, v1), (9, v2), (31, 0)] [] σ (some (0, r.1), r.2) := by
  have hd1 : 1 ≤ d := by omega
  unfold fz_X8_become at h
  refine az_al2 (pc := 0) C rfl rfl dX8_become_0 ?_
  refine az_il1 (pc := 1) C dX8_become_1 ?_
  refine az_ik0 (pc := 2) C dX8_become_2 ?_
  refine az_al2 (pc := 3) C rfl rfl dX8_become_3 ?_
  refine az_getI (pc := 4) C fl_X8_138 rfl dX8_become_4 ?_
  refine az_cV3pi (pc := 7) (c := 7) C hd1 h mv_X7_times ml_X8_139 rfl (fun x hx => A_X7_times (by omega) n hx) dX8_become_7 (fun r1 h => ?_)
  refine az_if_le (pc := 10) (tgt := 27) C h dX8_become_10 (by decide) (fun _ h => ?_) (fun _ h => ?_)
  · refine az_il1 (pc := 27) C dX8_become_27 ?_
    refine az_cS1pi (pc := 28) C hd1 h ms_X7_number ml_X8_129 rfl (fun x hx => A_X7_number (by omega) hx) dX8_become_28 (fun r2 h => ?_)
    refine az_is3 (pc := 31) C rfl rfl dX8_become_31 ?_
    refine az_il3 (pc := 32) C dX8_become_32 ?_
    refine az_bk6 (pc := 33) C dX8_become_33 ?_
    refine az_icmp_lt (pc := 35) (tgt := 40) C h dX8_become_35 (by decide) (fun _ h => ?_) (fun _ h => ?_)
    · refine az_al0 (pc := 40) C rfl rfl dX8_become_40 ?_
      refine az_getR (pc := 41) (c2 := 16) C h fl_X8_40 rfl rfl dX8_become_41 (fun h => ?_)
      refine az_il3 (pc := 44) C dX8_become_44 ?_
      refine az_aaload (pc := 45) C h dX8_become_45 (fun h => ?_)
      refine az_al2 (pc := 46) C rfl rfl dX8_become_46 ?_
      refine az_cV1v (pc := 47) (c := 7) C hd1 h mv_X7_take ml_X8_84 rfl (fun x hx => A_X7_take (by omega) hx) dX8_become_47 (fun r5 h => ?_)
      refine az_al0 (pc := 50) C rfl rfl dX8_become_50 ?_
      refine az_dup (pc := 51) C rfl rfl dX8_become_51 ?_
      refine az_getI (pc := 52) C fl_X8_31 rfl dX8_become_52 ?_
      refine az_ik1 (pc := 55) C dX8_become_55 ?_
      refine az_il3 (pc := 56) C dX8_become_56 ?_
      refine az_ishl (pc := 57) C dX8_become_57 ?_
      refine az_ior (pc := 58) C dX8_become_58 ?_
      refine az_putI (pc := 59) C fl_X8_31 (Or.inl rfl) rfl dX8_become_59 ?_
      refine az_ik4 (pc := 62) C dX8_become_62 ?_
      obtain rfl := Option.some.inj h
      exact az_ireturn (pc := 63) C dX8_become_63 rfl
    refine az_ik0 (pc := 38) C dX8_become_38 ?_
    obtain rfl := Option.some.inj h
    exact az_ireturn (pc := 39) C dX8_become_39 rfl
  refine az_al2 (pc := 13) C rfl rfl dX8_become_13 ?_
  refine az_il1 (pc := 14) C dX8_become_14 ?_
  refine az_cV1pi (pc := 15) (c := 7) C hd1 h mv_X7_standsOutsideFamilies ml_X8_143 rfl (fun x hx => A_X7_standsOutsideFamilies (by omega) n hx) dX8_become_15 (fun r6 h => ?_)
  refine az_if_eq (pc := 18) (tgt := 25) C h dX8_become_18 (by decide) (fun _ h => ?_) (fun _ h => ?_)
  · refine az_ik0 (pc := 25) C dX8_become_25 ?_
    obtain rfl := Option.some.inj h
    exact az_ireturn (pc := 26) C dX8_become_26 rfl
  refine az_ik2 (pc := 21) C dX8_become_21 ?_
  refine az_goto (pc := 22) (tgt := 26) C dX8_become_22 (by decide) ?_
  obtain rfl := Option.some.inj h
  exact az_ireturn (pc := 26) C dX8_become_26 rfl
set_option maxRecDepth 10000 in
set_option maxHeartbeats 4000000 in
theorem A_X8_become {l : Launch} {d : Nat} (hD : 4 ≤ d) (n : Nat) {σ : az_Hp} {v0 v1 v2 : Int} {r : (Int × az_Hp)} (h : fz_X8_become n σ v0 v1 v2 = some r) : az_AC l yX8_become cX8_become 4 (some .int) d [(10, v0), (0, v1), (9, v2)] σ (some (0, r.1), r.2) := az_AC.of mt_X8_become rfl rfl rfl (fun Z hZ C => A_X8_become_e C hD n h)
