theorem dX9_addEquation_0 : decode cX9_addEquation 0 = .ok (.aload_n 0, 1) := by decide +kernel
theorem dX9_addEquation_1 : decode cX9_addEquation 1 = .ok (.getfield 18, 3) := by decide +kernel
theorem dX9_addEquation_4 : decode cX9_addEquation 4 = .ok (.bipush 16, 2) := by decide +kernel
theorem dX9_addEquation_6 : decode cX9_addEquation 6 = .ok (.if_icmp .ge 64, 3) := by decide +kernel
theorem dX9_addEquation_9 : decode cX9_addEquation 9 = .ok (.aload_n 0, 1) := by decide +kernel
theorem dX9_addEquation_10 : decode cX9_addEquation 10 = .ok (.getfield 49, 3) := by decide +kernel
theorem dX9_addEquation_13 : decode cX9_addEquation 13 = .ok (.aload_n 0, 1) := by decide +kernel
theorem dX9_addEquation_14 : decode cX9_addEquation 14 = .ok (.getfield 18, 3) := by decide +kernel
theorem dX9_addEquation_17 : decode cX9_addEquation 17 = .ok (.aaload, 1) := by decide +kernel
theorem dX9_addEquation_18 : decode cX9_addEquation 18 = .ok (.getfield 82, 3) := by decide +kernel
theorem dX9_addEquation_21 : decode cX9_addEquation 21 = .ok (.ifCond .le 49, 3) := by decide +kernel
theorem dX9_addEquation_24 : decode cX9_addEquation 24 = .ok (.aload_n 0, 1) := by decide +kernel
theorem dX9_addEquation_25 : decode cX9_addEquation 25 = .ok (.getfield 41, 3) := by decide +kernel
theorem dX9_addEquation_28 : decode cX9_addEquation 28 = .ok (.aload_n 0, 1) := by decide +kernel
theorem dX9_addEquation_29 : decode cX9_addEquation 29 = .ok (.getfield 18, 3) := by decide +kernel
theorem dX9_addEquation_32 : decode cX9_addEquation 32 = .ok (.aload_n 0, 1) := by decide +kernel
theorem dX9_addEquation_33 : decode cX9_addEquation 33 = .ok (.getfield 49, 3) := by decide +kernel
theorem dX9_addEquation_36 : decode cX9_addEquation 36 = .ok (.aload_n 0, 1) := by decide +kernel
theorem dX9_addEquation_37 : decode cX9_addEquation 37 = .ok (.getfield 18, 3) := by decide +kernel
theorem dX9_addEquation_40 : decode cX9_addEquation 40 = .ok (.aaload, 1) := by decide +kernel
theorem dX9_addEquation_41 : decode cX9_addEquation 41 = .ok (.getfield 85, 3) := by decide +kernel
theorem dX9_addEquation_44 : decode cX9_addEquation 44 = .ok (.iconst 0, 1) := by decide +kernel
theorem dX9_addEquation_45 : decode cX9_addEquation 45 = .ok (.iaload, 1) := by decide +kernel
theorem dX9_addEquation_46 : decode cX9_addEquation 46 = .ok (.invokestatic 71, 3) := by decide +kernel
theorem dX9_addEquation_49 : decode cX9_addEquation 49 = .ok (.iastore, 1) := by decide +kernel
theorem dX9_addEquation_50 : decode cX9_addEquation 50 = .ok (.aload_n 0, 1) := by decide +kernel
theorem dX9_addEquation_51 : decode cX9_addEquation 51 = .ok (.getfield 44, 3) := by decide +kernel
theorem dX9_addEquation_54 : decode cX9_addEquation 54 = .ok (.aload_n 0, 1) := by decide +kernel
theorem dX9_addEquation_55 : decode cX9_addEquation 55 = .ok (.getfield 18, 3) := by decide +kernel
theorem dX9_addEquation_58 : decode cX9_addEquation 58 = .ok (.iload_n 1, 1) := by decide +kernel
theorem dX9_addEquation_59 : decode cX9_addEquation 59 = .ok (.iastore, 1) := by decide +kernel
theorem dX9_addEquation_60 : decode cX9_addEquation 60 = .ok (.aload_n 0, 1) := by decide +kernel
theorem dX9_addEquation_61 : decode cX9_addEquation 61 = .ok (.dup, 1) := by decide +kernel
theorem dX9_addEquation_62 : decode cX9_addEquation 62 = .ok (.getfield 18, 3) := by decide +kernel
theorem dX9_addEquation_65 : decode cX9_addEquation 65 = .ok (.iconst 1, 1) := by decide +kernel
theorem dX9_addEquation_66 : decode cX9_addEquation 66 = .ok (.iadd, 1) := by decide +kernel
theorem dX9_addEquation_67 : decode cX9_addEquation 67 = .ok (.putfield 18, 3) := by decide +kernel
theorem dX9_addEquation_70 : decode cX9_addEquation 70 = .ok (.return_, 1) := by decide +kernel
set_option maxRecDepth 10000 in
set_option maxHeartbeats 4000000 in
theorem A_X9_addEquation_e {Z : az_Z} {d : Nat} (C : az_C Z yX9_addEquation cX9_addEquation 2 none d) (hD : 2 ≤ d) {σ : az_Hp} {v0 v1 : Int} {r : az_Hp} (h : fz_X9_addEquation σ v0 v1 = some r) : az_AW Z 2 0 [(11, v0), (0, v1)] [] σ (none, r) := by
  have hd1 : 1 ≤ d := by omega
  unfold fz_X9_addEquation at h
  refine az_al0 (pc := 0) C rfl rfl dX9_addEquation_0 ?_
  refine az_getI (pc := 1) C fl_X9_18 rfl dX9_addEquation_1 ?_
  refine az_bk16 (pc := 4) C dX9_addEquation_4 ?_
  refine az_icmp_ge (pc := 6) (tgt := 70) C h dX9_addEquation_6 (by decide) (fun _ h => ?_) (fun _ h => ?_)
  · obtain rfl := Option.some.inj h
    exact az_return (pc := 70) C dX9_addEquation_70 rfl
  refine az_al0 (pc := 9) C rfl rfl dX9_addEquation_9 ?_
  refine az_getR (pc := 10) (c2 := 16) C h fl_X9_49 rfl rfl dX9_addEquation_10 (fun h => ?_)
  refine az_al0 (pc := 13) C rfl rfl dX9_addEquation_13 ?_
  refine az_getI (pc := 14) C fl_X9_18 rfl dX9_addEquation_14 ?_
  refine az_aaload (pc := 17) C h dX9_addEquation_17 (fun h => ?_)
  refine az_getI (pc := 18) C fl_X9_82 rfl dX9_addEquation_18 ?_
  refine az_if_le (pc := 21) (tgt := 70) C h dX9_addEquation_21 (by decide) (fun _ h => ?_) (fun _ h => ?_)
  · obtain rfl := Option.some.inj h
    exact az_return (pc := 70) C dX9_addEquation_70 rfl
  refine az_al0 (pc := 24) C rfl rfl dX9_addEquation_24 ?_
  refine az_getR (pc := 25) (c2 := 13) C h fl_X9_41 rfl rfl dX9_addEquation_25 (fun h => ?_)
  refine az_al0 (pc := 28) C rfl rfl dX9_addEquation_28 ?_
  refine az_getI (pc := 29) C fl_X9_18 rfl dX9_addEquation_29 ?_
  refine az_al0 (pc := 32) C rfl rfl dX9_addEquation_32 ?_
  refine az_getR (pc := 33) (c2 := 16) C h fl_X9_49 rfl rfl dX9_addEquation_33 (fun h => ?_)
  refine az_al0 (pc := 36) C rfl rfl dX9_addEquation_36 ?_
  refine az_getI (pc := 37) C fl_X9_18 rfl dX9_addEquation_37 ?_
  refine az_aaload (pc := 40) C h dX9_addEquation_40 (fun h => ?_)
  refine az_getR (pc := 41) (c2 := 13) C h fl_X9_85 rfl rfl dX9_addEquation_41 (fun h => ?_)
  refine az_ik0 (pc := 44) C dX9_addEquation_44 ?_
  refine az_iaload (pc := 45) C h dX9_addEquation_45 (fun h => ?_)
  refine az_cS1pi (pc := 46) C hd1 h ms_X7_number ml_X9_71 rfl (fun x hx => A_X7_number (by omega) hx) dX9_addEquation_46 (fun r8 h => ?_)
  refine az_iastore (pc := 49) C h dX9_addEquation_49 (fun h => ?_)
  refine az_al0 (pc := 50) C rfl rfl dX9_addEquation_50 ?_
  refine az_getR (pc := 51) (c2 := 13) C h fl_X9_44 rfl rfl dX9_addEquation_51 (fun h => ?_)
  refine az_al0 (pc := 54) C rfl rfl dX9_addEquation_54 ?_
  refine az_getI (pc := 55) C fl_X9_18 rfl dX9_addEquation_55 ?_
  refine az_il1 (pc := 58) C dX9_addEquation_58 ?_
  refine az_iastore (pc := 59) C h dX9_addEquation_59 (fun h => ?_)
  refine az_al0 (pc := 60) C rfl rfl dX9_addEquation_60 ?_
  refine az_dup (pc := 61) C rfl rfl dX9_addEquation_61 ?_
  refine az_getI (pc := 62) C fl_X9_18 rfl dX9_addEquation_62 ?_
  refine az_ik1 (pc := 65) C dX9_addEquation_65 ?_
  refine az_iadd (pc := 66) C dX9_addEquation_66 ?_
  refine az_putI (pc := 67) C fl_X9_18 (Or.inl rfl) rfl dX9_addEquation_67 ?_
  obtain rfl := Option.some.inj h
  exact az_return (pc := 70) C dX9_addEquation_70 rfl
set_option maxRecDepth 10000 in
set_option maxHeartbeats 4000000 in
theorem A_X9_addEquation {l : Launch} {d : Nat} (hD : 2 ≤ d) {σ : az_Hp} {v0 v1 : Int} {r : az_Hp} (h : fz_X9_addEquation σ v0 v1 = some r) : az_AC l yX9_addEquation cX9_addEquation 2 none d [(11, v0), (0, v1)] σ (none, r) := az_AC.of mt_X9_addEquation rfl rfl rfl (fun Z hZ C => A_X9_addEquation_e C hD h)
theorem dX4_readEquation_0 : decode cX4_readEquation 0 = .ok (.aload_n 0, 1) := by decide +kernel
theorem dX4_readEquation_1 : decode cX4_readEquation 1 = .ok (.invokevirtual 127, 3) := by decide +kernel
theorem dX4_readEquation_4 : decode cX4_readEquation 4 = .ok (.aload_n 0, 1) := by decide +kernel
theorem dX4_readEquation_5 : decode cX4_readEquation 5 = .ok (.bipush 6, 2) := by decide +kernel
theorem dX4_readEquation_7 : decode cX4_readEquation 7 = .ok (.invokevirtual 98, 3) := by decide +kernel
theorem dX4_readEquation_10 : decode cX4_readEquation 10 = .ok (.aload_n 0, 1) := by decide +kernel
theorem dX4_readEquation_11 : decode cX4_readEquation 11 = .ok (.aload_n 0, 1) := by decide +kernel
theorem dX4_readEquation_12 : decode cX4_readEquation 12 = .ok (.getfield 56, 3) := by decide +kernel
theorem dX4_readEquation_15 : decode cX4_readEquation 15 = .ok (.getfield 143, 3) := by decide +kernel
theorem dX4_readEquation_18 : decode cX4_readEquation 18 = .ok (.iload_n 1, 1) := by decide +kernel
theorem dX4_readEquation_19 : decode cX4_readEquation 19 = .ok (.aaload, 1) := by decide +kernel
theorem dX4_readEquation_20 : decode cX4_readEquation 20 = .ok (.aload_n 0, 1) := by decide +kernel
theorem dX4_readEquation_21 : decode cX4_readEquation 21 = .ok (.getfield 56, 3) := by decide +kernel
theorem dX4_readEquation_24 : decode cX4_readEquation 24 = .ok (.getfield 147, 3) := by decide +kernel
theorem dX4_readEquation_27 : decode cX4_readEquation 27 = .ok (.iload_n 1, 1) := by decide +kernel
theorem dX4_readEquation_28 : decode cX4_readEquation 28 = .ok (.aaload, 1) := by decide +kernel
theorem dX4_readEquation_29 : decode cX4_readEquation 29 = .ok (.iconst 0, 1) := by decide +kernel
theorem dX4_readEquation_30 : decode cX4_readEquation 30 = .ok (.iconst 1, 1) := by decide +kernel
theorem dX4_readEquation_31 : decode cX4_readEquation 31 = .ok (.invokevirtual 150, 3) := by decide +kernel
theorem dX4_readEquation_34 : decode cX4_readEquation 34 = .ok (.ifCond .ne 5, 3) := by decide +kernel
theorem dX4_readEquation_37 : decode cX4_readEquation 37 = .ok (.iconst 0, 1) := by decide +kernel
theorem dX4_readEquation_38 : decode cX4_readEquation 38 = .ok (.ireturn, 1) := by decide +kernel
theorem dX4_readEquation_39 : decode cX4_readEquation 39 = .ok (.aload_n 0, 1) := by decide +kernel
theorem dX4_readEquation_40 : decode cX4_readEquation 40 = .ok (.getfield 56, 3) := by decide +kernel
theorem dX4_readEquation_43 : decode cX4_readEquation 43 = .ok (.aload_n 0, 1) := by decide +kernel
theorem dX4_readEquation_44 : decode cX4_readEquation 44 = .ok (.getfield 22, 3) := by decide +kernel
theorem dX4_readEquation_47 : decode cX4_readEquation 47 = .ok (.invokevirtual 154, 3) := by decide +kernel
theorem dX4_readEquation_50 : decode cX4_readEquation 50 = .ok (.iconst 1, 1) := by decide +kernel
theorem dX4_readEquation_51 : decode cX4_readEquation 51 = .ok (.ireturn, 1) := by decide +kernel
set_option maxRecDepth 10000 in
set_option maxHeartbeats 4000000 in
theorem A_X4_readEquation_e {Z : az_Z} {d : Nat} (C : az_C Z yX4_readEquation cX4_readEquation 2 (some .boolean) d) (hD : 6 ≤ d) (n : Nat) {σ : az_Hp} {v0 v1 : Int} {r : (Int × az_Hp)} (h : fz_X4_readEquation n σ v0 v1 = some r) : az_AW Z 2 0 [(6, v0), (0, v1)] [] σ (some (0, r.1), r.2) := by
  have hd1 : 1 ≤ d := by omega
  unfold fz_X4_readEquation at h
  refine az_al0 (pc := 0) C rfl rfl dX4_readEquation_0 ?_
  refine az_cV0v (pc := 1) (c := 4) C hd1 h mv_X4_next ml_X4_127 rfl (fun x hx => A_X4_next (by omega) hx) dX4_readEquation_1 (fun r1 h => ?_)
  refine az_al0 (pc := 4) C rfl rfl dX4_readEquation_4 ?_
  refine az_bk6 (pc := 5) C dX4_readEquation_5 ?_
  refine az_cV1v (pc := 7) (c := 4) C hd1 h mv_X4_forgetWords ml_X4_98 rfl (fun x hx => A_X4_forgetWords (by omega) hx) dX4_readEquation_7 (fun r2 h => ?_)
  refine az_al0 (pc := 10) C rfl rfl dX4_readEquation_10 ?_
  refine az_al0 (pc := 11) C rfl rfl dX4_readEquation_11 ?_
  refine az_getR (pc := 12) (c2 := 9) C h fl_X4_56 rfl rfl dX4_readEquation_12 (fun h => ?_)
  refine az_getR (pc := 15) (c2 := 16) C h fl_X4_143 rfl rfl dX4_readEquation_15 (fun h => ?_)
  refine az_il1 (pc := 18) C dX4_readEquation_18 ?_
  refine az_aaload (pc := 19) C h dX4_readEquation_19 (fun h => ?_)
  refine az_al0 (pc := 20) C rfl rfl dX4_readEquation_20 ?_
  refine az_getR (pc := 21) (c2 := 9) C h fl_X4_56 rfl rfl dX4_readEquation_21 (fun h => ?_)
  refine az_getR (pc := 24) (c2 := 16) C h fl_X4_147 rfl rfl dX4_readEquation_24 (fun h => ?_)
  refine az_il1 (pc := 27) C dX4_readEquation_27 ?_
  refine az_aaload (pc := 28) C h dX4_readEquation_28 (fun h => ?_)
  refine az_ik0 (pc := 29) C dX4_readEquation_29 ?_
  refine az_ik1 (pc := 30) C dX4_readEquation_30 ?_
  refine az_cV4ii (pc := 31) (c := 4) C hd1 h mv_X4_readBoth ml_X4_150 rfl (fun x hx => A_X4_readBoth (by omega) n hx) dX4_readEquation_31 (fun r9 h => ?_)
  refine az_if_ne (pc := 34) (tgt := 39) C h dX4_readEquation_34 (by decide) (fun _ h => ?_) (fun _ h => ?_)
  · refine az_al0 (pc := 39) C rfl rfl dX4_readEquation_39 ?_
    refine az_getR (pc := 40) (c2 := 9) C h fl_X4_56 rfl rfl dX4_readEquation_40 (fun h => ?_)
    refine az_al0 (pc := 43) C rfl rfl dX4_readEquation_43 ?_
    refine az_getI (pc := 44) C fl_X4_22 rfl dX4_readEquation_44 ?_
    refine az_cV1v (pc := 47) (c := 9) C hd1 h mv_X9_addEquation ml_X4_154 rfl (fun x hx => A_X9_addEquation (by omega) hx) dX4_readEquation_47 (fun r11 h => ?_)
    refine az_ik1 (pc := 50) C dX4_readEquation_50 ?_
    obtain rfl := Option.some.inj h
    exact az_zreturn (pc := 51) C (by decide) dX4_readEquation_51 rfl
  refine az_ik0 (pc := 37) C dX4_readEquation_37 ?_
  obtain rfl := Option.some.inj h
  exact az_zreturn (pc := 38) C (by decide) dX4_readEquation_38 rfl
set_option maxRecDepth 10000 in
set_option maxHeartbeats 4000000 in
theorem A_X4_readEquation {l : Launch} {d : Nat} (hD : 6 ≤ d) (n : Nat) {σ : az_Hp} {v0 v1 : Int} {r : (Int × az_Hp)} (h : fz_X4_readEquation n σ v0 v1 = some r) : az_AC l yX4_readEquation cX4_readEquation 2 (some .boolean) d [(6, v0), (0, v1)] σ (some (0, r.1), r.2) := az_AC.of mt_X4_readEquation rfl rfl rfl (fun Z hZ C => A_X4_readEquation_e C hD n h)
theorem dX9_addCon_0 : decode cX9_addCon 0 = .ok (.aload_n 0, 1) := by decide +kernel
theorem dX9_addCon_1 : decode cX9_addCon 1 = .ok (.getfield 9, 3) := by decide +kernel
theorem dX9_addCon_4 : decode cX9_addCon 4 = .ok (.bipush 8, 2) := by decide +kernel
theorem dX9_addCon_6 : decode cX9_addCon 6 = .ok (.if_icmp .ge 41, 3) := by decide +kernel
theorem dX9_addCon_9 : decode cX9_addCon 9 = .ok (.aload_n 0, 1) := by decide +kernel
theorem dX9_addCon_10 : decode cX9_addCon 10 = .ok (.getfield 21, 3) := by decide +kernel
theorem dX9_addCon_13 : decode cX9_addCon 13 = .ok (.aload_n 0, 1) := by decide +kernel
theorem dX9_addCon_14 : decode cX9_addCon 14 = .ok (.getfield 9, 3) := by decide +kernel
theorem dX9_addCon_17 : decode cX9_addCon 17 = .ok (.iload_n 1, 1) := by decide +kernel
theorem dX9_addCon_18 : decode cX9_addCon 18 = .ok (.iastore, 1) := by decide +kernel
theorem dX9_addCon_19 : decode cX9_addCon 19 = .ok (.aload_n 0, 1) := by decide +kernel
theorem dX9_addCon_20 : decode cX9_addCon 20 = .ok (.getfield 25, 3) := by decide +kernel
theorem dX9_addCon_23 : decode cX9_addCon 23 = .ok (.aload_n 0, 1) := by decide +kernel
theorem dX9_addCon_24 : decode cX9_addCon 24 = .ok (.getfield 9, 3) := by decide +kernel
theorem dX9_addCon_27 : decode cX9_addCon 27 = .ok (.iconst 1, 1) := by decide +kernel
theorem dX9_addCon_28 : decode cX9_addCon 28 = .ok (.iload_n 2, 1) := by decide +kernel
theorem dX9_addCon_29 : decode cX9_addCon 29 = .ok (.aload_n 0, 1) := by decide +kernel
theorem dX9_addCon_30 : decode cX9_addCon 30 = .ok (.getfield 9, 3) := by decide +kernel
theorem dX9_addCon_33 : decode cX9_addCon 33 = .ok (.invokestatic 78, 3) := by decide +kernel
theorem dX9_addCon_36 : decode cX9_addCon 36 = .ok (.iastore, 1) := by decide +kernel
theorem dX9_addCon_37 : decode cX9_addCon 37 = .ok (.aload_n 0, 1) := by decide +kernel
theorem dX9_addCon_38 : decode cX9_addCon 38 = .ok (.dup, 1) := by decide +kernel
theorem dX9_addCon_39 : decode cX9_addCon 39 = .ok (.getfield 9, 3) := by decide +kernel
theorem dX9_addCon_42 : decode cX9_addCon 42 = .ok (.iconst 1, 1) := by decide +kernel
theorem dX9_addCon_43 : decode cX9_addCon 43 = .ok (.iadd, 1) := by decide +kernel
theorem dX9_addCon_44 : decode cX9_addCon 44 = .ok (.putfield 9, 3) := by decide +kernel
theorem dX9_addCon_47 : decode cX9_addCon 47 = .ok (.return_, 1) := by decide +kernel
set_option maxRecDepth 10000 in
set_option maxHeartbeats 4000000 in
theorem A_X9_addCon_e {Z : az_Z} {d : Nat} (C : az_C Z yX9_addCon cX9_addCon 3 none d) (hD : 2 ≤ d) {σ : az_Hp} {v0 v1 v2 : Int} {r : az_Hp} (h : fz_X9_addCon σ v0 v1 v2 = some r) : az_AW Z 3 0 [(11, v0), (0, v1), (0, v2)] [] σ (none, r) := by
  have hd1 : 1 ≤ d := by omega
  unfold fz_X9_addCon at h
  refine az_al0 (pc := 0) C rfl rfl dX9_addCon_0 ?_
  refine az_getI (pc := 1) C fl_X9_9 rfl dX9_addCon_1 ?_
  refine az_bk8 (pc := 4) C dX9_addCon_4 ?_
  refine az_icmp_ge (pc := 6) (tgt := 47) C h dX9_addCon_6 (by decide) (fun _ h => ?_) (fun _ h => ?_)
  · obtain rfl := Option.some.inj h
    exact az_return (pc := 47) C dX9_addCon_47 rfl
  refine az_al0 (pc := 9) C rfl rfl dX9_addCon_9 ?_
  refine az_getR (pc := 10) (c2 := 13) C h fl_X9_21 rfl rfl dX9_addCon_10 (fun h => ?_)
  refine az_al0 (pc := 13) C rfl rfl dX9_addCon_13 ?_
  refine az_getI (pc := 14) C fl_X9_9 rfl dX9_addCon_14 ?_
  refine az_il1 (pc := 17) C dX9_addCon_17 ?_
  refine az_iastore (pc := 18) C h dX9_addCon_18 (fun h => ?_)
  refine az_al0 (pc := 19) C rfl rfl dX9_addCon_19 ?_
  refine az_getR (pc := 20) (c2 := 13) C h fl_X9_25 rfl rfl dX9_addCon_20 (fun h => ?_)
  refine az_al0 (pc := 23) C rfl rfl dX9_addCon_23 ?_
  refine az_getI (pc := 24) C fl_X9_9 rfl dX9_addCon_24 ?_
  refine az_ik1 (pc := 27) C dX9_addCon_27 ?_
  refine az_il2 (pc := 28) C dX9_addCon_28 ?_
  refine az_al0 (pc := 29) C rfl rfl dX9_addCon_29 ?_
  refine az_getI (pc := 30) C fl_X9_9 rfl dX9_addCon_30 ?_
  refine az_cS3pi (pc := 33) C hd1 h ms_X7_make ml_X9_78 rfl (fun x hx => A_X7_make (by omega) hx) dX9_addCon_33 (fun r4 h => ?_)
  refine az_iastore (pc := 36) C h dX9_addCon_36 (fun h => ?_)
  refine az_al0 (pc := 37) C rfl rfl dX9_addCon_37 ?_
  refine az_dup (pc := 38) C rfl rfl dX9_addCon_38 ?_
  refine az_getI (pc := 39) C fl_X9_9 rfl dX9_addCon_39 ?_
  refine az_ik1 (pc := 42) C dX9_addCon_42 ?_
  refine az_iadd (pc := 43) C dX9_addCon_43 ?_
  refine az_putI (pc := 44) C fl_X9_9 (Or.inl rfl) rfl dX9_addCon_44 ?_
  obtain rfl := Option.some.inj h
  exact az_return (pc := 47) C dX9_addCon_47 rfl
set_option maxRecDepth 10000 in
set_option maxHeartbeats 4000000 in
theorem A_X9_addCon {l : Launch} {d : Nat} (hD : 2 ≤ d) {σ : az_Hp} {v0 v1 v2 : Int} {r : az_Hp} (h : fz_X9_addCon σ v0 v1 v2 = some r) : az_AC l yX9_addCon cX9_addCon 3 none d [(11, v0), (0, v1), (0, v2)] σ (none, r) := az_AC.of mt_X9_addCon rfl rfl rfl (fun Z hZ C => A_X9_addCon_e C hD h)
theorem dX9_addFam_0 : decode cX9_addFam 0 = .ok (.aload_n 0, 1) := by decide +kernel
theorem dX9_addFam_1 : decode cX9_addFam 1 = .ok (.getfield 15, 3) := by decide +kernel
theorem dX9_addFam_4 : decode cX9_addFam 4 = .ok (.iconst 5, 1) := by decide +kernel
theorem dX9_addFam_5 : decode cX9_addFam 5 = .ok (.if_icmp .ge 62, 3) := by decide +kernel
theorem dX9_addFam_8 : decode cX9_addFam 8 = .ok (.aload_n 0, 1) := by decide +kernel
theorem dX9_addFam_9 : decode cX9_addFam 9 = .ok (.getfield 28, 3) := by decide +kernel
theorem dX9_addFam_12 : decode cX9_addFam 12 = .ok (.aload_n 0, 1) := by decide +kernel
theorem dX9_addFam_13 : decode cX9_addFam 13 = .ok (.getfield 15, 3) := by decide +kernel
theorem dX9_addFam_16 : decode cX9_addFam 16 = .ok (.iload_n 1, 1) := by decide +kernel
theorem dX9_addFam_17 : decode cX9_addFam 17 = .ok (.iastore, 1) := by decide +kernel
theorem dX9_addFam_18 : decode cX9_addFam 18 = .ok (.aload_n 0, 1) := by decide +kernel
theorem dX9_addFam_19 : decode cX9_addFam 19 = .ok (.getfield 31, 3) := by decide +kernel
theorem dX9_addFam_22 : decode cX9_addFam 22 = .ok (.aload_n 0, 1) := by decide +kernel
theorem dX9_addFam_23 : decode cX9_addFam 23 = .ok (.getfield 15, 3) := by decide +kernel
theorem dX9_addFam_26 : decode cX9_addFam 26 = .ok (.iconst 2, 1) := by decide +kernel
theorem dX9_addFam_27 : decode cX9_addFam 27 = .ok (.iload_n 2, 1) := by decide +kernel
theorem dX9_addFam_28 : decode cX9_addFam 28 = .ok (.aload_n 0, 1) := by decide +kernel
theorem dX9_addFam_29 : decode cX9_addFam 29 = .ok (.getfield 15, 3) := by decide +kernel
theorem dX9_addFam_32 : decode cX9_addFam 32 = .ok (.invokestatic 78, 3) := by decide +kernel
theorem dX9_addFam_35 : decode cX9_addFam 35 = .ok (.iastore, 1) := by decide +kernel
theorem dX9_addFam_36 : decode cX9_addFam 36 = .ok (.aload_n 0, 1) := by decide +kernel
theorem dX9_addFam_37 : decode cX9_addFam 37 = .ok (.getfield 34, 3) := by decide +kernel
theorem dX9_addFam_40 : decode cX9_addFam 40 = .ok (.aload_n 0, 1) := by decide +kernel
theorem dX9_addFam_41 : decode cX9_addFam 41 = .ok (.getfield 15, 3) := by decide +kernel
theorem dX9_addFam_44 : decode cX9_addFam 44 = .ok (.iload_n 3, 1) := by decide +kernel
theorem dX9_addFam_45 : decode cX9_addFam 45 = .ok (.bastore, 1) := by decide +kernel
theorem dX9_addFam_46 : decode cX9_addFam 46 = .ok (.aload_n 0, 1) := by decide +kernel
theorem dX9_addFam_47 : decode cX9_addFam 47 = .ok (.getfield 38, 3) := by decide +kernel
theorem dX9_addFam_50 : decode cX9_addFam 50 = .ok (.aload_n 0, 1) := by decide +kernel
theorem dX9_addFam_51 : decode cX9_addFam 51 = .ok (.getfield 15, 3) := by decide +kernel
theorem dX9_addFam_54 : decode cX9_addFam 54 = .ok (.iload 4, 2) := by decide +kernel
theorem dX9_addFam_56 : decode cX9_addFam 56 = .ok (.bastore, 1) := by decide +kernel
theorem dX9_addFam_57 : decode cX9_addFam 57 = .ok (.aload_n 0, 1) := by decide +kernel
theorem dX9_addFam_58 : decode cX9_addFam 58 = .ok (.dup, 1) := by decide +kernel
theorem dX9_addFam_59 : decode cX9_addFam 59 = .ok (.getfield 15, 3) := by decide +kernel
theorem dX9_addFam_62 : decode cX9_addFam 62 = .ok (.iconst 1, 1) := by decide +kernel
theorem dX9_addFam_63 : decode cX9_addFam 63 = .ok (.iadd, 1) := by decide +kernel
theorem dX9_addFam_64 : decode cX9_addFam 64 = .ok (.putfield 15, 3) := by decide +kernel
theorem dX9_addFam_67 : decode cX9_addFam 67 = .ok (.return_, 1) := by decide +kernel
set_option maxRecDepth 10000 in
set_option maxHeartbeats 4000000 in
theorem A_X9_addFam_e {Z : az_Z} {d : Nat} (C : az_C Z yX9_addFam cX9_addFam 5 none d) (hD : 2 ≤ d) {σ : az_Hp} {v0 v1 v2 v3 v4 : Int} {r : az_Hp} (h : fz_X9_addFam σ v0 v1 v2 v3 v4 = some r) : az_AW Z 5 0 [(11, v0), (0, v1), (0, v2), (0, v3), (0, v4)] [] σ (none, r) := by
  have hd1 : 1 ≤ d := by omega
  unfold fz_X9_addFam at h
  refine az_al0 (pc := 0) C rfl rfl dX9_addFam_0 ?_
  refine az_getI (pc := 1) C fl_X9_15 rfl dX9_addFam_1 ?_
  refine az_ik5 (pc := 4) C dX9_addFam_4 ?_
  refine az_icmp_ge (pc := 5) (tgt := 67) C h dX9_addFam_5 (by decide) (fun _ h => ?_) (fun _ h => ?_)
  · obtain rfl := Option.some.inj h
    exact az_return (pc := 67) C dX9_addFam_67 rfl
  refine az_al0 (pc := 8) C rfl rfl dX9_addFam_8 ?_
  refine az_getR (pc := 9) (c2 := 13) C h fl_X9_28 rfl rfl dX9_addFam_9 (fun h => ?_)
  refine az_al0 (pc := 12) C rfl rfl dX9_addFam_12 ?_
  refine az_getI (pc := 13) C fl_X9_15 rfl dX9_addFam_13 ?_
  refine az_il1 (pc := 16) C dX9_addFam_16 ?_
  refine az_iastore (pc := 17) C h dX9_addFam_17 (fun h => ?_)
  refine az_al0 (pc := 18) C rfl rfl dX9_addFam_18 ?_
  refine az_getR (pc := 19) (c2 := 13) C h fl_X9_31 rfl rfl dX9_addFam_19 (fun h => ?_)
  refine az_al0 (pc := 22) C rfl rfl dX9_addFam_22 ?_
  refine az_getI (pc := 23) C fl_X9_15 rfl dX9_addFam_23 ?_
  refine az_ik2 (pc := 26) C dX9_addFam_26 ?_
  refine az_il2 (pc := 27) C dX9_addFam_27 ?_
  refine az_al0 (pc := 28) C rfl rfl dX9_addFam_28 ?_
  refine az_getI (pc := 29) C fl_X9_15 rfl dX9_addFam_29 ?_
  refine az_cS3pi (pc := 32) C hd1 h ms_X7_make ml_X9_78 rfl (fun x hx => A_X7_make (by omega) hx) dX9_addFam_32 (fun r4 h => ?_)
  refine az_iastore (pc := 35) C h dX9_addFam_35 (fun h => ?_)
  refine az_al0 (pc := 36) C rfl rfl dX9_addFam_36 ?_
  refine az_getR (pc := 37) (c2 := 15) C h fl_X9_34 rfl rfl dX9_addFam_37 (fun h => ?_)
  refine az_al0 (pc := 40) C rfl rfl dX9_addFam_40 ?_
  refine az_getI (pc := 41) C fl_X9_15 rfl dX9_addFam_41 ?_
  refine az_il3 (pc := 44) C dX9_addFam_44 ?_
  refine az_zastore (pc := 45) C h dX9_addFam_45 (fun h => ?_)
  refine az_al0 (pc := 46) C rfl rfl dX9_addFam_46 ?_
  refine az_getR (pc := 47) (c2 := 15) C h fl_X9_38 rfl rfl dX9_addFam_47 (fun h => ?_)
  refine az_al0 (pc := 50) C rfl rfl dX9_addFam_50 ?_
  refine az_getI (pc := 51) C fl_X9_15 rfl dX9_addFam_51 ?_
  refine az_il4 (pc := 54) C dX9_addFam_54 ?_
  refine az_zastore (pc := 56) C h dX9_addFam_56 (fun h => ?_)
  refine az_al0 (pc := 57) C rfl rfl dX9_addFam_57 ?_
  refine az_dup (pc := 58) C rfl rfl dX9_addFam_58 ?_
  refine az_getI (pc := 59) C fl_X9_15 rfl dX9_addFam_59 ?_
  refine az_ik1 (pc := 62) C dX9_addFam_62 ?_
  refine az_iadd (pc := 63) C dX9_addFam_63 ?_
  refine az_putI (pc := 64) C fl_X9_15 (Or.inl rfl) rfl dX9_addFam_64 ?_
  obtain rfl := Option.some.inj h
  exact az_return (pc := 67) C dX9_addFam_67 rfl
set_option maxRecDepth 10000 in
set_option maxHeartbeats 4000000 in
theorem A_X9_addFam {l : Launch} {d : Nat} (hD : 2 ≤ d) {σ : az_Hp} {v0 v1 v2 v3 v4 : Int} {r : az_Hp} (h : fz_X9_addFam σ v0 v1 v2 v3 v4 = some r) : az_AC l yX9_addFam cX9_addFam 5 none d [(11, v0), (0, v1), (0, v2), (0, v3), (0, v4)] σ (none, r) := az_AC.of mt_X9_addFam rfl rfl rfl (fun Z hZ C => A_X9_addFam_e C hD h)
theorem dX4_readHead_0 : decode cX4_readHead 0 = .ok (.aload_n 0, 1) := by decide +kernel
theorem dX4_readHead_1 : decode cX4_readHead 1 = .ok (.invokevirtual 127, 3) := by decide +kernel
theorem dX4_readHead_4 : decode cX4_readHead 4 = .ok (.aload_n 0, 1) := by decide +kernel
theorem dX4_readHead_5 : decode cX4_readHead 5 = .ok (.getfield 41, 3) := by decide +kernel
theorem dX4_readHead_8 : decode cX4_readHead 8 = .ok (.iconst 2, 1) := by decide +kernel
theorem dX4_readHead_9 : decode cX4_readHead 9 = .ok (.if_icmp .eq 9, 3) := by decide +kernel
theorem dX4_readHead_12 : decode cX4_readHead 12 = .ok (.aload_n 0, 1) := by decide +kernel
theorem dX4_readHead_13 : decode cX4_readHead 13 = .ok (.iconst 2, 1) := by decide +kernel
theorem dX4_readHead_14 : decode cX4_readHead 14 = .ok (.invokevirtual 84, 3) := by decide +kernel
theorem dX4_readHead_17 : decode cX4_readHead 17 = .ok (.ireturn, 1) := by decide +kernel
theorem dX4_readHead_18 : decode cX4_readHead 18 = .ok (.aload_n 0, 1) := by decide +kernel
theorem dX4_readHead_19 : decode cX4_readHead 19 = .ok (.getfield 44, 3) := by decide +kernel
theorem dX4_readHead_22 : decode cX4_readHead 22 = .ok (.istore_n 3, 1) := by decide +kernel
theorem dX4_readHead_23 : decode cX4_readHead 23 = .ok (.aload_n 0, 1) := by decide +kernel
theorem dX4_readHead_24 : decode cX4_readHead 24 = .ok (.getfield 56, 3) := by decide +kernel
theorem dX4_readHead_27 : decode cX4_readHead 27 = .ok (.iload_n 3, 1) := by decide +kernel
theorem dX4_readHead_28 : decode cX4_readHead 28 = .ok (.invokevirtual 130, 3) := by decide +kernel
theorem dX4_readHead_31 : decode cX4_readHead 31 = .ok (.iconst (-1), 1) := by decide +kernel
theorem dX4_readHead_32 : decode cX4_readHead 32 = .ok (.if_icmp .eq 9, 3) := by decide +kernel
theorem dX4_readHead_35 : decode cX4_readHead 35 = .ok (.aload_n 0, 1) := by decide +kernel
theorem dX4_readHead_36 : decode cX4_readHead 36 = .ok (.iconst 4, 1) := by decide +kernel
theorem dX4_readHead_37 : decode cX4_readHead 37 = .ok (.invokevirtual 84, 3) := by decide +kernel
theorem dX4_readHead_40 : decode cX4_readHead 40 = .ok (.ireturn, 1) := by decide +kernel
theorem dX4_readHead_41 : decode cX4_readHead 41 = .ok (.aload_n 0, 1) := by decide +kernel
theorem dX4_readHead_42 : decode cX4_readHead 42 = .ok (.invokevirtual 127, 3) := by decide +kernel
theorem dX4_readHead_45 : decode cX4_readHead 45 = .ok (.aload_n 0, 1) := by decide +kernel
theorem dX4_readHead_46 : decode cX4_readHead 46 = .ok (.getfield 41, 3) := by decide +kernel
theorem dX4_readHead_49 : decode cX4_readHead 49 = .ok (.iconst 4, 1) := by decide +kernel
theorem dX4_readHead_50 : decode cX4_readHead 50 = .ok (.if_icmp .eq 9, 3) := by decide +kernel
theorem dX4_readHead_53 : decode cX4_readHead 53 = .ok (.aload_n 0, 1) := by decide +kernel
theorem dX4_readHead_54 : decode cX4_readHead 54 = .ok (.iconst 2, 1) := by decide +kernel
theorem dX4_readHead_55 : decode cX4_readHead 55 = .ok (.invokevirtual 84, 3) := by decide +kernel
theorem dX4_readHead_58 : decode cX4_readHead 58 = .ok (.ireturn, 1) := by decide +kernel
theorem dX4_readHead_59 : decode cX4_readHead 59 = .ok (.aload_n 0, 1) := by decide +kernel
theorem dX4_readHead_60 : decode cX4_readHead 60 = .ok (.getfield 44, 3) := by decide +kernel
theorem dX4_readHead_63 : decode cX4_readHead 63 = .ok (.istore 4, 2) := by decide +kernel
theorem dX4_readHead_65 : decode cX4_readHead 65 = .ok (.iload 4, 2) := by decide +kernel
theorem dX4_readHead_67 : decode cX4_readHead 67 = .ok (.iconst 3, 1) := by decide +kernel
theorem dX4_readHead_68 : decode cX4_readHead 68 = .ok (.if_icmp .gt 13, 3) := by decide +kernel
theorem dX4_readHead_71 : decode cX4_readHead 71 = .ok (.iload_n 1, 1) := by decide +kernel
theorem dX4_readHead_72 : decode cX4_readHead 72 = .ok (.iconst 2, 1) := by decide +kernel
theorem dX4_readHead_73 : decode cX4_readHead 73 = .ok (.if_icmp .ne 14, 3) := by decide +kernel
theorem dX4_readHead_76 : decode cX4_readHead 76 = .ok (.iload 4, 2) := by decide +kernel
theorem dX4_readHead_78 : decode cX4_readHead 78 = .ok (.ifCond .ne 9, 3) := by decide +kernel
theorem dX4_readHead_81 : decode cX4_readHead 81 = .ok (.aload_n 0, 1) := by decide +kernel
theorem dX4_readHead_82 : decode cX4_readHead 82 = .ok (.iconst 5, 1) := by decide +kernel
theorem dX4_readHead_83 : decode cX4_readHead 83 = .ok (.invokevirtual 84, 3) := by decide +kernel
theorem dX4_readHead_86 : decode cX4_readHead 86 = .ok (.ireturn, 1) := by decide +kernel
theorem dX4_readHead_87 : decode cX4_readHead 87 = .ok (.aload_n 0, 1) := by decide +kernel
theorem dX4_readHead_88 : decode cX4_readHead 88 = .ok (.invokevirtual 127, 3) := by decide +kernel
theorem dX4_readHead_91 : decode cX4_readHead 91 = .ok (.iload_n 1, 1) := by decide +kernel
theorem dX4_readHead_92 : decode cX4_readHead 92 = .ok (.iconst 2, 1) := by decide +kernel
theorem dX4_readHead_93 : decode cX4_readHead 93 = .ok (.if_icmp .ne 16, 3) := by decide +kernel
theorem dX4_readHead_96 : decode cX4_readHead 96 = .ok (.aload_n 0, 1) := by decide +kernel
theorem dX4_readHead_97 : decode cX4_readHead 97 = .ok (.ldc 134, 2) := by decide +kernel
theorem dX4_readHead_99 : decode cX4_readHead 99 = .ok (.invokevirtual 73, 3) := by decide +kernel
theorem dX4_readHead_102 : decode cX4_readHead 102 = .ok (.ifCond .eq 7, 3) := by decide +kernel
theorem dX4_readHead_105 : decode cX4_readHead 105 = .ok (.iconst 1, 1) := by decide +kernel
theorem dX4_readHead_106 : decode cX4_readHead 106 = .ok (.goto 4, 3) := by decide +kernel
theorem dX4_readHead_109 : decode cX4_readHead 109 = .ok (.iconst 0, 1) := by decide +kernel
theorem dX4_readHead_110 : decode cX4_readHead 110 = .ok (.istore 5, 2) := by decide +kernel
theorem dX4_readHead_112 : decode cX4_readHead 112 = .ok (.iload 5, 2) := by decide +kernel
theorem dX4_readHead_114 : decode cX4_readHead 114 = .ok (.ifCond .eq 7, 3) := by decide +kernel
theorem dX4_readHead_117 : decode cX4_readHead 117 = .ok (.aload_n 0, 1) := by decide +kernel
theorem dX4_readHead_118 : decode cX4_readHead 118 = .ok (.invokevirtual 127, 3) := by decide +kernel
theorem dX4_readHead_121 : decode cX4_readHead 121 = .ok (.aload_n 0, 1) := by decide +kernel
theorem dX4_readHead_122 : decode cX4_readHead 122 = .ok (.getfield 41, 3) := by decide +kernel
theorem dX4_readHead_125 : decode cX4_readHead 125 = .ok (.bipush 59, 2) := by decide +kernel
theorem dX4_readHead_127 : decode cX4_readHead 127 = .ok (.if_icmp .eq 9, 3) := by decide +kernel
theorem dX4_readHead_130 : decode cX4_readHead 130 = .ok (.aload_n 0, 1) := by decide +kernel
theorem dX4_readHead_131 : decode cX4_readHead 131 = .ok (.iconst 2, 1) := by decide +kernel
theorem dX4_readHead_132 : decode cX4_readHead 132 = .ok (.invokevirtual 84, 3) := by decide +kernel
theorem dX4_readHead_135 : decode cX4_readHead 135 = .ok (.ireturn, 1) := by decide +kernel
theorem dX4_readHead_136 : decode cX4_readHead 136 = .ok (.iload_n 1, 1) := by decide +kernel
theorem dX4_readHead_137 : decode cX4_readHead 137 = .ok (.iconst 1, 1) := by decide +kernel
theorem dX4_readHead_138 : decode cX4_readHead 138 = .ok (.if_icmp .ne 16, 3) := by decide +kernel
theorem dX4_readHead_141 : decode cX4_readHead 141 = .ok (.aload_n 0, 1) := by decide +kernel
theorem dX4_readHead_142 : decode cX4_readHead 142 = .ok (.getfield 56, 3) := by decide +kernel
theorem dX4_readHead_145 : decode cX4_readHead 145 = .ok (.iload_n 3, 1) := by decide +kernel
theorem dX4_readHead_146 : decode cX4_readHead 146 = .ok (.iload 4, 2) := by decide +kernel
theorem dX4_readHead_148 : decode cX4_readHead 148 = .ok (.invokevirtual 135, 3) := by decide +kernel
theorem dX4_readHead_151 : decode cX4_readHead 151 = .ok (.goto 16, 3) := by decide +kernel
theorem dX4_readHead_154 : decode cX4_readHead 154 = .ok (.aload_n 0, 1) := by decide +kernel
theorem dX4_readHead_155 : decode cX4_readHead 155 = .ok (.getfield 56, 3) := by decide +kernel
theorem dX4_readHead_158 : decode cX4_readHead 158 = .ok (.iload_n 3, 1) := by decide +kernel
theorem dX4_readHead_159 : decode cX4_readHead 159 = .ok (.iload 4, 2) := by decide +kernel
theorem dX4_readHead_161 : decode cX4_readHead 161 = .ok (.iload_n 2, 1) := by decide +kernel
theorem dX4_readHead_162 : decode cX4_readHead 162 = .ok (.iload 5, 2) := by decide +kernel
theorem dX4_readHead_164 : decode cX4_readHead 164 = .ok (.invokevirtual 139, 3) := by decide +kernel
theorem dX4_readHead_167 : decode cX4_readHead 167 = .ok (.aload_n 0, 1) := by decide +kernel
theorem dX4_readHead_168 : decode cX4_readHead 168 = .ok (.invokevirtual 127, 3) := by decide +kernel
theorem dX4_readHead_171 : decode cX4_readHead 171 = .ok (.iconst 1, 1) := by decide +kernel
theorem dX4_readHead_172 : decode cX4_readHead 172 = .ok (.ireturn, 1) := by decide +kernel
set_option maxRecDepth 10000 in
set_option maxHeartbeats 4000000 in
theorem A_X4_readHead_121 {Z : az_Z} {d : Nat} (C : az_C Z yX4_readHead cX4_readHead 6 (some .boolean) d) (hD : 3 ≤ d) (n : Nat) {σ : az_Hp} {v0 v1 v2 v3 v4 v5 : Int} {r : (Int × az_Hp)} (h : fz_X4_readHead_121 n σ v0 v1 v2 v3 v4 v5 = some r) : az_AW Z 6 121 [(6, v0), (0, v1), (0, v2), (0, v3), (0, v4), (0, v5)] [] σ (some (0, r.1), r.2) := by
  have hd1 : 1 ≤ d := by omega
  unfold fz_X4_readHead_121 at h
  refine az_al0 (pc := 121) C rfl rfl dX4_readHead_121 ?_
  refine az_getI (pc := 122) C fl_X4_41 rfl dX4_readHead_122 ?_
  refine az_bk59 (pc := 125) C dX4_readHead_125 ?_
  refine az_icmp_eq (pc := 127) (tgt := 136) C h dX4_readHead_127 (by decide) (fun _ h => ?_) (fun _ h => ?_)
  · refine az_il1 (pc := 136) C dX4_readHead_136 ?_
    refine az_ik1 (pc := 137) C dX4_readHead_137 ?_
    refine az_icmp_ne (pc := 138) (tgt := 154) C h dX4_readHead_138 (by decide) (fun _ h => ?_) (fun _ h => ?_)
    · refine az_al0 (pc := 154) C rfl rfl dX4_readHead_154 ?_
      refine az_getR (pc := 155) (c2 := 9) C h fl_X4_56 rfl rfl dX4_readHead_155 (fun h => ?_)
      refine az_il3 (pc := 158) C dX4_readHead_158 ?_
      refine az_il4 (pc := 159) C dX4_readHead_159 ?_
      refine az_il2 (pc := 161) C dX4_readHead_161 ?_
      refine az_il5 (pc := 162) C dX4_readHead_162 ?_
      refine az_cV4v (pc := 164) (c := 9) C hd1 h mv_X9_addFam ml_X4_139 rfl (fun x hx => A_X9_addFam (by omega) hx) dX4_readHead_164 (fun r2 h => ?_)
      refine az_al0 (pc := 167) C rfl rfl dX4_readHead_167 ?_
      refine az_cV0v (pc := 168) (c := 4) C hd1 h mv_X4_next ml_X4_127 rfl (fun x hx => A_X4_next (by omega) hx) dX4_readHead_168 (fun r3 h => ?_)
      refine az_ik1 (pc := 171) C dX4_readHead_171 ?_
      obtain rfl := Option.some.inj h
      exact az_zreturn (pc := 172) C (by decide) dX4_readHead_172 rfl
    refine az_al0 (pc := 141) C rfl rfl dX4_readHead_141 ?_
    refine az_getR (pc := 142) (c2 := 9) C h fl_X4_56 rfl rfl dX4_readHead_142 (fun h => ?_)
    refine az_il3 (pc := 145) C dX4_readHead_145 ?_
    refine az_il4 (pc := 146) C dX4_readHead_146 ?_
    refine az_cV2v (pc := 148) (c := 9) C hd1 h mv_X9_addCon ml_X4_135 rfl (fun x hx => A_X9_addCon (by omega) hx) dX4_readHead_148 (fun r5 h => ?_)
    refine az_goto (pc := 151) (tgt := 167) C dX4_readHead_151 (by decide) ?_
    refine az_al0 (pc := 167) C rfl rfl dX4_readHead_167 ?_
    refine az_cV0v (pc := 168) (c := 4) C hd1 h mv_X4_next ml_X4_127 rfl (fun x hx => A_X4_next (by omega) hx) dX4_readHead_168 (fun r6 h => ?_)
    refine az_ik1 (pc := 171) C dX4_readHead_171 ?_
    obtain rfl := Option.some.inj h
    exact az_zreturn (pc := 172) C (by decide) dX4_readHead_172 rfl
  refine az_al0 (pc := 130) C rfl rfl dX4_readHead_130 ?_
  refine az_ik2 (pc := 131) C dX4_readHead_131 ?_
  refine az_cV1ii (pc := 132) (c := 4) C hd1 h mv_X4_fail ml_X4_84 rfl (fun x hx => A_X4_fail (by omega) hx) dX4_readHead_132 (fun r7 h => ?_)
  obtain ⟨hz, h⟩ := az_zif h
  obtain rfl := Option.some.inj h
  exact az_zreturn (pc := 135) C hz dX4_readHead_135 rfl
set_option maxRecDepth 10000 in
set_option maxHeartbeats 4000000 in
theorem A_X4_readHead_110 {Z : az_Z} {d : Nat} (C : az_C Z yX4_readHead cX4_readHead 6 (some .boolean) d) (hD : 3 ≤ d) (n : Nat) {σ : az_Hp} {v0 v1 v2 v3 v4 w0 : Int} {r : (Int × az_Hp)} (h : fz_X4_readHead_110 n σ v0 v1 v2 v3 v4 w0 = some r) : az_AW Z 6 110 [(6, v0), (0, v1), (0, v2), (0, v3), (0, v4), (31, 0)] [(0, w0)] σ (some (0, r.1), r.2) := by
  have hd1 : 1 ≤ d := by omega
  unfold fz_X4_readHead_110 at h
  refine az_is5 (pc := 110) C rfl rfl dX4_readHead_110 ?_
  refine az_il5 (pc := 112) C dX4_readHead_112 ?_
  refine az_if_eq (pc := 114) (tgt := 121) C h dX4_readHead_114 (by decide) (fun _ h => ?_) (fun _ h => ?_)
  · exact (A_X4_readHead_121 C hD n h)
  refine az_al0 (pc := 117) C rfl rfl dX4_readHead_117 ?_
  refine az_cV0v (pc := 118) (c := 4) C hd1 h mv_X4_next ml_X4_127 rfl (fun x hx => A_X4_next (by omega) hx) dX4_readHead_118 (fun r1 h => ?_)
  exact (A_X4_readHead_121 C hD n h)
set_option maxRecDepth 10000 in
set_option maxHeartbeats 4000000 in
theorem A_X4_readHead_87 {Z : az_Z} {d : Nat} (C : az_C Z yX4_readHead cX4_readHead 6 (some .boolean) d) (hD : 3 ≤ d) (n : Nat) {σ : az_Hp} {v0 v1 v2 v3 v4 : Int} {r : (Int × az_Hp)} (h : fz_X4_readHead_87 n σ v0 v1 v2 v3 v4 = some r) : az_AW Z 6 87 [(6, v0), (0, v1), (0, v2), (0, v3), (0, v4), (31, 0)] [] σ (some (0, r.1), r.2) := by
  have hd1 : 1 ≤ d := by omega
  unfold fz_X4_readHead_87 at h
  refine az_al0 (pc := 87) C rfl rfl dX4_readHead_87 ?_
  refine az_cV0v (pc := 88) (c := 4) C hd1 h mv_X4_next ml_X4_127 rfl (fun x hx => A_X4_next (by omega) hx) dX4_readHead_88 (fun r1 h => ?_)
  refine az_il1 (pc := 91) C dX4_readHead_91 ?_
  refine az_ik2 (pc := 92) C dX4_readHead_92 ?_
  refine az_icmp_ne (pc := 93) (tgt := 109) C h dX4_readHead_93 (by decide) (fun _ h => ?_) (fun _ h => ?_)
  · refine az_ik0 (pc := 109) C dX4_readHead_109 ?_
    exact (A_X4_readHead_110 C hD n h)
  refine az_al0 (pc := 96) C rfl rfl dX4_readHead_96 ?_
  refine az_ldc (pc := 97) (x := 40187) C ct_X4_134 dX4_readHead_97 (by decide) ?_
  refine az_cV1pi (pc := 99) (c := 4) C hd1 h mv_X4_isWord ml_X4_73 rfl (fun x hx => A_X4_isWord (by omega) hx) dX4_readHead_99 (fun r2 h => ?_)
  refine az_if_eq (pc := 102) (tgt := 109) C h dX4_readHead_102 (by decide) (fun _ h => ?_) (fun _ h => ?_)
  · refine az_ik0 (pc := 109) C dX4_readHead_109 ?_
    exact (A_X4_readHead_110 C hD n h)
  refine az_ik1 (pc := 105) C dX4_readHead_105 ?_
  refine az_goto (pc := 106) (tgt := 110) C dX4_readHead_106 (by decide) ?_
  exact (A_X4_readHead_110 C hD n h)
set_option maxRecDepth 10000 in
set_option maxHeartbeats 4000000 in
theorem A_X4_readHead_e {Z : az_Z} {d : Nat} (C : az_C Z yX4_readHead cX4_readHead 6 (some .boolean) d) (hD : 3 ≤ d) (n : Nat) {σ : az_Hp} {v0 v1 v2 : Int} {r : (Int × az_Hp)} (h : fz_X4_readHead n σ v0 v1 v2 = some r) : az_AW Z 6 0 [(6, v0), (0, v1), (0, v2), (31, 0), (31, 0), (31, 0)] [] σ (some (0, r.1), r.2) := by
  have hd1 : 1 ≤ d := by omega
  unfold fz_X4_readHead at h
  refine az_al0 (pc := 0) C rfl rfl dX4_readHead_0 ?_
  refine az_cV0v (pc := 1) (c := 4) C hd1 h mv_X4_next ml_X4_127 rfl (fun x hx => A_X4_next (by omega) hx) dX4_readHead_1 (fun r1 h => ?_)
  refine az_al0 (pc := 4) C rfl rfl dX4_readHead_4 ?_
  refine az_getI (pc := 5) C fl_X4_41 rfl dX4_readHead_5 ?_
  refine az_ik2 (pc := 8) C dX4_readHead_8 ?_
  refine az_icmp_eq (pc := 9) (tgt := 18) C h dX4_readHead_9 (by decide) (fun _ h => ?_) (fun _ h => ?_)
  · refine az_al0 (pc := 18) C rfl rfl dX4_readHead_18 ?_
    refine az_getI (pc := 19) C fl_X4_44 rfl dX4_readHead_19 ?_
    refine az_is3 (pc := 22) C rfl rfl dX4_readHead_22 ?_
    refine az_al0 (pc := 23) C rfl rfl dX4_readHead_23 ?_
    refine az_getR (pc := 24) (c2 := 9) C h fl_X4_56 rfl rfl dX4_readHead_24 (fun h => ?_)
    refine az_il3 (pc := 27) C dX4_readHead_27 ?_
    refine az_cV1pi (pc := 28) (c := 9) C hd1 h mv_X9_codeOf ml_X4_130 rfl (fun x hx => A_X9_codeOf (by omega) n hx) dX4_readHead_28 (fun r3 h => ?_)
    refine az_ikm1 (pc := 31) C dX4_readHead_31 ?_
    refine az_icmp_eq (pc := 32) (tgt := 41) C h dX4_readHead_32 (by decide) (fun _ h => ?_) (fun _ h => ?_)
    · refine az_al0 (pc := 41) C rfl rfl dX4_readHead_41 ?_
      refine az_cV0v (pc := 42) (c := 4) C hd1 h mv_X4_next ml_X4_127 rfl (fun x hx => A_X4_next (by omega) hx) dX4_readHead_42 (fun r4 h => ?_)
      refine az_al0 (pc := 45) C rfl rfl dX4_readHead_45 ?_
      refine az_getI (pc := 46) C fl_X4_41 rfl dX4_readHead_46 ?_
      refine az_ik4 (pc := 49) C dX4_readHead_49 ?_
      refine az_icmp_eq (pc := 50) (tgt := 59) C h dX4_readHead_50 (by decide) (fun _ h => ?_) (fun _ h => ?_)
      · refine az_al0 (pc := 59) C rfl rfl dX4_readHead_59 ?_
        refine az_getI (pc := 60) C fl_X4_44 rfl dX4_readHead_60 ?_
        refine az_is4 (pc := 63) C rfl rfl dX4_readHead_63 ?_
        refine az_il4 (pc := 65) C dX4_readHead_65 ?_
        refine az_ik3 (pc := 67) C dX4_readHead_67 ?_
        refine az_icmp_gt (pc := 68) (tgt := 81) C h dX4_readHead_68 (by decide) (fun _ h => ?_) (fun _ h => ?_)
        · refine az_al0 (pc := 81) C rfl rfl dX4_readHead_81 ?_
          refine az_ik5 (pc := 82) C dX4_readHead_82 ?_
          refine az_cV1ii (pc := 83) (c := 4) C hd1 h mv_X4_fail ml_X4_84 rfl (fun x hx => A_X4_fail (by omega) hx) dX4_readHead_83 (fun r5 h => ?_)
          obtain ⟨hz, h⟩ := az_zif h
          obtain rfl := Option.some.inj h
          exact az_zreturn (pc := 86) C hz dX4_readHead_86 rfl
        refine az_il1 (pc := 71) C dX4_readHead_71 ?_
        refine az_ik2 (pc := 72) C dX4_readHead_72 ?_
        refine az_icmp_ne (pc := 73) (tgt := 87) C h dX4_readHead_73 (by decide) (fun _ h => ?_) (fun _ h => ?_)
        · exact (A_X4_readHead_87 C hD n h)
        refine az_il4 (pc := 76) C dX4_readHead_76 ?_
        refine az_if_ne (pc := 78) (tgt := 87) C h dX4_readHead_78 (by decide) (fun _ h => ?_) (fun _ h => ?_)
        · exact (A_X4_readHead_87 C hD n h)
        refine az_al0 (pc := 81) C rfl rfl dX4_readHead_81 ?_
        refine az_ik5 (pc := 82) C dX4_readHead_82 ?_
        refine az_cV1ii (pc := 83) (c := 4) C hd1 h mv_X4_fail ml_X4_84 rfl (fun x hx => A_X4_fail (by omega) hx) dX4_readHead_83 (fun r6 h => ?_)
        obtain ⟨hz, h⟩ := az_zif h
        obtain rfl := Option.some.inj h
        exact az_zreturn (pc := 86) C hz dX4_readHead_86 rfl
      refine az_al0 (pc := 53) C rfl rfl dX4_readHead_53 ?_
      refine az_ik2 (pc := 54) C dX4_readHead_54 ?_
      refine az_cV1ii (pc := 55) (c := 4) C hd1 h mv_X4_fail ml_X4_84 rfl (fun x hx => A_X4_fail (by omega) hx) dX4_readHead_55 (fun r7 h => ?_)
      obtain ⟨hz, h⟩ := az_zif h
      obtain rfl := Option.some.inj h
      exact az_zreturn (pc := 58) C hz dX4_readHead_58 rfl
    refine az_al0 (pc := 35) C rfl rfl dX4_readHead_35 ?_
    refine az_ik4 (pc := 36) C dX4_readHead_36 ?_
    refine az_cV1ii (pc := 37) (c := 4) C hd1 h mv_X4_fail ml_X4_84 rfl (fun x hx => A_X4_fail (by omega) hx) dX4_readHead_37 (fun r8 h => ?_)
    obtain ⟨hz, h⟩ := az_zif h
    obtain rfl := Option.some.inj h
    exact az_zreturn (pc := 40) C hz dX4_readHead_40 rfl
  refine az_al0 (pc := 12) C rfl rfl dX4_readHead_12 ?_
  refine az_ik2 (pc := 13) C dX4_readHead_13 ?_
  refine az_cV1ii (pc := 14) (c := 4) C hd1 h mv_X4_fail ml_X4_84 rfl (fun x hx => A_X4_fail (by omega) hx) dX4_readHead_14 (fun r9 h => ?_)
  obtain ⟨hz, h⟩ := az_zif h
  obtain rfl := Option.some.inj h
  exact az_zreturn (pc := 17) C hz dX4_readHead_17 rfl
set_option maxRecDepth 10000 in
set_option maxHeartbeats 4000000 in
theorem A_X4_readHead {l : Launch} {d : Nat} (hD : 3 ≤ d) (n : Nat) {σ : az_Hp} {v0 v1 v2 : Int} {r : (Int × az_Hp)} (h : fz_X4_readHead n σ v0 v1 v2 = some r) : az_AC l yX4_readHead cX4_readHead 6 (some .boolean) d [(6, v0), (0, v1), (0, v2)] σ (some (0, r.1), r.2) := az_AC.of mt_X4_readHead rfl rfl rfl (fun Z hZ C => A_X4_readHead_e C hD n h)
theorem dX9_clear_0 : decode cX9_clear 0 = .ok (.aload_n 0, 1) := by decide +kernel
theorem dX9_clear_1 : decode cX9_clear 1 = .ok (.iconst 0, 1) := by decide +kernel
theorem dX9_clear_2 : decode cX9_clear 2 = .ok (.putfield 9, 3) := by decide +kernel
theorem dX9_clear_5 : decode cX9_clear 5 = .ok (.aload_n 0, 1) := by decide +kernel
theorem dX9_clear_6 : decode cX9_clear 6 = .ok (.iconst 0, 1) := by decide +kernel
theorem dX9_clear_7 : decode cX9_clear 7 = .ok (.putfield 15, 3) := by decide +kernel
theorem dX9_clear_10 : decode cX9_clear 10 = .ok (.aload_n 0, 1) := by decide +kernel
theorem dX9_clear_11 : decode cX9_clear 11 = .ok (.iconst 0, 1) := by decide +kernel
theorem dX9_clear_12 : decode cX9_clear 12 = .ok (.putfield 18, 3) := by decide +kernel
theorem dX9_clear_15 : decode cX9_clear 15 = .ok (.return_, 1) := by decide +kernel
set_option maxRecDepth 10000 in
set_option maxHeartbeats 4000000 in
theorem A_X9_clear_e {Z : az_Z} {d : Nat} (C : az_C Z yX9_clear cX9_clear 1 none d) (hD : 1 ≤ d) {σ : az_Hp} {v0 : Int} {r : az_Hp} (h : fz_X9_clear σ v0 = some r) : az_AW Z 1 0 [(11, v0)] [] σ (none, r) := by
  have hd1 : 1 ≤ d := by omega
  unfold fz_X9_clear at h
  refine az_al0 (pc := 0) C rfl rfl dX9_clear_0 ?_
  refine az_ik0 (pc := 1) C dX9_clear_1 ?_
  refine az_putI (pc := 2) C fl_X9_9 (Or.inl rfl) rfl dX9_clear_2 ?_
  refine az_al0 (pc := 5) C rfl rfl dX9_clear_5 ?_
  refine az_ik0 (pc := 6) C dX9_clear_6 ?_
  refine az_putI (pc := 7) C fl_X9_15 (Or.inl rfl) rfl dX9_clear_7 ?_
  refine az_al0 (pc := 10) C rfl rfl dX9_clear_10 ?_
  refine az_ik0 (pc := 11) C dX9_clear_11 ?_
  refine az_putI (pc := 12) C fl_X9_18 (Or.inl rfl) rfl dX9_clear_12 ?_
  obtain rfl := Option.some.inj h
  exact az_return (pc := 15) C dX9_clear_15 rfl
set_option maxRecDepth 10000 in
set_option maxHeartbeats 4000000 in
theorem A_X9_clear {l : Launch} {d : Nat} (hD : 1 ≤ d) {σ : az_Hp} {v0 : Int} {r : az_Hp} (h : fz_X9_clear σ v0 = some r) : az_AC l yX9_clear cX9_clear 1 none d [(11, v0)] σ (none, r) := az_AC.of mt_X9_clear rfl rfl rfl (fun Z hZ C => A_X9_clear_e C hD h)
theorem dX4_readTold_0 : decode cX4_readTold 0 = .ok (.aload_n 3, 1) := by decide +kernel
theorem dX4_readTold_1 : decode cX4_readTold 1 = .ok (.invokevirtual 64, 3) := by decide +kernel
theorem dX4_readTold_4 : decode cX4_readTold 4 = .ok (.aload_n 0, 1) := by decide +kernel
theorem dX4_readTold_5 : decode cX4_readTold 5 = .ok (.aload_n 1, 1) := by decide +kernel
theorem dX4_readTold_6 : decode cX4_readTold 6 = .ok (.iload_n 2, 1) := by decide +kernel
theorem dX4_readTold_7 : decode cX4_readTold 7 = .ok (.aload_n 3, 1) := by decide +kernel
theorem dX4_readTold_8 : decode cX4_readTold 8 = .ok (.invokevirtual 69, 3) := by decide +kernel
theorem dX4_readTold_11 : decode cX4_readTold 11 = .ok (.iconst 0, 1) := by decide +kernel
theorem dX4_readTold_12 : decode cX4_readTold 12 = .ok (.istore 4, 2) := by decide +kernel
theorem dX4_readTold_14 : decode cX4_readTold 14 = .ok (.iload 4, 2) := by decide +kernel
theorem dX4_readTold_16 : decode cX4_readTold 16 = .ok (.sipush 900, 3) := by decide +kernel
theorem dX4_readTold_19 : decode cX4_readTold 19 = .ok (.if_icmp .ge 161, 3) := by decide +kernel
theorem dX4_readTold_22 : decode cX4_readTold 22 = .ok (.aload_n 0, 1) := by decide +kernel
theorem dX4_readTold_23 : decode cX4_readTold 23 = .ok (.getfield 41, 3) := by decide +kernel
theorem dX4_readTold_26 : decode cX4_readTold 26 = .ok (.ifCond .eq 154, 3) := by decide +kernel
theorem dX4_readTold_29 : decode cX4_readTold 29 = .ok (.aload_n 0, 1) := by decide +kernel
theorem dX4_readTold_30 : decode cX4_readTold 30 = .ok (.sipush 2606, 3) := by decide +kernel
theorem dX4_readTold_33 : decode cX4_readTold 33 = .ok (.invokevirtual 73, 3) := by decide +kernel
theorem dX4_readTold_36 : decode cX4_readTold 36 = .ok (.ifCond .eq 32, 3) := by decide +kernel
theorem dX4_readTold_39 : decode cX4_readTold 39 = .ok (.aload_n 3, 1) := by decide +kernel
theorem dX4_readTold_40 : decode cX4_readTold 40 = .ok (.getfield 77, 3) := by decide +kernel
theorem dX4_readTold_43 : decode cX4_readTold 43 = .ok (.bipush 8, 2) := by decide +kernel
theorem dX4_readTold_45 : decode cX4_readTold 45 = .ok (.if_icmp .ge 12, 3) := by decide +kernel
theorem dX4_readTold_48 : decode cX4_readTold 48 = .ok (.aload_n 0, 1) := by decide +kernel
theorem dX4_readTold_49 : decode cX4_readTold 49 = .ok (.iconst 1, 1) := by decide +kernel
theorem dX4_readTold_50 : decode cX4_readTold 50 = .ok (.iconst 0, 1) := by decide +kernel
theorem dX4_readTold_51 : decode cX4_readTold 51 = .ok (.invokevirtual 80, 3) := by decide +kernel
theorem dX4_readTold_54 : decode cX4_readTold 54 = .ok (.goto 9, 3) := by decide +kernel
theorem dX4_readTold_57 : decode cX4_readTold 57 = .ok (.aload_n 0, 1) := by decide +kernel
theorem dX4_readTold_58 : decode cX4_readTold 58 = .ok (.bipush 6, 2) := by decide +kernel
theorem dX4_readTold_60 : decode cX4_readTold 60 = .ok (.invokevirtual 84, 3) := by decide +kernel
theorem dX4_readTold_63 : decode cX4_readTold 63 = .ok (.istore 5, 2) := by decide +kernel
theorem dX4_readTold_65 : decode cX4_readTold 65 = .ok (.goto 102, 3) := by decide +kernel
theorem dX4_readTold_68 : decode cX4_readTold 68 = .ok (.aload_n 0, 1) := by decide +kernel
theorem dX4_readTold_69 : decode cX4_readTold 69 = .ok (.ldc 87, 2) := by decide +kernel
theorem dX4_readTold_71 : decode cX4_readTold 71 = .ok (.invokevirtual 73, 3) := by decide +kernel
theorem dX4_readTold_74 : decode cX4_readTold 74 = .ok (.ifCond .ne 12, 3) := by decide +kernel
theorem dX4_readTold_77 : decode cX4_readTold 77 = .ok (.aload_n 0, 1) := by decide +kernel
theorem dX4_readTold_78 : decode cX4_readTold 78 = .ok (.ldc 88, 2) := by decide +kernel
theorem dX4_readTold_80 : decode cX4_readTold 80 = .ok (.invokevirtual 73, 3) := by decide +kernel
theorem dX4_readTold_83 : decode cX4_readTold 83 = .ok (.ifCond .eq 36, 3) := by decide +kernel
theorem dX4_readTold_86 : decode cX4_readTold 86 = .ok (.aload_n 3, 1) := by decide +kernel
theorem dX4_readTold_87 : decode cX4_readTold 87 = .ok (.getfield 89, 3) := by decide +kernel
theorem dX4_readTold_90 : decode cX4_readTold 90 = .ok (.iconst 5, 1) := by decide +kernel
theorem dX4_readTold_91 : decode cX4_readTold 91 = .ok (.if_icmp .ge 17, 3) := by decide +kernel
theorem dX4_readTold_94 : decode cX4_readTold 94 = .ok (.aload_n 0, 1) := by decide +kernel
theorem dX4_readTold_95 : decode cX4_readTold 95 = .ok (.iconst 2, 1) := by decide +kernel
theorem dX4_readTold_96 : decode cX4_readTold 96 = .ok (.aload_n 0, 1) := by decide +kernel
theorem dX4_readTold_97 : decode cX4_readTold 97 = .ok (.ldc 88, 2) := by decide +kernel
theorem dX4_readTold_99 : decode cX4_readTold 99 = .ok (.invokevirtual 73, 3) := by decide +kernel
theorem dX4_readTold_102 : decode cX4_readTold 102 = .ok (.invokevirtual 80, 3) := by decide +kernel
theorem dX4_readTold_105 : decode cX4_readTold 105 = .ok (.goto 9, 3) := by decide +kernel
theorem dX4_readTold_108 : decode cX4_readTold 108 = .ok (.aload_n 0, 1) := by decide +kernel
theorem dX4_readTold_109 : decode cX4_readTold 109 = .ok (.bipush 6, 2) := by decide +kernel
theorem dX4_readTold_111 : decode cX4_readTold 111 = .ok (.invokevirtual 84, 3) := by decide +kernel
theorem dX4_readTold_114 : decode cX4_readTold 114 = .ok (.istore 5, 2) := by decide +kernel
theorem dX4_readTold_116 : decode cX4_readTold 116 = .ok (.goto 51, 3) := by decide +kernel
theorem dX4_readTold_119 : decode cX4_readTold 119 = .ok (.aload_n 0, 1) := by decide +kernel
theorem dX4_readTold_120 : decode cX4_readTold 120 = .ok (.sipush 152, 3) := by decide +kernel
theorem dX4_readTold_123 : decode cX4_readTold 123 = .ok (.invokevirtual 73, 3) := by decide +kernel
theorem dX4_readTold_126 : decode cX4_readTold 126 = .ok (.ifCond .eq 34, 3) := by decide +kernel
theorem dX4_readTold_129 : decode cX4_readTold 129 = .ok (.aload_n 3, 1) := by decide +kernel
theorem dX4_readTold_130 : decode cX4_readTold 130 = .ok (.getfield 92, 3) := by decide +kernel
theorem dX4_readTold_133 : decode cX4_readTold 133 = .ok (.bipush 16, 2) := by decide +kernel
theorem dX4_readTold_135 : decode cX4_readTold 135 = .ok (.if_icmp .ge 14, 3) := by decide +kernel
theorem dX4_readTold_138 : decode cX4_readTold 138 = .ok (.aload_n 0, 1) := by decide +kernel
theorem dX4_readTold_139 : decode cX4_readTold 139 = .ok (.aload_n 3, 1) := by decide +kernel
theorem dX4_readTold_140 : decode cX4_readTold 140 = .ok (.getfield 92, 3) := by decide +kernel
theorem dX4_readTold_143 : decode cX4_readTold 143 = .ok (.invokevirtual 95, 3) := by decide +kernel
theorem dX4_readTold_146 : decode cX4_readTold 146 = .ok (.goto 9, 3) := by decide +kernel
theorem dX4_readTold_149 : decode cX4_readTold 149 = .ok (.aload_n 0, 1) := by decide +kernel
theorem dX4_readTold_150 : decode cX4_readTold 150 = .ok (.bipush 6, 2) := by decide +kernel
theorem dX4_readTold_152 : decode cX4_readTold 152 = .ok (.invokevirtual 84, 3) := by decide +kernel
theorem dX4_readTold_155 : decode cX4_readTold 155 = .ok (.istore 5, 2) := by decide +kernel
theorem dX4_readTold_157 : decode cX4_readTold 157 = .ok (.goto 10, 3) := by decide +kernel
theorem dX4_readTold_160 : decode cX4_readTold 160 = .ok (.aload_n 0, 1) := by decide +kernel
theorem dX4_readTold_161 : decode cX4_readTold 161 = .ok (.iconst 2, 1) := by decide +kernel
theorem dX4_readTold_162 : decode cX4_readTold 162 = .ok (.invokevirtual 84, 3) := by decide +kernel
theorem dX4_readTold_165 : decode cX4_readTold 165 = .ok (.istore 5, 2) := by decide +kernel
theorem dX4_readTold_167 : decode cX4_readTold 167 = .ok (.iload 5, 2) := by decide +kernel
theorem dX4_readTold_169 : decode cX4_readTold 169 = .ok (.ifCond .ne 5, 3) := by decide +kernel
theorem dX4_readTold_172 : decode cX4_readTold 172 = .ok (.iconst 0, 1) := by decide +kernel
theorem dX4_readTold_173 : decode cX4_readTold 173 = .ok (.ireturn, 1) := by decide +kernel
theorem dX4_readTold_174 : decode cX4_readTold 174 = .ok (.iinc 4 1, 3) := by decide +kernel
theorem dX4_readTold_177 : decode cX4_readTold 177 = .ok (.goto (-163), 3) := by decide +kernel
theorem dX4_readTold_180 : decode cX4_readTold 180 = .ok (.iconst 1, 1) := by decide +kernel
theorem dX4_readTold_181 : decode cX4_readTold 181 = .ok (.ireturn, 1) := by decide +kernel
set_option maxRecDepth 10000 in
set_option maxHeartbeats 4000000 in
theorem A_X4_readTold_167 {Z : az_Z} {d : Nat} (C : az_C Z yX4_readTold cX4_readTold 6 (some .boolean) d) (hD : 7 ≤ d) (n : Nat) {k14 : az_Hp → Int → Int → Int → Option (Int × az_Hp)} (hk14 : ∀ {σ : az_Hp} {v0 v3 v4 : Int} {r : (Int × az_Hp)}, k14 σ v0 v3 v4 = some r → az_AW Z 6 14 [(6, v0), (31, 0), (31, 0), (11, v3), (0, v4), (31, 0)] [] σ (some (0, r.1), r.2)) {σ : az_Hp} {v0 v3 v4 v5 : Int} {r : (Int × az_Hp)} (h : fz_X4_readTold_167 n k14 σ v0 v3 v4 v5 = some r) : az_AW Z 6 167 [(6, v0), (31, 0), (31, 0), (11, v3), (0, v4), (0, v5)] [] σ (some (0, r.1), r.2) := by
  have hd1 : 1 ≤ d := by omega
  unfold fz_X4_readTold_167 at h
  refine az_il5 (pc := 167) C dX4_readTold_167 ?_
  refine az_if_ne (pc := 169) (tgt := 174) C h dX4_readTold_169 (by decide) (fun _ h => ?_) (fun _ h => ?_)
  · refine az_ii4 (pc := 174) C az_n1 rfl rfl dX4_readTold_174 ?_
    refine az_goto (pc := 177) (tgt := 14) C dX4_readTold_177 (by decide) ?_
    exact (az_wkk (hk14 h) (az_sE (az_sJ (az_sJ (az_sE (az_sE (az_sJ az_sN)))))))
  refine az_ik0 (pc := 172) C dX4_readTold_172 ?_
  obtain rfl := Option.some.inj h
  exact az_zreturn (pc := 173) C (by decide) dX4_readTold_173 rfl
set_option maxRecDepth 10000 in
set_option maxHeartbeats 4000000 in
theorem A_X4_readTold_86 {Z : az_Z} {d : Nat} (C : az_C Z yX4_readTold cX4_readTold 6 (some .boolean) d) (hD : 7 ≤ d) (n : Nat) {k14 : az_Hp → Int → Int → Int → Option (Int × az_Hp)} (hk14 : ∀ {σ : az_Hp} {v0 v3 v4 : Int} {r : (Int × az_Hp)}, k14 σ v0 v3 v4 = some r → az_AW Z 6 14 [(6, v0), (31, 0), (31, 0), (11, v3), (0, v4), (31, 0)] [] σ (some (0, r.1), r.2)) {σ : az_Hp} {v0 v3 v4 : Int} {r : (Int × az_Hp)} (h : fz_X4_readTold_86 n k14 σ v0 v3 v4 = some r) : az_AW Z 6 86 [(6, v0), (31, 0), (31, 0), (11, v3), (0, v4), (31, 0)] [] σ (some (0, r.1), r.2) := by
  have hd1 : 1 ≤ d := by omega
  unfold fz_X4_readTold_86 at h
  refine az_al3 (pc := 86) C rfl rfl dX4_readTold_86 ?_
  refine az_getI (pc := 87) C fl_X4_89 rfl dX4_readTold_87 ?_
  refine az_ik5 (pc := 90) C dX4_readTold_90 ?_
  refine az_icmp_ge (pc := 91) (tgt := 108) C h dX4_readTold_91 (by decide) (fun _ h => ?_) (fun _ h => ?_)
  · refine az_al0 (pc := 108) C rfl rfl dX4_readTold_108 ?_
    refine az_bk6 (pc := 109) C dX4_readTold_109 ?_
    refine az_cV1ii (pc := 111) (c := 4) C hd1 h mv_X4_fail ml_X4_84 rfl (fun x hx => A_X4_fail (by omega) hx) dX4_readTold_111 (fun r1 h => ?_)
    refine az_is5 (pc := 114) C rfl rfl dX4_readTold_114 ?_
    refine az_goto (pc := 116) (tgt := 167) C dX4_readTold_116 (by decide) ?_
    exact (A_X4_readTold_167 C hD n (fun h => hk14 h) h)
  refine az_al0 (pc := 94) C rfl rfl dX4_readTold_94 ?_
  refine az_ik2 (pc := 95) C dX4_readTold_95 ?_
  refine az_al0 (pc := 96) C rfl rfl dX4_readTold_96 ?_
  refine az_ldc (pc := 97) (x := 49733248) C ct_X4_88 dX4_readTold_97 (by decide) ?_
  refine az_cV1pi (pc := 99) (c := 4) C hd1 h mv_X4_isWord ml_X4_73 rfl (fun x hx => A_X4_isWord (by omega) hx) dX4_readTold_99 (fun r2 h => ?_)
  refine az_cV2ii (pc := 102) (c := 4) C hd1 h mv_X4_readHead ml_X4_80 rfl (fun x hx => A_X4_readHead (by omega) n hx) dX4_readTold_102 (fun r3 h => ?_)
  refine az_goto (pc := 105) (tgt := 114) C dX4_readTold_105 (by decide) ?_
  refine az_is5 (pc := 114) C rfl rfl dX4_readTold_114 ?_
  refine az_goto (pc := 116) (tgt := 167) C dX4_readTold_116 (by decide) ?_
  exact (A_X4_readTold_167 C hD n (fun h => hk14 h) h)
set_option maxRecDepth 10000 in
set_option maxHeartbeats 4000000 in
theorem A_X4_readTold_14 {Z : az_Z} {d : Nat} (C : az_C Z yX4_readTold cX4_readTold 6 (some .boolean) d) (hD : 7 ≤ d) (n : Nat) (k : Nat) : ∀ {σ : az_Hp} {v0 v3 v4 : Int} {r : (Int × az_Hp)}, fz_X4_readTold_14 n k σ v0 v3 v4 = some r → az_AW Z 6 14 [(6, v0), (31, 0), (31, 0), (11, v3), (0, v4), (31, 0)] [] σ (some (0, r.1), r.2) := by
  have hd1 : 1 ≤ d := by omega
  induction k with
  | zero => intro σ v0 v3 v4 r h; simp [fz_X4_readTold_14] at h
  | succ k ih =>
    intro σ v0 v3 v4 r h
    unfold fz_X4_readTold_14 at h
    refine az_il4 (pc := 14) C dX4_readTold_14 ?_
    refine az_sk900 (pc := 16) C dX4_readTold_16 ?_
    refine az_icmp_ge (pc := 19) (tgt := 180) C h dX4_readTold_19 (by decide) (fun _ h => ?_) (fun _ h => ?_)
    · refine az_ik1 (pc := 180) C dX4_readTold_180 ?_
      obtain rfl := Option.some.inj h
      exact az_zreturn (pc := 181) C (by decide) dX4_readTold_181 rfl
    refine az_al0 (pc := 22) C rfl rfl dX4_readTold_22 ?_
    refine az_getI (pc := 23) C fl_X4_41 rfl dX4_readTold_23 ?_
    refine az_if_eq (pc := 26) (tgt := 180) C h dX4_readTold_26 (by decide) (fun _ h => ?_) (fun _ h => ?_)
    · refine az_ik1 (pc := 180) C dX4_readTold_180 ?_
      obtain rfl := Option.some.inj h
      exact az_zreturn (pc := 181) C (by decide) dX4_readTold_181 rfl
    refine az_al0 (pc := 29) C rfl rfl dX4_readTold_29 ?_
    refine az_sk2606 (pc := 30) C dX4_readTold_30 ?_
    refine az_cV1pi (pc := 33) (c := 4) C hd1 h mv_X4_isWord ml_X4_73 rfl (fun x hx => A_X4_isWord (by omega) hx) dX4_readTold_33 (fun r1 h => ?_)
    refine az_if_eq (pc := 36) (tgt := 68) C h dX4_readTold_36 (by decide) (fun _ h => ?_) (fun _ h => ?_)
    · refine az_al0 (pc := 68) C rfl rfl dX4_readTold_68 ?_
      refine az_ldc (pc := 69) (x := 307058) C ct_X4_87 dX4_readTold_69 (by decide) ?_
      refine az_cV1pi (pc := 71) (c := 4) C hd1 h mv_X4_isWord ml_X4_73 rfl (fun x hx => A_X4_isWord (by omega) hx) dX4_readTold_71 (fun r2 h => ?_)
      refine az_if_ne (pc := 74) (tgt := 86) C h dX4_readTold_74 (by decide) (fun _ h => ?_) (fun _ h => ?_)
      · exact (A_X4_readTold_86 C hD n (fun h => ih h) h)
      refine az_al0 (pc := 77) C rfl rfl dX4_readTold_77 ?_
      refine az_ldc (pc := 78) (x := 49733248) C ct_X4_88 dX4_readTold_78 (by decide) ?_
      refine az_cV1pi (pc := 80) (c := 4) C hd1 h mv_X4_isWord ml_X4_73 rfl (fun x hx => A_X4_isWord (by omega) hx) dX4_readTold_80 (fun r3 h => ?_)
      refine az_if_eq (pc := 83) (tgt := 119) C h dX4_readTold_83 (by decide) (fun _ h => ?_) (fun _ h => ?_)
      · refine az_al0 (pc := 119) C rfl rfl dX4_readTold_119 ?_
        refine az_sk152 (pc := 120) C dX4_readTold_120 ?_
        refine az_cV1pi (pc := 123) (c := 4) C hd1 h mv_X4_isWord ml_X4_73 rfl (fun x hx => A_X4_isWord (by omega) hx) dX4_readTold_123 (fun r4 h => ?_)
        refine az_if_eq (pc := 126) (tgt := 160) C h dX4_readTold_126 (by decide) (fun _ h => ?_) (fun _ h => ?_)
        · refine az_al0 (pc := 160) C rfl rfl dX4_readTold_160 ?_
          refine az_ik2 (pc := 161) C dX4_readTold_161 ?_
          refine az_cV1ii (pc := 162) (c := 4) C hd1 h mv_X4_fail ml_X4_84 rfl (fun x hx => A_X4_fail (by omega) hx) dX4_readTold_162 (fun r5 h => ?_)
          refine az_is5 (pc := 165) C rfl rfl dX4_readTold_165 ?_
          exact (A_X4_readTold_167 C hD n (fun h => ih h) h)
        refine az_al3 (pc := 129) C rfl rfl dX4_readTold_129 ?_
        refine az_getI (pc := 130) C fl_X4_92 rfl dX4_readTold_130 ?_
        refine az_bk16 (pc := 133) C dX4_readTold_133 ?_
        refine az_icmp_ge (pc := 135) (tgt := 149) C h dX4_readTold_135 (by decide) (fun _ h => ?_) (fun _ h => ?_)
        · refine az_al0 (pc := 149) C rfl rfl dX4_readTold_149 ?_
          refine az_bk6 (pc := 150) C dX4_readTold_150 ?_
          refine az_cV1ii (pc := 152) (c := 4) C hd1 h mv_X4_fail ml_X4_84 rfl (fun x hx => A_X4_fail (by omega) hx) dX4_readTold_152 (fun r6 h => ?_)
          refine az_is5 (pc := 155) C rfl rfl dX4_readTold_155 ?_
          refine az_goto (pc := 157) (tgt := 167) C dX4_readTold_157 (by decide) ?_
          exact (A_X4_readTold_167 C hD n (fun h => ih h) h)
        refine az_al0 (pc := 138) C rfl rfl dX4_readTold_138 ?_
        refine az_al3 (pc := 139) C rfl rfl dX4_readTold_139 ?_
        refine az_getI (pc := 140) C fl_X4_92 rfl dX4_readTold_140 ?_
        refine az_cV1ii (pc := 143) (c := 4) C hd1 h mv_X4_readEquation ml_X4_95 rfl (fun x hx => A_X4_readEquation (by omega) n hx) dX4_readTold_143 (fun r7 h => ?_)
        refine az_goto (pc := 146) (tgt := 155) C dX4_readTold_146 (by decide) ?_
        refine az_is5 (pc := 155) C rfl rfl dX4_readTold_155 ?_
        refine az_goto (pc := 157) (tgt := 167) C dX4_readTold_157 (by decide) ?_
        exact (A_X4_readTold_167 C hD n (fun h => ih h) h)
      exact (A_X4_readTold_86 C hD n (fun h => ih h) h)
    refine az_al3 (pc := 39) C rfl rfl dX4_readTold_39 ?_
    refine az_getI (pc := 40) C fl_X4_77 rfl dX4_readTold_40 ?_
    refine az_bk8 (pc := 43) C dX4_readTold_43 ?_
    refine az_icmp_ge (pc := 45) (tgt := 57) C h dX4_readTold_45 (by decide) (fun _ h => ?_) (fun _ h => ?_)
    · refine az_al0 (pc := 57) C rfl rfl dX4_readTold_57 ?_
      refine az_bk6 (pc := 58) C dX4_readTold_58 ?_
      refine az_cV1ii (pc := 60) (c := 4) C hd1 h mv_X4_fail ml_X4_84 rfl (fun x hx => A_X4_fail (by omega) hx) dX4_readTold_60 (fun r8 h => ?_)
      refine az_is5 (pc := 63) C rfl rfl dX4_readTold_63 ?_
      refine az_goto (pc := 65) (tgt := 167) C dX4_readTold_65 (by decide) ?_
      exact (A_X4_readTold_167 C hD n (fun h => ih h) h)
    refine az_al0 (pc := 48) C rfl rfl dX4_readTold_48 ?_
    refine az_ik1 (pc := 49) C dX4_readTold_49 ?_
    refine az_ik0 (pc := 50) C dX4_readTold_50 ?_
    refine az_cV2ii (pc := 51) (c := 4) C hd1 h mv_X4_readHead ml_X4_80 rfl (fun x hx => A_X4_readHead (by omega) n hx) dX4_readTold_51 (fun r9 h => ?_)
    refine az_goto (pc := 54) (tgt := 63) C dX4_readTold_54 (by decide) ?_
    refine az_is5 (pc := 63) C rfl rfl dX4_readTold_63 ?_
    refine az_goto (pc := 65) (tgt := 167) C dX4_readTold_65 (by decide) ?_
    exact (A_X4_readTold_167 C hD n (fun h => ih h) h)
set_option maxRecDepth 10000 in
set_option maxHeartbeats 4000000 in
theorem A_X4_readTold_e {Z : az_Z} {d : Nat} (C : az_C Z yX4_readTold cX4_readTold 6 (some .boolean) d) (hD : 7 ≤ d) (n : Nat) {σ : az_Hp} {v0 v1 v2 v3 : Int} {r : (Int × az_Hp)} (h : fz_X4_readTold n σ v0 v1 v2 v3 = some r) : az_AW Z 6 0 [(6, v0), (15, v1), (0, v2), (11, v3), (31, 0), (31, 0)] [] σ (some (0, r.1), r.2) := by
  have hd1 : 1 ≤ d := by omega
  unfold fz_X4_readTold at h
  refine az_al3 (pc := 0) C rfl rfl dX4_readTold_0 ?_
  refine az_cV0v (pc := 1) (c := 9) C hd1 h mv_X9_clear ml_X4_64 rfl (fun x hx => A_X9_clear (by omega) hx) dX4_readTold_1 (fun r1 h => ?_)
  refine az_al0 (pc := 4) C rfl rfl dX4_readTold_4 ?_
  refine az_al1 (pc := 5) C rfl rfl dX4_readTold_5 ?_
  refine az_il2 (pc := 6) C dX4_readTold_6 ?_
  refine az_al3 (pc := 7) C rfl rfl dX4_readTold_7 ?_
  refine az_cV3v (pc := 8) (c := 4) C hd1 h mv_X4_begin ml_X4_69 rfl (fun x hx => A_X4_begin (by omega) n hx) dX4_readTold_8 (fun r2 h => ?_)
  refine az_ik0 (pc := 11) C dX4_readTold_11 ?_
  refine az_is4 (pc := 12) C rfl rfl dX4_readTold_12 ?_
  exact (az_wkk (A_X4_readTold_14 C hD n n h) (az_sE (az_sJ (az_sJ (az_sE (az_sE (az_sJ az_sN)))))))
set_option maxRecDepth 10000 in
set_option maxHeartbeats 4000000 in
theorem A_X4_readTold {l : Launch} {d : Nat} (hD : 7 ≤ d) (n : Nat) {σ : az_Hp} {v0 v1 v2 v3 : Int} {r : (Int × az_Hp)} (h : fz_X4_readTold n σ v0 v1 v2 v3 = some r) : az_AC l yX4_readTold cX4_readTold 6 (some .boolean) d [(6, v0), (15, v1), (0, v2), (11, v3)] σ (some (0, r.1), r.2) := az_AC.of mt_X4_readTold rfl rfl rfl (fun Z hZ C => A_X4_readTold_e C hD n h)
theorem dX8_forget_0 : decode cX8_forget 0 = .ok (.aload_n 0, 1) := by decide +kernel
theorem dX8_forget_1 : decode cX8_forget 1 = .ok (.iconst 0, 1) := by decide +kernel
theorem dX8_forget_2 : decode cX8_forget 2 = .ok (.putfield 9, 3) := by decide +kernel
theorem dX8_forget_5 : decode cX8_forget 5 = .ok (.aload_n 0, 1) := by decide +kernel
theorem dX8_forget_6 : decode cX8_forget 6 = .ok (.iconst 0, 1) := by decide +kernel
theorem dX8_forget_7 : decode cX8_forget 7 = .ok (.putfield 15, 3) := by decide +kernel
theorem dX8_forget_10 : decode cX8_forget 10 = .ok (.aload_n 0, 1) := by decide +kernel
theorem dX8_forget_11 : decode cX8_forget 11 = .ok (.iconst 0, 1) := by decide +kernel
theorem dX8_forget_12 : decode cX8_forget 12 = .ok (.putfield 28, 3) := by decide +kernel
theorem dX8_forget_15 : decode cX8_forget 15 = .ok (.aload_n 0, 1) := by decide +kernel
theorem dX8_forget_16 : decode cX8_forget 16 = .ok (.iconst 0, 1) := by decide +kernel
theorem dX8_forget_17 : decode cX8_forget 17 = .ok (.putfield 31, 3) := by decide +kernel
theorem dX8_forget_20 : decode cX8_forget 20 = .ok (.return_, 1) := by decide +kernel
set_option maxRecDepth 10000 in
set_option maxHeartbeats 4000000 in
theorem A_X8_forget_e {Z : az_Z} {d : Nat} (C : az_C Z yX8_forget cX8_forget 1 none d) (hD : 1 ≤ d) {σ : az_Hp} {v0 : Int} {r : az_Hp} (h : fz_X8_forget σ v0 = some r) : az_AW Z 1 0 [(10, v0)] [] σ (none, r) := by
  have hd1 : 1 ≤ d := by omega
  unfold fz_X8_forget at h
  refine az_al0 (pc := 0) C rfl rfl dX8_forget_0 ?_
  refine az_ik0 (pc := 1) C dX8_forget_1 ?_
  refine az_putZc (pc := 2) C (by decide) fl_X8_9 (Or.inl rfl) rfl dX8_forget_2 ?_
  refine az_al0 (pc := 5) C rfl rfl dX8_forget_5 ?_
  refine az_ik0 (pc := 6) C dX8_forget_6 ?_
  refine az_putI (pc := 7) C fl_X8_15 (Or.inl rfl) rfl dX8_forget_7 ?_
  refine az_al0 (pc := 10) C rfl rfl dX8_forget_10 ?_
  refine az_ik0 (pc := 11) C dX8_forget_11 ?_
  refine az_putI (pc := 12) C fl_X8_28 (Or.inl rfl) rfl dX8_forget_12 ?_
  refine az_al0 (pc := 15) C rfl rfl dX8_forget_15 ?_
  refine az_ik0 (pc := 16) C dX8_forget_16 ?_
  refine az_putI (pc := 17) C fl_X8_31 (Or.inl rfl) rfl dX8_forget_17 ?_
  obtain rfl := Option.some.inj h
  exact az_return (pc := 20) C dX8_forget_20 rfl
set_option maxRecDepth 10000 in
set_option maxHeartbeats 4000000 in
theorem A_X8_forget {l : Launch} {d : Nat} (hD : 1 ≤ d) {σ : az_Hp} {v0 : Int} {r : az_Hp} (h : fz_X8_forget σ v0 = some r) : az_AC l yX8_forget cX8_forget 1 none d [(10, v0)] σ (none, r) := az_AC.of mt_X8_forget rfl rfl rfl (fun Z hZ C => A_X8_forget_e C hD h)
theorem dX10_load_0 : decode cX10_load 0 = .ok (.iload_n 1, 1) := by decide +kernel
theorem dX10_load_1 : decode cX10_load 1 = .ok (.ifCond .lt 11, 3) := by decide +kernel
theorem dX10_load_4 : decode cX10_load 4 = .ok (.iload_n 1, 1) := by decide +kernel
theorem dX10_load_5 : decode cX10_load 5 = .ok (.aload_n 0, 1) := by decide +kernel
theorem dX10_load_6 : decode cX10_load 6 = .ok (.getfield 13, 3) := by decide +kernel
theorem dX10_load_9 : decode cX10_load 9 = .ok (.if_icmp .le 9, 3) := by decide +kernel
theorem dX10_load_12 : decode cX10_load 12 = .ok (.aload_n 0, 1) := by decide +kernel
theorem dX10_load_13 : decode cX10_load 13 = .ok (.iconst 1, 1) := by decide +kernel
theorem dX10_load_14 : decode cX10_load 14 = .ok (.invokevirtual 112, 3) := by decide +kernel
theorem dX10_load_17 : decode cX10_load 17 = .ok (.ireturn, 1) := by decide +kernel
theorem dX10_load_18 : decode cX10_load 18 = .ok (.aload_n 0, 1) := by decide +kernel
theorem dX10_load_19 : decode cX10_load 19 = .ok (.getfield 48, 3) := by decide +kernel
theorem dX10_load_22 : decode cX10_load 22 = .ok (.aload_n 0, 1) := by decide +kernel
theorem dX10_load_23 : decode cX10_load 23 = .ok (.getfield 9, 3) := by decide +kernel
theorem dX10_load_26 : decode cX10_load 26 = .ok (.iload_n 1, 1) := by decide +kernel
theorem dX10_load_27 : decode cX10_load 27 = .ok (.aload_n 0, 1) := by decide +kernel
theorem dX10_load_28 : decode cX10_load 28 = .ok (.getfield 33, 3) := by decide +kernel
theorem dX10_load_31 : decode cX10_load 31 = .ok (.invokevirtual 116, 3) := by decide +kernel
theorem dX10_load_34 : decode cX10_load 34 = .ok (.istore_n 2, 1) := by decide +kernel
theorem dX10_load_35 : decode cX10_load 35 = .ok (.aload_n 0, 1) := by decide +kernel
theorem dX10_load_36 : decode cX10_load 36 = .ok (.iload_n 2, 1) := by decide +kernel
theorem dX10_load_37 : decode cX10_load 37 = .ok (.invokevirtual 120, 3) := by decide +kernel
theorem dX10_load_40 : decode cX10_load 40 = .ok (.ifCond .ne 10, 3) := by decide +kernel
theorem dX10_load_43 : decode cX10_load 43 = .ok (.aload_n 0, 1) := by decide +kernel
theorem dX10_load_44 : decode cX10_load 44 = .ok (.bipush 9, 2) := by decide +kernel
theorem dX10_load_46 : decode cX10_load 46 = .ok (.invokevirtual 112, 3) := by decide +kernel
theorem dX10_load_49 : decode cX10_load 49 = .ok (.ireturn, 1) := by decide +kernel
theorem dX10_load_50 : decode cX10_load 50 = .ok (.aload_n 0, 1) := by decide +kernel
theorem dX10_load_51 : decode cX10_load 51 = .ok (.getfield 29, 3) := by decide +kernel
theorem dX10_load_54 : decode cX10_load 54 = .ok (.astore_n 3, 1) := by decide +kernel
theorem dX10_load_55 : decode cX10_load 55 = .ok (.aload_n 0, 1) := by decide +kernel
theorem dX10_load_56 : decode cX10_load 56 = .ok (.aload_n 0, 1) := by decide +kernel
theorem dX10_load_57 : decode cX10_load 57 = .ok (.getfield 33, 3) := by decide +kernel
theorem dX10_load_60 : decode cX10_load 60 = .ok (.putfield 29, 3) := by decide +kernel
theorem dX10_load_63 : decode cX10_load 63 = .ok (.aload_n 0, 1) := by decide +kernel
theorem dX10_load_64 : decode cX10_load 64 = .ok (.aload_n 3, 1) := by decide +kernel
theorem dX10_load_65 : decode cX10_load 65 = .ok (.putfield 33, 3) := by decide +kernel
theorem dX10_load_68 : decode cX10_load 68 = .ok (.aload_n 0, 1) := by decide +kernel
theorem dX10_load_69 : decode cX10_load 69 = .ok (.getfield 64, 3) := by decide +kernel
theorem dX10_load_72 : decode cX10_load 72 = .ok (.aload_n 0, 1) := by decide +kernel
theorem dX10_load_73 : decode cX10_load 73 = .ok (.getfield 29, 3) := by decide +kernel
theorem dX10_load_76 : decode cX10_load 76 = .ok (.invokevirtual 124, 3) := by decide +kernel
theorem dX10_load_79 : decode cX10_load 79 = .ok (.aload_n 0, 1) := by decide +kernel
theorem dX10_load_80 : decode cX10_load 80 = .ok (.getfield 73, 3) := by decide +kernel
theorem dX10_load_83 : decode cX10_load 83 = .ok (.aload_n 0, 1) := by decide +kernel
theorem dX10_load_84 : decode cX10_load 84 = .ok (.getfield 29, 3) := by decide +kernel
theorem dX10_load_87 : decode cX10_load 87 = .ok (.putfield 128, 3) := by decide +kernel
theorem dX10_load_90 : decode cX10_load 90 = .ok (.aload_n 0, 1) := by decide +kernel
theorem dX10_load_91 : decode cX10_load 91 = .ok (.getfield 82, 3) := by decide +kernel
theorem dX10_load_94 : decode cX10_load 94 = .ok (.iconst 0, 1) := by decide +kernel
theorem dX10_load_95 : decode cX10_load 95 = .ok (.putfield 129, 3) := by decide +kernel
theorem dX10_load_98 : decode cX10_load 98 = .ok (.aload_n 0, 1) := by decide +kernel
theorem dX10_load_99 : decode cX10_load 99 = .ok (.iconst (-1), 1) := by decide +kernel
theorem dX10_load_100 : decode cX10_load 100 = .ok (.putfield 92, 3) := by decide +kernel
theorem dX10_load_103 : decode cX10_load 103 = .ok (.aload_n 0, 1) := by decide +kernel
theorem dX10_load_104 : decode cX10_load 104 = .ok (.getfield 98, 3) := by decide +kernel
theorem dX10_load_107 : decode cX10_load 107 = .ok (.invokevirtual 132, 3) := by decide +kernel
theorem dX10_load_110 : decode cX10_load 110 = .ok (.aload_n 0, 1) := by decide +kernel
theorem dX10_load_111 : decode cX10_load 111 = .ok (.aload_n 0, 1) := by decide +kernel
theorem dX10_load_112 : decode cX10_load 112 = .ok (.getfield 29, 3) := by decide +kernel
theorem dX10_load_115 : decode cX10_load 115 = .ok (.getfield 135, 3) := by decide +kernel
theorem dX10_load_118 : decode cX10_load 118 = .ok (.invokevirtual 138, 3) := by decide +kernel
theorem dX10_load_121 : decode cX10_load 121 = .ok (.ireturn, 1) := by decide +kernel
set_option maxRecDepth 10000 in
set_option maxHeartbeats 4000000 in
theorem A_X10_load_e {Z : az_Z} {d : Nat} (C : az_C Z yX10_load cX10_load 4 (some .int) d) (hD : 8 ≤ d) (n : Nat) {σ : az_Hp} {v0 v1 : Int} {r : (Int × az_Hp)} (h : fz_X10_load n σ v0 v1 = some r) : az_AW Z 4 0 [(12, v0), (0, v1), (31, 0), (31, 0)] [] σ (some (0, r.1), r.2) := by
  have hd1 : 1 ≤ d := by omega
  unfold fz_X10_load at h
  refine az_il1 (pc := 0) C dX10_load_0 ?_
  refine az_if_lt (pc := 1) (tgt := 12) C h dX10_load_1 (by decide) (fun _ h => ?_) (fun _ h => ?_)
  · refine az_al0 (pc := 12) C rfl rfl dX10_load_12 ?_
    refine az_ik1 (pc := 13) C dX10_load_13 ?_
    refine az_cV1ii (pc := 14) (c := 10) C hd1 h mv_X10_refuse ml_X10_112 rfl (fun x hx => A_X10_refuse (by omega) hx) dX10_load_14 (fun r1 h => ?_)
    obtain rfl := Option.some.inj h
    exact az_ireturn (pc := 17) C dX10_load_17 rfl
  refine az_il1 (pc := 4) C dX10_load_4 ?_
  refine az_al0 (pc := 5) C rfl rfl dX10_load_5 ?_
  refine az_getI (pc := 6) C fl_X10_13 rfl dX10_load_6 ?_
  refine az_icmp_le (pc := 9) (tgt := 18) C h dX10_load_9 (by decide) (fun _ h => ?_) (fun _ h => ?_)
  · refine az_al0 (pc := 18) C rfl rfl dX10_load_18 ?_
    refine az_getR (pc := 19) (c2 := 4) C h fl_X10_48 rfl rfl dX10_load_19 (fun h => ?_)
    refine az_al0 (pc := 22) C rfl rfl dX10_load_22 ?_
    refine az_getR (pc := 23) (c2 := 13) C h fl_X10_9 rfl rfl dX10_load_23 (fun h => ?_)
    refine az_il1 (pc := 26) C dX10_load_26 ?_
    refine az_al0 (pc := 27) C rfl rfl dX10_load_27 ?_
    refine az_getR (pc := 28) (c2 := 9) C h fl_X10_33 rfl rfl dX10_load_28 (fun h => ?_)
    refine az_cV3ii (pc := 31) (c := 4) C hd1 h mv_X4_readTold ml_X10_116 rfl (fun x hx => A_X4_readTold (by omega) n hx) dX10_load_31 (fun r5 h => ?_)
    refine az_is2 (pc := 34) C rfl rfl dX10_load_34 ?_
    refine az_al0 (pc := 35) C rfl rfl dX10_load_35 ?_
    refine az_il2 (pc := 36) C dX10_load_36 ?_
    refine az_cV1ii (pc := 37) (c := 10) C hd1 h mv_X10_takeTape ml_X10_120 rfl (fun x hx => A_X10_takeTape (by omega) hx) dX10_load_37 (fun r6 h => ?_)
    refine az_if_ne (pc := 40) (tgt := 50) C h dX10_load_40 (by decide) (fun _ h => ?_) (fun _ h => ?_)
    · refine az_al0 (pc := 50) C rfl rfl dX10_load_50 ?_
      refine az_getR (pc := 51) (c2 := 9) C h fl_X10_29 rfl rfl dX10_load_51 (fun h => ?_)
      refine az_as3 (pc := 54) C rfl rfl rfl rfl dX10_load_54 ?_
      refine az_al0 (pc := 55) C rfl rfl dX10_load_55 ?_
      refine az_al0 (pc := 56) C rfl rfl dX10_load_56 ?_
      refine az_getR (pc := 57) (c2 := 9) C h fl_X10_33 rfl rfl dX10_load_57 (fun h => ?_)
      refine az_putR (pc := 60) (c2 := 9) C fl_X10_29 (Or.inl rfl) rfl rfl rfl dX10_load_60 ?_
      refine az_al0 (pc := 63) C rfl rfl dX10_load_63 ?_
      refine az_al3 (pc := 64) C rfl rfl dX10_load_64 ?_
      refine az_putR (pc := 65) (c2 := 9) C fl_X10_33 (Or.inl rfl) rfl rfl rfl dX10_load_65 ?_
      refine az_al0 (pc := 68) C rfl rfl dX10_load_68 ?_
      refine az_getR (pc := 69) (c2 := 1) C h fl_X10_64 rfl rfl dX10_load_69 (fun h => ?_)
      refine az_al0 (pc := 72) C rfl rfl dX10_load_72 ?_
      refine az_getR (pc := 73) (c2 := 9) C h fl_X10_29 rfl rfl dX10_load_73 (fun h => ?_)
      refine az_cV1v (pc := 76) (c := 1) C hd1 h mv_X1_judgeAll ml_X10_124 rfl (fun x hx => A_X1_judgeAll (by omega) n hx) dX10_load_76 (fun r11 h => ?_)
      refine az_al0 (pc := 79) C rfl rfl dX10_load_79 ?_
      refine az_getR (pc := 80) (c2 := 5) C h fl_X10_73 rfl rfl dX10_load_80 (fun h => ?_)
      refine az_al0 (pc := 83) C rfl rfl dX10_load_83 ?_
      refine az_getR (pc := 84) (c2 := 9) C h fl_X10_29 rfl rfl dX10_load_84 (fun h => ?_)
      refine az_putR (pc := 87) (c2 := 9) C fl_X10_128 (Or.inl rfl) rfl rfl rfl dX10_load_87 ?_
      refine az_al0 (pc := 90) C rfl rfl dX10_load_90 ?_
      refine az_getR (pc := 91) (c2 := 7) C h fl_X10_82 rfl rfl dX10_load_91 (fun h => ?_)
      refine az_ik0 (pc := 94) C dX10_load_94 ?_
      refine az_putI (pc := 95) C fl_X10_129 (Or.inl rfl) rfl dX10_load_95 ?_
      refine az_al0 (pc := 98) C rfl rfl dX10_load_98 ?_
      refine az_ikm1 (pc := 99) C dX10_load_99 ?_
      refine az_putI (pc := 100) C fl_X10_92 (Or.inl rfl) rfl dX10_load_100 ?_
      refine az_al0 (pc := 103) C rfl rfl dX10_load_103 ?_
      refine az_getR (pc := 104) (c2 := 8) C h fl_X10_98 rfl rfl dX10_load_104 (fun h => ?_)
      refine az_cV0v (pc := 107) (c := 8) C hd1 h mv_X8_forget ml_X10_132 rfl (fun x hx => A_X8_forget (by omega) hx) dX10_load_107 (fun r16 h => ?_)
      refine az_al0 (pc := 110) C rfl rfl dX10_load_110 ?_
      refine az_al0 (pc := 111) C rfl rfl dX10_load_111 ?_
      refine az_getR (pc := 112) (c2 := 9) C h fl_X10_29 rfl rfl dX10_load_112 (fun h => ?_)
      refine az_getI (pc := 115) C fl_X10_135 rfl dX10_load_115 ?_
      refine az_cV1ii (pc := 118) (c := 10) C hd1 h mv_X10_give ml_X10_138 rfl (fun x hx => A_X10_give (by omega) hx) dX10_load_118 (fun r18 h => ?_)
      obtain rfl := Option.some.inj h
      exact az_ireturn (pc := 121) C dX10_load_121 rfl
    refine az_al0 (pc := 43) C rfl rfl dX10_load_43 ?_
    refine az_bk9 (pc := 44) C dX10_load_44 ?_
    refine az_cV1ii (pc := 46) (c := 10) C hd1 h mv_X10_refuse ml_X10_112 rfl (fun x hx => A_X10_refuse (by omega) hx) dX10_load_46 (fun r19 h => ?_)
    obtain rfl := Option.some.inj h
    exact az_ireturn (pc := 49) C dX10_load_49 rfl
  refine az_al0 (pc := 12) C rfl rfl dX10_load_12 ?_
  refine az_ik1 (pc := 13) C dX10_load_13 ?_
  refine az_cV1ii (pc := 14) (c := 10) C hd1 h mv_X10_refuse ml_X10_112 rfl (fun x hx => A_X10_refuse (by omega) hx) dX10_load_14 (fun r20 h => ?_)
  obtain rfl := Option.some.inj h
  exact az_ireturn (pc := 17) C dX10_load_17 rfl
set_option maxRecDepth 10000 in
set_option maxHeartbeats 4000000 in
theorem A_X10_load {l : Launch} {d : Nat} (hD : 8 ≤ d) (n : Nat) {σ : az_Hp} {v0 v1 : Int} {r : (Int × az_Hp)} (h : fz_X10_load n σ v0 v1 = some r) : az_AC l yX10_load cX10_load 4 (some .int) d [(12, v0), (0, v1)] σ (some (0, r.1), r.2) := az_AC.of mt_X10_load rfl rfl rfl (fun Z hZ C => A_X10_load_e C hD n h)
theorem dX10_many_0 : decode cX10_many 0 = .ok (.iload_n 1, 1) := by decide +kernel
theorem dX10_many_1 : decode cX10_many 1 = .ok (.tableswitch 63 0 2 #[27, 39, 51], 27) := by decide +kernel
theorem dX10_many_28 : decode cX10_many 28 = .ok (.aload_n 0, 1) := by decide +kernel
theorem dX10_many_29 : decode cX10_many 29 = .ok (.aload_n 0, 1) := by decide +kernel
theorem dX10_many_30 : decode cX10_many 30 = .ok (.getfield 29, 3) := by decide +kernel
theorem dX10_many_33 : decode cX10_many 33 = .ok (.getfield 141, 3) := by decide +kernel
theorem dX10_many_36 : decode cX10_many 36 = .ok (.invokevirtual 138, 3) := by decide +kernel
theorem dX10_many_39 : decode cX10_many 39 = .ok (.ireturn, 1) := by decide +kernel
theorem dX10_many_40 : decode cX10_many 40 = .ok (.aload_n 0, 1) := by decide +kernel
theorem dX10_many_41 : decode cX10_many 41 = .ok (.aload_n 0, 1) := by decide +kernel
theorem dX10_many_42 : decode cX10_many 42 = .ok (.getfield 29, 3) := by decide +kernel
theorem dX10_many_45 : decode cX10_many 45 = .ok (.getfield 144, 3) := by decide +kernel
theorem dX10_many_48 : decode cX10_many 48 = .ok (.invokevirtual 138, 3) := by decide +kernel
theorem dX10_many_51 : decode cX10_many 51 = .ok (.ireturn, 1) := by decide +kernel
theorem dX10_many_52 : decode cX10_many 52 = .ok (.aload_n 0, 1) := by decide +kernel
theorem dX10_many_53 : decode cX10_many 53 = .ok (.aload_n 0, 1) := by decide +kernel
theorem dX10_many_54 : decode cX10_many 54 = .ok (.getfield 29, 3) := by decide +kernel
theorem dX10_many_57 : decode cX10_many 57 = .ok (.getfield 135, 3) := by decide +kernel
theorem dX10_many_60 : decode cX10_many 60 = .ok (.invokevirtual 138, 3) := by decide +kernel
theorem dX10_many_63 : decode cX10_many 63 = .ok (.ireturn, 1) := by decide +kernel
theorem dX10_many_64 : decode cX10_many 64 = .ok (.aload_n 0, 1) := by decide +kernel
theorem dX10_many_65 : decode cX10_many 65 = .ok (.iconst 1, 1) := by decide +kernel
theorem dX10_many_66 : decode cX10_many 66 = .ok (.invokevirtual 112, 3) := by decide +kernel
theorem dX10_many_69 : decode cX10_many 69 = .ok (.ireturn, 1) := by decide +kernel
set_option maxRecDepth 10000 in
set_option maxHeartbeats 4000000 in
theorem A_X10_many_e {Z : az_Z} {d : Nat} (C : az_C Z yX10_many cX10_many 2 (some .int) d) (hD : 2 ≤ d) {σ : az_Hp} {v0 v1 : Int} {r : (Int × az_Hp)} (h : fz_X10_many σ v0 v1 = some r) : az_AW Z 2 0 [(12, v0), (0, v1)] [] σ (some (0, r.1), r.2) := by
  have hd1 : 1 ≤ d := by omega
  unfold fz_X10_many at h
  refine az_il1 (pc := 0) C dX10_many_0 ?_
  rcases az_ite h with ⟨c0, h⟩ | ⟨c0, h⟩
  · refine az_tswIn (pc := 1) (i := 0) (tgt := 28) C (by exact c0) (by decide) rfl dX10_many_1 (by decide) ?_
    refine az_al0 (pc := 28) C rfl rfl dX10_many_28 ?_
    refine az_al0 (pc := 29) C rfl rfl dX10_many_29 ?_
    refine az_getR (pc := 30) (c2 := 9) C h fl_X10_29 rfl rfl dX10_many_30 (fun h => ?_)
    refine az_getI (pc := 33) C fl_X10_141 rfl dX10_many_33 ?_
    refine az_cV1ii (pc := 36) (c := 10) C hd1 h mv_X10_give ml_X10_138 rfl (fun x hx => A_X10_give (by omega) hx) dX10_many_36 (fun r2 h => ?_)
    obtain rfl := Option.some.inj h
    exact az_ireturn (pc := 39) C dX10_many_39 rfl
  rcases az_ite h with ⟨c1, h⟩ | ⟨c1, h⟩
  · refine az_tswIn (pc := 1) (i := 1) (tgt := 40) C (by exact c1) (by decide) rfl dX10_many_1 (by decide) ?_
    refine az_al0 (pc := 40) C rfl rfl dX10_many_40 ?_
    refine az_al0 (pc := 41) C rfl rfl dX10_many_41 ?_
    refine az_getR (pc := 42) (c2 := 9) C h fl_X10_29 rfl rfl dX10_many_42 (fun h => ?_)
    refine az_getI (pc := 45) C fl_X10_144 rfl dX10_many_45 ?_
    refine az_cV1ii (pc := 48) (c := 10) C hd1 h mv_X10_give ml_X10_138 rfl (fun x hx => A_X10_give (by omega) hx) dX10_many_48 (fun r4 h => ?_)
    obtain rfl := Option.some.inj h
    exact az_ireturn (pc := 51) C dX10_many_51 rfl
  rcases az_ite h with ⟨c2, h⟩ | ⟨c2, h⟩
  · refine az_tswIn (pc := 1) (i := 2) (tgt := 52) C (by exact c2) (by decide) rfl dX10_many_1 (by decide) ?_
    refine az_al0 (pc := 52) C rfl rfl dX10_many_52 ?_
    refine az_al0 (pc := 53) C rfl rfl dX10_many_53 ?_
    refine az_getR (pc := 54) (c2 := 9) C h fl_X10_29 rfl rfl dX10_many_54 (fun h => ?_)
    refine az_getI (pc := 57) C fl_X10_135 rfl dX10_many_57 ?_
    refine az_cV1ii (pc := 60) (c := 10) C hd1 h mv_X10_give ml_X10_138 rfl (fun x hx => A_X10_give (by omega) hx) dX10_many_60 (fun r6 h => ?_)
    obtain rfl := Option.some.inj h
    exact az_ireturn (pc := 63) C dX10_many_63 rfl
  refine az_tswOut (pc := 1) (tgt := 64) C (by omega) dX10_many_1 (by decide) ?_
  refine az_al0 (pc := 64) C rfl rfl dX10_many_64 ?_
  refine az_ik1 (pc := 65) C dX10_many_65 ?_
  refine az_cV1ii (pc := 66) (c := 10) C hd1 h mv_X10_refuse ml_X10_112 rfl (fun x hx => A_X10_refuse (by omega) hx) dX10_many_66 (fun r7 h => ?_)
  obtain rfl := Option.some.inj h
  exact az_ireturn (pc := 69) C dX10_many_69 rfl
set_option maxRecDepth 10000 in
set_option maxHeartbeats 4000000 in
theorem A_X10_many {l : Launch} {d : Nat} (hD : 2 ≤ d) {σ : az_Hp} {v0 v1 : Int} {r : (Int × az_Hp)} (h : fz_X10_many σ v0 v1 = some r) : az_AC l yX10_many cX10_many 2 (some .int) d [(12, v0), (0, v1)] σ (some (0, r.1), r.2) := az_AC.of mt_X10_many rfl rfl rfl (fun Z hZ C => A_X10_many_e C hD h)
theorem dX10_meets_0 : decode cX10_meets 0 = .ok (.aload_n 0, 1) := by decide +kernel
theorem dX10_meets_1 : decode cX10_meets 1 = .ok (.iload_n 1, 1) := by decide +kernel
theorem dX10_meets_2 : decode cX10_meets 2 = .ok (.invokevirtual 176, 3) := by decide +kernel
theorem dX10_meets_5 : decode cX10_meets 5 = .ok (.ifCond .eq 11, 3) := by decide +kernel
theorem dX10_meets_8 : decode cX10_meets 8 = .ok (.aload_n 0, 1) := by decide +kernel
theorem dX10_meets_9 : decode cX10_meets 9 = .ok (.iload_n 2, 1) := by decide +kernel
theorem dX10_meets_10 : decode cX10_meets 10 = .ok (.invokevirtual 176, 3) := by decide +kernel
theorem dX10_meets_13 : decode cX10_meets 13 = .ok (.ifCond .ne 9, 3) := by decide +kernel
theorem dX10_meets_16 : decode cX10_meets 16 = .ok (.aload_n 0, 1) := by decide +kernel
theorem dX10_meets_17 : decode cX10_meets 17 = .ok (.iconst 2, 1) := by decide +kernel
theorem dX10_meets_18 : decode cX10_meets 18 = .ok (.invokevirtual 112, 3) := by decide +kernel
theorem dX10_meets_21 : decode cX10_meets 21 = .ok (.ireturn, 1) := by decide +kernel
theorem dX10_meets_22 : decode cX10_meets 22 = .ok (.aload_n 0, 1) := by decide +kernel
theorem dX10_meets_23 : decode cX10_meets 23 = .ok (.aload_n 0, 1) := by decide +kernel
theorem dX10_meets_24 : decode cX10_meets 24 = .ok (.getfield 64, 3) := by decide +kernel
theorem dX10_meets_27 : decode cX10_meets 27 = .ok (.aload_n 0, 1) := by decide +kernel
theorem dX10_meets_28 : decode cX10_meets 28 = .ok (.getfield 29, 3) := by decide +kernel
theorem dX10_meets_31 : decode cX10_meets 31 = .ok (.iload_n 1, 1) := by decide +kernel
theorem dX10_meets_32 : decode cX10_meets 32 = .ok (.iload_n 2, 1) := by decide +kernel
theorem dX10_meets_33 : decode cX10_meets 33 = .ok (.invokevirtual 198, 3) := by decide +kernel
theorem dX10_meets_36 : decode cX10_meets 36 = .ok (.invokevirtual 138, 3) := by decide +kernel
theorem dX10_meets_39 : decode cX10_meets 39 = .ok (.ireturn, 1) := by decide +kernel
set_option maxRecDepth 10000 in
set_option maxHeartbeats 4000000 in
theorem A_X10_meets_e {Z : az_Z} {d : Nat} (C : az_C Z yX10_meets cX10_meets 3 (some .int) d) (hD : 5 ≤ d) (n : Nat) {σ : az_Hp} {v0 v1 v2 : Int} {r : (Int × az_Hp)} (h : fz_X10_meets n σ v0 v1 v2 = some r) : az_AW Z 3 0 [(12, v0), (0, v1), (0, v2)] [] σ (some (0, r.1), r.2) := by
  have hd1 : 1 ≤ d := by omega
  unfold fz_X10_meets at h
  refine az_al0 (pc := 0) C rfl rfl dX10_meets_0 ?_
  refine az_il1 (pc := 1) C dX10_meets_1 ?_
  refine az_cV1pi (pc := 2) (c := 10) C hd1 h mv_X10_isEquation ml_X10_176 rfl (fun x hx => A_X10_isEquation (by omega) hx) dX10_meets_2 (fun r1 h => ?_)
  refine az_if_eq (pc := 5) (tgt := 16) C h dX10_meets_5 (by decide) (fun _ h => ?_) (fun _ h => ?_)
  · refine az_al0 (pc := 16) C rfl rfl dX10_meets_16 ?_
    refine az_ik2 (pc := 17) C dX10_meets_17 ?_
    refine az_cV1ii (pc := 18) (c := 10) C hd1 h mv_X10_refuse ml_X10_112 rfl (fun x hx => A_X10_refuse (by omega) hx) dX10_meets_18 (fun r2 h => ?_)
    obtain rfl := Option.some.inj h
    exact az_ireturn (pc := 21) C dX10_meets_21 rfl
  refine az_al0 (pc := 8) C rfl rfl dX10_meets_8 ?_
  refine az_il2 (pc := 9) C dX10_meets_9 ?_
  refine az_cV1pi (pc := 10) (c := 10) C hd1 h mv_X10_isEquation ml_X10_176 rfl (fun x hx => A_X10_isEquation (by omega) hx) dX10_meets_10 (fun r3 h => ?_)
  refine az_if_ne (pc := 13) (tgt := 22) C h dX10_meets_13 (by decide) (fun _ h => ?_) (fun _ h => ?_)
  · refine az_al0 (pc := 22) C rfl rfl dX10_meets_22 ?_
    refine az_al0 (pc := 23) C rfl rfl dX10_meets_23 ?_
    refine az_getR (pc := 24) (c2 := 1) C h fl_X10_64 rfl rfl dX10_meets_24 (fun h => ?_)
    refine az_al0 (pc := 27) C rfl rfl dX10_meets_27 ?_
    refine az_getR (pc := 28) (c2 := 9) C h fl_X10_29 rfl rfl dX10_meets_28 (fun h => ?_)
    refine az_il1 (pc := 31) C dX10_meets_31 ?_
    refine az_il2 (pc := 32) C dX10_meets_32 ?_
    refine az_cV3ii (pc := 33) (c := 1) C hd1 h mv_X1_meetLefts ml_X10_198 rfl (fun x hx => A_X1_meetLefts (by omega) n hx) dX10_meets_33 (fun r6 h => ?_)
    refine az_cV1ii (pc := 36) (c := 10) C hd1 h mv_X10_give ml_X10_138 rfl (fun x hx => A_X10_give (by omega) hx) dX10_meets_36 (fun r7 h => ?_)
    obtain rfl := Option.some.inj h
    exact az_ireturn (pc := 39) C dX10_meets_39 rfl
  refine az_al0 (pc := 16) C rfl rfl dX10_meets_16 ?_
  refine az_ik2 (pc := 17) C dX10_meets_17 ?_
  refine az_cV1ii (pc := 18) (c := 10) C hd1 h mv_X10_refuse ml_X10_112 rfl (fun x hx => A_X10_refuse (by omega) hx) dX10_meets_18 (fun r8 h => ?_)
  obtain rfl := Option.some.inj h
  exact az_ireturn (pc := 21) C dX10_meets_21 rfl
set_option maxRecDepth 10000 in
set_option maxHeartbeats 4000000 in
theorem A_X10_meets {l : Launch} {d : Nat} (hD : 5 ≤ d) (n : Nat) {σ : az_Hp} {v0 v1 v2 : Int} {r : (Int × az_Hp)} (h : fz_X10_meets n σ v0 v1 v2 = some r) : az_AC l yX10_meets cX10_meets 3 (some .int) d [(12, v0), (0, v1), (0, v2)] σ (some (0, r.1), r.2) := az_AC.of mt_X10_meets rfl rfl rfl (fun Z hZ C => A_X10_meets_e C hD n h)
theorem dX10_termVariable_0 : decode cX10_termVariable 0 = .ok (.iconst 0, 1) := by decide +kernel
theorem dX10_termVariable_1 : decode cX10_termVariable 1 = .ok (.istore_n 2, 1) := by decide +kernel
theorem dX10_termVariable_2 : decode cX10_termVariable 2 = .ok (.iload_n 2, 1) := by decide +kernel
theorem dX10_termVariable_3 : decode cX10_termVariable 3 = .ok (.bipush 12, 2) := by decide +kernel
theorem dX10_termVariable_5 : decode cX10_termVariable 5 = .ok (.if_icmp .ge 21, 3) := by decide +kernel
theorem dX10_termVariable_8 : decode cX10_termVariable 8 = .ok (.aload_n 0, 1) := by decide +kernel
theorem dX10_termVariable_9 : decode cX10_termVariable 9 = .ok (.getfield 89, 3) := by decide +kernel
theorem dX10_termVariable_12 : decode cX10_termVariable 12 = .ok (.iload_n 2, 1) := by decide +kernel
theorem dX10_termVariable_13 : decode cX10_termVariable 13 = .ok (.iaload, 1) := by decide +kernel
theorem dX10_termVariable_14 : decode cX10_termVariable 14 = .ok (.iload_n 1, 1) := by decide +kernel
theorem dX10_termVariable_15 : decode cX10_termVariable 15 = .ok (.if_icmp .ne 5, 3) := by decide +kernel
theorem dX10_termVariable_18 : decode cX10_termVariable 18 = .ok (.iload_n 2, 1) := by decide +kernel
theorem dX10_termVariable_19 : decode cX10_termVariable 19 = .ok (.ireturn, 1) := by decide +kernel
theorem dX10_termVariable_20 : decode cX10_termVariable 20 = .ok (.iinc 2 1, 3) := by decide +kernel
theorem dX10_termVariable_23 : decode cX10_termVariable 23 = .ok (.goto (-21), 3) := by decide +kernel
theorem dX10_termVariable_26 : decode cX10_termVariable 26 = .ok (.iconst (-1), 1) := by decide +kernel
theorem dX10_termVariable_27 : decode cX10_termVariable 27 = .ok (.ireturn, 1) := by decide +kernel
set_option maxRecDepth 10000 in
set_option maxHeartbeats 4000000 in
theorem A_X10_termVariable_2 {Z : az_Z} {d : Nat} (C : az_C Z yX10_termVariable cX10_termVariable 3 (some .int) d) (hD : 1 ≤ d) (n : Nat) (k : Nat) : ∀ {σ : az_Hp} {v0 v1 v2 : Int} {r : Int}, fz_X10_termVariable_2 n k σ v0 v1 v2 = some r → az_AW Z 3 2 [(12, v0), (0, v1), (0, v2)] [] σ (some (0, r), σ) := by
  have hd1 : 1 ≤ d := by omega
  induction k with
  | zero => intro σ v0 v1 v2 r h; simp [fz_X10_termVariable_2] at h
  | succ k ih =>
    intro σ v0 v1 v2 r h
    unfold fz_X10_termVariable_2 at h
    refine az_il2 (pc := 2) C dX10_termVariable_2 ?_
    refine az_bk12 (pc := 3) C dX10_termVariable_3 ?_
    refine az_icmp_ge (pc := 5) (tgt := 26) C h dX10_termVariable_5 (by decide) (fun _ h => ?_) (fun _ h => ?_)
    · refine az_ikm1 (pc := 26) C dX10_termVariable_26 ?_
      obtain rfl := Option.some.inj h
      exact az_ireturn (pc := 27) C dX10_termVariable_27 rfl
    refine az_al0 (pc := 8) C rfl rfl dX10_termVariable_8 ?_
    refine az_getR (pc := 9) (c2 := 13) C h fl_X10_89 rfl rfl dX10_termVariable_9 (fun h => ?_)
    refine az_il2 (pc := 12) C dX10_termVariable_12 ?_
    refine az_iaload (pc := 13) C h dX10_termVariable_13 (fun h => ?_)
    refine az_il1 (pc := 14) C dX10_termVariable_14 ?_
    refine az_icmp_ne (pc := 15) (tgt := 20) C h dX10_termVariable_15 (by decide) (fun _ h => ?_) (fun _ h => ?_)
    · refine az_ii2 (pc := 20) C az_n1 rfl rfl dX10_termVariable_20 ?_
      refine az_goto (pc := 23) (tgt := 2) C dX10_termVariable_23 (by decide) ?_
      exact (ih h)
    refine az_il2 (pc := 18) C dX10_termVariable_18 ?_
    obtain rfl := Option.some.inj h
    exact az_ireturn (pc := 19) C dX10_termVariable_19 rfl
set_option maxRecDepth 10000 in
set_option maxHeartbeats 4000000 in
theorem A_X10_termVariable_e {Z : az_Z} {d : Nat} (C : az_C Z yX10_termVariable cX10_termVariable 3 (some .int) d) (hD : 1 ≤ d) (n : Nat) {σ : az_Hp} {v0 v1 : Int} {r : Int} (h : fz_X10_termVariable n σ v0 v1 = some r) : az_AW Z 3 0 [(12, v0), (0, v1), (31, 0)] [] σ (some (0, r), σ) := by
  have hd1 : 1 ≤ d := by omega
  unfold fz_X10_termVariable at h
  refine az_ik0 (pc := 0) C dX10_termVariable_0 ?_
  refine az_is2 (pc := 1) C rfl rfl dX10_termVariable_1 ?_
  exact (A_X10_termVariable_2 C hD n n h)
set_option maxRecDepth 10000 in
set_option maxHeartbeats 4000000 in
theorem A_X10_termVariable {l : Launch} {d : Nat} (hD : 1 ≤ d) (n : Nat) {σ : az_Hp} {v0 v1 : Int} {r : Int} (h : fz_X10_termVariable n σ v0 v1 = some r) : az_AC l yX10_termVariable cX10_termVariable 3 (some .int) d [(12, v0), (0, v1)] σ (some (0, r), σ) := az_AC.of mt_X10_termVariable rfl rfl rfl (fun Z hZ C => A_X10_termVariable_e C hD n h)
theorem dX5_firstStill_0 : decode cX5_firstStill 0 = .ok (.aload_n 0, 1) := by decide +kernel
theorem dX5_firstStill_1 : decode cX5_firstStill 1 = .ok (.getfield 64, 3) := by decide +kernel
theorem dX5_firstStill_4 : decode cX5_firstStill 4 = .ok (.getfield 91, 3) := by decide +kernel
theorem dX5_firstStill_7 : decode cX5_firstStill 7 = .ok (.iload_n 1, 1) := by decide +kernel
theorem dX5_firstStill_8 : decode cX5_firstStill 8 = .ok (.iaload, 1) := by decide +kernel
theorem dX5_firstStill_9 : decode cX5_firstStill 9 = .ok (.istore 4, 2) := by decide +kernel
theorem dX5_firstStill_11 : decode cX5_firstStill 11 = .ok (.aload_n 0, 1) := by decide +kernel
theorem dX5_firstStill_12 : decode cX5_firstStill 12 = .ok (.getfield 64, 3) := by decide +kernel
theorem dX5_firstStill_15 : decode cX5_firstStill 15 = .ok (.getfield 94, 3) := by decide +kernel
theorem dX5_firstStill_18 : decode cX5_firstStill 18 = .ok (.iload 4, 2) := by decide +kernel
theorem dX5_firstStill_20 : decode cX5_firstStill 20 = .ok (.baload, 1) := by decide +kernel
theorem dX5_firstStill_21 : decode cX5_firstStill 21 = .ok (.ifCond .ne 5, 3) := by decide +kernel
theorem dX5_firstStill_24 : decode cX5_firstStill 24 = .ok (.iconst (-1), 1) := by decide +kernel
theorem dX5_firstStill_25 : decode cX5_firstStill 25 = .ok (.ireturn, 1) := by decide +kernel
theorem dX5_firstStill_26 : decode cX5_firstStill 26 = .ok (.iconst 0, 1) := by decide +kernel
theorem dX5_firstStill_27 : decode cX5_firstStill 27 = .ok (.istore 5, 2) := by decide +kernel
theorem dX5_firstStill_29 : decode cX5_firstStill 29 = .ok (.iload 5, 2) := by decide +kernel
theorem dX5_firstStill_31 : decode cX5_firstStill 31 = .ok (.iload_n 1, 1) := by decide +kernel
theorem dX5_firstStill_32 : decode cX5_firstStill 32 = .ok (.if_icmp .ge 100, 3) := by decide +kernel
theorem dX5_firstStill_35 : decode cX5_firstStill 35 = .ok (.aload_n 0, 1) := by decide +kernel
theorem dX5_firstStill_36 : decode cX5_firstStill 36 = .ok (.getfield 64, 3) := by decide +kernel
theorem dX5_firstStill_39 : decode cX5_firstStill 39 = .ok (.getfield 91, 3) := by decide +kernel
theorem dX5_firstStill_42 : decode cX5_firstStill 42 = .ok (.iload 5, 2) := by decide +kernel
theorem dX5_firstStill_44 : decode cX5_firstStill 44 = .ok (.iaload, 1) := by decide +kernel
theorem dX5_firstStill_45 : decode cX5_firstStill 45 = .ok (.iload 4, 2) := by decide +kernel
theorem dX5_firstStill_47 : decode cX5_firstStill 47 = .ok (.if_icmp .ne 79, 3) := by decide +kernel
theorem dX5_firstStill_50 : decode cX5_firstStill 50 = .ok (.aload_n 0, 1) := by decide +kernel
theorem dX5_firstStill_51 : decode cX5_firstStill 51 = .ok (.getfield 64, 3) := by decide +kernel
theorem dX5_firstStill_54 : decode cX5_firstStill 54 = .ok (.iload 5, 2) := by decide +kernel
theorem dX5_firstStill_56 : decode cX5_firstStill 56 = .ok (.iload_n 1, 1) := by decide +kernel
theorem dX5_firstStill_57 : decode cX5_firstStill 57 = .ok (.invokevirtual 98, 3) := by decide +kernel
theorem dX5_firstStill_60 : decode cX5_firstStill 60 = .ok (.ifCond .eq 6, 3) := by decide +kernel
theorem dX5_firstStill_63 : decode cX5_firstStill 63 = .ok (.goto 63, 3) := by decide +kernel
theorem dX5_firstStill_66 : decode cX5_firstStill 66 = .ok (.aload_n 0, 1) := by decide +kernel
theorem dX5_firstStill_67 : decode cX5_firstStill 67 = .ok (.getfield 60, 3) := by decide +kernel
theorem dX5_firstStill_70 : decode cX5_firstStill 70 = .ok (.invokevirtual 102, 3) := by decide +kernel
theorem dX5_firstStill_73 : decode cX5_firstStill 73 = .ok (.aload_n 0, 1) := by decide +kernel
theorem dX5_firstStill_74 : decode cX5_firstStill 74 = .ok (.getfield 60, 3) := by decide +kernel
theorem dX5_firstStill_77 : decode cX5_firstStill 77 = .ok (.aload_n 0, 1) := by decide +kernel
theorem dX5_firstStill_78 : decode cX5_firstStill 78 = .ok (.getfield 64, 3) := by decide +kernel
theorem dX5_firstStill_81 : decode cX5_firstStill 81 = .ok (.getfield 72, 3) := by decide +kernel
theorem dX5_firstStill_84 : decode cX5_firstStill 84 = .ok (.iload 5, 2) := by decide +kernel
theorem dX5_firstStill_86 : decode cX5_firstStill 86 = .ok (.aaload, 1) := by decide +kernel
theorem dX5_firstStill_87 : decode cX5_firstStill 87 = .ok (.iconst 0, 1) := by decide +kernel
theorem dX5_firstStill_88 : decode cX5_firstStill 88 = .ok (.iconst 0, 1) := by decide +kernel
theorem dX5_firstStill_89 : decode cX5_firstStill 89 = .ok (.iconst 0, 1) := by decide +kernel
theorem dX5_firstStill_90 : decode cX5_firstStill 90 = .ok (.invokevirtual 107, 3) := by decide +kernel
theorem dX5_firstStill_93 : decode cX5_firstStill 93 = .ok (.istore 6, 2) := by decide +kernel
theorem dX5_firstStill_95 : decode cX5_firstStill 95 = .ok (.aload_n 0, 1) := by decide +kernel
theorem dX5_firstStill_96 : decode cX5_firstStill 96 = .ok (.getfield 60, 3) := by decide +kernel
theorem dX5_firstStill_99 : decode cX5_firstStill 99 = .ok (.aload_n 2, 1) := by decide +kernel
theorem dX5_firstStill_100 : decode cX5_firstStill 100 = .ok (.iload_n 3, 1) := by decide +kernel
theorem dX5_firstStill_101 : decode cX5_firstStill 101 = .ok (.iconst 1, 1) := by decide +kernel
theorem dX5_firstStill_102 : decode cX5_firstStill 102 = .ok (.iconst 1, 1) := by decide +kernel
theorem dX5_firstStill_103 : decode cX5_firstStill 103 = .ok (.invokevirtual 107, 3) := by decide +kernel
theorem dX5_firstStill_106 : decode cX5_firstStill 106 = .ok (.istore 7, 2) := by decide +kernel
theorem dX5_firstStill_108 : decode cX5_firstStill 108 = .ok (.aload_n 0, 1) := by decide +kernel
theorem dX5_firstStill_109 : decode cX5_firstStill 109 = .ok (.getfield 60, 3) := by decide +kernel
theorem dX5_firstStill_112 : decode cX5_firstStill 112 = .ok (.iload 6, 2) := by decide +kernel
theorem dX5_firstStill_114 : decode cX5_firstStill 114 = .ok (.iload 7, 2) := by decide +kernel
theorem dX5_firstStill_116 : decode cX5_firstStill 116 = .ok (.iconst 0, 1) := by decide +kernel
theorem dX5_firstStill_117 : decode cX5_firstStill 117 = .ok (.invokevirtual 111, 3) := by decide +kernel
theorem dX5_firstStill_120 : decode cX5_firstStill 120 = .ok (.ifCond .eq 6, 3) := by decide +kernel
theorem dX5_firstStill_123 : decode cX5_firstStill 123 = .ok (.iload 5, 2) := by decide +kernel
theorem dX5_firstStill_125 : decode cX5_firstStill 125 = .ok (.ireturn, 1) := by decide +kernel
theorem dX5_firstStill_126 : decode cX5_firstStill 126 = .ok (.iinc 5 1, 3) := by decide +kernel
theorem dX5_firstStill_129 : decode cX5_firstStill 129 = .ok (.goto (-100), 3) := by decide +kernel
theorem dX5_firstStill_132 : decode cX5_firstStill 132 = .ok (.iconst (-1), 1) := by decide +kernel
theorem dX5_firstStill_133 : decode cX5_firstStill 133 = .ok (.ireturn, 1) := by decide +kernel
set_option maxRecDepth 10000 in
set_option maxHeartbeats 4000000 in
theorem A_X5_firstStill_29 {Z : az_Z} {d : Nat} (C : az_C Z yX5_firstStill cX5_firstStill 8 (some .int) d) (hD : 3 ≤ d) (n : Nat) (k : Nat) : ∀ {σ : az_Hp} {v0 v1 v2 v3 v4 v5 : Int} {r : (Int × az_Hp)}, fz_X5_firstStill_29 n k σ v0 v1 v2 v3 v4 v5 = some r → az_AW Z 8 29 [(7, v0), (0, v1), (9, v2), (0, v3), (0, v4), (0, v5), (31, 0), (31, 0)] [] σ (some (0, r.1), r.2) := by
  have hd1 : 1 ≤ d := by omega
  induction k with
  | zero => intro σ v0 v1 v2 v3 v4 v5 r h; simp [fz_X5_firstStill_29] at h
  | succ k ih =>
    intro σ v0 v1 v2 v3 v4 v5 r h
    unfold fz_X5_firstStill_29 at h
    refine az_il5 (pc := 29) C dX5_firstStill_29 ?_
    refine az_il1 (pc := 31) C dX5_firstStill_31 ?_
    refine az_icmp_ge (pc := 32) (tgt := 132) C h dX5_firstStill_32 (by decide) (fun _ h => ?_) (fun _ h => ?_)
    · refine az_ikm1 (pc := 132) C dX5_firstStill_132 ?_
      obtain rfl := Option.some.inj h
      exact az_ireturn (pc := 133) C dX5_firstStill_133 rfl
    refine az_al0 (pc := 35) C rfl rfl dX5_firstStill_35 ?_
    refine az_getR (pc := 36) (c2 := 9) C h fl_X5_64 rfl rfl dX5_firstStill_36 (fun h => ?_)
    refine az_getR (pc := 39) (c2 := 13) C h fl_X5_91 rfl rfl dX5_firstStill_39 (fun h => ?_)
    refine az_il5 (pc := 42) C dX5_firstStill_42 ?_
    refine az_iaload (pc := 44) C h dX5_firstStill_44 (fun h => ?_)
    refine az_il4 (pc := 45) C dX5_firstStill_45 ?_
    refine az_icmp_ne (pc := 47) (tgt := 126) C h dX5_firstStill_47 (by decide) (fun _ h => ?_) (fun _ h => ?_)
    · refine az_ii5 (pc := 126) C az_n1 rfl rfl dX5_firstStill_126 ?_
      refine az_goto (pc := 129) (tgt := 29) C dX5_firstStill_129 (by decide) ?_
      exact (ih h)
    refine az_al0 (pc := 50) C rfl rfl dX5_firstStill_50 ?_
    refine az_getR (pc := 51) (c2 := 9) C h fl_X5_64 rfl rfl dX5_firstStill_51 (fun h => ?_)
    refine az_il5 (pc := 54) C dX5_firstStill_54 ?_
    refine az_il1 (pc := 56) C dX5_firstStill_56 ?_
    refine az_cV2pi (pc := 57) (c := 9) C hd1 h mv_X9_agree ml_X5_98 rfl (fun x hx => A_X9_agree (by omega) hx) dX5_firstStill_57 (fun r5 h => ?_)
    refine az_if_eq (pc := 60) (tgt := 66) C h dX5_firstStill_60 (by decide) (fun _ h => ?_) (fun _ h => ?_)
    · refine az_al0 (pc := 66) C rfl rfl dX5_firstStill_66 ?_
      refine az_getR (pc := 67) (c2 := 0) C h fl_X5_60 rfl rfl dX5_firstStill_67 (fun h => ?_)
      refine az_cV0v (pc := 70) (c := 0) C hd1 h mv_X0_clear ml_X5_102 rfl (fun x hx => A_X0_clear (by omega) hx) dX5_firstStill_70 (fun r7 h => ?_)
      refine az_al0 (pc := 73) C rfl rfl dX5_firstStill_73 ?_
      refine az_getR (pc := 74) (c2 := 0) C h fl_X5_60 rfl rfl dX5_firstStill_74 (fun h => ?_)
      refine az_al0 (pc := 77) C rfl rfl dX5_firstStill_77 ?_
      refine az_getR (pc := 78) (c2 := 9) C h fl_X5_64 rfl rfl dX5_firstStill_78 (fun h => ?_)
      refine az_getR (pc := 81) (c2 := 16) C h fl_X5_72 rfl rfl dX5_firstStill_81 (fun h => ?_)
      refine az_il5 (pc := 84) C dX5_firstStill_84 ?_
      refine az_aaload (pc := 86) C h dX5_firstStill_86 (fun h => ?_)
      refine az_ik0 (pc := 87) C dX5_firstStill_87 ?_
      refine az_ik0 (pc := 88) C dX5_firstStill_88 ?_
      refine az_ik0 (pc := 89) C dX5_firstStill_89 ?_
      refine az_cV4ii (pc := 90) (c := 0) C hd1 h mv_X0_lay ml_X5_107 rfl (fun x hx => A_X0_lay (by omega) n hx) dX5_firstStill_90 (fun r12 h => ?_)
      refine az_is6 (pc := 93) C rfl rfl dX5_firstStill_93 ?_
      refine az_al0 (pc := 95) C rfl rfl dX5_firstStill_95 ?_
      refine az_getR (pc := 96) (c2 := 0) C h fl_X5_60 rfl rfl dX5_firstStill_96 (fun h => ?_)
      refine az_al2 (pc := 99) C rfl rfl dX5_firstStill_99 ?_
      refine az_il3 (pc := 100) C dX5_firstStill_100 ?_
      refine az_ik1 (pc := 101) C dX5_firstStill_101 ?_
      refine az_ik1 (pc := 102) C dX5_firstStill_102 ?_
      refine az_cV4ii (pc := 103) (c := 0) C hd1 h mv_X0_lay ml_X5_107 rfl (fun x hx => A_X0_lay (by omega) n hx) dX5_firstStill_103 (fun r14 h => ?_)
      refine az_is7 (pc := 106) C rfl rfl dX5_firstStill_106 ?_
      refine az_al0 (pc := 108) C rfl rfl dX5_firstStill_108 ?_
      refine az_getR (pc := 109) (c2 := 0) C h fl_X5_60 rfl rfl dX5_firstStill_109 (fun h => ?_)
      refine az_il6 (pc := 112) C dX5_firstStill_112 ?_
      refine az_il7 (pc := 114) C dX5_firstStill_114 ?_
      refine az_ik0 (pc := 116) C dX5_firstStill_116 ?_
      refine az_cV3ii (pc := 117) (c := 0) C hd1 h mv_X0_join ml_X5_111 rfl (fun x hx => A_X0_join (by omega) n hx) dX5_firstStill_117 (fun r16 h => ?_)
      refine az_if_eq (pc := 120) (tgt := 126) C h dX5_firstStill_120 (by decide) (fun _ h => ?_) (fun _ h => ?_)
      · refine az_ii5 (pc := 126) C az_n1 rfl rfl dX5_firstStill_126 ?_
        refine az_goto (pc := 129) (tgt := 29) C dX5_firstStill_129 (by decide) ?_
        exact (az_wkk (ih h) (az_sE (az_sE (az_sE (az_sE (az_sE (az_sE (az_sJ (az_sJ az_sN)))))))))
      refine az_il5 (pc := 123) C dX5_firstStill_123 ?_
      obtain rfl := Option.some.inj h
      exact az_ireturn (pc := 125) C dX5_firstStill_125 rfl
    refine az_goto (pc := 63) (tgt := 126) C dX5_firstStill_63 (by decide) ?_
    refine az_ii5 (pc := 126) C az_n1 rfl rfl dX5_firstStill_126 ?_
    refine az_goto (pc := 129) (tgt := 29) C dX5_firstStill_129 (by decide) ?_
    exact (ih h)
set_option maxRecDepth 10000 in
set_option maxHeartbeats 4000000 in
theorem A_X5_firstStill_e {Z : az_Z} {d : Nat} (C : az_C Z yX5_firstStill cX5_firstStill 8 (some .int) d) (hD : 3 ≤ d) (n : Nat) {σ : az_Hp} {v0 v1 v2 v3 : Int} {r : (Int × az_Hp)} (h : fz_X5_firstStill n σ v0 v1 v2 v3 = some r) : az_AW Z 8 0 [(7, v0), (0, v1), (9, v2), (0, v3), (31, 0), (31, 0), (31, 0), (31, 0)] [] σ (some (0, r.1), r.2) := by
  have hd1 : 1 ≤ d := by omega
  unfold fz_X5_firstStill at h
  refine az_al0 (pc := 0) C rfl rfl dX5_firstStill_0 ?_
  refine az_getR (pc := 1) (c2 := 9) C h fl_X5_64 rfl rfl dX5_firstStill_1 (fun h => ?_)
  refine az_getR (pc := 4) (c2 := 13) C h fl_X5_91 rfl rfl dX5_firstStill_4 (fun h => ?_)
  refine az_il1 (pc := 7) C dX5_firstStill_7 ?_
  refine az_iaload (pc := 8) C h dX5_firstStill_8 (fun h => ?_)
  refine az_is4 (pc := 9) C rfl rfl dX5_firstStill_9 ?_
  refine az_al0 (pc := 11) C rfl rfl dX5_firstStill_11 ?_
  refine az_getR (pc := 12) (c2 := 9) C h fl_X5_64 rfl rfl dX5_firstStill_12 (fun h => ?_)
  refine az_getR (pc := 15) (c2 := 15) C h fl_X5_94 rfl rfl dX5_firstStill_15 (fun h => ?_)
  refine az_il4 (pc := 18) C dX5_firstStill_18 ?_
  refine az_zaload (pc := 20) C h dX5_firstStill_20 (fun h => ?_)
  refine az_if_ne (pc := 21) (tgt := 26) C h dX5_firstStill_21 (by decide) (fun _ h => ?_) (fun _ h => ?_)
  · refine az_ik0 (pc := 26) C dX5_firstStill_26 ?_
    refine az_is5 (pc := 27) C rfl rfl dX5_firstStill_27 ?_
    exact (A_X5_firstStill_29 C hD n n h)
  refine az_ikm1 (pc := 24) C dX5_firstStill_24 ?_
  obtain rfl := Option.some.inj h
  exact az_ireturn (pc := 25) C dX5_firstStill_25 rfl
set_option maxRecDepth 10000 in
set_option maxHeartbeats 4000000 in
theorem A_X5_firstStill {l : Launch} {d : Nat} (hD : 3 ≤ d) (n : Nat) {σ : az_Hp} {v0 v1 v2 v3 : Int} {r : (Int × az_Hp)} (h : fz_X5_firstStill n σ v0 v1 v2 v3 = some r) : az_AC l yX5_firstStill cX5_firstStill 8 (some .int) d [(7, v0), (0, v1), (9, v2), (0, v3)] σ (some (0, r.1), r.2) := az_AC.of mt_X5_firstStill rfl rfl rfl (fun Z hZ C => A_X5_firstStill_e C hD n h)
