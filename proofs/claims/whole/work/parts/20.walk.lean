theorem dX10_give_0 : decode cX10_give 0 = .ok (.aload_n 0, 1) := by decide +kernel
theorem dX10_give_1 : decode cX10_give 1 = .ok (.iconst 0, 1) := by decide +kernel
theorem dX10_give_2 : decode cX10_give 2 = .ok (.putfield 17, 3) := by decide +kernel
theorem dX10_give_5 : decode cX10_give 5 = .ok (.iload_n 1, 1) := by decide +kernel
theorem dX10_give_6 : decode cX10_give 6 = .ok (.ireturn, 1) := by decide +kernel
set_option maxRecDepth 10000 in
set_option maxHeartbeats 4000000 in
theorem A_X10_give_e {Z : az_Z} {d : Nat} (C : az_C Z yX10_give cX10_give 2 (some .int) d) (hD : 1 ≤ d) {σ : az_Hp} {v0 v1 : Int} {r : (Int × az_Hp)} (h : fz_X10_give σ v0 v1 = some r) : az_AW Z 2 0 [(12, v0), (0, v1)] [] σ (some (0, r.1), r.2) := by
  have hd1 : 1 ≤ d := by omega
  unfold fz_X10_give at h
  refine az_al0 (pc := 0) C rfl rfl dX10_give_0 ?_
  refine az_ik0 (pc := 1) C dX10_give_1 ?_
  refine az_putI (pc := 2) C fl_X10_17 (Or.inl rfl) rfl dX10_give_2 ?_
  refine az_il1 (pc := 5) C dX10_give_5 ?_
  obtain rfl := Option.some.inj h
  exact az_ireturn (pc := 6) C dX10_give_6 rfl
set_option maxRecDepth 10000 in
set_option maxHeartbeats 4000000 in
theorem A_X10_give {l : Launch} {d : Nat} (hD : 1 ≤ d) {σ : az_Hp} {v0 v1 : Int} {r : (Int × az_Hp)} (h : fz_X10_give σ v0 v1 = some r) : az_AC l yX10_give cX10_give 2 (some .int) d [(12, v0), (0, v1)] σ (some (0, r.1), r.2) := az_AC.of mt_X10_give rfl rfl rfl (fun Z hZ C => A_X10_give_e C hD h)
theorem dX10_refuse_0 : decode cX10_refuse 0 = .ok (.aload_n 0, 1) := by decide +kernel
theorem dX10_refuse_1 : decode cX10_refuse 1 = .ok (.iload_n 1, 1) := by decide +kernel
theorem dX10_refuse_2 : decode cX10_refuse 2 = .ok (.putfield 17, 3) := by decide +kernel
theorem dX10_refuse_5 : decode cX10_refuse 5 = .ok (.iconst (-1), 1) := by decide +kernel
theorem dX10_refuse_6 : decode cX10_refuse 6 = .ok (.ireturn, 1) := by decide +kernel
set_option maxRecDepth 10000 in
set_option maxHeartbeats 4000000 in
theorem A_X10_refuse_e {Z : az_Z} {d : Nat} (C : az_C Z yX10_refuse cX10_refuse 2 (some .int) d) (hD : 1 ≤ d) {σ : az_Hp} {v0 v1 : Int} {r : (Int × az_Hp)} (h : fz_X10_refuse σ v0 v1 = some r) : az_AW Z 2 0 [(12, v0), (0, v1)] [] σ (some (0, r.1), r.2) := by
  have hd1 : 1 ≤ d := by omega
  unfold fz_X10_refuse at h
  refine az_al0 (pc := 0) C rfl rfl dX10_refuse_0 ?_
  refine az_il1 (pc := 1) C dX10_refuse_1 ?_
  refine az_putI (pc := 2) C fl_X10_17 (Or.inl rfl) rfl dX10_refuse_2 ?_
  refine az_ikm1 (pc := 5) C dX10_refuse_5 ?_
  obtain rfl := Option.some.inj h
  exact az_ireturn (pc := 6) C dX10_refuse_6 rfl
set_option maxRecDepth 10000 in
set_option maxHeartbeats 4000000 in
theorem A_X10_refuse {l : Launch} {d : Nat} (hD : 1 ≤ d) {σ : az_Hp} {v0 v1 : Int} {r : (Int × az_Hp)} (h : fz_X10_refuse σ v0 v1 = some r) : az_AC l yX10_refuse cX10_refuse 2 (some .int) d [(12, v0), (0, v1)] σ (some (0, r.1), r.2) := az_AC.of mt_X10_refuse rfl rfl rfl (fun Z hZ C => A_X10_refuse_e C hD h)
theorem dX10_bad_0 : decode cX10_bad 0 = .ok (.iload_n 2, 1) := by decide +kernel
theorem dX10_bad_1 : decode cX10_bad 1 = .ok (.ifCond .lt 8, 3) := by decide +kernel
theorem dX10_bad_4 : decode cX10_bad 4 = .ok (.iload_n 2, 1) := by decide +kernel
theorem dX10_bad_5 : decode cX10_bad 5 = .ok (.iconst 2, 1) := by decide +kernel
theorem dX10_bad_6 : decode cX10_bad 6 = .ok (.if_icmp .le 9, 3) := by decide +kernel
theorem dX10_bad_9 : decode cX10_bad 9 = .ok (.aload_n 0, 1) := by decide +kernel
theorem dX10_bad_10 : decode cX10_bad 10 = .ok (.iconst 1, 1) := by decide +kernel
theorem dX10_bad_11 : decode cX10_bad 11 = .ok (.invokevirtual 112, 3) := by decide +kernel
theorem dX10_bad_14 : decode cX10_bad 14 = .ok (.ireturn, 1) := by decide +kernel
theorem dX10_bad_15 : decode cX10_bad 15 = .ok (.iload_n 1, 1) := by decide +kernel
theorem dX10_bad_16 : decode cX10_bad 16 = .ok (.ifCond .lt 14, 3) := by decide +kernel
theorem dX10_bad_19 : decode cX10_bad 19 = .ok (.iload_n 1, 1) := by decide +kernel
theorem dX10_bad_20 : decode cX10_bad 20 = .ok (.aload_n 0, 1) := by decide +kernel
theorem dX10_bad_21 : decode cX10_bad 21 = .ok (.getfield 29, 3) := by decide +kernel
theorem dX10_bad_24 : decode cX10_bad 24 = .ok (.getfield 144, 3) := by decide +kernel
theorem dX10_bad_27 : decode cX10_bad 27 = .ok (.if_icmp .lt 9, 3) := by decide +kernel
theorem dX10_bad_30 : decode cX10_bad 30 = .ok (.aload_n 0, 1) := by decide +kernel
theorem dX10_bad_31 : decode cX10_bad 31 = .ok (.iconst 2, 1) := by decide +kernel
theorem dX10_bad_32 : decode cX10_bad 32 = .ok (.invokevirtual 112, 3) := by decide +kernel
theorem dX10_bad_35 : decode cX10_bad 35 = .ok (.ireturn, 1) := by decide +kernel
theorem dX10_bad_36 : decode cX10_bad 36 = .ok (.aload_n 0, 1) := by decide +kernel
theorem dX10_bad_37 : decode cX10_bad 37 = .ok (.getfield 29, 3) := by decide +kernel
theorem dX10_bad_40 : decode cX10_bad 40 = .ok (.getfield 221, 3) := by decide +kernel
theorem dX10_bad_43 : decode cX10_bad 43 = .ok (.iload_n 1, 1) := by decide +kernel
theorem dX10_bad_44 : decode cX10_bad 44 = .ok (.iaload, 1) := by decide +kernel
theorem dX10_bad_45 : decode cX10_bad 45 = .ok (.ifCond .ne 9, 3) := by decide +kernel
theorem dX10_bad_48 : decode cX10_bad 48 = .ok (.aload_n 0, 1) := by decide +kernel
theorem dX10_bad_49 : decode cX10_bad 49 = .ok (.iconst 5, 1) := by decide +kernel
theorem dX10_bad_50 : decode cX10_bad 50 = .ok (.invokevirtual 112, 3) := by decide +kernel
theorem dX10_bad_53 : decode cX10_bad 53 = .ok (.ireturn, 1) := by decide +kernel
theorem dX10_bad_54 : decode cX10_bad 54 = .ok (.aload_n 0, 1) := by decide +kernel
theorem dX10_bad_55 : decode cX10_bad 55 = .ok (.iload_n 2, 1) := by decide +kernel
theorem dX10_bad_56 : decode cX10_bad 56 = .ok (.ifCond .ne 15, 3) := by decide +kernel
theorem dX10_bad_59 : decode cX10_bad 59 = .ok (.aload_n 0, 1) := by decide +kernel
theorem dX10_bad_60 : decode cX10_bad 60 = .ok (.getfield 29, 3) := by decide +kernel
theorem dX10_bad_63 : decode cX10_bad 63 = .ok (.getfield 221, 3) := by decide +kernel
theorem dX10_bad_66 : decode cX10_bad 66 = .ok (.iload_n 1, 1) := by decide +kernel
theorem dX10_bad_67 : decode cX10_bad 67 = .ok (.iaload, 1) := by decide +kernel
theorem dX10_bad_68 : decode cX10_bad 68 = .ok (.goto 29, 3) := by decide +kernel
theorem dX10_bad_71 : decode cX10_bad 71 = .ok (.iload_n 2, 1) := by decide +kernel
theorem dX10_bad_72 : decode cX10_bad 72 = .ok (.iconst 1, 1) := by decide +kernel
theorem dX10_bad_73 : decode cX10_bad 73 = .ok (.if_icmp .ne 15, 3) := by decide +kernel
theorem dX10_bad_76 : decode cX10_bad 76 = .ok (.aload_n 0, 1) := by decide +kernel
theorem dX10_bad_77 : decode cX10_bad 77 = .ok (.getfield 29, 3) := by decide +kernel
theorem dX10_bad_80 : decode cX10_bad 80 = .ok (.getfield 224, 3) := by decide +kernel
theorem dX10_bad_83 : decode cX10_bad 83 = .ok (.iload_n 1, 1) := by decide +kernel
theorem dX10_bad_84 : decode cX10_bad 84 = .ok (.iaload, 1) := by decide +kernel
theorem dX10_bad_85 : decode cX10_bad 85 = .ok (.goto 12, 3) := by decide +kernel
theorem dX10_bad_88 : decode cX10_bad 88 = .ok (.aload_n 0, 1) := by decide +kernel
theorem dX10_bad_89 : decode cX10_bad 89 = .ok (.getfield 29, 3) := by decide +kernel
theorem dX10_bad_92 : decode cX10_bad 92 = .ok (.getfield 227, 3) := by decide +kernel
theorem dX10_bad_95 : decode cX10_bad 95 = .ok (.iload_n 1, 1) := by decide +kernel
theorem dX10_bad_96 : decode cX10_bad 96 = .ok (.iaload, 1) := by decide +kernel
theorem dX10_bad_97 : decode cX10_bad 97 = .ok (.invokevirtual 138, 3) := by decide +kernel
theorem dX10_bad_100 : decode cX10_bad 100 = .ok (.ireturn, 1) := by decide +kernel
set_option maxRecDepth 10000 in
set_option maxHeartbeats 4000000 in
theorem A_X10_bad_e {Z : az_Z} {d : Nat} (C : az_C Z yX10_bad cX10_bad 3 (some .int) d) (hD : 2 ≤ d) {σ : az_Hp} {v0 v1 v2 : Int} {r : (Int × az_Hp)} (h : fz_X10_bad σ v0 v1 v2 = some r) : az_AW Z 3 0 [(12, v0), (0, v1), (0, v2)] [] σ (some (0, r.1), r.2) := by
  have hd1 : 1 ≤ d := by omega
  unfold fz_X10_bad at h
  refine az_il2 (pc := 0) C dX10_bad_0 ?_
  refine az_if_lt (pc := 1) (tgt := 9) C h dX10_bad_1 (by decide) (fun _ h => ?_) (fun _ h => ?_)
  · refine az_al0 (pc := 9) C rfl rfl dX10_bad_9 ?_
    refine az_ik1 (pc := 10) C dX10_bad_10 ?_
    refine az_cV1ii (pc := 11) (c := 10) C hd1 h mv_X10_refuse ml_X10_112 rfl (fun x hx => A_X10_refuse (by omega) hx) dX10_bad_11 (fun r1 h => ?_)
    obtain rfl := Option.some.inj h
    exact az_ireturn (pc := 14) C dX10_bad_14 rfl
  refine az_il2 (pc := 4) C dX10_bad_4 ?_
  refine az_ik2 (pc := 5) C dX10_bad_5 ?_
  refine az_icmp_le (pc := 6) (tgt := 15) C h dX10_bad_6 (by decide) (fun _ h => ?_) (fun _ h => ?_)
  · refine az_il1 (pc := 15) C dX10_bad_15 ?_
    refine az_if_lt (pc := 16) (tgt := 30) C h dX10_bad_16 (by decide) (fun _ h => ?_) (fun _ h => ?_)
    · refine az_al0 (pc := 30) C rfl rfl dX10_bad_30 ?_
      refine az_ik2 (pc := 31) C dX10_bad_31 ?_
      refine az_cV1ii (pc := 32) (c := 10) C hd1 h mv_X10_refuse ml_X10_112 rfl (fun x hx => A_X10_refuse (by omega) hx) dX10_bad_32 (fun r2 h => ?_)
      obtain rfl := Option.some.inj h
      exact az_ireturn (pc := 35) C dX10_bad_35 rfl
    refine az_il1 (pc := 19) C dX10_bad_19 ?_
    refine az_al0 (pc := 20) C rfl rfl dX10_bad_20 ?_
    refine az_getR (pc := 21) (c2 := 9) C h fl_X10_29 rfl rfl dX10_bad_21 (fun h => ?_)
    refine az_getI (pc := 24) C fl_X10_144 rfl dX10_bad_24 ?_
    refine az_icmp_lt (pc := 27) (tgt := 36) C h dX10_bad_27 (by decide) (fun _ h => ?_) (fun _ h => ?_)
    · refine az_al0 (pc := 36) C rfl rfl dX10_bad_36 ?_
      refine az_getR (pc := 37) (c2 := 9) C h fl_X10_29 rfl rfl dX10_bad_37 (fun h => ?_)
      refine az_getR (pc := 40) (c2 := 13) C h fl_X10_221 rfl rfl dX10_bad_40 (fun h => ?_)
      refine az_il1 (pc := 43) C dX10_bad_43 ?_
      refine az_iaload (pc := 44) C h dX10_bad_44 (fun h => ?_)
      refine az_if_ne (pc := 45) (tgt := 54) C h dX10_bad_45 (by decide) (fun _ h => ?_) (fun _ h => ?_)
      · refine az_al0 (pc := 54) C rfl rfl dX10_bad_54 ?_
        refine az_il2 (pc := 55) C dX10_bad_55 ?_
        refine az_if_ne (pc := 56) (tgt := 71) C h dX10_bad_56 (by decide) (fun _ h => ?_) (fun _ h => ?_)
        · refine az_il2 (pc := 71) C dX10_bad_71 ?_
          refine az_ik1 (pc := 72) C dX10_bad_72 ?_
          refine az_icmp_ne (pc := 73) (tgt := 88) C h dX10_bad_73 (by decide) (fun _ h => ?_) (fun _ h => ?_)
          · refine az_al0 (pc := 88) C rfl rfl dX10_bad_88 ?_
            refine az_getR (pc := 89) (c2 := 9) C h fl_X10_29 rfl rfl dX10_bad_89 (fun h => ?_)
            refine az_getR (pc := 92) (c2 := 13) C h fl_X10_227 rfl rfl dX10_bad_92 (fun h => ?_)
            refine az_il1 (pc := 95) C dX10_bad_95 ?_
            refine az_iaload (pc := 96) C h dX10_bad_96 (fun h => ?_)
            refine az_cV1ii (pc := 97) (c := 10) C hd1 h mv_X10_give ml_X10_138 rfl (fun x hx => A_X10_give (by omega) hx) dX10_bad_97 (fun r10 h => ?_)
            obtain rfl := Option.some.inj h
            exact az_ireturn (pc := 100) C dX10_bad_100 rfl
          refine az_al0 (pc := 76) C rfl rfl dX10_bad_76 ?_
          refine az_getR (pc := 77) (c2 := 9) C h fl_X10_29 rfl rfl dX10_bad_77 (fun h => ?_)
          refine az_getR (pc := 80) (c2 := 13) C h fl_X10_224 rfl rfl dX10_bad_80 (fun h => ?_)
          refine az_il1 (pc := 83) C dX10_bad_83 ?_
          refine az_iaload (pc := 84) C h dX10_bad_84 (fun h => ?_)
          refine az_goto (pc := 85) (tgt := 97) C dX10_bad_85 (by decide) ?_
          refine az_cV1ii (pc := 97) (c := 10) C hd1 h mv_X10_give ml_X10_138 rfl (fun x hx => A_X10_give (by omega) hx) dX10_bad_97 (fun r14 h => ?_)
          obtain rfl := Option.some.inj h
          exact az_ireturn (pc := 100) C dX10_bad_100 rfl
        refine az_al0 (pc := 59) C rfl rfl dX10_bad_59 ?_
        refine az_getR (pc := 60) (c2 := 9) C h fl_X10_29 rfl rfl dX10_bad_60 (fun h => ?_)
        refine az_getR (pc := 63) (c2 := 13) C h fl_X10_221 rfl rfl dX10_bad_63 (fun h => ?_)
        refine az_il1 (pc := 66) C dX10_bad_66 ?_
        refine az_iaload (pc := 67) C h dX10_bad_67 (fun h => ?_)
        refine az_goto (pc := 68) (tgt := 97) C dX10_bad_68 (by decide) ?_
        refine az_cV1ii (pc := 97) (c := 10) C hd1 h mv_X10_give ml_X10_138 rfl (fun x hx => A_X10_give (by omega) hx) dX10_bad_97 (fun r18 h => ?_)
        obtain rfl := Option.some.inj h
        exact az_ireturn (pc := 100) C dX10_bad_100 rfl
      refine az_al0 (pc := 48) C rfl rfl dX10_bad_48 ?_
      refine az_ik5 (pc := 49) C dX10_bad_49 ?_
      refine az_cV1ii (pc := 50) (c := 10) C hd1 h mv_X10_refuse ml_X10_112 rfl (fun x hx => A_X10_refuse (by omega) hx) dX10_bad_50 (fun r19 h => ?_)
      obtain rfl := Option.some.inj h
      exact az_ireturn (pc := 53) C dX10_bad_53 rfl
    refine az_al0 (pc := 30) C rfl rfl dX10_bad_30 ?_
    refine az_ik2 (pc := 31) C dX10_bad_31 ?_
    refine az_cV1ii (pc := 32) (c := 10) C hd1 h mv_X10_refuse ml_X10_112 rfl (fun x hx => A_X10_refuse (by omega) hx) dX10_bad_32 (fun r20 h => ?_)
    obtain rfl := Option.some.inj h
    exact az_ireturn (pc := 35) C dX10_bad_35 rfl
  refine az_al0 (pc := 9) C rfl rfl dX10_bad_9 ?_
  refine az_ik1 (pc := 10) C dX10_bad_10 ?_
  refine az_cV1ii (pc := 11) (c := 10) C hd1 h mv_X10_refuse ml_X10_112 rfl (fun x hx => A_X10_refuse (by omega) hx) dX10_bad_11 (fun r21 h => ?_)
  obtain rfl := Option.some.inj h
  exact az_ireturn (pc := 14) C dX10_bad_14 rfl
set_option maxRecDepth 10000 in
set_option maxHeartbeats 4000000 in
theorem A_X10_bad {l : Launch} {d : Nat} (hD : 2 ≤ d) {σ : az_Hp} {v0 v1 v2 : Int} {r : (Int × az_Hp)} (h : fz_X10_bad σ v0 v1 v2 = some r) : az_AC l yX10_bad cX10_bad 3 (some .int) d [(12, v0), (0, v1), (0, v2)] σ (some (0, r.1), r.2) := az_AC.of mt_X10_bad rfl rfl rfl (fun Z hZ C => A_X10_bad_e C hD h)
theorem dX10_isEquation_0 : decode cX10_isEquation 0 = .ok (.iload_n 1, 1) := by decide +kernel
theorem dX10_isEquation_1 : decode cX10_isEquation 1 = .ok (.ifCond .lt 18, 3) := by decide +kernel
theorem dX10_isEquation_4 : decode cX10_isEquation 4 = .ok (.iload_n 1, 1) := by decide +kernel
theorem dX10_isEquation_5 : decode cX10_isEquation 5 = .ok (.aload_n 0, 1) := by decide +kernel
theorem dX10_isEquation_6 : decode cX10_isEquation 6 = .ok (.getfield 29, 3) := by decide +kernel
theorem dX10_isEquation_9 : decode cX10_isEquation 9 = .ok (.getfield 135, 3) := by decide +kernel
theorem dX10_isEquation_12 : decode cX10_isEquation 12 = .ok (.if_icmp .ge 7, 3) := by decide +kernel
theorem dX10_isEquation_15 : decode cX10_isEquation 15 = .ok (.iconst 1, 1) := by decide +kernel
theorem dX10_isEquation_16 : decode cX10_isEquation 16 = .ok (.goto 4, 3) := by decide +kernel
theorem dX10_isEquation_19 : decode cX10_isEquation 19 = .ok (.iconst 0, 1) := by decide +kernel
theorem dX10_isEquation_20 : decode cX10_isEquation 20 = .ok (.ireturn, 1) := by decide +kernel
set_option maxRecDepth 10000 in
set_option maxHeartbeats 4000000 in
theorem A_X10_isEquation_e {Z : az_Z} {d : Nat} (C : az_C Z yX10_isEquation cX10_isEquation 2 (some .boolean) d) (hD : 1 ≤ d) {σ : az_Hp} {v0 v1 : Int} {r : Int} (h : fz_X10_isEquation σ v0 v1 = some r) : az_AW Z 2 0 [(12, v0), (0, v1)] [] σ (some (0, r), σ) := by
  have hd1 : 1 ≤ d := by omega
  unfold fz_X10_isEquation at h
  refine az_il1 (pc := 0) C dX10_isEquation_0 ?_
  refine az_if_lt (pc := 1) (tgt := 19) C h dX10_isEquation_1 (by decide) (fun _ h => ?_) (fun _ h => ?_)
  · refine az_ik0 (pc := 19) C dX10_isEquation_19 ?_
    obtain rfl := Option.some.inj h
    exact az_zreturn (pc := 20) C (by decide) dX10_isEquation_20 rfl
  refine az_il1 (pc := 4) C dX10_isEquation_4 ?_
  refine az_al0 (pc := 5) C rfl rfl dX10_isEquation_5 ?_
  refine az_getR (pc := 6) (c2 := 9) C h fl_X10_29 rfl rfl dX10_isEquation_6 (fun h => ?_)
  refine az_getI (pc := 9) C fl_X10_135 rfl dX10_isEquation_9 ?_
  refine az_icmp_ge (pc := 12) (tgt := 19) C h dX10_isEquation_12 (by decide) (fun _ h => ?_) (fun _ h => ?_)
  · refine az_ik0 (pc := 19) C dX10_isEquation_19 ?_
    obtain rfl := Option.some.inj h
    exact az_zreturn (pc := 20) C (by decide) dX10_isEquation_20 rfl
  refine az_ik1 (pc := 15) C dX10_isEquation_15 ?_
  refine az_goto (pc := 16) (tgt := 20) C dX10_isEquation_16 (by decide) ?_
  obtain rfl := Option.some.inj h
  exact az_zreturn (pc := 20) C (by decide) dX10_isEquation_20 rfl
set_option maxRecDepth 10000 in
set_option maxHeartbeats 4000000 in
theorem A_X10_isEquation {l : Launch} {d : Nat} (hD : 1 ≤ d) {σ : az_Hp} {v0 v1 : Int} {r : Int} (h : fz_X10_isEquation σ v0 v1 = some r) : az_AC l yX10_isEquation cX10_isEquation 2 (some .boolean) d [(12, v0), (0, v1)] σ (some (0, r), σ) := az_AC.of mt_X10_isEquation rfl rfl rfl (fun Z hZ C => A_X10_isEquation_e C hD h)
theorem dX9_agree_0 : decode cX9_agree 0 = .ok (.aload_n 0, 1) := by decide +kernel
theorem dX9_agree_1 : decode cX9_agree 1 = .ok (.getfield 56, 3) := by decide +kernel
theorem dX9_agree_4 : decode cX9_agree 4 = .ok (.iload_n 1, 1) := by decide +kernel
theorem dX9_agree_5 : decode cX9_agree 5 = .ok (.bipush 16, 2) := by decide +kernel
theorem dX9_agree_7 : decode cX9_agree 7 = .ok (.imul, 1) := by decide +kernel
theorem dX9_agree_8 : decode cX9_agree 8 = .ok (.iload_n 2, 1) := by decide +kernel
theorem dX9_agree_9 : decode cX9_agree 9 = .ok (.iadd, 1) := by decide +kernel
theorem dX9_agree_10 : decode cX9_agree 10 = .ok (.baload, 1) := by decide +kernel
theorem dX9_agree_11 : decode cX9_agree 11 = .ok (.ireturn, 1) := by decide +kernel
set_option maxRecDepth 10000 in
set_option maxHeartbeats 4000000 in
theorem A_X9_agree_e {Z : az_Z} {d : Nat} (C : az_C Z yX9_agree cX9_agree 3 (some .boolean) d) (hD : 1 ≤ d) {σ : az_Hp} {v0 v1 v2 : Int} {r : Int} (h : fz_X9_agree σ v0 v1 v2 = some r) : az_AW Z 3 0 [(11, v0), (0, v1), (0, v2)] [] σ (some (0, r), σ) := by
  have hd1 : 1 ≤ d := by omega
  unfold fz_X9_agree at h
  refine az_al0 (pc := 0) C rfl rfl dX9_agree_0 ?_
  refine az_getR (pc := 1) (c2 := 15) C h fl_X9_56 rfl rfl dX9_agree_1 (fun h => ?_)
  refine az_il1 (pc := 4) C dX9_agree_4 ?_
  refine az_bk16 (pc := 5) C dX9_agree_5 ?_
  refine az_imul (pc := 7) C dX9_agree_7 ?_
  refine az_il2 (pc := 8) C dX9_agree_8 ?_
  refine az_iadd (pc := 9) C dX9_agree_9 ?_
  refine az_zaload (pc := 10) C h dX9_agree_10 (fun h => ?_)
  obtain ⟨hz, h⟩ := az_zif h
  obtain rfl := Option.some.inj h
  exact az_zreturn (pc := 11) C hz dX9_agree_11 rfl
set_option maxRecDepth 10000 in
set_option maxHeartbeats 4000000 in
theorem A_X9_agree {l : Launch} {d : Nat} (hD : 1 ≤ d) {σ : az_Hp} {v0 v1 v2 : Int} {r : Int} (h : fz_X9_agree σ v0 v1 v2 = some r) : az_AC l yX9_agree cX9_agree 3 (some .boolean) d [(11, v0), (0, v1), (0, v2)] σ (some (0, r), σ) := az_AC.of mt_X9_agree rfl rfl rfl (fun Z hZ C => A_X9_agree_e C hD h)
theorem dX10_compatible_0 : decode cX10_compatible 0 = .ok (.aload_n 0, 1) := by decide +kernel
theorem dX10_compatible_1 : decode cX10_compatible 1 = .ok (.iload_n 1, 1) := by decide +kernel
theorem dX10_compatible_2 : decode cX10_compatible 2 = .ok (.invokevirtual 176, 3) := by decide +kernel
theorem dX10_compatible_5 : decode cX10_compatible 5 = .ok (.ifCond .eq 11, 3) := by decide +kernel
theorem dX10_compatible_8 : decode cX10_compatible 8 = .ok (.aload_n 0, 1) := by decide +kernel
theorem dX10_compatible_9 : decode cX10_compatible 9 = .ok (.iload_n 2, 1) := by decide +kernel
theorem dX10_compatible_10 : decode cX10_compatible 10 = .ok (.invokevirtual 176, 3) := by decide +kernel
theorem dX10_compatible_13 : decode cX10_compatible 13 = .ok (.ifCond .ne 9, 3) := by decide +kernel
theorem dX10_compatible_16 : decode cX10_compatible 16 = .ok (.aload_n 0, 1) := by decide +kernel
theorem dX10_compatible_17 : decode cX10_compatible 17 = .ok (.iconst 2, 1) := by decide +kernel
theorem dX10_compatible_18 : decode cX10_compatible 18 = .ok (.invokevirtual 112, 3) := by decide +kernel
theorem dX10_compatible_21 : decode cX10_compatible 21 = .ok (.ireturn, 1) := by decide +kernel
theorem dX10_compatible_22 : decode cX10_compatible 22 = .ok (.aload_n 0, 1) := by decide +kernel
theorem dX10_compatible_23 : decode cX10_compatible 23 = .ok (.getfield 29, 3) := by decide +kernel
theorem dX10_compatible_26 : decode cX10_compatible 26 = .ok (.getfield 179, 3) := by decide +kernel
theorem dX10_compatible_29 : decode cX10_compatible 29 = .ok (.iload_n 1, 1) := by decide +kernel
theorem dX10_compatible_30 : decode cX10_compatible 30 = .ok (.iaload, 1) := by decide +kernel
theorem dX10_compatible_31 : decode cX10_compatible 31 = .ok (.aload_n 0, 1) := by decide +kernel
theorem dX10_compatible_32 : decode cX10_compatible 32 = .ok (.getfield 29, 3) := by decide +kernel
theorem dX10_compatible_35 : decode cX10_compatible 35 = .ok (.getfield 179, 3) := by decide +kernel
theorem dX10_compatible_38 : decode cX10_compatible 38 = .ok (.iload_n 2, 1) := by decide +kernel
theorem dX10_compatible_39 : decode cX10_compatible 39 = .ok (.iaload, 1) := by decide +kernel
theorem dX10_compatible_40 : decode cX10_compatible 40 = .ok (.if_icmp .eq 9, 3) := by decide +kernel
theorem dX10_compatible_43 : decode cX10_compatible 43 = .ok (.aload_n 0, 1) := by decide +kernel
theorem dX10_compatible_44 : decode cX10_compatible 44 = .ok (.iconst 5, 1) := by decide +kernel
theorem dX10_compatible_45 : decode cX10_compatible 45 = .ok (.invokevirtual 112, 3) := by decide +kernel
theorem dX10_compatible_48 : decode cX10_compatible 48 = .ok (.ireturn, 1) := by decide +kernel
theorem dX10_compatible_49 : decode cX10_compatible 49 = .ok (.aload_n 0, 1) := by decide +kernel
theorem dX10_compatible_50 : decode cX10_compatible 50 = .ok (.aload_n 0, 1) := by decide +kernel
theorem dX10_compatible_51 : decode cX10_compatible 51 = .ok (.getfield 29, 3) := by decide +kernel
theorem dX10_compatible_54 : decode cX10_compatible 54 = .ok (.iload_n 1, 1) := by decide +kernel
theorem dX10_compatible_55 : decode cX10_compatible 55 = .ok (.iload_n 2, 1) := by decide +kernel
theorem dX10_compatible_56 : decode cX10_compatible 56 = .ok (.invokevirtual 202, 3) := by decide +kernel
theorem dX10_compatible_59 : decode cX10_compatible 59 = .ok (.ifCond .eq 7, 3) := by decide +kernel
theorem dX10_compatible_62 : decode cX10_compatible 62 = .ok (.iconst 1, 1) := by decide +kernel
theorem dX10_compatible_63 : decode cX10_compatible 63 = .ok (.goto 4, 3) := by decide +kernel
theorem dX10_compatible_66 : decode cX10_compatible 66 = .ok (.iconst 0, 1) := by decide +kernel
theorem dX10_compatible_67 : decode cX10_compatible 67 = .ok (.invokevirtual 138, 3) := by decide +kernel
theorem dX10_compatible_70 : decode cX10_compatible 70 = .ok (.ireturn, 1) := by decide +kernel
set_option maxRecDepth 10000 in
set_option maxHeartbeats 4000000 in
theorem A_X10_compatible_e {Z : az_Z} {d : Nat} (C : az_C Z yX10_compatible cX10_compatible 3 (some .int) d) (hD : 2 ≤ d) {σ : az_Hp} {v0 v1 v2 : Int} {r : (Int × az_Hp)} (h : fz_X10_compatible σ v0 v1 v2 = some r) : az_AW Z 3 0 [(12, v0), (0, v1), (0, v2)] [] σ (some (0, r.1), r.2) := by
  have hd1 : 1 ≤ d := by omega
  unfold fz_X10_compatible at h
  refine az_al0 (pc := 0) C rfl rfl dX10_compatible_0 ?_
  refine az_il1 (pc := 1) C dX10_compatible_1 ?_
  refine az_cV1pi (pc := 2) (c := 10) C hd1 h mv_X10_isEquation ml_X10_176 rfl (fun x hx => A_X10_isEquation (by omega) hx) dX10_compatible_2 (fun r1 h => ?_)
  refine az_if_eq (pc := 5) (tgt := 16) C h dX10_compatible_5 (by decide) (fun _ h => ?_) (fun _ h => ?_)
  · refine az_al0 (pc := 16) C rfl rfl dX10_compatible_16 ?_
    refine az_ik2 (pc := 17) C dX10_compatible_17 ?_
    refine az_cV1ii (pc := 18) (c := 10) C hd1 h mv_X10_refuse ml_X10_112 rfl (fun x hx => A_X10_refuse (by omega) hx) dX10_compatible_18 (fun r2 h => ?_)
    obtain rfl := Option.some.inj h
    exact az_ireturn (pc := 21) C dX10_compatible_21 rfl
  refine az_al0 (pc := 8) C rfl rfl dX10_compatible_8 ?_
  refine az_il2 (pc := 9) C dX10_compatible_9 ?_
  refine az_cV1pi (pc := 10) (c := 10) C hd1 h mv_X10_isEquation ml_X10_176 rfl (fun x hx => A_X10_isEquation (by omega) hx) dX10_compatible_10 (fun r3 h => ?_)
  refine az_if_ne (pc := 13) (tgt := 22) C h dX10_compatible_13 (by decide) (fun _ h => ?_) (fun _ h => ?_)
  · refine az_al0 (pc := 22) C rfl rfl dX10_compatible_22 ?_
    refine az_getR (pc := 23) (c2 := 9) C h fl_X10_29 rfl rfl dX10_compatible_23 (fun h => ?_)
    refine az_getR (pc := 26) (c2 := 13) C h fl_X10_179 rfl rfl dX10_compatible_26 (fun h => ?_)
    refine az_il1 (pc := 29) C dX10_compatible_29 ?_
    refine az_iaload (pc := 30) C h dX10_compatible_30 (fun h => ?_)
    refine az_al0 (pc := 31) C rfl rfl dX10_compatible_31 ?_
    refine az_getR (pc := 32) (c2 := 9) C h fl_X10_29 rfl rfl dX10_compatible_32 (fun h => ?_)
    refine az_getR (pc := 35) (c2 := 13) C h fl_X10_179 rfl rfl dX10_compatible_35 (fun h => ?_)
    refine az_il2 (pc := 38) C dX10_compatible_38 ?_
    refine az_iaload (pc := 39) C h dX10_compatible_39 (fun h => ?_)
    refine az_icmp_eq (pc := 40) (tgt := 49) C h dX10_compatible_40 (by decide) (fun _ h => ?_) (fun _ h => ?_)
    · refine az_al0 (pc := 49) C rfl rfl dX10_compatible_49 ?_
      refine az_al0 (pc := 50) C rfl rfl dX10_compatible_50 ?_
      refine az_getR (pc := 51) (c2 := 9) C h fl_X10_29 rfl rfl dX10_compatible_51 (fun h => ?_)
      refine az_il1 (pc := 54) C dX10_compatible_54 ?_
      refine az_il2 (pc := 55) C dX10_compatible_55 ?_
      refine az_cV2pi (pc := 56) (c := 9) C hd1 h mv_X9_agree ml_X10_202 rfl (fun x hx => A_X9_agree (by omega) hx) dX10_compatible_56 (fun r11 h => ?_)
      refine az_if_eq (pc := 59) (tgt := 66) C h dX10_compatible_59 (by decide) (fun _ h => ?_) (fun _ h => ?_)
      · refine az_ik0 (pc := 66) C dX10_compatible_66 ?_
        refine az_cV1ii (pc := 67) (c := 10) C hd1 h mv_X10_give ml_X10_138 rfl (fun x hx => A_X10_give (by omega) hx) dX10_compatible_67 (fun r12 h => ?_)
        obtain rfl := Option.some.inj h
        exact az_ireturn (pc := 70) C dX10_compatible_70 rfl
      refine az_ik1 (pc := 62) C dX10_compatible_62 ?_
      refine az_goto (pc := 63) (tgt := 67) C dX10_compatible_63 (by decide) ?_
      refine az_cV1ii (pc := 67) (c := 10) C hd1 h mv_X10_give ml_X10_138 rfl (fun x hx => A_X10_give (by omega) hx) dX10_compatible_67 (fun r13 h => ?_)
      obtain rfl := Option.some.inj h
      exact az_ireturn (pc := 70) C dX10_compatible_70 rfl
    refine az_al0 (pc := 43) C rfl rfl dX10_compatible_43 ?_
    refine az_ik5 (pc := 44) C dX10_compatible_44 ?_
    refine az_cV1ii (pc := 45) (c := 10) C hd1 h mv_X10_refuse ml_X10_112 rfl (fun x hx => A_X10_refuse (by omega) hx) dX10_compatible_45 (fun r14 h => ?_)
    obtain rfl := Option.some.inj h
    exact az_ireturn (pc := 48) C dX10_compatible_48 rfl
  refine az_al0 (pc := 16) C rfl rfl dX10_compatible_16 ?_
  refine az_ik2 (pc := 17) C dX10_compatible_17 ?_
  refine az_cV1ii (pc := 18) (c := 10) C hd1 h mv_X10_refuse ml_X10_112 rfl (fun x hx => A_X10_refuse (by omega) hx) dX10_compatible_18 (fun r15 h => ?_)
  obtain rfl := Option.some.inj h
  exact az_ireturn (pc := 21) C dX10_compatible_21 rfl
set_option maxRecDepth 10000 in
set_option maxHeartbeats 4000000 in
theorem A_X10_compatible {l : Launch} {d : Nat} (hD : 2 ≤ d) {σ : az_Hp} {v0 v1 v2 : Int} {r : (Int × az_Hp)} (h : fz_X10_compatible σ v0 v1 v2 = some r) : az_AC l yX10_compatible cX10_compatible 3 (some .int) d [(12, v0), (0, v1), (0, v2)] σ (some (0, r.1), r.2) := az_AC.of mt_X10_compatible rfl rfl rfl (fun Z hZ C => A_X10_compatible_e C hD h)
theorem dX7_arity_0 : decode cX7_arity 0 = .ok (.iload_n 0, 1) := by decide +kernel
theorem dX7_arity_1 : decode cX7_arity 1 = .ok (.ifCond .ge 7, 3) := by decide +kernel
theorem dX7_arity_4 : decode cX7_arity 4 = .ok (.iconst 0, 1) := by decide +kernel
theorem dX7_arity_5 : decode cX7_arity 5 = .ok (.goto 8, 3) := by decide +kernel
theorem dX7_arity_8 : decode cX7_arity 8 = .ok (.iload_n 0, 1) := by decide +kernel
theorem dX7_arity_9 : decode cX7_arity 9 = .ok (.iconst 2, 1) := by decide +kernel
theorem dX7_arity_10 : decode cX7_arity 10 = .ok (.ishr, 1) := by decide +kernel
theorem dX7_arity_11 : decode cX7_arity 11 = .ok (.iconst 3, 1) := by decide +kernel
theorem dX7_arity_12 : decode cX7_arity 12 = .ok (.iand, 1) := by decide +kernel
theorem dX7_arity_13 : decode cX7_arity 13 = .ok (.ireturn, 1) := by decide +kernel
set_option maxRecDepth 10000 in
set_option maxHeartbeats 4000000 in
theorem A_X7_arity_e {Z : az_Z} {d : Nat} (C : az_C Z yX7_arity cX7_arity 1 (some .int) d) (hD : 1 ≤ d) {σ : az_Hp} {v0 : Int} {r : Int} (h : fz_X7_arity σ v0 = some r) : az_AW Z 1 0 [(0, v0)] [] σ (some (0, r), σ) := by
  have hd1 : 1 ≤ d := by omega
  unfold fz_X7_arity at h
  refine az_il0 (pc := 0) C dX7_arity_0 ?_
  refine az_if_ge (pc := 1) (tgt := 8) C h dX7_arity_1 (by decide) (fun _ h => ?_) (fun _ h => ?_)
  · refine az_il0 (pc := 8) C dX7_arity_8 ?_
    refine az_ik2 (pc := 9) C dX7_arity_9 ?_
    refine az_ishr (pc := 10) C dX7_arity_10 ?_
    refine az_ik3 (pc := 11) C dX7_arity_11 ?_
    refine az_iand (pc := 12) C dX7_arity_12 ?_
    obtain rfl := Option.some.inj h
    exact az_ireturn (pc := 13) C dX7_arity_13 rfl
  refine az_ik0 (pc := 4) C dX7_arity_4 ?_
  refine az_goto (pc := 5) (tgt := 13) C dX7_arity_5 (by decide) ?_
  obtain rfl := Option.some.inj h
  exact az_ireturn (pc := 13) C dX7_arity_13 rfl
set_option maxRecDepth 10000 in
set_option maxHeartbeats 4000000 in
theorem A_X7_arity {l : Launch} {d : Nat} (hD : 1 ≤ d) {σ : az_Hp} {v0 : Int} {r : Int} (h : fz_X7_arity σ v0 = some r) : az_AC l yX7_arity cX7_arity 1 (some .int) d [(0, v0)] σ (some (0, r), σ) := az_AC.of mt_X7_arity rfl rfl rfl (fun Z hZ C => A_X7_arity_e C hD h)
theorem dX7_end_0 : decode cX7_end 0 = .ok (.iconst 1, 1) := by decide +kernel
theorem dX7_end_1 : decode cX7_end 1 = .ok (.istore_n 2, 1) := by decide +kernel
theorem dX7_end_2 : decode cX7_end 2 = .ok (.iload_n 1, 1) := by decide +kernel
theorem dX7_end_3 : decode cX7_end 3 = .ok (.ifCond .ge 7, 3) := by decide +kernel
theorem dX7_end_6 : decode cX7_end 6 = .ok (.iconst 0, 1) := by decide +kernel
theorem dX7_end_7 : decode cX7_end 7 = .ok (.goto 4, 3) := by decide +kernel
theorem dX7_end_10 : decode cX7_end 10 = .ok (.iload_n 1, 1) := by decide +kernel
theorem dX7_end_11 : decode cX7_end 11 = .ok (.istore_n 3, 1) := by decide +kernel
theorem dX7_end_12 : decode cX7_end 12 = .ok (.iload_n 3, 1) := by decide +kernel
theorem dX7_end_13 : decode cX7_end 13 = .ok (.aload_n 0, 1) := by decide +kernel
theorem dX7_end_14 : decode cX7_end 14 = .ok (.getfield 9, 3) := by decide +kernel
theorem dX7_end_17 : decode cX7_end 17 = .ok (.if_icmp .ge 41, 3) := by decide +kernel
theorem dX7_end_20 : decode cX7_end 20 = .ok (.iload_n 2, 1) := by decide +kernel
theorem dX7_end_21 : decode cX7_end 21 = .ok (.ifCond .le 37, 3) := by decide +kernel
theorem dX7_end_24 : decode cX7_end 24 = .ok (.iload_n 2, 1) := by decide +kernel
theorem dX7_end_25 : decode cX7_end 25 = .ok (.aload_n 0, 1) := by decide +kernel
theorem dX7_end_26 : decode cX7_end 26 = .ok (.getfield 21, 3) := by decide +kernel
theorem dX7_end_29 : decode cX7_end 29 = .ok (.iload_n 3, 1) := by decide +kernel
theorem dX7_end_30 : decode cX7_end 30 = .ok (.iaload, 1) := by decide +kernel
theorem dX7_end_31 : decode cX7_end 31 = .ok (.ifCond .ge 7, 3) := by decide +kernel
theorem dX7_end_34 : decode cX7_end 34 = .ok (.iconst (-1), 1) := by decide +kernel
theorem dX7_end_35 : decode cX7_end 35 = .ok (.goto 15, 3) := by decide +kernel
theorem dX7_end_38 : decode cX7_end 38 = .ok (.aload_n 0, 1) := by decide +kernel
theorem dX7_end_39 : decode cX7_end 39 = .ok (.getfield 21, 3) := by decide +kernel
theorem dX7_end_42 : decode cX7_end 42 = .ok (.iload_n 3, 1) := by decide +kernel
theorem dX7_end_43 : decode cX7_end 43 = .ok (.iaload, 1) := by decide +kernel
theorem dX7_end_44 : decode cX7_end 44 = .ok (.iconst 2, 1) := by decide +kernel
theorem dX7_end_45 : decode cX7_end 45 = .ok (.ishr, 1) := by decide +kernel
theorem dX7_end_46 : decode cX7_end 46 = .ok (.iconst 3, 1) := by decide +kernel
theorem dX7_end_47 : decode cX7_end 47 = .ok (.iand, 1) := by decide +kernel
theorem dX7_end_48 : decode cX7_end 48 = .ok (.iconst 1, 1) := by decide +kernel
theorem dX7_end_49 : decode cX7_end 49 = .ok (.isub, 1) := by decide +kernel
theorem dX7_end_50 : decode cX7_end 50 = .ok (.iadd, 1) := by decide +kernel
theorem dX7_end_51 : decode cX7_end 51 = .ok (.istore_n 2, 1) := by decide +kernel
theorem dX7_end_52 : decode cX7_end 52 = .ok (.iinc 3 1, 3) := by decide +kernel
theorem dX7_end_55 : decode cX7_end 55 = .ok (.goto (-43), 3) := by decide +kernel
theorem dX7_end_58 : decode cX7_end 58 = .ok (.iload_n 3, 1) := by decide +kernel
theorem dX7_end_59 : decode cX7_end 59 = .ok (.ireturn, 1) := by decide +kernel
set_option maxRecDepth 10000 in
set_option maxHeartbeats 4000000 in
theorem A_X7_end_12 {Z : az_Z} {d : Nat} (C : az_C Z yX7_end cX7_end 4 (some .int) d) (hD : 1 ≤ d) (n : Nat) (k : Nat) : ∀ {σ : az_Hp} {v0 v2 v3 : Int} {r : Int}, fz_X7_end_12 n k σ v0 v2 v3 = some r → az_AW Z 4 12 [(9, v0), (31, 0), (0, v2), (0, v3)] [] σ (some (0, r), σ) := by
  have hd1 : 1 ≤ d := by omega
  induction k with
  | zero => intro σ v0 v2 v3 r h; simp [fz_X7_end_12] at h
  | succ k ih =>
    intro σ v0 v2 v3 r h
    unfold fz_X7_end_12 at h
    refine az_il3 (pc := 12) C dX7_end_12 ?_
    refine az_al0 (pc := 13) C rfl rfl dX7_end_13 ?_
    refine az_getI (pc := 14) C fl_X7_9 rfl dX7_end_14 ?_
    refine az_icmp_ge (pc := 17) (tgt := 58) C h dX7_end_17 (by decide) (fun _ h => ?_) (fun _ h => ?_)
    · refine az_il3 (pc := 58) C dX7_end_58 ?_
      obtain rfl := Option.some.inj h
      exact az_ireturn (pc := 59) C dX7_end_59 rfl
    refine az_il2 (pc := 20) C dX7_end_20 ?_
    refine az_if_le (pc := 21) (tgt := 58) C h dX7_end_21 (by decide) (fun _ h => ?_) (fun _ h => ?_)
    · refine az_il3 (pc := 58) C dX7_end_58 ?_
      obtain rfl := Option.some.inj h
      exact az_ireturn (pc := 59) C dX7_end_59 rfl
    refine az_il2 (pc := 24) C dX7_end_24 ?_
    refine az_al0 (pc := 25) C rfl rfl dX7_end_25 ?_
    refine az_getR (pc := 26) (c2 := 13) C h fl_X7_21 rfl rfl dX7_end_26 (fun h => ?_)
    refine az_il3 (pc := 29) C dX7_end_29 ?_
    refine az_iaload (pc := 30) C h dX7_end_30 (fun h => ?_)
    refine az_if_ge (pc := 31) (tgt := 38) C h dX7_end_31 (by decide) (fun _ h => ?_) (fun _ h => ?_)
    · refine az_al0 (pc := 38) C rfl rfl dX7_end_38 ?_
      refine az_getR (pc := 39) (c2 := 13) C h fl_X7_21 rfl rfl dX7_end_39 (fun h => ?_)
      refine az_il3 (pc := 42) C dX7_end_42 ?_
      refine az_iaload (pc := 43) C h dX7_end_43 (fun h => ?_)
      refine az_ik2 (pc := 44) C dX7_end_44 ?_
      refine az_ishr (pc := 45) C dX7_end_45 ?_
      refine az_ik3 (pc := 46) C dX7_end_46 ?_
      refine az_iand (pc := 47) C dX7_end_47 ?_
      refine az_ik1 (pc := 48) C dX7_end_48 ?_
      refine az_isub (pc := 49) C dX7_end_49 ?_
      refine az_iadd (pc := 50) C dX7_end_50 ?_
      refine az_is2 (pc := 51) C rfl rfl dX7_end_51 ?_
      refine az_ii3 (pc := 52) C az_n1 rfl rfl dX7_end_52 ?_
      refine az_goto (pc := 55) (tgt := 12) C dX7_end_55 (by decide) ?_
      exact (ih h)
    refine az_ikm1 (pc := 34) C dX7_end_34 ?_
    refine az_goto (pc := 35) (tgt := 50) C dX7_end_35 (by decide) ?_
    refine az_iadd (pc := 50) C dX7_end_50 ?_
    refine az_is2 (pc := 51) C rfl rfl dX7_end_51 ?_
    refine az_ii3 (pc := 52) C az_n1 rfl rfl dX7_end_52 ?_
    refine az_goto (pc := 55) (tgt := 12) C dX7_end_55 (by decide) ?_
    exact (ih h)
set_option maxRecDepth 10000 in
set_option maxHeartbeats 4000000 in
theorem A_X7_end_e {Z : az_Z} {d : Nat} (C : az_C Z yX7_end cX7_end 4 (some .int) d) (hD : 1 ≤ d) (n : Nat) {σ : az_Hp} {v0 v1 : Int} {r : Int} (h : fz_X7_end n σ v0 v1 = some r) : az_AW Z 4 0 [(9, v0), (0, v1), (31, 0), (31, 0)] [] σ (some (0, r), σ) := by
  have hd1 : 1 ≤ d := by omega
  unfold fz_X7_end at h
  refine az_ik1 (pc := 0) C dX7_end_0 ?_
  refine az_is2 (pc := 1) C rfl rfl dX7_end_1 ?_
  refine az_il1 (pc := 2) C dX7_end_2 ?_
  refine az_if_ge (pc := 3) (tgt := 10) C h dX7_end_3 (by decide) (fun _ h => ?_) (fun _ h => ?_)
  · refine az_il1 (pc := 10) C dX7_end_10 ?_
    refine az_is3 (pc := 11) C rfl rfl dX7_end_11 ?_
    exact (az_wkk (A_X7_end_12 C hD n n h) (az_sE (az_sJ (az_sE (az_sE az_sN)))))
  refine az_ik0 (pc := 6) C dX7_end_6 ?_
  refine az_goto (pc := 7) (tgt := 11) C dX7_end_7 (by decide) ?_
  refine az_is3 (pc := 11) C rfl rfl dX7_end_11 ?_
  exact (az_wkk (A_X7_end_12 C hD n n h) (az_sE (az_sJ (az_sE (az_sE az_sN)))))
set_option maxRecDepth 10000 in
set_option maxHeartbeats 4000000 in
theorem A_X7_end {l : Launch} {d : Nat} (hD : 1 ≤ d) (n : Nat) {σ : az_Hp} {v0 v1 : Int} {r : Int} (h : fz_X7_end n σ v0 v1 = some r) : az_AC l yX7_end cX7_end 4 (some .int) d [(9, v0), (0, v1)] σ (some (0, r), σ) := az_AC.of mt_X7_end rfl rfl rfl (fun Z hZ C => A_X7_end_e C hD n h)
theorem dX7_kind_0 : decode cX7_kind 0 = .ok (.iload_n 0, 1) := by decide +kernel
theorem dX7_kind_1 : decode cX7_kind 1 = .ok (.ifCond .ge 7, 3) := by decide +kernel
theorem dX7_kind_4 : decode cX7_kind 4 = .ok (.iconst 0, 1) := by decide +kernel
theorem dX7_kind_5 : decode cX7_kind 5 = .ok (.goto 6, 3) := by decide +kernel
theorem dX7_kind_8 : decode cX7_kind 8 = .ok (.iload_n 0, 1) := by decide +kernel
theorem dX7_kind_9 : decode cX7_kind 9 = .ok (.iconst 3, 1) := by decide +kernel
theorem dX7_kind_10 : decode cX7_kind 10 = .ok (.iand, 1) := by decide +kernel
theorem dX7_kind_11 : decode cX7_kind 11 = .ok (.ireturn, 1) := by decide +kernel
set_option maxRecDepth 10000 in
set_option maxHeartbeats 4000000 in
theorem A_X7_kind_e {Z : az_Z} {d : Nat} (C : az_C Z yX7_kind cX7_kind 1 (some .int) d) (hD : 1 ≤ d) {σ : az_Hp} {v0 : Int} {r : Int} (h : fz_X7_kind σ v0 = some r) : az_AW Z 1 0 [(0, v0)] [] σ (some (0, r), σ) := by
  have hd1 : 1 ≤ d := by omega
  unfold fz_X7_kind at h
  refine az_il0 (pc := 0) C dX7_kind_0 ?_
  refine az_if_ge (pc := 1) (tgt := 8) C h dX7_kind_1 (by decide) (fun _ h => ?_) (fun _ h => ?_)
  · refine az_il0 (pc := 8) C dX7_kind_8 ?_
    refine az_ik3 (pc := 9) C dX7_kind_9 ?_
    refine az_iand (pc := 10) C dX7_kind_10 ?_
    obtain rfl := Option.some.inj h
    exact az_ireturn (pc := 11) C dX7_kind_11 rfl
  refine az_ik0 (pc := 4) C dX7_kind_4 ?_
  refine az_goto (pc := 5) (tgt := 11) C dX7_kind_5 (by decide) ?_
  obtain rfl := Option.some.inj h
  exact az_ireturn (pc := 11) C dX7_kind_11 rfl
set_option maxRecDepth 10000 in
set_option maxHeartbeats 4000000 in
theorem A_X7_kind {l : Launch} {d : Nat} (hD : 1 ≤ d) {σ : az_Hp} {v0 : Int} {r : Int} (h : fz_X7_kind σ v0 = some r) : az_AC l yX7_kind cX7_kind 1 (some .int) d [(0, v0)] σ (some (0, r), σ) := az_AC.of mt_X7_kind rfl rfl rfl (fun Z hZ C => A_X7_kind_e C hD h)
theorem dX7_samePart_0 : decode cX7_samePart 0 = .ok (.iload_n 1, 1) := by decide +kernel
theorem dX7_samePart_1 : decode cX7_samePart 1 = .ok (.ifCond .lt 7, 3) := by decide +kernel
theorem dX7_samePart_4 : decode cX7_samePart 4 = .ok (.iload_n 3, 1) := by decide +kernel
theorem dX7_samePart_5 : decode cX7_samePart 5 = .ok (.ifCond .ge 5, 3) := by decide +kernel
theorem dX7_samePart_8 : decode cX7_samePart 8 = .ok (.iconst 0, 1) := by decide +kernel
theorem dX7_samePart_9 : decode cX7_samePart 9 = .ok (.ireturn, 1) := by decide +kernel
theorem dX7_samePart_10 : decode cX7_samePart 10 = .ok (.iconst 1, 1) := by decide +kernel
theorem dX7_samePart_11 : decode cX7_samePart 11 = .ok (.istore 4, 2) := by decide +kernel
theorem dX7_samePart_13 : decode cX7_samePart 13 = .ok (.iload_n 3, 1) := by decide +kernel
theorem dX7_samePart_14 : decode cX7_samePart 14 = .ok (.istore 5, 2) := by decide +kernel
theorem dX7_samePart_16 : decode cX7_samePart 16 = .ok (.iload_n 1, 1) := by decide +kernel
theorem dX7_samePart_17 : decode cX7_samePart 17 = .ok (.istore 6, 2) := by decide +kernel
theorem dX7_samePart_19 : decode cX7_samePart 19 = .ok (.iload 6, 2) := by decide +kernel
theorem dX7_samePart_21 : decode cX7_samePart 21 = .ok (.aload_n 0, 1) := by decide +kernel
theorem dX7_samePart_22 : decode cX7_samePart 22 = .ok (.getfield 9, 3) := by decide +kernel
theorem dX7_samePart_25 : decode cX7_samePart 25 = .ok (.if_icmp .ge 77, 3) := by decide +kernel
theorem dX7_samePart_28 : decode cX7_samePart 28 = .ok (.iload 4, 2) := by decide +kernel
theorem dX7_samePart_30 : decode cX7_samePart 30 = .ok (.ifCond .le 72, 3) := by decide +kernel
theorem dX7_samePart_33 : decode cX7_samePart 33 = .ok (.iload 5, 2) := by decide +kernel
theorem dX7_samePart_35 : decode cX7_samePart 35 = .ok (.aload_n 2, 1) := by decide +kernel
theorem dX7_samePart_36 : decode cX7_samePart 36 = .ok (.getfield 9, 3) := by decide +kernel
theorem dX7_samePart_39 : decode cX7_samePart 39 = .ok (.if_icmp .ge 20, 3) := by decide +kernel
theorem dX7_samePart_42 : decode cX7_samePart 42 = .ok (.aload_n 0, 1) := by decide +kernel
theorem dX7_samePart_43 : decode cX7_samePart 43 = .ok (.getfield 21, 3) := by decide +kernel
theorem dX7_samePart_46 : decode cX7_samePart 46 = .ok (.iload 6, 2) := by decide +kernel
theorem dX7_samePart_48 : decode cX7_samePart 48 = .ok (.iaload, 1) := by decide +kernel
theorem dX7_samePart_49 : decode cX7_samePart 49 = .ok (.aload_n 2, 1) := by decide +kernel
theorem dX7_samePart_50 : decode cX7_samePart 50 = .ok (.getfield 21, 3) := by decide +kernel
theorem dX7_samePart_53 : decode cX7_samePart 53 = .ok (.iload 5, 2) := by decide +kernel
theorem dX7_samePart_55 : decode cX7_samePart 55 = .ok (.iaload, 1) := by decide +kernel
theorem dX7_samePart_56 : decode cX7_samePart 56 = .ok (.if_icmp .eq 5, 3) := by decide +kernel
theorem dX7_samePart_59 : decode cX7_samePart 59 = .ok (.iconst 0, 1) := by decide +kernel
theorem dX7_samePart_60 : decode cX7_samePart 60 = .ok (.ireturn, 1) := by decide +kernel
theorem dX7_samePart_61 : decode cX7_samePart 61 = .ok (.iload 4, 2) := by decide +kernel
theorem dX7_samePart_63 : decode cX7_samePart 63 = .ok (.aload_n 0, 1) := by decide +kernel
theorem dX7_samePart_64 : decode cX7_samePart 64 = .ok (.getfield 21, 3) := by decide +kernel
theorem dX7_samePart_67 : decode cX7_samePart 67 = .ok (.iload 6, 2) := by decide +kernel
theorem dX7_samePart_69 : decode cX7_samePart 69 = .ok (.iaload, 1) := by decide +kernel
theorem dX7_samePart_70 : decode cX7_samePart 70 = .ok (.ifCond .ge 7, 3) := by decide +kernel
theorem dX7_samePart_73 : decode cX7_samePart 73 = .ok (.iconst (-1), 1) := by decide +kernel
theorem dX7_samePart_74 : decode cX7_samePart 74 = .ok (.goto 16, 3) := by decide +kernel
theorem dX7_samePart_77 : decode cX7_samePart 77 = .ok (.aload_n 0, 1) := by decide +kernel
theorem dX7_samePart_78 : decode cX7_samePart 78 = .ok (.getfield 21, 3) := by decide +kernel
theorem dX7_samePart_81 : decode cX7_samePart 81 = .ok (.iload 6, 2) := by decide +kernel
theorem dX7_samePart_83 : decode cX7_samePart 83 = .ok (.iaload, 1) := by decide +kernel
theorem dX7_samePart_84 : decode cX7_samePart 84 = .ok (.iconst 2, 1) := by decide +kernel
theorem dX7_samePart_85 : decode cX7_samePart 85 = .ok (.ishr, 1) := by decide +kernel
theorem dX7_samePart_86 : decode cX7_samePart 86 = .ok (.iconst 3, 1) := by decide +kernel
theorem dX7_samePart_87 : decode cX7_samePart 87 = .ok (.iand, 1) := by decide +kernel
theorem dX7_samePart_88 : decode cX7_samePart 88 = .ok (.iconst 1, 1) := by decide +kernel
theorem dX7_samePart_89 : decode cX7_samePart 89 = .ok (.isub, 1) := by decide +kernel
theorem dX7_samePart_90 : decode cX7_samePart 90 = .ok (.iadd, 1) := by decide +kernel
theorem dX7_samePart_91 : decode cX7_samePart 91 = .ok (.istore 4, 2) := by decide +kernel
theorem dX7_samePart_93 : decode cX7_samePart 93 = .ok (.iinc 5 1, 3) := by decide +kernel
theorem dX7_samePart_96 : decode cX7_samePart 96 = .ok (.iinc 6 1, 3) := by decide +kernel
theorem dX7_samePart_99 : decode cX7_samePart 99 = .ok (.goto (-80), 3) := by decide +kernel
theorem dX7_samePart_102 : decode cX7_samePart 102 = .ok (.iload 4, 2) := by decide +kernel
theorem dX7_samePart_104 : decode cX7_samePart 104 = .ok (.ifCond .ne 7, 3) := by decide +kernel
theorem dX7_samePart_107 : decode cX7_samePart 107 = .ok (.iconst 1, 1) := by decide +kernel
theorem dX7_samePart_108 : decode cX7_samePart 108 = .ok (.goto 4, 3) := by decide +kernel
theorem dX7_samePart_111 : decode cX7_samePart 111 = .ok (.iconst 0, 1) := by decide +kernel
theorem dX7_samePart_112 : decode cX7_samePart 112 = .ok (.ireturn, 1) := by decide +kernel
set_option maxRecDepth 10000 in
set_option maxHeartbeats 4000000 in
theorem A_X7_samePart_102 {Z : az_Z} {d : Nat} (C : az_C Z yX7_samePart cX7_samePart 7 (some .boolean) d) (hD : 1 ≤ d) (n : Nat) {σ : az_Hp} {v4 : Int} {r : Int} (h : fz_X7_samePart_102 n σ v4 = some r) : az_AW Z 7 102 [(31, 0), (31, 0), (31, 0), (31, 0), (0, v4), (31, 0), (31, 0)] [] σ (some (0, r), σ) := by
  have hd1 : 1 ≤ d := by omega
  unfold fz_X7_samePart_102 at h
  refine az_il4 (pc := 102) C dX7_samePart_102 ?_
  refine az_if_ne (pc := 104) (tgt := 111) C h dX7_samePart_104 (by decide) (fun _ h => ?_) (fun _ h => ?_)
  · refine az_ik0 (pc := 111) C dX7_samePart_111 ?_
    obtain rfl := Option.some.inj h
    exact az_zreturn (pc := 112) C (by decide) dX7_samePart_112 rfl
  refine az_ik1 (pc := 107) C dX7_samePart_107 ?_
  refine az_goto (pc := 108) (tgt := 112) C dX7_samePart_108 (by decide) ?_
  obtain rfl := Option.some.inj h
  exact az_zreturn (pc := 112) C (by decide) dX7_samePart_112 rfl
set_option maxRecDepth 10000 in
set_option maxHeartbeats 4000000 in
theorem A_X7_samePart_19 {Z : az_Z} {d : Nat} (C : az_C Z yX7_samePart cX7_samePart 7 (some .boolean) d) (hD : 1 ≤ d) (n : Nat) (k : Nat) : ∀ {σ : az_Hp} {v0 v2 v4 v5 v6 : Int} {r : Int}, fz_X7_samePart_19 n k σ v0 v2 v4 v5 v6 = some r → az_AW Z 7 19 [(9, v0), (31, 0), (9, v2), (31, 0), (0, v4), (0, v5), (0, v6)] [] σ (some (0, r), σ) := by
  have hd1 : 1 ≤ d := by omega
  induction k with
  | zero => intro σ v0 v2 v4 v5 v6 r h; simp [fz_X7_samePart_19] at h
  | succ k ih =>
    intro σ v0 v2 v4 v5 v6 r h
    unfold fz_X7_samePart_19 at h
    refine az_il6 (pc := 19) C dX7_samePart_19 ?_
    refine az_al0 (pc := 21) C rfl rfl dX7_samePart_21 ?_
    refine az_getI (pc := 22) C fl_X7_9 rfl dX7_samePart_22 ?_
    refine az_icmp_ge (pc := 25) (tgt := 102) C h dX7_samePart_25 (by decide) (fun _ h => ?_) (fun _ h => ?_)
    · exact (az_wkk (A_X7_samePart_102 C hD n h) (az_sJ (az_sJ (az_sJ (az_sJ (az_sE (az_sJ (az_sJ az_sN))))))))
    refine az_il4 (pc := 28) C dX7_samePart_28 ?_
    refine az_if_le (pc := 30) (tgt := 102) C h dX7_samePart_30 (by decide) (fun _ h => ?_) (fun _ h => ?_)
    · exact (az_wkk (A_X7_samePart_102 C hD n h) (az_sJ (az_sJ (az_sJ (az_sJ (az_sE (az_sJ (az_sJ az_sN))))))))
    refine az_il5 (pc := 33) C dX7_samePart_33 ?_
    refine az_al2 (pc := 35) C rfl rfl dX7_samePart_35 ?_
    refine az_getI (pc := 36) C fl_X7_9 rfl dX7_samePart_36 ?_
    refine az_icmp_ge (pc := 39) (tgt := 59) C h dX7_samePart_39 (by decide) (fun _ h => ?_) (fun _ h => ?_)
    · refine az_ik0 (pc := 59) C dX7_samePart_59 ?_
      obtain rfl := Option.some.inj h
      exact az_zreturn (pc := 60) C (by decide) dX7_samePart_60 rfl
    refine az_al0 (pc := 42) C rfl rfl dX7_samePart_42 ?_
    refine az_getR (pc := 43) (c2 := 13) C h fl_X7_21 rfl rfl dX7_samePart_43 (fun h => ?_)
    refine az_il6 (pc := 46) C dX7_samePart_46 ?_
    refine az_iaload (pc := 48) C h dX7_samePart_48 (fun h => ?_)
    refine az_al2 (pc := 49) C rfl rfl dX7_samePart_49 ?_
    refine az_getR (pc := 50) (c2 := 13) C h fl_X7_21 rfl rfl dX7_samePart_50 (fun h => ?_)
    refine az_il5 (pc := 53) C dX7_samePart_53 ?_
    refine az_iaload (pc := 55) C h dX7_samePart_55 (fun h => ?_)
    refine az_icmp_eq (pc := 56) (tgt := 61) C h dX7_samePart_56 (by decide) (fun _ h => ?_) (fun _ h => ?_)
    · refine az_il4 (pc := 61) C dX7_samePart_61 ?_
      refine az_al0 (pc := 63) C rfl rfl dX7_samePart_63 ?_
      refine az_getR (pc := 64) (c2 := 13) C h fl_X7_21 rfl rfl dX7_samePart_64 (fun h => ?_)
      refine az_il6 (pc := 67) C dX7_samePart_67 ?_
      refine az_iaload (pc := 69) C h dX7_samePart_69 (fun h => ?_)
      refine az_if_ge (pc := 70) (tgt := 77) C h dX7_samePart_70 (by decide) (fun _ h => ?_) (fun _ h => ?_)
      · refine az_al0 (pc := 77) C rfl rfl dX7_samePart_77 ?_
        refine az_getR (pc := 78) (c2 := 13) C h fl_X7_21 rfl rfl dX7_samePart_78 (fun h => ?_)
        refine az_il6 (pc := 81) C dX7_samePart_81 ?_
        refine az_iaload (pc := 83) C h dX7_samePart_83 (fun h => ?_)
        refine az_ik2 (pc := 84) C dX7_samePart_84 ?_
        refine az_ishr (pc := 85) C dX7_samePart_85 ?_
        refine az_ik3 (pc := 86) C dX7_samePart_86 ?_
        refine az_iand (pc := 87) C dX7_samePart_87 ?_
        refine az_ik1 (pc := 88) C dX7_samePart_88 ?_
        refine az_isub (pc := 89) C dX7_samePart_89 ?_
        refine az_iadd (pc := 90) C dX7_samePart_90 ?_
        refine az_is4 (pc := 91) C rfl rfl dX7_samePart_91 ?_
        refine az_ii5 (pc := 93) C az_n1 rfl rfl dX7_samePart_93 ?_
        refine az_ii6 (pc := 96) C az_n1 rfl rfl dX7_samePart_96 ?_
        refine az_goto (pc := 99) (tgt := 19) C dX7_samePart_99 (by decide) ?_
        exact (ih h)
      refine az_ikm1 (pc := 73) C dX7_samePart_73 ?_
      refine az_goto (pc := 74) (tgt := 90) C dX7_samePart_74 (by decide) ?_
      refine az_iadd (pc := 90) C dX7_samePart_90 ?_
      refine az_is4 (pc := 91) C rfl rfl dX7_samePart_91 ?_
      refine az_ii5 (pc := 93) C az_n1 rfl rfl dX7_samePart_93 ?_
      refine az_ii6 (pc := 96) C az_n1 rfl rfl dX7_samePart_96 ?_
      refine az_goto (pc := 99) (tgt := 19) C dX7_samePart_99 (by decide) ?_
      exact (ih h)
    refine az_ik0 (pc := 59) C dX7_samePart_59 ?_
    obtain rfl := Option.some.inj h
    exact az_zreturn (pc := 60) C (by decide) dX7_samePart_60 rfl
set_option maxRecDepth 10000 in
set_option maxHeartbeats 4000000 in
theorem A_X7_samePart_e {Z : az_Z} {d : Nat} (C : az_C Z yX7_samePart cX7_samePart 7 (some .boolean) d) (hD : 1 ≤ d) (n : Nat) {σ : az_Hp} {v0 v1 v2 v3 : Int} {r : Int} (h : fz_X7_samePart n σ v0 v1 v2 v3 = some r) : az_AW Z 7 0 [(9, v0), (0, v1), (9, v2), (0, v3), (31, 0), (31, 0), (31, 0)] [] σ (some (0, r), σ) := by
  have hd1 : 1 ≤ d := by omega
  unfold fz_X7_samePart at h
  refine az_il1 (pc := 0) C dX7_samePart_0 ?_
  refine az_if_lt (pc := 1) (tgt := 8) C h dX7_samePart_1 (by decide) (fun _ h => ?_) (fun _ h => ?_)
  · refine az_ik0 (pc := 8) C dX7_samePart_8 ?_
    obtain rfl := Option.some.inj h
    exact az_zreturn (pc := 9) C (by decide) dX7_samePart_9 rfl
  refine az_il3 (pc := 4) C dX7_samePart_4 ?_
  refine az_if_ge (pc := 5) (tgt := 10) C h dX7_samePart_5 (by decide) (fun _ h => ?_) (fun _ h => ?_)
  · refine az_ik1 (pc := 10) C dX7_samePart_10 ?_
    refine az_is4 (pc := 11) C rfl rfl dX7_samePart_11 ?_
    refine az_il3 (pc := 13) C dX7_samePart_13 ?_
    refine az_is5 (pc := 14) C rfl rfl dX7_samePart_14 ?_
    refine az_il1 (pc := 16) C dX7_samePart_16 ?_
    refine az_is6 (pc := 17) C rfl rfl dX7_samePart_17 ?_
    exact (az_wkk (A_X7_samePart_19 C hD n n h) (az_sE (az_sJ (az_sE (az_sJ (az_sE (az_sE (az_sE az_sN))))))))
  refine az_ik0 (pc := 8) C dX7_samePart_8 ?_
  obtain rfl := Option.some.inj h
  exact az_zreturn (pc := 9) C (by decide) dX7_samePart_9 rfl
set_option maxRecDepth 10000 in
set_option maxHeartbeats 4000000 in
theorem A_X7_samePart {l : Launch} {d : Nat} (hD : 1 ≤ d) (n : Nat) {σ : az_Hp} {v0 v1 v2 v3 : Int} {r : Int} (h : fz_X7_samePart n σ v0 v1 v2 v3 = some r) : az_AC l yX7_samePart cX7_samePart 7 (some .boolean) d [(9, v0), (0, v1), (9, v2), (0, v3)] σ (some (0, r), σ) := az_AC.of mt_X7_samePart rfl rfl rfl (fun Z hZ C => A_X7_samePart_e C hD n h)
theorem dX0_lay_0 : decode cX0_lay 0 = .ok (.aload_n 1, 1) := by decide +kernel
theorem dX0_lay_1 : decode cX0_lay 1 = .ok (.iload_n 2, 1) := by decide +kernel
theorem dX0_lay_2 : decode cX0_lay 2 = .ok (.invokevirtual 47, 3) := by decide +kernel
theorem dX0_lay_5 : decode cX0_lay 5 = .ok (.istore 5, 2) := by decide +kernel
theorem dX0_lay_7 : decode cX0_lay 7 = .ok (.iconst (-1), 1) := by decide +kernel
theorem dX0_lay_8 : decode cX0_lay 8 = .ok (.istore 6, 2) := by decide +kernel
theorem dX0_lay_10 : decode cX0_lay 10 = .ok (.iconst 0, 1) := by decide +kernel
theorem dX0_lay_11 : decode cX0_lay 11 = .ok (.istore 7, 2) := by decide +kernel
theorem dX0_lay_13 : decode cX0_lay 13 = .ok (.iload_n 2, 1) := by decide +kernel
theorem dX0_lay_14 : decode cX0_lay 14 = .ok (.istore 8, 2) := by decide +kernel
theorem dX0_lay_16 : decode cX0_lay 16 = .ok (.iload 8, 2) := by decide +kernel
theorem dX0_lay_18 : decode cX0_lay 18 = .ok (.iload 5, 2) := by decide +kernel
theorem dX0_lay_20 : decode cX0_lay 20 = .ok (.if_icmp .ge 399, 3) := by decide +kernel
theorem dX0_lay_23 : decode cX0_lay 23 = .ok (.aload_n 1, 1) := by decide +kernel
theorem dX0_lay_24 : decode cX0_lay 24 = .ok (.getfield 53, 3) := by decide +kernel
theorem dX0_lay_27 : decode cX0_lay 27 = .ok (.iload 8, 2) := by decide +kernel
theorem dX0_lay_29 : decode cX0_lay 29 = .ok (.iaload, 1) := by decide +kernel
theorem dX0_lay_30 : decode cX0_lay 30 = .ok (.istore 9, 2) := by decide +kernel
theorem dX0_lay_32 : decode cX0_lay 32 = .ok (.iload 4, 2) := by decide +kernel
theorem dX0_lay_34 : decode cX0_lay 34 = .ok (.ifCond .eq 22, 3) := by decide +kernel
theorem dX0_lay_37 : decode cX0_lay 37 = .ok (.iload 8, 2) := by decide +kernel
theorem dX0_lay_39 : decode cX0_lay 39 = .ok (.iload_n 2, 1) := by decide +kernel
theorem dX0_lay_40 : decode cX0_lay 40 = .ok (.if_icmp .le 16, 3) := by decide +kernel
theorem dX0_lay_43 : decode cX0_lay 43 = .ok (.iload 9, 2) := by decide +kernel
theorem dX0_lay_45 : decode cX0_lay 45 = .ok (.invokestatic 56, 3) := by decide +kernel
theorem dX0_lay_48 : decode cX0_lay 48 = .ok (.iconst 2, 1) := by decide +kernel
theorem dX0_lay_49 : decode cX0_lay 49 = .ok (.if_icmp .ne 7, 3) := by decide +kernel
theorem dX0_lay_52 : decode cX0_lay 52 = .ok (.iconst 1, 1) := by decide +kernel
theorem dX0_lay_53 : decode cX0_lay 53 = .ok (.goto 4, 3) := by decide +kernel
theorem dX0_lay_56 : decode cX0_lay 56 = .ok (.iconst 0, 1) := by decide +kernel
theorem dX0_lay_57 : decode cX0_lay 57 = .ok (.istore 10, 2) := by decide +kernel
theorem dX0_lay_59 : decode cX0_lay 59 = .ok (.iload 10, 2) := by decide +kernel
theorem dX0_lay_61 : decode cX0_lay 61 = .ok (.ifCond .ne 17, 3) := by decide +kernel
theorem dX0_lay_64 : decode cX0_lay 64 = .ok (.iload 9, 2) := by decide +kernel
theorem dX0_lay_66 : decode cX0_lay 66 = .ok (.ifCond .lt 12, 3) := by decide +kernel
theorem dX0_lay_69 : decode cX0_lay 69 = .ok (.iload 9, 2) := by decide +kernel
theorem dX0_lay_71 : decode cX0_lay 71 = .ok (.invokestatic 56, 3) := by decide +kernel
theorem dX0_lay_74 : decode cX0_lay 74 = .ok (.iconst 3, 1) := by decide +kernel
theorem dX0_lay_75 : decode cX0_lay 75 = .ok (.if_icmp .ne 7, 3) := by decide +kernel
theorem dX0_lay_78 : decode cX0_lay 78 = .ok (.iconst 1, 1) := by decide +kernel
theorem dX0_lay_79 : decode cX0_lay 79 = .ok (.goto 4, 3) := by decide +kernel
theorem dX0_lay_82 : decode cX0_lay 82 = .ok (.iconst 0, 1) := by decide +kernel
theorem dX0_lay_83 : decode cX0_lay 83 = .ok (.istore 11, 2) := by decide +kernel
theorem dX0_lay_85 : decode cX0_lay 85 = .ok (.iload 10, 2) := by decide +kernel
theorem dX0_lay_87 : decode cX0_lay 87 = .ok (.ifCond .eq 8, 3) := by decide +kernel
theorem dX0_lay_90 : decode cX0_lay 90 = .ok (.ldc 59, 2) := by decide +kernel
theorem dX0_lay_92 : decode cX0_lay 92 = .ok (.goto 5, 3) := by decide +kernel
theorem dX0_lay_95 : decode cX0_lay 95 = .ok (.iload 9, 2) := by decide +kernel
theorem dX0_lay_97 : decode cX0_lay 97 = .ok (.istore 12, 2) := by decide +kernel
theorem dX0_lay_99 : decode cX0_lay 99 = .ok (.iconst (-1), 1) := by decide +kernel
theorem dX0_lay_100 : decode cX0_lay 100 = .ok (.istore 13, 2) := by decide +kernel
theorem dX0_lay_102 : decode cX0_lay 102 = .ok (.iconst 0, 1) := by decide +kernel
theorem dX0_lay_103 : decode cX0_lay 103 = .ok (.istore 14, 2) := by decide +kernel
theorem dX0_lay_105 : decode cX0_lay 105 = .ok (.iload 11, 2) := by decide +kernel
theorem dX0_lay_107 : decode cX0_lay 107 = .ok (.ifCond .eq 73, 3) := by decide +kernel
theorem dX0_lay_110 : decode cX0_lay 110 = .ok (.iload 14, 2) := by decide +kernel
theorem dX0_lay_112 : decode cX0_lay 112 = .ok (.aload_n 0, 1) := by decide +kernel
theorem dX0_lay_113 : decode cX0_lay 113 = .ok (.getfield 9, 3) := by decide +kernel
theorem dX0_lay_116 : decode cX0_lay 116 = .ok (.if_icmp .ge 64, 3) := by decide +kernel
theorem dX0_lay_119 : decode cX0_lay 119 = .ok (.iload 13, 2) := by decide +kernel
theorem dX0_lay_121 : decode cX0_lay 121 = .ok (.iconst (-1), 1) := by decide +kernel
theorem dX0_lay_122 : decode cX0_lay 122 = .ok (.if_icmp .ne 58, 3) := by decide +kernel
theorem dX0_lay_125 : decode cX0_lay 125 = .ok (.aload_n 0, 1) := by decide +kernel
theorem dX0_lay_126 : decode cX0_lay 126 = .ok (.getfield 19, 3) := by decide +kernel
theorem dX0_lay_129 : decode cX0_lay 129 = .ok (.iload 14, 2) := by decide +kernel
theorem dX0_lay_131 : decode cX0_lay 131 = .ok (.iaload, 1) := by decide +kernel
theorem dX0_lay_132 : decode cX0_lay 132 = .ok (.iload_n 3, 1) := by decide +kernel
theorem dX0_lay_133 : decode cX0_lay 133 = .ok (.if_icmp .ne 41, 3) := by decide +kernel
theorem dX0_lay_136 : decode cX0_lay 136 = .ok (.aload_n 0, 1) := by decide +kernel
theorem dX0_lay_137 : decode cX0_lay 137 = .ok (.getfield 15, 3) := by decide +kernel
theorem dX0_lay_140 : decode cX0_lay 140 = .ok (.iload 14, 2) := by decide +kernel
theorem dX0_lay_142 : decode cX0_lay 142 = .ok (.iaload, 1) := by decide +kernel
theorem dX0_lay_143 : decode cX0_lay 143 = .ok (.iload 12, 2) := by decide +kernel
theorem dX0_lay_145 : decode cX0_lay 145 = .ok (.if_icmp .ne 29, 3) := by decide +kernel
theorem dX0_lay_148 : decode cX0_lay 148 = .ok (.iload 10, 2) := by decide +kernel
theorem dX0_lay_150 : decode cX0_lay 150 = .ok (.ifCond .eq 20, 3) := by decide +kernel
theorem dX0_lay_153 : decode cX0_lay 153 = .ok (.aload_n 1, 1) := by decide +kernel
theorem dX0_lay_154 : decode cX0_lay 154 = .ok (.aload_n 0, 1) := by decide +kernel
theorem dX0_lay_155 : decode cX0_lay 155 = .ok (.getfield 22, 3) := by decide +kernel
theorem dX0_lay_158 : decode cX0_lay 158 = .ok (.iload 14, 2) := by decide +kernel
theorem dX0_lay_160 : decode cX0_lay 160 = .ok (.iaload, 1) := by decide +kernel
theorem dX0_lay_161 : decode cX0_lay 161 = .ok (.aload_n 1, 1) := by decide +kernel
theorem dX0_lay_162 : decode cX0_lay 162 = .ok (.iload 8, 2) := by decide +kernel
theorem dX0_lay_164 : decode cX0_lay 164 = .ok (.invokevirtual 60, 3) := by decide +kernel
theorem dX0_lay_167 : decode cX0_lay 167 = .ok (.ifCond .eq 7, 3) := by decide +kernel
theorem dX0_lay_170 : decode cX0_lay 170 = .ok (.iload 14, 2) := by decide +kernel
theorem dX0_lay_172 : decode cX0_lay 172 = .ok (.istore 13, 2) := by decide +kernel
theorem dX0_lay_174 : decode cX0_lay 174 = .ok (.iinc 14 1, 3) := by decide +kernel
theorem dX0_lay_177 : decode cX0_lay 177 = .ok (.goto (-72), 3) := by decide +kernel
theorem dX0_lay_180 : decode cX0_lay 180 = .ok (.iload 13, 2) := by decide +kernel
theorem dX0_lay_182 : decode cX0_lay 182 = .ok (.iconst (-1), 1) := by decide +kernel
theorem dX0_lay_183 : decode cX0_lay 183 = .ok (.if_icmp .ne 66, 3) := by decide +kernel
theorem dX0_lay_186 : decode cX0_lay 186 = .ok (.aload_n 0, 1) := by decide +kernel
theorem dX0_lay_187 : decode cX0_lay 187 = .ok (.getfield 9, 3) := by decide +kernel
theorem dX0_lay_190 : decode cX0_lay 190 = .ok (.sipush 128, 3) := by decide +kernel
theorem dX0_lay_193 : decode cX0_lay 193 = .ok (.if_icmp .lt 5, 3) := by decide +kernel
theorem dX0_lay_196 : decode cX0_lay 196 = .ok (.iconst (-1), 1) := by decide +kernel
theorem dX0_lay_197 : decode cX0_lay 197 = .ok (.ireturn, 1) := by decide +kernel
theorem dX0_lay_198 : decode cX0_lay 198 = .ok (.aload_n 0, 1) := by decide +kernel
theorem dX0_lay_199 : decode cX0_lay 199 = .ok (.getfield 9, 3) := by decide +kernel
theorem dX0_lay_202 : decode cX0_lay 202 = .ok (.istore 13, 2) := by decide +kernel
theorem dX0_lay_204 : decode cX0_lay 204 = .ok (.aload_n 0, 1) := by decide +kernel
theorem dX0_lay_205 : decode cX0_lay 205 = .ok (.dup, 1) := by decide +kernel
theorem dX0_lay_206 : decode cX0_lay 206 = .ok (.getfield 9, 3) := by decide +kernel
theorem dX0_lay_209 : decode cX0_lay 209 = .ok (.iconst 1, 1) := by decide +kernel
theorem dX0_lay_210 : decode cX0_lay 210 = .ok (.iadd, 1) := by decide +kernel
theorem dX0_lay_211 : decode cX0_lay 211 = .ok (.putfield 9, 3) := by decide +kernel
theorem dX0_lay_214 : decode cX0_lay 214 = .ok (.aload_n 0, 1) := by decide +kernel
theorem dX0_lay_215 : decode cX0_lay 215 = .ok (.getfield 15, 3) := by decide +kernel
theorem dX0_lay_218 : decode cX0_lay 218 = .ok (.iload 13, 2) := by decide +kernel
theorem dX0_lay_220 : decode cX0_lay 220 = .ok (.iload 12, 2) := by decide +kernel
theorem dX0_lay_222 : decode cX0_lay 222 = .ok (.iastore, 1) := by decide +kernel
theorem dX0_lay_223 : decode cX0_lay 223 = .ok (.aload_n 0, 1) := by decide +kernel
theorem dX0_lay_224 : decode cX0_lay 224 = .ok (.getfield 19, 3) := by decide +kernel
theorem dX0_lay_227 : decode cX0_lay 227 = .ok (.iload 13, 2) := by decide +kernel
theorem dX0_lay_229 : decode cX0_lay 229 = .ok (.iload_n 3, 1) := by decide +kernel
theorem dX0_lay_230 : decode cX0_lay 230 = .ok (.iastore, 1) := by decide +kernel
theorem dX0_lay_231 : decode cX0_lay 231 = .ok (.aload_n 0, 1) := by decide +kernel
theorem dX0_lay_232 : decode cX0_lay 232 = .ok (.getfield 22, 3) := by decide +kernel
theorem dX0_lay_235 : decode cX0_lay 235 = .ok (.iload 13, 2) := by decide +kernel
theorem dX0_lay_237 : decode cX0_lay 237 = .ok (.iload 8, 2) := by decide +kernel
theorem dX0_lay_239 : decode cX0_lay 239 = .ok (.iastore, 1) := by decide +kernel
theorem dX0_lay_240 : decode cX0_lay 240 = .ok (.aload_n 0, 1) := by decide +kernel
theorem dX0_lay_241 : decode cX0_lay 241 = .ok (.getfield 25, 3) := by decide +kernel
theorem dX0_lay_244 : decode cX0_lay 244 = .ok (.iload 13, 2) := by decide +kernel
theorem dX0_lay_246 : decode cX0_lay 246 = .ok (.iload 13, 2) := by decide +kernel
theorem dX0_lay_248 : decode cX0_lay 248 = .ok (.iastore, 1) := by decide +kernel
theorem dX0_lay_249 : decode cX0_lay 249 = .ok (.iload 7, 2) := by decide +kernel
theorem dX0_lay_251 : decode cX0_lay 251 = .ok (.iconst 1, 1) := by decide +kernel
theorem dX0_lay_252 : decode cX0_lay 252 = .ok (.isub, 1) := by decide +kernel
theorem dX0_lay_253 : decode cX0_lay 253 = .ok (.istore 14, 2) := by decide +kernel
theorem dX0_lay_255 : decode cX0_lay 255 = .ok (.iload 14, 2) := by decide +kernel
theorem dX0_lay_257 : decode cX0_lay 257 = .ok (.ifCond .lt 38, 3) := by decide +kernel
theorem dX0_lay_260 : decode cX0_lay 260 = .ok (.aload_n 0, 1) := by decide +kernel
theorem dX0_lay_261 : decode cX0_lay 261 = .ok (.getfield 44, 3) := by decide +kernel
theorem dX0_lay_264 : decode cX0_lay 264 = .ok (.iload 14, 2) := by decide +kernel
theorem dX0_lay_266 : decode cX0_lay 266 = .ok (.iaload, 1) := by decide +kernel
theorem dX0_lay_267 : decode cX0_lay 267 = .ok (.aload_n 0, 1) := by decide +kernel
theorem dX0_lay_268 : decode cX0_lay 268 = .ok (.getfield 15, 3) := by decide +kernel
theorem dX0_lay_271 : decode cX0_lay 271 = .ok (.aload_n 0, 1) := by decide +kernel
theorem dX0_lay_272 : decode cX0_lay 272 = .ok (.getfield 41, 3) := by decide +kernel
theorem dX0_lay_275 : decode cX0_lay 275 = .ok (.iload 14, 2) := by decide +kernel
theorem dX0_lay_277 : decode cX0_lay 277 = .ok (.iaload, 1) := by decide +kernel
theorem dX0_lay_278 : decode cX0_lay 278 = .ok (.iaload, 1) := by decide +kernel
theorem dX0_lay_279 : decode cX0_lay 279 = .ok (.invokestatic 64, 3) := by decide +kernel
theorem dX0_lay_282 : decode cX0_lay 282 = .ok (.if_icmp .lt 13, 3) := by decide +kernel
theorem dX0_lay_285 : decode cX0_lay 285 = .ok (.iload 14, 2) := by decide +kernel
theorem dX0_lay_287 : decode cX0_lay 287 = .ok (.istore 7, 2) := by decide +kernel
theorem dX0_lay_289 : decode cX0_lay 289 = .ok (.iinc 14 (-1), 3) := by decide +kernel
theorem dX0_lay_292 : decode cX0_lay 292 = .ok (.goto (-37), 3) := by decide +kernel
theorem dX0_lay_295 : decode cX0_lay 295 = .ok (.iload 7, 2) := by decide +kernel
theorem dX0_lay_297 : decode cX0_lay 297 = .ok (.ifCond .le 47, 3) := by decide +kernel
theorem dX0_lay_300 : decode cX0_lay 300 = .ok (.aload_n 0, 1) := by decide +kernel
theorem dX0_lay_301 : decode cX0_lay 301 = .ok (.getfield 35, 3) := by decide +kernel
theorem dX0_lay_304 : decode cX0_lay 304 = .ok (.aload_n 0, 1) := by decide +kernel
theorem dX0_lay_305 : decode cX0_lay 305 = .ok (.getfield 41, 3) := by decide +kernel
theorem dX0_lay_308 : decode cX0_lay 308 = .ok (.iload 7, 2) := by decide +kernel
theorem dX0_lay_310 : decode cX0_lay 310 = .ok (.iconst 1, 1) := by decide +kernel
theorem dX0_lay_311 : decode cX0_lay 311 = .ok (.isub, 1) := by decide +kernel
theorem dX0_lay_312 : decode cX0_lay 312 = .ok (.iaload, 1) := by decide +kernel
theorem dX0_lay_313 : decode cX0_lay 313 = .ok (.iconst 3, 1) := by decide +kernel
theorem dX0_lay_314 : decode cX0_lay 314 = .ok (.imul, 1) := by decide +kernel
theorem dX0_lay_315 : decode cX0_lay 315 = .ok (.aload_n 0, 1) := by decide +kernel
theorem dX0_lay_316 : decode cX0_lay 316 = .ok (.getfield 44, 3) := by decide +kernel
theorem dX0_lay_319 : decode cX0_lay 319 = .ok (.iload 7, 2) := by decide +kernel
theorem dX0_lay_321 : decode cX0_lay 321 = .ok (.iconst 1, 1) := by decide +kernel
theorem dX0_lay_322 : decode cX0_lay 322 = .ok (.isub, 1) := by decide +kernel
theorem dX0_lay_323 : decode cX0_lay 323 = .ok (.iaload, 1) := by decide +kernel
theorem dX0_lay_324 : decode cX0_lay 324 = .ok (.iadd, 1) := by decide +kernel
theorem dX0_lay_325 : decode cX0_lay 325 = .ok (.iload 13, 2) := by decide +kernel
theorem dX0_lay_327 : decode cX0_lay 327 = .ok (.iastore, 1) := by decide +kernel
theorem dX0_lay_328 : decode cX0_lay 328 = .ok (.aload_n 0, 1) := by decide +kernel
theorem dX0_lay_329 : decode cX0_lay 329 = .ok (.getfield 44, 3) := by decide +kernel
theorem dX0_lay_332 : decode cX0_lay 332 = .ok (.iload 7, 2) := by decide +kernel
theorem dX0_lay_334 : decode cX0_lay 334 = .ok (.iconst 1, 1) := by decide +kernel
theorem dX0_lay_335 : decode cX0_lay 335 = .ok (.isub, 1) := by decide +kernel
theorem dX0_lay_336 : decode cX0_lay 336 = .ok (.dup2, 1) := by decide +kernel
theorem dX0_lay_337 : decode cX0_lay 337 = .ok (.iaload, 1) := by decide +kernel
theorem dX0_lay_338 : decode cX0_lay 338 = .ok (.iconst 1, 1) := by decide +kernel
theorem dX0_lay_339 : decode cX0_lay 339 = .ok (.iadd, 1) := by decide +kernel
theorem dX0_lay_340 : decode cX0_lay 340 = .ok (.iastore, 1) := by decide +kernel
theorem dX0_lay_341 : decode cX0_lay 341 = .ok (.goto 7, 3) := by decide +kernel
theorem dX0_lay_344 : decode cX0_lay 344 = .ok (.iload 13, 2) := by decide +kernel
theorem dX0_lay_346 : decode cX0_lay 346 = .ok (.istore 6, 2) := by decide +kernel
theorem dX0_lay_348 : decode cX0_lay 348 = .ok (.iload 11, 2) := by decide +kernel
theorem dX0_lay_350 : decode cX0_lay 350 = .ok (.ifCond .ne 39, 3) := by decide +kernel
theorem dX0_lay_353 : decode cX0_lay 353 = .ok (.iload 9, 2) := by decide +kernel
theorem dX0_lay_355 : decode cX0_lay 355 = .ok (.invokestatic 64, 3) := by decide +kernel
theorem dX0_lay_358 : decode cX0_lay 358 = .ok (.ifCond .le 31, 3) := by decide +kernel
theorem dX0_lay_361 : decode cX0_lay 361 = .ok (.iload 7, 2) := by decide +kernel
theorem dX0_lay_363 : decode cX0_lay 363 = .ok (.sipush 128, 3) := by decide +kernel
theorem dX0_lay_366 : decode cX0_lay 366 = .ok (.if_icmp .ge 23, 3) := by decide +kernel
theorem dX0_lay_369 : decode cX0_lay 369 = .ok (.aload_n 0, 1) := by decide +kernel
theorem dX0_lay_370 : decode cX0_lay 370 = .ok (.getfield 41, 3) := by decide +kernel
theorem dX0_lay_373 : decode cX0_lay 373 = .ok (.iload 7, 2) := by decide +kernel
theorem dX0_lay_375 : decode cX0_lay 375 = .ok (.iload 13, 2) := by decide +kernel
theorem dX0_lay_377 : decode cX0_lay 377 = .ok (.iastore, 1) := by decide +kernel
theorem dX0_lay_378 : decode cX0_lay 378 = .ok (.aload_n 0, 1) := by decide +kernel
theorem dX0_lay_379 : decode cX0_lay 379 = .ok (.getfield 44, 3) := by decide +kernel
theorem dX0_lay_382 : decode cX0_lay 382 = .ok (.iload 7, 2) := by decide +kernel
theorem dX0_lay_384 : decode cX0_lay 384 = .ok (.iconst 0, 1) := by decide +kernel
theorem dX0_lay_385 : decode cX0_lay 385 = .ok (.iastore, 1) := by decide +kernel
theorem dX0_lay_386 : decode cX0_lay 386 = .ok (.iinc 7 1, 3) := by decide +kernel
theorem dX0_lay_389 : decode cX0_lay 389 = .ok (.iload 10, 2) := by decide +kernel
theorem dX0_lay_391 : decode cX0_lay 391 = .ok (.ifCond .eq 19, 3) := by decide +kernel
theorem dX0_lay_394 : decode cX0_lay 394 = .ok (.aload_n 1, 1) := by decide +kernel
theorem dX0_lay_395 : decode cX0_lay 395 = .ok (.iload 8, 2) := by decide +kernel
theorem dX0_lay_397 : decode cX0_lay 397 = .ok (.invokevirtual 47, 3) := by decide +kernel
theorem dX0_lay_400 : decode cX0_lay 400 = .ok (.iload 8, 2) := by decide +kernel
theorem dX0_lay_402 : decode cX0_lay 402 = .ok (.iconst 1, 1) := by decide +kernel
theorem dX0_lay_403 : decode cX0_lay 403 = .ok (.iadd, 1) := by decide +kernel
theorem dX0_lay_404 : decode cX0_lay 404 = .ok (.invokestatic 67, 3) := by decide +kernel
theorem dX0_lay_407 : decode cX0_lay 407 = .ok (.goto 7, 3) := by decide +kernel
theorem dX0_lay_410 : decode cX0_lay 410 = .ok (.iload 8, 2) := by decide +kernel
theorem dX0_lay_412 : decode cX0_lay 412 = .ok (.iconst 1, 1) := by decide +kernel
theorem dX0_lay_413 : decode cX0_lay 413 = .ok (.iadd, 1) := by decide +kernel
theorem dX0_lay_414 : decode cX0_lay 414 = .ok (.istore 8, 2) := by decide +kernel
theorem dX0_lay_416 : decode cX0_lay 416 = .ok (.goto (-400), 3) := by decide +kernel
theorem dX0_lay_419 : decode cX0_lay 419 = .ok (.iload 6, 2) := by decide +kernel
theorem dX0_lay_421 : decode cX0_lay 421 = .ok (.ireturn, 1) := by decide +kernel
set_option maxRecDepth 10000 in
set_option maxHeartbeats 4000000 in
theorem A_X0_lay_389 {Z : az_Z} {d : Nat} (C : az_C Z yX0_lay cX0_lay 15 (some .int) d) (hD : 2 ≤ d) (n : Nat) {k16 : az_Hp → Int → Int → Int → Int → Int → Int → Int → Int → Int → Option (Int × az_Hp)} (hk16 : ∀ {σ : az_Hp} {v0 v1 v2 v3 v4 v5 v6 v7 v8 : Int} {r : (Int × az_Hp)}, k16 σ v0 v1 v2 v3 v4 v5 v6 v7 v8 = some r → az_AW Z 15 16 [(2, v0), (9, v1), (0, v2), (0, v3), (0, v4), (0, v5), (0, v6), (0, v7), (0, v8), (31, 0), (31, 0), (31, 0), (31, 0), (31, 0), (31, 0)] [] σ (some (0, r.1), r.2)) {σ : az_Hp} {v0 v1 v2 v3 v4 v5 v6 v7 v8 v10 : Int} {r : (Int × az_Hp)} (h : fz_X0_lay_389 n k16 σ v0 v1 v2 v3 v4 v5 v6 v7 v8 v10 = some r) : az_AW Z 15 389 [(2, v0), (9, v1), (0, v2), (0, v3), (0, v4), (0, v5), (0, v6), (0, v7), (0, v8), (31, 0), (0, v10), (31, 0), (31, 0), (31, 0), (31, 0)] [] σ (some (0, r.1), r.2) := by
  have hd1 : 1 ≤ d := by omega
  unfold fz_X0_lay_389 at h
  refine az_il10 (pc := 389) C dX0_lay_389 ?_
  refine az_if_eq (pc := 391) (tgt := 410) C h dX0_lay_391 (by decide) (fun _ h => ?_) (fun _ h => ?_)
  · refine az_il8 (pc := 410) C dX0_lay_410 ?_
    refine az_ik1 (pc := 412) C dX0_lay_412 ?_
    refine az_iadd (pc := 413) C dX0_lay_413 ?_
    refine az_is8 (pc := 414) C rfl rfl dX0_lay_414 ?_
    refine az_goto (pc := 416) (tgt := 16) C dX0_lay_416 (by decide) ?_
    exact (az_wkk (hk16 h) (az_sE (az_sE (az_sE (az_sE (az_sE (az_sE (az_sE (az_sE (az_sE (az_sJ (az_sJ (az_sJ (az_sJ (az_sJ (az_sJ az_sN))))))))))))))))
  refine az_al1 (pc := 394) C rfl rfl dX0_lay_394 ?_
  refine az_il8 (pc := 395) C dX0_lay_395 ?_
  refine az_cV1pi (pc := 397) (c := 7) C hd1 h mv_X7_end ml_X0_47 rfl (fun x hx => A_X7_end (by omega) n hx) dX0_lay_397 (fun r1 h => ?_)
  refine az_il8 (pc := 400) C dX0_lay_400 ?_
  refine az_ik1 (pc := 402) C dX0_lay_402 ?_
  refine az_iadd (pc := 403) C dX0_lay_403 ?_
  refine az_mmax (pc := 404) C hd1 ml_X0_67 az_w_maxst az_w_math az_w_maxc rfl dX0_lay_404 ?_
  refine az_goto (pc := 407) (tgt := 414) C dX0_lay_407 (by decide) ?_
  refine az_is8 (pc := 414) C rfl rfl dX0_lay_414 ?_
  refine az_goto (pc := 416) (tgt := 16) C dX0_lay_416 (by decide) ?_
  exact (az_wkk (hk16 h) (az_sE (az_sE (az_sE (az_sE (az_sE (az_sE (az_sE (az_sE (az_sE (az_sJ (az_sJ (az_sJ (az_sJ (az_sJ (az_sJ az_sN))))))))))))))))
set_option maxRecDepth 10000 in
set_option maxHeartbeats 4000000 in
theorem A_X0_lay_348 {Z : az_Z} {d : Nat} (C : az_C Z yX0_lay cX0_lay 15 (some .int) d) (hD : 2 ≤ d) (n : Nat) {k16 : az_Hp → Int → Int → Int → Int → Int → Int → Int → Int → Int → Option (Int × az_Hp)} (hk16 : ∀ {σ : az_Hp} {v0 v1 v2 v3 v4 v5 v6 v7 v8 : Int} {r : (Int × az_Hp)}, k16 σ v0 v1 v2 v3 v4 v5 v6 v7 v8 = some r → az_AW Z 15 16 [(2, v0), (9, v1), (0, v2), (0, v3), (0, v4), (0, v5), (0, v6), (0, v7), (0, v8), (31, 0), (31, 0), (31, 0), (31, 0), (31, 0), (31, 0)] [] σ (some (0, r.1), r.2)) {σ : az_Hp} {v0 v1 v2 v3 v4 v5 v6 v7 v8 v9 v10 v11 v13 : Int} {r : (Int × az_Hp)} (h : fz_X0_lay_348 n k16 σ v0 v1 v2 v3 v4 v5 v6 v7 v8 v9 v10 v11 v13 = some r) : az_AW Z 15 348 [(2, v0), (9, v1), (0, v2), (0, v3), (0, v4), (0, v5), (0, v6), (0, v7), (0, v8), (0, v9), (0, v10), (0, v11), (31, 0), (0, v13), (31, 0)] [] σ (some (0, r.1), r.2) := by
  have hd1 : 1 ≤ d := by omega
  unfold fz_X0_lay_348 at h
  refine az_il11 (pc := 348) C dX0_lay_348 ?_
  refine az_if_ne (pc := 350) (tgt := 389) C h dX0_lay_350 (by decide) (fun _ h => ?_) (fun _ h => ?_)
  · exact (az_wkk (A_X0_lay_389 C hD n (fun h => hk16 h) h) (az_sE (az_sE (az_sE (az_sE (az_sE (az_sE (az_sE (az_sE (az_sE (az_sJ (az_sE (az_sJ (az_sJ (az_sJ (az_sJ az_sN))))))))))))))))
  refine az_il9 (pc := 353) C dX0_lay_353 ?_
  refine az_cS1pi (pc := 355) C hd1 h ms_X7_arity ml_X0_64 rfl (fun x hx => A_X7_arity (by omega) hx) dX0_lay_355 (fun r1 h => ?_)
  refine az_if_le (pc := 358) (tgt := 389) C h dX0_lay_358 (by decide) (fun _ h => ?_) (fun _ h => ?_)
  · exact (az_wkk (A_X0_lay_389 C hD n (fun h => hk16 h) h) (az_sE (az_sE (az_sE (az_sE (az_sE (az_sE (az_sE (az_sE (az_sE (az_sJ (az_sE (az_sJ (az_sJ (az_sJ (az_sJ az_sN))))))))))))))))
  refine az_il7 (pc := 361) C dX0_lay_361 ?_
  refine az_sk128 (pc := 363) C dX0_lay_363 ?_
  refine az_icmp_ge (pc := 366) (tgt := 389) C h dX0_lay_366 (by decide) (fun _ h => ?_) (fun _ h => ?_)
  · exact (az_wkk (A_X0_lay_389 C hD n (fun h => hk16 h) h) (az_sE (az_sE (az_sE (az_sE (az_sE (az_sE (az_sE (az_sE (az_sE (az_sJ (az_sE (az_sJ (az_sJ (az_sJ (az_sJ az_sN))))))))))))))))
  refine az_al0 (pc := 369) C rfl rfl dX0_lay_369 ?_
  refine az_getR (pc := 370) (c2 := 13) C h fl_X0_41 rfl rfl dX0_lay_370 (fun h => ?_)
  refine az_il7 (pc := 373) C dX0_lay_373 ?_
  refine az_il13 (pc := 375) C dX0_lay_375 ?_
  refine az_iastore (pc := 377) C h dX0_lay_377 (fun h => ?_)
  refine az_al0 (pc := 378) C rfl rfl dX0_lay_378 ?_
  refine az_getR (pc := 379) (c2 := 13) C h fl_X0_44 rfl rfl dX0_lay_379 (fun h => ?_)
  refine az_il7 (pc := 382) C dX0_lay_382 ?_
  refine az_ik0 (pc := 384) C dX0_lay_384 ?_
  refine az_iastore (pc := 385) C h dX0_lay_385 (fun h => ?_)
  refine az_ii7 (pc := 386) C az_n1 rfl rfl dX0_lay_386 ?_
  exact (az_wkk (A_X0_lay_389 C hD n (fun h => hk16 h) h) (az_sE (az_sE (az_sE (az_sE (az_sE (az_sE (az_sE (az_sE (az_sE (az_sJ (az_sE (az_sJ (az_sJ (az_sJ (az_sJ az_sN))))))))))))))))
set_option maxRecDepth 10000 in
set_option maxHeartbeats 4000000 in
theorem A_X0_lay_295 {Z : az_Z} {d : Nat} (C : az_C Z yX0_lay cX0_lay 15 (some .int) d) (hD : 2 ≤ d) (n : Nat) {k16 : az_Hp → Int → Int → Int → Int → Int → Int → Int → Int → Int → Option (Int × az_Hp)} (hk16 : ∀ {σ : az_Hp} {v0 v1 v2 v3 v4 v5 v6 v7 v8 : Int} {r : (Int × az_Hp)}, k16 σ v0 v1 v2 v3 v4 v5 v6 v7 v8 = some r → az_AW Z 15 16 [(2, v0), (9, v1), (0, v2), (0, v3), (0, v4), (0, v5), (0, v6), (0, v7), (0, v8), (31, 0), (31, 0), (31, 0), (31, 0), (31, 0), (31, 0)] [] σ (some (0, r.1), r.2)) {σ : az_Hp} {v0 v1 v2 v3 v4 v5 v6 v7 v8 v9 v10 v11 v13 : Int} {r : (Int × az_Hp)} (h : fz_X0_lay_295 n k16 σ v0 v1 v2 v3 v4 v5 v6 v7 v8 v9 v10 v11 v13 = some r) : az_AW Z 15 295 [(2, v0), (9, v1), (0, v2), (0, v3), (0, v4), (0, v5), (0, v6), (0, v7), (0, v8), (0, v9), (0, v10), (0, v11), (31, 0), (0, v13), (31, 0)] [] σ (some (0, r.1), r.2) := by
  have hd1 : 1 ≤ d := by omega
  unfold fz_X0_lay_295 at h
  refine az_il7 (pc := 295) C dX0_lay_295 ?_
  refine az_if_le (pc := 297) (tgt := 344) C h dX0_lay_297 (by decide) (fun _ h => ?_) (fun _ h => ?_)
  · refine az_il13 (pc := 344) C dX0_lay_344 ?_
    refine az_is6 (pc := 346) C rfl rfl dX0_lay_346 ?_
    exact (A_X0_lay_348 C hD n (fun h => hk16 h) h)
  refine az_al0 (pc := 300) C rfl rfl dX0_lay_300 ?_
  refine az_getR (pc := 301) (c2 := 13) C h fl_X0_35 rfl rfl dX0_lay_301 (fun h => ?_)
  refine az_al0 (pc := 304) C rfl rfl dX0_lay_304 ?_
  refine az_getR (pc := 305) (c2 := 13) C h fl_X0_41 rfl rfl dX0_lay_305 (fun h => ?_)
  refine az_il7 (pc := 308) C dX0_lay_308 ?_
  refine az_ik1 (pc := 310) C dX0_lay_310 ?_
  refine az_isub (pc := 311) C dX0_lay_311 ?_
  refine az_iaload (pc := 312) C h dX0_lay_312 (fun h => ?_)
  refine az_ik3 (pc := 313) C dX0_lay_313 ?_
  refine az_imul (pc := 314) C dX0_lay_314 ?_
  refine az_al0 (pc := 315) C rfl rfl dX0_lay_315 ?_
  refine az_getR (pc := 316) (c2 := 13) C h fl_X0_44 rfl rfl dX0_lay_316 (fun h => ?_)
  refine az_il7 (pc := 319) C dX0_lay_319 ?_
  refine az_ik1 (pc := 321) C dX0_lay_321 ?_
  refine az_isub (pc := 322) C dX0_lay_322 ?_
  refine az_iaload (pc := 323) C h dX0_lay_323 (fun h => ?_)
  refine az_iadd (pc := 324) C dX0_lay_324 ?_
  refine az_il13 (pc := 325) C dX0_lay_325 ?_
  refine az_iastore (pc := 327) C h dX0_lay_327 (fun h => ?_)
  refine az_al0 (pc := 328) C rfl rfl dX0_lay_328 ?_
  refine az_getR (pc := 329) (c2 := 13) C h fl_X0_44 rfl rfl dX0_lay_329 (fun h => ?_)
  refine az_il7 (pc := 332) C dX0_lay_332 ?_
  refine az_ik1 (pc := 334) C dX0_lay_334 ?_
  refine az_isub (pc := 335) C dX0_lay_335 ?_
  refine az_dup2 (pc := 336) C rfl rfl rfl rfl dX0_lay_336 ?_
  refine az_iaload (pc := 337) C h dX0_lay_337 (fun h => ?_)
  refine az_ik1 (pc := 338) C dX0_lay_338 ?_
  refine az_iadd (pc := 339) C dX0_lay_339 ?_
  refine az_iastore (pc := 340) C h dX0_lay_340 (fun h => ?_)
  refine az_goto (pc := 341) (tgt := 348) C dX0_lay_341 (by decide) ?_
  exact (A_X0_lay_348 C hD n (fun h => hk16 h) h)
set_option maxRecDepth 10000 in
set_option maxHeartbeats 4000000 in
theorem A_X0_lay_255 {Z : az_Z} {d : Nat} (C : az_C Z yX0_lay cX0_lay 15 (some .int) d) (hD : 2 ≤ d) (n : Nat) {k16 : az_Hp → Int → Int → Int → Int → Int → Int → Int → Int → Int → Option (Int × az_Hp)} (hk16 : ∀ {σ : az_Hp} {v0 v1 v2 v3 v4 v5 v6 v7 v8 : Int} {r : (Int × az_Hp)}, k16 σ v0 v1 v2 v3 v4 v5 v6 v7 v8 = some r → az_AW Z 15 16 [(2, v0), (9, v1), (0, v2), (0, v3), (0, v4), (0, v5), (0, v6), (0, v7), (0, v8), (31, 0), (31, 0), (31, 0), (31, 0), (31, 0), (31, 0)] [] σ (some (0, r.1), r.2)) (k : Nat) : ∀ {σ : az_Hp} {v0 v1 v2 v3 v4 v5 v6 v7 v8 v9 v10 v11 v13 v14 : Int} {r : (Int × az_Hp)}, fz_X0_lay_255 n k16 k σ v0 v1 v2 v3 v4 v5 v6 v7 v8 v9 v10 v11 v13 v14 = some r → az_AW Z 15 255 [(2, v0), (9, v1), (0, v2), (0, v3), (0, v4), (0, v5), (0, v6), (0, v7), (0, v8), (0, v9), (0, v10), (0, v11), (31, 0), (0, v13), (0, v14)] [] σ (some (0, r.1), r.2) := by
  have hd1 : 1 ≤ d := by omega
  induction k with
  | zero => intro σ v0 v1 v2 v3 v4 v5 v6 v7 v8 v9 v10 v11 v13 v14 r h; simp [fz_X0_lay_255] at h
  | succ k ih =>
    intro σ v0 v1 v2 v3 v4 v5 v6 v7 v8 v9 v10 v11 v13 v14 r h
    unfold fz_X0_lay_255 at h
    refine az_il14 (pc := 255) C dX0_lay_255 ?_
    refine az_if_lt (pc := 257) (tgt := 295) C h dX0_lay_257 (by decide) (fun _ h => ?_) (fun _ h => ?_)
    · exact (az_wkk (A_X0_lay_295 C hD n (fun h => hk16 h) h) (az_sE (az_sE (az_sE (az_sE (az_sE (az_sE (az_sE (az_sE (az_sE (az_sE (az_sE (az_sE (az_sJ (az_sE (az_sJ az_sN))))))))))))))))
    refine az_al0 (pc := 260) C rfl rfl dX0_lay_260 ?_
    refine az_getR (pc := 261) (c2 := 13) C h fl_X0_44 rfl rfl dX0_lay_261 (fun h => ?_)
    refine az_il14 (pc := 264) C dX0_lay_264 ?_
    refine az_iaload (pc := 266) C h dX0_lay_266 (fun h => ?_)
    refine az_al0 (pc := 267) C rfl rfl dX0_lay_267 ?_
    refine az_getR (pc := 268) (c2 := 13) C h fl_X0_15 rfl rfl dX0_lay_268 (fun h => ?_)
    refine az_al0 (pc := 271) C rfl rfl dX0_lay_271 ?_
    refine az_getR (pc := 272) (c2 := 13) C h fl_X0_41 rfl rfl dX0_lay_272 (fun h => ?_)
    refine az_il14 (pc := 275) C dX0_lay_275 ?_
    refine az_iaload (pc := 277) C h dX0_lay_277 (fun h => ?_)
    refine az_iaload (pc := 278) C h dX0_lay_278 (fun h => ?_)
    refine az_cS1pi (pc := 279) C hd1 h ms_X7_arity ml_X0_64 rfl (fun x hx => A_X7_arity (by omega) hx) dX0_lay_279 (fun r7 h => ?_)
    refine az_icmp_lt (pc := 282) (tgt := 295) C h dX0_lay_282 (by decide) (fun _ h => ?_) (fun _ h => ?_)
    · exact (az_wkk (A_X0_lay_295 C hD n (fun h => hk16 h) h) (az_sE (az_sE (az_sE (az_sE (az_sE (az_sE (az_sE (az_sE (az_sE (az_sE (az_sE (az_sE (az_sJ (az_sE (az_sJ az_sN))))))))))))))))
    refine az_il14 (pc := 285) C dX0_lay_285 ?_
    refine az_is7 (pc := 287) C rfl rfl dX0_lay_287 ?_
    refine az_ii14 (pc := 289) C az_nm1 rfl rfl dX0_lay_289 ?_
    refine az_goto (pc := 292) (tgt := 255) C dX0_lay_292 (by decide) ?_
    exact (ih h)
set_option maxRecDepth 10000 in
set_option maxHeartbeats 4000000 in
theorem A_X0_lay_180 {Z : az_Z} {d : Nat} (C : az_C Z yX0_lay cX0_lay 15 (some .int) d) (hD : 2 ≤ d) (n : Nat) {k16 : az_Hp → Int → Int → Int → Int → Int → Int → Int → Int → Int → Option (Int × az_Hp)} (hk16 : ∀ {σ : az_Hp} {v0 v1 v2 v3 v4 v5 v6 v7 v8 : Int} {r : (Int × az_Hp)}, k16 σ v0 v1 v2 v3 v4 v5 v6 v7 v8 = some r → az_AW Z 15 16 [(2, v0), (9, v1), (0, v2), (0, v3), (0, v4), (0, v5), (0, v6), (0, v7), (0, v8), (31, 0), (31, 0), (31, 0), (31, 0), (31, 0), (31, 0)] [] σ (some (0, r.1), r.2)) {σ : az_Hp} {v0 v1 v2 v3 v4 v5 v6 v7 v8 v9 v10 v11 v12 v13 : Int} {r : (Int × az_Hp)} (h : fz_X0_lay_180 n k16 σ v0 v1 v2 v3 v4 v5 v6 v7 v8 v9 v10 v11 v12 v13 = some r) : az_AW Z 15 180 [(2, v0), (9, v1), (0, v2), (0, v3), (0, v4), (0, v5), (0, v6), (0, v7), (0, v8), (0, v9), (0, v10), (0, v11), (0, v12), (0, v13), (31, 0)] [] σ (some (0, r.1), r.2) := by
  have hd1 : 1 ≤ d := by omega
  unfold fz_X0_lay_180 at h
  refine az_il13 (pc := 180) C dX0_lay_180 ?_
  refine az_ikm1 (pc := 182) C dX0_lay_182 ?_
  refine az_icmp_ne (pc := 183) (tgt := 249) C h dX0_lay_183 (by decide) (fun _ h => ?_) (fun _ h => ?_)
  · refine az_il7 (pc := 249) C dX0_lay_249 ?_
    refine az_ik1 (pc := 251) C dX0_lay_251 ?_
    refine az_isub (pc := 252) C dX0_lay_252 ?_
    refine az_is14 (pc := 253) C rfl rfl dX0_lay_253 ?_
    exact (az_wkk (A_X0_lay_255 C hD n (fun h => hk16 h) n h) (az_sE (az_sE (az_sE (az_sE (az_sE (az_sE (az_sE (az_sE (az_sE (az_sE (az_sE (az_sE (az_sJ (az_sE (az_sE az_sN))))))))))))))))
  refine az_al0 (pc := 186) C rfl rfl dX0_lay_186 ?_
  refine az_getI (pc := 187) C fl_X0_9 rfl dX0_lay_187 ?_
  refine az_sk128 (pc := 190) C dX0_lay_190 ?_
  refine az_icmp_lt (pc := 193) (tgt := 198) C h dX0_lay_193 (by decide) (fun _ h => ?_) (fun _ h => ?_)
  · refine az_al0 (pc := 198) C rfl rfl dX0_lay_198 ?_
    refine az_getI (pc := 199) C fl_X0_9 rfl dX0_lay_199 ?_
    refine az_is13 (pc := 202) C rfl rfl dX0_lay_202 ?_
    refine az_al0 (pc := 204) C rfl rfl dX0_lay_204 ?_
    refine az_dup (pc := 205) C rfl rfl dX0_lay_205 ?_
    refine az_getI (pc := 206) C fl_X0_9 rfl dX0_lay_206 ?_
    refine az_ik1 (pc := 209) C dX0_lay_209 ?_
    refine az_iadd (pc := 210) C dX0_lay_210 ?_
    refine az_putI (pc := 211) C fl_X0_9 (Or.inl rfl) rfl dX0_lay_211 ?_
    refine az_al0 (pc := 214) C rfl rfl dX0_lay_214 ?_
    refine az_getR (pc := 215) (c2 := 13) C h fl_X0_15 rfl rfl dX0_lay_215 (fun h => ?_)
    refine az_il13 (pc := 218) C dX0_lay_218 ?_
    refine az_il12 (pc := 220) C dX0_lay_220 ?_
    refine az_iastore (pc := 222) C h dX0_lay_222 (fun h => ?_)
    refine az_al0 (pc := 223) C rfl rfl dX0_lay_223 ?_
    refine az_getR (pc := 224) (c2 := 13) C h fl_X0_19 rfl rfl dX0_lay_224 (fun h => ?_)
    refine az_il13 (pc := 227) C dX0_lay_227 ?_
    refine az_il3 (pc := 229) C dX0_lay_229 ?_
    refine az_iastore (pc := 230) C h dX0_lay_230 (fun h => ?_)
    refine az_al0 (pc := 231) C rfl rfl dX0_lay_231 ?_
    refine az_getR (pc := 232) (c2 := 13) C h fl_X0_22 rfl rfl dX0_lay_232 (fun h => ?_)
    refine az_il13 (pc := 235) C dX0_lay_235 ?_
    refine az_il8 (pc := 237) C dX0_lay_237 ?_
    refine az_iastore (pc := 239) C h dX0_lay_239 (fun h => ?_)
    refine az_al0 (pc := 240) C rfl rfl dX0_lay_240 ?_
    refine az_getR (pc := 241) (c2 := 13) C h fl_X0_25 rfl rfl dX0_lay_241 (fun h => ?_)
    refine az_il13 (pc := 244) C dX0_lay_244 ?_
    refine az_il13 (pc := 246) C dX0_lay_246 ?_
    refine az_iastore (pc := 248) C h dX0_lay_248 (fun h => ?_)
    refine az_il7 (pc := 249) C dX0_lay_249 ?_
    refine az_ik1 (pc := 251) C dX0_lay_251 ?_
    refine az_isub (pc := 252) C dX0_lay_252 ?_
    refine az_is14 (pc := 253) C rfl rfl dX0_lay_253 ?_
    exact (az_wkk (A_X0_lay_255 C hD n (fun h => hk16 h) n h) (az_sE (az_sE (az_sE (az_sE (az_sE (az_sE (az_sE (az_sE (az_sE (az_sE (az_sE (az_sE (az_sJ (az_sE (az_sE az_sN))))))))))))))))
  refine az_ikm1 (pc := 196) C dX0_lay_196 ?_
  obtain rfl := Option.some.inj h
  exact az_ireturn (pc := 197) C dX0_lay_197 rfl
set_option maxRecDepth 10000 in
set_option maxHeartbeats 4000000 in
theorem A_X0_lay_105 {Z : az_Z} {d : Nat} (C : az_C Z yX0_lay cX0_lay 15 (some .int) d) (hD : 2 ≤ d) (n : Nat) {k16 : az_Hp → Int → Int → Int → Int → Int → Int → Int → Int → Int → Option (Int × az_Hp)} (hk16 : ∀ {σ : az_Hp} {v0 v1 v2 v3 v4 v5 v6 v7 v8 : Int} {r : (Int × az_Hp)}, k16 σ v0 v1 v2 v3 v4 v5 v6 v7 v8 = some r → az_AW Z 15 16 [(2, v0), (9, v1), (0, v2), (0, v3), (0, v4), (0, v5), (0, v6), (0, v7), (0, v8), (31, 0), (31, 0), (31, 0), (31, 0), (31, 0), (31, 0)] [] σ (some (0, r.1), r.2)) (k : Nat) : ∀ {σ : az_Hp} {v0 v1 v2 v3 v4 v5 v6 v7 v8 v9 v10 v11 v12 v13 v14 : Int} {r : (Int × az_Hp)}, fz_X0_lay_105 n k16 k σ v0 v1 v2 v3 v4 v5 v6 v7 v8 v9 v10 v11 v12 v13 v14 = some r → az_AW Z 15 105 [(2, v0), (9, v1), (0, v2), (0, v3), (0, v4), (0, v5), (0, v6), (0, v7), (0, v8), (0, v9), (0, v10), (0, v11), (0, v12), (0, v13), (0, v14)] [] σ (some (0, r.1), r.2) := by
  have hd1 : 1 ≤ d := by omega
  induction k with
  | zero => intro σ v0 v1 v2 v3 v4 v5 v6 v7 v8 v9 v10 v11 v12 v13 v14 r h; simp [fz_X0_lay_105] at h
  | succ k ih =>
    intro σ v0 v1 v2 v3 v4 v5 v6 v7 v8 v9 v10 v11 v12 v13 v14 r h
    unfold fz_X0_lay_105 at h
    refine az_il11 (pc := 105) C dX0_lay_105 ?_
    refine az_if_eq (pc := 107) (tgt := 180) C h dX0_lay_107 (by decide) (fun _ h => ?_) (fun _ h => ?_)
    · exact (az_wkk (A_X0_lay_180 C hD n (fun h => hk16 h) h) (az_sE (az_sE (az_sE (az_sE (az_sE (az_sE (az_sE (az_sE (az_sE (az_sE (az_sE (az_sE (az_sE (az_sE (az_sJ az_sN))))))))))))))))
    refine az_il14 (pc := 110) C dX0_lay_110 ?_
    refine az_al0 (pc := 112) C rfl rfl dX0_lay_112 ?_
    refine az_getI (pc := 113) C fl_X0_9 rfl dX0_lay_113 ?_
    refine az_icmp_ge (pc := 116) (tgt := 180) C h dX0_lay_116 (by decide) (fun _ h => ?_) (fun _ h => ?_)
    · exact (az_wkk (A_X0_lay_180 C hD n (fun h => hk16 h) h) (az_sE (az_sE (az_sE (az_sE (az_sE (az_sE (az_sE (az_sE (az_sE (az_sE (az_sE (az_sE (az_sE (az_sE (az_sJ az_sN))))))))))))))))
    refine az_il13 (pc := 119) C dX0_lay_119 ?_
    refine az_ikm1 (pc := 121) C dX0_lay_121 ?_
    refine az_icmp_ne (pc := 122) (tgt := 180) C h dX0_lay_122 (by decide) (fun _ h => ?_) (fun _ h => ?_)
    · exact (az_wkk (A_X0_lay_180 C hD n (fun h => hk16 h) h) (az_sE (az_sE (az_sE (az_sE (az_sE (az_sE (az_sE (az_sE (az_sE (az_sE (az_sE (az_sE (az_sE (az_sE (az_sJ az_sN))))))))))))))))
    refine az_al0 (pc := 125) C rfl rfl dX0_lay_125 ?_
    refine az_getR (pc := 126) (c2 := 13) C h fl_X0_19 rfl rfl dX0_lay_126 (fun h => ?_)
    refine az_il14 (pc := 129) C dX0_lay_129 ?_
    refine az_iaload (pc := 131) C h dX0_lay_131 (fun h => ?_)
    refine az_il3 (pc := 132) C dX0_lay_132 ?_
    refine az_icmp_ne (pc := 133) (tgt := 174) C h dX0_lay_133 (by decide) (fun _ h => ?_) (fun _ h => ?_)
    · refine az_ii14 (pc := 174) C az_n1 rfl rfl dX0_lay_174 ?_
      refine az_goto (pc := 177) (tgt := 105) C dX0_lay_177 (by decide) ?_
      exact (ih h)
    refine az_al0 (pc := 136) C rfl rfl dX0_lay_136 ?_
    refine az_getR (pc := 137) (c2 := 13) C h fl_X0_15 rfl rfl dX0_lay_137 (fun h => ?_)
    refine az_il14 (pc := 140) C dX0_lay_140 ?_
    refine az_iaload (pc := 142) C h dX0_lay_142 (fun h => ?_)
    refine az_il12 (pc := 143) C dX0_lay_143 ?_
    refine az_icmp_ne (pc := 145) (tgt := 174) C h dX0_lay_145 (by decide) (fun _ h => ?_) (fun _ h => ?_)
    · refine az_ii14 (pc := 174) C az_n1 rfl rfl dX0_lay_174 ?_
      refine az_goto (pc := 177) (tgt := 105) C dX0_lay_177 (by decide) ?_
      exact (ih h)
    refine az_il10 (pc := 148) C dX0_lay_148 ?_
    refine az_if_eq (pc := 150) (tgt := 170) C h dX0_lay_150 (by decide) (fun _ h => ?_) (fun _ h => ?_)
    · refine az_il14 (pc := 170) C dX0_lay_170 ?_
      refine az_is13 (pc := 172) C rfl rfl dX0_lay_172 ?_
      refine az_ii14 (pc := 174) C az_n1 rfl rfl dX0_lay_174 ?_
      refine az_goto (pc := 177) (tgt := 105) C dX0_lay_177 (by decide) ?_
      exact (ih h)
    refine az_al1 (pc := 153) C rfl rfl dX0_lay_153 ?_
    refine az_al0 (pc := 154) C rfl rfl dX0_lay_154 ?_
    refine az_getR (pc := 155) (c2 := 13) C h fl_X0_22 rfl rfl dX0_lay_155 (fun h => ?_)
    refine az_il14 (pc := 158) C dX0_lay_158 ?_
    refine az_iaload (pc := 160) C h dX0_lay_160 (fun h => ?_)
    refine az_al1 (pc := 161) C rfl rfl dX0_lay_161 ?_
    refine az_il8 (pc := 162) C dX0_lay_162 ?_
    refine az_cV3pi (pc := 164) (c := 7) C hd1 h mv_X7_samePart ml_X0_60 rfl (fun x hx => A_X7_samePart (by omega) n hx) dX0_lay_164 (fun r7 h => ?_)
    refine az_if_eq (pc := 167) (tgt := 174) C h dX0_lay_167 (by decide) (fun _ h => ?_) (fun _ h => ?_)
    · refine az_ii14 (pc := 174) C az_n1 rfl rfl dX0_lay_174 ?_
      refine az_goto (pc := 177) (tgt := 105) C dX0_lay_177 (by decide) ?_
      exact (ih h)
    refine az_il14 (pc := 170) C dX0_lay_170 ?_
    refine az_is13 (pc := 172) C rfl rfl dX0_lay_172 ?_
    refine az_ii14 (pc := 174) C az_n1 rfl rfl dX0_lay_174 ?_
    refine az_goto (pc := 177) (tgt := 105) C dX0_lay_177 (by decide) ?_
    exact (ih h)
set_option maxRecDepth 10000 in
set_option maxHeartbeats 4000000 in
theorem A_X0_lay_83 {Z : az_Z} {d : Nat} (C : az_C Z yX0_lay cX0_lay 15 (some .int) d) (hD : 2 ≤ d) (n : Nat) {k16 : az_Hp → Int → Int → Int → Int → Int → Int → Int → Int → Int → Option (Int × az_Hp)} (hk16 : ∀ {σ : az_Hp} {v0 v1 v2 v3 v4 v5 v6 v7 v8 : Int} {r : (Int × az_Hp)}, k16 σ v0 v1 v2 v3 v4 v5 v6 v7 v8 = some r → az_AW Z 15 16 [(2, v0), (9, v1), (0, v2), (0, v3), (0, v4), (0, v5), (0, v6), (0, v7), (0, v8), (31, 0), (31, 0), (31, 0), (31, 0), (31, 0), (31, 0)] [] σ (some (0, r.1), r.2)) {σ : az_Hp} {v0 v1 v2 v3 v4 v5 v6 v7 v8 v9 v10 w0 : Int} {r : (Int × az_Hp)} (h : fz_X0_lay_83 n k16 σ v0 v1 v2 v3 v4 v5 v6 v7 v8 v9 v10 w0 = some r) : az_AW Z 15 83 [(2, v0), (9, v1), (0, v2), (0, v3), (0, v4), (0, v5), (0, v6), (0, v7), (0, v8), (0, v9), (0, v10), (31, 0), (31, 0), (31, 0), (31, 0)] [(0, w0)] σ (some (0, r.1), r.2) := by
  have hd1 : 1 ≤ d := by omega
  unfold fz_X0_lay_83 at h
  refine az_is11 (pc := 83) C rfl rfl dX0_lay_83 ?_
  refine az_il10 (pc := 85) C dX0_lay_85 ?_
  refine az_if_eq (pc := 87) (tgt := 95) C h dX0_lay_87 (by decide) (fun _ h => ?_) (fun _ h => ?_)
  · refine az_il9 (pc := 95) C dX0_lay_95 ?_
    refine az_is12 (pc := 97) C rfl rfl dX0_lay_97 ?_
    refine az_ikm1 (pc := 99) C dX0_lay_99 ?_
    refine az_is13 (pc := 100) C rfl rfl dX0_lay_100 ?_
    refine az_ik0 (pc := 102) C dX0_lay_102 ?_
    refine az_is14 (pc := 103) C rfl rfl dX0_lay_103 ?_
    exact (A_X0_lay_105 C hD n (fun h => hk16 h) n h)
  refine az_ldc (pc := 90) (x := (-1000000000)) C ct_X0_59 dX0_lay_90 (by decide) ?_
  refine az_goto (pc := 92) (tgt := 97) C dX0_lay_92 (by decide) ?_
  refine az_is12 (pc := 97) C rfl rfl dX0_lay_97 ?_
  refine az_ikm1 (pc := 99) C dX0_lay_99 ?_
  refine az_is13 (pc := 100) C rfl rfl dX0_lay_100 ?_
  refine az_ik0 (pc := 102) C dX0_lay_102 ?_
  refine az_is14 (pc := 103) C rfl rfl dX0_lay_103 ?_
  exact (A_X0_lay_105 C hD n (fun h => hk16 h) n h)
set_option maxRecDepth 10000 in
set_option maxHeartbeats 4000000 in
theorem A_X0_lay_57 {Z : az_Z} {d : Nat} (C : az_C Z yX0_lay cX0_lay 15 (some .int) d) (hD : 2 ≤ d) (n : Nat) {k16 : az_Hp → Int → Int → Int → Int → Int → Int → Int → Int → Int → Option (Int × az_Hp)} (hk16 : ∀ {σ : az_Hp} {v0 v1 v2 v3 v4 v5 v6 v7 v8 : Int} {r : (Int × az_Hp)}, k16 σ v0 v1 v2 v3 v4 v5 v6 v7 v8 = some r → az_AW Z 15 16 [(2, v0), (9, v1), (0, v2), (0, v3), (0, v4), (0, v5), (0, v6), (0, v7), (0, v8), (31, 0), (31, 0), (31, 0), (31, 0), (31, 0), (31, 0)] [] σ (some (0, r.1), r.2)) {σ : az_Hp} {v0 v1 v2 v3 v4 v5 v6 v7 v8 v9 w0 : Int} {r : (Int × az_Hp)} (h : fz_X0_lay_57 n k16 σ v0 v1 v2 v3 v4 v5 v6 v7 v8 v9 w0 = some r) : az_AW Z 15 57 [(2, v0), (9, v1), (0, v2), (0, v3), (0, v4), (0, v5), (0, v6), (0, v7), (0, v8), (0, v9), (31, 0), (31, 0), (31, 0), (31, 0), (31, 0)] [(0, w0)] σ (some (0, r.1), r.2) := by
  have hd1 : 1 ≤ d := by omega
  unfold fz_X0_lay_57 at h
  refine az_is10 (pc := 57) C rfl rfl dX0_lay_57 ?_
  refine az_il10 (pc := 59) C dX0_lay_59 ?_
  refine az_if_ne (pc := 61) (tgt := 78) C h dX0_lay_61 (by decide) (fun _ h => ?_) (fun _ h => ?_)
  · refine az_ik1 (pc := 78) C dX0_lay_78 ?_
    refine az_goto (pc := 79) (tgt := 83) C dX0_lay_79 (by decide) ?_
    exact (A_X0_lay_83 C hD n (fun h => hk16 h) h)
  refine az_il9 (pc := 64) C dX0_lay_64 ?_
  refine az_if_lt (pc := 66) (tgt := 78) C h dX0_lay_66 (by decide) (fun _ h => ?_) (fun _ h => ?_)
  · refine az_ik1 (pc := 78) C dX0_lay_78 ?_
    refine az_goto (pc := 79) (tgt := 83) C dX0_lay_79 (by decide) ?_
    exact (A_X0_lay_83 C hD n (fun h => hk16 h) h)
  refine az_il9 (pc := 69) C dX0_lay_69 ?_
  refine az_cS1pi (pc := 71) C hd1 h ms_X7_kind ml_X0_56 rfl (fun x hx => A_X7_kind (by omega) hx) dX0_lay_71 (fun r1 h => ?_)
  refine az_ik3 (pc := 74) C dX0_lay_74 ?_
  refine az_icmp_ne (pc := 75) (tgt := 82) C h dX0_lay_75 (by decide) (fun _ h => ?_) (fun _ h => ?_)
  · refine az_ik0 (pc := 82) C dX0_lay_82 ?_
    exact (A_X0_lay_83 C hD n (fun h => hk16 h) h)
  refine az_ik1 (pc := 78) C dX0_lay_78 ?_
  refine az_goto (pc := 79) (tgt := 83) C dX0_lay_79 (by decide) ?_
  exact (A_X0_lay_83 C hD n (fun h => hk16 h) h)
set_option maxRecDepth 10000 in
set_option maxHeartbeats 4000000 in
theorem A_X0_lay_16 {Z : az_Z} {d : Nat} (C : az_C Z yX0_lay cX0_lay 15 (some .int) d) (hD : 2 ≤ d) (n : Nat) (k : Nat) : ∀ {σ : az_Hp} {v0 v1 v2 v3 v4 v5 v6 v7 v8 : Int} {r : (Int × az_Hp)}, fz_X0_lay_16 n k σ v0 v1 v2 v3 v4 v5 v6 v7 v8 = some r → az_AW Z 15 16 [(2, v0), (9, v1), (0, v2), (0, v3), (0, v4), (0, v5), (0, v6), (0, v7), (0, v8), (31, 0), (31, 0), (31, 0), (31, 0), (31, 0), (31, 0)] [] σ (some (0, r.1), r.2) := by
  have hd1 : 1 ≤ d := by omega
  induction k with
  | zero => intro σ v0 v1 v2 v3 v4 v5 v6 v7 v8 r h; simp [fz_X0_lay_16] at h
  | succ k ih =>
    intro σ v0 v1 v2 v3 v4 v5 v6 v7 v8 r h
    unfold fz_X0_lay_16 at h
    refine az_il8 (pc := 16) C dX0_lay_16 ?_
    refine az_il5 (pc := 18) C dX0_lay_18 ?_
    refine az_icmp_ge (pc := 20) (tgt := 419) C h dX0_lay_20 (by decide) (fun _ h => ?_) (fun _ h => ?_)
    · refine az_il6 (pc := 419) C dX0_lay_419 ?_
      obtain rfl := Option.some.inj h
      exact az_ireturn (pc := 421) C dX0_lay_421 rfl
    refine az_al1 (pc := 23) C rfl rfl dX0_lay_23 ?_
    refine az_getR (pc := 24) (c2 := 13) C h fl_X0_53 rfl rfl dX0_lay_24 (fun h => ?_)
    refine az_il8 (pc := 27) C dX0_lay_27 ?_
    refine az_iaload (pc := 29) C h dX0_lay_29 (fun h => ?_)
    refine az_is9 (pc := 30) C rfl rfl dX0_lay_30 ?_
    refine az_il4 (pc := 32) C dX0_lay_32 ?_
    refine az_if_eq (pc := 34) (tgt := 56) C h dX0_lay_34 (by decide) (fun _ h => ?_) (fun _ h => ?_)
    · refine az_ik0 (pc := 56) C dX0_lay_56 ?_
      exact (A_X0_lay_57 C hD n (fun h => ih h) h)
    refine az_il8 (pc := 37) C dX0_lay_37 ?_
    refine az_il2 (pc := 39) C dX0_lay_39 ?_
    refine az_icmp_le (pc := 40) (tgt := 56) C h dX0_lay_40 (by decide) (fun _ h => ?_) (fun _ h => ?_)
    · refine az_ik0 (pc := 56) C dX0_lay_56 ?_
      exact (A_X0_lay_57 C hD n (fun h => ih h) h)
    refine az_il9 (pc := 43) C dX0_lay_43 ?_
    refine az_cS1pi (pc := 45) C hd1 h ms_X7_kind ml_X0_56 rfl (fun x hx => A_X7_kind (by omega) hx) dX0_lay_45 (fun r3 h => ?_)
    refine az_ik2 (pc := 48) C dX0_lay_48 ?_
    refine az_icmp_ne (pc := 49) (tgt := 56) C h dX0_lay_49 (by decide) (fun _ h => ?_) (fun _ h => ?_)
    · refine az_ik0 (pc := 56) C dX0_lay_56 ?_
      exact (A_X0_lay_57 C hD n (fun h => ih h) h)
    refine az_ik1 (pc := 52) C dX0_lay_52 ?_
    refine az_goto (pc := 53) (tgt := 57) C dX0_lay_53 (by decide) ?_
    exact (A_X0_lay_57 C hD n (fun h => ih h) h)
set_option maxRecDepth 10000 in
set_option maxHeartbeats 4000000 in
theorem A_X0_lay_e {Z : az_Z} {d : Nat} (C : az_C Z yX0_lay cX0_lay 15 (some .int) d) (hD : 2 ≤ d) (n : Nat) {σ : az_Hp} {v0 v1 v2 v3 v4 : Int} {r : (Int × az_Hp)} (h : fz_X0_lay n σ v0 v1 v2 v3 v4 = some r) : az_AW Z 15 0 [(2, v0), (9, v1), (0, v2), (0, v3), (0, v4), (31, 0), (31, 0), (31, 0), (31, 0), (31, 0), (31, 0), (31, 0), (31, 0), (31, 0), (31, 0)] [] σ (some (0, r.1), r.2) := by
  have hd1 : 1 ≤ d := by omega
  unfold fz_X0_lay at h
  refine az_al1 (pc := 0) C rfl rfl dX0_lay_0 ?_
  refine az_il2 (pc := 1) C dX0_lay_1 ?_
  refine az_cV1pi (pc := 2) (c := 7) C hd1 h mv_X7_end ml_X0_47 rfl (fun x hx => A_X7_end (by omega) n hx) dX0_lay_2 (fun r1 h => ?_)
  refine az_is5 (pc := 5) C rfl rfl dX0_lay_5 ?_
  refine az_ikm1 (pc := 7) C dX0_lay_7 ?_
  refine az_is6 (pc := 8) C rfl rfl dX0_lay_8 ?_
  refine az_ik0 (pc := 10) C dX0_lay_10 ?_
  refine az_is7 (pc := 11) C rfl rfl dX0_lay_11 ?_
  refine az_il2 (pc := 13) C dX0_lay_13 ?_
  refine az_is8 (pc := 14) C rfl rfl dX0_lay_14 ?_
  exact (A_X0_lay_16 C hD n n h)
set_option maxRecDepth 10000 in
set_option maxHeartbeats 4000000 in
theorem A_X0_lay {l : Launch} {d : Nat} (hD : 2 ≤ d) (n : Nat) {σ : az_Hp} {v0 v1 v2 v3 v4 : Int} {r : (Int × az_Hp)} (h : fz_X0_lay n σ v0 v1 v2 v3 v4 = some r) : az_AC l yX0_lay cX0_lay 15 (some .int) d [(2, v0), (9, v1), (0, v2), (0, v3), (0, v4)] σ (some (0, r.1), r.2) := az_AC.of mt_X0_lay rfl rfl rfl (fun Z hZ C => A_X0_lay_e C hD n h)
theorem dX0_isVariable_0 : decode cX0_isVariable 0 = .ok (.aload_n 0, 1) := by decide +kernel
theorem dX0_isVariable_1 : decode cX0_isVariable 1 = .ok (.getfield 15, 3) := by decide +kernel
theorem dX0_isVariable_4 : decode cX0_isVariable 4 = .ok (.iload_n 1, 1) := by decide +kernel
theorem dX0_isVariable_5 : decode cX0_isVariable 5 = .ok (.iaload, 1) := by decide +kernel
theorem dX0_isVariable_6 : decode cX0_isVariable 6 = .ok (.ifCond .lt 15, 3) := by decide +kernel
theorem dX0_isVariable_9 : decode cX0_isVariable 9 = .ok (.aload_n 0, 1) := by decide +kernel
theorem dX0_isVariable_10 : decode cX0_isVariable 10 = .ok (.getfield 15, 3) := by decide +kernel
theorem dX0_isVariable_13 : decode cX0_isVariable 13 = .ok (.iload_n 1, 1) := by decide +kernel
theorem dX0_isVariable_14 : decode cX0_isVariable 14 = .ok (.iaload, 1) := by decide +kernel
theorem dX0_isVariable_15 : decode cX0_isVariable 15 = .ok (.iconst 3, 1) := by decide +kernel
theorem dX0_isVariable_16 : decode cX0_isVariable 16 = .ok (.iand, 1) := by decide +kernel
theorem dX0_isVariable_17 : decode cX0_isVariable 17 = .ok (.iconst 3, 1) := by decide +kernel
theorem dX0_isVariable_18 : decode cX0_isVariable 18 = .ok (.if_icmp .ne 7, 3) := by decide +kernel
theorem dX0_isVariable_21 : decode cX0_isVariable 21 = .ok (.iconst 1, 1) := by decide +kernel
theorem dX0_isVariable_22 : decode cX0_isVariable 22 = .ok (.goto 4, 3) := by decide +kernel
theorem dX0_isVariable_25 : decode cX0_isVariable 25 = .ok (.iconst 0, 1) := by decide +kernel
theorem dX0_isVariable_26 : decode cX0_isVariable 26 = .ok (.ireturn, 1) := by decide +kernel
set_option maxRecDepth 10000 in
set_option maxHeartbeats 4000000 in
theorem A_X0_isVariable_e {Z : az_Z} {d : Nat} (C : az_C Z yX0_isVariable cX0_isVariable 2 (some .boolean) d) (hD : 1 ≤ d) {σ : az_Hp} {v0 v1 : Int} {r : Int} (h : fz_X0_isVariable σ v0 v1 = some r) : az_AW Z 2 0 [(2, v0), (0, v1)] [] σ (some (0, r), σ) := by
  have hd1 : 1 ≤ d := by omega
  unfold fz_X0_isVariable at h
  refine az_al0 (pc := 0) C rfl rfl dX0_isVariable_0 ?_
  refine az_getR (pc := 1) (c2 := 13) C h fl_X0_15 rfl rfl dX0_isVariable_1 (fun h => ?_)
  refine az_il1 (pc := 4) C dX0_isVariable_4 ?_
  refine az_iaload (pc := 5) C h dX0_isVariable_5 (fun h => ?_)
  refine az_if_lt (pc := 6) (tgt := 21) C h dX0_isVariable_6 (by decide) (fun _ h => ?_) (fun _ h => ?_)
  · refine az_ik1 (pc := 21) C dX0_isVariable_21 ?_
    refine az_goto (pc := 22) (tgt := 26) C dX0_isVariable_22 (by decide) ?_
    obtain rfl := Option.some.inj h
    exact az_zreturn (pc := 26) C (by decide) dX0_isVariable_26 rfl
  refine az_al0 (pc := 9) C rfl rfl dX0_isVariable_9 ?_
  refine az_getR (pc := 10) (c2 := 13) C h fl_X0_15 rfl rfl dX0_isVariable_10 (fun h => ?_)
  refine az_il1 (pc := 13) C dX0_isVariable_13 ?_
  refine az_iaload (pc := 14) C h dX0_isVariable_14 (fun h => ?_)
  refine az_ik3 (pc := 15) C dX0_isVariable_15 ?_
  refine az_iand (pc := 16) C dX0_isVariable_16 ?_
  refine az_ik3 (pc := 17) C dX0_isVariable_17 ?_
  refine az_icmp_ne (pc := 18) (tgt := 25) C h dX0_isVariable_18 (by decide) (fun _ h => ?_) (fun _ h => ?_)
  · refine az_ik0 (pc := 25) C dX0_isVariable_25 ?_
    obtain rfl := Option.some.inj h
    exact az_zreturn (pc := 26) C (by decide) dX0_isVariable_26 rfl
  refine az_ik1 (pc := 21) C dX0_isVariable_21 ?_
  refine az_goto (pc := 22) (tgt := 26) C dX0_isVariable_22 (by decide) ?_
  obtain rfl := Option.some.inj h
  exact az_zreturn (pc := 26) C (by decide) dX0_isVariable_26 rfl
set_option maxRecDepth 10000 in
set_option maxHeartbeats 4000000 in
theorem A_X0_isVariable {l : Launch} {d : Nat} (hD : 1 ≤ d) {σ : az_Hp} {v0 v1 : Int} {r : Int} (h : fz_X0_isVariable σ v0 v1 = some r) : az_AC l yX0_isVariable cX0_isVariable 2 (some .boolean) d [(2, v0), (0, v1)] σ (some (0, r), σ) := az_AC.of mt_X0_isVariable rfl rfl rfl (fun Z hZ C => A_X0_isVariable_e C hD h)
theorem dX0_top_0 : decode cX0_top 0 = .ok (.iload_n 1, 1) := by decide +kernel
theorem dX0_top_1 : decode cX0_top 1 = .ok (.istore_n 2, 1) := by decide +kernel
theorem dX0_top_2 : decode cX0_top 2 = .ok (.iconst 0, 1) := by decide +kernel
theorem dX0_top_3 : decode cX0_top 3 = .ok (.istore_n 3, 1) := by decide +kernel
theorem dX0_top_4 : decode cX0_top 4 = .ok (.iload_n 3, 1) := by decide +kernel
theorem dX0_top_5 : decode cX0_top 5 = .ok (.sipush 128, 3) := by decide +kernel
theorem dX0_top_8 : decode cX0_top 8 = .ok (.if_icmp .ge 26, 3) := by decide +kernel
theorem dX0_top_11 : decode cX0_top 11 = .ok (.aload_n 0, 1) := by decide +kernel
theorem dX0_top_12 : decode cX0_top 12 = .ok (.getfield 25, 3) := by decide +kernel
theorem dX0_top_15 : decode cX0_top 15 = .ok (.iload_n 2, 1) := by decide +kernel
theorem dX0_top_16 : decode cX0_top 16 = .ok (.iaload, 1) := by decide +kernel
theorem dX0_top_17 : decode cX0_top 17 = .ok (.iload_n 2, 1) := by decide +kernel
theorem dX0_top_18 : decode cX0_top 18 = .ok (.if_icmp .eq 16, 3) := by decide +kernel
theorem dX0_top_21 : decode cX0_top 21 = .ok (.aload_n 0, 1) := by decide +kernel
theorem dX0_top_22 : decode cX0_top 22 = .ok (.getfield 25, 3) := by decide +kernel
theorem dX0_top_25 : decode cX0_top 25 = .ok (.iload_n 2, 1) := by decide +kernel
theorem dX0_top_26 : decode cX0_top 26 = .ok (.iaload, 1) := by decide +kernel
theorem dX0_top_27 : decode cX0_top 27 = .ok (.istore_n 2, 1) := by decide +kernel
theorem dX0_top_28 : decode cX0_top 28 = .ok (.iinc 3 1, 3) := by decide +kernel
theorem dX0_top_31 : decode cX0_top 31 = .ok (.goto (-27), 3) := by decide +kernel
theorem dX0_top_34 : decode cX0_top 34 = .ok (.iload_n 2, 1) := by decide +kernel
theorem dX0_top_35 : decode cX0_top 35 = .ok (.ireturn, 1) := by decide +kernel
set_option maxRecDepth 10000 in
set_option maxHeartbeats 4000000 in
theorem A_X0_top_4 {Z : az_Z} {d : Nat} (C : az_C Z yX0_top cX0_top 4 (some .int) d) (hD : 1 ≤ d) (n : Nat) (k : Nat) : ∀ {σ : az_Hp} {v0 v2 v3 : Int} {r : Int}, fz_X0_top_4 n k σ v0 v2 v3 = some r → az_AW Z 4 4 [(2, v0), (31, 0), (0, v2), (0, v3)] [] σ (some (0, r), σ) := by
  have hd1 : 1 ≤ d := by omega
  induction k with
  | zero => intro σ v0 v2 v3 r h; simp [fz_X0_top_4] at h
  | succ k ih =>
    intro σ v0 v2 v3 r h
    unfold fz_X0_top_4 at h
    refine az_il3 (pc := 4) C dX0_top_4 ?_
    refine az_sk128 (pc := 5) C dX0_top_5 ?_
    refine az_icmp_ge (pc := 8) (tgt := 34) C h dX0_top_8 (by decide) (fun _ h => ?_) (fun _ h => ?_)
    · refine az_il2 (pc := 34) C dX0_top_34 ?_
      obtain rfl := Option.some.inj h
      exact az_ireturn (pc := 35) C dX0_top_35 rfl
    refine az_al0 (pc := 11) C rfl rfl dX0_top_11 ?_
    refine az_getR (pc := 12) (c2 := 13) C h fl_X0_25 rfl rfl dX0_top_12 (fun h => ?_)
    refine az_il2 (pc := 15) C dX0_top_15 ?_
    refine az_iaload (pc := 16) C h dX0_top_16 (fun h => ?_)
    refine az_il2 (pc := 17) C dX0_top_17 ?_
    refine az_icmp_eq (pc := 18) (tgt := 34) C h dX0_top_18 (by decide) (fun _ h => ?_) (fun _ h => ?_)
    · refine az_il2 (pc := 34) C dX0_top_34 ?_
      obtain rfl := Option.some.inj h
      exact az_ireturn (pc := 35) C dX0_top_35 rfl
    refine az_al0 (pc := 21) C rfl rfl dX0_top_21 ?_
    refine az_getR (pc := 22) (c2 := 13) C h fl_X0_25 rfl rfl dX0_top_22 (fun h => ?_)
    refine az_il2 (pc := 25) C dX0_top_25 ?_
    refine az_iaload (pc := 26) C h dX0_top_26 (fun h => ?_)
    refine az_is2 (pc := 27) C rfl rfl dX0_top_27 ?_
    refine az_ii3 (pc := 28) C az_n1 rfl rfl dX0_top_28 ?_
    refine az_goto (pc := 31) (tgt := 4) C dX0_top_31 (by decide) ?_
    exact (ih h)
set_option maxRecDepth 10000 in
set_option maxHeartbeats 4000000 in
theorem A_X0_top_e {Z : az_Z} {d : Nat} (C : az_C Z yX0_top cX0_top 4 (some .int) d) (hD : 1 ≤ d) (n : Nat) {σ : az_Hp} {v0 v1 : Int} {r : Int} (h : fz_X0_top n σ v0 v1 = some r) : az_AW Z 4 0 [(2, v0), (0, v1), (31, 0), (31, 0)] [] σ (some (0, r), σ) := by
  have hd1 : 1 ≤ d := by omega
  unfold fz_X0_top at h
  refine az_il1 (pc := 0) C dX0_top_0 ?_
  refine az_is2 (pc := 1) C rfl rfl dX0_top_1 ?_
  refine az_ik0 (pc := 2) C dX0_top_2 ?_
  refine az_is3 (pc := 3) C rfl rfl dX0_top_3 ?_
  exact (az_wkk (A_X0_top_4 C hD n n h) (az_sE (az_sJ (az_sE (az_sE az_sN)))))
set_option maxRecDepth 10000 in
set_option maxHeartbeats 4000000 in
theorem A_X0_top {l : Launch} {d : Nat} (hD : 1 ≤ d) (n : Nat) {σ : az_Hp} {v0 v1 : Int} {r : Int} (h : fz_X0_top n σ v0 v1 = some r) : az_AC l yX0_top cX0_top 4 (some .int) d [(2, v0), (0, v1)] σ (some (0, r), σ) := az_AC.of mt_X0_top rfl rfl rfl (fun Z hZ C => A_X0_top_e C hD n h)
