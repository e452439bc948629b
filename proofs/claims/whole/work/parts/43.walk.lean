theorem dX11_known_0 : decode cX11_known 0 = .ok (.iconst 0, 1) := by decide +kernel
theorem dX11_known_1 : decode cX11_known 1 = .ok (.istore_n 1, 1) := by decide +kernel
theorem dX11_known_2 : decode cX11_known 2 = .ok (.iconst 0, 1) := by decide +kernel
theorem dX11_known_3 : decode cX11_known 3 = .ok (.istore_n 2, 1) := by decide +kernel
theorem dX11_known_4 : decode cX11_known 4 = .ok (.iload_n 2, 1) := by decide +kernel
theorem dX11_known_5 : decode cX11_known 5 = .ok (.aload_n 0, 1) := by decide +kernel
theorem dX11_known_6 : decode cX11_known 6 = .ok (.getfield 395, 3) := by decide +kernel
theorem dX11_known_9 : decode cX11_known 9 = .ok (.if_icmp .ge 28, 3) := by decide +kernel
theorem dX11_known_12 : decode cX11_known 12 = .ok (.iload_n 1, 1) := by decide +kernel
theorem dX11_known_13 : decode cX11_known 13 = .ok (.aload_n 0, 1) := by decide +kernel
theorem dX11_known_14 : decode cX11_known 14 = .ok (.getfield 201, 3) := by decide +kernel
theorem dX11_known_17 : decode cX11_known 17 = .ok (.iload_n 2, 1) := by decide +kernel
theorem dX11_known_18 : decode cX11_known 18 = .ok (.iaload, 1) := by decide +kernel
theorem dX11_known_19 : decode cX11_known 19 = .ok (.ifCond .le 9, 3) := by decide +kernel
theorem dX11_known_22 : decode cX11_known 22 = .ok (.iconst 1, 1) := by decide +kernel
theorem dX11_known_23 : decode cX11_known 23 = .ok (.iload_n 2, 1) := by decide +kernel
theorem dX11_known_24 : decode cX11_known 24 = .ok (.ishl, 1) := by decide +kernel
theorem dX11_known_25 : decode cX11_known 25 = .ok (.goto 4, 3) := by decide +kernel
theorem dX11_known_28 : decode cX11_known 28 = .ok (.iconst 0, 1) := by decide +kernel
theorem dX11_known_29 : decode cX11_known 29 = .ok (.ior, 1) := by decide +kernel
theorem dX11_known_30 : decode cX11_known 30 = .ok (.istore_n 1, 1) := by decide +kernel
theorem dX11_known_31 : decode cX11_known 31 = .ok (.iinc 2 1, 3) := by decide +kernel
theorem dX11_known_34 : decode cX11_known 34 = .ok (.goto (-30), 3) := by decide +kernel
theorem dX11_known_37 : decode cX11_known 37 = .ok (.iload_n 1, 1) := by decide +kernel
theorem dX11_known_38 : decode cX11_known 38 = .ok (.ireturn, 1) := by decide +kernel
set_option maxRecDepth 10000 in
set_option maxHeartbeats 4000000 in
theorem A_X11_known_4 {Z : az_Z} {d : Nat} (C : az_C Z yX11_known cX11_known 3 (some .int) d) (hD : 1 ≤ d) (n : Nat) (k : Nat) : ∀ {σ : az_Hp} {v0 v1 v2 : Int} {r : Int}, fz_X11_known_4 n k σ v0 v1 v2 = some r → az_AW Z 3 4 [(13, v0), (0, v1), (0, v2)] [] σ (some (0, r), σ) := by
  have hd1 : 1 ≤ d := by omega
  induction k with
  | zero => intro σ v0 v1 v2 r h; simp [fz_X11_known_4] at h
  | succ k ih =>
    intro σ v0 v1 v2 r h
    unfold fz_X11_known_4 at h
    refine az_il2 (pc := 4) C dX11_known_4 ?_
    refine az_al0 (pc := 5) C rfl rfl dX11_known_5 ?_
    refine az_getI (pc := 6) C fl_X11_395 rfl dX11_known_6 ?_
    refine az_icmp_ge (pc := 9) (tgt := 37) C h dX11_known_9 (by decide) (fun _ h => ?_) (fun _ h => ?_)
    · refine az_il1 (pc := 37) C dX11_known_37 ?_
      obtain rfl := Option.some.inj h
      exact az_ireturn (pc := 38) C dX11_known_38 rfl
    refine az_il1 (pc := 12) C dX11_known_12 ?_
    refine az_al0 (pc := 13) C rfl rfl dX11_known_13 ?_
    refine az_getR (pc := 14) (c2 := 13) C h fl_X11_201 rfl rfl dX11_known_14 (fun h => ?_)
    refine az_il2 (pc := 17) C dX11_known_17 ?_
    refine az_iaload (pc := 18) C h dX11_known_18 (fun h => ?_)
    refine az_if_le (pc := 19) (tgt := 28) C h dX11_known_19 (by decide) (fun _ h => ?_) (fun _ h => ?_)
    · refine az_ik0 (pc := 28) C dX11_known_28 ?_
      refine az_ior (pc := 29) C dX11_known_29 ?_
      refine az_is1 (pc := 30) C rfl rfl dX11_known_30 ?_
      refine az_ii2 (pc := 31) C az_n1 rfl rfl dX11_known_31 ?_
      refine az_goto (pc := 34) (tgt := 4) C dX11_known_34 (by decide) ?_
      exact (ih h)
    refine az_ik1 (pc := 22) C dX11_known_22 ?_
    refine az_il2 (pc := 23) C dX11_known_23 ?_
    refine az_ishl (pc := 24) C dX11_known_24 ?_
    refine az_goto (pc := 25) (tgt := 29) C dX11_known_25 (by decide) ?_
    refine az_ior (pc := 29) C dX11_known_29 ?_
    refine az_is1 (pc := 30) C rfl rfl dX11_known_30 ?_
    refine az_ii2 (pc := 31) C az_n1 rfl rfl dX11_known_31 ?_
    refine az_goto (pc := 34) (tgt := 4) C dX11_known_34 (by decide) ?_
    exact (ih h)
set_option maxRecDepth 10000 in
set_option maxHeartbeats 4000000 in
theorem A_X11_known_e {Z : az_Z} {d : Nat} (C : az_C Z yX11_known cX11_known 3 (some .int) d) (hD : 1 ≤ d) (n : Nat) {σ : az_Hp} {v0 : Int} {r : Int} (h : fz_X11_known n σ v0 = some r) : az_AW Z 3 0 [(13, v0), (31, 0), (31, 0)] [] σ (some (0, r), σ) := by
  have hd1 : 1 ≤ d := by omega
  unfold fz_X11_known at h
  refine az_ik0 (pc := 0) C dX11_known_0 ?_
  refine az_is1 (pc := 1) C rfl rfl dX11_known_1 ?_
  refine az_ik0 (pc := 2) C dX11_known_2 ?_
  refine az_is2 (pc := 3) C rfl rfl dX11_known_3 ?_
  exact (A_X11_known_4 C hD n n h)
set_option maxRecDepth 10000 in
set_option maxHeartbeats 4000000 in
theorem A_X11_known {l : Launch} {d : Nat} (hD : 1 ≤ d) (n : Nat) {σ : az_Hp} {v0 : Int} {r : Int} (h : fz_X11_known n σ v0 = some r) : az_AC l yX11_known cX11_known 3 (some .int) d [(13, v0)] σ (some (0, r), σ) := az_AC.of mt_X11_known rfl rfl rfl (fun Z hZ C => A_X11_known_e C hD n h)
theorem dX11_wanted_0 : decode cX11_wanted 0 = .ok (.iload_n 1, 1) := by decide +kernel
theorem dX11_wanted_1 : decode cX11_wanted 1 = .ok (.iconst 0, 1) := by decide +kernel
theorem dX11_wanted_2 : decode cX11_wanted 2 = .ok (.iconst 5, 1) := by decide +kernel
theorem dX11_wanted_3 : decode cX11_wanted 3 = .ok (.invokestatic 354, 3) := by decide +kernel
theorem dX11_wanted_6 : decode cX11_wanted 6 = .ok (.ifCond .ne 9, 3) := by decide +kernel
theorem dX11_wanted_9 : decode cX11_wanted 9 = .ok (.aload_n 0, 1) := by decide +kernel
theorem dX11_wanted_10 : decode cX11_wanted 10 = .ok (.iconst 1, 1) := by decide +kernel
theorem dX11_wanted_11 : decode cX11_wanted 11 = .ok (.invokevirtual 372, 3) := by decide +kernel
theorem dX11_wanted_14 : decode cX11_wanted 14 = .ok (.ireturn, 1) := by decide +kernel
theorem dX11_wanted_15 : decode cX11_wanted 15 = .ok (.aload_n 0, 1) := by decide +kernel
theorem dX11_wanted_16 : decode cX11_wanted 16 = .ok (.getfield 391, 3) := by decide +kernel
theorem dX11_wanted_19 : decode cX11_wanted 19 = .ok (.ifCond .ne 9, 3) := by decide +kernel
theorem dX11_wanted_22 : decode cX11_wanted 22 = .ok (.aload_n 0, 1) := by decide +kernel
theorem dX11_wanted_23 : decode cX11_wanted 23 = .ok (.iconst 5, 1) := by decide +kernel
theorem dX11_wanted_24 : decode cX11_wanted 24 = .ok (.invokevirtual 372, 3) := by decide +kernel
theorem dX11_wanted_27 : decode cX11_wanted 27 = .ok (.ireturn, 1) := by decide +kernel
theorem dX11_wanted_28 : decode cX11_wanted 28 = .ok (.iload_n 1, 1) := by decide +kernel
theorem dX11_wanted_29 : decode cX11_wanted 29 = .ok (.tableswitch 80 0 4 #[35, 44, 53, 62, 71], 35) := by decide +kernel
theorem dX11_wanted_64 : decode cX11_wanted 64 = .ok (.aload_n 0, 1) := by decide +kernel
theorem dX11_wanted_65 : decode cX11_wanted 65 = .ok (.aload_n 0, 1) := by decide +kernel
theorem dX11_wanted_66 : decode cX11_wanted 66 = .ok (.getfield 676, 3) := by decide +kernel
theorem dX11_wanted_69 : decode cX11_wanted 69 = .ok (.invokevirtual 401, 3) := by decide +kernel
theorem dX11_wanted_72 : decode cX11_wanted 72 = .ok (.ireturn, 1) := by decide +kernel
theorem dX11_wanted_73 : decode cX11_wanted 73 = .ok (.aload_n 0, 1) := by decide +kernel
theorem dX11_wanted_74 : decode cX11_wanted 74 = .ok (.aload_n 0, 1) := by decide +kernel
theorem dX11_wanted_75 : decode cX11_wanted 75 = .ok (.getfield 718, 3) := by decide +kernel
theorem dX11_wanted_78 : decode cX11_wanted 78 = .ok (.invokevirtual 401, 3) := by decide +kernel
theorem dX11_wanted_81 : decode cX11_wanted 81 = .ok (.ireturn, 1) := by decide +kernel
theorem dX11_wanted_82 : decode cX11_wanted 82 = .ok (.aload_n 0, 1) := by decide +kernel
theorem dX11_wanted_83 : decode cX11_wanted 83 = .ok (.aload_n 0, 1) := by decide +kernel
theorem dX11_wanted_84 : decode cX11_wanted 84 = .ok (.getfield 721, 3) := by decide +kernel
theorem dX11_wanted_87 : decode cX11_wanted 87 = .ok (.invokevirtual 401, 3) := by decide +kernel
theorem dX11_wanted_90 : decode cX11_wanted 90 = .ok (.ireturn, 1) := by decide +kernel
theorem dX11_wanted_91 : decode cX11_wanted 91 = .ok (.aload_n 0, 1) := by decide +kernel
theorem dX11_wanted_92 : decode cX11_wanted 92 = .ok (.aload_n 0, 1) := by decide +kernel
theorem dX11_wanted_93 : decode cX11_wanted 93 = .ok (.getfield 724, 3) := by decide +kernel
theorem dX11_wanted_96 : decode cX11_wanted 96 = .ok (.invokevirtual 401, 3) := by decide +kernel
theorem dX11_wanted_99 : decode cX11_wanted 99 = .ok (.ireturn, 1) := by decide +kernel
theorem dX11_wanted_100 : decode cX11_wanted 100 = .ok (.aload_n 0, 1) := by decide +kernel
theorem dX11_wanted_101 : decode cX11_wanted 101 = .ok (.aload_n 0, 1) := by decide +kernel
theorem dX11_wanted_102 : decode cX11_wanted 102 = .ok (.getfield 395, 3) := by decide +kernel
theorem dX11_wanted_105 : decode cX11_wanted 105 = .ok (.invokevirtual 401, 3) := by decide +kernel
theorem dX11_wanted_108 : decode cX11_wanted 108 = .ok (.ireturn, 1) := by decide +kernel
theorem dX11_wanted_109 : decode cX11_wanted 109 = .ok (.aload_n 0, 1) := by decide +kernel
theorem dX11_wanted_110 : decode cX11_wanted 110 = .ok (.aload_n 0, 1) := by decide +kernel
theorem dX11_wanted_111 : decode cX11_wanted 111 = .ok (.invokevirtual 736, 3) := by decide +kernel
theorem dX11_wanted_114 : decode cX11_wanted 114 = .ok (.invokevirtual 401, 3) := by decide +kernel
theorem dX11_wanted_117 : decode cX11_wanted 117 = .ok (.ireturn, 1) := by decide +kernel
set_option maxRecDepth 10000 in
set_option maxHeartbeats 4000000 in
theorem A_X11_wanted_e {Z : az_Z} {d : Nat} (C : az_C Z yX11_wanted cX11_wanted 2 (some .int) d) (hD : 2 ≤ d) (n : Nat) {σ : az_Hp} {v0 v1 : Int} {r : (Int × az_Hp)} (h : fz_X11_wanted n σ v0 v1 = some r) : az_AW Z 2 0 [(13, v0), (0, v1)] [] σ (some (0, r.1), r.2) := by
  have hd1 : 1 ≤ d := by omega
  unfold fz_X11_wanted at h
  refine az_il1 (pc := 0) C dX11_wanted_0 ?_
  refine az_ik0 (pc := 1) C dX11_wanted_1 ?_
  refine az_ik5 (pc := 2) C dX11_wanted_2 ?_
  refine az_cS3pi (pc := 3) C hd1 h ms_X11_isFrom ml_X11_354 rfl (fun x hx => A_X11_isFrom (by omega) hx) dX11_wanted_3 (fun r1 h => ?_)
  refine az_if_ne (pc := 6) (tgt := 15) C h dX11_wanted_6 (by decide) (fun _ h => ?_) (fun _ h => ?_)
  · refine az_al0 (pc := 15) C rfl rfl dX11_wanted_15 ?_
    refine az_getI (pc := 16) C fl_X11_391 rfl dX11_wanted_16 ?_
    refine az_if_ne (pc := 19) (tgt := 28) C h dX11_wanted_19 (by decide) (fun _ h => ?_) (fun _ h => ?_)
    · refine az_il1 (pc := 28) C dX11_wanted_28 ?_
      rcases az_ite h with ⟨c0, h⟩ | ⟨c0, h⟩
      · refine az_tswIn (pc := 29) (i := 0) (tgt := 64) C (by exact c0) (by decide) rfl dX11_wanted_29 (by decide) ?_
        refine az_al0 (pc := 64) C rfl rfl dX11_wanted_64 ?_
        refine az_al0 (pc := 65) C rfl rfl dX11_wanted_65 ?_
        refine az_getI (pc := 66) C fl_X11_676 rfl dX11_wanted_66 ?_
        refine az_cV1ii (pc := 69) (c := 11) C hd1 h mv_X11_gives ml_X11_401 rfl (fun x hx => A_X11_gives (by omega) hx) dX11_wanted_69 (fun r2 h => ?_)
        obtain rfl := Option.some.inj h
        exact az_ireturn (pc := 72) C dX11_wanted_72 rfl
      rcases az_ite h with ⟨c1, h⟩ | ⟨c1, h⟩
      · refine az_tswIn (pc := 29) (i := 1) (tgt := 73) C (by exact c1) (by decide) rfl dX11_wanted_29 (by decide) ?_
        refine az_al0 (pc := 73) C rfl rfl dX11_wanted_73 ?_
        refine az_al0 (pc := 74) C rfl rfl dX11_wanted_74 ?_
        refine az_getI (pc := 75) C fl_X11_718 rfl dX11_wanted_75 ?_
        refine az_cV1ii (pc := 78) (c := 11) C hd1 h mv_X11_gives ml_X11_401 rfl (fun x hx => A_X11_gives (by omega) hx) dX11_wanted_78 (fun r3 h => ?_)
        obtain rfl := Option.some.inj h
        exact az_ireturn (pc := 81) C dX11_wanted_81 rfl
      rcases az_ite h with ⟨c2, h⟩ | ⟨c2, h⟩
      · refine az_tswIn (pc := 29) (i := 2) (tgt := 82) C (by exact c2) (by decide) rfl dX11_wanted_29 (by decide) ?_
        refine az_al0 (pc := 82) C rfl rfl dX11_wanted_82 ?_
        refine az_al0 (pc := 83) C rfl rfl dX11_wanted_83 ?_
        refine az_getI (pc := 84) C fl_X11_721 rfl dX11_wanted_84 ?_
        refine az_cV1ii (pc := 87) (c := 11) C hd1 h mv_X11_gives ml_X11_401 rfl (fun x hx => A_X11_gives (by omega) hx) dX11_wanted_87 (fun r4 h => ?_)
        obtain rfl := Option.some.inj h
        exact az_ireturn (pc := 90) C dX11_wanted_90 rfl
      rcases az_ite h with ⟨c3, h⟩ | ⟨c3, h⟩
      · refine az_tswIn (pc := 29) (i := 3) (tgt := 91) C (by exact c3) (by decide) rfl dX11_wanted_29 (by decide) ?_
        refine az_al0 (pc := 91) C rfl rfl dX11_wanted_91 ?_
        refine az_al0 (pc := 92) C rfl rfl dX11_wanted_92 ?_
        refine az_getI (pc := 93) C fl_X11_724 rfl dX11_wanted_93 ?_
        refine az_cV1ii (pc := 96) (c := 11) C hd1 h mv_X11_gives ml_X11_401 rfl (fun x hx => A_X11_gives (by omega) hx) dX11_wanted_96 (fun r5 h => ?_)
        obtain rfl := Option.some.inj h
        exact az_ireturn (pc := 99) C dX11_wanted_99 rfl
      rcases az_ite h with ⟨c4, h⟩ | ⟨c4, h⟩
      · refine az_tswIn (pc := 29) (i := 4) (tgt := 100) C (by exact c4) (by decide) rfl dX11_wanted_29 (by decide) ?_
        refine az_al0 (pc := 100) C rfl rfl dX11_wanted_100 ?_
        refine az_al0 (pc := 101) C rfl rfl dX11_wanted_101 ?_
        refine az_getI (pc := 102) C fl_X11_395 rfl dX11_wanted_102 ?_
        refine az_cV1ii (pc := 105) (c := 11) C hd1 h mv_X11_gives ml_X11_401 rfl (fun x hx => A_X11_gives (by omega) hx) dX11_wanted_105 (fun r6 h => ?_)
        obtain rfl := Option.some.inj h
        exact az_ireturn (pc := 108) C dX11_wanted_108 rfl
      refine az_tswOut (pc := 29) (tgt := 109) C (by omega) dX11_wanted_29 (by decide) ?_
      refine az_al0 (pc := 109) C rfl rfl dX11_wanted_109 ?_
      refine az_al0 (pc := 110) C rfl rfl dX11_wanted_110 ?_
      refine az_cV0pi (pc := 111) (c := 11) C hd1 h mv_X11_known ml_X11_736 rfl (fun x hx => A_X11_known (by omega) n hx) dX11_wanted_111 (fun r7 h => ?_)
      refine az_cV1ii (pc := 114) (c := 11) C hd1 h mv_X11_gives ml_X11_401 rfl (fun x hx => A_X11_gives (by omega) hx) dX11_wanted_114 (fun r8 h => ?_)
      obtain rfl := Option.some.inj h
      exact az_ireturn (pc := 117) C dX11_wanted_117 rfl
    refine az_al0 (pc := 22) C rfl rfl dX11_wanted_22 ?_
    refine az_ik5 (pc := 23) C dX11_wanted_23 ?_
    refine az_cV1ii (pc := 24) (c := 11) C hd1 h mv_X11_refuse ml_X11_372 rfl (fun x hx => A_X11_refuse (by omega) hx) dX11_wanted_24 (fun r9 h => ?_)
    obtain rfl := Option.some.inj h
    exact az_ireturn (pc := 27) C dX11_wanted_27 rfl
  refine az_al0 (pc := 9) C rfl rfl dX11_wanted_9 ?_
  refine az_ik1 (pc := 10) C dX11_wanted_10 ?_
  refine az_cV1ii (pc := 11) (c := 11) C hd1 h mv_X11_refuse ml_X11_372 rfl (fun x hx => A_X11_refuse (by omega) hx) dX11_wanted_11 (fun r10 h => ?_)
  obtain rfl := Option.some.inj h
  exact az_ireturn (pc := 14) C dX11_wanted_14 rfl
set_option maxRecDepth 10000 in
set_option maxHeartbeats 4000000 in
theorem A_X11_wanted {l : Launch} {d : Nat} (hD : 2 ≤ d) (n : Nat) {σ : az_Hp} {v0 v1 : Int} {r : (Int × az_Hp)} (h : fz_X11_wanted n σ v0 v1 = some r) : az_AC l yX11_wanted cX11_wanted 2 (some .int) d [(13, v0), (0, v1)] σ (some (0, r.1), r.2) := az_AC.of mt_X11_wanted rfl rfl rfl (fun Z hZ C => A_X11_wanted_e C hD n h)
theorem dX11_why_0 : decode cX11_why 0 = .ok (.aload_n 0, 1) := by decide +kernel
theorem dX11_why_1 : decode cX11_why 1 = .ok (.getfield 388, 3) := by decide +kernel
theorem dX11_why_4 : decode cX11_why 4 = .ok (.ifCond .ne 9, 3) := by decide +kernel
theorem dX11_why_7 : decode cX11_why 7 = .ok (.aload_n 0, 1) := by decide +kernel
theorem dX11_why_8 : decode cX11_why 8 = .ok (.iconst 3, 1) := by decide +kernel
theorem dX11_why_9 : decode cX11_why 9 = .ok (.invokevirtual 372, 3) := by decide +kernel
theorem dX11_why_12 : decode cX11_why 12 = .ok (.ireturn, 1) := by decide +kernel
theorem dX11_why_13 : decode cX11_why 13 = .ok (.aload_n 0, 1) := by decide +kernel
theorem dX11_why_14 : decode cX11_why 14 = .ok (.iload_n 1, 1) := by decide +kernel
theorem dX11_why_15 : decode cX11_why 15 = .ok (.invokevirtual 642, 3) := by decide +kernel
theorem dX11_why_18 : decode cX11_why 18 = .ok (.ifCond .eq 28, 3) := by decide +kernel
theorem dX11_why_21 : decode cX11_why 21 = .ok (.aload_n 0, 1) := by decide +kernel
theorem dX11_why_22 : decode cX11_why 22 = .ok (.iload_n 2, 1) := by decide +kernel
theorem dX11_why_23 : decode cX11_why 23 = .ok (.invokevirtual 471, 3) := by decide +kernel
theorem dX11_why_26 : decode cX11_why 26 = .ok (.ifCond .eq 20, 3) := by decide +kernel
theorem dX11_why_29 : decode cX11_why 29 = .ok (.aload_n 0, 1) := by decide +kernel
theorem dX11_why_30 : decode cX11_why 30 = .ok (.aload_n 0, 1) := by decide +kernel
theorem dX11_why_31 : decode cX11_why 31 = .ok (.iload_n 2, 1) := by decide +kernel
theorem dX11_why_32 : decode cX11_why 32 = .ok (.aload_n 0, 1) := by decide +kernel
theorem dX11_why_33 : decode cX11_why 33 = .ok (.getfield 138, 3) := by decide +kernel
theorem dX11_why_36 : decode cX11_why 36 = .ok (.iload_n 1, 1) := by decide +kernel
theorem dX11_why_37 : decode cX11_why 37 = .ok (.invokevirtual 580, 3) := by decide +kernel
theorem dX11_why_40 : decode cX11_why 40 = .ok (.invokevirtual 401, 3) := by decide +kernel
theorem dX11_why_43 : decode cX11_why 43 = .ok (.goto 8, 3) := by decide +kernel
theorem dX11_why_46 : decode cX11_why 46 = .ok (.aload_n 0, 1) := by decide +kernel
theorem dX11_why_47 : decode cX11_why 47 = .ok (.iconst 2, 1) := by decide +kernel
theorem dX11_why_48 : decode cX11_why 48 = .ok (.invokevirtual 372, 3) := by decide +kernel
theorem dX11_why_51 : decode cX11_why 51 = .ok (.ireturn, 1) := by decide +kernel
set_option maxRecDepth 10000 in
set_option maxHeartbeats 4000000 in
theorem A_X11_why_e {Z : az_Z} {d : Nat} (C : az_C Z yX11_why cX11_why 3 (some .int) d) (hD : 211 ≤ d) (n : Nat) {σ : az_Hp} {v0 v1 v2 : Int} {r : (Int × az_Hp)} (h : fz_X11_why n σ v0 v1 v2 = some r) : az_AW Z 3 0 [(13, v0), (0, v1), (0, v2)] [] σ (some (0, r.1), r.2) := by
  have hd1 : 1 ≤ d := by omega
  unfold fz_X11_why at h
  refine az_al0 (pc := 0) C rfl rfl dX11_why_0 ?_
  refine az_getI (pc := 1) C fl_X11_388 rfl dX11_why_1 ?_
  refine az_if_ne (pc := 4) (tgt := 13) C h dX11_why_4 (by decide) (fun _ h => ?_) (fun _ h => ?_)
  · refine az_al0 (pc := 13) C rfl rfl dX11_why_13 ?_
    refine az_il1 (pc := 14) C dX11_why_14 ?_
    refine az_cV1pi (pc := 15) (c := 11) C hd1 h mv_X11_isNode ml_X11_642 rfl (fun x hx => A_X11_isNode (by omega) hx) dX11_why_15 (fun r1 h => ?_)
    refine az_if_eq (pc := 18) (tgt := 46) C h dX11_why_18 (by decide) (fun _ h => ?_) (fun _ h => ?_)
    · refine az_al0 (pc := 46) C rfl rfl dX11_why_46 ?_
      refine az_ik2 (pc := 47) C dX11_why_47 ?_
      refine az_cV1ii (pc := 48) (c := 11) C hd1 h mv_X11_refuse ml_X11_372 rfl (fun x hx => A_X11_refuse (by omega) hx) dX11_why_48 (fun r2 h => ?_)
      obtain rfl := Option.some.inj h
      exact az_ireturn (pc := 51) C dX11_why_51 rfl
    refine az_al0 (pc := 21) C rfl rfl dX11_why_21 ?_
    refine az_il2 (pc := 22) C dX11_why_22 ?_
    refine az_cV1pi (pc := 23) (c := 11) C hd1 h mv_X11_isEquation ml_X11_471 rfl (fun x hx => A_X11_isEquation (by omega) hx) dX11_why_23 (fun r3 h => ?_)
    refine az_if_eq (pc := 26) (tgt := 46) C h dX11_why_26 (by decide) (fun _ h => ?_) (fun _ h => ?_)
    · refine az_al0 (pc := 46) C rfl rfl dX11_why_46 ?_
      refine az_ik2 (pc := 47) C dX11_why_47 ?_
      refine az_cV1ii (pc := 48) (c := 11) C hd1 h mv_X11_refuse ml_X11_372 rfl (fun x hx => A_X11_refuse (by omega) hx) dX11_why_48 (fun r4 h => ?_)
      obtain rfl := Option.some.inj h
      exact az_ireturn (pc := 51) C dX11_why_51 rfl
    refine az_al0 (pc := 29) C rfl rfl dX11_why_29 ?_
    refine az_al0 (pc := 30) C rfl rfl dX11_why_30 ?_
    refine az_il2 (pc := 31) C dX11_why_31 ?_
    refine az_al0 (pc := 32) C rfl rfl dX11_why_32 ?_
    refine az_getR (pc := 33) (c2 := 13) C h fl_X11_138 rfl rfl dX11_why_33 (fun h => ?_)
    refine az_il1 (pc := 36) C dX11_why_36 ?_
    refine az_cV3ii (pc := 37) (c := 11) C hd1 h mv_X11_whyNot ml_X11_580 rfl (fun x hx => A_X11_whyNot (by omega) n hx) dX11_why_37 (fun r6 h => ?_)
    refine az_cV1ii (pc := 40) (c := 11) C hd1 h mv_X11_gives ml_X11_401 rfl (fun x hx => A_X11_gives (by omega) hx) dX11_why_40 (fun r7 h => ?_)
    refine az_goto (pc := 43) (tgt := 51) C dX11_why_43 (by decide) ?_
    obtain rfl := Option.some.inj h
    exact az_ireturn (pc := 51) C dX11_why_51 rfl
  refine az_al0 (pc := 7) C rfl rfl dX11_why_7 ?_
  refine az_ik3 (pc := 8) C dX11_why_8 ?_
  refine az_cV1ii (pc := 9) (c := 11) C hd1 h mv_X11_refuse ml_X11_372 rfl (fun x hx => A_X11_refuse (by omega) hx) dX11_why_9 (fun r8 h => ?_)
  obtain rfl := Option.some.inj h
  exact az_ireturn (pc := 12) C dX11_why_12 rfl
set_option maxRecDepth 10000 in
set_option maxHeartbeats 4000000 in
theorem A_X11_why {l : Launch} {d : Nat} (hD : 211 ≤ d) (n : Nat) {σ : az_Hp} {v0 v1 v2 : Int} {r : (Int × az_Hp)} (h : fz_X11_why n σ v0 v1 v2 = some r) : az_AC l yX11_why cX11_why 3 (some .int) d [(13, v0), (0, v1), (0, v2)] σ (some (0, r.1), r.2) := az_AC.of mt_X11_why rfl rfl rfl (fun Z hZ C => A_X11_why_e C hD n h)
theorem dX11_would_0 : decode cX11_would 0 = .ok (.iload_n 1, 1) := by decide +kernel
theorem dX11_would_1 : decode cX11_would 1 = .ok (.iconst 0, 1) := by decide +kernel
theorem dX11_would_2 : decode cX11_would 2 = .ok (.iconst 1, 1) := by decide +kernel
theorem dX11_would_3 : decode cX11_would 3 = .ok (.invokestatic 354, 3) := by decide +kernel
theorem dX11_would_6 : decode cX11_would 6 = .ok (.ifCond .eq 12, 3) := by decide +kernel
theorem dX11_would_9 : decode cX11_would 9 = .ok (.iload_n 2, 1) := by decide +kernel
theorem dX11_would_10 : decode cX11_would 10 = .ok (.iconst 0, 1) := by decide +kernel
theorem dX11_would_11 : decode cX11_would 11 = .ok (.iconst 1, 1) := by decide +kernel
theorem dX11_would_12 : decode cX11_would 12 = .ok (.invokestatic 354, 3) := by decide +kernel
theorem dX11_would_15 : decode cX11_would 15 = .ok (.ifCond .ne 9, 3) := by decide +kernel
theorem dX11_would_18 : decode cX11_would 18 = .ok (.aload_n 0, 1) := by decide +kernel
theorem dX11_would_19 : decode cX11_would 19 = .ok (.iconst 1, 1) := by decide +kernel
theorem dX11_would_20 : decode cX11_would 20 = .ok (.invokevirtual 372, 3) := by decide +kernel
theorem dX11_would_23 : decode cX11_would 23 = .ok (.ireturn, 1) := by decide +kernel
theorem dX11_would_24 : decode cX11_would 24 = .ok (.aload_n 0, 1) := by decide +kernel
theorem dX11_would_25 : decode cX11_would 25 = .ok (.getfield 388, 3) := by decide +kernel
theorem dX11_would_28 : decode cX11_would 28 = .ok (.ifCond .ne 9, 3) := by decide +kernel
theorem dX11_would_31 : decode cX11_would 31 = .ok (.aload_n 0, 1) := by decide +kernel
theorem dX11_would_32 : decode cX11_would 32 = .ok (.iconst 3, 1) := by decide +kernel
theorem dX11_would_33 : decode cX11_would 33 = .ok (.invokevirtual 372, 3) := by decide +kernel
theorem dX11_would_36 : decode cX11_would 36 = .ok (.ireturn, 1) := by decide +kernel
theorem dX11_would_37 : decode cX11_would 37 = .ok (.aload_n 0, 1) := by decide +kernel
theorem dX11_would_38 : decode cX11_would 38 = .ok (.invokevirtual 648, 3) := by decide +kernel
theorem dX11_would_41 : decode cX11_would 41 = .ok (.aload_n 0, 1) := by decide +kernel
theorem dX11_would_42 : decode cX11_would 42 = .ok (.iload_n 2, 1) := by decide +kernel
theorem dX11_would_43 : decode cX11_would 43 = .ok (.ifCond .ne 7, 3) := by decide +kernel
theorem dX11_would_46 : decode cX11_would 46 = .ok (.iload_n 1, 1) := by decide +kernel
theorem dX11_would_47 : decode cX11_would 47 = .ok (.goto 4, 3) := by decide +kernel
theorem dX11_would_50 : decode cX11_would 50 = .ok (.iconst 0, 1) := by decide +kernel
theorem dX11_would_51 : decode cX11_would 51 = .ok (.invokevirtual 654, 3) := by decide +kernel
theorem dX11_would_54 : decode cX11_would 54 = .ok (.istore_n 3, 1) := by decide +kernel
theorem dX11_would_55 : decode cX11_would 55 = .ok (.iload_n 2, 1) := by decide +kernel
theorem dX11_would_56 : decode cX11_would 56 = .ok (.ifCond .ne 24, 3) := by decide +kernel
theorem dX11_would_59 : decode cX11_would 59 = .ok (.iload_n 3, 1) := by decide +kernel
theorem dX11_would_60 : decode cX11_would 60 = .ok (.ifCond .ne 14, 3) := by decide +kernel
theorem dX11_would_63 : decode cX11_would 63 = .ok (.aload_n 0, 1) := by decide +kernel
theorem dX11_would_64 : decode cX11_would 64 = .ok (.aload_n 0, 1) := by decide +kernel
theorem dX11_would_65 : decode cX11_would 65 = .ok (.getfield 624, 3) := by decide +kernel
theorem dX11_would_68 : decode cX11_would 68 = .ok (.invokevirtual 401, 3) := by decide +kernel
theorem dX11_would_71 : decode cX11_would 71 = .ok (.goto 8, 3) := by decide +kernel
theorem dX11_would_74 : decode cX11_would 74 = .ok (.aload_n 0, 1) := by decide +kernel
theorem dX11_would_75 : decode cX11_would 75 = .ok (.iload_n 3, 1) := by decide +kernel
theorem dX11_would_76 : decode cX11_would 76 = .ok (.invokevirtual 372, 3) := by decide +kernel
theorem dX11_would_79 : decode cX11_would 79 = .ok (.ireturn, 1) := by decide +kernel
theorem dX11_would_80 : decode cX11_would 80 = .ok (.aload_n 0, 1) := by decide +kernel
theorem dX11_would_81 : decode cX11_would 81 = .ok (.getfield 601, 3) := by decide +kernel
theorem dX11_would_84 : decode cX11_would 84 = .ok (.istore 4, 2) := by decide +kernel
theorem dX11_would_86 : decode cX11_would 86 = .ok (.iconst 0, 1) := by decide +kernel
theorem dX11_would_87 : decode cX11_would 87 = .ok (.istore 5, 2) := by decide +kernel
theorem dX11_would_89 : decode cX11_would 89 = .ok (.iload 5, 2) := by decide +kernel
theorem dX11_would_91 : decode cX11_would 91 = .ok (.iload 4, 2) := by decide +kernel
theorem dX11_would_93 : decode cX11_would 93 = .ok (.if_icmp .ge 23, 3) := by decide +kernel
theorem dX11_would_96 : decode cX11_would 96 = .ok (.aload_n 0, 1) := by decide +kernel
theorem dX11_would_97 : decode cX11_would 97 = .ok (.getfield 147, 3) := by decide +kernel
theorem dX11_would_100 : decode cX11_would 100 = .ok (.iload 5, 2) := by decide +kernel
theorem dX11_would_102 : decode cX11_would 102 = .ok (.aload_n 0, 1) := by decide +kernel
theorem dX11_would_103 : decode cX11_would 103 = .ok (.getfield 126, 3) := by decide +kernel
theorem dX11_would_106 : decode cX11_would 106 = .ok (.iload 5, 2) := by decide +kernel
theorem dX11_would_108 : decode cX11_would 108 = .ok (.iaload, 1) := by decide +kernel
theorem dX11_would_109 : decode cX11_would 109 = .ok (.iastore, 1) := by decide +kernel
theorem dX11_would_110 : decode cX11_would 110 = .ok (.iinc 5 1, 3) := by decide +kernel
theorem dX11_would_113 : decode cX11_would 113 = .ok (.goto (-24), 3) := by decide +kernel
theorem dX11_would_116 : decode cX11_would 116 = .ok (.aload_n 0, 1) := by decide +kernel
theorem dX11_would_117 : decode cX11_would 117 = .ok (.invokevirtual 648, 3) := by decide +kernel
theorem dX11_would_120 : decode cX11_would 120 = .ok (.aload_n 0, 1) := by decide +kernel
theorem dX11_would_121 : decode cX11_would 121 = .ok (.iconst 1, 1) := by decide +kernel
theorem dX11_would_122 : decode cX11_would 122 = .ok (.invokevirtual 654, 3) := by decide +kernel
theorem dX11_would_125 : decode cX11_would 125 = .ok (.istore 5, 2) := by decide +kernel
theorem dX11_would_127 : decode cX11_would 127 = .ok (.iload_n 3, 1) := by decide +kernel
theorem dX11_would_128 : decode cX11_would 128 = .ok (.ifCond .gt 8, 3) := by decide +kernel
theorem dX11_would_131 : decode cX11_would 131 = .ok (.iload 5, 2) := by decide +kernel
theorem dX11_would_133 : decode cX11_would 133 = .ok (.ifCond .le 9, 3) := by decide +kernel
theorem dX11_would_136 : decode cX11_would 136 = .ok (.aload_n 0, 1) := by decide +kernel
theorem dX11_would_137 : decode cX11_would 137 = .ok (.iconst 0, 1) := by decide +kernel
theorem dX11_would_138 : decode cX11_would 138 = .ok (.invokevirtual 401, 3) := by decide +kernel
theorem dX11_would_141 : decode cX11_would 141 = .ok (.ireturn, 1) := by decide +kernel
theorem dX11_would_142 : decode cX11_would 142 = .ok (.aload_n 0, 1) := by decide +kernel
theorem dX11_would_143 : decode cX11_would 143 = .ok (.iload 4, 2) := by decide +kernel
theorem dX11_would_145 : decode cX11_would 145 = .ok (.aload_n 0, 1) := by decide +kernel
theorem dX11_would_146 : decode cX11_would 146 = .ok (.getfield 601, 3) := by decide +kernel
theorem dX11_would_149 : decode cX11_would 149 = .ok (.if_icmp .ne 25, 3) := by decide +kernel
theorem dX11_would_152 : decode cX11_would 152 = .ok (.aload_n 0, 1) := by decide +kernel
theorem dX11_would_153 : decode cX11_would 153 = .ok (.getfield 147, 3) := by decide +kernel
theorem dX11_would_156 : decode cX11_would 156 = .ok (.iconst 0, 1) := by decide +kernel
theorem dX11_would_157 : decode cX11_would 157 = .ok (.aload_n 0, 1) := by decide +kernel
theorem dX11_would_158 : decode cX11_would 158 = .ok (.getfield 126, 3) := by decide +kernel
theorem dX11_would_161 : decode cX11_would 161 = .ok (.iconst 0, 1) := by decide +kernel
theorem dX11_would_162 : decode cX11_would 162 = .ok (.iload 4, 2) := by decide +kernel
theorem dX11_would_164 : decode cX11_would 164 = .ok (.invokestatic 420, 3) := by decide +kernel
theorem dX11_would_167 : decode cX11_would 167 = .ok (.ifCond .eq 7, 3) := by decide +kernel
theorem dX11_would_170 : decode cX11_would 170 = .ok (.iconst 1, 1) := by decide +kernel
theorem dX11_would_171 : decode cX11_would 171 = .ok (.goto 4, 3) := by decide +kernel
theorem dX11_would_174 : decode cX11_would 174 = .ok (.iconst 2, 1) := by decide +kernel
theorem dX11_would_175 : decode cX11_would 175 = .ok (.invokevirtual 401, 3) := by decide +kernel
theorem dX11_would_178 : decode cX11_would 178 = .ok (.ireturn, 1) := by decide +kernel
set_option maxRecDepth 10000 in
set_option maxHeartbeats 4000000 in
theorem A_X11_would_89 {Z : az_Z} {d : Nat} (C : az_C Z yX11_would cX11_would 6 (some .int) d) (hD : 416 ≤ d) (n : Nat) (k : Nat) : ∀ {σ : az_Hp} {v0 v3 v4 v5 : Int} {r : (Int × az_Hp)}, fz_X11_would_89 n k σ v0 v3 v4 v5 = some r → az_AW Z 6 89 [(13, v0), (31, 0), (31, 0), (0, v3), (0, v4), (0, v5)] [] σ (some (0, r.1), r.2) := by
  have hd1 : 1 ≤ d := by omega
  induction k with
  | zero => intro σ v0 v3 v4 v5 r h; simp [fz_X11_would_89] at h
  | succ k ih =>
    intro σ v0 v3 v4 v5 r h
    unfold fz_X11_would_89 at h
    refine az_il5 (pc := 89) C dX11_would_89 ?_
    refine az_il4 (pc := 91) C dX11_would_91 ?_
    refine az_icmp_ge (pc := 93) (tgt := 116) C h dX11_would_93 (by decide) (fun _ h => ?_) (fun _ h => ?_)
    · refine az_al0 (pc := 116) C rfl rfl dX11_would_116 ?_
      refine az_cV0v (pc := 117) (c := 11) C hd1 h mv_X11_laysTerm ml_X11_648 rfl (fun x hx => A_X11_laysTerm (by omega) n hx) dX11_would_117 (fun r1 h => ?_)
      refine az_al0 (pc := 120) C rfl rfl dX11_would_120 ?_
      refine az_ik1 (pc := 121) C dX11_would_121 ?_
      refine az_cV1ii (pc := 122) (c := 11) C hd1 h mv_X11_reduces ml_X11_654 rfl (fun x hx => A_X11_reduces (by omega) n hx) dX11_would_122 (fun r2 h => ?_)
      refine az_is5 (pc := 125) C rfl rfl dX11_would_125 ?_
      refine az_il3 (pc := 127) C dX11_would_127 ?_
      refine az_if_gt (pc := 128) (tgt := 136) C h dX11_would_128 (by decide) (fun _ h => ?_) (fun _ h => ?_)
      · refine az_al0 (pc := 136) C rfl rfl dX11_would_136 ?_
        refine az_ik0 (pc := 137) C dX11_would_137 ?_
        refine az_cV1ii (pc := 138) (c := 11) C hd1 h mv_X11_gives ml_X11_401 rfl (fun x hx => A_X11_gives (by omega) hx) dX11_would_138 (fun r3 h => ?_)
        obtain rfl := Option.some.inj h
        exact az_ireturn (pc := 141) C dX11_would_141 rfl
      refine az_il5 (pc := 131) C dX11_would_131 ?_
      refine az_if_le (pc := 133) (tgt := 142) C h dX11_would_133 (by decide) (fun _ h => ?_) (fun _ h => ?_)
      · refine az_al0 (pc := 142) C rfl rfl dX11_would_142 ?_
        refine az_il4 (pc := 143) C dX11_would_143 ?_
        refine az_al0 (pc := 145) C rfl rfl dX11_would_145 ?_
        refine az_getI (pc := 146) C fl_X11_601 rfl dX11_would_146 ?_
        refine az_icmp_ne (pc := 149) (tgt := 174) C h dX11_would_149 (by decide) (fun _ h => ?_) (fun _ h => ?_)
        · refine az_ik2 (pc := 174) C dX11_would_174 ?_
          refine az_cV1ii (pc := 175) (c := 11) C hd1 h mv_X11_gives ml_X11_401 rfl (fun x hx => A_X11_gives (by omega) hx) dX11_would_175 (fun r4 h => ?_)
          obtain rfl := Option.some.inj h
          exact az_ireturn (pc := 178) C dX11_would_178 rfl
        refine az_al0 (pc := 152) C rfl rfl dX11_would_152 ?_
        refine az_getR (pc := 153) (c2 := 13) C h fl_X11_147 rfl rfl dX11_would_153 (fun h => ?_)
        refine az_ik0 (pc := 156) C dX11_would_156 ?_
        refine az_al0 (pc := 157) C rfl rfl dX11_would_157 ?_
        refine az_getR (pc := 158) (c2 := 13) C h fl_X11_126 rfl rfl dX11_would_158 (fun h => ?_)
        refine az_ik0 (pc := 161) C dX11_would_161 ?_
        refine az_il4 (pc := 162) C dX11_would_162 ?_
        refine az_cS5pi (pc := 164) C hd1 h ms_X11_isSame ml_X11_420 rfl (fun x hx => A_X11_isSame (by omega) n hx) dX11_would_164 (fun r7 h => ?_)
        refine az_if_eq (pc := 167) (tgt := 174) C h dX11_would_167 (by decide) (fun _ h => ?_) (fun _ h => ?_)
        · refine az_ik2 (pc := 174) C dX11_would_174 ?_
          refine az_cV1ii (pc := 175) (c := 11) C hd1 h mv_X11_gives ml_X11_401 rfl (fun x hx => A_X11_gives (by omega) hx) dX11_would_175 (fun r8 h => ?_)
          obtain rfl := Option.some.inj h
          exact az_ireturn (pc := 178) C dX11_would_178 rfl
        refine az_ik1 (pc := 170) C dX11_would_170 ?_
        refine az_goto (pc := 171) (tgt := 175) C dX11_would_171 (by decide) ?_
        refine az_cV1ii (pc := 175) (c := 11) C hd1 h mv_X11_gives ml_X11_401 rfl (fun x hx => A_X11_gives (by omega) hx) dX11_would_175 (fun r9 h => ?_)
        obtain rfl := Option.some.inj h
        exact az_ireturn (pc := 178) C dX11_would_178 rfl
      refine az_al0 (pc := 136) C rfl rfl dX11_would_136 ?_
      refine az_ik0 (pc := 137) C dX11_would_137 ?_
      refine az_cV1ii (pc := 138) (c := 11) C hd1 h mv_X11_gives ml_X11_401 rfl (fun x hx => A_X11_gives (by omega) hx) dX11_would_138 (fun r10 h => ?_)
      obtain rfl := Option.some.inj h
      exact az_ireturn (pc := 141) C dX11_would_141 rfl
    refine az_al0 (pc := 96) C rfl rfl dX11_would_96 ?_
    refine az_getR (pc := 97) (c2 := 13) C h fl_X11_147 rfl rfl dX11_would_97 (fun h => ?_)
    refine az_il5 (pc := 100) C dX11_would_100 ?_
    refine az_al0 (pc := 102) C rfl rfl dX11_would_102 ?_
    refine az_getR (pc := 103) (c2 := 13) C h fl_X11_126 rfl rfl dX11_would_103 (fun h => ?_)
    refine az_il5 (pc := 106) C dX11_would_106 ?_
    refine az_iaload (pc := 108) C h dX11_would_108 (fun h => ?_)
    refine az_iastore (pc := 109) C h dX11_would_109 (fun h => ?_)
    refine az_ii5 (pc := 110) C az_n1 rfl rfl dX11_would_110 ?_
    refine az_goto (pc := 113) (tgt := 89) C dX11_would_113 (by decide) ?_
    exact (ih h)
set_option maxRecDepth 10000 in
set_option maxHeartbeats 4000000 in
theorem A_X11_would_51 {Z : az_Z} {d : Nat} (C : az_C Z yX11_would cX11_would 6 (some .int) d) (hD : 416 ≤ d) (n : Nat) {σ : az_Hp} {v0 v2 w0 w1 : Int} {r : (Int × az_Hp)} (h : fz_X11_would_51 n σ v0 v2 w0 w1 = some r) : az_AW Z 6 51 [(13, v0), (31, 0), (0, v2), (31, 0), (31, 0), (31, 0)] [(0, w1), (13, w0)] σ (some (0, r.1), r.2) := by
  have hd1 : 1 ≤ d := by omega
  unfold fz_X11_would_51 at h
  refine az_cV1ii (pc := 51) (c := 11) C hd1 h mv_X11_reduces ml_X11_654 rfl (fun x hx => A_X11_reduces (by omega) n hx) dX11_would_51 (fun r1 h => ?_)
  refine az_is3 (pc := 54) C rfl rfl dX11_would_54 ?_
  refine az_il2 (pc := 55) C dX11_would_55 ?_
  refine az_if_ne (pc := 56) (tgt := 80) C h dX11_would_56 (by decide) (fun _ h => ?_) (fun _ h => ?_)
  · refine az_al0 (pc := 80) C rfl rfl dX11_would_80 ?_
    refine az_getI (pc := 81) C fl_X11_601 rfl dX11_would_81 ?_
    refine az_is4 (pc := 84) C rfl rfl dX11_would_84 ?_
    refine az_ik0 (pc := 86) C dX11_would_86 ?_
    refine az_is5 (pc := 87) C rfl rfl dX11_would_87 ?_
    exact (az_wkk (A_X11_would_89 C hD n n h) (az_sE (az_sJ (az_sJ (az_sE (az_sE (az_sE az_sN)))))))
  refine az_il3 (pc := 59) C dX11_would_59 ?_
  refine az_if_ne (pc := 60) (tgt := 74) C h dX11_would_60 (by decide) (fun _ h => ?_) (fun _ h => ?_)
  · refine az_al0 (pc := 74) C rfl rfl dX11_would_74 ?_
    refine az_il3 (pc := 75) C dX11_would_75 ?_
    refine az_cV1ii (pc := 76) (c := 11) C hd1 h mv_X11_refuse ml_X11_372 rfl (fun x hx => A_X11_refuse (by omega) hx) dX11_would_76 (fun r2 h => ?_)
    obtain rfl := Option.some.inj h
    exact az_ireturn (pc := 79) C dX11_would_79 rfl
  refine az_al0 (pc := 63) C rfl rfl dX11_would_63 ?_
  refine az_al0 (pc := 64) C rfl rfl dX11_would_64 ?_
  refine az_getI (pc := 65) C fl_X11_624 rfl dX11_would_65 ?_
  refine az_cV1ii (pc := 68) (c := 11) C hd1 h mv_X11_gives ml_X11_401 rfl (fun x hx => A_X11_gives (by omega) hx) dX11_would_68 (fun r3 h => ?_)
  refine az_goto (pc := 71) (tgt := 79) C dX11_would_71 (by decide) ?_
  obtain rfl := Option.some.inj h
  exact az_ireturn (pc := 79) C dX11_would_79 rfl
set_option maxRecDepth 10000 in
set_option maxHeartbeats 4000000 in
theorem A_X11_would_e {Z : az_Z} {d : Nat} (C : az_C Z yX11_would cX11_would 6 (some .int) d) (hD : 416 ≤ d) (n : Nat) {σ : az_Hp} {v0 v1 v2 : Int} {r : (Int × az_Hp)} (h : fz_X11_would n σ v0 v1 v2 = some r) : az_AW Z 6 0 [(13, v0), (0, v1), (0, v2), (31, 0), (31, 0), (31, 0)] [] σ (some (0, r.1), r.2) := by
  have hd1 : 1 ≤ d := by omega
  unfold fz_X11_would at h
  refine az_il1 (pc := 0) C dX11_would_0 ?_
  refine az_ik0 (pc := 1) C dX11_would_1 ?_
  refine az_ik1 (pc := 2) C dX11_would_2 ?_
  refine az_cS3pi (pc := 3) C hd1 h ms_X11_isFrom ml_X11_354 rfl (fun x hx => A_X11_isFrom (by omega) hx) dX11_would_3 (fun r1 h => ?_)
  refine az_if_eq (pc := 6) (tgt := 18) C h dX11_would_6 (by decide) (fun _ h => ?_) (fun _ h => ?_)
  · refine az_al0 (pc := 18) C rfl rfl dX11_would_18 ?_
    refine az_ik1 (pc := 19) C dX11_would_19 ?_
    refine az_cV1ii (pc := 20) (c := 11) C hd1 h mv_X11_refuse ml_X11_372 rfl (fun x hx => A_X11_refuse (by omega) hx) dX11_would_20 (fun r2 h => ?_)
    obtain rfl := Option.some.inj h
    exact az_ireturn (pc := 23) C dX11_would_23 rfl
  refine az_il2 (pc := 9) C dX11_would_9 ?_
  refine az_ik0 (pc := 10) C dX11_would_10 ?_
  refine az_ik1 (pc := 11) C dX11_would_11 ?_
  refine az_cS3pi (pc := 12) C hd1 h ms_X11_isFrom ml_X11_354 rfl (fun x hx => A_X11_isFrom (by omega) hx) dX11_would_12 (fun r3 h => ?_)
  refine az_if_ne (pc := 15) (tgt := 24) C h dX11_would_15 (by decide) (fun _ h => ?_) (fun _ h => ?_)
  · refine az_al0 (pc := 24) C rfl rfl dX11_would_24 ?_
    refine az_getI (pc := 25) C fl_X11_388 rfl dX11_would_25 ?_
    refine az_if_ne (pc := 28) (tgt := 37) C h dX11_would_28 (by decide) (fun _ h => ?_) (fun _ h => ?_)
    · refine az_al0 (pc := 37) C rfl rfl dX11_would_37 ?_
      refine az_cV0v (pc := 38) (c := 11) C hd1 h mv_X11_laysTerm ml_X11_648 rfl (fun x hx => A_X11_laysTerm (by omega) n hx) dX11_would_38 (fun r4 h => ?_)
      refine az_al0 (pc := 41) C rfl rfl dX11_would_41 ?_
      refine az_il2 (pc := 42) C dX11_would_42 ?_
      refine az_if_ne (pc := 43) (tgt := 50) C h dX11_would_43 (by decide) (fun _ h => ?_) (fun _ h => ?_)
      · refine az_ik0 (pc := 50) C dX11_would_50 ?_
        exact (az_wkk (A_X11_would_51 C hD n h) (az_sE (az_sJ (az_sE (az_sJ (az_sJ (az_sJ az_sN)))))))
      refine az_il1 (pc := 46) C dX11_would_46 ?_
      refine az_goto (pc := 47) (tgt := 51) C dX11_would_47 (by decide) ?_
      exact (az_wkk (A_X11_would_51 C hD n h) (az_sE (az_sJ (az_sE (az_sJ (az_sJ (az_sJ az_sN)))))))
    refine az_al0 (pc := 31) C rfl rfl dX11_would_31 ?_
    refine az_ik3 (pc := 32) C dX11_would_32 ?_
    refine az_cV1ii (pc := 33) (c := 11) C hd1 h mv_X11_refuse ml_X11_372 rfl (fun x hx => A_X11_refuse (by omega) hx) dX11_would_33 (fun r5 h => ?_)
    obtain rfl := Option.some.inj h
    exact az_ireturn (pc := 36) C dX11_would_36 rfl
  refine az_al0 (pc := 18) C rfl rfl dX11_would_18 ?_
  refine az_ik1 (pc := 19) C dX11_would_19 ?_
  refine az_cV1ii (pc := 20) (c := 11) C hd1 h mv_X11_refuse ml_X11_372 rfl (fun x hx => A_X11_refuse (by omega) hx) dX11_would_20 (fun r6 h => ?_)
  obtain rfl := Option.some.inj h
  exact az_ireturn (pc := 23) C dX11_would_23 rfl
set_option maxRecDepth 10000 in
set_option maxHeartbeats 4000000 in
theorem A_X11_would {l : Launch} {d : Nat} (hD : 416 ≤ d) (n : Nat) {σ : az_Hp} {v0 v1 v2 : Int} {r : (Int × az_Hp)} (h : fz_X11_would n σ v0 v1 v2 = some r) : az_AC l yX11_would cX11_would 6 (some .int) d [(13, v0), (0, v1), (0, v2)] σ (some (0, r.1), r.2) := az_AC.of mt_X11_would rfl rfl rfl (fun Z hZ C => A_X11_would_e C hD n h)
