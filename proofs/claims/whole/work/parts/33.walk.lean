theorem dX11_areBad_0 : decode cX11_areBad 0 = .ok (.aload_n 0, 1) := by decide +kernel
theorem dX11_areBad_1 : decode cX11_areBad 1 = .ok (.invokevirtual 455, 3) := by decide +kernel
theorem dX11_areBad_4 : decode cX11_areBad 4 = .ok (.aload_n 0, 1) := by decide +kernel
theorem dX11_areBad_5 : decode cX11_areBad 5 = .ok (.iload_n 1, 1) := by decide +kernel
theorem dX11_areBad_6 : decode cX11_areBad 6 = .ok (.iconst 0, 1) := by decide +kernel
theorem dX11_areBad_7 : decode cX11_areBad 7 = .ok (.iconst 1, 1) := by decide +kernel
theorem dX11_areBad_8 : decode cX11_areBad 8 = .ok (.invokevirtual 461, 3) := by decide +kernel
theorem dX11_areBad_11 : decode cX11_areBad 11 = .ok (.istore_n 3, 1) := by decide +kernel
theorem dX11_areBad_12 : decode cX11_areBad 12 = .ok (.aload_n 0, 1) := by decide +kernel
theorem dX11_areBad_13 : decode cX11_areBad 13 = .ok (.iconst 0, 1) := by decide +kernel
theorem dX11_areBad_14 : decode cX11_areBad 14 = .ok (.putfield 410, 3) := by decide +kernel
theorem dX11_areBad_17 : decode cX11_areBad 17 = .ok (.aload_n 0, 1) := by decide +kernel
theorem dX11_areBad_18 : decode cX11_areBad 18 = .ok (.iload_n 2, 1) := by decide +kernel
theorem dX11_areBad_19 : decode cX11_areBad 19 = .ok (.iconst 1, 1) := by decide +kernel
theorem dX11_areBad_20 : decode cX11_areBad 20 = .ok (.iconst 1, 1) := by decide +kernel
theorem dX11_areBad_21 : decode cX11_areBad 21 = .ok (.invokevirtual 461, 3) := by decide +kernel
theorem dX11_areBad_24 : decode cX11_areBad 24 = .ok (.istore 4, 2) := by decide +kernel
theorem dX11_areBad_26 : decode cX11_areBad 26 = .ok (.aload_n 0, 1) := by decide +kernel
theorem dX11_areBad_27 : decode cX11_areBad 27 = .ok (.iload_n 1, 1) := by decide +kernel
theorem dX11_areBad_28 : decode cX11_areBad 28 = .ok (.iconst 0, 1) := by decide +kernel
theorem dX11_areBad_29 : decode cX11_areBad 29 = .ok (.invokevirtual 458, 3) := by decide +kernel
theorem dX11_areBad_32 : decode cX11_areBad 32 = .ok (.istore 5, 2) := by decide +kernel
theorem dX11_areBad_34 : decode cX11_areBad 34 = .ok (.aload_n 0, 1) := by decide +kernel
theorem dX11_areBad_35 : decode cX11_areBad 35 = .ok (.iload_n 2, 1) := by decide +kernel
theorem dX11_areBad_36 : decode cX11_areBad 36 = .ok (.iconst 1, 1) := by decide +kernel
theorem dX11_areBad_37 : decode cX11_areBad 37 = .ok (.invokevirtual 458, 3) := by decide +kernel
theorem dX11_areBad_40 : decode cX11_areBad 40 = .ok (.istore 6, 2) := by decide +kernel
theorem dX11_areBad_42 : decode cX11_areBad 42 = .ok (.aload_n 0, 1) := by decide +kernel
theorem dX11_areBad_43 : decode cX11_areBad 43 = .ok (.iload_n 3, 1) := by decide +kernel
theorem dX11_areBad_44 : decode cX11_areBad 44 = .ok (.iload 4, 2) := by decide +kernel
theorem dX11_areBad_46 : decode cX11_areBad 46 = .ok (.invokevirtual 441, 3) := by decide +kernel
theorem dX11_areBad_49 : decode cX11_areBad 49 = .ok (.ifCond .eq 26, 3) := by decide +kernel
theorem dX11_areBad_52 : decode cX11_areBad 52 = .ok (.aload_n 0, 1) := by decide +kernel
theorem dX11_areBad_53 : decode cX11_areBad 53 = .ok (.iload_n 3, 1) := by decide +kernel
theorem dX11_areBad_54 : decode cX11_areBad 54 = .ok (.invokevirtual 465, 3) := by decide +kernel
theorem dX11_areBad_57 : decode cX11_areBad 57 = .ok (.ifCond .ne 18, 3) := by decide +kernel
theorem dX11_areBad_60 : decode cX11_areBad 60 = .ok (.aload_n 0, 1) := by decide +kernel
theorem dX11_areBad_61 : decode cX11_areBad 61 = .ok (.iload 5, 2) := by decide +kernel
theorem dX11_areBad_63 : decode cX11_areBad 63 = .ok (.iload 6, 2) := by decide +kernel
theorem dX11_areBad_65 : decode cX11_areBad 65 = .ok (.invokevirtual 448, 3) := by decide +kernel
theorem dX11_areBad_68 : decode cX11_areBad 68 = .ok (.ifCond .ne 7, 3) := by decide +kernel
theorem dX11_areBad_71 : decode cX11_areBad 71 = .ok (.iconst 1, 1) := by decide +kernel
theorem dX11_areBad_72 : decode cX11_areBad 72 = .ok (.goto 4, 3) := by decide +kernel
theorem dX11_areBad_75 : decode cX11_areBad 75 = .ok (.iconst 0, 1) := by decide +kernel
theorem dX11_areBad_76 : decode cX11_areBad 76 = .ok (.ireturn, 1) := by decide +kernel
set_option maxRecDepth 10000 in
set_option maxHeartbeats 4000000 in
theorem A_X11_areBad_e {Z : az_Z} {d : Nat} (C : az_C Z yX11_areBad cX11_areBad 7 (some .boolean) d) (hD : 208 ≤ d) (n : Nat) {σ : az_Hp} {v0 v1 v2 : Int} {r : (Int × az_Hp)} (h : fz_X11_areBad n σ v0 v1 v2 = some r) : az_AW Z 7 0 [(13, v0), (0, v1), (0, v2), (31, 0), (31, 0), (31, 0), (31, 0)] [] σ (some (0, r.1), r.2) := by
  have hd1 : 1 ≤ d := by omega
  unfold fz_X11_areBad at h
  refine az_al0 (pc := 0) C rfl rfl dX11_areBad_0 ?_
  refine az_cV0v (pc := 1) (c := 11) C hd1 h mv_X11_clears ml_X11_455 rfl (fun x hx => A_X11_clears (by omega) hx) dX11_areBad_1 (fun r1 h => ?_)
  refine az_al0 (pc := 4) C rfl rfl dX11_areBad_4 ?_
  refine az_il1 (pc := 5) C dX11_areBad_5 ?_
  refine az_ik0 (pc := 6) C dX11_areBad_6 ?_
  refine az_ik1 (pc := 7) C dX11_areBad_7 ?_
  refine az_cV3ii (pc := 8) (c := 11) C hd1 h mv_X11_rightNode ml_X11_461 rfl (fun x hx => A_X11_rightNode (by omega) n hx) dX11_areBad_8 (fun r2 h => ?_)
  refine az_is3 (pc := 11) C rfl rfl dX11_areBad_11 ?_
  refine az_al0 (pc := 12) C rfl rfl dX11_areBad_12 ?_
  refine az_ik0 (pc := 13) C dX11_areBad_13 ?_
  refine az_putI (pc := 14) C fl_X11_410 (Or.inl rfl) rfl dX11_areBad_14 ?_
  refine az_al0 (pc := 17) C rfl rfl dX11_areBad_17 ?_
  refine az_il2 (pc := 18) C dX11_areBad_18 ?_
  refine az_ik1 (pc := 19) C dX11_areBad_19 ?_
  refine az_ik1 (pc := 20) C dX11_areBad_20 ?_
  refine az_cV3ii (pc := 21) (c := 11) C hd1 h mv_X11_rightNode ml_X11_461 rfl (fun x hx => A_X11_rightNode (by omega) n hx) dX11_areBad_21 (fun r3 h => ?_)
  refine az_is4 (pc := 24) C rfl rfl dX11_areBad_24 ?_
  refine az_al0 (pc := 26) C rfl rfl dX11_areBad_26 ?_
  refine az_il1 (pc := 27) C dX11_areBad_27 ?_
  refine az_ik0 (pc := 28) C dX11_areBad_28 ?_
  refine az_cV2ii (pc := 29) (c := 11) C hd1 h mv_X11_leftNode ml_X11_458 rfl (fun x hx => A_X11_leftNode (by omega) n hx) dX11_areBad_29 (fun r4 h => ?_)
  refine az_is5 (pc := 32) C rfl rfl dX11_areBad_32 ?_
  refine az_al0 (pc := 34) C rfl rfl dX11_areBad_34 ?_
  refine az_il2 (pc := 35) C dX11_areBad_35 ?_
  refine az_ik1 (pc := 36) C dX11_areBad_36 ?_
  refine az_cV2ii (pc := 37) (c := 11) C hd1 h mv_X11_leftNode ml_X11_458 rfl (fun x hx => A_X11_leftNode (by omega) n hx) dX11_areBad_37 (fun r5 h => ?_)
  refine az_is6 (pc := 40) C rfl rfl dX11_areBad_40 ?_
  refine az_al0 (pc := 42) C rfl rfl dX11_areBad_42 ?_
  refine az_il3 (pc := 43) C dX11_areBad_43 ?_
  refine az_il4 (pc := 44) C dX11_areBad_44 ?_
  refine az_cV2ii (pc := 46) (c := 11) C hd1 h mv_X11_joins ml_X11_441 rfl (fun x hx => A_X11_joins n 200 (by omega) hx) dX11_areBad_46 (fun r6 h => ?_)
  refine az_if_eq (pc := 49) (tgt := 75) C h dX11_areBad_49 (by decide) (fun _ h => ?_) (fun _ h => ?_)
  · refine az_ik0 (pc := 75) C dX11_areBad_75 ?_
    obtain rfl := Option.some.inj h
    exact az_zreturn (pc := 76) C (by decide) dX11_areBad_76 rfl
  refine az_al0 (pc := 52) C rfl rfl dX11_areBad_52 ?_
  refine az_il3 (pc := 53) C dX11_areBad_53 ?_
  refine az_cV1ii (pc := 54) (c := 11) C hd1 h mv_X11_hasCircle ml_X11_465 rfl (fun x hx => A_X11_hasCircle (by omega) n hx) dX11_areBad_54 (fun r7 h => ?_)
  refine az_if_ne (pc := 57) (tgt := 75) C h dX11_areBad_57 (by decide) (fun _ h => ?_) (fun _ h => ?_)
  · refine az_ik0 (pc := 75) C dX11_areBad_75 ?_
    obtain rfl := Option.some.inj h
    exact az_zreturn (pc := 76) C (by decide) dX11_areBad_76 rfl
  refine az_al0 (pc := 60) C rfl rfl dX11_areBad_60 ?_
  refine az_il5 (pc := 61) C dX11_areBad_61 ?_
  refine az_il6 (pc := 63) C dX11_areBad_63 ?_
  refine az_cV2pi (pc := 65) (c := 11) C hd1 h mv_X11_areSame ml_X11_448 rfl (fun x hx => A_X11_areSame n 200 (by omega) hx) dX11_areBad_65 (fun r8 h => ?_)
  refine az_if_ne (pc := 68) (tgt := 75) C h dX11_areBad_68 (by decide) (fun _ h => ?_) (fun _ h => ?_)
  · refine az_ik0 (pc := 75) C dX11_areBad_75 ?_
    obtain rfl := Option.some.inj h
    exact az_zreturn (pc := 76) C (by decide) dX11_areBad_76 rfl
  refine az_ik1 (pc := 71) C dX11_areBad_71 ?_
  refine az_goto (pc := 72) (tgt := 76) C dX11_areBad_72 (by decide) ?_
  obtain rfl := Option.some.inj h
  exact az_zreturn (pc := 76) C (by decide) dX11_areBad_76 rfl
set_option maxRecDepth 10000 in
set_option maxHeartbeats 4000000 in
theorem A_X11_areBad {l : Launch} {d : Nat} (hD : 208 ≤ d) (n : Nat) {σ : az_Hp} {v0 v1 v2 : Int} {r : (Int × az_Hp)} (h : fz_X11_areBad n σ v0 v1 v2 = some r) : az_AC l yX11_areBad cX11_areBad 7 (some .boolean) d [(13, v0), (0, v1), (0, v2)] σ (some (0, r.1), r.2) := az_AC.of mt_X11_areBad rfl rfl rfl (fun Z hZ C => A_X11_areBad_e C hD n h)
theorem dX11_familyOf_0 : decode cX11_familyOf 0 = .ok (.aload_n 0, 1) := by decide +kernel
theorem dX11_familyOf_1 : decode cX11_familyOf 1 = .ok (.getfield 49, 3) := by decide +kernel
theorem dX11_familyOf_4 : decode cX11_familyOf 4 = .ok (.bipush 16, 2) := by decide +kernel
theorem dX11_familyOf_6 : decode cX11_familyOf 6 = .ok (.aload_n 0, 1) := by decide +kernel
theorem dX11_familyOf_7 : decode cX11_familyOf 7 = .ok (.iload_n 1, 1) := by decide +kernel
theorem dX11_familyOf_8 : decode cX11_familyOf 8 = .ok (.invokevirtual 358, 3) := by decide +kernel
theorem dX11_familyOf_11 : decode cX11_familyOf 11 = .ok (.imul, 1) := by decide +kernel
theorem dX11_familyOf_12 : decode cX11_familyOf 12 = .ok (.iaload, 1) := by decide +kernel
theorem dX11_familyOf_13 : decode cX11_familyOf 13 = .ok (.sipush 200, 3) := by decide +kernel
theorem dX11_familyOf_16 : decode cX11_familyOf 16 = .ok (.isub, 1) := by decide +kernel
theorem dX11_familyOf_17 : decode cX11_familyOf 17 = .ok (.ireturn, 1) := by decide +kernel
set_option maxRecDepth 10000 in
set_option maxHeartbeats 4000000 in
theorem A_X11_familyOf_e {Z : az_Z} {d : Nat} (C : az_C Z yX11_familyOf cX11_familyOf 2 (some .int) d) (hD : 2 ≤ d) {σ : az_Hp} {v0 v1 : Int} {r : Int} (h : fz_X11_familyOf σ v0 v1 = some r) : az_AW Z 2 0 [(13, v0), (0, v1)] [] σ (some (0, r), σ) := by
  have hd1 : 1 ≤ d := by omega
  unfold fz_X11_familyOf at h
  refine az_al0 (pc := 0) C rfl rfl dX11_familyOf_0 ?_
  refine az_getR (pc := 1) (c2 := 13) C h fl_X11_49 rfl rfl dX11_familyOf_1 (fun h => ?_)
  refine az_bk16 (pc := 4) C dX11_familyOf_4 ?_
  refine az_al0 (pc := 6) C rfl rfl dX11_familyOf_6 ?_
  refine az_il1 (pc := 7) C dX11_familyOf_7 ?_
  refine az_cV1pi (pc := 8) (c := 11) C hd1 h mv_X11_eqAt ml_X11_358 rfl (fun x hx => A_X11_eqAt (by omega) hx) dX11_familyOf_8 (fun r2 h => ?_)
  refine az_imul (pc := 11) C dX11_familyOf_11 ?_
  refine az_iaload (pc := 12) C h dX11_familyOf_12 (fun h => ?_)
  refine az_sk200 (pc := 13) C dX11_familyOf_13 ?_
  refine az_isub (pc := 16) C dX11_familyOf_16 ?_
  obtain rfl := Option.some.inj h
  exact az_ireturn (pc := 17) C dX11_familyOf_17 rfl
set_option maxRecDepth 10000 in
set_option maxHeartbeats 4000000 in
theorem A_X11_familyOf {l : Launch} {d : Nat} (hD : 2 ≤ d) {σ : az_Hp} {v0 v1 : Int} {r : Int} (h : fz_X11_familyOf σ v0 v1 = some r) : az_AC l yX11_familyOf cX11_familyOf 2 (some .int) d [(13, v0), (0, v1)] σ (some (0, r), σ) := az_AC.of mt_X11_familyOf rfl rfl rfl (fun Z hZ C => A_X11_familyOf_e C hD h)
theorem dX11_equationsOf_0 : decode cX11_equationsOf 0 = .ok (.iconst 0, 1) := by decide +kernel
theorem dX11_equationsOf_1 : decode cX11_equationsOf 1 = .ok (.istore_n 2, 1) := by decide +kernel
theorem dX11_equationsOf_2 : decode cX11_equationsOf 2 = .ok (.iconst 0, 1) := by decide +kernel
theorem dX11_equationsOf_3 : decode cX11_equationsOf 3 = .ok (.istore_n 3, 1) := by decide +kernel
theorem dX11_equationsOf_4 : decode cX11_equationsOf 4 = .ok (.iload_n 3, 1) := by decide +kernel
theorem dX11_equationsOf_5 : decode cX11_equationsOf 5 = .ok (.aload_n 0, 1) := by decide +kernel
theorem dX11_equationsOf_6 : decode cX11_equationsOf 6 = .ok (.getfield 26, 3) := by decide +kernel
theorem dX11_equationsOf_9 : decode cX11_equationsOf 9 = .ok (.aload_n 0, 1) := by decide +kernel
theorem dX11_equationsOf_10 : decode cX11_equationsOf 10 = .ok (.getfield 285, 3) := by decide +kernel
theorem dX11_equationsOf_13 : decode cX11_equationsOf 13 = .ok (.iaload, 1) := by decide +kernel
theorem dX11_equationsOf_14 : decode cX11_equationsOf 14 = .ok (.if_icmp .ge 26, 3) := by decide +kernel
theorem dX11_equationsOf_17 : decode cX11_equationsOf 17 = .ok (.iload_n 2, 1) := by decide +kernel
theorem dX11_equationsOf_18 : decode cX11_equationsOf 18 = .ok (.aload_n 0, 1) := by decide +kernel
theorem dX11_equationsOf_19 : decode cX11_equationsOf 19 = .ok (.iload_n 3, 1) := by decide +kernel
theorem dX11_equationsOf_20 : decode cX11_equationsOf 20 = .ok (.invokevirtual 474, 3) := by decide +kernel
theorem dX11_equationsOf_23 : decode cX11_equationsOf 23 = .ok (.iload_n 1, 1) := by decide +kernel
theorem dX11_equationsOf_24 : decode cX11_equationsOf 24 = .ok (.if_icmp .ne 7, 3) := by decide +kernel
theorem dX11_equationsOf_27 : decode cX11_equationsOf 27 = .ok (.iconst 1, 1) := by decide +kernel
theorem dX11_equationsOf_28 : decode cX11_equationsOf 28 = .ok (.goto 4, 3) := by decide +kernel
theorem dX11_equationsOf_31 : decode cX11_equationsOf 31 = .ok (.iconst 0, 1) := by decide +kernel
theorem dX11_equationsOf_32 : decode cX11_equationsOf 32 = .ok (.iadd, 1) := by decide +kernel
theorem dX11_equationsOf_33 : decode cX11_equationsOf 33 = .ok (.istore_n 2, 1) := by decide +kernel
theorem dX11_equationsOf_34 : decode cX11_equationsOf 34 = .ok (.iinc 3 1, 3) := by decide +kernel
theorem dX11_equationsOf_37 : decode cX11_equationsOf 37 = .ok (.goto (-33), 3) := by decide +kernel
theorem dX11_equationsOf_40 : decode cX11_equationsOf 40 = .ok (.iload_n 2, 1) := by decide +kernel
theorem dX11_equationsOf_41 : decode cX11_equationsOf 41 = .ok (.ireturn, 1) := by decide +kernel
set_option maxRecDepth 10000 in
set_option maxHeartbeats 4000000 in
theorem A_X11_equationsOf_4 {Z : az_Z} {d : Nat} (C : az_C Z yX11_equationsOf cX11_equationsOf 4 (some .int) d) (hD : 3 ≤ d) (n : Nat) (k : Nat) : ∀ {σ : az_Hp} {v0 v1 v2 v3 : Int} {r : Int}, fz_X11_equationsOf_4 n k σ v0 v1 v2 v3 = some r → az_AW Z 4 4 [(13, v0), (0, v1), (0, v2), (0, v3)] [] σ (some (0, r), σ) := by
  have hd1 : 1 ≤ d := by omega
  induction k with
  | zero => intro σ v0 v1 v2 v3 r h; simp [fz_X11_equationsOf_4] at h
  | succ k ih =>
    intro σ v0 v1 v2 v3 r h
    unfold fz_X11_equationsOf_4 at h
    refine az_il3 (pc := 4) C dX11_equationsOf_4 ?_
    refine az_al0 (pc := 5) C rfl rfl dX11_equationsOf_5 ?_
    refine az_getR (pc := 6) (c2 := 13) C h fl_X11_26 rfl rfl dX11_equationsOf_6 (fun h => ?_)
    refine az_al0 (pc := 9) C rfl rfl dX11_equationsOf_9 ?_
    refine az_getI (pc := 10) C fl_X11_285 rfl dX11_equationsOf_10 ?_
    refine az_iaload (pc := 13) C h dX11_equationsOf_13 (fun h => ?_)
    refine az_icmp_ge (pc := 14) (tgt := 40) C h dX11_equationsOf_14 (by decide) (fun _ h => ?_) (fun _ h => ?_)
    · refine az_il2 (pc := 40) C dX11_equationsOf_40 ?_
      obtain rfl := Option.some.inj h
      exact az_ireturn (pc := 41) C dX11_equationsOf_41 rfl
    refine az_il2 (pc := 17) C dX11_equationsOf_17 ?_
    refine az_al0 (pc := 18) C rfl rfl dX11_equationsOf_18 ?_
    refine az_il3 (pc := 19) C dX11_equationsOf_19 ?_
    refine az_cV1pi (pc := 20) (c := 11) C hd1 h mv_X11_familyOf ml_X11_474 rfl (fun x hx => A_X11_familyOf (by omega) hx) dX11_equationsOf_20 (fun r3 h => ?_)
    refine az_il1 (pc := 23) C dX11_equationsOf_23 ?_
    refine az_icmp_ne (pc := 24) (tgt := 31) C h dX11_equationsOf_24 (by decide) (fun _ h => ?_) (fun _ h => ?_)
    · refine az_ik0 (pc := 31) C dX11_equationsOf_31 ?_
      refine az_iadd (pc := 32) C dX11_equationsOf_32 ?_
      refine az_is2 (pc := 33) C rfl rfl dX11_equationsOf_33 ?_
      refine az_ii3 (pc := 34) C az_n1 rfl rfl dX11_equationsOf_34 ?_
      refine az_goto (pc := 37) (tgt := 4) C dX11_equationsOf_37 (by decide) ?_
      exact (ih h)
    refine az_ik1 (pc := 27) C dX11_equationsOf_27 ?_
    refine az_goto (pc := 28) (tgt := 32) C dX11_equationsOf_28 (by decide) ?_
    refine az_iadd (pc := 32) C dX11_equationsOf_32 ?_
    refine az_is2 (pc := 33) C rfl rfl dX11_equationsOf_33 ?_
    refine az_ii3 (pc := 34) C az_n1 rfl rfl dX11_equationsOf_34 ?_
    refine az_goto (pc := 37) (tgt := 4) C dX11_equationsOf_37 (by decide) ?_
    exact (ih h)
set_option maxRecDepth 10000 in
set_option maxHeartbeats 4000000 in
theorem A_X11_equationsOf_e {Z : az_Z} {d : Nat} (C : az_C Z yX11_equationsOf cX11_equationsOf 4 (some .int) d) (hD : 3 ≤ d) (n : Nat) {σ : az_Hp} {v0 v1 : Int} {r : Int} (h : fz_X11_equationsOf n σ v0 v1 = some r) : az_AW Z 4 0 [(13, v0), (0, v1), (31, 0), (31, 0)] [] σ (some (0, r), σ) := by
  have hd1 : 1 ≤ d := by omega
  unfold fz_X11_equationsOf at h
  refine az_ik0 (pc := 0) C dX11_equationsOf_0 ?_
  refine az_is2 (pc := 1) C rfl rfl dX11_equationsOf_1 ?_
  refine az_ik0 (pc := 2) C dX11_equationsOf_2 ?_
  refine az_is3 (pc := 3) C rfl rfl dX11_equationsOf_3 ?_
  exact (A_X11_equationsOf_4 C hD n n h)
set_option maxRecDepth 10000 in
set_option maxHeartbeats 4000000 in
theorem A_X11_equationsOf {l : Launch} {d : Nat} (hD : 3 ≤ d) (n : Nat) {σ : az_Hp} {v0 v1 : Int} {r : Int} (h : fz_X11_equationsOf n σ v0 v1 = some r) : az_AC l yX11_equationsOf cX11_equationsOf 4 (some .int) d [(13, v0), (0, v1)] σ (some (0, r), σ) := az_AC.of mt_X11_equationsOf rfl rfl rfl (fun Z hZ C => A_X11_equationsOf_e C hD n h)
theorem dX11_standsOut_0 : decode cX11_standsOut 0 = .ok (.bipush 16, 2) := by decide +kernel
theorem dX11_standsOut_2 : decode cX11_standsOut 2 = .ok (.aload_n 0, 1) := by decide +kernel
theorem dX11_standsOut_3 : decode cX11_standsOut 3 = .ok (.iload_n 1, 1) := by decide +kernel
theorem dX11_standsOut_4 : decode cX11_standsOut 4 = .ok (.invokevirtual 358, 3) := by decide +kernel
theorem dX11_standsOut_7 : decode cX11_standsOut 7 = .ok (.imul, 1) := by decide +kernel
theorem dX11_standsOut_8 : decode cX11_standsOut 8 = .ok (.aload_n 0, 1) := by decide +kernel
theorem dX11_standsOut_9 : decode cX11_standsOut 9 = .ok (.getfield 58, 3) := by decide +kernel
theorem dX11_standsOut_12 : decode cX11_standsOut 12 = .ok (.aload_n 0, 1) := by decide +kernel
theorem dX11_standsOut_13 : decode cX11_standsOut 13 = .ok (.iload_n 1, 1) := by decide +kernel
theorem dX11_standsOut_14 : decode cX11_standsOut 14 = .ok (.invokevirtual 358, 3) := by decide +kernel
theorem dX11_standsOut_17 : decode cX11_standsOut 17 = .ok (.iaload, 1) := by decide +kernel
theorem dX11_standsOut_18 : decode cX11_standsOut 18 = .ok (.iadd, 1) := by decide +kernel
theorem dX11_standsOut_19 : decode cX11_standsOut 19 = .ok (.istore_n 3, 1) := by decide +kernel
theorem dX11_standsOut_20 : decode cX11_standsOut 20 = .ok (.bipush 16, 2) := by decide +kernel
theorem dX11_standsOut_22 : decode cX11_standsOut 22 = .ok (.aload_n 0, 1) := by decide +kernel
theorem dX11_standsOut_23 : decode cX11_standsOut 23 = .ok (.iload_n 1, 1) := by decide +kernel
theorem dX11_standsOut_24 : decode cX11_standsOut 24 = .ok (.invokevirtual 358, 3) := by decide +kernel
theorem dX11_standsOut_27 : decode cX11_standsOut 27 = .ok (.imul, 1) := by decide +kernel
theorem dX11_standsOut_28 : decode cX11_standsOut 28 = .ok (.istore 4, 2) := by decide +kernel
theorem dX11_standsOut_30 : decode cX11_standsOut 30 = .ok (.iload 4, 2) := by decide +kernel
theorem dX11_standsOut_32 : decode cX11_standsOut 32 = .ok (.iload_n 3, 1) := by decide +kernel
theorem dX11_standsOut_33 : decode cX11_standsOut 33 = .ok (.if_icmp .ge 55, 3) := by decide +kernel
theorem dX11_standsOut_36 : decode cX11_standsOut 36 = .ok (.aload_n 0, 1) := by decide +kernel
theorem dX11_standsOut_37 : decode cX11_standsOut 37 = .ok (.getfield 52, 3) := by decide +kernel
theorem dX11_standsOut_40 : decode cX11_standsOut 40 = .ok (.iload 4, 2) := by decide +kernel
theorem dX11_standsOut_42 : decode cX11_standsOut 42 = .ok (.iaload, 1) := by decide +kernel
theorem dX11_standsOut_43 : decode cX11_standsOut 43 = .ok (.sipush 1000, 3) := by decide +kernel
theorem dX11_standsOut_46 : decode cX11_standsOut 46 = .ok (.iload_n 2, 1) := by decide +kernel
theorem dX11_standsOut_47 : decode cX11_standsOut 47 = .ok (.iadd, 1) := by decide +kernel
theorem dX11_standsOut_48 : decode cX11_standsOut 48 = .ok (.if_icmp .ne 5, 3) := by decide +kernel
theorem dX11_standsOut_51 : decode cX11_standsOut 51 = .ok (.iconst 1, 1) := by decide +kernel
theorem dX11_standsOut_52 : decode cX11_standsOut 52 = .ok (.ireturn, 1) := by decide +kernel
theorem dX11_standsOut_53 : decode cX11_standsOut 53 = .ok (.iload 4, 2) := by decide +kernel
theorem dX11_standsOut_55 : decode cX11_standsOut 55 = .ok (.aload_n 0, 1) := by decide +kernel
theorem dX11_standsOut_56 : decode cX11_standsOut 56 = .ok (.getfield 52, 3) := by decide +kernel
theorem dX11_standsOut_59 : decode cX11_standsOut 59 = .ok (.iload 4, 2) := by decide +kernel
theorem dX11_standsOut_61 : decode cX11_standsOut 61 = .ok (.iaload, 1) := by decide +kernel
theorem dX11_standsOut_62 : decode cX11_standsOut 62 = .ok (.invokestatic 291, 3) := by decide +kernel
theorem dX11_standsOut_65 : decode cX11_standsOut 65 = .ok (.ifCond .eq 16, 3) := by decide +kernel
theorem dX11_standsOut_68 : decode cX11_standsOut 68 = .ok (.aload_n 0, 1) := by decide +kernel
theorem dX11_standsOut_69 : decode cX11_standsOut 69 = .ok (.aload_n 0, 1) := by decide +kernel
theorem dX11_standsOut_70 : decode cX11_standsOut 70 = .ok (.getfield 52, 3) := by decide +kernel
theorem dX11_standsOut_73 : decode cX11_standsOut 73 = .ok (.iload 4, 2) := by decide +kernel
theorem dX11_standsOut_75 : decode cX11_standsOut 75 = .ok (.invokevirtual 416, 3) := by decide +kernel
theorem dX11_standsOut_78 : decode cX11_standsOut 78 = .ok (.goto 4, 3) := by decide +kernel
theorem dX11_standsOut_81 : decode cX11_standsOut 81 = .ok (.iconst 1, 1) := by decide +kernel
theorem dX11_standsOut_82 : decode cX11_standsOut 82 = .ok (.iadd, 1) := by decide +kernel
theorem dX11_standsOut_83 : decode cX11_standsOut 83 = .ok (.istore 4, 2) := by decide +kernel
theorem dX11_standsOut_85 : decode cX11_standsOut 85 = .ok (.goto (-55), 3) := by decide +kernel
theorem dX11_standsOut_88 : decode cX11_standsOut 88 = .ok (.iconst 0, 1) := by decide +kernel
theorem dX11_standsOut_89 : decode cX11_standsOut 89 = .ok (.ireturn, 1) := by decide +kernel
set_option maxRecDepth 10000 in
set_option maxHeartbeats 4000000 in
theorem A_X11_standsOut_30 {Z : az_Z} {d : Nat} (C : az_C Z yX11_standsOut cX11_standsOut 5 (some .boolean) d) (hD : 4 ≤ d) (n : Nat) (k : Nat) : ∀ {σ : az_Hp} {v0 v2 v3 v4 : Int} {r : Int}, fz_X11_standsOut_30 n k σ v0 v2 v3 v4 = some r → az_AW Z 5 30 [(13, v0), (31, 0), (0, v2), (0, v3), (0, v4)] [] σ (some (0, r), σ) := by
  have hd1 : 1 ≤ d := by omega
  induction k with
  | zero => intro σ v0 v2 v3 v4 r h; simp [fz_X11_standsOut_30] at h
  | succ k ih =>
    intro σ v0 v2 v3 v4 r h
    unfold fz_X11_standsOut_30 at h
    refine az_il4 (pc := 30) C dX11_standsOut_30 ?_
    refine az_il3 (pc := 32) C dX11_standsOut_32 ?_
    refine az_icmp_ge (pc := 33) (tgt := 88) C h dX11_standsOut_33 (by decide) (fun _ h => ?_) (fun _ h => ?_)
    · refine az_ik0 (pc := 88) C dX11_standsOut_88 ?_
      obtain rfl := Option.some.inj h
      exact az_zreturn (pc := 89) C (by decide) dX11_standsOut_89 rfl
    refine az_al0 (pc := 36) C rfl rfl dX11_standsOut_36 ?_
    refine az_getR (pc := 37) (c2 := 13) C h fl_X11_52 rfl rfl dX11_standsOut_37 (fun h => ?_)
    refine az_il4 (pc := 40) C dX11_standsOut_40 ?_
    refine az_iaload (pc := 42) C h dX11_standsOut_42 (fun h => ?_)
    refine az_sk1000 (pc := 43) C dX11_standsOut_43 ?_
    refine az_il2 (pc := 46) C dX11_standsOut_46 ?_
    refine az_iadd (pc := 47) C dX11_standsOut_47 ?_
    refine az_icmp_ne (pc := 48) (tgt := 53) C h dX11_standsOut_48 (by decide) (fun _ h => ?_) (fun _ h => ?_)
    · refine az_il4 (pc := 53) C dX11_standsOut_53 ?_
      refine az_al0 (pc := 55) C rfl rfl dX11_standsOut_55 ?_
      refine az_getR (pc := 56) (c2 := 13) C h fl_X11_52 rfl rfl dX11_standsOut_56 (fun h => ?_)
      refine az_il4 (pc := 59) C dX11_standsOut_59 ?_
      refine az_iaload (pc := 61) C h dX11_standsOut_61 (fun h => ?_)
      refine az_cS1pi (pc := 62) C hd1 h ms_X11_isFam ml_X11_291 rfl (fun x hx => A_X11_isFam (by omega) hx) dX11_standsOut_62 (fun r5 h => ?_)
      refine az_if_eq (pc := 65) (tgt := 81) C h dX11_standsOut_65 (by decide) (fun _ h => ?_) (fun _ h => ?_)
      · refine az_ik1 (pc := 81) C dX11_standsOut_81 ?_
        refine az_iadd (pc := 82) C dX11_standsOut_82 ?_
        refine az_is4 (pc := 83) C rfl rfl dX11_standsOut_83 ?_
        refine az_goto (pc := 85) (tgt := 30) C dX11_standsOut_85 (by decide) ?_
        exact (ih h)
      refine az_al0 (pc := 68) C rfl rfl dX11_standsOut_68 ?_
      refine az_al0 (pc := 69) C rfl rfl dX11_standsOut_69 ?_
      refine az_getR (pc := 70) (c2 := 13) C h fl_X11_52 rfl rfl dX11_standsOut_70 (fun h => ?_)
      refine az_il4 (pc := 73) C dX11_standsOut_73 ?_
      refine az_cV2pi (pc := 75) (c := 11) C hd1 h mv_X11_sizeAt ml_X11_416 rfl (fun x hx => A_X11_sizeAt (by omega) n hx) dX11_standsOut_75 (fun r7 h => ?_)
      refine az_goto (pc := 78) (tgt := 82) C dX11_standsOut_78 (by decide) ?_
      refine az_iadd (pc := 82) C dX11_standsOut_82 ?_
      refine az_is4 (pc := 83) C rfl rfl dX11_standsOut_83 ?_
      refine az_goto (pc := 85) (tgt := 30) C dX11_standsOut_85 (by decide) ?_
      exact (ih h)
    refine az_ik1 (pc := 51) C dX11_standsOut_51 ?_
    obtain rfl := Option.some.inj h
    exact az_zreturn (pc := 52) C (by decide) dX11_standsOut_52 rfl
set_option maxRecDepth 10000 in
set_option maxHeartbeats 4000000 in
theorem A_X11_standsOut_e {Z : az_Z} {d : Nat} (C : az_C Z yX11_standsOut cX11_standsOut 5 (some .boolean) d) (hD : 4 ≤ d) (n : Nat) {σ : az_Hp} {v0 v1 v2 : Int} {r : Int} (h : fz_X11_standsOut n σ v0 v1 v2 = some r) : az_AW Z 5 0 [(13, v0), (0, v1), (0, v2), (31, 0), (31, 0)] [] σ (some (0, r), σ) := by
  have hd1 : 1 ≤ d := by omega
  unfold fz_X11_standsOut at h
  refine az_bk16 (pc := 0) C dX11_standsOut_0 ?_
  refine az_al0 (pc := 2) C rfl rfl dX11_standsOut_2 ?_
  refine az_il1 (pc := 3) C dX11_standsOut_3 ?_
  refine az_cV1pi (pc := 4) (c := 11) C hd1 h mv_X11_eqAt ml_X11_358 rfl (fun x hx => A_X11_eqAt (by omega) hx) dX11_standsOut_4 (fun r1 h => ?_)
  refine az_imul (pc := 7) C dX11_standsOut_7 ?_
  refine az_al0 (pc := 8) C rfl rfl dX11_standsOut_8 ?_
  refine az_getR (pc := 9) (c2 := 13) C h fl_X11_58 rfl rfl dX11_standsOut_9 (fun h => ?_)
  refine az_al0 (pc := 12) C rfl rfl dX11_standsOut_12 ?_
  refine az_il1 (pc := 13) C dX11_standsOut_13 ?_
  refine az_cV1pi (pc := 14) (c := 11) C hd1 h mv_X11_eqAt ml_X11_358 rfl (fun x hx => A_X11_eqAt (by omega) hx) dX11_standsOut_14 (fun r3 h => ?_)
  refine az_iaload (pc := 17) C h dX11_standsOut_17 (fun h => ?_)
  refine az_iadd (pc := 18) C dX11_standsOut_18 ?_
  refine az_is3 (pc := 19) C rfl rfl dX11_standsOut_19 ?_
  refine az_bk16 (pc := 20) C dX11_standsOut_20 ?_
  refine az_al0 (pc := 22) C rfl rfl dX11_standsOut_22 ?_
  refine az_il1 (pc := 23) C dX11_standsOut_23 ?_
  refine az_cV1pi (pc := 24) (c := 11) C hd1 h mv_X11_eqAt ml_X11_358 rfl (fun x hx => A_X11_eqAt (by omega) hx) dX11_standsOut_24 (fun r5 h => ?_)
  refine az_imul (pc := 27) C dX11_standsOut_27 ?_
  refine az_is4 (pc := 28) C rfl rfl dX11_standsOut_28 ?_
  exact (az_wkk (A_X11_standsOut_30 C hD n n h) (az_sE (az_sJ (az_sE (az_sE (az_sE az_sN))))))
set_option maxRecDepth 10000 in
set_option maxHeartbeats 4000000 in
theorem A_X11_standsOut {l : Launch} {d : Nat} (hD : 4 ≤ d) (n : Nat) {σ : az_Hp} {v0 v1 v2 : Int} {r : Int} (h : fz_X11_standsOut n σ v0 v1 v2 = some r) : az_AC l yX11_standsOut cX11_standsOut 5 (some .boolean) d [(13, v0), (0, v1), (0, v2)] σ (some (0, r), σ) := az_AC.of mt_X11_standsOut rfl rfl rfl (fun Z hZ C => A_X11_standsOut_e C hD n h)
theorem dX11_badAlone_0 : decode cX11_badAlone 0 = .ok (.aload_n 0, 1) := by decide +kernel
theorem dX11_badAlone_1 : decode cX11_badAlone 1 = .ok (.getfield 52, 3) := by decide +kernel
theorem dX11_badAlone_4 : decode cX11_badAlone 4 = .ok (.bipush 16, 2) := by decide +kernel
theorem dX11_badAlone_6 : decode cX11_badAlone 6 = .ok (.aload_n 0, 1) := by decide +kernel
theorem dX11_badAlone_7 : decode cX11_badAlone 7 = .ok (.iload_n 1, 1) := by decide +kernel
theorem dX11_badAlone_8 : decode cX11_badAlone 8 = .ok (.invokevirtual 358, 3) := by decide +kernel
theorem dX11_badAlone_11 : decode cX11_badAlone 11 = .ok (.imul, 1) := by decide +kernel
theorem dX11_badAlone_12 : decode cX11_badAlone 12 = .ok (.iaload, 1) := by decide +kernel
theorem dX11_badAlone_13 : decode cX11_badAlone 13 = .ok (.istore_n 2, 1) := by decide +kernel
theorem dX11_badAlone_14 : decode cX11_badAlone 14 = .ok (.aload_n 0, 1) := by decide +kernel
theorem dX11_badAlone_15 : decode cX11_badAlone 15 = .ok (.aload_n 0, 1) := by decide +kernel
theorem dX11_badAlone_16 : decode cX11_badAlone 16 = .ok (.iload_n 1, 1) := by decide +kernel
theorem dX11_badAlone_17 : decode cX11_badAlone 17 = .ok (.invokevirtual 474, 3) := by decide +kernel
theorem dX11_badAlone_20 : decode cX11_badAlone 20 = .ok (.invokevirtual 517, 3) := by decide +kernel
theorem dX11_badAlone_23 : decode cX11_badAlone 23 = .ok (.iconst 1, 1) := by decide +kernel
theorem dX11_badAlone_24 : decode cX11_badAlone 24 = .ok (.if_icmp .ne 42, 3) := by decide +kernel
theorem dX11_badAlone_27 : decode cX11_badAlone 27 = .ok (.aload_n 0, 1) := by decide +kernel
theorem dX11_badAlone_28 : decode cX11_badAlone 28 = .ok (.getfield 55, 3) := by decide +kernel
theorem dX11_badAlone_31 : decode cX11_badAlone 31 = .ok (.aload_n 0, 1) := by decide +kernel
theorem dX11_badAlone_32 : decode cX11_badAlone 32 = .ok (.iload_n 1, 1) := by decide +kernel
theorem dX11_badAlone_33 : decode cX11_badAlone 33 = .ok (.invokevirtual 358, 3) := by decide +kernel
theorem dX11_badAlone_36 : decode cX11_badAlone 36 = .ok (.iaload, 1) := by decide +kernel
theorem dX11_badAlone_37 : decode cX11_badAlone 37 = .ok (.iconst 2, 1) := by decide +kernel
theorem dX11_badAlone_38 : decode cX11_badAlone 38 = .ok (.if_icmp .ne 28, 3) := by decide +kernel
theorem dX11_badAlone_41 : decode cX11_badAlone 41 = .ok (.aload_n 0, 1) := by decide +kernel
theorem dX11_badAlone_42 : decode cX11_badAlone 42 = .ok (.getfield 49, 3) := by decide +kernel
theorem dX11_badAlone_45 : decode cX11_badAlone 45 = .ok (.bipush 16, 2) := by decide +kernel
theorem dX11_badAlone_47 : decode cX11_badAlone 47 = .ok (.aload_n 0, 1) := by decide +kernel
theorem dX11_badAlone_48 : decode cX11_badAlone 48 = .ok (.iload_n 1, 1) := by decide +kernel
theorem dX11_badAlone_49 : decode cX11_badAlone 49 = .ok (.invokevirtual 358, 3) := by decide +kernel
theorem dX11_badAlone_52 : decode cX11_badAlone 52 = .ok (.imul, 1) := by decide +kernel
theorem dX11_badAlone_53 : decode cX11_badAlone 53 = .ok (.iconst 1, 1) := by decide +kernel
theorem dX11_badAlone_54 : decode cX11_badAlone 54 = .ok (.iadd, 1) := by decide +kernel
theorem dX11_badAlone_55 : decode cX11_badAlone 55 = .ok (.iaload, 1) := by decide +kernel
theorem dX11_badAlone_56 : decode cX11_badAlone 56 = .ok (.invokestatic 288, 3) := by decide +kernel
theorem dX11_badAlone_59 : decode cX11_badAlone 59 = .ok (.ifCond .eq 7, 3) := by decide +kernel
theorem dX11_badAlone_62 : decode cX11_badAlone 62 = .ok (.iconst 1, 1) := by decide +kernel
theorem dX11_badAlone_63 : decode cX11_badAlone 63 = .ok (.goto 4, 3) := by decide +kernel
theorem dX11_badAlone_66 : decode cX11_badAlone 66 = .ok (.iconst 0, 1) := by decide +kernel
theorem dX11_badAlone_67 : decode cX11_badAlone 67 = .ok (.istore_n 3, 1) := by decide +kernel
theorem dX11_badAlone_68 : decode cX11_badAlone 68 = .ok (.iload_n 2, 1) := by decide +kernel
theorem dX11_badAlone_69 : decode cX11_badAlone 69 = .ok (.invokestatic 288, 3) := by decide +kernel
theorem dX11_badAlone_72 : decode cX11_badAlone 72 = .ok (.ifCond .eq 9, 3) := by decide +kernel
theorem dX11_badAlone_75 : decode cX11_badAlone 75 = .ok (.iload_n 3, 1) := by decide +kernel
theorem dX11_badAlone_76 : decode cX11_badAlone 76 = .ok (.ifCond .ne 5, 3) := by decide +kernel
theorem dX11_badAlone_79 : decode cX11_badAlone 79 = .ok (.iconst 1, 1) := by decide +kernel
theorem dX11_badAlone_80 : decode cX11_badAlone 80 = .ok (.ireturn, 1) := by decide +kernel
theorem dX11_badAlone_81 : decode cX11_badAlone 81 = .ok (.iload_n 2, 1) := by decide +kernel
theorem dX11_badAlone_82 : decode cX11_badAlone 82 = .ok (.invokestatic 291, 3) := by decide +kernel
theorem dX11_badAlone_85 : decode cX11_badAlone 85 = .ok (.ifCond .eq 5, 3) := by decide +kernel
theorem dX11_badAlone_88 : decode cX11_badAlone 88 = .ok (.iconst 2, 1) := by decide +kernel
theorem dX11_badAlone_89 : decode cX11_badAlone 89 = .ok (.ireturn, 1) := by decide +kernel
theorem dX11_badAlone_90 : decode cX11_badAlone 90 = .ok (.iconst 0, 1) := by decide +kernel
theorem dX11_badAlone_91 : decode cX11_badAlone 91 = .ok (.istore 4, 2) := by decide +kernel
theorem dX11_badAlone_93 : decode cX11_badAlone 93 = .ok (.iload 4, 2) := by decide +kernel
theorem dX11_badAlone_95 : decode cX11_badAlone 95 = .ok (.aload_n 0, 1) := by decide +kernel
theorem dX11_badAlone_96 : decode cX11_badAlone 96 = .ok (.getfield 61, 3) := by decide +kernel
theorem dX11_badAlone_99 : decode cX11_badAlone 99 = .ok (.aload_n 0, 1) := by decide +kernel
theorem dX11_badAlone_100 : decode cX11_badAlone 100 = .ok (.iload_n 1, 1) := by decide +kernel
theorem dX11_badAlone_101 : decode cX11_badAlone 101 = .ok (.invokevirtual 358, 3) := by decide +kernel
theorem dX11_badAlone_104 : decode cX11_badAlone 104 = .ok (.iaload, 1) := by decide +kernel
theorem dX11_badAlone_105 : decode cX11_badAlone 105 = .ok (.if_icmp .ge 21, 3) := by decide +kernel
theorem dX11_badAlone_108 : decode cX11_badAlone 108 = .ok (.aload_n 0, 1) := by decide +kernel
theorem dX11_badAlone_109 : decode cX11_badAlone 109 = .ok (.iload_n 1, 1) := by decide +kernel
theorem dX11_badAlone_110 : decode cX11_badAlone 110 = .ok (.iload 4, 2) := by decide +kernel
theorem dX11_badAlone_112 : decode cX11_badAlone 112 = .ok (.invokevirtual 529, 3) := by decide +kernel
theorem dX11_badAlone_115 : decode cX11_badAlone 115 = .ok (.ifCond .ne 5, 3) := by decide +kernel
theorem dX11_badAlone_118 : decode cX11_badAlone 118 = .ok (.iconst 3, 1) := by decide +kernel
theorem dX11_badAlone_119 : decode cX11_badAlone 119 = .ok (.ireturn, 1) := by decide +kernel
theorem dX11_badAlone_120 : decode cX11_badAlone 120 = .ok (.iinc 4 1, 3) := by decide +kernel
theorem dX11_badAlone_123 : decode cX11_badAlone 123 = .ok (.goto (-30), 3) := by decide +kernel
theorem dX11_badAlone_126 : decode cX11_badAlone 126 = .ok (.iconst 0, 1) := by decide +kernel
theorem dX11_badAlone_127 : decode cX11_badAlone 127 = .ok (.ireturn, 1) := by decide +kernel
set_option maxRecDepth 10000 in
set_option maxHeartbeats 4000000 in
theorem A_X11_badAlone_93 {Z : az_Z} {d : Nat} (C : az_C Z yX11_badAlone cX11_badAlone 5 (some .int) d) (hD : 5 ≤ d) (n : Nat) (k : Nat) : ∀ {σ : az_Hp} {v0 v1 v4 : Int} {r : Int}, fz_X11_badAlone_93 n k σ v0 v1 v4 = some r → az_AW Z 5 93 [(13, v0), (0, v1), (31, 0), (31, 0), (0, v4)] [] σ (some (0, r), σ) := by
  have hd1 : 1 ≤ d := by omega
  induction k with
  | zero => intro σ v0 v1 v4 r h; simp [fz_X11_badAlone_93] at h
  | succ k ih =>
    intro σ v0 v1 v4 r h
    unfold fz_X11_badAlone_93 at h
    refine az_il4 (pc := 93) C dX11_badAlone_93 ?_
    refine az_al0 (pc := 95) C rfl rfl dX11_badAlone_95 ?_
    refine az_getR (pc := 96) (c2 := 13) C h fl_X11_61 rfl rfl dX11_badAlone_96 (fun h => ?_)
    refine az_al0 (pc := 99) C rfl rfl dX11_badAlone_99 ?_
    refine az_il1 (pc := 100) C dX11_badAlone_100 ?_
    refine az_cV1pi (pc := 101) (c := 11) C hd1 h mv_X11_eqAt ml_X11_358 rfl (fun x hx => A_X11_eqAt (by omega) hx) dX11_badAlone_101 (fun r2 h => ?_)
    refine az_iaload (pc := 104) C h dX11_badAlone_104 (fun h => ?_)
    refine az_icmp_ge (pc := 105) (tgt := 126) C h dX11_badAlone_105 (by decide) (fun _ h => ?_) (fun _ h => ?_)
    · refine az_ik0 (pc := 126) C dX11_badAlone_126 ?_
      obtain rfl := Option.some.inj h
      exact az_ireturn (pc := 127) C dX11_badAlone_127 rfl
    refine az_al0 (pc := 108) C rfl rfl dX11_badAlone_108 ?_
    refine az_il1 (pc := 109) C dX11_badAlone_109 ?_
    refine az_il4 (pc := 110) C dX11_badAlone_110 ?_
    refine az_cV2pi (pc := 112) (c := 11) C hd1 h mv_X11_standsOut ml_X11_529 rfl (fun x hx => A_X11_standsOut (by omega) n hx) dX11_badAlone_112 (fun r4 h => ?_)
    refine az_if_ne (pc := 115) (tgt := 120) C h dX11_badAlone_115 (by decide) (fun _ h => ?_) (fun _ h => ?_)
    · refine az_ii4 (pc := 120) C az_n1 rfl rfl dX11_badAlone_120 ?_
      refine az_goto (pc := 123) (tgt := 93) C dX11_badAlone_123 (by decide) ?_
      exact (ih h)
    refine az_ik3 (pc := 118) C dX11_badAlone_118 ?_
    obtain rfl := Option.some.inj h
    exact az_ireturn (pc := 119) C dX11_badAlone_119 rfl
set_option maxRecDepth 10000 in
set_option maxHeartbeats 4000000 in
theorem A_X11_badAlone_81 {Z : az_Z} {d : Nat} (C : az_C Z yX11_badAlone cX11_badAlone 5 (some .int) d) (hD : 5 ≤ d) (n : Nat) {σ : az_Hp} {v0 v1 v2 : Int} {r : Int} (h : fz_X11_badAlone_81 n σ v0 v1 v2 = some r) : az_AW Z 5 81 [(13, v0), (0, v1), (0, v2), (31, 0), (31, 0)] [] σ (some (0, r), σ) := by
  have hd1 : 1 ≤ d := by omega
  unfold fz_X11_badAlone_81 at h
  refine az_il2 (pc := 81) C dX11_badAlone_81 ?_
  refine az_cS1pi (pc := 82) C hd1 h ms_X11_isFam ml_X11_291 rfl (fun x hx => A_X11_isFam (by omega) hx) dX11_badAlone_82 (fun r1 h => ?_)
  refine az_if_eq (pc := 85) (tgt := 90) C h dX11_badAlone_85 (by decide) (fun _ h => ?_) (fun _ h => ?_)
  · refine az_ik0 (pc := 90) C dX11_badAlone_90 ?_
    refine az_is4 (pc := 91) C rfl rfl dX11_badAlone_91 ?_
    exact (az_wkk (A_X11_badAlone_93 C hD n n h) (az_sE (az_sE (az_sJ (az_sJ (az_sE az_sN))))))
  refine az_ik2 (pc := 88) C dX11_badAlone_88 ?_
  obtain rfl := Option.some.inj h
  exact az_ireturn (pc := 89) C dX11_badAlone_89 rfl
set_option maxRecDepth 10000 in
set_option maxHeartbeats 4000000 in
theorem A_X11_badAlone_67 {Z : az_Z} {d : Nat} (C : az_C Z yX11_badAlone cX11_badAlone 5 (some .int) d) (hD : 5 ≤ d) (n : Nat) {σ : az_Hp} {v0 v1 v2 w0 : Int} {r : Int} (h : fz_X11_badAlone_67 n σ v0 v1 v2 w0 = some r) : az_AW Z 5 67 [(13, v0), (0, v1), (0, v2), (31, 0), (31, 0)] [(0, w0)] σ (some (0, r), σ) := by
  have hd1 : 1 ≤ d := by omega
  unfold fz_X11_badAlone_67 at h
  refine az_is3 (pc := 67) C rfl rfl dX11_badAlone_67 ?_
  refine az_il2 (pc := 68) C dX11_badAlone_68 ?_
  refine az_cS1pi (pc := 69) C hd1 h ms_X11_isVar ml_X11_288 rfl (fun x hx => A_X11_isVar (by omega) hx) dX11_badAlone_69 (fun r1 h => ?_)
  refine az_if_eq (pc := 72) (tgt := 81) C h dX11_badAlone_72 (by decide) (fun _ h => ?_) (fun _ h => ?_)
  · exact (az_wkk (A_X11_badAlone_81 C hD n h) (az_sE (az_sE (az_sE (az_sJ (az_sJ az_sN))))))
  refine az_il3 (pc := 75) C dX11_badAlone_75 ?_
  refine az_if_ne (pc := 76) (tgt := 81) C h dX11_badAlone_76 (by decide) (fun _ h => ?_) (fun _ h => ?_)
  · exact (az_wkk (A_X11_badAlone_81 C hD n h) (az_sE (az_sE (az_sE (az_sJ (az_sJ az_sN))))))
  refine az_ik1 (pc := 79) C dX11_badAlone_79 ?_
  obtain rfl := Option.some.inj h
  exact az_ireturn (pc := 80) C dX11_badAlone_80 rfl
set_option maxRecDepth 10000 in
set_option maxHeartbeats 4000000 in
theorem A_X11_badAlone_e {Z : az_Z} {d : Nat} (C : az_C Z yX11_badAlone cX11_badAlone 5 (some .int) d) (hD : 5 ≤ d) (n : Nat) {σ : az_Hp} {v0 v1 : Int} {r : Int} (h : fz_X11_badAlone n σ v0 v1 = some r) : az_AW Z 5 0 [(13, v0), (0, v1), (31, 0), (31, 0), (31, 0)] [] σ (some (0, r), σ) := by
  have hd1 : 1 ≤ d := by omega
  unfold fz_X11_badAlone at h
  refine az_al0 (pc := 0) C rfl rfl dX11_badAlone_0 ?_
  refine az_getR (pc := 1) (c2 := 13) C h fl_X11_52 rfl rfl dX11_badAlone_1 (fun h => ?_)
  refine az_bk16 (pc := 4) C dX11_badAlone_4 ?_
  refine az_al0 (pc := 6) C rfl rfl dX11_badAlone_6 ?_
  refine az_il1 (pc := 7) C dX11_badAlone_7 ?_
  refine az_cV1pi (pc := 8) (c := 11) C hd1 h mv_X11_eqAt ml_X11_358 rfl (fun x hx => A_X11_eqAt (by omega) hx) dX11_badAlone_8 (fun r2 h => ?_)
  refine az_imul (pc := 11) C dX11_badAlone_11 ?_
  refine az_iaload (pc := 12) C h dX11_badAlone_12 (fun h => ?_)
  refine az_is2 (pc := 13) C rfl rfl dX11_badAlone_13 ?_
  refine az_al0 (pc := 14) C rfl rfl dX11_badAlone_14 ?_
  refine az_al0 (pc := 15) C rfl rfl dX11_badAlone_15 ?_
  refine az_il1 (pc := 16) C dX11_badAlone_16 ?_
  refine az_cV1pi (pc := 17) (c := 11) C hd1 h mv_X11_familyOf ml_X11_474 rfl (fun x hx => A_X11_familyOf (by omega) hx) dX11_badAlone_17 (fun r4 h => ?_)
  refine az_cV1pi (pc := 20) (c := 11) C hd1 h mv_X11_equationsOf ml_X11_517 rfl (fun x hx => A_X11_equationsOf (by omega) n hx) dX11_badAlone_20 (fun r5 h => ?_)
  refine az_ik1 (pc := 23) C dX11_badAlone_23 ?_
  refine az_icmp_ne (pc := 24) (tgt := 66) C h dX11_badAlone_24 (by decide) (fun _ h => ?_) (fun _ h => ?_)
  · refine az_ik0 (pc := 66) C dX11_badAlone_66 ?_
    exact (A_X11_badAlone_67 C hD n h)
  refine az_al0 (pc := 27) C rfl rfl dX11_badAlone_27 ?_
  refine az_getR (pc := 28) (c2 := 13) C h fl_X11_55 rfl rfl dX11_badAlone_28 (fun h => ?_)
  refine az_al0 (pc := 31) C rfl rfl dX11_badAlone_31 ?_
  refine az_il1 (pc := 32) C dX11_badAlone_32 ?_
  refine az_cV1pi (pc := 33) (c := 11) C hd1 h mv_X11_eqAt ml_X11_358 rfl (fun x hx => A_X11_eqAt (by omega) hx) dX11_badAlone_33 (fun r7 h => ?_)
  refine az_iaload (pc := 36) C h dX11_badAlone_36 (fun h => ?_)
  refine az_ik2 (pc := 37) C dX11_badAlone_37 ?_
  refine az_icmp_ne (pc := 38) (tgt := 66) C h dX11_badAlone_38 (by decide) (fun _ h => ?_) (fun _ h => ?_)
  · refine az_ik0 (pc := 66) C dX11_badAlone_66 ?_
    exact (A_X11_badAlone_67 C hD n h)
  refine az_al0 (pc := 41) C rfl rfl dX11_badAlone_41 ?_
  refine az_getR (pc := 42) (c2 := 13) C h fl_X11_49 rfl rfl dX11_badAlone_42 (fun h => ?_)
  refine az_bk16 (pc := 45) C dX11_badAlone_45 ?_
  refine az_al0 (pc := 47) C rfl rfl dX11_badAlone_47 ?_
  refine az_il1 (pc := 48) C dX11_badAlone_48 ?_
  refine az_cV1pi (pc := 49) (c := 11) C hd1 h mv_X11_eqAt ml_X11_358 rfl (fun x hx => A_X11_eqAt (by omega) hx) dX11_badAlone_49 (fun r10 h => ?_)
  refine az_imul (pc := 52) C dX11_badAlone_52 ?_
  refine az_ik1 (pc := 53) C dX11_badAlone_53 ?_
  refine az_iadd (pc := 54) C dX11_badAlone_54 ?_
  refine az_iaload (pc := 55) C h dX11_badAlone_55 (fun h => ?_)
  refine az_cS1pi (pc := 56) C hd1 h ms_X11_isVar ml_X11_288 rfl (fun x hx => A_X11_isVar (by omega) hx) dX11_badAlone_56 (fun r12 h => ?_)
  refine az_if_eq (pc := 59) (tgt := 66) C h dX11_badAlone_59 (by decide) (fun _ h => ?_) (fun _ h => ?_)
  · refine az_ik0 (pc := 66) C dX11_badAlone_66 ?_
    exact (A_X11_badAlone_67 C hD n h)
  refine az_ik1 (pc := 62) C dX11_badAlone_62 ?_
  refine az_goto (pc := 63) (tgt := 67) C dX11_badAlone_63 (by decide) ?_
  exact (A_X11_badAlone_67 C hD n h)
set_option maxRecDepth 10000 in
set_option maxHeartbeats 4000000 in
theorem A_X11_badAlone {l : Launch} {d : Nat} (hD : 5 ≤ d) (n : Nat) {σ : az_Hp} {v0 v1 : Int} {r : Int} (h : fz_X11_badAlone n σ v0 v1 = some r) : az_AC l yX11_badAlone cX11_badAlone 5 (some .int) d [(13, v0), (0, v1)] σ (some (0, r), σ) := az_AC.of mt_X11_badAlone rfl rfl rfl (fun Z hZ C => A_X11_badAlone_e C hD n h)
theorem dX11_isBad_0 : decode cX11_isBad 0 = .ok (.aload_n 0, 1) := by decide +kernel
theorem dX11_isBad_1 : decode cX11_isBad 1 = .ok (.iconst (-1), 1) := by decide +kernel
theorem dX11_isBad_2 : decode cX11_isBad 2 = .ok (.putfield 532, 3) := by decide +kernel
theorem dX11_isBad_5 : decode cX11_isBad 5 = .ok (.iconst 0, 1) := by decide +kernel
theorem dX11_isBad_6 : decode cX11_isBad 6 = .ok (.istore_n 2, 1) := by decide +kernel
theorem dX11_isBad_7 : decode cX11_isBad 7 = .ok (.iload_n 2, 1) := by decide +kernel
theorem dX11_isBad_8 : decode cX11_isBad 8 = .ok (.aload_n 0, 1) := by decide +kernel
theorem dX11_isBad_9 : decode cX11_isBad 9 = .ok (.getfield 26, 3) := by decide +kernel
theorem dX11_isBad_12 : decode cX11_isBad 12 = .ok (.aload_n 0, 1) := by decide +kernel
theorem dX11_isBad_13 : decode cX11_isBad 13 = .ok (.getfield 285, 3) := by decide +kernel
theorem dX11_isBad_16 : decode cX11_isBad 16 = .ok (.iaload, 1) := by decide +kernel
theorem dX11_isBad_17 : decode cX11_isBad 17 = .ok (.if_icmp .ge 45, 3) := by decide +kernel
theorem dX11_isBad_20 : decode cX11_isBad 20 = .ok (.aload_n 0, 1) := by decide +kernel
theorem dX11_isBad_21 : decode cX11_isBad 21 = .ok (.iload_n 2, 1) := by decide +kernel
theorem dX11_isBad_22 : decode cX11_isBad 22 = .ok (.invokevirtual 474, 3) := by decide +kernel
theorem dX11_isBad_25 : decode cX11_isBad 25 = .ok (.iload_n 1, 1) := by decide +kernel
theorem dX11_isBad_26 : decode cX11_isBad 26 = .ok (.if_icmp .ne 30, 3) := by decide +kernel
theorem dX11_isBad_29 : decode cX11_isBad 29 = .ok (.aload_n 0, 1) := by decide +kernel
theorem dX11_isBad_30 : decode cX11_isBad 30 = .ok (.iload_n 2, 1) := by decide +kernel
theorem dX11_isBad_31 : decode cX11_isBad 31 = .ok (.invokevirtual 535, 3) := by decide +kernel
theorem dX11_isBad_34 : decode cX11_isBad 34 = .ok (.ifCond .ne 6, 3) := by decide +kernel
theorem dX11_isBad_37 : decode cX11_isBad 37 = .ok (.goto 19, 3) := by decide +kernel
theorem dX11_isBad_40 : decode cX11_isBad 40 = .ok (.aload_n 0, 1) := by decide +kernel
theorem dX11_isBad_41 : decode cX11_isBad 41 = .ok (.aload_n 0, 1) := by decide +kernel
theorem dX11_isBad_42 : decode cX11_isBad 42 = .ok (.iload_n 2, 1) := by decide +kernel
theorem dX11_isBad_43 : decode cX11_isBad 43 = .ok (.invokevirtual 535, 3) := by decide +kernel
theorem dX11_isBad_46 : decode cX11_isBad 46 = .ok (.putfield 538, 3) := by decide +kernel
theorem dX11_isBad_49 : decode cX11_isBad 49 = .ok (.aload_n 0, 1) := by decide +kernel
theorem dX11_isBad_50 : decode cX11_isBad 50 = .ok (.iload_n 2, 1) := by decide +kernel
theorem dX11_isBad_51 : decode cX11_isBad 51 = .ok (.putfield 541, 3) := by decide +kernel
theorem dX11_isBad_54 : decode cX11_isBad 54 = .ok (.iconst 1, 1) := by decide +kernel
theorem dX11_isBad_55 : decode cX11_isBad 55 = .ok (.ireturn, 1) := by decide +kernel
theorem dX11_isBad_56 : decode cX11_isBad 56 = .ok (.iinc 2 1, 3) := by decide +kernel
theorem dX11_isBad_59 : decode cX11_isBad 59 = .ok (.goto (-52), 3) := by decide +kernel
theorem dX11_isBad_62 : decode cX11_isBad 62 = .ok (.iconst 0, 1) := by decide +kernel
theorem dX11_isBad_63 : decode cX11_isBad 63 = .ok (.istore_n 2, 1) := by decide +kernel
theorem dX11_isBad_64 : decode cX11_isBad 64 = .ok (.iload_n 2, 1) := by decide +kernel
theorem dX11_isBad_65 : decode cX11_isBad 65 = .ok (.aload_n 0, 1) := by decide +kernel
theorem dX11_isBad_66 : decode cX11_isBad 66 = .ok (.getfield 26, 3) := by decide +kernel
theorem dX11_isBad_69 : decode cX11_isBad 69 = .ok (.aload_n 0, 1) := by decide +kernel
theorem dX11_isBad_70 : decode cX11_isBad 70 = .ok (.getfield 285, 3) := by decide +kernel
theorem dX11_isBad_73 : decode cX11_isBad 73 = .ok (.iaload, 1) := by decide +kernel
theorem dX11_isBad_74 : decode cX11_isBad 74 = .ok (.if_icmp .ge 79, 3) := by decide +kernel
theorem dX11_isBad_77 : decode cX11_isBad 77 = .ok (.iload_n 2, 1) := by decide +kernel
theorem dX11_isBad_78 : decode cX11_isBad 78 = .ok (.iconst 1, 1) := by decide +kernel
theorem dX11_isBad_79 : decode cX11_isBad 79 = .ok (.iadd, 1) := by decide +kernel
theorem dX11_isBad_80 : decode cX11_isBad 80 = .ok (.istore_n 3, 1) := by decide +kernel
theorem dX11_isBad_81 : decode cX11_isBad 81 = .ok (.iload_n 3, 1) := by decide +kernel
theorem dX11_isBad_82 : decode cX11_isBad 82 = .ok (.aload_n 0, 1) := by decide +kernel
theorem dX11_isBad_83 : decode cX11_isBad 83 = .ok (.getfield 26, 3) := by decide +kernel
theorem dX11_isBad_86 : decode cX11_isBad 86 = .ok (.aload_n 0, 1) := by decide +kernel
theorem dX11_isBad_87 : decode cX11_isBad 87 = .ok (.getfield 285, 3) := by decide +kernel
theorem dX11_isBad_90 : decode cX11_isBad 90 = .ok (.iaload, 1) := by decide +kernel
theorem dX11_isBad_91 : decode cX11_isBad 91 = .ok (.if_icmp .ge 56, 3) := by decide +kernel
theorem dX11_isBad_94 : decode cX11_isBad 94 = .ok (.aload_n 0, 1) := by decide +kernel
theorem dX11_isBad_95 : decode cX11_isBad 95 = .ok (.iload_n 2, 1) := by decide +kernel
theorem dX11_isBad_96 : decode cX11_isBad 96 = .ok (.invokevirtual 474, 3) := by decide +kernel
theorem dX11_isBad_99 : decode cX11_isBad 99 = .ok (.iload_n 1, 1) := by decide +kernel
theorem dX11_isBad_100 : decode cX11_isBad 100 = .ok (.if_icmp .ne 41, 3) := by decide +kernel
theorem dX11_isBad_103 : decode cX11_isBad 103 = .ok (.aload_n 0, 1) := by decide +kernel
theorem dX11_isBad_104 : decode cX11_isBad 104 = .ok (.iload_n 3, 1) := by decide +kernel
theorem dX11_isBad_105 : decode cX11_isBad 105 = .ok (.invokevirtual 474, 3) := by decide +kernel
theorem dX11_isBad_108 : decode cX11_isBad 108 = .ok (.iload_n 1, 1) := by decide +kernel
theorem dX11_isBad_109 : decode cX11_isBad 109 = .ok (.if_icmp .ne 32, 3) := by decide +kernel
theorem dX11_isBad_112 : decode cX11_isBad 112 = .ok (.aload_n 0, 1) := by decide +kernel
theorem dX11_isBad_113 : decode cX11_isBad 113 = .ok (.iload_n 2, 1) := by decide +kernel
theorem dX11_isBad_114 : decode cX11_isBad 114 = .ok (.iload_n 3, 1) := by decide +kernel
theorem dX11_isBad_115 : decode cX11_isBad 115 = .ok (.invokevirtual 544, 3) := by decide +kernel
theorem dX11_isBad_118 : decode cX11_isBad 118 = .ok (.ifCond .ne 6, 3) := by decide +kernel
theorem dX11_isBad_121 : decode cX11_isBad 121 = .ok (.goto 20, 3) := by decide +kernel
theorem dX11_isBad_124 : decode cX11_isBad 124 = .ok (.aload_n 0, 1) := by decide +kernel
theorem dX11_isBad_125 : decode cX11_isBad 125 = .ok (.iconst 4, 1) := by decide +kernel
theorem dX11_isBad_126 : decode cX11_isBad 126 = .ok (.putfield 538, 3) := by decide +kernel
theorem dX11_isBad_129 : decode cX11_isBad 129 = .ok (.aload_n 0, 1) := by decide +kernel
theorem dX11_isBad_130 : decode cX11_isBad 130 = .ok (.iload_n 2, 1) := by decide +kernel
theorem dX11_isBad_131 : decode cX11_isBad 131 = .ok (.putfield 541, 3) := by decide +kernel
theorem dX11_isBad_134 : decode cX11_isBad 134 = .ok (.aload_n 0, 1) := by decide +kernel
theorem dX11_isBad_135 : decode cX11_isBad 135 = .ok (.iload_n 3, 1) := by decide +kernel
theorem dX11_isBad_136 : decode cX11_isBad 136 = .ok (.putfield 532, 3) := by decide +kernel
theorem dX11_isBad_139 : decode cX11_isBad 139 = .ok (.iconst 1, 1) := by decide +kernel
theorem dX11_isBad_140 : decode cX11_isBad 140 = .ok (.ireturn, 1) := by decide +kernel
theorem dX11_isBad_141 : decode cX11_isBad 141 = .ok (.iinc 3 1, 3) := by decide +kernel
theorem dX11_isBad_144 : decode cX11_isBad 144 = .ok (.goto (-63), 3) := by decide +kernel
theorem dX11_isBad_147 : decode cX11_isBad 147 = .ok (.iinc 2 1, 3) := by decide +kernel
theorem dX11_isBad_150 : decode cX11_isBad 150 = .ok (.goto (-86), 3) := by decide +kernel
theorem dX11_isBad_153 : decode cX11_isBad 153 = .ok (.iconst 0, 1) := by decide +kernel
theorem dX11_isBad_154 : decode cX11_isBad 154 = .ok (.ireturn, 1) := by decide +kernel
set_option maxRecDepth 10000 in
set_option maxHeartbeats 4000000 in
theorem A_X11_isBad_81 {Z : az_Z} {d : Nat} (C : az_C Z yX11_isBad cX11_isBad 4 (some .boolean) d) (hD : 209 ≤ d) (n : Nat) {k64 : az_Hp → Int → Int → Int → Option (Int × az_Hp)} (hk64 : ∀ {σ : az_Hp} {v0 v1 v2 : Int} {r : (Int × az_Hp)}, k64 σ v0 v1 v2 = some r → az_AW Z 4 64 [(13, v0), (0, v1), (0, v2), (31, 0)] [] σ (some (0, r.1), r.2)) (k : Nat) : ∀ {σ : az_Hp} {v0 v1 v2 v3 : Int} {r : (Int × az_Hp)}, fz_X11_isBad_81 n k64 k σ v0 v1 v2 v3 = some r → az_AW Z 4 81 [(13, v0), (0, v1), (0, v2), (0, v3)] [] σ (some (0, r.1), r.2) := by
  have hd1 : 1 ≤ d := by omega
  induction k with
  | zero => intro σ v0 v1 v2 v3 r h; simp [fz_X11_isBad_81] at h
  | succ k ih =>
    intro σ v0 v1 v2 v3 r h
    unfold fz_X11_isBad_81 at h
    refine az_il3 (pc := 81) C dX11_isBad_81 ?_
    refine az_al0 (pc := 82) C rfl rfl dX11_isBad_82 ?_
    refine az_getR (pc := 83) (c2 := 13) C h fl_X11_26 rfl rfl dX11_isBad_83 (fun h => ?_)
    refine az_al0 (pc := 86) C rfl rfl dX11_isBad_86 ?_
    refine az_getI (pc := 87) C fl_X11_285 rfl dX11_isBad_87 ?_
    refine az_iaload (pc := 90) C h dX11_isBad_90 (fun h => ?_)
    refine az_icmp_ge (pc := 91) (tgt := 147) C h dX11_isBad_91 (by decide) (fun _ h => ?_) (fun _ h => ?_)
    · refine az_ii2 (pc := 147) C az_n1 rfl rfl dX11_isBad_147 ?_
      refine az_goto (pc := 150) (tgt := 64) C dX11_isBad_150 (by decide) ?_
      exact (az_wkk (hk64 h) (az_sE (az_sE (az_sE (az_sJ az_sN)))))
    refine az_al0 (pc := 94) C rfl rfl dX11_isBad_94 ?_
    refine az_il2 (pc := 95) C dX11_isBad_95 ?_
    refine az_cV1pi (pc := 96) (c := 11) C hd1 h mv_X11_familyOf ml_X11_474 rfl (fun x hx => A_X11_familyOf (by omega) hx) dX11_isBad_96 (fun r3 h => ?_)
    refine az_il1 (pc := 99) C dX11_isBad_99 ?_
    refine az_icmp_ne (pc := 100) (tgt := 141) C h dX11_isBad_100 (by decide) (fun _ h => ?_) (fun _ h => ?_)
    · refine az_ii3 (pc := 141) C az_n1 rfl rfl dX11_isBad_141 ?_
      refine az_goto (pc := 144) (tgt := 81) C dX11_isBad_144 (by decide) ?_
      exact (ih h)
    refine az_al0 (pc := 103) C rfl rfl dX11_isBad_103 ?_
    refine az_il3 (pc := 104) C dX11_isBad_104 ?_
    refine az_cV1pi (pc := 105) (c := 11) C hd1 h mv_X11_familyOf ml_X11_474 rfl (fun x hx => A_X11_familyOf (by omega) hx) dX11_isBad_105 (fun r4 h => ?_)
    refine az_il1 (pc := 108) C dX11_isBad_108 ?_
    refine az_icmp_ne (pc := 109) (tgt := 141) C h dX11_isBad_109 (by decide) (fun _ h => ?_) (fun _ h => ?_)
    · refine az_ii3 (pc := 141) C az_n1 rfl rfl dX11_isBad_141 ?_
      refine az_goto (pc := 144) (tgt := 81) C dX11_isBad_144 (by decide) ?_
      exact (ih h)
    refine az_al0 (pc := 112) C rfl rfl dX11_isBad_112 ?_
    refine az_il2 (pc := 113) C dX11_isBad_113 ?_
    refine az_il3 (pc := 114) C dX11_isBad_114 ?_
    refine az_cV2ii (pc := 115) (c := 11) C hd1 h mv_X11_areBad ml_X11_544 rfl (fun x hx => A_X11_areBad (by omega) n hx) dX11_isBad_115 (fun r5 h => ?_)
    refine az_if_ne (pc := 118) (tgt := 124) C h dX11_isBad_118 (by decide) (fun _ h => ?_) (fun _ h => ?_)
    · refine az_al0 (pc := 124) C rfl rfl dX11_isBad_124 ?_
      refine az_ik4 (pc := 125) C dX11_isBad_125 ?_
      refine az_putI (pc := 126) C fl_X11_538 (Or.inl rfl) rfl dX11_isBad_126 ?_
      refine az_al0 (pc := 129) C rfl rfl dX11_isBad_129 ?_
      refine az_il2 (pc := 130) C dX11_isBad_130 ?_
      refine az_putI (pc := 131) C fl_X11_541 (Or.inl rfl) rfl dX11_isBad_131 ?_
      refine az_al0 (pc := 134) C rfl rfl dX11_isBad_134 ?_
      refine az_il3 (pc := 135) C dX11_isBad_135 ?_
      refine az_putI (pc := 136) C fl_X11_532 (Or.inl rfl) rfl dX11_isBad_136 ?_
      refine az_ik1 (pc := 139) C dX11_isBad_139 ?_
      obtain rfl := Option.some.inj h
      exact az_zreturn (pc := 140) C (by decide) dX11_isBad_140 rfl
    refine az_goto (pc := 121) (tgt := 141) C dX11_isBad_121 (by decide) ?_
    refine az_ii3 (pc := 141) C az_n1 rfl rfl dX11_isBad_141 ?_
    refine az_goto (pc := 144) (tgt := 81) C dX11_isBad_144 (by decide) ?_
    exact (ih h)
set_option maxRecDepth 10000 in
set_option maxHeartbeats 4000000 in
theorem A_X11_isBad_64 {Z : az_Z} {d : Nat} (C : az_C Z yX11_isBad cX11_isBad 4 (some .boolean) d) (hD : 209 ≤ d) (n : Nat) (k : Nat) : ∀ {σ : az_Hp} {v0 v1 v2 : Int} {r : (Int × az_Hp)}, fz_X11_isBad_64 n k σ v0 v1 v2 = some r → az_AW Z 4 64 [(13, v0), (0, v1), (0, v2), (31, 0)] [] σ (some (0, r.1), r.2) := by
  have hd1 : 1 ≤ d := by omega
  induction k with
  | zero => intro σ v0 v1 v2 r h; simp [fz_X11_isBad_64] at h
  | succ k ih =>
    intro σ v0 v1 v2 r h
    unfold fz_X11_isBad_64 at h
    refine az_il2 (pc := 64) C dX11_isBad_64 ?_
    refine az_al0 (pc := 65) C rfl rfl dX11_isBad_65 ?_
    refine az_getR (pc := 66) (c2 := 13) C h fl_X11_26 rfl rfl dX11_isBad_66 (fun h => ?_)
    refine az_al0 (pc := 69) C rfl rfl dX11_isBad_69 ?_
    refine az_getI (pc := 70) C fl_X11_285 rfl dX11_isBad_70 ?_
    refine az_iaload (pc := 73) C h dX11_isBad_73 (fun h => ?_)
    refine az_icmp_ge (pc := 74) (tgt := 153) C h dX11_isBad_74 (by decide) (fun _ h => ?_) (fun _ h => ?_)
    · refine az_ik0 (pc := 153) C dX11_isBad_153 ?_
      obtain rfl := Option.some.inj h
      exact az_zreturn (pc := 154) C (by decide) dX11_isBad_154 rfl
    refine az_il2 (pc := 77) C dX11_isBad_77 ?_
    refine az_ik1 (pc := 78) C dX11_isBad_78 ?_
    refine az_iadd (pc := 79) C dX11_isBad_79 ?_
    refine az_is3 (pc := 80) C rfl rfl dX11_isBad_80 ?_
    exact (A_X11_isBad_81 C hD n (fun h => ih h) n h)
set_option maxRecDepth 10000 in
set_option maxHeartbeats 4000000 in
theorem A_X11_isBad_7 {Z : az_Z} {d : Nat} (C : az_C Z yX11_isBad cX11_isBad 4 (some .boolean) d) (hD : 209 ≤ d) (n : Nat) (k : Nat) : ∀ {σ : az_Hp} {v0 v1 v2 : Int} {r : (Int × az_Hp)}, fz_X11_isBad_7 n k σ v0 v1 v2 = some r → az_AW Z 4 7 [(13, v0), (0, v1), (0, v2), (31, 0)] [] σ (some (0, r.1), r.2) := by
  have hd1 : 1 ≤ d := by omega
  induction k with
  | zero => intro σ v0 v1 v2 r h; simp [fz_X11_isBad_7] at h
  | succ k ih =>
    intro σ v0 v1 v2 r h
    unfold fz_X11_isBad_7 at h
    refine az_il2 (pc := 7) C dX11_isBad_7 ?_
    refine az_al0 (pc := 8) C rfl rfl dX11_isBad_8 ?_
    refine az_getR (pc := 9) (c2 := 13) C h fl_X11_26 rfl rfl dX11_isBad_9 (fun h => ?_)
    refine az_al0 (pc := 12) C rfl rfl dX11_isBad_12 ?_
    refine az_getI (pc := 13) C fl_X11_285 rfl dX11_isBad_13 ?_
    refine az_iaload (pc := 16) C h dX11_isBad_16 (fun h => ?_)
    refine az_icmp_ge (pc := 17) (tgt := 62) C h dX11_isBad_17 (by decide) (fun _ h => ?_) (fun _ h => ?_)
    · refine az_ik0 (pc := 62) C dX11_isBad_62 ?_
      refine az_is2 (pc := 63) C rfl rfl dX11_isBad_63 ?_
      exact (A_X11_isBad_64 C hD n n h)
    refine az_al0 (pc := 20) C rfl rfl dX11_isBad_20 ?_
    refine az_il2 (pc := 21) C dX11_isBad_21 ?_
    refine az_cV1pi (pc := 22) (c := 11) C hd1 h mv_X11_familyOf ml_X11_474 rfl (fun x hx => A_X11_familyOf (by omega) hx) dX11_isBad_22 (fun r3 h => ?_)
    refine az_il1 (pc := 25) C dX11_isBad_25 ?_
    refine az_icmp_ne (pc := 26) (tgt := 56) C h dX11_isBad_26 (by decide) (fun _ h => ?_) (fun _ h => ?_)
    · refine az_ii2 (pc := 56) C az_n1 rfl rfl dX11_isBad_56 ?_
      refine az_goto (pc := 59) (tgt := 7) C dX11_isBad_59 (by decide) ?_
      exact (ih h)
    refine az_al0 (pc := 29) C rfl rfl dX11_isBad_29 ?_
    refine az_il2 (pc := 30) C dX11_isBad_30 ?_
    refine az_cV1pi (pc := 31) (c := 11) C hd1 h mv_X11_badAlone ml_X11_535 rfl (fun x hx => A_X11_badAlone (by omega) n hx) dX11_isBad_31 (fun r4 h => ?_)
    refine az_if_ne (pc := 34) (tgt := 40) C h dX11_isBad_34 (by decide) (fun _ h => ?_) (fun _ h => ?_)
    · refine az_al0 (pc := 40) C rfl rfl dX11_isBad_40 ?_
      refine az_al0 (pc := 41) C rfl rfl dX11_isBad_41 ?_
      refine az_il2 (pc := 42) C dX11_isBad_42 ?_
      refine az_cV1pi (pc := 43) (c := 11) C hd1 h mv_X11_badAlone ml_X11_535 rfl (fun x hx => A_X11_badAlone (by omega) n hx) dX11_isBad_43 (fun r5 h => ?_)
      refine az_putI (pc := 46) C fl_X11_538 (Or.inl rfl) rfl dX11_isBad_46 ?_
      refine az_al0 (pc := 49) C rfl rfl dX11_isBad_49 ?_
      refine az_il2 (pc := 50) C dX11_isBad_50 ?_
      refine az_putI (pc := 51) C fl_X11_541 (Or.inl rfl) rfl dX11_isBad_51 ?_
      refine az_ik1 (pc := 54) C dX11_isBad_54 ?_
      obtain rfl := Option.some.inj h
      exact az_zreturn (pc := 55) C (by decide) dX11_isBad_55 rfl
    refine az_goto (pc := 37) (tgt := 56) C dX11_isBad_37 (by decide) ?_
    refine az_ii2 (pc := 56) C az_n1 rfl rfl dX11_isBad_56 ?_
    refine az_goto (pc := 59) (tgt := 7) C dX11_isBad_59 (by decide) ?_
    exact (ih h)
set_option maxRecDepth 10000 in
set_option maxHeartbeats 4000000 in
theorem A_X11_isBad_e {Z : az_Z} {d : Nat} (C : az_C Z yX11_isBad cX11_isBad 4 (some .boolean) d) (hD : 209 ≤ d) (n : Nat) {σ : az_Hp} {v0 v1 : Int} {r : (Int × az_Hp)} (h : fz_X11_isBad n σ v0 v1 = some r) : az_AW Z 4 0 [(13, v0), (0, v1), (31, 0), (31, 0)] [] σ (some (0, r.1), r.2) := by
  have hd1 : 1 ≤ d := by omega
  unfold fz_X11_isBad at h
  refine az_al0 (pc := 0) C rfl rfl dX11_isBad_0 ?_
  refine az_ikm1 (pc := 1) C dX11_isBad_1 ?_
  refine az_putI (pc := 2) C fl_X11_532 (Or.inl rfl) rfl dX11_isBad_2 ?_
  refine az_ik0 (pc := 5) C dX11_isBad_5 ?_
  refine az_is2 (pc := 6) C rfl rfl dX11_isBad_6 ?_
  exact (A_X11_isBad_7 C hD n n h)
set_option maxRecDepth 10000 in
set_option maxHeartbeats 4000000 in
theorem A_X11_isBad {l : Launch} {d : Nat} (hD : 209 ≤ d) (n : Nat) {σ : az_Hp} {v0 v1 : Int} {r : (Int × az_Hp)} (h : fz_X11_isBad n σ v0 v1 = some r) : az_AC l yX11_isBad cX11_isBad 4 (some .boolean) d [(13, v0), (0, v1)] σ (some (0, r.1), r.2) := az_AC.of mt_X11_isBad rfl rfl rfl (fun Z hZ C => A_X11_isBad_e C hD n h)
theorem dX11_isFrom_0 : decode cX11_isFrom 0 = .ok (.iload_n 0, 1) := by decide +kernel
theorem dX11_isFrom_1 : decode cX11_isFrom 1 = .ok (.iload_n 1, 1) := by decide +kernel
theorem dX11_isFrom_2 : decode cX11_isFrom 2 = .ok (.if_icmp .lt 12, 3) := by decide +kernel
theorem dX11_isFrom_5 : decode cX11_isFrom 5 = .ok (.iload_n 0, 1) := by decide +kernel
theorem dX11_isFrom_6 : decode cX11_isFrom 6 = .ok (.iload_n 2, 1) := by decide +kernel
theorem dX11_isFrom_7 : decode cX11_isFrom 7 = .ok (.if_icmp .gt 7, 3) := by decide +kernel
theorem dX11_isFrom_10 : decode cX11_isFrom 10 = .ok (.iconst 1, 1) := by decide +kernel
theorem dX11_isFrom_11 : decode cX11_isFrom 11 = .ok (.goto 4, 3) := by decide +kernel
theorem dX11_isFrom_14 : decode cX11_isFrom 14 = .ok (.iconst 0, 1) := by decide +kernel
theorem dX11_isFrom_15 : decode cX11_isFrom 15 = .ok (.ireturn, 1) := by decide +kernel
set_option maxRecDepth 10000 in
set_option maxHeartbeats 4000000 in
theorem A_X11_isFrom_e {Z : az_Z} {d : Nat} (C : az_C Z yX11_isFrom cX11_isFrom 3 (some .boolean) d) (hD : 1 ≤ d) {σ : az_Hp} {v0 v1 v2 : Int} {r : Int} (h : fz_X11_isFrom σ v0 v1 v2 = some r) : az_AW Z 3 0 [(0, v0), (0, v1), (0, v2)] [] σ (some (0, r), σ) := by
  have hd1 : 1 ≤ d := by omega
  unfold fz_X11_isFrom at h
  refine az_il0 (pc := 0) C dX11_isFrom_0 ?_
  refine az_il1 (pc := 1) C dX11_isFrom_1 ?_
  refine az_icmp_lt (pc := 2) (tgt := 14) C h dX11_isFrom_2 (by decide) (fun _ h => ?_) (fun _ h => ?_)
  · refine az_ik0 (pc := 14) C dX11_isFrom_14 ?_
    obtain rfl := Option.some.inj h
    exact az_zreturn (pc := 15) C (by decide) dX11_isFrom_15 rfl
  refine az_il0 (pc := 5) C dX11_isFrom_5 ?_
  refine az_il2 (pc := 6) C dX11_isFrom_6 ?_
  refine az_icmp_gt (pc := 7) (tgt := 14) C h dX11_isFrom_7 (by decide) (fun _ h => ?_) (fun _ h => ?_)
  · refine az_ik0 (pc := 14) C dX11_isFrom_14 ?_
    obtain rfl := Option.some.inj h
    exact az_zreturn (pc := 15) C (by decide) dX11_isFrom_15 rfl
  refine az_ik1 (pc := 10) C dX11_isFrom_10 ?_
  refine az_goto (pc := 11) (tgt := 15) C dX11_isFrom_11 (by decide) ?_
  obtain rfl := Option.some.inj h
  exact az_zreturn (pc := 15) C (by decide) dX11_isFrom_15 rfl
set_option maxRecDepth 10000 in
set_option maxHeartbeats 4000000 in
theorem A_X11_isFrom {l : Launch} {d : Nat} (hD : 1 ≤ d) {σ : az_Hp} {v0 v1 v2 : Int} {r : Int} (h : fz_X11_isFrom σ v0 v1 v2 = some r) : az_AC l yX11_isFrom cX11_isFrom 3 (some .boolean) d [(0, v0), (0, v1), (0, v2)] σ (some (0, r), σ) := az_AC.of mt_X11_isFrom rfl rfl rfl (fun Z hZ C => A_X11_isFrom_e C hD h)
theorem dX11_isFamily_0 : decode cX11_isFamily 0 = .ok (.iload_n 1, 1) := by decide +kernel
theorem dX11_isFamily_1 : decode cX11_isFamily 1 = .ok (.iconst 0, 1) := by decide +kernel
theorem dX11_isFamily_2 : decode cX11_isFamily 2 = .ok (.aload_n 0, 1) := by decide +kernel
theorem dX11_isFamily_3 : decode cX11_isFamily 3 = .ok (.getfield 23, 3) := by decide +kernel
theorem dX11_isFamily_6 : decode cX11_isFamily 6 = .ok (.aload_n 0, 1) := by decide +kernel
theorem dX11_isFamily_7 : decode cX11_isFamily 7 = .ok (.getfield 378, 3) := by decide +kernel
theorem dX11_isFamily_10 : decode cX11_isFamily 10 = .ok (.iaload, 1) := by decide +kernel
theorem dX11_isFamily_11 : decode cX11_isFamily 11 = .ok (.iconst 1, 1) := by decide +kernel
theorem dX11_isFamily_12 : decode cX11_isFamily 12 = .ok (.isub, 1) := by decide +kernel
theorem dX11_isFamily_13 : decode cX11_isFamily 13 = .ok (.invokestatic 354, 3) := by decide +kernel
theorem dX11_isFamily_16 : decode cX11_isFamily 16 = .ok (.ireturn, 1) := by decide +kernel
set_option maxRecDepth 10000 in
set_option maxHeartbeats 4000000 in
theorem A_X11_isFamily_e {Z : az_Z} {d : Nat} (C : az_C Z yX11_isFamily cX11_isFamily 2 (some .boolean) d) (hD : 2 ≤ d) {σ : az_Hp} {v0 v1 : Int} {r : Int} (h : fz_X11_isFamily σ v0 v1 = some r) : az_AW Z 2 0 [(13, v0), (0, v1)] [] σ (some (0, r), σ) := by
  have hd1 : 1 ≤ d := by omega
  unfold fz_X11_isFamily at h
  refine az_il1 (pc := 0) C dX11_isFamily_0 ?_
  refine az_ik0 (pc := 1) C dX11_isFamily_1 ?_
  refine az_al0 (pc := 2) C rfl rfl dX11_isFamily_2 ?_
  refine az_getR (pc := 3) (c2 := 13) C h fl_X11_23 rfl rfl dX11_isFamily_3 (fun h => ?_)
  refine az_al0 (pc := 6) C rfl rfl dX11_isFamily_6 ?_
  refine az_getI (pc := 7) C fl_X11_378 rfl dX11_isFamily_7 ?_
  refine az_iaload (pc := 10) C h dX11_isFamily_10 (fun h => ?_)
  refine az_ik1 (pc := 11) C dX11_isFamily_11 ?_
  refine az_isub (pc := 12) C dX11_isFamily_12 ?_
  refine az_cS3pi (pc := 13) C hd1 h ms_X11_isFrom ml_X11_354 rfl (fun x hx => A_X11_isFrom (by omega) hx) dX11_isFamily_13 (fun r3 h => ?_)
  obtain ⟨hz, h⟩ := az_zif h
  obtain rfl := Option.some.inj h
  exact az_zreturn (pc := 16) C hz dX11_isFamily_16 rfl
set_option maxRecDepth 10000 in
set_option maxHeartbeats 4000000 in
theorem A_X11_isFamily {l : Launch} {d : Nat} (hD : 2 ≤ d) {σ : az_Hp} {v0 v1 : Int} {r : Int} (h : fz_X11_isFamily σ v0 v1 = some r) : az_AC l yX11_isFamily cX11_isFamily 2 (some .boolean) d [(13, v0), (0, v1)] σ (some (0, r), σ) := az_AC.of mt_X11_isFamily rfl rfl rfl (fun Z hZ C => A_X11_isFamily_e C hD h)
theorem dX11_refuse_0 : decode cX11_refuse 0 = .ok (.aload_n 0, 1) := by decide +kernel
theorem dX11_refuse_1 : decode cX11_refuse 1 = .ok (.iload_n 1, 1) := by decide +kernel
theorem dX11_refuse_2 : decode cX11_refuse 2 = .ok (.putfield 213, 3) := by decide +kernel
theorem dX11_refuse_5 : decode cX11_refuse 5 = .ok (.iconst (-1), 1) := by decide +kernel
theorem dX11_refuse_6 : decode cX11_refuse 6 = .ok (.ireturn, 1) := by decide +kernel
set_option maxRecDepth 10000 in
set_option maxHeartbeats 4000000 in
theorem A_X11_refuse_e {Z : az_Z} {d : Nat} (C : az_C Z yX11_refuse cX11_refuse 2 (some .int) d) (hD : 1 ≤ d) {σ : az_Hp} {v0 v1 : Int} {r : (Int × az_Hp)} (h : fz_X11_refuse σ v0 v1 = some r) : az_AW Z 2 0 [(13, v0), (0, v1)] [] σ (some (0, r.1), r.2) := by
  have hd1 : 1 ≤ d := by omega
  unfold fz_X11_refuse at h
  refine az_al0 (pc := 0) C rfl rfl dX11_refuse_0 ?_
  refine az_il1 (pc := 1) C dX11_refuse_1 ?_
  refine az_putI (pc := 2) C fl_X11_213 (Or.inl rfl) rfl dX11_refuse_2 ?_
  refine az_ikm1 (pc := 5) C dX11_refuse_5 ?_
  obtain rfl := Option.some.inj h
  exact az_ireturn (pc := 6) C dX11_refuse_6 rfl
set_option maxRecDepth 10000 in
set_option maxHeartbeats 4000000 in
theorem A_X11_refuse {l : Launch} {d : Nat} (hD : 1 ≤ d) {σ : az_Hp} {v0 v1 : Int} {r : (Int × az_Hp)} (h : fz_X11_refuse σ v0 v1 = some r) : az_AC l yX11_refuse cX11_refuse 2 (some .int) d [(13, v0), (0, v1)] σ (some (0, r.1), r.2) := az_AC.of mt_X11_refuse rfl rfl rfl (fun Z hZ C => A_X11_refuse_e C hD h)
theorem dX11_bad__0 : decode cX11_bad_ 0 = .ok (.iload_n 2, 1) := by decide +kernel
theorem dX11_bad__1 : decode cX11_bad_ 1 = .ok (.iconst 0, 1) := by decide +kernel
theorem dX11_bad__2 : decode cX11_bad_ 2 = .ok (.iconst 2, 1) := by decide +kernel
theorem dX11_bad__3 : decode cX11_bad_ 3 = .ok (.invokestatic 354, 3) := by decide +kernel
theorem dX11_bad__6 : decode cX11_bad_ 6 = .ok (.ifCond .ne 9, 3) := by decide +kernel
theorem dX11_bad__9 : decode cX11_bad_ 9 = .ok (.aload_n 0, 1) := by decide +kernel
theorem dX11_bad__10 : decode cX11_bad_ 10 = .ok (.iconst 1, 1) := by decide +kernel
theorem dX11_bad__11 : decode cX11_bad_ 11 = .ok (.invokevirtual 372, 3) := by decide +kernel
theorem dX11_bad__14 : decode cX11_bad_ 14 = .ok (.ireturn, 1) := by decide +kernel
theorem dX11_bad__15 : decode cX11_bad_ 15 = .ok (.aload_n 0, 1) := by decide +kernel
theorem dX11_bad__16 : decode cX11_bad_ 16 = .ok (.iload_n 1, 1) := by decide +kernel
theorem dX11_bad__17 : decode cX11_bad_ 17 = .ok (.invokevirtual 514, 3) := by decide +kernel
theorem dX11_bad__20 : decode cX11_bad_ 20 = .ok (.ifCond .ne 9, 3) := by decide +kernel
theorem dX11_bad__23 : decode cX11_bad_ 23 = .ok (.aload_n 0, 1) := by decide +kernel
theorem dX11_bad__24 : decode cX11_bad_ 24 = .ok (.iconst 2, 1) := by decide +kernel
theorem dX11_bad__25 : decode cX11_bad_ 25 = .ok (.invokevirtual 372, 3) := by decide +kernel
theorem dX11_bad__28 : decode cX11_bad_ 28 = .ok (.ireturn, 1) := by decide +kernel
theorem dX11_bad__29 : decode cX11_bad_ 29 = .ok (.aload_n 0, 1) := by decide +kernel
theorem dX11_bad__30 : decode cX11_bad_ 30 = .ok (.iload_n 1, 1) := by decide +kernel
theorem dX11_bad__31 : decode cX11_bad_ 31 = .ok (.invokevirtual 547, 3) := by decide +kernel
theorem dX11_bad__34 : decode cX11_bad_ 34 = .ok (.ifCond .ne 9, 3) := by decide +kernel
theorem dX11_bad__37 : decode cX11_bad_ 37 = .ok (.aload_n 0, 1) := by decide +kernel
theorem dX11_bad__38 : decode cX11_bad_ 38 = .ok (.iconst 5, 1) := by decide +kernel
theorem dX11_bad__39 : decode cX11_bad_ 39 = .ok (.invokevirtual 372, 3) := by decide +kernel
theorem dX11_bad__42 : decode cX11_bad_ 42 = .ok (.ireturn, 1) := by decide +kernel
theorem dX11_bad__43 : decode cX11_bad_ 43 = .ok (.aload_n 0, 1) := by decide +kernel
theorem dX11_bad__44 : decode cX11_bad_ 44 = .ok (.iload_n 2, 1) := by decide +kernel
theorem dX11_bad__45 : decode cX11_bad_ 45 = .ok (.ifCond .ne 10, 3) := by decide +kernel
theorem dX11_bad__48 : decode cX11_bad_ 48 = .ok (.aload_n 0, 1) := by decide +kernel
theorem dX11_bad__49 : decode cX11_bad_ 49 = .ok (.getfield 538, 3) := by decide +kernel
theorem dX11_bad__52 : decode cX11_bad_ 52 = .ok (.goto 19, 3) := by decide +kernel
theorem dX11_bad__55 : decode cX11_bad_ 55 = .ok (.iload_n 2, 1) := by decide +kernel
theorem dX11_bad__56 : decode cX11_bad_ 56 = .ok (.iconst 1, 1) := by decide +kernel
theorem dX11_bad__57 : decode cX11_bad_ 57 = .ok (.if_icmp .ne 10, 3) := by decide +kernel
theorem dX11_bad__60 : decode cX11_bad_ 60 = .ok (.aload_n 0, 1) := by decide +kernel
theorem dX11_bad__61 : decode cX11_bad_ 61 = .ok (.getfield 541, 3) := by decide +kernel
theorem dX11_bad__64 : decode cX11_bad_ 64 = .ok (.goto 7, 3) := by decide +kernel
theorem dX11_bad__67 : decode cX11_bad_ 67 = .ok (.aload_n 0, 1) := by decide +kernel
theorem dX11_bad__68 : decode cX11_bad_ 68 = .ok (.getfield 532, 3) := by decide +kernel
theorem dX11_bad__71 : decode cX11_bad_ 71 = .ok (.invokevirtual 401, 3) := by decide +kernel
theorem dX11_bad__74 : decode cX11_bad_ 74 = .ok (.ireturn, 1) := by decide +kernel
set_option maxRecDepth 10000 in
set_option maxHeartbeats 4000000 in
theorem A_X11_bad__e {Z : az_Z} {d : Nat} (C : az_C Z yX11_bad_ cX11_bad_ 3 (some .int) d) (hD : 210 ≤ d) (n : Nat) {σ : az_Hp} {v0 v1 v2 : Int} {r : (Int × az_Hp)} (h : fz_X11_bad_ n σ v0 v1 v2 = some r) : az_AW Z 3 0 [(13, v0), (0, v1), (0, v2)] [] σ (some (0, r.1), r.2) := by
  have hd1 : 1 ≤ d := by omega
  unfold fz_X11_bad_ at h
  refine az_il2 (pc := 0) C dX11_bad__0 ?_
  refine az_ik0 (pc := 1) C dX11_bad__1 ?_
  refine az_ik2 (pc := 2) C dX11_bad__2 ?_
  refine az_cS3pi (pc := 3) C hd1 h ms_X11_isFrom ml_X11_354 rfl (fun x hx => A_X11_isFrom (by omega) hx) dX11_bad__3 (fun r1 h => ?_)
  refine az_if_ne (pc := 6) (tgt := 15) C h dX11_bad__6 (by decide) (fun _ h => ?_) (fun _ h => ?_)
  · refine az_al0 (pc := 15) C rfl rfl dX11_bad__15 ?_
    refine az_il1 (pc := 16) C dX11_bad__16 ?_
    refine az_cV1pi (pc := 17) (c := 11) C hd1 h mv_X11_isFamily ml_X11_514 rfl (fun x hx => A_X11_isFamily (by omega) hx) dX11_bad__17 (fun r2 h => ?_)
    refine az_if_ne (pc := 20) (tgt := 29) C h dX11_bad__20 (by decide) (fun _ h => ?_) (fun _ h => ?_)
    · refine az_al0 (pc := 29) C rfl rfl dX11_bad__29 ?_
      refine az_il1 (pc := 30) C dX11_bad__30 ?_
      refine az_cV1ii (pc := 31) (c := 11) C hd1 h mv_X11_isBad ml_X11_547 rfl (fun x hx => A_X11_isBad (by omega) n hx) dX11_bad__31 (fun r3 h => ?_)
      refine az_if_ne (pc := 34) (tgt := 43) C h dX11_bad__34 (by decide) (fun _ h => ?_) (fun _ h => ?_)
      · refine az_al0 (pc := 43) C rfl rfl dX11_bad__43 ?_
        refine az_il2 (pc := 44) C dX11_bad__44 ?_
        refine az_if_ne (pc := 45) (tgt := 55) C h dX11_bad__45 (by decide) (fun _ h => ?_) (fun _ h => ?_)
        · refine az_il2 (pc := 55) C dX11_bad__55 ?_
          refine az_ik1 (pc := 56) C dX11_bad__56 ?_
          refine az_icmp_ne (pc := 57) (tgt := 67) C h dX11_bad__57 (by decide) (fun _ h => ?_) (fun _ h => ?_)
          · refine az_al0 (pc := 67) C rfl rfl dX11_bad__67 ?_
            refine az_getI (pc := 68) C fl_X11_532 rfl dX11_bad__68 ?_
            refine az_cV1ii (pc := 71) (c := 11) C hd1 h mv_X11_gives ml_X11_401 rfl (fun x hx => A_X11_gives (by omega) hx) dX11_bad__71 (fun r4 h => ?_)
            obtain rfl := Option.some.inj h
            exact az_ireturn (pc := 74) C dX11_bad__74 rfl
          refine az_al0 (pc := 60) C rfl rfl dX11_bad__60 ?_
          refine az_getI (pc := 61) C fl_X11_541 rfl dX11_bad__61 ?_
          refine az_goto (pc := 64) (tgt := 71) C dX11_bad__64 (by decide) ?_
          refine az_cV1ii (pc := 71) (c := 11) C hd1 h mv_X11_gives ml_X11_401 rfl (fun x hx => A_X11_gives (by omega) hx) dX11_bad__71 (fun r5 h => ?_)
          obtain rfl := Option.some.inj h
          exact az_ireturn (pc := 74) C dX11_bad__74 rfl
        refine az_al0 (pc := 48) C rfl rfl dX11_bad__48 ?_
        refine az_getI (pc := 49) C fl_X11_538 rfl dX11_bad__49 ?_
        refine az_goto (pc := 52) (tgt := 71) C dX11_bad__52 (by decide) ?_
        refine az_cV1ii (pc := 71) (c := 11) C hd1 h mv_X11_gives ml_X11_401 rfl (fun x hx => A_X11_gives (by omega) hx) dX11_bad__71 (fun r6 h => ?_)
        obtain rfl := Option.some.inj h
        exact az_ireturn (pc := 74) C dX11_bad__74 rfl
      refine az_al0 (pc := 37) C rfl rfl dX11_bad__37 ?_
      refine az_ik5 (pc := 38) C dX11_bad__38 ?_
      refine az_cV1ii (pc := 39) (c := 11) C hd1 h mv_X11_refuse ml_X11_372 rfl (fun x hx => A_X11_refuse (by omega) hx) dX11_bad__39 (fun r7 h => ?_)
      obtain rfl := Option.some.inj h
      exact az_ireturn (pc := 42) C dX11_bad__42 rfl
    refine az_al0 (pc := 23) C rfl rfl dX11_bad__23 ?_
    refine az_ik2 (pc := 24) C dX11_bad__24 ?_
    refine az_cV1ii (pc := 25) (c := 11) C hd1 h mv_X11_refuse ml_X11_372 rfl (fun x hx => A_X11_refuse (by omega) hx) dX11_bad__25 (fun r8 h => ?_)
    obtain rfl := Option.some.inj h
    exact az_ireturn (pc := 28) C dX11_bad__28 rfl
  refine az_al0 (pc := 9) C rfl rfl dX11_bad__9 ?_
  refine az_ik1 (pc := 10) C dX11_bad__10 ?_
  refine az_cV1ii (pc := 11) (c := 11) C hd1 h mv_X11_refuse ml_X11_372 rfl (fun x hx => A_X11_refuse (by omega) hx) dX11_bad__11 (fun r9 h => ?_)
  obtain rfl := Option.some.inj h
  exact az_ireturn (pc := 14) C dX11_bad__14 rfl
set_option maxRecDepth 10000 in
set_option maxHeartbeats 4000000 in
theorem A_X11_bad_ {l : Launch} {d : Nat} (hD : 210 ≤ d) (n : Nat) {σ : az_Hp} {v0 v1 v2 : Int} {r : (Int × az_Hp)} (h : fz_X11_bad_ n σ v0 v1 v2 = some r) : az_AC l yX11_bad_ cX11_bad_ 3 (some .int) d [(13, v0), (0, v1), (0, v2)] σ (some (0, r.1), r.2) := az_AC.of mt_X11_bad_ rfl rfl rfl (fun Z hZ C => A_X11_bad__e C hD n h)
theorem dX11_isEquation_0 : decode cX11_isEquation 0 = .ok (.iload_n 1, 1) := by decide +kernel
theorem dX11_isEquation_1 : decode cX11_isEquation 1 = .ok (.iconst 0, 1) := by decide +kernel
theorem dX11_isEquation_2 : decode cX11_isEquation 2 = .ok (.aload_n 0, 1) := by decide +kernel
theorem dX11_isEquation_3 : decode cX11_isEquation 3 = .ok (.getfield 26, 3) := by decide +kernel
theorem dX11_isEquation_6 : decode cX11_isEquation 6 = .ok (.aload_n 0, 1) := by decide +kernel
theorem dX11_isEquation_7 : decode cX11_isEquation 7 = .ok (.getfield 378, 3) := by decide +kernel
theorem dX11_isEquation_10 : decode cX11_isEquation 10 = .ok (.iaload, 1) := by decide +kernel
theorem dX11_isEquation_11 : decode cX11_isEquation 11 = .ok (.iconst 1, 1) := by decide +kernel
theorem dX11_isEquation_12 : decode cX11_isEquation 12 = .ok (.isub, 1) := by decide +kernel
theorem dX11_isEquation_13 : decode cX11_isEquation 13 = .ok (.invokestatic 354, 3) := by decide +kernel
theorem dX11_isEquation_16 : decode cX11_isEquation 16 = .ok (.ireturn, 1) := by decide +kernel
set_option maxRecDepth 10000 in
set_option maxHeartbeats 4000000 in
theorem A_X11_isEquation_e {Z : az_Z} {d : Nat} (C : az_C Z yX11_isEquation cX11_isEquation 2 (some .boolean) d) (hD : 2 ≤ d) {σ : az_Hp} {v0 v1 : Int} {r : Int} (h : fz_X11_isEquation σ v0 v1 = some r) : az_AW Z 2 0 [(13, v0), (0, v1)] [] σ (some (0, r), σ) := by
  have hd1 : 1 ≤ d := by omega
  unfold fz_X11_isEquation at h
  refine az_il1 (pc := 0) C dX11_isEquation_0 ?_
  refine az_ik0 (pc := 1) C dX11_isEquation_1 ?_
  refine az_al0 (pc := 2) C rfl rfl dX11_isEquation_2 ?_
  refine az_getR (pc := 3) (c2 := 13) C h fl_X11_26 rfl rfl dX11_isEquation_3 (fun h => ?_)
  refine az_al0 (pc := 6) C rfl rfl dX11_isEquation_6 ?_
  refine az_getI (pc := 7) C fl_X11_378 rfl dX11_isEquation_7 ?_
  refine az_iaload (pc := 10) C h dX11_isEquation_10 (fun h => ?_)
  refine az_ik1 (pc := 11) C dX11_isEquation_11 ?_
  refine az_isub (pc := 12) C dX11_isEquation_12 ?_
  refine az_cS3pi (pc := 13) C hd1 h ms_X11_isFrom ml_X11_354 rfl (fun x hx => A_X11_isFrom (by omega) hx) dX11_isEquation_13 (fun r3 h => ?_)
  obtain ⟨hz, h⟩ := az_zif h
  obtain rfl := Option.some.inj h
  exact az_zreturn (pc := 16) C hz dX11_isEquation_16 rfl
set_option maxRecDepth 10000 in
set_option maxHeartbeats 4000000 in
theorem A_X11_isEquation {l : Launch} {d : Nat} (hD : 2 ≤ d) {σ : az_Hp} {v0 v1 : Int} {r : Int} (h : fz_X11_isEquation σ v0 v1 = some r) : az_AC l yX11_isEquation cX11_isEquation 2 (some .boolean) d [(13, v0), (0, v1)] σ (some (0, r), σ) := az_AC.of mt_X11_isEquation rfl rfl rfl (fun Z hZ C => A_X11_isEquation_e C hD h)
theorem dX11_compatible_0 : decode cX11_compatible 0 = .ok (.aload_n 0, 1) := by decide +kernel
theorem dX11_compatible_1 : decode cX11_compatible 1 = .ok (.iload_n 1, 1) := by decide +kernel
theorem dX11_compatible_2 : decode cX11_compatible 2 = .ok (.invokevirtual 471, 3) := by decide +kernel
theorem dX11_compatible_5 : decode cX11_compatible 5 = .ok (.ifCond .eq 11, 3) := by decide +kernel
theorem dX11_compatible_8 : decode cX11_compatible 8 = .ok (.aload_n 0, 1) := by decide +kernel
theorem dX11_compatible_9 : decode cX11_compatible 9 = .ok (.iload_n 2, 1) := by decide +kernel
theorem dX11_compatible_10 : decode cX11_compatible 10 = .ok (.invokevirtual 471, 3) := by decide +kernel
theorem dX11_compatible_13 : decode cX11_compatible 13 = .ok (.ifCond .ne 9, 3) := by decide +kernel
theorem dX11_compatible_16 : decode cX11_compatible 16 = .ok (.aload_n 0, 1) := by decide +kernel
theorem dX11_compatible_17 : decode cX11_compatible 17 = .ok (.iconst 2, 1) := by decide +kernel
theorem dX11_compatible_18 : decode cX11_compatible 18 = .ok (.invokevirtual 372, 3) := by decide +kernel
theorem dX11_compatible_21 : decode cX11_compatible 21 = .ok (.ireturn, 1) := by decide +kernel
theorem dX11_compatible_22 : decode cX11_compatible 22 = .ok (.aload_n 0, 1) := by decide +kernel
theorem dX11_compatible_23 : decode cX11_compatible 23 = .ok (.iload_n 1, 1) := by decide +kernel
theorem dX11_compatible_24 : decode cX11_compatible 24 = .ok (.invokevirtual 474, 3) := by decide +kernel
theorem dX11_compatible_27 : decode cX11_compatible 27 = .ok (.aload_n 0, 1) := by decide +kernel
theorem dX11_compatible_28 : decode cX11_compatible 28 = .ok (.iload_n 2, 1) := by decide +kernel
theorem dX11_compatible_29 : decode cX11_compatible 29 = .ok (.invokevirtual 474, 3) := by decide +kernel
theorem dX11_compatible_32 : decode cX11_compatible 32 = .ok (.if_icmp .eq 11, 3) := by decide +kernel
theorem dX11_compatible_35 : decode cX11_compatible 35 = .ok (.aload_n 0, 1) := by decide +kernel
theorem dX11_compatible_36 : decode cX11_compatible 36 = .ok (.iconst 5, 1) := by decide +kernel
theorem dX11_compatible_37 : decode cX11_compatible 37 = .ok (.invokevirtual 372, 3) := by decide +kernel
theorem dX11_compatible_40 : decode cX11_compatible 40 = .ok (.goto 26, 3) := by decide +kernel
theorem dX11_compatible_43 : decode cX11_compatible 43 = .ok (.aload_n 0, 1) := by decide +kernel
theorem dX11_compatible_44 : decode cX11_compatible 44 = .ok (.aload_n 0, 1) := by decide +kernel
theorem dX11_compatible_45 : decode cX11_compatible 45 = .ok (.getfield 109, 3) := by decide +kernel
theorem dX11_compatible_48 : decode cX11_compatible 48 = .ok (.bipush 16, 2) := by decide +kernel
theorem dX11_compatible_50 : decode cX11_compatible 50 = .ok (.iload_n 1, 1) := by decide +kernel
theorem dX11_compatible_51 : decode cX11_compatible 51 = .ok (.imul, 1) := by decide +kernel
theorem dX11_compatible_52 : decode cX11_compatible 52 = .ok (.iload_n 2, 1) := by decide +kernel
theorem dX11_compatible_53 : decode cX11_compatible 53 = .ok (.iadd, 1) := by decide +kernel
theorem dX11_compatible_54 : decode cX11_compatible 54 = .ok (.baload, 1) := by decide +kernel
theorem dX11_compatible_55 : decode cX11_compatible 55 = .ok (.ifCond .eq 7, 3) := by decide +kernel
theorem dX11_compatible_58 : decode cX11_compatible 58 = .ok (.iconst 1, 1) := by decide +kernel
theorem dX11_compatible_59 : decode cX11_compatible 59 = .ok (.goto 4, 3) := by decide +kernel
theorem dX11_compatible_62 : decode cX11_compatible 62 = .ok (.iconst 0, 1) := by decide +kernel
theorem dX11_compatible_63 : decode cX11_compatible 63 = .ok (.invokevirtual 401, 3) := by decide +kernel
theorem dX11_compatible_66 : decode cX11_compatible 66 = .ok (.ireturn, 1) := by decide +kernel
set_option maxRecDepth 10000 in
set_option maxHeartbeats 4000000 in
theorem A_X11_compatible_e {Z : az_Z} {d : Nat} (C : az_C Z yX11_compatible cX11_compatible 3 (some .int) d) (hD : 3 ≤ d) {σ : az_Hp} {v0 v1 v2 : Int} {r : (Int × az_Hp)} (h : fz_X11_compatible σ v0 v1 v2 = some r) : az_AW Z 3 0 [(13, v0), (0, v1), (0, v2)] [] σ (some (0, r.1), r.2) := by
  have hd1 : 1 ≤ d := by omega
  unfold fz_X11_compatible at h
  refine az_al0 (pc := 0) C rfl rfl dX11_compatible_0 ?_
  refine az_il1 (pc := 1) C dX11_compatible_1 ?_
  refine az_cV1pi (pc := 2) (c := 11) C hd1 h mv_X11_isEquation ml_X11_471 rfl (fun x hx => A_X11_isEquation (by omega) hx) dX11_compatible_2 (fun r1 h => ?_)
  refine az_if_eq (pc := 5) (tgt := 16) C h dX11_compatible_5 (by decide) (fun _ h => ?_) (fun _ h => ?_)
  · refine az_al0 (pc := 16) C rfl rfl dX11_compatible_16 ?_
    refine az_ik2 (pc := 17) C dX11_compatible_17 ?_
    refine az_cV1ii (pc := 18) (c := 11) C hd1 h mv_X11_refuse ml_X11_372 rfl (fun x hx => A_X11_refuse (by omega) hx) dX11_compatible_18 (fun r2 h => ?_)
    obtain rfl := Option.some.inj h
    exact az_ireturn (pc := 21) C dX11_compatible_21 rfl
  refine az_al0 (pc := 8) C rfl rfl dX11_compatible_8 ?_
  refine az_il2 (pc := 9) C dX11_compatible_9 ?_
  refine az_cV1pi (pc := 10) (c := 11) C hd1 h mv_X11_isEquation ml_X11_471 rfl (fun x hx => A_X11_isEquation (by omega) hx) dX11_compatible_10 (fun r3 h => ?_)
  refine az_if_ne (pc := 13) (tgt := 22) C h dX11_compatible_13 (by decide) (fun _ h => ?_) (fun _ h => ?_)
  · refine az_al0 (pc := 22) C rfl rfl dX11_compatible_22 ?_
    refine az_il1 (pc := 23) C dX11_compatible_23 ?_
    refine az_cV1pi (pc := 24) (c := 11) C hd1 h mv_X11_familyOf ml_X11_474 rfl (fun x hx => A_X11_familyOf (by omega) hx) dX11_compatible_24 (fun r4 h => ?_)
    refine az_al0 (pc := 27) C rfl rfl dX11_compatible_27 ?_
    refine az_il2 (pc := 28) C dX11_compatible_28 ?_
    refine az_cV1pi (pc := 29) (c := 11) C hd1 h mv_X11_familyOf ml_X11_474 rfl (fun x hx => A_X11_familyOf (by omega) hx) dX11_compatible_29 (fun r5 h => ?_)
    refine az_icmp_eq (pc := 32) (tgt := 43) C h dX11_compatible_32 (by decide) (fun _ h => ?_) (fun _ h => ?_)
    · refine az_al0 (pc := 43) C rfl rfl dX11_compatible_43 ?_
      refine az_al0 (pc := 44) C rfl rfl dX11_compatible_44 ?_
      refine az_getR (pc := 45) (c2 := 15) C h fl_X11_109 rfl rfl dX11_compatible_45 (fun h => ?_)
      refine az_bk16 (pc := 48) C dX11_compatible_48 ?_
      refine az_il1 (pc := 50) C dX11_compatible_50 ?_
      refine az_imul (pc := 51) C dX11_compatible_51 ?_
      refine az_il2 (pc := 52) C dX11_compatible_52 ?_
      refine az_iadd (pc := 53) C dX11_compatible_53 ?_
      refine az_zaload (pc := 54) C h dX11_compatible_54 (fun h => ?_)
      refine az_if_eq (pc := 55) (tgt := 62) C h dX11_compatible_55 (by decide) (fun _ h => ?_) (fun _ h => ?_)
      · refine az_ik0 (pc := 62) C dX11_compatible_62 ?_
        refine az_cV1ii (pc := 63) (c := 11) C hd1 h mv_X11_gives ml_X11_401 rfl (fun x hx => A_X11_gives (by omega) hx) dX11_compatible_63 (fun r8 h => ?_)
        obtain rfl := Option.some.inj h
        exact az_ireturn (pc := 66) C dX11_compatible_66 rfl
      refine az_ik1 (pc := 58) C dX11_compatible_58 ?_
      refine az_goto (pc := 59) (tgt := 63) C dX11_compatible_59 (by decide) ?_
      refine az_cV1ii (pc := 63) (c := 11) C hd1 h mv_X11_gives ml_X11_401 rfl (fun x hx => A_X11_gives (by omega) hx) dX11_compatible_63 (fun r9 h => ?_)
      obtain rfl := Option.some.inj h
      exact az_ireturn (pc := 66) C dX11_compatible_66 rfl
    refine az_al0 (pc := 35) C rfl rfl dX11_compatible_35 ?_
    refine az_ik5 (pc := 36) C dX11_compatible_36 ?_
    refine az_cV1ii (pc := 37) (c := 11) C hd1 h mv_X11_refuse ml_X11_372 rfl (fun x hx => A_X11_refuse (by omega) hx) dX11_compatible_37 (fun r10 h => ?_)
    refine az_goto (pc := 40) (tgt := 66) C dX11_compatible_40 (by decide) ?_
    obtain rfl := Option.some.inj h
    exact az_ireturn (pc := 66) C dX11_compatible_66 rfl
  refine az_al0 (pc := 16) C rfl rfl dX11_compatible_16 ?_
  refine az_ik2 (pc := 17) C dX11_compatible_17 ?_
  refine az_cV1ii (pc := 18) (c := 11) C hd1 h mv_X11_refuse ml_X11_372 rfl (fun x hx => A_X11_refuse (by omega) hx) dX11_compatible_18 (fun r11 h => ?_)
  obtain rfl := Option.some.inj h
  exact az_ireturn (pc := 21) C dX11_compatible_21 rfl
set_option maxRecDepth 10000 in
set_option maxHeartbeats 4000000 in
theorem A_X11_compatible {l : Launch} {d : Nat} (hD : 3 ≤ d) {σ : az_Hp} {v0 v1 v2 : Int} {r : (Int × az_Hp)} (h : fz_X11_compatible σ v0 v1 v2 = some r) : az_AC l yX11_compatible cX11_compatible 3 (some .int) d [(13, v0), (0, v1), (0, v2)] σ (some (0, r.1), r.2) := az_AC.of mt_X11_compatible rfl rfl rfl (fun Z hZ C => A_X11_compatible_e C hD h)
theorem dX11_letterOf_0 : decode cX11_letterOf 0 = .ok (.iconst 0, 1) := by decide +kernel
theorem dX11_letterOf_1 : decode cX11_letterOf 1 = .ok (.istore_n 2, 1) := by decide +kernel
theorem dX11_letterOf_2 : decode cX11_letterOf 2 = .ok (.iload_n 2, 1) := by decide +kernel
theorem dX11_letterOf_3 : decode cX11_letterOf 3 = .ok (.aload_n 0, 1) := by decide +kernel
theorem dX11_letterOf_4 : decode cX11_letterOf 4 = .ok (.getfield 483, 3) := by decide +kernel
theorem dX11_letterOf_7 : decode cX11_letterOf 7 = .ok (.if_icmp .ge 21, 3) := by decide +kernel
theorem dX11_letterOf_10 : decode cX11_letterOf 10 = .ok (.aload_n 0, 1) := by decide +kernel
theorem dX11_letterOf_11 : decode cX11_letterOf 11 = .ok (.getfield 117, 3) := by decide +kernel
theorem dX11_letterOf_14 : decode cX11_letterOf 14 = .ok (.iload_n 2, 1) := by decide +kernel
theorem dX11_letterOf_15 : decode cX11_letterOf 15 = .ok (.iaload, 1) := by decide +kernel
theorem dX11_letterOf_16 : decode cX11_letterOf 16 = .ok (.iload_n 1, 1) := by decide +kernel
theorem dX11_letterOf_17 : decode cX11_letterOf 17 = .ok (.if_icmp .ne 5, 3) := by decide +kernel
theorem dX11_letterOf_20 : decode cX11_letterOf 20 = .ok (.iload_n 2, 1) := by decide +kernel
theorem dX11_letterOf_21 : decode cX11_letterOf 21 = .ok (.ireturn, 1) := by decide +kernel
theorem dX11_letterOf_22 : decode cX11_letterOf 22 = .ok (.iinc 2 1, 3) := by decide +kernel
theorem dX11_letterOf_25 : decode cX11_letterOf 25 = .ok (.goto (-23), 3) := by decide +kernel
theorem dX11_letterOf_28 : decode cX11_letterOf 28 = .ok (.aload_n 0, 1) := by decide +kernel
theorem dX11_letterOf_29 : decode cX11_letterOf 29 = .ok (.getfield 117, 3) := by decide +kernel
theorem dX11_letterOf_32 : decode cX11_letterOf 32 = .ok (.aload_n 0, 1) := by decide +kernel
theorem dX11_letterOf_33 : decode cX11_letterOf 33 = .ok (.getfield 483, 3) := by decide +kernel
theorem dX11_letterOf_36 : decode cX11_letterOf 36 = .ok (.iload_n 1, 1) := by decide +kernel
theorem dX11_letterOf_37 : decode cX11_letterOf 37 = .ok (.iastore, 1) := by decide +kernel
theorem dX11_letterOf_38 : decode cX11_letterOf 38 = .ok (.aload_n 0, 1) := by decide +kernel
theorem dX11_letterOf_39 : decode cX11_letterOf 39 = .ok (.dup, 1) := by decide +kernel
theorem dX11_letterOf_40 : decode cX11_letterOf 40 = .ok (.getfield 483, 3) := by decide +kernel
theorem dX11_letterOf_43 : decode cX11_letterOf 43 = .ok (.iconst 1, 1) := by decide +kernel
theorem dX11_letterOf_44 : decode cX11_letterOf 44 = .ok (.iadd, 1) := by decide +kernel
theorem dX11_letterOf_45 : decode cX11_letterOf 45 = .ok (.putfield 483, 3) := by decide +kernel
theorem dX11_letterOf_48 : decode cX11_letterOf 48 = .ok (.aload_n 0, 1) := by decide +kernel
theorem dX11_letterOf_49 : decode cX11_letterOf 49 = .ok (.getfield 483, 3) := by decide +kernel
theorem dX11_letterOf_52 : decode cX11_letterOf 52 = .ok (.iconst 1, 1) := by decide +kernel
theorem dX11_letterOf_53 : decode cX11_letterOf 53 = .ok (.isub, 1) := by decide +kernel
theorem dX11_letterOf_54 : decode cX11_letterOf 54 = .ok (.ireturn, 1) := by decide +kernel
set_option maxRecDepth 10000 in
set_option maxHeartbeats 4000000 in
theorem A_X11_letterOf_2 {Z : az_Z} {d : Nat} (C : az_C Z yX11_letterOf cX11_letterOf 3 (some .int) d) (hD : 1 ≤ d) (n : Nat) (k : Nat) : ∀ {σ : az_Hp} {v0 v1 v2 : Int} {r : (Int × az_Hp)}, fz_X11_letterOf_2 n k σ v0 v1 v2 = some r → az_AW Z 3 2 [(13, v0), (0, v1), (0, v2)] [] σ (some (0, r.1), r.2) := by
  have hd1 : 1 ≤ d := by omega
  induction k with
  | zero => intro σ v0 v1 v2 r h; simp [fz_X11_letterOf_2] at h
  | succ k ih =>
    intro σ v0 v1 v2 r h
    unfold fz_X11_letterOf_2 at h
    refine az_il2 (pc := 2) C dX11_letterOf_2 ?_
    refine az_al0 (pc := 3) C rfl rfl dX11_letterOf_3 ?_
    refine az_getI (pc := 4) C fl_X11_483 rfl dX11_letterOf_4 ?_
    refine az_icmp_ge (pc := 7) (tgt := 28) C h dX11_letterOf_7 (by decide) (fun _ h => ?_) (fun _ h => ?_)
    · refine az_al0 (pc := 28) C rfl rfl dX11_letterOf_28 ?_
      refine az_getR (pc := 29) (c2 := 13) C h fl_X11_117 rfl rfl dX11_letterOf_29 (fun h => ?_)
      refine az_al0 (pc := 32) C rfl rfl dX11_letterOf_32 ?_
      refine az_getI (pc := 33) C fl_X11_483 rfl dX11_letterOf_33 ?_
      refine az_il1 (pc := 36) C dX11_letterOf_36 ?_
      refine az_iastore (pc := 37) C h dX11_letterOf_37 (fun h => ?_)
      refine az_al0 (pc := 38) C rfl rfl dX11_letterOf_38 ?_
      refine az_dup (pc := 39) C rfl rfl dX11_letterOf_39 ?_
      refine az_getI (pc := 40) C fl_X11_483 rfl dX11_letterOf_40 ?_
      refine az_ik1 (pc := 43) C dX11_letterOf_43 ?_
      refine az_iadd (pc := 44) C dX11_letterOf_44 ?_
      refine az_putI (pc := 45) C fl_X11_483 (Or.inl rfl) rfl dX11_letterOf_45 ?_
      refine az_al0 (pc := 48) C rfl rfl dX11_letterOf_48 ?_
      refine az_getI (pc := 49) C fl_X11_483 rfl dX11_letterOf_49 ?_
      refine az_ik1 (pc := 52) C dX11_letterOf_52 ?_
      refine az_isub (pc := 53) C dX11_letterOf_53 ?_
      obtain rfl := Option.some.inj h
      exact az_ireturn (pc := 54) C dX11_letterOf_54 rfl
    refine az_al0 (pc := 10) C rfl rfl dX11_letterOf_10 ?_
    refine az_getR (pc := 11) (c2 := 13) C h fl_X11_117 rfl rfl dX11_letterOf_11 (fun h => ?_)
    refine az_il2 (pc := 14) C dX11_letterOf_14 ?_
    refine az_iaload (pc := 15) C h dX11_letterOf_15 (fun h => ?_)
    refine az_il1 (pc := 16) C dX11_letterOf_16 ?_
    refine az_icmp_ne (pc := 17) (tgt := 22) C h dX11_letterOf_17 (by decide) (fun _ h => ?_) (fun _ h => ?_)
    · refine az_ii2 (pc := 22) C az_n1 rfl rfl dX11_letterOf_22 ?_
      refine az_goto (pc := 25) (tgt := 2) C dX11_letterOf_25 (by decide) ?_
      exact (ih h)
    refine az_il2 (pc := 20) C dX11_letterOf_20 ?_
    obtain rfl := Option.some.inj h
    exact az_ireturn (pc := 21) C dX11_letterOf_21 rfl
set_option maxRecDepth 10000 in
set_option maxHeartbeats 4000000 in
theorem A_X11_letterOf_e {Z : az_Z} {d : Nat} (C : az_C Z yX11_letterOf cX11_letterOf 3 (some .int) d) (hD : 1 ≤ d) (n : Nat) {σ : az_Hp} {v0 v1 : Int} {r : (Int × az_Hp)} (h : fz_X11_letterOf n σ v0 v1 = some r) : az_AW Z 3 0 [(13, v0), (0, v1), (31, 0)] [] σ (some (0, r.1), r.2) := by
  have hd1 : 1 ≤ d := by omega
  unfold fz_X11_letterOf at h
  refine az_ik0 (pc := 0) C dX11_letterOf_0 ?_
  refine az_is2 (pc := 1) C rfl rfl dX11_letterOf_1 ?_
  exact (A_X11_letterOf_2 C hD n n h)
set_option maxRecDepth 10000 in
set_option maxHeartbeats 4000000 in
theorem A_X11_letterOf {l : Launch} {d : Nat} (hD : 1 ≤ d) (n : Nat) {σ : az_Hp} {v0 v1 : Int} {r : (Int × az_Hp)} (h : fz_X11_letterOf n σ v0 v1 = some r) : az_AC l yX11_letterOf cX11_letterOf 3 (some .int) d [(13, v0), (0, v1)] σ (some (0, r.1), r.2) := az_AC.of mt_X11_letterOf rfl rfl rfl (fun Z hZ C => A_X11_letterOf_e C hD n h)
theorem dX11_lettersIn_0 : decode cX11_lettersIn 0 = .ok (.aload_n 0, 1) := by decide +kernel
theorem dX11_lettersIn_1 : decode cX11_lettersIn 1 = .ok (.iload_n 1, 1) := by decide +kernel
theorem dX11_lettersIn_2 : decode cX11_lettersIn 2 = .ok (.invokevirtual 438, 3) := by decide +kernel
theorem dX11_lettersIn_5 : decode cX11_lettersIn 5 = .ok (.istore_n 2, 1) := by decide +kernel
theorem dX11_lettersIn_6 : decode cX11_lettersIn 6 = .ok (.aload_n 0, 1) := by decide +kernel
theorem dX11_lettersIn_7 : decode cX11_lettersIn 7 = .ok (.getfield 73, 3) := by decide +kernel
theorem dX11_lettersIn_10 : decode cX11_lettersIn 10 = .ok (.iload_n 2, 1) := by decide +kernel
theorem dX11_lettersIn_11 : decode cX11_lettersIn 11 = .ok (.iaload, 1) := by decide +kernel
theorem dX11_lettersIn_12 : decode cX11_lettersIn 12 = .ok (.invokestatic 288, 3) := by decide +kernel
theorem dX11_lettersIn_15 : decode cX11_lettersIn 15 = .ok (.ifCond .eq 10, 3) := by decide +kernel
theorem dX11_lettersIn_18 : decode cX11_lettersIn 18 = .ok (.aload_n 0, 1) := by decide +kernel
theorem dX11_lettersIn_19 : decode cX11_lettersIn 19 = .ok (.iload_n 2, 1) := by decide +kernel
theorem dX11_lettersIn_20 : decode cX11_lettersIn 20 = .ok (.invokevirtual 486, 3) := by decide +kernel
theorem dX11_lettersIn_23 : decode cX11_lettersIn 23 = .ok (.istore_n 3, 1) := by decide +kernel
theorem dX11_lettersIn_24 : decode cX11_lettersIn 24 = .ok (.return_, 1) := by decide +kernel
theorem dX11_lettersIn_25 : decode cX11_lettersIn 25 = .ok (.iconst 0, 1) := by decide +kernel
theorem dX11_lettersIn_26 : decode cX11_lettersIn 26 = .ok (.istore_n 3, 1) := by decide +kernel
theorem dX11_lettersIn_27 : decode cX11_lettersIn 27 = .ok (.iload_n 3, 1) := by decide +kernel
theorem dX11_lettersIn_28 : decode cX11_lettersIn 28 = .ok (.aload_n 0, 1) := by decide +kernel
theorem dX11_lettersIn_29 : decode cX11_lettersIn 29 = .ok (.aload_n 0, 1) := by decide +kernel
theorem dX11_lettersIn_30 : decode cX11_lettersIn 30 = .ok (.getfield 73, 3) := by decide +kernel
theorem dX11_lettersIn_33 : decode cX11_lettersIn 33 = .ok (.iload_n 2, 1) := by decide +kernel
theorem dX11_lettersIn_34 : decode cX11_lettersIn 34 = .ok (.iaload, 1) := by decide +kernel
theorem dX11_lettersIn_35 : decode cX11_lettersIn 35 = .ok (.invokevirtual 336, 3) := by decide +kernel
theorem dX11_lettersIn_38 : decode cX11_lettersIn 38 = .ok (.if_icmp .ge 23, 3) := by decide +kernel
theorem dX11_lettersIn_41 : decode cX11_lettersIn 41 = .ok (.aload_n 0, 1) := by decide +kernel
theorem dX11_lettersIn_42 : decode cX11_lettersIn 42 = .ok (.aload_n 0, 1) := by decide +kernel
theorem dX11_lettersIn_43 : decode cX11_lettersIn 43 = .ok (.getfield 76, 3) := by decide +kernel
theorem dX11_lettersIn_46 : decode cX11_lettersIn 46 = .ok (.iconst 3, 1) := by decide +kernel
theorem dX11_lettersIn_47 : decode cX11_lettersIn 47 = .ok (.iload_n 2, 1) := by decide +kernel
theorem dX11_lettersIn_48 : decode cX11_lettersIn 48 = .ok (.imul, 1) := by decide +kernel
theorem dX11_lettersIn_49 : decode cX11_lettersIn 49 = .ok (.iload_n 3, 1) := by decide +kernel
theorem dX11_lettersIn_50 : decode cX11_lettersIn 50 = .ok (.iadd, 1) := by decide +kernel
theorem dX11_lettersIn_51 : decode cX11_lettersIn 51 = .ok (.iaload, 1) := by decide +kernel
theorem dX11_lettersIn_52 : decode cX11_lettersIn 52 = .ok (.invokevirtual 489, 3) := by decide +kernel
theorem dX11_lettersIn_55 : decode cX11_lettersIn 55 = .ok (.iinc 3 1, 3) := by decide +kernel
theorem dX11_lettersIn_58 : decode cX11_lettersIn 58 = .ok (.goto (-31), 3) := by decide +kernel
theorem dX11_lettersIn_61 : decode cX11_lettersIn 61 = .ok (.return_, 1) := by decide +kernel
set_option maxRecDepth 10000 in
set_option maxHeartbeats 4000000 in
theorem A_X11_lettersIn_27 {Z : az_Z} {d : Nat} (C : az_C Z yX11_lettersIn cX11_lettersIn 4 none d) (hD : 3 ≤ d) (n : Nat) {dr : Nat} {rec : az_Hp → Int → Int → Option az_Hp} (hrec : ∀ {l : Launch} {d' : Nat}, dr ≤ d' → ∀ {σ : az_Hp} {u0 u1 : Int} {r : az_Hp}, rec σ u0 u1 = some r → az_AC l yX11_lettersIn cX11_lettersIn 4 none d' [(13, u0), (0, u1)] σ (none, r)) (hr : dr + 1 ≤ d) (k : Nat) : ∀ {σ : az_Hp} {v0 v2 v3 : Int} {r : az_Hp}, fz_X11_lettersIn_27 n rec k σ v0 v2 v3 = some r → az_AW Z 4 27 [(13, v0), (31, 0), (0, v2), (0, v3)] [] σ (none, r) := by
  have hd1 : 1 ≤ d := by omega
  induction k with
  | zero => intro σ v0 v2 v3 r h; simp [fz_X11_lettersIn_27] at h
  | succ k ih =>
    intro σ v0 v2 v3 r h
    unfold fz_X11_lettersIn_27 at h
    refine az_il3 (pc := 27) C dX11_lettersIn_27 ?_
    refine az_al0 (pc := 28) C rfl rfl dX11_lettersIn_28 ?_
    refine az_al0 (pc := 29) C rfl rfl dX11_lettersIn_29 ?_
    refine az_getR (pc := 30) (c2 := 13) C h fl_X11_73 rfl rfl dX11_lettersIn_30 (fun h => ?_)
    refine az_il2 (pc := 33) C dX11_lettersIn_33 ?_
    refine az_iaload (pc := 34) C h dX11_lettersIn_34 (fun h => ?_)
    refine az_cV1pi (pc := 35) (c := 11) C hd1 h mv_X11_takes ml_X11_336 rfl (fun x hx => A_X11_takes (by omega) hx) dX11_lettersIn_35 (fun r3 h => ?_)
    refine az_icmp_ge (pc := 38) (tgt := 61) C h dX11_lettersIn_38 (by decide) (fun _ h => ?_) (fun _ h => ?_)
    · obtain rfl := Option.some.inj h
      exact az_return (pc := 61) C dX11_lettersIn_61 rfl
    refine az_al0 (pc := 41) C rfl rfl dX11_lettersIn_41 ?_
    refine az_al0 (pc := 42) C rfl rfl dX11_lettersIn_42 ?_
    refine az_getR (pc := 43) (c2 := 13) C h fl_X11_76 rfl rfl dX11_lettersIn_43 (fun h => ?_)
    refine az_ik3 (pc := 46) C dX11_lettersIn_46 ?_
    refine az_il2 (pc := 47) C dX11_lettersIn_47 ?_
    refine az_imul (pc := 48) C dX11_lettersIn_48 ?_
    refine az_il3 (pc := 49) C dX11_lettersIn_49 ?_
    refine az_iadd (pc := 50) C dX11_lettersIn_50 ?_
    refine az_iaload (pc := 51) C h dX11_lettersIn_51 (fun h => ?_)
    refine az_cV1v (pc := 52) (c := 11) C hd1 h mv_X11_lettersIn ml_X11_489 rfl (fun x hx => hrec (by omega) hx) dX11_lettersIn_52 (fun r6 h => ?_)
    refine az_ii3 (pc := 55) C az_n1 rfl rfl dX11_lettersIn_55 ?_
    refine az_goto (pc := 58) (tgt := 27) C dX11_lettersIn_58 (by decide) ?_
    exact (ih h)
set_option maxRecDepth 10000 in
set_option maxHeartbeats 4000000 in
theorem A_X11_lettersIn_e {Z : az_Z} {d : Nat} (C : az_C Z yX11_lettersIn cX11_lettersIn 4 none d) (hD : 3 ≤ d) (n : Nat) {dr : Nat} {rec : az_Hp → Int → Int → Option az_Hp} (hrec : ∀ {l : Launch} {d' : Nat}, dr ≤ d' → ∀ {σ : az_Hp} {u0 u1 : Int} {r : az_Hp}, rec σ u0 u1 = some r → az_AC l yX11_lettersIn cX11_lettersIn 4 none d' [(13, u0), (0, u1)] σ (none, r)) (hr : dr + 1 ≤ d) {σ : az_Hp} {v0 v1 : Int} {r : az_Hp} (h : fz_X11_lettersIn_e n rec σ v0 v1 = some r) : az_AW Z 4 0 [(13, v0), (0, v1), (31, 0), (31, 0)] [] σ (none, r) := by
  have hd1 : 1 ≤ d := by omega
  unfold fz_X11_lettersIn_e at h
  refine az_al0 (pc := 0) C rfl rfl dX11_lettersIn_0 ?_
  refine az_il1 (pc := 1) C dX11_lettersIn_1 ?_
  refine az_cV1pi (pc := 2) (c := 11) C hd1 h mv_X11_find ml_X11_438 rfl (fun x hx => A_X11_find (by omega) n hx) dX11_lettersIn_2 (fun r1 h => ?_)
  refine az_is2 (pc := 5) C rfl rfl dX11_lettersIn_5 ?_
  refine az_al0 (pc := 6) C rfl rfl dX11_lettersIn_6 ?_
  refine az_getR (pc := 7) (c2 := 13) C h fl_X11_73 rfl rfl dX11_lettersIn_7 (fun h => ?_)
  refine az_il2 (pc := 10) C dX11_lettersIn_10 ?_
  refine az_iaload (pc := 11) C h dX11_lettersIn_11 (fun h => ?_)
  refine az_cS1pi (pc := 12) C hd1 h ms_X11_isVar ml_X11_288 rfl (fun x hx => A_X11_isVar (by omega) hx) dX11_lettersIn_12 (fun r4 h => ?_)
  refine az_if_eq (pc := 15) (tgt := 25) C h dX11_lettersIn_15 (by decide) (fun _ h => ?_) (fun _ h => ?_)
  · refine az_ik0 (pc := 25) C dX11_lettersIn_25 ?_
    refine az_is3 (pc := 26) C rfl rfl dX11_lettersIn_26 ?_
    exact (az_wkk (A_X11_lettersIn_27 C hD n hrec hr n h) (az_sE (az_sJ (az_sE (az_sE az_sN)))))
  refine az_al0 (pc := 18) C rfl rfl dX11_lettersIn_18 ?_
  refine az_il2 (pc := 19) C dX11_lettersIn_19 ?_
  refine az_cV1ii (pc := 20) (c := 11) C hd1 h mv_X11_letterOf ml_X11_486 rfl (fun x hx => A_X11_letterOf (by omega) n hx) dX11_lettersIn_20 (fun r5 h => ?_)
  refine az_is3 (pc := 23) C rfl rfl dX11_lettersIn_23 ?_
  obtain rfl := Option.some.inj h
  exact az_return (pc := 24) C dX11_lettersIn_24 rfl
set_option maxRecDepth 10000 in
set_option maxHeartbeats 4000000 in
theorem A_X11_lettersIn {l : Launch} (n : Nat) (D : Nat) : ∀ {d : Nat}, 3 + 1 * D ≤ d → ∀ {σ : az_Hp} {v0 v1 : Int} {r : az_Hp}, fz_X11_lettersIn n D σ v0 v1 = some r → az_AC l yX11_lettersIn cX11_lettersIn 4 none d [(13, v0), (0, v1)] σ (none, r) := by
  induction D generalizing l with
  | zero => intro d hD σ v0 v1 r h; simp [fz_X11_lettersIn] at h
  | succ D ih =>
    intro d hD σ v0 v1 r h
    unfold fz_X11_lettersIn at h
    exact az_AC.of mt_X11_lettersIn rfl rfl rfl (fun Z hZ C => A_X11_lettersIn_e C (by omega) n (dr := 3 + 1 * D) (fun hd => ih hd) (by omega) h)
theorem dX11_meeting_0 : decode cX11_meeting 0 = .ok (.aload_n 0, 1) := by decide +kernel
theorem dX11_meeting_1 : decode cX11_meeting 1 = .ok (.invokevirtual 455, 3) := by decide +kernel
theorem dX11_meeting_4 : decode cX11_meeting 4 = .ok (.aload_n 0, 1) := by decide +kernel
theorem dX11_meeting_5 : decode cX11_meeting 5 = .ok (.getfield 103, 3) := by decide +kernel
theorem dX11_meeting_8 : decode cX11_meeting 8 = .ok (.iconst 0, 1) := by decide +kernel
theorem dX11_meeting_9 : decode cX11_meeting 9 = .ok (.aload_n 0, 1) := by decide +kernel
theorem dX11_meeting_10 : decode cX11_meeting 10 = .ok (.iload_n 1, 1) := by decide +kernel
theorem dX11_meeting_11 : decode cX11_meeting 11 = .ok (.iconst 0, 1) := by decide +kernel
theorem dX11_meeting_12 : decode cX11_meeting 12 = .ok (.invokevirtual 458, 3) := by decide +kernel
theorem dX11_meeting_15 : decode cX11_meeting 15 = .ok (.iastore, 1) := by decide +kernel
theorem dX11_meeting_16 : decode cX11_meeting 16 = .ok (.aload_n 0, 1) := by decide +kernel
theorem dX11_meeting_17 : decode cX11_meeting 17 = .ok (.getfield 103, 3) := by decide +kernel
theorem dX11_meeting_20 : decode cX11_meeting 20 = .ok (.iconst 1, 1) := by decide +kernel
theorem dX11_meeting_21 : decode cX11_meeting 21 = .ok (.aload_n 0, 1) := by decide +kernel
theorem dX11_meeting_22 : decode cX11_meeting 22 = .ok (.iload_n 2, 1) := by decide +kernel
theorem dX11_meeting_23 : decode cX11_meeting 23 = .ok (.iconst 1, 1) := by decide +kernel
theorem dX11_meeting_24 : decode cX11_meeting 24 = .ok (.invokevirtual 458, 3) := by decide +kernel
theorem dX11_meeting_27 : decode cX11_meeting 27 = .ok (.iastore, 1) := by decide +kernel
theorem dX11_meeting_28 : decode cX11_meeting 28 = .ok (.aload_n 0, 1) := by decide +kernel
theorem dX11_meeting_29 : decode cX11_meeting 29 = .ok (.getfield 103, 3) := by decide +kernel
theorem dX11_meeting_32 : decode cX11_meeting 32 = .ok (.iconst 2, 1) := by decide +kernel
theorem dX11_meeting_33 : decode cX11_meeting 33 = .ok (.aload_n 0, 1) := by decide +kernel
theorem dX11_meeting_34 : decode cX11_meeting 34 = .ok (.iload_n 1, 1) := by decide +kernel
theorem dX11_meeting_35 : decode cX11_meeting 35 = .ok (.iconst 0, 1) := by decide +kernel
theorem dX11_meeting_36 : decode cX11_meeting 36 = .ok (.iconst 0, 1) := by decide +kernel
theorem dX11_meeting_37 : decode cX11_meeting 37 = .ok (.invokevirtual 461, 3) := by decide +kernel
theorem dX11_meeting_40 : decode cX11_meeting 40 = .ok (.iastore, 1) := by decide +kernel
theorem dX11_meeting_41 : decode cX11_meeting 41 = .ok (.aload_n 0, 1) := by decide +kernel
theorem dX11_meeting_42 : decode cX11_meeting 42 = .ok (.getfield 103, 3) := by decide +kernel
theorem dX11_meeting_45 : decode cX11_meeting 45 = .ok (.iconst 3, 1) := by decide +kernel
theorem dX11_meeting_46 : decode cX11_meeting 46 = .ok (.aload_n 0, 1) := by decide +kernel
theorem dX11_meeting_47 : decode cX11_meeting 47 = .ok (.iload_n 2, 1) := by decide +kernel
theorem dX11_meeting_48 : decode cX11_meeting 48 = .ok (.iconst 1, 1) := by decide +kernel
theorem dX11_meeting_49 : decode cX11_meeting 49 = .ok (.iconst 0, 1) := by decide +kernel
theorem dX11_meeting_50 : decode cX11_meeting 50 = .ok (.invokevirtual 461, 3) := by decide +kernel
theorem dX11_meeting_53 : decode cX11_meeting 53 = .ok (.iastore, 1) := by decide +kernel
theorem dX11_meeting_54 : decode cX11_meeting 54 = .ok (.aload_n 0, 1) := by decide +kernel
theorem dX11_meeting_55 : decode cX11_meeting 55 = .ok (.aload_n 0, 1) := by decide +kernel
theorem dX11_meeting_56 : decode cX11_meeting 56 = .ok (.getfield 103, 3) := by decide +kernel
theorem dX11_meeting_59 : decode cX11_meeting 59 = .ok (.iconst 0, 1) := by decide +kernel
theorem dX11_meeting_60 : decode cX11_meeting 60 = .ok (.iaload, 1) := by decide +kernel
theorem dX11_meeting_61 : decode cX11_meeting 61 = .ok (.aload_n 0, 1) := by decide +kernel
theorem dX11_meeting_62 : decode cX11_meeting 62 = .ok (.getfield 103, 3) := by decide +kernel
theorem dX11_meeting_65 : decode cX11_meeting 65 = .ok (.iconst 1, 1) := by decide +kernel
theorem dX11_meeting_66 : decode cX11_meeting 66 = .ok (.iaload, 1) := by decide +kernel
theorem dX11_meeting_67 : decode cX11_meeting 67 = .ok (.invokevirtual 441, 3) := by decide +kernel
theorem dX11_meeting_70 : decode cX11_meeting 70 = .ok (.ifCond .ne 5, 3) := by decide +kernel
theorem dX11_meeting_73 : decode cX11_meeting 73 = .ok (.iconst 0, 1) := by decide +kernel
theorem dX11_meeting_74 : decode cX11_meeting 74 = .ok (.ireturn, 1) := by decide +kernel
theorem dX11_meeting_75 : decode cX11_meeting 75 = .ok (.aload_n 0, 1) := by decide +kernel
theorem dX11_meeting_76 : decode cX11_meeting 76 = .ok (.aload_n 0, 1) := by decide +kernel
theorem dX11_meeting_77 : decode cX11_meeting 77 = .ok (.getfield 103, 3) := by decide +kernel
theorem dX11_meeting_80 : decode cX11_meeting 80 = .ok (.iconst 0, 1) := by decide +kernel
theorem dX11_meeting_81 : decode cX11_meeting 81 = .ok (.iaload, 1) := by decide +kernel
theorem dX11_meeting_82 : decode cX11_meeting 82 = .ok (.invokevirtual 465, 3) := by decide +kernel
theorem dX11_meeting_85 : decode cX11_meeting 85 = .ok (.ifCond .eq 7, 3) := by decide +kernel
theorem dX11_meeting_88 : decode cX11_meeting 88 = .ok (.iconst 2, 1) := by decide +kernel
theorem dX11_meeting_89 : decode cX11_meeting 89 = .ok (.goto 4, 3) := by decide +kernel
theorem dX11_meeting_92 : decode cX11_meeting 92 = .ok (.iconst 1, 1) := by decide +kernel
theorem dX11_meeting_93 : decode cX11_meeting 93 = .ok (.ireturn, 1) := by decide +kernel
set_option maxRecDepth 10000 in
set_option maxHeartbeats 4000000 in
theorem A_X11_meeting_e {Z : az_Z} {d : Nat} (C : az_C Z yX11_meeting cX11_meeting 3 (some .int) d) (hD : 208 ≤ d) (n : Nat) {σ : az_Hp} {v0 v1 v2 : Int} {r : (Int × az_Hp)} (h : fz_X11_meeting n σ v0 v1 v2 = some r) : az_AW Z 3 0 [(13, v0), (0, v1), (0, v2)] [] σ (some (0, r.1), r.2) := by
  have hd1 : 1 ≤ d := by omega
  unfold fz_X11_meeting at h
  refine az_al0 (pc := 0) C rfl rfl dX11_meeting_0 ?_
  refine az_cV0v (pc := 1) (c := 11) C hd1 h mv_X11_clears ml_X11_455 rfl (fun x hx => A_X11_clears (by omega) hx) dX11_meeting_1 (fun r1 h => ?_)
  refine az_al0 (pc := 4) C rfl rfl dX11_meeting_4 ?_
  refine az_getR (pc := 5) (c2 := 13) C h fl_X11_103 rfl rfl dX11_meeting_5 (fun h => ?_)
  refine az_ik0 (pc := 8) C dX11_meeting_8 ?_
  refine az_al0 (pc := 9) C rfl rfl dX11_meeting_9 ?_
  refine az_il1 (pc := 10) C dX11_meeting_10 ?_
  refine az_ik0 (pc := 11) C dX11_meeting_11 ?_
  refine az_cV2ii (pc := 12) (c := 11) C hd1 h mv_X11_leftNode ml_X11_458 rfl (fun x hx => A_X11_leftNode (by omega) n hx) dX11_meeting_12 (fun r3 h => ?_)
  refine az_iastore (pc := 15) C h dX11_meeting_15 (fun h => ?_)
  refine az_al0 (pc := 16) C rfl rfl dX11_meeting_16 ?_
  refine az_getR (pc := 17) (c2 := 13) C h fl_X11_103 rfl rfl dX11_meeting_17 (fun h => ?_)
  refine az_ik1 (pc := 20) C dX11_meeting_20 ?_
  refine az_al0 (pc := 21) C rfl rfl dX11_meeting_21 ?_
  refine az_il2 (pc := 22) C dX11_meeting_22 ?_
  refine az_ik1 (pc := 23) C dX11_meeting_23 ?_
  refine az_cV2ii (pc := 24) (c := 11) C hd1 h mv_X11_leftNode ml_X11_458 rfl (fun x hx => A_X11_leftNode (by omega) n hx) dX11_meeting_24 (fun r6 h => ?_)
  refine az_iastore (pc := 27) C h dX11_meeting_27 (fun h => ?_)
  refine az_al0 (pc := 28) C rfl rfl dX11_meeting_28 ?_
  refine az_getR (pc := 29) (c2 := 13) C h fl_X11_103 rfl rfl dX11_meeting_29 (fun h => ?_)
  refine az_ik2 (pc := 32) C dX11_meeting_32 ?_
  refine az_al0 (pc := 33) C rfl rfl dX11_meeting_33 ?_
  refine az_il1 (pc := 34) C dX11_meeting_34 ?_
  refine az_ik0 (pc := 35) C dX11_meeting_35 ?_
  refine az_ik0 (pc := 36) C dX11_meeting_36 ?_
  refine az_cV3ii (pc := 37) (c := 11) C hd1 h mv_X11_rightNode ml_X11_461 rfl (fun x hx => A_X11_rightNode (by omega) n hx) dX11_meeting_37 (fun r9 h => ?_)
  refine az_iastore (pc := 40) C h dX11_meeting_40 (fun h => ?_)
  refine az_al0 (pc := 41) C rfl rfl dX11_meeting_41 ?_
  refine az_getR (pc := 42) (c2 := 13) C h fl_X11_103 rfl rfl dX11_meeting_42 (fun h => ?_)
  refine az_ik3 (pc := 45) C dX11_meeting_45 ?_
  refine az_al0 (pc := 46) C rfl rfl dX11_meeting_46 ?_
  refine az_il2 (pc := 47) C dX11_meeting_47 ?_
  refine az_ik1 (pc := 48) C dX11_meeting_48 ?_
  refine az_ik0 (pc := 49) C dX11_meeting_49 ?_
  refine az_cV3ii (pc := 50) (c := 11) C hd1 h mv_X11_rightNode ml_X11_461 rfl (fun x hx => A_X11_rightNode (by omega) n hx) dX11_meeting_50 (fun r12 h => ?_)
  refine az_iastore (pc := 53) C h dX11_meeting_53 (fun h => ?_)
  refine az_al0 (pc := 54) C rfl rfl dX11_meeting_54 ?_
  refine az_al0 (pc := 55) C rfl rfl dX11_meeting_55 ?_
  refine az_getR (pc := 56) (c2 := 13) C h fl_X11_103 rfl rfl dX11_meeting_56 (fun h => ?_)
  refine az_ik0 (pc := 59) C dX11_meeting_59 ?_
  refine az_iaload (pc := 60) C h dX11_meeting_60 (fun h => ?_)
  refine az_al0 (pc := 61) C rfl rfl dX11_meeting_61 ?_
  refine az_getR (pc := 62) (c2 := 13) C h fl_X11_103 rfl rfl dX11_meeting_62 (fun h => ?_)
  refine az_ik1 (pc := 65) C dX11_meeting_65 ?_
  refine az_iaload (pc := 66) C h dX11_meeting_66 (fun h => ?_)
  refine az_cV2ii (pc := 67) (c := 11) C hd1 h mv_X11_joins ml_X11_441 rfl (fun x hx => A_X11_joins n 200 (by omega) hx) dX11_meeting_67 (fun r18 h => ?_)
  refine az_if_ne (pc := 70) (tgt := 75) C h dX11_meeting_70 (by decide) (fun _ h => ?_) (fun _ h => ?_)
  · refine az_al0 (pc := 75) C rfl rfl dX11_meeting_75 ?_
    refine az_al0 (pc := 76) C rfl rfl dX11_meeting_76 ?_
    refine az_getR (pc := 77) (c2 := 13) C h fl_X11_103 rfl rfl dX11_meeting_77 (fun h => ?_)
    refine az_ik0 (pc := 80) C dX11_meeting_80 ?_
    refine az_iaload (pc := 81) C h dX11_meeting_81 (fun h => ?_)
    refine az_cV1ii (pc := 82) (c := 11) C hd1 h mv_X11_hasCircle ml_X11_465 rfl (fun x hx => A_X11_hasCircle (by omega) n hx) dX11_meeting_82 (fun r21 h => ?_)
    refine az_if_eq (pc := 85) (tgt := 92) C h dX11_meeting_85 (by decide) (fun _ h => ?_) (fun _ h => ?_)
    · refine az_ik1 (pc := 92) C dX11_meeting_92 ?_
      obtain rfl := Option.some.inj h
      exact az_ireturn (pc := 93) C dX11_meeting_93 rfl
    refine az_ik2 (pc := 88) C dX11_meeting_88 ?_
    refine az_goto (pc := 89) (tgt := 93) C dX11_meeting_89 (by decide) ?_
    obtain rfl := Option.some.inj h
    exact az_ireturn (pc := 93) C dX11_meeting_93 rfl
  refine az_ik0 (pc := 73) C dX11_meeting_73 ?_
  obtain rfl := Option.some.inj h
  exact az_ireturn (pc := 74) C dX11_meeting_74 rfl
set_option maxRecDepth 10000 in
set_option maxHeartbeats 4000000 in
theorem A_X11_meeting {l : Launch} {d : Nat} (hD : 208 ≤ d) (n : Nat) {σ : az_Hp} {v0 v1 v2 : Int} {r : (Int × az_Hp)} (h : fz_X11_meeting n σ v0 v1 v2 = some r) : az_AC l yX11_meeting cX11_meeting 3 (some .int) d [(13, v0), (0, v1), (0, v2)] σ (some (0, r.1), r.2) := az_AC.of mt_X11_meeting rfl rfl rfl (fun Z hZ C => A_X11_meeting_e C hD n h)
theorem dX11_nameOf_0 : decode cX11_nameOf 0 = .ok (.iload_n 1, 1) := by decide +kernel
theorem dX11_nameOf_1 : decode cX11_nameOf 1 = .ok (.invokestatic 291, 3) := by decide +kernel
theorem dX11_nameOf_4 : decode cX11_nameOf 4 = .ok (.ifCond .eq 23, 3) := by decide +kernel
theorem dX11_nameOf_7 : decode cX11_nameOf 7 = .ok (.aload_n 0, 1) := by decide +kernel
theorem dX11_nameOf_8 : decode cX11_nameOf 8 = .ok (.getfield 33, 3) := by decide +kernel
theorem dX11_nameOf_11 : decode cX11_nameOf 11 = .ok (.iconst 5, 1) := by decide +kernel
theorem dX11_nameOf_12 : decode cX11_nameOf 12 = .ok (.aload_n 0, 1) := by decide +kernel
theorem dX11_nameOf_13 : decode cX11_nameOf 13 = .ok (.getfield 285, 3) := by decide +kernel
theorem dX11_nameOf_16 : decode cX11_nameOf 16 = .ok (.imul, 1) := by decide +kernel
theorem dX11_nameOf_17 : decode cX11_nameOf 17 = .ok (.iload_n 1, 1) := by decide +kernel
theorem dX11_nameOf_18 : decode cX11_nameOf 18 = .ok (.iadd, 1) := by decide +kernel
theorem dX11_nameOf_19 : decode cX11_nameOf 19 = .ok (.sipush 200, 3) := by decide +kernel
theorem dX11_nameOf_22 : decode cX11_nameOf 22 = .ok (.isub, 1) := by decide +kernel
theorem dX11_nameOf_23 : decode cX11_nameOf 23 = .ok (.laload, 1) := by decide +kernel
theorem dX11_nameOf_24 : decode cX11_nameOf 24 = .ok (.goto 20, 3) := by decide +kernel
theorem dX11_nameOf_27 : decode cX11_nameOf 27 = .ok (.aload_n 0, 1) := by decide +kernel
theorem dX11_nameOf_28 : decode cX11_nameOf 28 = .ok (.getfield 29, 3) := by decide +kernel
theorem dX11_nameOf_31 : decode cX11_nameOf 31 = .ok (.bipush 8, 2) := by decide +kernel
theorem dX11_nameOf_33 : decode cX11_nameOf 33 = .ok (.aload_n 0, 1) := by decide +kernel
theorem dX11_nameOf_34 : decode cX11_nameOf 34 = .ok (.getfield 285, 3) := by decide +kernel
theorem dX11_nameOf_37 : decode cX11_nameOf 37 = .ok (.imul, 1) := by decide +kernel
theorem dX11_nameOf_38 : decode cX11_nameOf 38 = .ok (.iload_n 1, 1) := by decide +kernel
theorem dX11_nameOf_39 : decode cX11_nameOf 39 = .ok (.iadd, 1) := by decide +kernel
theorem dX11_nameOf_40 : decode cX11_nameOf 40 = .ok (.bipush 100, 2) := by decide +kernel
theorem dX11_nameOf_42 : decode cX11_nameOf 42 = .ok (.isub, 1) := by decide +kernel
theorem dX11_nameOf_43 : decode cX11_nameOf 43 = .ok (.laload, 1) := by decide +kernel
theorem dX11_nameOf_44 : decode cX11_nameOf 44 = .ok (.lreturn, 1) := by decide +kernel
set_option maxRecDepth 10000 in
set_option maxHeartbeats 4000000 in
theorem A_X11_nameOf_e {Z : az_Z} {d : Nat} (C : az_C Z yX11_nameOf cX11_nameOf 2 (some .long) d) (hD : 2 ≤ d) {σ : az_Hp} {v0 v1 : Int} {r : Int} (h : fz_X11_nameOf σ v0 v1 = some r) : az_AW Z 2 0 [(13, v0), (0, v1)] [] σ (some (1, r), σ) := by
  have hd1 : 1 ≤ d := by omega
  unfold fz_X11_nameOf at h
  refine az_il1 (pc := 0) C dX11_nameOf_0 ?_
  refine az_cS1pi (pc := 1) C hd1 h ms_X11_isFam ml_X11_291 rfl (fun x hx => A_X11_isFam (by omega) hx) dX11_nameOf_1 (fun r1 h => ?_)
  refine az_if_eq (pc := 4) (tgt := 27) C h dX11_nameOf_4 (by decide) (fun _ h => ?_) (fun _ h => ?_)
  · refine az_al0 (pc := 27) C rfl rfl dX11_nameOf_27 ?_
    refine az_getR (pc := 28) (c2 := 14) C h fl_X11_29 rfl rfl dX11_nameOf_28 (fun h => ?_)
    refine az_bk8 (pc := 31) C dX11_nameOf_31 ?_
    refine az_al0 (pc := 33) C rfl rfl dX11_nameOf_33 ?_
    refine az_getI (pc := 34) C fl_X11_285 rfl dX11_nameOf_34 ?_
    refine az_imul (pc := 37) C dX11_nameOf_37 ?_
    refine az_il1 (pc := 38) C dX11_nameOf_38 ?_
    refine az_iadd (pc := 39) C dX11_nameOf_39 ?_
    refine az_bk100 (pc := 40) C dX11_nameOf_40 ?_
    refine az_isub (pc := 42) C dX11_nameOf_42 ?_
    refine az_laload (pc := 43) C h dX11_nameOf_43 (fun h => ?_)
    obtain rfl := Option.some.inj h
    exact az_lreturn (pc := 44) C dX11_nameOf_44 rfl
  refine az_al0 (pc := 7) C rfl rfl dX11_nameOf_7 ?_
  refine az_getR (pc := 8) (c2 := 14) C h fl_X11_33 rfl rfl dX11_nameOf_8 (fun h => ?_)
  refine az_ik5 (pc := 11) C dX11_nameOf_11 ?_
  refine az_al0 (pc := 12) C rfl rfl dX11_nameOf_12 ?_
  refine az_getI (pc := 13) C fl_X11_285 rfl dX11_nameOf_13 ?_
  refine az_imul (pc := 16) C dX11_nameOf_16 ?_
  refine az_il1 (pc := 17) C dX11_nameOf_17 ?_
  refine az_iadd (pc := 18) C dX11_nameOf_18 ?_
  refine az_sk200 (pc := 19) C dX11_nameOf_19 ?_
  refine az_isub (pc := 22) C dX11_nameOf_22 ?_
  refine az_laload (pc := 23) C h dX11_nameOf_23 (fun h => ?_)
  refine az_goto (pc := 24) (tgt := 44) C dX11_nameOf_24 (by decide) ?_
  obtain rfl := Option.some.inj h
  exact az_lreturn (pc := 44) C dX11_nameOf_44 rfl
set_option maxRecDepth 10000 in
set_option maxHeartbeats 4000000 in
theorem A_X11_nameOf {l : Launch} {d : Nat} (hD : 2 ≤ d) {σ : az_Hp} {v0 v1 : Int} {r : Int} (h : fz_X11_nameOf σ v0 v1 = some r) : az_AC l yX11_nameOf cX11_nameOf 2 (some .long) d [(13, v0), (0, v1)] σ (some (1, r), σ) := az_AC.of mt_X11_nameOf rfl rfl rfl (fun Z hZ C => A_X11_nameOf_e C hD h)
