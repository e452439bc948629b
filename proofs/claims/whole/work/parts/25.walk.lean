theorem dX1_judgeAll_0 : decode cX1_judgeAll 0 = .ok (.iconst 0, 1) := by decide +kernel
theorem dX1_judgeAll_1 : decode cX1_judgeAll 1 = .ok (.istore_n 2, 1) := by decide +kernel
theorem dX1_judgeAll_2 : decode cX1_judgeAll 2 = .ok (.iload_n 2, 1) := by decide +kernel
theorem dX1_judgeAll_3 : decode cX1_judgeAll 3 = .ok (.aload_n 1, 1) := by decide +kernel
theorem dX1_judgeAll_4 : decode cX1_judgeAll 4 = .ok (.getfield 19, 3) := by decide +kernel
theorem dX1_judgeAll_7 : decode cX1_judgeAll 7 = .ok (.if_icmp .ge 80, 3) := by decide +kernel
theorem dX1_judgeAll_10 : decode cX1_judgeAll 10 = .ok (.iconst 0, 1) := by decide +kernel
theorem dX1_judgeAll_11 : decode cX1_judgeAll 11 = .ok (.istore_n 3, 1) := by decide +kernel
theorem dX1_judgeAll_12 : decode cX1_judgeAll 12 = .ok (.iload_n 3, 1) := by decide +kernel
theorem dX1_judgeAll_13 : decode cX1_judgeAll 13 = .ok (.iload_n 2, 1) := by decide +kernel
theorem dX1_judgeAll_14 : decode cX1_judgeAll 14 = .ok (.if_icmp .gt 67, 3) := by decide +kernel
theorem dX1_judgeAll_17 : decode cX1_judgeAll 17 = .ok (.aload_n 1, 1) := by decide +kernel
theorem dX1_judgeAll_18 : decode cX1_judgeAll 18 = .ok (.getfield 24, 3) := by decide +kernel
theorem dX1_judgeAll_21 : decode cX1_judgeAll 21 = .ok (.iload_n 2, 1) := by decide +kernel
theorem dX1_judgeAll_22 : decode cX1_judgeAll 22 = .ok (.iaload, 1) := by decide +kernel
theorem dX1_judgeAll_23 : decode cX1_judgeAll 23 = .ok (.aload_n 1, 1) := by decide +kernel
theorem dX1_judgeAll_24 : decode cX1_judgeAll 24 = .ok (.getfield 24, 3) := by decide +kernel
theorem dX1_judgeAll_27 : decode cX1_judgeAll 27 = .ok (.iload_n 3, 1) := by decide +kernel
theorem dX1_judgeAll_28 : decode cX1_judgeAll 28 = .ok (.iaload, 1) := by decide +kernel
theorem dX1_judgeAll_29 : decode cX1_judgeAll 29 = .ok (.if_icmp .ne 17, 3) := by decide +kernel
theorem dX1_judgeAll_32 : decode cX1_judgeAll 32 = .ok (.aload_n 0, 1) := by decide +kernel
theorem dX1_judgeAll_33 : decode cX1_judgeAll 33 = .ok (.aload_n 1, 1) := by decide +kernel
theorem dX1_judgeAll_34 : decode cX1_judgeAll 34 = .ok (.iload_n 3, 1) := by decide +kernel
theorem dX1_judgeAll_35 : decode cX1_judgeAll 35 = .ok (.iload_n 2, 1) := by decide +kernel
theorem dX1_judgeAll_36 : decode cX1_judgeAll 36 = .ok (.invokevirtual 28, 3) := by decide +kernel
theorem dX1_judgeAll_39 : decode cX1_judgeAll 39 = .ok (.ifCond .eq 7, 3) := by decide +kernel
theorem dX1_judgeAll_42 : decode cX1_judgeAll 42 = .ok (.iconst 1, 1) := by decide +kernel
theorem dX1_judgeAll_43 : decode cX1_judgeAll 43 = .ok (.goto 4, 3) := by decide +kernel
theorem dX1_judgeAll_46 : decode cX1_judgeAll 46 = .ok (.iconst 0, 1) := by decide +kernel
theorem dX1_judgeAll_47 : decode cX1_judgeAll 47 = .ok (.istore 4, 2) := by decide +kernel
theorem dX1_judgeAll_49 : decode cX1_judgeAll 49 = .ok (.aload_n 1, 1) := by decide +kernel
theorem dX1_judgeAll_50 : decode cX1_judgeAll 50 = .ok (.getfield 32, 3) := by decide +kernel
theorem dX1_judgeAll_53 : decode cX1_judgeAll 53 = .ok (.iload_n 2, 1) := by decide +kernel
theorem dX1_judgeAll_54 : decode cX1_judgeAll 54 = .ok (.bipush 16, 2) := by decide +kernel
theorem dX1_judgeAll_56 : decode cX1_judgeAll 56 = .ok (.imul, 1) := by decide +kernel
theorem dX1_judgeAll_57 : decode cX1_judgeAll 57 = .ok (.iload_n 3, 1) := by decide +kernel
theorem dX1_judgeAll_58 : decode cX1_judgeAll 58 = .ok (.iadd, 1) := by decide +kernel
theorem dX1_judgeAll_59 : decode cX1_judgeAll 59 = .ok (.iload 4, 2) := by decide +kernel
theorem dX1_judgeAll_61 : decode cX1_judgeAll 61 = .ok (.bastore, 1) := by decide +kernel
theorem dX1_judgeAll_62 : decode cX1_judgeAll 62 = .ok (.aload_n 1, 1) := by decide +kernel
theorem dX1_judgeAll_63 : decode cX1_judgeAll 63 = .ok (.getfield 32, 3) := by decide +kernel
theorem dX1_judgeAll_66 : decode cX1_judgeAll 66 = .ok (.iload_n 3, 1) := by decide +kernel
theorem dX1_judgeAll_67 : decode cX1_judgeAll 67 = .ok (.bipush 16, 2) := by decide +kernel
theorem dX1_judgeAll_69 : decode cX1_judgeAll 69 = .ok (.imul, 1) := by decide +kernel
theorem dX1_judgeAll_70 : decode cX1_judgeAll 70 = .ok (.iload_n 2, 1) := by decide +kernel
theorem dX1_judgeAll_71 : decode cX1_judgeAll 71 = .ok (.iadd, 1) := by decide +kernel
theorem dX1_judgeAll_72 : decode cX1_judgeAll 72 = .ok (.iload 4, 2) := by decide +kernel
theorem dX1_judgeAll_74 : decode cX1_judgeAll 74 = .ok (.bastore, 1) := by decide +kernel
theorem dX1_judgeAll_75 : decode cX1_judgeAll 75 = .ok (.iinc 3 1, 3) := by decide +kernel
theorem dX1_judgeAll_78 : decode cX1_judgeAll 78 = .ok (.goto (-66), 3) := by decide +kernel
theorem dX1_judgeAll_81 : decode cX1_judgeAll 81 = .ok (.iinc 2 1, 3) := by decide +kernel
theorem dX1_judgeAll_84 : decode cX1_judgeAll 84 = .ok (.goto (-82), 3) := by decide +kernel
theorem dX1_judgeAll_87 : decode cX1_judgeAll 87 = .ok (.iconst 0, 1) := by decide +kernel
theorem dX1_judgeAll_88 : decode cX1_judgeAll 88 = .ok (.istore_n 2, 1) := by decide +kernel
theorem dX1_judgeAll_89 : decode cX1_judgeAll 89 = .ok (.iload_n 2, 1) := by decide +kernel
theorem dX1_judgeAll_90 : decode cX1_judgeAll 90 = .ok (.aload_n 1, 1) := by decide +kernel
theorem dX1_judgeAll_91 : decode cX1_judgeAll 91 = .ok (.getfield 36, 3) := by decide +kernel
theorem dX1_judgeAll_94 : decode cX1_judgeAll 94 = .ok (.if_icmp .ge 15, 3) := by decide +kernel
theorem dX1_judgeAll_97 : decode cX1_judgeAll 97 = .ok (.aload_n 0, 1) := by decide +kernel
theorem dX1_judgeAll_98 : decode cX1_judgeAll 98 = .ok (.aload_n 1, 1) := by decide +kernel
theorem dX1_judgeAll_99 : decode cX1_judgeAll 99 = .ok (.iload_n 2, 1) := by decide +kernel
theorem dX1_judgeAll_100 : decode cX1_judgeAll 100 = .ok (.invokevirtual 39, 3) := by decide +kernel
theorem dX1_judgeAll_103 : decode cX1_judgeAll 103 = .ok (.iinc 2 1, 3) := by decide +kernel
theorem dX1_judgeAll_106 : decode cX1_judgeAll 106 = .ok (.goto (-17), 3) := by decide +kernel
theorem dX1_judgeAll_109 : decode cX1_judgeAll 109 = .ok (.return_, 1) := by decide +kernel
set_option maxRecDepth 10000 in
set_option maxHeartbeats 4000000 in
theorem A_X1_judgeAll_89 {Z : az_Z} {d : Nat} (C : az_C Z yX1_judgeAll cX1_judgeAll 5 none d) (hD : 6 ≤ d) (n : Nat) (k : Nat) : ∀ {σ : az_Hp} {v0 v1 v2 : Int} {r : az_Hp}, fz_X1_judgeAll_89 n k σ v0 v1 v2 = some r → az_AW Z 5 89 [(3, v0), (11, v1), (0, v2), (31, 0), (31, 0)] [] σ (none, r) := by
  have hd1 : 1 ≤ d := by omega
  induction k with
  | zero => intro σ v0 v1 v2 r h; simp [fz_X1_judgeAll_89] at h
  | succ k ih =>
    intro σ v0 v1 v2 r h
    unfold fz_X1_judgeAll_89 at h
    refine az_il2 (pc := 89) C dX1_judgeAll_89 ?_
    refine az_al1 (pc := 90) C rfl rfl dX1_judgeAll_90 ?_
    refine az_getI (pc := 91) C fl_X1_36 rfl dX1_judgeAll_91 ?_
    refine az_icmp_ge (pc := 94) (tgt := 109) C h dX1_judgeAll_94 (by decide) (fun _ h => ?_) (fun _ h => ?_)
    · obtain rfl := Option.some.inj h
      exact az_return (pc := 109) C dX1_judgeAll_109 rfl
    refine az_al0 (pc := 97) C rfl rfl dX1_judgeAll_97 ?_
    refine az_al1 (pc := 98) C rfl rfl dX1_judgeAll_98 ?_
    refine az_il2 (pc := 99) C dX1_judgeAll_99 ?_
    refine az_cV2v (pc := 100) (c := 1) C hd1 h mv_X1_judgeBackwards ml_X1_39 rfl (fun x hx => A_X1_judgeBackwards (by omega) n hx) dX1_judgeAll_100 (fun r1 h => ?_)
    refine az_ii2 (pc := 103) C az_n1 rfl rfl dX1_judgeAll_103 ?_
    refine az_goto (pc := 106) (tgt := 89) C dX1_judgeAll_106 (by decide) ?_
    exact (ih h)
set_option maxRecDepth 10000 in
set_option maxHeartbeats 4000000 in
theorem A_X1_judgeAll_47 {Z : az_Z} {d : Nat} (C : az_C Z yX1_judgeAll cX1_judgeAll 5 none d) (hD : 6 ≤ d) (n : Nat) {k2 : az_Hp → Int → Int → Int → Option az_Hp} (hk2 : ∀ {σ : az_Hp} {v0 v1 v2 : Int} {r : az_Hp}, k2 σ v0 v1 v2 = some r → az_AW Z 5 2 [(3, v0), (11, v1), (0, v2), (31, 0), (31, 0)] [] σ (none, r)) {k12 : az_Hp → Int → Int → Int → Int → Option az_Hp} (hk12 : ∀ {σ : az_Hp} {v0 v1 v2 v3 : Int} {r : az_Hp}, k12 σ v0 v1 v2 v3 = some r → az_AW Z 5 12 [(3, v0), (11, v1), (0, v2), (0, v3), (31, 0)] [] σ (none, r)) {σ : az_Hp} {v0 v1 v2 v3 w0 : Int} {r : az_Hp} (h : fz_X1_judgeAll_47 n k2 k12 σ v0 v1 v2 v3 w0 = some r) : az_AW Z 5 47 [(3, v0), (11, v1), (0, v2), (0, v3), (31, 0)] [(0, w0)] σ (none, r) := by
  have hd1 : 1 ≤ d := by omega
  unfold fz_X1_judgeAll_47 at h
  refine az_is4 (pc := 47) C rfl rfl dX1_judgeAll_47 ?_
  refine az_al1 (pc := 49) C rfl rfl dX1_judgeAll_49 ?_
  refine az_getR (pc := 50) (c2 := 15) C h fl_X1_32 rfl rfl dX1_judgeAll_50 (fun h => ?_)
  refine az_il2 (pc := 53) C dX1_judgeAll_53 ?_
  refine az_bk16 (pc := 54) C dX1_judgeAll_54 ?_
  refine az_imul (pc := 56) C dX1_judgeAll_56 ?_
  refine az_il3 (pc := 57) C dX1_judgeAll_57 ?_
  refine az_iadd (pc := 58) C dX1_judgeAll_58 ?_
  refine az_il4 (pc := 59) C dX1_judgeAll_59 ?_
  refine az_zastore (pc := 61) C h dX1_judgeAll_61 (fun h => ?_)
  refine az_al1 (pc := 62) C rfl rfl dX1_judgeAll_62 ?_
  refine az_getR (pc := 63) (c2 := 15) C h fl_X1_32 rfl rfl dX1_judgeAll_63 (fun h => ?_)
  refine az_il3 (pc := 66) C dX1_judgeAll_66 ?_
  refine az_bk16 (pc := 67) C dX1_judgeAll_67 ?_
  refine az_imul (pc := 69) C dX1_judgeAll_69 ?_
  refine az_il2 (pc := 70) C dX1_judgeAll_70 ?_
  refine az_iadd (pc := 71) C dX1_judgeAll_71 ?_
  refine az_il4 (pc := 72) C dX1_judgeAll_72 ?_
  refine az_zastore (pc := 74) C h dX1_judgeAll_74 (fun h => ?_)
  refine az_ii3 (pc := 75) C az_n1 rfl rfl dX1_judgeAll_75 ?_
  refine az_goto (pc := 78) (tgt := 12) C dX1_judgeAll_78 (by decide) ?_
  exact (az_wkk (hk12 h) (az_sE (az_sE (az_sE (az_sE (az_sJ az_sN))))))
set_option maxRecDepth 10000 in
set_option maxHeartbeats 4000000 in
theorem A_X1_judgeAll_12 {Z : az_Z} {d : Nat} (C : az_C Z yX1_judgeAll cX1_judgeAll 5 none d) (hD : 6 ≤ d) (n : Nat) {k2 : az_Hp → Int → Int → Int → Option az_Hp} (hk2 : ∀ {σ : az_Hp} {v0 v1 v2 : Int} {r : az_Hp}, k2 σ v0 v1 v2 = some r → az_AW Z 5 2 [(3, v0), (11, v1), (0, v2), (31, 0), (31, 0)] [] σ (none, r)) (k : Nat) : ∀ {σ : az_Hp} {v0 v1 v2 v3 : Int} {r : az_Hp}, fz_X1_judgeAll_12 n k2 k σ v0 v1 v2 v3 = some r → az_AW Z 5 12 [(3, v0), (11, v1), (0, v2), (0, v3), (31, 0)] [] σ (none, r) := by
  have hd1 : 1 ≤ d := by omega
  induction k with
  | zero => intro σ v0 v1 v2 v3 r h; simp [fz_X1_judgeAll_12] at h
  | succ k ih =>
    intro σ v0 v1 v2 v3 r h
    unfold fz_X1_judgeAll_12 at h
    refine az_il3 (pc := 12) C dX1_judgeAll_12 ?_
    refine az_il2 (pc := 13) C dX1_judgeAll_13 ?_
    refine az_icmp_gt (pc := 14) (tgt := 81) C h dX1_judgeAll_14 (by decide) (fun _ h => ?_) (fun _ h => ?_)
    · refine az_ii2 (pc := 81) C az_n1 rfl rfl dX1_judgeAll_81 ?_
      refine az_goto (pc := 84) (tgt := 2) C dX1_judgeAll_84 (by decide) ?_
      exact (az_wkk (hk2 h) (az_sE (az_sE (az_sE (az_sJ (az_sJ az_sN))))))
    refine az_al1 (pc := 17) C rfl rfl dX1_judgeAll_17 ?_
    refine az_getR (pc := 18) (c2 := 13) C h fl_X1_24 rfl rfl dX1_judgeAll_18 (fun h => ?_)
    refine az_il2 (pc := 21) C dX1_judgeAll_21 ?_
    refine az_iaload (pc := 22) C h dX1_judgeAll_22 (fun h => ?_)
    refine az_al1 (pc := 23) C rfl rfl dX1_judgeAll_23 ?_
    refine az_getR (pc := 24) (c2 := 13) C h fl_X1_24 rfl rfl dX1_judgeAll_24 (fun h => ?_)
    refine az_il3 (pc := 27) C dX1_judgeAll_27 ?_
    refine az_iaload (pc := 28) C h dX1_judgeAll_28 (fun h => ?_)
    refine az_icmp_ne (pc := 29) (tgt := 46) C h dX1_judgeAll_29 (by decide) (fun _ h => ?_) (fun _ h => ?_)
    · refine az_ik0 (pc := 46) C dX1_judgeAll_46 ?_
      exact (A_X1_judgeAll_47 C hD n (fun h => hk2 h) (fun h => ih h) h)
    refine az_al0 (pc := 32) C rfl rfl dX1_judgeAll_32 ?_
    refine az_al1 (pc := 33) C rfl rfl dX1_judgeAll_33 ?_
    refine az_il3 (pc := 34) C dX1_judgeAll_34 ?_
    refine az_il2 (pc := 35) C dX1_judgeAll_35 ?_
    refine az_cV3ii (pc := 36) (c := 1) C hd1 h mv_X1_rightsAgree ml_X1_28 rfl (fun x hx => A_X1_rightsAgree (by omega) n hx) dX1_judgeAll_36 (fun r5 h => ?_)
    refine az_if_eq (pc := 39) (tgt := 46) C h dX1_judgeAll_39 (by decide) (fun _ h => ?_) (fun _ h => ?_)
    · refine az_ik0 (pc := 46) C dX1_judgeAll_46 ?_
      exact (A_X1_judgeAll_47 C hD n (fun h => hk2 h) (fun h => ih h) h)
    refine az_ik1 (pc := 42) C dX1_judgeAll_42 ?_
    refine az_goto (pc := 43) (tgt := 47) C dX1_judgeAll_43 (by decide) ?_
    exact (A_X1_judgeAll_47 C hD n (fun h => hk2 h) (fun h => ih h) h)
set_option maxRecDepth 10000 in
set_option maxHeartbeats 4000000 in
theorem A_X1_judgeAll_2 {Z : az_Z} {d : Nat} (C : az_C Z yX1_judgeAll cX1_judgeAll 5 none d) (hD : 6 ≤ d) (n : Nat) (k : Nat) : ∀ {σ : az_Hp} {v0 v1 v2 : Int} {r : az_Hp}, fz_X1_judgeAll_2 n k σ v0 v1 v2 = some r → az_AW Z 5 2 [(3, v0), (11, v1), (0, v2), (31, 0), (31, 0)] [] σ (none, r) := by
  have hd1 : 1 ≤ d := by omega
  induction k with
  | zero => intro σ v0 v1 v2 r h; simp [fz_X1_judgeAll_2] at h
  | succ k ih =>
    intro σ v0 v1 v2 r h
    unfold fz_X1_judgeAll_2 at h
    refine az_il2 (pc := 2) C dX1_judgeAll_2 ?_
    refine az_al1 (pc := 3) C rfl rfl dX1_judgeAll_3 ?_
    refine az_getI (pc := 4) C fl_X1_19 rfl dX1_judgeAll_4 ?_
    refine az_icmp_ge (pc := 7) (tgt := 87) C h dX1_judgeAll_7 (by decide) (fun _ h => ?_) (fun _ h => ?_)
    · refine az_ik0 (pc := 87) C dX1_judgeAll_87 ?_
      refine az_is2 (pc := 88) C rfl rfl dX1_judgeAll_88 ?_
      exact (A_X1_judgeAll_89 C hD n n h)
    refine az_ik0 (pc := 10) C dX1_judgeAll_10 ?_
    refine az_is3 (pc := 11) C rfl rfl dX1_judgeAll_11 ?_
    exact (A_X1_judgeAll_12 C hD n (fun h => ih h) n h)
set_option maxRecDepth 10000 in
set_option maxHeartbeats 4000000 in
theorem A_X1_judgeAll_e {Z : az_Z} {d : Nat} (C : az_C Z yX1_judgeAll cX1_judgeAll 5 none d) (hD : 6 ≤ d) (n : Nat) {σ : az_Hp} {v0 v1 : Int} {r : az_Hp} (h : fz_X1_judgeAll n σ v0 v1 = some r) : az_AW Z 5 0 [(3, v0), (11, v1), (31, 0), (31, 0), (31, 0)] [] σ (none, r) := by
  have hd1 : 1 ≤ d := by omega
  unfold fz_X1_judgeAll at h
  refine az_ik0 (pc := 0) C dX1_judgeAll_0 ?_
  refine az_is2 (pc := 1) C rfl rfl dX1_judgeAll_1 ?_
  exact (A_X1_judgeAll_2 C hD n n h)
set_option maxRecDepth 10000 in
set_option maxHeartbeats 4000000 in
theorem A_X1_judgeAll {l : Launch} {d : Nat} (hD : 6 ≤ d) (n : Nat) {σ : az_Hp} {v0 v1 : Int} {r : az_Hp} (h : fz_X1_judgeAll n σ v0 v1 = some r) : az_AC l yX1_judgeAll cX1_judgeAll 5 none d [(3, v0), (11, v1)] σ (none, r) := az_AC.of mt_X1_judgeAll rfl rfl rfl (fun Z hZ C => A_X1_judgeAll_e C hD n h)
theorem dX2_add_0 : decode cX2_add 0 = .ok (.aload_n 0, 1) := by decide +kernel
theorem dX2_add_1 : decode cX2_add 1 = .ok (.getfield 21, 3) := by decide +kernel
theorem dX2_add_4 : decode cX2_add 4 = .ok (.aload_n 0, 1) := by decide +kernel
theorem dX2_add_5 : decode cX2_add 5 = .ok (.getfield 9, 3) := by decide +kernel
theorem dX2_add_8 : decode cX2_add 8 = .ok (.arraylength, 1) := by decide +kernel
theorem dX2_add_9 : decode cX2_add 9 = .ok (.if_icmp .ge 43, 3) := by decide +kernel
theorem dX2_add_12 : decode cX2_add 12 = .ok (.aload_n 0, 1) := by decide +kernel
theorem dX2_add_13 : decode cX2_add 13 = .ok (.getfield 9, 3) := by decide +kernel
theorem dX2_add_16 : decode cX2_add 16 = .ok (.aload_n 0, 1) := by decide +kernel
theorem dX2_add_17 : decode cX2_add 17 = .ok (.getfield 21, 3) := by decide +kernel
theorem dX2_add_20 : decode cX2_add 20 = .ok (.iload_n 1, 1) := by decide +kernel
theorem dX2_add_21 : decode cX2_add 21 = .ok (.iastore, 1) := by decide +kernel
theorem dX2_add_22 : decode cX2_add 22 = .ok (.aload_n 0, 1) := by decide +kernel
theorem dX2_add_23 : decode cX2_add 23 = .ok (.getfield 15, 3) := by decide +kernel
theorem dX2_add_26 : decode cX2_add 26 = .ok (.aload_n 0, 1) := by decide +kernel
theorem dX2_add_27 : decode cX2_add 27 = .ok (.getfield 21, 3) := by decide +kernel
theorem dX2_add_30 : decode cX2_add 30 = .ok (.iload_n 2, 1) := by decide +kernel
theorem dX2_add_31 : decode cX2_add 31 = .ok (.iastore, 1) := by decide +kernel
theorem dX2_add_32 : decode cX2_add 32 = .ok (.aload_n 0, 1) := by decide +kernel
theorem dX2_add_33 : decode cX2_add 33 = .ok (.getfield 18, 3) := by decide +kernel
theorem dX2_add_36 : decode cX2_add 36 = .ok (.aload_n 0, 1) := by decide +kernel
theorem dX2_add_37 : decode cX2_add 37 = .ok (.getfield 21, 3) := by decide +kernel
theorem dX2_add_40 : decode cX2_add 40 = .ok (.iload_n 3, 1) := by decide +kernel
theorem dX2_add_41 : decode cX2_add 41 = .ok (.iastore, 1) := by decide +kernel
theorem dX2_add_42 : decode cX2_add 42 = .ok (.aload_n 0, 1) := by decide +kernel
theorem dX2_add_43 : decode cX2_add 43 = .ok (.dup, 1) := by decide +kernel
theorem dX2_add_44 : decode cX2_add 44 = .ok (.getfield 21, 3) := by decide +kernel
theorem dX2_add_47 : decode cX2_add 47 = .ok (.iconst 1, 1) := by decide +kernel
theorem dX2_add_48 : decode cX2_add 48 = .ok (.iadd, 1) := by decide +kernel
theorem dX2_add_49 : decode cX2_add 49 = .ok (.putfield 21, 3) := by decide +kernel
theorem dX2_add_52 : decode cX2_add 52 = .ok (.return_, 1) := by decide +kernel
set_option maxRecDepth 10000 in
set_option maxHeartbeats 4000000 in
theorem A_X2_add_e {Z : az_Z} {d : Nat} (C : az_C Z yX2_add cX2_add 4 none d) (hD : 1 ≤ d) {σ : az_Hp} {v0 v1 v2 v3 : Int} {r : az_Hp} (h : fz_X2_add σ v0 v1 v2 v3 = some r) : az_AW Z 4 0 [(4, v0), (0, v1), (0, v2), (0, v3)] [] σ (none, r) := by
  have hd1 : 1 ≤ d := by omega
  unfold fz_X2_add at h
  refine az_al0 (pc := 0) C rfl rfl dX2_add_0 ?_
  refine az_getI (pc := 1) C fl_X2_21 rfl dX2_add_1 ?_
  refine az_al0 (pc := 4) C rfl rfl dX2_add_4 ?_
  refine az_getR (pc := 5) (c2 := 13) C h fl_X2_9 rfl rfl dX2_add_5 (fun h => ?_)
  refine az_arraylength (pc := 8) (k := 13) C rfl rfl dX2_add_8 ?_
  refine az_icmp_ge (pc := 9) (tgt := 52) C h dX2_add_9 (by decide) (fun _ h => ?_) (fun _ h => ?_)
  · obtain rfl := Option.some.inj h
    exact az_return (pc := 52) C dX2_add_52 rfl
  refine az_al0 (pc := 12) C rfl rfl dX2_add_12 ?_
  refine az_getR (pc := 13) (c2 := 13) C h fl_X2_9 rfl rfl dX2_add_13 (fun h => ?_)
  refine az_al0 (pc := 16) C rfl rfl dX2_add_16 ?_
  refine az_getI (pc := 17) C fl_X2_21 rfl dX2_add_17 ?_
  refine az_il1 (pc := 20) C dX2_add_20 ?_
  refine az_iastore (pc := 21) C h dX2_add_21 (fun h => ?_)
  refine az_al0 (pc := 22) C rfl rfl dX2_add_22 ?_
  refine az_getR (pc := 23) (c2 := 13) C h fl_X2_15 rfl rfl dX2_add_23 (fun h => ?_)
  refine az_al0 (pc := 26) C rfl rfl dX2_add_26 ?_
  refine az_getI (pc := 27) C fl_X2_21 rfl dX2_add_27 ?_
  refine az_il2 (pc := 30) C dX2_add_30 ?_
  refine az_iastore (pc := 31) C h dX2_add_31 (fun h => ?_)
  refine az_al0 (pc := 32) C rfl rfl dX2_add_32 ?_
  refine az_getR (pc := 33) (c2 := 13) C h fl_X2_18 rfl rfl dX2_add_33 (fun h => ?_)
  refine az_al0 (pc := 36) C rfl rfl dX2_add_36 ?_
  refine az_getI (pc := 37) C fl_X2_21 rfl dX2_add_37 ?_
  refine az_il3 (pc := 40) C dX2_add_40 ?_
  refine az_iastore (pc := 41) C h dX2_add_41 (fun h => ?_)
  refine az_al0 (pc := 42) C rfl rfl dX2_add_42 ?_
  refine az_dup (pc := 43) C rfl rfl dX2_add_43 ?_
  refine az_getI (pc := 44) C fl_X2_21 rfl dX2_add_44 ?_
  refine az_ik1 (pc := 47) C dX2_add_47 ?_
  refine az_iadd (pc := 48) C dX2_add_48 ?_
  refine az_putI (pc := 49) C fl_X2_21 (Or.inl rfl) rfl dX2_add_49 ?_
  obtain rfl := Option.some.inj h
  exact az_return (pc := 52) C dX2_add_52 rfl
set_option maxRecDepth 10000 in
set_option maxHeartbeats 4000000 in
theorem A_X2_add {l : Launch} {d : Nat} (hD : 1 ≤ d) {σ : az_Hp} {v0 v1 v2 v3 : Int} {r : az_Hp} (h : fz_X2_add σ v0 v1 v2 v3 = some r) : az_AC l yX2_add cX2_add 4 none d [(4, v0), (0, v1), (0, v2), (0, v3)] σ (none, r) := az_AC.of mt_X2_add rfl rfl rfl (fun Z hZ C => A_X2_add_e C hD h)
theorem dX2_isLower_0 : decode cX2_isLower 0 = .ok (.iload_n 0, 1) := by decide +kernel
theorem dX2_isLower_1 : decode cX2_isLower 1 = .ok (.bipush 97, 2) := by decide +kernel
theorem dX2_isLower_3 : decode cX2_isLower 3 = .ok (.if_icmp .lt 13, 3) := by decide +kernel
theorem dX2_isLower_6 : decode cX2_isLower 6 = .ok (.iload_n 0, 1) := by decide +kernel
theorem dX2_isLower_7 : decode cX2_isLower 7 = .ok (.bipush 122, 2) := by decide +kernel
theorem dX2_isLower_9 : decode cX2_isLower 9 = .ok (.if_icmp .gt 7, 3) := by decide +kernel
theorem dX2_isLower_12 : decode cX2_isLower 12 = .ok (.iconst 1, 1) := by decide +kernel
theorem dX2_isLower_13 : decode cX2_isLower 13 = .ok (.goto 4, 3) := by decide +kernel
theorem dX2_isLower_16 : decode cX2_isLower 16 = .ok (.iconst 0, 1) := by decide +kernel
theorem dX2_isLower_17 : decode cX2_isLower 17 = .ok (.ireturn, 1) := by decide +kernel
set_option maxRecDepth 10000 in
set_option maxHeartbeats 4000000 in
theorem A_X2_isLower_e {Z : az_Z} {d : Nat} (C : az_C Z yX2_isLower cX2_isLower 1 (some .boolean) d) (hD : 1 ≤ d) {σ : az_Hp} {v0 : Int} {r : Int} (h : fz_X2_isLower σ v0 = some r) : az_AW Z 1 0 [(0, v0)] [] σ (some (0, r), σ) := by
  have hd1 : 1 ≤ d := by omega
  unfold fz_X2_isLower at h
  refine az_il0 (pc := 0) C dX2_isLower_0 ?_
  refine az_bk97 (pc := 1) C dX2_isLower_1 ?_
  refine az_icmp_lt (pc := 3) (tgt := 16) C h dX2_isLower_3 (by decide) (fun _ h => ?_) (fun _ h => ?_)
  · refine az_ik0 (pc := 16) C dX2_isLower_16 ?_
    obtain rfl := Option.some.inj h
    exact az_zreturn (pc := 17) C (by decide) dX2_isLower_17 rfl
  refine az_il0 (pc := 6) C dX2_isLower_6 ?_
  refine az_bk122 (pc := 7) C dX2_isLower_7 ?_
  refine az_icmp_gt (pc := 9) (tgt := 16) C h dX2_isLower_9 (by decide) (fun _ h => ?_) (fun _ h => ?_)
  · refine az_ik0 (pc := 16) C dX2_isLower_16 ?_
    obtain rfl := Option.some.inj h
    exact az_zreturn (pc := 17) C (by decide) dX2_isLower_17 rfl
  refine az_ik1 (pc := 12) C dX2_isLower_12 ?_
  refine az_goto (pc := 13) (tgt := 17) C dX2_isLower_13 (by decide) ?_
  obtain rfl := Option.some.inj h
  exact az_zreturn (pc := 17) C (by decide) dX2_isLower_17 rfl
set_option maxRecDepth 10000 in
set_option maxHeartbeats 4000000 in
theorem A_X2_isLower {l : Launch} {d : Nat} (hD : 1 ≤ d) {σ : az_Hp} {v0 : Int} {r : Int} (h : fz_X2_isLower σ v0 = some r) : az_AC l yX2_isLower cX2_isLower 1 (some .boolean) d [(0, v0)] σ (some (0, r), σ) := az_AC.of mt_X2_isLower rfl rfl rfl (fun Z hZ C => A_X2_isLower_e C hD h)
theorem dX2_isLetter_0 : decode cX2_isLetter 0 = .ok (.iload_n 0, 1) := by decide +kernel
theorem dX2_isLetter_1 : decode cX2_isLetter 1 = .ok (.bipush 65, 2) := by decide +kernel
theorem dX2_isLetter_3 : decode cX2_isLetter 3 = .ok (.if_icmp .lt 9, 3) := by decide +kernel
theorem dX2_isLetter_6 : decode cX2_isLetter 6 = .ok (.iload_n 0, 1) := by decide +kernel
theorem dX2_isLetter_7 : decode cX2_isLetter 7 = .ok (.bipush 90, 2) := by decide +kernel
theorem dX2_isLetter_9 : decode cX2_isLetter 9 = .ok (.if_icmp .le 10, 3) := by decide +kernel
theorem dX2_isLetter_12 : decode cX2_isLetter 12 = .ok (.iload_n 0, 1) := by decide +kernel
theorem dX2_isLetter_13 : decode cX2_isLetter 13 = .ok (.invokestatic 58, 3) := by decide +kernel
theorem dX2_isLetter_16 : decode cX2_isLetter 16 = .ok (.ifCond .eq 7, 3) := by decide +kernel
theorem dX2_isLetter_19 : decode cX2_isLetter 19 = .ok (.iconst 1, 1) := by decide +kernel
theorem dX2_isLetter_20 : decode cX2_isLetter 20 = .ok (.goto 4, 3) := by decide +kernel
theorem dX2_isLetter_23 : decode cX2_isLetter 23 = .ok (.iconst 0, 1) := by decide +kernel
theorem dX2_isLetter_24 : decode cX2_isLetter 24 = .ok (.ireturn, 1) := by decide +kernel
set_option maxRecDepth 10000 in
set_option maxHeartbeats 4000000 in
theorem A_X2_isLetter_12 {Z : az_Z} {d : Nat} (C : az_C Z yX2_isLetter cX2_isLetter 1 (some .boolean) d) (hD : 2 ≤ d) {σ : az_Hp} {v0 : Int} {r : Int} (h : fz_X2_isLetter_12 σ v0 = some r) : az_AW Z 1 12 [(0, v0)] [] σ (some (0, r), σ) := by
  have hd1 : 1 ≤ d := by omega
  unfold fz_X2_isLetter_12 at h
  refine az_il0 (pc := 12) C dX2_isLetter_12 ?_
  refine az_cS1pi (pc := 13) C hd1 h ms_X2_isLower ml_X2_58 rfl (fun x hx => A_X2_isLower (by omega) hx) dX2_isLetter_13 (fun r1 h => ?_)
  refine az_if_eq (pc := 16) (tgt := 23) C h dX2_isLetter_16 (by decide) (fun _ h => ?_) (fun _ h => ?_)
  · refine az_ik0 (pc := 23) C dX2_isLetter_23 ?_
    obtain rfl := Option.some.inj h
    exact az_zreturn (pc := 24) C (by decide) dX2_isLetter_24 rfl
  refine az_ik1 (pc := 19) C dX2_isLetter_19 ?_
  refine az_goto (pc := 20) (tgt := 24) C dX2_isLetter_20 (by decide) ?_
  obtain rfl := Option.some.inj h
  exact az_zreturn (pc := 24) C (by decide) dX2_isLetter_24 rfl
set_option maxRecDepth 10000 in
set_option maxHeartbeats 4000000 in
theorem A_X2_isLetter_e {Z : az_Z} {d : Nat} (C : az_C Z yX2_isLetter cX2_isLetter 1 (some .boolean) d) (hD : 2 ≤ d) {σ : az_Hp} {v0 : Int} {r : Int} (h : fz_X2_isLetter σ v0 = some r) : az_AW Z 1 0 [(0, v0)] [] σ (some (0, r), σ) := by
  have hd1 : 1 ≤ d := by omega
  unfold fz_X2_isLetter at h
  refine az_il0 (pc := 0) C dX2_isLetter_0 ?_
  refine az_bk65 (pc := 1) C dX2_isLetter_1 ?_
  refine az_icmp_lt (pc := 3) (tgt := 12) C h dX2_isLetter_3 (by decide) (fun _ h => ?_) (fun _ h => ?_)
  · exact (A_X2_isLetter_12 C hD h)
  refine az_il0 (pc := 6) C dX2_isLetter_6 ?_
  refine az_bk90 (pc := 7) C dX2_isLetter_7 ?_
  refine az_icmp_le (pc := 9) (tgt := 19) C h dX2_isLetter_9 (by decide) (fun _ h => ?_) (fun _ h => ?_)
  · refine az_ik1 (pc := 19) C dX2_isLetter_19 ?_
    refine az_goto (pc := 20) (tgt := 24) C dX2_isLetter_20 (by decide) ?_
    obtain rfl := Option.some.inj h
    exact az_zreturn (pc := 24) C (by decide) dX2_isLetter_24 rfl
  exact (A_X2_isLetter_12 C hD h)
set_option maxRecDepth 10000 in
set_option maxHeartbeats 4000000 in
theorem A_X2_isLetter {l : Launch} {d : Nat} (hD : 2 ≤ d) {σ : az_Hp} {v0 : Int} {r : Int} (h : fz_X2_isLetter σ v0 = some r) : az_AC l yX2_isLetter cX2_isLetter 1 (some .boolean) d [(0, v0)] σ (some (0, r), σ) := az_AC.of mt_X2_isLetter rfl rfl rfl (fun Z hZ C => A_X2_isLetter_e C hD h)
theorem dX2_endOfLetters_0 : decode cX2_endOfLetters 0 = .ok (.iload_n 1, 1) := by decide +kernel
theorem dX2_endOfLetters_1 : decode cX2_endOfLetters 1 = .ok (.istore_n 3, 1) := by decide +kernel
theorem dX2_endOfLetters_2 : decode cX2_endOfLetters 2 = .ok (.iload_n 3, 1) := by decide +kernel
theorem dX2_endOfLetters_3 : decode cX2_endOfLetters 3 = .ok (.iload_n 2, 1) := by decide +kernel
theorem dX2_endOfLetters_4 : decode cX2_endOfLetters 4 = .ok (.if_icmp .ge 18, 3) := by decide +kernel
theorem dX2_endOfLetters_7 : decode cX2_endOfLetters 7 = .ok (.aload_n 0, 1) := by decide +kernel
theorem dX2_endOfLetters_8 : decode cX2_endOfLetters 8 = .ok (.iload_n 3, 1) := by decide +kernel
theorem dX2_endOfLetters_9 : decode cX2_endOfLetters 9 = .ok (.iaload, 1) := by decide +kernel
theorem dX2_endOfLetters_10 : decode cX2_endOfLetters 10 = .ok (.invokestatic 31, 3) := by decide +kernel
theorem dX2_endOfLetters_13 : decode cX2_endOfLetters 13 = .ok (.ifCond .eq 9, 3) := by decide +kernel
theorem dX2_endOfLetters_16 : decode cX2_endOfLetters 16 = .ok (.iinc 3 1, 3) := by decide +kernel
theorem dX2_endOfLetters_19 : decode cX2_endOfLetters 19 = .ok (.goto (-17), 3) := by decide +kernel
theorem dX2_endOfLetters_22 : decode cX2_endOfLetters 22 = .ok (.iload_n 3, 1) := by decide +kernel
theorem dX2_endOfLetters_23 : decode cX2_endOfLetters 23 = .ok (.ireturn, 1) := by decide +kernel
set_option maxRecDepth 10000 in
set_option maxHeartbeats 4000000 in
theorem A_X2_endOfLetters_2 {Z : az_Z} {d : Nat} (C : az_C Z yX2_endOfLetters cX2_endOfLetters 4 (some .int) d) (hD : 3 ≤ d) (n : Nat) (k : Nat) : ∀ {σ : az_Hp} {v0 v2 v3 : Int} {r : Int}, fz_X2_endOfLetters_2 n k σ v0 v2 v3 = some r → az_AW Z 4 2 [(15, v0), (31, 0), (0, v2), (0, v3)] [] σ (some (0, r), σ) := by
  have hd1 : 1 ≤ d := by omega
  induction k with
  | zero => intro σ v0 v2 v3 r h; simp [fz_X2_endOfLetters_2] at h
  | succ k ih =>
    intro σ v0 v2 v3 r h
    unfold fz_X2_endOfLetters_2 at h
    refine az_il3 (pc := 2) C dX2_endOfLetters_2 ?_
    refine az_il2 (pc := 3) C dX2_endOfLetters_3 ?_
    refine az_icmp_ge (pc := 4) (tgt := 22) C h dX2_endOfLetters_4 (by decide) (fun _ h => ?_) (fun _ h => ?_)
    · refine az_il3 (pc := 22) C dX2_endOfLetters_22 ?_
      obtain rfl := Option.some.inj h
      exact az_ireturn (pc := 23) C dX2_endOfLetters_23 rfl
    refine az_al0 (pc := 7) C rfl rfl dX2_endOfLetters_7 ?_
    refine az_il3 (pc := 8) C dX2_endOfLetters_8 ?_
    refine az_iaload (pc := 9) C h dX2_endOfLetters_9 (fun h => ?_)
    refine az_cS1pi (pc := 10) C hd1 h ms_X2_isLetter ml_X2_31 rfl (fun x hx => A_X2_isLetter (by omega) hx) dX2_endOfLetters_10 (fun r2 h => ?_)
    refine az_if_eq (pc := 13) (tgt := 22) C h dX2_endOfLetters_13 (by decide) (fun _ h => ?_) (fun _ h => ?_)
    · refine az_il3 (pc := 22) C dX2_endOfLetters_22 ?_
      obtain rfl := Option.some.inj h
      exact az_ireturn (pc := 23) C dX2_endOfLetters_23 rfl
    refine az_ii3 (pc := 16) C az_n1 rfl rfl dX2_endOfLetters_16 ?_
    refine az_goto (pc := 19) (tgt := 2) C dX2_endOfLetters_19 (by decide) ?_
    exact (ih h)
set_option maxRecDepth 10000 in
set_option maxHeartbeats 4000000 in
theorem A_X2_endOfLetters_e {Z : az_Z} {d : Nat} (C : az_C Z yX2_endOfLetters cX2_endOfLetters 4 (some .int) d) (hD : 3 ≤ d) (n : Nat) {σ : az_Hp} {v0 v1 v2 : Int} {r : Int} (h : fz_X2_endOfLetters n σ v0 v1 v2 = some r) : az_AW Z 4 0 [(15, v0), (0, v1), (0, v2), (31, 0)] [] σ (some (0, r), σ) := by
  have hd1 : 1 ≤ d := by omega
  unfold fz_X2_endOfLetters at h
  refine az_il1 (pc := 0) C dX2_endOfLetters_0 ?_
  refine az_is3 (pc := 1) C rfl rfl dX2_endOfLetters_1 ?_
  exact (az_wkk (A_X2_endOfLetters_2 C hD n n h) (az_sE (az_sJ (az_sE (az_sE az_sN)))))
set_option maxRecDepth 10000 in
set_option maxHeartbeats 4000000 in
theorem A_X2_endOfLetters {l : Launch} {d : Nat} (hD : 3 ≤ d) (n : Nat) {σ : az_Hp} {v0 v1 v2 : Int} {r : Int} (h : fz_X2_endOfLetters n σ v0 v1 v2 = some r) : az_AC l yX2_endOfLetters cX2_endOfLetters 4 (some .int) d [(15, v0), (0, v1), (0, v2)] σ (some (0, r), σ) := az_AC.of mt_X2_endOfLetters rfl rfl rfl (fun Z hZ C => A_X2_endOfLetters_e C hD n h)
theorem dX2_isDigit_0 : decode cX2_isDigit 0 = .ok (.iload_n 0, 1) := by decide +kernel
theorem dX2_isDigit_1 : decode cX2_isDigit 1 = .ok (.bipush 48, 2) := by decide +kernel
theorem dX2_isDigit_3 : decode cX2_isDigit 3 = .ok (.if_icmp .lt 13, 3) := by decide +kernel
theorem dX2_isDigit_6 : decode cX2_isDigit 6 = .ok (.iload_n 0, 1) := by decide +kernel
theorem dX2_isDigit_7 : decode cX2_isDigit 7 = .ok (.bipush 57, 2) := by decide +kernel
theorem dX2_isDigit_9 : decode cX2_isDigit 9 = .ok (.if_icmp .gt 7, 3) := by decide +kernel
theorem dX2_isDigit_12 : decode cX2_isDigit 12 = .ok (.iconst 1, 1) := by decide +kernel
theorem dX2_isDigit_13 : decode cX2_isDigit 13 = .ok (.goto 4, 3) := by decide +kernel
theorem dX2_isDigit_16 : decode cX2_isDigit 16 = .ok (.iconst 0, 1) := by decide +kernel
theorem dX2_isDigit_17 : decode cX2_isDigit 17 = .ok (.ireturn, 1) := by decide +kernel
set_option maxRecDepth 10000 in
set_option maxHeartbeats 4000000 in
theorem A_X2_isDigit_e {Z : az_Z} {d : Nat} (C : az_C Z yX2_isDigit cX2_isDigit 1 (some .boolean) d) (hD : 1 ≤ d) {σ : az_Hp} {v0 : Int} {r : Int} (h : fz_X2_isDigit σ v0 = some r) : az_AW Z 1 0 [(0, v0)] [] σ (some (0, r), σ) := by
  have hd1 : 1 ≤ d := by omega
  unfold fz_X2_isDigit at h
  refine az_il0 (pc := 0) C dX2_isDigit_0 ?_
  refine az_bk48 (pc := 1) C dX2_isDigit_1 ?_
  refine az_icmp_lt (pc := 3) (tgt := 16) C h dX2_isDigit_3 (by decide) (fun _ h => ?_) (fun _ h => ?_)
  · refine az_ik0 (pc := 16) C dX2_isDigit_16 ?_
    obtain rfl := Option.some.inj h
    exact az_zreturn (pc := 17) C (by decide) dX2_isDigit_17 rfl
  refine az_il0 (pc := 6) C dX2_isDigit_6 ?_
  refine az_bk57 (pc := 7) C dX2_isDigit_7 ?_
  refine az_icmp_gt (pc := 9) (tgt := 16) C h dX2_isDigit_9 (by decide) (fun _ h => ?_) (fun _ h => ?_)
  · refine az_ik0 (pc := 16) C dX2_isDigit_16 ?_
    obtain rfl := Option.some.inj h
    exact az_zreturn (pc := 17) C (by decide) dX2_isDigit_17 rfl
  refine az_ik1 (pc := 12) C dX2_isDigit_12 ?_
  refine az_goto (pc := 13) (tgt := 17) C dX2_isDigit_13 (by decide) ?_
  obtain rfl := Option.some.inj h
  exact az_zreturn (pc := 17) C (by decide) dX2_isDigit_17 rfl
set_option maxRecDepth 10000 in
set_option maxHeartbeats 4000000 in
theorem A_X2_isDigit {l : Launch} {d : Nat} (hD : 1 ≤ d) {σ : az_Hp} {v0 : Int} {r : Int} (h : fz_X2_isDigit σ v0 = some r) : az_AC l yX2_isDigit cX2_isDigit 1 (some .boolean) d [(0, v0)] σ (some (0, r), σ) := az_AC.of mt_X2_isDigit rfl rfl rfl (fun Z hZ C => A_X2_isDigit_e C hD h)
theorem dX2_isSign_0 : decode cX2_isSign 0 = .ok (.iload_n 0, 1) := by decide +kernel
theorem dX2_isSign_1 : decode cX2_isSign 1 = .ok (.bipush 59, 2) := by decide +kernel
theorem dX2_isSign_3 : decode cX2_isSign 3 = .ok (.if_icmp .eq 33, 3) := by decide +kernel
theorem dX2_isSign_6 : decode cX2_isSign 6 = .ok (.iload_n 0, 1) := by decide +kernel
theorem dX2_isSign_7 : decode cX2_isSign 7 = .ok (.bipush 40, 2) := by decide +kernel
theorem dX2_isSign_9 : decode cX2_isSign 9 = .ok (.if_icmp .eq 27, 3) := by decide +kernel
theorem dX2_isSign_12 : decode cX2_isSign 12 = .ok (.iload_n 0, 1) := by decide +kernel
theorem dX2_isSign_13 : decode cX2_isSign 13 = .ok (.bipush 41, 2) := by decide +kernel
theorem dX2_isSign_15 : decode cX2_isSign 15 = .ok (.if_icmp .eq 21, 3) := by decide +kernel
theorem dX2_isSign_18 : decode cX2_isSign 18 = .ok (.iload_n 0, 1) := by decide +kernel
theorem dX2_isSign_19 : decode cX2_isSign 19 = .ok (.bipush 44, 2) := by decide +kernel
theorem dX2_isSign_21 : decode cX2_isSign 21 = .ok (.if_icmp .eq 15, 3) := by decide +kernel
theorem dX2_isSign_24 : decode cX2_isSign 24 = .ok (.iload_n 0, 1) := by decide +kernel
theorem dX2_isSign_25 : decode cX2_isSign 25 = .ok (.bipush 61, 2) := by decide +kernel
theorem dX2_isSign_27 : decode cX2_isSign 27 = .ok (.if_icmp .eq 9, 3) := by decide +kernel
theorem dX2_isSign_30 : decode cX2_isSign 30 = .ok (.iload_n 0, 1) := by decide +kernel
theorem dX2_isSign_31 : decode cX2_isSign 31 = .ok (.bipush 63, 2) := by decide +kernel
theorem dX2_isSign_33 : decode cX2_isSign 33 = .ok (.if_icmp .ne 7, 3) := by decide +kernel
theorem dX2_isSign_36 : decode cX2_isSign 36 = .ok (.iconst 1, 1) := by decide +kernel
theorem dX2_isSign_37 : decode cX2_isSign 37 = .ok (.goto 4, 3) := by decide +kernel
theorem dX2_isSign_40 : decode cX2_isSign 40 = .ok (.iconst 0, 1) := by decide +kernel
theorem dX2_isSign_41 : decode cX2_isSign 41 = .ok (.ireturn, 1) := by decide +kernel
set_option maxRecDepth 10000 in
set_option maxHeartbeats 4000000 in
theorem A_X2_isSign_e {Z : az_Z} {d : Nat} (C : az_C Z yX2_isSign cX2_isSign 1 (some .boolean) d) (hD : 1 ≤ d) {σ : az_Hp} {v0 : Int} {r : Int} (h : fz_X2_isSign σ v0 = some r) : az_AW Z 1 0 [(0, v0)] [] σ (some (0, r), σ) := by
  have hd1 : 1 ≤ d := by omega
  unfold fz_X2_isSign at h
  refine az_il0 (pc := 0) C dX2_isSign_0 ?_
  refine az_bk59 (pc := 1) C dX2_isSign_1 ?_
  refine az_icmp_eq (pc := 3) (tgt := 36) C h dX2_isSign_3 (by decide) (fun _ h => ?_) (fun _ h => ?_)
  · refine az_ik1 (pc := 36) C dX2_isSign_36 ?_
    refine az_goto (pc := 37) (tgt := 41) C dX2_isSign_37 (by decide) ?_
    obtain rfl := Option.some.inj h
    exact az_zreturn (pc := 41) C (by decide) dX2_isSign_41 rfl
  refine az_il0 (pc := 6) C dX2_isSign_6 ?_
  refine az_bk40 (pc := 7) C dX2_isSign_7 ?_
  refine az_icmp_eq (pc := 9) (tgt := 36) C h dX2_isSign_9 (by decide) (fun _ h => ?_) (fun _ h => ?_)
  · refine az_ik1 (pc := 36) C dX2_isSign_36 ?_
    refine az_goto (pc := 37) (tgt := 41) C dX2_isSign_37 (by decide) ?_
    obtain rfl := Option.some.inj h
    exact az_zreturn (pc := 41) C (by decide) dX2_isSign_41 rfl
  refine az_il0 (pc := 12) C dX2_isSign_12 ?_
  refine az_bk41 (pc := 13) C dX2_isSign_13 ?_
  refine az_icmp_eq (pc := 15) (tgt := 36) C h dX2_isSign_15 (by decide) (fun _ h => ?_) (fun _ h => ?_)
  · refine az_ik1 (pc := 36) C dX2_isSign_36 ?_
    refine az_goto (pc := 37) (tgt := 41) C dX2_isSign_37 (by decide) ?_
    obtain rfl := Option.some.inj h
    exact az_zreturn (pc := 41) C (by decide) dX2_isSign_41 rfl
  refine az_il0 (pc := 18) C dX2_isSign_18 ?_
  refine az_bk44 (pc := 19) C dX2_isSign_19 ?_
  refine az_icmp_eq (pc := 21) (tgt := 36) C h dX2_isSign_21 (by decide) (fun _ h => ?_) (fun _ h => ?_)
  · refine az_ik1 (pc := 36) C dX2_isSign_36 ?_
    refine az_goto (pc := 37) (tgt := 41) C dX2_isSign_37 (by decide) ?_
    obtain rfl := Option.some.inj h
    exact az_zreturn (pc := 41) C (by decide) dX2_isSign_41 rfl
  refine az_il0 (pc := 24) C dX2_isSign_24 ?_
  refine az_bk61 (pc := 25) C dX2_isSign_25 ?_
  refine az_icmp_eq (pc := 27) (tgt := 36) C h dX2_isSign_27 (by decide) (fun _ h => ?_) (fun _ h => ?_)
  · refine az_ik1 (pc := 36) C dX2_isSign_36 ?_
    refine az_goto (pc := 37) (tgt := 41) C dX2_isSign_37 (by decide) ?_
    obtain rfl := Option.some.inj h
    exact az_zreturn (pc := 41) C (by decide) dX2_isSign_41 rfl
  refine az_il0 (pc := 30) C dX2_isSign_30 ?_
  refine az_bk63 (pc := 31) C dX2_isSign_31 ?_
  refine az_icmp_ne (pc := 33) (tgt := 40) C h dX2_isSign_33 (by decide) (fun _ h => ?_) (fun _ h => ?_)
  · refine az_ik0 (pc := 40) C dX2_isSign_40 ?_
    obtain rfl := Option.some.inj h
    exact az_zreturn (pc := 41) C (by decide) dX2_isSign_41 rfl
  refine az_ik1 (pc := 36) C dX2_isSign_36 ?_
  refine az_goto (pc := 37) (tgt := 41) C dX2_isSign_37 (by decide) ?_
  obtain rfl := Option.some.inj h
  exact az_zreturn (pc := 41) C (by decide) dX2_isSign_41 rfl
set_option maxRecDepth 10000 in
set_option maxHeartbeats 4000000 in
theorem A_X2_isSign {l : Launch} {d : Nat} (hD : 1 ≤ d) {σ : az_Hp} {v0 : Int} {r : Int} (h : fz_X2_isSign σ v0 = some r) : az_AC l yX2_isSign cX2_isSign 1 (some .boolean) d [(0, v0)] σ (some (0, r), σ) := az_AC.of mt_X2_isSign rfl rfl rfl (fun Z hZ C => A_X2_isSign_e C hD h)
theorem dX2_kindOfLetters_0 : decode cX2_kindOfLetters 0 = .ok (.iload_n 1, 1) := by decide +kernel
theorem dX2_kindOfLetters_1 : decode cX2_kindOfLetters 1 = .ok (.iconst 1, 1) := by decide +kernel
theorem dX2_kindOfLetters_2 : decode cX2_kindOfLetters 2 = .ok (.iadd, 1) := by decide +kernel
theorem dX2_kindOfLetters_3 : decode cX2_kindOfLetters 3 = .ok (.istore_n 3, 1) := by decide +kernel
theorem dX2_kindOfLetters_4 : decode cX2_kindOfLetters 4 = .ok (.iload_n 3, 1) := by decide +kernel
theorem dX2_kindOfLetters_5 : decode cX2_kindOfLetters 5 = .ok (.iload_n 2, 1) := by decide +kernel
theorem dX2_kindOfLetters_6 : decode cX2_kindOfLetters 6 = .ok (.if_icmp .ge 20, 3) := by decide +kernel
theorem dX2_kindOfLetters_9 : decode cX2_kindOfLetters 9 = .ok (.aload_n 0, 1) := by decide +kernel
theorem dX2_kindOfLetters_10 : decode cX2_kindOfLetters 10 = .ok (.iload_n 3, 1) := by decide +kernel
theorem dX2_kindOfLetters_11 : decode cX2_kindOfLetters 11 = .ok (.iaload, 1) := by decide +kernel
theorem dX2_kindOfLetters_12 : decode cX2_kindOfLetters 12 = .ok (.invokestatic 58, 3) := by decide +kernel
theorem dX2_kindOfLetters_15 : decode cX2_kindOfLetters 15 = .ok (.ifCond .ne 5, 3) := by decide +kernel
theorem dX2_kindOfLetters_18 : decode cX2_kindOfLetters 18 = .ok (.iconst 1, 1) := by decide +kernel
theorem dX2_kindOfLetters_19 : decode cX2_kindOfLetters 19 = .ok (.ireturn, 1) := by decide +kernel
theorem dX2_kindOfLetters_20 : decode cX2_kindOfLetters 20 = .ok (.iinc 3 1, 3) := by decide +kernel
theorem dX2_kindOfLetters_23 : decode cX2_kindOfLetters 23 = .ok (.goto (-19), 3) := by decide +kernel
theorem dX2_kindOfLetters_26 : decode cX2_kindOfLetters 26 = .ok (.iload_n 2, 1) := by decide +kernel
theorem dX2_kindOfLetters_27 : decode cX2_kindOfLetters 27 = .ok (.iload_n 1, 1) := by decide +kernel
theorem dX2_kindOfLetters_28 : decode cX2_kindOfLetters 28 = .ok (.isub, 1) := by decide +kernel
theorem dX2_kindOfLetters_29 : decode cX2_kindOfLetters 29 = .ok (.bipush 6, 2) := by decide +kernel
theorem dX2_kindOfLetters_31 : decode cX2_kindOfLetters 31 = .ok (.if_icmp .le 5, 3) := by decide +kernel
theorem dX2_kindOfLetters_34 : decode cX2_kindOfLetters 34 = .ok (.iconst 1, 1) := by decide +kernel
theorem dX2_kindOfLetters_35 : decode cX2_kindOfLetters 35 = .ok (.ireturn, 1) := by decide +kernel
theorem dX2_kindOfLetters_36 : decode cX2_kindOfLetters 36 = .ok (.aload_n 0, 1) := by decide +kernel
theorem dX2_kindOfLetters_37 : decode cX2_kindOfLetters 37 = .ok (.iload_n 1, 1) := by decide +kernel
theorem dX2_kindOfLetters_38 : decode cX2_kindOfLetters 38 = .ok (.iaload, 1) := by decide +kernel
theorem dX2_kindOfLetters_39 : decode cX2_kindOfLetters 39 = .ok (.invokestatic 58, 3) := by decide +kernel
theorem dX2_kindOfLetters_42 : decode cX2_kindOfLetters 42 = .ok (.ifCond .eq 7, 3) := by decide +kernel
theorem dX2_kindOfLetters_45 : decode cX2_kindOfLetters 45 = .ok (.iconst 3, 1) := by decide +kernel
theorem dX2_kindOfLetters_46 : decode cX2_kindOfLetters 46 = .ok (.goto 4, 3) := by decide +kernel
theorem dX2_kindOfLetters_49 : decode cX2_kindOfLetters 49 = .ok (.iconst 2, 1) := by decide +kernel
theorem dX2_kindOfLetters_50 : decode cX2_kindOfLetters 50 = .ok (.ireturn, 1) := by decide +kernel
set_option maxRecDepth 10000 in
set_option maxHeartbeats 4000000 in
theorem A_X2_kindOfLetters_4 {Z : az_Z} {d : Nat} (C : az_C Z yX2_kindOfLetters cX2_kindOfLetters 4 (some .int) d) (hD : 2 ≤ d) (n : Nat) (k : Nat) : ∀ {σ : az_Hp} {v0 v1 v2 v3 : Int} {r : Int}, fz_X2_kindOfLetters_4 n k σ v0 v1 v2 v3 = some r → az_AW Z 4 4 [(15, v0), (0, v1), (0, v2), (0, v3)] [] σ (some (0, r), σ) := by
  have hd1 : 1 ≤ d := by omega
  induction k with
  | zero => intro σ v0 v1 v2 v3 r h; simp [fz_X2_kindOfLetters_4] at h
  | succ k ih =>
    intro σ v0 v1 v2 v3 r h
    unfold fz_X2_kindOfLetters_4 at h
    refine az_il3 (pc := 4) C dX2_kindOfLetters_4 ?_
    refine az_il2 (pc := 5) C dX2_kindOfLetters_5 ?_
    refine az_icmp_ge (pc := 6) (tgt := 26) C h dX2_kindOfLetters_6 (by decide) (fun _ h => ?_) (fun _ h => ?_)
    · refine az_il2 (pc := 26) C dX2_kindOfLetters_26 ?_
      refine az_il1 (pc := 27) C dX2_kindOfLetters_27 ?_
      refine az_isub (pc := 28) C dX2_kindOfLetters_28 ?_
      refine az_bk6 (pc := 29) C dX2_kindOfLetters_29 ?_
      refine az_icmp_le (pc := 31) (tgt := 36) C h dX2_kindOfLetters_31 (by decide) (fun _ h => ?_) (fun _ h => ?_)
      · refine az_al0 (pc := 36) C rfl rfl dX2_kindOfLetters_36 ?_
        refine az_il1 (pc := 37) C dX2_kindOfLetters_37 ?_
        refine az_iaload (pc := 38) C h dX2_kindOfLetters_38 (fun h => ?_)
        refine az_cS1pi (pc := 39) C hd1 h ms_X2_isLower ml_X2_58 rfl (fun x hx => A_X2_isLower (by omega) hx) dX2_kindOfLetters_39 (fun r2 h => ?_)
        refine az_if_eq (pc := 42) (tgt := 49) C h dX2_kindOfLetters_42 (by decide) (fun _ h => ?_) (fun _ h => ?_)
        · refine az_ik2 (pc := 49) C dX2_kindOfLetters_49 ?_
          obtain rfl := Option.some.inj h
          exact az_ireturn (pc := 50) C dX2_kindOfLetters_50 rfl
        refine az_ik3 (pc := 45) C dX2_kindOfLetters_45 ?_
        refine az_goto (pc := 46) (tgt := 50) C dX2_kindOfLetters_46 (by decide) ?_
        obtain rfl := Option.some.inj h
        exact az_ireturn (pc := 50) C dX2_kindOfLetters_50 rfl
      refine az_ik1 (pc := 34) C dX2_kindOfLetters_34 ?_
      obtain rfl := Option.some.inj h
      exact az_ireturn (pc := 35) C dX2_kindOfLetters_35 rfl
    refine az_al0 (pc := 9) C rfl rfl dX2_kindOfLetters_9 ?_
    refine az_il3 (pc := 10) C dX2_kindOfLetters_10 ?_
    refine az_iaload (pc := 11) C h dX2_kindOfLetters_11 (fun h => ?_)
    refine az_cS1pi (pc := 12) C hd1 h ms_X2_isLower ml_X2_58 rfl (fun x hx => A_X2_isLower (by omega) hx) dX2_kindOfLetters_12 (fun r4 h => ?_)
    refine az_if_ne (pc := 15) (tgt := 20) C h dX2_kindOfLetters_15 (by decide) (fun _ h => ?_) (fun _ h => ?_)
    · refine az_ii3 (pc := 20) C az_n1 rfl rfl dX2_kindOfLetters_20 ?_
      refine az_goto (pc := 23) (tgt := 4) C dX2_kindOfLetters_23 (by decide) ?_
      exact (ih h)
    refine az_ik1 (pc := 18) C dX2_kindOfLetters_18 ?_
    obtain rfl := Option.some.inj h
    exact az_ireturn (pc := 19) C dX2_kindOfLetters_19 rfl
set_option maxRecDepth 10000 in
set_option maxHeartbeats 4000000 in
theorem A_X2_kindOfLetters_e {Z : az_Z} {d : Nat} (C : az_C Z yX2_kindOfLetters cX2_kindOfLetters 4 (some .int) d) (hD : 2 ≤ d) (n : Nat) {σ : az_Hp} {v0 v1 v2 : Int} {r : Int} (h : fz_X2_kindOfLetters n σ v0 v1 v2 = some r) : az_AW Z 4 0 [(15, v0), (0, v1), (0, v2), (31, 0)] [] σ (some (0, r), σ) := by
  have hd1 : 1 ≤ d := by omega
  unfold fz_X2_kindOfLetters at h
  refine az_il1 (pc := 0) C dX2_kindOfLetters_0 ?_
  refine az_ik1 (pc := 1) C dX2_kindOfLetters_1 ?_
  refine az_iadd (pc := 2) C dX2_kindOfLetters_2 ?_
  refine az_is3 (pc := 3) C rfl rfl dX2_kindOfLetters_3 ?_
  exact (A_X2_kindOfLetters_4 C hD n n h)
set_option maxRecDepth 10000 in
set_option maxHeartbeats 4000000 in
theorem A_X2_kindOfLetters {l : Launch} {d : Nat} (hD : 2 ≤ d) (n : Nat) {σ : az_Hp} {v0 v1 v2 : Int} {r : Int} (h : fz_X2_kindOfLetters n σ v0 v1 v2 = some r) : az_AC l yX2_kindOfLetters cX2_kindOfLetters 4 (some .int) d [(15, v0), (0, v1), (0, v2)] σ (some (0, r), σ) := az_AC.of mt_X2_kindOfLetters rfl rfl rfl (fun Z hZ C => A_X2_kindOfLetters_e C hD n h)
theorem dX2_valueOfLetters_0 : decode cX2_valueOfLetters 0 = .ok (.iconst 0, 1) := by decide +kernel
theorem dX2_valueOfLetters_1 : decode cX2_valueOfLetters 1 = .ok (.istore_n 3, 1) := by decide +kernel
theorem dX2_valueOfLetters_2 : decode cX2_valueOfLetters 2 = .ok (.iload_n 1, 1) := by decide +kernel
theorem dX2_valueOfLetters_3 : decode cX2_valueOfLetters 3 = .ok (.istore 4, 2) := by decide +kernel
theorem dX2_valueOfLetters_5 : decode cX2_valueOfLetters 5 = .ok (.iload 4, 2) := by decide +kernel
theorem dX2_valueOfLetters_7 : decode cX2_valueOfLetters 7 = .ok (.iload_n 2, 1) := by decide +kernel
theorem dX2_valueOfLetters_8 : decode cX2_valueOfLetters 8 = .ok (.if_icmp .ge 22, 3) := by decide +kernel
theorem dX2_valueOfLetters_11 : decode cX2_valueOfLetters 11 = .ok (.iload_n 3, 1) := by decide +kernel
theorem dX2_valueOfLetters_12 : decode cX2_valueOfLetters 12 = .ok (.bipush 27, 2) := by decide +kernel
theorem dX2_valueOfLetters_14 : decode cX2_valueOfLetters 14 = .ok (.imul, 1) := by decide +kernel
theorem dX2_valueOfLetters_15 : decode cX2_valueOfLetters 15 = .ok (.aload_n 0, 1) := by decide +kernel
theorem dX2_valueOfLetters_16 : decode cX2_valueOfLetters 16 = .ok (.iload 4, 2) := by decide +kernel
theorem dX2_valueOfLetters_18 : decode cX2_valueOfLetters 18 = .ok (.iaload, 1) := by decide +kernel
theorem dX2_valueOfLetters_19 : decode cX2_valueOfLetters 19 = .ok (.bipush 31, 2) := by decide +kernel
theorem dX2_valueOfLetters_21 : decode cX2_valueOfLetters 21 = .ok (.iand, 1) := by decide +kernel
theorem dX2_valueOfLetters_22 : decode cX2_valueOfLetters 22 = .ok (.iadd, 1) := by decide +kernel
theorem dX2_valueOfLetters_23 : decode cX2_valueOfLetters 23 = .ok (.istore_n 3, 1) := by decide +kernel
theorem dX2_valueOfLetters_24 : decode cX2_valueOfLetters 24 = .ok (.iinc 4 1, 3) := by decide +kernel
theorem dX2_valueOfLetters_27 : decode cX2_valueOfLetters 27 = .ok (.goto (-22), 3) := by decide +kernel
theorem dX2_valueOfLetters_30 : decode cX2_valueOfLetters 30 = .ok (.iload_n 3, 1) := by decide +kernel
theorem dX2_valueOfLetters_31 : decode cX2_valueOfLetters 31 = .ok (.ireturn, 1) := by decide +kernel
set_option maxRecDepth 10000 in
set_option maxHeartbeats 4000000 in
theorem A_X2_valueOfLetters_5 {Z : az_Z} {d : Nat} (C : az_C Z yX2_valueOfLetters cX2_valueOfLetters 5 (some .int) d) (hD : 1 ≤ d) (n : Nat) (k : Nat) : ∀ {σ : az_Hp} {v0 v2 v3 v4 : Int} {r : Int}, fz_X2_valueOfLetters_5 n k σ v0 v2 v3 v4 = some r → az_AW Z 5 5 [(15, v0), (31, 0), (0, v2), (0, v3), (0, v4)] [] σ (some (0, r), σ) := by
  have hd1 : 1 ≤ d := by omega
  induction k with
  | zero => intro σ v0 v2 v3 v4 r h; simp [fz_X2_valueOfLetters_5] at h
  | succ k ih =>
    intro σ v0 v2 v3 v4 r h
    unfold fz_X2_valueOfLetters_5 at h
    refine az_il4 (pc := 5) C dX2_valueOfLetters_5 ?_
    refine az_il2 (pc := 7) C dX2_valueOfLetters_7 ?_
    refine az_icmp_ge (pc := 8) (tgt := 30) C h dX2_valueOfLetters_8 (by decide) (fun _ h => ?_) (fun _ h => ?_)
    · refine az_il3 (pc := 30) C dX2_valueOfLetters_30 ?_
      obtain rfl := Option.some.inj h
      exact az_ireturn (pc := 31) C dX2_valueOfLetters_31 rfl
    refine az_il3 (pc := 11) C dX2_valueOfLetters_11 ?_
    refine az_bk27 (pc := 12) C dX2_valueOfLetters_12 ?_
    refine az_imul (pc := 14) C dX2_valueOfLetters_14 ?_
    refine az_al0 (pc := 15) C rfl rfl dX2_valueOfLetters_15 ?_
    refine az_il4 (pc := 16) C dX2_valueOfLetters_16 ?_
    refine az_iaload (pc := 18) C h dX2_valueOfLetters_18 (fun h => ?_)
    refine az_bk31 (pc := 19) C dX2_valueOfLetters_19 ?_
    refine az_iand (pc := 21) C dX2_valueOfLetters_21 ?_
    refine az_iadd (pc := 22) C dX2_valueOfLetters_22 ?_
    refine az_is3 (pc := 23) C rfl rfl dX2_valueOfLetters_23 ?_
    refine az_ii4 (pc := 24) C az_n1 rfl rfl dX2_valueOfLetters_24 ?_
    refine az_goto (pc := 27) (tgt := 5) C dX2_valueOfLetters_27 (by decide) ?_
    exact (ih h)
set_option maxRecDepth 10000 in
set_option maxHeartbeats 4000000 in
theorem A_X2_valueOfLetters_e {Z : az_Z} {d : Nat} (C : az_C Z yX2_valueOfLetters cX2_valueOfLetters 5 (some .int) d) (hD : 1 ≤ d) (n : Nat) {σ : az_Hp} {v0 v1 v2 : Int} {r : Int} (h : fz_X2_valueOfLetters n σ v0 v1 v2 = some r) : az_AW Z 5 0 [(15, v0), (0, v1), (0, v2), (31, 0), (31, 0)] [] σ (some (0, r), σ) := by
  have hd1 : 1 ≤ d := by omega
  unfold fz_X2_valueOfLetters at h
  refine az_ik0 (pc := 0) C dX2_valueOfLetters_0 ?_
  refine az_is3 (pc := 1) C rfl rfl dX2_valueOfLetters_1 ?_
  refine az_il1 (pc := 2) C dX2_valueOfLetters_2 ?_
  refine az_is4 (pc := 3) C rfl rfl dX2_valueOfLetters_3 ?_
  exact (az_wkk (A_X2_valueOfLetters_5 C hD n n h) (az_sE (az_sJ (az_sE (az_sE (az_sE az_sN))))))
set_option maxRecDepth 10000 in
set_option maxHeartbeats 4000000 in
theorem A_X2_valueOfLetters {l : Launch} {d : Nat} (hD : 1 ≤ d) (n : Nat) {σ : az_Hp} {v0 v1 v2 : Int} {r : Int} (h : fz_X2_valueOfLetters n σ v0 v1 v2 = some r) : az_AC l yX2_valueOfLetters cX2_valueOfLetters 5 (some .int) d [(15, v0), (0, v1), (0, v2)] σ (some (0, r), σ) := az_AC.of mt_X2_valueOfLetters rfl rfl rfl (fun Z hZ C => A_X2_valueOfLetters_e C hD n h)
theorem dX2_scan_0 : decode cX2_scan 0 = .ok (.aload_n 0, 1) := by decide +kernel
theorem dX2_scan_1 : decode cX2_scan 1 = .ok (.iconst 0, 1) := by decide +kernel
theorem dX2_scan_2 : decode cX2_scan 2 = .ok (.putfield 21, 3) := by decide +kernel
theorem dX2_scan_5 : decode cX2_scan 5 = .ok (.iload_n 2, 1) := by decide +kernel
theorem dX2_scan_6 : decode cX2_scan 6 = .ok (.aload_n 1, 1) := by decide +kernel
theorem dX2_scan_7 : decode cX2_scan 7 = .ok (.arraylength, 1) := by decide +kernel
theorem dX2_scan_8 : decode cX2_scan 8 = .ok (.invokestatic 25, 3) := by decide +kernel
theorem dX2_scan_11 : decode cX2_scan 11 = .ok (.istore_n 3, 1) := by decide +kernel
theorem dX2_scan_12 : decode cX2_scan 12 = .ok (.iconst 0, 1) := by decide +kernel
theorem dX2_scan_13 : decode cX2_scan 13 = .ok (.istore 4, 2) := by decide +kernel
theorem dX2_scan_15 : decode cX2_scan 15 = .ok (.iload 4, 2) := by decide +kernel
theorem dX2_scan_17 : decode cX2_scan 17 = .ok (.iload_n 3, 1) := by decide +kernel
theorem dX2_scan_18 : decode cX2_scan 18 = .ok (.if_icmp .ge 184, 3) := by decide +kernel
theorem dX2_scan_21 : decode cX2_scan 21 = .ok (.aload_n 1, 1) := by decide +kernel
theorem dX2_scan_22 : decode cX2_scan 22 = .ok (.iload 4, 2) := by decide +kernel
theorem dX2_scan_24 : decode cX2_scan 24 = .ok (.iaload, 1) := by decide +kernel
theorem dX2_scan_25 : decode cX2_scan 25 = .ok (.istore 5, 2) := by decide +kernel
theorem dX2_scan_27 : decode cX2_scan 27 = .ok (.iload 4, 2) := by decide +kernel
theorem dX2_scan_29 : decode cX2_scan 29 = .ok (.iconst 1, 1) := by decide +kernel
theorem dX2_scan_30 : decode cX2_scan 30 = .ok (.iadd, 1) := by decide +kernel
theorem dX2_scan_31 : decode cX2_scan 31 = .ok (.istore 6, 2) := by decide +kernel
theorem dX2_scan_33 : decode cX2_scan 33 = .ok (.iload 5, 2) := by decide +kernel
theorem dX2_scan_35 : decode cX2_scan 35 = .ok (.invokestatic 31, 3) := by decide +kernel
theorem dX2_scan_38 : decode cX2_scan 38 = .ok (.ifCond .eq 37, 3) := by decide +kernel
theorem dX2_scan_41 : decode cX2_scan 41 = .ok (.aload_n 1, 1) := by decide +kernel
theorem dX2_scan_42 : decode cX2_scan 42 = .ok (.iload 4, 2) := by decide +kernel
theorem dX2_scan_44 : decode cX2_scan 44 = .ok (.iload_n 3, 1) := by decide +kernel
theorem dX2_scan_45 : decode cX2_scan 45 = .ok (.invokestatic 35, 3) := by decide +kernel
theorem dX2_scan_48 : decode cX2_scan 48 = .ok (.istore 6, 2) := by decide +kernel
theorem dX2_scan_50 : decode cX2_scan 50 = .ok (.aload_n 0, 1) := by decide +kernel
theorem dX2_scan_51 : decode cX2_scan 51 = .ok (.aload_n 1, 1) := by decide +kernel
theorem dX2_scan_52 : decode cX2_scan 52 = .ok (.iload 4, 2) := by decide +kernel
theorem dX2_scan_54 : decode cX2_scan 54 = .ok (.iload 6, 2) := by decide +kernel
theorem dX2_scan_56 : decode cX2_scan 56 = .ok (.invokestatic 39, 3) := by decide +kernel
theorem dX2_scan_59 : decode cX2_scan 59 = .ok (.aload_n 1, 1) := by decide +kernel
theorem dX2_scan_60 : decode cX2_scan 60 = .ok (.iload 4, 2) := by decide +kernel
theorem dX2_scan_62 : decode cX2_scan 62 = .ok (.iload 6, 2) := by decide +kernel
theorem dX2_scan_64 : decode cX2_scan 64 = .ok (.invokestatic 42, 3) := by decide +kernel
theorem dX2_scan_67 : decode cX2_scan 67 = .ok (.iload 4, 2) := by decide +kernel
theorem dX2_scan_69 : decode cX2_scan 69 = .ok (.invokevirtual 45, 3) := by decide +kernel
theorem dX2_scan_72 : decode cX2_scan 72 = .ok (.goto 93, 3) := by decide +kernel
theorem dX2_scan_75 : decode cX2_scan 75 = .ok (.iload 5, 2) := by decide +kernel
theorem dX2_scan_77 : decode cX2_scan 77 = .ok (.invokestatic 49, 3) := by decide +kernel
theorem dX2_scan_80 : decode cX2_scan 80 = .ok (.ifCond .eq 50, 3) := by decide +kernel
theorem dX2_scan_83 : decode cX2_scan 83 = .ok (.iload 6, 2) := by decide +kernel
theorem dX2_scan_85 : decode cX2_scan 85 = .ok (.iload_n 3, 1) := by decide +kernel
theorem dX2_scan_86 : decode cX2_scan 86 = .ok (.if_icmp .ge 13, 3) := by decide +kernel
theorem dX2_scan_89 : decode cX2_scan 89 = .ok (.aload_n 1, 1) := by decide +kernel
theorem dX2_scan_90 : decode cX2_scan 90 = .ok (.iload 6, 2) := by decide +kernel
theorem dX2_scan_92 : decode cX2_scan 92 = .ok (.iaload, 1) := by decide +kernel
theorem dX2_scan_93 : decode cX2_scan 93 = .ok (.invokestatic 49, 3) := by decide +kernel
theorem dX2_scan_96 : decode cX2_scan 96 = .ok (.ifCond .ne 7, 3) := by decide +kernel
theorem dX2_scan_99 : decode cX2_scan 99 = .ok (.iconst 1, 1) := by decide +kernel
theorem dX2_scan_100 : decode cX2_scan 100 = .ok (.goto 4, 3) := by decide +kernel
theorem dX2_scan_103 : decode cX2_scan 103 = .ok (.iconst 0, 1) := by decide +kernel
theorem dX2_scan_104 : decode cX2_scan 104 = .ok (.istore 7, 2) := by decide +kernel
theorem dX2_scan_106 : decode cX2_scan 106 = .ok (.aload_n 0, 1) := by decide +kernel
theorem dX2_scan_107 : decode cX2_scan 107 = .ok (.iload 7, 2) := by decide +kernel
theorem dX2_scan_109 : decode cX2_scan 109 = .ok (.ifCond .eq 7, 3) := by decide +kernel
theorem dX2_scan_112 : decode cX2_scan 112 = .ok (.iconst 4, 1) := by decide +kernel
theorem dX2_scan_113 : decode cX2_scan 113 = .ok (.goto 4, 3) := by decide +kernel
theorem dX2_scan_116 : decode cX2_scan 116 = .ok (.iconst 1, 1) := by decide +kernel
theorem dX2_scan_117 : decode cX2_scan 117 = .ok (.iload 5, 2) := by decide +kernel
theorem dX2_scan_119 : decode cX2_scan 119 = .ok (.bipush 48, 2) := by decide +kernel
theorem dX2_scan_121 : decode cX2_scan 121 = .ok (.isub, 1) := by decide +kernel
theorem dX2_scan_122 : decode cX2_scan 122 = .ok (.iload 4, 2) := by decide +kernel
theorem dX2_scan_124 : decode cX2_scan 124 = .ok (.invokevirtual 45, 3) := by decide +kernel
theorem dX2_scan_127 : decode cX2_scan 127 = .ok (.goto 38, 3) := by decide +kernel
theorem dX2_scan_130 : decode cX2_scan 130 = .ok (.iload 5, 2) := by decide +kernel
theorem dX2_scan_132 : decode cX2_scan 132 = .ok (.bipush 10, 2) := by decide +kernel
theorem dX2_scan_134 : decode cX2_scan 134 = .ok (.if_icmp .eq 31, 3) := by decide +kernel
theorem dX2_scan_137 : decode cX2_scan 137 = .ok (.iload 5, 2) := by decide +kernel
theorem dX2_scan_139 : decode cX2_scan 139 = .ok (.bipush 32, 2) := by decide +kernel
theorem dX2_scan_141 : decode cX2_scan 141 = .ok (.if_icmp .eq 24, 3) := by decide +kernel
theorem dX2_scan_144 : decode cX2_scan 144 = .ok (.aload_n 0, 1) := by decide +kernel
theorem dX2_scan_145 : decode cX2_scan 145 = .ok (.iload 5, 2) := by decide +kernel
theorem dX2_scan_147 : decode cX2_scan 147 = .ok (.invokestatic 52, 3) := by decide +kernel
theorem dX2_scan_150 : decode cX2_scan 150 = .ok (.ifCond .eq 8, 3) := by decide +kernel
theorem dX2_scan_153 : decode cX2_scan 153 = .ok (.iload 5, 2) := by decide +kernel
theorem dX2_scan_155 : decode cX2_scan 155 = .ok (.goto 4, 3) := by decide +kernel
theorem dX2_scan_158 : decode cX2_scan 158 = .ok (.iconst 1, 1) := by decide +kernel
theorem dX2_scan_159 : decode cX2_scan 159 = .ok (.iconst 0, 1) := by decide +kernel
theorem dX2_scan_160 : decode cX2_scan 160 = .ok (.iload 4, 2) := by decide +kernel
theorem dX2_scan_162 : decode cX2_scan 162 = .ok (.invokevirtual 45, 3) := by decide +kernel
theorem dX2_scan_165 : decode cX2_scan 165 = .ok (.aload_n 0, 1) := by decide +kernel
theorem dX2_scan_166 : decode cX2_scan 166 = .ok (.getfield 21, 3) := by decide +kernel
theorem dX2_scan_169 : decode cX2_scan 169 = .ok (.ifCond .le 19, 3) := by decide +kernel
theorem dX2_scan_172 : decode cX2_scan 172 = .ok (.aload_n 0, 1) := by decide +kernel
theorem dX2_scan_173 : decode cX2_scan 173 = .ok (.getfield 9, 3) := by decide +kernel
theorem dX2_scan_176 : decode cX2_scan 176 = .ok (.aload_n 0, 1) := by decide +kernel
theorem dX2_scan_177 : decode cX2_scan 177 = .ok (.getfield 21, 3) := by decide +kernel
theorem dX2_scan_180 : decode cX2_scan 180 = .ok (.iconst 1, 1) := by decide +kernel
theorem dX2_scan_181 : decode cX2_scan 181 = .ok (.isub, 1) := by decide +kernel
theorem dX2_scan_182 : decode cX2_scan 182 = .ok (.iaload, 1) := by decide +kernel
theorem dX2_scan_183 : decode cX2_scan 183 = .ok (.iconst 1, 1) := by decide +kernel
theorem dX2_scan_184 : decode cX2_scan 184 = .ok (.if_icmp .ne 4, 3) := by decide +kernel
theorem dX2_scan_187 : decode cX2_scan 187 = .ok (.return_, 1) := by decide +kernel
theorem dX2_scan_188 : decode cX2_scan 188 = .ok (.iload 6, 2) := by decide +kernel
theorem dX2_scan_190 : decode cX2_scan 190 = .ok (.iload 4, 2) := by decide +kernel
theorem dX2_scan_192 : decode cX2_scan 192 = .ok (.iconst 1, 1) := by decide +kernel
theorem dX2_scan_193 : decode cX2_scan 193 = .ok (.iadd, 1) := by decide +kernel
theorem dX2_scan_194 : decode cX2_scan 194 = .ok (.invokestatic 55, 3) := by decide +kernel
theorem dX2_scan_197 : decode cX2_scan 197 = .ok (.istore 4, 2) := by decide +kernel
theorem dX2_scan_199 : decode cX2_scan 199 = .ok (.goto (-184), 3) := by decide +kernel
theorem dX2_scan_202 : decode cX2_scan 202 = .ok (.aload_n 0, 1) := by decide +kernel
theorem dX2_scan_203 : decode cX2_scan 203 = .ok (.iconst 0, 1) := by decide +kernel
theorem dX2_scan_204 : decode cX2_scan 204 = .ok (.iconst 0, 1) := by decide +kernel
theorem dX2_scan_205 : decode cX2_scan 205 = .ok (.iload_n 3, 1) := by decide +kernel
theorem dX2_scan_206 : decode cX2_scan 206 = .ok (.invokevirtual 45, 3) := by decide +kernel
theorem dX2_scan_209 : decode cX2_scan 209 = .ok (.return_, 1) := by decide +kernel
set_option maxRecDepth 10000 in
set_option maxHeartbeats 4000000 in
theorem A_X2_scan_165 {Z : az_Z} {d : Nat} (C : az_C Z yX2_scan cX2_scan 8 none d) (hD : 4 ≤ d) (n : Nat) {k15 : az_Hp → Int → Int → Int → Int → Option az_Hp} (hk15 : ∀ {σ : az_Hp} {v0 v1 v3 v4 : Int} {r : az_Hp}, k15 σ v0 v1 v3 v4 = some r → az_AW Z 8 15 [(4, v0), (15, v1), (31, 0), (0, v3), (0, v4), (31, 0), (31, 0), (31, 0)] [] σ (none, r)) {σ : az_Hp} {v0 v1 v3 v4 v6 : Int} {r : az_Hp} (h : fz_X2_scan_165 n k15 σ v0 v1 v3 v4 v6 = some r) : az_AW Z 8 165 [(4, v0), (15, v1), (31, 0), (0, v3), (0, v4), (31, 0), (0, v6), (31, 0)] [] σ (none, r) := by
  have hd1 : 1 ≤ d := by omega
  unfold fz_X2_scan_165 at h
  refine az_al0 (pc := 165) C rfl rfl dX2_scan_165 ?_
  refine az_getI (pc := 166) C fl_X2_21 rfl dX2_scan_166 ?_
  refine az_if_le (pc := 169) (tgt := 188) C h dX2_scan_169 (by decide) (fun _ h => ?_) (fun _ h => ?_)
  · refine az_il6 (pc := 188) C dX2_scan_188 ?_
    refine az_il4 (pc := 190) C dX2_scan_190 ?_
    refine az_ik1 (pc := 192) C dX2_scan_192 ?_
    refine az_iadd (pc := 193) C dX2_scan_193 ?_
    refine az_mmax (pc := 194) C hd1 ml_X2_55 az_w_maxst az_w_math az_w_maxc rfl dX2_scan_194 ?_
    refine az_is4 (pc := 197) C rfl rfl dX2_scan_197 ?_
    refine az_goto (pc := 199) (tgt := 15) C dX2_scan_199 (by decide) ?_
    exact (az_wkk (hk15 h) (az_sE (az_sE (az_sJ (az_sE (az_sE (az_sJ (az_sJ (az_sJ az_sN)))))))))
  refine az_al0 (pc := 172) C rfl rfl dX2_scan_172 ?_
  refine az_getR (pc := 173) (c2 := 13) C h fl_X2_9 rfl rfl dX2_scan_173 (fun h => ?_)
  refine az_al0 (pc := 176) C rfl rfl dX2_scan_176 ?_
  refine az_getI (pc := 177) C fl_X2_21 rfl dX2_scan_177 ?_
  refine az_ik1 (pc := 180) C dX2_scan_180 ?_
  refine az_isub (pc := 181) C dX2_scan_181 ?_
  refine az_iaload (pc := 182) C h dX2_scan_182 (fun h => ?_)
  refine az_ik1 (pc := 183) C dX2_scan_183 ?_
  refine az_icmp_ne (pc := 184) (tgt := 188) C h dX2_scan_184 (by decide) (fun _ h => ?_) (fun _ h => ?_)
  · refine az_il6 (pc := 188) C dX2_scan_188 ?_
    refine az_il4 (pc := 190) C dX2_scan_190 ?_
    refine az_ik1 (pc := 192) C dX2_scan_192 ?_
    refine az_iadd (pc := 193) C dX2_scan_193 ?_
    refine az_mmax (pc := 194) C hd1 ml_X2_55 az_w_maxst az_w_math az_w_maxc rfl dX2_scan_194 ?_
    refine az_is4 (pc := 197) C rfl rfl dX2_scan_197 ?_
    refine az_goto (pc := 199) (tgt := 15) C dX2_scan_199 (by decide) ?_
    exact (az_wkk (hk15 h) (az_sE (az_sE (az_sJ (az_sE (az_sE (az_sJ (az_sJ (az_sJ az_sN)))))))))
  obtain rfl := Option.some.inj h
  exact az_return (pc := 187) C dX2_scan_187 rfl
set_option maxRecDepth 10000 in
set_option maxHeartbeats 4000000 in
theorem A_X2_scan_104 {Z : az_Z} {d : Nat} (C : az_C Z yX2_scan cX2_scan 8 none d) (hD : 4 ≤ d) (n : Nat) {k15 : az_Hp → Int → Int → Int → Int → Option az_Hp} (hk15 : ∀ {σ : az_Hp} {v0 v1 v3 v4 : Int} {r : az_Hp}, k15 σ v0 v1 v3 v4 = some r → az_AW Z 8 15 [(4, v0), (15, v1), (31, 0), (0, v3), (0, v4), (31, 0), (31, 0), (31, 0)] [] σ (none, r)) {σ : az_Hp} {v0 v1 v3 v4 v5 v6 w0 : Int} {r : az_Hp} (h : fz_X2_scan_104 n k15 σ v0 v1 v3 v4 v5 v6 w0 = some r) : az_AW Z 8 104 [(4, v0), (15, v1), (31, 0), (0, v3), (0, v4), (0, v5), (0, v6), (31, 0)] [(0, w0)] σ (none, r) := by
  have hd1 : 1 ≤ d := by omega
  unfold fz_X2_scan_104 at h
  refine az_is7 (pc := 104) C rfl rfl dX2_scan_104 ?_
  refine az_al0 (pc := 106) C rfl rfl dX2_scan_106 ?_
  refine az_il7 (pc := 107) C dX2_scan_107 ?_
  refine az_if_eq (pc := 109) (tgt := 116) C h dX2_scan_109 (by decide) (fun _ h => ?_) (fun _ h => ?_)
  · refine az_ik1 (pc := 116) C dX2_scan_116 ?_
    refine az_il5 (pc := 117) C dX2_scan_117 ?_
    refine az_bk48 (pc := 119) C dX2_scan_119 ?_
    refine az_isub (pc := 121) C dX2_scan_121 ?_
    refine az_il4 (pc := 122) C dX2_scan_122 ?_
    refine az_cV3v (pc := 124) (c := 2) C hd1 h mv_X2_add ml_X2_45 rfl (fun x hx => A_X2_add (by omega) hx) dX2_scan_124 (fun r1 h => ?_)
    refine az_goto (pc := 127) (tgt := 165) C dX2_scan_127 (by decide) ?_
    exact (az_wkk (A_X2_scan_165 C hD n (fun h => hk15 h) h) (az_sE (az_sE (az_sJ (az_sE (az_sE (az_sJ (az_sE (az_sJ az_sN)))))))))
  refine az_ik4 (pc := 112) C dX2_scan_112 ?_
  refine az_goto (pc := 113) (tgt := 117) C dX2_scan_113 (by decide) ?_
  refine az_il5 (pc := 117) C dX2_scan_117 ?_
  refine az_bk48 (pc := 119) C dX2_scan_119 ?_
  refine az_isub (pc := 121) C dX2_scan_121 ?_
  refine az_il4 (pc := 122) C dX2_scan_122 ?_
  refine az_cV3v (pc := 124) (c := 2) C hd1 h mv_X2_add ml_X2_45 rfl (fun x hx => A_X2_add (by omega) hx) dX2_scan_124 (fun r2 h => ?_)
  refine az_goto (pc := 127) (tgt := 165) C dX2_scan_127 (by decide) ?_
  exact (az_wkk (A_X2_scan_165 C hD n (fun h => hk15 h) h) (az_sE (az_sE (az_sJ (az_sE (az_sE (az_sJ (az_sE (az_sJ az_sN)))))))))
set_option maxRecDepth 10000 in
set_option maxHeartbeats 4000000 in
theorem A_X2_scan_15 {Z : az_Z} {d : Nat} (C : az_C Z yX2_scan cX2_scan 8 none d) (hD : 4 ≤ d) (n : Nat) (k : Nat) : ∀ {σ : az_Hp} {v0 v1 v3 v4 : Int} {r : az_Hp}, fz_X2_scan_15 n k σ v0 v1 v3 v4 = some r → az_AW Z 8 15 [(4, v0), (15, v1), (31, 0), (0, v3), (0, v4), (31, 0), (31, 0), (31, 0)] [] σ (none, r) := by
  have hd1 : 1 ≤ d := by omega
  induction k with
  | zero => intro σ v0 v1 v3 v4 r h; simp [fz_X2_scan_15] at h
  | succ k ih =>
    intro σ v0 v1 v3 v4 r h
    unfold fz_X2_scan_15 at h
    refine az_il4 (pc := 15) C dX2_scan_15 ?_
    refine az_il3 (pc := 17) C dX2_scan_17 ?_
    refine az_icmp_ge (pc := 18) (tgt := 202) C h dX2_scan_18 (by decide) (fun _ h => ?_) (fun _ h => ?_)
    · refine az_al0 (pc := 202) C rfl rfl dX2_scan_202 ?_
      refine az_ik0 (pc := 203) C dX2_scan_203 ?_
      refine az_ik0 (pc := 204) C dX2_scan_204 ?_
      refine az_il3 (pc := 205) C dX2_scan_205 ?_
      refine az_cV3v (pc := 206) (c := 2) C hd1 h mv_X2_add ml_X2_45 rfl (fun x hx => A_X2_add (by omega) hx) dX2_scan_206 (fun r1 h => ?_)
      obtain rfl := Option.some.inj h
      exact az_return (pc := 209) C dX2_scan_209 rfl
    refine az_al1 (pc := 21) C rfl rfl dX2_scan_21 ?_
    refine az_il4 (pc := 22) C dX2_scan_22 ?_
    refine az_iaload (pc := 24) C h dX2_scan_24 (fun h => ?_)
    refine az_is5 (pc := 25) C rfl rfl dX2_scan_25 ?_
    refine az_il4 (pc := 27) C dX2_scan_27 ?_
    refine az_ik1 (pc := 29) C dX2_scan_29 ?_
    refine az_iadd (pc := 30) C dX2_scan_30 ?_
    refine az_is6 (pc := 31) C rfl rfl dX2_scan_31 ?_
    refine az_il5 (pc := 33) C dX2_scan_33 ?_
    refine az_cS1pi (pc := 35) C hd1 h ms_X2_isLetter ml_X2_31 rfl (fun x hx => A_X2_isLetter (by omega) hx) dX2_scan_35 (fun r3 h => ?_)
    refine az_if_eq (pc := 38) (tgt := 75) C h dX2_scan_38 (by decide) (fun _ h => ?_) (fun _ h => ?_)
    · refine az_il5 (pc := 75) C dX2_scan_75 ?_
      refine az_cS1pi (pc := 77) C hd1 h ms_X2_isDigit ml_X2_49 rfl (fun x hx => A_X2_isDigit (by omega) hx) dX2_scan_77 (fun r4 h => ?_)
      refine az_if_eq (pc := 80) (tgt := 130) C h dX2_scan_80 (by decide) (fun _ h => ?_) (fun _ h => ?_)
      · refine az_il5 (pc := 130) C dX2_scan_130 ?_
        refine az_bk10 (pc := 132) C dX2_scan_132 ?_
        refine az_icmp_eq (pc := 134) (tgt := 165) C h dX2_scan_134 (by decide) (fun _ h => ?_) (fun _ h => ?_)
        · exact (az_wkk (A_X2_scan_165 C hD n (fun h => ih h) h) (az_sE (az_sE (az_sJ (az_sE (az_sE (az_sJ (az_sE (az_sJ az_sN)))))))))
        refine az_il5 (pc := 137) C dX2_scan_137 ?_
        refine az_bk32 (pc := 139) C dX2_scan_139 ?_
        refine az_icmp_eq (pc := 141) (tgt := 165) C h dX2_scan_141 (by decide) (fun _ h => ?_) (fun _ h => ?_)
        · exact (az_wkk (A_X2_scan_165 C hD n (fun h => ih h) h) (az_sE (az_sE (az_sJ (az_sE (az_sE (az_sJ (az_sE (az_sJ az_sN)))))))))
        refine az_al0 (pc := 144) C rfl rfl dX2_scan_144 ?_
        refine az_il5 (pc := 145) C dX2_scan_145 ?_
        refine az_cS1pi (pc := 147) C hd1 h ms_X2_isSign ml_X2_52 rfl (fun x hx => A_X2_isSign (by omega) hx) dX2_scan_147 (fun r5 h => ?_)
        refine az_if_eq (pc := 150) (tgt := 158) C h dX2_scan_150 (by decide) (fun _ h => ?_) (fun _ h => ?_)
        · refine az_ik1 (pc := 158) C dX2_scan_158 ?_
          refine az_ik0 (pc := 159) C dX2_scan_159 ?_
          refine az_il4 (pc := 160) C dX2_scan_160 ?_
          refine az_cV3v (pc := 162) (c := 2) C hd1 h mv_X2_add ml_X2_45 rfl (fun x hx => A_X2_add (by omega) hx) dX2_scan_162 (fun r6 h => ?_)
          exact (az_wkk (A_X2_scan_165 C hD n (fun h => ih h) h) (az_sE (az_sE (az_sJ (az_sE (az_sE (az_sJ (az_sE (az_sJ az_sN)))))))))
        refine az_il5 (pc := 153) C dX2_scan_153 ?_
        refine az_goto (pc := 155) (tgt := 159) C dX2_scan_155 (by decide) ?_
        refine az_ik0 (pc := 159) C dX2_scan_159 ?_
        refine az_il4 (pc := 160) C dX2_scan_160 ?_
        refine az_cV3v (pc := 162) (c := 2) C hd1 h mv_X2_add ml_X2_45 rfl (fun x hx => A_X2_add (by omega) hx) dX2_scan_162 (fun r7 h => ?_)
        exact (az_wkk (A_X2_scan_165 C hD n (fun h => ih h) h) (az_sE (az_sE (az_sJ (az_sE (az_sE (az_sJ (az_sE (az_sJ az_sN)))))))))
      refine az_il6 (pc := 83) C dX2_scan_83 ?_
      refine az_il3 (pc := 85) C dX2_scan_85 ?_
      refine az_icmp_ge (pc := 86) (tgt := 99) C h dX2_scan_86 (by decide) (fun _ h => ?_) (fun _ h => ?_)
      · refine az_ik1 (pc := 99) C dX2_scan_99 ?_
        refine az_goto (pc := 100) (tgt := 104) C dX2_scan_100 (by decide) ?_
        exact (A_X2_scan_104 C hD n (fun h => ih h) h)
      refine az_al1 (pc := 89) C rfl rfl dX2_scan_89 ?_
      refine az_il6 (pc := 90) C dX2_scan_90 ?_
      refine az_iaload (pc := 92) C h dX2_scan_92 (fun h => ?_)
      refine az_cS1pi (pc := 93) C hd1 h ms_X2_isDigit ml_X2_49 rfl (fun x hx => A_X2_isDigit (by omega) hx) dX2_scan_93 (fun r9 h => ?_)
      refine az_if_ne (pc := 96) (tgt := 103) C h dX2_scan_96 (by decide) (fun _ h => ?_) (fun _ h => ?_)
      · refine az_ik0 (pc := 103) C dX2_scan_103 ?_
        exact (A_X2_scan_104 C hD n (fun h => ih h) h)
      refine az_ik1 (pc := 99) C dX2_scan_99 ?_
      refine az_goto (pc := 100) (tgt := 104) C dX2_scan_100 (by decide) ?_
      exact (A_X2_scan_104 C hD n (fun h => ih h) h)
    refine az_al1 (pc := 41) C rfl rfl dX2_scan_41 ?_
    refine az_il4 (pc := 42) C dX2_scan_42 ?_
    refine az_il3 (pc := 44) C dX2_scan_44 ?_
    refine az_cS3pi (pc := 45) C hd1 h ms_X2_endOfLetters ml_X2_35 rfl (fun x hx => A_X2_endOfLetters (by omega) n hx) dX2_scan_45 (fun r10 h => ?_)
    refine az_is6 (pc := 48) C rfl rfl dX2_scan_48 ?_
    refine az_al0 (pc := 50) C rfl rfl dX2_scan_50 ?_
    refine az_al1 (pc := 51) C rfl rfl dX2_scan_51 ?_
    refine az_il4 (pc := 52) C dX2_scan_52 ?_
    refine az_il6 (pc := 54) C dX2_scan_54 ?_
    refine az_cS3pi (pc := 56) C hd1 h ms_X2_kindOfLetters ml_X2_39 rfl (fun x hx => A_X2_kindOfLetters (by omega) n hx) dX2_scan_56 (fun r11 h => ?_)
    refine az_al1 (pc := 59) C rfl rfl dX2_scan_59 ?_
    refine az_il4 (pc := 60) C dX2_scan_60 ?_
    refine az_il6 (pc := 62) C dX2_scan_62 ?_
    refine az_cS3pi (pc := 64) C hd1 h ms_X2_valueOfLetters ml_X2_42 rfl (fun x hx => A_X2_valueOfLetters (by omega) n hx) dX2_scan_64 (fun r12 h => ?_)
    refine az_il4 (pc := 67) C dX2_scan_67 ?_
    refine az_cV3v (pc := 69) (c := 2) C hd1 h mv_X2_add ml_X2_45 rfl (fun x hx => A_X2_add (by omega) hx) dX2_scan_69 (fun r13 h => ?_)
    refine az_goto (pc := 72) (tgt := 165) C dX2_scan_72 (by decide) ?_
    exact (az_wkk (A_X2_scan_165 C hD n (fun h => ih h) h) (az_sE (az_sE (az_sJ (az_sE (az_sE (az_sJ (az_sE (az_sJ az_sN)))))))))
set_option maxRecDepth 10000 in
set_option maxHeartbeats 4000000 in
theorem A_X2_scan_e {Z : az_Z} {d : Nat} (C : az_C Z yX2_scan cX2_scan 8 none d) (hD : 4 ≤ d) (n : Nat) {σ : az_Hp} {v0 v1 v2 : Int} {r : az_Hp} (h : fz_X2_scan n σ v0 v1 v2 = some r) : az_AW Z 8 0 [(4, v0), (15, v1), (0, v2), (31, 0), (31, 0), (31, 0), (31, 0), (31, 0)] [] σ (none, r) := by
  have hd1 : 1 ≤ d := by omega
  unfold fz_X2_scan at h
  refine az_al0 (pc := 0) C rfl rfl dX2_scan_0 ?_
  refine az_ik0 (pc := 1) C dX2_scan_1 ?_
  refine az_putI (pc := 2) C fl_X2_21 (Or.inl rfl) rfl dX2_scan_2 ?_
  refine az_il2 (pc := 5) C dX2_scan_5 ?_
  refine az_al1 (pc := 6) C rfl rfl dX2_scan_6 ?_
  refine az_arraylength (pc := 7) (k := 13) C rfl rfl dX2_scan_7 ?_
  refine az_mmin (pc := 8) C hd1 ml_X2_25 az_w_minst az_w_math az_w_minc rfl dX2_scan_8 ?_
  refine az_is3 (pc := 11) C rfl rfl dX2_scan_11 ?_
  refine az_ik0 (pc := 12) C dX2_scan_12 ?_
  refine az_is4 (pc := 13) C rfl rfl dX2_scan_13 ?_
  exact (az_wkk (A_X2_scan_15 C hD n n h) (az_sE (az_sE (az_sJ (az_sE (az_sE (az_sJ (az_sJ (az_sJ az_sN)))))))))
set_option maxRecDepth 10000 in
set_option maxHeartbeats 4000000 in
theorem A_X2_scan {l : Launch} {d : Nat} (hD : 4 ≤ d) (n : Nat) {σ : az_Hp} {v0 v1 v2 : Int} {r : az_Hp} (h : fz_X2_scan n σ v0 v1 v2 = some r) : az_AC l yX2_scan cX2_scan 8 none d [(4, v0), (15, v1), (0, v2)] σ (none, r) := az_AC.of mt_X2_scan rfl rfl rfl (fun Z hZ C => A_X2_scan_e C hD n h)
theorem dX4_next_0 : decode cX4_next 0 = .ok (.aload_n 0, 1) := by decide +kernel
theorem dX4_next_1 : decode cX4_next 1 = .ok (.getfield 38, 3) := by decide +kernel
theorem dX4_next_4 : decode cX4_next 4 = .ok (.aload_n 0, 1) := by decide +kernel
theorem dX4_next_5 : decode cX4_next 5 = .ok (.getfield 34, 3) := by decide +kernel
theorem dX4_next_8 : decode cX4_next 8 = .ok (.getfield 217, 3) := by decide +kernel
theorem dX4_next_11 : decode cX4_next 11 = .ok (.if_icmp .ge 61, 3) := by decide +kernel
theorem dX4_next_14 : decode cX4_next 14 = .ok (.aload_n 0, 1) := by decide +kernel
theorem dX4_next_15 : decode cX4_next 15 = .ok (.aload_n 0, 1) := by decide +kernel
theorem dX4_next_16 : decode cX4_next 16 = .ok (.getfield 34, 3) := by decide +kernel
theorem dX4_next_19 : decode cX4_next 19 = .ok (.getfield 220, 3) := by decide +kernel
theorem dX4_next_22 : decode cX4_next 22 = .ok (.aload_n 0, 1) := by decide +kernel
theorem dX4_next_23 : decode cX4_next 23 = .ok (.getfield 38, 3) := by decide +kernel
theorem dX4_next_26 : decode cX4_next 26 = .ok (.iaload, 1) := by decide +kernel
theorem dX4_next_27 : decode cX4_next 27 = .ok (.putfield 41, 3) := by decide +kernel
theorem dX4_next_30 : decode cX4_next 30 = .ok (.aload_n 0, 1) := by decide +kernel
theorem dX4_next_31 : decode cX4_next 31 = .ok (.aload_n 0, 1) := by decide +kernel
theorem dX4_next_32 : decode cX4_next 32 = .ok (.getfield 34, 3) := by decide +kernel
theorem dX4_next_35 : decode cX4_next 35 = .ok (.getfield 223, 3) := by decide +kernel
theorem dX4_next_38 : decode cX4_next 38 = .ok (.aload_n 0, 1) := by decide +kernel
theorem dX4_next_39 : decode cX4_next 39 = .ok (.getfield 38, 3) := by decide +kernel
theorem dX4_next_42 : decode cX4_next 42 = .ok (.iaload, 1) := by decide +kernel
theorem dX4_next_43 : decode cX4_next 43 = .ok (.putfield 44, 3) := by decide +kernel
theorem dX4_next_46 : decode cX4_next 46 = .ok (.aload_n 0, 1) := by decide +kernel
theorem dX4_next_47 : decode cX4_next 47 = .ok (.aload_n 0, 1) := by decide +kernel
theorem dX4_next_48 : decode cX4_next 48 = .ok (.getfield 34, 3) := by decide +kernel
theorem dX4_next_51 : decode cX4_next 51 = .ok (.getfield 226, 3) := by decide +kernel
theorem dX4_next_54 : decode cX4_next 54 = .ok (.aload_n 0, 1) := by decide +kernel
theorem dX4_next_55 : decode cX4_next 55 = .ok (.getfield 38, 3) := by decide +kernel
theorem dX4_next_58 : decode cX4_next 58 = .ok (.iaload, 1) := by decide +kernel
theorem dX4_next_59 : decode cX4_next 59 = .ok (.putfield 47, 3) := by decide +kernel
theorem dX4_next_62 : decode cX4_next 62 = .ok (.aload_n 0, 1) := by decide +kernel
theorem dX4_next_63 : decode cX4_next 63 = .ok (.dup, 1) := by decide +kernel
theorem dX4_next_64 : decode cX4_next 64 = .ok (.getfield 38, 3) := by decide +kernel
theorem dX4_next_67 : decode cX4_next 67 = .ok (.iconst 1, 1) := by decide +kernel
theorem dX4_next_68 : decode cX4_next 68 = .ok (.iadd, 1) := by decide +kernel
theorem dX4_next_69 : decode cX4_next 69 = .ok (.putfield 38, 3) := by decide +kernel
theorem dX4_next_72 : decode cX4_next 72 = .ok (.return_, 1) := by decide +kernel
set_option maxRecDepth 10000 in
set_option maxHeartbeats 4000000 in
theorem A_X4_next_e {Z : az_Z} {d : Nat} (C : az_C Z yX4_next cX4_next 1 none d) (hD : 1 ≤ d) {σ : az_Hp} {v0 : Int} {r : az_Hp} (h : fz_X4_next σ v0 = some r) : az_AW Z 1 0 [(6, v0)] [] σ (none, r) := by
  have hd1 : 1 ≤ d := by omega
  unfold fz_X4_next at h
  refine az_al0 (pc := 0) C rfl rfl dX4_next_0 ?_
  refine az_getI (pc := 1) C fl_X4_38 rfl dX4_next_1 ?_
  refine az_al0 (pc := 4) C rfl rfl dX4_next_4 ?_
  refine az_getR (pc := 5) (c2 := 2) C h fl_X4_34 rfl rfl dX4_next_5 (fun h => ?_)
  refine az_getI (pc := 8) C fl_X4_217 rfl dX4_next_8 ?_
  refine az_icmp_ge (pc := 11) (tgt := 72) C h dX4_next_11 (by decide) (fun _ h => ?_) (fun _ h => ?_)
  · obtain rfl := Option.some.inj h
    exact az_return (pc := 72) C dX4_next_72 rfl
  refine az_al0 (pc := 14) C rfl rfl dX4_next_14 ?_
  refine az_al0 (pc := 15) C rfl rfl dX4_next_15 ?_
  refine az_getR (pc := 16) (c2 := 2) C h fl_X4_34 rfl rfl dX4_next_16 (fun h => ?_)
  refine az_getR (pc := 19) (c2 := 13) C h fl_X4_220 rfl rfl dX4_next_19 (fun h => ?_)
  refine az_al0 (pc := 22) C rfl rfl dX4_next_22 ?_
  refine az_getI (pc := 23) C fl_X4_38 rfl dX4_next_23 ?_
  refine az_iaload (pc := 26) C h dX4_next_26 (fun h => ?_)
  refine az_putI (pc := 27) C fl_X4_41 (Or.inl rfl) rfl dX4_next_27 ?_
  refine az_al0 (pc := 30) C rfl rfl dX4_next_30 ?_
  refine az_al0 (pc := 31) C rfl rfl dX4_next_31 ?_
  refine az_getR (pc := 32) (c2 := 2) C h fl_X4_34 rfl rfl dX4_next_32 (fun h => ?_)
  refine az_getR (pc := 35) (c2 := 13) C h fl_X4_223 rfl rfl dX4_next_35 (fun h => ?_)
  refine az_al0 (pc := 38) C rfl rfl dX4_next_38 ?_
  refine az_getI (pc := 39) C fl_X4_38 rfl dX4_next_39 ?_
  refine az_iaload (pc := 42) C h dX4_next_42 (fun h => ?_)
  refine az_putI (pc := 43) C fl_X4_44 (Or.inl rfl) rfl dX4_next_43 ?_
  refine az_al0 (pc := 46) C rfl rfl dX4_next_46 ?_
  refine az_al0 (pc := 47) C rfl rfl dX4_next_47 ?_
  refine az_getR (pc := 48) (c2 := 2) C h fl_X4_34 rfl rfl dX4_next_48 (fun h => ?_)
  refine az_getR (pc := 51) (c2 := 13) C h fl_X4_226 rfl rfl dX4_next_51 (fun h => ?_)
  refine az_al0 (pc := 54) C rfl rfl dX4_next_54 ?_
  refine az_getI (pc := 55) C fl_X4_38 rfl dX4_next_55 ?_
  refine az_iaload (pc := 58) C h dX4_next_58 (fun h => ?_)
  refine az_putI (pc := 59) C fl_X4_47 (Or.inl rfl) rfl dX4_next_59 ?_
  refine az_al0 (pc := 62) C rfl rfl dX4_next_62 ?_
  refine az_dup (pc := 63) C rfl rfl dX4_next_63 ?_
  refine az_getI (pc := 64) C fl_X4_38 rfl dX4_next_64 ?_
  refine az_ik1 (pc := 67) C dX4_next_67 ?_
  refine az_iadd (pc := 68) C dX4_next_68 ?_
  refine az_putI (pc := 69) C fl_X4_38 (Or.inl rfl) rfl dX4_next_69 ?_
  obtain rfl := Option.some.inj h
  exact az_return (pc := 72) C dX4_next_72 rfl
set_option maxRecDepth 10000 in
set_option maxHeartbeats 4000000 in
theorem A_X4_next {l : Launch} {d : Nat} (hD : 1 ≤ d) {σ : az_Hp} {v0 : Int} {r : az_Hp} (h : fz_X4_next σ v0 = some r) : az_AC l yX4_next cX4_next 1 none d [(6, v0)] σ (none, r) := az_AC.of mt_X4_next rfl rfl rfl (fun Z hZ C => A_X4_next_e C hD h)
theorem dX4_begin_0 : decode cX4_begin 0 = .ok (.aload_n 0, 1) := by decide +kernel
theorem dX4_begin_1 : decode cX4_begin 1 = .ok (.getfield 34, 3) := by decide +kernel
theorem dX4_begin_4 : decode cX4_begin 4 = .ok (.aload_n 1, 1) := by decide +kernel
theorem dX4_begin_5 : decode cX4_begin 5 = .ok (.iload_n 2, 1) := by decide +kernel
theorem dX4_begin_6 : decode cX4_begin 6 = .ok (.invokevirtual 123, 3) := by decide +kernel
theorem dX4_begin_9 : decode cX4_begin 9 = .ok (.aload_n 0, 1) := by decide +kernel
theorem dX4_begin_10 : decode cX4_begin 10 = .ok (.iconst 0, 1) := by decide +kernel
theorem dX4_begin_11 : decode cX4_begin 11 = .ok (.putfield 38, 3) := by decide +kernel
theorem dX4_begin_14 : decode cX4_begin 14 = .ok (.aload_n 0, 1) := by decide +kernel
theorem dX4_begin_15 : decode cX4_begin 15 = .ok (.aload_n 3, 1) := by decide +kernel
theorem dX4_begin_16 : decode cX4_begin 16 = .ok (.putfield 56, 3) := by decide +kernel
theorem dX4_begin_19 : decode cX4_begin 19 = .ok (.aload_n 0, 1) := by decide +kernel
theorem dX4_begin_20 : decode cX4_begin 20 = .ok (.iconst 0, 1) := by decide +kernel
theorem dX4_begin_21 : decode cX4_begin 21 = .ok (.putfield 9, 3) := by decide +kernel
theorem dX4_begin_24 : decode cX4_begin 24 = .ok (.aload_n 0, 1) := by decide +kernel
theorem dX4_begin_25 : decode cX4_begin 25 = .ok (.iconst (-1), 1) := by decide +kernel
theorem dX4_begin_26 : decode cX4_begin 26 = .ok (.putfield 15, 3) := by decide +kernel
theorem dX4_begin_29 : decode cX4_begin 29 = .ok (.aload_n 0, 1) := by decide +kernel
theorem dX4_begin_30 : decode cX4_begin 30 = .ok (.invokevirtual 127, 3) := by decide +kernel
theorem dX4_begin_33 : decode cX4_begin 33 = .ok (.return_, 1) := by decide +kernel
set_option maxRecDepth 10000 in
set_option maxHeartbeats 4000000 in
theorem A_X4_begin_e {Z : az_Z} {d : Nat} (C : az_C Z yX4_begin cX4_begin 4 none d) (hD : 5 ≤ d) (n : Nat) {σ : az_Hp} {v0 v1 v2 v3 : Int} {r : az_Hp} (h : fz_X4_begin n σ v0 v1 v2 v3 = some r) : az_AW Z 4 0 [(6, v0), (15, v1), (0, v2), (11, v3)] [] σ (none, r) := by
  have hd1 : 1 ≤ d := by omega
  unfold fz_X4_begin at h
  refine az_al0 (pc := 0) C rfl rfl dX4_begin_0 ?_
  refine az_getR (pc := 1) (c2 := 2) C h fl_X4_34 rfl rfl dX4_begin_1 (fun h => ?_)
  refine az_al1 (pc := 4) C rfl rfl dX4_begin_4 ?_
  refine az_il2 (pc := 5) C dX4_begin_5 ?_
  refine az_cV2v (pc := 6) (c := 2) C hd1 h mv_X2_scan ml_X4_123 rfl (fun x hx => A_X2_scan (by omega) n hx) dX4_begin_6 (fun r2 h => ?_)
  refine az_al0 (pc := 9) C rfl rfl dX4_begin_9 ?_
  refine az_ik0 (pc := 10) C dX4_begin_10 ?_
  refine az_putI (pc := 11) C fl_X4_38 (Or.inl rfl) rfl dX4_begin_11 ?_
  refine az_al0 (pc := 14) C rfl rfl dX4_begin_14 ?_
  refine az_al3 (pc := 15) C rfl rfl dX4_begin_15 ?_
  refine az_putR (pc := 16) (c2 := 9) C fl_X4_56 (Or.inl rfl) rfl rfl rfl dX4_begin_16 ?_
  refine az_al0 (pc := 19) C rfl rfl dX4_begin_19 ?_
  refine az_ik0 (pc := 20) C dX4_begin_20 ?_
  refine az_putI (pc := 21) C fl_X4_9 (Or.inl rfl) rfl dX4_begin_21 ?_
  refine az_al0 (pc := 24) C rfl rfl dX4_begin_24 ?_
  refine az_ikm1 (pc := 25) C dX4_begin_25 ?_
  refine az_putI (pc := 26) C fl_X4_15 (Or.inl rfl) rfl dX4_begin_26 ?_
  refine az_al0 (pc := 29) C rfl rfl dX4_begin_29 ?_
  refine az_cV0v (pc := 30) (c := 4) C hd1 h mv_X4_next ml_X4_127 rfl (fun x hx => A_X4_next (by omega) hx) dX4_begin_30 (fun r3 h => ?_)
  obtain rfl := Option.some.inj h
  exact az_return (pc := 33) C dX4_begin_33 rfl
set_option maxRecDepth 10000 in
set_option maxHeartbeats 4000000 in
theorem A_X4_begin {l : Launch} {d : Nat} (hD : 5 ≤ d) (n : Nat) {σ : az_Hp} {v0 v1 v2 v3 : Int} {r : az_Hp} (h : fz_X4_begin n σ v0 v1 v2 v3 = some r) : az_AC l yX4_begin cX4_begin 4 none d [(6, v0), (15, v1), (0, v2), (11, v3)] σ (none, r) := az_AC.of mt_X4_begin rfl rfl rfl (fun Z hZ C => A_X4_begin_e C hD n h)
theorem dX4_fail_0 : decode cX4_fail 0 = .ok (.aload_n 0, 1) := by decide +kernel
theorem dX4_fail_1 : decode cX4_fail 1 = .ok (.aload_n 0, 1) := by decide +kernel
theorem dX4_fail_2 : decode cX4_fail 2 = .ok (.getfield 41, 3) := by decide +kernel
theorem dX4_fail_5 : decode cX4_fail 5 = .ok (.iconst 1, 1) := by decide +kernel
theorem dX4_fail_6 : decode cX4_fail 6 = .ok (.if_icmp .ne 7, 3) := by decide +kernel
theorem dX4_fail_9 : decode cX4_fail 9 = .ok (.iconst 1, 1) := by decide +kernel
theorem dX4_fail_10 : decode cX4_fail 10 = .ok (.goto 4, 3) := by decide +kernel
theorem dX4_fail_13 : decode cX4_fail 13 = .ok (.iload_n 1, 1) := by decide +kernel
theorem dX4_fail_14 : decode cX4_fail 14 = .ok (.putfield 9, 3) := by decide +kernel
theorem dX4_fail_17 : decode cX4_fail 17 = .ok (.aload_n 0, 1) := by decide +kernel
theorem dX4_fail_18 : decode cX4_fail 18 = .ok (.aload_n 0, 1) := by decide +kernel
theorem dX4_fail_19 : decode cX4_fail 19 = .ok (.getfield 47, 3) := by decide +kernel
theorem dX4_fail_22 : decode cX4_fail 22 = .ok (.putfield 15, 3) := by decide +kernel
theorem dX4_fail_25 : decode cX4_fail 25 = .ok (.iconst 0, 1) := by decide +kernel
theorem dX4_fail_26 : decode cX4_fail 26 = .ok (.ireturn, 1) := by decide +kernel
set_option maxRecDepth 10000 in
set_option maxHeartbeats 4000000 in
theorem A_X4_fail_e {Z : az_Z} {d : Nat} (C : az_C Z yX4_fail cX4_fail 2 (some .boolean) d) (hD : 1 ≤ d) {σ : az_Hp} {v0 v1 : Int} {r : (Int × az_Hp)} (h : fz_X4_fail σ v0 v1 = some r) : az_AW Z 2 0 [(6, v0), (0, v1)] [] σ (some (0, r.1), r.2) := by
  have hd1 : 1 ≤ d := by omega
  unfold fz_X4_fail at h
  refine az_al0 (pc := 0) C rfl rfl dX4_fail_0 ?_
  refine az_al0 (pc := 1) C rfl rfl dX4_fail_1 ?_
  refine az_getI (pc := 2) C fl_X4_41 rfl dX4_fail_2 ?_
  refine az_ik1 (pc := 5) C dX4_fail_5 ?_
  refine az_icmp_ne (pc := 6) (tgt := 13) C h dX4_fail_6 (by decide) (fun _ h => ?_) (fun _ h => ?_)
  · refine az_il1 (pc := 13) C dX4_fail_13 ?_
    refine az_putI (pc := 14) C fl_X4_9 (Or.inl rfl) rfl dX4_fail_14 ?_
    refine az_al0 (pc := 17) C rfl rfl dX4_fail_17 ?_
    refine az_al0 (pc := 18) C rfl rfl dX4_fail_18 ?_
    refine az_getI (pc := 19) C fl_X4_47 rfl dX4_fail_19 ?_
    refine az_putI (pc := 22) C fl_X4_15 (Or.inl rfl) rfl dX4_fail_22 ?_
    refine az_ik0 (pc := 25) C dX4_fail_25 ?_
    obtain rfl := Option.some.inj h
    exact az_zreturn (pc := 26) C (by decide) dX4_fail_26 rfl
  refine az_ik1 (pc := 9) C dX4_fail_9 ?_
  refine az_goto (pc := 10) (tgt := 14) C dX4_fail_10 (by decide) ?_
  refine az_putI (pc := 14) C fl_X4_9 (Or.inl rfl) rfl dX4_fail_14 ?_
  refine az_al0 (pc := 17) C rfl rfl dX4_fail_17 ?_
  refine az_al0 (pc := 18) C rfl rfl dX4_fail_18 ?_
  refine az_getI (pc := 19) C fl_X4_47 rfl dX4_fail_19 ?_
  refine az_putI (pc := 22) C fl_X4_15 (Or.inl rfl) rfl dX4_fail_22 ?_
  refine az_ik0 (pc := 25) C dX4_fail_25 ?_
  obtain rfl := Option.some.inj h
  exact az_zreturn (pc := 26) C (by decide) dX4_fail_26 rfl
set_option maxRecDepth 10000 in
set_option maxHeartbeats 4000000 in
theorem A_X4_fail {l : Launch} {d : Nat} (hD : 1 ≤ d) {σ : az_Hp} {v0 v1 : Int} {r : (Int × az_Hp)} (h : fz_X4_fail σ v0 v1 = some r) : az_AC l yX4_fail cX4_fail 2 (some .boolean) d [(6, v0), (0, v1)] σ (some (0, r.1), r.2) := az_AC.of mt_X4_fail rfl rfl rfl (fun Z hZ C => A_X4_fail_e C hD h)
theorem dX4_isWord_0 : decode cX4_isWord 0 = .ok (.aload_n 0, 1) := by decide +kernel
theorem dX4_isWord_1 : decode cX4_isWord 1 = .ok (.getfield 41, 3) := by decide +kernel
theorem dX4_isWord_4 : decode cX4_isWord 4 = .ok (.iconst 3, 1) := by decide +kernel
theorem dX4_isWord_5 : decode cX4_isWord 5 = .ok (.if_icmp .ne 15, 3) := by decide +kernel
theorem dX4_isWord_8 : decode cX4_isWord 8 = .ok (.aload_n 0, 1) := by decide +kernel
theorem dX4_isWord_9 : decode cX4_isWord 9 = .ok (.getfield 44, 3) := by decide +kernel
theorem dX4_isWord_12 : decode cX4_isWord 12 = .ok (.iload_n 1, 1) := by decide +kernel
theorem dX4_isWord_13 : decode cX4_isWord 13 = .ok (.if_icmp .ne 7, 3) := by decide +kernel
theorem dX4_isWord_16 : decode cX4_isWord 16 = .ok (.iconst 1, 1) := by decide +kernel
theorem dX4_isWord_17 : decode cX4_isWord 17 = .ok (.goto 4, 3) := by decide +kernel
theorem dX4_isWord_20 : decode cX4_isWord 20 = .ok (.iconst 0, 1) := by decide +kernel
theorem dX4_isWord_21 : decode cX4_isWord 21 = .ok (.ireturn, 1) := by decide +kernel
set_option maxRecDepth 10000 in
set_option maxHeartbeats 4000000 in
theorem A_X4_isWord_e {Z : az_Z} {d : Nat} (C : az_C Z yX4_isWord cX4_isWord 2 (some .boolean) d) (hD : 1 ≤ d) {σ : az_Hp} {v0 v1 : Int} {r : Int} (h : fz_X4_isWord σ v0 v1 = some r) : az_AW Z 2 0 [(6, v0), (0, v1)] [] σ (some (0, r), σ) := by
  have hd1 : 1 ≤ d := by omega
  unfold fz_X4_isWord at h
  refine az_al0 (pc := 0) C rfl rfl dX4_isWord_0 ?_
  refine az_getI (pc := 1) C fl_X4_41 rfl dX4_isWord_1 ?_
  refine az_ik3 (pc := 4) C dX4_isWord_4 ?_
  refine az_icmp_ne (pc := 5) (tgt := 20) C h dX4_isWord_5 (by decide) (fun _ h => ?_) (fun _ h => ?_)
  · refine az_ik0 (pc := 20) C dX4_isWord_20 ?_
    obtain rfl := Option.some.inj h
    exact az_zreturn (pc := 21) C (by decide) dX4_isWord_21 rfl
  refine az_al0 (pc := 8) C rfl rfl dX4_isWord_8 ?_
  refine az_getI (pc := 9) C fl_X4_44 rfl dX4_isWord_9 ?_
  refine az_il1 (pc := 12) C dX4_isWord_12 ?_
  refine az_icmp_ne (pc := 13) (tgt := 20) C h dX4_isWord_13 (by decide) (fun _ h => ?_) (fun _ h => ?_)
  · refine az_ik0 (pc := 20) C dX4_isWord_20 ?_
    obtain rfl := Option.some.inj h
    exact az_zreturn (pc := 21) C (by decide) dX4_isWord_21 rfl
  refine az_ik1 (pc := 16) C dX4_isWord_16 ?_
  refine az_goto (pc := 17) (tgt := 21) C dX4_isWord_17 (by decide) ?_
  obtain rfl := Option.some.inj h
  exact az_zreturn (pc := 21) C (by decide) dX4_isWord_21 rfl
set_option maxRecDepth 10000 in
set_option maxHeartbeats 4000000 in
theorem A_X4_isWord {l : Launch} {d : Nat} (hD : 1 ≤ d) {σ : az_Hp} {v0 v1 : Int} {r : Int} (h : fz_X4_isWord σ v0 v1 = some r) : az_AC l yX4_isWord cX4_isWord 2 (some .boolean) d [(6, v0), (0, v1)] σ (some (0, r), σ) := az_AC.of mt_X4_isWord rfl rfl rfl (fun Z hZ C => A_X4_isWord_e C hD h)
theorem dX4_forgetWords_0 : decode cX4_forgetWords 0 = .ok (.aload_n 0, 1) := by decide +kernel
theorem dX4_forgetWords_1 : decode cX4_forgetWords 1 = .ok (.iconst 0, 1) := by decide +kernel
theorem dX4_forgetWords_2 : decode cX4_forgetWords 2 = .ok (.putfield 22, 3) := by decide +kernel
theorem dX4_forgetWords_5 : decode cX4_forgetWords 5 = .ok (.aload_n 0, 1) := by decide +kernel
theorem dX4_forgetWords_6 : decode cX4_forgetWords 6 = .ok (.iload_n 1, 1) := by decide +kernel
theorem dX4_forgetWords_7 : decode cX4_forgetWords 7 = .ok (.putfield 25, 3) := by decide +kernel
theorem dX4_forgetWords_10 : decode cX4_forgetWords 10 = .ok (.return_, 1) := by decide +kernel
set_option maxRecDepth 10000 in
set_option maxHeartbeats 4000000 in
theorem A_X4_forgetWords_e {Z : az_Z} {d : Nat} (C : az_C Z yX4_forgetWords cX4_forgetWords 2 none d) (hD : 1 ≤ d) {σ : az_Hp} {v0 v1 : Int} {r : az_Hp} (h : fz_X4_forgetWords σ v0 v1 = some r) : az_AW Z 2 0 [(6, v0), (0, v1)] [] σ (none, r) := by
  have hd1 : 1 ≤ d := by omega
  unfold fz_X4_forgetWords at h
  refine az_al0 (pc := 0) C rfl rfl dX4_forgetWords_0 ?_
  refine az_ik0 (pc := 1) C dX4_forgetWords_1 ?_
  refine az_putI (pc := 2) C fl_X4_22 (Or.inl rfl) rfl dX4_forgetWords_2 ?_
  refine az_al0 (pc := 5) C rfl rfl dX4_forgetWords_5 ?_
  refine az_il1 (pc := 6) C dX4_forgetWords_6 ?_
  refine az_putI (pc := 7) C fl_X4_25 (Or.inl rfl) rfl dX4_forgetWords_7 ?_
  obtain rfl := Option.some.inj h
  exact az_return (pc := 10) C dX4_forgetWords_10 rfl
set_option maxRecDepth 10000 in
set_option maxHeartbeats 4000000 in
theorem A_X4_forgetWords {l : Launch} {d : Nat} (hD : 1 ≤ d) {σ : az_Hp} {v0 v1 : Int} {r : az_Hp} (h : fz_X4_forgetWords σ v0 v1 = some r) : az_AC l yX4_forgetWords cX4_forgetWords 2 none d [(6, v0), (0, v1)] σ (none, r) := az_AC.of mt_X4_forgetWords rfl rfl rfl (fun Z hZ C => A_X4_forgetWords_e C hD h)
theorem dX4_closeFrames_0 : decode cX4_closeFrames 0 = .ok (.iload_n 1, 1) := by decide +kernel
theorem dX4_closeFrames_1 : decode cX4_closeFrames 1 = .ok (.iconst 1, 1) := by decide +kernel
theorem dX4_closeFrames_2 : decode cX4_closeFrames 2 = .ok (.isub, 1) := by decide +kernel
theorem dX4_closeFrames_3 : decode cX4_closeFrames 3 = .ok (.istore_n 2, 1) := by decide +kernel
theorem dX4_closeFrames_4 : decode cX4_closeFrames 4 = .ok (.iload_n 2, 1) := by decide +kernel
theorem dX4_closeFrames_5 : decode cX4_closeFrames 5 = .ok (.ifCond .lt 109, 3) := by decide +kernel
theorem dX4_closeFrames_8 : decode cX4_closeFrames 8 = .ok (.aload_n 0, 1) := by decide +kernel
theorem dX4_closeFrames_9 : decode cX4_closeFrames 9 = .ok (.getfield 53, 3) := by decide +kernel
theorem dX4_closeFrames_12 : decode cX4_closeFrames 12 = .ok (.iload_n 2, 1) := by decide +kernel
theorem dX4_closeFrames_13 : decode cX4_closeFrames 13 = .ok (.dup2, 1) := by decide +kernel
theorem dX4_closeFrames_14 : decode cX4_closeFrames 14 = .ok (.iaload, 1) := by decide +kernel
theorem dX4_closeFrames_15 : decode cX4_closeFrames 15 = .ok (.iconst 1, 1) := by decide +kernel
theorem dX4_closeFrames_16 : decode cX4_closeFrames 16 = .ok (.iadd, 1) := by decide +kernel
theorem dX4_closeFrames_17 : decode cX4_closeFrames 17 = .ok (.iastore, 1) := by decide +kernel
theorem dX4_closeFrames_18 : decode cX4_closeFrames 18 = .ok (.aload_n 0, 1) := by decide +kernel
theorem dX4_closeFrames_19 : decode cX4_closeFrames 19 = .ok (.getfield 41, 3) := by decide +kernel
theorem dX4_closeFrames_22 : decode cX4_closeFrames 22 = .ok (.bipush 44, 2) := by decide +kernel
theorem dX4_closeFrames_24 : decode cX4_closeFrames 24 = .ok (.if_icmp .ne 26, 3) := by decide +kernel
theorem dX4_closeFrames_27 : decode cX4_closeFrames 27 = .ok (.aload_n 0, 1) := by decide +kernel
theorem dX4_closeFrames_28 : decode cX4_closeFrames 28 = .ok (.getfield 53, 3) := by decide +kernel
theorem dX4_closeFrames_31 : decode cX4_closeFrames 31 = .ok (.iload_n 2, 1) := by decide +kernel
theorem dX4_closeFrames_32 : decode cX4_closeFrames 32 = .ok (.iaload, 1) := by decide +kernel
theorem dX4_closeFrames_33 : decode cX4_closeFrames 33 = .ok (.aload_n 0, 1) := by decide +kernel
theorem dX4_closeFrames_34 : decode cX4_closeFrames 34 = .ok (.getfield 50, 3) := by decide +kernel
theorem dX4_closeFrames_37 : decode cX4_closeFrames 37 = .ok (.iload_n 2, 1) := by decide +kernel
theorem dX4_closeFrames_38 : decode cX4_closeFrames 38 = .ok (.iaload, 1) := by decide +kernel
theorem dX4_closeFrames_39 : decode cX4_closeFrames 39 = .ok (.if_icmp .ge 11, 3) := by decide +kernel
theorem dX4_closeFrames_42 : decode cX4_closeFrames 42 = .ok (.aload_n 0, 1) := by decide +kernel
theorem dX4_closeFrames_43 : decode cX4_closeFrames 43 = .ok (.invokevirtual 127, 3) := by decide +kernel
theorem dX4_closeFrames_46 : decode cX4_closeFrames 46 = .ok (.iload_n 2, 1) := by decide +kernel
theorem dX4_closeFrames_47 : decode cX4_closeFrames 47 = .ok (.iconst 1, 1) := by decide +kernel
theorem dX4_closeFrames_48 : decode cX4_closeFrames 48 = .ok (.iadd, 1) := by decide +kernel
theorem dX4_closeFrames_49 : decode cX4_closeFrames 49 = .ok (.ireturn, 1) := by decide +kernel
theorem dX4_closeFrames_50 : decode cX4_closeFrames 50 = .ok (.aload_n 0, 1) := by decide +kernel
theorem dX4_closeFrames_51 : decode cX4_closeFrames 51 = .ok (.getfield 41, 3) := by decide +kernel
theorem dX4_closeFrames_54 : decode cX4_closeFrames 54 = .ok (.bipush 41, 2) := by decide +kernel
theorem dX4_closeFrames_56 : decode cX4_closeFrames 56 = .ok (.if_icmp .ne 18, 3) := by decide +kernel
theorem dX4_closeFrames_59 : decode cX4_closeFrames 59 = .ok (.aload_n 0, 1) := by decide +kernel
theorem dX4_closeFrames_60 : decode cX4_closeFrames 60 = .ok (.getfield 53, 3) := by decide +kernel
theorem dX4_closeFrames_63 : decode cX4_closeFrames 63 = .ok (.iload_n 2, 1) := by decide +kernel
theorem dX4_closeFrames_64 : decode cX4_closeFrames 64 = .ok (.iaload, 1) := by decide +kernel
theorem dX4_closeFrames_65 : decode cX4_closeFrames 65 = .ok (.aload_n 0, 1) := by decide +kernel
theorem dX4_closeFrames_66 : decode cX4_closeFrames 66 = .ok (.getfield 50, 3) := by decide +kernel
theorem dX4_closeFrames_69 : decode cX4_closeFrames 69 = .ok (.iload_n 2, 1) := by decide +kernel
theorem dX4_closeFrames_70 : decode cX4_closeFrames 70 = .ok (.iaload, 1) := by decide +kernel
theorem dX4_closeFrames_71 : decode cX4_closeFrames 71 = .ok (.if_icmp .ge 33, 3) := by decide +kernel
theorem dX4_closeFrames_74 : decode cX4_closeFrames 74 = .ok (.aload_n 0, 1) := by decide +kernel
theorem dX4_closeFrames_75 : decode cX4_closeFrames 75 = .ok (.aload_n 0, 1) := by decide +kernel
theorem dX4_closeFrames_76 : decode cX4_closeFrames 76 = .ok (.getfield 41, 3) := by decide +kernel
theorem dX4_closeFrames_79 : decode cX4_closeFrames 79 = .ok (.bipush 44, 2) := by decide +kernel
theorem dX4_closeFrames_81 : decode cX4_closeFrames 81 = .ok (.if_icmp .eq 12, 3) := by decide +kernel
theorem dX4_closeFrames_84 : decode cX4_closeFrames 84 = .ok (.aload_n 0, 1) := by decide +kernel
theorem dX4_closeFrames_85 : decode cX4_closeFrames 85 = .ok (.getfield 41, 3) := by decide +kernel
theorem dX4_closeFrames_88 : decode cX4_closeFrames 88 = .ok (.bipush 41, 2) := by decide +kernel
theorem dX4_closeFrames_90 : decode cX4_closeFrames 90 = .ok (.if_icmp .ne 7, 3) := by decide +kernel
theorem dX4_closeFrames_93 : decode cX4_closeFrames 93 = .ok (.iconst 5, 1) := by decide +kernel
theorem dX4_closeFrames_94 : decode cX4_closeFrames 94 = .ok (.goto 4, 3) := by decide +kernel
theorem dX4_closeFrames_97 : decode cX4_closeFrames 97 = .ok (.iconst 2, 1) := by decide +kernel
theorem dX4_closeFrames_98 : decode cX4_closeFrames 98 = .ok (.invokevirtual 84, 3) := by decide +kernel
theorem dX4_closeFrames_101 : decode cX4_closeFrames 101 = .ok (.pop, 1) := by decide +kernel
theorem dX4_closeFrames_102 : decode cX4_closeFrames 102 = .ok (.iconst (-1), 1) := by decide +kernel
theorem dX4_closeFrames_103 : decode cX4_closeFrames 103 = .ok (.ireturn, 1) := by decide +kernel
theorem dX4_closeFrames_104 : decode cX4_closeFrames 104 = .ok (.aload_n 0, 1) := by decide +kernel
theorem dX4_closeFrames_105 : decode cX4_closeFrames 105 = .ok (.invokevirtual 127, 3) := by decide +kernel
theorem dX4_closeFrames_108 : decode cX4_closeFrames 108 = .ok (.iinc 2 (-1), 3) := by decide +kernel
theorem dX4_closeFrames_111 : decode cX4_closeFrames 111 = .ok (.goto (-107), 3) := by decide +kernel
theorem dX4_closeFrames_114 : decode cX4_closeFrames 114 = .ok (.iconst 0, 1) := by decide +kernel
theorem dX4_closeFrames_115 : decode cX4_closeFrames 115 = .ok (.ireturn, 1) := by decide +kernel
set_option maxRecDepth 10000 in
set_option maxHeartbeats 4000000 in
theorem A_X4_closeFrames_74 {Z : az_Z} {d : Nat} (C : az_C Z yX4_closeFrames cX4_closeFrames 3 (some .int) d) (hD : 2 ≤ d) (n : Nat) {σ : az_Hp} {v0 : Int} {r : (Int × az_Hp)} (h : fz_X4_closeFrames_74 n σ v0 = some r) : az_AW Z 3 74 [(6, v0), (31, 0), (31, 0)] [] σ (some (0, r.1), r.2) := by
  have hd1 : 1 ≤ d := by omega
  unfold fz_X4_closeFrames_74 at h
  refine az_al0 (pc := 74) C rfl rfl dX4_closeFrames_74 ?_
  refine az_al0 (pc := 75) C rfl rfl dX4_closeFrames_75 ?_
  refine az_getI (pc := 76) C fl_X4_41 rfl dX4_closeFrames_76 ?_
  refine az_bk44 (pc := 79) C dX4_closeFrames_79 ?_
  refine az_icmp_eq (pc := 81) (tgt := 93) C h dX4_closeFrames_81 (by decide) (fun _ h => ?_) (fun _ h => ?_)
  · refine az_ik5 (pc := 93) C dX4_closeFrames_93 ?_
    refine az_goto (pc := 94) (tgt := 98) C dX4_closeFrames_94 (by decide) ?_
    refine az_cV1ii (pc := 98) (c := 4) C hd1 h mv_X4_fail ml_X4_84 rfl (fun x hx => A_X4_fail (by omega) hx) dX4_closeFrames_98 (fun r1 h => ?_)
    refine az_pop (pc := 101) C rfl rfl dX4_closeFrames_101 ?_
    refine az_ikm1 (pc := 102) C dX4_closeFrames_102 ?_
    obtain rfl := Option.some.inj h
    exact az_ireturn (pc := 103) C dX4_closeFrames_103 rfl
  refine az_al0 (pc := 84) C rfl rfl dX4_closeFrames_84 ?_
  refine az_getI (pc := 85) C fl_X4_41 rfl dX4_closeFrames_85 ?_
  refine az_bk41 (pc := 88) C dX4_closeFrames_88 ?_
  refine az_icmp_ne (pc := 90) (tgt := 97) C h dX4_closeFrames_90 (by decide) (fun _ h => ?_) (fun _ h => ?_)
  · refine az_ik2 (pc := 97) C dX4_closeFrames_97 ?_
    refine az_cV1ii (pc := 98) (c := 4) C hd1 h mv_X4_fail ml_X4_84 rfl (fun x hx => A_X4_fail (by omega) hx) dX4_closeFrames_98 (fun r2 h => ?_)
    refine az_pop (pc := 101) C rfl rfl dX4_closeFrames_101 ?_
    refine az_ikm1 (pc := 102) C dX4_closeFrames_102 ?_
    obtain rfl := Option.some.inj h
    exact az_ireturn (pc := 103) C dX4_closeFrames_103 rfl
  refine az_ik5 (pc := 93) C dX4_closeFrames_93 ?_
  refine az_goto (pc := 94) (tgt := 98) C dX4_closeFrames_94 (by decide) ?_
  refine az_cV1ii (pc := 98) (c := 4) C hd1 h mv_X4_fail ml_X4_84 rfl (fun x hx => A_X4_fail (by omega) hx) dX4_closeFrames_98 (fun r3 h => ?_)
  refine az_pop (pc := 101) C rfl rfl dX4_closeFrames_101 ?_
  refine az_ikm1 (pc := 102) C dX4_closeFrames_102 ?_
  obtain rfl := Option.some.inj h
  exact az_ireturn (pc := 103) C dX4_closeFrames_103 rfl
set_option maxRecDepth 10000 in
set_option maxHeartbeats 4000000 in
theorem A_X4_closeFrames_50 {Z : az_Z} {d : Nat} (C : az_C Z yX4_closeFrames cX4_closeFrames 3 (some .int) d) (hD : 2 ≤ d) (n : Nat) {k4 : az_Hp → Int → Int → Option (Int × az_Hp)} (hk4 : ∀ {σ : az_Hp} {v0 v2 : Int} {r : (Int × az_Hp)}, k4 σ v0 v2 = some r → az_AW Z 3 4 [(6, v0), (31, 0), (0, v2)] [] σ (some (0, r.1), r.2)) {σ : az_Hp} {v0 v2 : Int} {r : (Int × az_Hp)} (h : fz_X4_closeFrames_50 n k4 σ v0 v2 = some r) : az_AW Z 3 50 [(6, v0), (31, 0), (0, v2)] [] σ (some (0, r.1), r.2) := by
  have hd1 : 1 ≤ d := by omega
  unfold fz_X4_closeFrames_50 at h
  refine az_al0 (pc := 50) C rfl rfl dX4_closeFrames_50 ?_
  refine az_getI (pc := 51) C fl_X4_41 rfl dX4_closeFrames_51 ?_
  refine az_bk41 (pc := 54) C dX4_closeFrames_54 ?_
  refine az_icmp_ne (pc := 56) (tgt := 74) C h dX4_closeFrames_56 (by decide) (fun _ h => ?_) (fun _ h => ?_)
  · exact (az_wkk (A_X4_closeFrames_74 C hD n h) (az_sE (az_sJ (az_sJ az_sN))))
  refine az_al0 (pc := 59) C rfl rfl dX4_closeFrames_59 ?_
  refine az_getR (pc := 60) (c2 := 13) C h fl_X4_53 rfl rfl dX4_closeFrames_60 (fun h => ?_)
  refine az_il2 (pc := 63) C dX4_closeFrames_63 ?_
  refine az_iaload (pc := 64) C h dX4_closeFrames_64 (fun h => ?_)
  refine az_al0 (pc := 65) C rfl rfl dX4_closeFrames_65 ?_
  refine az_getR (pc := 66) (c2 := 13) C h fl_X4_50 rfl rfl dX4_closeFrames_66 (fun h => ?_)
  refine az_il2 (pc := 69) C dX4_closeFrames_69 ?_
  refine az_iaload (pc := 70) C h dX4_closeFrames_70 (fun h => ?_)
  refine az_icmp_ge (pc := 71) (tgt := 104) C h dX4_closeFrames_71 (by decide) (fun _ h => ?_) (fun _ h => ?_)
  · refine az_al0 (pc := 104) C rfl rfl dX4_closeFrames_104 ?_
    refine az_cV0v (pc := 105) (c := 4) C hd1 h mv_X4_next ml_X4_127 rfl (fun x hx => A_X4_next (by omega) hx) dX4_closeFrames_105 (fun r5 h => ?_)
    refine az_ii2 (pc := 108) C az_nm1 rfl rfl dX4_closeFrames_108 ?_
    refine az_goto (pc := 111) (tgt := 4) C dX4_closeFrames_111 (by decide) ?_
    exact (hk4 h)
  exact (az_wkk (A_X4_closeFrames_74 C hD n h) (az_sE (az_sJ (az_sJ az_sN))))
set_option maxRecDepth 10000 in
set_option maxHeartbeats 4000000 in
theorem A_X4_closeFrames_4 {Z : az_Z} {d : Nat} (C : az_C Z yX4_closeFrames cX4_closeFrames 3 (some .int) d) (hD : 2 ≤ d) (n : Nat) (k : Nat) : ∀ {σ : az_Hp} {v0 v2 : Int} {r : (Int × az_Hp)}, fz_X4_closeFrames_4 n k σ v0 v2 = some r → az_AW Z 3 4 [(6, v0), (31, 0), (0, v2)] [] σ (some (0, r.1), r.2) := by
  have hd1 : 1 ≤ d := by omega
  induction k with
  | zero => intro σ v0 v2 r h; simp [fz_X4_closeFrames_4] at h
  | succ k ih =>
    intro σ v0 v2 r h
    unfold fz_X4_closeFrames_4 at h
    refine az_il2 (pc := 4) C dX4_closeFrames_4 ?_
    refine az_if_lt (pc := 5) (tgt := 114) C h dX4_closeFrames_5 (by decide) (fun _ h => ?_) (fun _ h => ?_)
    · refine az_ik0 (pc := 114) C dX4_closeFrames_114 ?_
      obtain rfl := Option.some.inj h
      exact az_ireturn (pc := 115) C dX4_closeFrames_115 rfl
    refine az_al0 (pc := 8) C rfl rfl dX4_closeFrames_8 ?_
    refine az_getR (pc := 9) (c2 := 13) C h fl_X4_53 rfl rfl dX4_closeFrames_9 (fun h => ?_)
    refine az_il2 (pc := 12) C dX4_closeFrames_12 ?_
    refine az_dup2 (pc := 13) C rfl rfl rfl rfl dX4_closeFrames_13 ?_
    refine az_iaload (pc := 14) C h dX4_closeFrames_14 (fun h => ?_)
    refine az_ik1 (pc := 15) C dX4_closeFrames_15 ?_
    refine az_iadd (pc := 16) C dX4_closeFrames_16 ?_
    refine az_iastore (pc := 17) C h dX4_closeFrames_17 (fun h => ?_)
    refine az_al0 (pc := 18) C rfl rfl dX4_closeFrames_18 ?_
    refine az_getI (pc := 19) C fl_X4_41 rfl dX4_closeFrames_19 ?_
    refine az_bk44 (pc := 22) C dX4_closeFrames_22 ?_
    refine az_icmp_ne (pc := 24) (tgt := 50) C h dX4_closeFrames_24 (by decide) (fun _ h => ?_) (fun _ h => ?_)
    · exact (A_X4_closeFrames_50 C hD n (fun h => ih h) h)
    refine az_al0 (pc := 27) C rfl rfl dX4_closeFrames_27 ?_
    refine az_getR (pc := 28) (c2 := 13) C h fl_X4_53 rfl rfl dX4_closeFrames_28 (fun h => ?_)
    refine az_il2 (pc := 31) C dX4_closeFrames_31 ?_
    refine az_iaload (pc := 32) C h dX4_closeFrames_32 (fun h => ?_)
    refine az_al0 (pc := 33) C rfl rfl dX4_closeFrames_33 ?_
    refine az_getR (pc := 34) (c2 := 13) C h fl_X4_50 rfl rfl dX4_closeFrames_34 (fun h => ?_)
    refine az_il2 (pc := 37) C dX4_closeFrames_37 ?_
    refine az_iaload (pc := 38) C h dX4_closeFrames_38 (fun h => ?_)
    refine az_icmp_ge (pc := 39) (tgt := 50) C h dX4_closeFrames_39 (by decide) (fun _ h => ?_) (fun _ h => ?_)
    · exact (A_X4_closeFrames_50 C hD n (fun h => ih h) h)
    refine az_al0 (pc := 42) C rfl rfl dX4_closeFrames_42 ?_
    refine az_cV0v (pc := 43) (c := 4) C hd1 h mv_X4_next ml_X4_127 rfl (fun x hx => A_X4_next (by omega) hx) dX4_closeFrames_43 (fun r8 h => ?_)
    refine az_il2 (pc := 46) C dX4_closeFrames_46 ?_
    refine az_ik1 (pc := 47) C dX4_closeFrames_47 ?_
    refine az_iadd (pc := 48) C dX4_closeFrames_48 ?_
    obtain rfl := Option.some.inj h
    exact az_ireturn (pc := 49) C dX4_closeFrames_49 rfl
set_option maxRecDepth 10000 in
set_option maxHeartbeats 4000000 in
theorem A_X4_closeFrames_e {Z : az_Z} {d : Nat} (C : az_C Z yX4_closeFrames cX4_closeFrames 3 (some .int) d) (hD : 2 ≤ d) (n : Nat) {σ : az_Hp} {v0 v1 : Int} {r : (Int × az_Hp)} (h : fz_X4_closeFrames n σ v0 v1 = some r) : az_AW Z 3 0 [(6, v0), (0, v1), (31, 0)] [] σ (some (0, r.1), r.2) := by
  have hd1 : 1 ≤ d := by omega
  unfold fz_X4_closeFrames at h
  refine az_il1 (pc := 0) C dX4_closeFrames_0 ?_
  refine az_ik1 (pc := 1) C dX4_closeFrames_1 ?_
  refine az_isub (pc := 2) C dX4_closeFrames_2 ?_
  refine az_is2 (pc := 3) C rfl rfl dX4_closeFrames_3 ?_
  exact (az_wkk (A_X4_closeFrames_4 C hD n n h) (az_sE (az_sJ (az_sE az_sN))))
set_option maxRecDepth 10000 in
set_option maxHeartbeats 4000000 in
theorem A_X4_closeFrames {l : Launch} {d : Nat} (hD : 2 ≤ d) (n : Nat) {σ : az_Hp} {v0 v1 : Int} {r : (Int × az_Hp)} (h : fz_X4_closeFrames n σ v0 v1 = some r) : az_AC l yX4_closeFrames cX4_closeFrames 3 (some .int) d [(6, v0), (0, v1)] σ (some (0, r.1), r.2) := az_AC.of mt_X4_closeFrames rfl rfl rfl (fun Z hZ C => A_X4_closeFrames_e C hD n h)
theorem dX4_endsTerm_0 : decode cX4_endsTerm 0 = .ok (.iload_n 1, 1) := by decide +kernel
theorem dX4_endsTerm_1 : decode cX4_endsTerm 1 = .ok (.ifCond .le 27, 3) := by decide +kernel
theorem dX4_endsTerm_4 : decode cX4_endsTerm 4 = .ok (.aload_n 0, 1) := by decide +kernel
theorem dX4_endsTerm_5 : decode cX4_endsTerm 5 = .ok (.getfield 41, 3) := by decide +kernel
theorem dX4_endsTerm_8 : decode cX4_endsTerm 8 = .ok (.bipush 44, 2) := by decide +kernel
theorem dX4_endsTerm_10 : decode cX4_endsTerm 10 = .ok (.if_icmp .eq 12, 3) := by decide +kernel
theorem dX4_endsTerm_13 : decode cX4_endsTerm 13 = .ok (.aload_n 0, 1) := by decide +kernel
theorem dX4_endsTerm_14 : decode cX4_endsTerm 14 = .ok (.getfield 41, 3) := by decide +kernel
theorem dX4_endsTerm_17 : decode cX4_endsTerm 17 = .ok (.bipush 41, 2) := by decide +kernel
theorem dX4_endsTerm_19 : decode cX4_endsTerm 19 = .ok (.if_icmp .ne 7, 3) := by decide +kernel
theorem dX4_endsTerm_22 : decode cX4_endsTerm 22 = .ok (.iconst 1, 1) := by decide +kernel
theorem dX4_endsTerm_23 : decode cX4_endsTerm 23 = .ok (.goto 4, 3) := by decide +kernel
theorem dX4_endsTerm_26 : decode cX4_endsTerm 26 = .ok (.iconst 0, 1) := by decide +kernel
theorem dX4_endsTerm_27 : decode cX4_endsTerm 27 = .ok (.ireturn, 1) := by decide +kernel
theorem dX4_endsTerm_28 : decode cX4_endsTerm 28 = .ok (.aload_n 0, 1) := by decide +kernel
theorem dX4_endsTerm_29 : decode cX4_endsTerm 29 = .ok (.getfield 28, 3) := by decide +kernel
theorem dX4_endsTerm_32 : decode cX4_endsTerm 32 = .ok (.iconst 2, 1) := by decide +kernel
theorem dX4_endsTerm_33 : decode cX4_endsTerm 33 = .ok (.if_icmp .ne 5, 3) := by decide +kernel
theorem dX4_endsTerm_36 : decode cX4_endsTerm 36 = .ok (.iconst 0, 1) := by decide +kernel
theorem dX4_endsTerm_37 : decode cX4_endsTerm 37 = .ok (.ireturn, 1) := by decide +kernel
theorem dX4_endsTerm_38 : decode cX4_endsTerm 38 = .ok (.aload_n 0, 1) := by decide +kernel
theorem dX4_endsTerm_39 : decode cX4_endsTerm 39 = .ok (.getfield 28, 3) := by decide +kernel
theorem dX4_endsTerm_42 : decode cX4_endsTerm 42 = .ok (.ifCond .eq 19, 3) := by decide +kernel
theorem dX4_endsTerm_45 : decode cX4_endsTerm 45 = .ok (.aload_n 0, 1) := by decide +kernel
theorem dX4_endsTerm_46 : decode cX4_endsTerm 46 = .ok (.getfield 28, 3) := by decide +kernel
theorem dX4_endsTerm_49 : decode cX4_endsTerm 49 = .ok (.iconst 3, 1) := by decide +kernel
theorem dX4_endsTerm_50 : decode cX4_endsTerm 50 = .ok (.if_icmp .eq 11, 3) := by decide +kernel
theorem dX4_endsTerm_53 : decode cX4_endsTerm 53 = .ok (.aload_n 0, 1) := by decide +kernel
theorem dX4_endsTerm_54 : decode cX4_endsTerm 54 = .ok (.getfield 28, 3) := by decide +kernel
theorem dX4_endsTerm_57 : decode cX4_endsTerm 57 = .ok (.iconst 5, 1) := by decide +kernel
theorem dX4_endsTerm_58 : decode cX4_endsTerm 58 = .ok (.if_icmp .ne 7, 3) := by decide +kernel
theorem dX4_endsTerm_61 : decode cX4_endsTerm 61 = .ok (.iconst 1, 1) := by decide +kernel
theorem dX4_endsTerm_62 : decode cX4_endsTerm 62 = .ok (.goto 4, 3) := by decide +kernel
theorem dX4_endsTerm_65 : decode cX4_endsTerm 65 = .ok (.iconst 0, 1) := by decide +kernel
theorem dX4_endsTerm_66 : decode cX4_endsTerm 66 = .ok (.istore_n 2, 1) := by decide +kernel
theorem dX4_endsTerm_67 : decode cX4_endsTerm 67 = .ok (.aload_n 0, 1) := by decide +kernel
theorem dX4_endsTerm_68 : decode cX4_endsTerm 68 = .ok (.getfield 41, 3) := by decide +kernel
theorem dX4_endsTerm_71 : decode cX4_endsTerm 71 = .ok (.iload_n 2, 1) := by decide +kernel
theorem dX4_endsTerm_72 : decode cX4_endsTerm 72 = .ok (.ifCond .eq 8, 3) := by decide +kernel
theorem dX4_endsTerm_75 : decode cX4_endsTerm 75 = .ok (.bipush 61, 2) := by decide +kernel
theorem dX4_endsTerm_77 : decode cX4_endsTerm 77 = .ok (.goto 5, 3) := by decide +kernel
theorem dX4_endsTerm_80 : decode cX4_endsTerm 80 = .ok (.bipush 59, 2) := by decide +kernel
theorem dX4_endsTerm_82 : decode cX4_endsTerm 82 = .ok (.if_icmp .ne 7, 3) := by decide +kernel
theorem dX4_endsTerm_85 : decode cX4_endsTerm 85 = .ok (.iconst 1, 1) := by decide +kernel
theorem dX4_endsTerm_86 : decode cX4_endsTerm 86 = .ok (.goto 4, 3) := by decide +kernel
theorem dX4_endsTerm_89 : decode cX4_endsTerm 89 = .ok (.iconst 0, 1) := by decide +kernel
theorem dX4_endsTerm_90 : decode cX4_endsTerm 90 = .ok (.ireturn, 1) := by decide +kernel
set_option maxRecDepth 10000 in
set_option maxHeartbeats 4000000 in
theorem A_X4_endsTerm_82 {Z : az_Z} {d : Nat} (C : az_C Z yX4_endsTerm cX4_endsTerm 3 (some .boolean) d) (hD : 1 ≤ d) {σ : az_Hp} {w0 w1 : Int} {r : Int} (h : fz_X4_endsTerm_82 σ w0 w1 = some r) : az_AW Z 3 82 [(31, 0), (31, 0), (31, 0)] [(0, w1), (0, w0)] σ (some (0, r), σ) := by
  have hd1 : 1 ≤ d := by omega
  unfold fz_X4_endsTerm_82 at h
  refine az_icmp_ne (pc := 82) (tgt := 89) C h dX4_endsTerm_82 (by decide) (fun _ h => ?_) (fun _ h => ?_)
  · refine az_ik0 (pc := 89) C dX4_endsTerm_89 ?_
    obtain rfl := Option.some.inj h
    exact az_zreturn (pc := 90) C (by decide) dX4_endsTerm_90 rfl
  refine az_ik1 (pc := 85) C dX4_endsTerm_85 ?_
  refine az_goto (pc := 86) (tgt := 90) C dX4_endsTerm_86 (by decide) ?_
  obtain rfl := Option.some.inj h
  exact az_zreturn (pc := 90) C (by decide) dX4_endsTerm_90 rfl
set_option maxRecDepth 10000 in
set_option maxHeartbeats 4000000 in
theorem A_X4_endsTerm_66 {Z : az_Z} {d : Nat} (C : az_C Z yX4_endsTerm cX4_endsTerm 3 (some .boolean) d) (hD : 1 ≤ d) {σ : az_Hp} {v0 w0 : Int} {r : Int} (h : fz_X4_endsTerm_66 σ v0 w0 = some r) : az_AW Z 3 66 [(6, v0), (31, 0), (31, 0)] [(0, w0)] σ (some (0, r), σ) := by
  have hd1 : 1 ≤ d := by omega
  unfold fz_X4_endsTerm_66 at h
  refine az_is2 (pc := 66) C rfl rfl dX4_endsTerm_66 ?_
  refine az_al0 (pc := 67) C rfl rfl dX4_endsTerm_67 ?_
  refine az_getI (pc := 68) C fl_X4_41 rfl dX4_endsTerm_68 ?_
  refine az_il2 (pc := 71) C dX4_endsTerm_71 ?_
  refine az_if_eq (pc := 72) (tgt := 80) C h dX4_endsTerm_72 (by decide) (fun _ h => ?_) (fun _ h => ?_)
  · refine az_bk59 (pc := 80) C dX4_endsTerm_80 ?_
    exact (az_wkk (A_X4_endsTerm_82 C hD h) (az_sJ (az_sJ (az_sJ az_sN))))
  refine az_bk61 (pc := 75) C dX4_endsTerm_75 ?_
  refine az_goto (pc := 77) (tgt := 82) C dX4_endsTerm_77 (by decide) ?_
  exact (az_wkk (A_X4_endsTerm_82 C hD h) (az_sJ (az_sJ (az_sJ az_sN))))
set_option maxRecDepth 10000 in
set_option maxHeartbeats 4000000 in
theorem A_X4_endsTerm_e {Z : az_Z} {d : Nat} (C : az_C Z yX4_endsTerm cX4_endsTerm 3 (some .boolean) d) (hD : 1 ≤ d) {σ : az_Hp} {v0 v1 : Int} {r : Int} (h : fz_X4_endsTerm σ v0 v1 = some r) : az_AW Z 3 0 [(6, v0), (0, v1), (31, 0)] [] σ (some (0, r), σ) := by
  have hd1 : 1 ≤ d := by omega
  unfold fz_X4_endsTerm at h
  refine az_il1 (pc := 0) C dX4_endsTerm_0 ?_
  refine az_if_le (pc := 1) (tgt := 28) C h dX4_endsTerm_1 (by decide) (fun _ h => ?_) (fun _ h => ?_)
  · refine az_al0 (pc := 28) C rfl rfl dX4_endsTerm_28 ?_
    refine az_getI (pc := 29) C fl_X4_28 rfl dX4_endsTerm_29 ?_
    refine az_ik2 (pc := 32) C dX4_endsTerm_32 ?_
    refine az_icmp_ne (pc := 33) (tgt := 38) C h dX4_endsTerm_33 (by decide) (fun _ h => ?_) (fun _ h => ?_)
    · refine az_al0 (pc := 38) C rfl rfl dX4_endsTerm_38 ?_
      refine az_getI (pc := 39) C fl_X4_28 rfl dX4_endsTerm_39 ?_
      refine az_if_eq (pc := 42) (tgt := 61) C h dX4_endsTerm_42 (by decide) (fun _ h => ?_) (fun _ h => ?_)
      · refine az_ik1 (pc := 61) C dX4_endsTerm_61 ?_
        refine az_goto (pc := 62) (tgt := 66) C dX4_endsTerm_62 (by decide) ?_
        exact (az_wkk (A_X4_endsTerm_66 C hD h) (az_sE (az_sJ (az_sJ az_sN))))
      refine az_al0 (pc := 45) C rfl rfl dX4_endsTerm_45 ?_
      refine az_getI (pc := 46) C fl_X4_28 rfl dX4_endsTerm_46 ?_
      refine az_ik3 (pc := 49) C dX4_endsTerm_49 ?_
      refine az_icmp_eq (pc := 50) (tgt := 61) C h dX4_endsTerm_50 (by decide) (fun _ h => ?_) (fun _ h => ?_)
      · refine az_ik1 (pc := 61) C dX4_endsTerm_61 ?_
        refine az_goto (pc := 62) (tgt := 66) C dX4_endsTerm_62 (by decide) ?_
        exact (az_wkk (A_X4_endsTerm_66 C hD h) (az_sE (az_sJ (az_sJ az_sN))))
      refine az_al0 (pc := 53) C rfl rfl dX4_endsTerm_53 ?_
      refine az_getI (pc := 54) C fl_X4_28 rfl dX4_endsTerm_54 ?_
      refine az_ik5 (pc := 57) C dX4_endsTerm_57 ?_
      refine az_icmp_ne (pc := 58) (tgt := 65) C h dX4_endsTerm_58 (by decide) (fun _ h => ?_) (fun _ h => ?_)
      · refine az_ik0 (pc := 65) C dX4_endsTerm_65 ?_
        exact (az_wkk (A_X4_endsTerm_66 C hD h) (az_sE (az_sJ (az_sJ az_sN))))
      refine az_ik1 (pc := 61) C dX4_endsTerm_61 ?_
      refine az_goto (pc := 62) (tgt := 66) C dX4_endsTerm_62 (by decide) ?_
      exact (az_wkk (A_X4_endsTerm_66 C hD h) (az_sE (az_sJ (az_sJ az_sN))))
    refine az_ik0 (pc := 36) C dX4_endsTerm_36 ?_
    obtain rfl := Option.some.inj h
    exact az_zreturn (pc := 37) C (by decide) dX4_endsTerm_37 rfl
  refine az_al0 (pc := 4) C rfl rfl dX4_endsTerm_4 ?_
  refine az_getI (pc := 5) C fl_X4_41 rfl dX4_endsTerm_5 ?_
  refine az_bk44 (pc := 8) C dX4_endsTerm_8 ?_
  refine az_icmp_eq (pc := 10) (tgt := 22) C h dX4_endsTerm_10 (by decide) (fun _ h => ?_) (fun _ h => ?_)
  · refine az_ik1 (pc := 22) C dX4_endsTerm_22 ?_
    refine az_goto (pc := 23) (tgt := 27) C dX4_endsTerm_23 (by decide) ?_
    obtain rfl := Option.some.inj h
    exact az_zreturn (pc := 27) C (by decide) dX4_endsTerm_27 rfl
  refine az_al0 (pc := 13) C rfl rfl dX4_endsTerm_13 ?_
  refine az_getI (pc := 14) C fl_X4_41 rfl dX4_endsTerm_14 ?_
  refine az_bk41 (pc := 17) C dX4_endsTerm_17 ?_
  refine az_icmp_ne (pc := 19) (tgt := 26) C h dX4_endsTerm_19 (by decide) (fun _ h => ?_) (fun _ h => ?_)
  · refine az_ik0 (pc := 26) C dX4_endsTerm_26 ?_
    obtain rfl := Option.some.inj h
    exact az_zreturn (pc := 27) C (by decide) dX4_endsTerm_27 rfl
  refine az_ik1 (pc := 22) C dX4_endsTerm_22 ?_
  refine az_goto (pc := 23) (tgt := 27) C dX4_endsTerm_23 (by decide) ?_
  obtain rfl := Option.some.inj h
  exact az_zreturn (pc := 27) C (by decide) dX4_endsTerm_27 rfl
set_option maxRecDepth 10000 in
set_option maxHeartbeats 4000000 in
theorem A_X4_endsTerm {l : Launch} {d : Nat} (hD : 1 ≤ d) {σ : az_Hp} {v0 v1 : Int} {r : Int} (h : fz_X4_endsTerm σ v0 v1 = some r) : az_AC l yX4_endsTerm cX4_endsTerm 3 (some .boolean) d [(6, v0), (0, v1)] σ (some (0, r), σ) := az_AC.of mt_X4_endsTerm rfl rfl rfl (fun Z hZ C => A_X4_endsTerm_e C hD h)
