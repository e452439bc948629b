theorem dX4_indexOfWord_0 : decode cX4_indexOfWord 0 = .ok (.iconst 0, 1) := by decide +kernel
theorem dX4_indexOfWord_1 : decode cX4_indexOfWord 1 = .ok (.istore_n 2, 1) := by decide +kernel
theorem dX4_indexOfWord_2 : decode cX4_indexOfWord 2 = .ok (.iload_n 2, 1) := by decide +kernel
theorem dX4_indexOfWord_3 : decode cX4_indexOfWord 3 = .ok (.aload_n 0, 1) := by decide +kernel
theorem dX4_indexOfWord_4 : decode cX4_indexOfWord 4 = .ok (.getfield 22, 3) := by decide +kernel
theorem dX4_indexOfWord_7 : decode cX4_indexOfWord 7 = .ok (.if_icmp .ge 21, 3) := by decide +kernel
theorem dX4_indexOfWord_10 : decode cX4_indexOfWord 10 = .ok (.aload_n 0, 1) := by decide +kernel
theorem dX4_indexOfWord_11 : decode cX4_indexOfWord 11 = .ok (.getfield 18, 3) := by decide +kernel
theorem dX4_indexOfWord_14 : decode cX4_indexOfWord 14 = .ok (.iload_n 2, 1) := by decide +kernel
theorem dX4_indexOfWord_15 : decode cX4_indexOfWord 15 = .ok (.iaload, 1) := by decide +kernel
theorem dX4_indexOfWord_16 : decode cX4_indexOfWord 16 = .ok (.iload_n 1, 1) := by decide +kernel
theorem dX4_indexOfWord_17 : decode cX4_indexOfWord 17 = .ok (.if_icmp .ne 5, 3) := by decide +kernel
theorem dX4_indexOfWord_20 : decode cX4_indexOfWord 20 = .ok (.iload_n 2, 1) := by decide +kernel
theorem dX4_indexOfWord_21 : decode cX4_indexOfWord 21 = .ok (.ireturn, 1) := by decide +kernel
theorem dX4_indexOfWord_22 : decode cX4_indexOfWord 22 = .ok (.iinc 2 1, 3) := by decide +kernel
theorem dX4_indexOfWord_25 : decode cX4_indexOfWord 25 = .ok (.goto (-23), 3) := by decide +kernel
theorem dX4_indexOfWord_28 : decode cX4_indexOfWord 28 = .ok (.iconst (-1), 1) := by decide +kernel
theorem dX4_indexOfWord_29 : decode cX4_indexOfWord 29 = .ok (.ireturn, 1) := by decide +kernel
set_option maxRecDepth 10000 in
set_option maxHeartbeats 4000000 in
theorem A_X4_indexOfWord_2 {Z : az_Z} {d : Nat} (C : az_C Z yX4_indexOfWord cX4_indexOfWord 3 (some .int) d) (hD : 1 ≤ d) (n : Nat) (k : Nat) : ∀ {σ : az_Hp} {v0 v1 v2 : Int} {r : Int}, fz_X4_indexOfWord_2 n k σ v0 v1 v2 = some r → az_AW Z 3 2 [(6, v0), (0, v1), (0, v2)] [] σ (some (0, r), σ) := by
  have hd1 : 1 ≤ d := by omega
  induction k with
  | zero => intro σ v0 v1 v2 r h; simp [fz_X4_indexOfWord_2] at h
  | succ k ih =>
    intro σ v0 v1 v2 r h
    unfold fz_X4_indexOfWord_2 at h
    refine az_il2 (pc := 2) C dX4_indexOfWord_2 ?_
    refine az_al0 (pc := 3) C rfl rfl dX4_indexOfWord_3 ?_
    refine az_getI (pc := 4) C fl_X4_22 rfl dX4_indexOfWord_4 ?_
    refine az_icmp_ge (pc := 7) (tgt := 28) C h dX4_indexOfWord_7 (by decide) (fun _ h => ?_) (fun _ h => ?_)
    · refine az_ikm1 (pc := 28) C dX4_indexOfWord_28 ?_
      obtain rfl := Option.some.inj h
      exact az_ireturn (pc := 29) C dX4_indexOfWord_29 rfl
    refine az_al0 (pc := 10) C rfl rfl dX4_indexOfWord_10 ?_
    refine az_getR (pc := 11) (c2 := 13) C h fl_X4_18 rfl rfl dX4_indexOfWord_11 (fun h => ?_)
    refine az_il2 (pc := 14) C dX4_indexOfWord_14 ?_
    refine az_iaload (pc := 15) C h dX4_indexOfWord_15 (fun h => ?_)
    refine az_il1 (pc := 16) C dX4_indexOfWord_16 ?_
    refine az_icmp_ne (pc := 17) (tgt := 22) C h dX4_indexOfWord_17 (by decide) (fun _ h => ?_) (fun _ h => ?_)
    · refine az_ii2 (pc := 22) C az_n1 rfl rfl dX4_indexOfWord_22 ?_
      refine az_goto (pc := 25) (tgt := 2) C dX4_indexOfWord_25 (by decide) ?_
      exact (ih h)
    refine az_il2 (pc := 20) C dX4_indexOfWord_20 ?_
    obtain rfl := Option.some.inj h
    exact az_ireturn (pc := 21) C dX4_indexOfWord_21 rfl
set_option maxRecDepth 10000 in
set_option maxHeartbeats 4000000 in
theorem A_X4_indexOfWord_e {Z : az_Z} {d : Nat} (C : az_C Z yX4_indexOfWord cX4_indexOfWord 3 (some .int) d) (hD : 1 ≤ d) (n : Nat) {σ : az_Hp} {v0 v1 : Int} {r : Int} (h : fz_X4_indexOfWord n σ v0 v1 = some r) : az_AW Z 3 0 [(6, v0), (0, v1), (31, 0)] [] σ (some (0, r), σ) := by
  have hd1 : 1 ≤ d := by omega
  unfold fz_X4_indexOfWord at h
  refine az_ik0 (pc := 0) C dX4_indexOfWord_0 ?_
  refine az_is2 (pc := 1) C rfl rfl dX4_indexOfWord_1 ?_
  exact (A_X4_indexOfWord_2 C hD n n h)
set_option maxRecDepth 10000 in
set_option maxHeartbeats 4000000 in
theorem A_X4_indexOfWord {l : Launch} {d : Nat} (hD : 1 ≤ d) (n : Nat) {σ : az_Hp} {v0 v1 : Int} {r : Int} (h : fz_X4_indexOfWord n σ v0 v1 = some r) : az_AC l yX4_indexOfWord cX4_indexOfWord 3 (some .int) d [(6, v0), (0, v1)] σ (some (0, r), σ) := az_AC.of mt_X4_indexOfWord rfl rfl rfl (fun Z hZ C => A_X4_indexOfWord_e C hD n h)
theorem dX4_isVariable_0 : decode cX4_isVariable 0 = .ok (.aload_n 0, 1) := by decide +kernel
theorem dX4_isVariable_1 : decode cX4_isVariable 1 = .ok (.getfield 41, 3) := by decide +kernel
theorem dX4_isVariable_4 : decode cX4_isVariable 4 = .ok (.iconst 3, 1) := by decide +kernel
theorem dX4_isVariable_5 : decode cX4_isVariable 5 = .ok (.if_icmp .ne 72, 3) := by decide +kernel
theorem dX4_isVariable_8 : decode cX4_isVariable 8 = .ok (.aload_n 0, 1) := by decide +kernel
theorem dX4_isVariable_9 : decode cX4_isVariable 9 = .ok (.getfield 44, 3) := by decide +kernel
theorem dX4_isVariable_12 : decode cX4_isVariable 12 = .ok (.sipush 2606, 3) := by decide +kernel
theorem dX4_isVariable_15 : decode cX4_isVariable 15 = .ok (.if_icmp .eq 62, 3) := by decide +kernel
theorem dX4_isVariable_18 : decode cX4_isVariable 18 = .ok (.aload_n 0, 1) := by decide +kernel
theorem dX4_isVariable_19 : decode cX4_isVariable 19 = .ok (.getfield 44, 3) := by decide +kernel
theorem dX4_isVariable_22 : decode cX4_isVariable 22 = .ok (.ldc 87, 2) := by decide +kernel
theorem dX4_isVariable_24 : decode cX4_isVariable 24 = .ok (.if_icmp .eq 53, 3) := by decide +kernel
theorem dX4_isVariable_27 : decode cX4_isVariable 27 = .ok (.aload_n 0, 1) := by decide +kernel
theorem dX4_isVariable_28 : decode cX4_isVariable 28 = .ok (.getfield 44, 3) := by decide +kernel
theorem dX4_isVariable_31 : decode cX4_isVariable 31 = .ok (.ldc 88, 2) := by decide +kernel
theorem dX4_isVariable_33 : decode cX4_isVariable 33 = .ok (.if_icmp .eq 44, 3) := by decide +kernel
theorem dX4_isVariable_36 : decode cX4_isVariable 36 = .ok (.aload_n 0, 1) := by decide +kernel
theorem dX4_isVariable_37 : decode cX4_isVariable 37 = .ok (.getfield 44, 3) := by decide +kernel
theorem dX4_isVariable_40 : decode cX4_isVariable 40 = .ok (.ldc 134, 2) := by decide +kernel
theorem dX4_isVariable_42 : decode cX4_isVariable 42 = .ok (.if_icmp .eq 35, 3) := by decide +kernel
theorem dX4_isVariable_45 : decode cX4_isVariable 45 = .ok (.aload_n 0, 1) := by decide +kernel
theorem dX4_isVariable_46 : decode cX4_isVariable 46 = .ok (.getfield 44, 3) := by decide +kernel
theorem dX4_isVariable_49 : decode cX4_isVariable 49 = .ok (.sipush 152, 3) := by decide +kernel
theorem dX4_isVariable_52 : decode cX4_isVariable 52 = .ok (.if_icmp .eq 25, 3) := by decide +kernel
theorem dX4_isVariable_55 : decode cX4_isVariable 55 = .ok (.aload_n 0, 1) := by decide +kernel
theorem dX4_isVariable_56 : decode cX4_isVariable 56 = .ok (.getfield 44, 3) := by decide +kernel
theorem dX4_isVariable_59 : decode cX4_isVariable 59 = .ok (.ldc 109, 2) := by decide +kernel
theorem dX4_isVariable_61 : decode cX4_isVariable 61 = .ok (.if_icmp .eq 16, 3) := by decide +kernel
theorem dX4_isVariable_64 : decode cX4_isVariable 64 = .ok (.aload_n 0, 1) := by decide +kernel
theorem dX4_isVariable_65 : decode cX4_isVariable 65 = .ok (.getfield 44, 3) := by decide +kernel
theorem dX4_isVariable_68 : decode cX4_isVariable 68 = .ok (.ldc 116, 2) := by decide +kernel
theorem dX4_isVariable_70 : decode cX4_isVariable 70 = .ok (.if_icmp .eq 7, 3) := by decide +kernel
theorem dX4_isVariable_73 : decode cX4_isVariable 73 = .ok (.iconst 1, 1) := by decide +kernel
theorem dX4_isVariable_74 : decode cX4_isVariable 74 = .ok (.goto 4, 3) := by decide +kernel
theorem dX4_isVariable_77 : decode cX4_isVariable 77 = .ok (.iconst 0, 1) := by decide +kernel
theorem dX4_isVariable_78 : decode cX4_isVariable 78 = .ok (.ireturn, 1) := by decide +kernel
set_option maxRecDepth 10000 in
set_option maxHeartbeats 4000000 in
theorem A_X4_isVariable_e {Z : az_Z} {d : Nat} (C : az_C Z yX4_isVariable cX4_isVariable 1 (some .boolean) d) (hD : 1 ≤ d) {σ : az_Hp} {v0 : Int} {r : Int} (h : fz_X4_isVariable σ v0 = some r) : az_AW Z 1 0 [(6, v0)] [] σ (some (0, r), σ) := by
  have hd1 : 1 ≤ d := by omega
  unfold fz_X4_isVariable at h
  refine az_al0 (pc := 0) C rfl rfl dX4_isVariable_0 ?_
  refine az_getI (pc := 1) C fl_X4_41 rfl dX4_isVariable_1 ?_
  refine az_ik3 (pc := 4) C dX4_isVariable_4 ?_
  refine az_icmp_ne (pc := 5) (tgt := 77) C h dX4_isVariable_5 (by decide) (fun _ h => ?_) (fun _ h => ?_)
  · refine az_ik0 (pc := 77) C dX4_isVariable_77 ?_
    obtain rfl := Option.some.inj h
    exact az_zreturn (pc := 78) C (by decide) dX4_isVariable_78 rfl
  refine az_al0 (pc := 8) C rfl rfl dX4_isVariable_8 ?_
  refine az_getI (pc := 9) C fl_X4_44 rfl dX4_isVariable_9 ?_
  refine az_sk2606 (pc := 12) C dX4_isVariable_12 ?_
  refine az_icmp_eq (pc := 15) (tgt := 77) C h dX4_isVariable_15 (by decide) (fun _ h => ?_) (fun _ h => ?_)
  · refine az_ik0 (pc := 77) C dX4_isVariable_77 ?_
    obtain rfl := Option.some.inj h
    exact az_zreturn (pc := 78) C (by decide) dX4_isVariable_78 rfl
  refine az_al0 (pc := 18) C rfl rfl dX4_isVariable_18 ?_
  refine az_getI (pc := 19) C fl_X4_44 rfl dX4_isVariable_19 ?_
  refine az_ldc (pc := 22) (x := 307058) C ct_X4_87 dX4_isVariable_22 (by decide) ?_
  refine az_icmp_eq (pc := 24) (tgt := 77) C h dX4_isVariable_24 (by decide) (fun _ h => ?_) (fun _ h => ?_)
  · refine az_ik0 (pc := 77) C dX4_isVariable_77 ?_
    obtain rfl := Option.some.inj h
    exact az_zreturn (pc := 78) C (by decide) dX4_isVariable_78 rfl
  refine az_al0 (pc := 27) C rfl rfl dX4_isVariable_27 ?_
  refine az_getI (pc := 28) C fl_X4_44 rfl dX4_isVariable_28 ?_
  refine az_ldc (pc := 31) (x := 49733248) C ct_X4_88 dX4_isVariable_31 (by decide) ?_
  refine az_icmp_eq (pc := 33) (tgt := 77) C h dX4_isVariable_33 (by decide) (fun _ h => ?_) (fun _ h => ?_)
  · refine az_ik0 (pc := 77) C dX4_isVariable_77 ?_
    obtain rfl := Option.some.inj h
    exact az_zreturn (pc := 78) C (by decide) dX4_isVariable_78 rfl
  refine az_al0 (pc := 36) C rfl rfl dX4_isVariable_36 ?_
  refine az_getI (pc := 37) C fl_X4_44 rfl dX4_isVariable_37 ?_
  refine az_ldc (pc := 40) (x := 40187) C ct_X4_134 dX4_isVariable_40 (by decide) ?_
  refine az_icmp_eq (pc := 42) (tgt := 77) C h dX4_isVariable_42 (by decide) (fun _ h => ?_) (fun _ h => ?_)
  · refine az_ik0 (pc := 77) C dX4_isVariable_77 ?_
    obtain rfl := Option.some.inj h
    exact az_zreturn (pc := 78) C (by decide) dX4_isVariable_78 rfl
  refine az_al0 (pc := 45) C rfl rfl dX4_isVariable_45 ?_
  refine az_getI (pc := 46) C fl_X4_44 rfl dX4_isVariable_46 ?_
  refine az_sk152 (pc := 49) C dX4_isVariable_49 ?_
  refine az_icmp_eq (pc := 52) (tgt := 77) C h dX4_isVariable_52 (by decide) (fun _ h => ?_) (fun _ h => ?_)
  · refine az_ik0 (pc := 77) C dX4_isVariable_77 ?_
    obtain rfl := Option.some.inj h
    exact az_zreturn (pc := 78) C (by decide) dX4_isVariable_78 rfl
  refine az_al0 (pc := 55) C rfl rfl dX4_isVariable_55 ?_
  refine az_getI (pc := 56) C fl_X4_44 rfl dX4_isVariable_56 ?_
  refine az_ldc (pc := 59) (x := 3913421) C ct_X4_109 dX4_isVariable_59 (by decide) ?_
  refine az_icmp_eq (pc := 61) (tgt := 77) C h dX4_isVariable_61 (by decide) (fun _ h => ?_) (fun _ h => ?_)
  · refine az_ik0 (pc := 77) C dX4_isVariable_77 ?_
    obtain rfl := Option.some.inj h
    exact az_zreturn (pc := 78) C (by decide) dX4_isVariable_78 rfl
  refine az_al0 (pc := 64) C rfl rfl dX4_isVariable_64 ?_
  refine az_getI (pc := 65) C fl_X4_44 rfl dX4_isVariable_65 ?_
  refine az_ldc (pc := 68) (x := 453836) C ct_X4_116 dX4_isVariable_68 (by decide) ?_
  refine az_icmp_eq (pc := 70) (tgt := 77) C h dX4_isVariable_70 (by decide) (fun _ h => ?_) (fun _ h => ?_)
  · refine az_ik0 (pc := 77) C dX4_isVariable_77 ?_
    obtain rfl := Option.some.inj h
    exact az_zreturn (pc := 78) C (by decide) dX4_isVariable_78 rfl
  refine az_ik1 (pc := 73) C dX4_isVariable_73 ?_
  refine az_goto (pc := 74) (tgt := 78) C dX4_isVariable_74 (by decide) ?_
  obtain rfl := Option.some.inj h
  exact az_zreturn (pc := 78) C (by decide) dX4_isVariable_78 rfl
set_option maxRecDepth 10000 in
set_option maxHeartbeats 4000000 in
theorem A_X4_isVariable {l : Launch} {d : Nat} (hD : 1 ≤ d) {σ : az_Hp} {v0 : Int} {r : Int} (h : fz_X4_isVariable σ v0 = some r) : az_AC l yX4_isVariable cX4_isVariable 1 (some .boolean) d [(6, v0)] σ (some (0, r), σ) := az_AC.of mt_X4_isVariable rfl rfl rfl (fun Z hZ C => A_X4_isVariable_e C hD h)
theorem dX6_unknownOf_0 : decode cX6_unknownOf 0 = .ok (.iconst 0, 1) := by decide +kernel
theorem dX6_unknownOf_1 : decode cX6_unknownOf 1 = .ok (.istore_n 2, 1) := by decide +kernel
theorem dX6_unknownOf_2 : decode cX6_unknownOf 2 = .ok (.iload_n 2, 1) := by decide +kernel
theorem dX6_unknownOf_3 : decode cX6_unknownOf 3 = .ok (.aload_n 0, 1) := by decide +kernel
theorem dX6_unknownOf_4 : decode cX6_unknownOf 4 = .ok (.getfield 18, 3) := by decide +kernel
theorem dX6_unknownOf_7 : decode cX6_unknownOf 7 = .ok (.if_icmp .ge 21, 3) := by decide +kernel
theorem dX6_unknownOf_10 : decode cX6_unknownOf 10 = .ok (.aload_n 0, 1) := by decide +kernel
theorem dX6_unknownOf_11 : decode cX6_unknownOf 11 = .ok (.getfield 36, 3) := by decide +kernel
theorem dX6_unknownOf_14 : decode cX6_unknownOf 14 = .ok (.iload_n 2, 1) := by decide +kernel
theorem dX6_unknownOf_15 : decode cX6_unknownOf 15 = .ok (.iaload, 1) := by decide +kernel
theorem dX6_unknownOf_16 : decode cX6_unknownOf 16 = .ok (.iload_n 1, 1) := by decide +kernel
theorem dX6_unknownOf_17 : decode cX6_unknownOf 17 = .ok (.if_icmp .ne 5, 3) := by decide +kernel
theorem dX6_unknownOf_20 : decode cX6_unknownOf 20 = .ok (.iload_n 2, 1) := by decide +kernel
theorem dX6_unknownOf_21 : decode cX6_unknownOf 21 = .ok (.ireturn, 1) := by decide +kernel
theorem dX6_unknownOf_22 : decode cX6_unknownOf 22 = .ok (.iinc 2 1, 3) := by decide +kernel
theorem dX6_unknownOf_25 : decode cX6_unknownOf 25 = .ok (.goto (-23), 3) := by decide +kernel
theorem dX6_unknownOf_28 : decode cX6_unknownOf 28 = .ok (.iconst (-1), 1) := by decide +kernel
theorem dX6_unknownOf_29 : decode cX6_unknownOf 29 = .ok (.ireturn, 1) := by decide +kernel
set_option maxRecDepth 10000 in
set_option maxHeartbeats 4000000 in
theorem A_X6_unknownOf_2 {Z : az_Z} {d : Nat} (C : az_C Z yX6_unknownOf cX6_unknownOf 3 (some .int) d) (hD : 1 ≤ d) (n : Nat) (k : Nat) : ∀ {σ : az_Hp} {v0 v1 v2 : Int} {r : Int}, fz_X6_unknownOf_2 n k σ v0 v1 v2 = some r → az_AW Z 3 2 [(8, v0), (0, v1), (0, v2)] [] σ (some (0, r), σ) := by
  have hd1 : 1 ≤ d := by omega
  induction k with
  | zero => intro σ v0 v1 v2 r h; simp [fz_X6_unknownOf_2] at h
  | succ k ih =>
    intro σ v0 v1 v2 r h
    unfold fz_X6_unknownOf_2 at h
    refine az_il2 (pc := 2) C dX6_unknownOf_2 ?_
    refine az_al0 (pc := 3) C rfl rfl dX6_unknownOf_3 ?_
    refine az_getI (pc := 4) C fl_X6_18 rfl dX6_unknownOf_4 ?_
    refine az_icmp_ge (pc := 7) (tgt := 28) C h dX6_unknownOf_7 (by decide) (fun _ h => ?_) (fun _ h => ?_)
    · refine az_ikm1 (pc := 28) C dX6_unknownOf_28 ?_
      obtain rfl := Option.some.inj h
      exact az_ireturn (pc := 29) C dX6_unknownOf_29 rfl
    refine az_al0 (pc := 10) C rfl rfl dX6_unknownOf_10 ?_
    refine az_getR (pc := 11) (c2 := 13) C h fl_X6_36 rfl rfl dX6_unknownOf_11 (fun h => ?_)
    refine az_il2 (pc := 14) C dX6_unknownOf_14 ?_
    refine az_iaload (pc := 15) C h dX6_unknownOf_15 (fun h => ?_)
    refine az_il1 (pc := 16) C dX6_unknownOf_16 ?_
    refine az_icmp_ne (pc := 17) (tgt := 22) C h dX6_unknownOf_17 (by decide) (fun _ h => ?_) (fun _ h => ?_)
    · refine az_ii2 (pc := 22) C az_n1 rfl rfl dX6_unknownOf_22 ?_
      refine az_goto (pc := 25) (tgt := 2) C dX6_unknownOf_25 (by decide) ?_
      exact (ih h)
    refine az_il2 (pc := 20) C dX6_unknownOf_20 ?_
    obtain rfl := Option.some.inj h
    exact az_ireturn (pc := 21) C dX6_unknownOf_21 rfl
set_option maxRecDepth 10000 in
set_option maxHeartbeats 4000000 in
theorem A_X6_unknownOf_e {Z : az_Z} {d : Nat} (C : az_C Z yX6_unknownOf cX6_unknownOf 3 (some .int) d) (hD : 1 ≤ d) (n : Nat) {σ : az_Hp} {v0 v1 : Int} {r : Int} (h : fz_X6_unknownOf n σ v0 v1 = some r) : az_AW Z 3 0 [(8, v0), (0, v1), (31, 0)] [] σ (some (0, r), σ) := by
  have hd1 : 1 ≤ d := by omega
  unfold fz_X6_unknownOf at h
  refine az_ik0 (pc := 0) C dX6_unknownOf_0 ?_
  refine az_is2 (pc := 1) C rfl rfl dX6_unknownOf_1 ?_
  exact (A_X6_unknownOf_2 C hD n n h)
set_option maxRecDepth 10000 in
set_option maxHeartbeats 4000000 in
theorem A_X6_unknownOf {l : Launch} {d : Nat} (hD : 1 ≤ d) (n : Nat) {σ : az_Hp} {v0 v1 : Int} {r : Int} (h : fz_X6_unknownOf n σ v0 v1 = some r) : az_AC l yX6_unknownOf cX6_unknownOf 3 (some .int) d [(8, v0), (0, v1)] σ (some (0, r), σ) := az_AC.of mt_X6_unknownOf rfl rfl rfl (fun Z hZ C => A_X6_unknownOf_e C hD n h)
theorem dX7_add_0 : decode cX7_add 0 = .ok (.aload_n 0, 1) := by decide +kernel
theorem dX7_add_1 : decode cX7_add 1 = .ok (.getfield 9, 3) := by decide +kernel
theorem dX7_add_4 : decode cX7_add 4 = .ok (.aload_n 0, 1) := by decide +kernel
theorem dX7_add_5 : decode cX7_add 5 = .ok (.getfield 21, 3) := by decide +kernel
theorem dX7_add_8 : decode cX7_add 8 = .ok (.arraylength, 1) := by decide +kernel
theorem dX7_add_9 : decode cX7_add 9 = .ok (.if_icmp .lt 5, 3) := by decide +kernel
theorem dX7_add_12 : decode cX7_add 12 = .ok (.iconst 0, 1) := by decide +kernel
theorem dX7_add_13 : decode cX7_add 13 = .ok (.ireturn, 1) := by decide +kernel
theorem dX7_add_14 : decode cX7_add 14 = .ok (.aload_n 0, 1) := by decide +kernel
theorem dX7_add_15 : decode cX7_add 15 = .ok (.getfield 21, 3) := by decide +kernel
theorem dX7_add_18 : decode cX7_add 18 = .ok (.aload_n 0, 1) := by decide +kernel
theorem dX7_add_19 : decode cX7_add 19 = .ok (.getfield 9, 3) := by decide +kernel
theorem dX7_add_22 : decode cX7_add 22 = .ok (.iload_n 1, 1) := by decide +kernel
theorem dX7_add_23 : decode cX7_add 23 = .ok (.iastore, 1) := by decide +kernel
theorem dX7_add_24 : decode cX7_add 24 = .ok (.aload_n 0, 1) := by decide +kernel
theorem dX7_add_25 : decode cX7_add 25 = .ok (.dup, 1) := by decide +kernel
theorem dX7_add_26 : decode cX7_add 26 = .ok (.getfield 9, 3) := by decide +kernel
theorem dX7_add_29 : decode cX7_add 29 = .ok (.iconst 1, 1) := by decide +kernel
theorem dX7_add_30 : decode cX7_add 30 = .ok (.iadd, 1) := by decide +kernel
theorem dX7_add_31 : decode cX7_add 31 = .ok (.putfield 9, 3) := by decide +kernel
theorem dX7_add_34 : decode cX7_add 34 = .ok (.iconst 1, 1) := by decide +kernel
theorem dX7_add_35 : decode cX7_add 35 = .ok (.ireturn, 1) := by decide +kernel
set_option maxRecDepth 10000 in
set_option maxHeartbeats 4000000 in
theorem A_X7_add_e {Z : az_Z} {d : Nat} (C : az_C Z yX7_add cX7_add 2 (some .boolean) d) (hD : 1 ≤ d) {σ : az_Hp} {v0 v1 : Int} {r : (Int × az_Hp)} (h : fz_X7_add σ v0 v1 = some r) : az_AW Z 2 0 [(9, v0), (0, v1)] [] σ (some (0, r.1), r.2) := by
  have hd1 : 1 ≤ d := by omega
  unfold fz_X7_add at h
  refine az_al0 (pc := 0) C rfl rfl dX7_add_0 ?_
  refine az_getI (pc := 1) C fl_X7_9 rfl dX7_add_1 ?_
  refine az_al0 (pc := 4) C rfl rfl dX7_add_4 ?_
  refine az_getR (pc := 5) (c2 := 13) C h fl_X7_21 rfl rfl dX7_add_5 (fun h => ?_)
  refine az_arraylength (pc := 8) (k := 13) C rfl rfl dX7_add_8 ?_
  refine az_icmp_lt (pc := 9) (tgt := 14) C h dX7_add_9 (by decide) (fun _ h => ?_) (fun _ h => ?_)
  · refine az_al0 (pc := 14) C rfl rfl dX7_add_14 ?_
    refine az_getR (pc := 15) (c2 := 13) C h fl_X7_21 rfl rfl dX7_add_15 (fun h => ?_)
    refine az_al0 (pc := 18) C rfl rfl dX7_add_18 ?_
    refine az_getI (pc := 19) C fl_X7_9 rfl dX7_add_19 ?_
    refine az_il1 (pc := 22) C dX7_add_22 ?_
    refine az_iastore (pc := 23) C h dX7_add_23 (fun h => ?_)
    refine az_al0 (pc := 24) C rfl rfl dX7_add_24 ?_
    refine az_dup (pc := 25) C rfl rfl dX7_add_25 ?_
    refine az_getI (pc := 26) C fl_X7_9 rfl dX7_add_26 ?_
    refine az_ik1 (pc := 29) C dX7_add_29 ?_
    refine az_iadd (pc := 30) C dX7_add_30 ?_
    refine az_putI (pc := 31) C fl_X7_9 (Or.inl rfl) rfl dX7_add_31 ?_
    refine az_ik1 (pc := 34) C dX7_add_34 ?_
    obtain rfl := Option.some.inj h
    exact az_zreturn (pc := 35) C (by decide) dX7_add_35 rfl
  refine az_ik0 (pc := 12) C dX7_add_12 ?_
  obtain rfl := Option.some.inj h
  exact az_zreturn (pc := 13) C (by decide) dX7_add_13 rfl
set_option maxRecDepth 10000 in
set_option maxHeartbeats 4000000 in
theorem A_X7_add {l : Launch} {d : Nat} (hD : 1 ≤ d) {σ : az_Hp} {v0 v1 : Int} {r : (Int × az_Hp)} (h : fz_X7_add σ v0 v1 = some r) : az_AC l yX7_add cX7_add 2 (some .boolean) d [(9, v0), (0, v1)] σ (some (0, r.1), r.2) := az_AC.of mt_X7_add rfl rfl rfl (fun Z hZ C => A_X7_add_e C hD h)
theorem dX7_make_0 : decode cX7_make 0 = .ok (.iload_n 2, 1) := by decide +kernel
theorem dX7_make_1 : decode cX7_make 1 = .ok (.iconst 4, 1) := by decide +kernel
theorem dX7_make_2 : decode cX7_make 2 = .ok (.ishl, 1) := by decide +kernel
theorem dX7_make_3 : decode cX7_make 3 = .ok (.iload_n 1, 1) := by decide +kernel
theorem dX7_make_4 : decode cX7_make 4 = .ok (.iconst 2, 1) := by decide +kernel
theorem dX7_make_5 : decode cX7_make 5 = .ok (.ishl, 1) := by decide +kernel
theorem dX7_make_6 : decode cX7_make 6 = .ok (.ior, 1) := by decide +kernel
theorem dX7_make_7 : decode cX7_make 7 = .ok (.iload_n 0, 1) := by decide +kernel
theorem dX7_make_8 : decode cX7_make 8 = .ok (.ior, 1) := by decide +kernel
theorem dX7_make_9 : decode cX7_make 9 = .ok (.ireturn, 1) := by decide +kernel
set_option maxRecDepth 10000 in
set_option maxHeartbeats 4000000 in
theorem A_X7_make_e {Z : az_Z} {d : Nat} (C : az_C Z yX7_make cX7_make 3 (some .int) d) (hD : 1 ≤ d) {σ : az_Hp} {v0 v1 v2 : Int} {r : Int} (h : fz_X7_make σ v0 v1 v2 = some r) : az_AW Z 3 0 [(0, v0), (0, v1), (0, v2)] [] σ (some (0, r), σ) := by
  have hd1 : 1 ≤ d := by omega
  unfold fz_X7_make at h
  refine az_il2 (pc := 0) C dX7_make_0 ?_
  refine az_ik4 (pc := 1) C dX7_make_1 ?_
  refine az_ishl (pc := 2) C dX7_make_2 ?_
  refine az_il1 (pc := 3) C dX7_make_3 ?_
  refine az_ik2 (pc := 4) C dX7_make_4 ?_
  refine az_ishl (pc := 5) C dX7_make_5 ?_
  refine az_ior (pc := 6) C dX7_make_6 ?_
  refine az_il0 (pc := 7) C dX7_make_7 ?_
  refine az_ior (pc := 8) C dX7_make_8 ?_
  obtain rfl := Option.some.inj h
  exact az_ireturn (pc := 9) C dX7_make_9 rfl
set_option maxRecDepth 10000 in
set_option maxHeartbeats 4000000 in
theorem A_X7_make {l : Launch} {d : Nat} (hD : 1 ≤ d) {σ : az_Hp} {v0 v1 v2 : Int} {r : Int} (h : fz_X7_make σ v0 v1 v2 = some r) : az_AC l yX7_make cX7_make 3 (some .int) d [(0, v0), (0, v1), (0, v2)] σ (some (0, r), σ) := az_AC.of mt_X7_make rfl rfl rfl (fun Z hZ C => A_X7_make_e C hD h)
theorem dX4_readUnknown_0 : decode cX4_readUnknown 0 = .ok (.aload_n 1, 1) := by decide +kernel
theorem dX4_readUnknown_1 : decode cX4_readUnknown 1 = .ok (.getfield 169, 3) := by decide +kernel
theorem dX4_readUnknown_4 : decode cX4_readUnknown 4 = .ok (.aload_n 1, 1) := by decide +kernel
theorem dX4_readUnknown_5 : decode cX4_readUnknown 5 = .ok (.getfield 178, 3) := by decide +kernel
theorem dX4_readUnknown_8 : decode cX4_readUnknown 8 = .ok (.arraylength, 1) := by decide +kernel
theorem dX4_readUnknown_9 : decode cX4_readUnknown 9 = .ok (.if_icmp .lt 10, 3) := by decide +kernel
theorem dX4_readUnknown_12 : decode cX4_readUnknown 12 = .ok (.aload_n 0, 1) := by decide +kernel
theorem dX4_readUnknown_13 : decode cX4_readUnknown 13 = .ok (.bipush 6, 2) := by decide +kernel
theorem dX4_readUnknown_15 : decode cX4_readUnknown 15 = .ok (.invokevirtual 84, 3) := by decide +kernel
theorem dX4_readUnknown_18 : decode cX4_readUnknown 18 = .ok (.ireturn, 1) := by decide +kernel
theorem dX4_readUnknown_19 : decode cX4_readUnknown 19 = .ok (.aload_n 0, 1) := by decide +kernel
theorem dX4_readUnknown_20 : decode cX4_readUnknown 20 = .ok (.getfield 28, 3) := by decide +kernel
theorem dX4_readUnknown_23 : decode cX4_readUnknown 23 = .ok (.iconst 3, 1) := by decide +kernel
theorem dX4_readUnknown_24 : decode cX4_readUnknown 24 = .ok (.if_icmp .eq 11, 3) := by decide +kernel
theorem dX4_readUnknown_27 : decode cX4_readUnknown 27 = .ok (.aload_n 0, 1) := by decide +kernel
theorem dX4_readUnknown_28 : decode cX4_readUnknown 28 = .ok (.getfield 28, 3) := by decide +kernel
theorem dX4_readUnknown_31 : decode cX4_readUnknown 31 = .ok (.iconst 4, 1) := by decide +kernel
theorem dX4_readUnknown_32 : decode cX4_readUnknown 32 = .ok (.if_icmp .ne 10, 3) := by decide +kernel
theorem dX4_readUnknown_35 : decode cX4_readUnknown 35 = .ok (.aload_n 0, 1) := by decide +kernel
theorem dX4_readUnknown_36 : decode cX4_readUnknown 36 = .ok (.bipush 7, 2) := by decide +kernel
theorem dX4_readUnknown_38 : decode cX4_readUnknown 38 = .ok (.invokevirtual 84, 3) := by decide +kernel
theorem dX4_readUnknown_41 : decode cX4_readUnknown 41 = .ok (.ireturn, 1) := by decide +kernel
theorem dX4_readUnknown_42 : decode cX4_readUnknown 42 = .ok (.aload_n 0, 1) := by decide +kernel
theorem dX4_readUnknown_43 : decode cX4_readUnknown 43 = .ok (.invokevirtual 127, 3) := by decide +kernel
theorem dX4_readUnknown_46 : decode cX4_readUnknown 46 = .ok (.aload_n 0, 1) := by decide +kernel
theorem dX4_readUnknown_47 : decode cX4_readUnknown 47 = .ok (.getfield 41, 3) := by decide +kernel
theorem dX4_readUnknown_50 : decode cX4_readUnknown 50 = .ok (.iconst 3, 1) := by decide +kernel
theorem dX4_readUnknown_51 : decode cX4_readUnknown 51 = .ok (.if_icmp .eq 9, 3) := by decide +kernel
theorem dX4_readUnknown_54 : decode cX4_readUnknown 54 = .ok (.aload_n 0, 1) := by decide +kernel
theorem dX4_readUnknown_55 : decode cX4_readUnknown 55 = .ok (.iconst 2, 1) := by decide +kernel
theorem dX4_readUnknown_56 : decode cX4_readUnknown 56 = .ok (.invokevirtual 84, 3) := by decide +kernel
theorem dX4_readUnknown_59 : decode cX4_readUnknown 59 = .ok (.ireturn, 1) := by decide +kernel
theorem dX4_readUnknown_60 : decode cX4_readUnknown 60 = .ok (.aload_n 0, 1) := by decide +kernel
theorem dX4_readUnknown_61 : decode cX4_readUnknown 61 = .ok (.getfield 60, 3) := by decide +kernel
theorem dX4_readUnknown_64 : decode cX4_readUnknown 64 = .ok (.aload_n 0, 1) := by decide +kernel
theorem dX4_readUnknown_65 : decode cX4_readUnknown 65 = .ok (.getfield 44, 3) := by decide +kernel
theorem dX4_readUnknown_68 : decode cX4_readUnknown 68 = .ok (.invokevirtual 206, 3) := by decide +kernel
theorem dX4_readUnknown_71 : decode cX4_readUnknown 71 = .ok (.istore_n 2, 1) := by decide +kernel
theorem dX4_readUnknown_72 : decode cX4_readUnknown 72 = .ok (.iload_n 2, 1) := by decide +kernel
theorem dX4_readUnknown_73 : decode cX4_readUnknown 73 = .ok (.iconst (-1), 1) := by decide +kernel
theorem dX4_readUnknown_74 : decode cX4_readUnknown 74 = .ok (.if_icmp .ne 50, 3) := by decide +kernel
theorem dX4_readUnknown_77 : decode cX4_readUnknown 77 = .ok (.aload_n 0, 1) := by decide +kernel
theorem dX4_readUnknown_78 : decode cX4_readUnknown 78 = .ok (.getfield 60, 3) := by decide +kernel
theorem dX4_readUnknown_81 : decode cX4_readUnknown 81 = .ok (.getfield 209, 3) := by decide +kernel
theorem dX4_readUnknown_84 : decode cX4_readUnknown 84 = .ok (.istore_n 2, 1) := by decide +kernel
theorem dX4_readUnknown_85 : decode cX4_readUnknown 85 = .ok (.iload_n 2, 1) := by decide +kernel
theorem dX4_readUnknown_86 : decode cX4_readUnknown 86 = .ok (.bipush 6, 2) := by decide +kernel
theorem dX4_readUnknown_88 : decode cX4_readUnknown 88 = .ok (.if_icmp .lt 10, 3) := by decide +kernel
theorem dX4_readUnknown_91 : decode cX4_readUnknown 91 = .ok (.aload_n 0, 1) := by decide +kernel
theorem dX4_readUnknown_92 : decode cX4_readUnknown 92 = .ok (.bipush 6, 2) := by decide +kernel
theorem dX4_readUnknown_94 : decode cX4_readUnknown 94 = .ok (.invokevirtual 84, 3) := by decide +kernel
theorem dX4_readUnknown_97 : decode cX4_readUnknown 97 = .ok (.ireturn, 1) := by decide +kernel
theorem dX4_readUnknown_98 : decode cX4_readUnknown 98 = .ok (.aload_n 0, 1) := by decide +kernel
theorem dX4_readUnknown_99 : decode cX4_readUnknown 99 = .ok (.getfield 60, 3) := by decide +kernel
theorem dX4_readUnknown_102 : decode cX4_readUnknown 102 = .ok (.getfield 212, 3) := by decide +kernel
theorem dX4_readUnknown_105 : decode cX4_readUnknown 105 = .ok (.iload_n 2, 1) := by decide +kernel
theorem dX4_readUnknown_106 : decode cX4_readUnknown 106 = .ok (.aload_n 0, 1) := by decide +kernel
theorem dX4_readUnknown_107 : decode cX4_readUnknown 107 = .ok (.getfield 44, 3) := by decide +kernel
theorem dX4_readUnknown_110 : decode cX4_readUnknown 110 = .ok (.iastore, 1) := by decide +kernel
theorem dX4_readUnknown_111 : decode cX4_readUnknown 111 = .ok (.aload_n 0, 1) := by decide +kernel
theorem dX4_readUnknown_112 : decode cX4_readUnknown 112 = .ok (.getfield 60, 3) := by decide +kernel
theorem dX4_readUnknown_115 : decode cX4_readUnknown 115 = .ok (.dup, 1) := by decide +kernel
theorem dX4_readUnknown_116 : decode cX4_readUnknown 116 = .ok (.getfield 209, 3) := by decide +kernel
theorem dX4_readUnknown_119 : decode cX4_readUnknown 119 = .ok (.iconst 1, 1) := by decide +kernel
theorem dX4_readUnknown_120 : decode cX4_readUnknown 120 = .ok (.iadd, 1) := by decide +kernel
theorem dX4_readUnknown_121 : decode cX4_readUnknown 121 = .ok (.putfield 209, 3) := by decide +kernel
theorem dX4_readUnknown_124 : decode cX4_readUnknown 124 = .ok (.aload_n 1, 1) := by decide +kernel
theorem dX4_readUnknown_125 : decode cX4_readUnknown 125 = .ok (.iconst 3, 1) := by decide +kernel
theorem dX4_readUnknown_126 : decode cX4_readUnknown 126 = .ok (.iconst 0, 1) := by decide +kernel
theorem dX4_readUnknown_127 : decode cX4_readUnknown 127 = .ok (.iload_n 2, 1) := by decide +kernel
theorem dX4_readUnknown_128 : decode cX4_readUnknown 128 = .ok (.invokestatic 213, 3) := by decide +kernel
theorem dX4_readUnknown_131 : decode cX4_readUnknown 131 = .ok (.invokevirtual 203, 3) := by decide +kernel
theorem dX4_readUnknown_134 : decode cX4_readUnknown 134 = .ok (.pop, 1) := by decide +kernel
theorem dX4_readUnknown_135 : decode cX4_readUnknown 135 = .ok (.aload_n 0, 1) := by decide +kernel
theorem dX4_readUnknown_136 : decode cX4_readUnknown 136 = .ok (.invokevirtual 127, 3) := by decide +kernel
theorem dX4_readUnknown_139 : decode cX4_readUnknown 139 = .ok (.iconst 1, 1) := by decide +kernel
theorem dX4_readUnknown_140 : decode cX4_readUnknown 140 = .ok (.ireturn, 1) := by decide +kernel
set_option maxRecDepth 10000 in
set_option maxHeartbeats 4000000 in
theorem A_X4_readUnknown_124 {Z : az_Z} {d : Nat} (C : az_C Z yX4_readUnknown cX4_readUnknown 3 (some .boolean) d) (hD : 2 ≤ d) (n : Nat) {σ : az_Hp} {v0 v1 v2 : Int} {r : (Int × az_Hp)} (h : fz_X4_readUnknown_124 n σ v0 v1 v2 = some r) : az_AW Z 3 124 [(6, v0), (9, v1), (0, v2)] [] σ (some (0, r.1), r.2) := by
  have hd1 : 1 ≤ d := by omega
  unfold fz_X4_readUnknown_124 at h
  refine az_al1 (pc := 124) C rfl rfl dX4_readUnknown_124 ?_
  refine az_ik3 (pc := 125) C dX4_readUnknown_125 ?_
  refine az_ik0 (pc := 126) C dX4_readUnknown_126 ?_
  refine az_il2 (pc := 127) C dX4_readUnknown_127 ?_
  refine az_cS3pi (pc := 128) C hd1 h ms_X7_make ml_X4_213 rfl (fun x hx => A_X7_make (by omega) hx) dX4_readUnknown_128 (fun r1 h => ?_)
  refine az_cV1ii (pc := 131) (c := 7) C hd1 h mv_X7_add ml_X4_203 rfl (fun x hx => A_X7_add (by omega) hx) dX4_readUnknown_131 (fun r2 h => ?_)
  refine az_pop (pc := 134) C rfl rfl dX4_readUnknown_134 ?_
  refine az_al0 (pc := 135) C rfl rfl dX4_readUnknown_135 ?_
  refine az_cV0v (pc := 136) (c := 4) C hd1 h mv_X4_next ml_X4_127 rfl (fun x hx => A_X4_next (by omega) hx) dX4_readUnknown_136 (fun r3 h => ?_)
  refine az_ik1 (pc := 139) C dX4_readUnknown_139 ?_
  obtain rfl := Option.some.inj h
  exact az_zreturn (pc := 140) C (by decide) dX4_readUnknown_140 rfl
set_option maxRecDepth 10000 in
set_option maxHeartbeats 4000000 in
theorem A_X4_readUnknown_e {Z : az_Z} {d : Nat} (C : az_C Z yX4_readUnknown cX4_readUnknown 3 (some .boolean) d) (hD : 2 ≤ d) (n : Nat) {σ : az_Hp} {v0 v1 : Int} {r : (Int × az_Hp)} (h : fz_X4_readUnknown n σ v0 v1 = some r) : az_AW Z 3 0 [(6, v0), (9, v1), (31, 0)] [] σ (some (0, r.1), r.2) := by
  have hd1 : 1 ≤ d := by omega
  unfold fz_X4_readUnknown at h
  refine az_al1 (pc := 0) C rfl rfl dX4_readUnknown_0 ?_
  refine az_getI (pc := 1) C fl_X4_169 rfl dX4_readUnknown_1 ?_
  refine az_al1 (pc := 4) C rfl rfl dX4_readUnknown_4 ?_
  refine az_getR (pc := 5) (c2 := 13) C h fl_X4_178 rfl rfl dX4_readUnknown_5 (fun h => ?_)
  refine az_arraylength (pc := 8) (k := 13) C rfl rfl dX4_readUnknown_8 ?_
  refine az_icmp_lt (pc := 9) (tgt := 19) C h dX4_readUnknown_9 (by decide) (fun _ h => ?_) (fun _ h => ?_)
  · refine az_al0 (pc := 19) C rfl rfl dX4_readUnknown_19 ?_
    refine az_getI (pc := 20) C fl_X4_28 rfl dX4_readUnknown_20 ?_
    refine az_ik3 (pc := 23) C dX4_readUnknown_23 ?_
    refine az_icmp_eq (pc := 24) (tgt := 35) C h dX4_readUnknown_24 (by decide) (fun _ h => ?_) (fun _ h => ?_)
    · refine az_al0 (pc := 35) C rfl rfl dX4_readUnknown_35 ?_
      refine az_bk7 (pc := 36) C dX4_readUnknown_36 ?_
      refine az_cV1ii (pc := 38) (c := 4) C hd1 h mv_X4_fail ml_X4_84 rfl (fun x hx => A_X4_fail (by omega) hx) dX4_readUnknown_38 (fun r2 h => ?_)
      obtain ⟨hz, h⟩ := az_zif h
      obtain rfl := Option.some.inj h
      exact az_zreturn (pc := 41) C hz dX4_readUnknown_41 rfl
    refine az_al0 (pc := 27) C rfl rfl dX4_readUnknown_27 ?_
    refine az_getI (pc := 28) C fl_X4_28 rfl dX4_readUnknown_28 ?_
    refine az_ik4 (pc := 31) C dX4_readUnknown_31 ?_
    refine az_icmp_ne (pc := 32) (tgt := 42) C h dX4_readUnknown_32 (by decide) (fun _ h => ?_) (fun _ h => ?_)
    · refine az_al0 (pc := 42) C rfl rfl dX4_readUnknown_42 ?_
      refine az_cV0v (pc := 43) (c := 4) C hd1 h mv_X4_next ml_X4_127 rfl (fun x hx => A_X4_next (by omega) hx) dX4_readUnknown_43 (fun r3 h => ?_)
      refine az_al0 (pc := 46) C rfl rfl dX4_readUnknown_46 ?_
      refine az_getI (pc := 47) C fl_X4_41 rfl dX4_readUnknown_47 ?_
      refine az_ik3 (pc := 50) C dX4_readUnknown_50 ?_
      refine az_icmp_eq (pc := 51) (tgt := 60) C h dX4_readUnknown_51 (by decide) (fun _ h => ?_) (fun _ h => ?_)
      · refine az_al0 (pc := 60) C rfl rfl dX4_readUnknown_60 ?_
        refine az_getR (pc := 61) (c2 := 6) C h fl_X4_60 rfl rfl dX4_readUnknown_61 (fun h => ?_)
        refine az_al0 (pc := 64) C rfl rfl dX4_readUnknown_64 ?_
        refine az_getI (pc := 65) C fl_X4_44 rfl dX4_readUnknown_65 ?_
        refine az_cV1pi (pc := 68) (c := 6) C hd1 h mv_X6_unknownOf ml_X4_206 rfl (fun x hx => A_X6_unknownOf (by omega) n hx) dX4_readUnknown_68 (fun r5 h => ?_)
        refine az_is2 (pc := 71) C rfl rfl dX4_readUnknown_71 ?_
        refine az_il2 (pc := 72) C dX4_readUnknown_72 ?_
        refine az_ikm1 (pc := 73) C dX4_readUnknown_73 ?_
        refine az_icmp_ne (pc := 74) (tgt := 124) C h dX4_readUnknown_74 (by decide) (fun _ h => ?_) (fun _ h => ?_)
        · exact (A_X4_readUnknown_124 C hD n h)
        refine az_al0 (pc := 77) C rfl rfl dX4_readUnknown_77 ?_
        refine az_getR (pc := 78) (c2 := 6) C h fl_X4_60 rfl rfl dX4_readUnknown_78 (fun h => ?_)
        refine az_getI (pc := 81) C fl_X4_209 rfl dX4_readUnknown_81 ?_
        refine az_is2 (pc := 84) C rfl rfl dX4_readUnknown_84 ?_
        refine az_il2 (pc := 85) C dX4_readUnknown_85 ?_
        refine az_bk6 (pc := 86) C dX4_readUnknown_86 ?_
        refine az_icmp_lt (pc := 88) (tgt := 98) C h dX4_readUnknown_88 (by decide) (fun _ h => ?_) (fun _ h => ?_)
        · refine az_al0 (pc := 98) C rfl rfl dX4_readUnknown_98 ?_
          refine az_getR (pc := 99) (c2 := 6) C h fl_X4_60 rfl rfl dX4_readUnknown_99 (fun h => ?_)
          refine az_getR (pc := 102) (c2 := 13) C h fl_X4_212 rfl rfl dX4_readUnknown_102 (fun h => ?_)
          refine az_il2 (pc := 105) C dX4_readUnknown_105 ?_
          refine az_al0 (pc := 106) C rfl rfl dX4_readUnknown_106 ?_
          refine az_getI (pc := 107) C fl_X4_44 rfl dX4_readUnknown_107 ?_
          refine az_iastore (pc := 110) C h dX4_readUnknown_110 (fun h => ?_)
          refine az_al0 (pc := 111) C rfl rfl dX4_readUnknown_111 ?_
          refine az_getR (pc := 112) (c2 := 6) C h fl_X4_60 rfl rfl dX4_readUnknown_112 (fun h => ?_)
          refine az_dup (pc := 115) C rfl rfl dX4_readUnknown_115 ?_
          refine az_getI (pc := 116) C fl_X4_209 rfl dX4_readUnknown_116 ?_
          refine az_ik1 (pc := 119) C dX4_readUnknown_119 ?_
          refine az_iadd (pc := 120) C dX4_readUnknown_120 ?_
          refine az_putI (pc := 121) C fl_X4_209 (Or.inl rfl) rfl dX4_readUnknown_121 ?_
          exact (A_X4_readUnknown_124 C hD n h)
        refine az_al0 (pc := 91) C rfl rfl dX4_readUnknown_91 ?_
        refine az_bk6 (pc := 92) C dX4_readUnknown_92 ?_
        refine az_cV1ii (pc := 94) (c := 4) C hd1 h mv_X4_fail ml_X4_84 rfl (fun x hx => A_X4_fail (by omega) hx) dX4_readUnknown_94 (fun r11 h => ?_)
        obtain ⟨hz, h⟩ := az_zif h
        obtain rfl := Option.some.inj h
        exact az_zreturn (pc := 97) C hz dX4_readUnknown_97 rfl
      refine az_al0 (pc := 54) C rfl rfl dX4_readUnknown_54 ?_
      refine az_ik2 (pc := 55) C dX4_readUnknown_55 ?_
      refine az_cV1ii (pc := 56) (c := 4) C hd1 h mv_X4_fail ml_X4_84 rfl (fun x hx => A_X4_fail (by omega) hx) dX4_readUnknown_56 (fun r12 h => ?_)
      obtain ⟨hz, h⟩ := az_zif h
      obtain rfl := Option.some.inj h
      exact az_zreturn (pc := 59) C hz dX4_readUnknown_59 rfl
    refine az_al0 (pc := 35) C rfl rfl dX4_readUnknown_35 ?_
    refine az_bk7 (pc := 36) C dX4_readUnknown_36 ?_
    refine az_cV1ii (pc := 38) (c := 4) C hd1 h mv_X4_fail ml_X4_84 rfl (fun x hx => A_X4_fail (by omega) hx) dX4_readUnknown_38 (fun r13 h => ?_)
    obtain ⟨hz, h⟩ := az_zif h
    obtain rfl := Option.some.inj h
    exact az_zreturn (pc := 41) C hz dX4_readUnknown_41 rfl
  refine az_al0 (pc := 12) C rfl rfl dX4_readUnknown_12 ?_
  refine az_bk6 (pc := 13) C dX4_readUnknown_13 ?_
  refine az_cV1ii (pc := 15) (c := 4) C hd1 h mv_X4_fail ml_X4_84 rfl (fun x hx => A_X4_fail (by omega) hx) dX4_readUnknown_15 (fun r14 h => ?_)
  obtain ⟨hz, h⟩ := az_zif h
  obtain rfl := Option.some.inj h
  exact az_zreturn (pc := 18) C hz dX4_readUnknown_18 rfl
set_option maxRecDepth 10000 in
set_option maxHeartbeats 4000000 in
theorem A_X4_readUnknown {l : Launch} {d : Nat} (hD : 2 ≤ d) (n : Nat) {σ : az_Hp} {v0 v1 : Int} {r : (Int × az_Hp)} (h : fz_X4_readUnknown n σ v0 v1 = some r) : az_AC l yX4_readUnknown cX4_readUnknown 3 (some .boolean) d [(6, v0), (9, v1)] σ (some (0, r.1), r.2) := az_AC.of mt_X4_readUnknown rfl rfl rfl (fun Z hZ C => A_X4_readUnknown_e C hD n h)
theorem dX9_codeOf_0 : decode cX9_codeOf 0 = .ok (.iconst 0, 1) := by decide +kernel
theorem dX9_codeOf_1 : decode cX9_codeOf 1 = .ok (.istore_n 2, 1) := by decide +kernel
theorem dX9_codeOf_2 : decode cX9_codeOf 2 = .ok (.iload_n 2, 1) := by decide +kernel
theorem dX9_codeOf_3 : decode cX9_codeOf 3 = .ok (.aload_n 0, 1) := by decide +kernel
theorem dX9_codeOf_4 : decode cX9_codeOf 4 = .ok (.getfield 9, 3) := by decide +kernel
theorem dX9_codeOf_7 : decode cX9_codeOf 7 = .ok (.if_icmp .ge 26, 3) := by decide +kernel
theorem dX9_codeOf_10 : decode cX9_codeOf 10 = .ok (.aload_n 0, 1) := by decide +kernel
theorem dX9_codeOf_11 : decode cX9_codeOf 11 = .ok (.getfield 21, 3) := by decide +kernel
theorem dX9_codeOf_14 : decode cX9_codeOf 14 = .ok (.iload_n 2, 1) := by decide +kernel
theorem dX9_codeOf_15 : decode cX9_codeOf 15 = .ok (.iaload, 1) := by decide +kernel
theorem dX9_codeOf_16 : decode cX9_codeOf 16 = .ok (.iload_n 1, 1) := by decide +kernel
theorem dX9_codeOf_17 : decode cX9_codeOf 17 = .ok (.if_icmp .ne 10, 3) := by decide +kernel
theorem dX9_codeOf_20 : decode cX9_codeOf 20 = .ok (.aload_n 0, 1) := by decide +kernel
theorem dX9_codeOf_21 : decode cX9_codeOf 21 = .ok (.getfield 25, 3) := by decide +kernel
theorem dX9_codeOf_24 : decode cX9_codeOf 24 = .ok (.iload_n 2, 1) := by decide +kernel
theorem dX9_codeOf_25 : decode cX9_codeOf 25 = .ok (.iaload, 1) := by decide +kernel
theorem dX9_codeOf_26 : decode cX9_codeOf 26 = .ok (.ireturn, 1) := by decide +kernel
theorem dX9_codeOf_27 : decode cX9_codeOf 27 = .ok (.iinc 2 1, 3) := by decide +kernel
theorem dX9_codeOf_30 : decode cX9_codeOf 30 = .ok (.goto (-28), 3) := by decide +kernel
theorem dX9_codeOf_33 : decode cX9_codeOf 33 = .ok (.iconst 0, 1) := by decide +kernel
theorem dX9_codeOf_34 : decode cX9_codeOf 34 = .ok (.istore_n 2, 1) := by decide +kernel
theorem dX9_codeOf_35 : decode cX9_codeOf 35 = .ok (.iload_n 2, 1) := by decide +kernel
theorem dX9_codeOf_36 : decode cX9_codeOf 36 = .ok (.aload_n 0, 1) := by decide +kernel
theorem dX9_codeOf_37 : decode cX9_codeOf 37 = .ok (.getfield 15, 3) := by decide +kernel
theorem dX9_codeOf_40 : decode cX9_codeOf 40 = .ok (.if_icmp .ge 26, 3) := by decide +kernel
theorem dX9_codeOf_43 : decode cX9_codeOf 43 = .ok (.aload_n 0, 1) := by decide +kernel
theorem dX9_codeOf_44 : decode cX9_codeOf 44 = .ok (.getfield 28, 3) := by decide +kernel
theorem dX9_codeOf_47 : decode cX9_codeOf 47 = .ok (.iload_n 2, 1) := by decide +kernel
theorem dX9_codeOf_48 : decode cX9_codeOf 48 = .ok (.iaload, 1) := by decide +kernel
theorem dX9_codeOf_49 : decode cX9_codeOf 49 = .ok (.iload_n 1, 1) := by decide +kernel
theorem dX9_codeOf_50 : decode cX9_codeOf 50 = .ok (.if_icmp .ne 10, 3) := by decide +kernel
theorem dX9_codeOf_53 : decode cX9_codeOf 53 = .ok (.aload_n 0, 1) := by decide +kernel
theorem dX9_codeOf_54 : decode cX9_codeOf 54 = .ok (.getfield 31, 3) := by decide +kernel
theorem dX9_codeOf_57 : decode cX9_codeOf 57 = .ok (.iload_n 2, 1) := by decide +kernel
theorem dX9_codeOf_58 : decode cX9_codeOf 58 = .ok (.iaload, 1) := by decide +kernel
theorem dX9_codeOf_59 : decode cX9_codeOf 59 = .ok (.ireturn, 1) := by decide +kernel
theorem dX9_codeOf_60 : decode cX9_codeOf 60 = .ok (.iinc 2 1, 3) := by decide +kernel
theorem dX9_codeOf_63 : decode cX9_codeOf 63 = .ok (.goto (-28), 3) := by decide +kernel
theorem dX9_codeOf_66 : decode cX9_codeOf 66 = .ok (.iconst (-1), 1) := by decide +kernel
theorem dX9_codeOf_67 : decode cX9_codeOf 67 = .ok (.ireturn, 1) := by decide +kernel
set_option maxRecDepth 10000 in
set_option maxHeartbeats 4000000 in
theorem A_X9_codeOf_35 {Z : az_Z} {d : Nat} (C : az_C Z yX9_codeOf cX9_codeOf 3 (some .int) d) (hD : 1 ≤ d) (n : Nat) (k : Nat) : ∀ {σ : az_Hp} {v0 v1 v2 : Int} {r : Int}, fz_X9_codeOf_35 n k σ v0 v1 v2 = some r → az_AW Z 3 35 [(11, v0), (0, v1), (0, v2)] [] σ (some (0, r), σ) := by
  have hd1 : 1 ≤ d := by omega
  induction k with
  | zero => intro σ v0 v1 v2 r h; simp [fz_X9_codeOf_35] at h
  | succ k ih =>
    intro σ v0 v1 v2 r h
    unfold fz_X9_codeOf_35 at h
    refine az_il2 (pc := 35) C dX9_codeOf_35 ?_
    refine az_al0 (pc := 36) C rfl rfl dX9_codeOf_36 ?_
    refine az_getI (pc := 37) C fl_X9_15 rfl dX9_codeOf_37 ?_
    refine az_icmp_ge (pc := 40) (tgt := 66) C h dX9_codeOf_40 (by decide) (fun _ h => ?_) (fun _ h => ?_)
    · refine az_ikm1 (pc := 66) C dX9_codeOf_66 ?_
      obtain rfl := Option.some.inj h
      exact az_ireturn (pc := 67) C dX9_codeOf_67 rfl
    refine az_al0 (pc := 43) C rfl rfl dX9_codeOf_43 ?_
    refine az_getR (pc := 44) (c2 := 13) C h fl_X9_28 rfl rfl dX9_codeOf_44 (fun h => ?_)
    refine az_il2 (pc := 47) C dX9_codeOf_47 ?_
    refine az_iaload (pc := 48) C h dX9_codeOf_48 (fun h => ?_)
    refine az_il1 (pc := 49) C dX9_codeOf_49 ?_
    refine az_icmp_ne (pc := 50) (tgt := 60) C h dX9_codeOf_50 (by decide) (fun _ h => ?_) (fun _ h => ?_)
    · refine az_ii2 (pc := 60) C az_n1 rfl rfl dX9_codeOf_60 ?_
      refine az_goto (pc := 63) (tgt := 35) C dX9_codeOf_63 (by decide) ?_
      exact (ih h)
    refine az_al0 (pc := 53) C rfl rfl dX9_codeOf_53 ?_
    refine az_getR (pc := 54) (c2 := 13) C h fl_X9_31 rfl rfl dX9_codeOf_54 (fun h => ?_)
    refine az_il2 (pc := 57) C dX9_codeOf_57 ?_
    refine az_iaload (pc := 58) C h dX9_codeOf_58 (fun h => ?_)
    obtain rfl := Option.some.inj h
    exact az_ireturn (pc := 59) C dX9_codeOf_59 rfl
set_option maxRecDepth 10000 in
set_option maxHeartbeats 4000000 in
theorem A_X9_codeOf_2 {Z : az_Z} {d : Nat} (C : az_C Z yX9_codeOf cX9_codeOf 3 (some .int) d) (hD : 1 ≤ d) (n : Nat) (k : Nat) : ∀ {σ : az_Hp} {v0 v1 v2 : Int} {r : Int}, fz_X9_codeOf_2 n k σ v0 v1 v2 = some r → az_AW Z 3 2 [(11, v0), (0, v1), (0, v2)] [] σ (some (0, r), σ) := by
  have hd1 : 1 ≤ d := by omega
  induction k with
  | zero => intro σ v0 v1 v2 r h; simp [fz_X9_codeOf_2] at h
  | succ k ih =>
    intro σ v0 v1 v2 r h
    unfold fz_X9_codeOf_2 at h
    refine az_il2 (pc := 2) C dX9_codeOf_2 ?_
    refine az_al0 (pc := 3) C rfl rfl dX9_codeOf_3 ?_
    refine az_getI (pc := 4) C fl_X9_9 rfl dX9_codeOf_4 ?_
    refine az_icmp_ge (pc := 7) (tgt := 33) C h dX9_codeOf_7 (by decide) (fun _ h => ?_) (fun _ h => ?_)
    · refine az_ik0 (pc := 33) C dX9_codeOf_33 ?_
      refine az_is2 (pc := 34) C rfl rfl dX9_codeOf_34 ?_
      exact (A_X9_codeOf_35 C hD n n h)
    refine az_al0 (pc := 10) C rfl rfl dX9_codeOf_10 ?_
    refine az_getR (pc := 11) (c2 := 13) C h fl_X9_21 rfl rfl dX9_codeOf_11 (fun h => ?_)
    refine az_il2 (pc := 14) C dX9_codeOf_14 ?_
    refine az_iaload (pc := 15) C h dX9_codeOf_15 (fun h => ?_)
    refine az_il1 (pc := 16) C dX9_codeOf_16 ?_
    refine az_icmp_ne (pc := 17) (tgt := 27) C h dX9_codeOf_17 (by decide) (fun _ h => ?_) (fun _ h => ?_)
    · refine az_ii2 (pc := 27) C az_n1 rfl rfl dX9_codeOf_27 ?_
      refine az_goto (pc := 30) (tgt := 2) C dX9_codeOf_30 (by decide) ?_
      exact (ih h)
    refine az_al0 (pc := 20) C rfl rfl dX9_codeOf_20 ?_
    refine az_getR (pc := 21) (c2 := 13) C h fl_X9_25 rfl rfl dX9_codeOf_21 (fun h => ?_)
    refine az_il2 (pc := 24) C dX9_codeOf_24 ?_
    refine az_iaload (pc := 25) C h dX9_codeOf_25 (fun h => ?_)
    obtain rfl := Option.some.inj h
    exact az_ireturn (pc := 26) C dX9_codeOf_26 rfl
set_option maxRecDepth 10000 in
set_option maxHeartbeats 4000000 in
theorem A_X9_codeOf_e {Z : az_Z} {d : Nat} (C : az_C Z yX9_codeOf cX9_codeOf 3 (some .int) d) (hD : 1 ≤ d) (n : Nat) {σ : az_Hp} {v0 v1 : Int} {r : Int} (h : fz_X9_codeOf n σ v0 v1 = some r) : az_AW Z 3 0 [(11, v0), (0, v1), (31, 0)] [] σ (some (0, r), σ) := by
  have hd1 : 1 ≤ d := by omega
  unfold fz_X9_codeOf at h
  refine az_ik0 (pc := 0) C dX9_codeOf_0 ?_
  refine az_is2 (pc := 1) C rfl rfl dX9_codeOf_1 ?_
  exact (A_X9_codeOf_2 C hD n n h)
set_option maxRecDepth 10000 in
set_option maxHeartbeats 4000000 in
theorem A_X9_codeOf {l : Launch} {d : Nat} (hD : 1 ≤ d) (n : Nat) {σ : az_Hp} {v0 v1 : Int} {r : Int} (h : fz_X9_codeOf n σ v0 v1 = some r) : az_AC l yX9_codeOf cX9_codeOf 3 (some .int) d [(11, v0), (0, v1)] σ (some (0, r), σ) := az_AC.of mt_X9_codeOf rfl rfl rfl (fun Z hZ C => A_X9_codeOf_e C hD n h)
theorem dX4_readNode_0 : decode cX4_readNode 0 = .ok (.aload_n 0, 1) := by decide +kernel
theorem dX4_readNode_1 : decode cX4_readNode 1 = .ok (.getfield 41, 3) := by decide +kernel
theorem dX4_readNode_4 : decode cX4_readNode 4 = .ok (.bipush 63, 2) := by decide +kernel
theorem dX4_readNode_6 : decode cX4_readNode 6 = .ok (.if_icmp .ne 17, 3) := by decide +kernel
theorem dX4_readNode_9 : decode cX4_readNode 9 = .ok (.aload_n 0, 1) := by decide +kernel
theorem dX4_readNode_10 : decode cX4_readNode 10 = .ok (.getfield 28, 3) := by decide +kernel
theorem dX4_readNode_13 : decode cX4_readNode 13 = .ok (.iconst 3, 1) := by decide +kernel
theorem dX4_readNode_14 : decode cX4_readNode 14 = .ok (.if_icmp .lt 9, 3) := by decide +kernel
theorem dX4_readNode_17 : decode cX4_readNode 17 = .ok (.aload_n 0, 1) := by decide +kernel
theorem dX4_readNode_18 : decode cX4_readNode 18 = .ok (.aload_n 1, 1) := by decide +kernel
theorem dX4_readNode_19 : decode cX4_readNode 19 = .ok (.invokevirtual 190, 3) := by decide +kernel
theorem dX4_readNode_22 : decode cX4_readNode 22 = .ok (.ireturn, 1) := by decide +kernel
theorem dX4_readNode_23 : decode cX4_readNode 23 = .ok (.aload_n 0, 1) := by decide +kernel
theorem dX4_readNode_24 : decode cX4_readNode 24 = .ok (.getfield 41, 3) := by decide +kernel
theorem dX4_readNode_27 : decode cX4_readNode 27 = .ok (.iconst 2, 1) := by decide +kernel
theorem dX4_readNode_28 : decode cX4_readNode 28 = .ok (.if_icmp .ne 7, 3) := by decide +kernel
theorem dX4_readNode_31 : decode cX4_readNode 31 = .ok (.iconst 1, 1) := by decide +kernel
theorem dX4_readNode_32 : decode cX4_readNode 32 = .ok (.goto 4, 3) := by decide +kernel
theorem dX4_readNode_35 : decode cX4_readNode 35 = .ok (.iconst 0, 1) := by decide +kernel
theorem dX4_readNode_36 : decode cX4_readNode 36 = .ok (.istore_n 2, 1) := by decide +kernel
theorem dX4_readNode_37 : decode cX4_readNode 37 = .ok (.iload_n 2, 1) := by decide +kernel
theorem dX4_readNode_38 : decode cX4_readNode 38 = .ok (.ifCond .ne 16, 3) := by decide +kernel
theorem dX4_readNode_41 : decode cX4_readNode 41 = .ok (.aload_n 0, 1) := by decide +kernel
theorem dX4_readNode_42 : decode cX4_readNode 42 = .ok (.invokevirtual 193, 3) := by decide +kernel
theorem dX4_readNode_45 : decode cX4_readNode 45 = .ok (.ifCond .ne 9, 3) := by decide +kernel
theorem dX4_readNode_48 : decode cX4_readNode 48 = .ok (.aload_n 0, 1) := by decide +kernel
theorem dX4_readNode_49 : decode cX4_readNode 49 = .ok (.iconst 2, 1) := by decide +kernel
theorem dX4_readNode_50 : decode cX4_readNode 50 = .ok (.invokevirtual 84, 3) := by decide +kernel
theorem dX4_readNode_53 : decode cX4_readNode 53 = .ok (.ireturn, 1) := by decide +kernel
theorem dX4_readNode_54 : decode cX4_readNode 54 = .ok (.iload_n 2, 1) := by decide +kernel
theorem dX4_readNode_55 : decode cX4_readNode 55 = .ok (.ifCond .eq 17, 3) := by decide +kernel
theorem dX4_readNode_58 : decode cX4_readNode 58 = .ok (.aload_n 0, 1) := by decide +kernel
theorem dX4_readNode_59 : decode cX4_readNode 59 = .ok (.getfield 56, 3) := by decide +kernel
theorem dX4_readNode_62 : decode cX4_readNode 62 = .ok (.aload_n 0, 1) := by decide +kernel
theorem dX4_readNode_63 : decode cX4_readNode 63 = .ok (.getfield 44, 3) := by decide +kernel
theorem dX4_readNode_66 : decode cX4_readNode 66 = .ok (.invokevirtual 130, 3) := by decide +kernel
theorem dX4_readNode_69 : decode cX4_readNode 69 = .ok (.goto 11, 3) := by decide +kernel
theorem dX4_readNode_72 : decode cX4_readNode 72 = .ok (.aload_n 0, 1) := by decide +kernel
theorem dX4_readNode_73 : decode cX4_readNode 73 = .ok (.aload_n 0, 1) := by decide +kernel
theorem dX4_readNode_74 : decode cX4_readNode 74 = .ok (.getfield 44, 3) := by decide +kernel
theorem dX4_readNode_77 : decode cX4_readNode 77 = .ok (.invokevirtual 197, 3) := by decide +kernel
theorem dX4_readNode_80 : decode cX4_readNode 80 = .ok (.istore_n 3, 1) := by decide +kernel
theorem dX4_readNode_81 : decode cX4_readNode 81 = .ok (.iload_n 3, 1) := by decide +kernel
theorem dX4_readNode_82 : decode cX4_readNode 82 = .ok (.iconst (-1), 1) := by decide +kernel
theorem dX4_readNode_83 : decode cX4_readNode 83 = .ok (.if_icmp .ne 21, 3) := by decide +kernel
theorem dX4_readNode_86 : decode cX4_readNode 86 = .ok (.iload_n 2, 1) := by decide +kernel
theorem dX4_readNode_87 : decode cX4_readNode 87 = .ok (.ifCond .ne 11, 3) := by decide +kernel
theorem dX4_readNode_90 : decode cX4_readNode 90 = .ok (.aload_n 0, 1) := by decide +kernel
theorem dX4_readNode_91 : decode cX4_readNode 91 = .ok (.getfield 28, 3) := by decide +kernel
theorem dX4_readNode_94 : decode cX4_readNode 94 = .ok (.iconst 1, 1) := by decide +kernel
theorem dX4_readNode_95 : decode cX4_readNode 95 = .ok (.if_icmp .ne 9, 3) := by decide +kernel
theorem dX4_readNode_98 : decode cX4_readNode 98 = .ok (.aload_n 0, 1) := by decide +kernel
theorem dX4_readNode_99 : decode cX4_readNode 99 = .ok (.iconst 3, 1) := by decide +kernel
theorem dX4_readNode_100 : decode cX4_readNode 100 = .ok (.invokevirtual 84, 3) := by decide +kernel
theorem dX4_readNode_103 : decode cX4_readNode 103 = .ok (.ireturn, 1) := by decide +kernel
theorem dX4_readNode_104 : decode cX4_readNode 104 = .ok (.iload_n 2, 1) := by decide +kernel
theorem dX4_readNode_105 : decode cX4_readNode 105 = .ok (.ifCond .ne 20, 3) := by decide +kernel
theorem dX4_readNode_108 : decode cX4_readNode 108 = .ok (.iload_n 3, 1) := by decide +kernel
theorem dX4_readNode_109 : decode cX4_readNode 109 = .ok (.iconst (-1), 1) := by decide +kernel
theorem dX4_readNode_110 : decode cX4_readNode 110 = .ok (.if_icmp .ne 15, 3) := by decide +kernel
theorem dX4_readNode_113 : decode cX4_readNode 113 = .ok (.aload_n 0, 1) := by decide +kernel
theorem dX4_readNode_114 : decode cX4_readNode 114 = .ok (.getfield 28, 3) := by decide +kernel
theorem dX4_readNode_117 : decode cX4_readNode 117 = .ok (.iconst 2, 1) := by decide +kernel
theorem dX4_readNode_118 : decode cX4_readNode 118 = .ok (.if_icmp .gt 7, 3) := by decide +kernel
theorem dX4_readNode_121 : decode cX4_readNode 121 = .ok (.iconst 1, 1) := by decide +kernel
theorem dX4_readNode_122 : decode cX4_readNode 122 = .ok (.goto 4, 3) := by decide +kernel
theorem dX4_readNode_125 : decode cX4_readNode 125 = .ok (.iconst 0, 1) := by decide +kernel
theorem dX4_readNode_126 : decode cX4_readNode 126 = .ok (.istore 4, 2) := by decide +kernel
theorem dX4_readNode_128 : decode cX4_readNode 128 = .ok (.aload_n 1, 1) := by decide +kernel
theorem dX4_readNode_129 : decode cX4_readNode 129 = .ok (.getfield 169, 3) := by decide +kernel
theorem dX4_readNode_132 : decode cX4_readNode 132 = .ok (.aload_n 1, 1) := by decide +kernel
theorem dX4_readNode_133 : decode cX4_readNode 133 = .ok (.getfield 178, 3) := by decide +kernel
theorem dX4_readNode_136 : decode cX4_readNode 136 = .ok (.arraylength, 1) := by decide +kernel
theorem dX4_readNode_137 : decode cX4_readNode 137 = .ok (.if_icmp .ge 19, 3) := by decide +kernel
theorem dX4_readNode_140 : decode cX4_readNode 140 = .ok (.iload 4, 2) := by decide +kernel
theorem dX4_readNode_142 : decode cX4_readNode 142 = .ok (.ifCond .eq 21, 3) := by decide +kernel
theorem dX4_readNode_145 : decode cX4_readNode 145 = .ok (.aload_n 0, 1) := by decide +kernel
theorem dX4_readNode_146 : decode cX4_readNode 146 = .ok (.getfield 22, 3) := by decide +kernel
theorem dX4_readNode_149 : decode cX4_readNode 149 = .ok (.aload_n 0, 1) := by decide +kernel
theorem dX4_readNode_150 : decode cX4_readNode 150 = .ok (.getfield 25, 3) := by decide +kernel
theorem dX4_readNode_153 : decode cX4_readNode 153 = .ok (.if_icmp .lt 10, 3) := by decide +kernel
theorem dX4_readNode_156 : decode cX4_readNode 156 = .ok (.aload_n 0, 1) := by decide +kernel
theorem dX4_readNode_157 : decode cX4_readNode 157 = .ok (.bipush 6, 2) := by decide +kernel
theorem dX4_readNode_159 : decode cX4_readNode 159 = .ok (.invokevirtual 84, 3) := by decide +kernel
theorem dX4_readNode_162 : decode cX4_readNode 162 = .ok (.ireturn, 1) := by decide +kernel
theorem dX4_readNode_163 : decode cX4_readNode 163 = .ok (.aload_n 1, 1) := by decide +kernel
theorem dX4_readNode_164 : decode cX4_readNode 164 = .ok (.getfield 169, 3) := by decide +kernel
theorem dX4_readNode_167 : decode cX4_readNode 167 = .ok (.ifCond .ne 7, 3) := by decide +kernel
theorem dX4_readNode_170 : decode cX4_readNode 170 = .ok (.iconst 1, 1) := by decide +kernel
theorem dX4_readNode_171 : decode cX4_readNode 171 = .ok (.goto 4, 3) := by decide +kernel
theorem dX4_readNode_174 : decode cX4_readNode 174 = .ok (.iconst 0, 1) := by decide +kernel
theorem dX4_readNode_175 : decode cX4_readNode 175 = .ok (.istore 5, 2) := by decide +kernel
theorem dX4_readNode_177 : decode cX4_readNode 177 = .ok (.iload_n 2, 1) := by decide +kernel
theorem dX4_readNode_178 : decode cX4_readNode 178 = .ok (.ifCond .eq 15, 3) := by decide +kernel
theorem dX4_readNode_181 : decode cX4_readNode 181 = .ok (.iload_n 3, 1) := by decide +kernel
theorem dX4_readNode_182 : decode cX4_readNode 182 = .ok (.invokestatic 200, 3) := by decide +kernel
theorem dX4_readNode_185 : decode cX4_readNode 185 = .ok (.iconst 2, 1) := by decide +kernel
theorem dX4_readNode_186 : decode cX4_readNode 186 = .ok (.if_icmp .ne 7, 3) := by decide +kernel
theorem dX4_readNode_189 : decode cX4_readNode 189 = .ok (.iconst 1, 1) := by decide +kernel
theorem dX4_readNode_190 : decode cX4_readNode 190 = .ok (.goto 4, 3) := by decide +kernel
theorem dX4_readNode_193 : decode cX4_readNode 193 = .ok (.iconst 0, 1) := by decide +kernel
theorem dX4_readNode_194 : decode cX4_readNode 194 = .ok (.istore 6, 2) := by decide +kernel
theorem dX4_readNode_196 : decode cX4_readNode 196 = .ok (.aload_n 0, 1) := by decide +kernel
theorem dX4_readNode_197 : decode cX4_readNode 197 = .ok (.getfield 28, 3) := by decide +kernel
theorem dX4_readNode_200 : decode cX4_readNode 200 = .ok (.ifCond .ne 10, 3) := by decide +kernel
theorem dX4_readNode_203 : decode cX4_readNode 203 = .ok (.iload 6, 2) := by decide +kernel
theorem dX4_readNode_205 : decode cX4_readNode 205 = .ok (.iload 5, 2) := by decide +kernel
theorem dX4_readNode_207 : decode cX4_readNode 207 = .ok (.if_icmp .ne 21, 3) := by decide +kernel
theorem dX4_readNode_210 : decode cX4_readNode 210 = .ok (.aload_n 0, 1) := by decide +kernel
theorem dX4_readNode_211 : decode cX4_readNode 211 = .ok (.getfield 28, 3) := by decide +kernel
theorem dX4_readNode_214 : decode cX4_readNode 214 = .ok (.iconst 3, 1) := by decide +kernel
theorem dX4_readNode_215 : decode cX4_readNode 215 = .ok (.if_icmp .ne 20, 3) := by decide +kernel
theorem dX4_readNode_218 : decode cX4_readNode 218 = .ok (.iload 5, 2) := by decide +kernel
theorem dX4_readNode_220 : decode cX4_readNode 220 = .ok (.ifCond .eq 15, 3) := by decide +kernel
theorem dX4_readNode_223 : decode cX4_readNode 223 = .ok (.iload 6, 2) := by decide +kernel
theorem dX4_readNode_225 : decode cX4_readNode 225 = .ok (.ifCond .ne 10, 3) := by decide +kernel
theorem dX4_readNode_228 : decode cX4_readNode 228 = .ok (.aload_n 0, 1) := by decide +kernel
theorem dX4_readNode_229 : decode cX4_readNode 229 = .ok (.bipush 7, 2) := by decide +kernel
theorem dX4_readNode_231 : decode cX4_readNode 231 = .ok (.invokevirtual 84, 3) := by decide +kernel
theorem dX4_readNode_234 : decode cX4_readNode 234 = .ok (.ireturn, 1) := by decide +kernel
theorem dX4_readNode_235 : decode cX4_readNode 235 = .ok (.iload 4, 2) := by decide +kernel
theorem dX4_readNode_237 : decode cX4_readNode 237 = .ok (.ifCond .eq 31, 3) := by decide +kernel
theorem dX4_readNode_240 : decode cX4_readNode 240 = .ok (.aload_n 0, 1) := by decide +kernel
theorem dX4_readNode_241 : decode cX4_readNode 241 = .ok (.getfield 22, 3) := by decide +kernel
theorem dX4_readNode_244 : decode cX4_readNode 244 = .ok (.istore_n 3, 1) := by decide +kernel
theorem dX4_readNode_245 : decode cX4_readNode 245 = .ok (.aload_n 0, 1) := by decide +kernel
theorem dX4_readNode_246 : decode cX4_readNode 246 = .ok (.getfield 18, 3) := by decide +kernel
theorem dX4_readNode_249 : decode cX4_readNode 249 = .ok (.aload_n 0, 1) := by decide +kernel
theorem dX4_readNode_250 : decode cX4_readNode 250 = .ok (.getfield 22, 3) := by decide +kernel
theorem dX4_readNode_253 : decode cX4_readNode 253 = .ok (.aload_n 0, 1) := by decide +kernel
theorem dX4_readNode_254 : decode cX4_readNode 254 = .ok (.getfield 44, 3) := by decide +kernel
theorem dX4_readNode_257 : decode cX4_readNode 257 = .ok (.iastore, 1) := by decide +kernel
theorem dX4_readNode_258 : decode cX4_readNode 258 = .ok (.aload_n 0, 1) := by decide +kernel
theorem dX4_readNode_259 : decode cX4_readNode 259 = .ok (.dup, 1) := by decide +kernel
theorem dX4_readNode_260 : decode cX4_readNode 260 = .ok (.getfield 22, 3) := by decide +kernel
theorem dX4_readNode_263 : decode cX4_readNode 263 = .ok (.iconst 1, 1) := by decide +kernel
theorem dX4_readNode_264 : decode cX4_readNode 264 = .ok (.iadd, 1) := by decide +kernel
theorem dX4_readNode_265 : decode cX4_readNode 265 = .ok (.putfield 22, 3) := by decide +kernel
theorem dX4_readNode_268 : decode cX4_readNode 268 = .ok (.aload_n 1, 1) := by decide +kernel
theorem dX4_readNode_269 : decode cX4_readNode 269 = .ok (.iload_n 2, 1) := by decide +kernel
theorem dX4_readNode_270 : decode cX4_readNode 270 = .ok (.ifCond .eq 7, 3) := by decide +kernel
theorem dX4_readNode_273 : decode cX4_readNode 273 = .ok (.iload_n 3, 1) := by decide +kernel
theorem dX4_readNode_274 : decode cX4_readNode 274 = .ok (.goto 23, 3) := by decide +kernel
theorem dX4_readNode_277 : decode cX4_readNode 277 = .ok (.aload_n 0, 1) := by decide +kernel
theorem dX4_readNode_278 : decode cX4_readNode 278 = .ok (.getfield 28, 3) := by decide +kernel
theorem dX4_readNode_281 : decode cX4_readNode 281 = .ok (.iconst 1, 1) := by decide +kernel
theorem dX4_readNode_282 : decode cX4_readNode 282 = .ok (.if_icmp .gt 9, 3) := by decide +kernel
theorem dX4_readNode_285 : decode cX4_readNode 285 = .ok (.iload_n 3, 1) := by decide +kernel
theorem dX4_readNode_286 : decode cX4_readNode 286 = .ok (.iconst (-1), 1) := by decide +kernel
theorem dX4_readNode_287 : decode cX4_readNode 287 = .ok (.ixor, 1) := by decide +kernel
theorem dX4_readNode_288 : decode cX4_readNode 288 = .ok (.goto 9, 3) := by decide +kernel
theorem dX4_readNode_291 : decode cX4_readNode 291 = .ok (.aload_n 0, 1) := by decide +kernel
theorem dX4_readNode_292 : decode cX4_readNode 292 = .ok (.getfield 44, 3) := by decide +kernel
theorem dX4_readNode_295 : decode cX4_readNode 295 = .ok (.iconst (-1), 1) := by decide +kernel
theorem dX4_readNode_296 : decode cX4_readNode 296 = .ok (.ixor, 1) := by decide +kernel
theorem dX4_readNode_297 : decode cX4_readNode 297 = .ok (.invokevirtual 203, 3) := by decide +kernel
theorem dX4_readNode_300 : decode cX4_readNode 300 = .ok (.pop, 1) := by decide +kernel
theorem dX4_readNode_301 : decode cX4_readNode 301 = .ok (.aload_n 0, 1) := by decide +kernel
theorem dX4_readNode_302 : decode cX4_readNode 302 = .ok (.invokevirtual 127, 3) := by decide +kernel
theorem dX4_readNode_305 : decode cX4_readNode 305 = .ok (.iconst 1, 1) := by decide +kernel
theorem dX4_readNode_306 : decode cX4_readNode 306 = .ok (.ireturn, 1) := by decide +kernel
set_option maxRecDepth 10000 in
set_option maxHeartbeats 4000000 in
theorem A_X4_readNode_268 {Z : az_Z} {d : Nat} (C : az_C Z yX4_readNode cX4_readNode 7 (some .boolean) d) (hD : 3 ≤ d) (n : Nat) {σ : az_Hp} {v0 v1 v2 v3 : Int} {r : (Int × az_Hp)} (h : fz_X4_readNode_268 n σ v0 v1 v2 v3 = some r) : az_AW Z 7 268 [(6, v0), (9, v1), (0, v2), (0, v3), (31, 0), (31, 0), (31, 0)] [] σ (some (0, r.1), r.2) := by
  have hd1 : 1 ≤ d := by omega
  unfold fz_X4_readNode_268 at h
  refine az_al1 (pc := 268) C rfl rfl dX4_readNode_268 ?_
  refine az_il2 (pc := 269) C dX4_readNode_269 ?_
  refine az_if_eq (pc := 270) (tgt := 277) C h dX4_readNode_270 (by decide) (fun _ h => ?_) (fun _ h => ?_)
  · refine az_al0 (pc := 277) C rfl rfl dX4_readNode_277 ?_
    refine az_getI (pc := 278) C fl_X4_28 rfl dX4_readNode_278 ?_
    refine az_ik1 (pc := 281) C dX4_readNode_281 ?_
    refine az_icmp_gt (pc := 282) (tgt := 291) C h dX4_readNode_282 (by decide) (fun _ h => ?_) (fun _ h => ?_)
    · refine az_al0 (pc := 291) C rfl rfl dX4_readNode_291 ?_
      refine az_getI (pc := 292) C fl_X4_44 rfl dX4_readNode_292 ?_
      refine az_ikm1 (pc := 295) C dX4_readNode_295 ?_
      refine az_ixor (pc := 296) C dX4_readNode_296 ?_
      refine az_cV1ii (pc := 297) (c := 7) C hd1 h mv_X7_add ml_X4_203 rfl (fun x hx => A_X7_add (by omega) hx) dX4_readNode_297 (fun r1 h => ?_)
      refine az_pop (pc := 300) C rfl rfl dX4_readNode_300 ?_
      refine az_al0 (pc := 301) C rfl rfl dX4_readNode_301 ?_
      refine az_cV0v (pc := 302) (c := 4) C hd1 h mv_X4_next ml_X4_127 rfl (fun x hx => A_X4_next (by omega) hx) dX4_readNode_302 (fun r2 h => ?_)
      refine az_ik1 (pc := 305) C dX4_readNode_305 ?_
      obtain rfl := Option.some.inj h
      exact az_zreturn (pc := 306) C (by decide) dX4_readNode_306 rfl
    refine az_il3 (pc := 285) C dX4_readNode_285 ?_
    refine az_ikm1 (pc := 286) C dX4_readNode_286 ?_
    refine az_ixor (pc := 287) C dX4_readNode_287 ?_
    refine az_goto (pc := 288) (tgt := 297) C dX4_readNode_288 (by decide) ?_
    refine az_cV1ii (pc := 297) (c := 7) C hd1 h mv_X7_add ml_X4_203 rfl (fun x hx => A_X7_add (by omega) hx) dX4_readNode_297 (fun r3 h => ?_)
    refine az_pop (pc := 300) C rfl rfl dX4_readNode_300 ?_
    refine az_al0 (pc := 301) C rfl rfl dX4_readNode_301 ?_
    refine az_cV0v (pc := 302) (c := 4) C hd1 h mv_X4_next ml_X4_127 rfl (fun x hx => A_X4_next (by omega) hx) dX4_readNode_302 (fun r4 h => ?_)
    refine az_ik1 (pc := 305) C dX4_readNode_305 ?_
    obtain rfl := Option.some.inj h
    exact az_zreturn (pc := 306) C (by decide) dX4_readNode_306 rfl
  refine az_il3 (pc := 273) C dX4_readNode_273 ?_
  refine az_goto (pc := 274) (tgt := 297) C dX4_readNode_274 (by decide) ?_
  refine az_cV1ii (pc := 297) (c := 7) C hd1 h mv_X7_add ml_X4_203 rfl (fun x hx => A_X7_add (by omega) hx) dX4_readNode_297 (fun r5 h => ?_)
  refine az_pop (pc := 300) C rfl rfl dX4_readNode_300 ?_
  refine az_al0 (pc := 301) C rfl rfl dX4_readNode_301 ?_
  refine az_cV0v (pc := 302) (c := 4) C hd1 h mv_X4_next ml_X4_127 rfl (fun x hx => A_X4_next (by omega) hx) dX4_readNode_302 (fun r6 h => ?_)
  refine az_ik1 (pc := 305) C dX4_readNode_305 ?_
  obtain rfl := Option.some.inj h
  exact az_zreturn (pc := 306) C (by decide) dX4_readNode_306 rfl
set_option maxRecDepth 10000 in
set_option maxHeartbeats 4000000 in
theorem A_X4_readNode_235 {Z : az_Z} {d : Nat} (C : az_C Z yX4_readNode cX4_readNode 7 (some .boolean) d) (hD : 3 ≤ d) (n : Nat) {σ : az_Hp} {v0 v1 v2 v3 v4 : Int} {r : (Int × az_Hp)} (h : fz_X4_readNode_235 n σ v0 v1 v2 v3 v4 = some r) : az_AW Z 7 235 [(6, v0), (9, v1), (0, v2), (0, v3), (0, v4), (31, 0), (31, 0)] [] σ (some (0, r.1), r.2) := by
  have hd1 : 1 ≤ d := by omega
  unfold fz_X4_readNode_235 at h
  refine az_il4 (pc := 235) C dX4_readNode_235 ?_
  refine az_if_eq (pc := 237) (tgt := 268) C h dX4_readNode_237 (by decide) (fun _ h => ?_) (fun _ h => ?_)
  · exact (az_wkk (A_X4_readNode_268 C hD n h) (az_sE (az_sE (az_sE (az_sE (az_sJ (az_sJ (az_sJ az_sN))))))))
  refine az_al0 (pc := 240) C rfl rfl dX4_readNode_240 ?_
  refine az_getI (pc := 241) C fl_X4_22 rfl dX4_readNode_241 ?_
  refine az_is3 (pc := 244) C rfl rfl dX4_readNode_244 ?_
  refine az_al0 (pc := 245) C rfl rfl dX4_readNode_245 ?_
  refine az_getR (pc := 246) (c2 := 13) C h fl_X4_18 rfl rfl dX4_readNode_246 (fun h => ?_)
  refine az_al0 (pc := 249) C rfl rfl dX4_readNode_249 ?_
  refine az_getI (pc := 250) C fl_X4_22 rfl dX4_readNode_250 ?_
  refine az_al0 (pc := 253) C rfl rfl dX4_readNode_253 ?_
  refine az_getI (pc := 254) C fl_X4_44 rfl dX4_readNode_254 ?_
  refine az_iastore (pc := 257) C h dX4_readNode_257 (fun h => ?_)
  refine az_al0 (pc := 258) C rfl rfl dX4_readNode_258 ?_
  refine az_dup (pc := 259) C rfl rfl dX4_readNode_259 ?_
  refine az_getI (pc := 260) C fl_X4_22 rfl dX4_readNode_260 ?_
  refine az_ik1 (pc := 263) C dX4_readNode_263 ?_
  refine az_iadd (pc := 264) C dX4_readNode_264 ?_
  refine az_putI (pc := 265) C fl_X4_22 (Or.inl rfl) rfl dX4_readNode_265 ?_
  exact (az_wkk (A_X4_readNode_268 C hD n h) (az_sE (az_sE (az_sE (az_sE (az_sJ (az_sJ (az_sJ az_sN))))))))
set_option maxRecDepth 10000 in
set_option maxHeartbeats 4000000 in
theorem A_X4_readNode_210 {Z : az_Z} {d : Nat} (C : az_C Z yX4_readNode cX4_readNode 7 (some .boolean) d) (hD : 3 ≤ d) (n : Nat) {σ : az_Hp} {v0 v1 v2 v3 v4 v5 v6 : Int} {r : (Int × az_Hp)} (h : fz_X4_readNode_210 n σ v0 v1 v2 v3 v4 v5 v6 = some r) : az_AW Z 7 210 [(6, v0), (9, v1), (0, v2), (0, v3), (0, v4), (0, v5), (0, v6)] [] σ (some (0, r.1), r.2) := by
  have hd1 : 1 ≤ d := by omega
  unfold fz_X4_readNode_210 at h
  refine az_al0 (pc := 210) C rfl rfl dX4_readNode_210 ?_
  refine az_getI (pc := 211) C fl_X4_28 rfl dX4_readNode_211 ?_
  refine az_ik3 (pc := 214) C dX4_readNode_214 ?_
  refine az_icmp_ne (pc := 215) (tgt := 235) C h dX4_readNode_215 (by decide) (fun _ h => ?_) (fun _ h => ?_)
  · exact (az_wkk (A_X4_readNode_235 C hD n h) (az_sE (az_sE (az_sE (az_sE (az_sE (az_sJ (az_sJ az_sN))))))))
  refine az_il5 (pc := 218) C dX4_readNode_218 ?_
  refine az_if_eq (pc := 220) (tgt := 235) C h dX4_readNode_220 (by decide) (fun _ h => ?_) (fun _ h => ?_)
  · exact (az_wkk (A_X4_readNode_235 C hD n h) (az_sE (az_sE (az_sE (az_sE (az_sE (az_sJ (az_sJ az_sN))))))))
  refine az_il6 (pc := 223) C dX4_readNode_223 ?_
  refine az_if_ne (pc := 225) (tgt := 235) C h dX4_readNode_225 (by decide) (fun _ h => ?_) (fun _ h => ?_)
  · exact (az_wkk (A_X4_readNode_235 C hD n h) (az_sE (az_sE (az_sE (az_sE (az_sE (az_sJ (az_sJ az_sN))))))))
  refine az_al0 (pc := 228) C rfl rfl dX4_readNode_228 ?_
  refine az_bk7 (pc := 229) C dX4_readNode_229 ?_
  refine az_cV1ii (pc := 231) (c := 4) C hd1 h mv_X4_fail ml_X4_84 rfl (fun x hx => A_X4_fail (by omega) hx) dX4_readNode_231 (fun r1 h => ?_)
  obtain ⟨hz, h⟩ := az_zif h
  obtain rfl := Option.some.inj h
  exact az_zreturn (pc := 234) C hz dX4_readNode_234 rfl
set_option maxRecDepth 10000 in
set_option maxHeartbeats 4000000 in
theorem A_X4_readNode_194 {Z : az_Z} {d : Nat} (C : az_C Z yX4_readNode cX4_readNode 7 (some .boolean) d) (hD : 3 ≤ d) (n : Nat) {σ : az_Hp} {v0 v1 v2 v3 v4 v5 w0 : Int} {r : (Int × az_Hp)} (h : fz_X4_readNode_194 n σ v0 v1 v2 v3 v4 v5 w0 = some r) : az_AW Z 7 194 [(6, v0), (9, v1), (0, v2), (0, v3), (0, v4), (0, v5), (31, 0)] [(0, w0)] σ (some (0, r.1), r.2) := by
  have hd1 : 1 ≤ d := by omega
  unfold fz_X4_readNode_194 at h
  refine az_is6 (pc := 194) C rfl rfl dX4_readNode_194 ?_
  refine az_al0 (pc := 196) C rfl rfl dX4_readNode_196 ?_
  refine az_getI (pc := 197) C fl_X4_28 rfl dX4_readNode_197 ?_
  refine az_if_ne (pc := 200) (tgt := 210) C h dX4_readNode_200 (by decide) (fun _ h => ?_) (fun _ h => ?_)
  · exact (A_X4_readNode_210 C hD n h)
  refine az_il6 (pc := 203) C dX4_readNode_203 ?_
  refine az_il5 (pc := 205) C dX4_readNode_205 ?_
  refine az_icmp_ne (pc := 207) (tgt := 228) C h dX4_readNode_207 (by decide) (fun _ h => ?_) (fun _ h => ?_)
  · refine az_al0 (pc := 228) C rfl rfl dX4_readNode_228 ?_
    refine az_bk7 (pc := 229) C dX4_readNode_229 ?_
    refine az_cV1ii (pc := 231) (c := 4) C hd1 h mv_X4_fail ml_X4_84 rfl (fun x hx => A_X4_fail (by omega) hx) dX4_readNode_231 (fun r1 h => ?_)
    obtain ⟨hz, h⟩ := az_zif h
    obtain rfl := Option.some.inj h
    exact az_zreturn (pc := 234) C hz dX4_readNode_234 rfl
  exact (A_X4_readNode_210 C hD n h)
set_option maxRecDepth 10000 in
set_option maxHeartbeats 4000000 in
theorem A_X4_readNode_175 {Z : az_Z} {d : Nat} (C : az_C Z yX4_readNode cX4_readNode 7 (some .boolean) d) (hD : 3 ≤ d) (n : Nat) {σ : az_Hp} {v0 v1 v2 v3 v4 w0 : Int} {r : (Int × az_Hp)} (h : fz_X4_readNode_175 n σ v0 v1 v2 v3 v4 w0 = some r) : az_AW Z 7 175 [(6, v0), (9, v1), (0, v2), (0, v3), (0, v4), (31, 0), (31, 0)] [(0, w0)] σ (some (0, r.1), r.2) := by
  have hd1 : 1 ≤ d := by omega
  unfold fz_X4_readNode_175 at h
  refine az_is5 (pc := 175) C rfl rfl dX4_readNode_175 ?_
  refine az_il2 (pc := 177) C dX4_readNode_177 ?_
  refine az_if_eq (pc := 178) (tgt := 193) C h dX4_readNode_178 (by decide) (fun _ h => ?_) (fun _ h => ?_)
  · refine az_ik0 (pc := 193) C dX4_readNode_193 ?_
    exact (A_X4_readNode_194 C hD n h)
  refine az_il3 (pc := 181) C dX4_readNode_181 ?_
  refine az_cS1pi (pc := 182) C hd1 h ms_X7_kind ml_X4_200 rfl (fun x hx => A_X7_kind (by omega) hx) dX4_readNode_182 (fun r1 h => ?_)
  refine az_ik2 (pc := 185) C dX4_readNode_185 ?_
  refine az_icmp_ne (pc := 186) (tgt := 193) C h dX4_readNode_186 (by decide) (fun _ h => ?_) (fun _ h => ?_)
  · refine az_ik0 (pc := 193) C dX4_readNode_193 ?_
    exact (A_X4_readNode_194 C hD n h)
  refine az_ik1 (pc := 189) C dX4_readNode_189 ?_
  refine az_goto (pc := 190) (tgt := 194) C dX4_readNode_190 (by decide) ?_
  exact (A_X4_readNode_194 C hD n h)
set_option maxRecDepth 10000 in
set_option maxHeartbeats 4000000 in
theorem A_X4_readNode_163 {Z : az_Z} {d : Nat} (C : az_C Z yX4_readNode cX4_readNode 7 (some .boolean) d) (hD : 3 ≤ d) (n : Nat) {σ : az_Hp} {v0 v1 v2 v3 v4 : Int} {r : (Int × az_Hp)} (h : fz_X4_readNode_163 n σ v0 v1 v2 v3 v4 = some r) : az_AW Z 7 163 [(6, v0), (9, v1), (0, v2), (0, v3), (0, v4), (31, 0), (31, 0)] [] σ (some (0, r.1), r.2) := by
  have hd1 : 1 ≤ d := by omega
  unfold fz_X4_readNode_163 at h
  refine az_al1 (pc := 163) C rfl rfl dX4_readNode_163 ?_
  refine az_getI (pc := 164) C fl_X4_169 rfl dX4_readNode_164 ?_
  refine az_if_ne (pc := 167) (tgt := 174) C h dX4_readNode_167 (by decide) (fun _ h => ?_) (fun _ h => ?_)
  · refine az_ik0 (pc := 174) C dX4_readNode_174 ?_
    exact (A_X4_readNode_175 C hD n h)
  refine az_ik1 (pc := 170) C dX4_readNode_170 ?_
  refine az_goto (pc := 171) (tgt := 175) C dX4_readNode_171 (by decide) ?_
  exact (A_X4_readNode_175 C hD n h)
set_option maxRecDepth 10000 in
set_option maxHeartbeats 4000000 in
theorem A_X4_readNode_126 {Z : az_Z} {d : Nat} (C : az_C Z yX4_readNode cX4_readNode 7 (some .boolean) d) (hD : 3 ≤ d) (n : Nat) {σ : az_Hp} {v0 v1 v2 v3 w0 : Int} {r : (Int × az_Hp)} (h : fz_X4_readNode_126 n σ v0 v1 v2 v3 w0 = some r) : az_AW Z 7 126 [(6, v0), (9, v1), (0, v2), (0, v3), (31, 0), (31, 0), (31, 0)] [(0, w0)] σ (some (0, r.1), r.2) := by
  have hd1 : 1 ≤ d := by omega
  unfold fz_X4_readNode_126 at h
  refine az_is4 (pc := 126) C rfl rfl dX4_readNode_126 ?_
  refine az_al1 (pc := 128) C rfl rfl dX4_readNode_128 ?_
  refine az_getI (pc := 129) C fl_X4_169 rfl dX4_readNode_129 ?_
  refine az_al1 (pc := 132) C rfl rfl dX4_readNode_132 ?_
  refine az_getR (pc := 133) (c2 := 13) C h fl_X4_178 rfl rfl dX4_readNode_133 (fun h => ?_)
  refine az_arraylength (pc := 136) (k := 13) C rfl rfl dX4_readNode_136 ?_
  refine az_icmp_ge (pc := 137) (tgt := 156) C h dX4_readNode_137 (by decide) (fun _ h => ?_) (fun _ h => ?_)
  · refine az_al0 (pc := 156) C rfl rfl dX4_readNode_156 ?_
    refine az_bk6 (pc := 157) C dX4_readNode_157 ?_
    refine az_cV1ii (pc := 159) (c := 4) C hd1 h mv_X4_fail ml_X4_84 rfl (fun x hx => A_X4_fail (by omega) hx) dX4_readNode_159 (fun r2 h => ?_)
    obtain ⟨hz, h⟩ := az_zif h
    obtain rfl := Option.some.inj h
    exact az_zreturn (pc := 162) C hz dX4_readNode_162 rfl
  refine az_il4 (pc := 140) C dX4_readNode_140 ?_
  refine az_if_eq (pc := 142) (tgt := 163) C h dX4_readNode_142 (by decide) (fun _ h => ?_) (fun _ h => ?_)
  · exact (A_X4_readNode_163 C hD n h)
  refine az_al0 (pc := 145) C rfl rfl dX4_readNode_145 ?_
  refine az_getI (pc := 146) C fl_X4_22 rfl dX4_readNode_146 ?_
  refine az_al0 (pc := 149) C rfl rfl dX4_readNode_149 ?_
  refine az_getI (pc := 150) C fl_X4_25 rfl dX4_readNode_150 ?_
  refine az_icmp_lt (pc := 153) (tgt := 163) C h dX4_readNode_153 (by decide) (fun _ h => ?_) (fun _ h => ?_)
  · exact (A_X4_readNode_163 C hD n h)
  refine az_al0 (pc := 156) C rfl rfl dX4_readNode_156 ?_
  refine az_bk6 (pc := 157) C dX4_readNode_157 ?_
  refine az_cV1ii (pc := 159) (c := 4) C hd1 h mv_X4_fail ml_X4_84 rfl (fun x hx => A_X4_fail (by omega) hx) dX4_readNode_159 (fun r3 h => ?_)
  obtain ⟨hz, h⟩ := az_zif h
  obtain rfl := Option.some.inj h
  exact az_zreturn (pc := 162) C hz dX4_readNode_162 rfl
set_option maxRecDepth 10000 in
set_option maxHeartbeats 4000000 in
theorem A_X4_readNode_104 {Z : az_Z} {d : Nat} (C : az_C Z yX4_readNode cX4_readNode 7 (some .boolean) d) (hD : 3 ≤ d) (n : Nat) {σ : az_Hp} {v0 v1 v2 v3 : Int} {r : (Int × az_Hp)} (h : fz_X4_readNode_104 n σ v0 v1 v2 v3 = some r) : az_AW Z 7 104 [(6, v0), (9, v1), (0, v2), (0, v3), (31, 0), (31, 0), (31, 0)] [] σ (some (0, r.1), r.2) := by
  have hd1 : 1 ≤ d := by omega
  unfold fz_X4_readNode_104 at h
  refine az_il2 (pc := 104) C dX4_readNode_104 ?_
  refine az_if_ne (pc := 105) (tgt := 125) C h dX4_readNode_105 (by decide) (fun _ h => ?_) (fun _ h => ?_)
  · refine az_ik0 (pc := 125) C dX4_readNode_125 ?_
    exact (A_X4_readNode_126 C hD n h)
  refine az_il3 (pc := 108) C dX4_readNode_108 ?_
  refine az_ikm1 (pc := 109) C dX4_readNode_109 ?_
  refine az_icmp_ne (pc := 110) (tgt := 125) C h dX4_readNode_110 (by decide) (fun _ h => ?_) (fun _ h => ?_)
  · refine az_ik0 (pc := 125) C dX4_readNode_125 ?_
    exact (A_X4_readNode_126 C hD n h)
  refine az_al0 (pc := 113) C rfl rfl dX4_readNode_113 ?_
  refine az_getI (pc := 114) C fl_X4_28 rfl dX4_readNode_114 ?_
  refine az_ik2 (pc := 117) C dX4_readNode_117 ?_
  refine az_icmp_gt (pc := 118) (tgt := 125) C h dX4_readNode_118 (by decide) (fun _ h => ?_) (fun _ h => ?_)
  · refine az_ik0 (pc := 125) C dX4_readNode_125 ?_
    exact (A_X4_readNode_126 C hD n h)
  refine az_ik1 (pc := 121) C dX4_readNode_121 ?_
  refine az_goto (pc := 122) (tgt := 126) C dX4_readNode_122 (by decide) ?_
  exact (A_X4_readNode_126 C hD n h)
set_option maxRecDepth 10000 in
set_option maxHeartbeats 4000000 in
theorem A_X4_readNode_80 {Z : az_Z} {d : Nat} (C : az_C Z yX4_readNode cX4_readNode 7 (some .boolean) d) (hD : 3 ≤ d) (n : Nat) {σ : az_Hp} {v0 v1 v2 w0 : Int} {r : (Int × az_Hp)} (h : fz_X4_readNode_80 n σ v0 v1 v2 w0 = some r) : az_AW Z 7 80 [(6, v0), (9, v1), (0, v2), (31, 0), (31, 0), (31, 0), (31, 0)] [(0, w0)] σ (some (0, r.1), r.2) := by
  have hd1 : 1 ≤ d := by omega
  unfold fz_X4_readNode_80 at h
  refine az_is3 (pc := 80) C rfl rfl dX4_readNode_80 ?_
  refine az_il3 (pc := 81) C dX4_readNode_81 ?_
  refine az_ikm1 (pc := 82) C dX4_readNode_82 ?_
  refine az_icmp_ne (pc := 83) (tgt := 104) C h dX4_readNode_83 (by decide) (fun _ h => ?_) (fun _ h => ?_)
  · exact (A_X4_readNode_104 C hD n h)
  refine az_il2 (pc := 86) C dX4_readNode_86 ?_
  refine az_if_ne (pc := 87) (tgt := 98) C h dX4_readNode_87 (by decide) (fun _ h => ?_) (fun _ h => ?_)
  · refine az_al0 (pc := 98) C rfl rfl dX4_readNode_98 ?_
    refine az_ik3 (pc := 99) C dX4_readNode_99 ?_
    refine az_cV1ii (pc := 100) (c := 4) C hd1 h mv_X4_fail ml_X4_84 rfl (fun x hx => A_X4_fail (by omega) hx) dX4_readNode_100 (fun r1 h => ?_)
    obtain ⟨hz, h⟩ := az_zif h
    obtain rfl := Option.some.inj h
    exact az_zreturn (pc := 103) C hz dX4_readNode_103 rfl
  refine az_al0 (pc := 90) C rfl rfl dX4_readNode_90 ?_
  refine az_getI (pc := 91) C fl_X4_28 rfl dX4_readNode_91 ?_
  refine az_ik1 (pc := 94) C dX4_readNode_94 ?_
  refine az_icmp_ne (pc := 95) (tgt := 104) C h dX4_readNode_95 (by decide) (fun _ h => ?_) (fun _ h => ?_)
  · exact (A_X4_readNode_104 C hD n h)
  refine az_al0 (pc := 98) C rfl rfl dX4_readNode_98 ?_
  refine az_ik3 (pc := 99) C dX4_readNode_99 ?_
  refine az_cV1ii (pc := 100) (c := 4) C hd1 h mv_X4_fail ml_X4_84 rfl (fun x hx => A_X4_fail (by omega) hx) dX4_readNode_100 (fun r2 h => ?_)
  obtain ⟨hz, h⟩ := az_zif h
  obtain rfl := Option.some.inj h
  exact az_zreturn (pc := 103) C hz dX4_readNode_103 rfl
set_option maxRecDepth 10000 in
set_option maxHeartbeats 4000000 in
theorem A_X4_readNode_54 {Z : az_Z} {d : Nat} (C : az_C Z yX4_readNode cX4_readNode 7 (some .boolean) d) (hD : 3 ≤ d) (n : Nat) {σ : az_Hp} {v0 v1 v2 : Int} {r : (Int × az_Hp)} (h : fz_X4_readNode_54 n σ v0 v1 v2 = some r) : az_AW Z 7 54 [(6, v0), (9, v1), (0, v2), (31, 0), (31, 0), (31, 0), (31, 0)] [] σ (some (0, r.1), r.2) := by
  have hd1 : 1 ≤ d := by omega
  unfold fz_X4_readNode_54 at h
  refine az_il2 (pc := 54) C dX4_readNode_54 ?_
  refine az_if_eq (pc := 55) (tgt := 72) C h dX4_readNode_55 (by decide) (fun _ h => ?_) (fun _ h => ?_)
  · refine az_al0 (pc := 72) C rfl rfl dX4_readNode_72 ?_
    refine az_al0 (pc := 73) C rfl rfl dX4_readNode_73 ?_
    refine az_getI (pc := 74) C fl_X4_44 rfl dX4_readNode_74 ?_
    refine az_cV1pi (pc := 77) (c := 4) C hd1 h mv_X4_indexOfWord ml_X4_197 rfl (fun x hx => A_X4_indexOfWord (by omega) n hx) dX4_readNode_77 (fun r1 h => ?_)
    exact (A_X4_readNode_80 C hD n h)
  refine az_al0 (pc := 58) C rfl rfl dX4_readNode_58 ?_
  refine az_getR (pc := 59) (c2 := 9) C h fl_X4_56 rfl rfl dX4_readNode_59 (fun h => ?_)
  refine az_al0 (pc := 62) C rfl rfl dX4_readNode_62 ?_
  refine az_getI (pc := 63) C fl_X4_44 rfl dX4_readNode_63 ?_
  refine az_cV1pi (pc := 66) (c := 9) C hd1 h mv_X9_codeOf ml_X4_130 rfl (fun x hx => A_X9_codeOf (by omega) n hx) dX4_readNode_66 (fun r3 h => ?_)
  refine az_goto (pc := 69) (tgt := 80) C dX4_readNode_69 (by decide) ?_
  exact (A_X4_readNode_80 C hD n h)
set_option maxRecDepth 10000 in
set_option maxHeartbeats 4000000 in
theorem A_X4_readNode_36 {Z : az_Z} {d : Nat} (C : az_C Z yX4_readNode cX4_readNode 7 (some .boolean) d) (hD : 3 ≤ d) (n : Nat) {σ : az_Hp} {v0 v1 w0 : Int} {r : (Int × az_Hp)} (h : fz_X4_readNode_36 n σ v0 v1 w0 = some r) : az_AW Z 7 36 [(6, v0), (9, v1), (31, 0), (31, 0), (31, 0), (31, 0), (31, 0)] [(0, w0)] σ (some (0, r.1), r.2) := by
  have hd1 : 1 ≤ d := by omega
  unfold fz_X4_readNode_36 at h
  refine az_is2 (pc := 36) C rfl rfl dX4_readNode_36 ?_
  refine az_il2 (pc := 37) C dX4_readNode_37 ?_
  refine az_if_ne (pc := 38) (tgt := 54) C h dX4_readNode_38 (by decide) (fun _ h => ?_) (fun _ h => ?_)
  · exact (A_X4_readNode_54 C hD n h)
  refine az_al0 (pc := 41) C rfl rfl dX4_readNode_41 ?_
  refine az_cV0pi (pc := 42) (c := 4) C hd1 h mv_X4_isVariable ml_X4_193 rfl (fun x hx => A_X4_isVariable (by omega) hx) dX4_readNode_42 (fun r1 h => ?_)
  refine az_if_ne (pc := 45) (tgt := 54) C h dX4_readNode_45 (by decide) (fun _ h => ?_) (fun _ h => ?_)
  · exact (A_X4_readNode_54 C hD n h)
  refine az_al0 (pc := 48) C rfl rfl dX4_readNode_48 ?_
  refine az_ik2 (pc := 49) C dX4_readNode_49 ?_
  refine az_cV1ii (pc := 50) (c := 4) C hd1 h mv_X4_fail ml_X4_84 rfl (fun x hx => A_X4_fail (by omega) hx) dX4_readNode_50 (fun r2 h => ?_)
  obtain ⟨hz, h⟩ := az_zif h
  obtain rfl := Option.some.inj h
  exact az_zreturn (pc := 53) C hz dX4_readNode_53 rfl
set_option maxRecDepth 10000 in
set_option maxHeartbeats 4000000 in
theorem A_X4_readNode_23 {Z : az_Z} {d : Nat} (C : az_C Z yX4_readNode cX4_readNode 7 (some .boolean) d) (hD : 3 ≤ d) (n : Nat) {σ : az_Hp} {v0 v1 : Int} {r : (Int × az_Hp)} (h : fz_X4_readNode_23 n σ v0 v1 = some r) : az_AW Z 7 23 [(6, v0), (9, v1), (31, 0), (31, 0), (31, 0), (31, 0), (31, 0)] [] σ (some (0, r.1), r.2) := by
  have hd1 : 1 ≤ d := by omega
  unfold fz_X4_readNode_23 at h
  refine az_al0 (pc := 23) C rfl rfl dX4_readNode_23 ?_
  refine az_getI (pc := 24) C fl_X4_41 rfl dX4_readNode_24 ?_
  refine az_ik2 (pc := 27) C dX4_readNode_27 ?_
  refine az_icmp_ne (pc := 28) (tgt := 35) C h dX4_readNode_28 (by decide) (fun _ h => ?_) (fun _ h => ?_)
  · refine az_ik0 (pc := 35) C dX4_readNode_35 ?_
    exact (A_X4_readNode_36 C hD n h)
  refine az_ik1 (pc := 31) C dX4_readNode_31 ?_
  refine az_goto (pc := 32) (tgt := 36) C dX4_readNode_32 (by decide) ?_
  exact (A_X4_readNode_36 C hD n h)
set_option maxRecDepth 10000 in
set_option maxHeartbeats 4000000 in
theorem A_X4_readNode_e {Z : az_Z} {d : Nat} (C : az_C Z yX4_readNode cX4_readNode 7 (some .boolean) d) (hD : 3 ≤ d) (n : Nat) {σ : az_Hp} {v0 v1 : Int} {r : (Int × az_Hp)} (h : fz_X4_readNode n σ v0 v1 = some r) : az_AW Z 7 0 [(6, v0), (9, v1), (31, 0), (31, 0), (31, 0), (31, 0), (31, 0)] [] σ (some (0, r.1), r.2) := by
  have hd1 : 1 ≤ d := by omega
  unfold fz_X4_readNode at h
  refine az_al0 (pc := 0) C rfl rfl dX4_readNode_0 ?_
  refine az_getI (pc := 1) C fl_X4_41 rfl dX4_readNode_1 ?_
  refine az_bk63 (pc := 4) C dX4_readNode_4 ?_
  refine az_icmp_ne (pc := 6) (tgt := 23) C h dX4_readNode_6 (by decide) (fun _ h => ?_) (fun _ h => ?_)
  · exact (A_X4_readNode_23 C hD n h)
  refine az_al0 (pc := 9) C rfl rfl dX4_readNode_9 ?_
  refine az_getI (pc := 10) C fl_X4_28 rfl dX4_readNode_10 ?_
  refine az_ik3 (pc := 13) C dX4_readNode_13 ?_
  refine az_icmp_lt (pc := 14) (tgt := 23) C h dX4_readNode_14 (by decide) (fun _ h => ?_) (fun _ h => ?_)
  · exact (A_X4_readNode_23 C hD n h)
  refine az_al0 (pc := 17) C rfl rfl dX4_readNode_17 ?_
  refine az_al1 (pc := 18) C rfl rfl dX4_readNode_18 ?_
  refine az_cV1ii (pc := 19) (c := 4) C hd1 h mv_X4_readUnknown ml_X4_190 rfl (fun x hx => A_X4_readUnknown (by omega) n hx) dX4_readNode_19 (fun r1 h => ?_)
  obtain ⟨hz, h⟩ := az_zif h
  obtain rfl := Option.some.inj h
  exact az_zreturn (pc := 22) C hz dX4_readNode_22 rfl
set_option maxRecDepth 10000 in
set_option maxHeartbeats 4000000 in
theorem A_X4_readNode {l : Launch} {d : Nat} (hD : 3 ≤ d) (n : Nat) {σ : az_Hp} {v0 v1 : Int} {r : (Int × az_Hp)} (h : fz_X4_readNode n σ v0 v1 = some r) : az_AC l yX4_readNode cX4_readNode 7 (some .boolean) d [(6, v0), (9, v1)] σ (some (0, r.1), r.2) := az_AC.of mt_X4_readNode rfl rfl rfl (fun Z hZ C => A_X4_readNode_e C hD n h)
theorem dX4_readSide_0 : decode cX4_readSide 0 = .ok (.aload_n 1, 1) := by decide +kernel
theorem dX4_readSide_1 : decode cX4_readSide 1 = .ok (.iconst 0, 1) := by decide +kernel
theorem dX4_readSide_2 : decode cX4_readSide 2 = .ok (.putfield 169, 3) := by decide +kernel
theorem dX4_readSide_5 : decode cX4_readSide 5 = .ok (.aload_n 0, 1) := by decide +kernel
theorem dX4_readSide_6 : decode cX4_readSide 6 = .ok (.iload_n 2, 1) := by decide +kernel
theorem dX4_readSide_7 : decode cX4_readSide 7 = .ok (.putfield 28, 3) := by decide +kernel
theorem dX4_readSide_10 : decode cX4_readSide 10 = .ok (.iconst 0, 1) := by decide +kernel
theorem dX4_readSide_11 : decode cX4_readSide 11 = .ok (.istore_n 3, 1) := by decide +kernel
theorem dX4_readSide_12 : decode cX4_readSide 12 = .ok (.iconst 0, 1) := by decide +kernel
theorem dX4_readSide_13 : decode cX4_readSide 13 = .ok (.istore 4, 2) := by decide +kernel
theorem dX4_readSide_15 : decode cX4_readSide 15 = .ok (.iload 4, 2) := by decide +kernel
theorem dX4_readSide_17 : decode cX4_readSide 17 = .ok (.sipush 900, 3) := by decide +kernel
theorem dX4_readSide_20 : decode cX4_readSide 20 = .ok (.if_icmp .ge 153, 3) := by decide +kernel
theorem dX4_readSide_23 : decode cX4_readSide 23 = .ok (.aload_n 0, 1) := by decide +kernel
theorem dX4_readSide_24 : decode cX4_readSide 24 = .ok (.getfield 41, 3) := by decide +kernel
theorem dX4_readSide_27 : decode cX4_readSide 27 = .ok (.iconst 2, 1) := by decide +kernel
theorem dX4_readSide_28 : decode cX4_readSide 28 = .ok (.if_icmp .ne 7, 3) := by decide +kernel
theorem dX4_readSide_31 : decode cX4_readSide 31 = .ok (.iconst 1, 1) := by decide +kernel
theorem dX4_readSide_32 : decode cX4_readSide 32 = .ok (.goto 4, 3) := by decide +kernel
theorem dX4_readSide_35 : decode cX4_readSide 35 = .ok (.iconst 0, 1) := by decide +kernel
theorem dX4_readSide_36 : decode cX4_readSide 36 = .ok (.istore 5, 2) := by decide +kernel
theorem dX4_readSide_38 : decode cX4_readSide 38 = .ok (.aload_n 0, 1) := by decide +kernel
theorem dX4_readSide_39 : decode cX4_readSide 39 = .ok (.aload_n 1, 1) := by decide +kernel
theorem dX4_readSide_40 : decode cX4_readSide 40 = .ok (.invokevirtual 174, 3) := by decide +kernel
theorem dX4_readSide_43 : decode cX4_readSide 43 = .ok (.ifCond .ne 5, 3) := by decide +kernel
theorem dX4_readSide_46 : decode cX4_readSide 46 = .ok (.iconst 0, 1) := by decide +kernel
theorem dX4_readSide_47 : decode cX4_readSide 47 = .ok (.ireturn, 1) := by decide +kernel
theorem dX4_readSide_48 : decode cX4_readSide 48 = .ok (.aload_n 1, 1) := by decide +kernel
theorem dX4_readSide_49 : decode cX4_readSide 49 = .ok (.getfield 178, 3) := by decide +kernel
theorem dX4_readSide_52 : decode cX4_readSide 52 = .ok (.aload_n 1, 1) := by decide +kernel
theorem dX4_readSide_53 : decode cX4_readSide 53 = .ok (.getfield 169, 3) := by decide +kernel
theorem dX4_readSide_56 : decode cX4_readSide 56 = .ok (.iconst 1, 1) := by decide +kernel
theorem dX4_readSide_57 : decode cX4_readSide 57 = .ok (.isub, 1) := by decide +kernel
theorem dX4_readSide_58 : decode cX4_readSide 58 = .ok (.iaload, 1) := by decide +kernel
theorem dX4_readSide_59 : decode cX4_readSide 59 = .ok (.invokestatic 181, 3) := by decide +kernel
theorem dX4_readSide_62 : decode cX4_readSide 62 = .ok (.istore 6, 2) := by decide +kernel
theorem dX4_readSide_64 : decode cX4_readSide 64 = .ok (.iload 6, 2) := by decide +kernel
theorem dX4_readSide_66 : decode cX4_readSide 66 = .ok (.ifCond .le 61, 3) := by decide +kernel
theorem dX4_readSide_69 : decode cX4_readSide 69 = .ok (.aload_n 0, 1) := by decide +kernel
theorem dX4_readSide_70 : decode cX4_readSide 70 = .ok (.getfield 41, 3) := by decide +kernel
theorem dX4_readSide_73 : decode cX4_readSide 73 = .ok (.bipush 40, 2) := by decide +kernel
theorem dX4_readSide_75 : decode cX4_readSide 75 = .ok (.if_icmp .ne 9, 3) := by decide +kernel
theorem dX4_readSide_78 : decode cX4_readSide 78 = .ok (.iload_n 3, 1) := by decide +kernel
theorem dX4_readSide_79 : decode cX4_readSide 79 = .ok (.bipush 60, 2) := by decide +kernel
theorem dX4_readSide_81 : decode cX4_readSide 81 = .ok (.if_icmp .lt 21, 3) := by decide +kernel
theorem dX4_readSide_84 : decode cX4_readSide 84 = .ok (.aload_n 0, 1) := by decide +kernel
theorem dX4_readSide_85 : decode cX4_readSide 85 = .ok (.aload_n 0, 1) := by decide +kernel
theorem dX4_readSide_86 : decode cX4_readSide 86 = .ok (.iload_n 3, 1) := by decide +kernel
theorem dX4_readSide_87 : decode cX4_readSide 87 = .ok (.invokevirtual 184, 3) := by decide +kernel
theorem dX4_readSide_90 : decode cX4_readSide 90 = .ok (.ifCond .eq 7, 3) := by decide +kernel
theorem dX4_readSide_93 : decode cX4_readSide 93 = .ok (.iconst 5, 1) := by decide +kernel
theorem dX4_readSide_94 : decode cX4_readSide 94 = .ok (.goto 4, 3) := by decide +kernel
theorem dX4_readSide_97 : decode cX4_readSide 97 = .ok (.iconst 2, 1) := by decide +kernel
theorem dX4_readSide_98 : decode cX4_readSide 98 = .ok (.invokevirtual 84, 3) := by decide +kernel
theorem dX4_readSide_101 : decode cX4_readSide 101 = .ok (.ireturn, 1) := by decide +kernel
theorem dX4_readSide_102 : decode cX4_readSide 102 = .ok (.aload_n 0, 1) := by decide +kernel
theorem dX4_readSide_103 : decode cX4_readSide 103 = .ok (.getfield 50, 3) := by decide +kernel
theorem dX4_readSide_106 : decode cX4_readSide 106 = .ok (.iload_n 3, 1) := by decide +kernel
theorem dX4_readSide_107 : decode cX4_readSide 107 = .ok (.iload 6, 2) := by decide +kernel
theorem dX4_readSide_109 : decode cX4_readSide 109 = .ok (.iastore, 1) := by decide +kernel
theorem dX4_readSide_110 : decode cX4_readSide 110 = .ok (.aload_n 0, 1) := by decide +kernel
theorem dX4_readSide_111 : decode cX4_readSide 111 = .ok (.getfield 53, 3) := by decide +kernel
theorem dX4_readSide_114 : decode cX4_readSide 114 = .ok (.iload_n 3, 1) := by decide +kernel
theorem dX4_readSide_115 : decode cX4_readSide 115 = .ok (.iconst 0, 1) := by decide +kernel
theorem dX4_readSide_116 : decode cX4_readSide 116 = .ok (.iastore, 1) := by decide +kernel
theorem dX4_readSide_117 : decode cX4_readSide 117 = .ok (.iinc 3 1, 3) := by decide +kernel
theorem dX4_readSide_120 : decode cX4_readSide 120 = .ok (.aload_n 0, 1) := by decide +kernel
theorem dX4_readSide_121 : decode cX4_readSide 121 = .ok (.invokevirtual 127, 3) := by decide +kernel
theorem dX4_readSide_124 : decode cX4_readSide 124 = .ok (.goto 43, 3) := by decide +kernel
theorem dX4_readSide_127 : decode cX4_readSide 127 = .ok (.iload 5, 2) := by decide +kernel
theorem dX4_readSide_129 : decode cX4_readSide 129 = .ok (.ifCond .eq 18, 3) := by decide +kernel
theorem dX4_readSide_132 : decode cX4_readSide 132 = .ok (.aload_n 0, 1) := by decide +kernel
theorem dX4_readSide_133 : decode cX4_readSide 133 = .ok (.getfield 41, 3) := by decide +kernel
theorem dX4_readSide_136 : decode cX4_readSide 136 = .ok (.bipush 40, 2) := by decide +kernel
theorem dX4_readSide_138 : decode cX4_readSide 138 = .ok (.if_icmp .ne 9, 3) := by decide +kernel
theorem dX4_readSide_141 : decode cX4_readSide 141 = .ok (.aload_n 0, 1) := by decide +kernel
theorem dX4_readSide_142 : decode cX4_readSide 142 = .ok (.iconst 5, 1) := by decide +kernel
theorem dX4_readSide_143 : decode cX4_readSide 143 = .ok (.invokevirtual 84, 3) := by decide +kernel
theorem dX4_readSide_146 : decode cX4_readSide 146 = .ok (.ireturn, 1) := by decide +kernel
theorem dX4_readSide_147 : decode cX4_readSide 147 = .ok (.aload_n 0, 1) := by decide +kernel
theorem dX4_readSide_148 : decode cX4_readSide 148 = .ok (.iload_n 3, 1) := by decide +kernel
theorem dX4_readSide_149 : decode cX4_readSide 149 = .ok (.invokevirtual 187, 3) := by decide +kernel
theorem dX4_readSide_152 : decode cX4_readSide 152 = .ok (.istore_n 3, 1) := by decide +kernel
theorem dX4_readSide_153 : decode cX4_readSide 153 = .ok (.iload_n 3, 1) := by decide +kernel
theorem dX4_readSide_154 : decode cX4_readSide 154 = .ok (.ifCond .gt 13, 3) := by decide +kernel
theorem dX4_readSide_157 : decode cX4_readSide 157 = .ok (.iload_n 3, 1) := by decide +kernel
theorem dX4_readSide_158 : decode cX4_readSide 158 = .ok (.ifCond .ne 7, 3) := by decide +kernel
theorem dX4_readSide_161 : decode cX4_readSide 161 = .ok (.iconst 1, 1) := by decide +kernel
theorem dX4_readSide_162 : decode cX4_readSide 162 = .ok (.goto 4, 3) := by decide +kernel
theorem dX4_readSide_165 : decode cX4_readSide 165 = .ok (.iconst 0, 1) := by decide +kernel
theorem dX4_readSide_166 : decode cX4_readSide 166 = .ok (.ireturn, 1) := by decide +kernel
theorem dX4_readSide_167 : decode cX4_readSide 167 = .ok (.iinc 4 1, 3) := by decide +kernel
theorem dX4_readSide_170 : decode cX4_readSide 170 = .ok (.goto (-155), 3) := by decide +kernel
theorem dX4_readSide_173 : decode cX4_readSide 173 = .ok (.aload_n 0, 1) := by decide +kernel
theorem dX4_readSide_174 : decode cX4_readSide 174 = .ok (.iconst 2, 1) := by decide +kernel
theorem dX4_readSide_175 : decode cX4_readSide 175 = .ok (.invokevirtual 84, 3) := by decide +kernel
theorem dX4_readSide_178 : decode cX4_readSide 178 = .ok (.ireturn, 1) := by decide +kernel
set_option maxRecDepth 10000 in
set_option maxHeartbeats 4000000 in
theorem A_X4_readSide_147 {Z : az_Z} {d : Nat} (C : az_C Z yX4_readSide cX4_readSide 7 (some .boolean) d) (hD : 4 ≤ d) (n : Nat) {k15 : az_Hp → Int → Int → Int → Int → Option (Int × az_Hp)} (hk15 : ∀ {σ : az_Hp} {v0 v1 v3 v4 : Int} {r : (Int × az_Hp)}, k15 σ v0 v1 v3 v4 = some r → az_AW Z 7 15 [(6, v0), (9, v1), (31, 0), (0, v3), (0, v4), (31, 0), (31, 0)] [] σ (some (0, r.1), r.2)) {σ : az_Hp} {v0 v1 v3 v4 : Int} {r : (Int × az_Hp)} (h : fz_X4_readSide_147 n k15 σ v0 v1 v3 v4 = some r) : az_AW Z 7 147 [(6, v0), (9, v1), (31, 0), (0, v3), (0, v4), (31, 0), (31, 0)] [] σ (some (0, r.1), r.2) := by
  have hd1 : 1 ≤ d := by omega
  unfold fz_X4_readSide_147 at h
  refine az_al0 (pc := 147) C rfl rfl dX4_readSide_147 ?_
  refine az_il3 (pc := 148) C dX4_readSide_148 ?_
  refine az_cV1ii (pc := 149) (c := 4) C hd1 h mv_X4_closeFrames ml_X4_187 rfl (fun x hx => A_X4_closeFrames (by omega) n hx) dX4_readSide_149 (fun r1 h => ?_)
  refine az_is3 (pc := 152) C rfl rfl dX4_readSide_152 ?_
  refine az_il3 (pc := 153) C dX4_readSide_153 ?_
  refine az_if_gt (pc := 154) (tgt := 167) C h dX4_readSide_154 (by decide) (fun _ h => ?_) (fun _ h => ?_)
  · refine az_ii4 (pc := 167) C az_n1 rfl rfl dX4_readSide_167 ?_
    refine az_goto (pc := 170) (tgt := 15) C dX4_readSide_170 (by decide) ?_
    exact (hk15 h)
  refine az_il3 (pc := 157) C dX4_readSide_157 ?_
  refine az_if_ne (pc := 158) (tgt := 165) C h dX4_readSide_158 (by decide) (fun _ h => ?_) (fun _ h => ?_)
  · refine az_ik0 (pc := 165) C dX4_readSide_165 ?_
    obtain rfl := Option.some.inj h
    exact az_zreturn (pc := 166) C (by decide) dX4_readSide_166 rfl
  refine az_ik1 (pc := 161) C dX4_readSide_161 ?_
  refine az_goto (pc := 162) (tgt := 166) C dX4_readSide_162 (by decide) ?_
  obtain rfl := Option.some.inj h
  exact az_zreturn (pc := 166) C (by decide) dX4_readSide_166 rfl
set_option maxRecDepth 10000 in
set_option maxHeartbeats 4000000 in
theorem A_X4_readSide_84 {Z : az_Z} {d : Nat} (C : az_C Z yX4_readSide cX4_readSide 7 (some .boolean) d) (hD : 4 ≤ d) (n : Nat) {σ : az_Hp} {v0 v3 : Int} {r : (Int × az_Hp)} (h : fz_X4_readSide_84 n σ v0 v3 = some r) : az_AW Z 7 84 [(6, v0), (31, 0), (31, 0), (0, v3), (31, 0), (31, 0), (31, 0)] [] σ (some (0, r.1), r.2) := by
  have hd1 : 1 ≤ d := by omega
  unfold fz_X4_readSide_84 at h
  refine az_al0 (pc := 84) C rfl rfl dX4_readSide_84 ?_
  refine az_al0 (pc := 85) C rfl rfl dX4_readSide_85 ?_
  refine az_il3 (pc := 86) C dX4_readSide_86 ?_
  refine az_cV1pi (pc := 87) (c := 4) C hd1 h mv_X4_endsTerm ml_X4_184 rfl (fun x hx => A_X4_endsTerm (by omega) hx) dX4_readSide_87 (fun r1 h => ?_)
  refine az_if_eq (pc := 90) (tgt := 97) C h dX4_readSide_90 (by decide) (fun _ h => ?_) (fun _ h => ?_)
  · refine az_ik2 (pc := 97) C dX4_readSide_97 ?_
    refine az_cV1ii (pc := 98) (c := 4) C hd1 h mv_X4_fail ml_X4_84 rfl (fun x hx => A_X4_fail (by omega) hx) dX4_readSide_98 (fun r2 h => ?_)
    obtain ⟨hz, h⟩ := az_zif h
    obtain rfl := Option.some.inj h
    exact az_zreturn (pc := 101) C hz dX4_readSide_101 rfl
  refine az_ik5 (pc := 93) C dX4_readSide_93 ?_
  refine az_goto (pc := 94) (tgt := 98) C dX4_readSide_94 (by decide) ?_
  refine az_cV1ii (pc := 98) (c := 4) C hd1 h mv_X4_fail ml_X4_84 rfl (fun x hx => A_X4_fail (by omega) hx) dX4_readSide_98 (fun r3 h => ?_)
  obtain ⟨hz, h⟩ := az_zif h
  obtain rfl := Option.some.inj h
  exact az_zreturn (pc := 101) C hz dX4_readSide_101 rfl
set_option maxRecDepth 10000 in
set_option maxHeartbeats 4000000 in
theorem A_X4_readSide_36 {Z : az_Z} {d : Nat} (C : az_C Z yX4_readSide cX4_readSide 7 (some .boolean) d) (hD : 4 ≤ d) (n : Nat) {k15 : az_Hp → Int → Int → Int → Int → Option (Int × az_Hp)} (hk15 : ∀ {σ : az_Hp} {v0 v1 v3 v4 : Int} {r : (Int × az_Hp)}, k15 σ v0 v1 v3 v4 = some r → az_AW Z 7 15 [(6, v0), (9, v1), (31, 0), (0, v3), (0, v4), (31, 0), (31, 0)] [] σ (some (0, r.1), r.2)) {σ : az_Hp} {v0 v1 v3 v4 w0 : Int} {r : (Int × az_Hp)} (h : fz_X4_readSide_36 n k15 σ v0 v1 v3 v4 w0 = some r) : az_AW Z 7 36 [(6, v0), (9, v1), (31, 0), (0, v3), (0, v4), (31, 0), (31, 0)] [(0, w0)] σ (some (0, r.1), r.2) := by
  have hd1 : 1 ≤ d := by omega
  unfold fz_X4_readSide_36 at h
  refine az_is5 (pc := 36) C rfl rfl dX4_readSide_36 ?_
  refine az_al0 (pc := 38) C rfl rfl dX4_readSide_38 ?_
  refine az_al1 (pc := 39) C rfl rfl dX4_readSide_39 ?_
  refine az_cV1ii (pc := 40) (c := 4) C hd1 h mv_X4_readNode ml_X4_174 rfl (fun x hx => A_X4_readNode (by omega) n hx) dX4_readSide_40 (fun r1 h => ?_)
  refine az_if_ne (pc := 43) (tgt := 48) C h dX4_readSide_43 (by decide) (fun _ h => ?_) (fun _ h => ?_)
  · refine az_al1 (pc := 48) C rfl rfl dX4_readSide_48 ?_
    refine az_getR (pc := 49) (c2 := 13) C h fl_X4_178 rfl rfl dX4_readSide_49 (fun h => ?_)
    refine az_al1 (pc := 52) C rfl rfl dX4_readSide_52 ?_
    refine az_getI (pc := 53) C fl_X4_169 rfl dX4_readSide_53 ?_
    refine az_ik1 (pc := 56) C dX4_readSide_56 ?_
    refine az_isub (pc := 57) C dX4_readSide_57 ?_
    refine az_iaload (pc := 58) C h dX4_readSide_58 (fun h => ?_)
    refine az_cS1pi (pc := 59) C hd1 h ms_X7_arity ml_X4_181 rfl (fun x hx => A_X7_arity (by omega) hx) dX4_readSide_59 (fun r4 h => ?_)
    refine az_is6 (pc := 62) C rfl rfl dX4_readSide_62 ?_
    refine az_il6 (pc := 64) C dX4_readSide_64 ?_
    refine az_if_le (pc := 66) (tgt := 127) C h dX4_readSide_66 (by decide) (fun _ h => ?_) (fun _ h => ?_)
    · refine az_il5 (pc := 127) C dX4_readSide_127 ?_
      refine az_if_eq (pc := 129) (tgt := 147) C h dX4_readSide_129 (by decide) (fun _ h => ?_) (fun _ h => ?_)
      · exact (az_wkk (A_X4_readSide_147 C hD n (fun h => hk15 h) h) (az_sE (az_sE (az_sJ (az_sE (az_sE (az_sJ (az_sJ az_sN))))))))
      refine az_al0 (pc := 132) C rfl rfl dX4_readSide_132 ?_
      refine az_getI (pc := 133) C fl_X4_41 rfl dX4_readSide_133 ?_
      refine az_bk40 (pc := 136) C dX4_readSide_136 ?_
      refine az_icmp_ne (pc := 138) (tgt := 147) C h dX4_readSide_138 (by decide) (fun _ h => ?_) (fun _ h => ?_)
      · exact (az_wkk (A_X4_readSide_147 C hD n (fun h => hk15 h) h) (az_sE (az_sE (az_sJ (az_sE (az_sE (az_sJ (az_sJ az_sN))))))))
      refine az_al0 (pc := 141) C rfl rfl dX4_readSide_141 ?_
      refine az_ik5 (pc := 142) C dX4_readSide_142 ?_
      refine az_cV1ii (pc := 143) (c := 4) C hd1 h mv_X4_fail ml_X4_84 rfl (fun x hx => A_X4_fail (by omega) hx) dX4_readSide_143 (fun r5 h => ?_)
      obtain ⟨hz, h⟩ := az_zif h
      obtain rfl := Option.some.inj h
      exact az_zreturn (pc := 146) C hz dX4_readSide_146 rfl
    refine az_al0 (pc := 69) C rfl rfl dX4_readSide_69 ?_
    refine az_getI (pc := 70) C fl_X4_41 rfl dX4_readSide_70 ?_
    refine az_bk40 (pc := 73) C dX4_readSide_73 ?_
    refine az_icmp_ne (pc := 75) (tgt := 84) C h dX4_readSide_75 (by decide) (fun _ h => ?_) (fun _ h => ?_)
    · exact (az_wkk (A_X4_readSide_84 C hD n h) (az_sE (az_sJ (az_sJ (az_sE (az_sJ (az_sJ (az_sJ az_sN))))))))
    refine az_il3 (pc := 78) C dX4_readSide_78 ?_
    refine az_bk60 (pc := 79) C dX4_readSide_79 ?_
    refine az_icmp_lt (pc := 81) (tgt := 102) C h dX4_readSide_81 (by decide) (fun _ h => ?_) (fun _ h => ?_)
    · refine az_al0 (pc := 102) C rfl rfl dX4_readSide_102 ?_
      refine az_getR (pc := 103) (c2 := 13) C h fl_X4_50 rfl rfl dX4_readSide_103 (fun h => ?_)
      refine az_il3 (pc := 106) C dX4_readSide_106 ?_
      refine az_il6 (pc := 107) C dX4_readSide_107 ?_
      refine az_iastore (pc := 109) C h dX4_readSide_109 (fun h => ?_)
      refine az_al0 (pc := 110) C rfl rfl dX4_readSide_110 ?_
      refine az_getR (pc := 111) (c2 := 13) C h fl_X4_53 rfl rfl dX4_readSide_111 (fun h => ?_)
      refine az_il3 (pc := 114) C dX4_readSide_114 ?_
      refine az_ik0 (pc := 115) C dX4_readSide_115 ?_
      refine az_iastore (pc := 116) C h dX4_readSide_116 (fun h => ?_)
      refine az_ii3 (pc := 117) C az_n1 rfl rfl dX4_readSide_117 ?_
      refine az_al0 (pc := 120) C rfl rfl dX4_readSide_120 ?_
      refine az_cV0v (pc := 121) (c := 4) C hd1 h mv_X4_next ml_X4_127 rfl (fun x hx => A_X4_next (by omega) hx) dX4_readSide_121 (fun r10 h => ?_)
      refine az_goto (pc := 124) (tgt := 167) C dX4_readSide_124 (by decide) ?_
      refine az_ii4 (pc := 167) C az_n1 rfl rfl dX4_readSide_167 ?_
      refine az_goto (pc := 170) (tgt := 15) C dX4_readSide_170 (by decide) ?_
      exact (az_wkk (hk15 h) (az_sE (az_sE (az_sJ (az_sE (az_sE (az_sJ (az_sJ az_sN))))))))
    exact (az_wkk (A_X4_readSide_84 C hD n h) (az_sE (az_sJ (az_sJ (az_sE (az_sJ (az_sJ (az_sJ az_sN))))))))
  refine az_ik0 (pc := 46) C dX4_readSide_46 ?_
  obtain rfl := Option.some.inj h
  exact az_zreturn (pc := 47) C (by decide) dX4_readSide_47 rfl
set_option maxRecDepth 10000 in
set_option maxHeartbeats 4000000 in
theorem A_X4_readSide_15 {Z : az_Z} {d : Nat} (C : az_C Z yX4_readSide cX4_readSide 7 (some .boolean) d) (hD : 4 ≤ d) (n : Nat) (k : Nat) : ∀ {σ : az_Hp} {v0 v1 v3 v4 : Int} {r : (Int × az_Hp)}, fz_X4_readSide_15 n k σ v0 v1 v3 v4 = some r → az_AW Z 7 15 [(6, v0), (9, v1), (31, 0), (0, v3), (0, v4), (31, 0), (31, 0)] [] σ (some (0, r.1), r.2) := by
  have hd1 : 1 ≤ d := by omega
  induction k with
  | zero => intro σ v0 v1 v3 v4 r h; simp [fz_X4_readSide_15] at h
  | succ k ih =>
    intro σ v0 v1 v3 v4 r h
    unfold fz_X4_readSide_15 at h
    refine az_il4 (pc := 15) C dX4_readSide_15 ?_
    refine az_sk900 (pc := 17) C dX4_readSide_17 ?_
    refine az_icmp_ge (pc := 20) (tgt := 173) C h dX4_readSide_20 (by decide) (fun _ h => ?_) (fun _ h => ?_)
    · refine az_al0 (pc := 173) C rfl rfl dX4_readSide_173 ?_
      refine az_ik2 (pc := 174) C dX4_readSide_174 ?_
      refine az_cV1ii (pc := 175) (c := 4) C hd1 h mv_X4_fail ml_X4_84 rfl (fun x hx => A_X4_fail (by omega) hx) dX4_readSide_175 (fun r1 h => ?_)
      obtain ⟨hz, h⟩ := az_zif h
      obtain rfl := Option.some.inj h
      exact az_zreturn (pc := 178) C hz dX4_readSide_178 rfl
    refine az_al0 (pc := 23) C rfl rfl dX4_readSide_23 ?_
    refine az_getI (pc := 24) C fl_X4_41 rfl dX4_readSide_24 ?_
    refine az_ik2 (pc := 27) C dX4_readSide_27 ?_
    refine az_icmp_ne (pc := 28) (tgt := 35) C h dX4_readSide_28 (by decide) (fun _ h => ?_) (fun _ h => ?_)
    · refine az_ik0 (pc := 35) C dX4_readSide_35 ?_
      exact (A_X4_readSide_36 C hD n (fun h => ih h) h)
    refine az_ik1 (pc := 31) C dX4_readSide_31 ?_
    refine az_goto (pc := 32) (tgt := 36) C dX4_readSide_32 (by decide) ?_
    exact (A_X4_readSide_36 C hD n (fun h => ih h) h)
set_option maxRecDepth 10000 in
set_option maxHeartbeats 4000000 in
theorem A_X4_readSide_e {Z : az_Z} {d : Nat} (C : az_C Z yX4_readSide cX4_readSide 7 (some .boolean) d) (hD : 4 ≤ d) (n : Nat) {σ : az_Hp} {v0 v1 v2 : Int} {r : (Int × az_Hp)} (h : fz_X4_readSide n σ v0 v1 v2 = some r) : az_AW Z 7 0 [(6, v0), (9, v1), (0, v2), (31, 0), (31, 0), (31, 0), (31, 0)] [] σ (some (0, r.1), r.2) := by
  have hd1 : 1 ≤ d := by omega
  unfold fz_X4_readSide at h
  refine az_al1 (pc := 0) C rfl rfl dX4_readSide_0 ?_
  refine az_ik0 (pc := 1) C dX4_readSide_1 ?_
  refine az_putI (pc := 2) C fl_X4_169 (Or.inl rfl) rfl dX4_readSide_2 ?_
  refine az_al0 (pc := 5) C rfl rfl dX4_readSide_5 ?_
  refine az_il2 (pc := 6) C dX4_readSide_6 ?_
  refine az_putI (pc := 7) C fl_X4_28 (Or.inl rfl) rfl dX4_readSide_7 ?_
  refine az_ik0 (pc := 10) C dX4_readSide_10 ?_
  refine az_is3 (pc := 11) C rfl rfl dX4_readSide_11 ?_
  refine az_ik0 (pc := 12) C dX4_readSide_12 ?_
  refine az_is4 (pc := 13) C rfl rfl dX4_readSide_13 ?_
  exact (az_wkk (A_X4_readSide_15 C hD n n h) (az_sE (az_sE (az_sJ (az_sE (az_sE (az_sJ (az_sJ az_sN))))))))
set_option maxRecDepth 10000 in
set_option maxHeartbeats 4000000 in
theorem A_X4_readSide {l : Launch} {d : Nat} (hD : 4 ≤ d) (n : Nat) {σ : az_Hp} {v0 v1 v2 : Int} {r : (Int × az_Hp)} (h : fz_X4_readSide n σ v0 v1 v2 = some r) : az_AC l yX4_readSide cX4_readSide 7 (some .boolean) d [(6, v0), (9, v1), (0, v2)] σ (some (0, r.1), r.2) := az_AC.of mt_X4_readSide rfl rfl rfl (fun Z hZ C => A_X4_readSide_e C hD n h)
theorem dX4_readBoth_0 : decode cX4_readBoth 0 = .ok (.aload_n 0, 1) := by decide +kernel
theorem dX4_readBoth_1 : decode cX4_readBoth 1 = .ok (.aload_n 1, 1) := by decide +kernel
theorem dX4_readBoth_2 : decode cX4_readBoth 2 = .ok (.iload_n 3, 1) := by decide +kernel
theorem dX4_readBoth_3 : decode cX4_readBoth 3 = .ok (.invokevirtual 102, 3) := by decide +kernel
theorem dX4_readBoth_6 : decode cX4_readBoth 6 = .ok (.ifCond .ne 5, 3) := by decide +kernel
theorem dX4_readBoth_9 : decode cX4_readBoth 9 = .ok (.iconst 0, 1) := by decide +kernel
theorem dX4_readBoth_10 : decode cX4_readBoth 10 = .ok (.ireturn, 1) := by decide +kernel
theorem dX4_readBoth_11 : decode cX4_readBoth 11 = .ok (.aload_n 0, 1) := by decide +kernel
theorem dX4_readBoth_12 : decode cX4_readBoth 12 = .ok (.getfield 41, 3) := by decide +kernel
theorem dX4_readBoth_15 : decode cX4_readBoth 15 = .ok (.bipush 61, 2) := by decide +kernel
theorem dX4_readBoth_17 : decode cX4_readBoth 17 = .ok (.if_icmp .eq 9, 3) := by decide +kernel
theorem dX4_readBoth_20 : decode cX4_readBoth 20 = .ok (.aload_n 0, 1) := by decide +kernel
theorem dX4_readBoth_21 : decode cX4_readBoth 21 = .ok (.iconst 2, 1) := by decide +kernel
theorem dX4_readBoth_22 : decode cX4_readBoth 22 = .ok (.invokevirtual 84, 3) := by decide +kernel
theorem dX4_readBoth_25 : decode cX4_readBoth 25 = .ok (.ireturn, 1) := by decide +kernel
theorem dX4_readBoth_26 : decode cX4_readBoth 26 = .ok (.aload_n 0, 1) := by decide +kernel
theorem dX4_readBoth_27 : decode cX4_readBoth 27 = .ok (.invokevirtual 127, 3) := by decide +kernel
theorem dX4_readBoth_30 : decode cX4_readBoth 30 = .ok (.aload_n 0, 1) := by decide +kernel
theorem dX4_readBoth_31 : decode cX4_readBoth 31 = .ok (.aload_n 2, 1) := by decide +kernel
theorem dX4_readBoth_32 : decode cX4_readBoth 32 = .ok (.iload 4, 2) := by decide +kernel
theorem dX4_readBoth_34 : decode cX4_readBoth 34 = .ok (.invokevirtual 102, 3) := by decide +kernel
theorem dX4_readBoth_37 : decode cX4_readBoth 37 = .ok (.ifCond .ne 5, 3) := by decide +kernel
theorem dX4_readBoth_40 : decode cX4_readBoth 40 = .ok (.iconst 0, 1) := by decide +kernel
theorem dX4_readBoth_41 : decode cX4_readBoth 41 = .ok (.ireturn, 1) := by decide +kernel
theorem dX4_readBoth_42 : decode cX4_readBoth 42 = .ok (.aload_n 0, 1) := by decide +kernel
theorem dX4_readBoth_43 : decode cX4_readBoth 43 = .ok (.getfield 41, 3) := by decide +kernel
theorem dX4_readBoth_46 : decode cX4_readBoth 46 = .ok (.bipush 59, 2) := by decide +kernel
theorem dX4_readBoth_48 : decode cX4_readBoth 48 = .ok (.if_icmp .eq 9, 3) := by decide +kernel
theorem dX4_readBoth_51 : decode cX4_readBoth 51 = .ok (.aload_n 0, 1) := by decide +kernel
theorem dX4_readBoth_52 : decode cX4_readBoth 52 = .ok (.iconst 2, 1) := by decide +kernel
theorem dX4_readBoth_53 : decode cX4_readBoth 53 = .ok (.invokevirtual 84, 3) := by decide +kernel
theorem dX4_readBoth_56 : decode cX4_readBoth 56 = .ok (.ireturn, 1) := by decide +kernel
theorem dX4_readBoth_57 : decode cX4_readBoth 57 = .ok (.aload_n 0, 1) := by decide +kernel
theorem dX4_readBoth_58 : decode cX4_readBoth 58 = .ok (.invokevirtual 127, 3) := by decide +kernel
theorem dX4_readBoth_61 : decode cX4_readBoth 61 = .ok (.iconst 1, 1) := by decide +kernel
theorem dX4_readBoth_62 : decode cX4_readBoth 62 = .ok (.ireturn, 1) := by decide +kernel
set_option maxRecDepth 10000 in
set_option maxHeartbeats 4000000 in
theorem A_X4_readBoth_e {Z : az_Z} {d : Nat} (C : az_C Z yX4_readBoth cX4_readBoth 5 (some .boolean) d) (hD : 5 ≤ d) (n : Nat) {σ : az_Hp} {v0 v1 v2 v3 v4 : Int} {r : (Int × az_Hp)} (h : fz_X4_readBoth n σ v0 v1 v2 v3 v4 = some r) : az_AW Z 5 0 [(6, v0), (9, v1), (9, v2), (0, v3), (0, v4)] [] σ (some (0, r.1), r.2) := by
  have hd1 : 1 ≤ d := by omega
  unfold fz_X4_readBoth at h
  refine az_al0 (pc := 0) C rfl rfl dX4_readBoth_0 ?_
  refine az_al1 (pc := 1) C rfl rfl dX4_readBoth_1 ?_
  refine az_il3 (pc := 2) C dX4_readBoth_2 ?_
  refine az_cV2ii (pc := 3) (c := 4) C hd1 h mv_X4_readSide ml_X4_102 rfl (fun x hx => A_X4_readSide (by omega) n hx) dX4_readBoth_3 (fun r1 h => ?_)
  refine az_if_ne (pc := 6) (tgt := 11) C h dX4_readBoth_6 (by decide) (fun _ h => ?_) (fun _ h => ?_)
  · refine az_al0 (pc := 11) C rfl rfl dX4_readBoth_11 ?_
    refine az_getI (pc := 12) C fl_X4_41 rfl dX4_readBoth_12 ?_
    refine az_bk61 (pc := 15) C dX4_readBoth_15 ?_
    refine az_icmp_eq (pc := 17) (tgt := 26) C h dX4_readBoth_17 (by decide) (fun _ h => ?_) (fun _ h => ?_)
    · refine az_al0 (pc := 26) C rfl rfl dX4_readBoth_26 ?_
      refine az_cV0v (pc := 27) (c := 4) C hd1 h mv_X4_next ml_X4_127 rfl (fun x hx => A_X4_next (by omega) hx) dX4_readBoth_27 (fun r2 h => ?_)
      refine az_al0 (pc := 30) C rfl rfl dX4_readBoth_30 ?_
      refine az_al2 (pc := 31) C rfl rfl dX4_readBoth_31 ?_
      refine az_il4 (pc := 32) C dX4_readBoth_32 ?_
      refine az_cV2ii (pc := 34) (c := 4) C hd1 h mv_X4_readSide ml_X4_102 rfl (fun x hx => A_X4_readSide (by omega) n hx) dX4_readBoth_34 (fun r3 h => ?_)
      refine az_if_ne (pc := 37) (tgt := 42) C h dX4_readBoth_37 (by decide) (fun _ h => ?_) (fun _ h => ?_)
      · refine az_al0 (pc := 42) C rfl rfl dX4_readBoth_42 ?_
        refine az_getI (pc := 43) C fl_X4_41 rfl dX4_readBoth_43 ?_
        refine az_bk59 (pc := 46) C dX4_readBoth_46 ?_
        refine az_icmp_eq (pc := 48) (tgt := 57) C h dX4_readBoth_48 (by decide) (fun _ h => ?_) (fun _ h => ?_)
        · refine az_al0 (pc := 57) C rfl rfl dX4_readBoth_57 ?_
          refine az_cV0v (pc := 58) (c := 4) C hd1 h mv_X4_next ml_X4_127 rfl (fun x hx => A_X4_next (by omega) hx) dX4_readBoth_58 (fun r4 h => ?_)
          refine az_ik1 (pc := 61) C dX4_readBoth_61 ?_
          obtain rfl := Option.some.inj h
          exact az_zreturn (pc := 62) C (by decide) dX4_readBoth_62 rfl
        refine az_al0 (pc := 51) C rfl rfl dX4_readBoth_51 ?_
        refine az_ik2 (pc := 52) C dX4_readBoth_52 ?_
        refine az_cV1ii (pc := 53) (c := 4) C hd1 h mv_X4_fail ml_X4_84 rfl (fun x hx => A_X4_fail (by omega) hx) dX4_readBoth_53 (fun r5 h => ?_)
        obtain ⟨hz, h⟩ := az_zif h
        obtain rfl := Option.some.inj h
        exact az_zreturn (pc := 56) C hz dX4_readBoth_56 rfl
      refine az_ik0 (pc := 40) C dX4_readBoth_40 ?_
      obtain rfl := Option.some.inj h
      exact az_zreturn (pc := 41) C (by decide) dX4_readBoth_41 rfl
    refine az_al0 (pc := 20) C rfl rfl dX4_readBoth_20 ?_
    refine az_ik2 (pc := 21) C dX4_readBoth_21 ?_
    refine az_cV1ii (pc := 22) (c := 4) C hd1 h mv_X4_fail ml_X4_84 rfl (fun x hx => A_X4_fail (by omega) hx) dX4_readBoth_22 (fun r6 h => ?_)
    obtain ⟨hz, h⟩ := az_zif h
    obtain rfl := Option.some.inj h
    exact az_zreturn (pc := 25) C hz dX4_readBoth_25 rfl
  refine az_ik0 (pc := 9) C dX4_readBoth_9 ?_
  obtain rfl := Option.some.inj h
  exact az_zreturn (pc := 10) C (by decide) dX4_readBoth_10 rfl
set_option maxRecDepth 10000 in
set_option maxHeartbeats 4000000 in
theorem A_X4_readBoth {l : Launch} {d : Nat} (hD : 5 ≤ d) (n : Nat) {σ : az_Hp} {v0 v1 v2 v3 v4 : Int} {r : (Int × az_Hp)} (h : fz_X4_readBoth n σ v0 v1 v2 v3 v4 = some r) : az_AC l yX4_readBoth cX4_readBoth 5 (some .boolean) d [(6, v0), (9, v1), (9, v2), (0, v3), (0, v4)] σ (some (0, r.1), r.2) := az_AC.of mt_X4_readBoth rfl rfl rfl (fun Z hZ C => A_X4_readBoth_e C hD n h)
