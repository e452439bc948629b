theorem dX11_tellsByte_0 : decode cX11_tellsByte 0 = .ok (.aload_n 0, 1) := by decide +kernel
theorem dX11_tellsByte_1 : decode cX11_tellsByte 1 = .ok (.getfield 480, 3) := by decide +kernel
theorem dX11_tellsByte_4 : decode cX11_tellsByte 4 = .ok (.aload_n 0, 1) := by decide +kernel
theorem dX11_tellsByte_5 : decode cX11_tellsByte 5 = .ok (.getfield 113, 3) := by decide +kernel
theorem dX11_tellsByte_8 : decode cX11_tellsByte 8 = .ok (.arraylength, 1) := by decide +kernel
theorem dX11_tellsByte_9 : decode cX11_tellsByte 9 = .ok (.if_icmp .ge 14, 3) := by decide +kernel
theorem dX11_tellsByte_12 : decode cX11_tellsByte 12 = .ok (.aload_n 0, 1) := by decide +kernel
theorem dX11_tellsByte_13 : decode cX11_tellsByte 13 = .ok (.getfield 113, 3) := by decide +kernel
theorem dX11_tellsByte_16 : decode cX11_tellsByte 16 = .ok (.aload_n 0, 1) := by decide +kernel
theorem dX11_tellsByte_17 : decode cX11_tellsByte 17 = .ok (.getfield 480, 3) := by decide +kernel
theorem dX11_tellsByte_20 : decode cX11_tellsByte 20 = .ok (.iload_n 1, 1) := by decide +kernel
theorem dX11_tellsByte_21 : decode cX11_tellsByte 21 = .ok (.i2b, 1) := by decide +kernel
theorem dX11_tellsByte_22 : decode cX11_tellsByte 22 = .ok (.bastore, 1) := by decide +kernel
theorem dX11_tellsByte_23 : decode cX11_tellsByte 23 = .ok (.aload_n 0, 1) := by decide +kernel
theorem dX11_tellsByte_24 : decode cX11_tellsByte 24 = .ok (.dup, 1) := by decide +kernel
theorem dX11_tellsByte_25 : decode cX11_tellsByte 25 = .ok (.getfield 480, 3) := by decide +kernel
theorem dX11_tellsByte_28 : decode cX11_tellsByte 28 = .ok (.iconst 1, 1) := by decide +kernel
theorem dX11_tellsByte_29 : decode cX11_tellsByte 29 = .ok (.iadd, 1) := by decide +kernel
theorem dX11_tellsByte_30 : decode cX11_tellsByte 30 = .ok (.putfield 480, 3) := by decide +kernel
theorem dX11_tellsByte_33 : decode cX11_tellsByte 33 = .ok (.return_, 1) := by decide +kernel
set_option maxRecDepth 10000 in
set_option maxHeartbeats 4000000 in
theorem A_X11_tellsByte_e {Z : az_Z} {d : Nat} (C : az_C Z yX11_tellsByte cX11_tellsByte 2 none d) (hD : 1 ≤ d) {σ : az_Hp} {v0 v1 : Int} {r : az_Hp} (h : fz_X11_tellsByte σ v0 v1 = some r) : az_AW Z 2 0 [(13, v0), (0, v1)] [] σ (none, r) := by
  have hd1 : 1 ≤ d := by omega
  unfold fz_X11_tellsByte at h
  refine az_al0 (pc := 0) C rfl rfl dX11_tellsByte_0 ?_
  refine az_getI (pc := 1) C fl_X11_480 rfl dX11_tellsByte_1 ?_
  refine az_al0 (pc := 4) C rfl rfl dX11_tellsByte_4 ?_
  refine az_getR (pc := 5) (c2 := 12) C h fl_X11_113 rfl rfl dX11_tellsByte_5 (fun h => ?_)
  refine az_arraylength (pc := 8) (k := 12) C rfl rfl dX11_tellsByte_8 ?_
  refine az_icmp_ge (pc := 9) (tgt := 23) C h dX11_tellsByte_9 (by decide) (fun _ h => ?_) (fun _ h => ?_)
  · refine az_al0 (pc := 23) C rfl rfl dX11_tellsByte_23 ?_
    refine az_dup (pc := 24) C rfl rfl dX11_tellsByte_24 ?_
    refine az_getI (pc := 25) C fl_X11_480 rfl dX11_tellsByte_25 ?_
    refine az_ik1 (pc := 28) C dX11_tellsByte_28 ?_
    refine az_iadd (pc := 29) C dX11_tellsByte_29 ?_
    refine az_putI (pc := 30) C fl_X11_480 (Or.inl rfl) rfl dX11_tellsByte_30 ?_
    obtain rfl := Option.some.inj h
    exact az_return (pc := 33) C dX11_tellsByte_33 rfl
  refine az_al0 (pc := 12) C rfl rfl dX11_tellsByte_12 ?_
  refine az_getR (pc := 13) (c2 := 12) C h fl_X11_113 rfl rfl dX11_tellsByte_13 (fun h => ?_)
  refine az_al0 (pc := 16) C rfl rfl dX11_tellsByte_16 ?_
  refine az_getI (pc := 17) C fl_X11_480 rfl dX11_tellsByte_17 ?_
  refine az_il1 (pc := 20) C dX11_tellsByte_20 ?_
  refine az_i2b (pc := 21) C dX11_tellsByte_21 ?_
  refine az_bastore (pc := 22) C h dX11_tellsByte_22 (fun h => ?_)
  refine az_al0 (pc := 23) C rfl rfl dX11_tellsByte_23 ?_
  refine az_dup (pc := 24) C rfl rfl dX11_tellsByte_24 ?_
  refine az_getI (pc := 25) C fl_X11_480 rfl dX11_tellsByte_25 ?_
  refine az_ik1 (pc := 28) C dX11_tellsByte_28 ?_
  refine az_iadd (pc := 29) C dX11_tellsByte_29 ?_
  refine az_putI (pc := 30) C fl_X11_480 (Or.inl rfl) rfl dX11_tellsByte_30 ?_
  obtain rfl := Option.some.inj h
  exact az_return (pc := 33) C dX11_tellsByte_33 rfl
set_option maxRecDepth 10000 in
set_option maxHeartbeats 4000000 in
theorem A_X11_tellsByte {l : Launch} {d : Nat} (hD : 1 ≤ d) {σ : az_Hp} {v0 v1 : Int} {r : az_Hp} (h : fz_X11_tellsByte σ v0 v1 = some r) : az_AC l yX11_tellsByte cX11_tellsByte 2 none d [(13, v0), (0, v1)] σ (none, r) := az_AC.of mt_X11_tellsByte rfl rfl rfl (fun Z hZ C => A_X11_tellsByte_e C hD h)
theorem dX11_tells_0 : decode cX11_tells 0 = .ok (.bipush 56, 2) := by decide +kernel
theorem dX11_tells_2 : decode cX11_tells 2 = .ok (.istore_n 3, 1) := by decide +kernel
theorem dX11_tells_3 : decode cX11_tells 3 = .ok (.iload_n 3, 1) := by decide +kernel
theorem dX11_tells_4 : decode cX11_tells 4 = .ok (.ifCond .lt 30, 3) := by decide +kernel
theorem dX11_tells_7 : decode cX11_tells 7 = .ok (.lload_n 1, 1) := by decide +kernel
theorem dX11_tells_8 : decode cX11_tells 8 = .ok (.iload_n 3, 1) := by decide +kernel
theorem dX11_tells_9 : decode cX11_tells 9 = .ok (.lshr, 1) := by decide +kernel
theorem dX11_tells_10 : decode cX11_tells 10 = .ok (.l2i, 1) := by decide +kernel
theorem dX11_tells_11 : decode cX11_tells 11 = .ok (.sipush 255, 3) := by decide +kernel
theorem dX11_tells_14 : decode cX11_tells 14 = .ok (.iand, 1) := by decide +kernel
theorem dX11_tells_15 : decode cX11_tells 15 = .ok (.istore 4, 2) := by decide +kernel
theorem dX11_tells_17 : decode cX11_tells 17 = .ok (.iload 4, 2) := by decide +kernel
theorem dX11_tells_19 : decode cX11_tells 19 = .ok (.ifCond .eq 9, 3) := by decide +kernel
theorem dX11_tells_22 : decode cX11_tells 22 = .ok (.aload_n 0, 1) := by decide +kernel
theorem dX11_tells_23 : decode cX11_tells 23 = .ok (.iload 4, 2) := by decide +kernel
theorem dX11_tells_25 : decode cX11_tells 25 = .ok (.invokevirtual 477, 3) := by decide +kernel
theorem dX11_tells_28 : decode cX11_tells 28 = .ok (.iinc 3 (-8), 3) := by decide +kernel
theorem dX11_tells_31 : decode cX11_tells 31 = .ok (.goto (-28), 3) := by decide +kernel
theorem dX11_tells_34 : decode cX11_tells 34 = .ok (.return_, 1) := by decide +kernel
set_option maxRecDepth 10000 in
set_option maxHeartbeats 4000000 in
theorem A_X11_tells_3 {Z : az_Z} {d : Nat} (C : az_C Z yX11_tells cX11_tells 5 none d) (hD : 2 ≤ d) (n : Nat) (k : Nat) : ∀ {σ : az_Hp} {v0 v1 v3 : Int} {r : az_Hp}, fz_X11_tells_3 n k σ v0 v1 v3 = some r → az_AW Z 5 3 [(13, v0), (1, v1), (31, 0), (0, v3), (31, 0)] [] σ (none, r) := by
  have hd1 : 1 ≤ d := by omega
  induction k with
  | zero => intro σ v0 v1 v3 r h; simp [fz_X11_tells_3] at h
  | succ k ih =>
    intro σ v0 v1 v3 r h
    unfold fz_X11_tells_3 at h
    refine az_il3 (pc := 3) C dX11_tells_3 ?_
    refine az_if_lt (pc := 4) (tgt := 34) C h dX11_tells_4 (by decide) (fun _ h => ?_) (fun _ h => ?_)
    · obtain rfl := Option.some.inj h
      exact az_return (pc := 34) C dX11_tells_34 rfl
    refine az_ll1 (pc := 7) C dX11_tells_7 ?_
    refine az_il3 (pc := 8) C dX11_tells_8 ?_
    refine az_lshr (pc := 9) C dX11_tells_9 ?_
    refine az_l2i (pc := 10) C dX11_tells_10 ?_
    refine az_sk255 (pc := 11) C dX11_tells_11 ?_
    refine az_iand (pc := 14) C dX11_tells_14 ?_
    refine az_is4 (pc := 15) C rfl rfl dX11_tells_15 ?_
    refine az_il4 (pc := 17) C dX11_tells_17 ?_
    refine az_if_eq (pc := 19) (tgt := 28) C h dX11_tells_19 (by decide) (fun _ h => ?_) (fun _ h => ?_)
    · refine az_ii3 (pc := 28) C az_nm8 rfl rfl dX11_tells_28 ?_
      refine az_goto (pc := 31) (tgt := 3) C dX11_tells_31 (by decide) ?_
      exact (az_wkk (ih h) (az_sE (az_sE (az_sJ (az_sE (az_sJ az_sN))))))
    refine az_al0 (pc := 22) C rfl rfl dX11_tells_22 ?_
    refine az_il4 (pc := 23) C dX11_tells_23 ?_
    refine az_cV1v (pc := 25) (c := 11) C hd1 h mv_X11_tellsByte ml_X11_477 rfl (fun x hx => A_X11_tellsByte (by omega) hx) dX11_tells_25 (fun r1 h => ?_)
    refine az_ii3 (pc := 28) C az_nm8 rfl rfl dX11_tells_28 ?_
    refine az_goto (pc := 31) (tgt := 3) C dX11_tells_31 (by decide) ?_
    exact (az_wkk (ih h) (az_sE (az_sE (az_sJ (az_sE (az_sJ az_sN))))))
set_option maxRecDepth 10000 in
set_option maxHeartbeats 4000000 in
theorem A_X11_tells_e {Z : az_Z} {d : Nat} (C : az_C Z yX11_tells cX11_tells 5 none d) (hD : 2 ≤ d) (n : Nat) {σ : az_Hp} {v0 v1 : Int} {r : az_Hp} (h : fz_X11_tells n σ v0 v1 = some r) : az_AW Z 5 0 [(13, v0), (1, v1), (31, 0), (31, 0), (31, 0)] [] σ (none, r) := by
  have hd1 : 1 ≤ d := by omega
  unfold fz_X11_tells at h
  refine az_bk56 (pc := 0) C dX11_tells_0 ?_
  refine az_is3 (pc := 2) C rfl rfl dX11_tells_2 ?_
  exact (A_X11_tells_3 C hD n n h)
set_option maxRecDepth 10000 in
set_option maxHeartbeats 4000000 in
theorem A_X11_tells {l : Launch} {d : Nat} (hD : 2 ≤ d) (n : Nat) {σ : az_Hp} {v0 v1 : Int} {r : az_Hp} (h : fz_X11_tells n σ v0 v1 = some r) : az_AC l yX11_tells cX11_tells 5 none d [(13, v0), (1, v1)] σ (none, r) := az_AC.of mt_X11_tells rfl rfl rfl (fun Z hZ C => A_X11_tells_e C hD n h)
theorem dX11_tellsNode_0 : decode cX11_tellsNode 0 = .ok (.aload_n 0, 1) := by decide +kernel
theorem dX11_tellsNode_1 : decode cX11_tellsNode 1 = .ok (.iload_n 1, 1) := by decide +kernel
theorem dX11_tellsNode_2 : decode cX11_tellsNode 2 = .ok (.invokevirtual 438, 3) := by decide +kernel
theorem dX11_tellsNode_5 : decode cX11_tellsNode 5 = .ok (.istore_n 2, 1) := by decide +kernel
theorem dX11_tellsNode_6 : decode cX11_tellsNode 6 = .ok (.aload_n 0, 1) := by decide +kernel
theorem dX11_tellsNode_7 : decode cX11_tellsNode 7 = .ok (.getfield 73, 3) := by decide +kernel
theorem dX11_tellsNode_10 : decode cX11_tellsNode 10 = .ok (.iload_n 2, 1) := by decide +kernel
theorem dX11_tellsNode_11 : decode cX11_tellsNode 11 = .ok (.iaload, 1) := by decide +kernel
theorem dX11_tellsNode_12 : decode cX11_tellsNode 12 = .ok (.invokestatic 288, 3) := by decide +kernel
theorem dX11_tellsNode_15 : decode cX11_tellsNode 15 = .ok (.ifCond .eq 16, 3) := by decide +kernel
theorem dX11_tellsNode_18 : decode cX11_tellsNode 18 = .ok (.aload_n 0, 1) := by decide +kernel
theorem dX11_tellsNode_19 : decode cX11_tellsNode 19 = .ok (.bipush 97, 2) := by decide +kernel
theorem dX11_tellsNode_21 : decode cX11_tellsNode 21 = .ok (.aload_n 0, 1) := by decide +kernel
theorem dX11_tellsNode_22 : decode cX11_tellsNode 22 = .ok (.iload_n 2, 1) := by decide +kernel
theorem dX11_tellsNode_23 : decode cX11_tellsNode 23 = .ok (.invokevirtual 486, 3) := by decide +kernel
theorem dX11_tellsNode_26 : decode cX11_tellsNode 26 = .ok (.iadd, 1) := by decide +kernel
theorem dX11_tellsNode_27 : decode cX11_tellsNode 27 = .ok (.invokevirtual 477, 3) := by decide +kernel
theorem dX11_tellsNode_30 : decode cX11_tellsNode 30 = .ok (.return_, 1) := by decide +kernel
theorem dX11_tellsNode_31 : decode cX11_tellsNode 31 = .ok (.aload_n 0, 1) := by decide +kernel
theorem dX11_tellsNode_32 : decode cX11_tellsNode 32 = .ok (.aload_n 0, 1) := by decide +kernel
theorem dX11_tellsNode_33 : decode cX11_tellsNode 33 = .ok (.aload_n 0, 1) := by decide +kernel
theorem dX11_tellsNode_34 : decode cX11_tellsNode 34 = .ok (.getfield 73, 3) := by decide +kernel
theorem dX11_tellsNode_37 : decode cX11_tellsNode 37 = .ok (.iload_n 2, 1) := by decide +kernel
theorem dX11_tellsNode_38 : decode cX11_tellsNode 38 = .ok (.iaload, 1) := by decide +kernel
theorem dX11_tellsNode_39 : decode cX11_tellsNode 39 = .ok (.invokevirtual 492, 3) := by decide +kernel
theorem dX11_tellsNode_42 : decode cX11_tellsNode 42 = .ok (.invokevirtual 495, 3) := by decide +kernel
theorem dX11_tellsNode_45 : decode cX11_tellsNode 45 = .ok (.iconst 0, 1) := by decide +kernel
theorem dX11_tellsNode_46 : decode cX11_tellsNode 46 = .ok (.istore_n 3, 1) := by decide +kernel
theorem dX11_tellsNode_47 : decode cX11_tellsNode 47 = .ok (.iload_n 3, 1) := by decide +kernel
theorem dX11_tellsNode_48 : decode cX11_tellsNode 48 = .ok (.aload_n 0, 1) := by decide +kernel
theorem dX11_tellsNode_49 : decode cX11_tellsNode 49 = .ok (.aload_n 0, 1) := by decide +kernel
theorem dX11_tellsNode_50 : decode cX11_tellsNode 50 = .ok (.getfield 73, 3) := by decide +kernel
theorem dX11_tellsNode_53 : decode cX11_tellsNode 53 = .ok (.iload_n 2, 1) := by decide +kernel
theorem dX11_tellsNode_54 : decode cX11_tellsNode 54 = .ok (.iaload, 1) := by decide +kernel
theorem dX11_tellsNode_55 : decode cX11_tellsNode 55 = .ok (.invokevirtual 336, 3) := by decide +kernel
theorem dX11_tellsNode_58 : decode cX11_tellsNode 58 = .ok (.if_icmp .ge 38, 3) := by decide +kernel
theorem dX11_tellsNode_61 : decode cX11_tellsNode 61 = .ok (.aload_n 0, 1) := by decide +kernel
theorem dX11_tellsNode_62 : decode cX11_tellsNode 62 = .ok (.iload_n 3, 1) := by decide +kernel
theorem dX11_tellsNode_63 : decode cX11_tellsNode 63 = .ok (.ifCond .ne 8, 3) := by decide +kernel
theorem dX11_tellsNode_66 : decode cX11_tellsNode 66 = .ok (.bipush 40, 2) := by decide +kernel
theorem dX11_tellsNode_68 : decode cX11_tellsNode 68 = .ok (.goto 5, 3) := by decide +kernel
theorem dX11_tellsNode_71 : decode cX11_tellsNode 71 = .ok (.bipush 44, 2) := by decide +kernel
theorem dX11_tellsNode_73 : decode cX11_tellsNode 73 = .ok (.invokevirtual 477, 3) := by decide +kernel
theorem dX11_tellsNode_76 : decode cX11_tellsNode 76 = .ok (.aload_n 0, 1) := by decide +kernel
theorem dX11_tellsNode_77 : decode cX11_tellsNode 77 = .ok (.aload_n 0, 1) := by decide +kernel
theorem dX11_tellsNode_78 : decode cX11_tellsNode 78 = .ok (.getfield 76, 3) := by decide +kernel
theorem dX11_tellsNode_81 : decode cX11_tellsNode 81 = .ok (.iconst 3, 1) := by decide +kernel
theorem dX11_tellsNode_82 : decode cX11_tellsNode 82 = .ok (.iload_n 2, 1) := by decide +kernel
theorem dX11_tellsNode_83 : decode cX11_tellsNode 83 = .ok (.imul, 1) := by decide +kernel
theorem dX11_tellsNode_84 : decode cX11_tellsNode 84 = .ok (.iload_n 3, 1) := by decide +kernel
theorem dX11_tellsNode_85 : decode cX11_tellsNode 85 = .ok (.iadd, 1) := by decide +kernel
theorem dX11_tellsNode_86 : decode cX11_tellsNode 86 = .ok (.iaload, 1) := by decide +kernel
theorem dX11_tellsNode_87 : decode cX11_tellsNode 87 = .ok (.invokevirtual 499, 3) := by decide +kernel
theorem dX11_tellsNode_90 : decode cX11_tellsNode 90 = .ok (.iinc 3 1, 3) := by decide +kernel
theorem dX11_tellsNode_93 : decode cX11_tellsNode 93 = .ok (.goto (-46), 3) := by decide +kernel
theorem dX11_tellsNode_96 : decode cX11_tellsNode 96 = .ok (.aload_n 0, 1) := by decide +kernel
theorem dX11_tellsNode_97 : decode cX11_tellsNode 97 = .ok (.aload_n 0, 1) := by decide +kernel
theorem dX11_tellsNode_98 : decode cX11_tellsNode 98 = .ok (.getfield 73, 3) := by decide +kernel
theorem dX11_tellsNode_101 : decode cX11_tellsNode 101 = .ok (.iload_n 2, 1) := by decide +kernel
theorem dX11_tellsNode_102 : decode cX11_tellsNode 102 = .ok (.iaload, 1) := by decide +kernel
theorem dX11_tellsNode_103 : decode cX11_tellsNode 103 = .ok (.invokevirtual 336, 3) := by decide +kernel
theorem dX11_tellsNode_106 : decode cX11_tellsNode 106 = .ok (.ifCond .le 9, 3) := by decide +kernel
theorem dX11_tellsNode_109 : decode cX11_tellsNode 109 = .ok (.aload_n 0, 1) := by decide +kernel
theorem dX11_tellsNode_110 : decode cX11_tellsNode 110 = .ok (.bipush 41, 2) := by decide +kernel
theorem dX11_tellsNode_112 : decode cX11_tellsNode 112 = .ok (.invokevirtual 477, 3) := by decide +kernel
theorem dX11_tellsNode_115 : decode cX11_tellsNode 115 = .ok (.return_, 1) := by decide +kernel
set_option maxRecDepth 10000 in
set_option maxHeartbeats 4000000 in
theorem A_X11_tellsNode_73 {Z : az_Z} {d : Nat} (C : az_C Z yX11_tellsNode cX11_tellsNode 4 none d) (hD : 3 ≤ d) (n : Nat) {dr : Nat} {rec : az_Hp → Int → Int → Option az_Hp} (hrec : ∀ {l : Launch} {d' : Nat}, dr ≤ d' → ∀ {σ : az_Hp} {u0 u1 : Int} {r : az_Hp}, rec σ u0 u1 = some r → az_AC l yX11_tellsNode cX11_tellsNode 4 none d' [(13, u0), (0, u1)] σ (none, r)) (hr : dr + 1 ≤ d) {k47 : az_Hp → Int → Int → Int → Option az_Hp} (hk47 : ∀ {σ : az_Hp} {v0 v2 v3 : Int} {r : az_Hp}, k47 σ v0 v2 v3 = some r → az_AW Z 4 47 [(13, v0), (31, 0), (0, v2), (0, v3)] [] σ (none, r)) {σ : az_Hp} {v0 v2 v3 w0 w1 : Int} {r : az_Hp} (h : fz_X11_tellsNode_73 n rec k47 σ v0 v2 v3 w0 w1 = some r) : az_AW Z 4 73 [(13, v0), (31, 0), (0, v2), (0, v3)] [(0, w1), (13, w0)] σ (none, r) := by
  have hd1 : 1 ≤ d := by omega
  unfold fz_X11_tellsNode_73 at h
  refine az_cV1v (pc := 73) (c := 11) C hd1 h mv_X11_tellsByte ml_X11_477 rfl (fun x hx => A_X11_tellsByte (by omega) hx) dX11_tellsNode_73 (fun r1 h => ?_)
  refine az_al0 (pc := 76) C rfl rfl dX11_tellsNode_76 ?_
  refine az_al0 (pc := 77) C rfl rfl dX11_tellsNode_77 ?_
  refine az_getR (pc := 78) (c2 := 13) C h fl_X11_76 rfl rfl dX11_tellsNode_78 (fun h => ?_)
  refine az_ik3 (pc := 81) C dX11_tellsNode_81 ?_
  refine az_il2 (pc := 82) C dX11_tellsNode_82 ?_
  refine az_imul (pc := 83) C dX11_tellsNode_83 ?_
  refine az_il3 (pc := 84) C dX11_tellsNode_84 ?_
  refine az_iadd (pc := 85) C dX11_tellsNode_85 ?_
  refine az_iaload (pc := 86) C h dX11_tellsNode_86 (fun h => ?_)
  refine az_cV1v (pc := 87) (c := 11) C hd1 h mv_X11_tellsNode ml_X11_499 rfl (fun x hx => hrec (by omega) hx) dX11_tellsNode_87 (fun r4 h => ?_)
  refine az_ii3 (pc := 90) C az_n1 rfl rfl dX11_tellsNode_90 ?_
  refine az_goto (pc := 93) (tgt := 47) C dX11_tellsNode_93 (by decide) ?_
  exact (hk47 h)
set_option maxRecDepth 10000 in
set_option maxHeartbeats 4000000 in
theorem A_X11_tellsNode_47 {Z : az_Z} {d : Nat} (C : az_C Z yX11_tellsNode cX11_tellsNode 4 none d) (hD : 3 ≤ d) (n : Nat) {dr : Nat} {rec : az_Hp → Int → Int → Option az_Hp} (hrec : ∀ {l : Launch} {d' : Nat}, dr ≤ d' → ∀ {σ : az_Hp} {u0 u1 : Int} {r : az_Hp}, rec σ u0 u1 = some r → az_AC l yX11_tellsNode cX11_tellsNode 4 none d' [(13, u0), (0, u1)] σ (none, r)) (hr : dr + 1 ≤ d) (k : Nat) : ∀ {σ : az_Hp} {v0 v2 v3 : Int} {r : az_Hp}, fz_X11_tellsNode_47 n rec k σ v0 v2 v3 = some r → az_AW Z 4 47 [(13, v0), (31, 0), (0, v2), (0, v3)] [] σ (none, r) := by
  have hd1 : 1 ≤ d := by omega
  induction k with
  | zero => intro σ v0 v2 v3 r h; simp [fz_X11_tellsNode_47] at h
  | succ k ih =>
    intro σ v0 v2 v3 r h
    unfold fz_X11_tellsNode_47 at h
    refine az_il3 (pc := 47) C dX11_tellsNode_47 ?_
    refine az_al0 (pc := 48) C rfl rfl dX11_tellsNode_48 ?_
    refine az_al0 (pc := 49) C rfl rfl dX11_tellsNode_49 ?_
    refine az_getR (pc := 50) (c2 := 13) C h fl_X11_73 rfl rfl dX11_tellsNode_50 (fun h => ?_)
    refine az_il2 (pc := 53) C dX11_tellsNode_53 ?_
    refine az_iaload (pc := 54) C h dX11_tellsNode_54 (fun h => ?_)
    refine az_cV1pi (pc := 55) (c := 11) C hd1 h mv_X11_takes ml_X11_336 rfl (fun x hx => A_X11_takes (by omega) hx) dX11_tellsNode_55 (fun r3 h => ?_)
    refine az_icmp_ge (pc := 58) (tgt := 96) C h dX11_tellsNode_58 (by decide) (fun _ h => ?_) (fun _ h => ?_)
    · refine az_al0 (pc := 96) C rfl rfl dX11_tellsNode_96 ?_
      refine az_al0 (pc := 97) C rfl rfl dX11_tellsNode_97 ?_
      refine az_getR (pc := 98) (c2 := 13) C h fl_X11_73 rfl rfl dX11_tellsNode_98 (fun h => ?_)
      refine az_il2 (pc := 101) C dX11_tellsNode_101 ?_
      refine az_iaload (pc := 102) C h dX11_tellsNode_102 (fun h => ?_)
      refine az_cV1pi (pc := 103) (c := 11) C hd1 h mv_X11_takes ml_X11_336 rfl (fun x hx => A_X11_takes (by omega) hx) dX11_tellsNode_103 (fun r6 h => ?_)
      refine az_if_le (pc := 106) (tgt := 115) C h dX11_tellsNode_106 (by decide) (fun _ h => ?_) (fun _ h => ?_)
      · obtain rfl := Option.some.inj h
        exact az_return (pc := 115) C dX11_tellsNode_115 rfl
      refine az_al0 (pc := 109) C rfl rfl dX11_tellsNode_109 ?_
      refine az_bk41 (pc := 110) C dX11_tellsNode_110 ?_
      refine az_cV1v (pc := 112) (c := 11) C hd1 h mv_X11_tellsByte ml_X11_477 rfl (fun x hx => A_X11_tellsByte (by omega) hx) dX11_tellsNode_112 (fun r7 h => ?_)
      obtain rfl := Option.some.inj h
      exact az_return (pc := 115) C dX11_tellsNode_115 rfl
    refine az_al0 (pc := 61) C rfl rfl dX11_tellsNode_61 ?_
    refine az_il3 (pc := 62) C dX11_tellsNode_62 ?_
    refine az_if_ne (pc := 63) (tgt := 71) C h dX11_tellsNode_63 (by decide) (fun _ h => ?_) (fun _ h => ?_)
    · refine az_bk44 (pc := 71) C dX11_tellsNode_71 ?_
      exact (A_X11_tellsNode_73 C hD n hrec hr (fun h => ih h) h)
    refine az_bk40 (pc := 66) C dX11_tellsNode_66 ?_
    refine az_goto (pc := 68) (tgt := 73) C dX11_tellsNode_68 (by decide) ?_
    exact (A_X11_tellsNode_73 C hD n hrec hr (fun h => ih h) h)
set_option maxRecDepth 10000 in
set_option maxHeartbeats 4000000 in
theorem A_X11_tellsNode_e {Z : az_Z} {d : Nat} (C : az_C Z yX11_tellsNode cX11_tellsNode 4 none d) (hD : 3 ≤ d) (n : Nat) {dr : Nat} {rec : az_Hp → Int → Int → Option az_Hp} (hrec : ∀ {l : Launch} {d' : Nat}, dr ≤ d' → ∀ {σ : az_Hp} {u0 u1 : Int} {r : az_Hp}, rec σ u0 u1 = some r → az_AC l yX11_tellsNode cX11_tellsNode 4 none d' [(13, u0), (0, u1)] σ (none, r)) (hr : dr + 1 ≤ d) {σ : az_Hp} {v0 v1 : Int} {r : az_Hp} (h : fz_X11_tellsNode_e n rec σ v0 v1 = some r) : az_AW Z 4 0 [(13, v0), (0, v1), (31, 0), (31, 0)] [] σ (none, r) := by
  have hd1 : 1 ≤ d := by omega
  unfold fz_X11_tellsNode_e at h
  refine az_al0 (pc := 0) C rfl rfl dX11_tellsNode_0 ?_
  refine az_il1 (pc := 1) C dX11_tellsNode_1 ?_
  refine az_cV1pi (pc := 2) (c := 11) C hd1 h mv_X11_find ml_X11_438 rfl (fun x hx => A_X11_find (by omega) n hx) dX11_tellsNode_2 (fun r1 h => ?_)
  refine az_is2 (pc := 5) C rfl rfl dX11_tellsNode_5 ?_
  refine az_al0 (pc := 6) C rfl rfl dX11_tellsNode_6 ?_
  refine az_getR (pc := 7) (c2 := 13) C h fl_X11_73 rfl rfl dX11_tellsNode_7 (fun h => ?_)
  refine az_il2 (pc := 10) C dX11_tellsNode_10 ?_
  refine az_iaload (pc := 11) C h dX11_tellsNode_11 (fun h => ?_)
  refine az_cS1pi (pc := 12) C hd1 h ms_X11_isVar ml_X11_288 rfl (fun x hx => A_X11_isVar (by omega) hx) dX11_tellsNode_12 (fun r4 h => ?_)
  refine az_if_eq (pc := 15) (tgt := 31) C h dX11_tellsNode_15 (by decide) (fun _ h => ?_) (fun _ h => ?_)
  · refine az_al0 (pc := 31) C rfl rfl dX11_tellsNode_31 ?_
    refine az_al0 (pc := 32) C rfl rfl dX11_tellsNode_32 ?_
    refine az_al0 (pc := 33) C rfl rfl dX11_tellsNode_33 ?_
    refine az_getR (pc := 34) (c2 := 13) C h fl_X11_73 rfl rfl dX11_tellsNode_34 (fun h => ?_)
    refine az_il2 (pc := 37) C dX11_tellsNode_37 ?_
    refine az_iaload (pc := 38) C h dX11_tellsNode_38 (fun h => ?_)
    refine az_cV1pl (pc := 39) (c := 11) C hd1 h mv_X11_nameOf ml_X11_492 rfl (fun x hx => A_X11_nameOf (by omega) hx) dX11_tellsNode_39 (fun r7 h => ?_)
    refine az_cV1v (pc := 42) (c := 11) C hd1 h mv_X11_tells ml_X11_495 rfl (fun x hx => A_X11_tells (by omega) n hx) dX11_tellsNode_42 (fun r8 h => ?_)
    refine az_ik0 (pc := 45) C dX11_tellsNode_45 ?_
    refine az_is3 (pc := 46) C rfl rfl dX11_tellsNode_46 ?_
    exact (az_wkk (A_X11_tellsNode_47 C hD n hrec hr n h) (az_sE (az_sJ (az_sE (az_sE az_sN)))))
  refine az_al0 (pc := 18) C rfl rfl dX11_tellsNode_18 ?_
  refine az_bk97 (pc := 19) C dX11_tellsNode_19 ?_
  refine az_al0 (pc := 21) C rfl rfl dX11_tellsNode_21 ?_
  refine az_il2 (pc := 22) C dX11_tellsNode_22 ?_
  refine az_cV1ii (pc := 23) (c := 11) C hd1 h mv_X11_letterOf ml_X11_486 rfl (fun x hx => A_X11_letterOf (by omega) n hx) dX11_tellsNode_23 (fun r9 h => ?_)
  refine az_iadd (pc := 26) C dX11_tellsNode_26 ?_
  refine az_cV1v (pc := 27) (c := 11) C hd1 h mv_X11_tellsByte ml_X11_477 rfl (fun x hx => A_X11_tellsByte (by omega) hx) dX11_tellsNode_27 (fun r10 h => ?_)
  obtain rfl := Option.some.inj h
  exact az_return (pc := 30) C dX11_tellsNode_30 rfl
set_option maxRecDepth 10000 in
set_option maxHeartbeats 4000000 in
theorem A_X11_tellsNode {l : Launch} (n : Nat) (D : Nat) : ∀ {d : Nat}, 3 + 1 * D ≤ d → ∀ {σ : az_Hp} {v0 v1 : Int} {r : az_Hp}, fz_X11_tellsNode n D σ v0 v1 = some r → az_AC l yX11_tellsNode cX11_tellsNode 4 none d [(13, v0), (0, v1)] σ (none, r) := by
  induction D generalizing l with
  | zero => intro d hD σ v0 v1 r h; simp [fz_X11_tellsNode] at h
  | succ D ih =>
    intro d hD σ v0 v1 r h
    unfold fz_X11_tellsNode at h
    exact az_AC.of mt_X11_tellsNode rfl rfl rfl (fun Z hZ C => A_X11_tellsNode_e C (by omega) n (dr := 3 + 1 * D) (fun hd => ih hd) (by omega) h)
theorem dX11_ends__0 : decode cX11_ends_ 0 = .ok (.iload_n 3, 1) := by decide +kernel
theorem dX11_ends__1 : decode cX11_ends_ 1 = .ok (.iconst 0, 1) := by decide +kernel
theorem dX11_ends__2 : decode cX11_ends_ 2 = .ok (.iconst 1, 1) := by decide +kernel
theorem dX11_ends__3 : decode cX11_ends_ 3 = .ok (.invokestatic 354, 3) := by decide +kernel
theorem dX11_ends__6 : decode cX11_ends_ 6 = .ok (.ifCond .ne 9, 3) := by decide +kernel
theorem dX11_ends__9 : decode cX11_ends_ 9 = .ok (.aload_n 0, 1) := by decide +kernel
theorem dX11_ends__10 : decode cX11_ends_ 10 = .ok (.iconst 1, 1) := by decide +kernel
theorem dX11_ends__11 : decode cX11_ends_ 11 = .ok (.invokevirtual 372, 3) := by decide +kernel
theorem dX11_ends__14 : decode cX11_ends_ 14 = .ok (.ireturn, 1) := by decide +kernel
theorem dX11_ends__15 : decode cX11_ends_ 15 = .ok (.aload_n 0, 1) := by decide +kernel
theorem dX11_ends__16 : decode cX11_ends_ 16 = .ok (.iload_n 1, 1) := by decide +kernel
theorem dX11_ends__17 : decode cX11_ends_ 17 = .ok (.invokevirtual 471, 3) := by decide +kernel
theorem dX11_ends__20 : decode cX11_ends_ 20 = .ok (.ifCond .eq 11, 3) := by decide +kernel
theorem dX11_ends__23 : decode cX11_ends_ 23 = .ok (.aload_n 0, 1) := by decide +kernel
theorem dX11_ends__24 : decode cX11_ends_ 24 = .ok (.iload_n 2, 1) := by decide +kernel
theorem dX11_ends__25 : decode cX11_ends_ 25 = .ok (.invokevirtual 471, 3) := by decide +kernel
theorem dX11_ends__28 : decode cX11_ends_ 28 = .ok (.ifCond .ne 9, 3) := by decide +kernel
theorem dX11_ends__31 : decode cX11_ends_ 31 = .ok (.aload_n 0, 1) := by decide +kernel
theorem dX11_ends__32 : decode cX11_ends_ 32 = .ok (.iconst 2, 1) := by decide +kernel
theorem dX11_ends__33 : decode cX11_ends_ 33 = .ok (.invokevirtual 372, 3) := by decide +kernel
theorem dX11_ends__36 : decode cX11_ends_ 36 = .ok (.ireturn, 1) := by decide +kernel
theorem dX11_ends__37 : decode cX11_ends_ 37 = .ok (.aload_n 0, 1) := by decide +kernel
theorem dX11_ends__38 : decode cX11_ends_ 38 = .ok (.iload_n 1, 1) := by decide +kernel
theorem dX11_ends__39 : decode cX11_ends_ 39 = .ok (.invokevirtual 474, 3) := by decide +kernel
theorem dX11_ends__42 : decode cX11_ends_ 42 = .ok (.aload_n 0, 1) := by decide +kernel
theorem dX11_ends__43 : decode cX11_ends_ 43 = .ok (.iload_n 2, 1) := by decide +kernel
theorem dX11_ends__44 : decode cX11_ends_ 44 = .ok (.invokevirtual 474, 3) := by decide +kernel
theorem dX11_ends__47 : decode cX11_ends_ 47 = .ok (.if_icmp .ne 13, 3) := by decide +kernel
theorem dX11_ends__50 : decode cX11_ends_ 50 = .ok (.aload_n 0, 1) := by decide +kernel
theorem dX11_ends__51 : decode cX11_ends_ 51 = .ok (.iload_n 1, 1) := by decide +kernel
theorem dX11_ends__52 : decode cX11_ends_ 52 = .ok (.iload_n 2, 1) := by decide +kernel
theorem dX11_ends__53 : decode cX11_ends_ 53 = .ok (.invokevirtual 468, 3) := by decide +kernel
theorem dX11_ends__56 : decode cX11_ends_ 56 = .ok (.iconst 1, 1) := by decide +kernel
theorem dX11_ends__57 : decode cX11_ends_ 57 = .ok (.if_icmp .eq 9, 3) := by decide +kernel
theorem dX11_ends__60 : decode cX11_ends_ 60 = .ok (.aload_n 0, 1) := by decide +kernel
theorem dX11_ends__61 : decode cX11_ends_ 61 = .ok (.iconst 5, 1) := by decide +kernel
theorem dX11_ends__62 : decode cX11_ends_ 62 = .ok (.invokevirtual 372, 3) := by decide +kernel
theorem dX11_ends__65 : decode cX11_ends_ 65 = .ok (.ireturn, 1) := by decide +kernel
theorem dX11_ends__66 : decode cX11_ends_ 66 = .ok (.aload_n 0, 1) := by decide +kernel
theorem dX11_ends__67 : decode cX11_ends_ 67 = .ok (.iconst 0, 1) := by decide +kernel
theorem dX11_ends__68 : decode cX11_ends_ 68 = .ok (.putfield 483, 3) := by decide +kernel
theorem dX11_ends__71 : decode cX11_ends_ 71 = .ok (.aload_n 0, 1) := by decide +kernel
theorem dX11_ends__72 : decode cX11_ends_ 72 = .ok (.aload_n 0, 1) := by decide +kernel
theorem dX11_ends__73 : decode cX11_ends_ 73 = .ok (.getfield 103, 3) := by decide +kernel
theorem dX11_ends__76 : decode cX11_ends_ 76 = .ok (.iconst 0, 1) := by decide +kernel
theorem dX11_ends__77 : decode cX11_ends_ 77 = .ok (.iaload, 1) := by decide +kernel
theorem dX11_ends__78 : decode cX11_ends_ 78 = .ok (.invokevirtual 489, 3) := by decide +kernel
theorem dX11_ends__81 : decode cX11_ends_ 81 = .ok (.aload_n 0, 1) := by decide +kernel
theorem dX11_ends__82 : decode cX11_ends_ 82 = .ok (.iconst 0, 1) := by decide +kernel
theorem dX11_ends__83 : decode cX11_ends_ 83 = .ok (.putfield 480, 3) := by decide +kernel
theorem dX11_ends__86 : decode cX11_ends_ 86 = .ok (.aload_n 0, 1) := by decide +kernel
theorem dX11_ends__87 : decode cX11_ends_ 87 = .ok (.iconst 1, 1) := by decide +kernel
theorem dX11_ends__88 : decode cX11_ends_ 88 = .ok (.putfield 502, 3) := by decide +kernel
theorem dX11_ends__91 : decode cX11_ends_ 91 = .ok (.aload_n 0, 1) := by decide +kernel
theorem dX11_ends__92 : decode cX11_ends_ 92 = .ok (.aload_n 0, 1) := by decide +kernel
theorem dX11_ends__93 : decode cX11_ends_ 93 = .ok (.getfield 103, 3) := by decide +kernel
theorem dX11_ends__96 : decode cX11_ends_ 96 = .ok (.iconst 2, 1) := by decide +kernel
theorem dX11_ends__97 : decode cX11_ends_ 97 = .ok (.iload_n 3, 1) := by decide +kernel
theorem dX11_ends__98 : decode cX11_ends_ 98 = .ok (.iadd, 1) := by decide +kernel
theorem dX11_ends__99 : decode cX11_ends_ 99 = .ok (.iaload, 1) := by decide +kernel
theorem dX11_ends__100 : decode cX11_ends_ 100 = .ok (.invokevirtual 499, 3) := by decide +kernel
theorem dX11_ends__103 : decode cX11_ends_ 103 = .ok (.aload_n 0, 1) := by decide +kernel
theorem dX11_ends__104 : decode cX11_ends_ 104 = .ok (.aload_n 0, 1) := by decide +kernel
theorem dX11_ends__105 : decode cX11_ends_ 105 = .ok (.getfield 480, 3) := by decide +kernel
theorem dX11_ends__108 : decode cX11_ends_ 108 = .ok (.invokevirtual 401, 3) := by decide +kernel
theorem dX11_ends__111 : decode cX11_ends_ 111 = .ok (.ireturn, 1) := by decide +kernel
set_option maxRecDepth 10000 in
set_option maxHeartbeats 4000000 in
theorem A_X11_ends__e {Z : az_Z} {d : Nat} (C : az_C Z yX11_ends_ cX11_ends_ 4 (some .int) d) (hD : 209 ≤ d) (n : Nat) {σ : az_Hp} {v0 v1 v2 v3 : Int} {r : (Int × az_Hp)} (h : fz_X11_ends_ n σ v0 v1 v2 v3 = some r) : az_AW Z 4 0 [(13, v0), (0, v1), (0, v2), (0, v3)] [] σ (some (0, r.1), r.2) := by
  have hd1 : 1 ≤ d := by omega
  unfold fz_X11_ends_ at h
  refine az_il3 (pc := 0) C dX11_ends__0 ?_
  refine az_ik0 (pc := 1) C dX11_ends__1 ?_
  refine az_ik1 (pc := 2) C dX11_ends__2 ?_
  refine az_cS3pi (pc := 3) C hd1 h ms_X11_isFrom ml_X11_354 rfl (fun x hx => A_X11_isFrom (by omega) hx) dX11_ends__3 (fun r1 h => ?_)
  refine az_if_ne (pc := 6) (tgt := 15) C h dX11_ends__6 (by decide) (fun _ h => ?_) (fun _ h => ?_)
  · refine az_al0 (pc := 15) C rfl rfl dX11_ends__15 ?_
    refine az_il1 (pc := 16) C dX11_ends__16 ?_
    refine az_cV1pi (pc := 17) (c := 11) C hd1 h mv_X11_isEquation ml_X11_471 rfl (fun x hx => A_X11_isEquation (by omega) hx) dX11_ends__17 (fun r2 h => ?_)
    refine az_if_eq (pc := 20) (tgt := 31) C h dX11_ends__20 (by decide) (fun _ h => ?_) (fun _ h => ?_)
    · refine az_al0 (pc := 31) C rfl rfl dX11_ends__31 ?_
      refine az_ik2 (pc := 32) C dX11_ends__32 ?_
      refine az_cV1ii (pc := 33) (c := 11) C hd1 h mv_X11_refuse ml_X11_372 rfl (fun x hx => A_X11_refuse (by omega) hx) dX11_ends__33 (fun r3 h => ?_)
      obtain rfl := Option.some.inj h
      exact az_ireturn (pc := 36) C dX11_ends__36 rfl
    refine az_al0 (pc := 23) C rfl rfl dX11_ends__23 ?_
    refine az_il2 (pc := 24) C dX11_ends__24 ?_
    refine az_cV1pi (pc := 25) (c := 11) C hd1 h mv_X11_isEquation ml_X11_471 rfl (fun x hx => A_X11_isEquation (by omega) hx) dX11_ends__25 (fun r4 h => ?_)
    refine az_if_ne (pc := 28) (tgt := 37) C h dX11_ends__28 (by decide) (fun _ h => ?_) (fun _ h => ?_)
    · refine az_al0 (pc := 37) C rfl rfl dX11_ends__37 ?_
      refine az_il1 (pc := 38) C dX11_ends__38 ?_
      refine az_cV1pi (pc := 39) (c := 11) C hd1 h mv_X11_familyOf ml_X11_474 rfl (fun x hx => A_X11_familyOf (by omega) hx) dX11_ends__39 (fun r5 h => ?_)
      refine az_al0 (pc := 42) C rfl rfl dX11_ends__42 ?_
      refine az_il2 (pc := 43) C dX11_ends__43 ?_
      refine az_cV1pi (pc := 44) (c := 11) C hd1 h mv_X11_familyOf ml_X11_474 rfl (fun x hx => A_X11_familyOf (by omega) hx) dX11_ends__44 (fun r6 h => ?_)
      refine az_icmp_ne (pc := 47) (tgt := 60) C h dX11_ends__47 (by decide) (fun _ h => ?_) (fun _ h => ?_)
      · refine az_al0 (pc := 60) C rfl rfl dX11_ends__60 ?_
        refine az_ik5 (pc := 61) C dX11_ends__61 ?_
        refine az_cV1ii (pc := 62) (c := 11) C hd1 h mv_X11_refuse ml_X11_372 rfl (fun x hx => A_X11_refuse (by omega) hx) dX11_ends__62 (fun r7 h => ?_)
        obtain rfl := Option.some.inj h
        exact az_ireturn (pc := 65) C dX11_ends__65 rfl
      refine az_al0 (pc := 50) C rfl rfl dX11_ends__50 ?_
      refine az_il1 (pc := 51) C dX11_ends__51 ?_
      refine az_il2 (pc := 52) C dX11_ends__52 ?_
      refine az_cV2ii (pc := 53) (c := 11) C hd1 h mv_X11_meeting ml_X11_468 rfl (fun x hx => A_X11_meeting (by omega) n hx) dX11_ends__53 (fun r8 h => ?_)
      refine az_ik1 (pc := 56) C dX11_ends__56 ?_
      refine az_icmp_eq (pc := 57) (tgt := 66) C h dX11_ends__57 (by decide) (fun _ h => ?_) (fun _ h => ?_)
      · refine az_al0 (pc := 66) C rfl rfl dX11_ends__66 ?_
        refine az_ik0 (pc := 67) C dX11_ends__67 ?_
        refine az_putI (pc := 68) C fl_X11_483 (Or.inl rfl) rfl dX11_ends__68 ?_
        refine az_al0 (pc := 71) C rfl rfl dX11_ends__71 ?_
        refine az_al0 (pc := 72) C rfl rfl dX11_ends__72 ?_
        refine az_getR (pc := 73) (c2 := 13) C h fl_X11_103 rfl rfl dX11_ends__73 (fun h => ?_)
        refine az_ik0 (pc := 76) C dX11_ends__76 ?_
        refine az_iaload (pc := 77) C h dX11_ends__77 (fun h => ?_)
        refine az_cV1v (pc := 78) (c := 11) C hd1 h mv_X11_lettersIn ml_X11_489 rfl (fun x hx => A_X11_lettersIn n 200 (by omega) hx) dX11_ends__78 (fun r11 h => ?_)
        refine az_al0 (pc := 81) C rfl rfl dX11_ends__81 ?_
        refine az_ik0 (pc := 82) C dX11_ends__82 ?_
        refine az_putI (pc := 83) C fl_X11_480 (Or.inl rfl) rfl dX11_ends__83 ?_
        refine az_al0 (pc := 86) C rfl rfl dX11_ends__86 ?_
        refine az_ik1 (pc := 87) C dX11_ends__87 ?_
        refine az_putZc (pc := 88) C (by decide) fl_X11_502 (Or.inl rfl) rfl dX11_ends__88 ?_
        refine az_al0 (pc := 91) C rfl rfl dX11_ends__91 ?_
        refine az_al0 (pc := 92) C rfl rfl dX11_ends__92 ?_
        refine az_getR (pc := 93) (c2 := 13) C h fl_X11_103 rfl rfl dX11_ends__93 (fun h => ?_)
        refine az_ik2 (pc := 96) C dX11_ends__96 ?_
        refine az_il3 (pc := 97) C dX11_ends__97 ?_
        refine az_iadd (pc := 98) C dX11_ends__98 ?_
        refine az_iaload (pc := 99) C h dX11_ends__99 (fun h => ?_)
        refine az_cV1v (pc := 100) (c := 11) C hd1 h mv_X11_tellsNode ml_X11_499 rfl (fun x hx => A_X11_tellsNode n 200 (by omega) hx) dX11_ends__100 (fun r14 h => ?_)
        refine az_al0 (pc := 103) C rfl rfl dX11_ends__103 ?_
        refine az_al0 (pc := 104) C rfl rfl dX11_ends__104 ?_
        refine az_getI (pc := 105) C fl_X11_480 rfl dX11_ends__105 ?_
        refine az_cV1ii (pc := 108) (c := 11) C hd1 h mv_X11_gives ml_X11_401 rfl (fun x hx => A_X11_gives (by omega) hx) dX11_ends__108 (fun r15 h => ?_)
        obtain rfl := Option.some.inj h
        exact az_ireturn (pc := 111) C dX11_ends__111 rfl
      refine az_al0 (pc := 60) C rfl rfl dX11_ends__60 ?_
      refine az_ik5 (pc := 61) C dX11_ends__61 ?_
      refine az_cV1ii (pc := 62) (c := 11) C hd1 h mv_X11_refuse ml_X11_372 rfl (fun x hx => A_X11_refuse (by omega) hx) dX11_ends__62 (fun r16 h => ?_)
      obtain rfl := Option.some.inj h
      exact az_ireturn (pc := 65) C dX11_ends__65 rfl
    refine az_al0 (pc := 31) C rfl rfl dX11_ends__31 ?_
    refine az_ik2 (pc := 32) C dX11_ends__32 ?_
    refine az_cV1ii (pc := 33) (c := 11) C hd1 h mv_X11_refuse ml_X11_372 rfl (fun x hx => A_X11_refuse (by omega) hx) dX11_ends__33 (fun r17 h => ?_)
    obtain rfl := Option.some.inj h
    exact az_ireturn (pc := 36) C dX11_ends__36 rfl
  refine az_al0 (pc := 9) C rfl rfl dX11_ends__9 ?_
  refine az_ik1 (pc := 10) C dX11_ends__10 ?_
  refine az_cV1ii (pc := 11) (c := 11) C hd1 h mv_X11_refuse ml_X11_372 rfl (fun x hx => A_X11_refuse (by omega) hx) dX11_ends__11 (fun r18 h => ?_)
  obtain rfl := Option.some.inj h
  exact az_ireturn (pc := 14) C dX11_ends__14 rfl
set_option maxRecDepth 10000 in
set_option maxHeartbeats 4000000 in
theorem A_X11_ends_ {l : Launch} {d : Nat} (hD : 209 ≤ d) (n : Nat) {σ : az_Hp} {v0 v1 v2 v3 : Int} {r : (Int × az_Hp)} (h : fz_X11_ends_ n σ v0 v1 v2 v3 = some r) : az_AC l yX11_ends_ cX11_ends_ 4 (some .int) d [(13, v0), (0, v1), (0, v2), (0, v3)] σ (some (0, r.1), r.2) := az_AC.of mt_X11_ends_ rfl rfl rfl (fun Z hZ C => A_X11_ends__e C hD n h)
theorem dX11_often_0 : decode cX11_often 0 = .ok (.iconst 0, 1) := by decide +kernel
theorem dX11_often_1 : decode cX11_often 1 = .ok (.istore 4, 2) := by decide +kernel
theorem dX11_often_3 : decode cX11_often 3 = .ok (.iconst 0, 1) := by decide +kernel
theorem dX11_often_4 : decode cX11_often 4 = .ok (.istore 5, 2) := by decide +kernel
theorem dX11_often_6 : decode cX11_often 6 = .ok (.iload 5, 2) := by decide +kernel
theorem dX11_often_8 : decode cX11_often 8 = .ok (.iload_n 2, 1) := by decide +kernel
theorem dX11_often_9 : decode cX11_often 9 = .ok (.if_icmp .ge 29, 3) := by decide +kernel
theorem dX11_often_12 : decode cX11_often 12 = .ok (.iload 4, 2) := by decide +kernel
theorem dX11_often_14 : decode cX11_often 14 = .ok (.aload_n 0, 1) := by decide +kernel
theorem dX11_often_15 : decode cX11_often 15 = .ok (.iload_n 1, 1) := by decide +kernel
theorem dX11_often_16 : decode cX11_often 16 = .ok (.iload 5, 2) := by decide +kernel
theorem dX11_often_18 : decode cX11_often 18 = .ok (.iadd, 1) := by decide +kernel
theorem dX11_often_19 : decode cX11_often 19 = .ok (.iaload, 1) := by decide +kernel
theorem dX11_often_20 : decode cX11_often 20 = .ok (.iload_n 3, 1) := by decide +kernel
theorem dX11_often_21 : decode cX11_often 21 = .ok (.if_icmp .ne 7, 3) := by decide +kernel
theorem dX11_often_24 : decode cX11_often 24 = .ok (.iconst 1, 1) := by decide +kernel
theorem dX11_often_25 : decode cX11_often 25 = .ok (.goto 4, 3) := by decide +kernel
theorem dX11_often_28 : decode cX11_often 28 = .ok (.iconst 0, 1) := by decide +kernel
theorem dX11_often_29 : decode cX11_often 29 = .ok (.iadd, 1) := by decide +kernel
theorem dX11_often_30 : decode cX11_often 30 = .ok (.istore 4, 2) := by decide +kernel
theorem dX11_often_32 : decode cX11_often 32 = .ok (.iinc 5 1, 3) := by decide +kernel
theorem dX11_often_35 : decode cX11_often 35 = .ok (.goto (-29), 3) := by decide +kernel
theorem dX11_often_38 : decode cX11_often 38 = .ok (.iload 4, 2) := by decide +kernel
theorem dX11_often_40 : decode cX11_often 40 = .ok (.ireturn, 1) := by decide +kernel
set_option maxRecDepth 10000 in
set_option maxHeartbeats 4000000 in
theorem A_X11_often_6 {Z : az_Z} {d : Nat} (C : az_C Z yX11_often cX11_often 6 (some .int) d) (hD : 1 ≤ d) (n : Nat) (k : Nat) : ∀ {σ : az_Hp} {v0 v1 v2 v3 v4 v5 : Int} {r : Int}, fz_X11_often_6 n k σ v0 v1 v2 v3 v4 v5 = some r → az_AW Z 6 6 [(15, v0), (0, v1), (0, v2), (0, v3), (0, v4), (0, v5)] [] σ (some (0, r), σ) := by
  have hd1 : 1 ≤ d := by omega
  induction k with
  | zero => intro σ v0 v1 v2 v3 v4 v5 r h; simp [fz_X11_often_6] at h
  | succ k ih =>
    intro σ v0 v1 v2 v3 v4 v5 r h
    unfold fz_X11_often_6 at h
    refine az_il5 (pc := 6) C dX11_often_6 ?_
    refine az_il2 (pc := 8) C dX11_often_8 ?_
    refine az_icmp_ge (pc := 9) (tgt := 38) C h dX11_often_9 (by decide) (fun _ h => ?_) (fun _ h => ?_)
    · refine az_il4 (pc := 38) C dX11_often_38 ?_
      obtain rfl := Option.some.inj h
      exact az_ireturn (pc := 40) C dX11_often_40 rfl
    refine az_il4 (pc := 12) C dX11_often_12 ?_
    refine az_al0 (pc := 14) C rfl rfl dX11_often_14 ?_
    refine az_il1 (pc := 15) C dX11_often_15 ?_
    refine az_il5 (pc := 16) C dX11_often_16 ?_
    refine az_iadd (pc := 18) C dX11_often_18 ?_
    refine az_iaload (pc := 19) C h dX11_often_19 (fun h => ?_)
    refine az_il3 (pc := 20) C dX11_often_20 ?_
    refine az_icmp_ne (pc := 21) (tgt := 28) C h dX11_often_21 (by decide) (fun _ h => ?_) (fun _ h => ?_)
    · refine az_ik0 (pc := 28) C dX11_often_28 ?_
      refine az_iadd (pc := 29) C dX11_often_29 ?_
      refine az_is4 (pc := 30) C rfl rfl dX11_often_30 ?_
      refine az_ii5 (pc := 32) C az_n1 rfl rfl dX11_often_32 ?_
      refine az_goto (pc := 35) (tgt := 6) C dX11_often_35 (by decide) ?_
      exact (ih h)
    refine az_ik1 (pc := 24) C dX11_often_24 ?_
    refine az_goto (pc := 25) (tgt := 29) C dX11_often_25 (by decide) ?_
    refine az_iadd (pc := 29) C dX11_often_29 ?_
    refine az_is4 (pc := 30) C rfl rfl dX11_often_30 ?_
    refine az_ii5 (pc := 32) C az_n1 rfl rfl dX11_often_32 ?_
    refine az_goto (pc := 35) (tgt := 6) C dX11_often_35 (by decide) ?_
    exact (ih h)
set_option maxRecDepth 10000 in
set_option maxHeartbeats 4000000 in
theorem A_X11_often_e {Z : az_Z} {d : Nat} (C : az_C Z yX11_often cX11_often 6 (some .int) d) (hD : 1 ≤ d) (n : Nat) {σ : az_Hp} {v0 v1 v2 v3 : Int} {r : Int} (h : fz_X11_often n σ v0 v1 v2 v3 = some r) : az_AW Z 6 0 [(15, v0), (0, v1), (0, v2), (0, v3), (31, 0), (31, 0)] [] σ (some (0, r), σ) := by
  have hd1 : 1 ≤ d := by omega
  unfold fz_X11_often at h
  refine az_ik0 (pc := 0) C dX11_often_0 ?_
  refine az_is4 (pc := 1) C rfl rfl dX11_often_1 ?_
  refine az_ik0 (pc := 3) C dX11_often_3 ?_
  refine az_is5 (pc := 4) C rfl rfl dX11_often_4 ?_
  exact (A_X11_often_6 C hD n n h)
set_option maxRecDepth 10000 in
set_option maxHeartbeats 4000000 in
theorem A_X11_often {l : Launch} {d : Nat} (hD : 1 ≤ d) (n : Nat) {σ : az_Hp} {v0 v1 v2 v3 : Int} {r : Int} (h : fz_X11_often n σ v0 v1 v2 v3 = some r) : az_AC l yX11_often cX11_often 6 (some .int) d [(15, v0), (0, v1), (0, v2), (0, v3)] σ (some (0, r), σ) := az_AC.of mt_X11_often rfl rfl rfl (fun Z hZ C => A_X11_often_e C hD n h)
theorem dX11_unboundBy_0 : decode cX11_unboundBy 0 = .ok (.aload_n 0, 1) := by decide +kernel
theorem dX11_unboundBy_1 : decode cX11_unboundBy 1 = .ok (.aload_n 0, 1) := by decide +kernel
theorem dX11_unboundBy_2 : decode cX11_unboundBy 2 = .ok (.getfield 52, 3) := by decide +kernel
theorem dX11_unboundBy_5 : decode cX11_unboundBy 5 = .ok (.iload_n 2, 1) := by decide +kernel
theorem dX11_unboundBy_6 : decode cX11_unboundBy 6 = .ok (.invokevirtual 416, 3) := by decide +kernel
theorem dX11_unboundBy_9 : decode cX11_unboundBy 9 = .ok (.istore_n 3, 1) := by decide +kernel
theorem dX11_unboundBy_10 : decode cX11_unboundBy 10 = .ok (.iconst 1, 1) := by decide +kernel
theorem dX11_unboundBy_11 : decode cX11_unboundBy 11 = .ok (.istore 4, 2) := by decide +kernel
theorem dX11_unboundBy_13 : decode cX11_unboundBy 13 = .ok (.iload 4, 2) := by decide +kernel
theorem dX11_unboundBy_15 : decode cX11_unboundBy 15 = .ok (.iload_n 3, 1) := by decide +kernel
theorem dX11_unboundBy_16 : decode cX11_unboundBy 16 = .ok (.if_icmp .ge 26, 3) := by decide +kernel
theorem dX11_unboundBy_19 : decode cX11_unboundBy 19 = .ok (.aload_n 0, 1) := by decide +kernel
theorem dX11_unboundBy_20 : decode cX11_unboundBy 20 = .ok (.getfield 52, 3) := by decide +kernel
theorem dX11_unboundBy_23 : decode cX11_unboundBy 23 = .ok (.iload_n 2, 1) := by decide +kernel
theorem dX11_unboundBy_24 : decode cX11_unboundBy 24 = .ok (.iload 4, 2) := by decide +kernel
theorem dX11_unboundBy_26 : decode cX11_unboundBy 26 = .ok (.iadd, 1) := by decide +kernel
theorem dX11_unboundBy_27 : decode cX11_unboundBy 27 = .ok (.iaload, 1) := by decide +kernel
theorem dX11_unboundBy_28 : decode cX11_unboundBy 28 = .ok (.invokestatic 291, 3) := by decide +kernel
theorem dX11_unboundBy_31 : decode cX11_unboundBy 31 = .ok (.ifCond .eq 5, 3) := by decide +kernel
theorem dX11_unboundBy_34 : decode cX11_unboundBy 34 = .ok (.iconst 1, 1) := by decide +kernel
theorem dX11_unboundBy_35 : decode cX11_unboundBy 35 = .ok (.ireturn, 1) := by decide +kernel
theorem dX11_unboundBy_36 : decode cX11_unboundBy 36 = .ok (.iinc 4 1, 3) := by decide +kernel
theorem dX11_unboundBy_39 : decode cX11_unboundBy 39 = .ok (.goto (-26), 3) := by decide +kernel
theorem dX11_unboundBy_42 : decode cX11_unboundBy 42 = .ok (.iload_n 3, 1) := by decide +kernel
theorem dX11_unboundBy_43 : decode cX11_unboundBy 43 = .ok (.aload_n 0, 1) := by decide +kernel
theorem dX11_unboundBy_44 : decode cX11_unboundBy 44 = .ok (.getfield 55, 3) := by decide +kernel
theorem dX11_unboundBy_47 : decode cX11_unboundBy 47 = .ok (.aload_n 0, 1) := by decide +kernel
theorem dX11_unboundBy_48 : decode cX11_unboundBy 48 = .ok (.iload_n 1, 1) := by decide +kernel
theorem dX11_unboundBy_49 : decode cX11_unboundBy 49 = .ok (.invokevirtual 358, 3) := by decide +kernel
theorem dX11_unboundBy_52 : decode cX11_unboundBy 52 = .ok (.iaload, 1) := by decide +kernel
theorem dX11_unboundBy_53 : decode cX11_unboundBy 53 = .ok (.if_icmp .lt 5, 3) := by decide +kernel
theorem dX11_unboundBy_56 : decode cX11_unboundBy 56 = .ok (.iconst 2, 1) := by decide +kernel
theorem dX11_unboundBy_57 : decode cX11_unboundBy 57 = .ok (.ireturn, 1) := by decide +kernel
theorem dX11_unboundBy_58 : decode cX11_unboundBy 58 = .ok (.iconst 0, 1) := by decide +kernel
theorem dX11_unboundBy_59 : decode cX11_unboundBy 59 = .ok (.istore 4, 2) := by decide +kernel
theorem dX11_unboundBy_61 : decode cX11_unboundBy 61 = .ok (.iload 4, 2) := by decide +kernel
theorem dX11_unboundBy_63 : decode cX11_unboundBy 63 = .ok (.aload_n 0, 1) := by decide +kernel
theorem dX11_unboundBy_64 : decode cX11_unboundBy 64 = .ok (.getfield 61, 3) := by decide +kernel
theorem dX11_unboundBy_67 : decode cX11_unboundBy 67 = .ok (.aload_n 0, 1) := by decide +kernel
theorem dX11_unboundBy_68 : decode cX11_unboundBy 68 = .ok (.iload_n 1, 1) := by decide +kernel
theorem dX11_unboundBy_69 : decode cX11_unboundBy 69 = .ok (.invokevirtual 358, 3) := by decide +kernel
theorem dX11_unboundBy_72 : decode cX11_unboundBy 72 = .ok (.iaload, 1) := by decide +kernel
theorem dX11_unboundBy_73 : decode cX11_unboundBy 73 = .ok (.if_icmp .ge 60, 3) := by decide +kernel
theorem dX11_unboundBy_76 : decode cX11_unboundBy 76 = .ok (.aload_n 0, 1) := by decide +kernel
theorem dX11_unboundBy_77 : decode cX11_unboundBy 77 = .ok (.getfield 52, 3) := by decide +kernel
theorem dX11_unboundBy_80 : decode cX11_unboundBy 80 = .ok (.iload_n 2, 1) := by decide +kernel
theorem dX11_unboundBy_81 : decode cX11_unboundBy 81 = .ok (.iload_n 3, 1) := by decide +kernel
theorem dX11_unboundBy_82 : decode cX11_unboundBy 82 = .ok (.sipush 1000, 3) := by decide +kernel
theorem dX11_unboundBy_85 : decode cX11_unboundBy 85 = .ok (.iload 4, 2) := by decide +kernel
theorem dX11_unboundBy_87 : decode cX11_unboundBy 87 = .ok (.iadd, 1) := by decide +kernel
theorem dX11_unboundBy_88 : decode cX11_unboundBy 88 = .ok (.invokestatic 550, 3) := by decide +kernel
theorem dX11_unboundBy_91 : decode cX11_unboundBy 91 = .ok (.aload_n 0, 1) := by decide +kernel
theorem dX11_unboundBy_92 : decode cX11_unboundBy 92 = .ok (.getfield 49, 3) := by decide +kernel
theorem dX11_unboundBy_95 : decode cX11_unboundBy 95 = .ok (.bipush 16, 2) := by decide +kernel
theorem dX11_unboundBy_97 : decode cX11_unboundBy 97 = .ok (.aload_n 0, 1) := by decide +kernel
theorem dX11_unboundBy_98 : decode cX11_unboundBy 98 = .ok (.iload_n 1, 1) := by decide +kernel
theorem dX11_unboundBy_99 : decode cX11_unboundBy 99 = .ok (.invokevirtual 358, 3) := by decide +kernel
theorem dX11_unboundBy_102 : decode cX11_unboundBy 102 = .ok (.imul, 1) := by decide +kernel
theorem dX11_unboundBy_103 : decode cX11_unboundBy 103 = .ok (.aload_n 0, 1) := by decide +kernel
theorem dX11_unboundBy_104 : decode cX11_unboundBy 104 = .ok (.getfield 55, 3) := by decide +kernel
theorem dX11_unboundBy_107 : decode cX11_unboundBy 107 = .ok (.aload_n 0, 1) := by decide +kernel
theorem dX11_unboundBy_108 : decode cX11_unboundBy 108 = .ok (.iload_n 1, 1) := by decide +kernel
theorem dX11_unboundBy_109 : decode cX11_unboundBy 109 = .ok (.invokevirtual 358, 3) := by decide +kernel
theorem dX11_unboundBy_112 : decode cX11_unboundBy 112 = .ok (.iaload, 1) := by decide +kernel
theorem dX11_unboundBy_113 : decode cX11_unboundBy 113 = .ok (.sipush 1000, 3) := by decide +kernel
theorem dX11_unboundBy_116 : decode cX11_unboundBy 116 = .ok (.iload 4, 2) := by decide +kernel
theorem dX11_unboundBy_118 : decode cX11_unboundBy 118 = .ok (.iadd, 1) := by decide +kernel
theorem dX11_unboundBy_119 : decode cX11_unboundBy 119 = .ok (.invokestatic 550, 3) := by decide +kernel
theorem dX11_unboundBy_122 : decode cX11_unboundBy 122 = .ok (.if_icmp .le 5, 3) := by decide +kernel
theorem dX11_unboundBy_125 : decode cX11_unboundBy 125 = .ok (.iconst 3, 1) := by decide +kernel
theorem dX11_unboundBy_126 : decode cX11_unboundBy 126 = .ok (.ireturn, 1) := by decide +kernel
theorem dX11_unboundBy_127 : decode cX11_unboundBy 127 = .ok (.iinc 4 1, 3) := by decide +kernel
theorem dX11_unboundBy_130 : decode cX11_unboundBy 130 = .ok (.goto (-69), 3) := by decide +kernel
theorem dX11_unboundBy_133 : decode cX11_unboundBy 133 = .ok (.iconst 4, 1) := by decide +kernel
theorem dX11_unboundBy_134 : decode cX11_unboundBy 134 = .ok (.ireturn, 1) := by decide +kernel
set_option maxRecDepth 10000 in
set_option maxHeartbeats 4000000 in
theorem A_X11_unboundBy_61 {Z : az_Z} {d : Nat} (C : az_C Z yX11_unboundBy cX11_unboundBy 5 (some .int) d) (hD : 4 ≤ d) (n : Nat) (k : Nat) : ∀ {σ : az_Hp} {v0 v1 v2 v3 v4 : Int} {r : Int}, fz_X11_unboundBy_61 n k σ v0 v1 v2 v3 v4 = some r → az_AW Z 5 61 [(13, v0), (0, v1), (0, v2), (0, v3), (0, v4)] [] σ (some (0, r), σ) := by
  have hd1 : 1 ≤ d := by omega
  induction k with
  | zero => intro σ v0 v1 v2 v3 v4 r h; simp [fz_X11_unboundBy_61] at h
  | succ k ih =>
    intro σ v0 v1 v2 v3 v4 r h
    unfold fz_X11_unboundBy_61 at h
    refine az_il4 (pc := 61) C dX11_unboundBy_61 ?_
    refine az_al0 (pc := 63) C rfl rfl dX11_unboundBy_63 ?_
    refine az_getR (pc := 64) (c2 := 13) C h fl_X11_61 rfl rfl dX11_unboundBy_64 (fun h => ?_)
    refine az_al0 (pc := 67) C rfl rfl dX11_unboundBy_67 ?_
    refine az_il1 (pc := 68) C dX11_unboundBy_68 ?_
    refine az_cV1pi (pc := 69) (c := 11) C hd1 h mv_X11_eqAt ml_X11_358 rfl (fun x hx => A_X11_eqAt (by omega) hx) dX11_unboundBy_69 (fun r2 h => ?_)
    refine az_iaload (pc := 72) C h dX11_unboundBy_72 (fun h => ?_)
    refine az_icmp_ge (pc := 73) (tgt := 133) C h dX11_unboundBy_73 (by decide) (fun _ h => ?_) (fun _ h => ?_)
    · refine az_ik4 (pc := 133) C dX11_unboundBy_133 ?_
      obtain rfl := Option.some.inj h
      exact az_ireturn (pc := 134) C dX11_unboundBy_134 rfl
    refine az_al0 (pc := 76) C rfl rfl dX11_unboundBy_76 ?_
    refine az_getR (pc := 77) (c2 := 13) C h fl_X11_52 rfl rfl dX11_unboundBy_77 (fun h => ?_)
    refine az_il2 (pc := 80) C dX11_unboundBy_80 ?_
    refine az_il3 (pc := 81) C dX11_unboundBy_81 ?_
    refine az_sk1000 (pc := 82) C dX11_unboundBy_82 ?_
    refine az_il4 (pc := 85) C dX11_unboundBy_85 ?_
    refine az_iadd (pc := 87) C dX11_unboundBy_87 ?_
    refine az_cS4pi (pc := 88) C hd1 h ms_X11_often ml_X11_550 rfl (fun x hx => A_X11_often (by omega) n hx) dX11_unboundBy_88 (fun r5 h => ?_)
    refine az_al0 (pc := 91) C rfl rfl dX11_unboundBy_91 ?_
    refine az_getR (pc := 92) (c2 := 13) C h fl_X11_49 rfl rfl dX11_unboundBy_92 (fun h => ?_)
    refine az_bk16 (pc := 95) C dX11_unboundBy_95 ?_
    refine az_al0 (pc := 97) C rfl rfl dX11_unboundBy_97 ?_
    refine az_il1 (pc := 98) C dX11_unboundBy_98 ?_
    refine az_cV1pi (pc := 99) (c := 11) C hd1 h mv_X11_eqAt ml_X11_358 rfl (fun x hx => A_X11_eqAt (by omega) hx) dX11_unboundBy_99 (fun r7 h => ?_)
    refine az_imul (pc := 102) C dX11_unboundBy_102 ?_
    refine az_al0 (pc := 103) C rfl rfl dX11_unboundBy_103 ?_
    refine az_getR (pc := 104) (c2 := 13) C h fl_X11_55 rfl rfl dX11_unboundBy_104 (fun h => ?_)
    refine az_al0 (pc := 107) C rfl rfl dX11_unboundBy_107 ?_
    refine az_il1 (pc := 108) C dX11_unboundBy_108 ?_
    refine az_cV1pi (pc := 109) (c := 11) C hd1 h mv_X11_eqAt ml_X11_358 rfl (fun x hx => A_X11_eqAt (by omega) hx) dX11_unboundBy_109 (fun r9 h => ?_)
    refine az_iaload (pc := 112) C h dX11_unboundBy_112 (fun h => ?_)
    refine az_sk1000 (pc := 113) C dX11_unboundBy_113 ?_
    refine az_il4 (pc := 116) C dX11_unboundBy_116 ?_
    refine az_iadd (pc := 118) C dX11_unboundBy_118 ?_
    refine az_cS4pi (pc := 119) C hd1 h ms_X11_often ml_X11_550 rfl (fun x hx => A_X11_often (by omega) n hx) dX11_unboundBy_119 (fun r11 h => ?_)
    refine az_icmp_le (pc := 122) (tgt := 127) C h dX11_unboundBy_122 (by decide) (fun _ h => ?_) (fun _ h => ?_)
    · refine az_ii4 (pc := 127) C az_n1 rfl rfl dX11_unboundBy_127 ?_
      refine az_goto (pc := 130) (tgt := 61) C dX11_unboundBy_130 (by decide) ?_
      exact (ih h)
    refine az_ik3 (pc := 125) C dX11_unboundBy_125 ?_
    obtain rfl := Option.some.inj h
    exact az_ireturn (pc := 126) C dX11_unboundBy_126 rfl
set_option maxRecDepth 10000 in
set_option maxHeartbeats 4000000 in
theorem A_X11_unboundBy_13 {Z : az_Z} {d : Nat} (C : az_C Z yX11_unboundBy cX11_unboundBy 5 (some .int) d) (hD : 4 ≤ d) (n : Nat) (k : Nat) : ∀ {σ : az_Hp} {v0 v1 v2 v3 v4 : Int} {r : Int}, fz_X11_unboundBy_13 n k σ v0 v1 v2 v3 v4 = some r → az_AW Z 5 13 [(13, v0), (0, v1), (0, v2), (0, v3), (0, v4)] [] σ (some (0, r), σ) := by
  have hd1 : 1 ≤ d := by omega
  induction k with
  | zero => intro σ v0 v1 v2 v3 v4 r h; simp [fz_X11_unboundBy_13] at h
  | succ k ih =>
    intro σ v0 v1 v2 v3 v4 r h
    unfold fz_X11_unboundBy_13 at h
    refine az_il4 (pc := 13) C dX11_unboundBy_13 ?_
    refine az_il3 (pc := 15) C dX11_unboundBy_15 ?_
    refine az_icmp_ge (pc := 16) (tgt := 42) C h dX11_unboundBy_16 (by decide) (fun _ h => ?_) (fun _ h => ?_)
    · refine az_il3 (pc := 42) C dX11_unboundBy_42 ?_
      refine az_al0 (pc := 43) C rfl rfl dX11_unboundBy_43 ?_
      refine az_getR (pc := 44) (c2 := 13) C h fl_X11_55 rfl rfl dX11_unboundBy_44 (fun h => ?_)
      refine az_al0 (pc := 47) C rfl rfl dX11_unboundBy_47 ?_
      refine az_il1 (pc := 48) C dX11_unboundBy_48 ?_
      refine az_cV1pi (pc := 49) (c := 11) C hd1 h mv_X11_eqAt ml_X11_358 rfl (fun x hx => A_X11_eqAt (by omega) hx) dX11_unboundBy_49 (fun r2 h => ?_)
      refine az_iaload (pc := 52) C h dX11_unboundBy_52 (fun h => ?_)
      refine az_icmp_lt (pc := 53) (tgt := 58) C h dX11_unboundBy_53 (by decide) (fun _ h => ?_) (fun _ h => ?_)
      · refine az_ik0 (pc := 58) C dX11_unboundBy_58 ?_
        refine az_is4 (pc := 59) C rfl rfl dX11_unboundBy_59 ?_
        exact (A_X11_unboundBy_61 C hD n n h)
      refine az_ik2 (pc := 56) C dX11_unboundBy_56 ?_
      obtain rfl := Option.some.inj h
      exact az_ireturn (pc := 57) C dX11_unboundBy_57 rfl
    refine az_al0 (pc := 19) C rfl rfl dX11_unboundBy_19 ?_
    refine az_getR (pc := 20) (c2 := 13) C h fl_X11_52 rfl rfl dX11_unboundBy_20 (fun h => ?_)
    refine az_il2 (pc := 23) C dX11_unboundBy_23 ?_
    refine az_il4 (pc := 24) C dX11_unboundBy_24 ?_
    refine az_iadd (pc := 26) C dX11_unboundBy_26 ?_
    refine az_iaload (pc := 27) C h dX11_unboundBy_27 (fun h => ?_)
    refine az_cS1pi (pc := 28) C hd1 h ms_X11_isFam ml_X11_291 rfl (fun x hx => A_X11_isFam (by omega) hx) dX11_unboundBy_28 (fun r6 h => ?_)
    refine az_if_eq (pc := 31) (tgt := 36) C h dX11_unboundBy_31 (by decide) (fun _ h => ?_) (fun _ h => ?_)
    · refine az_ii4 (pc := 36) C az_n1 rfl rfl dX11_unboundBy_36 ?_
      refine az_goto (pc := 39) (tgt := 13) C dX11_unboundBy_39 (by decide) ?_
      exact (ih h)
    refine az_ik1 (pc := 34) C dX11_unboundBy_34 ?_
    obtain rfl := Option.some.inj h
    exact az_ireturn (pc := 35) C dX11_unboundBy_35 rfl
set_option maxRecDepth 10000 in
set_option maxHeartbeats 4000000 in
theorem A_X11_unboundBy_e {Z : az_Z} {d : Nat} (C : az_C Z yX11_unboundBy cX11_unboundBy 5 (some .int) d) (hD : 4 ≤ d) (n : Nat) {σ : az_Hp} {v0 v1 v2 : Int} {r : Int} (h : fz_X11_unboundBy n σ v0 v1 v2 = some r) : az_AW Z 5 0 [(13, v0), (0, v1), (0, v2), (31, 0), (31, 0)] [] σ (some (0, r), σ) := by
  have hd1 : 1 ≤ d := by omega
  unfold fz_X11_unboundBy at h
  refine az_al0 (pc := 0) C rfl rfl dX11_unboundBy_0 ?_
  refine az_al0 (pc := 1) C rfl rfl dX11_unboundBy_1 ?_
  refine az_getR (pc := 2) (c2 := 13) C h fl_X11_52 rfl rfl dX11_unboundBy_2 (fun h => ?_)
  refine az_il2 (pc := 5) C dX11_unboundBy_5 ?_
  refine az_cV2pi (pc := 6) (c := 11) C hd1 h mv_X11_sizeAt ml_X11_416 rfl (fun x hx => A_X11_sizeAt (by omega) n hx) dX11_unboundBy_6 (fun r2 h => ?_)
  refine az_is3 (pc := 9) C rfl rfl dX11_unboundBy_9 ?_
  refine az_ik1 (pc := 10) C dX11_unboundBy_10 ?_
  refine az_is4 (pc := 11) C rfl rfl dX11_unboundBy_11 ?_
  exact (A_X11_unboundBy_13 C hD n n h)
set_option maxRecDepth 10000 in
set_option maxHeartbeats 4000000 in
theorem A_X11_unboundBy {l : Launch} {d : Nat} (hD : 4 ≤ d) (n : Nat) {σ : az_Hp} {v0 v1 v2 : Int} {r : Int} (h : fz_X11_unboundBy n σ v0 v1 v2 = some r) : az_AC l yX11_unboundBy cX11_unboundBy 5 (some .int) d [(13, v0), (0, v1), (0, v2)] σ (some (0, r), σ) := az_AC.of mt_X11_unboundBy rfl rfl rfl (fun Z hZ C => A_X11_unboundBy_e C hD n h)
theorem dX11_unbound_0 : decode cX11_unbound 0 = .ok (.iconst 4, 1) := by decide +kernel
theorem dX11_unbound_1 : decode cX11_unbound 1 = .ok (.istore_n 2, 1) := by decide +kernel
theorem dX11_unbound_2 : decode cX11_unbound 2 = .ok (.bipush 16, 2) := by decide +kernel
theorem dX11_unbound_4 : decode cX11_unbound 4 = .ok (.aload_n 0, 1) := by decide +kernel
theorem dX11_unbound_5 : decode cX11_unbound 5 = .ok (.iload_n 1, 1) := by decide +kernel
theorem dX11_unbound_6 : decode cX11_unbound 6 = .ok (.invokevirtual 358, 3) := by decide +kernel
theorem dX11_unbound_9 : decode cX11_unbound 9 = .ok (.imul, 1) := by decide +kernel
theorem dX11_unbound_10 : decode cX11_unbound 10 = .ok (.istore_n 3, 1) := by decide +kernel
theorem dX11_unbound_11 : decode cX11_unbound 11 = .ok (.iconst 0, 1) := by decide +kernel
theorem dX11_unbound_12 : decode cX11_unbound 12 = .ok (.istore 4, 2) := by decide +kernel
theorem dX11_unbound_14 : decode cX11_unbound 14 = .ok (.iload 4, 2) := by decide +kernel
theorem dX11_unbound_16 : decode cX11_unbound 16 = .ok (.aload_n 0, 1) := by decide +kernel
theorem dX11_unbound_17 : decode cX11_unbound 17 = .ok (.getfield 58, 3) := by decide +kernel
theorem dX11_unbound_20 : decode cX11_unbound 20 = .ok (.aload_n 0, 1) := by decide +kernel
theorem dX11_unbound_21 : decode cX11_unbound 21 = .ok (.iload_n 1, 1) := by decide +kernel
theorem dX11_unbound_22 : decode cX11_unbound 22 = .ok (.invokevirtual 358, 3) := by decide +kernel
theorem dX11_unbound_25 : decode cX11_unbound 25 = .ok (.iaload, 1) := by decide +kernel
theorem dX11_unbound_26 : decode cX11_unbound 26 = .ok (.if_icmp .ge 38, 3) := by decide +kernel
theorem dX11_unbound_29 : decode cX11_unbound 29 = .ok (.aload_n 0, 1) := by decide +kernel
theorem dX11_unbound_30 : decode cX11_unbound 30 = .ok (.getfield 52, 3) := by decide +kernel
theorem dX11_unbound_33 : decode cX11_unbound 33 = .ok (.iload_n 3, 1) := by decide +kernel
theorem dX11_unbound_34 : decode cX11_unbound 34 = .ok (.iload 4, 2) := by decide +kernel
theorem dX11_unbound_36 : decode cX11_unbound 36 = .ok (.iadd, 1) := by decide +kernel
theorem dX11_unbound_37 : decode cX11_unbound 37 = .ok (.iaload, 1) := by decide +kernel
theorem dX11_unbound_38 : decode cX11_unbound 38 = .ok (.invokestatic 291, 3) := by decide +kernel
theorem dX11_unbound_41 : decode cX11_unbound 41 = .ok (.ifCond .eq 17, 3) := by decide +kernel
theorem dX11_unbound_44 : decode cX11_unbound 44 = .ok (.iload_n 2, 1) := by decide +kernel
theorem dX11_unbound_45 : decode cX11_unbound 45 = .ok (.aload_n 0, 1) := by decide +kernel
theorem dX11_unbound_46 : decode cX11_unbound 46 = .ok (.iload_n 1, 1) := by decide +kernel
theorem dX11_unbound_47 : decode cX11_unbound 47 = .ok (.iload_n 3, 1) := by decide +kernel
theorem dX11_unbound_48 : decode cX11_unbound 48 = .ok (.iload 4, 2) := by decide +kernel
theorem dX11_unbound_50 : decode cX11_unbound 50 = .ok (.iadd, 1) := by decide +kernel
theorem dX11_unbound_51 : decode cX11_unbound 51 = .ok (.invokevirtual 554, 3) := by decide +kernel
theorem dX11_unbound_54 : decode cX11_unbound 54 = .ok (.invokestatic 557, 3) := by decide +kernel
theorem dX11_unbound_57 : decode cX11_unbound 57 = .ok (.istore_n 2, 1) := by decide +kernel
theorem dX11_unbound_58 : decode cX11_unbound 58 = .ok (.iinc 4 1, 3) := by decide +kernel
theorem dX11_unbound_61 : decode cX11_unbound 61 = .ok (.goto (-47), 3) := by decide +kernel
theorem dX11_unbound_64 : decode cX11_unbound 64 = .ok (.iload_n 2, 1) := by decide +kernel
theorem dX11_unbound_65 : decode cX11_unbound 65 = .ok (.iconst 4, 1) := by decide +kernel
theorem dX11_unbound_66 : decode cX11_unbound 66 = .ok (.if_icmp .ne 7, 3) := by decide +kernel
theorem dX11_unbound_69 : decode cX11_unbound 69 = .ok (.iconst 0, 1) := by decide +kernel
theorem dX11_unbound_70 : decode cX11_unbound 70 = .ok (.goto 4, 3) := by decide +kernel
theorem dX11_unbound_73 : decode cX11_unbound 73 = .ok (.iload_n 2, 1) := by decide +kernel
theorem dX11_unbound_74 : decode cX11_unbound 74 = .ok (.ireturn, 1) := by decide +kernel
set_option maxRecDepth 10000 in
set_option maxHeartbeats 4000000 in
theorem A_X11_unbound_14 {Z : az_Z} {d : Nat} (C : az_C Z yX11_unbound cX11_unbound 5 (some .int) d) (hD : 5 ≤ d) (n : Nat) (k : Nat) : ∀ {σ : az_Hp} {v0 v1 v2 v3 v4 : Int} {r : Int}, fz_X11_unbound_14 n k σ v0 v1 v2 v3 v4 = some r → az_AW Z 5 14 [(13, v0), (0, v1), (0, v2), (0, v3), (0, v4)] [] σ (some (0, r), σ) := by
  have hd1 : 1 ≤ d := by omega
  induction k with
  | zero => intro σ v0 v1 v2 v3 v4 r h; simp [fz_X11_unbound_14] at h
  | succ k ih =>
    intro σ v0 v1 v2 v3 v4 r h
    unfold fz_X11_unbound_14 at h
    refine az_il4 (pc := 14) C dX11_unbound_14 ?_
    refine az_al0 (pc := 16) C rfl rfl dX11_unbound_16 ?_
    refine az_getR (pc := 17) (c2 := 13) C h fl_X11_58 rfl rfl dX11_unbound_17 (fun h => ?_)
    refine az_al0 (pc := 20) C rfl rfl dX11_unbound_20 ?_
    refine az_il1 (pc := 21) C dX11_unbound_21 ?_
    refine az_cV1pi (pc := 22) (c := 11) C hd1 h mv_X11_eqAt ml_X11_358 rfl (fun x hx => A_X11_eqAt (by omega) hx) dX11_unbound_22 (fun r2 h => ?_)
    refine az_iaload (pc := 25) C h dX11_unbound_25 (fun h => ?_)
    refine az_icmp_ge (pc := 26) (tgt := 64) C h dX11_unbound_26 (by decide) (fun _ h => ?_) (fun _ h => ?_)
    · refine az_il2 (pc := 64) C dX11_unbound_64 ?_
      refine az_ik4 (pc := 65) C dX11_unbound_65 ?_
      refine az_icmp_ne (pc := 66) (tgt := 73) C h dX11_unbound_66 (by decide) (fun _ h => ?_) (fun _ h => ?_)
      · refine az_il2 (pc := 73) C dX11_unbound_73 ?_
        obtain rfl := Option.some.inj h
        exact az_ireturn (pc := 74) C dX11_unbound_74 rfl
      refine az_ik0 (pc := 69) C dX11_unbound_69 ?_
      refine az_goto (pc := 70) (tgt := 74) C dX11_unbound_70 (by decide) ?_
      obtain rfl := Option.some.inj h
      exact az_ireturn (pc := 74) C dX11_unbound_74 rfl
    refine az_al0 (pc := 29) C rfl rfl dX11_unbound_29 ?_
    refine az_getR (pc := 30) (c2 := 13) C h fl_X11_52 rfl rfl dX11_unbound_30 (fun h => ?_)
    refine az_il3 (pc := 33) C dX11_unbound_33 ?_
    refine az_il4 (pc := 34) C dX11_unbound_34 ?_
    refine az_iadd (pc := 36) C dX11_unbound_36 ?_
    refine az_iaload (pc := 37) C h dX11_unbound_37 (fun h => ?_)
    refine az_cS1pi (pc := 38) C hd1 h ms_X11_isFam ml_X11_291 rfl (fun x hx => A_X11_isFam (by omega) hx) dX11_unbound_38 (fun r6 h => ?_)
    refine az_if_eq (pc := 41) (tgt := 58) C h dX11_unbound_41 (by decide) (fun _ h => ?_) (fun _ h => ?_)
    · refine az_ii4 (pc := 58) C az_n1 rfl rfl dX11_unbound_58 ?_
      refine az_goto (pc := 61) (tgt := 14) C dX11_unbound_61 (by decide) ?_
      exact (ih h)
    refine az_il2 (pc := 44) C dX11_unbound_44 ?_
    refine az_al0 (pc := 45) C rfl rfl dX11_unbound_45 ?_
    refine az_il1 (pc := 46) C dX11_unbound_46 ?_
    refine az_il3 (pc := 47) C dX11_unbound_47 ?_
    refine az_il4 (pc := 48) C dX11_unbound_48 ?_
    refine az_iadd (pc := 50) C dX11_unbound_50 ?_
    refine az_cV2pi (pc := 51) (c := 11) C hd1 h mv_X11_unboundBy ml_X11_554 rfl (fun x hx => A_X11_unboundBy (by omega) n hx) dX11_unbound_51 (fun r7 h => ?_)
    refine az_mmin (pc := 54) C hd1 ml_X11_557 az_w_minst az_w_math az_w_minc rfl dX11_unbound_54 ?_
    refine az_is2 (pc := 57) C rfl rfl dX11_unbound_57 ?_
    refine az_ii4 (pc := 58) C az_n1 rfl rfl dX11_unbound_58 ?_
    refine az_goto (pc := 61) (tgt := 14) C dX11_unbound_61 (by decide) ?_
    exact (ih h)
set_option maxRecDepth 10000 in
set_option maxHeartbeats 4000000 in
theorem A_X11_unbound_e {Z : az_Z} {d : Nat} (C : az_C Z yX11_unbound cX11_unbound 5 (some .int) d) (hD : 5 ≤ d) (n : Nat) {σ : az_Hp} {v0 v1 : Int} {r : Int} (h : fz_X11_unbound n σ v0 v1 = some r) : az_AW Z 5 0 [(13, v0), (0, v1), (31, 0), (31, 0), (31, 0)] [] σ (some (0, r), σ) := by
  have hd1 : 1 ≤ d := by omega
  unfold fz_X11_unbound at h
  refine az_ik4 (pc := 0) C dX11_unbound_0 ?_
  refine az_is2 (pc := 1) C rfl rfl dX11_unbound_1 ?_
  refine az_bk16 (pc := 2) C dX11_unbound_2 ?_
  refine az_al0 (pc := 4) C rfl rfl dX11_unbound_4 ?_
  refine az_il1 (pc := 5) C dX11_unbound_5 ?_
  refine az_cV1pi (pc := 6) (c := 11) C hd1 h mv_X11_eqAt ml_X11_358 rfl (fun x hx => A_X11_eqAt (by omega) hx) dX11_unbound_6 (fun r1 h => ?_)
  refine az_imul (pc := 9) C dX11_unbound_9 ?_
  refine az_is3 (pc := 10) C rfl rfl dX11_unbound_10 ?_
  refine az_ik0 (pc := 11) C dX11_unbound_11 ?_
  refine az_is4 (pc := 12) C rfl rfl dX11_unbound_12 ?_
  exact (A_X11_unbound_14 C hD n n h)
set_option maxRecDepth 10000 in
set_option maxHeartbeats 4000000 in
theorem A_X11_unbound {l : Launch} {d : Nat} (hD : 5 ≤ d) (n : Nat) {σ : az_Hp} {v0 v1 : Int} {r : Int} (h : fz_X11_unbound n σ v0 v1 = some r) : az_AC l yX11_unbound cX11_unbound 5 (some .int) d [(13, v0), (0, v1)] σ (some (0, r), σ) := az_AC.of mt_X11_unbound rfl rfl rfl (fun Z hZ C => A_X11_unbound_e C hD n h)
theorem dX11_equation_0 : decode cX11_equation 0 = .ok (.iload_n 2, 1) := by decide +kernel
theorem dX11_equation_1 : decode cX11_equation 1 = .ok (.iconst 0, 1) := by decide +kernel
theorem dX11_equation_2 : decode cX11_equation 2 = .ok (.iconst 5, 1) := by decide +kernel
theorem dX11_equation_3 : decode cX11_equation 3 = .ok (.invokestatic 354, 3) := by decide +kernel
theorem dX11_equation_6 : decode cX11_equation 6 = .ok (.ifCond .ne 9, 3) := by decide +kernel
theorem dX11_equation_9 : decode cX11_equation 9 = .ok (.aload_n 0, 1) := by decide +kernel
theorem dX11_equation_10 : decode cX11_equation 10 = .ok (.iconst 1, 1) := by decide +kernel
theorem dX11_equation_11 : decode cX11_equation 11 = .ok (.invokevirtual 372, 3) := by decide +kernel
theorem dX11_equation_14 : decode cX11_equation 14 = .ok (.ireturn, 1) := by decide +kernel
theorem dX11_equation_15 : decode cX11_equation 15 = .ok (.aload_n 0, 1) := by decide +kernel
theorem dX11_equation_16 : decode cX11_equation 16 = .ok (.iload_n 1, 1) := by decide +kernel
theorem dX11_equation_17 : decode cX11_equation 17 = .ok (.invokevirtual 471, 3) := by decide +kernel
theorem dX11_equation_20 : decode cX11_equation 20 = .ok (.ifCond .ne 9, 3) := by decide +kernel
theorem dX11_equation_23 : decode cX11_equation 23 = .ok (.aload_n 0, 1) := by decide +kernel
theorem dX11_equation_24 : decode cX11_equation 24 = .ok (.iconst 2, 1) := by decide +kernel
theorem dX11_equation_25 : decode cX11_equation 25 = .ok (.invokevirtual 372, 3) := by decide +kernel
theorem dX11_equation_28 : decode cX11_equation 28 = .ok (.ireturn, 1) := by decide +kernel
theorem dX11_equation_29 : decode cX11_equation 29 = .ok (.iload_n 2, 1) := by decide +kernel
theorem dX11_equation_30 : decode cX11_equation 30 = .ok (.tableswitch 134 0 4 #[34, 44, 89, 104, 119], 34) := by decide +kernel
theorem dX11_equation_64 : decode cX11_equation 64 = .ok (.aload_n 0, 1) := by decide +kernel
theorem dX11_equation_65 : decode cX11_equation 65 = .ok (.aload_n 0, 1) := by decide +kernel
theorem dX11_equation_66 : decode cX11_equation 66 = .ok (.iload_n 1, 1) := by decide +kernel
theorem dX11_equation_67 : decode cX11_equation 67 = .ok (.invokevirtual 474, 3) := by decide +kernel
theorem dX11_equation_70 : decode cX11_equation 70 = .ok (.invokevirtual 401, 3) := by decide +kernel
theorem dX11_equation_73 : decode cX11_equation 73 = .ok (.ireturn, 1) := by decide +kernel
theorem dX11_equation_74 : decode cX11_equation 74 = .ok (.iconst 0, 1) := by decide +kernel
theorem dX11_equation_75 : decode cX11_equation 75 = .ok (.istore_n 3, 1) := by decide +kernel
theorem dX11_equation_76 : decode cX11_equation 76 = .ok (.iconst 0, 1) := by decide +kernel
theorem dX11_equation_77 : decode cX11_equation 77 = .ok (.istore 4, 2) := by decide +kernel
theorem dX11_equation_79 : decode cX11_equation 79 = .ok (.iload 4, 2) := by decide +kernel
theorem dX11_equation_81 : decode cX11_equation 81 = .ok (.iload_n 1, 1) := by decide +kernel
theorem dX11_equation_82 : decode cX11_equation 82 = .ok (.if_icmp .ge 31, 3) := by decide +kernel
theorem dX11_equation_85 : decode cX11_equation 85 = .ok (.iload_n 3, 1) := by decide +kernel
theorem dX11_equation_86 : decode cX11_equation 86 = .ok (.aload_n 0, 1) := by decide +kernel
theorem dX11_equation_87 : decode cX11_equation 87 = .ok (.iload 4, 2) := by decide +kernel
theorem dX11_equation_89 : decode cX11_equation 89 = .ok (.invokevirtual 474, 3) := by decide +kernel
theorem dX11_equation_92 : decode cX11_equation 92 = .ok (.aload_n 0, 1) := by decide +kernel
theorem dX11_equation_93 : decode cX11_equation 93 = .ok (.iload_n 1, 1) := by decide +kernel
theorem dX11_equation_94 : decode cX11_equation 94 = .ok (.invokevirtual 474, 3) := by decide +kernel
theorem dX11_equation_97 : decode cX11_equation 97 = .ok (.if_icmp .ne 7, 3) := by decide +kernel
theorem dX11_equation_100 : decode cX11_equation 100 = .ok (.iconst 1, 1) := by decide +kernel
theorem dX11_equation_101 : decode cX11_equation 101 = .ok (.goto 4, 3) := by decide +kernel
theorem dX11_equation_104 : decode cX11_equation 104 = .ok (.iconst 0, 1) := by decide +kernel
theorem dX11_equation_105 : decode cX11_equation 105 = .ok (.iadd, 1) := by decide +kernel
theorem dX11_equation_106 : decode cX11_equation 106 = .ok (.istore_n 3, 1) := by decide +kernel
theorem dX11_equation_107 : decode cX11_equation 107 = .ok (.iinc 4 1, 3) := by decide +kernel
theorem dX11_equation_110 : decode cX11_equation 110 = .ok (.goto (-31), 3) := by decide +kernel
theorem dX11_equation_113 : decode cX11_equation 113 = .ok (.aload_n 0, 1) := by decide +kernel
theorem dX11_equation_114 : decode cX11_equation 114 = .ok (.iload_n 3, 1) := by decide +kernel
theorem dX11_equation_115 : decode cX11_equation 115 = .ok (.invokevirtual 401, 3) := by decide +kernel
theorem dX11_equation_118 : decode cX11_equation 118 = .ok (.ireturn, 1) := by decide +kernel
theorem dX11_equation_119 : decode cX11_equation 119 = .ok (.aload_n 0, 1) := by decide +kernel
theorem dX11_equation_120 : decode cX11_equation 120 = .ok (.aload_n 0, 1) := by decide +kernel
theorem dX11_equation_121 : decode cX11_equation 121 = .ok (.getfield 61, 3) := by decide +kernel
theorem dX11_equation_124 : decode cX11_equation 124 = .ok (.aload_n 0, 1) := by decide +kernel
theorem dX11_equation_125 : decode cX11_equation 125 = .ok (.iload_n 1, 1) := by decide +kernel
theorem dX11_equation_126 : decode cX11_equation 126 = .ok (.invokevirtual 358, 3) := by decide +kernel
theorem dX11_equation_129 : decode cX11_equation 129 = .ok (.iaload, 1) := by decide +kernel
theorem dX11_equation_130 : decode cX11_equation 130 = .ok (.invokevirtual 401, 3) := by decide +kernel
theorem dX11_equation_133 : decode cX11_equation 133 = .ok (.ireturn, 1) := by decide +kernel
theorem dX11_equation_134 : decode cX11_equation 134 = .ok (.aload_n 0, 1) := by decide +kernel
theorem dX11_equation_135 : decode cX11_equation 135 = .ok (.aload_n 0, 1) := by decide +kernel
theorem dX11_equation_136 : decode cX11_equation 136 = .ok (.getfield 55, 3) := by decide +kernel
theorem dX11_equation_139 : decode cX11_equation 139 = .ok (.aload_n 0, 1) := by decide +kernel
theorem dX11_equation_140 : decode cX11_equation 140 = .ok (.iload_n 1, 1) := by decide +kernel
theorem dX11_equation_141 : decode cX11_equation 141 = .ok (.invokevirtual 358, 3) := by decide +kernel
theorem dX11_equation_144 : decode cX11_equation 144 = .ok (.iaload, 1) := by decide +kernel
theorem dX11_equation_145 : decode cX11_equation 145 = .ok (.invokevirtual 401, 3) := by decide +kernel
theorem dX11_equation_148 : decode cX11_equation 148 = .ok (.ireturn, 1) := by decide +kernel
theorem dX11_equation_149 : decode cX11_equation 149 = .ok (.aload_n 0, 1) := by decide +kernel
theorem dX11_equation_150 : decode cX11_equation 150 = .ok (.aload_n 0, 1) := by decide +kernel
theorem dX11_equation_151 : decode cX11_equation 151 = .ok (.getfield 58, 3) := by decide +kernel
theorem dX11_equation_154 : decode cX11_equation 154 = .ok (.aload_n 0, 1) := by decide +kernel
theorem dX11_equation_155 : decode cX11_equation 155 = .ok (.iload_n 1, 1) := by decide +kernel
theorem dX11_equation_156 : decode cX11_equation 156 = .ok (.invokevirtual 358, 3) := by decide +kernel
theorem dX11_equation_159 : decode cX11_equation 159 = .ok (.iaload, 1) := by decide +kernel
theorem dX11_equation_160 : decode cX11_equation 160 = .ok (.invokevirtual 401, 3) := by decide +kernel
theorem dX11_equation_163 : decode cX11_equation 163 = .ok (.ireturn, 1) := by decide +kernel
theorem dX11_equation_164 : decode cX11_equation 164 = .ok (.aload_n 0, 1) := by decide +kernel
theorem dX11_equation_165 : decode cX11_equation 165 = .ok (.aload_n 0, 1) := by decide +kernel
theorem dX11_equation_166 : decode cX11_equation 166 = .ok (.iload_n 1, 1) := by decide +kernel
theorem dX11_equation_167 : decode cX11_equation 167 = .ok (.invokevirtual 562, 3) := by decide +kernel
theorem dX11_equation_170 : decode cX11_equation 170 = .ok (.invokevirtual 401, 3) := by decide +kernel
theorem dX11_equation_173 : decode cX11_equation 173 = .ok (.ireturn, 1) := by decide +kernel
set_option maxRecDepth 10000 in
set_option maxHeartbeats 4000000 in
theorem A_X11_equation_79 {Z : az_Z} {d : Nat} (C : az_C Z yX11_equation cX11_equation 5 (some .int) d) (hD : 6 ≤ d) (n : Nat) (k : Nat) : ∀ {σ : az_Hp} {v0 v1 v3 v4 : Int} {r : (Int × az_Hp)}, fz_X11_equation_79 n k σ v0 v1 v3 v4 = some r → az_AW Z 5 79 [(13, v0), (0, v1), (31, 0), (0, v3), (0, v4)] [] σ (some (0, r.1), r.2) := by
  have hd1 : 1 ≤ d := by omega
  induction k with
  | zero => intro σ v0 v1 v3 v4 r h; simp [fz_X11_equation_79] at h
  | succ k ih =>
    intro σ v0 v1 v3 v4 r h
    unfold fz_X11_equation_79 at h
    refine az_il4 (pc := 79) C dX11_equation_79 ?_
    refine az_il1 (pc := 81) C dX11_equation_81 ?_
    refine az_icmp_ge (pc := 82) (tgt := 113) C h dX11_equation_82 (by decide) (fun _ h => ?_) (fun _ h => ?_)
    · refine az_al0 (pc := 113) C rfl rfl dX11_equation_113 ?_
      refine az_il3 (pc := 114) C dX11_equation_114 ?_
      refine az_cV1ii (pc := 115) (c := 11) C hd1 h mv_X11_gives ml_X11_401 rfl (fun x hx => A_X11_gives (by omega) hx) dX11_equation_115 (fun r1 h => ?_)
      obtain rfl := Option.some.inj h
      exact az_ireturn (pc := 118) C dX11_equation_118 rfl
    refine az_il3 (pc := 85) C dX11_equation_85 ?_
    refine az_al0 (pc := 86) C rfl rfl dX11_equation_86 ?_
    refine az_il4 (pc := 87) C dX11_equation_87 ?_
    refine az_cV1pi (pc := 89) (c := 11) C hd1 h mv_X11_familyOf ml_X11_474 rfl (fun x hx => A_X11_familyOf (by omega) hx) dX11_equation_89 (fun r2 h => ?_)
    refine az_al0 (pc := 92) C rfl rfl dX11_equation_92 ?_
    refine az_il1 (pc := 93) C dX11_equation_93 ?_
    refine az_cV1pi (pc := 94) (c := 11) C hd1 h mv_X11_familyOf ml_X11_474 rfl (fun x hx => A_X11_familyOf (by omega) hx) dX11_equation_94 (fun r3 h => ?_)
    refine az_icmp_ne (pc := 97) (tgt := 104) C h dX11_equation_97 (by decide) (fun _ h => ?_) (fun _ h => ?_)
    · refine az_ik0 (pc := 104) C dX11_equation_104 ?_
      refine az_iadd (pc := 105) C dX11_equation_105 ?_
      refine az_is3 (pc := 106) C rfl rfl dX11_equation_106 ?_
      refine az_ii4 (pc := 107) C az_n1 rfl rfl dX11_equation_107 ?_
      refine az_goto (pc := 110) (tgt := 79) C dX11_equation_110 (by decide) ?_
      exact (ih h)
    refine az_ik1 (pc := 100) C dX11_equation_100 ?_
    refine az_goto (pc := 101) (tgt := 105) C dX11_equation_101 (by decide) ?_
    refine az_iadd (pc := 105) C dX11_equation_105 ?_
    refine az_is3 (pc := 106) C rfl rfl dX11_equation_106 ?_
    refine az_ii4 (pc := 107) C az_n1 rfl rfl dX11_equation_107 ?_
    refine az_goto (pc := 110) (tgt := 79) C dX11_equation_110 (by decide) ?_
    exact (ih h)
set_option maxRecDepth 10000 in
set_option maxHeartbeats 4000000 in
theorem A_X11_equation_e {Z : az_Z} {d : Nat} (C : az_C Z yX11_equation cX11_equation 5 (some .int) d) (hD : 6 ≤ d) (n : Nat) {σ : az_Hp} {v0 v1 v2 : Int} {r : (Int × az_Hp)} (h : fz_X11_equation n σ v0 v1 v2 = some r) : az_AW Z 5 0 [(13, v0), (0, v1), (0, v2), (31, 0), (31, 0)] [] σ (some (0, r.1), r.2) := by
  have hd1 : 1 ≤ d := by omega
  unfold fz_X11_equation at h
  refine az_il2 (pc := 0) C dX11_equation_0 ?_
  refine az_ik0 (pc := 1) C dX11_equation_1 ?_
  refine az_ik5 (pc := 2) C dX11_equation_2 ?_
  refine az_cS3pi (pc := 3) C hd1 h ms_X11_isFrom ml_X11_354 rfl (fun x hx => A_X11_isFrom (by omega) hx) dX11_equation_3 (fun r1 h => ?_)
  refine az_if_ne (pc := 6) (tgt := 15) C h dX11_equation_6 (by decide) (fun _ h => ?_) (fun _ h => ?_)
  · refine az_al0 (pc := 15) C rfl rfl dX11_equation_15 ?_
    refine az_il1 (pc := 16) C dX11_equation_16 ?_
    refine az_cV1pi (pc := 17) (c := 11) C hd1 h mv_X11_isEquation ml_X11_471 rfl (fun x hx => A_X11_isEquation (by omega) hx) dX11_equation_17 (fun r2 h => ?_)
    refine az_if_ne (pc := 20) (tgt := 29) C h dX11_equation_20 (by decide) (fun _ h => ?_) (fun _ h => ?_)
    · refine az_il2 (pc := 29) C dX11_equation_29 ?_
      rcases az_ite h with ⟨c0, h⟩ | ⟨c0, h⟩
      · refine az_tswIn (pc := 30) (i := 0) (tgt := 64) C (by exact c0) (by decide) rfl dX11_equation_30 (by decide) ?_
        refine az_al0 (pc := 64) C rfl rfl dX11_equation_64 ?_
        refine az_al0 (pc := 65) C rfl rfl dX11_equation_65 ?_
        refine az_il1 (pc := 66) C dX11_equation_66 ?_
        refine az_cV1pi (pc := 67) (c := 11) C hd1 h mv_X11_familyOf ml_X11_474 rfl (fun x hx => A_X11_familyOf (by omega) hx) dX11_equation_67 (fun r3 h => ?_)
        refine az_cV1ii (pc := 70) (c := 11) C hd1 h mv_X11_gives ml_X11_401 rfl (fun x hx => A_X11_gives (by omega) hx) dX11_equation_70 (fun r4 h => ?_)
        obtain rfl := Option.some.inj h
        exact az_ireturn (pc := 73) C dX11_equation_73 rfl
      rcases az_ite h with ⟨c1, h⟩ | ⟨c1, h⟩
      · refine az_tswIn (pc := 30) (i := 1) (tgt := 74) C (by exact c1) (by decide) rfl dX11_equation_30 (by decide) ?_
        refine az_ik0 (pc := 74) C dX11_equation_74 ?_
        refine az_is3 (pc := 75) C rfl rfl dX11_equation_75 ?_
        refine az_ik0 (pc := 76) C dX11_equation_76 ?_
        refine az_is4 (pc := 77) C rfl rfl dX11_equation_77 ?_
        exact (az_wkk (A_X11_equation_79 C hD n n h) (az_sE (az_sE (az_sJ (az_sE (az_sE az_sN))))))
      rcases az_ite h with ⟨c2, h⟩ | ⟨c2, h⟩
      · refine az_tswIn (pc := 30) (i := 2) (tgt := 119) C (by exact c2) (by decide) rfl dX11_equation_30 (by decide) ?_
        refine az_al0 (pc := 119) C rfl rfl dX11_equation_119 ?_
        refine az_al0 (pc := 120) C rfl rfl dX11_equation_120 ?_
        refine az_getR (pc := 121) (c2 := 13) C h fl_X11_61 rfl rfl dX11_equation_121 (fun h => ?_)
        refine az_al0 (pc := 124) C rfl rfl dX11_equation_124 ?_
        refine az_il1 (pc := 125) C dX11_equation_125 ?_
        refine az_cV1pi (pc := 126) (c := 11) C hd1 h mv_X11_eqAt ml_X11_358 rfl (fun x hx => A_X11_eqAt (by omega) hx) dX11_equation_126 (fun r6 h => ?_)
        refine az_iaload (pc := 129) C h dX11_equation_129 (fun h => ?_)
        refine az_cV1ii (pc := 130) (c := 11) C hd1 h mv_X11_gives ml_X11_401 rfl (fun x hx => A_X11_gives (by omega) hx) dX11_equation_130 (fun r8 h => ?_)
        obtain rfl := Option.some.inj h
        exact az_ireturn (pc := 133) C dX11_equation_133 rfl
      rcases az_ite h with ⟨c3, h⟩ | ⟨c3, h⟩
      · refine az_tswIn (pc := 30) (i := 3) (tgt := 134) C (by exact c3) (by decide) rfl dX11_equation_30 (by decide) ?_
        refine az_al0 (pc := 134) C rfl rfl dX11_equation_134 ?_
        refine az_al0 (pc := 135) C rfl rfl dX11_equation_135 ?_
        refine az_getR (pc := 136) (c2 := 13) C h fl_X11_55 rfl rfl dX11_equation_136 (fun h => ?_)
        refine az_al0 (pc := 139) C rfl rfl dX11_equation_139 ?_
        refine az_il1 (pc := 140) C dX11_equation_140 ?_
        refine az_cV1pi (pc := 141) (c := 11) C hd1 h mv_X11_eqAt ml_X11_358 rfl (fun x hx => A_X11_eqAt (by omega) hx) dX11_equation_141 (fun r10 h => ?_)
        refine az_iaload (pc := 144) C h dX11_equation_144 (fun h => ?_)
        refine az_cV1ii (pc := 145) (c := 11) C hd1 h mv_X11_gives ml_X11_401 rfl (fun x hx => A_X11_gives (by omega) hx) dX11_equation_145 (fun r12 h => ?_)
        obtain rfl := Option.some.inj h
        exact az_ireturn (pc := 148) C dX11_equation_148 rfl
      rcases az_ite h with ⟨c4, h⟩ | ⟨c4, h⟩
      · refine az_tswIn (pc := 30) (i := 4) (tgt := 149) C (by exact c4) (by decide) rfl dX11_equation_30 (by decide) ?_
        refine az_al0 (pc := 149) C rfl rfl dX11_equation_149 ?_
        refine az_al0 (pc := 150) C rfl rfl dX11_equation_150 ?_
        refine az_getR (pc := 151) (c2 := 13) C h fl_X11_58 rfl rfl dX11_equation_151 (fun h => ?_)
        refine az_al0 (pc := 154) C rfl rfl dX11_equation_154 ?_
        refine az_il1 (pc := 155) C dX11_equation_155 ?_
        refine az_cV1pi (pc := 156) (c := 11) C hd1 h mv_X11_eqAt ml_X11_358 rfl (fun x hx => A_X11_eqAt (by omega) hx) dX11_equation_156 (fun r14 h => ?_)
        refine az_iaload (pc := 159) C h dX11_equation_159 (fun h => ?_)
        refine az_cV1ii (pc := 160) (c := 11) C hd1 h mv_X11_gives ml_X11_401 rfl (fun x hx => A_X11_gives (by omega) hx) dX11_equation_160 (fun r16 h => ?_)
        obtain rfl := Option.some.inj h
        exact az_ireturn (pc := 163) C dX11_equation_163 rfl
      refine az_tswOut (pc := 30) (tgt := 164) C (by omega) dX11_equation_30 (by decide) ?_
      refine az_al0 (pc := 164) C rfl rfl dX11_equation_164 ?_
      refine az_al0 (pc := 165) C rfl rfl dX11_equation_165 ?_
      refine az_il1 (pc := 166) C dX11_equation_166 ?_
      refine az_cV1pi (pc := 167) (c := 11) C hd1 h mv_X11_unbound ml_X11_562 rfl (fun x hx => A_X11_unbound (by omega) n hx) dX11_equation_167 (fun r17 h => ?_)
      refine az_cV1ii (pc := 170) (c := 11) C hd1 h mv_X11_gives ml_X11_401 rfl (fun x hx => A_X11_gives (by omega) hx) dX11_equation_170 (fun r18 h => ?_)
      obtain rfl := Option.some.inj h
      exact az_ireturn (pc := 173) C dX11_equation_173 rfl
    refine az_al0 (pc := 23) C rfl rfl dX11_equation_23 ?_
    refine az_ik2 (pc := 24) C dX11_equation_24 ?_
    refine az_cV1ii (pc := 25) (c := 11) C hd1 h mv_X11_refuse ml_X11_372 rfl (fun x hx => A_X11_refuse (by omega) hx) dX11_equation_25 (fun r19 h => ?_)
    obtain rfl := Option.some.inj h
    exact az_ireturn (pc := 28) C dX11_equation_28 rfl
  refine az_al0 (pc := 9) C rfl rfl dX11_equation_9 ?_
  refine az_ik1 (pc := 10) C dX11_equation_10 ?_
  refine az_cV1ii (pc := 11) (c := 11) C hd1 h mv_X11_refuse ml_X11_372 rfl (fun x hx => A_X11_refuse (by omega) hx) dX11_equation_11 (fun r20 h => ?_)
  obtain rfl := Option.some.inj h
  exact az_ireturn (pc := 14) C dX11_equation_14 rfl
set_option maxRecDepth 10000 in
set_option maxHeartbeats 4000000 in
theorem A_X11_equation {l : Launch} {d : Nat} (hD : 6 ≤ d) (n : Nat) {σ : az_Hp} {v0 v1 v2 : Int} {r : (Int × az_Hp)} (h : fz_X11_equation n σ v0 v1 v2 = some r) : az_AC l yX11_equation cX11_equation 5 (some .int) d [(13, v0), (0, v1), (0, v2)] σ (some (0, r.1), r.2) := az_AC.of mt_X11_equation rfl rfl rfl (fun Z hZ C => A_X11_equation_e C hD n h)
theorem dX11_canBack_0 : decode cX11_canBack 0 = .ok (.aload_n 0, 1) := by decide +kernel
theorem dX11_canBack_1 : decode cX11_canBack 1 = .ok (.getfield 46, 3) := by decide +kernel
theorem dX11_canBack_4 : decode cX11_canBack 4 = .ok (.iconst 5, 1) := by decide +kernel
theorem dX11_canBack_5 : decode cX11_canBack 5 = .ok (.aload_n 0, 1) := by decide +kernel
theorem dX11_canBack_6 : decode cX11_canBack 6 = .ok (.getfield 285, 3) := by decide +kernel
theorem dX11_canBack_9 : decode cX11_canBack 9 = .ok (.imul, 1) := by decide +kernel
theorem dX11_canBack_10 : decode cX11_canBack 10 = .ok (.iload_n 1, 1) := by decide +kernel
theorem dX11_canBack_11 : decode cX11_canBack 11 = .ok (.iadd, 1) := by decide +kernel
theorem dX11_canBack_12 : decode cX11_canBack 12 = .ok (.baload, 1) := by decide +kernel
theorem dX11_canBack_13 : decode cX11_canBack 13 = .ok (.ifCond .eq 15, 3) := by decide +kernel
theorem dX11_canBack_16 : decode cX11_canBack 16 = .ok (.aload_n 0, 1) := by decide +kernel
theorem dX11_canBack_17 : decode cX11_canBack 17 = .ok (.iload_n 1, 1) := by decide +kernel
theorem dX11_canBack_18 : decode cX11_canBack 18 = .ok (.invokevirtual 547, 3) := by decide +kernel
theorem dX11_canBack_21 : decode cX11_canBack 21 = .ok (.ifCond .ne 7, 3) := by decide +kernel
theorem dX11_canBack_24 : decode cX11_canBack 24 = .ok (.iconst 1, 1) := by decide +kernel
theorem dX11_canBack_25 : decode cX11_canBack 25 = .ok (.goto 4, 3) := by decide +kernel
theorem dX11_canBack_28 : decode cX11_canBack 28 = .ok (.iconst 0, 1) := by decide +kernel
theorem dX11_canBack_29 : decode cX11_canBack 29 = .ok (.ireturn, 1) := by decide +kernel
set_option maxRecDepth 10000 in
set_option maxHeartbeats 4000000 in
theorem A_X11_canBack_e {Z : az_Z} {d : Nat} (C : az_C Z yX11_canBack cX11_canBack 2 (some .boolean) d) (hD : 210 ≤ d) (n : Nat) {σ : az_Hp} {v0 v1 : Int} {r : (Int × az_Hp)} (h : fz_X11_canBack n σ v0 v1 = some r) : az_AW Z 2 0 [(13, v0), (0, v1)] [] σ (some (0, r.1), r.2) := by
  have hd1 : 1 ≤ d := by omega
  unfold fz_X11_canBack at h
  refine az_al0 (pc := 0) C rfl rfl dX11_canBack_0 ?_
  refine az_getR (pc := 1) (c2 := 15) C h fl_X11_46 rfl rfl dX11_canBack_1 (fun h => ?_)
  refine az_ik5 (pc := 4) C dX11_canBack_4 ?_
  refine az_al0 (pc := 5) C rfl rfl dX11_canBack_5 ?_
  refine az_getI (pc := 6) C fl_X11_285 rfl dX11_canBack_6 ?_
  refine az_imul (pc := 9) C dX11_canBack_9 ?_
  refine az_il1 (pc := 10) C dX11_canBack_10 ?_
  refine az_iadd (pc := 11) C dX11_canBack_11 ?_
  refine az_zaload (pc := 12) C h dX11_canBack_12 (fun h => ?_)
  refine az_if_eq (pc := 13) (tgt := 28) C h dX11_canBack_13 (by decide) (fun _ h => ?_) (fun _ h => ?_)
  · refine az_ik0 (pc := 28) C dX11_canBack_28 ?_
    obtain rfl := Option.some.inj h
    exact az_zreturn (pc := 29) C (by decide) dX11_canBack_29 rfl
  refine az_al0 (pc := 16) C rfl rfl dX11_canBack_16 ?_
  refine az_il1 (pc := 17) C dX11_canBack_17 ?_
  refine az_cV1ii (pc := 18) (c := 11) C hd1 h mv_X11_isBad ml_X11_547 rfl (fun x hx => A_X11_isBad (by omega) n hx) dX11_canBack_18 (fun r3 h => ?_)
  refine az_if_ne (pc := 21) (tgt := 28) C h dX11_canBack_21 (by decide) (fun _ h => ?_) (fun _ h => ?_)
  · refine az_ik0 (pc := 28) C dX11_canBack_28 ?_
    obtain rfl := Option.some.inj h
    exact az_zreturn (pc := 29) C (by decide) dX11_canBack_29 rfl
  refine az_ik1 (pc := 24) C dX11_canBack_24 ?_
  refine az_goto (pc := 25) (tgt := 29) C dX11_canBack_25 (by decide) ?_
  obtain rfl := Option.some.inj h
  exact az_zreturn (pc := 29) C (by decide) dX11_canBack_29 rfl
set_option maxRecDepth 10000 in
set_option maxHeartbeats 4000000 in
theorem A_X11_canBack {l : Launch} {d : Nat} (hD : 210 ≤ d) (n : Nat) {σ : az_Hp} {v0 v1 : Int} {r : (Int × az_Hp)} (h : fz_X11_canBack n σ v0 v1 = some r) : az_AC l yX11_canBack cX11_canBack 2 (some .boolean) d [(13, v0), (0, v1)] σ (some (0, r.1), r.2) := az_AC.of mt_X11_canBack rfl rfl rfl (fun Z hZ C => A_X11_canBack_e C hD n h)
theorem dX11_isParted_0 : decode cX11_isParted 0 = .ok (.iconst 0, 1) := by decide +kernel
theorem dX11_isParted_1 : decode cX11_isParted 1 = .ok (.istore_n 2, 1) := by decide +kernel
theorem dX11_isParted_2 : decode cX11_isParted 2 = .ok (.iload_n 2, 1) := by decide +kernel
theorem dX11_isParted_3 : decode cX11_isParted 3 = .ok (.aload_n 0, 1) := by decide +kernel
theorem dX11_isParted_4 : decode cX11_isParted 4 = .ok (.getfield 26, 3) := by decide +kernel
theorem dX11_isParted_7 : decode cX11_isParted 7 = .ok (.aload_n 0, 1) := by decide +kernel
theorem dX11_isParted_8 : decode cX11_isParted 8 = .ok (.getfield 285, 3) := by decide +kernel
theorem dX11_isParted_11 : decode cX11_isParted 11 = .ok (.iaload, 1) := by decide +kernel
theorem dX11_isParted_12 : decode cX11_isParted 12 = .ok (.if_icmp .ge 79, 3) := by decide +kernel
theorem dX11_isParted_15 : decode cX11_isParted 15 = .ok (.iload_n 2, 1) := by decide +kernel
theorem dX11_isParted_16 : decode cX11_isParted 16 = .ok (.iconst 1, 1) := by decide +kernel
theorem dX11_isParted_17 : decode cX11_isParted 17 = .ok (.iadd, 1) := by decide +kernel
theorem dX11_isParted_18 : decode cX11_isParted 18 = .ok (.istore_n 3, 1) := by decide +kernel
theorem dX11_isParted_19 : decode cX11_isParted 19 = .ok (.iload_n 3, 1) := by decide +kernel
theorem dX11_isParted_20 : decode cX11_isParted 20 = .ok (.aload_n 0, 1) := by decide +kernel
theorem dX11_isParted_21 : decode cX11_isParted 21 = .ok (.getfield 26, 3) := by decide +kernel
theorem dX11_isParted_24 : decode cX11_isParted 24 = .ok (.aload_n 0, 1) := by decide +kernel
theorem dX11_isParted_25 : decode cX11_isParted 25 = .ok (.getfield 285, 3) := by decide +kernel
theorem dX11_isParted_28 : decode cX11_isParted 28 = .ok (.iaload, 1) := by decide +kernel
theorem dX11_isParted_29 : decode cX11_isParted 29 = .ok (.if_icmp .ge 56, 3) := by decide +kernel
theorem dX11_isParted_32 : decode cX11_isParted 32 = .ok (.aload_n 0, 1) := by decide +kernel
theorem dX11_isParted_33 : decode cX11_isParted 33 = .ok (.iload_n 2, 1) := by decide +kernel
theorem dX11_isParted_34 : decode cX11_isParted 34 = .ok (.invokevirtual 474, 3) := by decide +kernel
theorem dX11_isParted_37 : decode cX11_isParted 37 = .ok (.iload_n 1, 1) := by decide +kernel
theorem dX11_isParted_38 : decode cX11_isParted 38 = .ok (.if_icmp .ne 41, 3) := by decide +kernel
theorem dX11_isParted_41 : decode cX11_isParted 41 = .ok (.aload_n 0, 1) := by decide +kernel
theorem dX11_isParted_42 : decode cX11_isParted 42 = .ok (.iload_n 3, 1) := by decide +kernel
theorem dX11_isParted_43 : decode cX11_isParted 43 = .ok (.invokevirtual 474, 3) := by decide +kernel
theorem dX11_isParted_46 : decode cX11_isParted 46 = .ok (.iload_n 1, 1) := by decide +kernel
theorem dX11_isParted_47 : decode cX11_isParted 47 = .ok (.if_icmp .ne 32, 3) := by decide +kernel
theorem dX11_isParted_50 : decode cX11_isParted 50 = .ok (.aload_n 0, 1) := by decide +kernel
theorem dX11_isParted_51 : decode cX11_isParted 51 = .ok (.getfield 109, 3) := by decide +kernel
theorem dX11_isParted_54 : decode cX11_isParted 54 = .ok (.bipush 16, 2) := by decide +kernel
theorem dX11_isParted_56 : decode cX11_isParted 56 = .ok (.iload_n 2, 1) := by decide +kernel
theorem dX11_isParted_57 : decode cX11_isParted 57 = .ok (.imul, 1) := by decide +kernel
theorem dX11_isParted_58 : decode cX11_isParted 58 = .ok (.iload_n 3, 1) := by decide +kernel
theorem dX11_isParted_59 : decode cX11_isParted 59 = .ok (.iadd, 1) := by decide +kernel
theorem dX11_isParted_60 : decode cX11_isParted 60 = .ok (.baload, 1) := by decide +kernel
theorem dX11_isParted_61 : decode cX11_isParted 61 = .ok (.ifCond .eq 6, 3) := by decide +kernel
theorem dX11_isParted_64 : decode cX11_isParted 64 = .ok (.goto 15, 3) := by decide +kernel
theorem dX11_isParted_67 : decode cX11_isParted 67 = .ok (.aload_n 0, 1) := by decide +kernel
theorem dX11_isParted_68 : decode cX11_isParted 68 = .ok (.iload_n 2, 1) := by decide +kernel
theorem dX11_isParted_69 : decode cX11_isParted 69 = .ok (.putfield 508, 3) := by decide +kernel
theorem dX11_isParted_72 : decode cX11_isParted 72 = .ok (.aload_n 0, 1) := by decide +kernel
theorem dX11_isParted_73 : decode cX11_isParted 73 = .ok (.iload_n 3, 1) := by decide +kernel
theorem dX11_isParted_74 : decode cX11_isParted 74 = .ok (.putfield 511, 3) := by decide +kernel
theorem dX11_isParted_77 : decode cX11_isParted 77 = .ok (.iconst 1, 1) := by decide +kernel
theorem dX11_isParted_78 : decode cX11_isParted 78 = .ok (.ireturn, 1) := by decide +kernel
theorem dX11_isParted_79 : decode cX11_isParted 79 = .ok (.iinc 3 1, 3) := by decide +kernel
theorem dX11_isParted_82 : decode cX11_isParted 82 = .ok (.goto (-63), 3) := by decide +kernel
theorem dX11_isParted_85 : decode cX11_isParted 85 = .ok (.iinc 2 1, 3) := by decide +kernel
theorem dX11_isParted_88 : decode cX11_isParted 88 = .ok (.goto (-86), 3) := by decide +kernel
theorem dX11_isParted_91 : decode cX11_isParted 91 = .ok (.iconst 0, 1) := by decide +kernel
theorem dX11_isParted_92 : decode cX11_isParted 92 = .ok (.ireturn, 1) := by decide +kernel
set_option maxRecDepth 10000 in
set_option maxHeartbeats 4000000 in
theorem A_X11_isParted_19 {Z : az_Z} {d : Nat} (C : az_C Z yX11_isParted cX11_isParted 4 (some .boolean) d) (hD : 3 ≤ d) (n : Nat) {k2 : az_Hp → Int → Int → Int → Option (Int × az_Hp)} (hk2 : ∀ {σ : az_Hp} {v0 v1 v2 : Int} {r : (Int × az_Hp)}, k2 σ v0 v1 v2 = some r → az_AW Z 4 2 [(13, v0), (0, v1), (0, v2), (31, 0)] [] σ (some (0, r.1), r.2)) (k : Nat) : ∀ {σ : az_Hp} {v0 v1 v2 v3 : Int} {r : (Int × az_Hp)}, fz_X11_isParted_19 n k2 k σ v0 v1 v2 v3 = some r → az_AW Z 4 19 [(13, v0), (0, v1), (0, v2), (0, v3)] [] σ (some (0, r.1), r.2) := by
  have hd1 : 1 ≤ d := by omega
  induction k with
  | zero => intro σ v0 v1 v2 v3 r h; simp [fz_X11_isParted_19] at h
  | succ k ih =>
    intro σ v0 v1 v2 v3 r h
    unfold fz_X11_isParted_19 at h
    refine az_il3 (pc := 19) C dX11_isParted_19 ?_
    refine az_al0 (pc := 20) C rfl rfl dX11_isParted_20 ?_
    refine az_getR (pc := 21) (c2 := 13) C h fl_X11_26 rfl rfl dX11_isParted_21 (fun h => ?_)
    refine az_al0 (pc := 24) C rfl rfl dX11_isParted_24 ?_
    refine az_getI (pc := 25) C fl_X11_285 rfl dX11_isParted_25 ?_
    refine az_iaload (pc := 28) C h dX11_isParted_28 (fun h => ?_)
    refine az_icmp_ge (pc := 29) (tgt := 85) C h dX11_isParted_29 (by decide) (fun _ h => ?_) (fun _ h => ?_)
    · refine az_ii2 (pc := 85) C az_n1 rfl rfl dX11_isParted_85 ?_
      refine az_goto (pc := 88) (tgt := 2) C dX11_isParted_88 (by decide) ?_
      exact (az_wkk (hk2 h) (az_sE (az_sE (az_sE (az_sJ az_sN)))))
    refine az_al0 (pc := 32) C rfl rfl dX11_isParted_32 ?_
    refine az_il2 (pc := 33) C dX11_isParted_33 ?_
    refine az_cV1pi (pc := 34) (c := 11) C hd1 h mv_X11_familyOf ml_X11_474 rfl (fun x hx => A_X11_familyOf (by omega) hx) dX11_isParted_34 (fun r3 h => ?_)
    refine az_il1 (pc := 37) C dX11_isParted_37 ?_
    refine az_icmp_ne (pc := 38) (tgt := 79) C h dX11_isParted_38 (by decide) (fun _ h => ?_) (fun _ h => ?_)
    · refine az_ii3 (pc := 79) C az_n1 rfl rfl dX11_isParted_79 ?_
      refine az_goto (pc := 82) (tgt := 19) C dX11_isParted_82 (by decide) ?_
      exact (ih h)
    refine az_al0 (pc := 41) C rfl rfl dX11_isParted_41 ?_
    refine az_il3 (pc := 42) C dX11_isParted_42 ?_
    refine az_cV1pi (pc := 43) (c := 11) C hd1 h mv_X11_familyOf ml_X11_474 rfl (fun x hx => A_X11_familyOf (by omega) hx) dX11_isParted_43 (fun r4 h => ?_)
    refine az_il1 (pc := 46) C dX11_isParted_46 ?_
    refine az_icmp_ne (pc := 47) (tgt := 79) C h dX11_isParted_47 (by decide) (fun _ h => ?_) (fun _ h => ?_)
    · refine az_ii3 (pc := 79) C az_n1 rfl rfl dX11_isParted_79 ?_
      refine az_goto (pc := 82) (tgt := 19) C dX11_isParted_82 (by decide) ?_
      exact (ih h)
    refine az_al0 (pc := 50) C rfl rfl dX11_isParted_50 ?_
    refine az_getR (pc := 51) (c2 := 15) C h fl_X11_109 rfl rfl dX11_isParted_51 (fun h => ?_)
    refine az_bk16 (pc := 54) C dX11_isParted_54 ?_
    refine az_il2 (pc := 56) C dX11_isParted_56 ?_
    refine az_imul (pc := 57) C dX11_isParted_57 ?_
    refine az_il3 (pc := 58) C dX11_isParted_58 ?_
    refine az_iadd (pc := 59) C dX11_isParted_59 ?_
    refine az_zaload (pc := 60) C h dX11_isParted_60 (fun h => ?_)
    refine az_if_eq (pc := 61) (tgt := 67) C h dX11_isParted_61 (by decide) (fun _ h => ?_) (fun _ h => ?_)
    · refine az_al0 (pc := 67) C rfl rfl dX11_isParted_67 ?_
      refine az_il2 (pc := 68) C dX11_isParted_68 ?_
      refine az_putI (pc := 69) C fl_X11_508 (Or.inl rfl) rfl dX11_isParted_69 ?_
      refine az_al0 (pc := 72) C rfl rfl dX11_isParted_72 ?_
      refine az_il3 (pc := 73) C dX11_isParted_73 ?_
      refine az_putI (pc := 74) C fl_X11_511 (Or.inl rfl) rfl dX11_isParted_74 ?_
      refine az_ik1 (pc := 77) C dX11_isParted_77 ?_
      obtain rfl := Option.some.inj h
      exact az_zreturn (pc := 78) C (by decide) dX11_isParted_78 rfl
    refine az_goto (pc := 64) (tgt := 79) C dX11_isParted_64 (by decide) ?_
    refine az_ii3 (pc := 79) C az_n1 rfl rfl dX11_isParted_79 ?_
    refine az_goto (pc := 82) (tgt := 19) C dX11_isParted_82 (by decide) ?_
    exact (ih h)
set_option maxRecDepth 10000 in
set_option maxHeartbeats 4000000 in
theorem A_X11_isParted_2 {Z : az_Z} {d : Nat} (C : az_C Z yX11_isParted cX11_isParted 4 (some .boolean) d) (hD : 3 ≤ d) (n : Nat) (k : Nat) : ∀ {σ : az_Hp} {v0 v1 v2 : Int} {r : (Int × az_Hp)}, fz_X11_isParted_2 n k σ v0 v1 v2 = some r → az_AW Z 4 2 [(13, v0), (0, v1), (0, v2), (31, 0)] [] σ (some (0, r.1), r.2) := by
  have hd1 : 1 ≤ d := by omega
  induction k with
  | zero => intro σ v0 v1 v2 r h; simp [fz_X11_isParted_2] at h
  | succ k ih =>
    intro σ v0 v1 v2 r h
    unfold fz_X11_isParted_2 at h
    refine az_il2 (pc := 2) C dX11_isParted_2 ?_
    refine az_al0 (pc := 3) C rfl rfl dX11_isParted_3 ?_
    refine az_getR (pc := 4) (c2 := 13) C h fl_X11_26 rfl rfl dX11_isParted_4 (fun h => ?_)
    refine az_al0 (pc := 7) C rfl rfl dX11_isParted_7 ?_
    refine az_getI (pc := 8) C fl_X11_285 rfl dX11_isParted_8 ?_
    refine az_iaload (pc := 11) C h dX11_isParted_11 (fun h => ?_)
    refine az_icmp_ge (pc := 12) (tgt := 91) C h dX11_isParted_12 (by decide) (fun _ h => ?_) (fun _ h => ?_)
    · refine az_ik0 (pc := 91) C dX11_isParted_91 ?_
      obtain rfl := Option.some.inj h
      exact az_zreturn (pc := 92) C (by decide) dX11_isParted_92 rfl
    refine az_il2 (pc := 15) C dX11_isParted_15 ?_
    refine az_ik1 (pc := 16) C dX11_isParted_16 ?_
    refine az_iadd (pc := 17) C dX11_isParted_17 ?_
    refine az_is3 (pc := 18) C rfl rfl dX11_isParted_18 ?_
    exact (A_X11_isParted_19 C hD n (fun h => ih h) n h)
set_option maxRecDepth 10000 in
set_option maxHeartbeats 4000000 in
theorem A_X11_isParted_e {Z : az_Z} {d : Nat} (C : az_C Z yX11_isParted cX11_isParted 4 (some .boolean) d) (hD : 3 ≤ d) (n : Nat) {σ : az_Hp} {v0 v1 : Int} {r : (Int × az_Hp)} (h : fz_X11_isParted n σ v0 v1 = some r) : az_AW Z 4 0 [(13, v0), (0, v1), (31, 0), (31, 0)] [] σ (some (0, r.1), r.2) := by
  have hd1 : 1 ≤ d := by omega
  unfold fz_X11_isParted at h
  refine az_ik0 (pc := 0) C dX11_isParted_0 ?_
  refine az_is2 (pc := 1) C rfl rfl dX11_isParted_1 ?_
  exact (A_X11_isParted_2 C hD n n h)
set_option maxRecDepth 10000 in
set_option maxHeartbeats 4000000 in
theorem A_X11_isParted {l : Launch} {d : Nat} (hD : 3 ≤ d) (n : Nat) {σ : az_Hp} {v0 v1 : Int} {r : (Int × az_Hp)} (h : fz_X11_isParted n σ v0 v1 = some r) : az_AC l yX11_isParted cX11_isParted 4 (some .boolean) d [(13, v0), (0, v1)] σ (some (0, r.1), r.2) := az_AC.of mt_X11_isParted rfl rfl rfl (fun Z hZ C => A_X11_isParted_e C hD n h)
theorem dX11_onRight_0 : decode cX11_onRight 0 = .ok (.iconst 0, 1) := by decide +kernel
theorem dX11_onRight_1 : decode cX11_onRight 1 = .ok (.istore_n 2, 1) := by decide +kernel
theorem dX11_onRight_2 : decode cX11_onRight 2 = .ok (.iconst 0, 1) := by decide +kernel
theorem dX11_onRight_3 : decode cX11_onRight 3 = .ok (.istore_n 3, 1) := by decide +kernel
theorem dX11_onRight_4 : decode cX11_onRight 4 = .ok (.iload_n 3, 1) := by decide +kernel
theorem dX11_onRight_5 : decode cX11_onRight 5 = .ok (.aload_n 0, 1) := by decide +kernel
theorem dX11_onRight_6 : decode cX11_onRight 6 = .ok (.getfield 26, 3) := by decide +kernel
theorem dX11_onRight_9 : decode cX11_onRight 9 = .ok (.aload_n 0, 1) := by decide +kernel
theorem dX11_onRight_10 : decode cX11_onRight 10 = .ok (.getfield 285, 3) := by decide +kernel
theorem dX11_onRight_13 : decode cX11_onRight 13 = .ok (.iaload, 1) := by decide +kernel
theorem dX11_onRight_14 : decode cX11_onRight 14 = .ok (.if_icmp .ge 92, 3) := by decide +kernel
theorem dX11_onRight_17 : decode cX11_onRight 17 = .ok (.aload_n 0, 1) := by decide +kernel
theorem dX11_onRight_18 : decode cX11_onRight 18 = .ok (.iload_n 3, 1) := by decide +kernel
theorem dX11_onRight_19 : decode cX11_onRight 19 = .ok (.invokevirtual 474, 3) := by decide +kernel
theorem dX11_onRight_22 : decode cX11_onRight 22 = .ok (.iload_n 1, 1) := by decide +kernel
theorem dX11_onRight_23 : decode cX11_onRight 23 = .ok (.if_icmp .eq 6, 3) := by decide +kernel
theorem dX11_onRight_26 : decode cX11_onRight 26 = .ok (.goto 74, 3) := by decide +kernel
theorem dX11_onRight_29 : decode cX11_onRight 29 = .ok (.iconst 0, 1) := by decide +kernel
theorem dX11_onRight_30 : decode cX11_onRight 30 = .ok (.istore 4, 2) := by decide +kernel
theorem dX11_onRight_32 : decode cX11_onRight 32 = .ok (.iload 4, 2) := by decide +kernel
theorem dX11_onRight_34 : decode cX11_onRight 34 = .ok (.aload_n 0, 1) := by decide +kernel
theorem dX11_onRight_35 : decode cX11_onRight 35 = .ok (.getfield 58, 3) := by decide +kernel
theorem dX11_onRight_38 : decode cX11_onRight 38 = .ok (.aload_n 0, 1) := by decide +kernel
theorem dX11_onRight_39 : decode cX11_onRight 39 = .ok (.iload_n 3, 1) := by decide +kernel
theorem dX11_onRight_40 : decode cX11_onRight 40 = .ok (.invokevirtual 358, 3) := by decide +kernel
theorem dX11_onRight_43 : decode cX11_onRight 43 = .ok (.iaload, 1) := by decide +kernel
theorem dX11_onRight_44 : decode cX11_onRight 44 = .ok (.if_icmp .ge 56, 3) := by decide +kernel
theorem dX11_onRight_47 : decode cX11_onRight 47 = .ok (.aload_n 0, 1) := by decide +kernel
theorem dX11_onRight_48 : decode cX11_onRight 48 = .ok (.getfield 52, 3) := by decide +kernel
theorem dX11_onRight_51 : decode cX11_onRight 51 = .ok (.bipush 16, 2) := by decide +kernel
theorem dX11_onRight_53 : decode cX11_onRight 53 = .ok (.aload_n 0, 1) := by decide +kernel
theorem dX11_onRight_54 : decode cX11_onRight 54 = .ok (.iload_n 3, 1) := by decide +kernel
theorem dX11_onRight_55 : decode cX11_onRight 55 = .ok (.invokevirtual 358, 3) := by decide +kernel
theorem dX11_onRight_58 : decode cX11_onRight 58 = .ok (.imul, 1) := by decide +kernel
theorem dX11_onRight_59 : decode cX11_onRight 59 = .ok (.iload 4, 2) := by decide +kernel
theorem dX11_onRight_61 : decode cX11_onRight 61 = .ok (.iadd, 1) := by decide +kernel
theorem dX11_onRight_62 : decode cX11_onRight 62 = .ok (.iaload, 1) := by decide +kernel
theorem dX11_onRight_63 : decode cX11_onRight 63 = .ok (.invokestatic 291, 3) := by decide +kernel
theorem dX11_onRight_66 : decode cX11_onRight 66 = .ok (.ifCond .eq 28, 3) := by decide +kernel
theorem dX11_onRight_69 : decode cX11_onRight 69 = .ok (.iload_n 2, 1) := by decide +kernel
theorem dX11_onRight_70 : decode cX11_onRight 70 = .ok (.iconst 1, 1) := by decide +kernel
theorem dX11_onRight_71 : decode cX11_onRight 71 = .ok (.aload_n 0, 1) := by decide +kernel
theorem dX11_onRight_72 : decode cX11_onRight 72 = .ok (.getfield 52, 3) := by decide +kernel
theorem dX11_onRight_75 : decode cX11_onRight 75 = .ok (.bipush 16, 2) := by decide +kernel
theorem dX11_onRight_77 : decode cX11_onRight 77 = .ok (.aload_n 0, 1) := by decide +kernel
theorem dX11_onRight_78 : decode cX11_onRight 78 = .ok (.iload_n 3, 1) := by decide +kernel
theorem dX11_onRight_79 : decode cX11_onRight 79 = .ok (.invokevirtual 358, 3) := by decide +kernel
theorem dX11_onRight_82 : decode cX11_onRight 82 = .ok (.imul, 1) := by decide +kernel
theorem dX11_onRight_83 : decode cX11_onRight 83 = .ok (.iload 4, 2) := by decide +kernel
theorem dX11_onRight_85 : decode cX11_onRight 85 = .ok (.iadd, 1) := by decide +kernel
theorem dX11_onRight_86 : decode cX11_onRight 86 = .ok (.iaload, 1) := by decide +kernel
theorem dX11_onRight_87 : decode cX11_onRight 87 = .ok (.sipush 200, 3) := by decide +kernel
theorem dX11_onRight_90 : decode cX11_onRight 90 = .ok (.isub, 1) := by decide +kernel
theorem dX11_onRight_91 : decode cX11_onRight 91 = .ok (.ishl, 1) := by decide +kernel
theorem dX11_onRight_92 : decode cX11_onRight 92 = .ok (.ior, 1) := by decide +kernel
theorem dX11_onRight_93 : decode cX11_onRight 93 = .ok (.istore_n 2, 1) := by decide +kernel
theorem dX11_onRight_94 : decode cX11_onRight 94 = .ok (.iinc 4 1, 3) := by decide +kernel
theorem dX11_onRight_97 : decode cX11_onRight 97 = .ok (.goto (-65), 3) := by decide +kernel
theorem dX11_onRight_100 : decode cX11_onRight 100 = .ok (.iinc 3 1, 3) := by decide +kernel
theorem dX11_onRight_103 : decode cX11_onRight 103 = .ok (.goto (-99), 3) := by decide +kernel
theorem dX11_onRight_106 : decode cX11_onRight 106 = .ok (.iload_n 2, 1) := by decide +kernel
theorem dX11_onRight_107 : decode cX11_onRight 107 = .ok (.ireturn, 1) := by decide +kernel
set_option maxRecDepth 10000 in
set_option maxHeartbeats 4000000 in
theorem A_X11_onRight_32 {Z : az_Z} {d : Nat} (C : az_C Z yX11_onRight cX11_onRight 5 (some .int) d) (hD : 3 ≤ d) (n : Nat) {k4 : az_Hp → Int → Int → Int → Int → Option Int} (hk4 : ∀ {σ : az_Hp} {v0 v1 v2 v3 : Int} {r : Int}, k4 σ v0 v1 v2 v3 = some r → az_AW Z 5 4 [(13, v0), (0, v1), (0, v2), (0, v3), (31, 0)] [] σ (some (0, r), σ)) (k : Nat) : ∀ {σ : az_Hp} {v0 v1 v2 v3 v4 : Int} {r : Int}, fz_X11_onRight_32 n k4 k σ v0 v1 v2 v3 v4 = some r → az_AW Z 5 32 [(13, v0), (0, v1), (0, v2), (0, v3), (0, v4)] [] σ (some (0, r), σ) := by
  have hd1 : 1 ≤ d := by omega
  induction k with
  | zero => intro σ v0 v1 v2 v3 v4 r h; simp [fz_X11_onRight_32] at h
  | succ k ih =>
    intro σ v0 v1 v2 v3 v4 r h
    unfold fz_X11_onRight_32 at h
    refine az_il4 (pc := 32) C dX11_onRight_32 ?_
    refine az_al0 (pc := 34) C rfl rfl dX11_onRight_34 ?_
    refine az_getR (pc := 35) (c2 := 13) C h fl_X11_58 rfl rfl dX11_onRight_35 (fun h => ?_)
    refine az_al0 (pc := 38) C rfl rfl dX11_onRight_38 ?_
    refine az_il3 (pc := 39) C dX11_onRight_39 ?_
    refine az_cV1pi (pc := 40) (c := 11) C hd1 h mv_X11_eqAt ml_X11_358 rfl (fun x hx => A_X11_eqAt (by omega) hx) dX11_onRight_40 (fun r2 h => ?_)
    refine az_iaload (pc := 43) C h dX11_onRight_43 (fun h => ?_)
    refine az_icmp_ge (pc := 44) (tgt := 100) C h dX11_onRight_44 (by decide) (fun _ h => ?_) (fun _ h => ?_)
    · refine az_ii3 (pc := 100) C az_n1 rfl rfl dX11_onRight_100 ?_
      refine az_goto (pc := 103) (tgt := 4) C dX11_onRight_103 (by decide) ?_
      exact (az_wkk (hk4 h) (az_sE (az_sE (az_sE (az_sE (az_sJ az_sN))))))
    refine az_al0 (pc := 47) C rfl rfl dX11_onRight_47 ?_
    refine az_getR (pc := 48) (c2 := 13) C h fl_X11_52 rfl rfl dX11_onRight_48 (fun h => ?_)
    refine az_bk16 (pc := 51) C dX11_onRight_51 ?_
    refine az_al0 (pc := 53) C rfl rfl dX11_onRight_53 ?_
    refine az_il3 (pc := 54) C dX11_onRight_54 ?_
    refine az_cV1pi (pc := 55) (c := 11) C hd1 h mv_X11_eqAt ml_X11_358 rfl (fun x hx => A_X11_eqAt (by omega) hx) dX11_onRight_55 (fun r5 h => ?_)
    refine az_imul (pc := 58) C dX11_onRight_58 ?_
    refine az_il4 (pc := 59) C dX11_onRight_59 ?_
    refine az_iadd (pc := 61) C dX11_onRight_61 ?_
    refine az_iaload (pc := 62) C h dX11_onRight_62 (fun h => ?_)
    refine az_cS1pi (pc := 63) C hd1 h ms_X11_isFam ml_X11_291 rfl (fun x hx => A_X11_isFam (by omega) hx) dX11_onRight_63 (fun r7 h => ?_)
    refine az_if_eq (pc := 66) (tgt := 94) C h dX11_onRight_66 (by decide) (fun _ h => ?_) (fun _ h => ?_)
    · refine az_ii4 (pc := 94) C az_n1 rfl rfl dX11_onRight_94 ?_
      refine az_goto (pc := 97) (tgt := 32) C dX11_onRight_97 (by decide) ?_
      exact (ih h)
    refine az_il2 (pc := 69) C dX11_onRight_69 ?_
    refine az_ik1 (pc := 70) C dX11_onRight_70 ?_
    refine az_al0 (pc := 71) C rfl rfl dX11_onRight_71 ?_
    refine az_getR (pc := 72) (c2 := 13) C h fl_X11_52 rfl rfl dX11_onRight_72 (fun h => ?_)
    refine az_bk16 (pc := 75) C dX11_onRight_75 ?_
    refine az_al0 (pc := 77) C rfl rfl dX11_onRight_77 ?_
    refine az_il3 (pc := 78) C dX11_onRight_78 ?_
    refine az_cV1pi (pc := 79) (c := 11) C hd1 h mv_X11_eqAt ml_X11_358 rfl (fun x hx => A_X11_eqAt (by omega) hx) dX11_onRight_79 (fun r9 h => ?_)
    refine az_imul (pc := 82) C dX11_onRight_82 ?_
    refine az_il4 (pc := 83) C dX11_onRight_83 ?_
    refine az_iadd (pc := 85) C dX11_onRight_85 ?_
    refine az_iaload (pc := 86) C h dX11_onRight_86 (fun h => ?_)
    refine az_sk200 (pc := 87) C dX11_onRight_87 ?_
    refine az_isub (pc := 90) C dX11_onRight_90 ?_
    refine az_ishl (pc := 91) C dX11_onRight_91 ?_
    refine az_ior (pc := 92) C dX11_onRight_92 ?_
    refine az_is2 (pc := 93) C rfl rfl dX11_onRight_93 ?_
    refine az_ii4 (pc := 94) C az_n1 rfl rfl dX11_onRight_94 ?_
    refine az_goto (pc := 97) (tgt := 32) C dX11_onRight_97 (by decide) ?_
    exact (ih h)
set_option maxRecDepth 10000 in
set_option maxHeartbeats 4000000 in
theorem A_X11_onRight_4 {Z : az_Z} {d : Nat} (C : az_C Z yX11_onRight cX11_onRight 5 (some .int) d) (hD : 3 ≤ d) (n : Nat) (k : Nat) : ∀ {σ : az_Hp} {v0 v1 v2 v3 : Int} {r : Int}, fz_X11_onRight_4 n k σ v0 v1 v2 v3 = some r → az_AW Z 5 4 [(13, v0), (0, v1), (0, v2), (0, v3), (31, 0)] [] σ (some (0, r), σ) := by
  have hd1 : 1 ≤ d := by omega
  induction k with
  | zero => intro σ v0 v1 v2 v3 r h; simp [fz_X11_onRight_4] at h
  | succ k ih =>
    intro σ v0 v1 v2 v3 r h
    unfold fz_X11_onRight_4 at h
    refine az_il3 (pc := 4) C dX11_onRight_4 ?_
    refine az_al0 (pc := 5) C rfl rfl dX11_onRight_5 ?_
    refine az_getR (pc := 6) (c2 := 13) C h fl_X11_26 rfl rfl dX11_onRight_6 (fun h => ?_)
    refine az_al0 (pc := 9) C rfl rfl dX11_onRight_9 ?_
    refine az_getI (pc := 10) C fl_X11_285 rfl dX11_onRight_10 ?_
    refine az_iaload (pc := 13) C h dX11_onRight_13 (fun h => ?_)
    refine az_icmp_ge (pc := 14) (tgt := 106) C h dX11_onRight_14 (by decide) (fun _ h => ?_) (fun _ h => ?_)
    · refine az_il2 (pc := 106) C dX11_onRight_106 ?_
      obtain rfl := Option.some.inj h
      exact az_ireturn (pc := 107) C dX11_onRight_107 rfl
    refine az_al0 (pc := 17) C rfl rfl dX11_onRight_17 ?_
    refine az_il3 (pc := 18) C dX11_onRight_18 ?_
    refine az_cV1pi (pc := 19) (c := 11) C hd1 h mv_X11_familyOf ml_X11_474 rfl (fun x hx => A_X11_familyOf (by omega) hx) dX11_onRight_19 (fun r3 h => ?_)
    refine az_il1 (pc := 22) C dX11_onRight_22 ?_
    refine az_icmp_eq (pc := 23) (tgt := 29) C h dX11_onRight_23 (by decide) (fun _ h => ?_) (fun _ h => ?_)
    · refine az_ik0 (pc := 29) C dX11_onRight_29 ?_
      refine az_is4 (pc := 30) C rfl rfl dX11_onRight_30 ?_
      exact (A_X11_onRight_32 C hD n (fun h => ih h) n h)
    refine az_goto (pc := 26) (tgt := 100) C dX11_onRight_26 (by decide) ?_
    refine az_ii3 (pc := 100) C az_n1 rfl rfl dX11_onRight_100 ?_
    refine az_goto (pc := 103) (tgt := 4) C dX11_onRight_103 (by decide) ?_
    exact (ih h)
set_option maxRecDepth 10000 in
set_option maxHeartbeats 4000000 in
theorem A_X11_onRight_e {Z : az_Z} {d : Nat} (C : az_C Z yX11_onRight cX11_onRight 5 (some .int) d) (hD : 3 ≤ d) (n : Nat) {σ : az_Hp} {v0 v1 : Int} {r : Int} (h : fz_X11_onRight n σ v0 v1 = some r) : az_AW Z 5 0 [(13, v0), (0, v1), (31, 0), (31, 0), (31, 0)] [] σ (some (0, r), σ) := by
  have hd1 : 1 ≤ d := by omega
  unfold fz_X11_onRight at h
  refine az_ik0 (pc := 0) C dX11_onRight_0 ?_
  refine az_is2 (pc := 1) C rfl rfl dX11_onRight_1 ?_
  refine az_ik0 (pc := 2) C dX11_onRight_2 ?_
  refine az_is3 (pc := 3) C rfl rfl dX11_onRight_3 ?_
  exact (A_X11_onRight_4 C hD n n h)
set_option maxRecDepth 10000 in
set_option maxHeartbeats 4000000 in
theorem A_X11_onRight {l : Launch} {d : Nat} (hD : 3 ≤ d) (n : Nat) {σ : az_Hp} {v0 v1 : Int} {r : Int} (h : fz_X11_onRight n σ v0 v1 = some r) : az_AC l yX11_onRight cX11_onRight 5 (some .int) d [(13, v0), (0, v1)] σ (some (0, r), σ) := az_AC.of mt_X11_onRight rfl rfl rfl (fun Z hZ C => A_X11_onRight_e C hD n h)
