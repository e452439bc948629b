theorem dX11_whyNot_0 : decode cX11_whyNot 0 = .ok (.aload_n 2, 1) := by decide +kernel
theorem dX11_whyNot_1 : decode cX11_whyNot 1 = .ok (.iload_n 3, 1) := by decide +kernel
theorem dX11_whyNot_2 : decode cX11_whyNot 2 = .ok (.iaload, 1) := by decide +kernel
theorem dX11_whyNot_3 : decode cX11_whyNot 3 = .ok (.sipush 200, 3) := by decide +kernel
theorem dX11_whyNot_6 : decode cX11_whyNot 6 = .ok (.aload_n 0, 1) := by decide +kernel
theorem dX11_whyNot_7 : decode cX11_whyNot 7 = .ok (.iload_n 1, 1) := by decide +kernel
theorem dX11_whyNot_8 : decode cX11_whyNot 8 = .ok (.invokevirtual 474, 3) := by decide +kernel
theorem dX11_whyNot_11 : decode cX11_whyNot 11 = .ok (.iadd, 1) := by decide +kernel
theorem dX11_whyNot_12 : decode cX11_whyNot 12 = .ok (.if_icmp .eq 5, 3) := by decide +kernel
theorem dX11_whyNot_15 : decode cX11_whyNot 15 = .ok (.iconst 1, 1) := by decide +kernel
theorem dX11_whyNot_16 : decode cX11_whyNot 16 = .ok (.ireturn, 1) := by decide +kernel
theorem dX11_whyNot_17 : decode cX11_whyNot 17 = .ok (.aload_n 0, 1) := by decide +kernel
theorem dX11_whyNot_18 : decode cX11_whyNot 18 = .ok (.iload_n 1, 1) := by decide +kernel
theorem dX11_whyNot_19 : decode cX11_whyNot 19 = .ok (.aload_n 2, 1) := by decide +kernel
theorem dX11_whyNot_20 : decode cX11_whyNot 20 = .ok (.iload_n 3, 1) := by decide +kernel
theorem dX11_whyNot_21 : decode cX11_whyNot 21 = .ok (.invokevirtual 573, 3) := by decide +kernel
theorem dX11_whyNot_24 : decode cX11_whyNot 24 = .ok (.ifCond .ne 5, 3) := by decide +kernel
theorem dX11_whyNot_27 : decode cX11_whyNot 27 = .ok (.iconst 2, 1) := by decide +kernel
theorem dX11_whyNot_28 : decode cX11_whyNot 28 = .ok (.ireturn, 1) := by decide +kernel
theorem dX11_whyNot_29 : decode cX11_whyNot 29 = .ok (.aload_n 0, 1) := by decide +kernel
theorem dX11_whyNot_30 : decode cX11_whyNot 30 = .ok (.iload_n 1, 1) := by decide +kernel
theorem dX11_whyNot_31 : decode cX11_whyNot 31 = .ok (.aload_n 2, 1) := by decide +kernel
theorem dX11_whyNot_32 : decode cX11_whyNot 32 = .ok (.iload_n 3, 1) := by decide +kernel
theorem dX11_whyNot_33 : decode cX11_whyNot 33 = .ok (.invokevirtual 576, 3) := by decide +kernel
theorem dX11_whyNot_36 : decode cX11_whyNot 36 = .ok (.iconst (-1), 1) := by decide +kernel
theorem dX11_whyNot_37 : decode cX11_whyNot 37 = .ok (.if_icmp .ne 7, 3) := by decide +kernel
theorem dX11_whyNot_40 : decode cX11_whyNot 40 = .ok (.iconst 0, 1) := by decide +kernel
theorem dX11_whyNot_41 : decode cX11_whyNot 41 = .ok (.goto 4, 3) := by decide +kernel
theorem dX11_whyNot_44 : decode cX11_whyNot 44 = .ok (.iconst 3, 1) := by decide +kernel
theorem dX11_whyNot_45 : decode cX11_whyNot 45 = .ok (.ireturn, 1) := by decide +kernel
set_option maxRecDepth 10000 in
set_option maxHeartbeats 4000000 in
theorem A_X11_whyNot_e {Z : az_Z} {d : Nat} (C : az_C Z yX11_whyNot cX11_whyNot 4 (some .int) d) (hD : 210 ≤ d) (n : Nat) {σ : az_Hp} {v0 v1 v2 v3 : Int} {r : (Int × az_Hp)} (h : fz_X11_whyNot n σ v0 v1 v2 v3 = some r) : az_AW Z 4 0 [(13, v0), (0, v1), (15, v2), (0, v3)] [] σ (some (0, r.1), r.2) := by
  have hd1 : 1 ≤ d := by omega
  unfold fz_X11_whyNot at h
  refine az_al2 (pc := 0) C rfl rfl dX11_whyNot_0 ?_
  refine az_il3 (pc := 1) C dX11_whyNot_1 ?_
  refine az_iaload (pc := 2) C h dX11_whyNot_2 (fun h => ?_)
  refine az_sk200 (pc := 3) C dX11_whyNot_3 ?_
  refine az_al0 (pc := 6) C rfl rfl dX11_whyNot_6 ?_
  refine az_il1 (pc := 7) C dX11_whyNot_7 ?_
  refine az_cV1pi (pc := 8) (c := 11) C hd1 h mv_X11_familyOf ml_X11_474 rfl (fun x hx => A_X11_familyOf (by omega) hx) dX11_whyNot_8 (fun r2 h => ?_)
  refine az_iadd (pc := 11) C dX11_whyNot_11 ?_
  refine az_icmp_eq (pc := 12) (tgt := 17) C h dX11_whyNot_12 (by decide) (fun _ h => ?_) (fun _ h => ?_)
  · refine az_al0 (pc := 17) C rfl rfl dX11_whyNot_17 ?_
    refine az_il1 (pc := 18) C dX11_whyNot_18 ?_
    refine az_al2 (pc := 19) C rfl rfl dX11_whyNot_19 ?_
    refine az_il3 (pc := 20) C dX11_whyNot_20 ?_
    refine az_cV3ii (pc := 21) (c := 11) C hd1 h mv_X11_fits ml_X11_573 rfl (fun x hx => A_X11_fits (by omega) n hx) dX11_whyNot_21 (fun r3 h => ?_)
    refine az_if_ne (pc := 24) (tgt := 29) C h dX11_whyNot_24 (by decide) (fun _ h => ?_) (fun _ h => ?_)
    · refine az_al0 (pc := 29) C rfl rfl dX11_whyNot_29 ?_
      refine az_il1 (pc := 30) C dX11_whyNot_30 ?_
      refine az_al2 (pc := 31) C rfl rfl dX11_whyNot_31 ?_
      refine az_il3 (pc := 32) C dX11_whyNot_32 ?_
      refine az_cV3ii (pc := 33) (c := 11) C hd1 h mv_X11_mayStill ml_X11_576 rfl (fun x hx => A_X11_mayStill (by omega) n hx) dX11_whyNot_33 (fun r4 h => ?_)
      refine az_ikm1 (pc := 36) C dX11_whyNot_36 ?_
      refine az_icmp_ne (pc := 37) (tgt := 44) C h dX11_whyNot_37 (by decide) (fun _ h => ?_) (fun _ h => ?_)
      · refine az_ik3 (pc := 44) C dX11_whyNot_44 ?_
        obtain rfl := Option.some.inj h
        exact az_ireturn (pc := 45) C dX11_whyNot_45 rfl
      refine az_ik0 (pc := 40) C dX11_whyNot_40 ?_
      refine az_goto (pc := 41) (tgt := 45) C dX11_whyNot_41 (by decide) ?_
      obtain rfl := Option.some.inj h
      exact az_ireturn (pc := 45) C dX11_whyNot_45 rfl
    refine az_ik2 (pc := 27) C dX11_whyNot_27 ?_
    obtain rfl := Option.some.inj h
    exact az_ireturn (pc := 28) C dX11_whyNot_28 rfl
  refine az_ik1 (pc := 15) C dX11_whyNot_15 ?_
  obtain rfl := Option.some.inj h
  exact az_ireturn (pc := 16) C dX11_whyNot_16 rfl
set_option maxRecDepth 10000 in
set_option maxHeartbeats 4000000 in
theorem A_X11_whyNot {l : Launch} {d : Nat} (hD : 210 ≤ d) (n : Nat) {σ : az_Hp} {v0 v1 v2 v3 : Int} {r : (Int × az_Hp)} (h : fz_X11_whyNot n σ v0 v1 v2 v3 = some r) : az_AC l yX11_whyNot cX11_whyNot 4 (some .int) d [(13, v0), (0, v1), (15, v2), (0, v3)] σ (some (0, r.1), r.2) := az_AC.of mt_X11_whyNot rfl rfl rfl (fun Z hZ C => A_X11_whyNot_e C hD n h)
theorem dX11_firing_0 : decode cX11_firing 0 = .ok (.iconst 0, 1) := by decide +kernel
theorem dX11_firing_1 : decode cX11_firing 1 = .ok (.istore_n 3, 1) := by decide +kernel
theorem dX11_firing_2 : decode cX11_firing 2 = .ok (.iload_n 3, 1) := by decide +kernel
theorem dX11_firing_3 : decode cX11_firing 3 = .ok (.aload_n 0, 1) := by decide +kernel
theorem dX11_firing_4 : decode cX11_firing 4 = .ok (.getfield 26, 3) := by decide +kernel
theorem dX11_firing_7 : decode cX11_firing 7 = .ok (.aload_n 0, 1) := by decide +kernel
theorem dX11_firing_8 : decode cX11_firing 8 = .ok (.getfield 285, 3) := by decide +kernel
theorem dX11_firing_11 : decode cX11_firing 11 = .ok (.iaload, 1) := by decide +kernel
theorem dX11_firing_12 : decode cX11_firing 12 = .ok (.if_icmp .ge 30, 3) := by decide +kernel
theorem dX11_firing_15 : decode cX11_firing 15 = .ok (.aload_n 1, 1) := by decide +kernel
theorem dX11_firing_16 : decode cX11_firing 16 = .ok (.iload_n 2, 1) := by decide +kernel
theorem dX11_firing_17 : decode cX11_firing 17 = .ok (.iaload, 1) := by decide +kernel
theorem dX11_firing_18 : decode cX11_firing 18 = .ok (.invokestatic 291, 3) := by decide +kernel
theorem dX11_firing_21 : decode cX11_firing 21 = .ok (.ifCond .eq 21, 3) := by decide +kernel
theorem dX11_firing_24 : decode cX11_firing 24 = .ok (.aload_n 0, 1) := by decide +kernel
theorem dX11_firing_25 : decode cX11_firing 25 = .ok (.iload_n 3, 1) := by decide +kernel
theorem dX11_firing_26 : decode cX11_firing 26 = .ok (.aload_n 1, 1) := by decide +kernel
theorem dX11_firing_27 : decode cX11_firing 27 = .ok (.iload_n 2, 1) := by decide +kernel
theorem dX11_firing_28 : decode cX11_firing 28 = .ok (.invokevirtual 580, 3) := by decide +kernel
theorem dX11_firing_31 : decode cX11_firing 31 = .ok (.ifCond .ne 5, 3) := by decide +kernel
theorem dX11_firing_34 : decode cX11_firing 34 = .ok (.iload_n 3, 1) := by decide +kernel
theorem dX11_firing_35 : decode cX11_firing 35 = .ok (.ireturn, 1) := by decide +kernel
theorem dX11_firing_36 : decode cX11_firing 36 = .ok (.iinc 3 1, 3) := by decide +kernel
theorem dX11_firing_39 : decode cX11_firing 39 = .ok (.goto (-37), 3) := by decide +kernel
theorem dX11_firing_42 : decode cX11_firing 42 = .ok (.iconst (-1), 1) := by decide +kernel
theorem dX11_firing_43 : decode cX11_firing 43 = .ok (.ireturn, 1) := by decide +kernel
set_option maxRecDepth 10000 in
set_option maxHeartbeats 4000000 in
theorem A_X11_firing_2 {Z : az_Z} {d : Nat} (C : az_C Z yX11_firing cX11_firing 4 (some .int) d) (hD : 211 ≤ d) (n : Nat) (k : Nat) : ∀ {σ : az_Hp} {v0 v1 v2 v3 : Int} {r : (Int × az_Hp)}, fz_X11_firing_2 n k σ v0 v1 v2 v3 = some r → az_AW Z 4 2 [(13, v0), (15, v1), (0, v2), (0, v3)] [] σ (some (0, r.1), r.2) := by
  have hd1 : 1 ≤ d := by omega
  induction k with
  | zero => intro σ v0 v1 v2 v3 r h; simp [fz_X11_firing_2] at h
  | succ k ih =>
    intro σ v0 v1 v2 v3 r h
    unfold fz_X11_firing_2 at h
    refine az_il3 (pc := 2) C dX11_firing_2 ?_
    refine az_al0 (pc := 3) C rfl rfl dX11_firing_3 ?_
    refine az_getR (pc := 4) (c2 := 13) C h fl_X11_26 rfl rfl dX11_firing_4 (fun h => ?_)
    refine az_al0 (pc := 7) C rfl rfl dX11_firing_7 ?_
    refine az_getI (pc := 8) C fl_X11_285 rfl dX11_firing_8 ?_
    refine az_iaload (pc := 11) C h dX11_firing_11 (fun h => ?_)
    refine az_icmp_ge (pc := 12) (tgt := 42) C h dX11_firing_12 (by decide) (fun _ h => ?_) (fun _ h => ?_)
    · refine az_ikm1 (pc := 42) C dX11_firing_42 ?_
      obtain rfl := Option.some.inj h
      exact az_ireturn (pc := 43) C dX11_firing_43 rfl
    refine az_al1 (pc := 15) C rfl rfl dX11_firing_15 ?_
    refine az_il2 (pc := 16) C dX11_firing_16 ?_
    refine az_iaload (pc := 17) C h dX11_firing_17 (fun h => ?_)
    refine az_cS1pi (pc := 18) C hd1 h ms_X11_isFam ml_X11_291 rfl (fun x hx => A_X11_isFam (by omega) hx) dX11_firing_18 (fun r4 h => ?_)
    refine az_if_eq (pc := 21) (tgt := 42) C h dX11_firing_21 (by decide) (fun _ h => ?_) (fun _ h => ?_)
    · refine az_ikm1 (pc := 42) C dX11_firing_42 ?_
      obtain rfl := Option.some.inj h
      exact az_ireturn (pc := 43) C dX11_firing_43 rfl
    refine az_al0 (pc := 24) C rfl rfl dX11_firing_24 ?_
    refine az_il3 (pc := 25) C dX11_firing_25 ?_
    refine az_al1 (pc := 26) C rfl rfl dX11_firing_26 ?_
    refine az_il2 (pc := 27) C dX11_firing_27 ?_
    refine az_cV3ii (pc := 28) (c := 11) C hd1 h mv_X11_whyNot ml_X11_580 rfl (fun x hx => A_X11_whyNot (by omega) n hx) dX11_firing_28 (fun r5 h => ?_)
    refine az_if_ne (pc := 31) (tgt := 36) C h dX11_firing_31 (by decide) (fun _ h => ?_) (fun _ h => ?_)
    · refine az_ii3 (pc := 36) C az_n1 rfl rfl dX11_firing_36 ?_
      refine az_goto (pc := 39) (tgt := 2) C dX11_firing_39 (by decide) ?_
      exact (ih h)
    refine az_il3 (pc := 34) C dX11_firing_34 ?_
    obtain rfl := Option.some.inj h
    exact az_ireturn (pc := 35) C dX11_firing_35 rfl
set_option maxRecDepth 10000 in
set_option maxHeartbeats 4000000 in
theorem A_X11_firing_e {Z : az_Z} {d : Nat} (C : az_C Z yX11_firing cX11_firing 4 (some .int) d) (hD : 211 ≤ d) (n : Nat) {σ : az_Hp} {v0 v1 v2 : Int} {r : (Int × az_Hp)} (h : fz_X11_firing n σ v0 v1 v2 = some r) : az_AW Z 4 0 [(13, v0), (15, v1), (0, v2), (31, 0)] [] σ (some (0, r.1), r.2) := by
  have hd1 : 1 ≤ d := by omega
  unfold fz_X11_firing at h
  refine az_ik0 (pc := 0) C dX11_firing_0 ?_
  refine az_is3 (pc := 1) C rfl rfl dX11_firing_1 ?_
  exact (A_X11_firing_2 C hD n n h)
set_option maxRecDepth 10000 in
set_option maxHeartbeats 4000000 in
theorem A_X11_firing {l : Launch} {d : Nat} (hD : 211 ≤ d) (n : Nat) {σ : az_Hp} {v0 v1 v2 : Int} {r : (Int × az_Hp)} (h : fz_X11_firing n σ v0 v1 v2 = some r) : az_AC l yX11_firing cX11_firing 4 (some .int) d [(13, v0), (15, v1), (0, v2)] σ (some (0, r.1), r.2) := az_AC.of mt_X11_firing rfl rfl rfl (fun Z hZ C => A_X11_firing_e C hD n h)
theorem dX11_isCon_0 : decode cX11_isCon 0 = .ok (.iload_n 0, 1) := by decide +kernel
theorem dX11_isCon_1 : decode cX11_isCon 1 = .ok (.bipush 100, 2) := by decide +kernel
theorem dX11_isCon_3 : decode cX11_isCon 3 = .ok (.if_icmp .lt 14, 3) := by decide +kernel
theorem dX11_isCon_6 : decode cX11_isCon 6 = .ok (.iload_n 0, 1) := by decide +kernel
theorem dX11_isCon_7 : decode cX11_isCon 7 = .ok (.sipush 200, 3) := by decide +kernel
theorem dX11_isCon_10 : decode cX11_isCon 10 = .ok (.if_icmp .ge 7, 3) := by decide +kernel
theorem dX11_isCon_13 : decode cX11_isCon 13 = .ok (.iconst 1, 1) := by decide +kernel
theorem dX11_isCon_14 : decode cX11_isCon 14 = .ok (.goto 4, 3) := by decide +kernel
theorem dX11_isCon_17 : decode cX11_isCon 17 = .ok (.iconst 0, 1) := by decide +kernel
theorem dX11_isCon_18 : decode cX11_isCon 18 = .ok (.ireturn, 1) := by decide +kernel
set_option maxRecDepth 10000 in
set_option maxHeartbeats 4000000 in
theorem A_X11_isCon_e {Z : az_Z} {d : Nat} (C : az_C Z yX11_isCon cX11_isCon 1 (some .boolean) d) (hD : 1 ≤ d) {σ : az_Hp} {v0 : Int} {r : Int} (h : fz_X11_isCon σ v0 = some r) : az_AW Z 1 0 [(0, v0)] [] σ (some (0, r), σ) := by
  have hd1 : 1 ≤ d := by omega
  unfold fz_X11_isCon at h
  refine az_il0 (pc := 0) C dX11_isCon_0 ?_
  refine az_bk100 (pc := 1) C dX11_isCon_1 ?_
  refine az_icmp_lt (pc := 3) (tgt := 17) C h dX11_isCon_3 (by decide) (fun _ h => ?_) (fun _ h => ?_)
  · refine az_ik0 (pc := 17) C dX11_isCon_17 ?_
    obtain rfl := Option.some.inj h
    exact az_zreturn (pc := 18) C (by decide) dX11_isCon_18 rfl
  refine az_il0 (pc := 6) C dX11_isCon_6 ?_
  refine az_sk200 (pc := 7) C dX11_isCon_7 ?_
  refine az_icmp_ge (pc := 10) (tgt := 17) C h dX11_isCon_10 (by decide) (fun _ h => ?_) (fun _ h => ?_)
  · refine az_ik0 (pc := 17) C dX11_isCon_17 ?_
    obtain rfl := Option.some.inj h
    exact az_zreturn (pc := 18) C (by decide) dX11_isCon_18 rfl
  refine az_ik1 (pc := 13) C dX11_isCon_13 ?_
  refine az_goto (pc := 14) (tgt := 18) C dX11_isCon_14 (by decide) ?_
  obtain rfl := Option.some.inj h
  exact az_zreturn (pc := 18) C (by decide) dX11_isCon_18 rfl
set_option maxRecDepth 10000 in
set_option maxHeartbeats 4000000 in
theorem A_X11_isCon {l : Launch} {d : Nat} (hD : 1 ≤ d) {σ : az_Hp} {v0 : Int} {r : Int} (h : fz_X11_isCon σ v0 = some r) : az_AC l yX11_isCon cX11_isCon 1 (some .boolean) d [(0, v0)] σ (some (0, r), σ) := az_AC.of mt_X11_isCon rfl rfl rfl (fun Z hZ C => A_X11_isCon_e C hD h)
theorem dX11_isNode_0 : decode cX11_isNode 0 = .ok (.iload_n 1, 1) := by decide +kernel
theorem dX11_isNode_1 : decode cX11_isNode 1 = .ok (.iconst 0, 1) := by decide +kernel
theorem dX11_isNode_2 : decode cX11_isNode 2 = .ok (.aload_n 0, 1) := by decide +kernel
theorem dX11_isNode_3 : decode cX11_isNode 3 = .ok (.getfield 388, 3) := by decide +kernel
theorem dX11_isNode_6 : decode cX11_isNode 6 = .ok (.iconst 1, 1) := by decide +kernel
theorem dX11_isNode_7 : decode cX11_isNode 7 = .ok (.isub, 1) := by decide +kernel
theorem dX11_isNode_8 : decode cX11_isNode 8 = .ok (.invokestatic 354, 3) := by decide +kernel
theorem dX11_isNode_11 : decode cX11_isNode 11 = .ok (.ireturn, 1) := by decide +kernel
set_option maxRecDepth 10000 in
set_option maxHeartbeats 4000000 in
theorem A_X11_isNode_e {Z : az_Z} {d : Nat} (C : az_C Z yX11_isNode cX11_isNode 2 (some .boolean) d) (hD : 2 ≤ d) {σ : az_Hp} {v0 v1 : Int} {r : Int} (h : fz_X11_isNode σ v0 v1 = some r) : az_AW Z 2 0 [(13, v0), (0, v1)] [] σ (some (0, r), σ) := by
  have hd1 : 1 ≤ d := by omega
  unfold fz_X11_isNode at h
  refine az_il1 (pc := 0) C dX11_isNode_0 ?_
  refine az_ik0 (pc := 1) C dX11_isNode_1 ?_
  refine az_al0 (pc := 2) C rfl rfl dX11_isNode_2 ?_
  refine az_getI (pc := 3) C fl_X11_388 rfl dX11_isNode_3 ?_
  refine az_ik1 (pc := 6) C dX11_isNode_6 ?_
  refine az_isub (pc := 7) C dX11_isNode_7 ?_
  refine az_cS3pi (pc := 8) C hd1 h ms_X11_isFrom ml_X11_354 rfl (fun x hx => A_X11_isFrom (by omega) hx) dX11_isNode_8 (fun r1 h => ?_)
  obtain ⟨hz, h⟩ := az_zif h
  obtain rfl := Option.some.inj h
  exact az_zreturn (pc := 11) C hz dX11_isNode_11 rfl
set_option maxRecDepth 10000 in
set_option maxHeartbeats 4000000 in
theorem A_X11_isNode {l : Launch} {d : Nat} (hD : 2 ≤ d) {σ : az_Hp} {v0 v1 : Int} {r : Int} (h : fz_X11_isNode σ v0 v1 = some r) : az_AC l yX11_isNode cX11_isNode 2 (some .boolean) d [(13, v0), (0, v1)] σ (some (0, r), σ) := az_AC.of mt_X11_isNode rfl rfl rfl (fun Z hZ C => A_X11_isNode_e C hD h)
theorem dX11_node_0 : decode cX11_node 0 = .ok (.iload_n 2, 1) := by decide +kernel
theorem dX11_node_1 : decode cX11_node 1 = .ok (.iconst 0, 1) := by decide +kernel
theorem dX11_node_2 : decode cX11_node 2 = .ok (.iconst 4, 1) := by decide +kernel
theorem dX11_node_3 : decode cX11_node 3 = .ok (.invokestatic 354, 3) := by decide +kernel
theorem dX11_node_6 : decode cX11_node 6 = .ok (.ifCond .ne 9, 3) := by decide +kernel
theorem dX11_node_9 : decode cX11_node 9 = .ok (.aload_n 0, 1) := by decide +kernel
theorem dX11_node_10 : decode cX11_node 10 = .ok (.iconst 1, 1) := by decide +kernel
theorem dX11_node_11 : decode cX11_node 11 = .ok (.invokevirtual 372, 3) := by decide +kernel
theorem dX11_node_14 : decode cX11_node 14 = .ok (.ireturn, 1) := by decide +kernel
theorem dX11_node_15 : decode cX11_node 15 = .ok (.aload_n 0, 1) := by decide +kernel
theorem dX11_node_16 : decode cX11_node 16 = .ok (.getfield 388, 3) := by decide +kernel
theorem dX11_node_19 : decode cX11_node 19 = .ok (.ifCond .ne 9, 3) := by decide +kernel
theorem dX11_node_22 : decode cX11_node 22 = .ok (.aload_n 0, 1) := by decide +kernel
theorem dX11_node_23 : decode cX11_node 23 = .ok (.iconst 3, 1) := by decide +kernel
theorem dX11_node_24 : decode cX11_node 24 = .ok (.invokevirtual 372, 3) := by decide +kernel
theorem dX11_node_27 : decode cX11_node 27 = .ok (.ireturn, 1) := by decide +kernel
theorem dX11_node_28 : decode cX11_node 28 = .ok (.aload_n 0, 1) := by decide +kernel
theorem dX11_node_29 : decode cX11_node 29 = .ok (.iload_n 1, 1) := by decide +kernel
theorem dX11_node_30 : decode cX11_node 30 = .ok (.invokevirtual 642, 3) := by decide +kernel
theorem dX11_node_33 : decode cX11_node 33 = .ok (.ifCond .ne 9, 3) := by decide +kernel
theorem dX11_node_36 : decode cX11_node 36 = .ok (.aload_n 0, 1) := by decide +kernel
theorem dX11_node_37 : decode cX11_node 37 = .ok (.iconst 2, 1) := by decide +kernel
theorem dX11_node_38 : decode cX11_node 38 = .ok (.invokevirtual 372, 3) := by decide +kernel
theorem dX11_node_41 : decode cX11_node 41 = .ok (.ireturn, 1) := by decide +kernel
theorem dX11_node_42 : decode cX11_node 42 = .ok (.aload_n 0, 1) := by decide +kernel
theorem dX11_node_43 : decode cX11_node 43 = .ok (.getfield 138, 3) := by decide +kernel
theorem dX11_node_46 : decode cX11_node 46 = .ok (.iload_n 1, 1) := by decide +kernel
theorem dX11_node_47 : decode cX11_node 47 = .ok (.iaload, 1) := by decide +kernel
theorem dX11_node_48 : decode cX11_node 48 = .ok (.istore_n 3, 1) := by decide +kernel
theorem dX11_node_49 : decode cX11_node 49 = .ok (.iload_n 2, 1) := by decide +kernel
theorem dX11_node_50 : decode cX11_node 50 = .ok (.tableswitch 121 0 3 #[30, 58, 93, 107], 30) := by decide +kernel
theorem dX11_node_80 : decode cX11_node 80 = .ok (.aload_n 0, 1) := by decide +kernel
theorem dX11_node_81 : decode cX11_node 81 = .ok (.iload_n 3, 1) := by decide +kernel
theorem dX11_node_82 : decode cX11_node 82 = .ok (.invokestatic 288, 3) := by decide +kernel
theorem dX11_node_85 : decode cX11_node 85 = .ok (.ifCond .eq 7, 3) := by decide +kernel
theorem dX11_node_88 : decode cX11_node 88 = .ok (.iconst 0, 1) := by decide +kernel
theorem dX11_node_89 : decode cX11_node 89 = .ok (.goto 15, 3) := by decide +kernel
theorem dX11_node_92 : decode cX11_node 92 = .ok (.iload_n 3, 1) := by decide +kernel
theorem dX11_node_93 : decode cX11_node 93 = .ok (.invokestatic 645, 3) := by decide +kernel
theorem dX11_node_96 : decode cX11_node 96 = .ok (.ifCond .eq 7, 3) := by decide +kernel
theorem dX11_node_99 : decode cX11_node 99 = .ok (.iconst 1, 1) := by decide +kernel
theorem dX11_node_100 : decode cX11_node 100 = .ok (.goto 4, 3) := by decide +kernel
theorem dX11_node_103 : decode cX11_node 103 = .ok (.iconst 2, 1) := by decide +kernel
theorem dX11_node_104 : decode cX11_node 104 = .ok (.invokevirtual 401, 3) := by decide +kernel
theorem dX11_node_107 : decode cX11_node 107 = .ok (.ireturn, 1) := by decide +kernel
theorem dX11_node_108 : decode cX11_node 108 = .ok (.aload_n 0, 1) := by decide +kernel
theorem dX11_node_109 : decode cX11_node 109 = .ok (.iload_n 3, 1) := by decide +kernel
theorem dX11_node_110 : decode cX11_node 110 = .ok (.iload_n 3, 1) := by decide +kernel
theorem dX11_node_111 : decode cX11_node 111 = .ok (.invokestatic 288, 3) := by decide +kernel
theorem dX11_node_114 : decode cX11_node 114 = .ok (.ifCond .eq 9, 3) := by decide +kernel
theorem dX11_node_117 : decode cX11_node 117 = .ok (.sipush 1000, 3) := by decide +kernel
theorem dX11_node_120 : decode cX11_node 120 = .ok (.goto 18, 3) := by decide +kernel
theorem dX11_node_123 : decode cX11_node 123 = .ok (.iload_n 3, 1) := by decide +kernel
theorem dX11_node_124 : decode cX11_node 124 = .ok (.invokestatic 645, 3) := by decide +kernel
theorem dX11_node_127 : decode cX11_node 127 = .ok (.ifCond .eq 8, 3) := by decide +kernel
theorem dX11_node_130 : decode cX11_node 130 = .ok (.bipush 100, 2) := by decide +kernel
theorem dX11_node_132 : decode cX11_node 132 = .ok (.goto 6, 3) := by decide +kernel
theorem dX11_node_135 : decode cX11_node 135 = .ok (.sipush 200, 3) := by decide +kernel
theorem dX11_node_138 : decode cX11_node 138 = .ok (.isub, 1) := by decide +kernel
theorem dX11_node_139 : decode cX11_node 139 = .ok (.invokevirtual 401, 3) := by decide +kernel
theorem dX11_node_142 : decode cX11_node 142 = .ok (.ireturn, 1) := by decide +kernel
theorem dX11_node_143 : decode cX11_node 143 = .ok (.aload_n 0, 1) := by decide +kernel
theorem dX11_node_144 : decode cX11_node 144 = .ok (.aload_n 0, 1) := by decide +kernel
theorem dX11_node_145 : decode cX11_node 145 = .ok (.aload_n 0, 1) := by decide +kernel
theorem dX11_node_146 : decode cX11_node 146 = .ok (.getfield 138, 3) := by decide +kernel
theorem dX11_node_149 : decode cX11_node 149 = .ok (.iload_n 1, 1) := by decide +kernel
theorem dX11_node_150 : decode cX11_node 150 = .ok (.invokevirtual 416, 3) := by decide +kernel
theorem dX11_node_153 : decode cX11_node 153 = .ok (.invokevirtual 401, 3) := by decide +kernel
theorem dX11_node_156 : decode cX11_node 156 = .ok (.ireturn, 1) := by decide +kernel
theorem dX11_node_157 : decode cX11_node 157 = .ok (.aload_n 0, 1) := by decide +kernel
theorem dX11_node_158 : decode cX11_node 158 = .ok (.aload_n 0, 1) := by decide +kernel
theorem dX11_node_159 : decode cX11_node 159 = .ok (.aload_n 0, 1) := by decide +kernel
theorem dX11_node_160 : decode cX11_node 160 = .ok (.getfield 138, 3) := by decide +kernel
theorem dX11_node_163 : decode cX11_node 163 = .ok (.iload_n 1, 1) := by decide +kernel
theorem dX11_node_164 : decode cX11_node 164 = .ok (.invokevirtual 589, 3) := by decide +kernel
theorem dX11_node_167 : decode cX11_node 167 = .ok (.invokevirtual 401, 3) := by decide +kernel
theorem dX11_node_170 : decode cX11_node 170 = .ok (.ireturn, 1) := by decide +kernel
theorem dX11_node_171 : decode cX11_node 171 = .ok (.aload_n 0, 1) := by decide +kernel
theorem dX11_node_172 : decode cX11_node 172 = .ok (.aload_n 0, 1) := by decide +kernel
theorem dX11_node_173 : decode cX11_node 173 = .ok (.iload_n 1, 1) := by decide +kernel
theorem dX11_node_174 : decode cX11_node 174 = .ok (.invokevirtual 636, 3) := by decide +kernel
theorem dX11_node_177 : decode cX11_node 177 = .ok (.invokevirtual 401, 3) := by decide +kernel
theorem dX11_node_180 : decode cX11_node 180 = .ok (.ireturn, 1) := by decide +kernel
set_option maxRecDepth 10000 in
set_option maxHeartbeats 4000000 in
theorem A_X11_node_e {Z : az_Z} {d : Nat} (C : az_C Z yX11_node cX11_node 4 (some .int) d) (hD : 212 ≤ d) (n : Nat) {σ : az_Hp} {v0 v1 v2 : Int} {r : (Int × az_Hp)} (h : fz_X11_node n σ v0 v1 v2 = some r) : az_AW Z 4 0 [(13, v0), (0, v1), (0, v2), (31, 0)] [] σ (some (0, r.1), r.2) := by
  have hd1 : 1 ≤ d := by omega
  unfold fz_X11_node at h
  refine az_il2 (pc := 0) C dX11_node_0 ?_
  refine az_ik0 (pc := 1) C dX11_node_1 ?_
  refine az_ik4 (pc := 2) C dX11_node_2 ?_
  refine az_cS3pi (pc := 3) C hd1 h ms_X11_isFrom ml_X11_354 rfl (fun x hx => A_X11_isFrom (by omega) hx) dX11_node_3 (fun r1 h => ?_)
  refine az_if_ne (pc := 6) (tgt := 15) C h dX11_node_6 (by decide) (fun _ h => ?_) (fun _ h => ?_)
  · refine az_al0 (pc := 15) C rfl rfl dX11_node_15 ?_
    refine az_getI (pc := 16) C fl_X11_388 rfl dX11_node_16 ?_
    refine az_if_ne (pc := 19) (tgt := 28) C h dX11_node_19 (by decide) (fun _ h => ?_) (fun _ h => ?_)
    · refine az_al0 (pc := 28) C rfl rfl dX11_node_28 ?_
      refine az_il1 (pc := 29) C dX11_node_29 ?_
      refine az_cV1pi (pc := 30) (c := 11) C hd1 h mv_X11_isNode ml_X11_642 rfl (fun x hx => A_X11_isNode (by omega) hx) dX11_node_30 (fun r2 h => ?_)
      refine az_if_ne (pc := 33) (tgt := 42) C h dX11_node_33 (by decide) (fun _ h => ?_) (fun _ h => ?_)
      · refine az_al0 (pc := 42) C rfl rfl dX11_node_42 ?_
        refine az_getR (pc := 43) (c2 := 13) C h fl_X11_138 rfl rfl dX11_node_43 (fun h => ?_)
        refine az_il1 (pc := 46) C dX11_node_46 ?_
        refine az_iaload (pc := 47) C h dX11_node_47 (fun h => ?_)
        refine az_is3 (pc := 48) C rfl rfl dX11_node_48 ?_
        refine az_il2 (pc := 49) C dX11_node_49 ?_
        rcases az_ite h with ⟨c0, h⟩ | ⟨c0, h⟩
        · refine az_tswIn (pc := 50) (i := 0) (tgt := 80) C (by exact c0) (by decide) rfl dX11_node_50 (by decide) ?_
          refine az_al0 (pc := 80) C rfl rfl dX11_node_80 ?_
          refine az_il3 (pc := 81) C dX11_node_81 ?_
          refine az_cS1pi (pc := 82) C hd1 h ms_X11_isVar ml_X11_288 rfl (fun x hx => A_X11_isVar (by omega) hx) dX11_node_82 (fun r5 h => ?_)
          refine az_if_eq (pc := 85) (tgt := 92) C h dX11_node_85 (by decide) (fun _ h => ?_) (fun _ h => ?_)
          · refine az_il3 (pc := 92) C dX11_node_92 ?_
            refine az_cS1pi (pc := 93) C hd1 h ms_X11_isCon ml_X11_645 rfl (fun x hx => A_X11_isCon (by omega) hx) dX11_node_93 (fun r6 h => ?_)
            refine az_if_eq (pc := 96) (tgt := 103) C h dX11_node_96 (by decide) (fun _ h => ?_) (fun _ h => ?_)
            · refine az_ik2 (pc := 103) C dX11_node_103 ?_
              refine az_cV1ii (pc := 104) (c := 11) C hd1 h mv_X11_gives ml_X11_401 rfl (fun x hx => A_X11_gives (by omega) hx) dX11_node_104 (fun r7 h => ?_)
              obtain rfl := Option.some.inj h
              exact az_ireturn (pc := 107) C dX11_node_107 rfl
            refine az_ik1 (pc := 99) C dX11_node_99 ?_
            refine az_goto (pc := 100) (tgt := 104) C dX11_node_100 (by decide) ?_
            refine az_cV1ii (pc := 104) (c := 11) C hd1 h mv_X11_gives ml_X11_401 rfl (fun x hx => A_X11_gives (by omega) hx) dX11_node_104 (fun r8 h => ?_)
            obtain rfl := Option.some.inj h
            exact az_ireturn (pc := 107) C dX11_node_107 rfl
          refine az_ik0 (pc := 88) C dX11_node_88 ?_
          refine az_goto (pc := 89) (tgt := 104) C dX11_node_89 (by decide) ?_
          refine az_cV1ii (pc := 104) (c := 11) C hd1 h mv_X11_gives ml_X11_401 rfl (fun x hx => A_X11_gives (by omega) hx) dX11_node_104 (fun r9 h => ?_)
          obtain rfl := Option.some.inj h
          exact az_ireturn (pc := 107) C dX11_node_107 rfl
        rcases az_ite h with ⟨c1, h⟩ | ⟨c1, h⟩
        · refine az_tswIn (pc := 50) (i := 1) (tgt := 108) C (by exact c1) (by decide) rfl dX11_node_50 (by decide) ?_
          refine az_al0 (pc := 108) C rfl rfl dX11_node_108 ?_
          refine az_il3 (pc := 109) C dX11_node_109 ?_
          refine az_il3 (pc := 110) C dX11_node_110 ?_
          refine az_cS1pi (pc := 111) C hd1 h ms_X11_isVar ml_X11_288 rfl (fun x hx => A_X11_isVar (by omega) hx) dX11_node_111 (fun r10 h => ?_)
          refine az_if_eq (pc := 114) (tgt := 123) C h dX11_node_114 (by decide) (fun _ h => ?_) (fun _ h => ?_)
          · refine az_il3 (pc := 123) C dX11_node_123 ?_
            refine az_cS1pi (pc := 124) C hd1 h ms_X11_isCon ml_X11_645 rfl (fun x hx => A_X11_isCon (by omega) hx) dX11_node_124 (fun r11 h => ?_)
            refine az_if_eq (pc := 127) (tgt := 135) C h dX11_node_127 (by decide) (fun _ h => ?_) (fun _ h => ?_)
            · refine az_sk200 (pc := 135) C dX11_node_135 ?_
              refine az_isub (pc := 138) C dX11_node_138 ?_
              refine az_cV1ii (pc := 139) (c := 11) C hd1 h mv_X11_gives ml_X11_401 rfl (fun x hx => A_X11_gives (by omega) hx) dX11_node_139 (fun r12 h => ?_)
              obtain rfl := Option.some.inj h
              exact az_ireturn (pc := 142) C dX11_node_142 rfl
            refine az_bk100 (pc := 130) C dX11_node_130 ?_
            refine az_goto (pc := 132) (tgt := 138) C dX11_node_132 (by decide) ?_
            refine az_isub (pc := 138) C dX11_node_138 ?_
            refine az_cV1ii (pc := 139) (c := 11) C hd1 h mv_X11_gives ml_X11_401 rfl (fun x hx => A_X11_gives (by omega) hx) dX11_node_139 (fun r13 h => ?_)
            obtain rfl := Option.some.inj h
            exact az_ireturn (pc := 142) C dX11_node_142 rfl
          refine az_sk1000 (pc := 117) C dX11_node_117 ?_
          refine az_goto (pc := 120) (tgt := 138) C dX11_node_120 (by decide) ?_
          refine az_isub (pc := 138) C dX11_node_138 ?_
          refine az_cV1ii (pc := 139) (c := 11) C hd1 h mv_X11_gives ml_X11_401 rfl (fun x hx => A_X11_gives (by omega) hx) dX11_node_139 (fun r14 h => ?_)
          obtain rfl := Option.some.inj h
          exact az_ireturn (pc := 142) C dX11_node_142 rfl
        rcases az_ite h with ⟨c2, h⟩ | ⟨c2, h⟩
        · refine az_tswIn (pc := 50) (i := 2) (tgt := 143) C (by exact c2) (by decide) rfl dX11_node_50 (by decide) ?_
          refine az_al0 (pc := 143) C rfl rfl dX11_node_143 ?_
          refine az_al0 (pc := 144) C rfl rfl dX11_node_144 ?_
          refine az_al0 (pc := 145) C rfl rfl dX11_node_145 ?_
          refine az_getR (pc := 146) (c2 := 13) C h fl_X11_138 rfl rfl dX11_node_146 (fun h => ?_)
          refine az_il1 (pc := 149) C dX11_node_149 ?_
          refine az_cV2pi (pc := 150) (c := 11) C hd1 h mv_X11_sizeAt ml_X11_416 rfl (fun x hx => A_X11_sizeAt (by omega) n hx) dX11_node_150 (fun r16 h => ?_)
          refine az_cV1ii (pc := 153) (c := 11) C hd1 h mv_X11_gives ml_X11_401 rfl (fun x hx => A_X11_gives (by omega) hx) dX11_node_153 (fun r17 h => ?_)
          obtain rfl := Option.some.inj h
          exact az_ireturn (pc := 156) C dX11_node_156 rfl
        rcases az_ite h with ⟨c3, h⟩ | ⟨c3, h⟩
        · refine az_tswIn (pc := 50) (i := 3) (tgt := 157) C (by exact c3) (by decide) rfl dX11_node_50 (by decide) ?_
          refine az_al0 (pc := 157) C rfl rfl dX11_node_157 ?_
          refine az_al0 (pc := 158) C rfl rfl dX11_node_158 ?_
          refine az_al0 (pc := 159) C rfl rfl dX11_node_159 ?_
          refine az_getR (pc := 160) (c2 := 13) C h fl_X11_138 rfl rfl dX11_node_160 (fun h => ?_)
          refine az_il1 (pc := 163) C dX11_node_163 ?_
          refine az_cV2ii (pc := 164) (c := 11) C hd1 h mv_X11_firing ml_X11_589 rfl (fun x hx => A_X11_firing (by omega) n hx) dX11_node_164 (fun r19 h => ?_)
          refine az_cV1ii (pc := 167) (c := 11) C hd1 h mv_X11_gives ml_X11_401 rfl (fun x hx => A_X11_gives (by omega) hx) dX11_node_167 (fun r20 h => ?_)
          obtain rfl := Option.some.inj h
          exact az_ireturn (pc := 170) C dX11_node_170 rfl
        refine az_tswOut (pc := 50) (tgt := 171) C (by omega) dX11_node_50 (by decide) ?_
        refine az_al0 (pc := 171) C rfl rfl dX11_node_171 ?_
        refine az_al0 (pc := 172) C rfl rfl dX11_node_172 ?_
        refine az_il1 (pc := 173) C dX11_node_173 ?_
        refine az_cV1pi (pc := 174) (c := 11) C hd1 h mv_X11_deepOf ml_X11_636 rfl (fun x hx => A_X11_deepOf (by omega) n hx) dX11_node_174 (fun r21 h => ?_)
        refine az_cV1ii (pc := 177) (c := 11) C hd1 h mv_X11_gives ml_X11_401 rfl (fun x hx => A_X11_gives (by omega) hx) dX11_node_177 (fun r22 h => ?_)
        obtain rfl := Option.some.inj h
        exact az_ireturn (pc := 180) C dX11_node_180 rfl
      refine az_al0 (pc := 36) C rfl rfl dX11_node_36 ?_
      refine az_ik2 (pc := 37) C dX11_node_37 ?_
      refine az_cV1ii (pc := 38) (c := 11) C hd1 h mv_X11_refuse ml_X11_372 rfl (fun x hx => A_X11_refuse (by omega) hx) dX11_node_38 (fun r23 h => ?_)
      obtain rfl := Option.some.inj h
      exact az_ireturn (pc := 41) C dX11_node_41 rfl
    refine az_al0 (pc := 22) C rfl rfl dX11_node_22 ?_
    refine az_ik3 (pc := 23) C dX11_node_23 ?_
    refine az_cV1ii (pc := 24) (c := 11) C hd1 h mv_X11_refuse ml_X11_372 rfl (fun x hx => A_X11_refuse (by omega) hx) dX11_node_24 (fun r24 h => ?_)
    obtain rfl := Option.some.inj h
    exact az_ireturn (pc := 27) C dX11_node_27 rfl
  refine az_al0 (pc := 9) C rfl rfl dX11_node_9 ?_
  refine az_ik1 (pc := 10) C dX11_node_10 ?_
  refine az_cV1ii (pc := 11) (c := 11) C hd1 h mv_X11_refuse ml_X11_372 rfl (fun x hx => A_X11_refuse (by omega) hx) dX11_node_11 (fun r25 h => ?_)
  obtain rfl := Option.some.inj h
  exact az_ireturn (pc := 14) C dX11_node_14 rfl
set_option maxRecDepth 10000 in
set_option maxHeartbeats 4000000 in
theorem A_X11_node {l : Launch} {d : Nat} (hD : 212 ≤ d) (n : Nat) {σ : az_Hp} {v0 v1 v2 : Int} {r : (Int × az_Hp)} (h : fz_X11_node n σ v0 v1 v2 = some r) : az_AC l yX11_node cX11_node 4 (some .int) d [(13, v0), (0, v1), (0, v2)] σ (some (0, r.1), r.2) := az_AC.of mt_X11_node rfl rfl rfl (fun Z hZ C => A_X11_node_e C hD n h)
theorem dX11_now_0 : decode cX11_now 0 = .ok (.iload_n 1, 1) := by decide +kernel
theorem dX11_now_1 : decode cX11_now 1 = .ok (.iconst 0, 1) := by decide +kernel
theorem dX11_now_2 : decode cX11_now 2 = .ok (.iconst 3, 1) := by decide +kernel
theorem dX11_now_3 : decode cX11_now 3 = .ok (.invokestatic 354, 3) := by decide +kernel
theorem dX11_now_6 : decode cX11_now 6 = .ok (.ifCond .ne 9, 3) := by decide +kernel
theorem dX11_now_9 : decode cX11_now 9 = .ok (.aload_n 0, 1) := by decide +kernel
theorem dX11_now_10 : decode cX11_now 10 = .ok (.iconst 1, 1) := by decide +kernel
theorem dX11_now_11 : decode cX11_now 11 = .ok (.invokevirtual 372, 3) := by decide +kernel
theorem dX11_now_14 : decode cX11_now 14 = .ok (.ireturn, 1) := by decide +kernel
theorem dX11_now_15 : decode cX11_now 15 = .ok (.aload_n 0, 1) := by decide +kernel
theorem dX11_now_16 : decode cX11_now 16 = .ok (.getfield 388, 3) := by decide +kernel
theorem dX11_now_19 : decode cX11_now 19 = .ok (.ifCond .ne 9, 3) := by decide +kernel
theorem dX11_now_22 : decode cX11_now 22 = .ok (.aload_n 0, 1) := by decide +kernel
theorem dX11_now_23 : decode cX11_now 23 = .ok (.iconst 3, 1) := by decide +kernel
theorem dX11_now_24 : decode cX11_now 24 = .ok (.invokevirtual 372, 3) := by decide +kernel
theorem dX11_now_27 : decode cX11_now 27 = .ok (.ireturn, 1) := by decide +kernel
theorem dX11_now_28 : decode cX11_now 28 = .ok (.iload_n 1, 1) := by decide +kernel
theorem dX11_now_29 : decode cX11_now 29 = .ok (.ifCond .ne 12, 3) := by decide +kernel
theorem dX11_now_32 : decode cX11_now 32 = .ok (.aload_n 0, 1) := by decide +kernel
theorem dX11_now_33 : decode cX11_now 33 = .ok (.aload_n 0, 1) := by decide +kernel
theorem dX11_now_34 : decode cX11_now 34 = .ok (.getfield 388, 3) := by decide +kernel
theorem dX11_now_37 : decode cX11_now 37 = .ok (.invokevirtual 401, 3) := by decide +kernel
theorem dX11_now_40 : decode cX11_now 40 = .ok (.ireturn, 1) := by decide +kernel
theorem dX11_now_41 : decode cX11_now 41 = .ok (.iconst 0, 1) := by decide +kernel
theorem dX11_now_42 : decode cX11_now 42 = .ok (.istore_n 2, 1) := by decide +kernel
theorem dX11_now_43 : decode cX11_now 43 = .ok (.iconst 0, 1) := by decide +kernel
theorem dX11_now_44 : decode cX11_now 44 = .ok (.istore_n 3, 1) := by decide +kernel
theorem dX11_now_45 : decode cX11_now 45 = .ok (.iload_n 3, 1) := by decide +kernel
theorem dX11_now_46 : decode cX11_now 46 = .ok (.aload_n 0, 1) := by decide +kernel
theorem dX11_now_47 : decode cX11_now 47 = .ok (.getfield 388, 3) := by decide +kernel
theorem dX11_now_50 : decode cX11_now 50 = .ok (.if_icmp .ge 75, 3) := by decide +kernel
theorem dX11_now_53 : decode cX11_now 53 = .ok (.iload_n 1, 1) := by decide +kernel
theorem dX11_now_54 : decode cX11_now 54 = .ok (.iconst 1, 1) := by decide +kernel
theorem dX11_now_55 : decode cX11_now 55 = .ok (.if_icmp .ne 18, 3) := by decide +kernel
theorem dX11_now_58 : decode cX11_now 58 = .ok (.iload_n 2, 1) := by decide +kernel
theorem dX11_now_59 : decode cX11_now 59 = .ok (.aload_n 0, 1) := by decide +kernel
theorem dX11_now_60 : decode cX11_now 60 = .ok (.iload_n 3, 1) := by decide +kernel
theorem dX11_now_61 : decode cX11_now 61 = .ok (.invokevirtual 636, 3) := by decide +kernel
theorem dX11_now_64 : decode cX11_now 64 = .ok (.iconst 1, 1) := by decide +kernel
theorem dX11_now_65 : decode cX11_now 65 = .ok (.iadd, 1) := by decide +kernel
theorem dX11_now_66 : decode cX11_now 66 = .ok (.invokestatic 639, 3) := by decide +kernel
theorem dX11_now_69 : decode cX11_now 69 = .ok (.istore_n 2, 1) := by decide +kernel
theorem dX11_now_70 : decode cX11_now 70 = .ok (.goto 49, 3) := by decide +kernel
theorem dX11_now_73 : decode cX11_now 73 = .ok (.iload_n 2, 1) := by decide +kernel
theorem dX11_now_74 : decode cX11_now 74 = .ok (.iload_n 1, 1) := by decide +kernel
theorem dX11_now_75 : decode cX11_now 75 = .ok (.iconst 2, 1) := by decide +kernel
theorem dX11_now_76 : decode cX11_now 76 = .ok (.if_icmp .ne 23, 3) := by decide +kernel
theorem dX11_now_79 : decode cX11_now 79 = .ok (.aload_n 0, 1) := by decide +kernel
theorem dX11_now_80 : decode cX11_now 80 = .ok (.getfield 138, 3) := by decide +kernel
theorem dX11_now_83 : decode cX11_now 83 = .ok (.iload_n 3, 1) := by decide +kernel
theorem dX11_now_84 : decode cX11_now 84 = .ok (.iaload, 1) := by decide +kernel
theorem dX11_now_85 : decode cX11_now 85 = .ok (.invokestatic 291, 3) := by decide +kernel
theorem dX11_now_88 : decode cX11_now 88 = .ok (.ifCond .eq 7, 3) := by decide +kernel
theorem dX11_now_91 : decode cX11_now 91 = .ok (.iconst 1, 1) := by decide +kernel
theorem dX11_now_92 : decode cX11_now 92 = .ok (.goto 25, 3) := by decide +kernel
theorem dX11_now_95 : decode cX11_now 95 = .ok (.iconst 0, 1) := by decide +kernel
theorem dX11_now_96 : decode cX11_now 96 = .ok (.goto 21, 3) := by decide +kernel
theorem dX11_now_99 : decode cX11_now 99 = .ok (.aload_n 0, 1) := by decide +kernel
theorem dX11_now_100 : decode cX11_now 100 = .ok (.aload_n 0, 1) := by decide +kernel
theorem dX11_now_101 : decode cX11_now 101 = .ok (.getfield 138, 3) := by decide +kernel
theorem dX11_now_104 : decode cX11_now 104 = .ok (.iload_n 3, 1) := by decide +kernel
theorem dX11_now_105 : decode cX11_now 105 = .ok (.invokevirtual 589, 3) := by decide +kernel
theorem dX11_now_108 : decode cX11_now 108 = .ok (.iconst (-1), 1) := by decide +kernel
theorem dX11_now_109 : decode cX11_now 109 = .ok (.if_icmp .eq 7, 3) := by decide +kernel
theorem dX11_now_112 : decode cX11_now 112 = .ok (.iconst 1, 1) := by decide +kernel
theorem dX11_now_113 : decode cX11_now 113 = .ok (.goto 4, 3) := by decide +kernel
theorem dX11_now_116 : decode cX11_now 116 = .ok (.iconst 0, 1) := by decide +kernel
theorem dX11_now_117 : decode cX11_now 117 = .ok (.iadd, 1) := by decide +kernel
theorem dX11_now_118 : decode cX11_now 118 = .ok (.istore_n 2, 1) := by decide +kernel
theorem dX11_now_119 : decode cX11_now 119 = .ok (.iinc 3 1, 3) := by decide +kernel
theorem dX11_now_122 : decode cX11_now 122 = .ok (.goto (-77), 3) := by decide +kernel
theorem dX11_now_125 : decode cX11_now 125 = .ok (.aload_n 0, 1) := by decide +kernel
theorem dX11_now_126 : decode cX11_now 126 = .ok (.iload_n 2, 1) := by decide +kernel
theorem dX11_now_127 : decode cX11_now 127 = .ok (.invokevirtual 401, 3) := by decide +kernel
theorem dX11_now_130 : decode cX11_now 130 = .ok (.ireturn, 1) := by decide +kernel
set_option maxRecDepth 10000 in
set_option maxHeartbeats 4000000 in
theorem A_X11_now_45 {Z : az_Z} {d : Nat} (C : az_C Z yX11_now cX11_now 4 (some .int) d) (hD : 212 ≤ d) (n : Nat) (k : Nat) : ∀ {σ : az_Hp} {v0 v1 v2 v3 : Int} {r : (Int × az_Hp)}, fz_X11_now_45 n k σ v0 v1 v2 v3 = some r → az_AW Z 4 45 [(13, v0), (0, v1), (0, v2), (0, v3)] [] σ (some (0, r.1), r.2) := by
  have hd1 : 1 ≤ d := by omega
  induction k with
  | zero => intro σ v0 v1 v2 v3 r h; simp [fz_X11_now_45] at h
  | succ k ih =>
    intro σ v0 v1 v2 v3 r h
    unfold fz_X11_now_45 at h
    refine az_il3 (pc := 45) C dX11_now_45 ?_
    refine az_al0 (pc := 46) C rfl rfl dX11_now_46 ?_
    refine az_getI (pc := 47) C fl_X11_388 rfl dX11_now_47 ?_
    refine az_icmp_ge (pc := 50) (tgt := 125) C h dX11_now_50 (by decide) (fun _ h => ?_) (fun _ h => ?_)
    · refine az_al0 (pc := 125) C rfl rfl dX11_now_125 ?_
      refine az_il2 (pc := 126) C dX11_now_126 ?_
      refine az_cV1ii (pc := 127) (c := 11) C hd1 h mv_X11_gives ml_X11_401 rfl (fun x hx => A_X11_gives (by omega) hx) dX11_now_127 (fun r1 h => ?_)
      obtain rfl := Option.some.inj h
      exact az_ireturn (pc := 130) C dX11_now_130 rfl
    refine az_il1 (pc := 53) C dX11_now_53 ?_
    refine az_ik1 (pc := 54) C dX11_now_54 ?_
    refine az_icmp_ne (pc := 55) (tgt := 73) C h dX11_now_55 (by decide) (fun _ h => ?_) (fun _ h => ?_)
    · refine az_il2 (pc := 73) C dX11_now_73 ?_
      refine az_il1 (pc := 74) C dX11_now_74 ?_
      refine az_ik2 (pc := 75) C dX11_now_75 ?_
      refine az_icmp_ne (pc := 76) (tgt := 99) C h dX11_now_76 (by decide) (fun _ h => ?_) (fun _ h => ?_)
      · refine az_al0 (pc := 99) C rfl rfl dX11_now_99 ?_
        refine az_al0 (pc := 100) C rfl rfl dX11_now_100 ?_
        refine az_getR (pc := 101) (c2 := 13) C h fl_X11_138 rfl rfl dX11_now_101 (fun h => ?_)
        refine az_il3 (pc := 104) C dX11_now_104 ?_
        refine az_cV2ii (pc := 105) (c := 11) C hd1 h mv_X11_firing ml_X11_589 rfl (fun x hx => A_X11_firing (by omega) n hx) dX11_now_105 (fun r3 h => ?_)
        refine az_ikm1 (pc := 108) C dX11_now_108 ?_
        refine az_icmp_eq (pc := 109) (tgt := 116) C h dX11_now_109 (by decide) (fun _ h => ?_) (fun _ h => ?_)
        · refine az_ik0 (pc := 116) C dX11_now_116 ?_
          refine az_iadd (pc := 117) C dX11_now_117 ?_
          refine az_is2 (pc := 118) C rfl rfl dX11_now_118 ?_
          refine az_ii3 (pc := 119) C az_n1 rfl rfl dX11_now_119 ?_
          refine az_goto (pc := 122) (tgt := 45) C dX11_now_122 (by decide) ?_
          exact (ih h)
        refine az_ik1 (pc := 112) C dX11_now_112 ?_
        refine az_goto (pc := 113) (tgt := 117) C dX11_now_113 (by decide) ?_
        refine az_iadd (pc := 117) C dX11_now_117 ?_
        refine az_is2 (pc := 118) C rfl rfl dX11_now_118 ?_
        refine az_ii3 (pc := 119) C az_n1 rfl rfl dX11_now_119 ?_
        refine az_goto (pc := 122) (tgt := 45) C dX11_now_122 (by decide) ?_
        exact (ih h)
      refine az_al0 (pc := 79) C rfl rfl dX11_now_79 ?_
      refine az_getR (pc := 80) (c2 := 13) C h fl_X11_138 rfl rfl dX11_now_80 (fun h => ?_)
      refine az_il3 (pc := 83) C dX11_now_83 ?_
      refine az_iaload (pc := 84) C h dX11_now_84 (fun h => ?_)
      refine az_cS1pi (pc := 85) C hd1 h ms_X11_isFam ml_X11_291 rfl (fun x hx => A_X11_isFam (by omega) hx) dX11_now_85 (fun r6 h => ?_)
      refine az_if_eq (pc := 88) (tgt := 95) C h dX11_now_88 (by decide) (fun _ h => ?_) (fun _ h => ?_)
      · refine az_ik0 (pc := 95) C dX11_now_95 ?_
        refine az_goto (pc := 96) (tgt := 117) C dX11_now_96 (by decide) ?_
        refine az_iadd (pc := 117) C dX11_now_117 ?_
        refine az_is2 (pc := 118) C rfl rfl dX11_now_118 ?_
        refine az_ii3 (pc := 119) C az_n1 rfl rfl dX11_now_119 ?_
        refine az_goto (pc := 122) (tgt := 45) C dX11_now_122 (by decide) ?_
        exact (ih h)
      refine az_ik1 (pc := 91) C dX11_now_91 ?_
      refine az_goto (pc := 92) (tgt := 117) C dX11_now_92 (by decide) ?_
      refine az_iadd (pc := 117) C dX11_now_117 ?_
      refine az_is2 (pc := 118) C rfl rfl dX11_now_118 ?_
      refine az_ii3 (pc := 119) C az_n1 rfl rfl dX11_now_119 ?_
      refine az_goto (pc := 122) (tgt := 45) C dX11_now_122 (by decide) ?_
      exact (ih h)
    refine az_il2 (pc := 58) C dX11_now_58 ?_
    refine az_al0 (pc := 59) C rfl rfl dX11_now_59 ?_
    refine az_il3 (pc := 60) C dX11_now_60 ?_
    refine az_cV1pi (pc := 61) (c := 11) C hd1 h mv_X11_deepOf ml_X11_636 rfl (fun x hx => A_X11_deepOf (by omega) n hx) dX11_now_61 (fun r7 h => ?_)
    refine az_ik1 (pc := 64) C dX11_now_64 ?_
    refine az_iadd (pc := 65) C dX11_now_65 ?_
    refine az_mmax (pc := 66) C hd1 ml_X11_639 az_w_maxst az_w_math az_w_maxc rfl dX11_now_66 ?_
    refine az_is2 (pc := 69) C rfl rfl dX11_now_69 ?_
    refine az_goto (pc := 70) (tgt := 119) C dX11_now_70 (by decide) ?_
    refine az_ii3 (pc := 119) C az_n1 rfl rfl dX11_now_119 ?_
    refine az_goto (pc := 122) (tgt := 45) C dX11_now_122 (by decide) ?_
    exact (ih h)
set_option maxRecDepth 10000 in
set_option maxHeartbeats 4000000 in
theorem A_X11_now_e {Z : az_Z} {d : Nat} (C : az_C Z yX11_now cX11_now 4 (some .int) d) (hD : 212 ≤ d) (n : Nat) {σ : az_Hp} {v0 v1 : Int} {r : (Int × az_Hp)} (h : fz_X11_now n σ v0 v1 = some r) : az_AW Z 4 0 [(13, v0), (0, v1), (31, 0), (31, 0)] [] σ (some (0, r.1), r.2) := by
  have hd1 : 1 ≤ d := by omega
  unfold fz_X11_now at h
  refine az_il1 (pc := 0) C dX11_now_0 ?_
  refine az_ik0 (pc := 1) C dX11_now_1 ?_
  refine az_ik3 (pc := 2) C dX11_now_2 ?_
  refine az_cS3pi (pc := 3) C hd1 h ms_X11_isFrom ml_X11_354 rfl (fun x hx => A_X11_isFrom (by omega) hx) dX11_now_3 (fun r1 h => ?_)
  refine az_if_ne (pc := 6) (tgt := 15) C h dX11_now_6 (by decide) (fun _ h => ?_) (fun _ h => ?_)
  · refine az_al0 (pc := 15) C rfl rfl dX11_now_15 ?_
    refine az_getI (pc := 16) C fl_X11_388 rfl dX11_now_16 ?_
    refine az_if_ne (pc := 19) (tgt := 28) C h dX11_now_19 (by decide) (fun _ h => ?_) (fun _ h => ?_)
    · refine az_il1 (pc := 28) C dX11_now_28 ?_
      refine az_if_ne (pc := 29) (tgt := 41) C h dX11_now_29 (by decide) (fun _ h => ?_) (fun _ h => ?_)
      · refine az_ik0 (pc := 41) C dX11_now_41 ?_
        refine az_is2 (pc := 42) C rfl rfl dX11_now_42 ?_
        refine az_ik0 (pc := 43) C dX11_now_43 ?_
        refine az_is3 (pc := 44) C rfl rfl dX11_now_44 ?_
        exact (A_X11_now_45 C hD n n h)
      refine az_al0 (pc := 32) C rfl rfl dX11_now_32 ?_
      refine az_al0 (pc := 33) C rfl rfl dX11_now_33 ?_
      refine az_getI (pc := 34) C fl_X11_388 rfl dX11_now_34 ?_
      refine az_cV1ii (pc := 37) (c := 11) C hd1 h mv_X11_gives ml_X11_401 rfl (fun x hx => A_X11_gives (by omega) hx) dX11_now_37 (fun r2 h => ?_)
      obtain rfl := Option.some.inj h
      exact az_ireturn (pc := 40) C dX11_now_40 rfl
    refine az_al0 (pc := 22) C rfl rfl dX11_now_22 ?_
    refine az_ik3 (pc := 23) C dX11_now_23 ?_
    refine az_cV1ii (pc := 24) (c := 11) C hd1 h mv_X11_refuse ml_X11_372 rfl (fun x hx => A_X11_refuse (by omega) hx) dX11_now_24 (fun r3 h => ?_)
    obtain rfl := Option.some.inj h
    exact az_ireturn (pc := 27) C dX11_now_27 rfl
  refine az_al0 (pc := 9) C rfl rfl dX11_now_9 ?_
  refine az_ik1 (pc := 10) C dX11_now_10 ?_
  refine az_cV1ii (pc := 11) (c := 11) C hd1 h mv_X11_refuse ml_X11_372 rfl (fun x hx => A_X11_refuse (by omega) hx) dX11_now_11 (fun r4 h => ?_)
  obtain rfl := Option.some.inj h
  exact az_ireturn (pc := 14) C dX11_now_14 rfl
set_option maxRecDepth 10000 in
set_option maxHeartbeats 4000000 in
theorem A_X11_now {l : Launch} {d : Nat} (hD : 212 ≤ d) (n : Nat) {σ : az_Hp} {v0 v1 : Int} {r : (Int × az_Hp)} (h : fz_X11_now n σ v0 v1 = some r) : az_AC l yX11_now cX11_now 4 (some .int) d [(13, v0), (0, v1)] σ (some (0, r.1), r.2) := az_AC.of mt_X11_now rfl rfl rfl (fun Z hZ C => A_X11_now_e C hD n h)
theorem dX11_out_0 : decode cX11_out 0 = .ok (.iload_n 1, 1) := by decide +kernel
theorem dX11_out_1 : decode cX11_out 1 = .ok (.ifCond .ge 9, 3) := by decide +kernel
theorem dX11_out_4 : decode cX11_out 4 = .ok (.aload_n 0, 1) := by decide +kernel
theorem dX11_out_5 : decode cX11_out 5 = .ok (.iconst 1, 1) := by decide +kernel
theorem dX11_out_6 : decode cX11_out 6 = .ok (.invokevirtual 372, 3) := by decide +kernel
theorem dX11_out_9 : decode cX11_out 9 = .ok (.ireturn, 1) := by decide +kernel
theorem dX11_out_10 : decode cX11_out 10 = .ok (.aload_n 0, 1) := by decide +kernel
theorem dX11_out_11 : decode cX11_out 11 = .ok (.getfield 502, 3) := by decide +kernel
theorem dX11_out_14 : decode cX11_out 14 = .ok (.ifCond .eq 24, 3) := by decide +kernel
theorem dX11_out_17 : decode cX11_out 17 = .ok (.iload_n 1, 1) := by decide +kernel
theorem dX11_out_18 : decode cX11_out 18 = .ok (.aload_n 0, 1) := by decide +kernel
theorem dX11_out_19 : decode cX11_out 19 = .ok (.getfield 480, 3) := by decide +kernel
theorem dX11_out_22 : decode cX11_out 22 = .ok (.if_icmp .ge 16, 3) := by decide +kernel
theorem dX11_out_25 : decode cX11_out 25 = .ok (.aload_n 0, 1) := by decide +kernel
theorem dX11_out_26 : decode cX11_out 26 = .ok (.aload_n 0, 1) := by decide +kernel
theorem dX11_out_27 : decode cX11_out 27 = .ok (.getfield 113, 3) := by decide +kernel
theorem dX11_out_30 : decode cX11_out 30 = .ok (.iload_n 1, 1) := by decide +kernel
theorem dX11_out_31 : decode cX11_out 31 = .ok (.baload, 1) := by decide +kernel
theorem dX11_out_32 : decode cX11_out 32 = .ok (.invokevirtual 401, 3) := by decide +kernel
theorem dX11_out_35 : decode cX11_out 35 = .ok (.goto 8, 3) := by decide +kernel
theorem dX11_out_38 : decode cX11_out 38 = .ok (.aload_n 0, 1) := by decide +kernel
theorem dX11_out_39 : decode cX11_out 39 = .ok (.iconst 5, 1) := by decide +kernel
theorem dX11_out_40 : decode cX11_out 40 = .ok (.invokevirtual 372, 3) := by decide +kernel
theorem dX11_out_43 : decode cX11_out 43 = .ok (.ireturn, 1) := by decide +kernel
set_option maxRecDepth 10000 in
set_option maxHeartbeats 4000000 in
theorem A_X11_out_e {Z : az_Z} {d : Nat} (C : az_C Z yX11_out cX11_out 2 (some .int) d) (hD : 2 ≤ d) {σ : az_Hp} {v0 v1 : Int} {r : (Int × az_Hp)} (h : fz_X11_out σ v0 v1 = some r) : az_AW Z 2 0 [(13, v0), (0, v1)] [] σ (some (0, r.1), r.2) := by
  have hd1 : 1 ≤ d := by omega
  unfold fz_X11_out at h
  refine az_il1 (pc := 0) C dX11_out_0 ?_
  refine az_if_ge (pc := 1) (tgt := 10) C h dX11_out_1 (by decide) (fun _ h => ?_) (fun _ h => ?_)
  · refine az_al0 (pc := 10) C rfl rfl dX11_out_10 ?_
    refine az_getI (pc := 11) C fl_X11_502 rfl dX11_out_11 ?_
    refine az_if_eq (pc := 14) (tgt := 38) C h dX11_out_14 (by decide) (fun _ h => ?_) (fun _ h => ?_)
    · refine az_al0 (pc := 38) C rfl rfl dX11_out_38 ?_
      refine az_ik5 (pc := 39) C dX11_out_39 ?_
      refine az_cV1ii (pc := 40) (c := 11) C hd1 h mv_X11_refuse ml_X11_372 rfl (fun x hx => A_X11_refuse (by omega) hx) dX11_out_40 (fun r1 h => ?_)
      obtain rfl := Option.some.inj h
      exact az_ireturn (pc := 43) C dX11_out_43 rfl
    refine az_il1 (pc := 17) C dX11_out_17 ?_
    refine az_al0 (pc := 18) C rfl rfl dX11_out_18 ?_
    refine az_getI (pc := 19) C fl_X11_480 rfl dX11_out_19 ?_
    refine az_icmp_ge (pc := 22) (tgt := 38) C h dX11_out_22 (by decide) (fun _ h => ?_) (fun _ h => ?_)
    · refine az_al0 (pc := 38) C rfl rfl dX11_out_38 ?_
      refine az_ik5 (pc := 39) C dX11_out_39 ?_
      refine az_cV1ii (pc := 40) (c := 11) C hd1 h mv_X11_refuse ml_X11_372 rfl (fun x hx => A_X11_refuse (by omega) hx) dX11_out_40 (fun r2 h => ?_)
      obtain rfl := Option.some.inj h
      exact az_ireturn (pc := 43) C dX11_out_43 rfl
    refine az_al0 (pc := 25) C rfl rfl dX11_out_25 ?_
    refine az_al0 (pc := 26) C rfl rfl dX11_out_26 ?_
    refine az_getR (pc := 27) (c2 := 12) C h fl_X11_113 rfl rfl dX11_out_27 (fun h => ?_)
    refine az_il1 (pc := 30) C dX11_out_30 ?_
    refine az_baload (pc := 31) C h dX11_out_31 (fun h => ?_)
    refine az_cV1ii (pc := 32) (c := 11) C hd1 h mv_X11_gives ml_X11_401 rfl (fun x hx => A_X11_gives (by omega) hx) dX11_out_32 (fun r5 h => ?_)
    refine az_goto (pc := 35) (tgt := 43) C dX11_out_35 (by decide) ?_
    obtain rfl := Option.some.inj h
    exact az_ireturn (pc := 43) C dX11_out_43 rfl
  refine az_al0 (pc := 4) C rfl rfl dX11_out_4 ?_
  refine az_ik1 (pc := 5) C dX11_out_5 ?_
  refine az_cV1ii (pc := 6) (c := 11) C hd1 h mv_X11_refuse ml_X11_372 rfl (fun x hx => A_X11_refuse (by omega) hx) dX11_out_6 (fun r6 h => ?_)
  obtain rfl := Option.some.inj h
  exact az_ireturn (pc := 9) C dX11_out_9 rfl
set_option maxRecDepth 10000 in
set_option maxHeartbeats 4000000 in
theorem A_X11_out {l : Launch} {d : Nat} (hD : 2 ≤ d) {σ : az_Hp} {v0 v1 : Int} {r : (Int × az_Hp)} (h : fz_X11_out σ v0 v1 = some r) : az_AC l yX11_out cX11_out 2 (some .int) d [(13, v0), (0, v1)] σ (some (0, r.1), r.2) := az_AC.of mt_X11_out rfl rfl rfl (fun Z hZ C => A_X11_out_e C hD h)
theorem dX11_parts_0 : decode cX11_parts 0 = .ok (.iload_n 2, 1) := by decide +kernel
theorem dX11_parts_1 : decode cX11_parts 1 = .ok (.iconst 0, 1) := by decide +kernel
theorem dX11_parts_2 : decode cX11_parts 2 = .ok (.iconst 1, 1) := by decide +kernel
theorem dX11_parts_3 : decode cX11_parts 3 = .ok (.invokestatic 354, 3) := by decide +kernel
theorem dX11_parts_6 : decode cX11_parts 6 = .ok (.ifCond .ne 9, 3) := by decide +kernel
theorem dX11_parts_9 : decode cX11_parts 9 = .ok (.aload_n 0, 1) := by decide +kernel
theorem dX11_parts_10 : decode cX11_parts 10 = .ok (.iconst 1, 1) := by decide +kernel
theorem dX11_parts_11 : decode cX11_parts 11 = .ok (.invokevirtual 372, 3) := by decide +kernel
theorem dX11_parts_14 : decode cX11_parts 14 = .ok (.ireturn, 1) := by decide +kernel
theorem dX11_parts_15 : decode cX11_parts 15 = .ok (.aload_n 0, 1) := by decide +kernel
theorem dX11_parts_16 : decode cX11_parts 16 = .ok (.iload_n 1, 1) := by decide +kernel
theorem dX11_parts_17 : decode cX11_parts 17 = .ok (.invokevirtual 514, 3) := by decide +kernel
theorem dX11_parts_20 : decode cX11_parts 20 = .ok (.ifCond .ne 9, 3) := by decide +kernel
theorem dX11_parts_23 : decode cX11_parts 23 = .ok (.aload_n 0, 1) := by decide +kernel
theorem dX11_parts_24 : decode cX11_parts 24 = .ok (.iconst 2, 1) := by decide +kernel
theorem dX11_parts_25 : decode cX11_parts 25 = .ok (.invokevirtual 372, 3) := by decide +kernel
theorem dX11_parts_28 : decode cX11_parts 28 = .ok (.ireturn, 1) := by decide +kernel
theorem dX11_parts_29 : decode cX11_parts 29 = .ok (.aload_n 0, 1) := by decide +kernel
theorem dX11_parts_30 : decode cX11_parts 30 = .ok (.iload_n 1, 1) := by decide +kernel
theorem dX11_parts_31 : decode cX11_parts 31 = .ok (.invokevirtual 523, 3) := by decide +kernel
theorem dX11_parts_34 : decode cX11_parts 34 = .ok (.ifCond .eq 25, 3) := by decide +kernel
theorem dX11_parts_37 : decode cX11_parts 37 = .ok (.aload_n 0, 1) := by decide +kernel
theorem dX11_parts_38 : decode cX11_parts 38 = .ok (.iload_n 2, 1) := by decide +kernel
theorem dX11_parts_39 : decode cX11_parts 39 = .ok (.ifCond .ne 10, 3) := by decide +kernel
theorem dX11_parts_42 : decode cX11_parts 42 = .ok (.aload_n 0, 1) := by decide +kernel
theorem dX11_parts_43 : decode cX11_parts 43 = .ok (.getfield 508, 3) := by decide +kernel
theorem dX11_parts_46 : decode cX11_parts 46 = .ok (.goto 7, 3) := by decide +kernel
theorem dX11_parts_49 : decode cX11_parts 49 = .ok (.aload_n 0, 1) := by decide +kernel
theorem dX11_parts_50 : decode cX11_parts 50 = .ok (.getfield 511, 3) := by decide +kernel
theorem dX11_parts_53 : decode cX11_parts 53 = .ok (.invokevirtual 401, 3) := by decide +kernel
theorem dX11_parts_56 : decode cX11_parts 56 = .ok (.goto 8, 3) := by decide +kernel
theorem dX11_parts_59 : decode cX11_parts 59 = .ok (.aload_n 0, 1) := by decide +kernel
theorem dX11_parts_60 : decode cX11_parts 60 = .ok (.iconst 5, 1) := by decide +kernel
theorem dX11_parts_61 : decode cX11_parts 61 = .ok (.invokevirtual 372, 3) := by decide +kernel
theorem dX11_parts_64 : decode cX11_parts 64 = .ok (.ireturn, 1) := by decide +kernel
set_option maxRecDepth 10000 in
set_option maxHeartbeats 4000000 in
theorem A_X11_parts_e {Z : az_Z} {d : Nat} (C : az_C Z yX11_parts cX11_parts 3 (some .int) d) (hD : 4 ≤ d) (n : Nat) {σ : az_Hp} {v0 v1 v2 : Int} {r : (Int × az_Hp)} (h : fz_X11_parts n σ v0 v1 v2 = some r) : az_AW Z 3 0 [(13, v0), (0, v1), (0, v2)] [] σ (some (0, r.1), r.2) := by
  have hd1 : 1 ≤ d := by omega
  unfold fz_X11_parts at h
  refine az_il2 (pc := 0) C dX11_parts_0 ?_
  refine az_ik0 (pc := 1) C dX11_parts_1 ?_
  refine az_ik1 (pc := 2) C dX11_parts_2 ?_
  refine az_cS3pi (pc := 3) C hd1 h ms_X11_isFrom ml_X11_354 rfl (fun x hx => A_X11_isFrom (by omega) hx) dX11_parts_3 (fun r1 h => ?_)
  refine az_if_ne (pc := 6) (tgt := 15) C h dX11_parts_6 (by decide) (fun _ h => ?_) (fun _ h => ?_)
  · refine az_al0 (pc := 15) C rfl rfl dX11_parts_15 ?_
    refine az_il1 (pc := 16) C dX11_parts_16 ?_
    refine az_cV1pi (pc := 17) (c := 11) C hd1 h mv_X11_isFamily ml_X11_514 rfl (fun x hx => A_X11_isFamily (by omega) hx) dX11_parts_17 (fun r2 h => ?_)
    refine az_if_ne (pc := 20) (tgt := 29) C h dX11_parts_20 (by decide) (fun _ h => ?_) (fun _ h => ?_)
    · refine az_al0 (pc := 29) C rfl rfl dX11_parts_29 ?_
      refine az_il1 (pc := 30) C dX11_parts_30 ?_
      refine az_cV1ii (pc := 31) (c := 11) C hd1 h mv_X11_isParted ml_X11_523 rfl (fun x hx => A_X11_isParted (by omega) n hx) dX11_parts_31 (fun r3 h => ?_)
      refine az_if_eq (pc := 34) (tgt := 59) C h dX11_parts_34 (by decide) (fun _ h => ?_) (fun _ h => ?_)
      · refine az_al0 (pc := 59) C rfl rfl dX11_parts_59 ?_
        refine az_ik5 (pc := 60) C dX11_parts_60 ?_
        refine az_cV1ii (pc := 61) (c := 11) C hd1 h mv_X11_refuse ml_X11_372 rfl (fun x hx => A_X11_refuse (by omega) hx) dX11_parts_61 (fun r4 h => ?_)
        obtain rfl := Option.some.inj h
        exact az_ireturn (pc := 64) C dX11_parts_64 rfl
      refine az_al0 (pc := 37) C rfl rfl dX11_parts_37 ?_
      refine az_il2 (pc := 38) C dX11_parts_38 ?_
      refine az_if_ne (pc := 39) (tgt := 49) C h dX11_parts_39 (by decide) (fun _ h => ?_) (fun _ h => ?_)
      · refine az_al0 (pc := 49) C rfl rfl dX11_parts_49 ?_
        refine az_getI (pc := 50) C fl_X11_511 rfl dX11_parts_50 ?_
        refine az_cV1ii (pc := 53) (c := 11) C hd1 h mv_X11_gives ml_X11_401 rfl (fun x hx => A_X11_gives (by omega) hx) dX11_parts_53 (fun r5 h => ?_)
        refine az_goto (pc := 56) (tgt := 64) C dX11_parts_56 (by decide) ?_
        obtain rfl := Option.some.inj h
        exact az_ireturn (pc := 64) C dX11_parts_64 rfl
      refine az_al0 (pc := 42) C rfl rfl dX11_parts_42 ?_
      refine az_getI (pc := 43) C fl_X11_508 rfl dX11_parts_43 ?_
      refine az_goto (pc := 46) (tgt := 53) C dX11_parts_46 (by decide) ?_
      refine az_cV1ii (pc := 53) (c := 11) C hd1 h mv_X11_gives ml_X11_401 rfl (fun x hx => A_X11_gives (by omega) hx) dX11_parts_53 (fun r6 h => ?_)
      refine az_goto (pc := 56) (tgt := 64) C dX11_parts_56 (by decide) ?_
      obtain rfl := Option.some.inj h
      exact az_ireturn (pc := 64) C dX11_parts_64 rfl
    refine az_al0 (pc := 23) C rfl rfl dX11_parts_23 ?_
    refine az_ik2 (pc := 24) C dX11_parts_24 ?_
    refine az_cV1ii (pc := 25) (c := 11) C hd1 h mv_X11_refuse ml_X11_372 rfl (fun x hx => A_X11_refuse (by omega) hx) dX11_parts_25 (fun r7 h => ?_)
    obtain rfl := Option.some.inj h
    exact az_ireturn (pc := 28) C dX11_parts_28 rfl
  refine az_al0 (pc := 9) C rfl rfl dX11_parts_9 ?_
  refine az_ik1 (pc := 10) C dX11_parts_10 ?_
  refine az_cV1ii (pc := 11) (c := 11) C hd1 h mv_X11_refuse ml_X11_372 rfl (fun x hx => A_X11_refuse (by omega) hx) dX11_parts_11 (fun r8 h => ?_)
  obtain rfl := Option.some.inj h
  exact az_ireturn (pc := 14) C dX11_parts_14 rfl
set_option maxRecDepth 10000 in
set_option maxHeartbeats 4000000 in
theorem A_X11_parts {l : Launch} {d : Nat} (hD : 4 ≤ d) (n : Nat) {σ : az_Hp} {v0 v1 v2 : Int} {r : (Int × az_Hp)} (h : fz_X11_parts n σ v0 v1 v2 = some r) : az_AC l yX11_parts cX11_parts 3 (some .int) d [(13, v0), (0, v1), (0, v2)] σ (some (0, r.1), r.2) := az_AC.of mt_X11_parts rfl rfl rfl (fun Z hZ C => A_X11_parts_e C hD n h)
theorem dX11_period_0 : decode cX11_period 0 = .ok (.aload_n 0, 1) := by decide +kernel
theorem dX11_period_1 : decode cX11_period 1 = .ok (.getfield 144, 3) := by decide +kernel
theorem dX11_period_4 : decode cX11_period 4 = .ok (.iconst (-1), 1) := by decide +kernel
theorem dX11_period_5 : decode cX11_period 5 = .ok (.if_icmp .ne 11, 3) := by decide +kernel
theorem dX11_period_8 : decode cX11_period 8 = .ok (.aload_n 0, 1) := by decide +kernel
theorem dX11_period_9 : decode cX11_period 9 = .ok (.iconst 5, 1) := by decide +kernel
theorem dX11_period_10 : decode cX11_period 10 = .ok (.invokevirtual 372, 3) := by decide +kernel
theorem dX11_period_13 : decode cX11_period 13 = .ok (.goto 11, 3) := by decide +kernel
theorem dX11_period_16 : decode cX11_period 16 = .ok (.aload_n 0, 1) := by decide +kernel
theorem dX11_period_17 : decode cX11_period 17 = .ok (.aload_n 0, 1) := by decide +kernel
theorem dX11_period_18 : decode cX11_period 18 = .ok (.getfield 144, 3) := by decide +kernel
theorem dX11_period_21 : decode cX11_period 21 = .ok (.invokevirtual 401, 3) := by decide +kernel
theorem dX11_period_24 : decode cX11_period 24 = .ok (.ireturn, 1) := by decide +kernel
set_option maxRecDepth 10000 in
set_option maxHeartbeats 4000000 in
theorem A_X11_period_e {Z : az_Z} {d : Nat} (C : az_C Z yX11_period cX11_period 1 (some .int) d) (hD : 2 ≤ d) {σ : az_Hp} {v0 : Int} {r : (Int × az_Hp)} (h : fz_X11_period σ v0 = some r) : az_AW Z 1 0 [(13, v0)] [] σ (some (0, r.1), r.2) := by
  have hd1 : 1 ≤ d := by omega
  unfold fz_X11_period at h
  refine az_al0 (pc := 0) C rfl rfl dX11_period_0 ?_
  refine az_getI (pc := 1) C fl_X11_144 rfl dX11_period_1 ?_
  refine az_ikm1 (pc := 4) C dX11_period_4 ?_
  refine az_icmp_ne (pc := 5) (tgt := 16) C h dX11_period_5 (by decide) (fun _ h => ?_) (fun _ h => ?_)
  · refine az_al0 (pc := 16) C rfl rfl dX11_period_16 ?_
    refine az_al0 (pc := 17) C rfl rfl dX11_period_17 ?_
    refine az_getI (pc := 18) C fl_X11_144 rfl dX11_period_18 ?_
    refine az_cV1ii (pc := 21) (c := 11) C hd1 h mv_X11_gives ml_X11_401 rfl (fun x hx => A_X11_gives (by omega) hx) dX11_period_21 (fun r1 h => ?_)
    obtain rfl := Option.some.inj h
    exact az_ireturn (pc := 24) C dX11_period_24 rfl
  refine az_al0 (pc := 8) C rfl rfl dX11_period_8 ?_
  refine az_ik5 (pc := 9) C dX11_period_9 ?_
  refine az_cV1ii (pc := 10) (c := 11) C hd1 h mv_X11_refuse ml_X11_372 rfl (fun x hx => A_X11_refuse (by omega) hx) dX11_period_10 (fun r2 h => ?_)
  refine az_goto (pc := 13) (tgt := 24) C dX11_period_13 (by decide) ?_
  obtain rfl := Option.some.inj h
  exact az_ireturn (pc := 24) C dX11_period_24 rfl
set_option maxRecDepth 10000 in
set_option maxHeartbeats 4000000 in
theorem A_X11_period {l : Launch} {d : Nat} (hD : 2 ≤ d) {σ : az_Hp} {v0 : Int} {r : (Int × az_Hp)} (h : fz_X11_period σ v0 = some r) : az_AC l yX11_period cX11_period 1 (some .int) d [(13, v0)] σ (some (0, r.1), r.2) := az_AC.of mt_X11_period rfl rfl rfl (fun Z hZ C => A_X11_period_e C hD h)
theorem dX11_tellsRow_0 : decode cX11_tellsRow 0 = .ok (.iconst 0, 1) := by decide +kernel
theorem dX11_tellsRow_1 : decode cX11_tellsRow 1 = .ok (.istore 4, 2) := by decide +kernel
theorem dX11_tellsRow_3 : decode cX11_tellsRow 3 = .ok (.iconst 0, 1) := by decide +kernel
theorem dX11_tellsRow_4 : decode cX11_tellsRow 4 = .ok (.istore 5, 2) := by decide +kernel
theorem dX11_tellsRow_6 : decode cX11_tellsRow 6 = .ok (.iload 5, 2) := by decide +kernel
theorem dX11_tellsRow_8 : decode cX11_tellsRow 8 = .ok (.iload_n 2, 1) := by decide +kernel
theorem dX11_tellsRow_9 : decode cX11_tellsRow 9 = .ok (.if_icmp .ge 174, 3) := by decide +kernel
theorem dX11_tellsRow_12 : decode cX11_tellsRow 12 = .ok (.aload_n 1, 1) := by decide +kernel
theorem dX11_tellsRow_13 : decode cX11_tellsRow 13 = .ok (.iload 5, 2) := by decide +kernel
theorem dX11_tellsRow_15 : decode cX11_tellsRow 15 = .ok (.iaload, 1) := by decide +kernel
theorem dX11_tellsRow_16 : decode cX11_tellsRow 16 = .ok (.istore 6, 2) := by decide +kernel
theorem dX11_tellsRow_18 : decode cX11_tellsRow 18 = .ok (.iload 6, 2) := by decide +kernel
theorem dX11_tellsRow_20 : decode cX11_tellsRow 20 = .ok (.sipush 2000, 3) := by decide +kernel
theorem dX11_tellsRow_23 : decode cX11_tellsRow 23 = .ok (.if_icmp .lt 9, 3) := by decide +kernel
theorem dX11_tellsRow_26 : decode cX11_tellsRow 26 = .ok (.aload_n 0, 1) := by decide +kernel
theorem dX11_tellsRow_27 : decode cX11_tellsRow 27 = .ok (.bipush 63, 2) := by decide +kernel
theorem dX11_tellsRow_29 : decode cX11_tellsRow 29 = .ok (.invokevirtual 477, 3) := by decide +kernel
theorem dX11_tellsRow_32 : decode cX11_tellsRow 32 = .ok (.iload 6, 2) := by decide +kernel
theorem dX11_tellsRow_34 : decode cX11_tellsRow 34 = .ok (.sipush 2000, 3) := by decide +kernel
theorem dX11_tellsRow_37 : decode cX11_tellsRow 37 = .ok (.if_icmp .lt 21, 3) := by decide +kernel
theorem dX11_tellsRow_40 : decode cX11_tellsRow 40 = .ok (.aload_n 0, 1) := by decide +kernel
theorem dX11_tellsRow_41 : decode cX11_tellsRow 41 = .ok (.aload_n 0, 1) := by decide +kernel
theorem dX11_tellsRow_42 : decode cX11_tellsRow 42 = .ok (.getfield 186, 3) := by decide +kernel
theorem dX11_tellsRow_45 : decode cX11_tellsRow 45 = .ok (.iload 6, 2) := by decide +kernel
theorem dX11_tellsRow_47 : decode cX11_tellsRow 47 = .ok (.sipush 2000, 3) := by decide +kernel
theorem dX11_tellsRow_50 : decode cX11_tellsRow 50 = .ok (.isub, 1) := by decide +kernel
theorem dX11_tellsRow_51 : decode cX11_tellsRow 51 = .ok (.laload, 1) := by decide +kernel
theorem dX11_tellsRow_52 : decode cX11_tellsRow 52 = .ok (.invokevirtual 495, 3) := by decide +kernel
theorem dX11_tellsRow_55 : decode cX11_tellsRow 55 = .ok (.goto 36, 3) := by decide +kernel
theorem dX11_tellsRow_58 : decode cX11_tellsRow 58 = .ok (.iload 6, 2) := by decide +kernel
theorem dX11_tellsRow_60 : decode cX11_tellsRow 60 = .ok (.sipush 1000, 3) := by decide +kernel
theorem dX11_tellsRow_63 : decode cX11_tellsRow 63 = .ok (.if_icmp .lt 18, 3) := by decide +kernel
theorem dX11_tellsRow_66 : decode cX11_tellsRow 66 = .ok (.aload_n 0, 1) := by decide +kernel
theorem dX11_tellsRow_67 : decode cX11_tellsRow 67 = .ok (.aload_n 3, 1) := by decide +kernel
theorem dX11_tellsRow_68 : decode cX11_tellsRow 68 = .ok (.iload 6, 2) := by decide +kernel
theorem dX11_tellsRow_70 : decode cX11_tellsRow 70 = .ok (.sipush 1000, 3) := by decide +kernel
theorem dX11_tellsRow_73 : decode cX11_tellsRow 73 = .ok (.isub, 1) := by decide +kernel
theorem dX11_tellsRow_74 : decode cX11_tellsRow 74 = .ok (.laload, 1) := by decide +kernel
theorem dX11_tellsRow_75 : decode cX11_tellsRow 75 = .ok (.invokevirtual 495, 3) := by decide +kernel
theorem dX11_tellsRow_78 : decode cX11_tellsRow 78 = .ok (.goto 13, 3) := by decide +kernel
theorem dX11_tellsRow_81 : decode cX11_tellsRow 81 = .ok (.aload_n 0, 1) := by decide +kernel
theorem dX11_tellsRow_82 : decode cX11_tellsRow 82 = .ok (.aload_n 0, 1) := by decide +kernel
theorem dX11_tellsRow_83 : decode cX11_tellsRow 83 = .ok (.iload 6, 2) := by decide +kernel
theorem dX11_tellsRow_85 : decode cX11_tellsRow 85 = .ok (.invokevirtual 492, 3) := by decide +kernel
theorem dX11_tellsRow_88 : decode cX11_tellsRow 88 = .ok (.invokevirtual 495, 3) := by decide +kernel
theorem dX11_tellsRow_91 : decode cX11_tellsRow 91 = .ok (.aload_n 0, 1) := by decide +kernel
theorem dX11_tellsRow_92 : decode cX11_tellsRow 92 = .ok (.getfield 150, 3) := by decide +kernel
theorem dX11_tellsRow_95 : decode cX11_tellsRow 95 = .ok (.iload 4, 2) := by decide +kernel
theorem dX11_tellsRow_97 : decode cX11_tellsRow 97 = .ok (.aload_n 0, 1) := by decide +kernel
theorem dX11_tellsRow_98 : decode cX11_tellsRow 98 = .ok (.iload 6, 2) := by decide +kernel
theorem dX11_tellsRow_100 : decode cX11_tellsRow 100 = .ok (.invokevirtual 336, 3) := by decide +kernel
theorem dX11_tellsRow_103 : decode cX11_tellsRow 103 = .ok (.iastore, 1) := by decide +kernel
theorem dX11_tellsRow_104 : decode cX11_tellsRow 104 = .ok (.aload_n 0, 1) := by decide +kernel
theorem dX11_tellsRow_105 : decode cX11_tellsRow 105 = .ok (.getfield 150, 3) := by decide +kernel
theorem dX11_tellsRow_108 : decode cX11_tellsRow 108 = .ok (.iload 4, 2) := by decide +kernel
theorem dX11_tellsRow_110 : decode cX11_tellsRow 110 = .ok (.iaload, 1) := by decide +kernel
theorem dX11_tellsRow_111 : decode cX11_tellsRow 111 = .ok (.ifCond .le 15, 3) := by decide +kernel
theorem dX11_tellsRow_114 : decode cX11_tellsRow 114 = .ok (.aload_n 0, 1) := by decide +kernel
theorem dX11_tellsRow_115 : decode cX11_tellsRow 115 = .ok (.bipush 40, 2) := by decide +kernel
theorem dX11_tellsRow_117 : decode cX11_tellsRow 117 = .ok (.invokevirtual 477, 3) := by decide +kernel
theorem dX11_tellsRow_120 : decode cX11_tellsRow 120 = .ok (.iinc 4 1, 3) := by decide +kernel
theorem dX11_tellsRow_123 : decode cX11_tellsRow 123 = .ok (.goto 54, 3) := by decide +kernel
theorem dX11_tellsRow_126 : decode cX11_tellsRow 126 = .ok (.iload 4, 2) := by decide +kernel
theorem dX11_tellsRow_128 : decode cX11_tellsRow 128 = .ok (.ifCond .le 49, 3) := by decide +kernel
theorem dX11_tellsRow_131 : decode cX11_tellsRow 131 = .ok (.aload_n 0, 1) := by decide +kernel
theorem dX11_tellsRow_132 : decode cX11_tellsRow 132 = .ok (.getfield 150, 3) := by decide +kernel
theorem dX11_tellsRow_135 : decode cX11_tellsRow 135 = .ok (.iload 4, 2) := by decide +kernel
theorem dX11_tellsRow_137 : decode cX11_tellsRow 137 = .ok (.iconst 1, 1) := by decide +kernel
theorem dX11_tellsRow_138 : decode cX11_tellsRow 138 = .ok (.isub, 1) := by decide +kernel
theorem dX11_tellsRow_139 : decode cX11_tellsRow 139 = .ok (.dup2, 1) := by decide +kernel
theorem dX11_tellsRow_140 : decode cX11_tellsRow 140 = .ok (.iaload, 1) := by decide +kernel
theorem dX11_tellsRow_141 : decode cX11_tellsRow 141 = .ok (.iconst 1, 1) := by decide +kernel
theorem dX11_tellsRow_142 : decode cX11_tellsRow 142 = .ok (.isub, 1) := by decide +kernel
theorem dX11_tellsRow_143 : decode cX11_tellsRow 143 = .ok (.iastore, 1) := by decide +kernel
theorem dX11_tellsRow_144 : decode cX11_tellsRow 144 = .ok (.aload_n 0, 1) := by decide +kernel
theorem dX11_tellsRow_145 : decode cX11_tellsRow 145 = .ok (.getfield 150, 3) := by decide +kernel
theorem dX11_tellsRow_148 : decode cX11_tellsRow 148 = .ok (.iload 4, 2) := by decide +kernel
theorem dX11_tellsRow_150 : decode cX11_tellsRow 150 = .ok (.iconst 1, 1) := by decide +kernel
theorem dX11_tellsRow_151 : decode cX11_tellsRow 151 = .ok (.isub, 1) := by decide +kernel
theorem dX11_tellsRow_152 : decode cX11_tellsRow 152 = .ok (.iaload, 1) := by decide +kernel
theorem dX11_tellsRow_153 : decode cX11_tellsRow 153 = .ok (.ifCond .le 12, 3) := by decide +kernel
theorem dX11_tellsRow_156 : decode cX11_tellsRow 156 = .ok (.aload_n 0, 1) := by decide +kernel
theorem dX11_tellsRow_157 : decode cX11_tellsRow 157 = .ok (.bipush 44, 2) := by decide +kernel
theorem dX11_tellsRow_159 : decode cX11_tellsRow 159 = .ok (.invokevirtual 477, 3) := by decide +kernel
theorem dX11_tellsRow_162 : decode cX11_tellsRow 162 = .ok (.goto 15, 3) := by decide +kernel
theorem dX11_tellsRow_165 : decode cX11_tellsRow 165 = .ok (.aload_n 0, 1) := by decide +kernel
theorem dX11_tellsRow_166 : decode cX11_tellsRow 166 = .ok (.bipush 41, 2) := by decide +kernel
theorem dX11_tellsRow_168 : decode cX11_tellsRow 168 = .ok (.invokevirtual 477, 3) := by decide +kernel
theorem dX11_tellsRow_171 : decode cX11_tellsRow 171 = .ok (.iinc 4 (-1), 3) := by decide +kernel
theorem dX11_tellsRow_174 : decode cX11_tellsRow 174 = .ok (.goto (-48), 3) := by decide +kernel
theorem dX11_tellsRow_177 : decode cX11_tellsRow 177 = .ok (.iinc 5 1, 3) := by decide +kernel
theorem dX11_tellsRow_180 : decode cX11_tellsRow 180 = .ok (.goto (-174), 3) := by decide +kernel
theorem dX11_tellsRow_183 : decode cX11_tellsRow 183 = .ok (.return_, 1) := by decide +kernel
set_option maxRecDepth 10000 in
set_option maxHeartbeats 4000000 in
theorem A_X11_tellsRow_126 {Z : az_Z} {d : Nat} (C : az_C Z yX11_tellsRow cX11_tellsRow 7 none d) (hD : 3 ≤ d) (n : Nat) {k6 : az_Hp → Int → Int → Int → Int → Int → Int → Option az_Hp} (hk6 : ∀ {σ : az_Hp} {v0 v1 v2 v3 v4 v5 : Int} {r : az_Hp}, k6 σ v0 v1 v2 v3 v4 v5 = some r → az_AW Z 7 6 [(13, v0), (15, v1), (0, v2), (16, v3), (0, v4), (0, v5), (31, 0)] [] σ (none, r)) (k : Nat) : ∀ {σ : az_Hp} {v0 v1 v2 v3 v4 v5 : Int} {r : az_Hp}, fz_X11_tellsRow_126 n k6 k σ v0 v1 v2 v3 v4 v5 = some r → az_AW Z 7 126 [(13, v0), (15, v1), (0, v2), (16, v3), (0, v4), (0, v5), (31, 0)] [] σ (none, r) := by
  have hd1 : 1 ≤ d := by omega
  induction k with
  | zero => intro σ v0 v1 v2 v3 v4 v5 r h; simp [fz_X11_tellsRow_126] at h
  | succ k ih =>
    intro σ v0 v1 v2 v3 v4 v5 r h
    unfold fz_X11_tellsRow_126 at h
    refine az_il4 (pc := 126) C dX11_tellsRow_126 ?_
    refine az_if_le (pc := 128) (tgt := 177) C h dX11_tellsRow_128 (by decide) (fun _ h => ?_) (fun _ h => ?_)
    · refine az_ii5 (pc := 177) C az_n1 rfl rfl dX11_tellsRow_177 ?_
      refine az_goto (pc := 180) (tgt := 6) C dX11_tellsRow_180 (by decide) ?_
      exact (hk6 h)
    refine az_al0 (pc := 131) C rfl rfl dX11_tellsRow_131 ?_
    refine az_getR (pc := 132) (c2 := 13) C h fl_X11_150 rfl rfl dX11_tellsRow_132 (fun h => ?_)
    refine az_il4 (pc := 135) C dX11_tellsRow_135 ?_
    refine az_ik1 (pc := 137) C dX11_tellsRow_137 ?_
    refine az_isub (pc := 138) C dX11_tellsRow_138 ?_
    refine az_dup2 (pc := 139) C rfl rfl rfl rfl dX11_tellsRow_139 ?_
    refine az_iaload (pc := 140) C h dX11_tellsRow_140 (fun h => ?_)
    refine az_ik1 (pc := 141) C dX11_tellsRow_141 ?_
    refine az_isub (pc := 142) C dX11_tellsRow_142 ?_
    refine az_iastore (pc := 143) C h dX11_tellsRow_143 (fun h => ?_)
    refine az_al0 (pc := 144) C rfl rfl dX11_tellsRow_144 ?_
    refine az_getR (pc := 145) (c2 := 13) C h fl_X11_150 rfl rfl dX11_tellsRow_145 (fun h => ?_)
    refine az_il4 (pc := 148) C dX11_tellsRow_148 ?_
    refine az_ik1 (pc := 150) C dX11_tellsRow_150 ?_
    refine az_isub (pc := 151) C dX11_tellsRow_151 ?_
    refine az_iaload (pc := 152) C h dX11_tellsRow_152 (fun h => ?_)
    refine az_if_le (pc := 153) (tgt := 165) C h dX11_tellsRow_153 (by decide) (fun _ h => ?_) (fun _ h => ?_)
    · refine az_al0 (pc := 165) C rfl rfl dX11_tellsRow_165 ?_
      refine az_bk41 (pc := 166) C dX11_tellsRow_166 ?_
      refine az_cV1v (pc := 168) (c := 11) C hd1 h mv_X11_tellsByte ml_X11_477 rfl (fun x hx => A_X11_tellsByte (by omega) hx) dX11_tellsRow_168 (fun r6 h => ?_)
      refine az_ii4 (pc := 171) C az_nm1 rfl rfl dX11_tellsRow_171 ?_
      refine az_goto (pc := 174) (tgt := 126) C dX11_tellsRow_174 (by decide) ?_
      exact (ih h)
    refine az_al0 (pc := 156) C rfl rfl dX11_tellsRow_156 ?_
    refine az_bk44 (pc := 157) C dX11_tellsRow_157 ?_
    refine az_cV1v (pc := 159) (c := 11) C hd1 h mv_X11_tellsByte ml_X11_477 rfl (fun x hx => A_X11_tellsByte (by omega) hx) dX11_tellsRow_159 (fun r7 h => ?_)
    refine az_goto (pc := 162) (tgt := 177) C dX11_tellsRow_162 (by decide) ?_
    refine az_ii5 (pc := 177) C az_n1 rfl rfl dX11_tellsRow_177 ?_
    refine az_goto (pc := 180) (tgt := 6) C dX11_tellsRow_180 (by decide) ?_
    exact (hk6 h)
set_option maxRecDepth 10000 in
set_option maxHeartbeats 4000000 in
theorem A_X11_tellsRow_91 {Z : az_Z} {d : Nat} (C : az_C Z yX11_tellsRow cX11_tellsRow 7 none d) (hD : 3 ≤ d) (n : Nat) {k6 : az_Hp → Int → Int → Int → Int → Int → Int → Option az_Hp} (hk6 : ∀ {σ : az_Hp} {v0 v1 v2 v3 v4 v5 : Int} {r : az_Hp}, k6 σ v0 v1 v2 v3 v4 v5 = some r → az_AW Z 7 6 [(13, v0), (15, v1), (0, v2), (16, v3), (0, v4), (0, v5), (31, 0)] [] σ (none, r)) {σ : az_Hp} {v0 v1 v2 v3 v4 v5 v6 : Int} {r : az_Hp} (h : fz_X11_tellsRow_91 n k6 σ v0 v1 v2 v3 v4 v5 v6 = some r) : az_AW Z 7 91 [(13, v0), (15, v1), (0, v2), (16, v3), (0, v4), (0, v5), (0, v6)] [] σ (none, r) := by
  have hd1 : 1 ≤ d := by omega
  unfold fz_X11_tellsRow_91 at h
  refine az_al0 (pc := 91) C rfl rfl dX11_tellsRow_91 ?_
  refine az_getR (pc := 92) (c2 := 13) C h fl_X11_150 rfl rfl dX11_tellsRow_92 (fun h => ?_)
  refine az_il4 (pc := 95) C dX11_tellsRow_95 ?_
  refine az_al0 (pc := 97) C rfl rfl dX11_tellsRow_97 ?_
  refine az_il6 (pc := 98) C dX11_tellsRow_98 ?_
  refine az_cV1pi (pc := 100) (c := 11) C hd1 h mv_X11_takes ml_X11_336 rfl (fun x hx => A_X11_takes (by omega) hx) dX11_tellsRow_100 (fun r2 h => ?_)
  refine az_iastore (pc := 103) C h dX11_tellsRow_103 (fun h => ?_)
  refine az_al0 (pc := 104) C rfl rfl dX11_tellsRow_104 ?_
  refine az_getR (pc := 105) (c2 := 13) C h fl_X11_150 rfl rfl dX11_tellsRow_105 (fun h => ?_)
  refine az_il4 (pc := 108) C dX11_tellsRow_108 ?_
  refine az_iaload (pc := 110) C h dX11_tellsRow_110 (fun h => ?_)
  refine az_if_le (pc := 111) (tgt := 126) C h dX11_tellsRow_111 (by decide) (fun _ h => ?_) (fun _ h => ?_)
  · exact (az_wkk (A_X11_tellsRow_126 C hD n (fun h => hk6 h) n h) (az_sE (az_sE (az_sE (az_sE (az_sE (az_sE (az_sJ az_sN))))))))
  refine az_al0 (pc := 114) C rfl rfl dX11_tellsRow_114 ?_
  refine az_bk40 (pc := 115) C dX11_tellsRow_115 ?_
  refine az_cV1v (pc := 117) (c := 11) C hd1 h mv_X11_tellsByte ml_X11_477 rfl (fun x hx => A_X11_tellsByte (by omega) hx) dX11_tellsRow_117 (fun r6 h => ?_)
  refine az_ii4 (pc := 120) C az_n1 rfl rfl dX11_tellsRow_120 ?_
  refine az_goto (pc := 123) (tgt := 177) C dX11_tellsRow_123 (by decide) ?_
  refine az_ii5 (pc := 177) C az_n1 rfl rfl dX11_tellsRow_177 ?_
  refine az_goto (pc := 180) (tgt := 6) C dX11_tellsRow_180 (by decide) ?_
  exact (az_wkk (hk6 h) (az_sE (az_sE (az_sE (az_sE (az_sE (az_sE (az_sJ az_sN))))))))
set_option maxRecDepth 10000 in
set_option maxHeartbeats 4000000 in
theorem A_X11_tellsRow_32 {Z : az_Z} {d : Nat} (C : az_C Z yX11_tellsRow cX11_tellsRow 7 none d) (hD : 3 ≤ d) (n : Nat) {k6 : az_Hp → Int → Int → Int → Int → Int → Int → Option az_Hp} (hk6 : ∀ {σ : az_Hp} {v0 v1 v2 v3 v4 v5 : Int} {r : az_Hp}, k6 σ v0 v1 v2 v3 v4 v5 = some r → az_AW Z 7 6 [(13, v0), (15, v1), (0, v2), (16, v3), (0, v4), (0, v5), (31, 0)] [] σ (none, r)) {σ : az_Hp} {v0 v1 v2 v3 v4 v5 v6 : Int} {r : az_Hp} (h : fz_X11_tellsRow_32 n k6 σ v0 v1 v2 v3 v4 v5 v6 = some r) : az_AW Z 7 32 [(13, v0), (15, v1), (0, v2), (16, v3), (0, v4), (0, v5), (0, v6)] [] σ (none, r) := by
  have hd1 : 1 ≤ d := by omega
  unfold fz_X11_tellsRow_32 at h
  refine az_il6 (pc := 32) C dX11_tellsRow_32 ?_
  refine az_sk2000 (pc := 34) C dX11_tellsRow_34 ?_
  refine az_icmp_lt (pc := 37) (tgt := 58) C h dX11_tellsRow_37 (by decide) (fun _ h => ?_) (fun _ h => ?_)
  · refine az_il6 (pc := 58) C dX11_tellsRow_58 ?_
    refine az_sk1000 (pc := 60) C dX11_tellsRow_60 ?_
    refine az_icmp_lt (pc := 63) (tgt := 81) C h dX11_tellsRow_63 (by decide) (fun _ h => ?_) (fun _ h => ?_)
    · refine az_al0 (pc := 81) C rfl rfl dX11_tellsRow_81 ?_
      refine az_al0 (pc := 82) C rfl rfl dX11_tellsRow_82 ?_
      refine az_il6 (pc := 83) C dX11_tellsRow_83 ?_
      refine az_cV1pl (pc := 85) (c := 11) C hd1 h mv_X11_nameOf ml_X11_492 rfl (fun x hx => A_X11_nameOf (by omega) hx) dX11_tellsRow_85 (fun r1 h => ?_)
      refine az_cV1v (pc := 88) (c := 11) C hd1 h mv_X11_tells ml_X11_495 rfl (fun x hx => A_X11_tells (by omega) n hx) dX11_tellsRow_88 (fun r2 h => ?_)
      exact (A_X11_tellsRow_91 C hD n (fun h => hk6 h) h)
    refine az_al0 (pc := 66) C rfl rfl dX11_tellsRow_66 ?_
    refine az_al3 (pc := 67) C rfl rfl dX11_tellsRow_67 ?_
    refine az_il6 (pc := 68) C dX11_tellsRow_68 ?_
    refine az_sk1000 (pc := 70) C dX11_tellsRow_70 ?_
    refine az_isub (pc := 73) C dX11_tellsRow_73 ?_
    refine az_laload (pc := 74) C h dX11_tellsRow_74 (fun h => ?_)
    refine az_cV1v (pc := 75) (c := 11) C hd1 h mv_X11_tells ml_X11_495 rfl (fun x hx => A_X11_tells (by omega) n hx) dX11_tellsRow_75 (fun r4 h => ?_)
    refine az_goto (pc := 78) (tgt := 91) C dX11_tellsRow_78 (by decide) ?_
    exact (A_X11_tellsRow_91 C hD n (fun h => hk6 h) h)
  refine az_al0 (pc := 40) C rfl rfl dX11_tellsRow_40 ?_
  refine az_al0 (pc := 41) C rfl rfl dX11_tellsRow_41 ?_
  refine az_getR (pc := 42) (c2 := 14) C h fl_X11_186 rfl rfl dX11_tellsRow_42 (fun h => ?_)
  refine az_il6 (pc := 45) C dX11_tellsRow_45 ?_
  refine az_sk2000 (pc := 47) C dX11_tellsRow_47 ?_
  refine az_isub (pc := 50) C dX11_tellsRow_50 ?_
  refine az_laload (pc := 51) C h dX11_tellsRow_51 (fun h => ?_)
  refine az_cV1v (pc := 52) (c := 11) C hd1 h mv_X11_tells ml_X11_495 rfl (fun x hx => A_X11_tells (by omega) n hx) dX11_tellsRow_52 (fun r7 h => ?_)
  refine az_goto (pc := 55) (tgt := 91) C dX11_tellsRow_55 (by decide) ?_
  exact (A_X11_tellsRow_91 C hD n (fun h => hk6 h) h)
set_option maxRecDepth 10000 in
set_option maxHeartbeats 4000000 in
theorem A_X11_tellsRow_6 {Z : az_Z} {d : Nat} (C : az_C Z yX11_tellsRow cX11_tellsRow 7 none d) (hD : 3 ≤ d) (n : Nat) (k : Nat) : ∀ {σ : az_Hp} {v0 v1 v2 v3 v4 v5 : Int} {r : az_Hp}, fz_X11_tellsRow_6 n k σ v0 v1 v2 v3 v4 v5 = some r → az_AW Z 7 6 [(13, v0), (15, v1), (0, v2), (16, v3), (0, v4), (0, v5), (31, 0)] [] σ (none, r) := by
  have hd1 : 1 ≤ d := by omega
  induction k with
  | zero => intro σ v0 v1 v2 v3 v4 v5 r h; simp [fz_X11_tellsRow_6] at h
  | succ k ih =>
    intro σ v0 v1 v2 v3 v4 v5 r h
    unfold fz_X11_tellsRow_6 at h
    refine az_il5 (pc := 6) C dX11_tellsRow_6 ?_
    refine az_il2 (pc := 8) C dX11_tellsRow_8 ?_
    refine az_icmp_ge (pc := 9) (tgt := 183) C h dX11_tellsRow_9 (by decide) (fun _ h => ?_) (fun _ h => ?_)
    · obtain rfl := Option.some.inj h
      exact az_return (pc := 183) C dX11_tellsRow_183 rfl
    refine az_al1 (pc := 12) C rfl rfl dX11_tellsRow_12 ?_
    refine az_il5 (pc := 13) C dX11_tellsRow_13 ?_
    refine az_iaload (pc := 15) C h dX11_tellsRow_15 (fun h => ?_)
    refine az_is6 (pc := 16) C rfl rfl dX11_tellsRow_16 ?_
    refine az_il6 (pc := 18) C dX11_tellsRow_18 ?_
    refine az_sk2000 (pc := 20) C dX11_tellsRow_20 ?_
    refine az_icmp_lt (pc := 23) (tgt := 32) C h dX11_tellsRow_23 (by decide) (fun _ h => ?_) (fun _ h => ?_)
    · exact (A_X11_tellsRow_32 C hD n (fun h => ih h) h)
    refine az_al0 (pc := 26) C rfl rfl dX11_tellsRow_26 ?_
    refine az_bk63 (pc := 27) C dX11_tellsRow_27 ?_
    refine az_cV1v (pc := 29) (c := 11) C hd1 h mv_X11_tellsByte ml_X11_477 rfl (fun x hx => A_X11_tellsByte (by omega) hx) dX11_tellsRow_29 (fun r2 h => ?_)
    exact (A_X11_tellsRow_32 C hD n (fun h => ih h) h)
set_option maxRecDepth 10000 in
set_option maxHeartbeats 4000000 in
theorem A_X11_tellsRow_e {Z : az_Z} {d : Nat} (C : az_C Z yX11_tellsRow cX11_tellsRow 7 none d) (hD : 3 ≤ d) (n : Nat) {σ : az_Hp} {v0 v1 v2 v3 : Int} {r : az_Hp} (h : fz_X11_tellsRow n σ v0 v1 v2 v3 = some r) : az_AW Z 7 0 [(13, v0), (15, v1), (0, v2), (16, v3), (31, 0), (31, 0), (31, 0)] [] σ (none, r) := by
  have hd1 : 1 ≤ d := by omega
  unfold fz_X11_tellsRow at h
  refine az_ik0 (pc := 0) C dX11_tellsRow_0 ?_
  refine az_is4 (pc := 1) C rfl rfl dX11_tellsRow_1 ?_
  refine az_ik0 (pc := 3) C dX11_tellsRow_3 ?_
  refine az_is5 (pc := 4) C rfl rfl dX11_tellsRow_4 ?_
  exact (A_X11_tellsRow_6 C hD n n h)
set_option maxRecDepth 10000 in
set_option maxHeartbeats 4000000 in
theorem A_X11_tellsRow {l : Launch} {d : Nat} (hD : 3 ≤ d) (n : Nat) {σ : az_Hp} {v0 v1 v2 v3 : Int} {r : az_Hp} (h : fz_X11_tellsRow n σ v0 v1 v2 v3 = some r) : az_AC l yX11_tellsRow cX11_tellsRow 7 none d [(13, v0), (15, v1), (0, v2), (16, v3)] σ (none, r) := az_AC.of mt_X11_tellsRow rfl rfl rfl (fun Z hZ C => A_X11_tellsRow_e C hD n h)
theorem dX11_print_0 : decode cX11_print 0 = .ok (.aload_n 0, 1) := by decide +kernel
theorem dX11_print_1 : decode cX11_print 1 = .ok (.getfield 388, 3) := by decide +kernel
theorem dX11_print_4 : decode cX11_print 4 = .ok (.ifCond .ne 9, 3) := by decide +kernel
theorem dX11_print_7 : decode cX11_print 7 = .ok (.aload_n 0, 1) := by decide +kernel
theorem dX11_print_8 : decode cX11_print 8 = .ok (.iconst 3, 1) := by decide +kernel
theorem dX11_print_9 : decode cX11_print 9 = .ok (.invokevirtual 372, 3) := by decide +kernel
theorem dX11_print_12 : decode cX11_print 12 = .ok (.ireturn, 1) := by decide +kernel
theorem dX11_print_13 : decode cX11_print 13 = .ok (.aload_n 0, 1) := by decide +kernel
theorem dX11_print_14 : decode cX11_print 14 = .ok (.iconst 0, 1) := by decide +kernel
theorem dX11_print_15 : decode cX11_print 15 = .ok (.putfield 480, 3) := by decide +kernel
theorem dX11_print_18 : decode cX11_print 18 = .ok (.aload_n 0, 1) := by decide +kernel
theorem dX11_print_19 : decode cX11_print 19 = .ok (.iconst 1, 1) := by decide +kernel
theorem dX11_print_20 : decode cX11_print 20 = .ok (.putfield 502, 3) := by decide +kernel
theorem dX11_print_23 : decode cX11_print 23 = .ok (.aload_n 0, 1) := by decide +kernel
theorem dX11_print_24 : decode cX11_print 24 = .ok (.aload_n 0, 1) := by decide +kernel
theorem dX11_print_25 : decode cX11_print 25 = .ok (.getfield 138, 3) := by decide +kernel
theorem dX11_print_28 : decode cX11_print 28 = .ok (.aload_n 0, 1) := by decide +kernel
theorem dX11_print_29 : decode cX11_print 29 = .ok (.getfield 388, 3) := by decide +kernel
theorem dX11_print_32 : decode cX11_print 32 = .ok (.aload_n 0, 1) := by decide +kernel
theorem dX11_print_33 : decode cX11_print 33 = .ok (.getfield 141, 3) := by decide +kernel
theorem dX11_print_36 : decode cX11_print 36 = .ok (.invokevirtual 657, 3) := by decide +kernel
theorem dX11_print_39 : decode cX11_print 39 = .ok (.aload_n 0, 1) := by decide +kernel
theorem dX11_print_40 : decode cX11_print 40 = .ok (.aload_n 0, 1) := by decide +kernel
theorem dX11_print_41 : decode cX11_print 41 = .ok (.getfield 480, 3) := by decide +kernel
theorem dX11_print_44 : decode cX11_print 44 = .ok (.invokevirtual 401, 3) := by decide +kernel
theorem dX11_print_47 : decode cX11_print 47 = .ok (.ireturn, 1) := by decide +kernel
set_option maxRecDepth 10000 in
set_option maxHeartbeats 4000000 in
theorem A_X11_print_e {Z : az_Z} {d : Nat} (C : az_C Z yX11_print cX11_print 1 (some .int) d) (hD : 4 ≤ d) (n : Nat) {σ : az_Hp} {v0 : Int} {r : (Int × az_Hp)} (h : fz_X11_print n σ v0 = some r) : az_AW Z 1 0 [(13, v0)] [] σ (some (0, r.1), r.2) := by
  have hd1 : 1 ≤ d := by omega
  unfold fz_X11_print at h
  refine az_al0 (pc := 0) C rfl rfl dX11_print_0 ?_
  refine az_getI (pc := 1) C fl_X11_388 rfl dX11_print_1 ?_
  refine az_if_ne (pc := 4) (tgt := 13) C h dX11_print_4 (by decide) (fun _ h => ?_) (fun _ h => ?_)
  · refine az_al0 (pc := 13) C rfl rfl dX11_print_13 ?_
    refine az_ik0 (pc := 14) C dX11_print_14 ?_
    refine az_putI (pc := 15) C fl_X11_480 (Or.inl rfl) rfl dX11_print_15 ?_
    refine az_al0 (pc := 18) C rfl rfl dX11_print_18 ?_
    refine az_ik1 (pc := 19) C dX11_print_19 ?_
    refine az_putZc (pc := 20) C (by decide) fl_X11_502 (Or.inl rfl) rfl dX11_print_20 ?_
    refine az_al0 (pc := 23) C rfl rfl dX11_print_23 ?_
    refine az_al0 (pc := 24) C rfl rfl dX11_print_24 ?_
    refine az_getR (pc := 25) (c2 := 13) C h fl_X11_138 rfl rfl dX11_print_25 (fun h => ?_)
    refine az_al0 (pc := 28) C rfl rfl dX11_print_28 ?_
    refine az_getI (pc := 29) C fl_X11_388 rfl dX11_print_29 ?_
    refine az_al0 (pc := 32) C rfl rfl dX11_print_32 ?_
    refine az_getR (pc := 33) (c2 := 14) C h fl_X11_141 rfl rfl dX11_print_33 (fun h => ?_)
    refine az_cV3v (pc := 36) (c := 11) C hd1 h mv_X11_tellsRow ml_X11_657 rfl (fun x hx => A_X11_tellsRow (by omega) n hx) dX11_print_36 (fun r3 h => ?_)
    refine az_al0 (pc := 39) C rfl rfl dX11_print_39 ?_
    refine az_al0 (pc := 40) C rfl rfl dX11_print_40 ?_
    refine az_getI (pc := 41) C fl_X11_480 rfl dX11_print_41 ?_
    refine az_cV1ii (pc := 44) (c := 11) C hd1 h mv_X11_gives ml_X11_401 rfl (fun x hx => A_X11_gives (by omega) hx) dX11_print_44 (fun r4 h => ?_)
    obtain rfl := Option.some.inj h
    exact az_ireturn (pc := 47) C dX11_print_47 rfl
  refine az_al0 (pc := 7) C rfl rfl dX11_print_7 ?_
  refine az_ik3 (pc := 8) C dX11_print_8 ?_
  refine az_cV1ii (pc := 9) (c := 11) C hd1 h mv_X11_refuse ml_X11_372 rfl (fun x hx => A_X11_refuse (by omega) hx) dX11_print_9 (fun r5 h => ?_)
  obtain rfl := Option.some.inj h
  exact az_ireturn (pc := 12) C dX11_print_12 rfl
set_option maxRecDepth 10000 in
set_option maxHeartbeats 4000000 in
theorem A_X11_print {l : Launch} {d : Nat} (hD : 4 ≤ d) (n : Nat) {σ : az_Hp} {v0 : Int} {r : (Int × az_Hp)} (h : fz_X11_print n σ v0 = some r) : az_AC l yX11_print cX11_print 1 (some .int) d [(13, v0)] σ (some (0, r.1), r.2) := az_AC.of mt_X11_print rfl rfl rfl (fun Z hZ C => A_X11_print_e C hD n h)
theorem dX11_keepsTerm_0 : decode cX11_keepsTerm 0 = .ok (.aload_n 0, 1) := by decide +kernel
theorem dX11_keepsTerm_1 : decode cX11_keepsTerm 1 = .ok (.aload_n 0, 1) := by decide +kernel
theorem dX11_keepsTerm_2 : decode cX11_keepsTerm 2 = .ok (.getfield 601, 3) := by decide +kernel
theorem dX11_keepsTerm_5 : decode cX11_keepsTerm 5 = .ok (.putfield 388, 3) := by decide +kernel
theorem dX11_keepsTerm_8 : decode cX11_keepsTerm 8 = .ok (.iconst 0, 1) := by decide +kernel
theorem dX11_keepsTerm_9 : decode cX11_keepsTerm 9 = .ok (.istore_n 1, 1) := by decide +kernel
theorem dX11_keepsTerm_10 : decode cX11_keepsTerm 10 = .ok (.iload_n 1, 1) := by decide +kernel
theorem dX11_keepsTerm_11 : decode cX11_keepsTerm 11 = .ok (.aload_n 0, 1) := by decide +kernel
theorem dX11_keepsTerm_12 : decode cX11_keepsTerm 12 = .ok (.getfield 601, 3) := by decide +kernel
theorem dX11_keepsTerm_15 : decode cX11_keepsTerm 15 = .ok (.if_icmp .ge 21, 3) := by decide +kernel
theorem dX11_keepsTerm_18 : decode cX11_keepsTerm 18 = .ok (.aload_n 0, 1) := by decide +kernel
theorem dX11_keepsTerm_19 : decode cX11_keepsTerm 19 = .ok (.getfield 138, 3) := by decide +kernel
theorem dX11_keepsTerm_22 : decode cX11_keepsTerm 22 = .ok (.iload_n 1, 1) := by decide +kernel
theorem dX11_keepsTerm_23 : decode cX11_keepsTerm 23 = .ok (.aload_n 0, 1) := by decide +kernel
theorem dX11_keepsTerm_24 : decode cX11_keepsTerm 24 = .ok (.getfield 126, 3) := by decide +kernel
theorem dX11_keepsTerm_27 : decode cX11_keepsTerm 27 = .ok (.iload_n 1, 1) := by decide +kernel
theorem dX11_keepsTerm_28 : decode cX11_keepsTerm 28 = .ok (.iaload, 1) := by decide +kernel
theorem dX11_keepsTerm_29 : decode cX11_keepsTerm 29 = .ok (.iastore, 1) := by decide +kernel
theorem dX11_keepsTerm_30 : decode cX11_keepsTerm 30 = .ok (.iinc 1 1, 3) := by decide +kernel
theorem dX11_keepsTerm_33 : decode cX11_keepsTerm 33 = .ok (.goto (-23), 3) := by decide +kernel
theorem dX11_keepsTerm_36 : decode cX11_keepsTerm 36 = .ok (.return_, 1) := by decide +kernel
set_option maxRecDepth 10000 in
set_option maxHeartbeats 4000000 in
theorem A_X11_keepsTerm_10 {Z : az_Z} {d : Nat} (C : az_C Z yX11_keepsTerm cX11_keepsTerm 2 none d) (hD : 1 ≤ d) (n : Nat) (k : Nat) : ∀ {σ : az_Hp} {v0 v1 : Int} {r : az_Hp}, fz_X11_keepsTerm_10 n k σ v0 v1 = some r → az_AW Z 2 10 [(13, v0), (0, v1)] [] σ (none, r) := by
  have hd1 : 1 ≤ d := by omega
  induction k with
  | zero => intro σ v0 v1 r h; simp [fz_X11_keepsTerm_10] at h
  | succ k ih =>
    intro σ v0 v1 r h
    unfold fz_X11_keepsTerm_10 at h
    refine az_il1 (pc := 10) C dX11_keepsTerm_10 ?_
    refine az_al0 (pc := 11) C rfl rfl dX11_keepsTerm_11 ?_
    refine az_getI (pc := 12) C fl_X11_601 rfl dX11_keepsTerm_12 ?_
    refine az_icmp_ge (pc := 15) (tgt := 36) C h dX11_keepsTerm_15 (by decide) (fun _ h => ?_) (fun _ h => ?_)
    · obtain rfl := Option.some.inj h
      exact az_return (pc := 36) C dX11_keepsTerm_36 rfl
    refine az_al0 (pc := 18) C rfl rfl dX11_keepsTerm_18 ?_
    refine az_getR (pc := 19) (c2 := 13) C h fl_X11_138 rfl rfl dX11_keepsTerm_19 (fun h => ?_)
    refine az_il1 (pc := 22) C dX11_keepsTerm_22 ?_
    refine az_al0 (pc := 23) C rfl rfl dX11_keepsTerm_23 ?_
    refine az_getR (pc := 24) (c2 := 13) C h fl_X11_126 rfl rfl dX11_keepsTerm_24 (fun h => ?_)
    refine az_il1 (pc := 27) C dX11_keepsTerm_27 ?_
    refine az_iaload (pc := 28) C h dX11_keepsTerm_28 (fun h => ?_)
    refine az_iastore (pc := 29) C h dX11_keepsTerm_29 (fun h => ?_)
    refine az_ii1 (pc := 30) C az_n1 rfl rfl dX11_keepsTerm_30 ?_
    refine az_goto (pc := 33) (tgt := 10) C dX11_keepsTerm_33 (by decide) ?_
    exact (ih h)
set_option maxRecDepth 10000 in
set_option maxHeartbeats 4000000 in
theorem A_X11_keepsTerm_e {Z : az_Z} {d : Nat} (C : az_C Z yX11_keepsTerm cX11_keepsTerm 2 none d) (hD : 1 ≤ d) (n : Nat) {σ : az_Hp} {v0 : Int} {r : az_Hp} (h : fz_X11_keepsTerm n σ v0 = some r) : az_AW Z 2 0 [(13, v0), (31, 0)] [] σ (none, r) := by
  have hd1 : 1 ≤ d := by omega
  unfold fz_X11_keepsTerm at h
  refine az_al0 (pc := 0) C rfl rfl dX11_keepsTerm_0 ?_
  refine az_al0 (pc := 1) C rfl rfl dX11_keepsTerm_1 ?_
  refine az_getI (pc := 2) C fl_X11_601 rfl dX11_keepsTerm_2 ?_
  refine az_putI (pc := 5) C fl_X11_388 (Or.inl rfl) rfl dX11_keepsTerm_5 ?_
  refine az_ik0 (pc := 8) C dX11_keepsTerm_8 ?_
  refine az_is1 (pc := 9) C rfl rfl dX11_keepsTerm_9 ?_
  exact (A_X11_keepsTerm_10 C hD n n h)
set_option maxRecDepth 10000 in
set_option maxHeartbeats 4000000 in
theorem A_X11_keepsTerm {l : Launch} {d : Nat} (hD : 1 ≤ d) (n : Nat) {σ : az_Hp} {v0 : Int} {r : az_Hp} (h : fz_X11_keepsTerm n σ v0 = some r) : az_AC l yX11_keepsTerm cX11_keepsTerm 2 none d [(13, v0)] σ (none, r) := az_AC.of mt_X11_keepsTerm rfl rfl rfl (fun Z hZ C => A_X11_keepsTerm_e C hD n h)
theorem dX11_laysTerm_0 : decode cX11_laysTerm 0 = .ok (.aload_n 0, 1) := by decide +kernel
theorem dX11_laysTerm_1 : decode cX11_laysTerm 1 = .ok (.aload_n 0, 1) := by decide +kernel
theorem dX11_laysTerm_2 : decode cX11_laysTerm 2 = .ok (.getfield 388, 3) := by decide +kernel
theorem dX11_laysTerm_5 : decode cX11_laysTerm 5 = .ok (.putfield 601, 3) := by decide +kernel
theorem dX11_laysTerm_8 : decode cX11_laysTerm 8 = .ok (.iconst 0, 1) := by decide +kernel
theorem dX11_laysTerm_9 : decode cX11_laysTerm 9 = .ok (.istore_n 1, 1) := by decide +kernel
theorem dX11_laysTerm_10 : decode cX11_laysTerm 10 = .ok (.iload_n 1, 1) := by decide +kernel
theorem dX11_laysTerm_11 : decode cX11_laysTerm 11 = .ok (.aload_n 0, 1) := by decide +kernel
theorem dX11_laysTerm_12 : decode cX11_laysTerm 12 = .ok (.getfield 388, 3) := by decide +kernel
theorem dX11_laysTerm_15 : decode cX11_laysTerm 15 = .ok (.if_icmp .ge 21, 3) := by decide +kernel
theorem dX11_laysTerm_18 : decode cX11_laysTerm 18 = .ok (.aload_n 0, 1) := by decide +kernel
theorem dX11_laysTerm_19 : decode cX11_laysTerm 19 = .ok (.getfield 126, 3) := by decide +kernel
theorem dX11_laysTerm_22 : decode cX11_laysTerm 22 = .ok (.iload_n 1, 1) := by decide +kernel
theorem dX11_laysTerm_23 : decode cX11_laysTerm 23 = .ok (.aload_n 0, 1) := by decide +kernel
theorem dX11_laysTerm_24 : decode cX11_laysTerm 24 = .ok (.getfield 138, 3) := by decide +kernel
theorem dX11_laysTerm_27 : decode cX11_laysTerm 27 = .ok (.iload_n 1, 1) := by decide +kernel
theorem dX11_laysTerm_28 : decode cX11_laysTerm 28 = .ok (.iaload, 1) := by decide +kernel
theorem dX11_laysTerm_29 : decode cX11_laysTerm 29 = .ok (.iastore, 1) := by decide +kernel
theorem dX11_laysTerm_30 : decode cX11_laysTerm 30 = .ok (.iinc 1 1, 3) := by decide +kernel
theorem dX11_laysTerm_33 : decode cX11_laysTerm 33 = .ok (.goto (-23), 3) := by decide +kernel
theorem dX11_laysTerm_36 : decode cX11_laysTerm 36 = .ok (.aload_n 0, 1) := by decide +kernel
theorem dX11_laysTerm_37 : decode cX11_laysTerm 37 = .ok (.iconst 0, 1) := by decide +kernel
theorem dX11_laysTerm_38 : decode cX11_laysTerm 38 = .ok (.putfield 586, 3) := by decide +kernel
theorem dX11_laysTerm_41 : decode cX11_laysTerm 41 = .ok (.return_, 1) := by decide +kernel
set_option maxRecDepth 10000 in
set_option maxHeartbeats 4000000 in
theorem A_X11_laysTerm_10 {Z : az_Z} {d : Nat} (C : az_C Z yX11_laysTerm cX11_laysTerm 2 none d) (hD : 1 ≤ d) (n : Nat) (k : Nat) : ∀ {σ : az_Hp} {v0 v1 : Int} {r : az_Hp}, fz_X11_laysTerm_10 n k σ v0 v1 = some r → az_AW Z 2 10 [(13, v0), (0, v1)] [] σ (none, r) := by
  have hd1 : 1 ≤ d := by omega
  induction k with
  | zero => intro σ v0 v1 r h; simp [fz_X11_laysTerm_10] at h
  | succ k ih =>
    intro σ v0 v1 r h
    unfold fz_X11_laysTerm_10 at h
    refine az_il1 (pc := 10) C dX11_laysTerm_10 ?_
    refine az_al0 (pc := 11) C rfl rfl dX11_laysTerm_11 ?_
    refine az_getI (pc := 12) C fl_X11_388 rfl dX11_laysTerm_12 ?_
    refine az_icmp_ge (pc := 15) (tgt := 36) C h dX11_laysTerm_15 (by decide) (fun _ h => ?_) (fun _ h => ?_)
    · refine az_al0 (pc := 36) C rfl rfl dX11_laysTerm_36 ?_
      refine az_ik0 (pc := 37) C dX11_laysTerm_37 ?_
      refine az_putZc (pc := 38) C (by decide) fl_X11_586 (Or.inl rfl) rfl dX11_laysTerm_38 ?_
      obtain rfl := Option.some.inj h
      exact az_return (pc := 41) C dX11_laysTerm_41 rfl
    refine az_al0 (pc := 18) C rfl rfl dX11_laysTerm_18 ?_
    refine az_getR (pc := 19) (c2 := 13) C h fl_X11_126 rfl rfl dX11_laysTerm_19 (fun h => ?_)
    refine az_il1 (pc := 22) C dX11_laysTerm_22 ?_
    refine az_al0 (pc := 23) C rfl rfl dX11_laysTerm_23 ?_
    refine az_getR (pc := 24) (c2 := 13) C h fl_X11_138 rfl rfl dX11_laysTerm_24 (fun h => ?_)
    refine az_il1 (pc := 27) C dX11_laysTerm_27 ?_
    refine az_iaload (pc := 28) C h dX11_laysTerm_28 (fun h => ?_)
    refine az_iastore (pc := 29) C h dX11_laysTerm_29 (fun h => ?_)
    refine az_ii1 (pc := 30) C az_n1 rfl rfl dX11_laysTerm_30 ?_
    refine az_goto (pc := 33) (tgt := 10) C dX11_laysTerm_33 (by decide) ?_
    exact (ih h)
set_option maxRecDepth 10000 in
set_option maxHeartbeats 4000000 in
theorem A_X11_laysTerm_e {Z : az_Z} {d : Nat} (C : az_C Z yX11_laysTerm cX11_laysTerm 2 none d) (hD : 1 ≤ d) (n : Nat) {σ : az_Hp} {v0 : Int} {r : az_Hp} (h : fz_X11_laysTerm n σ v0 = some r) : az_AW Z 2 0 [(13, v0), (31, 0)] [] σ (none, r) := by
  have hd1 : 1 ≤ d := by omega
  unfold fz_X11_laysTerm at h
  refine az_al0 (pc := 0) C rfl rfl dX11_laysTerm_0 ?_
  refine az_al0 (pc := 1) C rfl rfl dX11_laysTerm_1 ?_
  refine az_getI (pc := 2) C fl_X11_388 rfl dX11_laysTerm_2 ?_
  refine az_putI (pc := 5) C fl_X11_601 (Or.inl rfl) rfl dX11_laysTerm_5 ?_
  refine az_ik0 (pc := 8) C dX11_laysTerm_8 ?_
  refine az_is1 (pc := 9) C rfl rfl dX11_laysTerm_9 ?_
  exact (A_X11_laysTerm_10 C hD n n h)
set_option maxRecDepth 10000 in
set_option maxHeartbeats 4000000 in
theorem A_X11_laysTerm {l : Launch} {d : Nat} (hD : 1 ≤ d) (n : Nat) {σ : az_Hp} {v0 : Int} {r : az_Hp} (h : fz_X11_laysTerm n σ v0 = some r) : az_AC l yX11_laysTerm cX11_laysTerm 2 none d [(13, v0)] σ (none, r) := az_AC.of mt_X11_laysTerm rfl rfl rfl (fun Z hZ C => A_X11_laysTerm_e C hD n h)
theorem dX11_doneAt_0 : decode cX11_doneAt 0 = .ok (.aload_n 0, 1) := by decide +kernel
theorem dX11_doneAt_1 : decode cX11_doneAt 1 = .ok (.getfield 126, 3) := by decide +kernel
theorem dX11_doneAt_4 : decode cX11_doneAt 4 = .ok (.iload_n 1, 1) := by decide +kernel
theorem dX11_doneAt_5 : decode cX11_doneAt 5 = .ok (.iaload, 1) := by decide +kernel
theorem dX11_doneAt_6 : decode cX11_doneAt 6 = .ok (.invokestatic 291, 3) := by decide +kernel
theorem dX11_doneAt_9 : decode cX11_doneAt 9 = .ok (.ifCond .ne 5, 3) := by decide +kernel
theorem dX11_doneAt_12 : decode cX11_doneAt 12 = .ok (.iconst (-1), 1) := by decide +kernel
theorem dX11_doneAt_13 : decode cX11_doneAt 13 = .ok (.ireturn, 1) := by decide +kernel
theorem dX11_doneAt_14 : decode cX11_doneAt 14 = .ok (.iconst 0, 1) := by decide +kernel
theorem dX11_doneAt_15 : decode cX11_doneAt 15 = .ok (.istore_n 2, 1) := by decide +kernel
theorem dX11_doneAt_16 : decode cX11_doneAt 16 = .ok (.iload_n 2, 1) := by decide +kernel
theorem dX11_doneAt_17 : decode cX11_doneAt 17 = .ok (.aload_n 0, 1) := by decide +kernel
theorem dX11_doneAt_18 : decode cX11_doneAt 18 = .ok (.getfield 583, 3) := by decide +kernel
theorem dX11_doneAt_21 : decode cX11_doneAt 21 = .ok (.if_icmp .ge 64, 3) := by decide +kernel
theorem dX11_doneAt_24 : decode cX11_doneAt 24 = .ok (.aload_n 0, 1) := by decide +kernel
theorem dX11_doneAt_25 : decode cX11_doneAt 25 = .ok (.getfield 586, 3) := by decide +kernel
theorem dX11_doneAt_28 : decode cX11_doneAt 28 = .ok (.ifCond .eq 57, 3) := by decide +kernel
theorem dX11_doneAt_31 : decode cX11_doneAt 31 = .ok (.aload_n 0, 1) := by decide +kernel
theorem dX11_doneAt_32 : decode cX11_doneAt 32 = .ok (.getfield 159, 3) := by decide +kernel
theorem dX11_doneAt_35 : decode cX11_doneAt 35 = .ok (.iload_n 2, 1) := by decide +kernel
theorem dX11_doneAt_36 : decode cX11_doneAt 36 = .ok (.iaload, 1) := by decide +kernel
theorem dX11_doneAt_37 : decode cX11_doneAt 37 = .ok (.aload_n 0, 1) := by decide +kernel
theorem dX11_doneAt_38 : decode cX11_doneAt 38 = .ok (.aload_n 0, 1) := by decide +kernel
theorem dX11_doneAt_39 : decode cX11_doneAt 39 = .ok (.getfield 126, 3) := by decide +kernel
theorem dX11_doneAt_42 : decode cX11_doneAt 42 = .ok (.iload_n 1, 1) := by decide +kernel
theorem dX11_doneAt_43 : decode cX11_doneAt 43 = .ok (.invokevirtual 416, 3) := by decide +kernel
theorem dX11_doneAt_46 : decode cX11_doneAt 46 = .ok (.if_icmp .ne 33, 3) := by decide +kernel
theorem dX11_doneAt_49 : decode cX11_doneAt 49 = .ok (.aload_n 0, 1) := by decide +kernel
theorem dX11_doneAt_50 : decode cX11_doneAt 50 = .ok (.getfield 126, 3) := by decide +kernel
theorem dX11_doneAt_53 : decode cX11_doneAt 53 = .ok (.iload_n 1, 1) := by decide +kernel
theorem dX11_doneAt_54 : decode cX11_doneAt 54 = .ok (.aload_n 0, 1) := by decide +kernel
theorem dX11_doneAt_55 : decode cX11_doneAt 55 = .ok (.getfield 153, 3) := by decide +kernel
theorem dX11_doneAt_58 : decode cX11_doneAt 58 = .ok (.bipush 30, 2) := by decide +kernel
theorem dX11_doneAt_60 : decode cX11_doneAt 60 = .ok (.iload_n 2, 1) := by decide +kernel
theorem dX11_doneAt_61 : decode cX11_doneAt 61 = .ok (.imul, 1) := by decide +kernel
theorem dX11_doneAt_62 : decode cX11_doneAt 62 = .ok (.aload_n 0, 1) := by decide +kernel
theorem dX11_doneAt_63 : decode cX11_doneAt 63 = .ok (.getfield 159, 3) := by decide +kernel
theorem dX11_doneAt_66 : decode cX11_doneAt 66 = .ok (.iload_n 2, 1) := by decide +kernel
theorem dX11_doneAt_67 : decode cX11_doneAt 67 = .ok (.iaload, 1) := by decide +kernel
theorem dX11_doneAt_68 : decode cX11_doneAt 68 = .ok (.invokestatic 420, 3) := by decide +kernel
theorem dX11_doneAt_71 : decode cX11_doneAt 71 = .ok (.ifCond .eq 8, 3) := by decide +kernel
theorem dX11_doneAt_74 : decode cX11_doneAt 74 = .ok (.bipush 100, 2) := by decide +kernel
theorem dX11_doneAt_76 : decode cX11_doneAt 76 = .ok (.iload_n 2, 1) := by decide +kernel
theorem dX11_doneAt_77 : decode cX11_doneAt 77 = .ok (.iadd, 1) := by decide +kernel
theorem dX11_doneAt_78 : decode cX11_doneAt 78 = .ok (.ireturn, 1) := by decide +kernel
theorem dX11_doneAt_79 : decode cX11_doneAt 79 = .ok (.iinc 2 1, 3) := by decide +kernel
theorem dX11_doneAt_82 : decode cX11_doneAt 82 = .ok (.goto (-66), 3) := by decide +kernel
theorem dX11_doneAt_85 : decode cX11_doneAt 85 = .ok (.aload_n 0, 1) := by decide +kernel
theorem dX11_doneAt_86 : decode cX11_doneAt 86 = .ok (.aload_n 0, 1) := by decide +kernel
theorem dX11_doneAt_87 : decode cX11_doneAt 87 = .ok (.getfield 126, 3) := by decide +kernel
theorem dX11_doneAt_90 : decode cX11_doneAt 90 = .ok (.iload_n 1, 1) := by decide +kernel
theorem dX11_doneAt_91 : decode cX11_doneAt 91 = .ok (.invokevirtual 589, 3) := by decide +kernel
theorem dX11_doneAt_94 : decode cX11_doneAt 94 = .ok (.ireturn, 1) := by decide +kernel
set_option maxRecDepth 10000 in
set_option maxHeartbeats 4000000 in
theorem A_X11_doneAt_16 {Z : az_Z} {d : Nat} (C : az_C Z yX11_doneAt cX11_doneAt 3 (some .int) d) (hD : 212 ≤ d) (n : Nat) (k : Nat) : ∀ {σ : az_Hp} {v0 v1 v2 : Int} {r : (Int × az_Hp)}, fz_X11_doneAt_16 n k σ v0 v1 v2 = some r → az_AW Z 3 16 [(13, v0), (0, v1), (0, v2)] [] σ (some (0, r.1), r.2) := by
  have hd1 : 1 ≤ d := by omega
  induction k with
  | zero => intro σ v0 v1 v2 r h; simp [fz_X11_doneAt_16] at h
  | succ k ih =>
    intro σ v0 v1 v2 r h
    unfold fz_X11_doneAt_16 at h
    refine az_il2 (pc := 16) C dX11_doneAt_16 ?_
    refine az_al0 (pc := 17) C rfl rfl dX11_doneAt_17 ?_
    refine az_getI (pc := 18) C fl_X11_583 rfl dX11_doneAt_18 ?_
    refine az_icmp_ge (pc := 21) (tgt := 85) C h dX11_doneAt_21 (by decide) (fun _ h => ?_) (fun _ h => ?_)
    · refine az_al0 (pc := 85) C rfl rfl dX11_doneAt_85 ?_
      refine az_al0 (pc := 86) C rfl rfl dX11_doneAt_86 ?_
      refine az_getR (pc := 87) (c2 := 13) C h fl_X11_126 rfl rfl dX11_doneAt_87 (fun h => ?_)
      refine az_il1 (pc := 90) C dX11_doneAt_90 ?_
      refine az_cV2ii (pc := 91) (c := 11) C hd1 h mv_X11_firing ml_X11_589 rfl (fun x hx => A_X11_firing (by omega) n hx) dX11_doneAt_91 (fun r2 h => ?_)
      obtain rfl := Option.some.inj h
      exact az_ireturn (pc := 94) C dX11_doneAt_94 rfl
    refine az_al0 (pc := 24) C rfl rfl dX11_doneAt_24 ?_
    refine az_getI (pc := 25) C fl_X11_586 rfl dX11_doneAt_25 ?_
    refine az_if_eq (pc := 28) (tgt := 85) C h dX11_doneAt_28 (by decide) (fun _ h => ?_) (fun _ h => ?_)
    · refine az_al0 (pc := 85) C rfl rfl dX11_doneAt_85 ?_
      refine az_al0 (pc := 86) C rfl rfl dX11_doneAt_86 ?_
      refine az_getR (pc := 87) (c2 := 13) C h fl_X11_126 rfl rfl dX11_doneAt_87 (fun h => ?_)
      refine az_il1 (pc := 90) C dX11_doneAt_90 ?_
      refine az_cV2ii (pc := 91) (c := 11) C hd1 h mv_X11_firing ml_X11_589 rfl (fun x hx => A_X11_firing (by omega) n hx) dX11_doneAt_91 (fun r4 h => ?_)
      obtain rfl := Option.some.inj h
      exact az_ireturn (pc := 94) C dX11_doneAt_94 rfl
    refine az_al0 (pc := 31) C rfl rfl dX11_doneAt_31 ?_
    refine az_getR (pc := 32) (c2 := 13) C h fl_X11_159 rfl rfl dX11_doneAt_32 (fun h => ?_)
    refine az_il2 (pc := 35) C dX11_doneAt_35 ?_
    refine az_iaload (pc := 36) C h dX11_doneAt_36 (fun h => ?_)
    refine az_al0 (pc := 37) C rfl rfl dX11_doneAt_37 ?_
    refine az_al0 (pc := 38) C rfl rfl dX11_doneAt_38 ?_
    refine az_getR (pc := 39) (c2 := 13) C h fl_X11_126 rfl rfl dX11_doneAt_39 (fun h => ?_)
    refine az_il1 (pc := 42) C dX11_doneAt_42 ?_
    refine az_cV2pi (pc := 43) (c := 11) C hd1 h mv_X11_sizeAt ml_X11_416 rfl (fun x hx => A_X11_sizeAt (by omega) n hx) dX11_doneAt_43 (fun r8 h => ?_)
    refine az_icmp_ne (pc := 46) (tgt := 79) C h dX11_doneAt_46 (by decide) (fun _ h => ?_) (fun _ h => ?_)
    · refine az_ii2 (pc := 79) C az_n1 rfl rfl dX11_doneAt_79 ?_
      refine az_goto (pc := 82) (tgt := 16) C dX11_doneAt_82 (by decide) ?_
      exact (ih h)
    refine az_al0 (pc := 49) C rfl rfl dX11_doneAt_49 ?_
    refine az_getR (pc := 50) (c2 := 13) C h fl_X11_126 rfl rfl dX11_doneAt_50 (fun h => ?_)
    refine az_il1 (pc := 53) C dX11_doneAt_53 ?_
    refine az_al0 (pc := 54) C rfl rfl dX11_doneAt_54 ?_
    refine az_getR (pc := 55) (c2 := 13) C h fl_X11_153 rfl rfl dX11_doneAt_55 (fun h => ?_)
    refine az_bk30 (pc := 58) C dX11_doneAt_58 ?_
    refine az_il2 (pc := 60) C dX11_doneAt_60 ?_
    refine az_imul (pc := 61) C dX11_doneAt_61 ?_
    refine az_al0 (pc := 62) C rfl rfl dX11_doneAt_62 ?_
    refine az_getR (pc := 63) (c2 := 13) C h fl_X11_159 rfl rfl dX11_doneAt_63 (fun h => ?_)
    refine az_il2 (pc := 66) C dX11_doneAt_66 ?_
    refine az_iaload (pc := 67) C h dX11_doneAt_67 (fun h => ?_)
    refine az_cS5pi (pc := 68) C hd1 h ms_X11_isSame ml_X11_420 rfl (fun x hx => A_X11_isSame (by omega) n hx) dX11_doneAt_68 (fun r13 h => ?_)
    refine az_if_eq (pc := 71) (tgt := 79) C h dX11_doneAt_71 (by decide) (fun _ h => ?_) (fun _ h => ?_)
    · refine az_ii2 (pc := 79) C az_n1 rfl rfl dX11_doneAt_79 ?_
      refine az_goto (pc := 82) (tgt := 16) C dX11_doneAt_82 (by decide) ?_
      exact (ih h)
    refine az_bk100 (pc := 74) C dX11_doneAt_74 ?_
    refine az_il2 (pc := 76) C dX11_doneAt_76 ?_
    refine az_iadd (pc := 77) C dX11_doneAt_77 ?_
    obtain rfl := Option.some.inj h
    exact az_ireturn (pc := 78) C dX11_doneAt_78 rfl
set_option maxRecDepth 10000 in
set_option maxHeartbeats 4000000 in
theorem A_X11_doneAt_e {Z : az_Z} {d : Nat} (C : az_C Z yX11_doneAt cX11_doneAt 3 (some .int) d) (hD : 212 ≤ d) (n : Nat) {σ : az_Hp} {v0 v1 : Int} {r : (Int × az_Hp)} (h : fz_X11_doneAt n σ v0 v1 = some r) : az_AW Z 3 0 [(13, v0), (0, v1), (31, 0)] [] σ (some (0, r.1), r.2) := by
  have hd1 : 1 ≤ d := by omega
  unfold fz_X11_doneAt at h
  refine az_al0 (pc := 0) C rfl rfl dX11_doneAt_0 ?_
  refine az_getR (pc := 1) (c2 := 13) C h fl_X11_126 rfl rfl dX11_doneAt_1 (fun h => ?_)
  refine az_il1 (pc := 4) C dX11_doneAt_4 ?_
  refine az_iaload (pc := 5) C h dX11_doneAt_5 (fun h => ?_)
  refine az_cS1pi (pc := 6) C hd1 h ms_X11_isFam ml_X11_291 rfl (fun x hx => A_X11_isFam (by omega) hx) dX11_doneAt_6 (fun r3 h => ?_)
  refine az_if_ne (pc := 9) (tgt := 14) C h dX11_doneAt_9 (by decide) (fun _ h => ?_) (fun _ h => ?_)
  · refine az_ik0 (pc := 14) C dX11_doneAt_14 ?_
    refine az_is2 (pc := 15) C rfl rfl dX11_doneAt_15 ?_
    exact (A_X11_doneAt_16 C hD n n h)
  refine az_ikm1 (pc := 12) C dX11_doneAt_12 ?_
  obtain rfl := Option.some.inj h
  exact az_ireturn (pc := 13) C dX11_doneAt_13 rfl
set_option maxRecDepth 10000 in
set_option maxHeartbeats 4000000 in
theorem A_X11_doneAt {l : Launch} {d : Nat} (hD : 212 ≤ d) (n : Nat) {σ : az_Hp} {v0 v1 : Int} {r : (Int × az_Hp)} (h : fz_X11_doneAt n σ v0 v1 = some r) : az_AC l yX11_doneAt cX11_doneAt 3 (some .int) d [(13, v0), (0, v1)] σ (some (0, r.1), r.2) := az_AC.of mt_X11_doneAt rfl rfl rfl (fun Z hZ C => A_X11_doneAt_e C hD n h)
theorem dX11_firstWithin_0 : decode cX11_firstWithin 0 = .ok (.iload_n 1, 1) := by decide +kernel
theorem dX11_firstWithin_1 : decode cX11_firstWithin 1 = .ok (.iconst 1, 1) := by decide +kernel
theorem dX11_firstWithin_2 : decode cX11_firstWithin 2 = .ok (.iadd, 1) := by decide +kernel
theorem dX11_firstWithin_3 : decode cX11_firstWithin 3 = .ok (.istore_n 2, 1) := by decide +kernel
theorem dX11_firstWithin_4 : decode cX11_firstWithin 4 = .ok (.iconst 0, 1) := by decide +kernel
theorem dX11_firstWithin_5 : decode cX11_firstWithin 5 = .ok (.istore_n 3, 1) := by decide +kernel
theorem dX11_firstWithin_6 : decode cX11_firstWithin 6 = .ok (.iload_n 3, 1) := by decide +kernel
theorem dX11_firstWithin_7 : decode cX11_firstWithin 7 = .ok (.aload_n 0, 1) := by decide +kernel
theorem dX11_firstWithin_8 : decode cX11_firstWithin 8 = .ok (.aload_n 0, 1) := by decide +kernel
theorem dX11_firstWithin_9 : decode cX11_firstWithin 9 = .ok (.getfield 126, 3) := by decide +kernel
theorem dX11_firstWithin_12 : decode cX11_firstWithin 12 = .ok (.iload_n 1, 1) := by decide +kernel
theorem dX11_firstWithin_13 : decode cX11_firstWithin 13 = .ok (.iaload, 1) := by decide +kernel
theorem dX11_firstWithin_14 : decode cX11_firstWithin 14 = .ok (.invokevirtual 336, 3) := by decide +kernel
theorem dX11_firstWithin_17 : decode cX11_firstWithin 17 = .ok (.if_icmp .ge 37, 3) := by decide +kernel
theorem dX11_firstWithin_20 : decode cX11_firstWithin 20 = .ok (.aload_n 0, 1) := by decide +kernel
theorem dX11_firstWithin_21 : decode cX11_firstWithin 21 = .ok (.iload_n 2, 1) := by decide +kernel
theorem dX11_firstWithin_22 : decode cX11_firstWithin 22 = .ok (.invokevirtual 592, 3) := by decide +kernel
theorem dX11_firstWithin_25 : decode cX11_firstWithin 25 = .ok (.istore 4, 2) := by decide +kernel
theorem dX11_firstWithin_27 : decode cX11_firstWithin 27 = .ok (.iload 4, 2) := by decide +kernel
theorem dX11_firstWithin_29 : decode cX11_firstWithin 29 = .ok (.iconst (-1), 1) := by decide +kernel
theorem dX11_firstWithin_30 : decode cX11_firstWithin 30 = .ok (.if_icmp .eq 6, 3) := by decide +kernel
theorem dX11_firstWithin_33 : decode cX11_firstWithin 33 = .ok (.iload 4, 2) := by decide +kernel
theorem dX11_firstWithin_35 : decode cX11_firstWithin 35 = .ok (.ireturn, 1) := by decide +kernel
theorem dX11_firstWithin_36 : decode cX11_firstWithin 36 = .ok (.iload_n 2, 1) := by decide +kernel
theorem dX11_firstWithin_37 : decode cX11_firstWithin 37 = .ok (.aload_n 0, 1) := by decide +kernel
theorem dX11_firstWithin_38 : decode cX11_firstWithin 38 = .ok (.aload_n 0, 1) := by decide +kernel
theorem dX11_firstWithin_39 : decode cX11_firstWithin 39 = .ok (.getfield 126, 3) := by decide +kernel
theorem dX11_firstWithin_42 : decode cX11_firstWithin 42 = .ok (.iload_n 2, 1) := by decide +kernel
theorem dX11_firstWithin_43 : decode cX11_firstWithin 43 = .ok (.invokevirtual 416, 3) := by decide +kernel
theorem dX11_firstWithin_46 : decode cX11_firstWithin 46 = .ok (.iadd, 1) := by decide +kernel
theorem dX11_firstWithin_47 : decode cX11_firstWithin 47 = .ok (.istore_n 2, 1) := by decide +kernel
theorem dX11_firstWithin_48 : decode cX11_firstWithin 48 = .ok (.iinc 3 1, 3) := by decide +kernel
theorem dX11_firstWithin_51 : decode cX11_firstWithin 51 = .ok (.goto (-45), 3) := by decide +kernel
theorem dX11_firstWithin_54 : decode cX11_firstWithin 54 = .ok (.aload_n 0, 1) := by decide +kernel
theorem dX11_firstWithin_55 : decode cX11_firstWithin 55 = .ok (.iload_n 1, 1) := by decide +kernel
theorem dX11_firstWithin_56 : decode cX11_firstWithin 56 = .ok (.putfield 595, 3) := by decide +kernel
theorem dX11_firstWithin_59 : decode cX11_firstWithin 59 = .ok (.aload_n 0, 1) := by decide +kernel
theorem dX11_firstWithin_60 : decode cX11_firstWithin 60 = .ok (.iload_n 1, 1) := by decide +kernel
theorem dX11_firstWithin_61 : decode cX11_firstWithin 61 = .ok (.invokevirtual 598, 3) := by decide +kernel
theorem dX11_firstWithin_64 : decode cX11_firstWithin 64 = .ok (.ireturn, 1) := by decide +kernel
set_option maxRecDepth 10000 in
set_option maxHeartbeats 4000000 in
theorem A_X11_firstWithin_6 {Z : az_Z} {d : Nat} (C : az_C Z yX11_firstWithin cX11_firstWithin 5 (some .int) d) (hD : 213 ≤ d) (n : Nat) {dr : Nat} {rec : az_Hp → Int → Int → Option (Int × az_Hp)} (hrec : ∀ {l : Launch} {d' : Nat}, dr ≤ d' → ∀ {σ : az_Hp} {u0 u1 : Int} {r : (Int × az_Hp)}, rec σ u0 u1 = some r → az_AC l yX11_firstWithin cX11_firstWithin 5 (some .int) d' [(13, u0), (0, u1)] σ (some (0, r.1), r.2)) (hr : dr + 1 ≤ d) (k : Nat) : ∀ {σ : az_Hp} {v0 v1 v2 v3 : Int} {r : (Int × az_Hp)}, fz_X11_firstWithin_6 n rec k σ v0 v1 v2 v3 = some r → az_AW Z 5 6 [(13, v0), (0, v1), (0, v2), (0, v3), (31, 0)] [] σ (some (0, r.1), r.2) := by
  have hd1 : 1 ≤ d := by omega
  induction k with
  | zero => intro σ v0 v1 v2 v3 r h; simp [fz_X11_firstWithin_6] at h
  | succ k ih =>
    intro σ v0 v1 v2 v3 r h
    unfold fz_X11_firstWithin_6 at h
    refine az_il3 (pc := 6) C dX11_firstWithin_6 ?_
    refine az_al0 (pc := 7) C rfl rfl dX11_firstWithin_7 ?_
    refine az_al0 (pc := 8) C rfl rfl dX11_firstWithin_8 ?_
    refine az_getR (pc := 9) (c2 := 13) C h fl_X11_126 rfl rfl dX11_firstWithin_9 (fun h => ?_)
    refine az_il1 (pc := 12) C dX11_firstWithin_12 ?_
    refine az_iaload (pc := 13) C h dX11_firstWithin_13 (fun h => ?_)
    refine az_cV1pi (pc := 14) (c := 11) C hd1 h mv_X11_takes ml_X11_336 rfl (fun x hx => A_X11_takes (by omega) hx) dX11_firstWithin_14 (fun r3 h => ?_)
    refine az_icmp_ge (pc := 17) (tgt := 54) C h dX11_firstWithin_17 (by decide) (fun _ h => ?_) (fun _ h => ?_)
    · refine az_al0 (pc := 54) C rfl rfl dX11_firstWithin_54 ?_
      refine az_il1 (pc := 55) C dX11_firstWithin_55 ?_
      refine az_putI (pc := 56) C fl_X11_595 (Or.inl rfl) rfl dX11_firstWithin_56 ?_
      refine az_al0 (pc := 59) C rfl rfl dX11_firstWithin_59 ?_
      refine az_il1 (pc := 60) C dX11_firstWithin_60 ?_
      refine az_cV1ii (pc := 61) (c := 11) C hd1 h mv_X11_doneAt ml_X11_598 rfl (fun x hx => A_X11_doneAt (by omega) n hx) dX11_firstWithin_61 (fun r4 h => ?_)
      obtain rfl := Option.some.inj h
      exact az_ireturn (pc := 64) C dX11_firstWithin_64 rfl
    refine az_al0 (pc := 20) C rfl rfl dX11_firstWithin_20 ?_
    refine az_il2 (pc := 21) C dX11_firstWithin_21 ?_
    refine az_cV1ii (pc := 22) (c := 11) C hd1 h mv_X11_firstWithin ml_X11_592 rfl (fun x hx => hrec (by omega) hx) dX11_firstWithin_22 (fun r5 h => ?_)
    refine az_is4 (pc := 25) C rfl rfl dX11_firstWithin_25 ?_
    refine az_il4 (pc := 27) C dX11_firstWithin_27 ?_
    refine az_ikm1 (pc := 29) C dX11_firstWithin_29 ?_
    refine az_icmp_eq (pc := 30) (tgt := 36) C h dX11_firstWithin_30 (by decide) (fun _ h => ?_) (fun _ h => ?_)
    · refine az_il2 (pc := 36) C dX11_firstWithin_36 ?_
      refine az_al0 (pc := 37) C rfl rfl dX11_firstWithin_37 ?_
      refine az_al0 (pc := 38) C rfl rfl dX11_firstWithin_38 ?_
      refine az_getR (pc := 39) (c2 := 13) C h fl_X11_126 rfl rfl dX11_firstWithin_39 (fun h => ?_)
      refine az_il2 (pc := 42) C dX11_firstWithin_42 ?_
      refine az_cV2pi (pc := 43) (c := 11) C hd1 h mv_X11_sizeAt ml_X11_416 rfl (fun x hx => A_X11_sizeAt (by omega) n hx) dX11_firstWithin_43 (fun r7 h => ?_)
      refine az_iadd (pc := 46) C dX11_firstWithin_46 ?_
      refine az_is2 (pc := 47) C rfl rfl dX11_firstWithin_47 ?_
      refine az_ii3 (pc := 48) C az_n1 rfl rfl dX11_firstWithin_48 ?_
      refine az_goto (pc := 51) (tgt := 6) C dX11_firstWithin_51 (by decide) ?_
      exact (az_wkk (ih h) (az_sE (az_sE (az_sE (az_sE (az_sJ az_sN))))))
    refine az_il4 (pc := 33) C dX11_firstWithin_33 ?_
    obtain rfl := Option.some.inj h
    exact az_ireturn (pc := 35) C dX11_firstWithin_35 rfl
set_option maxRecDepth 10000 in
set_option maxHeartbeats 4000000 in
theorem A_X11_firstWithin_e {Z : az_Z} {d : Nat} (C : az_C Z yX11_firstWithin cX11_firstWithin 5 (some .int) d) (hD : 213 ≤ d) (n : Nat) {dr : Nat} {rec : az_Hp → Int → Int → Option (Int × az_Hp)} (hrec : ∀ {l : Launch} {d' : Nat}, dr ≤ d' → ∀ {σ : az_Hp} {u0 u1 : Int} {r : (Int × az_Hp)}, rec σ u0 u1 = some r → az_AC l yX11_firstWithin cX11_firstWithin 5 (some .int) d' [(13, u0), (0, u1)] σ (some (0, r.1), r.2)) (hr : dr + 1 ≤ d) {σ : az_Hp} {v0 v1 : Int} {r : (Int × az_Hp)} (h : fz_X11_firstWithin_e n rec σ v0 v1 = some r) : az_AW Z 5 0 [(13, v0), (0, v1), (31, 0), (31, 0), (31, 0)] [] σ (some (0, r.1), r.2) := by
  have hd1 : 1 ≤ d := by omega
  unfold fz_X11_firstWithin_e at h
  refine az_il1 (pc := 0) C dX11_firstWithin_0 ?_
  refine az_ik1 (pc := 1) C dX11_firstWithin_1 ?_
  refine az_iadd (pc := 2) C dX11_firstWithin_2 ?_
  refine az_is2 (pc := 3) C rfl rfl dX11_firstWithin_3 ?_
  refine az_ik0 (pc := 4) C dX11_firstWithin_4 ?_
  refine az_is3 (pc := 5) C rfl rfl dX11_firstWithin_5 ?_
  exact (A_X11_firstWithin_6 C hD n hrec hr n h)
set_option maxRecDepth 10000 in
set_option maxHeartbeats 4000000 in
theorem A_X11_firstWithin {l : Launch} (n : Nat) (D : Nat) : ∀ {d : Nat}, 213 + 1 * D ≤ d → ∀ {σ : az_Hp} {v0 v1 : Int} {r : (Int × az_Hp)}, fz_X11_firstWithin n D σ v0 v1 = some r → az_AC l yX11_firstWithin cX11_firstWithin 5 (some .int) d [(13, v0), (0, v1)] σ (some (0, r.1), r.2) := by
  induction D generalizing l with
  | zero => intro d hD σ v0 v1 r h; simp [fz_X11_firstWithin] at h
  | succ D ih =>
    intro d hD σ v0 v1 r h
    unfold fz_X11_firstWithin at h
    exact az_AC.of mt_X11_firstWithin rfl rfl rfl (fun Z hZ C => A_X11_firstWithin_e C (by omega) n (dr := 213 + 1 * D) (fun hd => ih hd) (by omega) h)
