theorem dX11_takes_0 : decode cX11_takes 0 = .ok (.iload_n 1, 1) := by decide +kernel
theorem dX11_takes_1 : decode cX11_takes 1 = .ok (.invokestatic 288, 3) := by decide +kernel
theorem dX11_takes_4 : decode cX11_takes 4 = .ok (.ifCond .eq 7, 3) := by decide +kernel
theorem dX11_takes_7 : decode cX11_takes 7 = .ok (.iconst 0, 1) := by decide +kernel
theorem dX11_takes_8 : decode cX11_takes 8 = .ok (.goto 47, 3) := by decide +kernel
theorem dX11_takes_11 : decode cX11_takes 11 = .ok (.iload_n 1, 1) := by decide +kernel
theorem dX11_takes_12 : decode cX11_takes 12 = .ok (.invokestatic 291, 3) := by decide +kernel
theorem dX11_takes_15 : decode cX11_takes 15 = .ok (.ifCond .eq 23, 3) := by decide +kernel
theorem dX11_takes_18 : decode cX11_takes 18 = .ok (.aload_n 0, 1) := by decide +kernel
theorem dX11_takes_19 : decode cX11_takes 19 = .ok (.getfield 39, 3) := by decide +kernel
theorem dX11_takes_22 : decode cX11_takes 22 = .ok (.iconst 5, 1) := by decide +kernel
theorem dX11_takes_23 : decode cX11_takes 23 = .ok (.aload_n 0, 1) := by decide +kernel
theorem dX11_takes_24 : decode cX11_takes 24 = .ok (.getfield 285, 3) := by decide +kernel
theorem dX11_takes_27 : decode cX11_takes 27 = .ok (.imul, 1) := by decide +kernel
theorem dX11_takes_28 : decode cX11_takes 28 = .ok (.iload_n 1, 1) := by decide +kernel
theorem dX11_takes_29 : decode cX11_takes 29 = .ok (.iadd, 1) := by decide +kernel
theorem dX11_takes_30 : decode cX11_takes 30 = .ok (.sipush 200, 3) := by decide +kernel
theorem dX11_takes_33 : decode cX11_takes 33 = .ok (.isub, 1) := by decide +kernel
theorem dX11_takes_34 : decode cX11_takes 34 = .ok (.iaload, 1) := by decide +kernel
theorem dX11_takes_35 : decode cX11_takes 35 = .ok (.goto 20, 3) := by decide +kernel
theorem dX11_takes_38 : decode cX11_takes 38 = .ok (.aload_n 0, 1) := by decide +kernel
theorem dX11_takes_39 : decode cX11_takes 39 = .ok (.getfield 36, 3) := by decide +kernel
theorem dX11_takes_42 : decode cX11_takes 42 = .ok (.bipush 8, 2) := by decide +kernel
theorem dX11_takes_44 : decode cX11_takes 44 = .ok (.aload_n 0, 1) := by decide +kernel
theorem dX11_takes_45 : decode cX11_takes 45 = .ok (.getfield 285, 3) := by decide +kernel
theorem dX11_takes_48 : decode cX11_takes 48 = .ok (.imul, 1) := by decide +kernel
theorem dX11_takes_49 : decode cX11_takes 49 = .ok (.iload_n 1, 1) := by decide +kernel
theorem dX11_takes_50 : decode cX11_takes 50 = .ok (.iadd, 1) := by decide +kernel
theorem dX11_takes_51 : decode cX11_takes 51 = .ok (.bipush 100, 2) := by decide +kernel
theorem dX11_takes_53 : decode cX11_takes 53 = .ok (.isub, 1) := by decide +kernel
theorem dX11_takes_54 : decode cX11_takes 54 = .ok (.iaload, 1) := by decide +kernel
theorem dX11_takes_55 : decode cX11_takes 55 = .ok (.ireturn, 1) := by decide +kernel
set_option maxRecDepth 10000 in
set_option maxHeartbeats 4000000 in
theorem A_X11_takes_e {Z : az_Z} {d : Nat} (C : az_C Z yX11_takes cX11_takes 2 (some .int) d) (hD : 2 ≤ d) {σ : az_Hp} {v0 v1 : Int} {r : Int} (h : fz_X11_takes σ v0 v1 = some r) : az_AW Z 2 0 [(13, v0), (0, v1)] [] σ (some (0, r), σ) := by
  have hd1 : 1 ≤ d := by omega
  unfold fz_X11_takes at h
  refine az_il1 (pc := 0) C dX11_takes_0 ?_
  refine az_cS1pi (pc := 1) C hd1 h ms_X11_isVar ml_X11_288 rfl (fun x hx => A_X11_isVar (by omega) hx) dX11_takes_1 (fun r1 h => ?_)
  refine az_if_eq (pc := 4) (tgt := 11) C h dX11_takes_4 (by decide) (fun _ h => ?_) (fun _ h => ?_)
  · refine az_il1 (pc := 11) C dX11_takes_11 ?_
    refine az_cS1pi (pc := 12) C hd1 h ms_X11_isFam ml_X11_291 rfl (fun x hx => A_X11_isFam (by omega) hx) dX11_takes_12 (fun r2 h => ?_)
    refine az_if_eq (pc := 15) (tgt := 38) C h dX11_takes_15 (by decide) (fun _ h => ?_) (fun _ h => ?_)
    · refine az_al0 (pc := 38) C rfl rfl dX11_takes_38 ?_
      refine az_getR (pc := 39) (c2 := 13) C h fl_X11_36 rfl rfl dX11_takes_39 (fun h => ?_)
      refine az_bk8 (pc := 42) C dX11_takes_42 ?_
      refine az_al0 (pc := 44) C rfl rfl dX11_takes_44 ?_
      refine az_getI (pc := 45) C fl_X11_285 rfl dX11_takes_45 ?_
      refine az_imul (pc := 48) C dX11_takes_48 ?_
      refine az_il1 (pc := 49) C dX11_takes_49 ?_
      refine az_iadd (pc := 50) C dX11_takes_50 ?_
      refine az_bk100 (pc := 51) C dX11_takes_51 ?_
      refine az_isub (pc := 53) C dX11_takes_53 ?_
      refine az_iaload (pc := 54) C h dX11_takes_54 (fun h => ?_)
      obtain rfl := Option.some.inj h
      exact az_ireturn (pc := 55) C dX11_takes_55 rfl
    refine az_al0 (pc := 18) C rfl rfl dX11_takes_18 ?_
    refine az_getR (pc := 19) (c2 := 13) C h fl_X11_39 rfl rfl dX11_takes_19 (fun h => ?_)
    refine az_ik5 (pc := 22) C dX11_takes_22 ?_
    refine az_al0 (pc := 23) C rfl rfl dX11_takes_23 ?_
    refine az_getI (pc := 24) C fl_X11_285 rfl dX11_takes_24 ?_
    refine az_imul (pc := 27) C dX11_takes_27 ?_
    refine az_il1 (pc := 28) C dX11_takes_28 ?_
    refine az_iadd (pc := 29) C dX11_takes_29 ?_
    refine az_sk200 (pc := 30) C dX11_takes_30 ?_
    refine az_isub (pc := 33) C dX11_takes_33 ?_
    refine az_iaload (pc := 34) C h dX11_takes_34 (fun h => ?_)
    refine az_goto (pc := 35) (tgt := 55) C dX11_takes_35 (by decide) ?_
    obtain rfl := Option.some.inj h
    exact az_ireturn (pc := 55) C dX11_takes_55 rfl
  refine az_ik0 (pc := 7) C dX11_takes_7 ?_
  refine az_goto (pc := 8) (tgt := 55) C dX11_takes_8 (by decide) ?_
  obtain rfl := Option.some.inj h
  exact az_ireturn (pc := 55) C dX11_takes_55 rfl
set_option maxRecDepth 10000 in
set_option maxHeartbeats 4000000 in
theorem A_X11_takes {l : Launch} {d : Nat} (hD : 2 ≤ d) {σ : az_Hp} {v0 v1 : Int} {r : Int} (h : fz_X11_takes σ v0 v1 = some r) : az_AC l yX11_takes cX11_takes 2 (some .int) d [(13, v0), (0, v1)] σ (some (0, r), σ) := az_AC.of mt_X11_takes rfl rfl rfl (fun Z hZ C => A_X11_takes_e C hD h)
theorem dX11_areSame_0 : decode cX11_areSame 0 = .ok (.aload_n 0, 1) := by decide +kernel
theorem dX11_areSame_1 : decode cX11_areSame 1 = .ok (.iload_n 1, 1) := by decide +kernel
theorem dX11_areSame_2 : decode cX11_areSame 2 = .ok (.invokevirtual 438, 3) := by decide +kernel
theorem dX11_areSame_5 : decode cX11_areSame 5 = .ok (.istore_n 3, 1) := by decide +kernel
theorem dX11_areSame_6 : decode cX11_areSame 6 = .ok (.aload_n 0, 1) := by decide +kernel
theorem dX11_areSame_7 : decode cX11_areSame 7 = .ok (.iload_n 2, 1) := by decide +kernel
theorem dX11_areSame_8 : decode cX11_areSame 8 = .ok (.invokevirtual 438, 3) := by decide +kernel
theorem dX11_areSame_11 : decode cX11_areSame 11 = .ok (.istore 4, 2) := by decide +kernel
theorem dX11_areSame_13 : decode cX11_areSame 13 = .ok (.iload_n 3, 1) := by decide +kernel
theorem dX11_areSame_14 : decode cX11_areSame 14 = .ok (.iload 4, 2) := by decide +kernel
theorem dX11_areSame_16 : decode cX11_areSame 16 = .ok (.if_icmp .ne 5, 3) := by decide +kernel
theorem dX11_areSame_19 : decode cX11_areSame 19 = .ok (.iconst 1, 1) := by decide +kernel
theorem dX11_areSame_20 : decode cX11_areSame 20 = .ok (.ireturn, 1) := by decide +kernel
theorem dX11_areSame_21 : decode cX11_areSame 21 = .ok (.aload_n 0, 1) := by decide +kernel
theorem dX11_areSame_22 : decode cX11_areSame 22 = .ok (.getfield 73, 3) := by decide +kernel
theorem dX11_areSame_25 : decode cX11_areSame 25 = .ok (.iload_n 3, 1) := by decide +kernel
theorem dX11_areSame_26 : decode cX11_areSame 26 = .ok (.iaload, 1) := by decide +kernel
theorem dX11_areSame_27 : decode cX11_areSame 27 = .ok (.aload_n 0, 1) := by decide +kernel
theorem dX11_areSame_28 : decode cX11_areSame 28 = .ok (.getfield 73, 3) := by decide +kernel
theorem dX11_areSame_31 : decode cX11_areSame 31 = .ok (.iload 4, 2) := by decide +kernel
theorem dX11_areSame_33 : decode cX11_areSame 33 = .ok (.iaload, 1) := by decide +kernel
theorem dX11_areSame_34 : decode cX11_areSame 34 = .ok (.if_icmp .ne 15, 3) := by decide +kernel
theorem dX11_areSame_37 : decode cX11_areSame 37 = .ok (.aload_n 0, 1) := by decide +kernel
theorem dX11_areSame_38 : decode cX11_areSame 38 = .ok (.getfield 73, 3) := by decide +kernel
theorem dX11_areSame_41 : decode cX11_areSame 41 = .ok (.iload_n 3, 1) := by decide +kernel
theorem dX11_areSame_42 : decode cX11_areSame 42 = .ok (.iaload, 1) := by decide +kernel
theorem dX11_areSame_43 : decode cX11_areSame 43 = .ok (.invokestatic 288, 3) := by decide +kernel
theorem dX11_areSame_46 : decode cX11_areSame 46 = .ok (.ifCond .eq 5, 3) := by decide +kernel
theorem dX11_areSame_49 : decode cX11_areSame 49 = .ok (.iconst 0, 1) := by decide +kernel
theorem dX11_areSame_50 : decode cX11_areSame 50 = .ok (.ireturn, 1) := by decide +kernel
theorem dX11_areSame_51 : decode cX11_areSame 51 = .ok (.iconst 0, 1) := by decide +kernel
theorem dX11_areSame_52 : decode cX11_areSame 52 = .ok (.istore 5, 2) := by decide +kernel
theorem dX11_areSame_54 : decode cX11_areSame 54 = .ok (.iload 5, 2) := by decide +kernel
theorem dX11_areSame_56 : decode cX11_areSame 56 = .ok (.aload_n 0, 1) := by decide +kernel
theorem dX11_areSame_57 : decode cX11_areSame 57 = .ok (.aload_n 0, 1) := by decide +kernel
theorem dX11_areSame_58 : decode cX11_areSame 58 = .ok (.getfield 73, 3) := by decide +kernel
theorem dX11_areSame_61 : decode cX11_areSame 61 = .ok (.iload_n 3, 1) := by decide +kernel
theorem dX11_areSame_62 : decode cX11_areSame 62 = .ok (.iaload, 1) := by decide +kernel
theorem dX11_areSame_63 : decode cX11_areSame 63 = .ok (.invokevirtual 336, 3) := by decide +kernel
theorem dX11_areSame_66 : decode cX11_areSame 66 = .ok (.if_icmp .ge 41, 3) := by decide +kernel
theorem dX11_areSame_69 : decode cX11_areSame 69 = .ok (.aload_n 0, 1) := by decide +kernel
theorem dX11_areSame_70 : decode cX11_areSame 70 = .ok (.aload_n 0, 1) := by decide +kernel
theorem dX11_areSame_71 : decode cX11_areSame 71 = .ok (.getfield 76, 3) := by decide +kernel
theorem dX11_areSame_74 : decode cX11_areSame 74 = .ok (.iconst 3, 1) := by decide +kernel
theorem dX11_areSame_75 : decode cX11_areSame 75 = .ok (.iload_n 3, 1) := by decide +kernel
theorem dX11_areSame_76 : decode cX11_areSame 76 = .ok (.imul, 1) := by decide +kernel
theorem dX11_areSame_77 : decode cX11_areSame 77 = .ok (.iload 5, 2) := by decide +kernel
theorem dX11_areSame_79 : decode cX11_areSame 79 = .ok (.iadd, 1) := by decide +kernel
theorem dX11_areSame_80 : decode cX11_areSame 80 = .ok (.iaload, 1) := by decide +kernel
theorem dX11_areSame_81 : decode cX11_areSame 81 = .ok (.aload_n 0, 1) := by decide +kernel
theorem dX11_areSame_82 : decode cX11_areSame 82 = .ok (.getfield 76, 3) := by decide +kernel
theorem dX11_areSame_85 : decode cX11_areSame 85 = .ok (.iconst 3, 1) := by decide +kernel
theorem dX11_areSame_86 : decode cX11_areSame 86 = .ok (.iload 4, 2) := by decide +kernel
theorem dX11_areSame_88 : decode cX11_areSame 88 = .ok (.imul, 1) := by decide +kernel
theorem dX11_areSame_89 : decode cX11_areSame 89 = .ok (.iload 5, 2) := by decide +kernel
theorem dX11_areSame_91 : decode cX11_areSame 91 = .ok (.iadd, 1) := by decide +kernel
theorem dX11_areSame_92 : decode cX11_areSame 92 = .ok (.iaload, 1) := by decide +kernel
theorem dX11_areSame_93 : decode cX11_areSame 93 = .ok (.invokevirtual 448, 3) := by decide +kernel
theorem dX11_areSame_96 : decode cX11_areSame 96 = .ok (.ifCond .ne 5, 3) := by decide +kernel
theorem dX11_areSame_99 : decode cX11_areSame 99 = .ok (.iconst 0, 1) := by decide +kernel
theorem dX11_areSame_100 : decode cX11_areSame 100 = .ok (.ireturn, 1) := by decide +kernel
theorem dX11_areSame_101 : decode cX11_areSame 101 = .ok (.iinc 5 1, 3) := by decide +kernel
theorem dX11_areSame_104 : decode cX11_areSame 104 = .ok (.goto (-50), 3) := by decide +kernel
theorem dX11_areSame_107 : decode cX11_areSame 107 = .ok (.iconst 1, 1) := by decide +kernel
theorem dX11_areSame_108 : decode cX11_areSame 108 = .ok (.ireturn, 1) := by decide +kernel
set_option maxRecDepth 10000 in
set_option maxHeartbeats 4000000 in
theorem A_X11_areSame_54 {Z : az_Z} {d : Nat} (C : az_C Z yX11_areSame cX11_areSame 6 (some .boolean) d) (hD : 3 ≤ d) (n : Nat) {dr : Nat} {rec : az_Hp → Int → Int → Int → Option Int} (hrec : ∀ {l : Launch} {d' : Nat}, dr ≤ d' → ∀ {σ : az_Hp} {u0 u1 u2 : Int} {r : Int}, rec σ u0 u1 u2 = some r → az_AC l yX11_areSame cX11_areSame 6 (some .boolean) d' [(13, u0), (0, u1), (0, u2)] σ (some (0, r), σ)) (hr : dr + 1 ≤ d) (k : Nat) : ∀ {σ : az_Hp} {v0 v3 v4 v5 : Int} {r : Int}, fz_X11_areSame_54 n rec k σ v0 v3 v4 v5 = some r → az_AW Z 6 54 [(13, v0), (31, 0), (31, 0), (0, v3), (0, v4), (0, v5)] [] σ (some (0, r), σ) := by
  have hd1 : 1 ≤ d := by omega
  induction k with
  | zero => intro σ v0 v3 v4 v5 r h; simp [fz_X11_areSame_54] at h
  | succ k ih =>
    intro σ v0 v3 v4 v5 r h
    unfold fz_X11_areSame_54 at h
    refine az_il5 (pc := 54) C dX11_areSame_54 ?_
    refine az_al0 (pc := 56) C rfl rfl dX11_areSame_56 ?_
    refine az_al0 (pc := 57) C rfl rfl dX11_areSame_57 ?_
    refine az_getR (pc := 58) (c2 := 13) C h fl_X11_73 rfl rfl dX11_areSame_58 (fun h => ?_)
    refine az_il3 (pc := 61) C dX11_areSame_61 ?_
    refine az_iaload (pc := 62) C h dX11_areSame_62 (fun h => ?_)
    refine az_cV1pi (pc := 63) (c := 11) C hd1 h mv_X11_takes ml_X11_336 rfl (fun x hx => A_X11_takes (by omega) hx) dX11_areSame_63 (fun r3 h => ?_)
    refine az_icmp_ge (pc := 66) (tgt := 107) C h dX11_areSame_66 (by decide) (fun _ h => ?_) (fun _ h => ?_)
    · refine az_ik1 (pc := 107) C dX11_areSame_107 ?_
      obtain rfl := Option.some.inj h
      exact az_zreturn (pc := 108) C (by decide) dX11_areSame_108 rfl
    refine az_al0 (pc := 69) C rfl rfl dX11_areSame_69 ?_
    refine az_al0 (pc := 70) C rfl rfl dX11_areSame_70 ?_
    refine az_getR (pc := 71) (c2 := 13) C h fl_X11_76 rfl rfl dX11_areSame_71 (fun h => ?_)
    refine az_ik3 (pc := 74) C dX11_areSame_74 ?_
    refine az_il3 (pc := 75) C dX11_areSame_75 ?_
    refine az_imul (pc := 76) C dX11_areSame_76 ?_
    refine az_il5 (pc := 77) C dX11_areSame_77 ?_
    refine az_iadd (pc := 79) C dX11_areSame_79 ?_
    refine az_iaload (pc := 80) C h dX11_areSame_80 (fun h => ?_)
    refine az_al0 (pc := 81) C rfl rfl dX11_areSame_81 ?_
    refine az_getR (pc := 82) (c2 := 13) C h fl_X11_76 rfl rfl dX11_areSame_82 (fun h => ?_)
    refine az_ik3 (pc := 85) C dX11_areSame_85 ?_
    refine az_il4 (pc := 86) C dX11_areSame_86 ?_
    refine az_imul (pc := 88) C dX11_areSame_88 ?_
    refine az_il5 (pc := 89) C dX11_areSame_89 ?_
    refine az_iadd (pc := 91) C dX11_areSame_91 ?_
    refine az_iaload (pc := 92) C h dX11_areSame_92 (fun h => ?_)
    refine az_cV2pi (pc := 93) (c := 11) C hd1 h mv_X11_areSame ml_X11_448 rfl (fun x hx => hrec (by omega) hx) dX11_areSame_93 (fun r8 h => ?_)
    refine az_if_ne (pc := 96) (tgt := 101) C h dX11_areSame_96 (by decide) (fun _ h => ?_) (fun _ h => ?_)
    · refine az_ii5 (pc := 101) C az_n1 rfl rfl dX11_areSame_101 ?_
      refine az_goto (pc := 104) (tgt := 54) C dX11_areSame_104 (by decide) ?_
      exact (ih h)
    refine az_ik0 (pc := 99) C dX11_areSame_99 ?_
    obtain rfl := Option.some.inj h
    exact az_zreturn (pc := 100) C (by decide) dX11_areSame_100 rfl
set_option maxRecDepth 10000 in
set_option maxHeartbeats 4000000 in
theorem A_X11_areSame_e {Z : az_Z} {d : Nat} (C : az_C Z yX11_areSame cX11_areSame 6 (some .boolean) d) (hD : 3 ≤ d) (n : Nat) {dr : Nat} {rec : az_Hp → Int → Int → Int → Option Int} (hrec : ∀ {l : Launch} {d' : Nat}, dr ≤ d' → ∀ {σ : az_Hp} {u0 u1 u2 : Int} {r : Int}, rec σ u0 u1 u2 = some r → az_AC l yX11_areSame cX11_areSame 6 (some .boolean) d' [(13, u0), (0, u1), (0, u2)] σ (some (0, r), σ)) (hr : dr + 1 ≤ d) {σ : az_Hp} {v0 v1 v2 : Int} {r : Int} (h : fz_X11_areSame_e n rec σ v0 v1 v2 = some r) : az_AW Z 6 0 [(13, v0), (0, v1), (0, v2), (31, 0), (31, 0), (31, 0)] [] σ (some (0, r), σ) := by
  have hd1 : 1 ≤ d := by omega
  unfold fz_X11_areSame_e at h
  refine az_al0 (pc := 0) C rfl rfl dX11_areSame_0 ?_
  refine az_il1 (pc := 1) C dX11_areSame_1 ?_
  refine az_cV1pi (pc := 2) (c := 11) C hd1 h mv_X11_find ml_X11_438 rfl (fun x hx => A_X11_find (by omega) n hx) dX11_areSame_2 (fun r1 h => ?_)
  refine az_is3 (pc := 5) C rfl rfl dX11_areSame_5 ?_
  refine az_al0 (pc := 6) C rfl rfl dX11_areSame_6 ?_
  refine az_il2 (pc := 7) C dX11_areSame_7 ?_
  refine az_cV1pi (pc := 8) (c := 11) C hd1 h mv_X11_find ml_X11_438 rfl (fun x hx => A_X11_find (by omega) n hx) dX11_areSame_8 (fun r2 h => ?_)
  refine az_is4 (pc := 11) C rfl rfl dX11_areSame_11 ?_
  refine az_il3 (pc := 13) C dX11_areSame_13 ?_
  refine az_il4 (pc := 14) C dX11_areSame_14 ?_
  refine az_icmp_ne (pc := 16) (tgt := 21) C h dX11_areSame_16 (by decide) (fun _ h => ?_) (fun _ h => ?_)
  · refine az_al0 (pc := 21) C rfl rfl dX11_areSame_21 ?_
    refine az_getR (pc := 22) (c2 := 13) C h fl_X11_73 rfl rfl dX11_areSame_22 (fun h => ?_)
    refine az_il3 (pc := 25) C dX11_areSame_25 ?_
    refine az_iaload (pc := 26) C h dX11_areSame_26 (fun h => ?_)
    refine az_al0 (pc := 27) C rfl rfl dX11_areSame_27 ?_
    refine az_getR (pc := 28) (c2 := 13) C h fl_X11_73 rfl rfl dX11_areSame_28 (fun h => ?_)
    refine az_il4 (pc := 31) C dX11_areSame_31 ?_
    refine az_iaload (pc := 33) C h dX11_areSame_33 (fun h => ?_)
    refine az_icmp_ne (pc := 34) (tgt := 49) C h dX11_areSame_34 (by decide) (fun _ h => ?_) (fun _ h => ?_)
    · refine az_ik0 (pc := 49) C dX11_areSame_49 ?_
      obtain rfl := Option.some.inj h
      exact az_zreturn (pc := 50) C (by decide) dX11_areSame_50 rfl
    refine az_al0 (pc := 37) C rfl rfl dX11_areSame_37 ?_
    refine az_getR (pc := 38) (c2 := 13) C h fl_X11_73 rfl rfl dX11_areSame_38 (fun h => ?_)
    refine az_il3 (pc := 41) C dX11_areSame_41 ?_
    refine az_iaload (pc := 42) C h dX11_areSame_42 (fun h => ?_)
    refine az_cS1pi (pc := 43) C hd1 h ms_X11_isVar ml_X11_288 rfl (fun x hx => A_X11_isVar (by omega) hx) dX11_areSame_43 (fun r9 h => ?_)
    refine az_if_eq (pc := 46) (tgt := 51) C h dX11_areSame_46 (by decide) (fun _ h => ?_) (fun _ h => ?_)
    · refine az_ik0 (pc := 51) C dX11_areSame_51 ?_
      refine az_is5 (pc := 52) C rfl rfl dX11_areSame_52 ?_
      exact (az_wkk (A_X11_areSame_54 C hD n hrec hr n h) (az_sE (az_sJ (az_sJ (az_sE (az_sE (az_sE az_sN)))))))
    refine az_ik0 (pc := 49) C dX11_areSame_49 ?_
    obtain rfl := Option.some.inj h
    exact az_zreturn (pc := 50) C (by decide) dX11_areSame_50 rfl
  refine az_ik1 (pc := 19) C dX11_areSame_19 ?_
  obtain rfl := Option.some.inj h
  exact az_zreturn (pc := 20) C (by decide) dX11_areSame_20 rfl
set_option maxRecDepth 10000 in
set_option maxHeartbeats 4000000 in
theorem A_X11_areSame {l : Launch} (n : Nat) (D : Nat) : ∀ {d : Nat}, 3 + 1 * D ≤ d → ∀ {σ : az_Hp} {v0 v1 v2 : Int} {r : Int}, fz_X11_areSame n D σ v0 v1 v2 = some r → az_AC l yX11_areSame cX11_areSame 6 (some .boolean) d [(13, v0), (0, v1), (0, v2)] σ (some (0, r), σ) := by
  induction D generalizing l with
  | zero => intro d hD σ v0 v1 v2 r h; simp [fz_X11_areSame] at h
  | succ D ih =>
    intro d hD σ v0 v1 v2 r h
    unfold fz_X11_areSame at h
    exact az_AC.of mt_X11_areSame rfl rfl rfl (fun Z hZ C => A_X11_areSame_e C (by omega) n (dr := 3 + 1 * D) (fun hd => ih hd) (by omega) h)
theorem dX11_clears_0 : decode cX11_clears 0 = .ok (.aload_n 0, 1) := by decide +kernel
theorem dX11_clears_1 : decode cX11_clears 1 = .ok (.iconst 0, 1) := by decide +kernel
theorem dX11_clears_2 : decode cX11_clears 2 = .ok (.putfield 404, 3) := by decide +kernel
theorem dX11_clears_5 : decode cX11_clears 5 = .ok (.aload_n 0, 1) := by decide +kernel
theorem dX11_clears_6 : decode cX11_clears 6 = .ok (.iconst 0, 1) := by decide +kernel
theorem dX11_clears_7 : decode cX11_clears 7 = .ok (.putfield 407, 3) := by decide +kernel
theorem dX11_clears_10 : decode cX11_clears 10 = .ok (.aload_n 0, 1) := by decide +kernel
theorem dX11_clears_11 : decode cX11_clears 11 = .ok (.iconst 0, 1) := by decide +kernel
theorem dX11_clears_12 : decode cX11_clears 12 = .ok (.putfield 410, 3) := by decide +kernel
theorem dX11_clears_15 : decode cX11_clears 15 = .ok (.return_, 1) := by decide +kernel
set_option maxRecDepth 10000 in
set_option maxHeartbeats 4000000 in
theorem A_X11_clears_e {Z : az_Z} {d : Nat} (C : az_C Z yX11_clears cX11_clears 1 none d) (hD : 1 ≤ d) {σ : az_Hp} {v0 : Int} {r : az_Hp} (h : fz_X11_clears σ v0 = some r) : az_AW Z 1 0 [(13, v0)] [] σ (none, r) := by
  have hd1 : 1 ≤ d := by omega
  unfold fz_X11_clears at h
  refine az_al0 (pc := 0) C rfl rfl dX11_clears_0 ?_
  refine az_ik0 (pc := 1) C dX11_clears_1 ?_
  refine az_putI (pc := 2) C fl_X11_404 (Or.inl rfl) rfl dX11_clears_2 ?_
  refine az_al0 (pc := 5) C rfl rfl dX11_clears_5 ?_
  refine az_ik0 (pc := 6) C dX11_clears_6 ?_
  refine az_putI (pc := 7) C fl_X11_407 (Or.inl rfl) rfl dX11_clears_7 ?_
  refine az_al0 (pc := 10) C rfl rfl dX11_clears_10 ?_
  refine az_ik0 (pc := 11) C dX11_clears_11 ?_
  refine az_putI (pc := 12) C fl_X11_410 (Or.inl rfl) rfl dX11_clears_12 ?_
  obtain rfl := Option.some.inj h
  exact az_return (pc := 15) C dX11_clears_15 rfl
set_option maxRecDepth 10000 in
set_option maxHeartbeats 4000000 in
theorem A_X11_clears {l : Launch} {d : Nat} (hD : 1 ≤ d) {σ : az_Hp} {v0 : Int} {r : az_Hp} (h : fz_X11_clears σ v0 = some r) : az_AC l yX11_clears cX11_clears 1 none d [(13, v0)] σ (none, r) := az_AC.of mt_X11_clears rfl rfl rfl (fun Z hZ C => A_X11_clears_e C hD h)
theorem dX11_isRound_0 : decode cX11_isRound 0 = .ok (.aload_n 0, 1) := by decide +kernel
theorem dX11_isRound_1 : decode cX11_isRound 1 = .ok (.iload_n 1, 1) := by decide +kernel
theorem dX11_isRound_2 : decode cX11_isRound 2 = .ok (.invokevirtual 438, 3) := by decide +kernel
theorem dX11_isRound_5 : decode cX11_isRound 5 = .ok (.istore_n 2, 1) := by decide +kernel
theorem dX11_isRound_6 : decode cX11_isRound 6 = .ok (.aload_n 0, 1) := by decide +kernel
theorem dX11_isRound_7 : decode cX11_isRound 7 = .ok (.getfield 82, 3) := by decide +kernel
theorem dX11_isRound_10 : decode cX11_isRound 10 = .ok (.iload_n 2, 1) := by decide +kernel
theorem dX11_isRound_11 : decode cX11_isRound 11 = .ok (.iaload, 1) := by decide +kernel
theorem dX11_isRound_12 : decode cX11_isRound 12 = .ok (.iconst 1, 1) := by decide +kernel
theorem dX11_isRound_13 : decode cX11_isRound 13 = .ok (.if_icmp .ne 5, 3) := by decide +kernel
theorem dX11_isRound_16 : decode cX11_isRound 16 = .ok (.iconst 1, 1) := by decide +kernel
theorem dX11_isRound_17 : decode cX11_isRound 17 = .ok (.ireturn, 1) := by decide +kernel
theorem dX11_isRound_18 : decode cX11_isRound 18 = .ok (.aload_n 0, 1) := by decide +kernel
theorem dX11_isRound_19 : decode cX11_isRound 19 = .ok (.getfield 82, 3) := by decide +kernel
theorem dX11_isRound_22 : decode cX11_isRound 22 = .ok (.iload_n 2, 1) := by decide +kernel
theorem dX11_isRound_23 : decode cX11_isRound 23 = .ok (.iaload, 1) := by decide +kernel
theorem dX11_isRound_24 : decode cX11_isRound 24 = .ok (.iconst 2, 1) := by decide +kernel
theorem dX11_isRound_25 : decode cX11_isRound 25 = .ok (.if_icmp .ne 5, 3) := by decide +kernel
theorem dX11_isRound_28 : decode cX11_isRound 28 = .ok (.iconst 0, 1) := by decide +kernel
theorem dX11_isRound_29 : decode cX11_isRound 29 = .ok (.ireturn, 1) := by decide +kernel
theorem dX11_isRound_30 : decode cX11_isRound 30 = .ok (.aload_n 0, 1) := by decide +kernel
theorem dX11_isRound_31 : decode cX11_isRound 31 = .ok (.getfield 82, 3) := by decide +kernel
theorem dX11_isRound_34 : decode cX11_isRound 34 = .ok (.iload_n 2, 1) := by decide +kernel
theorem dX11_isRound_35 : decode cX11_isRound 35 = .ok (.iconst 1, 1) := by decide +kernel
theorem dX11_isRound_36 : decode cX11_isRound 36 = .ok (.iastore, 1) := by decide +kernel
theorem dX11_isRound_37 : decode cX11_isRound 37 = .ok (.iconst 0, 1) := by decide +kernel
theorem dX11_isRound_38 : decode cX11_isRound 38 = .ok (.istore_n 3, 1) := by decide +kernel
theorem dX11_isRound_39 : decode cX11_isRound 39 = .ok (.iload_n 3, 1) := by decide +kernel
theorem dX11_isRound_40 : decode cX11_isRound 40 = .ok (.aload_n 0, 1) := by decide +kernel
theorem dX11_isRound_41 : decode cX11_isRound 41 = .ok (.aload_n 0, 1) := by decide +kernel
theorem dX11_isRound_42 : decode cX11_isRound 42 = .ok (.getfield 73, 3) := by decide +kernel
theorem dX11_isRound_45 : decode cX11_isRound 45 = .ok (.iload_n 2, 1) := by decide +kernel
theorem dX11_isRound_46 : decode cX11_isRound 46 = .ok (.iaload, 1) := by decide +kernel
theorem dX11_isRound_47 : decode cX11_isRound 47 = .ok (.invokevirtual 336, 3) := by decide +kernel
theorem dX11_isRound_50 : decode cX11_isRound 50 = .ok (.if_icmp .ge 28, 3) := by decide +kernel
theorem dX11_isRound_53 : decode cX11_isRound 53 = .ok (.aload_n 0, 1) := by decide +kernel
theorem dX11_isRound_54 : decode cX11_isRound 54 = .ok (.aload_n 0, 1) := by decide +kernel
theorem dX11_isRound_55 : decode cX11_isRound 55 = .ok (.getfield 76, 3) := by decide +kernel
theorem dX11_isRound_58 : decode cX11_isRound 58 = .ok (.iconst 3, 1) := by decide +kernel
theorem dX11_isRound_59 : decode cX11_isRound 59 = .ok (.iload_n 2, 1) := by decide +kernel
theorem dX11_isRound_60 : decode cX11_isRound 60 = .ok (.imul, 1) := by decide +kernel
theorem dX11_isRound_61 : decode cX11_isRound 61 = .ok (.iload_n 3, 1) := by decide +kernel
theorem dX11_isRound_62 : decode cX11_isRound 62 = .ok (.iadd, 1) := by decide +kernel
theorem dX11_isRound_63 : decode cX11_isRound 63 = .ok (.iaload, 1) := by decide +kernel
theorem dX11_isRound_64 : decode cX11_isRound 64 = .ok (.invokevirtual 445, 3) := by decide +kernel
theorem dX11_isRound_67 : decode cX11_isRound 67 = .ok (.ifCond .eq 5, 3) := by decide +kernel
theorem dX11_isRound_70 : decode cX11_isRound 70 = .ok (.iconst 1, 1) := by decide +kernel
theorem dX11_isRound_71 : decode cX11_isRound 71 = .ok (.ireturn, 1) := by decide +kernel
theorem dX11_isRound_72 : decode cX11_isRound 72 = .ok (.iinc 3 1, 3) := by decide +kernel
theorem dX11_isRound_75 : decode cX11_isRound 75 = .ok (.goto (-36), 3) := by decide +kernel
theorem dX11_isRound_78 : decode cX11_isRound 78 = .ok (.aload_n 0, 1) := by decide +kernel
theorem dX11_isRound_79 : decode cX11_isRound 79 = .ok (.getfield 82, 3) := by decide +kernel
theorem dX11_isRound_82 : decode cX11_isRound 82 = .ok (.iload_n 2, 1) := by decide +kernel
theorem dX11_isRound_83 : decode cX11_isRound 83 = .ok (.iconst 2, 1) := by decide +kernel
theorem dX11_isRound_84 : decode cX11_isRound 84 = .ok (.iastore, 1) := by decide +kernel
theorem dX11_isRound_85 : decode cX11_isRound 85 = .ok (.iconst 0, 1) := by decide +kernel
theorem dX11_isRound_86 : decode cX11_isRound 86 = .ok (.ireturn, 1) := by decide +kernel
set_option maxRecDepth 10000 in
set_option maxHeartbeats 4000000 in
theorem A_X11_isRound_39 {Z : az_Z} {d : Nat} (C : az_C Z yX11_isRound cX11_isRound 4 (some .boolean) d) (hD : 3 ≤ d) (n : Nat) {dr : Nat} {rec : az_Hp → Int → Int → Option (Int × az_Hp)} (hrec : ∀ {l : Launch} {d' : Nat}, dr ≤ d' → ∀ {σ : az_Hp} {u0 u1 : Int} {r : (Int × az_Hp)}, rec σ u0 u1 = some r → az_AC l yX11_isRound cX11_isRound 4 (some .boolean) d' [(13, u0), (0, u1)] σ (some (0, r.1), r.2)) (hr : dr + 1 ≤ d) (k : Nat) : ∀ {σ : az_Hp} {v0 v2 v3 : Int} {r : (Int × az_Hp)}, fz_X11_isRound_39 n rec k σ v0 v2 v3 = some r → az_AW Z 4 39 [(13, v0), (31, 0), (0, v2), (0, v3)] [] σ (some (0, r.1), r.2) := by
  have hd1 : 1 ≤ d := by omega
  induction k with
  | zero => intro σ v0 v2 v3 r h; simp [fz_X11_isRound_39] at h
  | succ k ih =>
    intro σ v0 v2 v3 r h
    unfold fz_X11_isRound_39 at h
    refine az_il3 (pc := 39) C dX11_isRound_39 ?_
    refine az_al0 (pc := 40) C rfl rfl dX11_isRound_40 ?_
    refine az_al0 (pc := 41) C rfl rfl dX11_isRound_41 ?_
    refine az_getR (pc := 42) (c2 := 13) C h fl_X11_73 rfl rfl dX11_isRound_42 (fun h => ?_)
    refine az_il2 (pc := 45) C dX11_isRound_45 ?_
    refine az_iaload (pc := 46) C h dX11_isRound_46 (fun h => ?_)
    refine az_cV1pi (pc := 47) (c := 11) C hd1 h mv_X11_takes ml_X11_336 rfl (fun x hx => A_X11_takes (by omega) hx) dX11_isRound_47 (fun r3 h => ?_)
    refine az_icmp_ge (pc := 50) (tgt := 78) C h dX11_isRound_50 (by decide) (fun _ h => ?_) (fun _ h => ?_)
    · refine az_al0 (pc := 78) C rfl rfl dX11_isRound_78 ?_
      refine az_getR (pc := 79) (c2 := 13) C h fl_X11_82 rfl rfl dX11_isRound_79 (fun h => ?_)
      refine az_il2 (pc := 82) C dX11_isRound_82 ?_
      refine az_ik2 (pc := 83) C dX11_isRound_83 ?_
      refine az_iastore (pc := 84) C h dX11_isRound_84 (fun h => ?_)
      refine az_ik0 (pc := 85) C dX11_isRound_85 ?_
      obtain rfl := Option.some.inj h
      exact az_zreturn (pc := 86) C (by decide) dX11_isRound_86 rfl
    refine az_al0 (pc := 53) C rfl rfl dX11_isRound_53 ?_
    refine az_al0 (pc := 54) C rfl rfl dX11_isRound_54 ?_
    refine az_getR (pc := 55) (c2 := 13) C h fl_X11_76 rfl rfl dX11_isRound_55 (fun h => ?_)
    refine az_ik3 (pc := 58) C dX11_isRound_58 ?_
    refine az_il2 (pc := 59) C dX11_isRound_59 ?_
    refine az_imul (pc := 60) C dX11_isRound_60 ?_
    refine az_il3 (pc := 61) C dX11_isRound_61 ?_
    refine az_iadd (pc := 62) C dX11_isRound_62 ?_
    refine az_iaload (pc := 63) C h dX11_isRound_63 (fun h => ?_)
    refine az_cV1ii (pc := 64) (c := 11) C hd1 h mv_X11_isRound ml_X11_445 rfl (fun x hx => hrec (by omega) hx) dX11_isRound_64 (fun r8 h => ?_)
    refine az_if_eq (pc := 67) (tgt := 72) C h dX11_isRound_67 (by decide) (fun _ h => ?_) (fun _ h => ?_)
    · refine az_ii3 (pc := 72) C az_n1 rfl rfl dX11_isRound_72 ?_
      refine az_goto (pc := 75) (tgt := 39) C dX11_isRound_75 (by decide) ?_
      exact (ih h)
    refine az_ik1 (pc := 70) C dX11_isRound_70 ?_
    obtain rfl := Option.some.inj h
    exact az_zreturn (pc := 71) C (by decide) dX11_isRound_71 rfl
set_option maxRecDepth 10000 in
set_option maxHeartbeats 4000000 in
theorem A_X11_isRound_e {Z : az_Z} {d : Nat} (C : az_C Z yX11_isRound cX11_isRound 4 (some .boolean) d) (hD : 3 ≤ d) (n : Nat) {dr : Nat} {rec : az_Hp → Int → Int → Option (Int × az_Hp)} (hrec : ∀ {l : Launch} {d' : Nat}, dr ≤ d' → ∀ {σ : az_Hp} {u0 u1 : Int} {r : (Int × az_Hp)}, rec σ u0 u1 = some r → az_AC l yX11_isRound cX11_isRound 4 (some .boolean) d' [(13, u0), (0, u1)] σ (some (0, r.1), r.2)) (hr : dr + 1 ≤ d) {σ : az_Hp} {v0 v1 : Int} {r : (Int × az_Hp)} (h : fz_X11_isRound_e n rec σ v0 v1 = some r) : az_AW Z 4 0 [(13, v0), (0, v1), (31, 0), (31, 0)] [] σ (some (0, r.1), r.2) := by
  have hd1 : 1 ≤ d := by omega
  unfold fz_X11_isRound_e at h
  refine az_al0 (pc := 0) C rfl rfl dX11_isRound_0 ?_
  refine az_il1 (pc := 1) C dX11_isRound_1 ?_
  refine az_cV1pi (pc := 2) (c := 11) C hd1 h mv_X11_find ml_X11_438 rfl (fun x hx => A_X11_find (by omega) n hx) dX11_isRound_2 (fun r1 h => ?_)
  refine az_is2 (pc := 5) C rfl rfl dX11_isRound_5 ?_
  refine az_al0 (pc := 6) C rfl rfl dX11_isRound_6 ?_
  refine az_getR (pc := 7) (c2 := 13) C h fl_X11_82 rfl rfl dX11_isRound_7 (fun h => ?_)
  refine az_il2 (pc := 10) C dX11_isRound_10 ?_
  refine az_iaload (pc := 11) C h dX11_isRound_11 (fun h => ?_)
  refine az_ik1 (pc := 12) C dX11_isRound_12 ?_
  refine az_icmp_ne (pc := 13) (tgt := 18) C h dX11_isRound_13 (by decide) (fun _ h => ?_) (fun _ h => ?_)
  · refine az_al0 (pc := 18) C rfl rfl dX11_isRound_18 ?_
    refine az_getR (pc := 19) (c2 := 13) C h fl_X11_82 rfl rfl dX11_isRound_19 (fun h => ?_)
    refine az_il2 (pc := 22) C dX11_isRound_22 ?_
    refine az_iaload (pc := 23) C h dX11_isRound_23 (fun h => ?_)
    refine az_ik2 (pc := 24) C dX11_isRound_24 ?_
    refine az_icmp_ne (pc := 25) (tgt := 30) C h dX11_isRound_25 (by decide) (fun _ h => ?_) (fun _ h => ?_)
    · refine az_al0 (pc := 30) C rfl rfl dX11_isRound_30 ?_
      refine az_getR (pc := 31) (c2 := 13) C h fl_X11_82 rfl rfl dX11_isRound_31 (fun h => ?_)
      refine az_il2 (pc := 34) C dX11_isRound_34 ?_
      refine az_ik1 (pc := 35) C dX11_isRound_35 ?_
      refine az_iastore (pc := 36) C h dX11_isRound_36 (fun h => ?_)
      refine az_ik0 (pc := 37) C dX11_isRound_37 ?_
      refine az_is3 (pc := 38) C rfl rfl dX11_isRound_38 ?_
      exact (az_wkk (A_X11_isRound_39 C hD n hrec hr n h) (az_sE (az_sJ (az_sE (az_sE az_sN)))))
    refine az_ik0 (pc := 28) C dX11_isRound_28 ?_
    obtain rfl := Option.some.inj h
    exact az_zreturn (pc := 29) C (by decide) dX11_isRound_29 rfl
  refine az_ik1 (pc := 16) C dX11_isRound_16 ?_
  obtain rfl := Option.some.inj h
  exact az_zreturn (pc := 17) C (by decide) dX11_isRound_17 rfl
set_option maxRecDepth 10000 in
set_option maxHeartbeats 4000000 in
theorem A_X11_isRound {l : Launch} (n : Nat) (D : Nat) : ∀ {d : Nat}, 3 + 1 * D ≤ d → ∀ {σ : az_Hp} {v0 v1 : Int} {r : (Int × az_Hp)}, fz_X11_isRound n D σ v0 v1 = some r → az_AC l yX11_isRound cX11_isRound 4 (some .boolean) d [(13, v0), (0, v1)] σ (some (0, r.1), r.2) := by
  induction D generalizing l with
  | zero => intro d hD σ v0 v1 r h; simp [fz_X11_isRound] at h
  | succ D ih =>
    intro d hD σ v0 v1 r h
    unfold fz_X11_isRound at h
    exact az_AC.of mt_X11_isRound rfl rfl rfl (fun Z hZ C => A_X11_isRound_e C (by omega) n (dr := 3 + 1 * D) (fun hd => ih hd) (by omega) h)
theorem dX11_hasCircle_0 : decode cX11_hasCircle 0 = .ok (.iconst 0, 1) := by decide +kernel
theorem dX11_hasCircle_1 : decode cX11_hasCircle 1 = .ok (.istore_n 2, 1) := by decide +kernel
theorem dX11_hasCircle_2 : decode cX11_hasCircle 2 = .ok (.iload_n 2, 1) := by decide +kernel
theorem dX11_hasCircle_3 : decode cX11_hasCircle 3 = .ok (.aload_n 0, 1) := by decide +kernel
theorem dX11_hasCircle_4 : decode cX11_hasCircle 4 = .ok (.getfield 404, 3) := by decide +kernel
theorem dX11_hasCircle_7 : decode cX11_hasCircle 7 = .ok (.if_icmp .ge 16, 3) := by decide +kernel
theorem dX11_hasCircle_10 : decode cX11_hasCircle 10 = .ok (.aload_n 0, 1) := by decide +kernel
theorem dX11_hasCircle_11 : decode cX11_hasCircle 11 = .ok (.getfield 82, 3) := by decide +kernel
theorem dX11_hasCircle_14 : decode cX11_hasCircle 14 = .ok (.iload_n 2, 1) := by decide +kernel
theorem dX11_hasCircle_15 : decode cX11_hasCircle 15 = .ok (.iconst 0, 1) := by decide +kernel
theorem dX11_hasCircle_16 : decode cX11_hasCircle 16 = .ok (.iastore, 1) := by decide +kernel
theorem dX11_hasCircle_17 : decode cX11_hasCircle 17 = .ok (.iinc 2 1, 3) := by decide +kernel
theorem dX11_hasCircle_20 : decode cX11_hasCircle 20 = .ok (.goto (-18), 3) := by decide +kernel
theorem dX11_hasCircle_23 : decode cX11_hasCircle 23 = .ok (.aload_n 0, 1) := by decide +kernel
theorem dX11_hasCircle_24 : decode cX11_hasCircle 24 = .ok (.iload_n 1, 1) := by decide +kernel
theorem dX11_hasCircle_25 : decode cX11_hasCircle 25 = .ok (.invokevirtual 445, 3) := by decide +kernel
theorem dX11_hasCircle_28 : decode cX11_hasCircle 28 = .ok (.ireturn, 1) := by decide +kernel
set_option maxRecDepth 10000 in
set_option maxHeartbeats 4000000 in
theorem A_X11_hasCircle_2 {Z : az_Z} {d : Nat} (C : az_C Z yX11_hasCircle cX11_hasCircle 3 (some .boolean) d) (hD : 204 ≤ d) (n : Nat) (k : Nat) : ∀ {σ : az_Hp} {v0 v1 v2 : Int} {r : (Int × az_Hp)}, fz_X11_hasCircle_2 n k σ v0 v1 v2 = some r → az_AW Z 3 2 [(13, v0), (0, v1), (0, v2)] [] σ (some (0, r.1), r.2) := by
  have hd1 : 1 ≤ d := by omega
  induction k with
  | zero => intro σ v0 v1 v2 r h; simp [fz_X11_hasCircle_2] at h
  | succ k ih =>
    intro σ v0 v1 v2 r h
    unfold fz_X11_hasCircle_2 at h
    refine az_il2 (pc := 2) C dX11_hasCircle_2 ?_
    refine az_al0 (pc := 3) C rfl rfl dX11_hasCircle_3 ?_
    refine az_getI (pc := 4) C fl_X11_404 rfl dX11_hasCircle_4 ?_
    refine az_icmp_ge (pc := 7) (tgt := 23) C h dX11_hasCircle_7 (by decide) (fun _ h => ?_) (fun _ h => ?_)
    · refine az_al0 (pc := 23) C rfl rfl dX11_hasCircle_23 ?_
      refine az_il1 (pc := 24) C dX11_hasCircle_24 ?_
      refine az_cV1ii (pc := 25) (c := 11) C hd1 h mv_X11_isRound ml_X11_445 rfl (fun x hx => A_X11_isRound n 200 (by omega) hx) dX11_hasCircle_25 (fun r1 h => ?_)
      obtain ⟨hz, h⟩ := az_zif h
      obtain rfl := Option.some.inj h
      exact az_zreturn (pc := 28) C hz dX11_hasCircle_28 rfl
    refine az_al0 (pc := 10) C rfl rfl dX11_hasCircle_10 ?_
    refine az_getR (pc := 11) (c2 := 13) C h fl_X11_82 rfl rfl dX11_hasCircle_11 (fun h => ?_)
    refine az_il2 (pc := 14) C dX11_hasCircle_14 ?_
    refine az_ik0 (pc := 15) C dX11_hasCircle_15 ?_
    refine az_iastore (pc := 16) C h dX11_hasCircle_16 (fun h => ?_)
    refine az_ii2 (pc := 17) C az_n1 rfl rfl dX11_hasCircle_17 ?_
    refine az_goto (pc := 20) (tgt := 2) C dX11_hasCircle_20 (by decide) ?_
    exact (ih h)
set_option maxRecDepth 10000 in
set_option maxHeartbeats 4000000 in
theorem A_X11_hasCircle_e {Z : az_Z} {d : Nat} (C : az_C Z yX11_hasCircle cX11_hasCircle 3 (some .boolean) d) (hD : 204 ≤ d) (n : Nat) {σ : az_Hp} {v0 v1 : Int} {r : (Int × az_Hp)} (h : fz_X11_hasCircle n σ v0 v1 = some r) : az_AW Z 3 0 [(13, v0), (0, v1), (31, 0)] [] σ (some (0, r.1), r.2) := by
  have hd1 : 1 ≤ d := by omega
  unfold fz_X11_hasCircle at h
  refine az_ik0 (pc := 0) C dX11_hasCircle_0 ?_
  refine az_is2 (pc := 1) C rfl rfl dX11_hasCircle_1 ?_
  exact (A_X11_hasCircle_2 C hD n n h)
set_option maxRecDepth 10000 in
set_option maxHeartbeats 4000000 in
theorem A_X11_hasCircle {l : Launch} {d : Nat} (hD : 204 ≤ d) (n : Nat) {σ : az_Hp} {v0 v1 : Int} {r : (Int × az_Hp)} (h : fz_X11_hasCircle n σ v0 v1 = some r) : az_AC l yX11_hasCircle cX11_hasCircle 3 (some .boolean) d [(13, v0), (0, v1)] σ (some (0, r.1), r.2) := az_AC.of mt_X11_hasCircle rfl rfl rfl (fun Z hZ C => A_X11_hasCircle_e C hD n h)
theorem dX11_joins_0 : decode cX11_joins 0 = .ok (.aload_n 0, 1) := by decide +kernel
theorem dX11_joins_1 : decode cX11_joins 1 = .ok (.iload_n 1, 1) := by decide +kernel
theorem dX11_joins_2 : decode cX11_joins 2 = .ok (.invokevirtual 438, 3) := by decide +kernel
theorem dX11_joins_5 : decode cX11_joins 5 = .ok (.istore_n 3, 1) := by decide +kernel
theorem dX11_joins_6 : decode cX11_joins 6 = .ok (.aload_n 0, 1) := by decide +kernel
theorem dX11_joins_7 : decode cX11_joins 7 = .ok (.iload_n 2, 1) := by decide +kernel
theorem dX11_joins_8 : decode cX11_joins 8 = .ok (.invokevirtual 438, 3) := by decide +kernel
theorem dX11_joins_11 : decode cX11_joins 11 = .ok (.istore 4, 2) := by decide +kernel
theorem dX11_joins_13 : decode cX11_joins 13 = .ok (.iload_n 3, 1) := by decide +kernel
theorem dX11_joins_14 : decode cX11_joins 14 = .ok (.iload 4, 2) := by decide +kernel
theorem dX11_joins_16 : decode cX11_joins 16 = .ok (.if_icmp .ne 5, 3) := by decide +kernel
theorem dX11_joins_19 : decode cX11_joins 19 = .ok (.iconst 1, 1) := by decide +kernel
theorem dX11_joins_20 : decode cX11_joins 20 = .ok (.ireturn, 1) := by decide +kernel
theorem dX11_joins_21 : decode cX11_joins 21 = .ok (.aload_n 0, 1) := by decide +kernel
theorem dX11_joins_22 : decode cX11_joins 22 = .ok (.getfield 73, 3) := by decide +kernel
theorem dX11_joins_25 : decode cX11_joins 25 = .ok (.iload_n 3, 1) := by decide +kernel
theorem dX11_joins_26 : decode cX11_joins 26 = .ok (.iaload, 1) := by decide +kernel
theorem dX11_joins_27 : decode cX11_joins 27 = .ok (.invokestatic 288, 3) := by decide +kernel
theorem dX11_joins_30 : decode cX11_joins 30 = .ok (.ifCond .eq 13, 3) := by decide +kernel
theorem dX11_joins_33 : decode cX11_joins 33 = .ok (.aload_n 0, 1) := by decide +kernel
theorem dX11_joins_34 : decode cX11_joins 34 = .ok (.getfield 79, 3) := by decide +kernel
theorem dX11_joins_37 : decode cX11_joins 37 = .ok (.iload_n 3, 1) := by decide +kernel
theorem dX11_joins_38 : decode cX11_joins 38 = .ok (.iload 4, 2) := by decide +kernel
theorem dX11_joins_40 : decode cX11_joins 40 = .ok (.iastore, 1) := by decide +kernel
theorem dX11_joins_41 : decode cX11_joins 41 = .ok (.iconst 1, 1) := by decide +kernel
theorem dX11_joins_42 : decode cX11_joins 42 = .ok (.ireturn, 1) := by decide +kernel
theorem dX11_joins_43 : decode cX11_joins 43 = .ok (.aload_n 0, 1) := by decide +kernel
theorem dX11_joins_44 : decode cX11_joins 44 = .ok (.getfield 73, 3) := by decide +kernel
theorem dX11_joins_47 : decode cX11_joins 47 = .ok (.iload 4, 2) := by decide +kernel
theorem dX11_joins_49 : decode cX11_joins 49 = .ok (.iaload, 1) := by decide +kernel
theorem dX11_joins_50 : decode cX11_joins 50 = .ok (.invokestatic 288, 3) := by decide +kernel
theorem dX11_joins_53 : decode cX11_joins 53 = .ok (.ifCond .eq 13, 3) := by decide +kernel
theorem dX11_joins_56 : decode cX11_joins 56 = .ok (.aload_n 0, 1) := by decide +kernel
theorem dX11_joins_57 : decode cX11_joins 57 = .ok (.getfield 79, 3) := by decide +kernel
theorem dX11_joins_60 : decode cX11_joins 60 = .ok (.iload 4, 2) := by decide +kernel
theorem dX11_joins_62 : decode cX11_joins 62 = .ok (.iload_n 3, 1) := by decide +kernel
theorem dX11_joins_63 : decode cX11_joins 63 = .ok (.iastore, 1) := by decide +kernel
theorem dX11_joins_64 : decode cX11_joins 64 = .ok (.iconst 1, 1) := by decide +kernel
theorem dX11_joins_65 : decode cX11_joins 65 = .ok (.ireturn, 1) := by decide +kernel
theorem dX11_joins_66 : decode cX11_joins 66 = .ok (.aload_n 0, 1) := by decide +kernel
theorem dX11_joins_67 : decode cX11_joins 67 = .ok (.getfield 73, 3) := by decide +kernel
theorem dX11_joins_70 : decode cX11_joins 70 = .ok (.iload_n 3, 1) := by decide +kernel
theorem dX11_joins_71 : decode cX11_joins 71 = .ok (.iaload, 1) := by decide +kernel
theorem dX11_joins_72 : decode cX11_joins 72 = .ok (.aload_n 0, 1) := by decide +kernel
theorem dX11_joins_73 : decode cX11_joins 73 = .ok (.getfield 73, 3) := by decide +kernel
theorem dX11_joins_76 : decode cX11_joins 76 = .ok (.iload 4, 2) := by decide +kernel
theorem dX11_joins_78 : decode cX11_joins 78 = .ok (.iaload, 1) := by decide +kernel
theorem dX11_joins_79 : decode cX11_joins 79 = .ok (.if_icmp .eq 5, 3) := by decide +kernel
theorem dX11_joins_82 : decode cX11_joins 82 = .ok (.iconst 0, 1) := by decide +kernel
theorem dX11_joins_83 : decode cX11_joins 83 = .ok (.ireturn, 1) := by decide +kernel
theorem dX11_joins_84 : decode cX11_joins 84 = .ok (.aload_n 0, 1) := by decide +kernel
theorem dX11_joins_85 : decode cX11_joins 85 = .ok (.getfield 79, 3) := by decide +kernel
theorem dX11_joins_88 : decode cX11_joins 88 = .ok (.iload_n 3, 1) := by decide +kernel
theorem dX11_joins_89 : decode cX11_joins 89 = .ok (.iload 4, 2) := by decide +kernel
theorem dX11_joins_91 : decode cX11_joins 91 = .ok (.iastore, 1) := by decide +kernel
theorem dX11_joins_92 : decode cX11_joins 92 = .ok (.iconst 0, 1) := by decide +kernel
theorem dX11_joins_93 : decode cX11_joins 93 = .ok (.istore 5, 2) := by decide +kernel
theorem dX11_joins_95 : decode cX11_joins 95 = .ok (.iload 5, 2) := by decide +kernel
theorem dX11_joins_97 : decode cX11_joins 97 = .ok (.aload_n 0, 1) := by decide +kernel
theorem dX11_joins_98 : decode cX11_joins 98 = .ok (.aload_n 0, 1) := by decide +kernel
theorem dX11_joins_99 : decode cX11_joins 99 = .ok (.getfield 73, 3) := by decide +kernel
theorem dX11_joins_102 : decode cX11_joins 102 = .ok (.iload_n 3, 1) := by decide +kernel
theorem dX11_joins_103 : decode cX11_joins 103 = .ok (.iaload, 1) := by decide +kernel
theorem dX11_joins_104 : decode cX11_joins 104 = .ok (.invokevirtual 336, 3) := by decide +kernel
theorem dX11_joins_107 : decode cX11_joins 107 = .ok (.if_icmp .ge 41, 3) := by decide +kernel
theorem dX11_joins_110 : decode cX11_joins 110 = .ok (.aload_n 0, 1) := by decide +kernel
theorem dX11_joins_111 : decode cX11_joins 111 = .ok (.aload_n 0, 1) := by decide +kernel
theorem dX11_joins_112 : decode cX11_joins 112 = .ok (.getfield 76, 3) := by decide +kernel
theorem dX11_joins_115 : decode cX11_joins 115 = .ok (.iconst 3, 1) := by decide +kernel
theorem dX11_joins_116 : decode cX11_joins 116 = .ok (.iload_n 3, 1) := by decide +kernel
theorem dX11_joins_117 : decode cX11_joins 117 = .ok (.imul, 1) := by decide +kernel
theorem dX11_joins_118 : decode cX11_joins 118 = .ok (.iload 5, 2) := by decide +kernel
theorem dX11_joins_120 : decode cX11_joins 120 = .ok (.iadd, 1) := by decide +kernel
theorem dX11_joins_121 : decode cX11_joins 121 = .ok (.iaload, 1) := by decide +kernel
theorem dX11_joins_122 : decode cX11_joins 122 = .ok (.aload_n 0, 1) := by decide +kernel
theorem dX11_joins_123 : decode cX11_joins 123 = .ok (.getfield 76, 3) := by decide +kernel
theorem dX11_joins_126 : decode cX11_joins 126 = .ok (.iconst 3, 1) := by decide +kernel
theorem dX11_joins_127 : decode cX11_joins 127 = .ok (.iload 4, 2) := by decide +kernel
theorem dX11_joins_129 : decode cX11_joins 129 = .ok (.imul, 1) := by decide +kernel
theorem dX11_joins_130 : decode cX11_joins 130 = .ok (.iload 5, 2) := by decide +kernel
theorem dX11_joins_132 : decode cX11_joins 132 = .ok (.iadd, 1) := by decide +kernel
theorem dX11_joins_133 : decode cX11_joins 133 = .ok (.iaload, 1) := by decide +kernel
theorem dX11_joins_134 : decode cX11_joins 134 = .ok (.invokevirtual 441, 3) := by decide +kernel
theorem dX11_joins_137 : decode cX11_joins 137 = .ok (.ifCond .ne 5, 3) := by decide +kernel
theorem dX11_joins_140 : decode cX11_joins 140 = .ok (.iconst 0, 1) := by decide +kernel
theorem dX11_joins_141 : decode cX11_joins 141 = .ok (.ireturn, 1) := by decide +kernel
theorem dX11_joins_142 : decode cX11_joins 142 = .ok (.iinc 5 1, 3) := by decide +kernel
theorem dX11_joins_145 : decode cX11_joins 145 = .ok (.goto (-50), 3) := by decide +kernel
theorem dX11_joins_148 : decode cX11_joins 148 = .ok (.iconst 1, 1) := by decide +kernel
theorem dX11_joins_149 : decode cX11_joins 149 = .ok (.ireturn, 1) := by decide +kernel
set_option maxRecDepth 10000 in
set_option maxHeartbeats 4000000 in
theorem A_X11_joins_95 {Z : az_Z} {d : Nat} (C : az_C Z yX11_joins cX11_joins 6 (some .boolean) d) (hD : 3 ≤ d) (n : Nat) {dr : Nat} {rec : az_Hp → Int → Int → Int → Option (Int × az_Hp)} (hrec : ∀ {l : Launch} {d' : Nat}, dr ≤ d' → ∀ {σ : az_Hp} {u0 u1 u2 : Int} {r : (Int × az_Hp)}, rec σ u0 u1 u2 = some r → az_AC l yX11_joins cX11_joins 6 (some .boolean) d' [(13, u0), (0, u1), (0, u2)] σ (some (0, r.1), r.2)) (hr : dr + 1 ≤ d) (k : Nat) : ∀ {σ : az_Hp} {v0 v3 v4 v5 : Int} {r : (Int × az_Hp)}, fz_X11_joins_95 n rec k σ v0 v3 v4 v5 = some r → az_AW Z 6 95 [(13, v0), (31, 0), (31, 0), (0, v3), (0, v4), (0, v5)] [] σ (some (0, r.1), r.2) := by
  have hd1 : 1 ≤ d := by omega
  induction k with
  | zero => intro σ v0 v3 v4 v5 r h; simp [fz_X11_joins_95] at h
  | succ k ih =>
    intro σ v0 v3 v4 v5 r h
    unfold fz_X11_joins_95 at h
    refine az_il5 (pc := 95) C dX11_joins_95 ?_
    refine az_al0 (pc := 97) C rfl rfl dX11_joins_97 ?_
    refine az_al0 (pc := 98) C rfl rfl dX11_joins_98 ?_
    refine az_getR (pc := 99) (c2 := 13) C h fl_X11_73 rfl rfl dX11_joins_99 (fun h => ?_)
    refine az_il3 (pc := 102) C dX11_joins_102 ?_
    refine az_iaload (pc := 103) C h dX11_joins_103 (fun h => ?_)
    refine az_cV1pi (pc := 104) (c := 11) C hd1 h mv_X11_takes ml_X11_336 rfl (fun x hx => A_X11_takes (by omega) hx) dX11_joins_104 (fun r3 h => ?_)
    refine az_icmp_ge (pc := 107) (tgt := 148) C h dX11_joins_107 (by decide) (fun _ h => ?_) (fun _ h => ?_)
    · refine az_ik1 (pc := 148) C dX11_joins_148 ?_
      obtain rfl := Option.some.inj h
      exact az_zreturn (pc := 149) C (by decide) dX11_joins_149 rfl
    refine az_al0 (pc := 110) C rfl rfl dX11_joins_110 ?_
    refine az_al0 (pc := 111) C rfl rfl dX11_joins_111 ?_
    refine az_getR (pc := 112) (c2 := 13) C h fl_X11_76 rfl rfl dX11_joins_112 (fun h => ?_)
    refine az_ik3 (pc := 115) C dX11_joins_115 ?_
    refine az_il3 (pc := 116) C dX11_joins_116 ?_
    refine az_imul (pc := 117) C dX11_joins_117 ?_
    refine az_il5 (pc := 118) C dX11_joins_118 ?_
    refine az_iadd (pc := 120) C dX11_joins_120 ?_
    refine az_iaload (pc := 121) C h dX11_joins_121 (fun h => ?_)
    refine az_al0 (pc := 122) C rfl rfl dX11_joins_122 ?_
    refine az_getR (pc := 123) (c2 := 13) C h fl_X11_76 rfl rfl dX11_joins_123 (fun h => ?_)
    refine az_ik3 (pc := 126) C dX11_joins_126 ?_
    refine az_il4 (pc := 127) C dX11_joins_127 ?_
    refine az_imul (pc := 129) C dX11_joins_129 ?_
    refine az_il5 (pc := 130) C dX11_joins_130 ?_
    refine az_iadd (pc := 132) C dX11_joins_132 ?_
    refine az_iaload (pc := 133) C h dX11_joins_133 (fun h => ?_)
    refine az_cV2ii (pc := 134) (c := 11) C hd1 h mv_X11_joins ml_X11_441 rfl (fun x hx => hrec (by omega) hx) dX11_joins_134 (fun r8 h => ?_)
    refine az_if_ne (pc := 137) (tgt := 142) C h dX11_joins_137 (by decide) (fun _ h => ?_) (fun _ h => ?_)
    · refine az_ii5 (pc := 142) C az_n1 rfl rfl dX11_joins_142 ?_
      refine az_goto (pc := 145) (tgt := 95) C dX11_joins_145 (by decide) ?_
      exact (ih h)
    refine az_ik0 (pc := 140) C dX11_joins_140 ?_
    obtain rfl := Option.some.inj h
    exact az_zreturn (pc := 141) C (by decide) dX11_joins_141 rfl
set_option maxRecDepth 10000 in
set_option maxHeartbeats 4000000 in
theorem A_X11_joins_e {Z : az_Z} {d : Nat} (C : az_C Z yX11_joins cX11_joins 6 (some .boolean) d) (hD : 3 ≤ d) (n : Nat) {dr : Nat} {rec : az_Hp → Int → Int → Int → Option (Int × az_Hp)} (hrec : ∀ {l : Launch} {d' : Nat}, dr ≤ d' → ∀ {σ : az_Hp} {u0 u1 u2 : Int} {r : (Int × az_Hp)}, rec σ u0 u1 u2 = some r → az_AC l yX11_joins cX11_joins 6 (some .boolean) d' [(13, u0), (0, u1), (0, u2)] σ (some (0, r.1), r.2)) (hr : dr + 1 ≤ d) {σ : az_Hp} {v0 v1 v2 : Int} {r : (Int × az_Hp)} (h : fz_X11_joins_e n rec σ v0 v1 v2 = some r) : az_AW Z 6 0 [(13, v0), (0, v1), (0, v2), (31, 0), (31, 0), (31, 0)] [] σ (some (0, r.1), r.2) := by
  have hd1 : 1 ≤ d := by omega
  unfold fz_X11_joins_e at h
  refine az_al0 (pc := 0) C rfl rfl dX11_joins_0 ?_
  refine az_il1 (pc := 1) C dX11_joins_1 ?_
  refine az_cV1pi (pc := 2) (c := 11) C hd1 h mv_X11_find ml_X11_438 rfl (fun x hx => A_X11_find (by omega) n hx) dX11_joins_2 (fun r1 h => ?_)
  refine az_is3 (pc := 5) C rfl rfl dX11_joins_5 ?_
  refine az_al0 (pc := 6) C rfl rfl dX11_joins_6 ?_
  refine az_il2 (pc := 7) C dX11_joins_7 ?_
  refine az_cV1pi (pc := 8) (c := 11) C hd1 h mv_X11_find ml_X11_438 rfl (fun x hx => A_X11_find (by omega) n hx) dX11_joins_8 (fun r2 h => ?_)
  refine az_is4 (pc := 11) C rfl rfl dX11_joins_11 ?_
  refine az_il3 (pc := 13) C dX11_joins_13 ?_
  refine az_il4 (pc := 14) C dX11_joins_14 ?_
  refine az_icmp_ne (pc := 16) (tgt := 21) C h dX11_joins_16 (by decide) (fun _ h => ?_) (fun _ h => ?_)
  · refine az_al0 (pc := 21) C rfl rfl dX11_joins_21 ?_
    refine az_getR (pc := 22) (c2 := 13) C h fl_X11_73 rfl rfl dX11_joins_22 (fun h => ?_)
    refine az_il3 (pc := 25) C dX11_joins_25 ?_
    refine az_iaload (pc := 26) C h dX11_joins_26 (fun h => ?_)
    refine az_cS1pi (pc := 27) C hd1 h ms_X11_isVar ml_X11_288 rfl (fun x hx => A_X11_isVar (by omega) hx) dX11_joins_27 (fun r5 h => ?_)
    refine az_if_eq (pc := 30) (tgt := 43) C h dX11_joins_30 (by decide) (fun _ h => ?_) (fun _ h => ?_)
    · refine az_al0 (pc := 43) C rfl rfl dX11_joins_43 ?_
      refine az_getR (pc := 44) (c2 := 13) C h fl_X11_73 rfl rfl dX11_joins_44 (fun h => ?_)
      refine az_il4 (pc := 47) C dX11_joins_47 ?_
      refine az_iaload (pc := 49) C h dX11_joins_49 (fun h => ?_)
      refine az_cS1pi (pc := 50) C hd1 h ms_X11_isVar ml_X11_288 rfl (fun x hx => A_X11_isVar (by omega) hx) dX11_joins_50 (fun r8 h => ?_)
      refine az_if_eq (pc := 53) (tgt := 66) C h dX11_joins_53 (by decide) (fun _ h => ?_) (fun _ h => ?_)
      · refine az_al0 (pc := 66) C rfl rfl dX11_joins_66 ?_
        refine az_getR (pc := 67) (c2 := 13) C h fl_X11_73 rfl rfl dX11_joins_67 (fun h => ?_)
        refine az_il3 (pc := 70) C dX11_joins_70 ?_
        refine az_iaload (pc := 71) C h dX11_joins_71 (fun h => ?_)
        refine az_al0 (pc := 72) C rfl rfl dX11_joins_72 ?_
        refine az_getR (pc := 73) (c2 := 13) C h fl_X11_73 rfl rfl dX11_joins_73 (fun h => ?_)
        refine az_il4 (pc := 76) C dX11_joins_76 ?_
        refine az_iaload (pc := 78) C h dX11_joins_78 (fun h => ?_)
        refine az_icmp_eq (pc := 79) (tgt := 84) C h dX11_joins_79 (by decide) (fun _ h => ?_) (fun _ h => ?_)
        · refine az_al0 (pc := 84) C rfl rfl dX11_joins_84 ?_
          refine az_getR (pc := 85) (c2 := 13) C h fl_X11_79 rfl rfl dX11_joins_85 (fun h => ?_)
          refine az_il3 (pc := 88) C dX11_joins_88 ?_
          refine az_il4 (pc := 89) C dX11_joins_89 ?_
          refine az_iastore (pc := 91) C h dX11_joins_91 (fun h => ?_)
          refine az_ik0 (pc := 92) C dX11_joins_92 ?_
          refine az_is5 (pc := 93) C rfl rfl dX11_joins_93 ?_
          exact (az_wkk (A_X11_joins_95 C hD n hrec hr n h) (az_sE (az_sJ (az_sJ (az_sE (az_sE (az_sE az_sN)))))))
        refine az_ik0 (pc := 82) C dX11_joins_82 ?_
        obtain rfl := Option.some.inj h
        exact az_zreturn (pc := 83) C (by decide) dX11_joins_83 rfl
      refine az_al0 (pc := 56) C rfl rfl dX11_joins_56 ?_
      refine az_getR (pc := 57) (c2 := 13) C h fl_X11_79 rfl rfl dX11_joins_57 (fun h => ?_)
      refine az_il4 (pc := 60) C dX11_joins_60 ?_
      refine az_il3 (pc := 62) C dX11_joins_62 ?_
      refine az_iastore (pc := 63) C h dX11_joins_63 (fun h => ?_)
      refine az_ik1 (pc := 64) C dX11_joins_64 ?_
      obtain rfl := Option.some.inj h
      exact az_zreturn (pc := 65) C (by decide) dX11_joins_65 rfl
    refine az_al0 (pc := 33) C rfl rfl dX11_joins_33 ?_
    refine az_getR (pc := 34) (c2 := 13) C h fl_X11_79 rfl rfl dX11_joins_34 (fun h => ?_)
    refine az_il3 (pc := 37) C dX11_joins_37 ?_
    refine az_il4 (pc := 38) C dX11_joins_38 ?_
    refine az_iastore (pc := 40) C h dX11_joins_40 (fun h => ?_)
    refine az_ik1 (pc := 41) C dX11_joins_41 ?_
    obtain rfl := Option.some.inj h
    exact az_zreturn (pc := 42) C (by decide) dX11_joins_42 rfl
  refine az_ik1 (pc := 19) C dX11_joins_19 ?_
  obtain rfl := Option.some.inj h
  exact az_zreturn (pc := 20) C (by decide) dX11_joins_20 rfl
set_option maxRecDepth 10000 in
set_option maxHeartbeats 4000000 in
theorem A_X11_joins {l : Launch} (n : Nat) (D : Nat) : ∀ {d : Nat}, 3 + 1 * D ≤ d → ∀ {σ : az_Hp} {v0 v1 v2 : Int} {r : (Int × az_Hp)}, fz_X11_joins n D σ v0 v1 v2 = some r → az_AC l yX11_joins cX11_joins 6 (some .boolean) d [(13, v0), (0, v1), (0, v2)] σ (some (0, r.1), r.2) := by
  induction D generalizing l with
  | zero => intro d hD σ v0 v1 v2 r h; simp [fz_X11_joins] at h
  | succ D ih =>
    intro d hD σ v0 v1 v2 r h
    unfold fz_X11_joins at h
    exact az_AC.of mt_X11_joins rfl rfl rfl (fun Z hZ C => A_X11_joins_e C (by omega) n (dr := 3 + 1 * D) (fun hd => ih hd) (by omega) h)
theorem dX11_adds_0 : decode cX11_adds 0 = .ok (.aload_n 0, 1) := by decide +kernel
theorem dX11_adds_1 : decode cX11_adds 1 = .ok (.getfield 73, 3) := by decide +kernel
theorem dX11_adds_4 : decode cX11_adds 4 = .ok (.aload_n 0, 1) := by decide +kernel
theorem dX11_adds_5 : decode cX11_adds 5 = .ok (.getfield 404, 3) := by decide +kernel
theorem dX11_adds_8 : decode cX11_adds 8 = .ok (.iload_n 1, 1) := by decide +kernel
theorem dX11_adds_9 : decode cX11_adds 9 = .ok (.iastore, 1) := by decide +kernel
theorem dX11_adds_10 : decode cX11_adds 10 = .ok (.aload_n 0, 1) := by decide +kernel
theorem dX11_adds_11 : decode cX11_adds 11 = .ok (.getfield 79, 3) := by decide +kernel
theorem dX11_adds_14 : decode cX11_adds 14 = .ok (.aload_n 0, 1) := by decide +kernel
theorem dX11_adds_15 : decode cX11_adds 15 = .ok (.getfield 404, 3) := by decide +kernel
theorem dX11_adds_18 : decode cX11_adds 18 = .ok (.aload_n 0, 1) := by decide +kernel
theorem dX11_adds_19 : decode cX11_adds 19 = .ok (.getfield 404, 3) := by decide +kernel
theorem dX11_adds_22 : decode cX11_adds 22 = .ok (.iastore, 1) := by decide +kernel
theorem dX11_adds_23 : decode cX11_adds 23 = .ok (.aload_n 0, 1) := by decide +kernel
theorem dX11_adds_24 : decode cX11_adds 24 = .ok (.dup, 1) := by decide +kernel
theorem dX11_adds_25 : decode cX11_adds 25 = .ok (.getfield 404, 3) := by decide +kernel
theorem dX11_adds_28 : decode cX11_adds 28 = .ok (.iconst 1, 1) := by decide +kernel
theorem dX11_adds_29 : decode cX11_adds 29 = .ok (.iadd, 1) := by decide +kernel
theorem dX11_adds_30 : decode cX11_adds 30 = .ok (.putfield 404, 3) := by decide +kernel
theorem dX11_adds_33 : decode cX11_adds 33 = .ok (.aload_n 0, 1) := by decide +kernel
theorem dX11_adds_34 : decode cX11_adds 34 = .ok (.getfield 404, 3) := by decide +kernel
theorem dX11_adds_37 : decode cX11_adds 37 = .ok (.iconst 1, 1) := by decide +kernel
theorem dX11_adds_38 : decode cX11_adds 38 = .ok (.isub, 1) := by decide +kernel
theorem dX11_adds_39 : decode cX11_adds 39 = .ok (.ireturn, 1) := by decide +kernel
set_option maxRecDepth 10000 in
set_option maxHeartbeats 4000000 in
theorem A_X11_adds_e {Z : az_Z} {d : Nat} (C : az_C Z yX11_adds cX11_adds 2 (some .int) d) (hD : 1 ≤ d) {σ : az_Hp} {v0 v1 : Int} {r : (Int × az_Hp)} (h : fz_X11_adds σ v0 v1 = some r) : az_AW Z 2 0 [(13, v0), (0, v1)] [] σ (some (0, r.1), r.2) := by
  have hd1 : 1 ≤ d := by omega
  unfold fz_X11_adds at h
  refine az_al0 (pc := 0) C rfl rfl dX11_adds_0 ?_
  refine az_getR (pc := 1) (c2 := 13) C h fl_X11_73 rfl rfl dX11_adds_1 (fun h => ?_)
  refine az_al0 (pc := 4) C rfl rfl dX11_adds_4 ?_
  refine az_getI (pc := 5) C fl_X11_404 rfl dX11_adds_5 ?_
  refine az_il1 (pc := 8) C dX11_adds_8 ?_
  refine az_iastore (pc := 9) C h dX11_adds_9 (fun h => ?_)
  refine az_al0 (pc := 10) C rfl rfl dX11_adds_10 ?_
  refine az_getR (pc := 11) (c2 := 13) C h fl_X11_79 rfl rfl dX11_adds_11 (fun h => ?_)
  refine az_al0 (pc := 14) C rfl rfl dX11_adds_14 ?_
  refine az_getI (pc := 15) C fl_X11_404 rfl dX11_adds_15 ?_
  refine az_al0 (pc := 18) C rfl rfl dX11_adds_18 ?_
  refine az_getI (pc := 19) C fl_X11_404 rfl dX11_adds_19 ?_
  refine az_iastore (pc := 22) C h dX11_adds_22 (fun h => ?_)
  refine az_al0 (pc := 23) C rfl rfl dX11_adds_23 ?_
  refine az_dup (pc := 24) C rfl rfl dX11_adds_24 ?_
  refine az_getI (pc := 25) C fl_X11_404 rfl dX11_adds_25 ?_
  refine az_ik1 (pc := 28) C dX11_adds_28 ?_
  refine az_iadd (pc := 29) C dX11_adds_29 ?_
  refine az_putI (pc := 30) C fl_X11_404 (Or.inl rfl) rfl dX11_adds_30 ?_
  refine az_al0 (pc := 33) C rfl rfl dX11_adds_33 ?_
  refine az_getI (pc := 34) C fl_X11_404 rfl dX11_adds_34 ?_
  refine az_ik1 (pc := 37) C dX11_adds_37 ?_
  refine az_isub (pc := 38) C dX11_adds_38 ?_
  obtain rfl := Option.some.inj h
  exact az_ireturn (pc := 39) C dX11_adds_39 rfl
set_option maxRecDepth 10000 in
set_option maxHeartbeats 4000000 in
theorem A_X11_adds {l : Launch} {d : Nat} (hD : 1 ≤ d) {σ : az_Hp} {v0 v1 : Int} {r : (Int × az_Hp)} (h : fz_X11_adds σ v0 v1 = some r) : az_AC l yX11_adds cX11_adds 2 (some .int) d [(13, v0), (0, v1)] σ (some (0, r.1), r.2) := az_AC.of mt_X11_adds rfl rfl rfl (fun Z hZ C => A_X11_adds_e C hD h)
theorem dX11_isSame_0 : decode cX11_isSame 0 = .ok (.iconst 0, 1) := by decide +kernel
theorem dX11_isSame_1 : decode cX11_isSame 1 = .ok (.istore 5, 2) := by decide +kernel
theorem dX11_isSame_3 : decode cX11_isSame 3 = .ok (.iload 5, 2) := by decide +kernel
theorem dX11_isSame_5 : decode cX11_isSame 5 = .ok (.iload 4, 2) := by decide +kernel
theorem dX11_isSame_7 : decode cX11_isSame 7 = .ok (.if_icmp .ge 26, 3) := by decide +kernel
theorem dX11_isSame_10 : decode cX11_isSame 10 = .ok (.aload_n 0, 1) := by decide +kernel
theorem dX11_isSame_11 : decode cX11_isSame 11 = .ok (.iload_n 1, 1) := by decide +kernel
theorem dX11_isSame_12 : decode cX11_isSame 12 = .ok (.iload 5, 2) := by decide +kernel
theorem dX11_isSame_14 : decode cX11_isSame 14 = .ok (.iadd, 1) := by decide +kernel
theorem dX11_isSame_15 : decode cX11_isSame 15 = .ok (.iaload, 1) := by decide +kernel
theorem dX11_isSame_16 : decode cX11_isSame 16 = .ok (.aload_n 2, 1) := by decide +kernel
theorem dX11_isSame_17 : decode cX11_isSame 17 = .ok (.iload_n 3, 1) := by decide +kernel
theorem dX11_isSame_18 : decode cX11_isSame 18 = .ok (.iload 5, 2) := by decide +kernel
theorem dX11_isSame_20 : decode cX11_isSame 20 = .ok (.iadd, 1) := by decide +kernel
theorem dX11_isSame_21 : decode cX11_isSame 21 = .ok (.iaload, 1) := by decide +kernel
theorem dX11_isSame_22 : decode cX11_isSame 22 = .ok (.if_icmp .eq 5, 3) := by decide +kernel
theorem dX11_isSame_25 : decode cX11_isSame 25 = .ok (.iconst 0, 1) := by decide +kernel
theorem dX11_isSame_26 : decode cX11_isSame 26 = .ok (.ireturn, 1) := by decide +kernel
theorem dX11_isSame_27 : decode cX11_isSame 27 = .ok (.iinc 5 1, 3) := by decide +kernel
theorem dX11_isSame_30 : decode cX11_isSame 30 = .ok (.goto (-27), 3) := by decide +kernel
theorem dX11_isSame_33 : decode cX11_isSame 33 = .ok (.iconst 1, 1) := by decide +kernel
theorem dX11_isSame_34 : decode cX11_isSame 34 = .ok (.ireturn, 1) := by decide +kernel
set_option maxRecDepth 10000 in
set_option maxHeartbeats 4000000 in
theorem A_X11_isSame_3 {Z : az_Z} {d : Nat} (C : az_C Z yX11_isSame cX11_isSame 6 (some .boolean) d) (hD : 1 ≤ d) (n : Nat) (k : Nat) : ∀ {σ : az_Hp} {v0 v1 v2 v3 v4 v5 : Int} {r : Int}, fz_X11_isSame_3 n k σ v0 v1 v2 v3 v4 v5 = some r → az_AW Z 6 3 [(15, v0), (0, v1), (15, v2), (0, v3), (0, v4), (0, v5)] [] σ (some (0, r), σ) := by
  have hd1 : 1 ≤ d := by omega
  induction k with
  | zero => intro σ v0 v1 v2 v3 v4 v5 r h; simp [fz_X11_isSame_3] at h
  | succ k ih =>
    intro σ v0 v1 v2 v3 v4 v5 r h
    unfold fz_X11_isSame_3 at h
    refine az_il5 (pc := 3) C dX11_isSame_3 ?_
    refine az_il4 (pc := 5) C dX11_isSame_5 ?_
    refine az_icmp_ge (pc := 7) (tgt := 33) C h dX11_isSame_7 (by decide) (fun _ h => ?_) (fun _ h => ?_)
    · refine az_ik1 (pc := 33) C dX11_isSame_33 ?_
      obtain rfl := Option.some.inj h
      exact az_zreturn (pc := 34) C (by decide) dX11_isSame_34 rfl
    refine az_al0 (pc := 10) C rfl rfl dX11_isSame_10 ?_
    refine az_il1 (pc := 11) C dX11_isSame_11 ?_
    refine az_il5 (pc := 12) C dX11_isSame_12 ?_
    refine az_iadd (pc := 14) C dX11_isSame_14 ?_
    refine az_iaload (pc := 15) C h dX11_isSame_15 (fun h => ?_)
    refine az_al2 (pc := 16) C rfl rfl dX11_isSame_16 ?_
    refine az_il3 (pc := 17) C dX11_isSame_17 ?_
    refine az_il5 (pc := 18) C dX11_isSame_18 ?_
    refine az_iadd (pc := 20) C dX11_isSame_20 ?_
    refine az_iaload (pc := 21) C h dX11_isSame_21 (fun h => ?_)
    refine az_icmp_eq (pc := 22) (tgt := 27) C h dX11_isSame_22 (by decide) (fun _ h => ?_) (fun _ h => ?_)
    · refine az_ii5 (pc := 27) C az_n1 rfl rfl dX11_isSame_27 ?_
      refine az_goto (pc := 30) (tgt := 3) C dX11_isSame_30 (by decide) ?_
      exact (ih h)
    refine az_ik0 (pc := 25) C dX11_isSame_25 ?_
    obtain rfl := Option.some.inj h
    exact az_zreturn (pc := 26) C (by decide) dX11_isSame_26 rfl
set_option maxRecDepth 10000 in
set_option maxHeartbeats 4000000 in
theorem A_X11_isSame_e {Z : az_Z} {d : Nat} (C : az_C Z yX11_isSame cX11_isSame 6 (some .boolean) d) (hD : 1 ≤ d) (n : Nat) {σ : az_Hp} {v0 v1 v2 v3 v4 : Int} {r : Int} (h : fz_X11_isSame n σ v0 v1 v2 v3 v4 = some r) : az_AW Z 6 0 [(15, v0), (0, v1), (15, v2), (0, v3), (0, v4), (31, 0)] [] σ (some (0, r), σ) := by
  have hd1 : 1 ≤ d := by omega
  unfold fz_X11_isSame at h
  refine az_ik0 (pc := 0) C dX11_isSame_0 ?_
  refine az_is5 (pc := 1) C rfl rfl dX11_isSame_1 ?_
  exact (A_X11_isSame_3 C hD n n h)
set_option maxRecDepth 10000 in
set_option maxHeartbeats 4000000 in
theorem A_X11_isSame {l : Launch} {d : Nat} (hD : 1 ≤ d) (n : Nat) {σ : az_Hp} {v0 v1 v2 v3 v4 : Int} {r : Int} (h : fz_X11_isSame n σ v0 v1 v2 v3 v4 = some r) : az_AC l yX11_isSame cX11_isSame 6 (some .boolean) d [(15, v0), (0, v1), (15, v2), (0, v3), (0, v4)] σ (some (0, r), σ) := az_AC.of mt_X11_isSame rfl rfl rfl (fun Z hZ C => A_X11_isSame_e C hD n h)
theorem dX11_sizeAt_0 : decode cX11_sizeAt 0 = .ok (.iconst 1, 1) := by decide +kernel
theorem dX11_sizeAt_1 : decode cX11_sizeAt 1 = .ok (.istore_n 3, 1) := by decide +kernel
theorem dX11_sizeAt_2 : decode cX11_sizeAt 2 = .ok (.iload_n 2, 1) := by decide +kernel
theorem dX11_sizeAt_3 : decode cX11_sizeAt 3 = .ok (.istore 4, 2) := by decide +kernel
theorem dX11_sizeAt_5 : decode cX11_sizeAt 5 = .ok (.iload_n 3, 1) := by decide +kernel
theorem dX11_sizeAt_6 : decode cX11_sizeAt 6 = .ok (.ifCond .le 22, 3) := by decide +kernel
theorem dX11_sizeAt_9 : decode cX11_sizeAt 9 = .ok (.iload_n 3, 1) := by decide +kernel
theorem dX11_sizeAt_10 : decode cX11_sizeAt 10 = .ok (.aload_n 0, 1) := by decide +kernel
theorem dX11_sizeAt_11 : decode cX11_sizeAt 11 = .ok (.aload_n 1, 1) := by decide +kernel
theorem dX11_sizeAt_12 : decode cX11_sizeAt 12 = .ok (.iload 4, 2) := by decide +kernel
theorem dX11_sizeAt_14 : decode cX11_sizeAt 14 = .ok (.iaload, 1) := by decide +kernel
theorem dX11_sizeAt_15 : decode cX11_sizeAt 15 = .ok (.invokevirtual 336, 3) := by decide +kernel
theorem dX11_sizeAt_18 : decode cX11_sizeAt 18 = .ok (.iconst 1, 1) := by decide +kernel
theorem dX11_sizeAt_19 : decode cX11_sizeAt 19 = .ok (.isub, 1) := by decide +kernel
theorem dX11_sizeAt_20 : decode cX11_sizeAt 20 = .ok (.iadd, 1) := by decide +kernel
theorem dX11_sizeAt_21 : decode cX11_sizeAt 21 = .ok (.istore_n 3, 1) := by decide +kernel
theorem dX11_sizeAt_22 : decode cX11_sizeAt 22 = .ok (.iinc 4 1, 3) := by decide +kernel
theorem dX11_sizeAt_25 : decode cX11_sizeAt 25 = .ok (.goto (-20), 3) := by decide +kernel
theorem dX11_sizeAt_28 : decode cX11_sizeAt 28 = .ok (.iload 4, 2) := by decide +kernel
theorem dX11_sizeAt_30 : decode cX11_sizeAt 30 = .ok (.iload_n 2, 1) := by decide +kernel
theorem dX11_sizeAt_31 : decode cX11_sizeAt 31 = .ok (.isub, 1) := by decide +kernel
theorem dX11_sizeAt_32 : decode cX11_sizeAt 32 = .ok (.ireturn, 1) := by decide +kernel
set_option maxRecDepth 10000 in
set_option maxHeartbeats 4000000 in
theorem A_X11_sizeAt_5 {Z : az_Z} {d : Nat} (C : az_C Z yX11_sizeAt cX11_sizeAt 5 (some .int) d) (hD : 3 ≤ d) (n : Nat) (k : Nat) : ∀ {σ : az_Hp} {v0 v1 v2 v3 v4 : Int} {r : Int}, fz_X11_sizeAt_5 n k σ v0 v1 v2 v3 v4 = some r → az_AW Z 5 5 [(13, v0), (15, v1), (0, v2), (0, v3), (0, v4)] [] σ (some (0, r), σ) := by
  have hd1 : 1 ≤ d := by omega
  induction k with
  | zero => intro σ v0 v1 v2 v3 v4 r h; simp [fz_X11_sizeAt_5] at h
  | succ k ih =>
    intro σ v0 v1 v2 v3 v4 r h
    unfold fz_X11_sizeAt_5 at h
    refine az_il3 (pc := 5) C dX11_sizeAt_5 ?_
    refine az_if_le (pc := 6) (tgt := 28) C h dX11_sizeAt_6 (by decide) (fun _ h => ?_) (fun _ h => ?_)
    · refine az_il4 (pc := 28) C dX11_sizeAt_28 ?_
      refine az_il2 (pc := 30) C dX11_sizeAt_30 ?_
      refine az_isub (pc := 31) C dX11_sizeAt_31 ?_
      obtain rfl := Option.some.inj h
      exact az_ireturn (pc := 32) C dX11_sizeAt_32 rfl
    refine az_il3 (pc := 9) C dX11_sizeAt_9 ?_
    refine az_al0 (pc := 10) C rfl rfl dX11_sizeAt_10 ?_
    refine az_al1 (pc := 11) C rfl rfl dX11_sizeAt_11 ?_
    refine az_il4 (pc := 12) C dX11_sizeAt_12 ?_
    refine az_iaload (pc := 14) C h dX11_sizeAt_14 (fun h => ?_)
    refine az_cV1pi (pc := 15) (c := 11) C hd1 h mv_X11_takes ml_X11_336 rfl (fun x hx => A_X11_takes (by omega) hx) dX11_sizeAt_15 (fun r2 h => ?_)
    refine az_ik1 (pc := 18) C dX11_sizeAt_18 ?_
    refine az_isub (pc := 19) C dX11_sizeAt_19 ?_
    refine az_iadd (pc := 20) C dX11_sizeAt_20 ?_
    refine az_is3 (pc := 21) C rfl rfl dX11_sizeAt_21 ?_
    refine az_ii4 (pc := 22) C az_n1 rfl rfl dX11_sizeAt_22 ?_
    refine az_goto (pc := 25) (tgt := 5) C dX11_sizeAt_25 (by decide) ?_
    exact (ih h)
set_option maxRecDepth 10000 in
set_option maxHeartbeats 4000000 in
theorem A_X11_sizeAt_e {Z : az_Z} {d : Nat} (C : az_C Z yX11_sizeAt cX11_sizeAt 5 (some .int) d) (hD : 3 ≤ d) (n : Nat) {σ : az_Hp} {v0 v1 v2 : Int} {r : Int} (h : fz_X11_sizeAt n σ v0 v1 v2 = some r) : az_AW Z 5 0 [(13, v0), (15, v1), (0, v2), (31, 0), (31, 0)] [] σ (some (0, r), σ) := by
  have hd1 : 1 ≤ d := by omega
  unfold fz_X11_sizeAt at h
  refine az_ik1 (pc := 0) C dX11_sizeAt_0 ?_
  refine az_is3 (pc := 1) C rfl rfl dX11_sizeAt_1 ?_
  refine az_il2 (pc := 2) C dX11_sizeAt_2 ?_
  refine az_is4 (pc := 3) C rfl rfl dX11_sizeAt_3 ?_
  exact (A_X11_sizeAt_5 C hD n n h)
set_option maxRecDepth 10000 in
set_option maxHeartbeats 4000000 in
theorem A_X11_sizeAt {l : Launch} {d : Nat} (hD : 3 ≤ d) (n : Nat) {σ : az_Hp} {v0 v1 v2 : Int} {r : Int} (h : fz_X11_sizeAt n σ v0 v1 v2 = some r) : az_AC l yX11_sizeAt cX11_sizeAt 5 (some .int) d [(13, v0), (15, v1), (0, v2)] σ (some (0, r), σ) := az_AC.of mt_X11_sizeAt rfl rfl rfl (fun Z hZ C => A_X11_sizeAt_e C hD n h)
theorem dX11_flatNodeAt_0 : decode cX11_flatNodeAt 0 = .ok (.aload_n 0, 1) := by decide +kernel
theorem dX11_flatNodeAt_1 : decode cX11_flatNodeAt 1 = .ok (.aload_n 1, 1) := by decide +kernel
theorem dX11_flatNodeAt_2 : decode cX11_flatNodeAt 2 = .ok (.iload_n 2, 1) := by decide +kernel
theorem dX11_flatNodeAt_3 : decode cX11_flatNodeAt 3 = .ok (.invokevirtual 416, 3) := by decide +kernel
theorem dX11_flatNodeAt_6 : decode cX11_flatNodeAt 6 = .ok (.istore_n 3, 1) := by decide +kernel
theorem dX11_flatNodeAt_7 : decode cX11_flatNodeAt 7 = .ok (.iconst 0, 1) := by decide +kernel
theorem dX11_flatNodeAt_8 : decode cX11_flatNodeAt 8 = .ok (.istore 4, 2) := by decide +kernel
theorem dX11_flatNodeAt_10 : decode cX11_flatNodeAt 10 = .ok (.iload 4, 2) := by decide +kernel
theorem dX11_flatNodeAt_12 : decode cX11_flatNodeAt 12 = .ok (.aload_n 0, 1) := by decide +kernel
theorem dX11_flatNodeAt_13 : decode cX11_flatNodeAt 13 = .ok (.getfield 410, 3) := by decide +kernel
theorem dX11_flatNodeAt_16 : decode cX11_flatNodeAt 16 = .ok (.if_icmp .ge 45, 3) := by decide +kernel
theorem dX11_flatNodeAt_19 : decode cX11_flatNodeAt 19 = .ok (.aload_n 0, 1) := by decide +kernel
theorem dX11_flatNodeAt_20 : decode cX11_flatNodeAt 20 = .ok (.getfield 97, 3) := by decide +kernel
theorem dX11_flatNodeAt_23 : decode cX11_flatNodeAt 23 = .ok (.iload 4, 2) := by decide +kernel
theorem dX11_flatNodeAt_25 : decode cX11_flatNodeAt 25 = .ok (.iaload, 1) := by decide +kernel
theorem dX11_flatNodeAt_26 : decode cX11_flatNodeAt 26 = .ok (.iload_n 3, 1) := by decide +kernel
theorem dX11_flatNodeAt_27 : decode cX11_flatNodeAt 27 = .ok (.if_icmp .ne 28, 3) := by decide +kernel
theorem dX11_flatNodeAt_30 : decode cX11_flatNodeAt 30 = .ok (.aload_n 1, 1) := by decide +kernel
theorem dX11_flatNodeAt_31 : decode cX11_flatNodeAt 31 = .ok (.iload_n 2, 1) := by decide +kernel
theorem dX11_flatNodeAt_32 : decode cX11_flatNodeAt 32 = .ok (.aload_n 1, 1) := by decide +kernel
theorem dX11_flatNodeAt_33 : decode cX11_flatNodeAt 33 = .ok (.aload_n 0, 1) := by decide +kernel
theorem dX11_flatNodeAt_34 : decode cX11_flatNodeAt 34 = .ok (.getfield 94, 3) := by decide +kernel
theorem dX11_flatNodeAt_37 : decode cX11_flatNodeAt 37 = .ok (.iload 4, 2) := by decide +kernel
theorem dX11_flatNodeAt_39 : decode cX11_flatNodeAt 39 = .ok (.iaload, 1) := by decide +kernel
theorem dX11_flatNodeAt_40 : decode cX11_flatNodeAt 40 = .ok (.iload_n 3, 1) := by decide +kernel
theorem dX11_flatNodeAt_41 : decode cX11_flatNodeAt 41 = .ok (.invokestatic 420, 3) := by decide +kernel
theorem dX11_flatNodeAt_44 : decode cX11_flatNodeAt 44 = .ok (.ifCond .eq 11, 3) := by decide +kernel
theorem dX11_flatNodeAt_47 : decode cX11_flatNodeAt 47 = .ok (.aload_n 0, 1) := by decide +kernel
theorem dX11_flatNodeAt_48 : decode cX11_flatNodeAt 48 = .ok (.getfield 100, 3) := by decide +kernel
theorem dX11_flatNodeAt_51 : decode cX11_flatNodeAt 51 = .ok (.iload 4, 2) := by decide +kernel
theorem dX11_flatNodeAt_53 : decode cX11_flatNodeAt 53 = .ok (.iaload, 1) := by decide +kernel
theorem dX11_flatNodeAt_54 : decode cX11_flatNodeAt 54 = .ok (.ireturn, 1) := by decide +kernel
theorem dX11_flatNodeAt_55 : decode cX11_flatNodeAt 55 = .ok (.iinc 4 1, 3) := by decide +kernel
theorem dX11_flatNodeAt_58 : decode cX11_flatNodeAt 58 = .ok (.goto (-48), 3) := by decide +kernel
theorem dX11_flatNodeAt_61 : decode cX11_flatNodeAt 61 = .ok (.aload_n 0, 1) := by decide +kernel
theorem dX11_flatNodeAt_62 : decode cX11_flatNodeAt 62 = .ok (.getfield 94, 3) := by decide +kernel
theorem dX11_flatNodeAt_65 : decode cX11_flatNodeAt 65 = .ok (.aload_n 0, 1) := by decide +kernel
theorem dX11_flatNodeAt_66 : decode cX11_flatNodeAt 66 = .ok (.getfield 410, 3) := by decide +kernel
theorem dX11_flatNodeAt_69 : decode cX11_flatNodeAt 69 = .ok (.iload_n 2, 1) := by decide +kernel
theorem dX11_flatNodeAt_70 : decode cX11_flatNodeAt 70 = .ok (.iastore, 1) := by decide +kernel
theorem dX11_flatNodeAt_71 : decode cX11_flatNodeAt 71 = .ok (.aload_n 0, 1) := by decide +kernel
theorem dX11_flatNodeAt_72 : decode cX11_flatNodeAt 72 = .ok (.getfield 97, 3) := by decide +kernel
theorem dX11_flatNodeAt_75 : decode cX11_flatNodeAt 75 = .ok (.aload_n 0, 1) := by decide +kernel
theorem dX11_flatNodeAt_76 : decode cX11_flatNodeAt 76 = .ok (.getfield 410, 3) := by decide +kernel
theorem dX11_flatNodeAt_79 : decode cX11_flatNodeAt 79 = .ok (.iload_n 3, 1) := by decide +kernel
theorem dX11_flatNodeAt_80 : decode cX11_flatNodeAt 80 = .ok (.iastore, 1) := by decide +kernel
theorem dX11_flatNodeAt_81 : decode cX11_flatNodeAt 81 = .ok (.aload_n 0, 1) := by decide +kernel
theorem dX11_flatNodeAt_82 : decode cX11_flatNodeAt 82 = .ok (.getfield 100, 3) := by decide +kernel
theorem dX11_flatNodeAt_85 : decode cX11_flatNodeAt 85 = .ok (.aload_n 0, 1) := by decide +kernel
theorem dX11_flatNodeAt_86 : decode cX11_flatNodeAt 86 = .ok (.getfield 410, 3) := by decide +kernel
theorem dX11_flatNodeAt_89 : decode cX11_flatNodeAt 89 = .ok (.aload_n 0, 1) := by decide +kernel
theorem dX11_flatNodeAt_90 : decode cX11_flatNodeAt 90 = .ok (.sipush 1000, 3) := by decide +kernel
theorem dX11_flatNodeAt_93 : decode cX11_flatNodeAt 93 = .ok (.invokevirtual 413, 3) := by decide +kernel
theorem dX11_flatNodeAt_96 : decode cX11_flatNodeAt 96 = .ok (.iastore, 1) := by decide +kernel
theorem dX11_flatNodeAt_97 : decode cX11_flatNodeAt 97 = .ok (.aload_n 0, 1) := by decide +kernel
theorem dX11_flatNodeAt_98 : decode cX11_flatNodeAt 98 = .ok (.dup, 1) := by decide +kernel
theorem dX11_flatNodeAt_99 : decode cX11_flatNodeAt 99 = .ok (.getfield 410, 3) := by decide +kernel
theorem dX11_flatNodeAt_102 : decode cX11_flatNodeAt 102 = .ok (.iconst 1, 1) := by decide +kernel
theorem dX11_flatNodeAt_103 : decode cX11_flatNodeAt 103 = .ok (.iadd, 1) := by decide +kernel
theorem dX11_flatNodeAt_104 : decode cX11_flatNodeAt 104 = .ok (.putfield 410, 3) := by decide +kernel
theorem dX11_flatNodeAt_107 : decode cX11_flatNodeAt 107 = .ok (.aload_n 0, 1) := by decide +kernel
theorem dX11_flatNodeAt_108 : decode cX11_flatNodeAt 108 = .ok (.getfield 100, 3) := by decide +kernel
theorem dX11_flatNodeAt_111 : decode cX11_flatNodeAt 111 = .ok (.aload_n 0, 1) := by decide +kernel
theorem dX11_flatNodeAt_112 : decode cX11_flatNodeAt 112 = .ok (.getfield 410, 3) := by decide +kernel
theorem dX11_flatNodeAt_115 : decode cX11_flatNodeAt 115 = .ok (.iconst 1, 1) := by decide +kernel
theorem dX11_flatNodeAt_116 : decode cX11_flatNodeAt 116 = .ok (.isub, 1) := by decide +kernel
theorem dX11_flatNodeAt_117 : decode cX11_flatNodeAt 117 = .ok (.iaload, 1) := by decide +kernel
theorem dX11_flatNodeAt_118 : decode cX11_flatNodeAt 118 = .ok (.ireturn, 1) := by decide +kernel
set_option maxRecDepth 10000 in
set_option maxHeartbeats 4000000 in
theorem A_X11_flatNodeAt_10 {Z : az_Z} {d : Nat} (C : az_C Z yX11_flatNodeAt cX11_flatNodeAt 5 (some .int) d) (hD : 4 ≤ d) (n : Nat) (k : Nat) : ∀ {σ : az_Hp} {v0 v1 v2 v3 v4 : Int} {r : (Int × az_Hp)}, fz_X11_flatNodeAt_10 n k σ v0 v1 v2 v3 v4 = some r → az_AW Z 5 10 [(13, v0), (15, v1), (0, v2), (0, v3), (0, v4)] [] σ (some (0, r.1), r.2) := by
  have hd1 : 1 ≤ d := by omega
  induction k with
  | zero => intro σ v0 v1 v2 v3 v4 r h; simp [fz_X11_flatNodeAt_10] at h
  | succ k ih =>
    intro σ v0 v1 v2 v3 v4 r h
    unfold fz_X11_flatNodeAt_10 at h
    refine az_il4 (pc := 10) C dX11_flatNodeAt_10 ?_
    refine az_al0 (pc := 12) C rfl rfl dX11_flatNodeAt_12 ?_
    refine az_getI (pc := 13) C fl_X11_410 rfl dX11_flatNodeAt_13 ?_
    refine az_icmp_ge (pc := 16) (tgt := 61) C h dX11_flatNodeAt_16 (by decide) (fun _ h => ?_) (fun _ h => ?_)
    · refine az_al0 (pc := 61) C rfl rfl dX11_flatNodeAt_61 ?_
      refine az_getR (pc := 62) (c2 := 13) C h fl_X11_94 rfl rfl dX11_flatNodeAt_62 (fun h => ?_)
      refine az_al0 (pc := 65) C rfl rfl dX11_flatNodeAt_65 ?_
      refine az_getI (pc := 66) C fl_X11_410 rfl dX11_flatNodeAt_66 ?_
      refine az_il2 (pc := 69) C dX11_flatNodeAt_69 ?_
      refine az_iastore (pc := 70) C h dX11_flatNodeAt_70 (fun h => ?_)
      refine az_al0 (pc := 71) C rfl rfl dX11_flatNodeAt_71 ?_
      refine az_getR (pc := 72) (c2 := 13) C h fl_X11_97 rfl rfl dX11_flatNodeAt_72 (fun h => ?_)
      refine az_al0 (pc := 75) C rfl rfl dX11_flatNodeAt_75 ?_
      refine az_getI (pc := 76) C fl_X11_410 rfl dX11_flatNodeAt_76 ?_
      refine az_il3 (pc := 79) C dX11_flatNodeAt_79 ?_
      refine az_iastore (pc := 80) C h dX11_flatNodeAt_80 (fun h => ?_)
      refine az_al0 (pc := 81) C rfl rfl dX11_flatNodeAt_81 ?_
      refine az_getR (pc := 82) (c2 := 13) C h fl_X11_100 rfl rfl dX11_flatNodeAt_82 (fun h => ?_)
      refine az_al0 (pc := 85) C rfl rfl dX11_flatNodeAt_85 ?_
      refine az_getI (pc := 86) C fl_X11_410 rfl dX11_flatNodeAt_86 ?_
      refine az_al0 (pc := 89) C rfl rfl dX11_flatNodeAt_89 ?_
      refine az_sk1000 (pc := 90) C dX11_flatNodeAt_90 ?_
      refine az_cV1ii (pc := 93) (c := 11) C hd1 h mv_X11_adds ml_X11_413 rfl (fun x hx => A_X11_adds (by omega) hx) dX11_flatNodeAt_93 (fun r6 h => ?_)
      refine az_iastore (pc := 96) C h dX11_flatNodeAt_96 (fun h => ?_)
      refine az_al0 (pc := 97) C rfl rfl dX11_flatNodeAt_97 ?_
      refine az_dup (pc := 98) C rfl rfl dX11_flatNodeAt_98 ?_
      refine az_getI (pc := 99) C fl_X11_410 rfl dX11_flatNodeAt_99 ?_
      refine az_ik1 (pc := 102) C dX11_flatNodeAt_102 ?_
      refine az_iadd (pc := 103) C dX11_flatNodeAt_103 ?_
      refine az_putI (pc := 104) C fl_X11_410 (Or.inl rfl) rfl dX11_flatNodeAt_104 ?_
      refine az_al0 (pc := 107) C rfl rfl dX11_flatNodeAt_107 ?_
      refine az_getR (pc := 108) (c2 := 13) C h fl_X11_100 rfl rfl dX11_flatNodeAt_108 (fun h => ?_)
      refine az_al0 (pc := 111) C rfl rfl dX11_flatNodeAt_111 ?_
      refine az_getI (pc := 112) C fl_X11_410 rfl dX11_flatNodeAt_112 ?_
      refine az_ik1 (pc := 115) C dX11_flatNodeAt_115 ?_
      refine az_isub (pc := 116) C dX11_flatNodeAt_116 ?_
      refine az_iaload (pc := 117) C h dX11_flatNodeAt_117 (fun h => ?_)
      obtain rfl := Option.some.inj h
      exact az_ireturn (pc := 118) C dX11_flatNodeAt_118 rfl
    refine az_al0 (pc := 19) C rfl rfl dX11_flatNodeAt_19 ?_
    refine az_getR (pc := 20) (c2 := 13) C h fl_X11_97 rfl rfl dX11_flatNodeAt_20 (fun h => ?_)
    refine az_il4 (pc := 23) C dX11_flatNodeAt_23 ?_
    refine az_iaload (pc := 25) C h dX11_flatNodeAt_25 (fun h => ?_)
    refine az_il3 (pc := 26) C dX11_flatNodeAt_26 ?_
    refine az_icmp_ne (pc := 27) (tgt := 55) C h dX11_flatNodeAt_27 (by decide) (fun _ h => ?_) (fun _ h => ?_)
    · refine az_ii4 (pc := 55) C az_n1 rfl rfl dX11_flatNodeAt_55 ?_
      refine az_goto (pc := 58) (tgt := 10) C dX11_flatNodeAt_58 (by decide) ?_
      exact (ih h)
    refine az_al1 (pc := 30) C rfl rfl dX11_flatNodeAt_30 ?_
    refine az_il2 (pc := 31) C dX11_flatNodeAt_31 ?_
    refine az_al1 (pc := 32) C rfl rfl dX11_flatNodeAt_32 ?_
    refine az_al0 (pc := 33) C rfl rfl dX11_flatNodeAt_33 ?_
    refine az_getR (pc := 34) (c2 := 13) C h fl_X11_94 rfl rfl dX11_flatNodeAt_34 (fun h => ?_)
    refine az_il4 (pc := 37) C dX11_flatNodeAt_37 ?_
    refine az_iaload (pc := 39) C h dX11_flatNodeAt_39 (fun h => ?_)
    refine az_il3 (pc := 40) C dX11_flatNodeAt_40 ?_
    refine az_cS5pi (pc := 41) C hd1 h ms_X11_isSame ml_X11_420 rfl (fun x hx => A_X11_isSame (by omega) n hx) dX11_flatNodeAt_41 (fun r14 h => ?_)
    refine az_if_eq (pc := 44) (tgt := 55) C h dX11_flatNodeAt_44 (by decide) (fun _ h => ?_) (fun _ h => ?_)
    · refine az_ii4 (pc := 55) C az_n1 rfl rfl dX11_flatNodeAt_55 ?_
      refine az_goto (pc := 58) (tgt := 10) C dX11_flatNodeAt_58 (by decide) ?_
      exact (ih h)
    refine az_al0 (pc := 47) C rfl rfl dX11_flatNodeAt_47 ?_
    refine az_getR (pc := 48) (c2 := 13) C h fl_X11_100 rfl rfl dX11_flatNodeAt_48 (fun h => ?_)
    refine az_il4 (pc := 51) C dX11_flatNodeAt_51 ?_
    refine az_iaload (pc := 53) C h dX11_flatNodeAt_53 (fun h => ?_)
    obtain rfl := Option.some.inj h
    exact az_ireturn (pc := 54) C dX11_flatNodeAt_54 rfl
set_option maxRecDepth 10000 in
set_option maxHeartbeats 4000000 in
theorem A_X11_flatNodeAt_e {Z : az_Z} {d : Nat} (C : az_C Z yX11_flatNodeAt cX11_flatNodeAt 5 (some .int) d) (hD : 4 ≤ d) (n : Nat) {σ : az_Hp} {v0 v1 v2 : Int} {r : (Int × az_Hp)} (h : fz_X11_flatNodeAt n σ v0 v1 v2 = some r) : az_AW Z 5 0 [(13, v0), (15, v1), (0, v2), (31, 0), (31, 0)] [] σ (some (0, r.1), r.2) := by
  have hd1 : 1 ≤ d := by omega
  unfold fz_X11_flatNodeAt at h
  refine az_al0 (pc := 0) C rfl rfl dX11_flatNodeAt_0 ?_
  refine az_al1 (pc := 1) C rfl rfl dX11_flatNodeAt_1 ?_
  refine az_il2 (pc := 2) C dX11_flatNodeAt_2 ?_
  refine az_cV2pi (pc := 3) (c := 11) C hd1 h mv_X11_sizeAt ml_X11_416 rfl (fun x hx => A_X11_sizeAt (by omega) n hx) dX11_flatNodeAt_3 (fun r1 h => ?_)
  refine az_is3 (pc := 6) C rfl rfl dX11_flatNodeAt_6 ?_
  refine az_ik0 (pc := 7) C dX11_flatNodeAt_7 ?_
  refine az_is4 (pc := 8) C rfl rfl dX11_flatNodeAt_8 ?_
  exact (A_X11_flatNodeAt_10 C hD n n h)
set_option maxRecDepth 10000 in
set_option maxHeartbeats 4000000 in
theorem A_X11_flatNodeAt {l : Launch} {d : Nat} (hD : 4 ≤ d) (n : Nat) {σ : az_Hp} {v0 v1 v2 : Int} {r : (Int × az_Hp)} (h : fz_X11_flatNodeAt n σ v0 v1 v2 = some r) : az_AC l yX11_flatNodeAt cX11_flatNodeAt 5 (some .int) d [(13, v0), (15, v1), (0, v2)] σ (some (0, r.1), r.2) := az_AC.of mt_X11_flatNodeAt rfl rfl rfl (fun Z hZ C => A_X11_flatNodeAt_e C hD n h)
theorem dX11_variableNode_0 : decode cX11_variableNode 0 = .ok (.iconst 0, 1) := by decide +kernel
theorem dX11_variableNode_1 : decode cX11_variableNode 1 = .ok (.istore_n 3, 1) := by decide +kernel
theorem dX11_variableNode_2 : decode cX11_variableNode 2 = .ok (.iload_n 3, 1) := by decide +kernel
theorem dX11_variableNode_3 : decode cX11_variableNode 3 = .ok (.aload_n 0, 1) := by decide +kernel
theorem dX11_variableNode_4 : decode cX11_variableNode 4 = .ok (.getfield 407, 3) := by decide +kernel
theorem dX11_variableNode_7 : decode cX11_variableNode 7 = .ok (.if_icmp .ge 36, 3) := by decide +kernel
theorem dX11_variableNode_10 : decode cX11_variableNode 10 = .ok (.aload_n 0, 1) := by decide +kernel
theorem dX11_variableNode_11 : decode cX11_variableNode 11 = .ok (.getfield 85, 3) := by decide +kernel
theorem dX11_variableNode_14 : decode cX11_variableNode 14 = .ok (.iload_n 3, 1) := by decide +kernel
theorem dX11_variableNode_15 : decode cX11_variableNode 15 = .ok (.iaload, 1) := by decide +kernel
theorem dX11_variableNode_16 : decode cX11_variableNode 16 = .ok (.iload_n 2, 1) := by decide +kernel
theorem dX11_variableNode_17 : decode cX11_variableNode 17 = .ok (.if_icmp .ne 20, 3) := by decide +kernel
theorem dX11_variableNode_20 : decode cX11_variableNode 20 = .ok (.aload_n 0, 1) := by decide +kernel
theorem dX11_variableNode_21 : decode cX11_variableNode 21 = .ok (.getfield 88, 3) := by decide +kernel
theorem dX11_variableNode_24 : decode cX11_variableNode 24 = .ok (.iload_n 3, 1) := by decide +kernel
theorem dX11_variableNode_25 : decode cX11_variableNode 25 = .ok (.iaload, 1) := by decide +kernel
theorem dX11_variableNode_26 : decode cX11_variableNode 26 = .ok (.iload_n 1, 1) := by decide +kernel
theorem dX11_variableNode_27 : decode cX11_variableNode 27 = .ok (.if_icmp .ne 10, 3) := by decide +kernel
theorem dX11_variableNode_30 : decode cX11_variableNode 30 = .ok (.aload_n 0, 1) := by decide +kernel
theorem dX11_variableNode_31 : decode cX11_variableNode 31 = .ok (.getfield 91, 3) := by decide +kernel
theorem dX11_variableNode_34 : decode cX11_variableNode 34 = .ok (.iload_n 3, 1) := by decide +kernel
theorem dX11_variableNode_35 : decode cX11_variableNode 35 = .ok (.iaload, 1) := by decide +kernel
theorem dX11_variableNode_36 : decode cX11_variableNode 36 = .ok (.ireturn, 1) := by decide +kernel
theorem dX11_variableNode_37 : decode cX11_variableNode 37 = .ok (.iinc 3 1, 3) := by decide +kernel
theorem dX11_variableNode_40 : decode cX11_variableNode 40 = .ok (.goto (-38), 3) := by decide +kernel
theorem dX11_variableNode_43 : decode cX11_variableNode 43 = .ok (.aload_n 0, 1) := by decide +kernel
theorem dX11_variableNode_44 : decode cX11_variableNode 44 = .ok (.getfield 85, 3) := by decide +kernel
theorem dX11_variableNode_47 : decode cX11_variableNode 47 = .ok (.aload_n 0, 1) := by decide +kernel
theorem dX11_variableNode_48 : decode cX11_variableNode 48 = .ok (.getfield 407, 3) := by decide +kernel
theorem dX11_variableNode_51 : decode cX11_variableNode 51 = .ok (.iload_n 2, 1) := by decide +kernel
theorem dX11_variableNode_52 : decode cX11_variableNode 52 = .ok (.iastore, 1) := by decide +kernel
theorem dX11_variableNode_53 : decode cX11_variableNode 53 = .ok (.aload_n 0, 1) := by decide +kernel
theorem dX11_variableNode_54 : decode cX11_variableNode 54 = .ok (.getfield 88, 3) := by decide +kernel
theorem dX11_variableNode_57 : decode cX11_variableNode 57 = .ok (.aload_n 0, 1) := by decide +kernel
theorem dX11_variableNode_58 : decode cX11_variableNode 58 = .ok (.getfield 407, 3) := by decide +kernel
theorem dX11_variableNode_61 : decode cX11_variableNode 61 = .ok (.iload_n 1, 1) := by decide +kernel
theorem dX11_variableNode_62 : decode cX11_variableNode 62 = .ok (.iastore, 1) := by decide +kernel
theorem dX11_variableNode_63 : decode cX11_variableNode 63 = .ok (.aload_n 0, 1) := by decide +kernel
theorem dX11_variableNode_64 : decode cX11_variableNode 64 = .ok (.getfield 91, 3) := by decide +kernel
theorem dX11_variableNode_67 : decode cX11_variableNode 67 = .ok (.aload_n 0, 1) := by decide +kernel
theorem dX11_variableNode_68 : decode cX11_variableNode 68 = .ok (.getfield 407, 3) := by decide +kernel
theorem dX11_variableNode_71 : decode cX11_variableNode 71 = .ok (.aload_n 0, 1) := by decide +kernel
theorem dX11_variableNode_72 : decode cX11_variableNode 72 = .ok (.sipush 1000, 3) := by decide +kernel
theorem dX11_variableNode_75 : decode cX11_variableNode 75 = .ok (.invokevirtual 413, 3) := by decide +kernel
theorem dX11_variableNode_78 : decode cX11_variableNode 78 = .ok (.iastore, 1) := by decide +kernel
theorem dX11_variableNode_79 : decode cX11_variableNode 79 = .ok (.aload_n 0, 1) := by decide +kernel
theorem dX11_variableNode_80 : decode cX11_variableNode 80 = .ok (.dup, 1) := by decide +kernel
theorem dX11_variableNode_81 : decode cX11_variableNode 81 = .ok (.getfield 407, 3) := by decide +kernel
theorem dX11_variableNode_84 : decode cX11_variableNode 84 = .ok (.iconst 1, 1) := by decide +kernel
theorem dX11_variableNode_85 : decode cX11_variableNode 85 = .ok (.iadd, 1) := by decide +kernel
theorem dX11_variableNode_86 : decode cX11_variableNode 86 = .ok (.putfield 407, 3) := by decide +kernel
theorem dX11_variableNode_89 : decode cX11_variableNode 89 = .ok (.aload_n 0, 1) := by decide +kernel
theorem dX11_variableNode_90 : decode cX11_variableNode 90 = .ok (.getfield 91, 3) := by decide +kernel
theorem dX11_variableNode_93 : decode cX11_variableNode 93 = .ok (.aload_n 0, 1) := by decide +kernel
theorem dX11_variableNode_94 : decode cX11_variableNode 94 = .ok (.getfield 407, 3) := by decide +kernel
theorem dX11_variableNode_97 : decode cX11_variableNode 97 = .ok (.iconst 1, 1) := by decide +kernel
theorem dX11_variableNode_98 : decode cX11_variableNode 98 = .ok (.isub, 1) := by decide +kernel
theorem dX11_variableNode_99 : decode cX11_variableNode 99 = .ok (.iaload, 1) := by decide +kernel
theorem dX11_variableNode_100 : decode cX11_variableNode 100 = .ok (.ireturn, 1) := by decide +kernel
set_option maxRecDepth 10000 in
set_option maxHeartbeats 4000000 in
theorem A_X11_variableNode_2 {Z : az_Z} {d : Nat} (C : az_C Z yX11_variableNode cX11_variableNode 4 (some .int) d) (hD : 2 ≤ d) (n : Nat) (k : Nat) : ∀ {σ : az_Hp} {v0 v1 v2 v3 : Int} {r : (Int × az_Hp)}, fz_X11_variableNode_2 n k σ v0 v1 v2 v3 = some r → az_AW Z 4 2 [(13, v0), (0, v1), (0, v2), (0, v3)] [] σ (some (0, r.1), r.2) := by
  have hd1 : 1 ≤ d := by omega
  induction k with
  | zero => intro σ v0 v1 v2 v3 r h; simp [fz_X11_variableNode_2] at h
  | succ k ih =>
    intro σ v0 v1 v2 v3 r h
    unfold fz_X11_variableNode_2 at h
    refine az_il3 (pc := 2) C dX11_variableNode_2 ?_
    refine az_al0 (pc := 3) C rfl rfl dX11_variableNode_3 ?_
    refine az_getI (pc := 4) C fl_X11_407 rfl dX11_variableNode_4 ?_
    refine az_icmp_ge (pc := 7) (tgt := 43) C h dX11_variableNode_7 (by decide) (fun _ h => ?_) (fun _ h => ?_)
    · refine az_al0 (pc := 43) C rfl rfl dX11_variableNode_43 ?_
      refine az_getR (pc := 44) (c2 := 13) C h fl_X11_85 rfl rfl dX11_variableNode_44 (fun h => ?_)
      refine az_al0 (pc := 47) C rfl rfl dX11_variableNode_47 ?_
      refine az_getI (pc := 48) C fl_X11_407 rfl dX11_variableNode_48 ?_
      refine az_il2 (pc := 51) C dX11_variableNode_51 ?_
      refine az_iastore (pc := 52) C h dX11_variableNode_52 (fun h => ?_)
      refine az_al0 (pc := 53) C rfl rfl dX11_variableNode_53 ?_
      refine az_getR (pc := 54) (c2 := 13) C h fl_X11_88 rfl rfl dX11_variableNode_54 (fun h => ?_)
      refine az_al0 (pc := 57) C rfl rfl dX11_variableNode_57 ?_
      refine az_getI (pc := 58) C fl_X11_407 rfl dX11_variableNode_58 ?_
      refine az_il1 (pc := 61) C dX11_variableNode_61 ?_
      refine az_iastore (pc := 62) C h dX11_variableNode_62 (fun h => ?_)
      refine az_al0 (pc := 63) C rfl rfl dX11_variableNode_63 ?_
      refine az_getR (pc := 64) (c2 := 13) C h fl_X11_91 rfl rfl dX11_variableNode_64 (fun h => ?_)
      refine az_al0 (pc := 67) C rfl rfl dX11_variableNode_67 ?_
      refine az_getI (pc := 68) C fl_X11_407 rfl dX11_variableNode_68 ?_
      refine az_al0 (pc := 71) C rfl rfl dX11_variableNode_71 ?_
      refine az_sk1000 (pc := 72) C dX11_variableNode_72 ?_
      refine az_cV1ii (pc := 75) (c := 11) C hd1 h mv_X11_adds ml_X11_413 rfl (fun x hx => A_X11_adds (by omega) hx) dX11_variableNode_75 (fun r6 h => ?_)
      refine az_iastore (pc := 78) C h dX11_variableNode_78 (fun h => ?_)
      refine az_al0 (pc := 79) C rfl rfl dX11_variableNode_79 ?_
      refine az_dup (pc := 80) C rfl rfl dX11_variableNode_80 ?_
      refine az_getI (pc := 81) C fl_X11_407 rfl dX11_variableNode_81 ?_
      refine az_ik1 (pc := 84) C dX11_variableNode_84 ?_
      refine az_iadd (pc := 85) C dX11_variableNode_85 ?_
      refine az_putI (pc := 86) C fl_X11_407 (Or.inl rfl) rfl dX11_variableNode_86 ?_
      refine az_al0 (pc := 89) C rfl rfl dX11_variableNode_89 ?_
      refine az_getR (pc := 90) (c2 := 13) C h fl_X11_91 rfl rfl dX11_variableNode_90 (fun h => ?_)
      refine az_al0 (pc := 93) C rfl rfl dX11_variableNode_93 ?_
      refine az_getI (pc := 94) C fl_X11_407 rfl dX11_variableNode_94 ?_
      refine az_ik1 (pc := 97) C dX11_variableNode_97 ?_
      refine az_isub (pc := 98) C dX11_variableNode_98 ?_
      refine az_iaload (pc := 99) C h dX11_variableNode_99 (fun h => ?_)
      obtain rfl := Option.some.inj h
      exact az_ireturn (pc := 100) C dX11_variableNode_100 rfl
    refine az_al0 (pc := 10) C rfl rfl dX11_variableNode_10 ?_
    refine az_getR (pc := 11) (c2 := 13) C h fl_X11_85 rfl rfl dX11_variableNode_11 (fun h => ?_)
    refine az_il3 (pc := 14) C dX11_variableNode_14 ?_
    refine az_iaload (pc := 15) C h dX11_variableNode_15 (fun h => ?_)
    refine az_il2 (pc := 16) C dX11_variableNode_16 ?_
    refine az_icmp_ne (pc := 17) (tgt := 37) C h dX11_variableNode_17 (by decide) (fun _ h => ?_) (fun _ h => ?_)
    · refine az_ii3 (pc := 37) C az_n1 rfl rfl dX11_variableNode_37 ?_
      refine az_goto (pc := 40) (tgt := 2) C dX11_variableNode_40 (by decide) ?_
      exact (ih h)
    refine az_al0 (pc := 20) C rfl rfl dX11_variableNode_20 ?_
    refine az_getR (pc := 21) (c2 := 13) C h fl_X11_88 rfl rfl dX11_variableNode_21 (fun h => ?_)
    refine az_il3 (pc := 24) C dX11_variableNode_24 ?_
    refine az_iaload (pc := 25) C h dX11_variableNode_25 (fun h => ?_)
    refine az_il1 (pc := 26) C dX11_variableNode_26 ?_
    refine az_icmp_ne (pc := 27) (tgt := 37) C h dX11_variableNode_27 (by decide) (fun _ h => ?_) (fun _ h => ?_)
    · refine az_ii3 (pc := 37) C az_n1 rfl rfl dX11_variableNode_37 ?_
      refine az_goto (pc := 40) (tgt := 2) C dX11_variableNode_40 (by decide) ?_
      exact (ih h)
    refine az_al0 (pc := 30) C rfl rfl dX11_variableNode_30 ?_
    refine az_getR (pc := 31) (c2 := 13) C h fl_X11_91 rfl rfl dX11_variableNode_31 (fun h => ?_)
    refine az_il3 (pc := 34) C dX11_variableNode_34 ?_
    refine az_iaload (pc := 35) C h dX11_variableNode_35 (fun h => ?_)
    obtain rfl := Option.some.inj h
    exact az_ireturn (pc := 36) C dX11_variableNode_36 rfl
set_option maxRecDepth 10000 in
set_option maxHeartbeats 4000000 in
theorem A_X11_variableNode_e {Z : az_Z} {d : Nat} (C : az_C Z yX11_variableNode cX11_variableNode 4 (some .int) d) (hD : 2 ≤ d) (n : Nat) {σ : az_Hp} {v0 v1 v2 : Int} {r : (Int × az_Hp)} (h : fz_X11_variableNode n σ v0 v1 v2 = some r) : az_AW Z 4 0 [(13, v0), (0, v1), (0, v2), (31, 0)] [] σ (some (0, r.1), r.2) := by
  have hd1 : 1 ≤ d := by omega
  unfold fz_X11_variableNode at h
  refine az_ik0 (pc := 0) C dX11_variableNode_0 ?_
  refine az_is3 (pc := 1) C rfl rfl dX11_variableNode_1 ?_
  exact (A_X11_variableNode_2 C hD n n h)
set_option maxRecDepth 10000 in
set_option maxHeartbeats 4000000 in
theorem A_X11_variableNode {l : Launch} {d : Nat} (hD : 2 ≤ d) (n : Nat) {σ : az_Hp} {v0 v1 v2 : Int} {r : (Int × az_Hp)} (h : fz_X11_variableNode n σ v0 v1 v2 = some r) : az_AC l yX11_variableNode cX11_variableNode 4 (some .int) d [(13, v0), (0, v1), (0, v2)] σ (some (0, r.1), r.2) := az_AC.of mt_X11_variableNode rfl rfl rfl (fun Z hZ C => A_X11_variableNode_e C hD n h)
theorem dX11_builds_0 : decode cX11_builds 0 = .ok (.aload_n 1, 1) := by decide +kernel
theorem dX11_builds_1 : decode cX11_builds 1 = .ok (.aload_n 0, 1) := by decide +kernel
theorem dX11_builds_2 : decode cX11_builds 2 = .ok (.getfield 424, 3) := by decide +kernel
theorem dX11_builds_5 : decode cX11_builds 5 = .ok (.iaload, 1) := by decide +kernel
theorem dX11_builds_6 : decode cX11_builds 6 = .ok (.istore 4, 2) := by decide +kernel
theorem dX11_builds_8 : decode cX11_builds 8 = .ok (.iload_n 3, 1) := by decide +kernel
theorem dX11_builds_9 : decode cX11_builds 9 = .ok (.ifCond .eq 43, 3) := by decide +kernel
theorem dX11_builds_12 : decode cX11_builds 12 = .ok (.iload 4, 2) := by decide +kernel
theorem dX11_builds_14 : decode cX11_builds 14 = .ok (.invokestatic 291, 3) := by decide +kernel
theorem dX11_builds_17 : decode cX11_builds 17 = .ok (.ifCond .eq 35, 3) := by decide +kernel
theorem dX11_builds_20 : decode cX11_builds 20 = .ok (.aload_n 0, 1) := by decide +kernel
theorem dX11_builds_21 : decode cX11_builds 21 = .ok (.aload_n 1, 1) := by decide +kernel
theorem dX11_builds_22 : decode cX11_builds 22 = .ok (.aload_n 0, 1) := by decide +kernel
theorem dX11_builds_23 : decode cX11_builds 23 = .ok (.getfield 424, 3) := by decide +kernel
theorem dX11_builds_26 : decode cX11_builds 26 = .ok (.invokevirtual 427, 3) := by decide +kernel
theorem dX11_builds_29 : decode cX11_builds 29 = .ok (.istore 5, 2) := by decide +kernel
theorem dX11_builds_31 : decode cX11_builds 31 = .ok (.aload_n 0, 1) := by decide +kernel
theorem dX11_builds_32 : decode cX11_builds 32 = .ok (.dup, 1) := by decide +kernel
theorem dX11_builds_33 : decode cX11_builds 33 = .ok (.getfield 424, 3) := by decide +kernel
theorem dX11_builds_36 : decode cX11_builds 36 = .ok (.aload_n 0, 1) := by decide +kernel
theorem dX11_builds_37 : decode cX11_builds 37 = .ok (.aload_n 1, 1) := by decide +kernel
theorem dX11_builds_38 : decode cX11_builds 38 = .ok (.aload_n 0, 1) := by decide +kernel
theorem dX11_builds_39 : decode cX11_builds 39 = .ok (.getfield 424, 3) := by decide +kernel
theorem dX11_builds_42 : decode cX11_builds 42 = .ok (.invokevirtual 416, 3) := by decide +kernel
theorem dX11_builds_45 : decode cX11_builds 45 = .ok (.iadd, 1) := by decide +kernel
theorem dX11_builds_46 : decode cX11_builds 46 = .ok (.putfield 424, 3) := by decide +kernel
theorem dX11_builds_49 : decode cX11_builds 49 = .ok (.iload 5, 2) := by decide +kernel
theorem dX11_builds_51 : decode cX11_builds 51 = .ok (.ireturn, 1) := by decide +kernel
theorem dX11_builds_52 : decode cX11_builds 52 = .ok (.aload_n 0, 1) := by decide +kernel
theorem dX11_builds_53 : decode cX11_builds 53 = .ok (.dup, 1) := by decide +kernel
theorem dX11_builds_54 : decode cX11_builds 54 = .ok (.getfield 424, 3) := by decide +kernel
theorem dX11_builds_57 : decode cX11_builds 57 = .ok (.iconst 1, 1) := by decide +kernel
theorem dX11_builds_58 : decode cX11_builds 58 = .ok (.iadd, 1) := by decide +kernel
theorem dX11_builds_59 : decode cX11_builds 59 = .ok (.putfield 424, 3) := by decide +kernel
theorem dX11_builds_62 : decode cX11_builds 62 = .ok (.iload 4, 2) := by decide +kernel
theorem dX11_builds_64 : decode cX11_builds 64 = .ok (.invokestatic 288, 3) := by decide +kernel
theorem dX11_builds_67 : decode cX11_builds 67 = .ok (.ifCond .eq 11, 3) := by decide +kernel
theorem dX11_builds_70 : decode cX11_builds 70 = .ok (.aload_n 0, 1) := by decide +kernel
theorem dX11_builds_71 : decode cX11_builds 71 = .ok (.iload 4, 2) := by decide +kernel
theorem dX11_builds_73 : decode cX11_builds 73 = .ok (.iload_n 2, 1) := by decide +kernel
theorem dX11_builds_74 : decode cX11_builds 74 = .ok (.invokevirtual 430, 3) := by decide +kernel
theorem dX11_builds_77 : decode cX11_builds 77 = .ok (.ireturn, 1) := by decide +kernel
theorem dX11_builds_78 : decode cX11_builds 78 = .ok (.aload_n 0, 1) := by decide +kernel
theorem dX11_builds_79 : decode cX11_builds 79 = .ok (.iload 4, 2) := by decide +kernel
theorem dX11_builds_81 : decode cX11_builds 81 = .ok (.invokevirtual 413, 3) := by decide +kernel
theorem dX11_builds_84 : decode cX11_builds 84 = .ok (.istore 5, 2) := by decide +kernel
theorem dX11_builds_86 : decode cX11_builds 86 = .ok (.iconst 0, 1) := by decide +kernel
theorem dX11_builds_87 : decode cX11_builds 87 = .ok (.istore 6, 2) := by decide +kernel
theorem dX11_builds_89 : decode cX11_builds 89 = .ok (.iload 6, 2) := by decide +kernel
theorem dX11_builds_91 : decode cX11_builds 91 = .ok (.aload_n 0, 1) := by decide +kernel
theorem dX11_builds_92 : decode cX11_builds 92 = .ok (.iload 4, 2) := by decide +kernel
theorem dX11_builds_94 : decode cX11_builds 94 = .ok (.invokevirtual 336, 3) := by decide +kernel
theorem dX11_builds_97 : decode cX11_builds 97 = .ok (.if_icmp .ge 28, 3) := by decide +kernel
theorem dX11_builds_100 : decode cX11_builds 100 = .ok (.aload_n 0, 1) := by decide +kernel
theorem dX11_builds_101 : decode cX11_builds 101 = .ok (.getfield 76, 3) := by decide +kernel
theorem dX11_builds_104 : decode cX11_builds 104 = .ok (.iconst 3, 1) := by decide +kernel
theorem dX11_builds_105 : decode cX11_builds 105 = .ok (.iload 5, 2) := by decide +kernel
theorem dX11_builds_107 : decode cX11_builds 107 = .ok (.imul, 1) := by decide +kernel
theorem dX11_builds_108 : decode cX11_builds 108 = .ok (.iload 6, 2) := by decide +kernel
theorem dX11_builds_110 : decode cX11_builds 110 = .ok (.iadd, 1) := by decide +kernel
theorem dX11_builds_111 : decode cX11_builds 111 = .ok (.aload_n 0, 1) := by decide +kernel
theorem dX11_builds_112 : decode cX11_builds 112 = .ok (.aload_n 1, 1) := by decide +kernel
theorem dX11_builds_113 : decode cX11_builds 113 = .ok (.iload_n 2, 1) := by decide +kernel
theorem dX11_builds_114 : decode cX11_builds 114 = .ok (.iload_n 3, 1) := by decide +kernel
theorem dX11_builds_115 : decode cX11_builds 115 = .ok (.invokevirtual 434, 3) := by decide +kernel
theorem dX11_builds_118 : decode cX11_builds 118 = .ok (.iastore, 1) := by decide +kernel
theorem dX11_builds_119 : decode cX11_builds 119 = .ok (.iinc 6 1, 3) := by decide +kernel
theorem dX11_builds_122 : decode cX11_builds 122 = .ok (.goto (-33), 3) := by decide +kernel
theorem dX11_builds_125 : decode cX11_builds 125 = .ok (.iload 5, 2) := by decide +kernel
theorem dX11_builds_127 : decode cX11_builds 127 = .ok (.ireturn, 1) := by decide +kernel
set_option maxRecDepth 10000 in
set_option maxHeartbeats 4000000 in
theorem A_X11_builds_89 {Z : az_Z} {d : Nat} (C : az_C Z yX11_builds cX11_builds 7 (some .int) d) (hD : 5 ≤ d) (n : Nat) {dr : Nat} {rec : az_Hp → Int → Int → Int → Int → Option (Int × az_Hp)} (hrec : ∀ {l : Launch} {d' : Nat}, dr ≤ d' → ∀ {σ : az_Hp} {u0 u1 u2 u3 : Int} {r : (Int × az_Hp)}, rec σ u0 u1 u2 u3 = some r → az_AC l yX11_builds cX11_builds 7 (some .int) d' [(13, u0), (15, u1), (0, u2), (0, u3)] σ (some (0, r.1), r.2)) (hr : dr + 1 ≤ d) (k : Nat) : ∀ {σ : az_Hp} {v0 v1 v2 v3 v4 v5 v6 : Int} {r : (Int × az_Hp)}, fz_X11_builds_89 n rec k σ v0 v1 v2 v3 v4 v5 v6 = some r → az_AW Z 7 89 [(13, v0), (15, v1), (0, v2), (0, v3), (0, v4), (0, v5), (0, v6)] [] σ (some (0, r.1), r.2) := by
  have hd1 : 1 ≤ d := by omega
  induction k with
  | zero => intro σ v0 v1 v2 v3 v4 v5 v6 r h; simp [fz_X11_builds_89] at h
  | succ k ih =>
    intro σ v0 v1 v2 v3 v4 v5 v6 r h
    unfold fz_X11_builds_89 at h
    refine az_il6 (pc := 89) C dX11_builds_89 ?_
    refine az_al0 (pc := 91) C rfl rfl dX11_builds_91 ?_
    refine az_il4 (pc := 92) C dX11_builds_92 ?_
    refine az_cV1pi (pc := 94) (c := 11) C hd1 h mv_X11_takes ml_X11_336 rfl (fun x hx => A_X11_takes (by omega) hx) dX11_builds_94 (fun r1 h => ?_)
    refine az_icmp_ge (pc := 97) (tgt := 125) C h dX11_builds_97 (by decide) (fun _ h => ?_) (fun _ h => ?_)
    · refine az_il5 (pc := 125) C dX11_builds_125 ?_
      obtain rfl := Option.some.inj h
      exact az_ireturn (pc := 127) C dX11_builds_127 rfl
    refine az_al0 (pc := 100) C rfl rfl dX11_builds_100 ?_
    refine az_getR (pc := 101) (c2 := 13) C h fl_X11_76 rfl rfl dX11_builds_101 (fun h => ?_)
    refine az_ik3 (pc := 104) C dX11_builds_104 ?_
    refine az_il5 (pc := 105) C dX11_builds_105 ?_
    refine az_imul (pc := 107) C dX11_builds_107 ?_
    refine az_il6 (pc := 108) C dX11_builds_108 ?_
    refine az_iadd (pc := 110) C dX11_builds_110 ?_
    refine az_al0 (pc := 111) C rfl rfl dX11_builds_111 ?_
    refine az_al1 (pc := 112) C rfl rfl dX11_builds_112 ?_
    refine az_il2 (pc := 113) C dX11_builds_113 ?_
    refine az_il3 (pc := 114) C dX11_builds_114 ?_
    refine az_cV3ii (pc := 115) (c := 11) C hd1 h mv_X11_builds ml_X11_434 rfl (fun x hx => hrec (by omega) hx) dX11_builds_115 (fun r3 h => ?_)
    refine az_iastore (pc := 118) C h dX11_builds_118 (fun h => ?_)
    refine az_ii6 (pc := 119) C az_n1 rfl rfl dX11_builds_119 ?_
    refine az_goto (pc := 122) (tgt := 89) C dX11_builds_122 (by decide) ?_
    exact (ih h)
set_option maxRecDepth 10000 in
set_option maxHeartbeats 4000000 in
theorem A_X11_builds_52 {Z : az_Z} {d : Nat} (C : az_C Z yX11_builds cX11_builds 7 (some .int) d) (hD : 5 ≤ d) (n : Nat) {dr : Nat} {rec : az_Hp → Int → Int → Int → Int → Option (Int × az_Hp)} (hrec : ∀ {l : Launch} {d' : Nat}, dr ≤ d' → ∀ {σ : az_Hp} {u0 u1 u2 u3 : Int} {r : (Int × az_Hp)}, rec σ u0 u1 u2 u3 = some r → az_AC l yX11_builds cX11_builds 7 (some .int) d' [(13, u0), (15, u1), (0, u2), (0, u3)] σ (some (0, r.1), r.2)) (hr : dr + 1 ≤ d) {σ : az_Hp} {v0 v1 v2 v3 v4 : Int} {r : (Int × az_Hp)} (h : fz_X11_builds_52 n rec σ v0 v1 v2 v3 v4 = some r) : az_AW Z 7 52 [(13, v0), (15, v1), (0, v2), (0, v3), (0, v4), (31, 0), (31, 0)] [] σ (some (0, r.1), r.2) := by
  have hd1 : 1 ≤ d := by omega
  unfold fz_X11_builds_52 at h
  refine az_al0 (pc := 52) C rfl rfl dX11_builds_52 ?_
  refine az_dup (pc := 53) C rfl rfl dX11_builds_53 ?_
  refine az_getI (pc := 54) C fl_X11_424 rfl dX11_builds_54 ?_
  refine az_ik1 (pc := 57) C dX11_builds_57 ?_
  refine az_iadd (pc := 58) C dX11_builds_58 ?_
  refine az_putI (pc := 59) C fl_X11_424 (Or.inl rfl) rfl dX11_builds_59 ?_
  refine az_il4 (pc := 62) C dX11_builds_62 ?_
  refine az_cS1pi (pc := 64) C hd1 h ms_X11_isVar ml_X11_288 rfl (fun x hx => A_X11_isVar (by omega) hx) dX11_builds_64 (fun r1 h => ?_)
  refine az_if_eq (pc := 67) (tgt := 78) C h dX11_builds_67 (by decide) (fun _ h => ?_) (fun _ h => ?_)
  · refine az_al0 (pc := 78) C rfl rfl dX11_builds_78 ?_
    refine az_il4 (pc := 79) C dX11_builds_79 ?_
    refine az_cV1ii (pc := 81) (c := 11) C hd1 h mv_X11_adds ml_X11_413 rfl (fun x hx => A_X11_adds (by omega) hx) dX11_builds_81 (fun r2 h => ?_)
    refine az_is5 (pc := 84) C rfl rfl dX11_builds_84 ?_
    refine az_ik0 (pc := 86) C dX11_builds_86 ?_
    refine az_is6 (pc := 87) C rfl rfl dX11_builds_87 ?_
    exact (A_X11_builds_89 C hD n hrec hr n h)
  refine az_al0 (pc := 70) C rfl rfl dX11_builds_70 ?_
  refine az_il4 (pc := 71) C dX11_builds_71 ?_
  refine az_il2 (pc := 73) C dX11_builds_73 ?_
  refine az_cV2ii (pc := 74) (c := 11) C hd1 h mv_X11_variableNode ml_X11_430 rfl (fun x hx => A_X11_variableNode (by omega) n hx) dX11_builds_74 (fun r3 h => ?_)
  obtain rfl := Option.some.inj h
  exact az_ireturn (pc := 77) C dX11_builds_77 rfl
set_option maxRecDepth 10000 in
set_option maxHeartbeats 4000000 in
theorem A_X11_builds_e {Z : az_Z} {d : Nat} (C : az_C Z yX11_builds cX11_builds 7 (some .int) d) (hD : 5 ≤ d) (n : Nat) {dr : Nat} {rec : az_Hp → Int → Int → Int → Int → Option (Int × az_Hp)} (hrec : ∀ {l : Launch} {d' : Nat}, dr ≤ d' → ∀ {σ : az_Hp} {u0 u1 u2 u3 : Int} {r : (Int × az_Hp)}, rec σ u0 u1 u2 u3 = some r → az_AC l yX11_builds cX11_builds 7 (some .int) d' [(13, u0), (15, u1), (0, u2), (0, u3)] σ (some (0, r.1), r.2)) (hr : dr + 1 ≤ d) {σ : az_Hp} {v0 v1 v2 v3 : Int} {r : (Int × az_Hp)} (h : fz_X11_builds_e n rec σ v0 v1 v2 v3 = some r) : az_AW Z 7 0 [(13, v0), (15, v1), (0, v2), (0, v3), (31, 0), (31, 0), (31, 0)] [] σ (some (0, r.1), r.2) := by
  have hd1 : 1 ≤ d := by omega
  unfold fz_X11_builds_e at h
  refine az_al1 (pc := 0) C rfl rfl dX11_builds_0 ?_
  refine az_al0 (pc := 1) C rfl rfl dX11_builds_1 ?_
  refine az_getI (pc := 2) C fl_X11_424 rfl dX11_builds_2 ?_
  refine az_iaload (pc := 5) C h dX11_builds_5 (fun h => ?_)
  refine az_is4 (pc := 6) C rfl rfl dX11_builds_6 ?_
  refine az_il3 (pc := 8) C dX11_builds_8 ?_
  refine az_if_eq (pc := 9) (tgt := 52) C h dX11_builds_9 (by decide) (fun _ h => ?_) (fun _ h => ?_)
  · exact (A_X11_builds_52 C hD n hrec hr h)
  refine az_il4 (pc := 12) C dX11_builds_12 ?_
  refine az_cS1pi (pc := 14) C hd1 h ms_X11_isFam ml_X11_291 rfl (fun x hx => A_X11_isFam (by omega) hx) dX11_builds_14 (fun r2 h => ?_)
  refine az_if_eq (pc := 17) (tgt := 52) C h dX11_builds_17 (by decide) (fun _ h => ?_) (fun _ h => ?_)
  · exact (A_X11_builds_52 C hD n hrec hr h)
  refine az_al0 (pc := 20) C rfl rfl dX11_builds_20 ?_
  refine az_al1 (pc := 21) C rfl rfl dX11_builds_21 ?_
  refine az_al0 (pc := 22) C rfl rfl dX11_builds_22 ?_
  refine az_getI (pc := 23) C fl_X11_424 rfl dX11_builds_23 ?_
  refine az_cV2ii (pc := 26) (c := 11) C hd1 h mv_X11_flatNodeAt ml_X11_427 rfl (fun x hx => A_X11_flatNodeAt (by omega) n hx) dX11_builds_26 (fun r3 h => ?_)
  refine az_is5 (pc := 29) C rfl rfl dX11_builds_29 ?_
  refine az_al0 (pc := 31) C rfl rfl dX11_builds_31 ?_
  refine az_dup (pc := 32) C rfl rfl dX11_builds_32 ?_
  refine az_getI (pc := 33) C fl_X11_424 rfl dX11_builds_33 ?_
  refine az_al0 (pc := 36) C rfl rfl dX11_builds_36 ?_
  refine az_al1 (pc := 37) C rfl rfl dX11_builds_37 ?_
  refine az_al0 (pc := 38) C rfl rfl dX11_builds_38 ?_
  refine az_getI (pc := 39) C fl_X11_424 rfl dX11_builds_39 ?_
  refine az_cV2pi (pc := 42) (c := 11) C hd1 h mv_X11_sizeAt ml_X11_416 rfl (fun x hx => A_X11_sizeAt (by omega) n hx) dX11_builds_42 (fun r4 h => ?_)
  refine az_iadd (pc := 45) C dX11_builds_45 ?_
  refine az_putI (pc := 46) C fl_X11_424 (Or.inl rfl) rfl dX11_builds_46 ?_
  refine az_il5 (pc := 49) C dX11_builds_49 ?_
  obtain rfl := Option.some.inj h
  exact az_ireturn (pc := 51) C dX11_builds_51 rfl
set_option maxRecDepth 10000 in
set_option maxHeartbeats 4000000 in
theorem A_X11_builds {l : Launch} (n : Nat) (D : Nat) : ∀ {d : Nat}, 5 + 1 * D ≤ d → ∀ {σ : az_Hp} {v0 v1 v2 v3 : Int} {r : (Int × az_Hp)}, fz_X11_builds n D σ v0 v1 v2 v3 = some r → az_AC l yX11_builds cX11_builds 7 (some .int) d [(13, v0), (15, v1), (0, v2), (0, v3)] σ (some (0, r.1), r.2) := by
  induction D generalizing l with
  | zero => intro d hD σ v0 v1 v2 v3 r h; simp [fz_X11_builds] at h
  | succ D ih =>
    intro d hD σ v0 v1 v2 v3 r h
    unfold fz_X11_builds at h
    exact az_AC.of mt_X11_builds rfl rfl rfl (fun Z hZ C => A_X11_builds_e C (by omega) n (dr := 5 + 1 * D) (fun hd => ih hd) (by omega) h)
theorem dX11_builtFrom_0 : decode cX11_builtFrom 0 = .ok (.aload_n 0, 1) := by decide +kernel
theorem dX11_builtFrom_1 : decode cX11_builtFrom 1 = .ok (.iload_n 2, 1) := by decide +kernel
theorem dX11_builtFrom_2 : decode cX11_builtFrom 2 = .ok (.putfield 424, 3) := by decide +kernel
theorem dX11_builtFrom_5 : decode cX11_builtFrom 5 = .ok (.aload_n 0, 1) := by decide +kernel
theorem dX11_builtFrom_6 : decode cX11_builtFrom 6 = .ok (.aload_n 1, 1) := by decide +kernel
theorem dX11_builtFrom_7 : decode cX11_builtFrom 7 = .ok (.iload_n 3, 1) := by decide +kernel
theorem dX11_builtFrom_8 : decode cX11_builtFrom 8 = .ok (.iload 4, 2) := by decide +kernel
theorem dX11_builtFrom_10 : decode cX11_builtFrom 10 = .ok (.invokevirtual 434, 3) := by decide +kernel
theorem dX11_builtFrom_13 : decode cX11_builtFrom 13 = .ok (.ireturn, 1) := by decide +kernel
set_option maxRecDepth 10000 in
set_option maxHeartbeats 4000000 in
theorem A_X11_builtFrom_e {Z : az_Z} {d : Nat} (C : az_C Z yX11_builtFrom cX11_builtFrom 5 (some .int) d) (hD : 206 ≤ d) (n : Nat) {σ : az_Hp} {v0 v1 v2 v3 v4 : Int} {r : (Int × az_Hp)} (h : fz_X11_builtFrom n σ v0 v1 v2 v3 v4 = some r) : az_AW Z 5 0 [(13, v0), (15, v1), (0, v2), (0, v3), (0, v4)] [] σ (some (0, r.1), r.2) := by
  have hd1 : 1 ≤ d := by omega
  unfold fz_X11_builtFrom at h
  refine az_al0 (pc := 0) C rfl rfl dX11_builtFrom_0 ?_
  refine az_il2 (pc := 1) C dX11_builtFrom_1 ?_
  refine az_putI (pc := 2) C fl_X11_424 (Or.inl rfl) rfl dX11_builtFrom_2 ?_
  refine az_al0 (pc := 5) C rfl rfl dX11_builtFrom_5 ?_
  refine az_al1 (pc := 6) C rfl rfl dX11_builtFrom_6 ?_
  refine az_il3 (pc := 7) C dX11_builtFrom_7 ?_
  refine az_il4 (pc := 8) C dX11_builtFrom_8 ?_
  refine az_cV3ii (pc := 10) (c := 11) C hd1 h mv_X11_builds ml_X11_434 rfl (fun x hx => A_X11_builds n 200 (by omega) hx) dX11_builtFrom_10 (fun r1 h => ?_)
  obtain rfl := Option.some.inj h
  exact az_ireturn (pc := 13) C dX11_builtFrom_13 rfl
set_option maxRecDepth 10000 in
set_option maxHeartbeats 4000000 in
theorem A_X11_builtFrom {l : Launch} {d : Nat} (hD : 206 ≤ d) (n : Nat) {σ : az_Hp} {v0 v1 v2 v3 v4 : Int} {r : (Int × az_Hp)} (h : fz_X11_builtFrom n σ v0 v1 v2 v3 v4 = some r) : az_AC l yX11_builtFrom cX11_builtFrom 5 (some .int) d [(13, v0), (15, v1), (0, v2), (0, v3), (0, v4)] σ (some (0, r.1), r.2) := az_AC.of mt_X11_builtFrom rfl rfl rfl (fun Z hZ C => A_X11_builtFrom_e C hD n h)
theorem dX11_eqAt_0 : decode cX11_eqAt 0 = .ok (.bipush 16, 2) := by decide +kernel
theorem dX11_eqAt_2 : decode cX11_eqAt 2 = .ok (.aload_n 0, 1) := by decide +kernel
theorem dX11_eqAt_3 : decode cX11_eqAt 3 = .ok (.getfield 285, 3) := by decide +kernel
theorem dX11_eqAt_6 : decode cX11_eqAt 6 = .ok (.imul, 1) := by decide +kernel
theorem dX11_eqAt_7 : decode cX11_eqAt 7 = .ok (.iload_n 1, 1) := by decide +kernel
theorem dX11_eqAt_8 : decode cX11_eqAt 8 = .ok (.iadd, 1) := by decide +kernel
theorem dX11_eqAt_9 : decode cX11_eqAt 9 = .ok (.ireturn, 1) := by decide +kernel
set_option maxRecDepth 10000 in
set_option maxHeartbeats 4000000 in
theorem A_X11_eqAt_e {Z : az_Z} {d : Nat} (C : az_C Z yX11_eqAt cX11_eqAt 2 (some .int) d) (hD : 1 ≤ d) {σ : az_Hp} {v0 v1 : Int} {r : Int} (h : fz_X11_eqAt σ v0 v1 = some r) : az_AW Z 2 0 [(13, v0), (0, v1)] [] σ (some (0, r), σ) := by
  have hd1 : 1 ≤ d := by omega
  unfold fz_X11_eqAt at h
  refine az_bk16 (pc := 0) C dX11_eqAt_0 ?_
  refine az_al0 (pc := 2) C rfl rfl dX11_eqAt_2 ?_
  refine az_getI (pc := 3) C fl_X11_285 rfl dX11_eqAt_3 ?_
  refine az_imul (pc := 6) C dX11_eqAt_6 ?_
  refine az_il1 (pc := 7) C dX11_eqAt_7 ?_
  refine az_iadd (pc := 8) C dX11_eqAt_8 ?_
  obtain rfl := Option.some.inj h
  exact az_ireturn (pc := 9) C dX11_eqAt_9 rfl
set_option maxRecDepth 10000 in
set_option maxHeartbeats 4000000 in
theorem A_X11_eqAt {l : Launch} {d : Nat} (hD : 1 ≤ d) {σ : az_Hp} {v0 v1 : Int} {r : Int} (h : fz_X11_eqAt σ v0 v1 = some r) : az_AC l yX11_eqAt cX11_eqAt 2 (some .int) d [(13, v0), (0, v1)] σ (some (0, r), σ) := az_AC.of mt_X11_eqAt rfl rfl rfl (fun Z hZ C => A_X11_eqAt_e C hD h)
theorem dX11_leftNode_0 : decode cX11_leftNode 0 = .ok (.aload_n 0, 1) := by decide +kernel
theorem dX11_leftNode_1 : decode cX11_leftNode 1 = .ok (.aload_n 0, 1) := by decide +kernel
theorem dX11_leftNode_2 : decode cX11_leftNode 2 = .ok (.getfield 49, 3) := by decide +kernel
theorem dX11_leftNode_5 : decode cX11_leftNode 5 = .ok (.bipush 16, 2) := by decide +kernel
theorem dX11_leftNode_7 : decode cX11_leftNode 7 = .ok (.aload_n 0, 1) := by decide +kernel
theorem dX11_leftNode_8 : decode cX11_leftNode 8 = .ok (.iload_n 1, 1) := by decide +kernel
theorem dX11_leftNode_9 : decode cX11_leftNode 9 = .ok (.invokevirtual 358, 3) := by decide +kernel
theorem dX11_leftNode_12 : decode cX11_leftNode 12 = .ok (.imul, 1) := by decide +kernel
theorem dX11_leftNode_13 : decode cX11_leftNode 13 = .ok (.iload_n 2, 1) := by decide +kernel
theorem dX11_leftNode_14 : decode cX11_leftNode 14 = .ok (.iconst 0, 1) := by decide +kernel
theorem dX11_leftNode_15 : decode cX11_leftNode 15 = .ok (.invokevirtual 451, 3) := by decide +kernel
theorem dX11_leftNode_18 : decode cX11_leftNode 18 = .ok (.ireturn, 1) := by decide +kernel
set_option maxRecDepth 10000 in
set_option maxHeartbeats 4000000 in
theorem A_X11_leftNode_e {Z : az_Z} {d : Nat} (C : az_C Z yX11_leftNode cX11_leftNode 3 (some .int) d) (hD : 207 ≤ d) (n : Nat) {σ : az_Hp} {v0 v1 v2 : Int} {r : (Int × az_Hp)} (h : fz_X11_leftNode n σ v0 v1 v2 = some r) : az_AW Z 3 0 [(13, v0), (0, v1), (0, v2)] [] σ (some (0, r.1), r.2) := by
  have hd1 : 1 ≤ d := by omega
  unfold fz_X11_leftNode at h
  refine az_al0 (pc := 0) C rfl rfl dX11_leftNode_0 ?_
  refine az_al0 (pc := 1) C rfl rfl dX11_leftNode_1 ?_
  refine az_getR (pc := 2) (c2 := 13) C h fl_X11_49 rfl rfl dX11_leftNode_2 (fun h => ?_)
  refine az_bk16 (pc := 5) C dX11_leftNode_5 ?_
  refine az_al0 (pc := 7) C rfl rfl dX11_leftNode_7 ?_
  refine az_il1 (pc := 8) C dX11_leftNode_8 ?_
  refine az_cV1pi (pc := 9) (c := 11) C hd1 h mv_X11_eqAt ml_X11_358 rfl (fun x hx => A_X11_eqAt (by omega) hx) dX11_leftNode_9 (fun r2 h => ?_)
  refine az_imul (pc := 12) C dX11_leftNode_12 ?_
  refine az_il2 (pc := 13) C dX11_leftNode_13 ?_
  refine az_ik0 (pc := 14) C dX11_leftNode_14 ?_
  refine az_cV4ii (pc := 15) (c := 11) C hd1 h mv_X11_builtFrom ml_X11_451 rfl (fun x hx => A_X11_builtFrom (by omega) n hx) dX11_leftNode_15 (fun r3 h => ?_)
  obtain rfl := Option.some.inj h
  exact az_ireturn (pc := 18) C dX11_leftNode_18 rfl
set_option maxRecDepth 10000 in
set_option maxHeartbeats 4000000 in
theorem A_X11_leftNode {l : Launch} {d : Nat} (hD : 207 ≤ d) (n : Nat) {σ : az_Hp} {v0 v1 v2 : Int} {r : (Int × az_Hp)} (h : fz_X11_leftNode n σ v0 v1 v2 = some r) : az_AC l yX11_leftNode cX11_leftNode 3 (some .int) d [(13, v0), (0, v1), (0, v2)] σ (some (0, r.1), r.2) := az_AC.of mt_X11_leftNode rfl rfl rfl (fun Z hZ C => A_X11_leftNode_e C hD n h)
theorem dX11_rightNode_0 : decode cX11_rightNode 0 = .ok (.aload_n 0, 1) := by decide +kernel
theorem dX11_rightNode_1 : decode cX11_rightNode 1 = .ok (.aload_n 0, 1) := by decide +kernel
theorem dX11_rightNode_2 : decode cX11_rightNode 2 = .ok (.getfield 52, 3) := by decide +kernel
theorem dX11_rightNode_5 : decode cX11_rightNode 5 = .ok (.bipush 16, 2) := by decide +kernel
theorem dX11_rightNode_7 : decode cX11_rightNode 7 = .ok (.aload_n 0, 1) := by decide +kernel
theorem dX11_rightNode_8 : decode cX11_rightNode 8 = .ok (.iload_n 1, 1) := by decide +kernel
theorem dX11_rightNode_9 : decode cX11_rightNode 9 = .ok (.invokevirtual 358, 3) := by decide +kernel
theorem dX11_rightNode_12 : decode cX11_rightNode 12 = .ok (.imul, 1) := by decide +kernel
theorem dX11_rightNode_13 : decode cX11_rightNode 13 = .ok (.iload_n 2, 1) := by decide +kernel
theorem dX11_rightNode_14 : decode cX11_rightNode 14 = .ok (.iload_n 3, 1) := by decide +kernel
theorem dX11_rightNode_15 : decode cX11_rightNode 15 = .ok (.invokevirtual 451, 3) := by decide +kernel
theorem dX11_rightNode_18 : decode cX11_rightNode 18 = .ok (.ireturn, 1) := by decide +kernel
set_option maxRecDepth 10000 in
set_option maxHeartbeats 4000000 in
theorem A_X11_rightNode_e {Z : az_Z} {d : Nat} (C : az_C Z yX11_rightNode cX11_rightNode 4 (some .int) d) (hD : 207 ≤ d) (n : Nat) {σ : az_Hp} {v0 v1 v2 v3 : Int} {r : (Int × az_Hp)} (h : fz_X11_rightNode n σ v0 v1 v2 v3 = some r) : az_AW Z 4 0 [(13, v0), (0, v1), (0, v2), (0, v3)] [] σ (some (0, r.1), r.2) := by
  have hd1 : 1 ≤ d := by omega
  unfold fz_X11_rightNode at h
  refine az_al0 (pc := 0) C rfl rfl dX11_rightNode_0 ?_
  refine az_al0 (pc := 1) C rfl rfl dX11_rightNode_1 ?_
  refine az_getR (pc := 2) (c2 := 13) C h fl_X11_52 rfl rfl dX11_rightNode_2 (fun h => ?_)
  refine az_bk16 (pc := 5) C dX11_rightNode_5 ?_
  refine az_al0 (pc := 7) C rfl rfl dX11_rightNode_7 ?_
  refine az_il1 (pc := 8) C dX11_rightNode_8 ?_
  refine az_cV1pi (pc := 9) (c := 11) C hd1 h mv_X11_eqAt ml_X11_358 rfl (fun x hx => A_X11_eqAt (by omega) hx) dX11_rightNode_9 (fun r2 h => ?_)
  refine az_imul (pc := 12) C dX11_rightNode_12 ?_
  refine az_il2 (pc := 13) C dX11_rightNode_13 ?_
  refine az_il3 (pc := 14) C dX11_rightNode_14 ?_
  refine az_cV4ii (pc := 15) (c := 11) C hd1 h mv_X11_builtFrom ml_X11_451 rfl (fun x hx => A_X11_builtFrom (by omega) n hx) dX11_rightNode_15 (fun r3 h => ?_)
  obtain rfl := Option.some.inj h
  exact az_ireturn (pc := 18) C dX11_rightNode_18 rfl
set_option maxRecDepth 10000 in
set_option maxHeartbeats 4000000 in
theorem A_X11_rightNode {l : Launch} {d : Nat} (hD : 207 ≤ d) (n : Nat) {σ : az_Hp} {v0 v1 v2 v3 : Int} {r : (Int × az_Hp)} (h : fz_X11_rightNode n σ v0 v1 v2 v3 = some r) : az_AC l yX11_rightNode cX11_rightNode 4 (some .int) d [(13, v0), (0, v1), (0, v2), (0, v3)] σ (some (0, r.1), r.2) := az_AC.of mt_X11_rightNode rfl rfl rfl (fun Z hZ C => A_X11_rightNode_e C hD n h)
