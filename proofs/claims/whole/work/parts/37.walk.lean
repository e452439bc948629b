theorem dX11_readArguments_0 : decode cX11_readArguments 0 = .ok (.iload_n 1, 1) := by decide +kernel
theorem dX11_readArguments_1 : decode cX11_readArguments 1 = .ok (.ifCond .ne 26, 3) := by decide +kernel
theorem dX11_readArguments_4 : decode cX11_readArguments 4 = .ok (.aload_n 0, 1) := by decide +kernel
theorem dX11_readArguments_5 : decode cX11_readArguments 5 = .ok (.bipush 40, 2) := by decide +kernel
theorem dX11_readArguments_7 : decode cX11_readArguments 7 = .ok (.invokevirtual 276, 3) := by decide +kernel
theorem dX11_readArguments_10 : decode cX11_readArguments 10 = .ok (.ifCond .eq 11, 3) := by decide +kernel
theorem dX11_readArguments_13 : decode cX11_readArguments 13 = .ok (.aload_n 0, 1) := by decide +kernel
theorem dX11_readArguments_14 : decode cX11_readArguments 14 = .ok (.iconst 5, 1) := by decide +kernel
theorem dX11_readArguments_15 : decode cX11_readArguments 15 = .ok (.invokevirtual 279, 3) := by decide +kernel
theorem dX11_readArguments_18 : decode cX11_readArguments 18 = .ok (.ifCond .eq 7, 3) := by decide +kernel
theorem dX11_readArguments_21 : decode cX11_readArguments 21 = .ok (.iconst 1, 1) := by decide +kernel
theorem dX11_readArguments_22 : decode cX11_readArguments 22 = .ok (.goto 4, 3) := by decide +kernel
theorem dX11_readArguments_25 : decode cX11_readArguments 25 = .ok (.iconst 0, 1) := by decide +kernel
theorem dX11_readArguments_26 : decode cX11_readArguments 26 = .ok (.ireturn, 1) := by decide +kernel
theorem dX11_readArguments_27 : decode cX11_readArguments 27 = .ok (.aload_n 0, 1) := by decide +kernel
theorem dX11_readArguments_28 : decode cX11_readArguments 28 = .ok (.bipush 40, 2) := by decide +kernel
theorem dX11_readArguments_30 : decode cX11_readArguments 30 = .ok (.invokevirtual 276, 3) := by decide +kernel
theorem dX11_readArguments_33 : decode cX11_readArguments 33 = .ok (.ifCond .ne 22, 3) := by decide +kernel
theorem dX11_readArguments_36 : decode cX11_readArguments 36 = .ok (.aload_n 0, 1) := by decide +kernel
theorem dX11_readArguments_37 : decode cX11_readArguments 37 = .ok (.aload_n 0, 1) := by decide +kernel
theorem dX11_readArguments_38 : decode cX11_readArguments 38 = .ok (.iload_n 2, 1) := by decide +kernel
theorem dX11_readArguments_39 : decode cX11_readArguments 39 = .ok (.iload_n 3, 1) := by decide +kernel
theorem dX11_readArguments_40 : decode cX11_readArguments 40 = .ok (.invokevirtual 343, 3) := by decide +kernel
theorem dX11_readArguments_43 : decode cX11_readArguments 43 = .ok (.ifCond .eq 7, 3) := by decide +kernel
theorem dX11_readArguments_46 : decode cX11_readArguments 46 = .ok (.iconst 5, 1) := by decide +kernel
theorem dX11_readArguments_47 : decode cX11_readArguments 47 = .ok (.goto 4, 3) := by decide +kernel
theorem dX11_readArguments_50 : decode cX11_readArguments 50 = .ok (.iconst 2, 1) := by decide +kernel
theorem dX11_readArguments_51 : decode cX11_readArguments 51 = .ok (.invokevirtual 279, 3) := by decide +kernel
theorem dX11_readArguments_54 : decode cX11_readArguments 54 = .ok (.ireturn, 1) := by decide +kernel
theorem dX11_readArguments_55 : decode cX11_readArguments 55 = .ok (.aload_n 0, 1) := by decide +kernel
theorem dX11_readArguments_56 : decode cX11_readArguments 56 = .ok (.invokevirtual 282, 3) := by decide +kernel
theorem dX11_readArguments_59 : decode cX11_readArguments 59 = .ok (.iconst 0, 1) := by decide +kernel
theorem dX11_readArguments_60 : decode cX11_readArguments 60 = .ok (.istore 4, 2) := by decide +kernel
theorem dX11_readArguments_62 : decode cX11_readArguments 62 = .ok (.iload 4, 2) := by decide +kernel
theorem dX11_readArguments_64 : decode cX11_readArguments 64 = .ok (.iload_n 1, 1) := by decide +kernel
theorem dX11_readArguments_65 : decode cX11_readArguments 65 = .ok (.if_icmp .ge 79, 3) := by decide +kernel
theorem dX11_readArguments_68 : decode cX11_readArguments 68 = .ok (.aload_n 0, 1) := by decide +kernel
theorem dX11_readArguments_69 : decode cX11_readArguments 69 = .ok (.iconst (-1), 1) := by decide +kernel
theorem dX11_readArguments_70 : decode cX11_readArguments 70 = .ok (.iconst 1, 1) := by decide +kernel
theorem dX11_readArguments_71 : decode cX11_readArguments 71 = .ok (.iconst 0, 1) := by decide +kernel
theorem dX11_readArguments_72 : decode cX11_readArguments 72 = .ok (.invokevirtual 347, 3) := by decide +kernel
theorem dX11_readArguments_75 : decode cX11_readArguments 75 = .ok (.ifCond .ne 5, 3) := by decide +kernel
theorem dX11_readArguments_78 : decode cX11_readArguments 78 = .ok (.iconst 0, 1) := by decide +kernel
theorem dX11_readArguments_79 : decode cX11_readArguments 79 = .ok (.ireturn, 1) := by decide +kernel
theorem dX11_readArguments_80 : decode cX11_readArguments 80 = .ok (.iload 4, 2) := by decide +kernel
theorem dX11_readArguments_82 : decode cX11_readArguments 82 = .ok (.iconst 1, 1) := by decide +kernel
theorem dX11_readArguments_83 : decode cX11_readArguments 83 = .ok (.iadd, 1) := by decide +kernel
theorem dX11_readArguments_84 : decode cX11_readArguments 84 = .ok (.iload_n 1, 1) := by decide +kernel
theorem dX11_readArguments_85 : decode cX11_readArguments 85 = .ok (.if_icmp .ne 27, 3) := by decide +kernel
theorem dX11_readArguments_88 : decode cX11_readArguments 88 = .ok (.aload_n 0, 1) := by decide +kernel
theorem dX11_readArguments_89 : decode cX11_readArguments 89 = .ok (.bipush 44, 2) := by decide +kernel
theorem dX11_readArguments_91 : decode cX11_readArguments 91 = .ok (.invokevirtual 276, 3) := by decide +kernel
theorem dX11_readArguments_94 : decode cX11_readArguments 94 = .ok (.ifCond .eq 11, 3) := by decide +kernel
theorem dX11_readArguments_97 : decode cX11_readArguments 97 = .ok (.aload_n 0, 1) := by decide +kernel
theorem dX11_readArguments_98 : decode cX11_readArguments 98 = .ok (.iconst 5, 1) := by decide +kernel
theorem dX11_readArguments_99 : decode cX11_readArguments 99 = .ok (.invokevirtual 279, 3) := by decide +kernel
theorem dX11_readArguments_102 : decode cX11_readArguments 102 = .ok (.goto 9, 3) := by decide +kernel
theorem dX11_readArguments_105 : decode cX11_readArguments 105 = .ok (.aload_n 0, 1) := by decide +kernel
theorem dX11_readArguments_106 : decode cX11_readArguments 106 = .ok (.bipush 41, 2) := by decide +kernel
theorem dX11_readArguments_108 : decode cX11_readArguments 108 = .ok (.invokevirtual 351, 3) := by decide +kernel
theorem dX11_readArguments_111 : decode cX11_readArguments 111 = .ok (.ireturn, 1) := by decide +kernel
theorem dX11_readArguments_112 : decode cX11_readArguments 112 = .ok (.aload_n 0, 1) := by decide +kernel
theorem dX11_readArguments_113 : decode cX11_readArguments 113 = .ok (.bipush 41, 2) := by decide +kernel
theorem dX11_readArguments_115 : decode cX11_readArguments 115 = .ok (.invokevirtual 276, 3) := by decide +kernel
theorem dX11_readArguments_118 : decode cX11_readArguments 118 = .ok (.ifCond .eq 9, 3) := by decide +kernel
theorem dX11_readArguments_121 : decode cX11_readArguments 121 = .ok (.aload_n 0, 1) := by decide +kernel
theorem dX11_readArguments_122 : decode cX11_readArguments 122 = .ok (.iconst 5, 1) := by decide +kernel
theorem dX11_readArguments_123 : decode cX11_readArguments 123 = .ok (.invokevirtual 279, 3) := by decide +kernel
theorem dX11_readArguments_126 : decode cX11_readArguments 126 = .ok (.ireturn, 1) := by decide +kernel
theorem dX11_readArguments_127 : decode cX11_readArguments 127 = .ok (.aload_n 0, 1) := by decide +kernel
theorem dX11_readArguments_128 : decode cX11_readArguments 128 = .ok (.bipush 44, 2) := by decide +kernel
theorem dX11_readArguments_130 : decode cX11_readArguments 130 = .ok (.invokevirtual 351, 3) := by decide +kernel
theorem dX11_readArguments_133 : decode cX11_readArguments 133 = .ok (.ifCond .ne 5, 3) := by decide +kernel
theorem dX11_readArguments_136 : decode cX11_readArguments 136 = .ok (.iconst 0, 1) := by decide +kernel
theorem dX11_readArguments_137 : decode cX11_readArguments 137 = .ok (.ireturn, 1) := by decide +kernel
theorem dX11_readArguments_138 : decode cX11_readArguments 138 = .ok (.iinc 4 1, 3) := by decide +kernel
theorem dX11_readArguments_141 : decode cX11_readArguments 141 = .ok (.goto (-79), 3) := by decide +kernel
theorem dX11_readArguments_144 : decode cX11_readArguments 144 = .ok (.iconst 1, 1) := by decide +kernel
theorem dX11_readArguments_145 : decode cX11_readArguments 145 = .ok (.ireturn, 1) := by decide +kernel
set_option maxRecDepth 10000 in
set_option maxHeartbeats 4000000 in
theorem A_X11_readArguments_62 {Z : az_Z} {d : Nat} (C : az_C Z yX11_readArguments cX11_readArguments 5 (some .boolean) d) (hD : 4 ≤ d) (n : Nat) {dr : Nat} {rec : az_Hp → Int → Int → Int → Int → Option (Int × az_Hp)} (hrec : ∀ {l : Launch} {d' : Nat}, dr ≤ d' → ∀ {σ : az_Hp} {u0 u1 u2 u3 : Int} {r : (Int × az_Hp)}, rec σ u0 u1 u2 u3 = some r → az_AC l yX11_readTerm cX11_readTerm 7 (some .boolean) d' [(13, u0), (0, u1), (0, u2), (0, u3)] σ (some (0, r.1), r.2)) (hr : dr + 1 ≤ d) (k : Nat) : ∀ {σ : az_Hp} {v0 v1 v4 : Int} {r : (Int × az_Hp)}, fz_X11_readArguments_62 n rec k σ v0 v1 v4 = some r → az_AW Z 5 62 [(13, v0), (0, v1), (31, 0), (31, 0), (0, v4)] [] σ (some (0, r.1), r.2) := by
  have hd1 : 1 ≤ d := by omega
  induction k with
  | zero => intro σ v0 v1 v4 r h; simp [fz_X11_readArguments_62] at h
  | succ k ih =>
    intro σ v0 v1 v4 r h
    unfold fz_X11_readArguments_62 at h
    refine az_il4 (pc := 62) C dX11_readArguments_62 ?_
    refine az_il1 (pc := 64) C dX11_readArguments_64 ?_
    refine az_icmp_ge (pc := 65) (tgt := 144) C h dX11_readArguments_65 (by decide) (fun _ h => ?_) (fun _ h => ?_)
    · refine az_ik1 (pc := 144) C dX11_readArguments_144 ?_
      obtain rfl := Option.some.inj h
      exact az_zreturn (pc := 145) C (by decide) dX11_readArguments_145 rfl
    refine az_al0 (pc := 68) C rfl rfl dX11_readArguments_68 ?_
    refine az_ikm1 (pc := 69) C dX11_readArguments_69 ?_
    refine az_ik1 (pc := 70) C dX11_readArguments_70 ?_
    refine az_ik0 (pc := 71) C dX11_readArguments_71 ?_
    refine az_cV3ii (pc := 72) (c := 11) C hd1 h mv_X11_readTerm ml_X11_347 rfl (fun x hx => hrec (by omega) hx) dX11_readArguments_72 (fun r1 h => ?_)
    refine az_if_ne (pc := 75) (tgt := 80) C h dX11_readArguments_75 (by decide) (fun _ h => ?_) (fun _ h => ?_)
    · refine az_il4 (pc := 80) C dX11_readArguments_80 ?_
      refine az_ik1 (pc := 82) C dX11_readArguments_82 ?_
      refine az_iadd (pc := 83) C dX11_readArguments_83 ?_
      refine az_il1 (pc := 84) C dX11_readArguments_84 ?_
      refine az_icmp_ne (pc := 85) (tgt := 112) C h dX11_readArguments_85 (by decide) (fun _ h => ?_) (fun _ h => ?_)
      · refine az_al0 (pc := 112) C rfl rfl dX11_readArguments_112 ?_
        refine az_bk41 (pc := 113) C dX11_readArguments_113 ?_
        refine az_cV1pi (pc := 115) (c := 11) C hd1 h mv_X11_isSign ml_X11_276 rfl (fun x hx => A_X11_isSign (by omega) hx) dX11_readArguments_115 (fun r2 h => ?_)
        refine az_if_eq (pc := 118) (tgt := 127) C h dX11_readArguments_118 (by decide) (fun _ h => ?_) (fun _ h => ?_)
        · refine az_al0 (pc := 127) C rfl rfl dX11_readArguments_127 ?_
          refine az_bk44 (pc := 128) C dX11_readArguments_128 ?_
          refine az_cV1ii (pc := 130) (c := 11) C hd1 h mv_X11_eats ml_X11_351 rfl (fun x hx => A_X11_eats (by omega) n hx) dX11_readArguments_130 (fun r3 h => ?_)
          refine az_if_ne (pc := 133) (tgt := 138) C h dX11_readArguments_133 (by decide) (fun _ h => ?_) (fun _ h => ?_)
          · refine az_ii4 (pc := 138) C az_n1 rfl rfl dX11_readArguments_138 ?_
            refine az_goto (pc := 141) (tgt := 62) C dX11_readArguments_141 (by decide) ?_
            exact (ih h)
          refine az_ik0 (pc := 136) C dX11_readArguments_136 ?_
          obtain rfl := Option.some.inj h
          exact az_zreturn (pc := 137) C (by decide) dX11_readArguments_137 rfl
        refine az_al0 (pc := 121) C rfl rfl dX11_readArguments_121 ?_
        refine az_ik5 (pc := 122) C dX11_readArguments_122 ?_
        refine az_cV1ii (pc := 123) (c := 11) C hd1 h mv_X11_bad ml_X11_279 rfl (fun x hx => A_X11_bad (by omega) hx) dX11_readArguments_123 (fun r4 h => ?_)
        obtain ⟨hz, h⟩ := az_zif h
        obtain rfl := Option.some.inj h
        exact az_zreturn (pc := 126) C hz dX11_readArguments_126 rfl
      refine az_al0 (pc := 88) C rfl rfl dX11_readArguments_88 ?_
      refine az_bk44 (pc := 89) C dX11_readArguments_89 ?_
      refine az_cV1pi (pc := 91) (c := 11) C hd1 h mv_X11_isSign ml_X11_276 rfl (fun x hx => A_X11_isSign (by omega) hx) dX11_readArguments_91 (fun r5 h => ?_)
      refine az_if_eq (pc := 94) (tgt := 105) C h dX11_readArguments_94 (by decide) (fun _ h => ?_) (fun _ h => ?_)
      · refine az_al0 (pc := 105) C rfl rfl dX11_readArguments_105 ?_
        refine az_bk41 (pc := 106) C dX11_readArguments_106 ?_
        refine az_cV1ii (pc := 108) (c := 11) C hd1 h mv_X11_eats ml_X11_351 rfl (fun x hx => A_X11_eats (by omega) n hx) dX11_readArguments_108 (fun r6 h => ?_)
        obtain ⟨hz, h⟩ := az_zif h
        obtain rfl := Option.some.inj h
        exact az_zreturn (pc := 111) C hz dX11_readArguments_111 rfl
      refine az_al0 (pc := 97) C rfl rfl dX11_readArguments_97 ?_
      refine az_ik5 (pc := 98) C dX11_readArguments_98 ?_
      refine az_cV1ii (pc := 99) (c := 11) C hd1 h mv_X11_bad ml_X11_279 rfl (fun x hx => A_X11_bad (by omega) hx) dX11_readArguments_99 (fun r7 h => ?_)
      refine az_goto (pc := 102) (tgt := 111) C dX11_readArguments_102 (by decide) ?_
      obtain ⟨hz, h⟩ := az_zif h
      obtain rfl := Option.some.inj h
      exact az_zreturn (pc := 111) C hz dX11_readArguments_111 rfl
    refine az_ik0 (pc := 78) C dX11_readArguments_78 ?_
    obtain rfl := Option.some.inj h
    exact az_zreturn (pc := 79) C (by decide) dX11_readArguments_79 rfl
set_option maxRecDepth 10000 in
set_option maxHeartbeats 4000000 in
theorem A_X11_readArguments_e {Z : az_Z} {d : Nat} (C : az_C Z yX11_readArguments cX11_readArguments 5 (some .boolean) d) (hD : 4 ≤ d) (n : Nat) {dr : Nat} {rec : az_Hp → Int → Int → Int → Int → Option (Int × az_Hp)} (hrec : ∀ {l : Launch} {d' : Nat}, dr ≤ d' → ∀ {σ : az_Hp} {u0 u1 u2 u3 : Int} {r : (Int × az_Hp)}, rec σ u0 u1 u2 u3 = some r → az_AC l yX11_readTerm cX11_readTerm 7 (some .boolean) d' [(13, u0), (0, u1), (0, u2), (0, u3)] σ (some (0, r.1), r.2)) (hr : dr + 1 ≤ d) {σ : az_Hp} {v0 v1 v2 v3 : Int} {r : (Int × az_Hp)} (h : fz_X11_readArguments n rec σ v0 v1 v2 v3 = some r) : az_AW Z 5 0 [(13, v0), (0, v1), (0, v2), (0, v3), (31, 0)] [] σ (some (0, r.1), r.2) := by
  have hd1 : 1 ≤ d := by omega
  unfold fz_X11_readArguments at h
  refine az_il1 (pc := 0) C dX11_readArguments_0 ?_
  refine az_if_ne (pc := 1) (tgt := 27) C h dX11_readArguments_1 (by decide) (fun _ h => ?_) (fun _ h => ?_)
  · refine az_al0 (pc := 27) C rfl rfl dX11_readArguments_27 ?_
    refine az_bk40 (pc := 28) C dX11_readArguments_28 ?_
    refine az_cV1pi (pc := 30) (c := 11) C hd1 h mv_X11_isSign ml_X11_276 rfl (fun x hx => A_X11_isSign (by omega) hx) dX11_readArguments_30 (fun r1 h => ?_)
    refine az_if_ne (pc := 33) (tgt := 55) C h dX11_readArguments_33 (by decide) (fun _ h => ?_) (fun _ h => ?_)
    · refine az_al0 (pc := 55) C rfl rfl dX11_readArguments_55 ?_
      refine az_cV0v (pc := 56) (c := 11) C hd1 h mv_X11_go ml_X11_282 rfl (fun x hx => A_X11_go (by omega) n hx) dX11_readArguments_56 (fun r2 h => ?_)
      refine az_ik0 (pc := 59) C dX11_readArguments_59 ?_
      refine az_is4 (pc := 60) C rfl rfl dX11_readArguments_60 ?_
      exact (az_wkk (A_X11_readArguments_62 C hD n hrec hr n h) (az_sE (az_sE (az_sJ (az_sJ (az_sE az_sN))))))
    refine az_al0 (pc := 36) C rfl rfl dX11_readArguments_36 ?_
    refine az_al0 (pc := 37) C rfl rfl dX11_readArguments_37 ?_
    refine az_il2 (pc := 38) C dX11_readArguments_38 ?_
    refine az_il3 (pc := 39) C dX11_readArguments_39 ?_
    refine az_cV2pi (pc := 40) (c := 11) C hd1 h mv_X11_mayEnd ml_X11_343 rfl (fun x hx => A_X11_mayEnd (by omega) hx) dX11_readArguments_40 (fun r3 h => ?_)
    refine az_if_eq (pc := 43) (tgt := 50) C h dX11_readArguments_43 (by decide) (fun _ h => ?_) (fun _ h => ?_)
    · refine az_ik2 (pc := 50) C dX11_readArguments_50 ?_
      refine az_cV1ii (pc := 51) (c := 11) C hd1 h mv_X11_bad ml_X11_279 rfl (fun x hx => A_X11_bad (by omega) hx) dX11_readArguments_51 (fun r4 h => ?_)
      obtain ⟨hz, h⟩ := az_zif h
      obtain rfl := Option.some.inj h
      exact az_zreturn (pc := 54) C hz dX11_readArguments_54 rfl
    refine az_ik5 (pc := 46) C dX11_readArguments_46 ?_
    refine az_goto (pc := 47) (tgt := 51) C dX11_readArguments_47 (by decide) ?_
    refine az_cV1ii (pc := 51) (c := 11) C hd1 h mv_X11_bad ml_X11_279 rfl (fun x hx => A_X11_bad (by omega) hx) dX11_readArguments_51 (fun r5 h => ?_)
    obtain ⟨hz, h⟩ := az_zif h
    obtain rfl := Option.some.inj h
    exact az_zreturn (pc := 54) C hz dX11_readArguments_54 rfl
  refine az_al0 (pc := 4) C rfl rfl dX11_readArguments_4 ?_
  refine az_bk40 (pc := 5) C dX11_readArguments_5 ?_
  refine az_cV1pi (pc := 7) (c := 11) C hd1 h mv_X11_isSign ml_X11_276 rfl (fun x hx => A_X11_isSign (by omega) hx) dX11_readArguments_7 (fun r6 h => ?_)
  refine az_if_eq (pc := 10) (tgt := 21) C h dX11_readArguments_10 (by decide) (fun _ h => ?_) (fun _ h => ?_)
  · refine az_ik1 (pc := 21) C dX11_readArguments_21 ?_
    refine az_goto (pc := 22) (tgt := 26) C dX11_readArguments_22 (by decide) ?_
    obtain rfl := Option.some.inj h
    exact az_zreturn (pc := 26) C (by decide) dX11_readArguments_26 rfl
  refine az_al0 (pc := 13) C rfl rfl dX11_readArguments_13 ?_
  refine az_ik5 (pc := 14) C dX11_readArguments_14 ?_
  refine az_cV1ii (pc := 15) (c := 11) C hd1 h mv_X11_bad ml_X11_279 rfl (fun x hx => A_X11_bad (by omega) hx) dX11_readArguments_15 (fun r7 h => ?_)
  refine az_if_eq (pc := 18) (tgt := 25) C h dX11_readArguments_18 (by decide) (fun _ h => ?_) (fun _ h => ?_)
  · refine az_ik0 (pc := 25) C dX11_readArguments_25 ?_
    obtain rfl := Option.some.inj h
    exact az_zreturn (pc := 26) C (by decide) dX11_readArguments_26 rfl
  refine az_ik1 (pc := 21) C dX11_readArguments_21 ?_
  refine az_goto (pc := 22) (tgt := 26) C dX11_readArguments_22 (by decide) ?_
  obtain rfl := Option.some.inj h
  exact az_zreturn (pc := 26) C (by decide) dX11_readArguments_26 rfl
set_option maxRecDepth 10000 in
set_option maxHeartbeats 4000000 in
theorem A_X11_readArguments {l : Launch} {d : Nat} (hD : 4 ≤ d) (n : Nat) {dr : Nat} {rec : az_Hp → Int → Int → Int → Int → Option (Int × az_Hp)} (hrec : ∀ {l : Launch} {d' : Nat}, dr ≤ d' → ∀ {σ : az_Hp} {u0 u1 u2 u3 : Int} {r : (Int × az_Hp)}, rec σ u0 u1 u2 u3 = some r → az_AC l yX11_readTerm cX11_readTerm 7 (some .boolean) d' [(13, u0), (0, u1), (0, u2), (0, u3)] σ (some (0, r.1), r.2)) (hr : dr + 1 ≤ d) {σ : az_Hp} {v0 v1 v2 v3 : Int} {r : (Int × az_Hp)} (h : fz_X11_readArguments n rec σ v0 v1 v2 v3 = some r) : az_AC l yX11_readArguments cX11_readArguments 5 (some .boolean) d [(13, v0), (0, v1), (0, v2), (0, v3)] σ (some (0, r.1), r.2) := az_AC.of mt_X11_readArguments rfl rfl rfl (fun Z hZ C => A_X11_readArguments_e C hD n hrec hr h)
theorem dX11_findIn_0 : decode cX11_findIn 0 = .ok (.iconst 0, 1) := by decide +kernel
theorem dX11_findIn_1 : decode cX11_findIn 1 = .ok (.istore 4, 2) := by decide +kernel
theorem dX11_findIn_3 : decode cX11_findIn 3 = .ok (.iload 4, 2) := by decide +kernel
theorem dX11_findIn_5 : decode cX11_findIn 5 = .ok (.iload_n 1, 1) := by decide +kernel
theorem dX11_findIn_6 : decode cX11_findIn 6 = .ok (.if_icmp .ge 21, 3) := by decide +kernel
theorem dX11_findIn_9 : decode cX11_findIn 9 = .ok (.aload_n 0, 1) := by decide +kernel
theorem dX11_findIn_10 : decode cX11_findIn 10 = .ok (.iload 4, 2) := by decide +kernel
theorem dX11_findIn_12 : decode cX11_findIn 12 = .ok (.laload, 1) := by decide +kernel
theorem dX11_findIn_13 : decode cX11_findIn 13 = .ok (.lload_n 2, 1) := by decide +kernel
theorem dX11_findIn_14 : decode cX11_findIn 14 = .ok (.lcmp, 1) := by decide +kernel
theorem dX11_findIn_15 : decode cX11_findIn 15 = .ok (.ifCond .ne 6, 3) := by decide +kernel
theorem dX11_findIn_18 : decode cX11_findIn 18 = .ok (.iload 4, 2) := by decide +kernel
theorem dX11_findIn_20 : decode cX11_findIn 20 = .ok (.ireturn, 1) := by decide +kernel
theorem dX11_findIn_21 : decode cX11_findIn 21 = .ok (.iinc 4 1, 3) := by decide +kernel
theorem dX11_findIn_24 : decode cX11_findIn 24 = .ok (.goto (-21), 3) := by decide +kernel
theorem dX11_findIn_27 : decode cX11_findIn 27 = .ok (.iconst (-1), 1) := by decide +kernel
theorem dX11_findIn_28 : decode cX11_findIn 28 = .ok (.ireturn, 1) := by decide +kernel
set_option maxRecDepth 10000 in
set_option maxHeartbeats 4000000 in
theorem A_X11_findIn_3 {Z : az_Z} {d : Nat} (C : az_C Z yX11_findIn cX11_findIn 5 (some .int) d) (hD : 1 ≤ d) (n : Nat) (k : Nat) : ∀ {σ : az_Hp} {v0 v1 v2 v4 : Int} {r : Int}, fz_X11_findIn_3 n k σ v0 v1 v2 v4 = some r → az_AW Z 5 3 [(16, v0), (0, v1), (1, v2), (31, 0), (0, v4)] [] σ (some (0, r), σ) := by
  have hd1 : 1 ≤ d := by omega
  induction k with
  | zero => intro σ v0 v1 v2 v4 r h; simp [fz_X11_findIn_3] at h
  | succ k ih =>
    intro σ v0 v1 v2 v4 r h
    unfold fz_X11_findIn_3 at h
    refine az_il4 (pc := 3) C dX11_findIn_3 ?_
    refine az_il1 (pc := 5) C dX11_findIn_5 ?_
    refine az_icmp_ge (pc := 6) (tgt := 27) C h dX11_findIn_6 (by decide) (fun _ h => ?_) (fun _ h => ?_)
    · refine az_ikm1 (pc := 27) C dX11_findIn_27 ?_
      obtain rfl := Option.some.inj h
      exact az_ireturn (pc := 28) C dX11_findIn_28 rfl
    refine az_al0 (pc := 9) C rfl rfl dX11_findIn_9 ?_
    refine az_il4 (pc := 10) C dX11_findIn_10 ?_
    refine az_laload (pc := 12) C h dX11_findIn_12 (fun h => ?_)
    refine az_ll2 (pc := 13) C dX11_findIn_13 ?_
    refine az_lcmp (pc := 14) C dX11_findIn_14 ?_
    refine az_if_ne (pc := 15) (tgt := 21) C h dX11_findIn_15 (by decide) (fun _ h => ?_) (fun _ h => ?_)
    · refine az_ii4 (pc := 21) C az_n1 rfl rfl dX11_findIn_21 ?_
      refine az_goto (pc := 24) (tgt := 3) C dX11_findIn_24 (by decide) ?_
      exact (ih h)
    refine az_il4 (pc := 18) C dX11_findIn_18 ?_
    obtain rfl := Option.some.inj h
    exact az_ireturn (pc := 20) C dX11_findIn_20 rfl
set_option maxRecDepth 10000 in
set_option maxHeartbeats 4000000 in
theorem A_X11_findIn_e {Z : az_Z} {d : Nat} (C : az_C Z yX11_findIn cX11_findIn 5 (some .int) d) (hD : 1 ≤ d) (n : Nat) {σ : az_Hp} {v0 v1 v2 : Int} {r : Int} (h : fz_X11_findIn n σ v0 v1 v2 = some r) : az_AW Z 5 0 [(16, v0), (0, v1), (1, v2), (31, 0), (31, 0)] [] σ (some (0, r), σ) := by
  have hd1 : 1 ≤ d := by omega
  unfold fz_X11_findIn at h
  refine az_ik0 (pc := 0) C dX11_findIn_0 ?_
  refine az_is4 (pc := 1) C rfl rfl dX11_findIn_1 ?_
  exact (A_X11_findIn_3 C hD n n h)
set_option maxRecDepth 10000 in
set_option maxHeartbeats 4000000 in
theorem A_X11_findIn {l : Launch} {d : Nat} (hD : 1 ≤ d) (n : Nat) {σ : az_Hp} {v0 v1 v2 : Int} {r : Int} (h : fz_X11_findIn n σ v0 v1 v2 = some r) : az_AC l yX11_findIn cX11_findIn 5 (some .int) d [(16, v0), (0, v1), (1, v2)] σ (some (0, r), σ) := az_AC.of mt_X11_findIn rfl rfl rfl (fun Z hZ C => A_X11_findIn_e C hD n h)
theorem dX11_readUnknown_0 : decode cX11_readUnknown 0 = .ok (.aload_n 0, 1) := by decide +kernel
theorem dX11_readUnknown_1 : decode cX11_readUnknown 1 = .ok (.getfield 294, 3) := by decide +kernel
theorem dX11_readUnknown_4 : decode cX11_readUnknown 4 = .ok (.aload_n 0, 1) := by decide +kernel
theorem dX11_readUnknown_5 : decode cX11_readUnknown 5 = .ok (.getfield 307, 3) := by decide +kernel
theorem dX11_readUnknown_8 : decode cX11_readUnknown 8 = .ok (.if_icmp .ne 10, 3) := by decide +kernel
theorem dX11_readUnknown_11 : decode cX11_readUnknown 11 = .ok (.aload_n 0, 1) := by decide +kernel
theorem dX11_readUnknown_12 : decode cX11_readUnknown 12 = .ok (.bipush 6, 2) := by decide +kernel
theorem dX11_readUnknown_14 : decode cX11_readUnknown 14 = .ok (.invokevirtual 279, 3) := by decide +kernel
theorem dX11_readUnknown_17 : decode cX11_readUnknown 17 = .ok (.ireturn, 1) := by decide +kernel
theorem dX11_readUnknown_18 : decode cX11_readUnknown 18 = .ok (.aload_n 0, 1) := by decide +kernel
theorem dX11_readUnknown_19 : decode cX11_readUnknown 19 = .ok (.getfield 304, 3) := by decide +kernel
theorem dX11_readUnknown_22 : decode cX11_readUnknown 22 = .ok (.iconst 3, 1) := by decide +kernel
theorem dX11_readUnknown_23 : decode cX11_readUnknown 23 = .ok (.if_icmp .ne 10, 3) := by decide +kernel
theorem dX11_readUnknown_26 : decode cX11_readUnknown 26 = .ok (.aload_n 0, 1) := by decide +kernel
theorem dX11_readUnknown_27 : decode cX11_readUnknown 27 = .ok (.bipush 7, 2) := by decide +kernel
theorem dX11_readUnknown_29 : decode cX11_readUnknown 29 = .ok (.invokevirtual 279, 3) := by decide +kernel
theorem dX11_readUnknown_32 : decode cX11_readUnknown 32 = .ok (.ireturn, 1) := by decide +kernel
theorem dX11_readUnknown_33 : decode cX11_readUnknown 33 = .ok (.aload_n 0, 1) := by decide +kernel
theorem dX11_readUnknown_34 : decode cX11_readUnknown 34 = .ok (.invokevirtual 282, 3) := by decide +kernel
theorem dX11_readUnknown_37 : decode cX11_readUnknown 37 = .ok (.aload_n 0, 1) := by decide +kernel
theorem dX11_readUnknown_38 : decode cX11_readUnknown 38 = .ok (.getfield 236, 3) := by decide +kernel
theorem dX11_readUnknown_41 : decode cX11_readUnknown 41 = .ok (.iconst 3, 1) := by decide +kernel
theorem dX11_readUnknown_42 : decode cX11_readUnknown 42 = .ok (.if_icmp .eq 9, 3) := by decide +kernel
theorem dX11_readUnknown_45 : decode cX11_readUnknown 45 = .ok (.aload_n 0, 1) := by decide +kernel
theorem dX11_readUnknown_46 : decode cX11_readUnknown 46 = .ok (.iconst 2, 1) := by decide +kernel
theorem dX11_readUnknown_47 : decode cX11_readUnknown 47 = .ok (.invokevirtual 279, 3) := by decide +kernel
theorem dX11_readUnknown_50 : decode cX11_readUnknown 50 = .ok (.ireturn, 1) := by decide +kernel
theorem dX11_readUnknown_51 : decode cX11_readUnknown 51 = .ok (.aload_n 0, 1) := by decide +kernel
theorem dX11_readUnknown_52 : decode cX11_readUnknown 52 = .ok (.getfield 70, 3) := by decide +kernel
theorem dX11_readUnknown_55 : decode cX11_readUnknown 55 = .ok (.aload_n 0, 1) := by decide +kernel
theorem dX11_readUnknown_56 : decode cX11_readUnknown 56 = .ok (.getfield 316, 3) := by decide +kernel
theorem dX11_readUnknown_59 : decode cX11_readUnknown 59 = .ok (.aload_n 0, 1) := by decide +kernel
theorem dX11_readUnknown_60 : decode cX11_readUnknown 60 = .ok (.getfield 246, 3) := by decide +kernel
theorem dX11_readUnknown_63 : decode cX11_readUnknown 63 = .ok (.invokestatic 300, 3) := by decide +kernel
theorem dX11_readUnknown_66 : decode cX11_readUnknown 66 = .ok (.istore_n 1, 1) := by decide +kernel
theorem dX11_readUnknown_67 : decode cX11_readUnknown 67 = .ok (.iload_n 1, 1) := by decide +kernel
theorem dX11_readUnknown_68 : decode cX11_readUnknown 68 = .ok (.iconst (-1), 1) := by decide +kernel
theorem dX11_readUnknown_69 : decode cX11_readUnknown 69 = .ok (.if_icmp .ne 19, 3) := by decide +kernel
theorem dX11_readUnknown_72 : decode cX11_readUnknown 72 = .ok (.aload_n 0, 1) := by decide +kernel
theorem dX11_readUnknown_73 : decode cX11_readUnknown 73 = .ok (.getfield 316, 3) := by decide +kernel
theorem dX11_readUnknown_76 : decode cX11_readUnknown 76 = .ok (.bipush 6, 2) := by decide +kernel
theorem dX11_readUnknown_78 : decode cX11_readUnknown 78 = .ok (.if_icmp .ne 10, 3) := by decide +kernel
theorem dX11_readUnknown_81 : decode cX11_readUnknown 81 = .ok (.aload_n 0, 1) := by decide +kernel
theorem dX11_readUnknown_82 : decode cX11_readUnknown 82 = .ok (.bipush 6, 2) := by decide +kernel
theorem dX11_readUnknown_84 : decode cX11_readUnknown 84 = .ok (.invokevirtual 279, 3) := by decide +kernel
theorem dX11_readUnknown_87 : decode cX11_readUnknown 87 = .ok (.ireturn, 1) := by decide +kernel
theorem dX11_readUnknown_88 : decode cX11_readUnknown 88 = .ok (.iload_n 1, 1) := by decide +kernel
theorem dX11_readUnknown_89 : decode cX11_readUnknown 89 = .ok (.iconst (-1), 1) := by decide +kernel
theorem dX11_readUnknown_90 : decode cX11_readUnknown 90 = .ok (.if_icmp .ne 28, 3) := by decide +kernel
theorem dX11_readUnknown_93 : decode cX11_readUnknown 93 = .ok (.aload_n 0, 1) := by decide +kernel
theorem dX11_readUnknown_94 : decode cX11_readUnknown 94 = .ok (.getfield 316, 3) := by decide +kernel
theorem dX11_readUnknown_97 : decode cX11_readUnknown 97 = .ok (.istore_n 1, 1) := by decide +kernel
theorem dX11_readUnknown_98 : decode cX11_readUnknown 98 = .ok (.aload_n 0, 1) := by decide +kernel
theorem dX11_readUnknown_99 : decode cX11_readUnknown 99 = .ok (.getfield 70, 3) := by decide +kernel
theorem dX11_readUnknown_102 : decode cX11_readUnknown 102 = .ok (.iload_n 1, 1) := by decide +kernel
theorem dX11_readUnknown_103 : decode cX11_readUnknown 103 = .ok (.aload_n 0, 1) := by decide +kernel
theorem dX11_readUnknown_104 : decode cX11_readUnknown 104 = .ok (.getfield 246, 3) := by decide +kernel
theorem dX11_readUnknown_107 : decode cX11_readUnknown 107 = .ok (.lastore, 1) := by decide +kernel
theorem dX11_readUnknown_108 : decode cX11_readUnknown 108 = .ok (.aload_n 0, 1) := by decide +kernel
theorem dX11_readUnknown_109 : decode cX11_readUnknown 109 = .ok (.dup, 1) := by decide +kernel
theorem dX11_readUnknown_110 : decode cX11_readUnknown 110 = .ok (.getfield 316, 3) := by decide +kernel
theorem dX11_readUnknown_113 : decode cX11_readUnknown 113 = .ok (.iconst 1, 1) := by decide +kernel
theorem dX11_readUnknown_114 : decode cX11_readUnknown 114 = .ok (.iadd, 1) := by decide +kernel
theorem dX11_readUnknown_115 : decode cX11_readUnknown 115 = .ok (.putfield 316, 3) := by decide +kernel
theorem dX11_readUnknown_118 : decode cX11_readUnknown 118 = .ok (.aload_n 0, 1) := by decide +kernel
theorem dX11_readUnknown_119 : decode cX11_readUnknown 119 = .ok (.sipush 2000, 3) := by decide +kernel
theorem dX11_readUnknown_122 : decode cX11_readUnknown 122 = .ok (.iload_n 1, 1) := by decide +kernel
theorem dX11_readUnknown_123 : decode cX11_readUnknown 123 = .ok (.iadd, 1) := by decide +kernel
theorem dX11_readUnknown_124 : decode cX11_readUnknown 124 = .ok (.invokevirtual 313, 3) := by decide +kernel
theorem dX11_readUnknown_127 : decode cX11_readUnknown 127 = .ok (.ireturn, 1) := by decide +kernel
set_option maxRecDepth 10000 in
set_option maxHeartbeats 4000000 in
theorem A_X11_readUnknown_88 {Z : az_Z} {d : Nat} (C : az_C Z yX11_readUnknown cX11_readUnknown 2 (some .boolean) d) (hD : 4 ≤ d) (n : Nat) {σ : az_Hp} {v0 v1 : Int} {r : (Int × az_Hp)} (h : fz_X11_readUnknown_88 n σ v0 v1 = some r) : az_AW Z 2 88 [(13, v0), (0, v1)] [] σ (some (0, r.1), r.2) := by
  have hd1 : 1 ≤ d := by omega
  unfold fz_X11_readUnknown_88 at h
  refine az_il1 (pc := 88) C dX11_readUnknown_88 ?_
  refine az_ikm1 (pc := 89) C dX11_readUnknown_89 ?_
  refine az_icmp_ne (pc := 90) (tgt := 118) C h dX11_readUnknown_90 (by decide) (fun _ h => ?_) (fun _ h => ?_)
  · refine az_al0 (pc := 118) C rfl rfl dX11_readUnknown_118 ?_
    refine az_sk2000 (pc := 119) C dX11_readUnknown_119 ?_
    refine az_il1 (pc := 122) C dX11_readUnknown_122 ?_
    refine az_iadd (pc := 123) C dX11_readUnknown_123 ?_
    refine az_cV1ii (pc := 124) (c := 11) C hd1 h mv_X11_puts ml_X11_313 rfl (fun x hx => A_X11_puts (by omega) n hx) dX11_readUnknown_124 (fun r1 h => ?_)
    obtain ⟨hz, h⟩ := az_zif h
    obtain rfl := Option.some.inj h
    exact az_zreturn (pc := 127) C hz dX11_readUnknown_127 rfl
  refine az_al0 (pc := 93) C rfl rfl dX11_readUnknown_93 ?_
  refine az_getI (pc := 94) C fl_X11_316 rfl dX11_readUnknown_94 ?_
  refine az_is1 (pc := 97) C rfl rfl dX11_readUnknown_97 ?_
  refine az_al0 (pc := 98) C rfl rfl dX11_readUnknown_98 ?_
  refine az_getR (pc := 99) (c2 := 14) C h fl_X11_70 rfl rfl dX11_readUnknown_99 (fun h => ?_)
  refine az_il1 (pc := 102) C dX11_readUnknown_102 ?_
  refine az_al0 (pc := 103) C rfl rfl dX11_readUnknown_103 ?_
  refine az_getJ (pc := 104) C fl_X11_246 rfl dX11_readUnknown_104 ?_
  refine az_lastore (pc := 107) C h dX11_readUnknown_107 (fun h => ?_)
  refine az_al0 (pc := 108) C rfl rfl dX11_readUnknown_108 ?_
  refine az_dup (pc := 109) C rfl rfl dX11_readUnknown_109 ?_
  refine az_getI (pc := 110) C fl_X11_316 rfl dX11_readUnknown_110 ?_
  refine az_ik1 (pc := 113) C dX11_readUnknown_113 ?_
  refine az_iadd (pc := 114) C dX11_readUnknown_114 ?_
  refine az_putI (pc := 115) C fl_X11_316 (Or.inl rfl) rfl dX11_readUnknown_115 ?_
  refine az_al0 (pc := 118) C rfl rfl dX11_readUnknown_118 ?_
  refine az_sk2000 (pc := 119) C dX11_readUnknown_119 ?_
  refine az_il1 (pc := 122) C dX11_readUnknown_122 ?_
  refine az_iadd (pc := 123) C dX11_readUnknown_123 ?_
  refine az_cV1ii (pc := 124) (c := 11) C hd1 h mv_X11_puts ml_X11_313 rfl (fun x hx => A_X11_puts (by omega) n hx) dX11_readUnknown_124 (fun r4 h => ?_)
  obtain ⟨hz, h⟩ := az_zif h
  obtain rfl := Option.some.inj h
  exact az_zreturn (pc := 127) C hz dX11_readUnknown_127 rfl
set_option maxRecDepth 10000 in
set_option maxHeartbeats 4000000 in
theorem A_X11_readUnknown_e {Z : az_Z} {d : Nat} (C : az_C Z yX11_readUnknown cX11_readUnknown 2 (some .boolean) d) (hD : 4 ≤ d) (n : Nat) {σ : az_Hp} {v0 : Int} {r : (Int × az_Hp)} (h : fz_X11_readUnknown n σ v0 = some r) : az_AW Z 2 0 [(13, v0), (31, 0)] [] σ (some (0, r.1), r.2) := by
  have hd1 : 1 ≤ d := by omega
  unfold fz_X11_readUnknown at h
  refine az_al0 (pc := 0) C rfl rfl dX11_readUnknown_0 ?_
  refine az_getI (pc := 1) C fl_X11_294 rfl dX11_readUnknown_1 ?_
  refine az_al0 (pc := 4) C rfl rfl dX11_readUnknown_4 ?_
  refine az_getI (pc := 5) C fl_X11_307 rfl dX11_readUnknown_5 ?_
  refine az_icmp_ne (pc := 8) (tgt := 18) C h dX11_readUnknown_8 (by decide) (fun _ h => ?_) (fun _ h => ?_)
  · refine az_al0 (pc := 18) C rfl rfl dX11_readUnknown_18 ?_
    refine az_getI (pc := 19) C fl_X11_304 rfl dX11_readUnknown_19 ?_
    refine az_ik3 (pc := 22) C dX11_readUnknown_22 ?_
    refine az_icmp_ne (pc := 23) (tgt := 33) C h dX11_readUnknown_23 (by decide) (fun _ h => ?_) (fun _ h => ?_)
    · refine az_al0 (pc := 33) C rfl rfl dX11_readUnknown_33 ?_
      refine az_cV0v (pc := 34) (c := 11) C hd1 h mv_X11_go ml_X11_282 rfl (fun x hx => A_X11_go (by omega) n hx) dX11_readUnknown_34 (fun r1 h => ?_)
      refine az_al0 (pc := 37) C rfl rfl dX11_readUnknown_37 ?_
      refine az_getI (pc := 38) C fl_X11_236 rfl dX11_readUnknown_38 ?_
      refine az_ik3 (pc := 41) C dX11_readUnknown_41 ?_
      refine az_icmp_eq (pc := 42) (tgt := 51) C h dX11_readUnknown_42 (by decide) (fun _ h => ?_) (fun _ h => ?_)
      · refine az_al0 (pc := 51) C rfl rfl dX11_readUnknown_51 ?_
        refine az_getR (pc := 52) (c2 := 14) C h fl_X11_70 rfl rfl dX11_readUnknown_52 (fun h => ?_)
        refine az_al0 (pc := 55) C rfl rfl dX11_readUnknown_55 ?_
        refine az_getI (pc := 56) C fl_X11_316 rfl dX11_readUnknown_56 ?_
        refine az_al0 (pc := 59) C rfl rfl dX11_readUnknown_59 ?_
        refine az_getJ (pc := 60) C fl_X11_246 rfl dX11_readUnknown_60 ?_
        refine az_cS3pi (pc := 63) C hd1 h ms_X11_findIn ml_X11_300 rfl (fun x hx => A_X11_findIn (by omega) n hx) dX11_readUnknown_63 (fun r3 h => ?_)
        refine az_is1 (pc := 66) C rfl rfl dX11_readUnknown_66 ?_
        refine az_il1 (pc := 67) C dX11_readUnknown_67 ?_
        refine az_ikm1 (pc := 68) C dX11_readUnknown_68 ?_
        refine az_icmp_ne (pc := 69) (tgt := 88) C h dX11_readUnknown_69 (by decide) (fun _ h => ?_) (fun _ h => ?_)
        · exact (A_X11_readUnknown_88 C hD n h)
        refine az_al0 (pc := 72) C rfl rfl dX11_readUnknown_72 ?_
        refine az_getI (pc := 73) C fl_X11_316 rfl dX11_readUnknown_73 ?_
        refine az_bk6 (pc := 76) C dX11_readUnknown_76 ?_
        refine az_icmp_ne (pc := 78) (tgt := 88) C h dX11_readUnknown_78 (by decide) (fun _ h => ?_) (fun _ h => ?_)
        · exact (A_X11_readUnknown_88 C hD n h)
        refine az_al0 (pc := 81) C rfl rfl dX11_readUnknown_81 ?_
        refine az_bk6 (pc := 82) C dX11_readUnknown_82 ?_
        refine az_cV1ii (pc := 84) (c := 11) C hd1 h mv_X11_bad ml_X11_279 rfl (fun x hx => A_X11_bad (by omega) hx) dX11_readUnknown_84 (fun r4 h => ?_)
        obtain ⟨hz, h⟩ := az_zif h
        obtain rfl := Option.some.inj h
        exact az_zreturn (pc := 87) C hz dX11_readUnknown_87 rfl
      refine az_al0 (pc := 45) C rfl rfl dX11_readUnknown_45 ?_
      refine az_ik2 (pc := 46) C dX11_readUnknown_46 ?_
      refine az_cV1ii (pc := 47) (c := 11) C hd1 h mv_X11_bad ml_X11_279 rfl (fun x hx => A_X11_bad (by omega) hx) dX11_readUnknown_47 (fun r5 h => ?_)
      obtain ⟨hz, h⟩ := az_zif h
      obtain rfl := Option.some.inj h
      exact az_zreturn (pc := 50) C hz dX11_readUnknown_50 rfl
    refine az_al0 (pc := 26) C rfl rfl dX11_readUnknown_26 ?_
    refine az_bk7 (pc := 27) C dX11_readUnknown_27 ?_
    refine az_cV1ii (pc := 29) (c := 11) C hd1 h mv_X11_bad ml_X11_279 rfl (fun x hx => A_X11_bad (by omega) hx) dX11_readUnknown_29 (fun r6 h => ?_)
    obtain ⟨hz, h⟩ := az_zif h
    obtain rfl := Option.some.inj h
    exact az_zreturn (pc := 32) C hz dX11_readUnknown_32 rfl
  refine az_al0 (pc := 11) C rfl rfl dX11_readUnknown_11 ?_
  refine az_bk6 (pc := 12) C dX11_readUnknown_12 ?_
  refine az_cV1ii (pc := 14) (c := 11) C hd1 h mv_X11_bad ml_X11_279 rfl (fun x hx => A_X11_bad (by omega) hx) dX11_readUnknown_14 (fun r7 h => ?_)
  obtain ⟨hz, h⟩ := az_zif h
  obtain rfl := Option.some.inj h
  exact az_zreturn (pc := 17) C hz dX11_readUnknown_17 rfl
set_option maxRecDepth 10000 in
set_option maxHeartbeats 4000000 in
theorem A_X11_readUnknown {l : Launch} {d : Nat} (hD : 4 ≤ d) (n : Nat) {σ : az_Hp} {v0 : Int} {r : (Int × az_Hp)} (h : fz_X11_readUnknown n σ v0 = some r) : az_AC l yX11_readUnknown cX11_readUnknown 2 (some .boolean) d [(13, v0)] σ (some (0, r.1), r.2) := az_AC.of mt_X11_readUnknown rfl rfl rfl (fun Z hZ C => A_X11_readUnknown_e C hD n h)
theorem dX11_readVariable_0 : decode cX11_readVariable 0 = .ok (.aload_n 0, 1) := by decide +kernel
theorem dX11_readVariable_1 : decode cX11_readVariable 1 = .ok (.getfield 67, 3) := by decide +kernel
theorem dX11_readVariable_4 : decode cX11_readVariable 4 = .ok (.aload_n 0, 1) := by decide +kernel
theorem dX11_readVariable_5 : decode cX11_readVariable 5 = .ok (.getfield 297, 3) := by decide +kernel
theorem dX11_readVariable_8 : decode cX11_readVariable 8 = .ok (.aload_n 0, 1) := by decide +kernel
theorem dX11_readVariable_9 : decode cX11_readVariable 9 = .ok (.getfield 246, 3) := by decide +kernel
theorem dX11_readVariable_12 : decode cX11_readVariable 12 = .ok (.invokestatic 300, 3) := by decide +kernel
theorem dX11_readVariable_15 : decode cX11_readVariable 15 = .ok (.istore_n 1, 1) := by decide +kernel
theorem dX11_readVariable_16 : decode cX11_readVariable 16 = .ok (.aload_n 0, 1) := by decide +kernel
theorem dX11_readVariable_17 : decode cX11_readVariable 17 = .ok (.getfield 304, 3) := by decide +kernel
theorem dX11_readVariable_20 : decode cX11_readVariable 20 = .ok (.iconst 1, 1) := by decide +kernel
theorem dX11_readVariable_21 : decode cX11_readVariable 21 = .ok (.if_icmp .ne 14, 3) := by decide +kernel
theorem dX11_readVariable_24 : decode cX11_readVariable 24 = .ok (.iload_n 1, 1) := by decide +kernel
theorem dX11_readVariable_25 : decode cX11_readVariable 25 = .ok (.iconst (-1), 1) := by decide +kernel
theorem dX11_readVariable_26 : decode cX11_readVariable 26 = .ok (.if_icmp .ne 9, 3) := by decide +kernel
theorem dX11_readVariable_29 : decode cX11_readVariable 29 = .ok (.aload_n 0, 1) := by decide +kernel
theorem dX11_readVariable_30 : decode cX11_readVariable 30 = .ok (.iconst 3, 1) := by decide +kernel
theorem dX11_readVariable_31 : decode cX11_readVariable 31 = .ok (.invokevirtual 279, 3) := by decide +kernel
theorem dX11_readVariable_34 : decode cX11_readVariable 34 = .ok (.ireturn, 1) := by decide +kernel
theorem dX11_readVariable_35 : decode cX11_readVariable 35 = .ok (.aload_n 0, 1) := by decide +kernel
theorem dX11_readVariable_36 : decode cX11_readVariable 36 = .ok (.getfield 294, 3) := by decide +kernel
theorem dX11_readVariable_39 : decode cX11_readVariable 39 = .ok (.aload_n 0, 1) := by decide +kernel
theorem dX11_readVariable_40 : decode cX11_readVariable 40 = .ok (.getfield 307, 3) := by decide +kernel
theorem dX11_readVariable_43 : decode cX11_readVariable 43 = .ok (.if_icmp .eq 19, 3) := by decide +kernel
theorem dX11_readVariable_46 : decode cX11_readVariable 46 = .ok (.iload_n 1, 1) := by decide +kernel
theorem dX11_readVariable_47 : decode cX11_readVariable 47 = .ok (.iconst (-1), 1) := by decide +kernel
theorem dX11_readVariable_48 : decode cX11_readVariable 48 = .ok (.if_icmp .ne 21, 3) := by decide +kernel
theorem dX11_readVariable_51 : decode cX11_readVariable 51 = .ok (.aload_n 0, 1) := by decide +kernel
theorem dX11_readVariable_52 : decode cX11_readVariable 52 = .ok (.getfield 297, 3) := by decide +kernel
theorem dX11_readVariable_55 : decode cX11_readVariable 55 = .ok (.aload_n 0, 1) := by decide +kernel
theorem dX11_readVariable_56 : decode cX11_readVariable 56 = .ok (.getfield 310, 3) := by decide +kernel
theorem dX11_readVariable_59 : decode cX11_readVariable 59 = .ok (.if_icmp .ne 10, 3) := by decide +kernel
theorem dX11_readVariable_62 : decode cX11_readVariable 62 = .ok (.aload_n 0, 1) := by decide +kernel
theorem dX11_readVariable_63 : decode cX11_readVariable 63 = .ok (.bipush 6, 2) := by decide +kernel
theorem dX11_readVariable_65 : decode cX11_readVariable 65 = .ok (.invokevirtual 279, 3) := by decide +kernel
theorem dX11_readVariable_68 : decode cX11_readVariable 68 = .ok (.ireturn, 1) := by decide +kernel
theorem dX11_readVariable_69 : decode cX11_readVariable 69 = .ok (.iload_n 1, 1) := by decide +kernel
theorem dX11_readVariable_70 : decode cX11_readVariable 70 = .ok (.iconst (-1), 1) := by decide +kernel
theorem dX11_readVariable_71 : decode cX11_readVariable 71 = .ok (.if_icmp .ne 28, 3) := by decide +kernel
theorem dX11_readVariable_74 : decode cX11_readVariable 74 = .ok (.aload_n 0, 1) := by decide +kernel
theorem dX11_readVariable_75 : decode cX11_readVariable 75 = .ok (.getfield 297, 3) := by decide +kernel
theorem dX11_readVariable_78 : decode cX11_readVariable 78 = .ok (.istore_n 1, 1) := by decide +kernel
theorem dX11_readVariable_79 : decode cX11_readVariable 79 = .ok (.aload_n 0, 1) := by decide +kernel
theorem dX11_readVariable_80 : decode cX11_readVariable 80 = .ok (.getfield 67, 3) := by decide +kernel
theorem dX11_readVariable_83 : decode cX11_readVariable 83 = .ok (.iload_n 1, 1) := by decide +kernel
theorem dX11_readVariable_84 : decode cX11_readVariable 84 = .ok (.aload_n 0, 1) := by decide +kernel
theorem dX11_readVariable_85 : decode cX11_readVariable 85 = .ok (.getfield 246, 3) := by decide +kernel
theorem dX11_readVariable_88 : decode cX11_readVariable 88 = .ok (.lastore, 1) := by decide +kernel
theorem dX11_readVariable_89 : decode cX11_readVariable 89 = .ok (.aload_n 0, 1) := by decide +kernel
theorem dX11_readVariable_90 : decode cX11_readVariable 90 = .ok (.dup, 1) := by decide +kernel
theorem dX11_readVariable_91 : decode cX11_readVariable 91 = .ok (.getfield 297, 3) := by decide +kernel
theorem dX11_readVariable_94 : decode cX11_readVariable 94 = .ok (.iconst 1, 1) := by decide +kernel
theorem dX11_readVariable_95 : decode cX11_readVariable 95 = .ok (.iadd, 1) := by decide +kernel
theorem dX11_readVariable_96 : decode cX11_readVariable 96 = .ok (.putfield 297, 3) := by decide +kernel
theorem dX11_readVariable_99 : decode cX11_readVariable 99 = .ok (.aload_n 0, 1) := by decide +kernel
theorem dX11_readVariable_100 : decode cX11_readVariable 100 = .ok (.sipush 1000, 3) := by decide +kernel
theorem dX11_readVariable_103 : decode cX11_readVariable 103 = .ok (.iload_n 1, 1) := by decide +kernel
theorem dX11_readVariable_104 : decode cX11_readVariable 104 = .ok (.iadd, 1) := by decide +kernel
theorem dX11_readVariable_105 : decode cX11_readVariable 105 = .ok (.invokevirtual 313, 3) := by decide +kernel
theorem dX11_readVariable_108 : decode cX11_readVariable 108 = .ok (.ireturn, 1) := by decide +kernel
set_option maxRecDepth 10000 in
set_option maxHeartbeats 4000000 in
theorem A_X11_readVariable_69 {Z : az_Z} {d : Nat} (C : az_C Z yX11_readVariable cX11_readVariable 2 (some .boolean) d) (hD : 4 ≤ d) (n : Nat) {σ : az_Hp} {v0 v1 : Int} {r : (Int × az_Hp)} (h : fz_X11_readVariable_69 n σ v0 v1 = some r) : az_AW Z 2 69 [(13, v0), (0, v1)] [] σ (some (0, r.1), r.2) := by
  have hd1 : 1 ≤ d := by omega
  unfold fz_X11_readVariable_69 at h
  refine az_il1 (pc := 69) C dX11_readVariable_69 ?_
  refine az_ikm1 (pc := 70) C dX11_readVariable_70 ?_
  refine az_icmp_ne (pc := 71) (tgt := 99) C h dX11_readVariable_71 (by decide) (fun _ h => ?_) (fun _ h => ?_)
  · refine az_al0 (pc := 99) C rfl rfl dX11_readVariable_99 ?_
    refine az_sk1000 (pc := 100) C dX11_readVariable_100 ?_
    refine az_il1 (pc := 103) C dX11_readVariable_103 ?_
    refine az_iadd (pc := 104) C dX11_readVariable_104 ?_
    refine az_cV1ii (pc := 105) (c := 11) C hd1 h mv_X11_puts ml_X11_313 rfl (fun x hx => A_X11_puts (by omega) n hx) dX11_readVariable_105 (fun r1 h => ?_)
    obtain ⟨hz, h⟩ := az_zif h
    obtain rfl := Option.some.inj h
    exact az_zreturn (pc := 108) C hz dX11_readVariable_108 rfl
  refine az_al0 (pc := 74) C rfl rfl dX11_readVariable_74 ?_
  refine az_getI (pc := 75) C fl_X11_297 rfl dX11_readVariable_75 ?_
  refine az_is1 (pc := 78) C rfl rfl dX11_readVariable_78 ?_
  refine az_al0 (pc := 79) C rfl rfl dX11_readVariable_79 ?_
  refine az_getR (pc := 80) (c2 := 14) C h fl_X11_67 rfl rfl dX11_readVariable_80 (fun h => ?_)
  refine az_il1 (pc := 83) C dX11_readVariable_83 ?_
  refine az_al0 (pc := 84) C rfl rfl dX11_readVariable_84 ?_
  refine az_getJ (pc := 85) C fl_X11_246 rfl dX11_readVariable_85 ?_
  refine az_lastore (pc := 88) C h dX11_readVariable_88 (fun h => ?_)
  refine az_al0 (pc := 89) C rfl rfl dX11_readVariable_89 ?_
  refine az_dup (pc := 90) C rfl rfl dX11_readVariable_90 ?_
  refine az_getI (pc := 91) C fl_X11_297 rfl dX11_readVariable_91 ?_
  refine az_ik1 (pc := 94) C dX11_readVariable_94 ?_
  refine az_iadd (pc := 95) C dX11_readVariable_95 ?_
  refine az_putI (pc := 96) C fl_X11_297 (Or.inl rfl) rfl dX11_readVariable_96 ?_
  refine az_al0 (pc := 99) C rfl rfl dX11_readVariable_99 ?_
  refine az_sk1000 (pc := 100) C dX11_readVariable_100 ?_
  refine az_il1 (pc := 103) C dX11_readVariable_103 ?_
  refine az_iadd (pc := 104) C dX11_readVariable_104 ?_
  refine az_cV1ii (pc := 105) (c := 11) C hd1 h mv_X11_puts ml_X11_313 rfl (fun x hx => A_X11_puts (by omega) n hx) dX11_readVariable_105 (fun r4 h => ?_)
  obtain ⟨hz, h⟩ := az_zif h
  obtain rfl := Option.some.inj h
  exact az_zreturn (pc := 108) C hz dX11_readVariable_108 rfl
set_option maxRecDepth 10000 in
set_option maxHeartbeats 4000000 in
theorem A_X11_readVariable_35 {Z : az_Z} {d : Nat} (C : az_C Z yX11_readVariable cX11_readVariable 2 (some .boolean) d) (hD : 4 ≤ d) (n : Nat) {σ : az_Hp} {v0 v1 : Int} {r : (Int × az_Hp)} (h : fz_X11_readVariable_35 n σ v0 v1 = some r) : az_AW Z 2 35 [(13, v0), (0, v1)] [] σ (some (0, r.1), r.2) := by
  have hd1 : 1 ≤ d := by omega
  unfold fz_X11_readVariable_35 at h
  refine az_al0 (pc := 35) C rfl rfl dX11_readVariable_35 ?_
  refine az_getI (pc := 36) C fl_X11_294 rfl dX11_readVariable_36 ?_
  refine az_al0 (pc := 39) C rfl rfl dX11_readVariable_39 ?_
  refine az_getI (pc := 40) C fl_X11_307 rfl dX11_readVariable_40 ?_
  refine az_icmp_eq (pc := 43) (tgt := 62) C h dX11_readVariable_43 (by decide) (fun _ h => ?_) (fun _ h => ?_)
  · refine az_al0 (pc := 62) C rfl rfl dX11_readVariable_62 ?_
    refine az_bk6 (pc := 63) C dX11_readVariable_63 ?_
    refine az_cV1ii (pc := 65) (c := 11) C hd1 h mv_X11_bad ml_X11_279 rfl (fun x hx => A_X11_bad (by omega) hx) dX11_readVariable_65 (fun r1 h => ?_)
    obtain ⟨hz, h⟩ := az_zif h
    obtain rfl := Option.some.inj h
    exact az_zreturn (pc := 68) C hz dX11_readVariable_68 rfl
  refine az_il1 (pc := 46) C dX11_readVariable_46 ?_
  refine az_ikm1 (pc := 47) C dX11_readVariable_47 ?_
  refine az_icmp_ne (pc := 48) (tgt := 69) C h dX11_readVariable_48 (by decide) (fun _ h => ?_) (fun _ h => ?_)
  · exact (A_X11_readVariable_69 C hD n h)
  refine az_al0 (pc := 51) C rfl rfl dX11_readVariable_51 ?_
  refine az_getI (pc := 52) C fl_X11_297 rfl dX11_readVariable_52 ?_
  refine az_al0 (pc := 55) C rfl rfl dX11_readVariable_55 ?_
  refine az_getI (pc := 56) C fl_X11_310 rfl dX11_readVariable_56 ?_
  refine az_icmp_ne (pc := 59) (tgt := 69) C h dX11_readVariable_59 (by decide) (fun _ h => ?_) (fun _ h => ?_)
  · exact (A_X11_readVariable_69 C hD n h)
  refine az_al0 (pc := 62) C rfl rfl dX11_readVariable_62 ?_
  refine az_bk6 (pc := 63) C dX11_readVariable_63 ?_
  refine az_cV1ii (pc := 65) (c := 11) C hd1 h mv_X11_bad ml_X11_279 rfl (fun x hx => A_X11_bad (by omega) hx) dX11_readVariable_65 (fun r2 h => ?_)
  obtain ⟨hz, h⟩ := az_zif h
  obtain rfl := Option.some.inj h
  exact az_zreturn (pc := 68) C hz dX11_readVariable_68 rfl
set_option maxRecDepth 10000 in
set_option maxHeartbeats 4000000 in
theorem A_X11_readVariable_e {Z : az_Z} {d : Nat} (C : az_C Z yX11_readVariable cX11_readVariable 2 (some .boolean) d) (hD : 4 ≤ d) (n : Nat) {σ : az_Hp} {v0 : Int} {r : (Int × az_Hp)} (h : fz_X11_readVariable n σ v0 = some r) : az_AW Z 2 0 [(13, v0), (31, 0)] [] σ (some (0, r.1), r.2) := by
  have hd1 : 1 ≤ d := by omega
  unfold fz_X11_readVariable at h
  refine az_al0 (pc := 0) C rfl rfl dX11_readVariable_0 ?_
  refine az_getR (pc := 1) (c2 := 14) C h fl_X11_67 rfl rfl dX11_readVariable_1 (fun h => ?_)
  refine az_al0 (pc := 4) C rfl rfl dX11_readVariable_4 ?_
  refine az_getI (pc := 5) C fl_X11_297 rfl dX11_readVariable_5 ?_
  refine az_al0 (pc := 8) C rfl rfl dX11_readVariable_8 ?_
  refine az_getJ (pc := 9) C fl_X11_246 rfl dX11_readVariable_9 ?_
  refine az_cS3pi (pc := 12) C hd1 h ms_X11_findIn ml_X11_300 rfl (fun x hx => A_X11_findIn (by omega) n hx) dX11_readVariable_12 (fun r2 h => ?_)
  refine az_is1 (pc := 15) C rfl rfl dX11_readVariable_15 ?_
  refine az_al0 (pc := 16) C rfl rfl dX11_readVariable_16 ?_
  refine az_getI (pc := 17) C fl_X11_304 rfl dX11_readVariable_17 ?_
  refine az_ik1 (pc := 20) C dX11_readVariable_20 ?_
  refine az_icmp_ne (pc := 21) (tgt := 35) C h dX11_readVariable_21 (by decide) (fun _ h => ?_) (fun _ h => ?_)
  · exact (A_X11_readVariable_35 C hD n h)
  refine az_il1 (pc := 24) C dX11_readVariable_24 ?_
  refine az_ikm1 (pc := 25) C dX11_readVariable_25 ?_
  refine az_icmp_ne (pc := 26) (tgt := 35) C h dX11_readVariable_26 (by decide) (fun _ h => ?_) (fun _ h => ?_)
  · exact (A_X11_readVariable_35 C hD n h)
  refine az_al0 (pc := 29) C rfl rfl dX11_readVariable_29 ?_
  refine az_ik3 (pc := 30) C dX11_readVariable_30 ?_
  refine az_cV1ii (pc := 31) (c := 11) C hd1 h mv_X11_bad ml_X11_279 rfl (fun x hx => A_X11_bad (by omega) hx) dX11_readVariable_31 (fun r3 h => ?_)
  obtain ⟨hz, h⟩ := az_zif h
  obtain rfl := Option.some.inj h
  exact az_zreturn (pc := 34) C hz dX11_readVariable_34 rfl
set_option maxRecDepth 10000 in
set_option maxHeartbeats 4000000 in
theorem A_X11_readVariable {l : Launch} {d : Nat} (hD : 4 ≤ d) (n : Nat) {σ : az_Hp} {v0 : Int} {r : (Int × az_Hp)} (h : fz_X11_readVariable n σ v0 = some r) : az_AC l yX11_readVariable cX11_readVariable 2 (some .boolean) d [(13, v0)] σ (some (0, r.1), r.2) := az_AC.of mt_X11_readVariable rfl rfl rfl (fun Z hZ C => A_X11_readVariable_e C hD n h)
theorem dX11_readTerm_0 : decode cX11_readTerm 0 = .ok (.aload_n 0, 1) := by decide +kernel
theorem dX11_readTerm_1 : decode cX11_readTerm 1 = .ok (.invokevirtual 319, 3) := by decide +kernel
theorem dX11_readTerm_4 : decode cX11_readTerm 4 = .ok (.ifCond .eq 21, 3) := by decide +kernel
theorem dX11_readTerm_7 : decode cX11_readTerm 7 = .ok (.iload_n 3, 1) := by decide +kernel
theorem dX11_readTerm_8 : decode cX11_readTerm 8 = .ok (.ifCond .eq 12, 3) := by decide +kernel
theorem dX11_readTerm_11 : decode cX11_readTerm 11 = .ok (.aload_n 0, 1) := by decide +kernel
theorem dX11_readTerm_12 : decode cX11_readTerm 12 = .ok (.bipush 7, 2) := by decide +kernel
theorem dX11_readTerm_14 : decode cX11_readTerm 14 = .ok (.invokevirtual 279, 3) := by decide +kernel
theorem dX11_readTerm_17 : decode cX11_readTerm 17 = .ok (.goto 7, 3) := by decide +kernel
theorem dX11_readTerm_20 : decode cX11_readTerm 20 = .ok (.aload_n 0, 1) := by decide +kernel
theorem dX11_readTerm_21 : decode cX11_readTerm 21 = .ok (.invokevirtual 323, 3) := by decide +kernel
theorem dX11_readTerm_24 : decode cX11_readTerm 24 = .ok (.ireturn, 1) := by decide +kernel
theorem dX11_readTerm_25 : decode cX11_readTerm 25 = .ok (.aload_n 0, 1) := by decide +kernel
theorem dX11_readTerm_26 : decode cX11_readTerm 26 = .ok (.bipush 63, 2) := by decide +kernel
theorem dX11_readTerm_28 : decode cX11_readTerm 28 = .ok (.invokevirtual 276, 3) := by decide +kernel
theorem dX11_readTerm_31 : decode cX11_readTerm 31 = .ok (.ifCond .eq 24, 3) := by decide +kernel
theorem dX11_readTerm_34 : decode cX11_readTerm 34 = .ok (.aload_n 0, 1) := by decide +kernel
theorem dX11_readTerm_35 : decode cX11_readTerm 35 = .ok (.getfield 304, 3) := by decide +kernel
theorem dX11_readTerm_38 : decode cX11_readTerm 38 = .ok (.iconst 3, 1) := by decide +kernel
theorem dX11_readTerm_39 : decode cX11_readTerm 39 = .ok (.if_icmp .eq 11, 3) := by decide +kernel
theorem dX11_readTerm_42 : decode cX11_readTerm 42 = .ok (.aload_n 0, 1) := by decide +kernel
theorem dX11_readTerm_43 : decode cX11_readTerm 43 = .ok (.getfield 304, 3) := by decide +kernel
theorem dX11_readTerm_46 : decode cX11_readTerm 46 = .ok (.iconst 4, 1) := by decide +kernel
theorem dX11_readTerm_47 : decode cX11_readTerm 47 = .ok (.if_icmp .ne 8, 3) := by decide +kernel
theorem dX11_readTerm_50 : decode cX11_readTerm 50 = .ok (.aload_n 0, 1) := by decide +kernel
theorem dX11_readTerm_51 : decode cX11_readTerm 51 = .ok (.invokevirtual 326, 3) := by decide +kernel
theorem dX11_readTerm_54 : decode cX11_readTerm 54 = .ok (.ireturn, 1) := by decide +kernel
theorem dX11_readTerm_55 : decode cX11_readTerm 55 = .ok (.aload_n 0, 1) := by decide +kernel
theorem dX11_readTerm_56 : decode cX11_readTerm 56 = .ok (.getfield 236, 3) := by decide +kernel
theorem dX11_readTerm_59 : decode cX11_readTerm 59 = .ok (.iconst 2, 1) := by decide +kernel
theorem dX11_readTerm_60 : decode cX11_readTerm 60 = .ok (.if_icmp .eq 9, 3) := by decide +kernel
theorem dX11_readTerm_63 : decode cX11_readTerm 63 = .ok (.aload_n 0, 1) := by decide +kernel
theorem dX11_readTerm_64 : decode cX11_readTerm 64 = .ok (.iconst 2, 1) := by decide +kernel
theorem dX11_readTerm_65 : decode cX11_readTerm 65 = .ok (.invokevirtual 279, 3) := by decide +kernel
theorem dX11_readTerm_68 : decode cX11_readTerm 68 = .ok (.ireturn, 1) := by decide +kernel
theorem dX11_readTerm_69 : decode cX11_readTerm 69 = .ok (.aload_n 0, 1) := by decide +kernel
theorem dX11_readTerm_70 : decode cX11_readTerm 70 = .ok (.aload_n 0, 1) := by decide +kernel
theorem dX11_readTerm_71 : decode cX11_readTerm 71 = .ok (.getfield 246, 3) := by decide +kernel
theorem dX11_readTerm_74 : decode cX11_readTerm 74 = .ok (.invokevirtual 329, 3) := by decide +kernel
theorem dX11_readTerm_77 : decode cX11_readTerm 77 = .ok (.istore 4, 2) := by decide +kernel
theorem dX11_readTerm_79 : decode cX11_readTerm 79 = .ok (.aload_n 0, 1) := by decide +kernel
theorem dX11_readTerm_80 : decode cX11_readTerm 80 = .ok (.aload_n 0, 1) := by decide +kernel
theorem dX11_readTerm_81 : decode cX11_readTerm 81 = .ok (.getfield 246, 3) := by decide +kernel
theorem dX11_readTerm_84 : decode cX11_readTerm 84 = .ok (.invokevirtual 333, 3) := by decide +kernel
theorem dX11_readTerm_87 : decode cX11_readTerm 87 = .ok (.istore 5, 2) := by decide +kernel
theorem dX11_readTerm_89 : decode cX11_readTerm 89 = .ok (.iload 4, 2) := by decide +kernel
theorem dX11_readTerm_91 : decode cX11_readTerm 91 = .ok (.iconst (-1), 1) := by decide +kernel
theorem dX11_readTerm_92 : decode cX11_readTerm 92 = .ok (.if_icmp .ne 15, 3) := by decide +kernel
theorem dX11_readTerm_95 : decode cX11_readTerm 95 = .ok (.iload 5, 2) := by decide +kernel
theorem dX11_readTerm_97 : decode cX11_readTerm 97 = .ok (.iconst (-1), 1) := by decide +kernel
theorem dX11_readTerm_98 : decode cX11_readTerm 98 = .ok (.if_icmp .ne 9, 3) := by decide +kernel
theorem dX11_readTerm_101 : decode cX11_readTerm 101 = .ok (.aload_n 0, 1) := by decide +kernel
theorem dX11_readTerm_102 : decode cX11_readTerm 102 = .ok (.iconst 3, 1) := by decide +kernel
theorem dX11_readTerm_103 : decode cX11_readTerm 103 = .ok (.invokevirtual 279, 3) := by decide +kernel
theorem dX11_readTerm_106 : decode cX11_readTerm 106 = .ok (.ireturn, 1) := by decide +kernel
theorem dX11_readTerm_107 : decode cX11_readTerm 107 = .ok (.aload_n 0, 1) := by decide +kernel
theorem dX11_readTerm_108 : decode cX11_readTerm 108 = .ok (.getfield 294, 3) := by decide +kernel
theorem dX11_readTerm_111 : decode cX11_readTerm 111 = .ok (.aload_n 0, 1) := by decide +kernel
theorem dX11_readTerm_112 : decode cX11_readTerm 112 = .ok (.getfield 307, 3) := by decide +kernel
theorem dX11_readTerm_115 : decode cX11_readTerm 115 = .ok (.if_icmp .ne 10, 3) := by decide +kernel
theorem dX11_readTerm_118 : decode cX11_readTerm 118 = .ok (.aload_n 0, 1) := by decide +kernel
theorem dX11_readTerm_119 : decode cX11_readTerm 119 = .ok (.bipush 6, 2) := by decide +kernel
theorem dX11_readTerm_121 : decode cX11_readTerm 121 = .ok (.invokevirtual 279, 3) := by decide +kernel
theorem dX11_readTerm_124 : decode cX11_readTerm 124 = .ok (.ireturn, 1) := by decide +kernel
theorem dX11_readTerm_125 : decode cX11_readTerm 125 = .ok (.iload_n 3, 1) := by decide +kernel
theorem dX11_readTerm_126 : decode cX11_readTerm 126 = .ok (.ifCond .eq 9, 3) := by decide +kernel
theorem dX11_readTerm_129 : decode cX11_readTerm 129 = .ok (.iload 4, 2) := by decide +kernel
theorem dX11_readTerm_131 : decode cX11_readTerm 131 = .ok (.iconst (-1), 1) := by decide +kernel
theorem dX11_readTerm_132 : decode cX11_readTerm 132 = .ok (.if_icmp .eq 20, 3) := by decide +kernel
theorem dX11_readTerm_135 : decode cX11_readTerm 135 = .ok (.aload_n 0, 1) := by decide +kernel
theorem dX11_readTerm_136 : decode cX11_readTerm 136 = .ok (.getfield 304, 3) := by decide +kernel
theorem dX11_readTerm_139 : decode cX11_readTerm 139 = .ok (.ifCond .ne 20, 3) := by decide +kernel
theorem dX11_readTerm_142 : decode cX11_readTerm 142 = .ok (.iload_n 2, 1) := by decide +kernel
theorem dX11_readTerm_143 : decode cX11_readTerm 143 = .ok (.ifCond .eq 16, 3) := by decide +kernel
theorem dX11_readTerm_146 : decode cX11_readTerm 146 = .ok (.iload 4, 2) := by decide +kernel
theorem dX11_readTerm_148 : decode cX11_readTerm 148 = .ok (.iconst (-1), 1) := by decide +kernel
theorem dX11_readTerm_149 : decode cX11_readTerm 149 = .ok (.if_icmp .eq 10, 3) := by decide +kernel
theorem dX11_readTerm_152 : decode cX11_readTerm 152 = .ok (.aload_n 0, 1) := by decide +kernel
theorem dX11_readTerm_153 : decode cX11_readTerm 153 = .ok (.bipush 7, 2) := by decide +kernel
theorem dX11_readTerm_155 : decode cX11_readTerm 155 = .ok (.invokevirtual 279, 3) := by decide +kernel
theorem dX11_readTerm_158 : decode cX11_readTerm 158 = .ok (.ireturn, 1) := by decide +kernel
theorem dX11_readTerm_159 : decode cX11_readTerm 159 = .ok (.iload 4, 2) := by decide +kernel
theorem dX11_readTerm_161 : decode cX11_readTerm 161 = .ok (.iconst (-1), 1) := by decide +kernel
theorem dX11_readTerm_162 : decode cX11_readTerm 162 = .ok (.if_icmp .ne 11, 3) := by decide +kernel
theorem dX11_readTerm_165 : decode cX11_readTerm 165 = .ok (.bipush 100, 2) := by decide +kernel
theorem dX11_readTerm_167 : decode cX11_readTerm 167 = .ok (.iload 5, 2) := by decide +kernel
theorem dX11_readTerm_169 : decode cX11_readTerm 169 = .ok (.iadd, 1) := by decide +kernel
theorem dX11_readTerm_170 : decode cX11_readTerm 170 = .ok (.goto 9, 3) := by decide +kernel
theorem dX11_readTerm_173 : decode cX11_readTerm 173 = .ok (.sipush 200, 3) := by decide +kernel
theorem dX11_readTerm_176 : decode cX11_readTerm 176 = .ok (.iload 4, 2) := by decide +kernel
theorem dX11_readTerm_178 : decode cX11_readTerm 178 = .ok (.iadd, 1) := by decide +kernel
theorem dX11_readTerm_179 : decode cX11_readTerm 179 = .ok (.istore 6, 2) := by decide +kernel
theorem dX11_readTerm_181 : decode cX11_readTerm 181 = .ok (.aload_n 0, 1) := by decide +kernel
theorem dX11_readTerm_182 : decode cX11_readTerm 182 = .ok (.iload 6, 2) := by decide +kernel
theorem dX11_readTerm_184 : decode cX11_readTerm 184 = .ok (.invokevirtual 313, 3) := by decide +kernel
theorem dX11_readTerm_187 : decode cX11_readTerm 187 = .ok (.pop, 1) := by decide +kernel
theorem dX11_readTerm_188 : decode cX11_readTerm 188 = .ok (.aload_n 0, 1) := by decide +kernel
theorem dX11_readTerm_189 : decode cX11_readTerm 189 = .ok (.aload_n 0, 1) := by decide +kernel
theorem dX11_readTerm_190 : decode cX11_readTerm 190 = .ok (.iload 6, 2) := by decide +kernel
theorem dX11_readTerm_192 : decode cX11_readTerm 192 = .ok (.invokevirtual 336, 3) := by decide +kernel
theorem dX11_readTerm_195 : decode cX11_readTerm 195 = .ok (.iload_n 1, 1) := by decide +kernel
theorem dX11_readTerm_196 : decode cX11_readTerm 196 = .ok (.iload_n 2, 1) := by decide +kernel
theorem dX11_readTerm_197 : decode cX11_readTerm 197 = .ok (.invokevirtual 339, 3) := by decide +kernel
theorem dX11_readTerm_200 : decode cX11_readTerm 200 = .ok (.ireturn, 1) := by decide +kernel
set_option maxRecDepth 10000 in
set_option maxHeartbeats 4000000 in
theorem A_X11_readTerm_179 {Z : az_Z} {d : Nat} (C : az_C Z yX11_readTerm cX11_readTerm 7 (some .boolean) d) (hD : 5 ≤ d) (n : Nat) {dr : Nat} {rec : az_Hp → Int → Int → Int → Int → Option (Int × az_Hp)} (hrec : ∀ {l : Launch} {d' : Nat}, dr ≤ d' → ∀ {σ : az_Hp} {u0 u1 u2 u3 : Int} {r : (Int × az_Hp)}, rec σ u0 u1 u2 u3 = some r → az_AC l yX11_readTerm cX11_readTerm 7 (some .boolean) d' [(13, u0), (0, u1), (0, u2), (0, u3)] σ (some (0, r.1), r.2)) (hr : dr + 2 ≤ d) {σ : az_Hp} {v0 v1 v2 w0 : Int} {r : (Int × az_Hp)} (h : fz_X11_readTerm_179 n rec σ v0 v1 v2 w0 = some r) : az_AW Z 7 179 [(13, v0), (0, v1), (0, v2), (31, 0), (31, 0), (31, 0), (31, 0)] [(0, w0)] σ (some (0, r.1), r.2) := by
  have hd1 : 1 ≤ d := by omega
  unfold fz_X11_readTerm_179 at h
  refine az_is6 (pc := 179) C rfl rfl dX11_readTerm_179 ?_
  refine az_al0 (pc := 181) C rfl rfl dX11_readTerm_181 ?_
  refine az_il6 (pc := 182) C dX11_readTerm_182 ?_
  refine az_cV1ii (pc := 184) (c := 11) C hd1 h mv_X11_puts ml_X11_313 rfl (fun x hx => A_X11_puts (by omega) n hx) dX11_readTerm_184 (fun r1 h => ?_)
  refine az_pop (pc := 187) C rfl rfl dX11_readTerm_187 ?_
  refine az_al0 (pc := 188) C rfl rfl dX11_readTerm_188 ?_
  refine az_al0 (pc := 189) C rfl rfl dX11_readTerm_189 ?_
  refine az_il6 (pc := 190) C dX11_readTerm_190 ?_
  refine az_cV1pi (pc := 192) (c := 11) C hd1 h mv_X11_takes ml_X11_336 rfl (fun x hx => A_X11_takes (by omega) hx) dX11_readTerm_192 (fun r2 h => ?_)
  refine az_il1 (pc := 195) C dX11_readTerm_195 ?_
  refine az_il2 (pc := 196) C dX11_readTerm_196 ?_
  refine az_cV3ii (pc := 197) (c := 11) C hd1 h mv_X11_readArguments ml_X11_339 rfl (fun x hx => A_X11_readArguments (by omega) n hrec (by omega) hx) dX11_readTerm_197 (fun r3 h => ?_)
  obtain ⟨hz, h⟩ := az_zif h
  obtain rfl := Option.some.inj h
  exact az_zreturn (pc := 200) C hz dX11_readTerm_200 rfl
set_option maxRecDepth 10000 in
set_option maxHeartbeats 4000000 in
theorem A_X11_readTerm_159 {Z : az_Z} {d : Nat} (C : az_C Z yX11_readTerm cX11_readTerm 7 (some .boolean) d) (hD : 5 ≤ d) (n : Nat) {dr : Nat} {rec : az_Hp → Int → Int → Int → Int → Option (Int × az_Hp)} (hrec : ∀ {l : Launch} {d' : Nat}, dr ≤ d' → ∀ {σ : az_Hp} {u0 u1 u2 u3 : Int} {r : (Int × az_Hp)}, rec σ u0 u1 u2 u3 = some r → az_AC l yX11_readTerm cX11_readTerm 7 (some .boolean) d' [(13, u0), (0, u1), (0, u2), (0, u3)] σ (some (0, r.1), r.2)) (hr : dr + 2 ≤ d) {σ : az_Hp} {v0 v1 v2 v4 v5 : Int} {r : (Int × az_Hp)} (h : fz_X11_readTerm_159 n rec σ v0 v1 v2 v4 v5 = some r) : az_AW Z 7 159 [(13, v0), (0, v1), (0, v2), (31, 0), (0, v4), (0, v5), (31, 0)] [] σ (some (0, r.1), r.2) := by
  have hd1 : 1 ≤ d := by omega
  unfold fz_X11_readTerm_159 at h
  refine az_il4 (pc := 159) C dX11_readTerm_159 ?_
  refine az_ikm1 (pc := 161) C dX11_readTerm_161 ?_
  refine az_icmp_ne (pc := 162) (tgt := 173) C h dX11_readTerm_162 (by decide) (fun _ h => ?_) (fun _ h => ?_)
  · refine az_sk200 (pc := 173) C dX11_readTerm_173 ?_
    refine az_il4 (pc := 176) C dX11_readTerm_176 ?_
    refine az_iadd (pc := 178) C dX11_readTerm_178 ?_
    exact (az_wkk (A_X11_readTerm_179 C hD n hrec hr h) (az_sE (az_sE (az_sE (az_sJ (az_sJ (az_sJ (az_sJ az_sN))))))))
  refine az_bk100 (pc := 165) C dX11_readTerm_165 ?_
  refine az_il5 (pc := 167) C dX11_readTerm_167 ?_
  refine az_iadd (pc := 169) C dX11_readTerm_169 ?_
  refine az_goto (pc := 170) (tgt := 179) C dX11_readTerm_170 (by decide) ?_
  exact (az_wkk (A_X11_readTerm_179 C hD n hrec hr h) (az_sE (az_sE (az_sE (az_sJ (az_sJ (az_sJ (az_sJ az_sN))))))))
set_option maxRecDepth 10000 in
set_option maxHeartbeats 4000000 in
theorem A_X11_readTerm_135 {Z : az_Z} {d : Nat} (C : az_C Z yX11_readTerm cX11_readTerm 7 (some .boolean) d) (hD : 5 ≤ d) (n : Nat) {dr : Nat} {rec : az_Hp → Int → Int → Int → Int → Option (Int × az_Hp)} (hrec : ∀ {l : Launch} {d' : Nat}, dr ≤ d' → ∀ {σ : az_Hp} {u0 u1 u2 u3 : Int} {r : (Int × az_Hp)}, rec σ u0 u1 u2 u3 = some r → az_AC l yX11_readTerm cX11_readTerm 7 (some .boolean) d' [(13, u0), (0, u1), (0, u2), (0, u3)] σ (some (0, r.1), r.2)) (hr : dr + 2 ≤ d) {σ : az_Hp} {v0 v1 v2 v4 v5 : Int} {r : (Int × az_Hp)} (h : fz_X11_readTerm_135 n rec σ v0 v1 v2 v4 v5 = some r) : az_AW Z 7 135 [(13, v0), (0, v1), (0, v2), (31, 0), (0, v4), (0, v5), (31, 0)] [] σ (some (0, r.1), r.2) := by
  have hd1 : 1 ≤ d := by omega
  unfold fz_X11_readTerm_135 at h
  refine az_al0 (pc := 135) C rfl rfl dX11_readTerm_135 ?_
  refine az_getI (pc := 136) C fl_X11_304 rfl dX11_readTerm_136 ?_
  refine az_if_ne (pc := 139) (tgt := 159) C h dX11_readTerm_139 (by decide) (fun _ h => ?_) (fun _ h => ?_)
  · exact (A_X11_readTerm_159 C hD n hrec hr h)
  refine az_il2 (pc := 142) C dX11_readTerm_142 ?_
  refine az_if_eq (pc := 143) (tgt := 159) C h dX11_readTerm_143 (by decide) (fun _ h => ?_) (fun _ h => ?_)
  · exact (A_X11_readTerm_159 C hD n hrec hr h)
  refine az_il4 (pc := 146) C dX11_readTerm_146 ?_
  refine az_ikm1 (pc := 148) C dX11_readTerm_148 ?_
  refine az_icmp_eq (pc := 149) (tgt := 159) C h dX11_readTerm_149 (by decide) (fun _ h => ?_) (fun _ h => ?_)
  · exact (A_X11_readTerm_159 C hD n hrec hr h)
  refine az_al0 (pc := 152) C rfl rfl dX11_readTerm_152 ?_
  refine az_bk7 (pc := 153) C dX11_readTerm_153 ?_
  refine az_cV1ii (pc := 155) (c := 11) C hd1 h mv_X11_bad ml_X11_279 rfl (fun x hx => A_X11_bad (by omega) hx) dX11_readTerm_155 (fun r1 h => ?_)
  obtain ⟨hz, h⟩ := az_zif h
  obtain rfl := Option.some.inj h
  exact az_zreturn (pc := 158) C hz dX11_readTerm_158 rfl
set_option maxRecDepth 10000 in
set_option maxHeartbeats 4000000 in
theorem A_X11_readTerm_107 {Z : az_Z} {d : Nat} (C : az_C Z yX11_readTerm cX11_readTerm 7 (some .boolean) d) (hD : 5 ≤ d) (n : Nat) {dr : Nat} {rec : az_Hp → Int → Int → Int → Int → Option (Int × az_Hp)} (hrec : ∀ {l : Launch} {d' : Nat}, dr ≤ d' → ∀ {σ : az_Hp} {u0 u1 u2 u3 : Int} {r : (Int × az_Hp)}, rec σ u0 u1 u2 u3 = some r → az_AC l yX11_readTerm cX11_readTerm 7 (some .boolean) d' [(13, u0), (0, u1), (0, u2), (0, u3)] σ (some (0, r.1), r.2)) (hr : dr + 2 ≤ d) {σ : az_Hp} {v0 v1 v2 v3 v4 v5 : Int} {r : (Int × az_Hp)} (h : fz_X11_readTerm_107 n rec σ v0 v1 v2 v3 v4 v5 = some r) : az_AW Z 7 107 [(13, v0), (0, v1), (0, v2), (0, v3), (0, v4), (0, v5), (31, 0)] [] σ (some (0, r.1), r.2) := by
  have hd1 : 1 ≤ d := by omega
  unfold fz_X11_readTerm_107 at h
  refine az_al0 (pc := 107) C rfl rfl dX11_readTerm_107 ?_
  refine az_getI (pc := 108) C fl_X11_294 rfl dX11_readTerm_108 ?_
  refine az_al0 (pc := 111) C rfl rfl dX11_readTerm_111 ?_
  refine az_getI (pc := 112) C fl_X11_307 rfl dX11_readTerm_112 ?_
  refine az_icmp_ne (pc := 115) (tgt := 125) C h dX11_readTerm_115 (by decide) (fun _ h => ?_) (fun _ h => ?_)
  · refine az_il3 (pc := 125) C dX11_readTerm_125 ?_
    refine az_if_eq (pc := 126) (tgt := 135) C h dX11_readTerm_126 (by decide) (fun _ h => ?_) (fun _ h => ?_)
    · exact (az_wkk (A_X11_readTerm_135 C hD n hrec hr h) (az_sE (az_sE (az_sE (az_sJ (az_sE (az_sE (az_sJ az_sN))))))))
    refine az_il4 (pc := 129) C dX11_readTerm_129 ?_
    refine az_ikm1 (pc := 131) C dX11_readTerm_131 ?_
    refine az_icmp_eq (pc := 132) (tgt := 152) C h dX11_readTerm_132 (by decide) (fun _ h => ?_) (fun _ h => ?_)
    · refine az_al0 (pc := 152) C rfl rfl dX11_readTerm_152 ?_
      refine az_bk7 (pc := 153) C dX11_readTerm_153 ?_
      refine az_cV1ii (pc := 155) (c := 11) C hd1 h mv_X11_bad ml_X11_279 rfl (fun x hx => A_X11_bad (by omega) hx) dX11_readTerm_155 (fun r1 h => ?_)
      obtain ⟨hz, h⟩ := az_zif h
      obtain rfl := Option.some.inj h
      exact az_zreturn (pc := 158) C hz dX11_readTerm_158 rfl
    exact (az_wkk (A_X11_readTerm_135 C hD n hrec hr h) (az_sE (az_sE (az_sE (az_sJ (az_sE (az_sE (az_sJ az_sN))))))))
  refine az_al0 (pc := 118) C rfl rfl dX11_readTerm_118 ?_
  refine az_bk6 (pc := 119) C dX11_readTerm_119 ?_
  refine az_cV1ii (pc := 121) (c := 11) C hd1 h mv_X11_bad ml_X11_279 rfl (fun x hx => A_X11_bad (by omega) hx) dX11_readTerm_121 (fun r2 h => ?_)
  obtain ⟨hz, h⟩ := az_zif h
  obtain rfl := Option.some.inj h
  exact az_zreturn (pc := 124) C hz dX11_readTerm_124 rfl
set_option maxRecDepth 10000 in
set_option maxHeartbeats 4000000 in
theorem A_X11_readTerm_55 {Z : az_Z} {d : Nat} (C : az_C Z yX11_readTerm cX11_readTerm 7 (some .boolean) d) (hD : 5 ≤ d) (n : Nat) {dr : Nat} {rec : az_Hp → Int → Int → Int → Int → Option (Int × az_Hp)} (hrec : ∀ {l : Launch} {d' : Nat}, dr ≤ d' → ∀ {σ : az_Hp} {u0 u1 u2 u3 : Int} {r : (Int × az_Hp)}, rec σ u0 u1 u2 u3 = some r → az_AC l yX11_readTerm cX11_readTerm 7 (some .boolean) d' [(13, u0), (0, u1), (0, u2), (0, u3)] σ (some (0, r.1), r.2)) (hr : dr + 2 ≤ d) {σ : az_Hp} {v0 v1 v2 v3 : Int} {r : (Int × az_Hp)} (h : fz_X11_readTerm_55 n rec σ v0 v1 v2 v3 = some r) : az_AW Z 7 55 [(13, v0), (0, v1), (0, v2), (0, v3), (31, 0), (31, 0), (31, 0)] [] σ (some (0, r.1), r.2) := by
  have hd1 : 1 ≤ d := by omega
  unfold fz_X11_readTerm_55 at h
  refine az_al0 (pc := 55) C rfl rfl dX11_readTerm_55 ?_
  refine az_getI (pc := 56) C fl_X11_236 rfl dX11_readTerm_56 ?_
  refine az_ik2 (pc := 59) C dX11_readTerm_59 ?_
  refine az_icmp_eq (pc := 60) (tgt := 69) C h dX11_readTerm_60 (by decide) (fun _ h => ?_) (fun _ h => ?_)
  · refine az_al0 (pc := 69) C rfl rfl dX11_readTerm_69 ?_
    refine az_al0 (pc := 70) C rfl rfl dX11_readTerm_70 ?_
    refine az_getJ (pc := 71) C fl_X11_246 rfl dX11_readTerm_71 ?_
    refine az_cV1pi (pc := 74) (c := 11) C hd1 h mv_X11_famOf ml_X11_329 rfl (fun x hx => A_X11_famOf (by omega) n hx) dX11_readTerm_74 (fun r1 h => ?_)
    refine az_is4 (pc := 77) C rfl rfl dX11_readTerm_77 ?_
    refine az_al0 (pc := 79) C rfl rfl dX11_readTerm_79 ?_
    refine az_al0 (pc := 80) C rfl rfl dX11_readTerm_80 ?_
    refine az_getJ (pc := 81) C fl_X11_246 rfl dX11_readTerm_81 ?_
    refine az_cV1pi (pc := 84) (c := 11) C hd1 h mv_X11_conOf ml_X11_333 rfl (fun x hx => A_X11_conOf (by omega) n hx) dX11_readTerm_84 (fun r2 h => ?_)
    refine az_is5 (pc := 87) C rfl rfl dX11_readTerm_87 ?_
    refine az_il4 (pc := 89) C dX11_readTerm_89 ?_
    refine az_ikm1 (pc := 91) C dX11_readTerm_91 ?_
    refine az_icmp_ne (pc := 92) (tgt := 107) C h dX11_readTerm_92 (by decide) (fun _ h => ?_) (fun _ h => ?_)
    · exact (A_X11_readTerm_107 C hD n hrec hr h)
    refine az_il5 (pc := 95) C dX11_readTerm_95 ?_
    refine az_ikm1 (pc := 97) C dX11_readTerm_97 ?_
    refine az_icmp_ne (pc := 98) (tgt := 107) C h dX11_readTerm_98 (by decide) (fun _ h => ?_) (fun _ h => ?_)
    · exact (A_X11_readTerm_107 C hD n hrec hr h)
    refine az_al0 (pc := 101) C rfl rfl dX11_readTerm_101 ?_
    refine az_ik3 (pc := 102) C dX11_readTerm_102 ?_
    refine az_cV1ii (pc := 103) (c := 11) C hd1 h mv_X11_bad ml_X11_279 rfl (fun x hx => A_X11_bad (by omega) hx) dX11_readTerm_103 (fun r3 h => ?_)
    obtain ⟨hz, h⟩ := az_zif h
    obtain rfl := Option.some.inj h
    exact az_zreturn (pc := 106) C hz dX11_readTerm_106 rfl
  refine az_al0 (pc := 63) C rfl rfl dX11_readTerm_63 ?_
  refine az_ik2 (pc := 64) C dX11_readTerm_64 ?_
  refine az_cV1ii (pc := 65) (c := 11) C hd1 h mv_X11_bad ml_X11_279 rfl (fun x hx => A_X11_bad (by omega) hx) dX11_readTerm_65 (fun r4 h => ?_)
  obtain ⟨hz, h⟩ := az_zif h
  obtain rfl := Option.some.inj h
  exact az_zreturn (pc := 68) C hz dX11_readTerm_68 rfl
set_option maxRecDepth 10000 in
set_option maxHeartbeats 4000000 in
theorem A_X11_readTerm_e {Z : az_Z} {d : Nat} (C : az_C Z yX11_readTerm cX11_readTerm 7 (some .boolean) d) (hD : 5 ≤ d) (n : Nat) {dr : Nat} {rec : az_Hp → Int → Int → Int → Int → Option (Int × az_Hp)} (hrec : ∀ {l : Launch} {d' : Nat}, dr ≤ d' → ∀ {σ : az_Hp} {u0 u1 u2 u3 : Int} {r : (Int × az_Hp)}, rec σ u0 u1 u2 u3 = some r → az_AC l yX11_readTerm cX11_readTerm 7 (some .boolean) d' [(13, u0), (0, u1), (0, u2), (0, u3)] σ (some (0, r.1), r.2)) (hr : dr + 2 ≤ d) {σ : az_Hp} {v0 v1 v2 v3 : Int} {r : (Int × az_Hp)} (h : fz_X11_readTerm_e n rec σ v0 v1 v2 v3 = some r) : az_AW Z 7 0 [(13, v0), (0, v1), (0, v2), (0, v3), (31, 0), (31, 0), (31, 0)] [] σ (some (0, r.1), r.2) := by
  have hd1 : 1 ≤ d := by omega
  unfold fz_X11_readTerm_e at h
  refine az_al0 (pc := 0) C rfl rfl dX11_readTerm_0 ?_
  refine az_cV0pi (pc := 1) (c := 11) C hd1 h mv_X11_isVariable ml_X11_319 rfl (fun x hx => A_X11_isVariable (by omega) n hx) dX11_readTerm_1 (fun r1 h => ?_)
  refine az_if_eq (pc := 4) (tgt := 25) C h dX11_readTerm_4 (by decide) (fun _ h => ?_) (fun _ h => ?_)
  · refine az_al0 (pc := 25) C rfl rfl dX11_readTerm_25 ?_
    refine az_bk63 (pc := 26) C dX11_readTerm_26 ?_
    refine az_cV1pi (pc := 28) (c := 11) C hd1 h mv_X11_isSign ml_X11_276 rfl (fun x hx => A_X11_isSign (by omega) hx) dX11_readTerm_28 (fun r2 h => ?_)
    refine az_if_eq (pc := 31) (tgt := 55) C h dX11_readTerm_31 (by decide) (fun _ h => ?_) (fun _ h => ?_)
    · exact (A_X11_readTerm_55 C hD n hrec hr h)
    refine az_al0 (pc := 34) C rfl rfl dX11_readTerm_34 ?_
    refine az_getI (pc := 35) C fl_X11_304 rfl dX11_readTerm_35 ?_
    refine az_ik3 (pc := 38) C dX11_readTerm_38 ?_
    refine az_icmp_eq (pc := 39) (tgt := 50) C h dX11_readTerm_39 (by decide) (fun _ h => ?_) (fun _ h => ?_)
    · refine az_al0 (pc := 50) C rfl rfl dX11_readTerm_50 ?_
      refine az_cV0ii (pc := 51) (c := 11) C hd1 h mv_X11_readUnknown ml_X11_326 rfl (fun x hx => A_X11_readUnknown (by omega) n hx) dX11_readTerm_51 (fun r3 h => ?_)
      obtain ⟨hz, h⟩ := az_zif h
      obtain rfl := Option.some.inj h
      exact az_zreturn (pc := 54) C hz dX11_readTerm_54 rfl
    refine az_al0 (pc := 42) C rfl rfl dX11_readTerm_42 ?_
    refine az_getI (pc := 43) C fl_X11_304 rfl dX11_readTerm_43 ?_
    refine az_ik4 (pc := 46) C dX11_readTerm_46 ?_
    refine az_icmp_ne (pc := 47) (tgt := 55) C h dX11_readTerm_47 (by decide) (fun _ h => ?_) (fun _ h => ?_)
    · exact (A_X11_readTerm_55 C hD n hrec hr h)
    refine az_al0 (pc := 50) C rfl rfl dX11_readTerm_50 ?_
    refine az_cV0ii (pc := 51) (c := 11) C hd1 h mv_X11_readUnknown ml_X11_326 rfl (fun x hx => A_X11_readUnknown (by omega) n hx) dX11_readTerm_51 (fun r4 h => ?_)
    obtain ⟨hz, h⟩ := az_zif h
    obtain rfl := Option.some.inj h
    exact az_zreturn (pc := 54) C hz dX11_readTerm_54 rfl
  refine az_il3 (pc := 7) C dX11_readTerm_7 ?_
  refine az_if_eq (pc := 8) (tgt := 20) C h dX11_readTerm_8 (by decide) (fun _ h => ?_) (fun _ h => ?_)
  · refine az_al0 (pc := 20) C rfl rfl dX11_readTerm_20 ?_
    refine az_cV0ii (pc := 21) (c := 11) C hd1 h mv_X11_readVariable ml_X11_323 rfl (fun x hx => A_X11_readVariable (by omega) n hx) dX11_readTerm_21 (fun r5 h => ?_)
    obtain ⟨hz, h⟩ := az_zif h
    obtain rfl := Option.some.inj h
    exact az_zreturn (pc := 24) C hz dX11_readTerm_24 rfl
  refine az_al0 (pc := 11) C rfl rfl dX11_readTerm_11 ?_
  refine az_bk7 (pc := 12) C dX11_readTerm_12 ?_
  refine az_cV1ii (pc := 14) (c := 11) C hd1 h mv_X11_bad ml_X11_279 rfl (fun x hx => A_X11_bad (by omega) hx) dX11_readTerm_14 (fun r6 h => ?_)
  refine az_goto (pc := 17) (tgt := 24) C dX11_readTerm_17 (by decide) ?_
  obtain ⟨hz, h⟩ := az_zif h
  obtain rfl := Option.some.inj h
  exact az_zreturn (pc := 24) C hz dX11_readTerm_24 rfl
set_option maxRecDepth 10000 in
set_option maxHeartbeats 4000000 in
theorem A_X11_readTerm {l : Launch} (n : Nat) (D : Nat) : ∀ {d : Nat}, 5 + 2 * D ≤ d → ∀ {σ : az_Hp} {v0 v1 v2 v3 : Int} {r : (Int × az_Hp)}, fz_X11_readTerm n D σ v0 v1 v2 v3 = some r → az_AC l yX11_readTerm cX11_readTerm 7 (some .boolean) d [(13, v0), (0, v1), (0, v2), (0, v3)] σ (some (0, r.1), r.2) := by
  induction D generalizing l with
  | zero => intro d hD σ v0 v1 v2 v3 r h; simp [fz_X11_readTerm] at h
  | succ D ih =>
    intro d hD σ v0 v1 v2 v3 r h
    unfold fz_X11_readTerm at h
    exact az_AC.of mt_X11_readTerm rfl rfl rfl (fun Z hZ C => A_X11_readTerm_e C (by omega) n (dr := 5 + 2 * D) (fun hd => ih hd) (by omega) h)
theorem dX11_readWhole_0 : decode cX11_readWhole 0 = .ok (.aload_n 0, 1) := by decide +kernel
theorem dX11_readWhole_1 : decode cX11_readWhole 1 = .ok (.iload_n 1, 1) := by decide +kernel
theorem dX11_readWhole_2 : decode cX11_readWhole 2 = .ok (.putfield 304, 3) := by decide +kernel
theorem dX11_readWhole_5 : decode cX11_readWhole 5 = .ok (.aload_n 0, 1) := by decide +kernel
theorem dX11_readWhole_6 : decode cX11_readWhole 6 = .ok (.iload_n 2, 1) := by decide +kernel
theorem dX11_readWhole_7 : decode cX11_readWhole 7 = .ok (.putfield 307, 3) := by decide +kernel
theorem dX11_readWhole_10 : decode cX11_readWhole 10 = .ok (.aload_n 0, 1) := by decide +kernel
theorem dX11_readWhole_11 : decode cX11_readWhole 11 = .ok (.iconst 0, 1) := by decide +kernel
theorem dX11_readWhole_12 : decode cX11_readWhole 12 = .ok (.putfield 294, 3) := by decide +kernel
theorem dX11_readWhole_15 : decode cX11_readWhole 15 = .ok (.aload_n 0, 1) := by decide +kernel
theorem dX11_readWhole_16 : decode cX11_readWhole 16 = .ok (.iload_n 3, 1) := by decide +kernel
theorem dX11_readWhole_17 : decode cX11_readWhole 17 = .ok (.iconst 0, 1) := by decide +kernel
theorem dX11_readWhole_18 : decode cX11_readWhole 18 = .ok (.iload 4, 2) := by decide +kernel
theorem dX11_readWhole_20 : decode cX11_readWhole 20 = .ok (.invokevirtual 347, 3) := by decide +kernel
theorem dX11_readWhole_23 : decode cX11_readWhole 23 = .ok (.ifCond .ne 5, 3) := by decide +kernel
theorem dX11_readWhole_26 : decode cX11_readWhole 26 = .ok (.iconst (-1), 1) := by decide +kernel
theorem dX11_readWhole_27 : decode cX11_readWhole 27 = .ok (.ireturn, 1) := by decide +kernel
theorem dX11_readWhole_28 : decode cX11_readWhole 28 = .ok (.iconst 0, 1) := by decide +kernel
theorem dX11_readWhole_29 : decode cX11_readWhole 29 = .ok (.istore 7, 2) := by decide +kernel
theorem dX11_readWhole_31 : decode cX11_readWhole 31 = .ok (.iload 7, 2) := by decide +kernel
theorem dX11_readWhole_33 : decode cX11_readWhole 33 = .ok (.aload_n 0, 1) := by decide +kernel
theorem dX11_readWhole_34 : decode cX11_readWhole 34 = .ok (.getfield 294, 3) := by decide +kernel
theorem dX11_readWhole_37 : decode cX11_readWhole 37 = .ok (.if_icmp .ge 24, 3) := by decide +kernel
theorem dX11_readWhole_40 : decode cX11_readWhole 40 = .ok (.aload 5, 2) := by decide +kernel
theorem dX11_readWhole_42 : decode cX11_readWhole 42 = .ok (.iload 6, 2) := by decide +kernel
theorem dX11_readWhole_44 : decode cX11_readWhole 44 = .ok (.iload 7, 2) := by decide +kernel
theorem dX11_readWhole_46 : decode cX11_readWhole 46 = .ok (.iadd, 1) := by decide +kernel
theorem dX11_readWhole_47 : decode cX11_readWhole 47 = .ok (.aload_n 0, 1) := by decide +kernel
theorem dX11_readWhole_48 : decode cX11_readWhole 48 = .ok (.getfield 64, 3) := by decide +kernel
theorem dX11_readWhole_51 : decode cX11_readWhole 51 = .ok (.iload 7, 2) := by decide +kernel
theorem dX11_readWhole_53 : decode cX11_readWhole 53 = .ok (.iaload, 1) := by decide +kernel
theorem dX11_readWhole_54 : decode cX11_readWhole 54 = .ok (.iastore, 1) := by decide +kernel
theorem dX11_readWhole_55 : decode cX11_readWhole 55 = .ok (.iinc 7 1, 3) := by decide +kernel
theorem dX11_readWhole_58 : decode cX11_readWhole 58 = .ok (.goto (-27), 3) := by decide +kernel
theorem dX11_readWhole_61 : decode cX11_readWhole 61 = .ok (.aload_n 0, 1) := by decide +kernel
theorem dX11_readWhole_62 : decode cX11_readWhole 62 = .ok (.getfield 294, 3) := by decide +kernel
theorem dX11_readWhole_65 : decode cX11_readWhole 65 = .ok (.ireturn, 1) := by decide +kernel
set_option maxRecDepth 10000 in
set_option maxHeartbeats 4000000 in
theorem A_X11_readWhole_31 {Z : az_Z} {d : Nat} (C : az_C Z yX11_readWhole cX11_readWhole 8 (some .int) d) (hD : 406 ≤ d) (n : Nat) (k : Nat) : ∀ {σ : az_Hp} {v0 v5 v6 v7 : Int} {r : (Int × az_Hp)}, fz_X11_readWhole_31 n k σ v0 v5 v6 v7 = some r → az_AW Z 8 31 [(13, v0), (31, 0), (31, 0), (31, 0), (31, 0), (15, v5), (0, v6), (0, v7)] [] σ (some (0, r.1), r.2) := by
  have hd1 : 1 ≤ d := by omega
  induction k with
  | zero => intro σ v0 v5 v6 v7 r h; simp [fz_X11_readWhole_31] at h
  | succ k ih =>
    intro σ v0 v5 v6 v7 r h
    unfold fz_X11_readWhole_31 at h
    refine az_il7 (pc := 31) C dX11_readWhole_31 ?_
    refine az_al0 (pc := 33) C rfl rfl dX11_readWhole_33 ?_
    refine az_getI (pc := 34) C fl_X11_294 rfl dX11_readWhole_34 ?_
    refine az_icmp_ge (pc := 37) (tgt := 61) C h dX11_readWhole_37 (by decide) (fun _ h => ?_) (fun _ h => ?_)
    · refine az_al0 (pc := 61) C rfl rfl dX11_readWhole_61 ?_
      refine az_getI (pc := 62) C fl_X11_294 rfl dX11_readWhole_62 ?_
      obtain rfl := Option.some.inj h
      exact az_ireturn (pc := 65) C dX11_readWhole_65 rfl
    refine az_al5 (pc := 40) C rfl rfl dX11_readWhole_40 ?_
    refine az_il6 (pc := 42) C dX11_readWhole_42 ?_
    refine az_il7 (pc := 44) C dX11_readWhole_44 ?_
    refine az_iadd (pc := 46) C dX11_readWhole_46 ?_
    refine az_al0 (pc := 47) C rfl rfl dX11_readWhole_47 ?_
    refine az_getR (pc := 48) (c2 := 13) C h fl_X11_64 rfl rfl dX11_readWhole_48 (fun h => ?_)
    refine az_il7 (pc := 51) C dX11_readWhole_51 ?_
    refine az_iaload (pc := 53) C h dX11_readWhole_53 (fun h => ?_)
    refine az_iastore (pc := 54) C h dX11_readWhole_54 (fun h => ?_)
    refine az_ii7 (pc := 55) C az_n1 rfl rfl dX11_readWhole_55 ?_
    refine az_goto (pc := 58) (tgt := 31) C dX11_readWhole_58 (by decide) ?_
    exact (ih h)
set_option maxRecDepth 10000 in
set_option maxHeartbeats 4000000 in
theorem A_X11_readWhole_e {Z : az_Z} {d : Nat} (C : az_C Z yX11_readWhole cX11_readWhole 8 (some .int) d) (hD : 406 ≤ d) (n : Nat) {σ : az_Hp} {v0 v1 v2 v3 v4 v5 v6 : Int} {r : (Int × az_Hp)} (h : fz_X11_readWhole n σ v0 v1 v2 v3 v4 v5 v6 = some r) : az_AW Z 8 0 [(13, v0), (0, v1), (0, v2), (0, v3), (0, v4), (15, v5), (0, v6), (31, 0)] [] σ (some (0, r.1), r.2) := by
  have hd1 : 1 ≤ d := by omega
  unfold fz_X11_readWhole at h
  refine az_al0 (pc := 0) C rfl rfl dX11_readWhole_0 ?_
  refine az_il1 (pc := 1) C dX11_readWhole_1 ?_
  refine az_putI (pc := 2) C fl_X11_304 (Or.inl rfl) rfl dX11_readWhole_2 ?_
  refine az_al0 (pc := 5) C rfl rfl dX11_readWhole_5 ?_
  refine az_il2 (pc := 6) C dX11_readWhole_6 ?_
  refine az_putI (pc := 7) C fl_X11_307 (Or.inl rfl) rfl dX11_readWhole_7 ?_
  refine az_al0 (pc := 10) C rfl rfl dX11_readWhole_10 ?_
  refine az_ik0 (pc := 11) C dX11_readWhole_11 ?_
  refine az_putI (pc := 12) C fl_X11_294 (Or.inl rfl) rfl dX11_readWhole_12 ?_
  refine az_al0 (pc := 15) C rfl rfl dX11_readWhole_15 ?_
  refine az_il3 (pc := 16) C dX11_readWhole_16 ?_
  refine az_ik0 (pc := 17) C dX11_readWhole_17 ?_
  refine az_il4 (pc := 18) C dX11_readWhole_18 ?_
  refine az_cV3ii (pc := 20) (c := 11) C hd1 h mv_X11_readTerm ml_X11_347 rfl (fun x hx => A_X11_readTerm n 200 (by omega) hx) dX11_readWhole_20 (fun r1 h => ?_)
  refine az_if_ne (pc := 23) (tgt := 28) C h dX11_readWhole_23 (by decide) (fun _ h => ?_) (fun _ h => ?_)
  · refine az_ik0 (pc := 28) C dX11_readWhole_28 ?_
    refine az_is7 (pc := 29) C rfl rfl dX11_readWhole_29 ?_
    exact (az_wkk (A_X11_readWhole_31 C hD n n h) (az_sE (az_sJ (az_sJ (az_sJ (az_sJ (az_sE (az_sE (az_sE az_sN)))))))))
  refine az_ikm1 (pc := 26) C dX11_readWhole_26 ?_
  obtain rfl := Option.some.inj h
  exact az_ireturn (pc := 27) C dX11_readWhole_27 rfl
set_option maxRecDepth 10000 in
set_option maxHeartbeats 4000000 in
theorem A_X11_readWhole {l : Launch} {d : Nat} (hD : 406 ≤ d) (n : Nat) {σ : az_Hp} {v0 v1 v2 v3 v4 v5 v6 : Int} {r : (Int × az_Hp)} (h : fz_X11_readWhole n σ v0 v1 v2 v3 v4 v5 v6 = some r) : az_AC l yX11_readWhole cX11_readWhole 8 (some .int) d [(13, v0), (0, v1), (0, v2), (0, v3), (0, v4), (15, v5), (0, v6)] σ (some (0, r.1), r.2) := az_AC.of mt_X11_readWhole rfl rfl rfl (fun Z hZ C => A_X11_readWhole_e C hD n h)
theorem dX11_readEquation_0 : decode cX11_readEquation 0 = .ok (.aload_n 0, 1) := by decide +kernel
theorem dX11_readEquation_1 : decode cX11_readEquation 1 = .ok (.getfield 26, 3) := by decide +kernel
theorem dX11_readEquation_4 : decode cX11_readEquation 4 = .ok (.aload_n 0, 1) := by decide +kernel
theorem dX11_readEquation_5 : decode cX11_readEquation 5 = .ok (.getfield 285, 3) := by decide +kernel
theorem dX11_readEquation_8 : decode cX11_readEquation 8 = .ok (.iaload, 1) := by decide +kernel
theorem dX11_readEquation_9 : decode cX11_readEquation 9 = .ok (.bipush 16, 2) := by decide +kernel
theorem dX11_readEquation_11 : decode cX11_readEquation 11 = .ok (.if_icmp .ne 10, 3) := by decide +kernel
theorem dX11_readEquation_14 : decode cX11_readEquation 14 = .ok (.aload_n 0, 1) := by decide +kernel
theorem dX11_readEquation_15 : decode cX11_readEquation 15 = .ok (.bipush 6, 2) := by decide +kernel
theorem dX11_readEquation_17 : decode cX11_readEquation 17 = .ok (.invokevirtual 279, 3) := by decide +kernel
theorem dX11_readEquation_20 : decode cX11_readEquation 20 = .ok (.ireturn, 1) := by decide +kernel
theorem dX11_readEquation_21 : decode cX11_readEquation 21 = .ok (.aload_n 0, 1) := by decide +kernel
theorem dX11_readEquation_22 : decode cX11_readEquation 22 = .ok (.invokevirtual 282, 3) := by decide +kernel
theorem dX11_readEquation_25 : decode cX11_readEquation 25 = .ok (.aload_n 0, 1) := by decide +kernel
theorem dX11_readEquation_26 : decode cX11_readEquation 26 = .ok (.aload_n 0, 1) := by decide +kernel
theorem dX11_readEquation_27 : decode cX11_readEquation 27 = .ok (.getfield 26, 3) := by decide +kernel
theorem dX11_readEquation_30 : decode cX11_readEquation 30 = .ok (.aload_n 0, 1) := by decide +kernel
theorem dX11_readEquation_31 : decode cX11_readEquation 31 = .ok (.getfield 285, 3) := by decide +kernel
theorem dX11_readEquation_34 : decode cX11_readEquation 34 = .ok (.iaload, 1) := by decide +kernel
theorem dX11_readEquation_35 : decode cX11_readEquation 35 = .ok (.invokevirtual 358, 3) := by decide +kernel
theorem dX11_readEquation_38 : decode cX11_readEquation 38 = .ok (.istore_n 1, 1) := by decide +kernel
theorem dX11_readEquation_39 : decode cX11_readEquation 39 = .ok (.aload_n 0, 1) := by decide +kernel
theorem dX11_readEquation_40 : decode cX11_readEquation 40 = .ok (.iconst 0, 1) := by decide +kernel
theorem dX11_readEquation_41 : decode cX11_readEquation 41 = .ok (.putfield 297, 3) := by decide +kernel
theorem dX11_readEquation_44 : decode cX11_readEquation 44 = .ok (.aload_n 0, 1) := by decide +kernel
theorem dX11_readEquation_45 : decode cX11_readEquation 45 = .ok (.bipush 6, 2) := by decide +kernel
theorem dX11_readEquation_47 : decode cX11_readEquation 47 = .ok (.putfield 310, 3) := by decide +kernel
theorem dX11_readEquation_50 : decode cX11_readEquation 50 = .ok (.aload_n 0, 1) := by decide +kernel
theorem dX11_readEquation_51 : decode cX11_readEquation 51 = .ok (.getfield 55, 3) := by decide +kernel
theorem dX11_readEquation_54 : decode cX11_readEquation 54 = .ok (.iload_n 1, 1) := by decide +kernel
theorem dX11_readEquation_55 : decode cX11_readEquation 55 = .ok (.aload_n 0, 1) := by decide +kernel
theorem dX11_readEquation_56 : decode cX11_readEquation 56 = .ok (.iconst 0, 1) := by decide +kernel
theorem dX11_readEquation_57 : decode cX11_readEquation 57 = .ok (.bipush 16, 2) := by decide +kernel
theorem dX11_readEquation_59 : decode cX11_readEquation 59 = .ok (.bipush 61, 2) := by decide +kernel
theorem dX11_readEquation_61 : decode cX11_readEquation 61 = .ok (.iconst 1, 1) := by decide +kernel
theorem dX11_readEquation_62 : decode cX11_readEquation 62 = .ok (.aload_n 0, 1) := by decide +kernel
theorem dX11_readEquation_63 : decode cX11_readEquation 63 = .ok (.getfield 49, 3) := by decide +kernel
theorem dX11_readEquation_66 : decode cX11_readEquation 66 = .ok (.bipush 16, 2) := by decide +kernel
theorem dX11_readEquation_68 : decode cX11_readEquation 68 = .ok (.iload_n 1, 1) := by decide +kernel
theorem dX11_readEquation_69 : decode cX11_readEquation 69 = .ok (.imul, 1) := by decide +kernel
theorem dX11_readEquation_70 : decode cX11_readEquation 70 = .ok (.invokevirtual 361, 3) := by decide +kernel
theorem dX11_readEquation_73 : decode cX11_readEquation 73 = .ok (.iastore, 1) := by decide +kernel
theorem dX11_readEquation_74 : decode cX11_readEquation 74 = .ok (.aload_n 0, 1) := by decide +kernel
theorem dX11_readEquation_75 : decode cX11_readEquation 75 = .ok (.getfield 55, 3) := by decide +kernel
theorem dX11_readEquation_78 : decode cX11_readEquation 78 = .ok (.iload_n 1, 1) := by decide +kernel
theorem dX11_readEquation_79 : decode cX11_readEquation 79 = .ok (.iaload, 1) := by decide +kernel
theorem dX11_readEquation_80 : decode cX11_readEquation 80 = .ok (.iconst (-1), 1) := by decide +kernel
theorem dX11_readEquation_81 : decode cX11_readEquation 81 = .ok (.if_icmp .eq 12, 3) := by decide +kernel
theorem dX11_readEquation_84 : decode cX11_readEquation 84 = .ok (.aload_n 0, 1) := by decide +kernel
theorem dX11_readEquation_85 : decode cX11_readEquation 85 = .ok (.bipush 61, 2) := by decide +kernel
theorem dX11_readEquation_87 : decode cX11_readEquation 87 = .ok (.invokevirtual 351, 3) := by decide +kernel
theorem dX11_readEquation_90 : decode cX11_readEquation 90 = .ok (.ifCond .ne 5, 3) := by decide +kernel
theorem dX11_readEquation_93 : decode cX11_readEquation 93 = .ok (.iconst 0, 1) := by decide +kernel
theorem dX11_readEquation_94 : decode cX11_readEquation 94 = .ok (.ireturn, 1) := by decide +kernel
theorem dX11_readEquation_95 : decode cX11_readEquation 95 = .ok (.aload_n 0, 1) := by decide +kernel
theorem dX11_readEquation_96 : decode cX11_readEquation 96 = .ok (.getfield 61, 3) := by decide +kernel
theorem dX11_readEquation_99 : decode cX11_readEquation 99 = .ok (.iload_n 1, 1) := by decide +kernel
theorem dX11_readEquation_100 : decode cX11_readEquation 100 = .ok (.aload_n 0, 1) := by decide +kernel
theorem dX11_readEquation_101 : decode cX11_readEquation 101 = .ok (.getfield 297, 3) := by decide +kernel
theorem dX11_readEquation_104 : decode cX11_readEquation 104 = .ok (.iastore, 1) := by decide +kernel
theorem dX11_readEquation_105 : decode cX11_readEquation 105 = .ok (.aload_n 0, 1) := by decide +kernel
theorem dX11_readEquation_106 : decode cX11_readEquation 106 = .ok (.getfield 58, 3) := by decide +kernel
theorem dX11_readEquation_109 : decode cX11_readEquation 109 = .ok (.iload_n 1, 1) := by decide +kernel
theorem dX11_readEquation_110 : decode cX11_readEquation 110 = .ok (.aload_n 0, 1) := by decide +kernel
theorem dX11_readEquation_111 : decode cX11_readEquation 111 = .ok (.iconst 1, 1) := by decide +kernel
theorem dX11_readEquation_112 : decode cX11_readEquation 112 = .ok (.bipush 16, 2) := by decide +kernel
theorem dX11_readEquation_114 : decode cX11_readEquation 114 = .ok (.bipush 59, 2) := by decide +kernel
theorem dX11_readEquation_116 : decode cX11_readEquation 116 = .ok (.iconst 0, 1) := by decide +kernel
theorem dX11_readEquation_117 : decode cX11_readEquation 117 = .ok (.aload_n 0, 1) := by decide +kernel
theorem dX11_readEquation_118 : decode cX11_readEquation 118 = .ok (.getfield 52, 3) := by decide +kernel
theorem dX11_readEquation_121 : decode cX11_readEquation 121 = .ok (.bipush 16, 2) := by decide +kernel
theorem dX11_readEquation_123 : decode cX11_readEquation 123 = .ok (.iload_n 1, 1) := by decide +kernel
theorem dX11_readEquation_124 : decode cX11_readEquation 124 = .ok (.imul, 1) := by decide +kernel
theorem dX11_readEquation_125 : decode cX11_readEquation 125 = .ok (.invokevirtual 361, 3) := by decide +kernel
theorem dX11_readEquation_128 : decode cX11_readEquation 128 = .ok (.iastore, 1) := by decide +kernel
theorem dX11_readEquation_129 : decode cX11_readEquation 129 = .ok (.aload_n 0, 1) := by decide +kernel
theorem dX11_readEquation_130 : decode cX11_readEquation 130 = .ok (.getfield 58, 3) := by decide +kernel
theorem dX11_readEquation_133 : decode cX11_readEquation 133 = .ok (.iload_n 1, 1) := by decide +kernel
theorem dX11_readEquation_134 : decode cX11_readEquation 134 = .ok (.iaload, 1) := by decide +kernel
theorem dX11_readEquation_135 : decode cX11_readEquation 135 = .ok (.iconst (-1), 1) := by decide +kernel
theorem dX11_readEquation_136 : decode cX11_readEquation 136 = .ok (.if_icmp .ne 5, 3) := by decide +kernel
theorem dX11_readEquation_139 : decode cX11_readEquation 139 = .ok (.iconst 0, 1) := by decide +kernel
theorem dX11_readEquation_140 : decode cX11_readEquation 140 = .ok (.ireturn, 1) := by decide +kernel
theorem dX11_readEquation_141 : decode cX11_readEquation 141 = .ok (.aload_n 0, 1) := by decide +kernel
theorem dX11_readEquation_142 : decode cX11_readEquation 142 = .ok (.getfield 26, 3) := by decide +kernel
theorem dX11_readEquation_145 : decode cX11_readEquation 145 = .ok (.aload_n 0, 1) := by decide +kernel
theorem dX11_readEquation_146 : decode cX11_readEquation 146 = .ok (.getfield 285, 3) := by decide +kernel
theorem dX11_readEquation_149 : decode cX11_readEquation 149 = .ok (.dup2, 1) := by decide +kernel
theorem dX11_readEquation_150 : decode cX11_readEquation 150 = .ok (.iaload, 1) := by decide +kernel
theorem dX11_readEquation_151 : decode cX11_readEquation 151 = .ok (.iconst 1, 1) := by decide +kernel
theorem dX11_readEquation_152 : decode cX11_readEquation 152 = .ok (.iadd, 1) := by decide +kernel
theorem dX11_readEquation_153 : decode cX11_readEquation 153 = .ok (.iastore, 1) := by decide +kernel
theorem dX11_readEquation_154 : decode cX11_readEquation 154 = .ok (.aload_n 0, 1) := by decide +kernel
theorem dX11_readEquation_155 : decode cX11_readEquation 155 = .ok (.bipush 59, 2) := by decide +kernel
theorem dX11_readEquation_157 : decode cX11_readEquation 157 = .ok (.invokevirtual 351, 3) := by decide +kernel
theorem dX11_readEquation_160 : decode cX11_readEquation 160 = .ok (.ireturn, 1) := by decide +kernel
set_option maxRecDepth 10000 in
set_option maxHeartbeats 4000000 in
theorem A_X11_readEquation_e {Z : az_Z} {d : Nat} (C : az_C Z yX11_readEquation cX11_readEquation 2 (some .boolean) d) (hD : 407 ≤ d) (n : Nat) {σ : az_Hp} {v0 : Int} {r : (Int × az_Hp)} (h : fz_X11_readEquation n σ v0 = some r) : az_AW Z 2 0 [(13, v0), (31, 0)] [] σ (some (0, r.1), r.2) := by
  have hd1 : 1 ≤ d := by omega
  unfold fz_X11_readEquation at h
  refine az_al0 (pc := 0) C rfl rfl dX11_readEquation_0 ?_
  refine az_getR (pc := 1) (c2 := 13) C h fl_X11_26 rfl rfl dX11_readEquation_1 (fun h => ?_)
  refine az_al0 (pc := 4) C rfl rfl dX11_readEquation_4 ?_
  refine az_getI (pc := 5) C fl_X11_285 rfl dX11_readEquation_5 ?_
  refine az_iaload (pc := 8) C h dX11_readEquation_8 (fun h => ?_)
  refine az_bk16 (pc := 9) C dX11_readEquation_9 ?_
  refine az_icmp_ne (pc := 11) (tgt := 21) C h dX11_readEquation_11 (by decide) (fun _ h => ?_) (fun _ h => ?_)
  · refine az_al0 (pc := 21) C rfl rfl dX11_readEquation_21 ?_
    refine az_cV0v (pc := 22) (c := 11) C hd1 h mv_X11_go ml_X11_282 rfl (fun x hx => A_X11_go (by omega) n hx) dX11_readEquation_22 (fun r3 h => ?_)
    refine az_al0 (pc := 25) C rfl rfl dX11_readEquation_25 ?_
    refine az_al0 (pc := 26) C rfl rfl dX11_readEquation_26 ?_
    refine az_getR (pc := 27) (c2 := 13) C h fl_X11_26 rfl rfl dX11_readEquation_27 (fun h => ?_)
    refine az_al0 (pc := 30) C rfl rfl dX11_readEquation_30 ?_
    refine az_getI (pc := 31) C fl_X11_285 rfl dX11_readEquation_31 ?_
    refine az_iaload (pc := 34) C h dX11_readEquation_34 (fun h => ?_)
    refine az_cV1pi (pc := 35) (c := 11) C hd1 h mv_X11_eqAt ml_X11_358 rfl (fun x hx => A_X11_eqAt (by omega) hx) dX11_readEquation_35 (fun r6 h => ?_)
    refine az_is1 (pc := 38) C rfl rfl dX11_readEquation_38 ?_
    refine az_al0 (pc := 39) C rfl rfl dX11_readEquation_39 ?_
    refine az_ik0 (pc := 40) C dX11_readEquation_40 ?_
    refine az_putI (pc := 41) C fl_X11_297 (Or.inl rfl) rfl dX11_readEquation_41 ?_
    refine az_al0 (pc := 44) C rfl rfl dX11_readEquation_44 ?_
    refine az_bk6 (pc := 45) C dX11_readEquation_45 ?_
    refine az_putI (pc := 47) C fl_X11_310 (Or.inl rfl) rfl dX11_readEquation_47 ?_
    refine az_al0 (pc := 50) C rfl rfl dX11_readEquation_50 ?_
    refine az_getR (pc := 51) (c2 := 13) C h fl_X11_55 rfl rfl dX11_readEquation_51 (fun h => ?_)
    refine az_il1 (pc := 54) C dX11_readEquation_54 ?_
    refine az_al0 (pc := 55) C rfl rfl dX11_readEquation_55 ?_
    refine az_ik0 (pc := 56) C dX11_readEquation_56 ?_
    refine az_bk16 (pc := 57) C dX11_readEquation_57 ?_
    refine az_bk61 (pc := 59) C dX11_readEquation_59 ?_
    refine az_ik1 (pc := 61) C dX11_readEquation_61 ?_
    refine az_al0 (pc := 62) C rfl rfl dX11_readEquation_62 ?_
    refine az_getR (pc := 63) (c2 := 13) C h fl_X11_49 rfl rfl dX11_readEquation_63 (fun h => ?_)
    refine az_bk16 (pc := 66) C dX11_readEquation_66 ?_
    refine az_il1 (pc := 68) C dX11_readEquation_68 ?_
    refine az_imul (pc := 69) C dX11_readEquation_69 ?_
    refine az_cV6ii (pc := 70) (c := 11) C hd1 h mv_X11_readWhole ml_X11_361 rfl (fun x hx => A_X11_readWhole (by omega) n hx) dX11_readEquation_70 (fun r9 h => ?_)
    refine az_iastore (pc := 73) C h dX11_readEquation_73 (fun h => ?_)
    refine az_al0 (pc := 74) C rfl rfl dX11_readEquation_74 ?_
    refine az_getR (pc := 75) (c2 := 13) C h fl_X11_55 rfl rfl dX11_readEquation_75 (fun h => ?_)
    refine az_il1 (pc := 78) C dX11_readEquation_78 ?_
    refine az_iaload (pc := 79) C h dX11_readEquation_79 (fun h => ?_)
    refine az_ikm1 (pc := 80) C dX11_readEquation_80 ?_
    refine az_icmp_eq (pc := 81) (tgt := 93) C h dX11_readEquation_81 (by decide) (fun _ h => ?_) (fun _ h => ?_)
    · refine az_ik0 (pc := 93) C dX11_readEquation_93 ?_
      obtain rfl := Option.some.inj h
      exact az_zreturn (pc := 94) C (by decide) dX11_readEquation_94 rfl
    refine az_al0 (pc := 84) C rfl rfl dX11_readEquation_84 ?_
    refine az_bk61 (pc := 85) C dX11_readEquation_85 ?_
    refine az_cV1ii (pc := 87) (c := 11) C hd1 h mv_X11_eats ml_X11_351 rfl (fun x hx => A_X11_eats (by omega) n hx) dX11_readEquation_87 (fun r13 h => ?_)
    refine az_if_ne (pc := 90) (tgt := 95) C h dX11_readEquation_90 (by decide) (fun _ h => ?_) (fun _ h => ?_)
    · refine az_al0 (pc := 95) C rfl rfl dX11_readEquation_95 ?_
      refine az_getR (pc := 96) (c2 := 13) C h fl_X11_61 rfl rfl dX11_readEquation_96 (fun h => ?_)
      refine az_il1 (pc := 99) C dX11_readEquation_99 ?_
      refine az_al0 (pc := 100) C rfl rfl dX11_readEquation_100 ?_
      refine az_getI (pc := 101) C fl_X11_297 rfl dX11_readEquation_101 ?_
      refine az_iastore (pc := 104) C h dX11_readEquation_104 (fun h => ?_)
      refine az_al0 (pc := 105) C rfl rfl dX11_readEquation_105 ?_
      refine az_getR (pc := 106) (c2 := 13) C h fl_X11_58 rfl rfl dX11_readEquation_106 (fun h => ?_)
      refine az_il1 (pc := 109) C dX11_readEquation_109 ?_
      refine az_al0 (pc := 110) C rfl rfl dX11_readEquation_110 ?_
      refine az_ik1 (pc := 111) C dX11_readEquation_111 ?_
      refine az_bk16 (pc := 112) C dX11_readEquation_112 ?_
      refine az_bk59 (pc := 114) C dX11_readEquation_114 ?_
      refine az_ik0 (pc := 116) C dX11_readEquation_116 ?_
      refine az_al0 (pc := 117) C rfl rfl dX11_readEquation_117 ?_
      refine az_getR (pc := 118) (c2 := 13) C h fl_X11_52 rfl rfl dX11_readEquation_118 (fun h => ?_)
      refine az_bk16 (pc := 121) C dX11_readEquation_121 ?_
      refine az_il1 (pc := 123) C dX11_readEquation_123 ?_
      refine az_imul (pc := 124) C dX11_readEquation_124 ?_
      refine az_cV6ii (pc := 125) (c := 11) C hd1 h mv_X11_readWhole ml_X11_361 rfl (fun x hx => A_X11_readWhole (by omega) n hx) dX11_readEquation_125 (fun r18 h => ?_)
      refine az_iastore (pc := 128) C h dX11_readEquation_128 (fun h => ?_)
      refine az_al0 (pc := 129) C rfl rfl dX11_readEquation_129 ?_
      refine az_getR (pc := 130) (c2 := 13) C h fl_X11_58 rfl rfl dX11_readEquation_130 (fun h => ?_)
      refine az_il1 (pc := 133) C dX11_readEquation_133 ?_
      refine az_iaload (pc := 134) C h dX11_readEquation_134 (fun h => ?_)
      refine az_ikm1 (pc := 135) C dX11_readEquation_135 ?_
      refine az_icmp_ne (pc := 136) (tgt := 141) C h dX11_readEquation_136 (by decide) (fun _ h => ?_) (fun _ h => ?_)
      · refine az_al0 (pc := 141) C rfl rfl dX11_readEquation_141 ?_
        refine az_getR (pc := 142) (c2 := 13) C h fl_X11_26 rfl rfl dX11_readEquation_142 (fun h => ?_)
        refine az_al0 (pc := 145) C rfl rfl dX11_readEquation_145 ?_
        refine az_getI (pc := 146) C fl_X11_285 rfl dX11_readEquation_146 ?_
        refine az_dup2 (pc := 149) C rfl rfl rfl rfl dX11_readEquation_149 ?_
        refine az_iaload (pc := 150) C h dX11_readEquation_150 (fun h => ?_)
        refine az_ik1 (pc := 151) C dX11_readEquation_151 ?_
        refine az_iadd (pc := 152) C dX11_readEquation_152 ?_
        refine az_iastore (pc := 153) C h dX11_readEquation_153 (fun h => ?_)
        refine az_al0 (pc := 154) C rfl rfl dX11_readEquation_154 ?_
        refine az_bk59 (pc := 155) C dX11_readEquation_155 ?_
        refine az_cV1ii (pc := 157) (c := 11) C hd1 h mv_X11_eats ml_X11_351 rfl (fun x hx => A_X11_eats (by omega) n hx) dX11_readEquation_157 (fun r25 h => ?_)
        obtain ⟨hz, h⟩ := az_zif h
        obtain rfl := Option.some.inj h
        exact az_zreturn (pc := 160) C hz dX11_readEquation_160 rfl
      refine az_ik0 (pc := 139) C dX11_readEquation_139 ?_
      obtain rfl := Option.some.inj h
      exact az_zreturn (pc := 140) C (by decide) dX11_readEquation_140 rfl
    refine az_ik0 (pc := 93) C dX11_readEquation_93 ?_
    obtain rfl := Option.some.inj h
    exact az_zreturn (pc := 94) C (by decide) dX11_readEquation_94 rfl
  refine az_al0 (pc := 14) C rfl rfl dX11_readEquation_14 ?_
  refine az_bk6 (pc := 15) C dX11_readEquation_15 ?_
  refine az_cV1ii (pc := 17) (c := 11) C hd1 h mv_X11_bad ml_X11_279 rfl (fun x hx => A_X11_bad (by omega) hx) dX11_readEquation_17 (fun r26 h => ?_)
  obtain ⟨hz, h⟩ := az_zif h
  obtain rfl := Option.some.inj h
  exact az_zreturn (pc := 20) C hz dX11_readEquation_20 rfl
set_option maxRecDepth 10000 in
set_option maxHeartbeats 4000000 in
theorem A_X11_readEquation {l : Launch} {d : Nat} (hD : 407 ≤ d) (n : Nat) {σ : az_Hp} {v0 : Int} {r : (Int × az_Hp)} (h : fz_X11_readEquation n σ v0 = some r) : az_AC l yX11_readEquation cX11_readEquation 2 (some .boolean) d [(13, v0)] σ (some (0, r.1), r.2) := az_AC.of mt_X11_readEquation rfl rfl rfl (fun Z hZ C => A_X11_readEquation_e C hD n h)
