theorem dX11_comes_0 : decode cX11_comes 0 = .ok (.iconst 0, 1) := by decide +kernel
theorem dX11_comes_1 : decode cX11_comes 1 = .ok (.istore 4, 2) := by decide +kernel
theorem dX11_comes_3 : decode cX11_comes 3 = .ok (.iload 4, 2) := by decide +kernel
theorem dX11_comes_5 : decode cX11_comes 5 = .ok (.iload_n 3, 1) := by decide +kernel
theorem dX11_comes_6 : decode cX11_comes 6 = .ok (.if_icmp .ge 104, 3) := by decide +kernel
theorem dX11_comes_9 : decode cX11_comes 9 = .ok (.aload_n 1, 1) := by decide +kernel
theorem dX11_comes_10 : decode cX11_comes 10 = .ok (.iload_n 2, 1) := by decide +kernel
theorem dX11_comes_11 : decode cX11_comes 11 = .ok (.iload 4, 2) := by decide +kernel
theorem dX11_comes_13 : decode cX11_comes 13 = .ok (.iadd, 1) := by decide +kernel
theorem dX11_comes_14 : decode cX11_comes 14 = .ok (.iaload, 1) := by decide +kernel
theorem dX11_comes_15 : decode cX11_comes 15 = .ok (.istore 5, 2) := by decide +kernel
theorem dX11_comes_17 : decode cX11_comes 17 = .ok (.iload 5, 2) := by decide +kernel
theorem dX11_comes_19 : decode cX11_comes 19 = .ok (.sipush 2000, 3) := by decide +kernel
theorem dX11_comes_22 : decode cX11_comes 22 = .ok (.if_icmp .lt 50, 3) := by decide +kernel
theorem dX11_comes_25 : decode cX11_comes 25 = .ok (.aload_n 0, 1) := by decide +kernel
theorem dX11_comes_26 : decode cX11_comes 26 = .ok (.getfield 201, 3) := by decide +kernel
theorem dX11_comes_29 : decode cX11_comes 29 = .ok (.iload 5, 2) := by decide +kernel
theorem dX11_comes_31 : decode cX11_comes 31 = .ok (.sipush 2000, 3) := by decide +kernel
theorem dX11_comes_34 : decode cX11_comes 34 = .ok (.isub, 1) := by decide +kernel
theorem dX11_comes_35 : decode cX11_comes 35 = .ok (.iaload, 1) := by decide +kernel
theorem dX11_comes_36 : decode cX11_comes 36 = .ok (.ifCond .le 36, 3) := by decide +kernel
theorem dX11_comes_39 : decode cX11_comes 39 = .ok (.aload_n 0, 1) := by decide +kernel
theorem dX11_comes_40 : decode cX11_comes 40 = .ok (.aload_n 0, 1) := by decide +kernel
theorem dX11_comes_41 : decode cX11_comes 41 = .ok (.getfield 198, 3) := by decide +kernel
theorem dX11_comes_44 : decode cX11_comes 44 = .ok (.bipush 60, 2) := by decide +kernel
theorem dX11_comes_46 : decode cX11_comes 46 = .ok (.iload 5, 2) := by decide +kernel
theorem dX11_comes_48 : decode cX11_comes 48 = .ok (.sipush 2000, 3) := by decide +kernel
theorem dX11_comes_51 : decode cX11_comes 51 = .ok (.isub, 1) := by decide +kernel
theorem dX11_comes_52 : decode cX11_comes 52 = .ok (.imul, 1) := by decide +kernel
theorem dX11_comes_53 : decode cX11_comes 53 = .ok (.aload_n 0, 1) := by decide +kernel
theorem dX11_comes_54 : decode cX11_comes 54 = .ok (.getfield 201, 3) := by decide +kernel
theorem dX11_comes_57 : decode cX11_comes 57 = .ok (.iload 5, 2) := by decide +kernel
theorem dX11_comes_59 : decode cX11_comes 59 = .ok (.sipush 2000, 3) := by decide +kernel
theorem dX11_comes_62 : decode cX11_comes 62 = .ok (.isub, 1) := by decide +kernel
theorem dX11_comes_63 : decode cX11_comes 63 = .ok (.iaload, 1) := by decide +kernel
theorem dX11_comes_64 : decode cX11_comes 64 = .ok (.invokevirtual 679, 3) := by decide +kernel
theorem dX11_comes_67 : decode cX11_comes 67 = .ok (.ifCond .ne 37, 3) := by decide +kernel
theorem dX11_comes_70 : decode cX11_comes 70 = .ok (.iconst 0, 1) := by decide +kernel
theorem dX11_comes_71 : decode cX11_comes 71 = .ok (.ireturn, 1) := by decide +kernel
theorem dX11_comes_72 : decode cX11_comes 72 = .ok (.aload_n 0, 1) := by decide +kernel
theorem dX11_comes_73 : decode cX11_comes 73 = .ok (.getfield 601, 3) := by decide +kernel
theorem dX11_comes_76 : decode cX11_comes 76 = .ok (.bipush 60, 2) := by decide +kernel
theorem dX11_comes_78 : decode cX11_comes 78 = .ok (.if_icmp .ne 5, 3) := by decide +kernel
theorem dX11_comes_81 : decode cX11_comes 81 = .ok (.iconst 0, 1) := by decide +kernel
theorem dX11_comes_82 : decode cX11_comes 82 = .ok (.ireturn, 1) := by decide +kernel
theorem dX11_comes_83 : decode cX11_comes 83 = .ok (.aload_n 0, 1) := by decide +kernel
theorem dX11_comes_84 : decode cX11_comes 84 = .ok (.getfield 126, 3) := by decide +kernel
theorem dX11_comes_87 : decode cX11_comes 87 = .ok (.aload_n 0, 1) := by decide +kernel
theorem dX11_comes_88 : decode cX11_comes 88 = .ok (.getfield 601, 3) := by decide +kernel
theorem dX11_comes_91 : decode cX11_comes 91 = .ok (.iload 5, 2) := by decide +kernel
theorem dX11_comes_93 : decode cX11_comes 93 = .ok (.iastore, 1) := by decide +kernel
theorem dX11_comes_94 : decode cX11_comes 94 = .ok (.aload_n 0, 1) := by decide +kernel
theorem dX11_comes_95 : decode cX11_comes 95 = .ok (.dup, 1) := by decide +kernel
theorem dX11_comes_96 : decode cX11_comes 96 = .ok (.getfield 601, 3) := by decide +kernel
theorem dX11_comes_99 : decode cX11_comes 99 = .ok (.iconst 1, 1) := by decide +kernel
theorem dX11_comes_100 : decode cX11_comes 100 = .ok (.iadd, 1) := by decide +kernel
theorem dX11_comes_101 : decode cX11_comes 101 = .ok (.putfield 601, 3) := by decide +kernel
theorem dX11_comes_104 : decode cX11_comes 104 = .ok (.iinc 4 1, 3) := by decide +kernel
theorem dX11_comes_107 : decode cX11_comes 107 = .ok (.goto (-104), 3) := by decide +kernel
theorem dX11_comes_110 : decode cX11_comes 110 = .ok (.iconst 1, 1) := by decide +kernel
theorem dX11_comes_111 : decode cX11_comes 111 = .ok (.ireturn, 1) := by decide +kernel
set_option maxRecDepth 10000 in
set_option maxHeartbeats 4000000 in
theorem A_X11_comes_72 {Z : az_Z} {d : Nat} (C : az_C Z yX11_comes cX11_comes 6 (some .boolean) d) (hD : 1 ≤ d) (n : Nat) {dr : Nat} {rec : az_Hp → Int → Int → Int → Int → Option (Int × az_Hp)} (hrec : ∀ {l : Launch} {d' : Nat}, dr ≤ d' → ∀ {σ : az_Hp} {u0 u1 u2 u3 : Int} {r : (Int × az_Hp)}, rec σ u0 u1 u2 u3 = some r → az_AC l yX11_comes cX11_comes 6 (some .boolean) d' [(13, u0), (15, u1), (0, u2), (0, u3)] σ (some (0, r.1), r.2)) (hr : dr + 1 ≤ d) {k3 : az_Hp → Int → Int → Int → Int → Int → Option (Int × az_Hp)} (hk3 : ∀ {σ : az_Hp} {v0 v1 v2 v3 v4 : Int} {r : (Int × az_Hp)}, k3 σ v0 v1 v2 v3 v4 = some r → az_AW Z 6 3 [(13, v0), (15, v1), (0, v2), (0, v3), (0, v4), (31, 0)] [] σ (some (0, r.1), r.2)) {σ : az_Hp} {v0 v1 v2 v3 v4 v5 : Int} {r : (Int × az_Hp)} (h : fz_X11_comes_72 n rec k3 σ v0 v1 v2 v3 v4 v5 = some r) : az_AW Z 6 72 [(13, v0), (15, v1), (0, v2), (0, v3), (0, v4), (0, v5)] [] σ (some (0, r.1), r.2) := by
  have hd1 : 1 ≤ d := by omega
  unfold fz_X11_comes_72 at h
  refine az_al0 (pc := 72) C rfl rfl dX11_comes_72 ?_
  refine az_getI (pc := 73) C fl_X11_601 rfl dX11_comes_73 ?_
  refine az_bk60 (pc := 76) C dX11_comes_76 ?_
  refine az_icmp_ne (pc := 78) (tgt := 83) C h dX11_comes_78 (by decide) (fun _ h => ?_) (fun _ h => ?_)
  · refine az_al0 (pc := 83) C rfl rfl dX11_comes_83 ?_
    refine az_getR (pc := 84) (c2 := 13) C h fl_X11_126 rfl rfl dX11_comes_84 (fun h => ?_)
    refine az_al0 (pc := 87) C rfl rfl dX11_comes_87 ?_
    refine az_getI (pc := 88) C fl_X11_601 rfl dX11_comes_88 ?_
    refine az_il5 (pc := 91) C dX11_comes_91 ?_
    refine az_iastore (pc := 93) C h dX11_comes_93 (fun h => ?_)
    refine az_al0 (pc := 94) C rfl rfl dX11_comes_94 ?_
    refine az_dup (pc := 95) C rfl rfl dX11_comes_95 ?_
    refine az_getI (pc := 96) C fl_X11_601 rfl dX11_comes_96 ?_
    refine az_ik1 (pc := 99) C dX11_comes_99 ?_
    refine az_iadd (pc := 100) C dX11_comes_100 ?_
    refine az_putI (pc := 101) C fl_X11_601 (Or.inl rfl) rfl dX11_comes_101 ?_
    refine az_ii4 (pc := 104) C az_n1 rfl rfl dX11_comes_104 ?_
    refine az_goto (pc := 107) (tgt := 3) C dX11_comes_107 (by decide) ?_
    exact (az_wkk (hk3 h) (az_sE (az_sE (az_sE (az_sE (az_sE (az_sJ az_sN)))))))
  refine az_ik0 (pc := 81) C dX11_comes_81 ?_
  obtain rfl := Option.some.inj h
  exact az_zreturn (pc := 82) C (by decide) dX11_comes_82 rfl
set_option maxRecDepth 10000 in
set_option maxHeartbeats 4000000 in
theorem A_X11_comes_3 {Z : az_Z} {d : Nat} (C : az_C Z yX11_comes cX11_comes 6 (some .boolean) d) (hD : 1 ≤ d) (n : Nat) {dr : Nat} {rec : az_Hp → Int → Int → Int → Int → Option (Int × az_Hp)} (hrec : ∀ {l : Launch} {d' : Nat}, dr ≤ d' → ∀ {σ : az_Hp} {u0 u1 u2 u3 : Int} {r : (Int × az_Hp)}, rec σ u0 u1 u2 u3 = some r → az_AC l yX11_comes cX11_comes 6 (some .boolean) d' [(13, u0), (15, u1), (0, u2), (0, u3)] σ (some (0, r.1), r.2)) (hr : dr + 1 ≤ d) (k : Nat) : ∀ {σ : az_Hp} {v0 v1 v2 v3 v4 : Int} {r : (Int × az_Hp)}, fz_X11_comes_3 n rec k σ v0 v1 v2 v3 v4 = some r → az_AW Z 6 3 [(13, v0), (15, v1), (0, v2), (0, v3), (0, v4), (31, 0)] [] σ (some (0, r.1), r.2) := by
  have hd1 : 1 ≤ d := by omega
  induction k with
  | zero => intro σ v0 v1 v2 v3 v4 r h; simp [fz_X11_comes_3] at h
  | succ k ih =>
    intro σ v0 v1 v2 v3 v4 r h
    unfold fz_X11_comes_3 at h
    refine az_il4 (pc := 3) C dX11_comes_3 ?_
    refine az_il3 (pc := 5) C dX11_comes_5 ?_
    refine az_icmp_ge (pc := 6) (tgt := 110) C h dX11_comes_6 (by decide) (fun _ h => ?_) (fun _ h => ?_)
    · refine az_ik1 (pc := 110) C dX11_comes_110 ?_
      obtain rfl := Option.some.inj h
      exact az_zreturn (pc := 111) C (by decide) dX11_comes_111 rfl
    refine az_al1 (pc := 9) C rfl rfl dX11_comes_9 ?_
    refine az_il2 (pc := 10) C dX11_comes_10 ?_
    refine az_il4 (pc := 11) C dX11_comes_11 ?_
    refine az_iadd (pc := 13) C dX11_comes_13 ?_
    refine az_iaload (pc := 14) C h dX11_comes_14 (fun h => ?_)
    refine az_is5 (pc := 15) C rfl rfl dX11_comes_15 ?_
    refine az_il5 (pc := 17) C dX11_comes_17 ?_
    refine az_sk2000 (pc := 19) C dX11_comes_19 ?_
    refine az_icmp_lt (pc := 22) (tgt := 72) C h dX11_comes_22 (by decide) (fun _ h => ?_) (fun _ h => ?_)
    · exact (A_X11_comes_72 C hD n hrec hr (fun h => ih h) h)
    refine az_al0 (pc := 25) C rfl rfl dX11_comes_25 ?_
    refine az_getR (pc := 26) (c2 := 13) C h fl_X11_201 rfl rfl dX11_comes_26 (fun h => ?_)
    refine az_il5 (pc := 29) C dX11_comes_29 ?_
    refine az_sk2000 (pc := 31) C dX11_comes_31 ?_
    refine az_isub (pc := 34) C dX11_comes_34 ?_
    refine az_iaload (pc := 35) C h dX11_comes_35 (fun h => ?_)
    refine az_if_le (pc := 36) (tgt := 72) C h dX11_comes_36 (by decide) (fun _ h => ?_) (fun _ h => ?_)
    · exact (A_X11_comes_72 C hD n hrec hr (fun h => ih h) h)
    refine az_al0 (pc := 39) C rfl rfl dX11_comes_39 ?_
    refine az_al0 (pc := 40) C rfl rfl dX11_comes_40 ?_
    refine az_getR (pc := 41) (c2 := 13) C h fl_X11_198 rfl rfl dX11_comes_41 (fun h => ?_)
    refine az_bk60 (pc := 44) C dX11_comes_44 ?_
    refine az_il5 (pc := 46) C dX11_comes_46 ?_
    refine az_sk2000 (pc := 48) C dX11_comes_48 ?_
    refine az_isub (pc := 51) C dX11_comes_51 ?_
    refine az_imul (pc := 52) C dX11_comes_52 ?_
    refine az_al0 (pc := 53) C rfl rfl dX11_comes_53 ?_
    refine az_getR (pc := 54) (c2 := 13) C h fl_X11_201 rfl rfl dX11_comes_54 (fun h => ?_)
    refine az_il5 (pc := 57) C dX11_comes_57 ?_
    refine az_sk2000 (pc := 59) C dX11_comes_59 ?_
    refine az_isub (pc := 62) C dX11_comes_62 ?_
    refine az_iaload (pc := 63) C h dX11_comes_63 (fun h => ?_)
    refine az_cV3ii (pc := 64) (c := 11) C hd1 h mv_X11_comes ml_X11_679 rfl (fun x hx => hrec (by omega) hx) dX11_comes_64 (fun r7 h => ?_)
    refine az_if_ne (pc := 67) (tgt := 104) C h dX11_comes_67 (by decide) (fun _ h => ?_) (fun _ h => ?_)
    · refine az_ii4 (pc := 104) C az_n1 rfl rfl dX11_comes_104 ?_
      refine az_goto (pc := 107) (tgt := 3) C dX11_comes_107 (by decide) ?_
      exact (az_wkk (ih h) (az_sE (az_sE (az_sE (az_sE (az_sE (az_sJ az_sN)))))))
    refine az_ik0 (pc := 70) C dX11_comes_70 ?_
    obtain rfl := Option.some.inj h
    exact az_zreturn (pc := 71) C (by decide) dX11_comes_71 rfl
set_option maxRecDepth 10000 in
set_option maxHeartbeats 4000000 in
theorem A_X11_comes_e {Z : az_Z} {d : Nat} (C : az_C Z yX11_comes cX11_comes 6 (some .boolean) d) (hD : 1 ≤ d) (n : Nat) {dr : Nat} {rec : az_Hp → Int → Int → Int → Int → Option (Int × az_Hp)} (hrec : ∀ {l : Launch} {d' : Nat}, dr ≤ d' → ∀ {σ : az_Hp} {u0 u1 u2 u3 : Int} {r : (Int × az_Hp)}, rec σ u0 u1 u2 u3 = some r → az_AC l yX11_comes cX11_comes 6 (some .boolean) d' [(13, u0), (15, u1), (0, u2), (0, u3)] σ (some (0, r.1), r.2)) (hr : dr + 1 ≤ d) {σ : az_Hp} {v0 v1 v2 v3 : Int} {r : (Int × az_Hp)} (h : fz_X11_comes_e n rec σ v0 v1 v2 v3 = some r) : az_AW Z 6 0 [(13, v0), (15, v1), (0, v2), (0, v3), (31, 0), (31, 0)] [] σ (some (0, r.1), r.2) := by
  have hd1 : 1 ≤ d := by omega
  unfold fz_X11_comes_e at h
  refine az_ik0 (pc := 0) C dX11_comes_0 ?_
  refine az_is4 (pc := 1) C rfl rfl dX11_comes_1 ?_
  exact (A_X11_comes_3 C hD n hrec hr n h)
set_option maxRecDepth 10000 in
set_option maxHeartbeats 4000000 in
theorem A_X11_comes {l : Launch} (n : Nat) (D : Nat) : ∀ {d : Nat}, 1 + 1 * D ≤ d → ∀ {σ : az_Hp} {v0 v1 v2 v3 : Int} {r : (Int × az_Hp)}, fz_X11_comes n D σ v0 v1 v2 v3 = some r → az_AC l yX11_comes cX11_comes 6 (some .boolean) d [(13, v0), (15, v1), (0, v2), (0, v3)] σ (some (0, r.1), r.2) := by
  induction D generalizing l with
  | zero => intro d hD σ v0 v1 v2 v3 r h; simp [fz_X11_comes] at h
  | succ D ih =>
    intro d hD σ v0 v1 v2 v3 r h
    unfold fz_X11_comes at h
    exact az_AC.of mt_X11_comes rfl rfl rfl (fun Z hZ C => A_X11_comes_e C (by omega) n (dr := 1 + 1 * D) (fun hd => ih hd) (by omega) h)
theorem dX11_expands_0 : decode cX11_expands 0 = .ok (.aload_n 0, 1) := by decide +kernel
theorem dX11_expands_1 : decode cX11_expands 1 = .ok (.iconst 0, 1) := by decide +kernel
theorem dX11_expands_2 : decode cX11_expands 2 = .ok (.putfield 601, 3) := by decide +kernel
theorem dX11_expands_5 : decode cX11_expands 5 = .ok (.aload_n 0, 1) := by decide +kernel
theorem dX11_expands_6 : decode cX11_expands 6 = .ok (.aload_n 1, 1) := by decide +kernel
theorem dX11_expands_7 : decode cX11_expands 7 = .ok (.iload_n 2, 1) := by decide +kernel
theorem dX11_expands_8 : decode cX11_expands 8 = .ok (.iload_n 3, 1) := by decide +kernel
theorem dX11_expands_9 : decode cX11_expands 9 = .ok (.invokevirtual 679, 3) := by decide +kernel
theorem dX11_expands_12 : decode cX11_expands 12 = .ok (.ireturn, 1) := by decide +kernel
set_option maxRecDepth 10000 in
set_option maxHeartbeats 4000000 in
theorem A_X11_expands_e {Z : az_Z} {d : Nat} (C : az_C Z yX11_expands cX11_expands 4 (some .boolean) d) (hD : 202 ≤ d) (n : Nat) {σ : az_Hp} {v0 v1 v2 v3 : Int} {r : (Int × az_Hp)} (h : fz_X11_expands n σ v0 v1 v2 v3 = some r) : az_AW Z 4 0 [(13, v0), (15, v1), (0, v2), (0, v3)] [] σ (some (0, r.1), r.2) := by
  have hd1 : 1 ≤ d := by omega
  unfold fz_X11_expands at h
  refine az_al0 (pc := 0) C rfl rfl dX11_expands_0 ?_
  refine az_ik0 (pc := 1) C dX11_expands_1 ?_
  refine az_putI (pc := 2) C fl_X11_601 (Or.inl rfl) rfl dX11_expands_2 ?_
  refine az_al0 (pc := 5) C rfl rfl dX11_expands_5 ?_
  refine az_al1 (pc := 6) C rfl rfl dX11_expands_6 ?_
  refine az_il2 (pc := 7) C dX11_expands_7 ?_
  refine az_il3 (pc := 8) C dX11_expands_8 ?_
  refine az_cV3ii (pc := 9) (c := 11) C hd1 h mv_X11_comes ml_X11_679 rfl (fun x hx => A_X11_comes n 200 (by omega) hx) dX11_expands_9 (fun r1 h => ?_)
  obtain ⟨hz, h⟩ := az_zif h
  obtain rfl := Option.some.inj h
  exact az_zreturn (pc := 12) C hz dX11_expands_12 rfl
set_option maxRecDepth 10000 in
set_option maxHeartbeats 4000000 in
theorem A_X11_expands {l : Launch} {d : Nat} (hD : 202 ≤ d) (n : Nat) {σ : az_Hp} {v0 v1 v2 v3 : Int} {r : (Int × az_Hp)} (h : fz_X11_expands n σ v0 v1 v2 v3 = some r) : az_AC l yX11_expands cX11_expands 4 (some .boolean) d [(13, v0), (15, v1), (0, v2), (0, v3)] σ (some (0, r.1), r.2) := az_AC.of mt_X11_expands rfl rfl rfl (fun Z hZ C => A_X11_expands_e C hD n h)
theorem dX11_unknown_0 : decode cX11_unknown 0 = .ok (.iload_n 1, 1) := by decide +kernel
theorem dX11_unknown_1 : decode cX11_unknown 1 = .ok (.iconst 0, 1) := by decide +kernel
theorem dX11_unknown_2 : decode cX11_unknown 2 = .ok (.aload_n 0, 1) := by decide +kernel
theorem dX11_unknown_3 : decode cX11_unknown 3 = .ok (.getfield 395, 3) := by decide +kernel
theorem dX11_unknown_6 : decode cX11_unknown 6 = .ok (.iconst 1, 1) := by decide +kernel
theorem dX11_unknown_7 : decode cX11_unknown 7 = .ok (.isub, 1) := by decide +kernel
theorem dX11_unknown_8 : decode cX11_unknown 8 = .ok (.invokestatic 354, 3) := by decide +kernel
theorem dX11_unknown_11 : decode cX11_unknown 11 = .ok (.ifCond .ne 9, 3) := by decide +kernel
theorem dX11_unknown_14 : decode cX11_unknown 14 = .ok (.aload_n 0, 1) := by decide +kernel
theorem dX11_unknown_15 : decode cX11_unknown 15 = .ok (.iconst 2, 1) := by decide +kernel
theorem dX11_unknown_16 : decode cX11_unknown 16 = .ok (.invokevirtual 372, 3) := by decide +kernel
theorem dX11_unknown_19 : decode cX11_unknown 19 = .ok (.ireturn, 1) := by decide +kernel
theorem dX11_unknown_20 : decode cX11_unknown 20 = .ok (.aload_n 0, 1) := by decide +kernel
theorem dX11_unknown_21 : decode cX11_unknown 21 = .ok (.getfield 201, 3) := by decide +kernel
theorem dX11_unknown_24 : decode cX11_unknown 24 = .ok (.iload_n 1, 1) := by decide +kernel
theorem dX11_unknown_25 : decode cX11_unknown 25 = .ok (.iaload, 1) := by decide +kernel
theorem dX11_unknown_26 : decode cX11_unknown 26 = .ok (.ifCond .ne 9, 3) := by decide +kernel
theorem dX11_unknown_29 : decode cX11_unknown 29 = .ok (.aload_n 0, 1) := by decide +kernel
theorem dX11_unknown_30 : decode cX11_unknown 30 = .ok (.iconst 5, 1) := by decide +kernel
theorem dX11_unknown_31 : decode cX11_unknown 31 = .ok (.invokevirtual 372, 3) := by decide +kernel
theorem dX11_unknown_34 : decode cX11_unknown 34 = .ok (.ireturn, 1) := by decide +kernel
theorem dX11_unknown_35 : decode cX11_unknown 35 = .ok (.aload_n 0, 1) := by decide +kernel
theorem dX11_unknown_36 : decode cX11_unknown 36 = .ok (.aload_n 0, 1) := by decide +kernel
theorem dX11_unknown_37 : decode cX11_unknown 37 = .ok (.getfield 198, 3) := by decide +kernel
theorem dX11_unknown_40 : decode cX11_unknown 40 = .ok (.bipush 60, 2) := by decide +kernel
theorem dX11_unknown_42 : decode cX11_unknown 42 = .ok (.iload_n 1, 1) := by decide +kernel
theorem dX11_unknown_43 : decode cX11_unknown 43 = .ok (.imul, 1) := by decide +kernel
theorem dX11_unknown_44 : decode cX11_unknown 44 = .ok (.aload_n 0, 1) := by decide +kernel
theorem dX11_unknown_45 : decode cX11_unknown 45 = .ok (.getfield 201, 3) := by decide +kernel
theorem dX11_unknown_48 : decode cX11_unknown 48 = .ok (.iload_n 1, 1) := by decide +kernel
theorem dX11_unknown_49 : decode cX11_unknown 49 = .ok (.iaload, 1) := by decide +kernel
theorem dX11_unknown_50 : decode cX11_unknown 50 = .ok (.invokevirtual 683, 3) := by decide +kernel
theorem dX11_unknown_53 : decode cX11_unknown 53 = .ok (.ifCond .ne 10, 3) := by decide +kernel
theorem dX11_unknown_56 : decode cX11_unknown 56 = .ok (.aload_n 0, 1) := by decide +kernel
theorem dX11_unknown_57 : decode cX11_unknown 57 = .ok (.bipush 6, 2) := by decide +kernel
theorem dX11_unknown_59 : decode cX11_unknown 59 = .ok (.invokevirtual 372, 3) := by decide +kernel
theorem dX11_unknown_62 : decode cX11_unknown 62 = .ok (.ireturn, 1) := by decide +kernel
theorem dX11_unknown_63 : decode cX11_unknown 63 = .ok (.aload_n 0, 1) := by decide +kernel
theorem dX11_unknown_64 : decode cX11_unknown 64 = .ok (.iconst 0, 1) := by decide +kernel
theorem dX11_unknown_65 : decode cX11_unknown 65 = .ok (.putfield 480, 3) := by decide +kernel
theorem dX11_unknown_68 : decode cX11_unknown 68 = .ok (.aload_n 0, 1) := by decide +kernel
theorem dX11_unknown_69 : decode cX11_unknown 69 = .ok (.iconst 1, 1) := by decide +kernel
theorem dX11_unknown_70 : decode cX11_unknown 70 = .ok (.putfield 502, 3) := by decide +kernel
theorem dX11_unknown_73 : decode cX11_unknown 73 = .ok (.aload_n 0, 1) := by decide +kernel
theorem dX11_unknown_74 : decode cX11_unknown 74 = .ok (.aload_n 0, 1) := by decide +kernel
theorem dX11_unknown_75 : decode cX11_unknown 75 = .ok (.getfield 126, 3) := by decide +kernel
theorem dX11_unknown_78 : decode cX11_unknown 78 = .ok (.aload_n 0, 1) := by decide +kernel
theorem dX11_unknown_79 : decode cX11_unknown 79 = .ok (.getfield 601, 3) := by decide +kernel
theorem dX11_unknown_82 : decode cX11_unknown 82 = .ok (.aload_n 0, 1) := by decide +kernel
theorem dX11_unknown_83 : decode cX11_unknown 83 = .ok (.getfield 183, 3) := by decide +kernel
theorem dX11_unknown_86 : decode cX11_unknown 86 = .ok (.invokevirtual 657, 3) := by decide +kernel
theorem dX11_unknown_89 : decode cX11_unknown 89 = .ok (.aload_n 0, 1) := by decide +kernel
theorem dX11_unknown_90 : decode cX11_unknown 90 = .ok (.aload_n 0, 1) := by decide +kernel
theorem dX11_unknown_91 : decode cX11_unknown 91 = .ok (.getfield 480, 3) := by decide +kernel
theorem dX11_unknown_94 : decode cX11_unknown 94 = .ok (.invokevirtual 401, 3) := by decide +kernel
theorem dX11_unknown_97 : decode cX11_unknown 97 = .ok (.ireturn, 1) := by decide +kernel
set_option maxRecDepth 10000 in
set_option maxHeartbeats 4000000 in
theorem A_X11_unknown_e {Z : az_Z} {d : Nat} (C : az_C Z yX11_unknown cX11_unknown 2 (some .int) d) (hD : 203 ≤ d) (n : Nat) {σ : az_Hp} {v0 v1 : Int} {r : (Int × az_Hp)} (h : fz_X11_unknown n σ v0 v1 = some r) : az_AW Z 2 0 [(13, v0), (0, v1)] [] σ (some (0, r.1), r.2) := by
  have hd1 : 1 ≤ d := by omega
  unfold fz_X11_unknown at h
  refine az_il1 (pc := 0) C dX11_unknown_0 ?_
  refine az_ik0 (pc := 1) C dX11_unknown_1 ?_
  refine az_al0 (pc := 2) C rfl rfl dX11_unknown_2 ?_
  refine az_getI (pc := 3) C fl_X11_395 rfl dX11_unknown_3 ?_
  refine az_ik1 (pc := 6) C dX11_unknown_6 ?_
  refine az_isub (pc := 7) C dX11_unknown_7 ?_
  refine az_cS3pi (pc := 8) C hd1 h ms_X11_isFrom ml_X11_354 rfl (fun x hx => A_X11_isFrom (by omega) hx) dX11_unknown_8 (fun r1 h => ?_)
  refine az_if_ne (pc := 11) (tgt := 20) C h dX11_unknown_11 (by decide) (fun _ h => ?_) (fun _ h => ?_)
  · refine az_al0 (pc := 20) C rfl rfl dX11_unknown_20 ?_
    refine az_getR (pc := 21) (c2 := 13) C h fl_X11_201 rfl rfl dX11_unknown_21 (fun h => ?_)
    refine az_il1 (pc := 24) C dX11_unknown_24 ?_
    refine az_iaload (pc := 25) C h dX11_unknown_25 (fun h => ?_)
    refine az_if_ne (pc := 26) (tgt := 35) C h dX11_unknown_26 (by decide) (fun _ h => ?_) (fun _ h => ?_)
    · refine az_al0 (pc := 35) C rfl rfl dX11_unknown_35 ?_
      refine az_al0 (pc := 36) C rfl rfl dX11_unknown_36 ?_
      refine az_getR (pc := 37) (c2 := 13) C h fl_X11_198 rfl rfl dX11_unknown_37 (fun h => ?_)
      refine az_bk60 (pc := 40) C dX11_unknown_40 ?_
      refine az_il1 (pc := 42) C dX11_unknown_42 ?_
      refine az_imul (pc := 43) C dX11_unknown_43 ?_
      refine az_al0 (pc := 44) C rfl rfl dX11_unknown_44 ?_
      refine az_getR (pc := 45) (c2 := 13) C h fl_X11_201 rfl rfl dX11_unknown_45 (fun h => ?_)
      refine az_il1 (pc := 48) C dX11_unknown_48 ?_
      refine az_iaload (pc := 49) C h dX11_unknown_49 (fun h => ?_)
      refine az_cV3ii (pc := 50) (c := 11) C hd1 h mv_X11_expands ml_X11_683 rfl (fun x hx => A_X11_expands (by omega) n hx) dX11_unknown_50 (fun r7 h => ?_)
      refine az_if_ne (pc := 53) (tgt := 63) C h dX11_unknown_53 (by decide) (fun _ h => ?_) (fun _ h => ?_)
      · refine az_al0 (pc := 63) C rfl rfl dX11_unknown_63 ?_
        refine az_ik0 (pc := 64) C dX11_unknown_64 ?_
        refine az_putI (pc := 65) C fl_X11_480 (Or.inl rfl) rfl dX11_unknown_65 ?_
        refine az_al0 (pc := 68) C rfl rfl dX11_unknown_68 ?_
        refine az_ik1 (pc := 69) C dX11_unknown_69 ?_
        refine az_putZc (pc := 70) C (by decide) fl_X11_502 (Or.inl rfl) rfl dX11_unknown_70 ?_
        refine az_al0 (pc := 73) C rfl rfl dX11_unknown_73 ?_
        refine az_al0 (pc := 74) C rfl rfl dX11_unknown_74 ?_
        refine az_getR (pc := 75) (c2 := 13) C h fl_X11_126 rfl rfl dX11_unknown_75 (fun h => ?_)
        refine az_al0 (pc := 78) C rfl rfl dX11_unknown_78 ?_
        refine az_getI (pc := 79) C fl_X11_601 rfl dX11_unknown_79 ?_
        refine az_al0 (pc := 82) C rfl rfl dX11_unknown_82 ?_
        refine az_getR (pc := 83) (c2 := 14) C h fl_X11_183 rfl rfl dX11_unknown_83 (fun h => ?_)
        refine az_cV3v (pc := 86) (c := 11) C hd1 h mv_X11_tellsRow ml_X11_657 rfl (fun x hx => A_X11_tellsRow (by omega) n hx) dX11_unknown_86 (fun r10 h => ?_)
        refine az_al0 (pc := 89) C rfl rfl dX11_unknown_89 ?_
        refine az_al0 (pc := 90) C rfl rfl dX11_unknown_90 ?_
        refine az_getI (pc := 91) C fl_X11_480 rfl dX11_unknown_91 ?_
        refine az_cV1ii (pc := 94) (c := 11) C hd1 h mv_X11_gives ml_X11_401 rfl (fun x hx => A_X11_gives (by omega) hx) dX11_unknown_94 (fun r11 h => ?_)
        obtain rfl := Option.some.inj h
        exact az_ireturn (pc := 97) C dX11_unknown_97 rfl
      refine az_al0 (pc := 56) C rfl rfl dX11_unknown_56 ?_
      refine az_bk6 (pc := 57) C dX11_unknown_57 ?_
      refine az_cV1ii (pc := 59) (c := 11) C hd1 h mv_X11_refuse ml_X11_372 rfl (fun x hx => A_X11_refuse (by omega) hx) dX11_unknown_59 (fun r12 h => ?_)
      obtain rfl := Option.some.inj h
      exact az_ireturn (pc := 62) C dX11_unknown_62 rfl
    refine az_al0 (pc := 29) C rfl rfl dX11_unknown_29 ?_
    refine az_ik5 (pc := 30) C dX11_unknown_30 ?_
    refine az_cV1ii (pc := 31) (c := 11) C hd1 h mv_X11_refuse ml_X11_372 rfl (fun x hx => A_X11_refuse (by omega) hx) dX11_unknown_31 (fun r13 h => ?_)
    obtain rfl := Option.some.inj h
    exact az_ireturn (pc := 34) C dX11_unknown_34 rfl
  refine az_al0 (pc := 14) C rfl rfl dX11_unknown_14 ?_
  refine az_ik2 (pc := 15) C dX11_unknown_15 ?_
  refine az_cV1ii (pc := 16) (c := 11) C hd1 h mv_X11_refuse ml_X11_372 rfl (fun x hx => A_X11_refuse (by omega) hx) dX11_unknown_16 (fun r14 h => ?_)
  obtain rfl := Option.some.inj h
  exact az_ireturn (pc := 19) C dX11_unknown_19 rfl
set_option maxRecDepth 10000 in
set_option maxHeartbeats 4000000 in
theorem A_X11_unknown {l : Launch} {d : Nat} (hD : 203 ≤ d) (n : Nat) {σ : az_Hp} {v0 v1 : Int} {r : (Int × az_Hp)} (h : fz_X11_unknown n σ v0 v1 = some r) : az_AC l yX11_unknown cX11_unknown 2 (some .int) d [(13, v0), (0, v1)] σ (some (0, r.1), r.2) := az_AC.of mt_X11_unknown rfl rfl rfl (fun Z hZ C => A_X11_unknown_e C hD n h)
theorem dX11_readWanted_0 : decode cX11_readWanted 0 = .ok (.aload_n 0, 1) := by decide +kernel
theorem dX11_readWanted_1 : decode cX11_readWanted 1 = .ok (.iconst 5, 1) := by decide +kernel
theorem dX11_readWanted_2 : decode cX11_readWanted 2 = .ok (.invokevirtual 267, 3) := by decide +kernel
theorem dX11_readWanted_5 : decode cX11_readWanted 5 = .ok (.istore_n 1, 1) := by decide +kernel
theorem dX11_readWanted_6 : decode cX11_readWanted 6 = .ok (.iload_n 1, 1) := by decide +kernel
theorem dX11_readWanted_7 : decode cX11_readWanted 7 = .ok (.ifCond .ne 18, 3) := by decide +kernel
theorem dX11_readWanted_10 : decode cX11_readWanted 10 = .ok (.aload_n 0, 1) := by decide +kernel
theorem dX11_readWanted_11 : decode cX11_readWanted 11 = .ok (.bipush 6, 2) := by decide +kernel
theorem dX11_readWanted_13 : decode cX11_readWanted 13 = .ok (.invokevirtual 267, 3) := by decide +kernel
theorem dX11_readWanted_16 : decode cX11_readWanted 16 = .ok (.ifCond .ne 9, 3) := by decide +kernel
theorem dX11_readWanted_19 : decode cX11_readWanted 19 = .ok (.aload_n 0, 1) := by decide +kernel
theorem dX11_readWanted_20 : decode cX11_readWanted 20 = .ok (.iconst 2, 1) := by decide +kernel
theorem dX11_readWanted_21 : decode cX11_readWanted 21 = .ok (.invokevirtual 279, 3) := by decide +kernel
theorem dX11_readWanted_24 : decode cX11_readWanted 24 = .ok (.ireturn, 1) := by decide +kernel
theorem dX11_readWanted_25 : decode cX11_readWanted 25 = .ok (.iload_n 1, 1) := by decide +kernel
theorem dX11_readWanted_26 : decode cX11_readWanted 26 = .ok (.ifCond .eq 10, 3) := by decide +kernel
theorem dX11_readWanted_29 : decode cX11_readWanted 29 = .ok (.aload_n 0, 1) := by decide +kernel
theorem dX11_readWanted_30 : decode cX11_readWanted 30 = .ok (.getfield 661, 3) := by decide +kernel
theorem dX11_readWanted_33 : decode cX11_readWanted 33 = .ok (.goto 7, 3) := by decide +kernel
theorem dX11_readWanted_36 : decode cX11_readWanted 36 = .ok (.aload_n 0, 1) := by decide +kernel
theorem dX11_readWanted_37 : decode cX11_readWanted 37 = .ok (.getfield 664, 3) := by decide +kernel
theorem dX11_readWanted_40 : decode cX11_readWanted 40 = .ok (.istore_n 2, 1) := by decide +kernel
theorem dX11_readWanted_41 : decode cX11_readWanted 41 = .ok (.iload_n 2, 1) := by decide +kernel
theorem dX11_readWanted_42 : decode cX11_readWanted 42 = .ok (.iload_n 1, 1) := by decide +kernel
theorem dX11_readWanted_43 : decode cX11_readWanted 43 = .ok (.ifCond .eq 8, 3) := by decide +kernel
theorem dX11_readWanted_46 : decode cX11_readWanted 46 = .ok (.bipush 6, 2) := by decide +kernel
theorem dX11_readWanted_48 : decode cX11_readWanted 48 = .ok (.goto 5, 3) := by decide +kernel
theorem dX11_readWanted_51 : decode cX11_readWanted 51 = .ok (.bipush 8, 2) := by decide +kernel
theorem dX11_readWanted_53 : decode cX11_readWanted 53 = .ok (.if_icmp .ne 10, 3) := by decide +kernel
theorem dX11_readWanted_56 : decode cX11_readWanted 56 = .ok (.aload_n 0, 1) := by decide +kernel
theorem dX11_readWanted_57 : decode cX11_readWanted 57 = .ok (.bipush 6, 2) := by decide +kernel
theorem dX11_readWanted_59 : decode cX11_readWanted 59 = .ok (.invokevirtual 279, 3) := by decide +kernel
theorem dX11_readWanted_62 : decode cX11_readWanted 62 = .ok (.ireturn, 1) := by decide +kernel
theorem dX11_readWanted_63 : decode cX11_readWanted 63 = .ok (.aload_n 0, 1) := by decide +kernel
theorem dX11_readWanted_64 : decode cX11_readWanted 64 = .ok (.invokevirtual 282, 3) := by decide +kernel
theorem dX11_readWanted_67 : decode cX11_readWanted 67 = .ok (.iload_n 1, 1) := by decide +kernel
theorem dX11_readWanted_68 : decode cX11_readWanted 68 = .ok (.ifCond .eq 7, 3) := by decide +kernel
theorem dX11_readWanted_71 : decode cX11_readWanted 71 = .ok (.iconst 3, 1) := by decide +kernel
theorem dX11_readWanted_72 : decode cX11_readWanted 72 = .ok (.goto 4, 3) := by decide +kernel
theorem dX11_readWanted_75 : decode cX11_readWanted 75 = .ok (.iconst 4, 1) := by decide +kernel
theorem dX11_readWanted_76 : decode cX11_readWanted 76 = .ok (.istore_n 3, 1) := by decide +kernel
theorem dX11_readWanted_77 : decode cX11_readWanted 77 = .ok (.aload_n 0, 1) := by decide +kernel
theorem dX11_readWanted_78 : decode cX11_readWanted 78 = .ok (.iload_n 3, 1) := by decide +kernel
theorem dX11_readWanted_79 : decode cX11_readWanted 79 = .ok (.bipush 30, 2) := by decide +kernel
theorem dX11_readWanted_81 : decode cX11_readWanted 81 = .ok (.bipush 61, 2) := by decide +kernel
theorem dX11_readWanted_83 : decode cX11_readWanted 83 = .ok (.iload_n 1, 1) := by decide +kernel
theorem dX11_readWanted_84 : decode cX11_readWanted 84 = .ok (.iload_n 1, 1) := by decide +kernel
theorem dX11_readWanted_85 : decode cX11_readWanted 85 = .ok (.ifCond .eq 10, 3) := by decide +kernel
theorem dX11_readWanted_88 : decode cX11_readWanted 88 = .ok (.aload_n 0, 1) := by decide +kernel
theorem dX11_readWanted_89 : decode cX11_readWanted 89 = .ok (.getfield 165, 3) := by decide +kernel
theorem dX11_readWanted_92 : decode cX11_readWanted 92 = .ok (.goto 7, 3) := by decide +kernel
theorem dX11_readWanted_95 : decode cX11_readWanted 95 = .ok (.aload_n 0, 1) := by decide +kernel
theorem dX11_readWanted_96 : decode cX11_readWanted 96 = .ok (.getfield 177, 3) := by decide +kernel
theorem dX11_readWanted_99 : decode cX11_readWanted 99 = .ok (.iload_n 1, 1) := by decide +kernel
theorem dX11_readWanted_100 : decode cX11_readWanted 100 = .ok (.ifCond .eq 10, 3) := by decide +kernel
theorem dX11_readWanted_103 : decode cX11_readWanted 103 = .ok (.bipush 30, 2) := by decide +kernel
theorem dX11_readWanted_105 : decode cX11_readWanted 105 = .ok (.iload_n 2, 1) := by decide +kernel
theorem dX11_readWanted_106 : decode cX11_readWanted 106 = .ok (.imul, 1) := by decide +kernel
theorem dX11_readWanted_107 : decode cX11_readWanted 107 = .ok (.goto 7, 3) := by decide +kernel
theorem dX11_readWanted_110 : decode cX11_readWanted 110 = .ok (.bipush 60, 2) := by decide +kernel
theorem dX11_readWanted_112 : decode cX11_readWanted 112 = .ok (.iload_n 2, 1) := by decide +kernel
theorem dX11_readWanted_113 : decode cX11_readWanted 113 = .ok (.imul, 1) := by decide +kernel
theorem dX11_readWanted_114 : decode cX11_readWanted 114 = .ok (.invokevirtual 361, 3) := by decide +kernel
theorem dX11_readWanted_117 : decode cX11_readWanted 117 = .ok (.istore 4, 2) := by decide +kernel
theorem dX11_readWanted_119 : decode cX11_readWanted 119 = .ok (.iload 4, 2) := by decide +kernel
theorem dX11_readWanted_121 : decode cX11_readWanted 121 = .ok (.iconst (-1), 1) := by decide +kernel
theorem dX11_readWanted_122 : decode cX11_readWanted 122 = .ok (.if_icmp .eq 12, 3) := by decide +kernel
theorem dX11_readWanted_125 : decode cX11_readWanted 125 = .ok (.aload_n 0, 1) := by decide +kernel
theorem dX11_readWanted_126 : decode cX11_readWanted 126 = .ok (.bipush 61, 2) := by decide +kernel
theorem dX11_readWanted_128 : decode cX11_readWanted 128 = .ok (.invokevirtual 351, 3) := by decide +kernel
theorem dX11_readWanted_131 : decode cX11_readWanted 131 = .ok (.ifCond .ne 5, 3) := by decide +kernel
theorem dX11_readWanted_134 : decode cX11_readWanted 134 = .ok (.iconst 0, 1) := by decide +kernel
theorem dX11_readWanted_135 : decode cX11_readWanted 135 = .ok (.ireturn, 1) := by decide +kernel
theorem dX11_readWanted_136 : decode cX11_readWanted 136 = .ok (.aload_n 0, 1) := by decide +kernel
theorem dX11_readWanted_137 : decode cX11_readWanted 137 = .ok (.iload_n 3, 1) := by decide +kernel
theorem dX11_readWanted_138 : decode cX11_readWanted 138 = .ok (.bipush 30, 2) := by decide +kernel
theorem dX11_readWanted_140 : decode cX11_readWanted 140 = .ok (.bipush 59, 2) := by decide +kernel
theorem dX11_readWanted_142 : decode cX11_readWanted 142 = .ok (.iconst 0, 1) := by decide +kernel
theorem dX11_readWanted_143 : decode cX11_readWanted 143 = .ok (.iload_n 1, 1) := by decide +kernel
theorem dX11_readWanted_144 : decode cX11_readWanted 144 = .ok (.ifCond .eq 10, 3) := by decide +kernel
theorem dX11_readWanted_147 : decode cX11_readWanted 147 = .ok (.aload_n 0, 1) := by decide +kernel
theorem dX11_readWanted_148 : decode cX11_readWanted 148 = .ok (.getfield 168, 3) := by decide +kernel
theorem dX11_readWanted_151 : decode cX11_readWanted 151 = .ok (.goto 7, 3) := by decide +kernel
theorem dX11_readWanted_154 : decode cX11_readWanted 154 = .ok (.aload_n 0, 1) := by decide +kernel
theorem dX11_readWanted_155 : decode cX11_readWanted 155 = .ok (.getfield 177, 3) := by decide +kernel
theorem dX11_readWanted_158 : decode cX11_readWanted 158 = .ok (.iload_n 1, 1) := by decide +kernel
theorem dX11_readWanted_159 : decode cX11_readWanted 159 = .ok (.ifCond .eq 10, 3) := by decide +kernel
theorem dX11_readWanted_162 : decode cX11_readWanted 162 = .ok (.bipush 30, 2) := by decide +kernel
theorem dX11_readWanted_164 : decode cX11_readWanted 164 = .ok (.iload_n 2, 1) := by decide +kernel
theorem dX11_readWanted_165 : decode cX11_readWanted 165 = .ok (.imul, 1) := by decide +kernel
theorem dX11_readWanted_166 : decode cX11_readWanted 166 = .ok (.goto 10, 3) := by decide +kernel
theorem dX11_readWanted_169 : decode cX11_readWanted 169 = .ok (.bipush 60, 2) := by decide +kernel
theorem dX11_readWanted_171 : decode cX11_readWanted 171 = .ok (.iload_n 2, 1) := by decide +kernel
theorem dX11_readWanted_172 : decode cX11_readWanted 172 = .ok (.imul, 1) := by decide +kernel
theorem dX11_readWanted_173 : decode cX11_readWanted 173 = .ok (.bipush 30, 2) := by decide +kernel
theorem dX11_readWanted_175 : decode cX11_readWanted 175 = .ok (.iadd, 1) := by decide +kernel
theorem dX11_readWanted_176 : decode cX11_readWanted 176 = .ok (.invokevirtual 361, 3) := by decide +kernel
theorem dX11_readWanted_179 : decode cX11_readWanted 179 = .ok (.istore 5, 2) := by decide +kernel
theorem dX11_readWanted_181 : decode cX11_readWanted 181 = .ok (.iload 5, 2) := by decide +kernel
theorem dX11_readWanted_183 : decode cX11_readWanted 183 = .ok (.iconst (-1), 1) := by decide +kernel
theorem dX11_readWanted_184 : decode cX11_readWanted 184 = .ok (.if_icmp .ne 5, 3) := by decide +kernel
theorem dX11_readWanted_187 : decode cX11_readWanted 187 = .ok (.iconst 0, 1) := by decide +kernel
theorem dX11_readWanted_188 : decode cX11_readWanted 188 = .ok (.ireturn, 1) := by decide +kernel
theorem dX11_readWanted_189 : decode cX11_readWanted 189 = .ok (.iload_n 1, 1) := by decide +kernel
theorem dX11_readWanted_190 : decode cX11_readWanted 190 = .ok (.ifCond .eq 32, 3) := by decide +kernel
theorem dX11_readWanted_193 : decode cX11_readWanted 193 = .ok (.aload_n 0, 1) := by decide +kernel
theorem dX11_readWanted_194 : decode cX11_readWanted 194 = .ok (.getfield 171, 3) := by decide +kernel
theorem dX11_readWanted_197 : decode cX11_readWanted 197 = .ok (.iload_n 2, 1) := by decide +kernel
theorem dX11_readWanted_198 : decode cX11_readWanted 198 = .ok (.iload 4, 2) := by decide +kernel
theorem dX11_readWanted_200 : decode cX11_readWanted 200 = .ok (.iastore, 1) := by decide +kernel
theorem dX11_readWanted_201 : decode cX11_readWanted 201 = .ok (.aload_n 0, 1) := by decide +kernel
theorem dX11_readWanted_202 : decode cX11_readWanted 202 = .ok (.getfield 174, 3) := by decide +kernel
theorem dX11_readWanted_205 : decode cX11_readWanted 205 = .ok (.iload_n 2, 1) := by decide +kernel
theorem dX11_readWanted_206 : decode cX11_readWanted 206 = .ok (.iload 5, 2) := by decide +kernel
theorem dX11_readWanted_208 : decode cX11_readWanted 208 = .ok (.iastore, 1) := by decide +kernel
theorem dX11_readWanted_209 : decode cX11_readWanted 209 = .ok (.aload_n 0, 1) := by decide +kernel
theorem dX11_readWanted_210 : decode cX11_readWanted 210 = .ok (.dup, 1) := by decide +kernel
theorem dX11_readWanted_211 : decode cX11_readWanted 211 = .ok (.getfield 661, 3) := by decide +kernel
theorem dX11_readWanted_214 : decode cX11_readWanted 214 = .ok (.iconst 1, 1) := by decide +kernel
theorem dX11_readWanted_215 : decode cX11_readWanted 215 = .ok (.iadd, 1) := by decide +kernel
theorem dX11_readWanted_216 : decode cX11_readWanted 216 = .ok (.putfield 661, 3) := by decide +kernel
theorem dX11_readWanted_219 : decode cX11_readWanted 219 = .ok (.goto 35, 3) := by decide +kernel
theorem dX11_readWanted_222 : decode cX11_readWanted 222 = .ok (.aload_n 0, 1) := by decide +kernel
theorem dX11_readWanted_223 : decode cX11_readWanted 223 = .ok (.getfield 180, 3) := by decide +kernel
theorem dX11_readWanted_226 : decode cX11_readWanted 226 = .ok (.iconst 2, 1) := by decide +kernel
theorem dX11_readWanted_227 : decode cX11_readWanted 227 = .ok (.iload_n 2, 1) := by decide +kernel
theorem dX11_readWanted_228 : decode cX11_readWanted 228 = .ok (.imul, 1) := by decide +kernel
theorem dX11_readWanted_229 : decode cX11_readWanted 229 = .ok (.iload 4, 2) := by decide +kernel
theorem dX11_readWanted_231 : decode cX11_readWanted 231 = .ok (.iastore, 1) := by decide +kernel
theorem dX11_readWanted_232 : decode cX11_readWanted 232 = .ok (.aload_n 0, 1) := by decide +kernel
theorem dX11_readWanted_233 : decode cX11_readWanted 233 = .ok (.getfield 180, 3) := by decide +kernel
theorem dX11_readWanted_236 : decode cX11_readWanted 236 = .ok (.iconst 2, 1) := by decide +kernel
theorem dX11_readWanted_237 : decode cX11_readWanted 237 = .ok (.iload_n 2, 1) := by decide +kernel
theorem dX11_readWanted_238 : decode cX11_readWanted 238 = .ok (.imul, 1) := by decide +kernel
theorem dX11_readWanted_239 : decode cX11_readWanted 239 = .ok (.iconst 1, 1) := by decide +kernel
theorem dX11_readWanted_240 : decode cX11_readWanted 240 = .ok (.iadd, 1) := by decide +kernel
theorem dX11_readWanted_241 : decode cX11_readWanted 241 = .ok (.iload 5, 2) := by decide +kernel
theorem dX11_readWanted_243 : decode cX11_readWanted 243 = .ok (.iastore, 1) := by decide +kernel
theorem dX11_readWanted_244 : decode cX11_readWanted 244 = .ok (.aload_n 0, 1) := by decide +kernel
theorem dX11_readWanted_245 : decode cX11_readWanted 245 = .ok (.dup, 1) := by decide +kernel
theorem dX11_readWanted_246 : decode cX11_readWanted 246 = .ok (.getfield 664, 3) := by decide +kernel
theorem dX11_readWanted_249 : decode cX11_readWanted 249 = .ok (.iconst 1, 1) := by decide +kernel
theorem dX11_readWanted_250 : decode cX11_readWanted 250 = .ok (.iadd, 1) := by decide +kernel
theorem dX11_readWanted_251 : decode cX11_readWanted 251 = .ok (.putfield 664, 3) := by decide +kernel
theorem dX11_readWanted_254 : decode cX11_readWanted 254 = .ok (.aload_n 0, 1) := by decide +kernel
theorem dX11_readWanted_255 : decode cX11_readWanted 255 = .ok (.bipush 59, 2) := by decide +kernel
theorem dX11_readWanted_257 : decode cX11_readWanted 257 = .ok (.invokevirtual 351, 3) := by decide +kernel
theorem dX11_readWanted_260 : decode cX11_readWanted 260 = .ok (.ireturn, 1) := by decide +kernel
set_option maxRecDepth 10000 in
set_option maxHeartbeats 4000000 in
theorem A_X11_readWanted_176 {Z : az_Z} {d : Nat} (C : az_C Z yX11_readWanted cX11_readWanted 6 (some .boolean) d) (hD : 407 ≤ d) (n : Nat) {σ : az_Hp} {v0 v1 v2 v4 w0 w1 w2 w3 w4 w5 w6 : Int} {r : (Int × az_Hp)} (h : fz_X11_readWanted_176 n σ v0 v1 v2 v4 w0 w1 w2 w3 w4 w5 w6 = some r) : az_AW Z 6 176 [(13, v0), (0, v1), (0, v2), (31, 0), (0, v4), (31, 0)] [(0, w6), (15, w5), (0, w4), (0, w3), (0, w2), (0, w1), (13, w0)] σ (some (0, r.1), r.2) := by
  have hd1 : 1 ≤ d := by omega
  unfold fz_X11_readWanted_176 at h
  refine az_cV6ii (pc := 176) (c := 11) C hd1 h mv_X11_readWhole ml_X11_361 rfl (fun x hx => A_X11_readWhole (by omega) n hx) dX11_readWanted_176 (fun r1 h => ?_)
  refine az_is5 (pc := 179) C rfl rfl dX11_readWanted_179 ?_
  refine az_il5 (pc := 181) C dX11_readWanted_181 ?_
  refine az_ikm1 (pc := 183) C dX11_readWanted_183 ?_
  refine az_icmp_ne (pc := 184) (tgt := 189) C h dX11_readWanted_184 (by decide) (fun _ h => ?_) (fun _ h => ?_)
  · refine az_il1 (pc := 189) C dX11_readWanted_189 ?_
    refine az_if_eq (pc := 190) (tgt := 222) C h dX11_readWanted_190 (by decide) (fun _ h => ?_) (fun _ h => ?_)
    · refine az_al0 (pc := 222) C rfl rfl dX11_readWanted_222 ?_
      refine az_getR (pc := 223) (c2 := 13) C h fl_X11_180 rfl rfl dX11_readWanted_223 (fun h => ?_)
      refine az_ik2 (pc := 226) C dX11_readWanted_226 ?_
      refine az_il2 (pc := 227) C dX11_readWanted_227 ?_
      refine az_imul (pc := 228) C dX11_readWanted_228 ?_
      refine az_il4 (pc := 229) C dX11_readWanted_229 ?_
      refine az_iastore (pc := 231) C h dX11_readWanted_231 (fun h => ?_)
      refine az_al0 (pc := 232) C rfl rfl dX11_readWanted_232 ?_
      refine az_getR (pc := 233) (c2 := 13) C h fl_X11_180 rfl rfl dX11_readWanted_233 (fun h => ?_)
      refine az_ik2 (pc := 236) C dX11_readWanted_236 ?_
      refine az_il2 (pc := 237) C dX11_readWanted_237 ?_
      refine az_imul (pc := 238) C dX11_readWanted_238 ?_
      refine az_ik1 (pc := 239) C dX11_readWanted_239 ?_
      refine az_iadd (pc := 240) C dX11_readWanted_240 ?_
      refine az_il5 (pc := 241) C dX11_readWanted_241 ?_
      refine az_iastore (pc := 243) C h dX11_readWanted_243 (fun h => ?_)
      refine az_al0 (pc := 244) C rfl rfl dX11_readWanted_244 ?_
      refine az_dup (pc := 245) C rfl rfl dX11_readWanted_245 ?_
      refine az_getI (pc := 246) C fl_X11_664 rfl dX11_readWanted_246 ?_
      refine az_ik1 (pc := 249) C dX11_readWanted_249 ?_
      refine az_iadd (pc := 250) C dX11_readWanted_250 ?_
      refine az_putI (pc := 251) C fl_X11_664 (Or.inl rfl) rfl dX11_readWanted_251 ?_
      refine az_al0 (pc := 254) C rfl rfl dX11_readWanted_254 ?_
      refine az_bk59 (pc := 255) C dX11_readWanted_255 ?_
      refine az_cV1ii (pc := 257) (c := 11) C hd1 h mv_X11_eats ml_X11_351 rfl (fun x hx => A_X11_eats (by omega) n hx) dX11_readWanted_257 (fun r6 h => ?_)
      obtain ⟨hz, h⟩ := az_zif h
      obtain rfl := Option.some.inj h
      exact az_zreturn (pc := 260) C hz dX11_readWanted_260 rfl
    refine az_al0 (pc := 193) C rfl rfl dX11_readWanted_193 ?_
    refine az_getR (pc := 194) (c2 := 13) C h fl_X11_171 rfl rfl dX11_readWanted_194 (fun h => ?_)
    refine az_il2 (pc := 197) C dX11_readWanted_197 ?_
    refine az_il4 (pc := 198) C dX11_readWanted_198 ?_
    refine az_iastore (pc := 200) C h dX11_readWanted_200 (fun h => ?_)
    refine az_al0 (pc := 201) C rfl rfl dX11_readWanted_201 ?_
    refine az_getR (pc := 202) (c2 := 13) C h fl_X11_174 rfl rfl dX11_readWanted_202 (fun h => ?_)
    refine az_il2 (pc := 205) C dX11_readWanted_205 ?_
    refine az_il5 (pc := 206) C dX11_readWanted_206 ?_
    refine az_iastore (pc := 208) C h dX11_readWanted_208 (fun h => ?_)
    refine az_al0 (pc := 209) C rfl rfl dX11_readWanted_209 ?_
    refine az_dup (pc := 210) C rfl rfl dX11_readWanted_210 ?_
    refine az_getI (pc := 211) C fl_X11_661 rfl dX11_readWanted_211 ?_
    refine az_ik1 (pc := 214) C dX11_readWanted_214 ?_
    refine az_iadd (pc := 215) C dX11_readWanted_215 ?_
    refine az_putI (pc := 216) C fl_X11_661 (Or.inl rfl) rfl dX11_readWanted_216 ?_
    refine az_goto (pc := 219) (tgt := 254) C dX11_readWanted_219 (by decide) ?_
    refine az_al0 (pc := 254) C rfl rfl dX11_readWanted_254 ?_
    refine az_bk59 (pc := 255) C dX11_readWanted_255 ?_
    refine az_cV1ii (pc := 257) (c := 11) C hd1 h mv_X11_eats ml_X11_351 rfl (fun x hx => A_X11_eats (by omega) n hx) dX11_readWanted_257 (fun r11 h => ?_)
    obtain ⟨hz, h⟩ := az_zif h
    obtain rfl := Option.some.inj h
    exact az_zreturn (pc := 260) C hz dX11_readWanted_260 rfl
  refine az_ik0 (pc := 187) C dX11_readWanted_187 ?_
  obtain rfl := Option.some.inj h
  exact az_zreturn (pc := 188) C (by decide) dX11_readWanted_188 rfl
set_option maxRecDepth 10000 in
set_option maxHeartbeats 4000000 in
theorem A_X11_readWanted_158 {Z : az_Z} {d : Nat} (C : az_C Z yX11_readWanted cX11_readWanted 6 (some .boolean) d) (hD : 407 ≤ d) (n : Nat) {σ : az_Hp} {v0 v1 v2 v4 w0 w1 w2 w3 w4 w5 : Int} {r : (Int × az_Hp)} (h : fz_X11_readWanted_158 n σ v0 v1 v2 v4 w0 w1 w2 w3 w4 w5 = some r) : az_AW Z 6 158 [(13, v0), (0, v1), (0, v2), (31, 0), (0, v4), (31, 0)] [(15, w5), (0, w4), (0, w3), (0, w2), (0, w1), (13, w0)] σ (some (0, r.1), r.2) := by
  have hd1 : 1 ≤ d := by omega
  unfold fz_X11_readWanted_158 at h
  refine az_il1 (pc := 158) C dX11_readWanted_158 ?_
  refine az_if_eq (pc := 159) (tgt := 169) C h dX11_readWanted_159 (by decide) (fun _ h => ?_) (fun _ h => ?_)
  · refine az_bk60 (pc := 169) C dX11_readWanted_169 ?_
    refine az_il2 (pc := 171) C dX11_readWanted_171 ?_
    refine az_imul (pc := 172) C dX11_readWanted_172 ?_
    refine az_bk30 (pc := 173) C dX11_readWanted_173 ?_
    refine az_iadd (pc := 175) C dX11_readWanted_175 ?_
    exact (A_X11_readWanted_176 C hD n h)
  refine az_bk30 (pc := 162) C dX11_readWanted_162 ?_
  refine az_il2 (pc := 164) C dX11_readWanted_164 ?_
  refine az_imul (pc := 165) C dX11_readWanted_165 ?_
  refine az_goto (pc := 166) (tgt := 176) C dX11_readWanted_166 (by decide) ?_
  exact (A_X11_readWanted_176 C hD n h)
set_option maxRecDepth 10000 in
set_option maxHeartbeats 4000000 in
theorem A_X11_readWanted_114 {Z : az_Z} {d : Nat} (C : az_C Z yX11_readWanted cX11_readWanted 6 (some .boolean) d) (hD : 407 ≤ d) (n : Nat) {σ : az_Hp} {v0 v1 v2 v3 w0 w1 w2 w3 w4 w5 w6 : Int} {r : (Int × az_Hp)} (h : fz_X11_readWanted_114 n σ v0 v1 v2 v3 w0 w1 w2 w3 w4 w5 w6 = some r) : az_AW Z 6 114 [(13, v0), (0, v1), (0, v2), (0, v3), (31, 0), (31, 0)] [(0, w6), (15, w5), (0, w4), (0, w3), (0, w2), (0, w1), (13, w0)] σ (some (0, r.1), r.2) := by
  have hd1 : 1 ≤ d := by omega
  unfold fz_X11_readWanted_114 at h
  refine az_cV6ii (pc := 114) (c := 11) C hd1 h mv_X11_readWhole ml_X11_361 rfl (fun x hx => A_X11_readWhole (by omega) n hx) dX11_readWanted_114 (fun r1 h => ?_)
  refine az_is4 (pc := 117) C rfl rfl dX11_readWanted_117 ?_
  refine az_il4 (pc := 119) C dX11_readWanted_119 ?_
  refine az_ikm1 (pc := 121) C dX11_readWanted_121 ?_
  refine az_icmp_eq (pc := 122) (tgt := 134) C h dX11_readWanted_122 (by decide) (fun _ h => ?_) (fun _ h => ?_)
  · refine az_ik0 (pc := 134) C dX11_readWanted_134 ?_
    obtain rfl := Option.some.inj h
    exact az_zreturn (pc := 135) C (by decide) dX11_readWanted_135 rfl
  refine az_al0 (pc := 125) C rfl rfl dX11_readWanted_125 ?_
  refine az_bk61 (pc := 126) C dX11_readWanted_126 ?_
  refine az_cV1ii (pc := 128) (c := 11) C hd1 h mv_X11_eats ml_X11_351 rfl (fun x hx => A_X11_eats (by omega) n hx) dX11_readWanted_128 (fun r2 h => ?_)
  refine az_if_ne (pc := 131) (tgt := 136) C h dX11_readWanted_131 (by decide) (fun _ h => ?_) (fun _ h => ?_)
  · refine az_al0 (pc := 136) C rfl rfl dX11_readWanted_136 ?_
    refine az_il3 (pc := 137) C dX11_readWanted_137 ?_
    refine az_bk30 (pc := 138) C dX11_readWanted_138 ?_
    refine az_bk59 (pc := 140) C dX11_readWanted_140 ?_
    refine az_ik0 (pc := 142) C dX11_readWanted_142 ?_
    refine az_il1 (pc := 143) C dX11_readWanted_143 ?_
    refine az_if_eq (pc := 144) (tgt := 154) C h dX11_readWanted_144 (by decide) (fun _ h => ?_) (fun _ h => ?_)
    · refine az_al0 (pc := 154) C rfl rfl dX11_readWanted_154 ?_
      refine az_getR (pc := 155) (c2 := 13) C h fl_X11_177 rfl rfl dX11_readWanted_155 (fun h => ?_)
      exact (az_wkk (A_X11_readWanted_158 C hD n h) (az_sE (az_sE (az_sE (az_sJ (az_sE (az_sJ az_sN)))))))
    refine az_al0 (pc := 147) C rfl rfl dX11_readWanted_147 ?_
    refine az_getR (pc := 148) (c2 := 13) C h fl_X11_168 rfl rfl dX11_readWanted_148 (fun h => ?_)
    refine az_goto (pc := 151) (tgt := 158) C dX11_readWanted_151 (by decide) ?_
    exact (az_wkk (A_X11_readWanted_158 C hD n h) (az_sE (az_sE (az_sE (az_sJ (az_sE (az_sJ az_sN)))))))
  refine az_ik0 (pc := 134) C dX11_readWanted_134 ?_
  obtain rfl := Option.some.inj h
  exact az_zreturn (pc := 135) C (by decide) dX11_readWanted_135 rfl
set_option maxRecDepth 10000 in
set_option maxHeartbeats 4000000 in
theorem A_X11_readWanted_99 {Z : az_Z} {d : Nat} (C : az_C Z yX11_readWanted cX11_readWanted 6 (some .boolean) d) (hD : 407 ≤ d) (n : Nat) {σ : az_Hp} {v0 v1 v2 v3 w0 w1 w2 w3 w4 w5 : Int} {r : (Int × az_Hp)} (h : fz_X11_readWanted_99 n σ v0 v1 v2 v3 w0 w1 w2 w3 w4 w5 = some r) : az_AW Z 6 99 [(13, v0), (0, v1), (0, v2), (0, v3), (31, 0), (31, 0)] [(15, w5), (0, w4), (0, w3), (0, w2), (0, w1), (13, w0)] σ (some (0, r.1), r.2) := by
  have hd1 : 1 ≤ d := by omega
  unfold fz_X11_readWanted_99 at h
  refine az_il1 (pc := 99) C dX11_readWanted_99 ?_
  refine az_if_eq (pc := 100) (tgt := 110) C h dX11_readWanted_100 (by decide) (fun _ h => ?_) (fun _ h => ?_)
  · refine az_bk60 (pc := 110) C dX11_readWanted_110 ?_
    refine az_il2 (pc := 112) C dX11_readWanted_112 ?_
    refine az_imul (pc := 113) C dX11_readWanted_113 ?_
    exact (A_X11_readWanted_114 C hD n h)
  refine az_bk30 (pc := 103) C dX11_readWanted_103 ?_
  refine az_il2 (pc := 105) C dX11_readWanted_105 ?_
  refine az_imul (pc := 106) C dX11_readWanted_106 ?_
  refine az_goto (pc := 107) (tgt := 114) C dX11_readWanted_107 (by decide) ?_
  exact (A_X11_readWanted_114 C hD n h)
set_option maxRecDepth 10000 in
set_option maxHeartbeats 4000000 in
theorem A_X11_readWanted_76 {Z : az_Z} {d : Nat} (C : az_C Z yX11_readWanted cX11_readWanted 6 (some .boolean) d) (hD : 407 ≤ d) (n : Nat) {σ : az_Hp} {v0 v1 v2 w0 : Int} {r : (Int × az_Hp)} (h : fz_X11_readWanted_76 n σ v0 v1 v2 w0 = some r) : az_AW Z 6 76 [(13, v0), (0, v1), (0, v2), (31, 0), (31, 0), (31, 0)] [(0, w0)] σ (some (0, r.1), r.2) := by
  have hd1 : 1 ≤ d := by omega
  unfold fz_X11_readWanted_76 at h
  refine az_is3 (pc := 76) C rfl rfl dX11_readWanted_76 ?_
  refine az_al0 (pc := 77) C rfl rfl dX11_readWanted_77 ?_
  refine az_il3 (pc := 78) C dX11_readWanted_78 ?_
  refine az_bk30 (pc := 79) C dX11_readWanted_79 ?_
  refine az_bk61 (pc := 81) C dX11_readWanted_81 ?_
  refine az_il1 (pc := 83) C dX11_readWanted_83 ?_
  refine az_il1 (pc := 84) C dX11_readWanted_84 ?_
  refine az_if_eq (pc := 85) (tgt := 95) C h dX11_readWanted_85 (by decide) (fun _ h => ?_) (fun _ h => ?_)
  · refine az_al0 (pc := 95) C rfl rfl dX11_readWanted_95 ?_
    refine az_getR (pc := 96) (c2 := 13) C h fl_X11_177 rfl rfl dX11_readWanted_96 (fun h => ?_)
    exact (A_X11_readWanted_99 C hD n h)
  refine az_al0 (pc := 88) C rfl rfl dX11_readWanted_88 ?_
  refine az_getR (pc := 89) (c2 := 13) C h fl_X11_165 rfl rfl dX11_readWanted_89 (fun h => ?_)
  refine az_goto (pc := 92) (tgt := 99) C dX11_readWanted_92 (by decide) ?_
  exact (A_X11_readWanted_99 C hD n h)
set_option maxRecDepth 10000 in
set_option maxHeartbeats 4000000 in
theorem A_X11_readWanted_53 {Z : az_Z} {d : Nat} (C : az_C Z yX11_readWanted cX11_readWanted 6 (some .boolean) d) (hD : 407 ≤ d) (n : Nat) {σ : az_Hp} {v0 v1 v2 w0 w1 : Int} {r : (Int × az_Hp)} (h : fz_X11_readWanted_53 n σ v0 v1 v2 w0 w1 = some r) : az_AW Z 6 53 [(13, v0), (0, v1), (0, v2), (31, 0), (31, 0), (31, 0)] [(0, w1), (0, w0)] σ (some (0, r.1), r.2) := by
  have hd1 : 1 ≤ d := by omega
  unfold fz_X11_readWanted_53 at h
  refine az_icmp_ne (pc := 53) (tgt := 63) C h dX11_readWanted_53 (by decide) (fun _ h => ?_) (fun _ h => ?_)
  · refine az_al0 (pc := 63) C rfl rfl dX11_readWanted_63 ?_
    refine az_cV0v (pc := 64) (c := 11) C hd1 h mv_X11_go ml_X11_282 rfl (fun x hx => A_X11_go (by omega) n hx) dX11_readWanted_64 (fun r1 h => ?_)
    refine az_il1 (pc := 67) C dX11_readWanted_67 ?_
    refine az_if_eq (pc := 68) (tgt := 75) C h dX11_readWanted_68 (by decide) (fun _ h => ?_) (fun _ h => ?_)
    · refine az_ik4 (pc := 75) C dX11_readWanted_75 ?_
      exact (A_X11_readWanted_76 C hD n h)
    refine az_ik3 (pc := 71) C dX11_readWanted_71 ?_
    refine az_goto (pc := 72) (tgt := 76) C dX11_readWanted_72 (by decide) ?_
    exact (A_X11_readWanted_76 C hD n h)
  refine az_al0 (pc := 56) C rfl rfl dX11_readWanted_56 ?_
  refine az_bk6 (pc := 57) C dX11_readWanted_57 ?_
  refine az_cV1ii (pc := 59) (c := 11) C hd1 h mv_X11_bad ml_X11_279 rfl (fun x hx => A_X11_bad (by omega) hx) dX11_readWanted_59 (fun r2 h => ?_)
  obtain ⟨hz, h⟩ := az_zif h
  obtain rfl := Option.some.inj h
  exact az_zreturn (pc := 62) C hz dX11_readWanted_62 rfl
set_option maxRecDepth 10000 in
set_option maxHeartbeats 4000000 in
theorem A_X11_readWanted_40 {Z : az_Z} {d : Nat} (C : az_C Z yX11_readWanted cX11_readWanted 6 (some .boolean) d) (hD : 407 ≤ d) (n : Nat) {σ : az_Hp} {v0 v1 w0 : Int} {r : (Int × az_Hp)} (h : fz_X11_readWanted_40 n σ v0 v1 w0 = some r) : az_AW Z 6 40 [(13, v0), (0, v1), (31, 0), (31, 0), (31, 0), (31, 0)] [(0, w0)] σ (some (0, r.1), r.2) := by
  have hd1 : 1 ≤ d := by omega
  unfold fz_X11_readWanted_40 at h
  refine az_is2 (pc := 40) C rfl rfl dX11_readWanted_40 ?_
  refine az_il2 (pc := 41) C dX11_readWanted_41 ?_
  refine az_il1 (pc := 42) C dX11_readWanted_42 ?_
  refine az_if_eq (pc := 43) (tgt := 51) C h dX11_readWanted_43 (by decide) (fun _ h => ?_) (fun _ h => ?_)
  · refine az_bk8 (pc := 51) C dX11_readWanted_51 ?_
    exact (A_X11_readWanted_53 C hD n h)
  refine az_bk6 (pc := 46) C dX11_readWanted_46 ?_
  refine az_goto (pc := 48) (tgt := 53) C dX11_readWanted_48 (by decide) ?_
  exact (A_X11_readWanted_53 C hD n h)
set_option maxRecDepth 10000 in
set_option maxHeartbeats 4000000 in
theorem A_X11_readWanted_25 {Z : az_Z} {d : Nat} (C : az_C Z yX11_readWanted cX11_readWanted 6 (some .boolean) d) (hD : 407 ≤ d) (n : Nat) {σ : az_Hp} {v0 v1 : Int} {r : (Int × az_Hp)} (h : fz_X11_readWanted_25 n σ v0 v1 = some r) : az_AW Z 6 25 [(13, v0), (0, v1), (31, 0), (31, 0), (31, 0), (31, 0)] [] σ (some (0, r.1), r.2) := by
  have hd1 : 1 ≤ d := by omega
  unfold fz_X11_readWanted_25 at h
  refine az_il1 (pc := 25) C dX11_readWanted_25 ?_
  refine az_if_eq (pc := 26) (tgt := 36) C h dX11_readWanted_26 (by decide) (fun _ h => ?_) (fun _ h => ?_)
  · refine az_al0 (pc := 36) C rfl rfl dX11_readWanted_36 ?_
    refine az_getI (pc := 37) C fl_X11_664 rfl dX11_readWanted_37 ?_
    exact (A_X11_readWanted_40 C hD n h)
  refine az_al0 (pc := 29) C rfl rfl dX11_readWanted_29 ?_
  refine az_getI (pc := 30) C fl_X11_661 rfl dX11_readWanted_30 ?_
  refine az_goto (pc := 33) (tgt := 40) C dX11_readWanted_33 (by decide) ?_
  exact (A_X11_readWanted_40 C hD n h)
set_option maxRecDepth 10000 in
set_option maxHeartbeats 4000000 in
theorem A_X11_readWanted_e {Z : az_Z} {d : Nat} (C : az_C Z yX11_readWanted cX11_readWanted 6 (some .boolean) d) (hD : 407 ≤ d) (n : Nat) {σ : az_Hp} {v0 : Int} {r : (Int × az_Hp)} (h : fz_X11_readWanted n σ v0 = some r) : az_AW Z 6 0 [(13, v0), (31, 0), (31, 0), (31, 0), (31, 0), (31, 0)] [] σ (some (0, r.1), r.2) := by
  have hd1 : 1 ≤ d := by omega
  unfold fz_X11_readWanted at h
  refine az_al0 (pc := 0) C rfl rfl dX11_readWanted_0 ?_
  refine az_ik5 (pc := 1) C dX11_readWanted_1 ?_
  refine az_cV1pi (pc := 2) (c := 11) C hd1 h mv_X11_isWord ml_X11_267 rfl (fun x hx => A_X11_isWord (by omega) hx) dX11_readWanted_2 (fun r1 h => ?_)
  refine az_is1 (pc := 5) C rfl rfl dX11_readWanted_5 ?_
  refine az_il1 (pc := 6) C dX11_readWanted_6 ?_
  refine az_if_ne (pc := 7) (tgt := 25) C h dX11_readWanted_7 (by decide) (fun _ h => ?_) (fun _ h => ?_)
  · exact (A_X11_readWanted_25 C hD n h)
  refine az_al0 (pc := 10) C rfl rfl dX11_readWanted_10 ?_
  refine az_bk6 (pc := 11) C dX11_readWanted_11 ?_
  refine az_cV1pi (pc := 13) (c := 11) C hd1 h mv_X11_isWord ml_X11_267 rfl (fun x hx => A_X11_isWord (by omega) hx) dX11_readWanted_13 (fun r2 h => ?_)
  refine az_if_ne (pc := 16) (tgt := 25) C h dX11_readWanted_16 (by decide) (fun _ h => ?_) (fun _ h => ?_)
  · exact (A_X11_readWanted_25 C hD n h)
  refine az_al0 (pc := 19) C rfl rfl dX11_readWanted_19 ?_
  refine az_ik2 (pc := 20) C dX11_readWanted_20 ?_
  refine az_cV1ii (pc := 21) (c := 11) C hd1 h mv_X11_bad ml_X11_279 rfl (fun x hx => A_X11_bad (by omega) hx) dX11_readWanted_21 (fun r3 h => ?_)
  obtain ⟨hz, h⟩ := az_zif h
  obtain rfl := Option.some.inj h
  exact az_zreturn (pc := 24) C hz dX11_readWanted_24 rfl
set_option maxRecDepth 10000 in
set_option maxHeartbeats 4000000 in
theorem A_X11_readWanted {l : Launch} {d : Nat} (hD : 407 ≤ d) (n : Nat) {σ : az_Hp} {v0 : Int} {r : (Int × az_Hp)} (h : fz_X11_readWanted n σ v0 = some r) : az_AC l yX11_readWanted cX11_readWanted 6 (some .boolean) d [(13, v0)] σ (some (0, r.1), r.2) := az_AC.of mt_X11_readWanted rfl rfl rfl (fun Z hZ C => A_X11_readWanted_e C hD n h)
theorem dX11_isUnknown_0 : decode cX11_isUnknown 0 = .ok (.aload_n 1, 1) := by decide +kernel
theorem dX11_isUnknown_1 : decode cX11_isUnknown 1 = .ok (.iconst 0, 1) := by decide +kernel
theorem dX11_isUnknown_2 : decode cX11_isUnknown 2 = .ok (.iaload, 1) := by decide +kernel
theorem dX11_isUnknown_3 : decode cX11_isUnknown 3 = .ok (.sipush 2000, 3) := by decide +kernel
theorem dX11_isUnknown_6 : decode cX11_isUnknown 6 = .ok (.if_icmp .lt 7, 3) := by decide +kernel
theorem dX11_isUnknown_9 : decode cX11_isUnknown 9 = .ok (.iconst 1, 1) := by decide +kernel
theorem dX11_isUnknown_10 : decode cX11_isUnknown 10 = .ok (.goto 4, 3) := by decide +kernel
theorem dX11_isUnknown_13 : decode cX11_isUnknown 13 = .ok (.iconst 0, 1) := by decide +kernel
theorem dX11_isUnknown_14 : decode cX11_isUnknown 14 = .ok (.ireturn, 1) := by decide +kernel
set_option maxRecDepth 10000 in
set_option maxHeartbeats 4000000 in
theorem A_X11_isUnknown_e {Z : az_Z} {d : Nat} (C : az_C Z yX11_isUnknown cX11_isUnknown 2 (some .boolean) d) (hD : 1 ≤ d) {σ : az_Hp} {v0 v1 : Int} {r : Int} (h : fz_X11_isUnknown σ v0 v1 = some r) : az_AW Z 2 0 [(13, v0), (15, v1)] [] σ (some (0, r), σ) := by
  have hd1 : 1 ≤ d := by omega
  unfold fz_X11_isUnknown at h
  refine az_al1 (pc := 0) C rfl rfl dX11_isUnknown_0 ?_
  refine az_ik0 (pc := 1) C dX11_isUnknown_1 ?_
  refine az_iaload (pc := 2) C h dX11_isUnknown_2 (fun h => ?_)
  refine az_sk2000 (pc := 3) C dX11_isUnknown_3 ?_
  refine az_icmp_lt (pc := 6) (tgt := 13) C h dX11_isUnknown_6 (by decide) (fun _ h => ?_) (fun _ h => ?_)
  · refine az_ik0 (pc := 13) C dX11_isUnknown_13 ?_
    obtain rfl := Option.some.inj h
    exact az_zreturn (pc := 14) C (by decide) dX11_isUnknown_14 rfl
  refine az_ik1 (pc := 9) C dX11_isUnknown_9 ?_
  refine az_goto (pc := 10) (tgt := 14) C dX11_isUnknown_10 (by decide) ?_
  obtain rfl := Option.some.inj h
  exact az_zreturn (pc := 14) C (by decide) dX11_isUnknown_14 rfl
set_option maxRecDepth 10000 in
set_option maxHeartbeats 4000000 in
theorem A_X11_isUnknown {l : Launch} {d : Nat} (hD : 1 ≤ d) {σ : az_Hp} {v0 v1 : Int} {r : Int} (h : fz_X11_isUnknown σ v0 v1 = some r) : az_AC l yX11_isUnknown cX11_isUnknown 2 (some .boolean) d [(13, v0), (15, v1)] σ (some (0, r), σ) := az_AC.of mt_X11_isUnknown rfl rfl rfl (fun Z hZ C => A_X11_isUnknown_e C hD h)
theorem dX11_reducesSide_0 : decode cX11_reducesSide 0 = .ok (.aload_n 0, 1) := by decide +kernel
theorem dX11_reducesSide_1 : decode cX11_reducesSide 1 = .ok (.iconst 1, 1) := by decide +kernel
theorem dX11_reducesSide_2 : decode cX11_reducesSide 2 = .ok (.putfield 586, 3) := by decide +kernel
theorem dX11_reducesSide_5 : decode cX11_reducesSide 5 = .ok (.aload_n 0, 1) := by decide +kernel
theorem dX11_reducesSide_6 : decode cX11_reducesSide 6 = .ok (.aload_n 0, 1) := by decide +kernel
theorem dX11_reducesSide_7 : decode cX11_reducesSide 7 = .ok (.getfield 189, 3) := by decide +kernel
theorem dX11_reducesSide_10 : decode cX11_reducesSide 10 = .ok (.bipush 60, 2) := by decide +kernel
theorem dX11_reducesSide_12 : decode cX11_reducesSide 12 = .ok (.iconst 2, 1) := by decide +kernel
theorem dX11_reducesSide_13 : decode cX11_reducesSide 13 = .ok (.iload_n 1, 1) := by decide +kernel
theorem dX11_reducesSide_14 : decode cX11_reducesSide 14 = .ok (.imul, 1) := by decide +kernel
theorem dX11_reducesSide_15 : decode cX11_reducesSide 15 = .ok (.iload_n 2, 1) := by decide +kernel
theorem dX11_reducesSide_16 : decode cX11_reducesSide 16 = .ok (.iadd, 1) := by decide +kernel
theorem dX11_reducesSide_17 : decode cX11_reducesSide 17 = .ok (.imul, 1) := by decide +kernel
theorem dX11_reducesSide_18 : decode cX11_reducesSide 18 = .ok (.aload_n 0, 1) := by decide +kernel
theorem dX11_reducesSide_19 : decode cX11_reducesSide 19 = .ok (.getfield 192, 3) := by decide +kernel
theorem dX11_reducesSide_22 : decode cX11_reducesSide 22 = .ok (.iconst 2, 1) := by decide +kernel
theorem dX11_reducesSide_23 : decode cX11_reducesSide 23 = .ok (.iload_n 1, 1) := by decide +kernel
theorem dX11_reducesSide_24 : decode cX11_reducesSide 24 = .ok (.imul, 1) := by decide +kernel
theorem dX11_reducesSide_25 : decode cX11_reducesSide 25 = .ok (.iload_n 2, 1) := by decide +kernel
theorem dX11_reducesSide_26 : decode cX11_reducesSide 26 = .ok (.iadd, 1) := by decide +kernel
theorem dX11_reducesSide_27 : decode cX11_reducesSide 27 = .ok (.iaload, 1) := by decide +kernel
theorem dX11_reducesSide_28 : decode cX11_reducesSide 28 = .ok (.invokevirtual 683, 3) := by decide +kernel
theorem dX11_reducesSide_31 : decode cX11_reducesSide 31 = .ok (.ifCond .eq 15, 3) := by decide +kernel
theorem dX11_reducesSide_34 : decode cX11_reducesSide 34 = .ok (.aload_n 0, 1) := by decide +kernel
theorem dX11_reducesSide_35 : decode cX11_reducesSide 35 = .ok (.iconst 0, 1) := by decide +kernel
theorem dX11_reducesSide_36 : decode cX11_reducesSide 36 = .ok (.invokevirtual 654, 3) := by decide +kernel
theorem dX11_reducesSide_39 : decode cX11_reducesSide 39 = .ok (.ifCond .ne 7, 3) := by decide +kernel
theorem dX11_reducesSide_42 : decode cX11_reducesSide 42 = .ok (.iconst 1, 1) := by decide +kernel
theorem dX11_reducesSide_43 : decode cX11_reducesSide 43 = .ok (.goto 4, 3) := by decide +kernel
theorem dX11_reducesSide_46 : decode cX11_reducesSide 46 = .ok (.iconst 0, 1) := by decide +kernel
theorem dX11_reducesSide_47 : decode cX11_reducesSide 47 = .ok (.ireturn, 1) := by decide +kernel
set_option maxRecDepth 10000 in
set_option maxHeartbeats 4000000 in
theorem A_X11_reducesSide_e {Z : az_Z} {d : Nat} (C : az_C Z yX11_reducesSide cX11_reducesSide 3 (some .boolean) d) (hD : 416 ≤ d) (n : Nat) {σ : az_Hp} {v0 v1 v2 : Int} {r : (Int × az_Hp)} (h : fz_X11_reducesSide n σ v0 v1 v2 = some r) : az_AW Z 3 0 [(13, v0), (0, v1), (0, v2)] [] σ (some (0, r.1), r.2) := by
  have hd1 : 1 ≤ d := by omega
  unfold fz_X11_reducesSide at h
  refine az_al0 (pc := 0) C rfl rfl dX11_reducesSide_0 ?_
  refine az_ik1 (pc := 1) C dX11_reducesSide_1 ?_
  refine az_putZc (pc := 2) C (by decide) fl_X11_586 (Or.inl rfl) rfl dX11_reducesSide_2 ?_
  refine az_al0 (pc := 5) C rfl rfl dX11_reducesSide_5 ?_
  refine az_al0 (pc := 6) C rfl rfl dX11_reducesSide_6 ?_
  refine az_getR (pc := 7) (c2 := 13) C h fl_X11_189 rfl rfl dX11_reducesSide_7 (fun h => ?_)
  refine az_bk60 (pc := 10) C dX11_reducesSide_10 ?_
  refine az_ik2 (pc := 12) C dX11_reducesSide_12 ?_
  refine az_il1 (pc := 13) C dX11_reducesSide_13 ?_
  refine az_imul (pc := 14) C dX11_reducesSide_14 ?_
  refine az_il2 (pc := 15) C dX11_reducesSide_15 ?_
  refine az_iadd (pc := 16) C dX11_reducesSide_16 ?_
  refine az_imul (pc := 17) C dX11_reducesSide_17 ?_
  refine az_al0 (pc := 18) C rfl rfl dX11_reducesSide_18 ?_
  refine az_getR (pc := 19) (c2 := 13) C h fl_X11_192 rfl rfl dX11_reducesSide_19 (fun h => ?_)
  refine az_ik2 (pc := 22) C dX11_reducesSide_22 ?_
  refine az_il1 (pc := 23) C dX11_reducesSide_23 ?_
  refine az_imul (pc := 24) C dX11_reducesSide_24 ?_
  refine az_il2 (pc := 25) C dX11_reducesSide_25 ?_
  refine az_iadd (pc := 26) C dX11_reducesSide_26 ?_
  refine az_iaload (pc := 27) C h dX11_reducesSide_27 (fun h => ?_)
  refine az_cV3ii (pc := 28) (c := 11) C hd1 h mv_X11_expands ml_X11_683 rfl (fun x hx => A_X11_expands (by omega) n hx) dX11_reducesSide_28 (fun r4 h => ?_)
  refine az_if_eq (pc := 31) (tgt := 46) C h dX11_reducesSide_31 (by decide) (fun _ h => ?_) (fun _ h => ?_)
  · refine az_ik0 (pc := 46) C dX11_reducesSide_46 ?_
    obtain rfl := Option.some.inj h
    exact az_zreturn (pc := 47) C (by decide) dX11_reducesSide_47 rfl
  refine az_al0 (pc := 34) C rfl rfl dX11_reducesSide_34 ?_
  refine az_ik0 (pc := 35) C dX11_reducesSide_35 ?_
  refine az_cV1ii (pc := 36) (c := 11) C hd1 h mv_X11_reduces ml_X11_654 rfl (fun x hx => A_X11_reduces (by omega) n hx) dX11_reducesSide_36 (fun r5 h => ?_)
  refine az_if_ne (pc := 39) (tgt := 46) C h dX11_reducesSide_39 (by decide) (fun _ h => ?_) (fun _ h => ?_)
  · refine az_ik0 (pc := 46) C dX11_reducesSide_46 ?_
    obtain rfl := Option.some.inj h
    exact az_zreturn (pc := 47) C (by decide) dX11_reducesSide_47 rfl
  refine az_ik1 (pc := 42) C dX11_reducesSide_42 ?_
  refine az_goto (pc := 43) (tgt := 47) C dX11_reducesSide_43 (by decide) ?_
  obtain rfl := Option.some.inj h
  exact az_zreturn (pc := 47) C (by decide) dX11_reducesSide_47 rfl
set_option maxRecDepth 10000 in
set_option maxHeartbeats 4000000 in
theorem A_X11_reducesSide {l : Launch} {d : Nat} (hD : 416 ≤ d) (n : Nat) {σ : az_Hp} {v0 v1 v2 : Int} {r : (Int × az_Hp)} (h : fz_X11_reducesSide n σ v0 v1 v2 = some r) : az_AC l yX11_reducesSide cX11_reducesSide 3 (some .boolean) d [(13, v0), (0, v1), (0, v2)] σ (some (0, r.1), r.2) := az_AC.of mt_X11_reducesSide rfl rfl rfl (fun Z hZ C => A_X11_reducesSide_e C hD n h)
theorem dX11_length_0 : decode cX11_length 0 = .ok (.iconst 0, 1) := by decide +kernel
theorem dX11_length_1 : decode cX11_length 1 = .ok (.istore_n 1, 1) := by decide +kernel
theorem dX11_length_2 : decode cX11_length 2 = .ok (.iconst 0, 1) := by decide +kernel
theorem dX11_length_3 : decode cX11_length 3 = .ok (.istore_n 2, 1) := by decide +kernel
theorem dX11_length_4 : decode cX11_length 4 = .ok (.iload_n 2, 1) := by decide +kernel
theorem dX11_length_5 : decode cX11_length 5 = .ok (.aload_n 0, 1) := by decide +kernel
theorem dX11_length_6 : decode cX11_length 6 = .ok (.getfield 676, 3) := by decide +kernel
theorem dX11_length_9 : decode cX11_length 9 = .ok (.if_icmp .ge 26, 3) := by decide +kernel
theorem dX11_length_12 : decode cX11_length 12 = .ok (.iload_n 1, 1) := by decide +kernel
theorem dX11_length_13 : decode cX11_length 13 = .ok (.aload_n 0, 1) := by decide +kernel
theorem dX11_length_14 : decode cX11_length 14 = .ok (.getfield 204, 3) := by decide +kernel
theorem dX11_length_17 : decode cX11_length 17 = .ok (.iload_n 2, 1) := by decide +kernel
theorem dX11_length_18 : decode cX11_length 18 = .ok (.baload, 1) := by decide +kernel
theorem dX11_length_19 : decode cX11_length 19 = .ok (.ifCond .eq 7, 3) := by decide +kernel
theorem dX11_length_22 : decode cX11_length 22 = .ok (.iconst 0, 1) := by decide +kernel
theorem dX11_length_23 : decode cX11_length 23 = .ok (.goto 4, 3) := by decide +kernel
theorem dX11_length_26 : decode cX11_length 26 = .ok (.iconst 1, 1) := by decide +kernel
theorem dX11_length_27 : decode cX11_length 27 = .ok (.iadd, 1) := by decide +kernel
theorem dX11_length_28 : decode cX11_length 28 = .ok (.istore_n 1, 1) := by decide +kernel
theorem dX11_length_29 : decode cX11_length 29 = .ok (.iinc 2 1, 3) := by decide +kernel
theorem dX11_length_32 : decode cX11_length 32 = .ok (.goto (-28), 3) := by decide +kernel
theorem dX11_length_35 : decode cX11_length 35 = .ok (.iload_n 1, 1) := by decide +kernel
theorem dX11_length_36 : decode cX11_length 36 = .ok (.ireturn, 1) := by decide +kernel
set_option maxRecDepth 10000 in
set_option maxHeartbeats 4000000 in
theorem A_X11_length_4 {Z : az_Z} {d : Nat} (C : az_C Z yX11_length cX11_length 3 (some .int) d) (hD : 1 ≤ d) (n : Nat) (k : Nat) : ∀ {σ : az_Hp} {v0 v1 v2 : Int} {r : Int}, fz_X11_length_4 n k σ v0 v1 v2 = some r → az_AW Z 3 4 [(13, v0), (0, v1), (0, v2)] [] σ (some (0, r), σ) := by
  have hd1 : 1 ≤ d := by omega
  induction k with
  | zero => intro σ v0 v1 v2 r h; simp [fz_X11_length_4] at h
  | succ k ih =>
    intro σ v0 v1 v2 r h
    unfold fz_X11_length_4 at h
    refine az_il2 (pc := 4) C dX11_length_4 ?_
    refine az_al0 (pc := 5) C rfl rfl dX11_length_5 ?_
    refine az_getI (pc := 6) C fl_X11_676 rfl dX11_length_6 ?_
    refine az_icmp_ge (pc := 9) (tgt := 35) C h dX11_length_9 (by decide) (fun _ h => ?_) (fun _ h => ?_)
    · refine az_il1 (pc := 35) C dX11_length_35 ?_
      obtain rfl := Option.some.inj h
      exact az_ireturn (pc := 36) C dX11_length_36 rfl
    refine az_il1 (pc := 12) C dX11_length_12 ?_
    refine az_al0 (pc := 13) C rfl rfl dX11_length_13 ?_
    refine az_getR (pc := 14) (c2 := 15) C h fl_X11_204 rfl rfl dX11_length_14 (fun h => ?_)
    refine az_il2 (pc := 17) C dX11_length_17 ?_
    refine az_zaload (pc := 18) C h dX11_length_18 (fun h => ?_)
    refine az_if_eq (pc := 19) (tgt := 26) C h dX11_length_19 (by decide) (fun _ h => ?_) (fun _ h => ?_)
    · refine az_ik1 (pc := 26) C dX11_length_26 ?_
      refine az_iadd (pc := 27) C dX11_length_27 ?_
      refine az_is1 (pc := 28) C rfl rfl dX11_length_28 ?_
      refine az_ii2 (pc := 29) C az_n1 rfl rfl dX11_length_29 ?_
      refine az_goto (pc := 32) (tgt := 4) C dX11_length_32 (by decide) ?_
      exact (ih h)
    refine az_ik0 (pc := 22) C dX11_length_22 ?_
    refine az_goto (pc := 23) (tgt := 27) C dX11_length_23 (by decide) ?_
    refine az_iadd (pc := 27) C dX11_length_27 ?_
    refine az_is1 (pc := 28) C rfl rfl dX11_length_28 ?_
    refine az_ii2 (pc := 29) C az_n1 rfl rfl dX11_length_29 ?_
    refine az_goto (pc := 32) (tgt := 4) C dX11_length_32 (by decide) ?_
    exact (ih h)
set_option maxRecDepth 10000 in
set_option maxHeartbeats 4000000 in
theorem A_X11_length_e {Z : az_Z} {d : Nat} (C : az_C Z yX11_length cX11_length 3 (some .int) d) (hD : 1 ≤ d) (n : Nat) {σ : az_Hp} {v0 : Int} {r : Int} (h : fz_X11_length n σ v0 = some r) : az_AW Z 3 0 [(13, v0), (31, 0), (31, 0)] [] σ (some (0, r), σ) := by
  have hd1 : 1 ≤ d := by omega
  unfold fz_X11_length at h
  refine az_ik0 (pc := 0) C dX11_length_0 ?_
  refine az_is1 (pc := 1) C rfl rfl dX11_length_1 ?_
  refine az_ik0 (pc := 2) C dX11_length_2 ?_
  refine az_is2 (pc := 3) C rfl rfl dX11_length_3 ?_
  exact (A_X11_length_4 C hD n n h)
set_option maxRecDepth 10000 in
set_option maxHeartbeats 4000000 in
theorem A_X11_length {l : Launch} {d : Nat} (hD : 1 ≤ d) (n : Nat) {σ : az_Hp} {v0 : Int} {r : Int} (h : fz_X11_length n σ v0 = some r) : az_AC l yX11_length cX11_length 3 (some .int) d [(13, v0)] σ (some (0, r), σ) := az_AC.of mt_X11_length rfl rfl rfl (fun Z hZ C => A_X11_length_e C hD n h)
theorem dX11_putsSide_0 : decode cX11_putsSide 0 = .ok (.aload_n 0, 1) := by decide +kernel
theorem dX11_putsSide_1 : decode cX11_putsSide 1 = .ok (.getfield 192, 3) := by decide +kernel
theorem dX11_putsSide_4 : decode cX11_putsSide 4 = .ok (.iconst 2, 1) := by decide +kernel
theorem dX11_putsSide_5 : decode cX11_putsSide 5 = .ok (.iload_n 1, 1) := by decide +kernel
theorem dX11_putsSide_6 : decode cX11_putsSide 6 = .ok (.imul, 1) := by decide +kernel
theorem dX11_putsSide_7 : decode cX11_putsSide 7 = .ok (.iload_n 2, 1) := by decide +kernel
theorem dX11_putsSide_8 : decode cX11_putsSide 8 = .ok (.iadd, 1) := by decide +kernel
theorem dX11_putsSide_9 : decode cX11_putsSide 9 = .ok (.iload 5, 2) := by decide +kernel
theorem dX11_putsSide_11 : decode cX11_putsSide 11 = .ok (.iastore, 1) := by decide +kernel
theorem dX11_putsSide_12 : decode cX11_putsSide 12 = .ok (.iconst 0, 1) := by decide +kernel
theorem dX11_putsSide_13 : decode cX11_putsSide 13 = .ok (.istore 6, 2) := by decide +kernel
theorem dX11_putsSide_15 : decode cX11_putsSide 15 = .ok (.iload 6, 2) := by decide +kernel
theorem dX11_putsSide_17 : decode cX11_putsSide 17 = .ok (.iload 5, 2) := by decide +kernel
theorem dX11_putsSide_19 : decode cX11_putsSide 19 = .ok (.if_icmp .ge 32, 3) := by decide +kernel
theorem dX11_putsSide_22 : decode cX11_putsSide 22 = .ok (.aload_n 0, 1) := by decide +kernel
theorem dX11_putsSide_23 : decode cX11_putsSide 23 = .ok (.getfield 189, 3) := by decide +kernel
theorem dX11_putsSide_26 : decode cX11_putsSide 26 = .ok (.bipush 60, 2) := by decide +kernel
theorem dX11_putsSide_28 : decode cX11_putsSide 28 = .ok (.iconst 2, 1) := by decide +kernel
theorem dX11_putsSide_29 : decode cX11_putsSide 29 = .ok (.iload_n 1, 1) := by decide +kernel
theorem dX11_putsSide_30 : decode cX11_putsSide 30 = .ok (.imul, 1) := by decide +kernel
theorem dX11_putsSide_31 : decode cX11_putsSide 31 = .ok (.iload_n 2, 1) := by decide +kernel
theorem dX11_putsSide_32 : decode cX11_putsSide 32 = .ok (.iadd, 1) := by decide +kernel
theorem dX11_putsSide_33 : decode cX11_putsSide 33 = .ok (.imul, 1) := by decide +kernel
theorem dX11_putsSide_34 : decode cX11_putsSide 34 = .ok (.iload 6, 2) := by decide +kernel
theorem dX11_putsSide_36 : decode cX11_putsSide 36 = .ok (.iadd, 1) := by decide +kernel
theorem dX11_putsSide_37 : decode cX11_putsSide 37 = .ok (.aload_n 3, 1) := by decide +kernel
theorem dX11_putsSide_38 : decode cX11_putsSide 38 = .ok (.iload 4, 2) := by decide +kernel
theorem dX11_putsSide_40 : decode cX11_putsSide 40 = .ok (.iload 6, 2) := by decide +kernel
theorem dX11_putsSide_42 : decode cX11_putsSide 42 = .ok (.iadd, 1) := by decide +kernel
theorem dX11_putsSide_43 : decode cX11_putsSide 43 = .ok (.iaload, 1) := by decide +kernel
theorem dX11_putsSide_44 : decode cX11_putsSide 44 = .ok (.iastore, 1) := by decide +kernel
theorem dX11_putsSide_45 : decode cX11_putsSide 45 = .ok (.iinc 6 1, 3) := by decide +kernel
theorem dX11_putsSide_48 : decode cX11_putsSide 48 = .ok (.goto (-33), 3) := by decide +kernel
theorem dX11_putsSide_51 : decode cX11_putsSide 51 = .ok (.return_, 1) := by decide +kernel
set_option maxRecDepth 10000 in
set_option maxHeartbeats 4000000 in
theorem A_X11_putsSide_15 {Z : az_Z} {d : Nat} (C : az_C Z yX11_putsSide cX11_putsSide 7 none d) (hD : 1 ≤ d) (n : Nat) (k : Nat) : ∀ {σ : az_Hp} {v0 v1 v2 v3 v4 v5 v6 : Int} {r : az_Hp}, fz_X11_putsSide_15 n k σ v0 v1 v2 v3 v4 v5 v6 = some r → az_AW Z 7 15 [(13, v0), (0, v1), (0, v2), (15, v3), (0, v4), (0, v5), (0, v6)] [] σ (none, r) := by
  have hd1 : 1 ≤ d := by omega
  induction k with
  | zero => intro σ v0 v1 v2 v3 v4 v5 v6 r h; simp [fz_X11_putsSide_15] at h
  | succ k ih =>
    intro σ v0 v1 v2 v3 v4 v5 v6 r h
    unfold fz_X11_putsSide_15 at h
    refine az_il6 (pc := 15) C dX11_putsSide_15 ?_
    refine az_il5 (pc := 17) C dX11_putsSide_17 ?_
    refine az_icmp_ge (pc := 19) (tgt := 51) C h dX11_putsSide_19 (by decide) (fun _ h => ?_) (fun _ h => ?_)
    · obtain rfl := Option.some.inj h
      exact az_return (pc := 51) C dX11_putsSide_51 rfl
    refine az_al0 (pc := 22) C rfl rfl dX11_putsSide_22 ?_
    refine az_getR (pc := 23) (c2 := 13) C h fl_X11_189 rfl rfl dX11_putsSide_23 (fun h => ?_)
    refine az_bk60 (pc := 26) C dX11_putsSide_26 ?_
    refine az_ik2 (pc := 28) C dX11_putsSide_28 ?_
    refine az_il1 (pc := 29) C dX11_putsSide_29 ?_
    refine az_imul (pc := 30) C dX11_putsSide_30 ?_
    refine az_il2 (pc := 31) C dX11_putsSide_31 ?_
    refine az_iadd (pc := 32) C dX11_putsSide_32 ?_
    refine az_imul (pc := 33) C dX11_putsSide_33 ?_
    refine az_il6 (pc := 34) C dX11_putsSide_34 ?_
    refine az_iadd (pc := 36) C dX11_putsSide_36 ?_
    refine az_al3 (pc := 37) C rfl rfl dX11_putsSide_37 ?_
    refine az_il4 (pc := 38) C dX11_putsSide_38 ?_
    refine az_il6 (pc := 40) C dX11_putsSide_40 ?_
    refine az_iadd (pc := 42) C dX11_putsSide_42 ?_
    refine az_iaload (pc := 43) C h dX11_putsSide_43 (fun h => ?_)
    refine az_iastore (pc := 44) C h dX11_putsSide_44 (fun h => ?_)
    refine az_ii6 (pc := 45) C az_n1 rfl rfl dX11_putsSide_45 ?_
    refine az_goto (pc := 48) (tgt := 15) C dX11_putsSide_48 (by decide) ?_
    exact (ih h)
set_option maxRecDepth 10000 in
set_option maxHeartbeats 4000000 in
theorem A_X11_putsSide_e {Z : az_Z} {d : Nat} (C : az_C Z yX11_putsSide cX11_putsSide 7 none d) (hD : 1 ≤ d) (n : Nat) {σ : az_Hp} {v0 v1 v2 v3 v4 v5 : Int} {r : az_Hp} (h : fz_X11_putsSide n σ v0 v1 v2 v3 v4 v5 = some r) : az_AW Z 7 0 [(13, v0), (0, v1), (0, v2), (15, v3), (0, v4), (0, v5), (31, 0)] [] σ (none, r) := by
  have hd1 : 1 ≤ d := by omega
  unfold fz_X11_putsSide at h
  refine az_al0 (pc := 0) C rfl rfl dX11_putsSide_0 ?_
  refine az_getR (pc := 1) (c2 := 13) C h fl_X11_192 rfl rfl dX11_putsSide_1 (fun h => ?_)
  refine az_ik2 (pc := 4) C dX11_putsSide_4 ?_
  refine az_il1 (pc := 5) C dX11_putsSide_5 ?_
  refine az_imul (pc := 6) C dX11_putsSide_6 ?_
  refine az_il2 (pc := 7) C dX11_putsSide_7 ?_
  refine az_iadd (pc := 8) C dX11_putsSide_8 ?_
  refine az_il5 (pc := 9) C dX11_putsSide_9 ?_
  refine az_iastore (pc := 11) C h dX11_putsSide_11 (fun h => ?_)
  refine az_ik0 (pc := 12) C dX11_putsSide_12 ?_
  refine az_is6 (pc := 13) C rfl rfl dX11_putsSide_13 ?_
  exact (A_X11_putsSide_15 C hD n n h)
set_option maxRecDepth 10000 in
set_option maxHeartbeats 4000000 in
theorem A_X11_putsSide {l : Launch} {d : Nat} (hD : 1 ≤ d) (n : Nat) {σ : az_Hp} {v0 v1 v2 v3 v4 v5 : Int} {r : az_Hp} (h : fz_X11_putsSide n σ v0 v1 v2 v3 v4 v5 = some r) : az_AC l yX11_putsSide cX11_putsSide 7 none d [(13, v0), (0, v1), (0, v2), (15, v3), (0, v4), (0, v5)] σ (none, r) := az_AC.of mt_X11_putsSide rfl rfl rfl (fun Z hZ C => A_X11_putsSide_e C hD n h)
theorem dX11_splits_0 : decode cX11_splits 0 = .ok (.iconst 1, 1) := by decide +kernel
theorem dX11_splits_1 : decode cX11_splits 1 = .ok (.istore_n 2, 1) := by decide +kernel
theorem dX11_splits_2 : decode cX11_splits 2 = .ok (.iconst 1, 1) := by decide +kernel
theorem dX11_splits_3 : decode cX11_splits 3 = .ok (.istore_n 3, 1) := by decide +kernel
theorem dX11_splits_4 : decode cX11_splits 4 = .ok (.iconst 0, 1) := by decide +kernel
theorem dX11_splits_5 : decode cX11_splits 5 = .ok (.istore 4, 2) := by decide +kernel
theorem dX11_splits_7 : decode cX11_splits 7 = .ok (.iload 4, 2) := by decide +kernel
theorem dX11_splits_9 : decode cX11_splits 9 = .ok (.aload_n 0, 1) := by decide +kernel
theorem dX11_splits_10 : decode cX11_splits 10 = .ok (.aload_n 0, 1) := by decide +kernel
theorem dX11_splits_11 : decode cX11_splits 11 = .ok (.getfield 207, 3) := by decide +kernel
theorem dX11_splits_14 : decode cX11_splits 14 = .ok (.iconst 0, 1) := by decide +kernel
theorem dX11_splits_15 : decode cX11_splits 15 = .ok (.iaload, 1) := by decide +kernel
theorem dX11_splits_16 : decode cX11_splits 16 = .ok (.invokevirtual 336, 3) := by decide +kernel
theorem dX11_splits_19 : decode cX11_splits 19 = .ok (.if_icmp .ge 119, 3) := by decide +kernel
theorem dX11_splits_22 : decode cX11_splits 22 = .ok (.aload_n 0, 1) := by decide +kernel
theorem dX11_splits_23 : decode cX11_splits 23 = .ok (.invokevirtual 692, 3) := by decide +kernel
theorem dX11_splits_26 : decode cX11_splits 26 = .ok (.bipush 100, 2) := by decide +kernel
theorem dX11_splits_28 : decode cX11_splits 28 = .ok (.if_icmp .ne 5, 3) := by decide +kernel
theorem dX11_splits_31 : decode cX11_splits 31 = .ok (.iconst 3, 1) := by decide +kernel
theorem dX11_splits_32 : decode cX11_splits 32 = .ok (.ireturn, 1) := by decide +kernel
theorem dX11_splits_33 : decode cX11_splits 33 = .ok (.aload_n 0, 1) := by decide +kernel
theorem dX11_splits_34 : decode cX11_splits 34 = .ok (.aload_n 0, 1) := by decide +kernel
theorem dX11_splits_35 : decode cX11_splits 35 = .ok (.getfield 207, 3) := by decide +kernel
theorem dX11_splits_38 : decode cX11_splits 38 = .ok (.iload_n 2, 1) := by decide +kernel
theorem dX11_splits_39 : decode cX11_splits 39 = .ok (.invokevirtual 416, 3) := by decide +kernel
theorem dX11_splits_42 : decode cX11_splits 42 = .ok (.istore 5, 2) := by decide +kernel
theorem dX11_splits_44 : decode cX11_splits 44 = .ok (.aload_n 0, 1) := by decide +kernel
theorem dX11_splits_45 : decode cX11_splits 45 = .ok (.aload_n 0, 1) := by decide +kernel
theorem dX11_splits_46 : decode cX11_splits 46 = .ok (.getfield 210, 3) := by decide +kernel
theorem dX11_splits_49 : decode cX11_splits 49 = .ok (.iload_n 3, 1) := by decide +kernel
theorem dX11_splits_50 : decode cX11_splits 50 = .ok (.invokevirtual 416, 3) := by decide +kernel
theorem dX11_splits_53 : decode cX11_splits 53 = .ok (.istore 6, 2) := by decide +kernel
theorem dX11_splits_55 : decode cX11_splits 55 = .ok (.aload_n 0, 1) := by decide +kernel
theorem dX11_splits_56 : decode cX11_splits 56 = .ok (.aload_n 0, 1) := by decide +kernel
theorem dX11_splits_57 : decode cX11_splits 57 = .ok (.getfield 676, 3) := by decide +kernel
theorem dX11_splits_60 : decode cX11_splits 60 = .ok (.iconst 0, 1) := by decide +kernel
theorem dX11_splits_61 : decode cX11_splits 61 = .ok (.aload_n 0, 1) := by decide +kernel
theorem dX11_splits_62 : decode cX11_splits 62 = .ok (.getfield 207, 3) := by decide +kernel
theorem dX11_splits_65 : decode cX11_splits 65 = .ok (.iload_n 2, 1) := by decide +kernel
theorem dX11_splits_66 : decode cX11_splits 66 = .ok (.iload 5, 2) := by decide +kernel
theorem dX11_splits_68 : decode cX11_splits 68 = .ok (.invokevirtual 695, 3) := by decide +kernel
theorem dX11_splits_71 : decode cX11_splits 71 = .ok (.aload_n 0, 1) := by decide +kernel
theorem dX11_splits_72 : decode cX11_splits 72 = .ok (.aload_n 0, 1) := by decide +kernel
theorem dX11_splits_73 : decode cX11_splits 73 = .ok (.getfield 676, 3) := by decide +kernel
theorem dX11_splits_76 : decode cX11_splits 76 = .ok (.iconst 1, 1) := by decide +kernel
theorem dX11_splits_77 : decode cX11_splits 77 = .ok (.aload_n 0, 1) := by decide +kernel
theorem dX11_splits_78 : decode cX11_splits 78 = .ok (.getfield 210, 3) := by decide +kernel
theorem dX11_splits_81 : decode cX11_splits 81 = .ok (.iload_n 3, 1) := by decide +kernel
theorem dX11_splits_82 : decode cX11_splits 82 = .ok (.iload 6, 2) := by decide +kernel
theorem dX11_splits_84 : decode cX11_splits 84 = .ok (.invokevirtual 695, 3) := by decide +kernel
theorem dX11_splits_87 : decode cX11_splits 87 = .ok (.aload_n 0, 1) := by decide +kernel
theorem dX11_splits_88 : decode cX11_splits 88 = .ok (.getfield 195, 3) := by decide +kernel
theorem dX11_splits_91 : decode cX11_splits 91 = .ok (.aload_n 0, 1) := by decide +kernel
theorem dX11_splits_92 : decode cX11_splits 92 = .ok (.getfield 676, 3) := by decide +kernel
theorem dX11_splits_95 : decode cX11_splits 95 = .ok (.aload_n 0, 1) := by decide +kernel
theorem dX11_splits_96 : decode cX11_splits 96 = .ok (.getfield 195, 3) := by decide +kernel
theorem dX11_splits_99 : decode cX11_splits 99 = .ok (.iload_n 1, 1) := by decide +kernel
theorem dX11_splits_100 : decode cX11_splits 100 = .ok (.iaload, 1) := by decide +kernel
theorem dX11_splits_101 : decode cX11_splits 101 = .ok (.iastore, 1) := by decide +kernel
theorem dX11_splits_102 : decode cX11_splits 102 = .ok (.aload_n 0, 1) := by decide +kernel
theorem dX11_splits_103 : decode cX11_splits 103 = .ok (.getfield 204, 3) := by decide +kernel
theorem dX11_splits_106 : decode cX11_splits 106 = .ok (.aload_n 0, 1) := by decide +kernel
theorem dX11_splits_107 : decode cX11_splits 107 = .ok (.getfield 676, 3) := by decide +kernel
theorem dX11_splits_110 : decode cX11_splits 110 = .ok (.iconst 0, 1) := by decide +kernel
theorem dX11_splits_111 : decode cX11_splits 111 = .ok (.bastore, 1) := by decide +kernel
theorem dX11_splits_112 : decode cX11_splits 112 = .ok (.aload_n 0, 1) := by decide +kernel
theorem dX11_splits_113 : decode cX11_splits 113 = .ok (.dup, 1) := by decide +kernel
theorem dX11_splits_114 : decode cX11_splits 114 = .ok (.getfield 676, 3) := by decide +kernel
theorem dX11_splits_117 : decode cX11_splits 117 = .ok (.iconst 1, 1) := by decide +kernel
theorem dX11_splits_118 : decode cX11_splits 118 = .ok (.iadd, 1) := by decide +kernel
theorem dX11_splits_119 : decode cX11_splits 119 = .ok (.putfield 676, 3) := by decide +kernel
theorem dX11_splits_122 : decode cX11_splits 122 = .ok (.iload_n 2, 1) := by decide +kernel
theorem dX11_splits_123 : decode cX11_splits 123 = .ok (.iload 5, 2) := by decide +kernel
theorem dX11_splits_125 : decode cX11_splits 125 = .ok (.iadd, 1) := by decide +kernel
theorem dX11_splits_126 : decode cX11_splits 126 = .ok (.istore_n 2, 1) := by decide +kernel
theorem dX11_splits_127 : decode cX11_splits 127 = .ok (.iload_n 3, 1) := by decide +kernel
theorem dX11_splits_128 : decode cX11_splits 128 = .ok (.iload 6, 2) := by decide +kernel
theorem dX11_splits_130 : decode cX11_splits 130 = .ok (.iadd, 1) := by decide +kernel
theorem dX11_splits_131 : decode cX11_splits 131 = .ok (.istore_n 3, 1) := by decide +kernel
theorem dX11_splits_132 : decode cX11_splits 132 = .ok (.iinc 4 1, 3) := by decide +kernel
theorem dX11_splits_135 : decode cX11_splits 135 = .ok (.goto (-128), 3) := by decide +kernel
theorem dX11_splits_138 : decode cX11_splits 138 = .ok (.iconst 0, 1) := by decide +kernel
theorem dX11_splits_139 : decode cX11_splits 139 = .ok (.ireturn, 1) := by decide +kernel
set_option maxRecDepth 10000 in
set_option maxHeartbeats 4000000 in
theorem A_X11_splits_7 {Z : az_Z} {d : Nat} (C : az_C Z yX11_splits cX11_splits 7 (some .int) d) (hD : 4 ≤ d) (n : Nat) (k : Nat) : ∀ {σ : az_Hp} {v0 v1 v2 v3 v4 : Int} {r : (Int × az_Hp)}, fz_X11_splits_7 n k σ v0 v1 v2 v3 v4 = some r → az_AW Z 7 7 [(13, v0), (0, v1), (0, v2), (0, v3), (0, v4), (31, 0), (31, 0)] [] σ (some (0, r.1), r.2) := by
  have hd1 : 1 ≤ d := by omega
  induction k with
  | zero => intro σ v0 v1 v2 v3 v4 r h; simp [fz_X11_splits_7] at h
  | succ k ih =>
    intro σ v0 v1 v2 v3 v4 r h
    unfold fz_X11_splits_7 at h
    refine az_il4 (pc := 7) C dX11_splits_7 ?_
    refine az_al0 (pc := 9) C rfl rfl dX11_splits_9 ?_
    refine az_al0 (pc := 10) C rfl rfl dX11_splits_10 ?_
    refine az_getR (pc := 11) (c2 := 13) C h fl_X11_207 rfl rfl dX11_splits_11 (fun h => ?_)
    refine az_ik0 (pc := 14) C dX11_splits_14 ?_
    refine az_iaload (pc := 15) C h dX11_splits_15 (fun h => ?_)
    refine az_cV1pi (pc := 16) (c := 11) C hd1 h mv_X11_takes ml_X11_336 rfl (fun x hx => A_X11_takes (by omega) hx) dX11_splits_16 (fun r3 h => ?_)
    refine az_icmp_ge (pc := 19) (tgt := 138) C h dX11_splits_19 (by decide) (fun _ h => ?_) (fun _ h => ?_)
    · refine az_ik0 (pc := 138) C dX11_splits_138 ?_
      obtain rfl := Option.some.inj h
      exact az_ireturn (pc := 139) C dX11_splits_139 rfl
    refine az_al0 (pc := 22) C rfl rfl dX11_splits_22 ?_
    refine az_cV0pi (pc := 23) (c := 11) C hd1 h mv_X11_length ml_X11_692 rfl (fun x hx => A_X11_length (by omega) n hx) dX11_splits_23 (fun r4 h => ?_)
    refine az_bk100 (pc := 26) C dX11_splits_26 ?_
    refine az_icmp_ne (pc := 28) (tgt := 33) C h dX11_splits_28 (by decide) (fun _ h => ?_) (fun _ h => ?_)
    · refine az_al0 (pc := 33) C rfl rfl dX11_splits_33 ?_
      refine az_al0 (pc := 34) C rfl rfl dX11_splits_34 ?_
      refine az_getR (pc := 35) (c2 := 13) C h fl_X11_207 rfl rfl dX11_splits_35 (fun h => ?_)
      refine az_il2 (pc := 38) C dX11_splits_38 ?_
      refine az_cV2pi (pc := 39) (c := 11) C hd1 h mv_X11_sizeAt ml_X11_416 rfl (fun x hx => A_X11_sizeAt (by omega) n hx) dX11_splits_39 (fun r6 h => ?_)
      refine az_is5 (pc := 42) C rfl rfl dX11_splits_42 ?_
      refine az_al0 (pc := 44) C rfl rfl dX11_splits_44 ?_
      refine az_al0 (pc := 45) C rfl rfl dX11_splits_45 ?_
      refine az_getR (pc := 46) (c2 := 13) C h fl_X11_210 rfl rfl dX11_splits_46 (fun h => ?_)
      refine az_il3 (pc := 49) C dX11_splits_49 ?_
      refine az_cV2pi (pc := 50) (c := 11) C hd1 h mv_X11_sizeAt ml_X11_416 rfl (fun x hx => A_X11_sizeAt (by omega) n hx) dX11_splits_50 (fun r8 h => ?_)
      refine az_is6 (pc := 53) C rfl rfl dX11_splits_53 ?_
      refine az_al0 (pc := 55) C rfl rfl dX11_splits_55 ?_
      refine az_al0 (pc := 56) C rfl rfl dX11_splits_56 ?_
      refine az_getI (pc := 57) C fl_X11_676 rfl dX11_splits_57 ?_
      refine az_ik0 (pc := 60) C dX11_splits_60 ?_
      refine az_al0 (pc := 61) C rfl rfl dX11_splits_61 ?_
      refine az_getR (pc := 62) (c2 := 13) C h fl_X11_207 rfl rfl dX11_splits_62 (fun h => ?_)
      refine az_il2 (pc := 65) C dX11_splits_65 ?_
      refine az_il5 (pc := 66) C dX11_splits_66 ?_
      refine az_cV5v (pc := 68) (c := 11) C hd1 h mv_X11_putsSide ml_X11_695 rfl (fun x hx => A_X11_putsSide (by omega) n hx) dX11_splits_68 (fun r10 h => ?_)
      refine az_al0 (pc := 71) C rfl rfl dX11_splits_71 ?_
      refine az_al0 (pc := 72) C rfl rfl dX11_splits_72 ?_
      refine az_getI (pc := 73) C fl_X11_676 rfl dX11_splits_73 ?_
      refine az_ik1 (pc := 76) C dX11_splits_76 ?_
      refine az_al0 (pc := 77) C rfl rfl dX11_splits_77 ?_
      refine az_getR (pc := 78) (c2 := 13) C h fl_X11_210 rfl rfl dX11_splits_78 (fun h => ?_)
      refine az_il3 (pc := 81) C dX11_splits_81 ?_
      refine az_il6 (pc := 82) C dX11_splits_82 ?_
      refine az_cV5v (pc := 84) (c := 11) C hd1 h mv_X11_putsSide ml_X11_695 rfl (fun x hx => A_X11_putsSide (by omega) n hx) dX11_splits_84 (fun r12 h => ?_)
      refine az_al0 (pc := 87) C rfl rfl dX11_splits_87 ?_
      refine az_getR (pc := 88) (c2 := 13) C h fl_X11_195 rfl rfl dX11_splits_88 (fun h => ?_)
      refine az_al0 (pc := 91) C rfl rfl dX11_splits_91 ?_
      refine az_getI (pc := 92) C fl_X11_676 rfl dX11_splits_92 ?_
      refine az_al0 (pc := 95) C rfl rfl dX11_splits_95 ?_
      refine az_getR (pc := 96) (c2 := 13) C h fl_X11_195 rfl rfl dX11_splits_96 (fun h => ?_)
      refine az_il1 (pc := 99) C dX11_splits_99 ?_
      refine az_iaload (pc := 100) C h dX11_splits_100 (fun h => ?_)
      refine az_iastore (pc := 101) C h dX11_splits_101 (fun h => ?_)
      refine az_al0 (pc := 102) C rfl rfl dX11_splits_102 ?_
      refine az_getR (pc := 103) (c2 := 15) C h fl_X11_204 rfl rfl dX11_splits_103 (fun h => ?_)
      refine az_al0 (pc := 106) C rfl rfl dX11_splits_106 ?_
      refine az_getI (pc := 107) C fl_X11_676 rfl dX11_splits_107 ?_
      refine az_ik0 (pc := 110) C dX11_splits_110 ?_
      refine az_zastore (pc := 111) C h dX11_splits_111 (fun h => ?_)
      refine az_al0 (pc := 112) C rfl rfl dX11_splits_112 ?_
      refine az_dup (pc := 113) C rfl rfl dX11_splits_113 ?_
      refine az_getI (pc := 114) C fl_X11_676 rfl dX11_splits_114 ?_
      refine az_ik1 (pc := 117) C dX11_splits_117 ?_
      refine az_iadd (pc := 118) C dX11_splits_118 ?_
      refine az_putI (pc := 119) C fl_X11_676 (Or.inl rfl) rfl dX11_splits_119 ?_
      refine az_il2 (pc := 122) C dX11_splits_122 ?_
      refine az_il5 (pc := 123) C dX11_splits_123 ?_
      refine az_iadd (pc := 125) C dX11_splits_125 ?_
      refine az_is2 (pc := 126) C rfl rfl dX11_splits_126 ?_
      refine az_il3 (pc := 127) C dX11_splits_127 ?_
      refine az_il6 (pc := 128) C dX11_splits_128 ?_
      refine az_iadd (pc := 130) C dX11_splits_130 ?_
      refine az_is3 (pc := 131) C rfl rfl dX11_splits_131 ?_
      refine az_ii4 (pc := 132) C az_n1 rfl rfl dX11_splits_132 ?_
      refine az_goto (pc := 135) (tgt := 7) C dX11_splits_135 (by decide) ?_
      exact (az_wkk (ih h) (az_sE (az_sE (az_sE (az_sE (az_sE (az_sJ (az_sJ az_sN))))))))
    refine az_ik3 (pc := 31) C dX11_splits_31 ?_
    obtain rfl := Option.some.inj h
    exact az_ireturn (pc := 32) C dX11_splits_32 rfl
set_option maxRecDepth 10000 in
set_option maxHeartbeats 4000000 in
theorem A_X11_splits_e {Z : az_Z} {d : Nat} (C : az_C Z yX11_splits cX11_splits 7 (some .int) d) (hD : 4 ≤ d) (n : Nat) {σ : az_Hp} {v0 v1 : Int} {r : (Int × az_Hp)} (h : fz_X11_splits n σ v0 v1 = some r) : az_AW Z 7 0 [(13, v0), (0, v1), (31, 0), (31, 0), (31, 0), (31, 0), (31, 0)] [] σ (some (0, r.1), r.2) := by
  have hd1 : 1 ≤ d := by omega
  unfold fz_X11_splits at h
  refine az_ik1 (pc := 0) C dX11_splits_0 ?_
  refine az_is2 (pc := 1) C rfl rfl dX11_splits_1 ?_
  refine az_ik1 (pc := 2) C dX11_splits_2 ?_
  refine az_is3 (pc := 3) C rfl rfl dX11_splits_3 ?_
  refine az_ik0 (pc := 4) C dX11_splits_4 ?_
  refine az_is4 (pc := 5) C rfl rfl dX11_splits_5 ?_
  exact (A_X11_splits_7 C hD n n h)
set_option maxRecDepth 10000 in
set_option maxHeartbeats 4000000 in
theorem A_X11_splits {l : Launch} {d : Nat} (hD : 4 ≤ d) (n : Nat) {σ : az_Hp} {v0 v1 : Int} {r : (Int × az_Hp)} (h : fz_X11_splits n σ v0 v1 = some r) : az_AC l yX11_splits cX11_splits 7 (some .int) d [(13, v0), (0, v1)] σ (some (0, r.1), r.2) := az_AC.of mt_X11_splits rfl rfl rfl (fun Z hZ C => A_X11_splits_e C hD n h)
theorem dX11_hasCode_0 : decode cX11_hasCode 0 = .ok (.iconst 0, 1) := by decide +kernel
theorem dX11_hasCode_1 : decode cX11_hasCode 1 = .ok (.istore_n 3, 1) := by decide +kernel
theorem dX11_hasCode_2 : decode cX11_hasCode 2 = .ok (.iload_n 3, 1) := by decide +kernel
theorem dX11_hasCode_3 : decode cX11_hasCode 3 = .ok (.iload_n 1, 1) := by decide +kernel
theorem dX11_hasCode_4 : decode cX11_hasCode 4 = .ok (.if_icmp .ge 18, 3) := by decide +kernel
theorem dX11_hasCode_7 : decode cX11_hasCode 7 = .ok (.aload_n 0, 1) := by decide +kernel
theorem dX11_hasCode_8 : decode cX11_hasCode 8 = .ok (.iload_n 3, 1) := by decide +kernel
theorem dX11_hasCode_9 : decode cX11_hasCode 9 = .ok (.iaload, 1) := by decide +kernel
theorem dX11_hasCode_10 : decode cX11_hasCode 10 = .ok (.iload_n 2, 1) := by decide +kernel
theorem dX11_hasCode_11 : decode cX11_hasCode 11 = .ok (.if_icmp .ne 5, 3) := by decide +kernel
theorem dX11_hasCode_14 : decode cX11_hasCode 14 = .ok (.iconst 1, 1) := by decide +kernel
theorem dX11_hasCode_15 : decode cX11_hasCode 15 = .ok (.ireturn, 1) := by decide +kernel
theorem dX11_hasCode_16 : decode cX11_hasCode 16 = .ok (.iinc 3 1, 3) := by decide +kernel
theorem dX11_hasCode_19 : decode cX11_hasCode 19 = .ok (.goto (-17), 3) := by decide +kernel
theorem dX11_hasCode_22 : decode cX11_hasCode 22 = .ok (.iconst 0, 1) := by decide +kernel
theorem dX11_hasCode_23 : decode cX11_hasCode 23 = .ok (.ireturn, 1) := by decide +kernel
set_option maxRecDepth 10000 in
set_option maxHeartbeats 4000000 in
theorem A_X11_hasCode_2 {Z : az_Z} {d : Nat} (C : az_C Z yX11_hasCode cX11_hasCode 4 (some .boolean) d) (hD : 1 ≤ d) (n : Nat) (k : Nat) : ∀ {σ : az_Hp} {v0 v1 v2 v3 : Int} {r : Int}, fz_X11_hasCode_2 n k σ v0 v1 v2 v3 = some r → az_AW Z 4 2 [(15, v0), (0, v1), (0, v2), (0, v3)] [] σ (some (0, r), σ) := by
  have hd1 : 1 ≤ d := by omega
  induction k with
  | zero => intro σ v0 v1 v2 v3 r h; simp [fz_X11_hasCode_2] at h
  | succ k ih =>
    intro σ v0 v1 v2 v3 r h
    unfold fz_X11_hasCode_2 at h
    refine az_il3 (pc := 2) C dX11_hasCode_2 ?_
    refine az_il1 (pc := 3) C dX11_hasCode_3 ?_
    refine az_icmp_ge (pc := 4) (tgt := 22) C h dX11_hasCode_4 (by decide) (fun _ h => ?_) (fun _ h => ?_)
    · refine az_ik0 (pc := 22) C dX11_hasCode_22 ?_
      obtain rfl := Option.some.inj h
      exact az_zreturn (pc := 23) C (by decide) dX11_hasCode_23 rfl
    refine az_al0 (pc := 7) C rfl rfl dX11_hasCode_7 ?_
    refine az_il3 (pc := 8) C dX11_hasCode_8 ?_
    refine az_iaload (pc := 9) C h dX11_hasCode_9 (fun h => ?_)
    refine az_il2 (pc := 10) C dX11_hasCode_10 ?_
    refine az_icmp_ne (pc := 11) (tgt := 16) C h dX11_hasCode_11 (by decide) (fun _ h => ?_) (fun _ h => ?_)
    · refine az_ii3 (pc := 16) C az_n1 rfl rfl dX11_hasCode_16 ?_
      refine az_goto (pc := 19) (tgt := 2) C dX11_hasCode_19 (by decide) ?_
      exact (ih h)
    refine az_ik1 (pc := 14) C dX11_hasCode_14 ?_
    obtain rfl := Option.some.inj h
    exact az_zreturn (pc := 15) C (by decide) dX11_hasCode_15 rfl
set_option maxRecDepth 10000 in
set_option maxHeartbeats 4000000 in
theorem A_X11_hasCode_e {Z : az_Z} {d : Nat} (C : az_C Z yX11_hasCode cX11_hasCode 4 (some .boolean) d) (hD : 1 ≤ d) (n : Nat) {σ : az_Hp} {v0 v1 v2 : Int} {r : Int} (h : fz_X11_hasCode n σ v0 v1 v2 = some r) : az_AW Z 4 0 [(15, v0), (0, v1), (0, v2), (31, 0)] [] σ (some (0, r), σ) := by
  have hd1 : 1 ≤ d := by omega
  unfold fz_X11_hasCode at h
  refine az_ik0 (pc := 0) C dX11_hasCode_0 ?_
  refine az_is3 (pc := 1) C rfl rfl dX11_hasCode_1 ?_
  exact (A_X11_hasCode_2 C hD n n h)
set_option maxRecDepth 10000 in
set_option maxHeartbeats 4000000 in
theorem A_X11_hasCode {l : Launch} {d : Nat} (hD : 1 ≤ d) (n : Nat) {σ : az_Hp} {v0 v1 v2 : Int} {r : Int} (h : fz_X11_hasCode n σ v0 v1 v2 = some r) : az_AC l yX11_hasCode cX11_hasCode 4 (some .boolean) d [(15, v0), (0, v1), (0, v2)] σ (some (0, r), σ) := az_AC.of mt_X11_hasCode rfl rfl rfl (fun Z hZ C => A_X11_hasCode_e C hD n h)
theorem dX11_hasOutside_0 : decode cX11_hasOutside 0 = .ok (.iconst 0, 1) := by decide +kernel
theorem dX11_hasOutside_1 : decode cX11_hasOutside 1 = .ok (.istore 4, 2) := by decide +kernel
theorem dX11_hasOutside_3 : decode cX11_hasOutside 3 = .ok (.iload 4, 2) := by decide +kernel
theorem dX11_hasOutside_5 : decode cX11_hasOutside 5 = .ok (.iload_n 2, 1) := by decide +kernel
theorem dX11_hasOutside_6 : decode cX11_hasOutside 6 = .ok (.if_icmp .ge 42, 3) := by decide +kernel
theorem dX11_hasOutside_9 : decode cX11_hasOutside 9 = .ok (.aload_n 1, 1) := by decide +kernel
theorem dX11_hasOutside_10 : decode cX11_hasOutside 10 = .ok (.iload 4, 2) := by decide +kernel
theorem dX11_hasOutside_12 : decode cX11_hasOutside 12 = .ok (.iaload, 1) := by decide +kernel
theorem dX11_hasOutside_13 : decode cX11_hasOutside 13 = .ok (.iload_n 3, 1) := by decide +kernel
theorem dX11_hasOutside_14 : decode cX11_hasOutside 14 = .ok (.if_icmp .ne 5, 3) := by decide +kernel
theorem dX11_hasOutside_17 : decode cX11_hasOutside 17 = .ok (.iconst 1, 1) := by decide +kernel
theorem dX11_hasOutside_18 : decode cX11_hasOutside 18 = .ok (.ireturn, 1) := by decide +kernel
theorem dX11_hasOutside_19 : decode cX11_hasOutside 19 = .ok (.iload 4, 2) := by decide +kernel
theorem dX11_hasOutside_21 : decode cX11_hasOutside 21 = .ok (.aload_n 1, 1) := by decide +kernel
theorem dX11_hasOutside_22 : decode cX11_hasOutside 22 = .ok (.iload 4, 2) := by decide +kernel
theorem dX11_hasOutside_24 : decode cX11_hasOutside 24 = .ok (.iaload, 1) := by decide +kernel
theorem dX11_hasOutside_25 : decode cX11_hasOutside 25 = .ok (.invokestatic 291, 3) := by decide +kernel
theorem dX11_hasOutside_28 : decode cX11_hasOutside 28 = .ok (.ifCond .eq 13, 3) := by decide +kernel
theorem dX11_hasOutside_31 : decode cX11_hasOutside 31 = .ok (.aload_n 0, 1) := by decide +kernel
theorem dX11_hasOutside_32 : decode cX11_hasOutside 32 = .ok (.aload_n 1, 1) := by decide +kernel
theorem dX11_hasOutside_33 : decode cX11_hasOutside 33 = .ok (.iload 4, 2) := by decide +kernel
theorem dX11_hasOutside_35 : decode cX11_hasOutside 35 = .ok (.invokevirtual 416, 3) := by decide +kernel
theorem dX11_hasOutside_38 : decode cX11_hasOutside 38 = .ok (.goto 4, 3) := by decide +kernel
theorem dX11_hasOutside_41 : decode cX11_hasOutside 41 = .ok (.iconst 1, 1) := by decide +kernel
theorem dX11_hasOutside_42 : decode cX11_hasOutside 42 = .ok (.iadd, 1) := by decide +kernel
theorem dX11_hasOutside_43 : decode cX11_hasOutside 43 = .ok (.istore 4, 2) := by decide +kernel
theorem dX11_hasOutside_45 : decode cX11_hasOutside 45 = .ok (.goto (-42), 3) := by decide +kernel
theorem dX11_hasOutside_48 : decode cX11_hasOutside 48 = .ok (.iconst 0, 1) := by decide +kernel
theorem dX11_hasOutside_49 : decode cX11_hasOutside 49 = .ok (.ireturn, 1) := by decide +kernel
set_option maxRecDepth 10000 in
set_option maxHeartbeats 4000000 in
theorem A_X11_hasOutside_3 {Z : az_Z} {d : Nat} (C : az_C Z yX11_hasOutside cX11_hasOutside 5 (some .boolean) d) (hD : 4 ≤ d) (n : Nat) (k : Nat) : ∀ {σ : az_Hp} {v0 v1 v2 v3 v4 : Int} {r : Int}, fz_X11_hasOutside_3 n k σ v0 v1 v2 v3 v4 = some r → az_AW Z 5 3 [(13, v0), (15, v1), (0, v2), (0, v3), (0, v4)] [] σ (some (0, r), σ) := by
  have hd1 : 1 ≤ d := by omega
  induction k with
  | zero => intro σ v0 v1 v2 v3 v4 r h; simp [fz_X11_hasOutside_3] at h
  | succ k ih =>
    intro σ v0 v1 v2 v3 v4 r h
    unfold fz_X11_hasOutside_3 at h
    refine az_il4 (pc := 3) C dX11_hasOutside_3 ?_
    refine az_il2 (pc := 5) C dX11_hasOutside_5 ?_
    refine az_icmp_ge (pc := 6) (tgt := 48) C h dX11_hasOutside_6 (by decide) (fun _ h => ?_) (fun _ h => ?_)
    · refine az_ik0 (pc := 48) C dX11_hasOutside_48 ?_
      obtain rfl := Option.some.inj h
      exact az_zreturn (pc := 49) C (by decide) dX11_hasOutside_49 rfl
    refine az_al1 (pc := 9) C rfl rfl dX11_hasOutside_9 ?_
    refine az_il4 (pc := 10) C dX11_hasOutside_10 ?_
    refine az_iaload (pc := 12) C h dX11_hasOutside_12 (fun h => ?_)
    refine az_il3 (pc := 13) C dX11_hasOutside_13 ?_
    refine az_icmp_ne (pc := 14) (tgt := 19) C h dX11_hasOutside_14 (by decide) (fun _ h => ?_) (fun _ h => ?_)
    · refine az_il4 (pc := 19) C dX11_hasOutside_19 ?_
      refine az_al1 (pc := 21) C rfl rfl dX11_hasOutside_21 ?_
      refine az_il4 (pc := 22) C dX11_hasOutside_22 ?_
      refine az_iaload (pc := 24) C h dX11_hasOutside_24 (fun h => ?_)
      refine az_cS1pi (pc := 25) C hd1 h ms_X11_isFam ml_X11_291 rfl (fun x hx => A_X11_isFam (by omega) hx) dX11_hasOutside_25 (fun r3 h => ?_)
      refine az_if_eq (pc := 28) (tgt := 41) C h dX11_hasOutside_28 (by decide) (fun _ h => ?_) (fun _ h => ?_)
      · refine az_ik1 (pc := 41) C dX11_hasOutside_41 ?_
        refine az_iadd (pc := 42) C dX11_hasOutside_42 ?_
        refine az_is4 (pc := 43) C rfl rfl dX11_hasOutside_43 ?_
        refine az_goto (pc := 45) (tgt := 3) C dX11_hasOutside_45 (by decide) ?_
        exact (ih h)
      refine az_al0 (pc := 31) C rfl rfl dX11_hasOutside_31 ?_
      refine az_al1 (pc := 32) C rfl rfl dX11_hasOutside_32 ?_
      refine az_il4 (pc := 33) C dX11_hasOutside_33 ?_
      refine az_cV2pi (pc := 35) (c := 11) C hd1 h mv_X11_sizeAt ml_X11_416 rfl (fun x hx => A_X11_sizeAt (by omega) n hx) dX11_hasOutside_35 (fun r4 h => ?_)
      refine az_goto (pc := 38) (tgt := 42) C dX11_hasOutside_38 (by decide) ?_
      refine az_iadd (pc := 42) C dX11_hasOutside_42 ?_
      refine az_is4 (pc := 43) C rfl rfl dX11_hasOutside_43 ?_
      refine az_goto (pc := 45) (tgt := 3) C dX11_hasOutside_45 (by decide) ?_
      exact (ih h)
    refine az_ik1 (pc := 17) C dX11_hasOutside_17 ?_
    obtain rfl := Option.some.inj h
    exact az_zreturn (pc := 18) C (by decide) dX11_hasOutside_18 rfl
set_option maxRecDepth 10000 in
set_option maxHeartbeats 4000000 in
theorem A_X11_hasOutside_e {Z : az_Z} {d : Nat} (C : az_C Z yX11_hasOutside cX11_hasOutside 5 (some .boolean) d) (hD : 4 ≤ d) (n : Nat) {σ : az_Hp} {v0 v1 v2 v3 : Int} {r : Int} (h : fz_X11_hasOutside n σ v0 v1 v2 v3 = some r) : az_AW Z 5 0 [(13, v0), (15, v1), (0, v2), (0, v3), (31, 0)] [] σ (some (0, r), σ) := by
  have hd1 : 1 ≤ d := by omega
  unfold fz_X11_hasOutside at h
  refine az_ik0 (pc := 0) C dX11_hasOutside_0 ?_
  refine az_is4 (pc := 1) C rfl rfl dX11_hasOutside_1 ?_
  exact (A_X11_hasOutside_3 C hD n n h)
set_option maxRecDepth 10000 in
set_option maxHeartbeats 4000000 in
theorem A_X11_hasOutside {l : Launch} {d : Nat} (hD : 4 ≤ d) (n : Nat) {σ : az_Hp} {v0 v1 v2 v3 : Int} {r : Int} (h : fz_X11_hasOutside n σ v0 v1 v2 v3 = some r) : az_AC l yX11_hasOutside cX11_hasOutside 5 (some .boolean) d [(13, v0), (15, v1), (0, v2), (0, v3)] σ (some (0, r), σ) := az_AC.of mt_X11_hasOutside rfl rfl rfl (fun Z hZ C => A_X11_hasOutside_e C hD n h)
theorem dX11_unknownBy_0 : decode cX11_unknownBy 0 = .ok (.aload_n 2, 1) := by decide +kernel
theorem dX11_unknownBy_1 : decode cX11_unknownBy 1 = .ok (.iload_n 3, 1) := by decide +kernel
theorem dX11_unknownBy_2 : decode cX11_unknownBy 2 = .ok (.iload_n 1, 1) := by decide +kernel
theorem dX11_unknownBy_3 : decode cX11_unknownBy 3 = .ok (.invokestatic 686, 3) := by decide +kernel
theorem dX11_unknownBy_6 : decode cX11_unknownBy 6 = .ok (.ifCond .ne 51, 3) := by decide +kernel
theorem dX11_unknownBy_9 : decode cX11_unknownBy 9 = .ok (.aload_n 0, 1) := by decide +kernel
theorem dX11_unknownBy_10 : decode cX11_unknownBy 10 = .ok (.getfield 201, 3) := by decide +kernel
theorem dX11_unknownBy_13 : decode cX11_unknownBy 13 = .ok (.iload_n 1, 1) := by decide +kernel
theorem dX11_unknownBy_14 : decode cX11_unknownBy 14 = .ok (.sipush 2000, 3) := by decide +kernel
theorem dX11_unknownBy_17 : decode cX11_unknownBy 17 = .ok (.isub, 1) := by decide +kernel
theorem dX11_unknownBy_18 : decode cX11_unknownBy 18 = .ok (.iload_n 3, 1) := by decide +kernel
theorem dX11_unknownBy_19 : decode cX11_unknownBy 19 = .ok (.iastore, 1) := by decide +kernel
theorem dX11_unknownBy_20 : decode cX11_unknownBy 20 = .ok (.iconst 0, 1) := by decide +kernel
theorem dX11_unknownBy_21 : decode cX11_unknownBy 21 = .ok (.istore 4, 2) := by decide +kernel
theorem dX11_unknownBy_23 : decode cX11_unknownBy 23 = .ok (.iload 4, 2) := by decide +kernel
theorem dX11_unknownBy_25 : decode cX11_unknownBy 25 = .ok (.iload_n 3, 1) := by decide +kernel
theorem dX11_unknownBy_26 : decode cX11_unknownBy 26 = .ok (.if_icmp .ge 29, 3) := by decide +kernel
theorem dX11_unknownBy_29 : decode cX11_unknownBy 29 = .ok (.aload_n 0, 1) := by decide +kernel
theorem dX11_unknownBy_30 : decode cX11_unknownBy 30 = .ok (.getfield 198, 3) := by decide +kernel
theorem dX11_unknownBy_33 : decode cX11_unknownBy 33 = .ok (.bipush 60, 2) := by decide +kernel
theorem dX11_unknownBy_35 : decode cX11_unknownBy 35 = .ok (.iload_n 1, 1) := by decide +kernel
theorem dX11_unknownBy_36 : decode cX11_unknownBy 36 = .ok (.sipush 2000, 3) := by decide +kernel
theorem dX11_unknownBy_39 : decode cX11_unknownBy 39 = .ok (.isub, 1) := by decide +kernel
theorem dX11_unknownBy_40 : decode cX11_unknownBy 40 = .ok (.imul, 1) := by decide +kernel
theorem dX11_unknownBy_41 : decode cX11_unknownBy 41 = .ok (.iload 4, 2) := by decide +kernel
theorem dX11_unknownBy_43 : decode cX11_unknownBy 43 = .ok (.iadd, 1) := by decide +kernel
theorem dX11_unknownBy_44 : decode cX11_unknownBy 44 = .ok (.aload_n 2, 1) := by decide +kernel
theorem dX11_unknownBy_45 : decode cX11_unknownBy 45 = .ok (.iload 4, 2) := by decide +kernel
theorem dX11_unknownBy_47 : decode cX11_unknownBy 47 = .ok (.iaload, 1) := by decide +kernel
theorem dX11_unknownBy_48 : decode cX11_unknownBy 48 = .ok (.iastore, 1) := by decide +kernel
theorem dX11_unknownBy_49 : decode cX11_unknownBy 49 = .ok (.iinc 4 1, 3) := by decide +kernel
theorem dX11_unknownBy_52 : decode cX11_unknownBy 52 = .ok (.goto (-29), 3) := by decide +kernel
theorem dX11_unknownBy_55 : decode cX11_unknownBy 55 = .ok (.iconst 0, 1) := by decide +kernel
theorem dX11_unknownBy_56 : decode cX11_unknownBy 56 = .ok (.ireturn, 1) := by decide +kernel
theorem dX11_unknownBy_57 : decode cX11_unknownBy 57 = .ok (.aload_n 0, 1) := by decide +kernel
theorem dX11_unknownBy_58 : decode cX11_unknownBy 58 = .ok (.aload_n 2, 1) := by decide +kernel
theorem dX11_unknownBy_59 : decode cX11_unknownBy 59 = .ok (.iload_n 3, 1) := by decide +kernel
theorem dX11_unknownBy_60 : decode cX11_unknownBy 60 = .ok (.iload_n 1, 1) := by decide +kernel
theorem dX11_unknownBy_61 : decode cX11_unknownBy 61 = .ok (.invokevirtual 689, 3) := by decide +kernel
theorem dX11_unknownBy_64 : decode cX11_unknownBy 64 = .ok (.ifCond .eq 7, 3) := by decide +kernel
theorem dX11_unknownBy_67 : decode cX11_unknownBy 67 = .ok (.iconst 2, 1) := by decide +kernel
theorem dX11_unknownBy_68 : decode cX11_unknownBy 68 = .ok (.goto 4, 3) := by decide +kernel
theorem dX11_unknownBy_71 : decode cX11_unknownBy 71 = .ok (.iconst (-1), 1) := by decide +kernel
theorem dX11_unknownBy_72 : decode cX11_unknownBy 72 = .ok (.ireturn, 1) := by decide +kernel
set_option maxRecDepth 10000 in
set_option maxHeartbeats 4000000 in
theorem A_X11_unknownBy_23 {Z : az_Z} {d : Nat} (C : az_C Z yX11_unknownBy cX11_unknownBy 5 (some .int) d) (hD : 5 ≤ d) (n : Nat) (k : Nat) : ∀ {σ : az_Hp} {v0 v1 v2 v3 v4 : Int} {r : (Int × az_Hp)}, fz_X11_unknownBy_23 n k σ v0 v1 v2 v3 v4 = some r → az_AW Z 5 23 [(13, v0), (0, v1), (15, v2), (0, v3), (0, v4)] [] σ (some (0, r.1), r.2) := by
  have hd1 : 1 ≤ d := by omega
  induction k with
  | zero => intro σ v0 v1 v2 v3 v4 r h; simp [fz_X11_unknownBy_23] at h
  | succ k ih =>
    intro σ v0 v1 v2 v3 v4 r h
    unfold fz_X11_unknownBy_23 at h
    refine az_il4 (pc := 23) C dX11_unknownBy_23 ?_
    refine az_il3 (pc := 25) C dX11_unknownBy_25 ?_
    refine az_icmp_ge (pc := 26) (tgt := 55) C h dX11_unknownBy_26 (by decide) (fun _ h => ?_) (fun _ h => ?_)
    · refine az_ik0 (pc := 55) C dX11_unknownBy_55 ?_
      obtain rfl := Option.some.inj h
      exact az_ireturn (pc := 56) C dX11_unknownBy_56 rfl
    refine az_al0 (pc := 29) C rfl rfl dX11_unknownBy_29 ?_
    refine az_getR (pc := 30) (c2 := 13) C h fl_X11_198 rfl rfl dX11_unknownBy_30 (fun h => ?_)
    refine az_bk60 (pc := 33) C dX11_unknownBy_33 ?_
    refine az_il1 (pc := 35) C dX11_unknownBy_35 ?_
    refine az_sk2000 (pc := 36) C dX11_unknownBy_36 ?_
    refine az_isub (pc := 39) C dX11_unknownBy_39 ?_
    refine az_imul (pc := 40) C dX11_unknownBy_40 ?_
    refine az_il4 (pc := 41) C dX11_unknownBy_41 ?_
    refine az_iadd (pc := 43) C dX11_unknownBy_43 ?_
    refine az_al2 (pc := 44) C rfl rfl dX11_unknownBy_44 ?_
    refine az_il4 (pc := 45) C dX11_unknownBy_45 ?_
    refine az_iaload (pc := 47) C h dX11_unknownBy_47 (fun h => ?_)
    refine az_iastore (pc := 48) C h dX11_unknownBy_48 (fun h => ?_)
    refine az_ii4 (pc := 49) C az_n1 rfl rfl dX11_unknownBy_49 ?_
    refine az_goto (pc := 52) (tgt := 23) C dX11_unknownBy_52 (by decide) ?_
    exact (ih h)
set_option maxRecDepth 10000 in
set_option maxHeartbeats 4000000 in
theorem A_X11_unknownBy_e {Z : az_Z} {d : Nat} (C : az_C Z yX11_unknownBy cX11_unknownBy 5 (some .int) d) (hD : 5 ≤ d) (n : Nat) {σ : az_Hp} {v0 v1 v2 v3 : Int} {r : (Int × az_Hp)} (h : fz_X11_unknownBy n σ v0 v1 v2 v3 = some r) : az_AW Z 5 0 [(13, v0), (0, v1), (15, v2), (0, v3), (31, 0)] [] σ (some (0, r.1), r.2) := by
  have hd1 : 1 ≤ d := by omega
  unfold fz_X11_unknownBy at h
  refine az_al2 (pc := 0) C rfl rfl dX11_unknownBy_0 ?_
  refine az_il3 (pc := 1) C dX11_unknownBy_1 ?_
  refine az_il1 (pc := 2) C dX11_unknownBy_2 ?_
  refine az_cS3pi (pc := 3) C hd1 h ms_X11_hasCode ml_X11_686 rfl (fun x hx => A_X11_hasCode (by omega) n hx) dX11_unknownBy_3 (fun r1 h => ?_)
  refine az_if_ne (pc := 6) (tgt := 57) C h dX11_unknownBy_6 (by decide) (fun _ h => ?_) (fun _ h => ?_)
  · refine az_al0 (pc := 57) C rfl rfl dX11_unknownBy_57 ?_
    refine az_al2 (pc := 58) C rfl rfl dX11_unknownBy_58 ?_
    refine az_il3 (pc := 59) C dX11_unknownBy_59 ?_
    refine az_il1 (pc := 60) C dX11_unknownBy_60 ?_
    refine az_cV3pi (pc := 61) (c := 11) C hd1 h mv_X11_hasOutside ml_X11_689 rfl (fun x hx => A_X11_hasOutside (by omega) n hx) dX11_unknownBy_61 (fun r2 h => ?_)
    refine az_if_eq (pc := 64) (tgt := 71) C h dX11_unknownBy_64 (by decide) (fun _ h => ?_) (fun _ h => ?_)
    · refine az_ikm1 (pc := 71) C dX11_unknownBy_71 ?_
      obtain rfl := Option.some.inj h
      exact az_ireturn (pc := 72) C dX11_unknownBy_72 rfl
    refine az_ik2 (pc := 67) C dX11_unknownBy_67 ?_
    refine az_goto (pc := 68) (tgt := 72) C dX11_unknownBy_68 (by decide) ?_
    obtain rfl := Option.some.inj h
    exact az_ireturn (pc := 72) C dX11_unknownBy_72 rfl
  refine az_al0 (pc := 9) C rfl rfl dX11_unknownBy_9 ?_
  refine az_getR (pc := 10) (c2 := 13) C h fl_X11_201 rfl rfl dX11_unknownBy_10 (fun h => ?_)
  refine az_il1 (pc := 13) C dX11_unknownBy_13 ?_
  refine az_sk2000 (pc := 14) C dX11_unknownBy_14 ?_
  refine az_isub (pc := 17) C dX11_unknownBy_17 ?_
  refine az_il3 (pc := 18) C dX11_unknownBy_18 ?_
  refine az_iastore (pc := 19) C h dX11_unknownBy_19 (fun h => ?_)
  refine az_ik0 (pc := 20) C dX11_unknownBy_20 ?_
  refine az_is4 (pc := 21) C rfl rfl dX11_unknownBy_21 ?_
  exact (A_X11_unknownBy_23 C hD n n h)
set_option maxRecDepth 10000 in
set_option maxHeartbeats 4000000 in
theorem A_X11_unknownBy {l : Launch} {d : Nat} (hD : 5 ≤ d) (n : Nat) {σ : az_Hp} {v0 v1 v2 v3 : Int} {r : (Int × az_Hp)} (h : fz_X11_unknownBy n σ v0 v1 v2 v3 = some r) : az_AC l yX11_unknownBy cX11_unknownBy 5 (some .int) d [(13, v0), (0, v1), (15, v2), (0, v3)] σ (some (0, r.1), r.2) := az_AC.of mt_X11_unknownBy rfl rfl rfl (fun Z hZ C => A_X11_unknownBy_e C hD n h)
