theorem dX11_firstWithout_0 : decode cX11_firstWithout 0 = .ok (.iconst 0, 1) := by decide +kernel
theorem dX11_firstWithout_1 : decode cX11_firstWithout 1 = .ok (.istore_n 1, 1) := by decide +kernel
theorem dX11_firstWithout_2 : decode cX11_firstWithout 2 = .ok (.iload_n 1, 1) := by decide +kernel
theorem dX11_firstWithout_3 : decode cX11_firstWithout 3 = .ok (.aload_n 0, 1) := by decide +kernel
theorem dX11_firstWithout_4 : decode cX11_firstWithout 4 = .ok (.getfield 601, 3) := by decide +kernel
theorem dX11_firstWithout_7 : decode cX11_firstWithout 7 = .ok (.if_icmp .ge 27, 3) := by decide +kernel
theorem dX11_firstWithout_10 : decode cX11_firstWithout 10 = .ok (.aload_n 0, 1) := by decide +kernel
theorem dX11_firstWithout_11 : decode cX11_firstWithout 11 = .ok (.iload_n 1, 1) := by decide +kernel
theorem dX11_firstWithout_12 : decode cX11_firstWithout 12 = .ok (.putfield 595, 3) := by decide +kernel
theorem dX11_firstWithout_15 : decode cX11_firstWithout 15 = .ok (.aload_n 0, 1) := by decide +kernel
theorem dX11_firstWithout_16 : decode cX11_firstWithout 16 = .ok (.iload_n 1, 1) := by decide +kernel
theorem dX11_firstWithout_17 : decode cX11_firstWithout 17 = .ok (.invokevirtual 598, 3) := by decide +kernel
theorem dX11_firstWithout_20 : decode cX11_firstWithout 20 = .ok (.istore_n 2, 1) := by decide +kernel
theorem dX11_firstWithout_21 : decode cX11_firstWithout 21 = .ok (.iload_n 2, 1) := by decide +kernel
theorem dX11_firstWithout_22 : decode cX11_firstWithout 22 = .ok (.iconst (-1), 1) := by decide +kernel
theorem dX11_firstWithout_23 : decode cX11_firstWithout 23 = .ok (.if_icmp .eq 5, 3) := by decide +kernel
theorem dX11_firstWithout_26 : decode cX11_firstWithout 26 = .ok (.iload_n 2, 1) := by decide +kernel
theorem dX11_firstWithout_27 : decode cX11_firstWithout 27 = .ok (.ireturn, 1) := by decide +kernel
theorem dX11_firstWithout_28 : decode cX11_firstWithout 28 = .ok (.iinc 1 1, 3) := by decide +kernel
theorem dX11_firstWithout_31 : decode cX11_firstWithout 31 = .ok (.goto (-29), 3) := by decide +kernel
theorem dX11_firstWithout_34 : decode cX11_firstWithout 34 = .ok (.iconst (-1), 1) := by decide +kernel
theorem dX11_firstWithout_35 : decode cX11_firstWithout 35 = .ok (.ireturn, 1) := by decide +kernel
set_option maxRecDepth 10000 in
set_option maxHeartbeats 4000000 in
theorem A_X11_firstWithout_2 {Z : az_Z} {d : Nat} (C : az_C Z yX11_firstWithout cX11_firstWithout 3 (some .int) d) (hD : 213 ≤ d) (n : Nat) (k : Nat) : ∀ {σ : az_Hp} {v0 v1 : Int} {r : (Int × az_Hp)}, fz_X11_firstWithout_2 n k σ v0 v1 = some r → az_AW Z 3 2 [(13, v0), (0, v1), (31, 0)] [] σ (some (0, r.1), r.2) := by
  have hd1 : 1 ≤ d := by omega
  induction k with
  | zero => intro σ v0 v1 r h; simp [fz_X11_firstWithout_2] at h
  | succ k ih =>
    intro σ v0 v1 r h
    unfold fz_X11_firstWithout_2 at h
    refine az_il1 (pc := 2) C dX11_firstWithout_2 ?_
    refine az_al0 (pc := 3) C rfl rfl dX11_firstWithout_3 ?_
    refine az_getI (pc := 4) C fl_X11_601 rfl dX11_firstWithout_4 ?_
    refine az_icmp_ge (pc := 7) (tgt := 34) C h dX11_firstWithout_7 (by decide) (fun _ h => ?_) (fun _ h => ?_)
    · refine az_ikm1 (pc := 34) C dX11_firstWithout_34 ?_
      obtain rfl := Option.some.inj h
      exact az_ireturn (pc := 35) C dX11_firstWithout_35 rfl
    refine az_al0 (pc := 10) C rfl rfl dX11_firstWithout_10 ?_
    refine az_il1 (pc := 11) C dX11_firstWithout_11 ?_
    refine az_putI (pc := 12) C fl_X11_595 (Or.inl rfl) rfl dX11_firstWithout_12 ?_
    refine az_al0 (pc := 15) C rfl rfl dX11_firstWithout_15 ?_
    refine az_il1 (pc := 16) C dX11_firstWithout_16 ?_
    refine az_cV1ii (pc := 17) (c := 11) C hd1 h mv_X11_doneAt ml_X11_598 rfl (fun x hx => A_X11_doneAt (by omega) n hx) dX11_firstWithout_17 (fun r1 h => ?_)
    refine az_is2 (pc := 20) C rfl rfl dX11_firstWithout_20 ?_
    refine az_il2 (pc := 21) C dX11_firstWithout_21 ?_
    refine az_ikm1 (pc := 22) C dX11_firstWithout_22 ?_
    refine az_icmp_eq (pc := 23) (tgt := 28) C h dX11_firstWithout_23 (by decide) (fun _ h => ?_) (fun _ h => ?_)
    · refine az_ii1 (pc := 28) C az_n1 rfl rfl dX11_firstWithout_28 ?_
      refine az_goto (pc := 31) (tgt := 2) C dX11_firstWithout_31 (by decide) ?_
      exact (az_wkk (ih h) (az_sE (az_sE (az_sJ az_sN))))
    refine az_il2 (pc := 26) C dX11_firstWithout_26 ?_
    obtain rfl := Option.some.inj h
    exact az_ireturn (pc := 27) C dX11_firstWithout_27 rfl
set_option maxRecDepth 10000 in
set_option maxHeartbeats 4000000 in
theorem A_X11_firstWithout_e {Z : az_Z} {d : Nat} (C : az_C Z yX11_firstWithout cX11_firstWithout 3 (some .int) d) (hD : 213 ≤ d) (n : Nat) {σ : az_Hp} {v0 : Int} {r : (Int × az_Hp)} (h : fz_X11_firstWithout n σ v0 = some r) : az_AW Z 3 0 [(13, v0), (31, 0), (31, 0)] [] σ (some (0, r.1), r.2) := by
  have hd1 : 1 ≤ d := by omega
  unfold fz_X11_firstWithout at h
  refine az_ik0 (pc := 0) C dX11_firstWithout_0 ?_
  refine az_is1 (pc := 1) C rfl rfl dX11_firstWithout_1 ?_
  exact (A_X11_firstWithout_2 C hD n n h)
set_option maxRecDepth 10000 in
set_option maxHeartbeats 4000000 in
theorem A_X11_firstWithout {l : Launch} {d : Nat} (hD : 213 ≤ d) (n : Nat) {σ : az_Hp} {v0 : Int} {r : (Int × az_Hp)} (h : fz_X11_firstWithout n σ v0 = some r) : az_AC l yX11_firstWithout cX11_firstWithout 3 (some .int) d [(13, v0)] σ (some (0, r.1), r.2) := az_AC.of mt_X11_firstWithout rfl rfl rfl (fun Z hZ C => A_X11_firstWithout_e C hD n h)
theorem dX11_keepsPast_0 : decode cX11_keepsPast 0 = .ok (.aload_n 0, 1) := by decide +kernel
theorem dX11_keepsPast_1 : decode cX11_keepsPast 1 = .ok (.getfield 135, 3) := by decide +kernel
theorem dX11_keepsPast_4 : decode cX11_keepsPast 4 = .ok (.iload_n 1, 1) := by decide +kernel
theorem dX11_keepsPast_5 : decode cX11_keepsPast 5 = .ok (.aload_n 0, 1) := by decide +kernel
theorem dX11_keepsPast_6 : decode cX11_keepsPast 6 = .ok (.getfield 601, 3) := by decide +kernel
theorem dX11_keepsPast_9 : decode cX11_keepsPast 9 = .ok (.iastore, 1) := by decide +kernel
theorem dX11_keepsPast_10 : decode cX11_keepsPast 10 = .ok (.iconst 0, 1) := by decide +kernel
theorem dX11_keepsPast_11 : decode cX11_keepsPast 11 = .ok (.istore_n 2, 1) := by decide +kernel
theorem dX11_keepsPast_12 : decode cX11_keepsPast 12 = .ok (.iload_n 2, 1) := by decide +kernel
theorem dX11_keepsPast_13 : decode cX11_keepsPast 13 = .ok (.aload_n 0, 1) := by decide +kernel
theorem dX11_keepsPast_14 : decode cX11_keepsPast 14 = .ok (.getfield 601, 3) := by decide +kernel
theorem dX11_keepsPast_17 : decode cX11_keepsPast 17 = .ok (.if_icmp .ge 26, 3) := by decide +kernel
theorem dX11_keepsPast_20 : decode cX11_keepsPast 20 = .ok (.aload_n 0, 1) := by decide +kernel
theorem dX11_keepsPast_21 : decode cX11_keepsPast 21 = .ok (.getfield 132, 3) := by decide +kernel
theorem dX11_keepsPast_24 : decode cX11_keepsPast 24 = .ok (.bipush 60, 2) := by decide +kernel
theorem dX11_keepsPast_26 : decode cX11_keepsPast 26 = .ok (.iload_n 1, 1) := by decide +kernel
theorem dX11_keepsPast_27 : decode cX11_keepsPast 27 = .ok (.imul, 1) := by decide +kernel
theorem dX11_keepsPast_28 : decode cX11_keepsPast 28 = .ok (.iload_n 2, 1) := by decide +kernel
theorem dX11_keepsPast_29 : decode cX11_keepsPast 29 = .ok (.iadd, 1) := by decide +kernel
theorem dX11_keepsPast_30 : decode cX11_keepsPast 30 = .ok (.aload_n 0, 1) := by decide +kernel
theorem dX11_keepsPast_31 : decode cX11_keepsPast 31 = .ok (.getfield 126, 3) := by decide +kernel
theorem dX11_keepsPast_34 : decode cX11_keepsPast 34 = .ok (.iload_n 2, 1) := by decide +kernel
theorem dX11_keepsPast_35 : decode cX11_keepsPast 35 = .ok (.iaload, 1) := by decide +kernel
theorem dX11_keepsPast_36 : decode cX11_keepsPast 36 = .ok (.iastore, 1) := by decide +kernel
theorem dX11_keepsPast_37 : decode cX11_keepsPast 37 = .ok (.iinc 2 1, 3) := by decide +kernel
theorem dX11_keepsPast_40 : decode cX11_keepsPast 40 = .ok (.goto (-28), 3) := by decide +kernel
theorem dX11_keepsPast_43 : decode cX11_keepsPast 43 = .ok (.return_, 1) := by decide +kernel
set_option maxRecDepth 10000 in
set_option maxHeartbeats 4000000 in
theorem A_X11_keepsPast_12 {Z : az_Z} {d : Nat} (C : az_C Z yX11_keepsPast cX11_keepsPast 3 none d) (hD : 1 ≤ d) (n : Nat) (k : Nat) : ∀ {σ : az_Hp} {v0 v1 v2 : Int} {r : az_Hp}, fz_X11_keepsPast_12 n k σ v0 v1 v2 = some r → az_AW Z 3 12 [(13, v0), (0, v1), (0, v2)] [] σ (none, r) := by
  have hd1 : 1 ≤ d := by omega
  induction k with
  | zero => intro σ v0 v1 v2 r h; simp [fz_X11_keepsPast_12] at h
  | succ k ih =>
    intro σ v0 v1 v2 r h
    unfold fz_X11_keepsPast_12 at h
    refine az_il2 (pc := 12) C dX11_keepsPast_12 ?_
    refine az_al0 (pc := 13) C rfl rfl dX11_keepsPast_13 ?_
    refine az_getI (pc := 14) C fl_X11_601 rfl dX11_keepsPast_14 ?_
    refine az_icmp_ge (pc := 17) (tgt := 43) C h dX11_keepsPast_17 (by decide) (fun _ h => ?_) (fun _ h => ?_)
    · obtain rfl := Option.some.inj h
      exact az_return (pc := 43) C dX11_keepsPast_43 rfl
    refine az_al0 (pc := 20) C rfl rfl dX11_keepsPast_20 ?_
    refine az_getR (pc := 21) (c2 := 13) C h fl_X11_132 rfl rfl dX11_keepsPast_21 (fun h => ?_)
    refine az_bk60 (pc := 24) C dX11_keepsPast_24 ?_
    refine az_il1 (pc := 26) C dX11_keepsPast_26 ?_
    refine az_imul (pc := 27) C dX11_keepsPast_27 ?_
    refine az_il2 (pc := 28) C dX11_keepsPast_28 ?_
    refine az_iadd (pc := 29) C dX11_keepsPast_29 ?_
    refine az_al0 (pc := 30) C rfl rfl dX11_keepsPast_30 ?_
    refine az_getR (pc := 31) (c2 := 13) C h fl_X11_126 rfl rfl dX11_keepsPast_31 (fun h => ?_)
    refine az_il2 (pc := 34) C dX11_keepsPast_34 ?_
    refine az_iaload (pc := 35) C h dX11_keepsPast_35 (fun h => ?_)
    refine az_iastore (pc := 36) C h dX11_keepsPast_36 (fun h => ?_)
    refine az_ii2 (pc := 37) C az_n1 rfl rfl dX11_keepsPast_37 ?_
    refine az_goto (pc := 40) (tgt := 12) C dX11_keepsPast_40 (by decide) ?_
    exact (ih h)
set_option maxRecDepth 10000 in
set_option maxHeartbeats 4000000 in
theorem A_X11_keepsPast_e {Z : az_Z} {d : Nat} (C : az_C Z yX11_keepsPast cX11_keepsPast 3 none d) (hD : 1 ≤ d) (n : Nat) {σ : az_Hp} {v0 v1 : Int} {r : az_Hp} (h : fz_X11_keepsPast n σ v0 v1 = some r) : az_AW Z 3 0 [(13, v0), (0, v1), (31, 0)] [] σ (none, r) := by
  have hd1 : 1 ≤ d := by omega
  unfold fz_X11_keepsPast at h
  refine az_al0 (pc := 0) C rfl rfl dX11_keepsPast_0 ?_
  refine az_getR (pc := 1) (c2 := 13) C h fl_X11_135 rfl rfl dX11_keepsPast_1 (fun h => ?_)
  refine az_il1 (pc := 4) C dX11_keepsPast_4 ?_
  refine az_al0 (pc := 5) C rfl rfl dX11_keepsPast_5 ?_
  refine az_getI (pc := 6) C fl_X11_601 rfl dX11_keepsPast_6 ?_
  refine az_iastore (pc := 9) C h dX11_keepsPast_9 (fun h => ?_)
  refine az_ik0 (pc := 10) C dX11_keepsPast_10 ?_
  refine az_is2 (pc := 11) C rfl rfl dX11_keepsPast_11 ?_
  exact (A_X11_keepsPast_12 C hD n n h)
set_option maxRecDepth 10000 in
set_option maxHeartbeats 4000000 in
theorem A_X11_keepsPast {l : Launch} {d : Nat} (hD : 1 ≤ d) (n : Nat) {σ : az_Hp} {v0 v1 : Int} {r : az_Hp} (h : fz_X11_keepsPast n σ v0 v1 = some r) : az_AC l yX11_keepsPast cX11_keepsPast 3 none d [(13, v0), (0, v1)] σ (none, r) := az_AC.of mt_X11_keepsPast rfl rfl rfl (fun Z hZ C => A_X11_keepsPast_e C hD n h)
theorem dX11_becomesNext_0 : decode cX11_becomesNext 0 = .ok (.aload_n 0, 1) := by decide +kernel
theorem dX11_becomesNext_1 : decode cX11_becomesNext 1 = .ok (.aload_n 0, 1) := by decide +kernel
theorem dX11_becomesNext_2 : decode cX11_becomesNext 2 = .ok (.getfield 604, 3) := by decide +kernel
theorem dX11_becomesNext_5 : decode cX11_becomesNext 5 = .ok (.putfield 601, 3) := by decide +kernel
theorem dX11_becomesNext_8 : decode cX11_becomesNext 8 = .ok (.iconst 0, 1) := by decide +kernel
theorem dX11_becomesNext_9 : decode cX11_becomesNext 9 = .ok (.istore_n 1, 1) := by decide +kernel
theorem dX11_becomesNext_10 : decode cX11_becomesNext 10 = .ok (.iload_n 1, 1) := by decide +kernel
theorem dX11_becomesNext_11 : decode cX11_becomesNext 11 = .ok (.aload_n 0, 1) := by decide +kernel
theorem dX11_becomesNext_12 : decode cX11_becomesNext 12 = .ok (.getfield 604, 3) := by decide +kernel
theorem dX11_becomesNext_15 : decode cX11_becomesNext 15 = .ok (.if_icmp .ge 21, 3) := by decide +kernel
theorem dX11_becomesNext_18 : decode cX11_becomesNext 18 = .ok (.aload_n 0, 1) := by decide +kernel
theorem dX11_becomesNext_19 : decode cX11_becomesNext 19 = .ok (.getfield 126, 3) := by decide +kernel
theorem dX11_becomesNext_22 : decode cX11_becomesNext 22 = .ok (.iload_n 1, 1) := by decide +kernel
theorem dX11_becomesNext_23 : decode cX11_becomesNext 23 = .ok (.aload_n 0, 1) := by decide +kernel
theorem dX11_becomesNext_24 : decode cX11_becomesNext 24 = .ok (.getfield 129, 3) := by decide +kernel
theorem dX11_becomesNext_27 : decode cX11_becomesNext 27 = .ok (.iload_n 1, 1) := by decide +kernel
theorem dX11_becomesNext_28 : decode cX11_becomesNext 28 = .ok (.iaload, 1) := by decide +kernel
theorem dX11_becomesNext_29 : decode cX11_becomesNext 29 = .ok (.iastore, 1) := by decide +kernel
theorem dX11_becomesNext_30 : decode cX11_becomesNext 30 = .ok (.iinc 1 1, 3) := by decide +kernel
theorem dX11_becomesNext_33 : decode cX11_becomesNext 33 = .ok (.goto (-23), 3) := by decide +kernel
theorem dX11_becomesNext_36 : decode cX11_becomesNext 36 = .ok (.return_, 1) := by decide +kernel
set_option maxRecDepth 10000 in
set_option maxHeartbeats 4000000 in
theorem A_X11_becomesNext_10 {Z : az_Z} {d : Nat} (C : az_C Z yX11_becomesNext cX11_becomesNext 2 none d) (hD : 1 ≤ d) (n : Nat) (k : Nat) : ∀ {σ : az_Hp} {v0 v1 : Int} {r : az_Hp}, fz_X11_becomesNext_10 n k σ v0 v1 = some r → az_AW Z 2 10 [(13, v0), (0, v1)] [] σ (none, r) := by
  have hd1 : 1 ≤ d := by omega
  induction k with
  | zero => intro σ v0 v1 r h; simp [fz_X11_becomesNext_10] at h
  | succ k ih =>
    intro σ v0 v1 r h
    unfold fz_X11_becomesNext_10 at h
    refine az_il1 (pc := 10) C dX11_becomesNext_10 ?_
    refine az_al0 (pc := 11) C rfl rfl dX11_becomesNext_11 ?_
    refine az_getI (pc := 12) C fl_X11_604 rfl dX11_becomesNext_12 ?_
    refine az_icmp_ge (pc := 15) (tgt := 36) C h dX11_becomesNext_15 (by decide) (fun _ h => ?_) (fun _ h => ?_)
    · obtain rfl := Option.some.inj h
      exact az_return (pc := 36) C dX11_becomesNext_36 rfl
    refine az_al0 (pc := 18) C rfl rfl dX11_becomesNext_18 ?_
    refine az_getR (pc := 19) (c2 := 13) C h fl_X11_126 rfl rfl dX11_becomesNext_19 (fun h => ?_)
    refine az_il1 (pc := 22) C dX11_becomesNext_22 ?_
    refine az_al0 (pc := 23) C rfl rfl dX11_becomesNext_23 ?_
    refine az_getR (pc := 24) (c2 := 13) C h fl_X11_129 rfl rfl dX11_becomesNext_24 (fun h => ?_)
    refine az_il1 (pc := 27) C dX11_becomesNext_27 ?_
    refine az_iaload (pc := 28) C h dX11_becomesNext_28 (fun h => ?_)
    refine az_iastore (pc := 29) C h dX11_becomesNext_29 (fun h => ?_)
    refine az_ii1 (pc := 30) C az_n1 rfl rfl dX11_becomesNext_30 ?_
    refine az_goto (pc := 33) (tgt := 10) C dX11_becomesNext_33 (by decide) ?_
    exact (ih h)
set_option maxRecDepth 10000 in
set_option maxHeartbeats 4000000 in
theorem A_X11_becomesNext_e {Z : az_Z} {d : Nat} (C : az_C Z yX11_becomesNext cX11_becomesNext 2 none d) (hD : 1 ≤ d) (n : Nat) {σ : az_Hp} {v0 : Int} {r : az_Hp} (h : fz_X11_becomesNext n σ v0 = some r) : az_AW Z 2 0 [(13, v0), (31, 0)] [] σ (none, r) := by
  have hd1 : 1 ≤ d := by omega
  unfold fz_X11_becomesNext at h
  refine az_al0 (pc := 0) C rfl rfl dX11_becomesNext_0 ?_
  refine az_al0 (pc := 1) C rfl rfl dX11_becomesNext_1 ?_
  refine az_getI (pc := 2) C fl_X11_604 rfl dX11_becomesNext_2 ?_
  refine az_putI (pc := 5) C fl_X11_601 (Or.inl rfl) rfl dX11_becomesNext_5 ?_
  refine az_ik0 (pc := 8) C dX11_becomesNext_8 ?_
  refine az_is1 (pc := 9) C rfl rfl dX11_becomesNext_9 ?_
  exact (A_X11_becomesNext_10 C hD n n h)
set_option maxRecDepth 10000 in
set_option maxHeartbeats 4000000 in
theorem A_X11_becomesNext {l : Launch} {d : Nat} (hD : 1 ≤ d) (n : Nat) {σ : az_Hp} {v0 : Int} {r : az_Hp} (h : fz_X11_becomesNext n σ v0 = some r) : az_AC l yX11_becomesNext cX11_becomesNext 2 none d [(13, v0)] σ (none, r) := az_AC.of mt_X11_becomesNext rfl rfl rfl (fun Z hZ C => A_X11_becomesNext_e C hD n h)
theorem dX11_follows_0 : decode cX11_follows 0 = .ok (.iconst 0, 1) := by decide +kernel
theorem dX11_follows_1 : decode cX11_follows 1 = .ok (.istore 4, 2) := by decide +kernel
theorem dX11_follows_3 : decode cX11_follows 3 = .ok (.iload 4, 2) := by decide +kernel
theorem dX11_follows_5 : decode cX11_follows 5 = .ok (.iload_n 3, 1) := by decide +kernel
theorem dX11_follows_6 : decode cX11_follows 6 = .ok (.if_icmp .ge 49, 3) := by decide +kernel
theorem dX11_follows_9 : decode cX11_follows 9 = .ok (.aload_n 0, 1) := by decide +kernel
theorem dX11_follows_10 : decode cX11_follows 10 = .ok (.getfield 604, 3) := by decide +kernel
theorem dX11_follows_13 : decode cX11_follows 13 = .ok (.bipush 60, 2) := by decide +kernel
theorem dX11_follows_15 : decode cX11_follows 15 = .ok (.if_icmp .ne 9, 3) := by decide +kernel
theorem dX11_follows_18 : decode cX11_follows 18 = .ok (.aload_n 0, 1) := by decide +kernel
theorem dX11_follows_19 : decode cX11_follows 19 = .ok (.iconst 1, 1) := by decide +kernel
theorem dX11_follows_20 : decode cX11_follows 20 = .ok (.putfield 607, 3) := by decide +kernel
theorem dX11_follows_23 : decode cX11_follows 23 = .ok (.return_, 1) := by decide +kernel
theorem dX11_follows_24 : decode cX11_follows 24 = .ok (.aload_n 0, 1) := by decide +kernel
theorem dX11_follows_25 : decode cX11_follows 25 = .ok (.getfield 129, 3) := by decide +kernel
theorem dX11_follows_28 : decode cX11_follows 28 = .ok (.aload_n 0, 1) := by decide +kernel
theorem dX11_follows_29 : decode cX11_follows 29 = .ok (.getfield 604, 3) := by decide +kernel
theorem dX11_follows_32 : decode cX11_follows 32 = .ok (.aload_n 1, 1) := by decide +kernel
theorem dX11_follows_33 : decode cX11_follows 33 = .ok (.iload_n 2, 1) := by decide +kernel
theorem dX11_follows_34 : decode cX11_follows 34 = .ok (.iload 4, 2) := by decide +kernel
theorem dX11_follows_36 : decode cX11_follows 36 = .ok (.iadd, 1) := by decide +kernel
theorem dX11_follows_37 : decode cX11_follows 37 = .ok (.iaload, 1) := by decide +kernel
theorem dX11_follows_38 : decode cX11_follows 38 = .ok (.iastore, 1) := by decide +kernel
theorem dX11_follows_39 : decode cX11_follows 39 = .ok (.aload_n 0, 1) := by decide +kernel
theorem dX11_follows_40 : decode cX11_follows 40 = .ok (.dup, 1) := by decide +kernel
theorem dX11_follows_41 : decode cX11_follows 41 = .ok (.getfield 604, 3) := by decide +kernel
theorem dX11_follows_44 : decode cX11_follows 44 = .ok (.iconst 1, 1) := by decide +kernel
theorem dX11_follows_45 : decode cX11_follows 45 = .ok (.iadd, 1) := by decide +kernel
theorem dX11_follows_46 : decode cX11_follows 46 = .ok (.putfield 604, 3) := by decide +kernel
theorem dX11_follows_49 : decode cX11_follows 49 = .ok (.iinc 4 1, 3) := by decide +kernel
theorem dX11_follows_52 : decode cX11_follows 52 = .ok (.goto (-49), 3) := by decide +kernel
theorem dX11_follows_55 : decode cX11_follows 55 = .ok (.return_, 1) := by decide +kernel
set_option maxRecDepth 10000 in
set_option maxHeartbeats 4000000 in
theorem A_X11_follows_3 {Z : az_Z} {d : Nat} (C : az_C Z yX11_follows cX11_follows 5 none d) (hD : 1 ≤ d) (n : Nat) (k : Nat) : ∀ {σ : az_Hp} {v0 v1 v2 v3 v4 : Int} {r : az_Hp}, fz_X11_follows_3 n k σ v0 v1 v2 v3 v4 = some r → az_AW Z 5 3 [(13, v0), (15, v1), (0, v2), (0, v3), (0, v4)] [] σ (none, r) := by
  have hd1 : 1 ≤ d := by omega
  induction k with
  | zero => intro σ v0 v1 v2 v3 v4 r h; simp [fz_X11_follows_3] at h
  | succ k ih =>
    intro σ v0 v1 v2 v3 v4 r h
    unfold fz_X11_follows_3 at h
    refine az_il4 (pc := 3) C dX11_follows_3 ?_
    refine az_il3 (pc := 5) C dX11_follows_5 ?_
    refine az_icmp_ge (pc := 6) (tgt := 55) C h dX11_follows_6 (by decide) (fun _ h => ?_) (fun _ h => ?_)
    · obtain rfl := Option.some.inj h
      exact az_return (pc := 55) C dX11_follows_55 rfl
    refine az_al0 (pc := 9) C rfl rfl dX11_follows_9 ?_
    refine az_getI (pc := 10) C fl_X11_604 rfl dX11_follows_10 ?_
    refine az_bk60 (pc := 13) C dX11_follows_13 ?_
    refine az_icmp_ne (pc := 15) (tgt := 24) C h dX11_follows_15 (by decide) (fun _ h => ?_) (fun _ h => ?_)
    · refine az_al0 (pc := 24) C rfl rfl dX11_follows_24 ?_
      refine az_getR (pc := 25) (c2 := 13) C h fl_X11_129 rfl rfl dX11_follows_25 (fun h => ?_)
      refine az_al0 (pc := 28) C rfl rfl dX11_follows_28 ?_
      refine az_getI (pc := 29) C fl_X11_604 rfl dX11_follows_29 ?_
      refine az_al1 (pc := 32) C rfl rfl dX11_follows_32 ?_
      refine az_il2 (pc := 33) C dX11_follows_33 ?_
      refine az_il4 (pc := 34) C dX11_follows_34 ?_
      refine az_iadd (pc := 36) C dX11_follows_36 ?_
      refine az_iaload (pc := 37) C h dX11_follows_37 (fun h => ?_)
      refine az_iastore (pc := 38) C h dX11_follows_38 (fun h => ?_)
      refine az_al0 (pc := 39) C rfl rfl dX11_follows_39 ?_
      refine az_dup (pc := 40) C rfl rfl dX11_follows_40 ?_
      refine az_getI (pc := 41) C fl_X11_604 rfl dX11_follows_41 ?_
      refine az_ik1 (pc := 44) C dX11_follows_44 ?_
      refine az_iadd (pc := 45) C dX11_follows_45 ?_
      refine az_putI (pc := 46) C fl_X11_604 (Or.inl rfl) rfl dX11_follows_46 ?_
      refine az_ii4 (pc := 49) C az_n1 rfl rfl dX11_follows_49 ?_
      refine az_goto (pc := 52) (tgt := 3) C dX11_follows_52 (by decide) ?_
      exact (ih h)
    refine az_al0 (pc := 18) C rfl rfl dX11_follows_18 ?_
    refine az_ik1 (pc := 19) C dX11_follows_19 ?_
    refine az_putZc (pc := 20) C (by decide) fl_X11_607 (Or.inl rfl) rfl dX11_follows_20 ?_
    obtain rfl := Option.some.inj h
    exact az_return (pc := 23) C dX11_follows_23 rfl
set_option maxRecDepth 10000 in
set_option maxHeartbeats 4000000 in
theorem A_X11_follows_e {Z : az_Z} {d : Nat} (C : az_C Z yX11_follows cX11_follows 5 none d) (hD : 1 ≤ d) (n : Nat) {σ : az_Hp} {v0 v1 v2 v3 : Int} {r : az_Hp} (h : fz_X11_follows n σ v0 v1 v2 v3 = some r) : az_AW Z 5 0 [(13, v0), (15, v1), (0, v2), (0, v3), (31, 0)] [] σ (none, r) := by
  have hd1 : 1 ≤ d := by omega
  unfold fz_X11_follows at h
  refine az_ik0 (pc := 0) C dX11_follows_0 ?_
  refine az_is4 (pc := 1) C rfl rfl dX11_follows_1 ?_
  exact (A_X11_follows_3 C hD n n h)
set_option maxRecDepth 10000 in
set_option maxHeartbeats 4000000 in
theorem A_X11_follows {l : Launch} {d : Nat} (hD : 1 ≤ d) (n : Nat) {σ : az_Hp} {v0 v1 v2 v3 : Int} {r : az_Hp} (h : fz_X11_follows n σ v0 v1 v2 v3 = some r) : az_AC l yX11_follows cX11_follows 5 none d [(13, v0), (15, v1), (0, v2), (0, v3)] σ (none, r) := az_AC.of mt_X11_follows rfl rfl rfl (fun Z hZ C => A_X11_follows_e C hD n h)
theorem dX11_makes_0 : decode cX11_makes 0 = .ok (.aload_n 0, 1) := by decide +kernel
theorem dX11_makes_1 : decode cX11_makes 1 = .ok (.getfield 595, 3) := by decide +kernel
theorem dX11_makes_4 : decode cX11_makes 4 = .ok (.istore_n 2, 1) := by decide +kernel
theorem dX11_makes_5 : decode cX11_makes 5 = .ok (.aload_n 0, 1) := by decide +kernel
theorem dX11_makes_6 : decode cX11_makes 6 = .ok (.iconst 0, 1) := by decide +kernel
theorem dX11_makes_7 : decode cX11_makes 7 = .ok (.putfield 604, 3) := by decide +kernel
theorem dX11_makes_10 : decode cX11_makes 10 = .ok (.aload_n 0, 1) := by decide +kernel
theorem dX11_makes_11 : decode cX11_makes 11 = .ok (.iconst 0, 1) := by decide +kernel
theorem dX11_makes_12 : decode cX11_makes 12 = .ok (.putfield 607, 3) := by decide +kernel
theorem dX11_makes_15 : decode cX11_makes 15 = .ok (.aload_n 0, 1) := by decide +kernel
theorem dX11_makes_16 : decode cX11_makes 16 = .ok (.aload_n 0, 1) := by decide +kernel
theorem dX11_makes_17 : decode cX11_makes 17 = .ok (.getfield 126, 3) := by decide +kernel
theorem dX11_makes_20 : decode cX11_makes 20 = .ok (.iconst 0, 1) := by decide +kernel
theorem dX11_makes_21 : decode cX11_makes 21 = .ok (.iload_n 2, 1) := by decide +kernel
theorem dX11_makes_22 : decode cX11_makes 22 = .ok (.invokevirtual 610, 3) := by decide +kernel
theorem dX11_makes_25 : decode cX11_makes 25 = .ok (.iload_n 1, 1) := by decide +kernel
theorem dX11_makes_26 : decode cX11_makes 26 = .ok (.bipush 100, 2) := by decide +kernel
theorem dX11_makes_28 : decode cX11_makes 28 = .ok (.if_icmp .lt 30, 3) := by decide +kernel
theorem dX11_makes_31 : decode cX11_makes 31 = .ok (.aload_n 0, 1) := by decide +kernel
theorem dX11_makes_32 : decode cX11_makes 32 = .ok (.aload_n 0, 1) := by decide +kernel
theorem dX11_makes_33 : decode cX11_makes 33 = .ok (.getfield 156, 3) := by decide +kernel
theorem dX11_makes_36 : decode cX11_makes 36 = .ok (.bipush 30, 2) := by decide +kernel
theorem dX11_makes_38 : decode cX11_makes 38 = .ok (.iload_n 1, 1) := by decide +kernel
theorem dX11_makes_39 : decode cX11_makes 39 = .ok (.bipush 100, 2) := by decide +kernel
theorem dX11_makes_41 : decode cX11_makes 41 = .ok (.isub, 1) := by decide +kernel
theorem dX11_makes_42 : decode cX11_makes 42 = .ok (.imul, 1) := by decide +kernel
theorem dX11_makes_43 : decode cX11_makes 43 = .ok (.aload_n 0, 1) := by decide +kernel
theorem dX11_makes_44 : decode cX11_makes 44 = .ok (.getfield 162, 3) := by decide +kernel
theorem dX11_makes_47 : decode cX11_makes 47 = .ok (.iload_n 1, 1) := by decide +kernel
theorem dX11_makes_48 : decode cX11_makes 48 = .ok (.bipush 100, 2) := by decide +kernel
theorem dX11_makes_50 : decode cX11_makes 50 = .ok (.isub, 1) := by decide +kernel
theorem dX11_makes_51 : decode cX11_makes 51 = .ok (.iaload, 1) := by decide +kernel
theorem dX11_makes_52 : decode cX11_makes 52 = .ok (.invokevirtual 610, 3) := by decide +kernel
theorem dX11_makes_55 : decode cX11_makes 55 = .ok (.goto 115, 3) := by decide +kernel
theorem dX11_makes_58 : decode cX11_makes 58 = .ok (.aload_n 0, 1) := by decide +kernel
theorem dX11_makes_59 : decode cX11_makes 59 = .ok (.iload_n 1, 1) := by decide +kernel
theorem dX11_makes_60 : decode cX11_makes 60 = .ok (.aload_n 0, 1) := by decide +kernel
theorem dX11_makes_61 : decode cX11_makes 61 = .ok (.getfield 126, 3) := by decide +kernel
theorem dX11_makes_64 : decode cX11_makes 64 = .ok (.iload_n 2, 1) := by decide +kernel
theorem dX11_makes_65 : decode cX11_makes 65 = .ok (.invokevirtual 573, 3) := by decide +kernel
theorem dX11_makes_68 : decode cX11_makes 68 = .ok (.istore_n 3, 1) := by decide +kernel
theorem dX11_makes_69 : decode cX11_makes 69 = .ok (.bipush 16, 2) := by decide +kernel
theorem dX11_makes_71 : decode cX11_makes 71 = .ok (.aload_n 0, 1) := by decide +kernel
theorem dX11_makes_72 : decode cX11_makes 72 = .ok (.iload_n 1, 1) := by decide +kernel
theorem dX11_makes_73 : decode cX11_makes 73 = .ok (.invokevirtual 358, 3) := by decide +kernel
theorem dX11_makes_76 : decode cX11_makes 76 = .ok (.imul, 1) := by decide +kernel
theorem dX11_makes_77 : decode cX11_makes 77 = .ok (.istore 4, 2) := by decide +kernel
theorem dX11_makes_79 : decode cX11_makes 79 = .ok (.iconst 0, 1) := by decide +kernel
theorem dX11_makes_80 : decode cX11_makes 80 = .ok (.istore 5, 2) := by decide +kernel
theorem dX11_makes_82 : decode cX11_makes 82 = .ok (.iload 5, 2) := by decide +kernel
theorem dX11_makes_84 : decode cX11_makes 84 = .ok (.aload_n 0, 1) := by decide +kernel
theorem dX11_makes_85 : decode cX11_makes 85 = .ok (.getfield 58, 3) := by decide +kernel
theorem dX11_makes_88 : decode cX11_makes 88 = .ok (.aload_n 0, 1) := by decide +kernel
theorem dX11_makes_89 : decode cX11_makes 89 = .ok (.iload_n 1, 1) := by decide +kernel
theorem dX11_makes_90 : decode cX11_makes 90 = .ok (.invokevirtual 358, 3) := by decide +kernel
theorem dX11_makes_93 : decode cX11_makes 93 = .ok (.iaload, 1) := by decide +kernel
theorem dX11_makes_94 : decode cX11_makes 94 = .ok (.if_icmp .ge 76, 3) := by decide +kernel
theorem dX11_makes_97 : decode cX11_makes 97 = .ok (.aload_n 0, 1) := by decide +kernel
theorem dX11_makes_98 : decode cX11_makes 98 = .ok (.getfield 52, 3) := by decide +kernel
theorem dX11_makes_101 : decode cX11_makes 101 = .ok (.iload 4, 2) := by decide +kernel
theorem dX11_makes_103 : decode cX11_makes 103 = .ok (.iload 5, 2) := by decide +kernel
theorem dX11_makes_105 : decode cX11_makes 105 = .ok (.iadd, 1) := by decide +kernel
theorem dX11_makes_106 : decode cX11_makes 106 = .ok (.iaload, 1) := by decide +kernel
theorem dX11_makes_107 : decode cX11_makes 107 = .ok (.istore 6, 2) := by decide +kernel
theorem dX11_makes_109 : decode cX11_makes 109 = .ok (.iload 6, 2) := by decide +kernel
theorem dX11_makes_111 : decode cX11_makes 111 = .ok (.invokestatic 288, 3) := by decide +kernel
theorem dX11_makes_114 : decode cX11_makes 114 = .ok (.ifCond .eq 36, 3) := by decide +kernel
theorem dX11_makes_117 : decode cX11_makes 117 = .ok (.aload_n 0, 1) := by decide +kernel
theorem dX11_makes_118 : decode cX11_makes 118 = .ok (.aload_n 0, 1) := by decide +kernel
theorem dX11_makes_119 : decode cX11_makes 119 = .ok (.getfield 126, 3) := by decide +kernel
theorem dX11_makes_122 : decode cX11_makes 122 = .ok (.aload_n 0, 1) := by decide +kernel
theorem dX11_makes_123 : decode cX11_makes 123 = .ok (.getfield 120, 3) := by decide +kernel
theorem dX11_makes_126 : decode cX11_makes 126 = .ok (.iload 6, 2) := by decide +kernel
theorem dX11_makes_128 : decode cX11_makes 128 = .ok (.sipush 1000, 3) := by decide +kernel
theorem dX11_makes_131 : decode cX11_makes 131 = .ok (.isub, 1) := by decide +kernel
theorem dX11_makes_132 : decode cX11_makes 132 = .ok (.iaload, 1) := by decide +kernel
theorem dX11_makes_133 : decode cX11_makes 133 = .ok (.aload_n 0, 1) := by decide +kernel
theorem dX11_makes_134 : decode cX11_makes 134 = .ok (.getfield 123, 3) := by decide +kernel
theorem dX11_makes_137 : decode cX11_makes 137 = .ok (.iload 6, 2) := by decide +kernel
theorem dX11_makes_139 : decode cX11_makes 139 = .ok (.sipush 1000, 3) := by decide +kernel
theorem dX11_makes_142 : decode cX11_makes 142 = .ok (.isub, 1) := by decide +kernel
theorem dX11_makes_143 : decode cX11_makes 143 = .ok (.iaload, 1) := by decide +kernel
theorem dX11_makes_144 : decode cX11_makes 144 = .ok (.invokevirtual 610, 3) := by decide +kernel
theorem dX11_makes_147 : decode cX11_makes 147 = .ok (.goto 17, 3) := by decide +kernel
theorem dX11_makes_150 : decode cX11_makes 150 = .ok (.aload_n 0, 1) := by decide +kernel
theorem dX11_makes_151 : decode cX11_makes 151 = .ok (.aload_n 0, 1) := by decide +kernel
theorem dX11_makes_152 : decode cX11_makes 152 = .ok (.getfield 52, 3) := by decide +kernel
theorem dX11_makes_155 : decode cX11_makes 155 = .ok (.iload 4, 2) := by decide +kernel
theorem dX11_makes_157 : decode cX11_makes 157 = .ok (.iload 5, 2) := by decide +kernel
theorem dX11_makes_159 : decode cX11_makes 159 = .ok (.iadd, 1) := by decide +kernel
theorem dX11_makes_160 : decode cX11_makes 160 = .ok (.iconst 1, 1) := by decide +kernel
theorem dX11_makes_161 : decode cX11_makes 161 = .ok (.invokevirtual 610, 3) := by decide +kernel
theorem dX11_makes_164 : decode cX11_makes 164 = .ok (.iinc 5 1, 3) := by decide +kernel
theorem dX11_makes_167 : decode cX11_makes 167 = .ok (.goto (-85), 3) := by decide +kernel
theorem dX11_makes_170 : decode cX11_makes 170 = .ok (.iload_n 2, 1) := by decide +kernel
theorem dX11_makes_171 : decode cX11_makes 171 = .ok (.aload_n 0, 1) := by decide +kernel
theorem dX11_makes_172 : decode cX11_makes 172 = .ok (.aload_n 0, 1) := by decide +kernel
theorem dX11_makes_173 : decode cX11_makes 173 = .ok (.getfield 126, 3) := by decide +kernel
theorem dX11_makes_176 : decode cX11_makes 176 = .ok (.iload_n 2, 1) := by decide +kernel
theorem dX11_makes_177 : decode cX11_makes 177 = .ok (.invokevirtual 416, 3) := by decide +kernel
theorem dX11_makes_180 : decode cX11_makes 180 = .ok (.iadd, 1) := by decide +kernel
theorem dX11_makes_181 : decode cX11_makes 181 = .ok (.istore_n 3, 1) := by decide +kernel
theorem dX11_makes_182 : decode cX11_makes 182 = .ok (.aload_n 0, 1) := by decide +kernel
theorem dX11_makes_183 : decode cX11_makes 183 = .ok (.aload_n 0, 1) := by decide +kernel
theorem dX11_makes_184 : decode cX11_makes 184 = .ok (.getfield 126, 3) := by decide +kernel
theorem dX11_makes_187 : decode cX11_makes 187 = .ok (.iload_n 3, 1) := by decide +kernel
theorem dX11_makes_188 : decode cX11_makes 188 = .ok (.aload_n 0, 1) := by decide +kernel
theorem dX11_makes_189 : decode cX11_makes 189 = .ok (.getfield 601, 3) := by decide +kernel
theorem dX11_makes_192 : decode cX11_makes 192 = .ok (.iload_n 3, 1) := by decide +kernel
theorem dX11_makes_193 : decode cX11_makes 193 = .ok (.isub, 1) := by decide +kernel
theorem dX11_makes_194 : decode cX11_makes 194 = .ok (.invokevirtual 610, 3) := by decide +kernel
theorem dX11_makes_197 : decode cX11_makes 197 = .ok (.aload_n 0, 1) := by decide +kernel
theorem dX11_makes_198 : decode cX11_makes 198 = .ok (.getfield 607, 3) := by decide +kernel
theorem dX11_makes_201 : decode cX11_makes 201 = .ok (.ifCond .ne 7, 3) := by decide +kernel
theorem dX11_makes_204 : decode cX11_makes 204 = .ok (.iconst 1, 1) := by decide +kernel
theorem dX11_makes_205 : decode cX11_makes 205 = .ok (.goto 4, 3) := by decide +kernel
theorem dX11_makes_208 : decode cX11_makes 208 = .ok (.iconst 0, 1) := by decide +kernel
theorem dX11_makes_209 : decode cX11_makes 209 = .ok (.ireturn, 1) := by decide +kernel
set_option maxRecDepth 10000 in
set_option maxHeartbeats 4000000 in
theorem A_X11_makes_170 {Z : az_Z} {d : Nat} (C : az_C Z yX11_makes cX11_makes 7 (some .boolean) d) (hD : 5 ≤ d) (n : Nat) {σ : az_Hp} {v0 v2 : Int} {r : (Int × az_Hp)} (h : fz_X11_makes_170 n σ v0 v2 = some r) : az_AW Z 7 170 [(13, v0), (31, 0), (0, v2), (31, 0), (31, 0), (31, 0), (31, 0)] [] σ (some (0, r.1), r.2) := by
  have hd1 : 1 ≤ d := by omega
  unfold fz_X11_makes_170 at h
  refine az_il2 (pc := 170) C dX11_makes_170 ?_
  refine az_al0 (pc := 171) C rfl rfl dX11_makes_171 ?_
  refine az_al0 (pc := 172) C rfl rfl dX11_makes_172 ?_
  refine az_getR (pc := 173) (c2 := 13) C h fl_X11_126 rfl rfl dX11_makes_173 (fun h => ?_)
  refine az_il2 (pc := 176) C dX11_makes_176 ?_
  refine az_cV2pi (pc := 177) (c := 11) C hd1 h mv_X11_sizeAt ml_X11_416 rfl (fun x hx => A_X11_sizeAt (by omega) n hx) dX11_makes_177 (fun r2 h => ?_)
  refine az_iadd (pc := 180) C dX11_makes_180 ?_
  refine az_is3 (pc := 181) C rfl rfl dX11_makes_181 ?_
  refine az_al0 (pc := 182) C rfl rfl dX11_makes_182 ?_
  refine az_al0 (pc := 183) C rfl rfl dX11_makes_183 ?_
  refine az_getR (pc := 184) (c2 := 13) C h fl_X11_126 rfl rfl dX11_makes_184 (fun h => ?_)
  refine az_il3 (pc := 187) C dX11_makes_187 ?_
  refine az_al0 (pc := 188) C rfl rfl dX11_makes_188 ?_
  refine az_getI (pc := 189) C fl_X11_601 rfl dX11_makes_189 ?_
  refine az_il3 (pc := 192) C dX11_makes_192 ?_
  refine az_isub (pc := 193) C dX11_makes_193 ?_
  refine az_cV3v (pc := 194) (c := 11) C hd1 h mv_X11_follows ml_X11_610 rfl (fun x hx => A_X11_follows (by omega) n hx) dX11_makes_194 (fun r4 h => ?_)
  refine az_al0 (pc := 197) C rfl rfl dX11_makes_197 ?_
  refine az_getI (pc := 198) C fl_X11_607 rfl dX11_makes_198 ?_
  refine az_if_ne (pc := 201) (tgt := 208) C h dX11_makes_201 (by decide) (fun _ h => ?_) (fun _ h => ?_)
  · refine az_ik0 (pc := 208) C dX11_makes_208 ?_
    obtain rfl := Option.some.inj h
    exact az_zreturn (pc := 209) C (by decide) dX11_makes_209 rfl
  refine az_ik1 (pc := 204) C dX11_makes_204 ?_
  refine az_goto (pc := 205) (tgt := 209) C dX11_makes_205 (by decide) ?_
  obtain rfl := Option.some.inj h
  exact az_zreturn (pc := 209) C (by decide) dX11_makes_209 rfl
set_option maxRecDepth 10000 in
set_option maxHeartbeats 4000000 in
theorem A_X11_makes_82 {Z : az_Z} {d : Nat} (C : az_C Z yX11_makes cX11_makes 7 (some .boolean) d) (hD : 5 ≤ d) (n : Nat) (k : Nat) : ∀ {σ : az_Hp} {v0 v1 v2 v4 v5 : Int} {r : (Int × az_Hp)}, fz_X11_makes_82 n k σ v0 v1 v2 v4 v5 = some r → az_AW Z 7 82 [(13, v0), (0, v1), (0, v2), (31, 0), (0, v4), (0, v5), (31, 0)] [] σ (some (0, r.1), r.2) := by
  have hd1 : 1 ≤ d := by omega
  induction k with
  | zero => intro σ v0 v1 v2 v4 v5 r h; simp [fz_X11_makes_82] at h
  | succ k ih =>
    intro σ v0 v1 v2 v4 v5 r h
    unfold fz_X11_makes_82 at h
    refine az_il5 (pc := 82) C dX11_makes_82 ?_
    refine az_al0 (pc := 84) C rfl rfl dX11_makes_84 ?_
    refine az_getR (pc := 85) (c2 := 13) C h fl_X11_58 rfl rfl dX11_makes_85 (fun h => ?_)
    refine az_al0 (pc := 88) C rfl rfl dX11_makes_88 ?_
    refine az_il1 (pc := 89) C dX11_makes_89 ?_
    refine az_cV1pi (pc := 90) (c := 11) C hd1 h mv_X11_eqAt ml_X11_358 rfl (fun x hx => A_X11_eqAt (by omega) hx) dX11_makes_90 (fun r2 h => ?_)
    refine az_iaload (pc := 93) C h dX11_makes_93 (fun h => ?_)
    refine az_icmp_ge (pc := 94) (tgt := 170) C h dX11_makes_94 (by decide) (fun _ h => ?_) (fun _ h => ?_)
    · exact (az_wkk (A_X11_makes_170 C hD n h) (az_sE (az_sJ (az_sE (az_sJ (az_sJ (az_sJ (az_sJ az_sN))))))))
    refine az_al0 (pc := 97) C rfl rfl dX11_makes_97 ?_
    refine az_getR (pc := 98) (c2 := 13) C h fl_X11_52 rfl rfl dX11_makes_98 (fun h => ?_)
    refine az_il4 (pc := 101) C dX11_makes_101 ?_
    refine az_il5 (pc := 103) C dX11_makes_103 ?_
    refine az_iadd (pc := 105) C dX11_makes_105 ?_
    refine az_iaload (pc := 106) C h dX11_makes_106 (fun h => ?_)
    refine az_is6 (pc := 107) C rfl rfl dX11_makes_107 ?_
    refine az_il6 (pc := 109) C dX11_makes_109 ?_
    refine az_cS1pi (pc := 111) C hd1 h ms_X11_isVar ml_X11_288 rfl (fun x hx => A_X11_isVar (by omega) hx) dX11_makes_111 (fun r6 h => ?_)
    refine az_if_eq (pc := 114) (tgt := 150) C h dX11_makes_114 (by decide) (fun _ h => ?_) (fun _ h => ?_)
    · refine az_al0 (pc := 150) C rfl rfl dX11_makes_150 ?_
      refine az_al0 (pc := 151) C rfl rfl dX11_makes_151 ?_
      refine az_getR (pc := 152) (c2 := 13) C h fl_X11_52 rfl rfl dX11_makes_152 (fun h => ?_)
      refine az_il4 (pc := 155) C dX11_makes_155 ?_
      refine az_il5 (pc := 157) C dX11_makes_157 ?_
      refine az_iadd (pc := 159) C dX11_makes_159 ?_
      refine az_ik1 (pc := 160) C dX11_makes_160 ?_
      refine az_cV3v (pc := 161) (c := 11) C hd1 h mv_X11_follows ml_X11_610 rfl (fun x hx => A_X11_follows (by omega) n hx) dX11_makes_161 (fun r8 h => ?_)
      refine az_ii5 (pc := 164) C az_n1 rfl rfl dX11_makes_164 ?_
      refine az_goto (pc := 167) (tgt := 82) C dX11_makes_167 (by decide) ?_
      exact (az_wkk (ih h) (az_sE (az_sE (az_sE (az_sJ (az_sE (az_sE (az_sJ az_sN))))))))
    refine az_al0 (pc := 117) C rfl rfl dX11_makes_117 ?_
    refine az_al0 (pc := 118) C rfl rfl dX11_makes_118 ?_
    refine az_getR (pc := 119) (c2 := 13) C h fl_X11_126 rfl rfl dX11_makes_119 (fun h => ?_)
    refine az_al0 (pc := 122) C rfl rfl dX11_makes_122 ?_
    refine az_getR (pc := 123) (c2 := 13) C h fl_X11_120 rfl rfl dX11_makes_123 (fun h => ?_)
    refine az_il6 (pc := 126) C dX11_makes_126 ?_
    refine az_sk1000 (pc := 128) C dX11_makes_128 ?_
    refine az_isub (pc := 131) C dX11_makes_131 ?_
    refine az_iaload (pc := 132) C h dX11_makes_132 (fun h => ?_)
    refine az_al0 (pc := 133) C rfl rfl dX11_makes_133 ?_
    refine az_getR (pc := 134) (c2 := 13) C h fl_X11_123 rfl rfl dX11_makes_134 (fun h => ?_)
    refine az_il6 (pc := 137) C dX11_makes_137 ?_
    refine az_sk1000 (pc := 139) C dX11_makes_139 ?_
    refine az_isub (pc := 142) C dX11_makes_142 ?_
    refine az_iaload (pc := 143) C h dX11_makes_143 (fun h => ?_)
    refine az_cV3v (pc := 144) (c := 11) C hd1 h mv_X11_follows ml_X11_610 rfl (fun x hx => A_X11_follows (by omega) n hx) dX11_makes_144 (fun r14 h => ?_)
    refine az_goto (pc := 147) (tgt := 164) C dX11_makes_147 (by decide) ?_
    refine az_ii5 (pc := 164) C az_n1 rfl rfl dX11_makes_164 ?_
    refine az_goto (pc := 167) (tgt := 82) C dX11_makes_167 (by decide) ?_
    exact (az_wkk (ih h) (az_sE (az_sE (az_sE (az_sJ (az_sE (az_sE (az_sJ az_sN))))))))
set_option maxRecDepth 10000 in
set_option maxHeartbeats 4000000 in
theorem A_X11_makes_e {Z : az_Z} {d : Nat} (C : az_C Z yX11_makes cX11_makes 7 (some .boolean) d) (hD : 5 ≤ d) (n : Nat) {σ : az_Hp} {v0 v1 : Int} {r : (Int × az_Hp)} (h : fz_X11_makes n σ v0 v1 = some r) : az_AW Z 7 0 [(13, v0), (0, v1), (31, 0), (31, 0), (31, 0), (31, 0), (31, 0)] [] σ (some (0, r.1), r.2) := by
  have hd1 : 1 ≤ d := by omega
  unfold fz_X11_makes at h
  refine az_al0 (pc := 0) C rfl rfl dX11_makes_0 ?_
  refine az_getI (pc := 1) C fl_X11_595 rfl dX11_makes_1 ?_
  refine az_is2 (pc := 4) C rfl rfl dX11_makes_4 ?_
  refine az_al0 (pc := 5) C rfl rfl dX11_makes_5 ?_
  refine az_ik0 (pc := 6) C dX11_makes_6 ?_
  refine az_putI (pc := 7) C fl_X11_604 (Or.inl rfl) rfl dX11_makes_7 ?_
  refine az_al0 (pc := 10) C rfl rfl dX11_makes_10 ?_
  refine az_ik0 (pc := 11) C dX11_makes_11 ?_
  refine az_putZc (pc := 12) C (by decide) fl_X11_607 (Or.inl rfl) rfl dX11_makes_12 ?_
  refine az_al0 (pc := 15) C rfl rfl dX11_makes_15 ?_
  refine az_al0 (pc := 16) C rfl rfl dX11_makes_16 ?_
  refine az_getR (pc := 17) (c2 := 13) C h fl_X11_126 rfl rfl dX11_makes_17 (fun h => ?_)
  refine az_ik0 (pc := 20) C dX11_makes_20 ?_
  refine az_il2 (pc := 21) C dX11_makes_21 ?_
  refine az_cV3v (pc := 22) (c := 11) C hd1 h mv_X11_follows ml_X11_610 rfl (fun x hx => A_X11_follows (by omega) n hx) dX11_makes_22 (fun r2 h => ?_)
  refine az_il1 (pc := 25) C dX11_makes_25 ?_
  refine az_bk100 (pc := 26) C dX11_makes_26 ?_
  refine az_icmp_lt (pc := 28) (tgt := 58) C h dX11_makes_28 (by decide) (fun _ h => ?_) (fun _ h => ?_)
  · refine az_al0 (pc := 58) C rfl rfl dX11_makes_58 ?_
    refine az_il1 (pc := 59) C dX11_makes_59 ?_
    refine az_al0 (pc := 60) C rfl rfl dX11_makes_60 ?_
    refine az_getR (pc := 61) (c2 := 13) C h fl_X11_126 rfl rfl dX11_makes_61 (fun h => ?_)
    refine az_il2 (pc := 64) C dX11_makes_64 ?_
    refine az_cV3ii (pc := 65) (c := 11) C hd1 h mv_X11_fits ml_X11_573 rfl (fun x hx => A_X11_fits (by omega) n hx) dX11_makes_65 (fun r4 h => ?_)
    refine az_is3 (pc := 68) C rfl rfl dX11_makes_68 ?_
    refine az_bk16 (pc := 69) C dX11_makes_69 ?_
    refine az_al0 (pc := 71) C rfl rfl dX11_makes_71 ?_
    refine az_il1 (pc := 72) C dX11_makes_72 ?_
    refine az_cV1pi (pc := 73) (c := 11) C hd1 h mv_X11_eqAt ml_X11_358 rfl (fun x hx => A_X11_eqAt (by omega) hx) dX11_makes_73 (fun r5 h => ?_)
    refine az_imul (pc := 76) C dX11_makes_76 ?_
    refine az_is4 (pc := 77) C rfl rfl dX11_makes_77 ?_
    refine az_ik0 (pc := 79) C dX11_makes_79 ?_
    refine az_is5 (pc := 80) C rfl rfl dX11_makes_80 ?_
    exact (az_wkk (A_X11_makes_82 C hD n n h) (az_sE (az_sE (az_sE (az_sJ (az_sE (az_sE (az_sJ az_sN))))))))
  refine az_al0 (pc := 31) C rfl rfl dX11_makes_31 ?_
  refine az_al0 (pc := 32) C rfl rfl dX11_makes_32 ?_
  refine az_getR (pc := 33) (c2 := 13) C h fl_X11_156 rfl rfl dX11_makes_33 (fun h => ?_)
  refine az_bk30 (pc := 36) C dX11_makes_36 ?_
  refine az_il1 (pc := 38) C dX11_makes_38 ?_
  refine az_bk100 (pc := 39) C dX11_makes_39 ?_
  refine az_isub (pc := 41) C dX11_makes_41 ?_
  refine az_imul (pc := 42) C dX11_makes_42 ?_
  refine az_al0 (pc := 43) C rfl rfl dX11_makes_43 ?_
  refine az_getR (pc := 44) (c2 := 13) C h fl_X11_162 rfl rfl dX11_makes_44 (fun h => ?_)
  refine az_il1 (pc := 47) C dX11_makes_47 ?_
  refine az_bk100 (pc := 48) C dX11_makes_48 ?_
  refine az_isub (pc := 50) C dX11_makes_50 ?_
  refine az_iaload (pc := 51) C h dX11_makes_51 (fun h => ?_)
  refine az_cV3v (pc := 52) (c := 11) C hd1 h mv_X11_follows ml_X11_610 rfl (fun x hx => A_X11_follows (by omega) n hx) dX11_makes_52 (fun r9 h => ?_)
  refine az_goto (pc := 55) (tgt := 170) C dX11_makes_55 (by decide) ?_
  exact (az_wkk (A_X11_makes_170 C hD n h) (az_sE (az_sJ (az_sE (az_sJ (az_sJ (az_sJ (az_sJ az_sN))))))))
set_option maxRecDepth 10000 in
set_option maxHeartbeats 4000000 in
theorem A_X11_makes {l : Launch} {d : Nat} (hD : 5 ≤ d) (n : Nat) {σ : az_Hp} {v0 v1 : Int} {r : (Int × az_Hp)} (h : fz_X11_makes n σ v0 v1 = some r) : az_AC l yX11_makes cX11_makes 7 (some .boolean) d [(13, v0), (0, v1)] σ (some (0, r.1), r.2) := az_AC.of mt_X11_makes rfl rfl rfl (fun Z hZ C => A_X11_makes_e C hD n h)
theorem dX11_steps_0 : decode cX11_steps 0 = .ok (.iload_n 1, 1) := by decide +kernel
theorem dX11_steps_1 : decode cX11_steps 1 = .ok (.ifCond .ne 11, 3) := by decide +kernel
theorem dX11_steps_4 : decode cX11_steps 4 = .ok (.aload_n 0, 1) := by decide +kernel
theorem dX11_steps_5 : decode cX11_steps 5 = .ok (.iconst 0, 1) := by decide +kernel
theorem dX11_steps_6 : decode cX11_steps 6 = .ok (.invokevirtual 592, 3) := by decide +kernel
theorem dX11_steps_9 : decode cX11_steps 9 = .ok (.goto 7, 3) := by decide +kernel
theorem dX11_steps_12 : decode cX11_steps 12 = .ok (.aload_n 0, 1) := by decide +kernel
theorem dX11_steps_13 : decode cX11_steps 13 = .ok (.invokevirtual 614, 3) := by decide +kernel
theorem dX11_steps_16 : decode cX11_steps 16 = .ok (.istore_n 2, 1) := by decide +kernel
theorem dX11_steps_17 : decode cX11_steps 17 = .ok (.iload_n 2, 1) := by decide +kernel
theorem dX11_steps_18 : decode cX11_steps 18 = .ok (.iconst (-1), 1) := by decide +kernel
theorem dX11_steps_19 : decode cX11_steps 19 = .ok (.if_icmp .ne 5, 3) := by decide +kernel
theorem dX11_steps_22 : decode cX11_steps 22 = .ok (.iconst (-1), 1) := by decide +kernel
theorem dX11_steps_23 : decode cX11_steps 23 = .ok (.ireturn, 1) := by decide +kernel
theorem dX11_steps_24 : decode cX11_steps 24 = .ok (.aload_n 0, 1) := by decide +kernel
theorem dX11_steps_25 : decode cX11_steps 25 = .ok (.iload_n 2, 1) := by decide +kernel
theorem dX11_steps_26 : decode cX11_steps 26 = .ok (.invokevirtual 618, 3) := by decide +kernel
theorem dX11_steps_29 : decode cX11_steps 29 = .ok (.ifCond .ne 6, 3) := by decide +kernel
theorem dX11_steps_32 : decode cX11_steps 32 = .ok (.bipush (-2), 2) := by decide +kernel
theorem dX11_steps_34 : decode cX11_steps 34 = .ok (.ireturn, 1) := by decide +kernel
theorem dX11_steps_35 : decode cX11_steps 35 = .ok (.aload_n 0, 1) := by decide +kernel
theorem dX11_steps_36 : decode cX11_steps 36 = .ok (.invokevirtual 621, 3) := by decide +kernel
theorem dX11_steps_39 : decode cX11_steps 39 = .ok (.iload_n 2, 1) := by decide +kernel
theorem dX11_steps_40 : decode cX11_steps 40 = .ok (.ireturn, 1) := by decide +kernel
set_option maxRecDepth 10000 in
set_option maxHeartbeats 4000000 in
theorem A_X11_steps_16 {Z : az_Z} {d : Nat} (C : az_C Z yX11_steps cX11_steps 3 (some .int) d) (hD : 414 ≤ d) (n : Nat) {σ : az_Hp} {v0 w0 : Int} {r : (Int × az_Hp)} (h : fz_X11_steps_16 n σ v0 w0 = some r) : az_AW Z 3 16 [(13, v0), (31, 0), (31, 0)] [(0, w0)] σ (some (0, r.1), r.2) := by
  have hd1 : 1 ≤ d := by omega
  unfold fz_X11_steps_16 at h
  refine az_is2 (pc := 16) C rfl rfl dX11_steps_16 ?_
  refine az_il2 (pc := 17) C dX11_steps_17 ?_
  refine az_ikm1 (pc := 18) C dX11_steps_18 ?_
  refine az_icmp_ne (pc := 19) (tgt := 24) C h dX11_steps_19 (by decide) (fun _ h => ?_) (fun _ h => ?_)
  · refine az_al0 (pc := 24) C rfl rfl dX11_steps_24 ?_
    refine az_il2 (pc := 25) C dX11_steps_25 ?_
    refine az_cV1ii (pc := 26) (c := 11) C hd1 h mv_X11_makes ml_X11_618 rfl (fun x hx => A_X11_makes (by omega) n hx) dX11_steps_26 (fun r1 h => ?_)
    refine az_if_ne (pc := 29) (tgt := 35) C h dX11_steps_29 (by decide) (fun _ h => ?_) (fun _ h => ?_)
    · refine az_al0 (pc := 35) C rfl rfl dX11_steps_35 ?_
      refine az_cV0v (pc := 36) (c := 11) C hd1 h mv_X11_becomesNext ml_X11_621 rfl (fun x hx => A_X11_becomesNext (by omega) n hx) dX11_steps_36 (fun r2 h => ?_)
      refine az_il2 (pc := 39) C dX11_steps_39 ?_
      obtain rfl := Option.some.inj h
      exact az_ireturn (pc := 40) C dX11_steps_40 rfl
    refine az_bkm2 (pc := 32) C dX11_steps_32 ?_
    obtain rfl := Option.some.inj h
    exact az_ireturn (pc := 34) C dX11_steps_34 rfl
  refine az_ikm1 (pc := 22) C dX11_steps_22 ?_
  obtain rfl := Option.some.inj h
  exact az_ireturn (pc := 23) C dX11_steps_23 rfl
set_option maxRecDepth 10000 in
set_option maxHeartbeats 4000000 in
theorem A_X11_steps_e {Z : az_Z} {d : Nat} (C : az_C Z yX11_steps cX11_steps 3 (some .int) d) (hD : 414 ≤ d) (n : Nat) {σ : az_Hp} {v0 v1 : Int} {r : (Int × az_Hp)} (h : fz_X11_steps n σ v0 v1 = some r) : az_AW Z 3 0 [(13, v0), (0, v1), (31, 0)] [] σ (some (0, r.1), r.2) := by
  have hd1 : 1 ≤ d := by omega
  unfold fz_X11_steps at h
  refine az_il1 (pc := 0) C dX11_steps_0 ?_
  refine az_if_ne (pc := 1) (tgt := 12) C h dX11_steps_1 (by decide) (fun _ h => ?_) (fun _ h => ?_)
  · refine az_al0 (pc := 12) C rfl rfl dX11_steps_12 ?_
    refine az_cV0ii (pc := 13) (c := 11) C hd1 h mv_X11_firstWithout ml_X11_614 rfl (fun x hx => A_X11_firstWithout (by omega) n hx) dX11_steps_13 (fun r1 h => ?_)
    exact (az_wkk (A_X11_steps_16 C hD n h) (az_sE (az_sJ (az_sJ az_sN))))
  refine az_al0 (pc := 4) C rfl rfl dX11_steps_4 ?_
  refine az_ik0 (pc := 5) C dX11_steps_5 ?_
  refine az_cV1ii (pc := 6) (c := 11) C hd1 h mv_X11_firstWithin ml_X11_592 rfl (fun x hx => A_X11_firstWithin n 200 (by omega) hx) dX11_steps_6 (fun r2 h => ?_)
  refine az_goto (pc := 9) (tgt := 16) C dX11_steps_9 (by decide) ?_
  exact (az_wkk (A_X11_steps_16 C hD n h) (az_sE (az_sJ (az_sJ az_sN))))
set_option maxRecDepth 10000 in
set_option maxHeartbeats 4000000 in
theorem A_X11_steps {l : Launch} {d : Nat} (hD : 414 ≤ d) (n : Nat) {σ : az_Hp} {v0 v1 : Int} {r : (Int × az_Hp)} (h : fz_X11_steps n σ v0 v1 = some r) : az_AC l yX11_steps cX11_steps 3 (some .int) d [(13, v0), (0, v1)] σ (some (0, r.1), r.2) := az_AC.of mt_X11_steps rfl rfl rfl (fun Z hZ C => A_X11_steps_e C hD n h)
theorem dX11_reduces_0 : decode cX11_reduces 0 = .ok (.aload_n 0, 1) := by decide +kernel
theorem dX11_reduces_1 : decode cX11_reduces 1 = .ok (.iconst 0, 1) := by decide +kernel
theorem dX11_reduces_2 : decode cX11_reduces 2 = .ok (.putfield 624, 3) := by decide +kernel
theorem dX11_reduces_5 : decode cX11_reduces 5 = .ok (.aload_n 0, 1) := by decide +kernel
theorem dX11_reduces_6 : decode cX11_reduces 6 = .ok (.iconst 0, 1) := by decide +kernel
theorem dX11_reduces_7 : decode cX11_reduces 7 = .ok (.invokevirtual 627, 3) := by decide +kernel
theorem dX11_reduces_10 : decode cX11_reduces 10 = .ok (.aload_n 0, 1) := by decide +kernel
theorem dX11_reduces_11 : decode cX11_reduces 11 = .ok (.getfield 624, 3) := by decide +kernel
theorem dX11_reduces_14 : decode cX11_reduces 14 = .ok (.bipush 60, 2) := by decide +kernel
theorem dX11_reduces_16 : decode cX11_reduces 16 = .ok (.if_icmp .ge 11, 3) := by decide +kernel
theorem dX11_reduces_19 : decode cX11_reduces 19 = .ok (.aload_n 0, 1) := by decide +kernel
theorem dX11_reduces_20 : decode cX11_reduces 20 = .ok (.iload_n 1, 1) := by decide +kernel
theorem dX11_reduces_21 : decode cX11_reduces 21 = .ok (.invokevirtual 630, 3) := by decide +kernel
theorem dX11_reduces_24 : decode cX11_reduces 24 = .ok (.goto 19, 3) := by decide +kernel
theorem dX11_reduces_27 : decode cX11_reduces 27 = .ok (.iload_n 1, 1) := by decide +kernel
theorem dX11_reduces_28 : decode cX11_reduces 28 = .ok (.ifCond .ne 11, 3) := by decide +kernel
theorem dX11_reduces_31 : decode cX11_reduces 31 = .ok (.aload_n 0, 1) := by decide +kernel
theorem dX11_reduces_32 : decode cX11_reduces 32 = .ok (.iconst 0, 1) := by decide +kernel
theorem dX11_reduces_33 : decode cX11_reduces 33 = .ok (.invokevirtual 592, 3) := by decide +kernel
theorem dX11_reduces_36 : decode cX11_reduces 36 = .ok (.goto 7, 3) := by decide +kernel
theorem dX11_reduces_39 : decode cX11_reduces 39 = .ok (.aload_n 0, 1) := by decide +kernel
theorem dX11_reduces_40 : decode cX11_reduces 40 = .ok (.invokevirtual 614, 3) := by decide +kernel
theorem dX11_reduces_43 : decode cX11_reduces 43 = .ok (.istore_n 2, 1) := by decide +kernel
theorem dX11_reduces_44 : decode cX11_reduces 44 = .ok (.iload_n 2, 1) := by decide +kernel
theorem dX11_reduces_45 : decode cX11_reduces 45 = .ok (.iconst (-1), 1) := by decide +kernel
theorem dX11_reduces_46 : decode cX11_reduces 46 = .ok (.if_icmp .ne 5, 3) := by decide +kernel
theorem dX11_reduces_49 : decode cX11_reduces 49 = .ok (.iconst 0, 1) := by decide +kernel
theorem dX11_reduces_50 : decode cX11_reduces 50 = .ok (.ireturn, 1) := by decide +kernel
theorem dX11_reduces_51 : decode cX11_reduces 51 = .ok (.iload_n 2, 1) := by decide +kernel
theorem dX11_reduces_52 : decode cX11_reduces 52 = .ok (.bipush (-2), 2) := by decide +kernel
theorem dX11_reduces_54 : decode cX11_reduces 54 = .ok (.if_icmp .ne 6, 3) := by decide +kernel
theorem dX11_reduces_57 : decode cX11_reduces 57 = .ok (.bipush 6, 2) := by decide +kernel
theorem dX11_reduces_59 : decode cX11_reduces 59 = .ok (.ireturn, 1) := by decide +kernel
theorem dX11_reduces_60 : decode cX11_reduces 60 = .ok (.aload_n 0, 1) := by decide +kernel
theorem dX11_reduces_61 : decode cX11_reduces 61 = .ok (.getfield 624, 3) := by decide +kernel
theorem dX11_reduces_64 : decode cX11_reduces 64 = .ok (.bipush 60, 2) := by decide +kernel
theorem dX11_reduces_66 : decode cX11_reduces 66 = .ok (.if_icmp .ne 6, 3) := by decide +kernel
theorem dX11_reduces_69 : decode cX11_reduces 69 = .ok (.bipush 8, 2) := by decide +kernel
theorem dX11_reduces_71 : decode cX11_reduces 71 = .ok (.ireturn, 1) := by decide +kernel
theorem dX11_reduces_72 : decode cX11_reduces 72 = .ok (.aload_n 0, 1) := by decide +kernel
theorem dX11_reduces_73 : decode cX11_reduces 73 = .ok (.dup, 1) := by decide +kernel
theorem dX11_reduces_74 : decode cX11_reduces 74 = .ok (.getfield 624, 3) := by decide +kernel
theorem dX11_reduces_77 : decode cX11_reduces 77 = .ok (.iconst 1, 1) := by decide +kernel
theorem dX11_reduces_78 : decode cX11_reduces 78 = .ok (.iadd, 1) := by decide +kernel
theorem dX11_reduces_79 : decode cX11_reduces 79 = .ok (.putfield 624, 3) := by decide +kernel
theorem dX11_reduces_82 : decode cX11_reduces 82 = .ok (.iconst 0, 1) := by decide +kernel
theorem dX11_reduces_83 : decode cX11_reduces 83 = .ok (.istore_n 3, 1) := by decide +kernel
theorem dX11_reduces_84 : decode cX11_reduces 84 = .ok (.iload_n 3, 1) := by decide +kernel
theorem dX11_reduces_85 : decode cX11_reduces 85 = .ok (.aload_n 0, 1) := by decide +kernel
theorem dX11_reduces_86 : decode cX11_reduces 86 = .ok (.getfield 624, 3) := by decide +kernel
theorem dX11_reduces_89 : decode cX11_reduces 89 = .ok (.if_icmp .ge 56, 3) := by decide +kernel
theorem dX11_reduces_92 : decode cX11_reduces 92 = .ok (.aload_n 0, 1) := by decide +kernel
theorem dX11_reduces_93 : decode cX11_reduces 93 = .ok (.getfield 135, 3) := by decide +kernel
theorem dX11_reduces_96 : decode cX11_reduces 96 = .ok (.iload_n 3, 1) := by decide +kernel
theorem dX11_reduces_97 : decode cX11_reduces 97 = .ok (.iaload, 1) := by decide +kernel
theorem dX11_reduces_98 : decode cX11_reduces 98 = .ok (.aload_n 0, 1) := by decide +kernel
theorem dX11_reduces_99 : decode cX11_reduces 99 = .ok (.getfield 601, 3) := by decide +kernel
theorem dX11_reduces_102 : decode cX11_reduces 102 = .ok (.if_icmp .ne 37, 3) := by decide +kernel
theorem dX11_reduces_105 : decode cX11_reduces 105 = .ok (.aload_n 0, 1) := by decide +kernel
theorem dX11_reduces_106 : decode cX11_reduces 106 = .ok (.getfield 132, 3) := by decide +kernel
theorem dX11_reduces_109 : decode cX11_reduces 109 = .ok (.bipush 60, 2) := by decide +kernel
theorem dX11_reduces_111 : decode cX11_reduces 111 = .ok (.iload_n 3, 1) := by decide +kernel
theorem dX11_reduces_112 : decode cX11_reduces 112 = .ok (.imul, 1) := by decide +kernel
theorem dX11_reduces_113 : decode cX11_reduces 113 = .ok (.aload_n 0, 1) := by decide +kernel
theorem dX11_reduces_114 : decode cX11_reduces 114 = .ok (.getfield 126, 3) := by decide +kernel
theorem dX11_reduces_117 : decode cX11_reduces 117 = .ok (.iconst 0, 1) := by decide +kernel
theorem dX11_reduces_118 : decode cX11_reduces 118 = .ok (.aload_n 0, 1) := by decide +kernel
theorem dX11_reduces_119 : decode cX11_reduces 119 = .ok (.getfield 601, 3) := by decide +kernel
theorem dX11_reduces_122 : decode cX11_reduces 122 = .ok (.invokestatic 420, 3) := by decide +kernel
theorem dX11_reduces_125 : decode cX11_reduces 125 = .ok (.ifCond .ne 6, 3) := by decide +kernel
theorem dX11_reduces_128 : decode cX11_reduces 128 = .ok (.goto 11, 3) := by decide +kernel
theorem dX11_reduces_131 : decode cX11_reduces 131 = .ok (.aload_n 0, 1) := by decide +kernel
theorem dX11_reduces_132 : decode cX11_reduces 132 = .ok (.iload_n 3, 1) := by decide +kernel
theorem dX11_reduces_133 : decode cX11_reduces 133 = .ok (.putfield 633, 3) := by decide +kernel
theorem dX11_reduces_136 : decode cX11_reduces 136 = .ok (.bipush 7, 2) := by decide +kernel
theorem dX11_reduces_138 : decode cX11_reduces 138 = .ok (.ireturn, 1) := by decide +kernel
theorem dX11_reduces_139 : decode cX11_reduces 139 = .ok (.iinc 3 1, 3) := by decide +kernel
theorem dX11_reduces_142 : decode cX11_reduces 142 = .ok (.goto (-58), 3) := by decide +kernel
theorem dX11_reduces_145 : decode cX11_reduces 145 = .ok (.aload_n 0, 1) := by decide +kernel
theorem dX11_reduces_146 : decode cX11_reduces 146 = .ok (.aload_n 0, 1) := by decide +kernel
theorem dX11_reduces_147 : decode cX11_reduces 147 = .ok (.getfield 624, 3) := by decide +kernel
theorem dX11_reduces_150 : decode cX11_reduces 150 = .ok (.invokevirtual 627, 3) := by decide +kernel
theorem dX11_reduces_153 : decode cX11_reduces 153 = .ok (.goto (-143), 3) := by decide +kernel
set_option maxRecDepth 10000 in
set_option maxHeartbeats 4000000 in
theorem A_X11_reduces_84 {Z : az_Z} {d : Nat} (C : az_C Z yX11_reduces cX11_reduces 4 (some .int) d) (hD : 415 ≤ d) (n : Nat) {k10 : az_Hp → Int → Int → Option (Int × az_Hp)} (hk10 : ∀ {σ : az_Hp} {v0 v1 : Int} {r : (Int × az_Hp)}, k10 σ v0 v1 = some r → az_AW Z 4 10 [(13, v0), (0, v1), (31, 0), (31, 0)] [] σ (some (0, r.1), r.2)) (k : Nat) : ∀ {σ : az_Hp} {v0 v1 v3 : Int} {r : (Int × az_Hp)}, fz_X11_reduces_84 n k10 k σ v0 v1 v3 = some r → az_AW Z 4 84 [(13, v0), (0, v1), (31, 0), (0, v3)] [] σ (some (0, r.1), r.2) := by
  have hd1 : 1 ≤ d := by omega
  induction k with
  | zero => intro σ v0 v1 v3 r h; simp [fz_X11_reduces_84] at h
  | succ k ih =>
    intro σ v0 v1 v3 r h
    unfold fz_X11_reduces_84 at h
    refine az_il3 (pc := 84) C dX11_reduces_84 ?_
    refine az_al0 (pc := 85) C rfl rfl dX11_reduces_85 ?_
    refine az_getI (pc := 86) C fl_X11_624 rfl dX11_reduces_86 ?_
    refine az_icmp_ge (pc := 89) (tgt := 145) C h dX11_reduces_89 (by decide) (fun _ h => ?_) (fun _ h => ?_)
    · refine az_al0 (pc := 145) C rfl rfl dX11_reduces_145 ?_
      refine az_al0 (pc := 146) C rfl rfl dX11_reduces_146 ?_
      refine az_getI (pc := 147) C fl_X11_624 rfl dX11_reduces_147 ?_
      refine az_cV1v (pc := 150) (c := 11) C hd1 h mv_X11_keepsPast ml_X11_627 rfl (fun x hx => A_X11_keepsPast (by omega) n hx) dX11_reduces_150 (fun r1 h => ?_)
      refine az_goto (pc := 153) (tgt := 10) C dX11_reduces_153 (by decide) ?_
      exact (az_wkk (hk10 h) (az_sE (az_sE (az_sJ (az_sJ az_sN)))))
    refine az_al0 (pc := 92) C rfl rfl dX11_reduces_92 ?_
    refine az_getR (pc := 93) (c2 := 13) C h fl_X11_135 rfl rfl dX11_reduces_93 (fun h => ?_)
    refine az_il3 (pc := 96) C dX11_reduces_96 ?_
    refine az_iaload (pc := 97) C h dX11_reduces_97 (fun h => ?_)
    refine az_al0 (pc := 98) C rfl rfl dX11_reduces_98 ?_
    refine az_getI (pc := 99) C fl_X11_601 rfl dX11_reduces_99 ?_
    refine az_icmp_ne (pc := 102) (tgt := 139) C h dX11_reduces_102 (by decide) (fun _ h => ?_) (fun _ h => ?_)
    · refine az_ii3 (pc := 139) C az_n1 rfl rfl dX11_reduces_139 ?_
      refine az_goto (pc := 142) (tgt := 84) C dX11_reduces_142 (by decide) ?_
      exact (ih h)
    refine az_al0 (pc := 105) C rfl rfl dX11_reduces_105 ?_
    refine az_getR (pc := 106) (c2 := 13) C h fl_X11_132 rfl rfl dX11_reduces_106 (fun h => ?_)
    refine az_bk60 (pc := 109) C dX11_reduces_109 ?_
    refine az_il3 (pc := 111) C dX11_reduces_111 ?_
    refine az_imul (pc := 112) C dX11_reduces_112 ?_
    refine az_al0 (pc := 113) C rfl rfl dX11_reduces_113 ?_
    refine az_getR (pc := 114) (c2 := 13) C h fl_X11_126 rfl rfl dX11_reduces_114 (fun h => ?_)
    refine az_ik0 (pc := 117) C dX11_reduces_117 ?_
    refine az_al0 (pc := 118) C rfl rfl dX11_reduces_118 ?_
    refine az_getI (pc := 119) C fl_X11_601 rfl dX11_reduces_119 ?_
    refine az_cS5pi (pc := 122) C hd1 h ms_X11_isSame ml_X11_420 rfl (fun x hx => A_X11_isSame (by omega) n hx) dX11_reduces_122 (fun r6 h => ?_)
    refine az_if_ne (pc := 125) (tgt := 131) C h dX11_reduces_125 (by decide) (fun _ h => ?_) (fun _ h => ?_)
    · refine az_al0 (pc := 131) C rfl rfl dX11_reduces_131 ?_
      refine az_il3 (pc := 132) C dX11_reduces_132 ?_
      refine az_putI (pc := 133) C fl_X11_633 (Or.inl rfl) rfl dX11_reduces_133 ?_
      refine az_bk7 (pc := 136) C dX11_reduces_136 ?_
      obtain rfl := Option.some.inj h
      exact az_ireturn (pc := 138) C dX11_reduces_138 rfl
    refine az_goto (pc := 128) (tgt := 139) C dX11_reduces_128 (by decide) ?_
    refine az_ii3 (pc := 139) C az_n1 rfl rfl dX11_reduces_139 ?_
    refine az_goto (pc := 142) (tgt := 84) C dX11_reduces_142 (by decide) ?_
    exact (ih h)
set_option maxRecDepth 10000 in
set_option maxHeartbeats 4000000 in
theorem A_X11_reduces_43 {Z : az_Z} {d : Nat} (C : az_C Z yX11_reduces cX11_reduces 4 (some .int) d) (hD : 415 ≤ d) (n : Nat) {k10 : az_Hp → Int → Int → Option (Int × az_Hp)} (hk10 : ∀ {σ : az_Hp} {v0 v1 : Int} {r : (Int × az_Hp)}, k10 σ v0 v1 = some r → az_AW Z 4 10 [(13, v0), (0, v1), (31, 0), (31, 0)] [] σ (some (0, r.1), r.2)) {σ : az_Hp} {v0 v1 w0 : Int} {r : (Int × az_Hp)} (h : fz_X11_reduces_43 n k10 σ v0 v1 w0 = some r) : az_AW Z 4 43 [(13, v0), (0, v1), (31, 0), (31, 0)] [(0, w0)] σ (some (0, r.1), r.2) := by
  have hd1 : 1 ≤ d := by omega
  unfold fz_X11_reduces_43 at h
  refine az_is2 (pc := 43) C rfl rfl dX11_reduces_43 ?_
  refine az_il2 (pc := 44) C dX11_reduces_44 ?_
  refine az_ikm1 (pc := 45) C dX11_reduces_45 ?_
  refine az_icmp_ne (pc := 46) (tgt := 51) C h dX11_reduces_46 (by decide) (fun _ h => ?_) (fun _ h => ?_)
  · refine az_il2 (pc := 51) C dX11_reduces_51 ?_
    refine az_bkm2 (pc := 52) C dX11_reduces_52 ?_
    refine az_icmp_ne (pc := 54) (tgt := 60) C h dX11_reduces_54 (by decide) (fun _ h => ?_) (fun _ h => ?_)
    · refine az_al0 (pc := 60) C rfl rfl dX11_reduces_60 ?_
      refine az_getI (pc := 61) C fl_X11_624 rfl dX11_reduces_61 ?_
      refine az_bk60 (pc := 64) C dX11_reduces_64 ?_
      refine az_icmp_ne (pc := 66) (tgt := 72) C h dX11_reduces_66 (by decide) (fun _ h => ?_) (fun _ h => ?_)
      · refine az_al0 (pc := 72) C rfl rfl dX11_reduces_72 ?_
        refine az_dup (pc := 73) C rfl rfl dX11_reduces_73 ?_
        refine az_getI (pc := 74) C fl_X11_624 rfl dX11_reduces_74 ?_
        refine az_ik1 (pc := 77) C dX11_reduces_77 ?_
        refine az_iadd (pc := 78) C dX11_reduces_78 ?_
        refine az_putI (pc := 79) C fl_X11_624 (Or.inl rfl) rfl dX11_reduces_79 ?_
        refine az_ik0 (pc := 82) C dX11_reduces_82 ?_
        refine az_is3 (pc := 83) C rfl rfl dX11_reduces_83 ?_
        exact (az_wkk (A_X11_reduces_84 C hD n (fun h => hk10 h) n h) (az_sE (az_sE (az_sJ (az_sE az_sN)))))
      refine az_bk8 (pc := 69) C dX11_reduces_69 ?_
      obtain rfl := Option.some.inj h
      exact az_ireturn (pc := 71) C dX11_reduces_71 rfl
    refine az_bk6 (pc := 57) C dX11_reduces_57 ?_
    obtain rfl := Option.some.inj h
    exact az_ireturn (pc := 59) C dX11_reduces_59 rfl
  refine az_ik0 (pc := 49) C dX11_reduces_49 ?_
  obtain rfl := Option.some.inj h
  exact az_ireturn (pc := 50) C dX11_reduces_50 rfl
set_option maxRecDepth 10000 in
set_option maxHeartbeats 4000000 in
theorem A_X11_reduces_10 {Z : az_Z} {d : Nat} (C : az_C Z yX11_reduces cX11_reduces 4 (some .int) d) (hD : 415 ≤ d) (n : Nat) (k : Nat) : ∀ {σ : az_Hp} {v0 v1 : Int} {r : (Int × az_Hp)}, fz_X11_reduces_10 n k σ v0 v1 = some r → az_AW Z 4 10 [(13, v0), (0, v1), (31, 0), (31, 0)] [] σ (some (0, r.1), r.2) := by
  have hd1 : 1 ≤ d := by omega
  induction k with
  | zero => intro σ v0 v1 r h; simp [fz_X11_reduces_10] at h
  | succ k ih =>
    intro σ v0 v1 r h
    unfold fz_X11_reduces_10 at h
    refine az_al0 (pc := 10) C rfl rfl dX11_reduces_10 ?_
    refine az_getI (pc := 11) C fl_X11_624 rfl dX11_reduces_11 ?_
    refine az_bk60 (pc := 14) C dX11_reduces_14 ?_
    refine az_icmp_ge (pc := 16) (tgt := 27) C h dX11_reduces_16 (by decide) (fun _ h => ?_) (fun _ h => ?_)
    · refine az_il1 (pc := 27) C dX11_reduces_27 ?_
      refine az_if_ne (pc := 28) (tgt := 39) C h dX11_reduces_28 (by decide) (fun _ h => ?_) (fun _ h => ?_)
      · refine az_al0 (pc := 39) C rfl rfl dX11_reduces_39 ?_
        refine az_cV0ii (pc := 40) (c := 11) C hd1 h mv_X11_firstWithout ml_X11_614 rfl (fun x hx => A_X11_firstWithout (by omega) n hx) dX11_reduces_40 (fun r1 h => ?_)
        exact (A_X11_reduces_43 C hD n (fun h => ih h) h)
      refine az_al0 (pc := 31) C rfl rfl dX11_reduces_31 ?_
      refine az_ik0 (pc := 32) C dX11_reduces_32 ?_
      refine az_cV1ii (pc := 33) (c := 11) C hd1 h mv_X11_firstWithin ml_X11_592 rfl (fun x hx => A_X11_firstWithin n 200 (by omega) hx) dX11_reduces_33 (fun r2 h => ?_)
      refine az_goto (pc := 36) (tgt := 43) C dX11_reduces_36 (by decide) ?_
      exact (A_X11_reduces_43 C hD n (fun h => ih h) h)
    refine az_al0 (pc := 19) C rfl rfl dX11_reduces_19 ?_
    refine az_il1 (pc := 20) C dX11_reduces_20 ?_
    refine az_cV1ii (pc := 21) (c := 11) C hd1 h mv_X11_steps ml_X11_630 rfl (fun x hx => A_X11_steps (by omega) n hx) dX11_reduces_21 (fun r3 h => ?_)
    refine az_goto (pc := 24) (tgt := 43) C dX11_reduces_24 (by decide) ?_
    exact (A_X11_reduces_43 C hD n (fun h => ih h) h)
set_option maxRecDepth 10000 in
set_option maxHeartbeats 4000000 in
theorem A_X11_reduces_e {Z : az_Z} {d : Nat} (C : az_C Z yX11_reduces cX11_reduces 4 (some .int) d) (hD : 415 ≤ d) (n : Nat) {σ : az_Hp} {v0 v1 : Int} {r : (Int × az_Hp)} (h : fz_X11_reduces n σ v0 v1 = some r) : az_AW Z 4 0 [(13, v0), (0, v1), (31, 0), (31, 0)] [] σ (some (0, r.1), r.2) := by
  have hd1 : 1 ≤ d := by omega
  unfold fz_X11_reduces at h
  refine az_al0 (pc := 0) C rfl rfl dX11_reduces_0 ?_
  refine az_ik0 (pc := 1) C dX11_reduces_1 ?_
  refine az_putI (pc := 2) C fl_X11_624 (Or.inl rfl) rfl dX11_reduces_2 ?_
  refine az_al0 (pc := 5) C rfl rfl dX11_reduces_5 ?_
  refine az_ik0 (pc := 6) C dX11_reduces_6 ?_
  refine az_cV1v (pc := 7) (c := 11) C hd1 h mv_X11_keepsPast ml_X11_627 rfl (fun x hx => A_X11_keepsPast (by omega) n hx) dX11_reduces_7 (fun r1 h => ?_)
  exact (A_X11_reduces_10 C hD n n h)
set_option maxRecDepth 10000 in
set_option maxHeartbeats 4000000 in
theorem A_X11_reduces {l : Launch} {d : Nat} (hD : 415 ≤ d) (n : Nat) {σ : az_Hp} {v0 v1 : Int} {r : (Int × az_Hp)} (h : fz_X11_reduces n σ v0 v1 = some r) : az_AC l yX11_reduces cX11_reduces 4 (some .int) d [(13, v0), (0, v1)] σ (some (0, r.1), r.2) := az_AC.of mt_X11_reduces rfl rfl rfl (fun Z hZ C => A_X11_reduces_e C hD n h)
theorem dX11_reduce_0 : decode cX11_reduce 0 = .ok (.iload_n 1, 1) := by decide +kernel
theorem dX11_reduce_1 : decode cX11_reduce 1 = .ok (.iconst 0, 1) := by decide +kernel
theorem dX11_reduce_2 : decode cX11_reduce 2 = .ok (.iconst 1, 1) := by decide +kernel
theorem dX11_reduce_3 : decode cX11_reduce 3 = .ok (.invokestatic 354, 3) := by decide +kernel
theorem dX11_reduce_6 : decode cX11_reduce 6 = .ok (.ifCond .ne 9, 3) := by decide +kernel
theorem dX11_reduce_9 : decode cX11_reduce 9 = .ok (.aload_n 0, 1) := by decide +kernel
theorem dX11_reduce_10 : decode cX11_reduce 10 = .ok (.iconst 1, 1) := by decide +kernel
theorem dX11_reduce_11 : decode cX11_reduce 11 = .ok (.invokevirtual 372, 3) := by decide +kernel
theorem dX11_reduce_14 : decode cX11_reduce 14 = .ok (.ireturn, 1) := by decide +kernel
theorem dX11_reduce_15 : decode cX11_reduce 15 = .ok (.aload_n 0, 1) := by decide +kernel
theorem dX11_reduce_16 : decode cX11_reduce 16 = .ok (.getfield 388, 3) := by decide +kernel
theorem dX11_reduce_19 : decode cX11_reduce 19 = .ok (.ifCond .ne 9, 3) := by decide +kernel
theorem dX11_reduce_22 : decode cX11_reduce 22 = .ok (.aload_n 0, 1) := by decide +kernel
theorem dX11_reduce_23 : decode cX11_reduce 23 = .ok (.iconst 3, 1) := by decide +kernel
theorem dX11_reduce_24 : decode cX11_reduce 24 = .ok (.invokevirtual 372, 3) := by decide +kernel
theorem dX11_reduce_27 : decode cX11_reduce 27 = .ok (.ireturn, 1) := by decide +kernel
theorem dX11_reduce_28 : decode cX11_reduce 28 = .ok (.aload_n 0, 1) := by decide +kernel
theorem dX11_reduce_29 : decode cX11_reduce 29 = .ok (.invokevirtual 648, 3) := by decide +kernel
theorem dX11_reduce_32 : decode cX11_reduce 32 = .ok (.aload_n 0, 1) := by decide +kernel
theorem dX11_reduce_33 : decode cX11_reduce 33 = .ok (.iload_n 1, 1) := by decide +kernel
theorem dX11_reduce_34 : decode cX11_reduce 34 = .ok (.invokevirtual 654, 3) := by decide +kernel
theorem dX11_reduce_37 : decode cX11_reduce 37 = .ok (.istore_n 2, 1) := by decide +kernel
theorem dX11_reduce_38 : decode cX11_reduce 38 = .ok (.aload_n 0, 1) := by decide +kernel
theorem dX11_reduce_39 : decode cX11_reduce 39 = .ok (.invokevirtual 651, 3) := by decide +kernel
theorem dX11_reduce_42 : decode cX11_reduce 42 = .ok (.iload_n 2, 1) := by decide +kernel
theorem dX11_reduce_43 : decode cX11_reduce 43 = .ok (.bipush 7, 2) := by decide +kernel
theorem dX11_reduce_45 : decode cX11_reduce 45 = .ok (.if_icmp .ne 16, 3) := by decide +kernel
theorem dX11_reduce_48 : decode cX11_reduce 48 = .ok (.aload_n 0, 1) := by decide +kernel
theorem dX11_reduce_49 : decode cX11_reduce 49 = .ok (.aload_n 0, 1) := by decide +kernel
theorem dX11_reduce_50 : decode cX11_reduce 50 = .ok (.getfield 624, 3) := by decide +kernel
theorem dX11_reduce_53 : decode cX11_reduce 53 = .ok (.aload_n 0, 1) := by decide +kernel
theorem dX11_reduce_54 : decode cX11_reduce 54 = .ok (.getfield 633, 3) := by decide +kernel
theorem dX11_reduce_57 : decode cX11_reduce 57 = .ok (.isub, 1) := by decide +kernel
theorem dX11_reduce_58 : decode cX11_reduce 58 = .ok (.putfield 144, 3) := by decide +kernel
theorem dX11_reduce_61 : decode cX11_reduce 61 = .ok (.iload_n 2, 1) := by decide +kernel
theorem dX11_reduce_62 : decode cX11_reduce 62 = .ok (.ifCond .ne 14, 3) := by decide +kernel
theorem dX11_reduce_65 : decode cX11_reduce 65 = .ok (.aload_n 0, 1) := by decide +kernel
theorem dX11_reduce_66 : decode cX11_reduce 66 = .ok (.aload_n 0, 1) := by decide +kernel
theorem dX11_reduce_67 : decode cX11_reduce 67 = .ok (.getfield 624, 3) := by decide +kernel
theorem dX11_reduce_70 : decode cX11_reduce 70 = .ok (.invokevirtual 401, 3) := by decide +kernel
theorem dX11_reduce_73 : decode cX11_reduce 73 = .ok (.goto 8, 3) := by decide +kernel
theorem dX11_reduce_76 : decode cX11_reduce 76 = .ok (.aload_n 0, 1) := by decide +kernel
theorem dX11_reduce_77 : decode cX11_reduce 77 = .ok (.iload_n 2, 1) := by decide +kernel
theorem dX11_reduce_78 : decode cX11_reduce 78 = .ok (.invokevirtual 372, 3) := by decide +kernel
theorem dX11_reduce_81 : decode cX11_reduce 81 = .ok (.ireturn, 1) := by decide +kernel
set_option maxRecDepth 10000 in
set_option maxHeartbeats 4000000 in
theorem A_X11_reduce_61 {Z : az_Z} {d : Nat} (C : az_C Z yX11_reduce cX11_reduce 3 (some .int) d) (hD : 416 ≤ d) (n : Nat) {σ : az_Hp} {v0 v2 : Int} {r : (Int × az_Hp)} (h : fz_X11_reduce_61 n σ v0 v2 = some r) : az_AW Z 3 61 [(13, v0), (31, 0), (0, v2)] [] σ (some (0, r.1), r.2) := by
  have hd1 : 1 ≤ d := by omega
  unfold fz_X11_reduce_61 at h
  refine az_il2 (pc := 61) C dX11_reduce_61 ?_
  refine az_if_ne (pc := 62) (tgt := 76) C h dX11_reduce_62 (by decide) (fun _ h => ?_) (fun _ h => ?_)
  · refine az_al0 (pc := 76) C rfl rfl dX11_reduce_76 ?_
    refine az_il2 (pc := 77) C dX11_reduce_77 ?_
    refine az_cV1ii (pc := 78) (c := 11) C hd1 h mv_X11_refuse ml_X11_372 rfl (fun x hx => A_X11_refuse (by omega) hx) dX11_reduce_78 (fun r1 h => ?_)
    obtain rfl := Option.some.inj h
    exact az_ireturn (pc := 81) C dX11_reduce_81 rfl
  refine az_al0 (pc := 65) C rfl rfl dX11_reduce_65 ?_
  refine az_al0 (pc := 66) C rfl rfl dX11_reduce_66 ?_
  refine az_getI (pc := 67) C fl_X11_624 rfl dX11_reduce_67 ?_
  refine az_cV1ii (pc := 70) (c := 11) C hd1 h mv_X11_gives ml_X11_401 rfl (fun x hx => A_X11_gives (by omega) hx) dX11_reduce_70 (fun r2 h => ?_)
  refine az_goto (pc := 73) (tgt := 81) C dX11_reduce_73 (by decide) ?_
  obtain rfl := Option.some.inj h
  exact az_ireturn (pc := 81) C dX11_reduce_81 rfl
set_option maxRecDepth 10000 in
set_option maxHeartbeats 4000000 in
theorem A_X11_reduce_e {Z : az_Z} {d : Nat} (C : az_C Z yX11_reduce cX11_reduce 3 (some .int) d) (hD : 416 ≤ d) (n : Nat) {σ : az_Hp} {v0 v1 : Int} {r : (Int × az_Hp)} (h : fz_X11_reduce n σ v0 v1 = some r) : az_AW Z 3 0 [(13, v0), (0, v1), (31, 0)] [] σ (some (0, r.1), r.2) := by
  have hd1 : 1 ≤ d := by omega
  unfold fz_X11_reduce at h
  refine az_il1 (pc := 0) C dX11_reduce_0 ?_
  refine az_ik0 (pc := 1) C dX11_reduce_1 ?_
  refine az_ik1 (pc := 2) C dX11_reduce_2 ?_
  refine az_cS3pi (pc := 3) C hd1 h ms_X11_isFrom ml_X11_354 rfl (fun x hx => A_X11_isFrom (by omega) hx) dX11_reduce_3 (fun r1 h => ?_)
  refine az_if_ne (pc := 6) (tgt := 15) C h dX11_reduce_6 (by decide) (fun _ h => ?_) (fun _ h => ?_)
  · refine az_al0 (pc := 15) C rfl rfl dX11_reduce_15 ?_
    refine az_getI (pc := 16) C fl_X11_388 rfl dX11_reduce_16 ?_
    refine az_if_ne (pc := 19) (tgt := 28) C h dX11_reduce_19 (by decide) (fun _ h => ?_) (fun _ h => ?_)
    · refine az_al0 (pc := 28) C rfl rfl dX11_reduce_28 ?_
      refine az_cV0v (pc := 29) (c := 11) C hd1 h mv_X11_laysTerm ml_X11_648 rfl (fun x hx => A_X11_laysTerm (by omega) n hx) dX11_reduce_29 (fun r2 h => ?_)
      refine az_al0 (pc := 32) C rfl rfl dX11_reduce_32 ?_
      refine az_il1 (pc := 33) C dX11_reduce_33 ?_
      refine az_cV1ii (pc := 34) (c := 11) C hd1 h mv_X11_reduces ml_X11_654 rfl (fun x hx => A_X11_reduces (by omega) n hx) dX11_reduce_34 (fun r3 h => ?_)
      refine az_is2 (pc := 37) C rfl rfl dX11_reduce_37 ?_
      refine az_al0 (pc := 38) C rfl rfl dX11_reduce_38 ?_
      refine az_cV0v (pc := 39) (c := 11) C hd1 h mv_X11_keepsTerm ml_X11_651 rfl (fun x hx => A_X11_keepsTerm (by omega) n hx) dX11_reduce_39 (fun r4 h => ?_)
      refine az_il2 (pc := 42) C dX11_reduce_42 ?_
      refine az_bk7 (pc := 43) C dX11_reduce_43 ?_
      refine az_icmp_ne (pc := 45) (tgt := 61) C h dX11_reduce_45 (by decide) (fun _ h => ?_) (fun _ h => ?_)
      · exact (az_wkk (A_X11_reduce_61 C hD n h) (az_sE (az_sJ (az_sE az_sN))))
      refine az_al0 (pc := 48) C rfl rfl dX11_reduce_48 ?_
      refine az_al0 (pc := 49) C rfl rfl dX11_reduce_49 ?_
      refine az_getI (pc := 50) C fl_X11_624 rfl dX11_reduce_50 ?_
      refine az_al0 (pc := 53) C rfl rfl dX11_reduce_53 ?_
      refine az_getI (pc := 54) C fl_X11_633 rfl dX11_reduce_54 ?_
      refine az_isub (pc := 57) C dX11_reduce_57 ?_
      refine az_putI (pc := 58) C fl_X11_144 (Or.inl rfl) rfl dX11_reduce_58 ?_
      exact (az_wkk (A_X11_reduce_61 C hD n h) (az_sE (az_sJ (az_sE az_sN))))
    refine az_al0 (pc := 22) C rfl rfl dX11_reduce_22 ?_
    refine az_ik3 (pc := 23) C dX11_reduce_23 ?_
    refine az_cV1ii (pc := 24) (c := 11) C hd1 h mv_X11_refuse ml_X11_372 rfl (fun x hx => A_X11_refuse (by omega) hx) dX11_reduce_24 (fun r5 h => ?_)
    obtain rfl := Option.some.inj h
    exact az_ireturn (pc := 27) C dX11_reduce_27 rfl
  refine az_al0 (pc := 9) C rfl rfl dX11_reduce_9 ?_
  refine az_ik1 (pc := 10) C dX11_reduce_10 ?_
  refine az_cV1ii (pc := 11) (c := 11) C hd1 h mv_X11_refuse ml_X11_372 rfl (fun x hx => A_X11_refuse (by omega) hx) dX11_reduce_11 (fun r6 h => ?_)
  obtain rfl := Option.some.inj h
  exact az_ireturn (pc := 14) C dX11_reduce_14 rfl
set_option maxRecDepth 10000 in
set_option maxHeartbeats 4000000 in
theorem A_X11_reduce {l : Launch} {d : Nat} (hD : 416 ≤ d) (n : Nat) {σ : az_Hp} {v0 v1 : Int} {r : (Int × az_Hp)} (h : fz_X11_reduce n σ v0 v1 = some r) : az_AC l yX11_reduce cX11_reduce 3 (some .int) d [(13, v0), (0, v1)] σ (some (0, r.1), r.2) := az_AC.of mt_X11_reduce rfl rfl rfl (fun Z hZ C => A_X11_reduce_e C hD n h)
theorem dX11_status_0 : decode cX11_status 0 = .ok (.aload_n 0, 1) := by decide +kernel
theorem dX11_status_1 : decode cX11_status 1 = .ok (.getfield 213, 3) := by decide +kernel
theorem dX11_status_4 : decode cX11_status 4 = .ok (.ireturn, 1) := by decide +kernel
set_option maxRecDepth 10000 in
set_option maxHeartbeats 4000000 in
theorem A_X11_status_e {Z : az_Z} {d : Nat} (C : az_C Z yX11_status cX11_status 1 (some .int) d) (hD : 1 ≤ d) {σ : az_Hp} {v0 : Int} {r : Int} (h : fz_X11_status σ v0 = some r) : az_AW Z 1 0 [(13, v0)] [] σ (some (0, r), σ) := by
  have hd1 : 1 ≤ d := by omega
  unfold fz_X11_status at h
  refine az_al0 (pc := 0) C rfl rfl dX11_status_0 ?_
  refine az_getI (pc := 1) C fl_X11_213 rfl dX11_status_1 ?_
  obtain rfl := Option.some.inj h
  exact az_ireturn (pc := 4) C dX11_status_4 rfl
set_option maxRecDepth 10000 in
set_option maxHeartbeats 4000000 in
theorem A_X11_status {l : Launch} {d : Nat} (hD : 1 ≤ d) {σ : az_Hp} {v0 : Int} {r : Int} (h : fz_X11_status σ v0 = some r) : az_AC l yX11_status cX11_status 1 (some .int) d [(13, v0)] σ (some (0, r), σ) := az_AC.of mt_X11_status rfl rfl rfl (fun Z hZ C => A_X11_status_e C hD h)
theorem dX11_step_0 : decode cX11_step 0 = .ok (.iload_n 1, 1) := by decide +kernel
theorem dX11_step_1 : decode cX11_step 1 = .ok (.iconst 0, 1) := by decide +kernel
theorem dX11_step_2 : decode cX11_step 2 = .ok (.iconst 1, 1) := by decide +kernel
theorem dX11_step_3 : decode cX11_step 3 = .ok (.invokestatic 354, 3) := by decide +kernel
theorem dX11_step_6 : decode cX11_step 6 = .ok (.ifCond .ne 9, 3) := by decide +kernel
theorem dX11_step_9 : decode cX11_step 9 = .ok (.aload_n 0, 1) := by decide +kernel
theorem dX11_step_10 : decode cX11_step 10 = .ok (.iconst 1, 1) := by decide +kernel
theorem dX11_step_11 : decode cX11_step 11 = .ok (.invokevirtual 372, 3) := by decide +kernel
theorem dX11_step_14 : decode cX11_step 14 = .ok (.ireturn, 1) := by decide +kernel
theorem dX11_step_15 : decode cX11_step 15 = .ok (.aload_n 0, 1) := by decide +kernel
theorem dX11_step_16 : decode cX11_step 16 = .ok (.getfield 388, 3) := by decide +kernel
theorem dX11_step_19 : decode cX11_step 19 = .ok (.ifCond .ne 9, 3) := by decide +kernel
theorem dX11_step_22 : decode cX11_step 22 = .ok (.aload_n 0, 1) := by decide +kernel
theorem dX11_step_23 : decode cX11_step 23 = .ok (.iconst 3, 1) := by decide +kernel
theorem dX11_step_24 : decode cX11_step 24 = .ok (.invokevirtual 372, 3) := by decide +kernel
theorem dX11_step_27 : decode cX11_step 27 = .ok (.ireturn, 1) := by decide +kernel
theorem dX11_step_28 : decode cX11_step 28 = .ok (.aload_n 0, 1) := by decide +kernel
theorem dX11_step_29 : decode cX11_step 29 = .ok (.invokevirtual 648, 3) := by decide +kernel
theorem dX11_step_32 : decode cX11_step 32 = .ok (.aload_n 0, 1) := by decide +kernel
theorem dX11_step_33 : decode cX11_step 33 = .ok (.iload_n 1, 1) := by decide +kernel
theorem dX11_step_34 : decode cX11_step 34 = .ok (.invokevirtual 630, 3) := by decide +kernel
theorem dX11_step_37 : decode cX11_step 37 = .ok (.istore_n 2, 1) := by decide +kernel
theorem dX11_step_38 : decode cX11_step 38 = .ok (.iload_n 2, 1) := by decide +kernel
theorem dX11_step_39 : decode cX11_step 39 = .ok (.ifCond .ge 19, 3) := by decide +kernel
theorem dX11_step_42 : decode cX11_step 42 = .ok (.aload_n 0, 1) := by decide +kernel
theorem dX11_step_43 : decode cX11_step 43 = .ok (.iload_n 2, 1) := by decide +kernel
theorem dX11_step_44 : decode cX11_step 44 = .ok (.iconst (-1), 1) := by decide +kernel
theorem dX11_step_45 : decode cX11_step 45 = .ok (.if_icmp .ne 7, 3) := by decide +kernel
theorem dX11_step_48 : decode cX11_step 48 = .ok (.iconst 5, 1) := by decide +kernel
theorem dX11_step_49 : decode cX11_step 49 = .ok (.goto 5, 3) := by decide +kernel
theorem dX11_step_52 : decode cX11_step 52 = .ok (.bipush 6, 2) := by decide +kernel
theorem dX11_step_54 : decode cX11_step 54 = .ok (.invokevirtual 372, 3) := by decide +kernel
theorem dX11_step_57 : decode cX11_step 57 = .ok (.ireturn, 1) := by decide +kernel
theorem dX11_step_58 : decode cX11_step 58 = .ok (.aload_n 0, 1) := by decide +kernel
theorem dX11_step_59 : decode cX11_step 59 = .ok (.invokevirtual 651, 3) := by decide +kernel
theorem dX11_step_62 : decode cX11_step 62 = .ok (.aload_n 0, 1) := by decide +kernel
theorem dX11_step_63 : decode cX11_step 63 = .ok (.iload_n 2, 1) := by decide +kernel
theorem dX11_step_64 : decode cX11_step 64 = .ok (.invokevirtual 401, 3) := by decide +kernel
theorem dX11_step_67 : decode cX11_step 67 = .ok (.ireturn, 1) := by decide +kernel
set_option maxRecDepth 10000 in
set_option maxHeartbeats 4000000 in
theorem A_X11_step_e {Z : az_Z} {d : Nat} (C : az_C Z yX11_step cX11_step 3 (some .int) d) (hD : 415 ≤ d) (n : Nat) {σ : az_Hp} {v0 v1 : Int} {r : (Int × az_Hp)} (h : fz_X11_step n σ v0 v1 = some r) : az_AW Z 3 0 [(13, v0), (0, v1), (31, 0)] [] σ (some (0, r.1), r.2) := by
  have hd1 : 1 ≤ d := by omega
  unfold fz_X11_step at h
  refine az_il1 (pc := 0) C dX11_step_0 ?_
  refine az_ik0 (pc := 1) C dX11_step_1 ?_
  refine az_ik1 (pc := 2) C dX11_step_2 ?_
  refine az_cS3pi (pc := 3) C hd1 h ms_X11_isFrom ml_X11_354 rfl (fun x hx => A_X11_isFrom (by omega) hx) dX11_step_3 (fun r1 h => ?_)
  refine az_if_ne (pc := 6) (tgt := 15) C h dX11_step_6 (by decide) (fun _ h => ?_) (fun _ h => ?_)
  · refine az_al0 (pc := 15) C rfl rfl dX11_step_15 ?_
    refine az_getI (pc := 16) C fl_X11_388 rfl dX11_step_16 ?_
    refine az_if_ne (pc := 19) (tgt := 28) C h dX11_step_19 (by decide) (fun _ h => ?_) (fun _ h => ?_)
    · refine az_al0 (pc := 28) C rfl rfl dX11_step_28 ?_
      refine az_cV0v (pc := 29) (c := 11) C hd1 h mv_X11_laysTerm ml_X11_648 rfl (fun x hx => A_X11_laysTerm (by omega) n hx) dX11_step_29 (fun r2 h => ?_)
      refine az_al0 (pc := 32) C rfl rfl dX11_step_32 ?_
      refine az_il1 (pc := 33) C dX11_step_33 ?_
      refine az_cV1ii (pc := 34) (c := 11) C hd1 h mv_X11_steps ml_X11_630 rfl (fun x hx => A_X11_steps (by omega) n hx) dX11_step_34 (fun r3 h => ?_)
      refine az_is2 (pc := 37) C rfl rfl dX11_step_37 ?_
      refine az_il2 (pc := 38) C dX11_step_38 ?_
      refine az_if_ge (pc := 39) (tgt := 58) C h dX11_step_39 (by decide) (fun _ h => ?_) (fun _ h => ?_)
      · refine az_al0 (pc := 58) C rfl rfl dX11_step_58 ?_
        refine az_cV0v (pc := 59) (c := 11) C hd1 h mv_X11_keepsTerm ml_X11_651 rfl (fun x hx => A_X11_keepsTerm (by omega) n hx) dX11_step_59 (fun r4 h => ?_)
        refine az_al0 (pc := 62) C rfl rfl dX11_step_62 ?_
        refine az_il2 (pc := 63) C dX11_step_63 ?_
        refine az_cV1ii (pc := 64) (c := 11) C hd1 h mv_X11_gives ml_X11_401 rfl (fun x hx => A_X11_gives (by omega) hx) dX11_step_64 (fun r5 h => ?_)
        obtain rfl := Option.some.inj h
        exact az_ireturn (pc := 67) C dX11_step_67 rfl
      refine az_al0 (pc := 42) C rfl rfl dX11_step_42 ?_
      refine az_il2 (pc := 43) C dX11_step_43 ?_
      refine az_ikm1 (pc := 44) C dX11_step_44 ?_
      refine az_icmp_ne (pc := 45) (tgt := 52) C h dX11_step_45 (by decide) (fun _ h => ?_) (fun _ h => ?_)
      · refine az_bk6 (pc := 52) C dX11_step_52 ?_
        refine az_cV1ii (pc := 54) (c := 11) C hd1 h mv_X11_refuse ml_X11_372 rfl (fun x hx => A_X11_refuse (by omega) hx) dX11_step_54 (fun r6 h => ?_)
        obtain rfl := Option.some.inj h
        exact az_ireturn (pc := 57) C dX11_step_57 rfl
      refine az_ik5 (pc := 48) C dX11_step_48 ?_
      refine az_goto (pc := 49) (tgt := 54) C dX11_step_49 (by decide) ?_
      refine az_cV1ii (pc := 54) (c := 11) C hd1 h mv_X11_refuse ml_X11_372 rfl (fun x hx => A_X11_refuse (by omega) hx) dX11_step_54 (fun r7 h => ?_)
      obtain rfl := Option.some.inj h
      exact az_ireturn (pc := 57) C dX11_step_57 rfl
    refine az_al0 (pc := 22) C rfl rfl dX11_step_22 ?_
    refine az_ik3 (pc := 23) C dX11_step_23 ?_
    refine az_cV1ii (pc := 24) (c := 11) C hd1 h mv_X11_refuse ml_X11_372 rfl (fun x hx => A_X11_refuse (by omega) hx) dX11_step_24 (fun r8 h => ?_)
    obtain rfl := Option.some.inj h
    exact az_ireturn (pc := 27) C dX11_step_27 rfl
  refine az_al0 (pc := 9) C rfl rfl dX11_step_9 ?_
  refine az_ik1 (pc := 10) C dX11_step_10 ?_
  refine az_cV1ii (pc := 11) (c := 11) C hd1 h mv_X11_refuse ml_X11_372 rfl (fun x hx => A_X11_refuse (by omega) hx) dX11_step_11 (fun r9 h => ?_)
  obtain rfl := Option.some.inj h
  exact az_ireturn (pc := 14) C dX11_step_14 rfl
set_option maxRecDepth 10000 in
set_option maxHeartbeats 4000000 in
theorem A_X11_step {l : Launch} {d : Nat} (hD : 415 ≤ d) (n : Nat) {σ : az_Hp} {v0 v1 : Int} {r : (Int × az_Hp)} (h : fz_X11_step n σ v0 v1 = some r) : az_AC l yX11_step cX11_step 3 (some .int) d [(13, v0), (0, v1)] σ (some (0, r.1), r.2) := az_AC.of mt_X11_step rfl rfl rfl (fun Z hZ C => A_X11_step_e C hD n h)
theorem dX11_still_0 : decode cX11_still 0 = .ok (.aload_n 0, 1) := by decide +kernel
theorem dX11_still_1 : decode cX11_still 1 = .ok (.getfield 388, 3) := by decide +kernel
theorem dX11_still_4 : decode cX11_still 4 = .ok (.ifCond .ne 9, 3) := by decide +kernel
theorem dX11_still_7 : decode cX11_still 7 = .ok (.aload_n 0, 1) := by decide +kernel
theorem dX11_still_8 : decode cX11_still 8 = .ok (.iconst 3, 1) := by decide +kernel
theorem dX11_still_9 : decode cX11_still 9 = .ok (.invokevirtual 372, 3) := by decide +kernel
theorem dX11_still_12 : decode cX11_still 12 = .ok (.ireturn, 1) := by decide +kernel
theorem dX11_still_13 : decode cX11_still 13 = .ok (.aload_n 0, 1) := by decide +kernel
theorem dX11_still_14 : decode cX11_still 14 = .ok (.iload_n 1, 1) := by decide +kernel
theorem dX11_still_15 : decode cX11_still 15 = .ok (.invokevirtual 642, 3) := by decide +kernel
theorem dX11_still_18 : decode cX11_still 18 = .ok (.ifCond .eq 11, 3) := by decide +kernel
theorem dX11_still_21 : decode cX11_still 21 = .ok (.aload_n 0, 1) := by decide +kernel
theorem dX11_still_22 : decode cX11_still 22 = .ok (.iload_n 2, 1) := by decide +kernel
theorem dX11_still_23 : decode cX11_still 23 = .ok (.invokevirtual 471, 3) := by decide +kernel
theorem dX11_still_26 : decode cX11_still 26 = .ok (.ifCond .ne 9, 3) := by decide +kernel
theorem dX11_still_29 : decode cX11_still 29 = .ok (.aload_n 0, 1) := by decide +kernel
theorem dX11_still_30 : decode cX11_still 30 = .ok (.iconst 2, 1) := by decide +kernel
theorem dX11_still_31 : decode cX11_still 31 = .ok (.invokevirtual 372, 3) := by decide +kernel
theorem dX11_still_34 : decode cX11_still 34 = .ok (.ireturn, 1) := by decide +kernel
theorem dX11_still_35 : decode cX11_still 35 = .ok (.aload_n 0, 1) := by decide +kernel
theorem dX11_still_36 : decode cX11_still 36 = .ok (.iload_n 2, 1) := by decide +kernel
theorem dX11_still_37 : decode cX11_still 37 = .ok (.aload_n 0, 1) := by decide +kernel
theorem dX11_still_38 : decode cX11_still 38 = .ok (.getfield 138, 3) := by decide +kernel
theorem dX11_still_41 : decode cX11_still 41 = .ok (.iload_n 1, 1) := by decide +kernel
theorem dX11_still_42 : decode cX11_still 42 = .ok (.invokevirtual 580, 3) := by decide +kernel
theorem dX11_still_45 : decode cX11_still 45 = .ok (.iconst 3, 1) := by decide +kernel
theorem dX11_still_46 : decode cX11_still 46 = .ok (.if_icmp .ne 20, 3) := by decide +kernel
theorem dX11_still_49 : decode cX11_still 49 = .ok (.aload_n 0, 1) := by decide +kernel
theorem dX11_still_50 : decode cX11_still 50 = .ok (.aload_n 0, 1) := by decide +kernel
theorem dX11_still_51 : decode cX11_still 51 = .ok (.iload_n 2, 1) := by decide +kernel
theorem dX11_still_52 : decode cX11_still 52 = .ok (.aload_n 0, 1) := by decide +kernel
theorem dX11_still_53 : decode cX11_still 53 = .ok (.getfield 138, 3) := by decide +kernel
theorem dX11_still_56 : decode cX11_still 56 = .ok (.iload_n 1, 1) := by decide +kernel
theorem dX11_still_57 : decode cX11_still 57 = .ok (.invokevirtual 576, 3) := by decide +kernel
theorem dX11_still_60 : decode cX11_still 60 = .ok (.invokevirtual 401, 3) := by decide +kernel
theorem dX11_still_63 : decode cX11_still 63 = .ok (.goto 8, 3) := by decide +kernel
theorem dX11_still_66 : decode cX11_still 66 = .ok (.aload_n 0, 1) := by decide +kernel
theorem dX11_still_67 : decode cX11_still 67 = .ok (.iconst 5, 1) := by decide +kernel
theorem dX11_still_68 : decode cX11_still 68 = .ok (.invokevirtual 372, 3) := by decide +kernel
theorem dX11_still_71 : decode cX11_still 71 = .ok (.ireturn, 1) := by decide +kernel
set_option maxRecDepth 10000 in
set_option maxHeartbeats 4000000 in
theorem A_X11_still_e {Z : az_Z} {d : Nat} (C : az_C Z yX11_still cX11_still 3 (some .int) d) (hD : 211 ≤ d) (n : Nat) {σ : az_Hp} {v0 v1 v2 : Int} {r : (Int × az_Hp)} (h : fz_X11_still n σ v0 v1 v2 = some r) : az_AW Z 3 0 [(13, v0), (0, v1), (0, v2)] [] σ (some (0, r.1), r.2) := by
  have hd1 : 1 ≤ d := by omega
  unfold fz_X11_still at h
  refine az_al0 (pc := 0) C rfl rfl dX11_still_0 ?_
  refine az_getI (pc := 1) C fl_X11_388 rfl dX11_still_1 ?_
  refine az_if_ne (pc := 4) (tgt := 13) C h dX11_still_4 (by decide) (fun _ h => ?_) (fun _ h => ?_)
  · refine az_al0 (pc := 13) C rfl rfl dX11_still_13 ?_
    refine az_il1 (pc := 14) C dX11_still_14 ?_
    refine az_cV1pi (pc := 15) (c := 11) C hd1 h mv_X11_isNode ml_X11_642 rfl (fun x hx => A_X11_isNode (by omega) hx) dX11_still_15 (fun r1 h => ?_)
    refine az_if_eq (pc := 18) (tgt := 29) C h dX11_still_18 (by decide) (fun _ h => ?_) (fun _ h => ?_)
    · refine az_al0 (pc := 29) C rfl rfl dX11_still_29 ?_
      refine az_ik2 (pc := 30) C dX11_still_30 ?_
      refine az_cV1ii (pc := 31) (c := 11) C hd1 h mv_X11_refuse ml_X11_372 rfl (fun x hx => A_X11_refuse (by omega) hx) dX11_still_31 (fun r2 h => ?_)
      obtain rfl := Option.some.inj h
      exact az_ireturn (pc := 34) C dX11_still_34 rfl
    refine az_al0 (pc := 21) C rfl rfl dX11_still_21 ?_
    refine az_il2 (pc := 22) C dX11_still_22 ?_
    refine az_cV1pi (pc := 23) (c := 11) C hd1 h mv_X11_isEquation ml_X11_471 rfl (fun x hx => A_X11_isEquation (by omega) hx) dX11_still_23 (fun r3 h => ?_)
    refine az_if_ne (pc := 26) (tgt := 35) C h dX11_still_26 (by decide) (fun _ h => ?_) (fun _ h => ?_)
    · refine az_al0 (pc := 35) C rfl rfl dX11_still_35 ?_
      refine az_il2 (pc := 36) C dX11_still_36 ?_
      refine az_al0 (pc := 37) C rfl rfl dX11_still_37 ?_
      refine az_getR (pc := 38) (c2 := 13) C h fl_X11_138 rfl rfl dX11_still_38 (fun h => ?_)
      refine az_il1 (pc := 41) C dX11_still_41 ?_
      refine az_cV3ii (pc := 42) (c := 11) C hd1 h mv_X11_whyNot ml_X11_580 rfl (fun x hx => A_X11_whyNot (by omega) n hx) dX11_still_42 (fun r5 h => ?_)
      refine az_ik3 (pc := 45) C dX11_still_45 ?_
      refine az_icmp_ne (pc := 46) (tgt := 66) C h dX11_still_46 (by decide) (fun _ h => ?_) (fun _ h => ?_)
      · refine az_al0 (pc := 66) C rfl rfl dX11_still_66 ?_
        refine az_ik5 (pc := 67) C dX11_still_67 ?_
        refine az_cV1ii (pc := 68) (c := 11) C hd1 h mv_X11_refuse ml_X11_372 rfl (fun x hx => A_X11_refuse (by omega) hx) dX11_still_68 (fun r6 h => ?_)
        obtain rfl := Option.some.inj h
        exact az_ireturn (pc := 71) C dX11_still_71 rfl
      refine az_al0 (pc := 49) C rfl rfl dX11_still_49 ?_
      refine az_al0 (pc := 50) C rfl rfl dX11_still_50 ?_
      refine az_il2 (pc := 51) C dX11_still_51 ?_
      refine az_al0 (pc := 52) C rfl rfl dX11_still_52 ?_
      refine az_getR (pc := 53) (c2 := 13) C h fl_X11_138 rfl rfl dX11_still_53 (fun h => ?_)
      refine az_il1 (pc := 56) C dX11_still_56 ?_
      refine az_cV3ii (pc := 57) (c := 11) C hd1 h mv_X11_mayStill ml_X11_576 rfl (fun x hx => A_X11_mayStill (by omega) n hx) dX11_still_57 (fun r8 h => ?_)
      refine az_cV1ii (pc := 60) (c := 11) C hd1 h mv_X11_gives ml_X11_401 rfl (fun x hx => A_X11_gives (by omega) hx) dX11_still_60 (fun r9 h => ?_)
      refine az_goto (pc := 63) (tgt := 71) C dX11_still_63 (by decide) ?_
      obtain rfl := Option.some.inj h
      exact az_ireturn (pc := 71) C dX11_still_71 rfl
    refine az_al0 (pc := 29) C rfl rfl dX11_still_29 ?_
    refine az_ik2 (pc := 30) C dX11_still_30 ?_
    refine az_cV1ii (pc := 31) (c := 11) C hd1 h mv_X11_refuse ml_X11_372 rfl (fun x hx => A_X11_refuse (by omega) hx) dX11_still_31 (fun r10 h => ?_)
    obtain rfl := Option.some.inj h
    exact az_ireturn (pc := 34) C dX11_still_34 rfl
  refine az_al0 (pc := 7) C rfl rfl dX11_still_7 ?_
  refine az_ik3 (pc := 8) C dX11_still_8 ?_
  refine az_cV1ii (pc := 9) (c := 11) C hd1 h mv_X11_refuse ml_X11_372 rfl (fun x hx => A_X11_refuse (by omega) hx) dX11_still_9 (fun r11 h => ?_)
  obtain rfl := Option.some.inj h
  exact az_ireturn (pc := 12) C dX11_still_12 rfl
set_option maxRecDepth 10000 in
set_option maxHeartbeats 4000000 in
theorem A_X11_still {l : Launch} {d : Nat} (hD : 211 ≤ d) (n : Nat) {σ : az_Hp} {v0 v1 v2 : Int} {r : (Int × az_Hp)} (h : fz_X11_still n σ v0 v1 v2 = some r) : az_AC l yX11_still cX11_still 3 (some .int) d [(13, v0), (0, v1), (0, v2)] σ (some (0, r.1), r.2) := az_AC.of mt_X11_still rfl rfl rfl (fun Z hZ C => A_X11_still_e C hD n h)
theorem dX11_term_0 : decode cX11_term 0 = .ok (.iload_n 1, 1) := by decide +kernel
theorem dX11_term_1 : decode cX11_term 1 = .ok (.iconst 0, 1) := by decide +kernel
theorem dX11_term_2 : decode cX11_term 2 = .ok (.aload_n 0, 1) := by decide +kernel
theorem dX11_term_3 : decode cX11_term 3 = .ok (.getfield 216, 3) := by decide +kernel
theorem dX11_term_6 : decode cX11_term 6 = .ok (.invokestatic 354, 3) := by decide +kernel
theorem dX11_term_9 : decode cX11_term 9 = .ok (.ifCond .ne 9, 3) := by decide +kernel
theorem dX11_term_12 : decode cX11_term 12 = .ok (.aload_n 0, 1) := by decide +kernel
theorem dX11_term_13 : decode cX11_term 13 = .ok (.iconst 1, 1) := by decide +kernel
theorem dX11_term_14 : decode cX11_term 14 = .ok (.invokevirtual 372, 3) := by decide +kernel
theorem dX11_term_17 : decode cX11_term 17 = .ok (.ireturn, 1) := by decide +kernel
theorem dX11_term_18 : decode cX11_term 18 = .ok (.aload_n 0, 1) := by decide +kernel
theorem dX11_term_19 : decode cX11_term 19 = .ok (.iload_n 1, 1) := by decide +kernel
theorem dX11_term_20 : decode cX11_term 20 = .ok (.invokevirtual 375, 3) := by decide +kernel
theorem dX11_term_23 : decode cX11_term 23 = .ok (.aload_n 0, 1) := by decide +kernel
theorem dX11_term_24 : decode cX11_term 24 = .ok (.iconst 0, 1) := by decide +kernel
theorem dX11_term_25 : decode cX11_term 25 = .ok (.putfield 297, 3) := by decide +kernel
theorem dX11_term_28 : decode cX11_term 28 = .ok (.aload_n 0, 1) := by decide +kernel
theorem dX11_term_29 : decode cX11_term 29 = .ok (.bipush 12, 2) := by decide +kernel
theorem dX11_term_31 : decode cX11_term 31 = .ok (.putfield 310, 3) := by decide +kernel
theorem dX11_term_34 : decode cX11_term 34 = .ok (.aload_n 0, 1) := by decide +kernel
theorem dX11_term_35 : decode cX11_term 35 = .ok (.iconst 2, 1) := by decide +kernel
theorem dX11_term_36 : decode cX11_term 36 = .ok (.bipush 60, 2) := by decide +kernel
theorem dX11_term_38 : decode cX11_term 38 = .ok (.iconst (-1), 1) := by decide +kernel
theorem dX11_term_39 : decode cX11_term 39 = .ok (.iconst 0, 1) := by decide +kernel
theorem dX11_term_40 : decode cX11_term 40 = .ok (.aload_n 0, 1) := by decide +kernel
theorem dX11_term_41 : decode cX11_term 41 = .ok (.getfield 129, 3) := by decide +kernel
theorem dX11_term_44 : decode cX11_term 44 = .ok (.iconst 0, 1) := by decide +kernel
theorem dX11_term_45 : decode cX11_term 45 = .ok (.invokevirtual 361, 3) := by decide +kernel
theorem dX11_term_48 : decode cX11_term 48 = .ok (.istore_n 2, 1) := by decide +kernel
theorem dX11_term_49 : decode cX11_term 49 = .ok (.iload_n 2, 1) := by decide +kernel
theorem dX11_term_50 : decode cX11_term 50 = .ok (.iconst (-1), 1) := by decide +kernel
theorem dX11_term_51 : decode cX11_term 51 = .ok (.if_icmp .eq 22, 3) := by decide +kernel
theorem dX11_term_54 : decode cX11_term 54 = .ok (.aload_n 0, 1) := by decide +kernel
theorem dX11_term_55 : decode cX11_term 55 = .ok (.getfield 236, 3) := by decide +kernel
theorem dX11_term_58 : decode cX11_term 58 = .ok (.ifCond .eq 11, 3) := by decide +kernel
theorem dX11_term_61 : decode cX11_term 61 = .ok (.aload_n 0, 1) := by decide +kernel
theorem dX11_term_62 : decode cX11_term 62 = .ok (.iconst 2, 1) := by decide +kernel
theorem dX11_term_63 : decode cX11_term 63 = .ok (.invokevirtual 279, 3) := by decide +kernel
theorem dX11_term_66 : decode cX11_term 66 = .ok (.ifCond .eq 7, 3) := by decide +kernel
theorem dX11_term_69 : decode cX11_term 69 = .ok (.iconst 1, 1) := by decide +kernel
theorem dX11_term_70 : decode cX11_term 70 = .ok (.goto 4, 3) := by decide +kernel
theorem dX11_term_73 : decode cX11_term 73 = .ok (.iconst 0, 1) := by decide +kernel
theorem dX11_term_74 : decode cX11_term 74 = .ok (.istore_n 3, 1) := by decide +kernel
theorem dX11_term_75 : decode cX11_term 75 = .ok (.aload_n 0, 1) := by decide +kernel
theorem dX11_term_76 : decode cX11_term 76 = .ok (.iload_n 3, 1) := by decide +kernel
theorem dX11_term_77 : decode cX11_term 77 = .ok (.invokevirtual 384, 3) := by decide +kernel
theorem dX11_term_80 : decode cX11_term 80 = .ok (.ifCond .ne 10, 3) := by decide +kernel
theorem dX11_term_83 : decode cX11_term 83 = .ok (.aload_n 0, 1) := by decide +kernel
theorem dX11_term_84 : decode cX11_term 84 = .ok (.bipush 9, 2) := by decide +kernel
theorem dX11_term_86 : decode cX11_term 86 = .ok (.invokevirtual 372, 3) := by decide +kernel
theorem dX11_term_89 : decode cX11_term 89 = .ok (.ireturn, 1) := by decide +kernel
theorem dX11_term_90 : decode cX11_term 90 = .ok (.aload_n 0, 1) := by decide +kernel
theorem dX11_term_91 : decode cX11_term 91 = .ok (.iload_n 2, 1) := by decide +kernel
theorem dX11_term_92 : decode cX11_term 92 = .ok (.putfield 388, 3) := by decide +kernel
theorem dX11_term_95 : decode cX11_term 95 = .ok (.iconst 0, 1) := by decide +kernel
theorem dX11_term_96 : decode cX11_term 96 = .ok (.istore 4, 2) := by decide +kernel
theorem dX11_term_98 : decode cX11_term 98 = .ok (.iload 4, 2) := by decide +kernel
theorem dX11_term_100 : decode cX11_term 100 = .ok (.iload_n 2, 1) := by decide +kernel
theorem dX11_term_101 : decode cX11_term 101 = .ok (.if_icmp .ge 23, 3) := by decide +kernel
theorem dX11_term_104 : decode cX11_term 104 = .ok (.aload_n 0, 1) := by decide +kernel
theorem dX11_term_105 : decode cX11_term 105 = .ok (.getfield 138, 3) := by decide +kernel
theorem dX11_term_108 : decode cX11_term 108 = .ok (.iload 4, 2) := by decide +kernel
theorem dX11_term_110 : decode cX11_term 110 = .ok (.aload_n 0, 1) := by decide +kernel
theorem dX11_term_111 : decode cX11_term 111 = .ok (.getfield 129, 3) := by decide +kernel
theorem dX11_term_114 : decode cX11_term 114 = .ok (.iload 4, 2) := by decide +kernel
theorem dX11_term_116 : decode cX11_term 116 = .ok (.iaload, 1) := by decide +kernel
theorem dX11_term_117 : decode cX11_term 117 = .ok (.iastore, 1) := by decide +kernel
theorem dX11_term_118 : decode cX11_term 118 = .ok (.iinc 4 1, 3) := by decide +kernel
theorem dX11_term_121 : decode cX11_term 121 = .ok (.goto (-23), 3) := by decide +kernel
theorem dX11_term_124 : decode cX11_term 124 = .ok (.iconst 0, 1) := by decide +kernel
theorem dX11_term_125 : decode cX11_term 125 = .ok (.istore 4, 2) := by decide +kernel
theorem dX11_term_127 : decode cX11_term 127 = .ok (.iload 4, 2) := by decide +kernel
theorem dX11_term_129 : decode cX11_term 129 = .ok (.aload_n 0, 1) := by decide +kernel
theorem dX11_term_130 : decode cX11_term 130 = .ok (.getfield 297, 3) := by decide +kernel
theorem dX11_term_133 : decode cX11_term 133 = .ok (.if_icmp .ge 23, 3) := by decide +kernel
theorem dX11_term_136 : decode cX11_term 136 = .ok (.aload_n 0, 1) := by decide +kernel
theorem dX11_term_137 : decode cX11_term 137 = .ok (.getfield 141, 3) := by decide +kernel
theorem dX11_term_140 : decode cX11_term 140 = .ok (.iload 4, 2) := by decide +kernel
theorem dX11_term_142 : decode cX11_term 142 = .ok (.aload_n 0, 1) := by decide +kernel
theorem dX11_term_143 : decode cX11_term 143 = .ok (.getfield 67, 3) := by decide +kernel
theorem dX11_term_146 : decode cX11_term 146 = .ok (.iload 4, 2) := by decide +kernel
theorem dX11_term_148 : decode cX11_term 148 = .ok (.laload, 1) := by decide +kernel
theorem dX11_term_149 : decode cX11_term 149 = .ok (.lastore, 1) := by decide +kernel
theorem dX11_term_150 : decode cX11_term 150 = .ok (.iinc 4 1, 3) := by decide +kernel
theorem dX11_term_153 : decode cX11_term 153 = .ok (.goto (-26), 3) := by decide +kernel
theorem dX11_term_156 : decode cX11_term 156 = .ok (.aload_n 0, 1) := by decide +kernel
theorem dX11_term_157 : decode cX11_term 157 = .ok (.aload_n 0, 1) := by decide +kernel
theorem dX11_term_158 : decode cX11_term 158 = .ok (.getfield 388, 3) := by decide +kernel
theorem dX11_term_161 : decode cX11_term 161 = .ok (.invokevirtual 401, 3) := by decide +kernel
theorem dX11_term_164 : decode cX11_term 164 = .ok (.ireturn, 1) := by decide +kernel
set_option maxRecDepth 10000 in
set_option maxHeartbeats 4000000 in
theorem A_X11_term_127 {Z : az_Z} {d : Nat} (C : az_C Z yX11_term cX11_term 5 (some .int) d) (hD : 407 ≤ d) (n : Nat) (k : Nat) : ∀ {σ : az_Hp} {v0 v4 : Int} {r : (Int × az_Hp)}, fz_X11_term_127 n k σ v0 v4 = some r → az_AW Z 5 127 [(13, v0), (31, 0), (31, 0), (31, 0), (0, v4)] [] σ (some (0, r.1), r.2) := by
  have hd1 : 1 ≤ d := by omega
  induction k with
  | zero => intro σ v0 v4 r h; simp [fz_X11_term_127] at h
  | succ k ih =>
    intro σ v0 v4 r h
    unfold fz_X11_term_127 at h
    refine az_il4 (pc := 127) C dX11_term_127 ?_
    refine az_al0 (pc := 129) C rfl rfl dX11_term_129 ?_
    refine az_getI (pc := 130) C fl_X11_297 rfl dX11_term_130 ?_
    refine az_icmp_ge (pc := 133) (tgt := 156) C h dX11_term_133 (by decide) (fun _ h => ?_) (fun _ h => ?_)
    · refine az_al0 (pc := 156) C rfl rfl dX11_term_156 ?_
      refine az_al0 (pc := 157) C rfl rfl dX11_term_157 ?_
      refine az_getI (pc := 158) C fl_X11_388 rfl dX11_term_158 ?_
      refine az_cV1ii (pc := 161) (c := 11) C hd1 h mv_X11_gives ml_X11_401 rfl (fun x hx => A_X11_gives (by omega) hx) dX11_term_161 (fun r1 h => ?_)
      obtain rfl := Option.some.inj h
      exact az_ireturn (pc := 164) C dX11_term_164 rfl
    refine az_al0 (pc := 136) C rfl rfl dX11_term_136 ?_
    refine az_getR (pc := 137) (c2 := 14) C h fl_X11_141 rfl rfl dX11_term_137 (fun h => ?_)
    refine az_il4 (pc := 140) C dX11_term_140 ?_
    refine az_al0 (pc := 142) C rfl rfl dX11_term_142 ?_
    refine az_getR (pc := 143) (c2 := 14) C h fl_X11_67 rfl rfl dX11_term_143 (fun h => ?_)
    refine az_il4 (pc := 146) C dX11_term_146 ?_
    refine az_laload (pc := 148) C h dX11_term_148 (fun h => ?_)
    refine az_lastore (pc := 149) C h dX11_term_149 (fun h => ?_)
    refine az_ii4 (pc := 150) C az_n1 rfl rfl dX11_term_150 ?_
    refine az_goto (pc := 153) (tgt := 127) C dX11_term_153 (by decide) ?_
    exact (ih h)
set_option maxRecDepth 10000 in
set_option maxHeartbeats 4000000 in
theorem A_X11_term_98 {Z : az_Z} {d : Nat} (C : az_C Z yX11_term cX11_term 5 (some .int) d) (hD : 407 ≤ d) (n : Nat) (k : Nat) : ∀ {σ : az_Hp} {v0 v2 v4 : Int} {r : (Int × az_Hp)}, fz_X11_term_98 n k σ v0 v2 v4 = some r → az_AW Z 5 98 [(13, v0), (31, 0), (0, v2), (31, 0), (0, v4)] [] σ (some (0, r.1), r.2) := by
  have hd1 : 1 ≤ d := by omega
  induction k with
  | zero => intro σ v0 v2 v4 r h; simp [fz_X11_term_98] at h
  | succ k ih =>
    intro σ v0 v2 v4 r h
    unfold fz_X11_term_98 at h
    refine az_il4 (pc := 98) C dX11_term_98 ?_
    refine az_il2 (pc := 100) C dX11_term_100 ?_
    refine az_icmp_ge (pc := 101) (tgt := 124) C h dX11_term_101 (by decide) (fun _ h => ?_) (fun _ h => ?_)
    · refine az_ik0 (pc := 124) C dX11_term_124 ?_
      refine az_is4 (pc := 125) C rfl rfl dX11_term_125 ?_
      exact (az_wkk (A_X11_term_127 C hD n n h) (az_sE (az_sJ (az_sJ (az_sJ (az_sE az_sN))))))
    refine az_al0 (pc := 104) C rfl rfl dX11_term_104 ?_
    refine az_getR (pc := 105) (c2 := 13) C h fl_X11_138 rfl rfl dX11_term_105 (fun h => ?_)
    refine az_il4 (pc := 108) C dX11_term_108 ?_
    refine az_al0 (pc := 110) C rfl rfl dX11_term_110 ?_
    refine az_getR (pc := 111) (c2 := 13) C h fl_X11_129 rfl rfl dX11_term_111 (fun h => ?_)
    refine az_il4 (pc := 114) C dX11_term_114 ?_
    refine az_iaload (pc := 116) C h dX11_term_116 (fun h => ?_)
    refine az_iastore (pc := 117) C h dX11_term_117 (fun h => ?_)
    refine az_ii4 (pc := 118) C az_n1 rfl rfl dX11_term_118 ?_
    refine az_goto (pc := 121) (tgt := 98) C dX11_term_121 (by decide) ?_
    exact (ih h)
set_option maxRecDepth 10000 in
set_option maxHeartbeats 4000000 in
theorem A_X11_term_74 {Z : az_Z} {d : Nat} (C : az_C Z yX11_term cX11_term 5 (some .int) d) (hD : 407 ≤ d) (n : Nat) {σ : az_Hp} {v0 v2 w0 : Int} {r : (Int × az_Hp)} (h : fz_X11_term_74 n σ v0 v2 w0 = some r) : az_AW Z 5 74 [(13, v0), (31, 0), (0, v2), (31, 0), (31, 0)] [(0, w0)] σ (some (0, r.1), r.2) := by
  have hd1 : 1 ≤ d := by omega
  unfold fz_X11_term_74 at h
  refine az_is3 (pc := 74) C rfl rfl dX11_term_74 ?_
  refine az_al0 (pc := 75) C rfl rfl dX11_term_75 ?_
  refine az_il3 (pc := 76) C dX11_term_76 ?_
  refine az_cV1ii (pc := 77) (c := 11) C hd1 h mv_X11_ends ml_X11_384 rfl (fun x hx => A_X11_ends (by omega) hx) dX11_term_77 (fun r1 h => ?_)
  refine az_if_ne (pc := 80) (tgt := 90) C h dX11_term_80 (by decide) (fun _ h => ?_) (fun _ h => ?_)
  · refine az_al0 (pc := 90) C rfl rfl dX11_term_90 ?_
    refine az_il2 (pc := 91) C dX11_term_91 ?_
    refine az_putI (pc := 92) C fl_X11_388 (Or.inl rfl) rfl dX11_term_92 ?_
    refine az_ik0 (pc := 95) C dX11_term_95 ?_
    refine az_is4 (pc := 96) C rfl rfl dX11_term_96 ?_
    exact (az_wkk (A_X11_term_98 C hD n n h) (az_sE (az_sJ (az_sE (az_sJ (az_sE az_sN))))))
  refine az_al0 (pc := 83) C rfl rfl dX11_term_83 ?_
  refine az_bk9 (pc := 84) C dX11_term_84 ?_
  refine az_cV1ii (pc := 86) (c := 11) C hd1 h mv_X11_refuse ml_X11_372 rfl (fun x hx => A_X11_refuse (by omega) hx) dX11_term_86 (fun r2 h => ?_)
  obtain rfl := Option.some.inj h
  exact az_ireturn (pc := 89) C dX11_term_89 rfl
set_option maxRecDepth 10000 in
set_option maxHeartbeats 4000000 in
theorem A_X11_term_e {Z : az_Z} {d : Nat} (C : az_C Z yX11_term cX11_term 5 (some .int) d) (hD : 407 ≤ d) (n : Nat) {σ : az_Hp} {v0 v1 : Int} {r : (Int × az_Hp)} (h : fz_X11_term n σ v0 v1 = some r) : az_AW Z 5 0 [(13, v0), (0, v1), (31, 0), (31, 0), (31, 0)] [] σ (some (0, r.1), r.2) := by
  have hd1 : 1 ≤ d := by omega
  unfold fz_X11_term at h
  refine az_il1 (pc := 0) C dX11_term_0 ?_
  refine az_ik0 (pc := 1) C dX11_term_1 ?_
  refine az_al0 (pc := 2) C rfl rfl dX11_term_2 ?_
  refine az_getI (pc := 3) C fl_X11_216 rfl dX11_term_3 ?_
  refine az_cS3pi (pc := 6) C hd1 h ms_X11_isFrom ml_X11_354 rfl (fun x hx => A_X11_isFrom (by omega) hx) dX11_term_6 (fun r1 h => ?_)
  refine az_if_ne (pc := 9) (tgt := 18) C h dX11_term_9 (by decide) (fun _ h => ?_) (fun _ h => ?_)
  · refine az_al0 (pc := 18) C rfl rfl dX11_term_18 ?_
    refine az_il1 (pc := 19) C dX11_term_19 ?_
    refine az_cV1v (pc := 20) (c := 11) C hd1 h mv_X11_begins ml_X11_375 rfl (fun x hx => A_X11_begins (by omega) n hx) dX11_term_20 (fun r2 h => ?_)
    refine az_al0 (pc := 23) C rfl rfl dX11_term_23 ?_
    refine az_ik0 (pc := 24) C dX11_term_24 ?_
    refine az_putI (pc := 25) C fl_X11_297 (Or.inl rfl) rfl dX11_term_25 ?_
    refine az_al0 (pc := 28) C rfl rfl dX11_term_28 ?_
    refine az_bk12 (pc := 29) C dX11_term_29 ?_
    refine az_putI (pc := 31) C fl_X11_310 (Or.inl rfl) rfl dX11_term_31 ?_
    refine az_al0 (pc := 34) C rfl rfl dX11_term_34 ?_
    refine az_ik2 (pc := 35) C dX11_term_35 ?_
    refine az_bk60 (pc := 36) C dX11_term_36 ?_
    refine az_ikm1 (pc := 38) C dX11_term_38 ?_
    refine az_ik0 (pc := 39) C dX11_term_39 ?_
    refine az_al0 (pc := 40) C rfl rfl dX11_term_40 ?_
    refine az_getR (pc := 41) (c2 := 13) C h fl_X11_129 rfl rfl dX11_term_41 (fun h => ?_)
    refine az_ik0 (pc := 44) C dX11_term_44 ?_
    refine az_cV6ii (pc := 45) (c := 11) C hd1 h mv_X11_readWhole ml_X11_361 rfl (fun x hx => A_X11_readWhole (by omega) n hx) dX11_term_45 (fun r4 h => ?_)
    refine az_is2 (pc := 48) C rfl rfl dX11_term_48 ?_
    refine az_il2 (pc := 49) C dX11_term_49 ?_
    refine az_ikm1 (pc := 50) C dX11_term_50 ?_
    refine az_icmp_eq (pc := 51) (tgt := 73) C h dX11_term_51 (by decide) (fun _ h => ?_) (fun _ h => ?_)
    · refine az_ik0 (pc := 73) C dX11_term_73 ?_
      exact (az_wkk (A_X11_term_74 C hD n h) (az_sE (az_sJ (az_sE (az_sJ (az_sJ az_sN))))))
    refine az_al0 (pc := 54) C rfl rfl dX11_term_54 ?_
    refine az_getI (pc := 55) C fl_X11_236 rfl dX11_term_55 ?_
    refine az_if_eq (pc := 58) (tgt := 69) C h dX11_term_58 (by decide) (fun _ h => ?_) (fun _ h => ?_)
    · refine az_ik1 (pc := 69) C dX11_term_69 ?_
      refine az_goto (pc := 70) (tgt := 74) C dX11_term_70 (by decide) ?_
      exact (az_wkk (A_X11_term_74 C hD n h) (az_sE (az_sJ (az_sE (az_sJ (az_sJ az_sN))))))
    refine az_al0 (pc := 61) C rfl rfl dX11_term_61 ?_
    refine az_ik2 (pc := 62) C dX11_term_62 ?_
    refine az_cV1ii (pc := 63) (c := 11) C hd1 h mv_X11_bad ml_X11_279 rfl (fun x hx => A_X11_bad (by omega) hx) dX11_term_63 (fun r5 h => ?_)
    refine az_if_eq (pc := 66) (tgt := 73) C h dX11_term_66 (by decide) (fun _ h => ?_) (fun _ h => ?_)
    · refine az_ik0 (pc := 73) C dX11_term_73 ?_
      exact (az_wkk (A_X11_term_74 C hD n h) (az_sE (az_sJ (az_sE (az_sJ (az_sJ az_sN))))))
    refine az_ik1 (pc := 69) C dX11_term_69 ?_
    refine az_goto (pc := 70) (tgt := 74) C dX11_term_70 (by decide) ?_
    exact (az_wkk (A_X11_term_74 C hD n h) (az_sE (az_sJ (az_sE (az_sJ (az_sJ az_sN))))))
  refine az_al0 (pc := 12) C rfl rfl dX11_term_12 ?_
  refine az_ik1 (pc := 13) C dX11_term_13 ?_
  refine az_cV1ii (pc := 14) (c := 11) C hd1 h mv_X11_refuse ml_X11_372 rfl (fun x hx => A_X11_refuse (by omega) hx) dX11_term_14 (fun r6 h => ?_)
  obtain rfl := Option.some.inj h
  exact az_ireturn (pc := 17) C dX11_term_17 rfl
set_option maxRecDepth 10000 in
set_option maxHeartbeats 4000000 in
theorem A_X11_term {l : Launch} {d : Nat} (hD : 407 ≤ d) (n : Nat) {σ : az_Hp} {v0 v1 : Int} {r : (Int × az_Hp)} (h : fz_X11_term n σ v0 v1 = some r) : az_AC l yX11_term cX11_term 5 (some .int) d [(13, v0), (0, v1)] σ (some (0, r.1), r.2) := az_AC.of mt_X11_term rfl rfl rfl (fun Z hZ C => A_X11_term_e C hD n h)
