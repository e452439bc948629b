/-! the call want: the whole -/
theorem sv_M1t {a k : Int} (h : sv_M1 a k) : (a = 804 ∧ ((49 ≤ k ∧ k ≤ 52) ∨ (70 ≤ k ∧ k ≤ 78))) ∨ (823 ≤ a ∧ a ≤ 833) ∨ (838 ≤ a ∧ a ≤ 843) := by
  unfold sv_M1 yz_RM yz_TM sz_TM rz_TM cz_SM yz_WM yz_F yz_next yz_past at h
  omega
theorem sv_MSn {a k : Int} (h : sv_MS a k) : (a = 804 ∧ ((49 ≤ k ∧ k ≤ 52) ∨ (63 ≤ k ∧ k ≤ 65) ∨ (70 ≤ k ∧ k ≤ 78) ∨ (108 ≤ k ∧ k ≤ 111) ∨ k = 114 ∨ k = 115)) ∨ (823 ≤ a ∧ a ≤ 833) ∨ (838 ≤ a ∧ a ≤ 843) ∨ (860 ≤ a ∧ a ≤ 867) := by
  rcases h with h | h
  · rcases h with h | h | h
    · have := sv_M1t h; omega
    · unfold cz_SB cz_SM at h; omega
    · omega
  · omega
theorem wt_nkW {a k : Int} (h : (161 ≤ a ∧ a ≤ 242) ∨ (a = 243 ∧ k ≠ 2 ∧ k ≠ 4) ∨ (244 ≤ a ∧ a ≤ 374) ∨ a = 382 ∨ (384 ≤ a ∧ a ≤ 788) ∨ (a = 804 ∧ ((5 ≤ k ∧ k ≤ 13) ∨ (16 ≤ k ∧ k ≤ 56) ∨ (59 ≤ k ∧ k ≤ 80) ∨ (83 ≤ k ∧ k ≤ 86) ∨ (88 ≤ k ∧ k ≤ 100) ∨ 112 ≤ k)) ∨ (820 ≤ a ∧ a ≤ 833) ∨ (837 ≤ a ∧ a ≤ 843) ∨ (846 ≤ a ∧ a ≤ 857) ∨ (860 ≤ a ∧ a ≤ 862) ∨ (865 ≤ a ∧ a ≤ 867)) : cz_nk a k := by
  unfold cz_nk
  rcases h with h | h | h | h | h | h | h | h | h | h | h <;> omega
theorem wt_Ynw {a k : Int} (h : wt_Y a k) : wt_nw a k := by
  have n : ∀ {a k}, cz_nk a k → wt_nw a k := fun z => Or.inl (Or.inl (Or.inl z))
  rcases h with h | h | h
  · by_cases c : k = 2
    · exact Or.inl (Or.inl (Or.inr (Or.inl ⟨h.1, c⟩)))
    · exact Or.inl (Or.inr (Or.inl ⟨h.1, by omega⟩))
  · by_cases c : a = 243 ∧ k = 4
    · exact Or.inr (Or.inr (Or.inr (Or.inr (Or.inr (Or.inr (Or.inr (Or.inr (Or.inr (Or.inr c)))))))))
    · exact n (wt_nkW (by omega))
  · by_cases c : a = 382 ∨ (384 ≤ a ∧ a ≤ 788)
    · exact n (wt_nkW (by omega))
    · exact Or.inr (by omega)
theorem wt_Vnw {a k : Int} (h : wt_V a k) : wt_nw a k := by
  have n : ∀ {a k}, cz_nk a k → wt_nw a k := fun z => Or.inl (Or.inl (Or.inl z))
  rcases h with h | h | h | h
  · unfold wt_M at h
    by_cases c : a = 804 ∧ k = 1
    · exact Or.inl (Or.inr (Or.inr (Or.inr (Or.inl ⟨c.1, Or.inl c.2⟩))))
    · exact n (wt_nkW (by omega))
  · exact Or.inl (Or.inr (Or.inr (Or.inr (Or.inl ⟨h.1, by omega⟩))))
  · unfold sv_ZM tw_A at h
    by_cases c : a = 858 ∨ a = 859 ∨ a = 864 ∨ (a = 804 ∧ (k = 87 ∨ k = 101 ∨ (108 ≤ k ∧ k ≤ 111)))
    · exact Or.inr (by omega)
    · exact n (wt_nkW (by omega))
  · have := sv_MSn h
    by_cases c : a = 863 ∨ a = 864 ∨ (a = 804 ∧ (108 ≤ k ∧ k ≤ 111))
    · exact Or.inr (by omega)
    · exact n (wt_nkW (by omega))
theorem wt_108 {X : az_Hp} (hX : bz_Fx X) : fz_X10_want_108 2000000 X 1 = some (X.2 380 1, az_wr (az_wr X 243 4 0) 1 2 0) := by
  have u : bz_Upd X (az_wr X 243 4 0) (fun _ _ => True) := bz_Upd.wr bz_Upd.refl trivial (by decide)
  unfold fz_X10_want_108 fz_X10_give
  rw [fx_1_11 hX, Option.bind_some, fx_1_16 (hX.upd u), Option.bind_some, Option.bind_some, az_wr_ne (by omega)]
theorem cz_op_want : bz_op_want cz_J := by
  rintro a ha σ ⟨T, s, h, eq⟩
  have hF := h.1.1
  have hT := h.1.2.2.2.2.2.2.2.1
  obtain ⟨p1, p2, p3, p4⟩ := h.2.1
  by_cases ra : 0 ≤ a ∧ a ≤ σ.2 1 1
  rotate_left
  · refine cz_rd (f := fun σ => fz_X10_want 2000000 σ 1 a) (g := fun σ => fz_X11_want 2000000 σ 804 a) h (r := -1) (v := 1) ?_ ?_
    · simp only [fz_X10_want, fz_X10_refuse]
      by_cases c : a < 0
      · rw [if_pos c, Option.bind_some]
      · rw [if_neg c, if_pos (by omega), Option.bind_some]
    · simp only [fz_X11_want, fz_X11_refuse, fz_X11_isFrom]
      rw [az_wr_ne (by omega), p3]
      by_cases c : a < 0
      · rw [if_pos c, Option.bind_some, if_pos rfl, Option.bind_some]
      · rw [if_neg c, if_pos (by omega), Option.bind_some, if_pos rfl, Option.bind_some]
  have hTX : lx_tapeX σ (fun i => σ.2 2 i) a := ⟨⟨ra.1, by omega⟩, fun i i0 i1 => ⟨rfl, (p4 i i0 (by omega)).2⟩⟩
  have g5 : az_gref σ 1 5 = some T := cz_t5 h
  obtain ⟨w, x', m', hw, e1, -, e3, -, -, -, -⟩ := wt_text (s := s) hF hF hTX (fun i i0 i1 => (p4 i i0 (by omega)).1.symm) (cz_Nm h) (by omega)
  have hX' := hF.upd e3
  have tt := rd_takeTape hX' hw
  have run0 : fz_X10_want 2000000 σ 1 a = ((fz_X10_takeTape x' 1 w).bind fun r6 => (if r6.1 = 0 then ((fz_X10_refuse r6.2 1 9).bind fun r11 => (some (r11.1, r11.2))) else ((az_gref r6.2 1 16).bind fun x7 => ((az_gref r6.2 1 7).bind fun x8 => ((fz_X8_begin 2000000 r6.2 x7 x8).bind fun r9 => ((az_gref r9 1 11).bind fun x10 => fz_X10_want_71 2000000 2000000 (az_wr r9 x10 4 1) 1 0)))))) := by
    unfold fz_X10_want
    rw [if_neg (by omega), if_neg (by omega), fx_1_8 hF, Option.bind_some, fx_1_0 hF, Option.bind_some, g5, Option.bind_some, e1, Option.bind_some]
  rcases hw with rfl | rfl
  · -- a FAULT
    rw [if_pos rfl, if_pos rfl] at tt
    obtain ⟨x2, hx2⟩ : ∃ x2, x2 = az_wr (az_wr (az_wr x' 1 1 0) 1 3 (x'.2 223 0)) 1 4 (x'.2 223 1) := ⟨_, rfl⟩
    rw [← hx2] at tt
    have u2 : bz_Upd x' x2 (fun a k => a = 1 ∧ (k = 1 ∨ k = 3 ∨ k = 4)) := by
      rw [hx2]
      exact bz_Upd.wr (bz_Upd.wr (bz_Upd.wr bz_Upd.refl ⟨rfl, by omega⟩ (by decide)) ⟨rfl, by omega⟩ (by decide)) ⟨rfl, by omega⟩ (by decide)
    have uy : bz_Upd σ (az_wr x2 1 2 9) wt_Y := bz_Upd.wr ((e3.weak fun a k z => by unfold wt_X at z; unfold wt_Y; omega).trans (u2.weak fun a k z => by unfold wt_Y; omega)) (by unfold wt_Y; omega) (by decide)
    have hY := hF.upd uy
    have Ny : rd_Nm σ (az_wr x2 1 2 9) T s := (cz_Nm h).gen (bz_Upd.refl (S := fun _ _ => False)) uy (fun a k z => z.elim) (fun a k z => by unfold wt_Y at z; omega)
    obtain ⟨w', x'', m'', hw', f1, f2, f3, f4, f5, f6, f7⟩ := wt_text (s := s) hF hY hTX (fun i i0 i1 => by rw [uy.2.2 805 i (fun z => by unfold wt_Y at z; omega)]; exact (p4 i i0 (by omega)).1.symm) Ny (by rw [uy.2.2 804 1 (fun z => by unfold wt_Y at z; omega)]; omega)
    have d := sy_det e1 f1
    simp only [Prod.mk.injEq] at d
    obtain ⟨rfl, rfl⟩ := d
    have fl := f6 rfl
    obtain ⟨z, hz⟩ : ∃ z, z = az_wr (az_wr (az_wr m'' 804 3 (m''.2 804 11)) 804 4 (m''.2 804 12)) 804 2 9 := ⟨_, rfl⟩
    have uz : bz_Upd m'' z (fun a k => a = 804 ∧ (k = 2 ∨ k = 3 ∨ k = 4)) := by
      rw [hz]
      exact bz_Upd.wr (bz_Upd.wr (bz_Upd.wr bz_Upd.refl ⟨rfl, by omega⟩ (by decide)) ⟨rfl, by omega⟩ (by decide)) ⟨rfl, by omega⟩ (by decide)
    have ut : bz_Upd σ z cz_nt := by
      have t1 : bz_Upd σ (az_wr x2 1 2 9) cz_nt := bz_Upd.wr ((e3.weak fun a k q => Or.inl (Or.inl (wt_nkW (by unfold wt_X at q; omega)))).trans (u2.weak fun a k q => Or.inr (Or.inl q))) (Or.inl (Or.inr (Or.inl ⟨rfl, rfl⟩))) (by decide)
      have t2 : bz_Upd (az_wr x2 1 2 9) m'' cz_nt := f4.weak fun a k q => by
        unfold wt_M at q
        by_cases c : a = 804 ∧ k = 1
        · exact Or.inr (Or.inr (Or.inr (Or.inl ⟨c.1, Or.inl c.2⟩)))
        · exact Or.inl (Or.inl (wt_nkW (by omega)))
      have t3 : bz_Upd m'' z cz_nt := uz.weak fun a k q => by
        obtain ⟨q1, q2 | q2⟩ := q
        · exact Or.inl (Or.inr (Or.inr ⟨q1, q2⟩))
        · exact Or.inr (Or.inr (Or.inr (Or.inl ⟨q1, Or.inr q2⟩)))
      exact (t1.trans t2).trans t3
    have E : ∀ k, k = 1 ∨ k = 2 ∨ k = 3 ∨ k = 4 → z.2 1 k = (az_wr x2 1 2 9).2 1 k := fun k q => by
      rw [uz.2.2 1 k (fun q => by omega), f4.2.2 1 k (fun q => by unfold wt_M at q; omega)]
    have z1 : z.2 1 1 = 0 := by rw [E 1 (by omega), az_wr_ne (by omega), hx2, az_wr_ne (by omega), az_wr_ne (by omega), az_wr_same]
    have z8 : z.2 804 1 = 0 := by rw [uz.2.2 804 1 (fun q => by omega)]; exact f5
    refine ⟨-1, az_wr x2 1 2 9, z, ?_, ?_, T, s, cz_keepT ut ⟨by omega, by omega, by omega, fun i i0 i1 => by omega⟩ ?_ ?_ h, ?_⟩
    · show fz_X10_want 2000000 σ 1 a = _
      rw [run0, tt, Option.bind_some, if_pos rfl]
      rfl
    · show fz_X11_want 2000000 (az_wr x2 1 2 9) 804 a = _
      rw [f2]
      unfold fz_X11_want_71 fz_X11_ends
      rw [if_pos (Or.inl rfl), Option.bind_some, if_pos rfl, hz]
      show some ((-1 : Int), _) = _
      rw [az_wr_ne (b := 804) (j := 12) (by omega)]
    · rw [E 3 (by omega), az_wr_ne (by omega), hx2, az_wr_ne (by omega), az_wr_same, hz, az_wr_ne (by omega), az_wr_ne (by omega), az_wr_same]; exact fl.1
    · rw [E 4 (by omega), az_wr_ne (by omega), hx2, az_wr_same, hz, az_wr_ne (by omega), az_wr_same]; exact fl.2
    · rw [E 2 (by omega), az_wr_same, hz, az_wr_same]
  · rw [if_neg (by decide), if_neg (by decide)] at tt
    obtain ⟨x2, hx2⟩ : ∃ x2, x2 = az_wr (az_wr (az_wr x' 1 1 0) 1 3 0) 1 4 (-1) := ⟨_, rfl⟩
    rw [← hx2] at tt
    have u2 : bz_Upd x' x2 (fun _ _ => True) := by
      rw [hx2]
      exact bz_Upd.wr (bz_Upd.wr (bz_Upd.wr bz_Upd.refl trivial (by decide)) trivial (by decide)) trivial (by decide)
    have hX2 := hX'.upd u2
    have runX : fz_X10_want 2000000 σ 1 a = ((fz_X8_begin 2000000 x2 380 161).bind fun r9 => ((az_gref r9 1 11).bind fun x10 => fz_X10_want_71 2000000 2000000 (az_wr r9 x10 4 1) 1 0)) := by
      rw [run0, tt, Option.bind_some, if_neg (show ¬ (1 : Int) = 0 by decide), fx_1_16 hX2, Option.bind_some, fx_1_7 hX2, Option.bind_some]
    obtain ⟨X1, M1, U1, a1, -, E1, aX, -⟩ := wt_good h ra e1 e3 hx2 runX (bz_Upd.refl (S := wt_Y))
    obtain ⟨y, hy⟩ : ∃ y, y = az_wr (az_wr X1 243 4 0) 1 2 0 := ⟨_, rfl⟩
    have uy : bz_Upd σ y wt_Y := by
      rw [hy]
      exact bz_Upd.wr (bz_Upd.wr aX (by unfold wt_Y; omega) (by decide)) (by unfold wt_Y; omega) (by decide)
    rw [wt_108 (hF.upd aX), ← hy] at a1
    obtain ⟨X2, M2, U, b1, b2, E2, bX, bM, ⟨k0, k87, k5, k101, k4⟩, words, ⟨m1, m3, m4⟩, ⟨q1, q3, q4⟩⟩ := wt_good h ra e1 e3 hx2 runX uy
    rw [wt_108 (hF.upd bX), a1] at b1
    simp only [Option.some.injEq, Prod.mk.injEq] at b1
    obtain ⟨r1, r2⟩ := b1
    have n1 : X2.2 380 1 = M2.2 804 108 := by
      rcases E2.2.2.2 with ⟨-, n, r⟩ | r
      · rw [r.1.1, r.1.2.1]
      · exact r.2.1
    obtain ⟨z, hz⟩ : ∃ z, z = az_wr M2 804 2 0 := ⟨_, rfl⟩
    have uz : bz_Upd M2 z (fun a k => a = 804 ∧ k = 2) := by rw [hz]; exact bz_Upd.wr bz_Upd.refl ⟨rfl, rfl⟩ (by decide)
    have lo : ∀ a k, a < 804 → z.2 a k = y.2 a k := fun a k q => by
      rw [uz.2.2 a k (fun w => by omega), bM.2.2 a k (fun w => ?_)]
      rcases w with w | w | w | w
      · unfold wt_M at w; omega
      · omega
      · unfold sv_ZM tw_A at w; omega
      · have := sv_MSn w; omega
    have hi : ∀ a k, ¬ (a = 804 ∧ k = 2) → z.2 a k = M2.2 a k := fun a k q => uz.2.2 a k q
    have zX : ∀ a k, (a = 380 ∧ k ≤ 6) ∨ a = 381 ∨ a = 383 ∨ (789 ≤ a ∧ a ≤ 800) → z.2 a k = X2.2 a k := fun a k q => by
      rw [lo a k (by omega), r2, az_wr_ne (by omega), az_wr_ne (by omega)]
    have z1k : ∀ k, k ≠ 2 → z.2 1 k = X2.2 1 k := fun k q => by rw [lo 1 k (by omega), r2, az_wr_ne (by omega), az_wr_ne (by omega)]
    have W : cz_Wan z T s := sv_wan E2 hT zX (fun a k q => hi a k (by omega)) (fun a k q => hi a k (by omega)) k0 k87 k5 k101 k4 words
    have zt : z.2 1 1 = 0 := by rw [z1k 1 (by omega)]; exact q1
    have zt' : z.2 804 1 = 0 := by rw [hi 804 1 (by omega)]; exact m1
    refine ⟨X1.2 380 1, y, z, a1, ?_, T, s, wt_keep (((uy.weak fun _ _ q => wt_Ynw q).trans (bM.weak fun _ _ q => wt_Vnw q)).trans (uz.weak fun a k q => Or.inl (Or.inl (Or.inr (Or.inr q))))) ⟨by omega, by omega, by omega, fun i i0 i1 => by omega⟩ ?_ ?_ ?_ W h, ?_⟩
    · show fz_X11_want 2000000 y 804 a = _
      rw [b2, ← hz, r1, n1]
    · rw [z1k 3 (by omega), hi 804 3 (by omega), q3, m3]
    · rw [z1k 4 (by omega), hi 804 4 (by omega), q4, m4]
    · rw [lo 243 4 (by omega), r2, az_wr_ne (by omega), az_wr_same]
    · rw [lo 1 2 (by omega), r2, az_wr_same, hz, az_wr_same]
