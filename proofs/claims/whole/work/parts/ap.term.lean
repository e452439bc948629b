/-! the call term -/
theorem wh_X_nk {a k : Int} (h : wh_X a k) : cz_nk a k := yz_nkX (by unfold wh_X at h; omega)
theorem wh_M_nk {a k : Int} (h : wh_M a k) : cz_nk a k ∨ (a = 804 ∧ k = 1) := by
  have : (a = 804 ∧ k = 1) ∨ (a = 804 ∧ ((5 ≤ k ∧ k ≤ 13) ∨ (16 ≤ k ∧ k ≤ 56))) ∨ (820 ≤ a ∧ a ≤ 833) ∨ (837 ≤ a ∧ a ≤ 843) := by unfold wh_M at h; omega
  rcases this with q | q | q | q
  · exact Or.inr q
  · exact Or.inl (Or.inr (Or.inr (Or.inr (Or.inr (Or.inr (Or.inr (Or.inr (Or.inr (Or.inr (Or.inl ⟨q.1, by omega⟩))))))))))
  · exact Or.inl (Or.inr (Or.inr (Or.inr (Or.inr (Or.inr (Or.inr (Or.inr (Or.inr (Or.inr (Or.inr (Or.inl q)))))))))))
  · exact Or.inl (Or.inr (Or.inr (Or.inr (Or.inr (Or.inr (Or.inr (Or.inr (Or.inr (Or.inr (Or.inr (Or.inr (Or.inl q))))))))))))
theorem cz_op_term : bz_op_term cz_J := by
  rintro a ha σ ⟨T, s, h, eq⟩
  have hF := h.1.1
  have hT := h.1.2.2.2.2.2.2.2.1
  obtain ⟨p1, p2, p3, p4⟩ := h.2.1
  by_cases ra : 0 ≤ a ∧ a ≤ σ.2 1 1
  rotate_left
  · refine cz_rd (f := fun σ => fz_X10_term 2000000 σ 1 a) (g := fun σ => fz_X11_term 2000000 σ 804 a) h (r := -1) (v := 1) ?_ ?_
    · simp only [fz_X10_term, fz_X10_refuse]
      by_cases c : a < 0
      · rw [if_pos c, Option.bind_some]
      · rw [if_neg c, if_pos (by omega), Option.bind_some]
    · simp only [fz_X11_term, fz_X11_refuse, fz_X11_isFrom]
      rw [az_wr_ne (by omega), p3]
      by_cases c : a < 0
      · rw [if_pos c, Option.bind_some, if_pos rfl, Option.bind_some]
      · rw [if_neg c, if_pos (by omega), Option.bind_some, if_pos rfl, Option.bind_some]
  have hTX : lx_tapeX σ (fun i => σ.2 2 i) a := ⟨⟨ra.1, by omega⟩, fun i i0 i1 => ⟨rfl, (p4 i i0 (by omega)).2⟩⟩
  have g5 : az_gref σ 1 5 = some T := cz_t5 h
  obtain ⟨w, sz, x', m', hw, e1, -, e3, -, -, -, e7⟩ := rd_whole (s := s) hF hF hTX (fun i i0 i1 => (p4 i i0 (by omega)).1.symm) (cz_Nm h)
  have hX' := hF.upd e3
  -- the class puts its tape away
  obtain ⟨x2, hx2⟩ : ∃ x2, x2 = az_wr (az_wr (az_wr x' 1 1 0) 1 3 (if w = 0 then x'.2 223 0 else 0)) 1 4 (if w = 0 then x'.2 223 1 else -1) := ⟨_, rfl⟩
  have tt := rd_takeTape hX' hw
  rw [← hx2] at tt
  have u2 : bz_Upd x' x2 (fun a k => a = 1 ∧ (k = 1 ∨ k = 3 ∨ k = 4)) := by
    rw [hx2]
    exact bz_Upd.wr (bz_Upd.wr (bz_Upd.wr bz_Upd.refl ⟨rfl, by omega⟩ (by decide)) ⟨rfl, by omega⟩ (by decide)) ⟨rfl, by omega⟩ (by decide)
  have hX2 := hX'.upd u2
  have x21 : x2.2 1 1 = 0 := by rw [hx2, az_wr_ne (by omega), az_wr_ne (by omega), az_wr_same]
  have x23 : x2.2 1 3 = (if w = 0 then x'.2 223 0 else 0) := by rw [hx2, az_wr_ne (by omega), az_wr_same]
  have x24 : x2.2 1 4 = (if w = 0 then x'.2 223 1 else -1) := by rw [hx2, az_wr_same]
  have runX : fz_X10_term 2000000 σ 1 a = (if w = 0 then some (-1, az_wr x2 1 2 9) else ((fz_X7_take x2 375 377).bind fun r10 => ((az_gref r10 1 8).bind fun x11 => ((az_gref r10 x11 2).bind fun x12 => ((az_gref r10 1 14).bind fun x13 => ((az_cpy r10 x12 0 x13 0 12).bind fun s14 => ((az_gref s14 1 12).bind fun x15 => ((fz_X10_give s14 1 (s14.2 x15 1)).bind fun r16 => (some (r16.1, r16.2)))))))))) := by
    unfold fz_X10_term
    rw [if_neg (by omega), if_neg (by omega), fx_1_8 hF, Option.bind_some, fx_1_0 hF, Option.bind_some, g5, Option.bind_some, fx_1_13 hF, Option.bind_some, e1, Option.bind_some, tt, Option.bind_some, fx_1_12 hX2, Option.bind_some, fx_1_13 hX2, Option.bind_some]
    rfl
  -- the reference from y on
  have ref : ∀ y, bz_Upd σ y (fun a k => wh_X a k ∨ (a = 1 ∧ k ≤ 4) ∨ a = 375 ∨ a = 376 ∨ a = 379) → ∃ sz' m'', fz_X11_term 2000000 y 804 a = fz_X11_term_74 2000000 m'' 804 sz' w ∧ bz_Upd y m'' wh_M ∧ m''.2 804 1 = 0 ∧ (w = 0 → lx_fault x' m'') ∧ (w = 1 → wh_ok x' m'' T s sz') := by
    intro y uy
    have hY := hF.upd uy
    have Ny : rd_Nm σ y T s := (cz_Nm h).gen (bz_Upd.refl (S := fun _ _ => False)) uy (fun a k z => z.elim) (fun a k z => by unfold wh_X at z; omega)
    obtain ⟨w', sz', x'', m'', hw', f1, f2, f3, f4, f5, f6, f7⟩ := rd_whole (s := s) hF hY hTX (fun i i0 i1 => by rw [uy.2.2 805 i (fun z => by unfold wh_X at z; omega)]; exact (p4 i i0 (by omega)).1.symm) Ny
    rw [e1] at f1
    simp only [Option.some.injEq, Prod.mk.injEq] at f1
    obtain ⟨rfl, rfl⟩ := f1
    refine ⟨sz', m'', ?_, f4, f5, f6, f7⟩
    rw [← f2]
    unfold fz_X11_term fz_X11_isFrom
    rw [uy.2.2 804 1 (fun z => by unfold wh_X at z; omega), p3, if_neg (by omega), if_neg (by omega), Option.bind_some, if_neg (show ¬ (1 : Int) = 0 by decide)]
    rfl
  rcases hw with w0 | w1
  · -- a FAULT
    have uy : bz_Upd σ (az_wr x2 1 2 9) (fun a k => wh_X a k ∨ (a = 1 ∧ k ≤ 4) ∨ a = 375 ∨ a = 376 ∨ a = 379) := bz_Upd.wr ((e3.weak fun _ _ z => Or.inl z).trans (u2.weak fun a k z => Or.inr (Or.inl ⟨z.1, by omega⟩))) (Or.inr (Or.inl ⟨rfl, by omega⟩)) (by decide)
    obtain ⟨sz', m'', r1, r2, r3, r4, -⟩ := ref _ uy
    obtain ⟨z, hz⟩ : ∃ z, z = az_wr (az_wr (az_wr m'' 804 3 (m''.2 804 11)) 804 4 (m''.2 804 12)) 804 2 9 := ⟨_, rfl⟩
    have uz : bz_Upd m'' z (fun a k => a = 804 ∧ (k = 2 ∨ k = 3 ∨ k = 4)) := by
      rw [hz]
      exact bz_Upd.wr (bz_Upd.wr (bz_Upd.wr bz_Upd.refl ⟨rfl, by omega⟩ (by decide)) ⟨rfl, by omega⟩ (by decide)) ⟨rfl, by omega⟩ (by decide)
    have ut : bz_Upd σ z cz_nt := by
      have t1 : bz_Upd σ (az_wr x2 1 2 9) cz_nt := bz_Upd.wr ((e3.weak fun _ _ q => Or.inl (Or.inl (wh_X_nk q))).trans (u2.weak fun a k q => Or.inr (Or.inl q))) (Or.inl (Or.inr (Or.inl ⟨rfl, rfl⟩))) (by decide)
      have t2 : bz_Upd (az_wr x2 1 2 9) m'' cz_nt := r2.weak fun a k q => by
        rcases wh_M_nk q with q | q
        · exact Or.inl (Or.inl q)
        · exact Or.inr (Or.inr (Or.inr (Or.inl ⟨q.1, Or.inl q.2⟩)))
      have t3 : bz_Upd m'' z cz_nt := uz.weak fun a k q => by
        obtain ⟨q1, q2 | q2⟩ := q
        · exact Or.inl (Or.inr (Or.inr ⟨q1, q2⟩))
        · exact Or.inr (Or.inr (Or.inr (Or.inl ⟨q1, Or.inr q2⟩)))
      exact (t1.trans t2).trans t3
    have E : ∀ k, k = 1 ∨ k = 2 ∨ k = 3 ∨ k = 4 → z.2 1 k = (az_wr x2 1 2 9).2 1 k := fun k q => by
      rw [uz.2.2 1 k (fun q => by omega), r2.2.2 1 k (fun q => by unfold wh_M at q; omega)]
    have z1 : z.2 1 1 = 0 := by rw [E 1 (by omega), az_wr_ne (by omega)]; exact x21
    have z8 : z.2 804 1 = 0 := by rw [uz.2.2 804 1 (fun q => by omega)]; exact r3
    have fl := r4 w0
    refine ⟨-1, az_wr x2 1 2 9, z, ?_, ?_, T, s, cz_keepT ut ⟨by omega, by omega, by omega, fun i i0 i1 => by omega⟩ ?_ ?_ h, ?_⟩
    · show fz_X10_term 2000000 σ 1 a = _
      rw [runX, if_pos w0]
    · show fz_X11_term 2000000 (az_wr x2 1 2 9) 804 a = _
      rw [r1, w0]
      unfold fz_X11_term_74 fz_X11_ends
      rw [if_pos (Or.inl rfl), Option.bind_some, if_pos rfl, hz]
      show some ((-1 : Int), _) = _
      rw [az_wr_ne (b := 804) (j := 12) (by omega)]
    · rw [E 3 (by omega), az_wr_ne (by omega), x23, if_pos w0, hz, az_wr_ne (by omega), az_wr_ne (by omega), az_wr_same]; exact fl.1
    · rw [E 4 (by omega), az_wr_ne (by omega), x24, if_pos w0, hz, az_wr_ne (by omega), az_wr_same]; exact fl.2
    · rw [E 2 (by omega), az_wr_same, hz, az_wr_same]
  · -- a TERM
    obtain ⟨v1, v2, v3, v4, v5, v6⟩ := e7 w1
    have c375 : bz_cap 375 = 60 := by decide
    have c377 : bz_cap 377 = 60 := by decide
    have s377 : x2.2 377 1 = sz := by rw [u2.2.2 377 1 (fun q => by omega)]; exact v3
    obtain ⟨x3, k1, k2, k3, k4⟩ := yz_take (σ := x2) (r := 375) (q := 377) hX2 (by omega) (by omega) (by omega) (by omega) (by omega) (by omega)
    rw [s377] at k3 k4
    have hX3 := hX2.upd k2
    obtain ⟨x4, hx4⟩ : ∃ x4, x4 = az_cpyV x3 224 0 379 0 12 := ⟨_, rfl⟩
    have u4 : bz_Upd x3 x4 (fun a _ => a = 379) := by
      rw [hx4]
      refine ⟨rfl, fun b k hb => ?_, fun b k hb => ?_⟩
      · simp only [az_cpyV]
        rw [if_neg]
        rintro ⟨q, -⟩
        have : bz_isFix 379 k = false := by unfold bz_isFix; simp [bz_cap, bz_fixL, bz_rowsL]
        rw [q, this] at hb
        cases hb
      · simp only [az_cpyV]
        rw [if_neg (fun q => hb q.1)]
    have hX4 := hX3.upd u4
    have e379 : ∀ b, 0 ≤ b → b < 12 → x4.2 379 b = x'.2 224 b := fun b b0 b1 => by
      rw [hx4]
      simp only [az_cpyV]
      rw [if_pos ⟨trivial, by omega, by omega⟩, show 0 + (b - 0) = b by omega, k2.2.2 224 b (fun q => by unfold yz_S at q; omega), u2.2.2 224 b (fun q => by omega)]
    have cp : az_cpy x3 224 0 379 0 12 = some x4 := by
      have l1 := ln_224 hX3
      have l2 := ln_379 hX3
      unfold az_cpy
      rw [if_pos ⟨by decide, by decide, by decide, by decide, by omega, by omega⟩, hx4]
    have uy : bz_Upd σ (az_wr x4 1 2 0) (fun a k => wh_X a k ∨ (a = 1 ∧ k ≤ 4) ∨ a = 375 ∨ a = 376 ∨ a = 379) := bz_Upd.wr ((((e3.weak fun _ _ z => Or.inl z).trans (u2.weak fun a k z => Or.inr (Or.inl ⟨z.1, by omega⟩))).trans (k2.weak fun a k z => by
      rcases z with z | z
      · exact Or.inr (Or.inr (Or.inl z.1))
      · exact Or.inr (Or.inr (Or.inr (Or.inl (by omega)))))).trans (u4.weak fun a k z => Or.inr (Or.inr (Or.inr (Or.inr z))))) (Or.inr (Or.inl ⟨rfl, by omega⟩)) (by decide)
    obtain ⟨sz', m'', r1, r2, r3, -, r5⟩ := ref _ uy
    obtain ⟨⟨o1, o2⟩, o3, o4, o5, o6, ⟨o7, o8, o9⟩⟩ := r5 w1
    have es : sz' = sz := by rw [← o4]; exact v3
    subst es
    have hY := hF.upd uy
    have hM'' := hY.upd r2
    obtain ⟨z0, hz0⟩ : ∃ z0, z0 = az_wr (az_wr (az_wr m'' 804 3 (m''.2 804 11)) 804 4 (m''.2 804 12)) 804 81 sz' := ⟨_, rfl⟩
    have uz0 : bz_Upd m'' z0 (fun a k => a = 804 ∧ (k = 3 ∨ k = 4 ∨ k = 81)) := by
      rw [hz0]
      exact bz_Upd.wr (bz_Upd.wr (bz_Upd.wr bz_Upd.refl ⟨rfl, by omega⟩ (by decide)) ⟨rfl, by omega⟩ (by decide)) ⟨rfl, by omega⟩ (by decide)
    have hZ0 := hM''.upd uz0
    obtain ⟨z1, y1, y2, y3⟩ := rd_t98 (sz := sz') hZ0 (by omega) (by omega)
    have hZ1 := hZ0.upd y2
    obtain ⟨z2, y4, y5, y6⟩ := rd_t127 (nv := m''.2 804 37) hZ1 (by rw [y2.2.2 804 37 (by omega), uz0.2.2 804 37 (fun q => by omega)]) o7.1 o7.2
    have e81 : z1.2 804 81 = sz' := by rw [y2.2.2 804 81 (by omega), hz0, az_wr_same]
    obtain ⟨f, hf⟩ : ∃ f, f = az_wr z2 804 2 0 := ⟨_, rfl⟩
    have uf : bz_Upd z2 f (fun a k => a = 804 ∧ k = 2) := by rw [hf]; exact bz_Upd.wr bz_Upd.refl ⟨rfl, rfl⟩ (by decide)
    have um : bz_Upd (az_wr x4 1 2 0) f (fun a k => wh_M a k ∨ (a = 804 ∧ (k = 2 ∨ k = 3 ∨ k = 4 ∨ k = 81)) ∨ a = 844 ∨ a = 845) := ((((r2.weak fun _ _ q => Or.inl q).trans (uz0.weak fun a k q => Or.inr (Or.inl ⟨q.1, by omega⟩))).trans (y2.weak fun a k q => Or.inr (Or.inr (Or.inl q)))).trans (y5.weak fun a k q => Or.inr (Or.inr (Or.inr q)))).trans (uf.weak fun a k q => Or.inr (Or.inl ⟨q.1, by omega⟩))
    have ut : bz_Upd σ f cz_nw := by
      have t1 : bz_Upd σ x2 cz_nw := (e3.weak fun _ _ q => Or.inl (Or.inl (Or.inl (wh_X_nk q)))).trans (u2.weak fun a k q => Or.inr (Or.inl q))
      have t2 : bz_Upd σ x4 cz_nw := (t1.trans (k2.weak fun a k q => by
        rcases q with q | q
        · exact Or.inl (Or.inr (Or.inl q))
        · exact Or.inl (Or.inr (Or.inr (Or.inl (by omega)))))).trans (u4.weak fun a k q => Or.inr (Or.inr (Or.inr (Or.inl q))))
      have t3 : bz_Upd σ (az_wr x4 1 2 0) cz_nw := bz_Upd.wr t2 (Or.inl (Or.inl (Or.inr (Or.inl ⟨rfl, rfl⟩)))) (by decide)
      refine t3.trans (um.weak fun a k q => ?_)
      rcases q with q | ⟨q, q1 | q1 | q1 | q1⟩ | q | q
      · rcases wh_M_nk q with q | q
        · exact Or.inl (Or.inl (Or.inl q))
        · exact Or.inr (Or.inr (Or.inl ⟨q.1, Or.inl q.2⟩))
      · exact Or.inl (Or.inl (Or.inr (Or.inr ⟨q, q1⟩)))
      · exact Or.inr (Or.inr (Or.inl ⟨q, Or.inr (Or.inl q1)⟩))
      · exact Or.inr (Or.inr (Or.inl ⟨q, Or.inr (Or.inr q1)⟩))
      · exact Or.inl (Or.inr (Or.inr (Or.inr (Or.inr (Or.inl ⟨q, Or.inl q1⟩)))))
      · exact Or.inl (Or.inr (Or.inr (Or.inr (Or.inl q))))
      · exact Or.inr (Or.inr (Or.inr (Or.inr q)))
    have X : ∀ a k, ¬ (a = 804) → ¬ (820 ≤ a ∧ a ≤ 822) → a ≠ 841 → a ≠ 844 → a ≠ 845 → f.2 a k = (az_wr x4 1 2 0).2 a k := fun a k n1 n2 n3 n4 n5 => um.2.2 a k (fun q => by unfold wh_M at q; omega)
    have X1 : ∀ k, k ≠ 2 → f.2 1 k = x2.2 1 k := fun k q => by
      rw [X 1 k (by omega) (by omega) (by omega) (by omega) (by omega), az_wr_ne (by omega), u4.2.2 1 k (by omega), k2.2.2 1 k (fun q => by unfold yz_S at q; omega)]
    have fM : ∀ a k, ¬ (a = 804 ∧ (k = 2 ∨ k = 3 ∨ k = 4 ∨ k = 81)) → a ≠ 844 → a ≠ 845 → f.2 a k = m''.2 a k := fun a k n1 n2 n3 => by
      rw [uf.2.2 a k (fun q => by omega), y5.2.2 a k n3, y2.2.2 a k n2, uz0.2.2 a k (fun q => by omega)]
    have f375 : f.2 375 1 = sz' := by
      rw [X 375 1 (by omega) (by omega) (by omega) (by omega) (by omega), az_wr_ne (by omega), u4.2.2 375 1 (by omega)]; exact k3
    have f376 : ∀ i, 0 ≤ i → i < sz' → f.2 376 i = x'.2 378 i := fun i i0 i1 => by
      rw [X 376 i (by omega) (by omega) (by omega) (by omega) (by omega), az_wr_ne (by omega), u4.2.2 376 i (by omega), show (376 : Int) = 375 + 1 from rfl, k4 i i0 i1, u2.2.2 _ i (fun q => by omega)]
      rfl
    have f844 : ∀ i, 0 ≤ i → i < sz' → f.2 844 i = m''.2 841 i := fun i i0 i1 => by
      rw [uf.2.2 844 i (fun q => by omega), y5.2.2 844 i (by omega), y3 i i0 i1, uz0.2.2 841 i (fun q => by omega)]
    have f845 : ∀ b, 0 ≤ b → b < m''.2 804 37 → f.2 845 b = m''.2 821 b := fun b b0 b1 => by
      rw [uf.2.2 845 b (fun q => by omega), y6 b b0 b1, y2.2.2 821 b (by omega), uz0.2.2 821 b (fun q => by omega)]
    have f379 : ∀ b, 0 ≤ b → b < 12 → f.2 379 b = x'.2 224 b := fun b b0 b1 => by
      rw [X 379 b (by omega) (by omega) (by omega) (by omega) (by omega), az_wr_ne (by omega)]; exact e379 b b0 b1
    have f81 : f.2 804 81 = sz' := by rw [uf.2.2 804 81 (fun q => by omega), y5.2.2 804 81 (by omega)]; exact e81
    have f82 : f.2 804 82 = σ.2 804 82 := by
      rw [fM 804 82 (by omega) (by omega) (by omega), r2.2.2 804 82 (fun q => by unfold wh_M at q; omega), uy.2.2 804 82 (fun q => by unfold wh_X at q; omega)]
    have f15 : f.2 1 15 = σ.2 1 15 := by
      rw [X1 15 (by omega), u2.2.2 1 15 (fun q => by omega), e3.2.2 1 15 (fun q => by unfold wh_X at q; omega)]
    have f3 : f.2 804 3 = 0 ∧ f.2 804 4 = -1 := by
      rw [uf.2.2 804 3 (fun q => by omega), uf.2.2 804 4 (fun q => by omega), y5.2.2 804 3 (by omega), y5.2.2 804 4 (by omega), y2.2.2 804 3 (by omega), y2.2.2 804 4 (by omega), hz0, az_wr_ne (by omega), az_wr_ne (by omega), az_wr_same, az_wr_ne (by omega), az_wr_same]
      exact ⟨o1, o2⟩
    have tS : bz_tS m'' f := fun a k q => fM a k (by omega) (by omega) (by omega)
    have T01 : x'.2 T 0 = m''.2 T 0 ∧ x'.2 T 1 = m''.2 T 1 := by
      have q : ∀ k, x'.2 T k = m''.2 T k := fun k => by
        rw [e3.2.2 T k (fun q => by unfold wh_X at q; omega), r2.2.2 T k (fun q => by unfold wh_M at q; omega), uy.2.2 T k (fun q => by unfold wh_X at q; omega)]
      exact ⟨q 0, q 1⟩
    refine ⟨sz', az_wr x4 1 2 0, f, ?_, ?_, T, s, cz_keepW ut h ⟨by rw [X1 1 (by omega)]; omega, by rw [X1 1 (by omega)]; omega, by rw [fM 804 1 (by omega) (by omega) (by omega), r3, X1 1 (by omega), x21], fun i i0 i1 => by rw [X1 1 (by omega), x21] at i1; omega⟩ ⟨by rw [X1 3 (by omega), x23, if_neg (by omega), f3.1], by rw [X1 4 (by omega), x24, if_neg (by omega), f3.2], by rw [f15, f82]; exact h.2.2.1.2.2⟩ ⟨⟨by omega, by omega, by omega⟩, fun _ => ⟨fun i i0 i1 => ?_, ?_, fun i i0 i1 => ?_⟩⟩, ?_⟩
    · show fz_X10_term 2000000 σ 1 a = _
      have e375 : x4.2 375 1 = sz' := by rw [u4.2.2 375 1 (by omega)]; exact k3
      rw [runX, if_neg (by omega), k1, Option.bind_some, fx_1_8 hX3, Option.bind_some, fx_223_2 hX3, Option.bind_some, fx_1_14 hX3, Option.bind_some, cp, Option.bind_some, fx_1_12 hX4, Option.bind_some, e375]
      rfl
    · show fz_X11_term 2000000 (az_wr x4 1 2 0) 804 a = _
      rw [r1, w1]
      unfold fz_X11_term_74 fz_X11_ends
      rw [if_pos (Or.inr rfl), Option.bind_some, if_neg (show ¬ (1 : Int) = 0 by decide)]
      show fz_X11_term_98 2000000 2000000 (az_wr (az_wr (az_wr m'' 804 3 (m''.2 804 11)) 804 4 ((az_wr m'' 804 3 (m''.2 804 11)).2 804 12)) 804 81 sz') 804 sz' 0 = _
      rw [az_wr_ne (σ := m'') (a := 804) (i := 3) (b := 804) (j := 12) (by omega), ← hz0, y1, y4, e81, hf]
    · rw [f375] at i1
      rw [bz_ct_tS tS, bz_ft_tS tS, tS T 0 (by omega), tS T 1 (by omega), Int.zero_add, show (375 : Int) + 1 = 376 from rfl, f376 i i0 i1, f844 i i0 i1, ← T01.1, ← T01.2]
      refine (o6 i i0 i1).1.weak (fun c b q => ?_)
      unfold rd_V at q
      rw [if_neg (by decide)] at q
      obtain ⟨q0, q1, q2⟩ := q
      have w224 := o9 b q0 q1
      have ec : x'.2 224 b = c := (w224.inj (Or.inr rfl) q2).mpr rfl
      refine ⟨q0, by omega, by rw [f379 b q0 (by omega)]; exact ec, by rw [f845 b q0 q1]; exact q2, fun i j0 j1 => ?_⟩
      rw [f379 i j0 (by omega), ← ec]
      intro q
      exact o8 i b j0 j1 q1 (((o9 i j0 (by omega)).inj (Or.inr rfl) w224).mp q)
    · rw [f375]
      refine o5.cong (fun i j0 j1 => ?_)
      unfold bz_ra
      rw [show (375 : Int) + 1 = 376 from rfl, show (377 : Int) + 1 = 378 from rfl, f376 i j0 (by omega)]
    · rw [f375] at i1
      rw [f844 i i0 i1]
      exact (o6 i i0 i1).2
    · rw [X 1 2 (by omega) (by omega) (by omega) (by omega) (by omega), az_wr_same, hf, az_wr_same]
