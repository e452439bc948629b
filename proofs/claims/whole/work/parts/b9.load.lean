/-! the call load: both read, both judge -/
theorem cz_nk804 {a k : Int} (q : a = 804 ∧ ((5 ≤ k ∧ k ≤ 13) ∨ (16 ≤ k ∧ k ≤ 56))) : cz_nk a k := Or.inr (Or.inr (Or.inr (Or.inr (Or.inr (Or.inr (Or.inr (Or.inr (Or.inr (Or.inl ⟨q.1, by omega⟩)))))))))
theorem cz_nk820 {a k : Int} (q : 820 ≤ a ∧ a ≤ 833) : cz_nk a k := Or.inr (Or.inr (Or.inr (Or.inr (Or.inr (Or.inr (Or.inr (Or.inr (Or.inr (Or.inr (Or.inl q))))))))))
theorem cz_nk161 {a k : Int} (q : 161 ≤ a ∧ a ≤ 242) : cz_nk a k := Or.inr (Or.inl q)
theorem wl_M_nt {T s r a k : Int} (h : wl_M r a k) : cz_nt a k ∨ wl_O T s a k ∨ (a = 804 ∧ k = 15) := by
  have : (a = 804 ∧ k = 15) ∨ (a = 804 ∧ k = 1) ∨ (a = 804 ∧ ((5 ≤ k ∧ k ≤ 13) ∨ (16 ≤ k ∧ k ≤ 56))) ∨ (820 ≤ a ∧ a ≤ 833) ∨ (806 ≤ a ∧ a ≤ 819) := by
    unfold wl_M ld_MB ld_M at h
    omega
  rcases this with q | q | q | q | q
  · exact Or.inr (Or.inr q)
  · exact Or.inl (Or.inr (Or.inr (Or.inr (Or.inl ⟨q.1, Or.inl q.2⟩))))
  · exact Or.inl (Or.inl (Or.inl (cz_nk804 q)))
  · exact Or.inl (Or.inl (Or.inl (cz_nk820 q)))
  · exact Or.inr (Or.inl (Or.inr q))
theorem ld_X_nt {T s a k : Int} (h : ld_X (85 - T) a k) : cz_nt a k ∨ wl_O T s a k := by
  unfold ld_X at h
  rcases h with q | q | q | q
  · exact Or.inr (Or.inl (by omega))
  · exact Or.inl (Or.inl (Or.inl (cz_nk161 (by omega))))
  · exact Or.inl (Or.inl (Or.inl (cz_nk161 (by omega))))
  · exact Or.inl (Or.inl (Or.inl (cz_nk161 (by omega))))
theorem wl_M_mS {s a k : Int} (hs : s = 0 ∨ s = 1) (q : (806 ≤ a ∧ a ≤ 808 ∧ k = s) ∨ ((a = 809 ∨ a = 811) ∧ 8 * s ≤ k ∧ k < 8 * s + 8) ∨ ((a = 810 ∨ (812 ≤ a ∧ a ≤ 814)) ∧ 5 * s ≤ k ∧ k < 5 * s + 5) ∨ ((a = 815 ∨ a = 816) ∧ 256 * s ≤ k ∧ k < 256 * s + 256) ∨ (817 ≤ a ∧ a ≤ 819 ∧ 16 * s ≤ k ∧ k < 16 * s + 16)) : ¬ wl_M (1 - s) a k := by
  intro h
  unfold wl_M ld_MB ld_M at h
  rcases q with q | q | q | q | q <;> omega
theorem cz_op_load : bz_op_load cz_J := by
  rintro a ha σ ⟨T, s, h, eq⟩
  have hF := h.1.1
  obtain ⟨-, c15, c16, c14, c5, c2432, c2434, hTR⟩ := h.1
  have hT := hTR.1
  have hs := hTR.2.1
  obtain ⟨p1, p2, p3, p4⟩ := h.2.1
  by_cases ra : 0 ≤ a ∧ a ≤ σ.2 1 1
  rotate_left
  · refine cz_rd (f := fun σ => fz_X10_load 2000000 σ 1 a) (g := fun σ => fz_X11_load 2000000 σ 804 a) h (r := -1) (v := 1) ?_ ?_
    · simp only [fz_X10_load, fz_X10_refuse]
      by_cases c : a < 0
      · rw [if_pos c, Option.bind_some]
      · rw [if_neg c, if_pos (by omega), Option.bind_some]
    · simp only [fz_X11_load, fz_X11_refuse, fz_X11_isFrom]
      rw [az_wr_ne (by omega), p3]
      by_cases c : a < 0
      · rw [if_pos c, Option.bind_some, if_pos rfl, Option.bind_some]
      · rw [if_neg c, if_pos (by omega), Option.bind_some, if_pos rfl, Option.bind_some]
  obtain ⟨U, hU⟩ : ∃ U, U = 85 - T := ⟨_, rfl⟩
  obtain ⟨r, hr⟩ : ∃ r, r = 1 - s := ⟨_, rfl⟩
  have hU3 : U = 3 ∨ U = 82 := by omega
  have hr01 : r = 0 ∨ r = 1 := by omega
  have hTX : lx_tapeX σ (fun i => σ.2 2 i) a := ⟨⟨ra.1, by omega⟩, fun i i0 i1 => ⟨rfl, (p4 i i0 (by omega)).2⟩⟩
  obtain ⟨w, x', mv, hw, e1, -, e3, e4v, -, e15v, -, e7⟩ := ld_text (T := U) (s := r) hF hF hTX (fun i i0 i1 => (p4 i i0 (by omega)).1.symm) hU3 hr01 (by omega) (by omega)
  have hX' := hF.upd e3
  obtain ⟨x2, hx2⟩ : ∃ x2, x2 = az_wr (az_wr (az_wr x' 1 1 0) 1 3 (if w = 0 then x'.2 223 0 else 0)) 1 4 (if w = 0 then x'.2 223 1 else -1) := ⟨_, rfl⟩
  have tt := rd_takeTape hX' hw
  rw [← hx2] at tt
  have u2 : bz_Upd x' x2 (fun a k => a = 1 ∧ (k = 1 ∨ k = 3 ∨ k = 4)) := by
    rw [hx2]
    exact bz_Upd.wr (bz_Upd.wr (bz_Upd.wr bz_Upd.refl ⟨rfl, by omega⟩ (by decide)) ⟨rfl, by omega⟩ (by decide)) ⟨rfl, by omega⟩ (by decide)
  have hX2 := hX'.upd u2
  have x21 : x2.2 1 1 = 0 := by rw [hx2, az_wr_ne (by omega), az_wr_ne (by omega), az_wr_same]
  have x23 : x2.2 1 3 = (if w = 0 then x'.2 223 0 else 0) := by rw [hx2, az_wr_ne (by omega), az_wr_same]
  have x24 : x2.2 1 4 = (if w = 0 then x'.2 223 1 else -1) := by rw [hx2, az_wr_same]
  have ux2 : bz_Upd σ x2 (fun a k => ld_X U a k ∨ (a = 1 ∧ (k = 1 ∨ k = 3 ∨ k = 4))) := (e3.weak fun _ _ z => Or.inl z).trans (u2.weak fun _ _ z => Or.inr z)
  have x25 : x2.2 1 5 = T := by rw [ux2.2.2 1 5 (fun z => by unfold ld_X at z; omega)]; exact c15
  have x26 : x2.2 1 6 = U := by rw [ux2.2.2 1 6 (fun z => by unfold ld_X at z; omega)]; omega
  have ref : ∀ y, bz_Upd σ y (fun a _ => a < 804) → ∃ m'', fz_X11_load 2000000 y 804 a = fz_X11_load_84 2000000 m'' 804 w ∧ bz_Upd y m'' (wl_M r) ∧ m''.2 804 1 = 0 ∧ m''.2 804 15 = r ∧ (w = 0 → lx_fault x' m'') ∧ (w = 1 → ld_T x' m'' U r ∧ m''.2 804 11 = 0 ∧ m''.2 804 12 = -1) := by
    intro y uy
    have hY := hF.upd uy
    obtain ⟨w', x'', m'', hw', f1, f2, f3, f4, f5, f6, f7, f8⟩ := ld_text (T := U) (s := r) hF hY hTX (fun i i0 i1 => by rw [uy.2.2 805 i (by omega)]; exact (p4 i i0 (by omega)).1.symm) hU3 hr01 (by rw [uy.2.2 804 14 (by omega)]; omega) (by rw [uy.2.2 804 1 (by omega)]; omega)
    have d := sy_det e1 f1
    simp only [Prod.mk.injEq] at d
    obtain ⟨rfl, rfl⟩ := d
    exact ⟨m'', f2, f4, f5, f6, f7, f8⟩
  have lt8 : ∀ a k, ld_X U a k → a < 804 := fun a k z => by unfold ld_X at z; omega
  rcases hw with w0 | w1
  · -- a FAULT
    have uy : bz_Upd σ (az_wr x2 1 2 9) (fun a k => ld_X U a k ∨ (a = 1 ∧ 1 ≤ k ∧ k ≤ 4)) := bz_Upd.wr (ux2.weak fun a k z => by rcases z with z | z; exact Or.inl z; exact Or.inr (by omega)) (Or.inr ⟨rfl, by omega, by omega⟩) (by decide)
    obtain ⟨m'', r1, r2, r3, r4, r5, -⟩ := ref _ (uy.weak fun a k z => by rcases z with z | z; exact lt8 a k z; omega)
    have m14 : m''.2 804 14 = s := by rw [r2.2.2 804 14 (fun z => by unfold wl_M ld_MB ld_M at z; omega), uy.2.2 804 14 (fun z => by unfold ld_X at z; omega)]; exact c14
    obtain ⟨q, hq⟩ : ∃ q, q = az_wr m'' 804 15 s := ⟨_, rfl⟩
    obtain ⟨z, hz⟩ : ∃ z, z = az_wr (az_wr (az_wr q 804 3 (q.2 804 11)) 804 4 (q.2 804 12)) 804 2 9 := ⟨_, rfl⟩
    have uq : bz_Upd m'' q (fun a k => a = 804 ∧ k = 15) := by rw [hq]; exact bz_Upd.wr bz_Upd.refl ⟨rfl, rfl⟩ (by decide)
    have uz : bz_Upd q z (fun a k => a = 804 ∧ (k = 2 ∨ k = 3 ∨ k = 4)) := by
      rw [hz]
      exact bz_Upd.wr (bz_Upd.wr (bz_Upd.wr bz_Upd.refl ⟨rfl, by omega⟩ (by decide)) ⟨rfl, by omega⟩ (by decide)) ⟨rfl, by omega⟩ (by decide)
    have uqz : bz_Upd m'' z (fun a k => a = 804 ∧ (k = 2 ∨ k = 3 ∨ k = 4 ∨ k = 15)) := (uq.weak fun a k z => ⟨z.1, by omega⟩).trans (uz.weak fun a k z => ⟨z.1, by omega⟩)
    have all : bz_Upd σ z (fun _ _ => True) := ((uy.weak fun _ _ _ => trivial).trans (r2.weak fun _ _ _ => trivial)).trans (uqz.weak fun _ _ _ => trivial)
    have z15 : z.2 804 15 = σ.2 804 15 := by rw [uz.2.2 804 15 (fun z => by omega), hq, az_wr_same]; omega
    have E : ∀ k, z.2 1 k = (az_wr x2 1 2 9).2 1 k := fun k => by
      rw [uqz.2.2 1 k (fun q => by omega), r2.2.2 1 k (fun q => by unfold wl_M ld_MB ld_M at q; omega)]
    have z1 : z.2 1 1 = 0 := by rw [E 1, az_wr_ne (by omega)]; exact x21
    have z8 : z.2 804 1 = 0 := by rw [uqz.2.2 804 1 (fun q => by omega)]; exact r3
    have fl := r5 w0
    have q11 : q.2 804 11 = m''.2 804 11 := uq.2.2 804 11 (fun q => by omega)
    have q12 : q.2 804 12 = m''.2 804 12 := uq.2.2 804 12 (fun q => by omega)
    refine ⟨-1, az_wr x2 1 2 9, z, ?_, ?_, T, s, cz_keepL h all.1 all.2.1 (fun a k n1 n2 => ?_) (fun a k qs => ?_) ⟨by omega, by omega, by omega, fun i i0 i1 => by omega⟩ ?_ ?_, ?_⟩
    · show fz_X10_load 2000000 σ 1 a = _
      unfold fz_X10_load
      rw [if_neg (by omega), if_neg (by omega), fx_1_8 hF, Option.bind_some, fx_1_0 hF, Option.bind_some, bz_gr (show σ.2 1 6 = U by omega) (by omega), Option.bind_some, e1, Option.bind_some, tt, Option.bind_some, if_pos w0]
      rfl
    · show fz_X11_load 2000000 (az_wr x2 1 2 9) 804 a = _
      rw [r1, w0]
      unfold fz_X11_load_84
      rw [if_pos rfl, m14, ← hq]
      unfold fz_X11_load_96 fz_X11_ends
      rw [if_pos (Or.inl rfl), Option.bind_some, if_pos rfl, hz]
      show some ((-1 : Int), _) = _
      rw [az_wr_ne (b := 804) (j := 12) (by omega)]
    · by_cases c1 : a = 804 ∧ k = 15
      · rw [c1.1, c1.2]; exact z15
      · rw [uqz.2.2 a k (fun c => ?_), r2.2.2 a k (fun c => ?_), uy.2.2 a k (fun c => ?_)]
        · rcases c with c | c
          · rw [hU] at c
            rcases ld_X_nt (T := T) (s := s) c with c | c
            · exact n1 c
            · exact n2 c
          · apply n1
            by_cases k2 : k = 2
            · exact Or.inl (Or.inr (Or.inl ⟨c.1, k2⟩))
            · exact Or.inr (Or.inl ⟨c.1, by omega⟩)
        · rcases wl_M_nt (T := T) (s := s) c with c | c | c
          · exact n1 c
          · exact n2 c
          · exact c1 c
        · apply n1
          by_cases k2 : k = 2
          · exact Or.inl (Or.inr (Or.inr ⟨c.1, k2⟩))
          · exact Or.inr (Or.inr (Or.inr (Or.inl ⟨c.1, by omega⟩)))
    · rw [uqz.2.2 a k (fun c => by omega), r2.2.2 a k (fun c => wl_M_mS hs qs (by rw [← hr]; exact c)), uy.2.2 a k (fun c => by unfold ld_X at c; omega)]
    · rw [E 3, az_wr_ne (by omega), x23, if_pos w0, hz, az_wr_ne (by omega), az_wr_ne (by omega), az_wr_same, q11]; exact fl.1
    · rw [E 4, az_wr_ne (by omega), x24, if_pos w0, hz, az_wr_ne (by omega), az_wr_same, q12]; exact fl.2
    · rw [E 2, az_wr_same, hz, az_wr_same]
  · -- a TEXT
    have Lv := (e7 w1).1
    obtain ⟨x3, hx3⟩ : ∃ x3, x3 = az_wr (az_wr x2 1 5 U) 1 6 T := ⟨_, rfl⟩
    have u3 : bz_Upd x2 x3 (fun a k => a = 1 ∧ (k = 5 ∨ k = 6)) := by rw [hx3]; exact bz_Upd.wr (bz_Upd.wr bz_Upd.refl ⟨rfl, by omega⟩ (by decide)) ⟨rfl, by omega⟩ (by decide)
    have hX3 := hX2.upd u3
    have x3x : ∀ a k, a ≠ 1 → x3.2 a k = x'.2 a k := fun a k q => by rw [u3.2.2 a k (fun z => q z.1), u2.2.2 a k (fun z => q z.1)]
    have x35 : x3.2 1 5 = U := by rw [hx3, az_wr_ne (by omega), az_wr_same]
    have ux3 : bz_Upd σ x3 (fun _ _ => True) := (ux2.weak fun _ _ _ => trivial).trans (u3.weak fun _ _ _ => trivial)
    obtain ⟨σv, hσv⟩ : ∃ σv : az_Hp, σv = (σ.1, fun a k => if a ≤ 803 then x3.2 a k else mv.2 a k) := ⟨_, rfl⟩
    have vX : ∀ a k, a ≤ 803 → σv.2 a k = x3.2 a k := fun a k q => by rw [hσv]; show (if _ then _ else _) = _; rw [if_pos q]
    have vM : ∀ a k, ¬ a ≤ 803 → σv.2 a k = mv.2 a k := fun a k q => by rw [hσv]; show (if _ then _ else _) = _; rw [if_neg q]
    have uv : bz_Upd σ σv (fun _ _ => True) := ⟨by rw [hσv], fun a k q => by
      by_cases c : a ≤ 803
      · rw [vX a k c]; exact ux3.2.1 a k q
      · rw [vM a k c]; exact e4v.2.1 a k q, fun a k q => absurd trivial q⟩
    have hV : mz_H x3 σv U r := ⟨hX3, hF.upd uv, Lv.tr (fun a k q q' => by rw [vX a k (by omega), x3x a k (by omega)]) (fun a k q q' => vM a k (by omega)), fun a k q => (vX a k (by omega)).symm, by rw [vM 804 15 (by omega)]; exact e15v⟩
    have nbV := mz_nb hV
    obtain ⟨x4, j1, j2, -, j4, j5⟩ := nz_ja2 (x3.2 U 2).toNat 2000000 x3 0 hV (by omega) (by omega) (by omega)
    have hX4 := hX3.upd j2
    have x4k : ∀ a k, ¬ nz_C U a k → x4.2 a k = x3.2 a k := fun a k q => j2.2.2 a k q
    have x45 : x4.2 1 5 = U := by rw [x4k 1 5 (fun z => by unfold nz_C cz_SJ at z; omega)]; exact x35
    obtain ⟨x5, hx5⟩ : ∃ x5, x5 = az_wr x4 243 2 U := ⟨_, rfl⟩
    have u5 : bz_Upd x4 x5 (fun a k => a = 243 ∧ k = 2) := by rw [hx5]; exact bz_Upd.wr bz_Upd.refl ⟨rfl, rfl⟩ (by decide)
    have hX5 := hX4.upd u5
    obtain ⟨x7, hx7⟩ : ∃ x7, x7 = az_wr (az_wr x5 375 1 0) 1 15 (-1) := ⟨_, rfl⟩
    have u7 : bz_Upd x5 x7 (fun a k => (a = 375 ∧ k = 1) ∨ (a = 1 ∧ k = 15)) := by rw [hx7]; exact bz_Upd.wr (bz_Upd.wr bz_Upd.refl (Or.inl ⟨rfl, rfl⟩) (by decide)) (Or.inr ⟨rfl, rfl⟩) (by decide)
    have hX7 := hX5.upd u7
    obtain ⟨x8, hx8⟩ : ∃ x8, x8 = az_wr (az_wr (az_wr (az_wr x7 380 0 0) 380 1 0) 380 5 0) 380 6 0 := ⟨_, rfl⟩
    have u8 : bz_Upd x7 x8 (fun a k => a = 380 ∧ (k = 0 ∨ k = 1 ∨ k = 5 ∨ k = 6)) := by
      rw [hx8]
      exact bz_Upd.wr (bz_Upd.wr (bz_Upd.wr (bz_Upd.wr bz_Upd.refl ⟨rfl, by omega⟩ (by decide)) ⟨rfl, by omega⟩ (by decide)) ⟨rfl, by omega⟩ (by decide)) ⟨rfl, by omega⟩ (by decide)
    obtain ⟨y, hy⟩ : ∃ y, y = az_wr x8 1 2 0 := ⟨_, rfl⟩
    have u9 : bz_Upd x8 y (fun a k => a = 1 ∧ k = 2) := by rw [hy]; exact bz_Upd.wr bz_Upd.refl ⟨rfl, rfl⟩ (by decide)
    -- what the class has changed since it had read
    have u49 : bz_Upd x4 y (fun a k => (a = 243 ∧ k = 2) ∨ (a = 375 ∧ k = 1) ∨ (a = 1 ∧ (k = 2 ∨ k = 15)) ∨ (a = 380 ∧ (k = 0 ∨ k = 1 ∨ k = 5 ∨ k = 6))) := (((u5.weak fun a k z => Or.inl z).trans (u7.weak fun a k z => by rcases z with z | z; exact Or.inr (Or.inl z); exact Or.inr (Or.inr (Or.inl (by omega))))).trans (u8.weak fun a k z => Or.inr (Or.inr (Or.inr z)))).trans (u9.weak fun a k z => Or.inr (Or.inr (Or.inl (by omega))))
    have y4 : ∀ a k, (a < 243 ∧ a ≠ 1) ∨ (243 < a ∧ a < 375) ∨ (375 < a ∧ a < 380) ∨ 380 < a → y.2 a k = x4.2 a k := fun a k q => u49.2.2 a k (fun z => by omega)
    have uy : bz_Upd σ y (fun a k => ld_X U a k ∨ nz_C U a k ∨ a = 1 ∨ (a = 243 ∧ k = 2) ∨ (a = 375 ∧ k = 1) ∨ (a = 380 ∧ (k = 0 ∨ k = 1 ∨ k = 5 ∨ k = 6))) := (((ux2.weak fun a k z => by rcases z with z | z; exact Or.inl z; exact Or.inr (Or.inr (Or.inl z.1))).trans (u3.weak fun a k z => Or.inr (Or.inr (Or.inl z.1)))).trans (j2.weak fun a k z => Or.inr (Or.inl z))).trans (u49.weak fun a k z => by
      rcases z with z | z | z | z
      · exact Or.inr (Or.inr (Or.inr (Or.inl z)))
      · exact Or.inr (Or.inr (Or.inr (Or.inr (Or.inl z))))
      · exact Or.inr (Or.inr (Or.inl z.1))
      · exact Or.inr (Or.inr (Or.inr (Or.inr (Or.inr z)))))
    have uy8 : bz_Upd σ y (fun a _ => a < 804) := uy.weak fun a k z => by
      unfold ld_X nz_C cz_SJ at z
      omega
    obtain ⟨m'', r1, r2, r3, r4, -, r6⟩ := ref y uy8
    obtain ⟨Lm, m11, m12⟩ := r6 w1
    have hY := hF.upd uy8
    have hM'' := hY.upd r2
    have mY : ∀ a k, a < 804 → m''.2 a k = y.2 a k := fun a k q => r2.2.2 a k (fun c => by unfold wl_M ld_MB ld_M at c; omega)
    obtain ⟨z0, hz0⟩ : ∃ z0, z0 = az_wr (az_wr (az_wr (az_wr (az_wr (az_wr (az_wr m'' 804 3 0) 804 4 (-1)) 804 14 r) 804 81 0) 804 87 0) 804 101 0) 804 82 (-1) := ⟨_, rfl⟩
    have uz0 : bz_Upd m'' z0 (fun a k => a = 804 ∧ (k = 3 ∨ k = 4 ∨ k = 14 ∨ k = 81 ∨ k = 87 ∨ k = 101 ∨ k = 82)) := by
      rw [hz0]
      exact bz_Upd.wr (bz_Upd.wr (bz_Upd.wr (bz_Upd.wr (bz_Upd.wr (bz_Upd.wr (bz_Upd.wr bz_Upd.refl ⟨rfl, by omega⟩ (by decide)) ⟨rfl, by omega⟩ (by decide)) ⟨rfl, by omega⟩ (by decide)) ⟨rfl, by omega⟩ (by decide)) ⟨rfl, by omega⟩ (by decide)) ⟨rfl, by omega⟩ (by decide)) ⟨rfl, by omega⟩ (by decide)
    have hZ0 := hM''.upd uz0
    have z0m : ∀ a k, a ≠ 804 → z0.2 a k = m''.2 a k := fun a k q => uz0.2.2 a k (fun z => q z.1)
    -- what is told, in z0
    obtain ⟨σ1, hσ1⟩ : ∃ σ1 : az_Hp, σ1 = (σ.1, fun a k => if a ≤ 803 then x'.2 a k else m''.2 a k) := ⟨_, rfl⟩
    have s1X : ∀ a k, a ≤ 803 → σ1.2 a k = x'.2 a k := fun a k q => by rw [hσ1]; show (if _ then _ else _) = _; rw [if_pos q]
    have s1M : ∀ a k, ¬ a ≤ 803 → σ1.2 a k = m''.2 a k := fun a k q => by rw [hσ1]; show (if _ then _ else _) = _; rw [if_neg q]
    have TR1 : bz_TR σ1 U r := Lm.tr (fun a k q q' => s1X a k (by omega)) (fun a k q q' => s1M a k (by omega))
    have zx : ∀ a k, (U ≤ a ∧ a ≤ U + 10) ∨ (U + 15 ≤ a ∧ a ≤ U + 78) → z0.2 a k = x'.2 a k := fun a k q => by
      rw [z0m a k (by omega), mY a k (by omega), y4 a k (by omega), x4k a k (fun z => by unfold nz_C cz_SJ at z; omega), x3x a k (by omega)]
    have TRz : bz_TR z0 U r := TR1.loc (fun a k q => by rw [zx a k q, s1X a k (by omega)]) (fun a k q => by rw [z0m a k (by omega), s1M a k (by omega)])
    have z015 : z0.2 804 15 = r := by rw [uz0.2.2 804 15 (fun z => by omega)]; exact r4
    have hZ : mz_H z0 z0 U r := ⟨hZ0, hZ0, TRz, mz_cS.refl, z015⟩
    have nbZ := mz_nb hZ
    obtain ⟨z1, l1, l2, -, l4⟩ := nz_lc2 (z0.2 U 2).toNat 2000000 z0 0 hZ (by omega) (by omega) (by omega)
    have hZ1 := hZ0.upd l2
    obtain ⟨f, hf⟩ : ∃ f, f = az_wr z1 804 2 0 := ⟨_, rfl⟩
    have uf : bz_Upd z1 f (fun a k => a = 804 ∧ k = 2) := by rw [hf]; exact bz_Upd.wr bz_Upd.refl ⟨rfl, rfl⟩ (by decide)
    have hFf := hZ1.upd uf
    have fz : ∀ a k, a < 804 ∨ (804 < a ∧ a < 823) ∨ 835 < a → f.2 a k = z0.2 a k := fun a k q => by
      rw [uf.2.2 a k (fun z => by omega), l2.2.2 a k (fun z => by unfold nz_D cz_SM at z; omega)]
    have fz4 : ∀ k, k ≠ 2 → ¬ (49 ≤ k ∧ k ≤ 52) → f.2 804 k = z0.2 804 k := fun k q q' => by
      rw [uf.2.2 804 k (fun z => q z.2), l2.2.2 804 k (fun z => by unfold nz_D cz_SM at z; omega)]
    have fY : ∀ a k, a < 804 → f.2 a k = y.2 a k := fun a k q => by rw [fz a k (Or.inl q), z0m a k (by omega), mY a k q]
    have fS : ∀ a k, a = 836 ∨ 867 < a → f.2 a k = σ.2 a k := fun a k q => by
      rw [fz a k (by omega), z0m a k (by omega), r2.2.2 a k (fun c => by unfold wl_M ld_MB ld_M at c; omega), uy8.2.2 a k (by omega)]
    have fS4 : ∀ k, k = 57 ∨ k = 58 → f.2 804 k = σ.2 804 k := fun k q => by
      rw [fz4 k (by omega) (by omega), uz0.2.2 804 k (fun z => by omega), r2.2.2 804 k (fun c => by unfold wl_M ld_MB ld_M at c; omega), uy8.2.2 804 k (by omega)]
    have xz : mz_cS U z0 x3 := fun a k q => by rw [zx a k q, x3x a k (by omega)]
    have fzc : mz_cS U z0 f := fun a k q => fz a k (by omega)
    have fzm : mz_mS r z0 f := fun a k q => fz a k (by omega)
    have tab : cz_Tab f U r := ld_tab hV hZ xz (fun j i j0 j1 i0 ij => j4 j i j0 j1 i0 ij) j5 (fun j i j0 j1 i0 i1 => l4 j i j0 j1 i0 i1) fzc fzm (fun a k q q' => by rw [fY a k (by omega), y4 a k (by omega)]) (fun a k q => uf.2.2 a k (fun z => by omega))
    have n8 : z1.2 808 r = y.2 U 2 := by
      rw [l2.2.2 808 r (fun z => by unfold nz_D cz_SM at z; omega), ← TRz.2.2.2.1.1, z0m U 2 (by omega), mY U 2 (by omega)]
    have y1 : y.2 1 1 = 0 := by rw [u49.2.2 1 1 (fun z => by omega), x4k 1 1 (fun z => by unfold nz_C cz_SJ at z; omega), u3.2.2 1 1 (fun z => by omega)]; exact x21
    have y3 : y.2 1 3 = 0 := by rw [u49.2.2 1 3 (fun z => by omega), x4k 1 3 (fun z => by unfold nz_C cz_SJ at z; omega), u3.2.2 1 3 (fun z => by omega), x23, if_neg (by omega)]
    have y41 : y.2 1 4 = -1 := by rw [u49.2.2 1 4 (fun z => by omega), x4k 1 4 (fun z => by unfold nz_C cz_SJ at z; omega), u3.2.2 1 4 (fun z => by omega), x24, if_neg (by omega)]
    have y5 : y.2 1 5 = U := by rw [u49.2.2 1 5 (fun z => by omega)]; exact x45
    have y6 : y.2 1 6 = T := by rw [u49.2.2 1 6 (fun z => by omega), x4k 1 6 (fun z => by unfold nz_C cz_SJ at z; omega), hx3, az_wr_same]
    have y15 : y.2 1 15 = -1 := by rw [hy, az_wr_ne (by omega), u8.2.2 1 15 (fun z => by omega), hx7, az_wr_same]
    have y375 : y.2 375 1 = 0 := by rw [hy, az_wr_ne (by omega), u8.2.2 375 1 (fun z => by omega), hx7, az_wr_ne (by omega), az_wr_same]
    have y243 : y.2 243 2 = U := by rw [hy, az_wr_ne (by omega), u8.2.2 243 2 (fun z => by omega), u7.2.2 243 2 (fun z => by omega), hx5, az_wr_same]
    have y380 : ∀ k, k = 0 ∨ k = 5 ∨ k = 6 → y.2 380 k = 0 := fun k q => by
      rw [hy, az_wr_ne (by omega), hx8]
      rcases q with rfl | rfl | rfl
      · rw [az_wr_ne (by omega), az_wr_ne (by omega), az_wr_ne (by omega), az_wr_same]
      · rw [az_wr_ne (by omega), az_wr_same]
      · rw [az_wr_same]
    have z081 : z0.2 804 81 = 0 ∧ z0.2 804 87 = 0 ∧ z0.2 804 101 = 0 ∧ z0.2 804 82 = -1 ∧ z0.2 804 3 = 0 ∧ z0.2 804 4 = -1 ∧ z0.2 804 14 = r := by
      rw [hz0]
      refine ⟨?_, ?_, ?_, ?_, ?_, ?_, ?_⟩
      · rw [az_wr_ne (by omega), az_wr_ne (by omega), az_wr_ne (by omega), az_wr_same]
      · rw [az_wr_ne (by omega), az_wr_ne (by omega), az_wr_same]
      · rw [az_wr_ne (by omega), az_wr_same]
      · rw [az_wr_same]
      · rw [az_wr_ne (by omega), az_wr_ne (by omega), az_wr_ne (by omega), az_wr_ne (by omega), az_wr_ne (by omega), az_wr_ne (by omega), az_wr_same]
      · rw [az_wr_ne (by omega), az_wr_ne (by omega), az_wr_ne (by omega), az_wr_ne (by omega), az_wr_ne (by omega), az_wr_same]
      · rw [az_wr_ne (by omega), az_wr_ne (by omega), az_wr_ne (by omega), az_wr_ne (by omega), az_wr_same]
    have w0 : f.2 380 0 = 0 := by rw [fY _ _ (by omega)]; exact y380 0 (by omega)
    have w5 : f.2 380 5 = 0 := by rw [fY _ _ (by omega)]; exact y380 5 (by omega)
    have w6 : f.2 380 6 = 0 := by rw [fY _ _ (by omega)]; exact y380 6 (by omega)
    have v87 : f.2 804 87 = 0 := by rw [fz4 87 (by omega) (by omega)]; exact z081.2.1
    have v101 : f.2 804 101 = 0 := by rw [fz4 101 (by omega) (by omega)]; exact z081.2.2.1
    have s383 : ∀ k, f.2 383 k = σ.2 383 k := fun k => by rw [fY _ _ (by omega), uy.2.2 383 k (fun z => by unfold ld_X nz_C cz_SJ at z; omega)]
    obtain ⟨-, -, -, -, -, -, q7, q8⟩ := h.2.2.2.2.2.1
    have all : f.1 = σ.1 := by rw [uf.1, l2.1, uz0.1, r2.1, uy8.1]
    have K : cz_K f U r := by
      refine ⟨⟨hFf, by rw [fY _ _ (by omega)]; exact y5, by rw [fY _ _ (by omega)]; omega, by rw [fz4 14 (by omega) (by omega)]; exact z081.2.2.2.2.2.2, by rw [fz4 15 (by omega) (by omega)]; exact z015, by rw [fY _ _ (by omega)]; exact y243, ?_, TRz.loc fzc fzm⟩, ⟨?_, ?_, ?_, fun i i0 i1 => ?_⟩, ⟨?_, ?_, ?_⟩, tab, ⟨⟨?_, ?_, ?_⟩, fun q => ?_⟩, ?_, ?_⟩
      · rw [fY _ _ (by omega), uy.2.2 243 4 (fun z => by unfold ld_X nz_C cz_SJ at z; omega)]; exact c2434
      · rw [fY _ _ (by omega), y1]; decide
      · rw [fY _ _ (by omega), y1]; decide
      · rw [fY _ _ (by omega), y1, fz4 1 (by omega) (by omega), uz0.2.2 804 1 (fun z => by omega)]; exact r3
      · rw [fY _ _ (by omega), y1] at i1; omega
      · rw [fY _ _ (by omega), y3, fz4 3 (by omega) (by omega)]; exact z081.2.2.2.2.1.symm
      · rw [fY _ _ (by omega), y41, fz4 4 (by omega) (by omega)]; exact z081.2.2.2.2.2.1.symm
      · rw [fY _ _ (by omega), y15, fz4 82 (by omega) (by omega)]; exact z081.2.2.2.1.symm
      · rw [fY _ _ (by omega), y375]; decide
      · rw [fY _ _ (by omega), y375]; decide
      · rw [fY _ _ (by omega), y375, fz4 81 (by omega) (by omega)]; exact z081.1
      · rw [fY _ _ (by omega), y375] at q; omega
      · refine ⟨⟨by omega, by omega⟩, ⟨by omega, by omega, by omega⟩, fun z => absurd z (by omega), ?_, fun k k0 k1 => absurd k1 (by omega), ⟨fun _ => 0, fun _ => (by decide : (0 : Nat) < 6), fun k i k0 k1 => absurd k1 (by omega)⟩, fun q q0 q1 => by rw [s383]; exact q7 q q0 q1, fun q p q0 q1 p0 p1 e => ?_⟩
        · unfold cz_bn
          rw [w6, if_neg (by omega), if_neg (by omega), if_neg (by omega), if_neg (by omega), if_neg (by omega), if_neg (by omega)]
          decide
        · rw [s383, s383] at e
          exact q8 q p q0 q1 p0 p1 e
      · refine h.2.2.2.2.2.2.cong all ?_ ?_ (fun a k q => ?_) (fS4 57 (by omega)) (fS4 58 (by omega))
        · rw [fY _ _ (by omega), uy.2.2 801 0 (fun z => by unfold ld_X nz_C cz_SJ at z; omega)]
        · rw [fY _ _ (by omega), uy.2.2 801 1 (fun z => by unfold ld_X nz_C cz_SJ at z; omega)]
        · rcases q with q | q | q
          · rw [q, fY _ _ (by omega), uy.2.2 802 k (fun z => by unfold ld_X nz_C cz_SJ at z; omega)]
          · exact fS a k (Or.inr q)
          · exact fS a k (Or.inl q)
    refine ⟨y.2 U 2, y, f, ?_, ?_, U, r, K, ?_⟩
    · show fz_X10_load 2000000 σ 1 a = _
      have x85 : x8.2 1 5 = U := by rw [← y5, hy, az_wr_ne (by omega)]
      have x7f : fz_X8_forget x7 380 = some x8 := by unfold fz_X8_forget; rw [hx8]
      have y2 : y.2 U 2 = x8.2 U 2 := by rw [hy, az_wr_ne (by omega)]
      unfold fz_X10_load
      rw [if_neg (by omega), if_neg (by omega), fx_1_8 hF, Option.bind_some, fx_1_0 hF, Option.bind_some, bz_gr (show σ.2 1 6 = U by omega) (by omega), Option.bind_some, e1, Option.bind_some, tt, Option.bind_some, if_neg (show ¬ w = 0 by omega), bz_gr x25 (by omega), Option.bind_some, bz_gr x26 (by omega), Option.bind_some, ← hx3, fx_1_10 hX3, Option.bind_some, bz_gr x35 (by omega), Option.bind_some]
      have jA : fz_X1_judgeAll 2000000 x3 242 U = some x4 := j1
      rw [jA, Option.bind_some, fx_1_11 hX4, Option.bind_some, bz_gr x45 (by omega), Option.bind_some, ← hx5, fx_1_12 hX5, Option.bind_some, ← hx7, fx_1_16 hX7, Option.bind_some, x7f, Option.bind_some, bz_gr x85 (by omega), Option.bind_some]
      show some (x8.2 U 2, az_wr x8 1 2 0) = _
      rw [y2, ← hy]
    · show fz_X11_load 2000000 y 804 a = _
      have eE : az_wr (az_wr m'' 804 3 (m''.2 804 11)) 804 4 ((az_wr m'' 804 3 (m''.2 804 11)).2 804 12) = az_wr (az_wr m'' 804 3 0) 804 4 (-1) := by
        rw [az_wr_ne (b := 804) (j := 12) (by omega), m11, m12]
      have e15 : (az_wr (az_wr m'' 804 3 0) 804 4 (-1)).2 804 15 = r := by rw [az_wr_ne (by omega), az_wr_ne (by omega)]; exact r4
      have z114 : z1.2 804 14 = r := by rw [l2.2.2 804 14 (fun z => by unfold nz_D cz_SM at z; omega)]; exact z081.2.2.2.2.2.2
      have lc : fz_X11_laysCompatible 2000000 z0 804 = some z1 := l1
      rw [r1, w1]
      unfold fz_X11_load_84
      rw [if_neg (show ¬ (1 : Int) = 0 by decide)]
      unfold fz_X11_load_96 fz_X11_ends
      rw [if_pos (Or.inr rfl), Option.bind_some, if_neg (show ¬ (1 : Int) = 0 by decide)]
      simp only [eE, e15]
      rw [← hz0, lc, Option.bind_some, fx_804_18 hZ1, Option.bind_some, z114, bz_ard (by omega) (by rw [ln_808 hZ1]; omega), Option.bind_some, n8]
      show some (y.2 U 2, az_wr z1 804 2 0) = _
      rw [← hf]
    · rw [fY 1 2 (by omega), hy, az_wr_same, hf, az_wr_same]
