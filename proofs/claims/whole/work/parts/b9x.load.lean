/-! the call load -/
theorem ld_X_lt {U a k : Int} (hU : U = 3 ∨ U = 82) (z : ld_X U a k) : a < 804 := by
  unfold ld_X at z
  omega
theorem ld_X_1 {U a k : Int} (hU : U = 3 ∨ U = 82) (q : a = 1 ∨ 231 ≤ a) : ¬ ld_X U a k := by
  intro z
  unfold ld_X at z
  omega
theorem wl_M_lt {r a k : Int} (q : a < 804) : ¬ wl_M r a k := by
  intro z
  unfold wl_M ld_MB ld_M at z
  omega
theorem wl_M_14 {r : Int} : ¬ wl_M r 804 14 := by
  intro z
  unfold wl_M ld_MB ld_M at z
  omega
theorem wl_M_hi {r a k : Int} (q : a = 836 ∨ 867 < a ∨ (a = 804 ∧ (k = 57 ∨ k = 58))) : ¬ wl_M r a k := by
  intro z
  unfold wl_M ld_MB ld_M at z
  omega
theorem ld_YX_lt {U a k : Int} (hU : U = 3 ∨ U = 82) (z : ld_YX U a k) : a < 804 := by
  unfold ld_YX nz_C cz_SJ at z
  omega
theorem ld_YX_t {U a k : Int} (hU : U = 3 ∨ U = 82) (q : (U ≤ a ∧ a ≤ U + 10) ∨ (U + 15 ≤ a ∧ a ≤ U + 78)) : ¬ ld_YX U a k := by
  intro z
  unfold ld_YX nz_C cz_SJ at z
  omega
theorem ld_YX_1 {U k : Int} (hU : U = 3 ∨ U = 82) (q : k = 1 ∨ k = 3 ∨ k = 4) : ¬ ld_YX U 1 k := by
  intro z
  unfold ld_YX nz_C cz_SJ at z
  omega
theorem ld_YX_hi {U a k : Int} (hU : U = 3 ∨ U = 82) (q : a = 383 ∨ a = 801 ∨ a = 802 ∨ (a = 243 ∧ k = 4)) : ¬ ld_YX U a k := by
  intro z
  unfold ld_YX nz_C cz_SJ at z
  omega
theorem ld_UX_hi {U a k : Int} (hU : U = 3 ∨ U = 82) (q : a = 383 ∨ a = 801 ∨ a = 802 ∨ (a = 243 ∧ k = 4)) : ¬ (ld_X U a k ∨ (a = 1 ∧ (k = 1 ∨ k = 3 ∨ k = 4))) := by
  intro z
  unfold ld_X at z
  omega
theorem ld_FM_lt {a k : Int} (q : a < 804) : ¬ ld_FM a k := by
  intro z
  unfold ld_FM at z
  omega
theorem ld_FM_t {a k : Int} (q : 806 ≤ a ∧ a ≤ 819) : ¬ ld_FM a k := by
  intro z
  unfold ld_FM at z
  omega
theorem ld_FM_hi {a k : Int} (q : a = 836 ∨ 867 < a ∨ (a = 804 ∧ (k = 57 ∨ k = 58))) : ¬ ld_FM a k := by
  intro z
  unfold ld_FM at z
  omega
theorem ld_FM_1 {k : Int} (q : k = 1 ∨ k = 15) : ¬ ld_FM 804 k := by
  intro z
  unfold ld_FM at z
  omega
theorem ld_806 {a : Int} (q : 806 ≤ a ∧ a ≤ 819) : ¬ a ≤ 803 ∧ (a = 1 ∨ 231 ≤ a) ∧ ¬ a = 1 := by
  omega
theorem ld_804 {a k : Int} (q : a = 836 ∨ 867 < a ∨ (a = 804 ∧ (k = 57 ∨ k = 58))) : ¬ a < 804 := by
  omega
theorem mz_mS_in {s a k : Int} (q : (806 ≤ a ∧ a ≤ 808 ∧ k = s) ∨ ((a = 809 ∨ a = 811) ∧ 8 * s ≤ k ∧ k < 8 * s + 8) ∨ ((a = 810 ∨ (812 ≤ a ∧ a ≤ 814)) ∧ 5 * s ≤ k ∧ k < 5 * s + 5) ∨ ((a = 815 ∨ a = 816) ∧ 256 * s ≤ k ∧ k < 256 * s + 256) ∨ (817 ≤ a ∧ a ≤ 819 ∧ 16 * s ≤ k ∧ k < 16 * s + 16)) : 806 ≤ a ∧ a ≤ 819 := by
  rcases q with q | q | q | q | q <;> omega
theorem mz_cS_in {U a : Int} (hU : U = 3 ∨ U = 82) (q : (U ≤ a ∧ a ≤ U + 10) ∨ (U + 15 ≤ a ∧ a ≤ U + 78)) : a ≤ 803 ∧ a < 804 ∧ a ≠ 1 := by
  omega
set_option maxHeartbeats 4000000 in
theorem cz_op_load : bz_op_load cz_J := by
  rintro a ha σ ⟨T, s, h, eq⟩
  have hF := h.1.1
  obtain ⟨-, c15, c16, c14, c5, c2432, c2434, hTR⟩ := h.1
  have hT := hTR.1
  have hs := hTR.2.1
  obtain ⟨p1, p2, p3, p4⟩ := h.2.1
  by_cases ra : 0 ≤ a ∧ a ≤ σ.2 1 1
  rotate_left
  · refine cz_rd (f := fun σ => fz_X10_load 2000000 σ 1 a) (g := fun σ => fz_X11_load 2000000 σ 804 a) h (r := -1) (v := 1) ?_ ?_
    · simp only [fz_X10_load, fz_X10_refuse]
      by_cases c : a < 0
      · rw [if_pos c, Option.bind_some]
      · rw [if_neg c, if_pos (by omega), Option.bind_some]
    · simp only [fz_X11_load, fz_X11_refuse, fz_X11_isFrom]
      rw [az_wr_ne (by omega), p3]
      by_cases c : a < 0
      · rw [if_pos c, Option.bind_some, if_pos rfl, Option.bind_some]
      · rw [if_neg c, if_pos (by omega), Option.bind_some, if_pos rfl, Option.bind_some]
  obtain ⟨U, hU⟩ : ∃ U, U = 85 - T := ⟨_, rfl⟩
  obtain ⟨r, hr⟩ : ∃ r, r = 1 - s := ⟨_, rfl⟩
  have hU3 : U = 3 ∨ U = 82 := by omega
  have hr01 : r = 0 ∨ r = 1 := by omega
  have hTX : lx_tapeX σ (fun i => σ.2 2 i) a := ⟨⟨ra.1, by omega⟩, fun i i0 i1 => ⟨rfl, (p4 i i0 (by omega)).2⟩⟩
  obtain ⟨w, x', mv, hw, e1, -, e3, e4v, -, e15v, -, e7⟩ := ld_text (T := U) (s := r) hF hF hTX (fun i i0 i1 => (p4 i i0 (by omega)).1.symm) hU3 hr01 (by omega) (by omega)
  have hX' := hF.upd e3
  obtain ⟨x2, hx2⟩ : ∃ x2, x2 = az_wr (az_wr (az_wr x' 1 1 0) 1 3 (if w = 0 then x'.2 223 0 else 0)) 1 4 (if w = 0 then x'.2 223 1 else -1) := ⟨_, rfl⟩
  have tt := rd_takeTape hX' hw
  rw [← hx2] at tt
  have u2 : bz_Upd x' x2 (fun a k => a = 1 ∧ (k = 1 ∨ k = 3 ∨ k = 4)) := by
    rw [hx2]
    exact bz_Upd.wr (bz_Upd.wr (bz_Upd.wr bz_Upd.refl ⟨rfl, by omega⟩ (by decide)) ⟨rfl, by omega⟩ (by decide)) ⟨rfl, by omega⟩ (by decide)
  have hX2 := hX'.upd u2
  have x21 : x2.2 1 1 = 0 := by rw [hx2, az_wr_ne (by omega), az_wr_ne (by omega), az_wr_same]
  have x23 : x2.2 1 3 = (if w = 0 then x'.2 223 0 else 0) := by rw [hx2, az_wr_ne (by omega), az_wr_same]
  have x24 : x2.2 1 4 = (if w = 0 then x'.2 223 1 else -1) := by rw [hx2, az_wr_same]
  have ux2 : bz_Upd σ x2 (fun a k => ld_X U a k ∨ (a = 1 ∧ (k = 1 ∨ k = 3 ∨ k = 4))) := (e3.weak fun _ _ z => Or.inl z).trans (u2.weak fun _ _ z => Or.inr z)
  have x25 : x2.2 1 5 = T := by rw [ux2.2.2 1 5 (fun z => by rcases z with z | z; exact ld_X_1 hU3 (Or.inl rfl) z; exact absurd z.2 (by decide))]; exact c15
  have x26 : x2.2 1 6 = U := by rw [ux2.2.2 1 6 (fun z => by rcases z with z | z; exact ld_X_1 hU3 (Or.inl rfl) z; exact absurd z.2 (by decide))]; omega
  have ref : ∀ y, bz_Upd σ y (fun a _ => a < 804) → ∃ m'', fz_X11_load 2000000 y 804 a = fz_X11_load_84 2000000 m'' 804 w ∧ bz_Upd y m'' (wl_M r) ∧ m''.2 804 1 = 0 ∧ m''.2 804 15 = r ∧ (w = 0 → lx_fault x' m'') ∧ (w = 1 → ld_T x' m'' U r ∧ m''.2 804 11 = 0 ∧ m''.2 804 12 = -1) := by
    intro y uy
    have hY := hF.upd uy
    obtain ⟨w', x'', m'', hw', f1, f2, f3, f4, f5, f6, f7, f8⟩ := ld_text (T := U) (s := r) hF hY hTX (fun i i0 i1 => by rw [uy.2.2 805 i (by omega)]; exact (p4 i i0 (by omega)).1.symm) hU3 hr01 (by rw [uy.2.2 804 14 (by omega)]; omega) (by rw [uy.2.2 804 1 (by omega)]; omega)
    have d := sy_det e1 f1
    simp only [Prod.mk.injEq] at d
    obtain ⟨rfl, rfl⟩ := d
    exact ⟨m'', f2, f4, f5, f6, f7, f8⟩
  have lt8 : ∀ a k, ld_X U a k → a < 804 := fun a k z => ld_X_lt hU3 z
  rcases hw with w0 | w1
  · -- a FAULT
    have uy : bz_Upd σ (az_wr x2 1 2 9) (fun a k => ld_X U a k ∨ (a = 1 ∧ 1 ≤ k ∧ k ≤ 4)) := bz_Upd.wr (ux2.weak fun a k z => by rcases z with z | z; exact Or.inl z; exact Or.inr (by omega)) (Or.inr ⟨rfl, by omega, by omega⟩) (by decide)
    obtain ⟨m'', r1, r2, r3, r4, r5, -⟩ := ref _ (uy.weak fun a k z => by rcases z with z | z; exact lt8 a k z; omega)
    have m14 : m''.2 804 14 = s := by rw [r2.2.2 804 14 wl_M_14, uy.2.2 804 14 (fun z => by rcases z with z | z; exact ld_X_1 hU3 (Or.inr (by decide)) z; exact absurd z.1 (by decide))]; exact c14
    obtain ⟨q, hq⟩ : ∃ q, q = az_wr m'' 804 15 s := ⟨_, rfl⟩
    obtain ⟨z, hz⟩ : ∃ z, z = az_wr (az_wr (az_wr q 804 3 (q.2 804 11)) 804 4 (q.2 804 12)) 804 2 9 := ⟨_, rfl⟩
    have uq : bz_Upd m'' q (fun a k => a = 804 ∧ k = 15) := by rw [hq]; exact bz_Upd.wr bz_Upd.refl ⟨rfl, rfl⟩ (by decide)
    have uz : bz_Upd q z (fun a k => a = 804 ∧ (k = 2 ∨ k = 3 ∨ k = 4)) := by
      rw [hz]
      exact bz_Upd.wr (bz_Upd.wr (bz_Upd.wr bz_Upd.refl ⟨rfl, by omega⟩ (by decide)) ⟨rfl, by omega⟩ (by decide)) ⟨rfl, by omega⟩ (by decide)
    have uqz : bz_Upd m'' z (fun a k => a = 804 ∧ (k = 2 ∨ k = 3 ∨ k = 4 ∨ k = 15)) := (uq.weak fun a k z => ⟨z.1, by omega⟩).trans (uz.weak fun a k z => ⟨z.1, by omega⟩)
    have all : bz_Upd σ z (fun _ _ => True) := ((uy.weak fun _ _ _ => trivial).trans (r2.weak fun _ _ _ => trivial)).trans (uqz.weak fun _ _ _ => trivial)
    have z15 : z.2 804 15 = σ.2 804 15 := by rw [uz.2.2 804 15 (fun z => by omega), hq, az_wr_same]; omega
    have E : ∀ k, z.2 1 k = (az_wr x2 1 2 9).2 1 k := fun k => by
      rw [uqz.2.2 1 k (fun q => by omega), r2.2.2 1 k (wl_M_lt (by decide))]
    have z1 : z.2 1 1 = 0 := by rw [E 1, az_wr_ne (by omega)]; exact x21
    have z8 : z.2 804 1 = 0 := by rw [uqz.2.2 804 1 (fun q => by omega)]; exact r3
    have fl := r5 w0
    have q11 : q.2 804 11 = m''.2 804 11 := uq.2.2 804 11 (fun q => by omega)
    have q12 : q.2 804 12 = m''.2 804 12 := uq.2.2 804 12 (fun q => by omega)
    refine ⟨-1, az_wr x2 1 2 9, z, ?_, ?_, T, s, cz_keepL h all.1 all.2.1 (fun a k n1 n2 => ?_) (fun a k qs => ?_) ⟨by omega, by omega, by omega, fun i i0 i1 => by omega⟩ ?_ ?_, ?_⟩
    · show fz_X10_load 2000000 σ 1 a = _
      unfold fz_X10_load
      rw [if_neg (by omega), if_neg (by omega), fx_1_8 hF, Option.bind_some, fx_1_0 hF, Option.bind_some, bz_gr (show σ.2 1 6 = U by omega) (by omega), Option.bind_some, e1, Option.bind_some, tt, Option.bind_some, if_pos w0]
      rfl
    · show fz_X11_load 2000000 (az_wr x2 1 2 9) 804 a = _
      rw [r1, w0]
      unfold fz_X11_load_84
      rw [if_pos rfl, m14, ← hq]
      unfold fz_X11_load_96 fz_X11_ends
      rw [if_pos (Or.inl rfl), Option.bind_some, if_pos rfl, hz]
      show some ((-1 : Int), _) = _
      rw [az_wr_ne (b := 804) (j := 12) (by omega)]
    · by_cases c1 : a = 804 ∧ k = 15
      · rw [c1.1, c1.2]; exact z15
      · rw [uqz.2.2 a k (fun c => ?_), r2.2.2 a k (fun c => ?_), uy.2.2 a k (fun c => ?_)]
        · rcases c with c | c
          · rw [hU] at c
            rcases ld_X_nt (T := T) (s := s) c with c | c
            · exact n1 c
            · exact n2 c
          · apply n1
            by_cases k2 : k = 2
            · exact Or.inl (Or.inr (Or.inl ⟨c.1, k2⟩))
            · exact Or.inr (Or.inl ⟨c.1, by omega⟩)
        · rcases wl_M_nt (T := T) (s := s) c with c | c | c
          · exact n1 c
          · exact n2 c
          · exact c1 c
        · apply n1
          by_cases k2 : k = 2
          · exact Or.inl (Or.inr (Or.inr ⟨c.1, k2⟩))
          · exact Or.inr (Or.inr (Or.inr (Or.inl ⟨c.1, by omega⟩)))
    · rw [uqz.2.2 a k (fun c => by omega), r2.2.2 a k (fun c => wl_M_mS hs qs (by rw [← hr]; exact c)), uy.2.2 a k (fun c => by
      have qa := mz_mS_in qs
      rcases c with c | c
      · exact ld_X_1 hU3 (ld_806 qa).2.1 c
      · exact (ld_806 qa).2.2 c.1)]
    · rw [E 3, az_wr_ne (by omega), x23, if_pos w0, hz, az_wr_ne (by omega), az_wr_ne (by omega), az_wr_same, q11]; exact fl.1
    · rw [E 4, az_wr_ne (by omega), x24, if_pos w0, hz, az_wr_ne (by omega), az_wr_same, q12]; exact fl.2
    · rw [E 2, az_wr_same, hz, az_wr_same]
  · -- a TEXT
    have Lv := (e7 w1).1
    have x2x : ∀ a k, a ≠ 1 → x2.2 a k = x'.2 a k := fun a k q => u2.2.2 a k (fun z => q z.1)
    obtain ⟨σv, hσv⟩ : ∃ σv : az_Hp, σv = (σ.1, fun a k => if a ≤ 803 then x2.2 a k else mv.2 a k) := ⟨_, rfl⟩
    have vX : ∀ a k, a ≤ 803 → σv.2 a k = x2.2 a k := fun a k q => by rw [hσv]; exact if_pos q
    have vM : ∀ a k, ¬ a ≤ 803 → σv.2 a k = mv.2 a k := fun a k q => by rw [hσv]; exact if_neg q
    have uv : bz_Upd σ σv (fun _ _ => True) := ⟨by rw [hσv], fun a k q => by
      by_cases c : a ≤ 803
      · rw [vX a k c]; exact ux2.2.1 a k q
      · rw [vM a k c]; exact e4v.2.1 a k q, fun a k q => absurd trivial q⟩
    have hV : mz_H x2 σv U r := ⟨hX2, hF.upd uv, Lv.tr (fun a k q q' => by rw [vX a k (by omega), x2x a k (by omega)]) (fun a k q q' => vM a k (by omega)), fun a k q => (vX a k (by omega)).symm, by rw [vM 804 15 (by omega)]; exact e15v⟩
    obtain ⟨y, c1, c2, c3, c4', c5'⟩ := ld_classX hV x25 x26 (by omega)
    have uy8 : bz_Upd σ y (fun a _ => a < 804) := (ux2.weak fun a k z => by rcases z with z | z; exact lt8 a k z; omega).trans (c2.weak fun a k z => ld_YX_lt hU3 z)
    obtain ⟨m'', r1, r2, r3, r4, -, r6⟩ := ref y uy8
    obtain ⟨Lm, m11, m12⟩ := r6 w1
    have hY := hF.upd uy8
    have hM'' := hY.upd r2
    have mY : ∀ a k, a < 804 → m''.2 a k = y.2 a k := fun a k q => r2.2.2 a k (wl_M_lt q)
    obtain ⟨σ1, hσ1⟩ : ∃ σ1 : az_Hp, σ1 = (σ.1, fun a k => if a ≤ 803 then x'.2 a k else m''.2 a k) := ⟨_, rfl⟩
    have s1X : ∀ a k, a ≤ 803 → σ1.2 a k = x'.2 a k := fun a k q => by rw [hσ1]; exact if_pos q
    have s1M : ∀ a k, ¬ a ≤ 803 → σ1.2 a k = m''.2 a k := fun a k q => by rw [hσ1]; exact if_neg q
    have TR1 : bz_TR σ1 U r := Lm.tr (fun a k q q' => s1X a k (by omega)) (fun a k q q' => s1M a k (by omega))
    have c2T : ∀ a k, (U ≤ a ∧ a ≤ U + 10) ∨ (U + 15 ≤ a ∧ a ≤ U + 78) → y.2 a k = x2.2 a k := fun a k q => c2.2.2 a k (ld_YX_t hU3 q)
    have xz : mz_cS U m'' x2 := fun a k q => by rw [mY a k (mz_cS_in hU3 q).2.1, c2T a k q]
    have TRm : bz_TR m'' U r := TR1.loc (fun a k q => by rw [mY a k (mz_cS_in hU3 q).2.1, c2T a k q, x2x a k (mz_cS_in hU3 q).2.2, s1X a k (mz_cS_in hU3 q).1]) (fun a k q => by
      rw [s1M a k (ld_806 (mz_mS_in q)).1])
    obtain ⟨f, d1, d2, d3, d4⟩ := ld_classM hM'' TRm r4 m11 m12
    have hFf := hM''.upd d2
    have fm : ∀ a k, ¬ ld_FM a k → f.2 a k = m''.2 a k := fun a k q => d2.2.2 a k q
    have fzc : mz_cS U m'' f := fun a k q => fm a k (ld_FM_lt (mz_cS_in hU3 q).2.1)
    have fzm : mz_mS r m'' f := fun a k q => fm a k (ld_FM_t (mz_mS_in q))
    have fY : ∀ a k, a < 804 → f.2 a k = y.2 a k := fun a k q => by rw [fm a k (ld_FM_lt q), mY a k q]
    have hZ : mz_H m'' m'' U r := ⟨hM'', hM'', TRm, mz_cS.refl, r4⟩
    have tab : cz_Tab f U r := ld_tab (x4 := y) (z1 := f) hV hZ xz c4' c5' d4 fzc fzm (fun a k q q' => fY a k (by omega)) (fun a k q => rfl)
    have y1k : ∀ k, k = 1 ∨ k = 3 ∨ k = 4 → y.2 1 k = x2.2 1 k := fun k q => c2.2.2 1 k (ld_YX_1 hU3 q)
    have K : cz_K f U r := by
      refine ld_K (y := y) (T := T) (Or.inr ⟨s, h.2.2.2.2.2.1⟩) h.2.2.2.2.2.2 hFf (by rw [d2.1, r2.1, uy8.1]) hU (TRm.loc fzc fzm) tab fY (fun a k q => ?_) (fun a k q => ?_) c2434 (by rw [y1k 1 (by omega)]; exact x21) (by rw [y1k 3 (by omega), x23, if_neg (by omega)]) (by rw [y1k 4 (by omega), x24, if_neg (by omega)]) c3 d3 ?_ ?_
      · rw [c2.2.2 a k (ld_YX_hi hU3 q), ux2.2.2 a k (ld_UX_hi hU3 q)]
      · rw [fm a k (ld_FM_hi q), r2.2.2 a k (wl_M_hi q), uy8.2.2 a k (ld_804 q)]
      · rw [fm 804 1 (ld_FM_1 (Or.inl rfl))]; exact r3
      · rw [fm 804 15 (ld_FM_1 (Or.inr rfl))]; exact r4
    refine ⟨y.2 U 2, y, f, ?_, ?_, U, r, K, by rw [fY 1 2 (by omega), c3.1, d3.1]⟩
    · show fz_X10_load 2000000 σ 1 a = _
      unfold fz_X10_load
      rw [if_neg (by omega), if_neg (by omega), fx_1_8 hF, Option.bind_some, fx_1_0 hF, Option.bind_some, bz_gr (show σ.2 1 6 = U by omega) (by omega), Option.bind_some, e1, Option.bind_some, tt, Option.bind_some, if_neg (show ¬ w = 0 by omega)]
      exact c1
    · show fz_X11_load 2000000 y 804 a = _
      rw [r1, w1, d1, mY U 2 (by omega)]
