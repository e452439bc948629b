/-! all steps, side by side -/
section RB
variable {T s : Int} {V : Int → Int → Prop} {Q : Int → Prop}
theorem yz_tk {x τ : az_Hp} {n v2 : Int} (hI : yz_I x τ T s V Q n) (v20 : 0 ≤ v2) (v21 : v2 ≤ 60) (hp : ∀ i, 0 ≤ i → i < v2 → yz_Pt x τ T s V i) (h1 : τ.2 843 v2 = n) (h2 : ∀ j, 0 ≤ j → j < n → τ.2 842 (60 * v2 + j) = τ.2 840 j) : ∃ xt, fz_X7_take x (253 + 2 * v2) 244 = some xt ∧ bz_Upd x xt (yz_S (253 + 2 * v2)) ∧ yz_I xt τ T s V Q n ∧ ∀ i, 0 ≤ i → i ≤ v2 → yz_Pt xt τ T s V i := by
  have I0 := hI
  obtain ⟨⟨hC, hR, h4, h72, h70⟩, hQ, hQ0⟩ := hI
  have hT := hC.1.2.2.1.1
  have cp := yz_pcap v20 v21
  have c244 : bz_cap 244 = 60 := by decide
  obtain ⟨a1, a2, a3, a4, a5, a6, a7, a8⟩ := hR
  obtain ⟨xt, t1, t2, t3, t4⟩ := yz_take (σ := x) (r := 253 + 2 * v2) (q := 244) hC.1.1 (by omega) (by omega) (by omega) (by omega) (by omega) (by omega)
  rw [a2] at t3 t4
  refine ⟨xt, t1, t2, I0.upd t2 (bz_Upd.refl (S := fun _ _ => False)) (fun a k q => by unfold yz_S at q; unfold nz_t; omega) (fun a k q => q.elim), fun i i0 i1 => ?_⟩
  by_cases e : i = v2
  · subst e
    have cr : ∀ k, 0 ≤ k → k < n → bz_cr (bz_ct τ s) (bz_ft τ s) (τ.2 T 0) (τ.2 T 1) V (xt.2 (253 + 2 * i + 1) k) (τ.2 842 (60 * i + k)) := fun k k0 k1 => by
      rw [t4 k k0 k1, h2 k k0 k1]
      exact a4 k k0 k1
    refine ⟨⟨by omega, by omega, by omega, fun k k0 k1 => (cr k k0 (by omega)).I hC.1.tb.2.1 a7⟩, by rw [h1]; exact t3, by rw [h1]; exact a3, by rw [h1]; exact cr, ?_⟩
    rw [h1]
    refine a5.cong (fun j j0 j1 => ?_)
    unfold bz_ra
    rw [t4 j j0 (by omega)]
  · exact (hp i i0 (by omega)).cong hT (fun k => t2.2.2 _ _ (fun z => by unfold yz_S at z; omega)) (fun k => t2.2.2 _ _ (fun z => by unfold yz_S at z; omega)) bz_tS.refl rfl (fun _ _ _ => rfl)
theorem yz_redL {o : Int} (ho : o = 0 ∨ o = 1) : ∀ (d k k' : Nat) (x τ : az_Hp) (n v2 : Int), d < k → d < k' → 0 ≤ v2 → v2 + d = 60 → yz_I x τ T s V Q n → (∀ i, 0 ≤ i → i < v2 → yz_Pt x τ T s V i) → τ.2 804 77 = v2 → x.2 243 6 = v2 → τ.2 843 v2 = n → (∀ j, 0 ≤ j → j < n → τ.2 842 (60 * v2 + j) = τ.2 840 j) →
    ∃ w x' τ' n', fz_X5_reduceAll_7 2000000 k x 243 o v2 = some (w, x') ∧ fz_X11_reduces_10 2000000 k' τ 804 o = some (w, τ') ∧ bz_Upd x x' yz_RX ∧ bz_Upd τ τ' yz_RM ∧ yz_I x' τ' T s V Q n' ∧ (w = 0 ∨ w = 6 ∨ w = 7 ∨ w = 8) ∧ (w = 0 → x'.2 243 6 = τ'.2 804 77) ∧ (w = 7 → x'.2 243 7 = az_w32 (τ'.2 804 77 - τ'.2 804 78)) := by
  intro d
  induction d with
  | zero =>
    intro k k' x τ n v2 hk hk' v20 hv hI hp h77 h6 h843 h842
    obtain ⟨k, rfl⟩ : ∃ k', k = k' + 1 := ⟨k - 1, by omega⟩
    obtain ⟨k', rfl⟩ : ∃ k'', k' = k'' + 1 := ⟨k' - 1, by omega⟩
    have hX := hI.1.1.1.1
    have e60 : v2 = 60 := by omega
    obtain ⟨xt, t1, t2, It, pt⟩ := yz_tk hI v20 (by omega) hp h843 h842
    obtain ⟨q, x1, m1, y1, y2, y3, y4, y5, y6, I1, -⟩ := yz_first ho It
    have f6 : x1.2 243 6 = v2 := by
      rw [y3.2.2 243 6 (fun q => by unfold sz_TY sz_TX rz_TX cz_SJ sz_S at q; omega), t2.2.2 243 6 (fun q => by unfold yz_S at q; omega)]; exact h6
    have f77 : m1.2 804 77 = v2 := by rw [y4.2.2 804 77 (fun q => by unfold sz_TM rz_TM cz_SM at q; omega)]; exact h77
    have ux : bz_Upd x x1 yz_RX := (t2.weak fun a k z => Or.inr (Or.inr (by unfold yz_S at z; omega))).trans (y3.weak fun _ _ z => Or.inl (Or.inl z))
    have um : bz_Upd τ m1 yz_RM := y4.weak fun _ _ z => Or.inl (Or.inl z)
    refine ⟨if q = -1 then 0 else 8, x1, m1, n, ?_, ?_, ux, um, I1, ?_, fun _ => by omega, fun w7 => ?_⟩
    · unfold fz_X5_reduceAll_7
      rw [if_neg (by omega), fx_243_11 hX, Option.bind_some, yz_pref hX v20 (by omega), Option.bind_some, fx_243_3 hX, Option.bind_some, t1, Option.bind_some, y1, Option.bind_some]
      by_cases e : q = -1
      · rw [if_pos e, if_pos rfl, if_pos e]
      · rw [if_neg e, if_neg (show ¬ (1 : Int) = 0 by decide), if_pos e60, if_neg e]
    · have run : fz_X11_reduces_10 2000000 (k' + 1) τ 804 o = (if o = 0 then fz_X11_firstWithin 2000000 200 τ 804 0 else fz_X11_firstWithout 2000000 τ 804).bind fun r => fz_X11_reduces_43 2000000 (fz_X11_reduces_10 2000000 k') r.2 804 o r.1 := by
        conv => lhs; unfold fz_X11_reduces_10
        rw [if_neg (by omega)]
        split <;> rfl
      rw [run, y2, Option.bind_some]
      unfold fz_X11_reduces_43
      by_cases e : q = -1
      · rw [if_pos e, if_pos e]
      · rw [if_neg e, if_neg (by omega), f77, if_pos e60, if_neg e]
    · by_cases e : q = -1
      · rw [if_pos e]; exact Or.inl rfl
      · rw [if_neg e]; exact Or.inr (Or.inr (Or.inr rfl))
    · by_cases e : q = -1
      · rw [if_pos e] at w7; omega
      · rw [if_neg e] at w7; omega
  | succ d ih =>
    intro k k' x τ n v2 hk hk' v20 hv hI hp h77 h6 h843 h842
    obtain ⟨k, rfl⟩ : ∃ k', k = k' + 1 := ⟨k - 1, by omega⟩
    obtain ⟨k', rfl⟩ : ∃ k'', k' = k'' + 1 := ⟨k' - 1, by omega⟩
    have hX := hI.1.1.1.1
    have hT := hI.1.1.1.2.2.1.1
    obtain ⟨xt, t1, t2, It, pt⟩ := yz_tk hI v20 (by omega) hp h843 h842
    obtain ⟨w, x1, m1, n1, y1, y2, y3, y4, y5, I1, y6⟩ := yz_step ho It
    have f6 : x1.2 243 6 = v2 := by
      rw [y2.2.2 243 6 (fun q => by unfold yz_TX sz_TY sz_TX rz_TX cz_SJ sz_S yz_S at q; omega), t2.2.2 243 6 (fun q => by unfold yz_S at q; omega)]; exact h6
    have f77 : m1.2 804 77 = v2 := by rw [y3.2.2 804 77 (fun q => by unfold yz_TM sz_TM rz_TM cz_SM yz_WM yz_F yz_next at q; omega)]; exact h77
    have ux : bz_Upd x x1 yz_RX := (t2.weak fun a k z => Or.inr (Or.inr (by unfold yz_S at z; omega))).trans (y2.weak fun _ _ z => Or.inl z)
    have um : bz_Upd τ m1 yz_RM := y3.weak fun _ _ z => Or.inl z
    have runX : fz_X5_reduceAll_7 2000000 (k + 1) x 243 o v2 = ((fz_X5_findPlace 2000000 xt 243 o).bind fun r5 => (if r5.1 = 0 then (some (0, r5.2)) else ((fz_X5_rewrite 2000000 r5.2 243).bind fun r6 => (if r6.1 = 0 then (some (6, r6.2)) else fz_X5_reduceAll_67 2000000 (fz_X5_reduceAll_7 2000000 k) 2000000 (az_wr r6.2 243 6 (az_w32 ((r6.2.2 243 6) + 1))) 243 o v2 0)))) := by
      conv => lhs; unfold fz_X5_reduceAll_7
      rw [if_neg (by omega), fx_243_11 hX, Option.bind_some, yz_pref hX v20 (by omega), Option.bind_some, fx_243_3 hX, Option.bind_some, t1, Option.bind_some]
      simp only [if_neg (show ¬ v2 = 60 by omega)]
    have runM : fz_X11_reduces_10 2000000 (k' + 1) τ 804 o = fz_X11_reduces_43 2000000 (fz_X11_reduces_10 2000000 k') m1 804 o w := by
      conv => lhs; unfold fz_X11_reduces_10
      rw [if_pos (by omega), y1, Option.bind_some]
    rw [runX, runM]
    unfold fz_X11_reduces_43
    rcases y6 with ⟨hw, z1⟩ | ⟨x0, z1, ⟨hw, z2⟩ | ⟨hw, z2, z3⟩⟩
    · exact ⟨0, x1, m1, n1, by rw [z1, Option.bind_some, if_pos rfl], by rw [if_pos hw], ux, um, I1, Or.inl rfl, fun _ => by omega, fun w7 => by omega⟩
    · exact ⟨6, x1, m1, n1, by rw [z1, Option.bind_some, if_neg (show ¬ (1 : Int) = 0 by decide), z2, Option.bind_some, if_pos rfl], by rw [if_neg (by omega), if_pos hw], ux, um, I1, Or.inr (Or.inl rfl), fun w7 => by omega, fun w7 => by omega⟩
    · rw [z1, Option.bind_some, if_neg (show ¬ (1 : Int) = 0 by decide), z2, Option.bind_some, if_neg (show ¬ (1 : Int) = 0 by decide), if_neg (by omega), if_neg (by omega), f77, if_neg (by omega), f6, az_w32_id (z := v2 + 1) (by omega) (by omega)]
      have vx : bz_Upd x1 (az_wr x1 243 6 (v2 + 1)) (fun a k => a = 243 ∧ k = 6) := bz_Upd.wr bz_Upd.refl ⟨rfl, rfl⟩ (by decide)
      have vm : bz_Upd m1 (az_wr m1 804 77 (v2 + 1)) (fun a k => a = 804 ∧ k = 77) := bz_Upd.wr bz_Upd.refl ⟨rfl, rfl⟩ (by decide)
      have I3 : yz_I (az_wr x1 243 6 (v2 + 1)) (az_wr m1 804 77 (v2 + 1)) T s V Q n1 := I1.upd vx vm (fun a k q => by unfold nz_t; omega) (fun a k q => by unfold nz_t; omega)
      have p3 : ∀ i, 0 ≤ i → i ≤ v2 → yz_Pt (az_wr x1 243 6 (v2 + 1)) (az_wr m1 804 77 (v2 + 1)) T s V i := fun i i0 i1 => by
        have um' : bz_Upd τ (az_wr m1 804 77 (v2 + 1)) (fun a k => yz_TM a k ∨ (a = 804 ∧ k = 77)) := (y3.weak fun _ _ z => Or.inl z).trans (vm.weak fun _ _ z => Or.inr z)
        have ux' : bz_Upd xt (az_wr x1 243 6 (v2 + 1)) (fun a k => yz_TX a k ∨ (a = 243 ∧ k = 6)) := (y2.weak fun _ _ z => Or.inl z).trans (vx.weak fun _ _ z => Or.inr z)
        exact (pt i i0 i1).cong hT (fun k => ux'.2.2 _ _ (fun q => by unfold yz_TX sz_TY sz_TX rz_TX cz_SJ sz_S yz_S at q; omega)) (fun k => ux'.2.2 _ _ (fun q => by unfold yz_TX sz_TY sz_TX rz_TX cz_SJ sz_S yz_S at q; omega)) (fun a k q' => um'.2.2 a k (fun q => by unfold yz_TM sz_TM rz_TM cz_SM yz_WM yz_F yz_next at q; omega)) (um'.2.2 _ _ (fun q => by unfold yz_TM sz_TM rz_TM cz_SM yz_WM yz_F yz_next at q; omega)) (fun k k0 k1 => um'.2.2 _ _ (fun q => by unfold yz_TM sz_TM rz_TM cz_SM yz_WM yz_F yz_next at q; omega))
      have ux3 : bz_Upd x (az_wr x1 243 6 (v2 + 1)) yz_RX := ux.trans (vx.weak fun a k z => Or.inr (Or.inl (by omega)))
      have um3 : bz_Upd τ (az_wr m1 804 77 (v2 + 1)) yz_RM := um.trans (vm.weak fun a k z => Or.inr (Or.inl (by omega)))
      rcases yz_same (o := o) (k7 := fz_X5_reduceAll_7 2000000 k) (k10 := fz_X11_reduces_10 2000000 k') I3 p3 az_wr_same v20 (by omega) (v2 + 1).toNat 2000000 2000000 0 (by omega) (by omega) (by omega) (by omega) with ⟨v3, c0, c1, c2, c3⟩ | ⟨c2, c3⟩
      · have wx : bz_Upd (az_wr x1 243 6 (v2 + 1)) (az_wr (az_wr x1 243 6 (v2 + 1)) 243 7 (az_w32 ((az_wr x1 243 6 (v2 + 1)).2 243 6 - v3))) (fun a k => a = 243 ∧ k = 7) := bz_Upd.wr bz_Upd.refl ⟨rfl, rfl⟩ (by decide)
        have wm : bz_Upd (az_wr m1 804 77 (v2 + 1)) (az_wr (az_wr m1 804 77 (v2 + 1)) 804 78 v3) (fun a k => a = 804 ∧ k = 78) := bz_Upd.wr bz_Upd.refl ⟨rfl, rfl⟩ (by decide)
        refine ⟨7, _, _, n1, c2, c3, ux3.trans (wx.weak fun a k z => Or.inr (Or.inl (by omega))), um3.trans (wm.weak fun a k z => Or.inr (Or.inl (by omega))), I3.upd wx wm (fun a k q => by unfold nz_t; omega) (fun a k q => by unfold nz_t; omega), Or.inr (Or.inr (Or.inl rfl)), fun w => by omega, fun _ => ?_⟩
        rw [az_wr_same, az_wr_same, az_wr_same, az_wr_ne (by omega), az_wr_same]
      · have hM3 := I3.1.1.1.2.1
        have n1' := I3.1.2.1.2.2.1
        obtain ⟨m5, k1, k2, k3, k4, k5, k6⟩ := yz_keepsPast (p := v2 + 1) hM3 I3.1.2.2.2.2 (by omega) (by omega) (by omega) (by omega)
        have I5 : yz_I (az_wr x1 243 6 (v2 + 1)) m5 T s V Q n1 := I3.upd (bz_Upd.refl (S := fun _ _ => False)) k2 (fun a k q => q.elim) (fun a k q => by unfold yz_past at q; unfold nz_t; omega)
        obtain ⟨w', x', τ', n', r1, r2, r3, r4, r5⟩ := ih k k' (az_wr x1 243 6 (v2 + 1)) m5 n1 (v2 + 1) (by omega) (by omega) (by omega) (by omega) I5 (fun i i0 i1 => (p3 i i0 (by omega)).cong hT (fun _ => rfl) (fun _ => rfl) (fun a k q' => k2.2.2 a k (fun q => by unfold yz_past at q; omega)) (k4 i (by omega)) (fun k k0 k1 => k5 _ (by omega))) (by rw [k2.2.2 804 77 (fun q => by unfold yz_past at q; omega)]; exact az_wr_same) az_wr_same k3 (fun j j0 j1 => by rw [k6 j j0 j1, k2.2.2 840 j (fun q => by unfold yz_past at q; omega)])
        refine ⟨w', x', τ', n', c2.trans r1, ?_, ux3.trans r3, (um3.trans (k2.weak fun a k z => Or.inr (Or.inr z))).trans r4, r5⟩
        rw [c3, k1, Option.bind_some]
        exact r2
theorem yz_reduce {x τ : az_Hp} {o n : Int} (ho : o = 0 ∨ o = 1) (hI : yz_I x τ T s V Q n) :
    ∃ w x' τ' n', fz_X5_reduceAll 2000000 x 243 o = some (w, x') ∧ fz_X11_reduces 2000000 τ 804 o = some (w, τ') ∧ bz_Upd x x' yz_RX ∧ bz_Upd τ τ' yz_RM ∧ yz_I x' τ' T s V Q n' ∧ (w = 0 ∨ w = 6 ∨ w = 7 ∨ w = 8) ∧ (w = 0 → x'.2 243 6 = τ'.2 804 77) ∧ (w = 7 → x'.2 243 7 = az_w32 (τ'.2 804 77 - τ'.2 804 78)) := by
  have vx : bz_Upd x (az_wr x 243 6 0) (fun a k => a = 243 ∧ k = 6) := bz_Upd.wr bz_Upd.refl ⟨rfl, rfl⟩ (by decide)
  have vm : bz_Upd τ (az_wr τ 804 77 0) (fun a k => a = 804 ∧ k = 77) := bz_Upd.wr bz_Upd.refl ⟨rfl, rfl⟩ (by decide)
  have I1 : yz_I (az_wr x 243 6 0) (az_wr τ 804 77 0) T s V Q n := hI.upd vx vm (fun a k q => by unfold nz_t; omega) (fun a k q => by unfold nz_t; omega)
  have n1' := I1.1.2.1.2.2.1
  obtain ⟨m5, k1, k2, k3, k4, k5, k6⟩ := yz_keepsPast (p := 0) I1.1.1.1.2.1 I1.1.2.2.2.2 (by omega) (by omega) (by omega) (by omega)
  have I5 : yz_I (az_wr x 243 6 0) m5 T s V Q n := I1.upd (bz_Upd.refl (S := fun _ _ => False)) k2 (fun a k q => q.elim) (fun a k q => by unfold yz_past at q; unfold nz_t; omega)
  obtain ⟨w', x', τ', n', r1, r2, r3, r4, r5⟩ := yz_redL ho 60 2000000 2000000 (az_wr x 243 6 0) m5 n 0 (by omega) (by omega) (by omega) (by omega) I5 (fun i i0 i1 => by omega) (by rw [k2.2.2 804 77 (fun q => by unfold yz_past at q; omega)]; exact az_wr_same) az_wr_same k3 (fun j j0 j1 => by rw [k6 j j0 j1, k2.2.2 840 j (fun q => by unfold yz_past at q; omega)])
  refine ⟨w', x', τ', n', ?_, ?_, (vx.weak fun a k z => Or.inr (Or.inl (by omega))).trans r3, ((vm.weak fun a k z => Or.inr (Or.inl (by omega))).trans (k2.weak fun a k z => Or.inr (Or.inr z))).trans r4, r5⟩
  · unfold fz_X5_reduceAll
    exact r1
  · unfold fz_X11_reduces
    rw [k1, Option.bind_some]
    exact r2
end RB
