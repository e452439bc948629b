-- ends: the reference goes through a left side and tells its letters
def lt_H (g : dz_G) (up : Int → Int) (ρ : Int → Nat) (m : az_Hp) : Prop := ew_Gr g up ρ ∧ (bz_Fx m ∧ ez_M m g ∧ dz_UF (m.2 825) (dz_N g) ∧ dz_Rep g (m.2 825)) ∧ ∀ r r', dz_In (dz_N g) r → dz_In (dz_N g) r' → (dz_tp up r = dz_tp up r' ↔ dz_tp (m.2 825) r = dz_tp (m.2 825) r')
theorem lt_up {m m' : az_Hp} (u : bz_Upd m m' lt_S) : m'.2 825 = m.2 825 := funext fun n => u.2.2 825 n (by unfold lt_S; omega)
theorem lt_M {g : dz_G} {m m' : az_Hp} (h : ez_M m g) (u : bz_Upd m m' lt_S) : ez_M m' g := h.cong (u.2.2 _ _ (by unfold lt_S; omega)) (fun n => u.2.2 _ _ (by unfold lt_S; omega)) (fun n => u.2.2 _ _ (by unfold lt_S; omega)) (fun n => u.2.2 _ _ (by unfold lt_S; omega)) (fun n => u.2.2 _ _ (by unfold lt_S; omega))
/-- the reference's top of a node, against the class's -/
theorem lt_top {g : dz_G} {up : Int → Int} {ρ : Int → Nat} {m : az_Hp} (h : lt_H g up ρ m) {y : Int} (hy : dz_In (dz_N g) y) : dz_In (dz_N g) (dz_tp (m.2 825) y) ∧ dz_tp up (dz_tp (m.2 825) y) = dz_tp up y ∧ dz_tp (m.2 825) (dz_tp (m.2 825) y) = dz_tp (m.2 825) y ∧ (dz_iv g (dz_tp (m.2 825) y) → dz_iv g (dz_tp up y)) := by
  obtain ⟨hG, ⟨hF, hM, hU, hR⟩, hq⟩ := h
  have t := hU.top hy
  have tx := hG.2.1.top hy
  have tt := hU.tt hy
  have e1 : dz_tp up (dz_tp (m.2 825) y) = dz_tp up y := (hq _ _ t.2 hy).mpr tt
  refine ⟨t.2, e1, tt, fun v => ?_⟩
  by_cases w : dz_iv g (dz_tp up y)
  · exact w
  · exfalso
    have r := (hR _ tx.2 w).1
    have e2 : dz_tp (m.2 825) (dz_tp up y) = dz_tp (m.2 825) y := (hq _ _ tx.2 hy).mp (hG.2.1.tt hy)
    rw [e2] at r
    exact r v
theorem lt_args {g : dz_G} {up : Int → Int} {ρ : Int → Nat} {m : az_Hp} (h : lt_H g up ρ m) {rec : az_Hp → Int → Int → Option az_Hp} {r1 : Int} (i1 : dz_In (dz_N g) r1) (v1 : ¬ dz_iv g r1)
    (hr : ∀ k, 0 ≤ k → k < dz_ar g r1 → ∀ m' tb, bz_Upd m m' lt_S → lt_T (dz_N g) (dz_tp up) (dz_tp (m.2 825)) m' tb → ∃ m'', rec m' 804 (dz_kd g r1 k) = some m'' ∧ bz_Upd m' m'' lt_S ∧ lt_T (dz_N g) (dz_tp up) (dz_tp (m.2 825)) m'' (lv_ad tb (lv_W g up (dz_kd g r1 k)))) :
    ∀ (e kf : Nat) (k : Int) (m' : az_Hp) (tb : List Int), e < kf → 0 ≤ k → k + e = dz_ar g r1 → bz_Upd m m' lt_S → lt_T (dz_N g) (dz_tp up) (dz_tp (m.2 825)) m' tb →
    ∃ m'', fz_X11_lettersIn_27 2000000 rec kf m' 804 r1 k = some m'' ∧ bz_Upd m' m'' lt_S ∧ lt_T (dz_N g) (dz_tp up) (dz_tp (m.2 825)) m'' (lv_ad tb (lv_A (lv_W g up) (fun k => dz_kd g r1 k) e k)) := by
  obtain ⟨hG, ⟨hF, hM, hU, hR⟩, hq⟩ := h
  have a3 := (hG.1.2.2.1 r1 i1 v1).2.1
  have n120 := hG.1.2.1
  intro e
  induction e with
  | zero =>
    intro kf k m' tb hkf k0 hk um hT
    obtain ⟨kf, rfl⟩ : ∃ q, kf = q + 1 := ⟨kf - 1, by omega⟩
    have hFm := hF.upd um
    have rd := (lt_M hM um).rd hG.1 hFm i1
    refine ⟨m', ?_, bz_Upd.refl, hT⟩
    unfold fz_X11_lettersIn_27
    rw [fx_804_39 hFm, Option.bind_some, rd.1, Option.bind_some, rd.2.1 v1, Option.bind_some, if_neg (by simp at hk; omega)]
  | succ e ih =>
    intro kf k m' tb hkf k0 hk um hT
    obtain ⟨kf, rfl⟩ : ∃ q, kf = q + 1 := ⟨kf - 1, by omega⟩
    have hFm := hF.upd um
    have rd := (lt_M hM um).rd hG.1 hFm i1
    have ka : k < dz_ar g r1 := by push_cast at hk; omega
    have kd := rd.2.2.2 v1 k k0 ka
    obtain ⟨m1, s1, s2, s3⟩ := hr k k0 ka m' tb um hT
    obtain ⟨m2, t1, t2, t3⟩ := ih kf (k + 1) m1 _ (by omega) (by omega) (by push_cast at hk; omega) (um.trans s2) s3
    refine ⟨m2, ?_, s2.trans t2, ?_⟩
    · conv => lhs; unfold fz_X11_lettersIn_27
      rw [fx_804_39 hFm, Option.bind_some, rd.1, Option.bind_some, rd.2.1 v1, Option.bind_some, if_pos ka, fx_804_40 hFm, Option.bind_some, kd, Option.bind_some, s1, Option.bind_some, az_w32_id (by omega) (by omega)]
      exact t1
    · show lt_T _ _ _ m2 (lv_ad tb (lv_W g up (dz_kd g r1 k) ++ lv_A (lv_W g up) (fun k => dz_kd g r1 k) e (k + 1)))
      rw [lv_ad_app]
      exact t3
theorem lt_node {g : dz_G} {up : Int → Int} {ρ : Int → Nat} {m : az_Hp} (h : lt_H g up ρ m) : ∀ (d : Nat) (y : Int) (m' : az_Hp) (tb : List Int), dz_In (dz_N g) y → ρ (dz_tp up y) < d → bz_Upd m m' lt_S → lt_T (dz_N g) (dz_tp up) (dz_tp (m.2 825)) m' tb →
    ∃ m'', fz_X11_lettersIn 2000000 d m' 804 y = some m'' ∧ bz_Upd m' m'' lt_S ∧ lt_T (dz_N g) (dz_tp up) (dz_tp (m.2 825)) m'' (lv_ad tb (lv_W g up y)) := by
  have n120 := h.1.1.2.1
  intro d
  induction d with
  | zero => intro y m' tb _ q; omega
  | succ d ih =>
    intro y m' tb hy hr um hT
    obtain ⟨t1, t2, t3, t4⟩ := lt_top h hy
    have hFm := h.2.1.1.upd um
    have hG := h.1
    have hM' := lt_M h.2.1.2.1 um
    have rd := hM'.rd hG.1 hFm t1
    have hm := hM'.2 _ t1
    have fd : fz_X11_find 2000000 m' 804 y = some (dz_tp (m.2 825) y) := by
      have := ez_find (σ := m') (N := dz_N g) hFm (by rw [lt_up um]; exact h.2.1.2.2.1) n120 hy
      rw [lt_up um] at this
      exact this
    have lvy : lv_W g up y = lv_W g up (dz_tp (m.2 825) y) := by unfold lv_W; rw [t2]
    show ∃ m'', fz_X11_lettersIn_e 2000000 (fz_X11_lettersIn 2000000 d) m' 804 y = some m'' ∧ _
    unfold fz_X11_lettersIn_e
    rw [fd, Option.bind_some, fx_804_39 hFm, Option.bind_some, rd.1, Option.bind_some]
    by_cases v : dz_iv g (dz_tp (m.2 825) y)
    · rw [ez_isVarM.1 (hm.2.1.mpr v), Option.bind_some, if_neg (by decide)]
      have vx := t4 v
      have tx := hG.2.1.top hy
      rw [lv_var hG hy vx]
      rcases lt_letter (tx := dz_tp up) n120 (fun r r' hr hr' e => (h.2.2 r r' hr hr').mp e) hFm hT t1 t3 (by rw [t2]; exact tx.2) with ⟨j, j1, j2, j3⟩ | ⟨nin, m1, j1, j2, j3⟩
      · refine ⟨m', by rw [j3, Option.bind_some], bz_Upd.refl, ?_⟩
        rw [t2] at j2
        rw [lv_ad_sub _ _ (fun x hx => by rw [List.mem_singleton] at hx; rw [hx]; exact List.mem_iff_getElem?.mpr ⟨j, j2⟩)]
        exact hT
      · rw [t2] at nin j3
        refine ⟨m1, by rw [j1, Option.bind_some], j2, ?_⟩
        show lt_T _ _ _ m1 (if dz_tp up y ∈ tb then tb else tb ++ [dz_tp up y])
        rw [if_neg nin]
        exact j3
    · rw [ez_isVarM.2 (fun q => v (hm.2.1.mp q)), Option.bind_some, if_pos rfl]
      have a0 := (hG.1.2.2.1 _ t1 v).1
      obtain ⟨m1, s1, s2, s3⟩ := lt_args h (rec := fz_X11_lettersIn 2000000 d) t1 v (fun k k0 k1 m2 tb2 u2 T2 => by
        have w := lv_rk hG t1 v k0 k1
        rw [t2] at w
        exact ih _ m2 tb2 w.1 (by have := w.2; omega) u2 T2) (dz_ar g (dz_tp (m.2 825) y)).toNat 2000000 0 m' tb (by have := (hG.1.2.2.1 _ t1 v).2.1; omega) (by omega) (by omega) um hT
      refine ⟨m1, s1, s2, ?_⟩
      rw [lvy, lv_con hG t1 v]
      exact s3
