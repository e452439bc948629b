/-! the TERM itself -/
theorem lz_att_at {σ : az_Hp} {D ν : Int} : (∀ a k, a ≠ 238 → a ≠ 241 → (lz_att σ D ν).2 a k = σ.2 a k) ∧ (∀ j, (0 < D → j ≠ D - 1) → (lz_att σ D ν).2 241 j = σ.2 241 j) ∧ (∀ x, (0 < D → x ≠ 3 * σ.2 240 (D - 1) + σ.2 241 (D - 1)) → (lz_att σ D ν).2 238 x = σ.2 238 x) ∧ (0 < D → (lz_att σ D ν).2 241 (D - 1) = σ.2 241 (D - 1) + 1 ∧ (lz_att σ D ν).2 238 (3 * σ.2 240 (D - 1) + σ.2 241 (D - 1)) = ν) := by
  unfold lz_att
  by_cases h : 0 < D
  · simp only [if_pos h]
    refine ⟨fun a k h1 h2 => by rw [az_wr_ne (by omega), az_wr_ne (by omega)], fun j hj => ?_, fun x hx => ?_, fun _ => ⟨az_wr_same, by rw [az_wr_ne (by omega), az_wr_same]⟩⟩
    · have := hj h
      rw [az_wr_ne (by omega), az_wr_ne (by omega)]
    · have := hx h
      rw [az_wr_ne (by omega), az_wr_ne (by omega)]
  · simp only [if_neg h]
    exact ⟨fun _ _ _ _ => trivial, fun _ _ => trivial, fun _ _ => trivial, fun q => absurd q h⟩
theorem lz_new_at {σ : az_Hp} {who i s : Int} : (lz_new σ who i s).2 231 0 = σ.2 231 0 + 1 ∧ (lz_new σ who i s).2 232 (σ.2 231 0) = s ∧ (lz_new σ who i s).2 233 (σ.2 231 0) = who ∧ (lz_new σ who i s).2 234 (σ.2 231 0) = i ∧ (lz_new σ who i s).2 235 (σ.2 231 0) = σ.2 231 0 ∧ (∀ n, dz_In (σ.2 231 0) n → (lz_new σ who i s).2 232 n = σ.2 232 n ∧ (lz_new σ who i s).2 233 n = σ.2 233 n ∧ (lz_new σ who i s).2 234 n = σ.2 234 n ∧ (lz_new σ who i s).2 235 n = σ.2 235 n) ∧ ∀ a k, 235 < a → (lz_new σ who i s).2 a k = σ.2 a k := by
  unfold lz_new
  refine ⟨?_, ?_, ?_, ?_, ?_, fun n hn => ⟨?_, ?_, ?_, ?_⟩, fun a k ha => ?_⟩
  · rw [az_wr_ne (by omega), az_wr_ne (by omega), az_wr_ne (by omega), az_wr_ne (by omega), az_wr_same]
  · rw [az_wr_ne (by omega), az_wr_ne (by omega), az_wr_ne (by omega), az_wr_same]
  · rw [az_wr_ne (by omega), az_wr_ne (by omega), az_wr_same]
  · rw [az_wr_ne (by omega), az_wr_same]
  · rw [az_wr_same]
  all_goals first
    | (have := hn.2; rw [az_wr_ne (by omega), az_wr_ne (by omega), az_wr_ne (by omega), az_wr_ne (by omega), az_wr_ne (by omega)])
    | rw [az_wr_ne (by omega), az_wr_ne (by omega), az_wr_ne (by omega), az_wr_ne (by omega), az_wr_ne (by omega)]
theorem lz_vr.inj {V : Int → Int → Prop} {y m y' m' : Int} (h : lz_vr V y m) (h' : lz_vr V y' m') (hV : bz_VV V) : y = y' ↔ m = m' := by
  rcases h with h | h
  · rcases h' with h' | h'
    · have := hV.2 _ _ _ _ h.2.2.2 h'.2.2.2; omega
    · omega
  · rcases h' with h' | h' <;> omega
theorem lz_FR.new {σ : az_Hp} {who i s dep D : Int} (h : lz_FR σ (σ.2 231 0) dep D) : lz_FR (lz_new σ who i s) (σ.2 231 0 + 1) dep D := by
  obtain ⟨h1, h2, h3, h4, h5⟩ := h
  obtain ⟨-, -, -, -, -, n6, n7⟩ := lz_new_at (σ := σ) (who := who) (i := i) (s := s)
  have e240 : ∀ j, (lz_new σ who i s).2 240 j = σ.2 240 j := fun j => n7 240 j (by omega)
  have e241 : ∀ j, (lz_new σ who i s).2 241 j = σ.2 241 j := fun j => n7 241 j (by omega)
  refine ⟨h1, h2, h3, fun j j0 j1 => ?_, fun hD => ?_⟩
  · obtain ⟨q1, q2⟩ := h4 j j0 j1
    rw [e240, e241, (n6 _ q1).1]
    exact ⟨⟨q1.1, by have := q1.2; omega⟩, q2⟩
  · obtain ⟨q1, q2, q3⟩ := h5 hD
    rw [e240, e241, (n6 _ q1).1]
    exact ⟨⟨q1.1, by have := q1.2; omega⟩, q2, q3⟩
section TM2
variable {ct ft : Int → Int} {nc nf : Int} {W : Int → Int → Int → Prop} {r st who fl en A off : Int}
/-- a node without arguments, new or old -/
theorem lz_leaf {d : Nat} {σx σm σ1 σm1 : az_Hp} {c c1 ν D v6 dep i : Int} (hEn : lz_En ct ft nc nf W r st who fl en A off σx σm) (hFR : lz_FR σx c dep D) (hd : 0 < d)
    (u1 : bz_Upd σx σ1 lz_S) (kx : lz_kX σx σ1 c) (e238 : ∀ x, σ1.2 238 x = σx.2 238 x) (e240 : ∀ x, σ1.2 240 x = σx.2 240 x) (e241 : ∀ x, σ1.2 241 x = σx.2 241 x)
    (w1 : bz_Upd σm σm1 lz_T) (km : lz_kM σm σm1 c) (e824 : ∀ x, σm1.2 824 x = σm.2 824 x) (ls : lz_LS ct ft nc nf W σ1 σm1 c1) (hfl : fl = 1 → lz_FL r st en who off σ1 σm1 c1 ∧ σm1.2 804 51 ≤ σm.2 804 51 + d) (h51 : fl = 0 → σm1.2 804 51 = σm.2 804 51) (hc : c ≤ c1) (hc1 : c1 ≤ c + 1) (hc0 : 0 ≤ c) (hν : dz_In c1 ν)
    (hνk : ez_iX (σ1.2 232 ν) ∨ c ≤ ν) (hnew : c1 = c + 1 → ν = c ∧ σ1.2 235 c = c ∧ σm1.2 825 c = c ∧ (ez_iX (σ1.2 232 c) ∨ bz_ar (σ1.2 232 c) = 0) ∧ σ1.2 233 c = who) (rd : σm1.2 804 52 = off + i + d)
    (run : ∀ K : Nat, fz_X0_lay_16 2000000 (K + 1) σx 231 r st who fl en v6 dep i = fz_X0_lay_16 2000000 K (lz_att σ1 D ν) 231 r st who fl en (if 0 < D then v6 else ν) D (i + d))
    (bld : ∀ Dm : Nat, d ≤ Dm → fz_X11_builds 2000000 Dm σm 804 A who fl = some (ν, σm1)) :
    ∃ (m : Nat) (σx' σm' : az_Hp) (c' ρ dep' : Int), m ≤ d ∧ (∀ K : Nat, fz_X0_lay_16 2000000 (K + m) σx 231 r st who fl en v6 dep i = fz_X0_lay_16 2000000 K σx' 231 r st who fl en (if 0 < D then v6 else ρ) dep' (i + d)) ∧ (∀ Dm : Nat, d ≤ Dm → fz_X11_builds 2000000 Dm σm 804 A who fl = some (ρ, σm')) ∧
      lz_Ps ct ft nc nf W r st en who fl off d σx σm σx' σm' c c' ∧ (D ≤ dep' ∧ dep' ≤ D + d ∧ ∀ j, D ≤ j → j < dep' → dz_In c' (σx'.2 240 j) ∧ bz_ar (σx'.2 232 (σx'.2 240 j)) ≤ σx'.2 241 j) ∧ (∀ j, 0 ≤ j → j < D → σx'.2 240 j = σx.2 240 j) ∧ (∀ j, 0 ≤ j → j < D - 1 → σx'.2 241 j = σx.2 241 j) ∧
      dz_In c' ρ ∧ (lz_rc σx' σm' c c' (fun x => x = ρ) ∧ (ez_iX (σx'.2 232 ρ) ∨ c ≤ ρ)) ∧ (0 < D → σx'.2 241 (D - 1) = σx.2 241 (D - 1) + 1 ∧ σx'.2 238 (3 * σx.2 240 (D - 1) + σx.2 241 (D - 1)) = ρ) ∧
      (∀ x, 0 ≤ x → x < 3 * c → (0 < D → x ≠ 3 * σx.2 240 (D - 1) + σx.2 241 (D - 1)) → σx'.2 238 x = σx.2 238 x) ∧ (∀ x, 0 ≤ x → x < 3 * c → σm'.2 824 x = σm.2 824 x) ∧ σm'.2 804 52 = off + i + d := by
  have hcap := hEn.2.2.2.2.2.2.1.1
  have h0D := hFR.1
  obtain ⟨t1, t2, t3, t4⟩ := lz_att_at (σ := σ1) (D := D) (ν := ν)
  have ua := lz_att_upd (σ := σ1) (D := D) (ν := ν)
  rw [e240, e241] at t3 t4
  refine ⟨1, lz_att σ1 D ν, σm1, c1, ν, D, by omega, run, bld, ⟨u1.trans ua, w1, ?_, fun f => ⟨?_, (hfl f).2⟩, ⟨hc, by omega, h51⟩, fun n hn => ?_, km, fun n n0 n1 => ?_⟩, ⟨by omega, by omega, fun j j0 j1 => by omega⟩, fun j _ _ => ?_, fun j j0 j1 => ?_, hν, ⟨?_, by rw [t1 _ _ (by decide) (by decide)]; exact hνk⟩, fun hD => ?_, fun x x0 x1 hx => ?_, fun x _ _ => e824 x, rd⟩
  · exact ls.cong (t1 _ _ (by decide) (by decide)) rfl rfl (fun n => ⟨t1 _ _ (by decide) (by decide), t1 _ _ (by decide) (by decide)⟩) (fun n => ⟨rfl, rfl, rfl, rfl⟩)
  · exact (hfl f).1.cong hcap ua (by omega) rfl (fun n _ => ⟨t1 _ _ (by decide) (by decide), t1 _ _ (by decide) (by decide), t1 _ _ (by decide) (by decide)⟩) (fun n => ⟨rfl, rfl, rfl⟩) (fun n n0 n1 => by omega)
  · obtain ⟨p1, p2, p3, p4⟩ := kx n hn
    rw [t1 _ _ (by decide) (by decide), t1 _ _ (by decide) (by decide), t1 _ _ (by decide) (by decide), t1 _ _ (by decide) (by decide)]
    exact ⟨p1, p2, p3, p4⟩
  · have en : n = c := by omega
    obtain ⟨q1, q2, q3, q4, q5⟩ := hnew (by omega)
    rw [en, t1 _ _ (by decide) (by decide), t1 _ _ (by decide) (by decide), t1 233 _ (by decide) (by decide)]
    refine ⟨q2, q3, fun hv k k0 k1 => ?_, q5⟩
    rcases q4 with q4 | q4
    · exact absurd q4 hv
    · omega
  · rw [t1 _ _ (by decide) (by decide)]; exact e240 j
  · rw [t2 j (fun _ => by omega)]; exact e241 j
  · intro V hV hcl n n0 n1
    obtain ⟨q1, -⟩ := hnew (by omega)
    exact hV n (by omega)
  · obtain ⟨p1, p2⟩ := t4 hD
    exact ⟨p1, p2⟩
  · rw [t3 x hx]; exact e238 x
/-- the class: from a node that is found or made to the loop's next round, without arguments -/
theorem lz_go {σ : az_Hp} {c D dep v6 i code ν : Int} {k16 : az_Hp → Int → Int → Int → Int → Int → Int → Int → Int → Int → Option (Int × az_Hp)} (hF : bz_Fx σ) (hc : c ≤ 120) (hI : ∀ m, dz_In c m → bz_I (σ.2 232 m)) (hFR : lz_FR σ c dep D) (hi : 0 ≤ i) (hi1 : i < 1000) : fz_X0_lay_255 2000000 k16 2000000 σ 231 r st who fl en v6 dep i code 0 1 ν (dep - 1) = k16 (lz_att σ D ν) 231 r st who fl en (if 0 < D then v6 else ν) D (i + 1) := by
  have h2 := hFR.2.1
  have h3 := hFR.2.2.1
  have h1 := hFR.1
  rw [lz_pop hF hc hI (dep - D).toNat 2000000 dep (by omega) (by omega) hFR, lz_attach hF hc hFR, lz_noframe, az_w32_id (by omega) (by omega)]
theorem lz_goH {σ : az_Hp} {c D dep v6 i code ν : Int} {d : Nat} {k16 : az_Hp → Int → Int → Int → Int → Int → Int → Int → Int → Int → Option (Int × az_Hp)} (hF : bz_Fx σ) (hc : c ≤ 120) (hI : ∀ m, dz_In c m → bz_I (σ.2 232 m)) (hFR : lz_FR σ c dep D) (hr : bz_rw σ r) (hi : 0 ≤ i) (hi1 : i < 1000) (hd : 0 < d) (hid : i + d ≤ σ.2 r 1) (hS : bz_Sc (bz_ra σ r) d 1 i) : fz_X0_lay_255 2000000 k16 2000000 σ 231 r st who fl en v6 dep i code 1 1 ν (dep - 1) = k16 (lz_att σ D ν) 231 r st who fl en (if 0 < D then v6 else ν) D (i + d) := by
  have h2 := hFR.2.1
  have h3 := hFR.2.2.1
  have h1 := hFR.1
  have ua := lz_att_upd (σ := σ) (D := D) (ν := ν)
  have hra := lz_raS hr.1 ua
  obtain ⟨r1, r2⟩ := lz_rowS hr.1 ua
  have he : fz_X7_end 2000000 (lz_att σ D ν) r i = some (i + d) := bz_end (hF.upd ua) (by unfold bz_rw at hr ⊢; simp only [r1, r2]; exact hr) hi (by rw [r1]; exact hid) (by rw [hra]; exact hS)
  rw [lz_pop hF hc hI (dep - D).toNat 2000000 dep (by omega) (by omega) hFR, lz_attach hF hc hFR, lz_noframeH he (by rw [az_w32_id (by omega) (by omega)]; omega)]
end TM2
