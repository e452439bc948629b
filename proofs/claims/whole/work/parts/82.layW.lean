/-! lay and what the reference builds, as whole calls -/
def lz_GK (σx σm : az_Hp) (c : Int) : Prop := ∀ n, dz_In c n → ¬ ez_iX (σx.2 232 n) → ∀ k, 0 ≤ k → k < bz_ar (σx.2 232 n) → σx.2 238 (3 * n + k) = σm.2 824 (3 * n + k) ∧ dz_In c (σm.2 824 (3 * n + k)) ∧ (ez_iX (σx.2 232 (σm.2 824 (3 * n + k))) ∨ n < σm.2 824 (3 * n + k))
/-- what a call leaves of the nodes that were there, and what the new ones are -/
def lz_Gr (σx σm σx' σm' : az_Hp) (c c' ρ : Int) : Prop :=
  (∀ n, dz_In c n → σx'.2 232 n = σx.2 232 n ∧ σx'.2 235 n = σx.2 235 n ∧ σm'.2 823 n = σm.2 823 n ∧ σm'.2 825 n = σm.2 825 n) ∧ (∀ x, 0 ≤ x → x < 3 * c → σx'.2 238 x = σx.2 238 x ∧ σm'.2 824 x = σm.2 824 x) ∧
  (∀ n, c ≤ n → n < c' → σx'.2 235 n = n ∧ σm'.2 825 n = n) ∧ dz_In c' ρ ∧ lz_rc σx' σm' c c' (fun x => x = ρ) ∧ c ≤ c'
section LG
variable {ct ft : Int → Int} {nc nf : Int} {W : Int → Int → Int → Prop} {r st who fl en A off : Int}
theorem lz_GK.grow {σx σm σx' σm' : az_Hp} {c c' : Int} (h : lz_GK σx σm c) (hc : c ≤ c') (kx : lz_kX σx σx' c) (k1 : ∀ x, 0 ≤ x → x < 3 * c → σx'.2 238 x = σx.2 238 x) (k2 : ∀ x, 0 ≤ x → x < 3 * c → σm'.2 824 x = σm.2 824 x) (hn : lz_nN who σx' σm' c c') : lz_GK σx' σm' c' := by
  intro n n0 hv k k0 k1'
  have ar3 := (@bz_ar_rng (σx'.2 232 n)).2
  by_cases q : n < c
  · have nn : dz_In c n := ⟨n0.1, q⟩
    have e := (kx n nn).1
    rw [e] at hv k1' ar3
    obtain ⟨p1, p2, p3⟩ := h n nn hv k k0 k1'
    have := n0.1
    rw [k1 _ (by omega) (by omega), k2 _ (by omega) (by omega), (kx _ p2).1]
    exact ⟨p1, ⟨p2.1, by have := p2.2; omega⟩, p3⟩
  · exact (hn n (by omega) n0.2).2.2.1 hv k k0 k1'
theorem lz_lay1 {d : Nat} {σx σm : az_Hp} {c : Int} (hEn : lz_En ct ft nc nf W r st who fl (st + d) A off σx σm) (hLS : lz_LS ct ft nc nf W σx σm c) (hGK : lz_GK σx σm c) (hc : c + d ≤ 120) (hd : d ≤ 60) (hSc : bz_Sc (bz_ra σx r) d 1 st) (hfl : fl = 1 → lz_FL r st (st + d) who off σx σm c ∧ σm.2 804 51 + d ≤ 64 ∧ ¬ (200 ≤ σm.2 A (off + st) ∧ σm.2 A (off + st) < 1000)) :
    ∃ (σx' σm' : az_Hp) (c' ρ : Int), fz_X0_lay 2000000 σx 231 r st who fl = some (ρ, σx') ∧ fz_X11_builtFrom 2000000 σm 804 A (off + st) who fl = some (ρ, σm') ∧ bz_Upd σx σx' lz_S ∧ bz_Upd σm σm' lz_T ∧ lz_LS ct ft nc nf W σx' σm' c' ∧ c' ≤ c + d ∧ lz_GK σx' σm' c' ∧ lz_Gr σx σm σx' σm' c c' ρ ∧ (∀ n, dz_In c n → σx'.2 233 n = σx.2 233 n) ∧ (∀ n, c ≤ n → n < c' → σx'.2 233 n = who) ∧ (fl = 0 → σm'.2 804 51 = σm.2 804 51) := by
  obtain ⟨s0, s1, s2, s3, s4, s5⟩ := hEn.2.2.2.2.2.2.2.1
  have hFx := hEn.1
  have hrw := hEn.2.2.2.2.2.2.1
  have h60 := @bz_cap60 r
  have hcapr := hrw.2.2.1
  have um : bz_Upd σm (az_wr σm 804 52 (off + st)) lz_T := lz_Tw bz_Upd.refl (by unfold lz_T; omega)
  have em : ∀ b k, ¬ (b = 804 ∧ k = 52) → (az_wr σm 804 52 (off + st)).2 b k = σm.2 b k := fun b k h => az_wr_ne h
  obtain ⟨m, σx', σm', c', ρ, dep', md, run, bld, ⟨v1, v2, v3, v4, ⟨v5, v6, v6'⟩, v7, v8, v9⟩, g1, g2, g3, g4, g5, g6, g7, g8, g9⟩ := lz_term d σx (az_wr σm 804 52 (off + st)) c 0 0 (-1) st (hEn.upd bz_Upd.refl um) ⟨hLS.cong rfl (em _ _ (by omega)) (em _ _ (by omega)) (fun n => ⟨rfl, rfl⟩) (fun n => ⟨em _ _ (by omega), em _ _ (by omega), em _ _ (by omega), em _ _ (by omega)⟩), fun f => ⟨(hfl f).1.cong hrw.1 bz_Upd.refl (Int.le_refl _) (em _ _ (by omega)) (fun n _ => ⟨rfl, rfl, rfl⟩) (fun n => ⟨em _ _ (by omega), em _ _ (by omega), em _ _ (by omega)⟩) (fun n n0 n1 => by omega), by rw [em _ _ (by omega)]; exact (hfl f).2.1⟩, hc⟩ ⟨by omega, by omega, by omega, fun j j0 j1 => by omega, fun h => by omega⟩ (by omega) (by omega) (by omega) hSc (fun f => Or.inr (by rw [em _ _ (by omega)]; exact (hfl f).2.2)) az_wr_same
  refine ⟨σx', σm', c', ρ, ?_, ?_, v1, um.trans v2, v3, v6, ?_, ⟨fun n hn => ?_, fun x x0 x1 => ⟨g7 x x0 x1 (fun h => by omega), by rw [g8 x x0 x1, em _ _ (by omega)]⟩, fun n n0 n1 => ⟨(v9 n n0 n1).1, (v9 n n0 n1).2.1⟩, g4, g5.1, v5⟩, fun n hn => (v7 n hn).2.1, fun n n0 n1 => (v9 n n0 n1).2.2.2, fun f => by rw [v6' f, em _ _ (by omega)]⟩
  · unfold fz_X0_lay
    rw [bz_end hFx hrw s0 (by omega) hSc, Option.bind_some]
    have : (2000000 : Nat) = (2000000 - m) + m := by omega
    have e2 : fz_X0_lay_16 2000000 ((2000000 - m) + m) σx 231 r st who fl (st + d) (-1) 0 st = some (ρ, σx') := by
      rw [run, if_neg (by omega)]
      obtain ⟨k, hk⟩ : ∃ k', 2000000 - m = k' + 1 := ⟨2000000 - m - 1, by omega⟩
      rw [hk]
      unfold fz_X0_lay_16
      rw [if_neg (by omega)]
    rw [← this] at e2
    exact e2
  · unfold fz_X11_builtFrom
    rw [bld 200 (by omega), Option.bind_some]
  · have hGK' : lz_GK σx (az_wr σm 804 52 (off + st)) c := fun n hn hv k k0 k1 => by
      rw [em _ _ (by omega)]
      exact hGK n hn hv k k0 k1
    exact hGK'.grow v5 v7 (fun x x0 x1 => g7 x x0 x1 (fun h => by omega)) (fun x x0 x1 => g8 x x0 x1) v9
  · obtain ⟨p1, p2, p3, p4⟩ := v7 n hn
    obtain ⟨q1, q2⟩ := v8 n hn
    rw [em _ _ (by omega)] at q1 q2
    exact ⟨p1, p4, q1, q2⟩
/-- a family with its arguments flat -/
theorem lz_lay2 {d : Nat} {σx σm : az_Hp} {c : Int} (hEn : lz_En ct ft nc nf W r st who 1 (st + d) A off σx σm) (hLS : lz_LS ct ft nc nf W σx σm c) (hGK : lz_GK σx σm c) (hc : c + d ≤ 120) (hd : d ≤ 60) (hSc : bz_Sc (bz_ra σx r) d 1 st) (hfl : lz_FL r st (st + d) who off σx σm c ∧ σm.2 804 51 + d ≤ 64) (hfam : 200 ≤ σm.2 A (off + st) ∧ σm.2 A (off + st) < 1000) :
    ∃ (σx' σm' : az_Hp) (c' ρ : Int), fz_X0_lay 2000000 σx 231 r st who 1 = some (ρ, σx') ∧ fz_X11_builtFlat 2000000 σm 804 A (off + st) who = some (ρ, σm') ∧ bz_Upd σx σx' lz_S ∧ bz_Upd σm σm' lz_T ∧ lz_LS ct ft nc nf W σx' σm' c' ∧ c' ≤ c + d ∧ lz_GK σx' σm' c' ∧ lz_Gr σx σm σx' σm' c c' ρ := by
  have dp := hSc.pos (by omega)
  obtain ⟨s0, s1, s2, s3, s4, s5⟩ := hEn.2.2.2.2.2.2.2.1
  have hFx := hEn.1
  have hFm := hEn.2.1
  have hrw := hEn.2.2.2.2.2.2.1
  have htb := hEn.2.2.2.1
  have h60 := @bz_cap60 r
  have hcapr := hrw.2.2.1
  obtain ⟨t1, t2, t3, t4⟩ := hEn.tk (j := st) (Int.le_refl _) (by omega)
  have hcri := hEn.2.2.2.2.2.2.2.2.1 st (Int.le_refl _) (by omega)
  have e49 := hLS.1.2.1
  have c0 := hLS.1.2.2.1
  have far : 1 ≤ bz_ar (σx.2 (r + 1) st) := by
    have hb8 := htb.2.1
    rw [hcri.ar htb, if_neg (by omega), if_pos (by omega)]
    rcases hcri with h | h | h | h
    · omega
    · omega
    · exact (htb.2.2.2.2.2 _ (by omega) (by omega)).1
    · omega
  have hv : ¬ ez_iX (σx.2 (r + 1) st) := by
    have hk := hcri.kd htb
    rw [if_neg (by omega), if_pos (by omega)] at hk
    unfold bz_kd at hk
    unfold ez_iX
    by_cases q : σx.2 (r + 1) st < 0
    · rw [if_pos q] at hk; omega
    · rw [if_neg q] at hk; omega
  have hh : ¬ ((1 : Int) = 1 ∧ st < st ∧ bz_kd (σx.2 (r + 1) st) = 2) := fun h => by omega
  have hSt : lz_St ct ft nc nf W r st (st + d) who 1 off d σx σm c := ⟨hLS, fun _ => hfl, hc⟩
  have hFR : lz_FR σx c 0 0 := ⟨by omega, by omega, by omega, fun j j0 j1 => by omega, fun h => by omega⟩
  obtain ⟨u1, u2, -⟩ := lz_nvS (rd := off + st + 1) hEn hSt dp hFR (Int.le_refl _) (by omega) hv hh
  have tkU : ∀ σ, bz_Upd (az_wr (az_wr (az_wr (az_wr σm 804 52 (off + st + 1)) 823 c (σm.2 A (off + st))) 825 c c) 804 49 (c + 1)) σ lz_T → az_ard σ A (off + st) = some (σm.2 A (off + st)) ∧ fz_X11_takes σ 804 (σm.2 A (off + st)) = some (bz_ar (σx.2 (r + 1) st)) := fun σ hU => by
    have uu := u2.trans hU
    have h := (hEn.upd bz_Upd.refl uu).tk (j := st) (Int.le_refl _) (by omega)
    have e : σ.2 A (off + st) = σm.2 A (off + st) := uu.2.2 _ _ (by unfold lz_T; omega)
    rw [e] at h
    exact ⟨h.1, h.2.1⟩
  obtain ⟨m, σx', σm', c', dep', md, run, Lr, ⟨v1, v2, v3, v4, ⟨v5, v6, v6'⟩, v7, v8, v9⟩, g1, g2, g3, g4, g5, g6, g7, g8, g9⟩ := lz_nvA (Q := fun Dm => Dm = 200) (fun e _ => lz_term e) (v6 := -1) (D := 0) (dep := 0) (rd := off + st + 1) (L := fun _ kf σ k => fz_X11_builtFlat_19 2000000 kf σ 804 A (off + st) who c k) hEn hSt hFR (by omega) (Int.le_refl _) (by omega) hSc hv hh (by omega) rfl
    (fun Dm kf σ hQ hU => by
      obtain ⟨x1, x2⟩ := tkU σ hU
      show fz_X11_builtFlat_19 2000000 (kf + 1) σ 804 A (off + st) who c _ = _
      unfold fz_X11_builtFlat_19
      rw [x1, Option.bind_some, x2, Option.bind_some, if_neg (by omega)])
    (fun Dm kf σ k hQ hU k0 k1 => by
      obtain ⟨x1, x2⟩ := tkU σ hU
      have ar3 := (@bz_ar_rng (σx.2 (r + 1) st)).2
      subst hQ
      show fz_X11_builtFlat_19 2000000 (kf + 1) σ 804 A (off + st) who c k = _
      conv => lhs; unfold fz_X11_builtFlat_19
      rw [x1, Option.bind_some, x2, Option.bind_some, if_pos k1, fx_804_40 (hFm.upd (u2.trans hU)), Option.bind_some, az_w32_id (z := 3 * c) (by omega) (by omega), az_w32_id (z := 3 * c + k) (by omega) (by omega), az_w32_id (z := k + 1) (by omega) (by omega)])
  refine ⟨σx', σm', c', c, ?_, ?_, v1, v2, v3, v6, ?_, ⟨fun n hn => ?_, fun x x0 x1 => ⟨g7 x x0 x1 (fun h => by omega), g8 x x0 x1⟩, fun n n0 n1 => ⟨(v9 n n0 n1).1, (v9 n n0 n1).2.1⟩, g4, g5.1, v5⟩⟩
  · unfold fz_X0_lay
    rw [bz_end hFx hrw s0 (by omega) hSc, Option.bind_some]
    have : (2000000 : Nat) = (2000000 - m) + m := by omega
    have e2 : fz_X0_lay_16 2000000 ((2000000 - m) + m) σx 231 r st who 1 (st + d) (-1) 0 st = some (c, σx') := by
      rw [run, if_neg (by omega)]
      obtain ⟨k, hk⟩ : ∃ k', 2000000 - m = k' + 1 := ⟨2000000 - m - 1, by omega⟩
      rw [hk]
      unfold fz_X0_lay_16
      rw [if_neg (by omega)]
    rw [← this] at e2
    exact e2
  · unfold fz_X11_builtFlat
    have um : bz_Upd σm (az_wr σm 804 52 (off + st + 1)) lz_T := lz_Tw bz_Upd.refl (by unfold lz_T; omega)
    have m49 : (az_wr σm 804 52 (off + st + 1)).2 804 49 = c := by rw [az_wr_ne (by omega)]; exact e49
    have ad := lz_adds (σ := az_wr σm 804 52 (off + st + 1)) (v := σm.2 A (off + st)) (hFm.upd um) (by rw [m49]; exact c0) (by rw [m49]; omega)
    rw [m49] at ad
    have rA : az_ard (az_wr σm 804 52 (off + st + 1)) A (off + st) = some (σm.2 A (off + st)) := by
      have h := (hEn.upd bz_Upd.refl um).tk (j := st) (Int.le_refl _) (by omega)
      have e : (az_wr σm 804 52 (off + st + 1)).2 A (off + st) = σm.2 A (off + st) := az_wr_ne (by omega)
      rw [e] at h
      exact h.1
    rw [az_w32_id (by omega) (by omega), rA, Option.bind_some, ad, Option.bind_some]
    exact Lr 200 rfl (by omega)
  · exact hGK.grow v5 v7 (fun x x0 x1 => g7 x x0 x1 (fun h => by omega)) g8 v9
  · obtain ⟨p1, p2, p3, p4⟩ := v7 n hn
    obtain ⟨q1, q2⟩ := v8 n hn
    exact ⟨p1, p4, q1, q2⟩
/-! the graph that both hold -/
def lz_g (σm : az_Hp) (c : Int) : dz_G := (c, fun n => 1000 ≤ σm.2 823 n, fun n => σm.2 823 n, fun n => bz_tk σm (σm.2 823 n), fun n k => σm.2 824 (3 * n + k))
theorem lz_graph {σx σm : az_Hp} {c : Int} (hsd : bz_sd σm) (htb : bz_tb ct ft nc nf) (hct : ∀ k, σm.2 811 (8 * σm.2 804 15 + k) = ct k) (hft : ∀ k, σm.2 812 (5 * σm.2 804 15 + k) = ft k) (hLS : lz_LS ct ft nc nf W σx σm c) (hGK : lz_GK σx σm c) : dz_ok (lz_g σm c) ∧ ez_X σx (lz_g σm c) ∧ ez_M σm (lz_g σm c) ∧ (∀ n, dz_In c n → ¬ dz_iv (lz_g σm c) n → ∀ k, 0 ≤ k → k < dz_ar (lz_g σm c) n → dz_iv (lz_g σm c) (dz_kd (lz_g σm c) n k) ∨ n < dz_kd (lz_g σm c) n k) := by
  have hI := hLS.I htb
  obtain ⟨⟨e231, e49, c0, c1⟩, lnd, -⟩ := hLS
  have hV : bz_VV (fun _ _ => False) := ⟨fun a b q => q.elim, fun a b a' b' q => q.elim⟩
  have nd : ∀ n, dz_In c n → bz_mc (σm.2 823 n) ∧ (ez_iX (σx.2 232 n) ↔ 1000 ≤ σm.2 823 n) ∧ (¬ 1000 ≤ σm.2 823 n → bz_ar (σx.2 232 n) = bz_tk σm (σm.2 823 n) ∧ bz_cr ct ft nc nf (fun _ _ => False) (σx.2 232 n) (σm.2 823 n)) := by
    intro n hn
    rcases lnd n hn with ⟨q1, q2, q3⟩ | ⟨q1, q2, q3⟩
    · rw [q3]
      exact ⟨by unfold bz_mc; omega, ⟨fun _ => by omega, fun _ => q1⟩, fun h => by omega⟩
    · refine ⟨q3.mc htb, ⟨fun h => absurd h q1, fun h => by omega⟩, fun _ => ⟨?_, q3⟩⟩
      rw [q3.ar htb]
      unfold bz_tk
      rw [hct, hft]
  refine ⟨⟨c0, c1, fun n hn hv => ?_, fun n m hn hm hv hw e => ?_⟩, fun n hn => ⟨hI n hn, (nd n hn).2.1, fun hv => ⟨((nd n hn).2.2 hv).1, fun k k0 k1 => ?_, fun m hm hw => ?_⟩⟩, ⟨hsd, fun n hn => ⟨(nd n hn).1, Iff.rfl, fun hv => ⟨rfl, fun k k0 k1 => rfl, rfl⟩⟩⟩, fun n hn hv k k0 k1 => ?_⟩
  · have q := (nd n hn).2.2 hv
    have r := @bz_ar_rng (σx.2 232 n)
    show 0 ≤ bz_tk σm (σm.2 823 n) ∧ bz_tk σm (σm.2 823 n) ≤ 3 ∧ _
    rw [← q.1]
    refine ⟨r.1, r.2, fun k k0 k1 => ?_⟩
    have k1' : k < bz_tk σm (σm.2 823 n) := k1
    exact (hGK n hn (fun h => hv ((nd n hn).2.1.mp h)) k k0 (by rw [q.1]; exact k1')).2.1
  · show bz_tk σm (σm.2 823 n) = bz_tk σm (σm.2 823 m)
    have e' : σm.2 823 n = σm.2 823 m := e
    rw [e']
  · have k1' : k < bz_tk σm (σm.2 823 n) := k1
    exact (hGK n hn (fun h => hv ((nd n hn).2.1.mp h)) k k0 (by rw [((nd n hn).2.2 hv).1]; exact k1')).1
  · exact ((nd n hn).2.2 hv).2.inj ((nd m hm).2.2 hw).2 htb hV
  · have k1' : k < bz_tk σm (σm.2 823 n) := k1
    obtain ⟨p1, p2, p3⟩ := hGK n hn (fun h => hv ((nd n hn).2.1.mp h)) k k0 (by rw [((nd n hn).2.2 hv).1]; exact k1')
    exact p3.elim (fun q => Or.inl ((nd _ p2).2.1.mp q)) Or.inr
end LG
theorem lz_En.cw {ct ft : Int → Int} {nc nf : Int} {W W' : Int → Int → Int → Prop} {r st who fl en A off : Int} {σx σm : az_Hp} (h : lz_En ct ft nc nf W r st who fl en A off σx σm) (hw : W' who = W who) : lz_En ct ft nc nf W' r st who fl en A off σx σm := by
  obtain ⟨h1, h2, h3, h4, h5, h6, h7, h8, h9, h10, h11⟩ := h
  exact ⟨h1, h2, h3, h4, h5, h6, h7, h8, by rw [hw]; exact h9, by rw [hw]; exact h10, h11⟩
