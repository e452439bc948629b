-- ends: the core: both put the same bytes
theorem en_putJ {x6 x' : az_Hp} {T r : Int} {D : Int → Prop} {rk : Int → Nat} {W : Int → List Int} (hF : bz_Fx x6) (H : ∀ x, D x → pj_N x6 T D rk W x) (hr : D r) (r0 : 0 ≤ r) (hk : rk r ≤ 120) (hl : (W r).length < 99980) (hU : pz_U x6 x' pz_SX) (hO : pz_O x' []) : ∃ x'', fz_X3_putJoined 2000000 x' 801 231 r T = some x'' ∧ pz_U x' x'' pz_SX ∧ pz_O x'' (W r) := by
  have U0 : pz_U x' x' pz_SX := pz_U.refl
  have F' := hU.fx hF
  have H' : ∀ x, D x → pj_N x' T D rk W x := fun x hx => by
    obtain ⟨a1, a2⟩ := H x hx
    refine ⟨a1, ?_⟩
    rcases a2 with ⟨i, b1, b2, b3⟩ | ⟨cd, w, a, kd, b1, b2, b3, b4, b5, b6, b7, b8⟩
    · exact Or.inl ⟨i, b1, fun σ u => b2 σ (hU.trans u), b3⟩
    · exact Or.inr ⟨cd, w, a, kd, b1, b2, b3, fun σ u => b4 σ (hU.trans u), b5, fun σ L u => b6 σ L (hU.trans u), fun k k0 k1 => ⟨fun σ u => (b7 k k0 k1).1 σ (hU.trans u), (b7 k k0 k1).2⟩, b8⟩
  obtain ⟨σ', it, c1, c2, c3, c4, -⟩ := pj_run (T := T) F' H' (rk r + 1) r hr (by omega) (az_wr x' 803 0 r) [] 1 0 (pj_wr U0) hO.wr (by omega) (by omega) (by omega) (by omega) (by simp only [List.length_nil]; omega) (by rw [show (1 : Int) - 1 = 0 from rfl]; exact az_wr_same)
  rw [List.nil_append] at c4
  refine ⟨σ', ?_, c3, c4⟩
  unfold fz_X3_putJoined
  rw [if_neg (by omega), fx_801_2 F', Option.bind_some, bz_awr (by omega) (by rw [ln_803 F']; omega), Option.bind_some]
  have q := c2 (2000000 - it)
  rw [show 2000000 - it + it = 2000000 by omega] at q
  rw [q]
  obtain ⟨k, hk2⟩ : ∃ k, 2000000 - it = k + 1 := ⟨2000000 - it - 1, by omega⟩
  rw [hk2]
  unfold fz_X3_putJoined_20
  rw [if_pos (by omega), if_neg (by omega)]
theorem en_core {σx σm x4 m6 : az_Hp} {T s e o what : Int} (h : mz_H σx σm T s) (e0 : 0 ≤ e) (e1 : e < σx.2 T 2) (o0 : 0 ≤ o) (o1 : o < σx.2 T 2) (hw : what = 0 ∨ what = 1) (ux4 : bz_Upd σx x4 cz_SJ) (P : mz_PostT σx σm T s e o x4 m6) :
    ∃ (x5 x6 m7 : az_Hp) (r : Int) (Wl : List Int), fz_X0_nameVariables 2000000 x4 231 (x4.2 242 1) = some x5 ∧ fz_X0_lay 2000000 x5 231 (T + 17 + 4 * (if what = 0 then e else o)) 0 what 0 = some (r, x6) ∧ bz_Upd x4 x6 cz_SJ ∧ bz_Upd x4 x5 cz_SJ ∧
      fz_X11_lettersIn 2000000 200 (az_wr m6 804 60 0) 804 (m6.2 833 0) = some m7 ∧ bz_Upd (az_wr m6 804 60 0) m7 lt_S ∧ Wl.length < 99980 ∧ 0 ≤ r ∧
      (∀ x', pz_U x6 x' pz_SX → pz_O x' [] → ∃ x'', fz_X3_putJoined 2000000 x' 801 231 r T = some x'' ∧ pz_U x' x'' pz_SX ∧ pz_O x'' Wl) ∧
      ∀ m', m' = az_wr (az_wr m7 804 57 0) 804 58 1 → pz_R m' [] → ∃ m'', fz_X11_tellsNode 2000000 200 m' 804 (m6.2 833 (2 + what)) = some m'' ∧ bz_Upd m' m'' pz_SR ∧ pz_R m'' Wl := by
  obtain ⟨n2, m3, m4, c1, c2, a, b, p, q, H, ⟨tS4, eqs⟩, L, c32, c64, c12, ia, ib, lm3, lm4, Ix, Im, NC, u64, idn, c49, um6, rt0, rt1, rt2, rt3, x242, ⟨TG, ⟨S2, Un⟩, Ve, Vo, -, -⟩, Rc⟩ := P
  have hT := h.2.2.1.1
  obtain ⟨ok1, X1, M1, ord1⟩ := mz_graph H tS4 hT L
  obtain ⟨ρ0, hr0⟩ := NC.rk ok1 Ix
  obtain ⟨ρ, hr, hb⟩ := hr0.low ok1 Ix.1
  have BG : bd_Gr (lz_g n2 c1) a b (x4.2 235) ρ := ⟨⟨ok1, Ix, ia, ib⟩, ⟨hr, hb⟩, TG.1, Rc, TG.2.1⟩
  have EG : ew_Gr (lz_g n2 c1) (x4.2 235) ρ := ⟨ok1, Ix.1, Ix.2.2.2.1, Ix.fin'.1, hr, fun x _ => by have := hb x; omega⟩
  have tab : dz_tp (x4.2 235) a = dz_tp (x4.2 235) b := by
    rcases Ix.fin'.2 with z | z
    · rw [z]
    · exact z.2.2
  -- the class names the VARIABLES
  obtain ⟨x5, nv1, nv2, nv3, nv4, nv5⟩ := nv_all EG H.1 X1 L.1.1.1 ia
  have ux5 : bz_Upd x4 x5 cz_SJ := nv2.weak (fun a k z => by unfold nv_S at z; unfold cz_SJ; omega)
  have H5 : mz_H x5 n2 T s := H.upd ux5 (bz_Upd.refl (S := cz_SM)) (fun _ _ z => z) (fun _ _ z => z)
  have L5 : mz_L σm T s x5 n2 c1 := L.cong (fun a k z => nv2.2.2 a k (by unfold nv_S; omega)) (fun a k _ => rfl)
  have eqs5 : x5.2 T 2 = σx.2 T 2 := by rw [ux5.2.2 _ _ (fun z => by unfold cz_SJ at z; omega)]; exact eqs
  have n8 : ∀ e, n2.2 (T + 8) e = σm.2 (T + 8) e := fun e => tS4 _ _ (by omega)
  have Ve' : tr_V n2 n2 T e 0 := fun v v0 v1 => Ve v v0 (by rw [← n8]; exact v1)
  have Vo' : tr_V n2 n2 T o 1 := fun v v0 v1 => Vo v v0 (by rw [← n8]; exact v1)
  -- the reference's nodes
  obtain ⟨ce, ⟨cc1, cc2⟩, ce49, ⟨k23, k24⟩, k33, k34, ktab, n3o, Fo, c3o, ro, lo1, lo2, lo3, lo4, lo5, lo6, lo7, lo8⟩ := en_refs H e0 (by rw [eqs]; exact e1) o0 (by rw [eqs]; exact o1) ok1 S2 Un c32 lm3 lm4 u64 c49
  have M6 : ez_M m6 (lz_g n2 c1) := M1.part ok1 (ktab 804 15 (Or.inl ⟨rfl, rfl⟩)).1 k23 k24 (fun n => (ktab 811 n (Or.inr (Or.inl rfl))).1) (fun n => (ktab 812 n (Or.inr (Or.inr rfl))).1)
  have tk6 : bz_tk m6 = bz_tk n2 := funext fun z => by unfold bz_tk; rw [(ktab 804 15 (Or.inl ⟨rfl, rfl⟩)).1, (ktab 812 _ (Or.inr (Or.inr rfl))).1, (ktab 811 _ (Or.inr (Or.inl rfl))).1]
  -- the reference tells its letters
  obtain ⟨y6, hy6⟩ : ∃ y6, y6 = az_wr m6 804 60 0 := ⟨_, rfl⟩
  have yk : ∀ a k, ¬ (a = 804 ∧ k = 60) → y6.2 a k = m6.2 a k := fun a k z => by rw [hy6]; exact az_wr_ne z
  have Fm6 : bz_Fx m6 := h.2.1.upd um6
  have uy6 : bz_Upd m6 y6 lt_S := by rw [hy6]; exact bz_Upd.wr bz_Upd.refl (Or.inl ⟨rfl, rfl⟩) (by decide)
  have up6 : y6.2 825 = m6.2 825 := lt_up uy6
  have LH : lt_H (lz_g n2 c1) (x4.2 235) ρ y6 := ⟨EG, ⟨Fm6.upd uy6, lt_M M6 uy6, by rw [up6]; exact Im.1, by rw [up6]; exact Im.2.2.2.1⟩, fun r r' hr hr' => by rw [up6]; exact (Ix.fin.1 r r' hr hr').trans (Im.fin.1 r r' hr hr').symm⟩
  obtain ⟨m7, l1, l2, l3⟩ := lt_node LH 200 a y6 [] ia (by have := hb (dz_tp (x4.2 235) a); omega) bz_Upd.refl ⟨by rw [hy6, az_wr_same]; rfl, List.nodup_nil, fun x hx => (by cases hx), fun i hi => absurd hi (by simp)⟩
  obtain ⟨m8, hm8⟩ : ∃ m8, m8 = az_wr (az_wr m7 804 57 0) 804 58 1 := ⟨_, rfl⟩
  have m8k : ∀ a k, ¬ (a = 804 ∧ (k = 57 ∨ k = 58 ∨ k = 60)) → a ≠ 837 → m8.2 a k = m6.2 a k := fun a k z1 z2 => by
    rw [hm8, az_wr_ne (by omega), az_wr_ne (by omega), l2.2.2 a k (by unfold lt_S; omega), yk a k (by omega)]
  have um8 : bz_Upd σm m8 (fun a k => cz_SM a k ∨ (a = 804 ∧ (k = 57 ∨ k = 58 ∨ k = 60)) ∨ a = 837) := by
    rw [hm8]
    refine bz_Upd.wr (bz_Upd.wr (((um6.weak fun _ _ z => Or.inl z).trans (uy6.weak fun a k z => ?_)).trans (l2.weak fun a k z => ?_)) (Or.inr (Or.inl ⟨rfl, Or.inl rfl⟩)) (by decide)) (Or.inr (Or.inl ⟨rfl, Or.inr (Or.inl rfl)⟩)) (by decide)
    · unfold lt_S at z; omega
    · unfold lt_S at z; omega
  have F8 : bz_Fx m8 := h.2.1.upd um8
  have tS8 : bz_tS σm m8 := fun a k z => um8.2.2 a k (fun c => by unfold cz_SM at c; omega)
  have up8 : m8.2 825 = m6.2 825 := funext fun n => m8k 825 n (by omega) (by omega)
  have up8y : m8.2 825 = y6.2 825 := by rw [up8, up6]
  have LH8 : lt_H (lz_g n2 c1) (x4.2 235) ρ m8 := ⟨EG, ⟨F8, M6.cong (m8k _ _ (by omega) (by omega)) (fun n => m8k _ _ (by omega) (by omega)) (fun n => m8k _ _ (by omega) (by omega)) (fun n => m8k _ _ (by omega) (by omega)) (fun n => m8k _ _ (by omega) (by omega)), by rw [up8]; exact Im.1, by rw [up8]; exact Im.2.2.2.1⟩, by rw [up8y]; exact LH.2.2⟩
  have T8 : lt_T c1 (dz_tp (x4.2 235)) (dz_tp (m8.2 825)) m8 (lv_ad [] (lv_W (lz_g n2 c1) (x4.2 235) a)) := by
    obtain ⟨z1, z2, z3, z4⟩ := l3
    rw [up8y]
    refine ⟨?_, z2, z3, fun i hi => ?_⟩
    · rw [hm8, az_wr_ne (by omega), az_wr_ne (by omega)]; exact z1
    · have : m8.2 837 i = m7.2 837 i := by rw [hm8, az_wr_ne (by omega), az_wr_ne (by omega)]
      rw [this]
      exact z4 i hi
  have tbl : (lv_ad [] (lv_W (lz_g n2 c1) (x4.2 235) a)).length ≤ 31 := lv_small EG ia TG.2.2.1 nv3 c32
  have hall : ∀ x, dz_In c1 x → dz_iv (lz_g n2 c1) (dz_tp (x4.2 235) x) → dz_tp (x4.2 235) x ∈ lv_ad [] (lv_W (lz_g n2 c1) (x4.2 235) a) := fun x hx v => lv_every EG ia tab Rc hx v
  have hix : ∀ (i : Nat) z, (lv_ad [] (lv_W (lz_g n2 c1) (x4.2 235) a))[i]? = some z → x5.2 236 z = i ∧ i ≤ 30 := fun i z hz => by
    refine ⟨nv5 i z hz, ?_⟩
    rcases Nat.lt_or_ge i (lv_ad [] (lv_W (lz_g n2 c1) (x4.2 235) a)).length with w | w
    · omega
    · rw [List.getElem?_eq_none w] at hz; cases hz
  have UF2 : dz_UF (m8.2 825) c2 := by
    rw [up8]
    exact Im.1.ext c12 (by omega) idn
  have id2 : ∀ y, c1 ≤ y → y < c2 → m8.2 825 y = y := fun y y0 y1 => by rw [up8]; exact idn y y0 y1
  -- what is common to both
  have fin : ∀ (x6 n3 : az_Hp) (c3 r : Int) (ρ3 : Int → Nat) (F : Int → Int → Prop) (inv : Int → Int) (y : Int), bz_Upd x5 x6 lz_S → bz_Upd n2 n3 lz_T → (c1 ≤ c3 ∧ c3 ≤ 60) → dz_In c3 r → en_G (lz_g n2 c1) (lz_g n3 c3) a b (x4.2 235) (x6.2 235) ρ3 → ez_X x6 (lz_g n3 c3) →
      (∀ n, dz_In c3 n → ¬ ez_iX (x6.2 232 n) → n3.2 823 n < 1000 ∧ bz_cr (bz_ct σm s) (bz_ft σm s) (σm.2 T 0) (σm.2 T 1) (fun _ _ => False) (x6.2 232 n) (n3.2 823 n)) → (∀ x, c1 ≤ x → x < c3 → n3.2 823 x < 1000) → (∀ U, tr_ru U n3 c1 c3 → U r ≤ 96228) → en_F n3 m8 c1 c2 c3 F inv → F r y →
      ∃ Wl : List Int, Wl.length < 99980 ∧ (∀ x', pz_U x6 x' pz_SX → pz_O x' [] → ∃ x'', fz_X3_putJoined 2000000 x' 801 231 r T = some x'' ∧ pz_U x' x'' pz_SX ∧ pz_O x'' Wl) ∧ ∀ m', m' = m8 → pz_R m' [] → ∃ m'', fz_X11_tellsNode 2000000 200 m' 804 y = some m'' ∧ bz_Upd m' m'' pz_SR ∧ pz_R m'' Wl := by
    intro x6 n3 c3 r ρ3 F inv y u6 w3 cb ir EN X3 codes nov ub hF fr
    have ux6 : bz_Upd σx x6 cz_SJ := (ux4.trans ux5).trans (u6.weak fun _ _ z => mz_SJ z)
    have H6 : mz_H x6 m8 T s := h.gen ux6 um8 (fun a k z => by unfold cz_SJ at z; unfold nz_t; omega) (fun a k z => by unfold cz_SM at z; unfold nz_t; omega)
    have ct8 : bz_ct m8 s = bz_ct σm s := bz_ct_tS tS8 s
    have ft8 : bz_ft m8 s = bz_ft σm s := bz_ft_tS tS8 s
    have n80 : m8.2 T 0 = σm.2 T 0 := tS8 _ _ (by omega)
    have n81 : m8.2 T 1 = σm.2 T 1 := tS8 _ _ (by omega)
    have codes8 : ∀ n, dz_In c3 n → ¬ ez_iX (x6.2 232 n) → n3.2 823 n < 1000 ∧ bz_cr (bz_ct m8 s) (bz_ft m8 s) (m8.2 T 0) (m8.2 T 1) (fun _ _ => False) (x6.2 232 n) (n3.2 823 n) := by
      rw [ct8, ft8, n80, n81]
      exact codes
    obtain ⟨nm, hnm⟩ := nm_all H6
    have htk : bz_tk m8 = bz_tk n3 := funext fun z => by
      unfold bz_tk
      rw [m8k 804 15 (by omega) (by omega), m8k 812 _ (by omega) (by omega), m8k 811 _ (by omega) (by omega), (ktab 804 15 (Or.inl ⟨rfl, rfl⟩)).1, (ktab 812 _ (Or.inr (Or.inr rfl))).1, (ktab 811 _ (Or.inr (Or.inl rfl))).1, w3.2.2 804 15 (by unfold lz_T; omega), w3.2.2 812 _ (by unfold lz_T; omega), w3.2.2 811 _ (by unfold lz_T; omega)]
    have hl : ∀ z, dz_In c3 z → dz_tp (x6.2 235) z = z → dz_iv (lz_g n3 c3) z → (0 ≤ x5.2 236 z ∧ x5.2 236 z ≤ 30) ∧ x6.2 236 z = x5.2 236 z := fun z hz tz vz => by
      have vz' : 1000 ≤ n3.2 823 z := vz
      have lt : z < c1 := by
        by_cases w : z < c1
        · exact w
        · have := nov z (by omega) hz.2
          omega
      have iz : dz_In (dz_N (lz_g n2 c1)) z := ⟨hz.1, lt⟩
      have t0 : dz_tp (x4.2 235) z = z := by rw [← (EN.2.2.2.2.2 z iz).1]; exact tz
      have zin := hall z iz (by rw [t0]; exact (EN.2.2.2.2.1.2 z iz).1.mpr vz)
      rw [t0] at zin
      obtain ⟨i, hi⟩ := List.mem_iff_getElem?.mp zin
      have w := hix i z hi
      exact ⟨by omega, u6.2.2 236 z (by unfold lz_S; omega)⟩
    have pj := en_pj (ix := fun z => x5.2 236 z) H6 EN.2.2.1 X3 codes8 hnm hl
    have hnm6 : ∀ x, dz_In c3 x → n3.2 823 x < 1000 → (nm (n3.2 823 x)).length ≤ 6 := fun x hx lt => by
      have nv : ¬ ez_iX (x6.2 232 x) := fun z => by
        have z' : 1000 ≤ n3.2 823 x := (X3 x hx).2.1.mp z
        omega
      obtain ⟨q1, q2⟩ := codes8 x hx nv
      exact (hnm _ _ q2 q1).1.2
    have len := ub _ (en_right (ix := fun z => x5.2 236 z) EN hnm6 nov)
    have len' : (ew_W (lz_g n3 c3) (x6.2 235) nm (fun z => x5.2 236 z) r).length + 5 ≤ 96228 := len
    have iy := (hF.1 r y fr).1
    have tl := en_tl (ix := fun z => x5.2 236 z) H6 EN LH8 X3 htk codes8 hnm T8 hix hall nov UF2 id2 (by omega) hF
    refine ⟨ew_W (lz_g n3 c3) (x6.2 235) nm (fun z => x5.2 236 z) r, by omega, fun x' hU hO => en_putJ H6.1 pj ir ir.1 (EN.2.2.2.1 _) (by omega) hU hO, fun m' em hR => ?_⟩
    subst em
    obtain ⟨m'', a1, a2, a3⟩ := tl_node F8 tl 200 y m' [] ⟨r, fr⟩ (by have := EN.2.2.2.1 (dz_tp (x6.2 235) (inv y)); omega) bz_Upd.refl hR (by
      rw [iy]
      have z0 : ([] : List Int).length = 0 := rfl
      show ([] : List Int).length + (ew_W (lz_g n3 c3) (x6.2 235) nm (fun z => x5.2 236 z) r).length + 10 < 100000
      omega)
    rw [iy, List.nil_append] at a3
    exact ⟨m'', a1, a2, a3⟩
  have ag5 : ∀ n, dz_In c1 n → x5.2 235 n = x4.2 235 n := fun n _ => nv2.2.2 235 n (by unfold nv_S; omega)
  rcases hw with rfl | rfl
  · obtain ⟨x6, n3, c3, r, ρ3, y1, y2, y3, y4, y5, y6', y7, y8, y9, y10, y11, y12⟩ := en_lay (who := 0) H5 tS4 hT e0 (by rw [eqs5]; exact e1) L5 c32 Ix ag5 NC BG ⟨TG.2.2.1, TG.2.2.2⟩ S2 Ve'
    have d := sy_det y2 lm3
    obtain ⟨rfl, rfl⟩ : r = p ∧ n3 = m3 := by
      rw [Prod.mk.injEq] at d
      exact d
    have ec : c3 = ce := by rw [← y7]; exact ce49
    subst ec
    have ok3 := y8.2.2.1.1
    have hF : en_F n3 m8 c1 c2 c3 (en_I c3) (fun y => y) := by
      refine ⟨fun x y z => ?_, fun x hx => ⟨rfl, ⟨hx.1, by have := hx.2; omega⟩⟩⟩
      obtain ⟨rfl, ix⟩ := z
      refine ⟨rfl, ix, ⟨ix.1, by have := ix.2; omega⟩, ?_, fun lt k k0 k1 => ?_, fun _ => rfl, fun z => z⟩
      · rw [m8k 823 x (by omega) (by omega), k33 x ix]
      · have nv : ¬ dz_iv (lz_g n3 c3) x := fun z => by
          have z' : 1000 ≤ n3.2 823 x := z
          omega
        have ar := ok3.2.2.1 x ix nv
        have ea : dz_ar (lz_g n3 c3) x = bz_tk n3 (n3.2 823 x) := rfl
        have i0 := ix.1
        have i1 := ix.2
        refine ⟨?_, ar.2.2 k k0 (by rw [ea]; exact k1)⟩
        rw [m8k 824 _ (by omega) (by omega), k34 _ (by omega) (by omega)]
    obtain ⟨Wl, z1, z2, z3⟩ := fin x6 n3 c3 r ρ3 (en_I c3) (fun y => y) r y3 y4 y5 y6' y8 y9 y10 y11 y12 hF ⟨rfl, y6'⟩
    refine ⟨x5, x6, m7, r, Wl, by rw [x242]; exact nv1, by rw [if_pos rfl]; exact y1, ux5.trans (y3.weak fun _ _ z => mz_SJ z), ux5, by rw [rt0, ← hy6]; exact l1, by rw [← hy6]; exact l2, z1, y6'.1, z2, fun m' em hR => ?_⟩
    rw [show (2 : Int) + 0 = 2 from rfl, rt2]
    exact z3 m' (by rw [em, hm8]) hR
  · obtain ⟨x6, n3, c3, r, ρ3, y1, y2, y3, y4, y5, y6', y7, y8, y9, y10, y11, y12⟩ := en_lay (who := 1) H5 tS4 hT o0 (by rw [eqs5]; exact o1) L5 c32 Ix ag5 NC BG ⟨TG.2.2.1, TG.2.2.2⟩ S2 Vo'
    have d := sy_det y2 lo1
    obtain ⟨rfl, rfl⟩ : r = ro ∧ n3 = n3o := by
      rw [Prod.mk.injEq] at d
      exact d
    have ec : c3 = c3o := by rw [← y7]; exact lo2
    subst ec
    have ch : ∀ y, ∃ x, (∃ x', Fo x' y) → Fo x y := fun y => by
      by_cases z : ∃ x', Fo x' y
      · obtain ⟨x', hx'⟩ := z
        exact ⟨x', fun _ => hx'⟩
      · exact ⟨0, fun w => absurd w z⟩
    obtain ⟨inv, hinv⟩ := Classical.axiomOfChoice ch
    have hF : en_F n3 m8 c1 c2 c3 Fo inv := by
      refine ⟨fun x y z => ?_, lo5⟩
      obtain ⟨w1, w2, w3, w4⟩ := lo3.1 x y z
      refine ⟨(lo3.2 _ _ _ _ (hinv y ⟨x, z⟩) z).mpr rfl, w1, w2, ?_, fun lt k k0 k1 => ?_, fun lt => ?_, fun ge => ?_⟩
      · rw [m8k 823 y (by omega) (by omega), lo7]
        exact w3
      · rw [m8k 824 _ (by omega) (by omega), lo8]
        exact (w4 lt k k0 k1).2
      · rcases lo4 x y z with ⟨e, -⟩ | ⟨g, -⟩
        · exact e.symm
        · omega
      · rcases lo4 x y z with ⟨-, i⟩ | ⟨-, g⟩
        · have := i.2
          omega
        · omega
    obtain ⟨Wl, z1, z2, z3⟩ := fin x6 n3 c3 r ρ3 Fo inv q y3 y4 y5 y6' y8 y9 y10 y11 y12 hF lo6
    refine ⟨x5, x6, m7, r, Wl, by rw [x242]; exact nv1, by rw [if_neg (by decide)]; exact y1, ux5.trans (y3.weak fun _ _ z => mz_SJ z), ux5, by rw [rt0, ← hy6]; exact l1, by rw [← hy6]; exact l2, z1, y6'.1, z2, fun m' em hR => ?_⟩
    rw [show (2 : Int) + 1 = 3 from rfl, rt3]
    exact z3 m' (by rw [em, hm8]) hR
/-- they meet: then it is one family -/
theorem en_fam {σx σm x4 m6 : az_Hp} {T s e o : Int} (h : mz_H σx σm T s) (e0 : 0 ≤ e) (e1 : e < σx.2 T 2) (o0 : 0 ≤ o) (o1 : o < σx.2 T 2) (P : mz_PostT σx σm T s e o x4 m6) : σx.2 (T + 7) e = σx.2 (T + 7) o := by
  obtain ⟨n2, m3, m4, c1, c2, a, b, p, q, H, ⟨tS4, eqs⟩, L, c32, c64, c12, ia, ib, lm3, lm4, Ix, Im, NC, u64, idn, c49, um6, rt0, rt1, rt2, rt3, x242, ⟨TG, ⟨S2, Un⟩, Ve, Vo, Ca, Cb⟩, Rc⟩ := P
  have ra := Ix.2.2.2.1 a ia TG.2.2.1
  have rb := Ix.2.2.2.1 b ib TG.2.2.2
  have tab : dz_tp (x4.2 235) a = dz_tp (x4.2 235) b := by
    rcases Ix.fin'.2 with z | z
    · rw [z]
    · exact z.2.2
  have es : dz_sy (lz_g n2 c1) a = dz_sy (lz_g n2 c1) b := by rw [← ra.2, ← rb.2, tab]
  have es' : n2.2 823 a = n2.2 823 b := es
  have n := h.n.2.2
  have ee := (h.2.2.1.2.2.2.2 e e0 (by rw [← n]; exact e1)).2.2.2.2.2.2.2.1.2.2
  have eo := (h.2.2.1.2.2.2.2 o o0 (by rw [← n]; exact o1)).2.2.2.2.2.2.2.1.2.2
  have re := (h.r e0 e1).2.2.2.2.1 e
  have ro := (h.r o0 o1).2.2.2.2.1 o
  rw [re, ro, ee, eo, ← Ca, ← Cb, es']
