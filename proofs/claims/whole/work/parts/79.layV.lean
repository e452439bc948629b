/-! the TERM, by its size -/
section TM3
variable {ct ft : Int → Int} {nc nf : Int} {W : Int → Int → Int → Prop} {r st who fl en A off : Int}
/-- the reference at a code -/
theorem lz_bld {σm : az_Hp} {Dm : Nat} {x : Int} (h : az_ard σm A (σm.2 804 52) = some x) (hn : fl = 0 ∨ (fl = 1 ∧ ¬ (200 ≤ x ∧ x < 1000))) : fz_X11_builds 2000000 (Dm + 1) σm 804 A who fl = fz_X11_builds_52 2000000 (fz_X11_builds 2000000 Dm) σm 804 A who fl x := by
  conv => lhs; unfold fz_X11_builds fz_X11_builds_e
  rw [h, Option.bind_some]
  rcases hn with rfl | ⟨rfl, hx⟩
  · rw [if_pos rfl]
  · rw [if_neg (by decide)]
    unfold fz_X11_isFam
    by_cases q : 200 ≤ x
    · rw [if_neg (by omega), if_neg (by omega), Option.bind_some, if_pos rfl]
    · rw [if_pos (by omega), Option.bind_some, if_pos rfl]
theorem lz_termVar {d : Nat} {σx σm : az_Hp} {c D dep v6 i : Int} (hEn : lz_En ct ft nc nf W r st who fl en A off σx σm) (hSt : lz_St ct ft nc nf W r st en who fl off d σx σm c) (hFR : lz_FR σx c dep D) (hi : st ≤ i) (hie : i + d ≤ en) (hSc : bz_Sc (bz_ra σx r) d 1 i) (hv : ez_iX (σx.2 (r + 1) i)) (hra : σm.2 804 52 = off + i) :
    ∃ (m : Nat) (σx' σm' : az_Hp) (c' ρ dep' : Int), m ≤ d ∧ (∀ K : Nat, fz_X0_lay_16 2000000 (K + m) σx 231 r st who fl en v6 dep i = fz_X0_lay_16 2000000 K σx' 231 r st who fl en (if 0 < D then v6 else ρ) dep' (i + d)) ∧ (∀ Dm : Nat, d ≤ Dm → fz_X11_builds 2000000 Dm σm 804 A who fl = some (ρ, σm')) ∧
      lz_Ps ct ft nc nf W r st en who fl off d σx σm σx' σm' c c' ∧ (D ≤ dep' ∧ dep' ≤ D + d ∧ ∀ j, D ≤ j → j < dep' → dz_In c' (σx'.2 240 j) ∧ bz_ar (σx'.2 232 (σx'.2 240 j)) ≤ σx'.2 241 j) ∧ (∀ j, 0 ≤ j → j < D → σx'.2 240 j = σx.2 240 j) ∧ (∀ j, 0 ≤ j → j < D - 1 → σx'.2 241 j = σx.2 241 j) ∧
      dz_In c' ρ ∧ (lz_rc σx' σm' c c' (fun x => x = ρ) ∧ (ez_iX (σx'.2 232 ρ) ∨ c ≤ ρ)) ∧ (0 < D → σx'.2 241 (D - 1) = σx.2 241 (D - 1) + 1 ∧ σx'.2 238 (3 * σx.2 240 (D - 1) + σx.2 241 (D - 1)) = ρ) ∧
      (∀ x, 0 ≤ x → x < 3 * c → (0 < D → x ≠ 3 * σx.2 240 (D - 1) + σx.2 241 (D - 1)) → σx'.2 238 x = σx.2 238 x) ∧ (∀ x, 0 ≤ x → x < 3 * c → σm'.2 824 x = σm.2 824 x) ∧ σm'.2 804 52 = off + i + d := by
  have hEn0 := hEn
  have dp := hSc.pos (by omega)
  obtain ⟨t1, t2, t3, t4⟩ := hEn.tk hi (by omega)
  obtain ⟨hFx, hFm, hsd, htb, hct, hft, hrw, ⟨s0, s1, s2, s3, s4, s5⟩, hcr, ⟨hVV, hW9⟩, hfl⟩ := hEn
  have hcri := hcr i hi (by omega)
  obtain ⟨hLS, hFL, hc120⟩ := hSt
  have hLI := hLS.I htb
  obtain ⟨⟨e231, e49, c0, c1⟩, lnd, ⟨b0, b1⟩, lvd, linc, lall⟩ := hLS
  have h60 := @bz_cap60 r
  have hcapr := hrw.2.2.1
  generalize hy : σx.2 (r + 1) i = y at *
  generalize hm : σm.2 A (off + i) = m at *
  -- a variable: no arguments, of both
  have kind : lz_vr (W who) y m ∧ 1000 ≤ m ∧ bz_ar y = 0 ∧ y ≠ lz_hid ∧ bz_kd y ≠ 2 := by
    obtain ⟨z1, z2, z3, z4, z5, z6⟩ := htb
    unfold ez_iX at hv
    rcases hcri with h | h | h | h
    · have := hW9 _ _ h.2.2.2
      refine ⟨Or.inl h, h.2.1, if_pos h.1, by unfold lz_hid; omega, ?_⟩
      unfold bz_kd
      rw [if_pos h.1]; decide
    · have := z5 (m - 100) (by omega) (by omega); omega
    · have := z6 (m - 200) (by omega) (by omega); omega
    · refine ⟨Or.inr h, by omega, ?_, by unfold lz_hid; omega, ?_⟩
      · unfold bz_ar; rw [if_neg (by omega)]; omega
      · unfold bz_kd; rw [if_neg (by omega)]; omega
  obtain ⟨hvr, hm1, hay, hyh, hkd⟩ := kind
  have ed : d = 1 := by
    cases d with
    | zero => omega
    | succ d =>
      have q := hSc.2
      have : bz_ra σx r i = 0 := by unfold bz_ra; rw [hy]; exact hay
      rw [this] at q
      cases d with
      | zero => rfl
      | succ d => have := q.1; omega
  subst ed
  have nh : ¬ (fl = 1 ∧ st < i ∧ bz_kd y = 2) := fun h => hkd h.2.2
  have head := fun K => (lz_head (n := 2000000) (who := who) (st := st) (en := en) (fl := fl) (v6 := v6) (dep := dep) (k := K) hFx hrw (by omega) (by omega : i < σx.2 r 1) (by omega) hfl rfl).2.1
  rw [hy] at head
  -- what each of the two searches finds
  have mx : ∀ q, 0 ≤ q → q < σm.2 804 50 → ((σm.2 827 q = who ∧ σm.2 828 q = m) ↔ (σx.2 233 (σm.2 829 q) = who ∧ σx.2 232 (σm.2 829 q) = y)) := by
    intro q q0 q1
    obtain ⟨x1, x2, x3⟩ := lvd q q0 q1
    rw [x2]
    constructor
    · rintro ⟨e1, e2⟩
      rw [e1] at x3
      exact ⟨e1, (x3.inj hvr hVV).mpr e2⟩
    · rintro ⟨e1, e2⟩
      rw [e1] at x3
      exact ⟨e1, (x3.inj hvr hVV).mp e2⟩
  have mn : ∀ n, dz_In c n → σx.2 233 n = who → σx.2 232 n = y → ∃ q, 0 ≤ q ∧ q < σm.2 804 50 ∧ σm.2 829 q = n ∧ (σm.2 827 q = who ∧ σm.2 828 q = m) := by
    intro n hn e1 e2
    obtain ⟨q, q0, q1, q2⟩ := lall n hn (by rw [e2]; exact hv) (by rw [e2]; exact hyh)
    refine ⟨q, q0, q1, q2, (mx q q0 q1).mpr ?_⟩
    rw [q2]
    exact ⟨e1, e2⟩
  -- the reference
  have rd52 : (az_wr σm 804 52 (off + i + 1)).2 804 52 = off + i + 1 := az_wr_same
  have um : bz_Upd σm (az_wr σm 804 52 (off + i + 1)) lz_T := lz_Tw bz_Upd.refl (by unfold lz_T; omega)
  have em : ∀ b k, ¬ (b = 804 ∧ k = 52) → (az_wr σm 804 52 (off + i + 1)).2 b k = σm.2 b k := fun b k h => az_wr_ne h
  have bldE : ∀ Dm : Nat, 1 ≤ Dm → fz_X11_builds 2000000 Dm σm 804 A who fl = ((fz_X11_variableNode 2000000 (az_wr σm 804 52 (off + i + 1)) 804 m who).bind fun r3 => (some (r3.1, r3.2))) := by
    intro Dm hDm
    obtain ⟨Dm, rfl⟩ : ∃ k', Dm = k' + 1 := ⟨Dm - 1, by omega⟩
    rw [lz_bld (x := m) (by rw [hra]; exact t1) (by rcases hfl with h | h; exact Or.inl h; exact Or.inr ⟨h, by omega⟩)]
    unfold fz_X11_builds_52
    rw [hra, az_w32_id (by omega) (by omega), ez_isVarM.1 hm1, Option.bind_some, if_neg (by decide)]
  have vl := lz_varL (σ := az_wr σm 804 52 (off + i + 1)) (who := who) (m := m) (hFm.upd um) (by rw [em _ _ (by omega)]; omega) (by rw [em _ _ (by omega)]; omega) (by rw [em _ _ (by omega)]; omega) (by rw [em _ _ (by omega)]; omega) (σm.2 804 50).toNat 2000000 0 (by omega) (by omega) (by rw [em _ _ (by omega)]; omega) (fun q q0 q1 => by omega)
  have e827 : ∀ q, (az_wr σm 804 52 (off + i + 1)).2 827 q = σm.2 827 q := fun q => em _ _ (by omega)
  have e828 : ∀ q, (az_wr σm 804 52 (off + i + 1)).2 828 q = σm.2 828 q := fun q => em _ _ (by omega)
  have e829 : ∀ q, (az_wr σm 804 52 (off + i + 1)).2 829 q = σm.2 829 q := fun q => em _ _ (by omega)
  rw [em 804 50 (by omega), em 804 49 (by omega)] at vl
  simp only [e827, e828, e829] at vl
  -- the class
  have sr := fun K => lz_srch (n := 2000000) (k16 := fz_X0_lay_16 2000000 K) (r := r) (st := st) (who := who) (fl := fl) (en := en) (v6 := v6) (dep := dep) (i := i) (code := y) (hide := 0) (sign := y) (M := fun n => σx.2 233 n = who ∧ σx.2 232 n = y) hFx rfl (Or.inl rfl) (by omega) (by omega) (fun n hn => ⟨fun h => ⟨h.1, h.2, fun e => by omega⟩, fun h e1 e2 => absurd ⟨e1, e2⟩ h⟩) c.toNat 2000000 0 (by omega) (by omega) (by omega) (fun n n0 n1 => by omega)
  rw [e231] at sr
  by_cases hex : ∃ n, dz_In c n ∧ (σx.2 233 n = who ∧ σx.2 232 n = y)
  · -- it is there already
    obtain ⟨n, hn, hn1, hn2⟩ := hex
    obtain ⟨q', q0', q1', q2', q3'⟩ := mn n hn hn1 hn2
    rcases vl with ⟨q, q0, q1, q2, q3, q4⟩ | ⟨vno, -⟩
    · have run : ∀ K : Nat, fz_X0_lay_16 2000000 (K + 1) σx 231 r st who fl en v6 dep i = fz_X0_lay_16 2000000 K (lz_att σx D (σm.2 829 q)) 231 r st who fl en (if 0 < D then v6 else σm.2 829 q) D (i + ((1 : Nat) : Int)) := by
        intro K
        rw [head K nh hv]
        rcases sr K with ⟨-, hno⟩ | ⟨ν, ν1, ν2, ν3, ν4⟩
        · exact absurd ⟨hn1, hn2⟩ (hno n hn)
        · have eν : ν = σm.2 829 q := by
            obtain ⟨p, p0, p1, p2, p3⟩ := mn ν ν1 ν2.1 ν2.2
            have hq := (mx q q0 q1).mp q2
            have l1 : ¬ σm.2 829 q < ν := fun h => ν3 _ (lvd q q0 q1).1.1 h hq
            have l2 : ¬ p < q := fun h => q3 p p0 h p3
            by_cases e : p = q
            · rw [← e]; exact p2.symm
            · have := linc q p q0 (by omega) p1
              omega
          rw [ν4, lz_old ν1.1 (by have := hFR.1; have := hFR.2.1; omega) hFR.2.2.1, lz_go hFx c1 hLI hFR (by omega) (by omega), eν]
          rfl
      refine lz_leaf hEn0 hFR (by omega) bz_Upd.refl (fun n _ => ⟨rfl, rfl, rfl, rfl⟩) (fun _ => rfl) (fun _ => rfl) (fun _ => rfl) um (fun n _ => ⟨em _ _ (by omega), em _ _ (by omega)⟩) (fun x => em _ _ (by omega)) ⟨⟨e231, by rw [em _ _ (by omega)]; exact e49, c0, c1⟩, fun n hn => by rw [em _ _ (by omega)]; exact lnd n hn, by rw [em _ _ (by omega)]; exact ⟨b0, b1⟩, ?_, ?_, ?_⟩ (fun f => ?_) (fun _ => em _ _ (by omega)) (Int.le_refl c) (by omega) c0 (lvd q q0 q1).1 (Or.inl (by rw [((mx q q0 q1).mp q2).2]; exact hv)) (fun h => by omega) (by rw [rd52]; rfl) run (fun Dm hDm => ?_)
      · intro k k0 k1
        rw [e829, e827, e828]
        rw [em 804 50 (by omega)] at k1
        exact lvd k k0 k1
      · intro k j k0 kj j1
        rw [e829, e829]
        rw [em 804 50 (by omega)] at j1
        exact linc k j k0 kj j1
      · intro n hn h1 h2
        rw [em 804 50 (by omega)]
        simp only [e829]
        exact lall n hn h1 h2
      · obtain ⟨x1, x2⟩ := hFL f
        refine ⟨x1.cong hrw.1 bz_Upd.refl (Int.le_refl _) (em _ _ (by omega)) (fun n _ => ⟨rfl, rfl, rfl⟩) (fun n => ⟨em _ _ (by omega), em _ _ (by omega), em _ _ (by omega)⟩) (fun n n0 n1 => by omega), ?_⟩
        rw [em _ _ (by omega)]
        omega
      · rw [bldE Dm hDm]
        unfold fz_X11_variableNode
        rw [q4, Option.bind_some]
    · exact absurd q3' (vno q' q0' q1')
  · -- a new one
    have hno : ∀ n, dz_In c n → ¬ (σx.2 233 n = who ∧ σx.2 232 n = y) := fun n hn h => hex ⟨n, hn, h⟩
    rcases vl with ⟨q, q0, q1, q2, q3, q4⟩ | ⟨vno, vnew⟩
    · exact absurd ((mx q q0 q1).mp q2) (hno _ (lvd q q0 q1).1)
    · obtain ⟨n1, n2, n3, n4, n5, n6, n7⟩ := lz_new_at (σ := σx) (who := who) (i := i) (s := y)
      have FRn := lz_FR.new (σ := σx) (who := who) (i := i) (s := y) (dep := dep) (D := D) (by rw [e231]; exact hFR)
      have uN := lz_new_upd (σ := σx) (who := who) (i := i) (sign := y)
      rw [e231] at n1 n2 n3 n4 n5 n6 FRn
      have uV := lz_vnew_upd (σ := az_wr σm 804 52 (off + i + 1)) (who := who) (m := m)
      have vv : lz_vnew (az_wr σm 804 52 (off + i + 1)) who m = az_wr (az_wr (az_wr (az_wr (az_wr (az_wr (az_wr (az_wr σm 804 52 (off + i + 1)) 827 (σm.2 804 50) who) 828 (σm.2 804 50) m) 823 c 1000) 825 c c) 804 49 (c + 1)) 829 (σm.2 804 50) c) 804 50 (σm.2 804 50 + 1) := by
        unfold lz_vnew
        rw [em 804 50 (by omega), em 804 49 (by omega), e49]
      have run : ∀ K : Nat, fz_X0_lay_16 2000000 (K + 1) σx 231 r st who fl en v6 dep i = fz_X0_lay_16 2000000 K (lz_att (lz_new σx who i y) D c) 231 r st who fl en (if 0 < D then v6 else c) D (i + ((1 : Nat) : Int)) := by
        intro K
        rw [head K nh hv]
        rcases sr K with ⟨f1, -⟩ | ⟨ν, ν1, ν2, ν3, ν4⟩
        · rw [f1, lz_alloc hFx (by omega) (by omega) (by have := hFR.1; have := hFR.2.1; omega) hFR.2.2.1, e231, lz_go (c := c + 1) (hFx.upd uN) (by omega) (fun q hq => ?_) FRn (by omega) (by omega)]
          · rfl
          · by_cases e : q = c
            · rw [e, n2]; exact t4
            · have hq' : dz_In c q := ⟨hq.1, by have := hq.2; omega⟩
              rw [(n6 q hq').1]
              exact hLI q hq'
        · exact absurd ν2 (hno ν ν1)
      have hLS0 : lz_LS ct ft nc nf W σx (az_wr σm 804 52 (off + i + 1)) c := by
        have z : lz_LS ct ft nc nf W σx σm c := ⟨⟨e231, e49, c0, c1⟩, lnd, ⟨b0, b1⟩, lvd, linc, lall⟩
        exact z.cong rfl (em _ _ (by omega)) (em _ _ (by omega)) (fun n => ⟨rfl, rfl⟩) (fun n => ⟨em _ _ (by omega), e827 n, e828 n, e829 n⟩)
      have e50 : (az_wr σm 804 52 (off + i + 1)).2 804 50 = σm.2 804 50 := em _ _ (by omega)
      refine lz_leaf (c1 := c + 1) (ν := c) (σ1 := lz_new σx who i y) (σm1 := lz_vnew (az_wr σm 804 52 (off + i + 1)) who m) hEn0 hFR (by omega) uN (fun n hn => n6 n hn) (fun x => n7 _ _ (by omega)) (fun x => n7 _ _ (by omega)) (fun x => n7 _ _ (by omega)) (um.trans uV) (fun n hn => ?_) (fun x => ?_) ?_ (fun f => ?_) (fun _ => by rw [vv, az_wr_ne (by omega), az_wr_ne (by omega), az_wr_ne (by omega), az_wr_ne (by omega), az_wr_ne (by omega), az_wr_ne (by omega), az_wr_ne (by omega), az_wr_ne (by omega)]) (by omega) (by omega) c0 ⟨c0, by omega⟩ (Or.inr (Int.le_refl c)) (fun _ => ⟨rfl, n5, ?_, Or.inl (by rw [n2]; exact hv), n3⟩) ?_ run (fun Dm hDm => ?_)
      · have := hn.2
        rw [vv]
        constructor
        · rw [az_wr_ne (by omega), az_wr_ne (by omega), az_wr_ne (by omega), az_wr_ne (by omega), az_wr_ne (by omega), az_wr_ne (by omega), az_wr_ne (by omega), az_wr_ne (by omega)]
        · rw [az_wr_ne (by omega), az_wr_ne (by omega), az_wr_ne (by omega), az_wr_ne (by omega), az_wr_ne (by omega), az_wr_ne (by omega), az_wr_ne (by omega), az_wr_ne (by omega)]
      · rw [vv, az_wr_ne (by omega), az_wr_ne (by omega), az_wr_ne (by omega), az_wr_ne (by omega), az_wr_ne (by omega), az_wr_ne (by omega), az_wr_ne (by omega), az_wr_ne (by omega)]
      · refine hLS0.grow (by omega) n1 ?_ (fun n hn => ⟨(n6 n hn).1, (n6 n hn).2.1⟩) (fun n hn => ?_) ?_ (fun k k0 k1 => ?_) (Or.inr ⟨?_, ?_, ?_, ?_⟩)
        · rw [vv, az_wr_ne (by omega), az_wr_ne (by omega), az_wr_same]
        · have := hn.2
          rw [vv, az_wr_ne (by omega), az_wr_ne (by omega), az_wr_ne (by omega), az_wr_ne (by omega), az_wr_ne (by omega), az_wr_ne (by omega), az_wr_ne (by omega)]
        · rw [n2, vv, az_wr_ne (by omega), az_wr_ne (by omega), az_wr_ne (by omega), az_wr_ne (by omega), az_wr_same]
          exact Or.inl ⟨hv, t4, rfl⟩
        · rw [e50] at k1
          rw [vv]
          refine ⟨?_, ?_, ?_⟩
          · rw [az_wr_ne (by omega), az_wr_ne (by omega), az_wr_ne (by omega), az_wr_ne (by omega), az_wr_ne (by omega), az_wr_ne (by omega), az_wr_ne (by omega)]
          · rw [az_wr_ne (by omega), az_wr_ne (by omega), az_wr_ne (by omega), az_wr_ne (by omega), az_wr_ne (by omega), az_wr_ne (by omega), az_wr_ne (by omega)]
          · rw [az_wr_ne (by omega), az_wr_ne (by omega), az_wr_ne (by omega), az_wr_ne (by omega), az_wr_ne (by omega), az_wr_ne (by omega), az_wr_ne (by omega)]
        · rw [e50, vv, az_wr_same]
        · rw [e50, vv, az_wr_ne (by omega), az_wr_same]
        · rw [e50, n3, vv, az_wr_ne (by omega), az_wr_ne (by omega), az_wr_ne (by omega), az_wr_ne (by omega), az_wr_ne (by omega), az_wr_ne (by omega), az_wr_same]
        · rw [e50, n2]
          have x1 : (lz_vnew (az_wr σm 804 52 (off + i + 1)) who m).2 827 (σm.2 804 50) = who := by rw [vv, az_wr_ne (by omega), az_wr_ne (by omega), az_wr_ne (by omega), az_wr_ne (by omega), az_wr_ne (by omega), az_wr_ne (by omega), az_wr_same]
          have x2 : (lz_vnew (az_wr σm 804 52 (off + i + 1)) who m).2 828 (σm.2 804 50) = m := by rw [vv, az_wr_ne (by omega), az_wr_ne (by omega), az_wr_ne (by omega), az_wr_ne (by omega), az_wr_ne (by omega), az_wr_same]
          rw [x1, x2]
          exact hvr
      · obtain ⟨x1, x2⟩ := hFL f
        have e51 : (lz_vnew (az_wr σm 804 52 (off + i + 1)) who m).2 804 51 = σm.2 804 51 := by rw [vv, az_wr_ne (by omega), az_wr_ne (by omega), az_wr_ne (by omega), az_wr_ne (by omega), az_wr_ne (by omega), az_wr_ne (by omega), az_wr_ne (by omega), az_wr_ne (by omega)]
        have eF : ∀ b k, 830 ≤ b → b ≤ 832 → (lz_vnew (az_wr σm 804 52 (off + i + 1)) who m).2 b k = σm.2 b k := fun b k h1 h2 => by rw [vv, az_wr_ne (by omega), az_wr_ne (by omega), az_wr_ne (by omega), az_wr_ne (by omega), az_wr_ne (by omega), az_wr_ne (by omega), az_wr_ne (by omega), az_wr_ne (by omega)]
        refine ⟨x1.cong hrw.1 uN (by omega) e51 (fun n hn => ⟨(n6 n hn).1, (n6 n hn).2.1, (n6 n hn).2.2.1⟩) (fun n => ⟨eF _ _ (by omega) (by omega), eF _ _ (by omega) (by omega), eF _ _ (by omega) (by omega)⟩) (fun n n0 n1 => by rw [show n = c by omega, n2]; exact hyh), ?_⟩
        rw [e51]
        omega
      · rw [vv, az_wr_ne (by omega), az_wr_ne (by omega), az_wr_ne (by omega), az_wr_same]
      · rw [vv, az_wr_ne (by omega), az_wr_ne (by omega), az_wr_ne (by omega), az_wr_ne (by omega), az_wr_ne (by omega), az_wr_ne (by omega), az_wr_ne (by omega), az_wr_same]
        rfl
      · rw [bldE Dm hDm]
        unfold fz_X11_variableNode
        rw [vnew, Option.bind_some, e49]
end TM3
