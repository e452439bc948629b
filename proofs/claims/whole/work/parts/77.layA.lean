/-! laying out a TERM: class and reference make the same nodes -/
def lz_kX (σ σ' : az_Hp) (c : Int) : Prop := ∀ n, dz_In c n → σ'.2 232 n = σ.2 232 n ∧ σ'.2 233 n = σ.2 233 n ∧ σ'.2 234 n = σ.2 234 n ∧ σ'.2 235 n = σ.2 235 n
def lz_kM (σ σ' : az_Hp) (c : Int) : Prop := ∀ n, dz_In c n → σ'.2 823 n = σ.2 823 n ∧ σ'.2 825 n = σ.2 825 n
def lz_nN (who : Int) (σx σm : az_Hp) (c c' : Int) : Prop := ∀ n, c ≤ n → n < c' → σx.2 235 n = n ∧ σm.2 825 n = n ∧ (¬ ez_iX (σx.2 232 n) → ∀ k, 0 ≤ k → k < bz_ar (σx.2 232 n) → σx.2 238 (3 * n + k) = σm.2 824 (3 * n + k) ∧ dz_In c' (σm.2 824 (3 * n + k)) ∧ (ez_iX (σx.2 232 (σm.2 824 (3 * n + k))) ∨ n < σm.2 824 (3 * n + k))) ∧ σx.2 233 n = who
def lz_rc (σx σm : az_Hp) (c c' : Int) (R : Int → Prop) : Prop := ∀ V : Int → Prop, (∀ x, R x → V x) → (∀ x, c ≤ x → x < c' → ¬ ez_iX (σx.2 232 x) → V x → ∀ k, 0 ≤ k → k < bz_ar (σx.2 232 x) → V (σm.2 824 (3 * x + k))) → ∀ n, c ≤ n → n < c' → V n
section TM
variable {ct ft : Int → Int} {nc nf : Int} {W : Int → Int → Int → Prop} {r st who fl en A off : Int}
def lz_En (ct ft : Int → Int) (nc nf : Int) (W : Int → Int → Int → Prop) (r st who fl en A off : Int) (σx σm : az_Hp) : Prop :=
  bz_Fx σx ∧ bz_Fx σm ∧ bz_sd σm ∧ bz_tb ct ft nc nf ∧ (∀ k, σm.2 811 (8 * σm.2 804 15 + k) = ct k) ∧ (∀ k, σm.2 812 (5 * σm.2 804 15 + k) = ft k) ∧ bz_rw σx r ∧
  (0 ≤ st ∧ en ≤ σx.2 r 1 ∧ 0 ≤ off ∧ off + en ≤ az_ln σm A ∧ az_ln σm A ≤ 100000 ∧ (A < 804 ∨ (804 < A ∧ A < 823) ∨ 832 < A)) ∧
  (∀ j, st ≤ j → j < en → bz_cr ct ft nc nf (W who) (σx.2 (r + 1) j) (σm.2 A (off + j))) ∧ (bz_VV (W who) ∧ ∀ a b, W who a b → a < 999999999) ∧ (fl = 0 ∨ fl = 1)
theorem lz_En.upd {σx σm σx' σm' : az_Hp} (h : lz_En ct ft nc nf W r st who fl en A off σx σm) (hx : bz_Upd σx σx' lz_S) (hm : bz_Upd σm σm' lz_T) : lz_En ct ft nc nf W r st who fl en A off σx' σm' := by
  obtain ⟨h1, h2, h3, h4, h5, h6, h7, h8, h9, h10, h11⟩ := h
  obtain ⟨r1, r2⟩ := lz_rowS h7.1 hx
  have e15 : σm'.2 804 15 = σm.2 804 15 := hm.2.2 _ _ (by unfold lz_T; omega)
  have e811 : ∀ k, σm'.2 811 k = σm.2 811 k := fun k => hm.2.2 _ _ (by unfold lz_T; omega)
  have e812 : ∀ k, σm'.2 812 k = σm.2 812 k := fun k => hm.2.2 _ _ (by unfold lz_T; omega)
  have eA : ∀ k, σm'.2 A k = σm.2 A k := fun k => hm.2.2 _ _ (by unfold lz_T; omega)
  refine ⟨h1.upd hx, h2.upd hm, ?_, h4, ?_, ?_, ?_, ?_, ?_, h10, h11⟩
  · unfold bz_sd at h3 ⊢; rw [e15]; exact h3
  · intro k; rw [e15, e811]; exact h5 k
  · intro k; rw [e15, e812]; exact h6 k
  · unfold bz_rw at h7 ⊢
    simp only [r1, r2]
    exact h7
  · rw [r1, hm.ln]; exact h8
  · intro j j0 j1; rw [r2, eA]; exact h9 j j0 j1
theorem lz_En.tk {σx σm : az_Hp} (h : lz_En ct ft nc nf W r st who fl en A off σx σm) {j : Int} (j0 : st ≤ j) (j1 : j < en) : az_ard σm A (off + j) = some (σm.2 A (off + j)) ∧ fz_X11_takes σm 804 (σm.2 A (off + j)) = some (bz_ar (σx.2 (r + 1) j)) ∧ bz_tk σm (σm.2 A (off + j)) = bz_ar (σx.2 (r + 1) j) ∧ bz_I (σx.2 (r + 1) j) := by
  obtain ⟨h1, h2, h3, h4, h5, h6, h7, h8, h9, h10, h11⟩ := h
  have q := h9 j j0 j1
  have qa := q.ar h4
  have qm := q.mc h4
  have e : bz_tk σm (σm.2 A (off + j)) = bz_ar (σx.2 (r + 1) j) := by
    rw [qa]
    unfold bz_tk
    rw [h5, h6]
  refine ⟨bz_ard (by omega) (by omega), ?_, e, q.I h4 h10.1⟩
  rw [bz_takes h2 h3 qm, e]
def lz_St (ct ft : Int → Int) (nc nf : Int) (W : Int → Int → Int → Prop) (r st en who fl off : Int) (d : Nat) (σx σm : az_Hp) (c : Int) : Prop := lz_LS ct ft nc nf W σx σm c ∧ (fl = 1 → lz_FL r st en who off σx σm c ∧ σm.2 804 51 + d ≤ 64) ∧ c + d ≤ 120
def lz_Ps (ct ft : Int → Int) (nc nf : Int) (W : Int → Int → Int → Prop) (r st en who fl off : Int) (d : Nat) (σx σm σx' σm' : az_Hp) (c c' : Int) : Prop :=
  bz_Upd σx σx' lz_S ∧ bz_Upd σm σm' lz_T ∧ lz_LS ct ft nc nf W σx' σm' c' ∧ (fl = 1 → lz_FL r st en who off σx' σm' c' ∧ σm'.2 804 51 ≤ σm.2 804 51 + d) ∧ (c ≤ c' ∧ c' ≤ c + d ∧ (fl = 0 → σm'.2 804 51 = σm.2 804 51)) ∧ lz_kX σx σx' c ∧ lz_kM σm σm' c ∧ lz_nN who σx' σm' c c'
/-- a TERM of d codes -/
def lz_Term (ct ft : Int → Int) (nc nf : Int) (W : Int → Int → Int → Prop) (r st who fl en A off : Int) (d : Nat) : Prop :=
  ∀ (σx σm : az_Hp) (c D dep v6 i : Int), lz_En ct ft nc nf W r st who fl en A off σx σm → lz_St ct ft nc nf W r st en who fl off d σx σm c → lz_FR σx c dep D → D + d ≤ 100 → st ≤ i → i + d ≤ en → bz_Sc (bz_ra σx r) d 1 i → (fl = 1 → st < i ∨ ¬ (200 ≤ σm.2 A (off + i) ∧ σm.2 A (off + i) < 1000)) → σm.2 804 52 = off + i →
    ∃ (m : Nat) (σx' σm' : az_Hp) (c' ρ dep' : Int), m ≤ d ∧ (∀ K : Nat, fz_X0_lay_16 2000000 (K + m) σx 231 r st who fl en v6 dep i = fz_X0_lay_16 2000000 K σx' 231 r st who fl en (if 0 < D then v6 else ρ) dep' (i + d)) ∧ (∀ Dm : Nat, d ≤ Dm → fz_X11_builds 2000000 Dm σm 804 A who fl = some (ρ, σm')) ∧
      lz_Ps ct ft nc nf W r st en who fl off d σx σm σx' σm' c c' ∧ (D ≤ dep' ∧ dep' ≤ D + d ∧ ∀ j, D ≤ j → j < dep' → dz_In c' (σx'.2 240 j) ∧ bz_ar (σx'.2 232 (σx'.2 240 j)) ≤ σx'.2 241 j) ∧ (∀ j, 0 ≤ j → j < D → σx'.2 240 j = σx.2 240 j) ∧ (∀ j, 0 ≤ j → j < D - 1 → σx'.2 241 j = σx.2 241 j) ∧
      dz_In c' ρ ∧ (lz_rc σx' σm' c c' (fun x => x = ρ) ∧ (ez_iX (σx'.2 232 ρ) ∨ c ≤ ρ)) ∧ (0 < D → σx'.2 241 (D - 1) = σx.2 241 (D - 1) + 1 ∧ σx'.2 238 (3 * σx.2 240 (D - 1) + σx.2 241 (D - 1)) = ρ) ∧
      (∀ x, 0 ≤ x → x < 3 * c → (0 < D → x ≠ 3 * σx.2 240 (D - 1) + σx.2 241 (D - 1)) → σx'.2 238 x = σx.2 238 x) ∧ (∀ x, 0 ≤ x → x < 3 * c → σm'.2 824 x = σm.2 824 x) ∧ σm'.2 804 52 = off + i + d
/-- arguments of a node ν that is the frame D; L: the reference's loop over them -/
theorem lz_args {N0 : Nat} {Q : Nat → Prop} (IH : ∀ d, d < N0 → lz_Term ct ft nc nf W r st who fl en A off d) {σm0 : az_Hp} {a ν D B v6 : Int} {L : Nat → Nat → az_Hp → Int → Option (Int × az_Hp)} (ha3 : a ≤ 3)
    (hL0 : ∀ (Dm kf : Nat) (σ : az_Hp), Q Dm → bz_Upd σm0 σ lz_T → L Dm (kf + 1) σ a = some (ν, σ))
    (hL1 : ∀ (Dm kf : Nat) (σ : az_Hp) (k : Int), Q Dm → bz_Upd σm0 σ lz_T → 0 ≤ k → k < a → L Dm (kf + 1) σ k = (fz_X11_builds 2000000 Dm σ 804 A who fl).bind fun r3 => (az_awr r3.2 824 (3 * ν + k) r3.1).bind fun s4 => L Dm kf s4 (k + 1))
    (hD0 : 0 ≤ D) (hB : B ≤ 100) :
    ∀ (e d kf : Nat) (σx σm : az_Hp) (c k dep i : Int), e < kf → d < N0 → lz_En ct ft nc nf W r st who fl en A off σx σm → lz_St ct ft nc nf W r st en who fl off d σx σm c → D + 1 ≤ dep → dep ≤ B → D + 1 + d ≤ B → (∀ j, D + 1 ≤ j → j < dep → dz_In c (σx.2 240 j) ∧ bz_ar (σx.2 232 (σx.2 240 j)) ≤ σx.2 241 j) → σx.2 240 D = ν → σx.2 241 D = k → dz_In c ν → bz_ar (σx.2 232 ν) = a → 0 ≤ k → k + e = a → st < i → i + d ≤ en → bz_Sc (bz_ra σx r) d e i → σm.2 804 52 = off + i → bz_Upd σm0 σm lz_T →
    ∃ (m : Nat) (σx' σm' : az_Hp) (c' dep' : Int), m ≤ d ∧ (∀ K : Nat, fz_X0_lay_16 2000000 (K + m) σx 231 r st who fl en v6 dep i = fz_X0_lay_16 2000000 K σx' 231 r st who fl en v6 dep' (i + d)) ∧ (∀ Dm, Q Dm → N0 ≤ Dm + 1 → L Dm kf σm k = some (ν, σm')) ∧
      lz_Ps ct ft nc nf W r st en who fl off d σx σm σx' σm' c c' ∧ (D + 1 ≤ dep' ∧ dep' ≤ B ∧ ∀ j, D + 1 ≤ j → j < dep' → dz_In c' (σx'.2 240 j) ∧ bz_ar (σx'.2 232 (σx'.2 240 j)) ≤ σx'.2 241 j) ∧ (∀ j, 0 ≤ j → j ≤ D → σx'.2 240 j = σx.2 240 j) ∧ (∀ j, 0 ≤ j → j < D → σx'.2 241 j = σx.2 241 j) ∧ σx'.2 241 D = a ∧
      (∀ j, k ≤ j → j < a → σx'.2 238 (3 * ν + j) = σm'.2 824 (3 * ν + j) ∧ dz_In c' (σm'.2 824 (3 * ν + j)) ∧ (ez_iX (σx'.2 232 (σm'.2 824 (3 * ν + j))) ∨ ν < σm'.2 824 (3 * ν + j))) ∧ (∀ x, 0 ≤ x → x < 3 * c → ¬ (3 * ν + k ≤ x ∧ x < 3 * ν + a) → σx'.2 238 x = σx.2 238 x ∧ σm'.2 824 x = σm.2 824 x) ∧
      lz_rc σx' σm' c c' (fun x => ∃ j, k ≤ j ∧ j < a ∧ x = σm'.2 824 (3 * ν + j)) ∧ σm'.2 804 52 = off + i + d := by
  intro e
  induction e with
  | zero =>
    intro d kf σx σm c k dep i hkf hd hEn hSt hdep hdB hDB hful hν hk hνc har k0 hka hi hie hSc hra hU0
    obtain ⟨kf, rfl⟩ : ∃ k', kf = k' + 1 := ⟨kf - 1, by omega⟩
    have ed : d = 0 := by
      cases d with
      | zero => rfl
      | succ d => have := hSc.1; omega
    subst ed
    have eka : k = a := by omega
    refine ⟨0, σx, σm, c, dep, by omega, fun K => by simp, fun Dm hQ _ => by rw [eka]; exact hL0 Dm kf σm hQ hU0, ⟨bz_Upd.refl, bz_Upd.refl, hSt.1, fun f => ⟨(hSt.2.1 f).1, by omega⟩, ⟨by omega, by omega, fun _ => rfl⟩, fun n _ => ⟨rfl, rfl, rfl, rfl⟩, fun n _ => ⟨rfl, rfl⟩, fun n n0 n1 => by omega⟩, ⟨hdep, hdB, hful⟩, fun j _ _ => rfl, fun j _ _ => rfl, by rw [hk]; exact eka, fun j j0 j1 => by omega, fun x _ _ _ => ⟨rfl, rfl⟩, fun V _ _ n n0 n1 => by omega, by rw [hra]; simp⟩
  | succ e ih =>
    intro d kf σx σm c k dep i hkf hd hEn hSt hdep hdB hDB hful hν hk hνc har k0 hka hi hie hSc hra hU0
    obtain ⟨kf, rfl⟩ : ∃ k', kf = k' + 1 := ⟨kf - 1, by omega⟩
    have hcap := hEn.2.2.2.2.2.2.1.1
    have hFm := hEn.2.1
    obtain ⟨d1, d2, ed, s1, s2⟩ := bz_Sc.split (bz_ra0) (c1 := 1) (c2 := (e : Int)) (by omega) (by omega) (by rw [show (1 : Int) + e = ((e + 1 : Nat) : Int) by push_cast; omega]; exact hSc)
    have d1p := s1.pos (by omega)
    have c120 := hSt.2.2
    obtain ⟨m1, σx1, σm1, c1, ρ, dep1, m1d, run1, bld, P1, ⟨fa1, fa2, fa3⟩, fb, fc, iρ, ⟨rc1, hi1⟩, at1, kp1, kq1, rd1⟩ := IH d1 (by omega) σx σm c (D + 1) dep v6 i hEn ⟨hSt.1, fun f => ⟨(hSt.2.1 f).1, by have := (hSt.2.1 f).2; omega⟩, by omega⟩ ⟨by omega, hdep, by omega, hful, fun _ => by
        rw [show D + 1 - 1 = D by omega, hν, hk, har]
        exact ⟨hνc, k0, by omega⟩⟩ (by omega) (by omega) (by omega) s1 (fun _ => Or.inl hi) hra
    obtain ⟨u1, u2, ls1, fl1, ⟨cc1, cc2, cc0⟩, kx1, km1, nn1⟩ := P1
    obtain ⟨a1, a2⟩ := at1 (by omega)
    rw [show D + 1 - 1 = D by omega, hν, hk] at a2
    rw [show D + 1 - 1 = D by omega, hk] at a1
    rw [show D + 1 - 1 = D by omega, hν, hk] at kp1
    have ν0 := hνc.1
    have ν1 := hνc.2
    have l824 := ln_824 (hFm.upd u2)
    have wr1 : az_awr σm1 824 (3 * ν + k) ρ = some (az_wr σm1 824 (3 * ν + k) ρ) := bz_awr (by omega) (by omega)
    have u3 : bz_Upd σm (az_wr σm1 824 (3 * ν + k) ρ) lz_T := lz_Tw u2 (by unfold lz_T; omega)
    have em : ∀ b j, b ≠ 824 → (az_wr σm1 824 (3 * ν + k) ρ).2 b j = σm1.2 b j := fun b j hb => az_wr_ne (by omega)
    have em824 : ∀ j, j ≠ 3 * ν + k → (az_wr σm1 824 (3 * ν + k) ρ).2 824 j = σm1.2 824 j := fun j hj => az_wr_ne (by omega)
    have ls2 : lz_LS ct ft nc nf W σx1 (az_wr σm1 824 (3 * ν + k) ρ) c1 := ls1.cong rfl (em _ _ (by decide)) (em _ _ (by decide)) (fun n => ⟨rfl, rfl⟩) (fun n => ⟨em _ _ (by decide), em _ _ (by decide), em _ _ (by decide), em _ _ (by decide)⟩)
    have fl2 : fl = 1 → lz_FL r st en who off σx1 (az_wr σm1 824 (3 * ν + k) ρ) c1 ∧ (az_wr σm1 824 (3 * ν + k) ρ).2 804 51 + d2 ≤ 64 := fun f => by
      obtain ⟨x1, x2⟩ := fl1 f
      have := (hSt.2.1 f).2
      refine ⟨x1.cong hcap bz_Upd.refl (by omega) (em _ _ (by decide)) (fun n _ => ⟨rfl, rfl, rfl⟩) (fun n => ⟨em _ _ (by decide), em _ _ (by decide), em _ _ (by decide)⟩) (fun n n0 n1 => by omega), ?_⟩
      rw [em _ _ (by decide)]
      omega
    have eqi : (i + (d1 : Int)) + (d2 : Int) = i + (d : Int) := by omega
    obtain ⟨m2, σx2, σm2, c2, dep2, m2d, run2, Lr, P2, ⟨ga1, ga2, ga3⟩, gb, gc, gd, ge, gf, rc2, rd2⟩ := ih d2 kf σx1 (az_wr σm1 824 (3 * ν + k) ρ) c1 (k + 1) dep1 (i + d1) (by omega) (by omega) (hEn.upd u1 u3) ⟨ls2, fl2, by omega⟩ fa1 (by omega) (by omega) fa3 (by rw [fb D hD0 (by omega)]; exact hν) a1 ⟨ν0, by omega⟩ (by rw [(kx1 ν hνc).1]; exact har) (by omega) (by push_cast at hka; omega) (by omega) (by omega) (by rw [lz_raS hcap u1]; exact s2) (by rw [em _ _ (by decide), rd1]; omega) (hU0.trans u3)
    obtain ⟨v1, v2, ls3, fl3, ⟨cc3, cc4, cc5⟩, kx2, km2, nn2⟩ := P2
    have inc1 : ∀ n, dz_In c n → dz_In c1 n := fun n hn => ⟨hn.1, by have := hn.2; omega⟩
    have inc2 : ∀ n, dz_In c1 n → dz_In c2 n := fun n hn => ⟨hn.1, by have := hn.2; omega⟩
    have kk : ∀ n kk, c ≤ n → n < c1 → 0 ≤ kk → kk < 3 → σx2.2 238 (3 * n + kk) = σx1.2 238 (3 * n + kk) ∧ σm2.2 824 (3 * n + kk) = σm1.2 824 (3 * n + kk) := by
      intro n kk n0 n1 q0 q1
      obtain ⟨x1, x2⟩ := gf (3 * n + kk) (by omega) (by omega) (by omega)
      exact ⟨x1, by rw [x2, em824 _ (by omega)]⟩
    refine ⟨m1 + m2, σx2, σm2, c2, dep2, by omega, fun K => ?_, fun Dm hQ hDm => ?_, ⟨u1.trans v1, u3.trans v2, ls3, fun f => ⟨(fl3 f).1, ?_⟩, ⟨by omega, by omega, fun f => by rw [cc5 f, em _ _ (by decide)]; exact cc0 f⟩, fun n hn => ?_, fun n hn => ?_, fun n n0 n1 => ?_⟩, ⟨ga1, ga2, ga3⟩, fun j j0 j1 => ?_, fun j j0 j1 => ?_, gd, fun j j0 j1 => ?_, fun x x0 x1 x2 => ?_, ?_, ?_⟩
    · rw [show K + (m1 + m2) = (K + m2) + m1 by omega, run1 (K + m2), if_pos (by omega), run2 K, eqi]
    · rw [hL1 Dm kf σm k hQ hU0 k0 (by omega), bld Dm (by omega), Option.bind_some]
      show (az_awr σm1 824 (3 * ν + k) ρ).bind _ = _
      rw [wr1, Option.bind_some]
      exact Lr Dm hQ hDm
    · have q1 := (fl1 f).2
      have q2 := (fl3 f).2
      rw [em _ _ (by decide)] at q2
      omega
    · obtain ⟨p1, p2, p3, p4⟩ := kx1 n hn
      obtain ⟨q1, q2, q3, q4⟩ := kx2 n (inc1 n hn)
      exact ⟨q1.trans p1, q2.trans p2, q3.trans p3, q4.trans p4⟩
    · obtain ⟨p1, p2⟩ := km1 n hn
      obtain ⟨q1, q2⟩ := km2 n (inc1 n hn)
      rw [em _ _ (by decide)] at q1 q2
      exact ⟨q1.trans p1, q2.trans p2⟩
    · by_cases hn : n < c1
      · obtain ⟨p1, p2, p3, p4⟩ := nn1 n n0 hn
        have n00 : 0 ≤ n := by omega
        obtain ⟨q1, q2, q3, q4⟩ := kx2 n ⟨n00, hn⟩
        obtain ⟨q5, q6⟩ := km2 n ⟨n00, hn⟩
        rw [em _ _ (by decide)] at q6
        rw [q1, q4, q6]
        refine ⟨p1, p2, fun hv k' k0' k1' => ?_, by rw [q2]; exact p4⟩
        have := (@bz_ar_rng (σx1.2 232 n)).2
        obtain ⟨z1, z2⟩ := kk n k' n0 hn k0' (by omega)
        obtain ⟨w1, w2, w3⟩ := p3 hv k' k0' k1'
        rw [z1, z2, (kx2 _ w2).1]
        exact ⟨w1, inc2 _ w2, w3⟩
      · exact nn2 n (by omega) n1
    · rw [gb j j0 (by omega), fb j j0 (by omega)]
    · rw [gc j j0 j1, fc j j0 (by omega)]
    · by_cases q : j = k
      · obtain ⟨x1, x2⟩ := gf (3 * ν + k) (by omega) (by omega) (by omega)
        rw [q, x1, x2, a2]
        have : (az_wr σm1 824 (3 * ν + k) ρ).2 824 (3 * ν + k) = ρ := az_wr_same
        rw [this, (kx2 _ iρ).1]
        exact ⟨rfl, inc2 _ iρ, hi1.elim Or.inl (fun q => Or.inr (by omega))⟩
      · exact ge j (by omega) j1
    · obtain ⟨y1, y2⟩ := gf x x0 (by omega) (by omega)
      rw [y1, y2, kp1 x x0 x1 (fun _ => by omega), em824 x (by omega), kq1 x x0 x1]
      exact ⟨rfl, rfl⟩
    · intro V hV hcl n n0 n1
      by_cases hn : n < c1
      · refine rc1 V (fun x hx => ?_) (fun x x0 x1 hv vx k' k0' k1' => ?_) n n0 hn
        · subst hx
          obtain ⟨y1, y2⟩ := gf (3 * ν + k) (by omega) (by omega) (by omega)
          refine hV _ ⟨k, by omega, by omega, ?_⟩
          rw [y2]
          exact az_wr_same.symm
        · obtain ⟨q1, -⟩ := kx2 x ⟨by omega, x1⟩
          have := (@bz_ar_rng (σx1.2 232 x)).2
          obtain ⟨z1, z2⟩ := kk x k' x0 x1 k0' (by omega)
          rw [← z2]
          exact hcl x x0 (by omega) (by rw [q1]; exact hv) vx k' k0' (by rw [q1]; exact k1')
      · refine rc2 V (fun x hx => ?_) (fun x x0 x1 hv vx k' k0' k1' => hcl x (by omega) x1 hv vx k' k0' k1') n (by omega) n1
        obtain ⟨j, j0, j1, rfl⟩ := hx
        exact hV _ ⟨j, by omega, j1, rfl⟩
    · rw [rd2]; omega
end TM
