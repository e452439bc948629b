-- ends: what the reference lays for one row is a tree: arguments, a whole term
section TS
variable {A : Int} {ar : Int → Int} {st en a : Int}
theorem tr_args {N0 : Nat} (IH : ∀ d, d < N0 → tr_Term A ar st en a d) {ν code k9 : Int} (ha3 : k9 ≤ 3) (n0 : 0 ≤ ν) (hmc : bz_mc code) (hcl : code < 1000) :
    ∀ (e d kf : Nat) (m : az_Hp) (c k i : Int), e < kf → d < N0 → sy_Env m m A ar st en → tr_St m c → c + d ≤ 120 → ν < c → m.2 823 ν = code → bz_tk m code = k9 → 0 ≤ k → k + e = k9 → st ≤ i → i + d ≤ en → bz_Sc ar d e i → m.2 804 52 = i → tr_Q m (fun x j => tr_sl m x j ∧ ((ν < x ∧ x < c) ∨ (x = ν ∧ j < k))) c →
    ∃ (m' : az_Hp) (c1 : Int), (∀ Dm : Nat, N0 ≤ Dm + 1 → fz_X11_builds_89 2000000 (fz_X11_builds 2000000 Dm) kf m 804 A a 0 code ν k = some (ν, m')) ∧ tr_Ps m m' c c1 d (fun x => 3 * ν ≤ x ∧ x < 3 * ν + 3) ∧ tr_Q m' (fun x j => tr_sl m' x j ∧ ((ν < x ∧ x < c1) ∨ (x = ν ∧ j < k9))) c1 ∧ tr_n m' c (c1 - c).toNat = d - e ∧ (∀ j, 0 ≤ j → j < k → m'.2 824 (3 * ν + j) = m.2 824 (3 * ν + j)) ∧ tr_R m' c c1 (fun x => ∃ j, k ≤ j ∧ j < k9 ∧ x = m'.2 824 (3 * ν + j)) ∧ (∀ U, tr_ru U m' c c1 → 3 * tr_us U m' ν k e ≤ 8748 * (2 * d + e)) ∧ tr_Tb m m' A a i c c1 d ∧ m'.2 804 52 = i + d := by
  intro e
  induction e with
  | zero =>
    intro d kf m c k i hkf hd hE hS hc hν h823 ht k0 hk hi hie hSc hra hQ
    obtain ⟨kf, rfl⟩ : ∃ q, kf = q + 1 := ⟨kf - 1, by omega⟩
    have ed : d = 0 := by
      cases d with
      | zero => rfl
      | succ d => have := hSc.1; omega
    subst ed
    have ek : k = k9 := by simp at hk; omega
    refine ⟨m, c, fun Dm _ => ?_, ⟨bz_Upd.refl, ⟨by omega, by omega⟩, hS, fun _ _ => rfl, fun _ _ _ _ => rfl⟩, by rw [← ek]; exact hQ, by rw [show (c - c).toNat = 0 by omega]; rfl, fun _ _ _ => rfl, fun V _ _ n z0 z1 => by omega, fun U _ => Nat.zero_le _, ⟨⟨Int.le_refl _, fun _ _ _ => ⟨rfl, rfl⟩⟩, fun j j0 j1 _ => by simp at j1; omega, fun _ x x0 x1 => by omega, fun hu => hu⟩, by rw [hra]; simp⟩
    unfold fz_X11_builds_89
    rw [bz_takes hE.1.1 hE.1.2.2.1 hmc, Option.bind_some, ht, if_neg (by omega)]
  | succ e ih =>
    intro d kf m c k i hkf hd hE hS hc hν h823 ht k0 hk hi hie hSc hra hQ
    obtain ⟨kf, rfl⟩ : ∃ q, kf = q + 1 := ⟨kf - 1, by omega⟩
    obtain ⟨d1, d2, ed, t1, t2⟩ := bz_Sc.split (fun j => (hE.2.2.2.1 j).1) (c1 := 1) (c2 := (e : Int)) (by omega) (by omega) (by rw [show (1 : Int) + e = ((e + 1 : Nat) : Int) by push_cast; omega]; exact hSc)
    have d1p := t1.pos (by omega)
    obtain ⟨m1, c1, ρ, bld, ⟨u1, ⟨cc1, cc2⟩, S1, K1⟩, Q1, n1, iρ, fρ, R1, B1, T1, r1⟩ := IH d1 (by omega) m c i hE hS (by omega) hi (by omega) t1 hra
    have l824 := ln_824 (hE.1.1.upd u1)
    obtain ⟨m2, hm2⟩ : ∃ m2, m2 = az_wr m1 824 (3 * ν + k) ρ := ⟨_, rfl⟩
    have u2 : bz_Upd m1 m2 lz_T := by rw [hm2]; exact lz_Tw bz_Upd.refl (by unfold lz_T; omega)
    have em : ∀ x j, x ≠ 824 → m2.2 x j = m1.2 x j := fun x j z => by rw [hm2]; exact az_wr_ne (by omega)
    have em4 : ∀ j, j ≠ 3 * ν + k → m2.2 824 j = m1.2 824 j := fun j z => by rw [hm2]; exact az_wr_ne (by omega)
    have em0 : m2.2 824 (3 * ν + k) = ρ := by rw [hm2, az_wr_same]
    obtain ⟨S1a, S1b, S1c, S1d, S1e⟩ := S1
    have S2 : tr_St m2 c1 := ⟨by rw [em 804 49 (by omega)]; exact S1a, S1b, by rw [em 804 50 (by omega)]; exact S1c, by rw [em 804 50 (by omega)]; exact S1d, fun q q0 q1 => by
      rw [em 804 50 (by omega)] at q1
      rw [em 829 q (by omega), em 823 _ (by omega)]
      exact S1e q q0 q1⟩
    have tkm : bz_tk m2 = bz_tk m := sy_tk (u1.trans u2)
    have tkm1 : bz_tk m1 = bz_tk m := sy_tk u1
    have k3 : k < 3 := by push_cast at hk; omega
    have e823 : ∀ x, dz_In c x → m2.2 823 x = m.2 823 x := fun x hx => by rw [em 823 x (by omega)]; exact K1.1 x hx
    -- the old places
    have QO : tr_QQ (fun x k => m2.2 824 (3 * x + k)) (fun y => m2.2 823 y < 1000) (fun x j => tr_sl m2 x j ∧ ((ν < x ∧ x < c) ∨ (x = ν ∧ j < k))) c := by
      have sl : ∀ x j, (tr_sl m2 x j ∧ ((ν < x ∧ x < c) ∨ (x = ν ∧ j < k))) → (tr_sl m x j ∧ ((ν < x ∧ x < c) ∨ (x = ν ∧ j < k))) := fun x j q => by
        obtain ⟨⟨q1, q2, q3⟩, q4⟩ := q
        have ix : dz_In c x := by
          constructor <;> omega
        rw [e823 x ix] at q1 q3
        rw [tkm] at q3
        exact ⟨⟨q1, q2, q3⟩, q4⟩
      refine hQ.cong sl (fun x j q => ?_) (fun x j q z => ?_)
      · obtain ⟨a1, a2, a3⟩ := hQ.1 x j (sl x j q)
        have j0 := q.1.2.1
        have ne : 3 * x + j ≠ 3 * ν + k := by omega
        show m2.2 824 (3 * x + j) = m.2 824 (3 * x + j)
        rw [em4 _ ne]
        exact K1.2 _ (by omega) (by omega) (fun z => z)
      · obtain ⟨a1, a2, a3⟩ := hQ.1 x j (sl x j q)
        have z' : m2.2 823 (m.2 824 (3 * x + j)) < 1000 := z
        rw [e823 _ a2] at z'
        exact z'
    have QB : tr_QQ (fun x k => m2.2 824 (3 * x + k)) (fun y => m2.2 823 y < 1000) (fun x j => tr_sl m2 x j ∧ c ≤ x ∧ x < c1) c1 := by
      have sl : ∀ x j, (tr_sl m2 x j ∧ c ≤ x ∧ x < c1) → (tr_sl m1 x j ∧ c ≤ x ∧ x < c1) := fun x j q => by
        obtain ⟨⟨q1, q2, q3⟩, q4⟩ := q
        rw [em 823 x (by omega)] at q1 q3
        rw [tkm, ← tkm1] at q3
        exact ⟨⟨q1, q2, q3⟩, q4⟩
      refine Q1.cong sl (fun x j q => ?_) (fun x j q z => ?_)
      · obtain ⟨a1, a2, a3⟩ := Q1.1 x j (sl x j q)
        have j0 := q.1.2.1
        exact em4 _ (by omega)
      · have z' : m2.2 823 (m1.2 824 (3 * x + j)) < 1000 := z
        rw [em 823 _ (by omega)] at z'
        exact z'
    have Q2 : tr_Q m2 (fun x j => tr_sl m2 x j ∧ ((ν < x ∧ x < c1) ∨ (x = ν ∧ j < k + 1))) c1 := by
      have un := tr_QQ.un (ν := ν) (κ := k) cc1 QO QB (fun x j q => q.2.1) k3 hν (by show dz_In c1 (m2.2 824 (3 * ν + k)); rw [em0]; exact iρ) (fun z => by
        have z' : m2.2 823 (m2.2 824 (3 * ν + k)) < 1000 := z
        show m2.2 824 (3 * ν + k) = c
        rw [em0] at z' ⊢
        rw [em 823 _ (by omega)] at z'
        exact (fρ.1 z').1)
      refine un.cong (fun x j q => ?_) (fun _ _ _ => rfl) (fun _ _ _ z => z)
      obtain ⟨q1, q2⟩ := q
      by_cases w : x = ν ∧ j = k
      · exact Or.inr (Or.inl w)
      · by_cases w2 : c ≤ x
        · exact Or.inr (Or.inr ⟨q1, w2, by omega⟩)
        · exact Or.inl ⟨q1, by omega⟩
    obtain ⟨m3, c3, run, ⟨u3, ⟨dd1, dd2⟩, S3, K3⟩, Q3, n3, old3, R3, B3, T3, r3⟩ := ih d2 kf m2 c1 (k + 1) (i + d1) (by omega) (by omega) (hE.upd (u1.trans u2) (u1.trans u2)) S2 (by omega) (by omega) (by rw [e823 ν ⟨n0, hν⟩]; exact h823) (by rw [tkm]; exact ht) (by omega) (by push_cast at hk; omega) (by omega) (by omega) t2 (by rw [em 804 52 (by omega)]; exact r1) Q2
    have K12 : tr_K m m2 c (fun x => 3 * ν ≤ x ∧ x < 3 * ν + 3) := ⟨fun x hx => e823 x hx, fun x x0 x1 z => by rw [em4 x (fun q => z (by omega))]; exact K1.2 x x0 x1 (fun z => z)⟩
    refine ⟨m3, c3, fun Dm hD => ?_, ⟨(u1.trans u2).trans u3, ⟨by omega, by omega⟩, S3, fun x hx => ?_, fun x x0 x1 z => ?_⟩, Q3, ?_, fun j j0 j1 => ?_, fun V hR hcl n z0 z1 => ?_, fun U hU => ?_, ?_, by rw [r3, ed]; push_cast; omega⟩
    · have b1 := bld Dm (by omega)
      have b3 := run Dm hD
      have g40 := fx_804_40 hE.1.1
      conv => lhs; unfold fz_X11_builds_89
      rw [bz_takes hE.1.1 hE.1.2.2.1 hmc, Option.bind_some, ht, if_pos (by omega), g40, Option.bind_some, b1, Option.bind_some, az_w32_id (z := 3 * ν) (by omega) (by omega), az_w32_id (z := 3 * ν + k) (by omega) (by omega), az_w32_id (z := k + 1) (by omega) (by omega), bz_awr (by omega) (by show _ < az_ln m1 824; omega), Option.bind_some, ← hm2]
      exact b3
    · rw [K3.1 x ⟨hx.1, by have := hx.2; omega⟩]
      exact e823 x hx
    · rw [K3.2 x x0 (by omega) z]
      exact K12.2 x x0 x1 z
    · have e1 : (c3 - c).toNat = (c1 - c).toNat + (c3 - c1).toNat := by omega
      rw [e1, tr_n_add, show c + (((c1 - c).toNat : Nat) : Int) = c1 by omega, n3]
      have e2 : tr_n m3 c (c1 - c).toNat = tr_n m1 c (c1 - c).toNat := tr_n_cong (by rw [sy_tk (u2.trans u3)]) _ (fun x x0 x1 => by
        rw [K3.1 x ⟨by omega, by omega⟩, em 823 x (by omega)])
      rw [e2, n1, ed]
      push_cast
      omega
    · rw [old3 j j0 (by omega), em4 _ (by omega)]
      exact K1.2 _ (by omega) (by omega) (fun z => z)
    · have kρ : m3.2 824 (3 * ν + k) = ρ := by rw [old3 k k0 (by omega)]; exact em0
      by_cases w : n < c1
      · refine R1 V (fun x hx => ?_) (fun x j s q0 q1 vx => ?_) n z0 w
        · rw [hx, ← kρ]
          exact hR _ ⟨k, Int.le_refl _, by push_cast at hk; omega, rfl⟩
        · have j3 := (Q1.1 x j ⟨s, q0, q1⟩).1
          have e3 : m3.2 823 x = m1.2 823 x := by rw [K3.1 x ⟨by omega, by omega⟩, em 823 x (by omega)]
          have s3 : tr_sl m3 x j := by
            obtain ⟨s1, s2, s4⟩ := s
            refine ⟨by rw [e3]; exact s1, s2, ?_⟩
            rw [e3, sy_tk (u2.trans u3)]
            exact s4
          have q := hcl x j s3 q0 (by omega) vx
          have j0 := s.2.1
          rw [K3.2 (3 * x + j) (by omega) (by omega) (by omega), em4 _ (by omega)] at q
          exact q
      · refine R3 V (fun x hx => ?_) (fun x j s q0 q1 vx => hcl x j s (by omega) q1 vx) n (by omega) z1
        obtain ⟨j, j0, j1, hx⟩ := hx
        exact hR x ⟨j, by omega, j1, hx⟩
    · have kρ : m3.2 824 (3 * ν + k) = ρ := by rw [old3 k k0 (by omega)]; exact em0
      have e3 : ∀ x, 0 ≤ x → x < c1 → m3.2 823 x = m1.2 823 x := fun x x0 x1 => by rw [K3.1 x ⟨x0, x1⟩, em 823 x (by omega)]
      have tk3 : bz_tk m3 = bz_tk m1 := sy_tk (u2.trans u3)
      have b1 := B1 U ⟨fun x x0 x1 xc => by
        have w := hU.1 x (by omega) (by omega) (by rw [e3 x (by omega) x1]; exact xc)
        rw [e3 x (by omega) x1, tk3] at w
        rw [tr_us_cong (m := m1) _ 0 (fun j j0 j1 => by
          have j3 := (Q1.1 x j ⟨⟨xc, j0, by omega⟩, x0, x1⟩).1
          rw [K3.2 (3 * x + j) (by omega) (by omega) (by omega), em4 _ (by omega)])] at w
        exact w, fun x x0 x1 xv => hU.2 x x0 (by omega) (by rw [e3 x x0 x1]; exact xv)⟩
      have b3 := B3 U ⟨fun x x0 x1 xc => hU.1 x (by omega) x1 xc, fun x x0 x1 xv => hU.2 x x0 x1 xv⟩
      show 3 * (U (m3.2 824 (3 * ν + k)) + tr_us U m3 ν (k + 1) e) ≤ 8748 * (2 * d + (e + 1))
      rw [kρ]
      omega
    · obtain ⟨⟨ta1, ta2⟩, ta3, ta4, ta5⟩ := T1
      obtain ⟨⟨tb1, tb2⟩, tb3, tb4, tb5⟩ := T3
      rw [em 804 50 (by omega)] at tb1
      have s50 := hS.2.2.1
      have eA : ∀ j, m2.2 A j = m.2 A j := fun j => (u1.trans u2).2.2 A j (by have := hE.2.2.1.2.2.2.2; unfold lz_T; omega)
      have tb2' : ∀ q, 0 ≤ q → q < m1.2 804 50 → m3.2 827 q = m1.2 827 q ∧ m3.2 828 q = m1.2 828 q := fun q q0 q1 => by
        have w := tb2 q q0 (by rw [em 804 50 (by omega)]; exact q1)
        rw [em 827 q (by omega), em 828 q (by omega)] at w
        exact w
      refine ⟨⟨by omega, fun q q0 q1 => ?_⟩, fun j j0 j1 jv => ?_, fun hall x x0 x1 => ?_, fun hu => tb5 ((ta5 hu).cong (em _ _ (by omega)) (fun q => em _ _ (by omega)) (fun q => em _ _ (by omega)))⟩
      · have w1 := tb2' q q0 (by omega)
        have w2 := ta2 q q0 q1
        exact ⟨w1.1.trans w2.1, w1.2.trans w2.2⟩
      · by_cases z : j < i + d1
        · obtain ⟨q, q0, q1, q2, q3⟩ := ta3 j j0 z jv
          have w := tb2' q q0 q1
          exact ⟨q, q0, by omega, by rw [w.1]; exact q2, by rw [w.2]; exact q3⟩
        · obtain ⟨q, q0, q1, q2, q3⟩ := tb3 j (by omega) (by push_cast at j1; omega) (by rw [eA]; exact jv)
          exact ⟨q, q0, q1, q2, by rw [q3, eA]⟩
      · by_cases z : x < c1
        · rw [K3.1 x ⟨by have := hS.2.1; omega, z⟩, em 823 x (by omega)]
          exact ta4 (fun j j0 j1 jv => hall j j0 (by push_cast; omega) jv) x x0 z
        · refine tb4 (fun j j0 j1 jv => ?_) x (by omega) x1
          rw [eA] at jv ⊢
          obtain ⟨q, q0, q1, q2, q3⟩ := hall j (by omega) (by push_cast; omega) jv
          have w := ta2 q q0 q1
          refine ⟨q, q0, by rw [em 804 50 (by omega)]; omega, by rw [em 827 q (by omega), w.1]; exact q2, by rw [em 828 q (by omega), w.2]; exact q3⟩
theorem tr_term : ∀ d : Nat, tr_Term A ar st en a d := by
  have main : ∀ N d : Nat, d < N → tr_Term A ar st en a d := by
    intro N
    induction N with
    | zero => intro d h; omega
    | succ N ihN =>
      intro d hdN m c i hE hS hc hi hie hSc hra
      have dp := hSc.pos (by omega)
      have mci := hE.2.2.2.2 i hi (by omega)
      by_cases hv : 1000 ≤ m.2 A i
      · exact tr_var hE hS hc hi hie hSc hra hv
      obtain ⟨d, rfl⟩ : ∃ q, d = q + 1 := ⟨d - 1, by omega⟩
      have ar3 := hE.2.2.2.1 i
      obtain ⟨s1, s3, s5, s6, s7⟩ := hS
      obtain ⟨h8, h9, h10, h11, h12⟩ := hE.2.2.1
      have h1 := hE.1.1
      obtain ⟨p, hp⟩ : ∃ p, p = az_wr m 804 52 (i + 1) := ⟨_, rfl⟩
      have up : bz_Upd m p lz_T := by rw [hp]; exact lz_Tw bz_Upd.refl (by unfold lz_T; omega)
      have p49 : p.2 804 49 = c := by rw [hp, az_wr_ne (by omega)]; exact s1
      have adm := lz_adds (v := m.2 A i) (h1.upd up) (by omega) (by omega)
      rw [p49] at adm
      obtain ⟨m0, hm0⟩ : ∃ m0, m0 = az_wr (az_wr (az_wr p 823 c (m.2 A i)) 825 c c) 804 49 (c + 1) := ⟨_, rfl⟩
      rw [← hm0] at adm
      have um0 : bz_Upd m m0 lz_T := by rw [hm0]; exact lz_Tw (lz_Tw (lz_Tw up (by unfold lz_T; omega)) (by unfold lz_T; omega)) (by unfold lz_T; omega)
      have m0k : ∀ x k, ¬ (x = 804 ∧ (k = 49 ∨ k = 52)) → ¬ (x = 823 ∧ k = c) → x ≠ 825 → m0.2 x k = m.2 x k := fun x k z1 z2 z3 => by
        rw [hm0, az_wr_ne (by omega), az_wr_ne (by omega), az_wr_ne (by omega), hp, az_wr_ne (by omega)]
      have m0c : m0.2 823 c = m.2 A i := by rw [hm0, az_wr_ne (by omega), az_wr_ne (by omega), az_wr_same]
      have S0 : tr_St m0 (c + 1) := ⟨by rw [hm0, az_wr_same], by omega, by rw [m0k 804 50 (by omega) (by omega) (by omega)]; omega, by rw [m0k 804 50 (by omega) (by omega) (by omega)]; omega, fun q q0 q1 => by
        rw [m0k 804 50 (by omega) (by omega) (by omega)] at q1
        have w := s7 q q0 q1
        rw [m0k 829 q (by omega) (by omega) (by omega), m0k 823 _ (by omega) (by have := w.1.2; omega) (by omega)]
        exact ⟨⟨w.1.1, by have := w.1.2; omega⟩, w.2⟩⟩
      have tk0 : bz_tk m0 (m.2 A i) = ar i := by rw [sy_tk um0]; exact mci.2
      have Sc0 : bz_Sc ar d ((ar i).toNat : Nat) (i + 1) := by
        have := hSc.2
        rw [show (((ar i).toNat : Nat) : Int) = 1 - 1 + ar i by omega]
        exact this
      obtain ⟨m', c1, run, ⟨u1, ⟨cc1, cc2⟩, S1, K1⟩, Q1, nn, old, R1, B1, T1, r1⟩ := tr_args (N0 := d + 1) (fun e he => ihN e (by omega)) (ν := c) (code := m.2 A i) (k9 := ar i) ar3.2 s3 mci.1 (by omega) (ar i).toNat d 2000000 m0 (c + 1) 0 (i + 1) (by omega) (by omega) (hE.upd um0 um0) S0 (by push_cast at hc; omega) (by omega) m0c tk0 (by omega) (by omega) (by omega) (by push_cast at hie; omega) Sc0 (by rw [hm0, az_wr_ne (by omega), az_wr_ne (by omega), az_wr_ne (by omega), hp, az_wr_same]) ⟨fun x k q => by have z := q.1.2.1; have z2 := q.2; omega, fun x k x' k' q => by have z := q.1.2.1; have z2 := q.2; omega⟩
      have mc' : m'.2 823 c = m.2 A i := by rw [K1.1 c ⟨s3, by omega⟩]; exact m0c
      have tk' : bz_tk m' = bz_tk m := sy_tk (um0.trans u1)
      have arc : tr_tk m' c = ar i := by
        unfold tr_tk
        rw [mc', if_pos (by omega), tk']
        exact mci.2
      refine ⟨m', c1, c, fun Dm hD => ?_, ⟨um0.trans u1, ⟨by omega, by push_cast; omega⟩, S1, fun x hx => ?_, fun x x0 x1 _ => ?_⟩, ?_, ?_, ⟨s3, by omega⟩, ⟨fun _ => ⟨rfl, by omega⟩, fun _ => mc'⟩, fun V hR hcl n z0 z1 => ?_, fun U hU => ?_, ?_, by rw [r1]; push_cast; omega⟩
      · obtain ⟨D, rfl⟩ : ∃ q, Dm = q + 1 := ⟨Dm - 1, by omega⟩
        have z1 := run D (by omega)
        rw [lz_bld (x := m.2 A i) (by rw [hra]; exact bz_ard (by omega) (by omega)) (Or.inl rfl)]
        unfold fz_X11_builds_52
        rw [hra, az_w32_id (by omega) (by omega), ← hp, ez_isVarM.2 hv, Option.bind_some, if_pos rfl, adm, Option.bind_some]
        exact z1
      · rw [K1.1 x ⟨hx.1, by have := hx.2; omega⟩]
        exact m0k _ _ (by omega) (by have := hx.2; omega) (by omega)
      · rw [K1.2 x x0 (by omega) (by omega)]
        exact m0k _ _ (by omega) (by omega) (by omega)
      · refine Q1.cong (fun x j q => ?_) (fun _ _ _ => rfl) (fun _ _ _ z => z)
        obtain ⟨q1, q2, q3⟩ := q
        refine ⟨q1, ?_⟩
        by_cases w : x = c
        · refine Or.inr ⟨w, ?_⟩
          have q4 := q1.2.2
          rw [w, mc', tk', mci.2] at q4
          exact q4
        · exact Or.inl ⟨by omega, q3⟩
      · have e1 : (c1 - c).toNat = 1 + (c1 - (c + 1)).toNat := by omega
        rw [e1, tr_n_add, show c + ((1 : Nat) : Int) = c + 1 by simp, nn]
        have e2 : tr_n m' c 1 = ar i := by
          show (0 : Int) + tr_tk m' (c + ((0 : Nat) : Int)) = ar i
          rw [show c + ((0 : Nat) : Int) = c by simp, arc]
          omega
        rw [e2]
        push_cast
        omega
      · by_cases w : n = c
        · exact hR n w
        · refine R1 V (fun x hx => ?_) (fun x j s q0 q1 vx => hcl x j s (by omega) q1 vx) n (by omega) z1
          obtain ⟨j, j0, j1, rfl⟩ := hx
          refine hcl c j ⟨by rw [mc']; omega, j0, by rw [mc', tk', mci.2]; exact j1⟩ (Int.le_refl _) (by omega) (hR c rfl)
      · have b1 := B1 U ⟨fun x x0 x1 xc => hU.1 x (by omega) x1 xc, fun x x0 x1 xv => hU.2 x x0 x1 xv⟩
        have w := hU.1 c (Int.le_refl _) (by omega) (by rw [mc']; omega)
        rw [mc', tk', mci.2] at w
        have a3 : (ar i).toNat ≤ 3 := by omega
        omega
      · obtain ⟨⟨ta1, ta2⟩, ta3, ta4, ta5⟩ := T1
        have e50 : m0.2 804 50 = m.2 804 50 := m0k 804 50 (by omega) (by omega) (by omega)
        have eT : ∀ q, m0.2 827 q = m.2 827 q ∧ m0.2 828 q = m.2 828 q := fun q => ⟨m0k _ _ (by omega) (by omega) (by omega), m0k _ _ (by omega) (by omega) (by omega)⟩
        have eA : ∀ j, m0.2 A j = m.2 A j := fun j => m0k _ _ (by omega) (by omega) (by omega)
        rw [e50] at ta1
        refine ⟨⟨ta1, fun q q0 q1 => ?_⟩, fun j j0 j1 jv => ?_, fun hall x x0 x1 => ?_, fun hu => ta5 (hu.cong e50 (fun q => (eT q).1) (fun q => (eT q).2))⟩
        · have w := ta2 q q0 (by rw [e50]; exact q1)
          rw [(eT q).1, (eT q).2] at w
          exact w
        · by_cases z : j = i
          · rw [z] at jv; omega
          · obtain ⟨q, q0, q1, q2, q3⟩ := ta3 j (by omega) (by push_cast at j1; omega) (by rw [eA]; exact jv)
            exact ⟨q, q0, q1, q2, by rw [q3, eA]⟩
        · by_cases z : x = c
          · rw [z, mc']; omega
          · refine ta4 (fun j j0 j1 jv => ?_) x (by omega) x1
            rw [eA] at jv ⊢
            obtain ⟨q, q0, q1, q2, q3⟩ := hall j (by omega) (by push_cast; omega) jv
            exact ⟨q, q0, by rw [e50]; exact q1, by rw [(eT q).1]; exact q2, by rw [(eT q).2]; exact q3⟩
  exact fun d => main (d + 1) d (by omega)
end TS
