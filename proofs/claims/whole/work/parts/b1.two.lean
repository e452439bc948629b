/-! two heaps: arguments, and a whole term -/
section SZ
variable {A : Int} {ar : Int → Int} {st en a b : Int}
theorem sy_args {N0 : Nat} (IH : ∀ d, d < N0 → sy_Term A ar st en a b d) {ν ν' code k9 : Int} (ha3 : k9 ≤ 3) (n0 : 0 ≤ ν) (n0' : 0 ≤ ν') (hmc : bz_mc code) :
    ∀ (e d kf : Nat) (m n : az_Hp) (F : Int → Int → Prop) (c c' k i : Int), e < kf → d < N0 → sy_Env m n A ar st en → sy_S m n F a b c c' → c + d ≤ 120 → c' + d ≤ 120 → ν < c → ν' < c' → (∀ x y, F x y → x ≠ ν ∧ y ≠ ν') → bz_tk m code = k9 → 0 ≤ k → k + e = k9 → st ≤ i → i + d ≤ en → bz_Sc ar d e i → m.2 804 52 = i → n.2 804 52 = i → (∀ j, 0 ≤ j → j < k → F (m.2 824 (3 * ν + j)) (n.2 824 (3 * ν' + j))) →
    ∃ (m' n' : az_Hp) (F' : Int → Int → Prop) (c1 c1' : Int), (∀ Dm : Nat, N0 ≤ Dm + 1 → fz_X11_builds_89 2000000 (fz_X11_builds 2000000 Dm) kf m 804 A a 0 code ν k = some (ν, m') ∧ fz_X11_builds_89 2000000 (fz_X11_builds 2000000 Dm) kf n 804 A b 0 code ν' k = some (ν', n')) ∧ sy_Ps m n m' n' F F' a b c c' c1 c1' (fun x => 3 * ν ≤ x ∧ x < 3 * ν + 3) (fun x => 3 * ν' ≤ x ∧ x < 3 * ν' + 3) d ∧ (∀ j, 0 ≤ j → j < k9 → F' (m'.2 824 (3 * ν + j)) (n'.2 824 (3 * ν' + j))) ∧ m'.2 804 52 = i + d ∧ n'.2 804 52 = i + d := by
  intro e
  induction e with
  | zero =>
    intro d kf m n F c c' k i hkf hd hE hS hc hc' hν hν' hF ht k0 hk hi hie hSc hra hrb hj
    obtain ⟨kf, rfl⟩ : ∃ q, kf = q + 1 := ⟨kf - 1, by omega⟩
    have ed : d = 0 := by
      cases d with
      | zero => rfl
      | succ d => have := hSc.1; omega
    subst ed
    have hn := hE.tkn
    refine ⟨m, n, F, c, c', fun Dm _ => ⟨?_, ?_⟩, ⟨bz_Upd.refl, bz_Upd.refl, ⟨by omega, by omega, by omega⟩, hS, fun _ _ z => z, fun _ _ z => Or.inl z, ⟨fun x x0 x1 => by omega, fun x x0 x1 => by omega⟩, sy_K.refl, sy_K.refl⟩, fun j j0 j1 => hj j j0 (by omega), by rw [hra]; simp, by rw [hrb]; simp⟩
    · unfold fz_X11_builds_89
      rw [bz_takes hE.1.1 hE.1.2.2.1 hmc, Option.bind_some, ht, if_neg (by omega)]
    · unfold fz_X11_builds_89
      rw [bz_takes hE.1.2.1 hn.2 hmc, Option.bind_some, hn.1, ht, if_neg (by omega)]
  | succ e ih =>
    intro d kf m n F c c' k i hkf hd hE hS hc hc' hν hν' hF ht k0 hk hi hie hSc hra hrb hj
    obtain ⟨kf, rfl⟩ : ∃ q, kf = q + 1 := ⟨kf - 1, by omega⟩
    have hn := hE.tkn
    obtain ⟨d1, d2, ed, t1, t2⟩ := bz_Sc.split (fun j => (hE.2.2.2.1 j).1) (c1 := 1) (c2 := (e : Int)) (by omega) (by omega) (by rw [show (1 : Int) + e = ((e + 1 : Nat) : Int) by push_cast; omega]; exact hSc)
    have d1p := t1.pos (by omega)
    obtain ⟨m1, n1, F1, c1, c1', ρ, ρ', bld, ⟨u1, w1, ⟨cc1, cc2, cc3⟩, S1, f1, g1, ⟨v1, v1'⟩, K1, K1'⟩, fρ, r1, r1'⟩ := IH d1 (by omega) m n F c c' i hE hS (by omega) (by omega) hi (by omega) t1 hra hrb
    have l824 := ln_824 (hE.1.1.upd u1)
    have l824' := ln_824 (hE.1.2.1.upd w1)
    obtain ⟨m2, hm2⟩ : ∃ m2, m2 = az_wr m1 824 (3 * ν + k) ρ := ⟨_, rfl⟩
    obtain ⟨n2, hn2⟩ : ∃ n2, n2 = az_wr n1 824 (3 * ν' + k) ρ' := ⟨_, rfl⟩
    have u2 : bz_Upd m1 m2 lz_T := by rw [hm2]; exact lz_Tw bz_Upd.refl (by unfold lz_T; omega)
    have w2 : bz_Upd n1 n2 lz_T := by rw [hn2]; exact lz_Tw bz_Upd.refl (by unfold lz_T; omega)
    have em : ∀ x j, x ≠ 824 → m2.2 x j = m1.2 x j := fun x j z => by rw [hm2]; exact az_wr_ne (by omega)
    have en' : ∀ x j, x ≠ 824 → n2.2 x j = n1.2 x j := fun x j z => by rw [hn2]; exact az_wr_ne (by omega)
    have em4 : ∀ j, j ≠ 3 * ν + k → m2.2 824 j = m1.2 824 j := fun j z => by rw [hm2]; exact az_wr_ne (by omega)
    have en4 : ∀ j, j ≠ 3 * ν' + k → n2.2 824 j = n1.2 824 j := fun j z => by rw [hn2]; exact az_wr_ne (by omega)
    have F1ν : ∀ x y, F1 x y → x ≠ ν ∧ y ≠ ν' := fun x y z => by
      rcases g1 x y z with z | z
      · exact hF x y z
      · omega
    obtain ⟨S1a, S1b, S1F, S1V⟩ := S1
    have S2 : sy_S m2 n2 F1 a b c1 c1' := by
      refine ⟨⟨by rw [em 804 49 (by omega)]; exact S1a.1, by rw [en' 804 49 (by omega)]; exact S1a.2.1, S1a.2.2.1, S1a.2.2.2⟩, by rw [em 804 50 (by omega), en' 804 50 (by omega)]; exact S1b, ?_, ?_⟩
      · refine S1F.cong (sy_tk u2) (Int.le_refl _) (Int.le_refl _) (fun x y z => ⟨em _ _ (by omega), en' _ _ (by omega), fun j j0 j1 => ?_⟩)
        have q := F1ν x y z
        exact ⟨em4 _ (by omega), en4 _ (by omega)⟩
      · exact S1V.cong (fun _ _ z => z) (em _ _ (by omega)) (en' _ _ (by omega)) (fun q _ _ => ⟨em _ _ (by omega), em _ _ (by omega), em _ _ (by omega)⟩) (fun q _ _ => ⟨en' _ _ (by omega), en' _ _ (by omega), en' _ _ (by omega)⟩)
    have tk2 : bz_tk m2 code = k9 := by rw [sy_tk (u1.trans u2)]; exact ht
    obtain ⟨m3, n3, F3, c3, c3', run, ⟨u3, w3, ⟨dd1, dd2, dd3⟩, S3, f3, g3, ⟨v3, v3'⟩, K3, K3'⟩, j3, r3, r3'⟩ := ih d2 kf m2 n2 F1 c1 c1' (k + 1) (i + d1) (by omega) (by omega) (hE.upd (u1.trans u2) (w1.trans w2)) S2 (by omega) (by omega) (by omega) (by omega) F1ν tk2 (by omega) (by push_cast at hk; omega) (by omega) (by omega) t2 (by rw [em 804 52 (by omega)]; exact r1) (by rw [en' 804 52 (by omega)]; exact r1') (fun j j0 j1 => by
      by_cases z : j = k
      · rw [z, hm2, hn2, az_wr_same, az_wr_same]; exact fρ
      · rw [em4 _ (by omega), en4 _ (by omega), K1.2.1 _ (by omega) (by omega) (fun z => z), K1'.2.1 _ (by omega) (by omega) (fun z => z)]
        exact f1 _ _ (hj j j0 (by omega)))
    have K12 : sy_K m m2 c a (fun x => 3 * ν ≤ x ∧ x < 3 * ν + 3) := by
      refine (K1.weak (fun _ z => z.elim)).trans (c1 := c1) ⟨fun x _ => em _ _ (by omega), fun x _ _ z => em4 x (fun q => z (by omega)), by rw [em 804 50 (by omega)]; exact Int.le_refl _, fun q _ _ => ⟨em _ _ (by omega), em _ _ (by omega), em _ _ (by omega)⟩, fun q z0 z1 => by rw [em 804 50 (by omega)] at z1; omega⟩ cc1 hS.2.1.1
    have K12' : sy_K n n2 c' b (fun x => 3 * ν' ≤ x ∧ x < 3 * ν' + 3) := by
      refine (K1'.weak (fun _ z => z.elim)).trans (c1 := c1') ⟨fun x _ => en' _ _ (by omega), fun x _ _ z => en4 x (fun q => z (by omega)), by rw [en' 804 50 (by omega)]; exact Int.le_refl _, fun q _ _ => ⟨en' _ _ (by omega), en' _ _ (by omega), en' _ _ (by omega)⟩, fun q z0 z1 => by rw [en' 804 50 (by omega)] at z1; omega⟩ (by omega) hS.2.1.2.2.1
    refine ⟨m3, n3, F3, c3, c3', fun Dm hD => ?_, ⟨(u1.trans u2).trans u3, (w1.trans w2).trans w3, ⟨by omega, by omega, by omega⟩, S3, fun x y z => f3 x y (f1 x y z), fun x y z => ?_, ⟨fun x x0 x1 => ?_, fun y y0 y1 => ?_⟩, K12.trans K3 cc1 hS.2.1.1, K12'.trans K3' (by omega) hS.2.1.2.2.1⟩, j3, by rw [r3, ed]; push_cast; omega, by rw [r3', ed]; push_cast; omega⟩
    · obtain ⟨b1, b2⟩ := bld Dm (by omega)
      obtain ⟨b3, b4⟩ := run Dm hD
      have g40 := fx_804_40 hE.1.1
      have g40' := fx_804_40 hE.1.2.1
      constructor
      · conv => lhs; unfold fz_X11_builds_89
        rw [bz_takes hE.1.1 hE.1.2.2.1 hmc, Option.bind_some, ht, if_pos (by omega), g40, Option.bind_some, b1, Option.bind_some, az_w32_id (z := 3 * ν) (by omega) (by omega), az_w32_id (z := 3 * ν + k) (by omega) (by omega), az_w32_id (z := k + 1) (by omega) (by omega), bz_awr (by omega) (by show _ < az_ln m1 824; omega), Option.bind_some, ← hm2]
        exact b3
      · conv => lhs; unfold fz_X11_builds_89
        rw [bz_takes hE.1.2.1 hn.2 hmc, Option.bind_some, hn.1, ht, if_pos (by omega), g40', Option.bind_some, b2, Option.bind_some, az_w32_id (z := 3 * ν') (by omega) (by omega), az_w32_id (z := 3 * ν' + k) (by omega) (by omega), az_w32_id (z := k + 1) (by omega) (by omega), bz_awr (by omega) (by show _ < az_ln n1 824; omega), Option.bind_some, ← hn2]
        exact b4
    · rcases g3 x y z with z | z
      · rcases g1 x y z with z | z
        · exact Or.inl z
        · exact Or.inr z
      · exact Or.inr (by omega)
    · by_cases z : x < c1
      · obtain ⟨y, hy⟩ := v1 x x0 z
        exact ⟨y, f3 x y hy⟩
      · exact v3 x (by omega) x1
    · by_cases z : y < c1'
      · obtain ⟨x, hx⟩ := v1' y y0 z
        exact ⟨x, f3 x y hx⟩
      · exact v3' y (by omega) y1
theorem sy_term : ∀ d : Nat, sy_Term A ar st en a b d := by
  have main : ∀ N d : Nat, d < N → sy_Term A ar st en a b d := by
    intro N
    induction N with
    | zero => intro d h; omega
    | succ N ihN =>
      intro d hdN m n F c c' i hE hS hc hc' hi hie hSc hra hrb
      have dp := hSc.pos (by omega)
      have mci := hE.2.2.2.2 i hi (by omega)
      by_cases hv : 1000 ≤ m.2 A i
      · exact sy_var hE hS hc hc' hi hie hSc hra hrb hv
      obtain ⟨d, rfl⟩ : ∃ q, d = q + 1 := ⟨d - 1, by omega⟩
      have hn := hE.tkn
      have ar3 := hE.2.2.2.1 i
      obtain ⟨⟨s1, s2, s3, s4⟩, ⟨s5, s6, s7, s8⟩, hSF, hSV⟩ := hS
      obtain ⟨h8, h9, h10, h11, h12⟩ := hE.2.2.1
      have h7 := hE.2.1.2.2
      have h1 := hE.1.1
      have h2 := hE.1.2.1
      obtain ⟨p, hp⟩ : ∃ p, p = az_wr m 804 52 (i + 1) := ⟨_, rfl⟩
      obtain ⟨q, hq⟩ : ∃ q, q = az_wr n 804 52 (i + 1) := ⟨_, rfl⟩
      have up : bz_Upd m p lz_T := by rw [hp]; exact lz_Tw bz_Upd.refl (by unfold lz_T; omega)
      have uq : bz_Upd n q lz_T := by rw [hq]; exact lz_Tw bz_Upd.refl (by unfold lz_T; omega)
      have p49 : p.2 804 49 = c := by rw [hp, az_wr_ne (by omega)]; exact s1
      have q49 : q.2 804 49 = c' := by rw [hq, az_wr_ne (by omega)]; exact s2
      have adm := lz_adds (v := m.2 A i) (h1.upd up) (by omega) (by omega)
      have adn := lz_adds (v := m.2 A i) (h2.upd uq) (by omega) (by omega)
      rw [p49] at adm
      rw [q49] at adn
      obtain ⟨m0, hm0⟩ : ∃ m0, m0 = az_wr (az_wr (az_wr p 823 c (m.2 A i)) 825 c c) 804 49 (c + 1) := ⟨_, rfl⟩
      obtain ⟨n0, hn0⟩ : ∃ n0, n0 = az_wr (az_wr (az_wr q 823 c' (m.2 A i)) 825 c' c') 804 49 (c' + 1) := ⟨_, rfl⟩
      rw [← hm0] at adm
      rw [← hn0] at adn
      have um0 : bz_Upd m m0 lz_T := by rw [hm0]; exact lz_Tw (lz_Tw (lz_Tw up (by unfold lz_T; omega)) (by unfold lz_T; omega)) (by unfold lz_T; omega)
      have un0 : bz_Upd n n0 lz_T := by rw [hn0]; exact lz_Tw (lz_Tw (lz_Tw uq (by unfold lz_T; omega)) (by unfold lz_T; omega)) (by unfold lz_T; omega)
      have m0k : ∀ x k, ¬ (x = 804 ∧ (k = 49 ∨ k = 52)) → ¬ (x = 823 ∧ k = c) → x ≠ 825 → m0.2 x k = m.2 x k := fun x k z1 z2 z3 => by
        rw [hm0, az_wr_ne (by omega), az_wr_ne (by omega), az_wr_ne (by omega), hp, az_wr_ne (by omega)]
      have n0k : ∀ x k, ¬ (x = 804 ∧ (k = 49 ∨ k = 52)) → ¬ (x = 823 ∧ k = c') → x ≠ 825 → n0.2 x k = n.2 x k := fun x k z1 z2 z3 => by
        rw [hn0, az_wr_ne (by omega), az_wr_ne (by omega), az_wr_ne (by omega), hq, az_wr_ne (by omega)]
      have m0c : m0.2 823 c = m.2 A i := by rw [hm0, az_wr_ne (by omega), az_wr_ne (by omega), az_wr_same]
      have n0c : n0.2 823 c' = m.2 A i := by rw [hn0, az_wr_ne (by omega), az_wr_ne (by omega), az_wr_same]
      have Flt : ∀ x y, F x y → x < c ∧ y < c' := fun x y z => ⟨(hSF.1 x y z).1.2, (hSF.1 x y z).2.1.2⟩
      have S0 : sy_S m0 n0 F a b (c + 1) (c' + 1) := by
        refine ⟨⟨by rw [hm0, az_wr_same], by rw [hn0, az_wr_same], by omega, by omega⟩, by rw [m0k 804 50 (by omega) (by omega) (by omega), n0k 804 50 (by omega) (by omega) (by omega)]; omega, ?_, ?_⟩
        · refine hSF.cong (sy_tk um0) (by omega) (by omega) (fun x y z => ?_)
          have := Flt x y z
          exact ⟨m0k _ _ (by omega) (by omega) (by omega), n0k _ _ (by omega) (by omega) (by omega), fun k _ _ => ⟨m0k _ _ (by omega) (by omega) (by omega), n0k _ _ (by omega) (by omega) (by omega)⟩⟩
        · exact hSV.cong (fun _ _ z => z) (m0k _ _ (by omega) (by omega) (by omega)) (n0k _ _ (by omega) (by omega) (by omega)) (fun q _ _ => ⟨m0k _ _ (by omega) (by omega) (by omega), m0k _ _ (by omega) (by omega) (by omega), m0k _ _ (by omega) (by omega) (by omega)⟩) (fun q _ _ => ⟨n0k _ _ (by omega) (by omega) (by omega), n0k _ _ (by omega) (by omega) (by omega), n0k _ _ (by omega) (by omega) (by omega)⟩)
      have tk0 : bz_tk m0 (m.2 A i) = ar i := by rw [sy_tk um0]; exact mci.2
      have Sc0 : bz_Sc ar d ((ar i).toNat : Nat) (i + 1) := by
        have := hSc.2
        rw [show (((ar i).toNat : Nat) : Int) = 1 - 1 + ar i by omega]
        exact this
      obtain ⟨m', n', F', c1, c1', run, ⟨u1, w1, ⟨cc1, cc2, cc3⟩, S1, f1, g1, ⟨v1, v1'⟩, K1, K1'⟩, jj, r1, r1'⟩ := sy_args (N0 := d + 1) (fun e he => ihN e (by omega)) (ν := c) (ν' := c') (code := m.2 A i) (k9 := ar i) ar3.2 s3 s4 mci.1 (ar i).toNat d 2000000 m0 n0 F (c + 1) (c' + 1) 0 (i + 1) (by omega) (by omega) (hE.upd um0 un0) S0 (by push_cast at hc; omega) (by push_cast at hc'; omega) (by omega) (by omega) (fun x y z => by have := Flt x y z; omega) tk0 (by omega) (by omega) (by omega) (by push_cast at hie; omega) Sc0 (by rw [hm0, az_wr_ne (by omega), az_wr_ne (by omega), az_wr_ne (by omega), hp, az_wr_same]) (by rw [hn0, az_wr_ne (by omega), az_wr_ne (by omega), az_wr_ne (by omega), hq, az_wr_same]) (fun j j0 j1 => by omega)
      obtain ⟨⟨y1, y2, y3, y4⟩, y5, y6, y7⟩ := S1
      have F1n : ∀ x y, F' x y → x ≠ c ∧ y ≠ c' := fun x y z => by
        rcases g1 x y z with z | z
        · have := Flt x y z; omega
        · omega
      have mc' : m'.2 823 c = m.2 A i := by rw [K1.1 c ⟨s3, by omega⟩]; exact m0c
      have nc' : n'.2 823 c' = m.2 A i := by rw [K1'.1 c' ⟨s4, by omega⟩]; exact n0c
      refine ⟨m', n', fun x y => F' x y ∨ (x = c ∧ y = c'), c1, c1', c, c', fun Dm hD => ?_, ⟨um0.trans u1, un0.trans w1, ⟨by omega, by push_cast; omega, by omega⟩, ⟨⟨y1, y2, y3, y4⟩, y5, ⟨fun x y hxy => ?_, fun x y x' y' h h' => ?_⟩, y7.cong (fun _ _ z => Or.inl z) rfl rfl (fun q _ _ => ⟨rfl, rfl, rfl⟩) (fun q _ _ => ⟨rfl, rfl, rfl⟩)⟩, fun x y z => Or.inl (f1 x y z), fun x y z => ?_, ⟨fun x x0 x1 => ?_, fun y y0 y1 => ?_⟩, ?_, ?_⟩, Or.inr ⟨rfl, rfl⟩, by rw [r1]; push_cast; omega, by rw [r1']; push_cast; omega⟩
      · obtain ⟨D, rfl⟩ : ∃ q, Dm = q + 1 := ⟨Dm - 1, by omega⟩
        obtain ⟨z1, z2⟩ := run D (by omega)
        constructor
        · rw [lz_bld (x := m.2 A i) (by rw [hra]; exact bz_ard (by omega) (by omega)) (Or.inl rfl)]
          unfold fz_X11_builds_52
          rw [hra, az_w32_id (by omega) (by omega), ← hp, ez_isVarM.2 hv, Option.bind_some, if_pos rfl, adm, Option.bind_some]
          exact z1
        · rw [lz_bld (x := n.2 A i) (by rw [hrb]; exact bz_ard (by omega) (by omega)) (Or.inl rfl), h7]
          unfold fz_X11_builds_52
          rw [hrb, az_w32_id (by omega) (by omega), ← hq, ez_isVarM.2 hv, Option.bind_some, if_pos rfl, adn, Option.bind_some]
          exact z2
      · rcases hxy with hxy | ⟨rfl, rfl⟩
        · obtain ⟨t1, t2, t3, t4⟩ := y6.1 x y hxy
          exact ⟨t1, t2, t3, fun lt k k0 k1 => ⟨(t4 lt k k0 k1).1, Or.inl (t4 lt k k0 k1).2⟩⟩
        · refine ⟨⟨s3, by omega⟩, ⟨s4, by omega⟩, by rw [mc', nc'], fun lt k k0 k1 => ?_⟩
          rw [mc', sy_tk (um0.trans u1), mci.2] at k1
          exact ⟨by omega, Or.inl (jj k k0 k1)⟩
      · rcases h with h | ⟨rfl, rfl⟩
        · rcases h' with h' | ⟨rfl, rfl⟩
          · exact y6.2 x y x' y' h h'
          · have := F1n x y h; omega
        · rcases h' with h' | ⟨rfl, rfl⟩
          · have := F1n x' y' h'; omega
          · omega
      · rcases z with z | ⟨rfl, rfl⟩
        · rcases g1 x y z with z | z
          · exact Or.inl z
          · exact Or.inr (by omega)
        · exact Or.inr ⟨Int.le_refl _, Int.le_refl _⟩
      · by_cases z : x = c
        · exact ⟨c', Or.inr ⟨z, rfl⟩⟩
        · obtain ⟨y, hy⟩ := v1 x (by omega) x1
          exact ⟨y, Or.inl hy⟩
      · by_cases z : y = c'
        · exact ⟨c, Or.inr ⟨rfl, z⟩⟩
        · obtain ⟨x, hx⟩ := v1' y (by omega) y1
          exact ⟨x, Or.inl hx⟩
      · have K0 : sy_K m m0 c a (fun _ => False) := ⟨fun x hx => m0k _ _ (by omega) (by have := hx.2; omega) (by omega), fun x _ _ _ => m0k _ _ (by omega) (by omega) (by omega), by rw [m0k 804 50 (by omega) (by omega) (by omega)]; exact Int.le_refl _, fun q _ _ => ⟨m0k _ _ (by omega) (by omega) (by omega), m0k _ _ (by omega) (by omega) (by omega), m0k _ _ (by omega) (by omega) (by omega)⟩, fun q z0 z1 => by rw [m0k 804 50 (by omega) (by omega) (by omega)] at z1; omega⟩
        obtain ⟨b1, b2, b3, b4, b5⟩ := K1
        refine K0.trans (c1 := c) ⟨fun x hx => b1 x ⟨hx.1, by have := hx.2; omega⟩, fun x x0 x1 _ => b2 x x0 (by omega) (by omega), b3, b4, b5⟩ (Int.le_refl _) s5
      · have K0 : sy_K n n0 c' b (fun _ => False) := ⟨fun x hx => n0k _ _ (by omega) (by have := hx.2; omega) (by omega), fun x _ _ _ => n0k _ _ (by omega) (by omega) (by omega), by rw [n0k 804 50 (by omega) (by omega) (by omega)]; exact Int.le_refl _, fun q _ _ => ⟨n0k _ _ (by omega) (by omega) (by omega), n0k _ _ (by omega) (by omega) (by omega), n0k _ _ (by omega) (by omega) (by omega)⟩, fun q z0 z1 => by rw [n0k 804 50 (by omega) (by omega) (by omega)] at z1; omega⟩
        obtain ⟨b1, b2, b3, b4, b5⟩ := K1'
        refine K0.trans (c1 := c') ⟨fun x hx => b1 x ⟨hx.1, by have := hx.2; omega⟩, fun x x0 x1 _ => b2 x x0 (by omega) (by omega), b3, b4, b5⟩ (Int.le_refl _) s7
  exact fun d => main (d + 1) d (by omega)
end SZ
