/-! rewriting by what is given -/
section GW
variable {T s n : Int} {V : Int → Int → Prop} {Q : Int → Prop}
theorem gv_copy {σx : az_Hp} {r sz : Int} (hX : bz_Fx σx) (hc : bz_cap r = 30) (rb : 167 ≤ r ∧ r ≤ 190) (hs : σx.2 r 1 = sz) (s30 : sz ≤ 30) : ∀ (d k : Nat) (x : az_Hp) (j m : Int), d < k → 0 ≤ j → j + d = sz → bz_Upd σx x (yz_S 246) → x.2 246 1 = m → 0 ≤ m → m ≤ 60 → (m + d ≤ 60 → ∃ x', fz_X5_rewrite_88 2000000 k x 243 1 r 1 j = fz_X5_rewrite_181 2000000 x' 243 1 ∧ bz_Upd σx x' (yz_S 246) ∧ x'.2 246 1 = m + d ∧ (∀ i, 0 ≤ i → i < m → x'.2 247 i = x.2 247 i) ∧ ∀ i : Int, 0 ≤ i → i < (d : Int) → x'.2 247 (m + i) = σx.2 (r + 1) (j + i)) ∧ (60 < m + d → ∃ x', fz_X5_rewrite_88 2000000 k x 243 1 r 1 j = fz_X5_rewrite_181 2000000 x' 243 0 ∧ bz_Upd σx x' (yz_S 246)) := by
  have cap : bz_cap 246 = 60 := by decide
  intro d
  induction d with
  | zero =>
    intro k x j m hk j0 hj ux hm m0 m1
    obtain ⟨k, rfl⟩ : ∃ k', k = k' + 1 := ⟨k - 1, by omega⟩
    have e1 : x.2 r 1 = sz := by rw [ux.2.2 r 1 (fun z => by unfold yz_S at z; omega)]; exact hs
    refine ⟨fun _ => ⟨x, ?_, ux, by omega, fun i i0 i1 => rfl, fun i i0 i1 => by omega⟩, fun q => by omega⟩
    unfold fz_X5_rewrite_88
    rw [if_neg (by omega)]
  | succ d ih =>
    intro k x j m hk j0 hj ux hm m0 m1
    obtain ⟨k, rfl⟩ : ∃ k', k = k' + 1 := ⟨k - 1, by omega⟩
    have hX1 := hX.upd ux
    have e1 : x.2 r 1 = sz := by rw [ux.2.2 r 1 (fun z => by unfold yz_S at z; omega)]; exact hs
    have e2 : x.2 (r + 1) j = σx.2 (r + 1) j := ux.2.2 _ _ (fun z => by unfold yz_S at z; omega)
    have rw' := bz_fxR hX1 (show 0 < bz_cap r by omega)
    have gr : az_gref x r 0 = some (r + 1) := bz_gr rw'.1 (by omega)
    have rd : az_ard x (r + 1) j = some (σx.2 (r + 1) j) := by rw [bz_ard j0 (by omega), e2]
    have X := yz_add (r := 246) (c := σx.2 (r + 1) j) hX1 (by omega) (by omega) (by omega)
    have run : fz_X5_rewrite_88 2000000 (k + 1) x 243 1 r 1 j = (fz_X7_add x 246 (σx.2 (r + 1) j)).bind fun r4 => fz_X5_rewrite_88 2000000 k r4.2 243 1 r r4.1 (j + 1) := by
      conv => lhs; unfold fz_X5_rewrite_88
      rw [if_pos (by omega), if_neg (by decide), gr, Option.bind_some, rd, Option.bind_some, if_neg (by decide), fx_243_10 hX1, Option.bind_some, az_w32_id (z := j + 1) (by omega) (by omega)]
    by_cases c : m < 60
    · obtain ⟨x1, y1, y2, y3, y4, y5⟩ := X.1 (by omega)
      rw [y1, Option.bind_some] at run
      obtain ⟨i1, i2⟩ := ih k x1 (j + 1) (m + 1) (by omega) (by omega) (by omega) (ux.trans y2) (by omega) (by omega) (by omega)
      refine ⟨fun q => ?_, fun q => ?_⟩
      · obtain ⟨x', z1, z2, z3, z4, z5⟩ := i1 (by omega)
        refine ⟨x', run.trans z1, z2, by omega, fun i i0 i1 => ?_, fun i i0 i1 => ?_⟩
        · rw [z4 i i0 (by omega)]
          exact y4 i (by omega)
        · by_cases e : i = 0
          · subst e
            rw [Int.add_zero, Int.add_zero, z4 m m0 (by omega)]
            rw [hm] at y5
            exact y5
          · have := z5 (i - 1) (by omega) (by omega)
            rw [show m + 1 + (i - 1) = m + i by omega, show j + 1 + (i - 1) = j + i by omega] at this
            exact this
      · obtain ⟨x', z1, z2⟩ := i2 (by omega)
        exact ⟨x', run.trans z1, z2⟩
    · rw [X.2 (by omega), Option.bind_some] at run
      refine ⟨fun q => by omega, fun q => ⟨x, ?_, ux⟩⟩
      rw [run]
      obtain ⟨k, rfl⟩ : ∃ k', k = k' + 1 := ⟨k - 1, by omega⟩
      unfold fz_X5_rewrite_88
      rw [if_pos rfl]
      split <;> rfl
theorem gv_rewrite {σx σm : az_Hp} {g p : Int} (hQ0 : ∀ i, 0 ≤ i → i < n → Q (σm.2 840 i)) (hC : rz_C σx σm T s) (hR : rz_R σx σm T s V 244 840 n) (hG : gv_R σx σm T s V Q) (h70 : σm.2 804 70 = n) (h9 : σx.2 243 9 = g) (h8 : σx.2 243 8 = p) (h73 : σm.2 804 73 = p) (p0 : 0 ≤ p) (p1 : p < n) (g0 : 0 ≤ g) (g6 : g < 6) (g1 : g < σx.2 161 0) :
    ∃ v x' τ', fz_X5_rewrite 2000000 σx 243 = some (v, x') ∧ fz_X11_makes 2000000 σm 804 (100 + g) = some (v, τ') ∧ bz_Upd σm τ' yz_WM ∧ ((v = 0 ∧ bz_Upd σx x' (yz_S 246)) ∨ (v = 1 ∧ bz_Upd σx x' (fun a k => yz_S 246 a k ∨ yz_S 244 a k) ∧ ∃ m', yz_new (yz_rl σm T s V Q) x' τ' m')) := by
  have hH := hC.1
  have hX := hH.1
  have hM := hH.2.1
  have hT := hH.2.2.1.1
  have n60 := hR.2.2.1.2
  obtain ⟨q4, q72, ng, ⟨qn, -, -, -⟩, qr⟩ := hG
  obtain ⟨-, R1, R2, R3, R4, R5⟩ := qr g g0 (by omega)
  clear qr
  have uX : bz_Upd σx (az_wr σx 246 1 0) (yz_S 246) := bz_Upd.wr bz_Upd.refl (Or.inl ⟨rfl, rfl⟩) (by decide)
  have uM : bz_Upd σm (az_wr (az_wr σm 804 71 0) 804 74 0) yz_F := bz_Upd.wr (bz_Upd.wr bz_Upd.refl (Or.inr ⟨rfl, Or.inl rfl⟩) (by decide)) (Or.inr ⟨rfl, Or.inr rfl⟩) (by decide)
  have hX1 := hX.upd uX
  have hM1 := hM.upd uM
  have l840 := ln_840 hM1
  have s244 : σx.2 244 1 = n := hR.2.1
  have ok0 : yz_ok (yz_rl σm T s V Q) (az_wr σx 246 1 0) (az_wr (az_wr σm 804 71 0) 804 74 0) 0 := ⟨az_wr_same, by rw [az_wr_ne (by omega)]; exact az_wr_same, by omega, by omega, az_wr_same, fun i i0 i1 => by omega⟩
  obtain ⟨v, xa, τa, a1, a2, a3, a4, a5⟩ := yz_app (Rl := yz_rl σm T s V Q) (q := 244) (a := 0) (b := p) (A := 840) (o := 0) hX1 hM1 (by decide) (by decide) (by rw [az_wr_ne (by omega), s244]; exact n60) (by omega) (by omega) (by rw [az_wr_ne (by omega)]; omega) ⟨by decide, by decide⟩ (by omega) (by omega) (by omega) ok0 (fun i i0 i1 => by
    rw [az_wr_ne (by omega), az_wr_ne (by omega), az_wr_ne (by omega), Int.zero_add, show (244 : Int) + 1 = 245 from rfl]
    exact ⟨hR.2.2.2.1 i i0 (by omega), hQ0 i i0 (by omega)⟩)
  rw [show p - 0 = p by omega] at a2
  rw [show 0 + (p - 0) = p by omega] at a5
  have ua := uM.trans a4
  have uxa := uX.trans a3
  have hXa := hX.upd uxa
  have hMa := hM.upd ua
  obtain ⟨c, c0, c1, c2⟩ := yz_P.pre hR.2.2.2.2.1 p.toNat (by omega)
  rw [show ((p.toNat : Nat) : Int) = p by omega] at c1 c2
  obtain ⟨z, d2, ed, z1, z2⟩ := bz_Sc.split bz_ra0 (c1 := 1) (c2 := c - 1) (i := p) (by omega) (by omega) (by rw [show 1 + (c - 1) = c by omega]; exact c1)
  have hc := ((wq_cap g0).1 (by omega)).2
  have l849 := ln_849 hMa
  have l851 := ln_851 hMa
  have e849 : ∀ i, τa.2 849 i = σm.2 849 i := fun i => ua.2.2 _ _ (fun z => by unfold yz_F at z; omega)
  have e851 : τa.2 851 g = σm.2 851 g := ua.2.2 _ _ (fun z => by unfold yz_F at z; omega)
  have eR : ∀ k, xa.2 (169 + 4 * g + 1) k = σx.2 (169 + 4 * g + 1) k := fun k => uxa.2.2 _ _ (fun z => by unfold yz_S at z; omega)
  have runX : fz_X5_rewrite 2000000 σx 243 = fz_X5_rewrite_88 2000000 2000000 xa 243 1 (169 + 4 * g) v 0 := by
    unfold fz_X5_rewrite
    rw [h9, if_neg (by omega)]
    unfold fz_X5_rewrite_13
    rw [if_neg (by decide)]
    unfold fz_X5_rewrite_28
    rw [if_neg (by decide), fx_243_1 hX, Option.bind_some, fx_161_4 hX, Option.bind_some, h9, ((wq_arr hX g0).1 (by omega)).2, Option.bind_some]
    unfold fz_X5_rewrite_59
    rw [fx_243_10 hX, Option.bind_some, fx_243_10 hX1, Option.bind_some, fx_243_3 hX1, Option.bind_some, az_wr_ne (a := 246) (b := 243) (by omega), h8, a1, Option.bind_some]
  have runM : ∀ τ', fz_X11_follows 2000000 τa 804 849 (30 * g) (σm.2 851 g) = some τ' → fz_X11_makes 2000000 σm 804 (100 + g) = fz_X11_makes_170 2000000 τ' 804 p := by
    intro τ' h
    unfold fz_X11_makes
    rw [fx_804_68 hM1, Option.bind_some, h73, a2, Option.bind_some, if_neg (by omega), fx_804_89 hMa, Option.bind_some, fx_804_91 hMa, Option.bind_some, az_w32_id (z := 100 + g - 100) (by omega) (by omega), show 100 + g - 100 = g by omega, bz_ard g0 (by omega), Option.bind_some, e851, az_w32_id (z := 30 * g) (by omega) (by omega), h, Option.bind_some]
  have fin : ∀ (v3 m : Int) (x τ : az_Hp), fz_X5_rewrite_88 2000000 2000000 xa 243 1 (169 + 4 * g) v 0 = fz_X5_rewrite_181 2000000 x 243 v3 → fz_X11_follows 2000000 τa 804 849 (30 * g) (σm.2 851 g) = some τ → bz_Upd σx x (yz_S 246) → bz_Upd σm τ yz_F → ((v3 = 1 ∧ yz_ok (yz_rl σm T s V Q) x τ m ∧ yz_P (bz_ra x 246) m (c - 1)) ∨ (v3 = 0 ∧ yz_no τ)) → ∃ v x' τ', fz_X5_rewrite 2000000 σx 243 = some (v, x') ∧ fz_X11_makes 2000000 σm 804 (100 + g) = some (v, τ') ∧ bz_Upd σm τ' yz_WM ∧ ((v = 0 ∧ bz_Upd σx x' (yz_S 246)) ∨ (v = 1 ∧ bz_Upd σx x' (fun a k => yz_S 246 a k ∨ yz_S 244 a k) ∧ ∃ m', yz_new (yz_rl σm T s V Q) x' τ' m')) := by
    intro v3 m x τ h1 h2 ux um st
    obtain ⟨v', x', τ', t1, t2, t3, t4⟩ := yz_end hQ0 hH hR h70 h8 p0 z1 z2 (by omega) ux um st
    exact ⟨v', x', τ', by rw [runX, h1, t1], by rw [runM τ h2, t2], t3.weak fun _ _ z => Or.inl z, t4⟩
  rcases a5 with ⟨rfl, ok, b1, b2⟩ | ⟨rfl, no⟩
  · obtain ⟨o1, o2, o3, o4, o5, o6⟩ := ok
    have F := yz_fol (σ := τa) (A := 849) (o := 30 * g) (n := σm.2 851 g) hMa ⟨by decide, by decide⟩ (by omega) (by omega) (by omega) (by omega) (by omega) (by omega)
    rw [o2] at F
    have Cp := gv_copy (r := 169 + 4 * g) (sz := σm.2 851 g) hX hc (by omega) R2 (by omega) (σm.2 851 g).toNat 2000000 xa 0 p (by omega) (by omega) (by omega) uxa o1 p0 o4
    by_cases cc : p + σm.2 851 g ≤ 60
    · obtain ⟨τ, f1, f2, f3, f4, f5⟩ := F.1 cc
      obtain ⟨x, y1, y2, y3, y4, y5⟩ := Cp.1 (by omega)
      refine fin 1 (p + σm.2 851 g) x τ y1 f1 y2 (ua.trans f2) (Or.inl ⟨rfl, ⟨by omega, f3, by omega, cc, by omega, fun i i0 i1 => ?_⟩, ?_⟩)
      · rw [f5 i i0 i1]
        by_cases ci : i < p
        · rw [if_pos ci, y4 i i0 ci]
          exact o6 i i0 ci
        · rw [if_neg ci, e849]
          have := y5 (i - p) (by omega) (by omega)
          rw [show p + (i - p) = i by omega, Int.zero_add] at this
          rw [this]
          exact R4 (i - p) (by omega) (by omega)
      · have hP : yz_P (bz_ra xa 246) p (1 + (c - 1)) := by
          rw [show 1 + (c - 1) = c by omega]
          refine c2.cong (fun i i0 i1 => ?_)
          unfold bz_ra
          have := b2 i i0 (by omega)
          rw [Int.zero_add, az_wr_ne (by omega)] at this
          rw [show (246 : Int) + 1 = 247 from rfl, this]
        have := hP.part (a' := bz_ra x 246) (z := (σm.2 851 g).toNat) p0 (by omega) (fun i i0 i1 => by unfold bz_ra; rw [show (246 : Int) + 1 = 247 from rfl, y4 i i0 i1]) (bz_Sc.shift (fun j j0 j1 => by
          unfold bz_ra
          rw [show (246 : Int) + 1 = 247 from rfl, y5 j j0 j1]) R5)
        rw [show p + (((σm.2 851 g).toNat : Nat) : Int) = p + σm.2 851 g by omega] at this
        exact this
    · obtain ⟨τ, f1, f2, f3, f4⟩ := F.2 (by omega)
      obtain ⟨x, y1, y2⟩ := Cp.2 (by omega)
      exact fin 0 0 x τ y1 f1 y2 (ua.trans f2) (Or.inr ⟨rfl, f3, f4⟩)
  · obtain ⟨τ, f1, f2, f3⟩ := yz_noF (σm := τa) (A := 849) (o := 30 * g) (n := σm.2 851 g) hMa ⟨by decide, by decide⟩ (by omega) (by omega) (by omega) (by omega) no
    refine fin 0 0 xa τ ?_ f1 uxa (ua.trans f2) (Or.inr ⟨rfl, f3⟩)
    show fz_X5_rewrite_88 2000000 (1999999 + 1) xa 243 1 (169 + 4 * g) 0 0 = _
    unfold fz_X5_rewrite_88
    rw [if_pos rfl]
    split <;> rfl
end GW
