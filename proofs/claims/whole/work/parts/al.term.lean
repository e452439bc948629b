/-! a TERM is read -/
section TQ
variable {tp : Int → Int} {N : Int} {md r T s : Int} {J : Nat}
theorem rd_term (hr : 0 < bz_cap r) : ∀ (d : Nat) (x m : az_Hp) (j : Nat) (nv nu sz K D en : Int) (k DD : Nat), J - j < d → rd_B tp N x m md r T s J j nv nu sz 1 → rd_Occ m md nv sz → (md = 0 → sz = 0 → nv = 0) → yz_P (bz_ra x r) sz (1 + K) → 0 ≤ K → 0 ≤ D → D ≤ sz → (D = 0 ↔ sz = 0) → (D = 0 → en = rd_en md) → 61 < (k : Int) + sz → 100 ≤ (DD : Int) + sz →
    rd_Bad r x m (fz_X4_readSide_15 2000000 k x 223 r D sz) (fz_X11_readTerm 2000000 DD m 804 en (rd_first1 sz) (rd_must md sz)) ∨ rd_Ok tp N md r T s J x m j sz K D k (fz_X4_readSide_15 2000000 k x 223 r D sz) (fz_X11_readTerm 2000000 DD m 804 en (rd_first1 sz) (rd_must md sz)) := by
  intro d
  induction d with
  | zero => intro x m j nv nu sz K D en k DD h; exact absurd h (Nat.not_lt_zero _)
  | succ d ih =>
    intro x m j nv nu sz K D en k DD hj hB hO hfst hP K0 D0 Ds Diff hen hk hDD
    have c60 := @bz_cap60 r
    have rlt := bz_cap_lt hr
    have rn := rd_capn hr
    have w3 := hB.2.2.2.2.2.2.2.2.1
    have hC := hB.2.1
    have jJ := hC.2.1
    obtain ⟨k, rfl⟩ : ∃ q, k = q + 1 := ⟨k - 1, by omega⟩
    obtain ⟨DD, rfl⟩ : ∃ q, DD = q + 1 := ⟨DD - 1, by omega⟩
    have h8 : x.2 223 8 = lx_kj tp N j := hC.2.2.1.2.1
    have eB : fz_X11_readTerm 2000000 (DD + 1) m 804 en (rd_first1 sz) (rd_must md sz) = fz_X11_readTerm_e 2000000 (fz_X11_readTerm 2000000 DD) m 804 en (rd_first1 sz) (rd_must md sz) := rfl
    have eA : fz_X4_readSide_15 2000000 (k + 1) x 223 r D sz = fz_X4_readSide_36 2000000 (fz_X4_readSide_15 2000000 k) x 223 r D sz (if lx_kj tp N j = 2 then 1 else 0) := by
      conv => lhs; unfold fz_X4_readSide_15
      rw [if_pos (by omega), h8]
      split <;> rfl
    have bad36 : ∀ w x', fz_X4_readNode 2000000 x 223 r = some (0, x') → fz_X4_readSide_36 2000000 (fz_X4_readSide_15 2000000 k) x 223 r D sz w = some (0, x') := fun w x' hx => by
      unfold fz_X4_readSide_36
      rw [hx, Option.bind_some, if_pos rfl]
    have notJ : lx_kj tp N j ≠ 0 → lx_kj tp N j ≠ 1 → j < J := fun n0 n1 => by
      by_cases e : j = J
      · exfalso
        subst e
        rcases hC.1.2.2.2.2 with q | q
        · exact n0 q
        · exact n1 q
      · omega
    have leaf : ∀ (x' m' : az_Hp) (j' : Nat) (nv' nu' c : Int), lx_kj tp N j ≠ 2 → fz_X4_readNode 2000000 x 223 r = some (1, x') → rd_B tp N x' m' md r T s J j' nv' nu' (sz + 1) 0 → rd_Occ m' md nv' (sz + 1) → bz_Upd x x' (rd_SX r) → bz_Upd m m' rd_SM → x'.2 (r + 1) sz = c → bz_ar c = 0 → (∀ i, i < sz → x'.2 (r + 1) i = x.2 (r + 1) i) → rd_F2 x m x' m' → j < j' → (md = 1 → m'.2 804 37 = m.2 804 37) → rd_Ok tp N md r T s J x m j sz K D (k + 1) (fz_X4_readSide_36 2000000 (fz_X4_readSide_15 2000000 k) x 223 r D sz (if lx_kj tp N j = 2 then 1 else 0)) (some (1, m')) := by
      intro x' m' j' nv' nu' c n2 p1 p3 p4 p5 p6 p7 pa p8 pf pj pv
      have P1 := yz_P.one (a' := bz_ra x' r) w3.1 hP (by omega) (fun i i0 i1 => by unfold bz_ra; rw [p8 i i1])
      rw [show bz_ra x' r sz = 0 by unfold bz_ra; rw [p7]; exact pa, show 1 + K - 1 + 0 = K by omega] at P1
      refine ⟨x', m', j', nv', nu', sz + 1, k, ?_, rfl, p3, p4, P1, fun i _ => pf.1 i, p5, p6, pj, by omega, by push_cast; omega, pv, pf.2⟩
      rw [if_neg n2, rd_36 (k15 := fz_X4_readSide_15 2000000 k) (D := D) (w0 := 0) hr p1 p3 w3.1 p7, if_neg (by omega), if_pos rfl, show sz + 1 - 1 = sz by omega]
    rw [eB, eA]
    by_cases k2 : lx_kj tp N j = 2
    · rw [if_pos k2]
      rcases rd_nodeName (rc := fz_X11_readTerm 2000000 DD) (en := en) hB hr k2 hO with ⟨x', m', b1, b2, b3, b4, b5⟩ | ⟨x', m', c, p1, p2, p3, p4, p5, p6, p7, p8, p9, p10⟩
      · exact Or.inl ⟨x', m', bad36 _ _ b1, b2, b3, b4, b5⟩
      · have e36 := rd_36 (k15 := fz_X4_readSide_15 2000000 k) (D := D) (w0 := 1) hr p1 p3 w3.1 p7
        rw [e36, p2]
        have ar := bz_ar_rng (c := c)
        have P1 := yz_P.one (a' := bz_ra x' r) w3.1 hP (by omega) (fun i i0 i1 => by unfold bz_ra; rw [p8 i i1])
        rw [show bz_ra x' r sz = bz_ar c by unfold bz_ra; rw [p7], show 1 + K - 1 + bz_ar c = bz_ar c + K by omega] at P1
        have hC' := p3.2.1
        have x8 : x'.2 223 8 = lx_kj tp N (j + 1) := hC'.2.2.1.2.1
        have s40 := lx_sign (c := 40) hC' (by decide)
        have jb := notJ (by omega) (by omega)
        unfold fz_X11_readArguments
        rw [s40, Option.bind_some, Option.bind_some, x8]
        by_cases a0 : bz_ar c = 0
        · rw [if_neg (show ¬ 0 < bz_ar c by omega), if_neg (show ¬ (1 : Int) = 0 by decide), if_pos a0]
          by_cases c40 : lx_kj tp N (j + 1) = 40
          · left
            rw [if_pos c40, if_pos c40, if_neg (show ¬ (1 : Int) = 0 by decide)]
            obtain ⟨x2, m2, b1, b2, b3, b4, b5⟩ := lx_fail hC' 5
            exact rd_Bad.from p5 p6 ⟨x2, m2, by rw [b1, rd_wrap0], by rw [b2, Option.bind_some, if_pos rfl, rd_wrap0], b3.weak fun a k z => Or.inl (by omega), b4.weak fun a k z => Or.inr z, b5⟩
          · right
            rw [if_neg c40, if_neg c40, if_pos rfl, rd_wrap]
            have P2 := P1
            rw [a0, Int.zero_add] at P2
            exact ⟨x', m', j + 1, nv, nu, sz + 1, k, by rw [show sz + 1 - 1 = sz by omega], rfl, p3.weak (by omega), p4, P2, fun i _ => p10.1 i, p5, p6, by omega, by omega, by push_cast; omega, fun _ => by rw [p3.2.2.2.2.1.1, hB.2.2.2.2.1.1], p10.2⟩
        · rw [if_pos (show 0 < bz_ar c by omega), if_neg a0]
          by_cases c40 : lx_kj tp N (j + 1) = 40
          · rw [if_pos c40, if_pos (show D < 60 by omega), if_pos c40, if_neg (show ¬ (1 : Int) = 0 by decide)]
            have hX' := p3.1.1
            obtain ⟨y, hy⟩ : ∃ y, y = az_wr (az_wr x' 229 D (bz_ar c)) 230 D 0 := ⟨_, rfl⟩
            have hXa : bz_Fx (az_wr x' 229 D (bz_ar c)) := hX'.upd (S := fun _ _ => True) (bz_Upd.wr bz_Upd.refl trivial (by unfold bz_isFix; simp [bz_cap, bz_fixL, bz_rowsL]))
            have uy : bz_Upd x' y rd_FX := by rw [hy]; exact bz_Upd.wr (bz_Upd.wr bz_Upd.refl (Or.inr (Or.inl rfl)) (by unfold bz_isFix; simp [bz_cap, bz_fixL, bz_rowsL])) (Or.inr (Or.inr rfl)) (by unfold bz_isFix; simp [bz_cap, bz_fixL, bz_rowsL])
            have uy' : bz_Upd x' y (rd_SX r) := uy.weak fun a k z => by
              rcases z with z | z | z
              · exact Or.inl ⟨z.1, by omega⟩
              · exact Or.inr (Or.inr (Or.inr (Or.inr (Or.inr (Or.inl z)))))
              · exact Or.inr (Or.inr (Or.inr (Or.inr (Or.inr (Or.inr z)))))
            have Cy : lx_Cur y m' tp N J (j + 1) := hC'.upd uy (bz_Upd.refl (S := fun _ _ => False)) (fun a k z => by unfold rd_FX at z; unfold lx_KX; omega) (fun a k z => z.elim)
            have By : rd_B tp N y m' md r T s J (j + 1) nv nu (sz + 1) 1 := p3.upd hr uy (bz_Upd.refl (S := fun _ _ => False)) Cy (fun a k z => Or.inl z) (fun a k z => z.elim) (fun _ z => z)
            obtain ⟨x3, m3, n1, n2, B3, un1, un2⟩ := rd_step By hr (by omega) (by omega)
            have un1' : bz_Upd y x3 (rd_SX r) := un1.weak fun a k z => Or.inl (by unfold lx_nX at z; omega)
            have un2' : bz_Upd m' m3 rd_SM := un2.weak fun a k z => Or.inl (by unfold lx_S at z; omega)
            have w229 : ∀ i, x3.2 229 i = (az_wr (az_wr x' 229 D (bz_ar c)) 230 D 0).2 229 i := fun i => by rw [un1.2.2 229 i (fun z => by unfold lx_nX at z; omega), hy]
            have w230 : ∀ i, x3.2 230 i = (az_wr (az_wr x' 229 D (bz_ar c)) 230 D 0).2 230 i := fun i => by rw [un1.2.2 230 i (fun z => by unfold lx_nX at z; omega), hy]
            have goX : ((az_gref x' 223 13).bind fun x6 => ((az_awr x' x6 D (bz_ar c)).bind fun s7 => ((az_gref s7 223 14).bind fun x8 => ((az_awr s7 x8 D 0).bind fun s9 => ((fz_X4_next s9 223).bind fun r10 => fz_X4_readSide_15 2000000 k r10 223 r (az_w32 (D + 1)) (az_w32 (sz + 1))))))) = fz_X4_readSide_15 2000000 k x3 223 r (D + 1) (sz + 1) := by
              rw [fx_223_13 hX', Option.bind_some, bz_awr D0 (by rw [ln_229 hX']; omega), Option.bind_some, fx_223_14 hXa, Option.bind_some, bz_awr D0 (by rw [ln_230 hXa]; omega), Option.bind_some, ← hy, n1, Option.bind_some, az_w32_id (z := D + 1) (by omega) (by omega), az_w32_id (z := sz + 1) (by omega) (by omega)]
            rw [goX, n2, Option.bind_some]
            have I := rd_args (tp := tp) (N := N) (md := md) (T := T) (s := s) (J := J) hr (DD := DD) (d := d - 1) (fun x m j nv nu sz K D k h1 h2 h3 h4 h5 h6 h7 h8 h9 h10 => by
                have R := ih x m j nv nu sz K D (-1) k DD (by omega) h2 h3 (fun _ z => by omega) h4 h5 (by omega) h7 ⟨fun z => by omega, fun z => by omega⟩ (fun z => by omega) h9 h10
                rw [show rd_first1 sz = 1 by unfold rd_first1; rw [if_neg (by omega)], show rd_must md sz = 0 by unfold rd_must; rw [if_neg (fun z => by omega)]] at R
                exact R) (bz_ar c - 1).toNat 2000000 x3 m3 (j + 1 + 1) nv nu (sz + 1) K D 0 (bz_ar c) k (by omega) (by omega) (by omega) (by omega) (by omega) (B3.weak (by omega)) (fun z b b0 b1 => by
                obtain ⟨i, i1, i2, i3⟩ := p4 z b b0 b1
                exact ⟨i, i1, i2, by rw [un2.2.2 820 i (fun z => by unfold lx_S at z; omega)]; exact i3⟩) (by
                rw [show ((bz_ar c - 1).toNat : Int) + 1 + K = bz_ar c + K by omega]
                exact P1.cong (fun i i0 i1 => by
                  unfold bz_ra
                  rw [un1.2.2 (r + 1) i (fun z => by unfold lx_nX at z; omega), uy.2.2 (r + 1) i (fun z => by unfold rd_FX at z; omega)])) K0 D0 (by omega) (by omega) (by rw [w229, az_wr_ne (by omega), az_wr_same]) (by rw [w230, az_wr_same]) (by push_cast at hk; omega) (by push_cast at hDD; omega)
            rcases I with ⟨x4, m4, b1, b2, b3, b4, b5⟩ | ⟨x4, m4, j4, nv4, nu4, sz4, k4, t1, t2, t3, t4, t5, t6, t7, t8, t9, t10, t11, t12⟩
            · left
              exact rd_Bad.from ((p5.trans uy').trans un1') (p6.trans un2') ⟨x4, m4, b1, by rw [b2, rd_wrap0], b3, b4, b5⟩
            · right
              refine ⟨x4, m4, j4, nv4, nu4, sz4, k4, t1, by rw [t2, rd_wrap], t3, t4, t5, fun i hi => ?_, ((p5.trans uy').trans un1').trans t7, (p6.trans un2').trans t8, by omega, by omega, by push_cast; omega, fun z => by rw [t12.1 z, un2.2.2 804 37 (fun z => by unfold lx_S at z; omega), p3.2.2.2.2.1.1, hB.2.2.2.2.1.1], ((p10.2.trans (rd_Mo.upd uy (bz_Upd.refl (S := fun _ _ => False)) (fun k z => by unfold rd_FX at z; omega) (fun a k z => z.elim))).trans (rd_Mo.upd un1 un2 (fun k z => by unfold lx_nX at z; omega) (fun a k z => by unfold lx_S at z; omega))).trans t12.2⟩
              obtain ⟨q1, q2⟩ := t6 i hi
              rw [q1, q2, w229, w230, az_wr_ne (by omega), az_wr_ne (by omega), az_wr_ne (by omega), az_wr_ne (by omega)]
              exact p10.1 i
          · left
            rw [if_neg c40, if_neg c40, if_pos rfl]
            obtain ⟨x2, m2, b1, b2, b3, b4, b5⟩ := rd_84 (D := D) (en := en) (inn := rd_first1 sz) p3 D0 (by
              unfold rd_first1
              by_cases z : sz = 0
              · rw [if_pos z, if_pos (Diff.mpr z)]
              · rw [if_neg z, if_neg (fun y => z (Diff.mp y))]) hen
            exact rd_Bad.from p5 p6 ⟨x2, m2, b1, by rw [b2, rd_wrap0], b3, b4, b5⟩
    · by_cases k3 : lx_kj tp N j = 3 ∧ rd_nr (lx_vj tp N j) = true
      · rcases rd_nodeVar (rc := fz_X11_readTerm 2000000 DD) (en := en) hB hr k3.1 k3.2 hO hfst with ⟨x', m', b1, b2, b3, b4, b5⟩ | ⟨x', m', nv', c, p1, p2, p3, p4, p5, p6, p7, pa, p8, p9, p10, p11⟩
        · exact Or.inl ⟨x', m', bad36 _ _ b1, b2, b3, b4, b5⟩
        · right
          rw [p2]
          exact leaf x' m' (j + 1) nv' nu c k2 p1 p3 p4 p5 p6 p7 pa p8 p10 (by omega) (fun z => by rw [p3.2.2.2.2.1.1, hB.2.2.2.2.1.1]; exact p11 z)
      · by_cases k63 : lx_kj tp N j = 63 ∧ 3 ≤ md
        · rcases rd_nodeUnk (rc := fz_X11_readTerm 2000000 DD) (en := en) hB hr k63.1 k63.2 with ⟨x', m', b1, b2, b3, b4, b5⟩ | ⟨x', m', nu', c, p1, p2, p3, p5, p6, p7, pa, p8, p9, p10, p11⟩
          · exact Or.inl ⟨x', m', bad36 _ _ b1, b2, b3, b4, b5⟩
          · right
            rw [p2]
            exact leaf x' m' (j + 2) nv nu' c k2 p1 p3 (fun z => by omega) p5 p6 p7 pa p8 p10 (by omega) (fun z => by omega)
        · left
          obtain ⟨x', m', b1, b2, b3, b4, b5⟩ := rd_nodeOther (rc := fz_X11_readTerm 2000000 DD) (en := en) hB k2 k3 k63
          exact ⟨x', m', bad36 _ _ b1, b2, b3, b4, b5⟩
end TQ
