/-! a whole TERM is read, side by side -/
theorem rd_cf : ∀ (d k k' : Nat) (x : az_Hp) (v2 : Int), v2 + 1 = d → d < k → d < k' → v2 < 100 → fz_X4_closeFrames_4 2000000 k x 223 v2 = fz_X4_closeFrames_4 2000000 k' x 223 v2 := by
  intro d
  induction d with
  | zero =>
    intro k k' x v2 hv hk hk' h1
    obtain ⟨k, rfl⟩ : ∃ q, k = q + 1 := ⟨k - 1, by omega⟩
    obtain ⟨k', rfl⟩ : ∃ q, k' = q + 1 := ⟨k' - 1, by omega⟩
    unfold fz_X4_closeFrames_4
    rw [if_pos (by omega), if_pos (by omega)]
  | succ d ih =>
    intro k k' x v2 hv hk hk' h1
    obtain ⟨k, rfl⟩ : ∃ q, k = q + 1 := ⟨k - 1, by omega⟩
    obtain ⟨k', rfl⟩ : ∃ q, k' = q + 1 := ⟨k' - 1, by omega⟩
    have w : az_w32 (v2 + -1) = v2 - 1 := by rw [az_w32_id (by omega) (by omega)]; omega
    have key : ∀ y, fz_X4_closeFrames_50 2000000 (fz_X4_closeFrames_4 2000000 k) y 223 v2 = fz_X4_closeFrames_50 2000000 (fz_X4_closeFrames_4 2000000 k') y 223 v2 := fun y => by
      have q : ∀ z, fz_X4_closeFrames_4 2000000 k z 223 (v2 - 1) = fz_X4_closeFrames_4 2000000 k' z 223 (v2 - 1) := fun z => ih k k' z (v2 - 1) (by push_cast at hv; omega) (by omega) (by omega) (by omega)
      unfold fz_X4_closeFrames_50
      simp only [w, q]
    conv => lhs; unfold fz_X4_closeFrames_4
    conv => rhs; unfold fz_X4_closeFrames_4
    simp only [key]
section TM
variable {tp : Int → Int} {N : Int} {md r T s : Int} {J : Nat}
theorem rd_Bad.from {x m x1 m1 : az_Hp} {A B : Option (Int × az_Hp)} (ux : bz_Upd x x1 (rd_SX r)) (um : bz_Upd m m1 rd_SM) (h : rd_Bad r x1 m1 A B) : rd_Bad r x m A B := by
  obtain ⟨x', m', a, b, c, d, e⟩ := h
  exact ⟨x', m', a, b, ux.trans c, (um.weak fun _ _ z => Or.inl z).trans d, e⟩
/-- the sign that ends a TERM that isn't an ARGUMENT -/
def rd_en (md : Int) : Int := if md = 2 then -1 else if md = 0 ∨ md = 3 ∨ md = 5 then 61 else 59
def rd_Ok (tp : Int → Int) (N md r T s : Int) (J : Nat) (x m : az_Hp) (j : Nat) (sz K D : Int) (k : Nat) (A B : Option (Int × az_Hp)) : Prop := ∃ (x' m' : az_Hp) (j' : Nat) (nv' nu' sz' : Int) (k' : Nat), A = fz_X4_readSide_147 2000000 (fz_X4_readSide_15 2000000 k') x' 223 r D (sz' - 1) ∧ B = some (1, m') ∧ rd_B tp N x' m' md r T s J j' nv' nu' sz' 0 ∧ rd_Occ m' md nv' sz' ∧ yz_P (bz_ra x' r) sz' K ∧ (∀ i, i < D → x'.2 229 i = x.2 229 i ∧ x'.2 230 i = x.2 230 i) ∧ bz_Upd x x' (rd_SX r) ∧ bz_Upd m m' rd_SM ∧ j < j' ∧ sz < sz' ∧ (k : Int) + sz ≤ k' + sz' ∧ (md = 1 → m'.2 804 37 = m.2 804 37) ∧ rd_Mo x m x' m'
theorem rd_codeI {x m : az_Hp} {j : Nat} {nv nu sz e i : Int} (h : rd_B tp N x m md r T s J j nv nu sz e) (i0 : 0 ≤ i) (i1 : i < sz) : bz_I (x.2 (r + 1) i) := by
  obtain ⟨-, -, hN, -, ⟨v1, v2, v3, v4, v5⟩, -, ⟨w1, w2, w3, w4⟩⟩ := h
  exact (w4 i i0 i1).1.I hN.2.2.2.2.1 (rd_VV v3 v2.2 (fun z => by have := v4 (by omega); omega))
/-- what comes behind a node of the class -/
theorem rd_36 {x x' : az_Hp} {m' : az_Hp} {j' : Nat} {nv nu sz D w0 e c : Int} {k15 : az_Hp → Int → Int → Int → Int → Option (Int × az_Hp)} (hr : 0 < bz_cap r) (hn : fz_X4_readNode 2000000 x 223 r = some (1, x')) (B : rd_B tp N x' m' md r T s J j' nv nu (sz + 1) e) (s0 : 0 ≤ sz) (hc : x'.2 (r + 1) sz = c) : fz_X4_readSide_36 2000000 k15 x 223 r D sz w0 = (if 0 < bz_ar c then (if (x'.2 223 8) = 40 then (if D < 60 then ((az_gref x' 223 13).bind fun x6 => ((az_awr x' x6 D (bz_ar c)).bind fun s7 => ((az_gref s7 223 14).bind fun x8 => ((az_awr s7 x8 D 0).bind fun s9 => ((fz_X4_next s9 223).bind fun r10 => k15 r10 223 r (az_w32 (D + 1)) (az_w32 (sz + 1))))))) else fz_X4_readSide_84 2000000 x' 223 D) else fz_X4_readSide_84 2000000 x' 223 D) else (if w0 = 0 then fz_X4_readSide_147 2000000 k15 x' 223 r D sz else (if (x'.2 223 8) = 40 then ((fz_X4_fail x' 223 5).bind fun r5 => (if r5.1 = 0 ∨ r5.1 = 1 then some (r5.1, r5.2) else none)) else fz_X4_readSide_147 2000000 k15 x' 223 r D sz))) := by
  have hX := B.1.1
  have fR := bz_fxR hX hr
  have rlt := bz_cap_lt hr
  have gr : az_gref x' r 0 = some (r + 1) := bz_gr fR.1 (by omega)
  obtain ⟨w1, w2, w3, w4⟩ := B.2.2.2.2.2.2
  have hI := rd_codeI B s0 (by omega)
  rw [hc] at hI
  unfold fz_X4_readSide_36
  rw [hn, Option.bind_some, if_neg (show ¬ (1 : Int) = 0 by decide), gr, Option.bind_some, w1, az_w32_id (z := sz + 1 - 1) (by have := @bz_cap60 r; omega) (by have := @bz_cap60 r; omega), show sz + 1 - 1 = sz by omega, bz_ard s0 (by rw [fR.2]; omega), Option.bind_some, hc, bz_arity hI, Option.bind_some]
/-- where a TERM should go on and doesn't -/
theorem rd_84 {x m : az_Hp} {j : Nat} {nv nu sz D e : Int} (h : rd_B tp N x m md r T s J j nv nu sz e) (D0 : 0 ≤ D) {en inn : Int} (hin : inn = if D = 0 then 0 else 1) (hen : D = 0 → en = rd_en md) : ∃ x' m', fz_X4_readSide_84 2000000 x 223 D = some (0, x') ∧ ((fz_X11_mayEnd m 804 en inn).bind fun r3 => (if r3 = 0 then ((fz_X11_bad m 804 2).bind fun r4 => (if r4.1 = 0 ∨ r4.1 = 1 then some (r4.1, r4.2) else none)) else ((fz_X11_bad m 804 5).bind fun r5 => (if r5.1 = 0 ∨ r5.1 = 1 then some (r5.1, r5.2) else none)))) = some (0, m') ∧ bz_Upd x x' (rd_SX r) ∧ bz_Upd m m' rd_SB ∧ lx_fault x' m' := by
  obtain ⟨-, hC, -, ⟨g1, g2, g3, g4, g5⟩, -⟩ := h
  have h8 : x.2 223 8 = lx_kj tp N j := hC.2.2.1.2.1
  have s44 := lx_sign (c := 44) hC (by decide)
  have s41 := lx_sign (c := 41) hC (by decide)
  have s61 := lx_sign (c := 61) hC (by decide)
  have s59 := lx_sign (c := 59) hC (by decide)
  obtain ⟨b, hb, hb2⟩ : ∃ b : Int, fz_X4_endsTerm x 223 D = some b ∧ fz_X11_mayEnd m 804 en inn = some b := by
    unfold fz_X4_endsTerm fz_X11_mayEnd
    by_cases c : D = 0
    · rw [if_neg (by omega), hin, if_pos c, if_pos rfl, hen c, g2]
      unfold rd_en fz_X4_endsTerm_66 fz_X4_endsTerm_82
      by_cases c2 : md = 2
      · rw [if_pos c2, if_pos c2, if_pos rfl]; exact ⟨0, rfl, rfl⟩
      · rw [if_neg c2, if_neg c2]
        have t1 : (if (1 : Int) = 0 then (if x.2 223 8 = 59 then some (1 : Int) else some 0) else (if x.2 223 8 = 61 then some 1 else some 0)) = (if x.2 223 8 = 61 then some 1 else some 0) := if_neg (by decide)
        have t0 : (if (0 : Int) = 0 then (if x.2 223 8 = 59 then some (1 : Int) else some 0) else (if x.2 223 8 = 61 then some 1 else some 0)) = (if x.2 223 8 = 59 then some 1 else some 0) := if_pos rfl
        rw [t1, t0, h8]
        by_cases c3 : md = 0 ∨ md = 3 ∨ md = 5
        · rw [if_pos c3, if_neg (show ¬ (61 : Int) = -1 by decide), s61, Option.bind_some]
          have L : (if md = 0 then (if lx_kj tp N j = 61 then some (1 : Int) else some 0) else (if md = 3 then (if lx_kj tp N j = 61 then some 1 else some 0) else (if md = 5 then (if lx_kj tp N j = 61 then some 1 else some 0) else (if lx_kj tp N j = 59 then some 1 else some 0)))) = (if lx_kj tp N j = 61 then some 1 else some 0) := by
            rcases c3 with z | z | z
            · rw [if_pos z]
            · rw [if_neg (by omega), if_pos z]
            · rw [if_neg (by omega), if_neg (by omega), if_pos z]
          rw [L]
          by_cases c4 : lx_kj tp N j = 61
          · rw [if_pos c4, if_pos c4, if_neg (show ¬ (1 : Int) = 0 by decide)]; exact ⟨1, rfl, rfl⟩
          · rw [if_neg c4, if_neg c4, if_pos rfl]; exact ⟨0, rfl, rfl⟩
        · rw [if_neg c3, if_neg (show ¬ (59 : Int) = -1 by decide), s59, Option.bind_some, if_neg (show ¬ md = 0 by omega), if_neg (show ¬ md = 3 by omega), if_neg (show ¬ md = 5 by omega)]
          by_cases c4 : lx_kj tp N j = 59
          · rw [if_pos c4, if_pos c4, if_neg (show ¬ (1 : Int) = 0 by decide)]; exact ⟨1, rfl, rfl⟩
          · rw [if_neg c4, if_neg c4, if_pos rfl]; exact ⟨0, rfl, rfl⟩
    · rw [if_pos (by omega), hin, if_neg c, if_neg (show ¬ (1 : Int) = 0 by decide), s44, Option.bind_some, s41, Option.bind_some, h8]
      by_cases c4 : lx_kj tp N j = 44
      · rw [if_pos c4, if_pos c4, if_neg (show ¬ (1 : Int) = 0 by decide)]; exact ⟨1, rfl, rfl⟩
      · rw [if_neg c4, if_neg c4, if_pos rfl]
        by_cases c5 : lx_kj tp N j = 41
        · rw [if_pos c5, if_pos c5, if_neg (show ¬ (1 : Int) = 0 by decide)]; exact ⟨1, rfl, rfl⟩
        · rw [if_neg c5, if_neg c5, if_pos rfl]; exact ⟨0, rfl, rfl⟩
  unfold fz_X4_readSide_84
  rw [hb, hb2, Option.bind_some, Option.bind_some]
  by_cases c : b = 0
  · rw [if_pos c, if_pos c]
    exact rd_bad1 (r := r) (C := hC) 2
  · rw [if_neg c, if_neg c]
    exact rd_bad1 (r := r) (C := hC) 5
end TM
