/-! one node is read: what holds while a TERM is read. md: the class's mode, r: its row -/
def rd_rm (md : Int) : Int := if md ≤ 2 then md else if md ≤ 4 then 3 else 4
def rd_SX (r a k : Int) : Prop := (a = 223 ∧ (k = 0 ∨ k = 1 ∨ k = 3 ∨ (7 ≤ k ∧ k ≤ 10))) ∨ a = 224 ∨ yz_S r a k ∨ (a = 161 ∧ k = 2) ∨ a = 166 ∨ a = 229 ∨ a = 230
def rd_SM (a k : Int) : Prop := (a = 804 ∧ ((6 ≤ k ∧ k ≤ 10) ∨ k = 13 ∨ k = 31 ∨ k = 37 ∨ k = 38)) ∨ (820 ≤ a ∧ a ≤ 822)
def rd_SB (a k : Int) : Prop := rd_SM a k ∨ (a = 804 ∧ (k = 11 ∨ k = 12))
def rd_V (md : Int) (m : az_Hp) (nv a b : Int) : Prop := if md ≤ 1 then bz_VE nv a b else 0 ≤ b ∧ b < nv ∧ bz_WR 96 a (m.2 821 b)
/-- the variables so far -/
def rd_Vars (x m : az_Hp) (md nv e : Int) (j : Nat) : Prop := m.2 804 37 = nv ∧ (0 ≤ nv ∧ nv ≤ 450) ∧ (∀ b c, 0 ≤ b → b < c → c < nv → m.2 821 b ≠ m.2 821 c) ∧ (md ≤ 2 → x.2 223 3 = nv ∧ x.2 223 4 = m.2 804 34 ∧ nv ≤ x.2 223 4 ∧ (1 ≤ x.2 223 4 ∧ x.2 223 4 ≤ 12) ∧ ∀ b, 0 ≤ b → b < nv → bz_WR 96 (x.2 224 b) (m.2 821 b)) ∧ (3 ≤ md → m.2 804 34 = 450 ∧ x.2 223 3 = 0 ∧ 2 * nv + e ≤ j ∧ ∀ b, 0 ≤ b → b < nv → ∃ a, bz_WR 96 a (m.2 821 b))
def rd_Unk (x m : az_Hp) (md nu : Int) : Prop := 3 ≤ md → x.2 161 2 = nu ∧ m.2 804 38 = nu ∧ (0 ≤ nu ∧ nu ≤ 6) ∧ ∀ k, 0 ≤ k → k < nu → bz_WR 96 (x.2 166 k) (m.2 822 k)
/-- which codes may stand where -/
def rd_PC (md nu i q : Int) : Prop := (md ≤ 4 → q < 2000) ∧ (2000 ≤ q → q - 2000 < nu) ∧ ((md = 0 ∨ md = 3) → i = 0 → 200 ≤ q ∧ q < 1000) ∧ (md = 0 → 1 ≤ i → q < 200 ∨ 1000 ≤ q)
def rd_Row (x m : az_Hp) (T s md r nv nu sz : Int) : Prop := x.2 r 1 = sz ∧ m.2 804 31 = sz ∧ (0 ≤ sz ∧ sz ≤ bz_cap r) ∧ ∀ i, 0 ≤ i → i < sz → bz_cr (bz_ct m s) (bz_ft m s) (x.2 T 0) (x.2 T 1) (rd_V md m nv) (x.2 (r + 1) i) (m.2 820 i) ∧ rd_PC md nu i (m.2 820 i)
/-- on a left side each variable is seen -/
def rd_Occ (m : az_Hp) (md nv sz : Int) : Prop := md = 0 → ∀ b, 0 ≤ b → b < nv → ∃ i, 1 ≤ i ∧ i < sz ∧ m.2 820 i = 1000 + b
def rd_B (tp : Int → Int) (N : Int) (x m : az_Hp) (md r T s : Int) (J j : Nat) (nv nu sz e : Int) : Prop :=
  (bz_Fx x ∧ bz_Fx m) ∧ lx_Cur x m tp N J j ∧ rd_Nm x m T s ∧ (x.2 223 11 = T ∧ x.2 223 5 = md ∧ (0 ≤ md ∧ md ≤ 6) ∧ m.2 804 32 = rd_rm md ∧ m.2 804 33 = bz_cap r) ∧ rd_Vars x m md nv e j ∧ rd_Unk x m md nu ∧ rd_Row x m T s md r nv nu sz
theorem rd_capn {r : Int} (h : 0 < bz_cap r) : (r ≠ 223 ∧ r ≠ 222 ∧ r ≠ 224 ∧ r ≠ 225 ∧ r ≠ 226 ∧ r ≠ 227 ∧ r ≠ 228 ∧ r ≠ 229 ∧ r ≠ 230) ∧ (r ≠ 161 ∧ r ≠ 160 ∧ r ≠ 165 ∧ r ≠ 166 ∧ r ≠ 2 ∧ r ≠ 1) := by
  refine ⟨⟨?_, ?_, ?_, ?_, ?_, ?_, ?_, ?_, ?_⟩, ?_, ?_, ?_, ?_, ?_, ?_⟩ <;> (rintro rfl; exact absurd h (by decide))
theorem rd_VV {m : az_Hp} {md nv : Int} (hd : ∀ b c, 0 ≤ b → b < c → c < nv → m.2 821 b ≠ m.2 821 c) (n0 : nv ≤ 450) (n6 : md ≤ 1 → nv ≤ 12) : bz_VV (rd_V md m nv) := by
  unfold rd_V
  by_cases c : md ≤ 1
  · have := n6 c
    constructor
    · intro a b h; rw [if_pos c] at h; unfold bz_VE at h; omega
    · intro a b a' b' h h'; rw [if_pos c] at h h'; unfold bz_VE at h h'; omega
  · constructor
    · intro a b h; rw [if_neg c] at h; have := h.2.2.rng; omega
    · intro a b a' b' h h'
      rw [if_neg c] at h h'
      have I := h.2.2.inj (Or.inr rfl) h'.2.2
      constructor
      · intro e
        have := I.mp e
        rcases Int.lt_trichotomy b b' with q | q | q
        · exact absurd this (hd b b' h.1 q h'.2.1)
        · exact q
        · exact absurd this.symm (hd b' b h'.1 q h.2.1)
      · intro e; subst e; exact I.mpr rfl
theorem rd_Nm.upd {x m x' m' : az_Hp} {T s r : Int} (h : rd_Nm x m T s) (hr : 0 < bz_cap r) (hrT : r < T ∨ T + 4 < r) (hrT' : r + 1 < T ∨ T + 4 < r + 1) (ux : bz_Upd x x' (rd_SX r)) (um : bz_Upd m m' rd_SB) : rd_Nm x' m' T s := by
  obtain ⟨h1, h2, h3, h4, h5, h6, h7, h8⟩ := h
  have X : ∀ a k, a = T ∨ (T + 1 ≤ a ∧ a ≤ T + 4) → x'.2 a k = x.2 a k := fun a k q => ux.2.2 a k (fun z => by unfold rd_SX yz_S at z; omega)
  have M : ∀ a k, (806 ≤ a ∧ a ≤ 812) ∨ (a = 804 ∧ k = 15) → m'.2 a k = m.2 a k := fun a k q => um.2.2 a k (fun z => by unfold rd_SB rd_SM at z; omega)
  have ec : bz_ct m' s = bz_ct m s := funext fun k => M _ _ (by omega)
  have ef : bz_ft m' s = bz_ft m s := funext fun k => M _ _ (by omega)
  refine ⟨h1, h2, by rw [M 804 15 (by omega)]; exact h3, ⟨by rw [X T 0 (by omega), M 806 s (by omega)]; exact h4.1, by rw [X T 1 (by omega), M 807 s (by omega)]; exact h4.2⟩, by rw [ec, ef, X T 0 (by omega), X T 1 (by omega)]; exact h5, fun k k0 k1 => ?_, fun k k0 k1 => ?_, fun k j k0 k1 j0 j1 => ?_⟩
  · rw [X T 0 (by omega)] at k1
    rw [X (T + 1) k (by omega), M 809 _ (by omega), X (T + 2) k (by omega), ec]
    exact h6 k k0 k1
  · rw [X T 1 (by omega)] at k1
    rw [X (T + 3) k (by omega), M 810 _ (by omega), X (T + 4) k (by omega), ef]
    exact h7 k k0 k1
  · rw [X T 0 (by omega)] at k1
    rw [X T 1 (by omega)] at j1
    rw [X (T + 1) k (by omega), X (T + 3) j (by omega)]
    exact h8 k j k0 k1 j0 j1
theorem rd_V.mono {m m' : az_Hp} {md nv nv' a b : Int} (h : rd_V md m nv a b) (hn : nv ≤ nv') (hm : ∀ i, 0 ≤ i → i < nv → m'.2 821 i = m.2 821 i) : rd_V md m' nv' a b := by
  unfold rd_V at h ⊢
  by_cases c : md ≤ 1
  · rw [if_pos c] at h ⊢; unfold bz_VE at h ⊢; omega
  · rw [if_neg c] at h ⊢; exact ⟨h.1, by omega, by rw [hm b h.1 h.2.1]; exact h.2.2⟩
theorem rd_rT {r T : Int} (h : 0 < bz_cap r) (hT : T = 3 ∨ T = 82) : (r < T ∨ T + 4 < r) ∧ (r + 1 < T ∨ T + 4 < r + 1) := by
  unfold bz_cap at h
  repeat' split at h
  all_goals omega
theorem rd_B.weak {tp : Int → Int} {N : Int} {x m : az_Hp} {md r T s nv nu sz e e' : Int} {J j : Nat} (h : rd_B tp N x m md r T s J j nv nu sz e) (he : e' ≤ e) : rd_B tp N x m md r T s J j nv nu sz e' := by
  obtain ⟨h1, h2, h3, h4, ⟨v1, v2, v3, v4, v5⟩, h6, h7⟩ := h
  exact ⟨h1, h2, h3, h4, ⟨v1, v2, v3, v4, fun q => by have := v5 q; exact ⟨this.1, this.2.1, by have := this.2.2.1; omega, this.2.2.2⟩⟩, h6, h7⟩
/-- the frames stay -/
def rd_Fk (x x' : az_Hp) : Prop := ∀ i, x'.2 229 i = x.2 229 i ∧ x'.2 230 i = x.2 230 i
theorem rd_Fk.trans {x x' x'' : az_Hp} (h : rd_Fk x x') (h' : rd_Fk x' x'') : rd_Fk x x'' := fun i => ⟨(h' i).1.trans (h i).1, (h' i).2.trans (h i).2⟩
/-- words that were read stay what they are -/
def rd_Mo (x m x' m' : az_Hp) : Prop := (m.2 804 37 ≤ m'.2 804 37 ∧ ∀ b, 0 ≤ b → b < m.2 804 37 → m'.2 821 b = m.2 821 b) ∧ (m.2 804 38 ≤ m'.2 804 38 ∧ ∀ k, 0 ≤ k → k < m.2 804 38 → m'.2 822 k = m.2 822 k ∧ x'.2 166 k = x.2 166 k)
theorem rd_Mo.trans {x m x1 m1 x2 m2 : az_Hp} (h : rd_Mo x m x1 m1) (h' : rd_Mo x1 m1 x2 m2) : rd_Mo x m x2 m2 := by
  obtain ⟨⟨a1, a2⟩, a3, a4⟩ := h
  obtain ⟨⟨b1, b2⟩, b3, b4⟩ := h'
  refine ⟨⟨by omega, fun b b0 b1' => by rw [b2 b b0 (by omega), a2 b b0 b1']⟩, by omega, fun k k0 k1 => ?_⟩
  obtain ⟨p1, p2⟩ := a4 k k0 k1
  obtain ⟨q1, q2⟩ := b4 k k0 (by omega)
  exact ⟨q1.trans p1, q2.trans p2⟩
theorem rd_Mo.upd {x m x' m' : az_Hp} {S S' : Int → Int → Prop} (ux : bz_Upd x x' S) (um : bz_Upd m m' S') (hs : ∀ k, ¬ S 166 k) (hs' : ∀ a k, S' a k → ¬ (a = 804 ∧ (k = 37 ∨ k = 38)) ∧ a ≠ 821 ∧ a ≠ 822) : rd_Mo x m x' m' := by
  refine ⟨⟨?_, fun b _ _ => um.2.2 821 b (fun z => (hs' _ _ z).2.1 rfl)⟩, ?_, fun k _ _ => ⟨um.2.2 822 k (fun z => (hs' _ _ z).2.2 rfl), ux.2.2 166 k (hs k)⟩⟩
  · rw [um.2.2 804 37 (fun z => (hs' _ _ z).1 ⟨rfl, Or.inl rfl⟩)]; exact Int.le_refl _
  · rw [um.2.2 804 38 (fun z => (hs' _ _ z).1 ⟨rfl, Or.inr rfl⟩)]; exact Int.le_refl _
def rd_F2 (x m x' m' : az_Hp) : Prop := rd_Fk x x' ∧ rd_Mo x m x' m'
theorem rd_F2.trans {x m x1 m1 x2 m2 : az_Hp} (h : rd_F2 x m x1 m1) (h' : rd_F2 x1 m1 x2 m2) : rd_F2 x m x2 m2 := ⟨h.1.trans h'.1, h.2.trans h'.2⟩
section PU
variable {tp : Int → Int} {N : Int} {x m : az_Hp} {md r T s nv nu sz e : Int} {J j : Nat}
/-- a change that touches nothing of the state but what S, S' name: frames and faults -/
theorem rd_put {c q : Int} (h : rd_B tp N x m md r T s J j nv nu sz e) (hr : 0 < bz_cap r) (k0 : lx_kj tp N j ≠ 0) (k1 : lx_kj tp N j ≠ 1) (hsz : sz < bz_cap r) (cr : bz_cr (bz_ct m s) (bz_ft m s) (x.2 T 0) (x.2 T 1) (rd_V md m nv) c q) (pc : rd_PC md nu sz q) :
    ∃ x' m', ((fz_X7_add x r c).bind fun r1 => ((fz_X4_next r1.2 223).bind fun r2 => (some ((1 : Int), r2)))) = some (1, x') ∧ fz_X11_puts 2000000 m 804 q = some (1, m') ∧ rd_B tp N x' m' md r T s J (j + 1) nv nu (sz + 1) (e + 1) ∧ bz_Upd x x' (rd_SX r) ∧ bz_Upd m m' rd_SM ∧ x'.2 (r + 1) sz = c ∧ (∀ i, i < sz → x'.2 (r + 1) i = x.2 (r + 1) i) ∧ m'.2 820 sz = q ∧ (∀ i, i ≠ sz → m'.2 820 i = m.2 820 i) ∧ rd_F2 x m x' m' := by
  obtain ⟨⟨hX, hM⟩, hC, hN, ⟨g1, g2, g3, g4, g5⟩, ⟨v1, v2, v3, v4, v5⟩, hU, ⟨w1, w2, w3, w4⟩⟩ := h
  have rn := rd_capn hr
  have c60 := @bz_cap60 r
  have rt := rd_rT hr hN.1
  have rlt := bz_cap_lt hr
  obtain ⟨x1, a1, a2, a3, a4, a5⟩ := (yz_add (c := c) hX hr (by omega) (by omega)).1 (by omega)
  rw [w1] at a3 a4 a5
  have l820 := ln_820 hM
  have um1 : bz_Upd m (az_wr (az_wr m 820 sz q) 804 31 (sz + 1)) rd_SM := bz_Upd.wr (bz_Upd.wr bz_Upd.refl (Or.inr (by omega)) (by unfold bz_isFix; simp [bz_cap, bz_fixL, bz_rowsL])) (Or.inl ⟨rfl, by omega⟩) (by decide)
  have um1' : bz_Upd m (az_wr (az_wr m 820 sz q) 804 31 (sz + 1)) (fun a k => a = 820 ∨ (a = 804 ∧ k = 31)) := bz_Upd.wr (bz_Upd.wr bz_Upd.refl (Or.inl rfl) (by unfold bz_isFix; simp [bz_cap, bz_fixL, bz_rowsL])) (Or.inr ⟨rfl, rfl⟩) (by decide)
  have C1 : lx_Cur x1 (az_wr (az_wr m 820 sz q) 804 31 (sz + 1)) tp N J j := hC.upd a2 um1' (fun a k z => by unfold yz_S at z; unfold lx_KX; omega) (fun a k z => by unfold lx_KM; omega)
  obtain ⟨x2, m2, b1, b2, C2, b4, b5⟩ := lx_next (hX.upd a2) (hM.upd um1) C1 k0 k1
  have ux : bz_Upd x x2 (rd_SX r) := (a2.weak fun a k z => Or.inr (Or.inr (Or.inl z))).trans (b4.weak fun a k z => Or.inl (by unfold lx_nX at z; omega))
  have um : bz_Upd m m2 rd_SM := um1.trans (b5.weak fun a k z => Or.inl (by unfold lx_S at z; omega))
  have e820 : ∀ i, m2.2 820 i = (az_wr (az_wr m 820 sz q) 804 31 (sz + 1)).2 820 i := fun i => b5.2.2 820 i (fun z => by unfold lx_S at z; omega)
  have eq820 : m2.2 820 sz = q := by rw [e820, az_wr_ne (by omega), az_wr_same]
  have en820 : ∀ i, i ≠ sz → m2.2 820 i = m.2 820 i := fun i hi => by rw [e820, az_wr_ne (by omega), az_wr_ne (by omega)]
  have e821 : ∀ i, m2.2 821 i = m.2 821 i := fun i => by rw [b5.2.2 821 i (fun z => by unfold lx_S at z; omega), az_wr_ne (by omega), az_wr_ne (by omega)]
  have e822 : ∀ i, m2.2 822 i = m.2 822 i := fun i => by rw [b5.2.2 822 i (fun z => by unfold lx_S at z; omega), az_wr_ne (by omega), az_wr_ne (by omega)]
  have M4 : ∀ k, k = 32 ∨ k = 33 ∨ k = 34 ∨ k = 37 ∨ k = 38 → m2.2 804 k = m.2 804 k := fun k z => by rw [b5.2.2 804 k (fun z => by unfold lx_S at z; omega), az_wr_ne (by omega), az_wr_ne (by omega)]
  have X3 : ∀ k, k = 3 ∨ k = 4 ∨ k = 5 ∨ k = 11 → x2.2 223 k = x.2 223 k := fun k z => by rw [b4.2.2 223 k (fun z => by unfold lx_nX at z; omega), a2.2.2 223 k (fun z => by unfold yz_S at z; omega)]
  have X4 : ∀ a k, a = 224 ∨ a = 166 ∨ a = 161 ∨ a = T → x2.2 a k = x.2 a k := fun a k z => by rw [b4.2.2 a k (fun z => by unfold lx_nX at z; have := hN.1; omega), a2.2.2 a k (fun z => by unfold yz_S at z; omega)]
  have Xr : ∀ i, x2.2 (r + 1) i = x1.2 (r + 1) i := fun i => b4.2.2 _ i (fun z => by unfold lx_nX at z; omega)
  have eV : rd_V md m2 nv = rd_V md m nv := by
    funext a b
    unfold rd_V
    simp only [e821]
  have N2 := hN.upd hr rt.1 rt.2 ux (um.weak fun _ _ z => Or.inl z)
  have ec : bz_ct m2 s = bz_ct m s := funext fun k => um.2.2 811 _ (fun z => by unfold rd_SM at z; omega)
  have ef : bz_ft m2 s = bz_ft m s := funext fun k => um.2.2 812 _ (fun z => by unfold rd_SM at z; omega)
  refine ⟨x2, m2, ?_, ?_, ⟨⟨hX.upd ux, hM.upd um⟩, C2, N2, ⟨by rw [X3 11 (by omega)]; exact g1, by rw [X3 5 (by omega)]; exact g2, g3, by rw [M4 32 (by omega)]; exact g4, by rw [M4 33 (by omega)]; exact g5⟩, ⟨by rw [M4 37 (by omega)]; exact v1, v2, fun b d b0 b1 d1 => by rw [e821, e821]; exact v3 b d b0 b1 d1, fun z => ?_, fun z => ?_⟩, fun z => ?_, ?_, ?_, ⟨by omega, by omega⟩, fun i i0 i1 => ?_⟩, ux, um, by rw [Xr, a5], fun i hi => by rw [Xr, a4 i hi], eq820, en820, ⟨fun i => ⟨by rw [b4.2.2 229 i (fun z => by unfold lx_nX at z; omega), a2.2.2 229 i (fun z => by unfold yz_S at z; omega)], by rw [b4.2.2 230 i (fun z => by unfold lx_nX at z; omega), a2.2.2 230 i (fun z => by unfold yz_S at z; omega)]⟩, ⟨⟨by rw [M4 37 (by omega)]; exact Int.le_refl _, fun b _ _ => e821 b⟩, ⟨by rw [M4 38 (by omega)]; exact Int.le_refl _, fun k _ _ => ⟨e822 k, X4 166 k (by omega)⟩⟩⟩⟩⟩
  · rw [a1, Option.bind_some, b1, Option.bind_some]
  · unfold fz_X11_puts
    rw [fx_804_30 hM, Option.bind_some, w2, bz_awr (by omega) (by omega), Option.bind_some, az_wr_ne (by omega), w2, az_w32_id (by omega) (by omega), b2, Option.bind_some]
  · obtain ⟨z1, z2, z3, z4, z5⟩ := v4 z
    rw [X3 3 (by omega), X3 4 (by omega), M4 34 (by omega)]
    exact ⟨z1, z2, z3, z4, fun b b0 b1 => by rw [X4 224 b (by omega), e821]; exact z5 b b0 b1⟩
  · obtain ⟨z1, z2, z3, z4⟩ := v5 z
    rw [X3 3 (by omega), M4 34 (by omega)]
    exact ⟨z1, z2, by push_cast; omega, fun b b0 b1 => by rw [e821]; exact z4 b b0 b1⟩
  · obtain ⟨z1, z2, z3, z4⟩ := hU z
    rw [X4 161 2 (by omega), M4 38 (by omega)]
    exact ⟨z1, z2, z3, fun k k0 k1 => by rw [X4 166 k (by omega), e822]; exact z4 k k0 k1⟩
  · rw [b4.2.2 r 1 (fun z => by unfold lx_nX at z; omega)]; exact a3
  · rw [b5.2.2 804 31 (fun z => by unfold lx_S at z; omega), az_wr_same]
  · rw [ec, ef, X4 T 0 (by omega), X4 T 1 (by omega), eV, Xr]
    by_cases ei : i = sz
    · rw [ei, a5, eq820]; exact ⟨cr, pc⟩
    · rw [a4 i (by omega), en820 i ei]; exact w4 i i0 (by omega)
end PU
