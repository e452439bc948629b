/-! WANTED are read: a side into its row, both sides -/
def wq_X (r a k : Int) : Prop := (a = r ∧ k = 1) ∨ a = r + 1 ∨ (a = 223 ∧ k ≠ 11) ∨ (224 ≤ a ∧ a ≤ 230) ∨ (a = 161 ∧ k = 2) ∨ a = 166
def wq_M (A off a k : Int) : Prop := (a = 804 ∧ ((6 ≤ k ∧ k ≤ 10) ∨ k = 13 ∨ (31 ≤ k ∧ k ≤ 33) ∨ k = 37 ∨ k = 38)) ∨ (820 ≤ a ∧ a ≤ 822) ∨ (a = A ∧ off ≤ k ∧ k < off + 30)
def wq_MB (A off a k : Int) : Prop := wq_M A off a k ∨ (a = 804 ∧ (k = 11 ∨ k = 12))
/-- words that were read stay -/
def wq_Mo (x m x' m' : az_Hp) (nv nu nv' nu' : Int) : Prop := nv ≤ nv' ∧ nu ≤ nu' ∧ (∀ b, 0 ≤ b → b < nv → m'.2 821 b = m.2 821 b) ∧ ∀ k, 0 ≤ k → k < nu → m'.2 822 k = m.2 822 k ∧ x'.2 166 k = x.2 166 k
theorem wq_Mo.trans {x m x1 m1 x2 m2 : az_Hp} {a b a1 b1 a2 b2 : Int} (h : wq_Mo x m x1 m1 a b a1 b1) (h' : wq_Mo x1 m1 x2 m2 a1 b1 a2 b2) : wq_Mo x m x2 m2 a b a2 b2 := by
  obtain ⟨p1, p2, p3, p4⟩ := h
  obtain ⟨q1, q2, q3, q4⟩ := h'
  refine ⟨by omega, by omega, fun k k0 k1 => by rw [q3 k k0 (by omega), p3 k k0 k1], fun k k0 k1 => ?_⟩
  obtain ⟨r1, r2⟩ := p4 k k0 k1
  obtain ⟨s1, s2⟩ := q4 k k0 (by omega)
  exact ⟨s1.trans r1, s2.trans r2⟩
theorem wq_Mo.upd {x m x' m' : az_Hp} {nv nu : Int} {S S' : Int → Int → Prop} (ux : bz_Upd x x' S) (um : bz_Upd m m' S') (hs : ∀ k, ¬ S 166 k) (hs' : ∀ k, ¬ S' 821 k ∧ ¬ S' 822 k) : wq_Mo x m x' m' nv nu nv nu := ⟨Int.le_refl _, Int.le_refl _, fun b _ _ => um.2.2 821 b (hs' b).1, fun k _ _ => ⟨um.2.2 822 k (hs' k).2, ux.2.2 166 k (hs k)⟩⟩
section WB
variable {tp : Int → Int} {N : Int} {T s : Int} {J : Nat}
theorem wq_whole {x m : az_Hp} {j : Nat} {md r nv nu en A off : Int} (h : wq_S tp N x m T s J j nv nu 1) (hr : bz_cap r = 30) (rb : 167 ≤ r ∧ r ≤ 221) (hmd : 3 ≤ md ∧ md ≤ 6) (hen : en = rd_en md) (hA : 852 ≤ A ∧ A ≤ 856) (fA : ∀ k, bz_isFix A k = false) (o0 : 0 ≤ off) (o1 : off + 30 ≤ az_ln m A) (o2 : off ≤ 1000) :
    (∃ x' m', fz_X4_readSide 2000000 x 223 r md = some (0, x') ∧ fz_X11_readWhole 2000000 m 804 (rd_rm md) 30 en (rd_must md 0) A off = some (-1, m') ∧ bz_Upd x x' (wq_X r) ∧ bz_Upd m m' (wq_MB A off) ∧ lx_fault x' m') ∨
    ∃ (x' m' : az_Hp) (j' : Nat) (nv' nu' sz : Int), fz_X4_readSide 2000000 x 223 r md = some (1, x') ∧ fz_X11_readWhole 2000000 m 804 (rd_rm md) 30 en (rd_must md 0) A off = some (sz, m') ∧ wq_S tp N x' m' T s J j' nv' nu' 0 ∧ wq_R x' m' T s r A off nv' (wq_u md nu') sz ∧ (md = 3 → 200 ≤ m'.2 A off ∧ m'.2 A off < 1000) ∧ bz_Upd x x' (wq_X r) ∧ bz_Upd m m' (wq_M A off) ∧ j < j' ∧ wq_Mo x m x' m' nv nu nv' nu' := by
  have hS := h
  obtain ⟨⟨hX, hM⟩, hC, hN, h11, -⟩ := h
  have rp : 0 < bz_cap r := by omega
  have R := wq_side hS hr hmd hen
  obtain ⟨y, hy⟩ : ∃ y, y = az_wr (az_wr x r 1 0) 223 5 md := ⟨_, rfl⟩
  obtain ⟨q, hq⟩ : ∃ q, q = az_wr (az_wr (az_wr m 804 32 (rd_rm md)) 804 33 30) 804 31 0 := ⟨_, rfl⟩
  rw [← hy, ← hq] at R
  have uy : bz_Upd x y (wq_X r) := by rw [hy]; exact bz_Upd.wr (bz_Upd.wr bz_Upd.refl (Or.inl ⟨rfl, rfl⟩) (yz_free rp).1) (Or.inr (Or.inr (Or.inl ⟨rfl, by omega⟩))) (by decide)
  have uq : bz_Upd m q (wq_M A off) := by rw [hq]; exact bz_Upd.wr (bz_Upd.wr (bz_Upd.wr bz_Upd.refl (Or.inl ⟨rfl, by omega⟩) (by decide)) (Or.inl ⟨rfl, by omega⟩) (by decide)) (Or.inl ⟨rfl, by omega⟩) (by decide)
  have rX : ∀ a k, rd_SX r a k → wq_X r a k := fun a k z => by
    rcases z with z | z | (z | z) | z | z | z | z
    · exact Or.inr (Or.inr (Or.inl ⟨z.1, by omega⟩))
    · exact Or.inr (Or.inr (Or.inr (Or.inl (by omega))))
    · exact Or.inl z
    · exact Or.inr (Or.inl z)
    · exact Or.inr (Or.inr (Or.inr (Or.inr (Or.inl z))))
    · exact Or.inr (Or.inr (Or.inr (Or.inr (Or.inr z))))
    · exact Or.inr (Or.inr (Or.inr (Or.inl (by omega))))
    · exact Or.inr (Or.inr (Or.inr (Or.inl (by omega))))
  have rM : ∀ a k, rd_SM a k → wq_M A off a k := fun a k z => by
    rcases z with z | z
    · exact Or.inl ⟨z.1, by omega⟩
    · exact Or.inr (Or.inl z)
  have rw1 : ∀ o, fz_X11_readTerm 2000000 200 q 804 en 0 (rd_must md 0) = some o → fz_X11_readWhole 2000000 m 804 (rd_rm md) 30 en (rd_must md 0) A off = (if o.1 = 0 then (some ((-1 : Int), o.2)) else fz_X11_readWhole_31 2000000 2000000 o.2 804 A off 0) := fun o ho => by
    unfold fz_X11_readWhole
    rw [← hq, ho, Option.bind_some]
  rcases R with ⟨x', m', b1, b2, b3, b4, b5⟩ | ⟨x', m', j', nv', nu', sz, t1, t2, t3, t4, t5, t6, t7, t8, t9, t10, t11, t12, t13⟩
  · left
    refine ⟨x', m', b1, by rw [rw1 _ b2, if_pos rfl], uy.trans (b3.weak rX), (uq.weak fun _ _ z => Or.inl z).trans (b4.weak fun a k z => ?_), b5⟩
    rcases z with z | z
    · exact Or.inl (rM a k z)
    · exact Or.inr z
  · right
    obtain ⟨⟨hX', hM'⟩, hC', hN', h11', ⟨v1, v2, v3, v4, v5, v6, v7⟩, w1, w2, w3, w4⟩ := t3
    have sz1 := t4.1
    have lA : az_ln m' A = az_ln m A := by rw [t8.ln, uq.ln]
    obtain ⟨m4, c1, c2, c3⟩ := rd_copy (A := A) (off := off) (n := sz) hM' t5 (by omega) (by omega) ⟨by omega, by omega⟩ fA o0 (by omega) o2
    have M4 : ∀ a k, a ≠ A → m4.2 a k = m'.2 a k := fun a k z => c2.2.2 a k (fun w => z w.1)
    have ec : bz_ct m4 s = bz_ct m' s := funext fun k => M4 811 _ (by omega)
    have ef : bz_ft m4 s = bz_ft m' s := funext fun k => M4 812 _ (by omega)
    refine ⟨x', m4, j', nv', nu', sz, t1, by rw [rw1 _ t2, if_neg (show ¬ (1 : Int) = 0 by decide), c1], ⟨⟨hX', hM'.upd c2⟩, hC'.upd (bz_Upd.refl (S := fun _ _ => False)) c2 (fun a k z => z.elim) (fun a k z => by unfold lx_KM; omega), hN'.gen (bz_Upd.refl (S := fun _ _ => False)) c2 (fun a k z => z.elim) (fun a k z => by omega), h11', ⟨by rw [M4 804 37 (by omega)]; exact v1, v2, fun b c b0 bc c1 => by rw [M4 821 b (by omega), M4 821 c (by omega)]; exact v3 b c b0 bc c1, by rw [M4 804 34 (by omega)]; exact v4, v5, v6, fun b b0 b1 => by rw [M4 821 b (by omega)]; exact v7 b b0 b1⟩, w1, by rw [M4 804 38 (by omega)]; exact w2, w3, fun k k0 k1 => by rw [M4 822 k (by omega)]; exact w4 k k0 k1⟩, ?_, fun z => ?_, uy.trans (t7.weak rX), (uq.trans (t8.weak rM)).trans (c2.weak fun a k z => Or.inr (Or.inr ⟨z.1, z.2.1, by omega⟩)), t9, t10, t11, fun b b0 b1 => by rw [M4 821 b (by omega)]; exact t12 b b0 b1, fun k k0 k1 => by rw [M4 822 k (by omega)]; exact t13 k k0 k1⟩
    · obtain ⟨r1, r2, r3⟩ := t4
      refine ⟨r1, fun i i0 i1 => ?_, r3⟩
      obtain ⟨p1, p2⟩ := r2 i i0 i1
      rw [Int.zero_add] at p1 p2
      rw [ec, ef, c3 i i0 i1]
      exact ⟨p1.weak fun a b z => ⟨z.1, z.2.1, by rw [M4 821 b (by omega)]; exact z.2.2⟩, p2⟩
    · have := c3 0 (by omega) (by omega)
      rw [Int.add_zero] at this
      rw [this]
      exact t6 z
/-- both sides up to the ; -/
def wq_RM (m : az_Hp) (how must A1 o1 f2 o2 : Int) (K : Int → Int → az_Hp → Option (Int × az_Hp)) : Option (Int × az_Hp) := (fz_X11_readWhole 2000000 m 804 how 30 61 must A1 o1).bind fun r1 => (if r1.1 = (-1) then (some (0, r1.2)) else ((fz_X11_eats 2000000 r1.2 804 61).bind fun r2 => (if r2.1 = 0 then (some (0, r2.2)) else ((az_gref r2.2 804 f2).bind fun x4 => ((fz_X11_readWhole 2000000 r2.2 804 how 30 59 0 x4 o2).bind fun r3 => (if r3.1 = (-1) then (some (0, r3.2)) else K r1.1 r3.1 r3.2))))))
def wq_XX (r r' a k : Int) : Prop := wq_X r a k ∨ wq_X r' a k
def wq_MM (A1 o1 A2 o2 a k : Int) : Prop := wq_M A1 o1 a k ∨ wq_M A2 o2 a k
theorem wq_both {x m : az_Hp} {j : Nat} {md r r' nv nu A1 o1 A2 o2 f2 : Int} {K : Int → Int → az_Hp → Option (Int × az_Hp)} (h : wq_S tp N x m T s J j nv nu 1) (hmd : md = 3 ∨ md = 5) (hr : bz_cap r = 30) (hr' : bz_cap r' = 30) (rr : r' = r + 2) (rb : 167 ≤ r ∧ r ≤ 219) (hA1 : 852 ≤ A1 ∧ A1 ≤ 856) (fA1 : ∀ k, bz_isFix A1 k = false) (o10 : 0 ≤ o1) (o11 : o1 + 30 ≤ az_ln m A1) (o12 : o1 ≤ 1000) (hA2 : 852 ≤ A2 ∧ A2 ≤ 856) (fA2 : ∀ k, bz_isFix A2 k = false) (o20 : 0 ≤ o2) (o21 : o2 + 30 ≤ az_ln m A2) (o22 : o2 ≤ 1000) (dis : ∀ k, o1 ≤ k → k < o1 + 30 → ¬ (A1 = A2 ∧ o2 ≤ k ∧ k < o2 + 30)) (hf2 : ∀ q, bz_Fx q → az_gref q 804 f2 = some A2) :
    (∃ x' m', fz_X4_readBoth 2000000 x 223 r r' md (md + 1) = some (0, x') ∧ wq_RM m (rd_rm md) (rd_must md 0) A1 o1 f2 o2 K = some (0, m') ∧ bz_Upd x x' (wq_XX r r') ∧ bz_Upd m m' (fun a k => wq_MM A1 o1 A2 o2 a k ∨ (a = 804 ∧ (k = 11 ∨ k = 12))) ∧ lx_fault x' m') ∨
    ∃ (x' m' : az_Hp) (j' : Nat) (nv' nu' s1 s2 : Int), fz_X4_readBoth 2000000 x 223 r r' md (md + 1) = (if lx_kj tp N j' = 59 then ((fz_X4_next x' 223).bind fun r4 => (some (1, r4))) else ((fz_X4_fail x' 223 2).bind fun r5 => (if r5.1 = 0 ∨ r5.1 = 1 then some (r5.1, r5.2) else none))) ∧ wq_RM m (rd_rm md) (rd_must md 0) A1 o1 f2 o2 K = K s1 s2 m' ∧ wq_S tp N x' m' T s J j' nv' nu' 0 ∧ wq_R x' m' T s r A1 o1 nv' (wq_u md nu') s1 ∧ wq_R x' m' T s r' A2 o2 nv' (wq_u md nu') s2 ∧ (md = 3 → 200 ≤ m'.2 A1 o1 ∧ m'.2 A1 o1 < 1000) ∧ bz_Upd x x' (wq_XX r r') ∧ bz_Upd m m' (wq_MM A1 o1 A2 o2) ∧ j < j' ∧ wq_Mo x m x' m' nv nu nv' nu' := by
  have tb : T ≤ 82 := by have := h.2.2.1.1; omega
  have en1 : (61 : Int) = rd_en md := by unfold rd_en; rcases hmd with z | z <;> (rw [if_neg (by omega), if_pos (by omega)])
  have en2 : (59 : Int) = rd_en (md + 1) := by unfold rd_en; rcases hmd with z | z <;> (rw [if_neg (by omega), if_neg (by omega)])
  have rm2 : rd_rm (md + 1) = rd_rm md := by unfold rd_rm; rcases hmd with rfl | rfl <;> decide
  have mu2 : rd_must (md + 1) 0 = 0 := by unfold rd_must; rcases hmd with rfl | rfl <;> decide
  have hmd' : 3 ≤ md ∧ md ≤ 5 := by omega
  have ud : ∀ nu, wq_u (md + 1) nu = wq_u md nu := fun nu => wq_u1 hmd
  clear hmd
  rcases wq_whole (md := md) (r := r) (en := 61) (A := A1) (off := o1) h hr (by omega) (by omega) en1 hA1 fA1 o10 o11 o12 with ⟨x1, m1, a1, a2, a3, a4, a5⟩ | ⟨x1, m1, j1, nv1, nu1, s1, a1, a2, a3, a4, a5, a6, a7, a8, a9⟩
  · left
    refine ⟨x1, m1, ?_, ?_, a3.weak fun _ _ z => Or.inl z, a4.weak fun a k z => ?_, a5⟩
    · unfold fz_X4_readBoth
      rw [a1, Option.bind_some, if_pos rfl]
    · unfold wq_RM
      rw [a2, Option.bind_some, if_pos rfl]
    · rcases z with z | z
      · exact Or.inl (Or.inl z)
      · exact Or.inr z
  · have s1b := a4.1
    have h8 : x1.2 223 8 = lx_kj tp N j1 := a3.2.1.2.2.1.2.1
    have eX : fz_X4_readBoth 2000000 x 223 r r' md (md + 1) = (if lx_kj tp N j1 = 61 then ((fz_X4_next x1 223).bind fun r2 => ((fz_X4_readSide 2000000 r2 223 r' (md + 1)).bind fun r3 => (if r3.1 = 0 then (some (0, r3.2)) else (if (r3.2.2 223 8) = 59 then ((fz_X4_next r3.2 223).bind fun r4 => (some (1, r4))) else ((fz_X4_fail r3.2 223 2).bind fun r5 => (if r5.1 = 0 ∨ r5.1 = 1 then some (r5.1, r5.2) else none)))))) else ((fz_X4_fail x1 223 2).bind fun r6 => (if r6.1 = 0 ∨ r6.1 = 1 then some (r6.1, r6.2) else none))) := by
      unfold fz_X4_readBoth
      rw [a1, Option.bind_some, if_neg (show ¬ (1 : Int) = 0 by decide), h8]
    have eM : wq_RM m (rd_rm md) (rd_must md 0) A1 o1 f2 o2 K = ((fz_X11_eats 2000000 m1 804 61).bind fun r2 => (if r2.1 = 0 then (some (0, r2.2)) else ((az_gref r2.2 804 f2).bind fun x4 => ((fz_X11_readWhole 2000000 r2.2 804 (rd_rm md) 30 59 0 x4 o2).bind fun r3 => (if r3.1 = (-1) then (some (0, r3.2)) else K s1 r3.1 r3.2))))) := by
      unfold wq_RM
      rw [a2, Option.bind_some, if_neg (show ¬ s1 = -1 by omega)]
    rw [eX, eM, ld_eats a3.2.1 (by decide)]
    by_cases c61 : lx_kj tp N j1 = 61
    · rw [if_pos c61, if_pos c61]
      obtain ⟨x2, m2, b1, b2, b3, b4, b5⟩ := wq_step a3 (by omega) (by omega)
      rw [b1, Option.bind_some, b2, Option.bind_some, Option.bind_some, if_neg (show ¬ (1 : Int) = 0 by decide), hf2 m2 b3.1.2, Option.bind_some]
      have l2 : az_ln m2 A2 = az_ln m A2 := by rw [b5.ln, a7.ln]
      have b4' : bz_Upd x1 x2 (wq_XX r r') := b4.weak fun a k z => Or.inl (by unfold lx_nX at z; unfold wq_X; omega)
      have b5' : bz_Upd m1 m2 (wq_MM A1 o1 A2 o2) := b5.weak fun a k z => Or.inl (by unfold lx_S at z; unfold wq_M; omega)
      have Mo2 : wq_Mo x1 m1 x2 m2 nv1 nu1 nv1 nu1 := wq_Mo.upd b4 b5 (fun k z => by unfold lx_nX at z; omega) (fun k => ⟨fun z => by unfold lx_S at z; omega, fun z => by unfold lx_S at z; omega⟩)
      have W := wq_whole (md := md + 1) (r := r') (en := 59) (A := A2) (off := o2) (b3.weak (by omega)) hr' (by omega) (by omega) en2 hA2 fA2 o20 (by omega) o22
      rw [rm2, mu2] at W
      rcases W with ⟨x3, m3, d1, d2, d3, d4, d5⟩ | ⟨x3, m3, j3, nv3, nu3, s2, d1, d2, d3, d4, -, d6, d7, d8, d9⟩
      · left
        refine ⟨x3, m3, by rw [d1, Option.bind_some, if_pos rfl], by rw [d2, Option.bind_some, if_pos rfl], ((a6.weak fun _ _ z => Or.inl z).trans b4').trans (d3.weak fun _ _ z => Or.inr z), ((a7.weak fun _ _ z => Or.inl (Or.inl z)).trans (b5'.weak fun _ _ z => Or.inl z)).trans (d4.weak fun a k z => ?_), d5⟩
        rcases z with z | z
        · exact Or.inl (Or.inr z)
        · exact Or.inr z
      · right
        rw [ud] at d4
        have s2b := d4.1
        have h83 : x3.2 223 8 = lx_kj tp N j3 := d3.2.1.2.2.1.2.1
        have Mo3 := (a9.trans Mo2).trans d9
        have X31 : ∀ a k, a = r ∨ a = r + 1 ∨ a = T → x3.2 a k = x1.2 a k := fun a k z => by
          rw [d6.2.2 a k (fun w => by rcases w with w | w | w | w | w | w <;> omega), b4.2.2 a k (fun w => by unfold lx_nX at w; omega)]
        have M31a : ∀ k, o1 ≤ k → k < o1 + 30 → m3.2 A1 k = m1.2 A1 k := fun k k0 k1 => by
          have dk := dis k k0 k1
          rw [d7.2.2 A1 k (fun w => by rcases w with w | w | w; omega; omega; exact dk w), b5.2.2 A1 k (fun w => by unfold lx_S at w; omega)]
        have M31t : ∀ a k, 811 ≤ a → a ≤ 812 → m3.2 a k = m1.2 a k := fun a k k0 k1 => by
          rw [d7.2.2 a k (fun w => by rcases w with w | w | w <;> omega), b5.2.2 a k (fun w => by unfold lx_S at w; omega)]
        refine ⟨x3, m3, j3, nv3, nu3, s1, s2, by rw [d1, Option.bind_some, if_neg (show ¬ (1 : Int) = 0 by decide), h83], by rw [d2, Option.bind_some, if_neg (show ¬ s2 = -1 by omega)], d3, ?_, d4, fun z => ?_, ((a6.weak fun _ _ z => Or.inl z).trans b4').trans (d6.weak fun _ _ z => Or.inr z), ((a7.weak fun _ _ z => Or.inl z).trans b5').trans (d7.weak fun _ _ z => Or.inr z), by omega, Mo3⟩
        · refine a4.mono (X31 r 1 (Or.inl rfl)) (fun i _ _ => X31 _ i (Or.inr (Or.inl rfl))) (fun i i0 i1 => M31a _ (by omega) (by omega)) (X31 T 0 (Or.inr (Or.inr rfl))) (X31 T 1 (Or.inr (Or.inr rfl))) (funext fun k => M31t 811 _ (by omega) (by omega)) (funext fun k => M31t 812 _ (by omega) (by omega)) d9.1 (wq_um d9.2.1) (fun b b0 b1 => ?_)
          rw [d9.2.2.1 b b0 b1, b5.2.2 821 b (fun w => by unfold lx_S at w; omega)]
        · rw [M31a o1 (by omega) (by omega)]
          exact a5 z
    · left
      rw [if_neg c61, if_neg c61]
      obtain ⟨x2, m2, d1, d2, d3, d4, d5⟩ := lx_fail a3.2.1 2
      refine ⟨x2, m2, by rw [d1, rd_wrap0], by rw [d2, rd_wrap0, Option.bind_some, if_pos rfl], (a6.weak fun _ _ z => Or.inl z).trans (d3.weak fun a k z => Or.inl (by unfold wq_X; omega)), (a7.weak fun _ _ z => Or.inl (Or.inl z)).trans (d4.weak fun a k z => Or.inr z), d5⟩
end WB
