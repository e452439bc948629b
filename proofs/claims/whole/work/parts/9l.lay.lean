/-! the right side is laid, side by side -/
section ML
variable {T s n : Int} {V : Int → Int → Prop} {Q : Int → Prop}
/-- the same code, and the reference's is one of Q -/
def yz_rl (σm : az_Hp) (T s : Int) (V : Int → Int → Prop) (Q : Int → Prop) (c m : Int) : Prop := bz_cr (bz_ct σm s) (bz_ft σm s) (σm.2 T 0) (σm.2 T 1) V c m ∧ Q m
def yz_left (a b : Int → Int) (d : Nat) (j m K : Int) : Prop := ∃ c, 0 ≤ c ∧ bz_Sc a d c j ∧ yz_P b m (c + K)
theorem yz_lay {σx σm : az_Hp} {e at' K : Int} (K0 : 0 ≤ K) (hQ : ∀ m, m < 2000 → Q m) (hQ0 : ∀ i, 0 ≤ i → i < n → Q (σm.2 840 i)) (ht : bz_tb (bz_ct σm s) (bz_ft σm s) (σm.2 T 0) (σm.2 T 1)) (hE : uz_Eq σx σm T s e) (hX : bz_Fx σx) (hM : bz_Fx σm) (hT : T = 3 ∨ T = 82) (hR : rz_R σx σm T s V 244 840 n) (hB : rz_B σx σm 244 n) (hb : ∀ v, 0 ≤ v → v < σx.2 (T + 8) e → σx.2 252 v ≠ -1) (hm : ∀ i, 0 ≤ i → i < σx.2 (T + 17 + 4 * e) 1 → 1000 ≤ σm.2 816 (16 * (16 * s + e) + i) → σm.2 816 (16 * (16 * s + e) + i) < 1006) : ∀ (d k k' : Nat) (x τ : az_Hp) (v m j : Int), d < k → d < k' → 0 ≤ j → j + d = σx.2 (T + 17 + 4 * e) 1 → bz_Upd σx x (yz_S 246) → bz_Upd σm τ yz_F → ((v = 1 ∧ yz_ok (yz_rl σm T s V Q) x τ m ∧ yz_left (bz_ra σx (T + 17 + 4 * e)) (bz_ra x 246) d j m K) ∨ (v = 0 ∧ yz_no τ)) →
    ∃ v' x' τ' m', fz_X5_rewrite_88 2000000 k x 243 0 (T + 17 + 4 * e) v j = fz_X5_rewrite_181 2000000 x' 243 v' ∧ fz_X11_makes_82 2000000 k' τ 804 e at' (16 * (16 * s + e)) j = fz_X11_makes_170 2000000 τ' 804 at' ∧ bz_Upd σx x' (yz_S 246) ∧ bz_Upd σm τ' yz_F ∧ ((v' = 1 ∧ yz_ok (yz_rl σm T s V Q) x' τ' m' ∧ yz_P (bz_ra x' 246) m' K) ∨ (v' = 0 ∧ yz_no τ')) := by
  have n60 := hR.2.2.1.2
  have noL := yz_noL (at' := at') ht hE hM hB n60 hb hm
  obtain ⟨⟨L1, L2, L3⟩, ⟨R1, R2, R3⟩, ⟨V1, V2⟩, ⟨m1, m2, m3, m4, m5, m6⟩, ⟨n1, n2, n3⟩, ⟨b1, b2, b3, b4, b5, b6, b7, b8, b9, b10⟩, cL, cR⟩ := hE
  intro d
  induction d with
  | zero =>
    intro k k' x τ v m j hk hk' j0 hj ux u st
    obtain ⟨k, rfl⟩ : ∃ k', k = k' + 1 := ⟨k - 1, by omega⟩
    obtain ⟨k', rfl⟩ : ∃ k'', k' = k'' + 1 := ⟨k' - 1, by omega⟩
    have hF := hM.upd u
    have e15 : fz_X11_eqAt τ 804 e = some (16 * s + e) := by
      rw [← m6]; unfold fz_X11_eqAt; rw [u.2.2 804 15 (fun z => by unfold yz_F at z; omega)]
    have r818 : az_ard τ 818 (16 * s + e) = some (σx.2 (T + 17 + 4 * e) 1) := by
      rw [← n2]; unfold az_ard; rw [u.ln, u.2.2 818 _ (fun z => by unfold yz_F at z; omega)]
    have es : x.2 (T + 17 + 4 * e) 1 = σx.2 (T + 17 + 4 * e) 1 := ux.2.2 _ _ (fun z => by unfold yz_S at z; omega)
    refine ⟨v, x, τ, m, ?_, ?_, ux, u, st.imp (fun ⟨q1, q2, c, c0, q3, q4⟩ => ⟨q1, q2, by rw [show c + K = K by have : c = 0 := q3; omega] at q4; exact q4⟩) id⟩
    · unfold fz_X5_rewrite_88
      rw [es, if_neg (by omega)]
    · unfold fz_X11_makes_82
      rw [fx_804_28 hF, Option.bind_some, e15, Option.bind_some, r818, Option.bind_some, if_neg (by omega)]
  | succ d ih =>
    intro k k' x τ v m j hk hk' j0 hj ux u st
    have es : x.2 (T + 17 + 4 * e) 1 = σx.2 (T + 17 + 4 * e) 1 := ux.2.2 _ _ (fun z => by unfold yz_S at z; omega)
    rcases st with ⟨hv, ok, c', c0', sc', hP⟩ | ⟨hv, no⟩
    · obtain ⟨k, rfl⟩ : ∃ k', k = k' + 1 := ⟨k - 1, by omega⟩
      obtain ⟨k', rfl⟩ : ∃ k'', k' = k'' + 1 := ⟨k' - 1, by omega⟩
      have hF := hM.upd u
      have hG := hX.upd ux
      have e15 : fz_X11_eqAt τ 804 e = some (16 * s + e) := by
        rw [← m6]; unfold fz_X11_eqAt; rw [u.2.2 804 15 (fun z => by unfold yz_F at z; omega)]
      have r818 : az_ard τ 818 (16 * s + e) = some (σx.2 (T + 17 + 4 * e) 1) := by
        rw [← n2]; unfold az_ard; rw [u.ln, u.2.2 818 _ (fun z => by unfold yz_F at z; omega)]
      obtain ⟨c1, c2, c3, c4⟩ := cR j j0 (by omega)
      have r816 : az_ard τ 816 (16 * (16 * s + e) + j) = some (σm.2 816 (16 * (16 * s + e) + j)) := by
        rw [← c2]; unfold az_ard; rw [u.ln, u.2.2 816 _ (fun z => by unfold yz_F at z; omega)]
      have gx : az_gref x (T + 17 + 4 * e) 0 = some (T + 17 + 4 * e + 1) := by
        rw [← R3]; unfold az_gref; rw [ux.2.2 (T + 17 + 4 * e) 0 (fun z => by unfold yz_S at z; omega)]
      have rx : az_ard x (T + 17 + 4 * e + 1) j = some (σx.2 (T + 17 + 4 * e + 1) j) := by
        rw [← c1]; unfold az_ard; rw [ux.ln, ux.2.2 _ _ (fun z => by unfold yz_S at z; omega)]
      have l816 := ln_816 hF
      have l838 := ln_838 hF
      have l839 := ln_839 hF
      have l840 := ln_840 hF
      have l252 := ln_252 hG
      have isv := ez_isVarM (σ := τ) (m := σm.2 816 (16 * (16 * s + e) + j))
      have wo : az_w32 (16 * (16 * s + e) + j) = 16 * (16 * s + e) + j := az_w32_id (by omega) (by omega)
      have wj : az_w32 (j + 1) = j + 1 := az_w32_id (by omega) (by omega)
      have e816 : τ.2 816 (16 * (16 * s + e) + j) = σm.2 816 (16 * (16 * s + e) + j) := u.2.2 _ _ (fun z => by unfold yz_F at z; omega)
      by_cases c : 1000 ≤ σm.2 816 (16 * (16 * s + e) + j)
      · have c6 := hm j j0 (by omega) c
        obtain ⟨w, hw⟩ : ∃ w, w = σm.2 816 (16 * (16 * s + e) + j) - 1000 := ⟨_, rfl⟩
        have e838 : τ.2 838 w = σm.2 838 w := u.2.2 _ _ (fun z => by unfold yz_F at z; omega)
        have e839 : τ.2 839 w = σm.2 839 w := u.2.2 _ _ (fun z => by unfold yz_F at z; omega)
        have e252 : x.2 252 w = σx.2 252 w := ux.2.2 _ _ (fun z => by unfold yz_S at z; omega)
        have wv : 0 ≤ w ∧ w < σx.2 (T + 8) e ∧ σx.2 (T + 17 + 4 * e + 1) j = -w - 1 := by
          rcases c3 with q | q | q | q
          · have := q.2.2.2
            unfold bz_VE at this
            omega
          · have := ht.2.1; omega
          · have := ht.2.2.2.1; omega
          · omega
        obtain ⟨wv0, wv1, wv2⟩ := wv
        obtain ⟨z252, z, z0, z1, z2, z3, z4, z5, z6⟩ := (hB w wv0 (by omega)).resolve_left (fun q => hb w wv0 wv1 q.1)
        have k1 : ∀ k, x.2 244 k = σx.2 244 k := fun k => ux.2.2 _ _ (fun z => by unfold yz_S at z; omega)
        have k2 : ∀ k, x.2 (244 + 1) k = σx.2 (244 + 1) k := fun k => ux.2.2 _ _ (fun z => by unfold yz_S at z; omega)
        have k3 : bz_ra x 244 = bz_ra σx 244 := funext fun k => by unfold bz_ra; rw [k2]
        have hrw : bz_rw x 244 := by have := hR.1; unfold bz_rw at this ⊢; simp only [k1, k2]; exact this
        have hend := bz_end (r := 244) (i := σx.2 252 w) (d := z) hG hrw z252 (by rw [k1, hR.2.1]; exact z1) (by rw [k3]; exact z2)
        have e840 : ∀ i, τ.2 840 i = σm.2 840 i := fun i => u.2.2 _ _ (fun z => by unfold yz_F at z; omega)
        obtain ⟨v', x', τ', p1, p2, p3, p4, p5⟩ := yz_app (Rl := yz_rl σm T s V Q) (q := 244) (a := σx.2 252 w) (b := σx.2 252 w + z) (A := 840) (o := σm.2 838 w) hG hF (by decide) (by decide) (by have := hrw.2.2.1; exact this) z252 (by omega) (by rw [k1, hR.2.1]; exact z1) ⟨by decide, by decide⟩ z4 (by omega) (by omega) ok (fun i i0 i1 => by
          rw [k2, e840]
          have := z6 i.toNat (by omega)
          rw [show ((i.toNat : Nat) : Int) = i by omega] at this
          rw [this]
          exact ⟨hR.2.2.2.1 (σm.2 838 w + i) (by omega) (by omega), hQ0 _ (by omega) (by omega)⟩)
        rw [show σx.2 252 w + (z : Int) - σx.2 252 w = z by omega] at p2 p5
        have arj : bz_ra σx (T + 17 + 4 * e) j = 0 := by unfold bz_ra; rw [wv2]; unfold bz_ar; exact if_pos (by omega)
        have p6 : (v' = 1 ∧ yz_ok (yz_rl σm T s V Q) x' τ' (m + z) ∧ yz_left (bz_ra σx (T + 17 + 4 * e)) (bz_ra x' 246) d (j + 1) (m + z) K) ∨ (v' = 0 ∧ yz_no τ') := by
          refine p5.imp (fun ⟨q1, q2, q3, q4⟩ => ⟨q1, q2, c' - 1, by have := sc'.1; omega, ?_, ?_⟩) id
          · have := sc'.2
            rw [arj, show c' - 1 + 0 = c' - 1 by omega] at this
            exact this
          · refine yz_P.part (a := bz_ra x 246) ok.2.2.1 (by rw [show 1 + (c' - 1 + K) = c' + K by omega]; exact hP) (by have := sc'.1; omega) (fun i i0 i1 => by unfold bz_ra; rw [show (246 : Int) + 1 = 247 from rfl, q3 i i0 i1]) ?_
            refine bz_Sc.shift (a := bz_ra σx 244) (i := σx.2 252 w) (fun i i0 i1 => ?_) z2
            unfold bz_ra
            rw [show (246 : Int) + 1 = 247 from rfl, q4 i i0 (by omega), k2]
        obtain ⟨v2, x2, τ2, m2', y1, y2, y3, y4, y5⟩ := ih k k' x' τ' v' (m + z) (j + 1) (by omega) (by omega) (by omega) (by omega) (ux.trans p3) (u.trans p4) p6
        refine ⟨v2, x2, τ2, m2', ?_, ?_, y3, y4, y5⟩
        · rw [← y1]
          conv => lhs; unfold fz_X5_rewrite_88
          rw [es, if_pos (by omega), if_neg (by omega), gx, Option.bind_some, rx, Option.bind_some, if_pos rfl, if_pos (by omega), bz_xor c4.1 c4.2, wv2, show -(-w - 1) - 1 = w by omega, if_pos (by omega), fx_243_15 hG, Option.bind_some, bz_ard wv0 (by omega), Option.bind_some, e252, fx_243_10 hG, Option.bind_some, fx_243_3 hG, Option.bind_some, Option.bind_some, hend, Option.bind_some, p1, Option.bind_some, wj]
        · rw [← y2]
          conv => lhs; unfold fz_X11_makes_82
          rw [fx_804_28 hF, Option.bind_some, e15, Option.bind_some, r818, Option.bind_some, if_pos (by omega), fx_804_26 hF, Option.bind_some, wo, r816, Option.bind_some, isv.1 c, Option.bind_some, if_neg (show ¬ (1 : Int) = 0 by decide), fx_804_68 hF, Option.bind_some, fx_804_66 hF, Option.bind_some, az_w32_id (z := σm.2 816 (16 * (16 * s + e) + j) - 1000) (by omega) (by omega), ← hw, bz_ard (a := 838) wv0 (by omega), Option.bind_some, fx_804_67 hF, Option.bind_some, bz_ard (a := 839) wv0 (by omega), Option.bind_some, e838, e839, z3, p2, Option.bind_some, wj]
      · have cc : 0 ≤ σx.2 (T + 17 + 4 * e + 1) j ∧ bz_cr (bz_ct σm s) (bz_ft σm s) (σm.2 T 0) (σm.2 T 1) V (σx.2 (T + 17 + 4 * e + 1) j) (σm.2 816 (16 * (16 * s + e) + j)) := by
          rcases c3 with q | q | q | q
          · omega
          · have := ht.2.2.2.2.1 (σm.2 816 (16 * (16 * s + e) + j) - 100) (by omega) (by omega)
            exact ⟨by omega, Or.inr (Or.inl q)⟩
          · have := ht.2.2.2.2.2 (σm.2 816 (16 * (16 * s + e) + j) - 200) (by omega) (by omega)
            exact ⟨by omega, Or.inr (Or.inr (Or.inl q))⟩
          · omega
        obtain ⟨v', x', τ', p1, p2, p3, p4, p5⟩ := yz_app1 (c := σx.2 (T + 17 + 4 * e + 1) j) (A := 816) (o := 16 * (16 * s + e) + j) hG hF ⟨by decide, by decide⟩ (by omega) (by omega) (by omega) ok (by rw [e816]; exact ⟨cc.2, hQ _ (by omega)⟩)
        have p6 : (v' = 1 ∧ yz_ok (yz_rl σm T s V Q) x' τ' (m + 1) ∧ yz_left (bz_ra σx (T + 17 + 4 * e)) (bz_ra x' 246) d (j + 1) (m + 1) K) ∨ (v' = 0 ∧ yz_no τ') := by
          refine p5.imp (fun ⟨q1, q2, q3, q4⟩ => ⟨q1, q2, c' - 1 + bz_ra σx (T + 17 + 4 * e) j, by have := sc'.1; have := bz_ra0 (σ := σx) (r := T + 17 + 4 * e) j; omega, sc'.2, ?_⟩) id
          have := yz_P.one (a' := bz_ra x' 246) ok.2.2.1 hP (by have := sc'.1; omega) (fun i i0 i1 => by unfold bz_ra; rw [show (246 : Int) + 1 = 247 from rfl, q3 i i0 i1])
          rw [show bz_ra x' 246 m = bz_ra σx (T + 17 + 4 * e) j by unfold bz_ra; rw [show (246 : Int) + 1 = 247 from rfl, q4]] at this
          rw [show c' - 1 + bz_ra σx (T + 17 + 4 * e) j + K = c' + K - 1 + bz_ra σx (T + 17 + 4 * e) j by omega]
          exact this
        obtain ⟨v2, x2, τ2, m2', y1, y2, y3, y4, y5⟩ := ih k k' x' τ' v' (m + 1) (j + 1) (by omega) (by omega) (by omega) (by omega) (ux.trans p3) (u.trans p4) p6
        refine ⟨v2, x2, τ2, m2', ?_, ?_, y3, y4, y5⟩
        · rw [← y1]
          conv => lhs; unfold fz_X5_rewrite_88
          rw [es, if_pos (by omega), if_neg (by omega), gx, Option.bind_some, rx, Option.bind_some, if_pos rfl, if_neg (by omega), fx_243_10 hG, Option.bind_some, p1, Option.bind_some, wj]
        · rw [← y2]
          conv => lhs; unfold fz_X11_makes_82
          rw [fx_804_28 hF, Option.bind_some, e15, Option.bind_some, r818, Option.bind_some, if_pos (by omega), fx_804_26 hF, Option.bind_some, wo, r816, Option.bind_some, isv.2 c, Option.bind_some, if_pos rfl, Option.bind_some, p2, Option.bind_some, wj]
    · obtain ⟨k, rfl⟩ : ∃ k', k = k' + 1 := ⟨k - 1, by omega⟩
      obtain ⟨τ', t1, t2, t3⟩ := noL (d + 1) k' τ j hk' j0 hj u no
      refine ⟨0, x, τ', m, ?_, t1, ux, t2, Or.inr ⟨rfl, t3⟩⟩
      unfold fz_X5_rewrite_88
      rw [es, if_pos (by omega), if_pos hv, hv]
end ML
