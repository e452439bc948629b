/-! the right side is laid: the reference goes on where no room is left -/
section MK
variable {T s n : Int} {V : Int → Int → Prop}
theorem yz_noL {σx σm : az_Hp} {e at' : Int} (ht : bz_tb (bz_ct σm s) (bz_ft σm s) (σm.2 T 0) (σm.2 T 1)) (hE : uz_Eq σx σm T s e) (hM : bz_Fx σm) (hB : rz_B σx σm 244 n) (n60 : n ≤ 60) (hb : ∀ v, 0 ≤ v → v < σx.2 (T + 8) e → σx.2 252 v ≠ -1) (hm : ∀ i, 0 ≤ i → i < σx.2 (T + 17 + 4 * e) 1 → 1000 ≤ σm.2 816 (16 * (16 * s + e) + i) → σm.2 816 (16 * (16 * s + e) + i) < 1006) : ∀ (d k : Nat) (τ : az_Hp) (j : Int), d < k → 0 ≤ j → j + d = σx.2 (T + 17 + 4 * e) 1 → bz_Upd σm τ yz_F → yz_no τ → ∃ τ', fz_X11_makes_82 2000000 k τ 804 e at' (16 * (16 * s + e)) j = fz_X11_makes_170 2000000 τ' 804 at' ∧ bz_Upd σm τ' yz_F ∧ yz_no τ' := by
  obtain ⟨⟨L1, L2, L3⟩, ⟨R1, R2, R3⟩, ⟨V1, V2⟩, ⟨m1, m2, m3, m4, m5, m6⟩, ⟨n1, n2, n3⟩, ⟨b1, b2, b3, b4, b5, b6, b7, b8, b9, b10⟩, cL, cR⟩ := hE
  intro d
  induction d with
  | zero =>
    intro k τ j hk j0 hj u hno
    obtain ⟨k, rfl⟩ : ∃ k', k = k' + 1 := ⟨k - 1, by omega⟩
    have hF := hM.upd u
    have l818 := ln_818 hM
    have e15 : fz_X11_eqAt τ 804 e = some (16 * s + e) := by
      rw [← m6]; unfold fz_X11_eqAt; rw [u.2.2 804 15 (fun z => by unfold yz_F at z; omega)]
    have r818 : az_ard τ 818 (16 * s + e) = some (σx.2 (T + 17 + 4 * e) 1) := by
      rw [← n2]; unfold az_ard; rw [u.ln, u.2.2 818 _ (fun z => by unfold yz_F at z; omega)]
    refine ⟨τ, ?_, u, hno⟩
    unfold fz_X11_makes_82
    rw [fx_804_28 hF, Option.bind_some, e15, Option.bind_some, r818, Option.bind_some, if_neg (by omega)]
  | succ d ih =>
    intro k τ j hk j0 hj u hno
    obtain ⟨k, rfl⟩ : ∃ k', k = k' + 1 := ⟨k - 1, by omega⟩
    have hF := hM.upd u
    have e15 : fz_X11_eqAt τ 804 e = some (16 * s + e) := by
      rw [← m6]; unfold fz_X11_eqAt; rw [u.2.2 804 15 (fun z => by unfold yz_F at z; omega)]
    have r818 : az_ard τ 818 (16 * s + e) = some (σx.2 (T + 17 + 4 * e) 1) := by
      rw [← n2]; unfold az_ard; rw [u.ln, u.2.2 818 _ (fun z => by unfold yz_F at z; omega)]
    obtain ⟨c1, c2, c3, c4⟩ := cR j j0 (by omega)
    have r816 : az_ard τ 816 (16 * (16 * s + e) + j) = some (σm.2 816 (16 * (16 * s + e) + j)) := by
      rw [← c2]; unfold az_ard; rw [u.ln, u.2.2 816 _ (fun z => by unfold yz_F at z; omega)]
    have l816 := ln_816 hF
    have l838 := ln_838 hF
    have l839 := ln_839 hF
    have l840 := ln_840 hF
    have isv := ez_isVarM (σ := τ) (m := σm.2 816 (16 * (16 * s + e) + j))
    have wo : az_w32 (16 * (16 * s + e) + j) = 16 * (16 * s + e) + j := az_w32_id (by omega) (by omega)
    by_cases c : 1000 ≤ σm.2 816 (16 * (16 * s + e) + j)
    · have c6 := hm j j0 (by omega) c
      obtain ⟨w, hw⟩ : ∃ w, w = σm.2 816 (16 * (16 * s + e) + j) - 1000 := ⟨_, rfl⟩
      have e838 : τ.2 838 w = σm.2 838 w := u.2.2 _ _ (fun z => by unfold yz_F at z; omega)
      have e839 : τ.2 839 w = σm.2 839 w := u.2.2 _ _ (fun z => by unfold yz_F at z; omega)
      have wv : 0 ≤ w ∧ w < σx.2 (T + 8) e := by
        rcases c3 with q | q | q | q
        · have := q.2.2.2
          unfold bz_VE at this
          omega
        · have := ht.2.1; omega
        · have := ht.2.2.2.1; omega
        · omega
      obtain ⟨-, z, z0, z1, -, z3, z4, z5, -⟩ := (hB w wv.1 (by omega)).resolve_left (fun q => hb w wv.1 wv.2 q.1)
      obtain ⟨τ', t1, t2, t3⟩ := yz_noF (A := 840) (o := σm.2 838 w) (n := z) hF ⟨by decide, by decide⟩ z4 (by omega) (by omega) (by omega) hno
      obtain ⟨τ2, y1, y2, y3⟩ := ih k τ' (j + 1) (by omega) (by omega) (by omega) (u.trans t2) t3
      refine ⟨τ2, ?_, y2, y3⟩
      rw [← y1]
      conv => lhs; unfold fz_X11_makes_82
      rw [fx_804_28 hF, Option.bind_some, e15, Option.bind_some, r818, Option.bind_some, if_pos (by omega), fx_804_26 hF, Option.bind_some, wo, r816, Option.bind_some, isv.1 c, Option.bind_some, if_neg (show ¬ (1 : Int) = 0 by decide), fx_804_68 hF, Option.bind_some, fx_804_66 hF, Option.bind_some, az_w32_id (z := σm.2 816 (16 * (16 * s + e) + j) - 1000) (by omega) (by omega), ← hw, bz_ard (a := 838) wv.1 (by omega), Option.bind_some, fx_804_67 hF, Option.bind_some, bz_ard (a := 839) wv.1 (by omega), Option.bind_some, e838, e839, z3, t1, Option.bind_some, az_w32_id (by omega) (by omega)]
    · obtain ⟨τ', t1, t2, t3⟩ := yz_noF (A := 816) (o := 16 * (16 * s + e) + j) (n := 1) hF ⟨by decide, by decide⟩ (by omega) (by omega) (by omega) (by omega) hno
      obtain ⟨τ2, z1, z2, z3⟩ := ih k τ' (j + 1) (by omega) (by omega) (by omega) (u.trans t2) t3
      refine ⟨τ2, ?_, z2, z3⟩
      rw [← z1]
      conv => lhs; unfold fz_X11_makes_82
      rw [fx_804_28 hF, Option.bind_some, e15, Option.bind_some, r818, Option.bind_some, if_pos (by omega), fx_804_26 hF, Option.bind_some, wo, r816, Option.bind_some, isv.2 c, Option.bind_some, if_pos rfl, Option.bind_some, t1, Option.bind_some, az_w32_id (by omega) (by omega)]
end MK
