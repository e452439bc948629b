/-! the end of a rewriting: what lies behind the place -/
theorem yz_gC {σx σm σx' σm' : az_Hp} {T s : Int} {S S' : Int → Int → Prop} (h : rz_C σx σm T s) (hx : bz_Upd σx σx' S) (hm : bz_Upd σm σm' S') (hs : ∀ a k, S a k → ¬ nz_t a ∧ a ≠ 14 ∧ a ≠ 93 ∧ ¬ (a = 243 ∧ k = 2)) (hs' : ∀ a k, S' a k → ¬ nz_t a ∧ ¬ (806 ≤ a ∧ a ≤ 819) ∧ ¬ (a = 804 ∧ k = 15) ∧ a ≠ 835) : rz_C σx' σm' T s := by
  obtain ⟨h1, h2, h3⟩ := h
  have hT := h1.2.2.1.1
  have ex : ∀ a k, a = T ∨ a = T + 7 ∨ a = T + 11 ∨ (a = 243 ∧ k = 2) → σx'.2 a k = σx.2 a k := fun a k q => hx.2.2 a k (fun c => by have := hs a k c; unfold nz_t at this; omega)
  have em : ∀ k, σm'.2 835 k = σm.2 835 k := fun k => hm.2.2 _ k (fun c => by have := hs' _ k c; omega)
  refine ⟨h1.gen hx hm (fun a k q => (hs a k q).1) (fun a k q => by have := hs' a k q; exact ⟨this.1, this.2.1, this.2.2.1⟩), by rw [ex _ _ (by omega)]; exact h2, fun i e => ?_⟩
  rw [ex T 2 (by omega), ex (T + 7) i (by omega), ex (T + 7) e (by omega), ex (T + 11) _ (by omega), em]
  exact h3 i e
theorem yz_gR {σx σm σx' σm' : az_Hp} {T s n r A : Int} {V : Int → Int → Prop} {S S' : Int → Int → Prop} (h : rz_R σx σm T s V r A n) (hT : T = 3 ∨ T = 82) (hx : bz_Upd σx σx' S) (hm : bz_Upd σm σm' S') (hs : ∀ a k, S a k → a ≠ r ∧ a ≠ r + 1) (hs' : ∀ a k, S' a k → ¬ nz_t a ∧ ¬ (806 ≤ a ∧ a ≤ 819) ∧ a ≠ A) : rz_R σx' σm' T s V r A n := by
  obtain ⟨a1, a2, a3, a4, a5, a6, a7, a8⟩ := h
  have k1 : ∀ k, σx'.2 r k = σx.2 r k := fun k => hx.2.2 _ _ (fun c => by have := hs _ _ c; omega)
  have k2 : ∀ k, σx'.2 (r + 1) k = σx.2 (r + 1) k := fun k => hx.2.2 _ _ (fun c => by have := hs _ _ c; omega)
  have k3 : bz_ra σx' r = bz_ra σx r := funext fun k => by unfold bz_ra; rw [k2]
  have tS : bz_tS σm σm' := fun a k q => hm.2.2 a k (fun c => by have := hs' _ _ c; unfold nz_t at this; omega)
  refine ⟨by unfold bz_rw at a1 ⊢; simp only [k1, k2]; exact a1, by rw [k1]; exact a2, a3, fun i i0 i1 => ?_, by rw [k3]; exact a5, by rw [hm.ln]; exact a6, a7, a8⟩
  rw [bz_ct_tS tS, bz_ft_tS tS, tS T 0 (by omega), tS T 1 (by omega), k2, hm.2.2 A i (fun c => by have := hs' _ _ c; omega)]
  exact a4 i i0 i1
theorem yz_size {σx σm : az_Hp} {T s n r A : Int} {V : Int → Int → Prop} (hR : rz_R σx σm T s V r A n) (hH : mz_H σx σm T s) {d : Nat} {i : Int} (i0 : 0 ≤ i) (hd : i + d ≤ n) (hS : bz_Sc (bz_ra σx r) d 1 i) : fz_X11_sizeAt 2000000 σm 804 A i = some (d : Int) := by
  have En : lz_En (bz_ct σm s) (bz_ft σm s) (σm.2 T 0) (σm.2 T 1) (fun _ => V) r 0 0 0 n A 0 σx σm := hR.en hH (Or.inl rfl) rfl (by omega) (by omega)
  have := En.size i0 hd hS
  rw [Int.zero_add] at this
  exact this
section EN
variable {T s n : Int} {V : Int → Int → Prop} {Q : Int → Prop}
def yz_new (Rl : Int → Int → Prop) (x τ : az_Hp) (m : Int) : Prop := (1 ≤ m ∧ m ≤ 60) ∧ x.2 244 1 = m ∧ τ.2 804 71 = m ∧ (∀ i, 0 ≤ i → i < m → Rl (x.2 245 i) (τ.2 841 i)) ∧ bz_Sc (bz_ra x 244) m.toNat 1 0
theorem yz_end {σx σm x τ : az_Hp} {p K v m : Int} {z d2 : Nat} (hQ0 : ∀ i, 0 ≤ i → i < n → Q (σm.2 840 i)) (hH : mz_H σx σm T s) (hR : rz_R σx σm T s V 244 840 n) (h70 : σm.2 804 70 = n) (h8 : σx.2 243 8 = p) (p0 : 0 ≤ p) (hz : bz_Sc (bz_ra σx 244) z 1 p) (hd : bz_Sc (bz_ra σx 244) d2 K (p + z)) (hn : p + z + d2 = n) (ux : bz_Upd σx x (yz_S 246)) (u : bz_Upd σm τ yz_F) (st : (v = 1 ∧ yz_ok (yz_rl σm T s V Q) x τ m ∧ yz_P (bz_ra x 246) m K) ∨ (v = 0 ∧ yz_no τ)) :
    ∃ v' x' τ', fz_X5_rewrite_181 2000000 x 243 v = some (v', x') ∧ fz_X11_makes_170 2000000 τ 804 p = some (v', τ') ∧ bz_Upd σm τ' yz_F ∧ ((v' = 0 ∧ bz_Upd σx x' (yz_S 246)) ∨ (v' = 1 ∧ bz_Upd σx x' (fun a k => yz_S 246 a k ∨ yz_S 244 a k) ∧ ∃ m', yz_new (yz_rl σm T s V Q) x' τ' m')) := by
  have hT := hH.2.2.1.1
  have hX := hH.1.upd ux
  have hM := hH.2.1.upd u
  have H' : mz_H x τ T s := hH.gen ux u (fun a k q => by unfold yz_S at q; unfold nz_t; omega) (fun a k q => by unfold yz_F at q; unfold nz_t; omega)
  have R' : rz_R x τ T s V 244 840 n := yz_gR hR hT ux u (fun a k q => by unfold yz_S at q; omega) (fun a k q => by unfold yz_F at q; unfold nz_t; omega)
  have k2 : ∀ k, x.2 245 k = σx.2 245 k := fun k => ux.2.2 _ _ (fun z => by unfold yz_S at z; omega)
  have k3 : bz_ra x 244 = bz_ra σx 244 := funext fun k => by unfold bz_ra; rw [show (244 : Int) + 1 = 245 from rfl, k2]
  have n60 := hR.2.2.1.2
  have z0 := hz.pos (by omega)
  have e840 : ∀ i, τ.2 840 i = σm.2 840 i := fun i => u.2.2 _ _ (fun z => by unfold yz_F at z; omega)
  have l840 := ln_840 hM
  have sz := yz_size R' H' p0 (d := z) (by omega) (by rw [k3]; exact hz)
  have e70 : τ.2 804 70 = n := by rw [u.2.2 804 70 (fun z => by unfold yz_F at z; omega)]; exact h70
  have w1 : az_w32 (p + z) = p + z := az_w32_id (by omega) (by omega)
  have w2 : az_w32 (n - (p + z)) = n - (p + z) := az_w32_id (by omega) (by omega)
  have runM : ∀ τ', fz_X11_follows 2000000 τ 804 840 (p + z) (n - (p + z)) = some τ' → fz_X11_makes_170 2000000 τ 804 p = if τ'.2 804 74 = 0 then some (1, τ') else some (0, τ') := by
    intro τ' h
    unfold fz_X11_makes_170
    rw [fx_804_68 hM, Option.bind_some, sz, Option.bind_some, Option.bind_some, w1, e70, w2, h, Option.bind_some]
  rcases st with ⟨hv, ok, hP⟩ | ⟨hv, no⟩
  · have s244 : x.2 244 1 = n := R'.2.1
    obtain ⟨v', x', τ', q1, q2, q3, q4, q5⟩ := yz_app (Rl := yz_rl σm T s V Q) (q := 244) (a := p + z) (b := n) (A := 840) (o := p + z) hX hM (by decide) (by decide) (by rw [s244]; exact n60) (by omega) (by omega) (by omega) ⟨by decide, by decide⟩ (by omega) (by omega) (by omega) ok (fun i i0 i1 => by
      rw [show (244 : Int) + 1 = 245 from rfl, k2, e840]
      exact ⟨hR.2.2.2.1 (p + z + i) (by omega) (by omega), hQ0 _ (by omega) (by omega)⟩)
    have rM := runM τ' q2
    have hend := bz_end (r := 244) (i := p) (d := z) hX R'.1 p0 (by omega) (by rw [k3]; exact hz)
    have e8 : x.2 243 8 = p := by rw [ux.2.2 243 8 (fun z => by unfold yz_S at z; omega)]; exact h8
    have runX : fz_X5_rewrite_181 2000000 x 243 v = (if v' = 0 then (some (0, x')) else ((fz_X7_take x' 244 246).bind fun r9 => (some (1, r9)))) := by
      have hX' := hX.upd q3
      unfold fz_X5_rewrite_181
      rw [if_neg (by omega), fx_243_10 hX, Option.bind_some, fx_243_3 hX, Option.bind_some, Option.bind_some, e8, hend, Option.bind_some, Option.bind_some, s244, q1, Option.bind_some, fx_243_3 hX', Option.bind_some, fx_243_10 hX', Option.bind_some]
    rcases q5 with ⟨hv', ok', e1, e2⟩ | ⟨hv', no'⟩
    · obtain ⟨o1, o2, o3, o4, o5, o6⟩ := ok'
      have c246 : bz_cap 246 = 60 := by decide
      have c244 : bz_cap 244 = 60 := by decide
      obtain ⟨x2, t1, t2, t3, t4⟩ := yz_take (r := 244) (q := 246) (hX.upd q3) (by omega) (by omega) (by decide) (by omega) (by omega) (by omega)
      rw [o1] at t3 t4
      have fin : bz_Sc (bz_ra x2 244) (m.toNat + d2) 1 0 := by
        refine hP (bz_ra x2 244) d2 (fun i i0 i1 => ?_) ?_
        · unfold bz_ra
          rw [t4 i i0 (by omega), show (246 : Int) + 1 = 247 from rfl, e1 i i0 i1]
        · refine bz_Sc.shift (a := bz_ra σx 244) (i := p + z) (fun j j0 j1 => ?_) hd
          unfold bz_ra
          have m0 := ok.2.2.1
          rw [t4 (m + j) (by omega) (by omega), show (246 : Int) + 1 = 247 from rfl, e2 j j0 (by omega), show (244 : Int) + 1 = 245 from rfl, k2]
      have m0 := ok.2.2.1
      have em : (m + (n - (p + z))).toNat = m.toNat + d2 := by omega
      have p1 := fin.pos (by omega)
      refine ⟨1, x2, τ', ?_, ?_, u.trans q4, Or.inr ⟨rfl, ((ux.trans q3).weak fun _ _ z => Or.inl z).trans (t2.weak fun _ _ z => Or.inr z), m + (n - (p + z)), ⟨by omega, o4⟩, t3, o2, fun i i0 i1 => ?_, by rw [em]; exact fin⟩⟩
      · rw [runX, hv', if_neg (by decide), t1, Option.bind_some]
      · rw [rM, o5, if_pos rfl]
      · rw [show (245 : Int) = 244 + 1 from rfl, t4 i i0 i1, show (246 : Int) + 1 = 247 from rfl]
        exact o6 i i0 i1
    · refine ⟨0, x', τ', ?_, ?_, u.trans q4, Or.inl ⟨rfl, ux.trans q3⟩⟩
      · rw [runX, hv', if_pos rfl]
      · rw [rM, no'.2, if_neg (by decide)]
  · obtain ⟨τ', q1, q2, q3⟩ := yz_noF (A := 840) (o := p + z) (n := n - (p + z)) hM ⟨by decide, by decide⟩ (by omega) (by omega) (by omega) (by omega) no
    refine ⟨0, x, τ', ?_, ?_, u.trans q2, Or.inl ⟨rfl, ux⟩⟩
    · unfold fz_X5_rewrite_181
      rw [if_pos hv]
    · rw [runM τ' q1, q3.2, if_neg (by decide)]
end EN
