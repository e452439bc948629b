/-! one side laid in two heaps -/
theorem sy_S.c52 {m n p q : az_Hp} {F : Int → Int → Prop} {a b c c' : Int} (h : sy_S m n F a b c c') (pk : ∀ x k, ¬ (x = 804 ∧ k = 52) → p.2 x k = m.2 x k) (qk : ∀ x k, ¬ (x = 804 ∧ k = 52) → q.2 x k = n.2 x k) (ht : bz_tk p = bz_tk m) : sy_S p q F a b c c' := by
  obtain ⟨h1, h2, h3, h4⟩ := h
  refine ⟨by rw [pk 804 49 (by omega), qk 804 49 (by omega)]; exact h1, by rw [pk 804 50 (by omega), qk 804 50 (by omega)]; exact h2, ?_, ?_⟩
  · exact h3.cong ht (Int.le_refl _) (Int.le_refl _) (fun x y _ => ⟨pk _ _ (by omega), qk _ _ (by omega), fun k _ _ => ⟨pk _ _ (by omega), qk _ _ (by omega)⟩⟩)
  · exact h4.cong (fun _ _ z => z) (pk _ _ (by omega)) (qk _ _ (by omega)) (fun q _ _ => ⟨pk _ _ (by omega), pk _ _ (by omega), pk _ _ (by omega)⟩) (fun q _ _ => ⟨qk _ _ (by omega), qk _ _ (by omega), qk _ _ (by omega)⟩)
theorem sy_K.c52 {m p m' : az_Hp} {c a : Int} {P : Int → Prop} (h : sy_K p m' c a P) (pk : ∀ x k, ¬ (x = 804 ∧ k = 52) → p.2 x k = m.2 x k) : sy_K m m' c a P := by
  obtain ⟨h1, h2, h3, h4, h5⟩ := h
  rw [pk 804 50 (by omega)] at h3 h4 h5
  exact ⟨fun x hx => by rw [h1 x hx, pk _ _ (by omega)], fun x x0 x1 np => by rw [h2 x x0 x1 np, pk _ _ (by omega)], h3, fun q q0 q1 => by rw [← pk 827 q (by omega), ← pk 828 q (by omega), ← pk 829 q (by omega)]; exact h4 q q0 q1, h5⟩
theorem sy_run {m n : az_Hp} {F : Int → Int → Prop} {a b c c' A off : Int} {ar : Int → Int} {d : Nat} (hE : sy_Env m n A ar off (off + d)) (hSc : bz_Sc ar d 1 off) (hS : sy_S m n F a b c c') (hd : d ≤ 16) (hc : c ≤ 100) (hc' : c' ≤ 100) :
    ∃ (m' n' : az_Hp) (F' : Int → Int → Prop) (c1 c1' ρ ρ' : Int), fz_X11_builtFrom 2000000 m 804 A off a 0 = some (ρ, m') ∧ fz_X11_builtFrom 2000000 n 804 A off b 0 = some (ρ', n') ∧ sy_Ps m n m' n' F F' a b c c' c1 c1' (fun _ => False) (fun _ => False) 16 ∧ F' ρ ρ' := by
  obtain ⟨p, hp⟩ : ∃ p, p = az_wr m 804 52 off := ⟨_, rfl⟩
  obtain ⟨q, hq⟩ : ∃ q, q = az_wr n 804 52 off := ⟨_, rfl⟩
  have up : bz_Upd m p lz_T := by rw [hp]; exact lz_Tw bz_Upd.refl (by unfold lz_T; omega)
  have uq : bz_Upd n q lz_T := by rw [hq]; exact lz_Tw bz_Upd.refl (by unfold lz_T; omega)
  have pk : ∀ x k, ¬ (x = 804 ∧ k = 52) → p.2 x k = m.2 x k := fun x k z => by rw [hp]; exact az_wr_ne z
  have qk : ∀ x k, ¬ (x = 804 ∧ k = 52) → q.2 x k = n.2 x k := fun x k z => by rw [hq]; exact az_wr_ne z
  obtain ⟨m', n', F', c1, c1', ρ, ρ', run, ⟨u1, w1, ⟨cc1, cc2, cc3⟩, S1, f1, g1, v1, K1, K1'⟩, fρ, -, -⟩ := sy_term d p q F c c' off (hE.upd up uq) (hS.c52 pk qk (sy_tk up)) (by omega) (by omega) (Int.le_refl _) (Int.le_refl _) hSc (by rw [hp, az_wr_same]) (by rw [hq, az_wr_same])
  obtain ⟨r1, r2⟩ := run 200 (by omega)
  refine ⟨m', n', F', c1, c1', ρ, ρ', ?_, ?_, ⟨up.trans u1, uq.trans w1, ⟨cc1, by omega, cc3⟩, S1, f1, g1, v1, K1.c52 pk, K1'.c52 qk⟩, fρ⟩
  · unfold fz_X11_builtFrom
    rw [← hp, r1, Option.bind_some]
  · unfold fz_X11_builtFrom
    rw [← hq, r2, Option.bind_some]
section SR
variable {σx σm m n : az_Hp} {T s e : Int}
theorem sy_tkU {σ σ' : az_Hp} (hU : bz_Upd σ σ' cz_SM) : bz_tk σ' = bz_tk σ := by
  funext q
  unfold bz_tk
  rw [hU.2.2 804 15 (by unfold cz_SM; omega), hU.2.2 812 _ (by unfold cz_SM; omega), hU.2.2 811 _ (by unfold cz_SM; omega)]
theorem sy_env {A r off : Int} {d : Nat} (h : mz_H σx σm T s) (um : bz_Upd σm m cz_SM) (un : bz_Upd σm n cz_SM) (hA : A = 815 ∨ A = 816) (hEn : lz_En (bz_ct σm s) (bz_ft σm s) (σm.2 T 0) (σm.2 T 1) mz_W r 0 0 0 (0 + d) A off σx σm) (hSc : bz_Sc (bz_ra σx r) d 1 0) : sy_Env m n A (fun j => bz_ra σx r (j - off)) off (off + d) ∧ bz_Sc (fun j => bz_ra σx r (j - off)) d 1 off := by
  have eA : ∀ k, m.2 A k = σm.2 A k := fun k => um.2.2 _ _ (by unfold cz_SM; omega)
  have eA' : ∀ k, n.2 A k = σm.2 A k := fun k => un.2.2 _ _ (by unfold cz_SM; omega)
  obtain ⟨t1, t2, t3, t4⟩ := h.tb
  obtain ⟨s0, s1, s2, s3, s4, s5⟩ := hEn.2.2.2.2.2.2.2.1
  refine ⟨⟨⟨h.2.1.upd um, h.2.1.upd un, ?_, ?_⟩, ⟨fun k => ?_, fun k => ?_, fun k => by rw [eA, eA']⟩, ⟨s2, by rw [um.ln]; omega, by rw [un.ln]; omega, by rw [um.ln]; exact s4, by omega⟩, fun j => ?_, fun j j0 j1 => ?_⟩, ?_⟩
  · unfold bz_sd at t1 ⊢; rw [um.2.2 804 15 (by unfold cz_SM; omega)]; exact t1
  · rw [un.2.2 804 15 (by unfold cz_SM; omega), um.2.2 804 15 (by unfold cz_SM; omega)]
  · rw [un.2.2 811 k (by unfold cz_SM; omega), um.2.2 811 k (by unfold cz_SM; omega)]
  · rw [un.2.2 812 k (by unfold cz_SM; omega), um.2.2 812 k (by unfold cz_SM; omega)]
  · exact @bz_ar_rng (σx.2 (r + 1) (j - off))
  · have q := hEn.tk (j := j - off) (by omega) (by omega)
    have c := (hEn.2.2.2.2.2.2.2.2.1 (j - off) (by omega) (by omega)).mc t2
    rw [show off + (j - off) = j by omega] at q c
    rw [eA, sy_tkU um]
    exact ⟨c, q.2.2.1⟩
  · exact hSc.shift (fun j j0 j1 => by show _ = bz_ra σx r (off + j - off); rw [show off + j - off = 0 + j by omega])
variable {F : Int → Int → Prop} {a b c c' : Int}
theorem sy_left (h : mz_H σx σm T s) (um : bz_Upd σm m cz_SM) (un : bz_Upd σm n cz_SM) (e0 : 0 ≤ e) (e1 : e < σx.2 T 2) (hS : sy_S m n F a b c c') (hc : c ≤ 100) (hc' : c' ≤ 100) :
    ∃ (m' n' : az_Hp) (F' : Int → Int → Prop) (c1 c1' ρ ρ' : Int), fz_X11_leftNode 2000000 m 804 e a = some (ρ, m') ∧ fz_X11_leftNode 2000000 n 804 e b = some (ρ', n') ∧ sy_Ps m n m' n' F F' a b c c' c1 c1' (fun _ => False) (fun _ => False) 16 ∧ F' ρ ρ' := by
  have hr := h.r e0 e1
  have sz : 0 ≤ σx.2 (T + 15 + 4 * e) 1 := hr.2.2.2.2.2.2.1.2.1
  have n3 := hr.2.2.2.2.2.2.2.2.2.2
  have hs := h.2.2.1.2.1
  obtain ⟨a1, a2, a3⟩ := mz_EnL (who := 0) h e0 e1 (d := (σx.2 (T + 15 + 4 * e) 1).toNat) (by omega)
  obtain ⟨b1, b2⟩ := sy_env h um un (Or.inl rfl) a1 a2
  obtain ⟨m', n', F', c1, c1', ρ, ρ', r1, r2, r3, r4⟩ := sy_run b1 b2 hS a3 hc hc'
  have Hm : mz_H σx m T s := h.upd (bz_Upd.refl (S := cz_SJ)) um (fun _ _ q => q) (fun _ _ q => q)
  have Hn : mz_H σx n T s := h.upd (bz_Upd.refl (S := cz_SJ)) un (fun _ _ q => q) (fun _ _ q => q)
  have ref := mz_leftRef Hm e0 e1
  have ref' := mz_leftRef Hn e0 e1
  refine ⟨m', n', F', c1, c1', ρ, ρ', ?_, ?_, r3, r4⟩
  · unfold fz_X11_leftNode
    rw [ref.2.2.2.2.1, Option.bind_some, ref.2.2.2.2.2.2, Option.bind_some, az_w32_id (by omega) (by omega), r1, Option.bind_some]
  · unfold fz_X11_leftNode
    rw [ref'.2.2.2.2.1, Option.bind_some, ref'.2.2.2.2.2.2, Option.bind_some, az_w32_id (by omega) (by omega), r2, Option.bind_some]
theorem sy_right (h : mz_H σx σm T s) (um : bz_Upd σm m cz_SM) (un : bz_Upd σm n cz_SM) (e0 : 0 ≤ e) (e1 : e < σx.2 T 2) (hS : sy_S m n F a b c c') (hc : c ≤ 100) (hc' : c' ≤ 100) :
    ∃ (m' n' : az_Hp) (F' : Int → Int → Prop) (c1 c1' ρ ρ' : Int), fz_X11_rightNode 2000000 m 804 e a 0 = some (ρ, m') ∧ fz_X11_rightNode 2000000 n 804 e b 0 = some (ρ', n') ∧ sy_Ps m n m' n' F F' a b c c' c1 c1' (fun _ => False) (fun _ => False) 16 ∧ F' ρ ρ' := by
  have hr := h.r e0 e1
  have sz : 0 ≤ σx.2 (T + 17 + 4 * e) 1 := hr.2.2.2.2.2.2.2.1.2.1
  have n3 := hr.2.2.2.2.2.2.2.2.2.2
  have hs := h.2.2.1.2.1
  obtain ⟨a1, a2, a3⟩ := mz_EnR (who := 0) (fl := 0) h e0 e1 (Or.inl rfl) (d := (σx.2 (T + 17 + 4 * e) 1).toNat) (by omega)
  obtain ⟨b1, b2⟩ := sy_env h um un (Or.inr rfl) a1 a2
  obtain ⟨m', n', F', c1, c1', ρ, ρ', r1, r2, r3, r4⟩ := sy_run b1 b2 hS a3 hc hc'
  have Hm : mz_H σx m T s := h.upd (bz_Upd.refl (S := cz_SJ)) um (fun _ _ q => q) (fun _ _ q => q)
  have Hn : mz_H σx n T s := h.upd (bz_Upd.refl (S := cz_SJ)) un (fun _ _ q => q) (fun _ _ q => q)
  have ref := mz_leftRef Hm e0 e1
  have ref' := mz_leftRef Hn e0 e1
  refine ⟨m', n', F', c1, c1', ρ, ρ', ?_, ?_, r3, r4⟩
  · unfold fz_X11_rightNode
    rw [ref.2.2.2.2.2.1, Option.bind_some, ref.2.2.2.2.2.2, Option.bind_some, az_w32_id (by omega) (by omega), r1, Option.bind_some]
  · unfold fz_X11_rightNode
    rw [ref'.2.2.2.2.2.1, Option.bind_some, ref'.2.2.2.2.2.2, Option.bind_some, az_w32_id (by omega) (by omega), r2, Option.bind_some]
end SR
/-- more is laid in other spaces: what is the same stays so -/
theorem sy_S.move {m n m' n' : az_Hp} {F : Int → Int → Prop} {a b c c' d d' a2 b2 : Int} (h : sy_S m n F a b c c') (ht : bz_tk m' = bz_tk m) (hm : sy_K m m' c a2 (fun _ => False)) (hn : sy_K n n' c' b2 (fun _ => False)) (na : a2 ≠ a) (nb : b2 ≠ b) (e1 : m'.2 804 49 = d) (e2 : n'.2 804 49 = d') (cd : c ≤ d) (cd' : c' ≤ d') (t1 : m'.2 804 50 ≤ d) (t2 : n'.2 804 50 ≤ d') : sy_S m' n' F a b d d' := by
  obtain ⟨⟨h1, h2, h3, h4⟩, ⟨h5, h6, h7, h8⟩, h9, v1, v2, v3⟩ := h
  obtain ⟨a1, a2', a3, a4, a5⟩ := hm
  obtain ⟨b1, b2', b3, b4, b5⟩ := hn
  refine ⟨⟨e1, e2, by omega, by omega⟩, ⟨by omega, t1, by omega, t2⟩, ?_, ?_⟩
  · refine h9.cong ht cd cd' (fun x y z => ?_)
    obtain ⟨i1, i2, -, -⟩ := h9.1 x y z
    have l1 := i1.1
    have l2 := i1.2
    have l3 := i2.1
    have l4 := i2.2
    exact ⟨a1 x i1, b1 y i2, fun k k0 k1 => ⟨a2' _ (by omega) (by omega) (fun z => z), b2' _ (by omega) (by omega) (fun z => z)⟩⟩
  · have om : ∀ q, 0 ≤ q → q < m'.2 804 50 → m'.2 827 q = a → q < m.2 804 50 := fun q q0 q1 qa => by
      by_cases z : q < m.2 804 50
      · exact z
      · exfalso
        have := a5 q (by omega) q1
        omega
    have on : ∀ q, 0 ≤ q → q < n'.2 804 50 → n'.2 827 q = b → q < n.2 804 50 := fun q q0 q1 qa => by
      by_cases z : q < n.2 804 50
      · exact z
      · exfalso
        have := b5 q (by omega) q1
        omega
    refine ⟨fun q p q0 q1 p0 p1 qa pb e => ?_, fun q q0 q1 qa => ?_, fun p p0 p1 pb => ?_⟩
    · have q2 := om q q0 q1 qa
      have p2 := on p p0 p1 pb
      obtain ⟨r1, r2, r3⟩ := a4 q q0 q2
      obtain ⟨s1, s2, s3⟩ := b4 p p0 p2
      rw [r3, s3]
      exact v1 q p q0 q2 p0 p2 (by rw [← r1]; exact qa) (by rw [← s1]; exact pb) (by rw [← r2, ← s2]; exact e)
    · have q2 := om q q0 q1 qa
      obtain ⟨r1, r2, r3⟩ := a4 q q0 q2
      obtain ⟨p, p0, p1, p2, p3⟩ := v2 q q0 q2 (by rw [← r1]; exact qa)
      obtain ⟨s1, s2, s3⟩ := b4 p p0 p1
      exact ⟨p, p0, by omega, by rw [s1]; exact p2, by rw [r2, s2]; exact p3⟩
    · have p2 := on p p0 p1 pb
      obtain ⟨s1, s2, s3⟩ := b4 p p0 p2
      obtain ⟨q, q0, q1, q2, q3⟩ := v3 p p0 p2 (by rw [← s1]; exact pb)
      obtain ⟨r1, r2, r3⟩ := a4 q q0 q1
      exact ⟨q, q0, by omega, by rw [r1]; exact q2, by rw [r2, s2]; exact q3⟩
