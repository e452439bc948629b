-- ends: both left sides are trees
/-- all VARIABLES of an equation are in the table -/
def tr_V (σ n : az_Hp) (T e who : Int) : Prop := ∀ v, 0 ≤ v → v < σ.2 (T + 8) e → ∃ q, 0 ≤ q ∧ q < n.2 804 50 ∧ n.2 827 q = who ∧ n.2 828 q = 1000 + v
def tr_P7 (m m' : az_Hp) : Prop := m.2 804 50 ≤ m'.2 804 50 ∧ ∀ q, 0 ≤ q → q < m.2 804 50 → m'.2 827 q = m.2 827 q ∧ m'.2 828 q = m.2 828 q
theorem tr_V.mono {σ n n' : az_Hp} {T e who : Int} (h : tr_V σ n T e who) (p : tr_P7 n n') : tr_V σ n' T e who := fun v v0 v1 => by
  obtain ⟨q, q0, q1, q2, q3⟩ := h v v0 v1
  have w := p.2 q q0 q1
  exact ⟨q, q0, by have := p.1; omega, by rw [w.1]; exact q2, by rw [w.2]; exact q3⟩
theorem tr_left {σx σm m : az_Hp} {T s e who c : Int} (h : mz_H σx σm T s) (um : bz_Upd σm m cz_SM) (e0 : 0 ≤ e) (e1 : e < σx.2 T 2) (hS : tr_St m c) (hc : c ≤ 100) :
    ∃ (m' : az_Hp) (c1 ρ : Int) (d : Nat), fz_X11_leftNode 2000000 m 804 e who = some (ρ, m') ∧ (1 ≤ d ∧ d ≤ 16) ∧ tr_Ps m m' c c1 d (fun _ => False) ∧ tr_Q m' (fun x k => tr_sl m' x k ∧ c ≤ x ∧ x < c1) c1 ∧ tr_n m' c (c1 - c).toNat = d - 1 ∧ dz_In c1 ρ ∧ (m'.2 823 ρ < 1000 ∧ m'.2 823 ρ = σm.2 815 (16 * (16 * s + e))) ∧ ρ = c ∧ tr_R m' c c1 (fun x => x = ρ) ∧ tr_P7 m m' ∧ tr_V σm m' T e who ∧ (tr_Un m → tr_Un m') := by
  have hr := h.r e0 e1
  have sz : 0 ≤ σx.2 (T + 15 + 4 * e) 1 := hr.2.2.2.2.2.2.1.2.1
  have n3 := hr.2.2.2.2.2.2.2.2.2.2
  have hs := h.2.2.1.2.1
  obtain ⟨a1, a2, a3⟩ := mz_EnL (who := 0) h e0 e1 (d := (σx.2 (T + 15 + 4 * e) 1).toNat) (by omega)
  obtain ⟨b1, b2⟩ := sy_env h um um (Or.inl rfl) a1 a2
  generalize hd : (σx.2 (T + 15 + 4 * e) 1).toNat = d at a1 a2 a3 b1 b2
  have er := h.2.2.1.2.2.2.2 e e0 (by rw [← h.n.2.2]; exact e1)
  have fam := er.2.2.2.2.2.2.2.1
  obtain ⟨p, hp⟩ : ∃ p, p = az_wr m 804 52 (16 * (16 * s + e)) := ⟨_, rfl⟩
  have up : bz_Upd m p lz_T := by rw [hp]; exact lz_Tw bz_Upd.refl (by unfold lz_T; omega)
  have pk : ∀ x k, ¬ (x = 804 ∧ k = 52) → p.2 x k = m.2 x k := fun x k z => by rw [hp]; exact az_wr_ne z
  have Sp : tr_St p c := by
    obtain ⟨s1, s2, s3, s4, s5⟩ := hS
    refine ⟨by rw [pk 804 49 (by omega)]; exact s1, s2, by rw [pk 804 50 (by omega)]; exact s3, by rw [pk 804 50 (by omega)]; exact s4, fun q q0 q1 => ?_⟩
    rw [pk 804 50 (by omega)] at q1
    rw [pk 829 q (by omega), pk 823 _ (by omega)]
    exact s5 q q0 q1
  obtain ⟨m', c1, ρ, run, ⟨u1, ⟨cc1, cc2⟩, S1, K1⟩, Q1, n1, iρ, ⟨f1, f2⟩, R1, -, T1, -⟩ := tr_term (a := who) d p c (16 * (16 * s + e)) (b1.upd up up) Sp (by omega) (Int.le_refl _) (Int.le_refl _) b2 (by rw [hp, az_wr_same])
  have r1 := run 200 (by omega)
  have e815 : p.2 815 (16 * (16 * s + e)) = σm.2 815 (16 * (16 * s + e)) := by rw [pk 815 _ (by omega), um.2.2 815 _ (by unfold cz_SM; omega)]
  have cde : m'.2 823 ρ = σm.2 815 (16 * (16 * s + e)) := by rw [f2 (by rw [e815]; exact fam.2.1)]; exact e815
  have con : m'.2 823 ρ < 1000 := by rw [cde]; exact fam.2.1
  have Hm : mz_H σx m T s := h.upd (bz_Upd.refl (S := cz_SJ)) um (fun _ _ q => q) (fun _ _ q => q)
  have ref := mz_leftRef Hm e0 e1
  refine ⟨m', c1, ρ, d, ?_, ⟨b2.pos (by omega), a3⟩, ⟨up.trans u1, ⟨cc1, cc2⟩, S1, fun x hx => by rw [K1.1 x hx, pk _ _ (by omega)], fun x x0 x1 z => by rw [K1.2 x x0 x1 z, pk _ _ (by omega)]⟩, Q1, n1, iρ, ⟨con, cde⟩, (f1 con).1, R1, ⟨by rw [← pk 804 50 (by omega)]; exact T1.1.1, fun q q0 q1 => by
    have w := T1.1.2 q q0 (by rw [pk 804 50 (by omega)]; exact q1)
    rw [pk 827 q (by omega), pk 828 q (by omega)] at w
    exact w⟩, fun v v0 v1 => ?_, fun hu => T1.2.2.2 (hu.cong (pk _ _ (by omega)) (fun q => pk _ _ (by omega)) (fun q => pk _ _ (by omega)))⟩
  · unfold fz_X11_leftNode fz_X11_builtFrom
    rw [ref.2.2.2.2.1, Option.bind_some, ref.2.2.2.2.2.2, Option.bind_some, az_w32_id (by omega) (by omega), ← hp, r1, Option.bind_some, Option.bind_some]
  · obtain ⟨i, i0, i1, i2⟩ := er.2.2.2.2.2.2.2.2.2.2 v v0 v1
    have es : σx.2 (T + 15 + 4 * e) 1 = σm.2 (T + 15 + 4 * e) 1 := hr.1 1
    have ec : p.2 815 (16 * (16 * s + e) + i) = 1000 + v := by rw [pk 815 _ (by omega), um.2.2 815 _ (by unfold cz_SM; omega)]; exact i2
    obtain ⟨q, q0, q1, q2, q3⟩ := T1.2.1 (16 * (16 * s + e) + i) (by omega) (by omega) (by rw [ec]; omega)
    exact ⟨q, q0, q1, q2, by rw [q3]; exact ec⟩
theorem tr_right {σx σm m : az_Hp} {T s e who c : Int} (h : mz_H σx σm T s) (um : bz_Upd σm m cz_SM) (e0 : 0 ≤ e) (e1 : e < σx.2 T 2) (hS : tr_St m c) (hc : c ≤ 100) :
    ∃ (m' : az_Hp) (c1 ρ : Int), fz_X11_rightNode 2000000 m 804 e who 0 = some (ρ, m') ∧ tr_Ps m m' c c1 16 (fun _ => False) ∧ dz_In c1 ρ ∧ (∀ U, tr_ru U m' c c1 → U ρ ≤ 96228) ∧ tr_P7 m m' ∧ (tr_V σm m T e who → ∀ x, c ≤ x → x < c1 → m'.2 823 x < 1000) ∧ tr_St m' c1 := by
  have hr := h.r e0 e1
  have sz : 0 ≤ σx.2 (T + 17 + 4 * e) 1 := hr.2.2.2.2.2.2.2.1.2.1
  have n3 := hr.2.2.2.2.2.2.2.2.2.2
  have hs := h.2.2.1.2.1
  obtain ⟨a1, a2, a3⟩ := mz_EnR (who := 0) (fl := 0) h e0 e1 (Or.inl rfl) (d := (σx.2 (T + 17 + 4 * e) 1).toNat) (by omega)
  obtain ⟨b1, b2⟩ := sy_env h um um (Or.inr rfl) a1 a2
  generalize hd : (σx.2 (T + 17 + 4 * e) 1).toNat = d at a1 a2 a3 b1 b2
  obtain ⟨p, hp⟩ : ∃ p, p = az_wr m 804 52 (16 * (16 * s + e)) := ⟨_, rfl⟩
  have up : bz_Upd m p lz_T := by rw [hp]; exact lz_Tw bz_Upd.refl (by unfold lz_T; omega)
  have pk : ∀ x k, ¬ (x = 804 ∧ k = 52) → p.2 x k = m.2 x k := fun x k z => by rw [hp]; exact az_wr_ne z
  have Sp : tr_St p c := by
    obtain ⟨s1, s2, s3, s4, s5⟩ := hS
    refine ⟨by rw [pk 804 49 (by omega)]; exact s1, s2, by rw [pk 804 50 (by omega)]; exact s3, by rw [pk 804 50 (by omega)]; exact s4, fun q q0 q1 => ?_⟩
    rw [pk 804 50 (by omega)] at q1
    rw [pk 829 q (by omega), pk 823 _ (by omega)]
    exact s5 q q0 q1
  obtain ⟨m', c1, ρ, run, ⟨u1, ⟨cc1, cc2⟩, S1, K1⟩, Q1, n1, iρ, -, R1, B1, T1, -⟩ := tr_term (a := who) d p c (16 * (16 * s + e)) (b1.upd up up) Sp (by omega) (Int.le_refl _) (Int.le_refl _) b2 (by rw [hp, az_wr_same])
  have r1 := run 200 (by omega)
  have Hm : mz_H σx m T s := h.upd (bz_Upd.refl (S := cz_SJ)) um (fun _ _ q => q) (fun _ _ q => q)
  have ref := mz_leftRef Hm e0 e1
  refine ⟨m', c1, ρ, ?_, ⟨up.trans u1, ⟨cc1, by omega⟩, S1, fun x hx => by rw [K1.1 x hx, pk _ _ (by omega)], fun x x0 x1 z => by rw [K1.2 x x0 x1 z, pk _ _ (by omega)]⟩, iρ, fun U hU => ?_, ⟨by rw [← pk 804 50 (by omega)]; exact T1.1.1, fun q q0 q1 => by
    have w := T1.1.2 q q0 (by rw [pk 804 50 (by omega)]; exact q1)
    rw [pk 827 q (by omega), pk 828 q (by omega)] at w
    exact w⟩, fun hV => T1.2.2.1 (fun j j0 j1 jv => ?_), S1⟩
  · unfold fz_X11_rightNode fz_X11_builtFrom
    rw [ref.2.2.2.2.2.1, Option.bind_some, ref.2.2.2.2.2.2, Option.bind_some, az_w32_id (by omega) (by omega), ← hp, r1, Option.bind_some, Option.bind_some]
  · have := B1 U hU
    omega
  · have er := h.2.2.1.2.2.2.2 e e0 (by rw [← h.n.2.2]; exact e1)
    have es : σx.2 (T + 17 + 4 * e) 1 = σm.2 (T + 17 + 4 * e) 1 := hr.2.2.1 1
    have ec : p.2 816 j = σm.2 816 (16 * (16 * s + e) + (j - 16 * (16 * s + e))) := by rw [pk 816 _ (by omega), um.2.2 816 _ (by unfold cz_SM; omega), show 16 * (16 * s + e) + (j - 16 * (16 * s + e)) = j by omega]
    have cr := er.2.2.2.2.1 (j - 16 * (16 * s + e)) (by omega) (by omega)
    have lt := er.2.2.2.2.2.2.2.2.2.1 (j - 16 * (16 * s + e)) (by omega) (by omega)
    have tb := h.tb.2.1
    rw [ec] at jv ⊢
    obtain ⟨tb1, tb2, tb3, tb4, -, -⟩ := tb
    rcases cr with ⟨c0, q0, q1, hv⟩ | ⟨q0, q1, hv⟩ | ⟨q0, q1, hv⟩ | ⟨q0, q1, hv⟩
    · unfold bz_VE at hv
      obtain ⟨q, z0, z1, z2, z3⟩ := hV (σm.2 816 (16 * (16 * s + e) + (j - 16 * (16 * s + e))) - 1000) (by omega) (by omega)
      refine ⟨q, z0, by rw [pk 804 50 (by omega)]; exact z1, by rw [pk 827 q (by omega)]; exact z2, ?_⟩
      rw [pk 828 q (by omega), z3]
      omega
    · omega
    · omega
    · omega
/-- the facts of both left sides -/
def tr_G (g : dz_G) (a b : Int) : Prop :=
  (∀ x k x' k', dz_In (dz_N g) x → ¬ dz_iv g x → 0 ≤ k → k < dz_ar g x → dz_In (dz_N g) x' → ¬ dz_iv g x' → 0 ≤ k' → k' < dz_ar g x' → dz_kd g x k = dz_kd g x' k' → ¬ dz_iv g (dz_kd g x k) → x = x' ∧ k = k') ∧
  bd_s (bd_P3 g) (fun p => bd_i (bd_pl g p)) ≤ 30 ∧ ¬ dz_iv g a ∧ ¬ dz_iv g b
theorem tr_places {m : az_Hp} {c : Int} (hg : dz_ok (lz_g m c)) : ∀ n : Nat, (n : Int) ≤ c → ((bd_s (bd_rg n) (fun x => bd_i (bd_pl (lz_g m c) (3 * x)) + bd_i (bd_pl (lz_g m c) (3 * x + 1)) + bd_i (bd_pl (lz_g m c) (3 * x + 2))) : Nat) : Int) = tr_n m 0 n := by
  intro n
  induction n with
  | zero => intro _; rfl
  | succ n ih =>
    intro hn
    push_cast at hn
    simp only [bd_rg, bd_s, tr_n]
    have i := ih (by omega)
    have e0 : 3 * (n : Int) / 3 = n := by omega
    have e1 : (3 * (n : Int) + 1) / 3 = n := by omega
    have e2 : (3 * (n : Int) + 2) / 3 = n := by omega
    have f0 : 3 * (n : Int) % 3 = 0 := by omega
    have f1 : (3 * (n : Int) + 1) % 3 = 1 := by omega
    have f2 : (3 * (n : Int) + 2) % 3 = 2 := by omega
    have key : ((bd_i (bd_pl (lz_g m c) (3 * n)) + bd_i (bd_pl (lz_g m c) (3 * n + 1)) + bd_i (bd_pl (lz_g m c) (3 * n + 2)) : Nat) : Int) = tr_tk m (0 + n) := by
      unfold bd_pl tr_tk
      rw [e0, e1, e2, f0, f1, f2, Int.zero_add]
      have iv : dz_iv (lz_g m c) n ↔ 1000 ≤ m.2 823 n := Iff.rfl
      by_cases v : m.2 823 n < 1000
      · have nv : ¬ dz_iv (lz_g m c) n := fun q => by have := iv.mp q; omega
        rw [if_pos v]
        have q := hg.2.2.1 n ⟨by omega, by show (n : Int) < c; omega⟩ nv
        have er : dz_ar (lz_g m c) n = bz_tk m (m.2 823 n) := rfl
        rw [← er]
        have ha : dz_ar (lz_g m c) n = 0 ∨ dz_ar (lz_g m c) n = 1 ∨ dz_ar (lz_g m c) n = 2 ∨ dz_ar (lz_g m c) n = 3 := by omega
        rcases ha with e | e | e | e
        · rw [e, bd_i_neg (fun q => by have := q.2; omega), bd_i_neg (fun q => by have := q.2; omega), bd_i_neg (fun q => by have := q.2; omega)]
          rfl
        · rw [e, bd_i_pos (P := ¬ dz_iv (lz_g m c) n ∧ (0 : Int) < 1) ⟨nv, by omega⟩, bd_i_neg (fun q => by have := q.2; omega), bd_i_neg (fun q => by have := q.2; omega)]
          rfl
        · rw [e, bd_i_pos (P := ¬ dz_iv (lz_g m c) n ∧ (0 : Int) < 2) ⟨nv, by omega⟩, bd_i_pos (P := ¬ dz_iv (lz_g m c) n ∧ (1 : Int) < 2) ⟨nv, by omega⟩, bd_i_neg (fun q => by have := q.2; omega)]
          rfl
        · rw [e, bd_i_pos (P := ¬ dz_iv (lz_g m c) n ∧ (0 : Int) < 3) ⟨nv, by omega⟩, bd_i_pos (P := ¬ dz_iv (lz_g m c) n ∧ (1 : Int) < 3) ⟨nv, by omega⟩, bd_i_pos (P := ¬ dz_iv (lz_g m c) n ∧ (2 : Int) < 3) ⟨nv, by omega⟩]
          rfl
      · have iv' : dz_iv (lz_g m c) n := iv.mpr (by omega)
        rw [if_neg v, bd_i_neg (fun q => q.1 iv'), bd_i_neg (fun q => q.1 iv'), bd_i_neg (fun q => q.1 iv')]
        rfl
    push_cast at key i ⊢
    omega
theorem tr_both {σx σm m0 m1 m2 : az_Hp} {T s e o a b c1 : Int} (h : mz_H σx σm T s) (e0 : 0 ≤ e) (e1 : e < σx.2 T 2) (o0 : 0 ≤ o) (o1 : o < σx.2 T 2) (um0 : bz_Upd σm m0 cz_SM) (z49 : m0.2 804 49 = 0) (z50 : m0.2 804 50 = 0) (l1 : fz_X11_leftNode 2000000 m0 804 e 0 = some (a, m1)) (l2 : fz_X11_leftNode 2000000 (az_wr m1 833 0 a) 804 o 1 = some (b, m2)) (hc1 : m2.2 804 49 = c1) (hg : dz_ok (lz_g (az_wr m2 833 1 b) c1)) : tr_G (lz_g (az_wr m2 833 1 b) c1) a b ∧ (tr_St (az_wr m2 833 1 b) c1 ∧ tr_Un (az_wr m2 833 1 b)) ∧ tr_V σm (az_wr m2 833 1 b) T e 0 ∧ tr_V σm (az_wr m2 833 1 b) T o 1 ∧ (az_wr m2 833 1 b).2 823 a = σm.2 815 (16 * (16 * s + e)) ∧ (az_wr m2 833 1 b).2 823 b = σm.2 815 (16 * (16 * s + o)) := by
  obtain ⟨m1', cE, a', d, r1, ⟨dp, d16⟩, ⟨u1, ⟨cc1, cc2⟩, S1, K1⟩, Q1, n1, i1, v1, ea, R1, P1, V1, Un1⟩ := tr_left (who := 0) (c := 0) h um0 e0 e1 ⟨z49, Int.le_refl _, by omega, by omega, fun q q0 q1 => by omega⟩ (by omega)
  have eq1 := sy_det l1 r1
  obtain ⟨rfl, rfl⟩ : a = a' ∧ m1 = m1' := by
    rw [Prod.mk.injEq] at eq1
    exact eq1
  have um1 : bz_Upd σm (az_wr m1 833 0 a) cz_SM := mz_wr833 (um0.trans (u1.weak fun _ _ q => mz_SM q))
  obtain ⟨n1', hn1⟩ : ∃ n1', n1' = az_wr m1 833 0 a := ⟨_, rfl⟩
  rw [← hn1] at um1 l2
  have nk : ∀ x k, x ≠ 833 → n1'.2 x k = m1.2 x k := fun x k z => by rw [hn1]; exact az_wr_ne (by omega)
  have S1' : tr_St n1' cE := by
    obtain ⟨s1, s2, s3, s4, s5⟩ := S1
    refine ⟨by rw [nk _ _ (by omega)]; exact s1, s2, by rw [nk _ _ (by omega)]; exact s3, by rw [nk _ _ (by omega)]; exact s4, fun q q0 q1 => ?_⟩
    rw [nk _ _ (by omega)] at q1
    rw [nk 829 q (by omega), nk 823 _ (by omega)]
    exact s5 q q0 q1
  obtain ⟨m2', c1', b', d', r2, ⟨dp', d16'⟩, ⟨u2, ⟨cd1, cd2⟩, S2, K2⟩, Q2, n2, i2, v2, eb, R2, P2, V2, Un2⟩ := tr_left (who := 1) (c := cE) h um1 o0 o1 S1' (by omega)
  have eq2 := sy_det l2 r2
  obtain ⟨rfl, rfl⟩ : b = b' ∧ m2 = m2' := by
    rw [Prod.mk.injEq] at eq2
    exact eq2
  have ec : c1 = c1' := by rw [← hc1]; exact S2.1
  subst ec
  obtain ⟨m3, hm3⟩ : ∃ m3, m3 = az_wr m2 833 1 b := ⟨_, rfl⟩
  rw [← hm3] at hg ⊢
  have mk : ∀ x k, x ≠ 833 → m3.2 x k = m2.2 x k := fun x k z => by rw [hm3]; exact az_wr_ne (by omega)
  have t32 : bz_tk m3 = bz_tk m2 := funext fun q => by unfold bz_tk; rw [mk 804 15 (by omega), mk 812 _ (by omega), mk 811 _ (by omega)]
  have tn : bz_tk n1' = bz_tk m1 := funext fun q => by unfold bz_tk; rw [nk 804 15 (by omega), nk 812 _ (by omega), nk 811 _ (by omega)]
  have t21 : bz_tk m2 = bz_tk m1 := by rw [sy_tk u2, tn]
  have e823 : ∀ x, dz_In cE x → m3.2 823 x = m1.2 823 x := fun x hx => by rw [mk _ _ (by omega), K2.1 x hx, nk _ _ (by omega)]
  have e824 : ∀ x, 0 ≤ x → x < 3 * cE → m3.2 824 x = m1.2 824 x := fun x x0 x1 => by rw [mk _ _ (by omega), K2.2 x x0 x1 (fun z => z), nk _ _ (by omega)]
  have QO : tr_QQ (fun x k => m3.2 824 (3 * x + k)) (fun y => m3.2 823 y < 1000) (fun x k => tr_sl m3 x k ∧ 0 ≤ x ∧ x < cE) cE := by
    have sl : ∀ x k, (tr_sl m3 x k ∧ 0 ≤ x ∧ x < cE) → (tr_sl m1 x k ∧ 0 ≤ x ∧ x < cE) := fun x k q => by
      obtain ⟨⟨q1, q2, q3⟩, q4⟩ := q
      rw [e823 x ⟨q4.1, q4.2⟩] at q1 q3
      rw [t32, t21] at q3
      exact ⟨⟨q1, q2, q3⟩, q4⟩
    refine Q1.cong sl (fun x k q => ?_) (fun x k q z => ?_)
    · have a1 := (Q1.1 x k (sl x k q)).1
      have k0 := q.1.2.1
      exact e824 _ (by omega) (by omega)
    · have a2 := (Q1.1 x k (sl x k q)).2.1
      have z' : m3.2 823 (m1.2 824 (3 * x + k)) < 1000 := z
      rw [e823 _ a2] at z'
      exact z'
  have QB : tr_QQ (fun x k => m3.2 824 (3 * x + k)) (fun y => m3.2 823 y < 1000) (fun x k => tr_sl m3 x k ∧ cE ≤ x ∧ x < c1) c1 := by
    refine Q2.cong (fun x k q => ?_) (fun x k q => mk _ _ (by omega)) (fun x k q z => ?_)
    · obtain ⟨⟨q1, q2, q3⟩, q4⟩ := q
      rw [mk 823 x (by omega)] at q1 q3
      rw [t32] at q3
      exact ⟨⟨q1, q2, q3⟩, q4⟩
    · have z' : m3.2 823 (m2.2 824 (3 * x + k)) < 1000 := z
      rw [mk 823 _ (by omega)] at z'
      exact z'
  have all : ∀ x k, dz_In c1 x → ¬ (1000 ≤ m3.2 823 x) → 0 ≤ k → k < bz_tk m3 (m3.2 823 x) → (tr_sl m3 x k ∧ 0 ≤ x ∧ x < cE) ∨ (tr_sl m3 x k ∧ cE ≤ x ∧ x < c1) := fun x k hx nv k0 k1 => by
    have sl : tr_sl m3 x k := ⟨by omega, k0, k1⟩
    by_cases w : x < cE
    · exact Or.inl ⟨sl, hx.1, w⟩
    · exact Or.inr ⟨sl, by omega, hx.2⟩
  have P3 : tr_P7 m2 m3 := ⟨by rw [mk 804 50 (by omega)]; exact Int.le_refl _, fun q _ _ => ⟨mk _ _ (by omega), mk _ _ (by omega)⟩⟩
  have Pn : tr_P7 m1 n1' := ⟨by rw [nk 804 50 (by omega)]; exact Int.le_refl _, fun q _ _ => ⟨nk _ _ (by omega), nk _ _ (by omega)⟩⟩
  have S3 : tr_St m3 c1 := by
    obtain ⟨s1, s2, s3, s4, s5⟩ := S2
    refine ⟨by rw [mk _ _ (by omega)]; exact s1, s2, by rw [mk _ _ (by omega)]; exact s3, by rw [mk _ _ (by omega)]; exact s4, fun q q0 q1 => ?_⟩
    rw [mk _ _ (by omega)] at q1
    rw [mk 829 q (by omega), mk 823 _ (by omega)]
    exact s5 q q0 q1
  have U3 : tr_Un m3 := (Un2 ((Un1 (fun q q' q0 q1 => by omega)).cong (nk _ _ (by omega)) (fun q => nk _ _ (by omega)) (fun q => nk _ _ (by omega)))).cong (mk _ _ (by omega)) (fun q => mk _ _ (by omega)) (fun q => mk _ _ (by omega))
  refine ⟨?_, ⟨S3, U3⟩, (((V1.mono Pn).mono P2).mono P3), V2.mono P3, by rw [e823 a i1]; exact v1.2, by rw [mk 823 b (by omega)]; exact v2.2⟩
  refine ⟨fun x k x' k' hx nx k0 k1 hx' nx' k0' k1' e nv => ?_, ?_, ?_, ?_⟩
  · have nx2 : ¬ (1000 ≤ m3.2 823 x) := nx
    have nx2' : ¬ (1000 ≤ m3.2 823 x') := nx'
    have nv2 : ¬ (1000 ≤ m3.2 823 (m3.2 824 (3 * x + k))) := nv
    have e2 : m3.2 824 (3 * x + k) = m3.2 824 (3 * x' + k') := e
    have k12 : k < bz_tk m3 (m3.2 823 x) := k1
    have k12' : k' < bz_tk m3 (m3.2 823 x') := k1'
    have cn : m3.2 823 (m3.2 824 (3 * x + k)) < 1000 := by omega
    rcases all x k hx nx2 k0 k12 with q | q
    · have a := (QO.1 x k q).2.1
      rcases all x' k' hx' nx2' k0' k12' with q' | q'
      · exact QO.2 x k x' k' q q' e2 cn
      · have b := (QB.1 x' k' q').2.2 (by show m3.2 823 (m3.2 824 (3 * x' + k')) < 1000; rw [← e2]; exact cn)
        have a' : m3.2 824 (3 * x + k) < cE := a.2
        have b' : x' < m3.2 824 (3 * x' + k') := b
        omega
    · rcases all x' k' hx' nx2' k0' k12' with q' | q'
      · have a := (QO.1 x' k' q').2.1
        have b := (QB.1 x k q).2.2 cn
        have a' : m3.2 824 (3 * x' + k') < cE := a.2
        have b' : x < m3.2 824 (3 * x + k) := b
        omega
      · exact QB.2 x k x' k' q q' e2 cn
  · have hN : dz_N (lz_g m3 c1) = c1 := rfl
    have c0 : 0 ≤ c1 := hg.1
    unfold bd_P3
    rw [bd_rg3, hN]
    have tp := tr_places hg c1.toNat (by omega)
    have t1 : tr_n m3 0 c1.toNat = (d - 1) + (d' - 1) := by
      have e1 : c1.toNat = (cE - 0).toNat + (c1 - cE).toNat := by omega
      rw [e1, tr_n_add, show (0 : Int) + (((cE - 0).toNat : Nat) : Int) = cE by omega]
      have w1 : tr_n m3 0 (cE - 0).toNat = tr_n m1 0 (cE - 0).toNat := tr_n_cong (by rw [t32, t21]) _ (fun x x0 x1 => e823 x ⟨x0, by omega⟩)
      have w2 : tr_n m3 cE (c1 - cE).toNat = tr_n m2 cE (c1 - cE).toNat := tr_n_cong t32 _ (fun x x0 x1 => mk _ _ (by omega))
      rw [w1, w2, n1, n2]
    omega
  · show ¬ (1000 ≤ m3.2 823 a)
    rw [e823 a i1]
    have := v1.1
    omega
  · show ¬ (1000 ≤ m3.2 823 b)
    rw [mk 823 b (by omega)]
    have := v2.1
    omega
