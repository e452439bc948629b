/-! families used backwards: judged by the class once, asked of the reference each time -/
def nz_t (a : Int) : Prop := (3 ≤ a ∧ a ≤ 13) ∨ (18 ≤ a ∧ a ≤ 92) ∨ (97 ≤ a ∧ a ≤ 160)
theorem mz_H.gen {σx σm σx' σm' : az_Hp} {T s : Int} (h : mz_H σx σm T s) {S S' : Int → Int → Prop} (hx : bz_Upd σx σx' S) (hm : bz_Upd σm σm' S') (hs : ∀ a k, S a k → ¬ nz_t a) (hs' : ∀ a k, S' a k → ¬ nz_t a ∧ ¬ (806 ≤ a ∧ a ≤ 819) ∧ ¬ (a = 804 ∧ k = 15)) : mz_H σx' σm' T s := by
  obtain ⟨h1, h2, h3, h4, h5⟩ := h
  have tm : bz_tS σm σm' := fun a k q => hm.2.2 a k (fun c => by have := hs' a k c; unfold nz_t at this; omega)
  have hT := h3.1
  refine ⟨h1.upd hx, h2.upd hm, h3.cong tm, fun a k q => ?_, ?_⟩
  · rw [hx.2.2 a k (fun c => hs a k c (by unfold nz_t; omega)), tm a k (by omega)]
    exact h4 a k q
  · rw [hm.2.2 804 15 (fun c => (hs' _ _ c).2.2 ⟨rfl, rfl⟩)]
    exact h5
/-- what judging a family f backwards may change -/
def nz_B (T f : Int) (a k : Int) : Prop := cz_SJ a k ∨ ((a = T + 12 ∨ a = T + 13 ∨ a = T + 14) ∧ k = f)
theorem nz_B.t {T f a k : Int} (hT : T = 3 ∨ T = 82) (h : nz_B T f a k) : ¬ nz_t a := by
  unfold nz_B cz_SJ at h
  unfold nz_t
  omega
theorem nz_SM.t {a k : Int} (h : cz_SB a k) : ¬ nz_t a ∧ ¬ (806 ≤ a ∧ a ≤ 819) ∧ ¬ (a = 804 ∧ k = 15) := by
  unfold cz_SB cz_SM at h
  unfold nz_t
  omega
theorem nz_fixT {T a k : Int} (hT : T = 3 ∨ T = 82) (h : a = T + 11 ∨ a = T + 12 ∨ a = T + 13 ∨ a = T + 14) : bz_isFix a k = false := by
  have key : ∀ a : Int, a = 14 ∨ a = 15 ∨ a = 16 ∨ a = 17 ∨ a = 93 ∨ a = 94 ∨ a = 95 ∨ a = 96 → bz_isFix a k = false := by
    intro a ha
    rcases ha with rfl | rfl | rfl | rfl | rfl | rfl | rfl | rfl <;> (unfold bz_isFix; simp [bz_cap, bz_fixL, bz_rowsL])
  exact key a (by omega)
theorem nz_wB {σ σ' : az_Hp} {T f a x : Int} (hT : T = 3 ∨ T = 82) (h : bz_Upd σ σ' (nz_B T f)) (ha : a = T + 12 ∨ a = T + 13 ∨ a = T + 14) : bz_Upd σ (az_wr σ' a f x) (nz_B T f) := h.wr (Or.inr ⟨ha, rfl⟩) (nz_fixT hT (by omega))
section NB
variable {T s f : Int}
theorem nz_A {σm : az_Hp} : ∀ (d k : Nat) (σx : az_Hp) (e : Int), mz_H σx σm T s → 0 ≤ f → f < 5 → d < k → 0 ≤ e → e + d = σx.2 T 2 → σx.2 (T + 12) f = 0 →
    (∃ q e0 σx', q ≠ 0 ∧ fz_X1_judgeBackwards_23 2000000 k σx 242 T f e = some σx' ∧ σx'.2 (T + 12) f = q ∧ σx'.2 (T + 13) f = e0 ∧ σx'.2 (T + 14) f = σx.2 (T + 14) f ∧ bz_Upd σx σx' (nz_B T f) ∧ fz_X11_isBad_7 2000000 k σm 804 f e = some (1, az_wr (az_wr σm 804 63 q) 804 64 e0)) ∨
    (∃ σx', fz_X1_judgeBackwards_23 2000000 k σx 242 T f e = fz_X1_judgeBackwards_77 2000000 2000000 σx' 242 T f 0 ∧ σx'.2 (T + 12) f = 0 ∧ σx'.2 (T + 14) f = σx.2 (T + 14) f ∧ bz_Upd σx σx' (nz_B T f) ∧ fz_X11_isBad_7 2000000 k σm 804 f e = fz_X11_isBad_64 2000000 2000000 σm 804 f 0 ∧ ∀ e', e ≤ e' → e' < σx.2 T 2 → σx.2 (T + 7) e' = f → ¬ (200 ≤ σm.2 816 (16 * (16 * s + e')) ∧ σm.2 816 (16 * (16 * s + e')) < 1000)) := by
  intro d
  induction d with
  | zero =>
    intro k σx e h f0 f1 hk e0 he hz
    obtain ⟨k, rfl⟩ : ∃ k', k = k' + 1 := ⟨k - 1, by omega⟩
    have hm := mz_many h
    refine Or.inr ⟨σx, ?_, hz, rfl, bz_Upd.refl, ?_, fun e' q1 q2 => by omega⟩
    · conv => lhs; unfold fz_X1_judgeBackwards_23
      rw [if_neg (by omega)]
    · conv => lhs; unfold fz_X11_isBad_7
      rw [hm.1, Option.bind_some, hm.2, Option.bind_some, if_neg (by omega)]
  | succ d ih =>
    intro k σx e h f0 f1 hk e0 he hz
    obtain ⟨k, rfl⟩ : ∃ k', k = k' + 1 := ⟨k - 1, by omega⟩
    have hm := mz_many h
    have nb := mz_nb h
    have hT := h.2.2.1.1
    obtain ⟨fam, fo1, fo2⟩ := mz_fam h e0 (by omega)
    obtain ⟨-, -, -, -, -, -, -, -, -, -, -, g14, g15, g16⟩ := bz_tg h.1 hT
    obtain ⟨-, -, -, -, -, -, -, -, -, l12, l13, l14⟩ := bz_tl h.1 hT
    have r12 : az_ard σx (T + 12) f = some 0 := by rw [bz_ard f0 (by omega), hz]
    have w1 : az_w32 (e + 1) = e + 1 := az_w32_id (by omega) (by omega)
    by_cases ho : σx.2 (T + 7) e = f
    · obtain ⟨q, q0, q3, qx, qm, qn⟩ := mz_alone h e0 (by omega)
      have u1 : bz_Upd σx (az_wr (az_wr σx (T + 12) f q) (T + 13) f e) (nz_B T f) := nz_wB hT (nz_wB hT bz_Upd.refl (by omega)) (by omega)
      have v12 : (az_wr (az_wr σx (T + 12) f q) (T + 13) f e).2 (T + 12) f = q := by rw [az_wr_ne (by omega), az_wr_same]
      have v13 : (az_wr (az_wr σx (T + 12) f q) (T + 13) f e).2 (T + 13) f = e := az_wr_same
      have v14 : (az_wr (az_wr σx (T + 12) f q) (T + 13) f e).2 (T + 14) f = σx.2 (T + 14) f := by rw [az_wr_ne (by omega), az_wr_ne (by omega)]
      have h' := h.gen u1 (bz_Upd.refl (S := fun _ _ => False)) (fun a k q => nz_B.t hT q) (fun a k q => q.elim)
      have runX : fz_X1_judgeBackwards_23 2000000 (k + 1) σx 242 T f e = fz_X1_judgeBackwards_23 2000000 k (az_wr (az_wr σx (T + 12) f q) (T + 13) f e) 242 T f (e + 1) := by
        conv => lhs; unfold fz_X1_judgeBackwards_23
        rw [if_pos (by omega), g14, Option.bind_some, r12, Option.bind_some, if_pos rfl, fo1, Option.bind_some, fo2, Option.bind_some, if_pos ho, Option.bind_some, qx, Option.bind_some, bz_awr f0 (by omega), Option.bind_some, bz_gref_wr (by omega), g15, Option.bind_some, bz_awr f0 (by rw [bz_ln_wr]; omega), Option.bind_some, w1]
      have n' : (az_wr (az_wr σx (T + 12) f q) (T + 13) f e).2 T 2 = σx.2 T 2 := by rw [az_wr_ne (by omega), az_wr_ne (by omega)]
      by_cases qz : q = 0
      · have runM : fz_X11_isBad_7 2000000 (k + 1) σm 804 f e = fz_X11_isBad_7 2000000 k σm 804 f (e + 1) := by
          conv => lhs; unfold fz_X11_isBad_7
          rw [hm.1, Option.bind_some, hm.2, Option.bind_some, if_pos (by omega), fam, Option.bind_some, if_pos ho, qm, Option.bind_some, if_pos qz, w1]
        have o7 : ∀ j, (az_wr (az_wr σx (T + 12) f q) (T + 13) f e).2 (T + 7) j = σx.2 (T + 7) j := fun j => by rw [az_wr_ne (by omega), az_wr_ne (by omega)]
        rw [runX, runM]
        rcases ih k (az_wr (az_wr σx (T + 12) f q) (T + 13) f e) (e + 1) h' f0 f1 (by omega) (by omega) (by rw [n']; omega) (by rw [v12]; exact qz) with ⟨q', e0', σx', z1, z2, z3, z4, z5, z6, z7⟩ | ⟨σx', z1, z2, z3, z4, z5, z6⟩
        · exact Or.inl ⟨q', e0', σx', z1, z2, z3, z4, z5.trans v14, u1.trans z6, z7⟩
        · refine Or.inr ⟨σx', z1, z2, z3.trans v14, u1.trans z4, z5, fun e' p1 p2 p3 => ?_⟩
          by_cases ee : e' = e
          · rw [ee]; exact qn qz
          · exact z6 e' (by omega) (by rw [n']; exact p2) (by rw [o7]; exact p3)
      · have runM : fz_X11_isBad_7 2000000 (k + 1) σm 804 f e = some (1, az_wr (az_wr σm 804 63 q) 804 64 e) := by
          conv => lhs; unfold fz_X11_isBad_7
          rw [hm.1, Option.bind_some, hm.2, Option.bind_some, if_pos (by omega), fam, Option.bind_some, if_pos ho, qm, Option.bind_some, if_neg qz, Option.bind_some]
        obtain ⟨-, -, -, -, -, -, -, -, -, -, -, g14', -, -⟩ := bz_tg h'.1 hT
        have l12' := (bz_tl h'.1 hT).2.2.2.2.2.2.2.2.2.1
        have r12' : az_ard (az_wr (az_wr σx (T + 12) f q) (T + 13) f e) (T + 12) f = some q := by rw [bz_ard f0 (by omega), v12]
        refine Or.inl ⟨q, e, _, qz, ?_, v12, v13, v14, u1, runM⟩
        rw [runX]
        have end77 : fz_X1_judgeBackwards_77 2000000 2000000 (az_wr (az_wr σx (T + 12) f q) (T + 13) f e) 242 T f 0 = some (az_wr (az_wr σx (T + 12) f q) (T + 13) f e) := by
          show fz_X1_judgeBackwards_77 2000000 (1999999 + 1) _ 242 T f 0 = _
          unfold fz_X1_judgeBackwards_77
          rw [if_pos (by rw [n']; omega), g14', Option.bind_some, r12', Option.bind_some, if_neg qz]
        obtain ⟨k, rfl⟩ : ∃ k', k = k' + 1 := ⟨k - 1, by omega⟩
        unfold fz_X1_judgeBackwards_23
        by_cases c : e + 1 < (az_wr (az_wr σx (T + 12) f q) (T + 13) f e).2 T 2
        · rw [if_pos c, g14', Option.bind_some, r12', Option.bind_some, if_neg qz]
          exact end77
        · rw [if_neg c]
          exact end77
    · have runX : fz_X1_judgeBackwards_23 2000000 (k + 1) σx 242 T f e = fz_X1_judgeBackwards_23 2000000 k σx 242 T f (e + 1) := by
        conv => lhs; unfold fz_X1_judgeBackwards_23
        rw [if_pos (by omega), g14, Option.bind_some, r12, Option.bind_some, if_pos rfl, fo1, Option.bind_some, fo2, Option.bind_some, if_neg ho, w1]
      have runM : fz_X11_isBad_7 2000000 (k + 1) σm 804 f e = fz_X11_isBad_7 2000000 k σm 804 f (e + 1) := by
        conv => lhs; unfold fz_X11_isBad_7
        rw [hm.1, Option.bind_some, hm.2, Option.bind_some, if_pos (by omega), fam, Option.bind_some, if_neg ho, w1]
      rw [runX, runM]
      rcases ih k σx (e + 1) h f0 f1 (by omega) (by omega) (by omega) hz with z | ⟨σx', z1, z2, z3, z4, z5, z6⟩
      · exact Or.inl z
      · refine Or.inr ⟨σx', z1, z2, z3, z4, z5, fun e' p1 p2 p3 => ?_⟩
        by_cases ee : e' = e
        · rw [ee] at p3; exact absurd p3 ho
        · exact z6 e' (by omega) p2 p3
/-- the inner loop over the other one -/
theorem nz_Bi {k77 : az_Hp → Int → Int → Int → Int → Option az_Hp} {k64 : az_Hp → Int → Int → Int → Option (Int × az_Hp)} {e : Int} : ∀ (d k : Nat) (σx σm : az_Hp) (o : Int), mz_H σx σm T s → 0 ≤ f → f < 5 → d < k → 0 ≤ e → e < o → o + d = σx.2 T 2 → σx.2 (T + 12) f = 0 → (∀ e', 0 ≤ e' → e' < σx.2 T 2 → σx.2 (T + 7) e' = f → ¬ (200 ≤ σm.2 816 (16 * (16 * s + e')) ∧ σm.2 816 (16 * (16 * s + e')) < 1000)) →
    (∃ o0 σx' σm', fz_X1_judgeBackwards_99 2000000 k77 k σx 242 T f e o = k77 σx' 242 T f (e + 1) ∧ σx'.2 (T + 12) f = 4 ∧ σx'.2 (T + 13) f = e ∧ σx'.2 (T + 14) f = o0 ∧ bz_Upd σx σx' (nz_B T f) ∧ bz_Upd σm σm' cz_SB ∧ fz_X11_isBad_81 2000000 k64 k σm 804 f e o = some (1, σm') ∧ σm'.2 804 63 = 4 ∧ σm'.2 804 64 = e ∧ σm'.2 804 65 = o0) ∨
    (∃ σx' σm', fz_X1_judgeBackwards_99 2000000 k77 k σx 242 T f e o = k77 σx' 242 T f (e + 1) ∧ σx'.2 (T + 12) f = 0 ∧ bz_Upd σx σx' (nz_B T f) ∧ bz_Upd σm σm' cz_SB ∧ fz_X11_isBad_81 2000000 k64 k σm 804 f e o = k64 σm' 804 f (e + 1)) := by
  intro d
  induction d with
  | zero =>
    intro k σx σm o h f0 f1 hk e0 eo he hz hnf
    obtain ⟨k, rfl⟩ : ∃ k', k = k' + 1 := ⟨k - 1, by omega⟩
    have hm := mz_many h
    have nb := mz_nb h
    refine Or.inr ⟨σx, σm, ?_, hz, bz_Upd.refl, bz_Upd.refl, ?_⟩
    · conv => lhs; unfold fz_X1_judgeBackwards_99
      rw [if_neg (by omega), az_w32_id (by omega) (by omega)]
    · conv => lhs; unfold fz_X11_isBad_81
      rw [hm.1, Option.bind_some, hm.2, Option.bind_some, if_neg (by omega), az_w32_id (by omega) (by omega)]
  | succ d ih =>
    intro k σx σm o h f0 f1 hk e0 eo he hz hnf
    obtain ⟨k, rfl⟩ : ∃ k', k = k' + 1 := ⟨k - 1, by omega⟩
    have hm := mz_many h
    have nb := mz_nb h
    have hT := h.2.2.1.1
    obtain ⟨fame, fo1, fo2⟩ := mz_fam h e0 (by omega)
    obtain ⟨famo, -, fo3⟩ := mz_fam h (e := o) (by omega) (by omega)
    obtain ⟨-, -, -, -, -, -, -, -, -, -, -, g14, g15, g16⟩ := bz_tg h.1 hT
    obtain ⟨-, -, -, -, -, -, -, -, -, l12, l13, l14⟩ := bz_tl h.1 hT
    have r12 : az_ard σx (T + 12) f = some 0 := by rw [bz_ard f0 (by omega), hz]
    have w1 : az_w32 (o + 1) = o + 1 := az_w32_id (by omega) (by omega)
    have skipX : ¬ (σx.2 (T + 7) e = f ∧ σx.2 (T + 7) o = f) → fz_X1_judgeBackwards_99 2000000 k77 (k + 1) σx 242 T f e o = fz_X1_judgeBackwards_99 2000000 k77 k σx 242 T f e (o + 1) := by
      intro hn
      conv => lhs; unfold fz_X1_judgeBackwards_99
      rw [if_pos (by omega), g14, Option.bind_some, r12, Option.bind_some, if_pos rfl, fo1, Option.bind_some, fo2, Option.bind_some]
      by_cases c : σx.2 (T + 7) e = f
      · rw [if_pos c, Option.bind_some, fo3, Option.bind_some, if_neg (fun c2 => hn ⟨c, c2⟩), w1]
      · rw [if_neg c, w1]
    have skipM : ¬ (σx.2 (T + 7) e = f ∧ σx.2 (T + 7) o = f) → fz_X11_isBad_81 2000000 k64 (k + 1) σm 804 f e o = fz_X11_isBad_81 2000000 k64 k σm 804 f e (o + 1) := by
      intro hn
      conv => lhs; unfold fz_X11_isBad_81
      rw [hm.1, Option.bind_some, hm.2, Option.bind_some, if_pos (by omega), fame, Option.bind_some]
      by_cases c : σx.2 (T + 7) e = f
      · rw [if_pos c, famo, Option.bind_some, if_neg (fun c2 => hn ⟨c, c2⟩), w1]
      · rw [if_neg c, w1]
    by_cases ho : σx.2 (T + 7) e = f ∧ σx.2 (T + 7) o = f
    · obtain ⟨q, x1, m1, qx, qm, ux, um⟩ := mz_bad h e0 (by omega) (by omega) (by omega) (hnf e e0 (by omega) ho.1) (hnf o (by omega) (by omega) ho.2)
      have ux' : bz_Upd σx x1 (nz_B T f) := ux.weak fun _ _ q => Or.inl q
      have um' : bz_Upd σm m1 cz_SB := um.weak fun _ _ q => Or.inl q
      have h1 := h.gen ux' um' (fun a k q => nz_B.t hT q) (fun a k q => nz_SM.t q)
      have runX : fz_X1_judgeBackwards_99 2000000 k77 (k + 1) σx 242 T f e o = (if q = 0 then fz_X1_judgeBackwards_99 2000000 k77 k x1 242 T f e (o + 1) else fz_X1_judgeBackwards_99 2000000 k77 k (az_wr (az_wr (az_wr x1 (T + 12) f 4) (T + 13) f e) (T + 14) f o) 242 T f e (o + 1)) := by
        obtain ⟨-, -, -, -, -, -, -, -, -, -, -, g14', g15', g16'⟩ := bz_tg h1.1 hT
        obtain ⟨-, -, -, -, -, -, -, -, -, l12', l13', l14'⟩ := bz_tl h1.1 hT
        conv => lhs; unfold fz_X1_judgeBackwards_99
        rw [if_pos (by omega), g14, Option.bind_some, r12, Option.bind_some, if_pos rfl, fo1, Option.bind_some, fo2, Option.bind_some, if_pos ho.1, Option.bind_some, fo3, Option.bind_some, if_pos ho.2, qx, Option.bind_some]
        simp only [w1]
        by_cases qz : q = 0
        · rw [if_pos qz, if_pos qz]
        · rw [if_neg qz, if_neg qz, g14', Option.bind_some, bz_awr f0 (by omega), Option.bind_some, bz_gref_wr (by omega), g15', Option.bind_some, bz_awr f0 (by rw [bz_ln_wr]; omega), Option.bind_some, bz_gref_wr (by omega), bz_gref_wr (by omega), g16', Option.bind_some, bz_awr f0 (by rw [bz_ln_wr, bz_ln_wr]; omega), Option.bind_some]
      have runM : fz_X11_isBad_81 2000000 k64 (k + 1) σm 804 f e o = (if q = 0 then fz_X11_isBad_81 2000000 k64 k m1 804 f e (o + 1) else some (1, az_wr (az_wr (az_wr m1 804 63 4) 804 64 e) 804 65 o)) := by
        conv => lhs; unfold fz_X11_isBad_81
        rw [hm.1, Option.bind_some, hm.2, Option.bind_some, if_pos (by omega), fame, Option.bind_some, if_pos ho.1, famo, Option.bind_some, if_pos ho.2, qm, Option.bind_some]
        simp only [w1]
      have k12 : ∀ j, x1.2 (T + 12) j = σx.2 (T + 12) j := fun j => ux.2.2 _ _ (fun c => by unfold cz_SJ at c; omega)
      have n1 : x1.2 T 2 = σx.2 T 2 := ux.2.2 _ _ (fun c => by unfold cz_SJ at c; omega)
      have o7 : ∀ j, x1.2 (T + 7) j = σx.2 (T + 7) j := fun j => ux.2.2 _ _ (fun c => by unfold cz_SJ at c; omega)
      have e816 : ∀ j, m1.2 816 j = σm.2 816 j := fun j => um.2.2 _ _ (fun c => by unfold cz_SM at c; omega)
      rw [runX, runM]
      by_cases qz : q = 0
      · rw [if_pos qz, if_pos qz]
        rcases ih k x1 m1 (o + 1) h1 f0 f1 (by omega) e0 (by omega) (by rw [n1]; omega) (by rw [k12]; exact hz) (fun e' p1 p2 p3 => by rw [e816]; exact hnf e' p1 (by rw [← n1]; exact p2) (by rw [← o7]; exact p3)) with ⟨o0, σx', σm', z1, z2, z3, z4, z5, z6, z7⟩ | ⟨σx', σm', z1, z2, z3, z4, z5⟩
        · exact Or.inl ⟨o0, σx', σm', z1, z2, z3, z4, ux'.trans z5, um'.trans z6, z7⟩
        · exact Or.inr ⟨σx', σm', z1, z2, ux'.trans z3, um'.trans z4, z5⟩
      · rw [if_neg qz, if_neg qz]
        have u3 : bz_Upd σx (az_wr (az_wr (az_wr x1 (T + 12) f 4) (T + 13) f e) (T + 14) f o) (nz_B T f) := nz_wB hT (nz_wB hT (nz_wB hT ux' (by omega)) (by omega)) (by omega)
        have h3 := h.gen u3 um' (fun a k q => nz_B.t hT q) (fun a k q => nz_SM.t q)
        have v12 : (az_wr (az_wr (az_wr x1 (T + 12) f 4) (T + 13) f e) (T + 14) f o).2 (T + 12) f = 4 := by rw [az_wr_ne (by omega), az_wr_ne (by omega), az_wr_same]
        have v13 : (az_wr (az_wr (az_wr x1 (T + 12) f 4) (T + 13) f e) (T + 14) f o).2 (T + 13) f = e := by rw [az_wr_ne (by omega), az_wr_same]
        have v14 : (az_wr (az_wr (az_wr x1 (T + 12) f 4) (T + 13) f e) (T + 14) f o).2 (T + 14) f = o := az_wr_same
        obtain ⟨-, -, -, -, -, -, -, -, -, -, -, g14', -, -⟩ := bz_tg h3.1 hT
        have l12' := (bz_tl h3.1 hT).2.2.2.2.2.2.2.2.2.1
        refine Or.inl ⟨o, _, _, ?_, v12, v13, v14, u3, ?_, rfl, ?_, ?_, az_wr_same⟩
        · obtain ⟨k, rfl⟩ : ∃ k', k = k' + 1 := ⟨k - 1, by omega⟩
          unfold fz_X1_judgeBackwards_99
          by_cases c : o + 1 < (az_wr (az_wr (az_wr x1 (T + 12) f 4) (T + 13) f e) (T + 14) f o).2 T 2
          · rw [if_pos c, g14', Option.bind_some, bz_ard f0 (by omega), Option.bind_some, v12, if_neg (by decide), az_w32_id (by omega) (by omega)]
          · rw [if_neg c, az_w32_id (by omega) (by omega)]
        · refine bz_Upd.wr (bz_Upd.wr (bz_Upd.wr um' (Or.inr ⟨rfl, by omega⟩) (by decide)) (Or.inr ⟨rfl, by omega⟩) (by decide)) (Or.inr ⟨rfl, by omega⟩) (by decide)
        · rw [az_wr_ne (by omega), az_wr_ne (by omega), az_wr_same]
        · rw [az_wr_ne (by omega), az_wr_same]
    · rw [skipX ho, skipM ho]
      exact ih k σx σm (o + 1) h f0 f1 (by omega) e0 (by omega) (by omega) hz hnf
theorem nz_Bo : ∀ (d k : Nat) (σx σm : az_Hp) (e : Int), mz_H σx σm T s → 0 ≤ f → f < 5 → d < k → 0 ≤ e → e + d = σx.2 T 2 → σx.2 (T + 12) f = 0 → (∀ e', 0 ≤ e' → e' < σx.2 T 2 → σx.2 (T + 7) e' = f → ¬ (200 ≤ σm.2 816 (16 * (16 * s + e')) ∧ σm.2 816 (16 * (16 * s + e')) < 1000)) →
    ∃ b σx' σm', fz_X1_judgeBackwards_77 2000000 k σx 242 T f e = some σx' ∧ bz_Upd σx σx' (nz_B T f) ∧ bz_Upd σm σm' cz_SB ∧ fz_X11_isBad_64 2000000 k σm 804 f e = some (b, σm') ∧ ((b = 0 ∧ σx'.2 (T + 12) f = 0) ∨ (b = 1 ∧ σx'.2 (T + 12) f = 4 ∧ σm'.2 804 63 = 4 ∧ σm'.2 804 64 = σx'.2 (T + 13) f ∧ σm'.2 804 65 = σx'.2 (T + 14) f)) := by
  intro d
  induction d with
  | zero =>
    intro k σx σm e h f0 f1 hk e0 he hz hnf
    obtain ⟨k, rfl⟩ : ∃ k', k = k' + 1 := ⟨k - 1, by omega⟩
    have hm := mz_many h
    refine ⟨0, σx, σm, ?_, bz_Upd.refl, bz_Upd.refl, ?_, Or.inl ⟨rfl, hz⟩⟩
    · unfold fz_X1_judgeBackwards_77
      rw [if_neg (by omega)]
    · unfold fz_X11_isBad_64
      rw [hm.1, Option.bind_some, hm.2, Option.bind_some, if_neg (by omega)]
  | succ d ih =>
    intro k σx σm e h f0 f1 hk e0 he hz hnf
    obtain ⟨k, rfl⟩ : ∃ k', k = k' + 1 := ⟨k - 1, by omega⟩
    have hm := mz_many h
    have nb := mz_nb h
    have hT := h.2.2.1.1
    obtain ⟨-, -, -, -, -, -, -, -, -, -, -, g14, g15, g16⟩ := bz_tg h.1 hT
    obtain ⟨-, -, -, -, -, -, -, -, -, l12, l13, l14⟩ := bz_tl h.1 hT
    have runX : fz_X1_judgeBackwards_77 2000000 (k + 1) σx 242 T f e = fz_X1_judgeBackwards_99 2000000 (fz_X1_judgeBackwards_77 2000000 k) 2000000 σx 242 T f e (e + 1) := by
      conv => lhs; unfold fz_X1_judgeBackwards_77
      rw [if_pos (by omega), g14, Option.bind_some, bz_ard f0 (by omega), Option.bind_some, hz, if_pos rfl, az_w32_id (by omega) (by omega)]
    have runM : fz_X11_isBad_64 2000000 (k + 1) σm 804 f e = fz_X11_isBad_81 2000000 (fz_X11_isBad_64 2000000 k) 2000000 σm 804 f e (e + 1) := by
      conv => lhs; unfold fz_X11_isBad_64
      rw [hm.1, Option.bind_some, hm.2, Option.bind_some, if_pos (by omega), az_w32_id (by omega) (by omega)]
    rw [runX, runM]
    rcases nz_Bi (k77 := fz_X1_judgeBackwards_77 2000000 k) (k64 := fz_X11_isBad_64 2000000 k) d 2000000 σx σm (e + 1) h f0 f1 (by omega) e0 (by omega) (by omega) hz hnf with ⟨o0, σx', σm', z1, z2, z3, z4, z5, z6, z7, z8, z9, z10⟩ | ⟨σx', σm', z1, z2, z3, z4, z5⟩
    · refine ⟨1, σx', σm', ?_, z5, z6, z7, Or.inr ⟨rfl, z2, z8, by rw [z3]; exact z9, by rw [z4]; exact z10⟩⟩
      rw [z1]
      have hF' := h.1.upd z5
      obtain ⟨-, -, -, -, -, -, -, -, -, -, -, g14', -, -⟩ := bz_tg hF' hT
      have l12' := (bz_tl hF' hT).2.2.2.2.2.2.2.2.2.1
      obtain ⟨k, rfl⟩ : ∃ k', k = k' + 1 := ⟨k - 1, by omega⟩
      unfold fz_X1_judgeBackwards_77
      by_cases c : e + 1 < σx'.2 T 2
      · rw [if_pos c, g14', Option.bind_some, bz_ard f0 (by omega), Option.bind_some, z2, if_neg (by decide)]
      · rw [if_neg c]
    · rw [z1, z5]
      have h1 := h.gen z3 z4 (fun a k q => nz_B.t hT q) (fun a k q => nz_SM.t q)
      have n1 : σx'.2 T 2 = σx.2 T 2 := z3.2.2 _ _ (fun c => by unfold nz_B cz_SJ at c; omega)
      have o7 : ∀ j, σx'.2 (T + 7) j = σx.2 (T + 7) j := fun j => z3.2.2 _ _ (fun c => by unfold nz_B cz_SJ at c; omega)
      have e816 : ∀ j, σm'.2 816 j = σm.2 816 j := fun j => z4.2.2 _ _ (fun c => by unfold cz_SB cz_SM at c; omega)
      obtain ⟨b, σx2, σm2, y1, y2, y3, y4, y5⟩ := ih k σx' σm' (e + 1) h1 f0 f1 (by omega) (by omega) (by rw [n1]; omega) z2 (fun e' p1 p2 p3 => by rw [e816]; exact hnf e' p1 (by rw [← n1]; exact p2) (by rw [← o7]; exact p3))
      exact ⟨b, σx2, σm2, y1, z3.trans y2, z4.trans y3, y4, y5⟩
/-- both say the same of a family -/
theorem nz_bwd {σx σm : az_Hp} (h : mz_H σx σm T s) (f0 : 0 ≤ f) (f1 : f < 5) : ∃ σx' σm', fz_X1_judgeBackwards 2000000 σx 242 T f = some σx' ∧ bz_Upd σx σx' (nz_B T f) ∧ fz_X11_isBad 2000000 σm 804 f = some (if σx'.2 (T + 12) f = 0 then 0 else 1, σm') ∧ bz_Upd σm σm' cz_SB ∧ (σx'.2 (T + 12) f ≠ 0 → σm'.2 804 63 = σx'.2 (T + 12) f ∧ σm'.2 804 64 = σx'.2 (T + 13) f ∧ σm'.2 804 65 = σx'.2 (T + 14) f) := by
  have hT := h.2.2.1.1
  have nb := mz_nb h
  obtain ⟨-, -, -, -, -, -, -, -, -, -, -, g14, g15, g16⟩ := bz_tg h.1 hT
  obtain ⟨-, -, -, -, -, -, -, -, -, l12, l13, l14⟩ := bz_tl h.1 hT
  have u0 : bz_Upd σx (az_wr (az_wr (az_wr σx (T + 12) f 0) (T + 13) f (-1)) (T + 14) f (-1)) (nz_B T f) := nz_wB hT (nz_wB hT (nz_wB hT bz_Upd.refl (by omega)) (by omega)) (by omega)
  have um : bz_Upd σm (az_wr σm 804 65 (-1)) cz_SB := bz_Upd.wr bz_Upd.refl (Or.inr ⟨rfl, by omega⟩) (by decide)
  have h0 := h.gen u0 um (fun a k q => nz_B.t hT q) (fun a k q => nz_SM.t q)
  have runX : fz_X1_judgeBackwards 2000000 σx 242 T f = fz_X1_judgeBackwards_23 2000000 2000000 (az_wr (az_wr (az_wr σx (T + 12) f 0) (T + 13) f (-1)) (T + 14) f (-1)) 242 T f 0 := by
    unfold fz_X1_judgeBackwards
    rw [g14, Option.bind_some, bz_awr f0 (by omega), Option.bind_some, bz_gref_wr (by omega), g15, Option.bind_some, bz_awr f0 (by rw [bz_ln_wr]; omega), Option.bind_some, bz_gref_wr (by omega), bz_gref_wr (by omega), g16, Option.bind_some, bz_awr f0 (by rw [bz_ln_wr, bz_ln_wr]; omega), Option.bind_some]
  have n0 : (az_wr (az_wr (az_wr σx (T + 12) f 0) (T + 13) f (-1)) (T + 14) f (-1)).2 T 2 = σx.2 T 2 := by rw [az_wr_ne (by omega), az_wr_ne (by omega), az_wr_ne (by omega)]
  have z12 : (az_wr (az_wr (az_wr σx (T + 12) f 0) (T + 13) f (-1)) (T + 14) f (-1)).2 (T + 12) f = 0 := by rw [az_wr_ne (by omega), az_wr_ne (by omega), az_wr_same]
  have z14 : (az_wr (az_wr (az_wr σx (T + 12) f 0) (T + 13) f (-1)) (T + 14) f (-1)).2 (T + 14) f = -1 := az_wr_same
  have o7 : ∀ j, (az_wr (az_wr (az_wr σx (T + 12) f 0) (T + 13) f (-1)) (T + 14) f (-1)).2 (T + 7) j = σx.2 (T + 7) j := fun j => by rw [az_wr_ne (by omega), az_wr_ne (by omega), az_wr_ne (by omega)]
  rw [runX]
  unfold fz_X11_isBad
  rcases nz_A (f := f) (σx.2 T 2).toNat 2000000 _ 0 h0 f0 f1 (by omega) (by omega) (by rw [n0]; omega) z12 with ⟨q, e0, σx', y1, y2, y3, y4, y5, y6, y7⟩ | ⟨σx', y1, y2, y3, y4, y5, y6⟩
  · refine ⟨σx', az_wr (az_wr (az_wr σm 804 65 (-1)) 804 63 q) 804 64 e0, y2, u0.trans y6, ?_, bz_Upd.wr (bz_Upd.wr um (Or.inr ⟨rfl, by omega⟩) (by decide)) (Or.inr ⟨rfl, by omega⟩) (by decide), fun _ => ⟨?_, ?_, ?_⟩⟩
    · rw [y7, if_neg (by rw [y3]; exact y1)]
    · rw [az_wr_ne (by omega), az_wr_same, y3]
    · rw [az_wr_same, y4]
    · rw [az_wr_ne (by omega), az_wr_ne (by omega), az_wr_same, y5, z14]
  · have h1 := h0.gen y4 (bz_Upd.refl (S := fun _ _ => False)) (fun a k q => nz_B.t hT q) (fun a k q => q.elim)
    have n1 : σx'.2 T 2 = σx.2 T 2 := by rw [y4.2.2 _ _ (fun c => by unfold nz_B cz_SJ at c; omega)]; exact n0
    have o71 : ∀ j, σx'.2 (T + 7) j = (az_wr (az_wr (az_wr σx (T + 12) f 0) (T + 13) f (-1)) (T + 14) f (-1)).2 (T + 7) j := fun j => y4.2.2 _ _ (fun c => by unfold nz_B cz_SJ at c; omega)
    obtain ⟨b, σx2, σm2, w1, w2, w3, w4, w5⟩ := nz_Bo (f := f) (σx.2 T 2).toNat 2000000 σx' (az_wr σm 804 65 (-1)) 0 h1 f0 f1 (by omega) (by omega) (by rw [n1]; omega) y2 (fun e' p1 p2 p3 => y6 e' p1 (by rw [n0, ← n1]; exact p2) (by rw [← o71]; exact p3))
    refine ⟨σx2, σm2, by rw [y1]; exact w1, (u0.trans y4).trans w2, ?_, um.trans w3, fun hne => ?_⟩
    · rw [y5, w4]
      rcases w5 with ⟨b0, k0⟩ | ⟨b1, k4, -⟩
      · rw [if_pos k0, b0]
      · rw [if_neg (by rw [k4]; decide), b1]
    · rcases w5 with ⟨b0, k0⟩ | ⟨b1, k4, r1, r2, r3⟩
      · exact absurd k0 hne
      · exact ⟨by rw [k4]; exact r1, r2, r3⟩
end NB
