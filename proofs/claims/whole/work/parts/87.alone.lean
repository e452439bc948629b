/-! an equation alone: by what it is bad -/
theorem mz_H.m {σx σm : az_Hp} {T s : Int} (h : mz_H σx σm T s) : bz_TR σm T (σm.2 804 15) := by
  rw [h.2.2.2.2]
  exact h.2.2.1
theorem mz_fam {σx σm : az_Hp} {T s e : Int} (h : mz_H σx σm T s) (e0 : 0 ≤ e) (e1 : e < σx.2 T 2) : fz_X11_familyOf σm 804 e = some (σx.2 (T + 7) e) ∧ az_gref σx T 9 = some (T + 7) ∧ az_ard σx (T + 7) e = some (σx.2 (T + 7) e) := by
  have hr := h.r e0 e1
  have hT := h.2.2.1.1
  have n := h.n
  have l := (bz_tl h.1 hT).2.2.2.2.2.2.1
  refine ⟨?_, (bz_tg h.1 hT).2.2.2.2.2.2.1, bz_ard e0 (by have := hr.2.2.2.2.2.2.2.2.2.2; omega)⟩
  rw [bz_familyOf h.2.1 h.m e0 (by omega), hr.2.2.2.2.1]
theorem mz_many {σx σm : az_Hp} {T s : Int} (h : mz_H σx σm T s) : az_gref σm 804 18 = some 808 ∧ az_ard σm 808 (σm.2 804 15) = some (σx.2 T 2) := by
  have := bz_eqMany h.2.1 h.m
  rw [← h.n.2.2] at this
  exact this
theorem mz_nb {σx σm : az_Hp} {T s : Int} (h : mz_H σx σm T s) : 0 ≤ σx.2 T 2 ∧ σx.2 T 2 ≤ 16 ∧ 0 ≤ σx.2 T 1 ∧ σx.2 T 1 ≤ 5 := by
  have n := h.n
  have := h.2.2.1.2.2.2.1
  have := h.tb.2.1
  exact ⟨by omega, by omega, by have := this.2.2.1; omega, by have := this.2.2.2.1; omega⟩
theorem mz_eqsL {σx σm : az_Hp} {T s f : Int} (h : mz_H σx σm T s) {n : Nat} : ∀ (d k : Nat) (c i : Int), d < k → 0 ≤ i → i + d = σx.2 T 2 → 0 ≤ c → c ≤ 1000 - d → ∃ r, c ≤ r ∧ r ≤ c + d ∧ fz_X9_equationsOf_4 n k σx T f c i = some r ∧ fz_X11_equationsOf_4 n k σm 804 f c i = some r := by
  have hm := mz_many h
  have hb := mz_nb h
  intro d
  induction d with
  | zero =>
    intro k c i hk h0 hi c0 c1
    obtain ⟨k, rfl⟩ : ∃ k', k = k' + 1 := ⟨k - 1, by omega⟩
    refine ⟨c, by omega, by omega, ?_, ?_⟩
    · unfold fz_X9_equationsOf_4
      rw [if_neg (by omega)]
    · unfold fz_X11_equationsOf_4
      rw [hm.1, Option.bind_some, hm.2, Option.bind_some, if_neg (by omega)]
  | succ d ih =>
    intro k c i hk h0 hi c0 c1
    obtain ⟨k, rfl⟩ : ∃ k', k = k' + 1 := ⟨k - 1, by omega⟩
    obtain ⟨hf, ho1, ho2⟩ := mz_fam h h0 (by omega)
    by_cases he : σx.2 (T + 7) i = f
    · obtain ⟨r, r0, r1, r2, r3⟩ := ih k (c + 1) (i + 1) (by omega) (by omega) (by omega) (by omega) (by omega)
      refine ⟨r, by omega, by omega, ?_, ?_⟩
      · unfold fz_X9_equationsOf_4
        rw [if_pos (by omega), ho1, Option.bind_some, ho2, Option.bind_some, if_pos he, az_w32_id (by omega) (by omega), az_w32_id (by omega) (by omega)]
        exact r2
      · unfold fz_X11_equationsOf_4
        simp (disch := omega) only [hm.1, hm.2, hf, Option.bind_some, if_pos, he, az_w32_id, if_true]
        exact r3
    · obtain ⟨r, r0, r1, r2, r3⟩ := ih k c (i + 1) (by omega) (by omega) (by omega) (by omega) (by omega)
      refine ⟨r, by omega, by omega, ?_, ?_⟩
      · unfold fz_X9_equationsOf_4
        rw [if_pos (by omega), ho1, Option.bind_some, ho2, Option.bind_some, if_neg he, az_w32_id (by omega) (by omega)]
        exact r2
      · unfold fz_X11_equationsOf_4
        simp (disch := omega) only [hm.1, hm.2, hf, Option.bind_some, if_pos, if_neg he, az_w32_id, Int.add_zero]
        exact r3
theorem mz_eqs {σx σm : az_Hp} {T s f : Int} (h : mz_H σx σm T s) : ∃ r, 0 ≤ r ∧ r ≤ 16 ∧ fz_X9_equationsOf 2000000 σx T f = some r ∧ fz_X11_equationsOf 2000000 σm 804 f = some r := by
  have hb := mz_nb h
  obtain ⟨r, r0, r1, r2, r3⟩ := mz_eqsL (f := f) (n := 2000000) h (σx.2 T 2).toNat 2000000 0 0 (by omega) (by omega) (by omega) (by omega) (by omega)
  exact ⟨r, r0, by omega, r2, r3⟩
/-- a row of the class against a row of the reference: whether a code stands outside of all families -/
theorem mz_outL {ct ft : Int → Int} {nc nf : Int} {W : Int → Int → Int → Prop} {r en A off y m who fl : Int} {σx σm : az_Hp} (hEn : lz_En ct ft nc nf W r 0 who fl en A off σx σm) (hen : en = σx.2 r 1) (hS : bz_Sc (bz_ra σx r) en.toNat 1 0) (hym : bz_cr ct ft nc nf (W who) y m) {n : Nat} (hn : n = 2000000) {Lm : Nat → Int → Option Int}
    (hL0 : ∀ (kf : Nat), Lm (kf + 1) (off + en) = some 0)
    (hL1 : ∀ (kf : Nat) (i : Int), 0 ≤ i → i < en → Lm (kf + 1) (off + i) = (if σm.2 A (off + i) = m then some 1 else if 200 ≤ σm.2 A (off + i) ∧ σm.2 A (off + i) < 1000 then (fz_X11_sizeAt 2000000 σm 804 A (off + i)).bind fun z => Lm kf (off + i + z) else Lm kf (off + i + 1))) :
    ∀ (d k : Nat) (i : Int), d < k → 0 ≤ i → i ≤ en → en - i ≤ d → ∃ q, (q = 0 ∨ q = 1) ∧ fz_X7_standsOutsideFamilies_2 n k σx r y i = some q ∧ Lm k (off + i) = some q := by
  subst hn
  have hEn0 := hEn
  obtain ⟨hFx, hFm, hsd, htb, hct, hft, hrw, ⟨s0, s1, s2, s3, s4, s5⟩, hcr, ⟨hVV, hW9⟩, hfl⟩ := hEn
  have hx := bz_fxR hFx hrw.1
  have cp := bz_cap_lt hrw.1
  have h60 := @bz_cap60 r
  have hsz := hrw.2.2.1
  have gr : az_gref σx r 0 = some (r + 1) := bz_gr hx.1 (by omega)
  intro d
  induction d with
  | zero =>
    intro k i hk i0 i1 hd
    obtain ⟨k, rfl⟩ : ∃ k', k = k' + 1 := ⟨k - 1, by omega⟩
    have : i = en := by omega
    subst this
    refine ⟨0, Or.inl rfl, ?_, hL0 k⟩
    unfold fz_X7_standsOutsideFamilies_2
    rw [if_neg (by omega)]
  | succ d ih =>
    intro k i hk i0 i1 hd
    obtain ⟨k, rfl⟩ : ∃ k', k = k' + 1 := ⟨k - 1, by omega⟩
    by_cases hie : i = en
    · subst hie
      refine ⟨0, Or.inl rfl, ?_, hL0 k⟩
      unfold fz_X7_standsOutsideFamilies_2
      rw [if_neg (by omega)]
    have ar : az_ard σx (r + 1) i = some (σx.2 (r + 1) i) := bz_ard i0 (by omega)
    have q := hcr i i0 (by omega)
    have qI := q.I htb hVV
    have kd := q.kd htb
    have mc := q.mc htb
    unfold bz_mc at mc
    have inj := q.inj hym htb hVV
    have w1 : az_w32 (i + 1) = i + 1 := az_w32_id (by omega) (by omega)
    have runX : fz_X7_standsOutsideFamilies_2 2000000 (k + 1) σx r y i = (if σx.2 (r + 1) i = y then some 1 else if bz_kd (σx.2 (r + 1) i) = 2 then (fz_X7_end 2000000 σx r i).bind fun r6 => fz_X7_standsOutsideFamilies_2 2000000 k σx r y (if r6 < i + 1 then i + 1 else r6) else fz_X7_standsOutsideFamilies_2 2000000 k σx r y (i + 1)) := by
      conv => lhs; unfold fz_X7_standsOutsideFamilies_2
      rw [if_pos (by omega)]
      simp only [gr, ar, bz_kind qI, w1, Option.bind_some]
    rw [runX, hL1 k i i0 (by omega)]
    by_cases e : σx.2 (r + 1) i = y
    · rw [if_pos e, if_pos (inj.mp e)]
      exact ⟨1, Or.inr rfl, rfl, rfl⟩
    rw [if_neg e, if_neg (fun c => e (inj.mpr c))]
    by_cases hf : 200 ≤ σm.2 A (off + i) ∧ σm.2 A (off + i) < 1000
    · have hk2 : bz_kd (σx.2 (r + 1) i) = 2 := by rw [kd, if_neg (by omega), if_pos (by omega)]
      obtain ⟨z, z0, z1, z2⟩ := bz_Sc.sub bz_ra0 (d := en.toNat) (c := 1) (i := 0) i.toNat (by omega) hS
      rw [show (0 : Int) + ((i.toNat : Nat) : Int) = i by omega] at z2
      have hend := bz_end hFx hrw i0 (by omega) z2
      have hsize := hEn0.size i0 (by omega) z2
      rw [if_pos hk2, if_pos hf, hend, Option.bind_some, hsize, Option.bind_some, if_neg (by omega)]
      have := ih k (i + z) (by omega) (by omega) (by omega) (by omega)
      rw [show off + i + (z : Int) = off + (i + z) by omega]
      exact this
    · have hk2 : bz_kd (σx.2 (r + 1) i) ≠ 2 := by
        rw [kd]
        by_cases q1 : σm.2 A (off + i) < 200
        · rw [if_pos q1]; decide
        · rw [if_neg q1, if_neg (by omega)]; split <;> decide
      rw [if_neg hk2, if_neg hf]
      have := ih k (i + 1) (by omega) (by omega) (by omega) (by omega)
      rw [show off + i + 1 = off + (i + 1) by omega]
      exact this
theorem mz_isFam {σ : az_Hp} {m : Int} : fz_X11_isFam σ m = some (if 200 ≤ m ∧ m < 1000 then 1 else 0) := by
  unfold fz_X11_isFam
  by_cases q1 : m < 200
  · rw [if_pos q1, if_neg (by omega)]
  · rw [if_neg q1]
    by_cases q2 : m < 1000
    · rw [if_pos q2, if_pos (by omega)]
    · rw [if_neg q2, if_neg (by omega)]
theorem mz_stands {σx σm : az_Hp} {T s e v : Int} (h : mz_H σx σm T s) (e0 : 0 ≤ e) (e1 : e < σx.2 T 2) (v0 : 0 ≤ v) (v1 : v < 6) : ∃ q, (q = 0 ∨ q = 1) ∧ fz_X7_standsOutsideFamilies 2000000 σx (T + 17 + 4 * e) (-v - 1) = some q ∧ fz_X11_standsOut 2000000 σm 804 e v = some q := by
  have ref := mz_leftRef h e0 e1
  have hr := h.r e0 e1
  have sz : 0 ≤ σx.2 (T + 17 + 4 * e) 1 := hr.2.2.2.2.2.2.2.1.2.1
  have n3 := hr.2.2.2.2.2.2.2.2.2.2
  have hnn := h.n
  have hs := h.2.2.1.2.1
  have hT := h.2.2.1.1
  obtain ⟨a1, a2, a3⟩ := mz_EnR (who := 0) (fl := 0) h e0 e1 (Or.inl rfl) (d := (σx.2 (T + 17 + 4 * e) 1).toNat) (by omega)
  have hE := h.2.2.1.2.2.2.2 e e0 (by omega)
  have l816 := ln_816 h.2.1
  have l818 := ln_818 h.2.1
  have sz2 : σm.2 818 (16 * s + e) = σx.2 (T + 17 + 4 * e) 1 := by rw [hr.2.2.1]; exact hE.2.1.1.symm
  have sz3 : σx.2 (T + 17 + 4 * e) 1 ≤ 16 := by rw [hr.2.2.1]; exact hE.2.1.2.2
  have g26 := ref.2.2.2.2.2.1
  generalize hen : σx.2 (T + 17 + 4 * e) 1 = en at *
  have een : (0 : Int) + (en.toNat : Nat) = en := by omega
  rw [een] at a1
  obtain ⟨q, q0, q1, q2⟩ := mz_outL (y := -v - 1) (m := 1000 + v) a1 hen.symm a2 (Or.inl ⟨by omega, by omega, by omega, by unfold mz_W bz_VE; omega⟩) rfl (Lm := fun kf i => fz_X11_standsOut_30 2000000 kf σm 804 v (16 * (16 * s + e) + en) i)
    (fun kf => by
      show fz_X11_standsOut_30 2000000 (kf + 1) σm 804 v _ _ = _
      unfold fz_X11_standsOut_30
      rw [if_neg (by omega)])
    (fun kf i i0 i1 => by
      show fz_X11_standsOut_30 2000000 (kf + 1) σm 804 v _ _ = _
      have rA := (a1.tk i0 i1).1
      conv => lhs; unfold fz_X11_standsOut_30
      rw [if_pos (by omega)]
      simp only [g26, rA, Option.bind_some, mz_isFam]
      rw [az_w32_id (z := 1000 + v) (by omega) (by omega)]
      by_cases c1 : σm.2 816 (16 * (16 * s + e) + i) = 1000 + v
      · rw [if_pos c1, if_pos c1]
      · rw [if_neg c1, if_neg c1]
        by_cases c2 : 200 ≤ σm.2 816 (16 * (16 * s + e) + i) ∧ σm.2 816 (16 * (16 * s + e) + i) < 1000
        · rw [if_pos c2, if_pos c2, if_neg (by decide)]
          have h60 : en ≤ 16 := by omega
          obtain ⟨z, z0, z1, z2⟩ := bz_Sc.sub bz_ra0 (d := en.toNat) (c := 1) (i := 0) i.toNat (by omega) a2
          rw [show (0 : Int) + ((i.toNat : Nat) : Int) = i by omega] at z2
          rw [a1.size i0 (by omega) z2, Option.bind_some, Option.bind_some, az_w32_id (by omega) (by omega)]
        · rw [if_neg c2, if_neg c2, if_pos rfl, az_w32_id (by omega) (by omega)])
    en.toNat 2000000 0 (by omega) (by omega) (by omega) (by omega)
  refine ⟨q, q0, ?_, ?_⟩
  · unfold fz_X7_standsOutsideFamilies
    exact q1
  · unfold fz_X11_standsOut
    have q2' : fz_X11_standsOut_30 2000000 2000000 σm 804 v (16 * (16 * s + e) + en) (16 * (16 * s + e) + 0) = some q := q2
    rw [Int.add_zero] at q2'
    have h16 : en ≤ 16 := by omega
    rw [ref.2.2.2.2.2.2, Option.bind_some, fx_804_28 h.2.1, Option.bind_some, Option.bind_some, bz_ard (by omega) (by omega), Option.bind_some, Option.bind_some, sz2, az_w32_id (z := 16 * (16 * s + e)) (by omega) (by omega), az_w32_id (by omega) (by omega)]
    exact q2'
theorem mz_alone {σx σm : az_Hp} {T s e : Int} (h : mz_H σx σm T s) (e0 : 0 ≤ e) (e1 : e < σx.2 T 2) : ∃ q, 0 ≤ q ∧ q ≤ 3 ∧ fz_X1_badAlone 2000000 σx 242 T e = some q ∧ fz_X11_badAlone 2000000 σm 804 e = some q ∧ (q = 0 → ¬ (200 ≤ σm.2 816 (16 * (16 * s + e)) ∧ σm.2 816 (16 * (16 * s + e)) < 1000)) := by
  have ref := mz_leftRef h e0 e1
  have fam := mz_fam h e0 e1
  obtain ⟨ec, ec0, ec1, ecx, ecm⟩ := mz_eqs (f := σx.2 (T + 7) e) h
  have hs := h.2.2.1.2.1
  have hT := h.2.2.1.1
  have tb := h.2.2.1.2.2.1.2.2.1
  have hnn := h.n
  obtain ⟨a1, a2, a3, a4, a5, a6, rl, rr, ra1, ra2, n3⟩ := h.r e0 e1
  have hE := h.2.2.1.2.2.2.2 e e0 (by omega)
  unfold bz_ER bz_RR at hE
  simp only [← a1, ← a2, ← a3, ← a4, ← a5, ← a6, ← ra1, ← ra2] at hE
  obtain ⟨q1, q2, q3, q4, q5, q6, q7, q8, q9, q10, q11⟩ := hE
  have xl := bz_fxR h.1 rl.1
  have xr := bz_fxR h.1 rr.1
  have cl := bz_tcap hT e0 (by omega)
  have l815 := ln_815 h.2.1
  have l816 := ln_816 h.2.1
  have l817 := ln_817 h.2.1
  have l819 := ln_819 h.2.1
  have c0 := q5 0 (by omega) (by omega)
  rw [Int.add_zero] at c0
  have kd := c0.kd tb
  have mc := c0.mc tb
  unfold bz_mc at mc
  have hm2 := q10 0 (by omega) (by omega)
  rw [Int.add_zero] at hm2
  have I0 := rr.2.2.2 0 (by omega) (by omega)
  have gl : az_gref σx (T + 15 + 4 * e) 0 = some (T + 15 + 4 * e + 1) := bz_gr xl.1 (by omega)
  have gr : az_gref σx (T + 17 + 4 * e) 0 = some (T + 17 + 4 * e + 1) := bz_gr xr.1 (by omega)
  have ar0 : az_ard σx (T + 17 + 4 * e + 1) 0 = some (σx.2 (T + 17 + 4 * e + 1) 0) := bz_ard (by omega) (by omega)
  have lt := (bz_tl h.1 hT).2.2.2.2.2.2.2.1
  have g10 := (bz_tg h.1 hT).2.2.2.2.2.2.2.1
  have arv : az_ard σx (T + 8) e = some (σx.2 (T + 8) e) := bz_ard e0 (by omega)
  have eq := ref.2.2.2.2.2.2
  have rm0 : az_ard σm 816 (az_w32 (16 * (16 * s + e))) = some (σm.2 816 (16 * (16 * s + e))) := by rw [az_w32_id (by omega) (by omega), bz_ard (by omega) (by omega)]
  have rls : az_ard σm 817 (16 * s + e) = some (σx.2 (T + 15 + 4 * e) 1) := by rw [bz_ard (by omega) (by omega), q1.1]
  have rvs : az_ard σm 819 (16 * s + e) = some (σx.2 (T + 8) e) := by rw [bz_ard (by omega) (by omega), q3.1]
  have g25 := ref.2.2.2.2.1
  have g26 := ref.2.2.2.2.2.1
  have g27 := fx_804_27 h.2.1
  have g29 := fx_804_29 h.2.1
  -- the loop over variables
  have loop : ∀ (d k : Nat) (v : Int), d < k → 0 ≤ v → v + d = σx.2 (T + 8) e → ∃ q, (q = 0 ∨ q = 3) ∧ fz_X1_badAlone_88 2000000 k σx T e (T + 17 + 4 * e) v = some q ∧ fz_X11_badAlone_93 2000000 k σm 804 e v = some q := by
    intro d
    induction d with
    | zero =>
      intro k v hk v0 hv
      obtain ⟨k, rfl⟩ : ∃ k', k = k' + 1 := ⟨k - 1, by omega⟩
      refine ⟨0, Or.inl rfl, ?_, ?_⟩
      · unfold fz_X1_badAlone_88
        rw [g10, Option.bind_some, arv, Option.bind_some, if_neg (by omega)]
      · unfold fz_X11_badAlone_93
        rw [g29, Option.bind_some, eq, Option.bind_some, rvs, Option.bind_some, if_neg (by omega)]
    | succ d ih =>
      intro k v hk v0 hv
      obtain ⟨k, rfl⟩ : ∃ k', k = k' + 1 := ⟨k - 1, by omega⟩
      obtain ⟨z, z0, z1, z2⟩ := mz_stands h e0 e1 v0 (by omega)
      have x1 : fz_X1_badAlone_88 2000000 (k + 1) σx T e (T + 17 + 4 * e) v = (if z = 0 then some 3 else fz_X1_badAlone_88 2000000 k σx T e (T + 17 + 4 * e) (v + 1)) := by
        conv => lhs; unfold fz_X1_badAlone_88
        rw [g10, Option.bind_some, arv, Option.bind_some, if_pos (by omega), bz_xor (by omega) (by omega), z1, Option.bind_some, az_w32_id (by omega) (by omega)]
      have x2 : fz_X11_badAlone_93 2000000 (k + 1) σm 804 e v = (if z = 0 then some 3 else fz_X11_badAlone_93 2000000 k σm 804 e (v + 1)) := by
        conv => lhs; unfold fz_X11_badAlone_93
        rw [g29, Option.bind_some, eq, Option.bind_some, rvs, Option.bind_some, if_pos (by omega), z2, Option.bind_some, az_w32_id (by omega) (by omega)]
      rw [x1, x2]
      by_cases zz : z = 0
      · rw [if_pos zz, if_pos zz]
        exact ⟨3, Or.inr rfl, rfl, rfl⟩
      · rw [if_neg zz, if_neg zz]
        exact ih k (v + 1) (by omega) (by omega) (by omega)
  obtain ⟨lq, lq0, lqx, lqm⟩ := loop (σx.2 (T + 8) e).toNat 2000000 0 (by omega) (by omega) (by omega)
  -- what comes behind the first question
  have rest : ∃ q, 0 ≤ q ∧ q ≤ 3 ∧ fz_X1_badAlone_77 2000000 σx T e (T + 17 + 4 * e) (bz_kd (σx.2 (T + 17 + 4 * e + 1) 0)) = some q ∧ fz_X11_badAlone_81 2000000 σm 804 e (σm.2 816 (16 * (16 * s + e))) = some q ∧ (q = 0 → ¬ (200 ≤ σm.2 816 (16 * (16 * s + e)) ∧ σm.2 816 (16 * (16 * s + e)) < 1000)) := by
    unfold fz_X1_badAlone_77 fz_X11_badAlone_81
    by_cases c1 : σm.2 816 (16 * (16 * s + e)) < 200
    · have kf : bz_kd (σx.2 (T + 17 + 4 * e + 1) 0) = 1 := by rw [kd, if_pos c1]
      have ff : fz_X11_isFam σm (σm.2 816 (16 * (16 * s + e))) = some 0 := by rw [mz_isFam, if_neg (by omega)]
      rw [kf, ff, if_neg (by decide), Option.bind_some, if_pos rfl]
      exact ⟨lq, by omega, by omega, lqx, lqm, fun _ => by omega⟩
    · by_cases c2 : σm.2 816 (16 * (16 * s + e)) < 1000
      · have kf : bz_kd (σx.2 (T + 17 + 4 * e + 1) 0) = 2 := by rw [kd, if_neg c1, if_pos c2]
        have ff : fz_X11_isFam σm (σm.2 816 (16 * (16 * s + e))) = some 1 := by rw [mz_isFam, if_pos (by omega)]
        rw [kf, ff, if_pos rfl, Option.bind_some, if_neg (by decide)]
        exact ⟨2, by omega, by omega, rfl, rfl, fun q => by omega⟩
      · have kf : bz_kd (σx.2 (T + 17 + 4 * e + 1) 0) = 0 := by rw [kd, if_neg c1, if_neg c2, if_pos hm2]
        have ff : fz_X11_isFam σm (σm.2 816 (16 * (16 * s + e))) = some 0 := by rw [mz_isFam, if_neg (by omega)]
        rw [kf, ff, if_neg (by decide), Option.bind_some, if_pos rfl]
        exact ⟨lq, by omega, by omega, lqx, lqm, fun _ => by omega⟩
  obtain ⟨rq, rq0, rq1, rqx, rqm, rqn⟩ := rest
  -- whether it is its only equation, of a variable
  have runX : fz_X1_badAlone 2000000 σx 242 T e = (if σx.2 (T + 15 + 4 * e) 1 = 2 ∧ σx.2 (T + 15 + 4 * e + 1) 1 < 0 then fz_X1_badAlone_49 2000000 σx T e (T + 17 + 4 * e) (bz_kd (σx.2 (T + 17 + 4 * e + 1) 0)) 1 else fz_X1_badAlone_49 2000000 σx T e (T + 17 + 4 * e) (bz_kd (σx.2 (T + 17 + 4 * e + 1) 0)) 0) := by
    unfold fz_X1_badAlone
    rw [ref.1, Option.bind_some, ref.2.1, Option.bind_some, ref.2.2.1, Option.bind_some, ref.2.2.2.1, Option.bind_some, gr, Option.bind_some, ar0, Option.bind_some, bz_kind I0, Option.bind_some]
    by_cases c1 : σx.2 (T + 15 + 4 * e) 1 = 2
    · rw [if_pos c1, gl, Option.bind_some, bz_ard (by omega) (by omega), Option.bind_some]
      by_cases c2 : σx.2 (T + 15 + 4 * e + 1) 1 < 0
      · rw [if_pos c2, if_pos ⟨c1, c2⟩]
      · rw [if_neg c2, if_neg (fun c => c2 c.2)]
    · rw [if_neg c1, if_neg (fun c => c1 c.1)]
  have runM : fz_X11_badAlone 2000000 σm 804 e = (if ec = 1 ∧ (σx.2 (T + 15 + 4 * e) 1 = 2 ∧ σx.2 (T + 15 + 4 * e + 1) 1 < 0) then fz_X11_badAlone_67 2000000 σm 804 e (σm.2 816 (16 * (16 * s + e))) 1 else fz_X11_badAlone_67 2000000 σm 804 e (σm.2 816 (16 * (16 * s + e))) 0) := by
    unfold fz_X11_badAlone
    rw [g26, Option.bind_some, eq, Option.bind_some, rm0, Option.bind_some, fam.1, Option.bind_some, ecm, Option.bind_some]
    by_cases c0 : ec = 1
    · rw [if_pos c0, g27, Option.bind_some, Option.bind_some, rls, Option.bind_some]
      by_cases c1 : σx.2 (T + 15 + 4 * e) 1 = 2
      · have w1 : az_ard σm 815 (az_w32 (az_w32 (16 * (16 * s + e)) + 1)) = some (σm.2 815 (16 * (16 * s + e) + 1)) := by
          rw [az_w32_id (z := 16 * (16 * s + e)) (by omega) (by omega), az_w32_id (by omega) (by omega), bz_ard (by omega) (by omega)]
        have lc := q4 1 (by omega) (by omega)
        have lv : σx.2 (T + 15 + 4 * e + 1) 1 < 0 ↔ 1000 ≤ σm.2 815 (16 * (16 * s + e) + 1) := by
          have := q9 1 (by omega) (by omega)
          obtain ⟨z1, z2, z3, z4, z5, z6⟩ := tb
          rcases lc with h | h | h | h
          · omega
          · have := z5 (σm.2 815 (16 * (16 * s + e) + 1) - 100) (by omega) (by omega)
            omega
          · omega
          · omega
        rw [if_pos c1, g25, Option.bind_some, Option.bind_some, w1, Option.bind_some]
        by_cases c2 : σx.2 (T + 15 + 4 * e + 1) 1 < 0
        · rw [ez_isVarM.1 (lv.mp c2), Option.bind_some, if_neg (by decide), if_pos ⟨c0, c1, c2⟩]
        · rw [ez_isVarM.2 (fun q => c2 (lv.mpr q)), Option.bind_some, if_pos rfl, if_neg (fun c => c2 c.2.2)]
      · rw [if_neg c1, if_neg (fun c => c1 c.2.1)]
    · rw [if_neg c0, if_neg (fun c => c0 c.1)]
  have kz : bz_kd (σx.2 (T + 17 + 4 * e + 1) 0) = 0 ↔ 1000 ≤ σm.2 816 (16 * (16 * s + e)) := by
    rw [kd]
    by_cases c1 : σm.2 816 (16 * (16 * s + e)) < 200
    · rw [if_pos c1]; omega
    · by_cases c2 : σm.2 816 (16 * (16 * s + e)) < 1000
      · rw [if_neg c1, if_pos c2]; omega
      · rw [if_neg c1, if_neg c2, if_pos hm2]; omega
  have a49 : ∀ w, fz_X1_badAlone_49 2000000 σx T e (T + 17 + 4 * e) (bz_kd (σx.2 (T + 17 + 4 * e + 1) 0)) w = (if 1000 ≤ σm.2 816 (16 * (16 * s + e)) ∧ ¬ (w ≠ 0 ∧ ec = 1) then some 1 else some rq) := by
    intro w
    unfold fz_X1_badAlone_49
    by_cases c1 : 1000 ≤ σm.2 816 (16 * (16 * s + e))
    · rw [if_pos (kz.mpr c1)]
      by_cases c2 : w = 0
      · rw [if_pos c2, if_pos ⟨c1, fun c => c.1 c2⟩]
      · rw [if_neg c2, fam.2.1, Option.bind_some, fam.2.2, Option.bind_some, ecx, Option.bind_some]
        by_cases c3 : ec = 1
        · rw [if_pos c3, if_neg (fun c => c.2 ⟨c2, c3⟩), rqx]
        · rw [if_neg c3, if_pos ⟨c1, fun c => c3 c.2⟩]
    · rw [if_neg (fun c => c1 (kz.mp c)), if_neg (fun c => c1 c.1), rqx]
  have a67 : ∀ w, fz_X11_badAlone_67 2000000 σm 804 e (σm.2 816 (16 * (16 * s + e))) w = (if 1000 ≤ σm.2 816 (16 * (16 * s + e)) ∧ w = 0 then some 1 else some rq) := by
    intro w
    unfold fz_X11_badAlone_67
    by_cases c1 : 1000 ≤ σm.2 816 (16 * (16 * s + e))
    · rw [ez_isVarM.1 c1, Option.bind_some, if_neg (by decide)]
      by_cases c2 : w = 0
      · rw [if_pos c2, if_pos ⟨c1, c2⟩]
      · rw [if_neg c2, if_neg (fun c => c2 c.2), rqm]
    · rw [ez_isVarM.2 c1, Option.bind_some, if_pos rfl, if_neg (fun c => c1 c.1), rqm]
  rw [runX, runM]
  by_cases c2 : σx.2 (T + 15 + 4 * e) 1 = 2 ∧ σx.2 (T + 15 + 4 * e + 1) 1 < 0
  · by_cases c3 : ec = 1
    · rw [if_pos c2, if_pos (show ec = 1 ∧ _ from ⟨c3, c2⟩), a49 1, a67 1, if_neg (fun c => c.2 ⟨by decide, c3⟩), if_neg (fun c => absurd c.2 (by decide))]
      exact ⟨rq, rq0, rq1, rfl, rfl, rqn⟩
    · rw [if_pos c2, if_neg (fun c => c3 c.1), a49 1, a67 0]
      by_cases c1 : 1000 ≤ σm.2 816 (16 * (16 * s + e))
      · rw [if_pos ⟨c1, fun c => c3 c.2⟩, if_pos ⟨c1, rfl⟩]
        exact ⟨1, by omega, by omega, rfl, rfl, fun q => by omega⟩
      · rw [if_neg (fun c => c1 c.1), if_neg (fun c => c1 c.1)]
        exact ⟨rq, rq0, rq1, rfl, rfl, rqn⟩
  · rw [if_neg c2, if_neg (fun c => c2 c.2), a49 0, a67 0]
    by_cases c1 : 1000 ≤ σm.2 816 (16 * (16 * s + e))
    · rw [if_pos ⟨c1, fun c => c.1 rfl⟩, if_pos ⟨c1, rfl⟩]
      exact ⟨1, by omega, by omega, rfl, rfl, fun q => by omega⟩
    · rw [if_neg (fun c => c1 c.1), if_neg (fun c => c1 c.1)]
      exact ⟨rq, rq0, rq1, rfl, rfl, rqn⟩
