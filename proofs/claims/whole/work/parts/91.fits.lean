/-! an equation fits: class and reference go along the left side and the row together -/
theorem bz_cr.inj2 {ct ft : Int → Int} {nc nf : Int} {V V' : Int → Int → Prop} {c m c' m' : Int} (h : bz_cr ct ft nc nf V c m) (h' : bz_cr ct ft nc nf V' c' m') (ht : bz_tb ct ft nc nf) (hc : 0 ≤ c) : c = c' ↔ m = m' := by
  obtain ⟨t1, t2, t3, t4, t5, t6⟩ := ht
  rcases h with h | h | h | h
  · omega
  · have q := t5 (m - 100) (by omega) (by omega)
    rcases h' with h' | h' | h' | h'
    · omega
    · have := t5 (m' - 100) (by omega) (by omega)
      constructor
      · intro e; omega
      · intro e; subst e; omega
    · have := t6 (m' - 200) (by omega) (by omega); omega
    · omega
  · have q := t6 (m - 200) (by omega) (by omega)
    rcases h' with h' | h' | h' | h'
    · omega
    · have := t5 (m' - 100) (by omega) (by omega); omega
    · have := t6 (m' - 200) (by omega) (by omega)
      constructor
      · intro e; omega
      · intro e; subst e; omega
    · omega
  · rcases h' with h' | h' | h' | h'
    · omega
    · have := t5 (m' - 100) (by omega) (by omega); omega
    · have := t6 (m' - 200) (by omega) (by omega); omega
    · omega
/-- a row of the class and one of the reference: n codes of a TERM -/
def rz_R (σx σm : az_Hp) (T s : Int) (V : Int → Int → Prop) (r A n : Int) : Prop :=
  bz_rw σx r ∧ σx.2 r 1 = n ∧ (1 ≤ n ∧ n ≤ 60) ∧ (∀ i, 0 ≤ i → i < n → bz_cr (bz_ct σm s) (bz_ft σm s) (σm.2 T 0) (σm.2 T 1) V (σx.2 (r + 1) i) (σm.2 A i)) ∧ bz_Sc (bz_ra σx r) n.toNat 1 0 ∧ (n ≤ az_ln σm A ∧ az_ln σm A ≤ 100000 ∧ (A < 804 ∨ (804 < A ∧ A < 823) ∨ 832 < A)) ∧ bz_VV V ∧ ∀ a b, V a b → a < 999999999
theorem rz_R.en {σx σm : az_Hp} {T s r A n who fl : Int} {V : Int → Int → Prop} (h : rz_R σx σm T s V r A n) (hH : mz_H σx σm T s) (hfl : fl = 0 ∨ fl = 1) {W : Int → Int → Int → Prop} (hW : W who = V) {st en : Int} (h0 : 0 ≤ st) (h1 : en ≤ n) : lz_En (bz_ct σm s) (bz_ft σm s) (σm.2 T 0) (σm.2 T 1) W r st who fl en A 0 σx σm := by
  obtain ⟨t1, t2, t3, t4⟩ := hH.tb
  obtain ⟨a1, a2, a3, a4, a5, a6, a7, a8⟩ := h
  refine ⟨hH.1, hH.2.1, t1, t2, t3, t4, a1, ⟨h0, by omega, by omega, by omega, by omega, a6.2.2⟩, fun j j0 j1 => ?_, by rw [hW]; exact ⟨a7, a8⟩, hfl⟩
  rw [hW, Int.zero_add]
  exact a4 j (by omega) (by omega)
theorem rz_R.sub {σx σm : az_Hp} {T s r A n : Int} {V : Int → Int → Prop} (h : rz_R σx σm T s V r A n) {i : Int} (i0 : 0 ≤ i) (i1 : i < n) : ∃ d : Nat, 0 < d ∧ i + d ≤ n ∧ bz_Sc (bz_ra σx r) d 1 i := by
  obtain ⟨a1, a2, a3, a4, a5, a6, a7, a8⟩ := h
  obtain ⟨z, z0, z1, z2⟩ := bz_Sc.sub bz_ra0 (d := n.toNat) (c := 1) (i := 0) i.toNat (by omega) a5
  rw [show (0 : Int) + ((i.toNat : Nat) : Int) = i by omega] at z2
  exact ⟨z, z0, by omega, z2⟩
/-- what variables are bound to: the class's first place, the reference's latest -/
def rz_B (σx σm : az_Hp) (r n : Int) : Prop := ∀ v, 0 ≤ v → v < 6 → (σx.2 252 v = -1 ∧ σm.2 839 v = 0) ∨ (0 ≤ σx.2 252 v ∧ ∃ d : Nat, 0 < d ∧ σx.2 252 v + d ≤ n ∧ bz_Sc (bz_ra σx r) d 1 (σx.2 252 v) ∧ σm.2 839 v = d ∧ 0 ≤ σm.2 838 v ∧ σm.2 838 v + d ≤ n ∧ ∀ p : Nat, p < d → σx.2 (r + 1) (σx.2 252 v + p) = σx.2 (r + 1) (σm.2 838 v + p))
def rz_SX (a k : Int) : Prop := a = 252
def rz_SM (a k : Int) : Prop := a = 838 ∨ a = 839
theorem rz_fix252 {k : Int} : bz_isFix 252 k = false := by unfold bz_isFix; simp [bz_cap, bz_fixL, bz_rowsL]
theorem rz_fix838 {k : Int} : bz_isFix 838 k = false := by unfold bz_isFix; simp [bz_cap, bz_fixL, bz_rowsL]
theorem rz_fix839 {k : Int} : bz_isFix 839 k = false := by unfold bz_isFix; simp [bz_cap, bz_fixL, bz_rowsL]
theorem rz_cap252 {r : Int} (h : 0 < bz_cap r) : r ≠ 252 ∧ r + 1 ≠ 252 := by
  unfold bz_cap at h
  constructor <;> (intro e; repeat' split at h) <;> omega
theorem rz_keepX {σx σx' : az_Hp} {r : Int} (hr : 0 < bz_cap r) (hU : bz_Upd σx σx' rz_SX) : (∀ k, σx'.2 r k = σx.2 r k) ∧ (∀ k, σx'.2 (r + 1) k = σx.2 (r + 1) k) ∧ bz_ra σx' r = bz_ra σx r := by
  have := rz_cap252 hr
  have e2 : ∀ k, σx'.2 (r + 1) k = σx.2 (r + 1) k := fun k => hU.2.2 _ _ (fun c => this.2 c)
  exact ⟨fun k => hU.2.2 _ _ (fun c => this.1 c), e2, funext fun k => by unfold bz_ra; rw [e2]⟩
theorem rz_H {σx σm σx' σm' : az_Hp} {T s : Int} (h : mz_H σx σm T s) (hx : bz_Upd σx σx' rz_SX) (hm : bz_Upd σm σm' rz_SM) : mz_H σx' σm' T s := h.gen hx hm (fun a k q => by unfold rz_SX at q; unfold nz_t; omega) (fun a k q => by unfold rz_SM at q; unfold nz_t; omega)
theorem rz_R.upd {σx σm σx' σm' : az_Hp} {T s r A n : Int} {V : Int → Int → Prop} (h : rz_R σx σm T s V r A n) (hT : T = 3 ∨ T = 82) (hA : A ≠ 838 ∧ A ≠ 839) (hx : bz_Upd σx σx' rz_SX) (hm : bz_Upd σm σm' rz_SM) : rz_R σx' σm' T s V r A n := by
  obtain ⟨a1, a2, a3, a4, a5, a6, a7, a8⟩ := h
  obtain ⟨k1, k2, k3⟩ := rz_keepX a1.1 hx
  have tS : bz_tS σm σm' := fun a k q => hm.2.2 a k (fun c => by unfold rz_SM at c; omega)
  refine ⟨by unfold bz_rw at a1 ⊢; simp only [k1, k2]; exact a1, by rw [k1]; exact a2, a3, fun i i0 i1 => ?_, by rw [k3]; exact a5, by rw [hm.ln]; exact a6, a7, a8⟩
  rw [bz_ct_tS tS, bz_ft_tS tS, tS T 0 (by omega), tS T 1 (by omega), k2, hm.2.2 A i (fun c => by unfold rz_SM at c; omega)]
  exact a4 i i0 i1
section FT
variable {T s r A n e : Int} {V : Int → Int → Prop}
theorem rz_fitL (hA : A ≠ 838 ∧ A ≠ 839) : ∀ (m k : Nat) (σx σm : az_Hp) (i j c : Int) (dr : Nat), mz_H σx σm T s → rz_R σx σm T s V r A n → 0 ≤ e → e < σx.2 T 2 → m < k → 0 ≤ i → i + m = σx.2 (T + 15 + 4 * e) 1 → bz_Sc (bz_ra σx (T + 15 + 4 * e)) m c i → 0 ≤ j → j + dr ≤ n → bz_Sc (bz_ra σx r) dr c j → rz_B σx σm r n →
    ∃ q σx' σm', fz_X5_fits_41 2000000 k σx 243 r (T + 15 + 4 * e) j i = some (q, σx') ∧ fz_X11_fits_40 2000000 k σm 804 e A j (16 * (16 * s + e)) i = some (q, σm') ∧ (q = 0 ∨ q = 1) ∧ bz_Upd σx σx' rz_SX ∧ bz_Upd σm σm' rz_SM ∧ (q = 1 → rz_B σx' σm' r n ∧ (∀ v, σx.2 252 v ≠ -1 → σx'.2 252 v ≠ -1) ∧ ∀ i' v, i ≤ i' → i' < σx.2 (T + 15 + 4 * e) 1 → 0 ≤ v → v < 6 → σm.2 815 (16 * (16 * s + e) + i') = 1000 + v → σx'.2 252 v ≠ -1) := by
  intro m
  induction m with
  | zero =>
    intro k σx σm i j c dr h hR e0 e1 hk i0 hi hSl j0 hj hSr hB
    obtain ⟨k, rfl⟩ : ∃ k', k = k' + 1 := ⟨k - 1, by omega⟩
    have ref := mz_leftRef h e0 e1
    have hr := h.r e0 e1
    have hs := h.2.2.1.2.1
    have hE := h.2.2.1.2.2.2.2 e e0 (by rw [← h.n.2.2]; exact e1)
    have l817 := ln_817 h.2.1
    refine ⟨1, σx, σm, ?_, ?_, Or.inr rfl, bz_Upd.refl, bz_Upd.refl, fun _ => ⟨hB, fun v q => q, fun i' v q1 q2 => by omega⟩⟩
    · unfold fz_X5_fits_41
      rw [if_neg (by omega)]
    · unfold fz_X11_fits_40
      rw [fx_804_27 h.2.1, Option.bind_some, ref.2.2.2.2.2.2, Option.bind_some, bz_ard (by omega) (by have := hr.2.2.2.2.2.2.2.2.2.2; omega), Option.bind_some, ← hE.1.1, ← hr.1, if_neg (by omega)]
  | succ m ih =>
    intro k σx σm i j c dr h hR e0 e1 hk i0 hi hSl j0 hj hSr hB
    obtain ⟨k, rfl⟩ : ∃ k', k = k' + 1 := ⟨k - 1, by omega⟩
    have ref := mz_leftRef h e0 e1
    obtain ⟨a1, a2, a3, a4, a5, a6, rl, rr, ra1, ra2, e16⟩ := h.r e0 e1
    have hs := h.2.2.1.2.1
    have hT := h.2.2.1.1
    have tb := h.tb.2.1
    have hE := h.2.2.1.2.2.2.2 e e0 (by rw [← h.n.2.2]; exact e1)
    obtain ⟨q1, q2, q3, q4, q5, q6, q7, q8, q9, q10, q11⟩ := hE
    have l817 := ln_817 h.2.1
    have l815 := ln_815 h.2.1
    have hR0 := hR
    obtain ⟨R1, R2, R3, R4, R5, R6, R7, R8⟩ := hR
    have xl := bz_fxR h.1 rl.1
    have xr := bz_fxR h.1 R1.1
    have cl := bz_tcap hT e0 e16
    have cr := bz_cap_lt R1.1
    have h60 := @bz_cap60 r
    have rsz := R1.2.2.1
    have cpos : 0 < c := hSl.1
    have drp := hSr.pos cpos
    have gl : az_gref σx (T + 15 + 4 * e) 0 = some (T + 15 + 4 * e + 1) := bz_gr xl.1 (by omega)
    have gr : az_gref σx r 0 = some (r + 1) := bz_gr xr.1 (by omega)
    have arl : az_ard σx (T + 15 + 4 * e + 1) i = some (σx.2 (T + 15 + 4 * e + 1) i) := bz_ard i0 (by have := rl.2.2.1; omega)
    have arr : az_ard σx (r + 1) j = some (σx.2 (r + 1) j) := bz_ard j0 (by omega)
    have sz16 : σx.2 (T + 15 + 4 * e) 1 ≤ 16 := by rw [a1]; exact q1.2.2
    have c1 := q4 i i0 (by rw [← a1]; omega)
    rw [← a2] at c1
    have cI := rl.2.2.2 i i0 (by omega)
    have c2 := R4 j j0 (by omega)
    have amr : az_ard σm A j = some (σm.2 A j) := bz_ard j0 (by omega)
    have am815 : az_ard σm 815 (az_w32 (16 * (16 * s + e) + i)) = some (σm.2 815 (16 * (16 * s + e) + i)) := by rw [az_w32_id (by omega) (by omega), bz_ard (by omega) (by omega)]
    have am817 : az_ard σm 817 (16 * s + e) = some (σx.2 (T + 15 + 4 * e) 1) := by rw [bz_ard (by omega) (by omega), ← q1.1, a1]
    have wi : az_w32 (i + 1) = i + 1 := az_w32_id (by omega) (by omega)
    have startM : fz_X11_fits_40 2000000 (k + 1) σm 804 e A j (16 * (16 * s + e)) i = ((fz_X11_isVar σm (σm.2 815 (16 * (16 * s + e) + i))).bind fun r6 => (if r6 = 0 then (if σm.2 A j = σm.2 815 (16 * (16 * s + e) + i) then fz_X11_fits_40 2000000 k σm 804 e A (az_w32 (j + 1)) (16 * (16 * s + e)) (i + 1) else (some (0, σm))) else ((fz_X11_sizeAt 2000000 σm 804 A j).bind fun r7 => ((az_ard σm 839 (az_w32 (σm.2 815 (16 * (16 * s + e) + i) - 1000))).bind fun x9 => (if 0 < x9 then (if x9 = r7 then ((az_ard σm 838 (az_w32 (σm.2 815 (16 * (16 * s + e) + i) - 1000))).bind fun x13 => ((fz_X11_isSame 2000000 σm A j A x13 r7).bind fun r14 => (if r14 = 0 then (some (0, σm)) else fz_X11_fits_152 2000000 (fz_X11_fits_40 2000000 k) σm 804 e A j (16 * (16 * s + e)) i (az_w32 (σm.2 815 (16 * (16 * s + e) + i) - 1000)) r7))) else (some (0, σm))) else fz_X11_fits_152 2000000 (fz_X11_fits_40 2000000 k) σm 804 e A j (16 * (16 * s + e)) i (az_w32 (σm.2 815 (16 * (16 * s + e) + i) - 1000)) r7))))) := by
      conv => lhs; unfold fz_X11_fits_40
      rw [fx_804_27 h.2.1, Option.bind_some, ref.2.2.2.2.2.2, Option.bind_some, am817, Option.bind_some, if_pos (by omega), ref.2.2.2.2.1, Option.bind_some, am815, Option.bind_some]
      simp only [amr, fx_804_67 h.2.1, fx_804_66 h.2.1, Option.bind_some, wi]
      congr 1
      funext r6
      congr 1
      congr 1
      funext r7
      cases az_ard σm 839 (az_w32 (σm.2 815 (16 * (16 * s + e) + i) - 1000)) with
      | none => rfl
      | some x9 => simp only [Option.bind_some]
    have arE : bz_ra σx (T + 15 + 4 * e) i = bz_ar (σx.2 (T + 15 + 4 * e + 1) i) := rfl
    have hSl2 : bz_Sc (bz_ra σx (T + 15 + 4 * e)) m (c - 1 + bz_ar (σx.2 (T + 15 + 4 * e + 1) i)) (i + 1) := hSl.2
    rw [startM]
    by_cases cv : σx.2 (T + 15 + 4 * e + 1) i < 0
    · -- a variable of the equation
      have cvr : 1000 ≤ σm.2 815 (16 * (16 * s + e) + i) ∧ σm.2 815 (16 * (16 * s + e) + i) < 1006 ∧ -σx.2 (T + 15 + 4 * e + 1) i - 1 = σm.2 815 (16 * (16 * s + e) + i) - 1000 := by
        obtain ⟨z1, z2, z3, z4, z5, z6⟩ := tb
        rcases c1 with w | w | w | w
        · have := w.2.2.2
          unfold bz_VE at this
          omega
        · have := z5 (σm.2 815 (16 * (16 * s + e) + i) - 100) (by omega) (by omega); omega
        · have := z6 (σm.2 815 (16 * (16 * s + e) + i) - 200) (by omega) (by omega); omega
        · omega
      generalize hv : σm.2 815 (16 * (16 * s + e) + i) - 1000 = v at *
      have ecl : σx.2 (T + 15 + 4 * e + 1) i = -v - 1 := by omega
      have v0 : 0 ≤ v := by omega
      have v6 : v < 6 := by omega
      have ar0 : bz_ar (σx.2 (T + 15 + 4 * e + 1) i) = 0 := if_pos cv
      rw [ar0] at hSl2
      -- the part of the row
      obtain ⟨d1, d2, ed, s1, s2⟩ := bz_Sc.split bz_ra0 (c1 := 1) (c2 := c - 1) (i := j) (by omega) (by omega) (by rw [show 1 + (c - 1) = c by omega]; exact hSr)
      have d1p := s1.pos (by omega)
      have hend := bz_end h.1 R1 j0 (by omega) s1
      have hEnR : lz_En (bz_ct σm s) (bz_ft σm s) (σm.2 T 0) (σm.2 T 1) (fun _ => V) r 0 0 0 n A 0 σx σm := hR0.en h (Or.inl rfl) rfl (by omega) (by omega)
      have hsz := hEnR.size (i := j) (by omega) (by omega) s1
      rw [Int.zero_add] at hsz
      have g15 := fx_243_15 h.1
      have l252 := ln_252 h.1
      have l838 := ln_838 h.2.1
      have l839 := ln_839 h.2.1
      have rb : az_ard σx 252 v = some (σx.2 252 v) := bz_ard v0 (by omega)
      have rS : az_ard σm 839 v = some (σm.2 839 v) := bz_ard v0 (by omega)
      have rM : az_ard σm 838 v = some (σm.2 838 v) := bz_ard v0 (by omega)
      have xv : az_ixorV (σx.2 (T + 15 + 4 * e + 1) i) (-1) = v := by rw [bz_xor cI.1 cI.2]; omega
      have wv : az_w32 v = v := az_w32_id (by omega) (by omega)
      have isv := (ez_isVarM (σ := σm) (m := σm.2 815 (16 * (16 * s + e) + i))).1 (by omega)
      -- the reference takes the latest place
      have m152 : fz_X11_fits_152 2000000 (fz_X11_fits_40 2000000 k) σm 804 e A j (16 * (16 * s + e)) i v d1 = fz_X11_fits_40 2000000 k (az_wr (az_wr σm 838 v j) 839 v d1) 804 e A (j + d1) (16 * (16 * s + e)) (i + 1) := by
        unfold fz_X11_fits_152
        rw [fx_804_66 h.2.1, Option.bind_some, bz_awr v0 (by omega), Option.bind_some, bz_gref_wr (by omega), fx_804_67 h.2.1, Option.bind_some, bz_awr v0 (by rw [bz_ln_wr]; omega), Option.bind_some, az_w32_id (by omega) (by omega), wi]
      have um : bz_Upd σm (az_wr (az_wr σm 838 v j) 839 v d1) rz_SM := (bz_Upd.wr bz_Upd.refl (Or.inl rfl) rz_fix838).wr (Or.inr rfl) rz_fix839
      have startX : fz_X5_fits_41 2000000 (k + 1) σx 243 r (T + 15 + 4 * e) j i = (if σx.2 252 v = -1 then fz_X5_fits_41 2000000 k (az_wr σx 252 v j) 243 r (T + 15 + 4 * e) (j + d1) (i + 1) else ((fz_X7_samePart 2000000 σx r (σx.2 252 v) r j).bind fun r7 => (if r7 = 0 then some (0, σx) else fz_X5_fits_41 2000000 k σx 243 r (T + 15 + 4 * e) (j + d1) (i + 1)))) := by
        have hU1 : bz_Upd σx (az_wr σx 252 v j) rz_SX := bz_Upd.wr bz_Upd.refl rfl rz_fix252
        obtain ⟨k1, k2, k3⟩ := rz_keepX R1.1 hU1
        have hend' : fz_X7_end 2000000 (az_wr σx 252 v j) r j = some (j + d1) := bz_end (h.1.upd hU1) (by unfold bz_rw at R1 ⊢; simp only [k1, k2]; exact R1) j0 (by rw [k1]; omega) (by rw [k3]; exact s1)
        conv => lhs; unfold fz_X5_fits_41
        rw [if_pos (by omega), if_pos (by omega), gl, Option.bind_some, arl, Option.bind_some, if_pos cv]
        unfold fz_X5_fits_140
        simp only [xv, g15, rb, hend, Option.bind_some, wi]
        rw [if_pos v6]
        by_cases cb : σx.2 252 v = -1
        · rw [if_pos cb, if_pos cb, if_pos cb, bz_awr v0 (by omega), Option.bind_some, hend', Option.bind_some]
        · rw [if_neg cb, if_neg cb, if_neg cb]
      rw [startX, isv, Option.bind_some, if_neg (show ¬ (1 : Int) = 0 by decide), hsz, Option.bind_some, wv, rS, Option.bind_some]
      rcases hB v v0 v6 with ⟨b1, b2⟩ | ⟨b1, d, b2, b3, b4, b5, b6, b7, b8⟩
      · -- not bound yet
        rw [if_pos b1, if_neg (by omega), m152]
        have ux : bz_Upd σx (az_wr σx 252 v j) rz_SX := bz_Upd.wr bz_Upd.refl rfl rz_fix252
        obtain ⟨k1, k2, k3⟩ := rz_keepX R1.1 ux
        have h' := rz_H h ux um
        have nT : (az_wr σx 252 v j).2 T 2 = σx.2 T 2 := az_wr_ne (by omega)
        have nL : ∀ x, (az_wr σx 252 v j).2 (T + 15 + 4 * e) x = σx.2 (T + 15 + 4 * e) x := fun x => az_wr_ne (by omega)
        have nra : bz_ra (az_wr σx 252 v j) (T + 15 + 4 * e) = bz_ra σx (T + 15 + 4 * e) := funext fun x => by unfold bz_ra; rw [az_wr_ne (by omega)]
        have hB' : rz_B (az_wr σx 252 v j) (az_wr (az_wr σm 838 v j) 839 v d1) r n := by
          intro u u0 u1
          by_cases eu : u = v
          · subst eu
            refine Or.inr ?_
            rw [az_wr_same, az_wr_same, az_wr_ne (a := 839) (b := 838) (by omega), az_wr_same, k3]
            exact ⟨j0, d1, d1p, by omega, s1, rfl, j0, by omega, fun p _ => rfl⟩
          · have x1 : (az_wr σx 252 v j).2 252 u = σx.2 252 u := az_wr_ne (by omega)
            have x2 : (az_wr (az_wr σm 838 v j) 839 v d1).2 839 u = σm.2 839 u := by rw [az_wr_ne (by omega), az_wr_ne (by omega)]
            have x3 : (az_wr (az_wr σm 838 v j) 839 v d1).2 838 u = σm.2 838 u := by rw [az_wr_ne (by omega), az_wr_ne (by omega)]
            rw [x1, x2, x3, k3]
            simp only [k2]
            exact hB u u0 u1
        obtain ⟨q, σx', σm', y1, y2, y3, y4, y5, y6⟩ := ih k _ _ (i + 1) (j + d1) (c - 1 + 0) d2 h' (hR0.upd hT hA ux um) e0 (by rw [nT]; exact e1) (by omega) (by omega) (by rw [nL]; push_cast at hi ⊢; omega) (by rw [nra]; exact hSl2) (by omega) (by omega) (by rw [k3, Int.add_zero]; exact s2) hB'
        refine ⟨q, σx', σm', y1, y2, y3, ux.trans y4, um.trans y5, fun hq => ?_⟩
        obtain ⟨w1, w2, w3⟩ := y6 hq
        refine ⟨w1, fun u hu => w2 u ?_, fun i' u p1 p2 p3 p4 p5 => ?_⟩
        · by_cases eu : u = v
          · subst eu; rw [az_wr_same]; omega
          · rw [az_wr_ne (by omega)]; exact hu
        · by_cases ei : i' = i
          · subst ei
            have eu : u = v := by omega
            subst eu
            exact w2 u (by rw [az_wr_same]; omega)
          · refine w3 i' u (by omega) (by rw [nL]; exact p2) p3 p4 ?_
            rw [um.2.2 815 _ (by unfold rz_SM; omega)]
            exact p5
      · -- bound: the same TERM again?
        have cb : ¬ σx.2 252 v = -1 := by omega
        have sp := bz_samePart h.1 R1 R1 (d := d) (i := σx.2 252 v) (j := j) b1 j0 (by omega) (by omega) b4
        have is := fun (hd : d = d1) => bz_isSame (σ := σm) (A := A) (B := A) (i := j) (j := σm.2 838 v) R6.2.1 R6.2.1 (d := d1) (by omega) j0 (by omega) b6 (by omega)
        rw [if_neg cb, sp, Option.bind_some, if_pos (show 0 < σm.2 839 v by omega), b5]
        by_cases cond : ∀ p : Nat, p < d → j + p < σx.2 r 1 ∧ σx.2 (r + 1) (σx.2 252 v + p) = σx.2 (r + 1) (j + p)
        · have sc2 : bz_Sc (bz_ra σx r) d 1 j := b4.shift (fun x x0 x1 => by
            unfold bz_ra
            have := (cond x.toNat (by omega)).2
            rw [show ((x.toNat : Nat) : Int) = x by omega] at this
            rw [this])
          have edd : d = d1 := sc2.det s1
          have all : ∀ p : Nat, p < d1 → σm.2 A (j + p) = σm.2 A (σm.2 838 v + p) := by
            intro p hp
            have x1 := (cond p (by omega)).2
            have x2 := b8 p (by omega)
            have k1 := R4 (j + p) (by omega) (by omega)
            have k2 := R4 (σm.2 838 v + p) (by omega) (by omega)
            exact (k1.inj k2 tb R7).mp (by rw [← x1, x2])
          rw [if_pos cond, if_neg (show ¬ (1 : Int) = 0 by decide), if_pos (show (d : Int) = (d1 : Int) by omega), rM, Option.bind_some, is edd, Option.bind_some, if_pos all, if_neg (show ¬ (1 : Int) = 0 by decide), m152]
          have ux : bz_Upd σx σx rz_SX := bz_Upd.refl
          have h' := rz_H h ux um
          have hB' : rz_B σx (az_wr (az_wr σm 838 v j) 839 v d1) r n := by
            intro u u0 u1
            by_cases eu : u = v
            · subst eu
              refine Or.inr ?_
              rw [az_wr_same, az_wr_ne (a := 839) (b := 838) (by omega), az_wr_same]
              exact ⟨b1, d, b2, b3, b4, by omega, j0, by omega, fun p hp => (cond p hp).2⟩
            · have x2 : (az_wr (az_wr σm 838 v j) 839 v d1).2 839 u = σm.2 839 u := by rw [az_wr_ne (by omega), az_wr_ne (by omega)]
              have x3 : (az_wr (az_wr σm 838 v j) 839 v d1).2 838 u = σm.2 838 u := by rw [az_wr_ne (by omega), az_wr_ne (by omega)]
              rw [x2, x3]
              exact hB u u0 u1
          obtain ⟨q, σx', σm', y1, y2, y3, y4, y5, y6⟩ := ih k _ _ (i + 1) (j + d1) (c - 1 + 0) d2 h' (hR0.upd hT hA ux um) e0 e1 (by omega) (by omega) (by push_cast at hi ⊢; omega) hSl2 (by omega) (by omega) (by rw [Int.add_zero]; exact s2) hB'
          refine ⟨q, σx', σm', y1, y2, y3, y4, um.trans y5, fun hq => ?_⟩
          obtain ⟨w1, w2, w3⟩ := y6 hq
          refine ⟨w1, w2, fun i' u p1 p2 p3 p4 p5 => ?_⟩
          by_cases ei : i' = i
          · subst ei
            have eu : u = v := by omega
            subst eu
            exact w2 u cb
          · refine w3 i' u (by omega) p2 p3 p4 ?_
            rw [um.2.2 815 _ (by unfold rz_SM; omega)]
            exact p5
        · rw [if_neg cond, if_pos rfl]
          refine ⟨0, σx, σm, rfl, ?_, Or.inl rfl, bz_Upd.refl, bz_Upd.refl, fun hq => by omega⟩
          by_cases edd : (d : Int) = (d1 : Int)
          · have edd' : d = d1 := by omega
            have nall : ¬ ∀ p : Nat, p < d1 → σm.2 A (j + p) = σm.2 A (σm.2 838 v + p) := by
              intro all
              apply cond
              intro p hp
              refine ⟨by omega, ?_⟩
              have k1 := R4 (j + p) (by omega) (by omega)
              have k2 := R4 (σm.2 838 v + p) (by omega) (by omega)
              rw [b8 p hp]
              exact ((k1.inj k2 tb R7).mpr (all p (by omega))).symm
            rw [if_pos edd, rM, Option.bind_some, is edd', Option.bind_some, if_neg nall, if_pos rfl]
          · rw [if_neg edd]
    · -- a NAME
      have nv : ¬ 1000 ≤ σm.2 815 (16 * (16 * s + e) + i) := by
        obtain ⟨z1, z2, z3, z4, z5, z6⟩ := tb
        have := q9 i
        rcases c1 with w | w | w | w
        · omega
        · omega
        · omega
        · by_cases hi0 : i = 0
          · rw [hi0] at w
            rw [Int.add_zero] at w
            omega
          · have := q9 i (by omega) (by rw [← a1]; omega)
            omega
      have inj := c1.inj2 c2 tb (by omega)
      have startX : fz_X5_fits_41 2000000 (k + 1) σx 243 r (T + 15 + 4 * e) j i = (if σx.2 (T + 15 + 4 * e + 1) i = σx.2 (r + 1) j then fz_X5_fits_41 2000000 k σx 243 r (T + 15 + 4 * e) (j + 1) (i + 1) else some (0, σx)) := by
        conv => lhs; unfold fz_X5_fits_41
        rw [if_pos (by omega), if_pos (by omega), gl, Option.bind_some, arl, Option.bind_some, if_neg cv, gr, Option.bind_some, arr, Option.bind_some, wi, az_w32_id (by omega) (by omega)]
      rw [startX, (ez_isVarM (σ := σm) (m := σm.2 815 (16 * (16 * s + e) + i))).2 nv, Option.bind_some, if_pos rfl]
      by_cases eq : σx.2 (T + 15 + 4 * e + 1) i = σx.2 (r + 1) j
      · rw [if_pos eq, if_pos (inj.mp eq).symm, az_w32_id (by omega) (by omega)]
        obtain ⟨dr', rfl⟩ : ∃ d', dr = d' + 1 := ⟨dr - 1, by omega⟩
        have hSr2 : bz_Sc (bz_ra σx r) dr' (c - 1 + bz_ar (σx.2 (T + 15 + 4 * e + 1) i)) (j + 1) := by rw [eq]; exact hSr.2
        obtain ⟨q, σx', σm', y1, y2, y3, y4, y5, y6⟩ := ih k σx σm (i + 1) (j + 1) _ dr' h hR0 e0 e1 (by omega) (by omega) (by push_cast at hi ⊢; omega) hSl2 (by omega) (by push_cast at hj; omega) hSr2 hB
        refine ⟨q, σx', σm', y1, y2, y3, y4, y5, fun hq => ?_⟩
        obtain ⟨w1, w2, w3⟩ := y6 hq
        refine ⟨w1, w2, fun i' u p1 p2 p3 p4 p5 => ?_⟩
        by_cases ei : i' = i
        · subst ei; omega
        · exact w3 i' u (by omega) p2 p3 p4 p5
      · rw [if_neg eq, if_neg (fun c => eq (inj.mpr c.symm))]
        exact ⟨0, σx, σm, rfl, rfl, Or.inl rfl, bz_Upd.refl, bz_Upd.refl, fun hq => by omega⟩
end FT
