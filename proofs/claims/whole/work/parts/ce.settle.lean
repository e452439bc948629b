/-! what becomes of an EQUALITY: settle = the end of asks -/
theorem sv_L.gen {x m x' m' : az_Hp} {T s U : Int} {V : Int → Int → Prop} {n M i e : Int} (h : sv_L x m T s U V n M i e) (hT : T = 3 ∨ T = 82) (tS : bz_tS m m') (X : ∀ a k, (a = 380 ∧ k = 1) ∨ a = 383 ∨ a = 384 ∨ (389 ≤ a ∧ a ≤ 788) → x'.2 a k = x.2 a k) (M' : ∀ a k, (a = 804 ∧ k = 108) ∨ (860 ≤ a ∧ a ≤ 862) ∨ a = 865 → m'.2 a k = m.2 a k) (hl : az_ln m' 860 = az_ln m 860) : sv_L x' m' T s U V n M i e := by
  obtain ⟨⟨l1, l2⟩, ⟨l3, l4, l5, l6, l7⟩, l8, l9, l10, l11⟩ := h
  have g : m'.2 865 = m.2 865 := funext fun k => M' 865 k (by omega)
  have x383 : ∀ k, x'.2 383 k = x.2 383 k := fun k => X 383 k (by omega)
  refine ⟨⟨by rw [X 380 1 (by omega)]; exact l1, by rw [M' 804 108 (by omega)]; exact l2⟩, ⟨l3, l4, l5, l6, l7⟩, by rw [g]; exact l8, by rw [g]; exact l9, fun p p0 p1 pg pe => ?_, ⟨fun k k0 k1 => by rw [x383]; exact l11.1 k k0 k1, fun k p k0 k1 p0 p1 => by rw [x383, x383]; exact l11.2 k p k0 k1 p0 p1⟩⟩
  rw [g] at pg ⊢
  rw [x383]
  have cl := sv_cnt.lt (g := m.2 865) (a := p.toNat) (b := M.toNat) (by omega) (by rw [show ((p.toNat : Nat) : Int) = p by omega]; exact pg)
  have cb := (sv_cnt.bd (g := m.2 865) p.toNat).1
  have sb := l11.1 _ cb (show sv_cnt (m.2 865) p.toNat < 100 by omega)
  have en := l10 p p0 p1 pg pe
  generalize x.2 383 (sv_cnt (m.2 865) p.toNat) = q' at *
  exact en.cong hT tS (fun a k z => X a k (by omega)) (fun a k z => M' a k (by omega)) hl
section SE
variable {T s U : Int} {V : Int → Int → Prop} {ρ : Int → Nat}
theorem sv_same {x m : az_Hp} {L R A B n1 n2 : Int} (hH : mz_H x m T s) (R1 : rz_R x m T s V L A n1) (R2 : rz_R x m T s V R B n2) : ∃ c : Int, (c = 0 ∨ c = 1) ∧ fz_X7_same 2000000 x L R = some c ∧ (if n1 = n2 then fz_X11_isSame 2000000 m A 0 B 0 n1 else some 0) = some c := by
  obtain ⟨p1, p2, p3, p4, p5, p6, p7, p8⟩ := R1
  obtain ⟨a1, a2, a3, a4, a5, a6, a7, a8⟩ := R2
  unfold fz_X7_same
  rw [p2, a2]
  by_cases e : n1 = n2
  · obtain ⟨d, hd⟩ : ∃ d : Nat, (d : Int) = n1 := ⟨n1.toNat, by omega⟩
    have sp := bz_samePart (i := 0) (j := 0) (d := d) hH.1 p1 a1 (by omega) (by omega) (by omega) (by omega) (by rw [show n1.toNat = d by omega] at p5; exact p5)
    have is := bz_isSame (σ := m) (A := A) (B := B) (i := 0) (j := 0) (d := d) (by omega) (by omega) (by omega) (by omega) (by omega) (by omega) (by omega)
    rw [hd] at is
    rw [if_pos e, if_pos e, sp, Option.bind_some, is]
    have iff : (∀ q : Nat, q < d → (0 : Int) + q < x.2 R 1 ∧ x.2 (L + 1) (0 + q) = x.2 (R + 1) (0 + q)) ↔ ∀ p : Nat, p < d → m.2 A (0 + p) = m.2 B (0 + p) := by
      have inj : ∀ q : Nat, q < d → (x.2 (L + 1) (0 + q) = x.2 (R + 1) (0 + q) ↔ m.2 A (0 + q) = m.2 B (0 + q)) := fun q hq => by
        rw [Int.zero_add]
        exact (p4 q (by omega) (by omega)).inj (a4 q (by omega) (by omega)) hH.tb.2.1 a7
      constructor
      · intro h q hq
        exact (inj q hq).mp (h q hq).2
      · intro h q hq
        exact ⟨by omega, (inj q hq).mpr (h q hq)⟩
    by_cases c : ∀ p : Nat, p < d → m.2 A (0 + p) = m.2 B (0 + p)
    · exact ⟨1, Or.inr rfl, by rw [if_pos (iff.mpr c), if_neg (by decide)], by rw [if_pos c]⟩
    · exact ⟨0, Or.inl rfl, by rw [if_neg (fun q => c (iff.mp q)), if_pos rfl], by rw [if_neg c]⟩
  · exact ⟨0, Or.inl rfl, by rw [if_neg e], by rw [if_neg e]⟩
theorem sv_back {x m : az_Hp} {f : Int} (h : sv_B x m T s U V ρ) (f0 : 0 ≤ f) (f1 : f < x.2 T 1) : ∃ g m', (g = 0 ∨ g = 1) ∧ fz_X9_goesBackwards x T f = some g ∧ fz_X11_canBack 2000000 m 804 f = some (g, m') ∧ bz_Upd m m' cz_SB := by
  have hH := h.1.1
  have hT := hH.2.2.1.1
  have hs := hH.2.2.1.2.1
  obtain ⟨nr1, nr2, nr3, nr4, nr5, nr6⟩ := hH.2.2.1.2.2.1
  have nf5 := nr3.2.2.2.1
  have en := hH.n
  obtain ⟨-, -, -, q1, q2⟩ := nr5 f f0 (by omega)
  have tg := bz_tg hH.1 hT
  have tl := bz_tl hH.1 hT
  have l814 := ln_814 hH.2.1
  have ex : x.2 (T + 6) f = m.2 (T + 6) f := hH.2.2.2.1 _ _ (by omega)
  have rd : az_ard x (T + 6) f = some (m.2 (T + 6) f) := by rw [bz_ard f0 (by omega), ex]
  have rm : az_ard m 814 (5 * s + f) = some (m.2 (T + 6) f) := by rw [bz_ard (by omega) (by omega), ← q1]
  have w5 : az_w32 (az_w32 (5 * s) + f) = 5 * s + f := by rw [az_w32_id (z := 5 * s) (by omega) (by omega), az_w32_id (by omega) (by omega)]
  unfold fz_X9_goesBackwards fz_X11_canBack
  rw [tg.2.2.2.2.2.1, Option.bind_some, rd, Option.bind_some, fx_804_24 hH.2.1, Option.bind_some, hH.2.2.2.2, w5, rm, Option.bind_some]
  by_cases z : m.2 (T + 6) f = 0
  · rw [if_pos z, if_pos z]
    exact ⟨0, m, Or.inl rfl, rfl, rfl, bz_Upd.refl⟩
  · rw [if_neg z, if_neg z, tg.2.2.2.2.2.2.2.2.2.2.2.1, Option.bind_some, bz_ard f0 (by omega), Option.bind_some]
    obtain ⟨m', b1, b2⟩ := h.2.2.2.2.1 f f0 f1 m hH.2.1 bz_tS.refl hH.2.2.2.2
    rw [b1, Option.bind_some]
    by_cases c : x.2 (T + 12) f = 0
    · rw [if_pos c, if_pos c]
      exact ⟨1, m', Or.inr rfl, rfl, by rw [if_pos rfl], b2⟩
    · rw [if_neg c, if_neg c]
      exact ⟨0, m', Or.inl rfl, rfl, by rw [if_neg (show ¬ (1 : Int) = 0 by decide)], b2⟩
def sv_ask (m : az_Hp) (e : Int) : Option (Int × az_Hp) := (if m.2 804 114 = m.2 804 115 then ((az_gref m 804 112).bind fun x1 => ((az_gref m 804 113).bind fun x2 => ((fz_X11_isSame 2000000 m x1 0 x2 0 (m.2 804 114)).bind fun r3 => (if r3 = 0 then fz_X11_asks_127 2000000 m 804 e else (some (0, m)))))) else fz_X11_asks_127 2000000 m 804 e)
def sv_XB (a k : Int) : Prop := (a = 380 ∧ (k = 1 ∨ k = 6)) ∨ a = 384 ∨ (389 ≤ a ∧ a ≤ 800)
def sv_MB (M a k : Int) : Prop := sv_MA M a k ∨ a = 863 ∨ a = 864 ∨ cz_SB a k
/-- what holds where an EQUALITY is looked at -/
def sv_P (x m : az_Hp) (T s U : Int) (V : Int → Int → Prop) (ρ : Int → Nat) (n M i e sl n1 n2 : Int) : Prop := sv_B x m T s U V ρ ∧ sv_L x m T s U V n M i e ∧ (0 ≤ e ∧ e < M ∧ m.2 865 e = 0 ∧ x.2 383 (sv_cnt (m.2 865) e.toNat) = sl ∧ 0 ≤ sl ∧ sl < 100) ∧ x.2 384 sl = m.2 862 e ∧ (rz_R x m T s V (389 + 4 * sl) 866 n1 ∧ ∀ i, 0 ≤ i → i < n1 → sv_Q m U (m.2 866 i)) ∧ (rz_R x m T s V (391 + 4 * sl) 867 n2 ∧ ∀ i, 0 ≤ i → i < n2 → sv_Q m U (m.2 867 i)) ∧ m.2 804 114 = n1 ∧ m.2 804 115 = n2
def sv_Done (x m : az_Hp) (T s U : Int) (V : Int → Int → Prop) (M i e sl n1 n2 : Int) (A B : Option (Int × az_Hp)) : Prop := ∃ v x' m' n' M' ρ', (0 ≤ v ∧ v ≤ 4) ∧ A = some (v, x') ∧ B = some (if v = 4 then 0 else if v = 0 then -1 else v, m') ∧ sv_B x' m' T s U V ρ' ∧ sv_L x' m' T s U V n' M' i e ∧ M ≤ M' ∧ bz_Upd x x' sv_XB ∧ bz_Upd m m' (sv_MB M) ∧ x'.2 384 sl = m'.2 862 e ∧ (v = 0 → sv_P x' m' T s U V ρ' n' M' i e sl n1 n2)
theorem sv_P.split {x m : az_Hp} {n M i e sl n1 n2 : Int} (h : sv_P x m T s U V ρ n M i e sl n1 n2) (same : x.2 (389 + 4 * sl + 1) 0 = x.2 (391 + 4 * sl + 1) 0) : sv_Done x m T s U V M i e sl n1 n2 ((fz_X8_takeApart 2000000 x 380 sl).bind fun r => some (r.1, r.2)) ((fz_X11_splits 2000000 m 804 e).bind fun r => some (r.1, r.2)) := by
  obtain ⟨hB, hL, ⟨e0, eM, ge, hs, sl0, sl1⟩, o3, ⟨R1, Q1⟩, ⟨R2, Q2⟩, h1, h2⟩ := h
  obtain ⟨v, x', m', n', M', c1, c2, c3, c4, c5, c6, c7, c8, c9⟩ := sv_apart e0 sl0 sl1 rfl rfl hB hL eM ge hs o3 R1 Q1 R2 Q2 same
  refine ⟨v, x', m', n', M', ρ, by omega, by rw [c2, Option.bind_some], ?_, c4, c5, c6, c7.weak fun a k z => by unfold sv_XA at z; unfold sv_XB; omega, c8.weak fun a k z => Or.inl z, c9, fun z => by omega⟩
  rw [c3, Option.bind_some]
  rcases c1 with rfl | rfl
  · rfl
  · rfl
theorem sv_stay {x m : az_Hp} {n M i e sl n1 n2 v : Int} (h : sv_P x m T s U V ρ n M i e sl n1 n2) (v0 : 0 ≤ v) (v4 : v ≤ 4) {A B : Option (Int × az_Hp)} (hA : A = some (v, x)) (hB : B = some (if v = 4 then 0 else if v = 0 then -1 else v, m)) : sv_Done x m T s U V M i e sl n1 n2 A B :=
  ⟨v, x, m, n, M, ρ, ⟨v0, v4⟩, hA, hB, h.1, h.2.1, Int.le_refl _, bz_Upd.refl, bz_Upd.refl, h.2.2.2.1, fun _ => h⟩
theorem sv_P.become {x m : az_Hp} {n M i e sl n1 n2 r A w u : Int} (h : sv_P x m T s U V ρ n M i e sl n1 n2) (hr : (r = 389 + 4 * sl ∧ A = 866 ∧ w = n1) ∨ (r = 391 + 4 * sl ∧ A = 867 ∧ w = n2)) (u0 : 0 ≤ u) (uU : u < U) (ub : m.2 864 u ≤ 0) : sv_Done x m T s U V M i e sl n1 n2 ((fz_X8_become 2000000 x 380 (u * 16 + 3) r).bind fun r => some (r.1, r.2)) ((fz_X11_unknownBy 2000000 m 804 (2000 + u) A w).bind fun r => some (r.1, r.2)) := by
  have hP := h
  obtain ⟨hB, hL, ⟨e0, eM, ge, hs, sl0, sl1⟩, o3, ⟨R1, Q1⟩, ⟨R2, Q2⟩, h1, h2⟩ := h
  have U6 := hB.2.2.1.1.1.2
  have hRR : rz_R x m T s V r A w ∧ (∀ i, 0 ≤ i → i < w → sv_Q m U (m.2 A i)) ∧ (389 ≤ r ∧ r ≤ 788) ∧ (A = 866 ∨ A = 867) := by
    rcases hr with ⟨rfl, rfl, rfl⟩ | ⟨rfl, rfl, rfl⟩
    · exact ⟨R1, Q1, by omega, Or.inl rfl⟩
    · exact ⟨R2, Q2, by omega, Or.inr rfl⟩
  rcases sv_become hB hRR.1 hRR.2.1 hRR.2.2.1 hRR.2.2.2 u0 uU ub with ⟨v, v0, a1, a2⟩ | ⟨x', m', ρ', a1, a2, a3, a4, a5⟩
  · refine sv_stay hP (v := v) (by omega) (by omega) (by rw [a1, Option.bind_some]) ?_
    rw [a2, Option.bind_some]
    rcases v0 with rfl | rfl
    · rfl
    · rfl
  · have hT := hB.1.1.2.2.1.1
    have w60 := hRR.1.2.2.1
    have tS : bz_tS m m' := fun a k q => a5.2.2 a k (fun z => by unfold sv_MU at z; omega)
    have fx : ∀ a k, (a = 380 ∧ k = 1) ∨ a = 383 ∨ a = 384 ∨ (389 ≤ a ∧ a ≤ 788) → x'.2 a k = x.2 a k := fun a k z => a4.2.2 a k (fun w => by unfold sv_XU yz_S at w; omega)
    have fm : ∀ a k, a ≠ 863 → a ≠ 864 → m'.2 a k = m.2 a k := fun a k z z' => a5.2.2 a k (fun w => by unfold sv_MU at w; omega)
    refine ⟨4, x', m', n, M, ρ', by omega, by rw [a1, Option.bind_some], by rw [a2, Option.bind_some, if_pos rfl], a3, hL.gen hT tS fx (fun a k z => fm a k (by omega) (by omega)) (a5.ln _), Int.le_refl _, a4.weak fun a k z => by unfold sv_XU yz_S at z; unfold sv_XB; omega, a5.weak fun a k z => by unfold sv_MU at z; unfold sv_MB; omega, by rw [fx 384 sl (by omega), fm 862 e (by omega) (by omega)]; exact o3, fun z => by omega⟩
theorem sv_P.mid {x m m' : az_Hp} {n M i e sl n1 n2 : Int} (h : sv_P x m T s U V ρ n M i e sl n1 n2) (u : bz_Upd m m' cz_SB) : sv_P x m' T s U V ρ n M i e sl n1 n2 := by
  obtain ⟨hB, hL, ⟨e0, eM, ge, hs, sl0, sl1⟩, o3, ⟨R1, Q1⟩, ⟨R2, Q2⟩, h1, h2⟩ := h
  have hT := hB.1.1.2.2.1.1
  have fm : ∀ a k, (860 ≤ a ∧ a ≤ 867) ∨ (a = 804 ∧ (k = 108 ∨ k = 114 ∨ k = 115)) → m'.2 a k = m.2 a k := fun a k z => u.2.2 a k (fun w => by unfold cz_SB cz_SM at w; omega)
  have tS : bz_tS m m' := fun a k q => u.2.2 a k (fun z => by unfold cz_SB cz_SM at z; omega)
  have g : m'.2 865 = m.2 865 := funext fun k => fm 865 k (by omega)
  have r0 : bz_Upd x x (fun _ _ => False) := bz_Upd.refl
  have q4 : ∀ q, sv_Q m U q → sv_Q m' U q := fun q z w => by rw [fm 864 _ (by omega)]; exact z w
  refine ⟨hB.upd r0 u (fun a k z => z.elim) (fun a k z => by unfold cz_SB cz_SM at z; unfold sv_SM; omega), hL.gen hT tS (fun _ _ _ => rfl) (fun a k z => fm a k (by omega)) (u.ln _), ⟨e0, eM, by rw [g]; exact ge, by rw [g]; exact hs, sl0, sl1⟩, by rw [fm 862 e (by omega)]; exact o3, ⟨yz_gR R1 hT r0 u (fun a k z => z.elim) (fun a k z => by unfold cz_SB cz_SM at z; unfold nz_t; omega), fun i i0 i1 => q4 _ (by rw [fm 866 i (by omega)]; exact Q1 i i0 i1)⟩, ⟨yz_gR R2 hT r0 u (fun a k z => z.elim) (fun a k z => by unfold cz_SB cz_SM at z; unfold nz_t; omega), fun i i0 i1 => q4 _ (by rw [fm 867 i (by omega)]; exact Q2 i i0 i1)⟩, by rw [fm 804 114 (by omega)]; exact h1, by rw [fm 804 115 (by omega)]; exact h2⟩
theorem sv_Done.pre {x m m1 : az_Hp} {M i e sl n1 n2 : Int} {A B : Option (Int × az_Hp)} (h : sv_Done x m1 T s U V M i e sl n1 n2 A B) (u : bz_Upd m m1 cz_SB) : sv_Done x m T s U V M i e sl n1 n2 A B := by
  obtain ⟨v, x', m', n', M', ρ', c1, c2, c3, c4, c5, c6, c7, c8, c9, c10⟩ := h
  exact ⟨v, x', m', n', M', ρ', c1, c2, c3, c4, c5, c6, c7, (u.weak fun a k z => Or.inr (Or.inr (Or.inr z))).trans c8, c9, c10⟩
theorem sv_settle {x m : az_Hp} {n M i e sl n1 n2 : Int} (h : sv_P x m T s U V ρ n M i e sl n1 n2) : sv_Done x m T s U V M i e sl n1 n2 (fz_X8_settle 2000000 x 380 T sl) (sv_ask m e) := by
  have hP := h
  obtain ⟨hB, hL, ⟨e0, eM, ge, hs, sl0, sl1⟩, o3, ⟨R1, Q1⟩, ⟨R2, Q2⟩, h1, h2⟩ := h
  have hH := hB.1.1
  have hX := hH.1
  have hM := hH.2.1
  have hT := hH.2.2.1.1
  have tb := hH.tb.2.1
  have vv := R1.2.2.2.2.2.2.1
  have n1b := R1.2.2.1
  have n2b := R2.2.2.1
  have U6 := hB.2.2.1.1.1
  obtain ⟨c, c0, c1, c2⟩ := sv_same hH R1 R2
  have rs := sv_refs hX sl0 sl1
  have cL := sv_cap (r := 389 + 4 * sl) (by omega) (by omega)
  have cR := sv_cap (r := 391 + 4 * sl) (by omega) (by omega)
  have fL := bz_fxR hX (show 0 < bz_cap (389 + 4 * sl) by omega)
  have fR := bz_fxR hX (show 0 < bz_cap (391 + 4 * sl) by omega)
  have gL : az_gref x (389 + 4 * sl) 0 = some (389 + 4 * sl + 1) := bz_gr fL.1 (by omega)
  have gR : az_gref x (391 + 4 * sl) 0 = some (391 + 4 * sl + 1) := bz_gr fR.1 (by omega)
  have k1 := R1.2.2.2.1 0 (by omega) (by omega)
  have k2 := R2.2.2.2.1 0 (by omega) (by omega)
  have q1 := Q1 0 (by omega) (by omega)
  have q2 := Q2 0 (by omega) (by omega)
  have rdL : az_ard x (389 + 4 * sl + 1) 0 = some (x.2 (389 + 4 * sl + 1) 0) := bz_ard (by omega) (by omega)
  have rdR : az_ard x (391 + 4 * sl + 1) 0 = some (x.2 (391 + 4 * sl + 1) 0) := bz_ard (by omega) (by omega)
  have ra : az_ard m 866 0 = some (m.2 866 0) := bz_ard (by omega) (by rw [ln_866 hM]; omega)
  have rb : az_ard m 867 0 = some (m.2 867 0) := bz_ard (by omega) (by rw [ln_867 hM]; omega)
  have I1 := k1.I tb vv
  have I2 := k2.I tb vv
  have d1 := k1.kd tb
  have d2 := k2.kd tb
  have inj := k1.inj k2 tb vv
  have startX : fz_X8_settle 2000000 x 380 T sl = (if c = 0 then (if bz_kd (x.2 (389 + 4 * sl + 1) 0) = 3 then ((fz_X8_become 2000000 x 380 (x.2 (389 + 4 * sl + 1) 0) (391 + 4 * sl)).bind fun r16 => (some (r16.1, r16.2))) else (if bz_kd (x.2 (391 + 4 * sl + 1) 0) = 3 then ((fz_X8_become 2000000 x 380 (x.2 (391 + 4 * sl + 1) 0) (389 + 4 * sl)).bind fun r15 => (some (r15.1, r15.2))) else (if bz_kd (x.2 (389 + 4 * sl + 1) 0) = 1 then (if bz_kd (x.2 (391 + 4 * sl + 1) 0) = 1 then (if x.2 (389 + 4 * sl + 1) 0 = x.2 (391 + 4 * sl + 1) 0 then ((fz_X8_takeApart 2000000 x 380 sl).bind fun r14 => (some (r14.1, r14.2))) else (some (1, x))) else fz_X8_settle_113 2000000 x 380 T sl (x.2 (389 + 4 * sl + 1) 0) (x.2 (391 + 4 * sl + 1) 0)) else fz_X8_settle_113 2000000 x 380 T sl (x.2 (389 + 4 * sl + 1) 0) (x.2 (391 + 4 * sl + 1) 0)))) else (some (4, x))) := by
    unfold fz_X8_settle
    simp only [fx_380_12 hX, fx_380_13 hX, rs.1, rs.2, c1, gL, gR, rdL, rdR, bz_kind I1, bz_kind I2, Option.bind_some]
  have startM : sv_ask m e = if c = 0 then fz_X11_asks_127 2000000 m 804 e else some (0, m) := by
    unfold sv_ask
    rw [h1, h2]
    by_cases q : n1 = n2
    · rw [if_pos q] at c2 ⊢
      rw [fx_804_112 hM, Option.bind_some, fx_804_113 hM, Option.bind_some, c2, Option.bind_some]
    · rw [if_neg q] at c2 ⊢
      have : c = 0 := by simp only [Option.some.injEq] at c2; omega
      rw [if_pos this]
  rw [startX, startM]
  by_cases ec : c = 0
  rotate_left
  · rw [if_neg ec, if_neg ec]
    exact sv_stay hP (v := 4) (by omega) (by omega) rfl (by rw [if_pos rfl])
  rw [if_pos ec, if_pos ec]
  have askM : fz_X11_asks_127 2000000 m 804 e = (if m.2 866 0 < 2000 then (if m.2 867 0 < 2000 then (if 100 ≤ m.2 866 0 ∧ m.2 866 0 < 200 then (if 100 ≤ m.2 867 0 ∧ m.2 867 0 < 200 then (if m.2 866 0 = m.2 867 0 then ((fz_X11_splits 2000000 m 804 e).bind fun r15 => (some (r15.1, r15.2))) else (some (1, m))) else fz_X11_asks_236 2000000 m 804 e) else fz_X11_asks_236 2000000 m 804 e) else ((fz_X11_unknownBy 2000000 m 804 (m.2 867 0) 866 n1).bind fun r19 => (some (r19.1, r19.2)))) else ((fz_X11_unknownBy 2000000 m 804 (m.2 866 0) 867 n2).bind fun r23 => (some (r23.1, r23.2)))) := by
    have isU : ∀ A q, az_ard m A 0 = some q → fz_X11_isUnknown m 804 A = some (if q < 2000 then 0 else 1) := fun A q hq => by
      unfold fz_X11_isUnknown
      rw [hq, Option.bind_some]
      split <;> rfl
    have isC : ∀ q, fz_X11_isCon m q = some (if 100 ≤ q ∧ q < 200 then 1 else 0) := fun q => by
      unfold fz_X11_isCon
      by_cases z1 : q < 100
      · rw [if_pos z1, if_neg (by omega)]
      · rw [if_neg z1]
        by_cases z2 : q < 200
        · rw [if_pos z2, if_pos (by omega)]
        · rw [if_neg z2, if_neg (by omega)]
    unfold fz_X11_asks_127
    simp only [fx_804_112 hM, fx_804_113 hM, isU 866 _ ra, isU 867 _ rb, ra, rb, isC, h1, h2, Option.bind_some]
    by_cases z1 : m.2 866 0 < 2000
    · rw [if_pos z1, if_pos z1, if_pos rfl]
      by_cases z2 : m.2 867 0 < 2000
      · rw [if_pos z2, if_pos z2, if_pos rfl]
        by_cases z3 : 100 ≤ m.2 866 0 ∧ m.2 866 0 < 200
        · rw [if_pos z3, if_pos z3, if_neg (show ¬ (1 : Int) = 0 by decide)]
          by_cases z4 : 100 ≤ m.2 867 0 ∧ m.2 867 0 < 200
          · rw [if_pos z4, if_pos z4, if_neg (show ¬ (1 : Int) = 0 by decide)]
          · rw [if_neg z4, if_neg z4, if_pos rfl]
        · rw [if_neg z3, if_neg z3, if_pos rfl]
      · rw [if_neg z2, if_neg z2, if_neg (show ¬ (1 : Int) = 0 by decide)]
    · rw [if_neg z1, if_neg z1, if_neg (show ¬ (1 : Int) = 0 by decide)]
  rw [askM]
  have lo1 : 100 ≤ m.2 866 0 := by rcases k1 with z | z | z | z <;> omega
  have lo2 : 100 ≤ m.2 867 0 := by rcases k2 with z | z | z | z <;> omega
  have nrm : ∀ {cc qq : Int}, bz_cr (bz_ct m s) (bz_ft m s) (m.2 T 0) (m.2 T 1) V cc qq → 2000 ≤ qq → cc = (qq - 2000) * 16 + 3 := fun {cc qq} k z => by
    have t := tb
    unfold bz_tb at t
    rcases k with w | w | w | w <;> omega
  by_cases z1 : m.2 866 0 < 2000
  rotate_left
  · have uq := q1 (by omega)
    rw [if_neg z1, if_pos (by rw [d1, if_neg (by omega), if_neg (by omega), if_neg z1])]
    have := sv_P.become (u := m.2 866 0 - 2000) (r := 391 + 4 * sl) (A := 867) (w := n2) hP (Or.inr ⟨rfl, rfl, rfl⟩) (by omega) uq.1 uq.2
    rw [← nrm k1 (by omega), show 2000 + (m.2 866 0 - 2000) = m.2 866 0 by omega] at this
    exact this
  have nk1 : ¬ bz_kd (x.2 (389 + 4 * sl + 1) 0) = 3 := by
    rw [d1, if_pos z1]
    repeat' split
    all_goals decide
  rw [if_pos z1, if_neg nk1]
  by_cases z2 : m.2 867 0 < 2000
  rotate_left
  · have uq := q2 (by omega)
    rw [if_neg z2, if_pos (by rw [d2, if_neg (by omega), if_neg (by omega), if_neg z2])]
    have := sv_P.become (u := m.2 867 0 - 2000) (r := 389 + 4 * sl) (A := 866) (w := n1) hP (Or.inl ⟨rfl, rfl, rfl⟩) (by omega) uq.1 uq.2
    rw [← nrm k2 (by omega), show 2000 + (m.2 867 0 - 2000) = m.2 867 0 by omega] at this
    exact this
  have nk2 : ¬ bz_kd (x.2 (391 + 4 * sl + 1) 0) = 3 := by
    rw [d2, if_pos z2]
    repeat' split
    all_goals decide
  rw [if_pos z2, if_neg nk2]
  have kc1 : bz_kd (x.2 (389 + 4 * sl + 1) 0) = 1 ↔ m.2 866 0 < 200 := by
    rw [d1, if_pos z1]
    by_cases z : m.2 866 0 < 200
    · rw [if_pos z]; exact ⟨fun _ => z, fun _ => rfl⟩
    · rw [if_neg z]; constructor
      · intro w; split at w <;> omega
      · intro w; omega
  have kc2 : bz_kd (x.2 (391 + 4 * sl + 1) 0) = 1 ↔ m.2 867 0 < 200 := by
    rw [d2, if_pos z2]
    by_cases z : m.2 867 0 < 200
    · rw [if_pos z]; exact ⟨fun _ => z, fun _ => rfl⟩
    · rw [if_neg z]; constructor
      · intro w; split at w <;> omega
      · intro w; omega
  have kf1 : bz_kd (x.2 (389 + 4 * sl + 1) 0) = 2 ↔ (200 ≤ m.2 866 0 ∧ m.2 866 0 < 1000) := uz_kd k1 tb
  have kf2 : bz_kd (x.2 (391 + 4 * sl + 1) 0) = 2 ↔ (200 ≤ m.2 867 0 ∧ m.2 867 0 < 1000) := uz_kd k2 tb
  -- neither goes apart
  have last : ∀ {m1 : az_Hp}, bz_Upd m m1 cz_SB → sv_Done x m T s U V M i e sl n1 n2 (fz_X8_settle_147 2000000 x (x.2 (389 + 4 * sl + 1) 0) (x.2 (391 + 4 * sl + 1) 0)) (fz_X11_asks_286 2000000 m1 804) := fun {m1} u => by
    refine sv_Done.pre ?_ u
    have P1 := hP.mid u
    have hM1 := hM.upd u
    have e6 : m1.2 866 0 = m.2 866 0 := u.2.2 _ _ (fun z => by unfold cz_SB cz_SM at z; omega)
    have e7 : m1.2 867 0 = m.2 867 0 := u.2.2 _ _ (fun z => by unfold cz_SB cz_SM at z; omega)
    have r6 : az_ard m1 866 0 = some (m.2 866 0) := by rw [bz_ard (by omega) (by rw [ln_866 hM1]; omega), e6]
    have r7 : az_ard m1 867 0 = some (m.2 867 0) := by rw [bz_ard (by omega) (by rw [ln_867 hM1]; omega), e7]
    have sx : fz_X8_settle_147 2000000 x (x.2 (389 + 4 * sl + 1) 0) (x.2 (391 + 4 * sl + 1) 0) = if 200 ≤ m.2 866 0 ∧ m.2 866 0 < 1000 then some (0, x) else if 200 ≤ m.2 867 0 ∧ m.2 867 0 < 1000 then some (0, x) else some (1, x) := by
      unfold fz_X8_settle_147
      simp only [bz_kind I1, bz_kind I2, Option.bind_some, kf1, kf2]
    have sm : fz_X11_asks_286 2000000 m1 804 = if 200 ≤ m.2 866 0 ∧ m.2 866 0 < 1000 then some (-1, m1) else if 200 ≤ m.2 867 0 ∧ m.2 867 0 < 1000 then some (-1, m1) else some (1, m1) := by
      unfold fz_X11_asks_286
      simp only [fx_804_112 hM1, fx_804_113 hM1, r6, r7, mz_isFam, Option.bind_some]
      by_cases y1 : 200 ≤ m.2 866 0 ∧ m.2 866 0 < 1000
      · rw [if_pos y1, if_pos y1, if_neg (show ¬ (1 : Int) = 0 by decide)]
      · rw [if_neg y1, if_neg y1, if_pos rfl]
        by_cases y2 : 200 ≤ m.2 867 0 ∧ m.2 867 0 < 1000
        · rw [if_pos y2, if_pos y2, if_neg (show ¬ (1 : Int) = 0 by decide)]
        · rw [if_neg y2, if_neg y2, if_pos rfl]
    rw [sx, sm]
    by_cases y1 : 200 ≤ m.2 866 0 ∧ m.2 866 0 < 1000
    · rw [if_pos y1, if_pos y1]
      exact sv_stay P1 (v := 0) (by omega) (by omega) rfl rfl
    · rw [if_neg y1, if_neg y1]
      by_cases y2 : 200 ≤ m.2 867 0 ∧ m.2 867 0 < 1000
      · rw [if_pos y2, if_pos y2]
        exact sv_stay P1 (v := 0) (by omega) (by omega) rfl rfl
      · rw [if_neg y2, if_neg y2]
        exact sv_stay P1 (v := 1) (by omega) (by omega) rfl rfl
  have rest : sv_Done x m T s U V M i e sl n1 n2 (fz_X8_settle_113 2000000 x 380 T sl (x.2 (389 + 4 * sl + 1) 0) (x.2 (391 + 4 * sl + 1) 0)) (fz_X11_asks_236 2000000 m 804 e) := by
    by_cases y1 : 200 ≤ m.2 866 0 ∧ m.2 866 0 < 1000
    · have ge0 : 0 ≤ x.2 (389 + 4 * sl + 1) 0 := by
        by_cases w : 0 ≤ x.2 (389 + 4 * sl + 1) 0
        · exact w
        · have := kf1.mpr y1
          unfold bz_kd at this
          rw [if_pos (by omega)] at this
          omega
      have nr := k1.nr tb ge0
      rw [if_neg (by omega), if_pos y1.2] at nr
      have fb : m.2 866 0 - 200 < x.2 T 1 := by
        have en := hH.n
        rcases k1 with w | w | w | w
        · omega
        · have t := tb; unfold bz_tb at t; omega
        · omega
        · omega
      by_cases y3 : m.2 866 0 = m.2 867 0
      · obtain ⟨g, m1, g0, g1, g2, g3⟩ := sv_back hB (f := m.2 866 0 - 200) (by omega) fb
        have sx : fz_X8_settle_113 2000000 x 380 T sl (x.2 (389 + 4 * sl + 1) 0) (x.2 (391 + 4 * sl + 1) 0) = if g = 0 then fz_X8_settle_147 2000000 x (x.2 (389 + 4 * sl + 1) 0) (x.2 (391 + 4 * sl + 1) 0) else ((fz_X8_takeApart 2000000 x 380 sl).bind fun r => some (r.1, r.2)) := by
          unfold fz_X8_settle_113
          rw [bz_kind I1, Option.bind_some, if_pos (kf1.mpr y1), if_pos (inj.mpr y3), bz_number I1, Option.bind_some, nr, g1, Option.bind_some]
        have sm : fz_X11_asks_236 2000000 m 804 e = if g = 0 then fz_X11_asks_286 2000000 m1 804 else ((fz_X11_splits 2000000 m1 804 e).bind fun r => some (r.1, r.2)) := by
          unfold fz_X11_asks_236
          simp only [fx_804_112 hM, fx_804_113 hM, ra, rb, mz_isFam, Option.bind_some]
          rw [if_pos y1, if_neg (show ¬ (1 : Int) = 0 by decide), if_pos y3, az_w32_id (by omega) (by omega), g2, Option.bind_some]
        rw [sx, sm]
        by_cases w : g = 0
        · rw [if_pos w, if_pos w]
          exact last g3
        · rw [if_neg w, if_neg w]
          exact ((hP.mid g3).split (inj.mpr y3)).pre g3
      · have sx : fz_X8_settle_113 2000000 x 380 T sl (x.2 (389 + 4 * sl + 1) 0) (x.2 (391 + 4 * sl + 1) 0) = fz_X8_settle_147 2000000 x (x.2 (389 + 4 * sl + 1) 0) (x.2 (391 + 4 * sl + 1) 0) := by
          unfold fz_X8_settle_113
          rw [bz_kind I1, Option.bind_some, if_pos (kf1.mpr y1), if_neg (fun w => y3 (inj.mp w))]
        have sm : fz_X11_asks_236 2000000 m 804 e = fz_X11_asks_286 2000000 m 804 := by
          unfold fz_X11_asks_236
          simp only [fx_804_112 hM, fx_804_113 hM, ra, rb, mz_isFam, Option.bind_some]
          rw [if_pos y1, if_neg (show ¬ (1 : Int) = 0 by decide), if_neg y3]
        rw [sx, sm]
        exact last bz_Upd.refl
    · have sx : fz_X8_settle_113 2000000 x 380 T sl (x.2 (389 + 4 * sl + 1) 0) (x.2 (391 + 4 * sl + 1) 0) = fz_X8_settle_147 2000000 x (x.2 (389 + 4 * sl + 1) 0) (x.2 (391 + 4 * sl + 1) 0) := by
        unfold fz_X8_settle_113
        rw [bz_kind I1, Option.bind_some, if_neg (fun w => y1 (kf1.mp w))]
      have sm : fz_X11_asks_236 2000000 m 804 e = fz_X11_asks_286 2000000 m 804 := by
        unfold fz_X11_asks_236
        simp only [fx_804_112 hM, fx_804_113 hM, ra, rb, mz_isFam, Option.bind_some]
        rw [if_neg y1, if_pos rfl]
      rw [sx, sm]
      exact last bz_Upd.refl
  by_cases y1 : m.2 866 0 < 200
  · rw [if_pos (kc1.mpr y1), if_pos (show 100 ≤ m.2 866 0 ∧ m.2 866 0 < 200 from ⟨lo1, y1⟩)]
    by_cases y2 : m.2 867 0 < 200
    · rw [if_pos (kc2.mpr y2), if_pos (show 100 ≤ m.2 867 0 ∧ m.2 867 0 < 200 from ⟨lo2, y2⟩)]
      by_cases y3 : m.2 866 0 = m.2 867 0
      · rw [if_pos (inj.mpr y3), if_pos y3]
        exact hP.split (inj.mpr y3)
      · rw [if_neg (fun w => y3 (inj.mp w)), if_neg y3]
        exact sv_stay hP (v := 1) (by omega) (by omega) rfl rfl
    · rw [if_neg (fun w => y2 (kc2.mp w)), if_neg (show ¬ (100 ≤ m.2 867 0 ∧ m.2 867 0 < 200) from fun w => y2 w.2)]
      exact rest
  · rw [if_neg (fun w => y1 (kc1.mp w)), if_neg (show ¬ (100 ≤ m.2 866 0 ∧ m.2 866 0 < 200) from fun w => y1 w.2)]
    exact rest
end SE
