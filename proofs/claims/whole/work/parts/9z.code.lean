/-! one code is printed -/
section PC
variable {x m x' m' : az_Hp} {T s N : Int} {V : Int → Int → Prop}
def pz_Nm (m : az_Hp) (V : Int → Int → Prop) (N : Int) : Prop := (∀ a b, V a b → bz_WR 96 a (m.2 N b) ∧ 0 ≤ b ∧ b < az_ln m N) ∧ N ≠ 836 ∧ N ≠ 847 ∧ N ≠ 804 ∧ az_ln m N ≤ 100000
def pz_Un (x m : az_Hp) (q : Int) : Prop := 2000 ≤ q → bz_WR 96 (x.2 381 (q - 2000)) (m.2 859 (q - 2000))
theorem pz_rev {g : Int} {l : List Int} (h : bz_let l) : ((bz_bys g l).reverse).length ≤ 6 := by
  rw [List.length_reverse, pz_bysLen]
  exact h.2.1
theorem pz_word {L : List Int} {g c q : Int} (hX : bz_Fx x') (hM : bz_Fx m') (hO : pz_O x' L) (hR : pz_R m' L) (hw : bz_WR g c q) (hg : g = 64 ∨ g = 96) (hL : L.length + 8 < 100000) : ∃ (w : List Int) (x'' m'' : az_Hp), w.length ≤ 6 ∧ fz_X3_putLetters 2000000 x' 801 c (g + 1) = some x'' ∧ fz_X11_tells 2000000 m' 804 q = some m'' ∧ pz_U x' x'' pz_SP ∧ bz_Upd m' m'' pz_SR ∧ pz_O x'' (L ++ w) ∧ pz_R m'' (L ++ w) := by
  obtain ⟨l, hl, e1, e2⟩ := hw
  obtain ⟨x2, a1, a2, a3⟩ := pz_letters hX hO hl e1 hg hL
  obtain ⟨m2, b1, b2, b3⟩ := pz_tells hM hR hl e2 hg hL
  exact ⟨_, x2, m2, pz_rev hl, a1, b1, a2, b2, a3, b3⟩
theorem pz_code {L : List Int} {c q : Int} (hH : mz_H x m T s) (ux : pz_U x x' pz_SX) (um : bz_Upd m m' pz_SY) (hO : pz_O x' L) (hR : pz_R m' L) (cr : bz_cr (bz_ct m s) (bz_ft m s) (m.2 T 0) (m.2 T 1) V c q) (vv : bz_VV V) (nm : pz_Nm m V N) (un : pz_Un x m q) (hL : L.length + 20 < 90000) :
    ∃ (w : List Int) (x'' m'' : az_Hp), w.length ≤ 7 ∧ fz_X3_putCode 2000000 x' 801 c T 381 = some x'' ∧ (∀ (k6 : az_Hp → Int → Int → Int → Int → Int → Int → Option az_Hp) (A n v4 v5 : Int), (if q < 2000 then fz_X11_tellsRow_32 2000000 k6 m' 804 A n N v4 v5 q else ((fz_X11_tellsByte m' 804 63).bind fun r2 => fz_X11_tellsRow_32 2000000 k6 r2 804 A n N v4 v5 q)) = fz_X11_tellsRow_91 2000000 k6 m'' 804 A n N v4 v5 q) ∧ pz_U x' x'' pz_SP ∧ bz_Upd m' m'' pz_SR ∧ pz_O x'' (L ++ w) ∧ pz_R m'' (L ++ w) := by
  have hX' := ux.fx hH.1
  have hM' := hH.2.1.upd um
  have tb := hH.tb.2.1
  have hI := cr.I tb vv
  have hT := hH.2.2.1.1
  have hs := hH.2.2.1.2.1
  obtain ⟨n0, n1, n2, n3, n4, -⟩ := hH.2.2.1.2.2.1
  have kd := cr.kd tb
  have cS : ∀ a k, a = T ∨ a = T + 1 ∨ a = T + 3 → x'.2 a k = m.2 a k := fun a k z => by
    rw [ux.2.2 a k (by omega) (by unfold pz_SX pz_SP; omega)]
    exact hH.2.2.2.1 a k (by omega)
  have mS : ∀ a k, a = 809 ∨ a = 810 ∨ a = 859 ∨ a = N ∨ (a = 804 ∧ k = 15) → m'.2 a k = m.2 a k := fun a k z => um.2.2 a k (by have := nm.2; unfold pz_SY pz_SR; omega)
  have tg := bz_tg hX' hT
  have tl := bz_tl hX' hT
  have l809 := ln_809 hM'
  have l810 := ln_810 hM'
  have l859 := ln_859 hM'
  have l381 := ln_381 hX'
  have e15 : m'.2 804 15 = s := by rw [mS 804 15 (by omega)]; exact hH.2.2.2.2
  obtain ⟨tb1, tb2, tb3, tb4, tb5, tb6⟩ := tb
  rcases cr with ⟨c0, q0, q1, hV⟩ | ⟨q0, q1, ec⟩ | ⟨q0, q1, ec⟩ | ⟨q0, q1, ec⟩
  · obtain ⟨hw, b0, b1⟩ := nm.1 _ _ hV
    obtain ⟨w, x2, m2, w6, a1, a2, a3, a4, a5, a6⟩ := pz_word hX' hM' hO hR hw (Or.inr rfl) (by omega)
    refine ⟨w, x2, m2, by omega, ?_, fun k6 A n v4 v5 => ?_, a3, a4, a5, a6⟩
    · unfold fz_X3_putCode
      rw [if_pos c0, bz_xor hI.1 hI.2, show (97 : Int) = 96 + 1 from rfl, a1, Option.bind_some]
    · rw [if_pos q1]
      unfold fz_X11_tellsRow_32
      rw [if_pos q1, if_neg (by omega), az_w32_id (by omega) (by omega), bz_ard b0 (by rw [um.ln]; exact b1), Option.bind_some, mS N _ (by omega), a2, Option.bind_some]
  · have t5 := tb5 (q - 100) (by omega) (by omega)
    have hw := (n3 (q - 100) (by omega) (by omega)).1
    obtain ⟨w, x2, m2, w6, a1, a2, a3, a4, a5, a6⟩ := pz_word hX' hM' hO hR hw (Or.inl rfl) (by omega)
    refine ⟨w, x2, m2, by omega, ?_, fun k6 A n v4 v5 => ?_, a3, a4, a5, a6⟩
    · have kd1 : bz_kd c = 1 := by rw [kd, if_pos (by omega)]
      have hnr : bz_nr c = q - 100 := by unfold bz_nr; rw [if_neg (by omega)]; omega
      have nmX : fz_X9_nameOf x' T c = some (m.2 (T + 1) (q - 100)) := by
        unfold fz_X9_nameOf
        rw [bz_number hI, Option.bind_some, bz_kind hI, Option.bind_some, kd1, if_pos rfl, hnr, cS T 0 (by omega), if_pos (by omega), tg.1, Option.bind_some, bz_ard (by omega) (by omega), Option.bind_some, cS _ _ (by omega)]
      unfold fz_X3_putCode
      rw [if_neg (by omega), bz_kind hI, Option.bind_some, kd1, if_neg (by decide), nmX, Option.bind_some, show (65 : Int) = 64 + 1 from rfl, a1, Option.bind_some]
    · rw [if_pos (by omega)]
      have nmM : fz_X11_nameOf m' 804 q = some (m.2 809 (8 * s + (q - 100))) := by
        unfold fz_X11_nameOf
        rw [show fz_X11_isFam m' q = some 0 by rw [mz_isFam, if_neg (by omega)], Option.bind_some, if_pos rfl, fx_804_19 hM', Option.bind_some, e15, az_w32_id (z := 8 * s) (by omega) (by omega), az_w32_id (z := 8 * s + q) (by omega) (by omega), az_w32_id (by omega) (by omega), bz_ard (by omega) (by omega), Option.bind_some, mS 809 _ (by omega), show 8 * s + q - 100 = 8 * s + (q - 100) by omega]
      unfold fz_X11_tellsRow_32
      rw [if_pos (by omega), if_pos (by omega), nmM, Option.bind_some, a2, Option.bind_some]
  · have t6 := tb6 (q - 200) (by omega) (by omega)
    have hw := (n4 (q - 200) (by omega) (by omega)).1
    obtain ⟨w, x2, m2, w6, a1, a2, a3, a4, a5, a6⟩ := pz_word hX' hM' hO hR hw (Or.inl rfl) (by omega)
    refine ⟨w, x2, m2, by omega, ?_, fun k6 A n v4 v5 => ?_, a3, a4, a5, a6⟩
    · have kd2 : bz_kd c = 2 := by rw [kd, if_neg (by omega), if_pos (by omega)]
      have hnr : bz_nr c = q - 200 := by unfold bz_nr; rw [if_neg (by omega)]; omega
      have nmX : fz_X9_nameOf x' T c = some (m.2 (T + 3) (q - 200)) := by
        unfold fz_X9_nameOf
        rw [bz_number hI, Option.bind_some, bz_kind hI, Option.bind_some, kd2, if_neg (by decide), Option.bind_some, if_pos rfl, hnr, cS T 1 (by omega), if_pos (by omega), tg.2.2.1, Option.bind_some, bz_ard (by omega) (by omega), Option.bind_some, cS _ _ (by omega)]
      unfold fz_X3_putCode
      rw [if_neg (by omega), bz_kind hI, Option.bind_some, kd2, if_neg (by decide), nmX, Option.bind_some, show (65 : Int) = 64 + 1 from rfl, a1, Option.bind_some]
    · rw [if_pos (by omega)]
      have nmM : fz_X11_nameOf m' 804 q = some (m.2 810 (5 * s + (q - 200))) := by
        unfold fz_X11_nameOf
        rw [show fz_X11_isFam m' q = some 1 by rw [mz_isFam, if_pos (by omega)], Option.bind_some, if_neg (show ¬ (1 : Int) = 0 by decide), fx_804_20 hM', Option.bind_some, e15, az_w32_id (z := 5 * s) (by omega) (by omega), az_w32_id (z := 5 * s + q) (by omega) (by omega), az_w32_id (by omega) (by omega), bz_ard (by omega) (by omega), Option.bind_some, mS 810 _ (by omega), show 5 * s + q - 200 = 5 * s + (q - 200) by omega]
      unfold fz_X11_tellsRow_32
      rw [if_pos (by omega), if_pos (by omega), nmM, Option.bind_some, a2, Option.bind_some]
  · obtain ⟨x1, b1, b2, b3⟩ := pz_put (c := 63) hX' hO (by omega)
    obtain ⟨m1, d1, d2, d3⟩ := pz_tell (c := 63) hM' hR (by omega) (by decide) (by decide)
    have hX1 := b2.fx hX'
    have hM1 := hM'.upd d2
    have ll : (L ++ [(63 : Int)]).length = L.length + 1 := by rw [List.length_append]; rfl
    obtain ⟨w, x2, m2, w6, a1, a2, a3, a4, a5, a6⟩ := pz_word hX1 hM1 b3 d3 (un q0) (Or.inr rfl) (by omega)
    refine ⟨[63] ++ w, x2, m2, by rw [List.length_append]; show 1 + w.length ≤ 7; omega, ?_, fun k6 A n v4 v5 => ?_, b2.trans a3, d2.trans a4, by rw [← List.append_assoc]; exact a5, by rw [← List.append_assoc]; exact a6⟩
    · have kd3 : bz_kd c = 3 := by rw [kd, if_neg (by omega), if_neg (by omega), if_neg (by omega)]
      have hnr : bz_nr c = q - 2000 := by unfold bz_nr; rw [if_neg (by omega)]; omega
      have e381 : x1.2 381 (q - 2000) = x.2 381 (q - 2000) := by
        rw [b2.2.2 381 _ (by omega) (by unfold pz_SP; omega), ux.2.2 381 _ (by omega) (by unfold pz_SX pz_SP; omega)]
      have l381' := ln_381 hX1
      unfold fz_X3_putCode
      rw [if_neg (by omega), bz_kind hI, Option.bind_some, kd3, if_pos rfl, b1, Option.bind_some, bz_number hI, Option.bind_some, hnr, if_pos (by omega), bz_ard (by omega) (by omega), Option.bind_some, e381, show (97 : Int) = 96 + 1 from rfl, a1, Option.bind_some]
    · rw [if_neg (by omega), d1, Option.bind_some]
      unfold fz_X11_tellsRow_32
      have e859 : m1.2 859 (q - 2000) = m.2 859 (q - 2000) := by
        rw [d2.2.2 859 _ (by unfold pz_SR; omega)]; exact mS 859 _ (by omega)
      have l859' := ln_859 hM1
      rw [if_neg (by omega), fx_804_99 hM1, Option.bind_some, az_w32_id (by omega) (by omega), bz_ard (by omega) (by omega), Option.bind_some, e859, a2, Option.bind_some]
end PC
