/-! a row is printed -/
def pz_SX (a k : Int) : Prop := pz_SP a k ∨ a = 803
def pz_SY (a k : Int) : Prop := pz_SR a k ∨ a = 847
def pz_St (x m x' m' : az_Hp) (L : List Int) (D : Int) : Prop := pz_U x x' pz_SX ∧ bz_Upd m m' pz_SY ∧ pz_O x' L ∧ pz_R m' L ∧ (0 ≤ D ∧ D ≤ 60) ∧ ∀ i, 0 ≤ i → i < D → x'.2 803 i = m'.2 847 i ∧ 1 ≤ x'.2 803 i ∧ x'.2 803 i ≤ 3
theorem pz_O.wr {σ : az_Hp} {L : List Int} {i v : Int} (h : pz_O σ L) : pz_O (az_wr σ 803 i v) L := by
  obtain ⟨j, j1, j2, j3, j4, j5, j6, j7, j8⟩ := h
  have e0 : ∀ k, (az_wr σ 803 i v).2 801 k = σ.2 801 k := fun k => az_wr_ne (by omega)
  have B : (σ.2 801 1 = 802 ∨ 867 < σ.2 801 1) := by
    rw [j5]
    by_cases e : j = 0
    · rw [if_pos e]; exact Or.inl rfl
    · rw [if_neg e]; omega
  refine ⟨j, j1, j2, j3, by rw [e0]; exact j4, by rw [e0]; exact j5, by rw [e0]; exact j6, j7, fun k hk => ?_⟩
  rw [e0, az_wr_ne (by omega)]
  exact j8 k hk
theorem pz_R.wr {σ : az_Hp} {L : List Int} {i v : Int} (h : pz_R σ L) : pz_R (az_wr σ 847 i v) L := by
  obtain ⟨h1, h2, h3⟩ := h
  exact ⟨by rw [az_wr_ne (by omega)]; exact h1, h2, fun k hk => by rw [az_wr_ne (by omega)]; exact h3 k hk⟩
section PR
variable {x m : az_Hp}
/-- closing -/
theorem pz_close {r T U A n' N v5 : Int} {k6 : az_Hp → Int → Int → Int → Int → Int → Int → Option az_Hp} {k6' : az_Hp → Int → Int → Int → Int → Int → Int → Option az_Hp} (hX : bz_Fx x) (hM : bz_Fx m) (w5 : az_w32 (v5 + 1) = v5 + 1) : ∀ (D : Nat) (k k' : Nat) (x' m' : az_Hp) (L : List Int), D < k → D < k' → pz_St x m x' m' L D → L.length + D < 90000 →
    ∃ (x'' m'' : az_Hp) (L' : List Int) (D' : Int), fz_X3_putRow_82 2000000 k6 k x' 801 r T U D v5 (D - 1) = k6 x'' 801 r T U D' (v5 + 1) ∧ fz_X11_tellsRow_126 2000000 k6' k' m' 804 A n' N D v5 = k6' m'' 804 A n' N D' (v5 + 1) ∧ pz_St x m x'' m'' L' D' ∧ (L'.length : Int) + D' ≤ L.length + D + 1 ∧ D' ≤ D := by
  intro D
  induction D with
  | zero =>
    intro k k' x' m' L hk hk' st hl
    obtain ⟨k, rfl⟩ : ∃ k', k = k' + 1 := ⟨k - 1, by omega⟩
    obtain ⟨k', rfl⟩ : ∃ k'', k' = k'' + 1 := ⟨k' - 1, by omega⟩
    refine ⟨x', m', L, 0, ?_, ?_, st, by omega, by omega⟩
    · unfold fz_X3_putRow_82
      rw [if_pos (by omega), w5]; rfl
    · unfold fz_X11_tellsRow_126
      rw [if_neg (by omega), w5]; rfl
  | succ D ih =>
    intro k k' x' m' L hk hk' st hl
    obtain ⟨k, rfl⟩ : ∃ k', k = k' + 1 := ⟨k - 1, by omega⟩
    obtain ⟨k', rfl⟩ : ∃ k'', k' = k'' + 1 := ⟨k' - 1, by omega⟩
    obtain ⟨s1, s2, s3, s4, s5, s6⟩ := st
    have hX' := s1.fx hX
    have hM' := hM.upd s2
    have l803 := ln_803 hX'
    have l847 := ln_847 hM'
    have eD : ((D + 1 : Nat) : Int) - 1 = D := by push_cast; omega
    have q := s6 D (by omega) (by push_cast; omega)
    have wD : az_w32 (((D + 1 : Nat) : Int) - 1) = D := by rw [eD, az_w32_id (by omega) (by omega)]
    have wv : az_w32 (x'.2 803 D - 1) = x'.2 803 D - 1 := az_w32_id (by omega) (by omega)
    have ux : pz_U x (az_wr x' 803 D (x'.2 803 D - 1)) pz_SX := s1.trans (pz_U.of (bz_Upd.wr bz_Upd.refl (Or.inr rfl) (by unfold bz_isFix; simp [bz_cap, bz_fixL, bz_rowsL])))
    have um : bz_Upd m (az_wr m' 847 D (x'.2 803 D - 1)) pz_SY := bz_Upd.wr s2 (Or.inr rfl) (by unfold bz_isFix; simp [bz_cap, bz_fixL, bz_rowsL])
    have hX1 := ux.fx hX
    have hM1 := hM.upd um
    have O1 := s3.wr (i := D) (v := x'.2 803 D - 1)
    have R1 := s4.wr (i := D) (v := x'.2 803 D - 1)
    have runX : fz_X3_putRow_82 2000000 k6 (k + 1) x' 801 r T U ((D + 1 : Nat) : Int) v5 D = (if 0 < x'.2 803 D - 1 then ((fz_X3_put (az_wr x' 803 D (x'.2 803 D - 1)) 801 44).bind fun r7 => k6 r7 801 r T U ((D + 1 : Nat) : Int) (v5 + 1)) else ((fz_X3_put (az_wr x' 803 D (x'.2 803 D - 1)) 801 41).bind fun r6 => fz_X3_putRow_82 2000000 k6 k r6 801 r T U D v5 ((D : Int) - 1))) := by
      conv => lhs; unfold fz_X3_putRow_82
      rw [if_neg (by omega), fx_801_2 hX', Option.bind_some, bz_ard (by omega) (by omega), Option.bind_some, wv, bz_awr (by omega) (by omega), Option.bind_some, fx_801_2 hX1, Option.bind_some, bz_ard (by omega) (by rw [ln_803 hX1]; omega), Option.bind_some, az_wr_same, w5, show az_w32 ((D : Int) + -1) = (D : Int) - 1 by rw [az_w32_id (by omega) (by omega)]; omega]
    have runM : fz_X11_tellsRow_126 2000000 k6' (k' + 1) m' 804 A n' N ((D + 1 : Nat) : Int) v5 = (if 0 < x'.2 803 D - 1 then ((fz_X11_tellsByte (az_wr m' 847 D (x'.2 803 D - 1)) 804 44).bind fun r7 => k6' r7 804 A n' N ((D + 1 : Nat) : Int) (v5 + 1)) else ((fz_X11_tellsByte (az_wr m' 847 D (x'.2 803 D - 1)) 804 41).bind fun r6 => fz_X11_tellsRow_126 2000000 k6' k' r6 804 A n' N D v5)) := by
      conv => lhs; unfold fz_X11_tellsRow_126
      rw [if_pos (by omega), fx_804_84 hM', Option.bind_some, wD, bz_ard (by omega) (by omega), Option.bind_some, ← q.1, wv, bz_awr (by omega) (by omega), Option.bind_some, fx_804_84 hM1, Option.bind_some, bz_ard (by omega) (by rw [ln_847 hM1]; omega), Option.bind_some, az_wr_same, w5, show az_w32 (((D + 1 : Nat) : Int) + -1) = (D : Int) by rw [az_w32_id (by omega) (by omega)]; omega]
    rw [eD, runX, runM]
    by_cases c : 0 < x'.2 803 D - 1
    · rw [if_pos c, if_pos c]
      obtain ⟨x2, a1, a2, a3⟩ := pz_put (c := 44) hX1 O1 (by omega)
      obtain ⟨m2, b1, b2, b3⟩ := pz_tell (c := 44) hM1 R1 (by omega) (by decide) (by decide)
      refine ⟨x2, m2, L ++ [44], ((D + 1 : Nat) : Int), by rw [a1, Option.bind_some], by rw [b1, Option.bind_some], ⟨ux.trans (a2.weak fun _ _ z => Or.inl z), um.trans (b2.weak fun _ _ z => Or.inl z), a3, b3, s5, fun i i0 i1 => ?_⟩, by rw [List.length_append]; push_cast; simp only [List.length_cons, List.length_nil]; omega, by omega⟩
      rw [a2.2.2 803 i (by omega) (by unfold pz_SP; omega), b2.2.2 847 i (by unfold pz_SR; omega)]
      by_cases e : i = D
      · rw [e, az_wr_same, az_wr_same]; exact ⟨rfl, by omega, by omega⟩
      · rw [az_wr_ne (by omega), az_wr_ne (by omega)]; exact s6 i i0 i1
    · rw [if_neg c, if_neg c]
      obtain ⟨x2, a1, a2, a3⟩ := pz_put (c := 41) hX1 O1 (by omega)
      obtain ⟨m2, b1, b2, b3⟩ := pz_tell (c := 41) hM1 R1 (by omega) (by decide) (by decide)
      rw [a1, Option.bind_some, b1, Option.bind_some]
      have ll : (L ++ [(41 : Int)]).length = L.length + 1 := by rw [List.length_append]; rfl
      obtain ⟨x3, m3, L', D', y1, y2, y3, y4, y5⟩ := ih k k' x2 m2 (L ++ [41]) (by omega) (by omega) ⟨ux.trans (a2.weak fun _ _ z => Or.inl z), um.trans (b2.weak fun _ _ z => Or.inl z), a3, b3, ⟨by omega, by omega⟩, fun i i0 i1 => by
        rw [a2.2.2 803 i (by omega) (by unfold pz_SP; omega), b2.2.2 847 i (by unfold pz_SR; omega), az_wr_ne (by omega), az_wr_ne (by omega)]
        exact s6 i i0 (by omega)⟩ (by omega)
      exact ⟨x3, m3, L', D', y1, y2, y3, by omega, by omega⟩
end PR
