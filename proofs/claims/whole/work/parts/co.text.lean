/-! the text of what is WANTED: readRequest = want up to its end -/
def wt_X (a _ : Int) : Prop := 161 ≤ a ∧ a ≤ 230
def wt_M (a k : Int) : Prop := (a = 804 ∧ (k = 1 ∨ (5 ≤ k ∧ k ≤ 13) ∨ (31 ≤ k ∧ k ≤ 34) ∨ k = 37 ∨ k = 38 ∨ k = 86 ∨ k = 100)) ∨ (820 ≤ a ∧ a ≤ 822) ∨ (852 ≤ a ∧ a ≤ 857)
theorem wt_text {x m : az_Hp} {T s N : Int} {tp : Int → Int} (hX : bz_Fx x) (hM : bz_Fx m) (hTX : lx_tapeX x tp N) (hTM : ∀ i, 0 ≤ i → i < N → m.2 805 i = tp i) (hNm : rd_Nm x m T s) (hN : N ≤ m.2 804 1) :
    ∃ (w : Int) (x' m' : az_Hp), (w = 0 ∨ w = 1) ∧ fz_X4_readRequest 2000000 x 223 2 N T = some (w, x') ∧ fz_X11_want 2000000 m 804 N = fz_X11_want_71 2000000 m' 804 w ∧ bz_Upd x x' wt_X ∧ bz_Upd m m' wt_M ∧ m'.2 804 1 = 0 ∧ (w = 0 → lx_fault x' m') ∧ (w = 1 → (∃ J j, wq_Z tp N x' m' T s J j) ∧ m'.2 804 11 = 0 ∧ m'.2 804 12 = -1) := by
  have N0 := hTX.1.1
  have hT := hNm.1
  obtain ⟨x0, hx0⟩ : ∃ y, y = az_wr (az_wr (az_wr x 161 0 0) 161 1 0) 161 2 0 := ⟨_, rfl⟩
  have u0 : bz_Upd x x0 (fun a k => a = 161 ∧ 0 ≤ k ∧ k ≤ 2) := by
    rw [hx0]
    exact bz_Upd.wr (bz_Upd.wr (bz_Upd.wr bz_Upd.refl ⟨rfl, by omega, by omega⟩ (by decide)) ⟨rfl, by omega, by omega⟩ (by decide)) ⟨rfl, by omega, by omega⟩ (by decide)
  have hX0 := hX.upd u0
  have hTX0 : lx_tapeX x0 tp N := ⟨hTX.1, fun i i0 i1 => by rw [u0.2.2 2 i (fun z => by omega)]; exact hTX.2 i i0 i1⟩
  obtain ⟨x1, m1, J, b1, b2, C1, ux1, um1, x11, -, m11, m01⟩ := rd_begin (T := T) hX0 hM hTX0 hTM hT
  have hX1 := hX0.upd ux1
  have hM1 := hM.upd um1
  obtain ⟨x2, hx2⟩ : ∃ y, y = az_wr (az_wr x1 223 3 0) 223 4 0 := ⟨_, rfl⟩
  have u2 : bz_Upd x1 x2 (fun a k => a = 223 ∧ (k = 3 ∨ k = 4)) := by rw [hx2]; exact bz_Upd.wr (bz_Upd.wr bz_Upd.refl ⟨rfl, by omega⟩ (by decide)) ⟨rfl, by omega⟩ (by decide)
  obtain ⟨m2, hm2⟩ : ∃ y, y = az_wr (az_wr (az_wr (az_wr (az_wr m1 804 37 0) 804 34 450) 804 38 0) 804 100 0) 804 86 0 := ⟨_, rfl⟩
  have v2 : bz_Upd m1 m2 (fun a k => a = 804 ∧ (k = 34 ∨ k = 37 ∨ k = 38 ∨ k = 86 ∨ k = 100)) := by
    rw [hm2]
    exact bz_Upd.wr (bz_Upd.wr (bz_Upd.wr (bz_Upd.wr (bz_Upd.wr bz_Upd.refl ⟨rfl, by omega⟩ (by decide)) ⟨rfl, by omega⟩ (by decide)) ⟨rfl, by omega⟩ (by decide)) ⟨rfl, by omega⟩ (by decide)) ⟨rfl, by omega⟩ (by decide)
  have hX2 := hX1.upd u2
  have hM2 := hM1.upd v2
  have uxA : bz_Upd x x2 wt_X := ((u0.weak fun a k z => by unfold wt_X; omega).trans (ux1.weak fun a k z => by unfold lx_SX at z; unfold wt_X; omega)).trans (u2.weak fun a k z => by unfold wt_X; omega)
  have umA : bz_Upd m m2 wt_M := (um1.weak fun a k z => by unfold wt_M; omega).trans (v2.weak fun a k z => by unfold wt_M; omega)
  have e161 : ∀ k, 0 ≤ k → k ≤ 2 → x2.2 161 k = 0 := fun k k0 k2 => by
    rw [u2.2.2 161 k (fun z => by omega), ux1.2.2 161 k (fun z => by unfold lx_SX at z; omega), hx0]
    have : k = 0 ∨ k = 1 ∨ k = 2 := by omega
    rcases this with rfl | rfl | rfl
    · rw [az_wr_ne (by omega), az_wr_ne (by omega), az_wr_same]
    · rw [az_wr_ne (by omega), az_wr_same]
    · rw [az_wr_same]
  have f37 : m2.2 804 37 = 0 := by rw [hm2, az_wr_ne (by omega), az_wr_ne (by omega), az_wr_ne (by omega), az_wr_ne (by omega), az_wr_same]
  have f34 : m2.2 804 34 = 450 := by rw [hm2, az_wr_ne (by omega), az_wr_ne (by omega), az_wr_ne (by omega), az_wr_same]
  have f38 : m2.2 804 38 = 0 := by rw [hm2, az_wr_ne (by omega), az_wr_ne (by omega), az_wr_same]
  have f100 : m2.2 804 100 = 0 := by rw [hm2, az_wr_ne (by omega), az_wr_same]
  have f86 : m2.2 804 86 = 0 := by rw [hm2, az_wr_same]
  have f3 : x2.2 223 3 = 0 := by rw [hx2, az_wr_ne (by omega), az_wr_same]
  have Z0 : wq_Z tp N x2 m2 T s J 0 := by
    refine ⟨0, 0, 0, 0, ⟨⟨hX2, hM2⟩, C1.upd u2 v2 (fun a k z => by unfold lx_KX; omega) (fun a k z => by unfold lx_KM; omega), hNm.gen uxA umA (fun a k z => by unfold wt_X at z; omega) (fun a k z => by unfold wt_M at z; omega), by rw [u2.2.2 223 11 (fun z => by omega)]; exact x11, ⟨f37, ⟨by omega, by omega⟩, fun b c b0 bc c1 => by omega, f34, f3, by omega, fun b b0 b1 => by omega⟩, e161 2 (by omega) (by omega), f38, ⟨by omega, by omega⟩, fun k k0 k1 => by omega⟩, ⟨e161 0 (by omega) (by omega), f100, by omega, by omega⟩, ⟨e161 1 (by omega) (by omega), f86, by omega, by omega⟩, fun i i0 i1 => by omega, fun i i0 i1 => by omega⟩
  have J9 := C1.1.2.1
  have runX : fz_X4_readRequest 2000000 x 223 2 N T = fz_X4_readRequest_22 2000000 2000000 x2 223 0 := by
    unfold fz_X4_readRequest fz_X6_clear fz_X4_forgetWords
    rw [fx_223_12 hX, Option.bind_some, Option.bind_some, ← hx0, b1, Option.bind_some, Option.bind_some, ← hx2]
  have runM : fz_X11_want 2000000 m 804 N = fz_X11_want_52 2000000 2000000 m2 804 1 := by
    unfold fz_X11_want fz_X11_isFrom
    rw [if_neg (by omega), if_neg (by omega), Option.bind_some, if_neg (show ¬ (1 : Int) = 0 by decide), b2, Option.bind_some, ← hm2]
  have m21 : m2.2 804 1 = 0 := by rw [v2.2.2 804 1 (fun z => by omega)]; exact m01
  have m211 : m2.2 804 11 = 0 ∧ m2.2 804 12 = -1 := by
    rw [v2.2.2 804 11 (fun z => by omega), v2.2.2 804 12 (fun z => by omega)]
    exact m11
  rcases wq_loop J 2000000 2000000 x2 m2 0 0 (by omega) (by omega) (by omega) Z0 (by omega) (by omega) with ⟨x', m', e1, e2, e3, e4, e5⟩ | ⟨x', m', j', e1, e2, e3, e4, e5⟩
  · exact ⟨0, x', m', Or.inl rfl, runX.trans e1, runM.trans e2, uxA.trans (e3.weak fun a k z => by unfold wz_X at z; unfold wt_X; omega), umA.trans (e4.weak fun a k z => by unfold wz_MB wz_M at z; unfold wt_M; omega), by rw [e4.2.2 804 1 (fun z => by unfold wz_MB wz_M at z; omega)]; exact m21, fun _ => e5, fun z => by omega⟩
  · exact ⟨1, x', m', Or.inr rfl, runX.trans e1, runM.trans e2, uxA.trans (e3.weak fun a k z => by unfold wz_X at z; unfold wt_X; omega), umA.trans (e4.weak fun a k z => by unfold wz_M at z; unfold wt_M; omega), by rw [e4.2.2 804 1 (fun z => by unfold wz_M at z; omega)]; exact m21, fun z => by omega, fun _ => ⟨⟨J, j', e5⟩, by rw [e4.2.2 804 11 (fun z => by unfold wz_M at z; omega)]; exact m211.1, by rw [e4.2.2 804 12 (fun z => by unfold wz_M at z; omega)]; exact m211.2⟩⟩
