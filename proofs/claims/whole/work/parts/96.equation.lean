/-! an equation's answers -/
theorem uz_var {ct ft : Int → Int} {nc nf n v c m : Int} (h : bz_cr ct ft nc nf (bz_VE n) c m) (ht : bz_tb ct ft nc nf) (v0 : 0 ≤ v) (v1 : v < 6) : c = -v - 1 ↔ m = 1000 + v := by
  obtain ⟨t1, t2, t3, t4, t5, t6⟩ := ht
  rcases h with h | h | h | h
  · have := h.2.2.2.1; omega
  · have := t5 (m - 100) (by omega) (by omega); omega
  · have := t6 (m - 200) (by omega) (by omega); omega
  · omega
theorem uz_kd {ct ft : Int → Int} {nc nf c m : Int} {V : Int → Int → Prop} (h : bz_cr ct ft nc nf V c m) (ht : bz_tb ct ft nc nf) : bz_kd c = 2 ↔ (200 ≤ m ∧ m < 1000) := by
  have kd := h.kd ht
  rw [kd]
  by_cases c1 : m < 200
  · rw [if_pos c1]; omega
  · by_cases c2 : m < 1000
    · rw [if_neg c1, if_pos c2]; omega
    · rw [if_neg c1, if_neg c2]
      split <;> omega
/-- how often -/
theorem uz_times {σx σm : az_Hp} {r A c m st o sz : Int} (g : az_gref σx r 0 = some (r + 1)) (hs : st + sz ≤ σx.2 r 1) (s0 : 0 ≤ st) (s1 : st ≤ 1000) (o0 : 0 ≤ o) (o1 : o ≤ 100000) (z1 : sz ≤ 100)
    (hx : ∀ j, 0 ≤ j → j < sz → az_ard σx (r + 1) (st + j) = some (σx.2 (r + 1) (st + j)) ∧ az_ard σm A (o + j) = some (σm.2 A (o + j)) ∧ (σx.2 (r + 1) (st + j) = c ↔ σm.2 A (o + j) = m)) {n : Nat} :
    ∀ (d k : Nat) (a j : Int), d < k → 0 ≤ j → j + d = sz → 0 ≤ a → a ≤ 1000 - d → ∃ w, 0 ≤ w ∧ fz_X7_times_10 n k σx r c (st + sz) a (st + j) = some w ∧ fz_X11_often_6 n k σm A o sz m a j = some w := by
  intro d
  induction d with
  | zero =>
    intro k a j hk j0 hj a0 a1
    obtain ⟨k, rfl⟩ : ∃ k', k = k' + 1 := ⟨k - 1, by omega⟩
    refine ⟨a, a0, ?_, ?_⟩
    · unfold fz_X7_times_10
      rw [if_neg (by omega)]
    · unfold fz_X11_often_6
      rw [if_neg (by omega)]
  | succ d ih =>
    intro k a j hk j0 hj a0 a1
    obtain ⟨k, rfl⟩ : ∃ k', k = k' + 1 := ⟨k - 1, by omega⟩
    obtain ⟨h1, h2, h3⟩ := hx j j0 (by omega)
    have runX : fz_X7_times_10 n (k + 1) σx r c (st + sz) a (st + j) = (if σx.2 (r + 1) (st + j) = c then fz_X7_times_10 n k σx r c (st + sz) (a + 1) (st + (j + 1)) else fz_X7_times_10 n k σx r c (st + sz) a (st + (j + 1))) := by
      conv => lhs; unfold fz_X7_times_10
      rw [if_pos (by omega), if_pos (by omega), g, Option.bind_some, h1, Option.bind_some, az_w32_id (z := a + 1) (by omega) (by omega), az_w32_id (z := st + j + 1) (by omega) (by omega), show st + j + 1 = st + (j + 1) by omega]
    have runM : fz_X11_often_6 n (k + 1) σm A o sz m a j = (if σm.2 A (o + j) = m then fz_X11_often_6 n k σm A o sz m (a + 1) (j + 1) else fz_X11_often_6 n k σm A o sz m a (j + 1)) := by
      conv => lhs; unfold fz_X11_often_6
      rw [if_pos (by omega), az_w32_id (z := o + j) (by omega) (by omega), h2, Option.bind_some, az_w32_id (z := a + 1) (by omega) (by omega), az_w32_id (z := a + 0) (by omega) (by omega), az_w32_id (z := j + 1) (by omega) (by omega), Int.add_zero]
    rw [runX, runM]
    by_cases e : σx.2 (r + 1) (st + j) = c
    · rw [if_pos e, if_pos (h3.mp e)]
      exact ih k (a + 1) (j + 1) (by omega) (by omega) (by omega) (by omega) (by omega)
    · rw [if_neg e, if_neg (fun q => e (h3.mpr q))]
      exact ih k a (j + 1) (by omega) (by omega) (by omega) (by omega) (by omega)
/-- an equation, two heaps -/
def uz_Eq (σx σm : az_Hp) (T s e : Int) : Prop :=
  (az_gref σx T 11 = some (T + 9) ∧ az_arr σx (T + 9) e = some (T + 15 + 4 * e) ∧ az_gref σx (T + 15 + 4 * e) 0 = some (T + 15 + 4 * e + 1)) ∧
  (az_gref σx T 12 = some (T + 10) ∧ az_arr σx (T + 10) e = some (T + 17 + 4 * e) ∧ az_gref σx (T + 17 + 4 * e) 0 = some (T + 17 + 4 * e + 1)) ∧
  (az_gref σx T 10 = some (T + 8) ∧ az_ard σx (T + 8) e = some (σx.2 (T + 8) e)) ∧
  (az_gref σm 804 25 = some 815 ∧ az_gref σm 804 26 = some 816 ∧ az_gref σm 804 27 = some 817 ∧ az_gref σm 804 28 = some 818 ∧ az_gref σm 804 29 = some 819 ∧ fz_X11_eqAt σm 804 e = some (16 * s + e)) ∧
  (az_ard σm 817 (16 * s + e) = some (σx.2 (T + 15 + 4 * e) 1) ∧ az_ard σm 818 (16 * s + e) = some (σx.2 (T + 17 + 4 * e) 1) ∧ az_ard σm 819 (16 * s + e) = some (σx.2 (T + 8) e)) ∧
  (0 ≤ σx.2 (T + 8) e ∧ σx.2 (T + 8) e ≤ 6 ∧ 1 ≤ σx.2 (T + 15 + 4 * e) 1 ∧ σx.2 (T + 15 + 4 * e) 1 ≤ 16 ∧ 1 ≤ σx.2 (T + 17 + 4 * e) 1 ∧ σx.2 (T + 17 + 4 * e) 1 ≤ 16 ∧ 0 ≤ s ∧ s ≤ 1 ∧ 0 ≤ e ∧ e < 16) ∧
  (∀ i, 0 ≤ i → i < σx.2 (T + 15 + 4 * e) 1 → az_ard σx (T + 15 + 4 * e + 1) i = some (σx.2 (T + 15 + 4 * e + 1) i) ∧ az_ard σm 815 (16 * (16 * s + e) + i) = some (σm.2 815 (16 * (16 * s + e) + i)) ∧ bz_cr (bz_ct σm s) (bz_ft σm s) (σm.2 T 0) (σm.2 T 1) (bz_VE (σx.2 (T + 8) e)) (σx.2 (T + 15 + 4 * e + 1) i) (σm.2 815 (16 * (16 * s + e) + i))) ∧
  (∀ i, 0 ≤ i → i < σx.2 (T + 17 + 4 * e) 1 → az_ard σx (T + 17 + 4 * e + 1) i = some (σx.2 (T + 17 + 4 * e + 1) i) ∧ az_ard σm 816 (16 * (16 * s + e) + i) = some (σm.2 816 (16 * (16 * s + e) + i)) ∧ bz_cr (bz_ct σm s) (bz_ft σm s) (σm.2 T 0) (σm.2 T 1) (bz_VE (σx.2 (T + 8) e)) (σx.2 (T + 17 + 4 * e + 1) i) (σm.2 816 (16 * (16 * s + e) + i)) ∧ bz_I (σx.2 (T + 17 + 4 * e + 1) i))
theorem uz_eq {σx σm : az_Hp} {T s e : Int} (h : mz_H σx σm T s) (e0 : 0 ≤ e) (e1 : e < σx.2 T 2) : uz_Eq σx σm T s e := by
  obtain ⟨a1, a2, a3, a4, a5, a6, a7, a8, a9, a10, a11⟩ := h.r e0 e1
  have hT := h.2.2.1.1
  have hs := h.2.2.1.2.1
  have n := h.n
  have E := h.2.2.1.2.2.2.2 e e0 (by omega)
  obtain ⟨q1, q2, q3, q4, q5, q6, q7, q8, q9, q10, q11⟩ := E
  have g := bz_tg h.1 hT
  have l := bz_tl h.1 hT
  have rr := bz_tr h.1 hT e0 a11
  have f1 := bz_fxR h.1 a7.1
  have f2 := bz_fxR h.1 a8.1
  have cp := bz_tcap hT e0 a11
  have l815 := ln_815 h.2.1
  have l816 := ln_816 h.2.1
  have l817 := ln_817 h.2.1
  have l818 := ln_818 h.2.1
  have l819 := ln_819 h.2.1
  have eq0 := bz_eqAt h.tb.1 e0 a11
  rw [h.2.2.2.2] at eq0
  refine ⟨⟨g.2.2.2.2.2.2.2.2.1, rr.1, bz_gr f1.1 (by omega)⟩, ⟨g.2.2.2.2.2.2.2.2.2.1, rr.2, bz_gr f2.1 (by omega)⟩, ⟨g.2.2.2.2.2.2.2.1, bz_ard e0 (by have := l.2.2.2.2.2.2.2.1; omega)⟩, ⟨fx_804_25 h.2.1, fx_804_26 h.2.1, fx_804_27 h.2.1, fx_804_28 h.2.1, fx_804_29 h.2.1, eq0⟩, ⟨?_, ?_, ?_⟩, ⟨?_, ?_, ?_, ?_, ?_, ?_, by omega, by omega, e0, a11⟩, fun i i0 i1 => ⟨bz_ard i0 (by rw [a1] at i1; omega), bz_ard (by omega) ?_, ?_⟩, fun i i0 i1 => ⟨bz_ard i0 (by rw [a3] at i1; omega), bz_ard (by omega) ?_, ?_, a8.2.2.2 i i0 i1⟩⟩
  · rw [a1, q1.1]; exact bz_ard (by omega) (by omega)
  · rw [a3, q2.1]; exact bz_ard (by omega) (by omega)
  · rw [a6, q3.1]; exact bz_ard (by omega) (by omega)
  · rw [a6]; exact q3.2.1
  · rw [a6]; exact q3.2.2
  · rw [a1]; exact q1.2.1
  · rw [a1]; exact q1.2.2
  · rw [a3]; exact q2.2.1
  · rw [a3]; exact q2.2.2
  · rw [a1] at i1; omega
  · rw [a1] at i1; rw [a6, a2]; exact q4 i i0 i1
  · rw [a3] at i1; omega
  · rw [a3] at i1; rw [a6, a4]; exact q5 i i0 i1
def uz_P (w w' : Int) : Prop := (w = 0 ∧ w' = 4) ∨ (w = w' ∧ 1 ≤ w ∧ w ≤ 3)
/-- a variable more often than on the left -/
theorem uz_62 {σx σm : az_Hp} {T s e : Int} (h : uz_Eq σx σm T s e) (ht : bz_tb (bz_ct σm s) (bz_ft σm s) (σm.2 T 0) (σm.2 T 1)) {st sz : Int} (s0 : 0 ≤ st) (z0 : 0 ≤ sz) (s1 : st + sz ≤ σx.2 (T + 17 + 4 * e) 1) : ∀ (d k : Nat) (v : Int), d < k → 0 ≤ v → v + d = σx.2 (T + 8) e → ∃ w w', uz_P w w' ∧ fz_X9_unboundedAt_62 2000000 k σx T e st (st + sz) (T + 17 + 4 * e) v = some w ∧ fz_X11_unboundBy_61 2000000 k σm 804 e (16 * (16 * s + e) + st) sz v = some w' := by
  obtain ⟨⟨L1, L2, L3⟩, ⟨R1, R2, R3⟩, ⟨V1, V2⟩, ⟨m1, m2, m3, m4, m5, m6⟩, ⟨n1, n2, n3⟩, ⟨b1, b2, b3, b4, b5, b6, b7, b8, b9, b10⟩, cL, cR⟩ := h
  intro d
  induction d with
  | zero =>
    intro k v hk v0 hv
    obtain ⟨k, rfl⟩ : ∃ k', k = k' + 1 := ⟨k - 1, by omega⟩
    refine ⟨0, 4, Or.inl ⟨rfl, rfl⟩, ?_, ?_⟩
    · unfold fz_X9_unboundedAt_62
      rw [V1, Option.bind_some, V2, Option.bind_some, if_neg (by omega)]
    · unfold fz_X11_unboundBy_61
      rw [m5, Option.bind_some, m6, Option.bind_some, n3, Option.bind_some, if_neg (by omega)]
  | succ d ih =>
    intro k v hk v0 hv
    obtain ⟨k, rfl⟩ : ∃ k', k = k' + 1 := ⟨k - 1, by omega⟩
    obtain ⟨wr, wr0, wr1, wr2⟩ := uz_times (σx := σx) (σm := σm) (r := T + 17 + 4 * e) (A := 816) (c := -v - 1) (m := 1000 + v) (st := st) (o := 16 * (16 * s + e) + st) (sz := sz) R3 s1 s0 (by omega) (by omega) (by omega) (by omega) (fun j j0 j1 => by
      obtain ⟨c1, c2, c3, -⟩ := cR (st + j) (by omega) (by omega)
      rw [show 16 * (16 * s + e) + st + j = 16 * (16 * s + e) + (st + j) by omega]
      exact ⟨c1, c2, uz_var c3 ht v0 (by omega)⟩) (n := 2000000) sz.toNat 2000000 0 0 (by omega) (by omega) (by omega) (by omega) (by omega)
    obtain ⟨wl, wl0, wl1, wl2⟩ := uz_times (σx := σx) (σm := σm) (r := T + 15 + 4 * e) (A := 815) (c := -v - 1) (m := 1000 + v) (st := 0) (o := 16 * (16 * s + e)) (sz := σx.2 (T + 15 + 4 * e) 1) L3 (by omega) (by omega) (by omega) (by omega) (by omega) (by omega) (fun j j0 j1 => by
      obtain ⟨c1, c2, c3⟩ := cL j j0 j1
      rw [Int.zero_add]
      exact ⟨c1, c2, uz_var c3 ht v0 (by omega)⟩) (n := 2000000) (σx.2 (T + 15 + 4 * e) 1).toNat 2000000 0 0 (by omega) (by omega) (by omega) (by omega) (by omega)
    rw [Int.add_zero] at wr1 wl1
    rw [Int.zero_add] at wl1
    have xr : az_ixorV v (-1) = -v - 1 := bz_xor (by omega) (by omega)
    have t1 : fz_X7_times 2000000 σx (T + 17 + 4 * e) (-v - 1) st (st + sz) = some wr := by
      unfold fz_X7_times
      rw [if_neg (by omega)]; exact wr1
    have t2 : fz_X7_times 2000000 σx (T + 15 + 4 * e) (-v - 1) 0 (σx.2 (T + 15 + 4 * e) 1) = some wl := by
      unfold fz_X7_times
      rw [if_neg (by omega)]; exact wl1
    have runX : fz_X9_unboundedAt_62 2000000 (k + 1) σx T e st (st + sz) (T + 17 + 4 * e) v = (if wl < wr then some 3 else fz_X9_unboundedAt_62 2000000 k σx T e st (st + sz) (T + 17 + 4 * e) (v + 1)) := by
      conv => lhs; unfold fz_X9_unboundedAt_62
      rw [V1, Option.bind_some, V2, Option.bind_some, if_pos (by omega), xr, t1, Option.bind_some, L1, Option.bind_some, L2]
      simp only [Option.bind_some, L2]
      rw [t2, Option.bind_some, az_w32_id (z := v + 1) (by omega) (by omega)]
    have runM : fz_X11_unboundBy_61 2000000 (k + 1) σm 804 e (16 * (16 * s + e) + st) sz v = (if wl < wr then some 3 else fz_X11_unboundBy_61 2000000 k σm 804 e (16 * (16 * s + e) + st) sz (v + 1)) := by
      conv => lhs; unfold fz_X11_unboundBy_61 fz_X11_often
      rw [m5, Option.bind_some, m6, Option.bind_some, n3, Option.bind_some, if_pos (by omega), m2, Option.bind_some, az_w32_id (z := 1000 + v) (by omega) (by omega), wr2, Option.bind_some, m1, Option.bind_some, Option.bind_some, m3, Option.bind_some, Option.bind_some, n1, Option.bind_some, az_w32_id (z := 16 * (16 * s + e)) (by omega) (by omega), wl2, Option.bind_some, az_w32_id (z := v + 1) (by omega) (by omega)]
    rw [runX, runM]
    by_cases c : wl < wr
    · rw [if_pos c, if_pos c]
      exact ⟨3, 3, Or.inr ⟨rfl, by decide, by decide⟩, rfl, rfl⟩
    · rw [if_neg c, if_neg c]
      exact ih k (v + 1) (by omega) (by omega) (by omega)
theorem uz_13 {σx σm : az_Hp} {T s e : Int} (h : uz_Eq σx σm T s e) (ht : bz_tb (bz_ct σm s) (bz_ft σm s) (σm.2 T 0) (σm.2 T 1)) {st sz : Int} (s0 : 0 ≤ st) (z0 : 0 ≤ sz) (s1 : st + sz ≤ σx.2 (T + 17 + 4 * e) 1) : ∀ (d k : Nat) (j : Int), d < k → 0 ≤ j → j + d = sz → ∃ w w', uz_P w w' ∧ fz_X9_unboundedAt_13 2000000 k σx T e st (st + sz) (T + 17 + 4 * e) (st + j) = some w ∧ fz_X11_unboundBy_13 2000000 k σm 804 e (16 * (16 * s + e) + st) sz j = some w' := by
  have h' := h
  obtain ⟨⟨L1, L2, L3⟩, ⟨R1, R2, R3⟩, ⟨V1, V2⟩, ⟨m1, m2, m3, m4, m5, m6⟩, ⟨n1, n2, n3⟩, ⟨b1, b2, b3, b4, b5, b6, b7, b8, b9, b10⟩, cL, cR⟩ := h'
  intro d
  induction d with
  | zero =>
    intro k j hk j0 hj
    obtain ⟨k, rfl⟩ : ∃ k', k = k' + 1 := ⟨k - 1, by omega⟩
    have runX : fz_X9_unboundedAt_13 2000000 (k + 1) σx T e st (st + sz) (T + 17 + 4 * e) (st + j) = (if sz < σx.2 (T + 15 + 4 * e) 1 then fz_X9_unboundedAt_62 2000000 2000000 σx T e st (st + sz) (T + 17 + 4 * e) 0 else some 2) := by
      unfold fz_X9_unboundedAt_13
      rw [if_neg (by omega), L1, Option.bind_some, L2, Option.bind_some, az_w32_id (z := st + sz - st) (by omega) (by omega), show st + sz - st = sz by omega]
    have runM : fz_X11_unboundBy_13 2000000 (k + 1) σm 804 e (16 * (16 * s + e) + st) sz j = (if sz < σx.2 (T + 15 + 4 * e) 1 then fz_X11_unboundBy_61 2000000 2000000 σm 804 e (16 * (16 * s + e) + st) sz 0 else some 2) := by
      unfold fz_X11_unboundBy_13
      rw [if_neg (by omega), m3, Option.bind_some, m6, Option.bind_some, n1, Option.bind_some]
    rw [runX, runM]
    by_cases c : sz < σx.2 (T + 15 + 4 * e) 1
    · rw [if_pos c, if_pos c]
      exact uz_62 h ht s0 z0 s1 (σx.2 (T + 8) e).toNat 2000000 0 (by omega) (by omega) (by omega)
    · rw [if_neg c, if_neg c]
      exact ⟨2, 2, Or.inr ⟨rfl, by decide, by decide⟩, rfl, rfl⟩
  | succ d ih =>
    intro k j hk j0 hj
    obtain ⟨k, rfl⟩ : ∃ k', k = k' + 1 := ⟨k - 1, by omega⟩
    obtain ⟨c1, c2, c3, c4⟩ := cR (st + j) (by omega) (by omega)
    have iff := uz_kd c3 ht
    have runX : fz_X9_unboundedAt_13 2000000 (k + 1) σx T e st (st + sz) (T + 17 + 4 * e) (st + j) = (if bz_kd (σx.2 (T + 17 + 4 * e + 1) (st + j)) = 2 then some 1 else fz_X9_unboundedAt_13 2000000 k σx T e st (st + sz) (T + 17 + 4 * e) (st + (j + 1))) := by
      conv => lhs; unfold fz_X9_unboundedAt_13
      rw [if_pos (by omega), R3, Option.bind_some, c1, Option.bind_some, bz_kind c4, Option.bind_some, az_w32_id (z := st + j + 1) (by omega) (by omega), show st + j + 1 = st + (j + 1) by omega]
    have runM : fz_X11_unboundBy_13 2000000 (k + 1) σm 804 e (16 * (16 * s + e) + st) sz j = (if 200 ≤ σm.2 816 (16 * (16 * s + e) + (st + j)) ∧ σm.2 816 (16 * (16 * s + e) + (st + j)) < 1000 then some 1 else fz_X11_unboundBy_13 2000000 k σm 804 e (16 * (16 * s + e) + st) sz (j + 1)) := by
      conv => lhs; unfold fz_X11_unboundBy_13
      rw [if_pos (by omega), m2, Option.bind_some, az_w32_id (z := 16 * (16 * s + e) + st + j) (by omega) (by omega), show 16 * (16 * s + e) + st + j = 16 * (16 * s + e) + (st + j) by omega, c2, Option.bind_some, mz_isFam, Option.bind_some, az_w32_id (z := j + 1) (by omega) (by omega)]
      by_cases c : 200 ≤ σm.2 816 (16 * (16 * s + e) + (st + j)) ∧ σm.2 816 (16 * (16 * s + e) + (st + j)) < 1000
      · rw [if_pos c, if_pos c, if_neg (show ¬ (1 : Int) = 0 by decide)]
      · rw [if_neg c, if_neg c, if_pos rfl]
    rw [runX, runM]
    by_cases c : 200 ≤ σm.2 816 (16 * (16 * s + e) + (st + j)) ∧ σm.2 816 (16 * (16 * s + e) + (st + j)) < 1000
    · rw [if_pos c, if_pos (iff.mpr c)]
      exact ⟨1, 1, Or.inr ⟨rfl, by decide, by decide⟩, rfl, rfl⟩
    · rw [if_neg c, if_neg (fun q => c (iff.mp q))]
      exact ih k (j + 1) (by omega) (by omega) (by omega)
/-- what bounds no step of the right side -/
theorem uz_12 {σx σm : az_Hp} {T s e : Int} (hH : mz_H σx σm T s) (e0 : 0 ≤ e) (e1 : e < σx.2 T 2) : ∀ (d k : Nat) (a a' i : Int), d < k → 0 ≤ i → i + d = σx.2 (T + 17 + 4 * e) 1 → uz_P a a' → ∃ w, fz_X9_unbounded_12 2000000 k σx T e a (T + 17 + 4 * e) i = some w ∧ fz_X11_unbound_14 2000000 k σm 804 e a' (16 * (16 * s + e)) i = some w := by
  have h := uz_eq hH e0 e1
  have ht := hH.tb.2.1
  have h' := h
  obtain ⟨⟨L1, L2, L3⟩, ⟨R1, R2, R3⟩, ⟨V1, V2⟩, ⟨m1, m2, m3, m4, m5, m6⟩, ⟨n1, n2, n3⟩, ⟨b1, b2, b3, b4, b5, b6, b7, b8, b9, b10⟩, cL, cR⟩ := h'
  obtain ⟨hEn, hSc, -⟩ := mz_EnR (who := 0) (fl := 0) hH e0 e1 (Or.inl rfl) (d := (σx.2 (T + 17 + 4 * e) 1).toNat) (by omega)
  have hrw := (hH.r e0 e1).2.2.2.2.2.2.2.1
  intro d
  induction d with
  | zero =>
    intro k a a' i hk i0 hi hP
    obtain ⟨k, rfl⟩ : ∃ k', k = k' + 1 := ⟨k - 1, by omega⟩
    refine ⟨a, ?_, ?_⟩
    · unfold fz_X9_unbounded_12
      rw [if_neg (by omega)]
    · unfold fz_X11_unbound_14
      rw [m4, Option.bind_some, m6, Option.bind_some, n2, Option.bind_some, if_neg (by omega)]
      rcases hP with ⟨p1, p2⟩ | ⟨p1, p2, p3⟩
      · rw [if_pos p2, p1]
      · rw [if_neg (by omega), p1]
  | succ d ih =>
    intro k a a' i hk i0 hi hP
    obtain ⟨k, rfl⟩ : ∃ k', k = k' + 1 := ⟨k - 1, by omega⟩
    obtain ⟨c1, c2, c3, c4⟩ := cR i i0 (by omega)
    have iff := uz_kd c3 ht
    by_cases c : 200 ≤ σm.2 816 (16 * (16 * s + e) + i) ∧ σm.2 816 (16 * (16 * s + e) + i) < 1000
    · obtain ⟨z, z0, z1, z2⟩ := bz_Sc.sub bz_ra0 (d := (σx.2 (T + 17 + 4 * e) 1).toNat) (c := 1) (i := 0) i.toNat (by omega) hSc
      rw [show (0 : Int) + ((i.toNat : Nat) : Int) = i by omega] at z2
      have hend := bz_end hH.1 hrw i0 (by omega) z2
      have hsize := hEn.size i0 (by omega) z2
      obtain ⟨w, w', wP, w1, w2⟩ := uz_13 h ht (st := i) (sz := z) i0 (by omega) (by omega) ((z : Int) - 1).toNat 2000000 1 (by omega) (by omega) (by omega)
      obtain ⟨v, v1, v2⟩ := ih k (if w = 0 then a else if a = 0 then w else if w < a then w else a) (if w' < a' then w' else a') (i + 1) (by omega) (by omega) (by omega) (by
        unfold uz_P at wP hP ⊢
        split <;> split <;> (try split) <;> (try split) <;> omega)
      have atX : fz_X9_unboundedAt 2000000 σx T e i (i + z) = some w := by
        unfold fz_X9_unboundedAt
        rw [R1, Option.bind_some, R2, Option.bind_some, az_w32_id (z := i + 1) (by omega) (by omega)]
        exact w1
      have atM : fz_X11_unboundBy 2000000 σm 804 e (16 * (16 * s + e) + i) = some w' := by
        unfold fz_X11_unboundBy
        rw [m2, Option.bind_some, hsize, Option.bind_some]
        exact w2
      refine ⟨v, ?_, ?_⟩
      · rw [← v1]
        conv => lhs; unfold fz_X9_unbounded_12
        rw [if_pos (by omega), R3, Option.bind_some, c1, Option.bind_some, bz_kind c4, Option.bind_some, if_pos (iff.mpr c), hend, Option.bind_some, atX, Option.bind_some, az_w32_id (z := i + 1) (by omega) (by omega)]
        by_cases p1 : w = 0
        · rw [if_pos p1, if_pos p1]
        · rw [if_neg p1, if_neg p1]
          by_cases p2 : a = 0
          · rw [if_pos p2, if_pos p2]
          · rw [if_neg p2, if_neg p2]
            by_cases p3 : w < a
            · rw [if_pos p3, if_pos p3]
            · rw [if_neg p3, if_neg p3]
      · rw [← v2]
        conv => lhs; unfold fz_X11_unbound_14
        rw [m4, Option.bind_some, m6, Option.bind_some, n2, Option.bind_some, if_pos (by omega), m2, Option.bind_some, az_w32_id (z := 16 * (16 * s + e) + i) (by omega) (by omega), c2, Option.bind_some, mz_isFam, if_pos c, Option.bind_some, if_neg (show ¬ (1 : Int) = 0 by decide), atM, Option.bind_some, az_w32_id (z := i + 1) (by omega) (by omega)]
    · obtain ⟨v, v1, v2⟩ := ih k a a' (i + 1) (by omega) (by omega) (by omega) hP
      refine ⟨v, ?_, ?_⟩
      · rw [← v1]
        conv => lhs; unfold fz_X9_unbounded_12
        rw [if_pos (by omega), R3, Option.bind_some, c1, Option.bind_some, bz_kind c4, Option.bind_some, if_neg (fun q => c (iff.mp q)), az_w32_id (z := i + 1) (by omega) (by omega)]
      · rw [← v2]
        conv => lhs; unfold fz_X11_unbound_14
        rw [m4, Option.bind_some, m6, Option.bind_some, n2, Option.bind_some, if_pos (by omega), m2, Option.bind_some, az_w32_id (z := 16 * (16 * s + e) + i) (by omega) (by omega), c2, Option.bind_some, mz_isFam, if_neg c, Option.bind_some, if_pos rfl, az_w32_id (z := i + 1) (by omega) (by omega)]
theorem uz_unbounded {σx σm : az_Hp} {T s e : Int} (hH : mz_H σx σm T s) (e0 : 0 ≤ e) (e1 : e < σx.2 T 2) : ∃ w, fz_X9_unbounded 2000000 σx T e = some w ∧ fz_X11_unbound 2000000 σm 804 e = some w := by
  obtain ⟨⟨L1, L2, L3⟩, ⟨R1, R2, R3⟩, ⟨V1, V2⟩, ⟨m1, m2, m3, m4, m5, m6⟩, ⟨n1, n2, n3⟩, ⟨b1, b2, b3, b4, b5, b6, b7, b8, b9, b10⟩, cL, cR⟩ := uz_eq hH e0 e1
  unfold fz_X9_unbounded fz_X11_unbound
  rw [R1, Option.bind_some, R2, Option.bind_some, m6, Option.bind_some, az_w32_id (z := 16 * (16 * s + e)) (by omega) (by omega)]
  exact uz_12 hH e0 e1 (σx.2 (T + 17 + 4 * e) 1).toNat 2000000 0 4 0 (by omega) (by omega) (by omega) (Or.inl ⟨rfl, rfl⟩)
/-- the rank -/
theorem uz_rankL {σx σm : az_Hp} {T s e : Int} (h : mz_H σx σm T s) (e0 : 0 ≤ e) (e1 : e < σx.2 T 2) : ∀ (d k : Nat) (c i : Int), d < k → 0 ≤ i → i + d = e → 0 ≤ c → c ≤ 1000 - d → ∃ r, fz_X9_rank_4 2000000 k σx T e c i = some r ∧ fz_X11_equation_79 2000000 k σm 804 e c i = some (r, az_wr σm 804 2 0) := by
  have hb := mz_nb h
  obtain ⟨he, -, ho3⟩ := mz_fam h e0 e1
  intro d
  induction d with
  | zero =>
    intro k c i hk h0 hi c0 c1
    obtain ⟨k, rfl⟩ : ∃ k', k = k' + 1 := ⟨k - 1, by omega⟩
    refine ⟨c, ?_, ?_⟩
    · unfold fz_X9_rank_4
      rw [if_neg (by omega)]
    · unfold fz_X11_equation_79 fz_X11_gives
      rw [if_neg (by omega), Option.bind_some]
  | succ d ih =>
    intro k c i hk h0 hi c0 c1
    obtain ⟨k, rfl⟩ : ∃ k', k = k' + 1 := ⟨k - 1, by omega⟩
    obtain ⟨hf, ho1, ho2⟩ := mz_fam h h0 (by omega)
    have runX : fz_X9_rank_4 2000000 (k + 1) σx T e c i = (if σx.2 (T + 7) i = σx.2 (T + 7) e then fz_X9_rank_4 2000000 k σx T e (c + 1) (i + 1) else fz_X9_rank_4 2000000 k σx T e c (i + 1)) := by
      conv => lhs; unfold fz_X9_rank_4
      rw [if_pos (by omega)]
      simp only [ho1, ho2, ho3, Option.bind_some]
      rw [az_w32_id (z := c + 1) (by omega) (by omega), az_w32_id (z := i + 1) (by omega) (by omega)]
    have runM : fz_X11_equation_79 2000000 (k + 1) σm 804 e c i = (if σx.2 (T + 7) i = σx.2 (T + 7) e then fz_X11_equation_79 2000000 k σm 804 e (c + 1) (i + 1) else fz_X11_equation_79 2000000 k σm 804 e c (i + 1)) := by
      conv => lhs; unfold fz_X11_equation_79
      rw [if_pos (by omega), hf, Option.bind_some, he, Option.bind_some, az_w32_id (z := c + 1) (by omega) (by omega), az_w32_id (z := i + 1) (by omega) (by omega), az_w32_id (z := c + 0) (by omega) (by omega), Int.add_zero]
    rw [runX, runM]
    by_cases q : σx.2 (T + 7) i = σx.2 (T + 7) e
    · rw [if_pos q, if_pos q]
      exact ih k (c + 1) (i + 1) (by omega) (by omega) (by omega) (by omega) (by omega)
    · rw [if_neg q, if_neg q]
      exact ih k c (i + 1) (by omega) (by omega) (by omega) (by omega) (by omega)
theorem cz_op_equation : bz_op_equation cz_J := by
  rintro a b ha hb σ ⟨T, s, h, eq⟩
  have hF := h.1.1
  have hT := h.1.2.2.2.2.2.2.2.1
  have g5 := cz_t5 h
  by_cases q : b < 0 ∨ 5 < b
  · refine cz_rd (f := fun σ => fz_X10_equation 2000000 σ 1 a b) (g := fun σ => fz_X11_equation 2000000 σ 804 a b) h (r := -1) (v := 1) ?_ ?_
    · simp only [fz_X10_equation, fz_X10_refuse, Option.bind_some]
      by_cases q' : b < 0
      · rw [if_pos q']
      · rw [if_neg q', if_pos (by omega)]
    · simp only [fz_X11_equation, fz_X11_refuse, fz_X11_isFrom]
      by_cases q' : b < 0
      · rw [if_pos q']; rfl
      · rw [if_neg q', if_pos (by omega)]; rfl
  have n1 : ¬ b < 0 := by omega
  have n2 : ¬ 5 < b := by omega
  have eX := cz_isEqX (e := a) h
  by_cases qa : 0 ≤ a ∧ a < σ.2 T 2
  · rw [if_pos qa] at eX
    obtain ⟨u1, k1, sM, eT, e375⟩ := tz_at (v := 0) h (bz_Upd.refl (σ := σ))
    obtain ⟨C1, -⟩ := cz_rzC h u1
    have eM := cz_isEqM (e := a) k1
    rw [eT, if_pos qa] at eM
    obtain ⟨⟨L1, L2, L3⟩, ⟨R1, R2, R3⟩, ⟨V1, V2⟩, ⟨m1, m2, m3, m4, m5, m6⟩, ⟨p1, p2, p3⟩, -⟩ := uz_eq C1.1 qa.1 qa.2
    obtain ⟨f1, f2, f3⟩ := mz_fam C1.1 qa.1 qa.2
    have fin : ∀ r, fz_X10_equation 2000000 σ 1 a b = some (r, az_wr σ 1 2 0) → fz_X11_equation 2000000 (az_wr σ 1 2 0) 804 a b = some (r, az_wr (az_wr σ 1 2 0) 804 2 0) → _ := fun r x y => cz_rd (f := fun σ => fz_X10_equation 2000000 σ 1 a b) (g := fun σ => fz_X11_equation 2000000 σ 804 a b) h (r := r) (v := 0) x y
    by_cases b0 : b = 0
    · refine fin (σ.2 (T + 7) a) ?_ ?_
      · simp only [fz_X10_equation, fz_X10_give, if_neg n1, if_neg n2, eX, Option.bind_some, if_pos b0, g5, f2, f3]
        rw [if_neg (by decide)]
      · simp only [fz_X11_equation, fz_X11_gives, fz_X11_isFrom, if_neg n1, if_neg n2, eM, Option.bind_some, if_pos b0, f1]
        rw [if_neg (by decide), if_neg (by decide)]
    by_cases b1 : b = 1
    · have nb := mz_nb C1.1
      obtain ⟨r, r1, r2⟩ := uz_rankL C1.1 qa.1 qa.2 a.toNat 2000000 0 0 (by omega) (by omega) (by omega) (by omega) (by omega)
      refine fin r ?_ ?_
      · simp only [fz_X10_equation, fz_X10_give, fz_X9_rank, if_neg n1, if_neg n2, eX, Option.bind_some, if_neg b0, if_pos b1, g5, r1]
        rw [if_neg (by decide)]
      · simp only [fz_X11_equation, fz_X11_gives, fz_X11_isFrom, if_neg n1, if_neg n2, eM, Option.bind_some, if_neg b0, if_pos b1, r2]
        rw [if_neg (by decide), if_neg (by decide)]
    by_cases b2 : b = 2
    · refine fin (σ.2 (T + 8) a) ?_ ?_
      · simp only [fz_X10_equation, fz_X10_give, if_neg n1, if_neg n2, eX, Option.bind_some, if_neg b0, if_neg b1, if_pos b2, g5, V1, V2]
        rw [if_neg (by decide)]
      · simp only [fz_X11_equation, fz_X11_gives, fz_X11_isFrom, if_neg n1, if_neg n2, eM, Option.bind_some, if_neg b0, if_neg b1, if_pos b2, m5, m6, p3]
        rw [if_neg (by decide), if_neg (by decide)]
    by_cases b3 : b = 3
    · refine fin (σ.2 (T + 15 + 4 * a) 1) ?_ ?_
      · simp only [fz_X10_equation, fz_X10_give, if_neg n1, if_neg n2, eX, Option.bind_some, if_neg b0, if_neg b1, if_neg b2, if_pos b3, g5, L1, L2]
        rw [if_neg (by decide)]
      · simp only [fz_X11_equation, fz_X11_gives, fz_X11_isFrom, if_neg n1, if_neg n2, eM, Option.bind_some, if_neg b0, if_neg b1, if_neg b2, if_pos b3, m3, m6, p1]
        rw [if_neg (by decide), if_neg (by decide)]
    by_cases b4 : b = 4
    · refine fin (σ.2 (T + 17 + 4 * a) 1) ?_ ?_
      · simp only [fz_X10_equation, fz_X10_give, if_neg n1, if_neg n2, eX, Option.bind_some, if_neg b0, if_neg b1, if_neg b2, if_neg b3, if_pos b4, g5, R1, R2]
        rw [if_neg (by decide)]
      · simp only [fz_X11_equation, fz_X11_gives, fz_X11_isFrom, if_neg n1, if_neg n2, eM, Option.bind_some, if_neg b0, if_neg b1, if_neg b2, if_neg b3, if_pos b4, m4, m6, p2]
        rw [if_neg (by decide), if_neg (by decide)]
    · obtain ⟨w, w1, w2⟩ := uz_unbounded C1.1 qa.1 qa.2
      refine fin w ?_ ?_
      · simp only [fz_X10_equation, fz_X10_give, if_neg n1, if_neg n2, eX, Option.bind_some, if_neg b0, if_neg b1, if_neg b2, if_neg b3, if_neg b4, g5, w1]
        rw [if_neg (by decide)]
      · simp only [fz_X11_equation, fz_X11_gives, fz_X11_isFrom, if_neg n1, if_neg n2, eM, Option.bind_some, if_neg b0, if_neg b1, if_neg b2, if_neg b3, if_neg b4, w2]
        rw [if_neg (by decide), if_neg (by decide)]
  · rw [if_neg qa] at eX
    have k1 := cz_K1 h 2
    have eM := cz_isEqM (e := a) k1
    rw [az_wr_ne (by omega), if_neg qa] at eM
    refine cz_rd (f := fun σ => fz_X10_equation 2000000 σ 1 a b) (g := fun σ => fz_X11_equation 2000000 σ 804 a b) h (r := -1) (v := 2) ?_ ?_
    · simp only [fz_X10_equation, fz_X10_refuse, if_neg n1, if_neg n2, eX, Option.bind_some]
      rw [if_pos trivial]
    · simp only [fz_X11_equation, fz_X11_refuse, fz_X11_isFrom, if_neg n1, if_neg n2, eM, Option.bind_some]
      rw [if_neg (by decide), if_pos trivial]
