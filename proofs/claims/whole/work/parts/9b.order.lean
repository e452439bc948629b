/-! places from within: kids before what holds them -/
def sz_PO (a : Int → Int) : Nat → Nat → Int → Int → List Int → Prop
  | 0, d, c, _, L => d = 0 ∧ c = 0 ∧ L = []
  | f + 1, d, c, i, L => (d = 0 ∧ c = 0 ∧ L = []) ∨ (0 < c ∧ ∃ d1 d2 L1 L2, d = d1 + 1 + d2 ∧ sz_PO a f d1 (a i) (i + 1) L1 ∧ sz_PO a f d2 (c - 1) (i + 1 + d1) L2 ∧ L = L1 ++ i :: L2)
theorem sz_PO.ex {a : Int → Int} (ha : ∀ j, 0 ≤ a j) : ∀ (f d : Nat) (c i : Int), d ≤ f → bz_Sc a d c i → ∃ L, sz_PO a f d c i L := by
  intro f
  induction f with
  | zero =>
    intro d c i hd h
    have e : d = 0 := by omega
    subst e
    exact ⟨[], rfl, h, rfl⟩
  | succ f ih =>
    intro d c i hd h
    cases d with
    | zero => exact ⟨[], Or.inl ⟨rfl, h, rfl⟩⟩
    | succ d =>
      obtain ⟨c0, h1⟩ := h
      rw [show c - 1 + a i = a i + (c - 1) by omega] at h1
      obtain ⟨d1, d2, e, h2, h3⟩ := bz_Sc.split ha (ha i) (by omega) h1
      obtain ⟨L1, l1⟩ := ih d1 (a i) (i + 1) (by omega) h2
      obtain ⟨L2, l2⟩ := ih d2 (c - 1) (i + 1 + d1) (by omega) h3
      exact ⟨L1 ++ i :: L2, Or.inr ⟨c0, d1, d2, L1, L2, by omega, l1, l2, rfl⟩⟩
theorem sz_PO.len {a : Int → Int} : ∀ {f d : Nat} {c i : Int} {L : List Int}, sz_PO a f d c i L → L.length = d ∧ (0 ≤ c → c = 0 → d = 0) ∧ (0 < c → 0 < d) ∧ 0 ≤ c := by
  intro f
  induction f with
  | zero =>
    rintro d c i L ⟨rfl, rfl, rfl⟩
    exact ⟨rfl, fun _ _ => rfl, fun q => by omega, by omega⟩
  | succ f ih =>
    intro d c i L h
    rcases h with ⟨rfl, rfl, rfl⟩ | ⟨c0, d1, d2, L1, L2, e, h1, h2, rfl⟩
    · exact ⟨rfl, fun _ _ => rfl, fun q => by omega, by omega⟩
    · refine ⟨?_, fun _ q => by omega, fun _ => by omega, by omega⟩
      rw [List.length_append, List.length_cons, (ih h1).1, (ih h2).1]
      omega
def sz_S (a k : Int) : Prop := a = 249 ∨ a = 250 ∨ a = 251
theorem sz_fix {k : Int} : bz_isFix 249 k = false ∧ bz_isFix 250 k = false ∧ bz_isFix 251 k = false := by
  refine ⟨?_, ?_, ?_⟩ <;> (unfold bz_isFix; simp [bz_cap, bz_fixL, bz_rowsL])
/-- one place is met: its frame is laid -/
theorem sz_push {σ : az_Hp} {c v i n : Int} (hF : bz_Fx σ) (hr : bz_rw σ 244) (hn : σ.2 244 1 = n) (i0 : 0 ≤ i) (i1 : i < n) (v0 : 0 ≤ v) (v1 : v ≤ i) (K : Nat) : fz_X5_orderPlaces_7 2000000 (K + 1) σ 243 0 c v i = fz_X5_orderPlaces_71 2000000 (fz_X5_orderPlaces_7 2000000 K) 2000000 (az_wr (az_wr σ 250 v i) 251 v (bz_ra σ 244 i)) 243 0 c (v + 1) i v := by
  have f := bz_fxR hF hr.1
  have n60 : n ≤ 60 := by have := hr.2.2.1; have c60 := @bz_cap60 244; omega
  have l245 : az_ln σ 245 = 60 := f.2.trans (by decide)
  have l250 := ln_250 hF
  have l251 := ln_251 hF
  have g : az_gref σ 244 0 = some 245 := bz_gr f.1 (by omega)
  have u1 : bz_Upd σ (az_wr σ 250 v i) sz_S := bz_Upd.wr bz_Upd.refl (Or.inr (Or.inl rfl)) sz_fix.2.1
  have g' : az_gref (az_wr σ 250 v i) 244 0 = some 245 := by rw [bz_gref_wr (by omega)]; exact g
  have rd : az_ard (az_wr σ 250 v i) 245 i = some (σ.2 245 i) := by
    rw [bz_ard i0 (by rw [bz_ln_wr]; omega), az_wr_ne (by omega)]
  have I : bz_I (σ.2 245 i) := hr.2.2.2 i i0 (by omega)
  conv => lhs; unfold fz_X5_orderPlaces_7
  rw [fx_243_3 hF, Option.bind_some, if_pos (by omega), if_neg (by decide), fx_243_13 hF, Option.bind_some, bz_awr v0 (by omega), Option.bind_some, fx_243_14 (hF.upd u1), Option.bind_some, fx_243_3 (hF.upd u1), Option.bind_some, g', Option.bind_some, rd, Option.bind_some, bz_arity I, Option.bind_some, bz_awr v0 (by rw [bz_ln_wr]; omega), Option.bind_some, az_w32_id (z := v + 1) (by omega) (by omega), az_w32_id (by omega) (by omega), show v + 1 - 1 = v by omega]
  rfl
/-- what holds no more that is open is done -/
theorem sz_pop {σ : az_Hp} {c v i p : Int} (hF : bz_Fx σ) (hm : σ.2 251 v = 0) (hp : σ.2 250 v = p) (v1 : v < 60) (c0 : 0 ≤ c) (c1 : c < 60) {k7 : az_Hp → Int → Int → Int → Int → Int → Option az_Hp} (m : Nat) {D : Int} :
    (0 < v → -1000 ≤ σ.2 251 (v - 1) → σ.2 251 (v - 1) ≤ 1000 → fz_X5_orderPlaces_71 2000000 k7 (m + 1) σ 243 0 c D i v = fz_X5_orderPlaces_71 2000000 k7 m (az_wr (az_wr σ 249 c p) 251 (v - 1) (σ.2 251 (v - 1) - 1)) 243 0 (c + 1) v i (v - 1)) ∧
    (v = 0 → fz_X5_orderPlaces_71 2000000 k7 (m + 1) σ 243 0 c D i v = fz_X5_orderPlaces_71 2000000 k7 m (az_wr σ 249 c p) 243 0 (c + 1) v i (v - 1)) := by
  have l249 := ln_249 hF
  have l250 := ln_250 hF
  have l251 := ln_251 hF
  have u1 : bz_Upd σ (az_wr σ 249 c p) sz_S := bz_Upd.wr bz_Upd.refl (Or.inl rfl) sz_fix.1
  constructor
  · intro v0 m0 m1
    conv => lhs; unfold fz_X5_orderPlaces_71
    rw [if_neg (by omega), fx_243_14 hF, Option.bind_some, bz_ard (by omega) (by omega), Option.bind_some, if_pos hm, fx_243_12 hF, Option.bind_some, fx_243_13 hF, Option.bind_some, bz_ard (by omega) (by omega), Option.bind_some, hp, bz_awr c0 (by omega), Option.bind_some, if_pos v0, fx_243_14 (hF.upd u1), Option.bind_some, az_w32_id (z := v - 1) (by omega) (by omega), bz_ard (by omega) (by rw [bz_ln_wr]; omega), Option.bind_some, az_wr_ne (by omega), bz_awr (by omega) (by rw [bz_ln_wr]; omega), Option.bind_some, az_w32_id (z := c + 1) (by omega) (by omega), az_w32_id (z := σ.2 251 (v - 1) - 1) (by omega) (by omega), az_w32_id (z := v + -1) (by omega) (by omega), show v + -1 = v - 1 by omega]
  · intro v0
    conv => lhs; unfold fz_X5_orderPlaces_71
    rw [if_neg (by omega), fx_243_14 hF, Option.bind_some, bz_ard (by omega) (by omega), Option.bind_some, if_pos hm, fx_243_12 hF, Option.bind_some, fx_243_13 hF, Option.bind_some, bz_ard (by omega) (by omega), Option.bind_some, hp, bz_awr c0 (by omega), Option.bind_some, if_neg (by omega), az_w32_id (z := c + 1) (by omega) (by omega), az_w32_id (z := v + -1) (by omega) (by omega), show v + -1 = v - 1 by omega]
/-- what is still open waits -/
theorem sz_wait {σ : az_Hp} {c v i : Int} (hF : bz_Fx σ) (hm : σ.2 251 v ≠ 0) (v0 : 0 ≤ v) (v1 : v < 60) (i0 : 0 ≤ i) (i1 : i < 60) {k7 : az_Hp → Int → Int → Int → Int → Int → Option az_Hp} (m : Nat) {D : Int} : fz_X5_orderPlaces_71 2000000 k7 (m + 1) σ 243 0 c D i v = k7 σ 243 0 c D (i + 1) := by
  have l251 := ln_251 hF
  unfold fz_X5_orderPlaces_71
  rw [if_neg (by omega), fx_243_14 hF, Option.bind_some, bz_ard (by omega) (by omega), Option.bind_some, if_neg hm, az_w32_id (by omega) (by omega)]
