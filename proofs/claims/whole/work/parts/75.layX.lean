/-! laying a TERM out in the class: one step of the loop -/
def lz_LK (σ σ' : az_Hp) (S : Int → Int → Prop) : Prop := bz_Upd σ σ' S
def lz_S (a k : Int) : Prop := (a = 231 ∧ k = 0) ∨ (232 ≤ a ∧ a ≤ 235) ∨ a = 238 ∨ a = 240 ∨ a = 241
theorem lz_nfix {a k : Int} (h : lz_S a k) : bz_isFix a k = false := by
  have key : ∀ a : Int, a = 232 ∨ a = 233 ∨ a = 234 ∨ a = 235 ∨ a = 238 ∨ a = 240 ∨ a = 241 → bz_isFix a k = false := by
    intro a ha
    rcases ha with rfl | rfl | rfl | rfl | rfl | rfl | rfl <;> (unfold bz_isFix; simp [bz_cap, bz_fixL, bz_rowsL])
  rcases h with ⟨rfl, rfl⟩ | h | h | h | h
  · decide
  · exact key a (by omega)
  · exact key a (by omega)
  · exact key a (by omega)
  · exact key a (by omega)
/-- frames: those from D on are full, the one below isn't -/
def lz_FR (σ : az_Hp) (c dep D : Int) : Prop := 0 ≤ D ∧ D ≤ dep ∧ dep ≤ 110 ∧ (∀ j, D ≤ j → j < dep → dz_In c (σ.2 240 j) ∧ bz_ar (σ.2 232 (σ.2 240 j)) ≤ σ.2 241 j) ∧ (0 < D → dz_In c (σ.2 240 (D - 1)) ∧ 0 ≤ σ.2 241 (D - 1) ∧ σ.2 241 (D - 1) < bz_ar (σ.2 232 (σ.2 240 (D - 1))))
section LZ
variable {n : Nat} {k16 : az_Hp → Int → Int → Int → Int → Int → Int → Int → Int → Int → Option (Int × az_Hp)} {r st who fl en : Int}
/-- full frames go -/
theorem lz_pop {σ : az_Hp} {c D v6 i code hide var ν : Int} (hF : bz_Fx σ) (hc : c ≤ 120) (hI : ∀ m, dz_In c m → bz_I (σ.2 232 m)) : ∀ (e k : Nat) (dep : Int), e < k → dep = D + e → lz_FR σ c dep D → fz_X0_lay_255 n k16 k σ 231 r st who fl en v6 dep i code hide var ν (dep - 1) = fz_X0_lay_295 n k16 σ 231 r st who fl en v6 D i code hide var ν := by
  have g10 := fx_231_10 hF
  have g1 := fx_231_1 hF
  have g9 := fx_231_9 hF
  have l10 := ln_241 hF
  have l1 := ln_232 hF
  have l9 := ln_240 hF
  intro e
  induction e with
  | zero =>
    intro k dep hk hd hR
    obtain ⟨k, rfl⟩ : ∃ k', k = k' + 1 := ⟨k - 1, by omega⟩
    obtain ⟨h1, h2, h3, h4, h5⟩ := hR
    have ed : dep = D := by omega
    subst ed
    conv => lhs; unfold fz_X0_lay_255
    by_cases hz : 0 < dep
    · obtain ⟨q1, q2, q3⟩ := h5 hz
      have p0 := q1.1
      have p1 := q1.2
      rw [if_neg (by omega), g10, Option.bind_some, bz_ard (by omega) (by omega), Option.bind_some, g1, Option.bind_some, g9, Option.bind_some, bz_ard (by omega) (by omega), Option.bind_some, bz_ard p0 (by omega), Option.bind_some, bz_arity (hI _ q1), Option.bind_some, if_pos q3]
    · rw [if_pos (by omega)]
  | succ e ih =>
    intro k dep hk hd hR
    obtain ⟨k, rfl⟩ : ∃ k', k = k' + 1 := ⟨k - 1, by omega⟩
    have hR0 := hR
    obtain ⟨h1, h2, h3, h4, h5⟩ := hR
    obtain ⟨q1, q2⟩ := h4 (dep - 1) (by omega) (by omega)
    have p0 := q1.1
    have p1 := q1.2
    have := ih k (dep - 1) (by omega) (by omega) ⟨h1, by omega, by omega, fun j j0 j1 => h4 j j0 (by omega), h5⟩
    rw [← this]
    conv => lhs; unfold fz_X0_lay_255
    rw [if_neg (by omega), g10, Option.bind_some, bz_ard (by omega) (by omega), Option.bind_some, g1, Option.bind_some, g9, Option.bind_some, bz_ard (by omega) (by omega), Option.bind_some, bz_ard p0 (by omega), Option.bind_some, bz_arity (hI _ q1), Option.bind_some, if_neg (by omega), az_w32_id (by omega) (by omega)]
    rfl
/-- a node comes under the frame above it -/
def lz_att (σ : az_Hp) (D ν : Int) : az_Hp := if 0 < D then az_wr (az_wr σ 238 (3 * σ.2 240 (D - 1) + σ.2 241 (D - 1)) ν) 241 (D - 1) (σ.2 241 (D - 1) + 1) else σ
theorem lz_att_upd {σ : az_Hp} {D ν : Int} : bz_Upd σ (lz_att σ D ν) lz_S := by
  unfold lz_att
  split
  · refine bz_Upd.wr (bz_Upd.wr bz_Upd.refl ?_ ?_) ?_ ?_
    · unfold lz_S; omega
    · exact lz_nfix (by unfold lz_S; omega)
    · unfold lz_S; omega
    · exact lz_nfix (by unfold lz_S; omega)
  · exact bz_Upd.refl
theorem lz_attach {σ : az_Hp} {c D dep v6 i code hide var ν : Int} (hF : bz_Fx σ) (hc : c ≤ 120) (hR : lz_FR σ c dep D) : fz_X0_lay_295 n k16 σ 231 r st who fl en v6 D i code hide var ν = fz_X0_lay_348 n k16 (lz_att σ D ν) 231 r st who fl en (if 0 < D then v6 else ν) D i code hide var ν := by
  have g10 := fx_231_10 hF
  have g7 := fx_231_7 hF
  have g9 := fx_231_9 hF
  have l10 := ln_241 hF
  have l7 := ln_238 hF
  have l9 := ln_240 hF
  obtain ⟨h1, h2, h3, h4, h5⟩ := hR
  unfold fz_X0_lay_295 lz_att
  by_cases hz : 0 < D
  · obtain ⟨q1, q2, q3⟩ := h5 hz
    have p0 := q1.1
    have p1 := q1.2
    have ar3 := (@bz_ar_rng (σ.2 232 (σ.2 240 (D - 1)))).2
    rw [if_pos hz, if_pos hz, if_pos hz, g7, Option.bind_some, g9, Option.bind_some, az_w32_id (z := D - 1) (by omega) (by omega), bz_ard (by omega) (by omega), Option.bind_some, g10, Option.bind_some, bz_ard (by omega) (by omega), Option.bind_some, az_w32_id (z := σ.2 240 (D - 1) * 3) (by omega) (by omega), az_w32_id (z := σ.2 240 (D - 1) * 3 + σ.2 241 (D - 1)) (by omega) (by omega), bz_awr (by omega) (by omega), Option.bind_some, bz_gref_wr (by omega), g10, Option.bind_some, bz_ard (by omega) (by rw [bz_ln_wr]; omega), Option.bind_some, az_wr_ne (by omega), az_w32_id (by omega) (by omega), bz_awr (by omega) (by rw [bz_ln_wr]; omega), Option.bind_some, show σ.2 240 (D - 1) * 3 = 3 * σ.2 240 (D - 1) by omega]
  · rw [if_neg hz, if_neg hz, if_neg hz]
/-- a new frame -/
def lz_frm (σ : az_Hp) (D ν a : Int) : az_Hp := if 0 < a then az_wr (az_wr σ 240 D ν) 241 D 0 else σ
theorem lz_frm_upd {σ : az_Hp} {D ν a : Int} : bz_Upd σ (lz_frm σ D ν a) lz_S := by
  unfold lz_frm
  split
  · refine bz_Upd.wr (bz_Upd.wr bz_Upd.refl ?_ ?_) ?_ ?_
    · unfold lz_S; omega
    · exact lz_nfix (by unfold lz_S; omega)
    · unfold lz_S; omega
    · exact lz_nfix (by unfold lz_S; omega)
  · exact bz_Upd.refl
theorem lz_frame {σ : az_Hp} {D v6 i code ν : Int} (hF : bz_Fx σ) (h0 : 0 ≤ D) (h1 : D ≤ 110) (hc : bz_I code) : fz_X0_lay_348 n k16 σ 231 r st who fl en v6 D i code 0 0 ν = k16 (lz_frm σ D ν (bz_ar code)) 231 r st who fl en v6 (if 0 < bz_ar code then D + 1 else D) (az_w32 (i + 1)) := by
  have g10 := fx_231_10 hF
  have g9 := fx_231_9 hF
  have l10 := ln_241 hF
  have l9 := ln_240 hF
  unfold fz_X0_lay_348 lz_frm fz_X0_lay_389
  rw [if_pos rfl, bz_arity hc, Option.bind_some]
  by_cases hz : 0 < bz_ar code
  · rw [if_pos hz, if_pos hz, if_pos hz, if_pos (by omega), g9, Option.bind_some, bz_awr h0 (by omega), Option.bind_some, bz_gref_wr (by omega), g10, Option.bind_some, bz_awr h0 (by rw [bz_ln_wr]; omega), Option.bind_some, if_pos rfl, az_w32_id (z := D + 1) (by omega) (by omega)]
  · rw [if_neg hz, if_neg hz, if_neg hz, if_pos rfl]
theorem lz_noframe {σ : az_Hp} {D v6 i code ν : Int} : fz_X0_lay_348 n k16 σ 231 r st who fl en v6 D i code 0 1 ν = k16 σ 231 r st who fl en v6 D (az_w32 (i + 1)) := by
  unfold fz_X0_lay_348 fz_X0_lay_389
  rw [if_neg (by decide), if_pos rfl]
theorem lz_noframeH {σ : az_Hp} {D v6 i code ν e : Int} (he : fz_X7_end n σ r i = some e) (hi : az_w32 (i + 1) ≤ e) : fz_X0_lay_348 n k16 σ 231 r st who fl en v6 D i code 1 1 ν = k16 σ 231 r st who fl en v6 D e := by
  unfold fz_X0_lay_348 fz_X0_lay_389
  rw [if_neg (by decide), if_neg (by decide), he, Option.bind_some, if_neg (by omega)]
/-- a new node -/
def lz_new (σ : az_Hp) (who i sign : Int) : az_Hp := az_wr (az_wr (az_wr (az_wr (az_wr σ 231 0 (σ.2 231 0 + 1)) 232 (σ.2 231 0) sign) 233 (σ.2 231 0) who) 234 (σ.2 231 0) i) 235 (σ.2 231 0) (σ.2 231 0)
theorem lz_new_upd {σ : az_Hp} {i sign : Int} : bz_Upd σ (lz_new σ who i sign) lz_S := by
  unfold lz_new
  refine bz_Upd.wr (bz_Upd.wr (bz_Upd.wr (bz_Upd.wr (bz_Upd.wr bz_Upd.refl ?_ ?_) ?_ ?_) ?_ ?_) ?_ ?_) ?_ ?_
  all_goals first | (unfold lz_S; omega) | exact lz_nfix (by unfold lz_S; omega)
theorem lz_alloc {σ : az_Hp} {v6 dep i code hide var sign : Int} (hF : bz_Fx σ) (hc : 0 ≤ σ.2 231 0) (hc1 : σ.2 231 0 < 120) (hd : 0 ≤ dep) (hd1 : dep ≤ 110) : fz_X0_lay_180 n k16 σ 231 r st who fl en v6 dep i code hide var sign (-1) = fz_X0_lay_255 n k16 n (lz_new σ who i sign) 231 r st who fl en v6 dep i code hide var (σ.2 231 0) (dep - 1) := by
  have g1 := fx_231_1 hF
  have g2 := fx_231_2 hF
  have g3 := fx_231_3 hF
  have g4 := fx_231_4 hF
  have l1 := ln_232 hF
  have l2 := ln_233 hF
  have l3 := ln_234 hF
  have l4 := ln_235 hF
  unfold fz_X0_lay_180 lz_new
  rw [if_pos rfl, if_pos (by omega), az_w32_id (z := σ.2 231 0 + 1) (by omega) (by omega), bz_gref_wr (by omega), g1, Option.bind_some, bz_awr hc (by rw [bz_ln_wr]; omega), Option.bind_some, bz_gref_wr (by omega), bz_gref_wr (by omega), g2, Option.bind_some, bz_awr hc (by rw [bz_ln_wr, bz_ln_wr]; omega), Option.bind_some, bz_gref_wr (by omega), bz_gref_wr (by omega), bz_gref_wr (by omega), g3, Option.bind_some, bz_awr hc (by rw [bz_ln_wr, bz_ln_wr, bz_ln_wr]; omega), Option.bind_some, bz_gref_wr (by omega), bz_gref_wr (by omega), bz_gref_wr (by omega), bz_gref_wr (by omega), g4, Option.bind_some, bz_awr hc (by rw [bz_ln_wr, bz_ln_wr, bz_ln_wr, bz_ln_wr]; omega), Option.bind_some, az_w32_id (by omega) (by omega)]
theorem lz_old {σ : az_Hp} {v6 dep i code hide var sign ν : Int} (hν : 0 ≤ ν) (hd : 0 ≤ dep) (hd1 : dep ≤ 110) : fz_X0_lay_180 n k16 σ 231 r st who fl en v6 dep i code hide var sign ν = fz_X0_lay_255 n k16 n σ 231 r st who fl en v6 dep i code hide var ν (dep - 1) := by
  unfold fz_X0_lay_180
  rw [if_neg (by omega), az_w32_id (by omega) (by omega)]
/-- the search for a node that is there already; M: what it must be -/
theorem lz_srch {σ : az_Hp} {v6 dep i code hide sign : Int} {M : Int → Prop} (hF : bz_Fx σ) (hn : n = 2000000) (hh : hide = 0 ∨ hide = 1) (hc0 : 0 ≤ σ.2 231 0) (hc : σ.2 231 0 ≤ 120)
    (hM : ∀ m, dz_In (σ.2 231 0) m → (M m → σ.2 233 m = who ∧ σ.2 232 m = sign ∧ (hide = 1 → fz_X7_samePart n σ r (σ.2 234 m) r i = some 1)) ∧ (¬ M m → σ.2 233 m = who → σ.2 232 m = sign → hide = 1 ∧ fz_X7_samePart n σ r (σ.2 234 m) r i = some 0)) :
    ∀ (d k : Nat) (j : Int), d + 1 < k → 0 ≤ j → j + d = σ.2 231 0 → (∀ m, 0 ≤ m → m < j → ¬ M m) →
      (fz_X0_lay_105 n k16 k σ 231 r st who fl en v6 dep i code hide 1 sign (-1) j = fz_X0_lay_180 n k16 σ 231 r st who fl en v6 dep i code hide 1 sign (-1) ∧ ∀ m, dz_In (σ.2 231 0) m → ¬ M m) ∨
      (∃ ν, dz_In (σ.2 231 0) ν ∧ M ν ∧ (∀ m, 0 ≤ m → m < ν → ¬ M m) ∧ fz_X0_lay_105 n k16 k σ 231 r st who fl en v6 dep i code hide 1 sign (-1) j = fz_X0_lay_180 n k16 σ 231 r st who fl en v6 dep i code hide 1 sign ν) := by
  have g1 := fx_231_1 hF
  have g2 := fx_231_2 hF
  have g3 := fx_231_3 hF
  have l1 := ln_232 hF
  have l2 := ln_233 hF
  have l3 := ln_234 hF
  intro d
  induction d with
  | zero =>
    intro k j hk j0 hj hno
    obtain ⟨k, rfl⟩ : ∃ k', k = k' + 1 := ⟨k - 1, by omega⟩
    refine Or.inl ⟨?_, fun m hm => hno m hm.1 (by have := hm.2; omega)⟩
    conv => lhs; unfold fz_X0_lay_105
    rw [if_neg (by decide), if_neg (by omega)]
  | succ d ih =>
    intro k j hk j0 hj hno
    obtain ⟨k, rfl⟩ : ∃ k', k = k' + 1 := ⟨k - 1, by omega⟩
    have jj : dz_In (σ.2 231 0) j := ⟨j0, by omega⟩
    obtain ⟨m1, m2⟩ := hM j jj
    have r1 : az_ard σ 232 j = some (σ.2 232 j) := bz_ard j0 (by omega)
    have r2 : az_ard σ 233 j = some (σ.2 233 j) := bz_ard j0 (by omega)
    have r3 : az_ard σ 234 j = some (σ.2 234 j) := bz_ard j0 (by omega)
    have w1 : az_w32 (j + 1) = j + 1 := az_w32_id (by omega) (by omega)
    have nx : fz_X0_lay_105 n k16 k σ 231 r st who fl en v6 dep i code hide 1 sign j (j + 1) = fz_X0_lay_180 n k16 σ 231 r st who fl en v6 dep i code hide 1 sign j := by
      obtain ⟨k, rfl⟩ : ∃ k', k = k' + 1 := ⟨k - 1, by omega⟩
      conv => lhs; unfold fz_X0_lay_105
      rw [if_neg (by decide)]
      by_cases q : j + 1 < σ.2 231 0
      · rw [if_pos q, if_neg (by omega)]
      · rw [if_neg q]
    by_cases hm : M j
    · obtain ⟨e1, e2, e3⟩ := m1 hm
      refine Or.inr ⟨j, jj, hm, hno, ?_⟩
      conv => lhs; unfold fz_X0_lay_105
      rw [if_neg (by decide), if_pos (by omega), if_pos rfl]
      simp only [g1, g2, g3, r1, r2, r3, w1, Option.bind_some]
      rw [if_pos e1, if_pos e2]
      rcases hh with rfl | rfl
      · rw [if_pos rfl, nx]
      · rw [if_neg (by decide), e3 rfl, Option.bind_some, if_neg (by decide), nx]
    · have hno' : ∀ m, 0 ≤ m → m < j + 1 → ¬ M m := fun m m0 m1 => by
        by_cases e : m = j
        · rw [e]; exact hm
        · exact hno m m0 (by omega)
      have step : fz_X0_lay_105 n k16 (k + 1) σ 231 r st who fl en v6 dep i code hide 1 sign (-1) j = fz_X0_lay_105 n k16 k σ 231 r st who fl en v6 dep i code hide 1 sign (-1) (j + 1) := by
        conv => lhs; unfold fz_X0_lay_105
        rw [if_neg (by decide), if_pos (by omega), if_pos rfl]
        simp only [g1, g2, g3, r1, r2, r3, w1, Option.bind_some]
        by_cases e1 : σ.2 233 j = who
        · rw [if_pos e1]
          by_cases e2 : σ.2 232 j = sign
          · obtain ⟨e3, e4⟩ := m2 hm e1 e2
            rw [if_pos e2, e3, if_neg (by decide), e4, Option.bind_some, if_pos rfl]
          · rw [if_neg e2]
        · rw [if_neg e1]
      rw [step]
      exact ih k (j + 1) (by omega) (by omega) (by omega) hno'
/-- the head of the loop -/
theorem lz_head {σ : az_Hp} {v6 dep i : Int} {k : Nat} (hF : bz_Fx σ) (hr : bz_rw σ r) (hi0 : 0 ≤ i) (hi : i < σ.2 r 1) (hie : i < en) (hfl : fl = 0 ∨ fl = 1) (hn : n = 2000000) :
    (fl = 1 ∧ st < i ∧ bz_kd (σ.2 (r + 1) i) = 2 → fz_X0_lay_16 n (k + 1) σ 231 r st who fl en v6 dep i = fz_X0_lay_105 n (fz_X0_lay_16 n k) n σ 231 r st who fl en v6 dep i (σ.2 (r + 1) i) 1 1 (-1000000000) (-1) 0) ∧
    (¬ (fl = 1 ∧ st < i ∧ bz_kd (σ.2 (r + 1) i) = 2) → ez_iX (σ.2 (r + 1) i) → fz_X0_lay_16 n (k + 1) σ 231 r st who fl en v6 dep i = fz_X0_lay_105 n (fz_X0_lay_16 n k) n σ 231 r st who fl en v6 dep i (σ.2 (r + 1) i) 0 1 (σ.2 (r + 1) i) (-1) 0) ∧
    (¬ (fl = 1 ∧ st < i ∧ bz_kd (σ.2 (r + 1) i) = 2) → ¬ ez_iX (σ.2 (r + 1) i) → fz_X0_lay_16 n (k + 1) σ 231 r st who fl en v6 dep i = fz_X0_lay_180 n (fz_X0_lay_16 n k) σ 231 r st who fl en v6 dep i (σ.2 (r + 1) i) 0 0 (σ.2 (r + 1) i) (-1)) := by
  have hc := hr.2.2.2 i hi0 hi
  have hx := bz_fxR hF hr.1
  have cp := bz_cap_lt hr.1
  have hsz := hr.2.2.1
  have gr : az_gref σ r 0 = some (r + 1) := bz_gr hx.1 (by omega)
  have ar : az_ard σ (r + 1) i = some (σ.2 (r + 1) i) := bz_ard hi0 (by omega)
  have kdq := bz_kind (σ := σ) hc
  have st1 : ∀ w0 : Int, fz_X0_lay_57 n (fz_X0_lay_16 n k) σ 231 r st who fl en v6 dep i (σ.2 (r + 1) i) 0 = (if σ.2 (r + 1) i < 0 ∨ σ.2 (r + 1) i % 4 = 3 then fz_X0_lay_83 n (fz_X0_lay_16 n k) σ 231 r st who fl en v6 dep i (σ.2 (r + 1) i) 0 1 else fz_X0_lay_83 n (fz_X0_lay_16 n k) σ 231 r st who fl en v6 dep i (σ.2 (r + 1) i) 0 0) := by
    intro w0
    unfold fz_X0_lay_57
    rw [if_pos rfl]
    by_cases q : σ.2 (r + 1) i < 0
    · rw [if_pos q, if_pos (Or.inl q)]
    · rw [if_neg q, kdq, Option.bind_some]
      have ek : bz_kd (σ.2 (r + 1) i) = σ.2 (r + 1) i % 4 := if_neg q
      rw [ek]
      by_cases q3 : σ.2 (r + 1) i % 4 = 3
      · rw [if_pos q3, if_pos (Or.inr q3)]
      · rw [if_neg q3, if_neg (by omega)]
  have hd : fz_X0_lay_16 n (k + 1) σ 231 r st who fl en v6 dep i = (if fl = 1 ∧ st < i ∧ bz_kd (σ.2 (r + 1) i) = 2 then fz_X0_lay_57 n (fz_X0_lay_16 n k) σ 231 r st who fl en v6 dep i (σ.2 (r + 1) i) 1 else fz_X0_lay_57 n (fz_X0_lay_16 n k) σ 231 r st who fl en v6 dep i (σ.2 (r + 1) i) 0) := by
    conv => lhs; unfold fz_X0_lay_16
    rw [if_pos hie, gr, Option.bind_some, ar, Option.bind_some]
    rcases hfl with rfl | rfl
    · rw [if_pos rfl, if_neg (by omega)]
    · rw [if_neg (by decide)]
      by_cases q : st < i
      · rw [if_pos q, kdq, Option.bind_some]
        by_cases q2 : bz_kd (σ.2 (r + 1) i) = 2
        · rw [if_pos q2, if_pos ⟨rfl, q, q2⟩]
        · rw [if_neg q2, if_neg (fun h => q2 h.2.2)]
      · rw [if_neg q, if_neg (fun h => q h.2.1)]
  refine ⟨fun h => ?_, fun h hv => ?_, fun h hv => ?_⟩
  · rw [hd, if_pos h]
    unfold fz_X0_lay_57 fz_X0_lay_83
    rw [if_neg (by decide), if_neg (by decide)]
  · unfold ez_iX at hv
    rw [hd, if_neg h, st1 0, if_pos hv]
    unfold fz_X0_lay_83
    rw [if_pos rfl]
  · unfold ez_iX at hv
    rw [hd, if_neg h, st1 0, if_neg hv]
    unfold fz_X0_lay_83
    rw [if_pos rfl]
    subst hn
    show fz_X0_lay_105 2000000 (fz_X0_lay_16 2000000 k) (1999999 + 1) σ 231 r st who fl en v6 dep i (σ.2 (r + 1) i) 0 0 (σ.2 (r + 1) i) (-1) 0 = _
    conv => lhs; unfold fz_X0_lay_105
    rw [if_pos rfl]
end LZ
