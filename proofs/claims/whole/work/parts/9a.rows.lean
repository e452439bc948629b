/-! rows of the class: what is added to them -/
def yz_chk (r : Int) : Bool := !decide (0 < bz_cap r) || (!bz_isFix r 1 && !decide (0 < bz_cap (r + 1)) && !bz_fixL.any (fun p => decide (p.1 = r + 1)) && !bz_rowsL.any (fun p => decide (p.1 = r + 1)))
theorem yz_chk0 : (List.range 900).all (fun r => yz_chk (r : Int)) = true := by decide +kernel
theorem yz_free {r : Int} (h : 0 < bz_cap r) : bz_isFix r 1 = false ∧ ∀ k, bz_isFix (r + 1) k = false := by
  have hb := bz_cap_lt h
  have q := List.all_eq_true.mp yz_chk0 r.toNat (List.mem_range.mpr (by omega))
  rw [show ((r.toNat : Nat) : Int) = r by omega] at q
  unfold yz_chk at q
  simp only [h, decide_true, Bool.not_true, Bool.false_or, Bool.and_eq_true, Bool.not_eq_true'] at q
  obtain ⟨⟨⟨q1, q2⟩, q3⟩, q4⟩ := q
  refine ⟨q1, fun k => ?_⟩
  unfold bz_isFix
  have e3 : bz_fixL.any (fun p => decide (p.1 = r + 1) && decide (p.2.1 = k)) = false := by
    rw [List.any_eq_false] at q3 ⊢
    intro p hp
    have := q3 p hp
    simp only [decide_eq_true_eq] at this
    simp [this]
  rw [q2, e3, q4]
  rfl
theorem yz_odd {r q : Int} (h : 0 < bz_cap r) (h' : 0 < bz_cap q) : q + 1 ≠ r := by
  intro e
  have hb := bz_cap_lt h'
  have c := List.all_eq_true.mp yz_chk0 q.toNat (List.mem_range.mpr (by omega))
  rw [show ((q.toNat : Nat) : Int) = q by omega] at c
  unfold yz_chk at c
  rw [e] at c
  simp [h, h'] at c
/-- the places of a row -/
def yz_S (r : Int) (a k : Int) : Prop := (a = r ∧ k = 1) ∨ a = r + 1
theorem yz_cpy {σ : az_Hp} {r q a m n : Int} (hr : 0 < bz_cap r) : bz_Upd σ (az_cpyV σ (q + 1) a (r + 1) m n) (yz_S r) := by
  refine ⟨rfl, fun b k hb => ?_, fun b k hb => ?_⟩
  · simp only [az_cpyV]
    rw [if_neg]
    rintro ⟨e, -⟩
    rw [e, (yz_free hr).2 k] at hb
    cases hb
  · simp only [az_cpyV]
    rw [if_neg]
    rintro ⟨e, -⟩
    exact hb (Or.inr e)
theorem yz_addPart {σ : az_Hp} {r q a b : Int} (hF : bz_Fx σ) (hr : 0 < bz_cap r) (hq : 0 < bz_cap q) (hne : r ≠ q) (r0 : 0 ≤ σ.2 r 1) (r1 : σ.2 r 1 ≤ bz_cap r) (q1 : σ.2 q 1 ≤ bz_cap q) (a0 : 0 ≤ a) (ab : a ≤ b) (b1 : b ≤ σ.2 q 1) :
    (σ.2 r 1 + (b - a) ≤ bz_cap r → ∃ σ', fz_X7_addPart σ r q a b = some (1, σ') ∧ bz_Upd σ σ' (yz_S r) ∧ σ'.2 r 1 = σ.2 r 1 + (b - a) ∧ (∀ i, i < σ.2 r 1 → σ'.2 (r + 1) i = σ.2 (r + 1) i) ∧ ∀ i, 0 ≤ i → i < b - a → σ'.2 (r + 1) (σ.2 r 1 + i) = σ.2 (q + 1) (a + i)) ∧
    (bz_cap r < σ.2 r 1 + (b - a) → fz_X7_addPart σ r q a b = some (0, σ)) := by
  have f1 := bz_fxR hF hr
  have f2 := bz_fxR hF hq
  have b1' := bz_cap_lt hr
  have b2' := bz_cap_lt hq
  have c1 := @bz_cap60 r
  have c2 := @bz_cap60 q
  have g1 : az_gref σ r 0 = some (r + 1) := bz_gr f1.1 (by omega)
  have g2 : az_gref σ q 0 = some (q + 1) := bz_gr f2.1 (by omega)
  have w1 : az_w32 (b - a) = b - a := az_w32_id (by omega) (by omega)
  have w2 : az_w32 (σ.2 r 1 + (b - a)) = σ.2 r 1 + (b - a) := az_w32_id (by omega) (by omega)
  constructor
  · intro hle
    have u := yz_cpy (σ := σ) (q := q) (a := a) (m := σ.2 r 1) (n := b - a) hr
    have s1 : (az_cpyV σ (q + 1) a (r + 1) (σ.2 r 1) (b - a)).2 r 1 = σ.2 r 1 := by
      simp only [az_cpyV]
      rw [if_neg (by omega)]
    refine ⟨az_wr (az_cpyV σ (q + 1) a (r + 1) (σ.2 r 1) (b - a)) r 1 (σ.2 r 1 + (b - a)), ?_, bz_Upd.wr u (Or.inl ⟨rfl, rfl⟩) (yz_free hr).1, az_wr_same, fun i hi => ?_, fun i i0 i1 => ?_⟩
    · unfold fz_X7_addPart az_cpy
      rw [if_neg (by omega), w1, if_neg (by omega), if_neg (by omega), g1, Option.bind_some, w2, if_neg (by omega), g2, Option.bind_some, Option.bind_some, if_pos (by refine ⟨by omega, a0, r0, by omega, by omega, by omega⟩), Option.bind_some, s1, w2]
    · rw [az_wr_ne (by omega)]
      simp only [az_cpyV]
      rw [if_neg (by omega)]
    · rw [az_wr_ne (by omega)]
      simp only [az_cpyV]
      rw [if_pos ⟨trivial, by omega, by omega⟩, show a + (σ.2 r 1 + i - σ.2 r 1) = a + i by omega]
  · intro hlt
    unfold fz_X7_addPart
    rw [if_neg (by omega), w1, if_neg (by omega), if_neg (by omega), g1, Option.bind_some, w2, if_pos (by omega)]
theorem yz_take {σ : az_Hp} {r q : Int} (hF : bz_Fx σ) (hr : 0 < bz_cap r) (hq : 0 < bz_cap q) (hne : r ≠ q) (q0 : 0 ≤ σ.2 q 1) (q1 : σ.2 q 1 ≤ bz_cap q) (q2 : σ.2 q 1 ≤ bz_cap r) : ∃ σ', fz_X7_take σ r q = some σ' ∧ bz_Upd σ σ' (yz_S r) ∧ σ'.2 r 1 = σ.2 q 1 ∧ ∀ i, 0 ≤ i → i < σ.2 q 1 → σ'.2 (r + 1) i = σ.2 (q + 1) i := by
  have u0 : bz_Upd σ (az_wr σ r 1 0) (yz_S r) := bz_Upd.wr bz_Upd.refl (Or.inl ⟨rfl, rfl⟩) (yz_free hr).1
  have e1 : (az_wr σ r 1 0).2 q 1 = σ.2 q 1 := az_wr_ne (by omega)
  have e2 : (az_wr σ r 1 0).2 r 1 = 0 := az_wr_same
  obtain ⟨σ', x1, x2, x3, -, x5⟩ := (yz_addPart (a := 0) (b := σ.2 q 1) (hF.upd u0) hr hq hne (by omega) (by omega) (by omega) (by omega) (by omega) (by omega)).1 (by omega)
  refine ⟨σ', ?_, u0.trans x2, by rw [x3, e2]; omega, fun i i0 i1 => ?_⟩
  · unfold fz_X7_take
    rw [e1, x1, Option.bind_some]
  · have := x5 i i0 (by omega)
    have od := yz_odd hr hq
    rw [e2, Int.zero_add, az_wr_ne (by omega)] at this
    exact this
theorem yz_add {σ : az_Hp} {r c : Int} (hF : bz_Fx σ) (hr : 0 < bz_cap r) (r0 : 0 ≤ σ.2 r 1) (r1 : σ.2 r 1 ≤ bz_cap r) :
    (σ.2 r 1 < bz_cap r → ∃ σ', fz_X7_add σ r c = some (1, σ') ∧ bz_Upd σ σ' (yz_S r) ∧ σ'.2 r 1 = σ.2 r 1 + 1 ∧ (∀ i, i < σ.2 r 1 → σ'.2 (r + 1) i = σ.2 (r + 1) i) ∧ σ'.2 (r + 1) (σ.2 r 1) = c) ∧
    (σ.2 r 1 = bz_cap r → fz_X7_add σ r c = some (0, σ)) := by
  have f1 := bz_fxR hF hr
  have b1' := bz_cap_lt hr
  have c1 := @bz_cap60 r
  have g1 : az_gref σ r 0 = some (r + 1) := bz_gr f1.1 (by omega)
  constructor
  · intro hlt
    have e : (az_wr σ (r + 1) (σ.2 r 1) c).2 r 1 = σ.2 r 1 := az_wr_ne (by omega)
    refine ⟨az_wr (az_wr σ (r + 1) (σ.2 r 1) c) r 1 (σ.2 r 1 + 1), ?_, bz_Upd.wr (bz_Upd.wr bz_Upd.refl (Or.inr rfl) ((yz_free hr).2 _)) (Or.inl ⟨rfl, rfl⟩) (yz_free hr).1, az_wr_same, fun i hi => ?_, ?_⟩
    · unfold fz_X7_add
      rw [g1, Option.bind_some, if_pos (by omega), Option.bind_some, bz_awr r0 (by omega), Option.bind_some, e, az_w32_id (by omega) (by omega)]
    · rw [az_wr_ne (by omega), az_wr_ne (by omega)]
    · rw [az_wr_ne (by omega), az_wr_same]
  · intro heq
    unfold fz_X7_add
    rw [g1, Option.bind_some, if_neg (by omega)]
/-! rows of the reference: copying -/
theorem yz_follows {σ : az_Hp} {A o n : Int} (hF : bz_Fx σ) (hA : A ≠ 841 ∧ A ≠ 804) (o0 : 0 ≤ o) (hn : o + n ≤ az_ln σ A) (hl : az_ln σ A ≤ 100000) (m0 : 0 ≤ σ.2 804 71) (m1 : σ.2 804 71 ≤ 60) : ∀ (d k : Nat) (σ' : az_Hp) (i : Int), d < k → 0 ≤ i → i + d = n → bz_Upd σ σ' (fun a k => a = 841 ∨ (a = 804 ∧ (k = 71 ∨ k = 74))) → σ'.2 804 71 = σ.2 804 71 + i → σ'.2 804 74 = σ.2 804 74 → (∀ j, 0 ≤ j → j < σ.2 804 71 + i → σ'.2 841 j = if j < σ.2 804 71 then σ.2 841 j else σ.2 A (o + (j - σ.2 804 71))) → σ.2 804 71 + i ≤ 60 →
    (σ.2 804 71 + n ≤ 60 → ∃ τ, fz_X11_follows_3 2000000 k σ' 804 A o n i = some τ ∧ bz_Upd σ τ (fun a k => a = 841 ∨ (a = 804 ∧ (k = 71 ∨ k = 74))) ∧ τ.2 804 71 = σ.2 804 71 + n ∧ τ.2 804 74 = σ.2 804 74 ∧ ∀ j, 0 ≤ j → j < σ.2 804 71 + n → τ.2 841 j = if j < σ.2 804 71 then σ.2 841 j else σ.2 A (o + (j - σ.2 804 71))) ∧
    (60 < σ.2 804 71 + n → ∃ τ, fz_X11_follows_3 2000000 k σ' 804 A o n i = some τ ∧ bz_Upd σ τ (fun a k => a = 841 ∨ (a = 804 ∧ (k = 71 ∨ k = 74))) ∧ τ.2 804 71 = 60 ∧ τ.2 804 74 = 1) := by
  have l841 := ln_841 hF
  intro d
  induction d with
  | zero =>
    intro k σ' i hk i0 hi u e1 e2 e3 h60
    obtain ⟨k, rfl⟩ : ∃ k', k = k' + 1 := ⟨k - 1, by omega⟩
    have ei : i = n := by omega
    subst ei
    refine ⟨fun _ => ⟨σ', ?_, u, e1, e2, e3⟩, fun c => by omega⟩
    unfold fz_X11_follows_3
    rw [if_neg (by omega)]
  | succ d ih =>
    intro k σ' i hk i0 hi u e1 e2 e3 h60
    obtain ⟨k, rfl⟩ : ∃ k', k = k' + 1 := ⟨k - 1, by omega⟩
    by_cases full : σ'.2 804 71 = 60
    · refine ⟨fun c => by omega, fun _ => ⟨az_wr σ' 804 74 1, ?_, bz_Upd.wr u (Or.inr ⟨rfl, Or.inr rfl⟩) (by decide), by rw [az_wr_ne (by omega)]; exact full, az_wr_same⟩⟩
      unfold fz_X11_follows_3
      rw [if_pos (by omega), if_pos full]
    · have rd : az_ard σ' A (o + i) = some (σ.2 A (o + i)) := by
        have l := u.ln A
        rw [bz_ard (by omega) (by omega), u.2.2 A _ (by omega)]
      have hl' := u.ln 841
      have run : fz_X11_follows_3 2000000 (k + 1) σ' 804 A o n i = fz_X11_follows_3 2000000 k (az_wr (az_wr σ' 841 (σ.2 804 71 + i) (σ.2 A (o + i))) 804 71 (σ.2 804 71 + (i + 1))) 804 A o n (i + 1) := by
        conv => lhs; unfold fz_X11_follows_3
        rw [if_pos (by omega), if_neg full, fx_804_69 (hF.upd u), Option.bind_some, az_w32_id (z := o + i) (by omega) (by omega), rd, Option.bind_some, bz_awr (by omega) (by omega), Option.bind_some, az_wr_ne (by omega), e1, az_w32_id (z := σ.2 804 71 + i + 1) (by omega) (by omega), az_w32_id (z := i + 1) (by omega) (by omega), show σ.2 804 71 + i + 1 = σ.2 804 71 + (i + 1) by omega]
      rw [run]
      refine ih k _ (i + 1) (by omega) (by omega) (by omega) (bz_Upd.wr (bz_Upd.wr u (Or.inl rfl) ?_) (Or.inr ⟨rfl, Or.inl rfl⟩) (by decide)) az_wr_same ?_ (fun j j0 j1 => ?_) (by omega)
      · unfold bz_isFix; simp [bz_cap, bz_fixL, bz_rowsL]
      · rw [az_wr_ne (by omega), az_wr_ne (by omega), e2]
      · rw [az_wr_ne (by omega)]
        by_cases ej : j = σ.2 804 71 + i
        · rw [ej, az_wr_same, if_neg (by omega), show σ.2 804 71 + i - σ.2 804 71 = i by omega]
        · rw [az_wr_ne (by omega)]
          exact e3 j j0 (by omega)
