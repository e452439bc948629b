/-! an EQUALITY goes: remove; the list closes up -/
theorem sv_cnt.drop {g g' : Int → Int} {i : Nat} (hi : g i = 0) (hi' : g' i = 1) (he : ∀ k, k ≠ (i : Int) → g' k = g k) : ∀ p : Nat, sv_cnt g' p = if p ≤ i then sv_cnt g p else sv_cnt g p - 1 := by
  intro p
  induction p with
  | zero => rw [if_pos (by omega)]; rfl
  | succ p ih =>
    have c : sv_cnt g (p + 1) = sv_cnt g p + if g (p : Int) = 0 then 1 else 0 := rfl
    have c' : sv_cnt g' (p + 1) = sv_cnt g' p + if g' (p : Int) = 0 then 1 else 0 := rfl
    by_cases e : p = i
    · subst e
      rw [if_pos hi] at c
      rw [if_neg (show ¬ g' (p : Int) = 0 by omega)] at c'
      rw [if_pos (Nat.le_refl _)] at ih
      rw [if_neg (show ¬ p + 1 ≤ p by omega), c', c, ih]
      omega
    · rw [he p (by omega)] at c'
      by_cases l : p ≤ i
      · rw [if_pos l] at ih
        rw [if_pos (show p + 1 ≤ i by omega), c', c, ih]
      · rw [if_neg l] at ih
        rw [if_neg (show ¬ p + 1 ≤ i by omega), c', c, ih]
        omega
theorem sv_cnt.sur {g : Int → Int} : ∀ (M : Nat) (q : Int), 0 ≤ q → q < sv_cnt g M → ∃ p : Nat, p < M ∧ g p = 0 ∧ sv_cnt g p = q := by
  intro M
  induction M with
  | zero => intro q q0 q1; have : sv_cnt g 0 = 0 := rfl; omega
  | succ M ih =>
    intro q q0 q1
    have c : sv_cnt g (M + 1) = sv_cnt g M + if g (M : Int) = 0 then 1 else 0 := rfl
    by_cases e : q < sv_cnt g M
    · obtain ⟨p, p1, p2, p3⟩ := ih q q0 e
      exact ⟨p, by omega, p2, p3⟩
    · by_cases z : g (M : Int) = 0
      · rw [if_pos z] at c
        exact ⟨M, by omega, z, by omega⟩
      · rw [if_neg z] at c
        omega
theorem sv_rmL {x : az_Hp} {at' n r : Int} (hX : bz_Fx x) (a0 : 0 ≤ at') (n100 : n ≤ 100) (h1 : x.2 380 1 = n) : ∀ (d k : Nat) (τ : az_Hp) (j : Int), d < k → at' ≤ j → j + 1 + d = n → bz_Upd x τ (fun a _ => a = 383) → (∀ q, at' ≤ q → q < j → τ.2 383 q = x.2 383 (q + 1)) → (∀ q, q < at' ∨ j ≤ q → τ.2 383 q = x.2 383 q) → ∃ τ', fz_X8_remove_9 2000000 k τ 380 r j = some τ' ∧ bz_Upd x τ' (fun a k => a = 383 ∨ (a = 380 ∧ k = 1)) ∧ τ'.2 380 1 = n - 1 ∧ (∀ q, at' ≤ q → q < n - 1 → τ'.2 383 q = x.2 383 (q + 1)) ∧ τ'.2 383 (n - 1) = r ∧ ∀ q, q < at' ∨ n ≤ q → τ'.2 383 q = x.2 383 q := by
  intro d
  induction d with
  | zero =>
    intro k τ j hk j0 hj ut h h'
    obtain ⟨k, rfl⟩ : ∃ k', k = k' + 1 := ⟨k - 1, by omega⟩
    have e1 : τ.2 380 1 = n := by rw [ut.2.2 380 1 (fun z => by omega)]; exact h1
    have hF := hX.upd ut
    have u1 : bz_Upd x (az_wr τ 380 1 (n - 1)) (fun a k => a = 383 ∨ (a = 380 ∧ k = 1)) := bz_Upd.wr (ut.weak fun _ _ z => Or.inl z) (Or.inr ⟨rfl, rfl⟩) (by decide)
    have u2 : bz_Upd x (az_wr (az_wr τ 380 1 (n - 1)) 383 (n - 1) r) (fun a k => a = 383 ∨ (a = 380 ∧ k = 1)) := bz_Upd.wr u1 (Or.inl rfl) (by unfold bz_isFix; simp [bz_cap, bz_fixL, bz_rowsL])
    refine ⟨_, ?_, u2, by rw [az_wr_ne (by omega), az_wr_same], fun q q0 q1 => ?_, az_wr_same, fun q hq => ?_⟩
    · unfold fz_X8_remove_9
      rw [az_w32_id (z := j + 1) (by omega) (by omega), e1, if_neg (by omega), az_w32_id (z := n - 1) (by omega) (by omega), fx_380_10 (hX.upd u1), Option.bind_some, az_wr_same, bz_awr (by omega) (by rw [ln_383 (hX.upd u1)]; omega), Option.bind_some]
    · rw [az_wr_ne (by omega), az_wr_ne (by omega)]; exact h q q0 (by omega)
    · rw [az_wr_ne (by omega), az_wr_ne (by omega)]; exact h' q (by omega)
  | succ d ih =>
    intro k τ j hk j0 hj ut h h'
    obtain ⟨k, rfl⟩ : ∃ k', k = k' + 1 := ⟨k - 1, by omega⟩
    have e1 : τ.2 380 1 = n := by rw [ut.2.2 380 1 (fun z => by omega)]; exact h1
    have hF := hX.upd ut
    have l383 := ln_383 hF
    have ej : τ.2 383 (j + 1) = x.2 383 (j + 1) := h' _ (by omega)
    have u1 : bz_Upd x (az_wr τ 383 j (x.2 383 (j + 1))) (fun a _ => a = 383) := bz_Upd.wr ut rfl (by unfold bz_isFix; simp [bz_cap, bz_fixL, bz_rowsL])
    obtain ⟨τ', t1, t2⟩ := ih k (az_wr τ 383 j (x.2 383 (j + 1))) (j + 1) (by omega) (by omega) (by push_cast at hj; omega) u1 (fun q q0 q1 => by
      by_cases c : q = j
      · rw [c, az_wr_same]
      · rw [az_wr_ne (by omega)]; exact h q q0 (by omega)) (fun q hq => by rw [az_wr_ne (by omega)]; exact h' q (by omega))
    refine ⟨τ', ?_, t2⟩
    rw [← t1]
    conv => lhs; unfold fz_X8_remove_9
    rw [az_w32_id (z := j + 1) (by omega) (by omega), e1, if_pos (by omega), fx_380_10 hF, Option.bind_some, Option.bind_some, bz_ard (by omega) (by omega), Option.bind_some, ej, bz_awr (by omega) (by omega), Option.bind_some]
theorem sv_rm {x : az_Hp} {at' n : Int} (hX : bz_Fx x) (a0 : 0 ≤ at') (an : at' < n) (n100 : n ≤ 100) (h1 : x.2 380 1 = n) : ∃ τ', fz_X8_remove 2000000 x 380 at' = some τ' ∧ bz_Upd x τ' (fun a k => a = 383 ∨ (a = 380 ∧ k = 1)) ∧ τ'.2 380 1 = n - 1 ∧ (∀ q, at' ≤ q → q < n - 1 → τ'.2 383 q = x.2 383 (q + 1)) ∧ τ'.2 383 (n - 1) = x.2 383 at' ∧ ∀ q, q < at' ∨ n ≤ q → τ'.2 383 q = x.2 383 q := by
  obtain ⟨τ', t1, t2⟩ := sv_rmL (r := x.2 383 at') hX a0 n100 h1 (n - 1 - at').toNat 2000000 x at' (by omega) (by omega) (by omega) bz_Upd.refl (fun q q0 q1 => by omega) (fun q _ => rfl)
  refine ⟨τ', ?_, t2⟩
  unfold fz_X8_remove
  rw [fx_380_10 hX, Option.bind_some, bz_ard a0 (by rw [ln_383 hX]; omega), Option.bind_some]
  exact t1
/-- it goes, in both -/
theorem sv_L.go {x m x' m' : az_Hp} {T s U : Int} {V : Int → Int → Prop} {n M i : Int} (h : sv_L x m T s U V n M i i) (hT : T = 3 ∨ T = 82) (iM : i < M) (i99 : i < 100) (ux : bz_Upd x x' (fun a k => a = 383 ∨ (a = 380 ∧ (k = 1 ∨ k = 9)))) (um : bz_Upd m m' (fun a k => a = 865 ∧ k = i)) (h865 : m'.2 865 i = 1) (h1 : x'.2 380 1 = n - 1) (r1 : ∀ q, sv_cnt (m.2 865) i.toNat ≤ q → q < n - 1 → x'.2 383 q = x.2 383 (q + 1)) (r2 : x'.2 383 (n - 1) = x.2 383 (sv_cnt (m.2 865) i.toNat)) (r3 : ∀ q, q < sv_cnt (m.2 865) i.toNat ∨ n ≤ q → x'.2 383 q = x.2 383 q) : sv_L x' m' T s U V (n - 1) M (i + 1) (-1) ∧ sv_cnt (m'.2 865) (i + 1).toNat = sv_cnt (m.2 865) i.toNat := by
  obtain ⟨⟨l1, l2⟩, ⟨l3, l4, l5, l6, l7⟩, l8, l9, l10, l11⟩ := h
  have gi := l9 i (Int.le_refl _) iM
  have gi' : m.2 865 ((i.toNat : Nat) : Int) = 0 := by rw [show ((i.toNat : Nat) : Int) = i by omega]; exact gi
  have dr := sv_cnt.drop (g := m.2 865) (g' := m'.2 865) (i := i.toNat) gi' (by rw [show ((i.toNat : Nat) : Int) = i by omega]; exact h865) (fun k hk => um.2.2 865 k (fun z => by omega))
  have cl := sv_cnt.lt (g := m.2 865) (a := i.toNat) (b := M.toNat) (by omega) gi'
  have cb := (sv_cnt.bd (g := m.2 865) i.toNat).1
  have st : sv_cnt (m.2 865) (i.toNat + 1) = sv_cnt (m.2 865) i.toNat + if m.2 865 ((i.toNat : Nat) : Int) = 0 then 1 else 0 := rfl
  rw [if_pos gi'] at st
  have tS : bz_tS m m' := fun a k q => um.2.2 a k (fun z => by omega)
  generalize hat : sv_cnt (m.2 865) i.toNat = at' at *
  have slot : ∀ q, 0 ≤ q → q < 100 → x'.2 383 q = if q < at' ∨ n ≤ q then x.2 383 q else if q = n - 1 then x.2 383 at' else x.2 383 (q + 1) := fun q q0 q1 => by
    by_cases c : q < at' ∨ n ≤ q
    · rw [if_pos c]; exact r3 q c
    · rw [if_neg c]
      by_cases c' : q = n - 1
      · rw [if_pos c', c']; exact r2
      · rw [if_neg c']; exact r1 q (by omega) (by omega)
  have sl : sv_Sl x' := by
    constructor
    · intro q q0 q1
      rw [slot q q0 q1]
      repeat' split
      · exact l11.1 q q0 q1
      · exact l11.1 at' cb (by omega)
      · exact l11.1 (q + 1) (by omega) (by omega)
    · intro q p q0 q1 p0 p1 e
      rw [slot q q0 q1, slot p p0 p1] at e
      have J := fun a b (ha : 0 ≤ a) (ha' : a < 100) (hb : 0 ≤ b) (hb' : b < 100) (e : x.2 383 a = x.2 383 b) => l11.2 a b ha ha' hb hb' e
      by_cases c1 : q < at' ∨ n ≤ q
      · rw [if_pos c1] at e
        by_cases d1 : p < at' ∨ n ≤ p
        · rw [if_pos d1] at e; exact J q p q0 q1 p0 p1 e
        · rw [if_neg d1] at e
          by_cases d2 : p = n - 1
          · rw [if_pos d2] at e; have := J q at' q0 q1 cb (by omega) e; omega
          · rw [if_neg d2] at e; have := J q (p + 1) q0 q1 (by omega) (by omega) e; omega
      · rw [if_neg c1] at e
        by_cases c2 : q = n - 1
        · rw [if_pos c2] at e
          by_cases d1 : p < at' ∨ n ≤ p
          · rw [if_pos d1] at e; have := J at' p cb (by omega) p0 p1 e; omega
          · rw [if_neg d1] at e
            by_cases d2 : p = n - 1
            · omega
            · rw [if_neg d2] at e; have := J at' (p + 1) cb (by omega) (by omega) (by omega) e; omega
        · rw [if_neg c2] at e
          by_cases d1 : p < at' ∨ n ≤ p
          · rw [if_pos d1] at e; have := J (q + 1) p (by omega) (by omega) p0 p1 e; omega
          · rw [if_neg d1] at e
            by_cases d2 : p = n - 1
            · rw [if_pos d2] at e; have := J (q + 1) at' (by omega) (by omega) cb (by omega) e; omega
            · rw [if_neg d2] at e; have := J (q + 1) (p + 1) (by omega) (by omega) (by omega) (by omega) e; omega
  refine ⟨⟨⟨h1, by rw [um.2.2 804 108 (fun z => by omega)]; exact l2⟩, ⟨by omega, by omega, by omega, by omega, by omega⟩, ?_, fun p p0 p1 => ?_, fun p p0 p1 pg _ => ?_, sl⟩, ?_⟩
  · rw [dr, if_neg (by omega), l8]
  · rw [um.2.2 865 p (fun z => by omega)]; exact l9 p (by omega) p1
  · have pi : p ≠ i := fun z => by rw [z, h865] at pg; omega
    rw [um.2.2 865 p (fun z => pi z.2)] at pg
    have pg' : m.2 865 ((p.toNat : Nat) : Int) = 0 := by rw [show ((p.toNat : Nat) : Int) = p by omega]; exact pg
    have en := l10 p p0 p1 pg pi
    have pl := sv_cnt.lt (g := m.2 865) (a := p.toNat) (b := M.toNat) (by omega) pg'
    have pb := (sv_cnt.bd (g := m.2 865) p.toNat).1
    have sb := l11.1 _ pb (show sv_cnt (m.2 865) p.toNat < 100 by omega)
    have es : x'.2 383 (sv_cnt (m'.2 865) p.toNat) = x.2 383 (sv_cnt (m.2 865) p.toNat) := by
      rw [dr]
      by_cases c : p.toNat ≤ i.toNat
      · rw [if_pos c]
        have := sv_cnt.lt (g := m.2 865) (a := p.toNat) (b := i.toNat) (by omega) pg'
        rw [hat] at this
        exact r3 _ (Or.inl this)
      · rw [if_neg c]
        have := sv_cnt.mono (g := m.2 865) (a := i.toNat + 1) (b := p.toNat) (by omega)
        have r := r1 (sv_cnt (m.2 865) p.toNat - 1) (by omega) (by omega)
        rw [show sv_cnt (m.2 865) p.toNat - 1 + 1 = sv_cnt (m.2 865) p.toNat by omega] at r
        exact r
    rw [es]
    generalize x.2 383 (sv_cnt (m.2 865) p.toNat) = q' at *
    exact en.cong hT tS (fun a k z => ux.2.2 a k (fun w => by omega)) (fun a k z => um.2.2 a k (fun w => by omega)) (um.ln _)
  · rw [show (i + 1).toNat = i.toNat + 1 by omega, dr, if_neg (by omega), st]
    omega
