/-! circles in the class's joiner -/
/-- how many of the first n places hold c -/
def dz_ct (f : Int → Int) (c : Int) : Nat → Nat
  | 0 => 0
  | n + 1 => dz_ct f c n + (if f (n : Int) = c then 1 else 0)
theorem dz_ct_le {f : Int → Int} {c : Int} : ∀ n : Nat, dz_ct f c n ≤ n := by
  intro n
  induction n with
  | zero => exact Nat.le_refl 0
  | succ n ih =>
    unfold dz_ct
    split <;> omega
theorem dz_ct_out {f : Int → Int} {c a b : Int} : ∀ n : Nat, (n : Int) ≤ a → dz_ct (dz_set f a b) c n = dz_ct f c n := by
  intro n
  induction n with
  | zero => intro _; rfl
  | succ n ih =>
    intro h
    unfold dz_ct
    rw [ih (by omega)]
    have : dz_set f a b (n : Int) = f (n : Int) := if_neg (by omega)
    rw [this]
theorem dz_ct_set {f : Int → Int} {c a b : Int} (ha : 0 ≤ a) : ∀ n : Nat, a < (n : Int) → dz_ct (dz_set f a b) c n + (if f a = c then 1 else 0) = dz_ct f c n + (if b = c then 1 else 0) := by
  intro n
  induction n with
  | zero => intro h; omega
  | succ n ih =>
    intro h
    unfold dz_ct
    by_cases e : (n : Int) = a
    · have : dz_set f a b (n : Int) = b := if_pos e
      rw [dz_ct_out n (by omega), this, e]
      omega
    · have : dz_set f a b (n : Int) = f (n : Int) := if_neg e
      have := ih (by omega)
      rw [‹dz_set f a b (n : Int) = f (n : Int)›]
      omega
theorem dz_ct_pos {f : Int → Int} {c a : Int} (ha : 0 ≤ a) (hc : f a = c) : ∀ n : Nat, a < (n : Int) → 0 < dz_ct f c n := by
  intro n
  induction n with
  | zero => intro h; omega
  | succ n ih =>
    intro h
    unfold dz_ct
    by_cases e : (n : Int) = a
    · rw [e, if_pos hc]; omega
    · have := ih (by omega)
      omega
theorem ez_mk_wr {σ : az_Hp} {A a b : Int} : (az_wr σ A a b).2 A = dz_set (σ.2 A) a b := by
  funext n
  unfold dz_set
  by_cases e : n = a
  · subst e; rw [az_wr_same, if_pos rfl]
  · rw [az_wr_ne (by omega), if_neg e]
theorem ez_kmL {σ : az_Hp} {g : dz_G} (hg : dz_ok g) (hF : bz_Fx σ) (hX : ez_X σ g) (hU : dz_UF (σ.2 235) (dz_N g)) {t : Int} (ht : dz_In (dz_N g) t) (nt : ¬ dz_iv g t) {n : Nat} (hn : n = 2000000) : ∀ (d k : Nat) (i : Int), d < k → 0 ≤ i → i + d = dz_ar g t → ∃ r, fz_X0_kidsAreMarked_24 n k σ 231 t (dz_ar g t) i = some r ∧ ((r = 1 ∧ ∀ k, i ≤ k → k < dz_ar g t → σ.2 237 (dz_tp (σ.2 235) (dz_kd g t k)) ≠ 0) ∨ (r = 0 ∧ ∃ k, 0 ≤ k ∧ k < dz_ar g t ∧ σ.2 237 (dz_tp (σ.2 235) (dz_kd g t k)) = 0)) := by
  subst hn
  have g6 := fx_231_6 hF
  have g7 := fx_231_7 hF
  have l6 := ln_237 hF
  have l7 := ln_238 hF
  have ha := hg.2.2.1 t ht nt
  have hN := hg.2.1
  have t0 := ht.1
  have t1 := ht.2
  intro d
  induction d with
  | zero =>
    intro k i hk i0 hi
    obtain ⟨k, rfl⟩ : ∃ k', k = k' + 1 := ⟨k - 1, by omega⟩
    refine ⟨1, ?_, Or.inl ⟨rfl, fun k k0 k1 => by omega⟩⟩
    unfold fz_X0_kidsAreMarked_24
    rw [if_neg (by omega)]
  | succ d ih =>
    intro k i hk i0 hi
    obtain ⟨k, rfl⟩ : ∃ k', k = k' + 1 := ⟨k - 1, by omega⟩
    have hk2 := ((hX t ht).2.2 nt).2.1 i i0 (by omega)
    have ik := ha.2.2 i i0 (by omega)
    have tt := hU.top ik
    have q0 := tt.2.1
    have q1 := tt.2.2
    obtain ⟨r, r1, r2⟩ := ih k (i + 1) (by omega) (by omega) (by omega)
    have run : fz_X0_kidsAreMarked_24 2000000 (k + 1) σ 231 t (dz_ar g t) i = (if σ.2 237 (dz_tp (σ.2 235) (dz_kd g t i)) = 0 then some 0 else fz_X0_kidsAreMarked_24 2000000 k σ 231 t (dz_ar g t) (i + 1)) := by
      conv => lhs; unfold fz_X0_kidsAreMarked_24
      rw [if_pos (by omega), g6, Option.bind_some, g7, Option.bind_some, az_w32_id (z := t * 3) (by omega) (by omega), az_w32_id (z := t * 3 + i) (by omega) (by omega), bz_ard (by omega) (by omega), Option.bind_some, show t * 3 + i = 3 * t + i by omega, hk2, ez_top hF hU hN ik, Option.bind_some, bz_ard q0 (by omega), Option.bind_some, az_w32_id (by omega) (by omega)]
    rw [run]
    by_cases qz : σ.2 237 (dz_tp (σ.2 235) (dz_kd g t i)) = 0
    · rw [if_pos qz]
      exact ⟨0, rfl, Or.inr ⟨rfl, i, i0, by omega, qz⟩⟩
    · rw [if_neg qz]
      refine ⟨r, r1, ?_⟩
      rcases r2 with ⟨e, h⟩ | h
      · refine Or.inl ⟨e, fun k k0 k1 => ?_⟩
        by_cases ek : k = i
        · subst ek; exact qz
        · exact h k (by omega) k1
      · exact Or.inr h
/-- marked tops can be ranked -/
def ez_MI (g : dz_G) (up mk : Int → Int) (ρ : Int → Nat) : Prop := (∀ n, dz_In (dz_N g) n → mk n = 0 ∨ mk n = 1) ∧ ∀ t, dz_In (dz_N g) t → up t = t → mk t = 1 → ¬ dz_iv g t → ∀ k, 0 ≤ k → k < dz_ar g t → mk (dz_tp up (dz_kd g t k)) = 1 ∧ ρ (dz_tp up (dz_kd g t k)) < ρ t
theorem ez_MI.mark {g : dz_G} (hg : dz_ok g) {up mk : Int → Int} {ρ : Int → Nat} (h : ez_MI g up mk ρ) (hU : dz_UF up (dz_N g)) {t : Int} (ht : dz_In (dz_N g) t) (h0 : mk t = 0) (hk : ¬ dz_iv g t → ∀ k, 0 ≤ k → k < dz_ar g t → mk (dz_tp up (dz_kd g t k)) = 1) : ∃ ρ', ez_MI g up (dz_set mk t 1) ρ' := by
  obtain ⟨h1, h2⟩ := h
  refine ⟨fun x => if x = t then 1 + ρ (dz_tp up (dz_kd g t 0)) + ρ (dz_tp up (dz_kd g t 1)) + ρ (dz_tp up (dz_kd g t 2)) else ρ x, fun n hn => ?_, fun x hx ux mx nx k k0 k1 => ?_⟩
  · unfold dz_set
    by_cases e : n = t
    · rw [if_pos e]; exact Or.inr rfl
    · rw [if_neg e]; exact h1 n hn
  · have st : ∀ y, mk y = 1 → dz_set mk t 1 y = 1 := fun y hy => by
      unfold dz_set
      split
      · rfl
      · exact hy
    have nt' : ∀ y, mk y = 1 → y ≠ t := fun y hy e => by rw [e, h0] at hy; omega
    by_cases e : x = t
    · subst e
      have m := hk nx k k0 k1
      refine ⟨st _ m, ?_⟩
      simp only [if_true, if_neg (nt' _ m)]
      have ar3 := (hg.2.2.1 x hx nx).2.1
      have : k = 0 ∨ k = 1 ∨ k = 2 := by omega
      rcases this with rfl | rfl | rfl <;> omega
    · have mx' : mk x = 1 := by
        unfold dz_set at mx
        rw [if_neg e] at mx
        exact mx
      obtain ⟨m, l⟩ := h2 x hx ux mx' nx k k0 k1
      refine ⟨st _ m, ?_⟩
      simp only [if_neg e, if_neg (nt' _ m)]
      exact l
/-- a scan: marks what it can -/
theorem ez_scan {g : dz_G} (hg : dz_ok g) {n : Nat} (hn : n = 2000000) {k27 : az_Hp → Int → Int → Int → Option (Int × az_Hp)} {it : Int} (hit : 0 ≤ it) (hit1 : it < 1000) {m0 : Nat} : ∀ (d k : Nat) (σ : az_Hp) (v i : Int) (ρ : Int → Nat), d < k → bz_Fx σ → ez_X σ g → dz_UF (σ.2 235) (dz_N g) → σ.2 231 0 = dz_N g → ez_MI g (σ.2 235) (σ.2 237) ρ → 0 ≤ i → i + d = dz_N g →
    ((v = 1 ∧ m0 < dz_ct (σ.2 237) 1 (dz_N g).toNat) ∨ (v = 0 ∧ m0 ≤ dz_ct (σ.2 237) 1 (dz_N g).toNat ∧ ∀ t, 0 ≤ t → t < i → σ.2 235 t = t → σ.2 237 t = 0 → ¬ dz_iv g t ∧ ∃ k, 0 ≤ k ∧ k < dz_ar g t ∧ σ.2 237 (dz_tp (σ.2 235) (dz_kd g t k)) = 0)) →
    ∃ v' σ' ρ', fz_X0_hasCircle_43 n k27 k σ 231 v it i = k27 σ' 231 v' (it + 1) ∧ bz_Upd σ σ' (fun a _ => a = 237) ∧ ez_MI g (σ'.2 235) (σ'.2 237) ρ' ∧
      ((v' = 1 ∧ m0 < dz_ct (σ'.2 237) 1 (dz_N g).toNat) ∨ (v' = 0 ∧ m0 ≤ dz_ct (σ'.2 237) 1 (dz_N g).toNat ∧ ∀ t, dz_In (dz_N g) t → σ'.2 235 t = t → σ'.2 237 t = 0 → ¬ dz_iv g t ∧ ∃ k, 0 ≤ k ∧ k < dz_ar g t ∧ σ'.2 237 (dz_tp (σ'.2 235) (dz_kd g t k)) = 0)) := by
  subst hn
  have hN := hg.2.1
  have hN0 := hg.1
  intro d
  induction d with
  | zero =>
    intro k σ v i ρ hk hF hX hU hc hM i0 hi hv
    obtain ⟨k, rfl⟩ : ∃ k', k = k' + 1 := ⟨k - 1, by omega⟩
    refine ⟨v, σ, ρ, ?_, bz_Upd.refl, hM, ?_⟩
    · unfold fz_X0_hasCircle_43
      rw [if_neg (by omega), az_w32_id (by omega) (by omega)]
    · rcases hv with hv | ⟨h1, h2, h3⟩
      · exact Or.inl hv
      · exact Or.inr ⟨h1, h2, fun t ht => h3 t ht.1 (by have := ht.2; omega)⟩
  | succ d ih =>
    intro k σ v i ρ hk hF hX hU hc hM i0 hi hv
    obtain ⟨k, rfl⟩ : ∃ k', k = k' + 1 := ⟨k - 1, by omega⟩
    have g4 := fx_231_4 hF
    have g6 := fx_231_6 hF
    have l4 := ln_235 hF
    have l6 := ln_237 hF
    have g1 := fx_231_1 hF
    have l1 := ln_232 hF
    have ii : dz_In (dz_N g) i := ⟨i0, by omega⟩
    have r4 : az_ard σ 235 i = some (σ.2 235 i) := bz_ard i0 (by omega)
    have r6 : az_ard σ 237 i = some (σ.2 237 i) := bz_ard i0 (by omega)
    have w1 : az_w32 (i + 1) = i + 1 := az_w32_id (by omega) (by omega)
    have go : ∀ (hh : (v = 1 ∧ m0 < dz_ct (σ.2 237) 1 (dz_N g).toNat) ∨ (v = 0 ∧ m0 ≤ dz_ct (σ.2 237) 1 (dz_N g).toNat ∧ ∀ t, 0 ≤ t → t < i + 1 → σ.2 235 t = t → σ.2 237 t = 0 → ¬ dz_iv g t ∧ ∃ k, 0 ≤ k ∧ k < dz_ar g t ∧ σ.2 237 (dz_tp (σ.2 235) (dz_kd g t k)) = 0)), _ := fun hh => ih k σ v (i + 1) ρ (by omega) hF hX hU hc hM (by omega) (by omega) hh
    have run : ∀ q, fz_X0_kidsAreMarked 2000000 σ 231 i = some q → fz_X0_hasCircle_43 2000000 k27 (k + 1) σ 231 v it i = (if σ.2 235 i = i then (if σ.2 237 i = 0 then (if q = 0 then fz_X0_hasCircle_43 2000000 k27 k σ 231 v it (i + 1) else fz_X0_hasCircle_43 2000000 k27 k (az_wr σ 237 i 1) 231 1 it (i + 1)) else fz_X0_hasCircle_43 2000000 k27 k σ 231 v it (i + 1)) else fz_X0_hasCircle_43 2000000 k27 k σ 231 v it (i + 1)) := by
      intro q hq
      conv => lhs; unfold fz_X0_hasCircle_43
      rw [if_pos (by omega)]
      simp only [g4, g6, r4, r6, w1, hq, Option.bind_some, bz_awz (σ := σ) (a := 237) (i := i) (x := 1) i0 (by omega) (Or.inr rfl)]
    have km : ∃ q, fz_X0_kidsAreMarked 2000000 σ 231 i = some q ∧ ((q = 1 ∧ (¬ dz_iv g i → ∀ k, 0 ≤ k → k < dz_ar g i → σ.2 237 (dz_tp (σ.2 235) (dz_kd g i k)) ≠ 0)) ∨ (q = 0 ∧ ¬ dz_iv g i ∧ ∃ k, 0 ≤ k ∧ k < dz_ar g i ∧ σ.2 237 (dz_tp (σ.2 235) (dz_kd g i k)) = 0)) := by
      have ax := hX i ii
      have vx := ez_isV hF i0 (by omega) ax.1
      unfold fz_X0_kidsAreMarked
      by_cases qv : dz_iv g i
      · refine ⟨1, ?_, Or.inl ⟨rfl, fun h => absurd qv h⟩⟩
        rw [vx.1 (ax.2.1.mpr qv), Option.bind_some, if_neg (by decide)]
        show fz_X0_kidsAreMarked_24 2000000 (1999999 + 1) σ 231 i 0 0 = some 1
        unfold fz_X0_kidsAreMarked_24
        rw [if_neg (by decide)]
      · have ear := (ax.2.2 qv).1
        have har := hg.2.2.1 i ii qv
        obtain ⟨r, r1, r2⟩ := ez_kmL hg hF hX hU ii qv rfl (dz_ar g i).toNat 2000000 0 (by omega) (by omega) (by omega)
        refine ⟨r, ?_, ?_⟩
        · rw [vx.2 (fun q => qv (ax.2.1.mp q)), Option.bind_some, if_pos rfl, g1, Option.bind_some, bz_ard i0 (by omega), Option.bind_some, bz_arity ax.1, Option.bind_some, ear]
          exact r1
        · rcases r2 with ⟨e, h⟩ | ⟨e, h⟩
          · exact Or.inl ⟨e, fun _ k k0 k1 => h k k0 k1⟩
          · exact Or.inr ⟨e, qv, h⟩
    obtain ⟨q, q1, q2⟩ := km
    rw [run q q1]
    by_cases er : σ.2 235 i = i
    · rw [if_pos er]
      by_cases ez : σ.2 237 i = 0
      · rw [if_pos ez]
        rcases q2 with ⟨e, hk1⟩ | ⟨e, nv, hk2⟩
        · rw [if_neg (by omega)]
          have hmk := hM.1
          obtain ⟨ρ', hM'⟩ := hM.mark hg hU ii ez (fun nv k k0 k1 => by
            have := hk1 nv k k0 k1
            have := hmk _ (hU.top ((hg.2.2.1 i ii nv).2.2 k k0 k1)).2
            omega)
          have u1 : bz_Upd σ (az_wr σ 237 i 1) (fun a _ => a = 237) := bz_Upd.wr bz_Upd.refl rfl (by unfold bz_isFix; simp [bz_cap, bz_fixL, bz_rowsL])
          have e235 : (az_wr σ 237 i 1).2 235 = σ.2 235 := funext fun n => az_wr_ne (by omega)
          have hct := dz_ct_set (f := σ.2 237) (c := 1) (a := i) (b := 1) i0 (dz_N g).toNat (by omega)
          rw [if_neg (by omega), if_pos rfl] at hct
          obtain ⟨v', σ', ρ2, f1, f2, f3, f4⟩ := ih k (az_wr σ 237 i 1) 1 (i + 1) ρ' (by omega) (hF.upd u1) (hX.cong (fun n => az_wr_ne (by omega)) (fun n => az_wr_ne (by omega))) (by rw [e235]; exact hU) (by rw [az_wr_ne (by omega)]; exact hc) (by rw [e235, ez_mk_wr]; exact hM') (by omega) (by omega) (Or.inl ⟨rfl, by rw [ez_mk_wr]; rcases hv with hv | hv <;> omega⟩)
          exact ⟨v', σ', ρ2, f1, u1.trans f2, f3, f4⟩
        · rw [if_pos (by omega)]
          refine go ?_
          rcases hv with hv | ⟨h1, h2, h3⟩
          · exact Or.inl hv
          · refine Or.inr ⟨h1, h2, fun t t0 t1 et ez' => ?_⟩
            by_cases eti : t = i
            · subst eti; exact ⟨nv, hk2⟩
            · exact h3 t t0 (by omega) et ez'
      · rw [if_neg ez]
        refine go ?_
        rcases hv with hv | ⟨h1, h2, h3⟩
        · exact Or.inl hv
        · refine Or.inr ⟨h1, h2, fun t t0 t1 et ez' => ?_⟩
          by_cases eti : t = i
          · subst eti; exact absurd ez' ez
          · exact h3 t t0 (by omega) et ez'
    · rw [if_neg er]
      refine go ?_
      rcases hv with hv | ⟨h1, h2, h3⟩
      · exact Or.inl hv
      · refine Or.inr ⟨h1, h2, fun t t0 t1 et ez' => ?_⟩
        by_cases eti : t = i
        · subst eti; exact absurd et er
        · exact h3 t t0 (by omega) et ez'
theorem ez_last {g : dz_G} (hg : dz_ok g) {σ : az_Hp} (hF : bz_Fx σ) (hc : σ.2 231 0 = dz_N g) {n : Nat} : ∀ (d k : Nat) (i : Int), d < k → 0 ≤ i → i + d = dz_N g → (fz_X0_hasCircle_101 n k σ 231 i = some (0, σ) ∧ ∀ t, i ≤ t → t < dz_N g → σ.2 235 t = t → σ.2 237 t ≠ 0) ∨ (fz_X0_hasCircle_101 n k σ 231 i = some (1, σ) ∧ ∃ t, dz_In (dz_N g) t ∧ σ.2 235 t = t ∧ σ.2 237 t = 0) := by
  have hN := hg.2.1
  have g4 := fx_231_4 hF
  have g6 := fx_231_6 hF
  have l4 := ln_235 hF
  have l6 := ln_237 hF
  intro d
  induction d with
  | zero =>
    intro k i hk i0 hi
    obtain ⟨k, rfl⟩ : ∃ k', k = k' + 1 := ⟨k - 1, by omega⟩
    refine Or.inl ⟨?_, fun t t0 t1 => by omega⟩
    unfold fz_X0_hasCircle_101
    rw [if_neg (by omega)]
  | succ d ih =>
    intro k i hk i0 hi
    obtain ⟨k, rfl⟩ : ∃ k', k = k' + 1 := ⟨k - 1, by omega⟩
    have r4 : az_ard σ 235 i = some (σ.2 235 i) := bz_ard i0 (by omega)
    have r6 : az_ard σ 237 i = some (σ.2 237 i) := bz_ard i0 (by omega)
    have w1 : az_w32 (i + 1) = i + 1 := az_w32_id (by omega) (by omega)
    have run : fz_X0_hasCircle_101 n (k + 1) σ 231 i = (if σ.2 235 i = i then (if σ.2 237 i = 0 then some (1, σ) else fz_X0_hasCircle_101 n k σ 231 (i + 1)) else fz_X0_hasCircle_101 n k σ 231 (i + 1)) := by
      conv => lhs; unfold fz_X0_hasCircle_101
      rw [if_pos (by omega)]
      simp only [g4, g6, r4, r6, w1, Option.bind_some]
    rw [run]
    by_cases er : σ.2 235 i = i
    · rw [if_pos er]
      by_cases ez : σ.2 237 i = 0
      · rw [if_pos ez]; exact Or.inr ⟨rfl, i, ⟨i0, by omega⟩, er, ez⟩
      · rw [if_neg ez]
        rcases ih k (i + 1) (by omega) (by omega) (by omega) with ⟨h1, h2⟩ | h
        · refine Or.inl ⟨h1, fun t t0 t1 et => ?_⟩
          by_cases eti : t = i
          · subst eti; exact ez
          · exact h2 t (by omega) t1 et
        · exact Or.inr h
    · rw [if_neg er]
      rcases ih k (i + 1) (by omega) (by omega) (by omega) with ⟨h1, h2⟩ | h
      · refine Or.inl ⟨h1, fun t t0 t1 et => ?_⟩
        by_cases eti : t = i
        · subst eti; exact absurd et er
        · exact h2 t (by omega) t1 et
      · exact Or.inr h
/-- the rounds of marking, then the look for one that is not marked -/
theorem ez_rounds {g : dz_G} (hg : dz_ok g) : ∀ (d k : Nat) (σ : az_Hp) (v it : Int) (ρ : Int → Nat), d < k → bz_Fx σ → ez_X σ g → dz_UF (σ.2 235) (dz_N g) → σ.2 231 0 = dz_N g → ez_MI g (σ.2 235) (σ.2 237) ρ → 0 ≤ it → it + d = dz_N g + 2 →
    ((v = 1 ∧ it ≤ dz_ct (σ.2 237) 1 (dz_N g).toNat) ∨ (v = 0 ∧ ∀ t, dz_In (dz_N g) t → σ.2 235 t = t → σ.2 237 t = 0 → ¬ dz_iv g t ∧ ∃ k, 0 ≤ k ∧ k < dz_ar g t ∧ σ.2 237 (dz_tp (σ.2 235) (dz_kd g t k)) = 0)) →
    ∃ r σ', fz_X0_hasCircle_27 2000000 k σ 231 v it = some (r, σ') ∧ bz_Upd σ σ' (fun a _ => a = 237) ∧ ((r = 0 ∧ ∃ ρ, dz_RK g (σ.2 235) ρ) ∨ (r = 1 ∧ ¬ ∃ ρ, dz_RK g (σ.2 235) ρ)) := by
  have hN := hg.2.1
  have hN0 := hg.1
  have fin : ∀ (k : Nat) (σ : az_Hp) (v it : Int) (ρ : Int → Nat), bz_Fx σ → dz_UF (σ.2 235) (dz_N g) → σ.2 231 0 = dz_N g → ez_MI g (σ.2 235) (σ.2 237) ρ → (∀ t, dz_In (dz_N g) t → σ.2 235 t = t → σ.2 237 t = 0 → ¬ dz_iv g t ∧ ∃ k, 0 ≤ k ∧ k < dz_ar g t ∧ σ.2 237 (dz_tp (σ.2 235) (dz_kd g t k)) = 0) → ∃ r σ', fz_X0_hasCircle_101 2000000 2000000 σ 231 0 = some (r, σ') ∧ bz_Upd σ σ' (fun a _ => a = 237) ∧ ((r = 0 ∧ ∃ ρ, dz_RK g (σ.2 235) ρ) ∨ (r = 1 ∧ ¬ ∃ ρ, dz_RK g (σ.2 235) ρ)) := by
    intro k σ v it ρ hF hU hc hM hfix
    rcases ez_last hg hF hc (n := 2000000) (dz_N g).toNat 2000000 0 (by omega) (by omega) (by omega) with ⟨h1, h2⟩ | ⟨h1, t, h2, h3, h4⟩
    · refine ⟨0, σ, h1, bz_Upd.refl, Or.inl ⟨rfl, ρ, fun x hx ux nx k k0 k1 => ?_⟩⟩
      have m := h2 x hx.1 hx.2 ux
      have m2 := hM.1 x hx
      exact (hM.2 x hx ux (by omega) nx k k0 k1).2
    · refine ⟨1, σ, h1, bz_Upd.refl, Or.inr ⟨rfl, ?_⟩⟩
      rintro ⟨ρ0, hr⟩
      have key : ∀ (m : Nat) (t : Int), ρ0 t ≤ m → dz_In (dz_N g) t → σ.2 235 t = t → σ.2 237 t = 0 → False := by
        intro m
        induction m with
        | zero =>
          intro t hm ht ut zt
          obtain ⟨nv, k, k0, k1, kz⟩ := hfix t ht ut zt
          have := hr t ht ut nv k k0 k1
          omega
        | succ m ih =>
          intro t hm ht ut zt
          obtain ⟨nv, k, k0, k1, kz⟩ := hfix t ht ut zt
          have q := hr t ht ut nv k k0 k1
          have tp := hU.top ((hg.2.2.1 t ht nv).2.2 k k0 k1)
          exact ih _ (by omega) tp.2 tp.1 kz
      exact key (ρ0 t) t (Nat.le_refl _) h2 h3 h4
  intro d
  induction d with
  | zero =>
    intro k σ v it ρ hk hF hX hU hc hM i0 hi hv
    have := dz_ct_le (f := σ.2 237) (c := 1) (dz_N g).toNat
    rcases hv with ⟨h1, h2⟩ | ⟨h1, h2⟩
    · omega
    · obtain ⟨k, rfl⟩ : ∃ k', k = k' + 1 := ⟨k - 1, by omega⟩
      unfold fz_X0_hasCircle_27
      rw [if_pos (by omega)]
      exact fin k σ v it ρ hF hU hc hM h2
  | succ d ih =>
    intro k σ v it ρ hk hF hX hU hc hM i0 hi hv
    obtain ⟨k, rfl⟩ : ∃ k', k = k' + 1 := ⟨k - 1, by omega⟩
    have hle := dz_ct_le (f := σ.2 237) (c := 1) (dz_N g).toNat
    rcases hv with ⟨h1, h2⟩ | ⟨h1, h2⟩
    · subst h1
      have run : fz_X0_hasCircle_27 2000000 (k + 1) σ 231 1 it = fz_X0_hasCircle_43 2000000 (fz_X0_hasCircle_27 2000000 k) 2000000 σ 231 0 it 0 := by
        conv => lhs; unfold fz_X0_hasCircle_27
        rw [if_neg (by omega), if_neg (by decide)]
      obtain ⟨v', σ', ρ', f1, f2, f3, f4⟩ := ez_scan hg rfl (k27 := fz_X0_hasCircle_27 2000000 k) i0 (by omega) (m0 := dz_ct (σ.2 237) 1 (dz_N g).toNat) (dz_N g).toNat 2000000 σ 0 0 ρ (by omega) hF hX hU hc hM (by omega) (by omega) (Or.inr ⟨rfl, Nat.le_refl _, fun t t0 t1 => by omega⟩)
      rw [run, f1]
      have e235 : σ'.2 235 = σ.2 235 := funext fun n => f2.2.2 235 n (by omega)
      obtain ⟨r, σ2, s1, s2, s3⟩ := ih k σ' v' (it + 1) ρ' (by omega) (hF.upd f2) (hX.cong (fun n => f2.2.2 232 n (by omega)) (fun n => f2.2.2 238 n (by omega))) (by rw [e235]; exact hU) (by rw [f2.2.2 231 0 (by omega)]; exact hc) f3 (by omega) (by omega) (by
        rcases f4 with ⟨e, h⟩ | ⟨e, -, h⟩
        · exact Or.inl ⟨e, by omega⟩
        · exact Or.inr ⟨e, h⟩)
      rw [e235] at s3
      exact ⟨r, σ2, s1, f2.trans s2, s3⟩
    · subst h1
      have run : fz_X0_hasCircle_27 2000000 (k + 1) σ 231 0 it = fz_X0_hasCircle_101 2000000 2000000 σ 231 0 := by
        conv => lhs; unfold fz_X0_hasCircle_27
        rw [if_pos rfl]
        split <;> rfl
      rw [run]
      exact fin k σ 0 it ρ hF hU hc hM h2
theorem ez_clr {g : dz_G} (hg : dz_ok g) : ∀ (d k : Nat) (σ : az_Hp) (i : Int), d < k → bz_Fx σ → σ.2 231 0 = dz_N g → 0 ≤ i → i + d = dz_N g → (∀ t, 0 ≤ t → t < i → σ.2 237 t = 0) → ∃ σ', fz_X0_hasCircle_2 2000000 k σ 231 i = fz_X0_hasCircle_27 2000000 2000000 σ' 231 1 0 ∧ bz_Upd σ σ' (fun a _ => a = 237) ∧ ∀ t, dz_In (dz_N g) t → σ'.2 237 t = 0 := by
  have hN := hg.2.1
  intro d
  induction d with
  | zero =>
    intro k σ i hk hF hc i0 hi hz
    obtain ⟨k, rfl⟩ : ∃ k', k = k' + 1 := ⟨k - 1, by omega⟩
    refine ⟨σ, ?_, bz_Upd.refl, fun t ht => hz t ht.1 (by have := ht.2; omega)⟩
    unfold fz_X0_hasCircle_2
    rw [if_neg (by omega)]
  | succ d ih =>
    intro k σ i hk hF hc i0 hi hz
    obtain ⟨k, rfl⟩ : ∃ k', k = k' + 1 := ⟨k - 1, by omega⟩
    have g6 := fx_231_6 hF
    have l6 := ln_237 hF
    have u1 : bz_Upd σ (az_wr σ 237 i 0) (fun a _ => a = 237) := bz_Upd.wr bz_Upd.refl rfl (by unfold bz_isFix; simp [bz_cap, bz_fixL, bz_rowsL])
    obtain ⟨σ', f1, f2, f3⟩ := ih k (az_wr σ 237 i 0) (i + 1) (by omega) (hF.upd u1) (by rw [az_wr_ne (by omega)]; exact hc) (by omega) (by omega) (fun t t0 t1 => by
      by_cases e : t = i
      · subst e; exact az_wr_same
      · rw [az_wr_ne (by omega)]; exact hz t t0 (by omega))
    refine ⟨σ', ?_, u1.trans f2, f3⟩
    rw [← f1]
    conv => lhs; unfold fz_X0_hasCircle_2
    rw [if_pos (by omega), g6, Option.bind_some, bz_awz i0 (by omega) (Or.inl rfl), Option.bind_some, az_w32_id (by omega) (by omega)]
theorem ez_hasCircle {g : dz_G} (hg : dz_ok g) {σ : az_Hp} (hF : bz_Fx σ) (hX : ez_X σ g) (hU : dz_UF (σ.2 235) (dz_N g)) (hc : σ.2 231 0 = dz_N g) : ∃ r σ', fz_X0_hasCircle 2000000 σ 231 = some (r, σ') ∧ bz_Upd σ σ' (fun a _ => a = 237) ∧ ((r = 0 ∧ ∃ ρ, dz_RK g (σ.2 235) ρ) ∨ (r = 1 ∧ ¬ ∃ ρ, dz_RK g (σ.2 235) ρ)) := by
  have hN := hg.2.1
  have hN0 := hg.1
  obtain ⟨σ1, f1, f2, f3⟩ := ez_clr hg (dz_N g).toNat 2000000 σ 0 (by omega) hF hc (by omega) (by omega) (fun t t0 t1 => by omega)
  have e235 : σ1.2 235 = σ.2 235 := funext fun n => f2.2.2 235 n (by omega)
  obtain ⟨r, σ2, s1, s2, s3⟩ := ez_rounds hg ((dz_N g).toNat + 2) 2000000 σ1 1 0 (fun _ => 0) (by omega) (hF.upd f2) (hX.cong (fun n => f2.2.2 232 n (by omega)) (fun n => f2.2.2 238 n (by omega))) (by rw [e235]; exact hU) (by rw [f2.2.2 231 0 (by omega)]; exact hc) ⟨fun n hn => Or.inl (f3 n hn), fun t ht _ mt => by rw [f3 t ht] at mt; omega⟩ (by omega) (by push_cast; omega) (Or.inl ⟨rfl, by omega⟩)
  rw [e235] at s3
  refine ⟨r, σ2, ?_, f2.trans s2, s3⟩
  unfold fz_X0_hasCircle
  rw [f1, s1]
