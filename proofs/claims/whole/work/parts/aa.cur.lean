/-! both at the same token -/
section CU
variable {tp : Int → Int} {N : Int}
def lx_kj (tp : Int → Int) (N : Int) (j : Nat) : Int := lx_k tp N (lx_pos tp N j)
def lx_vj (tp : Int → Int) (N : Int) (j : Nat) : Int := lx_v tp N (lx_pos tp N j)
def lx_fj (tp : Int → Int) (N : Int) (j : Nat) : Int := lx_f tp N (lx_pos tp N j)
theorem lx_tN {p : Int} (p0 : 0 ≤ p) (pN : p ≤ N) (k0 : lx_k tp N p ≠ 0) (k1 : lx_k tp N p ≠ 1) : p < lx_t tp N p ∧ lx_t tp N p ≤ N := by
  have eb := lx_while_le (P := lx_spc) (tp := tp) (N - p).toNat p
  change p ≤ lx_f tp N p ∧ lx_f tp N p ≤ p + ((N - p).toNat : Int) at eb
  have fN : lx_f tp N p < N := by
    by_cases c : lx_f tp N p < N
    · exact c
    · exfalso
      apply k0
      unfold lx_k lx_k0
      rw [if_pos (by omega)]
  unfold lx_t lx_t0
  by_cases cl : lx_let (tp (lx_f tp N p)) = true
  · rw [if_pos cl]
    have eb2 := lx_while_le (P := lx_let) (tp := tp) (N - lx_f tp N p).toNat (lx_f tp N p)
    change lx_f tp N p ≤ lx_e tp N (lx_f tp N p) ∧ lx_e tp N (lx_f tp N p) ≤ lx_f tp N p + ((N - lx_f tp N p).toNat : Int) at eb2
    have qe : lx_f tp N p < lx_e tp N (lx_f tp N p) := by
      have : lx_while lx_let tp ((N - lx_f tp N p).toNat - 1 + 1) (lx_f tp N p) = lx_e tp N (lx_f tp N p) := by unfold lx_e; rw [show (N - lx_f tp N p).toNat - 1 + 1 = (N - lx_f tp N p).toNat by omega]
      rw [← this]
      conv => rhs; unfold lx_while
      rw [if_pos cl]
      have := (lx_while_le (P := lx_let) (tp := tp) ((N - lx_f tp N p).toNat - 1) (lx_f tp N p + 1)).1
      omega
    omega
  · rw [if_neg cl]; omega
theorem lx_posN (N0 : 0 ≤ N) : ∀ j : Nat, (∀ i : Nat, i < j → lx_kj tp N i ≠ 0 ∧ lx_kj tp N i ≠ 1) → (j : Int) ≤ lx_pos tp N j ∧ lx_pos tp N j ≤ N := by
  intro j
  induction j with
  | zero => intro _; exact ⟨by show (0 : Int) ≤ 0; omega, N0⟩
  | succ j ih =>
    intro h
    have a := ih (fun i hi => h i (by omega))
    have b := h j (by omega)
    have c := lx_tN (tp := tp) (N := N) (p := lx_pos tp N j) (by omega) a.2 b.1 b.2
    show ((j + 1 : Nat) : Int) ≤ lx_t tp N (lx_pos tp N j) ∧ lx_t tp N (lx_pos tp N j) ≤ N
    push_cast
    omega
def lx_Cur (x m : az_Hp) (tp : Int → Int) (N : Int) (J j : Nat) : Prop := lx_Rec x tp N J ∧ j ≤ J ∧ (x.2 223 7 = (j : Int) + 1 ∧ x.2 223 8 = lx_kj tp N j ∧ (2 ≤ lx_kj tp N j → lx_kj tp N j ≤ 4 → x.2 223 9 = lx_vj tp N j) ∧ x.2 223 10 = lx_fj tp N j) ∧ lx_tape m tp N ∧ lx_M m (lx_kj tp N j) (lx_vj tp N j) (lx_fj tp N j) ∧ (lx_kj tp N j ≠ 0 → lx_kj tp N j ≠ 1 → m.2 804 7 = lx_pos tp N (j + 1))
/-- what a token is kept in -/
def lx_KX (a k : Int) : Prop := (a = 223 ∧ 7 ≤ k ∧ k ≤ 10) ∨ (a = 225 ∧ k = 3) ∨ (226 ≤ a ∧ a ≤ 228)
def lx_KM (a k : Int) : Prop := (a = 804 ∧ 5 ≤ k ∧ k ≤ 13 ∧ k ≠ 11 ∧ k ≠ 12) ∨ a = 805
theorem lx_Cur.upd {x m x' m' : az_Hp} {J j : Nat} {S S' : Int → Int → Prop} (h : lx_Cur x m tp N J j) (hx : bz_Upd x x' S) (hm : bz_Upd m m' S') (hs : ∀ a k, S a k → ¬ lx_KX a k) (hs' : ∀ a k, S' a k → ¬ lx_KM a k) : lx_Cur x' m' tp N J j := by
  obtain ⟨⟨r1, r2, r3, r4, r5⟩, h2, ⟨h3, h4, h5, h6⟩, ⟨t1, t2, t3⟩, ⟨m1, m2⟩, h8⟩ := h
  have X : ∀ a k, lx_KX a k → x'.2 a k = x.2 a k := fun a k q => hx.2.2 a k (fun c => hs a k c q)
  have M : ∀ a k, lx_KM a k → m'.2 a k = m.2 a k := fun a k q => hm.2.2 a k (fun c => hs' a k c q)
  have Mk : ∀ k, 5 ≤ k → k ≤ 13 → k ≠ 11 → k ≠ 12 → m'.2 804 k = m.2 804 k := fun k a b c d => M _ _ (Or.inl ⟨rfl, a, b, c, d⟩)
  have Xk : ∀ k, 7 ≤ k → k ≤ 10 → x'.2 223 k = x.2 223 k := fun k a b => X _ _ (Or.inl ⟨rfl, a, b⟩)
  refine ⟨⟨by rw [X 225 3 (Or.inr (Or.inl ⟨rfl, rfl⟩))]; exact r1, r2, fun i hi => ?_, r4, r5⟩, h2, ⟨by rw [Xk 7 (by omega) (by omega)]; exact h3, by rw [Xk 8 (by omega) (by omega)]; exact h4, fun a b => by rw [Xk 9 (by omega) (by omega)]; exact h5 a b, by rw [Xk 10 (by omega) (by omega)]; exact h6⟩, ⟨by rw [Mk 5 (by omega) (by omega) (by omega) (by omega)]; exact t1, t2, fun i i0 i1 => by rw [M 805 i (Or.inr rfl)]; exact t3 i i0 i1⟩, ⟨by rw [Mk 6 (by omega) (by omega) (by omega) (by omega)]; exact m1, ?_⟩, fun a b => by rw [Mk 7 (by omega) (by omega) (by omega) (by omega)]; exact h8 a b⟩
  · obtain ⟨a1, a2, a3⟩ := r3 i hi
    exact ⟨by rw [X 226 _ (Or.inr (Or.inr (by omega)))]; exact a1, fun b c => by rw [X 227 _ (Or.inr (Or.inr (by omega)))]; exact a2 b c, by rw [X 228 _ (Or.inr (Or.inr (by omega)))]; exact a3⟩
  · rw [Mk 8 (by omega) (by omega) (by omega) (by omega), Mk 9 (by omega) (by omega) (by omega) (by omega), Mk 10 (by omega) (by omega) (by omega) (by omega), Mk 13 (by omega) (by omega) (by omega) (by omega)]
    exact m2
def lx_nX (a k : Int) : Prop := a = 223 ∧ 7 ≤ k ∧ k ≤ 10
/-- both go on by one token -/
theorem lx_next {x m : az_Hp} {J j : Nat} (hX : bz_Fx x) (hM : bz_Fx m) (h : lx_Cur x m tp N J j) (k0 : lx_kj tp N j ≠ 0) (k1 : lx_kj tp N j ≠ 1) : ∃ x' m', fz_X4_next x 223 = some x' ∧ fz_X11_go 2000000 m 804 = some m' ∧ lx_Cur x' m' tp N J (j + 1) ∧ bz_Upd x x' lx_nX ∧ bz_Upd m m' lx_S := by
  obtain ⟨⟨r1, r2, r3, r4, r5⟩, h2, ⟨h3, h4, h5, h6⟩, hT, hM1, h8⟩ := h
  have N9 := hT.2.1
  have jJ : j < J := by
    by_cases e : j = J
    · exfalso
      subst e
      rcases r5 with q | q
      · exact k0 q
      · exact k1 q
    · omega
  have ps := lx_posN (tp := tp) N9.1 (j + 1) (fun i hi => r4 i (by omega))
  obtain ⟨m', g1, g2, g3, g4⟩ := lx_go hM hT (h8 k0 k1) (by omega) ps.2
  obtain ⟨a1, a2, a3⟩ := r3 (j + 1) (by omega)
  have l226 := ln_226 hX
  have ej : ((j + 1 : Nat) : Int) = (j : Int) + 1 := by push_cast; rfl
  rw [ej] at a1 a2 a3
  have ua : bz_Upd x (az_wr x 223 8 (x.2 226 ((j : Int) + 1))) lx_nX := bz_Upd.wr bz_Upd.refl ⟨rfl, by omega, by omega⟩ (by decide)
  have ub : bz_Upd x (az_wr (az_wr x 223 8 (x.2 226 ((j : Int) + 1))) 223 9 (x.2 227 ((j : Int) + 1))) lx_nX := bz_Upd.wr ua ⟨rfl, by omega, by omega⟩ (by decide)
  have uc : bz_Upd x (az_wr (az_wr (az_wr x 223 8 (x.2 226 ((j : Int) + 1))) 223 9 (x.2 227 ((j : Int) + 1))) 223 10 (x.2 228 ((j : Int) + 1))) lx_nX := bz_Upd.wr ub ⟨rfl, by omega, by omega⟩ (by decide)
  have ud : bz_Upd x (az_wr (az_wr (az_wr (az_wr x 223 8 (x.2 226 ((j : Int) + 1))) 223 9 (x.2 227 ((j : Int) + 1))) 223 10 (x.2 228 ((j : Int) + 1))) 223 7 ((j : Int) + 1 + 1)) lx_nX := bz_Upd.wr uc ⟨rfl, by omega, by omega⟩ (by decide)
  have h1 := hX.upd ua
  have h2' := hX.upd ub
  refine ⟨_, m', ?_, g1, ?_, ud, g2⟩
  · unfold fz_X4_next
    rw [fx_223_6 hX, Option.bind_some, h3, r1, if_pos (by omega), Option.bind_some, fx_225_0 hX, Option.bind_some, bz_ard (by omega) (by omega), Option.bind_some, fx_223_6 h1, Option.bind_some, fx_225_1 h1, Option.bind_some, az_wr_ne (by omega), h3, bz_ard (by omega) (by rw [ln_227 h1]; omega), Option.bind_some, az_wr_ne (by omega), fx_223_6 h2', Option.bind_some, fx_225_2 h2', Option.bind_some, az_wr_ne (by omega), az_wr_ne (by omega), h3, bz_ard (by omega) (by rw [ln_228 h2']; omega), Option.bind_some, az_wr_ne (by omega), az_wr_ne (by omega), az_wr_ne (by omega), az_wr_ne (by omega), az_wr_ne (by omega), h3, az_w32_id (by omega) (by omega)]
  · obtain ⟨y, hy⟩ : ∃ y, y = (az_wr (az_wr (az_wr (az_wr x 223 8 (x.2 226 ((j : Int) + 1))) 223 9 (x.2 227 ((j : Int) + 1))) 223 10 (x.2 228 ((j : Int) + 1))) 223 7 ((j : Int) + 1 + 1)) := ⟨_, rfl⟩
    rw [← hy] at ud ⊢
    have Y : ∀ a k, a = 225 ∨ (226 ≤ a ∧ a ≤ 228) → y.2 a k = x.2 a k := fun a k q => ud.2.2 a k (fun z => by unfold lx_nX at z; omega)
    refine ⟨⟨by rw [Y _ _ (by omega)]; exact r1, r2, fun i hi => ?_, r4, r5⟩, by omega, ⟨by rw [hy, az_wr_same]; push_cast; rfl, ?_, fun b c => ?_, ?_⟩, hT.upd g2, g3, fun a b => by rw [g4 a b]; rfl⟩
    · obtain ⟨b1, b2, b3⟩ := r3 i hi
      exact ⟨by rw [Y _ _ (by omega)]; exact b1, fun b c => by rw [Y _ _ (by omega)]; exact b2 b c, by rw [Y _ _ (by omega)]; exact b3⟩
    · rw [hy, az_wr_ne (by omega), az_wr_ne (by omega), az_wr_ne (by omega), az_wr_same]; exact a1
    · rw [hy, az_wr_ne (by omega), az_wr_ne (by omega), az_wr_same]; exact a2 b c
    · rw [hy, az_wr_ne (by omega), az_wr_same]; exact a3
/-- a sign -/
theorem lx_sign {x m : az_Hp} {J j : Nat} {c : Int} (h : lx_Cur x m tp N J j) (hc : lx_sgn c = true) : fz_X11_isSign m 804 c = some (if lx_kj tp N j = c then 1 else 0) := by
  obtain ⟨-, -, -, -, ⟨-, hm⟩, -⟩ := h
  have cP := lx_sgnP.mp hc
  unfold fz_X11_isSign
  rcases hm with ⟨e, q⟩ | ⟨e, q⟩ | ⟨e, q, -⟩ | ⟨e, q, -⟩ | ⟨e, q, -⟩ | ⟨e, q, q2⟩
  · rw [if_neg (by omega), if_neg (by omega)]
  · rw [if_neg (by omega), if_neg (by omega)]
  · rw [if_neg (by omega), if_neg (by omega)]
  · rw [if_neg (by omega), if_neg (by omega)]
  · rw [if_neg (by omega), if_neg (by omega)]
  · rw [if_pos q, q2]
    split <;> rfl
/-- kinds -/
theorem lx_kind {x m : az_Hp} {J j : Nat} (h : lx_Cur x m tp N J j) : (m.2 804 8 = 0 ↔ lx_kj tp N j = 0) ∧ (m.2 804 8 = 1 ↔ lx_kj tp N j = 1) ∧ (m.2 804 8 = 2 ↔ lx_kj tp N j = 2) ∧ (m.2 804 8 = 3 ↔ lx_kj tp N j = 3) ∧ (m.2 804 8 = 4 ↔ lx_kj tp N j = 4) := by
  obtain ⟨-, -, -, -, ⟨-, hm⟩, -⟩ := h
  rcases hm with ⟨e, q⟩ | ⟨e, q⟩ | ⟨e, q, -⟩ | ⟨e, q, -⟩ | ⟨e, q, -⟩ | ⟨e, q, q2⟩
  · omega
  · omega
  · omega
  · omega
  · omega
  · rw [lx_sgnP] at e; omega
/-- a fault -/
def lx_fault (x m : az_Hp) : Prop := x.2 223 0 = m.2 804 11 ∧ x.2 223 1 = m.2 804 12
theorem lx_fail {x m : az_Hp} {J j : Nat} (h : lx_Cur x m tp N J j) (k : Int) : ∃ x' m', fz_X4_fail x 223 k = some (0, x') ∧ fz_X11_bad m 804 k = some (0, m') ∧ bz_Upd x x' (fun a k => a = 223 ∧ (k = 0 ∨ k = 1)) ∧ bz_Upd m m' (fun a k => a = 804 ∧ (k = 11 ∨ k = 12)) ∧ lx_fault x' m' := by
  have kd := lx_kind h
  obtain ⟨-, -, ⟨-, h4, -, h6⟩, -, ⟨m1, -⟩, -⟩ := h
  unfold fz_X4_fail fz_X11_bad
  by_cases c : lx_kj tp N j = 1
  · rw [if_pos (by omega), if_pos (kd.2.1.mpr c)]
    refine ⟨_, _, rfl, rfl, bz_Upd.wr (bz_Upd.wr bz_Upd.refl ⟨rfl, Or.inl rfl⟩ (by decide)) ⟨rfl, Or.inr rfl⟩ (by decide), bz_Upd.wr (bz_Upd.wr bz_Upd.refl ⟨rfl, Or.inl rfl⟩ (by decide)) ⟨rfl, Or.inr rfl⟩ (by decide), ?_, ?_⟩
    · rw [az_wr_ne (by omega), az_wr_same, az_wr_ne (by omega), az_wr_same]
    · rw [az_wr_same, az_wr_same, az_wr_ne (by omega), az_wr_ne (by omega), h6, m1]
  · rw [if_neg (by omega), if_neg (fun z => c (kd.2.1.mp z))]
    refine ⟨_, _, rfl, rfl, bz_Upd.wr (bz_Upd.wr bz_Upd.refl ⟨rfl, Or.inl rfl⟩ (by decide)) ⟨rfl, Or.inr rfl⟩ (by decide), bz_Upd.wr (bz_Upd.wr bz_Upd.refl ⟨rfl, Or.inl rfl⟩ (by decide)) ⟨rfl, Or.inr rfl⟩ (by decide), ?_, ?_⟩
    · rw [az_wr_ne (by omega), az_wr_same, az_wr_ne (by omega), az_wr_same]
    · rw [az_wr_same, az_wr_same, az_wr_ne (by omega), az_wr_ne (by omega), h6, m1]
end CU
