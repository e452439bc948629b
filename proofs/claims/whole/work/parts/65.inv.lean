/-! J: what holds between the calls. T: the class's Told in use, s: the reference's side -/
theorem bz_tS.refl {σ : az_Hp} : bz_tS σ σ := fun _ _ _ => rfl
theorem bz_tS.symm {σ σ' : az_Hp} (h : bz_tS σ σ') : bz_tS σ' σ := fun a k q => (h a k q).symm
theorem bz_tS.trans {σ σ' σ'' : az_Hp} (h : bz_tS σ σ') (h' : bz_tS σ' σ'') : bz_tS σ σ'' := fun a k q => (h' a k q).trans (h a k q)
/-- the same in every cell in which the class tells, and the reference: in use alone -/
def mz_cS (T : Int) (σ σ' : az_Hp) : Prop := ∀ a k, (T ≤ a ∧ a ≤ T + 10) ∨ (T + 15 ≤ a ∧ a ≤ T + 78) → σ'.2 a k = σ.2 a k
def mz_mS (s : Int) (σ σ' : az_Hp) : Prop := ∀ a k, (806 ≤ a ∧ a ≤ 808 ∧ k = s) ∨ ((a = 809 ∨ a = 811) ∧ 8 * s ≤ k ∧ k < 8 * s + 8) ∨ ((a = 810 ∨ (812 ≤ a ∧ a ≤ 814)) ∧ 5 * s ≤ k ∧ k < 5 * s + 5) ∨ ((a = 815 ∨ a = 816) ∧ 256 * s ≤ k ∧ k < 256 * s + 256) ∨ (817 ≤ a ∧ a ≤ 819 ∧ 16 * s ≤ k ∧ k < 16 * s + 16) → σ'.2 a k = σ.2 a k
theorem mz_cS.refl {T : Int} {σ : az_Hp} : mz_cS T σ σ := fun _ _ _ => rfl
theorem mz_cS.trans {T : Int} {σ σ' σ'' : az_Hp} (h : mz_cS T σ σ') (h' : mz_cS T σ' σ'') : mz_cS T σ σ'' := fun a k q => (h' a k q).trans (h a k q)
theorem mz_cS.symm {T : Int} {σ σ' : az_Hp} (h : mz_cS T σ σ') : mz_cS T σ' σ := fun a k q => (h a k q).symm
theorem mz_mS.refl {s : Int} {σ : az_Hp} : mz_mS s σ σ := fun _ _ _ => rfl
theorem mz_mS.trans {s : Int} {σ σ' σ'' : az_Hp} (h : mz_mS s σ σ') (h' : mz_mS s σ' σ'') : mz_mS s σ σ'' := fun a k q => (h' a k q).trans (h a k q)
theorem bz_tS.cS {T : Int} {σ σ' : az_Hp} (h : bz_tS σ σ') (hT : T = 3 ∨ T = 82) : mz_cS T σ σ' := fun a k q => h a k (by omega)
theorem bz_tS.mS {s : Int} {σ σ' : az_Hp} (h : bz_tS σ σ') : mz_mS s σ σ' := fun a k q => h a k (by omega)
/-- the class's cells that joining uses -/
def cz_SJ (a k : Int) : Prop := (a = 231 ∧ k = 0) ∨ (232 ≤ a ∧ a ≤ 241) ∨ (a = 242 ∧ k = 1)
/-- the reference's -/
def cz_SM (a k : Int) : Prop := (a = 804 ∧ 49 ≤ k ∧ k ≤ 52) ∨ (823 ≤ a ∧ a ≤ 833)
def cz_Core (σ : az_Hp) (T s : Int) : Prop := bz_Fx σ ∧ σ.2 1 5 = T ∧ σ.2 1 6 = 85 - T ∧ σ.2 804 14 = s ∧ σ.2 804 15 = s ∧ σ.2 243 2 = T ∧ σ.2 243 4 = 0 ∧ bz_TR σ T s
def cz_Tape (σ : az_Hp) : Prop := 0 ≤ σ.2 1 1 ∧ σ.2 1 1 ≤ 900 ∧ σ.2 804 1 = σ.2 1 1 ∧ ∀ i, 0 ≤ i → i < σ.2 1 1 → σ.2 2 i = σ.2 805 i ∧ 0 ≤ σ.2 2 i ∧ σ.2 2 i ≤ 255
def cz_Stat (σ : az_Hp) : Prop := σ.2 1 3 = σ.2 804 3 ∧ σ.2 1 4 = σ.2 804 4 ∧ σ.2 1 15 = σ.2 804 82
/-- the tables of two equations and of families used backwards -/
def cz_Mt (σ : az_Hp) (T e o : Int) : Prop := (σ.2 834 (16 * e + o) = 0 ∨ σ.2 834 (16 * e + o) = 1 ∨ σ.2 834 (16 * e + o) = 2) ∧ ∀ σx, bz_Fx σx → mz_cS T σ σx → ∃ σ', fz_X1_meetLefts 2000000 σx 242 T e o = some (σ.2 834 (16 * e + o), σ') ∧ bz_Upd σx σ' cz_SJ
def cz_SB (a k : Int) : Prop := cz_SM a k ∨ (a = 804 ∧ 63 ≤ k ∧ k ≤ 65)
def cz_Bd (σ : az_Hp) (T s f : Int) : Prop := ∀ σm, bz_Fx σm → mz_cS T σ σm → mz_mS s σ σm → σm.2 804 15 = s → ∃ σ', fz_X11_isBad 2000000 σm 804 f = some (if σ.2 (T + 12) f = 0 then 0 else 1, σ') ∧ bz_Upd σm σ' cz_SB ∧ (σ.2 (T + 12) f ≠ 0 → σ'.2 804 63 = σ.2 (T + 12) f ∧ σ'.2 804 64 = σ.2 (T + 13) f ∧ σ'.2 804 65 = σ.2 (T + 14) f)
def cz_Tab (σ : az_Hp) (T s : Int) : Prop :=
  (∀ e o, 0 ≤ e → e < σ.2 T 2 → 0 ≤ o → o < σ.2 T 2 → cz_Mt σ T e o ∧ (σ.2 (T + 7) e = σ.2 (T + 7) o → σ.2 (T + 11) (16 * e + o) = σ.2 835 (16 * e + o) ∧ (σ.2 835 (16 * e + o) = 0 ∨ σ.2 835 (16 * e + o) = 1))) ∧
  ∀ f, 0 ≤ f → f < σ.2 T 1 → cz_Bd σ T s f
/-- THE TERM -/
def cz_VT (σ : az_Hp) (a b : Int) : Prop := 0 ≤ b ∧ b < 12 ∧ σ.2 379 b = a ∧ bz_WR 96 a (σ.2 845 b) ∧ ∀ j, 0 ≤ j → j < b → σ.2 379 j ≠ a
def cz_Term (σ : az_Hp) (T s : Int) : Prop := (0 ≤ σ.2 375 1 ∧ σ.2 375 1 ≤ 60 ∧ σ.2 804 81 = σ.2 375 1) ∧ (0 < σ.2 375 1 → bz_RR σ T s (cz_VT σ) 375 844 0 (σ.2 375 1) ∧ bz_Sc (bz_ra σ 375) (σ.2 375 1).toNat 1 0 ∧ ∀ i, 0 ≤ i → i < σ.2 375 1 → σ.2 844 i < 2000)
/-- WANTED -/
def cz_VW (σ : az_Hp) (a b : Int) : Prop := 0 ≤ b ∧ b < 450 ∧ bz_WR 96 a (σ.2 858 b) ∧ ∀ j, 0 ≤ j → j < b → σ.2 858 j ≠ σ.2 858 b
def cz_bn (σ : az_Hp) (k w : Int) : Int := if k < σ.2 380 5 ∧ 0 < σ.2 864 k then w else 0
def cz_Val (σ : az_Hp) (T s k : Int) : Prop := σ.2 (789 + 2 * k) 1 = σ.2 864 k ∧ σ.2 864 k ≤ 60 ∧ bz_RR σ T s (cz_VW σ) (789 + 2 * k) 863 (60 * k) (σ.2 864 k) ∧ bz_Sc (bz_ra σ (789 + 2 * k)) (σ.2 864 k).toNat 1 0
def cz_Rk (σ : az_Hp) (ρ : Int → Nat) : Prop := (∀ k, ρ k < 6) ∧ ∀ k i, 0 ≤ k → k < σ.2 380 5 → 0 ≤ i → i < σ.2 864 k → 2000 ≤ σ.2 863 (60 * k + i) → σ.2 863 (60 * k + i) - 2000 < σ.2 380 5 ∧ (0 < σ.2 864 (σ.2 863 (60 * k + i) - 2000) → ρ (σ.2 863 (60 * k + i) - 2000) < ρ k)
def cz_Wan (σ : az_Hp) (T s : Int) : Prop :=
  (σ.2 380 0 = σ.2 804 87 ∧ (σ.2 380 0 = 0 ∨ σ.2 380 0 = 1)) ∧ (σ.2 380 5 = σ.2 804 101 ∧ 0 ≤ σ.2 380 5 ∧ σ.2 380 5 ≤ 6) ∧
  (σ.2 380 0 = 1 → σ.2 380 1 = σ.2 804 108 ∧ σ.2 380 2 = σ.2 804 109 ∧ σ.2 380 3 = σ.2 804 110 ∧ σ.2 380 4 = σ.2 804 111) ∧
  σ.2 380 6 = cz_bn σ 0 1 + cz_bn σ 1 2 + cz_bn σ 2 4 + cz_bn σ 3 8 + cz_bn σ 4 16 + cz_bn σ 5 32 ∧
  (∀ k, 0 ≤ k → k < σ.2 380 5 → bz_WR 96 (σ.2 381 k) (σ.2 859 k) ∧ 0 ≤ σ.2 864 k ∧ (0 < σ.2 864 k → cz_Val σ T s k)) ∧
  (∃ ρ, cz_Rk σ ρ) ∧
  (∀ q, 0 ≤ q → q < 100 → 0 ≤ σ.2 383 q ∧ σ.2 383 q < 100) ∧ ∀ q p, 0 ≤ q → q < 100 → 0 ≤ p → p < 100 → σ.2 383 q = σ.2 383 p → q = p
/-- OUT -/
def cz_Out (σ : az_Hp) : Prop :=
  (∃ j : Nat, j ≤ 7 ∧ σ.1.1 = 867 + j ∧ σ.1.2.1 ≤ 1100000 + 2048 * 2 ^ j ∧ az_ln σ (σ.2 801 1) = 1024 * 2 ^ j ∧ σ.2 801 1 = if j = 0 then 802 else 867 + (j : Int)) ∧
  (0 ≤ σ.2 801 0 ∧ σ.2 801 0 ≤ az_ln σ (σ.2 801 1) ∧ σ.2 801 0 ≤ 100000 ∧ σ.2 804 57 = σ.2 801 0) ∧ (σ.2 804 58 = 0 → σ.2 801 0 = 0) ∧ (σ.2 804 58 = 0 ∨ σ.2 804 58 = 1) ∧
  ∀ i, 0 ≤ i → i < σ.2 801 0 → σ.2 (σ.2 801 1) i = σ.2 836 i
def cz_K (σ : az_Hp) (T s : Int) : Prop := cz_Core σ T s ∧ cz_Tape σ ∧ cz_Stat σ ∧ cz_Tab σ T s ∧ cz_Term σ T s ∧ cz_Wan σ T s ∧ cz_Out σ
def cz_J (σ : az_Hp) : Prop := ∃ T s, cz_K σ T s ∧ σ.2 1 2 = σ.2 804 2
/-! each piece looks at its own cells alone -/
theorem cz_Tape.cong {σ σ' : az_Hp} (e1 : σ'.2 1 1 = σ.2 1 1) (e2 : σ'.2 804 1 = σ.2 804 1) (e3 : ∀ i, σ'.2 2 i = σ.2 2 i) (e4 : ∀ i, σ'.2 805 i = σ.2 805 i) (h : cz_Tape σ) : cz_Tape σ' := by
  unfold cz_Tape at h ⊢
  simp only [e1, e2, e3, e4]
  exact h
theorem cz_Tab.cong {σ σ' : az_Hp} {T s : Int} (hT : T = 3 ∨ T = 82) (ht : bz_tS σ σ') (e1 : ∀ a k, (14 ≤ a ∧ a ≤ 17) ∨ (93 ≤ a ∧ a ≤ 96) ∨ a = 834 ∨ a = 835 → σ'.2 a k = σ.2 a k) (h : cz_Tab σ T s) : cz_Tab σ' T s := by
  have g0 : ∀ k, σ'.2 T k = σ.2 T k := fun k => ht T k (by omega)
  have g7 : ∀ k, σ'.2 (T + 7) k = σ.2 (T + 7) k := fun k => ht _ k (by omega)
  have g11 : ∀ k, σ'.2 (T + 11) k = σ.2 (T + 11) k := fun k => e1 _ k (by omega)
  have g12 : ∀ k, σ'.2 (T + 12) k = σ.2 (T + 12) k := fun k => e1 _ k (by omega)
  have g13 : ∀ k, σ'.2 (T + 13) k = σ.2 (T + 13) k := fun k => e1 _ k (by omega)
  have g14 : ∀ k, σ'.2 (T + 14) k = σ.2 (T + 14) k := fun k => e1 _ k (by omega)
  have m1 : ∀ k, σ'.2 834 k = σ.2 834 k := fun k => e1 _ k (by omega)
  have m2 : ∀ k, σ'.2 835 k = σ.2 835 k := fun k => e1 _ k (by omega)
  unfold cz_Tab cz_Mt cz_Bd at h ⊢
  simp only [g0, g7, g11, g12, g13, g14, m1, m2]
  exact ⟨fun e o h0 h1 h2 h3 => ⟨⟨(h.1 e o h0 h1 h2 h3).1.1, fun σx f t => (h.1 e o h0 h1 h2 h3).1.2 σx f ((ht.cS hT).trans t)⟩, (h.1 e o h0 h1 h2 h3).2⟩, fun f h0 h1 σm f1 t t' f2 => h.2 f h0 h1 σm f1 ((ht.cS hT).trans t) (ht.mS.trans t') f2⟩
theorem cz_VT.cong {σ σ' : az_Hp} (e1 : ∀ i, σ'.2 379 i = σ.2 379 i) (e2 : ∀ i, σ'.2 845 i = σ.2 845 i) : cz_VT σ' = cz_VT σ := by
  funext a b
  unfold cz_VT
  simp only [e1, e2]
theorem cz_VW.cong {σ σ' : az_Hp} (e1 : ∀ i, σ'.2 858 i = σ.2 858 i) : cz_VW σ' = cz_VW σ := by
  funext a b
  unfold cz_VW
  simp only [e1]
theorem cz_Term.cong {σ σ' : az_Hp} {T s : Int} (hT : T = 3 ∨ T = 82) (ht : bz_tS σ σ') (e1 : ∀ a k, a = 375 ∨ a = 376 ∨ a = 379 ∨ a = 844 ∨ a = 845 → σ'.2 a k = σ.2 a k) (e2 : σ'.2 804 81 = σ.2 804 81) (h : cz_Term σ T s) : cz_Term σ' T s := by
  have g1 : ∀ k, σ'.2 375 k = σ.2 375 k := fun k => e1 _ k (by omega)
  have g2 : ∀ k, σ'.2 376 k = σ.2 376 k := fun k => e1 _ k (by omega)
  have g4 : ∀ k, σ'.2 844 k = σ.2 844 k := fun k => e1 _ k (by omega)
  have hv := cz_VT.cong (σ := σ) (σ' := σ') (fun k => e1 _ k (by omega)) (fun k => e1 _ k (by omega))
  have hr : bz_ra σ' 375 = bz_ra σ 375 := funext fun k => by unfold bz_ra; rw [show (375 : Int) + 1 = 376 from rfl, g2]
  unfold cz_Term at h ⊢
  rw [g1, e2, hv, hr]
  simp only [g4]
  exact ⟨h.1, fun q => ⟨((h.2 q).1).cong ht hT (fun i => by rw [show (375 : Int) + 1 = 376 from rfl, g2]) g4, (h.2 q).2⟩⟩
theorem cz_Wan.cong {σ σ' : az_Hp} {T s : Int} (hT : T = 3 ∨ T = 82) (ht : bz_tS σ σ') (e1 : ∀ k, 0 ≤ k → k ≤ 6 → σ'.2 380 k = σ.2 380 k) (e2 : ∀ a k, a = 381 ∨ a = 383 ∨ (789 ≤ a ∧ a ≤ 800) ∨ a = 858 ∨ a = 859 ∨ a = 863 ∨ a = 864 → σ'.2 a k = σ.2 a k) (e3 : ∀ k, k = 87 ∨ k = 101 ∨ (108 ≤ k ∧ k ≤ 111) → σ'.2 804 k = σ.2 804 k) (h : cz_Wan σ T s) : cz_Wan σ' T s := by
  have a0 := e1 0 (by omega) (by omega)
  have a1 := e1 1 (by omega) (by omega)
  have a2 := e1 2 (by omega) (by omega)
  have a3 := e1 3 (by omega) (by omega)
  have a4 := e1 4 (by omega) (by omega)
  have a5 := e1 5 (by omega) (by omega)
  have a6 := e1 6 (by omega) (by omega)
  have b1 : ∀ k, σ'.2 381 k = σ.2 381 k := fun k => e2 _ k (by omega)
  have b2 : ∀ k, σ'.2 383 k = σ.2 383 k := fun k => e2 _ k (by omega)
  have b5 : ∀ k, σ'.2 859 k = σ.2 859 k := fun k => e2 _ k (by omega)
  have b6 : ∀ k, σ'.2 863 k = σ.2 863 k := fun k => e2 _ k (by omega)
  have b7 : ∀ k, σ'.2 864 k = σ.2 864 k := fun k => e2 _ k (by omega)
  have hv := cz_VW.cong (σ := σ) (σ' := σ') (fun k => e2 _ k (by omega))
  have c1 := e3 87 (by omega)
  have c2 := e3 101 (by omega)
  have c3 := e3 108 (by omega)
  have c4 := e3 109 (by omega)
  have c5 := e3 110 (by omega)
  have c6 := e3 111 (by omega)
  obtain ⟨q1, q2, q3, q4, q5, q6, q7, q8⟩ := h
  unfold cz_Wan
  have qb : ∀ k w, cz_bn σ' k w = cz_bn σ k w := fun k w => by unfold cz_bn; rw [a5, b7]
  have qr : ∀ ρ, cz_Rk σ' ρ ↔ cz_Rk σ ρ := fun ρ => by unfold cz_Rk; simp only [a5, b6, b7]
  simp only [a0, a1, a2, a3, a4, a5, a6, b1, b2, b5, b7, c1, c2, c3, c4, c5, c6, qb, qr]
  refine ⟨q1, q2, q3, q4, fun k h0 h1 => ⟨(q5 k h0 h1).1, (q5 k h0 h1).2.1, fun hp => ?_⟩, q6, q7, q8⟩
  obtain ⟨v1, v2, v3, v4⟩ := (q5 k h0 h1).2.2 hp
  have g1 : ∀ i, σ'.2 (789 + 2 * k) i = σ.2 (789 + 2 * k) i := fun i => e2 _ i (by omega)
  have g2 : ∀ i, σ'.2 (789 + 2 * k + 1) i = σ.2 (789 + 2 * k + 1) i := fun i => e2 _ i (by omega)
  have hr : bz_ra σ' (789 + 2 * k) = bz_ra σ (789 + 2 * k) := funext fun i => by unfold bz_ra; rw [g2]
  unfold cz_Val
  rw [g1, b7, hv, hr]
  exact ⟨v1, v2, v3.cong ht hT g2 b6, v4⟩
theorem cz_Out.cong {σ σ' : az_Hp} (e0 : σ'.1 = σ.1) (e1 : σ'.2 801 0 = σ.2 801 0) (e2 : σ'.2 801 1 = σ.2 801 1) (e3 : ∀ a k, a = 802 ∨ 867 < a ∨ a = 836 → σ'.2 a k = σ.2 a k) (e4 : σ'.2 804 57 = σ.2 804 57) (e5 : σ'.2 804 58 = σ.2 804 58) (h : cz_Out σ) : cz_Out σ' := by
  obtain ⟨⟨j, j1, j2, j3, j4, j5⟩, h2, h3, h4, h5⟩ := h
  have hl : ∀ a, az_ln σ' a = az_ln σ a := fun a => by unfold az_ln; rw [e0]
  have hB : σ.2 801 1 = 802 ∨ 867 < σ.2 801 1 := by
    rw [j5]
    by_cases q : j = 0
    · rw [if_pos q]; exact Or.inl rfl
    · rw [if_neg q]; omega
  have g1 : ∀ i, σ'.2 (σ.2 801 1) i = σ.2 (σ.2 801 1) i := fun i => e3 _ i (by omega)
  have g2 : ∀ i, σ'.2 836 i = σ.2 836 i := fun i => e3 _ i (by omega)
  unfold cz_Out
  simp only [e0, e1, e2, e4, e5, hl, g1, g2]
  exact ⟨⟨j, j1, j2, j3, j4, j5⟩, h2, h3, h4, h5⟩
/-- what J doesn't look at -/
def cz_nk (a k : Int) : Prop := (a = 1 ∧ (k = 0 ∨ (7 ≤ k ∧ k ≤ 14) ∨ 16 ≤ k)) ∨ (161 ≤ a ∧ a ≤ 242) ∨ (a = 243 ∧ k ≠ 2 ∧ k ≠ 4) ∨ (244 ≤ a ∧ a ≤ 374) ∨ (377 ≤ a ∧ a ≤ 378) ∨ (a = 380 ∧ 7 ≤ k) ∨ a = 382 ∨ (384 ≤ a ∧ a ≤ 788) ∨ a = 803 ∨
  (a = 804 ∧ (k = 0 ∨ (5 ≤ k ∧ k ≤ 13) ∨ (16 ≤ k ∧ k ≤ 56) ∨ (59 ≤ k ∧ k ≤ 80) ∨ (83 ≤ k ∧ k ≤ 86) ∨ (88 ≤ k ∧ k ≤ 100) ∨ (102 ≤ k ∧ k ≤ 107) ∨ 112 ≤ k)) ∨ (820 ≤ a ∧ a ≤ 833) ∨ (837 ≤ a ∧ a ≤ 843) ∨ (846 ≤ a ∧ a ≤ 857) ∨ (860 ≤ a ∧ a ≤ 862) ∨ (865 ≤ a ∧ a ≤ 867)
theorem cz_nk1 {a k : Int} (q : (2 ≤ a ∧ a ≤ 160) ∨ (805 ≤ a ∧ a ≤ 819)) : ¬ cz_nk a k := by
  intro h
  unfold cz_nk at h
  rcases h with h | h | h | h | h | h | h | h | h | h | h | h | h | h | h <;> omega
theorem cz_nk2 {a k : Int} (q : (834 ≤ a ∧ a ≤ 836) ∨ (375 ≤ a ∧ a ≤ 376) ∨ a = 379 ∨ (844 ≤ a ∧ a ≤ 845)) : ¬ cz_nk a k := by
  intro h
  unfold cz_nk at h
  rcases h with h | h | h | h | h | h | h | h | h | h | h | h | h | h | h <;> omega
theorem cz_nk3 {a k : Int} (q : a = 381 ∨ a = 383 ∨ (789 ≤ a ∧ a ≤ 800) ∨ a = 858 ∨ a = 859 ∨ a = 863 ∨ a = 864) : ¬ cz_nk a k := by
  intro h
  unfold cz_nk at h
  rcases h with h | h | h | h | h | h | h | h | h | h | h | h | h | h | h <;> omega
theorem cz_nk4 {a k : Int} (q : a = 802 ∨ 867 < a ∨ a = 836) : ¬ cz_nk a k := by
  intro h
  unfold cz_nk at h
  rcases h with h | h | h | h | h | h | h | h | h | h | h | h | h | h | h <;> omega
theorem cz_nk5 {k : Int} (q : (1 ≤ k ∧ k ≤ 4) ∨ k = 14 ∨ k = 15 ∨ k = 57 ∨ k = 58 ∨ k = 81 ∨ k = 82 ∨ k = 87 ∨ k = 101 ∨ (108 ≤ k ∧ k ≤ 111)) : ¬ cz_nk 804 k := by
  intro h
  unfold cz_nk at h
  rcases h with h | h | h | h | h | h | h | h | h | h | h | h | h | h | h <;> omega
theorem cz_nk6 {k : Int} (q : (1 ≤ k ∧ k ≤ 6) ∨ k = 15) : ¬ cz_nk 1 k := by
  intro h
  unfold cz_nk at h
  rcases h with h | h | h | h | h | h | h | h | h | h | h | h | h | h | h <;> omega
theorem cz_nk7 {k : Int} (q : 0 ≤ k ∧ k ≤ 6) : ¬ cz_nk 380 k := by
  intro h
  unfold cz_nk at h
  rcases h with h | h | h | h | h | h | h | h | h | h | h | h | h | h | h <;> omega
theorem cz_nk8 {k : Int} (q : k = 2 ∨ k = 4) : ¬ cz_nk 243 k := by
  intro h
  unfold cz_nk at h
  rcases h with h | h | h | h | h | h | h | h | h | h | h | h | h | h | h <;> omega
theorem cz_nk9 {k : Int} : ¬ cz_nk 801 k := by
  intro h
  unfold cz_nk at h
  rcases h with h | h | h | h | h | h | h | h | h | h | h | h | h | h | h <;> omega
def cz_ns (a k : Int) : Prop := cz_nk a k ∨ (a = 1 ∧ k = 2) ∨ (a = 804 ∧ k = 2)
/-- a change that leaves all of J but both latest states alone -/
theorem cz_keep {σ σ' : az_Hp} {T s : Int} (hU : bz_Upd σ σ' cz_ns) (h : cz_K σ T s) : cz_K σ' T s := by
  obtain ⟨hc, h1, h2, h3, h4, h5, h6⟩ := h
  have hF : bz_Fx σ' := hc.1.upd hU
  have e0 := hU.1
  have E : ∀ a k, ¬ cz_nk a k → ¬ (a = 1 ∧ k = 2) → ¬ (a = 804 ∧ k = 2) → σ'.2 a k = σ.2 a k := fun a k q n1 n2 => hU.2.2 a k (fun c => by rcases c with c | c | c; exact q c; exact n1 c; exact n2 c)
  obtain ⟨c1, c2, c3, c4, c5, c6, c7, c8⟩ := hc
  have hT := c8.1
  have ht : bz_tS σ σ' := fun a k q => E a k (cz_nk1 (by omega)) (by omega) (by omega)
  have g5 : ∀ k, k = 1 ∨ k = 3 ∨ k = 4 ∨ k = 14 ∨ k = 15 ∨ k = 57 ∨ k = 58 ∨ k = 81 ∨ k = 82 ∨ k = 87 ∨ k = 101 ∨ (108 ≤ k ∧ k ≤ 111) → σ'.2 804 k = σ.2 804 k := fun k q => E 804 k (cz_nk5 (by omega)) (by omega) (by omega)
  have g6 : ∀ k, k = 1 ∨ (3 ≤ k ∧ k ≤ 6) ∨ k = 15 → σ'.2 1 k = σ.2 1 k := fun k q => E 1 k (cz_nk6 (by omega)) (by omega) (by omega)
  refine ⟨⟨hF, ?_, ?_, ?_, ?_, ?_, ?_, c8.cong ht⟩, ?_, ?_, ?_, ?_, ?_, ?_⟩
  · rw [g6 5 (by omega)]; exact c2
  · rw [g6 6 (by omega)]; exact c3
  · rw [g5 14 (by omega)]; exact c4
  · rw [g5 15 (by omega)]; exact c5
  · rw [E 243 2 (cz_nk8 (by omega)) (by omega) (by omega)]; exact c6
  · rw [E 243 4 (cz_nk8 (by omega)) (by omega) (by omega)]; exact c7
  · exact h1.cong (g6 1 (by omega)) (g5 1 (by omega)) (fun i => E 2 i (cz_nk1 (by omega)) (by omega) (by omega)) (fun i => E 805 i (cz_nk1 (by omega)) (by omega) (by omega))
  · refine ⟨?_, ?_, ?_⟩
    · rw [g6 3 (by omega), g5 3 (by omega)]; exact h2.1
    · rw [g6 4 (by omega), g5 4 (by omega)]; exact h2.2.1
    · rw [g6 15 (by omega), g5 82 (by omega)]; exact h2.2.2
  · refine h3.cong hT ht (fun a k q => ?_)
    rcases q with q | q | q | q
    · exact E a k (cz_nk1 (by omega)) (by omega) (by omega)
    · exact E a k (cz_nk1 (by omega)) (by omega) (by omega)
    · exact E a k (cz_nk2 (by omega)) (by omega) (by omega)
    · exact E a k (cz_nk2 (by omega)) (by omega) (by omega)
  · exact h4.cong hT ht (fun a k q => E a k (cz_nk2 (by omega)) (by omega) (by omega)) (g5 81 (by omega))
  · exact h5.cong hT ht (fun k q0 q1 => E 380 k (cz_nk7 ⟨q0, q1⟩) (by omega) (by omega)) (fun a k q => E a k (cz_nk3 q) (by omega) (by omega)) (fun k q => g5 k (by omega))
  · exact h6.cong e0 (E 801 0 cz_nk9 (by omega) (by omega)) (E 801 1 cz_nk9 (by omega) (by omega)) (fun a k q => E a k (cz_nk4 q) (by omega) (by omega)) (g5 57 (by omega)) (g5 58 (by omega))
/-- both give, both refuse -/
theorem cz_both {σ σ' : az_Hp} {T s : Int} (h : cz_K σ T s) {v : Int} (hU : bz_Upd σ σ' cz_ns) (h1 : σ'.2 1 2 = v) (h2 : σ'.2 804 2 = v) : cz_J σ' := ⟨T, s, cz_keep hU h, h1.trans h2.symm⟩
theorem cz_K1 {σ : az_Hp} {T s : Int} (h : cz_K σ T s) (v : Int) : cz_K (az_wr σ 1 2 v) T s := cz_keep (bz_Upd.wr bz_Upd.refl (Or.inr (Or.inl ⟨rfl, rfl⟩)) (by decide)) h
theorem cz_K2 {σ : az_Hp} {T s : Int} (h : cz_K σ T s) (v : Int) : cz_K (az_wr σ 804 2 v) T s := cz_keep (bz_Upd.wr bz_Upd.refl (Or.inr (Or.inr ⟨rfl, rfl⟩)) (by decide)) h
/-- a call that reads alone -/
theorem cz_rd {f g : az_Hp → Option (Int × az_Hp)} {σ : az_Hp} {T s : Int} (h : cz_K σ T s) {r v : Int} (hf : f σ = some (r, az_wr σ 1 2 v)) (hg : g (az_wr σ 1 2 v) = some (r, az_wr (az_wr σ 1 2 v) 804 2 v)) : ∃ r σ1 σ2, f σ = some (r, σ1) ∧ g σ1 = some (r, σ2) ∧ cz_J σ2 :=
  ⟨r, _, _, hf, hg, T, s, cz_K2 (cz_K1 h v) v, by rw [az_wr_ne (by omega), az_wr_same, az_wr_same]⟩
/-- nothing is told, nothing wanted at first -/
theorem cz_J0 {xl : Int} {xs : Int → Int} : ∃ σ, fz_L_law xl xs 2000000 az_E = fz_L_law_18 xl xs 2000000 2000000 σ 1 804 0 ∧ cz_J σ := by
  obtain ⟨σ, e, hF, n1, n2, n3, hA, hq⟩ := bz_start (xl := xl) (xs := xs)
  refine ⟨σ, e, ?_⟩
  have A : ∀ a k v, (a, k, v) ∈ bz_A_21 → σ.2 a k = v := fun a k v hm => hA _ hm
  have a11 := A 1 1 0 (by decide +kernel)
  have a12 := A 1 2 0 (by decide +kernel)
  have a13 := A 1 3 (-1) (by decide +kernel)
  have a14 := A 1 4 (-1) (by decide +kernel)
  have a115 := A 1 15 (-1) (by decide +kernel)
  have m1 := A 804 1 0 (by decide +kernel)
  have m2 := A 804 2 0 (by decide +kernel)
  have m3 := A 804 3 (-1) (by decide +kernel)
  have m4 := A 804 4 (-1) (by decide +kernel)
  have m82 := A 804 82 (-1) (by decide +kernel)
  have t0 := A 3 0 0 (by decide +kernel)
  have t1 := A 3 1 0 (by decide +kernel)
  have t2 := A 3 2 0 (by decide +kernel)
  have r0 := A 806 0 0 (by decide +kernel)
  have r1 := A 807 0 0 (by decide +kernel)
  have r2 := A 808 0 0 (by decide +kernel)
  have k1 := A 375 1 0 (by decide +kernel)
  have k2 := A 804 81 0 (by decide +kernel)
  have w0 := A 380 0 0 (by decide +kernel)
  have w5 := A 380 5 0 (by decide +kernel)
  have w6 := A 380 6 0 (by decide +kernel)
  have v87 := A 804 87 0 (by decide +kernel)
  have v101 := A 804 101 0 (by decide +kernel)
  have o0 := A 801 0 0 (by decide +kernel)
  have o1 := A 801 1 802 (by decide +kernel)
  have o57 := A 804 57 0 (by decide +kernel)
  have o58 := A 804 58 0 (by decide +kernel)
  refine ⟨3, 0, ⟨⟨hF, A 1 5 3 (by decide +kernel), A 1 6 82 (by decide +kernel), A 804 14 0 (by decide +kernel), A 804 15 0 (by decide +kernel), A 243 2 3 (by decide +kernel), A 243 4 0 (by decide +kernel), bz_TR.none (by omega) (by omega) t0 t1 t2 r0 r1 r2⟩, ?_, ?_, ?_, ?_, ?_, ?_⟩, by omega⟩
  · exact ⟨by omega, by omega, by omega, fun i h0 h1 => absurd h1 (by omega)⟩
  · exact ⟨by omega, by omega, by omega⟩
  · exact ⟨fun e o h0 h1 => absurd h1 (by omega), fun f h0 h1 => absurd h1 (by omega)⟩
  · exact ⟨⟨by omega, by omega, by omega⟩, fun h => absurd h (by omega)⟩
  · refine ⟨⟨by omega, by omega⟩, ⟨by omega, by omega, by omega⟩, fun h => absurd h (by omega), ?_, fun k h0 h1 => absurd h1 (by omega), ⟨fun _ => 0, fun _ => (by decide : (0 : Nat) < 6), fun k i h0 h1 => absurd h1 (by omega)⟩, fun q h0 h1 => ?_, fun q p h0 h1 h2 h3 h4 => ?_⟩
    · unfold cz_bn
      rw [w6, if_neg (by omega), if_neg (by omega), if_neg (by omega), if_neg (by omega), if_neg (by omega), if_neg (by omega)]
      decide
    · have := hq q.toNat (by omega)
      rw [show ((q.toNat : Nat) : Int) = q by omega] at this
      omega
    · have x1 := hq q.toNat (by omega)
      have x2 := hq p.toNat (by omega)
      rw [show ((q.toNat : Nat) : Int) = q by omega] at x1
      rw [show ((p.toNat : Nat) : Int) = p by omega] at x2
      omega
  · have l := ln_802 hF
    refine ⟨⟨0, by omega, by omega, by omega, by rw [o1, l]; rfl, by rw [o1, if_pos rfl]⟩, ⟨by omega, by rw [o0, o1, l]; omega, by omega, by omega⟩, fun _ => o0, Or.inl o58, fun i h0 h1 => absurd h1 (by omega)⟩
