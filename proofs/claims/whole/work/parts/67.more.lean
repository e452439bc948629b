/-! more calls: feed, meets, bad, wanted -/
def cz_nt (a k : Int) : Prop := cz_ns a k ∨ (a = 1 ∧ (k = 1 ∨ k = 3 ∨ k = 4)) ∨ a = 2 ∨ (a = 804 ∧ (k = 1 ∨ k = 3 ∨ k = 4)) ∨ a = 805
/-- a change that leaves all of J but the tape, the fault and the latest states alone -/
theorem cz_keepT {σ σ' : az_Hp} {T s : Int} (hU : bz_Upd σ σ' cz_nt) (ht' : cz_Tape σ') (hf1 : σ'.2 1 3 = σ'.2 804 3) (hf2 : σ'.2 1 4 = σ'.2 804 4) (h : cz_K σ T s) : cz_K σ' T s := by
  obtain ⟨hc, h1, h2, h3, h4, h5, h6⟩ := h
  have hF : bz_Fx σ' := hc.1.upd hU
  have e0 := hU.1
  have E : ∀ a k, ¬ cz_nk a k → ¬ (a = 1 ∧ k ≤ 4) → ¬ (a = 804 ∧ k ≤ 4) → a ≠ 2 → a ≠ 805 → σ'.2 a k = σ.2 a k := fun a k q n1 n2 n3 n4 => hU.2.2 a k (fun c => by
    unfold cz_nt cz_ns at c
    rcases c with (c | c | c) | c | c | c | c
    · exact q c
    · omega
    · omega
    · omega
    · omega
    · omega
    · omega)
  obtain ⟨c1, c2, c3, c4, c5, c6, c7, c8⟩ := hc
  have hT := c8.1
  have ht : bz_tS σ σ' := fun a k q => E a k (cz_nk1 (by omega)) (by omega) (by omega) (by omega) (by omega)
  have g5 : ∀ k, k = 14 ∨ k = 15 ∨ k = 57 ∨ k = 58 ∨ k = 81 ∨ k = 82 ∨ k = 87 ∨ k = 101 ∨ (108 ≤ k ∧ k ≤ 111) → σ'.2 804 k = σ.2 804 k := fun k q => E 804 k (cz_nk5 (by omega)) (by omega) (by omega) (by omega) (by omega)
  have g6 : ∀ k, (5 ≤ k ∧ k ≤ 6) ∨ k = 15 → σ'.2 1 k = σ.2 1 k := fun k q => E 1 k (cz_nk6 (by omega)) (by omega) (by omega) (by omega) (by omega)
  refine ⟨⟨hF, ?_, ?_, ?_, ?_, ?_, ?_, c8.cong ht⟩, ht', ?_, ?_, ?_, ?_, ?_⟩
  · rw [g6 5 (by omega)]; exact c2
  · rw [g6 6 (by omega)]; exact c3
  · rw [g5 14 (by omega)]; exact c4
  · rw [g5 15 (by omega)]; exact c5
  · rw [E 243 2 (cz_nk8 (by omega)) (by omega) (by omega) (by omega) (by omega)]; exact c6
  · rw [E 243 4 (cz_nk8 (by omega)) (by omega) (by omega) (by omega) (by omega)]; exact c7
  · refine ⟨hf1, hf2, ?_⟩
    rw [g6 15 (by omega), g5 82 (by omega)]; exact h2.2.2
  · refine h3.cong hT ht (fun a k q => ?_)
    rcases q with q | q | q | q
    · exact E a k (cz_nk1 (by omega)) (by omega) (by omega) (by omega) (by omega)
    · exact E a k (cz_nk1 (by omega)) (by omega) (by omega) (by omega) (by omega)
    · exact E a k (cz_nk2 (by omega)) (by omega) (by omega) (by omega) (by omega)
    · exact E a k (cz_nk2 (by omega)) (by omega) (by omega) (by omega) (by omega)
  · exact h4.cong hT ht (fun a k q => E a k (cz_nk2 (by omega)) (by omega) (by omega) (by omega) (by omega)) (g5 81 (by omega))
  · exact h5.cong hT ht (fun k q0 q1 => E 380 k (cz_nk7 ⟨q0, q1⟩) (by omega) (by omega) (by omega) (by omega)) (fun a k q => E a k (cz_nk3 q) (by omega) (by omega) (by omega) (by omega)) (fun k q => g5 k (by omega))
  · exact h6.cong e0 (E 801 0 cz_nk9 (by omega) (by omega) (by omega) (by omega)) (E 801 1 cz_nk9 (by omega) (by omega) (by omega) (by omega)) (fun a k q => E a k (cz_nk4 q) (by omega) (by omega) (by omega) (by omega)) (g5 57 (by omega)) (g5 58 (by omega))
theorem cz_op_feed : bz_op_feed cz_J := by
  rintro a b c d e ha hb hc hd he σ ⟨T, s, h, eq⟩
  obtain ⟨t1, t2, t3, t4⟩ := h.2.1
  have hF := h.1.1
  have hX := bz_feedX (a := a) (b := b) (c := c) (d := d) (e := e) hF rfl t1 t2
  by_cases q : 900 < σ.2 1 1 + 20
  · rw [if_pos q] at hX
    have hM := bz_feedM (a := a) (b := b) (c := c) (d := d) (e := e) hF t3 t1 t2
    rw [if_pos q] at hM
    exact ⟨_, _, _, hX, hM, T, s, h, eq⟩
  · rw [if_neg q] at hX
    have u1 := (bz_p20_upd (σ := σ) (t := σ.2 1 1) (a := a) (b := b) (c := c) (d := d) (e := e)).1
    have hF1 := hF.upd u1
    have a1 : (bz_p20 σ 1 2 (σ.2 1 1) a b c d e).2 804 1 = σ.2 1 1 := by rw [u1.2.2 804 1 (by omega), t3]
    have hM := bz_feedM (a := a) (b := b) (c := c) (d := d) (e := e) hF1 a1 t1 t2
    rw [if_neg q] at hM
    have u2 := (bz_p20_upd (σ := bz_p20 σ 1 2 (σ.2 1 1) a b c d e) (t := σ.2 1 1) (a := a) (b := b) (c := c) (d := d) (e := e)).2
    refine ⟨_, _, _, hX, hM, T, s, ?_, ?_⟩
    · refine cz_keepT (σ := σ) ?_ ?_ ?_ ?_ h
      · have h1 : bz_isFix 1 1 = false := by decide
        have h804 : bz_isFix 804 1 = false := by decide
        refine ⟨u2.1.trans u1.1, fun x k hk => (u2.2.1 x k hk).trans (u1.2.1 x k hk), fun x k hn => ?_⟩
        unfold cz_nt cz_ns at hn
        rw [bz_p20_at (by decide), if_neg (by omega), if_neg (by omega), bz_p20_at (by decide), if_neg (by omega), if_neg (by omega)]
      · have k1 : (bz_p20 (bz_p20 σ 1 2 (σ.2 1 1) a b c d e) 804 805 (σ.2 1 1) a b c d e).2 1 1 = σ.2 1 1 + 20 := by
          rw [bz_p20_at (by decide), if_neg (by omega), if_neg (by omega), bz_p20_at (by decide), if_pos ⟨rfl, rfl⟩]
        have k2 : (bz_p20 (bz_p20 σ 1 2 (σ.2 1 1) a b c d e) 804 805 (σ.2 1 1) a b c d e).2 804 1 = σ.2 1 1 + 20 := by
          rw [bz_p20_at (by decide), if_pos ⟨rfl, rfl⟩]
        unfold cz_Tape
        rw [k1, k2]
        refine ⟨by omega, by omega, rfl, fun i i0 i1 => ?_⟩
        by_cases hi : i < σ.2 1 1
        · have A : (bz_p20 (bz_p20 σ 1 2 (σ.2 1 1) a b c d e) 804 805 (σ.2 1 1) a b c d e).2 2 i = σ.2 2 i := by
            rw [bz_p20_at (by decide), if_neg (by omega), if_neg (by omega), bz_p20_at (by decide), if_neg (by omega), if_neg (by omega)]
          have B : (bz_p20 (bz_p20 σ 1 2 (σ.2 1 1) a b c d e) 804 805 (σ.2 1 1) a b c d e).2 805 i = σ.2 805 i := by
            rw [bz_p20_at (by decide), if_neg (by omega), if_neg (by omega), bz_p20_at (by decide), if_neg (by omega), if_neg (by omega)]
          rw [A, B]
          exact t4 i i0 hi
        · have A : (bz_p20 (bz_p20 σ 1 2 (σ.2 1 1) a b c d e) 804 805 (σ.2 1 1) a b c d e).2 2 i = bz_by (if i < σ.2 1 1 + 4 then a else if i < σ.2 1 1 + 8 then b else if i < σ.2 1 1 + 12 then c else if i < σ.2 1 1 + 16 then d else e) (24 - 8 * ((i - σ.2 1 1) % 4)) := by
            rw [bz_p20_at (by decide), if_neg (by omega), if_neg (by omega), bz_p20_at (by decide), if_neg (by omega), if_pos (by omega)]
          have B : (bz_p20 (bz_p20 σ 1 2 (σ.2 1 1) a b c d e) 804 805 (σ.2 1 1) a b c d e).2 805 i = bz_by (if i < σ.2 1 1 + 4 then a else if i < σ.2 1 1 + 8 then b else if i < σ.2 1 1 + 12 then c else if i < σ.2 1 1 + 16 then d else e) (24 - 8 * ((i - σ.2 1 1) % 4)) := by
            rw [bz_p20_at (by decide), if_neg (by omega), if_pos (by omega)]
          rw [A, B]
          exact ⟨rfl, bz_by_rng⟩
      · rw [bz_p20_at (by decide), if_neg (by omega), if_neg (by omega), bz_p20_at (by decide), if_neg (by omega), if_neg (by omega), bz_p20_at (by decide), if_neg (by omega), if_neg (by omega), bz_p20_at (by decide), if_neg (by omega), if_neg (by omega)]
        exact h.2.2.1.1
      · rw [bz_p20_at (by decide), if_neg (by omega), if_neg (by omega), bz_p20_at (by decide), if_neg (by omega), if_neg (by omega), bz_p20_at (by decide), if_neg (by omega), if_neg (by omega), bz_p20_at (by decide), if_neg (by omega), if_neg (by omega)]
        exact h.2.2.1.2.1
    · rw [bz_p20_at (by decide), if_neg (by omega), if_neg (by omega), bz_p20_at (by decide), if_neg (by omega), if_neg (by omega), bz_p20_at (by decide), if_neg (by omega), if_neg (by omega), bz_p20_at (by decide), if_neg (by omega), if_neg (by omega)]
      exact eq
/-- a call that changes beside the latest state nothing that J looks at -/
theorem cz_rw {f g : az_Hp → Option (Int × az_Hp)} {σ σ' σ'' : az_Hp} {T s : Int} (h : cz_K σ T s) {r v : Int} (hU : bz_Upd σ σ' cz_nk) (hf : f σ = some (r, az_wr σ' 1 2 v)) (hU2 : bz_Upd (az_wr σ' 1 2 v) σ'' cz_nk) (hg : g (az_wr σ' 1 2 v) = some (r, az_wr σ'' 804 2 v)) : ∃ r σ1 σ2, f σ = some (r, σ1) ∧ g σ1 = some (r, σ2) ∧ cz_J σ2 := by
  have k1 : cz_K σ' T s := cz_keep (hU.weak fun _ _ q => Or.inl q) h
  have k2 := cz_K1 k1 v
  have k3 : cz_K σ'' T s := cz_keep (hU2.weak fun _ _ q => Or.inl q) k2
  refine ⟨r, _, _, hf, hg, T, s, cz_K2 k3 v, ?_⟩
  rw [az_wr_ne (by omega), az_wr_same]
  have n : ¬ cz_nk 1 2 := cz_nk6 (by omega)
  rw [hU2.2.2 1 2 n, az_wr_same]
theorem cz_SJ_nk {a k : Int} (h : cz_SJ a k) : cz_nk a k := by
  unfold cz_SJ at h
  unfold cz_nk
  exact Or.inr (Or.inl (by omega))
theorem cz_SB_nk {a k : Int} (h : cz_SB a k) : cz_nk a k := by
  unfold cz_SB cz_SM at h
  unfold cz_nk
  rcases h with (h | h) | h
  · exact Or.inr (Or.inr (Or.inr (Or.inr (Or.inr (Or.inr (Or.inr (Or.inr (Or.inr (Or.inl ⟨h.1, by omega⟩)))))))))
  · exact Or.inr (Or.inr (Or.inr (Or.inr (Or.inr (Or.inr (Or.inr (Or.inr (Or.inr (Or.inr (Or.inl (by omega)))))))))))
  · exact Or.inr (Or.inr (Or.inr (Or.inr (Or.inr (Or.inr (Or.inr (Or.inr (Or.inr (Or.inl ⟨h.1, by omega⟩)))))))))
theorem cz_op_meets : bz_op_meets cz_J := by
  rintro a b ha hb σ ⟨T, s, h, e⟩
  have h1 : ∀ v, cz_K (az_wr σ 1 2 v) T s := fun v => cz_K1 h v
  have g := cz_t5 h
  have hF := h.1.1
  have hT := h.1.2.2.2.2.2.2.2.1
  have n3 := h.1.2.2.2.2.2.2.2.2.2.2.1
  have eX1 := cz_isEqX (e := a) h
  have eX2 := cz_isEqX (e := b) h
  by_cases qa : 0 ≤ a ∧ a < σ.2 T 2
  · by_cases qb : 0 ≤ b ∧ b < σ.2 T 2
    · rw [if_pos qa] at eX1
      rw [if_pos qb] at eX2
      obtain ⟨⟨mv, mm⟩, -⟩ := h.2.2.2.1.1 a b qa.1 qa.2 qb.1 qb.2
      obtain ⟨σ', e1, u1⟩ := mm σ hF mz_cS.refl
      have u1' : bz_Upd σ σ' cz_nk := u1.weak fun _ _ q => cz_SJ_nk q
      have k1 := cz_K1 (cz_keep (u1'.weak fun _ _ q => Or.inl q) h) 0
      have g10 := fx_1_10 hF
      have m1 := cz_isEqM (e := a) k1
      have m2 := cz_isEqM (e := b) k1
      have et : (az_wr σ' 1 2 0).2 T 2 = σ.2 T 2 := by rw [az_wr_ne (by omega), u1'.2.2 T 2 (cz_nk1 (by omega))]
      rw [et, if_pos qa] at m1
      rw [et, if_pos qb] at m2
      have f54 := fx_804_54 k1.1.1
      have l := ln_834 k1.1.1
      refine cz_rw (f := fun σ => fz_X10_meets 2000000 σ 1 a b) (g := fun σ => fz_X11_meets σ 804 a b) h (r := σ.2 834 (16 * a + b)) (v := 0) (σ' := σ') u1' ?_ bz_Upd.refl ?_
      · simp only [fz_X10_meets, fz_X10_give, eX1, eX2, g, g10, e1, Option.bind_some, Int.reduceEq, if_false]
      · simp only [fz_X11_meets, fz_X11_gives, m1, m2, f54, Option.bind_some, Int.reduceEq, if_false]
        rw [az_w32_id (z := 16 * a) (by omega) (by omega), az_w32_id (by omega) (by omega), bz_ard (by omega) (by omega), Option.bind_some, az_wr_ne (by omega), u1'.2.2 834 _ (cz_nk2 (by omega))]
    · rw [if_pos qa] at eX1
      rw [if_neg qb] at eX2
      have m1 := cz_isEqM (e := a) (h1 2)
      have m2 := cz_isEqM (e := b) (h1 2)
      rw [az_wr_ne (by omega), if_pos qa] at m1
      rw [az_wr_ne (by omega), if_neg qb] at m2
      refine cz_rd (f := fun σ => fz_X10_meets 2000000 σ 1 a b) (g := fun σ => fz_X11_meets σ 804 a b) h (r := -1) (v := 2) ?_ ?_
      · simp only [fz_X10_meets, fz_X10_refuse, eX1, eX2, Option.bind_some, Int.reduceEq, if_false, if_true]
      · simp only [fz_X11_meets, fz_X11_refuse, m1, m2, Option.bind_some, Int.reduceEq, if_false, if_true]
  · rw [if_neg qa] at eX1
    have m1 := cz_isEqM (e := a) (h1 2)
    rw [az_wr_ne (by omega), if_neg qa] at m1
    refine cz_rd (f := fun σ => fz_X10_meets 2000000 σ 1 a b) (g := fun σ => fz_X11_meets σ 804 a b) h (r := -1) (v := 2) ?_ ?_
    · simp only [fz_X10_meets, fz_X10_refuse, eX1, Option.bind_some, if_true]
    · simp only [fz_X11_meets, fz_X11_refuse, m1, Option.bind_some, if_true]
theorem cz_op_bad : bz_op_bad cz_J := by
  rintro a b ha hb σ ⟨T, s, h, e⟩
  have h1 : ∀ v, cz_K (az_wr σ 1 2 v) T s := fun v => cz_K1 h v
  have g := cz_t5 h
  have hF := h.1.1
  have hT := h.1.2.2.2.2.2.2.2.1
  have c5 := h.1.2.2.2.2.1
  have hnf := h.1.2.2.2.2.2.2.2.2.2.1.2.2.1.2.2.2.1
  have mF := fun v => cz_isFamM (e := a) (h1 v)
  have et : ∀ v, (az_wr σ 1 2 v).2 T 1 = σ.2 T 1 := fun v => az_wr_ne (by omega)
  simp only [et] at mF
  by_cases qb : b < 0 ∨ 2 < b
  · refine cz_rd (f := fun σ => fz_X10_bad σ 1 a b) (g := fun σ => fz_X11_bad_ 2000000 σ 804 a b) h (r := -1) (v := 1) ?_ ?_
    · simp only [fz_X10_bad, fz_X10_refuse, Option.bind_some]
      by_cases q : b < 0
      · rw [if_pos q]
      · rw [if_neg q, if_pos (by omega)]
    · simp only [fz_X11_bad_, fz_X11_refuse, fz_X11_isFrom]
      by_cases q : b < 0
      · rw [if_pos q]; rfl
      · rw [if_neg q, if_pos (by omega)]; rfl
  have nb1 : ¬ b < 0 := by omega
  have nb2 : ¬ 2 < b := by omega
  by_cases qa : 0 ≤ a ∧ a < σ.2 T 1
  · have na : ¬ a < 0 := by omega
    obtain ⟨-, -, -, -, -, -, -, -, -, -, -, g14, g15, g16⟩ := bz_tg hF hT
    obtain ⟨-, -, -, -, -, -, -, -, -, l12, l13, l14⟩ := bz_tl hF hT
    have r12 : az_ard σ (T + 12) a = some (σ.2 (T + 12) a) := bz_ard qa.1 (by omega)
    have r13 : az_ard σ (T + 13) a = some (σ.2 (T + 13) a) := bz_ard qa.1 (by omega)
    have r14 : az_ard σ (T + 14) a = some (σ.2 (T + 14) a) := bz_ard qa.1 (by omega)
    have hB := h.2.2.2.1.2 a qa.1 qa.2
    have hBd : ∀ v, ∃ σ', fz_X11_isBad 2000000 (az_wr σ 1 2 v) 804 a = some (if σ.2 (T + 12) a = 0 then 0 else 1, σ') ∧ bz_Upd (az_wr σ 1 2 v) σ' cz_nk ∧ (σ.2 (T + 12) a ≠ 0 → σ'.2 804 63 = σ.2 (T + 12) a ∧ σ'.2 804 64 = σ.2 (T + 13) a ∧ σ'.2 804 65 = σ.2 (T + 14) a) := by
      intro v
      obtain ⟨σ', x1, x2, x3⟩ := hB (az_wr σ 1 2 v) (h1 v).1.1 (fun x k q => az_wr_ne (by omega)) (fun x k q => az_wr_ne (by omega)) (by rw [az_wr_ne (by omega)]; exact c5)
      exact ⟨σ', x1, x2.weak fun _ _ q => cz_SB_nk q, x3⟩
    have mf : fz_X11_isFrom = fun (σ : az_Hp) (v0 v1 v2 : Int) => (if v0 < v1 then (some 0) else (if v2 < v0 then (some 0) else (some 1))) := rfl
    by_cases qz : σ.2 (T + 12) a = 0
    · obtain ⟨σ', x1, x2, -⟩ := hBd 5
      rw [if_pos qz] at x1
      refine cz_rw (f := fun σ => fz_X10_bad σ 1 a b) (g := fun σ => fz_X11_bad_ 2000000 σ 804 a b) h (r := -1) (v := 5) (σ' := σ) (σ'' := σ') bz_Upd.refl ?_ x2 ?_
      · simp only [fz_X10_bad, fz_X10_refuse, if_neg nb1, if_neg nb2, if_neg na, g, Option.bind_some, if_pos qa.2, g14, r12, if_pos qz]
      · simp only [fz_X11_bad_, fz_X11_refuse, mf, if_neg nb1, if_neg nb2, mF, if_pos qa, x1, Option.bind_some, Int.reduceEq, if_false, if_true]
    · obtain ⟨σ', x1, x2, x3⟩ := hBd 0
      rw [if_neg qz] at x1
      obtain ⟨x4, x5, x6⟩ := x3 qz
      refine cz_rw (f := fun σ => fz_X10_bad σ 1 a b) (g := fun σ => fz_X11_bad_ 2000000 σ 804 a b) h (r := if b = 0 then σ.2 (T + 12) a else if b = 1 then σ.2 (T + 13) a else σ.2 (T + 14) a) (v := 0) (σ' := σ) (σ'' := σ') bz_Upd.refl ?_ x2 ?_
      · simp only [fz_X10_bad, fz_X10_give, if_neg nb1, if_neg nb2, if_neg na, g, Option.bind_some, if_pos qa.2, g14, g15, g16, r12, r13, r14, if_neg qz]
        split
        · rfl
        · split <;> rfl
      · simp only [fz_X11_bad_, fz_X11_gives, mf, if_neg nb1, if_neg nb2, mF, if_pos qa, x1, x4, x5, x6, Option.bind_some, Int.reduceEq, if_false, if_true]
        split
        · rfl
        · split <;> rfl
  · refine cz_rd (f := fun σ => fz_X10_bad σ 1 a b) (g := fun σ => fz_X11_bad_ 2000000 σ 804 a b) h (r := -1) (v := 2) ?_ ?_
    · simp only [fz_X10_bad, fz_X10_refuse, if_neg nb1, if_neg nb2, g, Option.bind_some]
      by_cases q : a < 0
      · rw [if_pos q]
      · rw [if_neg q, if_neg (by omega)]
    · simp only [fz_X11_bad_, fz_X11_refuse, fz_X11_isFrom, if_neg nb1, if_neg nb2, mF, if_neg qa, Option.bind_some, Int.reduceEq, if_false, if_true]
/-- what UNKNOWNS are something, as bits -/
theorem cz_or0 : ∀ v : Fin 64, az_iorV (v.val : Int) 0 = (v.val : Int) := by decide +kernel
theorem cz_orb : ∀ k : Fin 6, ∀ v : Fin 64, v.val < 2 ^ k.val → az_iorV (v.val : Int) (az_ishlV 1 (k.val : Int)) = (v.val : Int) + 2 ^ k.val := by decide +kernel
theorem cz_or0' {v : Int} (h0 : 0 ≤ v) (h1 : v < 64) : az_iorV v 0 = v := by
  have := cz_or0 ⟨v.toNat, by omega⟩
  simpa [Int.toNat_of_nonneg h0] using this
theorem cz_orb' {v k : Int} (w : Int) (hk0 : 0 ≤ k) (hk1 : k < 6) (hw : w = 2 ^ k.toNat) (h0 : 0 ≤ v) (h1 : v < w) : az_iorV v (az_ishlV 1 k) = v + w := by
  have hw64 : w ≤ 32 := by
    have : k = 0 ∨ k = 1 ∨ k = 2 ∨ k = 3 ∨ k = 4 ∨ k = 5 := by omega
    rcases this with rfl | rfl | rfl | rfl | rfl | rfl <;> (rw [hw]; decide)
  have hn : v.toNat < 2 ^ k.toNat := by
    have : ((v.toNat : Nat) : Int) < ((2 ^ k.toNat : Nat) : Int) := by rw [Int.toNat_of_nonneg h0]; push_cast; rw [← hw]; exact h1
    exact_mod_cast this
  have := cz_orb ⟨k.toNat, by omega⟩ ⟨v.toNat, by omega⟩ hn
  simp only [Int.toNat_of_nonneg h0, Int.toNat_of_nonneg hk0] at this
  rw [this, hw]
theorem cz_knownStep {σ : az_Hp} (hF : bz_Fx σ) {n k : Nat} {v i w : Int} (hw : w = 2 ^ i.toNat) (i0 : 0 ≤ i) (i1 : i < 6) (v0 : 0 ≤ v) (v1 : v < w) (hu : i < σ.2 804 101) (hu5 : σ.2 380 5 = σ.2 804 101) : fz_X11_known_4 n (k + 1) σ 804 v i = fz_X11_known_4 n k σ 804 (v + cz_bn σ i w) (i + 1) := by
  have hw64 : w ≤ 32 := by
    have : i = 0 ∨ i = 1 ∨ i = 2 ∨ i = 3 ∨ i = 4 ∨ i = 5 := by omega
    rcases this with rfl | rfl | rfl | rfl | rfl | rfl <;> (rw [hw]; decide)
  have l := ln_864 hF
  conv => lhs; unfold fz_X11_known_4
  rw [if_pos hu, fx_804_106 hF, Option.bind_some, bz_ard i0 (by omega), Option.bind_some]
  unfold cz_bn
  by_cases q : 0 < σ.2 864 i
  · rw [if_pos q, if_pos ⟨by omega, q⟩, cz_orb' w i0 i1 hw v0 v1, az_w32_id (by omega) (by omega)]
  · rw [if_neg q, if_neg (fun c => q c.2), cz_or0' v0 (by omega), az_w32_id (by omega) (by omega), Int.add_zero]
theorem cz_bn_rng {σ : az_Hp} {k w : Int} (hw : 0 ≤ w) : 0 ≤ cz_bn σ k w ∧ cz_bn σ k w ≤ w := by
  unfold cz_bn
  split <;> omega
theorem cz_bn_z {σ : az_Hp} {k w : Int} (h : σ.2 380 5 ≤ k) : cz_bn σ k w = 0 := by
  unfold cz_bn
  exact if_neg (by omega)
theorem cz_known {σ : az_Hp} (hF : bz_Fx σ) (hu5 : σ.2 380 5 = σ.2 804 101) (h0 : 0 ≤ σ.2 380 5) (h6 : σ.2 380 5 ≤ 6) : fz_X11_known 2000000 σ 804 = some (cz_bn σ 0 1 + cz_bn σ 1 2 + cz_bn σ 2 4 + cz_bn σ 3 8 + cz_bn σ 4 16 + cz_bn σ 5 32) := by
  have fin : ∀ (k : Nat) (v i : Int), σ.2 380 5 ≤ i → fz_X11_known_4 2000000 (k + 1) σ 804 v i = some v := by
    intro k v i hi
    unfold fz_X11_known_4
    rw [if_neg (by omega)]
  have b0 := cz_bn_rng (σ := σ) (k := 0) (w := 1) (by omega)
  have b1 := cz_bn_rng (σ := σ) (k := 1) (w := 2) (by omega)
  have b2 := cz_bn_rng (σ := σ) (k := 2) (w := 4) (by omega)
  have b3 := cz_bn_rng (σ := σ) (k := 3) (w := 8) (by omega)
  have b4 := cz_bn_rng (σ := σ) (k := 4) (w := 16) (by omega)
  unfold fz_X11_known
  obtain ⟨m, hm⟩ : ∃ m : Nat, (2000000 : Nat) = m + 1 + 1 + 1 + 1 + 1 + 1 + 1 := ⟨1999993, rfl⟩
  have key : ∀ N : Nat, N = m + 1 + 1 + 1 + 1 + 1 + 1 + 1 → fz_X11_known_4 2000000 N σ 804 0 0 = some (cz_bn σ 0 1 + cz_bn σ 1 2 + cz_bn σ 2 4 + cz_bn σ 3 8 + cz_bn σ 4 16 + cz_bn σ 5 32) := by
    intro N hN
    subst hN
    have fin' : ∀ (k : Nat) (v i : Int), σ.2 380 5 ≤ i → ∀ v', v = v' → fz_X11_known_4 2000000 (k + 1) σ 804 v i = some v' := fun k v i hi v' hv => by rw [fin k v i hi, hv]
    by_cases q0 : σ.2 380 5 ≤ 0
    · have z0 := cz_bn_z (σ := σ) (k := 0) (w := 1) (by omega)
      have z1 := cz_bn_z (σ := σ) (k := 1) (w := 2) (by omega)
      have z2 := cz_bn_z (σ := σ) (k := 2) (w := 4) (by omega)
      have z3 := cz_bn_z (σ := σ) (k := 3) (w := 8) (by omega)
      have z4 := cz_bn_z (σ := σ) (k := 4) (w := 16) (by omega)
      have z5 := cz_bn_z (σ := σ) (k := 5) (w := 32) (by omega)
      exact fin' _ _ _ (by omega) _ (by omega)
    rw [cz_knownStep hF (w := 1) (by decide) (by omega) (by omega) (by omega) (by omega) (by omega) hu5, show (0 : Int) + 1 = 1 from rfl]
    by_cases q1 : σ.2 380 5 ≤ 1
    · have z1 := cz_bn_z (σ := σ) (k := 1) (w := 2) (by omega)
      have z2 := cz_bn_z (σ := σ) (k := 2) (w := 4) (by omega)
      have z3 := cz_bn_z (σ := σ) (k := 3) (w := 8) (by omega)
      have z4 := cz_bn_z (σ := σ) (k := 4) (w := 16) (by omega)
      have z5 := cz_bn_z (σ := σ) (k := 5) (w := 32) (by omega)
      exact fin' _ _ _ (by omega) _ (by omega)
    rw [cz_knownStep hF (w := 2) (by decide) (by omega) (by omega) (by omega) (by omega) (by omega) hu5, show (1 : Int) + 1 = 2 from rfl]
    by_cases q2 : σ.2 380 5 ≤ 2
    · have z2 := cz_bn_z (σ := σ) (k := 2) (w := 4) (by omega)
      have z3 := cz_bn_z (σ := σ) (k := 3) (w := 8) (by omega)
      have z4 := cz_bn_z (σ := σ) (k := 4) (w := 16) (by omega)
      have z5 := cz_bn_z (σ := σ) (k := 5) (w := 32) (by omega)
      exact fin' _ _ _ (by omega) _ (by omega)
    rw [cz_knownStep hF (w := 4) (by decide) (by omega) (by omega) (by omega) (by omega) (by omega) hu5, show (2 : Int) + 1 = 3 from rfl]
    by_cases q3 : σ.2 380 5 ≤ 3
    · have z3 := cz_bn_z (σ := σ) (k := 3) (w := 8) (by omega)
      have z4 := cz_bn_z (σ := σ) (k := 4) (w := 16) (by omega)
      have z5 := cz_bn_z (σ := σ) (k := 5) (w := 32) (by omega)
      exact fin' _ _ _ (by omega) _ (by omega)
    rw [cz_knownStep hF (w := 8) (by decide) (by omega) (by omega) (by omega) (by omega) (by omega) hu5, show (3 : Int) + 1 = 4 from rfl]
    by_cases q4 : σ.2 380 5 ≤ 4
    · have z4 := cz_bn_z (σ := σ) (k := 4) (w := 16) (by omega)
      have z5 := cz_bn_z (σ := σ) (k := 5) (w := 32) (by omega)
      exact fin' _ _ _ (by omega) _ (by omega)
    rw [cz_knownStep hF (w := 16) (by decide) (by omega) (by omega) (by omega) (by omega) (by omega) hu5, show (4 : Int) + 1 = 5 from rfl]
    by_cases q5 : σ.2 380 5 ≤ 5
    · have z5 := cz_bn_z (σ := σ) (k := 5) (w := 32) (by omega)
      exact fin' _ _ _ (by omega) _ (by omega)
    rw [cz_knownStep hF (w := 32) (by decide) (by omega) (by omega) (by omega) (by omega) (by omega) hu5, show (5 : Int) + 1 = 6 from rfl]
    exact fin' _ _ _ (by omega) _ (by omega)
  exact key 2000000 hm
theorem cz_op_wanted : bz_op_wanted cz_J := by
  rintro a ha σ ⟨T, s, h, e⟩
  have hF := h.1.1
  have g := fx_1_16 hF
  obtain ⟨⟨w1, w2⟩, ⟨w3, w4, w5⟩, w6, w7, -⟩ := h.2.2.2.2.2.1
  by_cases q : a < 0 ∨ 5 < a
  · refine cz_rd (f := fun σ => fz_X10_wanted σ 1 a) (g := fun σ => fz_X11_wanted 2000000 σ 804 a) h (r := -1) (v := 1) ?_ ?_
    · simp only [fz_X10_wanted, fz_X10_refuse, Option.bind_some]
      by_cases q' : a < 0
      · rw [if_pos q']
      · rw [if_neg q', if_pos (by omega)]
    · simp only [fz_X11_wanted, fz_X11_refuse, fz_X11_isFrom]
      by_cases q' : a < 0
      · rw [if_pos q']; rfl
      · rw [if_neg q', if_pos (by omega)]; rfl
  have n1 : ¬ a < 0 := by omega
  have n2 : ¬ 5 < a := by omega
  have r : ∀ v k, k ≠ 2 → (az_wr σ 1 2 v).2 804 k = σ.2 804 k := fun v k hk => az_wr_ne (by omega)
  by_cases qz : σ.2 380 0 = 0
  · refine cz_rd (f := fun σ => fz_X10_wanted σ 1 a) (g := fun σ => fz_X11_wanted 2000000 σ 804 a) h (r := -1) (v := 5) ?_ ?_
    · simp only [fz_X10_wanted, fz_X10_refuse, if_neg n1, if_neg n2, g, Option.bind_some, if_pos qz]
    · simp only [fz_X11_wanted, fz_X11_refuse, fz_X11_isFrom, if_neg n1, if_neg n2, Option.bind_some, Int.reduceEq, if_false]
      rw [r 5 87 (by decide), ← w1, if_pos qz]
  obtain ⟨v1, v2, v3, v4⟩ := w6 (by omega)
  have nz : ¬ σ.2 804 87 = 0 := by omega
  have kn : fz_X11_known 2000000 (az_wr σ 1 2 0) 804 = some (σ.2 380 6) := by
    have hw' := (cz_K1 h 0).2.2.2.2.2.1
    rw [cz_known (cz_K1 h 0).1.1 hw'.2.1.1 hw'.2.1.2.1 hw'.2.1.2.2, ← hw'.2.2.2.1, az_wr_ne (by omega)]
  refine cz_rd (f := fun σ => fz_X10_wanted σ 1 a) (g := fun σ => fz_X11_wanted 2000000 σ 804 a) h (r := if a = 0 then σ.2 380 1 else if a = 1 then σ.2 380 2 else if a = 2 then σ.2 380 3 else if a = 3 then σ.2 380 4 else if a = 4 then σ.2 380 5 else σ.2 380 6) (v := 0) ?_ ?_
  · simp only [fz_X10_wanted, fz_X10_give, if_neg n1, if_neg n2, g, Option.bind_some, if_neg qz]
    repeat' split
    all_goals rfl
  · simp only [fz_X11_wanted, fz_X11_gives, fz_X11_isFrom, if_neg n1, if_neg n2, Option.bind_some, Int.reduceEq, if_false, kn]
    rw [r 0 87 (by decide), if_neg nz, r 0 108 (by decide), r 0 109 (by decide), r 0 110 (by decide), r 0 111 (by decide), r 0 101 (by decide), ← v1, ← v2, ← v3, ← v4, ← w3]
    repeat' split
    all_goals rfl
