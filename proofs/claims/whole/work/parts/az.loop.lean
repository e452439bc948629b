/-! a LINE; all LINES -/
section LN
variable {tp : Int → Int} {N : Int} {T s : Int} {J : Nat}
theorem ld_Bad.w {x m : az_Hp} {A B : Option (Int × az_Hp)} (h : ld_Bad T s x m A B) : ld_Bad T s x m A (B.bind fun q => (if q.1 = 0 ∨ q.1 = 1 then some (q.1, q.2) else none)) := by
  obtain ⟨x', m', a, b, c⟩ := h
  exact ⟨x', m', a, by rw [b, rd_wrap0], c⟩
theorem ld_Ok.w {x m : az_Hp} {j : Nat} {A B : Option (Int × az_Hp)} (h : ld_Ok tp N T s J x m j A B) : ld_Ok tp N T s J x m j A (B.bind fun q => (if q.1 = 0 ∨ q.1 = 1 then some (q.1, q.2) else none)) := by
  obtain ⟨x', m', j', a, b, c⟩ := h
  exact ⟨x', m', j', a, by rw [b, rd_wrap], c⟩
theorem ld_or {x m : az_Hp} {j : Nat} {A B : Option (Int × az_Hp)} (h : ld_Bad T s x m A B ∨ ld_Ok tp N T s J x m j A B) : ld_Bad T s x m A (B.bind fun q => (if q.1 = 0 ∨ q.1 = 1 then some (q.1, q.2) else none)) ∨ ld_Ok tp N T s J x m j A (B.bind fun q => (if q.1 = 0 ∨ q.1 = 1 then some (q.1, q.2) else none)) := by
  rcases h with h | h
  · exact Or.inl h.w
  · exact Or.inr h.w
/-- a fault, as it is told without a wrap on the class's side -/
theorem ld_bad0 {x m : az_Hp} {j : Nat} (C : lx_Cur x m tp N J j) (k : Int) : ld_Bad T s x m (fz_X4_fail x 223 k) ((fz_X11_bad m 804 k).bind fun q => (if q.1 = 0 ∨ q.1 = 1 then some (q.1, q.2) else none)) := by
  obtain ⟨x', m', a, b, c, d, e⟩ := lx_fail C k
  exact ⟨x', m', a, by rw [b, rd_wrap0], c.weak fun a k z => Or.inr (Or.inl (by omega)), d.weak fun a k z => Or.inr z, e⟩
theorem ld_conLine {x m : az_Hp} {j : Nat} (h : ld_S tp N x m T s J j) (hk : lx_kj tp N j = 3) : ld_Bad T s x m (if x.2 T 0 < 8 then fz_X4_readHead 2000000 x 223 1 0 else fz_X4_fail x 223 6) (fz_X11_readTold 2000000 m 804 1 0) ∨ ld_Ok tp N T s J x m j (if x.2 T 0 < 8 then fz_X4_readHead 2000000 x 223 1 0 else fz_X4_fail x 223 6) (fz_X11_readTold 2000000 m 804 1 0) := by
  have hM := h.1.2
  obtain ⟨hT, hs, n15, ⟨n4, -⟩, tb, -⟩ := h.2.2.1.1
  have t2 := tb.2.1
  have eB : fz_X11_readTold 2000000 m 804 1 0 = fz_X11_readTold_37 2000000 m 804 1 0 (x.2 T 0) (x.2 T 0) 8 := by
    unfold fz_X11_readTold fz_X11_readTold_25
    rw [if_neg (show ¬ (1 : Int) = 0 by decide), fx_804_16 hM, Option.bind_some, n15, bz_ard (by omega) (by rw [ln_806 hM]; omega), Option.bind_some, ← n4, if_neg (show ¬ (1 : Int) = 0 by decide)]
  rw [eB]
  by_cases c : x.2 T 0 < 8
  · rw [if_pos c]
    have P := ld_pre (kd := 1) (cl := 0) (n := x.2 T 0) (w1 := 8) h hk (Or.inl rfl) (by omega)
    rw [if_pos rfl] at P
    rcases P with P | ⟨x', m', v, w, ar, a1, a2, a3, a4, a5, a6, a7, a8, a9, a10, a11, a12, a13⟩
    · exact Or.inl P
    · rw [if_pos rfl] at a2
      have e0 : x'.2 T 0 = x.2 T 0 := a12.2.2 T 0 (fun z => by unfold lx_nX at z; omega)
      have Q := ld_conTail (cl := 0) a3 a4 a5 a6.1.1 a6.1.2 a7 (by omega) a9
      rw [e0] at Q
      rw [a1, a2]
      rcases Q with Q | ⟨x2, m2, j2, b1, b2, b3, b4, b5, b6⟩
      · exact Or.inl (ld_Bad.from a10 a11 Q)
      · exact Or.inr ⟨x2, m2, j2, b1, b2, b3, a10.trans b4, a11.trans b5, by omega⟩
  · left
    rw [if_neg c]
    unfold fz_X11_readTold_37
    rw [if_pos (show x.2 T 0 = 8 by omega)]
    exact ld_bad0 h.2.1 6
theorem ld_famLine {x m : az_Hp} {j : Nat} {cl : Int} (h : ld_S tp N x m T s J j) (hk : lx_kj tp N j = 3) (hcl : cl = 0 ∨ cl = 1) : ld_Bad T s x m (if x.2 T 1 < 5 then fz_X4_readHead 2000000 x 223 2 cl else fz_X4_fail x 223 6) (fz_X11_readTold 2000000 m 804 0 cl) ∨ ld_Ok tp N T s J x m j (if x.2 T 1 < 5 then fz_X4_readHead 2000000 x 223 2 cl else fz_X4_fail x 223 6) (fz_X11_readTold 2000000 m 804 0 cl) := by
  have hM := h.1.2
  obtain ⟨hT, hs, n15, ⟨-, n4⟩, tb, -⟩ := h.2.2.1.1
  have t4 := tb.2.2.2.1
  have eB : fz_X11_readTold 2000000 m 804 0 cl = fz_X11_readTold_37 2000000 m 804 0 cl (x.2 T 1) (x.2 T 1) 5 := by
    unfold fz_X11_readTold fz_X11_readTold_25
    rw [if_pos rfl, fx_804_17 hM, Option.bind_some, n15, bz_ard (by omega) (by rw [ln_807 hM]; omega), Option.bind_some, ← n4, if_pos rfl]
  rw [eB]
  by_cases c : x.2 T 1 < 5
  · rw [if_pos c]
    have P := ld_pre (kd := 2) (cl := cl) (n := x.2 T 1) (w1 := 5) h hk (Or.inr rfl) (by omega)
    rw [if_neg (show ¬ (2 : Int) = 1 by decide)] at P
    rcases P with P | ⟨x', m', v, w, ar, a1, a2, a3, a4, a5, a6, a7, a8, a9, a10, a11, a12, a13⟩
    · exact Or.inl P
    · rw [if_neg (show ¬ (2 : Int) = 1 by decide)] at a2
      have e1 : x'.2 T 1 = x.2 T 1 := a12.2.2 T 1 (fun z => by unfold lx_nX at z; omega)
      have Q := ld_famTail (cl := cl) a3 a4 a5 (a6.2 rfl) a6.1.2 hcl a7 (by omega) a8
      rw [e1] at Q
      rw [a1, a2]
      rcases Q with Q | ⟨x2, m2, j2, b1, b2, b3, b4, b5, b6⟩
      · exact Or.inl (ld_Bad.from a10 a11 Q)
      · exact Or.inr ⟨x2, m2, j2, b1, b2, b3, a10.trans b4, a11.trans b5, by omega⟩
  · left
    rw [if_neg c]
    unfold fz_X11_readTold_37
    rw [if_pos (show x.2 T 1 = 5 by omega)]
    exact ld_bad0 h.2.1 6
/-- one LINE: the class's loop and the reference's readLine -/
theorem ld_line {x m : az_Hp} {j : Nat} (h : ld_S tp N x m T s J j) (k0 : lx_kj tp N j ≠ 0) : ∃ A, (∀ (k : Nat) (i : Int), i < 900 → fz_X4_readTold_14 2000000 (k + 1) x 223 T i = A.bind fun r => fz_X4_readTold_167 2000000 (fz_X4_readTold_14 2000000 k) r.2 223 T i r.1) ∧ (ld_Bad T s x m A (fz_X11_readLine 2000000 m 804) ∨ ld_Ok tp N T s J x m j A (fz_X11_readLine 2000000 m 804)) := by
  have C := h.2.1
  have h8 : x.2 223 8 = lx_kj tp N j := C.2.2.1.2.1
  have W := rd_Wv
  have w0 := rd_isWord C (k := 0) (by omega) (by omega)
  have w1 := rd_isWord C (k := 1) (by omega) (by omega)
  have w2 := rd_isWord C (k := 2) (by omega) (by omega)
  have w4 := rd_isWord C (k := 4) (by omega) (by omega)
  rw [W.1] at w0
  rw [W.2.1] at w1
  rw [W.2.2.1] at w2
  rw [W.2.2.2.2.1] at w4
  have h3 := h.2.2.1.2.2.1
  by_cases c0 : lx_kj tp N j = 3 ∧ lx_vj tp N j = 2606
  · rw [if_pos c0] at w0
    refine ⟨(if x.2 T 0 < 8 then fz_X4_readHead 2000000 x 223 1 0 else fz_X4_fail x 223 6), fun k i hi => ?_, ?_⟩
    · conv => lhs; unfold fz_X4_readTold_14
      rw [if_pos hi, if_neg (by omega), w0.1, Option.bind_some, if_neg (show ¬ (1 : Int) = 0 by decide)]
      by_cases c : x.2 T 0 < 8
      · rw [if_pos c, if_pos c]
      · rw [if_neg c, if_neg c]
    · unfold fz_X11_readLine
      rw [w0.2, Option.bind_some, if_neg (show ¬ (1 : Int) = 0 by decide)]
      exact ld_or (ld_conLine h c0.1)
  · rw [if_neg c0] at w0
    obtain ⟨b, hb⟩ : ∃ b : Int, b = if lx_kj tp N j = 3 ∧ lx_vj tp N j = 49733248 then 1 else 0 := ⟨_, rfl⟩
    have b01 : b = 0 ∨ b = 1 := by rw [hb]; split <;> omega
    have A86 : ∀ (k : Nat) (i : Int), fz_X4_readTold_86 2000000 (fz_X4_readTold_14 2000000 k) x 223 T i = (if x.2 T 1 < 5 then fz_X4_readHead 2000000 x 223 2 b else fz_X4_fail x 223 6).bind fun r => fz_X4_readTold_167 2000000 (fz_X4_readTold_14 2000000 k) r.2 223 T i r.1 := fun k i => by
      unfold fz_X4_readTold_86
      rw [w2.1, Option.bind_some, ← hb]
      by_cases c : x.2 T 1 < 5
      · rw [if_pos c, if_pos c]
      · rw [if_neg c, if_neg c]
    rw [← hb] at w2
    by_cases c1 : lx_kj tp N j = 3 ∧ lx_vj tp N j = 307058
    · rw [if_pos c1] at w1
      refine ⟨(if x.2 T 1 < 5 then fz_X4_readHead 2000000 x 223 2 b else fz_X4_fail x 223 6), fun k i hi => ?_, ?_⟩
      · conv => lhs; unfold fz_X4_readTold_14
        rw [if_pos hi, if_neg (by omega), w0.1, Option.bind_some, if_pos rfl, w1.1, Option.bind_some, if_neg (show ¬ (1 : Int) = 0 by decide)]
        exact A86 k i
      · unfold fz_X11_readLine
        rw [w0.2, Option.bind_some, if_pos rfl, w1.2, Option.bind_some, if_neg (show ¬ (1 : Int) = 0 by decide), w2.2, Option.bind_some]
        exact ld_or (ld_famLine h c1.1 b01)
    · rw [if_neg c1] at w1
      by_cases c2 : lx_kj tp N j = 3 ∧ lx_vj tp N j = 49733248
      · rw [if_pos c2] at hb
        refine ⟨(if x.2 T 1 < 5 then fz_X4_readHead 2000000 x 223 2 b else fz_X4_fail x 223 6), fun k i hi => ?_, ?_⟩
        · conv => lhs; unfold fz_X4_readTold_14
          rw [if_pos hi, if_neg (by omega), w0.1, Option.bind_some, if_pos rfl, w1.1, Option.bind_some, if_pos rfl, w2.1, Option.bind_some, if_neg (show ¬ b = 0 by omega)]
          exact A86 k i
        · unfold fz_X11_readLine
          rw [w0.2, Option.bind_some, if_pos rfl, w1.2, Option.bind_some, if_pos rfl, w2.2, Option.bind_some, if_neg (show ¬ b = 0 by omega), Option.bind_some]
          exact ld_or (ld_famLine h c2.1 b01)
      · rw [if_neg c2] at hb
        by_cases c4 : lx_kj tp N j = 3 ∧ lx_vj tp N j = 152
        · rw [if_pos c4] at w4
          refine ⟨(if x.2 T 2 < 16 then fz_X4_readEquation 2000000 x 223 (x.2 T 2) else fz_X4_fail x 223 6), fun k i hi => ?_, ?_⟩
          · conv => lhs; unfold fz_X4_readTold_14
            rw [if_pos hi, if_neg (by omega), w0.1, Option.bind_some, if_pos rfl, w1.1, Option.bind_some, if_pos rfl, w2.1, Option.bind_some, if_pos hb, w4.1, Option.bind_some, if_neg (show ¬ (1 : Int) = 0 by decide)]
            by_cases c : x.2 T 2 < 16
            · rw [if_pos c, if_pos c]
            · rw [if_neg c, if_neg c]
          · have eL : fz_X11_readLine 2000000 m 804 = ((fz_X11_readEquation 2000000 m 804).bind fun q => (if q.1 = 0 ∨ q.1 = 1 then some (q.1, q.2) else none)) := by
              unfold fz_X11_readLine
              rw [w0.2, Option.bind_some, if_pos rfl, w1.2, Option.bind_some, if_pos rfl, w2.2, Option.bind_some, if_pos hb, w4.2, Option.bind_some, if_neg (show ¬ (1 : Int) = 0 by decide)]
            rw [eL]
            apply ld_or
            by_cases c : x.2 T 2 < 16
            · rw [if_pos c]
              exact ld_equation h c4.1 rfl c
            · left
              rw [if_neg c]
              have hM := h.1.2
              have hs := h.2.2.1.1.2.1
              have eE : fz_X11_readEquation 2000000 m 804 = ((fz_X11_bad m 804 6).bind fun q => (if q.1 = 0 ∨ q.1 = 1 then some (q.1, q.2) else none)) := by
                unfold fz_X11_readEquation
                rw [fx_804_18 hM, Option.bind_some, h.2.2.1.1.2.2.1, bz_ard (by omega) (by rw [ln_808 hM]; omega), Option.bind_some, if_pos (show m.2 808 s = 16 by omega)]
              rw [eE]
              exact ld_bad0 C 6
        · rw [if_neg c4] at w4
          refine ⟨fz_X4_fail x 223 2, fun k i hi => ?_, Or.inl ?_⟩
          · conv => lhs; unfold fz_X4_readTold_14
            rw [if_pos hi, if_neg (by omega), w0.1, Option.bind_some, if_pos rfl, w1.1, Option.bind_some, if_pos rfl, w2.1, Option.bind_some, if_pos hb, w4.1, Option.bind_some, if_pos rfl]
          · unfold fz_X11_readLine
            rw [w0.2, Option.bind_some, if_pos rfl, w1.2, Option.bind_some, if_pos rfl, w2.2, Option.bind_some, if_pos hb, w4.2, Option.bind_some, if_pos rfl]
            exact ld_bad0 C 2
theorem lx_900 {x m : az_Hp} {j : Nat} (C : lx_Cur x m tp N J j) (h9 : 900 ≤ j) : lx_kj tp N j = 0 := by
  have N9 := C.2.2.2.1.2.1
  have ps := lx_posN (tp := tp) N9.1 j (fun i hi => C.1.2.2.2.1 i (by have := C.2.1; omega))
  have eb := lx_while_le (P := lx_spc) (tp := tp) (N - lx_pos tp N j).toNat (lx_pos tp N j)
  change lx_pos tp N j ≤ lx_f tp N (lx_pos tp N j) ∧ lx_f tp N (lx_pos tp N j) ≤ lx_pos tp N j + ((N - lx_pos tp N j).toNat : Int) at eb
  unfold lx_kj lx_k lx_k0
  rw [if_pos (by omega)]
/-- all LINES -/
theorem ld_loop : ∀ (d k k' : Nat) (x m : az_Hp) (j : Nat) (i : Int), J - j ≤ d → d + 1 < k → d + 2 < k' → ld_S tp N x m T s J j → 0 ≤ i → i ≤ j →
    (∃ x' m', fz_X4_readTold_14 2000000 k x 223 T i = some (0, x') ∧ fz_X11_load_65 2000000 k' m 804 1 = fz_X11_load_84 2000000 m' 804 0 ∧ bz_Upd x x' (ld_X T) ∧ bz_Upd m m' (ld_MB s) ∧ lx_fault x' m') ∨
    ∃ x' m', fz_X4_readTold_14 2000000 k x 223 T i = some (1, x') ∧ fz_X11_load_65 2000000 k' m 804 1 = fz_X11_load_84 2000000 m' 804 1 ∧ bz_Upd x x' (ld_X T) ∧ bz_Upd m m' (ld_M s) ∧ ld_T x' m' T s ∧ (bz_Fx x' ∧ bz_Fx m') := by
  intro d
  induction d with
  | zero =>
    intro k k' x m j i hd hk hk' h i0 ij
    obtain ⟨k, rfl⟩ : ∃ q, k = q + 1 := ⟨k - 1, by omega⟩
    obtain ⟨k', rfl⟩ : ∃ q, k' = q + 1 := ⟨k' - 1, by omega⟩
    have C := h.2.1
    have h8 : x.2 223 8 = lx_kj tp N j := C.2.2.1.2.1
    by_cases c0 : lx_kj tp N j = 0
    · right
      refine ⟨x, m, ?_, ?_, bz_Upd.refl, bz_Upd.refl, h.2.2.1, h.1⟩
      · unfold fz_X4_readTold_14
        by_cases c : i < 900
        · rw [if_pos c, if_pos (by omega)]
        · rw [if_neg c]
      · unfold fz_X11_load_65
        rw [if_neg (show ¬ (1 : Int) = 0 by decide), if_pos ((lx_kind C).1.mpr c0)]
    · have i9 : i < 900 := by
        by_cases c : i < 900
        · exact c
        · exact absurd (lx_900 C (by omega)) c0
      obtain ⟨A, hA, hB⟩ := ld_line h c0
      rcases hB with ⟨x', m', a1, a2, a3, a4, a5⟩ | ⟨x', m', j', a1, a2, a3, a4, a5, a6⟩
      · left
        obtain ⟨k', rfl⟩ : ∃ q, k' = q + 1 := ⟨k' - 1, by omega⟩
        refine ⟨x', m', ?_, ?_, a3, a4, a5⟩
        · rw [hA k i i9, a1, Option.bind_some]
          unfold fz_X4_readTold_167
          rw [if_pos rfl]
        · conv => lhs; unfold fz_X11_load_65
          rw [if_neg (show ¬ (1 : Int) = 0 by decide), if_neg (fun z => c0 ((lx_kind C).1.mp z)), a2, Option.bind_some]
          unfold fz_X11_load_65
          rw [if_pos rfl]
      · have := a3.2.1.2.1
        omega
  | succ d ih =>
    intro k k' x m j i hd hk hk' h i0 ij
    obtain ⟨k, rfl⟩ : ∃ q, k = q + 1 := ⟨k - 1, by omega⟩
    obtain ⟨k', rfl⟩ : ∃ q, k' = q + 1 := ⟨k' - 1, by omega⟩
    have C := h.2.1
    have h8 : x.2 223 8 = lx_kj tp N j := C.2.2.1.2.1
    by_cases c0 : lx_kj tp N j = 0
    · right
      refine ⟨x, m, ?_, ?_, bz_Upd.refl, bz_Upd.refl, h.2.2.1, h.1⟩
      · unfold fz_X4_readTold_14
        by_cases c : i < 900
        · rw [if_pos c, if_pos (by omega)]
        · rw [if_neg c]
      · unfold fz_X11_load_65
        rw [if_neg (show ¬ (1 : Int) = 0 by decide), if_pos ((lx_kind C).1.mpr c0)]
    · have i9 : i < 900 := by
        by_cases c : i < 900
        · exact c
        · exact absurd (lx_900 C (by omega)) c0
      obtain ⟨A, hA, hB⟩ := ld_line h c0
      rcases hB with ⟨x', m', a1, a2, a3, a4, a5⟩ | ⟨x', m', j', a1, a2, a3, a4, a5, a6⟩
      · left
        obtain ⟨k', rfl⟩ : ∃ q, k' = q + 1 := ⟨k' - 1, by omega⟩
        refine ⟨x', m', ?_, ?_, a3, a4, a5⟩
        · rw [hA k i i9, a1, Option.bind_some]
          unfold fz_X4_readTold_167
          rw [if_pos rfl]
        · conv => lhs; unfold fz_X11_load_65
          rw [if_neg (show ¬ (1 : Int) = 0 by decide), if_neg (fun z => c0 ((lx_kind C).1.mp z)), a2, Option.bind_some]
          unfold fz_X11_load_65
          rw [if_pos rfl]
      · have jJ := a3.2.1.2.1
        have eX : fz_X4_readTold_14 2000000 (k + 1) x 223 T i = fz_X4_readTold_14 2000000 k x' 223 T (i + 1) := by
          rw [hA k i i9, a1, Option.bind_some]
          unfold fz_X4_readTold_167
          rw [if_neg (show ¬ (1 : Int) = 0 by decide), az_w32_id (by omega) (by omega)]
        have eM : fz_X11_load_65 2000000 (k' + 1) m 804 1 = fz_X11_load_65 2000000 k' m' 804 1 := by
          conv => lhs; unfold fz_X11_load_65
          rw [if_neg (show ¬ (1 : Int) = 0 by decide), if_neg (fun z => c0 ((lx_kind C).1.mp z)), a2, Option.bind_some]
        rw [eX, eM]
        rcases ih k k' x' m' j' (i + 1) (by omega) (by omega) (by omega) a3 (by omega) (by omega) with ⟨x2, m2, b1, b2, b3, b4, b5⟩ | ⟨x2, m2, b1, b2, b3, b4, b5, b6⟩
        · exact Or.inl ⟨x2, m2, b1, b2, a4.trans b3, (a5.weak fun _ _ z => Or.inl z).trans b4, b5⟩
        · exact Or.inr ⟨x2, m2, b1, b2, a4.trans b3, a5.trans b4, b5, b6⟩
end LN
