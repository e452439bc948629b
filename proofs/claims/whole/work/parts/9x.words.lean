/-! a word is printed -/
theorem pz_bysLen {g : Int} : ∀ l : List Int, (bz_bys g l).length = l.length := by
  intro l
  induction l with
  | nil => rfl
  | cons d t ih =>
    cases t with
    | nil => rfl
    | cons e u =>
      show (bz_bys g (e :: u)).length + 1 = _
      rw [ih]
      rfl
theorem pz_bysAt {g : Int} : ∀ (l : List Int) (p : Nat), p < l.length → (bz_bys g l).getD p 0 = l.getD p 0 + (if p + 1 < l.length then 96 else g) := by
  intro l
  induction l with
  | nil => intro p h; exact absurd h (Nat.not_lt_zero _)
  | cons d t ih =>
    intro p h
    cases t with
    | nil =>
      have : p = 0 := by simp at h; exact h
      subst this
      simp [bz_bys]
    | cons e u =>
      cases p with
      | zero => simp [bz_bys]
      | succ p =>
        have := ih p (by simp at h ⊢; omega)
        simp only [bz_bys, List.getD_cons_succ]
        rw [this]
        congr 1
        simp
theorem pz_getD_drop {l : List Int} {p : Nat} (h : p < l.length) : l.drop p = l.getD p 0 :: l.drop (p + 1) := by
  rw [List.drop_eq_getElem_cons h]
  congr 1
  simp [List.getD, h]
theorem pz_lettersL {c g : Int} {l L : List Int} (hl : bz_let l) (hc : c = bz_num 27 l) (c1 : c < 387420489) (c0 : 0 < c) (hg : g = 64 ∨ g = 96) (hL : L.length + 8 < 100000) : ∀ (p k : Nat) (σ : az_Hp), p < k → p ≤ 6 → bz_Fx σ → pz_O σ (L ++ ((bz_bys g l).drop p).reverse) →
    ∃ σ', fz_X3_putLetters_6 2000000 k σ 801 c (if p < l.length then 97 else g + 1) ((27 : Int) ^ p / 27) = some σ' ∧ pz_U σ σ' pz_SP ∧ pz_O σ' (L ++ (bz_bys g l).reverse) := by
  intro p
  induction p with
  | zero =>
    intro k σ hk hp hF hO
    obtain ⟨k, rfl⟩ : ∃ k', k = k' + 1 := ⟨k - 1, by omega⟩
    refine ⟨σ, ?_, pz_U.refl, hO⟩
    unfold fz_X3_putLetters_6
    rw [if_neg (by decide)]
  | succ p ih =>
    intro k σ hk hp hF hO
    obtain ⟨k, rfl⟩ : ∃ k', k = k' + 1 := ⟨k - 1, by omega⟩
    have pw : 1 ≤ (27 : Int) ^ p ∧ (27 : Int) ^ p ≤ 14348907 := by
      have : p = 0 ∨ p = 1 ∨ p = 2 ∨ p = 3 ∨ p = 4 ∨ p = 5 := by omega
      rcases this with rfl | rfl | rfl | rfl | rfl | rfl <;> decide
    have e1 : (27 : Int) ^ (p + 1) / 27 = 27 ^ p := by rw [Int.pow_succ]; exact Int.mul_ediv_cancel _ (by decide)
    have e2 : az_idivV ((27 : Int) ^ p) 27 = 27 ^ p / 27 := pz_div (by omega) (by omega) (by decide) (by decide)
    have dv : az_idivV c ((27 : Int) ^ p) = c / 27 ^ p := pz_div (by omega) (by omega) (by omega) (by omega)
    have q0 : 0 ≤ c / 27 ^ p := Int.ediv_nonneg (by omega) (by omega)
    have q1 : c / 27 ^ p ≤ c := Int.ediv_le_self _ (by omega)
    have dg : az_iremV (c / 27 ^ p) 27 = l.getD p 0 := by
      rw [pz_rem q0 (by omega) (by decide) (by decide), hc]
      exact pz_dg (by decide) l p (fun d hd => by have := hl.2.2 d hd; omega)
    have blen := pz_bysLen (g := g) l
    rw [e1]
    have h27 : ¬ ((27 : Nat) = 0) := by decide
    by_cases hpl : p < l.length
    · have dr : 1 ≤ l.getD p 0 ∧ l.getD p 0 ≤ 26 := by
        have : l.getD p 0 = l[p] := by simp [List.getD, hpl]
        rw [this]
        exact hl.2.2 _ (List.getElem_mem hpl)
      have bat := pz_bysAt (g := g) l p hpl
      have lt : L.length + ((bz_bys g l).drop (p + 1)).reverse.length < 100000 := by
        rw [List.length_reverse, List.length_drop, blen]
        have := hl.2.1
        omega
      obtain ⟨σ1, x1, x2, x3⟩ := pz_put (c := (bz_bys g l).getD p 0) hF hO (by rw [List.length_append]; exact lt)
      have eL : L ++ ((bz_bys g l).drop (p + 1)).reverse ++ [(bz_bys g l).getD p 0] = L ++ ((bz_bys g l).drop p).reverse := by
        rw [pz_getD_drop (l := bz_bys g l) (p := p) (by omega), List.reverse_cons, List.append_assoc]
      rw [eL] at x3
      obtain ⟨σ', y1, y2, y3⟩ := ih k σ1 (by omega) (by omega) (x2.fx hF) x3
      refine ⟨σ', ?_, x2.trans y2, y3⟩
      rw [if_pos hpl] at y1
      have ec : az_w32 (az_w32 ((if p + 1 < l.length then (97 : Int) else g + 1) + l.getD p 0) - 1) = (bz_bys g l).getD p 0 := by
        rw [bat]
        by_cases e : p + 1 < l.length
        · rw [if_pos e, if_pos e, az_w32_id (z := 97 + _) (by omega) (by omega), az_w32_id (by omega) (by omega)]; omega
        · rw [if_neg e, if_neg e, az_w32_id (z := g + 1 + _) (by omega) (by omega), az_w32_id (by omega) (by omega)]; omega
      conv => lhs; unfold fz_X3_putLetters_6
      rw [if_pos (by omega), if_neg (by omega), if_neg (by decide), dv, dg, if_pos (by omega), ec, x1, Option.bind_some, if_neg (by decide), e2, y1]
    · have dr : l.getD p 0 = 0 := by simp [List.getD, List.getElem?_eq_none (by omega : l.length ≤ p)]
      have d1 : (bz_bys g l).drop (p + 1) = [] := List.drop_eq_nil_of_le (by omega)
      have d2 : (bz_bys g l).drop p = [] := List.drop_eq_nil_of_le (by omega)
      rw [d1] at hO
      obtain ⟨σ', y1, y2, y3⟩ := ih k σ (by omega) (by omega) hF (by rw [d2]; exact hO)
      refine ⟨σ', ?_, y2, y3⟩
      rw [if_neg hpl] at y1
      conv => lhs; unfold fz_X3_putLetters_6
      rw [if_pos (by omega), if_neg (by omega), if_neg (by decide), dv, dg, dr, if_neg (by omega), if_neg (by decide), e2, if_neg (by omega), y1]
theorem pz_letters {σ : az_Hp} {c g : Int} {l L : List Int} (hF : bz_Fx σ) (hO : pz_O σ L) (hl : bz_let l) (hc : c = bz_num 27 l) (hg : g = 64 ∨ g = 96) (hL : L.length + 8 < 100000) : ∃ σ', fz_X3_putLetters 2000000 σ 801 c (g + 1) = some σ' ∧ pz_U σ σ' pz_SP ∧ pz_O σ' (L ++ (bz_bys g l).reverse) := by
  have rg := bz_WR.rng (g := g) (c := c) (m := bz_num 256 (bz_bys g l)) ⟨l, hl, hc, rfl⟩
  have blen := pz_bysLen (g := g) l
  have h6 := hl.2.1
  have d6 : (bz_bys g l).drop 6 = [] := List.drop_eq_nil_of_le (by omega)
  obtain ⟨σ', y1, y2, y3⟩ := pz_lettersL hl hc rg.2 rg.1 hg hL 6 2000000 σ (by omega) (by omega) hF (by rw [d6]; simpa using hO)
  refine ⟨σ', ?_, y2, y3⟩
  rw [if_neg (by omega), show (27 : Int) ^ 6 / 27 = 14348907 by decide] at y1
  exact y1
theorem pz_tellsL {m g : Int} {l L : List Int} (hl : bz_let l) (hm : m = bz_num 256 (bz_bys g l)) (hg : g = 64 ∨ g = 96) (hL : L.length + 8 < 100000) : ∀ (p k : Nat) (σ : az_Hp), p < k → p ≤ 8 → bz_Fx σ → pz_R σ (L ++ ((bz_bys g l).drop p).reverse) →
    ∃ σ', fz_X11_tells_3 2000000 k σ 804 m (8 * p - 8) = some σ' ∧ bz_Upd σ σ' pz_SR ∧ pz_R σ' (L ++ (bz_bys g l).reverse) := by
  have brng := bz_bys_rng hg hl.2.2
  have blen := pz_bysLen (g := g) l
  have h6 := hl.2.1
  have mle : m < 281474976710656 := by
    have := bz_num_le (B := 256) (by decide) (l := bz_bys g l) (fun d hd => by have := brng d hd; omega)
    rw [hm]
    rw [blen] at this
    have h7 : (256 : Int) ^ l.length ≤ 281474976710656 := by
      have : l.length = 0 ∨ l.length = 1 ∨ l.length = 2 ∨ l.length = 3 ∨ l.length = 4 ∨ l.length = 5 ∨ l.length = 6 := by omega
      rcases this with e | e | e | e | e | e | e <;> (rw [e]; decide)
    omega
  have m0 : 0 ≤ m := by
    rw [hm]
    exact (bz_num_nn (B := 256) (by decide) brng).1
  intro p
  induction p with
  | zero =>
    intro k σ hk hp hF hO
    obtain ⟨k, rfl⟩ : ∃ k', k = k' + 1 := ⟨k - 1, by omega⟩
    refine ⟨σ, ?_, bz_Upd.refl, hO⟩
    unfold fz_X11_tells_3
    rw [if_pos (by omega)]
  | succ p ih =>
    intro k σ hk hp hF hO
    obtain ⟨k, rfl⟩ : ∃ k', k = k' + 1 := ⟨k - 1, by omega⟩
    have ev : (8 * ((p + 1 : Nat) : Int) - 8) = 8 * (p : Int) := by push_cast; omega
    have wv : az_w32 (8 * (p : Int) + -8) = 8 * (p : Int) - 8 := by rw [az_w32_id (by omega) (by omega)]; omega
    have dg : az_iandV (az_w32 (az_lshrV m (8 * (p : Int)))) 255 = (bz_bys g l).getD p 0 := by
      rw [pz_and255, pz_w32mod, pz_shr m0 (by omega) p (by omega), hm]
      exact pz_dg (by decide) _ p brng
    rw [ev]
    by_cases hpl : p < l.length
    · have dr : 1 ≤ l.getD p 0 ∧ l.getD p 0 ≤ 26 := by
        have : l.getD p 0 = l[p] := by simp [List.getD, hpl]
        rw [this]
        exact hl.2.2 _ (List.getElem_mem hpl)
      have bat := pz_bysAt (g := g) l p hpl
      have br : 1 ≤ (bz_bys g l).getD p 0 ∧ (bz_bys g l).getD p 0 ≤ 127 := by
        rw [bat]
        split <;> omega
      obtain ⟨σ1, x1, x2, x3⟩ := pz_tell (c := (bz_bys g l).getD p 0) hF hO (by rw [List.length_append, List.length_reverse, List.length_drop, blen]; omega) (by omega) br.2
      have eL : L ++ ((bz_bys g l).drop (p + 1)).reverse ++ [(bz_bys g l).getD p 0] = L ++ ((bz_bys g l).drop p).reverse := by
        rw [pz_getD_drop (l := bz_bys g l) (p := p) (by omega), List.reverse_cons, List.append_assoc]
      rw [eL] at x3
      obtain ⟨σ', y1, y2, y3⟩ := ih k σ1 (by omega) (by omega) (hF.upd x2) x3
      refine ⟨σ', ?_, x2.trans y2, y3⟩
      conv => lhs; unfold fz_X11_tells_3
      rw [if_neg (by omega), dg, if_neg (by omega), x1, Option.bind_some, wv, y1]
    · have dr : (bz_bys g l).getD p 0 = 0 := by simp [List.getD, List.getElem?_eq_none (by omega : (bz_bys g l).length ≤ p)]
      have d1 : (bz_bys g l).drop (p + 1) = [] := List.drop_eq_nil_of_le (by omega)
      have d2 : (bz_bys g l).drop p = [] := List.drop_eq_nil_of_le (by omega)
      rw [d1] at hO
      obtain ⟨σ', y1, y2, y3⟩ := ih k σ (by omega) (by omega) hF (by rw [d2]; exact hO)
      refine ⟨σ', ?_, y2, y3⟩
      conv => lhs; unfold fz_X11_tells_3
      rw [if_neg (by omega), dg, if_pos dr, wv, y1]
theorem pz_tells {σ : az_Hp} {m g : Int} {l L : List Int} (hF : bz_Fx σ) (hO : pz_R σ L) (hl : bz_let l) (hm : m = bz_num 256 (bz_bys g l)) (hg : g = 64 ∨ g = 96) (hL : L.length + 8 < 100000) : ∃ σ', fz_X11_tells 2000000 σ 804 m = some σ' ∧ bz_Upd σ σ' pz_SR ∧ pz_R σ' (L ++ (bz_bys g l).reverse) := by
  have blen := pz_bysLen (g := g) l
  have h6 := hl.2.1
  have d8 : (bz_bys g l).drop 8 = [] := List.drop_eq_nil_of_le (by omega)
  obtain ⟨σ', y1, y2, y3⟩ := pz_tellsL hl hm hg hL 8 2000000 σ (by omega) (by omega) hF (by rw [d8]; simpa using hO)
  exact ⟨σ', y1, y2, y3⟩
