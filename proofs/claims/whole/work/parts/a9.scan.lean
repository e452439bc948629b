/-! the class's scan -/
section SD
variable {tp : Int → Int} {N : Int}
theorem lx_165 {x : az_Hp} {j q v6 : Int} {k15 : az_Hp → Int → Int → Int → Int → Option az_Hp} (hF : bz_Fx x) (hj : x.2 225 3 = j) (j0 : 0 ≤ j) (j1 : j ≤ 901) (q0 : 0 ≤ q) (q1 : q ≤ 900) : fz_X2_scan_165 2000000 k15 x 225 2 N q v6 = if 0 < j ∧ x.2 226 (j - 1) = 1 then some x else k15 x 225 2 N (if v6 < q + 1 then q + 1 else v6) := by
  have l := ln_226 hF
  unfold fz_X2_scan_165
  rw [hj, az_w32_id (z := q + 1) (by omega) (by omega)]
  by_cases c : 0 < j
  · rw [if_pos c, fx_225_0 hF, Option.bind_some, az_w32_id (by omega) (by omega), bz_ard (by omega) (by omega), Option.bind_some]
    by_cases e : x.2 226 (j - 1) = 1
    · rw [if_pos e, if_pos ⟨c, e⟩]
    · rw [if_neg e, if_neg (show ¬ (0 < j ∧ x.2 226 (j - 1) = 1) from fun z => e z.2)]
  · rw [if_neg c, if_neg (show ¬ (0 < j ∧ x.2 226 (j - 1) = 1) from fun z => c z.1)]
theorem lx_scanL {x0 : az_Hp} (hF0 : bz_Fx x0) (hT : lx_tapeX x0 tp N) : ∀ (d k : Nat) (x : az_Hp) (q : Int) (j : Nat), d < k → q + d = N → lx_pos tp N j ≤ q → q ≤ lx_f tp N (lx_pos tp N j) → 0 ≤ lx_pos tp N j → (j : Int) ≤ q → bz_Upd x0 x lx_SX → x.2 225 3 = j → (∀ i : Nat, i < j → lx_tok x tp N i ∧ lx_k tp N (lx_pos tp N i) ≠ 0 ∧ lx_k tp N (lx_pos tp N i) ≠ 1) → ∃ x' J, fz_X2_scan_15 2000000 k x 225 2 N q = some x' ∧ bz_Upd x0 x' lx_SX ∧ lx_Rec x' tp N J := by
  have N9 := hT.1
  intro d
  induction d using Nat.strongRecOn with
  | ind d ih =>
    intro k x q j hk hq pq qf p0 jq u hj htok
    obtain ⟨k, rfl⟩ : ∃ k', k = k' + 1 := ⟨k - 1, by omega⟩
    obtain ⟨p, hp⟩ : ∃ p, p = lx_pos tp N j := ⟨_, rfl⟩
    rw [← hp] at pq qf p0
    have eb := lx_while_le (P := lx_spc) (tp := tp) (N - p).toNat p
    have ei := lx_while_in (P := lx_spc) (tp := tp) (N - p).toNat p
    have eo := lx_while_out (P := lx_spc) (tp := tp) (N - p).toNat p
    change p ≤ lx_f tp N p ∧ lx_f tp N p ≤ p + ((N - p).toNat : Int) at eb
    change ∀ i, p ≤ i → i < lx_f tp N p → lx_spc (tp i) = true at ei
    change lx_f tp N p < p + ((N - p).toNat : Int) → lx_spc (tp (lx_f tp N p)) = false at eo
    have hF := hF0.upd u
    have hT' : lx_tapeX x tp N := ⟨N9, fun i i0 i1 => by rw [u.2.2 2 i (fun z => by unfold lx_SX at z; omega)]; exact hT.2 i i0 i1⟩
    have l2 := ln_2 hF
    -- a token has been found
    have fin : ∀ (x1 : az_Hp) (kk vv t : Int), bz_Upd x x1 lx_SX → x1.2 225 3 = (j : Int) + 1 → x1.2 226 j = kk → x1.2 227 j = vv → x1.2 228 j = lx_f tp N p → (∀ a i, i ≠ (j : Int) → (a = 226 ∨ a = 227 ∨ a = 228) → x1.2 a i = x.2 a i) → kk = lx_k tp N p → (2 ≤ kk → kk ≤ 4 → vv = lx_v tp N p) → lx_Rec x1 tp N j ∨ (kk ≠ 0 ∧ kk ≠ 1) ∧ ∀ i : Nat, i < j + 1 → lx_tok x1 tp N i ∧ lx_k tp N (lx_pos tp N i) ≠ 0 ∧ lx_k tp N (lx_pos tp N i) ≠ 1 := by
      intro x1 kk vv t u1 e3 e26 e27 e28 same hkk hvv
      have tok : ∀ i : Nat, i ≤ j → lx_tok x1 tp N i := fun i hi => by
        by_cases e : i = j
        · subst e
          unfold lx_tok
          rw [← hp]
          exact ⟨by rw [e26, hkk], fun a b => by rw [e27]; exact hvv (by rw [hkk]; exact a) (by rw [hkk]; exact b), e28⟩
        · obtain ⟨⟨a1, a2, a3⟩, -⟩ := htok i (by omega)
          have ne : ((i : Nat) : Int) ≠ (j : Int) := by omega
          exact ⟨by rw [same _ _ ne (by omega)]; exact a1, fun b c => by rw [same _ _ ne (by omega)]; exact a2 b c, by rw [same _ _ ne (by omega)]; exact a3⟩
      by_cases c : kk = 0 ∨ kk = 1
      · left
        exact ⟨e3, by omega, tok, fun i hi => (htok i hi).2, by rw [← hp, ← hkk]; exact c⟩
      · right
        refine ⟨by omega, fun i hi => ⟨tok i (by omega), ?_⟩⟩
        by_cases e : i = j
        · subst e
          rw [← hp, ← hkk]; omega
        · exact (htok i (by omega)).2
    by_cases cN : q < N
    · have cq := hT'.2 q (by omega) cN
      by_cases cs : q < lx_f tp N p
      · -- a space
        have sp := lx_spcP.mp (ei q pq cs)
        obtain ⟨x', J, y1, y2⟩ := ih (d - 1) (by omega) k x (q + 1) j (by omega) (by omega) (by rw [← hp]; omega) (by rw [← hp]; omega) (by rw [← hp]; exact p0) (by omega) u hj htok
        refine ⟨x', J, ?_, y2⟩
        rw [← y1]
        have last : ¬ (0 < (j : Int) ∧ x.2 226 ((j : Int) - 1) = 1) := by
          rintro ⟨a, b⟩
          obtain ⟨⟨a1, -⟩, -, a3⟩ := htok (j - 1) (by omega)
          rw [show ((j - 1 : Nat) : Int) = (j : Int) - 1 by omega] at a1
          rw [a1] at b
          exact a3 b
        have r165 := lx_165 (N := N) (q := q) (v6 := q + 1) (k15 := fz_X2_scan_15 2000000 k) hF hj (by omega) (by omega) (by omega) (by omega)
        rw [if_neg last, if_neg (by omega)] at r165
        have nl : ¬ lx_let (tp q) = true := fun z => by rw [lx_letP] at z; omega
        have nd : ¬ lx_dig (tp q) = true := fun z => by rw [lx_digP] at z; omega
        conv => lhs; unfold fz_X2_scan_15
        rw [if_pos cN, bz_ard (by omega) (by omega), Option.bind_some, cq.1, lx_isLetter, Option.bind_some, if_neg nl, if_pos rfl, lx_isDig, Option.bind_some, if_neg nd, if_pos rfl, az_w32_id (z := q + 1) (by omega) (by omega)]
        rcases sp with e | e
        · rw [if_neg (show ¬ tp q = 10 by omega), if_pos e, r165]
        · rw [if_pos e, r165]
      · -- a token begins
        have ef : lx_f tp N p = q := by omega
        have ns : ¬ lx_spc (tp q) = true := fun z => by rw [ef] at eo; rw [eo (by omega)] at z; cases z
        have nsP := ns
        rw [lx_spcP] at nsP
        have go : ∀ (x1 : az_Hp) (kk vv t : Int), bz_Upd x x1 lx_SX → x1.2 225 3 = (j : Int) + 1 → x1.2 226 j = kk → x1.2 227 j = vv → x1.2 228 j = q → (∀ a i, i ≠ (j : Int) → (a = 226 ∨ a = 227 ∨ a = 228) → x1.2 a i = x.2 a i) → kk = lx_k tp N p → (2 ≤ kk → kk ≤ 4 → vv = lx_v tp N p) → q < t → t ≤ N → t = lx_t tp N p → ∃ x' J, fz_X2_scan_165 2000000 (fz_X2_scan_15 2000000 k) x1 225 2 N q t = some x' ∧ bz_Upd x0 x' lx_SX ∧ lx_Rec x' tp N J := by
          intro x1 kk vv t u1 e3 e26 e27 e28 same hkk hvv qt tN ht
          have hF1 := hF.upd u1
          have r165 := lx_165 (N := N) (q := q) (v6 := t) (k15 := fz_X2_scan_15 2000000 k) hF1 e3 (by omega) (by omega) (by omega) (by omega)
          rw [show (j : Int) + 1 - 1 = j by omega, e26, if_neg (show ¬ t < q + 1 by omega)] at r165
          rw [r165]
          rcases fin x1 kk vv t u1 e3 e26 e27 (by rw [ef]; exact e28) same hkk hvv with rc | ⟨⟨n0, n1⟩, toks⟩
          · by_cases c1 : kk = 1
            · rw [if_pos ⟨by omega, c1⟩]
              exact ⟨x1, j, rfl, u.trans u1, rc⟩
            · -- the end isn't here
              exfalso
              have := rc.2.2.2.2
              rw [← hp, ← hkk] at this
              have k0 : kk = 0 := by omega
              have nk : lx_k tp N p ≠ 0 := by
                unfold lx_k lx_k0
                rw [ef, if_neg (by omega)]
                repeat' split
                all_goals (first | decide | skip)
                all_goals (rename_i z; rw [lx_sgnP] at z; omega)
              exact nk (by rw [← hkk]; exact k0)
          · rw [if_neg (fun z => n1 z.2)]
            have tf := (lx_while_le (P := lx_spc) (tp := tp) (N - t).toNat t).1
            have pe : lx_pos tp N (j + 1) = t := by rw [ht, hp]; rfl
            exact ih (N - t).toNat (by omega) k x1 t (j + 1) (by omega) (by omega) (by rw [pe]; omega) (by rw [pe]; exact tf) (by rw [pe]; omega) (by push_cast; omega) (u.trans u1) (by rw [e3]; push_cast; rfl) toks
        have kq : lx_k tp N p = lx_k0 tp N q := by unfold lx_k; rw [ef]
        have vq : lx_v tp N p = lx_v0 tp N q := by unfold lx_v; rw [ef]
        have tq : lx_t tp N p = lx_t0 tp N q := by unfold lx_t; rw [ef]
        by_cases cl : lx_let (tp q) = true
        · have eb2 := lx_while_le (P := lx_let) (tp := tp) (N - q).toNat q
          have ei2 := lx_while_in (P := lx_let) (tp := tp) (N - q).toNat q
          change q ≤ lx_e tp N q ∧ lx_e tp N q ≤ q + ((N - q).toNat : Int) at eb2
          change ∀ i, q ≤ i → i < lx_e tp N q → lx_let (tp i) = true at ei2
          have qe : q < lx_e tp N q := by
            have : lx_while lx_let tp ((N - q).toNat - 1 + 1) q = lx_e tp N q := by unfold lx_e; rw [show (N - q).toNat - 1 + 1 = (N - q).toNat by omega]
            rw [← this]
            unfold lx_while
            rw [if_pos cl]
            have := (lx_while_le (P := lx_let) (tp := tp) ((N - q).toNat - 1) (q + 1)).1
            omega
          have a1 : fz_X2_endOfLetters 2000000 x 2 q N = some (lx_e tp N q) := lx_endL hF hT' (by omega) (by omega) (lx_e tp N q - q).toNat 2000000 q (by omega) (by omega) (by omega)
          have a2 := lx_kindL (e := lx_e tp N q) hF hT' (by omega) qe (by omega) ei2 (lx_e tp N q - (q + 1)).toNat 2000000 (q + 1) (by omega) (by omega) (by omega)
          obtain ⟨v', a3, a4⟩ := lx_valueL (e := lx_e tp N q) hF hT' (by omega) (by omega) ei2 (lx_e tp N q - q).toNat 2000000 q 0 (by omega) (by omega) (by omega) (fun _ => by rw [show (q - q).toNat = 0 by omega]; rfl)
          have kk0 : lx_k0 tp N q = if lx_gr tp (lx_e tp N q - (q + 1)).toNat (q + 1) then 1 else if 6 < lx_e tp N q - q then 1 else if tp q < 97 then 2 else 3 := by
            unfold lx_k0
            rw [if_neg (by omega), if_pos cl]
            by_cases c6 : 6 < lx_e tp N q - q
            · rw [if_pos c6, if_pos c6]; split <;> rfl
            · rw [if_neg c6, if_neg c6]
          rw [← kk0] at a2
          obtain ⟨x1, b1, b2, b3, b4, b5, b6, b7⟩ := lx_addX (k := lx_k0 tp N q) (v := v') (f := q) hF hj (by omega) (by omega)
          obtain ⟨x', J, y1, y2⟩ := go x1 (lx_k0 tp N q) v' (lx_e tp N q) b2 b3 b4 b5 b6 b7 kq.symm (fun z1 z2 => by
            rw [vq]
            unfold lx_v0
            rw [if_pos cl]
            refine a4 ?_
            by_cases c6 : 6 < lx_e tp N q - q
            · exfalso
              have : lx_k0 tp N q = 1 := by
                unfold lx_k0
                rw [if_neg (by omega), if_pos cl, if_pos c6]
              omega
            · omega) qe (by omega) (by rw [tq]; unfold lx_t0; rw [if_pos cl])
          refine ⟨x', J, ?_, y2⟩
          rw [← y1]
          conv => lhs; unfold fz_X2_scan_15
          rw [if_pos cN, bz_ard (by omega) (by omega), Option.bind_some, cq.1, lx_isLetter, Option.bind_some, if_pos cl, if_neg (show ¬ (1 : Int) = 0 by decide), a1, Option.bind_some]
          unfold fz_X2_kindOfLetters fz_X2_valueOfLetters
          rw [az_w32_id (z := q + 1) (by omega) (by omega), a2, Option.bind_some, a3, Option.bind_some, b1, Option.bind_some]
        · have t1 : lx_t tp N p = q + 1 := by rw [tq]; unfold lx_t0; rw [if_neg cl]
          by_cases cd : lx_dig (tp q) = true
          · have cdP := lx_digP.mp cd
            obtain ⟨w0, hw0, kw⟩ : ∃ w0 : Int, (w0 = 0 ∨ w0 = 1) ∧ lx_k0 tp N q = (if w0 = 0 then 1 else 4) ∧ (if q + 1 < N then ((az_ard x 2 (q + 1)).bind fun x8 => ((fz_X2_isDigit x x8).bind fun r9 => (if r9 = 0 then fz_X2_scan_104 2000000 (fz_X2_scan_15 2000000 k) x 225 2 N q (tp q) (q + 1) 1 else fz_X2_scan_104 2000000 (fz_X2_scan_15 2000000 k) x 225 2 N q (tp q) (q + 1) 0))) else fz_X2_scan_104 2000000 (fz_X2_scan_15 2000000 k) x 225 2 N q (tp q) (q + 1) 1) = fz_X2_scan_104 2000000 (fz_X2_scan_15 2000000 k) x 225 2 N q (tp q) (q + 1) w0 := by
              unfold lx_k0
              rw [if_neg (show ¬ N ≤ q by omega), if_neg cl, if_pos cd]
              by_cases c1 : q + 1 < N
              · rw [if_pos c1, bz_ard (by omega) (by omega), Option.bind_some, (hT'.2 (q + 1) (by omega) c1).1, lx_isDig, Option.bind_some]
                by_cases c2 : lx_dig (tp (q + 1)) = true
                · exact ⟨0, Or.inl rfl, by rw [if_pos ⟨c1, c2⟩, if_pos rfl], by rw [if_pos c2, if_neg (show ¬ (1 : Int) = 0 by decide)]⟩
                · exact ⟨1, Or.inr rfl, by rw [if_neg (fun z => c2 z.2), if_neg (show ¬ (1 : Int) = 0 by decide)], by rw [if_neg c2, if_pos rfl]⟩
              · exact ⟨1, Or.inr rfl, by rw [if_neg (fun z => c1 z.1), if_neg (show ¬ (1 : Int) = 0 by decide)], by rw [if_neg c1]⟩
            obtain ⟨kw, run⟩ := kw
            obtain ⟨x1, b1, b2, b3, b4, b5, b6, b7⟩ := lx_addX (k := if w0 = 0 then 1 else 4) (v := tp q - 48) (f := q) hF hj (by omega) (by omega)
            obtain ⟨x', J, y1, y2⟩ := go x1 (if w0 = 0 then 1 else 4) (tp q - 48) (q + 1) b2 b3 b4 b5 b6 b7 (by rw [kq, kw]) (fun _ _ => by rw [vq]; unfold lx_v0; rw [if_neg cl]) (by omega) (by omega) t1.symm
            refine ⟨x', J, ?_, y2⟩
            rw [← y1]
            conv => lhs; unfold fz_X2_scan_15
            rw [if_pos cN, bz_ard (by omega) (by omega), Option.bind_some, cq.1, lx_isLetter, Option.bind_some, if_neg cl, if_pos rfl, lx_isDig, Option.bind_some, if_pos cd, if_neg (show ¬ (1 : Int) = 0 by decide), az_w32_id (z := q + 1) (by omega) (by omega), run]
            unfold fz_X2_scan_104
            rw [az_w32_id (z := tp q - 48) (by omega) (by omega)]
            rcases hw0 with e | e
            · rw [if_pos e] at b1 ⊢; rw [b1, Option.bind_some]
            · rw [if_neg (show ¬ w0 = 0 by omega)] at b1 ⊢; rw [b1, Option.bind_some]
          · have kw : lx_k0 tp N q = if lx_sgn (tp q) then tp q else 1 := by
              unfold lx_k0
              rw [if_neg (show ¬ N ≤ q by omega), if_neg cl, if_neg cd]
            obtain ⟨x1, b1, b2, b3, b4, b5, b6, b7⟩ := lx_addX (k := if lx_sgn (tp q) then tp q else 1) (v := 0) (f := q) hF hj (by omega) (by omega)
            obtain ⟨x', J, y1, y2⟩ := go x1 (if lx_sgn (tp q) then tp q else 1) 0 (q + 1) b2 b3 b4 b5 b6 b7 (by rw [kq, kw]) (fun z1 z2 => by
              exfalso
              by_cases c : lx_sgn (tp q) = true
              · rw [if_pos c] at z1 z2; rw [lx_sgnP] at c; omega
              · rw [if_neg c] at z1; omega) (by omega) (by omega) t1.symm
            refine ⟨x', J, ?_, y2⟩
            rw [← y1]
            conv => lhs; unfold fz_X2_scan_15
            rw [if_pos cN, bz_ard (by omega) (by omega), Option.bind_some, cq.1, lx_isLetter, Option.bind_some, if_neg cl, if_pos rfl, lx_isDig, Option.bind_some, if_neg cd, if_pos rfl, if_neg (show ¬ tp q = 10 by omega), if_neg (show ¬ tp q = 32 by omega), lx_isSign, Option.bind_some, az_w32_id (z := q + 1) (by omega) (by omega)]
            by_cases c : lx_sgn (tp q) = true
            · rw [if_pos c] at b1 ⊢; rw [if_neg (show ¬ (1 : Int) = 0 by decide), b1, Option.bind_some]
            · rw [if_neg c] at b1 ⊢; rw [if_pos rfl, b1, Option.bind_some]
    · have ef : lx_f tp N p = N := by omega
      obtain ⟨x1, b1, b2, b3, b4, b5, b6, b7⟩ := lx_addX (k := 0) (v := 0) (f := N) hF hj (by omega) (by omega)
      have kq : lx_k tp N p = 0 := by unfold lx_k lx_k0; rw [ef, if_pos (by omega)]
      refine ⟨x1, j, ?_, u.trans b2, ?_⟩
      · unfold fz_X2_scan_15
        rw [if_neg cN, b1, Option.bind_some]
      · rcases fin x1 0 0 0 b2 b3 b4 b5 (by rw [ef]; exact b6) b7 kq.symm (fun z _ => by omega) with rc | ⟨⟨n0, -⟩, -⟩
        · exact rc
        · exact absurd rfl n0
theorem lx_scan {x : az_Hp} (hF : bz_Fx x) (hT : lx_tapeX x tp N) : ∃ x' J, fz_X2_scan 2000000 x 225 2 N = some x' ∧ bz_Upd x x' lx_SX ∧ lx_Rec x' tp N J := by
  have N9 := hT.1
  have u : bz_Upd x (az_wr x 225 3 0) lx_SX := bz_Upd.wr bz_Upd.refl (Or.inl ⟨rfl, rfl⟩) (by decide)
  have l := ln_2 (hF.upd u)
  have fle := (lx_while_le (P := lx_spc) (tp := tp) (N - 0).toNat 0).1
  obtain ⟨x', J, y1, y2, y3⟩ := lx_scanL hF hT N.toNat 2000000 (az_wr x 225 3 0) 0 0 (by omega) (by omega) (by show (0 : Int) ≤ 0; omega) fle (by show (0 : Int) ≤ 0; omega) (by omega) u az_wr_same (fun i hi => absurd hi (Nat.not_lt_zero _))
  refine ⟨x', J, ?_, y2, y3⟩
  unfold fz_X2_scan
  rw [l, if_neg (by omega)]
  exact y1
end SD
