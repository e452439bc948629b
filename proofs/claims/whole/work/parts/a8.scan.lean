/-! the class's tokens, all at once -/
section SC
variable {tp : Int → Int} {N : Int}
def lx_pos (tp : Int → Int) (N : Int) : Nat → Int
  | 0 => 0
  | j + 1 => lx_t tp N (lx_pos tp N j)
def lx_SX (a k : Int) : Prop := (a = 225 ∧ k = 3) ∨ a = 226 ∨ a = 227 ∨ a = 228
def lx_tok (x : az_Hp) (tp : Int → Int) (N : Int) (i : Nat) : Prop := x.2 226 i = lx_k tp N (lx_pos tp N i) ∧ (2 ≤ lx_k tp N (lx_pos tp N i) → lx_k tp N (lx_pos tp N i) ≤ 4 → x.2 227 i = lx_v tp N (lx_pos tp N i)) ∧ x.2 228 i = lx_f tp N (lx_pos tp N i)
def lx_Rec (x : az_Hp) (tp : Int → Int) (N : Int) (J : Nat) : Prop := x.2 225 3 = (J : Int) + 1 ∧ J ≤ 900 ∧ (∀ i : Nat, i ≤ J → lx_tok x tp N i) ∧ (∀ i : Nat, i < J → lx_k tp N (lx_pos tp N i) ≠ 0 ∧ lx_k tp N (lx_pos tp N i) ≠ 1) ∧ (lx_k tp N (lx_pos tp N J) = 0 ∨ lx_k tp N (lx_pos tp N J) = 1)
/-- the tape as the class sees it -/
def lx_tapeX (x : az_Hp) (tp : Int → Int) (N : Int) : Prop := (0 ≤ N ∧ N ≤ 900) ∧ ∀ i, 0 ≤ i → i < N → x.2 2 i = tp i ∧ 0 ≤ tp i ∧ tp i ≤ 255
theorem lx_isLetter {σ : az_Hp} {c : Int} : fz_X2_isLetter σ c = some (if lx_let c then 1 else 0) := by
  have low : fz_X2_isLetter_12 σ c = some (if 97 ≤ c ∧ c ≤ 122 then 1 else 0) := by
    unfold fz_X2_isLetter_12 fz_X2_isLower
    by_cases a : c < 97
    · rw [if_pos a, Option.bind_some, if_pos rfl, if_neg (by omega)]
    · rw [if_neg a]
      by_cases b : 122 < c
      · rw [if_pos b, Option.bind_some, if_pos rfl, if_neg (by omega)]
      · rw [if_neg b, Option.bind_some, if_neg (by decide), if_pos (by omega)]
  unfold fz_X2_isLetter
  by_cases l : lx_let c = true
  · rw [if_pos l]
    rw [lx_letP] at l
    by_cases a : c < 65
    · omega
    · rw [if_neg a]
      by_cases b : 90 < c
      · rw [if_pos b, low, if_pos (by omega)]
      · rw [if_neg b]
  · rw [if_neg l]
    rw [lx_letP] at l
    by_cases a : c < 65
    · rw [if_pos a, low, if_neg (by omega)]
    · rw [if_neg a, if_pos (by omega), low, if_neg (by omega)]
theorem lx_isLower {σ : az_Hp} {c : Int} : fz_X2_isLower σ c = some (if 97 ≤ c ∧ c ≤ 122 then 1 else 0) := lx_small (σ := σ)
theorem lx_isDig {σ : az_Hp} {c : Int} : fz_X2_isDigit σ c = some (if lx_dig c then 1 else 0) := by
  have := lx_digit (σ := σ) (c := c)
  have e : fz_X2_isDigit σ c = fz_X11_isDigit σ c := rfl
  rw [e, this]
  by_cases l : lx_dig c = true
  · rw [if_pos l, if_pos (lx_digP.mp l)]
  · rw [if_neg l, if_neg (fun z => l (lx_digP.mpr z))]
theorem lx_isSign {σ : az_Hp} {c : Int} : fz_X2_isSign σ c = some (if lx_sgn c then 1 else 0) := by
  unfold fz_X2_isSign
  by_cases l : lx_sgn c = true
  · rw [if_pos l]
    rw [lx_sgnP] at l
    by_cases d1 : c = 59
    · rw [if_pos d1]
    · rw [if_neg d1]
      by_cases d2 : c = 40
      · rw [if_pos d2]
      · rw [if_neg d2]
        by_cases d3 : c = 41
        · rw [if_pos d3]
        · rw [if_neg d3]
          by_cases d4 : c = 44
          · rw [if_pos d4]
          · rw [if_neg d4]
            by_cases d5 : c = 61
            · rw [if_pos d5]
            · rw [if_neg d5, if_pos (by omega)]
  · rw [if_neg l]
    rw [lx_sgnP] at l
    rw [if_neg (by omega), if_neg (by omega), if_neg (by omega), if_neg (by omega), if_neg (by omega), if_neg (by omega)]
theorem lx_endL {x : az_Hp} {f : Int} (hF : bz_Fx x) (hT : lx_tapeX x tp N) (f0 : 0 ≤ f) (fN : f ≤ N) : ∀ (d k : Nat) (q : Int), d < k → f ≤ q → q + d = lx_e tp N f → fz_X2_endOfLetters_2 2000000 k x 2 N q = some (lx_e tp N f) := by
  have eb := lx_while_le (P := lx_let) (tp := tp) (N - f).toNat f
  have eo := lx_while_out (P := lx_let) (tp := tp) (N - f).toNat f
  have ei := lx_while_in (P := lx_let) (tp := tp) (N - f).toNat f
  change f ≤ lx_e tp N f ∧ lx_e tp N f ≤ f + ((N - f).toNat : Int) at eb
  change lx_e tp N f < f + ((N - f).toNat : Int) → lx_let (tp (lx_e tp N f)) = false at eo
  change ∀ i, f ≤ i → i < lx_e tp N f → lx_let (tp i) = true at ei
  have l := ln_2 hF
  have N9 := hT.1
  intro d
  induction d with
  | zero =>
    intro k q hk q0 hq
    obtain ⟨k, rfl⟩ : ∃ k', k = k' + 1 := ⟨k - 1, by omega⟩
    have eq : q = lx_e tp N f := by omega
    unfold fz_X2_endOfLetters_2
    by_cases c : q < N
    · rw [if_pos c, bz_ard (by omega) (by omega), Option.bind_some, (hT.2 q (by omega) c).1, lx_isLetter, Option.bind_some, eq, eo (by omega), if_neg (show ¬ (false = true) by decide), if_pos rfl]
    · rw [if_neg c, eq]
  | succ d ih =>
    intro k q hk q0 hq
    obtain ⟨k, rfl⟩ : ∃ k', k = k' + 1 := ⟨k - 1, by omega⟩
    unfold fz_X2_endOfLetters_2
    rw [if_pos (by omega), bz_ard (by omega) (by omega), Option.bind_some, (hT.2 q (by omega) (by omega)).1, lx_isLetter, Option.bind_some, ei q q0 (by push_cast at hq; omega), if_pos rfl, if_neg (show ¬ (1 : Int) = 0 by decide), az_w32_id (by omega) (by omega)]
    exact ih k (q + 1) (by omega) (by omega) (by push_cast at hq; omega)
theorem lx_kindL {x : az_Hp} {f e : Int} (hF : bz_Fx x) (hT : lx_tapeX x tp N) (f0 : 0 ≤ f) (fe : f < e) (eN : e ≤ N) (hl : ∀ i, f ≤ i → i < e → lx_let (tp i) = true) : ∀ (d k : Nat) (q : Int), d < k → f < q → q + d = e → fz_X2_kindOfLetters_4 2000000 k x 2 f e q = some (if lx_gr tp d q then 1 else if 6 < e - f then 1 else if tp f < 97 then 2 else 3) := by
  have l := ln_2 hF
  have N9 := hT.1
  intro d
  induction d with
  | zero =>
    intro k q hk q0 hq
    obtain ⟨k, rfl⟩ : ∃ k', k = k' + 1 := ⟨k - 1, by omega⟩
    have lf := lx_letP.mp (hl f (by omega) (by omega))
    unfold fz_X2_kindOfLetters_4
    rw [if_neg (by omega), az_w32_id (by omega) (by omega), bz_ard (by omega) (by omega), Option.bind_some, (hT.2 f (by omega) (by omega)).1, lx_isLower, Option.bind_some, show lx_gr tp 0 q = false from rfl, if_neg (show ¬ (false = true) by decide)]
    by_cases c6 : 6 < e - f
    · rw [if_pos c6, if_pos c6]
    · rw [if_neg c6, if_neg c6]
      by_cases c9 : tp f < 97
      · rw [if_neg (show ¬ (97 ≤ tp f ∧ tp f ≤ 122) by omega), if_pos rfl, if_pos c9]
      · rw [if_pos (show 97 ≤ tp f ∧ tp f ≤ 122 by omega), if_neg (show ¬ (1 : Int) = 0 by decide), if_neg c9]
  | succ d ih =>
    intro k q hk q0 hq
    obtain ⟨k, rfl⟩ : ∃ k', k = k' + 1 := ⟨k - 1, by omega⟩
    have lq := lx_letP.mp (hl q (by omega) (by omega))
    unfold fz_X2_kindOfLetters_4
    rw [if_pos (by omega), bz_ard (by omega) (by omega), Option.bind_some, (hT.2 q (by omega) (by omega)).1, lx_isLower, Option.bind_some]
    have eg : lx_gr tp (d + 1) q = (decide (tp q < 97) || lx_gr tp d (q + 1)) := rfl
    rw [eg]
    by_cases c9 : tp q < 97
    · rw [if_neg (show ¬ (97 ≤ tp q ∧ tp q ≤ 122) by omega), if_pos rfl, if_pos (by simp [c9])]
    · rw [if_pos (show 97 ≤ tp q ∧ tp q ≤ 122 by omega), if_neg (show ¬ (1 : Int) = 0 by decide), az_w32_id (by omega) (by omega), ih k (q + 1) (by omega) (by omega) (by push_cast at hq; omega)]
      simp [c9]
theorem lx_valueL {x : az_Hp} {f e : Int} (hF : bz_Fx x) (hT : lx_tapeX x tp N) (f0 : 0 ≤ f) (eN : e ≤ N) (hl : ∀ i, f ≤ i → i < e → lx_let (tp i) = true) : ∀ (d k : Nat) (q v : Int), d < k → f ≤ q → q + d = e → (e - f ≤ 6 → v = bz_num 27 (lx_dl tp (q - f).toNat f)) → ∃ v', fz_X2_valueOfLetters_5 2000000 k x 2 e v q = some v' ∧ (e - f ≤ 6 → v' = bz_num 27 (lx_dl tp (e - f).toNat f)) := by
  have l := ln_2 hF
  have N9 := hT.1
  intro d
  induction d with
  | zero =>
    intro k q v hk q0 hq hv
    obtain ⟨k, rfl⟩ : ∃ k', k = k' + 1 := ⟨k - 1, by omega⟩
    refine ⟨v, ?_, fun z => by rw [hv z, show q = e by omega]⟩
    unfold fz_X2_valueOfLetters_5
    rw [if_neg (by omega)]
  | succ d ih =>
    intro k q v hk q0 hq hv
    obtain ⟨k, rfl⟩ : ∃ k', k = k' + 1 := ⟨k - 1, by omega⟩
    have tq := hT.2 q (by omega) (by omega)
    obtain ⟨v', y1, y2⟩ := ih k (q + 1) (az_w32 (az_w32 (v * 27) + tp q % 32)) (by omega) (by omega) (by push_cast at hq; omega) (fun z => by
      have dl : lx_dl tp (q + 1 - f).toNat f = tp q % 32 :: lx_dl tp (q - f).toNat f := by
        rw [show (q + 1 - f).toNat = (q - f).toNat + 1 by omega]
        show tp (f + ((q - f).toNat : Int)) % 32 :: _ = _
        rw [show f + ((q - f).toNat : Int) = q by omega]
      have mem := lx_dlMem (tp := tp) (q - f).toNat f (fun i i0 i1 => hl i i0 (by omega))
      have le := bz_num_le (B := 27) (by decide) (l := lx_dl tp (q - f).toNat f) (fun d hd => by have := mem d hd; omega)
      have nn := (bz_num_nn (B := 27) (by decide) (l := lx_dl tp (q - f).toNat f) (fun d hd => by have := mem d hd; omega)).1
      rw [lx_dlLen] at le
      have p5 : (27 : Int) ^ (q - f).toNat ≤ 14348907 := by
        have : (q - f).toNat = 0 ∨ (q - f).toNat = 1 ∨ (q - f).toNat = 2 ∨ (q - f).toNat = 3 ∨ (q - f).toNat = 4 ∨ (q - f).toNat = 5 := by omega
        rcases this with e | e | e | e | e | e <;> (rw [e]; decide)
      rw [hv z, dl, az_w32_id (z := _ * 27) (by omega) (by omega), az_w32_id (by omega) (by omega)]
      rfl)
    refine ⟨v', ?_, y2⟩
    unfold fz_X2_valueOfLetters_5
    rw [if_pos (by omega), bz_ard (by omega) (by omega), Option.bind_some, tq.1, bz_and31 (by omega) (by omega), az_w32_id (z := q + 1) (by omega) (by omega)]
    exact y1
theorem lx_addX {x : az_Hp} {j k v f : Int} (hF : bz_Fx x) (hj : x.2 225 3 = j) (j0 : 0 ≤ j) (j1 : j ≤ 900) : ∃ x', fz_X2_add x 225 k v f = some x' ∧ bz_Upd x x' lx_SX ∧ x'.2 225 3 = j + 1 ∧ x'.2 226 j = k ∧ x'.2 227 j = v ∧ x'.2 228 j = f ∧ ∀ a i, i ≠ j → (a = 226 ∨ a = 227 ∨ a = 228) → x'.2 a i = x.2 a i := by
  have ua : bz_Upd x (az_wr x 226 j k) lx_SX := bz_Upd.wr bz_Upd.refl (Or.inr (Or.inl rfl)) (by unfold bz_isFix; simp [bz_cap, bz_fixL, bz_rowsL])
  have ub : bz_Upd x (az_wr (az_wr x 226 j k) 227 j v) lx_SX := bz_Upd.wr ua (Or.inr (Or.inr (Or.inl rfl))) (by unfold bz_isFix; simp [bz_cap, bz_fixL, bz_rowsL])
  have uc : bz_Upd x (az_wr (az_wr (az_wr x 226 j k) 227 j v) 228 j f) lx_SX := bz_Upd.wr ub (Or.inr (Or.inr (Or.inr rfl))) (by unfold bz_isFix; simp [bz_cap, bz_fixL, bz_rowsL])
  have h1 := hF.upd ua
  have h2 := hF.upd ub
  have l := ln_226 hF
  have l1 := ln_227 h1
  have l2 := ln_228 h2
  refine ⟨az_wr (az_wr (az_wr (az_wr x 226 j k) 227 j v) 228 j f) 225 3 (j + 1), ?_, bz_Upd.wr uc (Or.inl ⟨rfl, rfl⟩) (by decide), az_wr_same, ?_, ?_, ?_, fun a i q q' => ?_⟩
  · unfold fz_X2_add
    rw [fx_225_0 hF, Option.bind_some, hj, if_pos (by omega), Option.bind_some, bz_awr j0 (by omega), Option.bind_some, fx_225_1 h1, Option.bind_some, az_wr_ne (by omega), hj, bz_awr j0 (by omega), Option.bind_some, fx_225_2 h2, Option.bind_some, az_wr_ne (by omega), az_wr_ne (by omega), hj, bz_awr j0 (by omega), Option.bind_some, az_wr_ne (by omega), az_wr_ne (by omega), az_wr_ne (by omega), hj, az_w32_id (by omega) (by omega)]
  · rw [az_wr_ne (by omega), az_wr_ne (by omega), az_wr_ne (by omega), az_wr_same]
  · rw [az_wr_ne (by omega), az_wr_ne (by omega), az_wr_same]
  · rw [az_wr_ne (by omega), az_wr_same]
  · rw [az_wr_ne (by omega), az_wr_ne (by omega), az_wr_ne (by omega), az_wr_ne (by omega)]
end SC
