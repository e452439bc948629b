/-! the reference goes on by one token -/
section GO
variable {tp : Int → Int} {N : Int}
/-- the tape as the reference sees it -/
def lx_tape (m : az_Hp) (tp : Int → Int) (N : Int) : Prop := m.2 804 5 = N ∧ (0 ≤ N ∧ N ≤ 900) ∧ ∀ i, 0 ≤ i → i < N → m.2 805 i = tp i ∧ 0 ≤ tp i ∧ tp i ≤ 255
def lx_S (a k : Int) : Prop := a = 804 ∧ (k = 6 ∨ k = 7 ∨ k = 8 ∨ k = 9 ∨ k = 10 ∨ k = 13)
theorem lx_tape.upd {m m' : az_Hp} (h : lx_tape m tp N) (u : bz_Upd m m' lx_S) : lx_tape m' tp N := by
  obtain ⟨h1, h2, h3⟩ := h
  refine ⟨by rw [u.2.2 804 5 (fun z => by unfold lx_S at z; omega)]; exact h1, h2, fun i i0 i1 => ?_⟩
  rw [u.2.2 805 i (fun z => by unfold lx_S at z; omega)]
  exact h3 i i0 i1
theorem lx_byte {m : az_Hp} {q : Int} (hF : bz_Fx m) (h : lx_tape m tp N) (q0 : 0 ≤ q) : fz_X11_byteAt m 804 q = some (if q < N then tp q else -1) := by
  obtain ⟨h1, h2, h3⟩ := h
  have l := ln_805 hF
  unfold fz_X11_byteAt
  rw [h1]
  by_cases c : q < N
  · rw [if_pos c, if_pos c, fx_804_0 hF, Option.bind_some, bz_ard q0 (by omega), Option.bind_some, (h3 q q0 c).1]
  · rw [if_neg c, if_neg c]
theorem lx_small {σ : az_Hp} {c : Int} : fz_X11_isSmall σ c = some (if 97 ≤ c ∧ c ≤ 122 then 1 else 0) := by
  unfold fz_X11_isSmall
  by_cases a : c < 97
  · rw [if_pos a, if_neg (by omega)]
  · rw [if_neg a]
    by_cases b : 122 < c
    · rw [if_pos b, if_neg (by omega)]
    · rw [if_neg b, if_pos (by omega)]
theorem lx_great {σ : az_Hp} {c : Int} : fz_X11_isGreat σ c = some (if 65 ≤ c ∧ c ≤ 90 then 1 else 0) := by
  unfold fz_X11_isGreat
  by_cases a : c < 65
  · rw [if_pos a, if_neg (by omega)]
  · rw [if_neg a]
    by_cases b : 90 < c
    · rw [if_pos b, if_neg (by omega)]
    · rw [if_neg b, if_pos (by omega)]
theorem lx_digit {σ : az_Hp} {c : Int} : fz_X11_isDigit σ c = some (if 48 ≤ c ∧ c ≤ 57 then 1 else 0) := by
  unfold fz_X11_isDigit
  by_cases a : c < 48
  · rw [if_pos a, if_neg (by omega)]
  · rw [if_neg a]
    by_cases b : 57 < c
    · rw [if_pos b, if_neg (by omega)]
    · rw [if_neg b, if_pos (by omega)]
/-- a great letter has come -/
def lx_seen (tp : Int → Int) (f q v : Int) : Prop := 0 < v ↔ ∃ j, f + 1 ≤ j ∧ j < q ∧ tp j < 97
/-- the letters of a word -/
theorem lx_letters {m0 : az_Hp} {f c0 : Int} (hF : bz_Fx m0) (hT : lx_tape m0 tp N) (f0 : 0 ≤ f) (fN : f < N) : ∀ (d k : Nat) (m : az_Hp) (q v2 : Int), d < k → f ≤ q → q + d = lx_e tp N f → bz_Upd m0 m lx_S → m.2 804 6 = f → m.2 804 7 = q → 0 ≤ v2 → v2 ≤ q → lx_seen tp f q v2 → (q - f ≤ 6 → m.2 804 13 = bz_num 256 (lx_bl tp (q - f).toNat f)) →
    ∃ m', fz_X11_go_90 2000000 k m 804 c0 v2 = some (az_wr m' 804 8 (if 6 < lx_e tp N f - f then 1 else if lx_gr tp (lx_e tp N f - (f + 1)).toNat (f + 1) then 1 else if 65 ≤ c0 ∧ c0 ≤ 90 then 2 else 3)) ∧ bz_Upd m0 m' lx_S ∧ m'.2 804 6 = f ∧ m'.2 804 7 = lx_e tp N f ∧ (lx_e tp N f - f ≤ 6 → m'.2 804 13 = bz_num 256 (lx_bl tp (lx_e tp N f - f).toNat f)) := by
  have eb := lx_while_le (P := lx_let) (tp := tp) (N - f).toNat f
  have eo := lx_while_out (P := lx_let) (tp := tp) (N - f).toNat f
  have ei := lx_while_in (P := lx_let) (tp := tp) (N - f).toNat f
  have N9 := hT.2.1
  have tb := hT.2.2
  change f ≤ lx_e tp N f ∧ lx_e tp N f ≤ f + ((N - f).toNat : Int) at eb
  change lx_e tp N f < f + ((N - f).toNat : Int) → lx_let (tp (lx_e tp N f)) = false at eo
  intro d
  induction d with
  | zero =>
    intro k m q v2 hk q0 hq u h6 h7 v0 v1 hg hw
    obtain ⟨k, rfl⟩ : ∃ k', k = k' + 1 := ⟨k - 1, by omega⟩
    have eq : q = lx_e tp N f := by omega
    subst eq
    have hF' := hF.upd u
    have hT' := hT.upd u
    have by' := lx_byte (q := lx_e tp N f) hF' hT' (by omega)
    have nl : ¬ ((97 ≤ (if lx_e tp N f < N then tp (lx_e tp N f) else -1) ∧ (if lx_e tp N f < N then tp (lx_e tp N f) else -1) ≤ 122)) ∧ ¬ (65 ≤ (if lx_e tp N f < N then tp (lx_e tp N f) else -1) ∧ (if lx_e tp N f < N then tp (lx_e tp N f) else -1) ≤ 90) := by
      by_cases c : lx_e tp N f < N
      · rw [if_pos c]
        have := eo (by omega)
        have nn : ¬ lx_let (tp (lx_e tp N f)) = true := by rw [this]; decide
        rw [lx_letP] at nn
        omega
      · rw [if_neg c]; omega
    refine ⟨m, ?_, u, h6, h7, hw⟩
    unfold fz_X11_go_90
    rw [h7, by', Option.bind_some, lx_small, Option.bind_some, if_neg nl.1, if_pos rfl, Option.bind_some, lx_great, Option.bind_some, if_neg nl.2, if_pos rfl, h6, az_w32_id (by omega) (by omega)]
    by_cases c6 : 6 < lx_e tp N f - f
    · rw [if_pos c6, if_pos c6]
    · rw [if_neg c6, if_neg c6]
      have giff := lx_gr_iff (tp := tp) (lx_e tp N f - (f + 1)).toNat (f + 1)
      by_cases cg : 0 < v2
      · obtain ⟨j, j1, j2, j3⟩ := hg.mp cg
        rw [if_pos cg, if_pos (giff.mpr ⟨j, j1, by omega, j3⟩)]
      · rw [if_neg cg, if_neg (fun z => by obtain ⟨j, j1, j2, j3⟩ := giff.mp z; exact cg (hg.mpr ⟨j, j1, by omega, j3⟩)), lx_great, Option.bind_some]
        by_cases cc : 65 ≤ c0 ∧ c0 ≤ 90
        · rw [if_pos cc, if_neg (show ¬ (1 : Int) = 0 by decide), if_pos cc]
        · rw [if_neg cc, if_pos rfl, if_neg cc]
  | succ d ih =>
    intro k m q v2 hk q0 hq u h6 h7 v0 v1 hg hw
    obtain ⟨k, rfl⟩ : ∃ k', k = k' + 1 := ⟨k - 1, by omega⟩
    have qN : q < N := by omega
    have hF' := hF.upd u
    have hT' := hT.upd u
    have lq := lx_letP.mp (ei q q0 (by show q < lx_e tp N f; omega))
    have by' : fz_X11_byteAt m 804 q = some (tp q) := by rw [lx_byte hF' hT' (by omega), if_pos qN]
    have tq := tb q (by omega) qN
    obtain ⟨w1, hw1⟩ : ∃ w1 : Int, w1 = if f < q ∧ tp q < 97 then 1 else 0 := ⟨_, rfl⟩
    have w1r : w1 = 0 ∨ w1 = 1 := by rw [hw1]; split <;> omega
    have w1p : w1 = 1 ↔ f < q ∧ tp q < 97 := by
      rw [hw1]; split
      · rename_i z; exact ⟨fun _ => z, fun _ => rfl⟩
      · rename_i z; exact ⟨fun e => by omega, fun e => absurd e z⟩
    have run : fz_X11_go_90 2000000 (k + 1) m 804 c0 v2 = fz_X11_go_149 2000000 (fz_X11_go_90 2000000 k) m 804 c0 v2 w1 := by
      have r118 : fz_X11_go_118 2000000 (fz_X11_go_90 2000000 k) m 804 c0 v2 = fz_X11_go_149 2000000 (fz_X11_go_90 2000000 k) m 804 c0 v2 w1 := by
        unfold fz_X11_go_118
        rw [h6, h7, by', Option.bind_some, lx_great, Option.bind_some]
        by_cases c : f < q
        · rw [if_pos c]
          by_cases cg : 65 ≤ tp q ∧ tp q ≤ 90
          · rw [if_pos cg, if_neg (show ¬ (1 : Int) = 0 by decide), hw1, if_pos (by omega)]
          · rw [if_neg cg, if_pos rfl, hw1, if_neg (by omega)]
        · rw [if_neg c, hw1, if_neg (by omega)]
      conv => lhs; unfold fz_X11_go_90
      rw [h7, by', Option.bind_some, lx_small, Option.bind_some, Option.bind_some, lx_great, Option.bind_some]
      by_cases cs : 97 ≤ tp q ∧ tp q ≤ 122
      · rw [if_pos cs, if_neg (show ¬ (1 : Int) = 0 by decide), r118]
      · rw [if_neg cs, if_pos rfl, if_pos (show 65 ≤ tp q ∧ tp q ≤ 90 by omega), if_neg (show ¬ (1 : Int) = 0 by decide), r118]
    have wv : az_w32 (v2 + w1) = v2 + w1 := az_w32_id (by omega) (by omega)
    have hg' : lx_seen tp f (q + 1) (v2 + w1) := by
      constructor
      · intro z
        by_cases z2 : 0 < v2
        · obtain ⟨j, j1, j2, j3⟩ := hg.mp z2
          exact ⟨j, j1, by omega, j3⟩
        · have := w1p.mp (by omega)
          exact ⟨q, by omega, by omega, this.2⟩
      · rintro ⟨j, j1, j2, j3⟩
        by_cases e : j = q
        · have := w1p.mpr ⟨by omega, by rw [← e]; exact j3⟩
          omega
        · have := hg.mpr ⟨j, j1, by omega, j3⟩
          omega
    rw [run]
    unfold fz_X11_go_149
    rw [h6, h7, az_w32_id (z := q - f) (by omega) (by omega)]
    by_cases c6 : q - f < 6
    · rw [if_pos c6, by', Option.bind_some, az_wr_ne (by omega), h7, az_w32_id (z := q + 1) (by omega) (by omega), wv]
      have u2 : bz_Upd m0 (az_wr (az_wr m 804 13 (az_lorV (az_lshlV (m.2 804 13) 8) (tp q))) 804 7 (q + 1)) lx_S := bz_Upd.wr (bz_Upd.wr u ⟨rfl, by omega⟩ (by decide)) ⟨rfl, by omega⟩ (by decide)
      refine ih k _ (q + 1) (v2 + w1) (by omega) (by omega) (by push_cast at hq; omega) u2 (by rw [az_wr_ne (by omega), az_wr_ne (by omega)]; exact h6) az_wr_same (by omega) (by omega) hg' (fun _ => ?_)
      rw [az_wr_ne (by omega), az_wr_same, hw (by omega)]
      have bl : lx_bl tp (q + 1 - f).toNat f = tp q :: lx_bl tp (q - f).toNat f := by
        rw [show (q + 1 - f).toNat = (q - f).toNat + 1 by omega]
        show tp (f + ((q - f).toNat : Int)) :: _ = _
        rw [show f + ((q - f).toNat : Int) = q by omega]
      have blr : ∀ e ∈ lx_bl tp (q - f).toNat f, 1 ≤ e ∧ e < 256 := by
        have gen : ∀ (n : Nat), (n : Int) ≤ q - f → ∀ e ∈ lx_bl tp n f, 1 ≤ e ∧ e < 256 := by
          intro n
          induction n with
          | zero => intro _ e he; simp [lx_bl] at he
          | succ n ihn =>
            intro hn e he
            unfold lx_bl at he
            rcases List.mem_cons.mp he with rfl | he
            · have := lx_letP.mp (ei (f + n) (by omega) (by show f + (n : Int) < lx_e tp N f; push_cast at hn; omega))
              omega
            · exact ihn (by push_cast at hn; omega) e he
        exact gen _ (by omega)
      have bln : ∀ n : Nat, (lx_bl tp n f).length = n := by
        intro n
        induction n with
        | zero => rfl
        | succ n ihn => unfold lx_bl; rw [List.length_cons, ihn]
      have le := bz_num_le (B := 256) (by decide) blr
      rw [bln] at le
      have p5 : (256 : Int) ^ (q - f).toNat ≤ 1099511627776 := by
        have : (q - f).toNat = 0 ∨ (q - f).toNat = 1 ∨ (q - f).toNat = 2 ∨ (q - f).toNat = 3 ∨ (q - f).toNat = 4 ∨ (q - f).toNat = 5 := by omega
        rcases this with e | e | e | e | e | e <;> (rw [e]; decide)
      have nn := (bz_num_nn (B := 256) (by decide) (l := lx_bl tp (q - f).toNat f) (fun d hd => by have := blr d hd; omega)).1
      rw [lx_or nn (by omega) (by omega) (by omega), bl]
      rfl
    · rw [if_neg c6, wv, az_w32_id (z := q + 1) (by omega) (by omega)]
      have u2 : bz_Upd m0 (az_wr m 804 7 (q + 1)) lx_S := bz_Upd.wr u ⟨rfl, by omega⟩ (by decide)
      exact ih k _ (q + 1) (v2 + w1) (by omega) (by omega) (by push_cast at hq; omega) u2 (by rw [az_wr_ne (by omega)]; exact h6) az_wr_same (by omega) (by omega) hg' (fun z => by omega)
end GO
