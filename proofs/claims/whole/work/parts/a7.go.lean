/-! the reference's next token, whole -/
section GW
variable {tp : Int → Int} {N : Int}
def lx_M (m : az_Hp) (k v f : Int) : Prop := m.2 804 6 = f ∧ ((k = 0 ∧ m.2 804 8 = 0) ∨ (k = 1 ∧ m.2 804 8 = 1) ∨ (k = 2 ∧ m.2 804 8 = 2 ∧ bz_WR 64 v (m.2 804 13)) ∨ (k = 3 ∧ m.2 804 8 = 3 ∧ bz_WR 96 v (m.2 804 13)) ∨ (k = 4 ∧ m.2 804 8 = 4 ∧ m.2 804 9 = v ∧ 0 ≤ v ∧ v ≤ 9) ∨ (lx_sgn k = true ∧ m.2 804 8 = 5 ∧ m.2 804 10 = k))
theorem lx_digits {m0 : az_Hp} {f c0 : Int} (hF : bz_Fx m0) (hT : lx_tape m0 tp N) (f0 : 0 ≤ f) (fN : f < N) : ∀ (d k : Nat) (m : az_Hp) (q : Int), d < k → f ≤ q → q + d = lx_while lx_dig tp (N - f).toNat f → bz_Upd m0 m lx_S → m.2 804 6 = f → m.2 804 7 = q →
    ∃ m', fz_X11_go_247 2000000 k m 804 c0 = some (az_wr (az_wr m' 804 9 (az_w32 (c0 - 48))) 804 8 (if 1 < lx_while lx_dig tp (N - f).toNat f - f then 1 else 4)) ∧ bz_Upd m0 m' lx_S ∧ m'.2 804 6 = f ∧ m'.2 804 7 = lx_while lx_dig tp (N - f).toNat f := by
  have eb := lx_while_le (P := lx_dig) (tp := tp) (N - f).toNat f
  have eo := lx_while_out (P := lx_dig) (tp := tp) (N - f).toNat f
  have ei := lx_while_in (P := lx_dig) (tp := tp) (N - f).toNat f
  have N9 := hT.2.1
  obtain ⟨g, hg⟩ : ∃ g, g = lx_while lx_dig tp (N - f).toNat f := ⟨_, rfl⟩
  rw [← hg] at eb eo ei ⊢
  intro d
  induction d with
  | zero =>
    intro k m q hk q0 hq u h6 h7
    obtain ⟨k, rfl⟩ : ∃ k', k = k' + 1 := ⟨k - 1, by omega⟩
    have eq : q = g := by omega
    subst eq
    have hF' := hF.upd u
    have hT' := hT.upd u
    have by' := lx_byte (q := q) hF' hT' (by omega)
    have nl : ¬ (48 ≤ (if q < N then tp q else -1) ∧ (if q < N then tp q else -1) ≤ 57) := by
      by_cases c : q < N
      · rw [if_pos c]
        have nn : ¬ lx_dig (tp q) = true := by rw [eo (by omega)]; decide
        rw [lx_digP] at nn
        omega
      · rw [if_neg c]; omega
    refine ⟨m, ?_, u, h6, h7⟩
    unfold fz_X11_go_247
    rw [h7, by', Option.bind_some, lx_digit, Option.bind_some, if_neg nl, if_pos rfl, az_wr_ne (by omega), az_wr_ne (by omega), h7, h6, az_w32_id (z := q - f) (by omega) (by omega)]
    by_cases c1 : 1 < q - f
    · rw [if_pos c1, if_pos c1]
    · rw [if_neg c1, if_neg c1]
  | succ d ih =>
    intro k m q hk q0 hq u h6 h7
    obtain ⟨k, rfl⟩ : ∃ k', k = k' + 1 := ⟨k - 1, by omega⟩
    have qN : q < N := by omega
    have hF' := hF.upd u
    have hT' := hT.upd u
    have lq := lx_digP.mp (ei q q0 (by omega))
    have by' : fz_X11_byteAt m 804 q = some (tp q) := by rw [lx_byte hF' hT' (by omega), if_pos qN]
    have u2 : bz_Upd m0 (az_wr m 804 7 (q + 1)) lx_S := bz_Upd.wr u ⟨rfl, by omega⟩ (by decide)
    obtain ⟨m', y1, y2⟩ := ih k (az_wr m 804 7 (q + 1)) (q + 1) (by omega) (by omega) (by push_cast at hq; omega) u2 (by rw [az_wr_ne (by omega)]; exact h6) az_wr_same
    refine ⟨m', ?_, y2⟩
    rw [← y1]
    conv => lhs; unfold fz_X11_go_247
    rw [h7, by', Option.bind_some, lx_digit, Option.bind_some, if_pos lq, if_neg (show ¬ (1 : Int) = 0 by decide), az_w32_id (by omega) (by omega)]
theorem lx_skipM {m0 : az_Hp} {p : Int} (hF : bz_Fx m0) (hT : lx_tape m0 tp N) (p0 : 0 ≤ p) (pN : p ≤ N) : ∀ (d k : Nat) (m : az_Hp) (q : Int), d < k → p ≤ q → q + d = lx_f tp N p → bz_Upd m0 m lx_S → m.2 804 7 = q → ∃ (k' : Nat) (m' : az_Hp), fz_X11_go_0 2000000 k m 804 = fz_X11_go_0 2000000 (k' + 1) m' 804 ∧ bz_Upd m0 m' lx_S ∧ m'.2 804 7 = lx_f tp N p := by
  have eb := lx_while_le (P := lx_spc) (tp := tp) (N - p).toNat p
  have ei := lx_while_in (P := lx_spc) (tp := tp) (N - p).toNat p
  change p ≤ lx_f tp N p ∧ lx_f tp N p ≤ p + ((N - p).toNat : Int) at eb
  change ∀ i, p ≤ i → i < lx_f tp N p → lx_spc (tp i) = true at ei
  have N9 := hT.2.1
  intro d
  induction d with
  | zero =>
    intro k m q hk q0 hq u h7
    exact ⟨k - 1, m, by rw [show k - 1 + 1 = k by omega], u, by omega⟩
  | succ d ih =>
    intro k m q hk q0 hq u h7
    obtain ⟨k, rfl⟩ : ∃ k', k = k' + 1 := ⟨k - 1, by omega⟩
    have qN : q < N := by omega
    have hF' := hF.upd u
    have hT' := hT.upd u
    have sq := lx_spcP.mp (ei q q0 (by omega))
    have by' : fz_X11_byteAt m 804 q = some (tp q) := by rw [lx_byte hF' hT' (by omega), if_pos qN]
    have u2 : bz_Upd m0 (az_wr m 804 7 (q + 1)) lx_S := bz_Upd.wr u ⟨rfl, by omega⟩ (by decide)
    obtain ⟨k', m', y1, y2⟩ := ih k (az_wr m 804 7 (q + 1)) (q + 1) (by omega) (by omega) (by push_cast at hq; omega) u2 az_wr_same
    refine ⟨k', m', ?_, y2⟩
    rw [← y1]
    conv => lhs; unfold fz_X11_go_0
    rw [h7, by', Option.bind_some, az_w32_id (z := q + 1) (by omega) (by omega)]
    rcases sq with e | e
    · rw [if_pos e]
    · rw [if_neg (by omega), Option.bind_some, if_pos e]
theorem lx_go {m : az_Hp} {p : Int} (hF : bz_Fx m) (hT : lx_tape m tp N) (h7 : m.2 804 7 = p) (p0 : 0 ≤ p) (pN : p ≤ N) : ∃ m', fz_X11_go 2000000 m 804 = some m' ∧ bz_Upd m m' lx_S ∧ lx_M m' (lx_k tp N p) (lx_v tp N p) (lx_f tp N p) ∧ (lx_k tp N p ≠ 0 → lx_k tp N p ≠ 1 → m'.2 804 7 = lx_t tp N p) := by
  have eb := lx_while_le (P := lx_spc) (tp := tp) (N - p).toNat p
  have eo := lx_while_out (P := lx_spc) (tp := tp) (N - p).toNat p
  change p ≤ lx_f tp N p ∧ lx_f tp N p ≤ p + ((N - p).toNat : Int) at eb
  change lx_f tp N p < p + ((N - p).toNat : Int) → lx_spc (tp (lx_f tp N p)) = false at eo
  have N9 := hT.2.1
  obtain ⟨k, m1, y1, u, e7⟩ := lx_skipM hF hT p0 pN (lx_f tp N p - p).toNat 2000000 m p (by omega) (by omega) (by omega) bz_Upd.refl h7
  show ∃ m', fz_X11_go_0 2000000 2000000 m 804 = some m' ∧ _
  rw [y1]
  unfold lx_k lx_v lx_t
  obtain ⟨f, hf⟩ : ∃ f, f = lx_f tp N p := ⟨_, rfl⟩
  rw [← hf] at eb eo e7 ⊢
  have hF1 := hF.upd u
  have hT1 := hT.upd u
  have u6 : bz_Upd m (az_wr m1 804 6 f) lx_S := bz_Upd.wr u ⟨rfl, by omega⟩ (by decide)
  have hF6 := hF.upd u6
  have hT6 := hT.upd u6
  have byA := lx_byte (q := f) hF1 hT1 (by omega)
  have byB := lx_byte (q := f) hF6 hT6 (by omega)
  have e67 : (az_wr m1 804 6 f).2 804 7 = f := by rw [az_wr_ne (by omega)]; exact e7
  by_cases cN : f < N
  · rw [if_pos cN] at byA byB
    have ns : ¬ lx_spc (tp f) = true := by rw [eo (by omega)]; decide
    rw [lx_spcP] at ns
    have tf := hT.2.2 f (by omega) cN
    have head : fz_X11_go_0 2000000 (k + 1) m1 804 = (if 97 ≤ tp f ∧ tp f ≤ 122 then fz_X11_go_90 2000000 2000000 (az_wr (az_wr m1 804 6 f) 804 13 0) 804 (tp f) 0 else if 65 ≤ tp f ∧ tp f ≤ 90 then fz_X11_go_90 2000000 2000000 (az_wr (az_wr m1 804 6 f) 804 13 0) 804 (tp f) 0 else if 48 ≤ tp f ∧ tp f ≤ 57 then fz_X11_go_247 2000000 2000000 (az_wr m1 804 6 f) 804 (tp f) else if lx_sgn (tp f) then some (az_wr (az_wr (az_wr (az_wr m1 804 6 f) 804 7 (f + 1)) 804 8 5) 804 10 (tp f)) else some (az_wr (az_wr (az_wr (az_wr m1 804 6 f) 804 7 (f + 1)) 804 8 1) 804 10 (tp f))) := by
      conv => lhs; unfold fz_X11_go_0
      rw [e7, byA, Option.bind_some, if_neg (by omega), Option.bind_some, if_neg (by omega), e67, byB, Option.bind_some, if_neg (by omega), lx_small, Option.bind_some, lx_great, Option.bind_some, lx_digit, Option.bind_some, az_w32_id (z := f + 1) (by omega) (by omega)]
      by_cases c1 : 97 ≤ tp f ∧ tp f ≤ 122
      · rw [if_pos c1, if_neg (show ¬ (1 : Int) = 0 by decide), if_pos c1]
      · rw [if_neg c1, if_pos rfl, if_neg c1]
        by_cases c2 : 65 ≤ tp f ∧ tp f ≤ 90
        · rw [if_pos c2, if_neg (show ¬ (1 : Int) = 0 by decide), if_pos c2]
        · rw [if_neg c2, if_pos rfl, if_neg c2]
          by_cases c3 : 48 ≤ tp f ∧ tp f ≤ 57
          · rw [if_pos c3, if_neg (show ¬ (1 : Int) = 0 by decide), if_pos c3]
          · rw [if_neg c3, if_pos rfl, if_neg c3]
            by_cases c4 : lx_sgn (tp f) = true
            · rw [if_pos c4]
              rw [lx_sgnP] at c4
              by_cases d1 : tp f = 59
              · rw [if_pos d1]
              · rw [if_neg d1]
                by_cases d2 : tp f = 40
                · rw [if_pos d2]
                · rw [if_neg d2]
                  by_cases d3 : tp f = 41
                  · rw [if_pos d3]
                  · rw [if_neg d3]
                    by_cases d4 : tp f = 44
                    · rw [if_pos d4]
                    · rw [if_neg d4]
                      by_cases d5 : tp f = 61
                      · rw [if_pos d5]
                      · rw [if_neg d5, if_pos (by omega)]
            · rw [if_neg c4]
              rw [lx_sgnP] at c4
              rw [if_neg (by omega), if_neg (by omega), if_neg (by omega), if_neg (by omega), if_neg (by omega), if_neg (by omega)]
    rw [head]
    by_cases cl : lx_let (tp f) = true
    · have clP := lx_letP.mp cl
      have eb2 := lx_while_le (P := lx_let) (tp := tp) (N - f).toNat f
      have ei2 := lx_while_in (P := lx_let) (tp := tp) (N - f).toNat f
      change f ≤ lx_e tp N f ∧ lx_e tp N f ≤ f + ((N - f).toNat : Int) at eb2
      change ∀ i, f ≤ i → i < lx_e tp N f → lx_let (tp i) = true at ei2
      have ef : f < lx_e tp N f := by
        have : lx_while lx_let tp ((N - f).toNat - 1 + 1) f = lx_e tp N f := by unfold lx_e; rw [show (N - f).toNat - 1 + 1 = (N - f).toNat by omega]
        rw [← this]
        unfold lx_while
        rw [if_pos cl]
        have := (lx_while_le (P := lx_let) (tp := tp) ((N - f).toNat - 1) (f + 1)).1
        omega
      have u13 : bz_Upd m (az_wr (az_wr m1 804 6 f) 804 13 0) lx_S := bz_Upd.wr u6 ⟨rfl, by omega⟩ (by decide)
      obtain ⟨m2, z1, z2, z3, z4, z5⟩ := lx_letters (c0 := tp f) hF hT (by omega) cN (lx_e tp N f - f).toNat 2000000 (az_wr (az_wr m1 804 6 f) 804 13 0) f 0 (by omega) (by omega) (by omega) u13 (by rw [az_wr_ne (by omega), az_wr_same]) (by rw [az_wr_ne (by omega)]; exact e67) (by omega) (by omega) ⟨fun z => by omega, fun ⟨j, j1, j2, _⟩ => by omega⟩ (fun _ => by rw [az_wr_same, show (f - f).toNat = 0 by omega]; rfl)
      obtain ⟨kk, hkk⟩ : ∃ kk : Int, kk = (if 6 < lx_e tp N f - f then 1 else if lx_gr tp (lx_e tp N f - (f + 1)).toNat (f + 1) then 1 else if 65 ≤ tp f ∧ tp f ≤ 90 then 2 else 3) := ⟨_, rfl⟩
      rw [← hkk] at z1
      have u2 : bz_Upd m (az_wr m2 804 8 kk) lx_S := bz_Upd.wr z2 ⟨rfl, by omega⟩ (by decide)
      have k0 : lx_k0 tp N f = kk := by
        unfold lx_k0
        rw [if_neg (by omega), if_pos cl, hkk]
        by_cases c6 : 6 < lx_e tp N f - f
        · rw [if_pos c6, if_pos c6]
        · rw [if_neg c6, if_neg c6]
          by_cases cg : lx_gr tp (lx_e tp N f - (f + 1)).toNat (f + 1) = true
          · rw [if_pos cg, if_pos cg]
          · rw [if_neg cg, if_neg cg]
            by_cases c9 : tp f < 97
            · rw [if_pos c9, if_pos (by omega)]
            · rw [if_neg c9, if_neg (by omega)]
      refine ⟨az_wr m2 804 8 kk, ?_, u2, ?_, fun _ _ => ?_⟩
      · by_cases c1 : 97 ≤ tp f ∧ tp f ≤ 122
        · rw [if_pos c1]; exact z1
        · rw [if_neg c1, if_pos (by omega)]; exact z1
      · rw [k0]
        refine ⟨by rw [az_wr_ne (by omega)]; exact z3, ?_⟩
        have e8 : (az_wr m2 804 8 kk).2 804 8 = kk := az_wr_same
        have e13 : (az_wr m2 804 8 kk).2 804 13 = m2.2 804 13 := az_wr_ne (by omega)
        rw [e8, e13]
        unfold lx_v0
        rw [if_pos cl]
        by_cases c6 : 6 < lx_e tp N f - f
        · rw [if_pos c6] at hkk; exact Or.inr (Or.inl ⟨hkk, hkk⟩)
        · rw [if_neg c6] at hkk
          by_cases cg : lx_gr tp (lx_e tp N f - (f + 1)).toNat (f + 1) = true
          · rw [if_pos cg] at hkk; exact Or.inr (Or.inl ⟨hkk, hkk⟩)
          · rw [if_neg cg] at hkk
            have small : ∀ i, f < i → i < f + ((lx_e tp N f - f).toNat : Int) → 97 ≤ tp i ∧ tp i ≤ 122 := fun i i0 i1 => by
              have li := lx_letP.mp (ei2 i (by omega) (by omega))
              have : ¬ tp i < 97 := fun q => cg ((lx_gr_iff _ _).mpr ⟨i, by omega, by omega, q⟩)
              omega
            by_cases c9 : 65 ≤ tp f ∧ tp f ≤ 90
            · rw [if_pos c9] at hkk
              exact Or.inr (Or.inr (Or.inl ⟨hkk, hkk, by rw [z5 (by omega)]; exact lx_wr (by omega) (by omega) (by omega) cl small⟩))
            · rw [if_neg c9] at hkk
              exact Or.inr (Or.inr (Or.inr (Or.inl ⟨hkk, hkk, by rw [z5 (by omega)]; exact lx_wr (by omega) (by omega) (by omega) cl small⟩)))
      · rw [az_wr_ne (by omega), z4]
        unfold lx_t0
        rw [if_pos cl]
    · have ncl := cl
      rw [lx_letP] at ncl
      rw [if_neg (by omega), if_neg (by omega)]
      by_cases cd : lx_dig (tp f) = true
      · have cdP := lx_digP.mp cd
        rw [if_pos cdP]
        have eb2 := lx_while_le (P := lx_dig) (tp := tp) (N - f).toNat f
        have ei2 := lx_while_in (P := lx_dig) (tp := tp) (N - f).toNat f
        have eo2 := lx_while_out (P := lx_dig) (tp := tp) (N - f).toNat f
        obtain ⟨m2, z1, z2, z3, z4⟩ := lx_digits (c0 := tp f) hF hT (by omega) cN (lx_while lx_dig tp (N - f).toNat f - f).toNat 2000000 (az_wr m1 804 6 f) f (by omega) (by omega) (by omega) u6 az_wr_same e67
        have ef : f < lx_while lx_dig tp (N - f).toNat f := by
          have : lx_while lx_dig tp ((N - f).toNat - 1 + 1) f = lx_while lx_dig tp (N - f).toNat f := by rw [show (N - f).toNat - 1 + 1 = (N - f).toNat by omega]
          rw [← this]
          conv => rhs; unfold lx_while
          rw [if_pos cd]
          have := (lx_while_le (P := lx_dig) (tp := tp) ((N - f).toNat - 1) (f + 1)).1
          omega
        obtain ⟨g, hg⟩ : ∃ g, g = lx_while lx_dig tp (N - f).toNat f := ⟨_, rfl⟩
        rw [← hg] at eb2 ei2 eo2 z1 z4 ef
        have iff1 : 1 < g - f ↔ f + 1 < N ∧ lx_dig (tp (f + 1)) = true := by
          constructor
          · intro z; exact ⟨by omega, ei2 (f + 1) (by omega) (by omega)⟩
          · rintro ⟨a1, a2⟩
            by_cases e : g = f + 1
            · have := eo2 (by omega)
              rw [e, a2] at this
              cases this
            · omega
        have wc : az_w32 (tp f - 48) = tp f - 48 := az_w32_id (by omega) (by omega)
        rw [wc] at z1
        have u2 : bz_Upd m (az_wr (az_wr m2 804 9 (tp f - 48)) 804 8 (if 1 < g - f then 1 else 4)) lx_S := bz_Upd.wr (bz_Upd.wr z2 ⟨rfl, by omega⟩ (by decide)) ⟨rfl, by omega⟩ (by decide)
        have k0 : lx_k0 tp N f = if 1 < g - f then 1 else 4 := by
          unfold lx_k0
          rw [if_neg (by omega), if_neg cl, if_pos cd]
          by_cases c : 1 < g - f
          · rw [if_pos c, if_pos (iff1.mp c)]
          · rw [if_neg c, if_neg (fun z => c (iff1.mpr z))]
        refine ⟨_, z1, u2, ?_, fun _ n1 => ?_⟩
        · rw [k0]
          refine ⟨by rw [az_wr_ne (by omega), az_wr_ne (by omega)]; exact z3, ?_⟩
          rw [az_wr_same, show (az_wr (az_wr m2 804 9 (tp f - 48)) 804 8 (if 1 < g - f then 1 else 4)).2 804 9 = tp f - 48 by rw [az_wr_ne (by omega), az_wr_same]]
          unfold lx_v0
          rw [if_neg cl]
          by_cases c : 1 < g - f
          · rw [if_pos c]; exact Or.inr (Or.inl ⟨rfl, rfl⟩)
          · rw [if_neg c]; exact Or.inr (Or.inr (Or.inr (Or.inr (Or.inl ⟨rfl, rfl, rfl, by omega, by omega⟩))))
        · rw [k0] at n1
          have c : ¬ 1 < g - f := fun c => by rw [if_pos c] at n1; exact n1 rfl
          rw [az_wr_ne (by omega), az_wr_ne (by omega), z4]
          unfold lx_t0
          rw [if_neg cl]
          omega
      · have ncd := cd
        rw [lx_digP] at ncd
        rw [if_neg ncd]
        by_cases cs : lx_sgn (tp f) = true
        · rw [if_pos cs]
          have k0 : lx_k0 tp N f = tp f := by
            unfold lx_k0
            rw [if_neg (by omega), if_neg cl, if_neg cd, if_pos cs]
          have u2 : bz_Upd m (az_wr (az_wr (az_wr (az_wr m1 804 6 f) 804 7 (f + 1)) 804 8 5) 804 10 (tp f)) lx_S := bz_Upd.wr (bz_Upd.wr (bz_Upd.wr u6 ⟨rfl, by omega⟩ (by decide)) ⟨rfl, by omega⟩ (by decide)) ⟨rfl, by omega⟩ (by decide)
          refine ⟨_, rfl, u2, ?_, fun _ _ => ?_⟩
          · rw [k0]
            refine ⟨by rw [az_wr_ne (by omega), az_wr_ne (by omega), az_wr_ne (by omega), az_wr_same], Or.inr (Or.inr (Or.inr (Or.inr (Or.inr ⟨cs, by rw [az_wr_ne (by omega), az_wr_same], az_wr_same⟩))))⟩
          · rw [az_wr_ne (by omega), az_wr_ne (by omega), az_wr_same]
            unfold lx_t0
            rw [if_neg cl]
        · rw [if_neg cs]
          have k0 : lx_k0 tp N f = 1 := by
            unfold lx_k0
            rw [if_neg (by omega), if_neg cl, if_neg cd, if_neg cs]
          have u2 : bz_Upd m (az_wr (az_wr (az_wr (az_wr m1 804 6 f) 804 7 (f + 1)) 804 8 1) 804 10 (tp f)) lx_S := bz_Upd.wr (bz_Upd.wr (bz_Upd.wr u6 ⟨rfl, by omega⟩ (by decide)) ⟨rfl, by omega⟩ (by decide)) ⟨rfl, by omega⟩ (by decide)
          refine ⟨_, rfl, u2, ?_, fun _ n1 => absurd k0 n1⟩
          rw [k0]
          exact ⟨by rw [az_wr_ne (by omega), az_wr_ne (by omega), az_wr_ne (by omega), az_wr_same], Or.inr (Or.inl ⟨rfl, by rw [az_wr_ne (by omega), az_wr_same]⟩)⟩
  · rw [if_neg cN] at byA byB
    have k0 : lx_k0 tp N f = 0 := by unfold lx_k0; rw [if_pos (by omega)]
    have u2 : bz_Upd m (az_wr (az_wr m1 804 6 f) 804 8 0) lx_S := bz_Upd.wr u6 ⟨rfl, by omega⟩ (by decide)
    refine ⟨az_wr (az_wr m1 804 6 f) 804 8 0, ?_, u2, ?_, fun n0 _ => absurd k0 n0⟩
    · unfold fz_X11_go_0
      rw [e7, byA, Option.bind_some, if_neg (by decide), Option.bind_some, if_neg (by decide), e67, byB, Option.bind_some, if_pos rfl]
    · rw [k0]
      exact ⟨by rw [az_wr_ne (by omega), az_wr_same], Or.inl ⟨rfl, az_wr_same⟩⟩
end GW
