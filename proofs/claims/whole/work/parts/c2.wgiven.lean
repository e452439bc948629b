/-! WANTED are read: a LINE, all LINES -/
def wq_G (x m : az_Hp) (T s nv nu i : Int) : Prop := wq_R x m T s (167 + 4 * i) 852 (30 * i) nv 0 (m.2 854 i) ∧ wq_R x m T s (169 + 4 * i) 853 (30 * i) nv 0 (m.2 855 i) ∧ (200 ≤ m.2 852 (30 * i) ∧ m.2 852 (30 * i) < 1000)
def wq_N (x m : az_Hp) (T s nv nu i : Int) : Prop := wq_R x m T s (191 + 4 * i) 856 (60 * i) nv nu (m.2 857 (2 * i)) ∧ wq_R x m T s (193 + 4 * i) 856 (60 * i + 30) nv nu (m.2 857 (2 * i + 1))
def wq_A (x m : az_Hp) (T s nv nu ng nw : Int) : Prop := (x.2 161 0 = ng ∧ m.2 804 100 = ng ∧ 0 ≤ ng ∧ ng ≤ 6) ∧ (x.2 161 1 = nw ∧ m.2 804 86 = nw ∧ 0 ≤ nw ∧ nw ≤ 8) ∧ (∀ i, 0 ≤ i → i < ng → wq_G x m T s nv nu i) ∧ ∀ i, 0 ≤ i → i < nw → wq_N x m T s nv nu i
/-- what the class's reader may change, and the reference's -/
def wz_X (a k : Int) : Prop := (161 ≤ a ∧ a ≤ 161 ∧ k ≤ 2) ∨ a = 166 ∨ (167 ≤ a ∧ a ≤ 222) ∨ (a = 223 ∧ k ≠ 11) ∨ (224 ≤ a ∧ a ≤ 230)
def wz_M (a k : Int) : Prop := (a = 804 ∧ ((6 ≤ k ∧ k ≤ 10) ∨ k = 13 ∨ (31 ≤ k ∧ k ≤ 33) ∨ k = 37 ∨ k = 38 ∨ k = 86 ∨ k = 100)) ∨ (820 ≤ a ∧ a ≤ 822) ∨ (852 ≤ a ∧ a ≤ 857)
def wz_MB (a k : Int) : Prop := wz_M a k ∨ (a = 804 ∧ (k = 11 ∨ k = 12))
theorem wq_cap {i : Int} (i0 : 0 ≤ i) : (i < 6 → bz_cap (167 + 4 * i) = 30 ∧ bz_cap (169 + 4 * i) = 30) ∧ (i < 8 → bz_cap (191 + 4 * i) = 30 ∧ bz_cap (193 + 4 * i) = 30) := by
  constructor
  · intro h
    have : i = 0 ∨ i = 1 ∨ i = 2 ∨ i = 3 ∨ i = 4 ∨ i = 5 := by omega
    rcases this with rfl | rfl | rfl | rfl | rfl | rfl <;> decide
  · intro h
    have : i = 0 ∨ i = 1 ∨ i = 2 ∨ i = 3 ∨ i = 4 ∨ i = 5 ∨ i = 6 ∨ i = 7 := by omega
    rcases this with rfl | rfl | rfl | rfl | rfl | rfl | rfl | rfl <;> decide
theorem wq_arr {x : az_Hp} {i : Int} (hF : bz_Fx x) (i0 : 0 ≤ i) : (i < 6 → az_arr x 162 i = some (167 + 4 * i) ∧ az_arr x 163 i = some (169 + 4 * i)) ∧ (i < 8 → az_arr x 164 i = some (191 + 4 * i) ∧ az_arr x 165 i = some (193 + 4 * i)) := by
  have key : ∀ {A n R : Int}, (A, n, R, 4) ∈ bz_rowsL → 0 < R → i < n → az_arr x A i = some (R + 4 * i) := by
    intro A n R hm hR h1
    obtain ⟨l, v⟩ := bz_fxA hF hm
    have := v i i0 h1
    unfold az_arr
    rw [this, if_pos ⟨⟨i0, by omega⟩, by omega⟩]
  exact ⟨fun h => ⟨key (A := 162) (n := 6) (R := 167) (by decide) (by omega) h, key (A := 163) (n := 6) (R := 169) (by decide) (by omega) h⟩, fun h => ⟨key (A := 164) (n := 8) (R := 191) (by decide) (by omega) h, key (A := 165) (n := 8) (R := 193) (by decide) (by omega) h⟩⟩
section WL
variable {tp : Int → Int} {N : Int} {T s : Int} {J : Nat}
def wq_Z (tp : Int → Int) (N : Int) (x m : az_Hp) (T s : Int) (J j : Nat) : Prop := ∃ nv nu ng nw, wq_S tp N x m T s J j nv nu 0 ∧ wq_A x m T s nv nu ng nw
def wq_Bad (x m : az_Hp) (A B : Option (Int × az_Hp)) : Prop := ∃ x' m', A = some (0, x') ∧ B = some (0, m') ∧ bz_Upd x x' wz_X ∧ bz_Upd m m' wz_MB ∧ lx_fault x' m'
def wq_Ok (tp : Int → Int) (N : Int) (T s : Int) (J : Nat) (x m : az_Hp) (j : Nat) (A B : Option (Int × az_Hp)) : Prop := ∃ (x' m' : az_Hp) (j' : Nat), A = some (1, x') ∧ B = some (1, m') ∧ wq_Z tp N x' m' T s J j' ∧ bz_Upd x x' wz_X ∧ bz_Upd m m' wz_M ∧ j < j'
/-- rows that were read stay -/
theorem wq_A.keep {x m x' m' : az_Hp} {nv nu nv' nu' ng nw : Int} (hT : T = 3 ∨ T = 82) (h : wq_A x m T s nv nu ng nw) (Mo : wq_Mo x m x' m' nv nu nv' nu') (hX : ∀ a k, (a = 161 ∧ k ≤ 1) ∨ (167 ≤ a ∧ a < 167 + 4 * ng) ∨ (191 ≤ a ∧ a < 191 + 4 * nw) ∨ a = T → x'.2 a k = x.2 a k) (hM : ∀ a k, (a = 804 ∧ (k = 86 ∨ k = 100)) ∨ ((a = 852 ∨ a = 853) ∧ k < 30 * ng) ∨ (a = 856 ∧ k < 60 * nw) ∨ (854 ≤ a ∧ a ≤ 855 ∧ k < ng) ∨ (a = 857 ∧ k < 2 * nw) ∨ a = 811 ∨ a = 812 → m'.2 a k = m.2 a k) : wq_A x' m' T s nv' nu' ng nw := by
  obtain ⟨h1, h2, h3, h4⟩ := h
  have ec : bz_ct m' s = bz_ct m s := funext fun k => hM 811 _ (by omega)
  have ef : bz_ft m' s = bz_ft m s := funext fun k => hM 812 _ (by omega)
  have t0 := hX T 0 (by omega)
  have t1 := hX T 1 (by omega)
  refine ⟨by rw [hX 161 0 (by omega), hM 804 100 (by omega)]; exact h1, by rw [hX 161 1 (by omega), hM 804 86 (by omega)]; exact h2, fun i i0 i1 => ?_, fun i i0 i1 => ?_⟩
  · obtain ⟨a1, a2, a3⟩ := h3 i i0 i1
    have b1 := a1.1
    have b2 := a2.1
    unfold wq_G
    rw [hM 854 i (by omega), hM 855 i (by omega), hM 852 (30 * i) (by omega)]
    exact ⟨a1.mono (hX _ _ (by omega)) (fun k k0 k1 => hX _ _ (by omega)) (fun k k0 k1 => hM _ _ (by omega)) t0 t1 ec ef Mo.1 (Int.le_refl 0) Mo.2.2.1, a2.mono (hX _ _ (by omega)) (fun k k0 k1 => hX _ _ (by omega)) (fun k k0 k1 => hM _ _ (by omega)) t0 t1 ec ef Mo.1 (Int.le_refl 0) Mo.2.2.1, a3⟩
  · obtain ⟨a1, a2⟩ := h4 i i0 i1
    have b1 := a1.1
    have b2 := a2.1
    unfold wq_N
    rw [hM 857 (2 * i) (by omega), hM 857 (2 * i + 1) (by omega)]
    exact ⟨a1.mono (hX _ _ (by omega)) (fun k k0 k1 => hX _ _ (by omega)) (fun k k0 k1 => hM _ _ (by omega)) t0 t1 ec ef Mo.1 Mo.2.1 Mo.2.2.1, a2.mono (hX _ _ (by omega)) (fun k k0 k1 => hX _ _ (by omega)) (fun k k0 k1 => hM _ _ (by omega)) t0 t1 ec ef Mo.1 Mo.2.1 Mo.2.2.1⟩
/-- what is behind the ; of a line: sizes are kept, one is counted -/
def wq_Kg (n : Int) (s1 s2 : Int) (m : az_Hp) : Option (Int × az_Hp) := ((az_gref m 804 94).bind fun x7 => ((az_awr m x7 n s1).bind fun s8 => ((az_gref s8 804 95).bind fun x9 => ((az_awr s8 x9 n s2).bind fun s10 => ((fz_X11_eats 2000000 (az_wr s10 804 100 (az_w32 ((s10.2 804 100) + 1))) 804 59).bind fun r11 => (if r11.1 = 0 ∨ r11.1 = 1 then some (r11.1, r11.2) else none))))))
def wq_Kw (n : Int) (s1 s2 : Int) (m : az_Hp) : Option (Int × az_Hp) := ((az_gref m 804 97).bind fun x2 => ((az_awr m x2 (az_w32 (2 * n)) s1).bind fun s3 => ((az_gref s3 804 97).bind fun x4 => ((az_awr s3 x4 (az_w32 ((az_w32 (2 * n)) + 1)) s2).bind fun s5 => ((fz_X11_eats 2000000 (az_wr s5 804 86 (az_w32 ((s5.2 804 86) + 1))) 804 59).bind fun r6 => (if r6.1 = 0 ∨ r6.1 = 1 then some (r6.1, r6.2) else none))))))
theorem wq_given {x m : az_Hp} {j : Nat} {nv nu ng nw : Int} (h : wq_S tp N x m T s J j nv nu 0) (hA : wq_A x m T s nv nu ng nw) (hk : lx_kj tp N j = 3) (n6 : ng < 6) :
    wq_Bad x m (fz_X4_readGiven 2000000 x 223 ng) ((fz_X11_go 2000000 m 804).bind fun r1 => fz_X11_readWanted_76 2000000 r1 804 1 ng 3) ∨ wq_Ok tp N T s J x m j (fz_X4_readGiven 2000000 x 223 ng) ((fz_X11_go 2000000 m 804).bind fun r1 => fz_X11_readWanted_76 2000000 r1 804 1 ng 3) := by
  have hT := h.2.2.1.1
  have g0 := hA.1
  have w0 := hA.2.1
  obtain ⟨x1, m1, a1, a2, a3, a4, a5⟩ := wq_step h (by omega) (by omega)
  have hX1 := a3.1.1
  have hM1 := a3.1.2
  have cp := (wq_cap (i := ng) (by omega)).1 n6
  have ar := (wq_arr (i := ng) hX1 (by omega)).1 n6
  have l852 := ln_852 hM1
  have l853 := ln_853 hM1
  have eM : ((fz_X11_go 2000000 m 804).bind fun r1 => fz_X11_readWanted_76 2000000 r1 804 1 ng 3) = wq_RM m1 3 1 852 (30 * ng) 93 (30 * ng) (wq_Kg ng) := by
    have w30 : az_w32 (30 * ng) = 30 * ng := az_w32_id (by omega) (by omega)
    rw [a2, Option.bind_some]
    unfold fz_X11_readWanted_76
    rw [if_neg (show ¬ (1 : Int) = 0 by decide), fx_804_92 hM1, Option.bind_some]
    unfold fz_X11_readWanted_99 fz_X11_readWanted_114 fz_X11_readWanted_158 fz_X11_readWanted_176
    simp only [if_neg (show ¬ (1 : Int) = 0 by decide), w30]
    rfl
  have u1 : bz_Upd x x1 wz_X := a4.weak fun a k z => by unfold lx_nX at z; unfold wz_X; omega
  have v1 : bz_Upd m m1 wz_M := a5.weak fun a k z => by unfold lx_S at z; unfold wz_M; omega
  have A1 : wq_A x1 m1 T s nv nu ng nw := hA.keep hT (wq_Mo.upd a4 a5 (fun k z => by unfold lx_nX at z; omega) (fun k => ⟨fun z => by unfold lx_S at z; omega, fun z => by unfold lx_S at z; omega⟩)) (fun a k z => a4.2.2 a k (fun w => by unfold lx_nX at w; omega)) (fun a k z => a5.2.2 a k (fun w => by unfold lx_S at w; omega))
  have eX : ∀ o, fz_X4_readBoth 2000000 x1 223 (167 + 4 * ng) (169 + 4 * ng) 3 4 = o → fz_X4_readGiven 2000000 x 223 ng = o.bind fun r8 => (if r8.1 = 0 then (some (0, r8.2)) else ((az_gref r8.2 223 12).bind fun x9 => (some (1, (az_wr r8.2 x9 0 (az_w32 ((r8.2.2 x9 0) + 1))))))) := fun o ho => by
    unfold fz_X4_readGiven
    rw [a1, Option.bind_some, fx_223_12 hX1, Option.bind_some, fx_161_3 hX1, Option.bind_some, ar.1, Option.bind_some, Option.bind_some, fx_161_4 hX1, Option.bind_some, ar.2, Option.bind_some, ho]
  rw [eM]
  have W := wq_both (md := 3) (r := 167 + 4 * ng) (r' := 169 + 4 * ng) (A1 := 852) (o1 := 30 * ng) (A2 := 853) (o2 := 30 * ng) (f2 := 93) (K := wq_Kg ng) (a3.weak (by omega)) (Or.inl rfl) cp.1 cp.2 (by omega) ⟨by omega, by omega⟩ ⟨by decide, by decide⟩ (fun k => by unfold bz_isFix; simp [bz_cap, bz_fixL, bz_rowsL]) (by omega) (by omega) (by omega) ⟨by decide, by decide⟩ (fun k => by unfold bz_isFix; simp [bz_cap, bz_fixL, bz_rowsL]) (by omega) (by omega) (by omega) (fun k _ _ z => by have := z.1; omega) (fun q hq => fx_804_93 hq)
  rw [show (3 : Int) + 1 = 4 from rfl, show rd_rm 3 = 3 from rfl, show rd_must 3 0 = 1 from rfl] at W
  rcases W with ⟨x2, m2, b1, b2, b3, b4, b5⟩ | ⟨x2, m2, j2, nv2, nu2, s1, s2, b1, b2, b3, b4, b5, b6, b7, b8, b9, b10⟩
  · left
    refine ⟨x2, m2, ?_, b2, u1.trans (b3.weak fun a k z => ?_), (v1.weak fun _ _ z => Or.inl z).trans (b4.weak fun a k z => ?_), b5⟩
    · rw [eX _ b1, Option.bind_some, if_pos rfl]
    · unfold wq_XX wq_X at z; unfold wz_X; omega
    · unfold wq_MM wq_M at z; unfold wz_M; omega
  · rw [wq_u3] at b4 b5
    have hX2 := b3.1.1
    have hM2 := b3.1.2
    have b7' : bz_Upd x1 x2 wz_X := b7.weak fun a k z => by unfold wq_XX wq_X at z; unfold wz_X; omega
    have b8' : bz_Upd m1 m2 wz_M := b8.weak fun a k z => by unfold wq_MM wq_M at z; unfold wz_M; omega
    obtain ⟨m3, hm3⟩ : ∃ m3, m3 = az_wr (az_wr (az_wr m2 854 ng s1) 855 ng s2) 804 100 (ng + 1) := ⟨_, rfl⟩
    have u3 : bz_Upd m2 m3 (fun a k => (a = 804 ∧ k = 100) ∨ ((a = 854 ∨ a = 855) ∧ k = ng)) := by
      rw [hm3]
      exact bz_Upd.wr (bz_Upd.wr (bz_Upd.wr bz_Upd.refl (Or.inr ⟨Or.inl rfl, rfl⟩) (by unfold bz_isFix; simp [bz_cap, bz_fixL, bz_rowsL])) (Or.inr ⟨Or.inr rfl, rfl⟩) (by unfold bz_isFix; simp [bz_cap, bz_fixL, bz_rowsL])) (Or.inl ⟨rfl, rfl⟩) (by decide)
    have hM3 := hM2.upd u3
    have m100 : m2.2 804 100 = ng := by rw [b8.2.2 804 100 (fun z => by unfold wq_MM wq_M at z; omega)]; exact A1.1.2.1
    have x100 : x2.2 161 0 = ng := by rw [b7.2.2 161 0 (fun z => by unfold wq_XX wq_X at z; omega)]; exact A1.1.1
    have eK : wq_Kg ng s1 s2 m2 = ((fz_X11_eats 2000000 m3 804 59).bind fun r11 => (if r11.1 = 0 ∨ r11.1 = 1 then some (r11.1, r11.2) else none)) := by
      have hMa : bz_Fx (az_wr m2 854 ng s1) := hM2.upd (S := fun _ _ => True) (bz_Upd.wr bz_Upd.refl trivial (by unfold bz_isFix; simp [bz_cap, bz_fixL, bz_rowsL]))
      have e100 : (az_wr (az_wr m2 854 ng s1) 855 ng s2).2 804 100 = ng := by rw [az_wr_ne (by omega), az_wr_ne (by omega)]; exact m100
      unfold wq_Kg
      rw [fx_804_94 hM2, Option.bind_some, bz_awr (by omega) (by rw [ln_854 hM2]; omega), Option.bind_some, fx_804_95 hMa, Option.bind_some, bz_awr (by omega) (by rw [ln_855 hMa]; omega), Option.bind_some, e100, az_w32_id (by omega) (by omega), ← hm3]
    have C3 : lx_Cur x2 m3 tp N J j2 := b3.2.1.upd (bz_Upd.refl (S := fun _ _ => False)) u3 (fun a k z => z.elim) (fun a k z => by unfold lx_KM; omega)
    rw [b2, eK, ld_eats C3 (by decide)]
    have M3 : ∀ a k, ¬ (a = 804 ∧ k = 100) → ¬ ((a = 854 ∨ a = 855) ∧ k = ng) → m3.2 a k = m2.2 a k := fun a k p q => u3.2.2 a k (fun z => by omega)
    have S3 : wq_S tp N x2 m3 T s J j2 nv2 nu2 0 := by
      obtain ⟨-, -, hN2, h11, ⟨v1, v2, v3, v4, v5, v6, v7⟩, w1, w2, w3, w4⟩ := b3
      exact ⟨⟨hX2, hM3⟩, C3, hN2.gen (bz_Upd.refl (S := fun _ _ => False)) u3 (fun a k z => z.elim) (fun a k z => by omega), h11, ⟨by rw [M3 804 37 (by omega) (by omega)]; exact v1, v2, fun b c b0 bc c1 => by rw [M3 821 b (by omega) (by omega), M3 821 c (by omega) (by omega)]; exact v3 b c b0 bc c1, by rw [M3 804 34 (by omega) (by omega)]; exact v4, v5, v6, fun b b0 b1 => by rw [M3 821 b (by omega) (by omega)]; exact v7 b b0 b1⟩, w1, by rw [M3 804 38 (by omega) (by omega)]; exact w2, w3, fun k k0 k1 => by rw [M3 822 k (by omega) (by omega)]; exact w4 k k0 k1⟩
    have um3 : bz_Upd m m3 wz_M := (v1.trans b8').trans (u3.weak fun a k z => by unfold wz_M; omega)
    by_cases c59 : lx_kj tp N j2 = 59
    · right
      obtain ⟨x4, m4, n1, n2, S4, n4, n5⟩ := wq_step S3 (by omega) (by omega)
      have x40 : x4.2 161 0 = ng := by rw [n4.2.2 161 0 (fun z => by unfold lx_nX at z; omega)]; exact x100
      obtain ⟨x5, hx5⟩ : ∃ x5, x5 = az_wr x4 161 0 (ng + 1) := ⟨_, rfl⟩
      have u5 : bz_Upd x4 x5 (fun a k => a = 161 ∧ k = 0) := by rw [hx5]; exact bz_Upd.wr bz_Upd.refl ⟨rfl, rfl⟩ (by decide)
      have X5 : ∀ a k, ¬ (a = 161 ∧ k = 0) → ¬ (a = 223 ∧ 7 ≤ k) → x5.2 a k = x2.2 a k := fun a k p q => by
        rw [u5.2.2 a k (fun z => p z), n4.2.2 a k (fun z => by unfold lx_nX at z; omega)]
      have M4 : ∀ a k, a ≠ 804 → m4.2 a k = m3.2 a k := fun a k p => n5.2.2 a k (fun z => by unfold lx_S at z; omega)
      have S5 : wq_S tp N x5 m4 T s J (j2 + 1) nv2 nu2 0 := by
        obtain ⟨⟨hX4, hM4⟩, C4, hN4, h11, ⟨v1, v2, v3, v4, v5, v6, v7⟩, w1, w2, w3, w4⟩ := S4
        exact ⟨⟨hX4.upd u5, hM4⟩, C4.upd u5 (bz_Upd.refl (S := fun _ _ => False)) (fun a k z => by unfold lx_KX; omega) (fun a k z => z.elim), hN4.gen u5 (bz_Upd.refl (S := fun _ _ => False)) (fun a k z => by omega) (fun a k z => z.elim), by rw [u5.2.2 223 11 (fun z => by omega)]; exact h11, ⟨v1, v2, v3, v4, by rw [u5.2.2 223 3 (fun z => by omega)]; exact v5, by omega, v7⟩, by rw [u5.2.2 161 2 (fun z => by omega)]; exact w1, w2, w3, fun k k0 k1 => by rw [u5.2.2 166 k (fun z => by omega)]; exact w4 k k0 k1⟩
      -- rows
      have MoA : wq_Mo x1 m1 x5 m4 nv nu nv2 nu2 := b10.trans ⟨Int.le_refl _, Int.le_refl _, fun b _ _ => by rw [M4 821 b (by omega), M3 821 b (by omega) (by omega)], fun k _ _ => ⟨by rw [M4 822 k (by omega), M3 822 k (by omega) (by omega)], X5 166 k (by omega) (by omega)⟩⟩
      have X51 : ∀ a k, (167 ≤ a ∧ a < 167 + 4 * ng) ∨ (191 ≤ a ∧ a < 223) ∨ a = T ∨ (a = 161 ∧ k = 1) → x5.2 a k = x1.2 a k := fun a k z => by
        rw [X5 a k (by omega) (by omega), b7.2.2 a k (fun w => by unfold wq_XX wq_X at w; omega)]
      have M41 : ∀ a k, ((a = 852 ∨ a = 853) ∧ k < 30 * ng) ∨ a = 856 ∨ (854 ≤ a ∧ a ≤ 855 ∧ k < ng) ∨ a = 857 ∨ a = 811 ∨ a = 812 → m4.2 a k = m1.2 a k := fun a k z => by
        rw [M4 a k (by omega), M3 a k (by omega) (by omega), b8.2.2 a k (fun w => by unfold wq_MM wq_M at w; omega)]
      have ec : bz_ct m4 s = bz_ct m1 s := funext fun k => M41 811 _ (by omega)
      have ef : bz_ft m4 s = bz_ft m1 s := funext fun k => M41 812 _ (by omega)
      have A5 : wq_A x5 m4 T s nv2 nu2 (ng + 1) nw := by
        obtain ⟨g1, g2, g3, g4⟩ := A1
        refine ⟨⟨by rw [hx5, az_wr_same], by rw [n5.2.2 804 100 (fun z => by unfold lx_S at z; omega), hm3, az_wr_same], by omega, by omega⟩, ⟨by rw [X51 161 1 (by omega)]; exact g2.1, by rw [n5.2.2 804 86 (fun z => by unfold lx_S at z; omega), M3 804 86 (by omega) (by omega), b8.2.2 804 86 (fun w => by unfold wq_MM wq_M at w; omega)]; exact g2.2.1, g2.2.2⟩, fun i i0 i1 => ?_, fun i i0 i1 => ?_⟩
        · by_cases e : i = ng
          · subst e
            have e54 : m4.2 854 i = s1 := by rw [M4 854 i (by omega), hm3, az_wr_ne (by omega), az_wr_ne (by omega), az_wr_same]
            have e55 : m4.2 855 i = s2 := by rw [M4 855 i (by omega), hm3, az_wr_ne (by omega), az_wr_same]
            have e52 : ∀ k, m4.2 852 k = m2.2 852 k := fun k => by rw [M4 852 k (by omega), M3 852 k (by omega) (by omega)]
            have e53 : ∀ k, m4.2 853 k = m2.2 853 k := fun k => by rw [M4 853 k (by omega), M3 853 k (by omega) (by omega)]
            have ec2 : bz_ct m4 s = bz_ct m2 s := funext fun k => by show m4.2 811 _ = m2.2 811 _; rw [M4 811 _ (by omega), M3 811 _ (by omega) (by omega)]
            have ef2 : bz_ft m4 s = bz_ft m2 s := funext fun k => by show m4.2 812 _ = m2.2 812 _; rw [M4 812 _ (by omega), M3 812 _ (by omega) (by omega)]
            have w21 : ∀ b, m4.2 821 b = m2.2 821 b := fun b => by rw [M4 821 b (by omega), M3 821 b (by omega) (by omega)]
            unfold wq_G
            rw [e54, e55, e52]
            exact ⟨b4.mono (X5 _ _ (by omega) (by omega)) (fun k _ _ => X5 _ _ (by omega) (by omega)) (fun k _ _ => e52 _) (X5 _ _ (by omega) (by omega)) (X5 _ _ (by omega) (by omega)) ec2 ef2 (Int.le_refl _) (Int.le_refl _) (fun b _ _ => w21 b), b5.mono (X5 _ _ (by omega) (by omega)) (fun k _ _ => X5 _ _ (by omega) (by omega)) (fun k _ _ => e53 _) (X5 _ _ (by omega) (by omega)) (X5 _ _ (by omega) (by omega)) ec2 ef2 (Int.le_refl _) (Int.le_refl _) (fun b _ _ => w21 b), b6 rfl⟩
          · obtain ⟨a1, a2, a3⟩ := g3 i i0 (by omega)
            have b1 := a1.1
            have b2 := a2.1
            unfold wq_G
            rw [M41 854 i (by omega), M41 855 i (by omega), M41 852 (30 * i) (by omega)]
            exact ⟨a1.mono (X51 _ _ (by omega)) (fun k k0 k1 => X51 _ _ (by omega)) (fun k k0 k1 => M41 _ _ (by omega)) (X51 _ _ (by omega)) (X51 _ _ (by omega)) ec ef MoA.1 (Int.le_refl 0) MoA.2.2.1, a2.mono (X51 _ _ (by omega)) (fun k k0 k1 => X51 _ _ (by omega)) (fun k k0 k1 => M41 _ _ (by omega)) (X51 _ _ (by omega)) (X51 _ _ (by omega)) ec ef MoA.1 (Int.le_refl 0) MoA.2.2.1, a3⟩
        · obtain ⟨a1, a2⟩ := g4 i i0 i1
          have b1 := a1.1
          have b2 := a2.1
          unfold wq_N
          rw [M41 857 (2 * i) (by omega), M41 857 (2 * i + 1) (by omega)]
          exact ⟨a1.mono (X51 _ _ (by omega)) (fun k k0 k1 => X51 _ _ (by omega)) (fun k k0 k1 => M41 _ _ (by omega)) (X51 _ _ (by omega)) (X51 _ _ (by omega)) ec ef MoA.1 MoA.2.1 MoA.2.2.1, a2.mono (X51 _ _ (by omega)) (fun k k0 k1 => X51 _ _ (by omega)) (fun k k0 k1 => M41 _ _ (by omega)) (X51 _ _ (by omega)) (X51 _ _ (by omega)) ec ef MoA.1 MoA.2.1 MoA.2.2.1⟩
      refine ⟨x5, m4, j2 + 1, ?_, ?_, ⟨nv2, nu2, ng + 1, nw, S5, A5⟩, ((u1.trans b7').trans (n4.weak fun a k z => by unfold lx_nX at z; unfold wz_X; omega)).trans (u5.weak fun a k z => by unfold wz_X; omega), um3.trans (n5.weak fun a k z => by unfold lx_S at z; unfold wz_M; omega), by omega⟩
      · rw [eX _ b1, if_pos c59, n1, Option.bind_some, Option.bind_some, if_neg (show ¬ (1 : Int) = 0 by decide), fx_223_12 S4.1.1, Option.bind_some, x40, az_w32_id (by omega) (by omega), hx5]
      · rw [if_pos c59, n2, Option.bind_some, rd_wrap]
    · left
      obtain ⟨x4, m4, d1, d2, d3, d4, d5⟩ := lx_fail C3 2
      refine ⟨x4, m4, ?_, ?_, (u1.trans b7').trans (d3.weak fun a k z => by unfold wz_X; omega), (um3.weak fun _ _ z => Or.inl z).trans (d4.weak fun a k z => Or.inr z), d5⟩
      · rw [eX _ b1, if_neg c59, d1, rd_wrap0, Option.bind_some, if_pos rfl]
      · rw [if_neg c59, d2, rd_wrap0, rd_wrap0]
end WL
