-- ends: the class names all VARIABLES; names of constructors and families
theorem nv_clr {g : dz_G} (hg : dz_ok g) {x0 : az_Hp} {a : Int} : ∀ (d k : Nat) (σ : az_Hp) (i : Int), d < k → bz_Fx x0 → bz_Upd x0 σ nv_S → x0.2 231 0 = dz_N g → 0 ≤ i → i + d = dz_N g → (∀ t, 0 ≤ t → t < i → σ.2 237 t = 0) → ∃ σ', fz_X0_nameVariables_2 2000000 k σ 231 a i = fz_X0_nameVariables_2 2000000 (k - d) σ' 231 a (dz_N g) ∧ bz_Upd x0 σ' nv_S ∧ ∀ t, dz_In (dz_N g) t → σ'.2 237 t = 0 := by
  have hN := hg.2.1
  intro d
  induction d with
  | zero =>
    intro k σ i hk hF hU hc i0 hi hz
    have e : i = dz_N g := by simp at hi; exact hi
    subst e
    exact ⟨σ, rfl, hU, fun t ht => hz t ht.1 ht.2⟩
  | succ d ih =>
    intro k σ i hk hF hU hc i0 hi hz
    obtain ⟨k, rfl⟩ : ∃ k', k = k' + 1 := ⟨k - 1, by omega⟩
    push_cast at hi
    have F := hF.upd hU
    have U1 := nv_wr (A := 237) (i := i) (v := 0) hU (by omega)
    obtain ⟨σ', f1, f2, f3⟩ := ih k (az_wr σ 237 i 0) (i + 1) (by omega) hF U1 hc (by omega) (by omega) (fun t t0 t1 => by
      by_cases e : t = i
      · subst e; exact az_wr_same
      · rw [az_wr_ne (by omega)]; exact hz t t0 (by omega))
    refine ⟨σ', ?_, f2, f3⟩
    have e0 : k + 1 - (d + 1) = k - d := by omega
    rw [e0, ← f1]
    conv => lhs; unfold fz_X0_nameVariables_2
    rw [if_pos (by rw [hU.2.2 231 0 (by unfold nv_S; omega), hc]; omega), fx_231_6 F, Option.bind_some, bz_awz i0 (by rw [ln_237 F]; omega) (Or.inl rfl), Option.bind_some, az_w32_id (by omega) (by omega)]
theorem nv_all {g : dz_G} {x0 : az_Hp} {ρ : Int → Nat} (hG : ew_Gr g (x0.2 235) ρ) (hF : bz_Fx x0) (hX : ez_X x0 g) (hc : x0.2 231 0 = dz_N g) {a : Int} (ha : dz_In (dz_N g) a) :
    ∃ σ', fz_X0_nameVariables 2000000 x0 231 a = some σ' ∧ bz_Upd x0 σ' nv_S ∧ (lv_ad [] (lv_W g (x0.2 235) a)).Nodup ∧ (∀ x, x ∈ lv_ad [] (lv_W g (x0.2 235) a) → dz_In (dz_N g) x) ∧ ∀ (i : Nat) x, (lv_ad [] (lv_W g (x0.2 235) a))[i]? = some x → σ'.2 236 x = i := by
  have n120 := hG.1.2.1
  have n0 := hG.1.1
  obtain ⟨σ1, c1, U1, z1⟩ := nv_clr (a := a) hG.1 (dz_N g).toNat 2000000 x0 0 (by omega) hF bz_Upd.refl hc (by omega) (by omega) (fun t t0 t1 => by omega)
  have F1 := hF.upd U1
  have U2 := nv_wr (A := 239) (i := 0) (v := a) U1 (by omega)
  obtain ⟨σ2, hσ2⟩ : ∃ σ2, σ2 = az_wr σ1 239 0 a := ⟨_, rfl⟩
  rw [← hσ2] at U2
  have e7 : σ2.2 237 = σ1.2 237 := funext fun n => by rw [hσ2]; exact az_wr_ne (by omega)
  have ct := dz_ct_le (f := σ2.2 237) (c := 0) (dz_N g).toNat
  obtain ⟨σ', r1, r2, r3, r4, r5⟩ := nv_run hG hF hX 400 2000000 σ2 [] [a] 0 (by simp only [List.length_singleton]; omega) (by omega) (by omega) (by omega) (by omega) ⟨U2, ⟨by rw [hσ2]; exact az_wr_same, trivial⟩, fun s hs => by rw [List.mem_singleton] at hs; rw [hs]; exact ha, List.nodup_nil, fun x hx => (by cases hx), fun i x hx => by simp at hx, fun n hn => by rw [e7]; exact Or.inl (z1 n hn), fun z hz tz mz => by
    rw [e7, z1 z hz] at mz
    omega⟩
  have eL : nv_L (lv_W g (x0.2 235)) [a] = lv_W g (x0.2 235) a := by
    show lv_W g (x0.2 235) a ++ [] = _
    rw [List.append_nil]
  rw [eL] at r3 r4 r5
  refine ⟨σ', ?_, r2, r3, r4, r5⟩
  unfold fz_X0_nameVariables
  rw [c1]
  obtain ⟨k, hk⟩ : ∃ k, 2000000 - (dz_N g).toNat = k + 1 := ⟨2000000 - (dz_N g).toNat - 1, by omega⟩
  rw [hk]
  unfold fz_X0_nameVariables_2
  rw [if_neg (by rw [U1.2.2 231 0 (by unfold nv_S; omega), hc]; omega), if_neg (by have := ha.1; omega), fx_231_8 F1, Option.bind_some, bz_awr (by omega) (by rw [ln_239 F1]; omega), Option.bind_some, ← hσ2]
  exact r1
/-- a name, by the class and by the reference -/
def nm_Sp (x m : az_Hp) (T c q : Int) (w : List Int) : Prop := (1 ≤ w.length ∧ w.length ≤ 6) ∧
  (∀ x' L, pz_U x x' pz_SX → pz_O x' L → L.length + 8 < 100000 → ∃ n x'', fz_X9_nameOf x' T c = some n ∧ fz_X3_putLetters 2000000 x' 801 n 65 = some x'' ∧ pz_U x' x'' pz_SP ∧ pz_O x'' (L ++ w)) ∧
  ∀ m' L, bz_Upd m m' pz_SR → pz_R m' L → L.length + 8 < 100000 → ∃ n m'', fz_X11_nameOf m' 804 q = some n ∧ fz_X11_tells 2000000 m' 804 n = some m'' ∧ bz_Upd m' m'' pz_SR ∧ pz_R m'' (L ++ w)
theorem nm_len {g : Int} {l : List Int} (h : bz_let l) : 1 ≤ ((bz_bys g l).reverse).length ∧ ((bz_bys g l).reverse).length ≤ 6 := by
  rw [List.length_reverse, pz_bysLen]
  exact ⟨h.1, h.2.1⟩
theorem nm_word {x m : az_Hp} {T s c q : Int} (hH : mz_H x m T s) (cr : bz_cr (bz_ct m s) (bz_ft m s) (m.2 T 0) (m.2 T 1) (fun _ _ => False) c q) (hq : q < 1000) : ∃ w, nm_Sp x m T c q w := by
  have tb := hH.tb.2.1
  have hI := cr.I tb ⟨fun _ _ z => z.elim, fun _ _ _ _ z => z.elim⟩
  have hT := hH.2.2.1.1
  have hs := hH.2.2.1.2.1
  obtain ⟨n0, n1, n2, n3, n4, -⟩ := hH.2.2.1.2.2.1
  have kd := cr.kd tb
  have cS : ∀ {x'}, pz_U x x' pz_SX → ∀ a k, a = T ∨ a = T + 1 ∨ a = T + 3 → x'.2 a k = m.2 a k := fun ux a k z => by
    rw [ux.2.2 a k (by omega) (by unfold pz_SX pz_SP; omega)]
    exact hH.2.2.2.1 a k (by omega)
  have mS : ∀ {m'}, bz_Upd m m' pz_SR → ∀ a k, a = 809 ∨ a = 810 ∨ (a = 804 ∧ k = 15) → m'.2 a k = m.2 a k := fun um a k z => um.2.2 a k (by unfold pz_SR; omega)
  obtain ⟨tb1, tb2, tb3, tb4, tb5, tb6⟩ := tb
  rcases cr with ⟨c0, q0, q1, hV⟩ | ⟨q0, q1, ec⟩ | ⟨q0, q1, ec⟩ | ⟨q0, q1, ec⟩
  · omega
  · have t5 := tb5 (q - 100) (by omega) (by omega)
    obtain ⟨l, hl, e1, e2⟩ := (n3 (q - 100) (by omega) (by omega)).1
    refine ⟨(bz_bys 64 l).reverse, nm_len hl, fun x' L ux hO hL => ?_, fun m' L um hR hL => ?_⟩
    · have hX' := ux.fx hH.1
      have tg := bz_tg hX' hT
      have tl := bz_tl hX' hT
      obtain ⟨x2, a1, a2, a3⟩ := pz_letters hX' hO hl e1 (Or.inl rfl) hL
      have kd1 : bz_kd c = 1 := by rw [kd, if_pos (by omega)]
      have hnr : bz_nr c = q - 100 := by unfold bz_nr; rw [if_neg (by omega)]; omega
      refine ⟨m.2 (T + 1) (q - 100), x2, ?_, a1, a2, a3⟩
      unfold fz_X9_nameOf
      rw [bz_number hI, Option.bind_some, bz_kind hI, Option.bind_some, kd1, if_pos rfl, hnr, cS ux T 0 (by omega), if_pos (by omega), tg.1, Option.bind_some, bz_ard (by omega) (by omega), Option.bind_some, cS ux _ _ (by omega)]
    · have hM' := hH.2.1.upd um
      have l809 := ln_809 hM'
      have e15 : m'.2 804 15 = s := by rw [mS um 804 15 (by omega)]; exact hH.2.2.2.2
      obtain ⟨m2, b1, b2, b3⟩ := pz_tells hM' hR hl e2 (Or.inl rfl) hL
      refine ⟨m.2 809 (8 * s + (q - 100)), m2, ?_, b1, b2, b3⟩
      unfold fz_X11_nameOf
      rw [show fz_X11_isFam m' q = some 0 by rw [mz_isFam, if_neg (by omega)], Option.bind_some, if_pos rfl, fx_804_19 hM', Option.bind_some, e15, az_w32_id (z := 8 * s) (by omega) (by omega), az_w32_id (z := 8 * s + q) (by omega) (by omega), az_w32_id (by omega) (by omega), bz_ard (by omega) (by omega), Option.bind_some, mS um 809 _ (by omega), show 8 * s + q - 100 = 8 * s + (q - 100) by omega]
  · have t6 := tb6 (q - 200) (by omega) (by omega)
    obtain ⟨l, hl, e1, e2⟩ := (n4 (q - 200) (by omega) (by omega)).1
    refine ⟨(bz_bys 64 l).reverse, nm_len hl, fun x' L ux hO hL => ?_, fun m' L um hR hL => ?_⟩
    · have hX' := ux.fx hH.1
      have tg := bz_tg hX' hT
      have tl := bz_tl hX' hT
      obtain ⟨x2, a1, a2, a3⟩ := pz_letters hX' hO hl e1 (Or.inl rfl) hL
      have kd2 : bz_kd c = 2 := by rw [kd, if_neg (by omega), if_pos (by omega)]
      have hnr : bz_nr c = q - 200 := by unfold bz_nr; rw [if_neg (by omega)]; omega
      refine ⟨m.2 (T + 3) (q - 200), x2, ?_, a1, a2, a3⟩
      unfold fz_X9_nameOf
      rw [bz_number hI, Option.bind_some, bz_kind hI, Option.bind_some, kd2, if_neg (by decide), Option.bind_some, if_pos rfl, hnr, cS ux T 1 (by omega), if_pos (by omega), tg.2.2.1, Option.bind_some, bz_ard (by omega) (by omega), Option.bind_some, cS ux _ _ (by omega)]
    · have hM' := hH.2.1.upd um
      have l810 := ln_810 hM'
      have e15 : m'.2 804 15 = s := by rw [mS um 804 15 (by omega)]; exact hH.2.2.2.2
      obtain ⟨m2, b1, b2, b3⟩ := pz_tells hM' hR hl e2 (Or.inl rfl) hL
      refine ⟨m.2 810 (5 * s + (q - 200)), m2, ?_, b1, b2, b3⟩
      unfold fz_X11_nameOf
      rw [show fz_X11_isFam m' q = some 1 by rw [mz_isFam, if_pos (by omega)], Option.bind_some, if_neg (show ¬ (1 : Int) = 0 by decide), fx_804_20 hM', Option.bind_some, e15, az_w32_id (z := 5 * s) (by omega) (by omega), az_w32_id (z := 5 * s + q) (by omega) (by omega), az_w32_id (by omega) (by omega), bz_ard (by omega) (by omega), Option.bind_some, mS um 810 _ (by omega), show 5 * s + q - 200 = 5 * s + (q - 200) by omega]
  · omega
theorem nm_all {x m : az_Hp} {T s : Int} (hH : mz_H x m T s) : ∃ nm : Int → List Int, ∀ c q, bz_cr (bz_ct m s) (bz_ft m s) (m.2 T 0) (m.2 T 1) (fun _ _ => False) c q → q < 1000 → nm_Sp x m T c q (nm q) := by
  have ch : ∀ q, ∃ w, ∀ c, bz_cr (bz_ct m s) (bz_ft m s) (m.2 T 0) (m.2 T 1) (fun _ _ => False) c q → q < 1000 → nm_Sp x m T c q w := fun q => by
    by_cases z : ∃ c, bz_cr (bz_ct m s) (bz_ft m s) (m.2 T 0) (m.2 T 1) (fun _ _ => False) c q ∧ q < 1000
    · obtain ⟨c, c1, c2⟩ := z
      obtain ⟨w, hw⟩ := nm_word hH c1 c2
      refine ⟨w, fun c' c1' _ => ?_⟩
      have : c' = c := by
        have tb := hH.tb.2.1
        obtain ⟨tb1, tb2, tb3, tb4, -, -⟩ := tb
        rcases c1 with ⟨-, -, -, v⟩ | ⟨q0, q1, ec⟩ | ⟨q0, q1, ec⟩ | ⟨q0, q1, ec⟩
        · exact v.elim
        · rcases c1' with ⟨-, -, -, v⟩ | ⟨q0', q1', ec'⟩ | ⟨q0', q1', ec'⟩ | ⟨q0', q1', ec'⟩
          · exact v.elim
          · omega
          · omega
          · omega
        · rcases c1' with ⟨-, -, -, v⟩ | ⟨q0', q1', ec'⟩ | ⟨q0', q1', ec'⟩ | ⟨q0', q1', ec'⟩
          · exact v.elim
          · omega
          · omega
          · omega
        · omega
      rw [this]
      exact hw
    · exact ⟨[], fun c c1 c2 => absurd ⟨c, c1, c2⟩ z⟩
  obtain ⟨f, hf⟩ := Classical.axiomOfChoice ch
  exact ⟨f, fun c q => hf q c⟩
