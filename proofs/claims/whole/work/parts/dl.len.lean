-- ends: the bytes' length; the class's view of its nodes
section EL
variable {W : Int → List Int} {kd : Int → Int}
theorem en_A1 : (ew_A W kd 1 0).length = (W (kd 0)).length + 2 := by
  have e : ew_A W kd 1 0 = 40 :: (W (kd 0) ++ [41]) := rfl
  rw [e, List.length_cons, List.length_append, List.length_singleton]
theorem en_A2 : (ew_A W kd 2 0).length = (W (kd 0)).length + (W (kd 1)).length + 3 := by
  have e : ew_A W kd 2 0 = 40 :: (W (kd 0) ++ (44 :: (W (kd 1) ++ [41]))) := rfl
  rw [e, List.length_cons, List.length_append, List.length_cons, List.length_append, List.length_singleton]
  omega
theorem en_A3 : (ew_A W kd 3 0).length = (W (kd 0)).length + (W (kd 1)).length + (W (kd 2)).length + 4 := by
  have e : ew_A W kd 3 0 = 40 :: (W (kd 0) ++ (44 :: (W (kd 1) ++ (44 :: (W (kd 2) ++ [41]))))) := rfl
  rw [e, List.length_cons, List.length_append, List.length_cons, List.length_append, List.length_cons, List.length_append, List.length_singleton]
  omega
end EL
/-- a graph and a greater one, joined -/
def en_G (g g3 : dz_G) (a b : Int) (up0 up3 : Int → Int) (ρ3 : Int → Nat) : Prop :=
  (∃ ρ, bd_Gr g a b up0 ρ) ∧ (¬ dz_iv g a ∧ ¬ dz_iv g b) ∧ ew_Gr g3 up3 ρ3 ∧ (∀ x, ρ3 x ≤ 120) ∧ dz_X g g3 ∧ ∀ n, dz_In (dz_N g) n → dz_tp up3 n = dz_tp up0 n ∧ dz_In (dz_N g) (dz_tp up3 n)
section EG
variable {g g3 : dz_G} {a b : Int} {up0 up3 : Int → Int} {ρ3 : Int → Nat} {nm : Int → List Int} {ix : Int → Int}
theorem en_G.in3 (h : en_G g g3 a b up0 up3 ρ3) {n : Int} (hn : dz_In (dz_N g) n) : dz_In (dz_N g3) n := ⟨hn.1, by have := hn.2; have := h.2.2.2.2.1.1; omega⟩
/-- every VARIABLE of the left sides -/
theorem en_left (h : en_G g g3 a b up0 up3 ρ3) (hnm : ∀ x, dz_In (dz_N g) x → ¬ dz_iv g x → (nm (dz_sy g3 x)).length ≤ 6) {x : Int} (hx : dz_In (dz_N g) x) (vx : dz_iv g x) : (ew_W g3 up3 nm ix x).length + 5 ≤ 8748 := by
  obtain ⟨ρ, hB⟩ := h.1
  have hE := h.2.2.1
  have tpW : ∀ y, dz_In (dz_N g) y → ew_W g3 up3 nm ix (dz_tp up0 y) = ew_W g3 up3 nm ix y := fun y hy => by
    rw [← (h.2.2.2.2.2 y hy).1]
    exact ew_tp hE (h.in3 hy)
  have key := bd_var hB h.2.1.1 h.2.1.2 (U := fun z => (ew_W g3 up3 nm ix z).length + 5) (fun z hz => by
    have iz3 := h.in3 hz.1
    have X := h.2.2.2.2.1.2 z hz.1
    have tz : dz_tp up3 z = z := by rw [(h.2.2.2.2.2 z hz.1).1]; exact hz.2
    by_cases v : dz_iv g z
    · rw [bd_ks_v v]
      have w : ew_W g3 up3 nm ix z = [97 + ix (dz_tp up3 z)] := ew_var hE iz3 (by rw [tz]; exact X.1.mp v)
      refine ⟨fun _ => ?_, fun q => absurd rfl q⟩
      rw [w]
      simp
    · have w := ew_con (nm := nm) (ix := ix) hE iz3 (fun q => v (X.1.mpr q))
      have ar := hB.1.1.2.2.1 z hz.1 v
      have n6 := hnm z hz.1 v
      have kk : ∀ k, 0 ≤ k → k < dz_ar g z → dz_kd g3 z k = dz_kd g z k ∧ dz_In (dz_N g) (dz_kd g z k) := fun k k0 k1 => ⟨(X.2.2.2 v k k0 k1).symm, ar.2.2 k k0 k1⟩
      rw [← X.2.2.1] at w
      rw [bd_ks_c v]
      have ha : dz_ar g z = 0 ∨ dz_ar g z = 1 ∨ dz_ar g z = 2 ∨ dz_ar g z = 3 := by omega
      rcases ha with e | e | e | e
      · rw [e] at w ⊢
        refine ⟨fun _ => ?_, fun q => absurd rfl q⟩
        rw [w]
        show (nm (dz_sy g3 z) ++ []).length + 5 ≤ 12
        rw [List.append_nil]
        omega
      · have k0 := kk 0 (by omega) (by omega)
        rw [e] at w ⊢
        refine ⟨fun q => absurd (congrArg List.length q) (by rw [List.length_map]; decide), fun _ => ?_⟩
        have el : (ew_W g3 up3 nm ix z).length = (nm (dz_sy g3 z)).length + ((ew_W g3 up3 nm ix (dz_kd g3 z 0)).length + 2) := by
          rw [w, List.length_append]
          exact congrArg (fun t => (nm (dz_sy g3 z)).length + t) en_A1
        show (ew_W g3 up3 nm ix z).length + 5 ≤ ((ew_W g3 up3 nm ix (dz_tp up0 (dz_kd g z 0))).length + 5 + 0) + 8
        rw [el, tpW _ k0.2, k0.1]
        omega
      · have k0 := kk 0 (by omega) (by omega)
        have k1 := kk 1 (by omega) (by omega)
        rw [e] at w ⊢
        refine ⟨fun q => absurd (congrArg List.length q) (by rw [List.length_map]; decide), fun _ => ?_⟩
        have el : (ew_W g3 up3 nm ix z).length = (nm (dz_sy g3 z)).length + ((ew_W g3 up3 nm ix (dz_kd g3 z 0)).length + (ew_W g3 up3 nm ix (dz_kd g3 z 1)).length + 3) := by
          rw [w, List.length_append]
          exact congrArg (fun t => (nm (dz_sy g3 z)).length + t) en_A2
        show (ew_W g3 up3 nm ix z).length + 5 ≤ ((ew_W g3 up3 nm ix (dz_tp up0 (dz_kd g z 1))).length + 5 + ((ew_W g3 up3 nm ix (dz_tp up0 (dz_kd g z 0))).length + 5 + 0)) + 4
        rw [el, tpW _ k0.2, tpW _ k1.2, k0.1, k1.1]
        omega
      · have k0 := kk 0 (by omega) (by omega)
        have k1 := kk 1 (by omega) (by omega)
        have k2 := kk 2 (by omega) (by omega)
        rw [e] at w ⊢
        refine ⟨fun q => absurd (congrArg List.length q) (by rw [List.length_map]; decide), fun _ => ?_⟩
        have el : (ew_W g3 up3 nm ix z).length = (nm (dz_sy g3 z)).length + ((ew_W g3 up3 nm ix (dz_kd g3 z 0)).length + (ew_W g3 up3 nm ix (dz_kd g3 z 1)).length + (ew_W g3 up3 nm ix (dz_kd g3 z 2)).length + 4) := by
          rw [w, List.length_append]
          exact congrArg (fun t => (nm (dz_sy g3 z)).length + t) en_A3
        show (ew_W g3 up3 nm ix z).length + 5 ≤ ((ew_W g3 up3 nm ix (dz_tp up0 (dz_kd g z 2))).length + 5 + ((ew_W g3 up3 nm ix (dz_tp up0 (dz_kd g z 1))).length + 5 + ((ew_W g3 up3 nm ix (dz_tp up0 (dz_kd g z 0))).length + 5 + 0))) + 0
        rw [el, tpW _ k0.2, tpW _ k1.2, tpW _ k2.2, k0.1, k1.1, k2.1]
        omega) hx vx
  have e := tpW x hx
  have k2 : (ew_W g3 up3 nm ix (dz_tp up0 x)).length + 5 ≤ 8748 := key
  rw [e] at k2
  exact k2
end EG
/-- a right side keeps the rule -/
theorem en_right {n3 : az_Hp} {c3 a b : Int} {g : dz_G} {up0 up3 : Int → Int} {ρ3 : Int → Nat} {nm : Int → List Int} {ix : Int → Int} (h : en_G g (lz_g n3 c3) a b up0 up3 ρ3) (hnm : ∀ x, dz_In c3 x → n3.2 823 x < 1000 → (nm (n3.2 823 x)).length ≤ 6) (hnv : ∀ x, dz_N g ≤ x → x < c3 → n3.2 823 x < 1000) :
    tr_ru (fun x => (ew_W (lz_g n3 c3) up3 nm ix x).length + 5) n3 (dz_N g) c3 := by
  have hE := h.2.2.1
  have g0 := hE.1.1
  have gN : 0 ≤ dz_N g := by
    obtain ⟨ρ, hB⟩ := h.1
    exact hB.1.1.1
  refine ⟨fun x x0 x1 xc => ?_, fun x x0 x1 xv => ?_⟩
  · have ix3 : dz_In (dz_N (lz_g n3 c3)) x := ⟨by omega, x1⟩
    have nv : ¬ dz_iv (lz_g n3 c3) x := fun q => by
      have q' : 1000 ≤ n3.2 823 x := q
      omega
    have w := ew_con (nm := nm) (ix := ix) hE ix3 nv
    have ar := hE.1.2.2.1 x ix3 nv
    have n6 := hnm x ⟨by omega, x1⟩ xc
    have ea : dz_ar (lz_g n3 c3) x = bz_tk n3 (n3.2 823 x) := rfl
    have es : dz_sy (lz_g n3 c3) x = n3.2 823 x := rfl
    rw [es] at w
    rw [← ea]
    show (ew_W (lz_g n3 c3) up3 nm ix x).length + 5 ≤ _
    have ha : dz_ar (lz_g n3 c3) x = 0 ∨ dz_ar (lz_g n3 c3) x = 1 ∨ dz_ar (lz_g n3 c3) x = 2 ∨ dz_ar (lz_g n3 c3) x = 3 := by omega
    rcases ha with e | e | e | e
    · rw [e] at w ⊢
      rw [w]
      show (nm (n3.2 823 x) ++ []).length + 5 ≤ 0 + 12
      rw [List.append_nil]
      omega
    · rw [e] at w ⊢
      have el : (ew_W (lz_g n3 c3) up3 nm ix x).length = (nm (n3.2 823 x)).length + ((ew_W (lz_g n3 c3) up3 nm ix (n3.2 824 (3 * x + 0))).length + 2) := by
        rw [w, List.length_append]
        exact congrArg (fun t => (nm (n3.2 823 x)).length + t) en_A1
      show (ew_W (lz_g n3 c3) up3 nm ix x).length + 5 ≤ ((ew_W (lz_g n3 c3) up3 nm ix (n3.2 824 (3 * x + 0))).length + 5 + 0) + 8
      omega
    · rw [e] at w ⊢
      have el : (ew_W (lz_g n3 c3) up3 nm ix x).length = (nm (n3.2 823 x)).length + ((ew_W (lz_g n3 c3) up3 nm ix (n3.2 824 (3 * x + 0))).length + (ew_W (lz_g n3 c3) up3 nm ix (n3.2 824 (3 * x + 1))).length + 3) := by
        rw [w, List.length_append]
        exact congrArg (fun t => (nm (n3.2 823 x)).length + t) en_A2
      show (ew_W (lz_g n3 c3) up3 nm ix x).length + 5 ≤ ((ew_W (lz_g n3 c3) up3 nm ix (n3.2 824 (3 * x + 0))).length + 5 + ((ew_W (lz_g n3 c3) up3 nm ix (n3.2 824 (3 * x + (0 + 1)))).length + 5 + 0)) + 4
      rw [show (0 : Int) + 1 = 1 from rfl]
      omega
    · rw [e] at w ⊢
      have el : (ew_W (lz_g n3 c3) up3 nm ix x).length = (nm (n3.2 823 x)).length + ((ew_W (lz_g n3 c3) up3 nm ix (n3.2 824 (3 * x + 0))).length + (ew_W (lz_g n3 c3) up3 nm ix (n3.2 824 (3 * x + 1))).length + (ew_W (lz_g n3 c3) up3 nm ix (n3.2 824 (3 * x + 2))).length + 4) := by
        rw [w, List.length_append]
        exact congrArg (fun t => (nm (n3.2 823 x)).length + t) en_A3
      show (ew_W (lz_g n3 c3) up3 nm ix x).length + 5 ≤ ((ew_W (lz_g n3 c3) up3 nm ix (n3.2 824 (3 * x + 0))).length + 5 + ((ew_W (lz_g n3 c3) up3 nm ix (n3.2 824 (3 * x + (0 + 1)))).length + 5 + ((ew_W (lz_g n3 c3) up3 nm ix (n3.2 824 (3 * x + (0 + 1 + 1)))).length + 5 + 0))) + 0
      rw [show (0 : Int) + 1 + 1 = 2 from rfl, show (0 : Int) + 1 = 1 from rfl]
      omega
  · have lt : x < dz_N g := by
      by_cases q : x < dz_N g
      · exact q
      · have := hnv x (by omega) x1
        omega
    have ix1 : dz_In (dz_N g) x := ⟨x0, lt⟩
    have X := h.2.2.2.2.1.2 x ix1
    exact en_left h (fun y hy ny => by
      have Y := h.2.2.2.2.1.2 y hy
      have nv : ¬ 1000 ≤ n3.2 823 y := fun q => ny (Y.1.mpr q)
      exact hnm y (h.in3 hy) (by omega)) ix1 (X.1.mpr xv)
/-- the class's view -/
theorem en_pj {x6 m8 n3 : az_Hp} {T s c3 : Int} {ρ3 : Int → Nat} {nm : Int → List Int} {ix : Int → Int} (hH : mz_H x6 m8 T s) (hE : ew_Gr (lz_g n3 c3) (x6.2 235) ρ3) (hX : ez_X x6 (lz_g n3 c3))
    (hc : ∀ n, dz_In c3 n → ¬ ez_iX (x6.2 232 n) → n3.2 823 n < 1000 ∧ bz_cr (bz_ct m8 s) (bz_ft m8 s) (m8.2 T 0) (m8.2 T 1) (fun _ _ => False) (x6.2 232 n) (n3.2 823 n)) (hnm : ∀ c q, bz_cr (bz_ct m8 s) (bz_ft m8 s) (m8.2 T 0) (m8.2 T 1) (fun _ _ => False) c q → q < 1000 → nm_Sp x6 m8 T c q (nm q))
    (hl : ∀ z, dz_In c3 z → dz_tp (x6.2 235) z = z → dz_iv (lz_g n3 c3) z → (0 ≤ ix z ∧ ix z ≤ 30) ∧ x6.2 236 z = ix z) :
    ∀ x, dz_In c3 x → pj_N x6 T (fun x => dz_In c3 x) (fun x => ρ3 (dz_tp (x6.2 235) x)) (ew_W (lz_g n3 c3) (x6.2 235) nm ix) x := by
  intro x hx
  have hN : dz_N (lz_g n3 c3) = c3 := rfl
  have hx3 : dz_In (dz_N (lz_g n3 c3)) x := hx
  have c120 : c3 ≤ 120 := hE.1.2.1
  have top := hE.2.1.top hx3
  have tt := hE.2.1.tt hx3
  have tz : dz_In c3 (dz_tp (x6.2 235) x) := top.2
  have t0 := tz.1
  have t1 := tz.2
  have hXz := hX _ top.2
  -- a later heap
  have ks : ∀ {σ : az_Hp}, pz_U x6 σ pz_SX → ∀ a k, a = 232 ∨ a = 235 ∨ a = 236 ∨ a = 238 → σ.2 a k = x6.2 a k := fun u a k z => u.2.2 a k (by omega) (fun q => by unfold pz_SX pz_SP at q; omega)
  have tpS : ∀ σ, pz_U x6 σ pz_SX → fz_X0_top 2000000 σ 231 x = some (dz_tp (x6.2 235) x) := fun σ u => by
    have e : σ.2 235 = x6.2 235 := funext fun n => ks u 235 n (by omega)
    have := ez_top (σ := σ) (u.fx hH.1) (by rw [e]; exact hE.2.1) (by rw [hN]; exact c120) hx3
    rw [e] at this
    exact this
  refine ⟨hx.1, ?_⟩
  by_cases v : dz_iv (lz_g n3 c3) (dz_tp (x6.2 235) x)
  · have L := hl _ tz tt v
    refine Or.inl ⟨ix (dz_tp (x6.2 235) x), L.1, fun σ u => ?_, ew_var hE hx3 v⟩
    have F := u.fx hH.1
    have iV := (ez_isV (σ := σ) F t0 (by omega) (by rw [ks u 232 _ (by omega)]; exact hXz.1)).1 (by rw [ks u 232 _ (by omega)]; exact hXz.2.1.mpr v)
    unfold fz_X0_joinedCode
    rw [tpS σ u, Option.bind_some, iV, Option.bind_some, if_neg (by decide), fx_231_5 F, Option.bind_some, bz_ard t0 (by rw [ln_236 F]; omega), Option.bind_some, ks u 236 _ (by omega), L.2, bz_xor (by omega) (by omega)]
  · have q3 := hXz.2.2 v
    have nx : ¬ ez_iX (x6.2 232 (dz_tp (x6.2 235) x)) := fun q => v (hXz.2.1.mp q)
    obtain ⟨q1, cr⟩ := hc _ tz nx
    obtain ⟨⟨w1, w2⟩, w3, -⟩ := hnm _ _ cr q1
    have ar := hE.1.2.2.1 _ top.2 v
    have cd0 : 0 ≤ x6.2 232 (dz_tp (x6.2 235) x) := by unfold ez_iX at nx; omega
    refine Or.inr ⟨x6.2 232 (dz_tp (x6.2 235) x), nm (n3.2 823 (dz_tp (x6.2 235) x)), (dz_ar (lz_g n3 c3) (dz_tp (x6.2 235) x)).toNat, fun k => dz_kd (lz_g n3 c3) (dz_tp (x6.2 235) x) k, cd0, by omega, w1, fun σ u => ?_, fun σ => ?_, w3, fun k k0 k1 => ⟨fun σ u => ?_, ?_, ?_⟩, ?_⟩
    · have F := u.fx hH.1
      have iV := (ez_isV (σ := σ) F t0 (by omega) (by rw [ks u 232 _ (by omega)]; exact hXz.1)).2 (by rw [ks u 232 _ (by omega)]; exact nx)
      unfold fz_X0_joinedCode
      rw [tpS σ u, Option.bind_some, iV, Option.bind_some, if_pos rfl, fx_231_1 F, Option.bind_some, bz_ard t0 (by rw [ln_232 F]; omega), Option.bind_some, ks u 232 _ (by omega)]
    · rw [bz_arity hXz.1, q3.1]
      congr 1
      omega
    · have F := u.fx hH.1
      unfold fz_X0_joinedKid
      rw [fx_231_7 F, Option.bind_some, tpS σ u, Option.bind_some, az_w32_id (z := dz_tp (x6.2 235) x * 3) (by omega) (by omega), az_w32_id (by omega) (by omega), bz_ard (by omega) (by rw [ln_238 F]; omega), Option.bind_some, ks u 238 _ (by omega), show dz_tp (x6.2 235) x * 3 + k = 3 * dz_tp (x6.2 235) x + k by omega, q3.2.1 k k0 (by omega)]
    · exact ar.2.2 k k0 (by omega)
    · have w := lv_rk hE top.2 v k0 (by omega)
      rw [tt] at w
      exact w.2
    · rw [← ew_tp hE hx3, ew_con hE top.2 v]
      rfl
