-- ends: what VARIABLES there are; the reference's view of its nodes
theorem lv_A_mem {h : Int → List Int} {kd : Int → Int} {t : Int} : ∀ (r : Nat) (k : Int), t ∈ lv_A h kd r k ↔ ∃ j, k ≤ j ∧ j < k + r ∧ t ∈ h (kd j) := by
  intro r
  induction r with
  | zero =>
    intro k
    constructor
    · intro q; cases q
    · rintro ⟨j, j0, j1, -⟩
      simp at j1
      omega
  | succ r ih =>
    intro k
    show t ∈ h (kd k) ++ lv_A h kd r (k + 1) ↔ _
    rw [List.mem_append, ih]
    constructor
    · rintro (q | ⟨j, j0, j1, q⟩)
      · exact ⟨k, Int.le_refl _, by push_cast; omega, q⟩
      · exact ⟨j, by omega, by push_cast; omega, q⟩
    · rintro ⟨j, j0, j1, q⟩
      push_cast at j1
      by_cases e : j = k
      · rw [e] at q; exact Or.inl q
      · exact Or.inr ⟨j, by omega, by omega, q⟩
theorem lv_elem {g : dz_G} {up : Int → Int} {ρ : Int → Nat} (h : ew_Gr g up ρ) : ∀ (n : Nat) (x t : Int), ρ (dz_tp up x) < n → dz_In (dz_N g) x → t ∈ lv_W g up x → dz_iv g t ∧ dz_In (dz_N g) t := by
  intro n
  induction n with
  | zero => intro x t q; omega
  | succ n ih =>
    intro x t hn hx ht
    have top := h.2.1.top hx
    by_cases v : dz_iv g (dz_tp up x)
    · rw [lv_var h hx v, List.mem_singleton] at ht
      rw [ht]
      exact ⟨v, top.2⟩
    · rw [← lv_tp h hx, lv_con h top.2 v] at ht
      obtain ⟨j, j0, j1, q⟩ := (lv_A_mem _ _).mp ht
      have ar0 := (h.1.2.2.1 _ top.2 v).1
      have w := lv_rk h top.2 v j0 (by omega)
      rw [h.2.1.tt hx] at w
      exact ih _ t (by have := w.2; omega) w.1 q
/-- every VARIABLE is in the table -/
theorem lv_every {g : dz_G} {a b : Int} {up : Int → Int} {ρ : Int → Nat} (h : ew_Gr g up ρ) (ha : dz_In (dz_N g) a) (tab : dz_tp up a = dz_tp up b) (hR : dz_Rc g a b) {x : Int} (hx : dz_In (dz_N g) x) (v : dz_iv g (dz_tp up x)) : dz_tp up x ∈ lv_ad [] (lv_W g up a) := by
  have V := hR (fun n => ∀ t, t ∈ lv_W g up n → t ∈ lv_W g up a) (fun t q => q) (fun t q => by
    have : lv_W g up b = lv_W g up a := by unfold lv_W; rw [tab]
    rw [this] at q
    exact q) (fun z hz nz Vz k k0 k1 t q => Vz t (by
    rw [lv_con h hz nz]
    exact (lv_A_mem _ _).mpr ⟨k, k0, by omega, q⟩)) x hx
  rw [lv_ad_mem]
  exact Or.inr (V _ (by rw [lv_var h hx v]; exact List.mem_singleton.mpr rfl))
theorem lv_small {g : dz_G} {a : Int} {up : Int → Int} {ρ : Int → Nat} (h : ew_Gr g up ρ) (ha : dz_In (dz_N g) a) (na : ¬ dz_iv g a) (hn : (lv_ad [] (lv_W g up a)).Nodup) (hc : dz_N g ≤ 32) : (lv_ad [] (lv_W g up a)).length ≤ 31 := by
  have el : ∀ t, t ∈ lv_ad [] (lv_W g up a) → dz_iv g t ∧ dz_In (dz_N g) t := fun t q => by
    rw [lv_ad_mem] at q
    rcases q with q | q
    · cases q
    · exact lv_elem h (ρ (dz_tp up a) + 1) a t (by omega) ha q
  have l := lv_len (c := dz_N g) (lv_nd1 hn (fun q => na (el _ q).1)) (fun x hx => by
    rcases List.mem_append.mp hx with q | q
    · exact (el x q).2
    · rw [List.mem_singleton] at q
      rw [q]
      exact ha)
  rw [List.length_append, List.length_singleton] at l
  push_cast at l
  omega
theorem lt_T.pz {c : Int} {tx tm : Int → Int} {m m' : az_Hp} {tb : List Int} (h : lt_T c tx tm m tb) (u : bz_Upd m m' pz_SR) : lt_T c tx tm m' tb := by
  obtain ⟨h1, h2, h3, h4⟩ := h
  refine ⟨by rw [u.2.2 804 60 (by unfold pz_SR; omega)]; exact h1, h2, h3, fun i hi => ?_⟩
  rw [u.2.2 837 i (by unfold pz_SR; omega)]
  exact h4 i hi
/-- nodes of the class's graph and of the reference's -/
def en_F (n3 m8 : az_Hp) (c1 c2 c3 : Int) (F : Int → Int → Prop) (inv : Int → Int) : Prop :=
  (∀ x y, F x y → inv y = x ∧ dz_In c3 x ∧ dz_In c2 y ∧ n3.2 823 x = m8.2 823 y ∧ (n3.2 823 x < 1000 → ∀ k, 0 ≤ k → k < bz_tk n3 (n3.2 823 x) → F (n3.2 824 (3 * x + k)) (m8.2 824 (3 * y + k))) ∧ (x < c1 → y = x) ∧ (c1 ≤ x → c1 ≤ y)) ∧ ∀ x, dz_In c1 x → F x x
theorem en_tl {x6 m8 n3 n2 : az_Hp} {T s c1 c2 c3 a b : Int} {up0 : Int → Int} {ρ ρ3 : Int → Nat} {nm : Int → List Int} {ix : Int → Int} {tb : List Int} {F : Int → Int → Prop} {inv : Int → Int}
    (hH : mz_H x6 m8 T s) (hG : en_G (lz_g n2 c1) (lz_g n3 c3) a b up0 (x6.2 235) ρ3) (hL : lt_H (lz_g n2 c1) up0 ρ m8) (hX : ez_X x6 (lz_g n3 c3)) (htk : bz_tk m8 = bz_tk n3)
    (hc : ∀ n, dz_In c3 n → ¬ ez_iX (x6.2 232 n) → n3.2 823 n < 1000 ∧ bz_cr (bz_ct m8 s) (bz_ft m8 s) (m8.2 T 0) (m8.2 T 1) (fun _ _ => False) (x6.2 232 n) (n3.2 823 n)) (hnm : ∀ c q, bz_cr (bz_ct m8 s) (bz_ft m8 s) (m8.2 T 0) (m8.2 T 1) (fun _ _ => False) c q → q < 1000 → nm_Sp x6 m8 T c q (nm q))
    (hT : lt_T c1 (dz_tp up0) (dz_tp (m8.2 825)) m8 tb) (hix : ∀ (i : Nat) z, tb[i]? = some z → ix z = i ∧ i ≤ 30) (hall : ∀ x, dz_In c1 x → dz_iv (lz_g n2 c1) (dz_tp up0 x) → dz_tp up0 x ∈ tb) (hnv : ∀ x, c1 ≤ x → x < c3 → n3.2 823 x < 1000)
    (hU : dz_UF (m8.2 825) c2) (hid : ∀ y, c1 ≤ y → y < c2 → m8.2 825 y = y) (hc2 : c2 ≤ 120) (hF : en_F n3 m8 c1 c2 c3 F inv) :
    ∀ y, (∃ x, F x y) → tl_N m8 (fun y => ∃ x, F x y) (fun y => ρ3 (dz_tp (x6.2 235) (inv y))) (fun y => ew_W (lz_g n3 c3) (x6.2 235) nm ix (inv y)) y := by
  rintro y ⟨x, hxy⟩
  obtain ⟨iy, ix3, iy2, ecd, ekd, lft, rgt⟩ := hF.1 x y hxy
  have hE := hG.2.2.1
  have X := hG.2.2.2.2.1
  have c1n : dz_N (lz_g n2 c1) = c1 := rfl
  have c3n : dz_N (lz_g n3 c3) = c3 := rfl
  have e825 : ∀ {m}, bz_Upd m8 m pz_SR → m.2 825 = m8.2 825 := fun u => funext fun n => u.2.2 825 n (by unfold pz_SR; omega)
  have tkm : ∀ {m}, bz_Upd m8 m pz_SR → bz_tk m = bz_tk m8 := fun u => funext fun q => by
    unfold bz_tk
    rw [u.2.2 804 15 (by unfold pz_SR; omega), u.2.2 812 _ (by unfold pz_SR; omega), u.2.2 811 _ (by unfold pz_SR; omega)]
  have tb3 := hH.tb
  -- a constructor of the class's graph, r its node in the reference
  have con : ∀ x1 r1 : Int, F x1 r1 → n3.2 823 x1 < 1000 → ew_W (lz_g n3 c3) (x6.2 235) nm ix x1 = ew_W (lz_g n3 c3) (x6.2 235) nm ix x → dz_tp (x6.2 235) x1 = dz_tp (x6.2 235) x →
      (m8.2 823 r1 < 1000 ∧ ∃ (w : List Int) (a : Nat), a ≤ 3 ∧ (∀ m, bz_Upd m8 m pz_SR → fz_X11_takes m 804 (m8.2 823 r1) = some (a : Int)) ∧
       (∀ m L, bz_Upd m8 m pz_SR → pz_R m L → L.length + 8 < 100000 → ∃ q m', fz_X11_nameOf m 804 (m8.2 823 r1) = some q ∧ fz_X11_tells 2000000 m 804 q = some m' ∧ bz_Upd m m' pz_SR ∧ pz_R m' (L ++ w)) ∧
       ew_W (lz_g n3 c3) (x6.2 235) nm ix (inv y) = w ++ ew_A (fun y => ew_W (lz_g n3 c3) (x6.2 235) nm ix (inv y)) (fun k => m8.2 824 (3 * r1 + k)) a 0 ∧ ∀ k : Int, 0 ≤ k → k < (a : Int) → (∃ x, F x (m8.2 824 (3 * r1 + k))) ∧ ρ3 (dz_tp (x6.2 235) (inv (m8.2 824 (3 * r1 + k)))) < ρ3 (dz_tp (x6.2 235) (inv y))) := by
    intro x1 r1 h1 v1 eW eT
    obtain ⟨_, i1, i2, ec1, ek1, -, -⟩ := hF.1 x1 r1 h1
    have nv : ¬ dz_iv (lz_g n3 c3) x1 := fun q => by
      have q' : 1000 ≤ n3.2 823 x1 := q
      omega
    have hX1 := hX x1 i1
    obtain ⟨q1, cr⟩ := hc x1 i1 (fun q => nv (hX1.2.1.mp q))
    obtain ⟨⟨w1, w2⟩, -, w3⟩ := hnm _ _ cr q1
    have mc := cr.mc tb3.2.1
    have ar := hE.1.2.2.1 x1 i1 nv
    have ea : dz_ar (lz_g n3 c3) x1 = bz_tk n3 (n3.2 823 x1) := rfl
    refine ⟨by omega, nm (n3.2 823 x1), (dz_ar (lz_g n3 c3) x1).toNat, by omega, fun m u => ?_, ?_, ?_, fun k k0 k1 => ?_⟩
    · have sd : bz_sd m := by
        have := tb3.1
        unfold bz_sd at this ⊢
        rw [u.2.2 804 15 (by unfold pz_SR; omega)]
        exact this
      rw [← ec1, bz_takes (hH.2.1.upd u) sd mc, tkm u, htk, ← ea]
      congr 1
      omega
    · rw [← ec1]
      exact w3
    · rw [iy, ← eW, ew_con hE i1 nv]
      have es : dz_sy (lz_g n3 c3) x1 = n3.2 823 x1 := rfl
      rw [es]
      congr 1
      refine ew_A_congr _ _ (fun j j0 j1 => ?_)
      have f := ek1 v1 j j0 (by omega)
      show ew_W _ _ _ _ (n3.2 824 (3 * x1 + j)) = ew_W _ _ _ _ (inv (m8.2 824 (3 * r1 + j)))
      rw [(hF.1 _ _ f).1]
    · have f := ek1 v1 k k0 (by omega)
      refine ⟨⟨_, f⟩, ?_⟩
      have w := lv_rk hE i1 nv k0 (by omega)
      rw [(hF.1 _ _ f).1, iy, ← eT]
      exact w.2
  by_cases lt : x < c1
  · -- a node of the left sides
    have ey := lft lt
    subst ey
    have hy : dz_In (dz_N (lz_g n2 c1)) y := ⟨ix3.1, lt⟩
    obtain ⟨t1, t2, t3, t4⟩ := lt_top hL hy
    have eT : dz_tp (x6.2 235) (dz_tp (m8.2 825) y) = dz_tp (x6.2 235) y := by rw [(hG.2.2.2.2.2 _ t1).1, (hG.2.2.2.2.2 _ hy).1]; exact t2
    have eW : ew_W (lz_g n3 c3) (x6.2 235) nm ix (dz_tp (m8.2 825) y) = ew_W (lz_g n3 c3) (x6.2 235) nm ix y := by unfold ew_W; rw [eT]
    have fr := hF.2 _ t1
    have efr := hF.1 _ _ fr
    have Xr := X.2 _ t1
    refine ⟨dz_tp (m8.2 825) y, fun m u => ?_, ⟨t1.1, by have := t1.2; have := hL.1.1.2.1; omega⟩, ?_⟩
    · have := ez_find (σ := m) (N := c1) (hH.2.1.upd u) (by rw [e825 u]; exact hL.2.1.2.2.1) (by have := hL.1.1.2.1; exact this) hy
      rw [e825 u] at this
      exact this
    · by_cases v : dz_iv (lz_g n2 c1) (dz_tp (m8.2 825) y)
      · have v3 : 1000 ≤ n3.2 823 (dz_tp (m8.2 825) y) := Xr.1.mp v
        have vx := t4 v
        have zin := hall y hy vx
        obtain ⟨j0, hj0⟩ := List.mem_iff_getElem?.mp zin
        have hj := hix j0 _ hj0
        refine Or.inl ⟨by rw [← efr.2.2.2.1]; exact v3, ix (dz_tp up0 y), ⟨by omega, by omega⟩, fun m u => ?_, ?_⟩
        · have hTm : lt_T c1 (dz_tp up0) (dz_tp (m8.2 825)) m tb := hT.pz u
          rcases lt_letter (tx := dz_tp up0) (by have := hL.1.1.2.1; exact this) (fun r r' hr hr' e => (hL.2.2 r r' hr hr').mp e) (hH.2.1.upd u) hTm t1 t3 (by rw [t2]; exact (hL.1.2.1.top hy).2) with ⟨j, j1, j2, j3⟩ | ⟨nin, -⟩
          · rw [t2] at j2
            rw [j3, (hix j _ j2).1]
          · rw [t2] at nin
            exact absurd zin nin
        · show ew_W (lz_g n3 c3) (x6.2 235) nm ix (inv y) = [97 + ix (dz_tp up0 y)]
          have t6 := (hG.2.2.2.2.2 _ hy).1
          rw [iy, ew_var hE ix3 (by rw [t6]; exact (X.2 _ (hL.1.2.1.top hy).2).1.mp vx), t6]
      · exact Or.inr (con _ _ fr (by
          have : ¬ 1000 ≤ n3.2 823 (dz_tp (m8.2 825) y) := fun q => v (Xr.1.mpr q)
          omega) eW eT)
  · -- a node of a right side
    have y1 := rgt (by omega)
    have tpy : dz_tp (m8.2 825) y = y := dz_tp_root (hid y y1 iy2.2)
    refine ⟨y, fun m u => ?_, ⟨iy2.1, by have := iy2.2; omega⟩, Or.inr (con x y hxy (hnv x (by omega) ix3.2) rfl rfl)⟩
    have := ez_find (σ := m) (N := c2) (hH.2.1.upd u) (by rw [e825 u]; exact hU) hc2 iy2
    rw [e825 u, tpy] at this
    exact this
