/-! the class's joiner over a graph -/
def ez_iX (y : Int) : Prop := y < 0 ∨ y % 4 = 3
theorem ez_isV {σ : az_Hp} {n : Int} (hF : bz_Fx σ) (h0 : 0 ≤ n) (h1 : n < 128) (hI : bz_I (σ.2 232 n)) : (ez_iX (σ.2 232 n) → fz_X0_isVariable σ 231 n = some 1) ∧ (¬ ez_iX (σ.2 232 n) → fz_X0_isVariable σ 231 n = some 0) := by
  have g := fx_231_1 hF
  have l := ln_232 hF
  have r : az_ard σ 232 n = some (σ.2 232 n) := bz_ard h0 (by omega)
  unfold ez_iX fz_X0_isVariable
  simp only [g, r, Option.bind_some]
  obtain ⟨i0, i1⟩ := hI
  constructor
  · intro h
    by_cases q : σ.2 232 n < 0
    · rw [if_pos q]
    · rw [if_neg q, bz_and3 (by omega) i1, if_pos (by omega)]
  · intro h
    rw [if_neg (by omega), bz_and3 (by omega) i1, if_neg (by omega)]
/-- the class's cells hold a graph -/
def ez_X (σ : az_Hp) (g : dz_G) : Prop := ∀ n, dz_In (dz_N g) n → bz_I (σ.2 232 n) ∧ (ez_iX (σ.2 232 n) ↔ dz_iv g n) ∧ (¬ dz_iv g n → bz_ar (σ.2 232 n) = dz_ar g n ∧ (∀ k, 0 ≤ k → k < dz_ar g n → σ.2 238 (3 * n + k) = dz_kd g n k) ∧ ∀ m, dz_In (dz_N g) m → ¬ dz_iv g m → (σ.2 232 n = σ.2 232 m ↔ dz_sy g n = dz_sy g m))
theorem ez_X.cong {σ σ' : az_Hp} {g : dz_G} (h : ez_X σ g) (e1 : ∀ n, σ'.2 232 n = σ.2 232 n) (e2 : ∀ n, σ'.2 238 n = σ.2 238 n) : ez_X σ' g := by
  unfold ez_X at h ⊢
  simp only [e1, e2]
  exact h
theorem ez_topL {σ : az_Hp} {N : Int} (hF : bz_Fx σ) (hU : dz_UF (σ.2 235) N) (hN : N ≤ 120) {h : Int → Nat} (h3 : ∀ n, dz_In N n → σ.2 235 n ≠ n → h n < h (σ.2 235 n)) (h4 : ∀ n, dz_In N n → h n ≤ dz_nt (σ.2 235) N.toNat) {n : Nat} : ∀ (d k : Nat) (t i : Int), dz_In N t → dz_nt (σ.2 235) N.toNat ≤ h t + d → d < k → 0 ≤ i → i + d < 128 → fz_X0_top_4 n k σ 231 t i = some (dz_tp (σ.2 235) t) := by
  have g := fx_231_4 hF
  have l := ln_235 hF
  intro d
  induction d with
  | zero =>
    intro k t i ht hd hk i0 i1
    obtain ⟨k, rfl⟩ : ∃ k', k = k' + 1 := ⟨k - 1, by omega⟩
    have e : σ.2 235 t = t := by
      by_cases e : σ.2 235 t = t
      · exact e
      · have x1 := h3 t ht e
        have x2 := h4 _ (hU.2.2.1 t ht)
        omega
    have r : az_ard σ 235 t = some (σ.2 235 t) := bz_ard ht.1 (by have := ht.2; omega)
    unfold fz_X0_top_4
    rw [if_pos (by omega)]
    simp only [g, r, Option.bind_some]
    rw [if_pos e, dz_tp_root e]
  | succ d ih =>
    intro k t i ht hd hk i0 i1
    obtain ⟨k, rfl⟩ : ∃ k', k = k' + 1 := ⟨k - 1, by omega⟩
    have r : az_ard σ 235 t = some (σ.2 235 t) := bz_ard ht.1 (by have := ht.2; omega)
    unfold fz_X0_top_4
    rw [if_pos (by omega)]
    simp only [g, r, Option.bind_some]
    by_cases e : σ.2 235 t = t
    · rw [if_pos e, dz_tp_root e]
    · have x1 := h3 t ht e
      rw [if_neg e, az_w32_id (by omega) (by omega), ih k (σ.2 235 t) (i + 1) (hU.2.2.1 t ht) (by omega) (by omega) (by omega) (by omega), hU.up ht]
theorem ez_top {σ : az_Hp} {N t : Int} (hF : bz_Fx σ) (hU : dz_UF (σ.2 235) N) (hN : N ≤ 120) (ht : dz_In N t) : fz_X0_top 2000000 σ 231 t = some (dz_tp (σ.2 235) t) := by
  have hU0 := hU
  obtain ⟨u0, u1, u2, h, h3, h4⟩ := hU
  have := dz_nt_le (up := σ.2 235) N.toNat
  unfold fz_X0_top
  exact ez_topL hF hU0 hN h3 h4 (dz_nt (σ.2 235) N.toNat) 2000000 t 0 ht (by omega) (by omega) (by omega) (by omega)
/-- pairs on the stack -/
def ez_S (σ : az_Hp) (c : Int) : Int → Int → Prop := fun u v => ∃ j, 0 ≤ j ∧ j < c ∧ σ.2 239 (2 * j) = u ∧ σ.2 239 (2 * j + 1) = v
theorem ez_S_pop {σ : az_Hp} {c : Int} (hc : 0 < c) {u v : Int} : ez_S σ c u v ↔ (u = σ.2 239 (2 * (c - 1)) ∧ v = σ.2 239 (2 * (c - 1) + 1)) ∨ ez_S σ (c - 1) u v := by
  constructor
  · rintro ⟨j, j0, j1, e1, e2⟩
    by_cases q : j = c - 1
    · subst q; exact Or.inl ⟨e1.symm, e2.symm⟩
    · exact Or.inr ⟨j, j0, by omega, e1, e2⟩
  · rintro (⟨e1, e2⟩ | ⟨j, j0, j1, e1, e2⟩)
    · exact ⟨c - 1, by omega, by omega, e1.symm, e2.symm⟩
    · exact ⟨j, j0, by omega, e1, e2⟩
theorem ez_S_cong {σ σ' : az_Hp} {c : Int} (h : ∀ i, 0 ≤ i → i < 2 * c → σ'.2 239 i = σ.2 239 i) {u v : Int} : ez_S σ' c u v ↔ ez_S σ c u v := by
  constructor
  · rintro ⟨j, j0, j1, e1, e2⟩
    exact ⟨j, j0, j1, by rw [← h (2 * j) (by omega) (by omega)]; exact e1, by rw [← h (2 * j + 1) (by omega) (by omega)]; exact e2⟩
  · rintro ⟨j, j0, j1, e1, e2⟩
    exact ⟨j, j0, j1, by rw [h (2 * j) (by omega) (by omega)]; exact e1, by rw [h (2 * j + 1) (by omega) (by omega)]; exact e2⟩
/-- arguments of x and y come on the stack -/
theorem ez_push {n : Nat} {k30 : az_Hp → Int → Int → Int → Int → Option (Int × az_Hp)} {r it x y : Int} (hx : 0 ≤ x) (hx1 : x < 120) (hy : 0 ≤ y) (hy1 : y < 120) (hit : 0 ≤ it) (hit1 : it < 1000000) : ∀ (d k : Nat) (σ : az_Hp) (c : Int), bz_Fx σ → d ≤ 3 → d < k → 0 ≤ c → 2 * c + 2 * d ≤ 1024 → ∃ σ', fz_X0_join_201 n k30 k σ 231 r (2 * c) it x y ((d : Int) - 1) = k30 σ' 231 r (2 * (c + d)) (it + 1) ∧ bz_Upd σ σ' (fun a _ => a = 239) ∧ ∀ u v, ez_S σ' (c + d) u v ↔ (∃ k : Int, 0 ≤ k ∧ k < d ∧ u = σ.2 238 (3 * x + k) ∧ v = σ.2 238 (3 * y + k)) ∨ ez_S σ c u v := by
  intro d
  induction d with
  | zero =>
    intro k σ c hF hd hk hc hc1
    obtain ⟨k, rfl⟩ : ∃ k', k = k' + 1 := ⟨k - 1, by omega⟩
    refine ⟨σ, ?_, bz_Upd.refl, fun u v => ?_⟩
    · unfold fz_X0_join_201
      rw [if_pos (by omega), az_w32_id (by omega) (by omega)]
      simp
    · simp only [Int.natCast_zero, Int.add_zero]
      constructor
      · intro h; exact Or.inr h
      · rintro (⟨k, k0, k1, -⟩ | h)
        · omega
        · exact h
  | succ d ih =>
    intro k σ c hF hd hk hc hc1
    obtain ⟨k, rfl⟩ : ∃ k', k = k' + 1 := ⟨k - 1, by omega⟩
    have g7 := fx_231_7 hF
    have g8 := fx_231_8 hF
    have l7 := ln_238 hF
    have l8 := ln_239 hF
    have e1 : ((d + 1 : Nat) : Int) - 1 = (d : Int) := by omega
    have u1 : bz_Upd σ (az_wr (az_wr σ 239 (2 * c) (σ.2 238 (3 * x + d))) 239 (2 * c + 1) (σ.2 238 (3 * y + d))) (fun a _ => a = 239) := by
      refine bz_Upd.wr (bz_Upd.wr bz_Upd.refl rfl ?_) rfl ?_
      · unfold bz_isFix; simp [bz_cap, bz_fixL, bz_rowsL]
      · unfold bz_isFix; simp [bz_cap, bz_fixL, bz_rowsL]
    obtain ⟨σ', q1, q2, q3⟩ := ih k _ (c + 1) (hF.upd u1) (by omega) (by omega) (by omega) (by push_cast at hc1; omega)
    refine ⟨σ', ?_, u1.trans q2, fun u v => ?_⟩
    · rw [e1]
      unfold fz_X0_join_201
      rw [if_neg (by omega)]
      simp (disch := first | omega | (simp only [bz_ln_wr]; omega) | fail) only [g8, g7, Option.bind_some, if_neg, az_w32_id, bz_ard, bz_awr, bz_gref_wr, az_wr_ne]
      rw [show x * 3 + (d : Int) = 3 * x + d by omega, show y * 3 + (d : Int) = 3 * y + d by omega, show 2 * c + 2 = 2 * (c + 1) by omega, show (d : Int) + -1 = (d : Int) - 1 by omega, show 2 * (c + ((d + 1 : Nat) : Int)) = 2 * (c + 1 + (d : Int)) by push_cast; omega]
      exact q1
    · have q := q3 u v
      rw [show c + 1 + (d : Int) = c + ((d + 1 : Nat) : Int) by push_cast; omega] at q
      rw [q, ez_S_pop (by omega), show c + 1 - 1 = c by omega]
      rw [ez_S_cong (σ := σ) (c := c) (fun i i0 i1 => by rw [az_wr_ne (by omega), az_wr_ne (by omega)])]
      have f1 : ∀ i, (az_wr (az_wr σ 239 (2 * c) (σ.2 238 (3 * x + d))) 239 (2 * c + 1) (σ.2 238 (3 * y + d))).2 238 i = σ.2 238 i := fun i => by rw [az_wr_ne (by omega), az_wr_ne (by omega)]
      rw [az_wr_same, az_wr_ne (a := 239) (by omega), az_wr_same]
      simp only [f1]
      constructor
      · rintro (⟨j, j0, j1, h1, h2⟩ | ⟨h1, h2⟩ | h)
        · exact Or.inl ⟨j, j0, by push_cast; omega, h1, h2⟩
        · exact Or.inl ⟨d, by omega, by push_cast; omega, h1, h2⟩
        · exact Or.inr h
      · rintro (⟨j, j0, j1, h1, h2⟩ | h)
        · by_cases q : j = d
          · subst q; exact Or.inr (Or.inl ⟨h1, h2⟩)
          · exact Or.inl ⟨j, j0, by push_cast at j1; omega, h1, h2⟩
        · exact Or.inr (Or.inr h)
theorem ez_up_wr {σ : az_Hp} {a b : Int} : (az_wr σ 235 a b).2 235 = dz_set (σ.2 235) a b := by
  funext n
  unfold dz_set
  by_cases e : n = a
  · subst e; rw [az_wr_same, if_pos rfl]
  · rw [az_wr_ne (by omega), if_neg e]
/-- the loop of join; r: rigid or not; Z: what else the forest keeps -/
theorem ez_joinL {g : dz_G} (hg : dz_ok g) {C : Int → Int → Prop} (hE : dz_Eq C) (hC : dz_Cd g C) {a b r : Int} (hr : r = 0 ∨ r = 1) {Z : (Int → Int) → Prop} (hZ : ∀ up p q, dz_UF up (dz_N g) → dz_In (dz_N g) p → dz_In (dz_N g) q → up p = p → up q = q → p ≠ q → (r = 0 ∨ (¬ dz_iv g p ∧ ¬ dz_iv g q)) → Z up → Z (dz_set up p q)) :
    ∀ (m k : Nat) (σ : az_Hp) (c it : Int), bz_Fx σ → ez_X σ g → dz_Inv g C a b (σ.2 235) (ez_S σ c) → Z (σ.2 235) → 0 ≤ c → c + 3 * (dz_N g - dz_nt (σ.2 235) (dz_N g).toNat) ≤ m → m < k → m ≤ 1000 → 0 ≤ it → it + m < 1000000 → 2 * c + 6 * (dz_N g - dz_nt (σ.2 235) (dz_N g).toNat) ≤ 1024 →
    ∃ v σ', fz_X0_join_30 2000000 k σ 231 r (2 * c) it = some (v, σ') ∧ bz_Upd σ σ' (fun a _ => a = 235 ∨ a = 239) ∧ ((v = 1 ∧ dz_Inv g C a b (σ'.2 235) (fun _ _ => False) ∧ Z (σ'.2 235)) ∨ (v = 0 ∧ ∃ up x y, dz_UF up (dz_N g) ∧ Z up ∧ dz_In (dz_N g) x ∧ dz_In (dz_N g) y ∧ up x = x ∧ up y = y ∧ x ≠ y ∧ C x y ∧ ((r = 1 ∧ (dz_iv g x ∨ dz_iv g y)) ∨ (¬ dz_iv g x ∧ ¬ dz_iv g y ∧ dz_sy g x ≠ dz_sy g y)))) := by
  intro m
  induction m with
  | zero =>
    intro k σ c it hF hX hI hz c0 hm hk hm1 i0 i1 hs
    obtain ⟨k, rfl⟩ : ∃ k', k = k' + 1 := ⟨k - 1, by omega⟩
    have hn := dz_nt_le (up := σ.2 235) (dz_N g).toNat
    have hN := hg.1
    have ec : c = 0 := by omega
    subst ec
    refine ⟨1, σ, ?_, bz_Upd.refl, Or.inl ⟨rfl, hI.cong (fun x y => ⟨fun ⟨j, j0, j1, _⟩ => by omega, fun h => h.elim⟩), hz⟩⟩
    unfold fz_X0_join_30
    rw [if_pos (by omega), if_neg (by omega)]
  | succ m ih =>
    intro k σ c it hF hX hI hz c0 hm hk hm1 i0 i1 hs
    obtain ⟨k, rfl⟩ : ∃ k', k = k' + 1 := ⟨k - 1, by omega⟩
    have hn := dz_nt_le (up := σ.2 235) (dz_N g).toNat
    have hN := hg.1
    have hN1 := hg.2.1
    by_cases ec : c = 0
    · subst ec
      refine ⟨1, σ, ?_, bz_Upd.refl, Or.inl ⟨rfl, hI.cong (fun x y => ⟨fun ⟨j, j0, j1, _⟩ => by omega, fun h => h.elim⟩), hz⟩⟩
      unfold fz_X0_join_30
      rw [if_pos (by omega), if_neg (by omega)]
    have hI2 := hI.cong (fun x y => ez_S_pop (σ := σ) (c := c) (by omega) (u := x) (v := y))
    obtain ⟨tu, tv, ru, rv, cc⟩ := hI2.tops hE
    have hU := hI.1
    have iu := (hI2.2.2.1 _ _ (Or.inl ⟨rfl, rfl⟩)).1
    have iv := (hI2.2.2.1 _ _ (Or.inl ⟨rfl, rfl⟩)).2.1
    have g4 := fx_231_4 hF
    have g8 := fx_231_8 hF
    have g1 := fx_231_1 hF
    have l8 := ln_239 hF
    have l4 := ln_235 hF
    have l1 := ln_232 hF
    have s1 : az_ard σ 239 (2 * (c - 1)) = some (σ.2 239 (2 * (c - 1))) := bz_ard (by omega) (by omega)
    have s2 : az_ard σ 239 (2 * (c - 1) + 1) = some (σ.2 239 (2 * (c - 1) + 1)) := bz_ard (by omega) (by omega)
    have t1 := ez_top hF hU hN1 iu
    have t2 := ez_top hF hU hN1 iv
    obtain ⟨x1, x2⟩ := tu
    obtain ⟨y1, y2⟩ := tv
    generalize hxx : dz_tp (σ.2 235) (σ.2 239 (2 * (c - 1))) = x at *
    generalize hyy : dz_tp (σ.2 235) (σ.2 239 (2 * (c - 1) + 1)) = y at *
    have ax := hX x ⟨x1, x2⟩
    have ay := hX y ⟨y1, y2⟩
    have vx := ez_isV hF x1 (by omega) ax.1
    have vy := ez_isV hF y1 (by omega) ay.1
    have rx : az_ard σ 232 x = some (σ.2 232 x) := bz_ard x1 (by omega)
    have ry : az_ard σ 232 y = some (σ.2 232 y) := bz_ard y1 (by omega)
    have w1 : az_w32 (2 * c + -2) = 2 * (c - 1) := by rw [az_w32_id (by omega) (by omega)]; omega
    have w2 : az_w32 (2 * (c - 1) + 1) = 2 * (c - 1) + 1 := az_w32_id (by omega) (by omega)
    have w3 : az_w32 (it + 1) = it + 1 := az_w32_id (by omega) (by omega)
    have start : fz_X0_join_30 2000000 (k + 1) σ 231 r (2 * c) it = (if x = y then fz_X0_join_30 2000000 k σ 231 r (2 * (c - 1)) (it + 1) else ((fz_X0_isVariable σ 231 x).bind fun r7 => (if r7 = 0 then ((fz_X0_isVariable σ 231 y).bind fun r8 => (if r8 = 0 then fz_X0_join_107 2000000 (fz_X0_join_30 2000000 k) σ 231 r (2 * (c - 1)) it x y 0 else fz_X0_join_107 2000000 (fz_X0_join_30 2000000 k) σ 231 r (2 * (c - 1)) it x y 1)) else fz_X0_join_107 2000000 (fz_X0_join_30 2000000 k) σ 231 r (2 * (c - 1)) it x y 1))) := by
      conv => lhs; unfold fz_X0_join_30
      rw [if_pos (by omega), if_pos (by omega)]
      simp only [g8, s1, s2, t1, t2, w1, w2, w3, Option.bind_some]
    rw [start]
    by_cases exy : x = y
    · rw [if_pos exy]
      have hI3 := hI2.skip (by rw [hxx, hyy]; exact exy)
      exact ih k σ (c - 1) (it + 1) hF hX hI3 hz (by omega) (by omega) (by omega) (by omega) (by omega) (by omega) (by omega)
    rw [if_neg exy]
    have fr : fz_X0_join_107 2000000 (fz_X0_join_30 2000000 k) σ 231 1 (2 * (c - 1)) it x y 1 = some (0, σ) := by
      unfold fz_X0_join_107
      rw [if_neg (by decide), if_neg (by decide)]
    have fr0 : fz_X0_join_107 2000000 (fz_X0_join_30 2000000 k) σ 231 0 (2 * (c - 1)) it x y 1 = fz_X0_join_140 2000000 (fz_X0_join_30 2000000 k) σ 231 0 (2 * (c - 1)) it x y := by
      unfold fz_X0_join_107
      rw [if_neg (by decide), if_pos rfl]
    have fr1 : fz_X0_join_107 2000000 (fz_X0_join_30 2000000 k) σ 231 r (2 * (c - 1)) it x y 0 = (if σ.2 232 x = σ.2 232 y then fz_X0_join_140 2000000 (fz_X0_join_30 2000000 k) σ 231 r (2 * (c - 1)) it x y else some (0, σ)) := by
      unfold fz_X0_join_107
      rw [if_pos rfl]
      simp only [g1, rx, ry, Option.bind_some]
    by_cases qx : dz_iv g x
    · -- the first is a variable
      rw [vx.1 (ax.2.1.mpr qx), Option.bind_some, if_neg (by decide)]
      rcases hr with rfl | rfl
      · rw [fr0]
        unfold fz_X0_join_140
        rw [vx.1 (ax.2.1.mpr qx), Option.bind_some, if_neg (by decide), g4, Option.bind_some, bz_awr x1 (by omega), Option.bind_some, w3]
        obtain ⟨k1, k2, k3⟩ := hI2.step hg hE hC exy (Or.inl ⟨hxx.symm, hyy.symm⟩) (Or.inl qx)
        have u1 : bz_Upd σ (az_wr σ 235 x y) (fun a _ => a = 235 ∨ a = 239) := bz_Upd.wr bz_Upd.refl (Or.inl rfl) (by unfold bz_isFix; simp [bz_cap, bz_fixL, bz_rowsL])
        have k1' : dz_Inv g C a b ((az_wr σ 235 x y).2 235) (ez_S (az_wr σ 235 x y) (c - 1)) := by
          rw [ez_up_wr]
          refine k1.cong (fun u v => ?_)
          rw [ez_S_cong (σ := σ) (fun i _ _ => az_wr_ne (by omega))]
          exact ⟨fun h => h.elim (fun q => absurd qx q.1) id, fun h => Or.inr h⟩
        obtain ⟨v, σ', f1, f2, f3⟩ := ih k (az_wr σ 235 x y) (c - 1) (it + 1) (hF.upd u1) (hX.cong (fun n => az_wr_ne (by omega)) (fun n => az_wr_ne (by omega))) k1' (by rw [ez_up_wr]; exact hZ _ x y hU ⟨x1, x2⟩ ⟨y1, y2⟩ ru rv exy (Or.inl rfl) hz) (by omega) (by rw [ez_up_wr, k2]; omega) (by omega) (by omega) (by omega) (by omega) (by rw [ez_up_wr, k2]; omega)
        exact ⟨v, σ', f1, u1.trans f2, f3⟩
      · rw [fr]
        exact ⟨0, σ, rfl, bz_Upd.refl, Or.inr ⟨rfl, σ.2 235, x, y, hU, hz, ⟨x1, x2⟩, ⟨y1, y2⟩, ru, rv, exy, cc, Or.inl ⟨rfl, Or.inl qx⟩⟩⟩
    · rw [vx.2 (fun q => qx (ax.2.1.mp q)), Option.bind_some, if_pos rfl]
      by_cases qy : dz_iv g y
      · rw [vy.1 (ay.2.1.mpr qy), Option.bind_some, if_neg (by decide)]
        rcases hr with rfl | rfl
        · rw [fr0]
          unfold fz_X0_join_140
          have u1 : bz_Upd σ (az_wr σ 235 y x) (fun a _ => a = 235 ∨ a = 239) := bz_Upd.wr bz_Upd.refl (Or.inl rfl) (by unfold bz_isFix; simp [bz_cap, bz_fixL, bz_rowsL])
          have hF1 := hF.upd u1
          have e232 : ∀ n, (az_wr σ 235 y x).2 232 n = σ.2 232 n := fun n => az_wr_ne (by omega)
          have vy1 := (ez_isV (σ := az_wr σ 235 y x) hF1 y1 (by omega) (by rw [e232]; exact ay.1)).1 (by rw [e232]; exact ay.2.1.mpr qy)
          rw [vx.2 (fun q => qx (ax.2.1.mp q)), Option.bind_some, if_pos rfl, g4, Option.bind_some, bz_awr y1 (by omega), Option.bind_some, vy1, Option.bind_some, if_neg (by decide)]
          obtain ⟨k1, k2, k3⟩ := hI2.step hg hE hC (fun e => exy e.symm) (Or.inr ⟨hyy.symm, hxx.symm⟩) (Or.inl qy)
          obtain ⟨σ2, p1, p2, p3⟩ := ez_push (n := 2000000) (k30 := fz_X0_join_30 2000000 k) (r := 0) (it := it) x1 (by omega) y1 (by omega) i0 (by omega) 0 2000000 (az_wr σ 235 y x) (c - 1) hF1 (by omega) (by omega) (by omega) (by omega)
          rw [show az_w32 (0 - 1) = ((0 : Nat) : Int) - 1 from rfl, p1]
          have u2 := p2.weak (S' := fun a _ => a = 235 ∨ a = 239) (fun a k h => Or.inr h)
          have e235 : σ2.2 235 = dz_set (σ.2 235) y x := by
            rw [← ez_up_wr]; funext n; exact p2.2.2 235 n (by omega)
          have k1' : dz_Inv g C a b (σ2.2 235) (ez_S σ2 (c - 1 + ((0 : Nat) : Int))) := by
            rw [e235]
            refine k1.cong (fun u v => ?_)
            rw [p3 u v, ez_S_cong (σ := σ) (fun i _ _ => az_wr_ne (by omega))]
            exact ⟨fun h => h.elim (fun q => absurd qy q.1) (fun q => Or.inr q), fun h => h.elim (fun ⟨k, k0, k1, _⟩ => by omega) (fun q => Or.inr q)⟩
          obtain ⟨v, σ', f1, f2, f3⟩ := ih k σ2 (c - 1 + ((0 : Nat) : Int)) (it + 1) (hF1.upd u2) (hX.cong (fun n => by rw [p2.2.2 232 n (by omega)]; exact az_wr_ne (by omega)) (fun n => by rw [p2.2.2 238 n (by omega)]; exact az_wr_ne (by omega))) k1' (by rw [e235]; exact hZ _ y x hU ⟨y1, y2⟩ ⟨x1, x2⟩ rv ru (fun e => exy e.symm) (Or.inl rfl) hz) (by omega) (by rw [e235, k2]; omega) (by omega) (by omega) (by omega) (by omega) (by rw [e235, k2]; omega)
          exact ⟨v, σ', f1, (u1.trans u2).trans f2, f3⟩
        · rw [fr]
          exact ⟨0, σ, rfl, bz_Upd.refl, Or.inr ⟨rfl, σ.2 235, x, y, hU, hz, ⟨x1, x2⟩, ⟨y1, y2⟩, ru, rv, exy, cc, Or.inl ⟨rfl, Or.inr qy⟩⟩⟩
      · rw [vy.2 (fun q => qy (ay.2.1.mp q)), Option.bind_some, if_pos rfl, fr1]
        have es := (ax.2.2 qx).2.2 y ⟨y1, y2⟩ qy
        by_cases eq : σ.2 232 x = σ.2 232 y
        · have esy := es.mp eq
          rw [if_pos eq]
          unfold fz_X0_join_140
          have u1 : bz_Upd σ (az_wr σ 235 y x) (fun a _ => a = 235 ∨ a = 239) := bz_Upd.wr bz_Upd.refl (Or.inl rfl) (by unfold bz_isFix; simp [bz_cap, bz_fixL, bz_rowsL])
          have hF1 := hF.upd u1
          have e232 : ∀ n, (az_wr σ 235 y x).2 232 n = σ.2 232 n := fun n => az_wr_ne (by omega)
          have vy1 := (ez_isV (σ := az_wr σ 235 y x) hF1 y1 (by omega) (by rw [e232]; exact ay.1)).2 (by rw [e232]; exact fun q => qy (ay.2.1.mp q))
          have har := hg.2.2.1 x ⟨x1, x2⟩ qx
          have ear := (ax.2.2 qx).1
          have eary := hg.2.2.2 y x ⟨y1, y2⟩ ⟨x1, x2⟩ qy qx esy.symm
          rw [vx.2 (fun q => qx (ax.2.1.mp q)), Option.bind_some, if_pos rfl, g4, Option.bind_some, bz_awr y1 (by omega), Option.bind_some, vy1, Option.bind_some, if_pos rfl, bz_gref_wr (by omega), g1, Option.bind_some, bz_ard x1 (by rw [bz_ln_wr]; omega), Option.bind_some, e232, bz_arity ax.1, Option.bind_some, ear, az_w32_id (by omega) (by omega)]
          obtain ⟨k1, k2, k3⟩ := hI2.step hg hE hC (fun e => exy e.symm) (Or.inr ⟨hyy.symm, hxx.symm⟩) (Or.inr ⟨qy, qx, esy.symm⟩)
          obtain ⟨σ2, p1, p2, p3⟩ := ez_push (n := 2000000) (k30 := fz_X0_join_30 2000000 k) (r := r) (it := it) x1 (by omega) y1 (by omega) i0 (by omega) (dz_ar g x).toNat 2000000 (az_wr σ 235 y x) (c - 1) hF1 (by omega) (by omega) (by omega) (by omega)
          rw [show dz_ar g x - 1 = (((dz_ar g x).toNat : Nat) : Int) - 1 by omega, p1]
          have u2 := p2.weak (S' := fun a _ => a = 235 ∨ a = 239) (fun a k h => Or.inr h)
          have e235 : σ2.2 235 = dz_set (σ.2 235) y x := by
            rw [← ez_up_wr]; funext n; exact p2.2.2 235 n (by omega)
          have ec : (((dz_ar g x).toNat : Nat) : Int) = dz_ar g x := by omega
          have k1' : dz_Inv g C a b (σ2.2 235) (ez_S σ2 (c - 1 + (((dz_ar g x).toNat : Nat) : Int))) := by
            rw [e235]
            refine k1.cong (fun u v => ?_)
            rw [p3 u v, ez_S_cong (σ := σ) (fun i _ _ => az_wr_ne (by omega)), hxx, hyy]
            constructor
            · rintro (⟨-, j, j0, j1, h1, h2⟩ | h)
              · refine Or.inl ⟨j, j0, by omega, ?_, ?_⟩
                · rw [h1, az_wr_ne (by omega), (ax.2.2 qx).2.1 j j0 (by omega)]
                · rw [h2, az_wr_ne (by omega), (ay.2.2 qy).2.1 j j0 j1]
              · exact Or.inr h
            · rintro (⟨j, j0, j1, h1, h2⟩ | h)
              · refine Or.inl ⟨qy, j, j0, by omega, ?_, ?_⟩
                · rw [h1, az_wr_ne (by omega), (ax.2.2 qx).2.1 j j0 (by omega)]
                · rw [h2, az_wr_ne (by omega), (ay.2.2 qy).2.1 j j0 (by omega)]
              · exact Or.inr h
          obtain ⟨v, σ', f1, f2, f3⟩ := ih k σ2 (c - 1 + (((dz_ar g x).toNat : Nat) : Int)) (it + 1) (hF1.upd u2) (hX.cong (fun n => by rw [p2.2.2 232 n (by omega)]; exact az_wr_ne (by omega)) (fun n => by rw [p2.2.2 238 n (by omega)]; exact az_wr_ne (by omega))) k1' (by rw [e235]; exact hZ _ y x hU ⟨y1, y2⟩ ⟨x1, x2⟩ rv ru (fun e => exy e.symm) (Or.inr ⟨qy, qx⟩) hz) (by omega) (by rw [e235, k2]; omega) (by omega) (by omega) (by omega) (by omega) (by rw [e235, k2]; omega)
          exact ⟨v, σ', f1, (u1.trans u2).trans f2, f3⟩
        · rw [if_neg eq]
          exact ⟨0, σ, rfl, bz_Upd.refl, Or.inr ⟨rfl, σ.2 235, x, y, hU, hz, ⟨x1, x2⟩, ⟨y1, y2⟩, ru, rv, exy, cc, Or.inr ⟨qx, qy, fun e => eq (es.mpr e)⟩⟩⟩
