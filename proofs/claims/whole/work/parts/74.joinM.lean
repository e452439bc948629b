/-! the reference's joiner over a graph -/
def ez_M (σ : az_Hp) (g : dz_G) : Prop := bz_sd σ ∧ ∀ n, dz_In (dz_N g) n → bz_mc (σ.2 823 n) ∧ (1000 ≤ σ.2 823 n ↔ dz_iv g n) ∧ (¬ dz_iv g n → bz_tk σ (σ.2 823 n) = dz_ar g n ∧ (∀ k, 0 ≤ k → k < dz_ar g n → σ.2 824 (3 * n + k) = dz_kd g n k) ∧ σ.2 823 n = dz_sy g n)
theorem ez_M.cong {σ σ' : az_Hp} {g : dz_G} (h : ez_M σ g) (e0 : σ'.2 804 15 = σ.2 804 15) (e1 : ∀ n, σ'.2 823 n = σ.2 823 n) (e2 : ∀ n, σ'.2 824 n = σ.2 824 n) (e3 : ∀ n, σ'.2 811 n = σ.2 811 n) (e4 : ∀ n, σ'.2 812 n = σ.2 812 n) : ez_M σ' g := by
  unfold ez_M bz_sd bz_tk at h ⊢
  simp only [e0, e1, e2, e3, e4]
  exact h
/-- a change of classes, colours or scratch alone -/
def ez_RS (a k : Int) : Prop := a = 825 ∨ a = 826
theorem ez_M.upd {σ σ' : az_Hp} {g : dz_G} (h : ez_M σ g) (hU : bz_Upd σ σ' ez_RS) : ez_M σ' g := h.cong (hU.2.2 _ _ (by unfold ez_RS; omega)) (fun n => hU.2.2 _ _ (by unfold ez_RS; omega)) (fun n => hU.2.2 _ _ (by unfold ez_RS; omega)) (fun n => hU.2.2 _ _ (by unfold ez_RS; omega)) (fun n => hU.2.2 _ _ (by unfold ez_RS; omega))
theorem ez_findL {σ : az_Hp} {N : Int} (hF : bz_Fx σ) (hU : dz_UF (σ.2 825) N) (hN : N ≤ 120) {h : Int → Nat} (h3 : ∀ n, dz_In N n → σ.2 825 n ≠ n → h n < h (σ.2 825 n)) (h4 : ∀ n, dz_In N n → h n ≤ dz_nt (σ.2 825) N.toNat) {n : Nat} : ∀ (d k : Nat) (t : Int), dz_In N t → dz_nt (σ.2 825) N.toNat ≤ h t + d → d < k → fz_X11_find_2 n k σ 804 t = some (dz_tp (σ.2 825) t) := by
  have g := fx_804_41 hF
  have l := ln_825 hF
  intro d
  induction d with
  | zero =>
    intro k t ht hd hk
    obtain ⟨k, rfl⟩ : ∃ k', k = k' + 1 := ⟨k - 1, by omega⟩
    have e : σ.2 825 t = t := by
      by_cases e : σ.2 825 t = t
      · exact e
      · have x1 := h3 t ht e
        have x2 := h4 _ (hU.2.2.1 t ht)
        omega
    have r : az_ard σ 825 t = some (σ.2 825 t) := bz_ard ht.1 (by have := ht.2; omega)
    unfold fz_X11_find_2
    simp only [g, r, Option.bind_some]
    rw [if_pos e, dz_tp_root e]
  | succ d ih =>
    intro k t ht hd hk
    obtain ⟨k, rfl⟩ : ∃ k', k = k' + 1 := ⟨k - 1, by omega⟩
    have r : az_ard σ 825 t = some (σ.2 825 t) := bz_ard ht.1 (by have := ht.2; omega)
    unfold fz_X11_find_2
    simp only [g, r, Option.bind_some]
    by_cases e : σ.2 825 t = t
    · rw [if_pos e, dz_tp_root e]
    · have x1 := h3 t ht e
      rw [if_neg e, ih k (σ.2 825 t) (hU.2.2.1 t ht) (by omega) (by omega), hU.up ht]
theorem ez_find {σ : az_Hp} {N t : Int} (hF : bz_Fx σ) (hU : dz_UF (σ.2 825) N) (hN : N ≤ 120) (ht : dz_In N t) : fz_X11_find 2000000 σ 804 t = some (dz_tp (σ.2 825) t) := by
  have hU0 := hU
  obtain ⟨u0, u1, u2, h, h3, h4⟩ := hU
  have := dz_nt_le (up := σ.2 825) N.toNat
  unfold fz_X11_find
  exact ez_findL hF hU0 hN h3 h4 (dz_nt (σ.2 825) N.toNat) 2000000 t ht (by omega) (by omega)
theorem ez_isVarM {σ : az_Hp} {m : Int} : (1000 ≤ m → fz_X11_isVar σ m = some 1) ∧ (¬ 1000 ≤ m → fz_X11_isVar σ m = some 0) := by
  unfold fz_X11_isVar
  constructor
  · intro h; rw [if_neg (by omega)]
  · intro h; rw [if_pos (by omega)]
/-- what a node of the graph is to the reference -/
theorem ez_M.rd {σ : az_Hp} {g : dz_G} (hg : dz_ok g) (hF : bz_Fx σ) (h : ez_M σ g) {n : Int} (hn : dz_In (dz_N g) n) : az_ard σ 823 n = some (σ.2 823 n) ∧ (¬ dz_iv g n → fz_X11_takes σ 804 (σ.2 823 n) = some (dz_ar g n)) ∧ (dz_iv g n → fz_X11_takes σ 804 (σ.2 823 n) = some 0) ∧ (¬ dz_iv g n → ∀ k, 0 ≤ k → k < dz_ar g n → az_ard σ 824 (az_w32 (az_w32 (3 * n) + k)) = some (dz_kd g n k)) := by
  have hN := hg.2.1
  have l1 := ln_823 hF
  have l2 := ln_824 hF
  have n0 := hn.1
  have n1 := hn.2
  obtain ⟨m1, m2, m3⟩ := h.2 n hn
  refine ⟨bz_ard n0 (by omega), fun nv => ?_, fun v => ?_, fun nv k k0 k1 => ?_⟩
  · rw [bz_takes hF h.1 m1, (m3 nv).1]
  · rw [bz_takes hF h.1 m1]
    unfold bz_tk
    rw [if_pos (m2.mpr v)]
  · have ar := hg.2.2.1 n hn nv
    rw [az_w32_id (z := 3 * n) (by omega) (by omega), az_w32_id (by omega) (by omega), bz_ard (by omega) (by omega), (m3 nv).2.1 k k0 k1]
theorem ez_joins {g : dz_G} (hg : dz_ok g) {C : Int → Int → Prop} (hE : dz_Eq C) (hC : dz_Cd g C) {a b : Int} : ∀ (D : Nat) (σ : az_Hp) (u v : Int) (S : Int → Int → Prop), bz_Fx σ → ez_M σ g → dz_Inv g C a b (σ.2 825) (fun x y => (x = u ∧ y = v) ∨ S x y) → (dz_N g).toNat - dz_nt (σ.2 825) (dz_N g).toNat < D →
    ∃ r σ', fz_X11_joins 2000000 D σ 804 u v = some (r, σ') ∧ bz_Upd σ σ' ez_RS ∧ (∀ n, ¬ dz_In (dz_N g) n → σ'.2 825 n = σ.2 825 n) ∧ ((r = 1 ∧ dz_Inv g C a b (σ'.2 825) S ∧ dz_nt (σ.2 825) (dz_N g).toNat ≤ dz_nt (σ'.2 825) (dz_N g).toNat) ∨ (r = 0 ∧ ∃ x y, dz_In (dz_N g) x ∧ dz_In (dz_N g) y ∧ C x y ∧ ¬ dz_iv g x ∧ ¬ dz_iv g y ∧ dz_sy g x ≠ dz_sy g y)) := by
  have hN := hg.2.1
  have hN0 := hg.1
  intro D
  induction D with
  | zero => intro σ u v S hF hM hI hD; omega
  | succ D ihD =>
    intro σ u v S hF hM hI hD
    obtain ⟨tu, tv, ru, rv, cc⟩ := hI.tops hE
    have hU := hI.1
    have iu := (hI.2.2.1 _ _ (Or.inl ⟨rfl, rfl⟩)).1
    have iv := (hI.2.2.1 _ _ (Or.inl ⟨rfl, rfl⟩)).2.1
    have t1 := ez_find hF hU hN iu
    have t2 := ez_find hF hU hN iv
    generalize hxx : dz_tp (σ.2 825) u = x at *
    generalize hyy : dz_tp (σ.2 825) v = y at *
    obtain ⟨px1, px2, px3, px4⟩ := hM.rd hg hF tu
    obtain ⟨py1, py2, py3, py4⟩ := hM.rd hg hF tv
    have mx := (hM.2 x tu)
    have my := (hM.2 y tv)
    have g39 := fx_804_39 hF
    have g41 := fx_804_41 hF
    have l41 := ln_825 hF
    have x0 := tu.1
    have x1 := tu.2
    have y0 := tv.1
    have y1 := tv.2
    have uw : ∀ p q, bz_Upd σ (az_wr σ 825 p q) ez_RS := fun p q => bz_Upd.wr bz_Upd.refl (Or.inl rfl) (by unfold bz_isFix; simp [bz_cap, bz_fixL, bz_rowsL])
    have wr1 : az_awr σ 825 x y = some (az_wr σ 825 x y) := bz_awr x0 (by omega)
    have wr2 : az_awr σ 825 y x = some (az_wr σ 825 y x) := bz_awr y0 (by omega)
    unfold fz_X11_joins fz_X11_joins_e
    rw [t1, Option.bind_some, t2, Option.bind_some]
    by_cases exy : x = y
    · rw [if_pos exy]
      exact ⟨1, σ, rfl, bz_Upd.refl, fun _ _ => rfl, Or.inl ⟨rfl, hI.skip (by rw [hxx, hyy]; exact exy), Nat.le_refl _⟩⟩
    rw [if_neg exy]
    simp only [g39, px1, py1, Option.bind_some]
    by_cases qx : dz_iv g x
    · rw [(ez_isVarM).1 (mx.2.1.mpr qx), Option.bind_some, if_neg (by decide), g41, Option.bind_some, wr1, Option.bind_some]
      obtain ⟨k1, k2, k3⟩ := hI.step hg hE hC exy (Or.inl ⟨hxx.symm, hyy.symm⟩) (Or.inl qx)
      refine ⟨1, _, rfl, uw x y, fun n hn => az_wr_ne (fun q => hn (by rw [q.2]; exact tu)), Or.inl ⟨rfl, ?_, ?_⟩⟩
      · rw [ez_mk_wr]
        exact k1.cong (fun u v => ⟨fun h => h.elim (fun q => absurd qx q.1) id, fun h => Or.inr h⟩)
      · rw [ez_mk_wr, k2]; omega
    rw [(ez_isVarM).2 (fun q => qx (mx.2.1.mp q)), Option.bind_some, if_pos rfl]
    by_cases qy : dz_iv g y
    · rw [(ez_isVarM).1 (my.2.1.mpr qy), Option.bind_some, if_neg (by decide), g41, Option.bind_some, wr2, Option.bind_some]
      obtain ⟨k1, k2, k3⟩ := hI.step hg hE hC (fun e => exy e.symm) (Or.inr ⟨hyy.symm, hxx.symm⟩) (Or.inl qy)
      refine ⟨1, _, rfl, uw y x, fun n hn => az_wr_ne (fun q => hn (by rw [q.2]; exact tv)), Or.inl ⟨rfl, ?_, ?_⟩⟩
      · rw [ez_mk_wr]
        exact k1.cong (fun u v => ⟨fun h => h.elim (fun q => absurd qy q.1) id, fun h => Or.inr h⟩)
      · rw [ez_mk_wr, k2]; omega
    rw [(ez_isVarM).2 (fun q => qy (my.2.1.mp q)), Option.bind_some, if_pos rfl]
    have sx := (mx.2.2 qx).2.2
    have sy := (my.2.2 qy).2.2
    by_cases eq : σ.2 823 x = σ.2 823 y
    · have esy : dz_sy g x = dz_sy g y := by rw [← sx, ← sy]; exact eq
      have ear := hg.2.2.2 x y tu tv qx qy esy
      rw [if_pos eq, g41, Option.bind_some, wr1, Option.bind_some]
      obtain ⟨k1, k2, k3⟩ := hI.step hg hE hC exy (Or.inl ⟨hxx.symm, hyy.symm⟩) (Or.inr ⟨qx, qy, esy⟩)
      have har := hg.2.2.1 x tu qx
      -- the loop over the arguments
      have loop : ∀ (d k : Nat) (τ : az_Hp) (i : Int), d < k → bz_Upd σ τ ez_RS → (∀ n, ¬ dz_In (dz_N g) n → τ.2 825 n = σ.2 825 n) → 0 ≤ i → i + d = dz_ar g x → dz_nt (σ.2 825) (dz_N g).toNat < dz_nt (τ.2 825) (dz_N g).toNat → dz_Inv g C a b (τ.2 825) (fun s t => (∃ k, i ≤ k ∧ k < dz_ar g x ∧ s = dz_kd g x k ∧ t = dz_kd g y k) ∨ S s t) →
          ∃ r σ', fz_X11_joins_95 2000000 (fz_X11_joins 2000000 D) k τ 804 x y i = some (r, σ') ∧ bz_Upd σ σ' ez_RS ∧ (∀ n, ¬ dz_In (dz_N g) n → σ'.2 825 n = σ.2 825 n) ∧ ((r = 1 ∧ dz_Inv g C a b (σ'.2 825) S ∧ dz_nt (σ.2 825) (dz_N g).toNat ≤ dz_nt (σ'.2 825) (dz_N g).toNat) ∨ (r = 0 ∧ ∃ x y, dz_In (dz_N g) x ∧ dz_In (dz_N g) y ∧ C x y ∧ ¬ dz_iv g x ∧ ¬ dz_iv g y ∧ dz_sy g x ≠ dz_sy g y)) := by
        intro d
        induction d with
        | zero =>
          intro k τ i hk hu hou i0 hi hnt hinv
          obtain ⟨k, rfl⟩ : ∃ k', k = k' + 1 := ⟨k - 1, by omega⟩
          have hF' := hF.upd hu
          obtain ⟨qx1, qx2, qx3, qx4⟩ := (hM.upd hu).rd hg hF' tu
          refine ⟨1, τ, ?_, hu, hou, Or.inl ⟨rfl, hinv.cong (fun s t => ⟨fun h => h.elim (fun ⟨k, k0, k1, _⟩ => by omega) id, fun h => Or.inr h⟩), by omega⟩⟩
          unfold fz_X11_joins_95
          rw [fx_804_39 hF', Option.bind_some, qx1, Option.bind_some, qx2 qx, Option.bind_some, if_neg (by omega)]
        | succ d ih =>
          intro k τ i hk hu hou i0 hi hnt hinv
          obtain ⟨k, rfl⟩ : ∃ k', k = k' + 1 := ⟨k - 1, by omega⟩
          have hF' := hF.upd hu
          obtain ⟨qx1, qx2, qx3, qx4⟩ := (hM.upd hu).rd hg hF' tu
          obtain ⟨qy1, qy2, qy3, qy4⟩ := (hM.upd hu).rd hg hF' tv
          have g40 := fx_804_40 hF'
          have hinv2 : dz_Inv g C a b (τ.2 825) (fun s t => (s = dz_kd g x i ∧ t = dz_kd g y i) ∨ ((∃ k, i + 1 ≤ k ∧ k < dz_ar g x ∧ s = dz_kd g x k ∧ t = dz_kd g y k) ∨ S s t)) := by
            refine hinv.cong (fun s t => ⟨fun h => ?_, fun h => ?_⟩)
            · rcases h with ⟨k, k0, k1, e1, e2⟩ | h
              · by_cases ek : k = i
                · subst ek; exact Or.inl ⟨e1, e2⟩
                · exact Or.inr (Or.inl ⟨k, by omega, k1, e1, e2⟩)
              · exact Or.inr (Or.inr h)
            · rcases h with ⟨e1, e2⟩ | ⟨k, k0, k1, e1, e2⟩ | h
              · exact Or.inl ⟨i, by omega, by omega, e1, e2⟩
              · exact Or.inl ⟨k, by omega, k1, e1, e2⟩
              · exact Or.inr h
          obtain ⟨r, τ', f1, f2, f2', f3⟩ := ihD τ (dz_kd g x i) (dz_kd g y i) _ hF' (hM.upd hu) hinv2 (by omega)
          unfold fz_X11_joins_95
          rw [fx_804_39 hF', Option.bind_some, qx1, Option.bind_some, qx2 qx, Option.bind_some, if_pos (by omega), g40, Option.bind_some, qx4 qx i i0 (by omega), Option.bind_some, Option.bind_some, qy4 qy i i0 (by omega), Option.bind_some, f1, Option.bind_some]
          rcases f3 with ⟨e, h1, h2⟩ | ⟨e, h⟩
          · rw [if_neg (by simp only; omega), az_w32_id (by omega) (by omega)]
            exact ih k τ' (i + 1) (by omega) (hu.trans f2) (fun n hn => (f2' n hn).trans (hou n hn)) (by omega) (by omega) (by omega) h1
          · rw [if_pos (by simp only; omega)]
            exact ⟨0, τ', rfl, hu.trans f2, fun n hn => (f2' n hn).trans (hou n hn), Or.inr ⟨rfl, h⟩⟩
      refine loop (dz_ar g x).toNat 2000000 (az_wr σ 825 x y) 0 (by omega) (uw x y) (fun n hn => az_wr_ne (fun q => hn (by rw [q.2]; exact tu))) (by omega) (by omega) (by rw [ez_mk_wr, k2]; omega) ?_
      rw [ez_mk_wr]
      refine k1.cong (fun s t => ?_)
      rw [hxx, hyy]
      exact ⟨fun h => h.elim (fun ⟨_, k, k0, k1, e1, e2⟩ => Or.inl ⟨k, k0, k1, e1, e2⟩) Or.inr, fun h => h.elim (fun ⟨k, k0, k1, e1, e2⟩ => Or.inl ⟨qx, k, k0, k1, e1, e2⟩) Or.inr⟩
    · rw [if_neg eq]
      exact ⟨0, σ, rfl, bz_Upd.refl, fun _ _ => rfl, Or.inr ⟨rfl, x, y, tu, tv, cc, qx, qy, fun e => eq (by rw [sx, sy]; exact e)⟩⟩
theorem ez_joins0 {g : dz_G} (hg : dz_ok g) {σ : az_Hp} {a b : Int} (hF : bz_Fx σ) (hM : ez_M σ g) (hid : ∀ n, dz_In (dz_N g) n → σ.2 825 n = n) (ha : dz_In (dz_N g) a) (hb : dz_In (dz_N g) b) :
    ∃ v σ', fz_X11_joins 2000000 200 σ 804 a b = some (v, σ') ∧ bz_Upd σ σ' ez_RS ∧ (∀ n, ¬ dz_In (dz_N g) n → σ'.2 825 n = σ.2 825 n) ∧ ((v = 1 ∧ dz_Inv g (dz_Cl g a b) a b (σ'.2 825) (fun _ _ => False)) ∨ (v = 0 ∧ dz_Clash g a b)) := by
  have hN := hg.2.1
  obtain ⟨r, σ', f1, f2, f2', f3⟩ := ez_joins hg dz_Cl.eq dz_Cl.cd 200 σ a b (fun _ _ => False) hF hM (dz_Inv.start hg ha hb hid) (by omega)
  refine ⟨r, σ', f1, f2, f2', ?_⟩
  rcases f3 with ⟨e, h, -⟩ | ⟨e, x, y, h⟩
  · exact Or.inl ⟨e, h⟩
  · exact Or.inr ⟨e, x, y, h⟩
/-! circles -/
def ez_DI (g : dz_G) (up col : Int → Int) (ρ : Int → Nat) : Prop := (∀ n, dz_In (dz_N g) n → col n = 0 ∨ col n = 1 ∨ col n = 2) ∧ ∀ t, dz_In (dz_N g) t → up t = t → col t = 2 → ¬ dz_iv g t → ∀ k, 0 ≤ k → k < dz_ar g t → col (dz_tp up (dz_kd g t k)) = 2 ∧ ρ (dz_tp up (dz_kd g t k)) < ρ t
/-- how colours change -/
def ez_CC (g : dz_G) (c c' : Int → Int) : Prop := (∀ n, dz_In (dz_N g) n → (c n = 1 ↔ c' n = 1)) ∧ (∀ n, dz_In (dz_N g) n → c n = 2 → c' n = 2) ∧ dz_ct c' 0 (dz_N g).toNat ≤ dz_ct c 0 (dz_N g).toNat
theorem ez_isRound {g : dz_G} (hg : dz_ok g) : ∀ (D : Nat) (σ : az_Hp) (u : Int) (ρ : Int → Nat), bz_Fx σ → ez_M σ g → dz_UF (σ.2 825) (dz_N g) → dz_In (dz_N g) u → ez_DI g (σ.2 825) (σ.2 826) ρ → dz_ct (σ.2 826) 0 (dz_N g).toNat < D → (∀ ρ0, dz_RK g (σ.2 825) ρ0 → ∀ t, dz_In (dz_N g) t → σ.2 826 t = 1 → ρ0 (dz_tp (σ.2 825) u) < ρ0 t) →
    ∃ r σ', fz_X11_isRound 2000000 D σ 804 u = some (r, σ') ∧ bz_Upd σ σ' (fun a _ => a = 826) ∧ ((r = 0 ∧ (∃ ρ', ez_DI g (σ.2 825) (σ'.2 826) ρ') ∧ σ'.2 826 (dz_tp (σ.2 825) u) = 2 ∧ ez_CC g (σ.2 826) (σ'.2 826)) ∨ (r = 1 ∧ ¬ ∃ ρ, dz_RK g (σ.2 825) ρ)) := by
  have hN := hg.2.1
  have hN0 := hg.1
  intro D
  induction D with
  | zero => intro σ u ρ hF hM hU hu hD hc hp; omega
  | succ D ihD =>
    intro σ u ρ hF hM hU hu hD hc hp
    have t1 := ez_find hF hU hN hu
    have tt := hU.top hu
    generalize hx : dz_tp (σ.2 825) u = x at *
    obtain ⟨xr, xi⟩ := tt
    have x0 := xi.1
    have x1 := xi.2
    have g42 := fx_804_42 hF
    have l42 := ln_826 hF
    have r42 : az_ard σ 826 x = some (σ.2 826 x) := bz_ard x0 (by omega)
    have w42 : ∀ v, az_awr σ 826 x v = some (az_wr σ 826 x v) := fun v => bz_awr x0 (by omega)
    unfold fz_X11_isRound fz_X11_isRound_e
    rw [t1, Option.bind_some]
    simp only [g42, r42, w42, Option.bind_some]
    by_cases c1 : σ.2 826 x = 1
    · rw [if_pos c1]
      refine ⟨1, σ, rfl, bz_Upd.refl, Or.inr ⟨rfl, ?_⟩⟩
      rintro ⟨ρ0, hr⟩
      have := hp ρ0 hr x xi c1
      omega
    rw [if_neg c1]
    by_cases c2 : σ.2 826 x = 2
    · rw [if_pos c2]
      exact ⟨0, σ, rfl, bz_Upd.refl, Or.inl ⟨rfl, ⟨ρ, hD⟩, c2, fun n _ => Iff.rfl, fun n _ h => h, Nat.le_refl _⟩⟩
    rw [if_neg c2]
    have c0 : σ.2 826 x = 0 := by have := hD.1 x xi; omega
    have ct0 := dz_ct_set (f := σ.2 826) (c := 0) (a := x) (b := 1) x0 (dz_N g).toNat (by omega)
    rw [if_pos c0, if_neg (by decide)] at ct0
    -- the loop over the arguments: x has colour 1 throughout
    have loop : ∀ (d k : Nat) (τ : az_Hp) (i : Int), d < k → bz_Upd σ τ (fun a _ => a = 826) → 0 ≤ i → (dz_iv g x → d = 0) → (¬ dz_iv g x → i + d = dz_ar g x) → (∃ ρ, ez_DI g (σ.2 825) (τ.2 826) ρ) → ez_CC g (dz_set (σ.2 826) x 1) (τ.2 826) → (¬ dz_iv g x → ∀ k, 0 ≤ k → k < i → τ.2 826 (dz_tp (σ.2 825) (dz_kd g x k)) = 2) →
        ∃ r σ', fz_X11_isRound_39 2000000 (fz_X11_isRound 2000000 D) k τ 804 x i = some (r, σ') ∧ bz_Upd σ σ' (fun a _ => a = 826) ∧ ((r = 0 ∧ (∃ ρ', ez_DI g (σ.2 825) (σ'.2 826) ρ') ∧ σ'.2 826 x = 2 ∧ ez_CC g (σ.2 826) (σ'.2 826)) ∨ (r = 1 ∧ ¬ ∃ ρ, dz_RK g (σ.2 825) ρ)) := by
      intro d
      induction d with
      | zero =>
        intro k τ i hk hu i0 hv hi hDI hCC hdone
        obtain ⟨k, rfl⟩ : ∃ k', k = k' + 1 := ⟨k - 1, by omega⟩
        have hF' := hF.upd hu
        have hM' := hM.upd (hu.weak (fun a k h => Or.inr h))
        obtain ⟨p1, p2, p3, p4⟩ := hM'.rd hg hF' xi
        have l' := ln_826 hF'
        have run : fz_X11_isRound_39 2000000 (fz_X11_isRound 2000000 D) (k + 1) τ 804 x i = some (0, az_wr τ 826 x 2) := by
          unfold fz_X11_isRound_39
          rw [fx_804_39 hF', Option.bind_some, p1, Option.bind_some]
          by_cases qv : dz_iv g x
          · rw [p3 qv, Option.bind_some, if_neg (by omega), fx_804_42 hF', Option.bind_some, bz_awr x0 (by omega), Option.bind_some]
          · rw [p2 qv, Option.bind_some, if_neg (by have := hi qv; omega), fx_804_42 hF', Option.bind_some, bz_awr x0 (by omega), Option.bind_some]
        have u2 : bz_Upd σ (az_wr τ 826 x 2) (fun a _ => a = 826) := bz_Upd.wr hu rfl (by unfold bz_isFix; simp [bz_cap, bz_fixL, bz_rowsL])
        obtain ⟨ρ1, hDI⟩ := hDI
        have xc1 : τ.2 826 x = 1 := (hCC.1 x xi).mp (by unfold dz_set; rw [if_pos rfl])
        refine ⟨0, _, run, u2, Or.inl ⟨rfl, ?_, az_wr_same, ?_⟩⟩
        · rw [ez_mk_wr]
          obtain ⟨q1, q2⟩ := hDI
          refine ⟨fun y => if y = x then 1 + ρ1 (dz_tp (σ.2 825) (dz_kd g x 0)) + ρ1 (dz_tp (σ.2 825) (dz_kd g x 1)) + ρ1 (dz_tp (σ.2 825) (dz_kd g x 2)) else ρ1 y, fun n hn => ?_, fun y hy uy cy ny k k0 k1 => ?_⟩
          · unfold dz_set
            by_cases e : n = x
            · rw [if_pos e]; omega
            · rw [if_neg e]; exact q1 n hn
          · have st : ∀ z, τ.2 826 z = 2 → dz_set (τ.2 826) x 2 z = 2 := fun z hz => by
              unfold dz_set
              split
              · rfl
              · exact hz
            have nx : ∀ z, τ.2 826 z = 2 → z ≠ x := fun z hz e => by rw [e, xc1] at hz; omega
            by_cases e : y = x
            · subst e
              have m := hdone ny k k0 (by have := hi ny; omega)
              refine ⟨st _ m, ?_⟩
              simp only [if_true, if_neg (nx _ m)]
              have ar3 := (hg.2.2.1 y hy ny).2.1
              have : k = 0 ∨ k = 1 ∨ k = 2 := by omega
              rcases this with rfl | rfl | rfl <;> omega
            · have cy' : τ.2 826 y = 2 := by
                unfold dz_set at cy
                rw [if_neg e] at cy
                exact cy
              obtain ⟨m, l⟩ := q2 y hy uy cy' ny k k0 k1
              refine ⟨st _ m, ?_⟩
              simp only [if_neg e, if_neg (nx _ m)]
              exact l
        · rw [ez_mk_wr]
          obtain ⟨q1, q2, q3⟩ := hCC
          have ct2 := dz_ct_set (f := τ.2 826) (c := 0) (a := x) (b := 2) x0 (dz_N g).toNat (by omega)
          rw [if_neg (by omega), if_neg (by decide)] at ct2
          refine ⟨fun n hn => ?_, fun n hn h2 => ?_, by omega⟩
          · unfold dz_set at q1 ⊢
            by_cases e : n = x
            · rw [if_pos e, e]; omega
            · have := q1 n hn
              rw [if_neg e] at this ⊢
              exact this
          · unfold dz_set at q2 ⊢
            by_cases e : n = x
            · rw [if_pos e]
            · have := q2 n hn
              rw [if_neg e] at this ⊢
              exact this h2
      | succ d ih =>
        intro k τ i hk hu i0 hv hi hDI hCC hdone
        obtain ⟨k, rfl⟩ : ∃ k', k = k' + 1 := ⟨k - 1, by omega⟩
        have qv : ¬ dz_iv g x := fun h => by have := hv h; omega
        have hi' := hi qv
        have har3 := (hg.2.2.1 x xi qv).2.1
        have hF' := hF.upd hu
        have hM' := hM.upd (hu.weak (fun a k h => Or.inr h))
        obtain ⟨p1, p2, p3, p4⟩ := hM'.rd hg hF' xi
        have e825 : τ.2 825 = σ.2 825 := funext fun n => hu.2.2 825 n (by omega)
        have ik := (hg.2.2.1 x xi qv).2.2 i i0 (by omega)
        obtain ⟨ρ1, hDI⟩ := hDI
        have hcx := hCC
        obtain ⟨q1, q2, q3⟩ := hCC
        obtain ⟨r, τ', f1, f2, f3⟩ := ihD τ (dz_kd g x i) ρ1 hF' hM' (by rw [e825]; exact hU) ik (by rw [e825]; exact hDI) (by omega) (by
          intro ρ0 hr t ht ct
          rw [e825] at hr ⊢
          have lt := hr x xi xr qv i i0 (by omega)
          have ct' := (q1 t ht).mpr ct
          unfold dz_set at ct'
          by_cases e : t = x
          · rw [e]; exact lt
          · rw [if_neg e] at ct'
            have := hp ρ0 hr t ht ct'
            omega)
        unfold fz_X11_isRound_39
        rw [fx_804_39 hF', Option.bind_some, p1, Option.bind_some, p2 qv, Option.bind_some, if_pos (by omega), fx_804_40 hF', Option.bind_some, p4 qv i i0 (by omega), Option.bind_some, f1, Option.bind_some]
        rw [e825] at f3
        rcases f3 with ⟨e, h1, h2, h3⟩ | ⟨e, h⟩
        · rw [if_pos (by simp only; exact e), az_w32_id (by omega) (by omega)]
          have u2 := hu.trans f2
          obtain ⟨k1, k2, k3⟩ := h3
          refine ih k τ' (i + 1) (by omega) u2 (by omega) (fun h => absurd h qv) (fun _ => by omega) h1 ⟨fun n hn => (q1 n hn).trans (k1 n hn), fun n hn h => k2 n hn (q2 n hn h), by omega⟩ (fun _ k k0 k1' => ?_)
          by_cases ek : k = i
          · subst ek; exact h2
          · exact k2 _ (hU.top ((hg.2.2.1 x xi qv).2.2 k k0 (by omega))).2 (hdone qv k k0 (by omega))
        · rw [if_neg (by simp only; omega)]
          exact ⟨1, τ', rfl, hu.trans f2, Or.inr ⟨rfl, h⟩⟩
    have u1 : bz_Upd σ (az_wr σ 826 x 1) (fun a _ => a = 826) := bz_Upd.wr bz_Upd.refl rfl (by unfold bz_isFix; simp [bz_cap, bz_fixL, bz_rowsL])
    have ar0 : ¬ dz_iv g x → 0 ≤ dz_ar g x ∧ dz_ar g x ≤ 3 := fun h => ⟨(hg.2.2.1 x xi h).1, (hg.2.2.1 x xi h).2.1⟩
    have start : (∃ ρ', ez_DI g (σ.2 825) ((az_wr σ 826 x 1).2 826) ρ') ∧ ez_CC g (dz_set (σ.2 826) x 1) ((az_wr σ 826 x 1).2 826) := by
      rw [ez_mk_wr]
      refine ⟨⟨ρ, fun n hn => ?_, fun y hy uy cy ny k k0 k1 => ?_⟩, fun n _ => Iff.rfl, fun n _ h => h, Nat.le_refl _⟩
      · unfold dz_set
        by_cases e : n = x
        · rw [if_pos e]; omega
        · rw [if_neg e]; exact hD.1 n hn
      · have ey : y ≠ x := fun e => by
          unfold dz_set at cy
          rw [if_pos e] at cy
          omega
        have cy' : σ.2 826 y = 2 := by
          unfold dz_set at cy
          rw [if_neg ey] at cy
          exact cy
        obtain ⟨m, l⟩ := hD.2 y hy uy cy' ny k k0 k1
        refine ⟨?_, l⟩
        unfold dz_set
        rw [if_neg (fun e => by rw [e, c0] at m; omega)]
        exact m
    by_cases qv : dz_iv g x
    · exact loop 0 2000000 (az_wr σ 826 x 1) 0 (by omega) u1 (by omega) (fun _ => rfl) (fun h => absurd qv h) start.1 start.2 (fun _ k k0 k1 => by omega)
    · have := ar0 qv
      exact loop (dz_ar g x).toNat 2000000 (az_wr σ 826 x 1) 0 (by omega) u1 (by omega) (fun h => absurd h qv) (fun _ => by omega) start.1 start.2 (fun _ k k0 k1 => by omega)
/-- every node lies under a or b -/
def dz_Rc (g : dz_G) (a b : Int) : Prop := ∀ V : Int → Prop, V a → V b → (∀ x, dz_In (dz_N g) x → ¬ dz_iv g x → V x → ∀ k, 0 ≤ k → k < dz_ar g x → V (dz_kd g x k)) → ∀ n, dz_In (dz_N g) n → V n
theorem ez_clrM {N c : Int} (hN : N ≤ c) (hc : c ≤ 300) {u : Int} : ∀ (d k : Nat) (σ : az_Hp) (i : Int), d < k → bz_Fx σ → σ.2 804 49 = c → 0 ≤ i → i + d = c → (∀ t, 0 ≤ t → t < i → σ.2 826 t = 0) → ∃ σ', fz_X11_hasCircle_2 2000000 k σ 804 u i = ((fz_X11_isRound 2000000 200 σ' 804 u).bind fun r1 => (if r1.1 = 0 ∨ r1.1 = 1 then some (r1.1, r1.2) else none)) ∧ bz_Upd σ σ' (fun a _ => a = 826) ∧ ∀ t, dz_In N t → σ'.2 826 t = 0 := by
  intro d
  induction d with
  | zero =>
    intro k σ i hk hF hcc i0 hi hz
    obtain ⟨k, rfl⟩ : ∃ k', k = k' + 1 := ⟨k - 1, by omega⟩
    refine ⟨σ, ?_, bz_Upd.refl, fun t ht => hz t ht.1 (by have := ht.2; omega)⟩
    conv => lhs; unfold fz_X11_hasCircle_2
    rw [if_neg (by omega)]
  | succ d ih =>
    intro k σ i hk hF hcc i0 hi hz
    obtain ⟨k, rfl⟩ : ∃ k', k = k' + 1 := ⟨k - 1, by omega⟩
    have g6 := fx_804_42 hF
    have l6 := ln_826 hF
    have u1 : bz_Upd σ (az_wr σ 826 i 0) (fun a _ => a = 826) := bz_Upd.wr bz_Upd.refl rfl (by unfold bz_isFix; simp [bz_cap, bz_fixL, bz_rowsL])
    obtain ⟨σ', f1, f2, f3⟩ := ih k (az_wr σ 826 i 0) (i + 1) (by omega) (hF.upd u1) (by rw [az_wr_ne (by omega)]; exact hcc) (by omega) (by omega) (fun t t0 t1 => by
      by_cases e : t = i
      · subst e; exact az_wr_same
      · rw [az_wr_ne (by omega)]; exact hz t t0 (by omega))
    refine ⟨σ', ?_, u1.trans f2, f3⟩
    rw [← f1]
    conv => lhs; unfold fz_X11_hasCircle_2
    rw [if_pos (by omega), g6, Option.bind_some, bz_awr i0 (by omega), Option.bind_some, az_w32_id (by omega) (by omega)]
theorem ez_hasCircleM {g : dz_G} (hg : dz_ok g) {σ : az_Hp} {a b : Int} (hF : bz_Fx σ) (hM : ez_M σ g) (hI : dz_Inv g (dz_Cl g a b) a b (σ.2 825) (fun _ _ => False)) (ha : dz_In (dz_N g) a) (hb : dz_In (dz_N g) b) (hR : dz_Rc g a b) (hc : dz_N g ≤ σ.2 804 49) (hc1 : σ.2 804 49 ≤ 300) :
    ∃ r σ', fz_X11_hasCircle 2000000 σ 804 a = some (r, σ') ∧ bz_Upd σ σ' ez_RS ∧ (∀ n, σ'.2 825 n = σ.2 825 n) ∧ ((r = 0 ∧ dz_NC g a b) ∨ (r = 1 ∧ ¬ dz_NC g a b)) := by
  have hN := hg.2.1
  have hN0 := hg.1
  have hU := hI.1
  obtain ⟨σ1, f1, f2, f3⟩ := ez_clrM (N := dz_N g) (c := σ.2 804 49) hc hc1 (u := a) (σ.2 804 49).toNat 2000000 σ 0 (by omega) hF rfl (by omega) (by omega) (fun t t0 t1 => by omega)
  have e825 : σ1.2 825 = σ.2 825 := funext fun n => f2.2.2 825 n (by omega)
  obtain ⟨r, σ2, s1, s2, s3⟩ := ez_isRound hg 200 σ1 a (fun _ => 0) (hF.upd f2) (hM.upd (f2.weak (fun a k h => Or.inr h))) (by rw [e825]; exact hU) ha ⟨fun n hn => Or.inl (f3 n hn), fun t ht _ mt => by rw [f3 t ht] at mt; omega⟩ (by have := dz_ct_le (f := σ1.2 826) (c := 0) (dz_N g).toNat; omega) (fun ρ0 _ t ht ct => by rw [f3 t ht] at ct; omega)
  rw [e825] at s3
  refine ⟨r, σ2, ?_, (f2.trans s2).weak (fun a k h => Or.inr h), fun n => by rw [s2.2.2 825 n (by omega), f2.2.2 825 n (by omega)], ?_⟩
  · unfold fz_X11_hasCircle
    rw [f1, s1, Option.bind_some, if_pos (by simp only; rcases s3 with ⟨e, -⟩ | ⟨e, -⟩ <;> omega)]
  · rcases s3 with ⟨e, ⟨ρ', hDI⟩, h2, -⟩ | ⟨e, h⟩
    · refine Or.inl ⟨e, dz_RK.nc hg hI (ρ := ρ') (fun x hx ux nx k k0 k1 => ?_)⟩
      have hcd := hI.fin'.1
      have hab := hI.fin'.2
      have all := hR (fun n => dz_In (dz_N g) n ∧ σ2.2 826 (dz_tp (σ.2 825) n) = 2) ⟨ha, h2⟩ ⟨hb, by
        rcases hab with e | e
        · rw [← e]; exact h2
        · rw [← e.2.2]; exact h2⟩ (fun y hy ny hv k k0 k1 => by
        have ik := (hg.2.2.1 y hy ny).2.2 k k0 k1
        have ty := hU.top hy
        have n := hI.2.2.2.1 y hy ny
        have ea := hg.2.2.2 y (dz_tp (σ.2 825) y) hy ty.2 ny n.1 n.2.symm
        have q := hcd y (dz_tp (σ.2 825) y) hy ty.2 (Or.inr ⟨hy, ty.2, (hU.tt hy).symm⟩) ny n.1 n.2.symm k k0 k1
        have e : dz_tp (σ.2 825) (dz_kd g y k) = dz_tp (σ.2 825) (dz_kd g (dz_tp (σ.2 825) y) k) := by
          rcases q with q | q
          · rw [q]
          · exact q.2.2
        refine ⟨ik, ?_⟩
        rw [e]
        exact (hDI.2 _ ty.2 ty.1 hv.2 n.1 k k0 (by rw [← ea]; exact k1)).1) x hx
      have cx : σ2.2 826 x = 2 := by have := all.2; rw [dz_tp_root ux] at this; exact this
      exact (hDI.2 x hx ux cx nx k k0 k1).2
    · exact Or.inr ⟨e, fun q => h (dz_NC.rk hg hI q)⟩
/-! the same -/
/-- ranks can be taken below N + 1 -/
def dz_lo (ρ : Int → Nat) (m : Nat) : Nat → Nat
  | 0 => 0
  | n + 1 => dz_lo ρ m n + (if ρ (n : Int) < m then 1 else 0)
theorem dz_lo_le {ρ : Int → Nat} {m : Nat} : ∀ n : Nat, dz_lo ρ m n ≤ n := by
  intro n
  induction n with
  | zero => exact Nat.le_refl 0
  | succ n ih =>
    unfold dz_lo
    split <;> omega
theorem dz_lo_mono {ρ : Int → Nat} {m m' : Nat} (h : m ≤ m') : ∀ n : Nat, dz_lo ρ m n ≤ dz_lo ρ m' n := by
  intro n
  induction n with
  | zero => exact Nat.le_refl 0
  | succ n ih =>
    unfold dz_lo
    by_cases q : ρ (n : Int) < m
    · rw [if_pos q, if_pos (by omega)]; omega
    · rw [if_neg q]; omega
theorem dz_lo_lt {ρ : Int → Nat} {m m' : Nat} {a : Int} (ha : 0 ≤ a) (h1 : ρ a < m') (h2 : m ≤ ρ a) : ∀ n : Nat, a < (n : Int) → dz_lo ρ m n < dz_lo ρ m' n := by
  intro n
  induction n with
  | zero => intro h; omega
  | succ n ih =>
    intro h
    unfold dz_lo
    by_cases e : (n : Int) = a
    · have := dz_lo_mono (ρ := ρ) (m := m) (m' := m') (by omega) n
      rw [e, if_neg (by omega), if_pos h1]
      omega
    · have := ih (by omega)
      by_cases q : ρ (n : Int) < m
      · rw [if_pos q, if_pos (by omega)]; omega
      · rw [if_neg q]; omega
theorem dz_RK.low {g : dz_G} (hg : dz_ok g) {up : Int → Int} (hU : dz_UF up (dz_N g)) {ρ : Int → Nat} (h : dz_RK g up ρ) : ∃ ρ', dz_RK g up ρ' ∧ ∀ x, ρ' x ≤ 120 := by
  have hN := hg.2.1
  refine ⟨fun x => dz_lo ρ (ρ x) (dz_N g).toNat, fun x hx ux nx k k0 k1 => ?_, fun x => ?_⟩
  · have q := h x hx ux nx k k0 k1
    have tp := hU.top ((hg.2.2.1 x hx nx).2.2 k k0 k1)
    exact dz_lo_lt tp.2.1 q (Nat.le_refl _) _ (by have := tp.2.2; have := tp.2.1; omega)
  · have := dz_lo_le (ρ := ρ) (m := ρ x) (dz_N g).toNat
    show dz_lo ρ (ρ x) (dz_N g).toNat ≤ 120
    omega
theorem ez_areSame {g : dz_G} (hg : dz_ok g) {σ : az_Hp} (hF : bz_Fx σ) (hM : ez_M σ g) (hU : dz_UF (σ.2 825) (dz_N g)) (hr : dz_Rep g (σ.2 825)) (hd : dz_Cd g (dz_P (σ.2 825) (dz_N g))) {ρ : Int → Nat} (hRK : dz_RK g (σ.2 825) ρ) : ∀ (D : Nat) (u v : Int), dz_In (dz_N g) u → dz_In (dz_N g) v → ρ (dz_tp (σ.2 825) u) < D → ∃ r, fz_X11_areSame 2000000 D σ 804 u v = some r ∧ ((r = 1 ∧ dz_Sm g (dz_P (σ.2 825) (dz_N g)) u v) ∨ (r = 0 ∧ ¬ dz_Sm g (dz_P (σ.2 825) (dz_N g)) u v)) := by
  have hN := hg.2.1
  have hs : ∀ x y, dz_In (dz_N g) x → dz_In (dz_N g) y → dz_P (σ.2 825) (dz_N g) x y → ¬ dz_iv g x → ¬ dz_iv g y → dz_sy g x = dz_sy g y := by
    intro x y hx hy q nx ny
    rcases q with rfl | q
    · rfl
    · rw [← (hr x hx nx).2, ← (hr y hy ny).2, q.2.2]
  have hEq := dz_Sm.eq hg dz_P.eq hd hs
  have hCd := dz_Sm.cd hg dz_P.eq hd hs
  intro D
  induction D with
  | zero => intro u v hu hv h; omega
  | succ D ihD =>
    intro u v hu hv hrk
    have t1 := ez_find hF hU hN hu
    have t2 := ez_find hF hU hN hv
    have tu := hU.top hu
    have tv := hU.top hv
    have pu : dz_P (σ.2 825) (dz_N g) u (dz_tp (σ.2 825) u) := Or.inr ⟨hu, tu.2, (hU.tt hu).symm⟩
    have pv : dz_P (σ.2 825) (dz_N g) v (dz_tp (σ.2 825) v) := Or.inr ⟨hv, tv.2, (hU.tt hv).symm⟩
    -- the tops say it
    have tops : dz_Sm g (dz_P (σ.2 825) (dz_N g)) u v ↔ dz_Sm g (dz_P (σ.2 825) (dz_N g)) (dz_tp (σ.2 825) u) (dz_tp (σ.2 825) v) := ⟨fun h => hEq.2.2 _ _ _ (hEq.2.1 _ _ (dz_Sm.p pu)) (hEq.2.2 _ _ _ h (dz_Sm.p pv)), fun h => hEq.2.2 _ _ _ (dz_Sm.p pu) (hEq.2.2 _ _ _ h (hEq.2.1 _ _ (dz_Sm.p pv)))⟩
    rw [tops]
    have puv : dz_tp (σ.2 825) u = dz_tp (σ.2 825) v → dz_Sm g (dz_P (σ.2 825) (dz_N g)) (dz_tp (σ.2 825) u) (dz_tp (σ.2 825) v) := fun e => by rw [e]; exact hEq.1 _
    -- unlike tops that are the same: no variables, of one sign
    have out : dz_tp (σ.2 825) u ≠ dz_tp (σ.2 825) v → dz_Sm g (dz_P (σ.2 825) (dz_N g)) (dz_tp (σ.2 825) u) (dz_tp (σ.2 825) v) → ¬ dz_iv g (dz_tp (σ.2 825) u) ∧ ¬ dz_iv g (dz_tp (σ.2 825) v) ∧ dz_sy g (dz_tp (σ.2 825) u) = dz_sy g (dz_tp (σ.2 825) v) := by
      intro ne h
      rcases h.out with q | ⟨x', y', k1, k2, k3, k4, k5, k6, k7, -⟩
      · rcases q with q | q
        · exact absurd q ne
        · rw [hU.tt hu, hU.tt hv] at q; exact absurd q.2.2 ne
      · have nx : ¬ dz_iv g (dz_tp (σ.2 825) u) ∧ dz_sy g (dz_tp (σ.2 825) u) = dz_sy g x' := by
          have := hr x' k1 k5
          rcases k3 with q | q
          · rw [q]; exact ⟨k5, rfl⟩
          · rw [← q.2.2, hU.tt hu] at this; exact this
        have ny : ¬ dz_iv g (dz_tp (σ.2 825) v) ∧ dz_sy g (dz_tp (σ.2 825) v) = dz_sy g y' := by
          have := hr y' k2 k6
          rcases k4 with q | q
          · rw [q]; exact ⟨k6, rfl⟩
          · rw [← q.2.2, hU.tt hv] at this; exact this
        exact ⟨nx.1, ny.1, nx.2.trans (k7.trans ny.2.symm)⟩
    generalize hxx : dz_tp (σ.2 825) u = x at *
    generalize hyy : dz_tp (σ.2 825) v = y at *
    obtain ⟨xr, xi⟩ := tu
    obtain ⟨yr, yi⟩ := tv
    obtain ⟨px1, px2, px3, px4⟩ := hM.rd hg hF xi
    obtain ⟨py1, py2, py3, py4⟩ := hM.rd hg hF yi
    have mx := hM.2 x xi
    have my := hM.2 y yi
    have g39 := fx_804_39 hF
    have g40 := fx_804_40 hF
    unfold fz_X11_areSame fz_X11_areSame_e
    rw [t1, Option.bind_some, t2, Option.bind_some]
    by_cases exy : x = y
    · rw [if_pos exy]
      exact ⟨1, rfl, Or.inl ⟨rfl, puv exy⟩⟩
    rw [if_neg exy]
    simp only [g39, px1, py1, Option.bind_some]
    by_cases eq : σ.2 823 x = σ.2 823 y
    · rw [if_pos eq]
      by_cases qx : dz_iv g x
      · rw [(ez_isVarM).1 (mx.2.1.mpr qx), Option.bind_some, if_neg (by decide)]
        exact ⟨0, rfl, Or.inr ⟨rfl, fun h => (out exy h).1 qx⟩⟩
      rw [(ez_isVarM).2 (fun q => qx (mx.2.1.mp q)), Option.bind_some, if_pos rfl]
      have qy : ¬ dz_iv g y := fun h => qx (mx.2.1.mp (by have := my.2.1.mpr h; omega))
      have esy : dz_sy g x = dz_sy g y := by rw [← (mx.2.2 qx).2.2, ← (my.2.2 qy).2.2]; exact eq
      have ear := hg.2.2.2 x y xi yi qx qy esy
      have har := hg.2.2.1 x xi qx
      have hary := hg.2.2.1 y yi qy
      have loop : ∀ (d k : Nat) (i : Int), d < k → 0 ≤ i → i + d = dz_ar g x → (∀ k, 0 ≤ k → k < i → dz_Sm g (dz_P (σ.2 825) (dz_N g)) (dz_kd g x k) (dz_kd g y k)) → ∃ r, fz_X11_areSame_54 2000000 (fz_X11_areSame 2000000 D) k σ 804 x y i = some r ∧ ((r = 1 ∧ dz_Sm g (dz_P (σ.2 825) (dz_N g)) x y) ∨ (r = 0 ∧ ¬ dz_Sm g (dz_P (σ.2 825) (dz_N g)) x y)) := by
        intro d
        induction d with
        | zero =>
          intro k i hk i0 hi hdone
          obtain ⟨k, rfl⟩ : ∃ k', k = k' + 1 := ⟨k - 1, by omega⟩
          refine ⟨1, ?_, Or.inl ⟨rfl, dz_Sm.mk xi yi (Or.inl rfl) (Or.inl rfl) qx qy esy (fun k k0 k1 => hdone k k0 (by omega))⟩⟩
          unfold fz_X11_areSame_54
          rw [g39, Option.bind_some, px1, Option.bind_some, px2 qx, Option.bind_some, if_neg (by omega)]
        | succ d ih =>
          intro k i hk i0 hi hdone
          obtain ⟨k, rfl⟩ : ∃ k', k = k' + 1 := ⟨k - 1, by omega⟩
          have lt := hRK x xi xr qx i i0 (by omega)
          have ikx := har.2.2 i i0 (by omega)
          have iky := hary.2.2 i i0 (by omega)
          obtain ⟨r, f1, f2⟩ := ihD (dz_kd g x i) (dz_kd g y i) ikx iky (by omega)
          unfold fz_X11_areSame_54
          rw [g39, Option.bind_some, px1, Option.bind_some, px2 qx, Option.bind_some, if_pos (by omega), g40, Option.bind_some, px4 qx i i0 (by omega), Option.bind_some, Option.bind_some, py4 qy i i0 (by omega), Option.bind_some, f1, Option.bind_some]
          rcases f2 with ⟨e, h⟩ | ⟨e, h⟩
          · rw [if_neg (by omega), az_w32_id (by omega) (by omega)]
            refine ih k (i + 1) (by omega) (by omega) (by omega) (fun k k0 k1 => ?_)
            by_cases ek : k = i
            · subst ek; exact h
            · exact hdone k k0 (by omega)
          · rw [if_pos (by omega)]
            exact ⟨0, rfl, Or.inr ⟨rfl, fun q => h (hCd x y xi yi q qx qy esy i i0 (by omega))⟩⟩
      exact loop (dz_ar g x).toNat 2000000 0 (by omega) (by omega) (by omega) (fun k k0 k1 => by omega)
    · rw [if_neg eq]
      refine ⟨0, rfl, Or.inr ⟨rfl, fun h => ?_⟩⟩
      obtain ⟨n1, n2, n3⟩ := out exy h
      exact eq (by rw [(mx.2.2 n1).2.2, (my.2.2 n2).2.2]; exact n3)
