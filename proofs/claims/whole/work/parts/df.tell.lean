-- ends: the bytes of a class; the reference tells them
def ew_A (h : Int → List Int) (kd : Int → Int) : Nat → Int → List Int
  | 0, k => if k = 0 then [] else [41]
  | r + 1, k => (if k = 0 then 40 else 44) :: (h (kd k) ++ ew_A h kd r (k + 1))
theorem ew_A_congr {h h' : Int → List Int} {kd kd' : Int → Int} : ∀ (r : Nat) (k : Int), (∀ j, k ≤ j → j < k + r → h (kd j) = h' (kd' j)) → ew_A h kd r k = ew_A h' kd' r k := by
  intro r
  induction r with
  | zero => intro k _; rfl
  | succ r ih =>
    intro k e
    show (if k = 0 then 40 else 44) :: (h (kd k) ++ ew_A h kd r (k + 1)) = (if k = 0 then 40 else 44) :: (h' (kd' k) ++ ew_A h' kd' r (k + 1))
    rw [e k (Int.le_refl _) (by push_cast; omega), ih (k + 1) (fun j j0 j1 => e j (by omega) (by push_cast; omega))]
noncomputable def ew_S (g : dz_G) (up : Int → Int) (nm : Int → List Int) (ix : Int → Int) (z : Int) (h : Int → List Int) : List Int := @ite _ (dz_iv g z) (Classical.propDecidable _) [97 + ix z] (nm (dz_sy g z) ++ ew_A h (fun k => dz_tp up (dz_kd g z k)) (dz_ar g z).toNat 0)
noncomputable def ew_W (g : dz_G) (up : Int → Int) (nm : Int → List Int) (ix : Int → Int) (x : Int) : List Int := bd_rec (ew_S g up nm ix) [] 200 (dz_tp up x)
theorem bd_rec_eq2 {α : Type} {step : Int → (Int → α) → α} {d : α} {T : Int → Prop} {ks : Int → List Int} {ρ : Int → Nat} (hs : ∀ z h h', (∀ y, y ∈ ks z → h y = h' y) → step z h = step z h') (hk : ∀ z, T z → ∀ y, y ∈ ks z → T y ∧ ρ y < ρ z) {z : Int} (hz : T z) (hρ : ρ z < 199) : bd_rec step d 200 z = step z (bd_rec step d 200) := by
  show step z (bd_rec step d 199) = step z (bd_rec step d 200)
  refine hs z _ _ (fun y hy => ?_)
  have q := hk z hz y hy
  exact bd_rec_st hs hk 199 200 y q.1 (by omega) (by omega)
/-- a graph whose classes are closed, and ranked -/
def ew_Gr (g : dz_G) (up : Int → Int) (ρ : Int → Nat) : Prop := dz_ok g ∧ dz_UF up (dz_N g) ∧ dz_Rep g up ∧ dz_Cd g (dz_P up (dz_N g)) ∧ dz_RK g up ρ ∧ ∀ x, dz_In (dz_N g) x → ρ x < 199
section WZ
variable {g : dz_G} {up : Int → Int} {ρ : Int → Nat} {nm : Int → List Int} {ix : Int → Int}
theorem ew_Gr.hk (h : ew_Gr g up ρ) : ∀ z, bd_Tp g up z → ∀ y, y ∈ bd_ks g up z → bd_Tp g up y ∧ ρ y < ρ z := by
  obtain ⟨hg, hU, hR, hC, hr, hr2⟩ := h
  intro z hz y hy
  obtain ⟨nv, k, k0, k1, rfl⟩ := bd_ks_mem.mp hy
  have ik := (hg.2.2.1 z hz.1 nv).2.2 k k0 k1
  have t := hU.top ik
  refine ⟨⟨t.2, hU.tt ik⟩, ?_⟩
  have uz : up z = z := by
    have := (hU.top hz.1).1
    rw [hz.2] at this
    exact this
  exact hr z hz.1 uz nv k k0 k1
theorem ew_tpk (h : ew_Gr g up ρ) {x k : Int} (hx : dz_In (dz_N g) x) (nx : ¬ dz_iv g x) (k0 : 0 ≤ k) (k1 : k < dz_ar g x) : dz_In (dz_N g) (dz_tp up x) ∧ ¬ dz_iv g (dz_tp up x) ∧ dz_ar g (dz_tp up x) = dz_ar g x ∧ dz_tp up (dz_kd g (dz_tp up x) k) = dz_tp up (dz_kd g x k) := by
  obtain ⟨hg, hU, hR, hC, hr, hr2⟩ := h
  have t := hU.top hx
  have n := hR x hx nx
  have ea := hg.2.2.2 x (dz_tp up x) hx t.2 nx n.1 n.2.symm
  refine ⟨t.2, n.1, ea.symm, ?_⟩
  rcases hC x (dz_tp up x) hx t.2 (Or.inr ⟨hx, t.2, (hU.tt hx).symm⟩) nx n.1 n.2.symm k k0 k1 with q | q
  · rw [q]
  · exact q.2.2.symm
theorem ew_eq (h : ew_Gr g up ρ) {z : Int} (hz : bd_Tp g up z) : ew_W g up nm ix z = ew_S g up nm ix z (fun y => bd_rec (ew_S g up nm ix) [] 200 y) := by
  unfold ew_W
  rw [hz.2]
  refine bd_rec_eq2 (step := ew_S g up nm ix) (T := bd_Tp g up) (ks := bd_ks g up) (ρ := ρ) (fun z h h' e => ?_) h.hk hz (h.2.2.2.2.2 z hz.1)
  unfold ew_S
  by_cases v : dz_iv g z
  · rw [if_pos v, if_pos v]
  · rw [if_neg v, if_neg v]
    congr 1
    exact ew_A_congr _ _ (fun j j0 j1 => e _ (bd_ks_mem.mpr ⟨v, j, j0, by omega, rfl⟩))
theorem ew_tp (h : ew_Gr g up ρ) {x : Int} (hx : dz_In (dz_N g) x) : ew_W g up nm ix (dz_tp up x) = ew_W g up nm ix x := by
  unfold ew_W
  rw [h.2.1.tt hx]
theorem ew_var (h : ew_Gr g up ρ) {x : Int} (hx : dz_In (dz_N g) x) (v : dz_iv g (dz_tp up x)) : ew_W g up nm ix x = [97 + ix (dz_tp up x)] := by
  rw [← ew_tp h hx, ew_eq h ⟨(h.2.1.top hx).2, h.2.1.tt hx⟩]
  unfold ew_S
  rw [if_pos v]
theorem ew_con (h : ew_Gr g up ρ) {x : Int} (hx : dz_In (dz_N g) x) (v : ¬ dz_iv g x) : ew_W g up nm ix x = nm (dz_sy g x) ++ ew_A (ew_W g up nm ix) (fun k => dz_kd g x k) (dz_ar g x).toNat 0 := by
  have n := h.2.2.1 x hx v
  have t := h.2.1.top hx
  have ea := h.1.2.2.2 x (dz_tp up x) hx t.2 v n.1 n.2.symm
  rw [← ew_tp h hx, ew_eq h ⟨t.2, h.2.1.tt hx⟩]
  unfold ew_S
  rw [if_neg n.1, n.2, ea]
  congr 1
  refine ew_A_congr _ _ (fun j j0 j1 => ?_)
  show bd_rec (ew_S g up nm ix) [] 200 (dz_tp up (dz_kd g (dz_tp up x) j)) = bd_rec (ew_S g up nm ix) [] 200 (dz_tp up (dz_kd g x j))
  have ar0 := (h.1.2.2.1 x hx v).1
  rw [(ew_tpk h hx v j0 (by omega)).2.2.2]
end WZ
theorem ew_A_len {h : Int → List Int} {kd : Int → Int} : ∀ (r : Nat) (k : Int), 0 ≤ k → (ew_A h kd r k).length ≤ 1 + r + bd_s (bd_rg (k.toNat + r)) (fun j => if k ≤ j then (h (kd j)).length else 0) := by
  intro r
  induction r with
  | zero =>
    intro k k0
    show (if k = 0 then [] else [41] : List Int).length ≤ _
    by_cases e : k = 0
    · rw [if_pos e]; exact Nat.zero_le _
    · rw [if_neg e]
      simp only [List.length_singleton]
      omega
  | succ r ih =>
    intro k k0
    show ((if k = 0 then 40 else 44) :: (h (kd k) ++ ew_A h kd r (k + 1))).length ≤ _
    rw [List.length_cons, List.length_append]
    have q := ih (k + 1) (by omega)
    have e1 : (k + 1).toNat + r = k.toNat + (r + 1) := by omega
    rw [e1] at q
    have km : k ∈ bd_rg (k.toNat + (r + 1)) := (bd_rg_mem _).mpr ⟨k0, by push_cast; omega⟩
    have pk := bd_s_pick (h := fun j => (h (kd j)).length) _ (bd_rg_nd _) km
    have sp : bd_s (bd_rg (k.toNat + (r + 1))) (fun j => if k ≤ j then (h (kd j)).length else 0) = bd_s (bd_rg (k.toNat + (r + 1))) (fun j => (if k = j then 1 else 0) * (h (kd j)).length + (if k + 1 ≤ j then (h (kd j)).length else 0)) := bd_s_congr _ (fun j _ => by
      by_cases e : k = j
      · rw [if_pos e, if_pos (by omega), if_neg (by omega)]; omega
      · by_cases e2 : k ≤ j
        · rw [if_neg e, if_pos e2, if_pos (by omega)]; omega
        · rw [if_neg e, if_neg e2, if_neg (by omega)]; omega)
    rw [sp, bd_s_add, pk]
    omega
/-- the reference's view of a node -/
def tl_N (m0 : az_Hp) (D : Int → Prop) (rk : Int → Nat) (W : Int → List Int) (y : Int) : Prop :=
  ∃ r1, (∀ m, bz_Upd m0 m pz_SR → fz_X11_find 2000000 m 804 y = some r1) ∧ (0 ≤ r1 ∧ r1 < 120) ∧
    ((1000 ≤ m0.2 823 r1 ∧ ∃ i, (0 ≤ i ∧ i ≤ 30) ∧ (∀ m, bz_Upd m0 m pz_SR → fz_X11_letterOf 2000000 m 804 r1 = some (i, m)) ∧ W y = [97 + i]) ∨
     (m0.2 823 r1 < 1000 ∧ ∃ (w : List Int) (a : Nat), a ≤ 3 ∧ (∀ m, bz_Upd m0 m pz_SR → fz_X11_takes m 804 (m0.2 823 r1) = some (a : Int)) ∧
       (∀ m L, bz_Upd m0 m pz_SR → pz_R m L → L.length + 8 < 100000 → ∃ q m', fz_X11_nameOf m 804 (m0.2 823 r1) = some q ∧ fz_X11_tells 2000000 m 804 q = some m' ∧ bz_Upd m m' pz_SR ∧ pz_R m' (L ++ w)) ∧
       W y = w ++ ew_A W (fun k => m0.2 824 (3 * r1 + k)) a 0 ∧ ∀ k : Int, 0 ≤ k → k < (a : Int) → D (m0.2 824 (3 * r1 + k)) ∧ rk (m0.2 824 (3 * r1 + k)) < rk y))
theorem tl_args {m0 : az_Hp} {D : Int → Prop} {rk : Int → Nat} {W : Int → List Int} (hF : bz_Fx m0) {rec : az_Hp → Int → Int → Option az_Hp} {r1 : Int} {a : Nat} (h1 : 0 ≤ r1 ∧ r1 < 120) (a3 : a ≤ 3) (ht : ∀ m, bz_Upd m0 m pz_SR → fz_X11_takes m 804 (m0.2 823 r1) = some (a : Int))
    (hr : ∀ k : Int, 0 ≤ k → k < (a : Int) → ∀ m L, bz_Upd m0 m pz_SR → pz_R m L → L.length + (W (m0.2 824 (3 * r1 + k))).length + 10 < 100000 → ∃ m', rec m 804 (m0.2 824 (3 * r1 + k)) = some m' ∧ bz_Upd m m' pz_SR ∧ pz_R m' (L ++ W (m0.2 824 (3 * r1 + k)))) :
    ∀ (e kf : Nat) (k : Int) (m : az_Hp) (L : List Int), e < kf → 0 ≤ k → k + e = a → bz_Upd m0 m pz_SR → pz_R m L → L.length + (ew_A W (fun k => m0.2 824 (3 * r1 + k)) e k).length + 10 < 100000 →
    ∃ m', fz_X11_tellsNode_47 2000000 rec kf m 804 r1 k = some m' ∧ bz_Upd m m' pz_SR ∧ pz_R m' (L ++ ew_A W (fun k => m0.2 824 (3 * r1 + k)) e k) := by
  have l823 : az_ln m0 823 = 400 := ln_823 hF
  have l824 : az_ln m0 824 = 1200 := ln_824 hF
  intro e
  induction e with
  | zero =>
    intro kf k m L hkf k0 hk um hR hL
    obtain ⟨kf, rfl⟩ : ∃ q, kf = q + 1 := ⟨kf - 1, by omega⟩
    have hFm := hF.upd um
    have r823 : az_ard m 823 r1 = some (m0.2 823 r1) := by rw [bz_ard h1.1 (by rw [um.ln, l823]; omega), um.2.2 823 r1 (by unfold pz_SR; omega)]
    have g39 := fx_804_39 hFm
    unfold fz_X11_tellsNode_47
    simp only [g39, r823, ht m um, Option.bind_some]
    have ka : ¬ k < (a : Int) := by simp at hk; omega
    rw [if_neg ka]
    by_cases a0 : 0 < (a : Int)
    · rw [if_pos a0]
      have kn : ¬ k = 0 := by simp at hk; omega
      obtain ⟨m', t1, t2, t3⟩ := pz_tell (c := 41) hFm hR (by omega) (by omega) (by omega)
      refine ⟨m', by rw [t1, Option.bind_some], t2, ?_⟩
      show pz_R m' (L ++ (if k = 0 then [] else [41]))
      rw [if_neg kn]
      exact t3
    · rw [if_neg a0]
      have kn : k = 0 := by simp at hk; omega
      refine ⟨m, rfl, bz_Upd.refl, ?_⟩
      show pz_R m (L ++ (if k = 0 then [] else [41]))
      rw [if_pos kn, List.append_nil]
      exact hR
  | succ e ih =>
    intro kf k m L hkf k0 hk um hR hL
    obtain ⟨kf, rfl⟩ : ∃ q, kf = q + 1 := ⟨kf - 1, by omega⟩
    have hFm := hF.upd um
    have r823 : az_ard m 823 r1 = some (m0.2 823 r1) := by rw [bz_ard h1.1 (by rw [um.ln, l823]; omega), um.2.2 823 r1 (by unfold pz_SR; omega)]
    have g39 := fx_804_39 hFm
    have ka : k < (a : Int) := by push_cast at hk; omega
    have hL' : L.length + ((if k = 0 then (40 : Int) else 44) :: (W (m0.2 824 (3 * r1 + k)) ++ ew_A W (fun k => m0.2 824 (3 * r1 + k)) e (k + 1))).length + 10 < 100000 := hL
    rw [List.length_cons, List.length_append] at hL'
    have step : ∀ c : Int, 0 ≤ c → c ≤ 127 → ∃ m1 m2, fz_X11_tellsByte m 804 c = some m1 ∧ rec m1 804 (m0.2 824 (3 * r1 + k)) = some m2 ∧ az_gref m1 804 40 = some 824 ∧ az_ard m1 824 (3 * r1 + k) = some (m0.2 824 (3 * r1 + k)) ∧ bz_Upd m m2 pz_SR ∧ pz_R m2 (L ++ [c] ++ W (m0.2 824 (3 * r1 + k))) := fun c c0 c1 => by
      obtain ⟨m1, t1, t2, t3⟩ := pz_tell (c := c) hFm hR (by omega) c0 c1
      have um1 := um.trans t2
      obtain ⟨m2, v1, v2, v3⟩ := hr k k0 ka m1 (L ++ [c]) um1 t3 (by rw [List.length_append, List.length_singleton]; omega)
      refine ⟨m1, m2, t1, v1, fx_804_40 (hF.upd um1), ?_, t2.trans v2, v3⟩
      rw [bz_ard (by omega) (by rw [um1.ln, l824]; omega), um1.2.2 824 _ (by unfold pz_SR; omega)]
    have w3 : az_w32 (3 * r1) = 3 * r1 := az_w32_id (by omega) (by omega)
    have w4 : az_w32 (3 * r1 + k) = 3 * r1 + k := az_w32_id (by omega) (by omega)
    have w5 : az_w32 (k + 1) = k + 1 := az_w32_id (by omega) (by omega)
    show ∃ m', fz_X11_tellsNode_47 2000000 rec (kf + 1) m 804 r1 k = some m' ∧ bz_Upd m m' pz_SR ∧ pz_R m' (L ++ ((if k = 0 then 40 else 44) :: (W (m0.2 824 (3 * r1 + k)) ++ ew_A W (fun k => m0.2 824 (3 * r1 + k)) e (k + 1))))
    unfold fz_X11_tellsNode_47
    simp only [g39, r823, ht m um, Option.bind_some]
    rw [if_pos ka]
    by_cases kz : k = 0
    · obtain ⟨m1, m2, s1, s2, s3, s4, s5, s6⟩ := step 40 (by omega) (by omega)
      obtain ⟨m3, i1, i2, i3⟩ := ih kf (k + 1) m2 _ (by omega) (by omega) (by push_cast at hk; omega) (um.trans s5) s6 (by rw [List.length_append, List.length_append, List.length_singleton]; omega)
      refine ⟨m3, ?_, s5.trans i2, ?_⟩
      · rw [if_pos kz]
        unfold fz_X11_tellsNode_73
        rw [s1, Option.bind_some, s3, Option.bind_some, w3, w4, s4, Option.bind_some, s2, Option.bind_some, w5]
        exact i1
      · rw [if_pos kz]
        have : L ++ (40 :: (W (m0.2 824 (3 * r1 + k)) ++ ew_A W (fun k => m0.2 824 (3 * r1 + k)) e (k + 1))) = L ++ [40] ++ W (m0.2 824 (3 * r1 + k)) ++ ew_A W (fun k => m0.2 824 (3 * r1 + k)) e (k + 1) := by simp
        rw [this]
        exact i3
    · obtain ⟨m1, m2, s1, s2, s3, s4, s5, s6⟩ := step 44 (by omega) (by omega)
      obtain ⟨m3, i1, i2, i3⟩ := ih kf (k + 1) m2 _ (by omega) (by omega) (by push_cast at hk; omega) (um.trans s5) s6 (by rw [List.length_append, List.length_append, List.length_singleton]; omega)
      refine ⟨m3, ?_, s5.trans i2, ?_⟩
      · rw [if_neg kz]
        unfold fz_X11_tellsNode_73
        rw [s1, Option.bind_some, s3, Option.bind_some, w3, w4, s4, Option.bind_some, s2, Option.bind_some, w5]
        exact i1
      · rw [if_neg kz]
        have : L ++ (44 :: (W (m0.2 824 (3 * r1 + k)) ++ ew_A W (fun k => m0.2 824 (3 * r1 + k)) e (k + 1))) = L ++ [44] ++ W (m0.2 824 (3 * r1 + k)) ++ ew_A W (fun k => m0.2 824 (3 * r1 + k)) e (k + 1) := by simp
        rw [this]
        exact i3
theorem tl_node {m0 : az_Hp} {D : Int → Prop} {rk : Int → Nat} {W : Int → List Int} (hF : bz_Fx m0) (H : ∀ y, D y → tl_N m0 D rk W y) : ∀ (d : Nat) (y : Int) (m : az_Hp) (L : List Int), D y → rk y < d → bz_Upd m0 m pz_SR → pz_R m L → L.length + (W y).length + 10 < 100000 → ∃ m', fz_X11_tellsNode 2000000 d m 804 y = some m' ∧ bz_Upd m m' pz_SR ∧ pz_R m' (L ++ W y) := by
  have l823 : az_ln m0 823 = 400 := ln_823 hF
  intro d
  induction d with
  | zero => intro y m L _ h; omega
  | succ d ih =>
    intro y m L hD hr um hR hL
    have hFm := hF.upd um
    obtain ⟨r1, f1, h1, h2⟩ := H y hD
    have r823 : az_ard m 823 r1 = some (m0.2 823 r1) := by rw [bz_ard h1.1 (by rw [um.ln, l823]; omega), um.2.2 823 r1 (by unfold pz_SR; omega)]
    have g39 := fx_804_39 hFm
    show ∃ m', fz_X11_tellsNode_e 2000000 (fz_X11_tellsNode 2000000 d) m 804 y = some m' ∧ _
    unfold fz_X11_tellsNode_e
    simp only [f1 m um, g39, r823, Option.bind_some]
    rcases h2 with ⟨v, i, ⟨i0, i1⟩, lt, eW⟩ | ⟨v, w, a, a3, tk, nm, eW, kids⟩
    · rw [ez_isVarM.1 v, Option.bind_some, if_neg (by decide), lt m um, Option.bind_some]
      have w1 : az_w32 (97 + i) = 97 + i := az_w32_id (by omega) (by omega)
      show ∃ m', ((fz_X11_tellsByte m 804 (az_w32 (97 + i))).bind fun r10 => (some r10)) = some m' ∧ _
      rw [w1]
      obtain ⟨m', t1, t2, t3⟩ := pz_tell (c := 97 + i) hFm hR (by omega) (by omega) (by omega)
      exact ⟨m', by rw [t1, Option.bind_some], t2, by rw [eW]; exact t3⟩
    · rw [ez_isVarM.2 (by omega), Option.bind_some, if_pos rfl]
      rw [eW, List.length_append] at hL
      obtain ⟨q, m1, n1, n2, n3, n4⟩ := nm m L um hR (by omega)
      rw [n1, Option.bind_some, n2, Option.bind_some]
      obtain ⟨m2, s1, s2, s3⟩ := tl_args (W := W) (D := D) (rk := rk) hF (rec := fz_X11_tellsNode 2000000 d) h1 a3 tk (fun k k0 k1 m L um hR hL => ih _ m L (kids k k0 k1).1 (by have := (kids k k0 k1).2; omega) um hR hL) a 2000000 0 m1 (L ++ w) (by omega) (by omega) (by omega) (um.trans n3) n4 (by rw [List.length_append]; omega)
      refine ⟨m2, s1, n3.trans s2, ?_⟩
      rw [eW, ← List.append_assoc]
      exact s3
