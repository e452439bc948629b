/-! families called, and called at last -/
def wz_b (v i : Int) : Int := az_iandV (az_ishrV v i) 1
def wz_r (v : Int) : Prop := 0 ≤ v ∧ v < 32
def wz_pc (v : Int) : Int := wz_b v 0 + wz_b v 1 + wz_b v 2 + wz_b v 3 + wz_b v 4
theorem wz_or0 : ∀ a b : Fin 32, (0 ≤ az_iorV (a.val : Int) (b.val : Int) ∧ az_iorV (a.val : Int) (b.val : Int) < 32) ∧ (∀ i : Fin 5, (wz_b (az_iorV (a.val : Int) (b.val : Int)) (i.val : Int) = 1 ↔ (wz_b (a.val : Int) (i.val : Int) = 1 ∨ wz_b (b.val : Int) (i.val : Int) = 1))) ∧ (az_iorV (a.val : Int) (b.val : Int) ≠ (a.val : Int) → wz_pc (a.val : Int) < wz_pc (az_iorV (a.val : Int) (b.val : Int))) := by decide +kernel
theorem wz_one0 : ∀ a : Fin 32, az_iorV (a.val : Int) 0 = (a.val : Int) ∧ (0 ≤ wz_pc (a.val : Int) ∧ wz_pc (a.val : Int) ≤ 5) ∧ (wz_pc (a.val : Int) = 5 → (a.val : Int) = 31) ∧ ∀ i : Fin 5, wz_b (a.val : Int) (i.val : Int) = 0 ∨ wz_b (a.val : Int) (i.val : Int) = 1 := by decide +kernel
theorem wz_full0 : ∀ i : Fin 5, wz_b 31 (i.val : Int) = 1 := by decide +kernel
theorem wz_ext0 : ∀ a b : Fin 32, (∀ i : Fin 5, (wz_b (a.val : Int) (i.val : Int) = 1 ↔ wz_b (b.val : Int) (i.val : Int) = 1)) → (a.val : Int) = (b.val : Int) := by decide +kernel
theorem wz_shl0 : ∀ i : Fin 5, 0 ≤ az_ishlV 1 (i.val : Int) ∧ az_ishlV 1 (i.val : Int) < 32 := by decide +kernel
theorem wz_or {a b : Int} (ha : wz_r a) (hb : wz_r b) : wz_r (az_iorV a b) ∧ (∀ i, 0 ≤ i → i < 5 → (wz_b (az_iorV a b) i = 1 ↔ (wz_b a i = 1 ∨ wz_b b i = 1))) ∧ (az_iorV a b ≠ a → wz_pc a < wz_pc (az_iorV a b)) := by
  unfold wz_r at ha hb
  have h := wz_or0 ⟨a.toNat, by omega⟩ ⟨b.toNat, by omega⟩
  simp only [Int.toNat_of_nonneg ha.1, Int.toNat_of_nonneg hb.1] at h
  refine ⟨h.1, fun i i0 i1 => ?_, h.2.2⟩
  have q := h.2.1 ⟨i.toNat, by omega⟩
  simp only [Int.toNat_of_nonneg i0] at q
  exact q
theorem wz_one {a : Int} (ha : wz_r a) : az_iorV a 0 = a ∧ (0 ≤ wz_pc a ∧ wz_pc a ≤ 5) ∧ (wz_pc a = 5 → a = 31) ∧ ∀ i, 0 ≤ i → i < 5 → wz_b a i = 0 ∨ wz_b a i = 1 := by
  unfold wz_r at ha
  have h := wz_one0 ⟨a.toNat, by omega⟩
  simp only [Int.toNat_of_nonneg ha.1] at h
  refine ⟨h.1, h.2.1, h.2.2.1, fun i i0 i1 => ?_⟩
  have q := h.2.2.2 ⟨i.toNat, by omega⟩
  simp only [Int.toNat_of_nonneg i0] at q
  exact q
theorem wz_full {i : Int} (i0 : 0 ≤ i) (i1 : i < 5) : wz_b 31 i = 1 := by
  have q := wz_full0 ⟨i.toNat, by omega⟩
  simp only [Int.toNat_of_nonneg i0] at q
  exact q
theorem wz_shl {i : Int} (i0 : 0 ≤ i) (i1 : i < 5) : wz_r (az_ishlV 1 i) := by
  have q := wz_shl0 ⟨i.toNat, by omega⟩
  simp only [Int.toNat_of_nonneg i0] at q
  exact q
def wz_S (a b : Int) : Prop := ∀ i, 0 ≤ i → i < 5 → wz_b a i = 1 → wz_b b i = 1
theorem wz_S.eq {a b : Int} (ha : wz_r a) (hb : wz_r b) (h : wz_S a b) (h' : wz_S b a) : a = b := by
  unfold wz_r at ha hb
  have q := wz_ext0 ⟨a.toNat, by omega⟩ ⟨b.toNat, by omega⟩
  simp only [Int.toNat_of_nonneg ha.1, Int.toNat_of_nonneg hb.1] at q
  exact q fun i => ⟨h _ (by omega) (by have := i.isLt; omega), h' _ (by omega) (by have := i.isLt; omega)⟩
/-- what the calls are -/
def wz_C (σx σm : az_Hp) (T : Int) (C : Int → Int) : Prop := ∀ g, 0 ≤ g → g < σx.2 T 1 → fz_X9_called 2000000 σx T g = some (C g) ∧ fz_X11_onRight 2000000 σm 804 g = some (C g) ∧ wz_r (C g)
def wz_Z (C : Int → Int) (nf z : Int) : Prop := ∀ g, 0 ≤ g → g < nf → wz_b z g = 1 → wz_S (C g) z
theorem wz_passX {σx σm : az_Hp} {T s : Int} {C : Int → Int} (hH : mz_H σx σm T s) (hC : wz_C σx σm T C) {kx : az_Hp → Int → Int → Int → Option Int} {p : Int} (p0 : 0 ≤ p) (p1 : p < 5) : ∀ (d k : Nat) (v i : Int), d < k → 0 ≤ i → i + d = σx.2 T 1 → wz_r v → ∃ v', wz_r v' ∧ fz_X9_calledAtLast_16 2000000 kx k σx T v p i = kx σx T v' (p + 1) ∧ wz_S v v' ∧ (∀ z, wz_Z C (σx.2 T 1) z → wz_S v z → wz_S v' z) ∧ (wz_pc v < wz_pc v' ∨ (v' = v ∧ ∀ g, i ≤ g → g < σx.2 T 1 → wz_b v g = 1 → wz_S (C g) v)) := by
  have nb := mz_nb hH
  intro d
  induction d with
  | zero =>
    intro k v i hk i0 hi hv
    obtain ⟨k, rfl⟩ : ∃ k', k = k' + 1 := ⟨k - 1, by omega⟩
    refine ⟨v, hv, ?_, fun _ _ _ q => q, fun z _ q => q, Or.inr ⟨rfl, fun g g0 g1 => by omega⟩⟩
    unfold fz_X9_calledAtLast_16
    rw [if_neg (by omega), az_w32_id (z := p + 1) (by omega) (by omega)]
  | succ d ih =>
    intro k v i hk i0 hi hv
    obtain ⟨k, rfl⟩ : ∃ k', k = k' + 1 := ⟨k - 1, by omega⟩
    obtain ⟨c1, c2, c3⟩ := hC i i0 (by omega)
    have run : fz_X9_calledAtLast_16 2000000 kx (k + 1) σx T v p i = (if wz_b v i = 0 then fz_X9_calledAtLast_16 2000000 kx k σx T v p (i + 1) else fz_X9_calledAtLast_16 2000000 kx k σx T (az_iorV v (C i)) p (i + 1)) := by
      conv => lhs; unfold fz_X9_calledAtLast_16
      rw [if_pos (by omega), c1, Option.bind_some, az_w32_id (z := i + 1) (by omega) (by omega)]
      rfl
    rw [run]
    by_cases q : wz_b v i = 0
    · rw [if_pos q]
      obtain ⟨v', w1, w2, w3, w4, w5⟩ := ih k v (i + 1) (by omega) (by omega) (by omega) hv
      refine ⟨v', w1, w2, w3, w4, ?_⟩
      rcases w5 with w5 | ⟨w5, w6⟩
      · exact Or.inl w5
      · refine Or.inr ⟨w5, fun g g0 g1 gb => ?_⟩
        by_cases e : g = i
        · rw [e, q] at gb; omega
        · exact w6 g (by omega) g1 gb
    · rw [if_neg q]
      obtain ⟨o1, o2, o3⟩ := wz_or hv c3
      obtain ⟨v', w1, w2, w3, w4, w5⟩ := ih k (az_iorV v (C i)) (i + 1) (by omega) (by omega) (by omega) o1
      have b1 : wz_b v i = 1 := by rcases (wz_one hv).2.2.2 i i0 (by omega) with r | r; exact absurd r q; exact r
      have s1 : wz_S v (az_iorV v (C i)) := fun j j0 j1 jb => (o2 j j0 j1).mpr (Or.inl jb)
      refine ⟨v', w1, w2, fun j j0 j1 jb => w3 j j0 j1 (s1 j j0 j1 jb), fun z hz hs => w4 z hz (fun j j0 j1 jb => ?_), ?_⟩
      · rcases (o2 j j0 j1).mp jb with r | r
        · exact hs j j0 j1 r
        · exact hz i i0 (by omega) (hs i i0 (by omega) b1) j j0 j1 r
      · by_cases e : az_iorV v (C i) = v
        · rcases w5 with w5 | ⟨w5, w6⟩
          · rw [e] at w5; exact Or.inl w5
          · refine Or.inr ⟨w5.trans e, fun g g0 g1 gb => ?_⟩
            by_cases eg : g = i
            · rw [eg]
              intro j j0 j1 jb
              have := (o2 j j0 j1).mpr (Or.inr jb)
              rw [e] at this
              exact this
            · rw [e] at w6
              exact w6 g (by omega) g1 gb
        · have := o3 e
          rcases w5 with w5 | ⟨w5, -⟩
          · exact Or.inl (by omega)
          · rw [w5]; exact Or.inl this
theorem wz_allX {σx σm : az_Hp} {T s : Int} {C : Int → Int} (hH : mz_H σx σm T s) (hC : wz_C σx σm T C) : ∀ (d k : Nat) (v p : Int), d < k → 0 ≤ p → p + d = 5 → wz_r v → (wz_Z C (σx.2 T 1) v ∨ p ≤ wz_pc v) → ∃ w, wz_r w ∧ fz_X9_calledAtLast_8 2000000 k σx T v p = some w ∧ wz_S v w ∧ wz_Z C (σx.2 T 1) w ∧ ∀ z, wz_Z C (σx.2 T 1) z → wz_S v z → wz_S w z := by
  have nb := mz_nb hH
  intro d
  induction d with
  | zero =>
    intro k v p hk p0 hp hv hz
    obtain ⟨k, rfl⟩ : ∃ k', k = k' + 1 := ⟨k - 1, by omega⟩
    refine ⟨v, hv, ?_, fun _ _ _ q => q, ?_, fun z _ q => q⟩
    · unfold fz_X9_calledAtLast_8
      rw [if_neg (by omega)]
    · rcases hz with hz | hz
      · exact hz
      · have o := wz_one hv
        have e := o.2.2.1 (by omega)
        rw [e]
        intro g g0 g1 gb j j0 j1 jb
        exact wz_full j0 j1
  | succ d ih =>
    intro k v p hk p0 hp hv hz
    obtain ⟨k, rfl⟩ : ∃ k', k = k' + 1 := ⟨k - 1, by omega⟩
    obtain ⟨v', w1, w2, w3, w4, w5⟩ := wz_passX hH hC (kx := fz_X9_calledAtLast_8 2000000 k) p0 (by omega) (σx.2 T 1).toNat 2000000 v 0 (by omega) (by omega) (by omega) hv
    obtain ⟨w, x1, x2, x3, x4, x5⟩ := ih k v' (p + 1) (by omega) (by omega) (by omega) w1 (by
      rcases hz with hz | hz
      · have := wz_S.eq w1 hv (w4 v hz (fun _ _ _ q => q)) w3
        rw [this]; exact Or.inl hz
      · rcases w5 with w5 | ⟨w5, w6⟩
        · exact Or.inr (by omega)
        · rw [w5]; exact Or.inl (fun g g0 g1 gb => w6 g g0 g1 gb))
    refine ⟨w, x1, ?_, fun j j0 j1 jb => x3 j j0 j1 (w3 j j0 j1 jb), x4, fun z hz hs => x5 z hz (w4 z hz hs)⟩
    unfold fz_X9_calledAtLast_8
    rw [if_pos (by omega), w2]
    exact x2
theorem wz_fmany {σx σm : az_Hp} {T s : Int} (h : mz_H σx σm T s) : az_gref σm 804 17 = some 807 ∧ az_ard σm 807 (σm.2 804 15) = some (σx.2 T 1) := by
  have n := h.n
  have nr := h.2.2.1.2.2.1
  have hs := h.2.2.1.2.1
  have l := ln_807 h.2.1
  refine ⟨fx_804_17 h.2.1, ?_⟩
  rw [h.2.2.2.2, n.2.1, nr.2.1]
  exact bz_ard (by omega) (by omega)
theorem wz_passM {σx σm : az_Hp} {T s : Int} {C : Int → Int} (hH : mz_H σx σm T s) (hC : wz_C σx σm T C) {km : az_Hp → Int → Int → Int → Option Int} {o : Int} (ho : wz_r o) : ∀ (d k : Nat) (v i : Int), d < k → 0 ≤ i → i + d = σx.2 T 1 → wz_r v → ∃ v', wz_r v' ∧ fz_X11_onRightAgain_18 2000000 km k σm 804 v o i = km σm 804 v' o ∧ wz_S v v' ∧ (∀ z, wz_Z C (σx.2 T 1) z → wz_S v z → wz_S o z → wz_S v' z) ∧ (v' = v ∨ wz_pc v < wz_pc v') ∧ ∀ g, i ≤ g → g < σx.2 T 1 → wz_b o g = 1 → wz_S (C g) v' := by
  have nb := mz_nb hH
  obtain ⟨f1, f2⟩ := wz_fmany hH
  intro d
  induction d with
  | zero =>
    intro k v i hk i0 hi hv
    obtain ⟨k, rfl⟩ : ∃ k', k = k' + 1 := ⟨k - 1, by omega⟩
    refine ⟨v, hv, ?_, fun _ _ _ q => q, fun z _ q _ => q, Or.inl rfl, fun g g0 g1 => by omega⟩
    unfold fz_X11_onRightAgain_18
    rw [f1, Option.bind_some, f2, Option.bind_some, if_neg (by omega)]
  | succ d ih =>
    intro k v i hk i0 hi hv
    obtain ⟨k, rfl⟩ : ∃ k', k = k' + 1 := ⟨k - 1, by omega⟩
    obtain ⟨c1, c2, c3⟩ := hC i i0 (by omega)
    have run : fz_X11_onRightAgain_18 2000000 km (k + 1) σm 804 v o i = (if wz_b o i = 1 then fz_X11_onRightAgain_18 2000000 km k σm 804 (az_iorV v (C i)) o (i + 1) else fz_X11_onRightAgain_18 2000000 km k σm 804 v o (i + 1)) := by
      conv => lhs; unfold fz_X11_onRightAgain_18
      rw [f1, Option.bind_some, f2, Option.bind_some, if_pos (by omega), c2, Option.bind_some, az_w32_id (z := i + 1) (by omega) (by omega), (wz_one hv).1]
      rfl
    rw [run]
    by_cases q : wz_b o i = 1
    · rw [if_pos q]
      obtain ⟨o1, o2, o3⟩ := wz_or hv c3
      obtain ⟨v', w1, w2, w3, w4, w5, w6⟩ := ih k (az_iorV v (C i)) (i + 1) (by omega) (by omega) (by omega) o1
      refine ⟨v', w1, w2, fun j j0 j1 jb => w3 j j0 j1 ((o2 j j0 j1).mpr (Or.inl jb)), fun z hz hs hs' => w4 z hz (fun j j0 j1 jb => ?_) hs', ?_, fun g g0 g1 gb => ?_⟩
      · rcases (o2 j j0 j1).mp jb with r | r
        · exact hs j j0 j1 r
        · exact hz i i0 (by omega) (hs' i i0 (by omega) q) j j0 j1 r
      · by_cases e : az_iorV v (C i) = v
        · rw [e] at w5; exact w5
        · have := o3 e
          rcases w5 with w5 | w5
          · rw [w5]; exact Or.inr this
          · exact Or.inr (by omega)
      · by_cases eg : g = i
        · rw [eg]
          exact fun j j0 j1 jb => w3 j j0 j1 ((o2 j j0 j1).mpr (Or.inr jb))
        · exact w6 g (by omega) g1 gb
    · rw [if_neg q]
      obtain ⟨v', w1, w2, w3, w4, w5, w6⟩ := ih k v (i + 1) (by omega) (by omega) (by omega) hv
      refine ⟨v', w1, w2, w3, w4, w5, fun g g0 g1 gb => ?_⟩
      by_cases eg : g = i
      · rw [eg] at gb; exact absurd gb q
      · exact w6 g (by omega) g1 gb
theorem wz_allM {σx σm : az_Hp} {T s : Int} {C : Int → Int} (hH : mz_H σx σm T s) (hC : wz_C σx σm T C) : ∀ (d k : Nat) (v o : Int), d + 1 < k → 5 ≤ wz_pc v + d → wz_r v → (o = v → wz_Z C (σx.2 T 1) v) → ∃ w, wz_r w ∧ fz_X11_onRightAgain_8 2000000 k σm 804 v o = some w ∧ wz_S v w ∧ wz_Z C (σx.2 T 1) w ∧ ∀ z, wz_Z C (σx.2 T 1) z → wz_S v z → wz_S w z := by
  have nb := mz_nb hH
  intro d
  induction d with
  | zero =>
    intro k v o hk hp hv ho
    obtain ⟨k, rfl⟩ : ∃ k', k = k' + 1 := ⟨k - 1, by omega⟩
    by_cases e : o = v
    · refine ⟨v, hv, ?_, fun _ _ _ q => q, ho e, fun z _ q => q⟩
      unfold fz_X11_onRightAgain_8
      rw [if_pos e]
    · obtain ⟨v', w1, w2, w3, w4, w5, w6⟩ := wz_passM hH hC (km := fz_X11_onRightAgain_8 2000000 k) hv (σx.2 T 1).toNat 2000000 v 0 (by omega) (by omega) (by omega) hv
      have e' : v' = v := by
        rcases w5 with w5 | w5
        · exact w5
        · have := (wz_one w1).2.1; omega
      obtain ⟨k, rfl⟩ : ∃ k', k = k' + 1 := ⟨k - 1, by omega⟩
      refine ⟨v, hv, ?_, fun _ _ _ q => q, ?_, fun z _ q => q⟩
      · conv => lhs; unfold fz_X11_onRightAgain_8
        rw [if_neg e, w2, e']
        unfold fz_X11_onRightAgain_8
        rw [if_pos rfl]
      · rw [e'] at w6
        exact fun g g0 g1 gb => w6 g g0 g1 gb
  | succ d ih =>
    intro k v o hk hp hv ho
    obtain ⟨k, rfl⟩ : ∃ k', k = k' + 1 := ⟨k - 1, by omega⟩
    by_cases e : o = v
    · refine ⟨v, hv, ?_, fun _ _ _ q => q, ho e, fun z _ q => q⟩
      unfold fz_X11_onRightAgain_8
      rw [if_pos e]
    · obtain ⟨v', w1, w2, w3, w4, w5, w6⟩ := wz_passM hH hC (km := fz_X11_onRightAgain_8 2000000 k) hv (σx.2 T 1).toNat 2000000 v 0 (by omega) (by omega) (by omega) hv
      by_cases e' : v' = v
      · obtain ⟨k, rfl⟩ : ∃ k', k = k' + 1 := ⟨k - 1, by omega⟩
        refine ⟨v, hv, ?_, fun _ _ _ q => q, ?_, fun z _ q => q⟩
        · conv => lhs; unfold fz_X11_onRightAgain_8
          rw [if_neg e, w2, e']
          unfold fz_X11_onRightAgain_8
          rw [if_pos rfl]
        · rw [e'] at w6
          exact fun g g0 g1 gb => w6 g g0 g1 gb
      · have hlt : wz_pc v < wz_pc v' := by
          rcases w5 with w5 | w5
          · exact absurd w5 e'
          · exact w5
        obtain ⟨w, x1, x2, x3, x4, x5⟩ := ih k v' v (by omega) (by omega) w1 (fun q => absurd q.symm e')
        refine ⟨w, x1, ?_, fun j j0 j1 jb => x3 j j0 j1 (w3 j j0 j1 jb), x4, fun z hz hs => x5 z hz (w4 z hz hs hs)⟩
        conv => lhs; unfold fz_X11_onRightAgain_8
        rw [if_neg e, w2]
        exact x2
theorem wz_last {σx σm : az_Hp} {T s f : Int} {C : Int → Int} (hH : mz_H σx σm T s) (hC : wz_C σx σm T C) (f0 : 0 ≤ f) (f1 : f < σx.2 T 1) : ∃ w, fz_X9_calledAtLast 2000000 σx T f = some w ∧ fz_X11_onRightAgain 2000000 σm 804 f = some w := by
  obtain ⟨c1, c2, c3⟩ := hC f f0 f1
  have o := wz_one c3
  obtain ⟨w, x1, x2, x3, x4, x5⟩ := wz_allX hH hC 5 2000000 (C f) 0 (by omega) (by omega) (by omega) c3 (Or.inr (by omega))
  obtain ⟨w', y1, y2, y3, y4, y5⟩ := wz_allM hH hC 5 2000000 (C f) (-1) (by omega) (by omega) c3 (fun q => by have := c3.1; omega)
  have e : w = w' := wz_S.eq x1 y1 (x5 w' y4 y3) (y5 w x4 x3)
  refine ⟨w, ?_, ?_⟩
  · unfold fz_X9_calledAtLast
    rw [c1, Option.bind_some]; exact x2
  · unfold fz_X11_onRightAgain
    rw [c2, Option.bind_some, e]; exact y2
