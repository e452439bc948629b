/-! the place to rewrite, in either order -/
theorem sz_ordC {σx σm σx' : az_Hp} {T s n : Int} {V : Int → Int → Prop} (h : rz_C σx σm T s) (hR : rz_R σx σm T s V 244 840 n) (hx : bz_Upd σx σx' sz_S) : rz_C σx' σm T s ∧ rz_R σx' σm T s V 244 840 n := by
  obtain ⟨h1, h2, h3⟩ := h
  have hT := h1.2.2.1.1
  have ex : ∀ a k, a = T ∨ a = T + 7 ∨ a = T + 11 ∨ a = 243 → σx'.2 a k = σx.2 a k := fun a k q => hx.2.2 a k (fun c => by unfold sz_S at c; omega)
  refine ⟨⟨h1.gen hx (bz_Upd.refl (σ := σm) (S := sz_TM)) (fun a k q => by unfold sz_S at q; unfold nz_t; omega) (fun a k q => by unfold sz_TM rz_TM cz_SM at q; unfold nz_t; omega), by rw [ex _ _ (by omega)]; exact h2, fun i e => ?_⟩, ?_⟩
  · rw [ex T 2 (by omega), ex (T + 7) i (by omega), ex (T + 7) e (by omega), ex (T + 11) _ (by omega)]
    exact h3 i e
  · obtain ⟨a1, a2, a3, a4, a5, a6, a7, a8⟩ := hR
    have k1 : ∀ k, σx'.2 244 k = σx.2 244 k := fun k => hx.2.2 _ _ (fun c => by unfold sz_S at c; omega)
    have k2 : ∀ k, σx'.2 (244 + 1) k = σx.2 (244 + 1) k := fun k => hx.2.2 _ _ (fun c => by unfold sz_S at c; omega)
    have k3 : bz_ra σx' 244 = bz_ra σx 244 := funext fun k => by unfold bz_ra; rw [k2]
    refine ⟨by unfold bz_rw at a1 ⊢; simp only [k1, k2]; exact a1, by rw [k1]; exact a2, a3, fun i i0 i1 => ?_, by rw [k3]; exact a5, a6, a7, a8⟩
    rw [k2]
    exact a4 i i0 i1
section SP
variable {T s n : Int} {V : Int → Int → Prop}
theorem sz_hasK {σx σm : az_Hp} (hC : rz_C σx σm T s) (hR : rz_R σx σm T s V 244 840 n) (h72 : σm.2 804 72 = 0) : sz_K (fun τ => bz_Upd σm τ sz_TM) (bz_ra σx 244) n := by
  have hT := hC.1.2.2.1.1
  have n60 := hR.2.2.1.2
  have both : ∀ τ, bz_Upd σm τ sz_TM → rz_C σx τ T s ∧ rz_R σx τ T s V 244 840 n ∧ τ.2 804 72 = 0 := fun τ u => ⟨sz_updC hC bz_Upd.refl u, sz_updR hR hT bz_Upd.refl u, by rw [u.2.2 804 72 (fun z => by unfold sz_TM rz_TM cz_SM at z; omega)]; exact h72⟩
  have En : ∀ τ, bz_Upd σm τ sz_TM → lz_En (bz_ct τ s) (bz_ft τ s) (τ.2 T 0) (τ.2 T 1) (fun _ => V) 244 0 0 0 n 840 0 σx τ := fun τ u => (both τ u).2.1.en (both τ u).1.1 (Or.inl rfl) rfl (by omega) (by omega)
  refine ⟨fun τ u => fx_804_68 (hC.1.2.1.upd u), fun τ i u i0 i1 => ?_, fun τ d i u i0 hd hS => ?_, fun τ p u p0 p1 => ?_⟩
  · obtain ⟨t1, t2, -, -⟩ := (En τ u).tk i0 i1
    rw [Int.zero_add] at t1 t2
    exact ⟨_, t1, t2⟩
  · have := (En τ u).size i0 hd hS
    rw [Int.zero_add] at this
    exact this
  · obtain ⟨C1, R1, e72⟩ := both τ u
    rw [sz_doneRun C1.1.2.1 e72 p0 (by omega)]
    have um : bz_Upd τ (az_wr τ 804 73 p) sz_TM := bz_Upd.wr bz_Upd.refl (Or.inr ⟨rfl, rfl⟩) (by decide)
    by_cases c : 200 ≤ τ.2 840 p ∧ τ.2 840 p < 1000
    · rw [if_pos c]
      obtain ⟨q, x1, m1, y1, y2, y3, y4, -⟩ := rz_firing (sz_updC C1 bz_Upd.refl um) (sz_updR R1 hT bz_Upd.refl um) ⟨by decide, by decide, by decide⟩ p0 p1
      exact ⟨_, y2, (u.trans um).trans (y4.weak fun _ _ z => Or.inl z)⟩
    · rw [if_neg c]
      exact ⟨_, rfl, u.trans um⟩
theorem sz_withoutL {P : az_Hp → Prop} {a : Int → Int} (hK : sz_K P a n) (hs : ∀ τ, P τ → τ.2 804 70 = n) (n60 : n ≤ 60) : ∀ (d k : Nat) (σ : az_Hp) (i : Nat), d < k → (i : Int) + d = n → P σ → fz_X11_firstWithout_2 2000000 k σ 804 i = sz_srch ((List.range' i d).map (fun t : Nat => (t : Int))) σ := by
  intro d
  induction d with
  | zero =>
    intro k σ i hk hi hP
    obtain ⟨k, rfl⟩ : ∃ k', k = k' + 1 := ⟨k - 1, by omega⟩
    unfold fz_X11_firstWithout_2
    rw [hs σ hP, if_neg (by omega)]
    rfl
  | succ d ih =>
    intro k σ i hk hi hP
    obtain ⟨k, rfl⟩ : ∃ k', k = k' + 1 := ⟨k - 1, by omega⟩
    obtain ⟨r, r1, r2⟩ := hK.2.2.2 σ i hP (by omega) (by omega)
    rw [List.range'_succ, List.map_cons]
    show _ = ((sz_done σ i).bind fun r => if r.1 = -1 then sz_srch ((List.range' (i + 1) d).map (fun t : Nat => (t : Int))) r.2 else some r)
    unfold fz_X11_firstWithout_2
    rw [hs σ hP, if_pos (by omega)]
    show ((sz_done σ i).bind fun r1 => (if r1.1 = (-1) then fz_X11_firstWithout_2 2000000 k r1.2 804 (az_w32 (i + 1)) else (some (r1.1, r1.2)))) = _
    rw [r1, Option.bind_some, Option.bind_some, az_w32_id (by omega) (by omega)]
    by_cases e : r.1 = -1
    · rw [if_pos e, if_pos e]
      exact ih k r.2 (i + 1) (by omega) (by omega) r2
    · rw [if_neg e, if_neg e]
def sz_TY (a k : Int) : Prop := sz_TX a k ∨ sz_S a k
theorem sz_place {σx σm : az_Hp} {o : Int} (ho : o = 0 ∨ o = 1) (hC : rz_C σx σm T s) (hR : rz_R σx σm T s V 244 840 n) (h4 : σx.2 243 4 = 0) (h72 : σm.2 804 72 = 0) (h70 : σm.2 804 70 = n) :
    ∃ q σ1 σx' σm', bz_Upd σx σ1 sz_S ∧ fz_X5_findPlace 2000000 σx 243 o = some (if q = -1 then 0 else 1, σx') ∧ (if o = 0 then fz_X11_firstWithin 2000000 200 σm 804 0 else fz_X11_firstWithout 2000000 σm 804) = some (q, σm') ∧ bz_Upd σx σx' sz_TY ∧ bz_Upd σm σm' sz_TM ∧ -1 ≤ q ∧ q < σx.2 T 2 ∧ (q ≠ -1 → sz_Fd σ1 σx' σm' n q) := by
  have hF := hC.1.1
  have hT := hC.1.2.2.1.1
  obtain ⟨n1, n60⟩ := hR.2.2.1
  have hK := sz_hasK hC hR h72
  have ha3 : ∀ j, bz_ra σx 244 j ≤ 3 := fun j => by unfold bz_ra bz_ar; split <;> omega
  have fin : ∀ (L : List Int) (σ1 : az_Hp), L.length = n.toNat → bz_Upd σx σ1 sz_S → (∀ p : Nat, (p : Int) < n → L[p]? = some (σ1.2 249 p)) → (∀ p ∈ L, 0 ≤ p ∧ p < n) → fz_X5_orderPlaces 2000000 σx 243 o = some σ1 → (if o = 0 then fz_X11_firstWithin 2000000 200 σm 804 0 else fz_X11_firstWithout 2000000 σm 804) = sz_srch L σm → ∃ q σ1 σx' σm', bz_Upd σx σ1 sz_S ∧ fz_X5_findPlace 2000000 σx 243 o = some (if q = -1 then 0 else 1, σx') ∧ (if o = 0 then fz_X11_firstWithin 2000000 200 σm 804 0 else fz_X11_firstWithout 2000000 σm 804) = some (q, σm') ∧ bz_Upd σx σx' sz_TY ∧ bz_Upd σm σm' sz_TM ∧ -1 ≤ q ∧ q < σx.2 T 2 ∧ (q ≠ -1 → sz_Fd σ1 σx' σm' n q) := by
    intro L σ1 hl u hL hp hX hM
    obtain ⟨C1, R1⟩ := sz_ordC hC hR u
    obtain ⟨q, x2, m2, w1, w2, w3, w4, w5, w6, w7⟩ := sz_find L 2000000 σ1 σm 0 C1 R1 (by rw [u.2.2 243 4 (fun z => by unfold sz_S at z; omega)]; exact h4) h72 (by omega) (by omega) (by omega) (fun p hp => by rw [Int.zero_add]; exact hL p (by omega)) hp
    rw [u.2.2 T 2 (fun z => by unfold sz_S at z; omega)] at w6
    refine ⟨q, σ1, x2, m2, u, ?_, hM.trans w1, (u.weak fun _ _ z => Or.inr z).trans (w3.weak fun _ _ z => Or.inl z), w4, w5, w6, w7⟩
    unfold fz_X5_findPlace
    rw [hX, Option.bind_some]
    exact w2
  rcases ho with rfl | rfl
  · obtain ⟨L, hL⟩ := sz_PO.ex (a := bz_ra σx 244) bz_ra0 60 n.toNat 1 0 (by omega) hR.2.2.2.2.1
    obtain ⟨σ1, x1, x2, x3⟩ := sz_order0 hF hR.1 hR.2.1 n1 hL
    have mem := sz_PO.mem hL
    have len := sz_PO.len hL
    refine fin L σ1 len.1 x2 x3 (fun p hp => by have := mem p hp; omega) x1 ?_
    rw [if_pos rfl]
    rcases hL with ⟨h, -⟩ | ⟨-, d1, d2, L1, L2, e, h1, h2, rfl⟩
    · omega
    have len2 := sz_PO.len h2
    have d20 : d2 = 0 := len2.2.1 (by omega) (by omega)
    subst d20
    have L20 : L2 = [] := List.eq_nil_of_length_eq_zero len2.1
    subst L20
    show fz_X11_firstWithin_6 2000000 (fz_X11_firstWithin 2000000 199) 2000000 σm 804 0 (az_w32 (0 + 1)) 0 = _
    rw [az_w32_id (by omega) (by omega)]
    have a3 := ha3 0
    exact sz_within hK bz_ra0 ha3 n60 59 h1 199 2000000 σm 0 0 (by omega) (by omega) bz_Upd.refl (by omega) (by omega) (by omega) (by omega) (by omega) (by omega)
  · obtain ⟨σ1, x1, x2, x3⟩ := sz_order1 hF hR.2.1 n60 n.toNat 2000000 σx 0 (by omega) (by omega) (by omega) bz_Upd.refl (fun j j0 j1 => by omega)
    refine fin ((List.range' 0 n.toNat).map (fun t : Nat => (t : Int))) σ1 (by rw [List.length_map, List.length_range']) x2 (fun p hp => ?_) (fun p hp => ?_) x1 ?_
    · rw [List.getElem?_map, List.getElem?_range' (i := p) (by omega), x3 p (by omega) hp]
      simp
    · obtain ⟨t, ht, rfl⟩ := List.mem_map.mp hp
      have := List.mem_range'_1.mp ht
      omega
    · rw [if_neg (by decide)]
      exact sz_withoutL hK (fun τ u => by rw [u.2.2 804 70 (fun z => by unfold sz_TM rz_TM cz_SM at z; omega)]; exact h70) n60 n.toNat 2000000 σm 0 (by omega) (by omega) bz_Upd.refl
end SP
