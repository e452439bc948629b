/-! the search for a place, class and reference side by side; nothing is given -/
def sz_TX (a k : Int) : Prop := rz_TX a k ∨ (a = 243 ∧ (k = 5 ∨ k = 8 ∨ k = 9))
def sz_TM (a k : Int) : Prop := rz_TM a k ∨ (a = 804 ∧ k = 73)
theorem sz_updC {σx σm σx' σm' : az_Hp} {T s : Int} (h : rz_C σx σm T s) (hx : bz_Upd σx σx' sz_TX) (hm : bz_Upd σm σm' sz_TM) : rz_C σx' σm' T s := by
  obtain ⟨h1, h2, h3⟩ := h
  have hT := h1.2.2.1.1
  have ex : ∀ a k, a = T ∨ a = T + 7 ∨ a = T + 11 ∨ (a = 243 ∧ k = 2) → σx'.2 a k = σx.2 a k := fun a k q => hx.2.2 a k (fun c => by unfold sz_TX rz_TX cz_SJ at c; omega)
  have em : ∀ k, σm'.2 835 k = σm.2 835 k := fun k => hm.2.2 _ k (fun c => by unfold sz_TM rz_TM cz_SM at c; omega)
  refine ⟨h1.gen hx hm (fun a k q => by unfold sz_TX rz_TX cz_SJ at q; unfold nz_t; omega) (fun a k q => by unfold sz_TM rz_TM cz_SM at q; unfold nz_t; omega), by rw [ex _ _ (by omega)]; exact h2, fun i e => ?_⟩
  rw [ex T 2 (by omega), ex (T + 7) i (by omega), ex (T + 7) e (by omega), ex (T + 11) _ (by omega), em]
  exact h3 i e
theorem sz_updR {σx σm σx' σm' : az_Hp} {T s n : Int} {V : Int → Int → Prop} (h : rz_R σx σm T s V 244 840 n) (hT : T = 3 ∨ T = 82) (hx : bz_Upd σx σx' sz_TX) (hm : bz_Upd σm σm' sz_TM) : rz_R σx' σm' T s V 244 840 n := by
  obtain ⟨a1, a2, a3, a4, a5, a6, a7, a8⟩ := h
  have k1 : ∀ k, σx'.2 244 k = σx.2 244 k := fun k => hx.2.2 _ _ (fun c => by unfold sz_TX rz_TX cz_SJ at c; omega)
  have k2 : ∀ k, σx'.2 (244 + 1) k = σx.2 (244 + 1) k := fun k => hx.2.2 _ _ (fun c => by unfold sz_TX rz_TX cz_SJ at c; omega)
  have k3 : bz_ra σx' 244 = bz_ra σx 244 := funext fun k => by unfold bz_ra; rw [k2]
  have tS : bz_tS σm σm' := fun a k q => hm.2.2 a k (fun c => by unfold sz_TM rz_TM cz_SM at c; omega)
  refine ⟨by unfold bz_rw at a1 ⊢; simp only [k1, k2]; exact a1, by rw [k1]; exact a2, a3, fun i i0 i1 => ?_, by rw [k3]; exact a5, by rw [hm.ln]; exact a6, a7, a8⟩
  rw [bz_ct_tS tS, bz_ft_tS tS, tS T 0 (by omega), tS T 1 (by omega), k2, hm.2.2 840 i (fun c => by unfold sz_TM rz_TM cz_SM at c; omega)]
  exact a4 i i0 i1
section SF
variable {T s n : Int} {V : Int → Int → Prop}
/-- the reference at one place -/
theorem sz_doneRun {σm : az_Hp} {p : Int} (hF : bz_Fx σm) (h72 : σm.2 804 72 = 0) (p0 : 0 ≤ p) (p1 : p < 60) : sz_done σm p = (if 200 ≤ σm.2 840 p ∧ σm.2 840 p < 1000 then fz_X11_firing 2000000 (az_wr σm 804 73 p) 804 840 p else some (-1, az_wr σm 804 73 p)) := by
  have u : bz_Upd σm (az_wr σm 804 73 p) sz_TM := bz_Upd.wr bz_Upd.refl (Or.inr ⟨rfl, rfl⟩) (by decide)
  have hF' := hF.upd u
  have l := ln_840 hF'
  have rd : az_ard (az_wr σm 804 73 p) 840 p = some (σm.2 840 p) := by rw [bz_ard p0 (by omega), az_wr_ne (by omega)]
  have e72 : (az_wr σm 804 73 p).2 804 72 = 0 := by rw [az_wr_ne (by omega)]; exact h72
  unfold sz_done fz_X11_doneAt
  rw [fx_804_68 hF', Option.bind_some, rd, Option.bind_some, mz_isFam, Option.bind_some]
  by_cases c : 200 ≤ σm.2 840 p ∧ σm.2 840 p < 1000
  · rw [if_pos c, if_pos c, if_neg (show ¬ (1 : Int) = 0 by decide)]
    have fin : fz_X11_doneAt_16 2000000 (1999999 + 1) (az_wr σm 804 73 p) 804 p 0 = fz_X11_firing 2000000 (az_wr σm 804 73 p) 804 840 p := by
      unfold fz_X11_doneAt_16
      rw [if_pos e72, fx_804_68 hF', Option.bind_some]
      have id' : ∀ o : Option (Int × az_Hp), (o.bind fun r => some (r.1, r.2)) = o := fun o => by cases o <;> rfl
      rw [id']
      split <;> rfl
    exact fin
  · rw [if_neg c, if_neg c, if_pos rfl]
def sz_Fd (σx x m : az_Hp) (n q : Int) : Prop := x.2 243 5 = q ∧ x.2 243 9 = -1 ∧ 0 ≤ x.2 243 8 ∧ x.2 243 8 < n ∧ m.2 804 73 = x.2 243 8 ∧ (200 ≤ m.2 840 (x.2 243 8) ∧ m.2 840 (x.2 243 8) < 1000) ∧ ∃ x0 x1, bz_Upd σx x0 sz_TX ∧ fz_X5_fits 2000000 x0 243 q 244 (x.2 243 8) = some (1, x1) ∧ ∀ v, x.2 252 v = x1.2 252 v
theorem sz_find : ∀ (L : List Int) (k : Nat) (σx σm : az_Hp) (v : Int), rz_C σx σm T s → rz_R σx σm T s V 244 840 n → σx.2 243 4 = 0 → σm.2 804 72 = 0 → L.length < k → 0 ≤ v → v + L.length = n → (∀ p : Nat, p < L.length → L[p]? = some (σx.2 249 (v + p))) → (∀ p ∈ L, 0 ≤ p ∧ p < n) →
    ∃ q σx' σm', sz_srch L σm = some (q, σm') ∧ fz_X5_findPlace_7 2000000 k σx 243 v = some (if q = -1 then 0 else 1, σx') ∧ bz_Upd σx σx' sz_TX ∧ bz_Upd σm σm' sz_TM ∧ -1 ≤ q ∧ q < σx.2 T 2 ∧ (q ≠ -1 → sz_Fd σx σx' σm' n q) := by
  intro L
  induction L with
  | nil =>
    intro k σx σm v hC hR h4 h72 hk v0 hv hL hp
    obtain ⟨k, rfl⟩ : ∃ k', k = k' + 1 := ⟨k - 1, by omega⟩
    have nb := mz_nb hC.1
    refine ⟨-1, σx, σm, rfl, ?_, bz_Upd.refl, bz_Upd.refl, by omega, by omega, fun q => absurd rfl q⟩
    unfold fz_X5_findPlace_7
    rw [fx_243_3 hC.1.1, Option.bind_some, if_neg (by rw [hR.2.1]; simp only [List.length_nil, Int.natCast_zero] at hv; omega), if_pos rfl]
  | cons p L ih =>
    intro k σx σm v hC hR h4 h72 hk v0 hv hL hp
    obtain ⟨k, rfl⟩ : ∃ k', k = k' + 1 := ⟨k - 1, by omega⟩
    have hF := hC.1.1
    have hT := hC.1.2.2.1.1
    have n60 := hR.2.2.1.2
    have nb := mz_nb hC.1
    obtain ⟨p0, p1⟩ := hp p (List.mem_cons_self ..)
    rw [List.length_cons] at hv hk
    have op : σx.2 249 v = p := by
      have := hL 0 (by rw [List.length_cons]; omega)
      simp only [List.getElem?_cons_zero, Option.some.injEq, Int.natCast_zero, Int.add_zero] at this
      exact this.symm
    have l249 := ln_249 hF
    have rw' := bz_fxR hF hR.1.1
    have l245 : az_ln σx 245 = 60 := rw'.2.trans (by decide)
    have g245 : az_gref σx 244 0 = some 245 := bz_gr rw'.1 (by omega)
    have ux8 : bz_Upd σx (az_wr σx 243 8 p) sz_TX := bz_Upd.wr bz_Upd.refl (Or.inr ⟨rfl, by omega⟩) (by decide)
    have ux5 : bz_Upd σx (az_wr (az_wr σx 243 8 p) 243 5 (-1)) sz_TX := bz_Upd.wr ux8 (Or.inr ⟨rfl, by omega⟩) (by decide)
    have ux9 : bz_Upd σx (az_wr (az_wr (az_wr σx 243 8 p) 243 5 (-1)) 243 9 (-1)) sz_TX := bz_Upd.wr ux5 (Or.inr ⟨rfl, by omega⟩) (by decide)
    have um : bz_Upd σm (az_wr σm 804 73 p) sz_TM := bz_Upd.wr bz_Upd.refl (Or.inr ⟨rfl, rfl⟩) (by decide)
    have tb := hC.1.tb.2.1
    have cr := hR.2.2.2.1 p p0 p1
    have iff : bz_kd (σx.2 245 p) = 2 ↔ (200 ≤ σm.2 840 p ∧ σm.2 840 p < 1000) := uz_kd cr tb
    have I : bz_I (σx.2 245 p) := hR.1.2.2.2 p p0 (by rw [hR.2.1]; exact p1)
    have rd : az_ard (az_wr σx 243 8 p) 245 p = some (σx.2 245 p) := by rw [bz_ard p0 (by rw [bz_ln_wr]; omega), az_wr_ne (by omega)]
    have g3 := fx_243_3 (hF.upd ux8)
    have g245' : az_gref (az_wr σx 243 8 p) 244 0 = some 245 := by rw [bz_gref_wr (by omega)]; exact g245
    have dr := sz_doneRun (p := p) hC.1.2.1 h72 p0 (by omega)
    have nextL : ∀ x : az_Hp, (∀ j, x.2 249 j = σx.2 249 j) → ∀ t : Nat, t < L.length → L[t]? = some (x.2 249 (v + 1 + t)) := by
      intro x hx t ht
      have := hL (t + 1) (by rw [List.length_cons]; omega)
      rw [List.getElem?_cons_succ] at this
      rw [this, hx, show v + ((t + 1 : Nat) : Int) = v + 1 + t by omega]
    have start : ∀ R, fz_X5_findPlace_7 2000000 (k + 1) σx 243 v = R ↔ (if bz_kd (σx.2 245 p) = 2 then ((fz_X5_givenAt 2000000 (az_wr (az_wr σx 243 8 p) 243 5 (-1)) 243 p).bind fun r8 => (if r8 = (-1) then ((fz_X5_firingAt 2000000 (az_wr (az_wr (az_wr σx 243 8 p) 243 5 (-1)) 243 9 r8) 243 244 p).bind fun r10 => fz_X5_findPlace_91 2000000 (fz_X5_findPlace_7 2000000 k) (az_wr r10.2 243 5 r10.1) 243 v) else fz_X5_findPlace_91 2000000 (fz_X5_findPlace_7 2000000 k) (az_wr (az_wr (az_wr σx 243 8 p) 243 5 (-1)) 243 9 r8) 243 v)) else fz_X5_findPlace_7 2000000 k (az_wr σx 243 8 p) 243 (v + 1)) = R := by
      intro R
      conv => lhs; lhs; unfold fz_X5_findPlace_7
      rw [fx_243_3 hF, Option.bind_some, if_pos (by rw [hR.2.1]; omega), fx_243_12 hF, Option.bind_some, bz_ard v0 (by omega), Option.bind_some, op, g3, Option.bind_some, g245', Option.bind_some, az_wr_same, rd, Option.bind_some, bz_kind I, Option.bind_some, az_w32_id (z := v + 1) (by omega) (by omega)]
      have e8 : (az_wr (az_wr σx 243 8 p) 243 5 (-1)).2 243 8 = p := by rw [az_wr_ne (by omega), az_wr_same]
      have e8' : ∀ r8, (az_wr (az_wr (az_wr σx 243 8 p) 243 5 (-1)) 243 9 r8).2 243 8 = p := fun r8 => by rw [az_wr_ne (by omega)]; exact e8
      have e9 : ∀ r8, (az_wr (az_wr (az_wr σx 243 8 p) 243 5 (-1)) 243 9 r8).2 243 9 = r8 := fun r8 => az_wr_same
      have g3' : ∀ r8, az_gref (az_wr (az_wr (az_wr σx 243 8 p) 243 5 (-1)) 243 9 r8) 243 3 = some 244 := fun r8 => by rw [bz_gref_wr (by omega), bz_gref_wr (by omega)]; exact g3
      simp only [e8, e8', e9, g3', Option.bind_some]
    by_cases c : 200 ≤ σm.2 840 p ∧ σm.2 840 p < 1000
    · rw [if_pos c] at dr
      have gv : fz_X5_givenAt 2000000 (az_wr (az_wr σx 243 8 p) 243 5 (-1)) 243 p = some (-1) := by
        show fz_X5_givenAt_2 2000000 (1999999 + 1) (az_wr (az_wr σx 243 8 p) 243 5 (-1)) 243 p 0 = some (-1)
        unfold fz_X5_givenAt_2
        rw [az_wr_ne (by omega), az_wr_ne (by omega), if_pos h4]
      have C1 := sz_updC hC ux9 um
      have R1 := sz_updR hR hT ux9 um
      obtain ⟨q, x1, m1, y1, y2, y3, y4, y5, y6, y7⟩ := rz_firing C1 R1 ⟨by decide, by decide, by decide⟩ p0 p1
      have ux : bz_Upd σx (az_wr x1 243 5 q) sz_TX := bz_Upd.wr (ux9.trans (y3.weak fun _ _ z => Or.inl z)) (Or.inr ⟨rfl, by omega⟩) (by decide)
      have umm : bz_Upd σm m1 sz_TM := um.trans (y4.weak fun _ _ z => Or.inl z)
      have e9 : (az_wr x1 243 5 q).2 243 9 = -1 := by rw [az_wr_ne (by omega), y3.2.2 243 9 (fun z => by unfold rz_TX cz_SJ at z; omega), az_wr_same]
      have e8 : (az_wr x1 243 5 q).2 243 8 = p := by rw [az_wr_ne (by omega), y3.2.2 243 8 (fun z => by unfold rz_TX cz_SJ at z; omega), az_wr_ne (by omega), az_wr_ne (by omega), az_wr_same]
      have e5 : (az_wr x1 243 5 q).2 243 5 = q := az_wr_same
      have nT : (az_wr (az_wr (az_wr σx 243 8 p) 243 5 (-1)) 243 9 (-1)).2 T 2 = σx.2 T 2 := ux9.2.2 _ _ (fun z => by unfold sz_TX rz_TX cz_SJ at z; omega)
      rw [nT] at y6
      have run : fz_X5_findPlace_7 2000000 (k + 1) σx 243 v = (if q = -1 then fz_X5_findPlace_7 2000000 k (az_wr x1 243 5 q) 243 (v + 1) else some (1, az_wr x1 243 5 q)) := by
        rw [start]
        rw [if_pos (iff.mpr c), gv, Option.bind_some, if_pos rfl, y1, Option.bind_some]
        unfold fz_X5_findPlace_91
        rw [if_pos e9, e5, az_w32_id (by omega) (by omega)]
      have runM : sz_srch (p :: L) σm = (if q = -1 then sz_srch L m1 else some (q, m1)) := by
        show ((sz_done σm p).bind fun r => if r.1 = -1 then sz_srch L r.2 else some r) = _
        rw [dr, y2, Option.bind_some]
      by_cases qm : q = -1
      · rw [if_pos qm] at run runM
        have k4 : (az_wr x1 243 5 q).2 243 4 = 0 := by rw [ux.2.2 243 4 (fun z => by unfold sz_TX rz_TX cz_SJ at z; omega)]; exact h4
        have k72 : m1.2 804 72 = 0 := by rw [umm.2.2 804 72 (fun z => by unfold sz_TM rz_TM cz_SM at z; omega)]; exact h72
        obtain ⟨q', x2, m2, w1, w2, w3, w4, w5, w6, w7⟩ := ih k (az_wr x1 243 5 q) m1 (v + 1) (sz_updC hC ux umm) (sz_updR hR hT ux umm) k4 k72 (by omega) (by omega) (by omega) (nextL _ (fun j => ux.2.2 249 j (fun z => by unfold sz_TX rz_TX cz_SJ at z; omega))) (fun t ht => hp t (List.mem_cons_of_mem _ ht))
        have nT2 : (az_wr x1 243 5 q).2 T 2 = σx.2 T 2 := ux.2.2 _ _ (fun z => by unfold sz_TX rz_TX cz_SJ at z; omega)
        rw [nT2] at w6
        refine ⟨q', x2, m2, runM.trans w1, run.trans w2, ux.trans w3, umm.trans w4, w5, w6, fun z => ?_⟩
        obtain ⟨z1, z2, z3, z4, z5, z6, x0, x1', z7, z8, z9⟩ := w7 z
        exact ⟨z1, z2, z3, z4, z5, z6, x0, x1', ux.trans z7, z8, z9⟩
      · rw [if_neg qm] at run runM
        refine ⟨q, _, m1, runM, by rw [if_neg qm]; exact run, ux, umm, y5, y6, fun _ => ?_⟩
        obtain ⟨f1, x0, x1', f2, f3, f4⟩ := y7 (by omega)
        have c840 : m1.2 840 p = σm.2 840 p := umm.2.2 _ _ (fun z => by unfold sz_TM rz_TM cz_SM at z; omega)
        unfold sz_Fd
        rw [e8]
        refine ⟨e5, e9, p0, p1, ?_, by rw [c840]; exact c, x0, x1', ux9.trans (f2.weak fun _ _ z => Or.inl z), f3, fun w => ?_⟩
        · rw [y4.2.2 804 73 (fun z => by unfold rz_TM cz_SM at z; omega), az_wr_same]
        · rw [az_wr_ne (by omega)]; exact f4 w
    · rw [if_neg c] at dr
      have run : fz_X5_findPlace_7 2000000 (k + 1) σx 243 v = fz_X5_findPlace_7 2000000 k (az_wr σx 243 8 p) 243 (v + 1) := by
        rw [start]
        rw [if_neg (fun z => c (iff.mp z))]
      have runM : sz_srch (p :: L) σm = sz_srch L (az_wr σm 804 73 p) := by
        show ((sz_done σm p).bind fun r => if r.1 = -1 then sz_srch L r.2 else some r) = _
        rw [dr, Option.bind_some, if_pos rfl]
      have k4 : (az_wr σx 243 8 p).2 243 4 = 0 := by rw [az_wr_ne (by omega)]; exact h4
      have k72 : (az_wr σm 804 73 p).2 804 72 = 0 := by rw [az_wr_ne (by omega)]; exact h72
      obtain ⟨q', x2, m2, w1, w2, w3, w4, w5, w6, w7⟩ := ih k (az_wr σx 243 8 p) (az_wr σm 804 73 p) (v + 1) (sz_updC hC ux8 um) (sz_updR hR hT ux8 um) k4 k72 (by omega) (by omega) (by omega) (nextL _ (fun j => az_wr_ne (by omega))) (fun t ht => hp t (List.mem_cons_of_mem _ ht))
      rw [az_wr_ne (by omega)] at w6
      refine ⟨q', x2, m2, runM.trans w1, run.trans w2, ux8.trans w3, um.trans w4, w5, w6, fun z => ?_⟩
      obtain ⟨z1, z2, z3, z4, z5, z6, x0, x1', z7, z8, z9⟩ := w7 z
      exact ⟨z1, z2, z3, z4, z5, z6, x0, x1', ux8.trans z7, z8, z9⟩
end SF
