/-! the search for a place with what is given, class and reference side by side -/
def gv_Fd (σx x m : az_Hp) (T n q : Int) : Prop := (0 ≤ q ∧ q < σx.2 T 2 ∧ sz_Fd σx x m n q) ∨ ∃ g, q = 100 + g ∧ 0 ≤ g ∧ g < 6 ∧ g < x.2 161 0 ∧ x.2 243 9 = g ∧ x.2 243 5 = -1 ∧ (0 ≤ x.2 243 8 ∧ x.2 243 8 < n) ∧ m.2 804 73 = x.2 243 8
theorem gv_Fd.pre {σx x1 x m : az_Hp} {T n q : Int} (h : gv_Fd x1 x m T n q) (u : bz_Upd σx x1 sz_TX) (e : x1.2 T 2 = σx.2 T 2) : gv_Fd σx x m T n q := by
  rcases h with ⟨h1, h2, z1, z2, z3, z4, z5, z6, x0, x1', z7, z8, z9⟩ | h
  · exact Or.inl ⟨h1, by omega, z1, z2, z3, z4, z5, z6, x0, x1', u.trans z7, z8, z9⟩
  · exact Or.inr h
section GF
variable {T s n : Int} {V : Int → Int → Prop} {Q : Int → Prop}
theorem gv_find : ∀ (L : List Int) (k : Nat) (σx σm : az_Hp) (v : Int), rz_C σx σm T s → rz_R σx σm T s V 244 840 n → gv_R σx σm T s V Q → L.length < k → 0 ≤ v → v + L.length = n → (∀ p : Nat, p < L.length → L[p]? = some (σx.2 249 (v + p))) → (∀ p ∈ L, 0 ≤ p ∧ p < n) →
    ∃ q σx' σm', sz_srch L σm = some (q, σm') ∧ fz_X5_findPlace_7 2000000 k σx 243 v = some (if q = -1 then 0 else 1, σx') ∧ bz_Upd σx σx' sz_TX ∧ bz_Upd σm σm' sz_TM ∧ -1 ≤ q ∧ q < 106 ∧ (q ≠ -1 → gv_Fd σx σx' σm' T n q) := by
  intro L
  induction L with
  | nil =>
    intro k σx σm v hC hR hG hk v0 hv hL hp
    obtain ⟨k, rfl⟩ : ∃ k', k = k' + 1 := ⟨k - 1, by omega⟩
    have nb := mz_nb hC.1
    refine ⟨-1, σx, σm, rfl, ?_, bz_Upd.refl, bz_Upd.refl, by omega, by omega, fun q => absurd rfl q⟩
    unfold fz_X5_findPlace_7
    rw [fx_243_3 hC.1.1, Option.bind_some, if_neg (by rw [hR.2.1]; simp only [List.length_nil, Int.natCast_zero] at hv; omega), if_pos rfl]
  | cons p L ih =>
    intro k σx σm v hC hR hG hk v0 hv hL hp
    obtain ⟨k, rfl⟩ : ∃ k', k = k' + 1 := ⟨k - 1, by omega⟩
    have hF := hC.1.1
    have hT := hC.1.2.2.1.1
    have n60 := hR.2.2.1.2
    have nb := mz_nb hC.1
    obtain ⟨p0, p1⟩ := hp p (List.mem_cons_self ..)
    rw [List.length_cons] at hv hk
    have op : σx.2 249 v = p := by
      have := hL 0 (by rw [List.length_cons]; omega)
      simp only [List.getElem?_cons_zero, Option.some.injEq, Int.natCast_zero, Int.add_zero] at this
      exact this.symm
    have l249 := ln_249 hF
    have rw' := bz_fxR hF hR.1.1
    have l245 : az_ln σx 245 = 60 := rw'.2.trans (by decide)
    have g245 : az_gref σx 244 0 = some 245 := bz_gr rw'.1 (by omega)
    have ux8 : bz_Upd σx (az_wr σx 243 8 p) sz_TX := bz_Upd.wr bz_Upd.refl (Or.inr ⟨rfl, by omega⟩) (by decide)
    have ux5 : bz_Upd σx (az_wr (az_wr σx 243 8 p) 243 5 (-1)) sz_TX := bz_Upd.wr ux8 (Or.inr ⟨rfl, by omega⟩) (by decide)
    have ux9 : bz_Upd σx (az_wr (az_wr (az_wr σx 243 8 p) 243 5 (-1)) 243 9 (-1)) sz_TX := bz_Upd.wr ux5 (Or.inr ⟨rfl, by omega⟩) (by decide)
    have um : bz_Upd σm (az_wr σm 804 73 p) sz_TM := bz_Upd.wr bz_Upd.refl (Or.inr ⟨rfl, rfl⟩) (by decide)
    have tb := hC.1.tb.2.1
    have cr := hR.2.2.2.1 p p0 p1
    have iff : bz_kd (σx.2 245 p) = 2 ↔ (200 ≤ σm.2 840 p ∧ σm.2 840 p < 1000) := uz_kd cr tb
    have I : bz_I (σx.2 245 p) := hR.1.2.2.2 p p0 (by rw [hR.2.1]; exact p1)
    have rd : az_ard (az_wr σx 243 8 p) 245 p = some (σx.2 245 p) := by rw [bz_ard p0 (by rw [bz_ln_wr]; omega), az_wr_ne (by omega)]
    have g3 := fx_243_3 (hF.upd ux8)
    have g245' : az_gref (az_wr σx 243 8 p) 244 0 = some 245 := by rw [bz_gref_wr (by omega)]; exact g245
    have nextL : ∀ x : az_Hp, (∀ j, x.2 249 j = σx.2 249 j) → ∀ t : Nat, t < L.length → L[t]? = some (x.2 249 (v + 1 + t)) := by
      intro x hx t ht
      have := hL (t + 1) (by rw [List.length_cons]; omega)
      rw [List.getElem?_cons_succ] at this
      rw [this, hx, show v + ((t + 1 : Nat) : Int) = v + 1 + t by omega]
    have start : ∀ R, fz_X5_findPlace_7 2000000 (k + 1) σx 243 v = R ↔ (if bz_kd (σx.2 245 p) = 2 then ((fz_X5_givenAt 2000000 (az_wr (az_wr σx 243 8 p) 243 5 (-1)) 243 p).bind fun r8 => (if r8 = (-1) then ((fz_X5_firingAt 2000000 (az_wr (az_wr (az_wr σx 243 8 p) 243 5 (-1)) 243 9 r8) 243 244 p).bind fun r10 => fz_X5_findPlace_91 2000000 (fz_X5_findPlace_7 2000000 k) (az_wr r10.2 243 5 r10.1) 243 v) else fz_X5_findPlace_91 2000000 (fz_X5_findPlace_7 2000000 k) (az_wr (az_wr (az_wr σx 243 8 p) 243 5 (-1)) 243 9 r8) 243 v)) else fz_X5_findPlace_7 2000000 k (az_wr σx 243 8 p) 243 (v + 1)) = R := by
      intro R
      conv => lhs; lhs; unfold fz_X5_findPlace_7
      rw [fx_243_3 hF, Option.bind_some, if_pos (by rw [hR.2.1]; omega), fx_243_12 hF, Option.bind_some, bz_ard v0 (by omega), Option.bind_some, op, g3, Option.bind_some, g245', Option.bind_some, az_wr_same, rd, Option.bind_some, bz_kind I, Option.bind_some, az_w32_id (z := v + 1) (by omega) (by omega)]
      have e8 : (az_wr (az_wr σx 243 8 p) 243 5 (-1)).2 243 8 = p := by rw [az_wr_ne (by omega), az_wr_same]
      have e8' : ∀ r8, (az_wr (az_wr (az_wr σx 243 8 p) 243 5 (-1)) 243 9 r8).2 243 8 = p := fun r8 => by rw [az_wr_ne (by omega)]; exact e8
      have e9 : ∀ r8, (az_wr (az_wr (az_wr σx 243 8 p) 243 5 (-1)) 243 9 r8).2 243 9 = r8 := fun r8 => az_wr_same
      have g3' : ∀ r8, az_gref (az_wr (az_wr (az_wr σx 243 8 p) 243 5 (-1)) 243 9 r8) 243 3 = some 244 := fun r8 => by rw [bz_gref_wr (by omega), bz_gref_wr (by omega)]; exact g3
      simp only [e8, e8', e9, g3', Option.bind_some]
    by_cases c : 200 ≤ σm.2 840 p ∧ σm.2 840 p < 1000
    · obtain ⟨g, g1, gv, dr⟩ := (gv_doneRun (p := p) hC hR hG p0 p1).2 c
      by_cases hg : ¬ g = -1
      · have ug : bz_Upd σx (az_wr (az_wr (az_wr σx 243 8 p) 243 5 (-1)) 243 9 g) sz_TX := bz_Upd.wr ux5 (Or.inr ⟨rfl, by omega⟩) (by decide)
        have e9 : (az_wr (az_wr (az_wr σx 243 8 p) 243 5 (-1)) 243 9 g).2 243 9 = g := az_wr_same
        have e8 : (az_wr (az_wr (az_wr σx 243 8 p) 243 5 (-1)) 243 9 g).2 243 8 = p := by rw [az_wr_ne (by omega), az_wr_ne (by omega), az_wr_same]
        have e5 : (az_wr (az_wr (az_wr σx 243 8 p) 243 5 (-1)) 243 9 g).2 243 5 = -1 := by rw [az_wr_ne (by omega), az_wr_same]
        refine ⟨100 + g, az_wr (az_wr (az_wr σx 243 8 p) 243 5 (-1)) 243 9 g, az_wr σm 804 73 p, ?_, ?_, ug, um, by omega, by omega, fun _ => Or.inr ⟨g, rfl, by omega, by omega, ?_, e9, e5, by rw [e8]; exact ⟨p0, p1⟩, by rw [e8]; exact az_wr_same⟩⟩
        · show ((sz_done σm p).bind fun r => if r.1 = -1 then sz_srch L r.2 else some r) = _
          rw [dr, if_neg hg, Option.bind_some, if_neg (by simp only; omega)]
        · rw [start, if_pos (iff.mpr c), gv, Option.bind_some, if_neg hg, if_neg (by omega)]
          unfold fz_X5_findPlace_91
          rw [e9, if_neg hg]
        · rw [ug.2.2 161 0 (fun z => by unfold sz_TX rz_TX cz_SJ at z; omega)]; omega
      have hg := Decidable.not_not.mp hg
      subst hg
      rw [if_pos rfl] at dr
      have C1 := sz_updC hC ux9 um
      have R1 := sz_updR hR hT ux9 um
      obtain ⟨q, x1, m1, y1, y2, y3, y4, y5, y6, y7⟩ := rz_firing C1 R1 ⟨by decide, by decide, by decide⟩ p0 p1
      have ux : bz_Upd σx (az_wr x1 243 5 q) sz_TX := bz_Upd.wr (ux9.trans (y3.weak fun _ _ z => Or.inl z)) (Or.inr ⟨rfl, by omega⟩) (by decide)
      have umm : bz_Upd σm m1 sz_TM := um.trans (y4.weak fun _ _ z => Or.inl z)
      have e9 : (az_wr x1 243 5 q).2 243 9 = -1 := by rw [az_wr_ne (by omega), y3.2.2 243 9 (fun z => by unfold rz_TX cz_SJ at z; omega), az_wr_same]
      have e8 : (az_wr x1 243 5 q).2 243 8 = p := by rw [az_wr_ne (by omega), y3.2.2 243 8 (fun z => by unfold rz_TX cz_SJ at z; omega), az_wr_ne (by omega), az_wr_ne (by omega), az_wr_same]
      have e5 : (az_wr x1 243 5 q).2 243 5 = q := az_wr_same
      have nT : (az_wr (az_wr (az_wr σx 243 8 p) 243 5 (-1)) 243 9 (-1)).2 T 2 = σx.2 T 2 := ux9.2.2 _ _ (fun z => by unfold sz_TX rz_TX cz_SJ at z; omega)
      rw [nT] at y6
      have run : fz_X5_findPlace_7 2000000 (k + 1) σx 243 v = (if q = -1 then fz_X5_findPlace_7 2000000 k (az_wr x1 243 5 q) 243 (v + 1) else some (1, az_wr x1 243 5 q)) := by
        rw [start]
        rw [if_pos (iff.mpr c), gv, Option.bind_some, if_pos rfl, y1, Option.bind_some]
        unfold fz_X5_findPlace_91
        rw [if_pos e9, e5, az_w32_id (by omega) (by omega)]
      have runM : sz_srch (p :: L) σm = (if q = -1 then sz_srch L m1 else some (q, m1)) := by
        show ((sz_done σm p).bind fun r => if r.1 = -1 then sz_srch L r.2 else some r) = _
        rw [dr, y2, Option.bind_some]
      by_cases qm : q = -1
      · rw [if_pos qm] at run runM
        have kG : gv_R (az_wr x1 243 5 q) m1 T s V Q := hG.upd hT ux umm (fun a k q => by unfold sz_TX rz_TX cz_SJ at q; omega) (fun a k q => by unfold sz_TM rz_TM cz_SM at q; unfold nz_t; omega)
        obtain ⟨q', x2, m2, w1, w2, w3, w4, w5, w6, w7⟩ := ih k (az_wr x1 243 5 q) m1 (v + 1) (sz_updC hC ux umm) (sz_updR hR hT ux umm) kG (by omega) (by omega) (by omega) (nextL _ (fun j => ux.2.2 249 j (fun z => by unfold sz_TX rz_TX cz_SJ at z; omega))) (fun t ht => hp t (List.mem_cons_of_mem _ ht))
        refine ⟨q', x2, m2, runM.trans w1, run.trans w2, ux.trans w3, umm.trans w4, w5, w6, fun z => ?_⟩
        exact (w7 z).pre ux (ux.2.2 _ _ (fun z => by unfold sz_TX rz_TX cz_SJ at z; omega))
      · rw [if_neg qm] at run runM
        refine ⟨q, _, m1, runM, by rw [if_neg qm]; exact run, ux, umm, y5, by omega, fun _ => Or.inl ⟨by omega, y6, ?_⟩⟩
        obtain ⟨f1, x0, x1', f2, f3, f4⟩ := y7 (by omega)
        have c840 : m1.2 840 p = σm.2 840 p := umm.2.2 _ _ (fun z => by unfold sz_TM rz_TM cz_SM at z; omega)
        unfold sz_Fd
        rw [e8]
        refine ⟨e5, e9, p0, p1, ?_, by rw [c840]; exact c, x0, x1', ux9.trans (f2.weak fun _ _ z => Or.inl z), f3, fun w => ?_⟩
        · rw [y4.2.2 804 73 (fun z => by unfold rz_TM cz_SM at z; omega), az_wr_same]
        · rw [az_wr_ne (by omega)]; exact f4 w
    · have dr := (gv_doneRun (p := p) hC hR hG p0 p1).1 c
      have run : fz_X5_findPlace_7 2000000 (k + 1) σx 243 v = fz_X5_findPlace_7 2000000 k (az_wr σx 243 8 p) 243 (v + 1) := by
        rw [start]
        rw [if_neg (fun z => c (iff.mp z))]
      have runM : sz_srch (p :: L) σm = sz_srch L (az_wr σm 804 73 p) := by
        show ((sz_done σm p).bind fun r => if r.1 = -1 then sz_srch L r.2 else some r) = _
        rw [dr, Option.bind_some, if_pos rfl]
      have kG : gv_R (az_wr σx 243 8 p) (az_wr σm 804 73 p) T s V Q := hG.upd hT ux8 um (fun a k q => by unfold sz_TX rz_TX cz_SJ at q; omega) (fun a k q => by unfold sz_TM rz_TM cz_SM at q; unfold nz_t; omega)
      obtain ⟨q', x2, m2, w1, w2, w3, w4, w5, w6, w7⟩ := ih k (az_wr σx 243 8 p) (az_wr σm 804 73 p) (v + 1) (sz_updC hC ux8 um) (sz_updR hR hT ux8 um) kG (by omega) (by omega) (by omega) (nextL _ (fun j => az_wr_ne (by omega))) (fun t ht => hp t (List.mem_cons_of_mem _ ht))
      refine ⟨q', x2, m2, runM.trans w1, run.trans w2, ux8.trans w3, um.trans w4, w5, w6, fun z => ?_⟩
      exact (w7 z).pre ux8 (ux8.2.2 _ _ (fun z => by unfold sz_TX rz_TX cz_SJ at z; omega))
theorem gv_hasK {σx σm : az_Hp} (hC : rz_C σx σm T s) (hR : rz_R σx σm T s V 244 840 n) (hG : gv_R σx σm T s V Q) : sz_K (fun τ => bz_Upd σm τ sz_TM) (bz_ra σx 244) n := by
  have hT := hC.1.2.2.1.1
  have n60 := hR.2.2.1.2
  have both : ∀ τ, bz_Upd σm τ sz_TM → rz_C σx τ T s ∧ rz_R σx τ T s V 244 840 n ∧ gv_R σx τ T s V Q := fun τ u => ⟨sz_updC hC bz_Upd.refl u, sz_updR hR hT bz_Upd.refl u, hG.upd hT (bz_Upd.refl (S := fun _ _ => False)) u (fun a k q => q.elim) (fun a k q => by unfold sz_TM rz_TM cz_SM at q; unfold nz_t; omega)⟩
  have En : ∀ τ, bz_Upd σm τ sz_TM → lz_En (bz_ct τ s) (bz_ft τ s) (τ.2 T 0) (τ.2 T 1) (fun _ => V) 244 0 0 0 n 840 0 σx τ := fun τ u => (both τ u).2.1.en (both τ u).1.1 (Or.inl rfl) rfl (by omega) (by omega)
  refine ⟨fun τ u => fx_804_68 (hC.1.2.1.upd u), fun τ i u i0 i1 => ?_, fun τ d i u i0 hd hS => ?_, fun τ p u p0 p1 => ?_⟩
  · obtain ⟨t1, t2, -, -⟩ := (En τ u).tk i0 i1
    rw [Int.zero_add] at t1 t2
    exact ⟨_, t1, t2⟩
  · have := (En τ u).size i0 hd hS
    rw [Int.zero_add] at this
    exact this
  · obtain ⟨C1, R1, e72⟩ := both τ u
    have um : bz_Upd τ (az_wr τ 804 73 p) sz_TM := bz_Upd.wr bz_Upd.refl (Or.inr ⟨rfl, rfl⟩) (by decide)
    by_cases c : 200 ≤ τ.2 840 p ∧ τ.2 840 p < 1000
    · obtain ⟨g, g1, g2, g3⟩ := (gv_doneRun (p := p) C1 R1 e72 p0 p1).2 c
      rw [g3]
      by_cases hg : g = -1
      · rw [if_pos hg]
        obtain ⟨q, x1, m1, y1, y2, y3, y4, -⟩ := rz_firing (sz_updC C1 bz_Upd.refl um) (sz_updR R1 hT bz_Upd.refl um) ⟨by decide, by decide, by decide⟩ p0 p1
        exact ⟨_, y2, (u.trans um).trans (y4.weak fun _ _ z => Or.inl z)⟩
      · rw [if_neg hg]
        exact ⟨_, rfl, u.trans um⟩
    · rw [(gv_doneRun (p := p) C1 R1 e72 p0 p1).1 c]
      exact ⟨_, rfl, u.trans um⟩
theorem gv_place {σx σm : az_Hp} {o : Int} (ho : o = 0 ∨ o = 1) (hC : rz_C σx σm T s) (hR : rz_R σx σm T s V 244 840 n) (hG : gv_R σx σm T s V Q) (h70 : σm.2 804 70 = n) :
    ∃ q σ1 σx' σm', bz_Upd σx σ1 sz_S ∧ fz_X5_findPlace 2000000 σx 243 o = some (if q = -1 then 0 else 1, σx') ∧ (if o = 0 then fz_X11_firstWithin 2000000 200 σm 804 0 else fz_X11_firstWithout 2000000 σm 804) = some (q, σm') ∧ bz_Upd σx σx' sz_TY ∧ bz_Upd σm σm' sz_TM ∧ -1 ≤ q ∧ q < 106 ∧ (q ≠ -1 → gv_Fd σ1 σx' σm' T n q) := by
  have hF := hC.1.1
  have hT := hC.1.2.2.1.1
  obtain ⟨n1, n60⟩ := hR.2.2.1
  have hK := gv_hasK hC hR hG
  have ha3 : ∀ j, bz_ra σx 244 j ≤ 3 := fun j => by unfold bz_ra bz_ar; split <;> omega
  have fin : ∀ (L : List Int) (σ1 : az_Hp), L.length = n.toNat → bz_Upd σx σ1 sz_S → (∀ p : Nat, (p : Int) < n → L[p]? = some (σ1.2 249 p)) → (∀ p ∈ L, 0 ≤ p ∧ p < n) → fz_X5_orderPlaces 2000000 σx 243 o = some σ1 → (if o = 0 then fz_X11_firstWithin 2000000 200 σm 804 0 else fz_X11_firstWithout 2000000 σm 804) = sz_srch L σm → ∃ q σ1 σx' σm', bz_Upd σx σ1 sz_S ∧ fz_X5_findPlace 2000000 σx 243 o = some (if q = -1 then 0 else 1, σx') ∧ (if o = 0 then fz_X11_firstWithin 2000000 200 σm 804 0 else fz_X11_firstWithout 2000000 σm 804) = some (q, σm') ∧ bz_Upd σx σx' sz_TY ∧ bz_Upd σm σm' sz_TM ∧ -1 ≤ q ∧ q < 106 ∧ (q ≠ -1 → gv_Fd σ1 σx' σm' T n q) := by
    intro L σ1 hl u hL hp hX hM
    obtain ⟨C1, R1⟩ := sz_ordC hC hR u
    obtain ⟨q, x2, m2, w1, w2, w3, w4, w5, w6, w7⟩ := gv_find L 2000000 σ1 σm 0 C1 R1 (hG.upd hT u (bz_Upd.refl (S := fun _ _ => False)) (fun a k q => by unfold sz_S at q; omega) (fun a k q => q.elim)) (by omega) (by omega) (by omega) (fun p hp => by rw [Int.zero_add]; exact hL p (by omega)) hp
    refine ⟨q, σ1, x2, m2, u, ?_, hM.trans w1, (u.weak fun _ _ z => Or.inr z).trans (w3.weak fun _ _ z => Or.inl z), w4, w5, w6, w7⟩
    unfold fz_X5_findPlace
    rw [hX, Option.bind_some]
    exact w2
  rcases ho with rfl | rfl
  · obtain ⟨L, hL⟩ := sz_PO.ex (a := bz_ra σx 244) bz_ra0 60 n.toNat 1 0 (by omega) hR.2.2.2.2.1
    obtain ⟨σ1, x1, x2, x3⟩ := sz_order0 hF hR.1 hR.2.1 n1 hL
    have mem := sz_PO.mem hL
    have len := sz_PO.len hL
    refine fin L σ1 len.1 x2 x3 (fun p hp => by have := mem p hp; omega) x1 ?_
    rw [if_pos rfl]
    rcases hL with ⟨h, -⟩ | ⟨-, d1, d2, L1, L2, e, h1, h2, rfl⟩
    · omega
    have len2 := sz_PO.len h2
    have d20 : d2 = 0 := len2.2.1 (by omega) (by omega)
    subst d20
    have L20 : L2 = [] := List.eq_nil_of_length_eq_zero len2.1
    subst L20
    show fz_X11_firstWithin_6 2000000 (fz_X11_firstWithin 2000000 199) 2000000 σm 804 0 (az_w32 (0 + 1)) 0 = _
    rw [az_w32_id (by omega) (by omega)]
    have a3 := ha3 0
    exact sz_within hK bz_ra0 ha3 n60 59 h1 199 2000000 σm 0 0 (by omega) (by omega) bz_Upd.refl (by omega) (by omega) (by omega) (by omega) (by omega) (by omega)
  · obtain ⟨σ1, x1, x2, x3⟩ := sz_order1 hF hR.2.1 n60 n.toNat 2000000 σx 0 (by omega) (by omega) (by omega) bz_Upd.refl (fun j j0 j1 => by omega)
    refine fin ((List.range' 0 n.toNat).map (fun t : Nat => (t : Int))) σ1 (by rw [List.length_map, List.length_range']) x2 (fun p hp => ?_) (fun p hp => ?_) x1 ?_
    · rw [List.getElem?_map, List.getElem?_range' (i := p) (by omega), x3 p (by omega) hp]
      simp
    · obtain ⟨t, ht, rfl⟩ := List.mem_map.mp hp
      have := List.mem_range'_1.mp ht
      omega
    · rw [if_neg (by decide)]
      exact sz_withoutL hK (fun τ u => by rw [u.2.2 804 70 (fun z => by unfold sz_TM rz_TM cz_SM at z; omega)]; exact h70) n60 n.toNat 2000000 σm 0 (by omega) (by omega) bz_Upd.refl
end GF
