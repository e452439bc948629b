theorem az_store2 {G : az_G} {τ : az_Shp} {nL i : Nat} {ls : Array Slot} {L : List az_AV} {a : az_AV} {v : Value} (h : az_LV G τ nL ls L) (hi : i + 1 < nL) (hv : az_V G τ a v) (hc : v.category = 2) (hp : ∀ b : az_AV, i ≠ 0 → L[i - 1]? = some b → b.1 ≠ 1) :
    ∃ ls', storeLocals ls i v = some ls' ∧ az_LV G τ nL ls' ((L.set i a).set (i + 1) (31, 0)) := by
  obtain ⟨hs, hw, hL⟩ := h
  obtain ⟨ls', e', h1, h2, h3⟩ := lv_store2 (ls := ls) (nL := nL) (l := []) (i := i) (v := v) ⟨hs, hw, fun q hq => by cases hq⟩ hi hc
  refine ⟨ls', e', h1, h2, fun k b hk => ?_⟩
  by_cases hk1 : k = i + 1
  · subst hk1
    rw [List.getElem?_set, if_pos rfl] at hk
    split at hk
    · cases hk; exact Or.inl rfl
    · cases hk
  rw [List.getElem?_set, if_neg (fun q => hk1 q.symm)] at hk
  by_cases hki : k = i
  · subst hki
    rw [List.getElem?_set, if_pos rfl] at hk
    split at hk
    · cases hk; exact Or.inr ⟨v, h3 (k, v) List.mem_cons_self, hv⟩
    · cases hk
  · rw [List.getElem?_set, if_neg (fun q => hki q.symm)] at hk
    by_cases hb31 : b.1 = 31
    · exact Or.inl hb31
    rcases hL k b hk with hb | ⟨w, hw1, hw2⟩
    · exact Or.inl hb
    · right
      refine ⟨w, ?_, hw2⟩
      obtain ⟨ls'', e'', g1, g2, g3⟩ := lv_store2 (ls := ls) (nL := nL) (l := [(k, w)]) (i := i) (v := v) ⟨hs, hw, fun q hq => by cases List.mem_singleton.mp hq; exact hw1⟩ hi hc
      cases e'.symm.trans e''
      refine g3 (k, w) (List.mem_cons_of_mem _ (List.mem_filter.mpr ⟨List.mem_singleton.mpr rfl, ?_⟩))
      have n1 : (k == i) = false := by simpa using hki
      have n3 : (k == i + 1) = false := by simpa using hk1
      have n2 : (k + 1 == i && w.category == 2) = false := by
        by_cases hk2 : k + 1 = i
        · have hb1 : b.1 ≠ 1 := hp b (by omega) (by rw [← hk2]; exact hk)
          have : w.category = 1 := az_vcat1 hw2 (az_beqf hb1) (az_beqf hb31)
          simp [this]
        · simp [hk2]
      simp [n1, n2, n3]
section AZ7
variable {α : Type} {Z : az_Z} {y : MethodName} {cc : ByteArray} {nL d pc : Nat} {ret : Option FieldType} {L st : List az_AV} {σ : az_Hp} {T : az_R}
theorem az_lstore (C : az_C Z y cc nL ret d) {i : Nat} {x : Int} (hi : i + 1 < nL) (hp : ∀ b : az_AV, i ≠ 0 → L[i - 1]? = some b → b.1 ≠ 1) (hd : decode cc pc = .ok (.lstore i, 2)) (k : az_AW Z nL (pc + 2) ((L.set i (1, x)).set (i + 1) (31, 0)) st σ T) : az_AW Z nL pc L ((1, x) :: st) σ T := by
  obtain ⟨p, l, e, R, s, m, args, below, meth, c, G, τ0⟩ := Z
  intro H locs ls vs hR hE hl hL hV
  obtain ⟨w, vs', rfl, hw, hV⟩ := az_vll hV
  obtain ⟨ls', e', hL'⟩ := az_store2 (a := (1, x)) hL hi ⟨w, rfl, hw⟩ rfl hp
  have kk := k H locs ls' vs' hR hE hl hL' hV
  have hexec := C.1
  have hb := C.2.1
  dsimp only at hexec hb
  intro TT hT X
  obtain ⟨t, a, b⟩ := kk TT hT X
  refine ⟨t, ?_, b⟩
  jvm_step X.here [X.here.top, ↓top_set X.here.top, hexec, hb, hd, e']
  exact a
theorem az_lcmp (C : az_C Z y cc nL ret d) {x z : Int} (hd : decode cc pc = .ok (.lcmp, 1)) (k : az_AW Z nL (pc + 1) L ((0, az_lcmpV x z) :: st) σ T) : az_AW Z nL pc L ((1, z) :: (1, x) :: st) σ T := by
  obtain ⟨p, l, e, R, s, m, args, below, meth, c, G, τ0⟩ := Z
  intro H locs ls vs hR hE hl hL hV
  obtain ⟨w2, vs1, rfl, hw2, hV⟩ := az_vll hV
  obtain ⟨w1, vs2, rfl, hw1, hV⟩ := az_vll hV
  refine W.lcmp C.1 C.2.1 hd (k H locs ls _ hR hE hl hL ⟨⟨_, rfl, ?_⟩, hV⟩)
  subst hw1; subst hw2
  unfold lg_cmp az_lcmpV
  by_cases h1 : w2 < w1
  · have h1' := Int64.lt_iff_toInt_lt.mp h1
    rw [if_pos h1, if_neg (by omega), if_neg (by omega)]; rfl
  · have h1' : ¬ w2.toInt < w1.toInt := fun q => h1 (Int64.lt_iff_toInt_lt.mpr q)
    rw [if_neg h1]
    by_cases h2 : w1 = w2
    · subst h2; rw [if_pos rfl, if_neg (by omega), if_pos rfl]; rfl
    · have h2' : ¬ w1.toInt = w2.toInt := fun q => h2 (Int64.toInt_inj.mp q)
      rw [if_neg h2, if_pos (by omega)]; rfl
theorem az_ite {c : Prop} [Decidable c] {A B : Option α} {r : α} (h : (if c then A else B) = some r) : (c ∧ A = some r) ∨ (¬ c ∧ B = some r) := by
  by_cases q : c
  · rw [if_pos q] at h; exact Or.inl ⟨q, h⟩
  · rw [if_neg q] at h; exact Or.inr ⟨q, h⟩
theorem az_tswIn (C : az_C Z y cc nL ret d) {x dflt hi off : Int} {offs : Array Int} {len i tgt : Nat} (hx : x = (i : Int)) (hi2 : (i : Int) ≤ hi) (ho : offs[i]? = some off) (hd : decode cc pc = .ok (.tableswitch dflt 0 hi offs, len)) (ht : (pc : Int) + off = (tgt : Int)) (k : az_AW Z nL tgt L st σ T) : az_AW Z nL pc L ((0, x) :: st) σ T := by
  obtain ⟨p, l, e, R, s, m, args, below, meth, c, G, τ0⟩ := Z
  intro H locs ls vs hR hE hl hL hV
  obtain ⟨w1, vs1, rfl, hw1, hV⟩ := az_vli hV
  refine lv_tableIn C.1 C.2.1 hd (by omega) (by omega) (off := off) ?_ ht (k H locs ls _ hR hE hl hL hV)
  rw [hw1, hx, show ((i : Int) - 0).toNat = i by omega]
  exact ho
theorem az_tswOut (C : az_C Z y cc nL ret d) {x dflt hi : Int} {offs : Array Int} {len tgt : Nat} (hx : x < 0 ∨ hi < x) (hd : decode cc pc = .ok (.tableswitch dflt 0 hi offs, len)) (ht : (pc : Int) + dflt = (tgt : Int)) (k : az_AW Z nL tgt L st σ T) : az_AW Z nL pc L ((0, x) :: st) σ T := by
  obtain ⟨p, l, e, R, s, m, args, below, meth, c, G, τ0⟩ := Z
  intro H locs ls vs hR hE hl hL hV
  obtain ⟨w1, vs1, rfl, hw1, hV⟩ := az_vli hV
  exact lv_tableOut C.1 C.2.1 hd (by rw [hw1]; exact hx) ht (k H locs ls _ hR hE hl hL hV)
theorem az_objInit (C : az_C Z y cc nL ret d) (hd1 : 1 ≤ d) {idx c : Nat} {a : Int} (hc12 : Nat.ble c 16 = true) (hlink : Cond.methodLink y.cls idx Lib.objectInit ∈ az_gw) (hinst : Cond.instanceMethod Lib.objectInit ∈ az_gw) (hcode : Cond.code Lib.objectInit ⟨#[0xb1]⟩ 1 none ∈ az_gw) (hcat : Nat.ble (az_cat st) 8 = true) (hd : decode cc pc = .ok (.invokespecial idx, 3)) (k : az_AW Z nL (pc + 3) L st σ T) : az_AW Z nL pc L ((c + 2, a) :: st) σ T := by
  obtain ⟨p, l, e, R, s, m, args, below, meth, cd, G, τ0⟩ := Z
  intro H locs ls vs hR hE hl hL hV
  obtain ⟨vs', rfl, -, hV⟩ := az_vlr (Nat.le_of_ble_eq_true hc12) hV
  obtain ⟨hx, hb, hml, hr2, hlocks, hnm0, hown, hgw, hKK0, hfr, hlo, hRc, hRs, hs1, hs2⟩ := C
  dsimp only at hx hb hml hr2 hlocks hnm0 hown hgw hKK0 hfr hlo hRc hRs hs1 hs2
  have hfr1 : 1 ≤ R.frames := by omega
  have hlo1 : 64 ≤ R.locals := by omega
  refine W.objInit hx hb hown (hgw _ hlink) (hgw _ hinst) (hgw _ hcode) rfl (hL.1.trans hml.symm) rfl hd hfr1 ?_ (k H locs ls _ hR hE hl hL hV)
  have h1 := Nat.le_trans (az_cat_of hV) (Nat.le_of_ble_eq_true hcat)
  have h2 := lv_room (m := m) (pc := pc) (ls := ls) (rest := .ref (az_ad G a) :: vs') h1
  show 2 * (F0 m pc ls (.ref (az_ad G a) :: vs')).monitorRoom + _ + 12 ≤ R.locals
  omega
theorem az_mmax (C : az_C Z y cc nL ret d) (hd1 : 1 ≤ d) {idx : Nat} {x z : Int} (hlink : Cond.methodLink y.cls idx Lib.Math.max.name ∈ az_gw) (hst : Cond.static Lib.Math.max.name ∈ az_gw) (hini : Cond.initialized "java/lang/Math" ∈ az_gw) (hcode : Cond.code Lib.Math.max.name Lib.Math.max.code 2 (some .int) ∈ az_gw) (hcat : Nat.ble (az_cat st) 8 = true) (hd : decode cc pc = .ok (.invokestatic idx, 3)) (k : az_AW Z nL (pc + 3) L ((0, if x < z then z else x) :: st) σ T) : az_AW Z nL pc L ((0, z) :: (0, x) :: st) σ T := by
  obtain ⟨p, l, e, R, s, m, args, below, meth, cd, G, τ0⟩ := Z
  intro H locs ls vs hR hE hl hL hV
  obtain ⟨w2, vs1, rfl, hw2, hV⟩ := az_vli hV
  obtain ⟨w1, vs2, rfl, hw1, hV⟩ := az_vli hV
  have hro := az_rooms C hR hE
  obtain ⟨hx, hb, hml, hr2, hlocks, hnm0, hown, hgw, hKK0, hfr, hlo, hRc, hRs, hs1, hs2⟩ := C
  dsimp only at hx hb hml hr2 hlocks hnm0 hown hgw hKK0 hfr hlo hRc hRs hs1 hs2 hro
  have hfr1 : 1 ≤ R.frames := by omega
  have hlo1 : 64 ≤ R.locals := by omega
  have hc1 : σ.1.1 - τ0.1 ≤ R.cells := by omega
  have hc2 : σ.1.2.1 - τ0.2.1 ≤ R.slots := by omega
  refine va_mmax hx hb (hml.trans hL.1.symm) hown (hgw _ hlink) (hgw _ hst) (hgw _ hini) (hgw _ hcode) hfr1 ?_ hc1 hc2 hd (k H locs ls _ hR hE hl hL ⟨⟨_, rfl, ?_⟩, hV⟩)
  · have h1 := Nat.le_trans (az_cat_of hV) (Nat.le_of_ble_eq_true hcat)
    show _ + 13 ≤ R.locals
    omega
  · subst hw1; subst hw2
    by_cases h : w1 < w2
    · rw [if_pos h, if_pos (Int32.lt_iff_toInt_lt.mp h)]
    · rw [if_neg h, if_neg (fun q => h (Int32.lt_iff_toInt_lt.mpr q))]
theorem az_mmin (C : az_C Z y cc nL ret d) (hd1 : 1 ≤ d) {idx : Nat} {x z : Int} (hlink : Cond.methodLink y.cls idx Lib.Math.min.name ∈ az_gw) (hst : Cond.static Lib.Math.min.name ∈ az_gw) (hini : Cond.initialized "java/lang/Math" ∈ az_gw) (hcode : Cond.code Lib.Math.min.name Lib.Math.min.code 2 (some .int) ∈ az_gw) (hcat : Nat.ble (az_cat st) 8 = true) (hd : decode cc pc = .ok (.invokestatic idx, 3)) (k : az_AW Z nL (pc + 3) L ((0, if z < x then z else x) :: st) σ T) : az_AW Z nL pc L ((0, z) :: (0, x) :: st) σ T := by
  obtain ⟨p, l, e, R, s, m, args, below, meth, cd, G, τ0⟩ := Z
  intro H locs ls vs hR hE hl hL hV
  obtain ⟨w2, vs1, rfl, hw2, hV⟩ := az_vli hV
  obtain ⟨w1, vs2, rfl, hw1, hV⟩ := az_vli hV
  have hro := az_rooms C hR hE
  obtain ⟨hx, hb, hml, hr2, hlocks, hnm0, hown, hgw, hKK0, hfr, hlo, hRc, hRs, hs1, hs2⟩ := C
  dsimp only at hx hb hml hr2 hlocks hnm0 hown hgw hKK0 hfr hlo hRc hRs hs1 hs2 hro
  have hfr1 : 1 ≤ R.frames := by omega
  have hlo1 : 64 ≤ R.locals := by omega
  have hc1 : σ.1.1 - τ0.1 ≤ R.cells := by omega
  have hc2 : σ.1.2.1 - τ0.2.1 ≤ R.slots := by omega
  refine va_mmin hx hb (hml.trans hL.1.symm) hown (hgw _ hlink) (hgw _ hst) (hgw _ hini) (hgw _ hcode) hfr1 ?_ hc1 hc2 hd (k H locs ls _ hR hE hl hL ⟨⟨_, rfl, ?_⟩, hV⟩)
  · have h1 := Nat.le_trans (az_cat_of hV) (Nat.le_of_ble_eq_true hcat)
    show _ + 13 ≤ R.locals
    omega
  · subst hw1; subst hw2
    by_cases h : w2 < w1
    · rw [if_pos h, if_pos (Int32.lt_iff_toInt_lt.mp h)]
    · rw [if_neg h, if_neg (fun q => h (Int32.lt_iff_toInt_lt.mpr q))]
/-- System.arraycopy of ints, from one array to another one -/
def az_cpyV (σ : az_Hp) (s sp t tp n : Int) : az_Hp := (σ.1, fun b j => if b = t ∧ (tp ≤ j ∧ j < tp + n) then σ.2 s (sp + (j - tp)) else σ.2 b j)
def az_cpy (σ : az_Hp) (s sp t tp n : Int) : Option az_Hp := if s ≠ t ∧ 0 ≤ sp ∧ 0 ≤ tp ∧ 0 ≤ n ∧ sp + n ≤ az_ln σ s ∧ tp + n ≤ az_ln σ t then some (az_cpyV σ s sp t tp n) else none
theorem az_arraycopy (C : az_C Z y cc nL ret d) (hd1 : 1 ≤ d) {idx : Nat} {s0 sp t0 tp n : Int} {K : az_Hp → Option α} {r : α} (h : (az_cpy σ s0 sp t0 tp n).bind K = some r) (hlink : Cond.methodLink y.cls idx arraycopyName ∈ az_gw) (hnat : Cond.native arraycopyName ∈ az_gw) (hst : Cond.static arraycopyName ∈ az_gw) (hini : Cond.initialized "java/lang/System" ∈ az_gw) (hcat : Nat.ble (az_cat st) 8 = true) (hd : decode cc pc = .ok (.invokestatic idx, 3))
    (kk : K (az_cpyV σ s0 sp t0 tp n) = some r → az_AW Z nL (pc + 3) L st (az_cpyV σ s0 sp t0 tp n) T) : az_AW Z nL pc L ((0, n) :: (0, tp) :: (15, t0) :: (0, sp) :: (15, s0) :: st) σ T := by
  have h' : (s0 ≠ t0 ∧ 0 ≤ sp ∧ 0 ≤ tp ∧ 0 ≤ n ∧ sp + n ≤ az_ln σ s0 ∧ tp + n ≤ az_ln σ t0) ∧ K (az_cpyV σ s0 sp t0 tp n) = some r := by
    unfold az_cpy at h
    split at h
    · rename_i c; exact ⟨c, h⟩
    · cases h
  obtain ⟨⟨hne, hsp, htp, hn0, hb1, hb2⟩, hk⟩ := h'
  have kk := kk hk
  obtain ⟨p, l, e, R, s, m, args, below, meth, cd, G, τ0⟩ := Z
  intro H locs ls vs hR hE hl hL hV
  obtain ⟨wn, vs1, rfl, hwn, hV1⟩ := az_vli hV
  obtain ⟨wt, vs2, rfl, hwt, hV2⟩ := az_vli hV1
  obtain ⟨vs3, rfl, ⟨hT1, hT2, hT3⟩, hV3⟩ := az_vlr (c := 13) (by omega) hV2
  obtain ⟨ws, vs4, rfl, hws, hV4⟩ := az_vli hV3
  obtain ⟨vs5, rfl, ⟨hS1, hS2, hS3⟩, hV5⟩ := az_vlr (c := 13) (by omega) hV4
  have hro := az_rooms C hR hE
  obtain ⟨hx, hb, hml, hr2, hlocks, hnm0, hown, hgw, hKK0, hfr, hlo, hRc, hRs, hs1, hs2⟩ := C
  dsimp only at hx hb hml hr2 hlocks hnm0 hown hgw hKK0 hfr hlo hRc hRs hs1 hs2 hro
  have hfr1 : 1 ≤ R.frames := by omega
  have hlo1 : 64 ≤ R.locals := by omega
  have hat := hR.2.2.2.1 s0 hS1 hS2
  have hat2 := hR.2.2.2.1 t0 hT1 hT2
  have hw1 := hR.2.2.2.2.2.2.1 s0 hS1 hS2
  have hw2 := hR.2.2.2.2.2.2.1 t0 hT1 hT2
  unfold az_at at hat hat2
  rw [hS3, if_neg (by omega)] at hat
  rw [hT3, if_neg (by omega)] at hat2
  have l1 : az_ln σ s0 = σ.1.2.2.2 s0 := rfl
  have l2 : az_ln σ t0 = σ.1.2.2.2 t0 := rfl
  have es : ws.toNatClampNeg = sp.toNat := by rw [az_clamp, hws]
  have et : wt.toNatClampNeg = tp.toNat := by rw [az_clamp, hwt]
  have en : wn.toNatClampNeg = n.toNat := by rw [az_clamp, hwn]
  have nn : ∀ (w : Int32) (z : Int), w.toInt = z → 0 ≤ z → ¬ w < 0 := fun w z hw hz q => by rw [Int32.lt_iff_toInt_lt, hw, Int32.toInt_zero] at q; omega
  intro TT hT X
  obtain ⟨-, k0, hk0, cm0, hkk0⟩ := (hKK0.1.2 1 (G.2.2.2 13, .int) rfl).1 (σ.1.2.2.2 s0).toNat (fun j => az_cv G (az_fk 13 (j : Int)) (σ.2 s0 (j : Int)))
  obtain ⟨vm', X', step⟩ := X.arraycopy hx hown (hgw _ hlink) (hgw _ hnat) (hgw _ hst) (hgw _ hini) (src := az_ad G s0) (dst := az_ad G t0) (cs := arrV (G.2.2.2 13) (σ.1.2.2.2 s0).toNat (fun j => az_cv G (az_fk 13 (j : Int)) (σ.2 s0 (j : Int)))) (cd := arrV (G.2.2.2 13) (σ.1.2.2.2 t0).toNat (fun j => az_cv G (az_fk 13 (j : Int)) (σ.2 t0 (j : Int)))) (srcPos := ws) (destPos := wt) (n := wn) (by rw [hT]; exact hat) (by rw [hT]; exact hat2)
    (fun _ h => by cases h) (fun _ h => by cases h) (fun h => by cases h) (fun h => by cases h) hk0 hk0 hkk0 hkk0 (by simp [refKind]) (nn ws sp hws hsp) (nn wt tp hwt htp) (nn wn n hwn hn0)
    (by rw [arrV_size, hws, hwn]; omega) (by rw [arrV_size, hwt, hwn]; omega)
    (fun vm₁ _ i hi => by
      have e : (arrV (G.2.2.2 13) (σ.1.2.2.2 s0).toNat (fun j => az_cv G (az_fk 13 (j : Int)) (σ.2 s0 (j : Int)))).slots.getD (ws.toNatClampNeg + i) .null = az_cv G 0 (σ.2 s0 ((ws.toNatClampNeg + i : Nat) : Int)) := by
        rw [Array.getD_eq_getD_getElem?, arrV_read _ _ (by omega)]
        rfl
      rw [e]
      exact ⟨rfl, trivial⟩)
    (g := F0 m pc ls (.int wn :: .int wt :: .ref (az_ad G t0) :: .int ws :: .ref (az_ad G s0) :: vs5)) rfl (by rw [hml]; exact hL.1) (rest := vs5) rfl (by rw [hb]; exact hd) hfr1 (by
      have h1 := Nat.le_trans (az_cat_of hV5) (Nat.le_of_ble_eq_true hcat)
      have h2 : nativeFrameWords "java/lang/System" "arraycopy" 5 ≤ 40 := by decide +kernel
      show 2 * 0 + _ + _ ≤ R.locals; omega)
  have e1 : copied (arrV (G.2.2.2 13) (σ.1.2.2.2 s0).toNat (fun j => az_cv G (az_fk 13 (j : Int)) (σ.2 s0 (j : Int)))) (arrV (G.2.2.2 13) (σ.1.2.2.2 t0).toNat (fun j => az_cv G (az_fk 13 (j : Int)) (σ.2 t0 (j : Int)))) ws wt wn = arrV (G.2.2.2 13) (σ.1.2.2.2 t0).toNat (fun j => az_cv G (az_fk 13 (j : Int)) ((az_cpyV σ s0 sp t0 tp n).2 t0 (j : Int))) := by
    refine (va_copied (fun z => az_cv G 0 z) (G.2.2.2 13) (G.2.2.2 13) (fun j : Nat => σ.2 s0 (j : Int)) (fun j : Nat => σ.2 t0 (j : Int)) (by omega)).trans ?_
    congr 1
    funext j
    show az_cv G 0 _ = az_cv G 0 _
    congr 1
    unfold va_cpy az_cpyV
    rw [es, et, en]
    by_cases hj : tp.toNat ≤ j ∧ j < tp.toNat + n.toNat
    · rw [if_pos hj]
      dsimp only
      rw [if_pos ⟨rfl, by omega, by omega⟩, show ((sp.toNat + (j - tp.toNat) : Nat) : Int) = sp + ((j : Int) - tp) by omega]
    · rw [if_neg hj]
      dsimp only
      rw [if_neg (by rintro ⟨-, q⟩; omega)]
  rw [e1] at X' step
  have hlt : az_ad G t0 < H.size := az_ad_lt hR.1 hT1 hT2
  have hat3 : (H.setIfInBounds (az_ad G t0) (arrV (G.2.2.2 13) (σ.1.2.2.2 t0).toNat (fun j => az_cv G (az_fk 13 (j : Int)) ((az_cpyV σ s0 sp t0 tp n).2 t0 (j : Int)))))[az_ad G t0]? = some (arrV (G.2.2.2 13) (σ.1.2.2.2 t0).toNat (fun j => az_cv G (az_fk 13 (j : Int)) ((az_cpyV σ s0 sp t0 tp n).2 t0 (j : Int)))) := by simp [Array.getElem?_setIfInBounds, hlt]
  have hwt3 : az_WT (az_cpyV σ s0 sp t0 tp n) := by
    obtain ⟨a1, a2, a3, a4⟩ := hR.2.2.2.2
    refine ⟨a1, a2, fun x hx1 hx2 => ?_, fun x hx j => ?_⟩
    · obtain ⟨g1, g2, g3, g4, g5⟩ := a3 x hx1 hx2
      refine ⟨g1, g2, g3, g4, fun j hj1 hj2 => ?_⟩
      by_cases hc : x = t0 ∧ (tp ≤ j ∧ j < tp + n)
      · have e2 : (az_cpyV σ s0 sp t0 tp n).2 x j = σ.2 s0 (sp + (j - tp)) := by simp only [az_cpyV]; rw [if_pos hc]
        rw [e2]
        have := hw1.2.2.2.2 (sp + (j - tp)) (by omega) (by omega)
        rw [hS3] at this
        rw [hc.1]
        show az_okv σ.1 (az_fk (σ.1.2.2.1 t0) j) _
        rw [hT3]
        exact this
      · have e2 : (az_cpyV σ s0 sp t0 tp n).2 x j = σ.2 x j := by simp only [az_cpyV]; rw [if_neg hc]
        rw [e2]; exact g5 j hj1 hj2
    · have hx' : (σ.1.1 : Int) < x := hx
      have e2 : (az_cpyV σ s0 sp t0 tp n).2 x j = σ.2 x j := by simp only [az_cpyV]; rw [if_neg (by rintro ⟨q, -⟩; omega)]
      rw [e2]; exact a4 x hx j
  have hR3 : az_Rep G (az_cpyV σ s0 sp t0 tp n) (H.setIfInBounds (az_ad G t0) (arrV (G.2.2.2 13) (σ.1.2.2.2 t0).toNat (fun j => az_cv G (az_fk 13 (j : Int)) ((az_cpyV σ s0 sp t0 tp n).2 t0 (j : Int))))) := by
    refine hR.upd (σ' := az_cpyV σ s0 sp t0 tp n) hT1 (by simp) (fun q hq => by simp [Array.getElem?_setIfInBounds, Ne.symm hq]) hat2 hat3 (by rw [arrV_size, arrV_size]) rfl (fun x hx j => ?_) ?_ hwt3
    · simp only [az_cpyV]; rw [if_neg (fun q => hx q.1)]
    · unfold az_at
      rw [show (az_cpyV σ s0 sp t0 tp n).1.2.2.1 t0 = 13 from hT3, if_neg (by omega)]
      exact hat3
  obtain ⟨t, a1, b1⟩ := kk _ _ ls vs5 hR3 hE (fun q hq => by
    rcases List.mem_append.mp hq with h | h
    · exact hl q h
    · obtain ⟨z, -, hz⟩ := List.mem_map.mp h
      rw [← hz]
      exact az_ad_ge) hL hV5 _ (by rw [← hT]; rfl) X'
  exact ⟨t, step t a1, b1⟩
end AZ7
/-! a method, out of the walk of its body -/
def az_ent : List az_AV → List az_AV
  | [] => []
  | a :: as => if a.1 = 1 then a :: (31, 0) :: az_ent as else a :: az_ent as
theorem az_ent_len {G : az_G} {τ : az_Shp} : ∀ {as : List az_AV} {vs : List Value}, az_VL G τ as vs → (∀ a ∈ as, a.1 ≠ 31) → (lg_sl vs).length = (az_ent as).length
  | [], [], _, _ => rfl
  | [], _ :: _, h, _ => h.elim
  | _ :: _, [], h, _ => h.elim
  | a :: as, v :: vs, h, h31 => by
    have ih := az_ent_len h.2 (fun b hb => h31 b (List.mem_cons_of_mem _ hb))
    have hs : lg_sl (v :: vs) = (if v.category = 2 then [.val v, .second] else [.val v]) ++ lg_sl vs := by simp [lg_sl]
    rw [hs]
    unfold az_ent
    by_cases h1 : a.1 = 1
    · obtain ⟨t, x⟩ := a
      subst h1
      obtain ⟨⟨w, rfl, -⟩, -⟩ := h
      simp [Value.category, ih]
    · have hc := az_vcat1 h.1 (az_beqf h1) (az_beqf (h31 a List.mem_cons_self))
      rw [if_neg h1, if_neg (by omega)]
      simp [ih]
theorem az_ent_at {G : az_G} {τ : az_Shp} : ∀ {as : List az_AV} {vs : List Value}, az_VL G τ as vs → (∀ a ∈ as, a.1 ≠ 31) → ∀ (i k : Nat) (b : az_AV), (az_ent as)[k]? = some b → b.1 = 31 ∨ ∃ v, (i + k, v) ∈ lv_args i vs ∧ az_V G τ b v
  | [], [], _, _ => by intro i k b hk; simp [az_ent] at hk
  | [], _ :: _, h, _ => h.elim
  | _ :: _, [], h, _ => h.elim
  | a :: as, v :: vs, h, h31 => by
    intro i k b hk
    have ih := az_ent_at h.2 (fun b hb => h31 b (List.mem_cons_of_mem _ hb))
    unfold az_ent at hk
    by_cases h1 : a.1 = 1
    · have hc2 : v.category = 2 := by
        obtain ⟨t, x⟩ := a
        subst h1
        obtain ⟨⟨w, rfl, -⟩, -⟩ := h
        rfl
      rw [if_pos h1] at hk
      match k, hk with
      | 0, hk => simp at hk; subst hk; exact Or.inr ⟨v, by simp [lv_args], h.1⟩
      | 1, hk => simp at hk; subst hk; exact Or.inl rfl
      | k + 2, hk =>
        simp at hk
        rcases ih (i + 2) k b hk with q | ⟨w, q1, q2⟩
        · exact Or.inl q
        · refine Or.inr ⟨w, ?_, q2⟩
          rw [lv_args, if_pos hc2]
          exact List.mem_cons_of_mem _ (by rw [show i + (k + 2) = i + 2 + k by omega]; exact q1)
    · have hc := az_vcat1 h.1 (az_beqf h1) (az_beqf (h31 a List.mem_cons_self))
      rw [if_neg h1] at hk
      match k, hk with
      | 0, hk => simp at hk; subst hk; exact Or.inr ⟨v, by simp [lv_args], h.1⟩
      | k + 1, hk =>
        simp at hk
        rcases ih (i + 1) k b hk with q | ⟨w, q1, q2⟩
        · exact Or.inl q
        · refine Or.inr ⟨w, ?_, q2⟩
          rw [lv_args, if_neg (by omega)]
          exact List.mem_cons_of_mem _ (by rw [show i + (k + 1) = i + 1 + k by omega]; exact q1)
theorem az_AC.of {l : Launch} {y : MethodName} {cc : ByteArray} {nL n d : Nat} {ret : Option FieldType} {as L : List az_AV} {σ : az_Hp} {T : az_R} (hM : az_MT y cc nL ret n) (h31 : as.all (fun a => !(Nat.beq a.1 31)) = true) (hle : Nat.ble (az_ent as).length nL = true) (hLe : az_ent as ++ List.replicate (nL - (az_ent as).length) ((31, 0) : az_AV) = L)
    (body : ∀ Z : az_Z, Z.2.1 = l → az_C Z y cc nL ret d → az_AW Z nL 0 L [] σ T) : az_AC l y cc nL ret d as σ T := by
  intro G
  obtain ⟨m1, m2, m3, m4, m5, m6, m7⟩ := hM
  refine Met.ofW (cc := cc) (maxL := nL) (ret := ret) m7 rfl ?_
  intro p e s m args below meth c s₁ B hml hv
  obtain ⟨⟨vs, rfl, hVL⟩, hR, hKK⟩ := hv
  have h31' : ∀ a ∈ as, a.1 ≠ 31 := fun a ha => by
    have := List.all_eq_true.mp h31 a ha
    intro q
    rw [q] at this
    simp at this
  have hlen := az_ent_len hVL h31'
  have hle' := Nat.le_of_ble_eq_true hle
  have hts := atoms_spec (ws := Cond.code y cc nL ret :: az_gw) B.pre
  have hC : az_C (p, l, e, az_rm d σ.1, s, m, vs.toArray, below, meth, c, G, σ.1) y cc nL ret d :=
    ⟨B.exec, B.bytes, hml, B.returns, B.notSynchronized, (fun h => (name_of_methodNamed B.named B.method).1.trans h), findClass_of_methodNamed B.named, fun w hw => hts w (List.mem_cons_of_mem _ hw), hKK, Nat.le_refl _, Nat.le_refl _, rfl, rfl, hR.1, hR.2.2.1⟩
  have hb := body _ rfl hC
  have he := lv_entry vs (n := nL) (by omega)
  rw [lg_entry_eq]
  have hLV : az_LV G σ.1 nL ((lg_sl vs ++ List.replicate (nL - (lg_sl vs).length) Slot.unset).toArray) L := by
    refine ⟨he.1, he.2.1, fun k a hk => ?_⟩
    rw [← hLe] at hk
    by_cases hk1 : k < (az_ent as).length
    · rw [List.getElem?_append_left hk1] at hk
      rcases az_ent_at hVL h31' 0 k a hk with q | ⟨v, q1, q2⟩
      · exact Or.inl q
      · exact Or.inr ⟨v, he.2.2 (k, v) (by rw [Nat.zero_add] at q1; exact q1), q2⟩
    · rw [List.getElem?_append_right (by omega)] at hk
      have := List.eq_of_mem_replicate (List.mem_of_getElem? hk)
      rw [this]
      exact Or.inl rfl
  have q := hb s.heap [] _ [] hR az_Ext.refl (fun q hq => by cases hq) hLV trivial
  unfold az_W at q
  dsimp only at q
  rw [Nat.sub_self, Nat.sub_self] at q
  exact q
