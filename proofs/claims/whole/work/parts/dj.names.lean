-- ends: the class names the VARIABLES
def nv_S (a k : Int) : Prop := a = 236 ∨ a = 237 ∨ a = 239
def nv_St (σ : az_Hp) : List Int → Prop
  | [] => True
  | s :: l => σ.2 239 l.length = s ∧ nv_St σ l
def nv_L (h : Int → List Int) : List Int → List Int
  | [] => []
  | s :: l => h s ++ nv_L h l
theorem nv_L_app {h : Int → List Int} : ∀ l l' : List Int, nv_L h (l ++ l') = nv_L h l ++ nv_L h l' := by
  intro l l'
  induction l with
  | nil => rfl
  | cons a l ih => show h a ++ nv_L h (l ++ l') = h a ++ nv_L h l ++ nv_L h l'; rw [ih, List.append_assoc]
theorem nv_St_cong {σ σ' : az_Hp} : ∀ l : List Int, (∀ i, 0 ≤ i → i < (l.length : Int) → σ'.2 239 i = σ.2 239 i) → nv_St σ l → nv_St σ' l := by
  intro l
  induction l with
  | nil => intro _ _; trivial
  | cons s l ih =>
    intro h q
    rw [List.length_cons] at h
    push_cast at h
    exact ⟨by rw [h _ (by omega) (by omega)]; exact q.1, ih (fun i i0 i1 => h i i0 (by omega)) q.2⟩
def nv_K (kd : Int → Int) : Nat → List Int → List Int
  | 0, st => st
  | j + 1, st => nv_K kd j (kd j :: st)
theorem lv_A_snoc {h : Int → List Int} {kd : Int → Int} : ∀ (j : Nat) (k : Int), lv_A h kd (j + 1) k = lv_A h kd j k ++ h (kd (k + j)) := by
  intro j
  induction j with
  | zero => intro k; show h (kd k) ++ [] = [] ++ h (kd (k + ((0 : Nat) : Int))); simp
  | succ j ih =>
    intro k
    show h (kd k) ++ lv_A h kd (j + 1) (k + 1) = h (kd k) ++ lv_A h kd j (k + 1) ++ h (kd (k + ((j + 1 : Nat) : Int)))
    rw [ih (k + 1), ← List.append_assoc]
    have : k + 1 + (j : Int) = k + ((j + 1 : Nat) : Int) := by push_cast; omega
    rw [this]
theorem nv_K_eq {h : Int → List Int} {kd : Int → Int} : ∀ (j : Nat) (st : List Int), ∃ K, nv_K kd j st = K ++ st ∧ (∀ s, s ∈ K → ∃ i : Int, 0 ≤ i ∧ i < j ∧ s = kd i) ∧ nv_L h K = lv_A h kd j 0 ∧ K.length = j := by
  intro j
  induction j with
  | zero => intro st; exact ⟨[], rfl, fun s hs => (by cases hs), rfl, rfl⟩
  | succ j ih =>
    intro st
    obtain ⟨K, k1, k2, k3, k4⟩ := ih (kd j :: st)
    refine ⟨K ++ [kd j], ?_, fun s hs => ?_, ?_, by simp [k4]⟩
    · show nv_K kd j (kd j :: st) = K ++ [kd j] ++ st
      rw [k1]
      simp
    · rcases List.mem_append.mp hs with q | q
      · obtain ⟨i, i0, i1, i2⟩ := k2 s q
        exact ⟨i, i0, by push_cast; omega, i2⟩
      · rw [List.mem_singleton] at q
        exact ⟨j, by omega, by push_cast; omega, q⟩
    · rw [nv_L_app, k3, lv_A_snoc]
      show lv_A h kd j 0 ++ (h (kd j) ++ []) = lv_A h kd j 0 ++ h (kd (0 + (j : Int)))
      rw [List.append_nil, Int.zero_add]
theorem nv_wr {x0 σ : az_Hp} {A i v : Int} (h : bz_Upd x0 σ nv_S) (hA : A = 236 ∨ A = 237 ∨ A = 239) : bz_Upd x0 (az_wr σ A i v) nv_S := h.wr hA (by rcases hA with rfl | rfl | rfl <;> (unfold bz_isFix; simp [bz_cap, bz_fixL, bz_rowsL]))
section NV
variable {g : dz_G} {x0 : az_Hp} {ρ : Int → Nat}
theorem nv_push (hg : dz_ok g) (hF : bz_Fx x0) (hX : ez_X x0 g) {r v2 v4 : Int} (hr : dz_In (dz_N g) r) (nr : ¬ dz_iv g r) (h4 : 0 ≤ v4) (h4' : v4 < 1000000) {k43 : az_Hp → Int → Int → Int → Int → Option az_Hp} :
    ∀ (j kf : Nat) (σ : az_Hp) (st : List Int), j < kf → (j : Int) ≤ dz_ar g r → bz_Upd x0 σ nv_S → nv_St σ st → st.length + j < 1000 →
    ∃ σ', fz_X0_nameVariables_127 2000000 k43 kf σ 231 v2 st.length v4 r ((j : Int) - 1) = k43 σ' 231 v2 ((nv_K (fun k => dz_kd g r k) j st).length : Int) (v4 + 1) ∧ bz_Upd σ σ' (fun a _ => a = 239) ∧ nv_St σ' (nv_K (fun k => dz_kd g r k) j st) := by
  have n120 := hg.2.1
  intro j
  induction j with
  | zero =>
    intro kf σ st hkf hj hU hS hl
    obtain ⟨kf, rfl⟩ : ∃ q, kf = q + 1 := ⟨kf - 1, by omega⟩
    refine ⟨σ, ?_, bz_Upd.refl, hS⟩
    unfold fz_X0_nameVariables_127
    rw [if_pos (by simp), az_w32_id (by omega) (by omega)]
    rfl
  | succ j ih =>
    intro kf σ st hkf hj hU hS hl
    obtain ⟨kf, rfl⟩ : ∃ q, kf = q + 1 := ⟨kf - 1, by omega⟩
    push_cast at hj
    have F := hF.upd hU
    have l9 := ln_239 F
    have l8 := ln_238 F
    have q := hX r hr
    have ar3 := (hg.2.2.1 r hr nr).2.1
    have i0 := hr.1
    have i1 := hr.2
    have kd : az_ard σ 238 (3 * r + j) = some (dz_kd g r j) := by
      rw [bz_ard (by omega) (by omega), hU.2.2 238 _ (by unfold nv_S; omega), (q.2.2 nr).2.1 j (by omega) (by omega)]
    have U1 : bz_Upd σ (az_wr σ 239 st.length (dz_kd g r j)) (fun a _ => a = 239) := bz_Upd.wr bz_Upd.refl rfl (by unfold bz_isFix; simp [bz_cap, bz_fixL, bz_rowsL])
    obtain ⟨σ', r1, r2, r3⟩ := ih kf (az_wr σ 239 st.length (dz_kd g r j)) (dz_kd g r j :: st) (by omega) (by omega) (nv_wr hU (by omega)) ⟨az_wr_same, nv_St_cong st (fun i z0 z1 => az_wr_ne (by omega)) hS⟩ (by rw [List.length_cons]; omega)
    refine ⟨σ', ?_, U1.trans r2, r3⟩
    conv => lhs; unfold fz_X0_nameVariables_127
    have e0 : ((j + 1 : Nat) : Int) - 1 = j := by push_cast; omega
    rw [e0, if_neg (by omega), fx_231_8 F, Option.bind_some, l9, if_pos (by omega), Option.bind_some, fx_231_7 F, Option.bind_some, az_w32_id (z := r * 3) (by omega) (by omega), show r * 3 = 3 * r by omega, az_w32_id (z := 3 * r + j) (by omega) (by omega), kd, Option.bind_some, bz_awr (by omega) (by rw [l9]; omega), Option.bind_some, az_w32_id (z := (st.length : Int) + 1) (by omega) (by omega), az_w32_id (by omega) (by omega)]
    have e1 : (st.length : Int) + 1 = ((dz_kd g r j :: st).length : Int) := by rw [List.length_cons]; push_cast; rfl
    have e2 : (j : Int) + -1 = (j : Int) - 1 := by omega
    rw [e1, e2]
    exact r1
/-- while VARIABLES are named -/
def nv_I (g : dz_G) (x0 : az_Hp) (ρ : Int → Nat) (σ : az_Hp) (tb st : List Int) : Prop :=
  bz_Upd x0 σ nv_S ∧ nv_St σ st ∧ (∀ s, s ∈ st → dz_In (dz_N g) s) ∧ tb.Nodup ∧ (∀ x, x ∈ tb → dz_In (dz_N g) x ∧ σ.2 237 x = 1) ∧ (∀ (i : Nat) x, tb[i]? = some x → σ.2 236 x = i) ∧ (∀ n, dz_In (dz_N g) n → σ.2 237 n = 0 ∨ σ.2 237 n = 1) ∧
  ∀ z, dz_In (dz_N g) z → dz_tp (x0.2 235) z = z → σ.2 237 z = 1 → ∃ A B, st = A ++ B ∧ (∀ s, s ∈ A → ρ (dz_tp (x0.2 235) s) < ρ z) ∧ ∀ t, t ∈ lv_W g (x0.2 235) z → t ∈ tb ∨ t ∈ nv_L (lv_W g (x0.2 235)) A
theorem nv_run (hG : ew_Gr g (x0.2 235) ρ) (hF : bz_Fx x0) (hX : ez_X x0 g) :
    ∀ (d k : Nat) (σ : az_Hp) (tb st : List Int) (v4 : Int), st.length + 3 * dz_ct (σ.2 237) 0 (dz_N g).toNat ≤ d → d < k → d < 900 → 0 ≤ v4 → v4 + d < 900000 → nv_I g x0 ρ σ tb st →
    ∃ σ', fz_X0_nameVariables_43 2000000 k σ 231 tb.length st.length v4 = some σ' ∧ bz_Upd x0 σ' nv_S ∧ (lv_ad tb (nv_L (lv_W g (x0.2 235)) st)).Nodup ∧ (∀ x, x ∈ lv_ad tb (nv_L (lv_W g (x0.2 235)) st) → dz_In (dz_N g) x) ∧ ∀ (i : Nat) x, (lv_ad tb (nv_L (lv_W g (x0.2 235)) st))[i]? = some x → σ'.2 236 x = i := by
  have n120 := hG.1.2.1
  intro d
  induction d with
  | zero =>
    intro k σ tb st v4 hm hk hd h4 h4' hI
    obtain ⟨k, rfl⟩ : ∃ q, k = q + 1 := ⟨k - 1, by omega⟩
    have e : st = [] := List.length_eq_zero_iff.mp (by omega)
    subst e
    obtain ⟨hU, hS, hin, hn, ht, hl, hmk, hJ⟩ := hI
    refine ⟨σ, ?_, hU, hn, fun x hx => (ht x hx).1, hl⟩
    unfold fz_X0_nameVariables_43
    rw [if_pos (by omega), if_neg (by simp)]
  | succ d ih =>
    intro k σ tb st v4 hm hk hd h4 h4' hI
    obtain ⟨k, rfl⟩ : ∃ q, k = q + 1 := ⟨k - 1, by omega⟩
    obtain ⟨hU, hS, hin, hn, ht, hl, hmk, hJ⟩ := hI
    have F := hF.upd hU
    cases st with
    | nil =>
      refine ⟨σ, ?_, hU, hn, fun x hx => (ht x hx).1, hl⟩
      unfold fz_X0_nameVariables_43
      rw [if_pos (by omega), if_neg (by simp)]
    | cons s l =>
      rw [List.length_cons] at hm
      have is := hin s List.mem_cons_self
      have top := hG.2.1.top is
      have tt := hG.2.1.tt is
      have e235 : σ.2 235 = x0.2 235 := funext fun n => hU.2.2 235 n (by unfold nv_S; omega)
      have l9 := ln_239 F
      have l7 := ln_237 F
      have l6 := ln_236 F
      have l2 := ln_232 F
      have len0 : ((s :: l).length : Int) = l.length + 1 := by rw [List.length_cons]; push_cast; rfl
      have tp : fz_X0_top 2000000 σ 231 s = some (dz_tp (x0.2 235) s) := by
        have := ez_top (σ := σ) F (by rw [e235]; exact hG.2.1) n120 is
        rw [e235] at this
        exact this
      have rs : az_ard σ 239 l.length = some s := by rw [bz_ard (by omega) (by omega), hS.1]
      have t0 := top.2.1
      have t1 := top.2.2
      have rm : az_ard σ 237 (dz_tp (x0.2 235) s) = some (σ.2 237 (dz_tp (x0.2 235) s)) := bz_ard (by omega) (by omega)
      have w3 : az_w32 ((l.length : Int) + 1 + -1) = l.length := by rw [az_w32_id (by omega) (by omega)]; omega
      have w4 : az_w32 (v4 + 1) = v4 + 1 := az_w32_id (by omega) (by omega)
      have lvs : lv_W g (x0.2 235) (dz_tp (x0.2 235) s) = lv_W g (x0.2 235) s := lv_tp hG is
      have eL : nv_L (lv_W g (x0.2 235)) (s :: l) = lv_W g (x0.2 235) s ++ nv_L (lv_W g (x0.2 235)) l := rfl
      rcases hmk _ top.2 with m0 | m1
      · -- it is new
        have U7 := nv_wr (A := 237) (i := dz_tp (x0.2 235) s) (v := 1) hU (by omega)
        obtain ⟨σ1, hσ1⟩ : ∃ σ1, σ1 = az_wr σ 237 (dz_tp (x0.2 235) s) 1 := ⟨_, rfl⟩
        rw [← hσ1] at U7
        have F1 := hF.upd U7
        have k1 : ∀ a i, ¬ (a = 237 ∧ i = dz_tp (x0.2 235) s) → σ1.2 a i = σ.2 a i := fun a i z => by rw [hσ1]; exact az_wr_ne z
        have m71 : σ1.2 237 (dz_tp (x0.2 235) s) = 1 := by rw [hσ1, az_wr_same]
        have ctd : dz_ct (σ1.2 237) 0 (dz_N g).toNat + 1 = dz_ct (σ.2 237) 0 (dz_N g).toNat := by
          have := dz_ct_set (f := σ.2 237) (c := 0) (a := dz_tp (x0.2 235) s) (b := 1) t0 (dz_N g).toNat (by omega)
          rw [if_pos m0, if_neg (by decide), ← ez_mk_wr, ← hσ1] at this
          omega
        have hX1 := hX _ top.2
        have e232 : ∀ n, σ1.2 232 n = x0.2 232 n := fun n => U7.2.2 232 n (by unfold nv_S; omega)
        have iV := ez_isV (σ := σ1) F1 t0 (by omega) (by rw [e232]; exact hX1.1)
        rw [e232] at iV
        have mk1 : ∀ n, dz_In (dz_N g) n → σ1.2 237 n = 0 ∨ σ1.2 237 n = 1 := fun n hn' => by
          by_cases z : n = dz_tp (x0.2 235) s
          · rw [z, m71]; exact Or.inr rfl
          · rw [k1 _ _ (by omega)]; exact hmk n hn'
        have tb1 : ∀ x, x ∈ tb → dz_In (dz_N g) x ∧ σ1.2 237 x = 1 := fun x hx => by
          have w := ht x hx
          refine ⟨w.1, ?_⟩
          by_cases z : x = dz_tp (x0.2 235) s
          · rw [z]; exact m71
          · rw [k1 _ _ (by omega)]; exact w.2
        by_cases v : dz_iv g (dz_tp (x0.2 235) s)
        · -- a VARIABLE
          have lv := lv_var hG is v
          have nin : dz_tp (x0.2 235) s ∉ tb := fun q => by have := (ht _ q).2; omega
          have U6 := nv_wr (A := 236) (i := dz_tp (x0.2 235) s) (v := (tb.length : Int)) U7 (by omega)
          obtain ⟨σ2, hσ2⟩ : ∃ σ2, σ2 = az_wr σ1 236 (dz_tp (x0.2 235) s) tb.length := ⟨_, rfl⟩
          rw [← hσ2] at U6
          have k2 : ∀ a i, ¬ (a = 236 ∧ i = dz_tp (x0.2 235) s) → σ2.2 a i = σ1.2 a i := fun a i z => by rw [hσ2]; exact az_wr_ne z
          have e237 : σ2.2 237 = σ1.2 237 := funext fun n => k2 237 n (by omega)
          have lt : ((tb ++ [dz_tp (x0.2 235) s]).length : Int) = tb.length + 1 := by rw [List.length_append, List.length_singleton]; push_cast; rfl
          have tlen := lv_len hn (fun x hx => (ht x hx).1)
          obtain ⟨σ', r1, r2, r3, r4, r5⟩ := ih k σ2 (tb ++ [dz_tp (x0.2 235) s]) l (v4 + 1) (by rw [e237]; omega) (by omega) (by omega) (by omega) (by omega) ⟨U6, nv_St_cong l (fun i z0 z1 => by rw [k2 _ _ (by omega), k1 _ _ (by omega)]) hS.2, fun s' hs' => hin s' (List.mem_cons_of_mem _ hs'), lv_nd1 hn nin, fun x hx => by
            rw [e237]
            rcases List.mem_append.mp hx with q | q
            · exact tb1 x q
            · rw [List.mem_singleton] at q
              rw [q]
              exact ⟨top.2, m71⟩, fun i x hx => by
            by_cases z : i < tb.length
            · rw [List.getElem?_append_left z] at hx
              have xin : x ∈ tb := List.mem_iff_getElem?.mpr ⟨i, hx⟩
              rw [k2 _ _ (fun q => nin (by rw [← q.2]; exact xin)), k1 _ _ (by omega)]
              exact hl i x hx
            · rw [List.getElem?_append_right (by omega)] at hx
              have z2 : i = tb.length := by
                by_cases w : i = tb.length
                · exact w
                · rw [List.getElem?_eq_none (by simp; omega)] at hx
                  cases hx
              subst z2
              simp at hx
              rw [← hx, hσ2, az_wr_same], fun n hn' => by rw [e237]; exact mk1 n hn', fun z hz tz mz => by
            rw [e237] at mz
            by_cases zc : z = dz_tp (x0.2 235) s
            · refine ⟨[], l, rfl, fun s' hs' => (by cases hs'), fun t htt => Or.inl ?_⟩
              rw [zc, lvs, lv] at htt
              exact List.mem_append.mpr (Or.inr htt)
            · rw [k1 _ _ (by omega)] at mz
              obtain ⟨A, B, a1, a2, a3⟩ := hJ z hz tz mz
              cases A with
              | nil => exact ⟨[], l, rfl, fun s' hs' => (by cases hs'), fun t htt => Or.inl (by
                  rcases a3 t htt with q | q
                  · exact List.mem_append.mpr (Or.inl q)
                  · cases q)⟩
              | cons c A =>
                rw [List.cons_append, List.cons.injEq] at a1
                obtain ⟨rfl, a1⟩ := a1
                refine ⟨A, B, a1, fun s' hs' => a2 s' (List.mem_cons_of_mem _ hs'), fun t htt => ?_⟩
                rcases a3 t htt with q | q
                · exact Or.inl (List.mem_append.mpr (Or.inl q))
                · have q' : t ∈ lv_W g (x0.2 235) s ++ nv_L (lv_W g (x0.2 235)) A := q
                  rcases List.mem_append.mp q' with q | q
                  · rw [lv] at q
                    exact Or.inl (List.mem_append.mpr (Or.inr q))
                  · exact Or.inr q⟩
          refine ⟨σ', ?_, r2, ?_⟩
          · conv => lhs; unfold fz_X0_nameVariables_43
            rw [if_pos (by omega), len0, if_pos (by omega), fx_231_8 F, Option.bind_some, w3, rs, Option.bind_some, tp, Option.bind_some, fx_231_6 F, Option.bind_some, rm, Option.bind_some, if_pos m0, Option.bind_some, bz_awz t0 (by omega) (Or.inr rfl), Option.bind_some, ← hσ1, iV.1 (hX1.2.1.mpr v), Option.bind_some, if_neg (by decide), fx_231_5 F1, Option.bind_some, bz_awr t0 (by rw [ln_236 F1]; omega), Option.bind_some, ← hσ2, az_w32_id (by omega) (by omega), w4, ← lt]
            exact r1
          · have eq : lv_ad (tb ++ [dz_tp (x0.2 235) s]) (nv_L (lv_W g (x0.2 235)) l) = lv_ad tb (nv_L (lv_W g (x0.2 235)) (s :: l)) := by
              rw [eL, lv, lv_ad_app]
              show _ = lv_ad (if dz_tp (x0.2 235) s ∈ tb then tb else tb ++ [dz_tp (x0.2 235) s]) _
              rw [if_neg nin]
            rw [← eq]
            exact ⟨r3, r4, r5⟩
        · -- a constructor
          have q3 := hX1.2.2 v
          have ar := hG.1.2.2.1 _ top.2 v
          have arn : ((dz_ar g (dz_tp (x0.2 235) s)).toNat : Int) = dz_ar g (dz_tp (x0.2 235) s) := by omega
          obtain ⟨K, kk1, kk2, kk3, kk4⟩ := nv_K_eq (h := lv_W g (x0.2 235)) (kd := fun k => dz_kd g (dz_tp (x0.2 235) s) k) (dz_ar g (dz_tp (x0.2 235) s)).toNat l
          have lvc : lv_W g (x0.2 235) s = nv_L (lv_W g (x0.2 235)) K := by rw [← lvs, lv_con hG top.2 v, kk3]
          have pushed := fun k43 => nv_push (k43 := k43) (v2 := (tb.length : Int)) (v4 := v4) hG.1 hF hX top.2 v h4 (by omega) (dz_ar g (dz_tp (x0.2 235) s)).toNat 2000000 σ1 l (by omega) (by omega) U7 (nv_St_cong l (fun i z0 z1 => k1 _ _ (by omega)) hS.2) (by omega)
          obtain ⟨σ2, p1, p2, p3⟩ := pushed (fz_X0_nameVariables_43 2000000 k)
          have U2 : bz_Upd x0 σ2 nv_S := U7.trans (p2.weak fun a _ z => Or.inr (Or.inr z))
          have k2 : ∀ a i, a ≠ 239 → σ2.2 a i = σ1.2 a i := fun a i z => p2.2.2 a i z
          have e237 : σ2.2 237 = σ1.2 237 := funext fun n => k2 237 n (by omega)
          rw [kk1] at p1 p3
          obtain ⟨σ', r1, r2, r3, r4, r5⟩ := ih k σ2 tb (K ++ l) (v4 + 1) (by rw [e237, List.length_append, kk4]; omega) (by omega) (by omega) (by omega) (by omega) ⟨U2, p3, fun s' hs' => by
            rcases List.mem_append.mp hs' with q | q
            · obtain ⟨i, i0, i1, rfl⟩ := kk2 s' q
              exact ar.2.2 i i0 (by omega)
            · exact hin s' (List.mem_cons_of_mem _ q), hn, fun x hx => by rw [e237]; exact tb1 x hx, fun i x hx => by rw [k2 _ _ (by omega), k1 _ _ (by omega)]; exact hl i x hx, fun n hn' => by rw [e237]; exact mk1 n hn', fun z hz tz mz => by
            rw [e237] at mz
            have rkK : ∀ s', s' ∈ K → ρ (dz_tp (x0.2 235) s') < ρ (dz_tp (x0.2 235) s) := fun s' hs' => by
              obtain ⟨i, i0, i1, rfl⟩ := kk2 s' hs'
              have w := (lv_rk hG top.2 v i0 (by omega)).2
              rw [tt] at w
              exact w
            by_cases zc : z = dz_tp (x0.2 235) s
            · refine ⟨K, l, rfl, fun s' hs' => by rw [zc]; exact rkK s' hs', fun t htt => Or.inr ?_⟩
              rw [zc, lvs, lvc] at htt
              exact htt
            · rw [k1 _ _ (by omega)] at mz
              obtain ⟨A, B, a1, a2, a3⟩ := hJ z hz tz mz
              cases A with
              | nil => exact ⟨[], K ++ l, rfl, fun s' hs' => (by cases hs'), fun t htt => Or.inl (by
                  rcases a3 t htt with q | q
                  · exact q
                  · cases q)⟩
              | cons c A =>
                rw [List.cons_append, List.cons.injEq] at a1
                obtain ⟨rfl, a1⟩ := a1
                refine ⟨K ++ A, B, by rw [a1, List.append_assoc], fun s' hs' => ?_, fun t htt => ?_⟩
                · rcases List.mem_append.mp hs' with q | q
                  · have w1 := rkK s' q
                    have w2 := a2 s List.mem_cons_self
                    omega
                  · exact a2 s' (List.mem_cons_of_mem _ q)
                · rcases a3 t htt with q | q
                  · exact Or.inl q
                  · have q' : t ∈ lv_W g (x0.2 235) s ++ nv_L (lv_W g (x0.2 235)) A := q
                    rw [nv_L_app]
                    rcases List.mem_append.mp q' with q | q
                    · rw [lvc] at q
                      exact Or.inr (List.mem_append.mpr (Or.inl q))
                    · exact Or.inr (List.mem_append.mpr (Or.inr q))⟩
          refine ⟨σ', ?_, r2, ?_⟩
          · conv => lhs; unfold fz_X0_nameVariables_43
            have r232 : az_ard σ1 232 (dz_tp (x0.2 235) s) = some (x0.2 232 (dz_tp (x0.2 235) s)) := by rw [bz_ard t0 (by rw [ln_232 F1]; omega), e232]
            rw [if_pos (by omega), len0, if_pos (by omega), fx_231_8 F, Option.bind_some, w3, rs, Option.bind_some, tp, Option.bind_some, fx_231_6 F, Option.bind_some, rm, Option.bind_some, if_pos m0, Option.bind_some, bz_awz t0 (by omega) (Or.inr rfl), Option.bind_some, ← hσ1, iV.2 (fun z => v (hX1.2.1.mp z)), Option.bind_some, if_pos rfl, fx_231_1 F1, Option.bind_some, r232, Option.bind_some, bz_arity hX1.1, Option.bind_some, q3.1, az_w32_id (by omega) (by omega)]
            rw [arn] at p1
            rw [p1]
            exact r1
          · have eq : lv_ad tb (nv_L (lv_W g (x0.2 235)) (K ++ l)) = lv_ad tb (nv_L (lv_W g (x0.2 235)) (s :: l)) := by rw [eL, lvc, nv_L_app]
            rw [← eq]
            exact ⟨r3, r4, r5⟩
      · -- it was there
        obtain ⟨A, B, a1, a2, a3⟩ := hJ _ top.2 tt m1
        have sub : ∀ t, t ∈ lv_W g (x0.2 235) s → t ∈ tb := fun t htt => by
          rw [← lvs] at htt
          cases A with
          | nil =>
            rcases a3 t htt with q | q
            · exact q
            · cases q
          | cons c A =>
            rw [List.cons_append, List.cons.injEq] at a1
            have := a2 c List.mem_cons_self
            rw [← a1.1] at this
            omega
        obtain ⟨σ', r1, r2, r3, r4, r5⟩ := ih k σ tb l (v4 + 1) (by omega) (by omega) (by omega) (by omega) (by omega) ⟨hU, hS.2, fun s' hs' => hin s' (List.mem_cons_of_mem _ hs'), hn, ht, hl, hmk, fun z hz tz mz => by
          obtain ⟨A, B, a1, a2, a3⟩ := hJ z hz tz mz
          cases A with
          | nil => exact ⟨[], l, rfl, fun s' hs' => (by cases hs'), fun t htt => Or.inl (by
              rcases a3 t htt with q | q
              · exact q
              · cases q)⟩
          | cons c A =>
            rw [List.cons_append, List.cons.injEq] at a1
            obtain ⟨rfl, a1⟩ := a1
            refine ⟨A, B, a1, fun s' hs' => a2 s' (List.mem_cons_of_mem _ hs'), fun t htt => ?_⟩
            rcases a3 t htt with q | q
            · exact Or.inl q
            · have q' : t ∈ lv_W g (x0.2 235) s ++ nv_L (lv_W g (x0.2 235)) A := q
              rcases List.mem_append.mp q' with q | q
              · exact Or.inl (sub t q)
              · exact Or.inr q⟩
        refine ⟨σ', ?_, r2, ?_⟩
        · conv => lhs; unfold fz_X0_nameVariables_43
          rw [if_pos (by omega), len0, if_pos (by omega), fx_231_8 F, Option.bind_some, w3, rs, Option.bind_some, tp, Option.bind_some, fx_231_6 F, Option.bind_some, rm, Option.bind_some, if_neg (by omega), w4]
          exact r1
        · have eq : lv_ad tb (nv_L (lv_W g (x0.2 235)) l) = lv_ad tb (nv_L (lv_W g (x0.2 235)) (s :: l)) := by rw [eL, lv_ad_app, lv_ad_sub _ _ sub]
          rw [← eq]
          exact ⟨r3, r4, r5⟩
end NV
