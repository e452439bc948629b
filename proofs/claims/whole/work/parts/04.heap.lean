/-! the heap: what one store changes -/
theorem az_ad_inj {G : az_G} {x a : Int} (hx : 1 ≤ x) (ha : 1 ≤ a) (h : az_ad G x = az_ad G a) : x = a := by
  unfold az_ad at h; omega
theorem az_ad_ge {G : az_G} {x : Int} : G.1 ≤ az_ad G x := by
  unfold az_ad; omega
theorem az_ad_lt {G : az_G} {σ : az_Hp} {H : Heap} {x : Int} (hz : H.size = G.1 + σ.1.1) (h1 : 1 ≤ x) (h2 : x ≤ (σ.1.1 : Int)) : az_ad G x < H.size := by
  unfold az_ad; omega
theorem az_at_congr {G : az_G} {σ σ' : az_Hp} {x : Int} {H H' : Heap} (hk : σ'.1.2.2.1 x = σ.1.2.2.1 x) (hn : σ'.1.2.2.2 x = σ.1.2.2.2 x) (hv : ∀ j, σ'.2 x j = σ.2 x j) (hH : H'[az_ad G x]? = H[az_ad G x]?) (h : az_at G σ x H) : az_at G σ' x H' := by
  unfold az_at at h ⊢
  rw [hk, hn]
  have e : σ'.2 x = σ.2 x := funext hv
  rw [e]
  split at h
  · rename_i c
    rw [if_pos c]
    exact h.kept hH
  · rename_i c
    rw [if_neg c, hH]
    exact h
theorem az_sum_eq {B : Nat} {H H' : Heap} (h : ∀ q : Nat, (H'[q]?).map (·.slots.size) = (H[q]?).map (·.slots.size)) : az_sum B H' = az_sum B H := by
  unfold az_sum
  have e : H'.toList.map (·.slots.size) = H.toList.map (·.slots.size) := by
    apply List.ext_getElem?
    intro q
    rw [List.getElem?_map, List.getElem?_map, Array.getElem?_toList, Array.getElem?_toList]
    exact h q
  rw [List.map_drop, List.map_drop, e]
theorem az_Rep.upd {G : az_G} {σ σ' : az_Hp} {H H' : Heap} (hR : az_Rep G σ H) {a : Int} (ha1 : 1 ≤ a) (hsz : H'.size = H.size) (ho : ∀ q : Nat, q ≠ az_ad G a → H'[q]? = H[q]?) {c c' : Cell} (hc : H[az_ad G a]? = some c) (hc' : H'[az_ad G a]? = some c') (hcs : c'.slots.size = c.slots.size)
    (hτ : σ'.1 = σ.1) (hv : ∀ x, x ≠ a → ∀ j, σ'.2 x j = σ.2 x j) (hat : az_at G σ' a H') (hwt : az_WT σ') : az_Rep G σ' H' := by
  obtain ⟨h1, h2, h3, h4, h5⟩ := hR
  refine ⟨by rw [hsz, hτ]; exact h1, fun q hq => ?_, ?_, fun x hx1 hx2 => ?_, hwt⟩
  · rw [ho q (fun e => by have := az_ad_ge (G := G) (x := a); omega)]
    exact h2 q hq
  · rw [hτ, ← h3]
    refine az_sum_eq fun q => ?_
    by_cases hq : q = az_ad G a
    · rw [hq, hc, hc']; simp [hcs]
    · rw [ho q hq]
  · by_cases hxa : x = a
    · rw [hxa]; exact hat
    · rw [hτ] at hx2
      exact az_at_congr (by rw [hτ]) (by rw [hτ]) (hv x hxa) (ho _ (fun e => hxa (az_ad_inj hx1 ha1 e))) (h4 x hx1 hx2)
theorem az_wr_same {σ : az_Hp} {a i x : Int} : (az_wr σ a i x).2 a i = x := by simp [az_wr]
theorem az_wr_ne {σ : az_Hp} {a i x b j : Int} (h : ¬ (b = a ∧ j = i)) : (az_wr σ a i x).2 b j = σ.2 b j := by simp [az_wr, h]
theorem az_WT.wr {σ : az_Hp} (h : az_WT σ) {a i z : Int} (ha2 : a ≤ (σ.1.1 : Int)) (hz : az_okv σ.1 (az_fk (σ.1.2.2.1 a) i) z) : az_WT (az_wr σ a i z) := by
  obtain ⟨h1, h2, h3, h4⟩ := h
  refine ⟨h1, h2, fun x hx1 hx2 => ?_, fun x hx j => ?_⟩
  · obtain ⟨g1, g2, g3, g4, g5⟩ := h3 x hx1 hx2
    refine ⟨g1, g2, g3, g4, fun j hj1 hj2 => ?_⟩
    by_cases hc : x = a ∧ j = i
    · obtain ⟨rfl, rfl⟩ := hc
      rw [az_wr_same]; exact hz
    · rw [az_wr_ne hc]; exact g5 j hj1 hj2
  · have hx' : (σ.1.1 : Int) < x := hx
    rw [az_wr_ne (fun q => by omega)]
    exact h4 x hx j
/-- a class of the tables, by its number -/
def az_chk (ty : FieldType) (t : Nat) : Bool := match ty, t with
  | .int, 0 => true
  | .boolean, 0 => true
  | .long, 1 => true
  | .object _, _ + 2 => true
  | .array _, _ + 2 => true
  | _, _ => false
def az_CL (c : Nat) (C : String) (T : u_T) (N : Nat) (ty : Nat → FieldType) : Prop :=
  vwCl[c]? = some (C, T, N) ∧ (∀ w ∈ u_ws C T N, w ∈ az_gw) ∧ (∀ k, k < N → parseFieldDescriptor (T k).2.2.1 = some (ty k)) ∧ (∀ a, a < N → ∀ b, b < N → a ≠ b → (T a).2.1 ≠ (T b).2.1) ∧ az_NF c = N ∧ c < 12 ∧ ∀ k, k < N → az_chk (ty k) (az_fk c (k : Int)) = true
/-- an instruction's link to a field: by its class's number and its place -/
def az_FL (own : String) (idx c : Nat) (k : Int) (ty : FieldType) (fin : Bool) : Prop :=
  ∃ (kn : Nat) (C : String) (T : u_T) (N : Nat) (tyf : Nat → FieldType), az_CL c C T N tyf ∧ k = (kn : Int) ∧ kn < N ∧ Cond.fieldLink own idx (T kn).1 (T kn).2.1 (T kn).2.2.1 ∈ az_gw ∧ tyf kn = ty ∧ (T kn).2.2.2 = fin ∧ (T kn).1 = C
section AZ3
variable {α : Type} {Z : az_Z} {y : MethodName} {cc : ByteArray} {nL d pc : Nat} {ret : Option FieldType} {L st : List az_AV} {σ : az_Hp} {T : az_R}
/-- what a field's read gives -/
theorem az_get0 (C : az_C Z y cc nL ret d) {idx c : Nat} {k a : Int} {ty : FieldType} {fin : Bool} (hF : az_FL y.cls idx c k ty fin) (hd : decode cc pc = .ok (.getfield idx, 3)) {t : Nat} (ht : az_fk c k = t)
    (kk : ∀ (H : Heap) (locs : List Loc) (ls : Array Slot) (vs : List Value), az_Rep Z.2.2.2.2.2.2.2.2.2.2.1 σ H → az_Ext Z.2.2.2.2.2.2.2.2.2.2.2 σ.1 → (∀ q ∈ locs, Z.2.2.2.2.2.2.2.2.2.2.1.1 ≤ q.base) →
      az_LV Z.2.2.2.2.2.2.2.2.2.2.1 σ.1 nL ls L → az_VL Z.2.2.2.2.2.2.2.2.2.2.1 σ.1 st vs → az_okv σ.1 t (σ.2 a k) → az_W Z (pc + 3) ls (az_cv Z.2.2.2.2.2.2.2.2.2.2.1 t (σ.2 a k) :: vs) σ H locs T) : az_AW Z nL pc L ((c + 2, a) :: st) σ T := by
  obtain ⟨p, l, e, R, s, m, args, below, meth, cd, G, τ0⟩ := Z
  intro H locs ls vs hR hE hl hL hV
  obtain ⟨kn, CN, TT, N, tyf, ⟨hc, hin, hty, hnm, hNF, hc12, hchk⟩, rfl, hkn, hlink, htyk, hfin, hdecl⟩ := hF
  obtain ⟨vs', rfl, ⟨ha1, ha2, ha3⟩, hV⟩ := az_vlr (by omega) hV
  have hat := hR.2.2.2.1 a ha1 ha2
  have hwt := (hR.2.2.2.2.2.2.1 a ha1 ha2)
  unfold az_at at hat
  rw [ha3, if_pos hc12] at hat
  obtain ⟨cell, q1, q2, q3, q4⟩ := hat
  obtain ⟨hx, hb, hml, hr, hlocks, hnm0, hown, hgw, ⟨hK, -⟩, -⟩ := C
  dsimp only at hx hb hml hr hlocks hnm0 hown hgw hK
  obtain ⟨hS, hfc, kC, hkC, hkind⟩ := hK.1 c _ hc
  obtain ⟨cf, kf, fi, f, hi, hsl⟩ := hS kn hkn
  refine W.getf hx hb hown (hgw _ hlink) hi (u_facts hfc hkC (u_lays hgw hin hkn) hi).1 q1 (by rw [q3]; exact fun h => by cases h) (v := az_cv G t (σ.2 a (kn : Int))) ?_ rfl rfl hd (kk H locs ls vs' hR hE hl hL hV ?_)
  · have hsl' : f.slot = G.2.2.1.2 c kn := hsl
    rw [hsl', q4 kn (by rw [hNF]; exact hkn)]; dsimp only; rw [ht]
  · have := hwt.2.2.2.2 (kn : Int) (by omega) (by rw [hwt.2.2.2.1 (by rw [ha3]; exact hc12), ha3, hNF]; omega)
    rw [ha3, ht] at this
    exact this
theorem az_getI (C : az_C Z y cc nL ret d) {idx c : Nat} {k a : Int} {ty : FieldType} {fin : Bool} (hF : az_FL y.cls idx c k ty fin) (ht : az_fk c k = 0) (hd : decode cc pc = .ok (.getfield idx, 3)) (kk : az_AW Z nL (pc + 3) L ((0, σ.2 a k) :: st) σ T) : az_AW Z nL pc L ((c + 2, a) :: st) σ T :=
  az_get0 C hF hd ht fun H locs ls vs hR hE hl hL hV hok => kk H locs ls _ hR hE hl hL ⟨⟨_, rfl, az_of32 hok.1 hok.2⟩, hV⟩
theorem az_getJ (C : az_C Z y cc nL ret d) {idx c : Nat} {k a : Int} {ty : FieldType} {fin : Bool} (hF : az_FL y.cls idx c k ty fin) (ht : az_fk c k = 1) (hd : decode cc pc = .ok (.getfield idx, 3)) (kk : az_AW Z nL (pc + 3) L ((1, σ.2 a k) :: st) σ T) : az_AW Z nL pc L ((c + 2, a) :: st) σ T :=
  az_get0 C hF hd ht fun H locs ls vs hR hE hl hL hV hok => kk H locs ls _ hR hE hl hL ⟨⟨_, rfl, az_of64 hok.1 hok.2⟩, hV⟩
def az_gref (σ : az_Hp) (a k : Int) : Option Int := if 0 < σ.2 a k then some (σ.2 a k) else none
theorem az_cv_ref {G : az_G} {c : Nat} {z : Int} (h : 0 < z) : az_cv G (c + 2) z = .ref (az_ad G z) := by
  show va_rf (az_rf G z) = _
  unfold az_rf
  rw [if_neg (by omega)]
  rfl
theorem az_getR (C : az_C Z y cc nL ret d) {idx c c2 : Nat} {k a : Int} {ty : FieldType} {fin : Bool} {K : Int → Option α} {r : α} (h : (az_gref σ a k).bind K = some r) (hF : az_FL y.cls idx c k ty fin) (ht : az_fk c k = c2 + 2) (hc2 : Nat.ble c2 16 = true) (hd : decode cc pc = .ok (.getfield idx, 3)) (kk : K (σ.2 a k) = some r → az_AW Z nL (pc + 3) L ((c2 + 2, σ.2 a k) :: st) σ T) : az_AW Z nL pc L ((c + 2, a) :: st) σ T := by
  unfold az_gref at h
  by_cases hp : 0 < σ.2 a k
  · rw [if_pos hp] at h
    refine az_get0 C hF hd ht fun H locs ls vs hR hE hl hL hV hok => ?_
    rw [az_cv_ref hp]
    rcases hok with q | ⟨q1, q2, q3⟩
    · omega
    · exact kk h H locs ls _ hR hE hl hL ⟨az_vr' (Nat.le_of_ble_eq_true hc2) q1 q2 q3, hV⟩
  · rw [if_neg hp] at h; cases h
/-- a field's store: a field that isn't final, or one that is, in a constructor of its class -/
theorem az_put0 (C : az_C Z y cc nL ret d) {idx c : Nat} {k a z : Int} {ty : FieldType} {fin : Bool} (hF : az_FL y.cls idx c k ty fin) (hfin : fin = false ∨ (y.name = "<init>" ∧ ∃ T N, vwCl[c]? = some (y.cls, T, N))) (hd : decode cc pc = .ok (.putfield idx, 3)) {b : az_AV} {t : Nat} (ht : az_fk c k = t)
    (hb : ∀ (G : az_G) (v : Value), az_V G σ.1 b v → v = az_cv G t z ∧ az_okv σ.1 t z ∧ narrow ty v = v ∧ fits ty v = true)
    (kk : az_AW Z nL (pc + 3) L st (az_wr σ a k z) T) : az_AW Z nL pc L (b :: (c + 2, a) :: st) σ T := by
  obtain ⟨p, l, e, R, s, m, args, below, meth, cd, G, τ0⟩ := Z
  intro H locs ls vs hR hE hl hL hV
  obtain ⟨kn, CN, TT, N, tyf, ⟨hc, hin, hty, hnm, hNF, hc12, hchk⟩, rfl, hkn, hlink, htyk, hfink, hdecl⟩ := hF
  obtain ⟨v, vs1, rfl, hv, hV1⟩ := az_vl1 hV
  obtain ⟨vs2, rfl, ⟨ha1, ha2, ha3⟩, hV2⟩ := az_vlr (by omega) hV1
  obtain ⟨hv1, hok, hnar, hfit⟩ := hb G v hv
  have hat := hR.2.2.2.1 a ha1 ha2
  have hat0 := hat
  unfold az_at at hat
  rw [ha3, if_pos hc12] at hat
  obtain ⟨cell, q1, q2, q3, q4⟩ := hat
  obtain ⟨hx, hbd, hml, hr, hlocks, hnm0, hown, hgw, ⟨hK, -⟩, -⟩ := C
  dsimp only at hx hbd hml hr hlocks hnm0 hown hgw hK
  have hap := va_apart (own := y.cls) hgw hin tyf hty hnm hK hc
  obtain ⟨hS, hfc, kC, hkC, hkind⟩ := hK.1 c _ hc
  obtain ⟨cf, kf, fi, f, hi, hsl⟩ := hS kn hkn
  have hsl' : f.slot = G.2.2.1.2 c kn := hsl
  have hlay := hgw _ (hin _ (u_in_lay hkn))
  unfold u_lay at hlay
  have hst := (u_facts hfc hkC (u_lays hgw hin hkn) hi).1
  have hd' := hty kn hkn
  rw [htyk] at hd'
  have fin' : ∀ H' : Heap, H'[az_ad G a]? = some (cell.setSlot f.slot v) → H'.size = H.size → (∀ q, q ≠ az_ad G a → H'[q]? = H[q]?) →
      W p l e R s m args below meth cd H' (locs ++ [⟨az_ad G a, f.slot⟩]) (σ.1.1 - τ0.1) (σ.1.2.1 - τ0.2.1) (MQ below (az_Qc G τ0 T) args s (600000 - τ0.1) (7302250 - τ0.2.1) (fun q => G.1 ≤ q)) (F0 m (pc + 3) ls vs2) := by
    intro H' e1 e2 e3
    have hwt' : az_WT (az_wr σ a (kn : Int) z) := hR.2.2.2.2.wr ha2 (by rw [ha3, ht]; exact hok)
    refine kk H' _ ls vs2 (hR.upd (σ' := az_wr σ a (kn : Int) z) ha1 e2 e3 q1 e1 ?_ rfl (fun x hx j => az_wr_ne (fun q => hx q.1)) ?_ hwt') hE ?_ hL hV2
    · simp [Cell.setSlot]
    · unfold az_at
      rw [show (az_wr σ a (kn : Int) z).1.2.2.1 a = c from ha3, if_pos hc12]
      refine t_OB.to (V := updV (fun j => az_cv G (az_fk c (j : Int)) (σ.2 a (j : Int))) kn v) ⟨_, e1, q2, q3, ?_⟩ ?_
      · rw [hsl']
        have hap' : ∀ x y, x < az_NF c → y < az_NF c → x ≠ y → G.2.2.1.2 c x ≠ G.2.2.1.2 c y := by rw [hNF]; exact hap
        exact t_set q4 hap' (by rw [hNF]; exact hkn) v
      · intro j hj
        by_cases hjk : j = kn
        · subst hjk
          rw [az_wr_same, ht]
          simp [updV, hv1]
        · rw [az_wr_ne (fun q => hjk (by have := q.2; omega))]
          simp [updV, hjk]
    · intro q hq
      rcases List.mem_append.mp hq with h | h
      · exact hl q h
      · rw [List.mem_singleton.mp h]; exact az_ad_ge
  by_cases hff : fin = false
  · rw [if_neg (by rw [hfink, hff]; decide)] at hlay
    have h6 := u_store hfc hkC hkind hlay hi hd' hnar hfit
    exact W.putK hx hbd (f := f) ⟨hown, hgw _ hlink, ⟨_, _, _, hi⟩, hst⟩ (by rw [q2]; exact h6) q1 q3 (by rw [hsl']; exact k2_hasslot (q4 kn (by rw [hNF]; exact hkn))) rfl rfl hd fin'
  · obtain ⟨hin2, T', N', hc2⟩ := hfin.resolve_left hff
    have hCy : CN = y.cls := by have := hc.symm.trans hc2; simp at this; exact this.1
    rw [if_pos (by rw [hfink]; simpa using hff)] at hlay
    have hcf : m.cls = cf := by
      obtain ⟨_, _, c', _, _, _, -, -, hf', -, -, -, hown2, -⟩ := Cond.laysFinal_spec hlay
      have e1 : c' = cf := by have := hi.symm.trans hf'; simp at this; exact this.1.symm
      rw [hdecl, hCy] at hown2
      rw [← e1]; exact Option.some.inj (hown.symm.trans hown2)
    have h6 := u_fits hfc hkC hkind (Or.inr hlay) hi hd' hnar hfit
    exact W.putFinK hx hbd hown (hgw _ hlink) hi hst hcf (hnm0 hin2) (by rw [q2]; exact h6) q1 q3 (by rw [hsl']; exact k2_hasslot (q4 kn (by rw [hNF]; exact hkn))) rfl rfl hd fin'
theorem az_ofInt32 {w : Int32} {x : Int} (h : w.toInt = x) : Int32.ofInt x = w := by rw [← h]; simp
theorem az_ofInt64 {w : Int64} {x : Int} (h : w.toInt = x) : Int64.ofInt x = w := by rw [← h]; simp
theorem az_okI {w : Int32} {x : Int} {τ : az_Shp} (h : w.toInt = x) : az_okv τ 0 x := by rw [← h]; exact az_rng32 w
theorem az_okJ {w : Int64} {x : Int} {τ : az_Shp} (h : w.toInt = x) : az_okv τ 1 x := by rw [← h]; exact az_rng64 w
abbrev az_fin (y : MethodName) (c : Nat) (fin : Bool) : Prop := fin = false ∨ (y.name = "<init>" ∧ ∃ T N, vwCl[c]? = some (y.cls, T, N))
theorem az_putI (C : az_C Z y cc nL ret d) {idx c : Nat} {k a x : Int} {fin : Bool} (hF : az_FL y.cls idx c k .int fin) (hfin : az_fin y c fin) (ht : az_fk c k = 0) (hd : decode cc pc = .ok (.putfield idx, 3)) (kk : az_AW Z nL (pc + 3) L st (az_wr σ a k x) T) : az_AW Z nL pc L ((0, x) :: (c + 2, a) :: st) σ T :=
  az_put0 C hF hfin hd ht (fun _ v ⟨w, hv, hw⟩ => by subst hv; exact ⟨by rw [← az_ofInt32 hw]; rfl, az_okI hw, rfl, rfl⟩) kk
theorem az_putJ (C : az_C Z y cc nL ret d) {idx c : Nat} {k a x : Int} {fin : Bool} (hF : az_FL y.cls idx c k .long fin) (hfin : az_fin y c fin) (ht : az_fk c k = 1) (hd : decode cc pc = .ok (.putfield idx, 3)) (kk : az_AW Z nL (pc + 3) L st (az_wr σ a k x) T) : az_AW Z nL pc L ((1, x) :: (c + 2, a) :: st) σ T :=
  az_put0 C hF hfin hd ht (fun _ v ⟨w, hv, hw⟩ => by subst hv; exact ⟨by rw [← az_ofInt64 hw]; rfl, az_okJ hw, rfl, rfl⟩) kk
theorem az_b01 {w : Int32} {x : Int} (hw : w.toInt = x) (h : x = 0 ∨ x = 1) : w = 0 ∨ w = 1 := by
  rcases h with rfl | rfl
  · left; exact Int32.toInt_inj.mp (by rw [hw]; rfl)
  · right; exact Int32.toInt_inj.mp (by rw [hw]; rfl)
theorem az_narZ {w : Int32} (h : w = 0 ∨ w = 1) : narrow .boolean (.int w) = .int w ∧ fits .boolean (.int w) = true := by
  rcases h with rfl | rfl <;> exact ⟨by decide, by decide⟩
theorem az_putZ (C : az_C Z y cc nL ret d) {idx c : Nat} {k a x : Int} {fin : Bool} {A : Option α} {r : α} (h : (if x = 0 ∨ x = 1 then A else none) = some r) (hF : az_FL y.cls idx c k .boolean fin) (hfin : az_fin y c fin) (ht : az_fk c k = 0) (hd : decode cc pc = .ok (.putfield idx, 3)) (kk : A = some r → az_AW Z nL (pc + 3) L st (az_wr σ a k x) T) : az_AW Z nL pc L ((0, x) :: (c + 2, a) :: st) σ T := by
  by_cases hz : x = 0 ∨ x = 1
  · rw [if_pos hz] at h
    exact az_put0 C hF hfin hd ht (fun _ v ⟨w, hv, hw⟩ => by subst hv; exact ⟨by rw [← az_ofInt32 hw]; rfl, az_okI hw, (az_narZ (az_b01 hw hz)).1, (az_narZ (az_b01 hw hz)).2⟩) (kk h)
  · rw [if_neg hz] at h; cases h
theorem az_putR (C : az_C Z y cc nL ret d) {idx c c2 : Nat} {k a x : Int} {ty : FieldType} {fin : Bool} (hF : az_FL y.cls idx c k ty fin) (hfin : az_fin y c fin) (ht : az_fk c k = c2 + 2) (hc2 : Nat.ble c2 16 = true) (hty : ty.isReference = true) (hd : decode cc pc = .ok (.putfield idx, 3)) (kk : az_AW Z nL (pc + 3) L st (az_wr σ a k x) T) : az_AW Z nL pc L ((c2 + 2, x) :: (c + 2, a) :: st) σ T :=
  az_put0 C hF hfin hd ht (fun G v hv => by
    obtain ⟨q1, q2, q3, rfl⟩ := az_vr (Nat.le_of_ble_eq_true hc2) hv
    refine ⟨(az_cv_ref (by omega)).symm, Or.inr ⟨q1, q2, q3⟩, ?_, ?_⟩
    · cases ty <;> first | rfl | cases hty
    · cases ty <;> first | rfl | cases hty) kk
end AZ3
