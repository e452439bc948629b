section AZ4
variable {α : Type} {Z : az_Z} {y : MethodName} {cc : ByteArray} {nL d pc : Nat} {ret : Option FieldType} {L st : List az_AV} {σ : az_Hp} {T : az_R}
def az_ard (σ : az_Hp) (a i : Int) : Option Int := if 0 ≤ i ∧ i < az_ln σ a then some (σ.2 a i) else none
def az_arr (σ : az_Hp) (a i : Int) : Option Int := if (0 ≤ i ∧ i < az_ln σ a) ∧ 0 < σ.2 a i then some (σ.2 a i) else none
def az_awr (σ : az_Hp) (a i x : Int) : Option az_Hp := if 0 ≤ i ∧ i < az_ln σ a then some (az_wr σ a i x) else none
def az_awz (σ : az_Hp) (a i x : Int) : Option az_Hp := if (0 ≤ i ∧ i < az_ln σ a) ∧ (x = 0 ∨ x = 1) then some (az_wr σ a i x) else none
def az_awb (σ : az_Hp) (a i x : Int) : Option az_Hp := if (0 ≤ i ∧ i < az_ln σ a) ∧ (-128 ≤ x ∧ x ≤ 127) then some (az_wr σ a i x) else none
/-- an array's cell, its element's type, and an index that is within -/
theorem az_arr0 {G : az_G} {H : Heap} {k : Nat} {a i : Int} {w : Int32} (hR : az_Rep G σ H) (ha1 : 1 ≤ a) (ha2 : a ≤ (σ.1.1 : Int)) (ha3 : σ.1.2.2.1 a = k) (hk : 12 ≤ k) (hw : w.toInt = i) (h0 : 0 ≤ i) (h1 : i < az_ln σ a) :
    H[az_ad G a]? = some (arrV (G.2.2.2 k) (az_ln σ a).toNat (fun j => az_cv G (az_fk k (j : Int)) (σ.2 a (j : Int)))) ∧ ¬ (w < 0 ∨ (az_ln σ a).toNat ≤ w.toNatClampNeg) ∧ w.toNatClampNeg < (az_ln σ a).toNat ∧ (w.toNatClampNeg : Int) = i ∧ az_okv σ.1 (az_fk k i) (σ.2 a i) := by
  have hat := hR.2.2.2.1 a ha1 ha2
  have hwt := hR.2.2.2.2.2.2.1 a ha1 ha2
  unfold az_at at hat
  rw [ha3, if_neg (by omega)] at hat
  have e1 : w.toNatClampNeg = i.toNat := by rw [az_clamp, hw]
  have e2 : (w.toNatClampNeg : Int) = i := by omega
  refine ⟨hat, ?_, by omega, e2, ?_⟩
  · rintro (q | q)
    · rw [Int32.lt_iff_toInt_lt, hw, Int32.toInt_zero] at q; omega
    · omega
  · have := hwt.2.2.2.2 i h0 h1
    rw [ha3] at this
    exact this
theorem az_ard_some {a i : Int} {K : Int → Option α} {r : α} (h : (az_ard σ a i).bind K = some r) : (0 ≤ i ∧ i < az_ln σ a) ∧ K (σ.2 a i) = some r := by
  unfold az_ard at h
  split at h
  · rename_i c; exact ⟨c, h⟩
  · cases h
theorem az_iaload (C : az_C Z y cc nL ret d) {a i : Int} {K : Int → Option α} {r : α} (h : (az_ard σ a i).bind K = some r) (hd : decode cc pc = .ok (.iaload, 1)) (kk : K (σ.2 a i) = some r → az_AW Z nL (pc + 1) L ((0, σ.2 a i) :: st) σ T) : az_AW Z nL pc L ((0, i) :: (15, a) :: st) σ T := by
  obtain ⟨⟨h0, h1⟩, hk⟩ := az_ard_some h
  have kk := kk hk
  obtain ⟨p, l, e, R, s, m, args, below, meth, cd, G, τ0⟩ := Z
  intro H locs ls vs hR hE hl hL hV
  obtain ⟨w, vs1, rfl, hw, hV1⟩ := az_vli hV
  obtain ⟨vs2, rfl, ⟨ha1, ha2, ha3⟩, hV2⟩ := az_vlr (c := 13) (by omega) hV1
  obtain ⟨hcell, hin, hlt, hwi, hok⟩ := az_arr0 hR ha1 ha2 ha3 (by omega) hw h0 h1
  obtain ⟨hx, hb, hml, hr, hlocks, hnm0, hown, hgw, ⟨hK, -⟩, -⟩ := C
  refine W.iald (v := az_cv G 0 (σ.2 a i)) hx hb hcell ((hK.2 1 (G.2.2.2 13, .int) rfl).1 _ _) (fun q => by cases q) (by rw [arrV_size]; exact hin) (by rw [arrV_read _ _ hlt, hwi]; rfl) rfl rfl hd ?_
  exact kk H locs ls _ hR hE hl hL ⟨⟨_, rfl, az_of32 hok.1 hok.2⟩, hV2⟩
theorem az_zaload (C : az_C Z y cc nL ret d) {a i : Int} {K : Int → Option α} {r : α} (h : (az_ard σ a i).bind K = some r) (hd : decode cc pc = .ok (.baload, 1)) (kk : K (σ.2 a i) = some r → az_AW Z nL (pc + 1) L ((0, σ.2 a i) :: st) σ T) : az_AW Z nL pc L ((0, i) :: (17, a) :: st) σ T := by
  obtain ⟨⟨h0, h1⟩, hk⟩ := az_ard_some h
  have kk := kk hk
  obtain ⟨p, l, e, R, s, m, args, below, meth, cd, G, τ0⟩ := Z
  intro H locs ls vs hR hE hl hL hV
  obtain ⟨w, vs1, rfl, hw, hV1⟩ := az_vli hV
  obtain ⟨vs2, rfl, ⟨ha1, ha2, ha3⟩, hV2⟩ := az_vlr (c := 15) (by omega) hV1
  obtain ⟨hcell, hin, hlt, hwi, hok⟩ := az_arr0 hR ha1 ha2 ha3 (by omega) hw h0 h1
  obtain ⟨hx, hb, hml, hr, hlocks, hnm0, hown, hgw, ⟨hK, -⟩, -⟩ := C
  refine W.zald (v := az_cv G 0 (σ.2 a i)) hx hb hcell ((hK.2 3 (G.2.2.2 15, .boolean) rfl).1 _ _) (fun q => by cases q) (by rw [arrV_size]; exact hin) (by rw [arrV_read _ _ hlt, hwi]; rfl) rfl rfl hd ?_
  exact kk H locs ls _ hR hE hl hL ⟨⟨_, rfl, az_of32 hok.1 hok.2⟩, hV2⟩
theorem az_baload (C : az_C Z y cc nL ret d) {a i : Int} {K : Int → Option α} {r : α} (h : (az_ard σ a i).bind K = some r) (hd : decode cc pc = .ok (.baload, 1)) (kk : K (σ.2 a i) = some r → az_AW Z nL (pc + 1) L ((0, σ.2 a i) :: st) σ T) : az_AW Z nL pc L ((0, i) :: (14, a) :: st) σ T := by
  obtain ⟨⟨h0, h1⟩, hk⟩ := az_ard_some h
  have kk := kk hk
  obtain ⟨p, l, e, R, s, m, args, below, meth, cd, G, τ0⟩ := Z
  intro H locs ls vs hR hE hl hL hV
  obtain ⟨w, vs1, rfl, hw, hV1⟩ := az_vli hV
  obtain ⟨vs2, rfl, ⟨ha1, ha2, ha3⟩, hV2⟩ := az_vlr (c := 12) (by omega) hV1
  obtain ⟨hcell, hin, hlt, hwi, hok⟩ := az_arr0 hR ha1 ha2 ha3 (by omega) hw h0 h1
  obtain ⟨hx, hb, hml, hr, hlocks, hnm0, hown, hgw, ⟨hK, -⟩, -⟩ := C
  refine W.bald (v := az_cv G 0 (σ.2 a i)) hx hb hcell ((hK.2 0 (G.2.2.2 12, .byte) rfl).1 _ _) (fun q => by cases q) (by rw [arrV_size]; exact hin) (by rw [arrV_read _ _ hlt, hwi]; rfl) rfl rfl hd ?_
  exact kk H locs ls _ hR hE hl hL ⟨⟨_, rfl, az_of32 hok.1 hok.2⟩, hV2⟩
theorem az_laload (C : az_C Z y cc nL ret d) {a i : Int} {K : Int → Option α} {r : α} (h : (az_ard σ a i).bind K = some r) (hd : decode cc pc = .ok (.laload, 1)) (kk : K (σ.2 a i) = some r → az_AW Z nL (pc + 1) L ((1, σ.2 a i) :: st) σ T) : az_AW Z nL pc L ((0, i) :: (16, a) :: st) σ T := by
  obtain ⟨⟨h0, h1⟩, hk⟩ := az_ard_some h
  have kk := kk hk
  obtain ⟨p, l, e, R, s, m, args, below, meth, cd, G, τ0⟩ := Z
  intro H locs ls vs hR hE hl hL hV
  obtain ⟨w, vs1, rfl, hw, hV1⟩ := az_vli hV
  obtain ⟨vs2, rfl, ⟨ha1, ha2, ha3⟩, hV2⟩ := az_vlr (c := 14) (by omega) hV1
  obtain ⟨hcell, hin, hlt, hwi, hok⟩ := az_arr0 hR ha1 ha2 ha3 (by omega) hw h0 h1
  obtain ⟨hx, hb, hml, hr, hlocks, hnm0, hown, hgw, ⟨hK, -⟩, -⟩ := C
  refine W.lald (v := az_cv G 1 (σ.2 a i)) hx hb hcell ((hK.2 2 (G.2.2.2 14, .long) rfl).1 _ _) (fun q => by cases q) (by rw [arrV_size]; exact hin) (by rw [arrV_read _ _ hlt, hwi]; rfl) rfl rfl hd ?_
  exact kk H locs ls _ hR hE hl hL ⟨⟨_, rfl, az_of64 hok.1 hok.2⟩, hV2⟩
theorem az_aaload (C : az_C Z y cc nL ret d) {a i : Int} {K : Int → Option α} {r : α} (h : (az_arr σ a i).bind K = some r) (hd : decode cc pc = .ok (.aaload, 1)) (kk : K (σ.2 a i) = some r → az_AW Z nL (pc + 1) L ((9, σ.2 a i) :: st) σ T) : az_AW Z nL pc L ((0, i) :: (18, a) :: st) σ T := by
  have h' : ((0 ≤ i ∧ i < az_ln σ a) ∧ 0 < σ.2 a i) ∧ K (σ.2 a i) = some r := by
    unfold az_arr at h
    split at h
    · rename_i c; exact ⟨c, h⟩
    · cases h
  obtain ⟨⟨⟨h0, h1⟩, hp⟩, hk⟩ := h'
  have kk := kk hk
  obtain ⟨p, l, e, R, s, m, args, below, meth, cd, G, τ0⟩ := Z
  intro H locs ls vs hR hE hl hL hV
  obtain ⟨w, vs1, rfl, hw, hV1⟩ := az_vli hV
  obtain ⟨vs2, rfl, ⟨ha1, ha2, ha3⟩, hV2⟩ := az_vlr (c := 16) (by omega) hV1
  obtain ⟨hcell, hin, hlt, hwi, hok⟩ := az_arr0 hR ha1 ha2 ha3 (by omega) hw h0 h1
  obtain ⟨hx, hb, hml, hr, hlocks, hnm0, hown, hgw, ⟨hK, -⟩, -⟩ := C
  refine W.aald (v := .ref (az_ad G (σ.2 a i))) (ty := .object RX7) hx hb hcell ((hK.2 4 (G.2.2.2 16, .object RX7) rfl).1 _ _) rfl (fun q => by cases q) (by rw [arrV_size]; exact hin) (by rw [arrV_read _ _ hlt, hwi, ← az_cv_ref (c := 7) hp]; rfl) rfl rfl hd ?_
  rcases hok with q | ⟨q1, q2, q3⟩
  · omega
  · exact kk H locs ls _ hR hE hl hL ⟨az_vr' (c := 7) (by omega) q1 q2 q3, hV2⟩
theorem az_arraylength (C : az_C Z y cc nL ret d) {k : Nat} {a : Int} (hk : Nat.ble 12 k = true) (hk2 : Nat.ble k 16 = true) (hd : decode cc pc = .ok (.arraylength, 1)) (kk : az_AW Z nL (pc + 1) L ((0, az_ln σ a) :: st) σ T) : az_AW Z nL pc L ((k + 2, a) :: st) σ T := by
  have hk := Nat.le_of_ble_eq_true hk
  have hk2 := Nat.le_of_ble_eq_true hk2
  obtain ⟨p, l, e, R, s, m, args, below, meth, cd, G, τ0⟩ := Z
  intro H locs ls vs hR hE hl hL hV
  obtain ⟨vs2, rfl, ⟨ha1, ha2, ha3⟩, hV2⟩ := az_vlr hk2 hV
  have hat := hR.2.2.2.1 a ha1 ha2
  have hwt := hR.2.2.2.2.2.2.1 a ha1 ha2
  unfold az_at at hat
  rw [ha3, if_neg (by omega)] at hat
  obtain ⟨hx, hb, hml, hr, hlocks, hnm0, hown, hgw, ⟨hK, -⟩, -⟩ := C
  have hty : ∃ (t : Nat) (ty : FieldType), (az_tys G)[t]? = some (G.2.2.2 k, ty) := by
    rcases (show k = 12 ∨ k = 13 ∨ k = 14 ∨ k = 15 ∨ k = 16 by omega) with rfl | rfl | rfl | rfl | rfl
    · exact ⟨0, _, rfl⟩
    · exact ⟨1, _, rfl⟩
    · exact ⟨2, _, rfl⟩
    · exact ⟨3, _, rfl⟩
    · exact ⟨4, _, rfl⟩
  obtain ⟨t, ty, hty⟩ := hty
  refine W.alen hx hb hat ((hK.2 t _ hty).1 _ _) rfl rfl rfl hd ?_
  rw [arrV_size]
  refine kk H locs ls _ hR hE hl hL ⟨⟨_, rfl, ?_⟩, hV2⟩
  have h1 := hwt.1
  have h2 := hwt.2.1
  show (nI (σ.1.2.2.2 a).toNat).toInt = σ.1.2.2.2 a
  rw [nI_toInt (by omega)]
  omega
/-- behind a store into an array -/
theorem az_stored {G : az_G} {H H' : Heap} {k : Nat} {a i z : Int} {w : Int32} {v : Value} (hR : az_Rep G σ H) (ha1 : 1 ≤ a) (ha2 : a ≤ (σ.1.1 : Int)) (ha3 : σ.1.2.2.1 a = k) (hk : 12 ≤ k) (hw : (w.toNatClampNeg : Int) = i)
    (hcell : H[az_ad G a]? = some (arrV (G.2.2.2 k) (az_ln σ a).toNat (fun j => az_cv G (az_fk k (j : Int)) (σ.2 a (j : Int)))))
    (e1 : H'[az_ad G a]? = some ((arrV (G.2.2.2 k) (az_ln σ a).toNat (fun j => az_cv G (az_fk k (j : Int)) (σ.2 a (j : Int)))).setSlot w.toNatClampNeg v)) (e2 : H'.size = H.size) (e3 : ∀ q, q ≠ az_ad G a → H'[q]? = H[q]?) (hv : v = az_cv G (az_fk k i) z) (hok : az_okv σ.1 (az_fk k i) z) : az_Rep G (az_wr σ a i z) H' := by
  refine hR.upd (σ' := az_wr σ a i z) ha1 e2 e3 hcell e1 (by simp [Cell.setSlot]) rfl (fun x hx j => az_wr_ne (fun q => hx q.1)) ?_ (hR.2.2.2.2.wr ha2 (by rw [ha3]; exact hok))
  unfold az_at
  rw [show (az_wr σ a i z).1.2.2.1 a = k from ha3, if_neg (by omega), e1, arrV_store]
  congr 2
  funext j
  by_cases hj : j = w.toNatClampNeg
  · subst hj
    rw [hw, az_wr_same]
    simp [updV, hv]
  · rw [az_wr_ne (fun q => hj (by have := q.2; omega))]
    simp [updV, hj]
theorem az_locs1 {B : Nat} {locs : List Loc} {a k : Nat} (hl : ∀ q ∈ locs, B ≤ q.base) (ha : B ≤ a) : ∀ q ∈ locs ++ [⟨a, k⟩], B ≤ q.base := by
  intro q hq
  rcases List.mem_append.mp hq with h | h
  · exact hl q h
  · rw [List.mem_singleton.mp h]; exact ha
theorem az_iastore (C : az_C Z y cc nL ret d) {a i x : Int} {K : az_Hp → Option α} {r : α} (h : (az_awr σ a i x).bind K = some r) (hd : decode cc pc = .ok (.iastore, 1)) (kk : K (az_wr σ a i x) = some r → az_AW Z nL (pc + 1) L st (az_wr σ a i x) T) : az_AW Z nL pc L ((0, x) :: (0, i) :: (15, a) :: st) σ T := by
  unfold az_awr at h
  by_cases hb : 0 ≤ i ∧ i < az_ln σ a
  · rw [if_pos hb] at h
    have kk := kk h
    obtain ⟨p, l, e, R, s, m, args, below, meth, cd, G, τ0⟩ := Z
    intro H locs ls vs hR hE hl hL hV
    obtain ⟨u, vs0, rfl, hu, hV0⟩ := az_vli hV
    obtain ⟨w, vs1, rfl, hw, hV1⟩ := az_vli hV0
    obtain ⟨vs2, rfl, ⟨ha1, ha2, ha3⟩, hV2⟩ := az_vlr (c := 13) (by omega) hV1
    obtain ⟨hcell, hin, hlt, hwi, hok⟩ := az_arr0 hR ha1 ha2 ha3 (by omega) hw hb.1 hb.2
    obtain ⟨hx, hbb, hml, hr, hlocks, hnm0, hown, hgw, ⟨hK, -⟩, -⟩ := C
    refine W.iast hx hbb hcell ((hK.2 1 (G.2.2.2 13, .int) rfl).1 _ _) (fun q => by cases q) (by rw [arrV_size]; exact hin) rfl rfl hd fun H' e1 e2 e3 => ?_
    exact kk H' _ ls vs2 (az_stored hR ha1 ha2 ha3 (by omega) hwi hcell e1 e2 e3 (by rw [show az_fk 13 i = 0 from rfl, ← az_ofInt32 hu]; rfl) (az_okI hu)) hE (az_locs1 hl az_ad_ge) hL hV2
  · rw [if_neg hb] at h; cases h
theorem az_lastore (C : az_C Z y cc nL ret d) {a i x : Int} {K : az_Hp → Option α} {r : α} (h : (az_awr σ a i x).bind K = some r) (hd : decode cc pc = .ok (.lastore, 1)) (kk : K (az_wr σ a i x) = some r → az_AW Z nL (pc + 1) L st (az_wr σ a i x) T) : az_AW Z nL pc L ((1, x) :: (0, i) :: (16, a) :: st) σ T := by
  unfold az_awr at h
  by_cases hb : 0 ≤ i ∧ i < az_ln σ a
  · rw [if_pos hb] at h
    have kk := kk h
    obtain ⟨p, l, e, R, s, m, args, below, meth, cd, G, τ0⟩ := Z
    intro H locs ls vs hR hE hl hL hV
    obtain ⟨u, vs0, rfl, hu, hV0⟩ := az_vll hV
    obtain ⟨w, vs1, rfl, hw, hV1⟩ := az_vli hV0
    obtain ⟨vs2, rfl, ⟨ha1, ha2, ha3⟩, hV2⟩ := az_vlr (c := 14) (by omega) hV1
    obtain ⟨hcell, hin, hlt, hwi, hok⟩ := az_arr0 hR ha1 ha2 ha3 (by omega) hw hb.1 hb.2
    obtain ⟨hx, hbb, hml, hr, hlocks, hnm0, hown, hgw, ⟨hK, -⟩, -⟩ := C
    refine W.last hx hbb hcell ((hK.2 2 (G.2.2.2 14, .long) rfl).1 _ _) (fun q => by cases q) (by rw [arrV_size]; exact hin) rfl rfl hd fun H' e1 e2 e3 => ?_
    exact kk H' _ ls vs2 (az_stored hR ha1 ha2 ha3 (by omega) hwi hcell e1 e2 e3 (by rw [show az_fk 14 i = 1 from rfl, ← az_ofInt64 hu]; rfl) (az_okJ hu)) hE (az_locs1 hl az_ad_ge) hL hV2
  · rw [if_neg hb] at h; cases h
theorem az_zastore (C : az_C Z y cc nL ret d) {a i x : Int} {K : az_Hp → Option α} {r : α} (h : (az_awz σ a i x).bind K = some r) (hd : decode cc pc = .ok (.bastore, 1)) (kk : K (az_wr σ a i x) = some r → az_AW Z nL (pc + 1) L st (az_wr σ a i x) T) : az_AW Z nL pc L ((0, x) :: (0, i) :: (17, a) :: st) σ T := by
  unfold az_awz at h
  by_cases hb : (0 ≤ i ∧ i < az_ln σ a) ∧ (x = 0 ∨ x = 1)
  · rw [if_pos hb] at h
    have kk := kk h
    obtain ⟨p, l, e, R, s, m, args, below, meth, cd, G, τ0⟩ := Z
    intro H locs ls vs hR hE hl hL hV
    obtain ⟨u, vs0, rfl, hu, hV0⟩ := az_vli hV
    obtain ⟨w, vs1, rfl, hw, hV1⟩ := az_vli hV0
    obtain ⟨vs2, rfl, ⟨ha1, ha2, ha3⟩, hV2⟩ := az_vlr (c := 15) (by omega) hV1
    obtain ⟨hcell, hin, hlt, hwi, hok⟩ := az_arr0 hR ha1 ha2 ha3 (by omega) hw hb.1.1 hb.1.2
    obtain ⟨hx, hbb, hml, hr, hlocks, hnm0, hown, hgw, ⟨hK, -⟩, -⟩ := C
    refine W.zast hx hbb hcell ((hK.2 3 (G.2.2.2 15, .boolean) rfl).1 _ _) (fun q => by cases q) (by rw [arrV_size]; exact hin) rfl rfl hd fun H' e1 e2 e3 => ?_
    exact kk H' _ ls vs2 (az_stored hR ha1 ha2 ha3 (by omega) hwi hcell e1 e2 e3 (by rw [show az_fk 15 i = 0 from rfl, (az_narZ (az_b01 hu hb.2)).1, ← az_ofInt32 hu]; rfl) (az_okI hu)) hE (az_locs1 hl az_ad_ge) hL hV2
  · rw [if_neg hb] at h; cases h
theorem az_narB {w : Int32} {x : Int} (hw : w.toInt = x) (h1 : -128 ≤ x) (h2 : x ≤ 127) : narrow .byte (.int w) = .int w := by
  rw [narrow_byte]
  congr 1
  apply Int32.toInt_inj.mp
  rw [Int8.toInt_toInt32, Int32.toInt_toInt8, hw, Int.bmod_eq_of_le] <;> omega
theorem az_bastore (C : az_C Z y cc nL ret d) {a i x : Int} {K : az_Hp → Option α} {r : α} (h : (az_awb σ a i x).bind K = some r) (hd : decode cc pc = .ok (.bastore, 1)) (kk : K (az_wr σ a i x) = some r → az_AW Z nL (pc + 1) L st (az_wr σ a i x) T) : az_AW Z nL pc L ((0, x) :: (0, i) :: (14, a) :: st) σ T := by
  unfold az_awb at h
  by_cases hb : (0 ≤ i ∧ i < az_ln σ a) ∧ (-128 ≤ x ∧ x ≤ 127)
  · rw [if_pos hb] at h
    have kk := kk h
    obtain ⟨p, l, e, R, s, m, args, below, meth, cd, G, τ0⟩ := Z
    intro H locs ls vs hR hE hl hL hV
    obtain ⟨u, vs0, rfl, hu, hV0⟩ := az_vli hV
    obtain ⟨w, vs1, rfl, hw, hV1⟩ := az_vli hV0
    obtain ⟨vs2, rfl, ⟨ha1, ha2, ha3⟩, hV2⟩ := az_vlr (c := 12) (by omega) hV1
    obtain ⟨hcell, hin, hlt, hwi, hok⟩ := az_arr0 hR ha1 ha2 ha3 (by omega) hw hb.1.1 hb.1.2
    obtain ⟨hx, hbb, hml, hr, hlocks, hnm0, hown, hgw, ⟨hK, -⟩, -⟩ := C
    refine W.bast hx hbb hcell ((hK.2 0 (G.2.2.2 12, .byte) rfl).1 _ _) (fun q => by cases q) (by rw [arrV_size]; exact hin) rfl rfl hd fun H' e1 e2 e3 => ?_
    exact kk H' _ ls vs2 (az_stored hR ha1 ha2 ha3 (by omega) hwi hcell e1 e2 e3 (by rw [show az_fk 12 i = 0 from rfl, az_narB hu hb.2.1 hb.2.2, ← az_ofInt32 hu]; rfl) (az_okI hu)) hE (az_locs1 hl az_ad_ge) hL hV2
  · rw [if_neg hb] at h; cases h
theorem az_aastore (C : az_C Z y cc nL ret d) {a i x : Int} {K : az_Hp → Option α} {r : α} (h : (az_awr σ a i x).bind K = some r) (hd : decode cc pc = .ok (.aastore, 1)) (kk : K (az_wr σ a i x) = some r → az_AW Z nL (pc + 1) L st (az_wr σ a i x) T) : az_AW Z nL pc L ((9, x) :: (0, i) :: (18, a) :: st) σ T := by
  unfold az_awr at h
  by_cases hb : 0 ≤ i ∧ i < az_ln σ a
  · rw [if_pos hb] at h
    have kk := kk h
    obtain ⟨p, l, e, R, s, m, args, below, meth, cd, G, τ0⟩ := Z
    intro H locs ls vs hR hE hl hL hV
    obtain ⟨vs0, rfl, ⟨hx1, hx2, hx3⟩, hV0⟩ := az_vlr (c := 7) (by omega) hV
    obtain ⟨w, vs1, rfl, hw, hV1⟩ := az_vli hV0
    obtain ⟨vs2, rfl, ⟨ha1, ha2, ha3⟩, hV2⟩ := az_vlr (c := 16) (by omega) hV1
    obtain ⟨hcell, hin, hlt, hwi, hok⟩ := az_arr0 hR ha1 ha2 ha3 (by omega) hw hb.1 hb.2
    obtain ⟨hx, hbb, hml, hr, hlocks, hnm0, hown, hgw, ⟨hK, -⟩, -⟩ := C
    have hatx := hR.2.2.2.1 x hx1 hx2
    unfold az_at at hatx
    rw [hx3, if_pos (by omega)] at hatx
    obtain ⟨cellV, g1, g2, g3, -⟩ := hatx
    have hcls := (hK.1 7 _ rfl).2
    obtain ⟨kA, comp, k1, k2, k3, -⟩ := (hK.2 4 (G.2.2.2 16, .object RX7) rfl).2
    have hcomp : comp = G.2.2.1.1 7 := Option.some.inj (k3.symm.trans hcls.1)
    subst hcomp
    obtain ⟨kC, hkC, -⟩ := hcls.2
    refine W.aast hx hbb hcell (fun q h => by cases h) (fun h => by cases h) k1 k2 rfl hkC ⟨fun q => hin (Or.inl q), by rw [arrV_size]; exact hlt⟩ g1 (fun q h => by rw [g3] at h; cases h) (by rw [g2]; exact hkC) (by rw [g2]; exact va_assign hcls) rfl rfl hd fun H' e1 e2 e3 => ?_
    exact kk H' _ ls vs2 (az_stored hR ha1 ha2 ha3 (by omega) hwi hcell e1 e2 e3 (by rw [show az_fk 16 i = 7 + 2 from rfl, az_cv_ref (by omega)]) (Or.inr ⟨hx1, hx2, hx3⟩)) hE (az_locs1 hl az_ad_ge) hL hV2
  · rw [if_neg hb] at h; cases h
end AZ4
