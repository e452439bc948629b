/-! making cells, calling, returning -/
theorem az_sum_push {B : Nat} {H : Heap} {c : Cell} (hB : B ≤ H.size) : az_sum B (H.push c) = az_sum B H + c.slots.size := by
  unfold az_sum
  rw [Array.toList_push, List.drop_append_of_le_length (by rw [Array.length_toList]; exact hB)]
  simp
def az_up (f : Int → Nat) (a : Int) (v : Nat) : Int → Nat := fun b => if b = a then v else f b
def az_upI (f : Int → Int) (a : Int) (v : Int) : Int → Int := fun b => if b = a then v else f b
/-- a cell more, of kind k and length z -/
def az_more (σ : az_Hp) (k : Nat) (z : Int) : az_Hp := ((σ.1.1 + 1, σ.1.2.1 + z.toNat, az_up σ.1.2.2.1 ((σ.1.1 : Int) + 1) k, az_upI σ.1.2.2.2 ((σ.1.1 : Int) + 1) z), σ.2)
def az_new (σ : az_Hp) (k : Nat) (z : Int) : Option (Int × az_Hp) := if 0 ≤ z ∧ σ.1.1 + 1 ≤ 600000 ∧ σ.1.2.1 + z.toNat ≤ 7302250 then some ((σ.1.1 : Int) + 1, az_more σ k z) else none
theorem az_more_ext {σ : az_Hp} {k : Nat} {z : Int} : az_Ext σ.1 (az_more σ k z).1 := by
  refine ⟨Nat.le_succ _, Nat.le_add_right _ _, fun x h1 h2 => ⟨?_, ?_⟩⟩
  · show az_up _ _ _ x = _
    unfold az_up
    rw [if_neg (by omega)]
  · show az_upI _ _ _ x = _
    unfold az_upI
    rw [if_neg (by omega)]
theorem az_okv_ext {τ τ' : az_Shp} (hE : az_Ext τ τ') {t : Nat} {z : Int} (h : az_okv τ t z) : az_okv τ' t z := by
  unfold az_okv at h ⊢
  split
  · exact h
  · exact h
  · rcases h with h | ⟨h1, h2, h3⟩
    · exact Or.inl h
    · right
      refine ⟨h1, by have := hE.1; omega, by rw [(hE.2.2 _ h1 h2).1]; exact h3⟩
theorem az_okv0 {τ : az_Shp} {t : Nat} : az_okv τ t 0 := by
  unfold az_okv
  split
  · omega
  · omega
  · exact Or.inl rfl
theorem az_more_rep {G : az_G} {σ : az_Hp} {H H' : Heap} (hR : az_Rep G σ H) {k : Nat} {z : Int} (hk : k ≤ 16) (hz : 0 ≤ z) (hn : σ.1.1 + 1 ≤ 600000) (ht : σ.1.2.1 + z.toNat ≤ 7302250) (hNF : k < 12 → z = (az_NF k : Int)) {c : Cell} (hH : H' = H.push c) (hc : c.slots.size = z.toNat)
    (hat : az_at G (az_more σ k z) ((σ.1.1 : Int) + 1) H') : az_Rep G (az_more σ k z) H' := by
  subst hH
  obtain ⟨h1, h2, h3, h4, h5, h6, h7, h8⟩ := hR
  refine ⟨by rw [Array.size_push, h1]; show _ = G.1 + (σ.1.1 + 1); omega, fun q hq => ?_, ?_, fun x hx1 hx2 => ?_, hn, ht, fun x hx1 hx2 => ?_, fun x hx j => h8 x (by have : ((σ.1.1 + 1 : Nat) : Int) < x := hx; omega) j⟩
  · rw [Array.getElem?_push, if_neg (by omega)]; exact h2 q hq
  · rw [az_sum_push (by omega), h3, hc]; rfl
  · have hx2 : x ≤ ((σ.1.1 + 1 : Nat) : Int) := hx2
    by_cases hx : x = (σ.1.1 : Int) + 1
    · rw [hx]; exact hat
    · have hx3 : x ≤ (σ.1.1 : Int) := by omega
      have hE := (az_more_ext (σ := σ) (k := k) (z := z)).2.2 x hx1 hx3
      refine az_at_congr hE.1 hE.2 (fun j => rfl) ?_ (h4 x hx1 hx3)
      rw [Array.getElem?_push, if_neg (by unfold az_ad; omega)]
  · have hx2 : x ≤ ((σ.1.1 + 1 : Nat) : Int) := hx2
    by_cases hx : x = (σ.1.1 : Int) + 1
    · have e1 : (az_more σ k z).1.2.2.1 x = k := by show az_up _ _ _ x = _; simp [az_up, hx]
      have e2 : (az_more σ k z).1.2.2.2 x = z := by show az_upI _ _ _ x = _; simp [az_upI, hx]
      rw [e1, e2]
      refine ⟨hz, by omega, hk, hNF, fun j hj1 hj2 => ?_⟩
      have : (az_more σ k z).2 x j = 0 := h8 x (by omega) j
      rw [this]
      exact az_okv0
    · have hx3 : x ≤ (σ.1.1 : Int) := by omega
      have hE := (az_more_ext (σ := σ) (k := k) (z := z)).2.2 x hx1 hx3
      obtain ⟨g1, g2, g3, g4, g5⟩ := h7 x hx1 hx3
      rw [hE.1, hE.2]
      exact ⟨g1, g2, g3, g4, fun j hj1 hj2 => az_okv_ext az_more_ext (g5 j hj1 hj2)⟩
section AZ5
variable {α : Type} {Z : az_Z} {y : MethodName} {cc : ByteArray} {nL d pc : Nat} {ret : Option FieldType} {L st : List az_AV} {σ : az_Hp} {T : az_R}
theorem az_new_some {k : Nat} {z : Int} {K : Int × az_Hp → Option α} {r : α} (h : (az_new σ k z).bind K = some r) : (0 ≤ z ∧ σ.1.1 + 1 ≤ 600000 ∧ σ.1.2.1 + z.toNat ≤ 7302250) ∧ K ((σ.1.1 : Int) + 1, az_more σ k z) = some r := by
  unfold az_new at h
  split at h
  · rename_i c; exact ⟨c, h⟩
  · cases h
theorem az_adn {G : az_G} {σ : az_Hp} {H : Heap} (hz : H.size = G.1 + σ.1.1) : az_ad G ((σ.1.1 : Int) + 1) = H.size := by
  unfold az_ad; omega
theorem az_kdn {σ : az_Hp} {k : Nat} {z : Int} : (az_more σ k z).1.2.2.1 ((σ.1.1 : Int) + 1) = k := by show az_up _ _ _ _ = _; simp [az_up]
theorem az_lnn {σ : az_Hp} {k : Nat} {z : Int} : (az_more σ k z).1.2.2.2 ((σ.1.1 : Int) + 1) = z := by show az_upI _ _ _ _ = _; simp [az_upI]
theorem az_newc (C : az_C Z y cc nL ret d) {idx c : Nat} {CN : String} {TT : u_T} {N : Nat} {tyf : Nat → FieldType} {z : Int} {K : Int × az_Hp → Option α} {r : α} (h : (az_new σ c z).bind K = some r) (hcl : az_CL c CN TT N tyf) (hz : z = (N : Int)) (hlink : Cond.classLink y.cls idx CN ∈ az_gw) (hinst : Cond.instantiable CN N ∈ az_gw) (hini : Cond.initialized CN ∈ az_gw) (hd : decode cc pc = .ok (.new idx, 3))
    (kk : K ((σ.1.1 : Int) + 1, az_more σ c z) = some r → az_AW Z nL (pc + 3) L ((c + 2, (σ.1.1 : Int) + 1) :: st) (az_more σ c z) T) : az_AW Z nL pc L st σ T := by
  obtain ⟨⟨hz0, hn, ht⟩, hk⟩ := az_new_some h
  have kk := kk hk
  obtain ⟨p, l, e, R, s, m, args, below, meth, cd, G, τ0⟩ := Z
  intro H locs ls vs hR hE hl hL hV
  obtain ⟨hc, hin, hty, hnm, hNF, hc12, hchk⟩ := hcl
  obtain ⟨hx, hb, hml, hr, hlocks, hnm0, hown, hgw, ⟨hK, -⟩, -, -, hRc, hRs, -⟩ := C
  dsimp only at hx hb hml hr hlocks hnm0 hown hgw hK hRc hRs
  have hKn := hK.1 c _ hc
  have hE1 : τ0.1 ≤ σ.1.1 := hE.1
  have hE2 : τ0.2.1 ≤ σ.1.2.1 := hE.2.1
  have hzN : z.toNat = N := by omega
  refine W.newc hx hb hown (hgw _ hlink) (hgw _ hinst) (hgw _ hini) rfl hd (by show σ.1.1 - τ0.1 + 1 ≤ R.cells; rw [hRc]; omega) (by show σ.1.2.1 - τ0.2.1 + N ≤ R.slots; rw [hRs]; omega) fun cC kC f1 f2 f3 f4 => ?_
  have hcC : cC = G.2.2.1.1 c := Option.some.inj (f1.symm.trans hKn.2.1)
  subst hcC
  have hsz := hR.1
  have e1 : (H.push { cls := G.2.2.1.1 c, slots := kC.instanceTypes.map defaultValue, vm := .none } : Heap)[H.size]? = some (blank (G.2.2.1.1 c) kC) := by simp [blank]
  have hat : az_at G (az_more σ c z) ((σ.1.1 : Int) + 1) (H.push { cls := G.2.2.1.1 c, slots := kC.instanceTypes.map defaultValue, vm := .none }) := by
    unfold az_at
    rw [az_kdn, if_pos hc12, az_adn hsz, hNF]
    refine (u_born tyf hgw hin hKn f2 e1 hty).to fun j hj => ?_
    have : (az_more σ c z).2 ((σ.1.1 : Int) + 1) (j : Int) = 0 := hR.2.2.2.2.2.2.2 _ (by omega) _
    rw [this]
    have hq := hchk j hj
    unfold az_chk at hq
    split at hq
    · rename_i h1 h2; rw [h1, h2]; rfl
    · rename_i h1 h2; rw [h1, h2]; rfl
    · rename_i h1 h2; rw [h1, h2]; rfl
    · rename_i h1 h2; rw [h1, h2]; rfl
    · rename_i h1 h2; rw [h1, h2]; rfl
    · cases hq
  have hR' := az_more_rep hR (k := c) (z := z) (by omega) hz0 hn ht (fun _ => by rw [hNF]; exact hz) rfl (by show (kC.instanceTypes.map defaultValue).size = _; rw [Array.size_map, f4]; omega) hat
  have hmo := az_more_ext (σ := σ) (k := c) (z := z)
  have q := kk _ locs ls (.ref (az_ad G ((σ.1.1 : Int) + 1)) :: vs) hR' (hE.trans hmo) hl (hL.mono hmo) ⟨az_vr' (by omega) (by omega) (by show _ ≤ ((σ.1.1 + 1 : Nat) : Int); omega) az_kdn, hV.mono hmo⟩
  rw [az_adn hsz] at q
  have c1 : (az_more σ c z).1.1 - τ0.1 = σ.1.1 - τ0.1 + 1 := by show σ.1.1 + 1 - τ0.1 = _; omega
  have c2 : (az_more σ c z).1.2.1 - τ0.2.1 = σ.1.2.1 - τ0.2.1 + N := by show σ.1.2.1 + z.toNat - τ0.2.1 = _; omega
  unfold az_W at q
  dsimp only at q
  rw [c1, c2] at q
  exact q
/-- an array of a primitive type -/
theorem az_newa (C : az_C Z y cc nL ret d) {k : Nat} {z : Int} {at_ : ArrayType} {ty : FieldType} {K : Int × az_Hp → Option α} {r : α} (h : (az_new σ k z).bind K = some r) (hty : newarray.typeOf at_ = ty) (hk : (k, ty) ∈ ([(12, .byte), (13, .int), (14, .long), (15, .boolean)] : List (Nat × FieldType))) (hac : Cond.arrayClass ty ∈ az_gw) (hd : decode cc pc = .ok (.newarray at_, 2))
    (kk : K ((σ.1.1 : Int) + 1, az_more σ k z) = some r → az_AW Z nL (pc + 2) L ((k + 2, (σ.1.1 : Int) + 1) :: st) (az_more σ k z) T) : az_AW Z nL pc L ((0, z) :: st) σ T := by
  obtain ⟨⟨hz0, hn, ht⟩, hkk⟩ := az_new_some h
  have kk := kk hkk
  subst hty
  obtain ⟨p, l, e, R, s, m, args, below, meth, cd, G, τ0⟩ := Z
  intro H locs ls vs hR hE hl hL hV
  obtain ⟨w, vs1, rfl, hw, hV1⟩ := az_vli hV
  obtain ⟨hx, hb, hml, hr, hlocks, hnm0, hown, hgw, ⟨hK, -⟩, -, -, hRc, hRs, -⟩ := C
  dsimp only at hx hb hml hr hlocks hnm0 hown hgw hK hRc hRs
  have hE1 : τ0.1 ≤ σ.1.1 := hE.1
  have hE2 : τ0.2.1 ≤ σ.1.2.1 := hE.2.1
  have hwN : w.toNatClampNeg = z.toNat := by rw [az_clamp, hw]
  have hw0 : ¬ w < 0 := fun q => by rw [Int32.lt_iff_toInt_lt, hw, Int32.toInt_zero] at q; omega
  have hsz := hR.1
  have key : k ≤ 16 ∧ 12 ≤ k ∧ componentBytes (newarray.typeOf at_) ≤ 8 ∧ (∀ cA, s.vm.findClass ("[" ++ (newarray.typeOf at_).toString) = some cA → cA = G.2.2.2 k) ∧ defaultValue (newarray.typeOf at_) = az_cv G (az_fk k 0) 0 ∧ ∀ j, az_fk k j = az_fk k 0 := by
    simp only [List.mem_cons, List.not_mem_nil, or_false, Prod.mk.injEq] at hk
    rcases hk with ⟨rfl, e⟩ | ⟨rfl, e⟩ | ⟨rfl, e⟩ | ⟨rfl, e⟩ <;> rw [e]
    · exact ⟨by omega, by omega, by decide, fun cA q => Option.some.inj (q.symm.trans (hK.2 0 (G.2.2.2 12, .byte) rfl).2), rfl, fun j => rfl⟩
    · exact ⟨by omega, by omega, by decide, fun cA q => Option.some.inj (q.symm.trans (hK.2 1 (G.2.2.2 13, .int) rfl).2), rfl, fun j => rfl⟩
    · exact ⟨by omega, by omega, by decide, fun cA q => Option.some.inj (q.symm.trans (hK.2 2 (G.2.2.2 14, .long) rfl).2), rfl, fun j => rfl⟩
    · exact ⟨by omega, by omega, by decide, fun cA q => Option.some.inj (q.symm.trans (hK.2 3 (G.2.2.2 15, .boolean) rfl).2), rfl, fun j => rfl⟩
  obtain ⟨hk16, hk12, hby, hcls, hdef, hfk⟩ := key
  refine W.newa hx hb (hgw _ hac) rfl hd rfl hw0 ?_ (by show σ.1.1 - τ0.1 + 1 ≤ R.cells; rw [hRc]; omega) (by show σ.1.2.1 - τ0.2.1 + w.toNatClampNeg ≤ R.slots; rw [hRs, hwN]; omega) fun cA kA comp f1 f2 f3 => ?_
  · rw [hwN]
    exact Nat.le_trans (Nat.mul_le_mul (show z.toNat ≤ 7302250 by omega) hby) (by decide)
  have hcA := hcls cA f1
  subst hcA
  have hat : az_at G (az_more σ k z) ((σ.1.1 : Int) + 1) (H.push { cls := G.2.2.2 k, slots := Array.replicate w.toNatClampNeg (defaultValue (newarray.typeOf at_)), vm := .none }) := by
    unfold az_at
    rw [az_kdn, if_neg (by omega), az_adn hsz, az_lnn, arrV_new, hwN, Array.getElem?_push_size]
    congr 2
    funext j
    have : (az_more σ k z).2 ((σ.1.1 : Int) + 1) (j : Int) = 0 := hR.2.2.2.2.2.2.2 _ (by omega) _
    rw [this, hfk, hdef]
  have hR' := az_more_rep hR (k := k) (z := z) hk16 hz0 hn ht (fun q => by omega) rfl (by show (Array.replicate w.toNatClampNeg _).size = _; rw [Array.size_replicate, hwN]) hat
  have hmo := az_more_ext (σ := σ) (k := k) (z := z)
  have q := kk _ locs ls (.ref (az_ad G ((σ.1.1 : Int) + 1)) :: vs1) hR' (hE.trans hmo) hl (hL.mono hmo) ⟨az_vr' hk16 (by omega) (by show _ ≤ ((σ.1.1 + 1 : Nat) : Int); omega) az_kdn, hV1.mono hmo⟩
  rw [az_adn hsz] at q
  have c1 : (az_more σ k z).1.1 - τ0.1 = σ.1.1 - τ0.1 + 1 := by show σ.1.1 + 1 - τ0.1 = _; omega
  have c2 : (az_more σ k z).1.2.1 - τ0.2.1 = σ.1.2.1 - τ0.2.1 + w.toNatClampNeg := by show σ.1.2.1 + z.toNat - τ0.2.1 = _; omega
  unfold az_W at q
  dsimp only at q
  rw [c1, c2] at q
  exact q
/-- an array of rows -/
theorem az_newq (C : az_C Z y cc nL ret d) {idx : Nat} {z : Int} {K : Int × az_Hp → Option α} {r : α} (h : (az_new σ 16 z).bind K = some r) (hlink : Cond.classLink y.cls idx RX7 ∈ az_gw) (hd : decode cc pc = .ok (.anewarray idx, 3))
    (kk : K ((σ.1.1 : Int) + 1, az_more σ 16 z) = some r → az_AW Z nL (pc + 3) L ((18, (σ.1.1 : Int) + 1) :: st) (az_more σ 16 z) T) : az_AW Z nL pc L ((0, z) :: st) σ T := by
  obtain ⟨⟨hz0, hn, ht⟩, hkk⟩ := az_new_some h
  have kk := kk hkk
  obtain ⟨p, l, e, R, s, m, args, below, meth, cd, G, τ0⟩ := Z
  intro H locs ls vs hR hE hl hL hV
  obtain ⟨w, vs1, rfl, hw, hV1⟩ := az_vli hV
  obtain ⟨hx, hb, hml, hr, hlocks, hnm0, hown, hgw, ⟨hK, hAO, -⟩, -, -, hRc, hRs, -⟩ := C
  dsimp only at hx hb hml hr hlocks hnm0 hown hgw hK hRc hRs
  have hE1 : τ0.1 ≤ σ.1.1 := hE.1
  have hE2 : τ0.2.1 ≤ σ.1.2.1 := hE.2.1
  have hwN : w.toNatClampNeg = z.toNat := by rw [az_clamp, hw]
  have hw0 : ¬ w < 0 := fun q => by rw [Int32.lt_iff_toInt_lt, hw, Int32.toInt_zero] at q; omega
  have hsz := hR.1
  refine W.anew hx hb hown (hgw _ hlink) (va_AO.use hAO) rfl hd rfl hw0 (by rw [hwN]; omega) (by show σ.1.1 - τ0.1 + 1 ≤ R.cells; rw [hRc]; omega) (by show σ.1.2.1 - τ0.2.1 + w.toNatClampNeg ≤ R.slots; rw [hRs, hwN]; omega) fun cA kA comp f1 f2 f3 f4 => ?_
  obtain ⟨kA2, comp2, -, -, -, k4⟩ := (hK.2 4 (G.2.2.2 16, .object RX7) rfl).2
  have hcA : cA = G.2.2.2 16 := Option.some.inj (f1.symm.trans k4)
  subst hcA
  have hat : az_at G (az_more σ 16 z) ((σ.1.1 : Int) + 1) (H.push { cls := G.2.2.2 16, slots := Array.replicate w.toNatClampNeg .null, vm := .none }) := by
    unfold az_at
    rw [az_kdn, if_neg (by omega), az_adn hsz, az_lnn, arrV_new, hwN, Array.getElem?_push_size]
    congr 2
    funext j
    have : (az_more σ 16 z).2 ((σ.1.1 : Int) + 1) (j : Int) = 0 := hR.2.2.2.2.2.2.2 _ (by omega) _
    rw [this]
    rfl
  have hR' := az_more_rep hR (k := 16) (z := z) (by omega) hz0 hn ht (fun q => by omega) rfl (by show (Array.replicate w.toNatClampNeg _).size = _; rw [Array.size_replicate, hwN]) hat
  have hmo := az_more_ext (σ := σ) (k := 16) (z := z)
  have q := kk _ locs ls (.ref (az_ad G ((σ.1.1 : Int) + 1)) :: vs1) hR' (hE.trans hmo) hl (hL.mono hmo) ⟨az_vr' (c := 16) (by omega) (by omega) (by show _ ≤ ((σ.1.1 + 1 : Nat) : Int); omega) az_kdn, hV1.mono hmo⟩
  rw [az_adn hsz] at q
  have c1 : (az_more σ 16 z).1.1 - τ0.1 = σ.1.1 - τ0.1 + 1 := by show σ.1.1 + 1 - τ0.1 = _; omega
  have c2 : (az_more σ 16 z).1.2.1 - τ0.2.1 = σ.1.2.1 - τ0.2.1 + w.toNatClampNeg := by show σ.1.2.1 + z.toNat - τ0.2.1 = _; omega
  unfold az_W at q
  dsimp only at q
  rw [c1, c2] at q
  exact q
end AZ5
