section AZ6
variable {α : Type} {Z : az_Z} {y : MethodName} {cc : ByteArray} {nL d pc : Nat} {ret : Option FieldType} {L st : List az_AV} {σ : az_Hp} {T : az_R}
theorem az_KK.moved {G : az_G} {s U : State} (hW : s.WarmedH U.vm) (h : az_KK G s) : az_KK G U :=
  ⟨va_K.moved hW.alike h.1, va_AO.moved hW.alike h.2.1, va_Nw.warmM hW h.2.2.1, va_Nw.warmM hW h.2.2.2.1, va_Nw.warmM hW h.2.2.2.2⟩
theorem az_KK.same {G : az_G} {s U : State} (hv : s.vm = U.vm) (h : az_KK G s) : az_KK G U := by
  have ha : s.vm.Alike U.vm := by rw [← hv]; exact Vm.Alike.refl s.vm
  exact ⟨va_K.moved ha h.1, va_AO.moved ha h.2.1, va_Nw.same rfl hv h.2.2.1, va_Nw.same rfl hv h.2.2.2.1, va_Nw.same rfl hv h.2.2.2.2⟩
/-- returns -/
theorem az_ret0 {p : Program} {l : Launch} {e : Env} {R : Room} {s : State} {m : MethodId} {args : Array Value} {below : List Frame} {meth : Method} {cd : Code} {G : az_G} {τ0 : az_Shp} {H : Heap} {locs : List Loc} {g : JFrame} (hR : az_Rep G σ H) (hE : az_Ext τ0 σ.1)
    (k : W p l e R s m args below meth cd H locs (600000 - τ0.1) (7302250 - τ0.2.1) (MQ below (az_Qc G τ0 T) args s (600000 - τ0.1) (7302250 - τ0.2.1) (fun q => G.1 ≤ q)) g) :
    W p l e R s m args below meth cd H locs (σ.1.1 - τ0.1) (σ.1.2.1 - τ0.2.1) (MQ below (az_Qc G τ0 T) args s (600000 - τ0.1) (7302250 - τ0.2.1) (fun q => G.1 ≤ q)) g :=
  W.widen (by have := hR.2.2.2.2.1; omega) (by have := hR.2.2.2.2.2.1; omega) k
theorem az_ireturn (C : az_C Z y cc nL (some .int) d) {x : Int} (hd : decode cc pc = .ok (.ireturn, 1)) (hT : T = (some (0, x), σ)) : az_AW Z nL pc L [(0, x)] σ T := by
  subst hT
  obtain ⟨p, l, e, R, s, m, args, below, meth, cd, G, τ0⟩ := Z
  intro H locs ls vs hR hE hl hL hV
  obtain ⟨w, vs1, rfl, hw, hV1⟩ := az_vli hV
  obtain rfl : vs1 = [] := by cases vs1 with | nil => rfl | cons _ _ => exact hV1.elim
  obtain ⟨hx, hb, hml, hr, hlocks, hnm0, hown, hgw, hKK, -⟩ := C
  refine az_ret0 hR hE (W.iret hx hb hr (fun t ht hW => ?_) hl hd hlocks)
  exact ⟨_, rfl, ⟨w, rfl, hw⟩, by rw [ht]; exact hR, hKK.moved hW, hE⟩
theorem az_zreturn (C : az_C Z y cc nL (some .boolean) d) {x : Int} (h : x = 0 ∨ x = 1) (hd : decode cc pc = .ok (.ireturn, 1)) (hT : T = (some (0, x), σ)) : az_AW Z nL pc L [(0, x)] σ T := by
  subst hT
  obtain ⟨p, l, e, R, s, m, args, below, meth, cd, G, τ0⟩ := Z
  intro H locs ls vs hR hE hl hL hV
  obtain ⟨w, vs1, rfl, hw, hV1⟩ := az_vli hV
  obtain rfl : vs1 = [] := by cases vs1 with | nil => rfl | cons _ _ => exact hV1.elim
  obtain ⟨hx, hb, hml, hr, hlocks, hnm0, hown, hgw, hKK, -⟩ := C
  refine az_ret0 hR hE (W.zret hx hb hr (az_narZ (az_b01 hw h)).1 (fun t ht hW => ?_) hl hd hlocks)
  exact ⟨_, rfl, ⟨w, rfl, hw⟩, by rw [ht]; exact hR, hKK.moved hW, hE⟩
theorem az_lreturn (C : az_C Z y cc nL (some .long) d) {x : Int} (hd : decode cc pc = .ok (.lreturn, 1)) (hT : T = (some (1, x), σ)) : az_AW Z nL pc L [(1, x)] σ T := by
  subst hT
  obtain ⟨p, l, e, R, s, m, args, below, meth, cd, G, τ0⟩ := Z
  intro H locs ls vs hR hE hl hL hV
  obtain ⟨w, vs1, rfl, hw, hV1⟩ := az_vll hV
  obtain rfl : vs1 = [] := by cases vs1 with | nil => rfl | cons _ _ => exact hV1.elim
  obtain ⟨hx, hb, hml, hr, hlocks, hnm0, hown, hgw, hKK, -⟩ := C
  refine az_ret0 hR hE (W.lret hx hb hr (fun t ht hW => ?_) hl hd hlocks)
  exact ⟨_, rfl, ⟨w, rfl, hw⟩, by rw [ht]; exact hR, hKK.moved hW, hE⟩
theorem az_return (C : az_C Z y cc nL none d) (hd : decode cc pc = .ok (.return_, 1)) (hT : T = (none, σ)) : az_AW Z nL pc L [] σ T := by
  subst hT
  obtain ⟨p, l, e, R, s, m, args, below, meth, cd, G, τ0⟩ := Z
  intro H locs ls vs hR hE hl hL hV
  obtain rfl : vs = [] := by cases vs with | nil => rfl | cons _ _ => exact hV.elim
  obtain ⟨hx, hb, hml, hr, hlocks, hnm0, hown, hgw, hKK, -⟩ := C
  refine az_ret0 hR hE (W.vret hx hb hr (fun t ht hW => ?_) hl hd hlocks)
  exact ⟨_, rfl, trivial, by rw [ht]; exact hR, hKK.moved hW, hE⟩
/-- the rooms, counted by the heap itself -/
theorem az_sum_split {B : Nat} {H0 H1 : Heap} (hB : B ≤ H0.size) (hle : H0.size ≤ H1.size) (hs : ∀ (a : Nat) (c : Cell), H0[a]? = some c → ∃ c', H1[a]? = some c' ∧ c'.slots.size = c.slots.size) : az_sum B H1 = az_sum B H0 + ((H1.toList.drop H0.size).map (·.slots.size)).sum := by
  have e : (H1.toList.take H0.size).map (·.slots.size) = H0.toList.map (·.slots.size) := by
    apply List.ext_getElem?
    intro q
    rw [List.getElem?_map, List.getElem?_map, List.getElem?_take, Array.getElem?_toList]
    by_cases hq : q < H0.size
    · rw [if_pos hq, Array.getElem?_toList]
      obtain ⟨c', h1, h2⟩ := hs q _ (Array.getElem?_eq_getElem hq)
      rw [h1, Array.getElem?_eq_getElem hq]
      simp [h2]
    · rw [if_neg hq, Array.getElem?_toList, Array.getElem?_eq_none (by omega)]
  unfold az_sum
  have e2 : H1.toList.map (·.slots.size) = H0.toList.map (·.slots.size) ++ (H1.toList.drop H0.size).map (·.slots.size) := by
    rw [← e, ← List.map_append, List.take_append_drop]
  rw [List.map_drop, e2, List.drop_append_of_le_length (by rw [List.length_map, Array.length_toList]; exact hB), List.sum_append, ← List.map_drop]
theorem az_narrow {p : Program} {l : Launch} {e : Env} {R : Room} {s : State} {m : MethodId} {args : Array Value} {below : List Frame} {meth : Method} {cd : Code} {TT : State} {locs : List Loc} {cells slots n0 t0 n1 t1 B : Nat} (X : Stand p l e R s m args below meth cd TT locs cells slots)
    (h1 : s.heap.size = B + n0) (h2 : az_sum B s.heap = t0) (h3 : TT.heap.size = B + n1) (h4 : az_sum B TT.heap = t1) : Stand p l e R s m args below meth cd TT locs (n1 - n0) (t1 - t0) := by
  obtain ⟨a1, a2, a3, a4, a5, a6⟩ := X.same
  have hz : (TT.setVm s.vm).heap = TT.heap := rfl
  rw [hz] at a2 a3 a4 a5 a6
  have sp := az_sum_split (B := B) (H0 := s.heap) (H1 := TT.heap) (by omega) a2 (fun a c hc => by obtain ⟨c', g1, -, g2, -⟩ := a6 a c hc; exact ⟨c', g1, g2⟩)
  exact { X with same := ⟨a1, a2, by rw [hz]; omega, a4, by rw [hz]; omega, a6⟩ }
/-- behind a call: the heap that the callee leaves -/
theorem az_after (C : az_C Z y cc nL ret d) {T1 : az_R} {st0 vs : List Value} {H : Heap} {locs : List Loc} {ls : Array Slot} {a : Array Value} {mc ms cells slots : Nat} (hE : az_Ext Z.2.2.2.2.2.2.2.2.2.2.2 σ.1) (hl : ∀ q ∈ locs, Z.2.2.2.2.2.2.2.2.2.2.1.1 ≤ q.base)
    (hL : az_LV Z.2.2.2.2.2.2.2.2.2.2.1 σ.1 nL ls L) (hV : az_VL Z.2.2.2.2.2.2.2.2.2.2.1 σ.1 st vs)
    (hr : va_Run Z.1 Z.2.1 Z.2.2.1 Z.2.2.2.1 Z.2.2.2.2.1 Z.2.2.2.2.2.1 Z.2.2.2.2.2.2.1 Z.2.2.2.2.2.2.2.1 Z.2.2.2.2.2.2.2.2.1 Z.2.2.2.2.2.2.2.2.2.1 H locs cells slots mc ms (F0 Z.2.2.2.2.2.1 pc ls st0) vs (az_Qc Z.2.2.2.2.2.2.2.2.2.2.1 σ.1 T1 a) (fun q => Z.2.2.2.2.2.2.2.2.2.2.1.1 ≤ q))
    (kk : az_AW Z nL (pc + 3) L (T1.1.toList ++ st) T1.2 T) :
    W Z.1 Z.2.1 Z.2.2.1 Z.2.2.2.1 Z.2.2.2.2.1 Z.2.2.2.2.2.1 Z.2.2.2.2.2.2.1 Z.2.2.2.2.2.2.2.1 Z.2.2.2.2.2.2.2.2.1 Z.2.2.2.2.2.2.2.2.2.1 H locs cells slots
      (MQ Z.2.2.2.2.2.2.2.1 (az_Qc Z.2.2.2.2.2.2.2.2.2.2.1 Z.2.2.2.2.2.2.2.2.2.2.2 T) Z.2.2.2.2.2.2.1 Z.2.2.2.2.1 (600000 - Z.2.2.2.2.2.2.2.2.2.2.2.1) (7302250 - Z.2.2.2.2.2.2.2.2.2.2.2.2.1) (fun q => Z.2.2.2.2.2.2.2.2.2.2.1.1 ≤ q)) (F0 Z.2.2.2.2.2.1 pc ls st0) := by
  obtain ⟨p, l, e, R, s, m, args, below, meth, cd, G, τ0⟩ := Z
  intro TT hT X
  obtain ⟨v, st₀, t, T', L', h0, X', hL', e1, e2, ⟨v', hv, hVO, hRep, hKK, hExt⟩, stp⟩ := hr TT hT X
  cases hv
  obtain ⟨hx, hb, hml, hr2, hlocks, hnm0, hown, hgw, hKK0, hfr, hlo, hRc, hRs, hs1, hs2⟩ := C
  rw [← e1] at hRep
  have X'' := az_narrow X' hs1 hs2 hRep.1 hRep.2.2.1
  have hV' : az_VL G T1.2.1 (T1.1.toList ++ st) (v.toList ++ vs) := by
    cases h1 : T1.1 with
    | none =>
      cases v with
      | none => exact hV.mono hExt
      | some w => rw [h1] at hVO; exact hVO.elim
    | some b =>
      cases v with
      | none => rw [h1] at hVO; exact hVO.elim
      | some w => rw [h1] at hVO; exact ⟨hVO, hV.mono hExt⟩
  obtain ⟨t2, a1, b1⟩ := kk T'.heap (locs ++ L') ls (v.toList ++ vs) hRep (hE.trans hExt) (fun q hq => by
    rcases List.mem_append.mp hq with h | h
    · exact hl q h
    · exact hL' q h) (hL.mono hExt) hV' T' rfl X''
  exact ⟨t2, stp t2 a1, b1⟩
theorem az_blind {G : az_G} {as : List az_AV} : FrameBlind (az_Pc G as σ) := fun _ U _ _ h => ⟨h.1, h.2.1, az_KK.same rfl h.2.2⟩
theorem az_beqf {a b : Nat} (h : ¬ a = b) : Nat.beq a b = false := by
  cases hq : Nat.beq a b with
  | false => rfl
  | true => exact absurd (Nat.eq_of_beq_eq_true hq) h
def az_cat (st : List az_AV) : Nat := (st.map fun a => if a.1 = 1 then 2 else if a.1 = 31 then 100 else 1).sum
theorem az_cat_of {G : az_G} {τ : az_Shp} : ∀ {st : List az_AV} {vs : List Value}, az_VL G τ st vs → (vs.map fun v => v.category).sum ≤ az_cat st
  | [], [], _ => by simp
  | [], _ :: _, h => h.elim
  | _ :: _, [], h => h.elim
  | a :: st, v :: vs, h => by
    have ih := az_cat_of h.2
    have hv : v.category ≤ (if a.1 = 1 then 2 else if a.1 = 31 then 100 else 1) := by
      by_cases h1 : a.1 = 1
      · rw [if_pos h1]; rcases lv_cat v with q | q <;> omega
      · rw [if_neg h1]
        by_cases h31 : a.1 = 31
        · rw [if_pos h31]; rcases lv_cat v with q | q <;> omega
        · rw [if_neg h31, az_vcat1 h.1 (az_beqf h1) (az_beqf h31)]; exact Nat.le_refl _
    unfold az_cat at ih ⊢
    simp only [List.map_cons, List.sum_cons]
    omega
/-- a method of the tables -/
def az_MT (y : MethodName) (cc : ByteArray) (nL : Nat) (ret : Option FieldType) (n : Nat) : Prop :=
  Cond.code y cc nL ret ∈ az_gw ∧ Cond.initialized y.cls ∈ az_gw ∧ y.cls ≠ "java/lang/invoke/MethodHandle" ∧ y.cls ≠ "java/lang/invoke/VarHandle" ∧ (parseMethodDescriptor y.desc).map (fun d => d.parameters.length) = some n ∧ nL ≤ 45 ∧ plainName y.cls = true
theorem az_good {ws : List Cond} (h : ∀ w ∈ ws, w ∈ az_gw) : GoodIn az_gw ws := fun w hw => ⟨h w hw, good_of_word (List.mem_filter.mp (h w hw)).2⟩
theorem az_ws {y : MethodName} {cc : ByteArray} {nL : Nat} {ret : Option FieldType} (h : Cond.code y cc nL ret ∈ az_gw) : ∀ w ∈ Cond.code y cc nL ret :: az_gw, w ∈ az_gw := by
  intro w hw
  rcases List.mem_cons.mp hw with rfl | hw
  · exact h
  · exact hw
theorem az_callB (C : az_C Z y cc nL ret d) (hd1 : 1 ≤ d) {y' : MethodName} {cc' : ByteArray} {nL' n idx : Nat} {ret' : Option FieldType} (hM : az_MT y' cc' nL' ret' n) (hlink : Cond.methodLink y.cls idx y' ∈ az_gw) :
    CallB Z.2.2.2.1 Z.2.2.2.2.1 Z.2.2.2.2.2.2.1 y.cls idx y' cc' nL' ret' (Cond.code y' cc' nL' ret' :: az_gw) (az_rm (d - 1) σ.1) (600000 - σ.1.1) (7302250 - σ.1.2.1) n := by
  obtain ⟨hx, hb, hml, hr2, hlocks, hnm0, hown, hgw, hKK0, hfr, hlo, hRc, hRs, hs1, hs2⟩ := C
  obtain ⟨m1, m2, m3, m4, m5, m6, m7⟩ := hM
  exact callB_of n hgw (az_good (az_ws m1)) rfl rfl rfl (hgw _ m2) (hgw _ hlink) ⟨m3, m4, m5⟩ ⟨by show d - 1 + 1 ≤ _; omega, by show 8 + (nL' + 11) + 64 * (d - 1) ≤ _; omega⟩
theorem az_rooms (C : az_C Z y cc nL ret d) {H : Heap} (hR : az_Rep Z.2.2.2.2.2.2.2.2.2.2.1 σ H) (hE : az_Ext Z.2.2.2.2.2.2.2.2.2.2.2 σ.1) : (σ.1.1 - Z.2.2.2.2.2.2.2.2.2.2.2.1) + (600000 - σ.1.1) ≤ Z.2.2.2.1.cells ∧ (σ.1.2.1 - Z.2.2.2.2.2.2.2.2.2.2.2.2.1) + (7302250 - σ.1.2.1) ≤ Z.2.2.2.1.slots := by
  obtain ⟨hx, hb, hml, hr2, hlocks, hnm0, hown, hgw, hKK0, hfr, hlo, hRc, hRs, hs1, hs2⟩ := C
  have e1 := hE.1
  have e2 := hE.2.1
  have e3 := hR.2.2.2.2.1
  have e4 := hR.2.2.2.2.2.1
  rw [hRc, hRs]
  omega
theorem az_VL_app {G : az_G} {τ : az_Shp} : ∀ {as bs : List az_AV} {vs : List Value}, az_VL G τ (as ++ bs) vs → ∃ v1 v2, vs = v1 ++ v2 ∧ az_VL G τ as v1 ∧ az_VL G τ bs v2 ∧ v1.length = as.length
  | [], _, vs, h => ⟨[], vs, rfl, trivial, h, rfl⟩
  | a :: as, bs, [], h => h.elim
  | a :: as, bs, v :: vs, h => by
    obtain ⟨v1, v2, rfl, h1, h2, h3⟩ := az_VL_app (as := as) (bs := bs) h.2
    exact ⟨v :: v1, v2, rfl, ⟨h.1, h1⟩, h2, by simp [h3]⟩
theorem az_VL_join {G : az_G} {τ : az_Shp} : ∀ {as bs : List az_AV} {v1 v2 : List Value}, az_VL G τ as v1 → az_VL G τ bs v2 → az_VL G τ (as ++ bs) (v1 ++ v2)
  | [], _, [], _, _, h2 => h2
  | [], _, _ :: _, _, h1, _ => h1.elim
  | _ :: _, _, [], _, h1, _ => h1.elim
  | _ :: _, _, _ :: _, _, h1, h2 => ⟨h1.1, az_VL_join h1.2 h2⟩
theorem az_VL_rev {G : az_G} {τ : az_Shp} : ∀ {as : List az_AV} {vs : List Value}, az_VL G τ as vs → az_VL G τ as.reverse vs.reverse
  | [], [], _ => trivial
  | [], _ :: _, h => h.elim
  | _ :: _, [], h => h.elim
  | a :: as, v :: vs, h => by
    rw [List.reverse_cons, List.reverse_cons]
    exact az_VL_join (az_VL_rev h.2) ⟨h.1, trivial⟩
theorem az_callS (C : az_C Z y cc nL ret d) (hd1 : 1 ≤ d) {y' : MethodName} {cc' : ByteArray} {nL' n idx : Nat} {ret' : Option FieldType} (hM : az_MT y' cc' nL' ret' n) (hlink : Cond.methodLink y.cls idx y' ∈ az_gw) (hst : Cond.static y' ∈ az_gw) {ras : List az_AV} (hn : ras.length = n) (hcat : Nat.ble (az_cat st) 8 = true) {T1 : az_R} (hA : az_AC Z.2.1 y' cc' nL' ret' (d - 1) ras.reverse σ T1) (hd : decode cc pc = .ok (.invokestatic idx, 3))
    (kk : az_AW Z nL (pc + 3) L (T1.1.toList ++ st) T1.2 T) : az_AW Z nL pc L (ras ++ st) σ T := by
  intro H locs ls vs hR hE hl hL hV
  obtain ⟨v1, v2, rfl, hV1, hV2, hlen⟩ := az_VL_app hV
  have cb := az_callB (σ := σ) C hd1 hM hlink
  have hC := id C
  obtain ⟨hx, hb, hml, hr2, hlocks, hnm0, hown, hgw, hKK0, hfr, hlo, hRc, hRs, hs1, hs2⟩ := hC
  refine az_after C hE hl hL hV2 (va_runS (As := v1.reverse) (rest := v2) (n := n) ⟨hx, hb, hml, hown, hgw⟩ (hA Z.2.2.2.2.2.2.2.2.2.2.1) ⟨cb, hgw _ hst⟩ ⟨az_blind, fun U hU hW => ⟨⟨_, rfl, az_VL_rev hV1⟩, by rw [hU]; exact hR, hKK0.moved hW⟩⟩ rfl (by rw [List.length_reverse, hlen, hn]) hL.1 (by rw [List.reverse_reverse]) (lv_room (Nat.le_trans (az_cat_of hV2) (Nat.le_of_ble_eq_true hcat))) hd (az_rooms C hR hE)) kk
theorem az_recv {G : az_G} {s : State} {H : Heap} {a : Int} {c : Nat} {CN : String} {TT : u_T} {N : Nat} (hK : az_KK G s) (hR : az_Rep G σ H) (hc : vwCl[c]? = some (CN, TT, N)) (hc12 : c < 12) (h1 : 1 ≤ a) (h2 : a ≤ (σ.1.1 : Int)) (h3 : σ.1.2.2.1 a = c) : ∃ cell : Cell, H[az_ad G a]? = some cell ∧ cell.vm.isStatics = false ∧ s.vm.findClass CN = some cell.cls := by
  have hat := hR.2.2.2.1 a h1 h2
  unfold az_at at hat
  rw [h3, if_pos hc12] at hat
  obtain ⟨cell, q1, q2, q3, -⟩ := hat
  exact ⟨cell, q1, by rw [q3]; rfl, by rw [q2]; exact (hK.1.1 c _ hc).2.1⟩
theorem az_callV (C : az_C Z y cc nL ret d) (hd1 : 1 ≤ d) {y' : MethodName} {cc' : ByteArray} {nL' n idx c : Nat} {ret' : Option FieldType} {a : Int} (hM : az_MT y' cc' nL' ret' n) (hlink : Cond.methodLink y.cls idx y' ∈ az_gw) (hinst : Cond.instanceMethod y' ∈ az_gw) (hsel : Cond.selects y'.cls y' y' ∈ az_gw) (hcl : c < 12 ∧ ∃ T N, vwCl[c]? = some (y'.cls, T, N)) {ras : List az_AV} (hn : ras.length = n) (hcat : Nat.ble (az_cat st) 8 = true) {T1 : az_R} (hA : az_AC Z.2.1 y' cc' nL' ret' (d - 1) ((c + 2, a) :: ras.reverse) σ T1) (hd : decode cc pc = .ok (.invokevirtual idx, 3))
    (kk : az_AW Z nL (pc + 3) L (T1.1.toList ++ st) T1.2 T) : az_AW Z nL pc L (ras ++ (c + 2, a) :: st) σ T := by
  intro H locs ls vs hR hE hl hL hV
  obtain ⟨v1, v2, rfl, hV1, hV2, hlen⟩ := az_VL_app hV
  obtain ⟨hc12, TT, N, hc⟩ := hcl
  obtain ⟨v3, rfl, ⟨h1, h2, h3⟩, hV3⟩ := az_vlr (by omega) hV2
  have cb := az_callB (σ := σ) C hd1 hM hlink
  have hC := id C
  obtain ⟨hx, hb, hml, hr2, hlocks, hnm0, hown, hgw, hKK0, hfr, hlo, hRc, hRs, hs1, hs2⟩ := hC
  refine az_after C hE hl hL hV3 (va_runV (As := v1.reverse) (rest := v3) (n := n) ⟨hx, hb, hml, hown, hgw⟩ (hA Z.2.2.2.2.2.2.2.2.2.2.1) ⟨cb, hgw _ hinst, hgw _ hsel⟩ ⟨az_blind, az_recv hKK0 hR hc hc12 h1 h2 h3, fun U hU hW => ⟨⟨_, rfl, az_vr' (by omega) h1 h2 h3, az_VL_rev hV1⟩, by rw [hU]; exact hR, hKK0.moved hW⟩⟩ rfl (by rw [List.length_reverse, hlen, hn]) hL.1 (by rw [List.reverse_reverse]) (lv_room (Nat.le_trans (az_cat_of hV3) (Nat.le_of_ble_eq_true hcat))) hd (az_rooms C hR hE)) kk
theorem az_callI (C : az_C Z y cc nL ret d) (hd1 : 1 ≤ d) {y' : MethodName} {cc' : ByteArray} {nL' n idx c : Nat} {a : Int} (hM : az_MT y' cc' nL' none n) (hlink : Cond.methodLink y.cls idx y' ∈ az_gw) (hinst : Cond.instanceMethod y' ∈ az_gw) (hin : y'.name = "<init>") (hc12 : Nat.blt c 12 = true) {ras : List az_AV} (hn : ras.length = n) (hcat : Nat.ble (az_cat st) 8 = true) {T1 : az_R} (hA : az_AC Z.2.1 y' cc' nL' none (d - 1) ((c + 2, a) :: ras.reverse) σ T1) (hd : decode cc pc = .ok (.invokespecial idx, 3))
    (kk : az_AW Z nL (pc + 3) L (T1.1.toList ++ st) T1.2 T) : az_AW Z nL pc L (ras ++ (c + 2, a) :: st) σ T := by
  intro H locs ls vs hR hE hl hL hV
  obtain ⟨v1, v2, rfl, hV1, hV2, hlen⟩ := az_VL_app hV
  have hc12 : c < 12 := Nat.le_of_ble_eq_true hc12
  obtain ⟨v3, rfl, ⟨h1, h2, h3⟩, hV3⟩ := az_vlr (by omega) hV2
  have cb := az_callB (σ := σ) C hd1 hM hlink
  have hC := id C
  obtain ⟨hx, hb, hml, hr2, hlocks, hnm0, hown, hgw, hKK0, hfr, hlo, hRc, hRs, hs1, hs2⟩ := hC
  refine az_after C hE hl hL hV3 (va_runI (As := v1.reverse) (rest := v3) (n := n) ⟨hx, hb, hml, hown, hgw⟩ (hA Z.2.2.2.2.2.2.2.2.2.2.1) ⟨cb, hin, hgw _ hinst⟩ ⟨az_blind, fun U hU hW => ⟨⟨_, rfl, az_vr' (by omega) h1 h2 h3, az_VL_rev hV1⟩, by rw [hU]; exact hR, hKK0.moved hW⟩⟩ rfl (by rw [List.length_reverse, hlen, hn]) hL.1 (by rw [List.reverse_reverse]) (lv_room (Nat.le_trans (az_cat_of hV3) (Nat.le_of_ble_eq_true hcat))) hd (az_rooms C hR hE)) kk
theorem az_callIN (C : az_C Z y cc nL ret d) (hd1 : 1 ≤ d) {y' : MethodName} {cc' : ByteArray} {nL' n idx c : Nat} {host : String} {a : Int} (hM : az_MT y' cc' nL' none n) (hlink : ∀ G s, az_KK G s → va_Nw (.methodLinkNest y.cls idx y' host) s) (hinst : Cond.instanceMethod y' ∈ az_gw) (hin : y'.name = "<init>") (hc12 : Nat.blt c 12 = true) {ras : List az_AV} (hn : ras.length = n) (hcat : Nat.ble (az_cat st) 8 = true) {T1 : az_R} (hA : az_AC Z.2.1 y' cc' nL' none (d - 1) ((c + 2, a) :: ras.reverse) σ T1) (hd : decode cc pc = .ok (.invokespecial idx, 3))
    (kk : az_AW Z nL (pc + 3) L (T1.1.toList ++ st) T1.2 T) : az_AW Z nL pc L (ras ++ (c + 2, a) :: st) σ T := by
  intro H locs ls vs hR hE hl hL hV
  obtain ⟨v1, v2, rfl, hV1, hV2, hlen⟩ := az_VL_app hV
  have hc12 : c < 12 := Nat.le_of_ble_eq_true hc12
  obtain ⟨v3, rfl, ⟨h1, h2, h3⟩, hV3⟩ := az_vlr (by omega) hV2
  have hC := id C
  obtain ⟨hx, hb, hml, hr2, hlocks, hnm0, hown, hgw, hKK0, hfr, hlo, hRc, hRs, hs1, hs2⟩ := hC
  obtain ⟨m1, m2, m3, m4, m5, m6, m7⟩ := hM
  have cb := va_cnB (R := Z.2.2.2.1) (own := y.cls) (index := idx) (rm := az_rm (d - 1) σ.1) (mc := 600000 - σ.1.1) (ms := 7302250 - σ.1.2.1) (ws := Cond.code y' cc' nL' none :: az_gw) n hgw (az_good (az_ws m1)) rfl rfl rfl (hlink _ _ hKK0) (hgw _ m2) ⟨m3, m4, m5⟩ ⟨by show d - 1 + 1 ≤ _; omega, by show 8 + (nL' + 11) + 64 * (d - 1) ≤ _; omega⟩
  refine az_after C hE hl hL hV3 (va_runIN (As := v1.reverse) (rest := v3) (n := n) ⟨hx, hb, hml, hown, hgw⟩ (hA Z.2.2.2.2.2.2.2.2.2.2.1) ⟨cb, hin, hgw _ hinst⟩ ⟨az_blind, fun U hU hW => ⟨⟨_, rfl, az_vr' (by omega) h1 h2 h3, az_VL_rev hV1⟩, by rw [hU]; exact hR, hKK0.moved hW⟩⟩ rfl (by rw [List.length_reverse, hlen, hn]) hL.1 (by rw [List.reverse_reverse]) (lv_room (Nat.le_trans (az_cat_of hV3) (Nat.le_of_ble_eq_true hcat))) hd (az_rooms C hR hE)) kk
end AZ6
