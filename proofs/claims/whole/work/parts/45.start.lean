set_option maxRecDepth 20000 in
theorem az_over : Cond.arrayOver (.object RX7) ∈ lw_tbl := List.mem_append_right _ (by have h := List.mem_of_getElem? (show tables_1_1[30]? = some (Cond.arrayOver (.object RX7)) from rfl); exact List.mem_append_left _ h)
set_option maxRecDepth 20000 in
theorem az_nestm1 : az_nest1 ∈ lw_tbl := List.mem_append_right _ (by have h := List.mem_of_getElem? (show tables_1_1[206]? = some (az_nest1) from rfl); exact List.mem_append_left _ h)
set_option maxRecDepth 20000 in
theorem az_nestm2 : az_nest2 ∈ lw_tbl := List.mem_append_right _ (by have h := List.mem_of_getElem? (show tables_1_2[38]? = some (az_nest2) from rfl); exact List.mem_append_right _ (List.mem_append_left _ h))
set_option maxRecDepth 20000 in
theorem az_nestm3 : az_nest3 ∈ lw_tbl := List.mem_append_right _ (by have h := List.mem_of_getElem? (show tables_1_2[224]? = some (az_nest3) from rfl); exact List.mem_append_right _ (List.mem_append_left _ h))
def R_law : String := "FamilyReducerLaw"
def lw_P (b : Addr) (xs : List Int32) (args : Array Value) (s : State) : Prop := args = #[.ref b] ∧ s.IntsAt b xs ∧ xs.length ≤ 3072 ∧ (Jvm.Cond.and given_1 narrow_1).before args s = true
def lw_Q (_ : Array Value) (s : State) (o : Outcome) (t : State) : Prop := o = .returned (some (.int 1)) ∧ Framed s o t [] 600000 7302250
def lw_Z (below : List Frame) (a : Array Value) (s : State) : State → Prop := fun t => ∃ o, t.status = .running ∧ Ended t below o ∧ lw_Q a s o t
/-- what holds at the law's entry -/
def lw_At (p : Program) (s : State) (m : MethodId) (meth : Method) (c : Code) (b L : Nat) (xs : Nat → Int32) : Prop :=
  p.tables.exec = Jvm.exec ∧ c.code = code ∧ meth.sig.returnType = ret ∧ c.maxLocals = 4 ∧ s.vm.findClass R_law = some m.cls ∧ (∀ w ∈ lw_tbl, w.before #[Value.ref b] s = true) ∧ va_X b L xs s s.heap ∧ b < s.heap.size ∧ meth.locks = false ∧ (Jvm.Cond.and given_1 narrow_1).before #[Value.ref b] s = true
/-- the empty heap -/
def az_E : az_Hp := ((0, 0, fun _ => 0, fun _ => 0), fun _ _ => 0)
theorem az_E_rep {G : az_G} {H : Heap} (h1 : H.size = G.1) (h2 : ∀ q : Nat, q < G.1 → H[q]? = G.2.1 q) : az_Rep G az_E H := by
  refine ⟨h1, h2, ?_, fun x hx1 hx2 => ?_, Nat.zero_le _, Nat.zero_le _, fun x hx1 hx2 => ?_, fun _ _ _ => rfl⟩
  · unfold az_sum
    rw [List.drop_of_length_le (by rw [Array.length_toList, h1]; exact Nat.le_refl _)]
    rfl
  · have : x ≤ ((0 : Nat) : Int) := hx2
    omega
  · have : x ≤ ((0 : Nat) : Int) := hx2
    omega
theorem az_arrK {ty : FieldType} {args : Array Value} {s : State} (h : (Cond.arrayClass ty).before args s = true) (hr : ∀ C, ty ≠ .object C) : ∃ cA : ClassId, ArrOfT s cA ty ∧ va_RA s cA ty := by
  obtain ⟨c, k, comp, h1, h2, h3⟩ := Cond.arrayClass_spec h
  refine ⟨c, fun n z => ⟨fun k h => (by cases h), k, h2, comp, h3⟩, ?_⟩
  cases ty <;> first | exact h1 | exact absurd rfl (hr _)
set_option maxRecDepth 20000 in
theorem az_KKof {b : Nat} {s : State} (hts : ∀ w ∈ lw_tbl, w.before #[Value.ref b] s = true) (B : Nat) (low : Nat → Option Cell) : ∃ (D : va_G) (cA : Nat → ClassId), az_KK (B, low, D, cA) s := by
  have hgw : ∀ w ∈ az_gw, w.before #[Value.ref b] s = true := fun w hw => hts w (List.mem_filter.mp hw).1
  obtain ⟨c0, i0, k0⟩ := u_known hgw az_lay0 (hgw _ az_inst0)
  obtain ⟨c1, i1, k1⟩ := u_known hgw az_lay1 (hgw _ az_inst1)
  obtain ⟨c2, i2, k2⟩ := u_known hgw az_lay2 (hgw _ az_inst2)
  obtain ⟨c3, i3, k3⟩ := u_known hgw az_lay3 (hgw _ az_inst3)
  obtain ⟨c4, i4, k4⟩ := u_known hgw az_lay4 (hgw _ az_inst4)
  obtain ⟨c5, i5, k5⟩ := u_known hgw az_lay5 (hgw _ az_inst5)
  obtain ⟨c6, i6, k6⟩ := u_known hgw az_lay6 (hgw _ az_inst6)
  obtain ⟨c7, i7, k7⟩ := u_known hgw az_lay7 (hgw _ az_inst7)
  obtain ⟨c8, i8, k8⟩ := u_known hgw az_lay8 (hgw _ az_inst8)
  obtain ⟨c9, i9, k9⟩ := u_known hgw az_lay9 (hgw _ az_inst9)
  obtain ⟨c10, i10, k10⟩ := u_known hgw az_lay10 (hgw _ az_inst10)
  obtain ⟨c11, i11, k11⟩ := u_known hgw az_lay11 (hgw _ az_inst11)
  obtain ⟨a12, p12, r12⟩ := az_arrK (hgw _ az_ac_byte) (fun C h => by cases h)
  obtain ⟨a13, p13, r13⟩ := az_arrK (hgw _ az_ac_int) (fun C h => by cases h)
  obtain ⟨a14, p14, r14⟩ := az_arrK (hgw _ az_ac_long) (fun C h => by cases h)
  obtain ⟨a15, p15, r15⟩ := az_arrK (hgw _ az_ac_boolean) (fun C h => by cases h)
  have hao : va_AO RX7 s := va_AO.of (A := #[Value.ref b]) (hts _ az_over)
  obtain ⟨comp, a16, kA, g1, -, g3, g4, g5⟩ := Cond.arrayOver_spec hao
  refine ⟨(fun k => if k = 0 then c0 else if k = 1 then c1 else if k = 2 then c2 else if k = 3 then c3 else if k = 4 then c4 else if k = 5 then c5 else if k = 6 then c6 else if k = 7 then c7 else if k = 8 then c8 else if k = 9 then c9 else if k = 10 then c10 else c11,
    fun k => if k = 0 then i0 else if k = 1 then i1 else if k = 2 then i2 else if k = 3 then i3 else if k = 4 then i4 else if k = 5 then i5 else if k = 6 then i6 else if k = 7 then i7 else if k = 8 then i8 else if k = 9 then i9 else if k = 10 then i10 else i11),
    (fun k => if k = 12 then a12 else if k = 13 then a13 else if k = 14 then a14 else if k = 15 then a15 else a16), ⟨?_, ?_⟩, hao, va_Nw.of rfl (hts _ az_nestm1), va_Nw.of rfl (hts _ az_nestm2), va_Nw.of rfl (hts _ az_nestm3)⟩
  · intro k q hq
    match k, hq with
    | 0, hq => cases hq; exact k0
    | 1, hq => cases hq; exact k1
    | 2, hq => cases hq; exact k2
    | 3, hq => cases hq; exact k3
    | 4, hq => cases hq; exact k4
    | 5, hq => cases hq; exact k5
    | 6, hq => cases hq; exact k6
    | 7, hq => cases hq; exact k7
    | 8, hq => cases hq; exact k8
    | 9, hq => cases hq; exact k9
    | 10, hq => cases hq; exact k10
    | 11, hq => cases hq; exact k11
    | k + 12, hq => simp [vwCl] at hq
  · intro k q hq
    match k, hq with
    | 0, hq => cases hq; exact ⟨p12, r12⟩
    | 1, hq => cases hq; exact ⟨p13, r13⟩
    | 2, hq => cases hq; exact ⟨p14, r14⟩
    | 3, hq => cases hq; exact ⟨p15, r15⟩
    | 4, hq => cases hq; exact ⟨fun n z => ⟨fun k h => (by cases h), kA, g3, comp, g4⟩, kA, comp, g3, g4, g1, g5⟩
    | k + 5, hq => simp [az_tys] at hq
/-- the claim's walk, out of the function of the law -/
theorem az_whole {p : Program} {e : Env} {s : State} {m : MethodId} {below : List Frame} {meth : Method} {c : Code} (l : Launch) {b L : Nat} {xs : Nat → Int32} (hL : L ≤ 3072) (C0 : lw_At p s m meth c b L xs) {n : Nat} {σ' : az_Hp}
    (h : fz_L_law (L : Int) (fun i => (xs i.toNat).toInt) n az_E = some (1, σ')) : W p l e room_1 s m #[Value.ref b] below meth c s.heap [] 0 0 (lw_Z below #[Value.ref b] s) (entryFrame m ([Value.ref b] : List Value).toArray 4) := by
  obtain ⟨hx, hb, hr, hml, hown, hts, hX, hbl, hlocks, hgv⟩ := id C0
  obtain ⟨D, cA, hKK⟩ := az_KKof hts s.heap.size (fun q => s.heap[q]?)
  have hgw : ∀ w ∈ az_gw, w.before #[Value.ref b] s = true := fun w hw => hts w (List.mem_filter.mp hw).1
  have hR0 : az_Rep (s.heap.size, (fun q => s.heap[q]?), D, cA) az_E s.heap := az_E_rep rfl (fun q _ => rfl)
  have hC : az_C (p, l, e, room_1, s, m, #[Value.ref b], below, meth, c, (s.heap.size, (fun q => s.heap[q]?), D, cA), az_E.1) yL_law cL_law 4 (some .boolean) 1312 :=
    ⟨hx, hb, hml, hr, hlocks, (fun q => absurd q (by decide)), hown, hgw, hKK, Nat.le_of_ble_eq_true rfl, Nat.le_of_ble_eq_true rfl, rfl, rfl, rfl, hR0.2.2.1⟩
  obtain ⟨scr, h1, h2, h3, h4, h5⟩ := hX
  have hXX : az_X (p, l, e, room_1, s, m, #[Value.ref b], below, meth, c, (s.heap.size, (fun q => s.heap[q]?), D, cA), az_E.1) (b : Int) (L : Int) (fun i => (xs i.toNat).toInt) :=
    ⟨hbl, Int.natCast_nonneg _, by omega, scr, h1, h2, h3, h4, fun j hj => ⟨xs j, h5 j (by omega), rfl⟩⟩
  have q := A_L_law hC (by decide) hXX n h
  have hl := lv_entry ([.ref b]) (n := 4) (Nat.le_of_ble_eq_true rfl)
  rw [lg_entry_eq]
  have q2 := q s.heap [] ((lg_sl [Value.ref b] ++ List.replicate (4 - (lg_sl [Value.ref b]).length) Slot.unset).toArray) [] hR0 az_Ext.refl (fun q hq => by cases hq) ⟨hl.1, hl.2.1, fun k a hk => by
    match k, hk with
    | 0, hk =>
      right
      refine ⟨.ref b, hl.2.2 (0, .ref b) List.mem_cons_self, ?_⟩
      cases hk
      rfl
    | 1, hk => cases hk; exact Or.inl rfl
    | 2, hk => cases hk; exact Or.inl rfl
    | 3, hk => cases hk; exact Or.inl rfl
    | k + 4, hk => simp at hk⟩ trivial
  unfold az_W at q2
  dsimp only at q2
  rw [Nat.sub_self, Nat.sub_self] at q2
  intro T hT X
  obtain ⟨t, a1, o, b1, b2, ⟨v, hv, hVO, -⟩, LL, ⟨f1, f2, f3⟩, hfree⟩ := q2 T hT X
  refine ⟨t, a1, o, b1, b2, ?_, f1, f2, ?_⟩
  · rw [hv]
    cases v with
    | none => exact hVO.elim
    | some v =>
      obtain ⟨w, rfl, hw⟩ := hVO
      have hw1 : w = 1 := Int32.toInt_inj.mp (by rw [hw]; rfl)
      rw [hw1]
  · exact f3.weaken (fun x hx hlt => absurd (hfree x hx) (Nat.not_le.mpr hlt)) (Nat.le_refl _) (Nat.le_refl _)
