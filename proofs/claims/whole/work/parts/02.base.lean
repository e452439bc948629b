def az_gw : List Cond := lw_tbl.filter goodWord
def az_fkL : List (List Nat) := [[0, 15, 15, 15, 15, 15, 17, 15, 15, 15, 15], [2, 0], [15, 15, 15, 0], [0, 15, 15], [0, 0, 15, 0, 0, 0, 4, 0, 0, 0, 0, 11, 8, 15, 15], [2, 8, 11, 9, 0, 0, 0, 0, 0, 0, 9, 18, 15, 15, 15, 15], [0, 0, 0, 18, 18, 18, 18, 15], [15, 0], [0, 0, 0, 0, 0, 0, 0, 15, 18, 0, 15, 15, 18, 18, 18, 15], [0, 0, 0, 15, 15, 15, 15, 17, 17, 15, 15, 18, 18, 17, 15, 15, 15], [15, 0, 0, 0, 0, 11, 11, 8, 6, 2, 3, 7, 9, 9, 15, 0, 10, 5], [15, 0, 0, 0, 0, 0, 0, 0, 0, 0, 0, 0, 0, 1, 0, 0, 15, 15, 15, 16, 16, 15, 15, 17, 17, 15, 15, 15, 15, 15, 15, 0, 0, 0, 0, 16, 16, 0, 0, 15, 15, 15, 15, 15, 15, 15, 15, 15, 15, 0, 0, 0, 0, 15, 15, 17, 14, 0, 0, 15, 0, 0, 0, 0, 0, 0, 15, 15, 15, 15, 0, 0, 0, 0, 0, 15, 15, 0, 0, 15, 16, 0, 0, 15, 15, 0, 0, 0, 15, 15, 15, 15, 15, 15, 15, 15, 15, 15, 16, 16, 0, 0, 15, 15, 15, 15, 15, 17, 0, 0, 0, 0, 15, 15, 0, 0]]
def az_NF (c : Nat) : Nat := ([11, 2, 4, 3, 15, 16, 8, 2, 16, 17, 18, 116] : List Nat).getD c 0
def az_nest1 : Cond := Jvm.Cond.methodLinkNest "FamilyReducer$Reader" (33 : Nat) ({ cls := "FamilyReducer$Lexer", name := "<init>", desc := "()V" } : Jvm.MethodName) "FamilyReducer"
def az_nest2 : Cond := Jvm.Cond.methodLinkNest "FamilyReducer" (54 : Nat) ({ cls := "FamilyReducer$Joiner", name := "<init>", desc := "()V" } : Jvm.MethodName) "FamilyReducer"
def az_nest3 : Cond := Jvm.Cond.methodLinkNest "FamilyReducer" (104 : Nat) ({ cls := "FamilyReducer$Printer", name := "<init>", desc := "()V" } : Jvm.MethodName) "FamilyReducer"
/-! the abstract heap: how many cells, how many slots, the kind and the length of each; what each holds. Refs are Int: 0 is null, x ≥ 1 the cell at base + (x - 1). -/
abbrev az_Shp : Type := Nat × Nat × (Int → Nat) × (Int → Int)
abbrev az_Hp : Type := az_Shp × (Int → Int → Int)
abbrev az_AV : Type := Nat × Int
abbrev az_G : Type := Nat × (Nat → Option Cell) × va_G × (Nat → ClassId)
def az_w32 (z : Int) : Int := Int.bmod z 4294967296
def az_w64 (z : Int) : Int := Int.bmod z 18446744073709551616
def az_ad (G : az_G) (x : Int) : Nat := G.1 + (x - 1).toNat
def az_wr (σ : az_Hp) (a i x : Int) : az_Hp := (σ.1, fun b j => if b = a ∧ j = i then x else σ.2 b j)
def az_ln (σ : az_Hp) (a : Int) : Int := σ.1.2.2.2 a
def az_fk (c : Nat) (j : Int) : Nat := if c < 12 then (az_fkL.getD c []).getD j.toNat 0 else if c = 14 then 1 else if c = 16 then 9 else 0
def az_okv (τ : az_Shp) (t : Nat) (z : Int) : Prop :=
  match t with
  | 0 => -2147483648 ≤ z ∧ z ≤ 2147483647
  | 1 => -9223372036854775808 ≤ z ∧ z ≤ 9223372036854775807
  | c + 2 => z = 0 ∨ (1 ≤ z ∧ z ≤ (τ.1 : Int) ∧ τ.2.2.1 z = c)
def az_rf (G : az_G) (z : Int) : Option Nat := if z ≤ 0 then none else some (az_ad G z)
def az_cv (G : az_G) (t : Nat) (z : Int) : Value :=
  match t with
  | 0 => .int (Int32.ofInt z)
  | 1 => .long (Int64.ofInt z)
  | _ + 2 => va_rf (az_rf G z)
/-- the cell of a ref -/
def az_at (G : az_G) (σ : az_Hp) (x : Int) (H : Heap) : Prop :=
  if σ.1.2.2.1 x < 12 then t_OB (az_ad G x) (G.2.2.1.1 (σ.1.2.2.1 x)) (az_NF (σ.1.2.2.1 x)) (G.2.2.1.2 (σ.1.2.2.1 x)) H (fun j => az_cv G (az_fk (σ.1.2.2.1 x) j) (σ.2 x j))
  else H[az_ad G x]? = some (arrV (G.2.2.2 (σ.1.2.2.1 x)) (σ.1.2.2.2 x).toNat (fun j => az_cv G (az_fk (σ.1.2.2.1 x) j) (σ.2 x j)))
def az_sum (B : Nat) (H : Heap) : Nat := ((H.toList.drop B).map (·.slots.size)).sum
/-- what is typed: lengths, values -/
def az_WT (σ : az_Hp) : Prop :=
  σ.1.1 ≤ 600000 ∧ σ.1.2.1 ≤ 7302250 ∧
  (∀ x : Int, 1 ≤ x → x ≤ (σ.1.1 : Int) → 0 ≤ σ.1.2.2.2 x ∧ σ.1.2.2.2 x ≤ 7302250 ∧ σ.1.2.2.1 x ≤ 16 ∧ (σ.1.2.2.1 x < 12 → σ.1.2.2.2 x = (az_NF (σ.1.2.2.1 x) : Int)) ∧
    ∀ j : Int, 0 ≤ j → j < σ.1.2.2.2 x → az_okv σ.1 (az_fk (σ.1.2.2.1 x) j) (σ.2 x j)) ∧
  ∀ x : Int, (σ.1.1 : Int) < x → ∀ j : Int, σ.2 x j = 0
def az_Rep (G : az_G) (σ : az_Hp) (H : Heap) : Prop :=
  H.size = G.1 + σ.1.1 ∧ (∀ q : Nat, q < G.1 → H[q]? = G.2.1 q) ∧ az_sum G.1 H = σ.1.2.1 ∧ (∀ x : Int, 1 ≤ x → x ≤ (σ.1.1 : Int) → az_at G σ x H) ∧ az_WT σ
def az_V (G : az_G) (τ : az_Shp) (a : az_AV) (v : Value) : Prop :=
  match a.1 with
  | 0 => ∃ w : Int32, v = .int w ∧ w.toInt = a.2
  | 1 => ∃ w : Int64, v = .long w ∧ w.toInt = a.2
  | 30 => v = .ref a.2.toNat
  | 31 => True
  | t => 1 ≤ a.2 ∧ a.2 ≤ (τ.1 : Int) ∧ τ.2.2.1 a.2 + 2 = t ∧ v = .ref (az_ad G a.2)
def az_VL (G : az_G) (τ : az_Shp) : List az_AV → List Value → Prop
  | [], [] => True
  | a :: as, v :: vs => az_V G τ a v ∧ az_VL G τ as vs
  | _, _ => False
def az_LV (G : az_G) (τ : az_Shp) (nL : Nat) (ls : Array Slot) (L : List az_AV) : Prop :=
  ls.size = nL ∧ lv_wf ls ∧ ∀ (k : Nat) (a : az_AV), L[k]? = some a → a.1 = 31 ∨ ∃ v, ls[k]? = some (.val v) ∧ az_V G τ a v
def az_Ext (τ τ' : az_Shp) : Prop := τ.1 ≤ τ'.1 ∧ τ.2.1 ≤ τ'.2.1 ∧ ∀ x : Int, 1 ≤ x → x ≤ (τ.1 : Int) → τ'.2.2.1 x = τ.2.2.1 x ∧ τ'.2.2.2 x = τ.2.2.2 x
def az_tys (G : az_G) : List (ClassId × FieldType) := [(G.2.2.2 12, .byte), (G.2.2.2 13, .int), (G.2.2.2 14, .long), (G.2.2.2 15, .boolean), (G.2.2.2 16, .object RX7)]
def az_KK (G : az_G) (U : State) : Prop := va_K G.2.2.1 vwCl (az_tys G) U ∧ va_AO RX7 U ∧ va_Nw az_nest1 U ∧ va_Nw az_nest2 U ∧ va_Nw az_nest3 U
def az_VO (G : az_G) (τ : az_Shp) (r : Option az_AV) (v : Option Value) : Prop :=
  match r, v with
  | none, none => True
  | some a, some v => az_V G τ a v
  | _, _ => False
abbrev az_R : Type := Option az_AV × az_Hp
def az_Pc (G : az_G) (as : List az_AV) (σ : az_Hp) : Array Value → State → Prop := fun v U => (∃ vs : List Value, v = vs.toArray ∧ az_VL G σ.1 as vs) ∧ az_Rep G σ U.heap ∧ az_KK G U
def az_Qc (G : az_G) (τ0 : az_Shp) (T : az_R) : Array Value → State → Outcome → State → Prop := fun _ _ o t => ∃ v, o = .returned v ∧ az_VO G T.2.1 T.1 v ∧ az_Rep G T.2 t.heap ∧ az_KK G t ∧ az_Ext τ0 T.2.1
def az_rm (d : Nat) (τ : az_Shp) : Room := { frames := d, cells := 600000 - τ.1, slots := 7302250 - τ.2.1, locals := 64 * d }
/-- a method's contract: from these arguments and this heap it returns that and leaves that heap -/
def az_AC (l : Launch) (y : MethodName) (cc : ByteArray) (nL : Nat) (ret : Option FieldType) (d : Nat) (as : List az_AV) (σ : az_Hp) (T : az_R) : Prop :=
  ∀ G : az_G, Met l y (Cond.code y cc nL ret :: az_gw) (az_rm d σ.1) (az_Pc G as σ) (az_Qc G σ.1 T) (600000 - σ.1.1) (7302250 - σ.1.2.1) (fun q => G.1 ≤ q)
/-- an activation: program, launch, environment, room, the state at its entry, method, arguments, what lies below, method, code; base; the shape at its entry -/
abbrev az_Z : Type := Program × Launch × Env × Room × State × MethodId × Array Value × List Frame × Method × Code × az_G × az_Shp
def az_W (Z : az_Z) (pc : Nat) (ls : Array Slot) (vs : List Value) (σ : az_Hp) (H : Heap) (locs : List Loc) (T : az_R) : Prop :=
  W Z.1 Z.2.1 Z.2.2.1 Z.2.2.2.1 Z.2.2.2.2.1 Z.2.2.2.2.2.1 Z.2.2.2.2.2.2.1 Z.2.2.2.2.2.2.2.1 Z.2.2.2.2.2.2.2.2.1 Z.2.2.2.2.2.2.2.2.2.1 H locs (σ.1.1 - Z.2.2.2.2.2.2.2.2.2.2.2.1) (σ.1.2.1 - Z.2.2.2.2.2.2.2.2.2.2.2.2.1)
    (MQ Z.2.2.2.2.2.2.2.1 (az_Qc Z.2.2.2.2.2.2.2.2.2.2.1 Z.2.2.2.2.2.2.2.2.2.2.2 T) Z.2.2.2.2.2.2.1 Z.2.2.2.2.1 (600000 - Z.2.2.2.2.2.2.2.2.2.2.2.1) (7302250 - Z.2.2.2.2.2.2.2.2.2.2.2.2.1) (fun q => Z.2.2.2.2.2.2.2.2.2.2.1.1 ≤ q)) (F0 Z.2.2.2.2.2.1 pc ls vs)
def az_AW (Z : az_Z) (nL : Nat) (pc : Nat) (L st : List az_AV) (σ : az_Hp) (T : az_R) : Prop :=
  ∀ (H : Heap) (locs : List Loc) (ls : Array Slot) (vs : List Value), az_Rep Z.2.2.2.2.2.2.2.2.2.2.1 σ H → az_Ext Z.2.2.2.2.2.2.2.2.2.2.2 σ.1 → (∀ q ∈ locs, Z.2.2.2.2.2.2.2.2.2.2.1.1 ≤ q.base) →
    az_LV Z.2.2.2.2.2.2.2.2.2.2.1 σ.1 nL ls L → az_VL Z.2.2.2.2.2.2.2.2.2.2.1 σ.1 st vs → az_W Z pc ls vs σ H locs T
/-- what is known of an activation -/
def az_C (Z : az_Z) (y : MethodName) (cc : ByteArray) (nL : Nat) (ret : Option FieldType) (d : Nat) : Prop :=
  Z.1.tables.exec = Jvm.exec ∧ Z.2.2.2.2.2.2.2.2.2.1.code = cc ∧ Z.2.2.2.2.2.2.2.2.2.1.maxLocals = nL ∧ Z.2.2.2.2.2.2.2.2.1.sig.returnType = ret ∧ Z.2.2.2.2.2.2.2.2.1.locks = false ∧ (y.name = "<init>" → Z.2.2.2.2.2.2.2.2.1.name = "<init>") ∧
  Z.2.2.2.2.1.vm.findClass y.cls = some Z.2.2.2.2.2.1.cls ∧ (∀ w ∈ az_gw, w.before Z.2.2.2.2.2.2.1 Z.2.2.2.2.1 = true) ∧ az_KK Z.2.2.2.2.2.2.2.2.2.2.1 Z.2.2.2.2.1 ∧
  d ≤ Z.2.2.2.1.frames ∧ 64 * d ≤ Z.2.2.2.1.locals ∧ Z.2.2.2.1.cells = 600000 - Z.2.2.2.2.2.2.2.2.2.2.2.1 ∧ Z.2.2.2.1.slots = 7302250 - Z.2.2.2.2.2.2.2.2.2.2.2.2.1 ∧
  Z.2.2.2.2.1.heap.size = Z.2.2.2.2.2.2.2.2.2.2.1.1 + Z.2.2.2.2.2.2.2.2.2.2.2.1 ∧ az_sum Z.2.2.2.2.2.2.2.2.2.2.1.1 Z.2.2.2.2.1.heap = Z.2.2.2.2.2.2.2.2.2.2.2.2.1
section AZ1
variable {G : az_G} {τ τ' : az_Shp}
theorem az_vl1 {a : az_AV} {st : List az_AV} {vs : List Value} (h : az_VL G τ (a :: st) vs) : ∃ v vs', vs = v :: vs' ∧ az_V G τ a v ∧ az_VL G τ st vs' := by
  cases vs with
  | nil => exact h.elim
  | cons v vs' => exact ⟨v, vs', rfl, h.1, h.2⟩
theorem az_vli {x : Int} {st : List az_AV} {vs : List Value} (h : az_VL G τ ((0, x) :: st) vs) : ∃ (w : Int32) (vs' : List Value), vs = .int w :: vs' ∧ w.toInt = x ∧ az_VL G τ st vs' := by
  obtain ⟨v, vs', rfl, ⟨w, rfl, hw⟩, h2⟩ := az_vl1 h
  exact ⟨w, vs', rfl, hw, h2⟩
theorem az_vll {x : Int} {st : List az_AV} {vs : List Value} (h : az_VL G τ ((1, x) :: st) vs) : ∃ (w : Int64) (vs' : List Value), vs = .long w :: vs' ∧ w.toInt = x ∧ az_VL G τ st vs' := by
  obtain ⟨v, vs', rfl, ⟨w, rfl, hw⟩, h2⟩ := az_vl1 h
  exact ⟨w, vs', rfl, hw, h2⟩
theorem az_vr {c : Nat} {x : Int} {v : Value} (hc : c ≤ 16) (h : az_V G τ (c + 2, x) v) : 1 ≤ x ∧ x ≤ (τ.1 : Int) ∧ τ.2.2.1 x = c ∧ v = .ref (az_ad G x) := by
  have h1 : ∀ t : Nat, t = c + 2 → az_V G τ (t, x) v → 1 ≤ x ∧ x ≤ (τ.1 : Int) ∧ τ.2.2.1 x + 2 = t ∧ v = .ref (az_ad G x) := by
    intro t ht h
    unfold az_V at h
    split at h
    · exfalso; simp_all
    · exfalso; simp_all
    · exfalso; simp_all
    · exfalso; simp_all
    · exact h
  obtain ⟨a, b, c, d⟩ := h1 (c + 2) rfl h
  exact ⟨a, b, by omega, d⟩
theorem az_vr' {c : Nat} {x : Int} (hc : c ≤ 16) (h1 : 1 ≤ x) (h2 : x ≤ (τ.1 : Int)) (h3 : τ.2.2.1 x = c) : az_V G τ (c + 2, x) (.ref (az_ad G x)) := by
  have h : ∀ t : Nat, t = c + 2 → az_V G τ (t, x) (.ref (az_ad G x)) := by
    intro t ht
    unfold az_V
    split
    · exfalso; simp_all
    · exfalso; simp_all
    · exfalso; simp_all
    · exfalso; simp_all
    · exact ⟨h1, h2, by rw [h3]; exact ht.symm, rfl⟩
  exact h _ rfl
theorem az_vlr {c : Nat} {x : Int} {st : List az_AV} {vs : List Value} (hc : c ≤ 16) (h : az_VL G τ ((c + 2, x) :: st) vs) : ∃ vs' : List Value, vs = .ref (az_ad G x) :: vs' ∧ (1 ≤ x ∧ x ≤ (τ.1 : Int) ∧ τ.2.2.1 x = c) ∧ az_VL G τ st vs' := by
  obtain ⟨v, vs', rfl, h1, h2⟩ := az_vl1 h
  obtain ⟨a, b, c, rfl⟩ := az_vr hc h1
  exact ⟨vs', rfl, ⟨a, b, c⟩, h2⟩
theorem az_V_ref {t : Nat} {x : Int} {v : Value} (h0 : t ≠ 0) (h1 : t ≠ 1) (h2 : t ≠ 30) (h3 : t ≠ 31) : az_V G τ (t, x) v ↔ (1 ≤ x ∧ x ≤ (τ.1 : Int) ∧ τ.2.2.1 x + 2 = t ∧ v = .ref (az_ad G x)) := by
  unfold az_V
  dsimp only
  split <;> first | contradiction | rfl
theorem az_V.mono {a : az_AV} {v : Value} (hE : az_Ext τ τ') (h : az_V G τ a v) : az_V G τ' a v := by
  obtain ⟨t, x⟩ := a
  by_cases h0 : t = 0
  · subst h0; exact h
  by_cases h1 : t = 1
  · subst h1; exact h
  by_cases h2 : t = 30
  · subst h2; exact h
  by_cases h3 : t = 31
  · subst h3; exact h
  rw [az_V_ref h0 h1 h2 h3] at h ⊢
  obtain ⟨a1, a2, a3, a4⟩ := h
  refine ⟨a1, ?_, ?_, a4⟩
  · have := hE.1; omega
  · rw [(hE.2.2 _ a1 a2).1]; exact a3
theorem az_VL.mono (hE : az_Ext τ τ') : ∀ {as : List az_AV} {vs : List Value}, az_VL G τ as vs → az_VL G τ' as vs
  | [], [], _ => trivial
  | _ :: _, _ :: _, h => ⟨h.1.mono hE, az_VL.mono hE h.2⟩
  | [], _ :: _, h => h.elim
  | _ :: _, [], h => h.elim
theorem az_LV.mono {nL : Nat} {ls : Array Slot} {L : List az_AV} (hE : az_Ext τ τ') (h : az_LV G τ nL ls L) : az_LV G τ' nL ls L :=
  ⟨h.1, h.2.1, fun k a hk => (h.2.2 k a hk).imp_right fun ⟨v, h1, h2⟩ => ⟨v, h1, h2.mono hE⟩⟩
theorem az_Ext.refl : az_Ext τ τ := ⟨Nat.le_refl _, Nat.le_refl _, fun _ _ _ => ⟨rfl, rfl⟩⟩
theorem az_Ext.trans {τ'' : az_Shp} (h1 : az_Ext τ τ') (h2 : az_Ext τ' τ'') : az_Ext τ τ'' :=
  ⟨Nat.le_trans h1.1 h2.1, Nat.le_trans h1.2.1 h2.2.1, fun x a b => by
    have hb : x ≤ (τ'.1 : Int) := by have := h1.1; omega
    obtain ⟨c1, c2⟩ := h1.2.2 x a b
    obtain ⟨d1, d2⟩ := h2.2.2 x a hb
    exact ⟨d1.trans c1, d2.trans c2⟩⟩
end AZ1
theorem az_rng32 (w : Int32) : -2147483648 ≤ w.toInt ∧ w.toInt ≤ 2147483647 := by
  have h1 := Int32.le_toInt w
  have h2 := Int32.toInt_lt w
  omega
theorem az_rng64 (w : Int64) : -9223372036854775808 ≤ w.toInt ∧ w.toInt ≤ 9223372036854775807 := by
  have h1 := Int64.le_toInt w
  have h2 := Int64.toInt_lt w
  omega
theorem az_w32_id {z : Int} (h1 : -2147483648 ≤ z) (h2 : z ≤ 2147483647) : az_w32 z = z := by
  unfold az_w32
  rw [Int.bmod_eq_of_le] <;> omega
theorem az_w64_id {z : Int} (h1 : -9223372036854775808 ≤ z) (h2 : z ≤ 9223372036854775807) : az_w64 z = z := by
  unfold az_w64
  rw [Int.bmod_eq_of_le] <;> omega
theorem az_of32 {z : Int} (h1 : -2147483648 ≤ z) (h2 : z ≤ 2147483647) : (Int32.ofInt z).toInt = z := by
  rw [Int32.toInt_ofInt]
  exact az_w32_id h1 h2
theorem az_of64 {z : Int} (h1 : -9223372036854775808 ≤ z) (h2 : z ≤ 9223372036854775807) : (Int64.ofInt z).toInt = z := by
  rw [Int64.toInt_ofInt]
  exact az_w64_id h1 h2
theorem az_clamp (w : Int32) : w.toNatClampNeg = w.toInt.toNat := rfl
/-- the locals behind a store of one slot -/
theorem az_store1 {G : az_G} {τ : az_Shp} {nL i : Nat} {ls : Array Slot} {L : List az_AV} {a : az_AV} {v : Value} (h : az_LV G τ nL ls L) (hi : i < nL) (hv : az_V G τ a v) (hc : v.category = 1) (hp : ∀ b : az_AV, i ≠ 0 → L[i - 1]? = some b → b.1 ≠ 1) :
    ∃ ls', storeLocals ls i v = some ls' ∧ az_LV G τ nL ls' (L.set i a) := by
  obtain ⟨hs, hw, hL⟩ := h
  obtain ⟨ls', e', h1, h2, h3⟩ := lv_store1 (ls := ls) (nL := nL) (l := []) (i := i) (v := v) ⟨hs, hw, fun q hq => by cases hq⟩ hi hc
  refine ⟨ls', e', h1, h2, fun k b hk => ?_⟩
  by_cases hki : k = i
  · subst hki
    rw [List.getElem?_set] at hk
    split at hk
    · split at hk
      · cases hk; exact Or.inr ⟨v, h3 (k, v) List.mem_cons_self, hv⟩
      · cases hk
    · contradiction
  · rw [List.getElem?_set, if_neg (fun q => hki q.symm)] at hk
    by_cases hb31 : b.1 = 31
    · exact Or.inl hb31
    rcases hL k b hk with hb | ⟨w, hw1, hw2⟩
    · exact Or.inl hb
    · right
      refine ⟨w, ?_, hw2⟩
      obtain ⟨ls'', e'', g1, g2, g3⟩ := lv_store1 (ls := ls) (nL := nL) (l := [(k, w)]) (i := i) (v := v) ⟨hs, hw, fun q hq => by cases List.mem_singleton.mp hq; exact hw1⟩ hi hc
      cases e'.symm.trans e''
      refine g3 (k, w) (List.mem_cons_of_mem _ (List.mem_filter.mpr ⟨List.mem_singleton.mpr rfl, ?_⟩))
      have n1 : (k == i) = false := by simpa using hki
      have n2 : (k + 1 == i && w.category == 2) = false := by
        by_cases hk1 : k + 1 = i
        · have hb1 : b.1 ≠ 1 := hp b (by omega) (by rw [← hk1]; exact hk)
          have : w.category ≠ 2 := by
            obtain ⟨t, x⟩ := b
            unfold az_V at hw2
            split at hw2
            · obtain ⟨z, rfl, -⟩ := hw2; simp [Value.category]
            · rename_i e; exact absurd e hb1
            · rw [hw2]; simp [Value.category]
            · rename_i e; exact absurd e hb31
            · obtain ⟨-, -, -, rfl⟩ := hw2; simp [Value.category]
          simp [this]
        · simp [hk1]
      simp [n1, n2]
