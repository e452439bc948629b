/-! rows of one instruction each: stack, locals, arithmetic, branches -/
section AZ2
variable {α : Type} {Z : az_Z} {y : MethodName} {cc : ByteArray} {nL d pc : Nat} {ret : Option FieldType} {L st : List az_AV} {σ : az_Hp} {T : az_R}
theorem az_iconst (C : az_C Z y cc nL ret d) {n x : Int} (hd : decode cc pc = .ok (.iconst n, 1)) (hx : (Int32.ofInt n).toInt = x) (k : az_AW Z nL (pc + 1) L ((0, x) :: st) σ T) : az_AW Z nL pc L st σ T := by
  obtain ⟨p, l, e, R, s, m, args, below, meth, c, G, τ0⟩ := Z
  intro H locs ls vs hR hE hl hL hV
  exact lv_iconst C.1 C.2.1 hd rfl (k H locs ls _ hR hE hl hL ⟨⟨_, rfl, hx⟩, hV⟩)
theorem az_bipush (C : az_C Z y cc nL ret d) {n x : Int} (hd : decode cc pc = .ok (.bipush n, 2)) (hx : (Int8.ofInt n).toInt32.toInt = x) (k : az_AW Z nL (pc + 2) L ((0, x) :: st) σ T) : az_AW Z nL pc L st σ T := by
  obtain ⟨p, l, e, R, s, m, args, below, meth, c, G, τ0⟩ := Z
  intro H locs ls vs hR hE hl hL hV
  exact lv_bipush C.1 C.2.1 hd rfl (k H locs ls _ hR hE hl hL ⟨⟨_, rfl, hx⟩, hV⟩)
theorem az_sipush (C : az_C Z y cc nL ret d) {n x : Int} (hd : decode cc pc = .ok (.sipush n, 3)) (hx : (Int16.ofInt n).toInt32.toInt = x) (k : az_AW Z nL (pc + 3) L ((0, x) :: st) σ T) : az_AW Z nL pc L st σ T := by
  obtain ⟨p, l, e, R, s, m, args, below, meth, c, G, τ0⟩ := Z
  intro H locs ls vs hR hE hl hL hV
  exact lv_sipush C.1 C.2.1 hd rfl (k H locs ls _ hR hE hl hL ⟨⟨_, rfl, hx⟩, hV⟩)
theorem az_ldc (C : az_C Z y cc nL ret d) {i : Nat} {w : Int32} {x : Int} (hw : Cond.constant y.cls i w ∈ az_gw) (hd : decode cc pc = .ok (.ldc i, 2)) (hx : w.toInt = x) (k : az_AW Z nL (pc + 2) L ((0, x) :: st) σ T) : az_AW Z nL pc L st σ T := by
  obtain ⟨p, l, e, R, s, m, args, below, meth, c, G, τ0⟩ := Z
  intro H locs ls vs hR hE hl hL hV
  exact lv_ldc C.1 C.2.1 C.2.2.2.2.2.2.1 (C.2.2.2.2.2.2.2.1 _ hw) hd (k H locs ls _ hR hE hl hL ⟨⟨_, rfl, hx⟩, hV⟩)
theorem az_lconst (C : az_C Z y cc nL ret d) {n : Fin 2} {x : Int} (hd : decode cc pc = .ok (.lconst n, 1)) (hx : (Int64.ofNat (n : Nat)).toInt = x) (k : az_AW Z nL (pc + 1) L ((1, x) :: st) σ T) : az_AW Z nL pc L st σ T := by
  obtain ⟨p, l, e, R, s, m, args, below, meth, c, G, τ0⟩ := Z
  intro H locs ls vs hR hE hl hL hV
  exact lv_lconst C.1 C.2.1 hd rfl (k H locs ls _ hR hE hl hL ⟨⟨_, rfl, hx⟩, hV⟩)
/-- loads: by the place in the list of locals -/
theorem az_lget {G : az_G} {τ : az_Shp} {ls : Array Slot} {i : Nat} {a : az_AV} (hL : az_LV G τ nL ls L) (hi : L[i]? = some a) (ha : a.1 ≠ 31) : ∃ v, ls[i]? = some (.val v) ∧ az_V G τ a v := by
  rcases hL.2.2 i a hi with h | h
  · exact absurd h ha
  · exact h
theorem az_iload (C : az_C Z y cc nL ret d) {i : Nat} {x : Int} (hi : L[i]? = some (0, x)) (hd : decode cc pc = .ok (.iload i, 2)) (k : az_AW Z nL (pc + 2) L ((0, x) :: st) σ T) : az_AW Z nL pc L st σ T := by
  obtain ⟨p, l, e, R, s, m, args, below, meth, c, G, τ0⟩ := Z
  intro H locs ls vs hR hE hl hL hV
  obtain ⟨v, h1, w, rfl, h2⟩ := az_lget hL hi (fun q => by cases q)
  exact lv_iload C.1 C.2.1 hd h1 (k H locs ls _ hR hE hl hL ⟨⟨_, rfl, h2⟩, hV⟩)
theorem az_iloadn (C : az_C Z y cc nL ret d) {j : Fin 4} {x : Int} (hi : L[(j : Nat)]? = some (0, x)) (hd : decode cc pc = .ok (.iload_n j, 1)) (k : az_AW Z nL (pc + 1) L ((0, x) :: st) σ T) : az_AW Z nL pc L st σ T := by
  obtain ⟨p, l, e, R, s, m, args, below, meth, c, G, τ0⟩ := Z
  intro H locs ls vs hR hE hl hL hV
  obtain ⟨v, h1, w, rfl, h2⟩ := az_lget hL hi (fun q => by cases q)
  exact lv_iload_n C.1 C.2.1 hd rfl h1 (k H locs ls _ hR hE hl hL ⟨⟨_, rfl, h2⟩, hV⟩)
theorem az_lload (C : az_C Z y cc nL ret d) {i : Nat} {x : Int} (hi : L[i]? = some (1, x)) (hd : decode cc pc = .ok (.lload i, 2)) (k : az_AW Z nL (pc + 2) L ((1, x) :: st) σ T) : az_AW Z nL pc L st σ T := by
  obtain ⟨p, l, e, R, s, m, args, below, meth, c, G, τ0⟩ := Z
  intro H locs ls vs hR hE hl hL hV
  obtain ⟨v, h1, w, rfl, h2⟩ := az_lget hL hi (fun q => by cases q)
  exact lv_lload C.1 C.2.1 hd h1 (k H locs ls _ hR hE hl hL ⟨⟨_, rfl, h2⟩, hV⟩)
theorem az_lloadn (C : az_C Z y cc nL ret d) {j : Fin 4} {x : Int} (hi : L[(j : Nat)]? = some (1, x)) (hd : decode cc pc = .ok (.lload_n j, 1)) (k : az_AW Z nL (pc + 1) L ((1, x) :: st) σ T) : az_AW Z nL pc L st σ T := by
  obtain ⟨p, l, e, R, s, m, args, below, meth, c, G, τ0⟩ := Z
  intro H locs ls vs hR hE hl hL hV
  obtain ⟨v, h1, w, rfl, h2⟩ := az_lget hL hi (fun q => by cases q)
  exact lv_lload_n C.1 C.2.1 hd rfl h1 (k H locs ls _ hR hE hl hL ⟨⟨_, rfl, h2⟩, hV⟩)
/-- a reference: its tag is at least 2 and not 31; its value is a ref -/
theorem az_vref {G : az_G} {τ : az_Shp} {a : az_AV} {v : Value} (h : az_V G τ a v) (h2 : 2 ≤ a.1) (h3 : a.1 ≠ 31) : ∃ q : Nat, v = .ref q := by
  obtain ⟨t, x⟩ := a
  by_cases h4 : t = 30
  · subst h4; exact ⟨_, h⟩
  · rw [az_V_ref (by rintro rfl; simp at h2) (by rintro rfl; simp at h2) h4 h3] at h
    exact ⟨_, h.2.2.2⟩
theorem az_aload (C : az_C Z y cc nL ret d) {i : Nat} {a : az_AV} (hi : L[i]? = some a) (ha : Nat.ble 2 a.1 = true) (hb : Nat.beq a.1 31 = false) (hd : decode cc pc = .ok (.aload i, 2)) (k : az_AW Z nL (pc + 2) L (a :: st) σ T) : az_AW Z nL pc L st σ T := by
  obtain ⟨p, l, e, R, s, m, args, below, meth, c, G, τ0⟩ := Z
  intro H locs ls vs hR hE hl hL hV
  have hb' : a.1 ≠ 31 := Nat.ne_of_beq_eq_false hb
  obtain ⟨v, h1, h2⟩ := az_lget hL hi hb'
  obtain ⟨q, rfl⟩ := az_vref h2 (Nat.le_of_ble_eq_true ha) hb'
  exact lv_aload C.1 C.2.1 hd h1 (k H locs ls _ hR hE hl hL ⟨h2, hV⟩)
theorem az_aloadn (C : az_C Z y cc nL ret d) {j : Fin 4} {a : az_AV} (hi : L[(j : Nat)]? = some a) (ha : Nat.ble 2 a.1 = true) (hb : Nat.beq a.1 31 = false) (hd : decode cc pc = .ok (.aload_n j, 1)) (k : az_AW Z nL (pc + 1) L (a :: st) σ T) : az_AW Z nL pc L st σ T := by
  obtain ⟨p, l, e, R, s, m, args, below, meth, c, G, τ0⟩ := Z
  intro H locs ls vs hR hE hl hL hV
  have hb' : a.1 ≠ 31 := Nat.ne_of_beq_eq_false hb
  obtain ⟨v, h1, h2⟩ := az_lget hL hi hb'
  obtain ⟨q, rfl⟩ := az_vref h2 (Nat.le_of_ble_eq_true ha) hb'
  exact lv_aload_n C.1 C.2.1 hd rfl h1 (k H locs ls _ hR hE hl hL ⟨h2, hV⟩)
theorem az_LVlt {G : az_G} {τ : az_Shp} {ls : Array Slot} (_ : az_LV G τ nL ls L) (hi : L.length = nL) {i : Nat} {a : az_AV} (h : L[i]? = some a) : i < nL := by
  rw [← hi]; exact (List.getElem?_eq_some_iff.mp h).1
theorem az_istore (C : az_C Z y cc nL ret d) {i : Nat} {x : Int} (hi : i < nL) (hp : ∀ b : az_AV, i ≠ 0 → L[i - 1]? = some b → b.1 ≠ 1) (hd : decode cc pc = .ok (.istore i, 2)) (k : az_AW Z nL (pc + 2) (L.set i (0, x)) st σ T) : az_AW Z nL pc L ((0, x) :: st) σ T := by
  obtain ⟨p, l, e, R, s, m, args, below, meth, c, G, τ0⟩ := Z
  intro H locs ls vs hR hE hl hL hV
  obtain ⟨w, vs', rfl, hw, hV⟩ := az_vli hV
  obtain ⟨ls', e', hL'⟩ := az_store1 (a := (0, x)) hL hi ⟨w, rfl, hw⟩ rfl hp
  have kk := k H locs ls' vs' hR hE hl hL' hV
  have hexec := C.1
  have hb := C.2.1
  dsimp only at hexec hb
  intro TT hT X
  obtain ⟨t, a, b⟩ := kk TT hT X
  refine ⟨t, ?_, b⟩
  jvm_step X.here [X.here.top, ↓top_set X.here.top, hexec, hb, hd, e']
  exact a
theorem az_istoren (C : az_C Z y cc nL ret d) {j : Fin 4} {x : Int} (hi : (j : Nat) < nL) (hp : ∀ b : az_AV, (j : Nat) ≠ 0 → L[(j : Nat) - 1]? = some b → b.1 ≠ 1) (hd : decode cc pc = .ok (.istore_n j, 1)) (k : az_AW Z nL (pc + 1) (L.set (j : Nat) (0, x)) st σ T) : az_AW Z nL pc L ((0, x) :: st) σ T := by
  obtain ⟨p, l, e, R, s, m, args, below, meth, c, G, τ0⟩ := Z
  intro H locs ls vs hR hE hl hL hV
  obtain ⟨w, vs', rfl, hw, hV⟩ := az_vli hV
  obtain ⟨ls', e', hL'⟩ := az_store1 (a := (0, x)) hL hi ⟨w, rfl, hw⟩ rfl hp
  have kk := k H locs ls' vs' hR hE hl hL' hV
  have hexec := C.1
  have hb := C.2.1
  dsimp only at hexec hb
  intro TT hT X
  obtain ⟨t, a, b⟩ := kk TT hT X
  refine ⟨t, ?_, b⟩
  jvm_step X.here [X.here.top, ↓top_set X.here.top, hexec, hb, hd, e']
  exact a
theorem az_astore (C : az_C Z y cc nL ret d) {i : Nat} {a : az_AV} (ha : Nat.ble 2 a.1 = true) (h31 : Nat.beq a.1 31 = false) (hi : i < nL) (hp : ∀ b : az_AV, i ≠ 0 → L[i - 1]? = some b → b.1 ≠ 1) (hd : decode cc pc = .ok (.astore i, 2)) (k : az_AW Z nL (pc + 2) (L.set i a) st σ T) : az_AW Z nL pc L (a :: st) σ T := by
  obtain ⟨p, l, e, R, s, m, args, below, meth, c, G, τ0⟩ := Z
  intro H locs ls vs hR hE hl hL hV
  obtain ⟨v, vs', rfl, hw, hV2⟩ := az_vl1 hV
  obtain ⟨q, rfl⟩ := az_vref hw (Nat.le_of_ble_eq_true ha) (Nat.ne_of_beq_eq_false h31)
  obtain ⟨ls', e', hL'⟩ := az_store1 (a := a) hL hi hw rfl hp
  have kk := k H locs ls' vs' hR hE hl hL' hV2
  have hexec := C.1
  have hb := C.2.1
  dsimp only at hexec hb
  intro TT hT X
  obtain ⟨t, a, b⟩ := kk TT hT X
  refine ⟨t, ?_, b⟩
  jvm_step X.here [X.here.top, ↓top_set X.here.top, hexec, hb, hd, e', Value.isRef]
  exact a
theorem az_astoren (C : az_C Z y cc nL ret d) {j : Fin 4} {a : az_AV} (ha : Nat.ble 2 a.1 = true) (h31 : Nat.beq a.1 31 = false) (hi : (j : Nat) < nL) (hp : ∀ b : az_AV, (j : Nat) ≠ 0 → L[(j : Nat) - 1]? = some b → b.1 ≠ 1) (hd : decode cc pc = .ok (.astore_n j, 1)) (k : az_AW Z nL (pc + 1) (L.set (j : Nat) a) st σ T) : az_AW Z nL pc L (a :: st) σ T := by
  obtain ⟨p, l, e, R, s, m, args, below, meth, c, G, τ0⟩ := Z
  intro H locs ls vs hR hE hl hL hV
  obtain ⟨v, vs', rfl, hw, hV2⟩ := az_vl1 hV
  obtain ⟨q, rfl⟩ := az_vref hw (Nat.le_of_ble_eq_true ha) (Nat.ne_of_beq_eq_false h31)
  obtain ⟨ls', e', hL'⟩ := az_store1 (a := a) hL hi hw rfl hp
  have kk := k H locs ls' vs' hR hE hl hL' hV2
  have hexec := C.1
  have hb := C.2.1
  dsimp only at hexec hb
  intro TT hT X
  obtain ⟨t, a, b⟩ := kk TT hT X
  refine ⟨t, ?_, b⟩
  jvm_step X.here [X.here.top, ↓top_set X.here.top, hexec, hb, hd, e', Value.isRef]
  exact a
theorem az_iinc (C : az_C Z y cc nL ret d) {i : Nat} {n x v : Int} (hv : az_w32 (x + (Int32.ofInt n).toInt) = v) (hx : L[i]? = some (0, x)) (hi : i < nL) (hp : ∀ b : az_AV, i ≠ 0 → L[i - 1]? = some b → b.1 ≠ 1) (hd : decode cc pc = .ok (.iinc i n, 3)) (k : az_AW Z nL (pc + 3) (L.set i (0, v)) st σ T) : az_AW Z nL pc L st σ T := by
  subst hv
  obtain ⟨p, l, e, R, s, m, args, below, meth, c, G, τ0⟩ := Z
  intro H locs ls vs hR hE hl hL hV
  obtain ⟨v, hg, w, rfl, hw⟩ := az_lget hL hx (fun q => by cases q)
  obtain ⟨ls', e', hL'⟩ := az_store1 (a := (0, az_w32 (x + (Int32.ofInt n).toInt))) (v := .int (w + Int32.ofInt n)) hL hi ⟨_, rfl, by rw [Int32.toInt_add, hw]; rfl⟩ rfl hp
  have kk := k H locs ls' vs hR hE hl hL' hV
  have hexec := C.1
  have hb := C.2.1
  dsimp only at hexec hb
  intro TT hT X
  obtain ⟨t, a, b⟩ := kk TT hT X
  refine ⟨t, ?_, b⟩
  jvm_step X.here [X.here.top, ↓top_set X.here.top, hexec, hb, hd, hg, e']
  exact a
theorem az_iadd (C : az_C Z y cc nL ret d) {x z : Int} (hd : decode cc pc = .ok (.iadd, 1)) (k : az_AW Z nL (pc + 1) L ((0, az_w32 (x + z)) :: st) σ T) : az_AW Z nL pc L ((0, z) :: (0, x) :: st) σ T := by
  obtain ⟨p, l, e, R, s, m, args, below, meth, c, G, τ0⟩ := Z
  intro H locs ls vs hR hE hl hL hV
  obtain ⟨w2, vs1, rfl, hw2, hV⟩ := az_vli hV
  obtain ⟨w1, vs2, rfl, hw1, hV⟩ := az_vli hV
  exact lv_iadd C.1 C.2.1 hd (k H locs ls _ hR hE hl hL ⟨⟨_, rfl, by rw [Int32.toInt_add, hw1, hw2]; rfl⟩, hV⟩)
theorem az_isub (C : az_C Z y cc nL ret d) {x z : Int} (hd : decode cc pc = .ok (.isub, 1)) (k : az_AW Z nL (pc + 1) L ((0, az_w32 (x - z)) :: st) σ T) : az_AW Z nL pc L ((0, z) :: (0, x) :: st) σ T := by
  obtain ⟨p, l, e, R, s, m, args, below, meth, c, G, τ0⟩ := Z
  intro H locs ls vs hR hE hl hL hV
  obtain ⟨w2, vs1, rfl, hw2, hV⟩ := az_vli hV
  obtain ⟨w1, vs2, rfl, hw1, hV⟩ := az_vli hV
  exact lv_isub C.1 C.2.1 hd (k H locs ls _ hR hE hl hL ⟨⟨_, rfl, by rw [Int32.toInt_sub, hw1, hw2]; rfl⟩, hV⟩)
theorem az_imul (C : az_C Z y cc nL ret d) {x z : Int} (hd : decode cc pc = .ok (.imul, 1)) (k : az_AW Z nL (pc + 1) L ((0, az_w32 (x * z)) :: st) σ T) : az_AW Z nL pc L ((0, z) :: (0, x) :: st) σ T := by
  obtain ⟨p, l, e, R, s, m, args, below, meth, c, G, τ0⟩ := Z
  intro H locs ls vs hR hE hl hL hV
  obtain ⟨w2, vs1, rfl, hw2, hV⟩ := az_vli hV
  obtain ⟨w1, vs2, rfl, hw1, hV⟩ := az_vli hV
  exact lv_imul C.1 C.2.1 hd (k H locs ls _ hR hE hl hL ⟨⟨_, rfl, by rw [Int32.toInt_mul, hw1, hw2]; rfl⟩, hV⟩)
def az_iandV (x z : Int) : Int := (Int32.ofInt x &&& Int32.ofInt z).toInt
theorem az_iand (C : az_C Z y cc nL ret d) {x z : Int} (hd : decode cc pc = .ok (.iand, 1)) (k : az_AW Z nL (pc + 1) L ((0, az_iandV x z) :: st) σ T) : az_AW Z nL pc L ((0, z) :: (0, x) :: st) σ T := by
  obtain ⟨p, l, e, R, s, m, args, below, meth, c, G, τ0⟩ := Z
  intro H locs ls vs hR hE hl hL hV
  obtain ⟨w2, vs1, rfl, hw2, hV⟩ := az_vli hV
  obtain ⟨w1, vs2, rfl, hw1, hV⟩ := az_vli hV
  exact lv_iand C.1 C.2.1 hd (k H locs ls _ hR hE hl hL ⟨⟨_, rfl, by rw [← hw1, ← hw2]; simp [az_iandV]⟩, hV⟩)
def az_iorV (x z : Int) : Int := (Int32.ofInt x ||| Int32.ofInt z).toInt
theorem az_ior (C : az_C Z y cc nL ret d) {x z : Int} (hd : decode cc pc = .ok (.ior, 1)) (k : az_AW Z nL (pc + 1) L ((0, az_iorV x z) :: st) σ T) : az_AW Z nL pc L ((0, z) :: (0, x) :: st) σ T := by
  obtain ⟨p, l, e, R, s, m, args, below, meth, c, G, τ0⟩ := Z
  intro H locs ls vs hR hE hl hL hV
  obtain ⟨w2, vs1, rfl, hw2, hV⟩ := az_vli hV
  obtain ⟨w1, vs2, rfl, hw1, hV⟩ := az_vli hV
  exact lv_ior C.1 C.2.1 hd (k H locs ls _ hR hE hl hL ⟨⟨_, rfl, by rw [← hw1, ← hw2]; simp [az_iorV]⟩, hV⟩)
def az_ixorV (x z : Int) : Int := (Int32.ofInt x ^^^ Int32.ofInt z).toInt
theorem az_ixor (C : az_C Z y cc nL ret d) {x z : Int} (hd : decode cc pc = .ok (.ixor, 1)) (k : az_AW Z nL (pc + 1) L ((0, az_ixorV x z) :: st) σ T) : az_AW Z nL pc L ((0, z) :: (0, x) :: st) σ T := by
  obtain ⟨p, l, e, R, s, m, args, below, meth, c, G, τ0⟩ := Z
  intro H locs ls vs hR hE hl hL hV
  obtain ⟨w2, vs1, rfl, hw2, hV⟩ := az_vli hV
  obtain ⟨w1, vs2, rfl, hw1, hV⟩ := az_vli hV
  exact lv_ixor C.1 C.2.1 hd (k H locs ls _ hR hE hl hL ⟨⟨_, rfl, by rw [← hw1, ← hw2]; simp [az_ixorV]⟩, hV⟩)
def az_ishlV (x z : Int) : Int := (Int32.ofInt x <<< (Int32.ofInt z &&& 31)).toInt
theorem az_ishl (C : az_C Z y cc nL ret d) {x z : Int} (hd : decode cc pc = .ok (.ishl, 1)) (k : az_AW Z nL (pc + 1) L ((0, az_ishlV x z) :: st) σ T) : az_AW Z nL pc L ((0, z) :: (0, x) :: st) σ T := by
  obtain ⟨p, l, e, R, s, m, args, below, meth, c, G, τ0⟩ := Z
  intro H locs ls vs hR hE hl hL hV
  obtain ⟨w2, vs1, rfl, hw2, hV⟩ := az_vli hV
  obtain ⟨w1, vs2, rfl, hw1, hV⟩ := az_vli hV
  exact lv_ishl C.1 C.2.1 hd (k H locs ls _ hR hE hl hL ⟨⟨_, rfl, by rw [← hw1, ← hw2]; simp [az_ishlV]⟩, hV⟩)
def az_ishrV (x z : Int) : Int := (Int32.ofInt x >>> (Int32.ofInt z &&& 31)).toInt
theorem az_ishr (C : az_C Z y cc nL ret d) {x z : Int} (hd : decode cc pc = .ok (.ishr, 1)) (k : az_AW Z nL (pc + 1) L ((0, az_ishrV x z) :: st) σ T) : az_AW Z nL pc L ((0, z) :: (0, x) :: st) σ T := by
  obtain ⟨p, l, e, R, s, m, args, below, meth, c, G, τ0⟩ := Z
  intro H locs ls vs hR hE hl hL hV
  obtain ⟨w2, vs1, rfl, hw2, hV⟩ := az_vli hV
  obtain ⟨w1, vs2, rfl, hw1, hV⟩ := az_vli hV
  exact lv_ishr C.1 C.2.1 hd (k H locs ls _ hR hE hl hL ⟨⟨_, rfl, by rw [← hw1, ← hw2]; simp [az_ishrV]⟩, hV⟩)
def az_iushrV (x z : Int) : Int := ((Int32.ofInt x).toUInt32 >>> ((Int32.ofInt z).toUInt32 &&& Int32.toUInt32 31)).toInt32.toInt
theorem az_iushr (C : az_C Z y cc nL ret d) {x z : Int} (hd : decode cc pc = .ok (.iushr, 1)) (k : az_AW Z nL (pc + 1) L ((0, az_iushrV x z) :: st) σ T) : az_AW Z nL pc L ((0, z) :: (0, x) :: st) σ T := by
  obtain ⟨p, l, e, R, s, m, args, below, meth, c, G, τ0⟩ := Z
  intro H locs ls vs hR hE hl hL hV
  obtain ⟨w2, vs1, rfl, hw2, hV⟩ := az_vli hV
  obtain ⟨w1, vs2, rfl, hw1, hV⟩ := az_vli hV
  exact lv_iushr C.1 C.2.1 hd rfl (k H locs ls _ hR hE hl hL ⟨⟨_, rfl, by rw [← hw1, ← hw2]; simp [az_iushrV]⟩, hV⟩)
def az_idivV (x z : Int) : Int := (Int32.ofInt x / Int32.ofInt z).toInt
def az_iremV (x z : Int) : Int := (Int32.ofInt x - Int32.ofInt x / Int32.ofInt z * Int32.ofInt z).toInt
theorem az_ne0 {w : Int32} {z : Int} (hw : w.toInt = z) (hz : ¬ z = 0) : ¬ w = 0 := fun q => hz (by rw [← hw, q]; rfl)
theorem az_idiv (C : az_C Z y cc nL ret d) {x z : Int} {K : Int → Option α} {r : α} (h : (if z = 0 then none else K (az_idivV x z)) = some r) (hd : decode cc pc = .ok (.idiv, 1)) (k : K (az_idivV x z) = some r → az_AW Z nL (pc + 1) L ((0, az_idivV x z) :: st) σ T) : az_AW Z nL pc L ((0, z) :: (0, x) :: st) σ T := by
  have hz : ¬ z = 0 := fun q => by rw [if_pos q] at h; cases h
  rw [if_neg hz] at h
  have k := k h
  obtain ⟨p, l, e, R, s, m, args, below, meth, c, G, τ0⟩ := Z
  intro H locs ls vs hR hE hl hL hV
  obtain ⟨w2, vs1, rfl, hw2, hV⟩ := az_vli hV
  obtain ⟨w1, vs2, rfl, hw1, hV⟩ := az_vli hV
  exact lv_idiv C.1 C.2.1 hd (az_ne0 hw2 hz) (k H locs ls _ hR hE hl hL ⟨⟨_, rfl, by rw [← hw1, ← hw2]; simp [az_idivV]⟩, hV⟩)
theorem az_irem (C : az_C Z y cc nL ret d) {x z : Int} {K : Int → Option α} {r : α} (h : (if z = 0 then none else K (az_iremV x z)) = some r) (hd : decode cc pc = .ok (.irem, 1)) (k : K (az_iremV x z) = some r → az_AW Z nL (pc + 1) L ((0, az_iremV x z) :: st) σ T) : az_AW Z nL pc L ((0, z) :: (0, x) :: st) σ T := by
  have hz : ¬ z = 0 := fun q => by rw [if_pos q] at h; cases h
  rw [if_neg hz] at h
  have k := k h
  obtain ⟨p, l, e, R, s, m, args, below, meth, c, G, τ0⟩ := Z
  intro H locs ls vs hR hE hl hL hV
  obtain ⟨w2, vs1, rfl, hw2, hV⟩ := az_vli hV
  obtain ⟨w1, vs2, rfl, hw1, hV⟩ := az_vli hV
  exact lv_irem C.1 C.2.1 hd (az_ne0 hw2 hz) (k H locs ls _ hR hE hl hL ⟨⟨_, rfl, by rw [← hw1, ← hw2]; simp [az_iremV]⟩, hV⟩)
theorem az_i2l (C : az_C Z y cc nL ret d) {x : Int} (hd : decode cc pc = .ok (.i2l, 1)) (k : az_AW Z nL (pc + 1) L ((1, x) :: st) σ T) : az_AW Z nL pc L ((0, x) :: st) σ T := by
  obtain ⟨p, l, e, R, s, m, args, below, meth, c, G, τ0⟩ := Z
  intro H locs ls vs hR hE hl hL hV
  obtain ⟨w, vs1, rfl, hw, hV⟩ := az_vli hV
  exact lv_i2l C.1 C.2.1 hd rfl (k H locs ls _ hR hE hl hL ⟨⟨_, rfl, by rw [Int32.toInt_toInt64, hw]⟩, hV⟩)
theorem az_l2i (C : az_C Z y cc nL ret d) {x : Int} (hd : decode cc pc = .ok (.l2i, 1)) (k : az_AW Z nL (pc + 1) L ((0, az_w32 x) :: st) σ T) : az_AW Z nL pc L ((1, x) :: st) σ T := by
  obtain ⟨p, l, e, R, s, m, args, below, meth, c, G, τ0⟩ := Z
  intro H locs ls vs hR hE hl hL hV
  obtain ⟨w, vs1, rfl, hw, hV⟩ := az_vll hV
  exact lv_l2i C.1 C.2.1 hd rfl (k H locs ls _ hR hE hl hL ⟨⟨_, rfl, by rw [Int64.toInt_toInt32, hw]; rfl⟩, hV⟩)
def az_i2bV (x : Int) : Int := (Int32.ofInt x).toInt8.toInt32.toInt
theorem az_i2b (C : az_C Z y cc nL ret d) {x : Int} (hd : decode cc pc = .ok (.i2b, 1)) (k : az_AW Z nL (pc + 1) L ((0, az_i2bV x) :: st) σ T) : az_AW Z nL pc L ((0, x) :: st) σ T := by
  obtain ⟨p, l, e, R, s, m, args, below, meth, c, G, τ0⟩ := Z
  intro H locs ls vs hR hE hl hL hV
  obtain ⟨w, vs1, rfl, hw, hV⟩ := az_vli hV
  exact lv_i2b C.1 C.2.1 hd rfl (k H locs ls _ hR hE hl hL ⟨⟨_, rfl, by rw [← hw]; simp [az_i2bV]⟩, hV⟩)
def az_lorV (x z : Int) : Int := (Int64.ofInt x ||| Int64.ofInt z).toInt
theorem az_lor (C : az_C Z y cc nL ret d) {x z : Int} (hd : decode cc pc = .ok (.lor, 1)) (k : az_AW Z nL (pc + 1) L ((1, az_lorV x z) :: st) σ T) : az_AW Z nL pc L ((1, z) :: (1, x) :: st) σ T := by
  obtain ⟨p, l, e, R, s, m, args, below, meth, c, G, τ0⟩ := Z
  intro H locs ls vs hR hE hl hL hV
  obtain ⟨w2, vs1, rfl, hw2, hV⟩ := az_vll hV
  obtain ⟨w1, vs2, rfl, hw1, hV⟩ := az_vll hV
  exact lv_lor C.1 C.2.1 hd (k H locs ls _ hR hE hl hL ⟨⟨_, rfl, by rw [← hw1, ← hw2]; simp [az_lorV]⟩, hV⟩)
def az_lshlV (x z : Int) : Int := (Int64.ofInt x <<< ((Int32.ofInt z).toInt64 &&& 63)).toInt
def az_lshrV (x z : Int) : Int := (Int64.ofInt x >>> ((Int32.ofInt z).toInt64 &&& 63)).toInt
theorem az_lshl (C : az_C Z y cc nL ret d) {x z : Int} (hd : decode cc pc = .ok (.lshl, 1)) (k : az_AW Z nL (pc + 1) L ((1, az_lshlV x z) :: st) σ T) : az_AW Z nL pc L ((0, z) :: (1, x) :: st) σ T := by
  obtain ⟨p, l, e, R, s, m, args, below, meth, c, G, τ0⟩ := Z
  intro H locs ls vs hR hE hl hL hV
  obtain ⟨w2, vs1, rfl, hw2, hV⟩ := az_vli hV
  obtain ⟨w1, vs2, rfl, hw1, hV⟩ := az_vll hV
  exact lv_lshl C.1 C.2.1 hd rfl (k H locs ls _ hR hE hl hL ⟨⟨_, rfl, by rw [← hw1, ← hw2]; simp [az_lshlV]⟩, hV⟩)
theorem az_lshr (C : az_C Z y cc nL ret d) {x z : Int} (hd : decode cc pc = .ok (.lshr, 1)) (k : az_AW Z nL (pc + 1) L ((1, az_lshrV x z) :: st) σ T) : az_AW Z nL pc L ((0, z) :: (1, x) :: st) σ T := by
  obtain ⟨p, l, e, R, s, m, args, below, meth, c, G, τ0⟩ := Z
  intro H locs ls vs hR hE hl hL hV
  obtain ⟨w2, vs1, rfl, hw2, hV⟩ := az_vli hV
  obtain ⟨w1, vs2, rfl, hw1, hV⟩ := az_vll hV
  exact lv_lshr C.1 C.2.1 hd rfl (k H locs ls _ hR hE hl hL ⟨⟨_, rfl, by rw [← hw1, ← hw2]; simp [az_lshrV]⟩, hV⟩)
def az_lcmpV (x z : Int) : Int := if x < z then -1 else if x = z then 0 else 1
theorem az_vcat1 {G : az_G} {τ : az_Shp} {a : az_AV} {v : Value} (h : az_V G τ a v) (h1 : Nat.beq a.1 1 = false) (h31 : Nat.beq a.1 31 = false) : v.category = 1 := by
  obtain ⟨t, x⟩ := a
  by_cases h0 : t = 0
  · subst h0; obtain ⟨w, rfl, -⟩ := h; rfl
  · obtain ⟨q, rfl⟩ := az_vref h (by have := Nat.ne_of_beq_eq_false h1; simp only at this ⊢; omega) (Nat.ne_of_beq_eq_false h31)
    rfl
theorem az_dup (C : az_C Z y cc nL ret d) {a : az_AV} (h1 : Nat.beq a.1 1 = false) (h31 : Nat.beq a.1 31 = false) (hd : decode cc pc = .ok (.dup, 1)) (k : az_AW Z nL (pc + 1) L (a :: a :: st) σ T) : az_AW Z nL pc L (a :: st) σ T := by
  obtain ⟨p, l, e, R, s, m, args, below, meth, c, G, τ0⟩ := Z
  intro H locs ls vs hR hE hl hL hV
  obtain ⟨v, vs1, rfl, hv, hV2⟩ := az_vl1 hV
  exact lv_dup C.1 C.2.1 hd (az_vcat1 hv h1 h31) (k H locs ls _ hR hE hl hL ⟨hv, hv, hV2⟩)
theorem az_pop (C : az_C Z y cc nL ret d) {a : az_AV} (h1 : Nat.beq a.1 1 = false) (h31 : Nat.beq a.1 31 = false) (hd : decode cc pc = .ok (.pop, 1)) (k : az_AW Z nL (pc + 1) L st σ T) : az_AW Z nL pc L (a :: st) σ T := by
  obtain ⟨p, l, e, R, s, m, args, below, meth, c, G, τ0⟩ := Z
  intro H locs ls vs hR hE hl hL hV
  obtain ⟨v, vs1, rfl, hv, hV2⟩ := az_vl1 hV
  exact lv_pop C.1 C.2.1 hd (az_vcat1 hv h1 h31) (k H locs ls _ hR hE hl hL hV2)
theorem az_dup2 (C : az_C Z y cc nL ret d) {a b : az_AV} (h1 : Nat.beq a.1 1 = false) (h31 : Nat.beq a.1 31 = false) (g1 : Nat.beq b.1 1 = false) (g31 : Nat.beq b.1 31 = false) (hd : decode cc pc = .ok (.dup2, 1)) (k : az_AW Z nL (pc + 1) L (a :: b :: a :: b :: st) σ T) : az_AW Z nL pc L (a :: b :: st) σ T := by
  obtain ⟨p, l, e, R, s, m, args, below, meth, c, G, τ0⟩ := Z
  intro H locs ls vs hR hE hl hL hV
  obtain ⟨v, vs1, rfl, hv, hV2⟩ := az_vl1 hV
  obtain ⟨u, vs2, rfl, hu, hV3⟩ := az_vl1 hV2
  exact lv_dup2_11 C.1 C.2.1 hd (az_vcat1 hv h1 h31) (az_vcat1 hu g1 g31) (k H locs ls _ hR hE hl hL ⟨hv, hu, hv, hu, hV3⟩)
theorem az_goto (C : az_C Z y cc nL ret d) {off : Int} {tgt : Nat} (hd : decode cc pc = .ok (.goto off, 3)) (ht : (pc : Int) + off = (tgt : Int)) (k : az_AW Z nL tgt L st σ T) : az_AW Z nL pc L st σ T := by
  obtain ⟨p, l, e, R, s, m, args, below, meth, c, G, τ0⟩ := Z
  intro H locs ls vs hR hE hl hL hV
  exact lv_goto C.1 C.2.1 hd ht (k H locs ls _ hR hE hl hL hV)
theorem az_if_eq (C : az_C Z y cc nL ret d) {x : Int} {A B : Option α} {r : α} (h : (if x = 0 then A else B) = some r) {off : Int} {tgt : Nat} (hd : decode cc pc = .ok (.ifCond .eq off, 3)) (ht : (pc : Int) + off = (tgt : Int)) (kt : x = 0 → A = some r → az_AW Z nL tgt L st σ T) (kn : ¬ x = 0 → B = some r → az_AW Z nL (pc + 3) L st σ T) : az_AW Z nL pc L ((0, x) :: st) σ T := by
  have kt : x = 0 → az_AW Z nL tgt L st σ T := fun q => kt q (by rw [if_pos q] at h; exact h)
  have kn : ¬ x = 0 → az_AW Z nL (pc + 3) L st σ T := fun q => kn q (by rw [if_neg q] at h; exact h)
  obtain ⟨p, l, e, R, s, m, args, below, meth, c, G, τ0⟩ := Z
  intro H locs ls vs hR hE hl hL hV
  obtain ⟨w1, vs1, rfl, hw1, hV⟩ := az_vli hV
  refine lv_if_eq C.1 C.2.1 hd ht (fun q => kt ?_ H locs ls _ hR hE hl hL hV) (fun q => kn ?_ H locs ls _ hR hE hl hL hV)
  all_goals (
    subst hw1
    first
      | (simpa [Int32.lt_iff_toInt_lt, Int32.le_iff_toInt_le, ← Int32.toInt_inj] using q)
      | (have q2 := q; simp only [Int32.lt_iff_toInt_lt, Int32.le_iff_toInt_le, ← Int32.toInt_inj, Int32.toInt_zero, ne_eq, Int32.not_lt, Int32.not_le, gt_iff_lt, ge_iff_le] at q2 ⊢; omega))
theorem az_icmp_eq (C : az_C Z y cc nL ret d) {x z : Int} {A B : Option α} {r : α} (h : (if x = z then A else B) = some r) {off : Int} {tgt : Nat} (hd : decode cc pc = .ok (.if_icmp .eq off, 3)) (ht : (pc : Int) + off = (tgt : Int)) (kt : x = z → A = some r → az_AW Z nL tgt L st σ T) (kn : ¬ x = z → B = some r → az_AW Z nL (pc + 3) L st σ T) : az_AW Z nL pc L ((0, z) :: (0, x) :: st) σ T := by
  have kt : x = z → az_AW Z nL tgt L st σ T := fun q => kt q (by rw [if_pos q] at h; exact h)
  have kn : ¬ x = z → az_AW Z nL (pc + 3) L st σ T := fun q => kn q (by rw [if_neg q] at h; exact h)
  obtain ⟨p, l, e, R, s, m, args, below, meth, c, G, τ0⟩ := Z
  intro H locs ls vs hR hE hl hL hV
  obtain ⟨w1, vs1, rfl, hw1, hV⟩ := az_vli hV
  obtain ⟨w2, vs2, rfl, hw2, hV⟩ := az_vli hV
  refine lv_icmp_eq C.1 C.2.1 hd ht (fun q => kt ?_ H locs ls _ hR hE hl hL hV) (fun q => kn ?_ H locs ls _ hR hE hl hL hV)
  all_goals (
    subst hw1
    subst hw2
    first
      | (simpa [Int32.lt_iff_toInt_lt, Int32.le_iff_toInt_le, ← Int32.toInt_inj] using q)
      | (have q2 := q; simp only [Int32.lt_iff_toInt_lt, Int32.le_iff_toInt_le, ← Int32.toInt_inj, Int32.toInt_zero, ne_eq, Int32.not_lt, Int32.not_le, gt_iff_lt, ge_iff_le] at q2 ⊢; omega))
theorem az_if_ne (C : az_C Z y cc nL ret d) {x : Int} {A B : Option α} {r : α} (h : (if x = 0 then A else B) = some r) {off : Int} {tgt : Nat} (hd : decode cc pc = .ok (.ifCond .ne off, 3)) (ht : (pc : Int) + off = (tgt : Int)) (kt : ¬ x = 0 → B = some r → az_AW Z nL tgt L st σ T) (kn : x = 0 → A = some r → az_AW Z nL (pc + 3) L st σ T) : az_AW Z nL pc L ((0, x) :: st) σ T := by
  have kt : ¬ x = 0 → az_AW Z nL tgt L st σ T := fun q => kt q (by rw [if_neg q] at h; exact h)
  have kn : x = 0 → az_AW Z nL (pc + 3) L st σ T := fun q => kn q (by rw [if_pos q] at h; exact h)
  obtain ⟨p, l, e, R, s, m, args, below, meth, c, G, τ0⟩ := Z
  intro H locs ls vs hR hE hl hL hV
  obtain ⟨w1, vs1, rfl, hw1, hV⟩ := az_vli hV
  refine lv_if_ne C.1 C.2.1 hd ht (fun q => kt ?_ H locs ls _ hR hE hl hL hV) (fun q => kn ?_ H locs ls _ hR hE hl hL hV)
  all_goals (
    subst hw1
    first
      | (simpa [Int32.lt_iff_toInt_lt, Int32.le_iff_toInt_le, ← Int32.toInt_inj] using q)
      | (have q2 := q; simp only [Int32.lt_iff_toInt_lt, Int32.le_iff_toInt_le, ← Int32.toInt_inj, Int32.toInt_zero, ne_eq, Int32.not_lt, Int32.not_le, gt_iff_lt, ge_iff_le] at q2 ⊢; omega))
theorem az_icmp_ne (C : az_C Z y cc nL ret d) {x z : Int} {A B : Option α} {r : α} (h : (if x = z then A else B) = some r) {off : Int} {tgt : Nat} (hd : decode cc pc = .ok (.if_icmp .ne off, 3)) (ht : (pc : Int) + off = (tgt : Int)) (kt : ¬ x = z → B = some r → az_AW Z nL tgt L st σ T) (kn : x = z → A = some r → az_AW Z nL (pc + 3) L st σ T) : az_AW Z nL pc L ((0, z) :: (0, x) :: st) σ T := by
  have kt : ¬ x = z → az_AW Z nL tgt L st σ T := fun q => kt q (by rw [if_neg q] at h; exact h)
  have kn : x = z → az_AW Z nL (pc + 3) L st σ T := fun q => kn q (by rw [if_pos q] at h; exact h)
  obtain ⟨p, l, e, R, s, m, args, below, meth, c, G, τ0⟩ := Z
  intro H locs ls vs hR hE hl hL hV
  obtain ⟨w1, vs1, rfl, hw1, hV⟩ := az_vli hV
  obtain ⟨w2, vs2, rfl, hw2, hV⟩ := az_vli hV
  refine lv_icmp_ne C.1 C.2.1 hd ht (fun q => kt ?_ H locs ls _ hR hE hl hL hV) (fun q => kn ?_ H locs ls _ hR hE hl hL hV)
  all_goals (
    subst hw1
    subst hw2
    first
      | (simpa [Int32.lt_iff_toInt_lt, Int32.le_iff_toInt_le, ← Int32.toInt_inj] using q)
      | (have q2 := q; simp only [Int32.lt_iff_toInt_lt, Int32.le_iff_toInt_le, ← Int32.toInt_inj, Int32.toInt_zero, ne_eq, Int32.not_lt, Int32.not_le, gt_iff_lt, ge_iff_le] at q2 ⊢; omega))
theorem az_if_lt (C : az_C Z y cc nL ret d) {x : Int} {A B : Option α} {r : α} (h : (if x < 0 then A else B) = some r) {off : Int} {tgt : Nat} (hd : decode cc pc = .ok (.ifCond .lt off, 3)) (ht : (pc : Int) + off = (tgt : Int)) (kt : x < 0 → A = some r → az_AW Z nL tgt L st σ T) (kn : ¬ x < 0 → B = some r → az_AW Z nL (pc + 3) L st σ T) : az_AW Z nL pc L ((0, x) :: st) σ T := by
  have kt : x < 0 → az_AW Z nL tgt L st σ T := fun q => kt q (by rw [if_pos q] at h; exact h)
  have kn : ¬ x < 0 → az_AW Z nL (pc + 3) L st σ T := fun q => kn q (by rw [if_neg q] at h; exact h)
  obtain ⟨p, l, e, R, s, m, args, below, meth, c, G, τ0⟩ := Z
  intro H locs ls vs hR hE hl hL hV
  obtain ⟨w1, vs1, rfl, hw1, hV⟩ := az_vli hV
  refine lv_if_lt C.1 C.2.1 hd ht (fun q => kt ?_ H locs ls _ hR hE hl hL hV) (fun q => kn ?_ H locs ls _ hR hE hl hL hV)
  all_goals (
    subst hw1
    first
      | (simpa [Int32.lt_iff_toInt_lt, Int32.le_iff_toInt_le, ← Int32.toInt_inj] using q)
      | (have q2 := q; simp only [Int32.lt_iff_toInt_lt, Int32.le_iff_toInt_le, ← Int32.toInt_inj, Int32.toInt_zero, ne_eq, Int32.not_lt, Int32.not_le, gt_iff_lt, ge_iff_le] at q2 ⊢; omega))
theorem az_icmp_lt (C : az_C Z y cc nL ret d) {x z : Int} {A B : Option α} {r : α} (h : (if x < z then A else B) = some r) {off : Int} {tgt : Nat} (hd : decode cc pc = .ok (.if_icmp .lt off, 3)) (ht : (pc : Int) + off = (tgt : Int)) (kt : x < z → A = some r → az_AW Z nL tgt L st σ T) (kn : ¬ x < z → B = some r → az_AW Z nL (pc + 3) L st σ T) : az_AW Z nL pc L ((0, z) :: (0, x) :: st) σ T := by
  have kt : x < z → az_AW Z nL tgt L st σ T := fun q => kt q (by rw [if_pos q] at h; exact h)
  have kn : ¬ x < z → az_AW Z nL (pc + 3) L st σ T := fun q => kn q (by rw [if_neg q] at h; exact h)
  obtain ⟨p, l, e, R, s, m, args, below, meth, c, G, τ0⟩ := Z
  intro H locs ls vs hR hE hl hL hV
  obtain ⟨w1, vs1, rfl, hw1, hV⟩ := az_vli hV
  obtain ⟨w2, vs2, rfl, hw2, hV⟩ := az_vli hV
  refine lv_icmp_lt C.1 C.2.1 hd ht (fun q => kt ?_ H locs ls _ hR hE hl hL hV) (fun q => kn ?_ H locs ls _ hR hE hl hL hV)
  all_goals (
    subst hw1
    subst hw2
    first
      | (simpa [Int32.lt_iff_toInt_lt, Int32.le_iff_toInt_le, ← Int32.toInt_inj] using q)
      | (have q2 := q; simp only [Int32.lt_iff_toInt_lt, Int32.le_iff_toInt_le, ← Int32.toInt_inj, Int32.toInt_zero, ne_eq, Int32.not_lt, Int32.not_le, gt_iff_lt, ge_iff_le] at q2 ⊢; omega))
theorem az_if_ge (C : az_C Z y cc nL ret d) {x : Int} {A B : Option α} {r : α} (h : (if x < 0 then A else B) = some r) {off : Int} {tgt : Nat} (hd : decode cc pc = .ok (.ifCond .ge off, 3)) (ht : (pc : Int) + off = (tgt : Int)) (kt : ¬ x < 0 → B = some r → az_AW Z nL tgt L st σ T) (kn : x < 0 → A = some r → az_AW Z nL (pc + 3) L st σ T) : az_AW Z nL pc L ((0, x) :: st) σ T := by
  have kt : ¬ x < 0 → az_AW Z nL tgt L st σ T := fun q => kt q (by rw [if_neg q] at h; exact h)
  have kn : x < 0 → az_AW Z nL (pc + 3) L st σ T := fun q => kn q (by rw [if_pos q] at h; exact h)
  obtain ⟨p, l, e, R, s, m, args, below, meth, c, G, τ0⟩ := Z
  intro H locs ls vs hR hE hl hL hV
  obtain ⟨w1, vs1, rfl, hw1, hV⟩ := az_vli hV
  refine lv_if_ge C.1 C.2.1 hd ht (fun q => kt ?_ H locs ls _ hR hE hl hL hV) (fun q => kn ?_ H locs ls _ hR hE hl hL hV)
  all_goals (
    subst hw1
    first
      | (simpa [Int32.lt_iff_toInt_lt, Int32.le_iff_toInt_le, ← Int32.toInt_inj] using q)
      | (have q2 := q; simp only [Int32.lt_iff_toInt_lt, Int32.le_iff_toInt_le, ← Int32.toInt_inj, Int32.toInt_zero, ne_eq, Int32.not_lt, Int32.not_le, gt_iff_lt, ge_iff_le] at q2 ⊢; omega))
theorem az_icmp_ge (C : az_C Z y cc nL ret d) {x z : Int} {A B : Option α} {r : α} (h : (if x < z then A else B) = some r) {off : Int} {tgt : Nat} (hd : decode cc pc = .ok (.if_icmp .ge off, 3)) (ht : (pc : Int) + off = (tgt : Int)) (kt : ¬ x < z → B = some r → az_AW Z nL tgt L st σ T) (kn : x < z → A = some r → az_AW Z nL (pc + 3) L st σ T) : az_AW Z nL pc L ((0, z) :: (0, x) :: st) σ T := by
  have kt : ¬ x < z → az_AW Z nL tgt L st σ T := fun q => kt q (by rw [if_neg q] at h; exact h)
  have kn : x < z → az_AW Z nL (pc + 3) L st σ T := fun q => kn q (by rw [if_pos q] at h; exact h)
  obtain ⟨p, l, e, R, s, m, args, below, meth, c, G, τ0⟩ := Z
  intro H locs ls vs hR hE hl hL hV
  obtain ⟨w1, vs1, rfl, hw1, hV⟩ := az_vli hV
  obtain ⟨w2, vs2, rfl, hw2, hV⟩ := az_vli hV
  refine lv_icmp_ge C.1 C.2.1 hd ht (fun q => kt ?_ H locs ls _ hR hE hl hL hV) (fun q => kn ?_ H locs ls _ hR hE hl hL hV)
  all_goals (
    subst hw1
    subst hw2
    first
      | (simpa [Int32.lt_iff_toInt_lt, Int32.le_iff_toInt_le, ← Int32.toInt_inj] using q)
      | (have q2 := q; simp only [Int32.lt_iff_toInt_lt, Int32.le_iff_toInt_le, ← Int32.toInt_inj, Int32.toInt_zero, ne_eq, Int32.not_lt, Int32.not_le, gt_iff_lt, ge_iff_le] at q2 ⊢; omega))
theorem az_if_gt (C : az_C Z y cc nL ret d) {x : Int} {A B : Option α} {r : α} (h : (if 0 < x then A else B) = some r) {off : Int} {tgt : Nat} (hd : decode cc pc = .ok (.ifCond .gt off, 3)) (ht : (pc : Int) + off = (tgt : Int)) (kt : 0 < x → A = some r → az_AW Z nL tgt L st σ T) (kn : ¬ 0 < x → B = some r → az_AW Z nL (pc + 3) L st σ T) : az_AW Z nL pc L ((0, x) :: st) σ T := by
  have kt : 0 < x → az_AW Z nL tgt L st σ T := fun q => kt q (by rw [if_pos q] at h; exact h)
  have kn : ¬ 0 < x → az_AW Z nL (pc + 3) L st σ T := fun q => kn q (by rw [if_neg q] at h; exact h)
  obtain ⟨p, l, e, R, s, m, args, below, meth, c, G, τ0⟩ := Z
  intro H locs ls vs hR hE hl hL hV
  obtain ⟨w1, vs1, rfl, hw1, hV⟩ := az_vli hV
  refine lv_if_gt C.1 C.2.1 hd ht (fun q => kt ?_ H locs ls _ hR hE hl hL hV) (fun q => kn ?_ H locs ls _ hR hE hl hL hV)
  all_goals (
    subst hw1
    first
      | (simpa [Int32.lt_iff_toInt_lt, Int32.le_iff_toInt_le, ← Int32.toInt_inj] using q)
      | (have q2 := q; simp only [Int32.lt_iff_toInt_lt, Int32.le_iff_toInt_le, ← Int32.toInt_inj, Int32.toInt_zero, ne_eq, Int32.not_lt, Int32.not_le, gt_iff_lt, ge_iff_le] at q2 ⊢; omega))
theorem az_icmp_gt (C : az_C Z y cc nL ret d) {x z : Int} {A B : Option α} {r : α} (h : (if z < x then A else B) = some r) {off : Int} {tgt : Nat} (hd : decode cc pc = .ok (.if_icmp .gt off, 3)) (ht : (pc : Int) + off = (tgt : Int)) (kt : z < x → A = some r → az_AW Z nL tgt L st σ T) (kn : ¬ z < x → B = some r → az_AW Z nL (pc + 3) L st σ T) : az_AW Z nL pc L ((0, z) :: (0, x) :: st) σ T := by
  have kt : z < x → az_AW Z nL tgt L st σ T := fun q => kt q (by rw [if_pos q] at h; exact h)
  have kn : ¬ z < x → az_AW Z nL (pc + 3) L st σ T := fun q => kn q (by rw [if_neg q] at h; exact h)
  obtain ⟨p, l, e, R, s, m, args, below, meth, c, G, τ0⟩ := Z
  intro H locs ls vs hR hE hl hL hV
  obtain ⟨w1, vs1, rfl, hw1, hV⟩ := az_vli hV
  obtain ⟨w2, vs2, rfl, hw2, hV⟩ := az_vli hV
  refine lv_icmp_gt C.1 C.2.1 hd ht (fun q => kt ?_ H locs ls _ hR hE hl hL hV) (fun q => kn ?_ H locs ls _ hR hE hl hL hV)
  all_goals (
    subst hw1
    subst hw2
    first
      | (simpa [Int32.lt_iff_toInt_lt, Int32.le_iff_toInt_le, ← Int32.toInt_inj] using q)
      | (have q2 := q; simp only [Int32.lt_iff_toInt_lt, Int32.le_iff_toInt_le, ← Int32.toInt_inj, Int32.toInt_zero, ne_eq, Int32.not_lt, Int32.not_le, gt_iff_lt, ge_iff_le] at q2 ⊢; omega))
theorem az_if_le (C : az_C Z y cc nL ret d) {x : Int} {A B : Option α} {r : α} (h : (if 0 < x then A else B) = some r) {off : Int} {tgt : Nat} (hd : decode cc pc = .ok (.ifCond .le off, 3)) (ht : (pc : Int) + off = (tgt : Int)) (kt : ¬ 0 < x → B = some r → az_AW Z nL tgt L st σ T) (kn : 0 < x → A = some r → az_AW Z nL (pc + 3) L st σ T) : az_AW Z nL pc L ((0, x) :: st) σ T := by
  have kt : ¬ 0 < x → az_AW Z nL tgt L st σ T := fun q => kt q (by rw [if_neg q] at h; exact h)
  have kn : 0 < x → az_AW Z nL (pc + 3) L st σ T := fun q => kn q (by rw [if_pos q] at h; exact h)
  obtain ⟨p, l, e, R, s, m, args, below, meth, c, G, τ0⟩ := Z
  intro H locs ls vs hR hE hl hL hV
  obtain ⟨w1, vs1, rfl, hw1, hV⟩ := az_vli hV
  refine lv_if_le C.1 C.2.1 hd ht (fun q => kt ?_ H locs ls _ hR hE hl hL hV) (fun q => kn ?_ H locs ls _ hR hE hl hL hV)
  all_goals (
    subst hw1
    first
      | (simpa [Int32.lt_iff_toInt_lt, Int32.le_iff_toInt_le, ← Int32.toInt_inj] using q)
      | (have q2 := q; simp only [Int32.lt_iff_toInt_lt, Int32.le_iff_toInt_le, ← Int32.toInt_inj, Int32.toInt_zero, ne_eq, Int32.not_lt, Int32.not_le, gt_iff_lt, ge_iff_le] at q2 ⊢; omega))
theorem az_icmp_le (C : az_C Z y cc nL ret d) {x z : Int} {A B : Option α} {r : α} (h : (if z < x then A else B) = some r) {off : Int} {tgt : Nat} (hd : decode cc pc = .ok (.if_icmp .le off, 3)) (ht : (pc : Int) + off = (tgt : Int)) (kt : ¬ z < x → B = some r → az_AW Z nL tgt L st σ T) (kn : z < x → A = some r → az_AW Z nL (pc + 3) L st σ T) : az_AW Z nL pc L ((0, z) :: (0, x) :: st) σ T := by
  have kt : ¬ z < x → az_AW Z nL tgt L st σ T := fun q => kt q (by rw [if_neg q] at h; exact h)
  have kn : z < x → az_AW Z nL (pc + 3) L st σ T := fun q => kn q (by rw [if_pos q] at h; exact h)
  obtain ⟨p, l, e, R, s, m, args, below, meth, c, G, τ0⟩ := Z
  intro H locs ls vs hR hE hl hL hV
  obtain ⟨w1, vs1, rfl, hw1, hV⟩ := az_vli hV
  obtain ⟨w2, vs2, rfl, hw2, hV⟩ := az_vli hV
  refine lv_icmp_le C.1 C.2.1 hd ht (fun q => kt ?_ H locs ls _ hR hE hl hL hV) (fun q => kn ?_ H locs ls _ hR hE hl hL hV)
  all_goals (
    subst hw1
    subst hw2
    first
      | (simpa [Int32.lt_iff_toInt_lt, Int32.le_iff_toInt_le, ← Int32.toInt_inj] using q)
      | (have q2 := q; simp only [Int32.lt_iff_toInt_lt, Int32.le_iff_toInt_le, ← Int32.toInt_inj, Int32.toInt_zero, ne_eq, Int32.not_lt, Int32.not_le, gt_iff_lt, ge_iff_le] at q2 ⊢; omega))
end AZ2
