-- ends, the length of an END (8): the trees of classes that stand alone
def bd_rec {α : Type} (step : Int → (Int → α) → α) (d : α) : Nat → Int → α
  | 0, _ => d
  | n + 1, z => step z (bd_rec step d n)
theorem bd_rec_st {α : Type} {step : Int → (Int → α) → α} {d : α} {T : Int → Prop} {ks : Int → List Int} {ρ : Int → Nat} (hs : ∀ z h h', (∀ y, y ∈ ks z → h y = h' y) → step z h = step z h') (hk : ∀ z, T z → ∀ y, y ∈ ks z → T y ∧ ρ y < ρ z) : ∀ (n m : Nat) (z : Int), T z → ρ z < n → ρ z < m → bd_rec step d n z = bd_rec step d m z := by
  intro n
  induction n with
  | zero => intro m z _ h; omega
  | succ n ih =>
    intro m z hz hn hm
    obtain ⟨m, rfl⟩ : ∃ q, m = q + 1 := ⟨m - 1, by omega⟩
    show step z (bd_rec step d n) = step z (bd_rec step d m)
    refine hs z _ _ (fun y hy => ?_)
    have q := hk z hz y hy
    exact ih m y q.1 (by omega) (by omega)
theorem bd_rec_eq {α : Type} {step : Int → (Int → α) → α} {d : α} {T : Int → Prop} {ks : Int → List Int} {ρ : Int → Nat} (hs : ∀ z h h', (∀ y, y ∈ ks z → h y = h' y) → step z h = step z h') (hk : ∀ z, T z → ∀ y, y ∈ ks z → T y ∧ ρ y < ρ z) {z : Int} (hz : T z) (hρ : ρ z ≤ 120) : bd_rec step d 200 z = step z (bd_rec step d 200) := by
  show step z (bd_rec step d 199) = step z (bd_rec step d 200)
  refine hs z _ _ (fun y hy => ?_)
  have q := hk z hz y hy
  exact bd_rec_st hs hk 199 200 y q.1 (by omega) (by omega)
def bd_fl : List Int → (Int → List Int) → List Int
  | [], _ => []
  | a :: l, f => f a ++ bd_fl l f
theorem bd_fl_mem {f : Int → List Int} {x : Int} : ∀ l : List Int, x ∈ bd_fl l f → ∃ y, y ∈ l ∧ x ∈ f y := by
  intro l
  induction l with
  | nil => intro h; cases h
  | cons a l ih =>
    intro h
    rcases List.mem_append.mp h with h | h
    · exact ⟨a, List.mem_cons_self, h⟩
    · obtain ⟨y, y1, y2⟩ := ih h
      exact ⟨y, List.mem_cons_of_mem _ y1, y2⟩
theorem bd_fl_congr {f f' : Int → List Int} : ∀ l : List Int, (∀ y, y ∈ l → f y = f' y) → bd_fl l f = bd_fl l f' := by
  intro l
  induction l with
  | nil => intro _; rfl
  | cons a l ih =>
    intro h
    show f a ++ bd_fl l f = f' a ++ bd_fl l f'
    rw [h a List.mem_cons_self, ih (fun y hy => h y (List.mem_cons_of_mem _ hy))]
theorem bd_s_app {h : Int → Nat} : ∀ l l' : List Int, bd_s (l ++ l') h = bd_s l h + bd_s l' h := by
  intro l l'
  induction l with
  | nil => show bd_s l' h = 0 + bd_s l' h; omega
  | cons a l ih =>
    show h a + bd_s (l ++ l') h = h a + bd_s l h + bd_s l' h
    rw [ih]; omega
theorem bd_c_app {y : Int} : ∀ l l' : List Int, bd_c (l ++ l') y = bd_c l y + bd_c l' y := by
  intro l l'
  induction l with
  | nil => show bd_c l' y = 0 + bd_c l' y; omega
  | cons a l ih =>
    show (if a = y then 1 else 0) + bd_c (l ++ l') y = (if a = y then 1 else 0) + bd_c l y + bd_c l' y
    rw [ih]; omega
theorem bd_fl_s {f : Int → List Int} {h : Int → Nat} : ∀ l : List Int, bd_s (bd_fl l f) h = bd_s l (fun y => bd_s (f y) h) := by
  intro l
  induction l with
  | nil => rfl
  | cons a l ih =>
    show bd_s (f a ++ bd_fl l f) h = bd_s (f a) h + bd_s l (fun y => bd_s (f y) h)
    rw [bd_s_app, ih]
theorem bd_fl_len {f : Int → List Int} : ∀ l : List Int, (bd_fl l f).length = bd_s l (fun y => (f y).length) := by
  intro l
  induction l with
  | nil => rfl
  | cons a l ih =>
    show (f a ++ bd_fl l f).length = (f a).length + bd_s l (fun y => (f y).length)
    rw [List.length_append, ih]
theorem bd_fl_c {f : Int → List Int} {y : Int} : ∀ l : List Int, bd_c (bd_fl l f) y = bd_s l (fun z => bd_c (f z) y) := by
  intro l
  induction l with
  | nil => rfl
  | cons a l ih =>
    show bd_c (f a ++ bd_fl l f) y = bd_c (f a) y + bd_s l (fun z => bd_c (f z) y)
    rw [bd_c_app, ih]
def bd_o (n : Nat) : Nat := if n = 1 then 8 else if n = 2 then 4 else 0
def bd_sF (c : Int → Nat) (ks : Int → List Int) (z : Int) (h : Int → List Int) : List Int := bd_fl (ks z) (fun y => if c y = 0 then h y else [y])
def bd_sI (c : Int → Nat) (ks : Int → List Int) (z : Int) (h : Int → Nat) : Nat := bd_s (ks z) (fun y => if c y = 0 then 1 + h y else 0)
def bd_sD (c : Int → Nat) (ks : Int → List Int) (z : Int) (h : Int → Nat) : Nat := if (ks z).length = 0 then 1 else bd_s (ks z) (fun y => if c y = 0 then h y else 0)
def bd_sO (c : Int → Nat) (ks : Int → List Int) (z : Int) (h : Int → Nat) : Nat := bd_o (ks z).length + bd_s (ks z) (fun y => if c y = 0 then h y else 0)
def bd_fr (c : Int → Nat) (ks : Int → List Int) (z : Int) : List Int := bd_rec (bd_sF c ks) [] 200 z
def bd_ii (c : Int → Nat) (ks : Int → List Int) (z : Int) : Nat := bd_rec (bd_sI c ks) 0 200 z
def bd_dd (c : Int → Nat) (ks : Int → List Int) (z : Int) : Nat := bd_rec (bd_sD c ks) 0 200 z
def bd_ov (c : Int → Nat) (ks : Int → List Int) (z : Int) : Nat := bd_rec (bd_sO c ks) 0 200 z
/-- classes, their arguments, ranks -/
def bd_W (T : Int → Prop) (ks : Int → List Int) (ρ : Int → Nat) : Prop := (∀ z, T z → ∀ y, y ∈ ks z → T y ∧ ρ y < ρ z) ∧ (∀ z, T z → ρ z ≤ 120) ∧ ∀ z, T z → (ks z).length ≤ 3
section BT
variable {T : Int → Prop} {ks : Int → List Int} {ρ : Int → Nat} {c : Int → Nat}
theorem bd_fr_eq (W : bd_W T ks ρ) {z : Int} (hz : T z) : bd_fr c ks z = bd_fl (ks z) (fun y => if c y = 0 then bd_fr c ks y else [y]) :=
  bd_rec_eq (step := bd_sF c ks) (fun z h h' e => bd_fl_congr _ (fun y hy => by rw [e y hy])) W.1 hz (W.2.1 z hz)
theorem bd_ii_eq (W : bd_W T ks ρ) {z : Int} (hz : T z) : bd_ii c ks z = bd_s (ks z) (fun y => if c y = 0 then 1 + bd_ii c ks y else 0) :=
  bd_rec_eq (step := bd_sI c ks) (fun z h h' e => bd_s_congr _ (fun y hy => by rw [e y hy])) W.1 hz (W.2.1 z hz)
theorem bd_dd_eq (W : bd_W T ks ρ) {z : Int} (hz : T z) : bd_dd c ks z = if (ks z).length = 0 then 1 else bd_s (ks z) (fun y => if c y = 0 then bd_dd c ks y else 0) :=
  bd_rec_eq (step := bd_sD c ks) (fun z h h' e => by
    unfold bd_sD
    rw [bd_s_congr _ (fun y hy => by rw [e y hy])]) W.1 hz (W.2.1 z hz)
theorem bd_ov_eq (W : bd_W T ks ρ) {z : Int} (hz : T z) : bd_ov c ks z = bd_o (ks z).length + bd_s (ks z) (fun y => if c y = 0 then bd_ov c ks y else 0) :=
  bd_rec_eq (step := bd_sO c ks) (fun z h h' e => by
    unfold bd_sO
    rw [bd_s_congr _ (fun y hy => by rw [e y hy])]) W.1 hz (W.2.1 z hz)
theorem bd_T1 (W : bd_W T ks ρ) : ∀ (n : Nat) (z : Int), ρ z < n → T z → ∀ y, y ∈ bd_fr c ks z → c y ≠ 0 ∧ T y ∧ ρ y < ρ z := by
  intro n
  induction n with
  | zero => intro z h; omega
  | succ n ih =>
    intro z hn hz y hy
    rw [bd_fr_eq W hz] at hy
    obtain ⟨x, x1, x2⟩ := bd_fl_mem _ hy
    have q := W.1 z hz x x1
    by_cases e : c x = 0
    · rw [if_pos e] at x2
      have := ih x (by omega) q.1 y x2
      exact ⟨this.1, this.2.1, by omega⟩
    · rw [if_neg e, List.mem_singleton] at x2
      subst x2
      exact ⟨e, q⟩
theorem bd_T2 (W : bd_W T ks ρ) : ∀ (n : Nat) (z : Int), ρ z < n → T z → 12 * ((bd_fr c ks z).length + bd_dd c ks z) + bd_ov c ks z ≤ 12 + 8 * (bd_ii c ks z + (bd_fr c ks z).length) := by
  intro n
  induction n with
  | zero => intro z h; omega
  | succ n ih =>
    intro z hn hz
    have l3 := W.2.2 z hz
    rw [bd_fr_eq W hz, bd_ii_eq W hz, bd_dd_eq W hz, bd_ov_eq W hz, bd_fl_len]
    have key : bd_s (ks z) (fun y => 12 * (if c y = 0 then bd_fr c ks y else [y]).length + 12 * (if c y = 0 then bd_dd c ks y else 0) + (if c y = 0 then bd_ov c ks y else 0)) ≤ bd_s (ks z) (fun y => 4 + (8 * (if c y = 0 then 1 + bd_ii c ks y else 0) + 8 * (if c y = 0 then bd_fr c ks y else [y]).length)) := bd_s_le _ (fun y hy => by
      have q := W.1 z hz y hy
      by_cases e : c y = 0
      · simp only [if_pos e]
        have := ih y (by omega) q.1
        omega
      · simp only [if_neg e, List.length_singleton]
        omega)
    simp only [bd_s_add, bd_s_mul] at key
    have k4 : bd_s (ks z) (fun _ => 4) = 4 * (ks z).length := by
      have : bd_s (ks z) (fun _ => 4) = bd_s (ks z) (fun x => 4 * (fun _ => 1) x) := rfl
      rw [this, bd_s_mul, bd_s_one]
    rw [k4] at key
    by_cases e : (ks z).length = 0
    · rw [if_pos e]
      have e0 : ks z = [] := List.length_eq_zero_iff.mp e
      rw [e0]
      simp only [bd_s, List.length_nil]
      decide
    · rw [if_neg e]
      have o : bd_o (ks z).length + 4 * (ks z).length ≤ 12 := by
        have : (ks z).length = 1 ∨ (ks z).length = 2 ∨ (ks z).length = 3 := by omega
        rcases this with q | q | q
        · rw [q]; decide
        · rw [q]; decide
        · rw [q]; decide
      omega
theorem bd_T3 (W : bd_W T ks ρ) {U : Int → Nat} (hU : ∀ z, T z → (ks z = [] → U z ≤ 12) ∧ (ks z ≠ [] → U z ≤ bd_s (ks z) U + bd_o (ks z).length)) : ∀ (n : Nat) (z : Int), ρ z < n → T z → U z ≤ bd_s (bd_fr c ks z) U + 12 * bd_dd c ks z + bd_ov c ks z := by
  intro n
  induction n with
  | zero => intro z h; omega
  | succ n ih =>
    intro z hn hz
    rw [bd_fr_eq W hz, bd_dd_eq W hz, bd_ov_eq W hz, bd_fl_s]
    by_cases e : ks z = []
    · have := (hU z hz).1 e
      rw [e]
      simp only [List.length_nil, if_true]
      omega
    · have e1 : (ks z).length ≠ 0 := fun q => e (List.length_eq_zero_iff.mp q)
      rw [if_neg e1]
      have key : bd_s (ks z) U ≤ bd_s (ks z) (fun y => bd_s (if c y = 0 then bd_fr c ks y else [y]) U + 12 * (if c y = 0 then bd_dd c ks y else 0) + (if c y = 0 then bd_ov c ks y else 0)) := bd_s_le _ (fun y hy => by
        have q := W.1 z hz y hy
        by_cases e : c y = 0
        · simp only [if_pos e]
          exact ih y (by omega) q.1
        · simp only [if_neg e, bd_s]
          omega)
      simp only [bd_s_add, bd_s_mul] at key
      have := (hU z hz).2 e
      omega
end BT
