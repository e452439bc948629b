-- ends, the length of an END (3): sums over lists
def bd_s : List Int → (Int → Nat) → Nat
  | [], _ => 0
  | a :: l, h => h a + bd_s l h
def bd_c : List Int → Int → Nat
  | [], _ => 0
  | a :: l, y => (if a = y then 1 else 0) + bd_c l y
theorem bd_s_add {h k : Int → Nat} : ∀ l : List Int, bd_s l (fun z => h z + k z) = bd_s l h + bd_s l k := by
  intro l
  induction l with
  | nil => rfl
  | cons a l ih => simp only [bd_s, ih]; omega
theorem bd_s_mul {h : Int → Nat} {t : Nat} : ∀ l : List Int, bd_s l (fun z => t * h z) = t * bd_s l h := by
  intro l
  induction l with
  | nil => rfl
  | cons a l ih => simp only [bd_s, ih, Nat.mul_add]
theorem bd_s_congr {h k : Int → Nat} : ∀ l : List Int, (∀ z, z ∈ l → h z = k z) → bd_s l h = bd_s l k := by
  intro l
  induction l with
  | nil => intro _; rfl
  | cons a l ih =>
    intro H
    simp only [bd_s]
    rw [H a (List.mem_cons_self), ih (fun z hz => H z (List.mem_cons_of_mem _ hz))]
theorem bd_s_le {h k : Int → Nat} : ∀ l : List Int, (∀ z, z ∈ l → h z ≤ k z) → bd_s l h ≤ bd_s l k := by
  intro l
  induction l with
  | nil => intro _; exact Nat.le_refl _
  | cons a l ih =>
    intro H
    simp only [bd_s]
    exact Nat.add_le_add (H a List.mem_cons_self) (ih (fun z hz => H z (List.mem_cons_of_mem _ hz)))
theorem bd_s_mem {h : Int → Nat} {z : Int} : ∀ l : List Int, z ∈ l → h z ≤ bd_s l h := by
  intro l
  induction l with
  | nil => intro hz; cases hz
  | cons a l ih =>
    intro hz
    simp only [bd_s]
    rcases List.mem_cons.mp hz with rfl | hz
    · omega
    · have := ih hz; omega
theorem bd_s_one : ∀ l : List Int, bd_s l (fun _ => 1) = l.length := by
  intro l
  induction l with
  | nil => rfl
  | cons a l ih => simp only [bd_s, ih, List.length_cons]; omega
theorem bd_c_not {y : Int} : ∀ l : List Int, y ∉ l → bd_c l y = 0 := by
  intro l
  induction l with
  | nil => intro _; rfl
  | cons a l ih =>
    intro h
    simp only [bd_c]
    rw [ih (fun q => h (List.mem_cons_of_mem _ q)), if_neg (fun q => h (by rw [q]; exact List.mem_cons_self))]
theorem bd_c_mem {y : Int} : ∀ l : List Int, y ∈ l → 1 ≤ bd_c l y := by
  intro l
  induction l with
  | nil => intro h; cases h
  | cons a l ih =>
    intro h
    simp only [bd_c]
    rcases List.mem_cons.mp h with rfl | h
    · rw [if_pos rfl]; omega
    · have := ih h; omega
-- one value out of a list without repetition
theorem bd_s_pick {h : Int → Nat} {y : Int} : ∀ l : List Int, l.Nodup → y ∈ l → bd_s l (fun z => (if y = z then 1 else 0) * h z) = h y := by
  intro l
  induction l with
  | nil => intro _ hy; cases hy
  | cons a l ih =>
    intro hn hy
    rw [List.nodup_cons] at hn
    simp only [bd_s]
    rcases List.mem_cons.mp hy with rfl | hy'
    · have : bd_s l (fun z => (if y = z then 1 else 0) * h z) = bd_s l (fun _ => 0) := bd_s_congr l (fun z hz => by
        have ne : y ≠ z := fun q => hn.1 (by rw [q]; exact hz)
        rw [if_neg ne, Nat.zero_mul])
      have z0 : ∀ k : List Int, bd_s k (fun _ => 0) = 0 := by
        intro k
        induction k with
        | nil => rfl
        | cons _ _ ih2 => simp only [bd_s, ih2]
      rw [this, z0, if_pos rfl, Nat.one_mul, Nat.add_zero]
    · have ne : y ≠ a := fun q => hn.1 (by rw [← q]; exact hy')
      rw [if_neg ne, Nat.zero_mul, Nat.zero_add, ih hn.2 hy']
-- the exchange: a sum over a list by how often each stands in it
theorem bd_ex {h : Int → Nat} {R : List Int} (hn : R.Nodup) : ∀ l : List Int, (∀ z, z ∈ l → z ∈ R) → bd_s R (fun z => bd_c l z * h z) = bd_s l h := by
  intro l
  induction l with
  | nil =>
    intro _
    have : bd_s R (fun z => bd_c [] z * h z) = bd_s R (fun _ => 0) := bd_s_congr R (fun z _ => by simp only [bd_c, Nat.zero_mul])
    have z0 : ∀ k : List Int, bd_s k (fun _ => 0) = 0 := by
      intro k
      induction k with
      | nil => rfl
      | cons _ _ ih2 => simp only [bd_s, ih2]
    rw [this, z0]
    rfl
  | cons a l ih =>
    intro H
    have e : bd_s R (fun z => bd_c (a :: l) z * h z) = bd_s R (fun z => (if a = z then 1 else 0) * h z + bd_c l z * h z) := bd_s_congr R (fun z _ => by simp only [bd_c, Nat.add_mul])
    rw [e, bd_s_add, bd_s_pick R hn (H a List.mem_cons_self), ih (fun z hz => H z (List.mem_cons_of_mem _ hz))]
    rfl
theorem bd_ex1 {R : List Int} (hn : R.Nodup) (l : List Int) (H : ∀ z, z ∈ l → z ∈ R) : bd_s R (bd_c l) = l.length := by
  have := bd_ex (h := fun _ => 1) hn l H
  rw [bd_s_one] at this
  rw [← this]
  exact bd_s_congr R (fun z _ => by rw [Nat.mul_one])
