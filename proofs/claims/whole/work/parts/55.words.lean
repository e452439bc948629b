/-! words: letters as digits to the base 27 (class) and as bytes (reference), the last letter first -/
def bz_num (B : Int) : List Int → Int
  | [] => 0
  | d :: t => bz_num B t * B + d
theorem bz_num_nn {B : Int} (hB : 0 ≤ B) : ∀ {l : List Int}, (∀ d ∈ l, 0 < d ∧ d < B) → 0 ≤ bz_num B l ∧ (l ≠ [] → 0 < bz_num B l) := by
  intro l
  induction l with
  | nil => intro _; exact ⟨Int.le_refl 0, fun h => absurd rfl h⟩
  | cons d t ih =>
    intro h
    have hd := h d (List.mem_cons_self ..)
    have ht := (ih (fun x hx => h x (List.mem_cons_of_mem _ hx))).1
    have : 0 ≤ bz_num B t * B := Int.mul_nonneg ht hB
    unfold bz_num
    constructor
    · omega
    · intro _; omega
theorem bz_num_inj {B : Int} (hB : 0 < B) : ∀ {l l' : List Int}, (∀ d ∈ l, 0 < d ∧ d < B) → (∀ d ∈ l', 0 < d ∧ d < B) → bz_num B l = bz_num B l' → l = l' := by
  intro l
  induction l with
  | nil =>
    intro l' _ h' e
    cases l' with
    | nil => rfl
    | cons d t =>
      have := (bz_num_nn (Int.le_of_lt hB) h').2 (by simp)
      have e2 : bz_num B [] = 0 := rfl
      omega
  | cons d t ih =>
    intro l' h h' e
    cases l' with
    | nil =>
      have := (bz_num_nn (Int.le_of_lt hB) h).2 (by simp)
      have e2 : bz_num B [] = 0 := rfl
      omega
    | cons d' t' =>
      have hd := h d (List.mem_cons_self ..)
      have hd' := h' d' (List.mem_cons_self ..)
      unfold bz_num at e
      have m1 : (bz_num B t * B + d) % B = d := by rw [Int.add_comm, Int.add_mul_emod_self_right]; exact Int.emod_eq_of_lt (by omega) (by omega)
      have m2 : (bz_num B t' * B + d') % B = d' := by rw [Int.add_comm, Int.add_mul_emod_self_right]; exact Int.emod_eq_of_lt (by omega) (by omega)
      have ed : d = d' := by rw [← m1, ← m2, e]
      subst ed
      have em : bz_num B t * B = bz_num B t' * B := by omega
      have et := Int.eq_of_mul_eq_mul_right (by omega) em
      rw [ih (fun x hx => h x (List.mem_cons_of_mem _ hx)) (fun x hx => h' x (List.mem_cons_of_mem _ hx)) et]
/-- bytes of a word, its last letter first: g 64 for a NAME's first letter, 96 for a WORD's -/
def bz_bys (g : Int) : List Int → List Int
  | [] => []
  | [d] => [d + g]
  | d :: e :: t => (d + 96) :: bz_bys g (e :: t)
def bz_let (l : List Int) : Prop := 0 < l.length ∧ l.length ≤ 6 ∧ ∀ d ∈ l, 1 ≤ d ∧ d ≤ 26
/-- the class's number and the reference's number of one word -/
def bz_WR (g c m : Int) : Prop := ∃ l, bz_let l ∧ c = bz_num 27 l ∧ m = bz_num 256 (bz_bys g l)
theorem bz_bys_inj {g : Int} : ∀ {l l' : List Int}, bz_bys g l = bz_bys g l' → (∀ d ∈ l, 1 ≤ d ∧ d ≤ 26) → (∀ d ∈ l', 1 ≤ d ∧ d ≤ 26) → l = l' := by
  intro l
  induction l with
  | nil =>
    intro l' e _ _
    cases l' with
    | nil => rfl
    | cons d t => cases t <;> simp [bz_bys] at e
  | cons d t ih =>
    intro l' e h h'
    cases l' with
    | nil => cases t <;> simp [bz_bys] at e
    | cons d' t' =>
      cases t with
      | nil =>
        cases t' with
        | nil => simp [bz_bys] at e; rw [e]
        | cons x u => cases u <;> simp [bz_bys] at e
      | cons y w =>
        cases t' with
        | nil => cases w <;> simp [bz_bys] at e
        | cons x u =>
          simp only [bz_bys, List.cons.injEq] at e
          have := ih e.2 (fun q hq => h q (List.mem_cons_of_mem _ hq)) (fun q hq => h' q (List.mem_cons_of_mem _ hq))
          rw [this]
          have : d = d' := by omega
          rw [this]
theorem bz_bys_rng {g : Int} (hg : g = 64 ∨ g = 96) : ∀ {l : List Int}, (∀ d ∈ l, 1 ≤ d ∧ d ≤ 26) → ∀ d ∈ bz_bys g l, 0 < d ∧ d < 256 := by
  intro l
  induction l with
  | nil => intro _ d hd; simp [bz_bys] at hd
  | cons x t ih =>
    intro h d hd
    have hx := h x (List.mem_cons_self ..)
    cases t with
    | nil => simp [bz_bys] at hd; omega
    | cons y u =>
      simp only [bz_bys, List.mem_cons] at hd
      rcases hd with rfl | hd
      · omega
      · exact ih (fun q hq => h q (List.mem_cons_of_mem _ hq)) d (by simpa [bz_bys] using hd)
theorem bz_WR.inj {g c m c' m' : Int} (hg : g = 64 ∨ g = 96) (h : bz_WR g c m) (h' : bz_WR g c' m') : c = c' ↔ m = m' := by
  obtain ⟨l, hl, e1, e2⟩ := h
  obtain ⟨l', hl', e1', e2'⟩ := h'
  constructor
  · intro e
    have : l = l' := bz_num_inj (by omega) (fun d hd => by have := hl.2.2 d hd; omega) (fun d hd => by have := hl'.2.2 d hd; omega) (e1.symm.trans (e.trans e1'))
    rw [e2, e2', this]
  · intro e
    have := bz_num_inj (by omega) (bz_bys_rng hg hl.2.2) (bz_bys_rng hg hl'.2.2) (e2.symm.trans (e.trans e2'))
    rw [e1, e1', bz_bys_inj this hl.2.2 hl'.2.2]
theorem bz_num_le {B : Int} (hB : 1 ≤ B) : ∀ {l : List Int}, (∀ d ∈ l, 1 ≤ d ∧ d < B) → bz_num B l < B ^ l.length := by
  intro l
  induction l with
  | nil => intro _; show (0 : Int) < B ^ 0; rw [Int.pow_zero]; decide
  | cons d t ih =>
    intro h
    have hd := h d (List.mem_cons_self ..)
    have ht := ih (fun x hx => h x (List.mem_cons_of_mem _ hx))
    unfold bz_num
    rw [List.length_cons, Int.pow_succ]
    have : (bz_num B t + 1) * B ≤ B ^ t.length * B := Int.mul_le_mul_of_nonneg_right (by omega) (by omega)
    rw [Int.add_mul] at this
    omega
theorem bz_WR.rng {g c m : Int} (h : bz_WR g c m) : 0 < c ∧ c < 387420489 := by
  obtain ⟨l, hl, e1, e2⟩ := h
  have h1 := (bz_num_nn (B := 27) (by omega) (l := l) (fun d hd => by have := hl.2.2 d hd; omega)).2 (by intro e; have := hl.1; rw [e] at this; simp at this)
  have h2 := bz_num_le (B := 27) (by omega) (l := l) (fun d hd => by have := hl.2.2 d hd; omega)
  refine ⟨by omega, ?_⟩
  have h3 : (27 : Int) ^ l.length ≤ 27 ^ 6 := by
    have hl6 := hl.2.1
    have : l.length = 0 ∨ l.length = 1 ∨ l.length = 2 ∨ l.length = 3 ∨ l.length = 4 ∨ l.length = 5 ∨ l.length = 6 := by omega
    rcases this with e | e | e | e | e | e | e <;> (rw [e]; decide)
  have h4 : (27 : Int) ^ 6 = 387420489 := by decide
  omega
