-- ends, the length of an END (7): places of a graph
noncomputable def bd_i (P : Prop) : Nat := @ite Nat P (Classical.propDecidable P) 1 0
theorem bd_i_pos {P : Prop} (h : P) : bd_i P = 1 := by unfold bd_i; rw [if_pos h]
theorem bd_i_neg {P : Prop} (h : ¬ P) : bd_i P = 0 := by unfold bd_i; rw [if_neg h]
theorem bd_i_le {P : Prop} : bd_i P ≤ 1 := by
  by_cases h : P
  · rw [bd_i_pos h]; exact Nat.le_refl _
  · rw [bd_i_neg h]; exact Nat.zero_le _
theorem bd_i_iff {P Q : Prop} (h : P ↔ Q) : bd_i P = bd_i Q := by rw [propext h]
theorem bd_i_get {P : Prop} (h : bd_i P ≠ 0) : P := by
  by_cases q : P
  · exact q
  · exact absurd (bd_i_neg q) h
theorem bd_s_0 : ∀ l : List Int, bd_s l (fun _ => 0) = 0 := by
  intro l
  induction l with
  | nil => rfl
  | cons a l ih => simp only [bd_s, ih]
theorem bd_s_zero {h : Int → Nat} (l : List Int) (H : ∀ x, x ∈ l → h x = 0) : bd_s l h = 0 := by
  rw [bd_s_congr l H]
  exact bd_s_0 l
theorem bd_s_ex {h : Int → Nat} : ∀ l : List Int, bd_s l h ≠ 0 → ∃ x, x ∈ l ∧ h x ≠ 0 := by
  intro l
  induction l with
  | nil => intro q; exact absurd rfl q
  | cons a l ih =>
    intro q
    simp only [bd_s] at q
    by_cases e : h a = 0
    · obtain ⟨x, x1, x2⟩ := ih (by omega)
      exact ⟨x, List.mem_cons_of_mem _ x1, x2⟩
    · exact ⟨a, List.mem_cons_self, e⟩
theorem bd_swap {F : Int → Int → Nat} (l' : List Int) : ∀ l : List Int, bd_s l (fun p => bd_s l' (fun z => F p z)) = bd_s l' (fun z => bd_s l (fun p => F p z)) := by
  intro l
  induction l with
  | nil => exact (bd_s_0 l').symm
  | cons a l ih =>
    simp only [bd_s]
    rw [ih, ← bd_s_add]
theorem bd_rg3 {h : Int → Nat} : ∀ n : Nat, bd_s (bd_rg (3 * n)) h = bd_s (bd_rg n) (fun x => h (3 * x) + h (3 * x + 1) + h (3 * x + 2)) := by
  intro n
  induction n with
  | zero => rfl
  | succ n ih =>
    rw [show 3 * (n + 1) = 3 * n + 1 + 1 + 1 by omega]
    simp only [bd_rg, bd_s]
    rw [ih]
    have e1 : ((3 * n : Nat) : Int) = 3 * (n : Int) := by push_cast; omega
    have e2 : ((3 * n + 1 : Nat) : Int) = 3 * (n : Int) + 1 := by push_cast; omega
    have e3 : ((3 * n + 1 + 1 : Nat) : Int) = 3 * (n : Int) + 2 := by push_cast; omega
    rw [e1, e2, e3]
    omega
def bd_pl (g : dz_G) (p : Int) : Prop := ¬ dz_iv g (p / 3) ∧ p % 3 < dz_ar g (p / 3)
def bd_kc (g : dz_G) (up : Int → Int) (p : Int) : Int := dz_tp up (dz_kd g (p / 3) (p % 3))
def bd_P3 (g : dz_G) : List Int := bd_rg (3 * (dz_N g).toNat)
def bd_mkd (g : dz_G) (up : Int → Int) (y : Int) : Prop := ∃ x, dz_In (dz_N g) x ∧ dz_tp up x = y ∧ x ≠ y ∧ ¬ dz_iv g x
noncomputable def bd_cA (g : dz_G) (up : Int → Int) (y : Int) : Nat := bd_s (bd_P3 g) (fun p => bd_i (bd_pl g p ∧ bd_kc g up p = y))
noncomputable def bd_cN (g : dz_G) (up : Int → Int) (y : Int) : Nat := bd_s (bd_P3 g) (fun p => bd_i (bd_pl g p ∧ bd_kc g up p = y ∧ dz_tp up (p / 3) ≠ p / 3))
noncomputable def bd_cU (g : dz_G) (up : Int → Int) (y : Int) : Nat := bd_s (bd_P3 g) (fun p => bd_i (bd_pl g p ∧ bd_kc g up p = y ∧ dz_tp up (p / 3) = p / 3 ∧ ¬ bd_mkd g up (p / 3)))
noncomputable def bd_cM (g : dz_G) (up : Int → Int) (y : Int) : Nat := bd_s (bd_P3 g) (fun p => bd_i (bd_pl g p ∧ bd_kc g up p = y ∧ dz_tp up (p / 3) = p / 3 ∧ bd_mkd g up (p / 3)))
noncomputable def bd_cls (g : dz_G) (up : Int → Int) (y : Int) : List Int := (bd_rg (dz_N g).toNat).filter (fun x => @decide (dz_tp up x = y) (Classical.propDecidable _))
theorem bd_cA_eq {g : dz_G} {up : Int → Int} {y : Int} : bd_cA g up y = bd_cN g up y + bd_cU g up y + bd_cM g up y := by
  unfold bd_cA bd_cN bd_cU bd_cM
  rw [← bd_s_add, ← bd_s_add]
  refine bd_s_congr _ (fun p _ => ?_)
  by_cases h : bd_pl g p ∧ bd_kc g up p = y
  · by_cases t : dz_tp up (p / 3) = p / 3
    · by_cases m : bd_mkd g up (p / 3)
      · rw [bd_i_pos h, bd_i_neg (fun q => q.2.2 t), bd_i_neg (fun q => q.2.2.2 m), bd_i_pos ⟨h.1, h.2, t, m⟩]
      · rw [bd_i_pos h, bd_i_neg (fun q => q.2.2 t), bd_i_pos ⟨h.1, h.2, t, m⟩, bd_i_neg (fun q => m q.2.2.2)]
    · rw [bd_i_pos h, bd_i_pos ⟨h.1, h.2, t⟩, bd_i_neg (fun q => t q.2.2.1), bd_i_neg (fun q => t q.2.2.1)]
  · rw [bd_i_neg h, bd_i_neg (fun q => h ⟨q.1, q.2.1⟩), bd_i_neg (fun q => h ⟨q.1, q.2.1⟩), bd_i_neg (fun q => h ⟨q.1, q.2.1⟩)]
theorem bd_cls_mem {g : dz_G} {up : Int → Int} {y x : Int} (hN : 0 ≤ dz_N g) : x ∈ bd_cls g up y ↔ dz_In (dz_N g) x ∧ dz_tp up x = y := by
  unfold bd_cls
  rw [List.mem_filter, bd_rg_mem]
  constructor
  · rintro ⟨⟨h1, h2⟩, h3⟩
    exact ⟨⟨h1, by omega⟩, @of_decide_eq_true _ (Classical.propDecidable _) h3⟩
  · rintro ⟨⟨h1, h2⟩, h3⟩
    exact ⟨⟨h1, by omega⟩, @decide_eq_true _ (Classical.propDecidable _) h3⟩
theorem bd_cls_nd {g : dz_G} {up : Int → Int} {y : Int} : (bd_cls g up y).Nodup := (bd_rg_nd _).filter _
theorem bd_P3_mem {g : dz_G} {p : Int} (hN : 0 ≤ dz_N g) : p ∈ bd_P3 g ↔ (0 ≤ p ∧ p < 3 * dz_N g) := by
  unfold bd_P3
  rw [bd_rg_mem]
  constructor
  · rintro ⟨h1, h2⟩
    exact ⟨h1, by push_cast at h2; omega⟩
  · rintro ⟨h1, h2⟩
    exact ⟨h1, by push_cast; omega⟩
theorem bd_at {g : dz_G} (hg : dz_ok g) {up : Int → Int} {x k : Int} (hx : dz_In (dz_N g) x) (nx : ¬ dz_iv g x) (k0 : 0 ≤ k) (k1 : k < dz_ar g x) : 3 * x + k ∈ bd_P3 g ∧ (3 * x + k) / 3 = x ∧ (3 * x + k) % 3 = k ∧ bd_pl g (3 * x + k) ∧ bd_kc g up (3 * x + k) = dz_tp up (dz_kd g x k) := by
  have h3 := (hg.2.2.1 x hx nx).2.1
  have e1 : (3 * x + k) / 3 = x := by omega
  have e2 : (3 * x + k) % 3 = k := by omega
  refine ⟨(bd_P3_mem hg.1).mpr ⟨by have := hx.1; omega, by have := hx.2; omega⟩, e1, e2, ?_, ?_⟩
  · unfold bd_pl
    rw [e1, e2]
    exact ⟨nx, k1⟩
  · unfold bd_kc
    rw [e1, e2]
theorem bd_plx {g : dz_G} (hg : dz_ok g) {p : Int} (hp : p ∈ bd_P3 g) (h : bd_pl g p) : dz_In (dz_N g) (p / 3) ∧ ¬ dz_iv g (p / 3) ∧ 0 ≤ p % 3 ∧ p % 3 < dz_ar g (p / 3) ∧ dz_In (dz_N g) (dz_kd g (p / 3) (p % 3)) ∧ p = 3 * (p / 3) + p % 3 := by
  have q := (bd_P3_mem hg.1).mp hp
  have ix : dz_In (dz_N g) (p / 3) := ⟨by omega, by omega⟩
  exact ⟨ix, h.1, by omega, h.2, (hg.2.2.1 _ ix h.1).2.2 _ (by omega) h.2, by omega⟩
/-- the top of a node that is no VARIABLE leads where it leads -/
theorem bd_tpk {g : dz_G} (hg : dz_ok g) {a b : Int} {up : Int → Int} (hI : dz_Inv g (dz_Cl g a b) a b up (fun _ _ => False)) {x k : Int} (hx : dz_In (dz_N g) x) (nx : ¬ dz_iv g x) (k0 : 0 ≤ k) (k1 : k < dz_ar g x) : dz_In (dz_N g) (dz_tp up x) ∧ ¬ dz_iv g (dz_tp up x) ∧ dz_ar g (dz_tp up x) = dz_ar g x ∧ dz_tp up (dz_kd g (dz_tp up x) k) = dz_tp up (dz_kd g x k) := by
  have hU := hI.1
  have t := hU.top hx
  have n := hI.2.2.2.1 x hx nx
  have ea := hg.2.2.2 x (dz_tp up x) hx t.2 nx n.1 n.2.symm
  refine ⟨t.2, n.1, ea.symm, ?_⟩
  rcases hI.fin'.1 x (dz_tp up x) hx t.2 (Or.inr ⟨hx, t.2, (hU.tt hx).symm⟩) nx n.1 n.2.symm k k0 k1 with q | q
  · rw [q]
  · exact q.2.2.symm
theorem bd_F1 {g : dz_G} (hg : dz_ok g) {a b : Int} {up : Int → Int} (hI : dz_Inv g (dz_Cl g a b) a b up (fun _ _ => False)) (ha : dz_In (dz_N g) a) (hb : dz_In (dz_N g) b) {y : Int} (hy : y ≠ dz_tp up a) : (bd_cls g up y).length ≤ bd_cN g up y + 1 := by
  have h := bd_S hg hI hy ha hb bd_cls_nd (fun x hx => (bd_cls_mem hg.1).mp hx) (E := ((bd_P3 g).filter (fun p => @decide (bd_pl g p ∧ bd_kc g up p = y ∧ dz_tp up (p / 3) ≠ p / 3) (Classical.propDecidable _))).map (fun p => (dz_kd g (p / 3) (p % 3), dz_kd g (dz_tp up (p / 3)) (p % 3)))) (fun x k hx nx tx k0 k1 e => by
    obtain ⟨a1, a2, a3, a4, a5⟩ := bd_at (up := up) hg hx nx k0 k1
    refine List.mem_map.mpr ⟨3 * x + k, List.mem_filter.mpr ⟨a1, @decide_eq_true _ (Classical.propDecidable _) ⟨a4, by rw [a5]; exact e, by rw [a2]; exact tx⟩⟩, by rw [a2, a3]⟩)
  rw [List.length_map, ← bd_s_ind] at h
  unfold bd_cN
  rw [bd_s_congr (k := fun p => bd_i (bd_pl g p ∧ bd_kc g up p = y ∧ dz_tp up (p / 3) ≠ p / 3)) (bd_P3 g) (fun p _ => by
    by_cases q : bd_pl g p ∧ bd_kc g up p = y ∧ dz_tp up (p / 3) ≠ p / 3
    · rw [if_pos (@decide_eq_true _ (Classical.propDecidable _) q), bd_i_pos q]
    · rw [if_neg (fun w => q (@of_decide_eq_true _ (Classical.propDecidable _) w)), bd_i_neg q])] at h
  exact h
/-- a non-canonical place has its canonical one, whose class is marked -/
theorem bd_F2 {g : dz_G} (hg : dz_ok g) {a b : Int} {up : Int → Int} (hI : dz_Inv g (dz_Cl g a b) a b up (fun _ _ => False)) {y : Int} (h : bd_cN g up y ≠ 0) : 1 ≤ bd_cM g up y := by
  obtain ⟨p, p1, p2⟩ := bd_s_ex _ h
  obtain ⟨q1, q2, q3⟩ := bd_i_get p2
  obtain ⟨b1, b2, b3, b4, b5, b6⟩ := bd_plx hg p1 q1
  obtain ⟨c1, c2, c3, c4⟩ := bd_tpk hg hI b1 b2 b3 b4
  obtain ⟨a1, a2, a3, a4, a5⟩ := bd_at (up := up) hg c1 c2 b3 (by rw [c3]; exact b4)
  have z : bd_i (bd_pl g (3 * dz_tp up (p / 3) + p % 3) ∧ bd_kc g up (3 * dz_tp up (p / 3) + p % 3) = y ∧ dz_tp up ((3 * dz_tp up (p / 3) + p % 3) / 3) = (3 * dz_tp up (p / 3) + p % 3) / 3 ∧ bd_mkd g up ((3 * dz_tp up (p / 3) + p % 3) / 3)) = 1 := bd_i_pos ⟨a4, by rw [a5, c4]; exact q2, by rw [a2]; exact hI.1.tt b1, by rw [a2]; exact ⟨p / 3, b1, rfl, fun w => q3 w.symm, b2⟩⟩
  have := bd_s_mem (h := fun p => bd_i (bd_pl g p ∧ bd_kc g up p = y ∧ dz_tp up (p / 3) = p / 3 ∧ bd_mkd g up (p / 3))) (bd_P3 g) a1
  unfold bd_cM
  omega
/-- each place of a marked class has a partner -/
theorem bd_F3 {g : dz_G} (hg : dz_ok g) {a b : Int} {up : Int → Int} (hI : dz_Inv g (dz_Cl g a b) a b up (fun _ _ => False)) {y : Int} : bd_cM g up y ≤ bd_cN g up y := by
  have ch : ∀ z, ∃ x, bd_mkd g up z → (dz_In (dz_N g) x ∧ dz_tp up x = z ∧ x ≠ z ∧ ¬ dz_iv g x) := fun z => by
    by_cases q : bd_mkd g up z
    · obtain ⟨x, hx⟩ := q
      exact ⟨x, fun _ => hx⟩
    · exact ⟨0, fun w => absurd w q⟩
  obtain ⟨pt, hpt⟩ := Classical.axiomOfChoice ch
  have key : bd_s ((bd_P3 g).filter (fun p => @decide (bd_pl g p ∧ bd_kc g up p = y ∧ dz_tp up (p / 3) = p / 3 ∧ bd_mkd g up (p / 3)) (Classical.propDecidable _))) (fun p => bd_i (bd_pl g p ∧ bd_kc g up p = y ∧ dz_tp up (p / 3) = p / 3 ∧ bd_mkd g up (p / 3))) ≤ bd_cN g up y := by
    have get : ∀ p, p ∈ (bd_P3 g).filter (fun p => @decide (bd_pl g p ∧ bd_kc g up p = y ∧ dz_tp up (p / 3) = p / 3 ∧ bd_mkd g up (p / 3)) (Classical.propDecidable _)) → p ∈ bd_P3 g ∧ bd_pl g p ∧ bd_kc g up p = y ∧ dz_tp up (p / 3) = p / 3 ∧ bd_mkd g up (p / 3) := fun p hp => by
      have w := List.mem_filter.mp hp
      exact ⟨w.1, @of_decide_eq_true _ (Classical.propDecidable _) w.2⟩
    have par : ∀ p, p ∈ bd_P3 g ∧ bd_pl g p ∧ bd_kc g up p = y ∧ dz_tp up (p / 3) = p / 3 ∧ bd_mkd g up (p / 3) → (3 * pt (p / 3) + p % 3 ∈ bd_P3 g ∧ (3 * pt (p / 3) + p % 3) / 3 = pt (p / 3) ∧ (3 * pt (p / 3) + p % 3) % 3 = p % 3 ∧ bd_pl g (3 * pt (p / 3) + p % 3) ∧ bd_kc g up (3 * pt (p / 3) + p % 3) = y) ∧ dz_tp up (pt (p / 3)) = p / 3 ∧ pt (p / 3) ≠ p / 3 := fun p hp => by
      obtain ⟨w1, w2, w3, w4, w5⟩ := hp
      obtain ⟨b1, b2, b3, b4, b5, b6⟩ := bd_plx hg w1 w2
      obtain ⟨r1, r2, r3, r4⟩ := hpt _ w5
      have n := hI.2.2.2.1 _ r1 r4
      rw [r2] at n
      have ea := hg.2.2.2 _ _ r1 b1 r4 b2 n.2.symm
      obtain ⟨c1, c2, c3, c4⟩ := bd_tpk hg hI r1 r4 b3 (by rw [ea]; exact b4)
      obtain ⟨a1, a2, a3, a4, a5⟩ := bd_at (up := up) hg r1 r4 b3 (by rw [ea]; exact b4)
      refine ⟨⟨a1, a2, a3, a4, ?_⟩, r2, r3⟩
      rw [a5, ← c4, r2]
      exact w3
    unfold bd_cN
    refine bd_inj (φ := fun p => 3 * pt (p / 3) + p % 3) _ _ ((bd_rg_nd _).filter _) (bd_rg_nd _) (fun p hp => (par p (get p hp)).1.1) (fun p q hp hq e => ?_) (fun p hp => ?_)
    · have e' : 3 * pt (p / 3) + p % 3 = 3 * pt (q / 3) + q % 3 := e
      have u1 := par p (get p hp)
      have u2 := par q (get q hq)
      have e1 : pt (p / 3) = pt (q / 3) := by rw [← u1.1.2.1, ← u2.1.2.1, e']
      have e2 : p % 3 = q % 3 := by rw [← u1.1.2.2.1, ← u2.1.2.2.1, e']
      have e3 : p / 3 = q / 3 := by rw [← u1.2.1, ← u2.2.1, e1]
      omega
    · have u1 := par p (get p hp)
      show bd_i _ ≤ bd_i (bd_pl g (3 * pt (p / 3) + p % 3) ∧ bd_kc g up (3 * pt (p / 3) + p % 3) = y ∧ dz_tp up ((3 * pt (p / 3) + p % 3) / 3) ≠ (3 * pt (p / 3) + p % 3) / 3)
      rw [bd_i_pos (P := bd_pl g (3 * pt (p / 3) + p % 3) ∧ bd_kc g up (3 * pt (p / 3) + p % 3) = y ∧ dz_tp up ((3 * pt (p / 3) + p % 3) / 3) ≠ (3 * pt (p / 3) + p % 3) / 3) ⟨u1.1.2.2.2.1, u1.1.2.2.2.2, by rw [u1.1.2.1, u1.2.1]; exact fun w => u1.2.2 w.symm⟩]
      exact bd_i_le
  unfold bd_cM
  rw [bd_s_split (P := fun p => @decide (bd_pl g p ∧ bd_kc g up p = y ∧ dz_tp up (p / 3) = p / 3 ∧ bd_mkd g up (p / 3)) (Classical.propDecidable _)) (bd_P3 g)]
  rw [bd_s_zero ((bd_P3 g).filter (fun x => !(@decide (bd_pl g x ∧ bd_kc g up x = y ∧ dz_tp up (x / 3) = x / 3 ∧ bd_mkd g up (x / 3)) (Classical.propDecidable _)))) (fun p hp => by
    have w := (List.mem_filter.mp hp).2
    refine bd_i_neg (fun q => ?_)
    rw [@decide_eq_true _ (Classical.propDecidable _) q] at w
    exact absurd w (by decide))]
  omega
/-- a class without a VARIABLE: no more places than nodes -/
theorem bd_F4 {g : dz_G} (hg : dz_ok g) {up : Int → Int} {y : Int} (hT : ∀ x k x' k', dz_In (dz_N g) x → ¬ dz_iv g x → 0 ≤ k → k < dz_ar g x → dz_In (dz_N g) x' → ¬ dz_iv g x' → 0 ≤ k' → k' < dz_ar g x' → dz_kd g x k = dz_kd g x' k' → ¬ dz_iv g (dz_kd g x k) → x = x' ∧ k = k') (hc : ∀ x, dz_In (dz_N g) x → dz_tp up x = y → ¬ dz_iv g x) : bd_cA g up y ≤ (bd_cls g up y).length := by
  have get : ∀ p, p ∈ (bd_P3 g).filter (fun p => @decide (bd_pl g p ∧ bd_kc g up p = y) (Classical.propDecidable _)) → p ∈ bd_P3 g ∧ bd_pl g p ∧ bd_kc g up p = y := fun p hp => by
    have w := List.mem_filter.mp hp
    exact ⟨w.1, @of_decide_eq_true _ (Classical.propDecidable _) w.2⟩
  have key : bd_s ((bd_P3 g).filter (fun p => @decide (bd_pl g p ∧ bd_kc g up p = y) (Classical.propDecidable _))) (fun p => bd_i (bd_pl g p ∧ bd_kc g up p = y)) ≤ bd_s (bd_cls g up y) (fun _ => 1) := by
    refine bd_inj (φ := fun p => dz_kd g (p / 3) (p % 3)) _ _ ((bd_rg_nd _).filter _) bd_cls_nd (fun p hp => ?_) (fun p q hp hq e => ?_) (fun p hp => bd_i_le)
    · obtain ⟨w1, w2, w3⟩ := get p hp
      exact (bd_cls_mem hg.1).mpr ⟨(bd_plx hg w1 w2).2.2.2.2.1, w3⟩
    · obtain ⟨w1, w2, w3⟩ := get p hp
      obtain ⟨v1, v2, v3⟩ := get q hq
      obtain ⟨b1, b2, b3, b4, b5, b6⟩ := bd_plx hg w1 w2
      obtain ⟨c1, c2, c3, c4, c5, c6⟩ := bd_plx hg v1 v2
      have z := hT _ _ _ _ b1 b2 b3 b4 c1 c2 c3 c4 e (hc _ b5 w3)
      omega
  rw [bd_s_one] at key
  unfold bd_cA
  rw [bd_s_split (P := fun p => @decide (bd_pl g p ∧ bd_kc g up p = y) (Classical.propDecidable _)) (bd_P3 g)]
  rw [bd_s_zero ((bd_P3 g).filter (fun x => !(@decide (bd_pl g x ∧ bd_kc g up x = y) (Classical.propDecidable _)))) (fun p hp => by
    have w := (List.mem_filter.mp hp).2
    refine bd_i_neg (fun q => ?_)
    rw [@decide_eq_true _ (Classical.propDecidable _) q] at w
    exact absurd w (by decide))]
  omega
