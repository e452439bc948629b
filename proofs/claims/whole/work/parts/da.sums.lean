-- ends, the length of an END (9): sums over classes and over places
noncomputable def bd_ks (g : dz_G) (up : Int → Int) (z : Int) : List Int := @ite _ (dz_iv g z) (Classical.propDecidable _) [] ((bd_rg (dz_ar g z).toNat).map (fun k => dz_tp up (dz_kd g z k)))
theorem bd_ks_v {g : dz_G} {up : Int → Int} {z : Int} (h : dz_iv g z) : bd_ks g up z = [] := by unfold bd_ks; rw [if_pos h]
theorem bd_ks_c {g : dz_G} {up : Int → Int} {z : Int} (h : ¬ dz_iv g z) : bd_ks g up z = (bd_rg (dz_ar g z).toNat).map (fun k => dz_tp up (dz_kd g z k)) := by unfold bd_ks; rw [if_neg h]
theorem bd_ks_mem {g : dz_G} {up : Int → Int} {z y : Int} : y ∈ bd_ks g up z ↔ (¬ dz_iv g z ∧ ∃ k, 0 ≤ k ∧ k < dz_ar g z ∧ y = dz_tp up (dz_kd g z k)) := by
  by_cases h : dz_iv g z
  · rw [bd_ks_v h]
    constructor
    · intro q; cases q
    · intro q; exact absurd h q.1
  · rw [bd_ks_c h, List.mem_map]
    constructor
    · rintro ⟨k, k1, k2⟩
      have := (bd_rg_mem _).mp k1
      exact ⟨h, k, this.1, by omega, k2.symm⟩
    · rintro ⟨-, k, k0, k1, k2⟩
      exact ⟨k, (bd_rg_mem _).mpr ⟨k0, by omega⟩, k2.symm⟩
theorem bd_ks_len {g : dz_G} {up : Int → Int} {z : Int} (h : ¬ dz_iv g z) : (bd_ks g up z).length = (dz_ar g z).toNat := by
  rw [bd_ks_c h, List.length_map]
  generalize (dz_ar g z).toNat = n
  induction n with
  | zero => rfl
  | succ n ih => show (bd_rg n).length + 1 = n + 1; rw [ih]
theorem bd_ks_s {g : dz_G} (hg : dz_ok g) {up : Int → Int} {z : Int} (hz : dz_In (dz_N g) z) {h : Int → Nat} : bd_s (bd_ks g up z) h = bd_i (bd_pl g (3 * z)) * h (bd_kc g up (3 * z)) + bd_i (bd_pl g (3 * z + 1)) * h (bd_kc g up (3 * z + 1)) + bd_i (bd_pl g (3 * z + 2)) * h (bd_kc g up (3 * z + 2)) := by
  have e0 : 3 * z / 3 = z := by omega
  have e1 : (3 * z + 1) / 3 = z := by omega
  have e2 : (3 * z + 2) / 3 = z := by omega
  have f0 : 3 * z % 3 = 0 := by omega
  have f1 : (3 * z + 1) % 3 = 1 := by omega
  have f2 : (3 * z + 2) % 3 = 2 := by omega
  unfold bd_pl bd_kc
  rw [e0, e1, e2, f0, f1, f2]
  by_cases v : dz_iv g z
  · rw [bd_ks_v v, bd_i_neg (fun q => q.1 v), bd_i_neg (fun q => q.1 v), bd_i_neg (fun q => q.1 v)]
    simp only [bd_s, Nat.zero_mul]
  · have q := hg.2.2.1 z hz v
    rw [bd_ks_c v]
    have ha : dz_ar g z = 0 ∨ dz_ar g z = 1 ∨ dz_ar g z = 2 ∨ dz_ar g z = 3 := by omega
    rcases ha with e | e | e | e
    · rw [e, bd_i_neg (fun q => by have := q.2; omega), bd_i_neg (fun q => by have := q.2; omega), bd_i_neg (fun q => by have := q.2; omega)]
      simp only [Nat.zero_mul]
      rfl
    · rw [e, bd_i_pos (P := ¬ dz_iv g z ∧ (0 : Int) < 1) ⟨v, by omega⟩, bd_i_neg (fun q => by have := q.2; omega), bd_i_neg (fun q => by have := q.2; omega)]
      simp only [Nat.zero_mul, Nat.one_mul]
      rfl
    · rw [e, bd_i_pos (P := ¬ dz_iv g z ∧ (0 : Int) < 2) ⟨v, by omega⟩, bd_i_pos (P := ¬ dz_iv g z ∧ (1 : Int) < 2) ⟨v, by omega⟩, bd_i_neg (fun q => by have := q.2; omega)]
      simp only [Nat.zero_mul, Nat.one_mul]
      show h _ + (h _ + 0) = h _ + h _ + 0
      rw [Nat.add_zero, Nat.add_zero, Nat.add_comm]
      rfl
    · rw [e, bd_i_pos (P := ¬ dz_iv g z ∧ (0 : Int) < 3) ⟨v, by omega⟩, bd_i_pos (P := ¬ dz_iv g z ∧ (1 : Int) < 3) ⟨v, by omega⟩, bd_i_pos (P := ¬ dz_iv g z ∧ (2 : Int) < 3) ⟨v, by omega⟩]
      simp only [Nat.one_mul]
      show h (dz_tp up (dz_kd g z 2)) + (h (dz_tp up (dz_kd g z 1)) + (h (dz_tp up (dz_kd g z 0)) + 0)) = h (dz_tp up (dz_kd g z 0)) + h (dz_tp up (dz_kd g z 1)) + h (dz_tp up (dz_kd g z 2))
      omega
def bd_Nl (g : dz_G) : List Int := bd_rg (dz_N g).toNat
theorem bd_Nl_mem {g : dz_G} (hg : dz_ok g) {z : Int} : z ∈ bd_Nl g ↔ dz_In (dz_N g) z := by
  unfold bd_Nl
  rw [bd_rg_mem]
  have := hg.1
  constructor
  · rintro ⟨h1, h2⟩; exact ⟨h1, by omega⟩
  · rintro ⟨h1, h2⟩; exact ⟨h1, by omega⟩
theorem bd_pk {g : dz_G} (hg : dz_ok g) {up : Int → Int} {V : Int → Prop} {h : Int → Nat} : bd_s (bd_Nl g) (fun x => bd_i (V x) * bd_s (bd_ks g up x) h) = bd_s (bd_P3 g) (fun p => bd_i (bd_pl g p ∧ V (p / 3)) * h (bd_kc g up p)) := by
  unfold bd_P3
  rw [bd_rg3]
  refine bd_s_congr _ (fun x hx => ?_)
  rw [bd_ks_s hg ((bd_Nl_mem hg).mp hx)]
  have e0 : 3 * x / 3 = x := by omega
  have e1 : (3 * x + 1) / 3 = x := by omega
  have e2 : (3 * x + 2) / 3 = x := by omega
  rw [e0, e1, e2]
  by_cases v : V x
  · rw [bd_i_pos v, Nat.one_mul, bd_i_iff (P := bd_pl g (3 * x) ∧ V x) (Q := bd_pl g (3 * x)) ⟨fun q => q.1, fun q => ⟨q, v⟩⟩, bd_i_iff (P := bd_pl g (3 * x + 1) ∧ V x) (Q := bd_pl g (3 * x + 1)) ⟨fun q => q.1, fun q => ⟨q, v⟩⟩, bd_i_iff (P := bd_pl g (3 * x + 2) ∧ V x) (Q := bd_pl g (3 * x + 2)) ⟨fun q => q.1, fun q => ⟨q, v⟩⟩]
  · rw [bd_i_neg v, bd_i_neg (P := bd_pl g (3 * x) ∧ V x) (fun q => v q.2), bd_i_neg (P := bd_pl g (3 * x + 1) ∧ V x) (fun q => v q.2), bd_i_neg (P := bd_pl g (3 * x + 2) ∧ V x) (fun q => v q.2)]
    simp only [Nat.zero_mul]
theorem bd_s_mulr {h : Int → Nat} {t : Nat} (l : List Int) : bd_s l (fun z => h z * t) = bd_s l h * t := by
  rw [bd_s_congr (k := fun z => t * h z) l (fun z _ => Nat.mul_comm _ _), bd_s_mul, Nat.mul_comm]
theorem bd_xk {g : dz_G} (hg : dz_ok g) {up : Int → Int} (hU : dz_UF up (dz_N g)) {V : Int → Prop} (hV : ∀ p, V p → bd_pl g p) {h : Int → Nat} : bd_s (bd_P3 g) (fun p => bd_i (V p) * h (bd_kc g up p)) = bd_s (bd_Nl g) (fun z => bd_s (bd_P3 g) (fun p => bd_i (V p ∧ bd_kc g up p = z)) * h z) := by
  rw [bd_s_congr (k := fun z => bd_s (bd_P3 g) (fun p => bd_i (V p ∧ bd_kc g up p = z) * h z)) (bd_Nl g) (fun z _ => (bd_s_mulr _).symm), ← bd_swap]
  refine bd_s_congr _ (fun p hp => ?_)
  by_cases v : V p
  · have b := bd_plx hg hp (hV p v)
    have im : bd_kc g up p ∈ bd_Nl g := (bd_Nl_mem hg).mpr (hU.top b.2.2.2.2.1).2
    have := bd_s_pick (h := h) (bd_Nl g) (bd_rg_nd _) im
    rw [bd_i_pos v, Nat.one_mul]
    refine this.symm.trans (bd_s_congr _ (fun z _ => ?_))
    by_cases e : bd_kc g up p = z
    · rw [if_pos e, bd_i_pos ⟨v, e⟩]
    · rw [if_neg e, bd_i_neg (fun q => e q.2)]
  · rw [bd_i_neg v, Nat.zero_mul]
    exact (bd_s_zero _ (fun z _ => by rw [bd_i_neg (fun q => v q.1), Nat.zero_mul])).symm
/-- the facts of a joined graph -/
def bd_Gr (g : dz_G) (a b : Int) (up : Int → Int) (ρ : Int → Nat) : Prop :=
  (dz_ok g ∧ dz_Inv g (dz_Cl g a b) a b up (fun _ _ => False) ∧ dz_In (dz_N g) a ∧ dz_In (dz_N g) b) ∧ (dz_RK g up ρ ∧ ∀ x, ρ x ≤ 120) ∧
  (∀ x k x' k', dz_In (dz_N g) x → ¬ dz_iv g x → 0 ≤ k → k < dz_ar g x → dz_In (dz_N g) x' → ¬ dz_iv g x' → 0 ≤ k' → k' < dz_ar g x' → dz_kd g x k = dz_kd g x' k' → ¬ dz_iv g (dz_kd g x k) → x = x' ∧ k = k') ∧
  dz_Rc g a b ∧ bd_s (bd_P3 g) (fun p => bd_i (bd_pl g p)) ≤ 30
def bd_Tp (g : dz_G) (up : Int → Int) (z : Int) : Prop := dz_In (dz_N g) z ∧ dz_tp up z = z
theorem bd_Gr.W {g : dz_G} {a b : Int} {up : Int → Int} {ρ : Int → Nat} (h : bd_Gr g a b up ρ) : bd_W (bd_Tp g up) (bd_ks g up) ρ := by
  obtain ⟨⟨hg, hI, ha, hb⟩, ⟨hr, hr2⟩, hT, hR, hP⟩ := h
  have hU := hI.1
  refine ⟨fun z hz y hy => ?_, fun z _ => hr2 z, fun z hz => ?_⟩
  · obtain ⟨nv, k, k0, k1, rfl⟩ := bd_ks_mem.mp hy
    have ik := (hg.2.2.1 z hz.1 nv).2.2 k k0 k1
    have t := hU.top ik
    refine ⟨⟨t.2, hU.tt ik⟩, ?_⟩
    have uz : up z = z := by
      have := (hU.top hz.1).1
      rw [hz.2] at this
      exact this
    exact hr z hz.1 uz nv k k0 k1
  · by_cases v : dz_iv g z
    · rw [bd_ks_v v]; exact Nat.zero_le _
    · rw [bd_ks_len v]
      have := (hg.2.2.1 z hz.1 v).2.1
      omega
/-- nothing leads into the roots' class -/
theorem bd_Gr.root {g : dz_G} {a b : Int} {up : Int → Int} {ρ : Int → Nat} (h : bd_Gr g a b up ρ) {x k : Int} (hx : dz_In (dz_N g) x) (nx : ¬ dz_iv g x) (k0 : 0 ≤ k) (k1 : k < dz_ar g x) : dz_tp up (dz_kd g x k) ≠ dz_tp up a := by
  have W := h.W
  obtain ⟨⟨hg, hI, ha, hb⟩, ⟨hr, hr2⟩, hT, hR, hP⟩ := h
  have hU := hI.1
  have tab : dz_tp up a = dz_tp up b := by
    rcases hI.fin'.2 with q | q
    · rw [q]
    · exact q.2.2
  have st : ∀ x, dz_In (dz_N g) x → ¬ dz_iv g x → ∀ k, 0 ≤ k → k < dz_ar g x → ρ (dz_tp up (dz_kd g x k)) < ρ (dz_tp up x) := fun x hx nx k k0 k1 => by
    obtain ⟨c1, c2, c3, c4⟩ := bd_tpk hg hI hx nx k0 k1
    rw [← c4]
    exact hr _ c1 (hU.top hx).1 c2 k k0 (by rw [c3]; exact k1)
  have le : ∀ n, dz_In (dz_N g) n → ρ (dz_tp up n) ≤ ρ (dz_tp up a) := hR (fun n => ρ (dz_tp up n) ≤ ρ (dz_tp up a)) (Nat.le_refl _) (by rw [tab]; exact Nat.le_refl _) (fun x hx nx vx k k0 k1 => by
    have w := st x hx nx k k0 k1
    show ρ (dz_tp up (dz_kd g x k)) ≤ ρ (dz_tp up a)
    have vx' : ρ (dz_tp up x) ≤ ρ (dz_tp up a) := vx
    omega)
  intro e
  have h1 := st x hx nx k k0 k1
  have h2 := le x hx
  rw [e] at h1
  omega
