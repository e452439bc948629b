-- ends, the length of an END (10): how often a class is led into, by classes and by their trees
theorem bd_leaf {T : Int → Prop} {ks : Int → List Int} {ρ : Int → Nat} {c : Int → Nat} (W : bd_W T ks ρ) {z : Int} (hz : T z) (e : ks z = []) : bd_fr c ks z = [] ∧ bd_ii c ks z = 0 ∧ bd_dd c ks z = 1 ∧ bd_ov c ks z = 0 := by
  rw [bd_fr_eq W hz, bd_ii_eq W hz, bd_dd_eq W hz, bd_ov_eq W hz, e]
  exact ⟨rfl, rfl, rfl, rfl⟩
section BG
variable {g : dz_G} {a b : Int} {up : Int → Int} {ρ : Int → Nat}
theorem bd_kc_tp (h : bd_Gr g a b up ρ) {p : Int} (hp : p ∈ bd_P3 g) (q : bd_pl g p) : bd_Tp g up (bd_kc g up p) ∧ bd_kc g up p ≠ dz_tp up a := by
  obtain ⟨b1, b2, b3, b4, b5, b6⟩ := bd_plx h.1.1 hp q
  have hU := h.1.2.1.1
  exact ⟨⟨(hU.top b5).2, hU.tt b5⟩, h.root b1 b2 b3 b4⟩
/-- a class into which no other place leads stands alone -/
theorem bd_alone (h : bd_Gr g a b up ρ) {z : Int} (hz : bd_Tp g up z) (nz : z ≠ dz_tp up a) (c0 : bd_cN g up z = 0) : (∀ x, dz_In (dz_N g) x → dz_tp up x = z → x = z) ∧ (¬ dz_iv g z → bd_cA g up z ≤ 1) ∧ ¬ bd_mkd g up z := by
  obtain ⟨⟨hg, hI, ha, hb⟩, ⟨hr, hr2⟩, hT, hR, hP⟩ := h
  have n1 := bd_F1 hg hI ha hb nz
  rw [c0] at n1
  have one : ∀ x, dz_In (dz_N g) x → dz_tp up x = z → x = z := fun x hx tx => by
    have m1 := (bd_cls_mem hg.1).mpr ⟨hx, tx⟩
    have m2 := (bd_cls_mem (g := g) (up := up) hg.1).mpr ⟨hz.1, hz.2⟩
    cases hl : bd_cls g up z with
    | nil => rw [hl] at m1; cases m1
    | cons u l =>
      rw [hl] at m1 m2 n1
      simp only [List.length_cons] at n1
      have l0 : l = [] := List.length_eq_zero_iff.mp (by omega)
      rw [l0, List.mem_singleton] at m1 m2
      rw [m1, m2]
  refine ⟨one, fun nv => ?_, fun m => ?_⟩
  · have := bd_F4 (up := up) (y := z) hg hT (fun x hx tx => by rw [one x hx tx]; exact nv)
    omega
  · obtain ⟨x, x1, x2, x3, -⟩ := m
    exact x3 (one x x1 x2)
theorem bd_K0 (h : bd_Gr g a b up ρ) {V : Int → Prop} (hV : ∀ p, V p → bd_pl g p) {z : Int} (nz : ¬ (bd_Tp g up z ∧ z ≠ dz_tp up a)) : bd_s (bd_P3 g) (fun p => bd_i (V p ∧ bd_kc g up p = z)) = 0 := by
  refine bd_s_zero _ (fun p hp => bd_i_neg (fun q => nz ?_))
  rw [← q.2]
  exact bd_kc_tp h hp (hV p q.1)
theorem bd_KA {V : Int → Prop} (hV : ∀ p, V p → bd_pl g p) {z : Int} : bd_s (bd_P3 g) (fun p => bd_i (V p ∧ bd_kc g up p = z)) ≤ bd_cA g up z := by
  refine bd_s_le _ (fun p _ => ?_)
  by_cases q : V p ∧ bd_kc g up p = z
  · rw [bd_i_pos q, bd_i_pos (P := bd_pl g p ∧ bd_kc g up p = z) ⟨hV p q.1, q.2⟩]
    exact Nat.le_refl _
  · rw [bd_i_neg q]; exact Nat.zero_le _
/-- the sum of all that trees hold -/
theorem bd_I1 (h : bd_Gr g a b up ρ) : bd_s (bd_Nl g) (fun z => bd_i (bd_Tp g up z ∧ bd_cN g up z ≠ 0) * (bd_cA g up z + bd_ii (bd_cN g up) (bd_ks g up) z)) ≤ 30 := by
  have W := h.W
  have hg := h.1.1
  have hU := h.1.2.1.1
  have s1 : bd_s (bd_Nl g) (fun z => bd_i (bd_Tp g up z) * bd_ii (bd_cN g up) (bd_ks g up) z) = bd_s (bd_Nl g) (fun z => bd_i (bd_Tp g up z) * bd_s (bd_ks g up z) (fun y => if bd_cN g up y = 0 then 1 + bd_ii (bd_cN g up) (bd_ks g up) y else 0)) := bd_s_congr _ (fun z _ => by
    by_cases t : bd_Tp g up z
    · rw [bd_ii_eq W t]
    · rw [bd_i_neg t, Nat.zero_mul, Nat.zero_mul])
  rw [bd_pk hg, bd_xk hg hU (V := fun p => bd_pl g p ∧ bd_Tp g up (p / 3)) (h := fun y => if bd_cN g up y = 0 then 1 + bd_ii (bd_cN g up) (bd_ks g up) y else 0) (fun p q => q.1)] at s1
  have s2 : bd_s (bd_Nl g) (fun z => bd_s (bd_P3 g) (fun p => bd_i ((bd_pl g p ∧ bd_Tp g up (p / 3)) ∧ bd_kc g up p = z)) * (if bd_cN g up z = 0 then 1 + bd_ii (bd_cN g up) (bd_ks g up) z else 0)) ≤ bd_s (bd_Nl g) (fun z => bd_i (bd_Tp g up z ∧ bd_cN g up z = 0) * (bd_cA g up z + bd_ii (bd_cN g up) (bd_ks g up) z)) := bd_s_le _ (fun z _ => by
    by_cases t : bd_Tp g up z ∧ z ≠ dz_tp up a
    · by_cases c0 : bd_cN g up z = 0
      · rw [if_pos c0, bd_i_pos (P := bd_Tp g up z ∧ bd_cN g up z = 0) ⟨t.1, c0⟩, Nat.one_mul]
        have KA := bd_KA (g := g) (up := up) (V := fun p => bd_pl g p ∧ bd_Tp g up (p / 3)) (fun p q => q.1) (z := z)
        by_cases e : bd_ks g up z = []
        · rw [(bd_leaf W t.1 e).2.1]
          omega
        · have nv : ¬ dz_iv g z := fun q => e (bd_ks_v q)
          have a1 := (bd_alone h t.1 t.2 c0).2.1 nv
          generalize bd_s (bd_P3 g) (fun p => bd_i ((bd_pl g p ∧ bd_Tp g up (p / 3)) ∧ bd_kc g up p = z)) = K at KA ⊢
          have hK : K = 0 ∨ K = 1 := by omega
          rcases hK with rfl | rfl
          · omega
          · omega
      · rw [if_neg c0, Nat.mul_zero]
        exact Nat.zero_le _
    · rw [bd_K0 h (fun p q => q.1) t, Nat.zero_mul]
      exact Nat.zero_le _)
  have s3 : bd_s (bd_Nl g) (fun z => bd_i (bd_Tp g up z) * bd_ii (bd_cN g up) (bd_ks g up) z) = bd_s (bd_Nl g) (fun z => bd_i (bd_Tp g up z ∧ bd_cN g up z = 0) * bd_ii (bd_cN g up) (bd_ks g up) z) + bd_s (bd_Nl g) (fun z => bd_i (bd_Tp g up z ∧ bd_cN g up z ≠ 0) * bd_ii (bd_cN g up) (bd_ks g up) z) := by
    rw [← bd_s_add]
    refine bd_s_congr _ (fun z _ => ?_)
    by_cases t : bd_Tp g up z
    · by_cases c0 : bd_cN g up z = 0
      · rw [bd_i_pos t, bd_i_pos (P := bd_Tp g up z ∧ bd_cN g up z = 0) ⟨t, c0⟩, bd_i_neg (P := bd_Tp g up z ∧ bd_cN g up z ≠ 0) (fun q => q.2 c0)]
        omega
      · rw [bd_i_pos t, bd_i_neg (P := bd_Tp g up z ∧ bd_cN g up z = 0) (fun q => c0 q.2), bd_i_pos (P := bd_Tp g up z ∧ bd_cN g up z ≠ 0) ⟨t, c0⟩]
        omega
    · rw [bd_i_neg t, bd_i_neg (P := bd_Tp g up z ∧ bd_cN g up z = 0) (fun q => t q.1), bd_i_neg (P := bd_Tp g up z ∧ bd_cN g up z ≠ 0) (fun q => t q.1)]
      omega
  have s4 : bd_s (bd_Nl g) (fun z => bd_cA g up z) = bd_s (bd_P3 g) (fun p => bd_i (bd_pl g p)) := by
    have := bd_xk hg hU (V := bd_pl g) (fun p q => q) (h := fun _ => 1)
    simp only [Nat.mul_one] at this
    exact this.symm
  have s5 : bd_s (bd_Nl g) (fun z => bd_i (bd_Tp g up z ∧ bd_cN g up z = 0) * bd_cA g up z) + bd_s (bd_Nl g) (fun z => bd_i (bd_Tp g up z ∧ bd_cN g up z ≠ 0) * bd_cA g up z) ≤ bd_s (bd_Nl g) (fun z => bd_cA g up z) := by
    rw [← bd_s_add]
    refine bd_s_le _ (fun z _ => ?_)
    by_cases t : bd_Tp g up z
    · by_cases c0 : bd_cN g up z = 0
      · rw [bd_i_pos (P := bd_Tp g up z ∧ bd_cN g up z = 0) ⟨t, c0⟩, bd_i_neg (P := bd_Tp g up z ∧ bd_cN g up z ≠ 0) (fun q => q.2 c0)]
        omega
      · rw [bd_i_neg (P := bd_Tp g up z ∧ bd_cN g up z = 0) (fun q => c0 q.2), bd_i_pos (P := bd_Tp g up z ∧ bd_cN g up z ≠ 0) ⟨t, c0⟩]
        omega
    · rw [bd_i_neg (P := bd_Tp g up z ∧ bd_cN g up z = 0) (fun q => t q.1), bd_i_neg (P := bd_Tp g up z ∧ bd_cN g up z ≠ 0) (fun q => t q.1)]
      omega
  have ex1 : bd_s (bd_Nl g) (fun z => bd_i (bd_Tp g up z ∧ bd_cN g up z = 0) * (bd_cA g up z + bd_ii (bd_cN g up) (bd_ks g up) z)) = bd_s (bd_Nl g) (fun z => bd_i (bd_Tp g up z ∧ bd_cN g up z = 0) * bd_cA g up z) + bd_s (bd_Nl g) (fun z => bd_i (bd_Tp g up z ∧ bd_cN g up z = 0) * bd_ii (bd_cN g up) (bd_ks g up) z) := by
    rw [← bd_s_add]
    exact bd_s_congr _ (fun z _ => Nat.mul_add _ _ _)
  have ex2 : bd_s (bd_Nl g) (fun z => bd_i (bd_Tp g up z ∧ bd_cN g up z ≠ 0) * (bd_cA g up z + bd_ii (bd_cN g up) (bd_ks g up) z)) = bd_s (bd_Nl g) (fun z => bd_i (bd_Tp g up z ∧ bd_cN g up z ≠ 0) * bd_cA g up z) + bd_s (bd_Nl g) (fun z => bd_i (bd_Tp g up z ∧ bd_cN g up z ≠ 0) * bd_ii (bd_cN g up) (bd_ks g up) z) := by
    rw [← bd_s_add]
    exact bd_s_congr _ (fun z _ => Nat.mul_add _ _ _)
  have hP := h.2.2.2.2
  rw [ex2]
  rw [ex1] at s2
  omega
/-- what trees lead into a class -/
theorem bd_I2 (h : bd_Gr g a b up ρ) {y : Int} (hy : bd_cN g up y ≠ 0) : bd_s (bd_Nl g) (fun x => bd_i ((bd_Tp g up x ∧ ¬ bd_mkd g up x) ∧ bd_cN g up x ≠ 0) * bd_c (bd_fr (bd_cN g up) (bd_ks g up) x) y) ≤ bd_cU g up y := by
  have W := h.W
  have hg := h.1.1
  have hU := h.1.2.1.1
  have s1 : bd_s (bd_Nl g) (fun x => bd_i (bd_Tp g up x ∧ ¬ bd_mkd g up x) * bd_c (bd_fr (bd_cN g up) (bd_ks g up) x) y) = bd_s (bd_Nl g) (fun x => bd_i (bd_Tp g up x ∧ ¬ bd_mkd g up x) * bd_s (bd_ks g up x) (fun z => bd_c (if bd_cN g up z = 0 then bd_fr (bd_cN g up) (bd_ks g up) z else [z]) y)) := bd_s_congr _ (fun z _ => by
    by_cases t : bd_Tp g up z ∧ ¬ bd_mkd g up z
    · rw [bd_fr_eq W t.1, bd_fl_c]
    · rw [bd_i_neg t, Nat.zero_mul, Nat.zero_mul])
  rw [bd_pk hg, bd_xk hg hU (V := fun p => bd_pl g p ∧ bd_Tp g up (p / 3) ∧ ¬ bd_mkd g up (p / 3)) (h := fun z => bd_c (if bd_cN g up z = 0 then bd_fr (bd_cN g up) (bd_ks g up) z else [z]) y) (fun p q => q.1)] at s1
  have s2 : bd_s (bd_Nl g) (fun z => bd_s (bd_P3 g) (fun p => bd_i ((bd_pl g p ∧ bd_Tp g up (p / 3) ∧ ¬ bd_mkd g up (p / 3)) ∧ bd_kc g up p = z)) * bd_c (if bd_cN g up z = 0 then bd_fr (bd_cN g up) (bd_ks g up) z else [z]) y) ≤ bd_s (bd_Nl g) (fun z => bd_i ((bd_Tp g up z ∧ ¬ bd_mkd g up z) ∧ bd_cN g up z = 0) * bd_c (bd_fr (bd_cN g up) (bd_ks g up) z) y + (if y = z then 1 else 0) * bd_cU g up z) := bd_s_le _ (fun z _ => by
    by_cases t : bd_Tp g up z ∧ z ≠ dz_tp up a
    · by_cases c0 : bd_cN g up z = 0
      · have al := bd_alone h t.1 t.2 c0
        rw [if_pos c0, bd_i_pos (P := (bd_Tp g up z ∧ ¬ bd_mkd g up z) ∧ bd_cN g up z = 0) ⟨⟨t.1, al.2.2⟩, c0⟩, Nat.one_mul]
        have KA := bd_KA (g := g) (up := up) (V := fun p => bd_pl g p ∧ bd_Tp g up (p / 3) ∧ ¬ bd_mkd g up (p / 3)) (fun p q => q.1) (z := z)
        by_cases e : bd_ks g up z = []
        · rw [(bd_leaf W t.1 e).1]
          show _ * 0 ≤ _
          omega
        · have nv : ¬ dz_iv g z := fun q => e (bd_ks_v q)
          have a1 := al.2.1 nv
          generalize bd_s (bd_P3 g) (fun p => bd_i ((bd_pl g p ∧ bd_Tp g up (p / 3) ∧ ¬ bd_mkd g up (p / 3)) ∧ bd_kc g up p = z)) = K at KA ⊢
          have hK : K = 0 ∨ K = 1 := by omega
          rcases hK with rfl | rfl
          · omega
          · omega
      · rw [if_neg c0, bd_i_neg (P := (bd_Tp g up z ∧ ¬ bd_mkd g up z) ∧ bd_cN g up z = 0) (fun q => c0 q.2)]
        have e1 : bd_s (bd_P3 g) (fun p => bd_i ((bd_pl g p ∧ bd_Tp g up (p / 3) ∧ ¬ bd_mkd g up (p / 3)) ∧ bd_kc g up p = z)) = bd_cU g up z := bd_s_congr _ (fun p hp => bd_i_iff ⟨fun q => ⟨q.1.1, q.2, q.1.2.1.2, q.1.2.2⟩, fun q => ⟨⟨q.1, ⟨(bd_plx hg hp q.1).1, q.2.2.1⟩, q.2.2.2⟩, q.2.1⟩⟩)
        rw [e1]
        simp only [bd_c]
        by_cases e : z = y
        · rw [if_pos e, if_pos e.symm]; omega
        · rw [if_neg e]; omega
    · rw [bd_K0 h (fun p q => q.1) t, Nat.zero_mul]
      exact Nat.zero_le _)
  rw [bd_s_add] at s2
  have ty : bd_s (bd_Nl g) (fun z => (if y = z then 1 else 0) * bd_cU g up z) ≤ bd_cU g up y := by
    by_cases iy : y ∈ bd_Nl g
    · rw [bd_s_pick (h := bd_cU g up) (bd_Nl g) (bd_rg_nd _) iy]
      exact Nat.le_refl _
    · rw [bd_s_zero _ (fun z hz => by rw [if_neg (fun q => iy (by rw [q]; exact hz)), Nat.zero_mul])]
      exact Nat.zero_le _
  have s3 : bd_s (bd_Nl g) (fun x => bd_i (bd_Tp g up x ∧ ¬ bd_mkd g up x) * bd_c (bd_fr (bd_cN g up) (bd_ks g up) x) y) = bd_s (bd_Nl g) (fun z => bd_i ((bd_Tp g up z ∧ ¬ bd_mkd g up z) ∧ bd_cN g up z = 0) * bd_c (bd_fr (bd_cN g up) (bd_ks g up) z) y) + bd_s (bd_Nl g) (fun x => bd_i ((bd_Tp g up x ∧ ¬ bd_mkd g up x) ∧ bd_cN g up x ≠ 0) * bd_c (bd_fr (bd_cN g up) (bd_ks g up) x) y) := by
    rw [← bd_s_add]
    refine bd_s_congr _ (fun z _ => ?_)
    by_cases t : bd_Tp g up z ∧ ¬ bd_mkd g up z
    · by_cases c0 : bd_cN g up z = 0
      · rw [bd_i_pos t, bd_i_pos (P := (bd_Tp g up z ∧ ¬ bd_mkd g up z) ∧ bd_cN g up z = 0) ⟨t, c0⟩, bd_i_neg (P := (bd_Tp g up z ∧ ¬ bd_mkd g up z) ∧ bd_cN g up z ≠ 0) (fun q => q.2 c0)]
        omega
      · rw [bd_i_pos t, bd_i_neg (P := (bd_Tp g up z ∧ ¬ bd_mkd g up z) ∧ bd_cN g up z = 0) (fun q => c0 q.2), bd_i_pos (P := (bd_Tp g up z ∧ ¬ bd_mkd g up z) ∧ bd_cN g up z ≠ 0) ⟨t, c0⟩]
        omega
    · rw [bd_i_neg t, bd_i_neg (P := (bd_Tp g up z ∧ ¬ bd_mkd g up z) ∧ bd_cN g up z = 0) (fun q => t q.1), bd_i_neg (P := (bd_Tp g up z ∧ ¬ bd_mkd g up z) ∧ bd_cN g up z ≠ 0) (fun q => t q.1)]
      omega
  omega
/-- a marked class leads into no class that stands alone -/
theorem bd_mk_ks (h : bd_Gr g a b up ρ) {z : Int} (hz : bd_Tp g up z) (m : bd_mkd g up z) {y : Int} (hy : y ∈ bd_ks g up z) : bd_cN g up y ≠ 0 := by
  obtain ⟨⟨hg, hI, ha, hb⟩, ⟨hr, hr2⟩, hT, hR, hP⟩ := h
  obtain ⟨nv, k, k0, k1, rfl⟩ := bd_ks_mem.mp hy
  obtain ⟨x, x1, x2, x3, x4⟩ := m
  have n := hI.2.2.2.1 _ x1 x4
  rw [x2] at n
  have ea := hg.2.2.2 _ _ x1 hz.1 x4 nv n.2.symm
  obtain ⟨c1, c2, c3, c4⟩ := bd_tpk hg hI x1 x4 k0 (by rw [ea]; exact k1)
  obtain ⟨a1, a2, a3, a4, a5⟩ := bd_at (up := up) hg x1 x4 k0 (by rw [ea]; exact k1)
  rw [x2] at c4
  have p := bd_i_pos (P := bd_pl g (3 * x + k) ∧ bd_kc g up (3 * x + k) = dz_tp up (dz_kd g z k) ∧ dz_tp up ((3 * x + k) / 3) ≠ (3 * x + k) / 3) ⟨a4, by rw [a5, c4], by rw [a2, x2]; exact fun q => x3 q.symm⟩
  have q := bd_s_mem (h := fun p => bd_i (bd_pl g p ∧ bd_kc g up p = dz_tp up (dz_kd g z k) ∧ dz_tp up (p / 3) ≠ p / 3)) (bd_P3 g) a1
  unfold bd_cN
  omega
theorem bd_mk_fr (h : bd_Gr g a b up ρ) {z : Int} (hz : bd_Tp g up z) (m : bd_mkd g up z) : bd_fr (bd_cN g up) (bd_ks g up) z = bd_ks g up z ∧ bd_ii (bd_cN g up) (bd_ks g up) z = 0 ∧ bd_ov (bd_cN g up) (bd_ks g up) z = bd_o (bd_ks g up z).length := by
  have W := h.W
  rw [bd_fr_eq W hz, bd_ii_eq W hz, bd_ov_eq W hz]
  refine ⟨?_, ?_, ?_⟩
  · rw [bd_fl_congr (f' := fun y => [y]) _ (fun y hy => by rw [if_neg (bd_mk_ks h hz m hy)])]
    generalize bd_ks g up z = l
    induction l with
    | nil => rfl
    | cons a l ih => show [a] ++ bd_fl l (fun y => [y]) = a :: l; rw [ih]; rfl
  · exact bd_s_zero _ (fun y hy => by rw [if_neg (bd_mk_ks h hz m hy)])
  · rw [bd_s_zero _ (fun y hy => by rw [if_neg (bd_mk_ks h hz m hy)])]
    omega
theorem bd_I3 (h : bd_Gr g a b up ρ) {y : Int} : bd_s (bd_Nl g) (fun x => bd_i (bd_Tp g up x ∧ bd_mkd g up x) * bd_c (bd_fr (bd_cN g up) (bd_ks g up) x) y) ≤ bd_cM g up y := by
  have hg := h.1.1
  have e0 : ∀ l : List Int, bd_c l y = bd_s l (fun z => if z = y then 1 else 0) := by
    intro l
    induction l with
    | nil => rfl
    | cons a l ih => simp only [bd_c, bd_s, ih]
  have s1 : bd_s (bd_Nl g) (fun x => bd_i (bd_Tp g up x ∧ bd_mkd g up x) * bd_c (bd_fr (bd_cN g up) (bd_ks g up) x) y) = bd_s (bd_Nl g) (fun x => bd_i (bd_Tp g up x ∧ bd_mkd g up x) * bd_s (bd_ks g up x) (fun z => if z = y then 1 else 0)) := bd_s_congr _ (fun z _ => by
    by_cases t : bd_Tp g up z ∧ bd_mkd g up z
    · rw [(bd_mk_fr h t.1 t.2).1, e0]
    · rw [bd_i_neg t, Nat.zero_mul, Nat.zero_mul])
  rw [s1, bd_pk hg]
  refine bd_s_le _ (fun p hp => ?_)
  by_cases q : bd_pl g p ∧ bd_Tp g up (p / 3) ∧ bd_mkd g up (p / 3)
  · by_cases e : bd_kc g up p = y
    · rw [if_pos e, bd_i_pos q, bd_i_pos (P := bd_pl g p ∧ bd_kc g up p = y ∧ dz_tp up (p / 3) = p / 3 ∧ bd_mkd g up (p / 3)) ⟨q.1, e, q.2.1.2, q.2.2⟩]
      exact Nat.le_refl _
    · rw [if_neg e, Nat.mul_zero]
      exact Nat.zero_le _
  · rw [bd_i_neg q, Nat.zero_mul]
    exact Nat.zero_le _
end BG
