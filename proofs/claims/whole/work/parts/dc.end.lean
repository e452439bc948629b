-- ends, the length of an END (11): every VARIABLE has at most 8743 bytes
theorem bd_nd_app : ∀ l l' : List Int, l.Nodup → l'.Nodup → (∀ x, x ∈ l → x ∉ l') → (l ++ l').Nodup := by
  intro l l' h1 h2 h3
  induction l with
  | nil => exact h2
  | cons a l ih =>
    rw [List.nodup_cons] at h1
    show (a :: (l ++ l')).Nodup
    rw [List.nodup_cons]
    refine ⟨fun q => ?_, ih h1.2 (fun x hx => h3 x (List.mem_cons_of_mem _ hx))⟩
    rcases List.mem_append.mp q with q | q
    · exact h1.1 q
    · exact h3 a List.mem_cons_self q
theorem bd_or_app {fr : Int → List Int} {R : List Int} : ∀ l : List Int, (∀ y, y ∈ l → ∀ z, z ∈ fr y → z ∈ R) → bd_or fr R → bd_or fr (l ++ R) := by
  intro l h h2
  induction l with
  | nil => exact h2
  | cons a l ih => exact ⟨fun z hz => List.mem_append.mpr (Or.inr (h a List.mem_cons_self z hz)), ih (fun y hy => h y (List.mem_cons_of_mem _ hy))⟩
noncomputable def bd_R (g : dz_G) (up : Int → Int) (ρ : Int → Nat) : Nat → List Int
  | 0 => []
  | r + 1 => (bd_Nl g).filter (fun z => @decide (bd_Tp g up z ∧ bd_cN g up z ≠ 0 ∧ ρ z = r) (Classical.propDecidable _)) ++ bd_R g up ρ r
theorem bd_R_mem {g : dz_G} (hg : dz_ok g) {up : Int → Int} {ρ : Int → Nat} {z : Int} : ∀ r : Nat, z ∈ bd_R g up ρ r ↔ (bd_Tp g up z ∧ bd_cN g up z ≠ 0 ∧ ρ z < r) := by
  intro r
  induction r with
  | zero =>
    constructor
    · intro h; cases h
    · intro h; omega
  | succ r ih =>
    simp only [bd_R, List.mem_append, ih, List.mem_filter]
    constructor
    · intro h
      rcases h with ⟨-, h⟩ | h
      · have q := @of_decide_eq_true _ (Classical.propDecidable _) h
        exact ⟨q.1, q.2.1, by omega⟩
      · exact ⟨h.1, h.2.1, by omega⟩
    · intro h
      by_cases e : ρ z = r
      · exact Or.inl ⟨(bd_Nl_mem hg).mpr h.1.1, @decide_eq_true _ (Classical.propDecidable _) ⟨h.1, h.2.1, e⟩⟩
      · exact Or.inr ⟨h.1, h.2.1, by omega⟩
theorem bd_R_nd {g : dz_G} (hg : dz_ok g) {up : Int → Int} {ρ : Int → Nat} : ∀ r : Nat, (bd_R g up ρ r).Nodup := by
  intro r
  induction r with
  | zero => exact List.nodup_nil
  | succ r ih =>
    refine bd_nd_app _ _ ((bd_rg_nd _).filter _) ih (fun x hx q => ?_)
    have h1 := @of_decide_eq_true _ (Classical.propDecidable _) (List.mem_filter.mp hx).2
    have h2 := (bd_R_mem hg r).mp q
    omega
theorem bd_R_or {g : dz_G} {a b : Int} {up : Int → Int} {ρ : Int → Nat} (h : bd_Gr g a b up ρ) : ∀ r : Nat, bd_or (bd_fr (bd_cN g up) (bd_ks g up)) (bd_R g up ρ r) := by
  intro r
  induction r with
  | zero => trivial
  | succ r ih =>
    refine bd_or_app _ (fun y hy z hz => ?_) ih
    have h1 := @of_decide_eq_true _ (Classical.propDecidable _) (List.mem_filter.mp hy).2
    have q := bd_T1 h.W (ρ y + 1) y (by omega) h1.1 z hz
    exact (bd_R_mem h.1.1 r).mpr ⟨q.2.1, q.1, by omega⟩
noncomputable def bd_mk (g : dz_G) (up : Int → Int) (y : Int) : Nat := @ite _ (bd_mkd g up y ∧ bd_ks g up y ≠ []) (Classical.propDecidable _) (if 3 ≤ (bd_cls g up y).length then 1 else 2) 0
theorem bd_mk_0 {g : dz_G} {up : Int → Int} {y : Int} (h : ¬ (bd_mkd g up y ∧ bd_ks g up y ≠ [])) : bd_mk g up y = 0 := by unfold bd_mk; rw [if_neg h]
theorem bd_mk_1 {g : dz_G} {up : Int → Int} {y : Int} (h : bd_mkd g up y ∧ bd_ks g up y ≠ []) : bd_mk g up y = if 3 ≤ (bd_cls g up y).length then 1 else 2 := by unfold bd_mk; rw [if_pos h]
/-- three unlike nodes -/
theorem bd_three {l : List Int} (hn : l.Nodup) {x y z : Int} (hx : x ∈ l) (hy : y ∈ l) (hz : z ∈ l) (xy : x ≠ y) (xz : x ≠ z) (yz : y ≠ z) : 3 ≤ l.length := by
  obtain ⟨l1, n1, m1, e1, -⟩ := bd_rm l hn hx
  obtain ⟨l2, n2, m2, e2, -⟩ := bd_rm l1 n1 ((m1 y).mpr ⟨hy, fun q => xy q.symm⟩)
  obtain ⟨l3, n3, m3, e3, -⟩ := bd_rm l2 n2 ((m2 z).mpr ⟨(m1 z).mpr ⟨hz, fun q => xz q.symm⟩, fun q => yz q.symm⟩)
  omega
section BE
variable {g : dz_G} {a b : Int} {up : Int → Int} {ρ : Int → Nat}
theorem bd_cnd (h : bd_Gr g a b up ρ) {y : Int} (hy : bd_Tp g up y) (c0 : bd_cN g up y ≠ 0) {G F u : Nat} (hG : G ≤ bd_cU g up y) (hF : F ≤ bd_cM g up y) (hu : bd_mk g up y = 2 → u = 0) : bd_cd (bd_mk g up y) (bd_cA g up y) G F u := by
  obtain ⟨⟨hg, hI, ha, hb⟩, ⟨hr, hr2⟩, hT, hR, hP⟩ := id h
  have nz : y ≠ dz_tp up a := fun q => c0 (by
    refine bd_s_zero _ (fun p hp => bd_i_neg (fun w => ?_))
    exact (bd_kc_tp h hp w.1).2 (by rw [w.2.1, q]))
  have e := bd_cA_eq (g := g) (up := up) (y := y)
  have f1 := bd_F1 hg hI ha hb nz
  have f2 := bd_F2 hg hI c0
  have f3 := bd_F3 (y := y) hg hI
  refine ⟨fun _ => ⟨by omega, by omega⟩, fun k1 => ?_, fun k2 => ?_, ?_⟩
  · have l3 : 3 ≤ (bd_cls g up y).length := by
      by_cases m : bd_mkd g up y ∧ bd_ks g up y ≠ []
      · rw [bd_mk_1 m] at k1
        by_cases q : 3 ≤ (bd_cls g up y).length
        · exact q
        · rw [if_neg q] at k1; omega
      · rw [bd_mk_0 m] at k1; omega
    exact ⟨by omega, by omega⟩
  · by_cases m : bd_mkd g up y ∧ bd_ks g up y ≠ []
    · have k2' := k2
      rw [bd_mk_1 m] at k2
      have l2 : ¬ 3 ≤ (bd_cls g up y).length := fun q => by rw [if_pos q] at k2; omega
      obtain ⟨x, x1, x2, x3, x4⟩ := m.1
      have yv : ¬ dz_iv g y := by
        have := (hI.2.2.2.1 x x1 x4).1
        rw [x2] at this
        exact this
      have all : ∀ z, dz_In (dz_N g) z → dz_tp up z = y → ¬ dz_iv g z := fun z z1 z2 z3 => by
        refine l2 (bd_three (bd_cls_nd (g := g) (up := up) (y := y)) (x := x) (y := y) (z := z) ((bd_cls_mem hg.1).mpr ⟨x1, x2⟩) ((bd_cls_mem hg.1).mpr ⟨hy.1, hy.2⟩) ((bd_cls_mem hg.1).mpr ⟨z1, z2⟩) x3 (fun q => x4 (by rw [q]; exact z3)) (fun q => yv (by rw [q]; exact z3)))
      have f4 := bd_F4 (up := up) (y := y) hg hT all
      exact ⟨by omega, by omega, by omega, hu k2'⟩
    · rw [bd_mk_0 m] at k2; omega
  · by_cases m : bd_mkd g up y ∧ bd_ks g up y ≠ []
    · rw [bd_mk_1 m]
      by_cases q : 3 ≤ (bd_cls g up y).length
      · rw [if_pos q]; omega
      · rw [if_neg q]; omega
    · rw [bd_mk_0 m]; omega
theorem bd_entry (h : bd_Gr g a b up ρ) {U : Int → Nat} (hU : ∀ z, bd_Tp g up z → (bd_ks g up z = [] → U z ≤ 12) ∧ (bd_ks g up z ≠ [] → U z ≤ bd_s (bd_ks g up z) U + bd_o (bd_ks g up z).length)) {y : Int} (hy : bd_Tp g up y) (c0 : bd_cN g up y ≠ 0) (k2 : bd_mk g up y ≠ 2) : U y ≤ 8748 := by
  have W := h.W
  have hg := h.1.1
  have hr2 := h.2.1.2
  have mem : ∀ z, z ∈ bd_R g up ρ 121 ↔ (bd_Tp g up z ∧ bd_cN g up z ≠ 0) := fun z => by
    rw [bd_R_mem hg]
    constructor
    · intro q; exact ⟨q.1, q.2.1⟩
    · intro q; exact ⟨q.1, q.2, by have := hr2 z; omega⟩
  have nd := bd_R_nd hg (up := up) (ρ := ρ) 121
  have inN : ∀ z, z ∈ bd_R g up ρ 121 → z ∈ bd_Nl g := fun z hz => (bd_Nl_mem hg).mpr ((mem z).mp hz).1.1
  have yR : y ∈ bd_R g up ρ 121 := (mem y).mpr ⟨hy, c0⟩
  have gU : ∀ z, bd_cN g up z ≠ 0 → bd_fu (bd_mk g up) (bd_fr (bd_cN g up) (bd_ks g up)) (bd_R g up ρ 121) z ≤ bd_cU g up z := fun z hz => by
    refine Nat.le_trans ?_ (bd_I2 h hz)
    refine bd_inj (φ := fun x => x) _ _ nd (bd_rg_nd _) inN (fun p q _ _ e => e) (fun x hx => ?_)
    have q := (mem x).mp hx
    by_cases m : bd_mkd g up x
    · by_cases e : bd_ks g up x = []
      · rw [(bd_leaf W q.1 e).1]
        simp only [bd_c]
        rw [Nat.mul_zero]
        by_cases k : bd_mk g up x = 0
        · rw [if_pos k]; exact Nat.le_refl _
        · rw [if_neg k]; exact Nat.le_refl _
      · have k : bd_mk g up x ≠ 0 := by
          rw [bd_mk_1 ⟨m, e⟩]
          by_cases l3 : 3 ≤ (bd_cls g up x).length
          · rw [if_pos l3]; omega
          · rw [if_neg l3]; omega
        rw [if_neg k]
        exact Nat.zero_le _
    · rw [if_pos (bd_mk_0 (fun w => m w.1)), bd_i_pos (P := (bd_Tp g up x ∧ ¬ bd_mkd g up x) ∧ bd_cN g up x ≠ 0) ⟨⟨q.1, m⟩, q.2⟩, Nat.one_mul]
      exact Nat.le_refl _
  have gM : ∀ z, bd_fm (bd_mk g up) (bd_fr (bd_cN g up) (bd_ks g up)) (bd_R g up ρ 121) z ≤ bd_cM g up z := fun z => by
    refine Nat.le_trans ?_ (bd_I3 h)
    refine bd_inj (φ := fun x => x) _ _ nd (bd_rg_nd _) inN (fun p q _ _ e => e) (fun x hx => ?_)
    have q := (mem x).mp hx
    by_cases k : bd_mk g up x = 0
    · rw [if_pos k]; exact Nat.zero_le _
    · have m : bd_mkd g up x := by
        by_cases m : bd_mkd g up x ∧ bd_ks g up x ≠ []
        · exact m.1
        · exact absurd (bd_mk_0 m) k
      rw [if_neg k, bd_i_pos (P := bd_Tp g up x ∧ bd_mkd g up x) ⟨q.1, m⟩, Nat.one_mul]
      exact Nat.le_refl _
  have big := bd_main (mk := bd_mk g up) (fr := bd_fr (bd_cN g up) (bd_ks g up)) (dd := bd_dd (bd_cN g up) (bd_ks g up)) (ii := bd_ii (bd_cN g up) (bd_ks g up)) (ov := bd_ov (bd_cN g up) (bd_ks g up)) (U := U) (c := bd_cA g up) (bd_R g up ρ 121) (fun _ => 0) (fun z => if y = z then 1 else 0) (fun _ => 0) (fun _ => 0) 0 0 nd (bd_R_or h 121) (fun z hz => by
    have q := (mem z).mp hz
    refine ⟨fun _ => ⟨bd_T3 W hU (ρ z + 1) z (by omega) q.1, bd_T2 W (ρ z + 1) z (by omega) q.1⟩, fun k => ?_⟩
    have m : bd_mkd g up z ∧ bd_ks g up z ≠ [] := by
      by_cases m : bd_mkd g up z ∧ bd_ks g up z ≠ []
      · exact m
      · exact absurd (bd_mk_0 m) k
    obtain ⟨r1, r2, r3⟩ := bd_mk_fr h q.1 m.1
    rw [r1, r2, r3]
    refine ⟨rfl, (hU z q.1).2 m.2, ?_⟩
    have l3 := W.2.2 z q.1
    have l0 : (bd_ks g up z).length ≠ 0 := fun w => m.2 (List.length_eq_zero_iff.mp w)
    have : (bd_ks g up z).length = 1 ∨ (bd_ks g up z).length = 2 ∨ (bd_ks g up z).length = 3 := by omega
    rcases this with w | w | w
    · exact Or.inl ⟨w, by rw [w]; decide⟩
    · exact Or.inr (Or.inl ⟨w, by rw [w]; decide⟩)
    · exact Or.inr (Or.inr ⟨w, by rw [w]; decide⟩)) (fun z hz => by
    have q := (mem z).mp hz
    have w1 := gU z q.2
    have w2 := gM z
    refine bd_cnd h q.1 q.2 (by omega) (by omega) (fun k => ?_)
    rw [if_neg (fun e => k2 (by rw [e]; exact k))]) (fun z _ => Nat.zero_le _) (Nat.zero_le _)
  have e1 : bd_s (bd_R g up ρ 121) (fun z => ((if y = z then 1 else 0) + 0) * U z) = U y := bd_s_pick (h := U) _ nd yR
  have e2 : bd_s (bd_R g up ρ 121) (fun z => if y = z then 1 else 0) = 1 := by
    have := bd_s_pick (h := fun _ => 1) _ nd yR
    simp only [Nat.mul_one] at this
    exact this
  have e3 : bd_s (bd_R g up ρ 121) (fun z => bd_cA g up z + bd_ii (bd_cN g up) (bd_ks g up) z - 0) ≤ 30 := by
    refine Nat.le_trans ?_ (bd_I1 h)
    refine bd_inj (φ := fun x => x) _ _ nd (bd_rg_nd _) inN (fun p q _ _ e => e) (fun x hx => ?_)
    have q := (mem x).mp hx
    rw [bd_i_pos (P := bd_Tp g up x ∧ bd_cN g up x ≠ 0) q, Nat.one_mul]
    exact Nat.le_refl _
  have e4 := bd_P_mono e3
  have e5 : bd_P 30 = 729000 := by decide
  have e6 : bd_s (bd_R g up ρ 121) (fun _ => 0) = 0 := bd_s_0 _
  rw [e1, e2, e6] at big
  rw [e5] at e4
  generalize bd_P (bd_s (bd_R g up ρ 121) (fun z => bd_cA g up z + bd_ii (bd_cN g up) (bd_ks g up) z - 0)) = Pn at big e4
  omega
/-- every VARIABLE -/
theorem bd_var (h : bd_Gr g a b up ρ) (na : ¬ dz_iv g a) (nb : ¬ dz_iv g b) {U : Int → Nat} (hU : ∀ z, bd_Tp g up z → (bd_ks g up z = [] → U z ≤ 12) ∧ (bd_ks g up z ≠ [] → U z ≤ bd_s (bd_ks g up z) U + bd_o (bd_ks g up z).length)) {x : Int} (hx : dz_In (dz_N g) x) (vx : dz_iv g x) : U (dz_tp up x) ≤ 8748 := by
  have hg := h.1.1
  have hI := h.1.2.1
  have hUF := hI.1
  have tx : bd_Tp g up (dz_tp up x) := ⟨(hUF.top hx).2, hUF.tt hx⟩
  have pl : x = a ∨ x = b ∨ dz_tp up x ≠ dz_tp up a := h.2.2.2.1 (fun n => n = a ∨ n = b ∨ dz_tp up n ≠ dz_tp up a) (Or.inl rfl) (Or.inr (Or.inl rfl)) (fun z hz nz _ k k0 k1 => Or.inr (Or.inr (h.root hz nz k0 k1))) x hx
  have nr : dz_tp up x ≠ dz_tp up a := by
    rcases pl with q | q | q
    · exact absurd (by rw [← q]; exact vx) na
    · exact absurd (by rw [← q]; exact vx) nb
    · exact q
  by_cases c0 : bd_cN g up (dz_tp up x) = 0
  · have al := (bd_alone h tx nr c0).1 x hx rfl
    have e : bd_ks g up (dz_tp up x) = [] := by rw [← al]; exact bd_ks_v vx
    have := (hU _ tx).1 e
    omega
  · refine bd_entry h hU tx c0 (fun k2 => ?_)
    by_cases m : bd_mkd g up (dz_tp up x) ∧ bd_ks g up (dz_tp up x) ≠ []
    · rw [bd_mk_1 m] at k2
      obtain ⟨z, z1, z2, z3, z4⟩ := m.1
      have yv : ¬ dz_iv g (dz_tp up x) := by
        have := (hI.2.2.2.1 z z1 z4).1
        rw [z2] at this
        exact this
      have l3 := bd_three (bd_cls_nd (g := g) (up := up) (y := dz_tp up x)) (x := z) (y := dz_tp up x) (z := x) ((bd_cls_mem hg.1).mpr ⟨z1, z2⟩) ((bd_cls_mem hg.1).mpr tx) ((bd_cls_mem hg.1).mpr ⟨hx, rfl⟩) z3 (fun q => z4 (by rw [q]; exact vx)) (fun q => yv (by rw [q]; exact vx))
      rw [if_pos l3] at k2
      omega
    · rw [bd_mk_0 m] at k2; omega
end BE
