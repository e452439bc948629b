-- ends, the length of an END (5): the bound itself
theorem bd_main {mk : Int → Nat} {fr : Int → List Int} {dd ii ov U c : Int → Nat} : ∀ (R : List Int) (g u f v : Int → Nat) (Z w : Nat), R.Nodup → bd_or fr R → (∀ y, y ∈ R → bd_lc mk fr dd ii ov U y) →
    (∀ y, y ∈ R → bd_cd (mk y) (c y) (g y + bd_fu mk fr R y) (f y + bd_fm mk fr R y) (u y)) → (∀ y, y ∈ R → v y ≤ f y * w) → w ≤ bd_s R v →
    10000 * (12 * Z + bd_s R (fun y => (u y + v y) * U y)) ≤ 12 * (bd_P (bd_s R (fun y => c y + ii y - g y)) * (10 * (Z + bd_s R u) + 10 * w + 3 * bd_s R v)) := by
  intro R
  induction R with
  | nil =>
    intro g u f v Z w _ _ _ _ _ hw
    simp only [bd_s] at hw ⊢
    have h := (bd_P_r 0).1
    have h2 := Nat.mul_le_mul_right (10 * (Z + 0) + 10 * w + 3 * 0) h
    omega
  | cons y R IH =>
    intro g u f v Z w hn ho hl hc hv hw
    rw [List.nodup_cons] at hn
    obtain ⟨ho1, ho2⟩ := ho
    have cy := hc y List.mem_cons_self
    have ly := hl y List.mem_cons_self
    have vy := hv y List.mem_cons_self
    have hn2 := hn.2
    have hfr := ho1
    simp only [bd_s] at hw ⊢
    have rl : ∀ z, z ∈ R → bd_lc mk fr dd ii ov U z := fun z hz => hl z (List.mem_cons_of_mem _ hz)
    have rc : ∀ z, z ∈ R → bd_cd (mk z) (c z) (g z + ((if mk y = 0 then bd_c (fr y) z else 0) + bd_fu mk fr R z)) (f z + ((if mk y = 0 then 0 else bd_c (fr y) z) + bd_fm mk fr R z)) (u z) := fun z hz => hc z (List.mem_cons_of_mem _ hz)
    have rv : ∀ z, z ∈ R → v z ≤ f z * w := fun z hz => hv z (List.mem_cons_of_mem _ hz)
    have sL : bd_s R (bd_c (fr y)) = (fr y).length := bd_ex1 hn2 _ hfr
    have sU : bd_s R (fun z => bd_c (fr y) z * U z) = bd_s (fr y) U := bd_ex hn2 _ hfr
    generalize ht : u y + v y = t
    have vY : ∀ z, z ∈ R → v z ≤ bd_s R v := fun z hz => bd_s_mem R hz
    clear hc hl hv ho1 hn
    by_cases hk : mk y = 0
    · obtain ⟨lU, lE⟩ := ly.1 hk
      have c0 := cy.1 hk
      generalize hG : bd_fu mk fr (y :: R) y = Gy at c0
      generalize hF : bd_fm mk fr (y :: R) y = Fy at c0
      have ih := IH (fun z => g z + bd_c (fr y) z) (fun z => u z + t * bd_c (fr y) z) f v (Z + dd y * t) (min w (bd_s R v)) hn2 ho2 rl (fun z hz => by
        have q := rc z hz
        simp only [if_pos hk] at q
        have e1 : g z + bd_c (fr y) z + bd_fu mk fr R z = g z + (bd_c (fr y) z + bd_fu mk fr R z) := by omega
        have e2 : f z + bd_fm mk fr R z = f z + (0 + bd_fm mk fr R z) := by omega
        show bd_cd (mk z) (c z) (g z + bd_c (fr y) z + bd_fu mk fr R z) (f z + bd_fm mk fr R z) (u z + t * bd_c (fr y) z)
        rw [e1, e2]
        refine ⟨q.1, q.2.1, fun k2 => ?_, q.2.2.2⟩
        obtain ⟨a1, a2, a3, a4⟩ := q.2.2.1 k2
        have : bd_c (fr y) z = 0 := by omega
        exact ⟨a1, a2, a3, by rw [this, a4, Nat.mul_zero]⟩) (fun z hz => bd_low (rv z hz) (vY z hz)) (Nat.min_le_right _ _)
      have s1 : bd_s R (fun z => u z + t * bd_c (fr y) z) = bd_s R u + t * (fr y).length := by rw [bd_s_add, bd_s_mul, sL]
      have s2 : bd_s R (fun z => (u z + t * bd_c (fr y) z + v z) * U z) = bd_s R (fun z => (u z + v z) * U z) + t * bd_s (fr y) U := by
        have e : bd_s R (fun z => (u z + t * bd_c (fr y) z + v z) * U z) = bd_s R (fun z => (u z + v z) * U z + t * (bd_c (fr y) z * U z)) := bd_s_congr R (fun z _ => by
          have : u z + t * bd_c (fr y) z + v z = (u z + v z) + t * bd_c (fr y) z := by omega
          rw [this, Nat.add_mul, Nat.mul_assoc])
        rw [e, bd_s_add, bd_s_mul, sU]
      have s3 : bd_s R (fun z => c z + ii z - (g z + bd_c (fr y) z)) + (fr y).length = bd_s R (fun z => c z + ii z - g z) := by
        rw [← sL, ← bd_s_add]
        refine bd_s_congr R (fun z hz => ?_)
        have q := (rc z hz).le
        simp only [if_pos hk] at q
        omega
      rw [s1, s2] at ih
      have st := bd_un (e := ii y + (fr y).length) (f := f y) (N := c y + ii y - g y + bd_s R (fun z => c z + ii z - g z)) (N' := bd_s R (fun z => c z + ii z - (g z + bd_c (fr y) z))) (Xr := Z + bd_s R u) (u := u y) (Yr := bd_s R v) (v := v y) (w := w) (w' := min w (bd_s R v)) (by omega) (by omega) vy (Nat.min_le_left _ _) (Nat.min_le_right _ _)
      rw [ht] at st
      have Q : 30 * (Z + bd_s R u + u y) + 30 * w + 9 * (bd_s R v + v y) = 3 * (10 * (Z + (u y + bd_s R u)) + 10 * w + 3 * (v y + bd_s R v)) := by omega
      rw [Q] at st
      exact bd_ar0 (bd_P_r _).1 lU lE ih st
    · obtain ⟨l0, lU, lL⟩ := ly.2 hk
      have hpos : 0 < (fr y).length := by omega
      obtain ⟨z0, hz0⟩ : ∃ z0, z0 ∈ fr y := by
        cases hq : fr y with
        | nil => rw [hq] at hpos; exact absurd hpos (Nat.lt_irrefl 0)
        | cons a l => exact ⟨a, List.mem_cons_self⟩
      have hA : 1552 ≤ bd_P (bd_s R (fun z => c z + ii z - g z)) := by
        have h1 : c z0 + ii z0 - g z0 ≤ bd_s R (fun z => c z + ii z - g z) := bd_s_mem (h := fun z => c z + ii z - g z) R (hfr z0 hz0)
        have h2 := (rc z0 (hfr z0 hz0)).le
        have h3 : 2 ≤ bd_s R (fun z => c z + ii z - g z) := by omega
        exact bd_P_mono h3
      have s1 : bd_s R (fun z => v z + t * bd_c (fr y) z) = bd_s R v + t * (fr y).length := by rw [bd_s_add, bd_s_mul, sL]
      have s2 : bd_s R (fun z => (u z + (v z + t * bd_c (fr y) z)) * U z) = bd_s R (fun z => (u z + v z) * U z) + t * bd_s (fr y) U := by
        have e : bd_s R (fun z => (u z + (v z + t * bd_c (fr y) z)) * U z) = bd_s R (fun z => (u z + v z) * U z + t * (bd_c (fr y) z * U z)) := bd_s_congr R (fun z _ => by
          have : u z + (v z + t * bd_c (fr y) z) = (u z + v z) + t * bd_c (fr y) z := by omega
          rw [this, Nat.add_mul, Nat.mul_assoc])
        rw [e, bd_s_add, bd_s_mul, sU]
      have ihh : ∀ w', min w (bd_s R v) ≤ w' → t ≤ w' → w' ≤ bd_s R v + t * (fr y).length → 10000 * (12 * Z + (bd_s R (fun z => (u z + v z) * U z) + t * bd_s (fr y) U)) ≤ 12 * (bd_P (bd_s R (fun z => c z + ii z - g z)) * (10 * (Z + bd_s R u) + 10 * w' + 3 * (bd_s R v + t * (fr y).length))) := by
        intro w' w1 w2 w3
        have ih := IH g u (fun z => f z + bd_c (fr y) z) (fun z => v z + t * bd_c (fr y) z) Z w' hn2 ho2 rl (fun z hz => by
          have q := rc z hz
          simp only [if_neg hk] at q
          have e1 : g z + bd_fu mk fr R z = g z + (0 + bd_fu mk fr R z) := by omega
          have e2 : f z + bd_c (fr y) z + bd_fm mk fr R z = f z + (bd_c (fr y) z + bd_fm mk fr R z) := by omega
          show bd_cd (mk z) (c z) (g z + bd_fu mk fr R z) (f z + bd_c (fr y) z + bd_fm mk fr R z) (u z)
          rw [e1, e2]
          exact q) (fun z hz => by
          show v z + t * bd_c (fr y) z ≤ (f z + bd_c (fr y) z) * w'
          have a1 := bd_low (rv z hz) (vY z hz)
          have a2 : f z * min w (bd_s R v) ≤ f z * w' := Nat.mul_le_mul_left _ w1
          have a3 : t * bd_c (fr y) z ≤ bd_c (fr y) z * w' := by
            rw [Nat.mul_comm]
            exact Nat.mul_le_mul_left _ w2
          rw [Nat.add_mul]
          omega) (by rw [s1]; exact w3)
        rw [s1, s2] at ih
        exact ih
      have tl : t ≤ t * (fr y).length := Nat.le_mul_of_pos_right t hpos
      have k12 : mk y = 1 ∨ mk y = 2 := by
        have := cy.2.2.2
        omega
      rcases k12 with k1 | k2
      · have c1 := cy.2.1 k1
        generalize hG : bd_fu mk fr (y :: R) y = Gy at c1
        generalize hF : bd_fm mk fr (y :: R) y = Fy at c1
        by_cases hm : min w (bd_s R v) ≤ t
        · have st := bd_m1 (f := f y) (N := c y + ii y - g y + bd_s R (fun z => c z + ii z - g z)) (N' := bd_s R (fun z => c z + ii z - g z)) (Xr := Z + bd_s R u) (u := u y) (Yr := bd_s R v) (v := v y) (w := w) (w' := t) (by omega) (by omega) vy (Or.inl (by omega))
          rw [ht] at st
          have Q : 10 * (Z + bd_s R u + u y) + 10 * w + 3 * (bd_s R v + v y) = 10 * (Z + (u y + bd_s R u)) + 10 * w + 3 * (v y + bd_s R v) := by omega
          rw [Q] at st
          exact bd_ar1 hA lU lL (ihh t hm (Nat.le_refl t) (by omega)) st
        · have hm1 : min w (bd_s R v) ≤ w := Nat.min_le_left _ _
          have hm2 : min w (bd_s R v) ≤ bd_s R v := Nat.min_le_right _ _
          have st := bd_m1 (f := f y) (N := c y + ii y - g y + bd_s R (fun z => c z + ii z - g z)) (N' := bd_s R (fun z => c z + ii z - g z)) (Xr := Z + bd_s R u) (u := u y) (Yr := bd_s R v) (v := v y) (w := w) (w' := min w (bd_s R v)) (by omega) (by omega) vy (Or.inr ⟨hm1, by omega⟩)
          rw [ht] at st
          have Q : 10 * (Z + bd_s R u + u y) + 10 * w + 3 * (bd_s R v + v y) = 10 * (Z + (u y + bd_s R u)) + 10 * w + 3 * (v y + bd_s R v) := by omega
          rw [Q] at st
          exact bd_ar1 hA lU lL (ihh (min w (bd_s R v)) (Nat.le_refl _) (by omega) (by omega)) st
      · obtain ⟨a1, a2, a3, a4⟩ := cy.2.2.1 k2
        generalize hG : bd_fu mk fr (y :: R) y = Gy at a1
        generalize hF : bd_fm mk fr (y :: R) y = Fy at a2
        have tv : t = v y := by omega
        have vw : v y ≤ w := Nat.le_trans vy (by
          have : f y ≤ 1 := by omega
          have := Nat.mul_le_mul_right w this
          omega)
        have st := bd_m2 (N := c y + ii y - g y + bd_s R (fun z => c z + ii z - g z)) (N' := bd_s R (fun z => c z + ii z - g z)) (X := Z + bd_s R u) (Y := bd_s R v + v y) (v := v y) (w := w) (by omega) vw (by omega)
        have Q : 10 * (Z + bd_s R u) + 10 * w + 3 * (bd_s R v + v y) = 10 * (Z + (u y + bd_s R u)) + 10 * w + 3 * (v y + bd_s R v) := by omega
        rw [Q] at st
        have ih := ihh w (Nat.min_le_left _ _) (by omega) (by
          have : v y ≤ t * (fr y).length := by omega
          omega)
        rw [tv] at ih ⊢
        refine bd_ar2 hA lU lL ih ?_
        have Q2 : 10 * (Z + bd_s R u) + 10 * w + 3 * (bd_s R v + v y) + 6 * v y = 10 * (Z + (u y + bd_s R u)) + 10 * w + 3 * (v y + bd_s R v) + 6 * v y := by omega
        rw [Q2]
        exact st
