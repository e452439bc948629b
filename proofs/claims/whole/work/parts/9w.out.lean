/-! OUT: what has been printed -/
def pz_U (σ σ' : az_Hp) (S : Int → Int → Prop) : Prop := (∀ a, a ≤ 867 → az_ln σ' a = az_ln σ a) ∧ (∀ a k, bz_isFix a k = true → σ'.2 a k = σ.2 a k) ∧ ∀ a k, a ≤ 867 → ¬ S a k → σ'.2 a k = σ.2 a k
theorem pz_U.refl {σ : az_Hp} {S : Int → Int → Prop} : pz_U σ σ S := ⟨fun _ _ => rfl, fun _ _ _ => rfl, fun _ _ _ _ => rfl⟩
theorem pz_U.trans {σ σ' σ'' : az_Hp} {S : Int → Int → Prop} (h : pz_U σ σ' S) (h' : pz_U σ' σ'' S) : pz_U σ σ'' S :=
  ⟨fun a q => (h'.1 a q).trans (h.1 a q), fun a k hk => (h'.2.1 a k hk).trans (h.2.1 a k hk), fun a k q hk => (h'.2.2 a k q hk).trans (h.2.2 a k q hk)⟩
theorem pz_U.weak {σ σ' : az_Hp} {S S' : Int → Int → Prop} (h : pz_U σ σ' S) (hs : ∀ a k, S a k → S' a k) : pz_U σ σ' S' := ⟨h.1, h.2.1, fun a k q hk => h.2.2 a k q (fun z => hk (hs a k z))⟩
theorem pz_U.of {σ σ' : az_Hp} {S : Int → Int → Prop} (h : bz_Upd σ σ' S) : pz_U σ σ' S := ⟨fun a _ => h.ln a, h.2.1, fun a k _ hk => h.2.2 a k hk⟩
theorem pz_len867 : bz_lenL.all (fun p => decide (p.1 ≤ 867)) = true := by decide +kernel
theorem pz_row867 : bz_rowsL.all (fun p => decide (p.1 ≤ 867)) = true := by decide +kernel
theorem pz_U.fx {σ σ' : az_Hp} {S : Int → Int → Prop} (h : bz_Fx σ) (hU : pz_U σ σ' S) : bz_Fx σ' := by
  have hl := hU.1
  have hf := hU.2.1
  unfold bz_Fx bz_chk at h ⊢
  simp only [Bool.and_eq_true] at h ⊢
  obtain ⟨⟨⟨h1, h2⟩, h3⟩, h4⟩ := h
  refine ⟨⟨⟨?_, ?_⟩, ?_⟩, ?_⟩
  · refine List.all_eq_true.mpr fun p hp => ?_
    have q := List.all_eq_true.mp h1 p hp
    rw [hf p.1 p.2.1 (bz_fix_mem (v := p.2.2) hp)]; exact q
  · refine List.all_eq_true.mpr fun p hp => ?_
    have q := List.all_eq_true.mp h2 p hp
    have q' := List.all_eq_true.mp pz_len867 p hp
    rw [hl _ (by simpa using q')]; exact q
  · refine List.all_eq_true.mpr fun p hp => ?_
    have q := List.all_eq_true.mp h3 p hp
    have q' := List.all_eq_true.mp pz_row867 p hp
    simp only [Bool.and_eq_true] at q ⊢
    refine ⟨by rw [hl _ (by simpa using q')]; exact q.1, List.all_eq_true.mpr fun i hi => ?_⟩
    have q2 := List.all_eq_true.mp q.2 i hi
    rw [hf p.1 (i : Int)]
    · exact q2
    · unfold bz_isFix
      have : bz_rowsL.any (fun r => decide (r.1 = p.1)) = true := List.any_eq_true.mpr ⟨_, hp, by simp⟩
      simp [this]
  · refine List.all_eq_true.mpr fun r hr => ?_
    have q := List.all_eq_true.mp h4 r hr
    by_cases hc : 0 < bz_cap (r : Int)
    · have := bz_cap_lt hc
      rw [hl _ (by omega), hf (r : Int) 0 (by unfold bz_isFix; simp [hc])]; exact q
    · simp [hc]
/-- the class's OUT is l -/
def pz_O (σ : az_Hp) (l : List Int) : Prop := ∃ j : Nat, j ≤ 7 ∧ σ.1.1 = 867 + j ∧ σ.1.2.1 ≤ 1100000 + 2048 * 2 ^ j ∧ az_ln σ (σ.2 801 1) = 1024 * 2 ^ j ∧ σ.2 801 1 = (if j = 0 then 802 else 867 + (j : Int)) ∧ σ.2 801 0 = l.length ∧ (l.length : Int) ≤ 1024 * 2 ^ j ∧ ∀ i : Nat, i < l.length → l[i]? = some (σ.2 (σ.2 801 1) i)
def pz_SP (a k : Int) : Prop := (a = 801 ∧ (k = 0 ∨ k = 1)) ∨ a = 802
/-- the reference's -/
def pz_R (σ : az_Hp) (l : List Int) : Prop := σ.2 804 57 = l.length ∧ l.length ≤ 100000 ∧ ∀ i : Nat, i < l.length → l[i]? = some (σ.2 836 i)
def pz_SR (a k : Int) : Prop := (a = 804 ∧ k = 57) ∨ a = 836
theorem pz_pow {j : Nat} (h : j ≤ 7) : (2 : Int) ^ j = 1 ∨ (2 : Int) ^ j = 2 ∨ (2 : Int) ^ j = 4 ∨ (2 : Int) ^ j = 8 ∨ (2 : Int) ^ j = 16 ∨ (2 : Int) ^ j = 32 ∨ (2 : Int) ^ j = 64 ∨ ((2 : Int) ^ j = 128 ∧ j = 7) := by
  have : j = 0 ∨ j = 1 ∨ j = 2 ∨ j = 3 ∨ j = 4 ∨ j = 5 ∨ j = 6 ∨ j = 7 := by omega
  rcases this with rfl | rfl | rfl | rfl | rfl | rfl | rfl | rfl <;> decide
theorem pz_tell {σ : az_Hp} {l : List Int} {c : Int} (hF : bz_Fx σ) (h : pz_R σ l) (hl : l.length < 100000) (c0 : 0 ≤ c) (c1 : c ≤ 127) : ∃ σ', fz_X11_tellsByte σ 804 c = some σ' ∧ bz_Upd σ σ' pz_SR ∧ pz_R σ' (l ++ [c]) := by
  obtain ⟨h1, h2, h3⟩ := h
  have ln := ln_836 hF
  have i2b : az_i2bV c = c := by
    obtain ⟨m, rfl⟩ : ∃ m : Nat, c = m := ⟨c.toNat, by omega⟩
    have key : ∀ m : Fin 128, az_i2bV (m.val : Int) = m.val := by decide +kernel
    exact key ⟨m, by omega⟩
  refine ⟨az_wr (az_wr σ 836 l.length c) 804 57 (l.length + 1), ?_, bz_Upd.wr (bz_Upd.wr bz_Upd.refl (Or.inr rfl) (by unfold bz_isFix; simp [bz_cap, bz_fixL, bz_rowsL])) (Or.inl ⟨rfl, rfl⟩) (by decide), ?_, ?_, fun i hi => ?_⟩
  · unfold fz_X11_tellsByte az_awb
    rw [fx_804_56 hF, Option.bind_some, h1, if_pos (by omega), Option.bind_some, i2b, if_pos ⟨by omega, by omega⟩, Option.bind_some, az_wr_ne (by omega), h1, az_w32_id (by omega) (by omega)]
  · rw [az_wr_same, List.length_append]; rfl
  · rw [List.length_append]; show l.length + 1 ≤ 100000; omega
  · rw [az_wr_ne (by omega)]
    rw [List.length_append] at hi
    have hi' : i < l.length + 1 := hi
    by_cases e : i = l.length
    · subst e
      rw [az_wr_same, List.getElem?_append_right (by omega)]
      simp
    · rw [az_wr_ne (by omega), List.getElem?_append_left (by omega)]
      exact h3 i (by omega)
theorem pz_put52 {σ : az_Hp} {l : List Int} {c : Int} (hF : bz_Fx σ) (h : pz_O σ l) (hl : σ.2 801 0 < az_ln σ (σ.2 801 1)) : ∃ σ', fz_X3_put_52 σ 801 c = some σ' ∧ pz_U σ σ' pz_SP ∧ pz_O σ' (l ++ [c]) := by
  obtain ⟨j, j1, j2, j3, j4, j5, j6, j7, j8⟩ := h
  have pw := pz_pow j1
  have B : (σ.2 801 1 = 802 ∨ 867 < σ.2 801 1) := by
    rw [j5]
    by_cases e : j = 0
    · rw [if_pos e]; exact Or.inl rfl
    · rw [if_neg e]; omega
  have gB : az_gref σ 801 1 = some (σ.2 801 1) := bz_gr rfl (by omega)
  have fB : ∀ k, bz_isFix (σ.2 801 1) k = false := by
    intro k
    have c0 : bz_cap (σ.2 801 1) = 0 := by
      unfold bz_cap
      rw [if_neg (by omega), if_neg (by omega), if_neg (by omega), if_neg (by omega), if_neg (by omega), if_neg (by omega)]
    have n1 : ∀ p ∈ bz_fixL, p.1 ≠ 802 ∧ p.1 ≤ 867 := by
      have : bz_fixL.all (fun p => decide (p.1 ≠ 802 ∧ p.1 ≤ 867)) = true := by decide +kernel
      intro p hp
      simpa using List.all_eq_true.mp this p hp
    have n2 : ∀ p ∈ bz_rowsL, p.1 ≠ 802 ∧ p.1 ≤ 867 := by
      have : bz_rowsL.all (fun p => decide (p.1 ≠ 802 ∧ p.1 ≤ 867)) = true := by decide +kernel
      intro p hp
      simpa using List.all_eq_true.mp this p hp
    unfold bz_isFix
    rw [c0]
    have a1 : bz_fixL.any (fun p => decide (p.1 = σ.2 801 1) && decide (p.2.1 = k)) = false := by
      rw [List.any_eq_false]
      intro p hp
      have := n1 p hp
      simp only [Bool.and_eq_true, decide_eq_true_eq]
      omega
    have a2 : bz_rowsL.any (fun p => decide (p.1 = σ.2 801 1)) = false := by
      rw [List.any_eq_false]
      intro p hp
      have := n2 p hp
      simp only [decide_eq_true_eq]
      omega
    rw [a1, a2]
    rfl
  have u : bz_Upd σ (az_wr (az_wr σ (σ.2 801 1) (σ.2 801 0) c) 801 0 (σ.2 801 0 + 1)) (fun a k => pz_SP a k ∨ 867 < a) := by
    refine bz_Upd.wr (bz_Upd.wr bz_Upd.refl ?_ (fB _)) (Or.inl (Or.inl ⟨rfl, Or.inl rfl⟩)) (by decide)
    rcases B with B | B
    · exact Or.inl (Or.inr B)
    · exact Or.inr B
  have e1 : (az_wr (az_wr σ (σ.2 801 1) (σ.2 801 0) c) 801 0 (σ.2 801 0 + 1)).2 801 1 = σ.2 801 1 := by
    rw [az_wr_ne (by omega), az_wr_ne (by omega)]
  refine ⟨az_wr (az_wr σ (σ.2 801 1) (σ.2 801 0) c) 801 0 (σ.2 801 0 + 1), ?_, ⟨fun a _ => u.ln a, u.2.1, fun a k q hk => u.2.2 a k (fun z => by rcases z with z | z; exact hk z; omega)⟩, j, j1, j2, j3, ?_, ?_, ?_, ?_, fun i hi => ?_⟩
  · unfold fz_X3_put_52
    rw [gB, Option.bind_some, bz_awr (by omega) hl, Option.bind_some, az_wr_ne (by omega), az_w32_id (by omega) (by omega)]
  · rw [e1]; exact j4
  · rw [e1]; exact j5
  · rw [az_wr_same, List.length_append, j6]; rfl
  · rw [List.length_append]; show ((l.length + 1 : Nat) : Int) ≤ _; omega
  · rw [e1, az_wr_ne (by omega)]
    rw [List.length_append] at hi
    have hi' : i < l.length + 1 := hi
    by_cases e : i = l.length
    · subst e
      rw [j6, az_wr_same, List.getElem?_append_right (by omega)]
      simp
    · rw [az_wr_ne (by omega), List.getElem?_append_left (by omega)]
      exact j8 i (by omega)
theorem pz_put {σ : az_Hp} {l : List Int} {c : Int} (hF : bz_Fx σ) (h : pz_O σ l) (hl : l.length < 100000) : ∃ σ', fz_X3_put σ 801 c = some σ' ∧ pz_U σ σ' pz_SP ∧ pz_O σ' (l ++ [c]) := by
  have h' := h
  obtain ⟨j, j1, j2, j3, j4, j5, j6, j7, j8⟩ := h
  have pw := pz_pow j1
  have B : (σ.2 801 1 = 802 ∨ 867 < σ.2 801 1) ∧ σ.2 801 1 ≤ 867 + j := by
    rw [j5]
    by_cases e : j = 0
    · rw [if_pos e]; omega
    · rw [if_neg e]; omega
  have gB : az_gref σ 801 1 = some (σ.2 801 1) := bz_gr rfl (by omega)
  by_cases full : σ.2 801 0 < az_ln σ (σ.2 801 1)
  · obtain ⟨σ', x1, x2, x3⟩ := pz_put52 (c := c) hF h' full
    refine ⟨σ', ?_, x2, x3⟩
    unfold fz_X3_put
    rw [gB, Option.bind_some, if_pos full, x1]
  · have j6' : j ≤ 6 := by
      rcases Nat.lt_or_ge j 7 with q | q
      · omega
      · have e7 : j = 7 := by omega
        have e : (2 : Int) ^ j = 128 := by rw [e7]; decide
        rw [j4, e] at full
        omega
    have w : az_w32 (az_ln σ (σ.2 801 1) * 2) = 1024 * 2 ^ (j + 1) := by
      rw [j4, Int.pow_succ, az_w32_id (by omega) (by omega)]; omega
    have pn : (2 : Nat) ^ j = 1 ∨ (2 : Nat) ^ j = 2 ∨ (2 : Nat) ^ j = 4 ∨ (2 : Nat) ^ j = 8 ∨ (2 : Nat) ^ j = 16 ∨ (2 : Nat) ^ j = 32 ∨ (2 : Nat) ^ j = 64 := by
      have : j = 0 ∨ j = 1 ∨ j = 2 ∨ j = 3 ∨ j = 4 ∨ j = 5 ∨ j = 6 := by omega
      rcases this with rfl | rfl | rfl | rfl | rfl | rfl | rfl <;> decide
    have pz : (1024 * (2 : Int) ^ (j + 1)).toNat = 2048 * 2 ^ j := by
      have : ((2 : Int) ^ j) = ((2 ^ j : Nat) : Int) := by push_cast; rfl
      rw [Int.pow_succ, this]; omega
    have nw : az_new σ 13 (1024 * 2 ^ (j + 1)) = some ((σ.1.1 : Int) + 1, az_more σ 13 (1024 * 2 ^ (j + 1))) := by
      unfold az_new
      rw [if_pos]
      refine ⟨by rw [Int.pow_succ]; omega, by omega, ?_⟩
      rw [pz]; omega
    obtain ⟨σ1, hσ1⟩ : ∃ σ1, σ1 = az_more σ 13 (1024 * 2 ^ (j + 1)) := ⟨_, rfl⟩
    have v1 : ∀ a k, σ1.2 a k = σ.2 a k := fun a k => by rw [hσ1]; rfl
    have l1 : ∀ a, a ≠ (σ.1.1 : Int) + 1 → az_ln σ1 a = az_ln σ a := fun a q => by
      rw [hσ1]; unfold az_ln az_more az_upI; exact if_neg q
    have l2 : az_ln σ1 ((σ.1.1 : Int) + 1) = 1024 * 2 ^ (j + 1) := by
      rw [hσ1]; unfold az_ln az_more az_upI; exact if_pos rfl
    have n1 : σ1.1.1 = 867 + (j + 1) := by rw [hσ1]; show σ.1.1 + 1 = _; omega
    have n2 : σ1.1.2.1 ≤ 1100000 + 2048 * 2 ^ (j + 1) := by
      rw [hσ1]; show σ.1.2.1 + (1024 * (2 : Int) ^ (j + 1)).toNat ≤ _
      rw [pz, Nat.pow_succ]; omega
    have g2 : az_gref σ1 801 1 = some (σ.2 801 1) := bz_gr (v1 801 1) (by omega)
    have new : (σ.1.1 : Int) + 1 = 868 + j := by omega
    rw [new] at nw l1 l2
    have cp : az_cpy σ1 (σ.2 801 1) 0 (868 + j) 0 (σ1.2 801 0) = some (az_cpyV σ1 (σ.2 801 1) 0 (868 + j) 0 (σ.2 801 0)) := by
      unfold az_cpy
      rw [v1 801 0, if_pos]
      refine ⟨by omega, by omega, by omega, by omega, ?_, ?_⟩
      · rw [l1 _ (by omega), j4]; omega
      · rw [l2, Int.pow_succ]; omega
    obtain ⟨σ2, hσ2⟩ : ∃ σ2, σ2 = az_wr (az_cpyV σ1 (σ.2 801 1) 0 (868 + j) 0 (σ.2 801 0)) 801 1 (868 + j) := ⟨_, rfl⟩
    have s1 : σ2.1 = σ1.1 := by rw [hσ2]; rfl
    have v2 : ∀ a k, a ≤ 867 → ¬ (a = 801 ∧ k = 1) → σ2.2 a k = σ.2 a k := fun a k q q' => by
      rw [hσ2, az_wr_ne q']
      simp only [az_cpyV]
      rw [if_neg (by omega), v1]
    have v3 : σ2.2 801 1 = 868 + j := by rw [hσ2]; exact az_wr_same
    have v4 : ∀ i : Int, 0 ≤ i → i < σ.2 801 0 → σ2.2 (868 + j) i = σ.2 (σ.2 801 1) i := fun i i0 i1 => by
      rw [hσ2, az_wr_ne (by omega)]
      simp only [az_cpyV]
      rw [if_pos ⟨trivial, by omega, by omega⟩, v1, show 0 + (i - 0) = i by omega]
    have l3 : ∀ a, az_ln σ2 a = az_ln σ1 a := fun a => by unfold az_ln; rw [s1]
    have u2 : pz_U σ σ2 pz_SP := by
      refine ⟨fun a q => by rw [l3, l1 a (by omega)], fun a k hk => ?_, fun a k q hk => v2 a k q (fun z => hk (Or.inl ⟨z.1, Or.inr z.2⟩))⟩
      have ha : a ≤ 867 := by
        have all : ∀ p ∈ bz_fixL, p.1 ≤ 867 := by
          have : bz_fixL.all (fun p => decide (p.1 ≤ 867)) = true := by decide +kernel
          intro p hp
          simpa using List.all_eq_true.mp this p hp
        have all2 : ∀ p ∈ bz_rowsL, p.1 ≤ 867 := fun p hp => by simpa using List.all_eq_true.mp pz_row867 p hp
        unfold bz_isFix at hk
        simp only [Bool.or_eq_true, Bool.and_eq_true, decide_eq_true_eq, List.any_eq_true] at hk
        rcases hk with (hk | ⟨p, hp, hk⟩) | ⟨p, hp, hk⟩
        · have := bz_cap_lt hk.1; omega
        · have := all p hp; omega
        · have := all2 p hp; omega
      refine v2 a k ha (fun z => ?_)
      have : bz_isFix 801 1 = false := by decide
      rw [z.1, z.2, this] at hk
      cases hk
    have O2 : pz_O σ2 l := by
      refine ⟨j + 1, by omega, by rw [s1]; exact n1, by rw [s1]; exact n2, by rw [v3, l3]; exact l2, by rw [v3, if_neg (by omega)]; push_cast; omega, by rw [v2 801 0 (by omega) (by omega)]; exact j6, by rw [Int.pow_succ]; omega, fun i hi => ?_⟩
      rw [v3, v4 i (by omega) (by omega)]
      exact j8 i hi
    obtain ⟨σ', x1, x2, x3⟩ := pz_put52 (c := c) (u2.fx hF) O2 (by rw [v2 801 0 (by omega) (by omega), v3, l3, l2, Int.pow_succ]; omega)
    refine ⟨σ', ?_, u2.trans x2, x3⟩
    unfold fz_X3_put
    rw [gB, Option.bind_some, if_neg full, Option.bind_some, if_neg (by omega), Option.bind_some, w, nw, Option.bind_some]
    simp only [← hσ1]
    rw [g2, Option.bind_some, cp, Option.bind_some, ← hσ2, x1]
