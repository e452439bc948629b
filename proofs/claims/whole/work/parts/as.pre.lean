/-! the head of a line: a constructor or a family -/
def ld_X (T a k : Int) : Prop := (T ≤ a ∧ a ≤ T + 78) ∨ (223 ≤ a ∧ a ≤ 230) ∨ (a = 161 ∧ k = 2) ∨ a = 166
/-- the reference: the reader's cells, and its side s alone of what is told -/
def ld_M (s a k : Int) : Prop := (a = 804 ∧ ((6 ≤ k ∧ k ≤ 10) ∨ k = 13 ∨ (31 ≤ k ∧ k ≤ 34) ∨ k = 37 ∨ k = 38)) ∨ (820 ≤ a ∧ a ≤ 822) ∨ (806 ≤ a ∧ a ≤ 808 ∧ k = s) ∨ ((a = 809 ∨ a = 811) ∧ 8 * s ≤ k ∧ k < 8 * s + 8) ∨ ((a = 810 ∨ (812 ≤ a ∧ a ≤ 814)) ∧ 5 * s ≤ k ∧ k < 5 * s + 5) ∨ ((a = 815 ∨ a = 816) ∧ 256 * s ≤ k ∧ k < 256 * s + 256) ∨ (817 ≤ a ∧ a ≤ 819 ∧ 16 * s ≤ k ∧ k < 16 * s + 16)
def ld_MB (s a k : Int) : Prop := ld_M s a k ∨ (a = 804 ∧ (k = 11 ∨ k = 12))
def ld_Bad (T s : Int) (x m : az_Hp) (A B : Option (Int × az_Hp)) : Prop := ∃ x' m', A = some (0, x') ∧ B = some (0, m') ∧ bz_Upd x x' (ld_X T) ∧ bz_Upd m m' (ld_MB s) ∧ lx_fault x' m'
def ld_S (tp : Int → Int) (N : Int) (x m : az_Hp) (T s : Int) (J j : Nat) : Prop := (bz_Fx x ∧ bz_Fx m) ∧ lx_Cur x m tp N J j ∧ ld_T x m T s ∧ x.2 223 11 = T
section HD
variable {tp : Int → Int} {N : Int} {T s : Int} {J : Nat}
theorem ld_Bad.from {x m x1 m1 : az_Hp} {A B : Option (Int × az_Hp)} (ux : bz_Upd x x1 (ld_X T)) (um : bz_Upd m m1 (ld_M s)) (h : ld_Bad T s x1 m1 A B) : ld_Bad T s x m A B := by
  obtain ⟨x', m', a, b, c, d, e⟩ := h
  exact ⟨x', m', a, b, ux.trans c, (um.weak fun _ _ z => Or.inl z).trans d, e⟩
theorem ld_bad {x m : az_Hp} {j : Nat} (C : lx_Cur x m tp N J j) (k : Int) : ∃ x' m', ((fz_X4_fail x 223 k).bind fun q => (if q.1 = 0 ∨ q.1 = 1 then some (q.1, q.2) else none)) = some (0, x') ∧ ((fz_X11_bad m 804 k).bind fun q => (if q.1 = 0 ∨ q.1 = 1 then some (q.1, q.2) else none)) = some (0, m') ∧ bz_Upd x x' (ld_X T) ∧ bz_Upd m m' (ld_MB s) ∧ lx_fault x' m' := by
  obtain ⟨x', m', a, b, c, d, e⟩ := lx_fail C k
  exact ⟨x', m', by rw [a, Option.bind_some, if_pos (Or.inl rfl)], by rw [b, Option.bind_some, if_pos (Or.inl rfl)], c.weak fun a k z => Or.inr (Or.inl (by omega)), d.weak fun a k z => Or.inr z, e⟩
theorem ld_step {x m : az_Hp} {j : Nat} (h : ld_S tp N x m T s J j) (k0 : lx_kj tp N j ≠ 0) (k1 : lx_kj tp N j ≠ 1) : ∃ x' m', fz_X4_next x 223 = some x' ∧ fz_X11_go 2000000 m 804 = some m' ∧ ld_S tp N x' m' T s J (j + 1) ∧ bz_Upd x x' lx_nX ∧ bz_Upd m m' lx_S := by
  have hT := h.2.2.1.1.1
  obtain ⟨x', m', a, b, c, d, e⟩ := lx_next h.1.1 h.1.2 h.2.1 k0 k1
  refine ⟨x', m', a, b, ⟨⟨h.1.1.upd d, h.1.2.upd e⟩, c, h.2.2.1.gen d e (fun a k z => by unfold lx_nX at z; omega) (fun a k z => by unfold lx_S at z; omega), ?_⟩, d, e⟩
  rw [d.2.2 223 11 (fun z => by unfold lx_nX at z; omega)]; exact h.2.2.2
theorem ld_fresh {x m : az_Hp} {v : Int} (hF : bz_Fx x) (h : rd_Nm x m T s) (hc : fz_X9_codeOf 2000000 x T v = some (-1)) : (∀ k, 0 ≤ k → k < x.2 T 0 → x.2 (T + 1) k ≠ v) ∧ ∀ k, 0 ≤ k → k < x.2 T 1 → x.2 (T + 3) k ≠ v := by
  obtain ⟨hT, hs, n15, -, ⟨t1, t2, t3, t4, t5, t6⟩, n6, n7, n8⟩ := h
  have cO := rd_codeOf (v := v) hF hT t1 t2 t3 t4
  rw [hc] at cO
  have sC := rd_first_spec (f := fun i => decide (x.2 (T + 1) i = v)) (x.2 T 0).toNat 0 (by omega)
  have sF := rd_first_spec (f := fun i => decide (x.2 (T + 3) i = v)) (x.2 T 1).toNat 0 (by omega)
  obtain ⟨c, hc'⟩ : ∃ c, c = rd_first (fun i => decide (x.2 (T + 1) i = v)) (x.2 T 0).toNat 0 := ⟨_, rfl⟩
  obtain ⟨f, hf'⟩ : ∃ f, f = rd_first (fun i => decide (x.2 (T + 3) i = v)) (x.2 T 1).toNat 0 := ⟨_, rfl⟩
  rw [← hc'] at cO sC
  rw [← hf'] at cO sF
  simp only [Option.some.injEq] at cO
  rcases sC with ⟨a, a'⟩ | ⟨a1, a2, a3, -⟩
  · rw [if_pos a] at cO
    rcases sF with ⟨b, b'⟩ | ⟨b1, b2, b3, -⟩
    · exact ⟨fun k k0 k1 q => by have := a' k k0 (by omega); simp [q] at this, fun k k0 k1 q => by have := b' k k0 (by omega); simp [q] at this⟩
    · exfalso
      rw [if_neg (by omega), (n7 f b1 (by omega)).2] at cO
      have := t6 f b1 (by omega)
      omega
  · exfalso
    rw [if_neg (by omega), (n6 c a1 (by omega)).2] at cO
    have := t5 c a1 (by omega)
    omega
/-- up to the number -/
theorem ld_pre {x m : az_Hp} {j : Nat} {kd cl n w1 : Int} (h : ld_S tp N x m T s J j) (hk : lx_kj tp N j = 3) (hkd : kd = 1 ∨ kd = 2) (hn : n ≠ w1) :
    ld_Bad T s x m (fz_X4_readHead 2000000 x 223 kd cl) (fz_X11_readTold_37 2000000 m 804 (if kd = 1 then 1 else 0) cl n n w1) ∨
    ∃ x' m' v w ar, fz_X4_readHead 2000000 x 223 kd cl = fz_X4_readHead_87 2000000 x' 223 kd cl v ar ∧ fz_X11_readTold_37 2000000 m 804 (if kd = 1 then 1 else 0) cl n n w1 = fz_X11_readTold_132 2000000 m' 804 (if kd = 1 then 1 else 0) cl n w ar (if kd = 1 then 0 else 1) ∧ ld_S tp N x' m' T s J (j + 2) ∧ lx_kj tp N (j + 2) = 4 ∧ m'.2 804 9 = ar ∧ ((0 ≤ ar ∧ ar ≤ 3) ∧ (kd = 2 → 1 ≤ ar)) ∧ bz_WR 64 v w ∧ (∀ k, 0 ≤ k → k < x'.2 T 0 → x'.2 (T + 1) k ≠ v) ∧ (∀ k, 0 ≤ k → k < x'.2 T 1 → x'.2 (T + 3) k ≠ v) ∧ bz_Upd x x' (ld_X T) ∧ bz_Upd m m' (ld_M s) ∧ bz_Upd x x' lx_nX ∧ bz_Upd m m' lx_S := by
  obtain ⟨x1, m1, a1, a2, S1, a4, a5⟩ := ld_step h (by omega) (by omega)
  have u1 : bz_Upd x x1 (ld_X T) := a4.weak fun a k z => Or.inr (Or.inl (by unfold lx_nX at z; omega))
  have v1 : bz_Upd m m1 (ld_M s) := a5.weak fun a k z => Or.inl (by unfold lx_S at z; omega)
  have C1 := S1.2.1
  have hT := S1.2.2.1.1.1
  have h8 : x1.2 223 8 = lx_kj tp N (j + 1) := C1.2.2.1.2.1
  have k2 := (lx_kind C1).2.2.1
  unfold fz_X4_readHead fz_X11_readTold_37
  rw [a1, Option.bind_some, if_neg hn, a2, Option.bind_some]
  by_cases c2 : lx_kj tp N (j + 1) = 2
  · rw [if_pos (by omega), if_pos (k2.mpr c2)]
    have gT : az_gref x1 223 11 = some T := bz_gr S1.2.2.2 (by omega)
    obtain ⟨c, f, fo, co, cs⟩ := rd_name S1.1.1 S1.1.2 C1 c2 S1.2.2.1.1
    rw [gT, Option.bind_some, fo, Option.bind_some, co, Option.bind_some]
    by_cases none' : c = -1 ∧ f = -1
    · have hc : fz_X9_codeOf 2000000 x1 T (x1.2 223 9) = some (-1) := by
        rcases cs with z | z | z
        · exact z.2.2
        · omega
        · omega
      rw [hc, Option.bind_some, if_pos rfl, if_pos none'.2, if_pos none'.1]
      have fr := ld_fresh S1.1.1 S1.2.2.1.1 hc
      obtain ⟨x2, m2, b1, b2, S2, b4, b5⟩ := ld_step S1 (by omega) (by omega)
      have u2 : bz_Upd x1 x2 (ld_X T) := b4.weak fun a k z => Or.inr (Or.inl (by unfold lx_nX at z; omega))
      have v2 : bz_Upd m1 m2 (ld_M s) := b5.weak fun a k z => Or.inl (by unfold lx_S at z; omega)
      have C2 := S2.2.1
      have h82 : x2.2 223 8 = lx_kj tp N (j + 1 + 1) := C2.2.2.1.2.1
      have k4 := (lx_kind C2).2.2.2.2
      rw [b1, Option.bind_some, b2, Option.bind_some]
      by_cases c4 : lx_kj tp N (j + 1 + 1) = 4
      · rw [if_pos (by omega), if_pos (k4.mpr c4)]
        have h92 : x2.2 223 9 = lx_vj tp N (j + 1 + 1) := C2.2.2.1.2.2.1 (by omega) (by omega)
        have nv : m2.2 804 9 = lx_vj tp N (j + 1 + 1) ∧ 0 ≤ lx_vj tp N (j + 1 + 1) ∧ lx_vj tp N (j + 1 + 1) ≤ 9 := by
          rcases C2.2.2.2.2.1.2 with ⟨q, -⟩ | ⟨q, -⟩ | ⟨q, -, -⟩ | ⟨q, -, -⟩ | ⟨-, -, w⟩ | ⟨q, -, -⟩
          · omega
          · omega
          · omega
          · omega
          · exact w
          · rw [lx_sgnP] at q; omega
        have wr : bz_WR 64 (x1.2 223 9) (m1.2 804 13) := by
          rw [C1.2.2.1.2.2.1 (by omega) (by omega)]
          rcases C1.2.2.2.2.1.2 with ⟨q, -⟩ | ⟨q, -⟩ | ⟨-, -, w⟩ | ⟨q, -, -⟩ | ⟨q, -, -⟩ | ⟨q, -, -⟩
          · omega
          · omega
          · exact w
          · omega
          · omega
          · rw [lx_sgnP] at q; omega
        rw [h92, nv.1]
        have eM : (if (if kd = 1 then (1 : Int) else 0) = 0 then fz_X11_readTold_132 2000000 m2 804 (if kd = 1 then 1 else 0) cl n (m1.2 804 13) (lx_vj tp N (j + 1 + 1)) 1 else fz_X11_readTold_132 2000000 m2 804 (if kd = 1 then 1 else 0) cl n (m1.2 804 13) (lx_vj tp N (j + 1 + 1)) 0) = fz_X11_readTold_132 2000000 m2 804 (if kd = 1 then 1 else 0) cl n (m1.2 804 13) (lx_vj tp N (j + 1 + 1)) (if kd = 1 then 0 else 1) := by
          rcases hkd with z | z
          · rw [if_pos z, if_neg (show ¬ (1 : Int) = 0 by decide), if_pos z]
          · rw [if_neg (show ¬ kd = 1 by omega), if_pos rfl, if_neg (show ¬ kd = 1 by omega)]
        rw [eM]
        by_cases wrong : 3 < lx_vj tp N (j + 1 + 1) ∨ (kd = 2 ∧ lx_vj tp N (j + 1 + 1) = 0)
        · left
          obtain ⟨x3, m3, d1, d2, d3, d4, d5⟩ := ld_bad (T := T) (s := s) C2 5
          refine ld_Bad.from (u1.trans u2) (v1.trans v2) ⟨x3, m3, ?_, ?_, d3, d4, d5⟩
          · by_cases z : 3 < lx_vj tp N (j + 1 + 1)
            · rw [if_pos z, d1]
            · rw [if_neg z, if_pos (by omega), if_pos (by omega), d1]
          · unfold fz_X11_readTold_132 fz_X11_isFrom
            by_cases z : kd = 1
            · rw [if_pos z, if_neg (by omega), if_pos (by omega), Option.bind_some, if_pos rfl, d2]
            · rw [if_neg z]
              by_cases z2 : lx_vj tp N (j + 1 + 1) < 1
              · rw [if_pos z2, Option.bind_some, if_pos rfl, d2]
              · rw [if_neg z2, if_pos (by omega), Option.bind_some, if_pos rfl, d2]
        · right
          have T01 : ∀ a k, T ≤ a → a ≤ T + 78 → x2.2 a k = x1.2 a k := fun a k p q => b4.2.2 a k (fun z => by unfold lx_nX at z; omega)
          refine ⟨x2, m2, x1.2 223 9, m1.2 804 13, lx_vj tp N (j + 1 + 1), ?_, rfl, S2, c4, nv.1, ⟨⟨nv.2.1, by omega⟩, fun z => by omega⟩, wr, fun k k0 k1 => ?_, fun k k0 k1 => ?_, u1.trans u2, v1.trans v2, a4.trans b4, a5.trans b5⟩
          · rw [if_neg (by omega)]
            by_cases z : kd = 2
            · rw [if_pos z, if_neg (by omega)]
            · rw [if_neg z]
          · rw [T01 T 0 (by omega) (by omega)] at k1
            rw [T01 (T + 1) k (by omega) (by omega)]; exact fr.1 k k0 k1
          · rw [T01 T 1 (by omega) (by omega)] at k1
            rw [T01 (T + 3) k (by omega) (by omega)]; exact fr.2 k k0 k1
      · left
        rw [if_neg (by omega), if_neg (fun z => c4 (k4.mp z))]
        obtain ⟨x3, m3, d1, d2, d3, d4, d5⟩ := ld_bad (T := T) (s := s) C2 2
        exact ld_Bad.from (u1.trans u2) (v1.trans v2) ⟨x3, m3, d1, d2, d3, d4, d5⟩
    · left
      obtain ⟨x3, m3, d1, d2, d3, d4, d5⟩ := ld_bad (T := T) (s := s) C1 4
      refine ld_Bad.from u1 v1 ⟨x3, m3, ?_, ?_, d3, d4, d5⟩
      · rcases cs with z | z | z
        · exact absurd ⟨z.1, z.2.1⟩ none'
        · have := S1.2.2.1.1.2.2.2.2.1.2.2.2.2.1 c z.1 z.2.1
          rw [z.2.2.2, Option.bind_some, if_neg (by omega), d1]
        · have := S1.2.2.1.1.2.2.2.2.1.2.2.2.2.2 f z.2.1 z.2.2.1
          rw [z.2.2.2, Option.bind_some, if_neg (by omega), d1]
      · by_cases z : f = -1
        · rw [if_pos z, if_neg (fun y => none' ⟨y, z⟩), d2]
        · rw [if_neg z, d2]
  · left
    rw [if_neg (by omega), if_neg (fun z => c2 (k2.mp z))]
    obtain ⟨x3, m3, d1, d2, d3, d4, d5⟩ := ld_bad (T := T) (s := s) C1 2
    exact ld_Bad.from u1 v1 ⟨x3, m3, d1, d2, d3, d4, d5⟩
end HD
