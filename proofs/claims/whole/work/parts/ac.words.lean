/-! the seven words; variables; names -/
def rd_wl (k : Int) : List Int := if k = 0 then [14, 15, 3] else if k = 1 then [14, 5, 16, 15] else if k = 2 then [4, 5, 19, 15, 12, 3] else if k = 3 then [11, 3, 1, 2] else if k = 4 then [17, 5] else if k = 5 then [14, 5, 22, 9, 7] else [20, 14, 1, 23]
def rd_W (k : Int) : Int := bz_num 27 (rd_wl k)
theorem rd_Wv : rd_W 0 = 2606 ∧ rd_W 1 = 307058 ∧ rd_W 2 = 49733248 ∧ rd_W 3 = 40187 ∧ rd_W 4 = 152 ∧ rd_W 5 = 3913421 ∧ rd_W 6 = 453836 := by decide
theorem rd_wordOf {m : az_Hp} {k : Int} (k0 : 0 ≤ k) (k1 : k < 7) : fz_X11_wordOf m k = some (bz_num 256 (bz_bys 96 (rd_wl k))) := by
  have : k = 0 ∨ k = 1 ∨ k = 2 ∨ k = 3 ∨ k = 4 ∨ k = 5 ∨ k = 6 := by omega
  rcases this with rfl | rfl | rfl | rfl | rfl | rfl | rfl <;> rfl
theorem rd_wlOk {k : Int} (k0 : 0 ≤ k) (k1 : k < 7) : bz_let (rd_wl k) := by
  have : k = 0 ∨ k = 1 ∨ k = 2 ∨ k = 3 ∨ k = 4 ∨ k = 5 ∨ k = 6 := by omega
  unfold bz_let
  rcases this with rfl | rfl | rfl | rfl | rfl | rfl | rfl <;> decide
section WD
variable {tp : Int → Int} {N : Int} {x m : az_Hp} {J j : Nat}
theorem rd_isWord (h : lx_Cur x m tp N J j) {k : Int} (k0 : 0 ≤ k) (k1 : k < 7) : fz_X4_isWord x 223 (rd_W k) = some (if lx_kj tp N j = 3 ∧ lx_vj tp N j = rd_W k then 1 else 0) ∧ fz_X11_isWord m 804 k = some (if lx_kj tp N j = 3 ∧ lx_vj tp N j = rd_W k then 1 else 0) := by
  have kd := lx_kind h
  obtain ⟨-, -, ⟨-, h4, h5, -⟩, -, ⟨-, hm⟩, -⟩ := h
  unfold fz_X4_isWord fz_X11_isWord
  by_cases c : lx_kj tp N j = 3
  · have wr : bz_WR 96 (lx_vj tp N j) (m.2 804 13) := by
      rcases hm with ⟨e, q⟩ | ⟨e, q⟩ | ⟨e, q, -⟩ | ⟨e, q, w⟩ | ⟨e, q, -⟩ | ⟨e, q, q2⟩
      · omega
      · omega
      · omega
      · exact w
      · omega
      · rw [lx_sgnP] at e; omega
    have wi := wr.inj (Or.inr rfl) (⟨rd_wl k, rd_wlOk k0 k1, rfl, rfl⟩ : bz_WR 96 (rd_W k) (bz_num 256 (bz_bys 96 (rd_wl k))))
    rw [if_pos (by omega), h5 (by omega) (by omega), if_pos (kd.2.2.2.1.mpr c), rd_wordOf k0 k1, Option.bind_some]
    by_cases e : lx_vj tp N j = rd_W k
    · rw [if_pos e, if_pos ⟨c, e⟩, if_pos (rd_lcmp.mpr (wi.mp e))]
      exact ⟨rfl, rfl⟩
    · rw [if_neg e, if_neg (fun z => e z.2), if_neg (fun z => e (wi.mpr (rd_lcmp.mp z)))]
      exact ⟨rfl, rfl⟩
  · rw [if_neg (by omega), if_neg (fun z => c z.1), if_neg (fun z => c (kd.2.2.2.1.mp z))]
    exact ⟨rfl, rfl⟩
def rd_rest (v : Int) : Nat → Int → Bool
  | 0, _ => true
  | d + 1, i => !decide (v = rd_W i) && rd_rest v d (i + 1)
def rd_nr (v : Int) : Bool := rd_rest v 7 0
theorem rd_nrX {v : Int} : rd_nr v = true ↔ v ≠ 2606 ∧ v ≠ 307058 ∧ v ≠ 49733248 ∧ v ≠ 40187 ∧ v ≠ 152 ∧ v ≠ 3913421 ∧ v ≠ 453836 := by
  obtain ⟨a, b, c, d, e, f, g⟩ := rd_Wv
  unfold rd_nr
  simp only [rd_rest, Bool.and_eq_true, Bool.not_eq_true', decide_eq_false_iff_not, and_true]
  rw [show (0 : Int) + 1 = 1 from rfl, show (1 : Int) + 1 = 2 from rfl, show (2 : Int) + 1 = 3 from rfl, show (3 : Int) + 1 = 4 from rfl, show (4 : Int) + 1 = 5 from rfl, show (5 : Int) + 1 = 6 from rfl, a, b, c, d, e, f, g]
theorem rd_isVar (h : lx_Cur x m tp N J j) : fz_X4_isVariable x 223 = some (if lx_kj tp N j = 3 ∧ rd_nr (lx_vj tp N j) = true then 1 else 0) ∧ fz_X11_isVariable 2000000 m 804 = some (if lx_kj tp N j = 3 ∧ rd_nr (lx_vj tp N j) = true then 1 else 0) := by
  have kd := lx_kind h
  have h' := h
  obtain ⟨-, -, ⟨-, h4, h5, -⟩, -, -, -⟩ := h
  constructor
  · unfold fz_X4_isVariable
    by_cases c : lx_kj tp N j = 3
    · rw [if_pos (by omega), h5 (by omega) (by omega)]
      by_cases n : rd_nr (lx_vj tp N j) = true
      · rw [if_pos (show lx_kj tp N j = 3 ∧ rd_nr (lx_vj tp N j) = true from ⟨c, n⟩)]
        obtain ⟨a1, a2, a3, a4, a5, a6, a7⟩ := rd_nrX.mp n
        rw [if_neg a1, if_neg a2, if_neg a3, if_neg a4, if_neg a5, if_neg a6, if_neg a7]
      · rw [if_neg (show ¬ (lx_kj tp N j = 3 ∧ rd_nr (lx_vj tp N j) = true) from fun z => n z.2)]
        rw [rd_nrX] at n
        by_cases a1 : lx_vj tp N j = 2606
        · rw [if_pos a1]
        · rw [if_neg a1]
          by_cases a2 : lx_vj tp N j = 307058
          · rw [if_pos a2]
          · rw [if_neg a2]
            by_cases a3 : lx_vj tp N j = 49733248
            · rw [if_pos a3]
            · rw [if_neg a3]
              by_cases a4 : lx_vj tp N j = 40187
              · rw [if_pos a4]
              · rw [if_neg a4]
                by_cases a5 : lx_vj tp N j = 152
                · rw [if_pos a5]
                · rw [if_neg a5]
                  by_cases a6 : lx_vj tp N j = 3913421
                  · rw [if_pos a6]
                  · rw [if_neg a6, if_pos (by
                      by_cases a7 : lx_vj tp N j = 453836
                      · exact a7
                      · exact absurd ⟨a1, a2, a3, a4, a5, a6, a7⟩ n)]
    · rw [if_neg (by omega), if_neg (fun z => c z.1)]
  · have gen : ∀ (d k : Nat) (i : Int), d < k → 0 ≤ i → i + d = 7 → fz_X11_isVariable_2 2000000 k m 804 i = some (if lx_kj tp N j = 3 ∧ rd_rest (lx_vj tp N j) d i = true then 1 else 0) := by
      intro d
      induction d with
      | zero =>
        intro k i hk i0 hi
        obtain ⟨k, rfl⟩ : ∃ k', k = k' + 1 := ⟨k - 1, by omega⟩
        unfold fz_X11_isVariable_2
        rw [if_neg (by omega)]
        by_cases c : lx_kj tp N j = 3
        · rw [if_pos (kd.2.2.2.1.mpr c), if_pos ⟨c, rfl⟩]
        · rw [if_neg (fun z => c (kd.2.2.2.1.mp z)), if_neg (fun z => c z.1)]
      | succ d ih =>
        intro k i hk i0 hi
        obtain ⟨k, rfl⟩ : ∃ k', k = k' + 1 := ⟨k - 1, by omega⟩
        unfold fz_X11_isVariable_2
        rw [if_pos (by omega), (rd_isWord h' i0 (by omega)).2, Option.bind_some]
        have e : rd_rest (lx_vj tp N j) (d + 1) i = (!decide (lx_vj tp N j = rd_W i) && rd_rest (lx_vj tp N j) d (i + 1)) := rfl
        by_cases c : lx_kj tp N j = 3 ∧ lx_vj tp N j = rd_W i
        · rw [if_pos c, if_neg (show ¬ (1 : Int) = 0 by decide), if_neg (by rw [e]; simp [c.2])]
        · rw [if_neg c, if_pos rfl, az_w32_id (by omega) (by omega), ih k (i + 1) (by omega) (by omega) (by push_cast at hi; omega), e]
          by_cases c3 : lx_kj tp N j = 3
          · have nv : ¬ lx_vj tp N j = rd_W i := fun z => c ⟨c3, z⟩
            simp [nv]
          · rw [if_neg (fun z => c3 z.1), if_neg (fun z => c3 z.1)]
    exact gen 7 2000000 0 (by omega) (by omega) (by omega)
/-- a NAME -/
theorem rd_name {T s : Int} (hX : bz_Fx x) (hM : bz_Fx m) (h : lx_Cur x m tp N J j) (hk : lx_kj tp N j = 2) (hN : rd_Nm x m T s) : ∃ c f, fz_X11_famOf 2000000 m 804 (m.2 804 13) = some f ∧ fz_X11_conOf 2000000 m 804 (m.2 804 13) = some c ∧ ((c = -1 ∧ f = -1 ∧ fz_X9_codeOf 2000000 x T (x.2 223 9) = some (-1)) ∨ (0 ≤ c ∧ c < x.2 T 0 ∧ f = -1 ∧ fz_X9_codeOf 2000000 x T (x.2 223 9) = some (c * 16 + bz_ct m s c * 4 + 1)) ∨ (c = -1 ∧ 0 ≤ f ∧ f < x.2 T 1 ∧ fz_X9_codeOf 2000000 x T (x.2 223 9) = some (f * 16 + bz_ft m s f * 4 + 2))) := by
  obtain ⟨-, -, ⟨-, h4, h5, -⟩, -, ⟨-, hm⟩, -⟩ := h
  have wr : bz_WR 64 (lx_vj tp N j) (m.2 804 13) := by
    rcases hm with ⟨e, q⟩ | ⟨e, q⟩ | ⟨e, q, w⟩ | ⟨e, q, w⟩ | ⟨e, q, -⟩ | ⟨e, q, q2⟩
    · omega
    · omega
    · exact w
    · omega
    · omega
    · rw [lx_sgnP] at e; omega
  rw [h5 (by omega) (by omega)]
  obtain ⟨n1, n2, n3, ⟨n4, n4'⟩, n5, n6, n7, n8⟩ := hN
  obtain ⟨t1, t2, t3, t4, t5, t6⟩ := n5
  have cC := rd_conOf (w := m.2 804 13) hM n2 n3 n4.symm t1 t2
  have cF := rd_famOf (w := m.2 804 13) hM n2 n3 n4'.symm t3 t4
  have eC : rd_first (fun i => decide (m.2 809 (8 * s + i) = m.2 804 13)) (x.2 T 0).toNat 0 = rd_first (fun i => decide (x.2 (T + 1) i = lx_vj tp N j)) (x.2 T 0).toNat 0 := rd_first_congr _ _ (fun i i0 i1 => by
    have := (n6 i i0 (by omega)).1.inj (Or.inl rfl) wr
    exact decide_eq_decide.mpr this.symm)
  have eF : rd_first (fun i => decide (m.2 810 (5 * s + i) = m.2 804 13)) (x.2 T 1).toNat 0 = rd_first (fun i => decide (x.2 (T + 3) i = lx_vj tp N j)) (x.2 T 1).toNat 0 := rd_first_congr _ _ (fun i i0 i1 => by
    have := (n7 i i0 (by omega)).1.inj (Or.inl rfl) wr
    exact decide_eq_decide.mpr this.symm)
  rw [eC] at cC
  rw [eF] at cF
  have cO := rd_codeOf (v := lx_vj tp N j) hX n1 t1 t2 t3 t4
  have sC := rd_first_spec (f := fun i => decide (x.2 (T + 1) i = lx_vj tp N j)) (x.2 T 0).toNat 0 (by omega)
  have sF := rd_first_spec (f := fun i => decide (x.2 (T + 3) i = lx_vj tp N j)) (x.2 T 1).toNat 0 (by omega)
  refine ⟨_, _, cF, cC, ?_⟩
  obtain ⟨c, hc⟩ : ∃ c, c = rd_first (fun i => decide (x.2 (T + 1) i = lx_vj tp N j)) (x.2 T 0).toNat 0 := ⟨_, rfl⟩
  obtain ⟨f, hf⟩ : ∃ f, f = rd_first (fun i => decide (x.2 (T + 3) i = lx_vj tp N j)) (x.2 T 1).toNat 0 := ⟨_, rfl⟩
  rw [← hc] at cO sC ⊢
  rw [← hf] at cO sF ⊢
  rw [cO]
  rcases sC with ⟨a, -⟩ | ⟨a1, a2, a3, -⟩
  · rw [if_pos a]
    rcases sF with ⟨b, -⟩ | ⟨b1, b2, b3, -⟩
    · rw [if_pos b]; exact Or.inl ⟨a, b, rfl⟩
    · rw [if_neg (by omega)]
      exact Or.inr (Or.inr ⟨a, b1, by omega, by rw [(n7 f b1 (by omega)).2]⟩)
  · rw [if_neg (by omega)]
    rcases sF with ⟨b, -⟩ | ⟨b1, b2, b3, -⟩
    · exact Or.inr (Or.inl ⟨a1, by omega, b, by rw [(n6 c a1 (by omega)).2]⟩)
    · exfalso
      have q1 : x.2 (T + 1) c = lx_vj tp N j := by simpa using a3
      have q2 : x.2 (T + 3) f = lx_vj tp N j := by simpa using b3
      exact n8 c f a1 (by omega) b1 (by omega) (q1.trans q2.symm)
end WD
