/-! what is WANTED changes -/
def wt_nw (a k : Int) : Prop := cz_nt a k ∨ a = 380 ∨ a = 381 ∨ a = 383 ∨ (789 ≤ a ∧ a ≤ 800) ∨ a = 858 ∨ a = 859 ∨ a = 863 ∨ a = 864 ∨ (a = 804 ∧ (k = 87 ∨ k = 101 ∨ (108 ≤ k ∧ k ≤ 111))) ∨ (a = 243 ∧ k = 4)
theorem wt_keep {σ σ' : az_Hp} {T s : Int} (hU : bz_Upd σ σ' wt_nw) (ht' : cz_Tape σ') (hf1 : σ'.2 1 3 = σ'.2 804 3) (hf2 : σ'.2 1 4 = σ'.2 804 4) (h4' : σ'.2 243 4 = 0) (hw : cz_Wan σ' T s) (h : cz_K σ T s) : cz_K σ' T s := by
  obtain ⟨hc, h1, h2, h3, h4, h5, h6⟩ := h
  have hF : bz_Fx σ' := hc.1.upd hU
  have e0 := hU.1
  have E : ∀ a k, ¬ cz_nk a k → ¬ (a = 1 ∧ k ≤ 4) → ¬ (a = 804 ∧ (k ≤ 4 ∨ k = 87 ∨ k = 101 ∨ (108 ≤ k ∧ k ≤ 111))) → a ≠ 2 → a ≠ 805 → ¬ (380 ≤ a ∧ a ≤ 383) → ¬ (789 ≤ a ∧ a ≤ 800) → ¬ (858 ≤ a ∧ a ≤ 864) → ¬ (a = 243 ∧ k = 4) → σ'.2 a k = σ.2 a k := fun a k q n1 n2 n3 n4 n5 n6 n7 n8 => hU.2.2 a k (fun c => by
    unfold wt_nw cz_nt cz_ns at c
    rcases c with ((c | c | c) | c | c | c | c) | c | c | c | c | c | c | c | c | c | c
    · exact q c
    · omega
    · omega
    · omega
    · omega
    · omega
    · omega
    · omega
    · omega
    · omega
    · omega
    · omega
    · omega
    · omega
    · omega
    · omega
    · omega)
  obtain ⟨c1, c2, c3, c4, c5, c6, c7, c8⟩ := hc
  have hT := c8.1
  have ht : bz_tS σ σ' := fun a k q => E a k (cz_nk1 (by omega)) (by omega) (by omega) (by omega) (by omega) (by omega) (by omega) (by omega) (by omega)
  have g5 : ∀ k, k = 14 ∨ k = 15 ∨ k = 57 ∨ k = 58 ∨ k = 81 ∨ k = 82 → σ'.2 804 k = σ.2 804 k := fun k q => E 804 k (cz_nk5 (by omega)) (by omega) (by omega) (by omega) (by omega) (by omega) (by omega) (by omega) (by omega)
  have g6 : ∀ k, (5 ≤ k ∧ k ≤ 6) ∨ k = 15 → σ'.2 1 k = σ.2 1 k := fun k q => E 1 k (cz_nk6 (by omega)) (by omega) (by omega) (by omega) (by omega) (by omega) (by omega) (by omega) (by omega)
  refine ⟨⟨hF, ?_, ?_, ?_, ?_, ?_, h4', c8.cong ht⟩, ht', ?_, ?_, ?_, hw, ?_⟩
  · rw [g6 5 (by omega)]; exact c2
  · rw [g6 6 (by omega)]; exact c3
  · rw [g5 14 (by omega)]; exact c4
  · rw [g5 15 (by omega)]; exact c5
  · rw [E 243 2 (cz_nk8 (by omega)) (by omega) (by omega) (by omega) (by omega) (by omega) (by omega) (by omega) (by omega)]; exact c6
  · refine ⟨hf1, hf2, ?_⟩
    rw [g6 15 (by omega), g5 82 (by omega)]; exact h2.2.2
  · refine h3.cong hT ht (fun a k q => ?_)
    rcases q with q | q | q | q
    · exact E a k (cz_nk1 (by omega)) (by omega) (by omega) (by omega) (by omega) (by omega) (by omega) (by omega) (by omega)
    · exact E a k (cz_nk1 (by omega)) (by omega) (by omega) (by omega) (by omega) (by omega) (by omega) (by omega) (by omega)
    · exact E a k (cz_nk2 (by omega)) (by omega) (by omega) (by omega) (by omega) (by omega) (by omega) (by omega) (by omega)
    · exact E a k (cz_nk2 (by omega)) (by omega) (by omega) (by omega) (by omega) (by omega) (by omega) (by omega) (by omega)
  · exact h4.cong hT ht (fun a k q => E a k (cz_nk2 (by omega)) (by omega) (by omega) (by omega) (by omega) (by omega) (by omega) (by omega) (by omega)) (g5 81 (by omega))
  · exact h6.cong e0 (E 801 0 cz_nk9 (by omega) (by omega) (by omega) (by omega) (by omega) (by omega) (by omega) (by omega)) (E 801 1 cz_nk9 (by omega) (by omega) (by omega) (by omega) (by omega) (by omega) (by omega) (by omega)) (fun a k q => E a k (cz_nk4 q) (by omega) (by omega) (by omega) (by omega) (by omega) (by omega) (by omega) (by omega)) (g5 57 (by omega)) (g5 58 (by omega))
/-- what holds behind the last ROUND is what the invariant says of WANTED -/
theorem sv_wan {X M z : az_Hp} {T s U : Int} (hE : sv_End X M T s U (cz_VW M)) (hT : T = 3 ∨ T = 82) (zX : ∀ a k, (a = 380 ∧ k ≤ 6) ∨ a = 381 ∨ a = 383 ∨ (789 ≤ a ∧ a ≤ 800) → z.2 a k = X.2 a k) (zM : ∀ a k, a = 858 ∨ a = 859 ∨ a = 863 ∨ a = 864 ∨ (a = 804 ∧ (k = 87 ∨ k = 101 ∨ (108 ≤ k ∧ k ≤ 111))) → z.2 a k = M.2 a k) (tS : bz_tS M z) (e0 : X.2 380 0 = 1) (e87 : M.2 804 87 = 1) (e5 : X.2 380 5 = U) (e101 : M.2 804 101 = U) (e4 : X.2 380 4 = M.2 804 111) (hw : ∀ k, 0 ≤ k → k < U → bz_WR 96 (X.2 381 k) (M.2 859 k)) : cz_Wan z T s := by
  obtain ⟨⟨ρ, hB⟩, r2, r3, r4⟩ := hE
  have Rk6 := hB.2.2.1.2
  obtain ⟨hC, hV, ⟨⟨u1, u2, u3, u4⟩, -⟩, hg, hb, h7, h8, h9⟩ := hB
  have eV : cz_VW z = cz_VW M := by
    funext a b
    unfold cz_VW
    simp only [fun k => zM 858 k (by omega)]
  have z864 : ∀ k, z.2 864 k = M.2 864 k := fun k => zM 864 k (by omega)
  have z863 : ∀ k, z.2 863 k = M.2 863 k := fun k => zM 863 k (by omega)
  have z5 : z.2 380 5 = U := by rw [zX 380 5 (by omega)]; exact e5
  have sl : sv_Sl X := by
    rcases r4 with ⟨-, n, r⟩ | r
    · exact r.2.2
    · exact r.2.2
  have n1 : X.2 380 1 = M.2 804 108 := by
    rcases r4 with ⟨-, n, r⟩ | r
    · rw [r.1.1, r.1.2.1]
    · exact r.2.1
  have bn : ∀ k w, cz_bn z k w = sv_bn (M.2 864) U k w := fun k w => by unfold cz_bn sv_bn; rw [z5, z864]
  refine ⟨⟨by rw [zX 380 0 (by omega), zM 804 87 (by omega), e0, e87], by rw [zX 380 0 (by omega), e0]; exact Or.inr rfl⟩, ⟨by rw [z5, zM 804 101 (by omega), e101], by rw [z5]; exact u1.1, by rw [z5]; exact u1.2⟩, fun _ => ⟨by rw [zX 380 1 (by omega), zM 804 108 (by omega)]; exact n1, by rw [zX 380 2 (by omega), zM 804 109 (by omega)]; exact r2, by rw [zX 380 3 (by omega), zM 804 110 (by omega)]; exact r3, by rw [zX 380 4 (by omega), zM 804 111 (by omega)]; exact e4⟩, ?_, fun k k0 k1 => ?_, ⟨ρ, Rk6, fun k i k0 k1 i0 i1 q => ?_⟩, fun q q0 q1 => by rw [zX 383 q (by omega)]; exact sl.1 q q0 q1, fun q p q0 q1 p0 p1 => by rw [zX 383 q (by omega), zX 383 p (by omega)]; exact sl.2 q p q0 q1 p0 p1⟩
  · rw [zX 380 6 (by omega), h9, bn, bn, bn, bn, bn, bn]
    rfl
  · rw [z5] at k1
    rw [zX 381 k (by omega), zM 859 k (by omega), z864]
    refine ⟨hw k k0 k1, h7 k k0 k1, fun kp => ?_⟩
    obtain ⟨q1, q2, q3, q4, q5, q6⟩ := u3 k k0 k1 kp
    have f1 : ∀ j, z.2 (789 + 2 * k) j = X.2 (789 + 2 * k) j := fun j => zX _ _ (by omega)
    have f2 : ∀ j, z.2 (789 + 2 * k + 1) j = X.2 (789 + 2 * k + 1) j := fun j => zX _ _ (by omega)
    unfold cz_Val
    rw [z864]
    refine ⟨by rw [f1]; exact q2, q3.2, fun i i0 i1 => ?_, ?_⟩
    · rw [bz_ct_tS tS, bz_ft_tS tS, tS T 0 (by omega), tS T 1 (by omega), eV, f2, z863]
      exact (q4 i i0 i1).1
    · have : bz_ra z (789 + 2 * k) = bz_ra X (789 + 2 * k) := funext fun j => by unfold bz_ra; rw [f2]
      rw [this]
      exact q5
  · rw [z5] at k1 ⊢
    rw [z864] at i1
    rw [z863] at q ⊢
    rw [z864]
    obtain ⟨q1, q2, q3, q4, q5, q6⟩ := u3 k k0 k1 (by omega)
    have := (q4 i i0 i1).2 q
    exact ⟨this, fun kp => u4 k i (M.2 863 (60 * k + i) - 2000) k0 k1 i0 i1 (by omega) (by omega) kp⟩
