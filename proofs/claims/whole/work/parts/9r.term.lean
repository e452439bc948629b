/-! the TERM goes into the reducer and comes back -/
def yz_cl (a k : Int) : Prop := (a = 1 ∧ (k = 2 ∨ k = 15)) ∨ (161 ≤ a ∧ a ≤ 242) ∨ (a = 243 ∧ k ≠ 2 ∧ k ≠ 4) ∨ (244 ≤ a ∧ a ≤ 378)
def cz_nm (a k : Int) : Prop := cz_ns a k ∨ (a = 375 ∧ k = 1) ∨ a = 376 ∨ a = 844 ∨ (a = 804 ∧ (k = 81 ∨ k = 82)) ∨ (a = 1 ∧ k = 15)
theorem yz_nkX {a k : Int} (h : (161 ≤ a ∧ a ≤ 242) ∨ (a = 243 ∧ k ≠ 2 ∧ k ≠ 4) ∨ (244 ≤ a ∧ a ≤ 374) ∨ (377 ≤ a ∧ a ≤ 378)) : cz_nk a k := by
  rcases h with h | h | h | h
  · exact Or.inr (Or.inl h)
  · exact Or.inr (Or.inr (Or.inl h))
  · exact Or.inr (Or.inr (Or.inr (Or.inl h)))
  · exact Or.inr (Or.inr (Or.inr (Or.inr (Or.inl h))))
theorem yz_nkM {a k : Int} (h : (a = 804 ∧ ((49 ≤ k ∧ k ≤ 52) ∨ (70 ≤ k ∧ k ≤ 78))) ∨ (823 ≤ a ∧ a ≤ 833) ∨ (837 ≤ a ∧ a ≤ 843) ∨ (846 ≤ a ∧ a ≤ 857)) : cz_nk a k := by
  rcases h with h | h | h | h
  · exact Or.inr (Or.inr (Or.inr (Or.inr (Or.inr (Or.inr (Or.inr (Or.inr (Or.inr (Or.inl (by omega))))))))))
  · exact Or.inr (Or.inr (Or.inr (Or.inr (Or.inr (Or.inr (Or.inr (Or.inr (Or.inr (Or.inr (Or.inl (by omega)))))))))))
  · exact Or.inr (Or.inr (Or.inr (Or.inr (Or.inr (Or.inr (Or.inr (Or.inr (Or.inr (Or.inr (Or.inr (Or.inl (by omega))))))))))))
  · exact Or.inr (Or.inr (Or.inr (Or.inr (Or.inr (Or.inr (Or.inr (Or.inr (Or.inr (Or.inr (Or.inr (Or.inr (Or.inl (by omega)))))))))))))
theorem yz_TX_nk {a k : Int} (h : yz_TX a k) : cz_nk a k := yz_nkX (by unfold yz_TX sz_TY sz_TX rz_TX cz_SJ sz_S yz_S at h; omega)
theorem yz_TM_nk {a k : Int} (h : yz_TM a k) : cz_nk a k := yz_nkM (by unfold yz_TM sz_TM rz_TM cz_SM yz_WM yz_F yz_next at h; omega)
theorem yz_RX_nk {a k : Int} (h : yz_RX a k) : cz_nk a k := by
  rcases h with h | h
  · exact yz_TX_nk h
  · exact yz_nkX (by omega)
theorem yz_RM_nk {a k : Int} (h : yz_RM a k) : cz_nk a k := by
  rcases h with h | h
  · exact yz_TM_nk h
  · exact yz_nkM (by unfold yz_past at h; omega)
theorem yz_lays_nk {a k : Int} (h : yz_lays a k) : cz_nk a k := yz_nkM (by unfold yz_lays at h; omega)
theorem yz_nk_cl {a k : Int} (h : (161 ≤ a ∧ a ≤ 242) ∨ (a = 243 ∧ k ≠ 2 ∧ k ≠ 4) ∨ (244 ≤ a ∧ a ≤ 378)) : yz_cl a k := Or.inr h
theorem yz_RX_cl {a k : Int} (h : yz_RX a k) : yz_cl a k := by unfold yz_RX yz_TX sz_TY sz_TX rz_TX cz_SJ sz_S yz_S at h; unfold yz_cl; omega
/-- a change of the TERM -/
theorem cz_keepM {σ σ' : az_Hp} {T s : Int} (hU : bz_Upd σ σ' cz_nm) (h : cz_K σ T s) (hst : σ'.2 1 15 = σ'.2 804 82) (htm : cz_Term σ' T s) : cz_K σ' T s := by
  obtain ⟨hc, h1, h2, h3, h4, h5, h6⟩ := h
  have hF : bz_Fx σ' := hc.1.upd hU
  have e0 := hU.1
  have E : ∀ a k, ¬ cz_nk a k → ¬ (a = 1 ∧ (k = 2 ∨ k = 15)) → ¬ (a = 804 ∧ (k = 2 ∨ k = 81 ∨ k = 82)) → a ≠ 375 → a ≠ 376 → a ≠ 844 → σ'.2 a k = σ.2 a k := fun a k q n1 n2 n3 n4 n5 => hU.2.2 a k (fun c => by
    rcases c with (c | c | c) | c | c | c | c | c
    · exact q c
    · omega
    · omega
    · omega
    · omega
    · omega
    · omega
    · omega)
  obtain ⟨c1, c2, c3, c4, c5, c6, c7, c8⟩ := hc
  have hT := c8.1
  have ht : bz_tS σ σ' := fun a k q => E a k (cz_nk1 (by omega)) (by omega) (by omega) (by omega) (by omega) (by omega)
  have g5 : ∀ k, k = 1 ∨ k = 3 ∨ k = 4 ∨ k = 14 ∨ k = 15 ∨ k = 57 ∨ k = 58 ∨ k = 87 ∨ k = 101 ∨ (108 ≤ k ∧ k ≤ 111) → σ'.2 804 k = σ.2 804 k := fun k q => E 804 k (cz_nk5 (by omega)) (by omega) (by omega) (by omega) (by omega) (by omega)
  have g6 : ∀ k, k = 1 ∨ (3 ≤ k ∧ k ≤ 6) → σ'.2 1 k = σ.2 1 k := fun k q => E 1 k (cz_nk6 (by omega)) (by omega) (by omega) (by omega) (by omega) (by omega)
  refine ⟨⟨hF, ?_, ?_, ?_, ?_, ?_, ?_, c8.cong ht⟩, ?_, ?_, ?_, htm, ?_, ?_⟩
  · rw [g6 5 (by omega)]; exact c2
  · rw [g6 6 (by omega)]; exact c3
  · rw [g5 14 (by omega)]; exact c4
  · rw [g5 15 (by omega)]; exact c5
  · rw [E 243 2 (cz_nk8 (by omega)) (by omega) (by omega) (by omega) (by omega) (by omega)]; exact c6
  · rw [E 243 4 (cz_nk8 (by omega)) (by omega) (by omega) (by omega) (by omega) (by omega)]; exact c7
  · exact h1.cong (g6 1 (by omega)) (g5 1 (by omega)) (fun i => E 2 i (cz_nk1 (by omega)) (by omega) (by omega) (by omega) (by omega) (by omega)) (fun i => E 805 i (cz_nk1 (by omega)) (by omega) (by omega) (by omega) (by omega) (by omega))
  · refine ⟨?_, ?_, hst⟩
    · rw [g6 3 (by omega), g5 3 (by omega)]; exact h2.1
    · rw [g6 4 (by omega), g5 4 (by omega)]; exact h2.2.1
  · refine h3.cong hT ht (fun a k q => ?_)
    rcases q with q | q | q | q
    · exact E a k (cz_nk1 (by omega)) (by omega) (by omega) (by omega) (by omega) (by omega)
    · exact E a k (cz_nk1 (by omega)) (by omega) (by omega) (by omega) (by omega) (by omega)
    · exact E a k (cz_nk2 (by omega)) (by omega) (by omega) (by omega) (by omega) (by omega)
    · exact E a k (cz_nk2 (by omega)) (by omega) (by omega) (by omega) (by omega) (by omega)
  · exact h5.cong hT ht (fun k q0 q1 => E 380 k (cz_nk7 ⟨q0, q1⟩) (by omega) (by omega) (by omega) (by omega) (by omega)) (fun a k q => E a k (cz_nk3 q) (by omega) (by omega) (by omega) (by omega) (by omega)) (fun k q => g5 k (by omega))
  · exact h6.cong e0 (E 801 0 cz_nk9 (by omega) (by omega) (by omega) (by omega) (by omega)) (E 801 1 cz_nk9 (by omega) (by omega) (by omega) (by omega) (by omega)) (fun a k q => E a k (cz_nk4 q) (by omega) (by omega) (by omega) (by omega) (by omega)) (g5 57 (by omega)) (g5 58 (by omega))
section GO
variable {T s : Int} {V : Int → Int → Prop} {Q : Int → Prop}
theorem yz_begin {x m : az_Hp} {N : Int} (hC : rz_C x m T s) (hR : rz_R x m T s V 375 844 N) (h4 : x.2 243 4 = 0) (h81 : m.2 804 81 = N) (hQ : ∀ q, q < 2000 → Q q) (hQ0 : ∀ i, 0 ≤ i → i < N → Q (m.2 844 i)) : ∃ x' m', fz_X7_take x 244 375 = some x' ∧ fz_X11_laysTerm 2000000 m 804 = some m' ∧ bz_Upd x x' (yz_S 244) ∧ bz_Upd m m' yz_lays ∧ yz_I x' m' T s V Q N := by
  have hT := hC.1.2.2.1.1
  obtain ⟨a1, a2, a3, a4, a5, a6, a7, a8⟩ := hR
  have c244 : bz_cap 244 = 60 := by decide
  have c375 : bz_cap 375 = 60 := by decide
  obtain ⟨x', t1, t2, t3, t4⟩ := yz_take (σ := x) (r := 244) (q := 375) hC.1.1 (by omega) (by omega) (by omega) (by omega) (by omega) (by omega)
  obtain ⟨m', l1, l2, l3, l4, l5⟩ := yz_laysTerm hC.1.2.1 h81 (by omega) (by omega)
  rw [a2] at t3 t4
  have C' : rz_C x' m' T s := yz_gC hC t2 l2 (fun a k q => by unfold yz_S at q; unfold nz_t; omega) (fun a k q => by unfold yz_lays at q; unfold nz_t; omega)
  have tS : bz_tS m m' := fun a k q => l2.2.2 a k (fun z => by unfold yz_lays at z; omega)
  have cr : ∀ i, 0 ≤ i → i < N → bz_cr (bz_ct m' s) (bz_ft m' s) (m'.2 T 0) (m'.2 T 1) V (x'.2 (244 + 1) i) (m'.2 840 i) := fun i i0 i1 => by
    rw [bz_ct_tS tS, bz_ft_tS tS, tS T 0 (by omega), tS T 1 (by omega), t4 i i0 i1, l5 i i0 i1]
    exact a4 i i0 i1
  have l840 := ln_840 C'.1.2.1
  refine ⟨x', m', t1, l1, t2, l2, ⟨C', ⟨⟨by omega, by omega, by omega, fun i i0 i1 => (cr i i0 (by omega)).I C'.1.tb.2.1 a7⟩, t3, a3, cr, ?_, ⟨by omega, by omega, by omega⟩, a7, a8⟩, ?_, l4, l3⟩, hQ, fun i i0 i1 => by rw [l5 i i0 i1]; exact hQ0 i i0 i1⟩
  · refine a5.cong (fun j j0 j1 => ?_)
    unfold bz_ra
    rw [t4 j j0 (by omega)]
  · rw [t2.2.2 243 4 (fun z => by unfold yz_S at z; omega)]; exact h4
theorem cz_base {σ σm : az_Hp} (h : cz_K σ T s) (hN : 0 < σ.2 375 1) (hU : bz_Upd σ σm yz_cl) : rz_C σ σm T s ∧ rz_R σ σm T s (cz_VT σ) 375 844 (σ.2 375 1) ∧ σ.2 243 4 = 0 ∧ σm.2 804 81 = σ.2 375 1 ∧ ∀ i, 0 ≤ i → i < σ.2 375 1 → σm.2 844 i < 2000 := by
  obtain ⟨C0, R0⟩ := cz_rzC h (bz_Upd.refl (σ := σ))
  have hT := h.1.2.2.2.2.2.2.2.1
  have nc : ∀ a k, yz_cl a k → ¬ nz_t a ∧ ¬ (806 ≤ a ∧ a ≤ 819) ∧ ¬ (a = 804 ∧ k = 15) ∧ a ≠ 835 ∧ a ≠ 844 ∧ a ≠ 804 := fun a k q => by unfold yz_cl at q; unfold nz_t; omega
  refine ⟨yz_gC C0 (bz_Upd.refl (S := fun _ _ => False)) hU (fun a k q => q.elim) (fun a k q => by have := nc a k q; exact ⟨this.1, this.2.1, this.2.2.1, this.2.2.2.1⟩), yz_gR (R0 hN) hT (bz_Upd.refl (S := fun _ _ => False)) hU (fun a k q => q.elim) (fun a k q => by have := nc a k q; exact ⟨this.1, this.2.1, this.2.2.2.2.1⟩), h.1.2.2.2.2.2.2.1, ?_, fun i i0 i1 => ?_⟩
  · rw [hU.2.2 804 81 (fun q => by have := nc _ _ q; omega)]
    exact h.2.2.2.2.1.1.2.2
  · rw [hU.2.2 844 i (fun q => by have := nc _ _ q; omega)]
    exact (h.2.2.2.2.1.2 hN).2.2 i i0 i1
theorem yz_term {x m σ2 : az_Hp} {n : Int} (hI : yz_I x m T s V (fun q => q < 2000) n) (e1 : σ2.2 375 1 = n) (e2 : σ2.2 804 81 = n) (e3 : ∀ i, 0 ≤ i → i < n → σ2.2 376 i = x.2 245 i) (e4 : ∀ i, 0 ≤ i → i < n → σ2.2 844 i = m.2 840 i) (tS : bz_tS m σ2) (hV : cz_VT σ2 = V) : cz_Term σ2 T s := by
  obtain ⟨⟨hC, hR, h4, h72, h70⟩, hQ, hQ0⟩ := hI
  have hT := hC.1.2.2.1.1
  obtain ⟨a1, a2, a3, a4, a5, a6, a7, a8⟩ := hR
  refine ⟨⟨by omega, by omega, by omega⟩, fun _ => ⟨fun i i0 i1 => ?_, ?_, fun i i0 i1 => ?_⟩⟩
  · rw [hV, bz_ct_tS tS, bz_ft_tS tS, tS T 0 (by omega), tS T 1 (by omega), Int.zero_add, show (375 : Int) + 1 = 376 from rfl, e3 i i0 (by omega), e4 i i0 (by omega)]
    exact a4 i i0 (by omega)
  · rw [e1]
    refine a5.cong (fun j j0 j1 => ?_)
    unfold bz_ra
    rw [show (375 : Int) + 1 = 376 from rfl, show (244 : Int) + 1 = 245 from rfl, e3 j j0 (by omega)]
  · rw [e4 i i0 (by omega)]
    exact hQ0 i i0 (by omega)
end GO
/-- the class's step, told by the reference's number -/
def yz_cs (x : az_Hp) (o : Int) : Option (Int × az_Hp) := (fz_X5_findPlace 2000000 x 243 o).bind fun r => if r.1 = 0 then some (-1, r.2) else (fz_X5_rewrite 2000000 r.2 243).bind fun q => if q.1 = 0 then some (-2, q.2) else some (q.2.2 243 5, q.2)
theorem yz_csOf {x x' : az_Hp} {o w : Int} (h : (w = -1 ∧ fz_X5_findPlace 2000000 x 243 o = some (0, x')) ∨ ∃ x1, fz_X5_findPlace 2000000 x 243 o = some (1, x1) ∧ ((w = -2 ∧ fz_X5_rewrite 2000000 x1 243 = some (0, x')) ∨ (0 ≤ w ∧ fz_X5_rewrite 2000000 x1 243 = some (1, x') ∧ x'.2 243 5 = w))) : yz_cs x o = some (w, x') := by
  unfold yz_cs
  rcases h with ⟨hw, h1⟩ | ⟨x1, h1, ⟨hw, h2⟩ | ⟨hw, h2, h3⟩⟩
  · rw [h1, Option.bind_some, if_pos rfl, hw]
  · rw [h1, Option.bind_some, if_neg (show ¬ (1 : Int) = 0 by decide), h2, Option.bind_some, if_pos rfl, hw]
  · rw [h1, Option.bind_some, if_neg (show ¬ (1 : Int) = 0 by decide), h2, Option.bind_some, if_neg (show ¬ (1 : Int) = 0 by decide), h3]
