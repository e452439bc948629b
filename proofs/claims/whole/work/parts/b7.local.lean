/-! J looks at the Told and the side in use alone -/
theorem bz_RR.loc {σ σ' : az_Hp} {T s : Int} {V : Int → Int → Prop} {r A at' n : Int} (hR : bz_TR σ T s) (hX : mz_cS T σ σ') (hM : mz_mS s σ σ') (hr : ∀ i, σ'.2 (r + 1) i = σ.2 (r + 1) i) (hA : ∀ i, σ'.2 A i = σ.2 A i) (q : bz_RR σ T s V r A at' n) : bz_RR σ' T s V r A at' n := by
  intro i i0 i1
  have tb := hR.2.2.1.2.2.1
  have t2 := tb.2.1
  have t4 := tb.2.2.2.1
  rw [hr, hA, hX T 0 (by omega), hX T 1 (by omega)]
  exact (q i i0 i1).more (fun k k0 k1 => hM 811 _ (by omega)) (fun k k0 k1 => hM 812 _ (by omega)) (Int.le_refl _) (Int.le_refl _)
def wl_O (T s a k : Int) : Prop := (85 - T ≤ a ∧ a ≤ 163 - T) ∨ (806 ≤ a ∧ a ≤ 819)
theorem cz_loc {σ σ' : az_Hp} {T s : Int} (h : cz_K σ T s) (hU : bz_Upd σ σ' (wl_O T s)) (hM : mz_mS s σ σ') : cz_K σ' T s := by
  obtain ⟨hc, h1, h2, h3, h4, h5, h6⟩ := h
  have hF : bz_Fx σ' := hc.1.upd hU
  have e0 := hU.1
  obtain ⟨c1, c2, c3, c4, c5, c6, c7, c8⟩ := hc
  have hT := c8.1
  have E : ∀ a k, a < 3 ∨ (160 < a ∧ a < 806) ∨ 819 < a → σ'.2 a k = σ.2 a k := fun a k q => hU.2.2 a k (fun c => by unfold wl_O at c; omega)
  have ET : ∀ a k, T ≤ a → a ≤ T + 78 → σ'.2 a k = σ.2 a k := fun a k q q' => hU.2.2 a k (fun c => by unfold wl_O at c; omega)
  have hX : mz_cS T σ σ' := fun a k q => ET a k (by omega) (by omega)
  have R : ∀ {V : Int → Int → Prop} {r A at' n : Int}, (∀ i, σ'.2 (r + 1) i = σ.2 (r + 1) i) → (∀ i, σ'.2 A i = σ.2 A i) → bz_RR σ T s V r A at' n → bz_RR σ' T s V r A at' n := fun hr hA q => q.loc c8 hX hM hr hA
  refine ⟨⟨hF, by rw [E 1 5 (by omega)]; exact c2, by rw [E 1 6 (by omega)]; exact c3, by rw [E 804 14 (by omega)]; exact c4, by rw [E 804 15 (by omega)]; exact c5, by rw [E 243 2 (by omega)]; exact c6, by rw [E 243 4 (by omega)]; exact c7, c8.loc hX hM⟩, ?_, ?_, ?_, ?_, ?_, ?_⟩
  · exact h1.cong (E _ _ (by omega)) (E _ _ (by omega)) (fun i => E _ _ (by omega)) (fun i => E _ _ (by omega))
  · unfold cz_Stat
    rw [E 1 3 (by omega), E 1 4 (by omega), E 1 15 (by omega), E 804 3 (by omega), E 804 4 (by omega), E 804 82 (by omega)]
    exact h2
  · obtain ⟨q1, q2⟩ := h3
    have g2 : σ'.2 T 2 = σ.2 T 2 := ET _ _ (by omega) (by omega)
    have g1 : σ'.2 T 1 = σ.2 T 1 := ET _ _ (by omega) (by omega)
    refine ⟨fun e o e0 e1 o0 o1 => ?_, fun f f0 f1 => ?_⟩
    · rw [g2] at e1 o1
      obtain ⟨⟨w1, w2⟩, w3⟩ := q1 e o e0 e1 o0 o1
      refine ⟨⟨by rw [E 834 _ (by omega)]; exact w1, fun σx fx t => ?_⟩, ?_⟩
      · rw [E 834 _ (by omega)]
        exact w2 σx fx (hX.trans t)
      · rw [ET (T + 7) e (by omega) (by omega), ET (T + 7) o (by omega) (by omega), ET (T + 11) _ (by omega) (by omega), E 835 _ (by omega)]
        exact w3
    · rw [g1] at f1
      intro σm fm t t' e15
      rw [ET (T + 12) f (by omega) (by omega), ET (T + 13) f (by omega) (by omega), ET (T + 14) f (by omega) (by omega)]
      exact q2 f f0 f1 σm fm (hX.trans t) (hM.trans t') e15
  · have hv := cz_VT.cong (σ := σ) (σ' := σ') (fun k => E _ k (by omega)) (fun k => E _ k (by omega))
    have hr : bz_ra σ' 375 = bz_ra σ 375 := funext fun k => by unfold bz_ra; rw [E _ _ (by omega)]
    unfold cz_Term at h4 ⊢
    rw [E 375 1 (by omega), E 804 81 (by omega), hv, hr]
    exact ⟨h4.1, fun q => ⟨R (fun i => E _ _ (by omega)) (fun i => E _ _ (by omega)) (h4.2 q).1, (h4.2 q).2.1, fun i i0 i1 => by rw [E 844 i (by omega)]; exact (h4.2 q).2.2 i i0 i1⟩⟩
  · have hv := cz_VW.cong (σ := σ) (σ' := σ') (fun k => E _ k (by omega))
    obtain ⟨q1, q2, q3, q4, q5, q6, q7, q8⟩ := h5
    have qb : ∀ k w, cz_bn σ' k w = cz_bn σ k w := fun k w => by unfold cz_bn; rw [E 380 5 (by omega), E 864 k (by omega)]
    have b6 : ∀ k, σ'.2 863 k = σ.2 863 k := fun k => E _ k (by omega)
    have b7 : ∀ k, σ'.2 864 k = σ.2 864 k := fun k => E _ k (by omega)
    have a5 : σ'.2 380 5 = σ.2 380 5 := E _ _ (by omega)
    have qr : ∀ ρ, cz_Rk σ' ρ ↔ cz_Rk σ ρ := fun ρ => by unfold cz_Rk; simp only [a5, b6, b7]
    have s3 : ∀ k, σ'.2 383 k = σ.2 383 k := fun k => E _ k (by omega)
    unfold cz_Wan
    simp only [qb, qr, s3, b7, a5]
    rw [E 380 0 (by omega), E 804 87 (by omega), E 804 101 (by omega), E 380 1 (by omega), E 380 2 (by omega), E 380 3 (by omega), E 380 4 (by omega), E 380 6 (by omega), E 804 108 (by omega), E 804 109 (by omega), E 804 110 (by omega), E 804 111 (by omega)]
    refine ⟨q1, q2, q3, q4, fun k k0 k1 => ?_, q6, q7, q8⟩
    obtain ⟨w1, w2, w3⟩ := q5 k k0 k1
    rw [E 381 k (by omega), E 859 k (by omega)]
    refine ⟨w1, w2, fun hp => ?_⟩
    obtain ⟨v1, v2, v3, v4⟩ := w3 hp
    have hr : bz_ra σ' (789 + 2 * k) = bz_ra σ (789 + 2 * k) := funext fun i => by unfold bz_ra; rw [E _ _ (by omega)]
    unfold cz_Val
    rw [E (789 + 2 * k) 1 (by omega), b7, hv, hr]
    exact ⟨v1, v2, R (fun i => E _ _ (by omega)) b6 v3, v4⟩
  · exact h6.cong e0 (E _ _ (by omega)) (E _ _ (by omega)) (fun a k q => E a k (by omega)) (E _ _ (by omega)) (E _ _ (by omega))
/-- a FAULT of load: both Tolds and sides not in use may be what they will -/
theorem cz_keepL {σ z : az_Hp} {T s : Int} (h : cz_K σ T s) (h1 : z.1 = σ.1) (h2 : ∀ a k, bz_isFix a k = true → z.2 a k = σ.2 a k) (h3 : ∀ a k, ¬ cz_nt a k → ¬ wl_O T s a k → z.2 a k = σ.2 a k) (hM : mz_mS s σ z) (ht : cz_Tape z) (f1 : z.2 1 3 = z.2 804 3) (f2 : z.2 1 4 = z.2 804 4) : cz_K z T s := by
  have hT := h.1.2.2.2.2.2.2.2.1
  obtain ⟨y, hy⟩ : ∃ y : az_Hp, y = (z.1, fun a k => if (85 - T ≤ a ∧ a ≤ 163 - T) ∨ (806 ≤ a ∧ a ≤ 819) then σ.2 a k else z.2 a k) := ⟨_, rfl⟩
  have yt : ∀ a k, wl_O T s a k → y.2 a k = σ.2 a k := fun a k q => by
    rw [hy]
    exact if_pos q
  have yo : ∀ a k, ¬ wl_O T s a k → y.2 a k = z.2 a k := fun a k q => by
    rw [hy]
    exact if_neg q
  have y0 : y.1 = z.1 := by rw [hy]
  have no : ∀ a k, a < 3 ∨ (160 < a ∧ a < 806) ∨ 819 < a → ¬ wl_O T s a k := fun a k q c => by unfold wl_O at c; omega
  have uy : bz_Upd σ y cz_nt := ⟨by rw [y0]; exact h1, fun a k q => by
    by_cases c : wl_O T s a k
    · exact yt a k c
    · rw [yo a k c]; exact h2 a k q, fun a k q => by
    by_cases c : wl_O T s a k
    · exact yt a k c
    · rw [yo a k c]; exact h3 a k q c⟩
  have K := cz_keepT uy (ht.cong (yo _ _ (no _ _ (by omega))) (yo _ _ (no _ _ (by omega))) (fun i => yo _ _ (no _ _ (by omega))) (fun i => yo _ _ (no _ _ (by omega)))) (by rw [yo _ _ (no _ _ (by omega)), yo _ _ (no _ _ (by omega))]; exact f1) (by rw [yo _ _ (no _ _ (by omega)), yo _ _ (no _ _ (by omega))]; exact f2) h
  refine cz_loc K ⟨y0.symm, fun a k q => ?_, fun a k q => (yo a k q).symm⟩ (fun a k q => ?_)
  · by_cases c : wl_O T s a k
    · rw [yt a k c]; exact h2 a k q
    · exact (yo a k c).symm
  · rw [yt a k (Or.inr (by omega))]; exact hM a k q
