/-! an EQUALITY is taken apart: all ARGUMENTS -/
def sv_XA (a k : Int) : Prop := (a = 380 ∧ k = 1) ∨ a = 384 ∨ (389 ≤ a ∧ a ≤ 788)
def sv_MA (M a k : Int) : Prop := (a = 804 ∧ k = 108) ∨ (a = 860 ∧ 120 * M ≤ k) ∨ (a = 861 ∧ 2 * M ≤ k) ∨ (a = 862 ∧ M ≤ k) ∨ (a = 865 ∧ M ≤ k)
section SD
variable {T s U : Int} {V : Int → Int → Prop} {ρ : Int → Nat}
theorem sv_apartL {i e L R n1 n2 sl ar : Int} (e0 : 0 ≤ e) (sl0 : 0 ≤ sl) (sl1 : sl < 100) (eL : L = 389 + 4 * sl) (eR : R = 391 + 4 * sl) (ar3 : ar ≤ 3) : ∀ (d k k' : Nat) (x m : az_Hp) (n M a b v7 : Int) (d1 d2 : Nat), d < k → d < k' → 0 ≤ v7 → v7 + d = ar → sv_B x m T s U V ρ → sv_L x m T s U V n M i e → e < M → m.2 865 e = 0 → x.2 383 (sv_cnt (m.2 865) e.toNat) = sl → x.2 384 sl = m.2 862 e → rz_R x m T s V L 866 n1 → (∀ i, 0 ≤ i → i < n1 → sv_Q m U (m.2 866 i)) → rz_R x m T s V R 867 n2 → (∀ i, 0 ≤ i → i < n2 → sv_Q m U (m.2 867 i)) → 0 ≤ a → a + d1 = n1 → bz_Sc (bz_ra x L) d1 d a → 0 ≤ b → b + d2 = n2 → bz_Sc (bz_ra x R) d2 d b → bz_ar (x.2 (L + 1) 0) = ar →
    ∃ v x' m' n' M', (v = 4 ∨ v = 3) ∧ fz_X8_takeApart_34 2000000 k x 380 sl L R ar a b v7 = some (v, x') ∧ fz_X11_splits_7 2000000 k' m 804 e a b v7 = some (if v = 4 then 0 else 3, m') ∧ sv_B x' m' T s U V ρ ∧ sv_L x' m' T s U V n' M' i e ∧ M ≤ M' ∧ bz_Upd x x' sv_XA ∧ bz_Upd m m' (sv_MA M) ∧ x'.2 384 sl = m'.2 862 e := by
  intro d
  induction d with
  | zero =>
    intro k k' x m n M a b v7 d1 d2 hk hk' v70 hv hB hL eM ge hs o3 R1 Q1 R2 Q2 a0 ha aS b0 hb bS har
    obtain ⟨k, rfl⟩ : ∃ k', k = k' + 1 := ⟨k - 1, by omega⟩
    obtain ⟨k', rfl⟩ : ∃ k'', k' = k'' + 1 := ⟨k' - 1, by omega⟩
    have n1b := R1.2.2.1
    have tk := ((R1.en (fl := 0) (who := 0) (W := fun _ => V) (st := 0) (en := n1) hB.1.1 (Or.inl rfl) rfl (by omega) (Int.le_refl _)).tk (j := 0) (by omega) (by omega)).2.1
    rw [har, Int.zero_add] at tk
    have hM := hB.1.1.2.1
    refine ⟨4, x, m, n, M, Or.inl rfl, ?_, ?_, hB, hL, Int.le_refl _, bz_Upd.refl, bz_Upd.refl, o3⟩
    · unfold fz_X8_takeApart_34
      rw [if_neg (by omega)]
    · unfold fz_X11_splits_7
      rw [fx_804_112 hM, Option.bind_some, bz_ard (by omega) (by rw [ln_866 hM]; omega), Option.bind_some, tk, Option.bind_some, if_neg (by omega), if_pos rfl]
  | succ d ih =>
    intro k k' x m n M a b v7 d1 d2 hk hk' v70 hv hB hL eM ge hs o3 R1 Q1 R2 Q2 a0 ha aS b0 hb bS har
    obtain ⟨k, rfl⟩ : ∃ k', k = k' + 1 := ⟨k - 1, by omega⟩
    obtain ⟨k', rfl⟩ : ∃ k'', k' = k'' + 1 := ⟨k' - 1, by omega⟩
    have n1b := R1.2.2.1
    have tk := ((R1.en (fl := 0) (who := 0) (W := fun _ => V) (st := 0) (en := n1) hB.1.1 (Or.inl rfl) rfl (by omega) (Int.le_refl _)).tk (j := 0) (by omega) (by omega)).2.1
    rw [har, Int.zero_add] at tk
    have hM := hB.1.1.2.1
    have hT := hB.1.1.2.2.1.1
    have hL0 := hL
    obtain ⟨⟨l1, l2⟩, ⟨l3, l4, l5, l6, l7⟩, l8, l9, l10, l11⟩ := hL
    by_cases full : n = 100
    · refine ⟨3, x, m, n, M, Or.inr rfl, ?_, ?_, hB, hL0, Int.le_refl _, bz_Upd.refl, bz_Upd.refl, o3⟩
      · unfold fz_X8_takeApart_34
        rw [if_pos (by omega), l1, if_neg (by omega)]
      · have len := sv_len hM l2 (by omega) (by omega)
        rw [l8] at len
        unfold fz_X11_splits_7
        rw [fx_804_112 hM, Option.bind_some, bz_ard (by omega) (by rw [ln_866 hM]; omega), Option.bind_some, tk, Option.bind_some, if_pos (by omega), len, Option.bind_some, if_pos full, if_neg (by decide)]
    · obtain ⟨z1, y1, ez1, zS1, yS1⟩ := bz_Sc.split bz_ra0 (c1 := 1) (c2 := d) (i := a) (by omega) (by omega) (by rw [show (1 : Int) + d = ((d + 1 : Nat) : Int) by push_cast; omega]; exact aS)
      obtain ⟨z2, y2, ez2, zS2, yS2⟩ := bz_Sc.split bz_ra0 (c1 := 1) (c2 := d) (i := b) (by omega) (by omega) (by rw [show (1 : Int) + d = ((d + 1 : Nat) : Int) by push_cast; omega]; exact bS)
      have cb := (sv_cnt.bd (g := m.2 865) e.toNat).1
      have cl := sv_cnt.lt (g := m.2 865) (a := e.toNat) (b := M.toNat) (by omega) (by rw [show ((e.toNat : Nat) : Int) = e by omega]; exact ge)
      have fr : sl ≠ x.2 383 n := fun z => by
        have := l11.2 _ n cb (by omega) (by omega) (by omega) (hs.trans z)
        omega
      have qb := l11.1 n (by omega) (by omega)
      obtain ⟨x1, m1, r1, r2, B1, L1, u1, u2⟩ := sv_add hB hL0 e0 eM (by omega) sl0 sl1 eL eR fr o3 R1 Q1 R2 Q2 a0 (by omega) zS1 b0 (by omega) zS2 v70 (by omega) (by omega) tk
      generalize hq : x.2 383 n = q at *
      have X1 : ∀ a k, a = 383 ∨ a = L ∨ a = L + 1 ∨ a = R ∨ a = R + 1 ∨ (a = 384 ∧ k = sl) → x1.2 a k = x.2 a k := fun a k z => u1.2.2 a k (fun w => by unfold sv_XN yz_S at w; omega)
      have M1 : ∀ a k, a = 864 ∨ a = 866 ∨ a = 867 ∨ (a = 862 ∧ k < M) ∨ (a = 865 ∧ k < M) → m1.2 a k = m.2 a k := fun a k z => u2.2.2 a k (fun w => by unfold sv_MN sv_PS at w; omega)
      have raL : bz_ra x1 L = bz_ra x L := funext fun k => by unfold bz_ra; rw [X1 _ _ (by omega)]
      have raR : bz_ra x1 R = bz_ra x R := funext fun k => by unfold bz_ra; rw [X1 _ _ (by omega)]
      have fx : ∀ a k, sv_XN q a k → a ≠ L ∧ a ≠ L + 1 ∧ a ≠ R ∧ a ≠ R + 1 := fun a k z => by unfold sv_XN yz_S at z; omega
      have fm : ∀ a k, sv_MN M a k → ¬ nz_t a ∧ ¬ (806 ≤ a ∧ a ≤ 819) ∧ a ≠ 866 ∧ a ≠ 867 := fun a k z => by unfold sv_MN sv_PS at z; unfold nz_t; omega
      have R1' : rz_R x1 m1 T s V L 866 n1 := yz_gR R1 hT u1 u2 (fun a k z => ⟨(fx a k z).1, (fx a k z).2.1⟩) (fun a k z => ⟨(fm a k z).1, (fm a k z).2.1, (fm a k z).2.2.1⟩)
      have R2' : rz_R x1 m1 T s V R 867 n2 := yz_gR R2 hT u1 u2 (fun a k z => (fx a k z).2.2) (fun a k z => ⟨(fm a k z).1, (fm a k z).2.1, (fm a k z).2.2.2⟩)
      have q4 : ∀ q, sv_Q m U q → sv_Q m1 U q := fun q z w => by rw [M1 864 _ (by omega)]; exact z w
      have ce : sv_cnt (m1.2 865) e.toNat = sv_cnt (m.2 865) e.toNat := sv_cnt.same _ (fun k k0 k1 => M1 865 k (by omega))
      obtain ⟨v, x', m', n', M', c1, c2, c3, c4, c5, c6, c7, c8, c9⟩ := ih k k' x1 m1 (n + 1) (M + 1) (a + z1) (b + z2) (v7 + 1) y1 y2 (by omega) (by omega) (by omega) (by push_cast at hv; omega) B1 L1 (by omega) (by rw [M1 865 e (by omega)]; exact ge) (by rw [ce, X1 383 _ (by omega)]; exact hs) (by rw [X1 384 sl (by omega), M1 862 e (by omega)]; exact o3) R1' (fun i i0 i1 => q4 _ (by rw [M1 866 i (by omega)]; exact Q1 i i0 i1)) R2' (fun i i0 i1 => q4 _ (by rw [M1 867 i (by omega)]; exact Q2 i i0 i1)) (by omega) (by omega) (by rw [raL]; exact yS1) (by omega) (by omega) (by rw [raR]; exact yS2) (by rw [X1 (L + 1) 0 (by omega)]; exact har)
      exact ⟨v, x', m', n', M', c1, (r1 k).trans c2, (r2 k').trans c3, c4, c5, by omega, (u1.weak fun a k z => by unfold sv_XN yz_S at z; unfold sv_XA; omega).trans c7, (u2.weak fun a k z => by unfold sv_MN sv_PS at z; unfold sv_MA; omega).trans (c8.weak fun a k z => by unfold sv_MA at z ⊢; omega), c9⟩
theorem sv_apart {x m : az_Hp} {i e L R n1 n2 sl n M : Int} (e0 : 0 ≤ e) (sl0 : 0 ≤ sl) (sl1 : sl < 100) (eL : L = 389 + 4 * sl) (eR : R = 391 + 4 * sl) (hB : sv_B x m T s U V ρ) (hL : sv_L x m T s U V n M i e) (eM : e < M) (ge : m.2 865 e = 0) (hs : x.2 383 (sv_cnt (m.2 865) e.toNat) = sl) (o3 : x.2 384 sl = m.2 862 e) (R1 : rz_R x m T s V L 866 n1) (Q1 : ∀ i, 0 ≤ i → i < n1 → sv_Q m U (m.2 866 i)) (R2 : rz_R x m T s V R 867 n2) (Q2 : ∀ i, 0 ≤ i → i < n2 → sv_Q m U (m.2 867 i)) (same : x.2 (L + 1) 0 = x.2 (R + 1) 0) :
    ∃ v x' m' n' M', (v = 4 ∨ v = 3) ∧ fz_X8_takeApart 2000000 x 380 sl = some (v, x') ∧ fz_X11_splits 2000000 m 804 e = some (if v = 4 then 0 else 3, m') ∧ sv_B x' m' T s U V ρ ∧ sv_L x' m' T s U V n' M' i e ∧ M ≤ M' ∧ bz_Upd x x' sv_XA ∧ bz_Upd m m' (sv_MA M) ∧ x'.2 384 sl = m'.2 862 e := by
  have hX := hB.1.1.1
  have n1b := R1.2.2.1
  have n2b := R2.2.2.1
  have ar3 : bz_ra x L 0 ≤ 3 := by unfold bz_ra bz_ar; split <;> omega
  have ar0 := bz_ra0 (σ := x) (r := L) 0
  have sc1 : bz_Sc (bz_ra x L) (n1.toNat - 1) (bz_ra x L 0) 1 := by
    have := R1.2.2.2.2.1
    obtain ⟨k, hk⟩ : ∃ k, n1.toNat = k + 1 := ⟨n1.toNat - 1, by omega⟩
    rw [hk] at this ⊢
    have := this.2
    rw [show (1 : Int) - 1 + bz_ra x L 0 = bz_ra x L 0 by omega, Int.zero_add] at this
    exact this
  have sc2 : bz_Sc (bz_ra x R) (n2.toNat - 1) (bz_ra x L 0) 1 := by
    have := R2.2.2.2.2.1
    obtain ⟨k, hk⟩ : ∃ k, n2.toNat = k + 1 := ⟨n2.toNat - 1, by omega⟩
    rw [hk] at this ⊢
    have := this.2
    rw [show (1 : Int) - 1 + bz_ra x R 0 = bz_ra x L 0 by unfold bz_ra; rw [same]; omega, Int.zero_add] at this
    exact this
  have cL := sv_cap (r := L) (by omega) (by omega)
  have fL := bz_fxR hX (show 0 < bz_cap L by omega)
  have gL : az_gref x L 0 = some (L + 1) := bz_gr fL.1 (by omega)
  have hI := R1.1.2.2.2 0 (by omega) (by rw [R1.2.1]; omega)
  have rs := sv_refs hX sl0 sl1
  obtain ⟨v, x', m', n', M', c1, c2, c3, c4, c5, c6, c7, c8, c9⟩ := sv_apartL (ar := bz_ra x L 0) (V := V) (ρ := ρ) (T := T) (s := s) (U := U) (i := i) (n1 := n1) (n2 := n2) e0 sl0 sl1 eL eR ar3 (bz_ra x L 0).toNat 2000000 2000000 x m n M 1 1 0 (n1.toNat - 1) (n2.toNat - 1) (by omega) (by omega) (by omega) (by omega) hB hL eM ge hs o3 R1 Q1 R2 Q2 (by omega) (by omega) (by rw [show (((bz_ra x L 0).toNat : Nat) : Int) = bz_ra x L 0 by omega]; exact sc1) (by omega) (by omega) (by rw [show (((bz_ra x L 0).toNat : Nat) : Int) = bz_ra x L 0 by omega]; exact sc2) rfl
  refine ⟨v, x', m', n', M', c1, ?_, c3, c4, c5, c6, c7, c8, c9⟩
  rw [← c2]
  unfold fz_X8_takeApart
  rw [fx_380_12 hX, Option.bind_some, rs.1, Option.bind_some, fx_380_13 hX, Option.bind_some, rs.2, Option.bind_some, ← eL, ← eR, gL, Option.bind_some, bz_ard (by omega) (by omega), Option.bind_some, bz_arity hI, Option.bind_some]
  rfl
end SD
