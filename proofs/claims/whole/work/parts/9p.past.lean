/-! all steps: what was before -/
section RA
variable {T s n : Int} {V : Int → Int → Prop} {Q : Int → Prop}
def yz_Pt (x τ : az_Hp) (T s : Int) (V : Int → Int → Prop) (i : Int) : Prop := bz_rw x (253 + 2 * i) ∧ x.2 (253 + 2 * i) 1 = τ.2 843 i ∧ (1 ≤ τ.2 843 i ∧ τ.2 843 i ≤ 60) ∧ (∀ k, 0 ≤ k → k < τ.2 843 i → bz_cr (bz_ct τ s) (bz_ft τ s) (τ.2 T 0) (τ.2 T 1) V (x.2 (253 + 2 * i + 1) k) (τ.2 842 (60 * i + k))) ∧ bz_Sc (bz_ra x (253 + 2 * i)) (τ.2 843 i).toNat 1 0
theorem yz_Pt.cong {x τ x' τ' : az_Hp} {i : Int} (h : yz_Pt x τ T s V i) (hT : T = 3 ∨ T = 82) (e1 : ∀ k, x'.2 (253 + 2 * i) k = x.2 (253 + 2 * i) k) (e2 : ∀ k, x'.2 (253 + 2 * i + 1) k = x.2 (253 + 2 * i + 1) k) (tS : bz_tS τ τ') (e3 : τ'.2 843 i = τ.2 843 i) (e4 : ∀ k, 0 ≤ k → k < 60 → τ'.2 842 (60 * i + k) = τ.2 842 (60 * i + k)) : yz_Pt x' τ' T s V i := by
  obtain ⟨h1, h2, h3, h4, h5⟩ := h
  have k3 : bz_ra x' (253 + 2 * i) = bz_ra x (253 + 2 * i) := funext fun k => by unfold bz_ra; rw [e2]
  refine ⟨by unfold bz_rw at h1 ⊢; simp only [e1, e2]; exact h1, by rw [e1, e3]; exact h2, by rw [e3]; exact h3, fun k k0 k1 => ?_, by rw [k3, e3]; exact h5⟩
  rw [e3] at k1
  rw [bz_ct_tS tS, bz_ft_tS tS, tS T 0 (by omega), tS T 1 (by omega), e2, e4 k k0 (by omega)]
  exact h4 k k0 k1
theorem yz_pcap {i : Int} (i0 : 0 ≤ i) (i1 : i ≤ 60) : bz_cap (253 + 2 * i) = 60 := by
  unfold bz_cap
  rw [if_neg (by omega), if_neg (by omega), if_neg (by omega), if_neg (by omega), if_pos (by omega)]
theorem yz_pref {σ : az_Hp} {i : Int} (hF : bz_Fx σ) (i0 : 0 ≤ i) (i1 : i ≤ 60) : az_arr σ 248 i = some (253 + 2 * i) := by
  obtain ⟨l, v⟩ := bz_fxA hF (show ((248 : Int), (61 : Int), (253 : Int), (2 : Int)) ∈ bz_rowsL by decide)
  have := v i i0 (by omega)
  unfold az_arr
  rw [this, if_pos ⟨⟨i0, by omega⟩, by omega⟩]
theorem yz_cmpG {x τ : az_Hp} {r A off N : Int} (hI : yz_I x τ T s V Q n) (p1 : bz_rw x r) (p2 : x.2 r 1 = N) (p3 : 1 ≤ N ∧ N ≤ 60) (p4 : ∀ k, 0 ≤ k → k < N → bz_cr (bz_ct τ s) (bz_ft τ s) (τ.2 T 0) (τ.2 T 1) V (x.2 (r + 1) k) (τ.2 A (off + k))) (p5 : bz_Sc (bz_ra x r) N.toNat 1 0) (o0 : 0 ≤ off) (o1 : off + N ≤ az_ln τ A) (o2 : az_ln τ A ≤ 100000) : ∃ c : Int, (c = 0 ∨ c = 1) ∧ fz_X7_same 2000000 x r 244 = some c ∧ (if N = n then fz_X11_isSame 2000000 τ A off 840 0 n else some 0) = some c := by
  obtain ⟨⟨hC, hR, h4, h72, h70⟩, hQ, hQ0⟩ := hI
  obtain ⟨a1, a2, a3, a4, a5, a6, a7, a8⟩ := hR
  unfold fz_X7_same
  rw [p2, a2]
  by_cases e : N = n
  · have l840 := ln_840 hC.1.2.1
    obtain ⟨d, hd⟩ : ∃ d : Nat, (d : Int) = n := ⟨n.toNat, by omega⟩
    have sp := bz_samePart (i := 0) (j := 0) (d := d) hC.1.1 p1 a1 (by omega) (by omega) (by omega) (by omega) (by rw [show N.toNat = d by omega] at p5; exact p5)
    have is := bz_isSame (σ := τ) (A := A) (B := 840) (i := off) (j := 0) (d := d) (by omega) (by omega) (by omega) (by omega) (by omega) (by omega) (by omega)
    rw [hd] at is
    rw [if_pos e, if_pos e, sp, Option.bind_some, is]
    have iff : (∀ q : Nat, q < d → (0 : Int) + q < x.2 244 1 ∧ x.2 (r + 1) (0 + q) = x.2 (244 + 1) (0 + q)) ↔ ∀ p : Nat, p < d → τ.2 A (off + p) = τ.2 840 (0 + p) := by
      have inj : ∀ q : Nat, q < d → (x.2 (r + 1) (0 + q) = x.2 (244 + 1) (0 + q) ↔ τ.2 A (off + q) = τ.2 840 (0 + q)) := fun q hq => by
        rw [Int.zero_add]
        exact (p4 q (by omega) (by omega)).inj (a4 q (by omega) (by omega)) hC.1.tb.2.1 a7
      constructor
      · intro h q hq
        exact (inj q hq).mp (h q hq).2
      · intro h q hq
        exact ⟨by omega, (inj q hq).mpr (h q hq)⟩
    by_cases c : ∀ p : Nat, p < d → τ.2 A (off + p) = τ.2 840 (0 + p)
    · exact ⟨1, Or.inr rfl, by rw [if_pos (iff.mpr c), if_neg (by decide)], by rw [if_pos c]⟩
    · exact ⟨0, Or.inl rfl, by rw [if_neg (fun q => c (iff.mp q)), if_pos rfl], by rw [if_neg c]⟩
  · exact ⟨0, Or.inl rfl, by rw [if_neg e], by rw [if_neg e]⟩
theorem yz_cmp {x τ : az_Hp} {i : Int} (hI : yz_I x τ T s V Q n) (hp : yz_Pt x τ T s V i) (i0 : 0 ≤ i) (i1 : i ≤ 60) : ∃ c : Int, (c = 0 ∨ c = 1) ∧ fz_X7_same 2000000 x (253 + 2 * i) 244 = some c ∧ (if τ.2 843 i = n then fz_X11_isSame 2000000 τ 842 (60 * i) 840 0 n else some 0) = some c := by
  obtain ⟨p1, p2, p3, p4, p5⟩ := hp
  have l842 := ln_842 hI.1.1.1.2.1
  exact yz_cmpG hI p1 p2 p3 p4 p5 (by omega) (by omega) (by omega)
theorem yz_same {x τ : az_Hp} {o v2 : Int} {k7 : az_Hp → Int → Int → Int → Option (Int × az_Hp)} {k10 : az_Hp → Int → Int → Option (Int × az_Hp)} (hI : yz_I x τ T s V Q n) (hp : ∀ i, 0 ≤ i → i ≤ v2 → yz_Pt x τ T s V i) (h77 : τ.2 804 77 = v2 + 1) (v20 : 0 ≤ v2) (v21 : v2 < 60) : ∀ (d k k' : Nat) (v3 : Int), d < k → d < k' → 0 ≤ v3 → v3 + d = v2 + 1 →
    (∃ v3', 0 ≤ v3' ∧ v3' ≤ v2 ∧ fz_X5_reduceAll_67 2000000 k7 k x 243 o v2 v3 = some (7, az_wr x 243 7 (az_w32 (x.2 243 6 - v3'))) ∧ fz_X11_reduces_84 2000000 k10 k' τ 804 o v3 = some (7, az_wr τ 804 78 v3')) ∨
    (fz_X5_reduceAll_67 2000000 k7 k x 243 o v2 v3 = k7 x 243 o (v2 + 1) ∧ fz_X11_reduces_84 2000000 k10 k' τ 804 o v3 = (fz_X11_keepsPast 2000000 τ 804 (v2 + 1)).bind fun r1 => k10 r1 804 o) := by
  have hX := hI.1.1.1.1
  have hM := hI.1.1.1.2.1
  have l843 := ln_843 hM
  intro d
  induction d with
  | zero =>
    intro k k' v3 hk hk' v30 hv
    obtain ⟨k, rfl⟩ : ∃ k', k = k' + 1 := ⟨k - 1, by omega⟩
    obtain ⟨k', rfl⟩ : ∃ k'', k' = k'' + 1 := ⟨k' - 1, by omega⟩
    refine Or.inr ⟨?_, ?_⟩
    · unfold fz_X5_reduceAll_67
      rw [if_pos (by omega), az_w32_id (by omega) (by omega)]
    · unfold fz_X11_reduces_84
      rw [h77, if_neg (by omega)]
  | succ d ih =>
    intro k k' v3 hk hk' v30 hv
    obtain ⟨k, rfl⟩ : ∃ k', k = k' + 1 := ⟨k - 1, by omega⟩
    obtain ⟨k', rfl⟩ : ∃ k'', k' = k'' + 1 := ⟨k' - 1, by omega⟩
    obtain ⟨c, hc, c1, c2⟩ := yz_cmp hI (hp v3 v30 (by omega)) v30 (by omega)
    have w1 : az_w32 (v3 + 1) = v3 + 1 := az_w32_id (by omega) (by omega)
    have w2 : az_w32 (60 * v3) = 60 * v3 := az_w32_id (by omega) (by omega)
    have runX : fz_X5_reduceAll_67 2000000 k7 (k + 1) x 243 o v2 v3 = if c = 0 then fz_X5_reduceAll_67 2000000 k7 k x 243 o v2 (v3 + 1) else some (7, az_wr x 243 7 (az_w32 (x.2 243 6 - v3))) := by
      conv => lhs; unfold fz_X5_reduceAll_67
      rw [if_neg (by omega), fx_243_11 hX, Option.bind_some, yz_pref hX v30 (by omega), Option.bind_some, fx_243_3 hX, Option.bind_some, c1, Option.bind_some, w1]
    have runM : fz_X11_reduces_84 2000000 k10 (k' + 1) τ 804 o v3 = if c = 0 then fz_X11_reduces_84 2000000 k10 k' τ 804 o (v3 + 1) else some (7, az_wr τ 804 78 v3) := by
      conv => lhs; unfold fz_X11_reduces_84
      rw [h77, if_pos (by omega), fx_804_76 hM, Option.bind_some, bz_ard v30 (by omega), Option.bind_some, hI.1.2.2.2.2, w1, w2]
      by_cases e : τ.2 843 v3 = n
      · rw [if_pos e] at c2 ⊢
        rw [fx_804_75 hM, Option.bind_some, fx_804_68 hM, Option.bind_some, c2, Option.bind_some]
      · rw [if_neg e] at c2 ⊢
        have : c = 0 := by simp only [Option.some.injEq] at c2; omega
        rw [if_pos this]
    rw [runX, runM]
    by_cases e : c = 0
    · rw [if_pos e, if_pos e]
      exact ih k k' (v3 + 1) (by omega) (by omega) (by omega) (by omega)
    · rw [if_neg e, if_neg e]
      exact Or.inl ⟨v3, v30, by omega, rfl, rfl⟩
def yz_RX (a k : Int) : Prop := yz_TX a k ∨ (a = 243 ∧ (k = 6 ∨ k = 7)) ∨ (253 ≤ a ∧ a ≤ 374)
def yz_RM (a k : Int) : Prop := yz_TM a k ∨ (a = 804 ∧ (k = 77 ∨ k = 78)) ∨ yz_past a k
end RA
