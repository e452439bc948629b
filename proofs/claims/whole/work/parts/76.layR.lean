/-! laying out: the graph so far in the class and in the reference -/
def lz_T (a k : Int) : Prop := (a = 804 ∧ 49 ≤ k ∧ k ≤ 52) ∨ (823 ≤ a ∧ a ≤ 825) ∨ (827 ≤ a ∧ a ≤ 832)
theorem lz_Tfix {a k : Int} (h : lz_T a k) : bz_isFix a k = false := by
  have key : ∀ a : Int, a = 823 ∨ a = 824 ∨ a = 825 ∨ a = 827 ∨ a = 828 ∨ a = 829 ∨ a = 830 ∨ a = 831 ∨ a = 832 → bz_isFix a k = false := by
    intro a ha
    rcases ha with rfl | rfl | rfl | rfl | rfl | rfl | rfl | rfl | rfl <;> (unfold bz_isFix; simp [bz_cap, bz_fixL, bz_rowsL])
  rcases h with ⟨rfl, h1, h2⟩ | h | h
  · have : k = 49 ∨ k = 50 ∨ k = 51 ∨ k = 52 := by omega
    rcases this with rfl | rfl | rfl | rfl <;> decide
  · exact key a (by omega)
  · exact key a (by omega)
theorem lz_Tw {σ σ' : az_Hp} {a i x : Int} (h : bz_Upd σ σ' lz_T) (ht : lz_T a i) : bz_Upd σ (az_wr σ' a i x) lz_T := h.wr ht (lz_Tfix ht)
def lz_hid : Int := -1000000000
def lz_nd (ct ft : Int → Int) (nc nf y m : Int) : Prop := (ez_iX y ∧ bz_I y ∧ m = 1000) ∨ (¬ ez_iX y ∧ m < 1000 ∧ bz_cr ct ft nc nf (fun _ _ => False) y m)
def lz_vr (V : Int → Int → Prop) (y m : Int) : Prop := (y < 0 ∧ 1000 ≤ m ∧ m < 2000 ∧ V (-y - 1) (m - 1000)) ∨ (2000 ≤ m ∧ m < 2006 ∧ y = (m - 2000) * 16 + 3)
def lz_LS (ct ft : Int → Int) (nc nf : Int) (W : Int → Int → Int → Prop) (σx σm : az_Hp) (c : Int) : Prop :=
  (σx.2 231 0 = c ∧ σm.2 804 49 = c ∧ 0 ≤ c ∧ c ≤ 120) ∧ (∀ n, dz_In c n → lz_nd ct ft nc nf (σx.2 232 n) (σm.2 823 n)) ∧ (0 ≤ σm.2 804 50 ∧ σm.2 804 50 ≤ c) ∧
  (∀ k, 0 ≤ k → k < σm.2 804 50 → dz_In c (σm.2 829 k) ∧ σx.2 233 (σm.2 829 k) = σm.2 827 k ∧ lz_vr (W (σm.2 827 k)) (σx.2 232 (σm.2 829 k)) (σm.2 828 k)) ∧
  (∀ k j, 0 ≤ k → k < j → j < σm.2 804 50 → σm.2 829 k < σm.2 829 j) ∧
  (∀ n, dz_In c n → ez_iX (σx.2 232 n) → σx.2 232 n ≠ lz_hid → ∃ k, 0 ≤ k ∧ k < σm.2 804 50 ∧ σm.2 829 k = n)
def lz_FL (r st en who off : Int) (σx σm : az_Hp) (c : Int) : Prop :=
  (0 ≤ σm.2 804 51 ∧ σm.2 804 51 ≤ c) ∧
  (∀ k, 0 ≤ k → k < σm.2 804 51 → dz_In c (σm.2 832 k) ∧ σx.2 233 (σm.2 832 k) = who ∧ σx.2 232 (σm.2 832 k) = lz_hid ∧ σm.2 830 k = off + σx.2 234 (σm.2 832 k) ∧ st ≤ σx.2 234 (σm.2 832 k) ∧ ∃ d : Nat, σm.2 831 k = d ∧ σx.2 234 (σm.2 832 k) + d ≤ en ∧ bz_Sc (bz_ra σx r) d 1 (σx.2 234 (σm.2 832 k))) ∧
  (∀ k j, 0 ≤ k → k < j → j < σm.2 804 51 → σm.2 832 k < σm.2 832 j) ∧
  (∀ n, dz_In c n → σx.2 232 n = lz_hid → σx.2 233 n = who → ∃ k, 0 ≤ k ∧ k < σm.2 804 51 ∧ σm.2 832 k = n)
theorem lz_cap_ne {r : Int} (h : 0 < bz_cap r) : r ≤ 221 ∨ 244 ≤ r := by
  unfold bz_cap at h
  repeat' split at h
  all_goals omega
theorem lz_rowS {σ σ' : az_Hp} {r : Int} (hr : 0 < bz_cap r) (hU : bz_Upd σ σ' lz_S) : (∀ k, σ'.2 r k = σ.2 r k) ∧ ∀ k, σ'.2 (r + 1) k = σ.2 (r + 1) k := by
  have := lz_cap_ne hr
  exact ⟨fun k => hU.2.2 _ _ (by unfold lz_S; omega), fun k => hU.2.2 _ _ (by unfold lz_S; omega)⟩
theorem lz_raS {σ σ' : az_Hp} {r : Int} (hr : 0 < bz_cap r) (hU : bz_Upd σ σ' lz_S) : bz_ra σ' r = bz_ra σ r := funext fun k => by unfold bz_ra; rw [(lz_rowS hr hU).2]
section LS
variable {ct ft : Int → Int} {nc nf : Int} {W : Int → Int → Int → Prop}
theorem lz_LS.cong {σx σm σx' σm' : az_Hp} {c : Int} (h : lz_LS ct ft nc nf W σx σm c) (e0 : σx'.2 231 0 = σx.2 231 0) (e1 : σm'.2 804 49 = σm.2 804 49) (e2 : σm'.2 804 50 = σm.2 804 50) (k1 : ∀ n, σx'.2 232 n = σx.2 232 n ∧ σx'.2 233 n = σx.2 233 n) (k2 : ∀ n, σm'.2 823 n = σm.2 823 n ∧ σm'.2 827 n = σm.2 827 n ∧ σm'.2 828 n = σm.2 828 n ∧ σm'.2 829 n = σm.2 829 n) : lz_LS ct ft nc nf W σx' σm' c := by
  unfold lz_LS at h ⊢
  simp only [e0, e1, e2, fun n => (k1 n).1, fun n => (k1 n).2, fun n => (k2 n).1, fun n => (k2 n).2.1, fun n => (k2 n).2.2.1, fun n => (k2 n).2.2.2]
  exact h
theorem lz_LS.grow {σx σm σx' σm' : az_Hp} {c : Int} (h : lz_LS ct ft nc nf W σx σm c) (hc : c < 120) (e0 : σx'.2 231 0 = c + 1) (e1 : σm'.2 804 49 = c + 1) (k1 : ∀ n, dz_In c n → σx'.2 232 n = σx.2 232 n ∧ σx'.2 233 n = σx.2 233 n) (k2 : ∀ n, dz_In c n → σm'.2 823 n = σm.2 823 n) (nd : lz_nd ct ft nc nf (σx'.2 232 c) (σm'.2 823 c)) (k3 : ∀ k, 0 ≤ k → k < σm.2 804 50 → σm'.2 827 k = σm.2 827 k ∧ σm'.2 828 k = σm.2 828 k ∧ σm'.2 829 k = σm.2 829 k)
    (alt : (σm'.2 804 50 = σm.2 804 50 ∧ (ez_iX (σx'.2 232 c) → σx'.2 232 c = lz_hid)) ∨ (σm'.2 804 50 = σm.2 804 50 + 1 ∧ σm'.2 829 (σm.2 804 50) = c ∧ σx'.2 233 c = σm'.2 827 (σm.2 804 50) ∧ lz_vr (W (σm'.2 827 (σm.2 804 50))) (σx'.2 232 c) (σm'.2 828 (σm.2 804 50)))) : lz_LS ct ft nc nf W σx' σm' (c + 1) := by
  obtain ⟨⟨a1, a2, a3, a4⟩, b1, ⟨b2, b3⟩, b4, b5, b6⟩ := h
  have inn : ∀ n, dz_In (c + 1) n → dz_In c n ∨ n = c := fun n hn => by unfold dz_In at hn ⊢; omega
  have old : ∀ k, 0 ≤ k → k < σm.2 804 50 → dz_In (c + 1) (σm'.2 829 k) ∧ σx'.2 233 (σm'.2 829 k) = σm'.2 827 k ∧ lz_vr (W (σm'.2 827 k)) (σx'.2 232 (σm'.2 829 k)) (σm'.2 828 k) := by
    intro k k0 k1'
    obtain ⟨p1, p2, p3⟩ := k3 k k0 k1'
    obtain ⟨q1, q2, q3⟩ := b4 k k0 k1'
    obtain ⟨r1, r2⟩ := k1 _ q1
    rw [p3, p1, p2, r1, r2]
    exact ⟨⟨q1.1, by have := q1.2; omega⟩, q2, q3⟩
  refine ⟨⟨e0, e1, by omega, by omega⟩, fun n hn => ?_, ?_, ?_, ?_, ?_⟩
  · rcases inn n hn with hn | rfl
    · rw [(k1 n hn).1, k2 n hn]; exact b1 n hn
    · exact nd
  · rcases alt with ⟨e, -⟩ | ⟨e, -⟩ <;> omega
  · intro k k0 k1'
    rcases alt with ⟨e, -⟩ | ⟨e, e2, e3, e4⟩
    · exact old k k0 (by omega)
    · by_cases q : k = σm.2 804 50
      · rw [q, e2]
        exact ⟨⟨by omega, by omega⟩, e3, e4⟩
      · exact old k k0 (by omega)
  · intro k j k0 kj hj
    rcases alt with ⟨e, -⟩ | ⟨e, e2, e3, e4⟩
    · rw [(k3 k k0 (by omega)).2.2, (k3 j (by omega) (by omega)).2.2]
      exact b5 k j k0 kj (by omega)
    · by_cases q : j = σm.2 804 50
      · rw [q, e2, (k3 k k0 (by omega)).2.2]
        exact (b4 k k0 (by omega)).1.2
      · rw [(k3 k k0 (by omega)).2.2, (k3 j (by omega) (by omega)).2.2]
        exact b5 k j k0 kj (by omega)
  · intro n hn hv hh
    rcases inn n hn with hn | rfl
    · rw [(k1 n hn).1] at hv hh
      obtain ⟨k, q1, q2, q3⟩ := b6 n hn hv hh
      refine ⟨k, q1, ?_, ?_⟩
      · rcases alt with ⟨e, -⟩ | ⟨e, -⟩ <;> omega
      · rw [(k3 k q1 q2).2.2]; exact q3
    · rcases alt with ⟨e, f⟩ | ⟨e, e2, e3, e4⟩
      · exact absurd (f hv) hh
      · exact ⟨σm.2 804 50, b2, by omega, e2⟩
theorem lz_FL.cong {r st en who off : Int} {σx σm σx' σm' : az_Hp} {c c' : Int} (h : lz_FL r st en who off σx σm c) (hr : 0 < bz_cap r) (hU : bz_Upd σx σx' lz_S) (hc : c ≤ c') (e1 : σm'.2 804 51 = σm.2 804 51) (k1 : ∀ n, dz_In c n → σx'.2 232 n = σx.2 232 n ∧ σx'.2 233 n = σx.2 233 n ∧ σx'.2 234 n = σx.2 234 n) (k2 : ∀ n, σm'.2 830 n = σm.2 830 n ∧ σm'.2 831 n = σm.2 831 n ∧ σm'.2 832 n = σm.2 832 n) (nw : ∀ n, c ≤ n → n < c' → σx'.2 232 n ≠ lz_hid) : lz_FL r st en who off σx' σm' c' := by
  obtain ⟨⟨a1, a2⟩, a3, a4, a5⟩ := h
  obtain ⟨hr1, hr2⟩ := lz_rowS hr hU
  have hra := lz_raS hr hU
  unfold lz_FL
  simp only [e1, fun n => (k2 n).1, fun n => (k2 n).2.1, fun n => (k2 n).2.2, hr1, hra]
  refine ⟨⟨a1, by omega⟩, fun k k0 k1' => ?_, a4, fun n hn hh hw => ?_⟩
  · obtain ⟨q1, q2, q3, q4, q5, q6⟩ := a3 k k0 k1'
    obtain ⟨p1, p2, p3⟩ := k1 _ q1
    rw [p1, p2, p3]
    exact ⟨⟨q1.1, by have := q1.2; omega⟩, q2, q3, q4, q5, q6⟩
  · by_cases q : n < c
    · obtain ⟨p1, p2, p3⟩ := k1 n ⟨hn.1, q⟩
      rw [p1] at hh
      rw [p2] at hw
      exact a5 n ⟨hn.1, q⟩ hh hw
    · exact absurd hh (nw n (by omega) hn.2)
theorem lz_FL.grow {r st en who off i : Int} {σx σm σx' σm' : az_Hp} {c : Int} {d : Nat} (h : lz_FL r st en who off σx σm c) (hr : 0 < bz_cap r) (hU : bz_Upd σx σx' lz_S) (e1 : σm'.2 804 51 = σm.2 804 51 + 1) (k1 : ∀ n, dz_In c n → σx'.2 232 n = σx.2 232 n ∧ σx'.2 233 n = σx.2 233 n ∧ σx'.2 234 n = σx.2 234 n) (k2 : ∀ n, 0 ≤ n → n < σm.2 804 51 → σm'.2 830 n = σm.2 830 n ∧ σm'.2 831 n = σm.2 831 n ∧ σm'.2 832 n = σm.2 832 n) (nx : σx'.2 232 c = lz_hid ∧ σx'.2 233 c = who ∧ σx'.2 234 c = i) (nm : σm'.2 830 (σm.2 804 51) = off + i ∧ σm'.2 831 (σm.2 804 51) = d ∧ σm'.2 832 (σm.2 804 51) = c) (hi : st ≤ i) (hd : i + d ≤ en) (hs : bz_Sc (bz_ra σx r) d 1 i) (hc : 0 ≤ c) : lz_FL r st en who off σx' σm' (c + 1) := by
  obtain ⟨⟨a1, a2⟩, a3, a4, a5⟩ := h
  obtain ⟨hr1, hr2⟩ := lz_rowS hr hU
  have hra := lz_raS hr hU
  unfold lz_FL
  simp only [e1, hr1, hra]
  refine ⟨⟨by omega, by omega⟩, fun k k0 k1' => ?_, fun k j k0 kj j1 => ?_, fun n hn hh hw => ?_⟩
  · by_cases q : k = σm.2 804 51
    · rw [q, nm.1, nm.2.1, nm.2.2, nx.1, nx.2.1, nx.2.2]
      exact ⟨⟨hc, by omega⟩, rfl, rfl, rfl, hi, d, rfl, hd, hs⟩
    · obtain ⟨q1, q2, q3, q4, q5, q6⟩ := a3 k k0 (by omega)
      obtain ⟨m1, m2, m3⟩ := k2 k k0 (by omega)
      rw [m1, m2, m3]
      obtain ⟨p1, p2, p3⟩ := k1 _ q1
      rw [p1, p2, p3]
      exact ⟨⟨q1.1, by have := q1.2; omega⟩, q2, q3, q4, q5, q6⟩
  · rw [(k2 k k0 (by omega)).2.2]
    by_cases q : j = σm.2 804 51
    · rw [q, nm.2.2]
      exact (a3 k k0 (by omega)).1.2
    · rw [(k2 j (by omega) (by omega)).2.2]
      exact a4 k j k0 kj (by omega)
  · by_cases q : n < c
    · obtain ⟨p1, p2, p3⟩ := k1 n ⟨hn.1, q⟩
      rw [p1] at hh
      rw [p2] at hw
      obtain ⟨k, z1, z2, z3⟩ := a5 n ⟨hn.1, q⟩ hh hw
      exact ⟨k, z1, by omega, by rw [(k2 k z1 z2).2.2]; exact z3⟩
    · exact ⟨σm.2 804 51, a1, by omega, by rw [nm.2.2]; have := hn.2; omega⟩
theorem lz_LS.I {σx σm : az_Hp} {c : Int} (h : lz_LS ct ft nc nf W σx σm c) (ht : bz_tb ct ft nc nf) : ∀ n, dz_In c n → bz_I (σx.2 232 n) := by
  intro n hn
  rcases h.2.1 n hn with q | q
  · exact q.2.1
  · exact q.2.2.I ht ⟨fun a b q => q.elim, fun a b a' b' q => q.elim⟩
end LS
/-! the reference: a new node, variables, flat ones -/
theorem lz_adds {σ : az_Hp} {v : Int} (hF : bz_Fx σ) (h0 : 0 ≤ σ.2 804 49) (h1 : σ.2 804 49 < 300) : fz_X11_adds σ 804 v = some (σ.2 804 49, az_wr (az_wr (az_wr σ 823 (σ.2 804 49) v) 825 (σ.2 804 49) (σ.2 804 49)) 804 49 (σ.2 804 49 + 1)) := by
  have l1 := ln_823 hF
  have l2 := ln_825 hF
  unfold fz_X11_adds
  rw [fx_804_39 hF, Option.bind_some, bz_awr h0 (by omega), Option.bind_some, bz_gref_wr (by omega), fx_804_41 hF, Option.bind_some, az_wr_ne (by omega), bz_awr h0 (by rw [bz_ln_wr]; omega), Option.bind_some, az_wr_same, az_wr_ne (by omega), az_wr_ne (by omega), az_w32_id (z := σ.2 804 49 + 1) (by omega) (by omega), az_w32_id (by omega) (by omega)]
  congr 2
  omega
def lz_vnew (σ : az_Hp) (who m : Int) : az_Hp := az_wr (az_wr (az_wr (az_wr (az_wr (az_wr (az_wr σ 827 (σ.2 804 50) who) 828 (σ.2 804 50) m) 823 (σ.2 804 49) 1000) 825 (σ.2 804 49) (σ.2 804 49)) 804 49 (σ.2 804 49 + 1)) 829 (σ.2 804 50) (σ.2 804 49)) 804 50 (σ.2 804 50 + 1)
theorem lz_vnew_upd {σ : az_Hp} {who m : Int} : bz_Upd σ (lz_vnew σ who m) lz_T := by
  unfold lz_vnew
  refine lz_Tw (lz_Tw (lz_Tw (lz_Tw (lz_Tw (lz_Tw (lz_Tw bz_Upd.refl ?_) ?_) ?_) ?_) ?_) ?_) ?_
  all_goals (unfold lz_T; omega)
theorem lz_varL {σ : az_Hp} {who m : Int} (hF : bz_Fx σ) (h0 : 0 ≤ σ.2 804 49) (h1 : σ.2 804 49 < 200) (b0 : 0 ≤ σ.2 804 50) (b1 : σ.2 804 50 < 200) : ∀ (d k : Nat) (j : Int), d < k → 0 ≤ j → j + d = σ.2 804 50 → (∀ q, 0 ≤ q → q < j → ¬ (σ.2 827 q = who ∧ σ.2 828 q = m)) →
    (∃ q, 0 ≤ q ∧ q < σ.2 804 50 ∧ (σ.2 827 q = who ∧ σ.2 828 q = m) ∧ (∀ p, 0 ≤ p → p < q → ¬ (σ.2 827 p = who ∧ σ.2 828 p = m)) ∧ fz_X11_variableNode_2 2000000 k σ 804 m who j = some (σ.2 829 q, σ)) ∨
    ((∀ q, 0 ≤ q → q < σ.2 804 50 → ¬ (σ.2 827 q = who ∧ σ.2 828 q = m)) ∧ fz_X11_variableNode_2 2000000 k σ 804 m who j = some (σ.2 804 49, lz_vnew σ who m)) := by
  have g43 := fx_804_43 hF
  have g44 := fx_804_44 hF
  have g45 := fx_804_45 hF
  have l3 := ln_827 hF
  have l4 := ln_828 hF
  have l5 := ln_829 hF
  intro d
  induction d with
  | zero =>
    intro k j hk j0 hj hno
    obtain ⟨k, rfl⟩ : ∃ k', k = k' + 1 := ⟨k - 1, by omega⟩
    refine Or.inr ⟨fun q q0 q1 => hno q q0 (by omega), ?_⟩
    have u2 : bz_Upd σ (az_wr (az_wr σ 827 (σ.2 804 50) who) 828 (σ.2 804 50) m) lz_T := lz_Tw (lz_Tw bz_Upd.refl (by unfold lz_T; omega)) (by unfold lz_T; omega)
    have c49 : (az_wr (az_wr σ 827 (σ.2 804 50) who) 828 (σ.2 804 50) m).2 804 49 = σ.2 804 49 := by rw [az_wr_ne (by omega), az_wr_ne (by omega)]
    have ad := lz_adds (v := 1000) (hF.upd u2) (by rw [c49]; exact h0) (by rw [c49]; omega)
    rw [c49] at ad
    unfold fz_X11_variableNode_2
    rw [if_neg (by omega), g43, Option.bind_some, bz_awr b0 (by omega), Option.bind_some, bz_gref_wr (by omega), g44, Option.bind_some, az_wr_ne (by omega), bz_awr b0 (by rw [bz_ln_wr]; omega), Option.bind_some, bz_gref_wr (by omega), bz_gref_wr (by omega), g45, Option.bind_some, ad, Option.bind_some]
    simp (disch := first | omega | (simp only [bz_ln_wr]; omega) | fail) only [az_wr_ne, az_wr_same, bz_awr, bz_ard, Option.bind_some, bz_gref_wr, g45, az_w32_id, Int.add_sub_cancel]
    rfl
  | succ d ih =>
    intro k j hk j0 hj hno
    obtain ⟨k, rfl⟩ : ∃ k', k = k' + 1 := ⟨k - 1, by omega⟩
    have r3 : az_ard σ 827 j = some (σ.2 827 j) := bz_ard j0 (by omega)
    have r4 : az_ard σ 828 j = some (σ.2 828 j) := bz_ard j0 (by omega)
    have r5 : az_ard σ 829 j = some (σ.2 829 j) := bz_ard j0 (by omega)
    have w1 : az_w32 (j + 1) = j + 1 := az_w32_id (by omega) (by omega)
    by_cases hm : σ.2 827 j = who ∧ σ.2 828 j = m
    · refine Or.inl ⟨j, j0, by omega, hm, hno, ?_⟩
      unfold fz_X11_variableNode_2
      rw [if_pos (by omega)]
      simp only [g43, g44, g45, r3, r4, r5, Option.bind_some]
      rw [if_pos hm.1, if_pos hm.2]
    · have step : fz_X11_variableNode_2 2000000 (k + 1) σ 804 m who j = fz_X11_variableNode_2 2000000 k σ 804 m who (j + 1) := by
        conv => lhs; unfold fz_X11_variableNode_2
        rw [if_pos (by omega)]
        simp only [g43, g44, g45, r3, r4, r5, w1, Option.bind_some]
        by_cases e1 : σ.2 827 j = who
        · rw [if_pos e1, if_neg (fun e2 => hm ⟨e1, e2⟩)]
        · rw [if_neg e1]
      rw [step]
      exact ih k (j + 1) (by omega) (by omega) (by omega) (fun q q0 q1 => by
        by_cases e : q = j
        · rw [e]; exact hm
        · exact hno q q0 (by omega))
def lz_fnew (σ : az_Hp) (at' d : Int) : az_Hp := az_wr (az_wr (az_wr (az_wr (az_wr (az_wr (az_wr σ 830 (σ.2 804 51) at') 831 (σ.2 804 51) d) 823 (σ.2 804 49) 1000) 825 (σ.2 804 49) (σ.2 804 49)) 804 49 (σ.2 804 49 + 1)) 832 (σ.2 804 51) (σ.2 804 49)) 804 51 (σ.2 804 51 + 1)
theorem lz_fnew_upd {σ : az_Hp} {a d : Int} : bz_Upd σ (lz_fnew σ a d) lz_T := by
  unfold lz_fnew
  refine lz_Tw (lz_Tw (lz_Tw (lz_Tw (lz_Tw (lz_Tw (lz_Tw bz_Upd.refl ?_) ?_) ?_) ?_) ?_) ?_) ?_
  all_goals (unfold lz_T; omega)
theorem lz_flatL {σ : az_Hp} {A at' d0 : Int} {M : Int → Prop} (hF : bz_Fx σ) (h0 : 0 ≤ σ.2 804 49) (h1 : σ.2 804 49 < 200) (b0 : 0 ≤ σ.2 804 51) (b1 : σ.2 804 51 < 64)
    (hM : ∀ q, 0 ≤ q → q < σ.2 804 51 → (M q → σ.2 831 q = d0 ∧ fz_X11_isSame 2000000 σ A at' A (σ.2 830 q) d0 = some 1) ∧ (¬ M q → σ.2 831 q = d0 → fz_X11_isSame 2000000 σ A at' A (σ.2 830 q) d0 = some 0)) : ∀ (d k : Nat) (j : Int), d < k → 0 ≤ j → j + d = σ.2 804 51 → (∀ q, 0 ≤ q → q < j → ¬ M q) →
    (∃ q, 0 ≤ q ∧ q < σ.2 804 51 ∧ M q ∧ (∀ p, 0 ≤ p → p < q → ¬ M p) ∧ fz_X11_flatNodeAt_10 2000000 k σ 804 A at' d0 j = some (σ.2 832 q, σ)) ∨
    ((∀ q, 0 ≤ q → q < σ.2 804 51 → ¬ M q) ∧ fz_X11_flatNodeAt_10 2000000 k σ 804 A at' d0 j = some (σ.2 804 49, lz_fnew σ at' d0)) := by
  have g46 := fx_804_46 hF
  have g47 := fx_804_47 hF
  have g48 := fx_804_48 hF
  have l3 := ln_830 hF
  have l4 := ln_831 hF
  have l5 := ln_832 hF
  intro d
  induction d with
  | zero =>
    intro k j hk j0 hj hno
    obtain ⟨k, rfl⟩ : ∃ k', k = k' + 1 := ⟨k - 1, by omega⟩
    refine Or.inr ⟨fun q q0 q1 => hno q q0 (by omega), ?_⟩
    have u2 : bz_Upd σ (az_wr (az_wr σ 830 (σ.2 804 51) at') 831 (σ.2 804 51) d0) lz_T := lz_Tw (lz_Tw bz_Upd.refl (by unfold lz_T; omega)) (by unfold lz_T; omega)
    have c49 : (az_wr (az_wr σ 830 (σ.2 804 51) at') 831 (σ.2 804 51) d0).2 804 49 = σ.2 804 49 := by rw [az_wr_ne (by omega), az_wr_ne (by omega)]
    have ad := lz_adds (v := 1000) (hF.upd u2) (by rw [c49]; exact h0) (by rw [c49]; omega)
    rw [c49] at ad
    unfold fz_X11_flatNodeAt_10
    rw [if_neg (by omega), g46, Option.bind_some, bz_awr b0 (by omega), Option.bind_some, bz_gref_wr (by omega), g47, Option.bind_some, az_wr_ne (by omega), bz_awr b0 (by rw [bz_ln_wr]; omega), Option.bind_some, bz_gref_wr (by omega), bz_gref_wr (by omega), g48, Option.bind_some, ad, Option.bind_some]
    simp (disch := first | omega | (simp only [bz_ln_wr]; omega) | fail) only [az_wr_ne, az_wr_same, bz_awr, bz_ard, Option.bind_some, bz_gref_wr, g48, az_w32_id, Int.add_sub_cancel]
    rfl
  | succ d ih =>
    intro k j hk j0 hj hno
    obtain ⟨k, rfl⟩ : ∃ k', k = k' + 1 := ⟨k - 1, by omega⟩
    have r3 : az_ard σ 830 j = some (σ.2 830 j) := bz_ard j0 (by omega)
    have r4 : az_ard σ 831 j = some (σ.2 831 j) := bz_ard j0 (by omega)
    have r5 : az_ard σ 832 j = some (σ.2 832 j) := bz_ard j0 (by omega)
    have w1 : az_w32 (j + 1) = j + 1 := az_w32_id (by omega) (by omega)
    obtain ⟨m1, m2⟩ := hM j j0 (by omega)
    by_cases hm : M j
    · obtain ⟨e1, e2⟩ := m1 hm
      refine Or.inl ⟨j, j0, by omega, hm, hno, ?_⟩
      unfold fz_X11_flatNodeAt_10
      rw [if_pos (by omega)]
      simp only [g46, g47, g48, r3, r4, r5, Option.bind_some]
      rw [if_pos e1, e2, Option.bind_some, if_neg (by decide)]
    · have step : fz_X11_flatNodeAt_10 2000000 (k + 1) σ 804 A at' d0 j = fz_X11_flatNodeAt_10 2000000 k σ 804 A at' d0 (j + 1) := by
        conv => lhs; unfold fz_X11_flatNodeAt_10
        rw [if_pos (by omega)]
        simp only [g46, g47, g48, r3, r4, r5, w1, Option.bind_some]
        by_cases e1 : σ.2 831 j = d0
        · rw [if_pos e1, m2 hm e1, Option.bind_some, if_pos rfl]
        · rw [if_neg e1]
      rw [step]
      exact ih k (j + 1) (by omega) (by omega) (by omega) (fun q q0 q1 => by
        by_cases e : q = j
        · rw [e]; exact hm
        · exact hno q q0 (by omega))
