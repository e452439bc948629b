/-! what is made: class's spare row 246, reference's next row 841 -/
def yz_F (a k : Int) : Prop := a = 841 ∨ (a = 804 ∧ (k = 71 ∨ k = 74))
def yz_ok (Rl : Int → Int → Prop) (σx σm : az_Hp) (m : Int) : Prop := σx.2 246 1 = m ∧ σm.2 804 71 = m ∧ 0 ≤ m ∧ m ≤ 60 ∧ σm.2 804 74 = 0 ∧ ∀ i, 0 ≤ i → i < m → Rl (σx.2 247 i) (σm.2 841 i)
def yz_ext (x x' : az_Hp) (m q a z : Int) : Prop := (∀ i, 0 ≤ i → i < m → x'.2 247 i = x.2 247 i) ∧ ∀ i, 0 ≤ i → i < z → x'.2 247 (m + i) = x.2 (q + 1) (a + i)
def yz_no (σm : az_Hp) : Prop := σm.2 804 71 = 60 ∧ σm.2 804 74 = 1
theorem yz_fol {σ : az_Hp} {A o n : Int} (hF : bz_Fx σ) (hA : A ≠ 841 ∧ A ≠ 804) (o0 : 0 ≤ o) (n0 : 0 ≤ n) (hn : o + n ≤ az_ln σ A) (hl : az_ln σ A ≤ 100000) (m0 : 0 ≤ σ.2 804 71) (m1 : σ.2 804 71 ≤ 60) :
    (σ.2 804 71 + n ≤ 60 → ∃ τ, fz_X11_follows 2000000 σ 804 A o n = some τ ∧ bz_Upd σ τ yz_F ∧ τ.2 804 71 = σ.2 804 71 + n ∧ τ.2 804 74 = σ.2 804 74 ∧ ∀ j, 0 ≤ j → j < σ.2 804 71 + n → τ.2 841 j = if j < σ.2 804 71 then σ.2 841 j else σ.2 A (o + (j - σ.2 804 71))) ∧
    (60 < σ.2 804 71 + n → ∃ τ, fz_X11_follows 2000000 σ 804 A o n = some τ ∧ bz_Upd σ τ yz_F ∧ τ.2 804 71 = 60 ∧ τ.2 804 74 = 1) := by
  unfold fz_X11_follows
  have big : n.toNat < 2000000 ∨ 2000000 ≤ n.toNat := by omega
  rcases big with big | big
  · exact yz_follows hF hA o0 hn hl m0 m1 n.toNat 2000000 σ 0 (by omega) (by omega) (by omega) bz_Upd.refl (by omega) rfl (fun j j0 j1 => by rw [if_pos (by omega)]) (by omega)
  · omega
/-- a part is added -/
theorem yz_app {Rl : Int → Int → Prop} {σx σm : az_Hp} {q a b A o m : Int} (hX : bz_Fx σx) (hM : bz_Fx σm) (hq : 0 < bz_cap q) (hq2 : q ≠ 246) (qs : σx.2 q 1 ≤ bz_cap q) (a0 : 0 ≤ a) (ab : a ≤ b) (b1 : b ≤ σx.2 q 1) (hA : A ≠ 841 ∧ A ≠ 804) (o0 : 0 ≤ o) (hn : o + (b - a) ≤ az_ln σm A) (hl : az_ln σm A ≤ 100000) (hk : yz_ok Rl σx σm m) (hR : ∀ i, 0 ≤ i → i < b - a → Rl (σx.2 (q + 1) (a + i)) (σm.2 A (o + i))) :
    ∃ v σx' σm', fz_X7_addPart σx 246 q a b = some (v, σx') ∧ fz_X11_follows 2000000 σm 804 A o (b - a) = some σm' ∧ bz_Upd σx σx' (yz_S 246) ∧ bz_Upd σm σm' yz_F ∧ ((v = 1 ∧ yz_ok Rl σx' σm' (m + (b - a)) ∧ yz_ext σx σx' m q a (b - a)) ∨ (v = 0 ∧ yz_no σm')) := by
  obtain ⟨k1, k2, k3, k4, k5, k6⟩ := hk
  have cap : bz_cap 246 = 60 := by decide
  have X := yz_addPart (r := 246) hX (by omega) hq (fun e => hq2 e.symm) (by omega) (by omega) qs a0 ab b1
  have M := yz_fol (n := b - a) hM hA o0 (by omega) hn hl (by omega) (by omega)
  by_cases c : m + (b - a) ≤ 60
  · obtain ⟨x, x1, x2, x3, x4, x5⟩ := X.1 (by omega)
    obtain ⟨τ, t1, t2, t3, t4, t5⟩ := M.1 (by omega)
    refine ⟨1, x, τ, x1, t1, x2, t2, Or.inl ⟨rfl, ⟨by omega, by omega, by omega, c, by omega, fun i i0 i1 => ?_⟩, fun i i0 i1 => x4 i (by omega), fun i i0 i1 => ?_⟩⟩
    rotate_left
    · have := x5 i (by omega) (by omega)
      rw [k1] at this
      exact this
    rw [t5 i i0 (by omega), k2]
    by_cases ci : i < m
    · rw [if_pos ci]
      have := x4 i (by omega)
      rw [show (247 : Int) = 246 + 1 from rfl, this]
      exact k6 i i0 ci
    · rw [if_neg ci]
      have := x5 (i - m) (by omega) (by omega)
      rw [k1, show m + (i - m) = i by omega] at this
      rw [show (247 : Int) = 246 + 1 from rfl, this]
      exact hR (i - m) (by omega) (by omega)
  · obtain ⟨τ, t1, t2, t3, t4⟩ := M.2 (by omega)
    exact ⟨0, σx, τ, X.2 (by omega), t1, bz_Upd.refl, t2, Or.inr ⟨rfl, t3, t4⟩⟩
/-- one code is added -/
theorem yz_app1 {Rl : Int → Int → Prop} {σx σm : az_Hp} {c A o m : Int} (hX : bz_Fx σx) (hM : bz_Fx σm) (hA : A ≠ 841 ∧ A ≠ 804) (o0 : 0 ≤ o) (hn : o + 1 ≤ az_ln σm A) (hl : az_ln σm A ≤ 100000) (hk : yz_ok Rl σx σm m) (hR : Rl c (σm.2 A o)) :
    ∃ v σx' σm', fz_X7_add σx 246 c = some (v, σx') ∧ fz_X11_follows 2000000 σm 804 A o 1 = some σm' ∧ bz_Upd σx σx' (yz_S 246) ∧ bz_Upd σm σm' yz_F ∧ ((v = 1 ∧ yz_ok Rl σx' σm' (m + 1) ∧ (∀ i, 0 ≤ i → i < m → σx'.2 247 i = σx.2 247 i) ∧ σx'.2 247 m = c) ∨ (v = 0 ∧ yz_no σm')) := by
  obtain ⟨k1, k2, k3, k4, k5, k6⟩ := hk
  have cap : bz_cap 246 = 60 := by decide
  have X := yz_add (r := 246) (c := c) hX (by omega) (by omega) (by omega)
  have M := yz_fol (n := 1) hM hA o0 (by omega) hn hl (by omega) (by omega)
  by_cases d : m < 60
  · obtain ⟨x, x1, x2, x3, x4, x5⟩ := X.1 (by omega)
    obtain ⟨τ, t1, t2, t3, t4, t5⟩ := M.1 (by omega)
    refine ⟨1, x, τ, x1, t1, x2, t2, Or.inl ⟨rfl, ⟨by omega, by omega, by omega, by omega, by omega, fun i i0 i1 => ?_⟩, fun i i0 i1 => x4 i (by omega), by rw [k1] at x5; exact x5⟩⟩
    rw [t5 i i0 (by omega), k2]
    by_cases ci : i < m
    · rw [if_pos ci]
      have := x4 i (by omega)
      rw [show (247 : Int) = 246 + 1 from rfl, this]
      exact k6 i i0 ci
    · rw [if_neg ci]
      have ei : i = m := by omega
      rw [k1] at x5
      rw [ei, show (247 : Int) = 246 + 1 from rfl, x5, show o + (m - m) = o by omega]
      exact hR
  · obtain ⟨τ, t1, t2, t3, t4⟩ := M.2 (by omega)
    exact ⟨0, σx, τ, X.2 (by omega), t1, bz_Upd.refl, t2, Or.inr ⟨rfl, t3, t4⟩⟩
/-- where no room is left, the reference goes on and tells so -/
theorem yz_noF {σm : az_Hp} {A o n : Int} (hM : bz_Fx σm) (hA : A ≠ 841 ∧ A ≠ 804) (o0 : 0 ≤ o) (n0 : 0 ≤ n) (hn : o + n ≤ az_ln σm A) (hl : az_ln σm A ≤ 100000) (hk : yz_no σm) : ∃ σm', fz_X11_follows 2000000 σm 804 A o n = some σm' ∧ bz_Upd σm σm' yz_F ∧ yz_no σm' := by
  obtain ⟨k1, k2⟩ := hk
  have M := yz_fol hM hA o0 n0 hn hl (by omega) (by omega)
  by_cases c : n = 0
  · obtain ⟨τ, t1, t2, t3, t4, -⟩ := M.1 (by omega)
    exact ⟨τ, t1, t2, by omega, by omega⟩
  · obtain ⟨τ, t1, t2, t3, t4⟩ := M.2 (by omega)
    exact ⟨τ, t1, t2, t3, t4⟩
/-- a row that has been begun: c TERMS are still missing behind its first m codes -/
def yz_P (a : Int → Int) (m c : Int) : Prop := ∀ (b : Int → Int) (d : Nat), (∀ i, 0 ≤ i → i < m → b i = a i) → bz_Sc b d c m → bz_Sc b (m.toNat + d) 1 0
theorem yz_P.zero {a : Int → Int} : yz_P a 0 1 := by
  intro b d _ h
  rw [show (0 : Int).toNat + d = d by simp]
  exact h
theorem yz_P.part {a a' : Int → Int} {m c : Int} {z : Nat} (m0 : 0 ≤ m) (h : yz_P a m (1 + c)) (c0 : 0 ≤ c) (he : ∀ i, 0 ≤ i → i < m → a' i = a i) (hz : bz_Sc a' z 1 m) : yz_P a' (m + z) c := by
  intro b d hb hd
  have := h b (z + d) (fun i i0 i1 => by rw [hb i i0 (by omega), he i i0 i1]) (bz_Sc.join c0 (hz.cong fun j j0 j1 => (hb j (by omega) j1).symm) hd)
  rw [show (m + (z : Int)).toNat + d = m.toNat + (z + d) by omega]
  exact this
theorem yz_P.one {a a' : Int → Int} {m c : Int} (m0 : 0 ≤ m) (h : yz_P a m c) (c0 : 0 < c) (he : ∀ i, 0 ≤ i → i < m → a' i = a i) : yz_P a' (m + 1) (c - 1 + a' m) := by
  intro b d hb hd
  have := h b (d + 1) (fun i i0 i1 => by rw [hb i i0 (by omega), he i i0 i1]) ⟨c0, by rw [hb m m0 (by omega)]; exact hd⟩
  rw [show (m + 1).toNat + d = m.toNat + (d + 1) by omega]
  exact this
theorem yz_P.cong {a a' : Int → Int} {m c : Int} (h : yz_P a m c) (he : ∀ i, 0 ≤ i → i < m → a' i = a i) : yz_P a' m c :=
  fun b d hb hd => h b d (fun i i0 i1 => by rw [hb i i0 i1, he i i0 i1]) hd
theorem yz_P.pre {a : Int → Int} {d : Nat} (h : bz_Sc a d 1 0) : ∀ k : Nat, k < d → ∃ c, 0 < c ∧ bz_Sc a (d - k) c k ∧ yz_P a k c := by
  intro k
  induction k with
  | zero => intro hk; exact ⟨1, by omega, h, yz_P.zero⟩
  | succ k ih =>
    intro hk
    obtain ⟨c, c0, c1, c2⟩ := ih (by omega)
    rw [show d - k = (d - (k + 1)) + 1 by omega] at c1
    have hs := c1.2
    obtain ⟨f, hf⟩ : ∃ f, d - (k + 1) = f + 1 := ⟨d - (k + 1) - 1, by omega⟩
    refine ⟨c - 1 + a k, ?_, by push_cast; exact hs, by push_cast; exact c2.one (by omega) c0 (fun _ _ _ => rfl)⟩
    rw [hf] at hs
    exact hs.1
