/-! joining: classes of nodes as a forest, and the least relation that joining must make -/
def dz_it (up : Int → Int) : Nat → Int → Int
  | 0, n => n
  | k + 1, n => dz_it up k (up n)
/-- the top of a node's class -/
def dz_tp (up : Int → Int) (n : Int) : Int := dz_it up 200 n
/-- a forest over N nodes; h: how high a node lies at most, U: how many nodes aren't tops -/
def dz_nt (up : Int → Int) : Nat → Nat
  | 0 => 0
  | n + 1 => dz_nt up n + (if up (n : Int) = (n : Int) then 0 else 1)
def dz_In (N x : Int) : Prop := 0 ≤ x ∧ x < N
def dz_UF (up : Int → Int) (N : Int) : Prop := 0 ≤ N ∧ N ≤ 150 ∧ (∀ n, dz_In N n → dz_In N (up n)) ∧ ∃ h : Int → Nat, (∀ n, dz_In N n → up n ≠ n → h n < h (up n)) ∧ ∀ n, dz_In N n → h n ≤ dz_nt up N.toNat
theorem dz_nt_le {up : Int → Int} : ∀ n : Nat, dz_nt up n ≤ n := by
  intro n
  induction n with
  | zero => exact Nat.le_refl 0
  | succ n ih =>
    unfold dz_nt
    split <;> omega
theorem dz_it_fix {up : Int → Int} : ∀ (k : Nat) {n : Int}, up n = n → dz_it up k n = n := by
  intro k
  induction k with
  | zero => intro n _; rfl
  | succ k ih => intro n h; unfold dz_it; rw [h]; exact ih h
theorem dz_it_end {up : Int → Int} {N : Int} (hr : ∀ n, dz_In N n → dz_In N (up n)) {h : Int → Nat} {M : Nat} (hh : ∀ n, dz_In N n → up n ≠ n → h n < h (up n)) (hM : ∀ n, dz_In N n → h n ≤ M) : ∀ (k : Nat) (n : Int), dz_In N n → M < h n + k → up (dz_it up k n) = dz_it up k n ∧ dz_In N (dz_it up k n) := by
  intro k
  induction k with
  | zero => intro n hn hk; have := hM n hn; omega
  | succ k ih =>
    intro n hn hk
    by_cases e : up n = n
    · rw [dz_it_fix _ e]; exact ⟨e, hn⟩
    · unfold dz_it
      have := hh n hn e
      exact ih (up n) (hr n hn) (by omega)
theorem dz_it_add {up : Int → Int} : ∀ (k : Nat) (n : Int), dz_it up (k + 1) n = up (dz_it up k n) := by
  intro k
  induction k with
  | zero => intro n; rfl
  | succ k ih => intro n; rw [dz_it, ih]; rfl
theorem dz_UF.top {up : Int → Int} {N n : Int} (H : dz_UF up N) (hn : dz_In N n) : up (dz_tp up n) = dz_tp up n ∧ dz_In N (dz_tp up n) := by
  obtain ⟨h0, h1, h2, h, h3, h4⟩ := H
  have := dz_nt_le (up := up) N.toNat
  exact dz_it_end h2 h3 h4 200 n hn (by omega)
theorem dz_UF.up {up : Int → Int} {N n : Int} (H : dz_UF up N) (hn : dz_In N n) : dz_tp up (up n) = dz_tp up n := by
  have e : dz_it up 201 n = up (dz_it up 200 n) := dz_it_add 200 n
  have e2 : dz_it up 201 n = dz_it up 200 (up n) := rfl
  unfold dz_tp
  rw [← e2, e]
  exact (H.top hn).1
theorem dz_tp_root {up : Int → Int} {n : Int} (h : up n = n) : dz_tp up n = n := dz_it_fix 200 h
theorem dz_UF.tt {up : Int → Int} {N n : Int} (H : dz_UF up N) (hn : dz_In N n) : dz_tp up (dz_tp up n) = dz_tp up n := dz_tp_root (H.top hn).1
def dz_set (up : Int → Int) (a b : Int) : Int → Int := fun n => if n = a then b else up n
theorem dz_nt_out {up : Int → Int} {a b : Int} : ∀ n : Nat, (n : Int) ≤ a → dz_nt (dz_set up a b) n = dz_nt up n := by
  intro n
  induction n with
  | zero => intro _; rfl
  | succ n ih =>
    intro h
    unfold dz_nt
    rw [ih (by omega)]
    have : dz_set up a b (n : Int) = up (n : Int) := if_neg (by omega)
    rw [this]
theorem dz_nt_set {up : Int → Int} {a b : Int} (ha : 0 ≤ a) (hu : up a = a) (hb : b ≠ a) : ∀ n : Nat, a < (n : Int) → dz_nt (dz_set up a b) n = dz_nt up n + 1 := by
  intro n
  induction n with
  | zero => intro h; omega
  | succ n ih =>
    intro h
    unfold dz_nt
    by_cases e : (n : Int) = a
    · have : dz_set up a b (n : Int) = b := if_pos e
      rw [dz_nt_out n (by omega), this, if_neg (by omega), e, if_pos hu]
    · have : dz_set up a b (n : Int) = up (n : Int) := if_neg e
      rw [ih (by omega), this]
      omega
/-- two tops become one class -/
theorem dz_UF.join {up : Int → Int} {N a b : Int} (H : dz_UF up N) (ha : dz_In N a) (hb : dz_In N b) (ra : up a = a) (rb : up b = b) (ne : a ≠ b) : dz_UF (dz_set up a b) N ∧ (∀ n, dz_In N n → dz_tp (dz_set up a b) n = if dz_tp up n = a then b else dz_tp up n) ∧ dz_nt (dz_set up a b) N.toNat = dz_nt up N.toNat + 1 := by
  have H0 := H
  obtain ⟨h0, h1, h2, h, h3, h4⟩ := H
  have hcnt := dz_nt_set (up := up) (b := b) ha.1 ra (fun e => ne e.symm) N.toNat (by have := ha.2; omega)
  have hU : dz_UF (dz_set up a b) N := by
    refine ⟨h0, h1, fun n hn => ?_, fun n => if n = b then max (h b) (h a + 1) else h n, fun n hn hne => ?_, fun n hn => ?_⟩
    · unfold dz_set
      by_cases e : n = a
      · rw [if_pos e]; exact hb
      · rw [if_neg e]; exact h2 n hn
    · unfold dz_set at hne ⊢
      by_cases e : n = a
      · subst e
        simp only [if_true, if_neg ne]
        omega
      · simp only [if_neg e] at hne ⊢
        by_cases e2 : n = b
        · subst e2; exact absurd rb hne
        · rw [if_neg e2]
          have := h3 n hn hne
          by_cases e3 : up n = b
          · simp only [e3, if_true]; rw [e3] at this; omega
          · rw [if_neg e3]; exact this
    · rw [hcnt]
      have x1 := h4 a ha
      have x2 := h4 b hb
      have x3 := h4 n hn
      by_cases e2 : n = b
      · simp only [e2, if_true]; omega
      · simp only [if_neg e2]; omega
  refine ⟨hU, ?_, hcnt⟩
  have key : ∀ (d : Nat) (n : Int), dz_In N n → dz_nt up N.toNat ≤ h n + d → dz_tp (dz_set up a b) n = if dz_tp up n = a then b else dz_tp up n := by
    intro d
    have hsb : dz_set up a b b = b := by
      unfold dz_set
      rw [if_neg (fun e => ne e.symm)]
      exact rb
    have root : ∀ n, dz_In N n → up n = n → dz_tp (dz_set up a b) n = if dz_tp up n = a then b else dz_tp up n := by
      intro n hn e
      rw [dz_tp_root e]
      by_cases ea : n = a
      · rw [if_pos ea, ← hU.up hn]
        have : dz_set up a b n = b := if_pos ea
        rw [this]
        exact dz_tp_root hsb
      · rw [if_neg ea]
        refine dz_tp_root ?_
        unfold dz_set
        rw [if_neg ea]
        exact e
    induction d with
    | zero =>
      intro n hn hd
      by_cases e : up n = n
      · exact root n hn e
      · have := h3 n hn e
        have := h4 (up n) (h2 n hn)
        omega
    | succ d ih =>
      intro n hn hd
      by_cases e : up n = n
      · exact root n hn e
      · have := h3 n hn e
        have q := ih (up n) (h2 n hn) (by omega)
        have es : dz_set up a b n = up n := if_neg (fun ea => e (by rw [ea]; exact ra))
        rw [← hU.up hn, es, q, H0.up hn]
  intro n hn
  exact key (dz_nt up N.toNat) n hn (by omega)
theorem dz_UF.nt_lt {up : Int → Int} {N a : Int} (ha : dz_In N a) (ra : up a = a) : dz_nt up N.toNat < N.toNat := by
  have key : ∀ n : Nat, a < (n : Int) → dz_nt up n < n := by
    intro n
    induction n with
    | zero => intro h; have := ha.1; omega
    | succ n ih =>
      intro h
      unfold dz_nt
      by_cases e : (n : Int) = a
      · rw [e, if_pos ra]
        have := dz_nt_le (up := up) n
        omega
      · have := ih (by omega)
        split <;> omega
  have := ha.1
  have := ha.2
  exact key N.toNat (by omega)
/-- nobody is joined yet -/
theorem dz_UF.id {up : Int → Int} {N : Int} (h0 : 0 ≤ N) (h1 : N ≤ 150) (h : ∀ n, dz_In N n → up n = n) : dz_UF up N := ⟨h0, h1, fun n hn => by rw [h n hn]; exact hn, fun _ => 0, fun n hn e => absurd (h n hn) e, fun n hn => Nat.zero_le _⟩
/-! the graph: N nodes, iv: a variable, sy: what it is, ar: how many arguments, kd: which -/
abbrev dz_G : Type := Int × (Int → Prop) × (Int → Int) × (Int → Int) × (Int → Int → Int)
def dz_N (g : dz_G) : Int := g.1
def dz_iv (g : dz_G) (n : Int) : Prop := g.2.1 n
def dz_sy (g : dz_G) (n : Int) : Int := g.2.2.1 n
def dz_ar (g : dz_G) (n : Int) : Int := g.2.2.2.1 n
def dz_kd (g : dz_G) (n k : Int) : Int := g.2.2.2.2 n k
def dz_ok (g : dz_G) : Prop := 0 ≤ dz_N g ∧ dz_N g ≤ 120 ∧ (∀ n, dz_In (dz_N g) n → ¬ dz_iv g n → 0 ≤ dz_ar g n ∧ dz_ar g n ≤ 3 ∧ ∀ k, 0 ≤ k → k < dz_ar g n → dz_In (dz_N g) (dz_kd g n k)) ∧ ∀ n m, dz_In (dz_N g) n → dz_In (dz_N g) m → ¬ dz_iv g n → ¬ dz_iv g m → dz_sy g n = dz_sy g m → dz_ar g n = dz_ar g m
def dz_Eq (Q : Int → Int → Prop) : Prop := (∀ x, Q x x) ∧ (∀ x y, Q x y → Q y x) ∧ ∀ x y z, Q x y → Q y z → Q x z
def dz_Cd (g : dz_G) (Q : Int → Int → Prop) : Prop := ∀ x y, dz_In (dz_N g) x → dz_In (dz_N g) y → Q x y → ¬ dz_iv g x → ¬ dz_iv g y → dz_sy g x = dz_sy g y → ∀ k, 0 ≤ k → k < dz_ar g x → Q (dz_kd g x k) (dz_kd g y k)
/-- the least relation that joining a and b must make -/
def dz_Cl (g : dz_G) (a b x y : Int) : Prop := ∀ Q, dz_Eq Q → dz_Cd g Q → Q a b → Q x y
theorem dz_Cl.eq {g : dz_G} {a b : Int} : dz_Eq (dz_Cl g a b) := ⟨fun x Q h _ _ => h.1 x, fun x y q Q h c e => h.2.1 x y (q Q h c e), fun x y z q r Q h c e => h.2.2 x y z (q Q h c e) (r Q h c e)⟩
theorem dz_Cl.cd {g : dz_G} {a b : Int} : dz_Cd g (dz_Cl g a b) := fun x y hx hy q nx ny e k h0 h1 Q h c f => c x y hx hy (q Q h c f) nx ny e k h0 h1
theorem dz_Cl.base {g : dz_G} {a b : Int} : dz_Cl g a b a b := fun _ _ _ f => f
/-- two classes that can't be one -/
def dz_Clash (g : dz_G) (a b : Int) : Prop := ∃ x y, dz_In (dz_N g) x ∧ dz_In (dz_N g) y ∧ dz_Cl g a b x y ∧ ¬ dz_iv g x ∧ ¬ dz_iv g y ∧ dz_sy g x ≠ dz_sy g y
/-- of one class as it is now -/
def dz_P (up : Int → Int) (N x y : Int) : Prop := x = y ∨ (dz_In N x ∧ dz_In N y ∧ dz_tp up x = dz_tp up y)
theorem dz_P.eq {up : Int → Int} {N : Int} : dz_Eq (dz_P up N) := by
  refine ⟨fun x => Or.inl rfl, fun x y q => ?_, fun x y z q r => ?_⟩
  · rcases q with q | q
    · exact Or.inl q.symm
    · exact Or.inr ⟨q.2.1, q.1, q.2.2.symm⟩
  · rcases q with rfl | q
    · exact r
    · rcases r with rfl | r
      · exact Or.inr q
      · exact Or.inr ⟨q.1, r.2.1, q.2.2.trans r.2.2⟩
/-- the classes with those still to be joined -/
def dz_E (up : Int → Int) (N : Int) (S : Int → Int → Prop) (x y : Int) : Prop := ∀ Q, dz_Eq Q → (∀ u v, dz_P up N u v → Q u v) → (∀ u v, S u v → Q u v) → Q x y
theorem dz_E.eq {up : Int → Int} {N : Int} {S : Int → Int → Prop} : dz_Eq (dz_E up N S) := ⟨fun x Q h _ _ => h.1 x, fun x y q Q h c e => h.2.1 x y (q Q h c e), fun x y z q r Q h c e => h.2.2 x y z (q Q h c e) (r Q h c e)⟩
theorem dz_E.mono {up up' : Int → Int} {N : Int} {S S' : Int → Int → Prop} (h1 : ∀ u v, dz_P up N u v → dz_E up' N S' u v) (h2 : ∀ u v, S u v → dz_E up' N S' u v) {x y : Int} (h : dz_E up N S x y) : dz_E up' N S' x y := h _ dz_E.eq h1 h2
theorem dz_E.p {up : Int → Int} {N : Int} {S : Int → Int → Prop} {x y : Int} (h : dz_P up N x y) : dz_E up N S x y := fun _ _ c _ => c x y h
theorem dz_E.s {up : Int → Int} {N : Int} {S : Int → Int → Prop} {x y : Int} (h : S x y) : dz_E up N S x y := fun _ _ _ c => c x y h
theorem dz_E.none {up : Int → Int} {N : Int} {x y : Int} (h : dz_E up N (fun _ _ => False) x y) : dz_P up N x y := h _ dz_P.eq (fun _ _ q => q) (fun _ _ q => q.elim)
/-- what holds while a and b are joined, S still to be joined -/
def dz_Inv (g : dz_G) (C : Int → Int → Prop) (a b : Int) (up : Int → Int) (S : Int → Int → Prop) : Prop :=
  dz_UF up (dz_N g) ∧ (∀ x y, dz_P up (dz_N g) x y → C x y) ∧ (∀ x y, S x y → dz_In (dz_N g) x ∧ dz_In (dz_N g) y ∧ C x y) ∧
  (∀ x, dz_In (dz_N g) x → ¬ dz_iv g x → ¬ dz_iv g (dz_tp up x) ∧ dz_sy g (dz_tp up x) = dz_sy g x) ∧
  (∀ x y, dz_In (dz_N g) x → dz_In (dz_N g) y → dz_tp up x = dz_tp up y → ¬ dz_iv g x → ¬ dz_iv g y → ∀ k, 0 ≤ k → k < dz_ar g x → dz_E up (dz_N g) S (dz_kd g x k) (dz_kd g y k)) ∧ dz_E up (dz_N g) S a b
theorem dz_Inv.cong {g : dz_G} {C : Int → Int → Prop} {a b : Int} {up : Int → Int} {S S' : Int → Int → Prop} (h : dz_Inv g C a b up S) (hs : ∀ x y, S x y ↔ S' x y) : dz_Inv g C a b up S' := by
  have : S = S' := funext fun x => funext fun y => propext (hs x y)
  rw [← this]; exact h
/-- nothing is left: the classes are closed -/
theorem dz_Inv.fin' {g : dz_G} {C : Int → Int → Prop} {a b : Int} {up : Int → Int} (h : dz_Inv g C a b up (fun _ _ => False)) : dz_Cd g (dz_P up (dz_N g)) ∧ dz_P up (dz_N g) a b := by
  obtain ⟨h1, h2, h3, h4, h5, h6⟩ := h
  refine ⟨?_, dz_E.none h6⟩
  intro x y hx hy q nx ny e k k0 k1
  rcases q with rfl | q
  · exact Or.inl rfl
  · exact dz_E.none (h5 x y hx hy q.2.2 nx ny k k0 k1)
/-- that is the least one, and nothing clashes -/
theorem dz_Inv.fin {g : dz_G} {a b : Int} {up : Int → Int} (h : dz_Inv g (dz_Cl g a b) a b up (fun _ _ => False)) : (∀ x y, dz_In (dz_N g) x → dz_In (dz_N g) y → (dz_tp up x = dz_tp up y ↔ dz_Cl g a b x y)) ∧ ¬ dz_Clash g a b := by
  obtain ⟨hcd, hab⟩ := h.fin'
  obtain ⟨h1, h2, h3, h4, h5, h6⟩ := h
  have hle : ∀ x y, dz_Cl g a b x y → dz_P up (dz_N g) x y := fun x y q => q _ dz_P.eq hcd hab
  refine ⟨fun x y hx hy => ⟨fun q => h2 x y (Or.inr ⟨hx, hy, q⟩), fun q => ?_⟩, ?_⟩
  · rcases hle x y q with rfl | q
    · rfl
    · exact q.2.2
  · rintro ⟨x, y, hx, hy, q, nx, ny, ne⟩
    apply ne
    have e : dz_tp up x = dz_tp up y := by
      rcases hle x y q with rfl | q
      · rfl
      · exact q.2.2
    rw [← (h4 x hx nx).2, ← (h4 y hy ny).2, e]
/-- a pair whose classes are one already -/
theorem dz_Inv.skip {g : dz_G} {C : Int → Int → Prop} {a b u v : Int} {up : Int → Int} {S : Int → Int → Prop} (h : dz_Inv g C a b up (fun x y => (x = u ∧ y = v) ∨ S x y)) (e : dz_tp up u = dz_tp up v) : dz_Inv g C a b up S := by
  obtain ⟨h1, h2, h3, h4, h5, h6⟩ := h
  have huv := h3 u v (Or.inl ⟨rfl, rfl⟩)
  have m : ∀ x y, dz_E up (dz_N g) (fun x y => (x = u ∧ y = v) ∨ S x y) x y → dz_E up (dz_N g) S x y := by
    intro x y q
    refine dz_E.mono (fun u v q => dz_E.p q) (fun x y q => ?_) q
    rcases q with ⟨rfl, rfl⟩ | q
    · exact dz_E.p (Or.inr ⟨huv.1, huv.2.1, e⟩)
    · exact dz_E.s q
  exact ⟨h1, h2, fun x y q => h3 x y (Or.inr q), h4, fun x y hx hy q nx ny k k0 k1 => m _ _ (h5 x y hx hy q nx ny k k0 k1), m _ _ h6⟩
/-- p, q: the tops of a pair's classes, in either order; the class of p goes under q -/
theorem dz_Inv.step {g : dz_G} (hg : dz_ok g) {C : Int → Int → Prop} (hE : dz_Eq C) (hC : dz_Cd g C) {a b u v p q : Int} {up : Int → Int} {S : Int → Int → Prop} (h : dz_Inv g C a b up (fun x y => (x = u ∧ y = v) ∨ S x y)) (ne : p ≠ q) (hpq : (p = dz_tp up u ∧ q = dz_tp up v) ∨ (p = dz_tp up v ∧ q = dz_tp up u))
    (hv : dz_iv g p ∨ (¬ dz_iv g p ∧ ¬ dz_iv g q ∧ dz_sy g p = dz_sy g q)) :
    dz_Inv g C a b (dz_set up p q) (fun x y => (¬ dz_iv g p ∧ ∃ k, 0 ≤ k ∧ k < dz_ar g p ∧ ((x = dz_kd g (dz_tp up u) k ∧ y = dz_kd g (dz_tp up v) k))) ∨ S x y) ∧ dz_nt (dz_set up p q) (dz_N g).toNat = dz_nt up (dz_N g).toNat + 1 ∧ dz_nt up (dz_N g).toNat < (dz_N g).toNat := by
  obtain ⟨h1, h2, h3, h4, h5, h6⟩ := h
  obtain ⟨iu, iv, cuv⟩ := h3 u v (Or.inl ⟨rfl, rfl⟩)
  have tu := h1.top iu
  have tv := h1.top iv
  have pp : dz_In (dz_N g) p ∧ up p = p := by
    rcases hpq with ⟨e, -⟩ | ⟨e, -⟩
    · rw [e]; exact ⟨tu.2, tu.1⟩
    · rw [e]; exact ⟨tv.2, tv.1⟩
  have qq : dz_In (dz_N g) q ∧ up q = q := by
    rcases hpq with ⟨-, e⟩ | ⟨-, e⟩
    · rw [e]; exact ⟨tv.2, tv.1⟩
    · rw [e]; exact ⟨tu.2, tu.1⟩
  have cu : C u (dz_tp up u) := h2 _ _ (Or.inr ⟨iu, tu.2, (h1.tt iu).symm⟩)
  have cv : C v (dz_tp up v) := h2 _ _ (Or.inr ⟨iv, tv.2, (h1.tt iv).symm⟩)
  have ctt : C (dz_tp up u) (dz_tp up v) := hE.2.2 _ _ _ (hE.2.1 _ _ cu) (hE.2.2 _ _ _ cuv cv)
  have cpq : C p q := by
    rcases hpq with ⟨e1, e2⟩ | ⟨e1, e2⟩
    · rw [e1, e2]; exact ctt
    · rw [e1, e2]; exact hE.2.1 _ _ ctt
  obtain ⟨j1, j2, j3⟩ := h1.join pp.1 qq.1 pp.2 qq.2 ne
  refine ⟨⟨j1, ?_, ?_, ?_, ?_, ?_⟩, j3, dz_UF.nt_lt pp.1 pp.2⟩
  · intro x y hxy
    rcases hxy with rfl | ⟨hx, hy, e⟩
    · exact hE.1 x
    · rw [j2 x hx, j2 y hy] at e
      have rx : C x (dz_tp up x) := h2 _ _ (Or.inr ⟨hx, (h1.top hx).2, (h1.tt hx).symm⟩)
      have ry : C y (dz_tp up y) := h2 _ _ (Or.inr ⟨hy, (h1.top hy).2, (h1.tt hy).symm⟩)
      have k : C (dz_tp up x) (dz_tp up y) := by
        by_cases ex : dz_tp up x = p
        · rw [if_pos ex] at e
          by_cases ey : dz_tp up y = p
          · rw [ex, ey]; exact hE.1 p
          · rw [if_neg ey] at e
            rw [ex, ← e]; exact cpq
        · rw [if_neg ex] at e
          by_cases ey : dz_tp up y = p
          · rw [if_pos ey] at e
            rw [ey, e]; exact hE.2.1 _ _ cpq
          · rw [if_neg ey] at e
            rw [e]; exact hE.1 _
      exact hE.2.2 _ _ _ rx (hE.2.2 _ _ _ k (hE.2.1 _ _ ry))
  · intro x y hxy
    rcases hxy with ⟨np, k, k0, k1, rfl, rfl⟩ | hxy
    · rcases hv with hv | ⟨-, nq, es⟩
      · exact absurd hv np
      · have n2 : ¬ dz_iv g (dz_tp up u) ∧ ¬ dz_iv g (dz_tp up v) ∧ dz_sy g (dz_tp up u) = dz_sy g (dz_tp up v) ∧ k < dz_ar g (dz_tp up u) ∧ k < dz_ar g (dz_tp up v) := by
          have ea := hg.2.2.2 p q pp.1 qq.1 np nq es
          rcases hpq with ⟨e1, e2⟩ | ⟨e1, e2⟩
          · rw [← e1, ← e2]; exact ⟨np, nq, es, k1, by rw [← ea]; exact k1⟩
          · rw [← e1, ← e2]; exact ⟨nq, np, es.symm, by rw [← ea]; exact k1, k1⟩
        exact ⟨(hg.2.2.1 _ tu.2 n2.1).2.2 k k0 n2.2.2.2.1, (hg.2.2.1 _ tv.2 n2.2.1).2.2 k k0 n2.2.2.2.2, hC _ _ tu.2 tv.2 ctt n2.1 n2.2.1 n2.2.2.1 k k0 n2.2.2.2.1⟩
    · exact h3 x y (Or.inr hxy)
  · intro x hx nx
    rw [j2 x hx]
    obtain ⟨a1, a2⟩ := h4 x hx nx
    by_cases e : dz_tp up x = p
    · rw [if_pos e]
      rcases hv with hv | ⟨np, nq, es⟩
      · rw [e] at a1; exact absurd hv a1
      · exact ⟨nq, by rw [← es, ← e]; exact a2⟩
    · rw [if_neg e]; exact ⟨a1, a2⟩
  all_goals
    have mP : ∀ x y, dz_P up (dz_N g) x y → dz_P (dz_set up p q) (dz_N g) x y := by
      intro x y hxy
      rcases hxy with rfl | ⟨hx, hy, e⟩
      · exact Or.inl rfl
      · exact Or.inr ⟨hx, hy, by rw [j2 x hx, j2 y hy, e]⟩
    have pq' : dz_P (dz_set up p q) (dz_N g) p q := Or.inr ⟨pp.1, qq.1, by rw [j2 p pp.1, j2 q qq.1, dz_tp_root pp.2, dz_tp_root qq.2, if_pos rfl, if_neg (fun e => ne e.symm)]⟩
    have uv' : dz_P (dz_set up p q) (dz_N g) u v := by
      have e1 := mP u (dz_tp up u) (Or.inr ⟨iu, tu.2, (h1.tt iu).symm⟩)
      have e2 := mP v (dz_tp up v) (Or.inr ⟨iv, tv.2, (h1.tt iv).symm⟩)
      have e3 : dz_P (dz_set up p q) (dz_N g) (dz_tp up u) (dz_tp up v) := by
        rcases hpq with ⟨x1, x2⟩ | ⟨x1, x2⟩
        · rw [← x1, ← x2]; exact pq'
        · rw [← x1, ← x2]; exact dz_P.eq.2.1 _ _ pq'
      exact dz_P.eq.2.2 _ _ _ e1 (dz_P.eq.2.2 _ _ _ e3 (dz_P.eq.2.1 _ _ e2))
    have mE : ∀ x y, dz_E up (dz_N g) (fun x y => (x = u ∧ y = v) ∨ S x y) x y → dz_E (dz_set up p q) (dz_N g) (fun x y => (¬ dz_iv g p ∧ ∃ k, 0 ≤ k ∧ k < dz_ar g p ∧ ((x = dz_kd g (dz_tp up u) k ∧ y = dz_kd g (dz_tp up v) k))) ∨ S x y) x y := by
      intro x y hxy
      refine dz_E.mono (fun x y r => dz_E.p (mP x y r)) (fun x y r => ?_) hxy
      rcases r with ⟨rfl, rfl⟩ | r
      · exact dz_E.p uv'
      · exact dz_E.s (Or.inr r)
  · intro x y hx hy e nx ny k k0 k1
    by_cases old : dz_tp up x = dz_tp up y
    · exact mE _ _ (h5 x y hx hy old nx ny k k0 k1)
    · rw [j2 x hx, j2 y hy] at e
      obtain ⟨nx1, sx1⟩ := h4 x hx nx
      obtain ⟨ny1, sy1⟩ := h4 y hy ny
      have both : (dz_tp up x = p ∧ dz_tp up y = q) ∨ (dz_tp up x = q ∧ dz_tp up y = p) := by
        by_cases ex : dz_tp up x = p
        · by_cases ey : dz_tp up y = p
          · exact absurd (ex.trans ey.symm) old
          · rw [if_pos ex, if_neg ey] at e
            exact Or.inl ⟨ex, e.symm⟩
        · by_cases ey : dz_tp up y = p
          · rw [if_neg ex, if_pos ey] at e
            exact Or.inr ⟨e, ey⟩
          · rw [if_neg ex, if_neg ey] at e
            exact absurd e old
      have np : ¬ dz_iv g p := by
        rcases both with ⟨e1, -⟩ | ⟨-, e1⟩
        · rw [← e1]; exact nx1
        · rw [← e1]; exact ny1
      obtain ⟨nq, es⟩ : ¬ dz_iv g q ∧ dz_sy g p = dz_sy g q := by
        rcases hv with hv | hv
        · exact absurd hv np
        · exact hv.2
      have ea := hg.2.2.2 p q pp.1 qq.1 np nq es
      have arx : dz_ar g x = dz_ar g (dz_tp up x) := hg.2.2.2 _ _ hx (h1.top hx).2 nx nx1 sx1.symm
      have ary : dz_ar g y = dz_ar g (dz_tp up y) := hg.2.2.2 _ _ hy (h1.top hy).2 ny ny1 sy1.symm
      have kp : k < dz_ar g p := by
        rcases both with ⟨e1, -⟩ | ⟨e1, -⟩
        · rw [← e1, ← arx]; exact k1
        · rw [ea, ← e1, ← arx]; exact k1
      have top : dz_E (dz_set up p q) (dz_N g) (fun x y => (¬ dz_iv g p ∧ ∃ k, 0 ≤ k ∧ k < dz_ar g p ∧ ((x = dz_kd g (dz_tp up u) k ∧ y = dz_kd g (dz_tp up v) k))) ∨ S x y) (dz_kd g (dz_tp up x) k) (dz_kd g (dz_tp up y) k) := by
        have s0 : dz_E (dz_set up p q) (dz_N g) (fun x y => (¬ dz_iv g p ∧ ∃ k, 0 ≤ k ∧ k < dz_ar g p ∧ ((x = dz_kd g (dz_tp up u) k ∧ y = dz_kd g (dz_tp up v) k))) ∨ S x y) (dz_kd g (dz_tp up u) k) (dz_kd g (dz_tp up v) k) := dz_E.s (Or.inl ⟨np, k, k0, kp, rfl, rfl⟩)
        rcases hpq with ⟨x1, x2⟩ | ⟨x1, x2⟩
        · rcases both with ⟨e1, e2⟩ | ⟨e1, e2⟩
          · rw [e1.trans x1, e2.trans x2]; exact s0
          · rw [e1.trans x2, e2.trans x1]; exact dz_E.eq.2.1 _ _ s0
        · rcases both with ⟨e1, e2⟩ | ⟨e1, e2⟩
          · rw [e1.trans x1, e2.trans x2]; exact dz_E.eq.2.1 _ _ s0
          · rw [e1.trans x2, e2.trans x1]; exact s0
      have c1 := mE _ _ (h5 x (dz_tp up x) hx (h1.top hx).2 (h1.tt hx).symm nx nx1 k k0 k1)
      have c2 := mE _ _ (h5 y (dz_tp up y) hy (h1.top hy).2 (h1.tt hy).symm ny ny1 k k0 (by
        rw [ary]
        rcases both with ⟨-, e2⟩ | ⟨-, e2⟩
        · rw [e2, ← ea]; exact kp
        · rw [e2]; exact kp))
      exact dz_E.eq.2.2 _ _ _ c1 (dz_E.eq.2.2 _ _ _ top (dz_E.eq.2.1 _ _ c2))
  · exact mE _ _ h6
/-- a pair's tops are of C -/
theorem dz_Inv.tops {g : dz_G} {C : Int → Int → Prop} (hE : dz_Eq C) {a b u v : Int} {up : Int → Int} {S : Int → Int → Prop} (h : dz_Inv g C a b up (fun x y => (x = u ∧ y = v) ∨ S x y)) : dz_In (dz_N g) (dz_tp up u) ∧ dz_In (dz_N g) (dz_tp up v) ∧ up (dz_tp up u) = dz_tp up u ∧ up (dz_tp up v) = dz_tp up v ∧ C (dz_tp up u) (dz_tp up v) := by
  obtain ⟨h1, h2, h3, h4, h5, h6⟩ := h
  obtain ⟨iu, iv, cuv⟩ := h3 u v (Or.inl ⟨rfl, rfl⟩)
  have tu := h1.top iu
  have tv := h1.top iv
  have cu : C u (dz_tp up u) := h2 _ _ (Or.inr ⟨iu, tu.2, (h1.tt iu).symm⟩)
  have cv : C v (dz_tp up v) := h2 _ _ (Or.inr ⟨iv, tv.2, (h1.tt iv).symm⟩)
  exact ⟨tu.2, tv.2, tu.1, tv.1, hE.2.2 _ _ _ (hE.2.1 _ _ cu) (hE.2.2 _ _ _ cuv cv)⟩
/-- at first only a and b are to be joined -/
theorem dz_Inv.start {g : dz_G} (hg : dz_ok g) {a b : Int} {up : Int → Int} (ha : dz_In (dz_N g) a) (hb : dz_In (dz_N g) b) (h : ∀ n, dz_In (dz_N g) n → up n = n) : dz_Inv g (dz_Cl g a b) a b up (fun x y => (x = a ∧ y = b) ∨ False) := by
  refine ⟨dz_UF.id hg.1 (by have := hg.2.1; omega) h, ?_, ?_, ?_, ?_, ?_⟩
  · intro x y q
    rcases q with rfl | ⟨hx, hy, e⟩
    · exact dz_Cl.eq.1 x
    · rw [dz_tp_root (h x hx), dz_tp_root (h y hy)] at e
      rw [e]; exact dz_Cl.eq.1 y
  · intro x y q
    rcases q with ⟨rfl, rfl⟩ | q
    · exact ⟨ha, hb, dz_Cl.base⟩
    · exact q.elim
  · intro x hx nx
    rw [dz_tp_root (h x hx)]; exact ⟨nx, rfl⟩
  · intro x y hx hy e nx ny k k0 k1
    rw [dz_tp_root (h x hx), dz_tp_root (h y hy)] at e
    rw [e]; exact dz_E.eq.1 _
  · exact dz_E.s (Or.inl ⟨rfl, rfl⟩)
/-- a second joining begins with the classes that a first one left -/
def dz_Rep (g : dz_G) (up : Int → Int) : Prop := ∀ x, dz_In (dz_N g) x → ¬ dz_iv g x → ¬ dz_iv g (dz_tp up x) ∧ dz_sy g (dz_tp up x) = dz_sy g x
theorem dz_Inv.again {g : dz_G} {C : Int → Int → Prop} {a b : Int} {up : Int → Int} (ha : dz_In (dz_N g) a) (hb : dz_In (dz_N g) b) (hU : dz_UF up (dz_N g)) (hr : dz_Rep g up) (hd : dz_Cd g (dz_P up (dz_N g))) (hP : ∀ x y, dz_P up (dz_N g) x y → C x y) (hab : C a b) : dz_Inv g C a b up (fun x y => (x = a ∧ y = b) ∨ False) := by
  refine ⟨hU, hP, ?_, hr, ?_, dz_E.s (Or.inl ⟨rfl, rfl⟩)⟩
  · intro x y q
    rcases q with ⟨rfl, rfl⟩ | q
    · exact ⟨ha, hb, hab⟩
    · exact q.elim
  · intro x y hx hy e nx ny k k0 k1
    refine dz_E.p (hd x y hx hy (Or.inr ⟨hx, hy, e⟩) nx ny ?_ k k0 k1)
    rw [← (hr x hx nx).2, ← (hr y hy ny).2, e]
/-! circles: whether the classes can be ranked -/
def dz_NC (g : dz_G) (a b : Int) : Prop := ∃ ρ : Int → Nat, (∀ x y, dz_In (dz_N g) x → dz_In (dz_N g) y → dz_Cl g a b x y → ρ x = ρ y) ∧ ∀ x, dz_In (dz_N g) x → ¬ dz_iv g x → ∀ k, 0 ≤ k → k < dz_ar g x → ρ (dz_kd g x k) < ρ x
/-- ranks of the tops alone -/
def dz_RK (g : dz_G) (up : Int → Int) (ρ : Int → Nat) : Prop := ∀ x, dz_In (dz_N g) x → up x = x → ¬ dz_iv g x → ∀ k, 0 ≤ k → k < dz_ar g x → ρ (dz_tp up (dz_kd g x k)) < ρ x
theorem dz_RK.nc {g : dz_G} (hg : dz_ok g) {a b : Int} {up : Int → Int} (h : dz_Inv g (dz_Cl g a b) a b up (fun _ _ => False)) {ρ : Int → Nat} (hr : dz_RK g up ρ) : dz_NC g a b := by
  have hf := h.fin
  have hd := h.fin'.1
  obtain ⟨h1, h2, h3, h4, h5, h6⟩ := h
  refine ⟨fun x => ρ (dz_tp up x), fun x y hx hy q => by show ρ _ = ρ _; rw [(hf.1 x y hx hy).mpr q], fun x hx nx k k0 k1 => ?_⟩
  have t := h1.top hx
  have n := h4 x hx nx
  have ea := hg.2.2.2 x (dz_tp up x) hx t.2 nx n.1 n.2.symm
  have q := hd x (dz_tp up x) hx t.2 (Or.inr ⟨hx, t.2, (h1.tt hx).symm⟩) nx n.1 n.2.symm k k0 k1
  have e : dz_tp up (dz_kd g x k) = dz_tp up (dz_kd g (dz_tp up x) k) := by
    rcases q with q | q
    · rw [q]
    · exact q.2.2
  show ρ (dz_tp up (dz_kd g x k)) < ρ (dz_tp up x)
  rw [e]
  exact hr _ t.2 t.1 n.1 k k0 (by rw [← ea]; exact k1)
theorem dz_NC.rk {g : dz_G} (hg : dz_ok g) {a b : Int} {up : Int → Int} (h : dz_Inv g (dz_Cl g a b) a b up (fun _ _ => False)) (hn : dz_NC g a b) : ∃ ρ, dz_RK g up ρ := by
  have hf := h.fin
  obtain ⟨h1, h2, h3, h4, h5, h6⟩ := h
  obtain ⟨ρ, r1, r2⟩ := hn
  refine ⟨ρ, fun x hx ux nx k k0 k1 => ?_⟩
  have ik := (hg.2.2.1 x hx nx).2.2 k k0 k1
  have t := h1.top ik
  rw [r1 (dz_tp up (dz_kd g x k)) (dz_kd g x k) t.2 ik ((hf.1 _ _ t.2 ik).mp (h1.tt ik))]
  exact r2 x hx nx k k0 k1
/-! the same by a joining: P the classes -/
def dz_Bs (g : dz_G) (P B : Int → Int → Prop) : Prop := ∀ u v, B u v → P u v ∨ ∃ x y, dz_In (dz_N g) x ∧ dz_In (dz_N g) y ∧ P u x ∧ P v y ∧ ¬ dz_iv g x ∧ ¬ dz_iv g y ∧ dz_sy g x = dz_sy g y ∧ ∀ k, 0 ≤ k → k < dz_ar g x → B (dz_kd g x k) (dz_kd g y k)
def dz_Sm (g : dz_G) (P : Int → Int → Prop) (u v : Int) : Prop := ∃ B, dz_Bs g P B ∧ B u v
theorem dz_Sm.p {g : dz_G} {P : Int → Int → Prop} {u v : Int} (h : P u v) : dz_Sm g P u v := ⟨P, fun u v q => Or.inl q, h⟩
theorem dz_Sm.out {g : dz_G} {P : Int → Int → Prop} {u v : Int} (h : dz_Sm g P u v) : P u v ∨ ∃ x y, dz_In (dz_N g) x ∧ dz_In (dz_N g) y ∧ P u x ∧ P v y ∧ ¬ dz_iv g x ∧ ¬ dz_iv g y ∧ dz_sy g x = dz_sy g y ∧ ∀ k, 0 ≤ k → k < dz_ar g x → dz_Sm g P (dz_kd g x k) (dz_kd g y k) := by
  obtain ⟨B, hB, hb⟩ := h
  rcases hB u v hb with q | ⟨x, y, h1, h2, h3, h4, h5, h6, h7, h8⟩
  · exact Or.inl q
  · exact Or.inr ⟨x, y, h1, h2, h3, h4, h5, h6, h7, fun k k0 k1 => ⟨B, hB, h8 k k0 k1⟩⟩
theorem dz_Sm.mk {g : dz_G} {P : Int → Int → Prop} {u v x y : Int} (h1 : dz_In (dz_N g) x) (h2 : dz_In (dz_N g) y) (h3 : P u x) (h4 : P v y) (h5 : ¬ dz_iv g x) (h6 : ¬ dz_iv g y) (h7 : dz_sy g x = dz_sy g y) (h8 : ∀ k, 0 ≤ k → k < dz_ar g x → dz_Sm g P (dz_kd g x k) (dz_kd g y k)) : dz_Sm g P u v := by
  refine ⟨fun a b => dz_Sm g P a b ∨ (a = u ∧ b = v), fun a b q => ?_, Or.inr ⟨rfl, rfl⟩⟩
  rcases q with q | ⟨rfl, rfl⟩
  · rcases q.out with q | ⟨x, y, h1, h2, h3, h4, h5, h6, h7, h8⟩
    · exact Or.inl q
    · exact Or.inr ⟨x, y, h1, h2, h3, h4, h5, h6, h7, fun k k0 k1 => Or.inl (h8 k k0 k1)⟩
  · exact Or.inr ⟨x, y, h1, h2, h3, h4, h5, h6, h7, fun k k0 k1 => Or.inl (h8 k k0 k1)⟩
/-- it is one relation with the classes in it -/
theorem dz_Sm.eq {g : dz_G} (hg : dz_ok g) {P : Int → Int → Prop} (hE : dz_Eq P) (hd : dz_Cd g P) (hs : ∀ x y, dz_In (dz_N g) x → dz_In (dz_N g) y → P x y → ¬ dz_iv g x → ¬ dz_iv g y → dz_sy g x = dz_sy g y) : dz_Eq (dz_Sm g P) := by
  refine ⟨fun x => dz_Sm.p (hE.1 x), fun x y q => ?_, fun x y z q r => ?_⟩
  · refine ⟨fun a b => dz_Sm g P b a, fun a b q => ?_, q⟩
    rcases dz_Sm.out q with q | ⟨x, y, h1, h2, h3, h4, h5, h6, h7, h8⟩
    · exact Or.inl (hE.2.1 _ _ q)
    · have ea := hg.2.2.2 x y h1 h2 h5 h6 h7
      exact Or.inr ⟨y, x, h2, h1, h4, h3, h6, h5, h7.symm, fun k k0 k1 => h8 k k0 (by rw [ea]; exact k1)⟩
  · refine ⟨fun a c => ∃ b b', dz_Sm g P a b ∧ P b b' ∧ dz_Sm g P b' c, fun a c q => ?_, y, y, q, hE.1 y, r⟩
    obtain ⟨b, b', q, hbb, r⟩ := q
    rcases q.out with q | ⟨x, y, h1, h2, h3, h4, h5, h6, h7, h8⟩
    · rcases r.out with r | ⟨x', y', k1, k2, k3, k4, k5, k6, k7, k8⟩
      · exact Or.inl (hE.2.2 _ _ _ (hE.2.2 _ _ _ q hbb) r)
      · exact Or.inr ⟨x', y', k1, k2, hE.2.2 _ _ _ (hE.2.2 _ _ _ q hbb) k3, k4, k5, k6, k7, fun k k0 k1 => ⟨_, _, dz_Sm.p (hE.1 _), hE.1 _, k8 k k0 k1⟩⟩
    · rcases r.out with r | ⟨x', y', k1, k2, k3, k4, k5, k6, k7, k8⟩
      · exact Or.inr ⟨x, y, h1, h2, h3, hE.2.2 _ _ _ (hE.2.1 _ _ r) (hE.2.2 _ _ _ (hE.2.1 _ _ hbb) h4), h5, h6, h7, fun k k0 k1 => ⟨_, _, h8 k k0 k1, hE.1 _, dz_Sm.p (hE.1 _)⟩⟩
      · have pyx : P y x' := hE.2.2 _ _ _ (hE.2.1 _ _ h4) (hE.2.2 _ _ _ hbb k3)
        have es := hs y x' h2 k1 pyx h6 k5
        have e1 := hg.2.2.2 x y h1 h2 h5 h6 h7
        have e2 := hg.2.2.2 y x' h2 k1 h6 k5 es
        exact Or.inr ⟨x, y', h1, k2, h3, k4, h5, k6, h7.trans (es.trans k7), fun k k0 k1' => ⟨_, _, h8 k k0 k1', hd y x' h2 k1 pyx h6 k5 es k k0 (by rw [← e1]; exact k1'), k8 k k0 (by rw [← e2, ← e1]; exact k1')⟩⟩
theorem dz_Sm.cd {g : dz_G} (hg : dz_ok g) {P : Int → Int → Prop} (hE : dz_Eq P) (hd : dz_Cd g P) (hs : ∀ x y, dz_In (dz_N g) x → dz_In (dz_N g) y → P x y → ¬ dz_iv g x → ¬ dz_iv g y → dz_sy g x = dz_sy g y) : dz_Cd g (dz_Sm g P) := by
  intro x y hx hy q nx ny e k k0 k1
  have E := dz_Sm.eq hg hE hd hs
  rcases q.out with q | ⟨x', y', h1, h2, h3, h4, h5, h6, h7, h8⟩
  · exact dz_Sm.p (hd x y hx hy q nx ny e k k0 k1)
  · have e1 := hs x x' hx h1 h3 nx h5
    have e2 := hs y y' hy h2 h4 ny h6
    have a1 := hg.2.2.2 x x' hx h1 nx h5 e1
    have a2 := hg.2.2.2 y y' hy h2 ny h6 e2
    have a3 := hg.2.2.2 x y hx hy nx ny e
    exact E.2.2 _ _ _ (dz_Sm.p (hd x x' hx h1 h3 nx h5 e1 k k0 k1)) (E.2.2 _ _ _ (h8 k k0 (by rw [← a1]; exact k1)) (E.2.1 _ _ (dz_Sm.p (hd y y' hy h2 h4 ny h6 e2 k k0 (by rw [← a3]; exact k1)))))
