-- ends: what the reference lays for one row is a tree (but for its VARIABLES)
def tr_St (m : az_Hp) (c : Int) : Prop := m.2 804 49 = c ∧ 0 ≤ c ∧ 0 ≤ m.2 804 50 ∧ m.2 804 50 ≤ c ∧ ∀ q, 0 ≤ q → q < m.2 804 50 → dz_In c (m.2 829 q) ∧ 1000 ≤ m.2 823 (m.2 829 q)
def tr_sl (m : az_Hp) (x k : Int) : Prop := m.2 823 x < 1000 ∧ 0 ≤ k ∧ k < bz_tk m (m.2 823 x)
def tr_QQ (kid : Int → Int → Int) (con : Int → Prop) (D : Int → Int → Prop) (c : Int) : Prop := (∀ x k, D x k → k < 3 ∧ dz_In c (kid x k) ∧ (con (kid x k) → x < kid x k)) ∧ ∀ x k x' k', D x k → D x' k' → kid x k = kid x' k' → con (kid x k) → x = x' ∧ k = k'
def tr_Q (m : az_Hp) (D : Int → Int → Prop) (c : Int) : Prop := tr_QQ (fun x k => m.2 824 (3 * x + k)) (fun y => m.2 823 y < 1000) D c
theorem tr_QQ.un {kid : Int → Int → Int} {con : Int → Prop} {O B : Int → Int → Prop} {c c1 ν κ : Int} (hc : c ≤ c1) (h1 : tr_QQ kid con O c) (h2 : tr_QQ kid con B c1) (hB : ∀ x k, B x k → c ≤ x) (k3 : κ < 3) (hν : ν < c) (i1 : dz_In c1 (kid ν κ)) (i2 : con (kid ν κ) → kid ν κ = c) : tr_QQ kid con (fun x k => O x k ∨ (x = ν ∧ k = κ) ∨ B x k) c1 := by
  have lo : ∀ x k, O x k → dz_In c (kid x k) := fun x k h => (h1.1 x k h).2.1
  have hi : ∀ x k, B x k → con (kid x k) → c < kid x k := fun x k h z => by
    have a1 := (h2.1 x k h).2.2 z
    have a2 := hB x k h
    omega
  refine ⟨fun x k h => ?_, fun x k x' k' h h' e z => ?_⟩
  · rcases h with h | ⟨rfl, rfl⟩ | h
    · obtain ⟨a1, a2, a3⟩ := h1.1 x k h
      exact ⟨a1, ⟨a2.1, by have := a2.2; omega⟩, a3⟩
    · exact ⟨k3, i1, fun z => by rw [i2 z]; exact hν⟩
    · exact h2.1 x k h
  · rcases h with h | ⟨rfl, rfl⟩ | h
    · have q := (lo x k h).2
      rcases h' with h' | ⟨rfl, rfl⟩ | h'
      · exact h1.2 x k x' k' h h' e z
      · rw [e] at z q
        rw [i2 z] at q
        omega
      · rw [e] at z q
        have := hi x' k' h' z
        omega
    · have q := i2 z
      rcases h' with h' | ⟨rfl, rfl⟩ | h'
      · have := (lo x' k' h').2
        omega
      · exact ⟨rfl, rfl⟩
      · rw [e] at z
        have := hi x' k' h' z
        omega
    · have q := hi x k h z
      rcases h' with h' | ⟨rfl, rfl⟩ | h'
      · have := (lo x' k' h').2
        omega
      · rw [e] at z q
        rw [i2 z] at q
        omega
      · exact h2.2 x k x' k' h h' e z
theorem tr_QQ.cong {kid kid' : Int → Int → Int} {con con' : Int → Prop} {D D' : Int → Int → Prop} {c : Int} (h : tr_QQ kid con D c) (hD : ∀ x k, D' x k → D x k) (e1 : ∀ x k, D' x k → kid' x k = kid x k) (e2 : ∀ x k, D' x k → (con' (kid x k) → con (kid x k))) : tr_QQ kid' con' D' c := by
  refine ⟨fun x k q => ?_, fun x k x' k' q q' e z => ?_⟩
  · obtain ⟨a1, a2, a3⟩ := h.1 x k (hD x k q)
    rw [e1 x k q]
    exact ⟨a1, a2, fun z => a3 (e2 x k q z)⟩
  · rw [e1 x k q] at e z
    rw [e1 x' k' q'] at e
    exact h.2 x k x' k' (hD _ _ q) (hD _ _ q') e (e2 x k q z)
def tr_tk (m : az_Hp) (x : Int) : Int := if m.2 823 x < 1000 then bz_tk m (m.2 823 x) else 0
def tr_n (m : az_Hp) (c : Int) : Nat → Int
  | 0 => 0
  | k + 1 => tr_n m c k + tr_tk m (c + k)
def tr_K (m m' : az_Hp) (c : Int) (P : Int → Prop) : Prop := (∀ x, dz_In c x → m'.2 823 x = m.2 823 x) ∧ ∀ x, 0 ≤ x → x < 3 * c → ¬ P x → m'.2 824 x = m.2 824 x
/-- everything new lies under R -/
def tr_R (m : az_Hp) (c c1 : Int) (R : Int → Prop) : Prop := ∀ V : Int → Prop, (∀ x, R x → V x) → (∀ x k, tr_sl m x k → c ≤ x → x < c1 → V x → V (m.2 824 (3 * x + k))) → ∀ n, c ≤ n → n < c1 → V n
theorem tr_n_add {m : az_Hp} {c : Int} (a : Nat) : ∀ b : Nat, tr_n m c (a + b) = tr_n m c a + tr_n m (c + a) b := by
  intro b
  induction b with
  | zero => show tr_n m c a = tr_n m c a + 0; omega
  | succ b ih =>
    show tr_n m c (a + b) + tr_tk m (c + ((a + b : Nat) : Int)) = tr_n m c a + (tr_n m (c + a) b + tr_tk m (c + a + b))
    rw [ih, show c + ((a + b : Nat) : Int) = c + a + b by push_cast; omega]
    omega
theorem tr_n_cong {m m' : az_Hp} {c : Int} (ht : bz_tk m' = bz_tk m) : ∀ b : Nat, (∀ x, c ≤ x → x < c + b → m'.2 823 x = m.2 823 x) → tr_n m' c b = tr_n m c b := by
  intro b
  induction b with
  | zero => intro _; rfl
  | succ b ih =>
    intro h
    show tr_n m' c b + tr_tk m' (c + b) = tr_n m c b + tr_tk m (c + b)
    rw [ih (fun x x0 x1 => h x x0 (by push_cast; omega))]
    unfold tr_tk
    rw [h (c + b) (by omega) (by push_cast; omega), ht]
def tr_us (U : Int → Nat) (m : az_Hp) (x : Int) : Int → Nat → Nat
  | _, 0 => 0
  | k, e + 1 => U (m.2 824 (3 * x + k)) + tr_us U m x (k + 1) e
theorem tr_us_cong {U : Int → Nat} {m m' : az_Hp} {x : Int} : ∀ (e : Nat) (k : Int), (∀ j, k ≤ j → j < k + e → m'.2 824 (3 * x + j) = m.2 824 (3 * x + j)) → tr_us U m' x k e = tr_us U m x k e := by
  intro e
  induction e with
  | zero => intro k _; rfl
  | succ e ih =>
    intro k h
    show U (m'.2 824 (3 * x + k)) + tr_us U m' x (k + 1) e = U (m.2 824 (3 * x + k)) + tr_us U m x (k + 1) e
    rw [h k (Int.le_refl _) (by push_cast; omega), ih (k + 1) (fun j j0 j1 => h j (by omega) (by push_cast; omega))]
/-- a measure that keeps the rule -/
def tr_ru (U : Int → Nat) (m : az_Hp) (c c1 : Int) : Prop := (∀ x, c ≤ x → x < c1 → m.2 823 x < 1000 → U x ≤ tr_us U m x 0 (bz_tk m (m.2 823 x)).toNat + (12 - 4 * (bz_tk m (m.2 823 x)).toNat)) ∧ ∀ x, 0 ≤ x → x < c1 → 1000 ≤ m.2 823 x → U x ≤ 8748
/-- the table of VARIABLES: what was there stays; all codes of the row are in it then; if all were, no VARIABLE is new -/
def tr_Un (m : az_Hp) : Prop := ∀ q q', 0 ≤ q → q < m.2 804 50 → 0 ≤ q' → q' < m.2 804 50 → m.2 827 q = m.2 827 q' → m.2 828 q = m.2 828 q' → q = q'
theorem tr_Un.cong {m m' : az_Hp} (h : tr_Un m) (e0 : m'.2 804 50 = m.2 804 50) (e1 : ∀ q, m'.2 827 q = m.2 827 q) (e2 : ∀ q, m'.2 828 q = m.2 828 q) : tr_Un m' := fun q q' q0 q1 p0 p1 a1 a2 => h q q' q0 (by omega) p0 (by omega) (by rw [← e1, ← e1]; exact a1) (by rw [← e2, ← e2]; exact a2)
def tr_Tb (m m' : az_Hp) (A a i c c1 : Int) (d : Nat) : Prop := (m.2 804 50 ≤ m'.2 804 50 ∧ ∀ q, 0 ≤ q → q < m.2 804 50 → m'.2 827 q = m.2 827 q ∧ m'.2 828 q = m.2 828 q) ∧
  (∀ j, i ≤ j → j < i + d → 1000 ≤ m.2 A j → ∃ q, 0 ≤ q ∧ q < m'.2 804 50 ∧ m'.2 827 q = a ∧ m'.2 828 q = m.2 A j) ∧
  ((∀ j, i ≤ j → j < i + d → 1000 ≤ m.2 A j → ∃ q, 0 ≤ q ∧ q < m.2 804 50 ∧ m.2 827 q = a ∧ m.2 828 q = m.2 A j) → ∀ x, c ≤ x → x < c1 → m'.2 823 x < 1000) ∧ (tr_Un m → tr_Un m')
def tr_Ps (m m' : az_Hp) (c c1 : Int) (d : Nat) (P : Int → Prop) : Prop := bz_Upd m m' lz_T ∧ (c ≤ c1 ∧ c1 ≤ c + d) ∧ tr_St m' c1 ∧ tr_K m m' c P
def tr_Term (A : Int) (ar : Int → Int) (st en a : Int) (d : Nat) : Prop :=
  ∀ (m : az_Hp) (c i : Int), sy_Env m m A ar st en → tr_St m c → c + d ≤ 120 → st ≤ i → i + d ≤ en → bz_Sc ar d 1 i → m.2 804 52 = i →
    ∃ (m' : az_Hp) (c1 ρ : Int), (∀ Dm : Nat, d ≤ Dm → fz_X11_builds 2000000 Dm m 804 A a 0 = some (ρ, m')) ∧ tr_Ps m m' c c1 d (fun _ => False) ∧ tr_Q m' (fun x k => tr_sl m' x k ∧ c ≤ x ∧ x < c1) c1 ∧ tr_n m' c (c1 - c).toNat = d - 1 ∧ dz_In c1 ρ ∧ ((m'.2 823 ρ < 1000 → ρ = c ∧ c < c1) ∧ (m.2 A i < 1000 → m'.2 823 ρ = m.2 A i)) ∧ tr_R m' c c1 (fun x => x = ρ) ∧ (∀ U, tr_ru U m' c c1 → 3 * U ρ ≤ 8748 * (2 * d + 1)) ∧ tr_Tb m m' A a i c c1 d ∧ m'.2 804 52 = i + d
section TR
variable {A : Int} {ar : Int → Int} {st en a : Int}
theorem tr_var {d : Nat} {m : az_Hp} {c i : Int} (hE : sy_Env m m A ar st en) (hS : tr_St m c) (hc : c + d ≤ 120) (hi : st ≤ i) (hie : i + d ≤ en) (hSc : bz_Sc ar d 1 i) (hra : m.2 804 52 = i) (hv : 1000 ≤ m.2 A i) :
    ∃ (m' : az_Hp) (c1 ρ : Int), (∀ Dm : Nat, d ≤ Dm → fz_X11_builds 2000000 Dm m 804 A a 0 = some (ρ, m')) ∧ tr_Ps m m' c c1 d (fun _ => False) ∧ tr_Q m' (fun x k => tr_sl m' x k ∧ c ≤ x ∧ x < c1) c1 ∧ tr_n m' c (c1 - c).toNat = d - 1 ∧ dz_In c1 ρ ∧ ((m'.2 823 ρ < 1000 → ρ = c ∧ c < c1) ∧ (m.2 A i < 1000 → m'.2 823 ρ = m.2 A i)) ∧ tr_R m' c c1 (fun x => x = ρ) ∧ (∀ U, tr_ru U m' c c1 → 3 * U ρ ≤ 8748 * (2 * d + 1)) ∧ tr_Tb m m' A a i c c1 d ∧ m'.2 804 52 = i + d := by
  have dp := hSc.pos (by omega)
  obtain ⟨⟨h1, h2, h3, h4⟩, ⟨h5, h6, h7⟩, ⟨h8, h9, h10, h11, h12⟩, h13, h14⟩ := hE
  obtain ⟨s1, s3, s5, s6, s7⟩ := hS
  have a0 : ar i = 0 := by
    rw [← (h14 i hi (by omega)).2]
    unfold bz_tk
    rw [if_pos hv]
  have d1 : d = 1 := by
    obtain ⟨d, rfl⟩ : ∃ q, d = q + 1 := ⟨d - 1, by omega⟩
    have q := hSc.2
    rw [a0] at q
    cases d with
    | zero => rfl
    | succ d => have := q.1; omega
  subst d1
  obtain ⟨p, hp⟩ : ∃ p, p = az_wr m 804 52 (i + 1) := ⟨_, rfl⟩
  have up : bz_Upd m p lz_T := by rw [hp]; exact lz_Tw bz_Upd.refl (by unfold lz_T; omega)
  have pk : ∀ x k, ¬ (x = 804 ∧ k = 52) → p.2 x k = m.2 x k := fun x k z => by rw [hp]; exact az_wr_ne z
  have bm : ∀ Dm : Nat, 1 ≤ Dm → fz_X11_builds 2000000 Dm m 804 A a 0 = ((fz_X11_variableNode 2000000 p 804 (m.2 A i) a).bind fun r3 => (some (r3.1, r3.2))) := fun Dm hD => by
    obtain ⟨D, rfl⟩ : ∃ q, Dm = q + 1 := ⟨Dm - 1, by omega⟩
    rw [lz_bld (x := m.2 A i) (by rw [hra]; exact bz_ard (by omega) (by omega)) (Or.inl rfl)]
    unfold fz_X11_builds_52
    rw [hra, az_w32_id (by omega) (by omega), ← hp, ez_isVarM.1 hv, Option.bind_some, if_neg (by decide)]
  have p49 : p.2 804 49 = c := by rw [pk 804 49 (by omega)]; exact s1
  have p50 := pk 804 50 (by omega)
  have rm := lz_varL (who := a) (m := m.2 A i) (h1.upd up) (by omega) (by omega) (by omega) (by omega) (m.2 804 50).toNat 2000000 0 (by omega) (by omega) (by omega) (fun q q0 q1 => by omega)
  rcases rm with ⟨x, x0, x1, ⟨xa, xb⟩, -, xr⟩ | ⟨xno, xr⟩
  · rw [p50] at x1
    have e829 := pk 829 x (by omega)
    have q := s7 x x0 x1
    refine ⟨p, c, p.2 829 x, fun Dm hD => by rw [bm Dm (by omega)]; unfold fz_X11_variableNode; rw [xr, Option.bind_some], ⟨up, ⟨by omega, by omega⟩, ⟨p49, s3, by omega, by omega, fun q q0 q1 => ?_⟩, fun x _ => pk _ _ (by omega), fun x _ _ _ => pk _ _ (by omega)⟩, ⟨fun y k z => by omega, fun y k y' k' z => by omega⟩, ?_, by rw [e829]; exact q.1, ⟨fun z => ?_, fun z => by omega⟩, fun V _ _ n n0 n1 => by omega, fun U hU => ?_, ⟨⟨by omega, fun q _ _ => ⟨pk _ _ (by omega), pk _ _ (by omega)⟩⟩, fun j j0 j1 _ => ⟨x, x0, by omega, xa, by rw [xb, show j = i by omega]⟩, fun _ x x0 x1 => by omega, fun hu => hu.cong p50 (fun q => pk _ _ (by omega)) (fun q => pk _ _ (by omega))⟩, by rw [hp, az_wr_same]; rfl⟩
    · rw [p50] at q1
      rw [pk 829 q (by omega), pk 823 _ (by omega)]
      exact s7 q q0 q1
    · rw [show (c - c).toNat = 0 by omega]; rfl
    · rw [e829, pk 823 _ (by omega)] at z
      have := q.2
      omega
    · have w := hU.2 (p.2 829 x) (by rw [e829]; exact q.1.1) (by rw [e829]; exact q.1.2) (by rw [e829, pk 823 _ (by omega)]; exact q.2)
      omega
  · rw [p49] at xr
    have um2 : bz_Upd m (lz_vnew p a (m.2 A i)) lz_T := up.trans lz_vnew_upd
    obtain ⟨m', hm'⟩ : ∃ m', m' = lz_vnew p a (m.2 A i) := ⟨_, rfl⟩
    rw [← hm'] at xr um2
    unfold lz_vnew at hm'
    rw [p49, p50] at hm'
    have m49 : m'.2 804 49 = c + 1 := by rw [hm', az_wr_ne (by omega), az_wr_ne (by omega), az_wr_same]
    have m50 : m'.2 804 50 = m.2 804 50 + 1 := by rw [hm', az_wr_same]
    have m823 : ∀ x, x ≠ c → m'.2 823 x = m.2 823 x := fun x z => by rw [hm', az_wr_ne (by omega), az_wr_ne (by omega), az_wr_ne (by omega), az_wr_ne (by omega), az_wr_ne (by omega), az_wr_ne (by omega), az_wr_ne (by omega), pk _ _ (by omega)]
    have m823c : m'.2 823 c = 1000 := by rw [hm', az_wr_ne (by omega), az_wr_ne (by omega), az_wr_ne (by omega), az_wr_ne (by omega), az_wr_same]
    have m824 : ∀ x, m'.2 824 x = m.2 824 x := fun x => by rw [hm', az_wr_ne (by omega), az_wr_ne (by omega), az_wr_ne (by omega), az_wr_ne (by omega), az_wr_ne (by omega), az_wr_ne (by omega), az_wr_ne (by omega), pk _ _ (by omega)]
    have mT : ∀ q, q < m.2 804 50 → m'.2 829 q = m.2 829 q := fun q z => by
      rw [hm', az_wr_ne (by omega), az_wr_ne (by omega), az_wr_ne (by omega), az_wr_ne (by omega), az_wr_ne (by omega), az_wr_ne (by omega), az_wr_ne (by omega), pk _ _ (by omega)]
    have mN : m'.2 829 (m.2 804 50) = c := by rw [hm', az_wr_ne (by omega), az_wr_same]
    have mT7 : ∀ q, q < m.2 804 50 → m'.2 827 q = m.2 827 q ∧ m'.2 828 q = m.2 828 q := fun q z => by
      rw [hm']
      refine ⟨?_, ?_⟩
      all_goals rw [az_wr_ne (by omega), az_wr_ne (by omega), az_wr_ne (by omega), az_wr_ne (by omega), az_wr_ne (by omega), az_wr_ne (by omega), az_wr_ne (by omega), pk _ _ (by omega)]
    have mN7 : m'.2 827 (m.2 804 50) = a ∧ m'.2 828 (m.2 804 50) = m.2 A i := by
      rw [hm']
      refine ⟨?_, ?_⟩
      · rw [az_wr_ne (by omega), az_wr_ne (by omega), az_wr_ne (by omega), az_wr_ne (by omega), az_wr_ne (by omega), az_wr_ne (by omega), az_wr_same]
      · rw [az_wr_ne (by omega), az_wr_ne (by omega), az_wr_ne (by omega), az_wr_ne (by omega), az_wr_ne (by omega), az_wr_same]
    have m52 : m'.2 804 52 = i + 1 := by rw [hm', az_wr_ne (by omega), az_wr_ne (by omega), az_wr_ne (by omega), az_wr_ne (by omega), az_wr_ne (by omega), az_wr_ne (by omega), az_wr_ne (by omega), hp, az_wr_same]
    have nosl : ∀ x k, tr_sl m' x k → c ≤ x → x < c + 1 → False := fun x k z z0 z1 => by
      have : x = c := by omega
      have z2 := z.1
      rw [this, m823c] at z2
      omega
    refine ⟨m', c + 1, c, fun Dm hD => by rw [bm Dm (by omega)]; unfold fz_X11_variableNode; rw [xr, Option.bind_some], ⟨um2, ⟨by omega, by omega⟩, ⟨m49, by omega, by omega, by omega, fun q q0 q1 => ?_⟩, fun x hx => m823 x (by have := hx.2; omega), fun x _ _ _ => m824 x⟩, ⟨fun y k z => (nosl y k z.1 z.2.1 z.2.2).elim, fun y k y' k' z => (nosl y k z.1 z.2.1 z.2.2).elim⟩, ?_, ⟨s3, by omega⟩, ⟨fun z => by rw [m823c] at z; omega, fun z => by omega⟩, fun V hR _ n n0 n1 => hR n (by omega), fun U hU => by have w := hU.2 c s3 (by omega) (by rw [m823c]; omega); omega, ⟨⟨by omega, fun q q0 q1 => mT7 q q1⟩, fun j j0 j1 _ => ⟨m.2 804 50, by omega, by omega, mN7.1, by rw [mN7.2, show j = i by omega]⟩, fun hall x x0 x1 => ?_, fun hu q q' q0 q1 p0 p1 a1 a2 => ?_⟩, m52⟩
    · rw [m50] at q1
      by_cases z : q = m.2 804 50
      · rw [z, mN, m823c]
        exact ⟨⟨s3, by omega⟩, by omega⟩
      · have w := s7 q q0 (by omega)
        rw [mT q (by omega), m823 _ (by have := w.1.2; omega)]
        exact ⟨⟨w.1.1, by have := w.1.2; omega⟩, w.2⟩
    · rw [show (c + 1 - c).toNat = 1 by omega]
      show (0 : Int) + tr_tk m' (c + ((0 : Nat) : Int)) = _
      unfold tr_tk
      rw [show c + ((0 : Nat) : Int) = c by simp, m823c, if_neg (by omega)]
      rfl
    · obtain ⟨q, q0, q1, q2, q3⟩ := hall i (Int.le_refl _) (by omega) hv
      exact absurd ⟨by rw [pk 827 q (by omega)]; exact q2, by rw [pk 828 q (by omega)]; exact q3⟩ (xno q q0 (by omega))
    · have no : ∀ z, 0 ≤ z → z < m.2 804 50 → m.2 827 z = a → m.2 828 z = m.2 A i → False := fun z z0 z1 z2 z3 => xno z z0 (by omega) ⟨by rw [pk 827 z (by omega)]; exact z2, by rw [pk 828 z (by omega)]; exact z3⟩
      rw [m50] at q1 p1
      by_cases w1 : q = m.2 804 50
      · by_cases w2 : q' = m.2 804 50
        · omega
        · exfalso
          have t := mT7 q' (by omega)
          rw [w1, mN7.1, t.1] at a1
          rw [w1, mN7.2, t.2] at a2
          exact no q' p0 (by omega) a1.symm a2.symm
      · by_cases w2 : q' = m.2 804 50
        · exfalso
          have t := mT7 q (by omega)
          rw [w2, mN7.1, t.1] at a1
          rw [w2, mN7.2, t.2] at a2
          exact no q q0 (by omega) a1 a2
        · have t := mT7 q (by omega)
          have t' := mT7 q' (by omega)
          rw [t.1, t'.1] at a1
          rw [t.2, t'.2] at a2
          exact hu q q' q0 (by omega) p0 (by omega) a1 a2
end TR
