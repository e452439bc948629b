/-! a graph that grows behind a joining -/
theorem dz_nt_mono {up : Int → Int} {n m : Nat} (h : n ≤ m) : dz_nt up n ≤ dz_nt up m := by
  induction m with
  | zero => have : n = 0 := by omega
            rw [this]; exact Nat.le_refl _
  | succ m ih =>
    by_cases e : n = m + 1
    · rw [e]; exact Nat.le_refl _
    · have := ih (by omega)
      show dz_nt up n ≤ dz_nt up m + _
      omega
theorem dz_nt_cong {up up' : Int → Int} : ∀ n : Nat, (∀ i, 0 ≤ i → i < (n : Int) → up' i = up i) → dz_nt up' n = dz_nt up n := by
  intro n
  induction n with
  | zero => intro _; rfl
  | succ n ih =>
    intro h
    unfold dz_nt
    rw [ih (fun i i0 i1 => h i i0 (by omega)), h (n : Int) (by omega) (by omega)]
theorem dz_UF.cong {up up' : Int → Int} {N : Int} (H : dz_UF up N) (h : ∀ n, dz_In N n → up' n = up n) : dz_UF up' N ∧ ∀ n, dz_In N n → dz_tp up' n = dz_tp up n := by
  obtain ⟨h0, h1, h2, hh, h3, h4⟩ := H
  refine ⟨⟨h0, h1, fun n hn => by rw [h n hn]; exact h2 n hn, hh, fun n hn q => by rw [h n hn] at q ⊢; exact h3 n hn q, fun n hn => ?_⟩, ?_⟩
  · rw [dz_nt_cong (up := up) N.toNat (fun i i0 i1 => h i ⟨i0, by omega⟩)]
    exact h4 n hn
  · have key : ∀ (k : Nat) (n : Int), dz_In N n → dz_it up' k n = dz_it up k n := by
      intro k
      induction k with
      | zero => intro n _; rfl
      | succ k ih => intro n hn; unfold dz_it; rw [h n hn]; exact ih _ (h2 n hn)
    exact key 200
theorem dz_UF.ext {up : Int → Int} {N N' : Int} (H : dz_UF up N) (h12 : N ≤ N') (h150 : N' ≤ 150) (hid : ∀ n, N ≤ n → n < N' → up n = n) : dz_UF up N' := by
  obtain ⟨h0, h1, h2, hh, h3, h4⟩ := H
  have big : ∀ n, dz_In N' n → up n ≠ n → dz_In N n := fun n hn q => ⟨hn.1, by
    by_cases e : n < N
    · exact e
    · exact absurd (hid n (by omega) hn.2) q⟩
  refine ⟨by omega, h150, fun n hn => ?_, fun n => if n < N then hh n else 0, fun n hn q => ?_, fun n hn => ?_⟩
  · by_cases e : n < N
    · have := h2 n ⟨hn.1, e⟩
      exact ⟨this.1, by have := this.2; omega⟩
    · rw [hid n (by omega) hn.2]; exact hn
  · have hn' := big n hn q
    have := h2 n hn'
    show (if n < N then hh n else 0) < (if up n < N then hh (up n) else 0)
    rw [if_pos hn'.2, if_pos this.2]
    exact h3 n hn' q
  · show (if n < N then hh n else 0) ≤ _
    by_cases e : n < N
    · rw [if_pos e]
      have := h4 n ⟨hn.1, e⟩
      have := dz_nt_mono (up := up) (n := N.toNat) (m := N'.toNat) (by omega)
      omega
    · rw [if_neg e]; exact Nat.zero_le _
/-- g' has the nodes of g, and more -/
def dz_X (g g' : dz_G) : Prop := dz_N g ≤ dz_N g' ∧ ∀ n, dz_In (dz_N g) n → (dz_iv g n ↔ dz_iv g' n) ∧ dz_sy g n = dz_sy g' n ∧ dz_ar g n = dz_ar g' n ∧ (¬ dz_iv g n → ∀ k, 0 ≤ k → k < dz_ar g n → dz_kd g n k = dz_kd g' n k)
theorem dz_ext {g g' : dz_G} (h1 : dz_ok g) (h2 : dz_ok g') (hx : dz_X g g') {a b : Int} {up0 up : Int → Int} (hI : dz_Inv g (dz_Cl g a b) a b up0 (fun _ _ => False)) (ag : ∀ n, dz_In (dz_N g) n → up n = up0 n) (hid : ∀ n, dz_N g ≤ n → n < dz_N g' → up n = n) :
    dz_UF up (dz_N g') ∧ dz_Rep g' up ∧ dz_Cd g' (dz_P up (dz_N g')) ∧ (∀ x y, dz_P up (dz_N g') x y ↔ (x = y ∨ (dz_In (dz_N g) x ∧ dz_In (dz_N g) y ∧ dz_Cl g a b x y))) ∧ ∀ n, dz_In (dz_N g) n → dz_tp up n = dz_tp up0 n ∧ dz_In (dz_N g) (dz_tp up n) := by
  have hf := hI.fin
  have hcd0 := hI.fin'.1
  have hU0 := hI.1
  have hrep0 := hI.2.2.2.1
  obtain ⟨u1, tp1⟩ := hU0.cong ag
  have hN := h2.2.1
  have u2 := u1.ext hx.1 (by omega) hid
  have big : ∀ n, dz_N g ≤ n → n < dz_N g' → dz_tp up n = n := fun n n0 n1 => dz_tp_root (hid n n0 n1)
  have small : ∀ n, dz_In (dz_N g) n → dz_tp up n = dz_tp up0 n ∧ dz_In (dz_N g) (dz_tp up n) := fun n hn => ⟨tp1 n hn, by rw [tp1 n hn]; exact (hU0.top hn).2⟩
  have hP : ∀ x y, dz_P up (dz_N g') x y ↔ (x = y ∨ (dz_In (dz_N g) x ∧ dz_In (dz_N g) y ∧ dz_Cl g a b x y)) := by
    intro x y
    constructor
    · rintro (q | ⟨hx', hy', e⟩)
      · exact Or.inl q
      · by_cases q1 : x < dz_N g
        · have ix : dz_In (dz_N g) x := ⟨hx'.1, q1⟩
          by_cases q2 : y < dz_N g
          · have iy : dz_In (dz_N g) y := ⟨hy'.1, q2⟩
            rw [(small x ix).1, (small y iy).1] at e
            exact Or.inr ⟨ix, iy, (hf.1 x y ix iy).mp e⟩
          · have := (small x ix).2.2
            rw [e, big y (by omega) hy'.2] at this
            omega
        · by_cases q2 : y < dz_N g
          · have := (small y ⟨hy'.1, q2⟩).2.2
            rw [← e, big x (by omega) hx'.2] at this
            omega
          · rw [big x (by omega) hx'.2, big y (by omega) hy'.2] at e
            exact Or.inl e
    · rintro (q | ⟨ix, iy, q⟩)
      · exact Or.inl q
      · refine Or.inr ⟨⟨ix.1, by have := ix.2; have := hx.1; omega⟩, ⟨iy.1, by have := iy.2; have := hx.1; omega⟩, ?_⟩
        rw [(small x ix).1, (small y iy).1]
        exact (hf.1 x y ix iy).mpr q
  refine ⟨u2, fun x hx' nx => ?_, fun x y hx' hy' q nx ny es k k0 k1 => ?_, hP, small⟩
  · by_cases q1 : x < dz_N g
    · have ix : dz_In (dz_N g) x := ⟨hx'.1, q1⟩
      obtain ⟨z1, z2, z3, z4⟩ := hx.2 x ix
      obtain ⟨w1, w2⟩ := hrep0 x ix (fun q => nx (z1.mp q))
      obtain ⟨y1, y2⟩ := small x ix
      rw [← y1] at w1 w2
      obtain ⟨v1, v2, -⟩ := hx.2 _ y2
      exact ⟨fun q => w1 (v1.mpr q), by rw [← v2, w2, z2]⟩
    · rw [big x (by omega) hx'.2]; exact ⟨nx, rfl⟩
  · rcases (hP x y).mp q with rfl | ⟨ix, iy, q⟩
    · exact Or.inl rfl
    · obtain ⟨z1, z2, z3, z4⟩ := hx.2 x ix
      obtain ⟨v1, v2, v3, v4⟩ := hx.2 y iy
      have nx' : ¬ dz_iv g x := fun q => nx (z1.mp q)
      have ny' : ¬ dz_iv g y := fun q => ny (v1.mp q)
      have es' : dz_sy g x = dz_sy g y := by rw [z2, v2]; exact es
      have k1' : k < dz_ar g x := by rw [z3]; exact k1
      have ea := h1.2.2.2 x y ix iy nx' ny' es'
      have ikx := (h1.2.2.1 x ix nx').2.2 k k0 k1'
      have iky := (h1.2.2.1 y iy ny').2.2 k k0 (by rw [← ea]; exact k1')
      rw [← z4 nx' k k0 k1', ← v4 ny' k k0 (by rw [← ea]; exact k1')]
      exact (hP _ _).mpr (Or.inr ⟨ikx, iky, dz_Cl.cd x y ix iy q nx' ny' es' k k0 k1'⟩)
/-- ranks of the grown graph -/
theorem dz_extRK {g g' : dz_G} (h1 : dz_ok g) (h2 : dz_ok g') (hx : dz_X g g') {a b : Int} {up0 up : Int → Int} (hI : dz_Inv g (dz_Cl g a b) a b up0 (fun _ _ => False)) (ag : ∀ n, dz_In (dz_N g) n → up n = up0 n) (hid : ∀ n, dz_N g ≤ n → n < dz_N g' → up n = n) (hn : dz_NC g a b) (hord : ∀ n, dz_In (dz_N g') n → ¬ dz_iv g' n → ∀ k, 0 ≤ k → k < dz_ar g' n → dz_iv g' (dz_kd g' n k) ∨ n < dz_kd g' n k) : ∃ ρ, dz_RK g' up ρ ∧ ∀ x, ρ x ≤ 120 := by
  obtain ⟨e1, e2, e3, e4, e5⟩ := dz_ext h1 h2 hx hI ag hid
  obtain ⟨ρ0, hr0⟩ := hn.rk h1 hI
  obtain ⟨ρ, hr, hb⟩ := hr0.low h1 hI.1
  have cls : ∀ p : Prop, p ∨ ¬ p := fun p => Classical.em p
  have : ∃ ρ2 : Int → Nat, (∀ n, n < dz_N g → ρ2 n = ρ n) ∧ (∀ n, dz_N g ≤ n → dz_iv g' n → ρ2 n = 0) ∧ (∀ n, dz_N g ≤ n → ¬ dz_iv g' n → ρ2 n = 121 + (dz_N g' - n).toNat) := by
    refine ⟨fun n => if n < dz_N g then ρ n else (@ite _ (dz_iv g' n) (Classical.propDecidable _) 0 (121 + (dz_N g' - n).toNat)), fun n q => if_pos q, fun n q v => ?_, fun n q v => ?_⟩
    · show (if n < dz_N g then ρ n else _) = 0
      rw [if_neg (by omega), if_pos v]
    · show (if n < dz_N g then ρ n else _) = _
      rw [if_neg (by omega), if_neg v]
  obtain ⟨ρ2, p1, p2, p3⟩ := this
  have rk2 : dz_RK g' up ρ2 := by
    intro x hx' ux nx k k0 k1
    have ik := (h2.2.2.1 x hx' nx).2.2 k k0 k1
    by_cases q1 : x < dz_N g
    · have ix : dz_In (dz_N g) x := ⟨hx'.1, q1⟩
      obtain ⟨z1, z2, z3, z4⟩ := hx.2 x ix
      have nx' : ¬ dz_iv g x := fun q => nx (z1.mp q)
      have k1' : k < dz_ar g x := by rw [z3]; exact k1
      have ikx := (h1.2.2.1 x ix nx').2.2 k k0 k1'
      rw [← z4 nx' k k0 k1', p1 x q1]
      obtain ⟨y1, y2⟩ := e5 _ ikx
      rw [p1 _ y2.2, y1]
      exact hr x ix (by rw [← ag x ix]; exact ux) nx' k k0 k1'
    · rw [p3 x (by omega) nx]
      by_cases q2 : dz_kd g' x k < dz_N g
      · obtain ⟨y1, y2⟩ := e5 _ ⟨ik.1, q2⟩
        rw [p1 _ y2.2]
        have := hb (dz_tp up (dz_kd g' x k))
        omega
      · rw [dz_tp_root (hid _ (by omega) ik.2)]
        rcases cls (dz_iv g' (dz_kd g' x k)) with v | v
        · rw [p2 _ (by omega) v]; omega
        · rw [p3 _ (by omega) v]
          rcases hord x hx' nx k k0 k1 with w | w
          · exact absurd w v
          · have := ik.2
            omega
  exact rk2.low h2 e1
theorem mz_ext {n2 m4 : az_Hp} {c1 c2 : Int} (hc : c1 ≤ c2) (hok : dz_ok (lz_g n2 c1)) (e0 : m4.2 804 15 = n2.2 804 15) (e1 : ∀ n, dz_In c1 n → m4.2 823 n = n2.2 823 n) (e2 : ∀ x, 0 ≤ x → x < 3 * c1 → m4.2 824 x = n2.2 824 x) (e3 : ∀ k, m4.2 811 k = n2.2 811 k) (e4 : ∀ k, m4.2 812 k = n2.2 812 k) : dz_X (lz_g n2 c1) (lz_g m4 c2) := by
  refine ⟨hc, fun n hn => ?_⟩
  have tk : ∀ m, bz_tk m4 m = bz_tk n2 m := fun m => by unfold bz_tk; rw [e0, e3, e4]
  refine ⟨?_, ?_, ?_, fun hv k k0 k1 => ?_⟩
  · show 1000 ≤ n2.2 823 n ↔ 1000 ≤ m4.2 823 n
    rw [e1 n hn]
  · show n2.2 823 n = m4.2 823 n
    rw [e1 n hn]
  · show bz_tk n2 (n2.2 823 n) = bz_tk m4 (m4.2 823 n)
    rw [e1 n hn, tk]
  · show n2.2 824 (3 * n + k) = m4.2 824 (3 * n + k)
    have ar := (hok.2.2.1 n hn hv).2.1
    have n0 := hn.1
    have n1 : n < c1 := hn.2
    rw [e2 _ (by omega) (by omega)]
/-- right sides by the joining of left sides -/
theorem mz_fit {σx σm : az_Hp} {T s e o : Int} (h : mz_H σx σm T s) (e0 : 0 ≤ e) (e1 : e < σx.2 T 2) (o0 : 0 ≤ o) (o1 : o < σx.2 T 2) :
    ∃ (v f : Int) (x' m6 : az_Hp), fz_X1_rightsAgree 2000000 σx 242 T e o = some (f, x') ∧ fz_X11_meeting 2000000 σm 804 e o = some (v, m6) ∧ (v = 0 ∨ v = 1 ∨ v = 2) ∧ (f = 0 ∨ f = 1) ∧ bz_Upd σx x' cz_SJ ∧ bz_Upd σm m6 cz_SM ∧ (v = 0 → f = 1) ∧ (v = 2 → f = 0) ∧ (v = 1 → ∀ σ', bz_Upd m6 σ' (fun a _ => a = 834 ∨ a = 835) → fz_X11_areSame 2000000 200 σ' 804 (m6.2 833 2) (m6.2 833 3) = some f) := by
  obtain ⟨v, x4, m6, rX, rM, hv, ux4, um6, post⟩ := mz_meet h e0 e1 o0 o1
  have hT := h.2.2.1.1
  by_cases v1 : v = 1
  · obtain ⟨n2, m3, m4, c1, c2, a, b, p, q, H, ⟨tS4, eqs⟩, L, c32, c64, c12, ia, ib, lm3, lm4, Ix, Im, NC, u64, idn, c49, -, rt0, rt1, rt2, rt3, -⟩ := post v1
    -- right e
    obtain ⟨x5, m3', c3, p', lx5, lm3', u5, w3, L5, b5, G5⟩ := mz_layR (who := 0) H tS4 hT e0 (by rw [eqs]; exact e1) L (by omega)
    rw [lm3] at lm3'
    simp only [Option.some.injEq, Prod.mk.injEq] at lm3'
    obtain ⟨rfl, rfl⟩ := lm3'
    have un3 : bz_Upd n2 (az_wr m3 833 2 p) cz_SM := mz_wr833 (w3.weak fun _ _ q => mz_SM q)
    have ux5 : bz_Upd x4 x5 cz_SJ := u5.weak fun _ _ q => mz_SJ q
    have H5 := H.upd ux5 un3 (fun _ _ q => q) (fun _ _ q => q)
    have tS5 : bz_tS σm (az_wr m3 833 2 p) := tS4.trans (fun a k q => un3.2.2 a k (fun c => by unfold cz_SM at c; omega))
    have eqs5 : x5.2 T 2 = σx.2 T 2 := by rw [ux5.2.2 _ _ (fun c => by unfold cz_SJ at c; omega)]; exact eqs
    have L5' : mz_L σm T s x5 (az_wr m3 833 2 p) c3 := L5.cong (fun a k q => rfl) (fun a k q => az_wr_ne (by omega))
    -- right o
    obtain ⟨x6, m4', c2', q', lx6, lm4', u6, w4, L6, b6, G6⟩ := mz_layR (who := 1) H5 tS5 hT o0 (by rw [eqs5]; exact o1) L5' (by omega)
    rw [lm4] at lm4'
    simp only [Option.some.injEq, Prod.mk.injEq] at lm4'
    obtain ⟨rfl, rfl⟩ := lm4'
    have ec2 : c2' = c2 := by rw [← c49]; exact L6.1.1.2.1.symm
    subst ec2
    have un4 : bz_Upd (az_wr m3 833 2 p) m4 cz_SM := w4.weak fun _ _ q => mz_SM q
    have ux6 : bz_Upd x5 x6 cz_SJ := u6.weak fun _ _ q => mz_SJ q
    have H6 := H5.upd ux6 un4 (fun _ _ q => q) (fun _ _ q => q)
    have tS6 : bz_tS σm m4 := tS5.trans (fun a k q => un4.2.2 a k (fun c => by unfold cz_SM at c; omega))
    obtain ⟨g5a, g5b, g5c, g5d, g5e, g5f⟩ := G5
    obtain ⟨g6a, g6b, g6c, g6d, g6e, g6f⟩ := G6
    obtain ⟨ok1, -, -, -⟩ := mz_graph H tS4 hT L
    obtain ⟨ok2, X2, M2, ord2⟩ := mz_graph H6 tS6 hT L6
    have in3 : ∀ n, dz_In c1 n → dz_In c3 n := fun n hn => ⟨hn.1, by have := hn.2; omega⟩
    have ext : dz_X (lz_g n2 c1) (lz_g m4 c2') := mz_ext c12 ok1 (by rw [w4.2.2 804 15 (by unfold lz_T; omega), az_wr_ne (by omega), w3.2.2 804 15 (by unfold lz_T; omega)]) (fun n hn => by rw [(g6a n (in3 n hn)).2.2.1, az_wr_ne (by omega), (g5a n hn).2.2.1]) (fun x x0 x1 => by rw [(g6b x x0 (by omega)).2, az_wr_ne (by omega), (g5b x x0 x1).2]) (fun k => by rw [w4.2.2 811 k (by unfold lz_T; omega), az_wr_ne (by omega), w3.2.2 811 k (by unfold lz_T; omega)]) (fun k => by rw [w4.2.2 812 k (by unfold lz_T; omega), az_wr_ne (by omega), w3.2.2 812 k (by unfold lz_T; omega)])
    -- the classes in the class
    have agx : ∀ n, dz_In c1 n → x6.2 235 n = x4.2 235 n := fun n hn => by rw [(g6a n (in3 n hn)).2.1, (g5a n hn).2.1]
    have idx : ∀ n, c1 ≤ n → n < c2' → x6.2 235 n = n := fun n n0 n1 => by
      by_cases q3 : n < c3
      · rw [(g6a n ⟨by have := L.1.1.2.2.1; omega, q3⟩).2.1]; exact (g5c n n0 q3).1
      · exact (g6c n (by omega) n1).1
    obtain ⟨ea1, ea2, ea3, ea4, ea5⟩ := dz_ext ok1 ok2 ext Ix agx idx
    obtain ⟨eb1, eb2, eb3, eb4, eb5⟩ := dz_ext ok1 ok2 ext Im (fun n _ => rfl) idn
    obtain ⟨ρ, rk, rkb⟩ := dz_extRK ok1 ok2 ext Im (fun n _ => rfl) idn NC ord2
    have ip : dz_In c2' p := ⟨g5d.1, by have := g5d.2; omega⟩
    have iq : dz_In c2' q := g6d
    have hPP : dz_P (x6.2 235) (dz_N (lz_g m4 c2')) = dz_P (m6.2 825) (dz_N (lz_g m4 c2')) := funext fun x => funext fun y => propext ((ea4 x y).trans (eb4 x y).symm)
    obtain ⟨f, x7, jx, ujx, jr⟩ := ez_join1 ok2 H6.1 X2 ea1 ea2 ea3 ip iq
    have uX : bz_Upd σx x7 cz_SJ := ((ux4.trans ux5).trans ux6).trans (ujx.weak (fun a k q => by unfold cz_SJ; omega))
    have hf : f = 0 ∨ f = 1 := by rcases jr with ⟨q, -⟩ | ⟨q, -⟩ <;> omega
    refine ⟨v, f, x7, m6, ?_, rM, hv, hf, uX, um6, fun q => by omega, fun q => by omega, fun _ σ' hU => ?_⟩
    · have k4 := fx_242_0 H.1
      have k5 := fx_242_0 H5.1
      have k6 := fx_242_0 H6.1
      have ref := mz_leftRef H e0 (by rw [eqs]; exact e1)
      have refo := mz_leftRef H5 o0 (by rw [eqs5]; exact o1)
      unfold fz_X1_rightsAgree
      rw [rX, Option.bind_some, if_pos v1]
      simp only [k4, k5, k6, ref.2.2.1, ref.2.2.2.1, refo.2.2.1, refo.2.2.2.1, lx5, lx6, jx, Option.bind_some]
      rw [if_pos hf]
    · have hU' : bz_Upd (az_wr m4 833 3 q) σ' (fun a k => ez_RS a k ∨ a = 834 ∨ a = 835) := (u64.weak fun _ _ z => Or.inl z).trans (hU.weak fun _ _ z => Or.inr z)
      have nm : ∀ a k, a ≠ 825 → a ≠ 826 → a ≠ 834 → a ≠ 835 → a ≠ 833 → σ'.2 a k = m4.2 a k := fun a k z1 z2 z3 z4 z5 => by rw [hU'.2.2 a k (by unfold ez_RS; omega), az_wr_ne (by omega)]
      have M' : ez_M σ' (lz_g m4 c2') := M2.part ok2 (nm _ _ (by decide) (by decide) (by decide) (by decide) (by decide)) (fun n _ => nm _ _ (by decide) (by decide) (by decide) (by decide) (by decide)) (fun x _ _ => nm _ _ (by decide) (by decide) (by decide) (by decide) (by decide)) (fun n => nm _ _ (by decide) (by decide) (by decide) (by decide) (by decide)) (fun n => nm _ _ (by decide) (by decide) (by decide) (by decide) (by decide))
      have e825 : σ'.2 825 = m6.2 825 := funext fun n => hU.2.2 825 n (by omega)
      obtain ⟨r, r1, r2⟩ := ez_areSame ok2 ((h.2.1.upd um6).upd hU) M' (by rw [e825]; exact eb1) (by rw [e825]; exact eb2) (by rw [e825]; exact eb3) (ρ := ρ) (by rw [e825]; exact rk) 200 p q ip iq (by have := rkb (dz_tp (σ'.2 825) p); omega)
      rw [rt2, rt3, r1]
      rw [e825, ← hPP] at r2
      rcases jr with ⟨z1, z2⟩ | ⟨z1, z2⟩
      · rcases r2 with ⟨y1, y2⟩ | ⟨y1, y2⟩
        · rw [y1, z1]
        · exact absurd z2 y2
      · rcases r2 with ⟨y1, y2⟩ | ⟨y1, y2⟩
        · exact absurd y2 z2
        · rw [y1, z1]
  · refine ⟨v, if v = 0 then 1 else 0, x4, m6, ?_, rM, hv, by split <;> omega, ux4, um6, fun q => if_pos q, fun q => if_neg (by omega), fun q => absurd q v1⟩
    unfold fz_X1_rightsAgree
    rw [rX, Option.bind_some, if_neg v1]
    by_cases v0 : v = 0
    · rw [if_pos v0, if_pos v0]
    · rw [if_neg v0, if_neg v0]
