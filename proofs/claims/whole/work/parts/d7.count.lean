-- ends, the length of an END (6): counting
def bd_rg : Nat → List Int
  | 0 => []
  | n + 1 => (n : Int) :: bd_rg n
theorem bd_rg_mem {z : Int} : ∀ n : Nat, z ∈ bd_rg n ↔ (0 ≤ z ∧ z < n) := by
  intro n
  induction n with
  | zero =>
    constructor
    · intro h; cases h
    · intro h; omega
  | succ n ih =>
    simp only [bd_rg, List.mem_cons, ih]
    constructor
    · intro h
      rcases h with h | h
      · constructor
        · omega
        · push_cast; omega
      · constructor
        · omega
        · push_cast; omega
    · intro h
      have h2 := h.2
      push_cast at h2
      by_cases e : z = n
      · exact Or.inl e
      · exact Or.inr ⟨h.1, by omega⟩
theorem bd_rg_nd : ∀ n : Nat, (bd_rg n).Nodup := by
  intro n
  induction n with
  | zero => exact List.nodup_nil
  | succ n ih =>
    simp only [bd_rg]
    rw [List.nodup_cons]
    refine ⟨fun h => ?_, ih⟩
    have := (bd_rg_mem n).mp h
    omega
/-- one less -/
theorem bd_rm {x0 : Int} : ∀ l : List Int, l.Nodup → x0 ∈ l → ∃ l' : List Int, l'.Nodup ∧ (∀ x, x ∈ l' ↔ (x ∈ l ∧ x ≠ x0)) ∧ l.length = l'.length + 1 ∧ ∀ h : Int → Nat, bd_s l h = h x0 + bd_s l' h := by
  intro l
  induction l with
  | nil => intro _ h; cases h
  | cons a l ih =>
    intro hn hx
    rw [List.nodup_cons] at hn
    by_cases e : a = x0
    · subst e
      refine ⟨l, hn.2, fun x => ⟨fun hx => ⟨List.mem_cons_of_mem _ hx, fun q => hn.1 (by rw [← q]; exact hx)⟩, fun hx => ?_⟩, rfl, fun h => rfl⟩
      rcases List.mem_cons.mp hx.1 with q | q
      · exact absurd q hx.2
      · exact q
    · have hx' : x0 ∈ l := by
        rcases List.mem_cons.mp hx with q | q
        · exact absurd q.symm e
        · exact q
      obtain ⟨l', h1, h2, h3, h4⟩ := ih hn.2 hx'
      refine ⟨a :: l', ?_, fun x => ?_, by simp only [List.length_cons]; omega, fun h => by simp only [bd_s]; rw [h4 h]; omega⟩
      · rw [List.nodup_cons]
        exact ⟨fun q => hn.1 ((h2 a).mp q).1, h1⟩
      · simp only [List.mem_cons]
        constructor
        · intro q
          rcases q with q | q
          · exact ⟨Or.inl q, by rw [q]; exact e⟩
          · have := (h2 x).mp q
            exact ⟨Or.inr this.1, this.2⟩
        · rintro ⟨q | q, ne⟩
          · exact Or.inl q
          · exact Or.inr ((h2 x).mpr ⟨q, ne⟩)
theorem bd_inj {h h' : Int → Nat} {φ : Int → Int} : ∀ (l l' : List Int), l.Nodup → l'.Nodup → (∀ p, p ∈ l → φ p ∈ l') → (∀ p q, p ∈ l → q ∈ l → φ p = φ q → p = q) → (∀ p, p ∈ l → h p ≤ h' (φ p)) → bd_s l h ≤ bd_s l' h' := by
  intro l
  induction l with
  | nil => intro l' _ _ _ _ _; exact Nat.zero_le _
  | cons a l ih =>
    intro l' hn hn' hm hi hh
    rw [List.nodup_cons] at hn
    obtain ⟨k, k1, k2, k3, k4⟩ := bd_rm l' hn' (hm a List.mem_cons_self)
    have := ih k hn.2 k1 (fun p hp => (k2 _).mpr ⟨hm p (List.mem_cons_of_mem _ hp), fun q => hn.1 (by rw [hi a p List.mem_cons_self (List.mem_cons_of_mem _ hp) q.symm]; exact hp)⟩) (fun p q hp hq => hi p q (List.mem_cons_of_mem _ hp) (List.mem_cons_of_mem _ hq)) (fun p hp => hh p (List.mem_cons_of_mem _ hp))
    simp only [bd_s]
    rw [k4 h']
    have := hh a List.mem_cons_self
    omega
theorem bd_s_split {h : Int → Nat} {P : Int → Bool} : ∀ l : List Int, bd_s l h = bd_s (l.filter P) h + bd_s (l.filter (fun x => !P x)) h := by
  intro l
  induction l with
  | nil => rfl
  | cons a l ih =>
    by_cases e : P a = true
    · rw [List.filter_cons_of_pos e, List.filter_cons_of_neg (by simp [e])]
      simp only [bd_s]
      rw [ih]
      omega
    · rw [List.filter_cons_of_neg e, List.filter_cons_of_pos (by simp [e])]
      simp only [bd_s]
      rw [ih]
      omega
theorem bd_s_sub {h : Int → Nat} {P : Int → Bool} (l : List Int) : bd_s (l.filter P) h ≤ bd_s l h := by
  rw [bd_s_split (P := P) l]
  omega
theorem bd_s_ind {P : Int → Bool} : ∀ l : List Int, bd_s l (fun x => if P x = true then 1 else 0) = (l.filter P).length := by
  intro l
  induction l with
  | nil => rfl
  | cons a l ih =>
    simp only [bd_s]
    by_cases e : P a = true
    · rw [List.filter_cons_of_pos e, List.length_cons, if_pos e, ih]
      omega
    · rw [List.filter_cons_of_neg e, if_neg e, ih]
      omega
/-- labels: each edge costs at most one -/
theorem bd_lab {S : List Int} (hS : S.Nodup) : ∀ E : List (Int × Int), ∃ f : Int → Int, (∀ p, p ∈ E → f p.1 = f p.2) ∧ ∃ S' : List Int, S'.Nodup ∧ (∀ x, x ∈ S' → x ∈ S) ∧ (∀ x y, x ∈ S' → y ∈ S' → f x = f y → x = y) ∧ S.length ≤ S'.length + E.length := by
  intro E
  induction E with
  | nil => exact ⟨fun x => x, fun p h => (by cases h), S, hS, fun x h => h, fun x y _ _ h => h, Nat.le_refl _⟩
  | cons e E ih =>
    obtain ⟨f, h1, S', h2, h3, h4, h5⟩ := ih
    refine ⟨fun x => if f x = f e.2 then f e.1 else f x, fun p hp => ?_, ?_⟩
    · show (if f p.1 = f e.2 then f e.1 else f p.1) = (if f p.2 = f e.2 then f e.1 else f p.2)
      rcases List.mem_cons.mp hp with rfl | hp
      · rw [if_pos (rfl : f p.2 = f p.2)]
        by_cases q : f p.1 = f p.2
        · rw [if_pos q]
        · rw [if_neg q]
      · rw [h1 p hp]
    · by_cases hx : ∃ x0, x0 ∈ S' ∧ f x0 = f e.2
      · obtain ⟨x0, m0, e0⟩ := hx
        obtain ⟨k, k1, k2, k3, k4⟩ := bd_rm S' h2 m0
        have ne : ∀ x, x ∈ k → f x ≠ f e.2 := fun x hx q => by
          have w := (k2 x).mp hx
          exact w.2 (h4 x x0 w.1 m0 (by rw [q, e0]))
        refine ⟨k, k1, fun x hx => h3 x ((k2 x).mp hx).1, fun x y hx hy q => ?_, by rw [List.length_cons]; omega⟩
        have q' : (if f x = f e.2 then f e.1 else f x) = (if f y = f e.2 then f e.1 else f y) := q
        rw [if_neg (ne x hx), if_neg (ne y hy)] at q'
        exact h4 x y ((k2 x).mp hx).1 ((k2 y).mp hy).1 q'
      · have ne : ∀ x, x ∈ S' → f x ≠ f e.2 := fun x hx' q => hx ⟨x, hx', q⟩
        refine ⟨S', h2, h3, fun x y hx' hy q => ?_, by rw [List.length_cons]; omega⟩
        have q' : (if f x = f e.2 then f e.1 else f x) = (if f y = f e.2 then f e.1 else f y) := q
        rw [if_neg (ne x hx'), if_neg (ne y hy)] at q'
        exact h4 x y hx' hy q'
theorem bd_nd1 : ∀ l : List Int, l.Nodup → (∀ x y, x ∈ l → y ∈ l → x = y) → l.length ≤ 1 := by
  intro l hn h
  cases l with
  | nil => exact Nat.zero_le _
  | cons a l =>
    cases l with
    | nil => exact Nat.le_refl _
    | cons b l =>
      exfalso
      rw [List.nodup_cons] at hn
      exact hn.1 (by rw [h a b List.mem_cons_self (List.mem_cons_of_mem _ List.mem_cons_self)]; exact List.mem_cons_self)
/-- LEMMA S: a class has at most one node more than there are edges in it -/
theorem bd_S {g : dz_G} (hg : dz_ok g) {a b : Int} {up : Int → Int} (hI : dz_Inv g (dz_Cl g a b) a b up (fun _ _ => False)) {y : Int} (hy : y ≠ dz_tp up a) (ha : dz_In (dz_N g) a) (hb : dz_In (dz_N g) b) {S : List Int} (hS : S.Nodup) (hS2 : ∀ x, x ∈ S → dz_In (dz_N g) x ∧ dz_tp up x = y) {E : List (Int × Int)}
    (hE : ∀ x k, dz_In (dz_N g) x → ¬ dz_iv g x → dz_tp up x ≠ x → 0 ≤ k → k < dz_ar g x → dz_tp up (dz_kd g x k) = y → (dz_kd g x k, dz_kd g (dz_tp up x) k) ∈ E) : S.length ≤ E.length + 1 := by
  obtain ⟨f, h1, S', h2, h3, h4, h5⟩ := bd_lab hS E
  have hf := hI.fin
  obtain ⟨hcd, hab⟩ := hI.fin'
  have tab : dz_tp up a = dz_tp up b := by
    rcases hab with q | q
    · rw [q]
    · exact q.2.2
  have hU := hI.1
  have hR := hI.2.2.2.1
  have key : ∀ x z, dz_Cl g a b x z → x = z ∨ (dz_In (dz_N g) x ∧ dz_In (dz_N g) z ∧ dz_tp up x = dz_tp up z ∧ (dz_tp up x = y → f x = f z)) := fun x z q => by
    refine q (fun x z => x = z ∨ (dz_In (dz_N g) x ∧ dz_In (dz_N g) z ∧ dz_tp up x = dz_tp up z ∧ (dz_tp up x = y → f x = f z))) ⟨fun x => Or.inl rfl, fun x z w => ?_, fun x z t w w' => ?_⟩ ?_ ?_
    · rcases w with w | ⟨w1, w2, w3, w4⟩
      · exact Or.inl w.symm
      · exact Or.inr ⟨w2, w1, w3.symm, fun q => (w4 (by rw [w3]; exact q)).symm⟩
    · rcases w with rfl | ⟨w1, w2, w3, w4⟩
      · exact w'
      · rcases w' with rfl | ⟨v1, v2, v3, v4⟩
        · exact Or.inr ⟨w1, w2, w3, w4⟩
        · exact Or.inr ⟨w1, v2, w3.trans v3, fun q => (w4 q).trans (v4 (by rw [← w3]; exact q))⟩
    · intro x z hx hz w nx nz es k k0 k1
      rcases w with rfl | ⟨w1, w2, w3, w4⟩
      · exact Or.inl rfl
      · have ea := hg.2.2.2 x z hx hz nx nz es
        have ix := (hg.2.2.1 x hx nx).2.2 k k0 k1
        have iz := (hg.2.2.1 z hz nz).2.2 k k0 (by rw [← ea]; exact k1)
        have et : dz_tp up (dz_kd g x k) = dz_tp up (dz_kd g z k) := by
          rcases hcd x z hx hz (Or.inr ⟨hx, hz, w3⟩) nx nz es k k0 k1 with q | q
          · rw [q]
          · exact q.2.2
        refine Or.inr ⟨ix, iz, et, fun ey => ?_⟩
        have up1 : ∀ t, dz_In (dz_N g) t → ¬ dz_iv g t → k < dz_ar g t → dz_tp up (dz_kd g t k) = y → f (dz_kd g t k) = f (dz_kd g (dz_tp up t) k) := fun t ht nt kt et => by
          by_cases r : dz_tp up t = t
          · rw [r]
          · exact h1 _ (hE t k ht nt r k0 kt et)
        rw [up1 x hx nx k1 ey, up1 z hz nz (by rw [← ea]; exact k1) (by rw [← et]; exact ey), w3]
    · exact Or.inr ⟨ha, hb, tab, fun q => absurd q.symm hy⟩
  have one : S'.length ≤ 1 := bd_nd1 S' h2 (fun x z hx hz => by
    have wx := hS2 x (h3 x hx)
    have wz := hS2 z (h3 z hz)
    rcases key x z ((hf.1 x z wx.1 wz.1).mp (by rw [wx.2, wz.2])) with q | q
    · exact q
    · exact h4 x z hx hz (q.2.2.2 wx.2))
  omega
