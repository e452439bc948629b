/-! graphs that are the same but for the numbers of their nodes -/
def sy_I (g g' : dz_G) (F : Int → Int → Prop) : Prop := (∀ x, dz_In (dz_N g) x → ∃ y, F x y) ∧ (∀ y, dz_In (dz_N g') y → ∃ x, F x y) ∧ (∀ x y, F x y → dz_In (dz_N g) x ∧ dz_In (dz_N g') y ∧ (dz_iv g x ↔ dz_iv g' y) ∧ (¬ dz_iv g x → dz_sy g x = dz_sy g' y ∧ dz_ar g x = dz_ar g' y ∧ ∀ k, 0 ≤ k → k < dz_ar g x → F (dz_kd g x k) (dz_kd g' y k))) ∧ ∀ x y x' y', F x y → F x' y' → (x = x' ↔ y = y')
theorem sy_I.symm {g g' : dz_G} {F : Int → Int → Prop} (h : sy_I g g' F) : sy_I g' g (fun y x => F x y) := by
  obtain ⟨h1, h2, h3, h4⟩ := h
  refine ⟨h2, h1, fun y x hF => ?_, fun y x y' x' q q' => (h4 x y x' y' q q').symm⟩
  obtain ⟨q1, q2, q3, q4⟩ := h3 x y hF
  refine ⟨q2, q1, q3.symm, fun nv => ?_⟩
  obtain ⟨r1, r2, r3⟩ := q4 (fun z => nv (q3.mp z))
  exact ⟨r1.symm, r2.symm, fun k k0 k1 => r3 k k0 (by omega)⟩
theorem sy_I.cl {g g' : dz_G} {F : Int → Int → Prop} (h : sy_I g g' F) (hg : dz_ok g) {a b a' b' x y x' y' : Int} (ha : F a a') (hb : F b b') (hx : F x x') (hy : F y y') (hc : dz_Cl g a b x y) : dz_Cl g' a' b' x' y' := by
  obtain ⟨h1, h2, h3, h4⟩ := h
  intro Q hE hD hab
  have q := hc (fun u v => u = v ∨ ∃ u' v', F u u' ∧ F v v' ∧ Q u' v') ⟨fun u => Or.inl rfl, fun u v q => ?_, fun u v w q r => ?_⟩ (fun u v iu iv' q nu nv e k k0 k1 => ?_) (Or.inr ⟨a', b', ha, hb, hab⟩)
  · rcases q with q | ⟨u', v', q1, q2, q3⟩
    · rw [(h4 x x' y y' hx hy).mp q]; exact hE.1 _
    · rw [← (h4 x u' x x' q1 hx).mp rfl, ← (h4 y v' y y' q2 hy).mp rfl]; exact q3
  · rcases q with q | ⟨u', v', q1, q2, q3⟩
    · exact Or.inl q.symm
    · exact Or.inr ⟨v', u', q2, q1, hE.2.1 _ _ q3⟩
  · rcases q with rfl | ⟨u', v', q1, q2, q3⟩
    · exact r
    · rcases r with rfl | ⟨v'', w', r1, r2, r3⟩
      · exact Or.inr ⟨u', v', q1, q2, q3⟩
      · have := (h4 v v' v v'' q2 r1).mp rfl
        exact Or.inr ⟨u', w', q1, r2, hE.2.2 _ _ _ q3 (by rw [this]; exact r3)⟩
  · rcases q with rfl | ⟨u', v', q1, q2, q3⟩
    · exact Or.inl rfl
    · obtain ⟨s1, s2, s3, s4⟩ := h3 u u' q1
      obtain ⟨t1, t2, t3, t4⟩ := h3 v v' q2
      obtain ⟨s5, s6, s7⟩ := s4 nu
      obtain ⟨t5, t6, t7⟩ := t4 nv
      exact Or.inr ⟨_, _, s7 k k0 k1, t7 k k0 (by have := hg.2.2.2 u v iu iv' nu nv e; omega), hD u' v' s2 t2 q3 (fun z => nu (s3.mpr z)) (fun z => nv (t3.mpr z)) (by rw [← s5, ← t5]; exact e) k k0 (by omega)⟩
theorem sy_I.clash {g g' : dz_G} {F : Int → Int → Prop} (h : sy_I g g' F) (hg : dz_ok g) {a b a' b' : Int} (ha : F a a') (hb : F b b') (hc : dz_Clash g a b) : dz_Clash g' a' b' := by
  obtain ⟨x, y, ix, iy, q, nx, ny, e⟩ := hc
  obtain ⟨x', hx⟩ := h.1 x ix
  obtain ⟨y', hy⟩ := h.1 y iy
  have cl := h.cl hg ha hb hx hy q
  obtain ⟨s1, s2, s3, s4⟩ := h.2.2.1 x x' hx
  obtain ⟨t1, t2, t3, t4⟩ := h.2.2.1 y y' hy
  exact ⟨x', y', s2, t2, cl, fun z => nx (s3.mpr z), fun z => ny (t3.mpr z), by rw [← (s4 nx).1, ← (t4 ny).1]; exact e⟩
theorem sy_I.nc {g g' : dz_G} {F : Int → Int → Prop} (h : sy_I g g' F) (hg' : dz_ok g') {a b a' b' : Int} (ha : F a a') (hb : F b b') (hn : dz_NC g a b) : dz_NC g' a' b' := by
  obtain ⟨ρ, r1, r2⟩ := hn
  have hs := h.symm
  have key : ∀ y, ∃ v : Nat, ∀ x, F x y → v = ρ x := fun y => by
    by_cases q : ∃ x, F x y
    · obtain ⟨x, hx⟩ := q
      exact ⟨ρ x, fun z hz => by rw [(h.2.2.2 x y z y hx hz).mpr rfl]⟩
    · exact ⟨0, fun z hz => absurd ⟨z, hz⟩ q⟩
  refine ⟨fun y => Classical.choose (key y), fun x y ix iy q => ?_, fun x ix nx k k0 k1 => ?_⟩
  · obtain ⟨u, hu⟩ := h.2.1 x ix
    obtain ⟨v, hv⟩ := h.2.1 y iy
    show Classical.choose (key x) = Classical.choose (key y)
    rw [Classical.choose_spec (key x) u hu, Classical.choose_spec (key y) v hv]
    exact r1 u v (h.2.2.1 u x hu).1 (h.2.2.1 v y hv).1 (hs.cl hg' ha hb hu hv q)
  · obtain ⟨u, hu⟩ := h.2.1 x ix
    obtain ⟨s1, s2, s3, s4⟩ := h.2.2.1 u x hu
    have nu : ¬ dz_iv g u := fun z => nx (s3.mp z)
    obtain ⟨t1, t2, t3⟩ := s4 nu
    have hk := t3 k k0 (by omega)
    show Classical.choose (key (dz_kd g' x k)) < Classical.choose (key x)
    rw [Classical.choose_spec (key x) u hu, Classical.choose_spec (key (dz_kd g' x k)) _ hk]
    exact r2 u s1 nu k k0 (by omega)
theorem sy_I.sm {g g' : dz_G} {F : Int → Int → Prop} (h : sy_I g g' F) (hg : dz_ok g) {P P' : Int → Int → Prop} (hP : ∀ x y x' y', F x x' → F y y' → P x y → P' x' y') {u v u' v' : Int} (hu : F u u') (hv : F v v') (hs : dz_Sm g P u v) : dz_Sm g' P' u' v' := by
  obtain ⟨B, hB, huv⟩ := hs
  refine ⟨fun x' y' => ∃ x y, F x x' ∧ F y y' ∧ B x y, fun x' y' q => ?_, ⟨u, v, hu, hv, huv⟩⟩
  obtain ⟨x, y, hx, hy, b⟩ := q
  rcases hB x y b with b | ⟨w, z, iw, iz, p1, p2, nw, nz, e, k⟩
  · exact Or.inl (hP x y x' y' hx hy b)
  · obtain ⟨w', hw⟩ := h.1 w iw
    obtain ⟨z', hz⟩ := h.1 z iz
    obtain ⟨s1, s2, s3, s4⟩ := h.2.2.1 w w' hw
    obtain ⟨t1, t2, t3, t4⟩ := h.2.2.1 z z' hz
    obtain ⟨s5, s6, s7⟩ := s4 nw
    obtain ⟨t5, t6, t7⟩ := t4 nz
    refine Or.inr ⟨w', z', s2, t2, hP _ _ _ _ hx hw p1, hP _ _ _ _ hy hz p2, fun q => nw (s3.mpr q), fun q => nz (t3.mpr q), by rw [← s5, ← t5]; exact e, fun j j0 j1 => ?_⟩
    have ea := hg.2.2.2 w z iw iz nw nz e
    exact ⟨_, _, s7 j j0 (by omega), t7 j j0 (by omega), k j j0 (by omega)⟩
theorem dz_Cl.swap {g : dz_G} {a b x y : Int} (h : dz_Cl g a b x y) : dz_Cl g b a x y := fun Q hE hD hb => h Q hE hD (hE.2.1 _ _ hb)
theorem dz_Clash.swap {g : dz_G} {a b : Int} (h : dz_Clash g a b) : dz_Clash g b a := by
  obtain ⟨x, y, ix, iy, q, r⟩ := h
  exact ⟨x, y, ix, iy, q.swap, r⟩
theorem dz_NC.swap {g : dz_G} {a b : Int} (h : dz_NC g a b) : dz_NC g b a := by
  obtain ⟨ρ, r1, r2⟩ := h
  exact ⟨ρ, fun x y ix iy q => r1 x y ix iy q.swap, r2⟩
/-- right sides: what the joining of left sides (the first c nodes) makes the same -/
def sy_P (g : dz_G) (c a b x y : Int) : Prop := x = y ∨ (dz_In c x ∧ dz_In c y ∧ dz_Cl g a b x y)
theorem sy_P.swap {g : dz_G} {c a b x y : Int} (h : sy_P g c a b x y) : sy_P g c b a x y := by
  rcases h with h | ⟨h1, h2, h3⟩
  · exact Or.inl h
  · exact Or.inr ⟨h1, h2, h3.swap⟩
theorem dz_Sm.mono {g : dz_G} {P P' : Int → Int → Prop} (hP : ∀ x y, P x y → P' x y) {u v : Int} (h : dz_Sm g P u v) : dz_Sm g P' u v := by
  obtain ⟨B, hB, b⟩ := h
  refine ⟨B, fun x y q => ?_, b⟩
  rcases hB x y q with q | ⟨w, z, iw, iz, p1, p2, r⟩
  · exact Or.inl (hP _ _ q)
  · exact Or.inr ⟨w, z, iw, iz, hP _ _ p1, hP _ _ p2, r⟩
theorem dz_Sm.flip {g : dz_G} (hg : dz_ok g) {P : Int → Int → Prop} (hP : ∀ x y, P x y → P y x) {u v : Int} (h : dz_Sm g P u v) : dz_Sm g P v u := by
  obtain ⟨B, hB, b⟩ := h
  refine ⟨fun x y => B y x, fun x y q => ?_, b⟩
  rcases hB y x q with q | ⟨w, z, iw, iz, p1, p2, nw, nz, e, k⟩
  · exact Or.inl (hP _ _ q)
  · exact Or.inr ⟨z, w, iz, iw, p2, p1, nz, nw, e.symm, fun j j0 j1 => k j j0 (by have := hg.2.2.2 w z iw iz nw nz e; omega)⟩
theorem sy_P.flip {g : dz_G} {c a b x y : Int} (h : sy_P g c a b x y) : sy_P g c a b y x := by
  rcases h with h | ⟨h1, h2, h3⟩
  · exact Or.inl h.symm
  · exact Or.inr ⟨h2, h1, dz_Cl.eq.2.1 _ _ h3⟩
