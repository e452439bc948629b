/-! join: what it answers -/
theorem ez_joinS {σ : az_Hp} {a b r : Int} (hF : bz_Fx σ) (ha : 0 ≤ a) (hb : 0 ≤ b) : fz_X0_join 2000000 σ 231 a b r = fz_X0_join_30 2000000 2000000 (az_wr (az_wr σ 239 0 a) 239 1 b) 231 r 2 0 ∧ bz_Upd σ (az_wr (az_wr σ 239 0 a) 239 1 b) (fun a _ => a = 235 ∨ a = 239) ∧ (∀ u v, ez_S (az_wr (az_wr σ 239 0 a) 239 1 b) 1 u v ↔ (u = a ∧ v = b) ∨ False) := by
  have g8 := fx_231_8 hF
  have l8 := ln_239 hF
  refine ⟨?_, ?_, fun u v => ?_⟩
  · unfold fz_X0_join
    rw [if_neg (by omega), if_neg (by omega), g8, Option.bind_some, bz_awr (by omega) (by omega), Option.bind_some, bz_gref_wr (by omega), g8, Option.bind_some, bz_awr (by omega) (by rw [bz_ln_wr]; omega), Option.bind_some]
  · refine bz_Upd.wr (bz_Upd.wr bz_Upd.refl (Or.inr rfl) ?_) (Or.inr rfl) ?_
    · decide
    · decide
  · constructor
    · rintro ⟨j, j0, j1, e1, e2⟩
      have : j = 0 := by omega
      subst this
      refine Or.inl ⟨?_, ?_⟩
      · rw [← e1, az_wr_ne (by omega)]; exact az_wr_same
      · rw [← e2]; exact az_wr_same
    · rintro (⟨rfl, rfl⟩ | h)
      · exact ⟨0, by omega, by omega, by rw [az_wr_ne (by omega)]; exact az_wr_same, az_wr_same⟩
      · exact h.elim
theorem ez_join0 {σ : az_Hp} {g : dz_G} (hg : dz_ok g) {a b : Int} (hF : bz_Fx σ) (hX : ez_X σ g) (hid : ∀ n, dz_In (dz_N g) n → σ.2 235 n = n) (ha : dz_In (dz_N g) a) (hb : dz_In (dz_N g) b) :
    ∃ v σ', fz_X0_join 2000000 σ 231 a b 0 = some (v, σ') ∧ bz_Upd σ σ' (fun a _ => a = 235 ∨ a = 239) ∧ ((v = 1 ∧ dz_Inv g (dz_Cl g a b) a b (σ'.2 235) (fun _ _ => False)) ∨ (v = 0 ∧ dz_Clash g a b)) := by
  obtain ⟨s1, s2, s3⟩ := ez_joinS (r := 0) hF ha.1 hb.1
  have e235 : ∀ n, (az_wr (az_wr σ 239 0 a) 239 1 b).2 235 n = σ.2 235 n := fun n => by rw [az_wr_ne (by omega), az_wr_ne (by omega)]
  have hI : dz_Inv g (dz_Cl g a b) a b ((az_wr (az_wr σ 239 0 a) 239 1 b).2 235) (ez_S (az_wr (az_wr σ 239 0 a) 239 1 b) 1) := (dz_Inv.start hg ha hb (fun n hn => by rw [e235]; exact hid n hn)).cong (fun u v => (s3 u v).symm)
  have hN := hg.2.1
  have hN0 := hg.1
  obtain ⟨v, σ', f1, f2, f3⟩ := ez_joinL hg dz_Cl.eq dz_Cl.cd (Or.inl rfl) (Z := fun _ => True) (fun _ _ _ _ _ _ _ _ _ _ _ => trivial) (1 + 3 * (dz_N g).toNat) 2000000 (az_wr (az_wr σ 239 0 a) 239 1 b) 1 0 (hF.upd s2) (hX.cong (fun n => by rw [az_wr_ne (by omega), az_wr_ne (by omega)]) (fun n => by rw [az_wr_ne (by omega), az_wr_ne (by omega)])) hI trivial (by omega) (by push_cast; omega) (by omega) (by omega) (by omega) (by push_cast; omega) (by omega)
  refine ⟨v, σ', by rw [s1]; exact f1, s2.trans f2, ?_⟩
  rcases f3 with ⟨e, h, -⟩ | ⟨e, up, x, y, h1, -, h2, h3, h4, h5, h6, h7, h8⟩
  · exact Or.inl ⟨e, h⟩
  · rcases h8 with ⟨h8, -⟩ | h8
    · omega
    · exact Or.inr ⟨e, x, y, h2, h3, h7, h8.1, h8.2.1, h8.2.2⟩
/-- rigid: whether they are the same by the joining so far -/
theorem ez_join1 {σ : az_Hp} {g : dz_G} (hg : dz_ok g) {a b : Int} (hF : bz_Fx σ) (hX : ez_X σ g) (hU : dz_UF (σ.2 235) (dz_N g)) (hr : dz_Rep g (σ.2 235)) (hd : dz_Cd g (dz_P (σ.2 235) (dz_N g))) (ha : dz_In (dz_N g) a) (hb : dz_In (dz_N g) b) :
    ∃ v σ', fz_X0_join 2000000 σ 231 a b 1 = some (v, σ') ∧ bz_Upd σ σ' (fun a _ => a = 235 ∨ a = 239) ∧ ((v = 1 ∧ dz_Sm g (dz_P (σ.2 235) (dz_N g)) a b) ∨ (v = 0 ∧ ¬ dz_Sm g (dz_P (σ.2 235) (dz_N g)) a b)) := by
  obtain ⟨s1, s2, s3⟩ := ez_joinS (r := 1) hF ha.1 hb.1
  have e235 : (az_wr (az_wr σ 239 0 a) 239 1 b).2 235 = σ.2 235 := funext fun n => by rw [az_wr_ne (by omega), az_wr_ne (by omega)]
  have hs : ∀ x y, dz_In (dz_N g) x → dz_In (dz_N g) y → dz_P (σ.2 235) (dz_N g) x y → ¬ dz_iv g x → ¬ dz_iv g y → dz_sy g x = dz_sy g y := by
    intro x y hx hy q nx ny
    rcases q with rfl | q
    · rfl
    · rw [← (hr x hx nx).2, ← (hr y hy ny).2, q.2.2]
  have hN := hg.2.1
  have hN0 := hg.1
  -- Z: a top was a top, only classes of no variables were joined
  have run : ∀ C : Int → Int → Prop, dz_Eq C → dz_Cd g C → (∀ x y, dz_P (σ.2 235) (dz_N g) x y → C x y) → C a b → ∃ v σ', fz_X0_join 2000000 σ 231 a b 1 = some (v, σ') ∧ bz_Upd σ σ' (fun a _ => a = 235 ∨ a = 239) ∧
      ((v = 1 ∧ dz_Inv g C a b (σ'.2 235) (fun _ _ => False) ∧ (∀ x, dz_In (dz_N g) x → σ'.2 235 x = x → σ.2 235 x = x) ∧ (∀ u v, dz_In (dz_N g) u → dz_In (dz_N g) v → dz_tp (σ'.2 235) u = dz_tp (σ'.2 235) v → dz_tp (σ.2 235) u = dz_tp (σ.2 235) v ∨ (¬ dz_iv g (dz_tp (σ.2 235) u) ∧ ¬ dz_iv g (dz_tp (σ.2 235) v))) ∧ ∀ u v, dz_In (dz_N g) u → dz_In (dz_N g) v → dz_tp (σ.2 235) u = dz_tp (σ.2 235) v → dz_tp (σ'.2 235) u = dz_tp (σ'.2 235) v) ∨
        (v = 0 ∧ ∃ x y, dz_In (dz_N g) x ∧ dz_In (dz_N g) y ∧ σ.2 235 x = x ∧ σ.2 235 y = y ∧ x ≠ y ∧ C x y ∧ (dz_iv g x ∨ dz_iv g y ∨ dz_sy g x ≠ dz_sy g y))) := by
    intro C hE hC hP hab
    have hI : dz_Inv g C a b ((az_wr (az_wr σ 239 0 a) 239 1 b).2 235) (ez_S (az_wr (az_wr σ 239 0 a) 239 1 b) 1) := by
      rw [e235]
      exact (dz_Inv.again ha hb hU hr hd hP hab).cong (fun u v => (s3 u v).symm)
    obtain ⟨v, σ', f1, f2, f3⟩ := ez_joinL hg hE hC (Or.inr rfl) (Z := fun up => (∀ x, dz_In (dz_N g) x → up x = x → σ.2 235 x = x) ∧ (∀ u v, dz_In (dz_N g) u → dz_In (dz_N g) v → dz_tp up u = dz_tp up v → dz_tp (σ.2 235) u = dz_tp (σ.2 235) v ∨ (¬ dz_iv g (dz_tp (σ.2 235) u) ∧ ¬ dz_iv g (dz_tp (σ.2 235) v))) ∧ ∀ u v, dz_In (dz_N g) u → dz_In (dz_N g) v → dz_tp (σ.2 235) u = dz_tp (σ.2 235) v → dz_tp up u = dz_tp up v)
      (fun up p q uf ip iq rp rq ne nv z => by
        obtain ⟨z1, z2, z3⟩ := z
        rcases nv with nv | ⟨np, nq⟩
        · omega
        obtain ⟨j1, j2, j3⟩ := uf.join ip iq rp rq ne
        refine ⟨fun x hx e => z1 x hx ?_, fun u v hu hv e => ?_, fun u v hu hv e => by rw [j2 u hu, j2 v hv, z3 u v hu hv e]⟩
        · unfold dz_set at e
          by_cases ep : x = p
          · rw [if_pos ep] at e; rw [ep]; exact rp
          · rw [if_neg ep] at e; exact e
        · have up0 : dz_tp (σ.2 235) p = p := dz_tp_root (z1 p ip rp)
          have uq0 : dz_tp (σ.2 235) q = q := dz_tp_root (z1 q iq rq)
          have kp : ∀ w, dz_In (dz_N g) w → dz_tp up w = p → ¬ dz_iv g (dz_tp (σ.2 235) w) := by
            intro w hw ew
            rcases z2 w p hw ip (by rw [ew, dz_tp_root rp]) with h | h
            · rw [h, up0]; exact np
            · exact h.1
          have kq : ∀ w, dz_In (dz_N g) w → dz_tp up w = q → ¬ dz_iv g (dz_tp (σ.2 235) w) := by
            intro w hw ew
            rcases z2 w q hw iq (by rw [ew, dz_tp_root rq]) with h | h
            · rw [h, uq0]; exact nq
            · exact h.1
          rw [j2 u hu, j2 v hv] at e
          by_cases eu : dz_tp up u = p
          · by_cases ev : dz_tp up v = p
            · exact z2 u v hu hv (eu.trans ev.symm)
            · rw [if_pos eu, if_neg ev] at e
              exact Or.inr ⟨kp u hu eu, kq v hv e.symm⟩
          · by_cases ev : dz_tp up v = p
            · rw [if_neg eu, if_pos ev] at e
              exact Or.inr ⟨kq u hu e, kp v hv ev⟩
            · rw [if_neg eu, if_neg ev] at e
              exact z2 u v hu hv e)
      (1 + 3 * (dz_N g).toNat) 2000000 (az_wr (az_wr σ 239 0 a) 239 1 b) 1 0 (hF.upd s2) (hX.cong (fun n => by rw [az_wr_ne (by omega), az_wr_ne (by omega)]) (fun n => by rw [az_wr_ne (by omega), az_wr_ne (by omega)])) hI (by rw [e235]; exact ⟨fun x _ e => e, fun u v _ _ e => Or.inl e, fun u v _ _ e => e⟩) (by omega) (by push_cast; omega) (by omega) (by omega) (by omega) (by push_cast; omega) (by omega)
    refine ⟨v, σ', by rw [s1]; exact f1, s2.trans f2, ?_⟩
    rcases f3 with ⟨e, h, h'⟩ | ⟨e, up, x, y, h1, z, h2, h3, h4, h5, h6, h7, h8⟩
    · exact Or.inl ⟨e, h, h'⟩
    · refine Or.inr ⟨e, x, y, h2, h3, z.1 x h2 h4, z.1 y h3 h5, h6, h7, ?_⟩
      rcases h8 with ⟨-, h8⟩ | h8
      · exact h8.elim Or.inl (fun q => Or.inr (Or.inl q))
      · exact Or.inr (Or.inr h8.2.2)
  by_cases hsm : dz_Sm g (dz_P (σ.2 235) (dz_N g)) a b
  · obtain ⟨v, σ', f1, f2, f3⟩ := run (dz_Sm g (dz_P (σ.2 235) (dz_N g))) (dz_Sm.eq hg dz_P.eq hd hs) (dz_Sm.cd hg dz_P.eq hd hs) (fun x y q => dz_Sm.p q) hsm
    refine ⟨v, σ', f1, f2, ?_⟩
    rcases f3 with ⟨e, -⟩ | ⟨e, x, y, h1, h2, h3, h4, h5, h6, h7⟩
    · exact Or.inl ⟨e, hsm⟩
    · exfalso
      have tx := dz_tp_root h3
      have ty := dz_tp_root h4
      rcases h6.out with q | ⟨x', y', k1, k2, k3, k4, k5, k6, k7, -⟩
      · rcases q with q | q
        · exact h5 q
        · rw [tx, ty] at q; exact h5 q.2.2
      · have nx : ¬ dz_iv g x ∧ dz_sy g x = dz_sy g x' := by
          have := hr x' k1 k5
          rcases k3 with q | q
          · subst q; exact ⟨k5, rfl⟩
          · rw [← q.2.2, tx] at this; exact this
        have ny : ¬ dz_iv g y ∧ dz_sy g y = dz_sy g y' := by
          have := hr y' k2 k6
          rcases k4 with q | q
          · subst q; exact ⟨k6, rfl⟩
          · rw [← q.2.2, ty] at this; exact this
        rcases h7 with h7 | h7 | h7
        · exact nx.1 h7
        · exact ny.1 h7
        · exact h7 (nx.2.trans (k7.trans ny.2.symm))
  · obtain ⟨v, σ', f1, f2, f3⟩ := run (fun _ _ => True) ⟨fun _ => trivial, fun _ _ _ => trivial, fun _ _ _ _ _ => trivial⟩ (fun _ _ _ _ _ _ _ _ _ _ _ => trivial) (fun _ _ _ => trivial) trivial
    refine ⟨v, σ', f1, f2, ?_⟩
    rcases f3 with ⟨e, h, z1, z2, z3⟩ | ⟨e, -⟩
    · exfalso
      apply hsm
      obtain ⟨cd', pab⟩ := h.fin'
      have hr' := h.2.2.2.1
      have uf' := h.1
      refine ⟨dz_P (σ'.2 235) (dz_N g), fun u v q => ?_, pab⟩
      rcases q with rfl | ⟨hu, hv, q⟩
      · exact Or.inl (Or.inl rfl)
      · rcases z2 u v hu hv q with h' | ⟨nu, nv⟩
        · exact Or.inl (Or.inr ⟨hu, hv, h'⟩)
        · have tu := hU.top hu
          have tv := hU.top hv
          have mono : ∀ w, dz_In (dz_N g) w → dz_tp (σ'.2 235) (dz_tp (σ.2 235) w) = dz_tp (σ'.2 235) w := by
            intro w hw
            exact z3 _ _ (hU.top hw).2 hw (hU.tt hw)
          have exy : dz_tp (σ'.2 235) (dz_tp (σ.2 235) u) = dz_tp (σ'.2 235) (dz_tp (σ.2 235) v) := by rw [mono u hu, mono v hv]; exact q
          have es : dz_sy g (dz_tp (σ.2 235) u) = dz_sy g (dz_tp (σ.2 235) v) := by
            rw [← (hr' _ tu.2 nu).2, ← (hr' _ tv.2 nv).2, exy]
          exact Or.inr ⟨_, _, tu.2, tv.2, Or.inr ⟨hu, tu.2, (hU.tt hu).symm⟩, Or.inr ⟨hv, tv.2, (hU.tt hv).symm⟩, nu, nv, es, fun k k0 k1 => cd' _ _ tu.2 tv.2 (Or.inr ⟨tu.2, tv.2, exy⟩) nu nv es k k0 k1⟩
    · exact Or.inr ⟨e, hsm⟩
