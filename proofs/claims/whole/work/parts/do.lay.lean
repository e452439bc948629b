-- ends: the class lays a right side behind the joined left sides
theorem en_lay {σm n2 x5 : az_Hp} {T s e who c1 a b : Int} {up0 : Int → Int} {ρ : Int → Nat} (H : mz_H x5 n2 T s) (tS : bz_tS σm n2) (hT : T = 3 ∨ T = 82) (e0 : 0 ≤ e) (e1 : e < x5.2 T 2) (L : mz_L σm T s x5 n2 c1) (hc : c1 ≤ 32) (Ix : dz_Inv (lz_g n2 c1) (dz_Cl (lz_g n2 c1) a b) a b up0 (fun _ _ => False)) (ag : ∀ n, dz_In c1 n → x5.2 235 n = up0 n) (NC : dz_NC (lz_g n2 c1) a b) (B : bd_Gr (lz_g n2 c1) a b up0 ρ) (nab : ¬ dz_iv (lz_g n2 c1) a ∧ ¬ dz_iv (lz_g n2 c1) b) (hS : tr_St n2 c1) (hV : tr_V n2 n2 T e who) :
    ∃ (x6 n3 : az_Hp) (c3 r : Int) (ρ3 : Int → Nat), fz_X0_lay 2000000 x5 231 (T + 17 + 4 * e) 0 who 0 = some (r, x6) ∧ fz_X11_rightNode 2000000 n2 804 e who 0 = some (r, n3) ∧ bz_Upd x5 x6 lz_S ∧ bz_Upd n2 n3 lz_T ∧ (c1 ≤ c3 ∧ c3 ≤ 60) ∧ dz_In c3 r ∧ n3.2 804 49 = c3 ∧ en_G (lz_g n2 c1) (lz_g n3 c3) a b up0 (x6.2 235) ρ3 ∧ ez_X x6 (lz_g n3 c3) ∧
      (∀ n, dz_In c3 n → ¬ ez_iX (x6.2 232 n) → n3.2 823 n < 1000 ∧ bz_cr (bz_ct σm s) (bz_ft σm s) (σm.2 T 0) (σm.2 T 1) (fun _ _ => False) (x6.2 232 n) (n3.2 823 n)) ∧ (∀ x, c1 ≤ x → x < c3 → n3.2 823 x < 1000) ∧ ∀ U, tr_ru U n3 c1 c3 → U r ≤ 96228 := by
  obtain ⟨ok1, -, -, -⟩ := mz_graph H tS hT L
  obtain ⟨x6, n3, c3, r, lx, ln, u6, w3, L6, b6, G6⟩ := mz_layR (who := who) H tS hT e0 e1 L (by omega)
  obtain ⟨n3', c3', r', t1, ⟨-, -, t2, -⟩, t3, t4, -, t5, -⟩ := tr_right (who := who) H bz_Upd.refl e0 e1 hS (by omega)
  have d := sy_det ln t1
  obtain ⟨rfl, rfl⟩ : r = r' ∧ n3 = n3' := by
    rw [Prod.mk.injEq] at d
    exact d
  have c49 : n3.2 804 49 = c3 := L6.1.1.2.1
  have ec : c3' = c3 := by rw [← c49]; exact t2.1.symm
  subst ec
  obtain ⟨g6a, g6b, g6c, g6d, g6e, g6f⟩ := G6
  have H6 := H.upd (u6.weak fun _ _ q => mz_SJ q) (w3.weak fun _ _ q => mz_SM q) (fun _ _ q => q) (fun _ _ q => q)
  have tS6 : bz_tS σm n3 := tS.trans (fun a k q => w3.2.2 a k (fun c => by unfold lz_T at c; omega))
  obtain ⟨ok3, X3, M3, ord3⟩ := mz_graph H6 tS6 hT L6
  have ext : dz_X (lz_g n2 c1) (lz_g n3 c3') := mz_ext g6f ok1 (w3.2.2 804 15 (by unfold lz_T; omega)) (fun n hn => (g6a n hn).2.2.1) (fun x x0 x1 => (g6b x x0 x1).2) (fun k => w3.2.2 811 k (by unfold lz_T; omega)) (fun k => w3.2.2 812 k (by unfold lz_T; omega))
  have agx : ∀ n, dz_In (dz_N (lz_g n2 c1)) n → x6.2 235 n = up0 n := fun n hn => by rw [(g6a n hn).2.1]; exact ag n hn
  have idx : ∀ n, dz_N (lz_g n2 c1) ≤ n → n < dz_N (lz_g n3 c3') → x6.2 235 n = n := fun n n0 n1 => (g6c n n0 n1).1
  obtain ⟨ea1, ea2, ea3, ea4, ea5⟩ := dz_ext ok1 ok3 ext Ix agx idx
  obtain ⟨ρ3, rk3, rkb⟩ := dz_extRK ok1 ok3 ext Ix agx idx NC ord3
  refine ⟨x6, n3, c3', r, ρ3, lx, ln, u6, w3, ⟨g6f, by omega⟩, t3, c49, ⟨⟨ρ, B⟩, nab, ⟨ok3, ea1, ea2, ea3, rk3, fun x _ => by have := rkb x; omega⟩, rkb, ext, ea5⟩, X3, fun n hn hx => ?_, t5 hV, t4⟩
  rcases L6.1.2.1 n hn with ⟨q, -, -⟩ | ⟨-, q1, q2⟩
  · exact absurd q hx
  · exact ⟨q1, q2⟩
