/-! a family hidden in a flat TERM -/
section TM4
variable {ct ft : Int → Int} {nc nf : Int} {W : Int → Int → Int → Prop} {r st who fl en A off : Int}
theorem lz_En.size {σx σm : az_Hp} (h : lz_En ct ft nc nf W r st who fl en A off σx σm) {d : Nat} {i : Int} (hi : st ≤ i) (hie : i + d ≤ en) (hS : bz_Sc (bz_ra σx r) d 1 i) : fz_X11_sizeAt 2000000 σm 804 A (off + i) = some (d : Int) := by
  have h0 := h
  obtain ⟨h1, h2, h3, h4, h5, h6, h7, ⟨s0, s1, s2, s3, s4, s5⟩, h9, h10, h11⟩ := h
  have h60 := @bz_cap60 r
  have := h7.2.2.1
  refine bz_sizeAt h2 h3 s4 (by omega) (by omega) (by omega) (fun q q0 q1 => ?_) (hS.shift (fun j j0 j1 => ?_))
  · have e : q = off + (q - off) := by omega
    obtain ⟨t1, t2, t3, t4⟩ := h0.tk (j := q - off) (by omega) (by omega)
    have cm := (h9 (q - off) (by omega) (by omega)).mc h4
    rw [← e] at cm t3
    rw [t3]
    exact ⟨cm, bz_ar_rng⟩
  · obtain ⟨t1, t2, t3, t4⟩ := h0.tk (j := i + j) (by omega) (by omega)
    unfold bz_ra bz_ma
    rw [show off + i + j = off + (i + j) by omega, t3]
theorem lz_termHid {d : Nat} {σx σm : az_Hp} {c D dep v6 i : Int} (hEn : lz_En ct ft nc nf W r st who fl en A off σx σm) (hSt : lz_St ct ft nc nf W r st en who fl off d σx σm c) (hFR : lz_FR σx c dep D) (hi : st < i) (hie : i + d ≤ en) (hSc : bz_Sc (bz_ra σx r) d 1 i) (hf1 : fl = 1) (hfam : 200 ≤ σm.2 A (off + i) ∧ σm.2 A (off + i) < 1000) (hra : σm.2 804 52 = off + i) :
    ∃ (m : Nat) (σx' σm' : az_Hp) (c' ρ dep' : Int), m ≤ d ∧ (∀ K : Nat, fz_X0_lay_16 2000000 (K + m) σx 231 r st who fl en v6 dep i = fz_X0_lay_16 2000000 K σx' 231 r st who fl en (if 0 < D then v6 else ρ) dep' (i + d)) ∧ (∀ Dm : Nat, d ≤ Dm → fz_X11_builds 2000000 Dm σm 804 A who fl = some (ρ, σm')) ∧
      lz_Ps ct ft nc nf W r st en who fl off d σx σm σx' σm' c c' ∧ (D ≤ dep' ∧ dep' ≤ D + d ∧ ∀ j, D ≤ j → j < dep' → dz_In c' (σx'.2 240 j) ∧ bz_ar (σx'.2 232 (σx'.2 240 j)) ≤ σx'.2 241 j) ∧ (∀ j, 0 ≤ j → j < D → σx'.2 240 j = σx.2 240 j) ∧ (∀ j, 0 ≤ j → j < D - 1 → σx'.2 241 j = σx.2 241 j) ∧
      dz_In c' ρ ∧ (lz_rc σx' σm' c c' (fun x => x = ρ) ∧ (ez_iX (σx'.2 232 ρ) ∨ c ≤ ρ)) ∧ (0 < D → σx'.2 241 (D - 1) = σx.2 241 (D - 1) + 1 ∧ σx'.2 238 (3 * σx.2 240 (D - 1) + σx.2 241 (D - 1)) = ρ) ∧
      (∀ x, 0 ≤ x → x < 3 * c → (0 < D → x ≠ 3 * σx.2 240 (D - 1) + σx.2 241 (D - 1)) → σx'.2 238 x = σx.2 238 x) ∧ (∀ x, 0 ≤ x → x < 3 * c → σm'.2 824 x = σm.2 824 x) ∧ σm'.2 804 52 = off + i + d := by
  have hEn0 := hEn
  have dp := hSc.pos (by omega)
  obtain ⟨t1, t2, t3, t4⟩ := hEn.tk (j := i) (by omega) (by omega)
  obtain ⟨hFx, hFm, hsd, htb, hct, hft, hrw, ⟨s0, s1, s2, s3, s4, s5⟩, hcr, ⟨hVV, hW9⟩, hfl⟩ := hEn
  have hcri := hcr i (by omega) (by omega)
  obtain ⟨hLS, hFL, hc120⟩ := hSt
  have hLI := hLS.I htb
  have hLS0 := hLS
  obtain ⟨⟨e231, e49, c0, c1⟩, lnd, ⟨b0, b1⟩, lvd, linc, lall⟩ := hLS
  obtain ⟨hFl, f64⟩ := hFL hf1
  have hFl0 := hFl
  obtain ⟨⟨fb0, fb1⟩, fvd, finc, fall⟩ := hFl
  have h60 := @bz_cap60 r
  have hcapr := hrw.2.2.1
  have hkd : bz_kd (σx.2 (r + 1) i) = 2 := by
    rw [hcri.kd htb, if_neg (by omega), if_pos (by omega)]
  have head := fun K => (lz_head (n := 2000000) (who := who) (st := st) (en := en) (fl := fl) (v6 := v6) (dep := dep) (k := K) hFx hrw (by omega) (by omega : i < σx.2 r 1) (by omega) hfl rfl).1 ⟨hf1, hi, hkd⟩
  -- what the two comparisons say of a flat one
  have cmp : ∀ q, 0 ≤ q → q < σm.2 804 51 → ∃ cond : Prop, (fz_X7_samePart 2000000 σx r (σx.2 234 (σm.2 832 q)) r i = some 1 ↔ cond) ∧ (¬ cond → fz_X7_samePart 2000000 σx r (σx.2 234 (σm.2 832 q)) r i = some 0) ∧ ((σm.2 831 q = d ∧ fz_X11_isSame 2000000 σm A (off + i) A (σm.2 830 q) d = some 1) ↔ cond) ∧ (σm.2 831 q = d → ¬ cond → fz_X11_isSame 2000000 σm A (off + i) A (σm.2 830 q) d = some 0) := by
    intro q q0 q1
    obtain ⟨x1, x2, x3, x4, x5, dq, x6, x7, x8⟩ := fvd q q0 q1
    have sp := bz_samePart hFx hrw hrw (d := dq) (i := σx.2 234 (σm.2 832 q)) (j := i) (by omega) (by omega) (by omega) (by omega) x8
    refine ⟨∀ p : Nat, p < dq → i + p < σx.2 r 1 ∧ σx.2 (r + 1) (σx.2 234 (σm.2 832 q) + p) = σx.2 (r + 1) (i + p), ?_, ?_, ?_, ?_⟩
    · rw [sp]
      constructor
      · intro h
        by_cases hc : ∀ p : Nat, p < dq → i + p < σx.2 r 1 ∧ σx.2 (r + 1) (σx.2 234 (σm.2 832 q) + p) = σx.2 (r + 1) (i + p)
        · exact hc
        · rw [if_neg hc] at h; simp at h
      · intro h; rw [if_pos h]
    · intro h; rw [sp, if_neg h]
    · have is := bz_isSame (σ := σm) (A := A) (B := A) (i := off + i) (j := σm.2 830 q) s4 s4 (d := d) (by omega) (by omega) (by omega) 
      constructor
      · rintro ⟨e1, e2⟩
        have edq : dq = d := by omega
        rw [is (by omega) (by omega)] at e2
        have hall : ∀ p : Nat, p < d → σm.2 A (off + i + p) = σm.2 A (σm.2 830 q + p) := by
          by_cases hc : ∀ p : Nat, p < d → σm.2 A (off + i + p) = σm.2 A (σm.2 830 q + p)
          · exact hc
          · rw [if_neg hc] at e2; simp at e2
        intro p hp
        refine ⟨by omega, ?_⟩
        have k1 := hcr (σx.2 234 (σm.2 832 q) + p) (by omega) (by omega)
        have k2 := hcr (i + p) (by omega) (by omega)
        refine (k1.inj k2 htb hVV).mpr ?_
        have := hall p (by omega)
        rw [x4] at this
        rw [show off + (σx.2 234 (σm.2 832 q) + p) = off + σx.2 234 (σm.2 832 q) + p by omega, show off + (i + p) = off + i + p by omega]
        exact this.symm
      · intro h
        have sc2 : bz_Sc (bz_ra σx r) dq 1 i := x8.shift (fun j j0 j1 => by
          unfold bz_ra
          have := (h j.toNat (by omega)).2
          rw [show ((j.toNat : Nat) : Int) = j by omega] at this
          rw [this])
        have edq : dq = d := sc2.det hSc
        refine ⟨by omega, ?_⟩
        rw [is (by omega) (by omega), if_pos]
        intro p hp
        have k1 := hcr (σx.2 234 (σm.2 832 q) + p) (by omega) (by omega)
        have k2 := hcr (i + p) (by omega) (by omega)
        have := (k1.inj k2 htb hVV).mp (h p (by omega)).2
        rw [x4, show off + σx.2 234 (σm.2 832 q) + p = off + (σx.2 234 (σm.2 832 q) + p) by omega, show off + i + p = off + (i + p) by omega]
        exact this.symm
    · intro e1 hn
      have is := bz_isSame (σ := σm) (A := A) (B := A) (i := off + i) (j := σm.2 830 q) s4 s4 (d := d) (by omega) (by omega) (by omega)
      rw [is (by omega) (by omega), if_neg]
      intro hall
      apply hn
      intro p hp
      refine ⟨by omega, ?_⟩
      have k1 := hcr (σx.2 234 (σm.2 832 q) + p) (by omega) (by omega)
      have k2 := hcr (i + p) (by omega) (by omega)
      refine (k1.inj k2 htb hVV).mpr ?_
      have := hall p (by omega)
      rw [x4] at this
      rw [show off + (σx.2 234 (σm.2 832 q) + p) = off + σx.2 234 (σm.2 832 q) + p by omega, show off + (i + p) = off + i + p by omega]
      exact this.symm
  have mx : ∀ q, 0 ≤ q → q < σm.2 804 51 → ((σm.2 831 q = d ∧ fz_X11_isSame 2000000 σm A (off + i) A (σm.2 830 q) d = some 1) ↔ (σx.2 233 (σm.2 832 q) = who ∧ σx.2 232 (σm.2 832 q) = lz_hid ∧ fz_X7_samePart 2000000 σx r (σx.2 234 (σm.2 832 q)) r i = some 1)) := by
    intro q q0 q1
    obtain ⟨x1, x2, x3, -⟩ := fvd q q0 q1
    obtain ⟨cond, y1, y2, y3, y4⟩ := cmp q q0 q1
    rw [y3, y1]
    exact ⟨fun h => ⟨x2, x3, h⟩, fun h => h.2.2⟩
  have mn : ∀ n, dz_In c n → (σx.2 233 n = who ∧ σx.2 232 n = lz_hid ∧ fz_X7_samePart 2000000 σx r (σx.2 234 n) r i = some 1) → ∃ q, 0 ≤ q ∧ q < σm.2 804 51 ∧ σm.2 832 q = n ∧ (σm.2 831 q = d ∧ fz_X11_isSame 2000000 σm A (off + i) A (σm.2 830 q) d = some 1) := by
    intro n hn h
    obtain ⟨q, q0, q1, q2⟩ := fall n hn h.2.1 h.1
    refine ⟨q, q0, q1, q2, (mx q q0 q1).mpr ?_⟩
    rw [q2]
    exact h
  -- the reference
  have szm := hEn0.size (by omega) hie hSc
  have vl := lz_flatL (σ := σm) (A := A) (at' := off + i) (d0 := d) (M := fun q => σm.2 831 q = d ∧ fz_X11_isSame 2000000 σm A (off + i) A (σm.2 830 q) d = some 1) hFm (by omega) (by omega) fb0 (by omega) (fun q q0 q1 => ⟨fun h => h, fun hn e => by
      obtain ⟨cond, y1, y2, y3, y4⟩ := cmp q q0 q1
      exact y4 e (fun hc => hn (y3.mpr hc))⟩) (σm.2 804 51).toNat 2000000 0 (by omega) (by omega) (by omega) (fun q q0 q1 => by omega)
  have bldE : ∀ (Dm : Nat) (ρ : Int) (σ' : az_Hp), fz_X11_flatNodeAt_10 2000000 2000000 σm 804 A (off + i) d 0 = some (ρ, σ') → bz_Upd σm σ' lz_T → σ'.2 804 52 = off + i → 1 ≤ Dm → fz_X11_builds 2000000 Dm σm 804 A who fl = some (ρ, az_wr σ' 804 52 (off + i + d)) := by
    intro Dm ρ σ' h1 h2 h3 hDm
    obtain ⟨Dm, rfl⟩ : ∃ k', Dm = k' + 1 := ⟨Dm - 1, by omega⟩
    have sz2 := (hEn0.upd (bz_Upd.refl) h2).size (by omega) hie hSc
    unfold fz_X11_builds fz_X11_builds_e fz_X11_flatNodeAt
    rw [hra, t1, Option.bind_some, if_neg (by omega)]
    unfold fz_X11_isFam
    rw [if_neg (by omega), if_pos (by omega), Option.bind_some, if_neg (by decide), szm, Option.bind_some, h1, Option.bind_some]
    simp only [h3, sz2, Option.bind_some]
    rw [az_w32_id (by omega) (by omega)]
  -- the class
  have hid : lz_hid = -1000000000 := rfl
  have sr := fun K => lz_srch (n := 2000000) (k16 := fz_X0_lay_16 2000000 K) (r := r) (st := st) (who := who) (fl := fl) (en := en) (v6 := v6) (dep := dep) (i := i) (code := σx.2 (r + 1) i) (hide := 1) (sign := lz_hid) (M := fun n => σx.2 233 n = who ∧ σx.2 232 n = lz_hid ∧ fz_X7_samePart 2000000 σx r (σx.2 234 n) r i = some 1) hFx rfl (Or.inr rfl) (by omega) (by omega) (fun n hn => ⟨fun h => ⟨h.1, h.2.1, fun _ => h.2.2⟩, fun h e1 e2 => by
      rw [e231] at hn
      obtain ⟨q, q0, q1, q2⟩ := fall n hn e2 e1
      obtain ⟨cond, y1, y2, y3, y4⟩ := cmp q q0 q1
      rw [q2] at y1 y2
      exact ⟨rfl, y2 (fun hc => h ⟨e1, e2, y1.mpr hc⟩)⟩⟩) c.toNat 2000000 0 (by omega) (by omega) (by omega) (fun n n0 n1 => by omega)
  rw [e231] at sr
  by_cases hex : ∃ n, dz_In c n ∧ (σx.2 233 n = who ∧ σx.2 232 n = lz_hid ∧ fz_X7_samePart 2000000 σx r (σx.2 234 n) r i = some 1)
  · obtain ⟨n, hn, hn1⟩ := hex
    obtain ⟨q', q0', q1', q2', q3'⟩ := mn n hn hn1
    rcases vl with ⟨q, q0, q1, q2, q3, q4⟩ | ⟨vno, -⟩
    · have run : ∀ K : Nat, fz_X0_lay_16 2000000 (K + 1) σx 231 r st who fl en v6 dep i = fz_X0_lay_16 2000000 K (lz_att σx D (σm.2 832 q)) 231 r st who fl en (if 0 < D then v6 else σm.2 832 q) D (i + d) := by
        intro K
        rw [head K, ← hid]
        rcases sr K with ⟨-, hno⟩ | ⟨ν, ν1, ν2, ν3, ν4⟩
        · exact absurd hn1 (hno n hn)
        · have eν : ν = σm.2 832 q := by
            obtain ⟨p, p0, p1, p2, p3⟩ := mn ν ν1 ν2
            have hq := (mx q q0 q1).mp q2
            have l1 : ¬ σm.2 832 q < ν := fun h => ν3 _ (fvd q q0 q1).1.1 h hq
            have l2 : ¬ p < q := fun h => q3 p p0 h p3
            by_cases e : p = q
            · rw [← e]; exact p2.symm
            · have := finc q p q0 (by omega) p1
              omega
          rw [ν4, lz_old ν1.1 (by have := hFR.1; have := hFR.2.1; omega) hFR.2.2.1, lz_goH hFx c1 hLI hFR hrw (by omega) (by omega) dp (by omega) hSc, eν]
      have um : bz_Upd σm (az_wr σm 804 52 (off + i + d)) lz_T := lz_Tw bz_Upd.refl (by unfold lz_T; omega)
      have em : ∀ b k, ¬ (b = 804 ∧ k = 52) → (az_wr σm 804 52 (off + i + d)).2 b k = σm.2 b k := fun b k h => az_wr_ne h
      refine lz_leaf hEn0 hFR dp bz_Upd.refl (fun n _ => ⟨rfl, rfl, rfl, rfl⟩) (fun _ => rfl) (fun _ => rfl) (fun _ => rfl) um (fun n _ => ⟨em _ _ (by omega), em _ _ (by omega)⟩) (fun x => em _ _ (by omega)) (hLS0.cong rfl (em _ _ (by omega)) (em _ _ (by omega)) (fun n => ⟨rfl, rfl⟩) (fun n => ⟨em _ _ (by omega), em _ _ (by omega), em _ _ (by omega), em _ _ (by omega)⟩)) (fun f => ?_) (fun f => by omega) (Int.le_refl c) (by omega) c0 (fvd q q0 q1).1 (Or.inl (by rw [(fvd q q0 q1).2.2.1]; unfold ez_iX lz_hid; omega)) (fun h => by omega) az_wr_same run (fun Dm hDm => bldE Dm _ _ q4 bz_Upd.refl hra (by omega))
      refine ⟨hFl0.cong hrw.1 bz_Upd.refl (Int.le_refl _) (em _ _ (by omega)) (fun n _ => ⟨rfl, rfl, rfl⟩) (fun n => ⟨em _ _ (by omega), em _ _ (by omega), em _ _ (by omega)⟩) (fun n n0 n1 => by omega), ?_⟩
      rw [em _ _ (by omega)]
      omega
    · exact absurd q3' (vno q' q0' q1')
  · have hno : ∀ n, dz_In c n → ¬ (σx.2 233 n = who ∧ σx.2 232 n = lz_hid ∧ fz_X7_samePart 2000000 σx r (σx.2 234 n) r i = some 1) := fun n hn h => hex ⟨n, hn, h⟩
    rcases vl with ⟨q, q0, q1, q2, q3, q4⟩ | ⟨vno, vnew⟩
    · exact absurd ((mx q q0 q1).mp q2) (hno _ (fvd q q0 q1).1)
    · obtain ⟨n1, n2, n3, n4, n5, n6, n7⟩ := lz_new_at (σ := σx) (who := who) (i := i) (s := lz_hid)
      have FRn := lz_FR.new (σ := σx) (who := who) (i := i) (s := lz_hid) (dep := dep) (D := D) (by rw [e231]; exact hFR)
      have uN := lz_new_upd (σ := σx) (who := who) (i := i) (sign := lz_hid)
      rw [e231] at n1 n2 n3 n4 n5 n6 FRn
      have uV := lz_fnew_upd (σ := σm) (a := off + i) (d := d)
      have uV2 : bz_Upd σm (az_wr (lz_fnew σm (off + i) d) 804 52 (off + i + d)) lz_T := lz_Tw uV (by unfold lz_T; omega)
      have vv : lz_fnew σm (off + i) d = az_wr (az_wr (az_wr (az_wr (az_wr (az_wr (az_wr σm 830 (σm.2 804 51) (off + i)) 831 (σm.2 804 51) d) 823 c 1000) 825 c c) 804 49 (c + 1)) 832 (σm.2 804 51) c) 804 51 (σm.2 804 51 + 1) := by
        unfold lz_fnew
        rw [e49]
      have hra2 : (lz_fnew σm (off + i) d).2 804 52 = off + i := by
        rw [vv, az_wr_ne (by omega), az_wr_ne (by omega), az_wr_ne (by omega), az_wr_ne (by omega), az_wr_ne (by omega), az_wr_ne (by omega), az_wr_ne (by omega)]
        exact hra
      obtain ⟨w1, w2⟩ := lz_rowS hrw.1 uN
      have run : ∀ K : Nat, fz_X0_lay_16 2000000 (K + 1) σx 231 r st who fl en v6 dep i = fz_X0_lay_16 2000000 K (lz_att (lz_new σx who i lz_hid) D c) 231 r st who fl en (if 0 < D then v6 else c) D (i + d) := by
        intro K
        rw [head K, ← hid]
        rcases sr K with ⟨f1, -⟩ | ⟨ν, ν1, ν2, ν3, ν4⟩
        · rw [f1, lz_alloc hFx (by omega) (by omega) (by have := hFR.1; have := hFR.2.1; omega) hFR.2.2.1, e231, lz_goH (c := c + 1) (d := d) (hFx.upd uN) (by omega) (fun q hq => ?_) FRn (by unfold bz_rw at hrw ⊢; simp only [w1, w2]; exact hrw) (by omega) (by omega) dp (by rw [w1]; omega) (by rw [lz_raS hrw.1 uN]; exact hSc)]
          by_cases e : q = c
          · rw [e, n2]; unfold bz_I lz_hid; omega
          · have hq' : dz_In c q := ⟨hq.1, by have := hq.2; omega⟩
            rw [(n6 q hq').1]
            exact hLI q hq'
        · exact absurd ν2 (hno ν ν1)
      have hhx : ez_iX lz_hid := by unfold ez_iX lz_hid; omega
      refine lz_leaf (c1 := c + 1) (ν := c) (σ1 := lz_new σx who i lz_hid) (σm1 := az_wr (lz_fnew σm (off + i) d) 804 52 (off + i + d)) hEn0 hFR dp uN (fun n hn => n6 n hn) (fun x => n7 _ _ (by omega)) (fun x => n7 _ _ (by omega)) (fun x => n7 _ _ (by omega)) uV2 (fun n hn => ?_) (fun x => ?_) ?_ (fun f => ?_) (fun f => by omega) (by omega) (by omega) c0 ⟨c0, by omega⟩ (Or.inr (Int.le_refl c)) (fun _ => ⟨rfl, n5, ?_, Or.inl (by rw [n2]; exact hhx), n3⟩) az_wr_same run (fun Dm hDm => ?_)
      · have := hn.2
        rw [vv]
        constructor
        · rw [az_wr_ne (by omega), az_wr_ne (by omega), az_wr_ne (by omega), az_wr_ne (by omega), az_wr_ne (by omega), az_wr_ne (by omega), az_wr_ne (by omega), az_wr_ne (by omega)]
        · rw [az_wr_ne (by omega), az_wr_ne (by omega), az_wr_ne (by omega), az_wr_ne (by omega), az_wr_ne (by omega), az_wr_ne (by omega), az_wr_ne (by omega), az_wr_ne (by omega)]
      · rw [vv, az_wr_ne (by omega), az_wr_ne (by omega), az_wr_ne (by omega), az_wr_ne (by omega), az_wr_ne (by omega), az_wr_ne (by omega), az_wr_ne (by omega), az_wr_ne (by omega)]
      · refine hLS0.grow (by omega) n1 ?_ (fun n hn => ⟨(n6 n hn).1, (n6 n hn).2.1⟩) (fun n hn => ?_) ?_ (fun k k0 k1 => ?_) (Or.inl ⟨?_, ?_⟩)
        · rw [vv, az_wr_ne (by omega), az_wr_ne (by omega), az_wr_ne (by omega), az_wr_same]
        · have := hn.2
          rw [vv, az_wr_ne (by omega), az_wr_ne (by omega), az_wr_ne (by omega), az_wr_ne (by omega), az_wr_ne (by omega), az_wr_ne (by omega), az_wr_ne (by omega), az_wr_ne (by omega)]
        · rw [n2, vv, az_wr_ne (by omega), az_wr_ne (by omega), az_wr_ne (by omega), az_wr_ne (by omega), az_wr_ne (by omega), az_wr_same]
          exact Or.inl ⟨hhx, by unfold bz_I lz_hid; omega, rfl⟩
        · rw [vv]
          refine ⟨?_, ?_, ?_⟩
          · rw [az_wr_ne (by omega), az_wr_ne (by omega), az_wr_ne (by omega), az_wr_ne (by omega), az_wr_ne (by omega), az_wr_ne (by omega), az_wr_ne (by omega), az_wr_ne (by omega)]
          · rw [az_wr_ne (by omega), az_wr_ne (by omega), az_wr_ne (by omega), az_wr_ne (by omega), az_wr_ne (by omega), az_wr_ne (by omega), az_wr_ne (by omega), az_wr_ne (by omega)]
          · rw [az_wr_ne (by omega), az_wr_ne (by omega), az_wr_ne (by omega), az_wr_ne (by omega), az_wr_ne (by omega), az_wr_ne (by omega), az_wr_ne (by omega), az_wr_ne (by omega)]
        · rw [vv, az_wr_ne (by omega), az_wr_ne (by omega), az_wr_ne (by omega), az_wr_ne (by omega), az_wr_ne (by omega), az_wr_ne (by omega), az_wr_ne (by omega), az_wr_ne (by omega)]
        · intro _; exact n2
      · have e51 : (az_wr (lz_fnew σm (off + i) d) 804 52 (off + i + d)).2 804 51 = σm.2 804 51 + 1 := by rw [vv, az_wr_ne (by omega), az_wr_same]
        refine ⟨hFl0.grow (i := i) (d := d) hrw.1 uN e51 (fun n hn => ⟨(n6 n hn).1, (n6 n hn).2.1, (n6 n hn).2.2.1⟩) (fun k k0 k1 => ?_) ⟨n2, n3, n4⟩ ⟨?_, ?_, ?_⟩ (by omega) hie hSc c0, by rw [e51]; omega⟩
        · rw [vv]
          refine ⟨?_, ?_, ?_⟩
          · rw [az_wr_ne (by omega), az_wr_ne (by omega), az_wr_ne (by omega), az_wr_ne (by omega), az_wr_ne (by omega), az_wr_ne (by omega), az_wr_ne (by omega), az_wr_ne (by omega)]
          · rw [az_wr_ne (by omega), az_wr_ne (by omega), az_wr_ne (by omega), az_wr_ne (by omega), az_wr_ne (by omega), az_wr_ne (by omega), az_wr_ne (by omega), az_wr_ne (by omega)]
          · rw [az_wr_ne (by omega), az_wr_ne (by omega), az_wr_ne (by omega), az_wr_ne (by omega), az_wr_ne (by omega), az_wr_ne (by omega), az_wr_ne (by omega), az_wr_ne (by omega)]
        · rw [vv, az_wr_ne (by omega), az_wr_ne (by omega), az_wr_ne (by omega), az_wr_ne (by omega), az_wr_ne (by omega), az_wr_ne (by omega), az_wr_ne (by omega), az_wr_same]
        · rw [vv, az_wr_ne (by omega), az_wr_ne (by omega), az_wr_ne (by omega), az_wr_ne (by omega), az_wr_ne (by omega), az_wr_ne (by omega), az_wr_same]
        · rw [vv, az_wr_ne (by omega), az_wr_ne (by omega), az_wr_same]
      · rw [vv, az_wr_ne (by omega), az_wr_ne (by omega), az_wr_ne (by omega), az_wr_ne (by omega), az_wr_same]
      · have := bldE Dm _ _ vnew uV hra2 (by omega)
        rw [e49] at this
        exact this
end TM4
