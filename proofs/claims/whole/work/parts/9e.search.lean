/-! the reference's search, as a walk over a list of places -/
def sz_done (σ : az_Hp) (p : Int) : Option (Int × az_Hp) := fz_X11_doneAt 2000000 (az_wr σ 804 73 p) 804 p
def sz_srch : List Int → az_Hp → Option (Int × az_Hp)
  | [], σ => some (-1, σ)
  | p :: L, σ => (sz_done σ p).bind fun r => if r.1 = -1 then sz_srch L r.2 else some r
theorem sz_srch_app : ∀ (L1 L2 : List Int) (σ : az_Hp), sz_srch (L1 ++ L2) σ = (sz_srch L1 σ).bind fun r => if r.1 = -1 then sz_srch L2 r.2 else some r := by
  intro L1
  induction L1 with
  | nil =>
    intro L2 σ
    show sz_srch L2 σ = (some ((-1 : Int), σ)).bind fun r => if r.1 = -1 then sz_srch L2 r.2 else some r
    rw [Option.bind_some, if_pos rfl]
  | cons p L1 ih =>
    intro L2 σ
    show ((sz_done σ p).bind fun r => if r.1 = -1 then sz_srch (L1 ++ L2) r.2 else some r) = (((sz_done σ p).bind fun r => if r.1 = -1 then sz_srch L1 r.2 else some r)).bind fun r => if r.1 = -1 then sz_srch L2 r.2 else some r
    cases h : sz_done σ p with
    | none => rfl
    | some r =>
      rw [Option.bind_some, Option.bind_some]
      by_cases e : r.1 = -1
      · rw [if_pos e, if_pos e, ih]
      · rw [if_neg e, if_neg e, Option.bind_some, if_neg e]
theorem sz_PO.sc {a : Int → Int} (ha : ∀ j, 0 ≤ a j) : ∀ {f d : Nat} {c i : Int} {L : List Int}, sz_PO a f d c i L → bz_Sc a d c i := by
  intro f
  induction f with
  | zero =>
    rintro d c i L ⟨rfl, rfl, -⟩
    exact rfl
  | succ f ih =>
    intro d c i L h
    rcases h with ⟨rfl, rfl, -⟩ | ⟨c0, d1, d2, L1, L2, e, h1, h2, -⟩
    · exact rfl
    · obtain ⟨d, rfl⟩ : ∃ d', d = d' + 1 := ⟨d - 1, by omega⟩
      refine ⟨c0, ?_⟩
      have := bz_Sc.join (by omega) (ih h1) (ih h2)
      rw [show d = d1 + d2 by omega, show c - 1 + a i = a i + (c - 1) by omega]
      exact this
/-- what the search keeps -/
def sz_K (P : az_Hp → Prop) (a : Int → Int) (n : Int) : Prop :=
  (∀ σ, P σ → az_gref σ 804 68 = some 840) ∧ (∀ σ i, P σ → 0 ≤ i → i < n → ∃ x, az_ard σ 840 i = some x ∧ fz_X11_takes σ 804 x = some (a i)) ∧
  (∀ σ (d : Nat) i, P σ → 0 ≤ i → i + d ≤ n → bz_Sc a d 1 i → fz_X11_sizeAt 2000000 σ 804 840 i = some (d : Int)) ∧ ∀ σ p, P σ → 0 ≤ p → p < n → ∃ r, sz_done σ p = some r ∧ P r.2
theorem sz_srchP {P : az_Hp → Prop} {a : Int → Int} {n : Int} (hK : sz_K P a n) : ∀ (L : List Int) (σ : az_Hp), P σ → (∀ p ∈ L, 0 ≤ p ∧ p < n) → ∃ r, sz_srch L σ = some r ∧ P r.2 := by
  intro L
  induction L with
  | nil => intro σ h _; exact ⟨_, rfl, h⟩
  | cons p L ih =>
    intro σ h hp
    have q := hp p (List.mem_cons_self ..)
    obtain ⟨r, r1, r2⟩ := hK.2.2.2 σ p h q.1 q.2
    by_cases e : r.1 = -1
    · obtain ⟨r', x1, x2⟩ := ih r.2 r2 (fun t ht => hp t (List.mem_cons_of_mem _ ht))
      refine ⟨r', ?_, x2⟩
      show ((sz_done σ p).bind fun r => if r.1 = -1 then sz_srch L r.2 else some r) = some r'
      rw [r1, Option.bind_some, if_pos e, x1]
    · refine ⟨r, ?_, r2⟩
      show ((sz_done σ p).bind fun r => if r.1 = -1 then sz_srch L r.2 else some r) = some r
      rw [r1, Option.bind_some, if_neg e]
theorem sz_PO.mem {a : Int → Int} : ∀ {f d : Nat} {c i : Int} {L : List Int}, sz_PO a f d c i L → ∀ p ∈ L, i ≤ p ∧ p < i + d := by
  intro f
  induction f with
  | zero =>
    rintro d c i L ⟨rfl, rfl, rfl⟩ p hp
    cases hp
  | succ f ih =>
    intro d c i L h p hp
    rcases h with ⟨rfl, rfl, rfl⟩ | ⟨c0, d1, d2, L1, L2, e, h1, h2, rfl⟩
    · cases hp
    · rcases List.mem_append.mp hp with q | q
      · have := ih h1 p q; omega
      · rcases List.mem_cons.mp q with q | q
        · omega
        · have := ih h2 p q; omega
theorem sz_within {P : az_Hp → Prop} {a : Int → Int} {n : Int} (hK : sz_K P a n) (ha : ∀ j, 0 ≤ a j) (ha3 : ∀ j, a j ≤ 3) (n60 : n ≤ 60) : ∀ (f : Nat) {d : Nat} {c i : Int} {L : List Int}, sz_PO a f d c i L → ∀ (D k : Nat) (σ : az_Hp) (o t : Int), f ≤ D → c < k → P σ → 0 ≤ o → o < n → 0 ≤ t → a o = t + c → 0 ≤ i → i + d ≤ n → fz_X11_firstWithin_6 2000000 (fz_X11_firstWithin 2000000 D) k σ 804 o i t = sz_srch (L ++ [o]) σ := by
  have zero : ∀ (D k : Nat) (σ : az_Hp) (o i t : Int), 0 < k → P σ → 0 ≤ o → o < n → a o = t → fz_X11_firstWithin_6 2000000 (fz_X11_firstWithin 2000000 D) k σ 804 o i t = sz_srch [o] σ := by
    intro D k σ o i t hk hP o0 o1 ht
    obtain ⟨k, rfl⟩ : ∃ k', k = k' + 1 := ⟨k - 1, by omega⟩
    obtain ⟨x, x1, x2⟩ := hK.2.1 σ o hP o0 o1
    show _ = ((sz_done σ o).bind fun r => if r.1 = -1 then some (-1, r.2) else some r)
    unfold fz_X11_firstWithin_6
    rw [hK.1 σ hP, Option.bind_some, x1, Option.bind_some, x2, Option.bind_some, if_neg (by omega)]
    show ((sz_done σ o).bind fun r4 => some (r4.1, r4.2)) = _
    obtain ⟨r, r1, r2⟩ := hK.2.2.2 σ o hP o0 o1
    rw [r1, Option.bind_some, Option.bind_some]
    by_cases e : r.1 = -1
    · rw [if_pos e, e]
    · rw [if_neg e]
  intro f
  induction f with
  | zero =>
    rintro d c i L ⟨rfl, rfl, rfl⟩ D k σ o t hD hk hP o0 o1 t0 ht i0 hd
    exact zero D k σ o i t (by omega) hP o0 o1 (by omega)
  | succ f ih =>
    intro d c i L h D k σ o t hD hk hP o0 o1 t0 ht i0 hd
    have h' := h
    rcases h with ⟨rfl, rfl, rfl⟩ | ⟨c0, d1, d2, L1, L2, e, h1, h2, rfl⟩
    · exact zero D k σ o i t (by omega) hP o0 o1 (by omega)
    · obtain ⟨k, rfl⟩ : ∃ k', k = k' + 1 := ⟨k - 1, by omega⟩
      obtain ⟨D', hD'⟩ : ∃ D', D = D' + 1 := ⟨D - 1, by omega⟩
      obtain ⟨x, x1, x2⟩ := hK.2.1 σ o hP o0 o1
      have ai := ha3 i
      have ao := ha3 o
      have hrec : fz_X11_firstWithin 2000000 D σ 804 i = sz_srch (L1 ++ [i]) σ := by
        rw [hD']
        show fz_X11_firstWithin_6 2000000 (fz_X11_firstWithin 2000000 D') 2000000 σ 804 i (az_w32 (i + 1)) 0 = _
        rw [az_w32_id (by omega) (by omega)]
        exact ih h1 D' 2000000 σ i 0 (by omega) (by omega) hP i0 (by omega) (by omega) (by omega) (by omega) (by omega)
      have mem1 := sz_PO.mem h1
      obtain ⟨r, r1, r2⟩ := sz_srchP hK (L1 ++ [i]) σ hP (fun p hp => by
        rcases List.mem_append.mp hp with q | q
        · have := mem1 p q; omega
        · have := List.mem_singleton.mp q; omega)
      rw [show L1 ++ i :: L2 ++ [o] = (L1 ++ [i]) ++ (L2 ++ [o]) by simp, sz_srch_app, r1, Option.bind_some]
      conv => lhs; unfold fz_X11_firstWithin_6
      rw [hK.1 σ hP, Option.bind_some, x1, Option.bind_some, x2, Option.bind_some, if_pos (by omega), hrec, r1, Option.bind_some]
      by_cases em : r.1 = -1
      · have scz : bz_Sc a (d1 + 1) 1 i := by
          refine ⟨by omega, ?_⟩
          rw [show (1 : Int) - 1 + a i = a i by omega]
          exact sz_PO.sc ha h1
        have size := hK.2.2.1 r.2 (d1 + 1) i r2 i0 (by omega) scz
        rw [if_pos em, if_pos em, hK.1 r.2 r2, Option.bind_some, size, Option.bind_some, az_w32_id (by omega) (by omega), az_w32_id (z := t + 1) (by omega) (by omega), show i + ((d1 + 1 : Nat) : Int) = i + 1 + d1 by omega]
        exact ih h2 D k r.2 o (t + 1) (by omega) (by omega) r2 o0 o1 (by omega) (by omega) (by omega) (by omega)
      · rw [if_neg em, if_neg em]
