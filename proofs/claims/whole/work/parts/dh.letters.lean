-- ends: the VARIABLES in the order in which they first stand; the reference's table
def lv_A (h : Int → List Int) (kd : Int → Int) : Nat → Int → List Int
  | 0, _ => []
  | r + 1, k => h (kd k) ++ lv_A h kd r (k + 1)
theorem lv_A_congr {h h' : Int → List Int} {kd kd' : Int → Int} : ∀ (r : Nat) (k : Int), (∀ j, k ≤ j → j < k + r → h (kd j) = h' (kd' j)) → lv_A h kd r k = lv_A h' kd' r k := by
  intro r
  induction r with
  | zero => intro k _; rfl
  | succ r ih =>
    intro k e
    show h (kd k) ++ lv_A h kd r (k + 1) = h' (kd' k) ++ lv_A h' kd' r (k + 1)
    rw [e k (Int.le_refl _) (by push_cast; omega), ih (k + 1) (fun j j0 j1 => e j (by omega) (by push_cast; omega))]
noncomputable def lv_S (g : dz_G) (up : Int → Int) (z : Int) (h : Int → List Int) : List Int := @ite _ (dz_iv g z) (Classical.propDecidable _) [z] (lv_A h (fun k => dz_tp up (dz_kd g z k)) (dz_ar g z).toNat 0)
noncomputable def lv_W (g : dz_G) (up : Int → Int) (x : Int) : List Int := bd_rec (lv_S g up) [] 200 (dz_tp up x)
section LV
variable {g : dz_G} {up : Int → Int} {ρ : Int → Nat}
theorem lv_eq (h : ew_Gr g up ρ) {z : Int} (hz : bd_Tp g up z) : lv_W g up z = lv_S g up z (fun y => bd_rec (lv_S g up) [] 200 y) := by
  unfold lv_W
  rw [hz.2]
  refine bd_rec_eq2 (step := lv_S g up) (T := bd_Tp g up) (ks := bd_ks g up) (ρ := ρ) (fun z h h' e => ?_) h.hk hz (h.2.2.2.2.2 z hz.1)
  unfold lv_S
  by_cases v : dz_iv g z
  · rw [if_pos v, if_pos v]
  · rw [if_neg v, if_neg v]
    exact lv_A_congr _ _ (fun j j0 j1 => e _ (bd_ks_mem.mpr ⟨v, j, j0, by omega, rfl⟩))
theorem lv_tp (h : ew_Gr g up ρ) {x : Int} (hx : dz_In (dz_N g) x) : lv_W g up (dz_tp up x) = lv_W g up x := by
  unfold lv_W
  rw [h.2.1.tt hx]
theorem lv_var (h : ew_Gr g up ρ) {x : Int} (hx : dz_In (dz_N g) x) (v : dz_iv g (dz_tp up x)) : lv_W g up x = [dz_tp up x] := by
  rw [← lv_tp h hx, lv_eq h ⟨(h.2.1.top hx).2, h.2.1.tt hx⟩]
  unfold lv_S
  rw [if_pos v]
theorem lv_con (h : ew_Gr g up ρ) {x : Int} (hx : dz_In (dz_N g) x) (v : ¬ dz_iv g x) : lv_W g up x = lv_A (lv_W g up) (fun k => dz_kd g x k) (dz_ar g x).toNat 0 := by
  have n := h.2.2.1 x hx v
  have t := h.2.1.top hx
  have ea := h.1.2.2.2 x (dz_tp up x) hx t.2 v n.1 n.2.symm
  rw [← lv_tp h hx, lv_eq h ⟨t.2, h.2.1.tt hx⟩]
  unfold lv_S
  rw [if_neg n.1, ea]
  refine lv_A_congr _ _ (fun j j0 j1 => ?_)
  show bd_rec (lv_S g up) [] 200 (dz_tp up (dz_kd g (dz_tp up x) j)) = bd_rec (lv_S g up) [] 200 (dz_tp up (dz_kd g x j))
  have ar0 := (h.1.2.2.1 x hx v).1
  rw [(ew_tpk h hx v j0 (by omega)).2.2.2]
/-- ranks of kids, through tops -/
theorem lv_rk (h : ew_Gr g up ρ) {x k : Int} (hx : dz_In (dz_N g) x) (v : ¬ dz_iv g x) (k0 : 0 ≤ k) (k1 : k < dz_ar g x) : dz_In (dz_N g) (dz_kd g x k) ∧ ρ (dz_tp up (dz_kd g x k)) < ρ (dz_tp up x) := by
  have w := ew_tpk h hx v k0 k1
  refine ⟨(h.1.2.2.1 x hx v).2.2 k k0 k1, ?_⟩
  rw [← w.2.2.2]
  exact h.2.2.2.2.1 _ w.1 (h.2.1.top hx).1 w.2.1 k k0 (by rw [w.2.2.1]; exact k1)
end LV
def lv_ad : List Int → List Int → List Int
  | tb, [] => tb
  | tb, x :: l => lv_ad (if x ∈ tb then tb else tb ++ [x]) l
theorem lv_ad_app : ∀ (l l' tb : List Int), lv_ad tb (l ++ l') = lv_ad (lv_ad tb l) l' := by
  intro l
  induction l with
  | nil => intro l' tb; rfl
  | cons x l ih => intro l' tb; exact ih l' _
theorem lv_ad_sub : ∀ (l tb : List Int), (∀ x, x ∈ l → x ∈ tb) → lv_ad tb l = tb := by
  intro l
  induction l with
  | nil => intro tb _; rfl
  | cons x l ih =>
    intro tb h
    show lv_ad (if x ∈ tb then tb else tb ++ [x]) l = tb
    rw [if_pos (h x List.mem_cons_self)]
    exact ih tb (fun y hy => h y (List.mem_cons_of_mem _ hy))
theorem lv_ad_mem {x : Int} : ∀ (l tb : List Int), x ∈ lv_ad tb l ↔ (x ∈ tb ∨ x ∈ l) := by
  intro l
  induction l with
  | nil => intro tb; exact ⟨fun h => Or.inl h, fun h => h.elim id (fun q => by cases q)⟩
  | cons y l ih =>
    intro tb
    show x ∈ lv_ad (if y ∈ tb then tb else tb ++ [y]) l ↔ _
    rw [ih, List.mem_cons]
    by_cases e : y ∈ tb
    · rw [if_pos e]
      constructor
      · rintro (q | q)
        · exact Or.inl q
        · exact Or.inr (Or.inr q)
      · rintro (q | q | q)
        · exact Or.inl q
        · exact Or.inl (by rw [q]; exact e)
        · exact Or.inr q
    · rw [if_neg e, List.mem_append, List.mem_singleton]
      constructor
      · rintro ((q | q) | q)
        · exact Or.inl q
        · exact Or.inr (Or.inl q)
        · exact Or.inr (Or.inr q)
      · rintro (q | q | q)
        · exact Or.inl (Or.inl q)
        · exact Or.inl (Or.inr q)
        · exact Or.inr q
theorem lv_len {c : Int} {l : List Int} (hn : l.Nodup) (h : ∀ x, x ∈ l → dz_In c x) : (l.length : Int) ≤ c.toNat := by
  have := bd_inj (h := fun _ => 1) (h' := fun _ => 1) (φ := fun x => x) l (bd_rg c.toNat) hn (bd_rg_nd _) (fun x hx => (bd_rg_mem _).mpr ⟨(h x hx).1, by have := (h x hx).2; have := (h x hx).1; omega⟩) (fun p q _ _ e => e) (fun _ _ => Nat.le_refl _)
  rw [bd_s_one, bd_s_one] at this
  have e : ∀ n : Nat, (bd_rg n).length = n := fun n => by
    induction n with
    | zero => rfl
    | succ n ih => show (bd_rg n).length + 1 = n + 1; rw [ih]
  rw [e] at this
  omega
theorem lv_nd1 {tb : List Int} {x : Int} (hn : tb.Nodup) (h : x ∉ tb) : (tb ++ [x]).Nodup := bd_nd_app tb [x] hn (by rw [List.nodup_cons]; exact ⟨fun q => (by cases q), List.nodup_nil⟩) (fun y hy q => h (by rw [List.mem_singleton] at q; rw [← q]; exact hy))
/-- the reference's table of letters -/
def lt_S (a k : Int) : Prop := (a = 804 ∧ k = 60) ∨ a = 837
def lt_T (c : Int) (tx tm : Int → Int) (m : az_Hp) (tb : List Int) : Prop := m.2 804 60 = tb.length ∧ tb.Nodup ∧ (∀ x, x ∈ tb → dz_In c x) ∧ ∀ i : Nat, i < tb.length → tb[i]? = some (tx (m.2 837 i)) ∧ dz_In c (m.2 837 i) ∧ tm (m.2 837 i) = m.2 837 i
theorem lt_find {c : Int} {tx tm : Int → Int} (hc : c ≤ 120) (hxm : ∀ r r', dz_In c r → dz_In c r' → tx r = tx r' → tm r = tm r') {m : az_Hp} {tb : List Int} (hF : bz_Fx m) (hT : lt_T c tx tm m tb) {r : Int} (hr : dz_In c r) (tr : tm r = r) (ir : dz_In c (tx r)) :
    ∀ (d k : Nat) (i : Int), d < k → 0 ≤ i → i + d = tb.length → (∀ j : Nat, (j : Int) < i → m.2 837 j ≠ r) →
    (∃ j : Nat, j < tb.length ∧ tb[j]? = some (tx r) ∧ fz_X11_letterOf_2 2000000 k m 804 r i = some ((j : Int), m)) ∨
    (tx r ∉ tb ∧ ∃ m', fz_X11_letterOf_2 2000000 k m 804 r i = some ((tb.length : Int), m') ∧ bz_Upd m m' lt_S ∧ lt_T c tx tm m' (tb ++ [tx r])) := by
  obtain ⟨h60, hn, hin, hen⟩ := hT
  have g59 := fx_804_59 hF
  have l837 := ln_837 hF
  have len := lv_len hn hin
  intro d
  induction d with
  | zero =>
    intro k i hk i0 hi hno
    obtain ⟨k, rfl⟩ : ∃ q, k = q + 1 := ⟨k - 1, by omega⟩
    have ilen : i = tb.length := by simp at hi; exact hi
    have nin : tx r ∉ tb := fun q => by
      obtain ⟨j, j2⟩ := List.mem_iff_getElem?.mp q
      have j1 : j < tb.length := by
        rcases Nat.lt_or_ge j tb.length with w | w
        · exact w
        · rw [List.getElem?_eq_none w] at j2; cases j2
      have w := hen j j1
      rw [j2] at w
      have e1 : tx r = tx (m.2 837 j) := by simpa using w.1
      have e2 := hxm _ _ hr w.2.1 e1
      rw [tr, w.2.2] at e2
      exact hno j (by omega) e2.symm
    refine Or.inr ⟨nin, az_wr (az_wr m 837 (m.2 804 60) r) 804 60 (m.2 804 60 + 1), ?_, ?_, ?_⟩
    · unfold fz_X11_letterOf_2
      have e60 : (az_wr m 837 (m.2 804 60) r).2 804 60 = m.2 804 60 := az_wr_ne (by omega)
      have w1 : az_w32 (m.2 804 60 + 1) = m.2 804 60 + 1 := az_w32_id (by omega) (by omega)
      have w2 : az_w32 (m.2 804 60 + 1 - 1) = tb.length := by rw [az_w32_id (by omega) (by omega)]; omega
      rw [if_neg (by omega), g59, Option.bind_some, bz_awr (by omega) (by omega), Option.bind_some]
      simp only [e60, w1, az_wr_same, w2]
    · exact bz_Upd.wr (bz_Upd.wr bz_Upd.refl (Or.inr rfl) (by unfold bz_isFix; simp [bz_cap, bz_fixL, bz_rowsL])) (Or.inl ⟨rfl, rfl⟩) (by decide)
    · refine ⟨by rw [az_wr_same, h60]; simp, lv_nd1 hn nin, fun x hx => ?_, fun j hj => ?_⟩
      · rcases List.mem_append.mp hx with q | q
        · exact hin x q
        · rw [List.mem_singleton] at q
          rw [q]; exact ir
      · rw [List.length_append, List.length_singleton] at hj
        rw [az_wr_ne (by omega), h60]
        by_cases e : j = tb.length
        · subst e
          rw [az_wr_same, List.getElem?_append_right (Nat.le_refl _)]
          exact ⟨by simp, hr, tr⟩
        · rw [az_wr_ne (by omega), List.getElem?_append_left (by omega)]
          exact hen j (by omega)
  | succ d ih =>
    intro k i hk i0 hi hno
    obtain ⟨k, rfl⟩ : ∃ q, k = q + 1 := ⟨k - 1, by omega⟩
    push_cast at hi
    have r7 : az_ard m 837 i = some (m.2 837 i) := bz_ard i0 (by omega)
    have w1 : az_w32 (i + 1) = i + 1 := az_w32_id (by omega) (by omega)
    by_cases e : m.2 837 i = r
    · refine Or.inl ⟨i.toNat, by omega, ?_, ?_⟩
      · have w := (hen i.toNat (by omega)).1
        rw [show ((i.toNat : Nat) : Int) = i by omega, e] at w
        exact w
      · unfold fz_X11_letterOf_2
        rw [if_pos (by omega), g59, Option.bind_some, r7, Option.bind_some, if_pos e, show ((i.toNat : Nat) : Int) = i by omega]
    · have st : fz_X11_letterOf_2 2000000 (k + 1) m 804 r i = fz_X11_letterOf_2 2000000 k m 804 r (i + 1) := by
        conv => lhs; unfold fz_X11_letterOf_2
        rw [if_pos (by omega), g59, Option.bind_some, r7, Option.bind_some, if_neg e, w1]
      rw [st]
      refine ih k (i + 1) (by omega) (by omega) (by omega) (fun j hj q => ?_)
      by_cases z : (j : Int) = i
      · rw [z] at q; exact e q
      · exact hno j (by omega) q
theorem lt_letter {c : Int} {tx tm : Int → Int} (hc : c ≤ 120) (hxm : ∀ r r', dz_In c r → dz_In c r' → tx r = tx r' → tm r = tm r') {m : az_Hp} {tb : List Int} (hF : bz_Fx m) (hT : lt_T c tx tm m tb) {r : Int} (hr : dz_In c r) (tr : tm r = r) (ir : dz_In c (tx r)) :
    (∃ j : Nat, j < tb.length ∧ tb[j]? = some (tx r) ∧ fz_X11_letterOf 2000000 m 804 r = some ((j : Int), m)) ∨
    (tx r ∉ tb ∧ ∃ m', fz_X11_letterOf 2000000 m 804 r = some ((tb.length : Int), m') ∧ bz_Upd m m' lt_S ∧ lt_T c tx tm m' (tb ++ [tx r])) := by
  have len := lv_len hT.2.1 hT.2.2.1
  exact lt_find hc hxm hF hT hr tr ir tb.length 2000000 0 (by omega) (by omega) (by omega) (fun j hj => by omega)
