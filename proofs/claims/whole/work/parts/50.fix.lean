/-! THE PURE PART. Which places of the heap never change behind the constructors, and what they hold. -/
/-- the room of a Row by its ref; 0: no Row -/
def bz_cap (r : Int) : Int :=
  if 18 ≤ r ∧ r ≤ 80 ∧ r % 2 = 0 then 16
  else if 97 ≤ r ∧ r ≤ 159 ∧ r % 2 = 1 then 16
  else if 167 ≤ r ∧ r ≤ 221 ∧ r % 2 = 1 then 30
  else if r = 244 ∨ r = 246 then 60
  else if 253 ≤ r ∧ r ≤ 377 ∧ r % 2 = 1 then 60
  else if 389 ≤ r ∧ r ≤ 799 ∧ r % 2 = 1 then 60
  else 0
/-- fields that hold a ref that never changes: cell, place, ref -/
def bz_fixL : List (Int × Int × Int) := [(1, 0, 2), (1, 7, 161), (1, 8, 223), (1, 9, 231), (1, 10, 242), (1, 11, 243), (1, 12, 375), (1, 13, 377), (1, 14, 379), (1, 16, 380), (1, 17, 801), (3, 3, 4), (3, 4, 5), (3, 5, 6), (3, 6, 7), (3, 7, 8), (3, 8, 9), (3, 9, 10), (3, 10, 11), (3, 11, 12), (3, 12, 13), (3, 13, 14), (3, 14, 15), (3, 15, 16), (3, 16, 17), (82, 3, 83), (82, 4, 84), (82, 5, 85), (82, 6, 86), (82, 7, 87), (82, 8, 88), (82, 9, 89), (82, 10, 90), (82, 11, 91), (82, 12, 92), (82, 13, 93), (82, 14, 94), (82, 15, 95), (82, 16, 96), (161, 3, 162), (161, 4, 163), (161, 5, 164), (161, 6, 165), (161, 7, 166), (223, 2, 224), (223, 6, 225), (223, 12, 161), (223, 13, 229), (223, 14, 230), (225, 0, 226), (225, 1, 227), (225, 2, 228), (231, 1, 232), (231, 2, 233), (231, 3, 234), (231, 4, 235), (231, 5, 236), (231, 6, 237), (231, 7, 238), (231, 8, 239), (231, 9, 240), (231, 10, 241), (242, 0, 231), (243, 0, 231), (243, 1, 161), (243, 3, 244), (243, 10, 246), (243, 11, 248), (243, 12, 249), (243, 13, 250), (243, 14, 251), (243, 15, 252), (380, 7, 381), (380, 8, 382), (380, 10, 383), (380, 11, 384), (380, 12, 385), (380, 13, 386), (380, 14, 387), (380, 15, 388), (801, 2, 803), (804, 0, 805), (804, 16, 806), (804, 17, 807), (804, 18, 808), (804, 19, 809), (804, 20, 810), (804, 21, 811), (804, 22, 812), (804, 23, 813), (804, 24, 814), (804, 25, 815), (804, 26, 816), (804, 27, 817), (804, 28, 818), (804, 29, 819), (804, 30, 820), (804, 35, 821), (804, 36, 822), (804, 39, 823), (804, 40, 824), (804, 41, 825), (804, 42, 826), (804, 43, 827), (804, 44, 828), (804, 45, 829), (804, 46, 830), (804, 47, 831), (804, 48, 832), (804, 53, 833), (804, 54, 834), (804, 55, 835), (804, 56, 836), (804, 59, 837), (804, 66, 838), (804, 67, 839), (804, 68, 840), (804, 69, 841), (804, 75, 842), (804, 76, 843), (804, 79, 844), (804, 80, 845), (804, 83, 846), (804, 84, 847), (804, 88, 848), (804, 89, 849), (804, 90, 850), (804, 91, 851), (804, 92, 852), (804, 93, 853), (804, 94, 854), (804, 95, 855), (804, 96, 856), (804, 97, 857), (804, 98, 858), (804, 99, 859), (804, 102, 860), (804, 103, 861), (804, 104, 862), (804, 105, 863), (804, 106, 864), (804, 107, 865), (804, 112, 866), (804, 113, 867)]
/-- arrays of Rows: the array, how many, the first Row, the step from one to the next -/
def bz_rowsL : List (Int × Int × Int × Int) := [(12, 16, 18, 4), (13, 16, 20, 4), (91, 16, 97, 4), (92, 16, 99, 4), (162, 6, 167, 4), (163, 6, 169, 4), (164, 8, 191, 4), (165, 8, 193, 4), (248, 61, 253, 2), (382, 6, 789, 2), (385, 100, 389, 4), (386, 100, 391, 4)]
/-- arrays of numbers: the array, its length -/
def bz_lenL : List (Int × Int) := [(2, 900), (4, 8), (5, 8), (6, 5), (7, 5), (8, 5), (9, 5), (10, 16), (11, 16), (14, 256), (15, 5), (16, 5), (17, 5), (83, 8), (84, 8), (85, 5), (86, 5), (87, 5), (88, 5), (89, 16), (90, 16), (93, 256), (94, 5), (95, 5), (96, 5), (166, 6), (224, 12), (226, 901), (227, 901), (228, 901), (229, 60), (230, 60), (232, 128), (233, 128), (234, 128), (235, 128), (236, 128), (237, 128), (238, 384), (239, 1024), (240, 128), (241, 128), (249, 60), (250, 60), (251, 60), (252, 6), (379, 12), (381, 6), (383, 100), (384, 100), (387, 7), (388, 7), (802, 1024), (803, 1024), (805, 900), (806, 2), (807, 2), (808, 2), (809, 16), (810, 10), (811, 16), (812, 10), (813, 10), (814, 10), (815, 512), (816, 512), (817, 32), (818, 32), (819, 32), (820, 64), (821, 450), (822, 6), (823, 400), (824, 1200), (825, 400), (826, 400), (827, 200), (828, 200), (829, 200), (830, 64), (831, 64), (832, 64), (833, 4), (834, 256), (835, 256), (836, 100000), (837, 200), (838, 6), (839, 6), (840, 64), (841, 64), (842, 3660), (843, 61), (844, 64), (845, 12), (846, 64), (847, 64), (848, 180), (849, 180), (850, 6), (851, 6), (852, 180), (853, 180), (854, 6), (855, 6), (856, 480), (857, 16), (858, 450), (859, 6), (860, 24480), (861, 408), (862, 204), (863, 360), (864, 6), (865, 204), (866, 64), (867, 64)]
def bz_isFix (a k : Int) : Bool := (decide (0 < bz_cap a) && decide (k = 0)) || bz_fixL.any (fun p => decide (p.1 = a) && decide (p.2.1 = k)) || bz_rowsL.any (fun p => decide (p.1 = a))
def bz_chk (σ : az_Hp) : Bool :=
  bz_fixL.all (fun p => decide (σ.2 p.1 p.2.1 = p.2.2)) && bz_lenL.all (fun p => decide (az_ln σ p.1 = p.2)) &&
  bz_rowsL.all (fun p => decide (az_ln σ p.1 = p.2.1) && (List.range p.2.1.toNat).all (fun i => decide (σ.2 p.1 (i : Int) = p.2.2.1 + p.2.2.2 * (i : Int)))) &&
  (List.range 900).all (fun r => !decide (0 < bz_cap (r : Int)) || (decide (σ.2 (r : Int) 0 = (r : Int) + 1) && decide (az_ln σ ((r : Int) + 1) = bz_cap (r : Int))))
def bz_iniL : List (Int × Int × Int) := [(1, 3, (-1)), (1, 4, (-1)), (1, 5, 3), (1, 6, 82), (1, 15, (-1)), (223, 1, (-1)), (223, 5, 2), (223, 11, 3), (242, 1, (-1)), (243, 2, 3), (243, 5, (-1)), (243, 9, (-1)), (380, 3, (-1)), (801, 1, 802), (804, 3, (-1)), (804, 4, (-1)), (804, 82, (-1)), (383, 1, 1), (383, 2, 2), (383, 3, 3), (383, 4, 4), (383, 5, 5), (383, 6, 6), (383, 7, 7), (383, 8, 8), (383, 9, 9), (383, 10, 10), (383, 11, 11), (383, 12, 12), (383, 13, 13), (383, 14, 14), (383, 15, 15), (383, 16, 16), (383, 17, 17), (383, 18, 18), (383, 19, 19), (383, 20, 20), (383, 21, 21), (383, 22, 22), (383, 23, 23), (383, 24, 24), (383, 25, 25), (383, 26, 26), (383, 27, 27), (383, 28, 28), (383, 29, 29), (383, 30, 30), (383, 31, 31), (383, 32, 32), (383, 33, 33), (383, 34, 34), (383, 35, 35), (383, 36, 36), (383, 37, 37), (383, 38, 38), (383, 39, 39), (383, 40, 40), (383, 41, 41), (383, 42, 42), (383, 43, 43), (383, 44, 44), (383, 45, 45), (383, 46, 46), (383, 47, 47), (383, 48, 48), (383, 49, 49), (383, 50, 50), (383, 51, 51), (383, 52, 52), (383, 53, 53), (383, 54, 54), (383, 55, 55), (383, 56, 56), (383, 57, 57), (383, 58, 58), (383, 59, 59), (383, 60, 60), (383, 61, 61), (383, 62, 62), (383, 63, 63), (383, 64, 64), (383, 65, 65), (383, 66, 66), (383, 67, 67), (383, 68, 68), (383, 69, 69), (383, 70, 70), (383, 71, 71), (383, 72, 72), (383, 73, 73), (383, 74, 74), (383, 75, 75), (383, 76, 76), (383, 77, 77), (383, 78, 78), (383, 79, 79), (383, 80, 80), (383, 81, 81), (383, 82, 82), (383, 83, 83), (383, 84, 84), (383, 85, 85), (383, 86, 86), (383, 87, 87), (383, 88, 88), (383, 89, 89), (383, 90, 90), (383, 91, 91), (383, 92, 92), (383, 93, 93), (383, 94, 94), (383, 95, 95), (383, 96, 96), (383, 97, 97), (383, 98, 98), (383, 99, 99)]
/-- behind the constructors: what isn't 0 -/
def bz_chk0 (σ : az_Hp) : Bool := bz_chk σ && decide (σ.1.1 = 867) && decide (σ.1.2.1 = 166846) && bz_iniL.all (fun p => decide (σ.2 p.1 p.2.1 = p.2.2))
/-- what never changes, as it is known behind the constructors -/
def bz_Fx (σ : az_Hp) : Prop := bz_chk σ = true
theorem bz_fxG {σ : az_Hp} (h : bz_Fx σ) {a k v : Int} (hm : (a, k, v) ∈ bz_fixL) : σ.2 a k = v := by
  unfold bz_Fx bz_chk at h
  simp only [Bool.and_eq_true] at h
  simpa using List.all_eq_true.mp h.1.1.1 _ hm
theorem bz_fxL {σ : az_Hp} (h : bz_Fx σ) {a n : Int} (hm : (a, n) ∈ bz_lenL) : az_ln σ a = n := by
  unfold bz_Fx bz_chk at h
  simp only [Bool.and_eq_true] at h
  simpa using List.all_eq_true.mp h.1.1.2 _ hm
theorem bz_fxA {σ : az_Hp} (h : bz_Fx σ) {a n f s : Int} (hm : (a, n, f, s) ∈ bz_rowsL) : az_ln σ a = n ∧ ∀ i : Int, 0 ≤ i → i < n → σ.2 a i = f + s * i := by
  unfold bz_Fx bz_chk at h
  simp only [Bool.and_eq_true] at h
  have q := List.all_eq_true.mp h.1.2 _ hm
  simp only [Bool.and_eq_true, decide_eq_true_eq] at q
  refine ⟨q.1, fun i h0 h1 => ?_⟩
  have q2 := List.all_eq_true.mp q.2 i.toNat (List.mem_range.mpr (by omega))
  have e : ((i.toNat : Nat) : Int) = i := by omega
  rw [e] at q2
  simpa using q2
theorem bz_cap_lt {r : Int} (h : 0 < bz_cap r) : 18 ≤ r ∧ r ≤ 799 := by
  unfold bz_cap at h
  repeat' split at h
  all_goals omega
theorem bz_fxR {σ : az_Hp} (h : bz_Fx σ) {r : Int} (hr : 0 < bz_cap r) : σ.2 r 0 = r + 1 ∧ az_ln σ (r + 1) = bz_cap r := by
  have hb := bz_cap_lt hr
  unfold bz_Fx bz_chk at h
  simp only [Bool.and_eq_true] at h
  have q := List.all_eq_true.mp h.2 r.toNat (List.mem_range.mpr (by omega))
  have e : ((r.toNat : Nat) : Int) = r := by omega
  rw [e] at q
  simp only [hr, decide_true, Bool.not_true, Bool.false_or, Bool.and_eq_true, decide_eq_true_eq] at q
  exact q
/-- a change of the heap: at places that are in S and not fixed -/
def bz_Upd (σ σ' : az_Hp) (S : Int → Int → Prop) : Prop := σ'.1 = σ.1 ∧ (∀ a k, bz_isFix a k = true → σ'.2 a k = σ.2 a k) ∧ ∀ a k, ¬ S a k → σ'.2 a k = σ.2 a k
theorem bz_Upd.refl {σ : az_Hp} {S : Int → Int → Prop} : bz_Upd σ σ S := ⟨rfl, fun _ _ _ => rfl, fun _ _ _ => rfl⟩
theorem bz_Upd.wr {σ σ' : az_Hp} {S : Int → Int → Prop} {a i x : Int} (h : bz_Upd σ σ' S) (hs : S a i) (hf : bz_isFix a i = false) : bz_Upd σ (az_wr σ' a i x) S := by
  refine ⟨h.1, fun b k hb => ?_, fun b k hb => ?_⟩
  · rw [az_wr_ne (fun q => by rw [q.1, q.2, hf] at hb; cases hb)]; exact h.2.1 b k hb
  · rw [az_wr_ne (fun q => hb (by rw [q.1, q.2]; exact hs))]; exact h.2.2 b k hb
theorem bz_Upd.trans {σ σ' σ'' : az_Hp} {S : Int → Int → Prop} (h : bz_Upd σ σ' S) (h' : bz_Upd σ' σ'' S) : bz_Upd σ σ'' S :=
  ⟨h'.1.trans h.1, fun a k hk => (h'.2.1 a k hk).trans (h.2.1 a k hk), fun a k hk => (h'.2.2 a k hk).trans (h.2.2 a k hk)⟩
theorem bz_Upd.weak {σ σ' : az_Hp} {S S' : Int → Int → Prop} (h : bz_Upd σ σ' S) (hs : ∀ a k, S a k → S' a k) : bz_Upd σ σ' S' :=
  ⟨h.1, h.2.1, fun a k hk => h.2.2 a k (fun q => hk (hs a k q))⟩
theorem bz_Upd.ln {σ σ' : az_Hp} {S : Int → Int → Prop} (h : bz_Upd σ σ' S) (a : Int) : az_ln σ' a = az_ln σ a := by unfold az_ln; rw [h.1]
theorem bz_fix_mem {a k v : Int} (h : (a, k, v) ∈ bz_fixL) : bz_isFix a k = true := by
  unfold bz_isFix
  have : bz_fixL.any (fun p => decide (p.1 = a) && decide (p.2.1 = k)) = true := List.any_eq_true.mpr ⟨_, h, by simp⟩
  simp [this]
theorem bz_Fx.upd {σ σ' : az_Hp} {S : Int → Int → Prop} (h : bz_Fx σ) (hU : bz_Upd σ σ' S) : bz_Fx σ' := by
  have hl := hU.ln
  have hf := hU.2.1
  unfold bz_Fx bz_chk at h ⊢
  simp only [Bool.and_eq_true] at h ⊢
  obtain ⟨⟨⟨h1, h2⟩, h3⟩, h4⟩ := h
  refine ⟨⟨⟨?_, ?_⟩, ?_⟩, ?_⟩
  · refine List.all_eq_true.mpr fun p hp => ?_
    have q := List.all_eq_true.mp h1 p hp
    rw [hf p.1 p.2.1 (bz_fix_mem (v := p.2.2) hp)]; exact q
  · refine List.all_eq_true.mpr fun p hp => ?_
    have q := List.all_eq_true.mp h2 p hp
    rw [hl]; exact q
  · refine List.all_eq_true.mpr fun p hp => ?_
    have q := List.all_eq_true.mp h3 p hp
    simp only [Bool.and_eq_true] at q ⊢
    refine ⟨by rw [hl]; exact q.1, List.all_eq_true.mpr fun i hi => ?_⟩
    have q2 := List.all_eq_true.mp q.2 i hi
    rw [hf p.1 (i : Int)]
    · exact q2
    · unfold bz_isFix
      have : bz_rowsL.any (fun r => decide (r.1 = p.1)) = true := List.any_eq_true.mpr ⟨_, hp, by simp⟩
      simp [this]
  · refine List.all_eq_true.mpr fun r hr => ?_
    have q := List.all_eq_true.mp h4 r hr
    by_cases hc : 0 < bz_cap (r : Int)
    · rw [hl, hf (r : Int) 0 (by unfold bz_isFix; simp [hc])]; exact q
    · simp [hc]
theorem bz_ard {σ : az_Hp} {a i : Int} (h0 : 0 ≤ i) (h1 : i < az_ln σ a) : az_ard σ a i = some (σ.2 a i) := if_pos ⟨h0, h1⟩
theorem bz_awr {σ : az_Hp} {a i x : Int} (h0 : 0 ≤ i) (h1 : i < az_ln σ a) : az_awr σ a i x = some (az_wr σ a i x) := if_pos ⟨h0, h1⟩
theorem bz_ln_wr {σ : az_Hp} {a i x b : Int} : az_ln (az_wr σ a i x) b = az_ln σ b := rfl
theorem bz_gref_wr {σ : az_Hp} {a i x b k : Int} (h : ¬ (b = a ∧ k = i)) : az_gref (az_wr σ a i x) b k = az_gref σ b k := by unfold az_gref; rw [az_wr_ne h]
theorem bz_gr {σ : az_Hp} {a k v : Int} (h : σ.2 a k = v) (hv : 0 < v) : az_gref σ a k = some v := by unfold az_gref; rw [h, if_pos hv]
theorem fx_1_0 {σ : az_Hp} (h : bz_Fx σ) : az_gref σ 1 0 = some 2 := bz_gr (bz_fxG h (by decide)) (by decide)
theorem fx_1_7 {σ : az_Hp} (h : bz_Fx σ) : az_gref σ 1 7 = some 161 := bz_gr (bz_fxG h (by decide)) (by decide)
theorem fx_1_8 {σ : az_Hp} (h : bz_Fx σ) : az_gref σ 1 8 = some 223 := bz_gr (bz_fxG h (by decide)) (by decide)
theorem fx_1_9 {σ : az_Hp} (h : bz_Fx σ) : az_gref σ 1 9 = some 231 := bz_gr (bz_fxG h (by decide)) (by decide)
theorem fx_1_10 {σ : az_Hp} (h : bz_Fx σ) : az_gref σ 1 10 = some 242 := bz_gr (bz_fxG h (by decide)) (by decide)
theorem fx_1_11 {σ : az_Hp} (h : bz_Fx σ) : az_gref σ 1 11 = some 243 := bz_gr (bz_fxG h (by decide)) (by decide)
theorem fx_1_12 {σ : az_Hp} (h : bz_Fx σ) : az_gref σ 1 12 = some 375 := bz_gr (bz_fxG h (by decide)) (by decide)
theorem fx_1_13 {σ : az_Hp} (h : bz_Fx σ) : az_gref σ 1 13 = some 377 := bz_gr (bz_fxG h (by decide)) (by decide)
theorem fx_1_14 {σ : az_Hp} (h : bz_Fx σ) : az_gref σ 1 14 = some 379 := bz_gr (bz_fxG h (by decide)) (by decide)
theorem fx_1_16 {σ : az_Hp} (h : bz_Fx σ) : az_gref σ 1 16 = some 380 := bz_gr (bz_fxG h (by decide)) (by decide)
theorem fx_1_17 {σ : az_Hp} (h : bz_Fx σ) : az_gref σ 1 17 = some 801 := bz_gr (bz_fxG h (by decide)) (by decide)
theorem fx_3_3 {σ : az_Hp} (h : bz_Fx σ) : az_gref σ 3 3 = some 4 := bz_gr (bz_fxG h (by decide)) (by decide)
theorem fx_3_4 {σ : az_Hp} (h : bz_Fx σ) : az_gref σ 3 4 = some 5 := bz_gr (bz_fxG h (by decide)) (by decide)
theorem fx_3_5 {σ : az_Hp} (h : bz_Fx σ) : az_gref σ 3 5 = some 6 := bz_gr (bz_fxG h (by decide)) (by decide)
theorem fx_3_6 {σ : az_Hp} (h : bz_Fx σ) : az_gref σ 3 6 = some 7 := bz_gr (bz_fxG h (by decide)) (by decide)
theorem fx_3_7 {σ : az_Hp} (h : bz_Fx σ) : az_gref σ 3 7 = some 8 := bz_gr (bz_fxG h (by decide)) (by decide)
theorem fx_3_8 {σ : az_Hp} (h : bz_Fx σ) : az_gref σ 3 8 = some 9 := bz_gr (bz_fxG h (by decide)) (by decide)
theorem fx_3_9 {σ : az_Hp} (h : bz_Fx σ) : az_gref σ 3 9 = some 10 := bz_gr (bz_fxG h (by decide)) (by decide)
theorem fx_3_10 {σ : az_Hp} (h : bz_Fx σ) : az_gref σ 3 10 = some 11 := bz_gr (bz_fxG h (by decide)) (by decide)
theorem fx_3_11 {σ : az_Hp} (h : bz_Fx σ) : az_gref σ 3 11 = some 12 := bz_gr (bz_fxG h (by decide)) (by decide)
theorem fx_3_12 {σ : az_Hp} (h : bz_Fx σ) : az_gref σ 3 12 = some 13 := bz_gr (bz_fxG h (by decide)) (by decide)
theorem fx_3_13 {σ : az_Hp} (h : bz_Fx σ) : az_gref σ 3 13 = some 14 := bz_gr (bz_fxG h (by decide)) (by decide)
theorem fx_3_14 {σ : az_Hp} (h : bz_Fx σ) : az_gref σ 3 14 = some 15 := bz_gr (bz_fxG h (by decide)) (by decide)
theorem fx_3_15 {σ : az_Hp} (h : bz_Fx σ) : az_gref σ 3 15 = some 16 := bz_gr (bz_fxG h (by decide)) (by decide)
theorem fx_3_16 {σ : az_Hp} (h : bz_Fx σ) : az_gref σ 3 16 = some 17 := bz_gr (bz_fxG h (by decide)) (by decide)
theorem fx_82_3 {σ : az_Hp} (h : bz_Fx σ) : az_gref σ 82 3 = some 83 := bz_gr (bz_fxG h (by decide)) (by decide)
theorem fx_82_4 {σ : az_Hp} (h : bz_Fx σ) : az_gref σ 82 4 = some 84 := bz_gr (bz_fxG h (by decide)) (by decide)
theorem fx_82_5 {σ : az_Hp} (h : bz_Fx σ) : az_gref σ 82 5 = some 85 := bz_gr (bz_fxG h (by decide)) (by decide)
theorem fx_82_6 {σ : az_Hp} (h : bz_Fx σ) : az_gref σ 82 6 = some 86 := bz_gr (bz_fxG h (by decide)) (by decide)
theorem fx_82_7 {σ : az_Hp} (h : bz_Fx σ) : az_gref σ 82 7 = some 87 := bz_gr (bz_fxG h (by decide)) (by decide)
theorem fx_82_8 {σ : az_Hp} (h : bz_Fx σ) : az_gref σ 82 8 = some 88 := bz_gr (bz_fxG h (by decide)) (by decide)
theorem fx_82_9 {σ : az_Hp} (h : bz_Fx σ) : az_gref σ 82 9 = some 89 := bz_gr (bz_fxG h (by decide)) (by decide)
theorem fx_82_10 {σ : az_Hp} (h : bz_Fx σ) : az_gref σ 82 10 = some 90 := bz_gr (bz_fxG h (by decide)) (by decide)
theorem fx_82_11 {σ : az_Hp} (h : bz_Fx σ) : az_gref σ 82 11 = some 91 := bz_gr (bz_fxG h (by decide)) (by decide)
theorem fx_82_12 {σ : az_Hp} (h : bz_Fx σ) : az_gref σ 82 12 = some 92 := bz_gr (bz_fxG h (by decide)) (by decide)
theorem fx_82_13 {σ : az_Hp} (h : bz_Fx σ) : az_gref σ 82 13 = some 93 := bz_gr (bz_fxG h (by decide)) (by decide)
theorem fx_82_14 {σ : az_Hp} (h : bz_Fx σ) : az_gref σ 82 14 = some 94 := bz_gr (bz_fxG h (by decide)) (by decide)
theorem fx_82_15 {σ : az_Hp} (h : bz_Fx σ) : az_gref σ 82 15 = some 95 := bz_gr (bz_fxG h (by decide)) (by decide)
theorem fx_82_16 {σ : az_Hp} (h : bz_Fx σ) : az_gref σ 82 16 = some 96 := bz_gr (bz_fxG h (by decide)) (by decide)
theorem fx_161_3 {σ : az_Hp} (h : bz_Fx σ) : az_gref σ 161 3 = some 162 := bz_gr (bz_fxG h (by decide)) (by decide)
theorem fx_161_4 {σ : az_Hp} (h : bz_Fx σ) : az_gref σ 161 4 = some 163 := bz_gr (bz_fxG h (by decide)) (by decide)
theorem fx_161_5 {σ : az_Hp} (h : bz_Fx σ) : az_gref σ 161 5 = some 164 := bz_gr (bz_fxG h (by decide)) (by decide)
theorem fx_161_6 {σ : az_Hp} (h : bz_Fx σ) : az_gref σ 161 6 = some 165 := bz_gr (bz_fxG h (by decide)) (by decide)
theorem fx_161_7 {σ : az_Hp} (h : bz_Fx σ) : az_gref σ 161 7 = some 166 := bz_gr (bz_fxG h (by decide)) (by decide)
theorem fx_223_2 {σ : az_Hp} (h : bz_Fx σ) : az_gref σ 223 2 = some 224 := bz_gr (bz_fxG h (by decide)) (by decide)
theorem fx_223_6 {σ : az_Hp} (h : bz_Fx σ) : az_gref σ 223 6 = some 225 := bz_gr (bz_fxG h (by decide)) (by decide)
theorem fx_223_12 {σ : az_Hp} (h : bz_Fx σ) : az_gref σ 223 12 = some 161 := bz_gr (bz_fxG h (by decide)) (by decide)
theorem fx_223_13 {σ : az_Hp} (h : bz_Fx σ) : az_gref σ 223 13 = some 229 := bz_gr (bz_fxG h (by decide)) (by decide)
theorem fx_223_14 {σ : az_Hp} (h : bz_Fx σ) : az_gref σ 223 14 = some 230 := bz_gr (bz_fxG h (by decide)) (by decide)
theorem fx_225_0 {σ : az_Hp} (h : bz_Fx σ) : az_gref σ 225 0 = some 226 := bz_gr (bz_fxG h (by decide)) (by decide)
theorem fx_225_1 {σ : az_Hp} (h : bz_Fx σ) : az_gref σ 225 1 = some 227 := bz_gr (bz_fxG h (by decide)) (by decide)
theorem fx_225_2 {σ : az_Hp} (h : bz_Fx σ) : az_gref σ 225 2 = some 228 := bz_gr (bz_fxG h (by decide)) (by decide)
theorem fx_231_1 {σ : az_Hp} (h : bz_Fx σ) : az_gref σ 231 1 = some 232 := bz_gr (bz_fxG h (by decide)) (by decide)
theorem fx_231_2 {σ : az_Hp} (h : bz_Fx σ) : az_gref σ 231 2 = some 233 := bz_gr (bz_fxG h (by decide)) (by decide)
theorem fx_231_3 {σ : az_Hp} (h : bz_Fx σ) : az_gref σ 231 3 = some 234 := bz_gr (bz_fxG h (by decide)) (by decide)
theorem fx_231_4 {σ : az_Hp} (h : bz_Fx σ) : az_gref σ 231 4 = some 235 := bz_gr (bz_fxG h (by decide)) (by decide)
theorem fx_231_5 {σ : az_Hp} (h : bz_Fx σ) : az_gref σ 231 5 = some 236 := bz_gr (bz_fxG h (by decide)) (by decide)
theorem fx_231_6 {σ : az_Hp} (h : bz_Fx σ) : az_gref σ 231 6 = some 237 := bz_gr (bz_fxG h (by decide)) (by decide)
theorem fx_231_7 {σ : az_Hp} (h : bz_Fx σ) : az_gref σ 231 7 = some 238 := bz_gr (bz_fxG h (by decide)) (by decide)
theorem fx_231_8 {σ : az_Hp} (h : bz_Fx σ) : az_gref σ 231 8 = some 239 := bz_gr (bz_fxG h (by decide)) (by decide)
theorem fx_231_9 {σ : az_Hp} (h : bz_Fx σ) : az_gref σ 231 9 = some 240 := bz_gr (bz_fxG h (by decide)) (by decide)
theorem fx_231_10 {σ : az_Hp} (h : bz_Fx σ) : az_gref σ 231 10 = some 241 := bz_gr (bz_fxG h (by decide)) (by decide)
theorem fx_242_0 {σ : az_Hp} (h : bz_Fx σ) : az_gref σ 242 0 = some 231 := bz_gr (bz_fxG h (by decide)) (by decide)
theorem fx_243_0 {σ : az_Hp} (h : bz_Fx σ) : az_gref σ 243 0 = some 231 := bz_gr (bz_fxG h (by decide)) (by decide)
theorem fx_243_1 {σ : az_Hp} (h : bz_Fx σ) : az_gref σ 243 1 = some 161 := bz_gr (bz_fxG h (by decide)) (by decide)
theorem fx_243_3 {σ : az_Hp} (h : bz_Fx σ) : az_gref σ 243 3 = some 244 := bz_gr (bz_fxG h (by decide)) (by decide)
theorem fx_243_10 {σ : az_Hp} (h : bz_Fx σ) : az_gref σ 243 10 = some 246 := bz_gr (bz_fxG h (by decide)) (by decide)
theorem fx_243_11 {σ : az_Hp} (h : bz_Fx σ) : az_gref σ 243 11 = some 248 := bz_gr (bz_fxG h (by decide)) (by decide)
theorem fx_243_12 {σ : az_Hp} (h : bz_Fx σ) : az_gref σ 243 12 = some 249 := bz_gr (bz_fxG h (by decide)) (by decide)
theorem fx_243_13 {σ : az_Hp} (h : bz_Fx σ) : az_gref σ 243 13 = some 250 := bz_gr (bz_fxG h (by decide)) (by decide)
theorem fx_243_14 {σ : az_Hp} (h : bz_Fx σ) : az_gref σ 243 14 = some 251 := bz_gr (bz_fxG h (by decide)) (by decide)
theorem fx_243_15 {σ : az_Hp} (h : bz_Fx σ) : az_gref σ 243 15 = some 252 := bz_gr (bz_fxG h (by decide)) (by decide)
theorem fx_380_7 {σ : az_Hp} (h : bz_Fx σ) : az_gref σ 380 7 = some 381 := bz_gr (bz_fxG h (by decide)) (by decide)
theorem fx_380_8 {σ : az_Hp} (h : bz_Fx σ) : az_gref σ 380 8 = some 382 := bz_gr (bz_fxG h (by decide)) (by decide)
theorem fx_380_10 {σ : az_Hp} (h : bz_Fx σ) : az_gref σ 380 10 = some 383 := bz_gr (bz_fxG h (by decide)) (by decide)
theorem fx_380_11 {σ : az_Hp} (h : bz_Fx σ) : az_gref σ 380 11 = some 384 := bz_gr (bz_fxG h (by decide)) (by decide)
theorem fx_380_12 {σ : az_Hp} (h : bz_Fx σ) : az_gref σ 380 12 = some 385 := bz_gr (bz_fxG h (by decide)) (by decide)
theorem fx_380_13 {σ : az_Hp} (h : bz_Fx σ) : az_gref σ 380 13 = some 386 := bz_gr (bz_fxG h (by decide)) (by decide)
theorem fx_380_14 {σ : az_Hp} (h : bz_Fx σ) : az_gref σ 380 14 = some 387 := bz_gr (bz_fxG h (by decide)) (by decide)
theorem fx_380_15 {σ : az_Hp} (h : bz_Fx σ) : az_gref σ 380 15 = some 388 := bz_gr (bz_fxG h (by decide)) (by decide)
theorem fx_801_2 {σ : az_Hp} (h : bz_Fx σ) : az_gref σ 801 2 = some 803 := bz_gr (bz_fxG h (by decide)) (by decide)
theorem fx_804_0 {σ : az_Hp} (h : bz_Fx σ) : az_gref σ 804 0 = some 805 := bz_gr (bz_fxG h (by decide)) (by decide)
theorem fx_804_16 {σ : az_Hp} (h : bz_Fx σ) : az_gref σ 804 16 = some 806 := bz_gr (bz_fxG h (by decide)) (by decide)
theorem fx_804_17 {σ : az_Hp} (h : bz_Fx σ) : az_gref σ 804 17 = some 807 := bz_gr (bz_fxG h (by decide)) (by decide)
theorem fx_804_18 {σ : az_Hp} (h : bz_Fx σ) : az_gref σ 804 18 = some 808 := bz_gr (bz_fxG h (by decide)) (by decide)
theorem fx_804_19 {σ : az_Hp} (h : bz_Fx σ) : az_gref σ 804 19 = some 809 := bz_gr (bz_fxG h (by decide)) (by decide)
theorem fx_804_20 {σ : az_Hp} (h : bz_Fx σ) : az_gref σ 804 20 = some 810 := bz_gr (bz_fxG h (by decide)) (by decide)
theorem fx_804_21 {σ : az_Hp} (h : bz_Fx σ) : az_gref σ 804 21 = some 811 := bz_gr (bz_fxG h (by decide)) (by decide)
theorem fx_804_22 {σ : az_Hp} (h : bz_Fx σ) : az_gref σ 804 22 = some 812 := bz_gr (bz_fxG h (by decide)) (by decide)
theorem fx_804_23 {σ : az_Hp} (h : bz_Fx σ) : az_gref σ 804 23 = some 813 := bz_gr (bz_fxG h (by decide)) (by decide)
theorem fx_804_24 {σ : az_Hp} (h : bz_Fx σ) : az_gref σ 804 24 = some 814 := bz_gr (bz_fxG h (by decide)) (by decide)
theorem fx_804_25 {σ : az_Hp} (h : bz_Fx σ) : az_gref σ 804 25 = some 815 := bz_gr (bz_fxG h (by decide)) (by decide)
theorem fx_804_26 {σ : az_Hp} (h : bz_Fx σ) : az_gref σ 804 26 = some 816 := bz_gr (bz_fxG h (by decide)) (by decide)
theorem fx_804_27 {σ : az_Hp} (h : bz_Fx σ) : az_gref σ 804 27 = some 817 := bz_gr (bz_fxG h (by decide)) (by decide)
theorem fx_804_28 {σ : az_Hp} (h : bz_Fx σ) : az_gref σ 804 28 = some 818 := bz_gr (bz_fxG h (by decide)) (by decide)
theorem fx_804_29 {σ : az_Hp} (h : bz_Fx σ) : az_gref σ 804 29 = some 819 := bz_gr (bz_fxG h (by decide)) (by decide)
theorem fx_804_30 {σ : az_Hp} (h : bz_Fx σ) : az_gref σ 804 30 = some 820 := bz_gr (bz_fxG h (by decide)) (by decide)
theorem fx_804_35 {σ : az_Hp} (h : bz_Fx σ) : az_gref σ 804 35 = some 821 := bz_gr (bz_fxG h (by decide)) (by decide)
theorem fx_804_36 {σ : az_Hp} (h : bz_Fx σ) : az_gref σ 804 36 = some 822 := bz_gr (bz_fxG h (by decide)) (by decide)
theorem fx_804_39 {σ : az_Hp} (h : bz_Fx σ) : az_gref σ 804 39 = some 823 := bz_gr (bz_fxG h (by decide)) (by decide)
theorem fx_804_40 {σ : az_Hp} (h : bz_Fx σ) : az_gref σ 804 40 = some 824 := bz_gr (bz_fxG h (by decide)) (by decide)
theorem fx_804_41 {σ : az_Hp} (h : bz_Fx σ) : az_gref σ 804 41 = some 825 := bz_gr (bz_fxG h (by decide)) (by decide)
theorem fx_804_42 {σ : az_Hp} (h : bz_Fx σ) : az_gref σ 804 42 = some 826 := bz_gr (bz_fxG h (by decide)) (by decide)
theorem fx_804_43 {σ : az_Hp} (h : bz_Fx σ) : az_gref σ 804 43 = some 827 := bz_gr (bz_fxG h (by decide)) (by decide)
theorem fx_804_44 {σ : az_Hp} (h : bz_Fx σ) : az_gref σ 804 44 = some 828 := bz_gr (bz_fxG h (by decide)) (by decide)
theorem fx_804_45 {σ : az_Hp} (h : bz_Fx σ) : az_gref σ 804 45 = some 829 := bz_gr (bz_fxG h (by decide)) (by decide)
theorem fx_804_46 {σ : az_Hp} (h : bz_Fx σ) : az_gref σ 804 46 = some 830 := bz_gr (bz_fxG h (by decide)) (by decide)
theorem fx_804_47 {σ : az_Hp} (h : bz_Fx σ) : az_gref σ 804 47 = some 831 := bz_gr (bz_fxG h (by decide)) (by decide)
theorem fx_804_48 {σ : az_Hp} (h : bz_Fx σ) : az_gref σ 804 48 = some 832 := bz_gr (bz_fxG h (by decide)) (by decide)
theorem fx_804_53 {σ : az_Hp} (h : bz_Fx σ) : az_gref σ 804 53 = some 833 := bz_gr (bz_fxG h (by decide)) (by decide)
theorem fx_804_54 {σ : az_Hp} (h : bz_Fx σ) : az_gref σ 804 54 = some 834 := bz_gr (bz_fxG h (by decide)) (by decide)
theorem fx_804_55 {σ : az_Hp} (h : bz_Fx σ) : az_gref σ 804 55 = some 835 := bz_gr (bz_fxG h (by decide)) (by decide)
theorem fx_804_56 {σ : az_Hp} (h : bz_Fx σ) : az_gref σ 804 56 = some 836 := bz_gr (bz_fxG h (by decide)) (by decide)
theorem fx_804_59 {σ : az_Hp} (h : bz_Fx σ) : az_gref σ 804 59 = some 837 := bz_gr (bz_fxG h (by decide)) (by decide)
theorem fx_804_66 {σ : az_Hp} (h : bz_Fx σ) : az_gref σ 804 66 = some 838 := bz_gr (bz_fxG h (by decide)) (by decide)
theorem fx_804_67 {σ : az_Hp} (h : bz_Fx σ) : az_gref σ 804 67 = some 839 := bz_gr (bz_fxG h (by decide)) (by decide)
theorem fx_804_68 {σ : az_Hp} (h : bz_Fx σ) : az_gref σ 804 68 = some 840 := bz_gr (bz_fxG h (by decide)) (by decide)
theorem fx_804_69 {σ : az_Hp} (h : bz_Fx σ) : az_gref σ 804 69 = some 841 := bz_gr (bz_fxG h (by decide)) (by decide)
theorem fx_804_75 {σ : az_Hp} (h : bz_Fx σ) : az_gref σ 804 75 = some 842 := bz_gr (bz_fxG h (by decide)) (by decide)
theorem fx_804_76 {σ : az_Hp} (h : bz_Fx σ) : az_gref σ 804 76 = some 843 := bz_gr (bz_fxG h (by decide)) (by decide)
theorem fx_804_79 {σ : az_Hp} (h : bz_Fx σ) : az_gref σ 804 79 = some 844 := bz_gr (bz_fxG h (by decide)) (by decide)
theorem fx_804_80 {σ : az_Hp} (h : bz_Fx σ) : az_gref σ 804 80 = some 845 := bz_gr (bz_fxG h (by decide)) (by decide)
theorem fx_804_83 {σ : az_Hp} (h : bz_Fx σ) : az_gref σ 804 83 = some 846 := bz_gr (bz_fxG h (by decide)) (by decide)
theorem fx_804_84 {σ : az_Hp} (h : bz_Fx σ) : az_gref σ 804 84 = some 847 := bz_gr (bz_fxG h (by decide)) (by decide)
theorem fx_804_88 {σ : az_Hp} (h : bz_Fx σ) : az_gref σ 804 88 = some 848 := bz_gr (bz_fxG h (by decide)) (by decide)
theorem fx_804_89 {σ : az_Hp} (h : bz_Fx σ) : az_gref σ 804 89 = some 849 := bz_gr (bz_fxG h (by decide)) (by decide)
theorem fx_804_90 {σ : az_Hp} (h : bz_Fx σ) : az_gref σ 804 90 = some 850 := bz_gr (bz_fxG h (by decide)) (by decide)
theorem fx_804_91 {σ : az_Hp} (h : bz_Fx σ) : az_gref σ 804 91 = some 851 := bz_gr (bz_fxG h (by decide)) (by decide)
theorem fx_804_92 {σ : az_Hp} (h : bz_Fx σ) : az_gref σ 804 92 = some 852 := bz_gr (bz_fxG h (by decide)) (by decide)
theorem fx_804_93 {σ : az_Hp} (h : bz_Fx σ) : az_gref σ 804 93 = some 853 := bz_gr (bz_fxG h (by decide)) (by decide)
theorem fx_804_94 {σ : az_Hp} (h : bz_Fx σ) : az_gref σ 804 94 = some 854 := bz_gr (bz_fxG h (by decide)) (by decide)
theorem fx_804_95 {σ : az_Hp} (h : bz_Fx σ) : az_gref σ 804 95 = some 855 := bz_gr (bz_fxG h (by decide)) (by decide)
theorem fx_804_96 {σ : az_Hp} (h : bz_Fx σ) : az_gref σ 804 96 = some 856 := bz_gr (bz_fxG h (by decide)) (by decide)
theorem fx_804_97 {σ : az_Hp} (h : bz_Fx σ) : az_gref σ 804 97 = some 857 := bz_gr (bz_fxG h (by decide)) (by decide)
theorem fx_804_98 {σ : az_Hp} (h : bz_Fx σ) : az_gref σ 804 98 = some 858 := bz_gr (bz_fxG h (by decide)) (by decide)
theorem fx_804_99 {σ : az_Hp} (h : bz_Fx σ) : az_gref σ 804 99 = some 859 := bz_gr (bz_fxG h (by decide)) (by decide)
theorem fx_804_102 {σ : az_Hp} (h : bz_Fx σ) : az_gref σ 804 102 = some 860 := bz_gr (bz_fxG h (by decide)) (by decide)
theorem fx_804_103 {σ : az_Hp} (h : bz_Fx σ) : az_gref σ 804 103 = some 861 := bz_gr (bz_fxG h (by decide)) (by decide)
theorem fx_804_104 {σ : az_Hp} (h : bz_Fx σ) : az_gref σ 804 104 = some 862 := bz_gr (bz_fxG h (by decide)) (by decide)
theorem fx_804_105 {σ : az_Hp} (h : bz_Fx σ) : az_gref σ 804 105 = some 863 := bz_gr (bz_fxG h (by decide)) (by decide)
theorem fx_804_106 {σ : az_Hp} (h : bz_Fx σ) : az_gref σ 804 106 = some 864 := bz_gr (bz_fxG h (by decide)) (by decide)
theorem fx_804_107 {σ : az_Hp} (h : bz_Fx σ) : az_gref σ 804 107 = some 865 := bz_gr (bz_fxG h (by decide)) (by decide)
theorem fx_804_112 {σ : az_Hp} (h : bz_Fx σ) : az_gref σ 804 112 = some 866 := bz_gr (bz_fxG h (by decide)) (by decide)
theorem fx_804_113 {σ : az_Hp} (h : bz_Fx σ) : az_gref σ 804 113 = some 867 := bz_gr (bz_fxG h (by decide)) (by decide)
theorem ln_2 {σ : az_Hp} (h : bz_Fx σ) : az_ln σ 2 = 900 := bz_fxL h (by decide)
theorem ln_4 {σ : az_Hp} (h : bz_Fx σ) : az_ln σ 4 = 8 := bz_fxL h (by decide)
theorem ln_5 {σ : az_Hp} (h : bz_Fx σ) : az_ln σ 5 = 8 := bz_fxL h (by decide)
theorem ln_6 {σ : az_Hp} (h : bz_Fx σ) : az_ln σ 6 = 5 := bz_fxL h (by decide)
theorem ln_7 {σ : az_Hp} (h : bz_Fx σ) : az_ln σ 7 = 5 := bz_fxL h (by decide)
theorem ln_8 {σ : az_Hp} (h : bz_Fx σ) : az_ln σ 8 = 5 := bz_fxL h (by decide)
theorem ln_9 {σ : az_Hp} (h : bz_Fx σ) : az_ln σ 9 = 5 := bz_fxL h (by decide)
theorem ln_10 {σ : az_Hp} (h : bz_Fx σ) : az_ln σ 10 = 16 := bz_fxL h (by decide)
theorem ln_11 {σ : az_Hp} (h : bz_Fx σ) : az_ln σ 11 = 16 := bz_fxL h (by decide)
theorem ln_14 {σ : az_Hp} (h : bz_Fx σ) : az_ln σ 14 = 256 := bz_fxL h (by decide)
theorem ln_15 {σ : az_Hp} (h : bz_Fx σ) : az_ln σ 15 = 5 := bz_fxL h (by decide)
theorem ln_16 {σ : az_Hp} (h : bz_Fx σ) : az_ln σ 16 = 5 := bz_fxL h (by decide)
theorem ln_17 {σ : az_Hp} (h : bz_Fx σ) : az_ln σ 17 = 5 := bz_fxL h (by decide)
theorem ln_83 {σ : az_Hp} (h : bz_Fx σ) : az_ln σ 83 = 8 := bz_fxL h (by decide)
theorem ln_84 {σ : az_Hp} (h : bz_Fx σ) : az_ln σ 84 = 8 := bz_fxL h (by decide)
theorem ln_85 {σ : az_Hp} (h : bz_Fx σ) : az_ln σ 85 = 5 := bz_fxL h (by decide)
theorem ln_86 {σ : az_Hp} (h : bz_Fx σ) : az_ln σ 86 = 5 := bz_fxL h (by decide)
theorem ln_87 {σ : az_Hp} (h : bz_Fx σ) : az_ln σ 87 = 5 := bz_fxL h (by decide)
theorem ln_88 {σ : az_Hp} (h : bz_Fx σ) : az_ln σ 88 = 5 := bz_fxL h (by decide)
theorem ln_89 {σ : az_Hp} (h : bz_Fx σ) : az_ln σ 89 = 16 := bz_fxL h (by decide)
theorem ln_90 {σ : az_Hp} (h : bz_Fx σ) : az_ln σ 90 = 16 := bz_fxL h (by decide)
theorem ln_93 {σ : az_Hp} (h : bz_Fx σ) : az_ln σ 93 = 256 := bz_fxL h (by decide)
theorem ln_94 {σ : az_Hp} (h : bz_Fx σ) : az_ln σ 94 = 5 := bz_fxL h (by decide)
theorem ln_95 {σ : az_Hp} (h : bz_Fx σ) : az_ln σ 95 = 5 := bz_fxL h (by decide)
theorem ln_96 {σ : az_Hp} (h : bz_Fx σ) : az_ln σ 96 = 5 := bz_fxL h (by decide)
theorem ln_166 {σ : az_Hp} (h : bz_Fx σ) : az_ln σ 166 = 6 := bz_fxL h (by decide)
theorem ln_224 {σ : az_Hp} (h : bz_Fx σ) : az_ln σ 224 = 12 := bz_fxL h (by decide)
theorem ln_226 {σ : az_Hp} (h : bz_Fx σ) : az_ln σ 226 = 901 := bz_fxL h (by decide)
theorem ln_227 {σ : az_Hp} (h : bz_Fx σ) : az_ln σ 227 = 901 := bz_fxL h (by decide)
theorem ln_228 {σ : az_Hp} (h : bz_Fx σ) : az_ln σ 228 = 901 := bz_fxL h (by decide)
theorem ln_229 {σ : az_Hp} (h : bz_Fx σ) : az_ln σ 229 = 60 := bz_fxL h (by decide)
theorem ln_230 {σ : az_Hp} (h : bz_Fx σ) : az_ln σ 230 = 60 := bz_fxL h (by decide)
theorem ln_232 {σ : az_Hp} (h : bz_Fx σ) : az_ln σ 232 = 128 := bz_fxL h (by decide)
theorem ln_233 {σ : az_Hp} (h : bz_Fx σ) : az_ln σ 233 = 128 := bz_fxL h (by decide)
theorem ln_234 {σ : az_Hp} (h : bz_Fx σ) : az_ln σ 234 = 128 := bz_fxL h (by decide)
theorem ln_235 {σ : az_Hp} (h : bz_Fx σ) : az_ln σ 235 = 128 := bz_fxL h (by decide)
theorem ln_236 {σ : az_Hp} (h : bz_Fx σ) : az_ln σ 236 = 128 := bz_fxL h (by decide)
theorem ln_237 {σ : az_Hp} (h : bz_Fx σ) : az_ln σ 237 = 128 := bz_fxL h (by decide)
theorem ln_238 {σ : az_Hp} (h : bz_Fx σ) : az_ln σ 238 = 384 := bz_fxL h (by decide)
theorem ln_239 {σ : az_Hp} (h : bz_Fx σ) : az_ln σ 239 = 1024 := bz_fxL h (by decide)
theorem ln_240 {σ : az_Hp} (h : bz_Fx σ) : az_ln σ 240 = 128 := bz_fxL h (by decide)
theorem ln_241 {σ : az_Hp} (h : bz_Fx σ) : az_ln σ 241 = 128 := bz_fxL h (by decide)
theorem ln_249 {σ : az_Hp} (h : bz_Fx σ) : az_ln σ 249 = 60 := bz_fxL h (by decide)
theorem ln_250 {σ : az_Hp} (h : bz_Fx σ) : az_ln σ 250 = 60 := bz_fxL h (by decide)
theorem ln_251 {σ : az_Hp} (h : bz_Fx σ) : az_ln σ 251 = 60 := bz_fxL h (by decide)
theorem ln_252 {σ : az_Hp} (h : bz_Fx σ) : az_ln σ 252 = 6 := bz_fxL h (by decide)
theorem ln_379 {σ : az_Hp} (h : bz_Fx σ) : az_ln σ 379 = 12 := bz_fxL h (by decide)
theorem ln_381 {σ : az_Hp} (h : bz_Fx σ) : az_ln σ 381 = 6 := bz_fxL h (by decide)
theorem ln_383 {σ : az_Hp} (h : bz_Fx σ) : az_ln σ 383 = 100 := bz_fxL h (by decide)
theorem ln_384 {σ : az_Hp} (h : bz_Fx σ) : az_ln σ 384 = 100 := bz_fxL h (by decide)
theorem ln_387 {σ : az_Hp} (h : bz_Fx σ) : az_ln σ 387 = 7 := bz_fxL h (by decide)
theorem ln_388 {σ : az_Hp} (h : bz_Fx σ) : az_ln σ 388 = 7 := bz_fxL h (by decide)
theorem ln_802 {σ : az_Hp} (h : bz_Fx σ) : az_ln σ 802 = 1024 := bz_fxL h (by decide)
theorem ln_803 {σ : az_Hp} (h : bz_Fx σ) : az_ln σ 803 = 1024 := bz_fxL h (by decide)
theorem ln_805 {σ : az_Hp} (h : bz_Fx σ) : az_ln σ 805 = 900 := bz_fxL h (by decide)
theorem ln_806 {σ : az_Hp} (h : bz_Fx σ) : az_ln σ 806 = 2 := bz_fxL h (by decide)
theorem ln_807 {σ : az_Hp} (h : bz_Fx σ) : az_ln σ 807 = 2 := bz_fxL h (by decide)
theorem ln_808 {σ : az_Hp} (h : bz_Fx σ) : az_ln σ 808 = 2 := bz_fxL h (by decide)
theorem ln_809 {σ : az_Hp} (h : bz_Fx σ) : az_ln σ 809 = 16 := bz_fxL h (by decide)
theorem ln_810 {σ : az_Hp} (h : bz_Fx σ) : az_ln σ 810 = 10 := bz_fxL h (by decide)
theorem ln_811 {σ : az_Hp} (h : bz_Fx σ) : az_ln σ 811 = 16 := bz_fxL h (by decide)
theorem ln_812 {σ : az_Hp} (h : bz_Fx σ) : az_ln σ 812 = 10 := bz_fxL h (by decide)
theorem ln_813 {σ : az_Hp} (h : bz_Fx σ) : az_ln σ 813 = 10 := bz_fxL h (by decide)
theorem ln_814 {σ : az_Hp} (h : bz_Fx σ) : az_ln σ 814 = 10 := bz_fxL h (by decide)
theorem ln_815 {σ : az_Hp} (h : bz_Fx σ) : az_ln σ 815 = 512 := bz_fxL h (by decide)
theorem ln_816 {σ : az_Hp} (h : bz_Fx σ) : az_ln σ 816 = 512 := bz_fxL h (by decide)
theorem ln_817 {σ : az_Hp} (h : bz_Fx σ) : az_ln σ 817 = 32 := bz_fxL h (by decide)
theorem ln_818 {σ : az_Hp} (h : bz_Fx σ) : az_ln σ 818 = 32 := bz_fxL h (by decide)
theorem ln_819 {σ : az_Hp} (h : bz_Fx σ) : az_ln σ 819 = 32 := bz_fxL h (by decide)
theorem ln_820 {σ : az_Hp} (h : bz_Fx σ) : az_ln σ 820 = 64 := bz_fxL h (by decide)
theorem ln_821 {σ : az_Hp} (h : bz_Fx σ) : az_ln σ 821 = 450 := bz_fxL h (by decide)
theorem ln_822 {σ : az_Hp} (h : bz_Fx σ) : az_ln σ 822 = 6 := bz_fxL h (by decide)
theorem ln_823 {σ : az_Hp} (h : bz_Fx σ) : az_ln σ 823 = 400 := bz_fxL h (by decide)
theorem ln_824 {σ : az_Hp} (h : bz_Fx σ) : az_ln σ 824 = 1200 := bz_fxL h (by decide)
theorem ln_825 {σ : az_Hp} (h : bz_Fx σ) : az_ln σ 825 = 400 := bz_fxL h (by decide)
theorem ln_826 {σ : az_Hp} (h : bz_Fx σ) : az_ln σ 826 = 400 := bz_fxL h (by decide)
theorem ln_827 {σ : az_Hp} (h : bz_Fx σ) : az_ln σ 827 = 200 := bz_fxL h (by decide)
theorem ln_828 {σ : az_Hp} (h : bz_Fx σ) : az_ln σ 828 = 200 := bz_fxL h (by decide)
theorem ln_829 {σ : az_Hp} (h : bz_Fx σ) : az_ln σ 829 = 200 := bz_fxL h (by decide)
theorem ln_830 {σ : az_Hp} (h : bz_Fx σ) : az_ln σ 830 = 64 := bz_fxL h (by decide)
theorem ln_831 {σ : az_Hp} (h : bz_Fx σ) : az_ln σ 831 = 64 := bz_fxL h (by decide)
theorem ln_832 {σ : az_Hp} (h : bz_Fx σ) : az_ln σ 832 = 64 := bz_fxL h (by decide)
theorem ln_833 {σ : az_Hp} (h : bz_Fx σ) : az_ln σ 833 = 4 := bz_fxL h (by decide)
theorem ln_834 {σ : az_Hp} (h : bz_Fx σ) : az_ln σ 834 = 256 := bz_fxL h (by decide)
theorem ln_835 {σ : az_Hp} (h : bz_Fx σ) : az_ln σ 835 = 256 := bz_fxL h (by decide)
theorem ln_836 {σ : az_Hp} (h : bz_Fx σ) : az_ln σ 836 = 100000 := bz_fxL h (by decide)
theorem ln_837 {σ : az_Hp} (h : bz_Fx σ) : az_ln σ 837 = 200 := bz_fxL h (by decide)
theorem ln_838 {σ : az_Hp} (h : bz_Fx σ) : az_ln σ 838 = 6 := bz_fxL h (by decide)
theorem ln_839 {σ : az_Hp} (h : bz_Fx σ) : az_ln σ 839 = 6 := bz_fxL h (by decide)
theorem ln_840 {σ : az_Hp} (h : bz_Fx σ) : az_ln σ 840 = 64 := bz_fxL h (by decide)
theorem ln_841 {σ : az_Hp} (h : bz_Fx σ) : az_ln σ 841 = 64 := bz_fxL h (by decide)
theorem ln_842 {σ : az_Hp} (h : bz_Fx σ) : az_ln σ 842 = 3660 := bz_fxL h (by decide)
theorem ln_843 {σ : az_Hp} (h : bz_Fx σ) : az_ln σ 843 = 61 := bz_fxL h (by decide)
theorem ln_844 {σ : az_Hp} (h : bz_Fx σ) : az_ln σ 844 = 64 := bz_fxL h (by decide)
theorem ln_845 {σ : az_Hp} (h : bz_Fx σ) : az_ln σ 845 = 12 := bz_fxL h (by decide)
theorem ln_846 {σ : az_Hp} (h : bz_Fx σ) : az_ln σ 846 = 64 := bz_fxL h (by decide)
theorem ln_847 {σ : az_Hp} (h : bz_Fx σ) : az_ln σ 847 = 64 := bz_fxL h (by decide)
theorem ln_848 {σ : az_Hp} (h : bz_Fx σ) : az_ln σ 848 = 180 := bz_fxL h (by decide)
theorem ln_849 {σ : az_Hp} (h : bz_Fx σ) : az_ln σ 849 = 180 := bz_fxL h (by decide)
theorem ln_850 {σ : az_Hp} (h : bz_Fx σ) : az_ln σ 850 = 6 := bz_fxL h (by decide)
theorem ln_851 {σ : az_Hp} (h : bz_Fx σ) : az_ln σ 851 = 6 := bz_fxL h (by decide)
theorem ln_852 {σ : az_Hp} (h : bz_Fx σ) : az_ln σ 852 = 180 := bz_fxL h (by decide)
theorem ln_853 {σ : az_Hp} (h : bz_Fx σ) : az_ln σ 853 = 180 := bz_fxL h (by decide)
theorem ln_854 {σ : az_Hp} (h : bz_Fx σ) : az_ln σ 854 = 6 := bz_fxL h (by decide)
theorem ln_855 {σ : az_Hp} (h : bz_Fx σ) : az_ln σ 855 = 6 := bz_fxL h (by decide)
theorem ln_856 {σ : az_Hp} (h : bz_Fx σ) : az_ln σ 856 = 480 := bz_fxL h (by decide)
theorem ln_857 {σ : az_Hp} (h : bz_Fx σ) : az_ln σ 857 = 16 := bz_fxL h (by decide)
theorem ln_858 {σ : az_Hp} (h : bz_Fx σ) : az_ln σ 858 = 450 := bz_fxL h (by decide)
theorem ln_859 {σ : az_Hp} (h : bz_Fx σ) : az_ln σ 859 = 6 := bz_fxL h (by decide)
theorem ln_860 {σ : az_Hp} (h : bz_Fx σ) : az_ln σ 860 = 24480 := bz_fxL h (by decide)
theorem ln_861 {σ : az_Hp} (h : bz_Fx σ) : az_ln σ 861 = 408 := bz_fxL h (by decide)
theorem ln_862 {σ : az_Hp} (h : bz_Fx σ) : az_ln σ 862 = 204 := bz_fxL h (by decide)
theorem ln_863 {σ : az_Hp} (h : bz_Fx σ) : az_ln σ 863 = 360 := bz_fxL h (by decide)
theorem ln_864 {σ : az_Hp} (h : bz_Fx σ) : az_ln σ 864 = 6 := bz_fxL h (by decide)
theorem ln_865 {σ : az_Hp} (h : bz_Fx σ) : az_ln σ 865 = 204 := bz_fxL h (by decide)
theorem ln_866 {σ : az_Hp} (h : bz_Fx σ) : az_ln σ 866 = 64 := bz_fxL h (by decide)
theorem ln_867 {σ : az_Hp} (h : bz_Fx σ) : az_ln σ 867 = 64 := bz_fxL h (by decide)
