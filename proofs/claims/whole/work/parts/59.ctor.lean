/-! the constructors -/
def bz_L_X10_init_1 : List (Int × Int × Int) := [(1, 0, 2), (1, 1, 0), (1, 2, 0), (1, 3, (-1))]
theorem bz_c_X10_init_1 {σ : az_Hp} (h : bz_B σ 1 0) : ∃ σ', fz_X10_init 2000000 σ 1 = fz_X10_init_28 2000000 σ' 1 ∧ bz_B σ' 2 0 ∧ (∀ a k : Int, a < 1 → σ'.2 a k = σ.2 a k) ∧ (∀ p ∈ bz_L_X10_init_1, σ'.2 p.1 p.2.1 = p.2.2) := by
  obtain ⟨σ1, e1, b1, f1⟩ := h.newO (z := 900) (r := 2) (c' := 2) 13 (by omega) (by omega) (by omega) (by omega) (by decide) (by omega) (by omega)
  have b2 := b1.wr (a := 1) (i := 0) (x := 2) (by omega)
  have b3 := b2.wr (a := 1) (i := 1) (x := 0) (by omega)
  have b4 := b3.wr (a := 1) (i := 2) (x := 0) (by omega)
  have b5 := b4.wr (a := 1) (i := 3) (x := (-1)) (by omega)
  refine ⟨(az_wr (az_wr (az_wr (az_wr σ1 1 0 2) 1 1 0) 1 2 0) 1 3 (-1)), ?_, b5, ?_, ?_⟩
  · unfold fz_X10_init
    rw [e1, Option.bind_some]
    try dsimp only
  · intro a k ha
    simp (disch := omega) only [az_wr_ne, az_wr_same, Int.reduceAdd, f1]
  · intro p hp
    simp only [bz_L_X10_init_1, List.mem_cons, List.not_mem_nil, or_false] at hp
    rcases hp with rfl | rfl | rfl | rfl
    · simp (disch := omega) only [az_wr_ne, az_wr_same, Int.reduceAdd, f1]
    · simp (disch := omega) only [az_wr_ne, az_wr_same, Int.reduceAdd, f1]
    · simp (disch := omega) only [az_wr_ne, az_wr_same, Int.reduceAdd, f1]
    · simp (disch := omega) only [az_wr_ne, az_wr_same, Int.reduceAdd, f1]
def bz_L_X9_init_3 : List (Int × Int × Int) := [(3, 0, 0), (3, 1, 0), (3, 2, 0), (3, 3, 4), (3, 4, 5), (3, 5, 6), (3, 6, 7), (3, 7, 8), (3, 8, 9), (3, 9, 10), (3, 10, 11), (3, 11, 12), (3, 12, 13), (3, 13, 14), (3, 14, 15), (3, 15, 16), (3, 16, 17)]
theorem bz_c_X9_init_3 {σ : az_Hp} (h : bz_B σ 3 0) : ∃ σ', fz_X9_init 2000000 σ 3 = some σ' ∧ bz_B σ' 81 0 ∧ (∀ a k : Int, a < 3 → σ'.2 a k = σ.2 a k) ∧ (∀ p ∈ bz_L_X9_init_3, σ'.2 p.1 p.2.1 = p.2.2) ∧ (∀ q : Nat, 0 ≤ q → q < 16 → σ'.2 12 q = 18 + 4 * (q : Int) ∧ σ'.2 13 q = 20 + 4 * (q : Int) ∧ σ'.2 (18 + 4 * (q : Int)) 0 = 19 + 4 * (q : Int) ∧ σ'.2 (20 + 4 * (q : Int)) 0 = 21 + 4 * (q : Int)) := by
  have b1 := h.wr (a := 3) (i := 0) (x := 0) (by omega)
  have b2 := b1.wr (a := 3) (i := 1) (x := 0) (by omega)
  have b3 := b2.wr (a := 3) (i := 2) (x := 0) (by omega)
  obtain ⟨σ4, e4, b4, f4⟩ := b3.newO (z := 8) (r := 4) (c' := 4) 13 (by omega) (by omega) (by omega) (by omega) (by decide) (by omega) (by omega)
  have b5 := b4.wr (a := 3) (i := 3) (x := 4) (by omega)
  obtain ⟨σ6, e6, b6, f6⟩ := b5.newO (z := 8) (r := 5) (c' := 5) 13 (by omega) (by omega) (by omega) (by omega) (by decide) (by omega) (by omega)
  have b7 := b6.wr (a := 3) (i := 4) (x := 5) (by omega)
  obtain ⟨σ8, e8, b8, f8⟩ := b7.newO (z := 5) (r := 6) (c' := 6) 13 (by omega) (by omega) (by omega) (by omega) (by decide) (by omega) (by omega)
  have b9 := b8.wr (a := 3) (i := 5) (x := 6) (by omega)
  obtain ⟨σ10, e10, b10, f10⟩ := b9.newO (z := 5) (r := 7) (c' := 7) 13 (by omega) (by omega) (by omega) (by omega) (by decide) (by omega) (by omega)
  have b11 := b10.wr (a := 3) (i := 6) (x := 7) (by omega)
  obtain ⟨σ12, e12, b12, f12⟩ := b11.newO (z := 5) (r := 8) (c' := 8) 15 (by omega) (by omega) (by omega) (by omega) (by decide) (by omega) (by omega)
  have b13 := b12.wr (a := 3) (i := 7) (x := 8) (by omega)
  obtain ⟨σ14, e14, b14, f14⟩ := b13.newO (z := 5) (r := 9) (c' := 9) 15 (by omega) (by omega) (by omega) (by omega) (by decide) (by omega) (by omega)
  have b15 := b14.wr (a := 3) (i := 8) (x := 9) (by omega)
  obtain ⟨σ16, e16, b16, f16⟩ := b15.newO (z := 16) (r := 10) (c' := 10) 13 (by omega) (by omega) (by omega) (by omega) (by decide) (by omega) (by omega)
  have b17 := b16.wr (a := 3) (i := 9) (x := 10) (by omega)
  obtain ⟨σ18, e18, b18, f18⟩ := b17.newO (z := 16) (r := 11) (c' := 11) 13 (by omega) (by omega) (by omega) (by omega) (by decide) (by omega) (by omega)
  have b19 := b18.wr (a := 3) (i := 10) (x := 11) (by omega)
  obtain ⟨σ20, e20, b20, f20⟩ := b19.newO (z := 16) (r := 12) (c' := 12) 16 (by omega) (by omega) (by omega) (by omega) (by decide) (by omega) (by omega)
  have b21 := b20.wr (a := 3) (i := 11) (x := 12) (by omega)
  obtain ⟨σ22, e22, b22, f22⟩ := b21.newO (z := 16) (r := 13) (c' := 13) 16 (by omega) (by omega) (by omega) (by omega) (by decide) (by omega) (by omega)
  have b23 := b22.wr (a := 3) (i := 12) (x := 13) (by omega)
  obtain ⟨σ24, e24, b24, f24⟩ := b23.newO (z := 256) (r := 14) (c' := 14) 15 (by omega) (by omega) (by omega) (by omega) (by decide) (by omega) (by omega)
  have b25 := b24.wr (a := 3) (i := 13) (x := 14) (by omega)
  obtain ⟨σ26, e26, b26, f26⟩ := b25.newO (z := 5) (r := 15) (c' := 15) 13 (by omega) (by omega) (by omega) (by omega) (by decide) (by omega) (by omega)
  have b27 := b26.wr (a := 3) (i := 14) (x := 15) (by omega)
  obtain ⟨σ28, e28, b28, f28⟩ := b27.newO (z := 5) (r := 16) (c' := 16) 13 (by omega) (by omega) (by omega) (by omega) (by decide) (by omega) (by omega)
  have b29 := b28.wr (a := 3) (i := 15) (x := 16) (by omega)
  obtain ⟨σ30, e30, b30, f30⟩ := b29.newO (z := 5) (r := 17) (c' := 17) 13 (by omega) (by omega) (by omega) (by omega) (by decide) (by omega) (by omega)
  have b31 := b30.wr (a := 3) (i := 16) (x := 17) (by omega)
  have e33 : az_gref (az_wr σ30 3 16 17) 3 11 = some 12 := bz_gr (by simp (disch := omega) only [az_wr_ne, az_wr_same, Int.reduceAdd, f4, f6, f8, f10, f12, f14, f16, f18, f20, f22, f24, f26, f28, f30]) (by omega)
  have e34 : az_gref (az_wr σ30 3 16 17) 3 12 = some 13 := bz_gr (by simp (disch := omega) only [az_wr_ne, az_wr_same, Int.reduceAdd, f4, f6, f8, f10, f12, f14, f16, f18, f20, f22, f24, f26, f28, f30]) (by omega)
  obtain ⟨σ32, e32, b32, f32, -, w32⟩ := bz_lp_told3 (n := 2000000) 16 2000000 0 _ (by omega) (by omega) (by simpa using b31) e33 e34
  simp only [Int.natCast_zero] at e32 f32
  refine ⟨σ32, ?_, b32, ?_, ?_, ?_⟩
  · unfold fz_X9_init
    rw [e4, Option.bind_some]
    try dsimp only
    rw [e6, Option.bind_some]
    try dsimp only
    rw [e8, Option.bind_some]
    try dsimp only
    rw [e10, Option.bind_some]
    try dsimp only
    rw [e12, Option.bind_some]
    try dsimp only
    rw [e14, Option.bind_some]
    try dsimp only
    rw [e16, Option.bind_some]
    try dsimp only
    rw [e18, Option.bind_some]
    try dsimp only
    rw [e20, Option.bind_some]
    try dsimp only
    rw [e22, Option.bind_some]
    try dsimp only
    rw [e24, Option.bind_some]
    try dsimp only
    rw [e26, Option.bind_some]
    try dsimp only
    rw [e28, Option.bind_some]
    try dsimp only
    rw [e30, Option.bind_some]
    try dsimp only
    exact e32
  · intro a k ha
    simp (disch := omega) only [az_wr_ne, az_wr_same, Int.reduceAdd, f4, f6, f8, f10, f12, f14, f16, f18, f20, f22, f24, f26, f28, f30, f32]
  · intro p hp
    simp only [bz_L_X9_init_3, List.mem_cons, List.not_mem_nil, or_false] at hp
    rcases hp with rfl | rfl | rfl | rfl | rfl | rfl | rfl | rfl | rfl | rfl | rfl | rfl | rfl | rfl | rfl | rfl | rfl
    · simp (disch := omega) only [az_wr_ne, az_wr_same, Int.reduceAdd, f4, f6, f8, f10, f12, f14, f16, f18, f20, f22, f24, f26, f28, f30, f32]
    · simp (disch := omega) only [az_wr_ne, az_wr_same, Int.reduceAdd, f4, f6, f8, f10, f12, f14, f16, f18, f20, f22, f24, f26, f28, f30, f32]
    · simp (disch := omega) only [az_wr_ne, az_wr_same, Int.reduceAdd, f4, f6, f8, f10, f12, f14, f16, f18, f20, f22, f24, f26, f28, f30, f32]
    · simp (disch := omega) only [az_wr_ne, az_wr_same, Int.reduceAdd, f4, f6, f8, f10, f12, f14, f16, f18, f20, f22, f24, f26, f28, f30, f32]
    · simp (disch := omega) only [az_wr_ne, az_wr_same, Int.reduceAdd, f4, f6, f8, f10, f12, f14, f16, f18, f20, f22, f24, f26, f28, f30, f32]
    · simp (disch := omega) only [az_wr_ne, az_wr_same, Int.reduceAdd, f4, f6, f8, f10, f12, f14, f16, f18, f20, f22, f24, f26, f28, f30, f32]
    · simp (disch := omega) only [az_wr_ne, az_wr_same, Int.reduceAdd, f4, f6, f8, f10, f12, f14, f16, f18, f20, f22, f24, f26, f28, f30, f32]
    · simp (disch := omega) only [az_wr_ne, az_wr_same, Int.reduceAdd, f4, f6, f8, f10, f12, f14, f16, f18, f20, f22, f24, f26, f28, f30, f32]
    · simp (disch := omega) only [az_wr_ne, az_wr_same, Int.reduceAdd, f4, f6, f8, f10, f12, f14, f16, f18, f20, f22, f24, f26, f28, f30, f32]
    · simp (disch := omega) only [az_wr_ne, az_wr_same, Int.reduceAdd, f4, f6, f8, f10, f12, f14, f16, f18, f20, f22, f24, f26, f28, f30, f32]
    · simp (disch := omega) only [az_wr_ne, az_wr_same, Int.reduceAdd, f4, f6, f8, f10, f12, f14, f16, f18, f20, f22, f24, f26, f28, f30, f32]
    · simp (disch := omega) only [az_wr_ne, az_wr_same, Int.reduceAdd, f4, f6, f8, f10, f12, f14, f16, f18, f20, f22, f24, f26, f28, f30, f32]
    · simp (disch := omega) only [az_wr_ne, az_wr_same, Int.reduceAdd, f4, f6, f8, f10, f12, f14, f16, f18, f20, f22, f24, f26, f28, f30, f32]
    · simp (disch := omega) only [az_wr_ne, az_wr_same, Int.reduceAdd, f4, f6, f8, f10, f12, f14, f16, f18, f20, f22, f24, f26, f28, f30, f32]
    · simp (disch := omega) only [az_wr_ne, az_wr_same, Int.reduceAdd, f4, f6, f8, f10, f12, f14, f16, f18, f20, f22, f24, f26, f28, f30, f32]
    · simp (disch := omega) only [az_wr_ne, az_wr_same, Int.reduceAdd, f4, f6, f8, f10, f12, f14, f16, f18, f20, f22, f24, f26, f28, f30, f32]
    · simp (disch := omega) only [az_wr_ne, az_wr_same, Int.reduceAdd, f4, f6, f8, f10, f12, f14, f16, f18, f20, f22, f24, f26, f28, f30, f32]
  · exact w32
def bz_L_X9_init_82 : List (Int × Int × Int) := [(82, 0, 0), (82, 1, 0), (82, 2, 0), (82, 3, 83), (82, 4, 84), (82, 5, 85), (82, 6, 86), (82, 7, 87), (82, 8, 88), (82, 9, 89), (82, 10, 90), (82, 11, 91), (82, 12, 92), (82, 13, 93), (82, 14, 94), (82, 15, 95), (82, 16, 96)]
theorem bz_c_X9_init_82 {σ : az_Hp} (h : bz_B σ 82 0) : ∃ σ', fz_X9_init 2000000 σ 82 = some σ' ∧ bz_B σ' 160 0 ∧ (∀ a k : Int, a < 82 → σ'.2 a k = σ.2 a k) ∧ (∀ p ∈ bz_L_X9_init_82, σ'.2 p.1 p.2.1 = p.2.2) ∧ (∀ q : Nat, 0 ≤ q → q < 16 → σ'.2 91 q = 97 + 4 * (q : Int) ∧ σ'.2 92 q = 99 + 4 * (q : Int) ∧ σ'.2 (97 + 4 * (q : Int)) 0 = 98 + 4 * (q : Int) ∧ σ'.2 (99 + 4 * (q : Int)) 0 = 100 + 4 * (q : Int)) := by
  have b1 := h.wr (a := 82) (i := 0) (x := 0) (by omega)
  have b2 := b1.wr (a := 82) (i := 1) (x := 0) (by omega)
  have b3 := b2.wr (a := 82) (i := 2) (x := 0) (by omega)
  obtain ⟨σ4, e4, b4, f4⟩ := b3.newO (z := 8) (r := 83) (c' := 83) 13 (by omega) (by omega) (by omega) (by omega) (by decide) (by omega) (by omega)
  have b5 := b4.wr (a := 82) (i := 3) (x := 83) (by omega)
  obtain ⟨σ6, e6, b6, f6⟩ := b5.newO (z := 8) (r := 84) (c' := 84) 13 (by omega) (by omega) (by omega) (by omega) (by decide) (by omega) (by omega)
  have b7 := b6.wr (a := 82) (i := 4) (x := 84) (by omega)
  obtain ⟨σ8, e8, b8, f8⟩ := b7.newO (z := 5) (r := 85) (c' := 85) 13 (by omega) (by omega) (by omega) (by omega) (by decide) (by omega) (by omega)
  have b9 := b8.wr (a := 82) (i := 5) (x := 85) (by omega)
  obtain ⟨σ10, e10, b10, f10⟩ := b9.newO (z := 5) (r := 86) (c' := 86) 13 (by omega) (by omega) (by omega) (by omega) (by decide) (by omega) (by omega)
  have b11 := b10.wr (a := 82) (i := 6) (x := 86) (by omega)
  obtain ⟨σ12, e12, b12, f12⟩ := b11.newO (z := 5) (r := 87) (c' := 87) 15 (by omega) (by omega) (by omega) (by omega) (by decide) (by omega) (by omega)
  have b13 := b12.wr (a := 82) (i := 7) (x := 87) (by omega)
  obtain ⟨σ14, e14, b14, f14⟩ := b13.newO (z := 5) (r := 88) (c' := 88) 15 (by omega) (by omega) (by omega) (by omega) (by decide) (by omega) (by omega)
  have b15 := b14.wr (a := 82) (i := 8) (x := 88) (by omega)
  obtain ⟨σ16, e16, b16, f16⟩ := b15.newO (z := 16) (r := 89) (c' := 89) 13 (by omega) (by omega) (by omega) (by omega) (by decide) (by omega) (by omega)
  have b17 := b16.wr (a := 82) (i := 9) (x := 89) (by omega)
  obtain ⟨σ18, e18, b18, f18⟩ := b17.newO (z := 16) (r := 90) (c' := 90) 13 (by omega) (by omega) (by omega) (by omega) (by decide) (by omega) (by omega)
  have b19 := b18.wr (a := 82) (i := 10) (x := 90) (by omega)
  obtain ⟨σ20, e20, b20, f20⟩ := b19.newO (z := 16) (r := 91) (c' := 91) 16 (by omega) (by omega) (by omega) (by omega) (by decide) (by omega) (by omega)
  have b21 := b20.wr (a := 82) (i := 11) (x := 91) (by omega)
  obtain ⟨σ22, e22, b22, f22⟩ := b21.newO (z := 16) (r := 92) (c' := 92) 16 (by omega) (by omega) (by omega) (by omega) (by decide) (by omega) (by omega)
  have b23 := b22.wr (a := 82) (i := 12) (x := 92) (by omega)
  obtain ⟨σ24, e24, b24, f24⟩ := b23.newO (z := 256) (r := 93) (c' := 93) 15 (by omega) (by omega) (by omega) (by omega) (by decide) (by omega) (by omega)
  have b25 := b24.wr (a := 82) (i := 13) (x := 93) (by omega)
  obtain ⟨σ26, e26, b26, f26⟩ := b25.newO (z := 5) (r := 94) (c' := 94) 13 (by omega) (by omega) (by omega) (by omega) (by decide) (by omega) (by omega)
  have b27 := b26.wr (a := 82) (i := 14) (x := 94) (by omega)
  obtain ⟨σ28, e28, b28, f28⟩ := b27.newO (z := 5) (r := 95) (c' := 95) 13 (by omega) (by omega) (by omega) (by omega) (by decide) (by omega) (by omega)
  have b29 := b28.wr (a := 82) (i := 15) (x := 95) (by omega)
  obtain ⟨σ30, e30, b30, f30⟩ := b29.newO (z := 5) (r := 96) (c' := 96) 13 (by omega) (by omega) (by omega) (by omega) (by decide) (by omega) (by omega)
  have b31 := b30.wr (a := 82) (i := 16) (x := 96) (by omega)
  have e33 : az_gref (az_wr σ30 82 16 96) 82 11 = some 91 := bz_gr (by simp (disch := omega) only [az_wr_ne, az_wr_same, Int.reduceAdd, f4, f6, f8, f10, f12, f14, f16, f18, f20, f22, f24, f26, f28, f30]) (by omega)
  have e34 : az_gref (az_wr σ30 82 16 96) 82 12 = some 92 := bz_gr (by simp (disch := omega) only [az_wr_ne, az_wr_same, Int.reduceAdd, f4, f6, f8, f10, f12, f14, f16, f18, f20, f22, f24, f26, f28, f30]) (by omega)
  obtain ⟨σ32, e32, b32, f32, -, w32⟩ := bz_lp_told82 (n := 2000000) 16 2000000 0 _ (by omega) (by omega) (by simpa using b31) e33 e34
  simp only [Int.natCast_zero] at e32 f32
  refine ⟨σ32, ?_, b32, ?_, ?_, ?_⟩
  · unfold fz_X9_init
    rw [e4, Option.bind_some]
    try dsimp only
    rw [e6, Option.bind_some]
    try dsimp only
    rw [e8, Option.bind_some]
    try dsimp only
    rw [e10, Option.bind_some]
    try dsimp only
    rw [e12, Option.bind_some]
    try dsimp only
    rw [e14, Option.bind_some]
    try dsimp only
    rw [e16, Option.bind_some]
    try dsimp only
    rw [e18, Option.bind_some]
    try dsimp only
    rw [e20, Option.bind_some]
    try dsimp only
    rw [e22, Option.bind_some]
    try dsimp only
    rw [e24, Option.bind_some]
    try dsimp only
    rw [e26, Option.bind_some]
    try dsimp only
    rw [e28, Option.bind_some]
    try dsimp only
    rw [e30, Option.bind_some]
    try dsimp only
    exact e32
  · intro a k ha
    simp (disch := omega) only [az_wr_ne, az_wr_same, Int.reduceAdd, f4, f6, f8, f10, f12, f14, f16, f18, f20, f22, f24, f26, f28, f30, f32]
  · intro p hp
    simp only [bz_L_X9_init_82, List.mem_cons, List.not_mem_nil, or_false] at hp
    rcases hp with rfl | rfl | rfl | rfl | rfl | rfl | rfl | rfl | rfl | rfl | rfl | rfl | rfl | rfl | rfl | rfl | rfl
    · simp (disch := omega) only [az_wr_ne, az_wr_same, Int.reduceAdd, f4, f6, f8, f10, f12, f14, f16, f18, f20, f22, f24, f26, f28, f30, f32]
    · simp (disch := omega) only [az_wr_ne, az_wr_same, Int.reduceAdd, f4, f6, f8, f10, f12, f14, f16, f18, f20, f22, f24, f26, f28, f30, f32]
    · simp (disch := omega) only [az_wr_ne, az_wr_same, Int.reduceAdd, f4, f6, f8, f10, f12, f14, f16, f18, f20, f22, f24, f26, f28, f30, f32]
    · simp (disch := omega) only [az_wr_ne, az_wr_same, Int.reduceAdd, f4, f6, f8, f10, f12, f14, f16, f18, f20, f22, f24, f26, f28, f30, f32]
    · simp (disch := omega) only [az_wr_ne, az_wr_same, Int.reduceAdd, f4, f6, f8, f10, f12, f14, f16, f18, f20, f22, f24, f26, f28, f30, f32]
    · simp (disch := omega) only [az_wr_ne, az_wr_same, Int.reduceAdd, f4, f6, f8, f10, f12, f14, f16, f18, f20, f22, f24, f26, f28, f30, f32]
    · simp (disch := omega) only [az_wr_ne, az_wr_same, Int.reduceAdd, f4, f6, f8, f10, f12, f14, f16, f18, f20, f22, f24, f26, f28, f30, f32]
    · simp (disch := omega) only [az_wr_ne, az_wr_same, Int.reduceAdd, f4, f6, f8, f10, f12, f14, f16, f18, f20, f22, f24, f26, f28, f30, f32]
    · simp (disch := omega) only [az_wr_ne, az_wr_same, Int.reduceAdd, f4, f6, f8, f10, f12, f14, f16, f18, f20, f22, f24, f26, f28, f30, f32]
    · simp (disch := omega) only [az_wr_ne, az_wr_same, Int.reduceAdd, f4, f6, f8, f10, f12, f14, f16, f18, f20, f22, f24, f26, f28, f30, f32]
    · simp (disch := omega) only [az_wr_ne, az_wr_same, Int.reduceAdd, f4, f6, f8, f10, f12, f14, f16, f18, f20, f22, f24, f26, f28, f30, f32]
    · simp (disch := omega) only [az_wr_ne, az_wr_same, Int.reduceAdd, f4, f6, f8, f10, f12, f14, f16, f18, f20, f22, f24, f26, f28, f30, f32]
    · simp (disch := omega) only [az_wr_ne, az_wr_same, Int.reduceAdd, f4, f6, f8, f10, f12, f14, f16, f18, f20, f22, f24, f26, f28, f30, f32]
    · simp (disch := omega) only [az_wr_ne, az_wr_same, Int.reduceAdd, f4, f6, f8, f10, f12, f14, f16, f18, f20, f22, f24, f26, f28, f30, f32]
    · simp (disch := omega) only [az_wr_ne, az_wr_same, Int.reduceAdd, f4, f6, f8, f10, f12, f14, f16, f18, f20, f22, f24, f26, f28, f30, f32]
    · simp (disch := omega) only [az_wr_ne, az_wr_same, Int.reduceAdd, f4, f6, f8, f10, f12, f14, f16, f18, f20, f22, f24, f26, f28, f30, f32]
    · simp (disch := omega) only [az_wr_ne, az_wr_same, Int.reduceAdd, f4, f6, f8, f10, f12, f14, f16, f18, f20, f22, f24, f26, f28, f30, f32]
  · exact w32
def bz_L_X6_init_161 : List (Int × Int × Int) := [(161, 0, 0), (161, 1, 0), (161, 2, 0), (161, 3, 162), (161, 4, 163), (161, 5, 164), (161, 6, 165), (161, 7, 166)]
theorem bz_c_X6_init_161 {σ : az_Hp} (h : bz_B σ 161 0) : ∃ σ', fz_X6_init 2000000 σ 161 = some σ' ∧ bz_B σ' 222 0 ∧ (∀ a k : Int, a < 161 → σ'.2 a k = σ.2 a k) ∧ (∀ p ∈ bz_L_X6_init_161, σ'.2 p.1 p.2.1 = p.2.2) ∧ (∀ q : Nat, 0 ≤ q → q < 6 → σ'.2 162 q = 167 + 4 * (q : Int) ∧ σ'.2 163 q = 169 + 4 * (q : Int) ∧ σ'.2 (167 + 4 * (q : Int)) 0 = 168 + 4 * (q : Int) ∧ σ'.2 (169 + 4 * (q : Int)) 0 = 170 + 4 * (q : Int)) ∧ (∀ q : Nat, 0 ≤ q → q < 8 → σ'.2 164 q = 191 + 4 * (q : Int) ∧ σ'.2 165 q = 193 + 4 * (q : Int) ∧ σ'.2 (191 + 4 * (q : Int)) 0 = 192 + 4 * (q : Int) ∧ σ'.2 (193 + 4 * (q : Int)) 0 = 194 + 4 * (q : Int)) := by
  have b1 := h.wr (a := 161) (i := 0) (x := 0) (by omega)
  have b2 := b1.wr (a := 161) (i := 1) (x := 0) (by omega)
  have b3 := b2.wr (a := 161) (i := 2) (x := 0) (by omega)
  obtain ⟨σ4, e4, b4, f4⟩ := b3.newO (z := 6) (r := 162) (c' := 162) 16 (by omega) (by omega) (by omega) (by omega) (by decide) (by omega) (by omega)
  have b5 := b4.wr (a := 161) (i := 3) (x := 162) (by omega)
  obtain ⟨σ6, e6, b6, f6⟩ := b5.newO (z := 6) (r := 163) (c' := 163) 16 (by omega) (by omega) (by omega) (by omega) (by decide) (by omega) (by omega)
  have b7 := b6.wr (a := 161) (i := 4) (x := 163) (by omega)
  obtain ⟨σ8, e8, b8, f8⟩ := b7.newO (z := 8) (r := 164) (c' := 164) 16 (by omega) (by omega) (by omega) (by omega) (by decide) (by omega) (by omega)
  have b9 := b8.wr (a := 161) (i := 5) (x := 164) (by omega)
  obtain ⟨σ10, e10, b10, f10⟩ := b9.newO (z := 8) (r := 165) (c' := 165) 16 (by omega) (by omega) (by omega) (by omega) (by decide) (by omega) (by omega)
  have b11 := b10.wr (a := 161) (i := 6) (x := 165) (by omega)
  obtain ⟨σ12, e12, b12, f12⟩ := b11.newO (z := 6) (r := 166) (c' := 166) 13 (by omega) (by omega) (by omega) (by omega) (by decide) (by omega) (by omega)
  have b13 := b12.wr (a := 161) (i := 7) (x := 166) (by omega)
  have e15 : az_gref (az_wr σ12 161 7 166) 161 3 = some 162 := bz_gr (by simp (disch := omega) only [az_wr_ne, az_wr_same, Int.reduceAdd, f4, f6, f8, f10, f12]) (by omega)
  have e16 : az_gref (az_wr σ12 161 7 166) 161 4 = some 163 := bz_gr (by simp (disch := omega) only [az_wr_ne, az_wr_same, Int.reduceAdd, f4, f6, f8, f10, f12]) (by omega)
  obtain ⟨σ14, e14, b14, f14, -, w14⟩ := bz_lp_reqG (n := 2000000) 6 2000000 0 _ (by omega) (by omega) (by simpa using b13) e15 e16
  simp only [Int.natCast_zero] at e14 f14
  have e17 : az_gref σ14 161 5 = some 164 := bz_gr (by simp (disch := omega) only [az_wr_ne, az_wr_same, Int.reduceAdd, f4, f6, f8, f10, f12, f14]) (by omega)
  have e18 : az_gref σ14 161 6 = some 165 := bz_gr (by simp (disch := omega) only [az_wr_ne, az_wr_same, Int.reduceAdd, f4, f6, f8, f10, f12, f14]) (by omega)
  obtain ⟨σ19, e19, b19, f19, -, w19⟩ := bz_lp_reqW (n := 2000000) 8 2000000 0 _ (by omega) (by omega) (by simpa using b14) e17 e18
  simp only [Int.natCast_zero] at e19 f19
  refine ⟨σ19, ?_, b19, ?_, ?_, ?_, ?_⟩
  · unfold fz_X6_init
    rw [e4, Option.bind_some]
    try dsimp only
    rw [e6, Option.bind_some]
    try dsimp only
    rw [e8, Option.bind_some]
    try dsimp only
    rw [e10, Option.bind_some]
    try dsimp only
    rw [e12, Option.bind_some]
    try dsimp only
    rw [e14]
    exact e19
  · intro a k ha
    simp (disch := omega) only [az_wr_ne, az_wr_same, Int.reduceAdd, f4, f6, f8, f10, f12, f14, f19]
  · intro p hp
    simp only [bz_L_X6_init_161, List.mem_cons, List.not_mem_nil, or_false] at hp
    rcases hp with rfl | rfl | rfl | rfl | rfl | rfl | rfl | rfl
    · simp (disch := omega) only [az_wr_ne, az_wr_same, Int.reduceAdd, f4, f6, f8, f10, f12, f14, f19]
    · simp (disch := omega) only [az_wr_ne, az_wr_same, Int.reduceAdd, f4, f6, f8, f10, f12, f14, f19]
    · simp (disch := omega) only [az_wr_ne, az_wr_same, Int.reduceAdd, f4, f6, f8, f10, f12, f14, f19]
    · simp (disch := omega) only [az_wr_ne, az_wr_same, Int.reduceAdd, f4, f6, f8, f10, f12, f14, f19]
    · simp (disch := omega) only [az_wr_ne, az_wr_same, Int.reduceAdd, f4, f6, f8, f10, f12, f14, f19]
    · simp (disch := omega) only [az_wr_ne, az_wr_same, Int.reduceAdd, f4, f6, f8, f10, f12, f14, f19]
    · simp (disch := omega) only [az_wr_ne, az_wr_same, Int.reduceAdd, f4, f6, f8, f10, f12, f14, f19]
    · simp (disch := omega) only [az_wr_ne, az_wr_same, Int.reduceAdd, f4, f6, f8, f10, f12, f14, f19]
  · exact fun q q0 q1 => by have := w14 q q0 q1; rw [f19 _ _ (by omega) (by omega) (by omega), f19 _ _ (by omega) (by omega) (by omega), f19 _ _ (by omega) (by omega) (by omega), f19 _ _ (by omega) (by omega) (by omega)]; exact this
  · exact w19
def bz_L_X10_init_28_1 : List (Int × Int × Int) := [(1, 4, (-1)), (1, 5, 3), (1, 6, 82), (1, 7, 161), (3, 0, 0), (3, 1, 0), (3, 2, 0), (3, 3, 4), (3, 4, 5), (3, 5, 6), (3, 6, 7), (3, 7, 8), (3, 8, 9), (3, 9, 10), (3, 10, 11), (3, 11, 12), (3, 12, 13), (3, 13, 14), (3, 14, 15), (3, 15, 16), (3, 16, 17), (82, 0, 0), (82, 1, 0), (82, 2, 0), (82, 3, 83), (82, 4, 84), (82, 5, 85), (82, 6, 86), (82, 7, 87), (82, 8, 88), (82, 9, 89), (82, 10, 90), (82, 11, 91), (82, 12, 92), (82, 13, 93), (82, 14, 94), (82, 15, 95), (82, 16, 96), (161, 0, 0), (161, 1, 0), (161, 2, 0), (161, 3, 162), (161, 4, 163), (161, 5, 164), (161, 6, 165), (161, 7, 166)]
theorem bz_c_X10_init_28_1 {σ : az_Hp} (h : bz_B σ 2 0) : ∃ σ', fz_X10_init_28 2000000 σ 1 = fz_X10_init_66 2000000 σ' 1 ∧ bz_B σ' 222 0 ∧ (∀ a k : Int, a ≤ 2 → (a ≠ 1 ∨ (k ≠ 4 ∧ k ≠ 5 ∧ k ≠ 6 ∧ k ≠ 7)) → σ'.2 a k = σ.2 a k) ∧ (∀ p ∈ bz_L_X10_init_28_1, σ'.2 p.1 p.2.1 = p.2.2) ∧ (∀ q : Nat, 0 ≤ q → q < 16 → σ'.2 12 q = 18 + 4 * (q : Int) ∧ σ'.2 13 q = 20 + 4 * (q : Int) ∧ σ'.2 (18 + 4 * (q : Int)) 0 = 19 + 4 * (q : Int) ∧ σ'.2 (20 + 4 * (q : Int)) 0 = 21 + 4 * (q : Int)) ∧ (∀ q : Nat, 0 ≤ q → q < 16 → σ'.2 91 q = 97 + 4 * (q : Int) ∧ σ'.2 92 q = 99 + 4 * (q : Int) ∧ σ'.2 (97 + 4 * (q : Int)) 0 = 98 + 4 * (q : Int) ∧ σ'.2 (99 + 4 * (q : Int)) 0 = 100 + 4 * (q : Int)) ∧ (∀ q : Nat, 0 ≤ q → q < 6 → σ'.2 162 q = 167 + 4 * (q : Int) ∧ σ'.2 163 q = 169 + 4 * (q : Int) ∧ σ'.2 (167 + 4 * (q : Int)) 0 = 168 + 4 * (q : Int) ∧ σ'.2 (169 + 4 * (q : Int)) 0 = 170 + 4 * (q : Int)) ∧ (∀ q : Nat, 0 ≤ q → q < 8 → σ'.2 164 q = 191 + 4 * (q : Int) ∧ σ'.2 165 q = 193 + 4 * (q : Int) ∧ σ'.2 (191 + 4 * (q : Int)) 0 = 192 + 4 * (q : Int) ∧ σ'.2 (193 + 4 * (q : Int)) 0 = 194 + 4 * (q : Int)) := by
  have b1 := h.wr (a := 1) (i := 4) (x := (-1)) (by omega)
  obtain ⟨σ2, e2, b2, f2⟩ := b1.newO (z := 17) (r := 3) (c' := 3) 9 (by omega) (by omega) (by omega) (by omega) (by decide) (by omega) (by omega)
  obtain ⟨σ3, e3, b3, f3, u3, w3⟩ := bz_c_X9_init_3 b2
  have b4 := b3.wr (a := 1) (i := 5) (x := 3) (by omega)
  obtain ⟨σ5, e5, b5, f5⟩ := b4.newO (z := 17) (r := 82) (c' := 82) 9 (by omega) (by omega) (by omega) (by omega) (by decide) (by omega) (by omega)
  obtain ⟨σ6, e6, b6, f6, u6, w6⟩ := bz_c_X9_init_82 b5
  have b7 := b6.wr (a := 1) (i := 6) (x := 82) (by omega)
  obtain ⟨σ8, e8, b8, f8⟩ := b7.newO (z := 8) (r := 161) (c' := 161) 6 (by omega) (by omega) (by omega) (by omega) (by decide) (by omega) (by omega)
  obtain ⟨σ9, e9, b9, f9, u9, w9⟩ := bz_c_X6_init_161 b8
  have b10 := b9.wr (a := 1) (i := 7) (x := 161) (by omega)
  refine ⟨(az_wr σ9 1 7 161), ?_, b10, ?_, ?_, ?_, ?_, ?_, ?_⟩
  · unfold fz_X10_init_28
    rw [e2, Option.bind_some]
    try dsimp only
    rw [e3, Option.bind_some]
    try dsimp only
    rw [e5, Option.bind_some]
    try dsimp only
    rw [e6, Option.bind_some]
    try dsimp only
    rw [e8, Option.bind_some]
    try dsimp only
    rw [e9, Option.bind_some]
    try dsimp only
  · intro a k ha hk
    simp (disch := omega) only [az_wr_ne, az_wr_same, Int.reduceAdd, f2, f3, f5, f6, f8, f9]
  · intro p hp
    simp only [bz_L_X10_init_28_1, List.mem_cons, List.not_mem_nil, or_false] at hp
    rcases hp with rfl | rfl | rfl | rfl | rfl | rfl | rfl | rfl | rfl | rfl | rfl | rfl | rfl | rfl | rfl | rfl | rfl | rfl | rfl | rfl | rfl | rfl | rfl | rfl | rfl | rfl | rfl | rfl | rfl | rfl | rfl | rfl | rfl | rfl | rfl | rfl | rfl | rfl | rfl | rfl | rfl | rfl | rfl | rfl | rfl | rfl
    · simp (disch := omega) only [az_wr_ne, az_wr_same, Int.reduceAdd, f2, f3, f5, f6, f8, f9]
    · simp (disch := omega) only [az_wr_ne, az_wr_same, Int.reduceAdd, f2, f3, f5, f6, f8, f9]
    · simp (disch := omega) only [az_wr_ne, az_wr_same, Int.reduceAdd, f2, f3, f5, f6, f8, f9]
    · simp (disch := omega) only [az_wr_ne, az_wr_same, Int.reduceAdd, f2, f3, f5, f6, f8, f9]
    · have q := u3 (3, 0, 0) (by decide)
      try simp (disch := omega) only [az_wr_ne, az_wr_same, Int.reduceAdd, f5, f6, f8, f9]
      exact q
    · have q := u3 (3, 1, 0) (by decide)
      try simp (disch := omega) only [az_wr_ne, az_wr_same, Int.reduceAdd, f5, f6, f8, f9]
      exact q
    · have q := u3 (3, 2, 0) (by decide)
      try simp (disch := omega) only [az_wr_ne, az_wr_same, Int.reduceAdd, f5, f6, f8, f9]
      exact q
    · have q := u3 (3, 3, 4) (by decide)
      try simp (disch := omega) only [az_wr_ne, az_wr_same, Int.reduceAdd, f5, f6, f8, f9]
      exact q
    · have q := u3 (3, 4, 5) (by decide)
      try simp (disch := omega) only [az_wr_ne, az_wr_same, Int.reduceAdd, f5, f6, f8, f9]
      exact q
    · have q := u3 (3, 5, 6) (by decide)
      try simp (disch := omega) only [az_wr_ne, az_wr_same, Int.reduceAdd, f5, f6, f8, f9]
      exact q
    · have q := u3 (3, 6, 7) (by decide)
      try simp (disch := omega) only [az_wr_ne, az_wr_same, Int.reduceAdd, f5, f6, f8, f9]
      exact q
    · have q := u3 (3, 7, 8) (by decide)
      try simp (disch := omega) only [az_wr_ne, az_wr_same, Int.reduceAdd, f5, f6, f8, f9]
      exact q
    · have q := u3 (3, 8, 9) (by decide)
      try simp (disch := omega) only [az_wr_ne, az_wr_same, Int.reduceAdd, f5, f6, f8, f9]
      exact q
    · have q := u3 (3, 9, 10) (by decide)
      try simp (disch := omega) only [az_wr_ne, az_wr_same, Int.reduceAdd, f5, f6, f8, f9]
      exact q
    · have q := u3 (3, 10, 11) (by decide)
      try simp (disch := omega) only [az_wr_ne, az_wr_same, Int.reduceAdd, f5, f6, f8, f9]
      exact q
    · have q := u3 (3, 11, 12) (by decide)
      try simp (disch := omega) only [az_wr_ne, az_wr_same, Int.reduceAdd, f5, f6, f8, f9]
      exact q
    · have q := u3 (3, 12, 13) (by decide)
      try simp (disch := omega) only [az_wr_ne, az_wr_same, Int.reduceAdd, f5, f6, f8, f9]
      exact q
    · have q := u3 (3, 13, 14) (by decide)
      try simp (disch := omega) only [az_wr_ne, az_wr_same, Int.reduceAdd, f5, f6, f8, f9]
      exact q
    · have q := u3 (3, 14, 15) (by decide)
      try simp (disch := omega) only [az_wr_ne, az_wr_same, Int.reduceAdd, f5, f6, f8, f9]
      exact q
    · have q := u3 (3, 15, 16) (by decide)
      try simp (disch := omega) only [az_wr_ne, az_wr_same, Int.reduceAdd, f5, f6, f8, f9]
      exact q
    · have q := u3 (3, 16, 17) (by decide)
      try simp (disch := omega) only [az_wr_ne, az_wr_same, Int.reduceAdd, f5, f6, f8, f9]
      exact q
    · have q := u6 (82, 0, 0) (by decide)
      try simp (disch := omega) only [az_wr_ne, az_wr_same, Int.reduceAdd, f8, f9]
      exact q
    · have q := u6 (82, 1, 0) (by decide)
      try simp (disch := omega) only [az_wr_ne, az_wr_same, Int.reduceAdd, f8, f9]
      exact q
    · have q := u6 (82, 2, 0) (by decide)
      try simp (disch := omega) only [az_wr_ne, az_wr_same, Int.reduceAdd, f8, f9]
      exact q
    · have q := u6 (82, 3, 83) (by decide)
      try simp (disch := omega) only [az_wr_ne, az_wr_same, Int.reduceAdd, f8, f9]
      exact q
    · have q := u6 (82, 4, 84) (by decide)
      try simp (disch := omega) only [az_wr_ne, az_wr_same, Int.reduceAdd, f8, f9]
      exact q
    · have q := u6 (82, 5, 85) (by decide)
      try simp (disch := omega) only [az_wr_ne, az_wr_same, Int.reduceAdd, f8, f9]
      exact q
    · have q := u6 (82, 6, 86) (by decide)
      try simp (disch := omega) only [az_wr_ne, az_wr_same, Int.reduceAdd, f8, f9]
      exact q
    · have q := u6 (82, 7, 87) (by decide)
      try simp (disch := omega) only [az_wr_ne, az_wr_same, Int.reduceAdd, f8, f9]
      exact q
    · have q := u6 (82, 8, 88) (by decide)
      try simp (disch := omega) only [az_wr_ne, az_wr_same, Int.reduceAdd, f8, f9]
      exact q
    · have q := u6 (82, 9, 89) (by decide)
      try simp (disch := omega) only [az_wr_ne, az_wr_same, Int.reduceAdd, f8, f9]
      exact q
    · have q := u6 (82, 10, 90) (by decide)
      try simp (disch := omega) only [az_wr_ne, az_wr_same, Int.reduceAdd, f8, f9]
      exact q
    · have q := u6 (82, 11, 91) (by decide)
      try simp (disch := omega) only [az_wr_ne, az_wr_same, Int.reduceAdd, f8, f9]
      exact q
    · have q := u6 (82, 12, 92) (by decide)
      try simp (disch := omega) only [az_wr_ne, az_wr_same, Int.reduceAdd, f8, f9]
      exact q
    · have q := u6 (82, 13, 93) (by decide)
      try simp (disch := omega) only [az_wr_ne, az_wr_same, Int.reduceAdd, f8, f9]
      exact q
    · have q := u6 (82, 14, 94) (by decide)
      try simp (disch := omega) only [az_wr_ne, az_wr_same, Int.reduceAdd, f8, f9]
      exact q
    · have q := u6 (82, 15, 95) (by decide)
      try simp (disch := omega) only [az_wr_ne, az_wr_same, Int.reduceAdd, f8, f9]
      exact q
    · have q := u6 (82, 16, 96) (by decide)
      try simp (disch := omega) only [az_wr_ne, az_wr_same, Int.reduceAdd, f8, f9]
      exact q
    · have q := u9 (161, 0, 0) (by decide)
      try simp (disch := omega) only [az_wr_ne, az_wr_same, Int.reduceAdd]
      exact q
    · have q := u9 (161, 1, 0) (by decide)
      try simp (disch := omega) only [az_wr_ne, az_wr_same, Int.reduceAdd]
      exact q
    · have q := u9 (161, 2, 0) (by decide)
      try simp (disch := omega) only [az_wr_ne, az_wr_same, Int.reduceAdd]
      exact q
    · have q := u9 (161, 3, 162) (by decide)
      try simp (disch := omega) only [az_wr_ne, az_wr_same, Int.reduceAdd]
      exact q
    · have q := u9 (161, 4, 163) (by decide)
      try simp (disch := omega) only [az_wr_ne, az_wr_same, Int.reduceAdd]
      exact q
    · have q := u9 (161, 5, 164) (by decide)
      try simp (disch := omega) only [az_wr_ne, az_wr_same, Int.reduceAdd]
      exact q
    · have q := u9 (161, 6, 165) (by decide)
      try simp (disch := omega) only [az_wr_ne, az_wr_same, Int.reduceAdd]
      exact q
    · have q := u9 (161, 7, 166) (by decide)
      try simp (disch := omega) only [az_wr_ne, az_wr_same, Int.reduceAdd]
      exact q
  · intro q q0 q1
    have := w3 q q0 q1
    try simp (disch := omega) only [az_wr_ne, az_wr_same, Int.reduceAdd, f5, f6, f8, f9]
    exact this
  · intro q q0 q1
    have := w6 q q0 q1
    try simp (disch := omega) only [az_wr_ne, az_wr_same, Int.reduceAdd, f8, f9]
    exact this
  · intro q q0 q1
    have := w9.1 q q0 q1
    try simp (disch := omega) only [az_wr_ne, az_wr_same, Int.reduceAdd]
    exact this
  · intro q q0 q1
    have := w9.2 q q0 q1
    try simp (disch := omega) only [az_wr_ne, az_wr_same, Int.reduceAdd]
    exact this
def bz_L_X2_init_225 : List (Int × Int × Int) := [(225, 0, 226), (225, 1, 227), (225, 2, 228), (225, 3, 0)]
theorem bz_c_X2_init_225 {σ : az_Hp} (h : bz_B σ 225 0) : ∃ σ', fz_X2_init σ 225 = some σ' ∧ bz_B σ' 228 0 ∧ (∀ a k : Int, a < 225 → σ'.2 a k = σ.2 a k) ∧ (∀ p ∈ bz_L_X2_init_225, σ'.2 p.1 p.2.1 = p.2.2) := by
  obtain ⟨σ1, e1, b1, f1⟩ := h.newO (z := 901) (r := 226) (c' := 226) 13 (by omega) (by omega) (by omega) (by omega) (by decide) (by omega) (by omega)
  have b2 := b1.wr (a := 225) (i := 0) (x := 226) (by omega)
  obtain ⟨σ3, e3, b3, f3⟩ := b2.newO (z := 901) (r := 227) (c' := 227) 13 (by omega) (by omega) (by omega) (by omega) (by decide) (by omega) (by omega)
  have b4 := b3.wr (a := 225) (i := 1) (x := 227) (by omega)
  obtain ⟨σ5, e5, b5, f5⟩ := b4.newO (z := 901) (r := 228) (c' := 228) 13 (by omega) (by omega) (by omega) (by omega) (by decide) (by omega) (by omega)
  have b6 := b5.wr (a := 225) (i := 2) (x := 228) (by omega)
  have b7 := b6.wr (a := 225) (i := 3) (x := 0) (by omega)
  refine ⟨(az_wr (az_wr σ5 225 2 228) 225 3 0), ?_, b7, ?_, ?_⟩
  · unfold fz_X2_init
    rw [e1, Option.bind_some]
    try dsimp only
    rw [e3, Option.bind_some]
    try dsimp only
    rw [e5, Option.bind_some]
    try dsimp only
  · intro a k ha
    simp (disch := omega) only [az_wr_ne, az_wr_same, Int.reduceAdd, f1, f3, f5]
  · intro p hp
    simp only [bz_L_X2_init_225, List.mem_cons, List.not_mem_nil, or_false] at hp
    rcases hp with rfl | rfl | rfl | rfl
    · simp (disch := omega) only [az_wr_ne, az_wr_same, Int.reduceAdd, f1, f3, f5]
    · simp (disch := omega) only [az_wr_ne, az_wr_same, Int.reduceAdd, f1, f3, f5]
    · simp (disch := omega) only [az_wr_ne, az_wr_same, Int.reduceAdd, f1, f3, f5]
    · simp (disch := omega) only [az_wr_ne, az_wr_same, Int.reduceAdd, f1, f3, f5]
def bz_L_X4_init_223 : List (Int × Int × Int) := [(223, 0, 0), (223, 1, (-1)), (223, 2, 224), (223, 3, 0), (223, 4, 0), (223, 5, 2), (223, 6, 225), (223, 7, 0), (223, 8, 0), (223, 9, 0), (223, 10, 0), (223, 11, 3), (223, 12, 161), (223, 13, 229), (223, 14, 230), (225, 0, 226), (225, 1, 227), (225, 2, 228), (225, 3, 0)]
theorem bz_c_X4_init_223 {σ : az_Hp} (h : bz_B σ 223 0) : ∃ σ', fz_X4_init σ 223 3 161 = some σ' ∧ bz_B σ' 230 0 ∧ (∀ a k : Int, a < 223 → σ'.2 a k = σ.2 a k) ∧ (∀ p ∈ bz_L_X4_init_223, σ'.2 p.1 p.2.1 = p.2.2) := by
  have b1 := h.wr (a := 223) (i := 0) (x := 0) (by omega)
  have b2 := b1.wr (a := 223) (i := 1) (x := (-1)) (by omega)
  obtain ⟨σ3, e3, b3, f3⟩ := b2.newO (z := 12) (r := 224) (c' := 224) 13 (by omega) (by omega) (by omega) (by omega) (by decide) (by omega) (by omega)
  have b4 := b3.wr (a := 223) (i := 2) (x := 224) (by omega)
  have b5 := b4.wr (a := 223) (i := 3) (x := 0) (by omega)
  have b6 := b5.wr (a := 223) (i := 4) (x := 0) (by omega)
  have b7 := b6.wr (a := 223) (i := 5) (x := 2) (by omega)
  obtain ⟨σ8, e8, b8, f8⟩ := b7.newO (z := 4) (r := 225) (c' := 225) 2 (by omega) (by omega) (by omega) (by omega) (by decide) (by omega) (by omega)
  obtain ⟨σ9, e9, b9, f9, u9⟩ := bz_c_X2_init_225 b8
  have b10 := b9.wr (a := 223) (i := 6) (x := 225) (by omega)
  have b11 := b10.wr (a := 223) (i := 7) (x := 0) (by omega)
  have b12 := b11.wr (a := 223) (i := 8) (x := 0) (by omega)
  have b13 := b12.wr (a := 223) (i := 9) (x := 0) (by omega)
  have b14 := b13.wr (a := 223) (i := 10) (x := 0) (by omega)
  obtain ⟨σ15, e15, b15, f15⟩ := b14.newO (z := 60) (r := 229) (c' := 229) 13 (by omega) (by omega) (by omega) (by omega) (by decide) (by omega) (by omega)
  have b16 := b15.wr (a := 223) (i := 13) (x := 229) (by omega)
  obtain ⟨σ17, e17, b17, f17⟩ := b16.newO (z := 60) (r := 230) (c' := 230) 13 (by omega) (by omega) (by omega) (by omega) (by decide) (by omega) (by omega)
  have b18 := b17.wr (a := 223) (i := 14) (x := 230) (by omega)
  have b19 := b18.wr (a := 223) (i := 11) (x := 3) (by omega)
  have b20 := b19.wr (a := 223) (i := 12) (x := 161) (by omega)
  refine ⟨(az_wr (az_wr (az_wr σ17 223 14 230) 223 11 3) 223 12 161), ?_, b20, ?_, ?_⟩
  · unfold fz_X4_init
    rw [e3, Option.bind_some]
    try dsimp only
    rw [e8, Option.bind_some]
    try dsimp only
    rw [e9, Option.bind_some]
    try dsimp only
    rw [e15, Option.bind_some]
    try dsimp only
    rw [e17, Option.bind_some]
    try dsimp only
  · intro a k ha
    simp (disch := omega) only [az_wr_ne, az_wr_same, Int.reduceAdd, f3, f8, f9, f15, f17]
  · intro p hp
    simp only [bz_L_X4_init_223, List.mem_cons, List.not_mem_nil, or_false] at hp
    rcases hp with rfl | rfl | rfl | rfl | rfl | rfl | rfl | rfl | rfl | rfl | rfl | rfl | rfl | rfl | rfl | rfl | rfl | rfl | rfl
    · simp (disch := omega) only [az_wr_ne, az_wr_same, Int.reduceAdd, f3, f8, f9, f15, f17]
    · simp (disch := omega) only [az_wr_ne, az_wr_same, Int.reduceAdd, f3, f8, f9, f15, f17]
    · simp (disch := omega) only [az_wr_ne, az_wr_same, Int.reduceAdd, f3, f8, f9, f15, f17]
    · simp (disch := omega) only [az_wr_ne, az_wr_same, Int.reduceAdd, f3, f8, f9, f15, f17]
    · simp (disch := omega) only [az_wr_ne, az_wr_same, Int.reduceAdd, f3, f8, f9, f15, f17]
    · simp (disch := omega) only [az_wr_ne, az_wr_same, Int.reduceAdd, f3, f8, f9, f15, f17]
    · simp (disch := omega) only [az_wr_ne, az_wr_same, Int.reduceAdd, f3, f8, f9, f15, f17]
    · simp (disch := omega) only [az_wr_ne, az_wr_same, Int.reduceAdd, f3, f8, f9, f15, f17]
    · simp (disch := omega) only [az_wr_ne, az_wr_same, Int.reduceAdd, f3, f8, f9, f15, f17]
    · simp (disch := omega) only [az_wr_ne, az_wr_same, Int.reduceAdd, f3, f8, f9, f15, f17]
    · simp (disch := omega) only [az_wr_ne, az_wr_same, Int.reduceAdd, f3, f8, f9, f15, f17]
    · simp (disch := omega) only [az_wr_ne, az_wr_same, Int.reduceAdd, f3, f8, f9, f15, f17]
    · simp (disch := omega) only [az_wr_ne, az_wr_same, Int.reduceAdd, f3, f8, f9, f15, f17]
    · simp (disch := omega) only [az_wr_ne, az_wr_same, Int.reduceAdd, f3, f8, f9, f15, f17]
    · simp (disch := omega) only [az_wr_ne, az_wr_same, Int.reduceAdd, f3, f8, f9, f15, f17]
    · have q := u9 (225, 0, 226) (by decide)
      try simp (disch := omega) only [az_wr_ne, az_wr_same, Int.reduceAdd, f15, f17]
      exact q
    · have q := u9 (225, 1, 227) (by decide)
      try simp (disch := omega) only [az_wr_ne, az_wr_same, Int.reduceAdd, f15, f17]
      exact q
    · have q := u9 (225, 2, 228) (by decide)
      try simp (disch := omega) only [az_wr_ne, az_wr_same, Int.reduceAdd, f15, f17]
      exact q
    · have q := u9 (225, 3, 0) (by decide)
      try simp (disch := omega) only [az_wr_ne, az_wr_same, Int.reduceAdd, f15, f17]
      exact q
def bz_L_X0_init_231 : List (Int × Int × Int) := [(231, 0, 0), (231, 1, 232), (231, 2, 233), (231, 3, 234), (231, 4, 235), (231, 5, 236), (231, 6, 237), (231, 7, 238), (231, 8, 239), (231, 9, 240), (231, 10, 241)]
theorem bz_c_X0_init_231 {σ : az_Hp} (h : bz_B σ 231 0) : ∃ σ', fz_X0_init σ 231 = some σ' ∧ bz_B σ' 241 0 ∧ (∀ a k : Int, a < 231 → σ'.2 a k = σ.2 a k) ∧ (∀ p ∈ bz_L_X0_init_231, σ'.2 p.1 p.2.1 = p.2.2) := by
  have b1 := h.wr (a := 231) (i := 0) (x := 0) (by omega)
  obtain ⟨σ2, e2, b2, f2⟩ := b1.newO (z := 128) (r := 232) (c' := 232) 13 (by omega) (by omega) (by omega) (by omega) (by decide) (by omega) (by omega)
  have b3 := b2.wr (a := 231) (i := 1) (x := 232) (by omega)
  obtain ⟨σ4, e4, b4, f4⟩ := b3.newO (z := 128) (r := 233) (c' := 233) 13 (by omega) (by omega) (by omega) (by omega) (by decide) (by omega) (by omega)
  have b5 := b4.wr (a := 231) (i := 2) (x := 233) (by omega)
  obtain ⟨σ6, e6, b6, f6⟩ := b5.newO (z := 128) (r := 234) (c' := 234) 13 (by omega) (by omega) (by omega) (by omega) (by decide) (by omega) (by omega)
  have b7 := b6.wr (a := 231) (i := 3) (x := 234) (by omega)
  obtain ⟨σ8, e8, b8, f8⟩ := b7.newO (z := 128) (r := 235) (c' := 235) 13 (by omega) (by omega) (by omega) (by omega) (by decide) (by omega) (by omega)
  have b9 := b8.wr (a := 231) (i := 4) (x := 235) (by omega)
  obtain ⟨σ10, e10, b10, f10⟩ := b9.newO (z := 128) (r := 236) (c' := 236) 13 (by omega) (by omega) (by omega) (by omega) (by decide) (by omega) (by omega)
  have b11 := b10.wr (a := 231) (i := 5) (x := 236) (by omega)
  obtain ⟨σ12, e12, b12, f12⟩ := b11.newO (z := 128) (r := 237) (c' := 237) 15 (by omega) (by omega) (by omega) (by omega) (by decide) (by omega) (by omega)
  have b13 := b12.wr (a := 231) (i := 6) (x := 237) (by omega)
  obtain ⟨σ14, e14, b14, f14⟩ := b13.newO (z := 384) (r := 238) (c' := 238) 13 (by omega) (by omega) (by omega) (by omega) (by decide) (by omega) (by omega)
  have b15 := b14.wr (a := 231) (i := 7) (x := 238) (by omega)
  obtain ⟨σ16, e16, b16, f16⟩ := b15.newO (z := 1024) (r := 239) (c' := 239) 13 (by omega) (by omega) (by omega) (by omega) (by decide) (by omega) (by omega)
  have b17 := b16.wr (a := 231) (i := 8) (x := 239) (by omega)
  obtain ⟨σ18, e18, b18, f18⟩ := b17.newO (z := 128) (r := 240) (c' := 240) 13 (by omega) (by omega) (by omega) (by omega) (by decide) (by omega) (by omega)
  have b19 := b18.wr (a := 231) (i := 9) (x := 240) (by omega)
  obtain ⟨σ20, e20, b20, f20⟩ := b19.newO (z := 128) (r := 241) (c' := 241) 13 (by omega) (by omega) (by omega) (by omega) (by decide) (by omega) (by omega)
  have b21 := b20.wr (a := 231) (i := 10) (x := 241) (by omega)
  refine ⟨(az_wr σ20 231 10 241), ?_, b21, ?_, ?_⟩
  · unfold fz_X0_init
    rw [e2, Option.bind_some]
    try dsimp only
    rw [e4, Option.bind_some]
    try dsimp only
    rw [e6, Option.bind_some]
    try dsimp only
    rw [e8, Option.bind_some]
    try dsimp only
    rw [e10, Option.bind_some]
    try dsimp only
    rw [e12, Option.bind_some]
    try dsimp only
    rw [e14, Option.bind_some]
    try dsimp only
    rw [e16, Option.bind_some]
    try dsimp only
    rw [e18, Option.bind_some]
    try dsimp only
    rw [e20, Option.bind_some]
    try dsimp only
  · intro a k ha
    simp (disch := omega) only [az_wr_ne, az_wr_same, Int.reduceAdd, f2, f4, f6, f8, f10, f12, f14, f16, f18, f20]
  · intro p hp
    simp only [bz_L_X0_init_231, List.mem_cons, List.not_mem_nil, or_false] at hp
    rcases hp with rfl | rfl | rfl | rfl | rfl | rfl | rfl | rfl | rfl | rfl | rfl
    · simp (disch := omega) only [az_wr_ne, az_wr_same, Int.reduceAdd, f2, f4, f6, f8, f10, f12, f14, f16, f18, f20]
    · simp (disch := omega) only [az_wr_ne, az_wr_same, Int.reduceAdd, f2, f4, f6, f8, f10, f12, f14, f16, f18, f20]
    · simp (disch := omega) only [az_wr_ne, az_wr_same, Int.reduceAdd, f2, f4, f6, f8, f10, f12, f14, f16, f18, f20]
    · simp (disch := omega) only [az_wr_ne, az_wr_same, Int.reduceAdd, f2, f4, f6, f8, f10, f12, f14, f16, f18, f20]
    · simp (disch := omega) only [az_wr_ne, az_wr_same, Int.reduceAdd, f2, f4, f6, f8, f10, f12, f14, f16, f18, f20]
    · simp (disch := omega) only [az_wr_ne, az_wr_same, Int.reduceAdd, f2, f4, f6, f8, f10, f12, f14, f16, f18, f20]
    · simp (disch := omega) only [az_wr_ne, az_wr_same, Int.reduceAdd, f2, f4, f6, f8, f10, f12, f14, f16, f18, f20]
    · simp (disch := omega) only [az_wr_ne, az_wr_same, Int.reduceAdd, f2, f4, f6, f8, f10, f12, f14, f16, f18, f20]
    · simp (disch := omega) only [az_wr_ne, az_wr_same, Int.reduceAdd, f2, f4, f6, f8, f10, f12, f14, f16, f18, f20]
    · simp (disch := omega) only [az_wr_ne, az_wr_same, Int.reduceAdd, f2, f4, f6, f8, f10, f12, f14, f16, f18, f20]
    · simp (disch := omega) only [az_wr_ne, az_wr_same, Int.reduceAdd, f2, f4, f6, f8, f10, f12, f14, f16, f18, f20]
def bz_L_X1_init_242 : List (Int × Int × Int) := [(242, 0, 231), (242, 1, (-1))]
theorem bz_c_X1_init_242 {σ : az_Hp} (h : bz_B σ 242 0) : ∃ σ', fz_X1_init σ 242 231 = some σ' ∧ bz_B σ' 242 0 ∧ (∀ a k : Int, a < 242 → σ'.2 a k = σ.2 a k) ∧ (∀ p ∈ bz_L_X1_init_242, σ'.2 p.1 p.2.1 = p.2.2) := by
  have b1 := h.wr (a := 242) (i := 1) (x := (-1)) (by omega)
  have b2 := b1.wr (a := 242) (i := 0) (x := 231) (by omega)
  refine ⟨(az_wr (az_wr σ 242 1 (-1)) 242 0 231), ?_, b2, ?_, ?_⟩
  · unfold fz_X1_init
    rfl
  · intro a k ha
    simp (disch := omega) only [az_wr_ne, az_wr_same, Int.reduceAdd]
  · intro p hp
    simp only [bz_L_X1_init_242, List.mem_cons, List.not_mem_nil, or_false] at hp
    rcases hp with rfl | rfl
    · simp (disch := omega) only [az_wr_ne, az_wr_same, Int.reduceAdd]
    · simp (disch := omega) only [az_wr_ne, az_wr_same, Int.reduceAdd]
def bz_L_X5_init_243 : List (Int × Int × Int) := [(243, 0, 231), (243, 1, 161), (243, 2, 3), (243, 3, 244), (243, 4, 0), (243, 5, (-1)), (243, 6, 0), (243, 7, 0), (243, 8, 0), (243, 9, (-1)), (243, 10, 246), (243, 11, 248), (243, 12, 249), (243, 13, 250), (243, 14, 251), (243, 15, 252), (244, 0, 245), (244, 1, 0), (246, 0, 247), (246, 1, 0)]
theorem bz_c_X5_init_243 {σ : az_Hp} (h : bz_B σ 243 0) : ∃ σ', fz_X5_init 2000000 σ 243 231 3 161 = some σ' ∧ bz_B σ' 374 0 ∧ (∀ a k : Int, a < 243 → σ'.2 a k = σ.2 a k) ∧ (∀ p ∈ bz_L_X5_init_243, σ'.2 p.1 p.2.1 = p.2.2) ∧ (∀ q : Nat, 0 ≤ q → q < 61 → σ'.2 248 q = 253 + 2 * (q : Int) ∧ σ'.2 (253 + 2 * (q : Int)) 0 = 254 + 2 * (q : Int)) := by
  obtain ⟨σ1, e1, b1, f1⟩ := h.newO (z := 2) (r := 244) (c' := 244) 7 (by omega) (by omega) (by omega) (by omega) (by decide) (by omega) (by omega)
  obtain ⟨σ2, e2, b2, f2, u2, w2⟩ := bz_c_row (r := 244) (z := 60) (c' := 245) b1 (by omega) (by omega) (by omega) (by omega) (by decide) (by omega) (by omega)
  have b3 := b2.wr (a := 243) (i := 3) (x := 244) (by omega)
  have b4 := b3.wr (a := 243) (i := 4) (x := 0) (by omega)
  have b5 := b4.wr (a := 243) (i := 5) (x := (-1)) (by omega)
  have b6 := b5.wr (a := 243) (i := 6) (x := 0) (by omega)
  have b7 := b6.wr (a := 243) (i := 7) (x := 0) (by omega)
  have b8 := b7.wr (a := 243) (i := 8) (x := 0) (by omega)
  have b9 := b8.wr (a := 243) (i := 9) (x := (-1)) (by omega)
  obtain ⟨σ10, e10, b10, f10⟩ := b9.newO (z := 2) (r := 246) (c' := 246) 7 (by omega) (by omega) (by omega) (by omega) (by decide) (by omega) (by omega)
  obtain ⟨σ11, e11, b11, f11, u11, w11⟩ := bz_c_row (r := 246) (z := 60) (c' := 247) b10 (by omega) (by omega) (by omega) (by omega) (by decide) (by omega) (by omega)
  have b12 := b11.wr (a := 243) (i := 10) (x := 246) (by omega)
  obtain ⟨σ13, e13, b13, f13⟩ := b12.newO (z := 61) (r := 248) (c' := 248) 16 (by omega) (by omega) (by omega) (by omega) (by decide) (by omega) (by omega)
  have b14 := b13.wr (a := 243) (i := 11) (x := 248) (by omega)
  obtain ⟨σ15, e15, b15, f15⟩ := b14.newO (z := 60) (r := 249) (c' := 249) 13 (by omega) (by omega) (by omega) (by omega) (by decide) (by omega) (by omega)
  have b16 := b15.wr (a := 243) (i := 12) (x := 249) (by omega)
  obtain ⟨σ17, e17, b17, f17⟩ := b16.newO (z := 60) (r := 250) (c' := 250) 13 (by omega) (by omega) (by omega) (by omega) (by decide) (by omega) (by omega)
  have b18 := b17.wr (a := 243) (i := 13) (x := 250) (by omega)
  obtain ⟨σ19, e19, b19, f19⟩ := b18.newO (z := 60) (r := 251) (c' := 251) 13 (by omega) (by omega) (by omega) (by omega) (by decide) (by omega) (by omega)
  have b20 := b19.wr (a := 243) (i := 14) (x := 251) (by omega)
  obtain ⟨σ21, e21, b21, f21⟩ := b20.newO (z := 6) (r := 252) (c' := 252) 13 (by omega) (by omega) (by omega) (by omega) (by decide) (by omega) (by omega)
  have b22 := b21.wr (a := 243) (i := 15) (x := 252) (by omega)
  have b23 := b22.wr (a := 243) (i := 0) (x := 231) (by omega)
  have b24 := b23.wr (a := 243) (i := 2) (x := 3) (by omega)
  have b25 := b24.wr (a := 243) (i := 1) (x := 161) (by omega)
  have e27 : az_gref (az_wr (az_wr (az_wr (az_wr σ21 243 15 252) 243 0 231) 243 2 3) 243 1 161) 243 11 = some 248 := bz_gr (by simp (disch := omega) only [az_wr_ne, az_wr_same, Int.reduceAdd, f1, f2, u2, w2, f10, f11, u11, w11, f13, f15, f17, f19, f21]) (by omega)
  obtain ⟨σ26, e26, b26, f26, -, w26⟩ := bz_lp_past (n := 2000000) 61 2000000 0 _ (by omega) (by omega) (by simpa using b25) e27
  simp only [Int.natCast_zero] at e26 f26
  refine ⟨σ26, ?_, b26, ?_, ?_, ?_⟩
  · unfold fz_X5_init
    rw [e1, Option.bind_some]
    try dsimp only
    rw [e2, Option.bind_some]
    try dsimp only
    rw [e10, Option.bind_some]
    try dsimp only
    rw [e11, Option.bind_some]
    try dsimp only
    rw [e13, Option.bind_some]
    try dsimp only
    rw [e15, Option.bind_some]
    try dsimp only
    rw [e17, Option.bind_some]
    try dsimp only
    rw [e19, Option.bind_some]
    try dsimp only
    rw [e21, Option.bind_some]
    try dsimp only
    exact e26
  · intro a k ha
    simp (disch := omega) only [az_wr_ne, az_wr_same, Int.reduceAdd, f1, f2, u2, w2, f10, f11, u11, w11, f13, f15, f17, f19, f21, f26]
  · intro p hp
    simp only [bz_L_X5_init_243, List.mem_cons, List.not_mem_nil, or_false] at hp
    rcases hp with rfl | rfl | rfl | rfl | rfl | rfl | rfl | rfl | rfl | rfl | rfl | rfl | rfl | rfl | rfl | rfl | rfl | rfl | rfl | rfl
    · simp (disch := omega) only [az_wr_ne, az_wr_same, Int.reduceAdd, f1, f2, u2, w2, f10, f11, u11, w11, f13, f15, f17, f19, f21, f26]
    · simp (disch := omega) only [az_wr_ne, az_wr_same, Int.reduceAdd, f1, f2, u2, w2, f10, f11, u11, w11, f13, f15, f17, f19, f21, f26]
    · simp (disch := omega) only [az_wr_ne, az_wr_same, Int.reduceAdd, f1, f2, u2, w2, f10, f11, u11, w11, f13, f15, f17, f19, f21, f26]
    · simp (disch := omega) only [az_wr_ne, az_wr_same, Int.reduceAdd, f1, f2, u2, w2, f10, f11, u11, w11, f13, f15, f17, f19, f21, f26]
    · simp (disch := omega) only [az_wr_ne, az_wr_same, Int.reduceAdd, f1, f2, u2, w2, f10, f11, u11, w11, f13, f15, f17, f19, f21, f26]
    · simp (disch := omega) only [az_wr_ne, az_wr_same, Int.reduceAdd, f1, f2, u2, w2, f10, f11, u11, w11, f13, f15, f17, f19, f21, f26]
    · simp (disch := omega) only [az_wr_ne, az_wr_same, Int.reduceAdd, f1, f2, u2, w2, f10, f11, u11, w11, f13, f15, f17, f19, f21, f26]
    · simp (disch := omega) only [az_wr_ne, az_wr_same, Int.reduceAdd, f1, f2, u2, w2, f10, f11, u11, w11, f13, f15, f17, f19, f21, f26]
    · simp (disch := omega) only [az_wr_ne, az_wr_same, Int.reduceAdd, f1, f2, u2, w2, f10, f11, u11, w11, f13, f15, f17, f19, f21, f26]
    · simp (disch := omega) only [az_wr_ne, az_wr_same, Int.reduceAdd, f1, f2, u2, w2, f10, f11, u11, w11, f13, f15, f17, f19, f21, f26]
    · simp (disch := omega) only [az_wr_ne, az_wr_same, Int.reduceAdd, f1, f2, u2, w2, f10, f11, u11, w11, f13, f15, f17, f19, f21, f26]
    · simp (disch := omega) only [az_wr_ne, az_wr_same, Int.reduceAdd, f1, f2, u2, w2, f10, f11, u11, w11, f13, f15, f17, f19, f21, f26]
    · simp (disch := omega) only [az_wr_ne, az_wr_same, Int.reduceAdd, f1, f2, u2, w2, f10, f11, u11, w11, f13, f15, f17, f19, f21, f26]
    · simp (disch := omega) only [az_wr_ne, az_wr_same, Int.reduceAdd, f1, f2, u2, w2, f10, f11, u11, w11, f13, f15, f17, f19, f21, f26]
    · simp (disch := omega) only [az_wr_ne, az_wr_same, Int.reduceAdd, f1, f2, u2, w2, f10, f11, u11, w11, f13, f15, f17, f19, f21, f26]
    · simp (disch := omega) only [az_wr_ne, az_wr_same, Int.reduceAdd, f1, f2, u2, w2, f10, f11, u11, w11, f13, f15, f17, f19, f21, f26]
    · simp (disch := omega) only [az_wr_ne, az_wr_same, Int.reduceAdd, f1, f2, u2, w2, f10, f11, u11, w11, f13, f15, f17, f19, f21, f26]
    · simp (disch := omega) only [az_wr_ne, az_wr_same, Int.reduceAdd, f1, f2, u2, w2, f10, f11, u11, w11, f13, f15, f17, f19, f21, f26]
    · simp (disch := omega) only [az_wr_ne, az_wr_same, Int.reduceAdd, f1, f2, u2, w2, f10, f11, u11, w11, f13, f15, f17, f19, f21, f26]
    · simp (disch := omega) only [az_wr_ne, az_wr_same, Int.reduceAdd, f1, f2, u2, w2, f10, f11, u11, w11, f13, f15, f17, f19, f21, f26]
  · exact w26
def bz_L_X10_init_66_1 : List (Int × Int × Int) := [(1, 8, 223), (1, 9, 231), (1, 10, 242), (1, 11, 243), (223, 0, 0), (223, 1, (-1)), (223, 2, 224), (223, 3, 0), (223, 4, 0), (223, 5, 2), (223, 6, 225), (223, 7, 0), (223, 8, 0), (223, 9, 0), (223, 10, 0), (223, 11, 3), (223, 12, 161), (223, 13, 229), (223, 14, 230), (225, 0, 226), (225, 1, 227), (225, 2, 228), (225, 3, 0), (231, 0, 0), (231, 1, 232), (231, 2, 233), (231, 3, 234), (231, 4, 235), (231, 5, 236), (231, 6, 237), (231, 7, 238), (231, 8, 239), (231, 9, 240), (231, 10, 241), (242, 0, 231), (242, 1, (-1)), (243, 0, 231), (243, 1, 161), (243, 2, 3), (243, 3, 244), (243, 4, 0), (243, 5, (-1)), (243, 6, 0), (243, 7, 0), (243, 8, 0), (243, 9, (-1)), (243, 10, 246), (243, 11, 248), (243, 12, 249), (243, 13, 250), (243, 14, 251), (243, 15, 252), (244, 0, 245), (244, 1, 0), (246, 0, 247), (246, 1, 0)]
theorem bz_c_X10_init_66_1 {σ : az_Hp} (h : bz_B σ 222 0) (y1_5 : σ.2 1 5 = 3) (y1_7 : σ.2 1 7 = 161) : ∃ σ', fz_X10_init_66 2000000 σ 1 = fz_X10_init_134 2000000 σ' 1 ∧ bz_B σ' 374 0 ∧ (∀ a k : Int, a ≤ 222 → (a ≠ 1 ∨ (k ≠ 8 ∧ k ≠ 9 ∧ k ≠ 10 ∧ k ≠ 11)) → σ'.2 a k = σ.2 a k) ∧ (∀ p ∈ bz_L_X10_init_66_1, σ'.2 p.1 p.2.1 = p.2.2) ∧ (∀ q : Nat, 0 ≤ q → q < 61 → σ'.2 248 q = 253 + 2 * (q : Int) ∧ σ'.2 (253 + 2 * (q : Int)) 0 = 254 + 2 * (q : Int)) := by
  obtain ⟨σ1, e1, b1, f1⟩ := h.newO (z := 15) (r := 223) (c' := 223) 4 (by omega) (by omega) (by omega) (by omega) (by decide) (by omega) (by omega)
  have e2 : az_gref σ1 1 5 = some 3 := bz_gr (by simp (disch := omega) only [az_wr_ne, az_wr_same, Int.reduceAdd, f1, y1_5]) (by omega)
  have e3 : az_gref σ1 1 7 = some 161 := bz_gr (by simp (disch := omega) only [az_wr_ne, az_wr_same, Int.reduceAdd, f1, y1_5, y1_7]) (by omega)
  obtain ⟨σ4, e4, b4, f4, u4⟩ := bz_c_X4_init_223 b1
  have b5 := b4.wr (a := 1) (i := 8) (x := 223) (by omega)
  obtain ⟨σ6, e6, b6, f6⟩ := b5.newO (z := 11) (r := 231) (c' := 231) 0 (by omega) (by omega) (by omega) (by omega) (by decide) (by omega) (by omega)
  obtain ⟨σ7, e7, b7, f7, u7⟩ := bz_c_X0_init_231 b6
  have b8 := b7.wr (a := 1) (i := 9) (x := 231) (by omega)
  obtain ⟨σ9, e9, b9, f9⟩ := b8.newO (z := 2) (r := 242) (c' := 242) 1 (by omega) (by omega) (by omega) (by omega) (by decide) (by omega) (by omega)
  have e10 : az_gref σ9 1 9 = some 231 := bz_gr (by simp (disch := omega) only [az_wr_ne, az_wr_same, Int.reduceAdd, f1, y1_5, y1_7, f4, f6, f7, f9]) (by omega)
  obtain ⟨σ11, e11, b11, f11, u11⟩ := bz_c_X1_init_242 b9
  have b12 := b11.wr (a := 1) (i := 10) (x := 242) (by omega)
  obtain ⟨σ13, e13, b13, f13⟩ := b12.newO (z := 16) (r := 243) (c' := 243) 5 (by omega) (by omega) (by omega) (by omega) (by decide) (by omega) (by omega)
  have e14 : az_gref σ13 1 9 = some 231 := bz_gr (by simp (disch := omega) only [az_wr_ne, az_wr_same, Int.reduceAdd, f1, y1_5, y1_7, f4, f6, f7, f9, f11, f13]) (by omega)
  have e15 : az_gref σ13 1 5 = some 3 := bz_gr (by simp (disch := omega) only [az_wr_ne, az_wr_same, Int.reduceAdd, f1, y1_5, y1_7, f4, f6, f7, f9, f11, f13]) (by omega)
  have e16 : az_gref σ13 1 7 = some 161 := bz_gr (by simp (disch := omega) only [az_wr_ne, az_wr_same, Int.reduceAdd, f1, y1_5, y1_7, f4, f6, f7, f9, f11, f13]) (by omega)
  obtain ⟨σ17, e17, b17, f17, u17, w17⟩ := bz_c_X5_init_243 b13
  have b18 := b17.wr (a := 1) (i := 11) (x := 243) (by omega)
  refine ⟨(az_wr σ17 1 11 243), ?_, b18, ?_, ?_, ?_⟩
  · unfold fz_X10_init_66
    rw [e1, Option.bind_some]
    try dsimp only
    rw [e2, Option.bind_some]
    try dsimp only
    rw [e3, Option.bind_some]
    try dsimp only
    rw [e4, Option.bind_some]
    try dsimp only
    rw [e6, Option.bind_some]
    try dsimp only
    rw [e7, Option.bind_some]
    try dsimp only
    rw [e9, Option.bind_some]
    try dsimp only
    rw [e10, Option.bind_some]
    try dsimp only
    rw [e11, Option.bind_some]
    try dsimp only
    rw [e13, Option.bind_some]
    try dsimp only
    rw [e14, Option.bind_some]
    try dsimp only
    rw [e15, Option.bind_some]
    try dsimp only
    rw [e16, Option.bind_some]
    try dsimp only
    rw [e17, Option.bind_some]
    try dsimp only
  · intro a k ha hk
    simp (disch := omega) only [az_wr_ne, az_wr_same, Int.reduceAdd, f1, y1_5, y1_7, f4, f6, f7, f9, f11, f13, f17]
  · intro p hp
    simp only [bz_L_X10_init_66_1, List.mem_cons, List.not_mem_nil, or_false] at hp
    rcases hp with rfl | rfl | rfl | rfl | rfl | rfl | rfl | rfl | rfl | rfl | rfl | rfl | rfl | rfl | rfl | rfl | rfl | rfl | rfl | rfl | rfl | rfl | rfl | rfl | rfl | rfl | rfl | rfl | rfl | rfl | rfl | rfl | rfl | rfl | rfl | rfl | rfl | rfl | rfl | rfl | rfl | rfl | rfl | rfl | rfl | rfl | rfl | rfl | rfl | rfl | rfl | rfl | rfl | rfl | rfl | rfl
    · simp (disch := omega) only [az_wr_ne, az_wr_same, Int.reduceAdd, f1, y1_5, y1_7, f4, f6, f7, f9, f11, f13, f17]
    · simp (disch := omega) only [az_wr_ne, az_wr_same, Int.reduceAdd, f1, y1_5, y1_7, f4, f6, f7, f9, f11, f13, f17]
    · simp (disch := omega) only [az_wr_ne, az_wr_same, Int.reduceAdd, f1, y1_5, y1_7, f4, f6, f7, f9, f11, f13, f17]
    · simp (disch := omega) only [az_wr_ne, az_wr_same, Int.reduceAdd, f1, y1_5, y1_7, f4, f6, f7, f9, f11, f13, f17]
    · have q := u4 (223, 0, 0) (by decide)
      try simp (disch := omega) only [az_wr_ne, az_wr_same, Int.reduceAdd, f6, f7, f9, f11, f13, f17]
      exact q
    · have q := u4 (223, 1, (-1)) (by decide)
      try simp (disch := omega) only [az_wr_ne, az_wr_same, Int.reduceAdd, f6, f7, f9, f11, f13, f17]
      exact q
    · have q := u4 (223, 2, 224) (by decide)
      try simp (disch := omega) only [az_wr_ne, az_wr_same, Int.reduceAdd, f6, f7, f9, f11, f13, f17]
      exact q
    · have q := u4 (223, 3, 0) (by decide)
      try simp (disch := omega) only [az_wr_ne, az_wr_same, Int.reduceAdd, f6, f7, f9, f11, f13, f17]
      exact q
    · have q := u4 (223, 4, 0) (by decide)
      try simp (disch := omega) only [az_wr_ne, az_wr_same, Int.reduceAdd, f6, f7, f9, f11, f13, f17]
      exact q
    · have q := u4 (223, 5, 2) (by decide)
      try simp (disch := omega) only [az_wr_ne, az_wr_same, Int.reduceAdd, f6, f7, f9, f11, f13, f17]
      exact q
    · have q := u4 (223, 6, 225) (by decide)
      try simp (disch := omega) only [az_wr_ne, az_wr_same, Int.reduceAdd, f6, f7, f9, f11, f13, f17]
      exact q
    · have q := u4 (223, 7, 0) (by decide)
      try simp (disch := omega) only [az_wr_ne, az_wr_same, Int.reduceAdd, f6, f7, f9, f11, f13, f17]
      exact q
    · have q := u4 (223, 8, 0) (by decide)
      try simp (disch := omega) only [az_wr_ne, az_wr_same, Int.reduceAdd, f6, f7, f9, f11, f13, f17]
      exact q
    · have q := u4 (223, 9, 0) (by decide)
      try simp (disch := omega) only [az_wr_ne, az_wr_same, Int.reduceAdd, f6, f7, f9, f11, f13, f17]
      exact q
    · have q := u4 (223, 10, 0) (by decide)
      try simp (disch := omega) only [az_wr_ne, az_wr_same, Int.reduceAdd, f6, f7, f9, f11, f13, f17]
      exact q
    · have q := u4 (223, 11, 3) (by decide)
      try simp (disch := omega) only [az_wr_ne, az_wr_same, Int.reduceAdd, f6, f7, f9, f11, f13, f17]
      exact q
    · have q := u4 (223, 12, 161) (by decide)
      try simp (disch := omega) only [az_wr_ne, az_wr_same, Int.reduceAdd, f6, f7, f9, f11, f13, f17]
      exact q
    · have q := u4 (223, 13, 229) (by decide)
      try simp (disch := omega) only [az_wr_ne, az_wr_same, Int.reduceAdd, f6, f7, f9, f11, f13, f17]
      exact q
    · have q := u4 (223, 14, 230) (by decide)
      try simp (disch := omega) only [az_wr_ne, az_wr_same, Int.reduceAdd, f6, f7, f9, f11, f13, f17]
      exact q
    · have q := u4 (225, 0, 226) (by decide)
      try simp (disch := omega) only [az_wr_ne, az_wr_same, Int.reduceAdd, f6, f7, f9, f11, f13, f17]
      exact q
    · have q := u4 (225, 1, 227) (by decide)
      try simp (disch := omega) only [az_wr_ne, az_wr_same, Int.reduceAdd, f6, f7, f9, f11, f13, f17]
      exact q
    · have q := u4 (225, 2, 228) (by decide)
      try simp (disch := omega) only [az_wr_ne, az_wr_same, Int.reduceAdd, f6, f7, f9, f11, f13, f17]
      exact q
    · have q := u4 (225, 3, 0) (by decide)
      try simp (disch := omega) only [az_wr_ne, az_wr_same, Int.reduceAdd, f6, f7, f9, f11, f13, f17]
      exact q
    · have q := u7 (231, 0, 0) (by decide)
      try simp (disch := omega) only [az_wr_ne, az_wr_same, Int.reduceAdd, f9, f11, f13, f17]
      exact q
    · have q := u7 (231, 1, 232) (by decide)
      try simp (disch := omega) only [az_wr_ne, az_wr_same, Int.reduceAdd, f9, f11, f13, f17]
      exact q
    · have q := u7 (231, 2, 233) (by decide)
      try simp (disch := omega) only [az_wr_ne, az_wr_same, Int.reduceAdd, f9, f11, f13, f17]
      exact q
    · have q := u7 (231, 3, 234) (by decide)
      try simp (disch := omega) only [az_wr_ne, az_wr_same, Int.reduceAdd, f9, f11, f13, f17]
      exact q
    · have q := u7 (231, 4, 235) (by decide)
      try simp (disch := omega) only [az_wr_ne, az_wr_same, Int.reduceAdd, f9, f11, f13, f17]
      exact q
    · have q := u7 (231, 5, 236) (by decide)
      try simp (disch := omega) only [az_wr_ne, az_wr_same, Int.reduceAdd, f9, f11, f13, f17]
      exact q
    · have q := u7 (231, 6, 237) (by decide)
      try simp (disch := omega) only [az_wr_ne, az_wr_same, Int.reduceAdd, f9, f11, f13, f17]
      exact q
    · have q := u7 (231, 7, 238) (by decide)
      try simp (disch := omega) only [az_wr_ne, az_wr_same, Int.reduceAdd, f9, f11, f13, f17]
      exact q
    · have q := u7 (231, 8, 239) (by decide)
      try simp (disch := omega) only [az_wr_ne, az_wr_same, Int.reduceAdd, f9, f11, f13, f17]
      exact q
    · have q := u7 (231, 9, 240) (by decide)
      try simp (disch := omega) only [az_wr_ne, az_wr_same, Int.reduceAdd, f9, f11, f13, f17]
      exact q
    · have q := u7 (231, 10, 241) (by decide)
      try simp (disch := omega) only [az_wr_ne, az_wr_same, Int.reduceAdd, f9, f11, f13, f17]
      exact q
    · have q := u11 (242, 0, 231) (by decide)
      try simp (disch := omega) only [az_wr_ne, az_wr_same, Int.reduceAdd, f13, f17]
      exact q
    · have q := u11 (242, 1, (-1)) (by decide)
      try simp (disch := omega) only [az_wr_ne, az_wr_same, Int.reduceAdd, f13, f17]
      exact q
    · have q := u17 (243, 0, 231) (by decide)
      try simp (disch := omega) only [az_wr_ne, az_wr_same, Int.reduceAdd]
      exact q
    · have q := u17 (243, 1, 161) (by decide)
      try simp (disch := omega) only [az_wr_ne, az_wr_same, Int.reduceAdd]
      exact q
    · have q := u17 (243, 2, 3) (by decide)
      try simp (disch := omega) only [az_wr_ne, az_wr_same, Int.reduceAdd]
      exact q
    · have q := u17 (243, 3, 244) (by decide)
      try simp (disch := omega) only [az_wr_ne, az_wr_same, Int.reduceAdd]
      exact q
    · have q := u17 (243, 4, 0) (by decide)
      try simp (disch := omega) only [az_wr_ne, az_wr_same, Int.reduceAdd]
      exact q
    · have q := u17 (243, 5, (-1)) (by decide)
      try simp (disch := omega) only [az_wr_ne, az_wr_same, Int.reduceAdd]
      exact q
    · have q := u17 (243, 6, 0) (by decide)
      try simp (disch := omega) only [az_wr_ne, az_wr_same, Int.reduceAdd]
      exact q
    · have q := u17 (243, 7, 0) (by decide)
      try simp (disch := omega) only [az_wr_ne, az_wr_same, Int.reduceAdd]
      exact q
    · have q := u17 (243, 8, 0) (by decide)
      try simp (disch := omega) only [az_wr_ne, az_wr_same, Int.reduceAdd]
      exact q
    · have q := u17 (243, 9, (-1)) (by decide)
      try simp (disch := omega) only [az_wr_ne, az_wr_same, Int.reduceAdd]
      exact q
    · have q := u17 (243, 10, 246) (by decide)
      try simp (disch := omega) only [az_wr_ne, az_wr_same, Int.reduceAdd]
      exact q
    · have q := u17 (243, 11, 248) (by decide)
      try simp (disch := omega) only [az_wr_ne, az_wr_same, Int.reduceAdd]
      exact q
    · have q := u17 (243, 12, 249) (by decide)
      try simp (disch := omega) only [az_wr_ne, az_wr_same, Int.reduceAdd]
      exact q
    · have q := u17 (243, 13, 250) (by decide)
      try simp (disch := omega) only [az_wr_ne, az_wr_same, Int.reduceAdd]
      exact q
    · have q := u17 (243, 14, 251) (by decide)
      try simp (disch := omega) only [az_wr_ne, az_wr_same, Int.reduceAdd]
      exact q
    · have q := u17 (243, 15, 252) (by decide)
      try simp (disch := omega) only [az_wr_ne, az_wr_same, Int.reduceAdd]
      exact q
    · have q := u17 (244, 0, 245) (by decide)
      try simp (disch := omega) only [az_wr_ne, az_wr_same, Int.reduceAdd]
      exact q
    · have q := u17 (244, 1, 0) (by decide)
      try simp (disch := omega) only [az_wr_ne, az_wr_same, Int.reduceAdd]
      exact q
    · have q := u17 (246, 0, 247) (by decide)
      try simp (disch := omega) only [az_wr_ne, az_wr_same, Int.reduceAdd]
      exact q
    · have q := u17 (246, 1, 0) (by decide)
      try simp (disch := omega) only [az_wr_ne, az_wr_same, Int.reduceAdd]
      exact q
  · intro q q0 q1
    have := w17 q q0 q1
    try simp (disch := omega) only [az_wr_ne, az_wr_same, Int.reduceAdd]
    exact this
def bz_L_X10_init_134_1 : List (Int × Int × Int) := [(1, 12, 375), (1, 13, 377), (1, 14, 379), (1, 15, (-1)), (375, 0, 376), (375, 1, 0), (377, 0, 378), (377, 1, 0)]
theorem bz_c_X10_init_134_1 {σ : az_Hp} (h : bz_B σ 374 0) : ∃ σ', fz_X10_init_134 2000000 σ 1 = fz_X10_init_173 2000000 σ' 1 ∧ bz_B σ' 379 0 ∧ (∀ a k : Int, a ≤ 374 → (a ≠ 1 ∨ (k ≠ 12 ∧ k ≠ 13 ∧ k ≠ 14 ∧ k ≠ 15)) → σ'.2 a k = σ.2 a k) ∧ (∀ p ∈ bz_L_X10_init_134_1, σ'.2 p.1 p.2.1 = p.2.2) := by
  obtain ⟨σ1, e1, b1, f1⟩ := h.newO (z := 2) (r := 375) (c' := 375) 7 (by omega) (by omega) (by omega) (by omega) (by decide) (by omega) (by omega)
  obtain ⟨σ2, e2, b2, f2, u2, w2⟩ := bz_c_row (r := 375) (z := 60) (c' := 376) b1 (by omega) (by omega) (by omega) (by omega) (by decide) (by omega) (by omega)
  have b3 := b2.wr (a := 1) (i := 12) (x := 375) (by omega)
  obtain ⟨σ4, e4, b4, f4⟩ := b3.newO (z := 2) (r := 377) (c' := 377) 7 (by omega) (by omega) (by omega) (by omega) (by decide) (by omega) (by omega)
  obtain ⟨σ5, e5, b5, f5, u5, w5⟩ := bz_c_row (r := 377) (z := 60) (c' := 378) b4 (by omega) (by omega) (by omega) (by omega) (by decide) (by omega) (by omega)
  have b6 := b5.wr (a := 1) (i := 13) (x := 377) (by omega)
  obtain ⟨σ7, e7, b7, f7⟩ := b6.newO (z := 12) (r := 379) (c' := 379) 13 (by omega) (by omega) (by omega) (by omega) (by decide) (by omega) (by omega)
  have b8 := b7.wr (a := 1) (i := 14) (x := 379) (by omega)
  have b9 := b8.wr (a := 1) (i := 15) (x := (-1)) (by omega)
  refine ⟨(az_wr (az_wr σ7 1 14 379) 1 15 (-1)), ?_, b9, ?_, ?_⟩
  · unfold fz_X10_init_134
    rw [e1, Option.bind_some]
    try dsimp only
    rw [e2, Option.bind_some]
    try dsimp only
    rw [e4, Option.bind_some]
    try dsimp only
    rw [e5, Option.bind_some]
    try dsimp only
    rw [e7, Option.bind_some]
    try dsimp only
  · intro a k ha hk
    simp (disch := omega) only [az_wr_ne, az_wr_same, Int.reduceAdd, f1, f2, u2, w2, f4, f5, u5, w5, f7]
  · intro p hp
    simp only [bz_L_X10_init_134_1, List.mem_cons, List.not_mem_nil, or_false] at hp
    rcases hp with rfl | rfl | rfl | rfl | rfl | rfl | rfl | rfl
    · simp (disch := omega) only [az_wr_ne, az_wr_same, Int.reduceAdd, f1, f2, u2, w2, f4, f5, u5, w5, f7]
    · simp (disch := omega) only [az_wr_ne, az_wr_same, Int.reduceAdd, f1, f2, u2, w2, f4, f5, u5, w5, f7]
    · simp (disch := omega) only [az_wr_ne, az_wr_same, Int.reduceAdd, f1, f2, u2, w2, f4, f5, u5, w5, f7]
    · simp (disch := omega) only [az_wr_ne, az_wr_same, Int.reduceAdd, f1, f2, u2, w2, f4, f5, u5, w5, f7]
    · simp (disch := omega) only [az_wr_ne, az_wr_same, Int.reduceAdd, f1, f2, u2, w2, f4, f5, u5, w5, f7]
    · simp (disch := omega) only [az_wr_ne, az_wr_same, Int.reduceAdd, f1, f2, u2, w2, f4, f5, u5, w5, f7]
    · simp (disch := omega) only [az_wr_ne, az_wr_same, Int.reduceAdd, f1, f2, u2, w2, f4, f5, u5, w5, f7]
    · simp (disch := omega) only [az_wr_ne, az_wr_same, Int.reduceAdd, f1, f2, u2, w2, f4, f5, u5, w5, f7]
def bz_L_X8_init_380 : List (Int × Int × Int) := [(380, 0, 0), (380, 1, 0), (380, 2, 0), (380, 3, (-1)), (380, 4, 0), (380, 5, 0), (380, 6, 0), (380, 7, 381), (380, 8, 382), (380, 9, 0), (380, 10, 383), (380, 11, 384), (380, 12, 385), (380, 13, 386), (380, 14, 387), (380, 15, 388)]
theorem bz_c_X8_init_380 {σ : az_Hp} (h : bz_B σ 380 0) : ∃ σ', fz_X8_init 2000000 σ 380 = some σ' ∧ bz_B σ' 800 0 ∧ (∀ a k : Int, a < 380 → σ'.2 a k = σ.2 a k) ∧ (∀ p ∈ bz_L_X8_init_380, σ'.2 p.1 p.2.1 = p.2.2) ∧ (∀ q : Nat, 0 ≤ q → q < 100 → σ'.2 385 q = 389 + 4 * (q : Int) ∧ σ'.2 386 q = 391 + 4 * (q : Int) ∧ σ'.2 (389 + 4 * (q : Int)) 0 = 390 + 4 * (q : Int) ∧ σ'.2 (391 + 4 * (q : Int)) 0 = 392 + 4 * (q : Int)) ∧ (∀ q : Nat, 0 ≤ q → q < 100 → σ'.2 383 q = q) ∧ (∀ q : Nat, 0 ≤ q → q < 6 → σ'.2 382 q = 789 + 2 * (q : Int) ∧ σ'.2 (789 + 2 * (q : Int)) 0 = 790 + 2 * (q : Int)) := by
  have b1 := h.wr (a := 380) (i := 0) (x := 0) (by omega)
  have b2 := b1.wr (a := 380) (i := 1) (x := 0) (by omega)
  have b3 := b2.wr (a := 380) (i := 2) (x := 0) (by omega)
  have b4 := b3.wr (a := 380) (i := 3) (x := (-1)) (by omega)
  have b5 := b4.wr (a := 380) (i := 4) (x := 0) (by omega)
  have b6 := b5.wr (a := 380) (i := 5) (x := 0) (by omega)
  have b7 := b6.wr (a := 380) (i := 6) (x := 0) (by omega)
  obtain ⟨σ8, e8, b8, f8⟩ := b7.newO (z := 6) (r := 381) (c' := 381) 13 (by omega) (by omega) (by omega) (by omega) (by decide) (by omega) (by omega)
  have b9 := b8.wr (a := 380) (i := 7) (x := 381) (by omega)
  obtain ⟨σ10, e10, b10, f10⟩ := b9.newO (z := 6) (r := 382) (c' := 382) 16 (by omega) (by omega) (by omega) (by omega) (by decide) (by omega) (by omega)
  have b11 := b10.wr (a := 380) (i := 8) (x := 382) (by omega)
  have b12 := b11.wr (a := 380) (i := 9) (x := 0) (by omega)
  obtain ⟨σ13, e13, b13, f13⟩ := b12.newO (z := 100) (r := 383) (c' := 383) 13 (by omega) (by omega) (by omega) (by omega) (by decide) (by omega) (by omega)
  have b14 := b13.wr (a := 380) (i := 10) (x := 383) (by omega)
  obtain ⟨σ15, e15, b15, f15⟩ := b14.newO (z := 100) (r := 384) (c' := 384) 13 (by omega) (by omega) (by omega) (by omega) (by decide) (by omega) (by omega)
  have b16 := b15.wr (a := 380) (i := 11) (x := 384) (by omega)
  obtain ⟨σ17, e17, b17, f17⟩ := b16.newO (z := 100) (r := 385) (c' := 385) 16 (by omega) (by omega) (by omega) (by omega) (by decide) (by omega) (by omega)
  have b18 := b17.wr (a := 380) (i := 12) (x := 385) (by omega)
  obtain ⟨σ19, e19, b19, f19⟩ := b18.newO (z := 100) (r := 386) (c' := 386) 16 (by omega) (by omega) (by omega) (by omega) (by decide) (by omega) (by omega)
  have b20 := b19.wr (a := 380) (i := 13) (x := 386) (by omega)
  obtain ⟨σ21, e21, b21, f21⟩ := b20.newO (z := 7) (r := 387) (c' := 387) 16 (by omega) (by omega) (by omega) (by omega) (by decide) (by omega) (by omega)
  have b22 := b21.wr (a := 380) (i := 14) (x := 387) (by omega)
  obtain ⟨σ23, e23, b23, f23⟩ := b22.newO (z := 7) (r := 388) (c' := 388) 13 (by omega) (by omega) (by omega) (by omega) (by decide) (by omega) (by omega)
  have b24 := b23.wr (a := 380) (i := 15) (x := 388) (by omega)
  have e26 : az_gref (az_wr σ23 380 15 388) 380 12 = some 385 := bz_gr (by simp (disch := omega) only [az_wr_ne, az_wr_same, Int.reduceAdd, f8, f10, f13, f15, f17, f19, f21, f23]) (by omega)
  have e27 : az_gref (az_wr σ23 380 15 388) 380 13 = some 386 := bz_gr (by simp (disch := omega) only [az_wr_ne, az_wr_same, Int.reduceAdd, f8, f10, f13, f15, f17, f19, f21, f23]) (by omega)
  have e28 : az_gref (az_wr σ23 380 15 388) 380 10 = some 383 := bz_gr (by simp (disch := omega) only [az_wr_ne, az_wr_same, Int.reduceAdd, f8, f10, f13, f15, f17, f19, f21, f23]) (by omega)
  obtain ⟨σ25, e25, b25, f25, -, w25, y25⟩ := bz_lp_solv (n := 2000000) 100 2000000 0 _ (by omega) (by omega) (by simpa using b24) e26 e27 e28
  simp only [Int.natCast_zero] at e25 f25
  have e29 : az_gref σ25 380 8 = some 382 := bz_gr (by simp (disch := omega) only [az_wr_ne, az_wr_same, Int.reduceAdd, f8, f10, f13, f15, f17, f19, f21, f23, f25]) (by omega)
  obtain ⟨σ30, e30, b30, f30, -, w30⟩ := bz_lp_vals (n := 2000000) 6 2000000 0 _ (by omega) (by omega) (by simpa using b25) e29
  simp only [Int.natCast_zero] at e30 f30
  refine ⟨σ30, ?_, b30, ?_, ?_, ?_, ?_, ?_⟩
  · unfold fz_X8_init
    rw [e8, Option.bind_some]
    try dsimp only
    rw [e10, Option.bind_some]
    try dsimp only
    rw [e13, Option.bind_some]
    try dsimp only
    rw [e15, Option.bind_some]
    try dsimp only
    rw [e17, Option.bind_some]
    try dsimp only
    rw [e19, Option.bind_some]
    try dsimp only
    rw [e21, Option.bind_some]
    try dsimp only
    rw [e23, Option.bind_some]
    try dsimp only
    rw [e25]
    exact e30
  · intro a k ha
    simp (disch := omega) only [az_wr_ne, az_wr_same, Int.reduceAdd, f8, f10, f13, f15, f17, f19, f21, f23, f25, f30]
  · intro p hp
    simp only [bz_L_X8_init_380, List.mem_cons, List.not_mem_nil, or_false] at hp
    rcases hp with rfl | rfl | rfl | rfl | rfl | rfl | rfl | rfl | rfl | rfl | rfl | rfl | rfl | rfl | rfl | rfl
    · simp (disch := omega) only [az_wr_ne, az_wr_same, Int.reduceAdd, f8, f10, f13, f15, f17, f19, f21, f23, f25, f30]
    · simp (disch := omega) only [az_wr_ne, az_wr_same, Int.reduceAdd, f8, f10, f13, f15, f17, f19, f21, f23, f25, f30]
    · simp (disch := omega) only [az_wr_ne, az_wr_same, Int.reduceAdd, f8, f10, f13, f15, f17, f19, f21, f23, f25, f30]
    · simp (disch := omega) only [az_wr_ne, az_wr_same, Int.reduceAdd, f8, f10, f13, f15, f17, f19, f21, f23, f25, f30]
    · simp (disch := omega) only [az_wr_ne, az_wr_same, Int.reduceAdd, f8, f10, f13, f15, f17, f19, f21, f23, f25, f30]
    · simp (disch := omega) only [az_wr_ne, az_wr_same, Int.reduceAdd, f8, f10, f13, f15, f17, f19, f21, f23, f25, f30]
    · simp (disch := omega) only [az_wr_ne, az_wr_same, Int.reduceAdd, f8, f10, f13, f15, f17, f19, f21, f23, f25, f30]
    · simp (disch := omega) only [az_wr_ne, az_wr_same, Int.reduceAdd, f8, f10, f13, f15, f17, f19, f21, f23, f25, f30]
    · simp (disch := omega) only [az_wr_ne, az_wr_same, Int.reduceAdd, f8, f10, f13, f15, f17, f19, f21, f23, f25, f30]
    · simp (disch := omega) only [az_wr_ne, az_wr_same, Int.reduceAdd, f8, f10, f13, f15, f17, f19, f21, f23, f25, f30]
    · simp (disch := omega) only [az_wr_ne, az_wr_same, Int.reduceAdd, f8, f10, f13, f15, f17, f19, f21, f23, f25, f30]
    · simp (disch := omega) only [az_wr_ne, az_wr_same, Int.reduceAdd, f8, f10, f13, f15, f17, f19, f21, f23, f25, f30]
    · simp (disch := omega) only [az_wr_ne, az_wr_same, Int.reduceAdd, f8, f10, f13, f15, f17, f19, f21, f23, f25, f30]
    · simp (disch := omega) only [az_wr_ne, az_wr_same, Int.reduceAdd, f8, f10, f13, f15, f17, f19, f21, f23, f25, f30]
    · simp (disch := omega) only [az_wr_ne, az_wr_same, Int.reduceAdd, f8, f10, f13, f15, f17, f19, f21, f23, f25, f30]
    · simp (disch := omega) only [az_wr_ne, az_wr_same, Int.reduceAdd, f8, f10, f13, f15, f17, f19, f21, f23, f25, f30]
  · exact fun q q0 q1 => by have := w25 q q0 q1; rw [f30 _ _ (by omega) (by omega), f30 _ _ (by omega) (by omega), f30 _ _ (by omega) (by omega), f30 _ _ (by omega) (by omega)]; exact this
  · exact fun q q0 q1 => by rw [f30 _ _ (by omega) (by omega)]; exact y25 q q0 q1
  · exact w30
def bz_L_X3_init_801 : List (Int × Int × Int) := [(801, 0, 0), (801, 1, 802), (801, 2, 803)]
theorem bz_c_X3_init_801 {σ : az_Hp} (h : bz_B σ 801 0) : ∃ σ', fz_X3_init σ 801 = some σ' ∧ bz_B σ' 803 0 ∧ (∀ a k : Int, a < 801 → σ'.2 a k = σ.2 a k) ∧ (∀ p ∈ bz_L_X3_init_801, σ'.2 p.1 p.2.1 = p.2.2) := by
  have b1 := h.wr (a := 801) (i := 0) (x := 0) (by omega)
  obtain ⟨σ2, e2, b2, f2⟩ := b1.newO (z := 1024) (r := 802) (c' := 802) 13 (by omega) (by omega) (by omega) (by omega) (by decide) (by omega) (by omega)
  have b3 := b2.wr (a := 801) (i := 1) (x := 802) (by omega)
  obtain ⟨σ4, e4, b4, f4⟩ := b3.newO (z := 1024) (r := 803) (c' := 803) 13 (by omega) (by omega) (by omega) (by omega) (by decide) (by omega) (by omega)
  have b5 := b4.wr (a := 801) (i := 2) (x := 803) (by omega)
  refine ⟨(az_wr σ4 801 2 803), ?_, b5, ?_, ?_⟩
  · unfold fz_X3_init
    rw [e2, Option.bind_some]
    try dsimp only
    rw [e4, Option.bind_some]
    try dsimp only
  · intro a k ha
    simp (disch := omega) only [az_wr_ne, az_wr_same, Int.reduceAdd, f2, f4]
  · intro p hp
    simp only [bz_L_X3_init_801, List.mem_cons, List.not_mem_nil, or_false] at hp
    rcases hp with rfl | rfl | rfl
    · simp (disch := omega) only [az_wr_ne, az_wr_same, Int.reduceAdd, f2, f4]
    · simp (disch := omega) only [az_wr_ne, az_wr_same, Int.reduceAdd, f2, f4]
    · simp (disch := omega) only [az_wr_ne, az_wr_same, Int.reduceAdd, f2, f4]
def bz_L_X10_init_173_1 : List (Int × Int × Int) := [(1, 16, 380), (1, 17, 801), (380, 0, 0), (380, 1, 0), (380, 2, 0), (380, 3, (-1)), (380, 4, 0), (380, 5, 0), (380, 6, 0), (380, 7, 381), (380, 8, 382), (380, 9, 0), (380, 10, 383), (380, 11, 384), (380, 12, 385), (380, 13, 386), (380, 14, 387), (380, 15, 388), (801, 0, 0), (801, 1, 802), (801, 2, 803)]
theorem bz_c_X10_init_173_1 {σ : az_Hp} (h : bz_B σ 379 0) : ∃ σ', fz_X10_init_173 2000000 σ 1 = some σ' ∧ bz_B σ' 803 0 ∧ (∀ a k : Int, a ≤ 379 → (a ≠ 1 ∨ (k ≠ 16 ∧ k ≠ 17)) → σ'.2 a k = σ.2 a k) ∧ (∀ p ∈ bz_L_X10_init_173_1, σ'.2 p.1 p.2.1 = p.2.2) ∧ (∀ q : Nat, 0 ≤ q → q < 100 → σ'.2 385 q = 389 + 4 * (q : Int) ∧ σ'.2 386 q = 391 + 4 * (q : Int) ∧ σ'.2 (389 + 4 * (q : Int)) 0 = 390 + 4 * (q : Int) ∧ σ'.2 (391 + 4 * (q : Int)) 0 = 392 + 4 * (q : Int)) ∧ (∀ q : Nat, 0 ≤ q → q < 100 → σ'.2 383 q = q) ∧ (∀ q : Nat, 0 ≤ q → q < 6 → σ'.2 382 q = 789 + 2 * (q : Int) ∧ σ'.2 (789 + 2 * (q : Int)) 0 = 790 + 2 * (q : Int)) := by
  obtain ⟨σ1, e1, b1, f1⟩ := h.newO (z := 16) (r := 380) (c' := 380) 8 (by omega) (by omega) (by omega) (by omega) (by decide) (by omega) (by omega)
  obtain ⟨σ2, e2, b2, f2, u2, w2⟩ := bz_c_X8_init_380 b1
  have b3 := b2.wr (a := 1) (i := 16) (x := 380) (by omega)
  obtain ⟨σ4, e4, b4, f4⟩ := b3.newO (z := 3) (r := 801) (c' := 801) 3 (by omega) (by omega) (by omega) (by omega) (by decide) (by omega) (by omega)
  obtain ⟨σ5, e5, b5, f5, u5⟩ := bz_c_X3_init_801 b4
  have b6 := b5.wr (a := 1) (i := 17) (x := 801) (by omega)
  refine ⟨(az_wr σ5 1 17 801), ?_, b6, ?_, ?_, ?_, ?_, ?_⟩
  · unfold fz_X10_init_173
    rw [e1, Option.bind_some]
    try dsimp only
    rw [e2, Option.bind_some]
    try dsimp only
    rw [e4, Option.bind_some]
    try dsimp only
    rw [e5, Option.bind_some]
    try dsimp only
  · intro a k ha hk
    simp (disch := omega) only [az_wr_ne, az_wr_same, Int.reduceAdd, f1, f2, f4, f5]
  · intro p hp
    simp only [bz_L_X10_init_173_1, List.mem_cons, List.not_mem_nil, or_false] at hp
    rcases hp with rfl | rfl | rfl | rfl | rfl | rfl | rfl | rfl | rfl | rfl | rfl | rfl | rfl | rfl | rfl | rfl | rfl | rfl | rfl | rfl | rfl
    · simp (disch := omega) only [az_wr_ne, az_wr_same, Int.reduceAdd, f1, f2, f4, f5]
    · simp (disch := omega) only [az_wr_ne, az_wr_same, Int.reduceAdd, f1, f2, f4, f5]
    · have q := u2 (380, 0, 0) (by decide)
      try simp (disch := omega) only [az_wr_ne, az_wr_same, Int.reduceAdd, f4, f5]
      exact q
    · have q := u2 (380, 1, 0) (by decide)
      try simp (disch := omega) only [az_wr_ne, az_wr_same, Int.reduceAdd, f4, f5]
      exact q
    · have q := u2 (380, 2, 0) (by decide)
      try simp (disch := omega) only [az_wr_ne, az_wr_same, Int.reduceAdd, f4, f5]
      exact q
    · have q := u2 (380, 3, (-1)) (by decide)
      try simp (disch := omega) only [az_wr_ne, az_wr_same, Int.reduceAdd, f4, f5]
      exact q
    · have q := u2 (380, 4, 0) (by decide)
      try simp (disch := omega) only [az_wr_ne, az_wr_same, Int.reduceAdd, f4, f5]
      exact q
    · have q := u2 (380, 5, 0) (by decide)
      try simp (disch := omega) only [az_wr_ne, az_wr_same, Int.reduceAdd, f4, f5]
      exact q
    · have q := u2 (380, 6, 0) (by decide)
      try simp (disch := omega) only [az_wr_ne, az_wr_same, Int.reduceAdd, f4, f5]
      exact q
    · have q := u2 (380, 7, 381) (by decide)
      try simp (disch := omega) only [az_wr_ne, az_wr_same, Int.reduceAdd, f4, f5]
      exact q
    · have q := u2 (380, 8, 382) (by decide)
      try simp (disch := omega) only [az_wr_ne, az_wr_same, Int.reduceAdd, f4, f5]
      exact q
    · have q := u2 (380, 9, 0) (by decide)
      try simp (disch := omega) only [az_wr_ne, az_wr_same, Int.reduceAdd, f4, f5]
      exact q
    · have q := u2 (380, 10, 383) (by decide)
      try simp (disch := omega) only [az_wr_ne, az_wr_same, Int.reduceAdd, f4, f5]
      exact q
    · have q := u2 (380, 11, 384) (by decide)
      try simp (disch := omega) only [az_wr_ne, az_wr_same, Int.reduceAdd, f4, f5]
      exact q
    · have q := u2 (380, 12, 385) (by decide)
      try simp (disch := omega) only [az_wr_ne, az_wr_same, Int.reduceAdd, f4, f5]
      exact q
    · have q := u2 (380, 13, 386) (by decide)
      try simp (disch := omega) only [az_wr_ne, az_wr_same, Int.reduceAdd, f4, f5]
      exact q
    · have q := u2 (380, 14, 387) (by decide)
      try simp (disch := omega) only [az_wr_ne, az_wr_same, Int.reduceAdd, f4, f5]
      exact q
    · have q := u2 (380, 15, 388) (by decide)
      try simp (disch := omega) only [az_wr_ne, az_wr_same, Int.reduceAdd, f4, f5]
      exact q
    · have q := u5 (801, 0, 0) (by decide)
      try simp (disch := omega) only [az_wr_ne, az_wr_same, Int.reduceAdd]
      exact q
    · have q := u5 (801, 1, 802) (by decide)
      try simp (disch := omega) only [az_wr_ne, az_wr_same, Int.reduceAdd]
      exact q
    · have q := u5 (801, 2, 803) (by decide)
      try simp (disch := omega) only [az_wr_ne, az_wr_same, Int.reduceAdd]
      exact q
  · intro q q0 q1
    have := w2.1 q q0 q1
    try simp (disch := omega) only [az_wr_ne, az_wr_same, Int.reduceAdd, f4, f5]
    exact this
  · intro q q0 q1
    have := w2.2.1 q q0 q1
    try simp (disch := omega) only [az_wr_ne, az_wr_same, Int.reduceAdd, f4, f5]
    exact this
  · intro q q0 q1
    have := w2.2.2 q q0 q1
    try simp (disch := omega) only [az_wr_ne, az_wr_same, Int.reduceAdd, f4, f5]
    exact this
def bz_L_X11_init_804 : List (Int × Int × Int) := [(804, 0, 805), (804, 3, (-1)), (804, 4, (-1)), (804, 16, 806), (804, 1, 0), (804, 2, 0), (804, 5, 0), (804, 6, 0), (804, 7, 0), (804, 8, 0), (804, 9, 0), (804, 10, 0), (804, 11, 0), (804, 12, 0), (804, 13, 0), (804, 14, 0), (804, 15, 0), (804, 31, 0), (804, 32, 0), (804, 33, 0), (804, 34, 0), (804, 37, 0), (804, 38, 0), (804, 49, 0), (804, 50, 0), (804, 51, 0), (804, 52, 0), (804, 57, 0), (804, 58, 0), (804, 60, 0), (804, 61, 0), (804, 62, 0), (804, 63, 0), (804, 64, 0), (804, 65, 0), (804, 70, 0), (804, 71, 0), (804, 72, 0), (804, 73, 0), (804, 74, 0), (804, 77, 0), (804, 78, 0), (804, 81, 0), (804, 85, 0), (804, 86, 0), (804, 87, 0), (804, 100, 0), (804, 101, 0), (804, 108, 0), (804, 109, 0), (804, 110, 0), (804, 111, 0), (804, 114, 0), (804, 115, 0), (806, 0, 0), (806, 1, 0)]
theorem bz_c_X11_init_804 {σ : az_Hp} (h : bz_B σ 804 0) (y804 : ∀ k, σ.2 804 k = 0) : ∃ σ', fz_X11_init σ 804 = fz_X11_init_30 σ' 804 ∧ bz_B σ' 806 0 ∧ (∀ a k : Int, a < 804 → σ'.2 a k = σ.2 a k) ∧ (∀ p ∈ bz_L_X11_init_804, σ'.2 p.1 p.2.1 = p.2.2) := by
  obtain ⟨σ1, e1, b1, f1⟩ := h.newO (z := 900) (r := 805) (c' := 805) 13 (by omega) (by omega) (by omega) (by omega) (by decide) (by omega) (by omega)
  have b2 := b1.wr (a := 804) (i := 0) (x := 805) (by omega)
  have b3 := b2.wr (a := 804) (i := 3) (x := (-1)) (by omega)
  have b4 := b3.wr (a := 804) (i := 4) (x := (-1)) (by omega)
  obtain ⟨σ5, e5, b5, f5⟩ := b4.newO (z := 2) (r := 806) (c' := 806) 13 (by omega) (by omega) (by omega) (by omega) (by decide) (by omega) (by omega)
  have b6 := b5.wr (a := 804) (i := 16) (x := 806) (by omega)
  refine ⟨(az_wr σ5 804 16 806), ?_, b6, ?_, ?_⟩
  · unfold fz_X11_init
    rw [e1, Option.bind_some]
    try dsimp only
    rw [e5, Option.bind_some]
    try dsimp only
  · intro a k ha
    simp (disch := omega) only [az_wr_ne, az_wr_same, Int.reduceAdd, f1, f5]
  · intro p hp
    simp only [bz_L_X11_init_804, List.mem_cons, List.not_mem_nil, or_false] at hp
    rcases hp with rfl | rfl | rfl | rfl | rfl | rfl | rfl | rfl | rfl | rfl | rfl | rfl | rfl | rfl | rfl | rfl | rfl | rfl | rfl | rfl | rfl | rfl | rfl | rfl | rfl | rfl | rfl | rfl | rfl | rfl | rfl | rfl | rfl | rfl | rfl | rfl | rfl | rfl | rfl | rfl | rfl | rfl | rfl | rfl | rfl | rfl | rfl | rfl | rfl | rfl | rfl | rfl | rfl | rfl | rfl | rfl
    · simp (disch := omega) only [az_wr_ne, az_wr_same, Int.reduceAdd, f1, f5]
    · simp (disch := omega) only [az_wr_ne, az_wr_same, Int.reduceAdd, f1, f5]
    · simp (disch := omega) only [az_wr_ne, az_wr_same, Int.reduceAdd, f1, f5]
    · simp (disch := omega) only [az_wr_ne, az_wr_same, Int.reduceAdd, f1, f5]
    · try simp (disch := omega) only [az_wr_ne, az_wr_same, Int.reduceAdd, f1, f5]
      exact y804 _
    · try simp (disch := omega) only [az_wr_ne, az_wr_same, Int.reduceAdd, f1, f5]
      exact y804 _
    · try simp (disch := omega) only [az_wr_ne, az_wr_same, Int.reduceAdd, f1, f5]
      exact y804 _
    · try simp (disch := omega) only [az_wr_ne, az_wr_same, Int.reduceAdd, f1, f5]
      exact y804 _
    · try simp (disch := omega) only [az_wr_ne, az_wr_same, Int.reduceAdd, f1, f5]
      exact y804 _
    · try simp (disch := omega) only [az_wr_ne, az_wr_same, Int.reduceAdd, f1, f5]
      exact y804 _
    · try simp (disch := omega) only [az_wr_ne, az_wr_same, Int.reduceAdd, f1, f5]
      exact y804 _
    · try simp (disch := omega) only [az_wr_ne, az_wr_same, Int.reduceAdd, f1, f5]
      exact y804 _
    · try simp (disch := omega) only [az_wr_ne, az_wr_same, Int.reduceAdd, f1, f5]
      exact y804 _
    · try simp (disch := omega) only [az_wr_ne, az_wr_same, Int.reduceAdd, f1, f5]
      exact y804 _
    · try simp (disch := omega) only [az_wr_ne, az_wr_same, Int.reduceAdd, f1, f5]
      exact y804 _
    · try simp (disch := omega) only [az_wr_ne, az_wr_same, Int.reduceAdd, f1, f5]
      exact y804 _
    · try simp (disch := omega) only [az_wr_ne, az_wr_same, Int.reduceAdd, f1, f5]
      exact y804 _
    · try simp (disch := omega) only [az_wr_ne, az_wr_same, Int.reduceAdd, f1, f5]
      exact y804 _
    · try simp (disch := omega) only [az_wr_ne, az_wr_same, Int.reduceAdd, f1, f5]
      exact y804 _
    · try simp (disch := omega) only [az_wr_ne, az_wr_same, Int.reduceAdd, f1, f5]
      exact y804 _
    · try simp (disch := omega) only [az_wr_ne, az_wr_same, Int.reduceAdd, f1, f5]
      exact y804 _
    · try simp (disch := omega) only [az_wr_ne, az_wr_same, Int.reduceAdd, f1, f5]
      exact y804 _
    · try simp (disch := omega) only [az_wr_ne, az_wr_same, Int.reduceAdd, f1, f5]
      exact y804 _
    · try simp (disch := omega) only [az_wr_ne, az_wr_same, Int.reduceAdd, f1, f5]
      exact y804 _
    · try simp (disch := omega) only [az_wr_ne, az_wr_same, Int.reduceAdd, f1, f5]
      exact y804 _
    · try simp (disch := omega) only [az_wr_ne, az_wr_same, Int.reduceAdd, f1, f5]
      exact y804 _
    · try simp (disch := omega) only [az_wr_ne, az_wr_same, Int.reduceAdd, f1, f5]
      exact y804 _
    · try simp (disch := omega) only [az_wr_ne, az_wr_same, Int.reduceAdd, f1, f5]
      exact y804 _
    · try simp (disch := omega) only [az_wr_ne, az_wr_same, Int.reduceAdd, f1, f5]
      exact y804 _
    · try simp (disch := omega) only [az_wr_ne, az_wr_same, Int.reduceAdd, f1, f5]
      exact y804 _
    · try simp (disch := omega) only [az_wr_ne, az_wr_same, Int.reduceAdd, f1, f5]
      exact y804 _
    · try simp (disch := omega) only [az_wr_ne, az_wr_same, Int.reduceAdd, f1, f5]
      exact y804 _
    · try simp (disch := omega) only [az_wr_ne, az_wr_same, Int.reduceAdd, f1, f5]
      exact y804 _
    · try simp (disch := omega) only [az_wr_ne, az_wr_same, Int.reduceAdd, f1, f5]
      exact y804 _
    · try simp (disch := omega) only [az_wr_ne, az_wr_same, Int.reduceAdd, f1, f5]
      exact y804 _
    · try simp (disch := omega) only [az_wr_ne, az_wr_same, Int.reduceAdd, f1, f5]
      exact y804 _
    · try simp (disch := omega) only [az_wr_ne, az_wr_same, Int.reduceAdd, f1, f5]
      exact y804 _
    · try simp (disch := omega) only [az_wr_ne, az_wr_same, Int.reduceAdd, f1, f5]
      exact y804 _
    · try simp (disch := omega) only [az_wr_ne, az_wr_same, Int.reduceAdd, f1, f5]
      exact y804 _
    · try simp (disch := omega) only [az_wr_ne, az_wr_same, Int.reduceAdd, f1, f5]
      exact y804 _
    · try simp (disch := omega) only [az_wr_ne, az_wr_same, Int.reduceAdd, f1, f5]
      exact y804 _
    · try simp (disch := omega) only [az_wr_ne, az_wr_same, Int.reduceAdd, f1, f5]
      exact y804 _
    · try simp (disch := omega) only [az_wr_ne, az_wr_same, Int.reduceAdd, f1, f5]
      exact y804 _
    · try simp (disch := omega) only [az_wr_ne, az_wr_same, Int.reduceAdd, f1, f5]
      exact y804 _
    · try simp (disch := omega) only [az_wr_ne, az_wr_same, Int.reduceAdd, f1, f5]
      exact y804 _
    · try simp (disch := omega) only [az_wr_ne, az_wr_same, Int.reduceAdd, f1, f5]
      exact y804 _
    · try simp (disch := omega) only [az_wr_ne, az_wr_same, Int.reduceAdd, f1, f5]
      exact y804 _
    · try simp (disch := omega) only [az_wr_ne, az_wr_same, Int.reduceAdd, f1, f5]
      exact y804 _
    · try simp (disch := omega) only [az_wr_ne, az_wr_same, Int.reduceAdd, f1, f5]
      exact y804 _
    · try simp (disch := omega) only [az_wr_ne, az_wr_same, Int.reduceAdd, f1, f5]
      exact y804 _
    · try simp (disch := omega) only [az_wr_ne, az_wr_same, Int.reduceAdd, f1, f5]
      exact y804 _
    · try simp (disch := omega) only [az_wr_ne, az_wr_same, Int.reduceAdd, f1, f5]
      exact y804 _
    · try simp (disch := omega) only [az_wr_ne, az_wr_same, Int.reduceAdd, f1, f5]
      exact y804 _
    · try simp (disch := omega) only [az_wr_ne, az_wr_same, Int.reduceAdd, f1, f5]
      exact y804 _
    · try simp (disch := omega) only [az_wr_ne, az_wr_same, Int.reduceAdd, f1, f5]
      exact h.2.2.1 _ _ (by omega)
    · try simp (disch := omega) only [az_wr_ne, az_wr_same, Int.reduceAdd, f1, f5]
      exact h.2.2.1 _ _ (by omega)
def bz_L_X11_init_30_804 : List (Int × Int × Int) := [(804, 17, 807), (804, 18, 808), (804, 19, 809), (804, 20, 810), (807, 0, 0), (807, 1, 0), (808, 0, 0), (808, 1, 0)]
theorem bz_c_X11_init_30_804 {σ : az_Hp} (h : bz_B σ 806 0) : ∃ σ', fz_X11_init_30 σ 804 = fz_X11_init_60 σ' 804 ∧ bz_B σ' 810 0 ∧ (∀ a k : Int, a ≤ 806 → (a ≠ 804 ∨ (k ≠ 17 ∧ k ≠ 18 ∧ k ≠ 19 ∧ k ≠ 20)) → σ'.2 a k = σ.2 a k) ∧ (∀ p ∈ bz_L_X11_init_30_804, σ'.2 p.1 p.2.1 = p.2.2) := by
  obtain ⟨σ1, e1, b1, f1⟩ := h.newO (z := 2) (r := 807) (c' := 807) 13 (by omega) (by omega) (by omega) (by omega) (by decide) (by omega) (by omega)
  have b2 := b1.wr (a := 804) (i := 17) (x := 807) (by omega)
  obtain ⟨σ3, e3, b3, f3⟩ := b2.newO (z := 2) (r := 808) (c' := 808) 13 (by omega) (by omega) (by omega) (by omega) (by decide) (by omega) (by omega)
  have b4 := b3.wr (a := 804) (i := 18) (x := 808) (by omega)
  obtain ⟨σ5, e5, b5, f5⟩ := b4.newO (z := 16) (r := 809) (c' := 809) 14 (by omega) (by omega) (by omega) (by omega) (by decide) (by omega) (by omega)
  have b6 := b5.wr (a := 804) (i := 19) (x := 809) (by omega)
  obtain ⟨σ7, e7, b7, f7⟩ := b6.newO (z := 10) (r := 810) (c' := 810) 14 (by omega) (by omega) (by omega) (by omega) (by decide) (by omega) (by omega)
  have b8 := b7.wr (a := 804) (i := 20) (x := 810) (by omega)
  refine ⟨(az_wr σ7 804 20 810), ?_, b8, ?_, ?_⟩
  · unfold fz_X11_init_30
    rw [e1, Option.bind_some]
    try dsimp only
    rw [e3, Option.bind_some]
    try dsimp only
    rw [e5, Option.bind_some]
    try dsimp only
    rw [e7, Option.bind_some]
    try dsimp only
  · intro a k ha hk
    simp (disch := omega) only [az_wr_ne, az_wr_same, Int.reduceAdd, f1, f3, f5, f7]
  · intro p hp
    simp only [bz_L_X11_init_30_804, List.mem_cons, List.not_mem_nil, or_false] at hp
    rcases hp with rfl | rfl | rfl | rfl | rfl | rfl | rfl | rfl
    · simp (disch := omega) only [az_wr_ne, az_wr_same, Int.reduceAdd, f1, f3, f5, f7]
    · simp (disch := omega) only [az_wr_ne, az_wr_same, Int.reduceAdd, f1, f3, f5, f7]
    · simp (disch := omega) only [az_wr_ne, az_wr_same, Int.reduceAdd, f1, f3, f5, f7]
    · simp (disch := omega) only [az_wr_ne, az_wr_same, Int.reduceAdd, f1, f3, f5, f7]
    · try simp (disch := omega) only [az_wr_ne, az_wr_same, Int.reduceAdd, f1, f3, f5, f7]
      exact h.2.2.1 _ _ (by omega)
    · try simp (disch := omega) only [az_wr_ne, az_wr_same, Int.reduceAdd, f1, f3, f5, f7]
      exact h.2.2.1 _ _ (by omega)
    · try simp (disch := omega) only [az_wr_ne, az_wr_same, Int.reduceAdd, f1, f3, f5, f7]
      exact h.2.2.1 _ _ (by omega)
    · try simp (disch := omega) only [az_wr_ne, az_wr_same, Int.reduceAdd, f1, f3, f5, f7]
      exact h.2.2.1 _ _ (by omega)
def bz_L_X11_init_60_804 : List (Int × Int × Int) := [(804, 21, 811), (804, 22, 812), (804, 23, 813), (804, 24, 814)]
theorem bz_c_X11_init_60_804 {σ : az_Hp} (h : bz_B σ 810 0) : ∃ σ', fz_X11_init_60 σ 804 = fz_X11_init_92 σ' 804 ∧ bz_B σ' 814 0 ∧ (∀ a k : Int, a ≤ 810 → (a ≠ 804 ∨ (k ≠ 21 ∧ k ≠ 22 ∧ k ≠ 23 ∧ k ≠ 24)) → σ'.2 a k = σ.2 a k) ∧ (∀ p ∈ bz_L_X11_init_60_804, σ'.2 p.1 p.2.1 = p.2.2) := by
  obtain ⟨σ1, e1, b1, f1⟩ := h.newO (z := 16) (r := 811) (c' := 811) 13 (by omega) (by omega) (by omega) (by omega) (by decide) (by omega) (by omega)
  have b2 := b1.wr (a := 804) (i := 21) (x := 811) (by omega)
  obtain ⟨σ3, e3, b3, f3⟩ := b2.newO (z := 10) (r := 812) (c' := 812) 13 (by omega) (by omega) (by omega) (by omega) (by decide) (by omega) (by omega)
  have b4 := b3.wr (a := 804) (i := 22) (x := 812) (by omega)
  obtain ⟨σ5, e5, b5, f5⟩ := b4.newO (z := 10) (r := 813) (c' := 813) 15 (by omega) (by omega) (by omega) (by omega) (by decide) (by omega) (by omega)
  have b6 := b5.wr (a := 804) (i := 23) (x := 813) (by omega)
  obtain ⟨σ7, e7, b7, f7⟩ := b6.newO (z := 10) (r := 814) (c' := 814) 15 (by omega) (by omega) (by omega) (by omega) (by decide) (by omega) (by omega)
  have b8 := b7.wr (a := 804) (i := 24) (x := 814) (by omega)
  refine ⟨(az_wr σ7 804 24 814), ?_, b8, ?_, ?_⟩
  · unfold fz_X11_init_60
    rw [e1, Option.bind_some]
    try dsimp only
    rw [e3, Option.bind_some]
    try dsimp only
    rw [e5, Option.bind_some]
    try dsimp only
    rw [e7, Option.bind_some]
    try dsimp only
  · intro a k ha hk
    simp (disch := omega) only [az_wr_ne, az_wr_same, Int.reduceAdd, f1, f3, f5, f7]
  · intro p hp
    simp only [bz_L_X11_init_60_804, List.mem_cons, List.not_mem_nil, or_false] at hp
    rcases hp with rfl | rfl | rfl | rfl
    · simp (disch := omega) only [az_wr_ne, az_wr_same, Int.reduceAdd, f1, f3, f5, f7]
    · simp (disch := omega) only [az_wr_ne, az_wr_same, Int.reduceAdd, f1, f3, f5, f7]
    · simp (disch := omega) only [az_wr_ne, az_wr_same, Int.reduceAdd, f1, f3, f5, f7]
    · simp (disch := omega) only [az_wr_ne, az_wr_same, Int.reduceAdd, f1, f3, f5, f7]
def bz_L_X11_init_92_804 : List (Int × Int × Int) := [(804, 25, 815), (804, 26, 816), (804, 27, 817), (804, 28, 818)]
theorem bz_c_X11_init_92_804 {σ : az_Hp} (h : bz_B σ 814 0) : ∃ σ', fz_X11_init_92 σ 804 = fz_X11_init_126 σ' 804 ∧ bz_B σ' 818 0 ∧ (∀ a k : Int, a ≤ 814 → (a ≠ 804 ∨ (k ≠ 25 ∧ k ≠ 26 ∧ k ≠ 27 ∧ k ≠ 28)) → σ'.2 a k = σ.2 a k) ∧ (∀ p ∈ bz_L_X11_init_92_804, σ'.2 p.1 p.2.1 = p.2.2) := by
  obtain ⟨σ1, e1, b1, f1⟩ := h.newO (z := 512) (r := 815) (c' := 815) 13 (by omega) (by omega) (by omega) (by omega) (by decide) (by omega) (by omega)
  have b2 := b1.wr (a := 804) (i := 25) (x := 815) (by omega)
  obtain ⟨σ3, e3, b3, f3⟩ := b2.newO (z := 512) (r := 816) (c' := 816) 13 (by omega) (by omega) (by omega) (by omega) (by decide) (by omega) (by omega)
  have b4 := b3.wr (a := 804) (i := 26) (x := 816) (by omega)
  obtain ⟨σ5, e5, b5, f5⟩ := b4.newO (z := 32) (r := 817) (c' := 817) 13 (by omega) (by omega) (by omega) (by omega) (by decide) (by omega) (by omega)
  have b6 := b5.wr (a := 804) (i := 27) (x := 817) (by omega)
  obtain ⟨σ7, e7, b7, f7⟩ := b6.newO (z := 32) (r := 818) (c' := 818) 13 (by omega) (by omega) (by omega) (by omega) (by decide) (by omega) (by omega)
  have b8 := b7.wr (a := 804) (i := 28) (x := 818) (by omega)
  refine ⟨(az_wr σ7 804 28 818), ?_, b8, ?_, ?_⟩
  · unfold fz_X11_init_92
    rw [e1, Option.bind_some]
    try dsimp only
    rw [e3, Option.bind_some]
    try dsimp only
    rw [e5, Option.bind_some]
    try dsimp only
    rw [e7, Option.bind_some]
    try dsimp only
  · intro a k ha hk
    simp (disch := omega) only [az_wr_ne, az_wr_same, Int.reduceAdd, f1, f3, f5, f7]
  · intro p hp
    simp only [bz_L_X11_init_92_804, List.mem_cons, List.not_mem_nil, or_false] at hp
    rcases hp with rfl | rfl | rfl | rfl
    · simp (disch := omega) only [az_wr_ne, az_wr_same, Int.reduceAdd, f1, f3, f5, f7]
    · simp (disch := omega) only [az_wr_ne, az_wr_same, Int.reduceAdd, f1, f3, f5, f7]
    · simp (disch := omega) only [az_wr_ne, az_wr_same, Int.reduceAdd, f1, f3, f5, f7]
    · simp (disch := omega) only [az_wr_ne, az_wr_same, Int.reduceAdd, f1, f3, f5, f7]
def bz_L_X11_init_126_804 : List (Int × Int × Int) := [(804, 29, 819), (804, 30, 820), (804, 35, 821), (804, 36, 822)]
theorem bz_c_X11_init_126_804 {σ : az_Hp} (h : bz_B σ 818 0) : ∃ σ', fz_X11_init_126 σ 804 = fz_X11_init_159 σ' 804 ∧ bz_B σ' 822 0 ∧ (∀ a k : Int, a ≤ 818 → (a ≠ 804 ∨ (k ≠ 29 ∧ k ≠ 30 ∧ k ≠ 35 ∧ k ≠ 36)) → σ'.2 a k = σ.2 a k) ∧ (∀ p ∈ bz_L_X11_init_126_804, σ'.2 p.1 p.2.1 = p.2.2) := by
  obtain ⟨σ1, e1, b1, f1⟩ := h.newO (z := 32) (r := 819) (c' := 819) 13 (by omega) (by omega) (by omega) (by omega) (by decide) (by omega) (by omega)
  have b2 := b1.wr (a := 804) (i := 29) (x := 819) (by omega)
  obtain ⟨σ3, e3, b3, f3⟩ := b2.newO (z := 64) (r := 820) (c' := 820) 13 (by omega) (by omega) (by omega) (by omega) (by decide) (by omega) (by omega)
  have b4 := b3.wr (a := 804) (i := 30) (x := 820) (by omega)
  obtain ⟨σ5, e5, b5, f5⟩ := b4.newO (z := 450) (r := 821) (c' := 821) 14 (by omega) (by omega) (by omega) (by omega) (by decide) (by omega) (by omega)
  have b6 := b5.wr (a := 804) (i := 35) (x := 821) (by omega)
  obtain ⟨σ7, e7, b7, f7⟩ := b6.newO (z := 6) (r := 822) (c' := 822) 14 (by omega) (by omega) (by omega) (by omega) (by decide) (by omega) (by omega)
  have b8 := b7.wr (a := 804) (i := 36) (x := 822) (by omega)
  refine ⟨(az_wr σ7 804 36 822), ?_, b8, ?_, ?_⟩
  · unfold fz_X11_init_126
    rw [e1, Option.bind_some]
    try dsimp only
    rw [e3, Option.bind_some]
    try dsimp only
    rw [e5, Option.bind_some]
    try dsimp only
    rw [e7, Option.bind_some]
    try dsimp only
  · intro a k ha hk
    simp (disch := omega) only [az_wr_ne, az_wr_same, Int.reduceAdd, f1, f3, f5, f7]
  · intro p hp
    simp only [bz_L_X11_init_126_804, List.mem_cons, List.not_mem_nil, or_false] at hp
    rcases hp with rfl | rfl | rfl | rfl
    · simp (disch := omega) only [az_wr_ne, az_wr_same, Int.reduceAdd, f1, f3, f5, f7]
    · simp (disch := omega) only [az_wr_ne, az_wr_same, Int.reduceAdd, f1, f3, f5, f7]
    · simp (disch := omega) only [az_wr_ne, az_wr_same, Int.reduceAdd, f1, f3, f5, f7]
    · simp (disch := omega) only [az_wr_ne, az_wr_same, Int.reduceAdd, f1, f3, f5, f7]
def bz_L_X11_init_159_804 : List (Int × Int × Int) := [(804, 39, 823), (804, 40, 824), (804, 41, 825), (804, 42, 826)]
theorem bz_c_X11_init_159_804 {σ : az_Hp} (h : bz_B σ 822 0) : ∃ σ', fz_X11_init_159 σ 804 = fz_X11_init_195 σ' 804 ∧ bz_B σ' 826 1200 ∧ (∀ a k : Int, a ≤ 822 → (a ≠ 804 ∨ (k ≠ 39 ∧ k ≠ 40 ∧ k ≠ 41 ∧ k ≠ 42)) → σ'.2 a k = σ.2 a k) ∧ (∀ p ∈ bz_L_X11_init_159_804, σ'.2 p.1 p.2.1 = p.2.2) := by
  obtain ⟨σ1, e1, b1, f1⟩ := h.newO (z := 400) (r := 823) (c' := 823) 13 (by omega) (by omega) (by omega) (by omega) (by decide) (by omega) (by omega)
  have b2 := b1.wr (a := 804) (i := 39) (x := 823) (by omega)
  obtain ⟨σ3, e3, b3, f3⟩ := b2.newP (z := 1200) (r := 824) (c' := 824) (s' := 1200) 13 (by omega) (by omega) (by omega) (by omega) (by decide) (by omega) (by omega) (by omega)
  have b4 := b3.wr (a := 804) (i := 40) (x := 824) (by omega)
  obtain ⟨σ5, e5, b5, f5⟩ := b4.newO (z := 400) (r := 825) (c' := 825) 13 (by omega) (by omega) (by omega) (by omega) (by decide) (by omega) (by omega)
  have b6 := b5.wr (a := 804) (i := 41) (x := 825) (by omega)
  obtain ⟨σ7, e7, b7, f7⟩ := b6.newO (z := 400) (r := 826) (c' := 826) 13 (by omega) (by omega) (by omega) (by omega) (by decide) (by omega) (by omega)
  have b8 := b7.wr (a := 804) (i := 42) (x := 826) (by omega)
  refine ⟨(az_wr σ7 804 42 826), ?_, b8, ?_, ?_⟩
  · unfold fz_X11_init_159
    rw [e1, Option.bind_some]
    try dsimp only
    rw [e3, Option.bind_some]
    try dsimp only
    rw [e5, Option.bind_some]
    try dsimp only
    rw [e7, Option.bind_some]
    try dsimp only
  · intro a k ha hk
    simp (disch := omega) only [az_wr_ne, az_wr_same, Int.reduceAdd, f1, f3, f5, f7]
  · intro p hp
    simp only [bz_L_X11_init_159_804, List.mem_cons, List.not_mem_nil, or_false] at hp
    rcases hp with rfl | rfl | rfl | rfl
    · simp (disch := omega) only [az_wr_ne, az_wr_same, Int.reduceAdd, f1, f3, f5, f7]
    · simp (disch := omega) only [az_wr_ne, az_wr_same, Int.reduceAdd, f1, f3, f5, f7]
    · simp (disch := omega) only [az_wr_ne, az_wr_same, Int.reduceAdd, f1, f3, f5, f7]
    · simp (disch := omega) only [az_wr_ne, az_wr_same, Int.reduceAdd, f1, f3, f5, f7]
def bz_L_X11_init_195_804 : List (Int × Int × Int) := [(804, 43, 827), (804, 44, 828), (804, 45, 829), (804, 46, 830)]
theorem bz_c_X11_init_195_804 {σ : az_Hp} (h : bz_B σ 826 1200) : ∃ σ', fz_X11_init_195 σ 804 = fz_X11_init_230 σ' 804 ∧ bz_B σ' 830 1200 ∧ (∀ a k : Int, a ≤ 826 → (a ≠ 804 ∨ (k ≠ 43 ∧ k ≠ 44 ∧ k ≠ 45 ∧ k ≠ 46)) → σ'.2 a k = σ.2 a k) ∧ (∀ p ∈ bz_L_X11_init_195_804, σ'.2 p.1 p.2.1 = p.2.2) := by
  obtain ⟨σ1, e1, b1, f1⟩ := h.newO (z := 200) (r := 827) (c' := 827) 13 (by omega) (by omega) (by omega) (by omega) (by decide) (by omega) (by omega)
  have b2 := b1.wr (a := 804) (i := 43) (x := 827) (by omega)
  obtain ⟨σ3, e3, b3, f3⟩ := b2.newO (z := 200) (r := 828) (c' := 828) 13 (by omega) (by omega) (by omega) (by omega) (by decide) (by omega) (by omega)
  have b4 := b3.wr (a := 804) (i := 44) (x := 828) (by omega)
  obtain ⟨σ5, e5, b5, f5⟩ := b4.newO (z := 200) (r := 829) (c' := 829) 13 (by omega) (by omega) (by omega) (by omega) (by decide) (by omega) (by omega)
  have b6 := b5.wr (a := 804) (i := 45) (x := 829) (by omega)
  obtain ⟨σ7, e7, b7, f7⟩ := b6.newO (z := 64) (r := 830) (c' := 830) 13 (by omega) (by omega) (by omega) (by omega) (by decide) (by omega) (by omega)
  have b8 := b7.wr (a := 804) (i := 46) (x := 830) (by omega)
  refine ⟨(az_wr σ7 804 46 830), ?_, b8, ?_, ?_⟩
  · unfold fz_X11_init_195
    rw [e1, Option.bind_some]
    try dsimp only
    rw [e3, Option.bind_some]
    try dsimp only
    rw [e5, Option.bind_some]
    try dsimp only
    rw [e7, Option.bind_some]
    try dsimp only
  · intro a k ha hk
    simp (disch := omega) only [az_wr_ne, az_wr_same, Int.reduceAdd, f1, f3, f5, f7]
  · intro p hp
    simp only [bz_L_X11_init_195_804, List.mem_cons, List.not_mem_nil, or_false] at hp
    rcases hp with rfl | rfl | rfl | rfl
    · simp (disch := omega) only [az_wr_ne, az_wr_same, Int.reduceAdd, f1, f3, f5, f7]
    · simp (disch := omega) only [az_wr_ne, az_wr_same, Int.reduceAdd, f1, f3, f5, f7]
    · simp (disch := omega) only [az_wr_ne, az_wr_same, Int.reduceAdd, f1, f3, f5, f7]
    · simp (disch := omega) only [az_wr_ne, az_wr_same, Int.reduceAdd, f1, f3, f5, f7]
def bz_L_X11_init_230_804 : List (Int × Int × Int) := [(804, 47, 831), (804, 48, 832), (804, 53, 833), (804, 54, 834)]
theorem bz_c_X11_init_230_804 {σ : az_Hp} (h : bz_B σ 830 1200) : ∃ σ', fz_X11_init_230 σ 804 = fz_X11_init_262 σ' 804 ∧ bz_B σ' 834 1200 ∧ (∀ a k : Int, a ≤ 830 → (a ≠ 804 ∨ (k ≠ 47 ∧ k ≠ 48 ∧ k ≠ 53 ∧ k ≠ 54)) → σ'.2 a k = σ.2 a k) ∧ (∀ p ∈ bz_L_X11_init_230_804, σ'.2 p.1 p.2.1 = p.2.2) := by
  obtain ⟨σ1, e1, b1, f1⟩ := h.newO (z := 64) (r := 831) (c' := 831) 13 (by omega) (by omega) (by omega) (by omega) (by decide) (by omega) (by omega)
  have b2 := b1.wr (a := 804) (i := 47) (x := 831) (by omega)
  obtain ⟨σ3, e3, b3, f3⟩ := b2.newO (z := 64) (r := 832) (c' := 832) 13 (by omega) (by omega) (by omega) (by omega) (by decide) (by omega) (by omega)
  have b4 := b3.wr (a := 804) (i := 48) (x := 832) (by omega)
  obtain ⟨σ5, e5, b5, f5⟩ := b4.newO (z := 4) (r := 833) (c' := 833) 13 (by omega) (by omega) (by omega) (by omega) (by decide) (by omega) (by omega)
  have b6 := b5.wr (a := 804) (i := 53) (x := 833) (by omega)
  obtain ⟨σ7, e7, b7, f7⟩ := b6.newO (z := 256) (r := 834) (c' := 834) 13 (by omega) (by omega) (by omega) (by omega) (by decide) (by omega) (by omega)
  have b8 := b7.wr (a := 804) (i := 54) (x := 834) (by omega)
  refine ⟨(az_wr σ7 804 54 834), ?_, b8, ?_, ?_⟩
  · unfold fz_X11_init_230
    rw [e1, Option.bind_some]
    try dsimp only
    rw [e3, Option.bind_some]
    try dsimp only
    rw [e5, Option.bind_some]
    try dsimp only
    rw [e7, Option.bind_some]
    try dsimp only
  · intro a k ha hk
    simp (disch := omega) only [az_wr_ne, az_wr_same, Int.reduceAdd, f1, f3, f5, f7]
  · intro p hp
    simp only [bz_L_X11_init_230_804, List.mem_cons, List.not_mem_nil, or_false] at hp
    rcases hp with rfl | rfl | rfl | rfl
    · simp (disch := omega) only [az_wr_ne, az_wr_same, Int.reduceAdd, f1, f3, f5, f7]
    · simp (disch := omega) only [az_wr_ne, az_wr_same, Int.reduceAdd, f1, f3, f5, f7]
    · simp (disch := omega) only [az_wr_ne, az_wr_same, Int.reduceAdd, f1, f3, f5, f7]
    · simp (disch := omega) only [az_wr_ne, az_wr_same, Int.reduceAdd, f1, f3, f5, f7]
def bz_L_X11_init_262_804 : List (Int × Int × Int) := [(804, 55, 835), (804, 56, 836), (804, 59, 837), (804, 66, 838)]
theorem bz_c_X11_init_262_804 {σ : az_Hp} (h : bz_B σ 834 1200) : ∃ σ', fz_X11_init_262 σ 804 = fz_X11_init_296 σ' 804 ∧ bz_B σ' 838 101200 ∧ (∀ a k : Int, a ≤ 834 → (a ≠ 804 ∨ (k ≠ 55 ∧ k ≠ 56 ∧ k ≠ 59 ∧ k ≠ 66)) → σ'.2 a k = σ.2 a k) ∧ (∀ p ∈ bz_L_X11_init_262_804, σ'.2 p.1 p.2.1 = p.2.2) := by
  obtain ⟨σ1, e1, b1, f1⟩ := h.newO (z := 256) (r := 835) (c' := 835) 15 (by omega) (by omega) (by omega) (by omega) (by decide) (by omega) (by omega)
  have b2 := b1.wr (a := 804) (i := 55) (x := 835) (by omega)
  obtain ⟨σ3, e3, b3, f3⟩ := b2.newP (z := 100000) (r := 836) (c' := 836) (s' := 101200) 12 (by omega) (by omega) (by omega) (by omega) (by decide) (by omega) (by omega) (by omega)
  have b4 := b3.wr (a := 804) (i := 56) (x := 836) (by omega)
  obtain ⟨σ5, e5, b5, f5⟩ := b4.newO (z := 200) (r := 837) (c' := 837) 13 (by omega) (by omega) (by omega) (by omega) (by decide) (by omega) (by omega)
  have b6 := b5.wr (a := 804) (i := 59) (x := 837) (by omega)
  obtain ⟨σ7, e7, b7, f7⟩ := b6.newO (z := 6) (r := 838) (c' := 838) 13 (by omega) (by omega) (by omega) (by omega) (by decide) (by omega) (by omega)
  have b8 := b7.wr (a := 804) (i := 66) (x := 838) (by omega)
  refine ⟨(az_wr σ7 804 66 838), ?_, b8, ?_, ?_⟩
  · unfold fz_X11_init_262
    rw [e1, Option.bind_some]
    try dsimp only
    rw [e3, Option.bind_some]
    try dsimp only
    rw [e5, Option.bind_some]
    try dsimp only
    rw [e7, Option.bind_some]
    try dsimp only
  · intro a k ha hk
    simp (disch := omega) only [az_wr_ne, az_wr_same, Int.reduceAdd, f1, f3, f5, f7]
  · intro p hp
    simp only [bz_L_X11_init_262_804, List.mem_cons, List.not_mem_nil, or_false] at hp
    rcases hp with rfl | rfl | rfl | rfl
    · simp (disch := omega) only [az_wr_ne, az_wr_same, Int.reduceAdd, f1, f3, f5, f7]
    · simp (disch := omega) only [az_wr_ne, az_wr_same, Int.reduceAdd, f1, f3, f5, f7]
    · simp (disch := omega) only [az_wr_ne, az_wr_same, Int.reduceAdd, f1, f3, f5, f7]
    · simp (disch := omega) only [az_wr_ne, az_wr_same, Int.reduceAdd, f1, f3, f5, f7]
def bz_L_X11_init_296_804 : List (Int × Int × Int) := [(804, 67, 839), (804, 68, 840), (804, 69, 841), (804, 75, 842)]
theorem bz_c_X11_init_296_804 {σ : az_Hp} (h : bz_B σ 838 101200) : ∃ σ', fz_X11_init_296 σ 804 = fz_X11_init_329 σ' 804 ∧ bz_B σ' 842 104860 ∧ (∀ a k : Int, a ≤ 838 → (a ≠ 804 ∨ (k ≠ 67 ∧ k ≠ 68 ∧ k ≠ 69 ∧ k ≠ 75)) → σ'.2 a k = σ.2 a k) ∧ (∀ p ∈ bz_L_X11_init_296_804, σ'.2 p.1 p.2.1 = p.2.2) := by
  obtain ⟨σ1, e1, b1, f1⟩ := h.newO (z := 6) (r := 839) (c' := 839) 13 (by omega) (by omega) (by omega) (by omega) (by decide) (by omega) (by omega)
  have b2 := b1.wr (a := 804) (i := 67) (x := 839) (by omega)
  obtain ⟨σ3, e3, b3, f3⟩ := b2.newO (z := 64) (r := 840) (c' := 840) 13 (by omega) (by omega) (by omega) (by omega) (by decide) (by omega) (by omega)
  have b4 := b3.wr (a := 804) (i := 68) (x := 840) (by omega)
  obtain ⟨σ5, e5, b5, f5⟩ := b4.newO (z := 64) (r := 841) (c' := 841) 13 (by omega) (by omega) (by omega) (by omega) (by decide) (by omega) (by omega)
  have b6 := b5.wr (a := 804) (i := 69) (x := 841) (by omega)
  obtain ⟨σ7, e7, b7, f7⟩ := b6.newP (z := 3660) (r := 842) (c' := 842) (s' := 104860) 13 (by omega) (by omega) (by omega) (by omega) (by decide) (by omega) (by omega) (by omega)
  have b8 := b7.wr (a := 804) (i := 75) (x := 842) (by omega)
  refine ⟨(az_wr σ7 804 75 842), ?_, b8, ?_, ?_⟩
  · unfold fz_X11_init_296
    rw [e1, Option.bind_some]
    try dsimp only
    rw [e3, Option.bind_some]
    try dsimp only
    rw [e5, Option.bind_some]
    try dsimp only
    rw [e7, Option.bind_some]
    try dsimp only
  · intro a k ha hk
    simp (disch := omega) only [az_wr_ne, az_wr_same, Int.reduceAdd, f1, f3, f5, f7]
  · intro p hp
    simp only [bz_L_X11_init_296_804, List.mem_cons, List.not_mem_nil, or_false] at hp
    rcases hp with rfl | rfl | rfl | rfl
    · simp (disch := omega) only [az_wr_ne, az_wr_same, Int.reduceAdd, f1, f3, f5, f7]
    · simp (disch := omega) only [az_wr_ne, az_wr_same, Int.reduceAdd, f1, f3, f5, f7]
    · simp (disch := omega) only [az_wr_ne, az_wr_same, Int.reduceAdd, f1, f3, f5, f7]
    · simp (disch := omega) only [az_wr_ne, az_wr_same, Int.reduceAdd, f1, f3, f5, f7]
def bz_L_X11_init_329_804 : List (Int × Int × Int) := [(804, 76, 843), (804, 79, 844), (804, 80, 845), (804, 82, (-1))]
theorem bz_c_X11_init_329_804 {σ : az_Hp} (h : bz_B σ 842 104860) : ∃ σ', fz_X11_init_329 σ 804 = fz_X11_init_358 σ' 804 ∧ bz_B σ' 845 104860 ∧ (∀ a k : Int, a ≤ 842 → (a ≠ 804 ∨ (k ≠ 76 ∧ k ≠ 79 ∧ k ≠ 80 ∧ k ≠ 82)) → σ'.2 a k = σ.2 a k) ∧ (∀ p ∈ bz_L_X11_init_329_804, σ'.2 p.1 p.2.1 = p.2.2) := by
  obtain ⟨σ1, e1, b1, f1⟩ := h.newO (z := 61) (r := 843) (c' := 843) 13 (by omega) (by omega) (by omega) (by omega) (by decide) (by omega) (by omega)
  have b2 := b1.wr (a := 804) (i := 76) (x := 843) (by omega)
  obtain ⟨σ3, e3, b3, f3⟩ := b2.newO (z := 64) (r := 844) (c' := 844) 13 (by omega) (by omega) (by omega) (by omega) (by decide) (by omega) (by omega)
  have b4 := b3.wr (a := 804) (i := 79) (x := 844) (by omega)
  obtain ⟨σ5, e5, b5, f5⟩ := b4.newO (z := 12) (r := 845) (c' := 845) 14 (by omega) (by omega) (by omega) (by omega) (by decide) (by omega) (by omega)
  have b6 := b5.wr (a := 804) (i := 80) (x := 845) (by omega)
  have b7 := b6.wr (a := 804) (i := 82) (x := (-1)) (by omega)
  refine ⟨(az_wr (az_wr σ5 804 80 845) 804 82 (-1)), ?_, b7, ?_, ?_⟩
  · unfold fz_X11_init_329
    rw [e1, Option.bind_some]
    try dsimp only
    rw [e3, Option.bind_some]
    try dsimp only
    rw [e5, Option.bind_some]
    try dsimp only
  · intro a k ha hk
    simp (disch := omega) only [az_wr_ne, az_wr_same, Int.reduceAdd, f1, f3, f5]
  · intro p hp
    simp only [bz_L_X11_init_329_804, List.mem_cons, List.not_mem_nil, or_false] at hp
    rcases hp with rfl | rfl | rfl | rfl
    · simp (disch := omega) only [az_wr_ne, az_wr_same, Int.reduceAdd, f1, f3, f5]
    · simp (disch := omega) only [az_wr_ne, az_wr_same, Int.reduceAdd, f1, f3, f5]
    · simp (disch := omega) only [az_wr_ne, az_wr_same, Int.reduceAdd, f1, f3, f5]
    · simp (disch := omega) only [az_wr_ne, az_wr_same, Int.reduceAdd, f1, f3, f5]
def bz_L_X11_init_358_804 : List (Int × Int × Int) := [(804, 83, 846), (804, 84, 847), (804, 88, 848), (804, 89, 849)]
theorem bz_c_X11_init_358_804 {σ : az_Hp} (h : bz_B σ 845 104860) : ∃ σ', fz_X11_init_358 σ 804 = fz_X11_init_392 σ' 804 ∧ bz_B σ' 849 104860 ∧ (∀ a k : Int, a ≤ 845 → (a ≠ 804 ∨ (k ≠ 83 ∧ k ≠ 84 ∧ k ≠ 88 ∧ k ≠ 89)) → σ'.2 a k = σ.2 a k) ∧ (∀ p ∈ bz_L_X11_init_358_804, σ'.2 p.1 p.2.1 = p.2.2) := by
  obtain ⟨σ1, e1, b1, f1⟩ := h.newO (z := 64) (r := 846) (c' := 846) 13 (by omega) (by omega) (by omega) (by omega) (by decide) (by omega) (by omega)
  have b2 := b1.wr (a := 804) (i := 83) (x := 846) (by omega)
  obtain ⟨σ3, e3, b3, f3⟩ := b2.newO (z := 64) (r := 847) (c' := 847) 13 (by omega) (by omega) (by omega) (by omega) (by decide) (by omega) (by omega)
  have b4 := b3.wr (a := 804) (i := 84) (x := 847) (by omega)
  obtain ⟨σ5, e5, b5, f5⟩ := b4.newO (z := 180) (r := 848) (c' := 848) 13 (by omega) (by omega) (by omega) (by omega) (by decide) (by omega) (by omega)
  have b6 := b5.wr (a := 804) (i := 88) (x := 848) (by omega)
  obtain ⟨σ7, e7, b7, f7⟩ := b6.newO (z := 180) (r := 849) (c' := 849) 13 (by omega) (by omega) (by omega) (by omega) (by decide) (by omega) (by omega)
  have b8 := b7.wr (a := 804) (i := 89) (x := 849) (by omega)
  refine ⟨(az_wr σ7 804 89 849), ?_, b8, ?_, ?_⟩
  · unfold fz_X11_init_358
    rw [e1, Option.bind_some]
    try dsimp only
    rw [e3, Option.bind_some]
    try dsimp only
    rw [e5, Option.bind_some]
    try dsimp only
    rw [e7, Option.bind_some]
    try dsimp only
  · intro a k ha hk
    simp (disch := omega) only [az_wr_ne, az_wr_same, Int.reduceAdd, f1, f3, f5, f7]
  · intro p hp
    simp only [bz_L_X11_init_358_804, List.mem_cons, List.not_mem_nil, or_false] at hp
    rcases hp with rfl | rfl | rfl | rfl
    · simp (disch := omega) only [az_wr_ne, az_wr_same, Int.reduceAdd, f1, f3, f5, f7]
    · simp (disch := omega) only [az_wr_ne, az_wr_same, Int.reduceAdd, f1, f3, f5, f7]
    · simp (disch := omega) only [az_wr_ne, az_wr_same, Int.reduceAdd, f1, f3, f5, f7]
    · simp (disch := omega) only [az_wr_ne, az_wr_same, Int.reduceAdd, f1, f3, f5, f7]
def bz_L_X11_init_392_804 : List (Int × Int × Int) := [(804, 90, 850), (804, 91, 851), (804, 92, 852), (804, 93, 853)]
theorem bz_c_X11_init_392_804 {σ : az_Hp} (h : bz_B σ 849 104860) : ∃ σ', fz_X11_init_392 σ 804 = fz_X11_init_426 σ' 804 ∧ bz_B σ' 853 104860 ∧ (∀ a k : Int, a ≤ 849 → (a ≠ 804 ∨ (k ≠ 90 ∧ k ≠ 91 ∧ k ≠ 92 ∧ k ≠ 93)) → σ'.2 a k = σ.2 a k) ∧ (∀ p ∈ bz_L_X11_init_392_804, σ'.2 p.1 p.2.1 = p.2.2) := by
  obtain ⟨σ1, e1, b1, f1⟩ := h.newO (z := 6) (r := 850) (c' := 850) 13 (by omega) (by omega) (by omega) (by omega) (by decide) (by omega) (by omega)
  have b2 := b1.wr (a := 804) (i := 90) (x := 850) (by omega)
  obtain ⟨σ3, e3, b3, f3⟩ := b2.newO (z := 6) (r := 851) (c' := 851) 13 (by omega) (by omega) (by omega) (by omega) (by decide) (by omega) (by omega)
  have b4 := b3.wr (a := 804) (i := 91) (x := 851) (by omega)
  obtain ⟨σ5, e5, b5, f5⟩ := b4.newO (z := 180) (r := 852) (c' := 852) 13 (by omega) (by omega) (by omega) (by omega) (by decide) (by omega) (by omega)
  have b6 := b5.wr (a := 804) (i := 92) (x := 852) (by omega)
  obtain ⟨σ7, e7, b7, f7⟩ := b6.newO (z := 180) (r := 853) (c' := 853) 13 (by omega) (by omega) (by omega) (by omega) (by decide) (by omega) (by omega)
  have b8 := b7.wr (a := 804) (i := 93) (x := 853) (by omega)
  refine ⟨(az_wr σ7 804 93 853), ?_, b8, ?_, ?_⟩
  · unfold fz_X11_init_392
    rw [e1, Option.bind_some]
    try dsimp only
    rw [e3, Option.bind_some]
    try dsimp only
    rw [e5, Option.bind_some]
    try dsimp only
    rw [e7, Option.bind_some]
    try dsimp only
  · intro a k ha hk
    simp (disch := omega) only [az_wr_ne, az_wr_same, Int.reduceAdd, f1, f3, f5, f7]
  · intro p hp
    simp only [bz_L_X11_init_392_804, List.mem_cons, List.not_mem_nil, or_false] at hp
    rcases hp with rfl | rfl | rfl | rfl
    · simp (disch := omega) only [az_wr_ne, az_wr_same, Int.reduceAdd, f1, f3, f5, f7]
    · simp (disch := omega) only [az_wr_ne, az_wr_same, Int.reduceAdd, f1, f3, f5, f7]
    · simp (disch := omega) only [az_wr_ne, az_wr_same, Int.reduceAdd, f1, f3, f5, f7]
    · simp (disch := omega) only [az_wr_ne, az_wr_same, Int.reduceAdd, f1, f3, f5, f7]
def bz_L_X11_init_426_804 : List (Int × Int × Int) := [(804, 94, 854), (804, 95, 855), (804, 96, 856), (804, 97, 857)]
theorem bz_c_X11_init_426_804 {σ : az_Hp} (h : bz_B σ 853 104860) : ∃ σ', fz_X11_init_426 σ 804 = fz_X11_init_459 σ' 804 ∧ bz_B σ' 857 104860 ∧ (∀ a k : Int, a ≤ 853 → (a ≠ 804 ∨ (k ≠ 94 ∧ k ≠ 95 ∧ k ≠ 96 ∧ k ≠ 97)) → σ'.2 a k = σ.2 a k) ∧ (∀ p ∈ bz_L_X11_init_426_804, σ'.2 p.1 p.2.1 = p.2.2) := by
  obtain ⟨σ1, e1, b1, f1⟩ := h.newO (z := 6) (r := 854) (c' := 854) 13 (by omega) (by omega) (by omega) (by omega) (by decide) (by omega) (by omega)
  have b2 := b1.wr (a := 804) (i := 94) (x := 854) (by omega)
  obtain ⟨σ3, e3, b3, f3⟩ := b2.newO (z := 6) (r := 855) (c' := 855) 13 (by omega) (by omega) (by omega) (by omega) (by decide) (by omega) (by omega)
  have b4 := b3.wr (a := 804) (i := 95) (x := 855) (by omega)
  obtain ⟨σ5, e5, b5, f5⟩ := b4.newO (z := 480) (r := 856) (c' := 856) 13 (by omega) (by omega) (by omega) (by omega) (by decide) (by omega) (by omega)
  have b6 := b5.wr (a := 804) (i := 96) (x := 856) (by omega)
  obtain ⟨σ7, e7, b7, f7⟩ := b6.newO (z := 16) (r := 857) (c' := 857) 13 (by omega) (by omega) (by omega) (by omega) (by decide) (by omega) (by omega)
  have b8 := b7.wr (a := 804) (i := 97) (x := 857) (by omega)
  refine ⟨(az_wr σ7 804 97 857), ?_, b8, ?_, ?_⟩
  · unfold fz_X11_init_426
    rw [e1, Option.bind_some]
    try dsimp only
    rw [e3, Option.bind_some]
    try dsimp only
    rw [e5, Option.bind_some]
    try dsimp only
    rw [e7, Option.bind_some]
    try dsimp only
  · intro a k ha hk
    simp (disch := omega) only [az_wr_ne, az_wr_same, Int.reduceAdd, f1, f3, f5, f7]
  · intro p hp
    simp only [bz_L_X11_init_426_804, List.mem_cons, List.not_mem_nil, or_false] at hp
    rcases hp with rfl | rfl | rfl | rfl
    · simp (disch := omega) only [az_wr_ne, az_wr_same, Int.reduceAdd, f1, f3, f5, f7]
    · simp (disch := omega) only [az_wr_ne, az_wr_same, Int.reduceAdd, f1, f3, f5, f7]
    · simp (disch := omega) only [az_wr_ne, az_wr_same, Int.reduceAdd, f1, f3, f5, f7]
    · simp (disch := omega) only [az_wr_ne, az_wr_same, Int.reduceAdd, f1, f3, f5, f7]
def bz_L_X11_init_459_804 : List (Int × Int × Int) := [(804, 98, 858), (804, 99, 859), (804, 102, 860), (804, 103, 861)]
theorem bz_c_X11_init_459_804 {σ : az_Hp} (h : bz_B σ 857 104860) : ∃ σ', fz_X11_init_459 σ 804 = fz_X11_init_494 σ' 804 ∧ bz_B σ' 861 129340 ∧ (∀ a k : Int, a ≤ 857 → (a ≠ 804 ∨ (k ≠ 98 ∧ k ≠ 99 ∧ k ≠ 102 ∧ k ≠ 103)) → σ'.2 a k = σ.2 a k) ∧ (∀ p ∈ bz_L_X11_init_459_804, σ'.2 p.1 p.2.1 = p.2.2) := by
  obtain ⟨σ1, e1, b1, f1⟩ := h.newO (z := 450) (r := 858) (c' := 858) 14 (by omega) (by omega) (by omega) (by omega) (by decide) (by omega) (by omega)
  have b2 := b1.wr (a := 804) (i := 98) (x := 858) (by omega)
  obtain ⟨σ3, e3, b3, f3⟩ := b2.newO (z := 6) (r := 859) (c' := 859) 14 (by omega) (by omega) (by omega) (by omega) (by decide) (by omega) (by omega)
  have b4 := b3.wr (a := 804) (i := 99) (x := 859) (by omega)
  obtain ⟨σ5, e5, b5, f5⟩ := b4.newP (z := 24480) (r := 860) (c' := 860) (s' := 129340) 13 (by omega) (by omega) (by omega) (by omega) (by decide) (by omega) (by omega) (by omega)
  have b6 := b5.wr (a := 804) (i := 102) (x := 860) (by omega)
  obtain ⟨σ7, e7, b7, f7⟩ := b6.newO (z := 408) (r := 861) (c' := 861) 13 (by omega) (by omega) (by omega) (by omega) (by decide) (by omega) (by omega)
  have b8 := b7.wr (a := 804) (i := 103) (x := 861) (by omega)
  refine ⟨(az_wr σ7 804 103 861), ?_, b8, ?_, ?_⟩
  · unfold fz_X11_init_459
    rw [e1, Option.bind_some]
    try dsimp only
    rw [e3, Option.bind_some]
    try dsimp only
    rw [e5, Option.bind_some]
    try dsimp only
    rw [e7, Option.bind_some]
    try dsimp only
  · intro a k ha hk
    simp (disch := omega) only [az_wr_ne, az_wr_same, Int.reduceAdd, f1, f3, f5, f7]
  · intro p hp
    simp only [bz_L_X11_init_459_804, List.mem_cons, List.not_mem_nil, or_false] at hp
    rcases hp with rfl | rfl | rfl | rfl
    · simp (disch := omega) only [az_wr_ne, az_wr_same, Int.reduceAdd, f1, f3, f5, f7]
    · simp (disch := omega) only [az_wr_ne, az_wr_same, Int.reduceAdd, f1, f3, f5, f7]
    · simp (disch := omega) only [az_wr_ne, az_wr_same, Int.reduceAdd, f1, f3, f5, f7]
    · simp (disch := omega) only [az_wr_ne, az_wr_same, Int.reduceAdd, f1, f3, f5, f7]
def bz_L_X11_init_494_804 : List (Int × Int × Int) := [(804, 104, 862), (804, 105, 863), (804, 106, 864), (804, 107, 865)]
theorem bz_c_X11_init_494_804 {σ : az_Hp} (h : bz_B σ 861 129340) : ∃ σ', fz_X11_init_494 σ 804 = fz_X11_init_529 σ' 804 ∧ bz_B σ' 865 129340 ∧ (∀ a k : Int, a ≤ 861 → (a ≠ 804 ∨ (k ≠ 104 ∧ k ≠ 105 ∧ k ≠ 106 ∧ k ≠ 107)) → σ'.2 a k = σ.2 a k) ∧ (∀ p ∈ bz_L_X11_init_494_804, σ'.2 p.1 p.2.1 = p.2.2) := by
  obtain ⟨σ1, e1, b1, f1⟩ := h.newO (z := 204) (r := 862) (c' := 862) 13 (by omega) (by omega) (by omega) (by omega) (by decide) (by omega) (by omega)
  have b2 := b1.wr (a := 804) (i := 104) (x := 862) (by omega)
  obtain ⟨σ3, e3, b3, f3⟩ := b2.newO (z := 360) (r := 863) (c' := 863) 13 (by omega) (by omega) (by omega) (by omega) (by decide) (by omega) (by omega)
  have b4 := b3.wr (a := 804) (i := 105) (x := 863) (by omega)
  obtain ⟨σ5, e5, b5, f5⟩ := b4.newO (z := 6) (r := 864) (c' := 864) 13 (by omega) (by omega) (by omega) (by omega) (by decide) (by omega) (by omega)
  have b6 := b5.wr (a := 804) (i := 106) (x := 864) (by omega)
  obtain ⟨σ7, e7, b7, f7⟩ := b6.newO (z := 204) (r := 865) (c' := 865) 15 (by omega) (by omega) (by omega) (by omega) (by decide) (by omega) (by omega)
  have b8 := b7.wr (a := 804) (i := 107) (x := 865) (by omega)
  refine ⟨(az_wr σ7 804 107 865), ?_, b8, ?_, ?_⟩
  · unfold fz_X11_init_494
    rw [e1, Option.bind_some]
    try dsimp only
    rw [e3, Option.bind_some]
    try dsimp only
    rw [e5, Option.bind_some]
    try dsimp only
    rw [e7, Option.bind_some]
    try dsimp only
  · intro a k ha hk
    simp (disch := omega) only [az_wr_ne, az_wr_same, Int.reduceAdd, f1, f3, f5, f7]
  · intro p hp
    simp only [bz_L_X11_init_494_804, List.mem_cons, List.not_mem_nil, or_false] at hp
    rcases hp with rfl | rfl | rfl | rfl
    · simp (disch := omega) only [az_wr_ne, az_wr_same, Int.reduceAdd, f1, f3, f5, f7]
    · simp (disch := omega) only [az_wr_ne, az_wr_same, Int.reduceAdd, f1, f3, f5, f7]
    · simp (disch := omega) only [az_wr_ne, az_wr_same, Int.reduceAdd, f1, f3, f5, f7]
    · simp (disch := omega) only [az_wr_ne, az_wr_same, Int.reduceAdd, f1, f3, f5, f7]
def bz_L_X11_init_529_804 : List (Int × Int × Int) := [(804, 112, 866), (804, 113, 867)]
theorem bz_c_X11_init_529_804 {σ : az_Hp} (h : bz_B σ 865 129340) : ∃ σ', fz_X11_init_529 σ 804 = some σ' ∧ bz_B σ' 867 129340 ∧ (∀ a k : Int, a ≤ 865 → (a ≠ 804 ∨ (k ≠ 112 ∧ k ≠ 113)) → σ'.2 a k = σ.2 a k) ∧ (∀ p ∈ bz_L_X11_init_529_804, σ'.2 p.1 p.2.1 = p.2.2) := by
  obtain ⟨σ1, e1, b1, f1⟩ := h.newO (z := 64) (r := 866) (c' := 866) 13 (by omega) (by omega) (by omega) (by omega) (by decide) (by omega) (by omega)
  have b2 := b1.wr (a := 804) (i := 112) (x := 866) (by omega)
  obtain ⟨σ3, e3, b3, f3⟩ := b2.newO (z := 64) (r := 867) (c' := 867) 13 (by omega) (by omega) (by omega) (by omega) (by decide) (by omega) (by omega)
  have b4 := b3.wr (a := 804) (i := 113) (x := 867) (by omega)
  refine ⟨(az_wr σ3 804 113 867), ?_, b4, ?_, ?_⟩
  · unfold fz_X11_init_529
    rw [e1, Option.bind_some]
    try dsimp only
    rw [e3, Option.bind_some]
    try dsimp only
  · intro a k ha hk
    simp (disch := omega) only [az_wr_ne, az_wr_same, Int.reduceAdd, f1, f3]
  · intro p hp
    simp only [bz_L_X11_init_529_804, List.mem_cons, List.not_mem_nil, or_false] at hp
    rcases hp with rfl | rfl
    · simp (disch := omega) only [az_wr_ne, az_wr_same, Int.reduceAdd, f1, f3]
    · simp (disch := omega) only [az_wr_ne, az_wr_same, Int.reduceAdd, f1, f3]
