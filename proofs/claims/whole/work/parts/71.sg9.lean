/-! segments: act; printed by wip/whole/emit_seg.py -/
theorem z_q60_e {d : Nat} {r : Option z_V × z_M} {X : z_X} {I : Nat → Nat → Nat → Int32} {J : Nat → Nat → Nat → Int64} 
    (h : r = (none, (true, X, (z_up (z_up I 17 0 1 (0 : Int32)) 17 0 2 (0 : Int32)), J))) :
    z_ev d (z_en 60 [z_r 17 0] (true, X, I, J)) r := by
  show z_ev d (60, 0, [some (z_r 17 0)], [], (true, X, I, J)) r
  refine z_ev_gs 6 (c1 := (60, 10, [some (z_r 17 0)], [], (true, X, (z_up (z_up I 17 0 1 (0 : Int32)) 17 0 2 (0 : Int32)), J))) rfl ?_
  rw [h]
  exact z_ev_rt rfl
theorem z_q61_e {d : Nat} {r : Option z_V × z_M} {X : z_X} {I : Nat → Nat → Nat → Int32} {J : Nat → Nat → Nat → Int64} (x1 : Int32)
    (h : (((30 : Int32) ≤ (I 17 0 1) → r = (none, (true, X, I, J))) ∧ ((I 17 0 1) < (30 : Int32) → (∃ k2 : Nat, (I 17 0 1) = Int32.ofNat k2 ∧ k2 < 30 ∧ r = (none, (true, X, (z_up (z_up I 18 0 k2 x1) 17 0 1 ((I 17 0 1) + (1 : Int32))), J)))))) :
    z_ev d (z_en 61 [z_r 17 0, z_i (x1)] (true, X, I, J)) r := by
  show z_ev d (61, 0, [some (z_r 17 0), some (z_i (x1))], [], (true, X, I, J)) r
  refine z_ev_gs 4 (c1 := (61, (if (30 : Int32) ≤ (I 17 0 1) then 29 else 9), [some (z_r 17 0), some (z_i (x1))], [], (true, X, I, J))) rfl ?_
  refine z_ev_ifle (fun e1 => ?_) (fun e1 => ?_)
  · have h6 := h.1 e1
    rw [h6]
    exact z_ev_rt rfl
  · have h7 := h.2 e1
    refine z_ev_gs 5 (c1 := (61, 18, [some (z_r 17 0), some (z_i (x1))], [z_i (x1), z_i (I 17 0 1), z_r 18 0], (true, X, I, J))) rfl ?_
    obtain ⟨k2, e3, e4, h5⟩ := h7
    refine z_ev_iast (t := 18) (i := 0) (k := k2) (n := 30) rfl rfl e3 e4 (by decide) ?_
    refine z_ev_gs 6 (c1 := (61, 29, [some (z_r 17 0), some (z_i (x1))], [], (true, X, (z_up (z_up I 18 0 k2 x1) 17 0 1 ((I 17 0 1) + (1 : Int32))), J))) rfl ?_
    rw [h5]
    exact z_ev_rt rfl
theorem z_q28_e {d : Nat} {r : Option z_V × z_M} {X : z_X} {I : Nat → Nat → Nat → Int32} {J : Nat → Nat → Nat → Int64} (q0 : Nat) (x1 : Int32)
    (h : (∃ (X1 : z_X) (I2 : Nat → Nat → Nat → Int32) (J3 : Nat → Nat → Nat → Int64), z_ev d (z_en 61 [z_r 17 0, z_i 10] (true, X, I, J)) (none, (true, X1, I2, J3)) ∧ (q0 < X1.1 ∧ r = (some (z_i (x1 + (I2 32 q0 1))), (true, X1, I2, J3))))) :
    z_ev (d + 1) (z_en 28 [z_r 32 q0, z_i (x1), z_r 17 0] (true, X, I, J)) r := by
  show z_ev (d + 1) (28, 0, [some (z_r 32 q0), some (z_i (x1)), some (z_r 17 0)], [], (true, X, I, J)) r
  refine z_ev_gs 2 (c1 := (28, 3, [some (z_r 32 q0), some (z_i (x1)), some (z_r 17 0)], [z_i 10, z_r 17 0], (true, X, I, J))) rfl ?_
  obtain ⟨X1, I2, J3, g4, h5⟩ := h
  refine z_ev_ca rfl rfl g4 ?_
  refine z_ev_gs 2 (c1 := (28, 8, [some (z_r 32 q0), some (z_i (x1)), some (z_r 17 0)], [z_r 32 q0, z_i (x1)], (true, X1, I2, J3))) rfl ?_
  obtain ⟨g6, h7⟩ := h5
  refine z_ev_gi (c1 := (28, 11, [some (z_r 32 q0), some (z_i (x1)), some (z_r 17 0)], [z_i (I2 32 q0 1), z_i (x1)], (true, X1, I2, J3))) rfl g6 ?_
  refine z_ev_gs 1 (c1 := (28, 12, [some (z_r 32 q0), some (z_i (x1)), some (z_r 17 0)], [z_i (x1 + (I2 32 q0 1))], (true, X1, I2, J3))) rfl ?_
  rw [h7]
  exact z_ev_rt rfl
theorem z_q29_e {d : Nat} {r : Option z_V × z_M} {X : z_X} {I : Nat → Nat → Nat → Int32} {J : Nat → Nat → Nat → Int64} (q0 : Nat) (x1 : Int32)
    (h : (∃ (X1 : z_X) (I2 : Nat → Nat → Nat → Int32) (J3 : Nat → Nat → Nat → Int64), z_ev (d + 2) (z_en 61 [z_r 17 0, z_i 11] (true, X, I, J)) (none, (true, X1, I2, J3)) ∧ (q0 < X1.1 ∧ ∃ y15 : Nat, z_vt 0 (X1.2.2.1 q0) = some y15 ∧ (Nat.ble 3 (z_ml y15) && z_pl y15) = true ∧ ∃ (v9 : Int32) (X6 : z_X) (I7 : Nat → Nat → Nat → Int32) (J8 : Nat → Nat → Nat → Int64), z_ev (d + 2) (z_en y15 [z_r 32 q0, z_i (x1), z_r 17 0] (true, X1, I2, J3)) (some (z_i v9), (true, X6, I7, J8)) ∧ r = (some (z_i (v9 * (2 : Int32))), (true, X6, I7, J8))))) :
    z_ev (d + 3) (z_en 29 [z_r 32 q0, z_i (x1), z_r 17 0] (true, X, I, J)) r := by
  show z_ev (d + 3) (29, 0, [some (z_r 32 q0), some (z_i (x1)), some (z_r 17 0)], [], (true, X, I, J)) r
  refine z_ev_gs 2 (c1 := (29, 3, [some (z_r 32 q0), some (z_i (x1)), some (z_r 17 0)], [z_i 11, z_r 17 0], (true, X, I, J))) rfl ?_
  obtain ⟨X1, I2, J3, g4, h5⟩ := h
  refine z_ev_ca rfl rfl g4 ?_
  refine z_ev_gs 3 (c1 := (29, 9, [some (z_r 32 q0), some (z_i (x1)), some (z_r 17 0)], [z_r 17 0, z_i (x1), z_r 32 q0], (true, X1, I2, J3))) rfl ?_
  obtain ⟨g10, y15, g11, g13, v9, X6, I7, J8, g12, h14⟩ := h5
  refine z_ev_vv rfl g10 g11 g13 g12 ?_
  refine z_ev_gs 2 (c1 := (29, 14, [some (z_r 32 q0), some (z_i (x1)), some (z_r 17 0)], [z_i (v9 * (2 : Int32))], (true, X6, I7, J8))) rfl ?_
  rw [h14]
  exact z_ev_rt rfl
theorem z_q30_e {d : Nat} {r : Option z_V × z_M} {X : z_X} {I : Nat → Nat → Nat → Int32} {J : Nat → Nat → Nat → Int64} (q0 : Nat) (x1 : Int32)
    (h : (∃ (X1 : z_X) (I2 : Nat → Nat → Nat → Int32) (J3 : Nat → Nat → Nat → Int64), z_ev d (z_en 61 [z_r 17 0, z_i 12] (true, X, I, J)) (none, (true, X1, I2, J3)) ∧ (q0 < X1.1 ∧ ((¬ ((I2 32 q0 2) - (I2 32 q0 1)) = 0 → (¬ ((I2 32 q0 2) - (I2 32 q0 1)) = 0 ∧ r = (some (z_i (x1 / ((I2 32 q0 2) - (I2 32 q0 1)))), (true, X1, I2, J3)))) ∧ (((I2 32 q0 2) - (I2 32 q0 1)) = 0 → r = (some (z_i 0), (true, X1, (z_up I2 17 0 2 (1 : Int32)), J3))))))) :
    z_ev (d + 1) (z_en 30 [z_r 32 q0, z_i (x1), z_r 17 0] (true, X, I, J)) r := by
  show z_ev (d + 1) (30, 0, [some (z_r 32 q0), some (z_i (x1)), some (z_r 17 0), none], [], (true, X, I, J)) r
  refine z_ev_gs 2 (c1 := (30, 3, [some (z_r 32 q0), some (z_i (x1)), some (z_r 17 0), none], [z_i 12, z_r 17 0], (true, X, I, J))) rfl ?_
  obtain ⟨X1, I2, J3, g4, h5⟩ := h
  refine z_ev_ca rfl rfl g4 ?_
  refine z_ev_gs 1 (c1 := (30, 7, [some (z_r 32 q0), some (z_i (x1)), some (z_r 17 0), none], [z_r 32 q0], (true, X1, I2, J3))) rfl ?_
  obtain ⟨g6, h7⟩ := h5
  refine z_ev_gi (c1 := (30, 10, [some (z_r 32 q0), some (z_i (x1)), some (z_r 17 0), none], [z_i (I2 32 q0 2)], (true, X1, I2, J3))) rfl g6 ?_
  refine z_ev_gs 1 (c1 := (30, 11, [some (z_r 32 q0), some (z_i (x1)), some (z_r 17 0), none], [z_r 32 q0, z_i (I2 32 q0 2)], (true, X1, I2, J3))) rfl ?_
  refine z_ev_gi (c1 := (30, 14, [some (z_r 32 q0), some (z_i (x1)), some (z_r 17 0), none], [z_i (I2 32 q0 1), z_i (I2 32 q0 2)], (true, X1, I2, J3))) rfl g6 ?_
  refine z_ev_gs 4 (c1 := (30, (if ¬ ((I2 32 q0 2) - (I2 32 q0 1)) = 0 then 27 else 20), [some (z_r 32 q0), some (z_i (x1)), some (z_r 17 0), some (z_i ((I2 32 q0 2) - (I2 32 q0 1)))], [], (true, X1, I2, J3))) rfl ?_
  refine z_ev_ifn (fun e8 => ?_) (fun e8 => ?_)
  · have h10 := h7.1 e8
    refine z_ev_gs 2 (c1 := (30, 29, [some (z_r 32 q0), some (z_i (x1)), some (z_r 17 0), some (z_i ((I2 32 q0 2) - (I2 32 q0 1)))], [z_i ((I2 32 q0 2) - (I2 32 q0 1)), z_i (x1)], (true, X1, I2, J3))) rfl ?_
    obtain ⟨g0, h9⟩ := h10
    refine z_ev_dvi (w1 := ((I2 32 q0 2) - (I2 32 q0 1))) (c1 := (30, 30, [some (z_r 32 q0), some (z_i (x1)), some (z_r 17 0), some (z_i ((I2 32 q0 2) - (I2 32 q0 1)))], [z_i (x1 / ((I2 32 q0 2) - (I2 32 q0 1)))], (true, X1, I2, J3))) rfl g0 ?_
    rw [h9]
    exact z_ev_rt rfl
  · have h11 := h7.2 e8
    refine z_ev_gs 4 (c1 := (30, 26, [some (z_r 32 q0), some (z_i (x1)), some (z_r 17 0), some (z_i ((I2 32 q0 2) - (I2 32 q0 1)))], [z_i 0], (true, X1, (z_up I2 17 0 2 (1 : Int32)), J3))) rfl ?_
    rw [h11]
    exact z_ev_rt rfl
theorem z_q31_e {d : Nat} {r : Option z_V × z_M} {X : z_X} {I : Nat → Nat → Nat → Int32} {J : Nat → Nat → Nat → Int64} (q0 : Nat) (x1 : Int32)
    (h : (∃ (X1 : z_X) (I2 : Nat → Nat → Nat → Int32) (J3 : Nat → Nat → Nat → Int64), z_ev (d + 5) (z_en 61 [z_r 17 0, z_i 13] (true, X, I, J)) (none, (true, X1, I2, J3)) ∧ (q0 < X1.1 ∧ ∃ y15 : Nat, z_vt 1 (X1.2.2.1 q0) = some y15 ∧ (Nat.ble 3 (z_ml y15) && z_pl y15) = true ∧ ∃ (v9 : Int32) (X6 : z_X) (I7 : Nat → Nat → Nat → Int32) (J8 : Nat → Nat → Nat → Int64), z_ev (d + 5) (z_en y15 [z_r 32 q0, z_i (x1), z_r 17 0] (true, X1, I2, J3)) (some (z_i v9), (true, X6, I7, J8)) ∧ (q0 < X6.1 ∧ r = (some (z_i (v9 ^^^ (I7 32 q0 2))), (true, X6, I7, J8)))))) :
    z_ev (d + 6) (z_en 31 [z_r 32 q0, z_i (x1), z_r 17 0] (true, X, I, J)) r := by
  show z_ev (d + 6) (31, 0, [some (z_r 32 q0), some (z_i (x1)), some (z_r 17 0)], [], (true, X, I, J)) r
  refine z_ev_gs 2 (c1 := (31, 3, [some (z_r 32 q0), some (z_i (x1)), some (z_r 17 0)], [z_i 13, z_r 17 0], (true, X, I, J))) rfl ?_
  obtain ⟨X1, I2, J3, g4, h5⟩ := h
  refine z_ev_ca rfl rfl g4 ?_
  refine z_ev_gs 3 (c1 := (31, 9, [some (z_r 32 q0), some (z_i (x1)), some (z_r 17 0)], [z_r 17 0, z_i (x1), z_r 32 q0], (true, X1, I2, J3))) rfl ?_
  obtain ⟨g10, y15, g11, g13, v9, X6, I7, J8, g12, h14⟩ := h5
  refine z_ev_vv rfl g10 g11 g13 g12 ?_
  refine z_ev_gs 1 (c1 := (31, 13, [some (z_r 32 q0), some (z_i (x1)), some (z_r 17 0)], [z_r 32 q0, z_i (v9)], (true, X6, I7, J8))) rfl ?_
  obtain ⟨g17, h18⟩ := h14
  refine z_ev_gi (c1 := (31, 16, [some (z_r 32 q0), some (z_i (x1)), some (z_r 17 0)], [z_i (I7 32 q0 2), z_i (v9)], (true, X6, I7, J8))) rfl g17 ?_
  refine z_ev_gs 1 (c1 := (31, 17, [some (z_r 32 q0), some (z_i (x1)), some (z_r 17 0)], [z_i (v9 ^^^ (I7 32 q0 2))], (true, X6, I7, J8))) rfl ?_
  rw [h18]
  exact z_ev_rt rfl
theorem z_q1_e {d : Nat} {r : Option z_V × z_M} {X : z_X} {I : Nat → Nat → Nat → Int32} {J : Nat → Nat → Nat → Int64} (q0 : Nat) (x1 : Int32)
    (h : (∃ (X1 : z_X) (I2 : Nat → Nat → Nat → Int32) (J3 : Nat → Nat → Nat → Int64), z_ev (d + 1) (z_en 61 [z_r 17 0, z_i 40] (true, X, I, J)) (none, (true, X1, I2, J3)) ∧ (q0 < X1.1 ∧ X1.2.2.1 q0 < 7 ∧ ∃ (v9 : Int32) (X6 : z_X) (I7 : Nat → Nat → Nat → Int32) (J8 : Nat → Nat → Nat → Int64), z_ev (d + 1) (z_en 28 [z_r 32 q0, z_i (x1), z_r 17 0] (true, X1, I2, J3)) (some (z_i v9), (true, X6, I7, J8)) ∧ r = (some (z_i ((0 : Int32) - v9)), (true, X6, I7, J8))))) :
    z_ev (d + 2) (z_en 1 [z_r 32 q0, z_i (x1), z_r 17 0] (true, X, I, J)) r := by
  show z_ev (d + 2) (1, 0, [some (z_r 32 q0), some (z_i (x1)), some (z_r 17 0)], [], (true, X, I, J)) r
  refine z_ev_gs 2 (c1 := (1, 3, [some (z_r 32 q0), some (z_i (x1)), some (z_r 17 0)], [z_i 40, z_r 17 0], (true, X, I, J))) rfl ?_
  obtain ⟨X1, I2, J3, g4, h5⟩ := h
  refine z_ev_ca rfl rfl g4 ?_
  refine z_ev_gs 4 (c1 := (1, 10, [some (z_r 32 q0), some (z_i (x1)), some (z_r 17 0)], [z_r 17 0, z_i (x1), z_r 32 q0, z_i 0], (true, X1, I2, J3))) rfl ?_
  obtain ⟨g10, g11, v9, X6, I7, J8, g12, h14⟩ := h5
  refine z_ev_vs rfl g10 g11 rfl g12 ?_
  refine z_ev_gs 1 (c1 := (1, 14, [some (z_r 32 q0), some (z_i (x1)), some (z_r 17 0)], [z_i ((0 : Int32) - v9)], (true, X6, I7, J8))) rfl ?_
  rw [h14]
  exact z_ev_rt rfl
theorem z_q2_e {d : Nat} {r : Option z_V × z_M} {X : z_X} {I : Nat → Nat → Nat → Int32} {J : Nat → Nat → Nat → Int64} (q0 : Nat) (x1 : Int32)
    (h : (∃ (X1 : z_X) (I2 : Nat → Nat → Nat → Int32) (J3 : Nat → Nat → Nat → Int64), z_ev (d + 6) (z_en 61 [z_r 17 0, z_i 41] (true, X, I, J)) (none, (true, X1, I2, J3)) ∧ (q0 < X1.1 ∧ X1.2.2.1 q0 < 7 ∧ ∃ (v9 : Int32) (X6 : z_X) (I7 : Nat → Nat → Nat → Int32) (J8 : Nat → Nat → Nat → Int64), z_ev (d + 6) (z_en 31 [z_r 32 q0, z_i (x1), z_r 17 0] (true, X1, I2, J3)) (some (z_i v9), (true, X6, I7, J8)) ∧ r = (some (z_i (v9 * (2 : Int32))), (true, X6, I7, J8))))) :
    z_ev (d + 7) (z_en 2 [z_r 32 q0, z_i (x1), z_r 17 0] (true, X, I, J)) r := by
  show z_ev (d + 7) (2, 0, [some (z_r 32 q0), some (z_i (x1)), some (z_r 17 0)], [], (true, X, I, J)) r
  refine z_ev_gs 2 (c1 := (2, 3, [some (z_r 32 q0), some (z_i (x1)), some (z_r 17 0)], [z_i 41, z_r 17 0], (true, X, I, J))) rfl ?_
  obtain ⟨X1, I2, J3, g4, h5⟩ := h
  refine z_ev_ca rfl rfl g4 ?_
  refine z_ev_gs 3 (c1 := (2, 9, [some (z_r 32 q0), some (z_i (x1)), some (z_r 17 0)], [z_r 17 0, z_i (x1), z_r 32 q0], (true, X1, I2, J3))) rfl ?_
  obtain ⟨g10, g11, v9, X6, I7, J8, g12, h14⟩ := h5
  refine z_ev_vs rfl g10 g11 rfl g12 ?_
  refine z_ev_gs 2 (c1 := (2, 14, [some (z_r 32 q0), some (z_i (x1)), some (z_r 17 0)], [z_i (v9 * (2 : Int32))], (true, X6, I7, J8))) rfl ?_
  rw [h14]
  exact z_ev_rt rfl
theorem z_q36_e {d : Nat} {r : Option z_V × z_M} {X : z_X} {I : Nat → Nat → Nat → Int32} {J : Nat → Nat → Nat → Int64} (q0 : Nat) (x1 : Int32)
    (h : (∃ (X1 : z_X) (I2 : Nat → Nat → Nat → Int32) (J3 : Nat → Nat → Nat → Int64), z_ev (d + 1) (z_en 61 [z_r 17 0, z_i 30] (true, X, I, J)) (none, (true, X1, I2, J3)) ∧ (q0 < X1.1 ∧ X1.2.2.1 q0 < 7 ∧ ∃ (v9 : Int32) (X6 : z_X) (I7 : Nat → Nat → Nat → Int32) (J8 : Nat → Nat → Nat → Int64), z_ev (d + 1) (z_en 28 [z_r 32 q0, z_i (x1), z_r 17 0] (true, X1, I2, J3)) (some (z_i v9), (true, X6, I7, J8)) ∧ r = (some (z_i (v9 * (3 : Int32))), (true, X6, I7, J8))))) :
    z_ev (d + 2) (z_en 36 [z_r 32 q0, z_i (x1), z_r 17 0] (true, X, I, J)) r := by
  show z_ev (d + 2) (36, 0, [some (z_r 32 q0), some (z_i (x1)), some (z_r 17 0)], [], (true, X, I, J)) r
  refine z_ev_gs 2 (c1 := (36, 3, [some (z_r 32 q0), some (z_i (x1)), some (z_r 17 0)], [z_i 30, z_r 17 0], (true, X, I, J))) rfl ?_
  obtain ⟨X1, I2, J3, g4, h5⟩ := h
  refine z_ev_ca rfl rfl g4 ?_
  refine z_ev_gs 3 (c1 := (36, 9, [some (z_r 32 q0), some (z_i (x1)), some (z_r 17 0)], [z_r 17 0, z_i (x1), z_r 32 q0], (true, X1, I2, J3))) rfl ?_
  obtain ⟨g10, g11, v9, X6, I7, J8, g12, h14⟩ := h5
  refine z_ev_vs rfl g10 g11 rfl g12 ?_
  refine z_ev_gs 2 (c1 := (36, 14, [some (z_r 32 q0), some (z_i (x1)), some (z_r 17 0)], [z_i (v9 * (3 : Int32))], (true, X6, I7, J8))) rfl ?_
  rw [h14]
  exact z_ev_rt rfl
theorem z_q37_e {d : Nat} {r : Option z_V × z_M} {X : z_X} {I : Nat → Nat → Nat → Int32} {J : Nat → Nat → Nat → Int64} (q0 : Nat) (x1 : Int32)
    (h : (∃ (X1 : z_X) (I2 : Nat → Nat → Nat → Int32) (J3 : Nat → Nat → Nat → Int64), z_ev (d + 4) (z_en 61 [z_r 17 0, z_i 31] (true, X, I, J)) (none, (true, X1, I2, J3)) ∧ (q0 < X1.1 ∧ X1.2.2.1 q0 < 7 ∧ ∃ (v9 : Int32) (X6 : z_X) (I7 : Nat → Nat → Nat → Int32) (J8 : Nat → Nat → Nat → Int64), z_ev (d + 4) (z_en 39 [z_r 32 q0, z_i (x1), z_r 17 0] (true, X1, I2, J3)) (some (z_i v9), (true, X6, I7, J8)) ∧ (q0 < X6.1 ∧ (q0 < X6.1 ∧ ∃ y28 : Nat, z_vt 4 (X6.2.2.1 q0) = some y28 ∧ (Nat.ble 3 (z_ml y28) && z_pl y28) = true ∧ ∃ (v22 : Int32) (X19 : z_X) (I20 : Nat → Nat → Nat → Int32) (J21 : Nat → Nat → Nat → Int64), z_ev (d + 4) (z_en y28 [z_r 32 q0, z_i (I7 32 q0 1), z_r 17 0] (true, X6, I7, J8)) (some (z_i v22), (true, X19, I20, J21)) ∧ r = (some (z_i (v9 + v22)), (true, X19, I20, J21))))))) :
    z_ev (d + 5) (z_en 37 [z_r 32 q0, z_i (x1), z_r 17 0] (true, X, I, J)) r := by
  show z_ev (d + 5) (37, 0, [some (z_r 32 q0), some (z_i (x1)), some (z_r 17 0)], [], (true, X, I, J)) r
  refine z_ev_gs 2 (c1 := (37, 3, [some (z_r 32 q0), some (z_i (x1)), some (z_r 17 0)], [z_i 31, z_r 17 0], (true, X, I, J))) rfl ?_
  obtain ⟨X1, I2, J3, g4, h5⟩ := h
  refine z_ev_ca rfl rfl g4 ?_
  refine z_ev_gs 3 (c1 := (37, 9, [some (z_r 32 q0), some (z_i (x1)), some (z_r 17 0)], [z_r 17 0, z_i (x1), z_r 32 q0], (true, X1, I2, J3))) rfl ?_
  obtain ⟨g10, g11, v9, X6, I7, J8, g12, h14⟩ := h5
  refine z_ev_vs rfl g10 g11 rfl g12 ?_
  refine z_ev_gs 2 (c1 := (37, 14, [some (z_r 32 q0), some (z_i (x1)), some (z_r 17 0)], [z_r 32 q0, z_r 32 q0, z_i (v9)], (true, X6, I7, J8))) rfl ?_
  obtain ⟨g17, h18⟩ := h14
  refine z_ev_gi (c1 := (37, 17, [some (z_r 32 q0), some (z_i (x1)), some (z_r 17 0)], [z_i (I7 32 q0 1), z_r 32 q0, z_i (v9)], (true, X6, I7, J8))) rfl g17 ?_
  refine z_ev_gs 1 (c1 := (37, 18, [some (z_r 32 q0), some (z_i (x1)), some (z_r 17 0)], [z_r 17 0, z_i (I7 32 q0 1), z_r 32 q0, z_i (v9)], (true, X6, I7, J8))) rfl ?_
  obtain ⟨g23, y28, g24, g26, v22, X19, I20, J21, g25, h27⟩ := h18
  refine z_ev_vv rfl g23 g24 g26 g25 ?_
  refine z_ev_gs 1 (c1 := (37, 22, [some (z_r 32 q0), some (z_i (x1)), some (z_r 17 0)], [z_i (v9 + v22)], (true, X19, I20, J21))) rfl ?_
  rw [h27]
  exact z_ev_rt rfl
theorem z_q39_e {d : Nat} {r : Option z_V × z_M} {X : z_X} {I : Nat → Nat → Nat → Int32} {J : Nat → Nat → Nat → Int64} (q0 : Nat) (x1 : Int32)
    (h : (∃ (X1 : z_X) (I2 : Nat → Nat → Nat → Int32) (J3 : Nat → Nat → Nat → Int64), z_ev (d + 3) (z_en 61 [z_r 17 0, z_i 20] (true, X, I, J)) (none, (true, X1, I2, J3)) ∧ (q0 < X1.1 ∧ X1.2.2.1 q0 < 7 ∧ ∃ (v9 : Int32) (X6 : z_X) (I7 : Nat → Nat → Nat → Int32) (J8 : Nat → Nat → Nat → Int64), z_ev (d + 3) (z_en 29 [z_r 32 q0, z_i (x1), z_r 17 0] (true, X1, I2, J3)) (some (z_i v9), (true, X6, I7, J8)) ∧ (q0 < X6.1 ∧ r = (some (z_i (v9 - (I7 32 q0 2))), (true, X6, I7, J8)))))) :
    z_ev (d + 4) (z_en 39 [z_r 32 q0, z_i (x1), z_r 17 0] (true, X, I, J)) r := by
  show z_ev (d + 4) (39, 0, [some (z_r 32 q0), some (z_i (x1)), some (z_r 17 0)], [], (true, X, I, J)) r
  refine z_ev_gs 2 (c1 := (39, 3, [some (z_r 32 q0), some (z_i (x1)), some (z_r 17 0)], [z_i 20, z_r 17 0], (true, X, I, J))) rfl ?_
  obtain ⟨X1, I2, J3, g4, h5⟩ := h
  refine z_ev_ca rfl rfl g4 ?_
  refine z_ev_gs 3 (c1 := (39, 9, [some (z_r 32 q0), some (z_i (x1)), some (z_r 17 0)], [z_r 17 0, z_i (x1), z_r 32 q0], (true, X1, I2, J3))) rfl ?_
  obtain ⟨g10, g11, v9, X6, I7, J8, g12, h14⟩ := h5
  refine z_ev_vs rfl g10 g11 rfl g12 ?_
  refine z_ev_gs 1 (c1 := (39, 13, [some (z_r 32 q0), some (z_i (x1)), some (z_r 17 0)], [z_r 32 q0, z_i (v9)], (true, X6, I7, J8))) rfl ?_
  obtain ⟨g17, h18⟩ := h14
  refine z_ev_gi (c1 := (39, 16, [some (z_r 32 q0), some (z_i (x1)), some (z_r 17 0)], [z_i (I7 32 q0 2), z_i (v9)], (true, X6, I7, J8))) rfl g17 ?_
  refine z_ev_gs 1 (c1 := (39, 17, [some (z_r 32 q0), some (z_i (x1)), some (z_r 17 0)], [z_i (v9 - (I7 32 q0 2))], (true, X6, I7, J8))) rfl ?_
  rw [h18]
  exact z_ev_rt rfl
theorem z_q40_e {d : Nat} {r : Option z_V × z_M} {X : z_X} {I : Nat → Nat → Nat → Int32} {J : Nat → Nat → Nat → Int64} (q0 : Nat) (x1 : Int32)
    (h : (∃ (X1 : z_X) (I2 : Nat → Nat → Nat → Int32) (J3 : Nat → Nat → Nat → Int64), z_ev (d + 1) (z_en 61 [z_r 17 0, z_i 21] (true, X, I, J)) (none, (true, X1, I2, J3)) ∧ (q0 < X1.1 ∧ X1.2.2.1 q0 < 7 ∧ ∃ (v9 : Int32) (X6 : z_X) (I7 : Nat → Nat → Nat → Int32) (J8 : Nat → Nat → Nat → Int64), z_ev (d + 1) (z_en 30 [z_r 32 q0, z_i (x1 + (1 : Int32)), z_r 17 0] (true, X1, I2, J3)) (some (z_i v9), (true, X6, I7, J8)) ∧ r = (some (z_i (v9)), (true, X6, I7, J8))))) :
    z_ev (d + 2) (z_en 40 [z_r 32 q0, z_i (x1), z_r 17 0] (true, X, I, J)) r := by
  show z_ev (d + 2) (40, 0, [some (z_r 32 q0), some (z_i (x1)), some (z_r 17 0)], [], (true, X, I, J)) r
  refine z_ev_gs 2 (c1 := (40, 3, [some (z_r 32 q0), some (z_i (x1)), some (z_r 17 0)], [z_i 21, z_r 17 0], (true, X, I, J))) rfl ?_
  obtain ⟨X1, I2, J3, g4, h5⟩ := h
  refine z_ev_ca rfl rfl g4 ?_
  refine z_ev_gs 5 (c1 := (40, 11, [some (z_r 32 q0), some (z_i (x1)), some (z_r 17 0)], [z_r 17 0, z_i (x1 + (1 : Int32)), z_r 32 q0], (true, X1, I2, J3))) rfl ?_
  obtain ⟨g10, g11, v9, X6, I7, J8, g12, h14⟩ := h5
  refine z_ev_vs rfl g10 g11 rfl g12 ?_
  rw [h14]
  exact z_ev_rt rfl
theorem z_q113_e {d : Nat} {r : Option z_V × z_M} {X : z_X} {I : Nat → Nat → Nat → Int32} {J : Nat → Nat → Nat → Int64} (x1 : Int32) (x2 : Int32) (x3 : Int32)
    (h : (∃ (X1 : z_X) (I2 : Nat → Nat → Nat → Int32) (J3 : Nat → Nat → Nat → Int64), z_ev (d + 7) (z_en 60 [z_r 17 0] (true, X, I, J)) (none, (true, X1, I2, J3)) ∧ ((∃ (X6 : z_X) (I7 : Nat → Nat → Nat → Int32) (J8 : Nat → Nat → Nat → Int64), z_ev (d + 7) (z_en 155 [z_r 0 0, z_i (x1)] (true, X1, I2, J3)) (some z_n, (true, X6, I7, J8)) ∧ r = (some (z_i 0), (true, X6, I7, J8))) ∨ (∃ (q11 : Nat) (X6 : z_X) (I7 : Nat → Nat → Nat → Int32) (J8 : Nat → Nat → Nat → Int64), z_ev (d + 7) (z_en 155 [z_r 0 0, z_i (x1)] (true, X1, I2, J3)) (some (z_r 32 q11), (true, X6, I7, J8)) ∧ ((x2 = 0 → (q11 < X6.1 ∧ ∃ y26 : Nat, z_vt 0 (X6.2.2.1 q11) = some y26 ∧ (Nat.ble 3 (z_ml y26) && z_pl y26) = true ∧ ∃ (v20 : Int32) (X17 : z_X) (I18 : Nat → Nat → Nat → Int32) (J19 : Nat → Nat → Nat → Int64), z_ev (d + 7) (z_en y26 [z_r 32 q11, z_i (x3), z_r 17 0] (true, X6, I7, J8)) (some (z_i v20), (true, X17, I18, J19)) ∧ (((I18 17 0 2) = 0 → r = (some (z_i (v20)), (true, X17, I18, J19))) ∧ (¬ (I18 17 0 2) = 0 → r = (some (z_i (-15)), (true, X17, I18, J19)))))) ∧ (¬ x2 = 0 → ((x2 = 1 → (q11 < X6.1 ∧ ∃ y40 : Nat, z_vt 1 (X6.2.2.1 q11) = some y40 ∧ (Nat.ble 3 (z_ml y40) && z_pl y40) = true ∧ ∃ (v34 : Int32) (X31 : z_X) (I32 : Nat → Nat → Nat → Int32) (J33 : Nat → Nat → Nat → Int64), z_ev (d + 7) (z_en y40 [z_r 32 q11, z_i (x3), z_r 17 0] (true, X6, I7, J8)) (some (z_i v34), (true, X31, I32, J33)) ∧ (((I32 17 0 2) = 0 → r = (some (z_i (v34)), (true, X31, I32, J33))) ∧ (¬ (I32 17 0 2) = 0 → r = (some (z_i (-15)), (true, X31, I32, J33)))))) ∧ (¬ x2 = 1 → ((x2 = 2 → (q11 < X6.1 ∧ ∃ y54 : Nat, z_vt 2 (X6.2.2.1 q11) = some y54 ∧ (Nat.ble 3 (z_ml y54) && z_pl y54) = true ∧ ∃ (v48 : Int32) (X45 : z_X) (I46 : Nat → Nat → Nat → Int32) (J47 : Nat → Nat → Nat → Int64), z_ev (d + 7) (z_en y54 [z_r 32 q11, z_i (x3), z_r 17 0] (true, X6, I7, J8)) (some (z_i v48), (true, X45, I46, J47)) ∧ (((I46 17 0 2) = 0 → r = (some (z_i (v48)), (true, X45, I46, J47))) ∧ (¬ (I46 17 0 2) = 0 → r = (some (z_i (-15)), (true, X45, I46, J47)))))) ∧ (¬ x2 = 2 → ((x2 = 3 → (q11 < X6.1 ∧ ∃ y68 : Nat, z_vt 3 (X6.2.2.1 q11) = some y68 ∧ (Nat.ble 3 (z_ml y68) && z_pl y68) = true ∧ ∃ (v62 : Int32) (X59 : z_X) (I60 : Nat → Nat → Nat → Int32) (J61 : Nat → Nat → Nat → Int64), z_ev (d + 7) (z_en y68 [z_r 32 q11, z_i (x3), z_r 17 0] (true, X6, I7, J8)) (some (z_i v62), (true, X59, I60, J61)) ∧ (((I60 17 0 2) = 0 → r = (some (z_i (v62)), (true, X59, I60, J61))) ∧ (¬ (I60 17 0 2) = 0 → r = (some (z_i (-15)), (true, X59, I60, J61)))))) ∧ (¬ x2 = 3 → (((I7 17 0 2) = 0 → r = (some (z_i 0), (true, X6, I7, J8))) ∧ (¬ (I7 17 0 2) = 0 → r = (some (z_i (-15)), (true, X6, I7, J8)))))))))))))))) :
    z_ev (d + 8) (z_en 113 [z_r 0 0, z_i (x1), z_i (x2), z_i (x3)] (true, X, I, J)) r := by
  show z_ev (d + 8) (113, 0, [some (z_r 0 0), some (z_i (x1)), some (z_i (x2)), some (z_i (x3)), none, none], [], (true, X, I, J)) r
  refine z_ev_gs 2 (c1 := (113, 4, [some (z_r 0 0), some (z_i (x1)), some (z_i (x2)), some (z_i (x3)), none, none], [z_r 17 0], (true, X, I, J))) rfl ?_
  obtain ⟨X1, I2, J3, g4, h5⟩ := h
  refine z_ev_ca rfl rfl g4 ?_
  refine z_ev_gs 2 (c1 := (113, 9, [some (z_r 0 0), some (z_i (x1)), some (z_i (x2)), some (z_i (x3)), none, none], [z_i (x1), z_r 0 0], (true, X1, I2, J3))) rfl ?_
  rcases h5 with ⟨X6, I7, J8, g12, h15⟩ | ⟨q11, X6, I7, J8, g12, h16⟩
  · refine z_ev_ca rfl rfl g12 ?_
    refine z_ev_gs 4 (c1 := (113, 20, [some (z_r 0 0), some (z_i (x1)), some (z_i (x2)), some (z_i (x3)), some (z_n), none], [z_i 0], (true, X6, I7, J8))) rfl ?_
    rw [h15]
    exact z_ev_rt rfl
  · refine z_ev_ca rfl rfl g12 ?_
    refine z_ev_gs 7 (c1 := (113, (if x2 = 0 then 56 else (if x2 = 1 then 71 else (if x2 = 2 then 86 else (if x2 = 3 then 101 else 116)))), [some (z_r 0 0), some (z_i (x1)), some (z_i (x2)), some (z_i (x3)), some (z_r 32 q11), some (z_i 0)], [], (true, X6, I7, J8))) rfl ?_
    refine z_ev_if (fun e76 => ?_) (fun e76 => ?_)
    · have h77 := h16.1 e76
      refine z_ev_gs 4 (c1 := (113, 63, [some (z_r 0 0), some (z_i (x1)), some (z_i (x2)), some (z_i (x3)), some (z_r 32 q11), some (z_i 0)], [z_r 17 0, z_i (x3), z_r 32 q11], (true, X6, I7, J8))) rfl ?_
      obtain ⟨g21, y26, g22, g24, v20, X17, I18, J19, g23, h25⟩ := h77
      refine z_ev_vv rfl g21 g22 g24 g23 ?_
      refine z_ev_gs 6 (c1 := (113, (if (I18 17 0 2) = 0 then 131 else 126), [some (z_r 0 0), some (z_i (x1)), some (z_i (x2)), some (z_i (x3)), some (z_r 32 q11), some (z_i (v20))], [], (true, X17, I18, J19))) rfl ?_
      refine z_ev_if (fun e28 => ?_) (fun e28 => ?_)
      · have h29 := h25.1 e28
        refine z_ev_gs 1 (c1 := (113, 133, [some (z_r 0 0), some (z_i (x1)), some (z_i (x2)), some (z_i (x3)), some (z_r 32 q11), some (z_i (v20))], [z_i (v20)], (true, X17, I18, J19))) rfl ?_
        rw [h29]
        exact z_ev_rt rfl
      · have h30 := h25.2 e28
        refine z_ev_gs 2 (c1 := (113, 133, [some (z_r 0 0), some (z_i (x1)), some (z_i (x2)), some (z_i (x3)), some (z_r 32 q11), some (z_i (v20))], [z_i (-15)], (true, X17, I18, J19))) rfl ?_
        rw [h30]
        exact z_ev_rt rfl
    · have h78 := h16.2 e76
      refine z_ev_if (fun e79 => ?_) (fun e79 => ?_)
      · have h80 := h78.1 e79
        refine z_ev_gs 4 (c1 := (113, 78, [some (z_r 0 0), some (z_i (x1)), some (z_i (x2)), some (z_i (x3)), some (z_r 32 q11), some (z_i 0)], [z_r 17 0, z_i (x3), z_r 32 q11], (true, X6, I7, J8))) rfl ?_
        obtain ⟨g35, y40, g36, g38, v34, X31, I32, J33, g37, h39⟩ := h80
        refine z_ev_vv rfl g35 g36 g38 g37 ?_
        refine z_ev_gs 6 (c1 := (113, (if (I32 17 0 2) = 0 then 131 else 126), [some (z_r 0 0), some (z_i (x1)), some (z_i (x2)), some (z_i (x3)), some (z_r 32 q11), some (z_i (v34))], [], (true, X31, I32, J33))) rfl ?_
        refine z_ev_if (fun e42 => ?_) (fun e42 => ?_)
        · have h43 := h39.1 e42
          refine z_ev_gs 1 (c1 := (113, 133, [some (z_r 0 0), some (z_i (x1)), some (z_i (x2)), some (z_i (x3)), some (z_r 32 q11), some (z_i (v34))], [z_i (v34)], (true, X31, I32, J33))) rfl ?_
          rw [h43]
          exact z_ev_rt rfl
        · have h44 := h39.2 e42
          refine z_ev_gs 2 (c1 := (113, 133, [some (z_r 0 0), some (z_i (x1)), some (z_i (x2)), some (z_i (x3)), some (z_r 32 q11), some (z_i (v34))], [z_i (-15)], (true, X31, I32, J33))) rfl ?_
          rw [h44]
          exact z_ev_rt rfl
      · have h81 := h78.2 e79
        refine z_ev_if (fun e82 => ?_) (fun e82 => ?_)
        · have h83 := h81.1 e82
          refine z_ev_gs 4 (c1 := (113, 93, [some (z_r 0 0), some (z_i (x1)), some (z_i (x2)), some (z_i (x3)), some (z_r 32 q11), some (z_i 0)], [z_r 17 0, z_i (x3), z_r 32 q11], (true, X6, I7, J8))) rfl ?_
          obtain ⟨g49, y54, g50, g52, v48, X45, I46, J47, g51, h53⟩ := h83
          refine z_ev_vv rfl g49 g50 g52 g51 ?_
          refine z_ev_gs 6 (c1 := (113, (if (I46 17 0 2) = 0 then 131 else 126), [some (z_r 0 0), some (z_i (x1)), some (z_i (x2)), some (z_i (x3)), some (z_r 32 q11), some (z_i (v48))], [], (true, X45, I46, J47))) rfl ?_
          refine z_ev_if (fun e56 => ?_) (fun e56 => ?_)
          · have h57 := h53.1 e56
            refine z_ev_gs 1 (c1 := (113, 133, [some (z_r 0 0), some (z_i (x1)), some (z_i (x2)), some (z_i (x3)), some (z_r 32 q11), some (z_i (v48))], [z_i (v48)], (true, X45, I46, J47))) rfl ?_
            rw [h57]
            exact z_ev_rt rfl
          · have h58 := h53.2 e56
            refine z_ev_gs 2 (c1 := (113, 133, [some (z_r 0 0), some (z_i (x1)), some (z_i (x2)), some (z_i (x3)), some (z_r 32 q11), some (z_i (v48))], [z_i (-15)], (true, X45, I46, J47))) rfl ?_
            rw [h58]
            exact z_ev_rt rfl
        · have h84 := h81.2 e82
          refine z_ev_if (fun e85 => ?_) (fun e85 => ?_)
          · have h86 := h84.1 e85
            refine z_ev_gs 4 (c1 := (113, 108, [some (z_r 0 0), some (z_i (x1)), some (z_i (x2)), some (z_i (x3)), some (z_r 32 q11), some (z_i 0)], [z_r 17 0, z_i (x3), z_r 32 q11], (true, X6, I7, J8))) rfl ?_
            obtain ⟨g63, y68, g64, g66, v62, X59, I60, J61, g65, h67⟩ := h86
            refine z_ev_vv rfl g63 g64 g66 g65 ?_
            refine z_ev_gs 6 (c1 := (113, (if (I60 17 0 2) = 0 then 131 else 126), [some (z_r 0 0), some (z_i (x1)), some (z_i (x2)), some (z_i (x3)), some (z_r 32 q11), some (z_i (v62))], [], (true, X59, I60, J61))) rfl ?_
            refine z_ev_if (fun e70 => ?_) (fun e70 => ?_)
            · have h71 := h67.1 e70
              refine z_ev_gs 1 (c1 := (113, 133, [some (z_r 0 0), some (z_i (x1)), some (z_i (x2)), some (z_i (x3)), some (z_r 32 q11), some (z_i (v62))], [z_i (v62)], (true, X59, I60, J61))) rfl ?_
              rw [h71]
              exact z_ev_rt rfl
            · have h72 := h67.2 e70
              refine z_ev_gs 2 (c1 := (113, 133, [some (z_r 0 0), some (z_i (x1)), some (z_i (x2)), some (z_i (x3)), some (z_r 32 q11), some (z_i (v62))], [z_i (-15)], (true, X59, I60, J61))) rfl ?_
              rw [h72]
              exact z_ev_rt rfl
          · have h87 := h84.2 e85
            refine z_ev_gs 4 (c1 := (113, (if (I7 17 0 2) = 0 then 131 else 126), [some (z_r 0 0), some (z_i (x1)), some (z_i (x2)), some (z_i (x3)), some (z_r 32 q11), some (z_i 0)], [], (true, X6, I7, J8))) rfl ?_
            refine z_ev_if (fun e73 => ?_) (fun e73 => ?_)
            · have h74 := h87.1 e73
              refine z_ev_gs 1 (c1 := (113, 133, [some (z_r 0 0), some (z_i (x1)), some (z_i (x2)), some (z_i (x3)), some (z_r 32 q11), some (z_i 0)], [z_i 0], (true, X6, I7, J8))) rfl ?_
              rw [h74]
              exact z_ev_rt rfl
            · have h75 := h87.2 e73
              refine z_ev_gs 2 (c1 := (113, 133, [some (z_r 0 0), some (z_i (x1)), some (z_i (x2)), some (z_i (x3)), some (z_r 32 q11), some (z_i 0)], [z_i (-15)], (true, X6, I7, J8))) rfl ?_
              rw [h75]
              exact z_ev_rt rfl
theorem z_q259_e {d : Nat} {r : Option z_V × z_M} {X : z_X} {I : Nat → Nat → Nat → Int32} {J : Nat → Nat → Nat → Int64} (x1 : Int32)
    (h : (((30 : Int32) ≤ (I 33 0 50) → r = (none, (true, X, I, J))) ∧ ((I 33 0 50) < (30 : Int32) → (∃ k2 : Nat, (I 33 0 50) = Int32.ofNat k2 ∧ k2 < 30 ∧ r = (none, (true, X, (z_up (z_up I 61 0 k2 x1) 33 0 50 ((I 33 0 50) + (1 : Int32))), J)))))) :
    z_ev d (z_en 259 [z_r 33 0, z_i (x1)] (true, X, I, J)) r := by
  show z_ev d (259, 0, [some (z_r 33 0), some (z_i (x1))], [], (true, X, I, J)) r
  refine z_ev_gs 4 (c1 := (259, (if (30 : Int32) ≤ (I 33 0 50) then 29 else 9), [some (z_r 33 0), some (z_i (x1))], [], (true, X, I, J))) rfl ?_
  refine z_ev_ifle (fun e1 => ?_) (fun e1 => ?_)
  · have h6 := h.1 e1
    rw [h6]
    exact z_ev_rt rfl
  · have h7 := h.2 e1
    refine z_ev_gs 5 (c1 := (259, 18, [some (z_r 33 0), some (z_i (x1))], [z_i (x1), z_i (I 33 0 50), z_r 61 0], (true, X, I, J))) rfl ?_
    obtain ⟨k2, e3, e4, h5⟩ := h7
    refine z_ev_iast (t := 61) (i := 0) (k := k2) (n := 30) rfl rfl e3 e4 (by decide) ?_
    refine z_ev_gs 6 (c1 := (259, 29, [some (z_r 33 0), some (z_i (x1))], [], (true, X, (z_up (z_up I 61 0 k2 x1) 33 0 50 ((I 33 0 50) + (1 : Int32))), J))) rfl ?_
    rw [h5]
    exact z_ev_rt rfl
theorem z_q260_e {d : Nat} {r : Option z_V × z_M} {X : z_X} {I : Nat → Nat → Nat → Int32} {J : Nat → Nat → Nat → Int64} (x1 : Int32)
    (h : ((¬ (I 33 0 46) = (2 : Int32) → ((¬ (I 33 0 46) = (3 : Int32) → (∃ (X3 : z_X) (I4 : Nat → Nat → Nat → Int32) (J5 : Nat → Nat → Nat → Int64), z_ev d (z_en 259 [z_r 33 0, z_i 10] (true, X, I, J)) (none, (true, X3, I4, J5)) ∧ r = (some (z_i (x1 + (I4 33 0 47))), (true, X3, I4, J5)))) ∧ ((I 33 0 46) = (3 : Int32) → (∃ (X8 : z_X) (I9 : Nat → Nat → Nat → Int32) (J10 : Nat → Nat → Nat → Int64), z_ev d (z_en 259 [z_r 33 0, z_i 40] (true, X, I, J)) (none, (true, X8, I9, J10)) ∧ (∃ (X13 : z_X) (I14 : Nat → Nat → Nat → Int32) (J15 : Nat → Nat → Nat → Int64), z_ev d (z_en 259 [z_r 33 0, z_i 10] (true, X8, I9, J10)) (none, (true, X13, I14, J15)) ∧ r = (some (z_i ((0 : Int32) - (x1 + (I14 33 0 47)))), (true, X13, I14, J15))))))) ∧ ((I 33 0 46) = (2 : Int32) → (∃ (X20 : z_X) (I21 : Nat → Nat → Nat → Int32) (J22 : Nat → Nat → Nat → Int64), z_ev d (z_en 259 [z_r 33 0, z_i 30] (true, X, I, J)) (none, (true, X20, I21, J22)) ∧ (∃ (X25 : z_X) (I26 : Nat → Nat → Nat → Int32) (J27 : Nat → Nat → Nat → Int64), z_ev d (z_en 259 [z_r 33 0, z_i 10] (true, X20, I21, J22)) (none, (true, X25, I26, J27)) ∧ r = (some (z_i ((x1 + (I26 33 0 47)) * (3 : Int32))), (true, X25, I26, J27))))))) :
    z_ev (d + 1) (z_en 260 [z_r 33 0, z_i (x1)] (true, X, I, J)) r := by
  show z_ev (d + 1) (260, 0, [some (z_r 33 0), some (z_i (x1)), none, none], [], (true, X, I, J)) r
  refine z_ev_gs 4 (c1 := (260, (if ¬ (I 33 0 46) = (2 : Int32) then 13 else 8), [some (z_r 33 0), some (z_i (x1)), none, none], [], (true, X, I, J))) rfl ?_
  refine z_ev_ifn (fun e1 => ?_) (fun e1 => ?_)
  · have h30 := h.1 e1
    refine z_ev_gs 4 (c1 := (260, (if ¬ (I 33 0 46) = (3 : Int32) then 26 else 21), [some (z_r 33 0), some (z_i (x1)), none, none], [], (true, X, I, J))) rfl ?_
    refine z_ev_ifn (fun e2 => ?_) (fun e2 => ?_)
    · have h18 := h30.1 e2
      refine z_ev_gs 4 (c1 := (260, 37, [some (z_r 33 0), some (z_i (x1)), some (z_i 0), none], [], (true, X, I, J))) rfl ?_
      refine z_ev_gs 2 (c1 := (260, 40, [some (z_r 33 0), some (z_i (x1)), some (z_i 0), none], [z_i 10, z_r 33 0], (true, X, I, J))) rfl ?_
      obtain ⟨X3, I4, J5, g6, h7⟩ := h18
      refine z_ev_ca rfl rfl g6 ?_
      refine z_ev_gs 8 (c1 := (260, 62, [some (z_r 33 0), some (z_i (x1)), some (z_i 0), some (z_i (x1 + (I4 33 0 47)))], [], (true, X3, I4, J5))) rfl ?_
      refine z_ev_gs 3 (c1 := (260, 74, [some (z_r 33 0), some (z_i (x1)), some (z_i 0), some (z_i (x1 + (I4 33 0 47)))], [], (true, X3, I4, J5))) rfl ?_
      refine z_ev_gs 1 (c1 := (260, 75, [some (z_r 33 0), some (z_i (x1)), some (z_i 0), some (z_i (x1 + (I4 33 0 47)))], [z_i (x1 + (I4 33 0 47))], (true, X3, I4, J5))) rfl ?_
      rw [h7]
      exact z_ev_rt rfl
    · have h19 := h30.2 e2
      refine z_ev_gs 5 (c1 := (260, 32, [some (z_r 33 0), some (z_i (x1)), some (z_i 40), none], [], (true, X, I, J))) rfl ?_
      refine z_ev_gs 2 (c1 := (260, 34, [some (z_r 33 0), some (z_i (x1)), some (z_i 40), none], [z_i 40, z_r 33 0], (true, X, I, J))) rfl ?_
      obtain ⟨X8, I9, J10, g11, h12⟩ := h19
      refine z_ev_ca rfl rfl g11 ?_
      refine z_ev_gs 2 (c1 := (260, 40, [some (z_r 33 0), some (z_i (x1)), some (z_i 40), none], [z_i 10, z_r 33 0], (true, X8, I9, J10))) rfl ?_
      obtain ⟨X13, I14, J15, g16, h17⟩ := h12
      refine z_ev_ca rfl rfl g16 ?_
      refine z_ev_gs 8 (c1 := (260, 62, [some (z_r 33 0), some (z_i (x1)), some (z_i 40), some (z_i (x1 + (I14 33 0 47)))], [], (true, X13, I14, J15))) rfl ?_
      refine z_ev_gs 3 (c1 := (260, 68, [some (z_r 33 0), some (z_i (x1)), some (z_i 40), some (z_i (x1 + (I14 33 0 47)))], [], (true, X13, I14, J15))) rfl ?_
      refine z_ev_gs 4 (c1 := (260, 75, [some (z_r 33 0), some (z_i (x1)), some (z_i 40), some (z_i (x1 + (I14 33 0 47)))], [z_i ((0 : Int32) - (x1 + (I14 33 0 47)))], (true, X13, I14, J15))) rfl ?_
      rw [h17]
      exact z_ev_rt rfl
  · have h31 := h.2 e1
    refine z_ev_gs 5 (c1 := (260, 32, [some (z_r 33 0), some (z_i (x1)), some (z_i 30), none], [], (true, X, I, J))) rfl ?_
    refine z_ev_gs 2 (c1 := (260, 34, [some (z_r 33 0), some (z_i (x1)), some (z_i 30), none], [z_i 30, z_r 33 0], (true, X, I, J))) rfl ?_
    obtain ⟨X20, I21, J22, g23, h24⟩ := h31
    refine z_ev_ca rfl rfl g23 ?_
    refine z_ev_gs 2 (c1 := (260, 40, [some (z_r 33 0), some (z_i (x1)), some (z_i 30), none], [z_i 10, z_r 33 0], (true, X20, I21, J22))) rfl ?_
    obtain ⟨X25, I26, J27, g28, h29⟩ := h24
    refine z_ev_ca rfl rfl g28 ?_
    refine z_ev_gs 8 (c1 := (260, 56, [some (z_r 33 0), some (z_i (x1)), some (z_i 30), some (z_i (x1 + (I26 33 0 47)))], [], (true, X25, I26, J27))) rfl ?_
    refine z_ev_gs 4 (c1 := (260, 75, [some (z_r 33 0), some (z_i (x1)), some (z_i 30), some (z_i (x1 + (I26 33 0 47)))], [z_i ((x1 + (I26 33 0 47)) * (3 : Int32))], (true, X25, I26, J27))) rfl ?_
    rw [h29]
    exact z_ev_rt rfl
theorem z_q261_e {d : Nat} {r : Option z_V × z_M} {X : z_X} {I : Nat → Nat → Nat → Int32} {J : Nat → Nat → Nat → Int64} (x1 : Int32)
    (h : (∃ (X1 : z_X) (I2 : Nat → Nat → Nat → Int32) (J3 : Nat → Nat → Nat → Int64), z_ev (d + 1) (z_en 259 [z_r 33 0, z_i 11] (true, X, I, J)) (none, (true, X1, I2, J3)) ∧ (∃ (v11 : Int32) (X6 : z_X) (I7 : Nat → Nat → Nat → Int32) (J8 : Nat → Nat → Nat → Int64), z_ev (d + 1) (z_en 260 [z_r 33 0, z_i (x1)] (true, X1, I2, J3)) (some (z_i (v11)), (true, X6, I7, J8)) ∧ r = (some (z_i (v11 * (2 : Int32))), (true, X6, I7, J8))))) :
    z_ev (d + 2) (z_en 261 [z_r 33 0, z_i (x1)] (true, X, I, J)) r := by
  show z_ev (d + 2) (261, 0, [some (z_r 33 0), some (z_i (x1))], [], (true, X, I, J)) r
  refine z_ev_gs 2 (c1 := (261, 3, [some (z_r 33 0), some (z_i (x1))], [z_i 11, z_r 33 0], (true, X, I, J))) rfl ?_
  obtain ⟨X1, I2, J3, g4, h5⟩ := h
  refine z_ev_ca rfl rfl g4 ?_
  refine z_ev_gs 2 (c1 := (261, 8, [some (z_r 33 0), some (z_i (x1))], [z_i (x1), z_r 33 0], (true, X1, I2, J3))) rfl ?_
  obtain ⟨v11, X6, I7, J8, g9, h10⟩ := h5
  refine z_ev_ca rfl rfl g9 ?_
  refine z_ev_gs 2 (c1 := (261, 13, [some (z_r 33 0), some (z_i (x1))], [z_i (v11 * (2 : Int32))], (true, X6, I7, J8))) rfl ?_
  rw [h10]
  exact z_ev_rt rfl
theorem z_q262_e {d : Nat} {r : Option z_V × z_M} {X : z_X} {I : Nat → Nat → Nat → Int32} {J : Nat → Nat → Nat → Int64} (x1 : Int32)
    (h : (∃ (X1 : z_X) (I2 : Nat → Nat → Nat → Int32) (J3 : Nat → Nat → Nat → Int64), z_ev (d + 2) (z_en 259 [z_r 33 0, z_i 20] (true, X, I, J)) (none, (true, X1, I2, J3)) ∧ (∃ (v11 : Int32) (X6 : z_X) (I7 : Nat → Nat → Nat → Int32) (J8 : Nat → Nat → Nat → Int64), z_ev (d + 2) (z_en 261 [z_r 33 0, z_i (x1)] (true, X1, I2, J3)) (some (z_i (v11)), (true, X6, I7, J8)) ∧ r = (some (z_i (v11 - (I7 33 0 48))), (true, X6, I7, J8))))) :
    z_ev (d + 3) (z_en 262 [z_r 33 0, z_i (x1)] (true, X, I, J)) r := by
  show z_ev (d + 3) (262, 0, [some (z_r 33 0), some (z_i (x1))], [], (true, X, I, J)) r
  refine z_ev_gs 2 (c1 := (262, 3, [some (z_r 33 0), some (z_i (x1))], [z_i 20, z_r 33 0], (true, X, I, J))) rfl ?_
  obtain ⟨X1, I2, J3, g4, h5⟩ := h
  refine z_ev_ca rfl rfl g4 ?_
  refine z_ev_gs 2 (c1 := (262, 8, [some (z_r 33 0), some (z_i (x1))], [z_i (x1), z_r 33 0], (true, X1, I2, J3))) rfl ?_
  obtain ⟨v11, X6, I7, J8, g9, h10⟩ := h5
  refine z_ev_ca rfl rfl g9 ?_
  refine z_ev_gs 3 (c1 := (262, 16, [some (z_r 33 0), some (z_i (x1))], [z_i (v11 - (I7 33 0 48))], (true, X6, I7, J8))) rfl ?_
  rw [h10]
  exact z_ev_rt rfl
theorem z_q263_e {d : Nat} {r : Option z_V × z_M} {X : z_X} {I : Nat → Nat → Nat → Int32} {J : Nat → Nat → Nat → Int64} (x1 : Int32)
    (h : ((¬ (I 33 0 46) = (2 : Int32) → ((¬ (I 33 0 46) = 0 → (∃ (v8 : Int32) (X3 : z_X) (I4 : Nat → Nat → Nat → Int32) (J5 : Nat → Nat → Nat → Int64), z_ev (d + 3) (z_en 262 [z_r 33 0, z_i (x1)] (true, X, I, J)) (some (z_i (v8)), (true, X3, I4, J5)) ∧ r = (some (z_i (v8)), (true, X3, I4, J5)))) ∧ ((I 33 0 46) = 0 → (∃ (v14 : Int32) (X9 : z_X) (I10 : Nat → Nat → Nat → Int32) (J11 : Nat → Nat → Nat → Int64), z_ev (d + 3) (z_en 261 [z_r 33 0, z_i (x1)] (true, X, I, J)) (some (z_i (v14)), (true, X9, I10, J11)) ∧ r = (some (z_i (v14)), (true, X9, I10, J11)))))) ∧ ((I 33 0 46) = (2 : Int32) → (∃ (X17 : z_X) (I18 : Nat → Nat → Nat → Int32) (J19 : Nat → Nat → Nat → Int64), z_ev (d + 3) (z_en 259 [z_r 33 0, z_i 31] (true, X, I, J)) (none, (true, X17, I18, J19)) ∧ (∃ (v27 : Int32) (X22 : z_X) (I23 : Nat → Nat → Nat → Int32) (J24 : Nat → Nat → Nat → Int64), z_ev (d + 3) (z_en 262 [z_r 33 0, z_i (x1)] (true, X17, I18, J19)) (some (z_i (v27)), (true, X22, I23, J24)) ∧ (∃ (v33 : Int32) (X28 : z_X) (I29 : Nat → Nat → Nat → Int32) (J30 : Nat → Nat → Nat → Int64), z_ev (d + 3) (z_en 265 [z_r 33 0, z_i (I23 33 0 47)] (true, X22, I23, J24)) (some (z_i (v33)), (true, X28, I29, J30)) ∧ r = (some (z_i (v27 + v33)), (true, X28, I29, J30)))))))) :
    z_ev (d + 4) (z_en 263 [z_r 33 0, z_i (x1)] (true, X, I, J)) r := by
  show z_ev (d + 4) (263, 0, [some (z_r 33 0), some (z_i (x1)), none], [], (true, X, I, J)) r
  refine z_ev_gs 4 (c1 := (263, (if ¬ (I 33 0 46) = (2 : Int32) then 31 else 8), [some (z_r 33 0), some (z_i (x1)), none], [], (true, X, I, J))) rfl ?_
  refine z_ev_ifn (fun e1 => ?_) (fun e1 => ?_)
  · have h34 := h.1 e1
    refine z_ev_gs 3 (c1 := (263, (if ¬ (I 33 0 46) = 0 then 46 else 38), [some (z_r 33 0), some (z_i (x1)), none], [], (true, X, I, J))) rfl ?_
    refine z_ev_ifn (fun e2 => ?_) (fun e2 => ?_)
    · have h15 := h34.1 e2
      refine z_ev_gs 2 (c1 := (263, 48, [some (z_r 33 0), some (z_i (x1)), none], [z_i (x1), z_r 33 0], (true, X, I, J))) rfl ?_
      obtain ⟨v8, X3, I4, J5, g6, h7⟩ := h15
      refine z_ev_ca rfl rfl g6 ?_
      rw [h7]
      exact z_ev_rt rfl
    · have h16 := h34.2 e2
      refine z_ev_gs 2 (c1 := (263, 40, [some (z_r 33 0), some (z_i (x1)), none], [z_i (x1), z_r 33 0], (true, X, I, J))) rfl ?_
      obtain ⟨v14, X9, I10, J11, g12, h13⟩ := h16
      refine z_ev_ca rfl rfl g12 ?_
      refine z_ev_gs 1 (c1 := (263, 51, [some (z_r 33 0), some (z_i (x1)), none], [z_i (v14)], (true, X9, I10, J11))) rfl ?_
      rw [h13]
      exact z_ev_rt rfl
  · have h35 := h.2 e1
    refine z_ev_gs 2 (c1 := (263, 11, [some (z_r 33 0), some (z_i (x1)), none], [z_i 31, z_r 33 0], (true, X, I, J))) rfl ?_
    obtain ⟨X17, I18, J19, g20, h21⟩ := h35
    refine z_ev_ca rfl rfl g20 ?_
    refine z_ev_gs 2 (c1 := (263, 16, [some (z_r 33 0), some (z_i (x1)), none], [z_i (x1), z_r 33 0], (true, X17, I18, J19))) rfl ?_
    obtain ⟨v27, X22, I23, J24, g25, h26⟩ := h21
    refine z_ev_ca rfl rfl g25 ?_
    refine z_ev_gs 5 (c1 := (263, 26, [some (z_r 33 0), some (z_i (x1)), some (z_i (v27))], [z_i (I23 33 0 47), z_r 33 0, z_i (v27)], (true, X22, I23, J24))) rfl ?_
    obtain ⟨v33, X28, I29, J30, g31, h32⟩ := h26
    refine z_ev_ca rfl rfl g31 ?_
    refine z_ev_gs 1 (c1 := (263, 30, [some (z_r 33 0), some (z_i (x1)), some (z_i (v27))], [z_i (v27 + v33)], (true, X28, I29, J30))) rfl ?_
    rw [h32]
    exact z_ev_rt rfl
theorem z_q264_e {d : Nat} {r : Option z_V × z_M} {X : z_X} {I : Nat → Nat → Nat → Int32} {J : Nat → Nat → Nat → Int64} (x1 : Int32)
    (h : (∃ (X1 : z_X) (I2 : Nat → Nat → Nat → Int32) (J3 : Nat → Nat → Nat → Int64), z_ev d (z_en 259 [z_r 33 0, z_i 12] (true, X, I, J)) (none, (true, X1, I2, J3)) ∧ ((¬ (I2 33 0 48) = (I2 33 0 47) → (¬ ((I2 33 0 48) - (I2 33 0 47)) = 0 ∧ r = (some (z_i (x1 / ((I2 33 0 48) - (I2 33 0 47)))), (true, X1, I2, J3)))) ∧ ((I2 33 0 48) = (I2 33 0 47) → r = (some (z_i 0), (true, X1, (z_up I2 33 0 51 (1 : Int32)), J3)))))) :
    z_ev (d + 1) (z_en 264 [z_r 33 0, z_i (x1)] (true, X, I, J)) r := by
  show z_ev (d + 1) (264, 0, [some (z_r 33 0), some (z_i (x1))], [], (true, X, I, J)) r
  refine z_ev_gs 2 (c1 := (264, 3, [some (z_r 33 0), some (z_i (x1))], [z_i 12, z_r 33 0], (true, X, I, J))) rfl ?_
  obtain ⟨X1, I2, J3, g4, h5⟩ := h
  refine z_ev_ca rfl rfl g4 ?_
  refine z_ev_gs 5 (c1 := (264, (if ¬ (I2 33 0 48) = (I2 33 0 47) then 24 else 17), [some (z_r 33 0), some (z_i (x1))], [], (true, X1, I2, J3))) rfl ?_
  refine z_ev_ifn (fun e6 => ?_) (fun e6 => ?_)
  · have h8 := h5.1 e6
    refine z_ev_gs 6 (c1 := (264, 34, [some (z_r 33 0), some (z_i (x1))], [z_i ((I2 33 0 48) - (I2 33 0 47)), z_i (x1)], (true, X1, I2, J3))) rfl ?_
    obtain ⟨g0, h7⟩ := h8
    refine z_ev_dvi (w1 := ((I2 33 0 48) - (I2 33 0 47))) (c1 := (264, 35, [some (z_r 33 0), some (z_i (x1))], [z_i (x1 / ((I2 33 0 48) - (I2 33 0 47)))], (true, X1, I2, J3))) rfl g0 ?_
    rw [h7]
    exact z_ev_rt rfl
  · have h9 := h5.2 e6
    refine z_ev_gs 4 (c1 := (264, 23, [some (z_r 33 0), some (z_i (x1))], [z_i 0], (true, X1, (z_up I2 33 0 51 (1 : Int32)), J3))) rfl ?_
    rw [h9]
    exact z_ev_rt rfl
theorem z_q265_e {d : Nat} {r : Option z_V × z_M} {X : z_X} {I : Nat → Nat → Nat → Int32} {J : Nat → Nat → Nat → Int64} (x1 : Int32)
    (h : ((¬ (I 33 0 46) = 0 → (∃ (X2 : z_X) (I3 : Nat → Nat → Nat → Int32) (J4 : Nat → Nat → Nat → Int64), z_ev (d + 1) (z_en 259 [z_r 33 0, z_i 21] (true, X, I, J)) (none, (true, X2, I3, J4)) ∧ (∃ (v12 : Int32) (X7 : z_X) (I8 : Nat → Nat → Nat → Int32) (J9 : Nat → Nat → Nat → Int64), z_ev (d + 1) (z_en 264 [z_r 33 0, z_i (x1 + (1 : Int32))] (true, X2, I3, J4)) (some (z_i (v12)), (true, X7, I8, J9)) ∧ r = (some (z_i (v12)), (true, X7, I8, J9))))) ∧ ((I 33 0 46) = 0 → (∃ (v18 : Int32) (X13 : z_X) (I14 : Nat → Nat → Nat → Int32) (J15 : Nat → Nat → Nat → Int64), z_ev (d + 1) (z_en 264 [z_r 33 0, z_i (x1)] (true, X, I, J)) (some (z_i (v18)), (true, X13, I14, J15)) ∧ r = (some (z_i (v18)), (true, X13, I14, J15)))))) :
    z_ev (d + 2) (z_en 265 [z_r 33 0, z_i (x1)] (true, X, I, J)) r := by
  show z_ev (d + 2) (265, 0, [some (z_r 33 0), some (z_i (x1))], [], (true, X, I, J)) r
  refine z_ev_gs 3 (c1 := (265, (if ¬ (I 33 0 46) = 0 then 13 else 7), [some (z_r 33 0), some (z_i (x1))], [], (true, X, I, J))) rfl ?_
  refine z_ev_ifn (fun e1 => ?_) (fun e1 => ?_)
  · have h19 := h.1 e1
    refine z_ev_gs 2 (c1 := (265, 16, [some (z_r 33 0), some (z_i (x1))], [z_i 21, z_r 33 0], (true, X, I, J))) rfl ?_
    obtain ⟨X2, I3, J4, g5, h6⟩ := h19
    refine z_ev_ca rfl rfl g5 ?_
    refine z_ev_gs 4 (c1 := (265, 23, [some (z_r 33 0), some (z_i (x1))], [z_i (x1 + (1 : Int32)), z_r 33 0], (true, X2, I3, J4))) rfl ?_
    obtain ⟨v12, X7, I8, J9, g10, h11⟩ := h6
    refine z_ev_ca rfl rfl g10 ?_
    rw [h11]
    exact z_ev_rt rfl
  · have h20 := h.2 e1
    refine z_ev_gs 2 (c1 := (265, 9, [some (z_r 33 0), some (z_i (x1))], [z_i (x1), z_r 33 0], (true, X, I, J))) rfl ?_
    obtain ⟨v18, X13, I14, J15, g16, h17⟩ := h20
    refine z_ev_ca rfl rfl g16 ?_
    rw [h17]
    exact z_ev_rt rfl
theorem z_q266_e {d : Nat} {r : Option z_V × z_M} {X : z_X} {I : Nat → Nat → Nat → Int32} {J : Nat → Nat → Nat → Int64} (x1 : Int32)
    (h : (∃ (X1 : z_X) (I2 : Nat → Nat → Nat → Int32) (J3 : Nat → Nat → Nat → Int64), z_ev (d + 4) (z_en 259 [z_r 33 0, z_i 13] (true, X, I, J)) (none, (true, X1, I2, J3)) ∧ (∃ (v11 : Int32) (X6 : z_X) (I7 : Nat → Nat → Nat → Int32) (J8 : Nat → Nat → Nat → Int64), z_ev (d + 4) (z_en 263 [z_r 33 0, z_i (x1)] (true, X1, I2, J3)) (some (z_i (v11)), (true, X6, I7, J8)) ∧ r = (some (z_i (v11 ^^^ (I7 33 0 48))), (true, X6, I7, J8))))) :
    z_ev (d + 5) (z_en 266 [z_r 33 0, z_i (x1)] (true, X, I, J)) r := by
  show z_ev (d + 5) (266, 0, [some (z_r 33 0), some (z_i (x1))], [], (true, X, I, J)) r
  refine z_ev_gs 2 (c1 := (266, 3, [some (z_r 33 0), some (z_i (x1))], [z_i 13, z_r 33 0], (true, X, I, J))) rfl ?_
  obtain ⟨X1, I2, J3, g4, h5⟩ := h
  refine z_ev_ca rfl rfl g4 ?_
  refine z_ev_gs 2 (c1 := (266, 8, [some (z_r 33 0), some (z_i (x1))], [z_i (x1), z_r 33 0], (true, X1, I2, J3))) rfl ?_
  obtain ⟨v11, X6, I7, J8, g9, h10⟩ := h5
  refine z_ev_ca rfl rfl g9 ?_
  refine z_ev_gs 3 (c1 := (266, 16, [some (z_r 33 0), some (z_i (x1))], [z_i (v11 ^^^ (I7 33 0 48))], (true, X6, I7, J8))) rfl ?_
  rw [h10]
  exact z_ev_rt rfl
theorem z_q267_e {d : Nat} {r : Option z_V × z_M} {X : z_X} {I : Nat → Nat → Nat → Int32} {J : Nat → Nat → Nat → Int64} (x1 : Int32)
    (h : ((¬ (I 33 0 46) = (3 : Int32) → (∃ (v7 : Int32) (X2 : z_X) (I3 : Nat → Nat → Nat → Int32) (J4 : Nat → Nat → Nat → Int64), z_ev (d + 5) (z_en 266 [z_r 33 0, z_i (x1)] (true, X, I, J)) (some (z_i (v7)), (true, X2, I3, J4)) ∧ r = (some (z_i (v7)), (true, X2, I3, J4)))) ∧ ((I 33 0 46) = (3 : Int32) → (∃ (X8 : z_X) (I9 : Nat → Nat → Nat → Int32) (J10 : Nat → Nat → Nat → Int64), z_ev (d + 5) (z_en 259 [z_r 33 0, z_i 41] (true, X, I, J)) (none, (true, X8, I9, J10)) ∧ (∃ (v18 : Int32) (X13 : z_X) (I14 : Nat → Nat → Nat → Int32) (J15 : Nat → Nat → Nat → Int64), z_ev (d + 5) (z_en 266 [z_r 33 0, z_i (x1)] (true, X8, I9, J10)) (some (z_i (v18)), (true, X13, I14, J15)) ∧ r = (some (z_i (v18 * (2 : Int32))), (true, X13, I14, J15))))))) :
    z_ev (d + 6) (z_en 267 [z_r 33 0, z_i (x1)] (true, X, I, J)) r := by
  show z_ev (d + 6) (267, 0, [some (z_r 33 0), some (z_i (x1))], [], (true, X, I, J)) r
  refine z_ev_gs 4 (c1 := (267, (if ¬ (I 33 0 46) = (3 : Int32) then 22 else 8), [some (z_r 33 0), some (z_i (x1))], [], (true, X, I, J))) rfl ?_
  refine z_ev_ifn (fun e1 => ?_) (fun e1 => ?_)
  · have h19 := h.1 e1
    refine z_ev_gs 2 (c1 := (267, 24, [some (z_r 33 0), some (z_i (x1))], [z_i (x1), z_r 33 0], (true, X, I, J))) rfl ?_
    obtain ⟨v7, X2, I3, J4, g5, h6⟩ := h19
    refine z_ev_ca rfl rfl g5 ?_
    rw [h6]
    exact z_ev_rt rfl
  · have h20 := h.2 e1
    refine z_ev_gs 2 (c1 := (267, 11, [some (z_r 33 0), some (z_i (x1))], [z_i 41, z_r 33 0], (true, X, I, J))) rfl ?_
    obtain ⟨X8, I9, J10, g11, h12⟩ := h20
    refine z_ev_ca rfl rfl g11 ?_
    refine z_ev_gs 2 (c1 := (267, 16, [some (z_r 33 0), some (z_i (x1))], [z_i (x1), z_r 33 0], (true, X8, I9, J10))) rfl ?_
    obtain ⟨v18, X13, I14, J15, g16, h17⟩ := h12
    refine z_ev_ca rfl rfl g16 ?_
    refine z_ev_gs 2 (c1 := (267, 21, [some (z_r 33 0), some (z_i (x1))], [z_i (v18 * (2 : Int32))], (true, X13, I14, J15))) rfl ?_
    rw [h17]
    exact z_ev_rt rfl
theorem z_q268_e {d : Nat} {r : Option z_V × z_M} {X : z_X} {I : Nat → Nat → Nat → Int32} {J : Nat → Nat → Nat → Int64} (x1 : Int32) (x2 : Int32) (x3 : Int32)
    (h : (((z_bw x1 0 3) = false → (((z_bw x2 (0 : Int32) (3 : Int32)) = false → r = (some (z_i 0), (true, X, (z_up I 33 0 50 (0 : Int32)), J))) ∧ ((z_bw x2 (0 : Int32) (3 : Int32)) = true → (((z_bw (-1 : Int32) (0 : Int32) (3 : Int32)) = true → (∃ k4 : Nat, x1 = Int32.ofNat k4 ∧ k4 < 4 ∧ (∃ (v13 : Int32) (X8 : z_X) (I9 : Nat → Nat → Nat → Int32) (J10 : Nat → Nat → Nat → Int64), z_ev (d + 6) (z_en 229 [z_r 33 0, z_i ((I 59 0 k4)), z_i 1] (true, X, (z_up (z_up (z_up I 33 0 50 (0 : Int32)) 33 0 46 (-1 : Int32)) 33 0 47 (I 59 0 k4)), J)) (some (z_i (v13)), (true, X8, I9, J10)) ∧ ((¬ x2 = 0 → ((¬ x2 = (1 : Int32) → ((¬ x2 = (2 : Int32) → (∃ (v22 : Int32) (X17 : z_X) (I18 : Nat → Nat → Nat → Int32) (J19 : Nat → Nat → Nat → Int64), z_ev (d + 6) (z_en 267 [z_r 33 0, z_i (x3)] (true, X8, (z_up (z_up I9 33 0 48 v13) 33 0 51 (0 : Int32)), J10)) (some (z_i (v22)), (true, X17, I18, J19)) ∧ (((I18 33 0 51) = 0 → r = (some (z_i (v22)), (true, X17, I18, J19))) ∧ (¬ (I18 33 0 51) = 0 → r = (some (z_i (-15)), (true, X17, I18, J19)))))) ∧ (x2 = (2 : Int32) → (∃ (v31 : Int32) (X26 : z_X) (I27 : Nat → Nat → Nat → Int32) (J28 : Nat → Nat → Nat → Int64), z_ev (d + 6) (z_en 265 [z_r 33 0, z_i (x3)] (true, X8, (z_up (z_up I9 33 0 48 v13) 33 0 51 (0 : Int32)), J10)) (some (z_i (v31)), (true, X26, I27, J28)) ∧ (((I27 33 0 51) = 0 → r = (some (z_i (v31)), (true, X26, I27, J28))) ∧ (¬ (I27 33 0 51) = 0 → r = (some (z_i (-15)), (true, X26, I27, J28)))))))) ∧ (x2 = (1 : Int32) → (∃ (v42 : Int32) (X37 : z_X) (I38 : Nat → Nat → Nat → Int32) (J39 : Nat → Nat → Nat → Int64), z_ev (d + 6) (z_en 263 [z_r 33 0, z_i (x3)] (true, X8, (z_up (z_up I9 33 0 48 v13) 33 0 51 (0 : Int32)), J10)) (some (z_i (v42)), (true, X37, I38, J39)) ∧ (((I38 33 0 51) = 0 → r = (some (z_i (v42)), (true, X37, I38, J39))) ∧ (¬ (I38 33 0 51) = 0 → r = (some (z_i (-15)), (true, X37, I38, J39)))))))) ∧ (x2 = 0 → (∃ (v53 : Int32) (X48 : z_X) (I49 : Nat → Nat → Nat → Int32) (J50 : Nat → Nat → Nat → Int64), z_ev (d + 6) (z_en 260 [z_r 33 0, z_i (x3)] (true, X8, (z_up (z_up I9 33 0 48 v13) 33 0 51 (0 : Int32)), J10)) (some (z_i (v53)), (true, X48, I49, J50)) ∧ (((I49 33 0 51) = 0 → r = (some (z_i (v53)), (true, X48, I49, J50))) ∧ (¬ (I49 33 0 51) = 0 → r = (some (z_i (-15)), (true, X48, I49, J50)))))))))) ∧ ((z_bw (-1 : Int32) (0 : Int32) (3 : Int32)) = false → r = (some (z_i 0), (true, X, (z_up I 33 0 50 (0 : Int32)), J))))))) ∧ ((z_bw x1 0 3) = true → (∃ (v68 : Int32) (X63 : z_X) (I64 : Nat → Nat → Nat → Int32) (J65 : Nat → Nat → Nat → Int64), z_ev (d + 6) (z_en 256 [z_r 33 0, z_i (x1)] (true, X, (z_up I 33 0 50 (0 : Int32)), J)) (some (z_i (v68)), (true, X63, I64, J65)) ∧ (((z_bw x2 (0 : Int32) (3 : Int32)) = false → r = (some (z_i 0), (true, X63, I64, J65))) ∧ ((z_bw x2 (0 : Int32) (3 : Int32)) = true → (((z_bw v68 (0 : Int32) (3 : Int32)) = true → (∃ k71 : Nat, x1 = Int32.ofNat k71 ∧ k71 < 4 ∧ (∃ (v80 : Int32) (X75 : z_X) (I76 : Nat → Nat → Nat → Int32) (J77 : Nat → Nat → Nat → Int64), z_ev (d + 6) (z_en 229 [z_r 33 0, z_i ((I64 59 0 k71)), z_i 1] (true, X63, (z_up (z_up I64 33 0 46 v68) 33 0 47 (I64 59 0 k71)), J65)) (some (z_i (v80)), (true, X75, I76, J77)) ∧ ((¬ x2 = 0 → ((¬ x2 = (1 : Int32) → ((¬ x2 = (2 : Int32) → (∃ (v89 : Int32) (X84 : z_X) (I85 : Nat → Nat → Nat → Int32) (J86 : Nat → Nat → Nat → Int64), z_ev (d + 6) (z_en 267 [z_r 33 0, z_i (x3)] (true, X75, (z_up (z_up I76 33 0 48 v80) 33 0 51 (0 : Int32)), J77)) (some (z_i (v89)), (true, X84, I85, J86)) ∧ (((I85 33 0 51) = 0 → r = (some (z_i (v89)), (true, X84, I85, J86))) ∧ (¬ (I85 33 0 51) = 0 → r = (some (z_i (-15)), (true, X84, I85, J86)))))) ∧ (x2 = (2 : Int32) → (∃ (v98 : Int32) (X93 : z_X) (I94 : Nat → Nat → Nat → Int32) (J95 : Nat → Nat → Nat → Int64), z_ev (d + 6) (z_en 265 [z_r 33 0, z_i (x3)] (true, X75, (z_up (z_up I76 33 0 48 v80) 33 0 51 (0 : Int32)), J77)) (some (z_i (v98)), (true, X93, I94, J95)) ∧ (((I94 33 0 51) = 0 → r = (some (z_i (v98)), (true, X93, I94, J95))) ∧ (¬ (I94 33 0 51) = 0 → r = (some (z_i (-15)), (true, X93, I94, J95)))))))) ∧ (x2 = (1 : Int32) → (∃ (v109 : Int32) (X104 : z_X) (I105 : Nat → Nat → Nat → Int32) (J106 : Nat → Nat → Nat → Int64), z_ev (d + 6) (z_en 263 [z_r 33 0, z_i (x3)] (true, X75, (z_up (z_up I76 33 0 48 v80) 33 0 51 (0 : Int32)), J77)) (some (z_i (v109)), (true, X104, I105, J106)) ∧ (((I105 33 0 51) = 0 → r = (some (z_i (v109)), (true, X104, I105, J106))) ∧ (¬ (I105 33 0 51) = 0 → r = (some (z_i (-15)), (true, X104, I105, J106)))))))) ∧ (x2 = 0 → (∃ (v120 : Int32) (X115 : z_X) (I116 : Nat → Nat → Nat → Int32) (J117 : Nat → Nat → Nat → Int64), z_ev (d + 6) (z_en 260 [z_r 33 0, z_i (x3)] (true, X75, (z_up (z_up I76 33 0 48 v80) 33 0 51 (0 : Int32)), J77)) (some (z_i (v120)), (true, X115, I116, J117)) ∧ (((I116 33 0 51) = 0 → r = (some (z_i (v120)), (true, X115, I116, J117))) ∧ (¬ (I116 33 0 51) = 0 → r = (some (z_i (-15)), (true, X115, I116, J117)))))))))) ∧ ((z_bw v68 (0 : Int32) (3 : Int32)) = false → r = (some (z_i 0), (true, X63, I64, J65)))))))))) :
    z_ev (d + 7) (z_en 268 [z_r 33 0, z_i (x1), z_i (x2), z_i (x3)] (true, X, I, J)) r := by
  show z_ev (d + 7) (268, 0, [some (z_r 33 0), some (z_i (x1)), some (z_i (x2)), some (z_i (x3)), none, none], [], (true, X, I, J)) r
  refine z_ev_gs 4 (c1 := (268, 6, [some (z_r 33 0), some (z_i (x1)), some (z_i (x2)), some (z_i (x3)), none, none], [z_i (x1)], (true, X, (z_up I 33 0 50 (0 : Int32)), J))) rfl ?_
  refine z_ev_ca rfl rfl (z_p249 _) ?_
  refine z_ev_gs 1 (c1 := (268, (if z_c (z_bw x1 0 3) = 0 then 20 else 12), [some (z_r 33 0), some (z_i (x1)), some (z_i (x2)), some (z_i (x3)), none, none], [], (true, X, (z_up I 33 0 50 (0 : Int32)), J))) rfl ?_
  refine z_ev_ifc (fun e1 => ?_) (fun e1 => ?_)
  · have h130 := h.1 e1
    refine z_ev_gs 5 (c1 := (268, 26, [some (z_r 33 0), some (z_i (x1)), some (z_i (x2)), some (z_i (x3)), some (z_i (-1)), none], [z_i 3, z_i 0, z_i (x2)], (true, X, (z_up I 33 0 50 (0 : Int32)), J))) rfl ?_
    refine z_ev_ca rfl rfl (z_p158 _ _ _) ?_
    refine z_ev_gs 1 (c1 := (268, (if z_c (z_bw x2 (0 : Int32) (3 : Int32)) = 0 then 42 else 32), [some (z_r 33 0), some (z_i (x1)), some (z_i (x2)), some (z_i (x3)), some (z_i (-1)), none], [], (true, X, (z_up I 33 0 50 (0 : Int32)), J))) rfl ?_
    refine z_ev_ifc (fun e2 => ?_) (fun e2 => ?_)
    · have h61 := h130.1 e2
      refine z_ev_gs 1 (c1 := (268, 43, [some (z_r 33 0), some (z_i (x1)), some (z_i (x2)), some (z_i (x3)), some (z_i (-1)), none], [z_i 0], (true, X, (z_up I 33 0 50 (0 : Int32)), J))) rfl ?_
      rw [h61]
      exact z_ev_rt rfl
    · have h62 := h130.2 e2
      refine z_ev_gs 3 (c1 := (268, 36, [some (z_r 33 0), some (z_i (x1)), some (z_i (x2)), some (z_i (x3)), some (z_i (-1)), none], [z_i 3, z_i 0, z_i (-1)], (true, X, (z_up I 33 0 50 (0 : Int32)), J))) rfl ?_
      refine z_ev_ca rfl rfl (z_p158 _ _ _) ?_
      refine z_ev_gs 1 (c1 := (268, (if ¬ z_c (z_bw (-1 : Int32) (0 : Int32) (3 : Int32)) = 0 then 44 else 42), [some (z_r 33 0), some (z_i (x1)), some (z_i (x2)), some (z_i (x3)), some (z_i (-1)), none], [], (true, X, (z_up I 33 0 50 (0 : Int32)), J))) rfl ?_
      refine z_ev_ifcn (fun e3 => ?_) (fun e3 => ?_)
      · have h59 := h62.1 e3
        refine z_ev_gs 7 (c1 := (268, 56, [some (z_r 33 0), some (z_i (x1)), some (z_i (x2)), some (z_i (x3)), some (z_i (-1)), none], [z_i (x1), z_r 59 0, z_r 33 0], (true, X, (z_up (z_up I 33 0 50 (0 : Int32)) 33 0 46 (-1 : Int32)), J))) rfl ?_
        obtain ⟨k4, e5, e6, h7⟩ := h59
        refine z_ev_iald (t := 59) (i := 0) (k := k4) (n := 4) rfl rfl e5 e6 (by decide) ?_
        refine z_ev_gs 6 (c1 := (268, 67, [some (z_r 33 0), some (z_i (x1)), some (z_i (x2)), some (z_i (x3)), some (z_i (-1)), none], [z_i 1, z_i ((I 59 0 k4)), z_r 33 0, z_r 33 0], (true, X, (z_up (z_up (z_up I 33 0 50 (0 : Int32)) 33 0 46 (-1 : Int32)) 33 0 47 (I 59 0 k4)), J))) rfl ?_
        obtain ⟨v13, X8, I9, J10, g11, h12⟩ := h7
        refine z_ev_ca rfl rfl g11 ?_
        refine z_ev_gs 6 (c1 := (268, (if ¬ x2 = 0 then 90 else 82), [some (z_r 33 0), some (z_i (x1)), some (z_i (x2)), some (z_i (x3)), some (z_i (-1)), none], [], (true, X8, (z_up (z_up I9 33 0 48 v13) 33 0 51 (0 : Int32)), J10))) rfl ?_
        refine z_ev_ifn (fun e14 => ?_) (fun e14 => ?_)
        · have h57 := h12.1 e14
          refine z_ev_gs 3 (c1 := (268, (if ¬ x2 = (1 : Int32) then 103 else 95), [some (z_r 33 0), some (z_i (x1)), some (z_i (x2)), some (z_i (x3)), some (z_i (-1)), none], [], (true, X8, (z_up (z_up I9 33 0 48 v13) 33 0 51 (0 : Int32)), J10))) rfl ?_
          refine z_ev_ifn (fun e15 => ?_) (fun e15 => ?_)
          · have h46 := h57.1 e15
            refine z_ev_gs 3 (c1 := (268, (if ¬ x2 = (2 : Int32) then 116 else 108), [some (z_r 33 0), some (z_i (x1)), some (z_i (x2)), some (z_i (x3)), some (z_i (-1)), none], [], (true, X8, (z_up (z_up I9 33 0 48 v13) 33 0 51 (0 : Int32)), J10))) rfl ?_
            refine z_ev_ifn (fun e16 => ?_) (fun e16 => ?_)
            · have h35 := h46.1 e16
              refine z_ev_gs 2 (c1 := (268, 118, [some (z_r 33 0), some (z_i (x1)), some (z_i (x2)), some (z_i (x3)), some (z_i (-1)), none], [z_i (x3), z_r 33 0], (true, X8, (z_up (z_up I9 33 0 48 v13) 33 0 51 (0 : Int32)), J10))) rfl ?_
              obtain ⟨v22, X17, I18, J19, g20, h21⟩ := h35
              refine z_ev_ca rfl rfl g20 ?_
              refine z_ev_gs 4 (c1 := (268, (if (I18 33 0 51) = 0 then 135 else 130), [some (z_r 33 0), some (z_i (x1)), some (z_i (x2)), some (z_i (x3)), some (z_i (-1)), some (z_i (v22))], [], (true, X17, I18, J19))) rfl ?_
              refine z_ev_if (fun e23 => ?_) (fun e23 => ?_)
              · have h24 := h21.1 e23
                refine z_ev_gs 1 (c1 := (268, 137, [some (z_r 33 0), some (z_i (x1)), some (z_i (x2)), some (z_i (x3)), some (z_i (-1)), some (z_i (v22))], [z_i (v22)], (true, X17, I18, J19))) rfl ?_
                rw [h24]
                exact z_ev_rt rfl
              · have h25 := h21.2 e23
                refine z_ev_gs 2 (c1 := (268, 137, [some (z_r 33 0), some (z_i (x1)), some (z_i (x2)), some (z_i (x3)), some (z_i (-1)), some (z_i (v22))], [z_i (-15)], (true, X17, I18, J19))) rfl ?_
                rw [h25]
                exact z_ev_rt rfl
            · have h36 := h46.2 e16
              refine z_ev_gs 2 (c1 := (268, 110, [some (z_r 33 0), some (z_i (x1)), some (z_i (x2)), some (z_i (x3)), some (z_i (-1)), none], [z_i (x3), z_r 33 0], (true, X8, (z_up (z_up I9 33 0 48 v13) 33 0 51 (0 : Int32)), J10))) rfl ?_
              obtain ⟨v31, X26, I27, J28, g29, h30⟩ := h36
              refine z_ev_ca rfl rfl g29 ?_
              refine z_ev_gs 5 (c1 := (268, (if (I27 33 0 51) = 0 then 135 else 130), [some (z_r 33 0), some (z_i (x1)), some (z_i (x2)), some (z_i (x3)), some (z_i (-1)), some (z_i (v31))], [], (true, X26, I27, J28))) rfl ?_
              refine z_ev_if (fun e32 => ?_) (fun e32 => ?_)
              · have h33 := h30.1 e32
                refine z_ev_gs 1 (c1 := (268, 137, [some (z_r 33 0), some (z_i (x1)), some (z_i (x2)), some (z_i (x3)), some (z_i (-1)), some (z_i (v31))], [z_i (v31)], (true, X26, I27, J28))) rfl ?_
                rw [h33]
                exact z_ev_rt rfl
              · have h34 := h30.2 e32
                refine z_ev_gs 2 (c1 := (268, 137, [some (z_r 33 0), some (z_i (x1)), some (z_i (x2)), some (z_i (x3)), some (z_i (-1)), some (z_i (v31))], [z_i (-15)], (true, X26, I27, J28))) rfl ?_
                rw [h34]
                exact z_ev_rt rfl
          · have h47 := h57.2 e15
            refine z_ev_gs 2 (c1 := (268, 97, [some (z_r 33 0), some (z_i (x1)), some (z_i (x2)), some (z_i (x3)), some (z_i (-1)), none], [z_i (x3), z_r 33 0], (true, X8, (z_up (z_up I9 33 0 48 v13) 33 0 51 (0 : Int32)), J10))) rfl ?_
            obtain ⟨v42, X37, I38, J39, g40, h41⟩ := h47
            refine z_ev_ca rfl rfl g40 ?_
            refine z_ev_gs 5 (c1 := (268, (if (I38 33 0 51) = 0 then 135 else 130), [some (z_r 33 0), some (z_i (x1)), some (z_i (x2)), some (z_i (x3)), some (z_i (-1)), some (z_i (v42))], [], (true, X37, I38, J39))) rfl ?_
            refine z_ev_if (fun e43 => ?_) (fun e43 => ?_)
            · have h44 := h41.1 e43
              refine z_ev_gs 1 (c1 := (268, 137, [some (z_r 33 0), some (z_i (x1)), some (z_i (x2)), some (z_i (x3)), some (z_i (-1)), some (z_i (v42))], [z_i (v42)], (true, X37, I38, J39))) rfl ?_
              rw [h44]
              exact z_ev_rt rfl
            · have h45 := h41.2 e43
              refine z_ev_gs 2 (c1 := (268, 137, [some (z_r 33 0), some (z_i (x1)), some (z_i (x2)), some (z_i (x3)), some (z_i (-1)), some (z_i (v42))], [z_i (-15)], (true, X37, I38, J39))) rfl ?_
              rw [h45]
              exact z_ev_rt rfl
        · have h58 := h12.2 e14
          refine z_ev_gs 2 (c1 := (268, 84, [some (z_r 33 0), some (z_i (x1)), some (z_i (x2)), some (z_i (x3)), some (z_i (-1)), none], [z_i (x3), z_r 33 0], (true, X8, (z_up (z_up I9 33 0 48 v13) 33 0 51 (0 : Int32)), J10))) rfl ?_
          obtain ⟨v53, X48, I49, J50, g51, h52⟩ := h58
          refine z_ev_ca rfl rfl g51 ?_
          refine z_ev_gs 5 (c1 := (268, (if (I49 33 0 51) = 0 then 135 else 130), [some (z_r 33 0), some (z_i (x1)), some (z_i (x2)), some (z_i (x3)), some (z_i (-1)), some (z_i (v53))], [], (true, X48, I49, J50))) rfl ?_
          refine z_ev_if (fun e54 => ?_) (fun e54 => ?_)
          · have h55 := h52.1 e54
            refine z_ev_gs 1 (c1 := (268, 137, [some (z_r 33 0), some (z_i (x1)), some (z_i (x2)), some (z_i (x3)), some (z_i (-1)), some (z_i (v53))], [z_i (v53)], (true, X48, I49, J50))) rfl ?_
            rw [h55]
            exact z_ev_rt rfl
          · have h56 := h52.2 e54
            refine z_ev_gs 2 (c1 := (268, 137, [some (z_r 33 0), some (z_i (x1)), some (z_i (x2)), some (z_i (x3)), some (z_i (-1)), some (z_i (v53))], [z_i (-15)], (true, X48, I49, J50))) rfl ?_
            rw [h56]
            exact z_ev_rt rfl
      · have h60 := h62.2 e3
        refine z_ev_gs 1 (c1 := (268, 43, [some (z_r 33 0), some (z_i (x1)), some (z_i (x2)), some (z_i (x3)), some (z_i (-1)), none], [z_i 0], (true, X, (z_up I 33 0 50 (0 : Int32)), J))) rfl ?_
        rw [h60]
        exact z_ev_rt rfl
  · have h131 := h.2 e1
    refine z_ev_gs 2 (c1 := (268, 14, [some (z_r 33 0), some (z_i (x1)), some (z_i (x2)), some (z_i (x3)), none, none], [z_i (x1), z_r 33 0], (true, X, (z_up I 33 0 50 (0 : Int32)), J))) rfl ?_
    obtain ⟨v68, X63, I64, J65, g66, h67⟩ := h131
    refine z_ev_ca rfl rfl g66 ?_
    refine z_ev_gs 5 (c1 := (268, 26, [some (z_r 33 0), some (z_i (x1)), some (z_i (x2)), some (z_i (x3)), some (z_i (v68)), none], [z_i 3, z_i 0, z_i (x2)], (true, X63, I64, J65))) rfl ?_
    refine z_ev_ca rfl rfl (z_p158 _ _ _) ?_
    refine z_ev_gs 1 (c1 := (268, (if z_c (z_bw x2 (0 : Int32) (3 : Int32)) = 0 then 42 else 32), [some (z_r 33 0), some (z_i (x1)), some (z_i (x2)), some (z_i (x3)), some (z_i (v68)), none], [], (true, X63, I64, J65))) rfl ?_
    refine z_ev_ifc (fun e69 => ?_) (fun e69 => ?_)
    · have h128 := h67.1 e69
      refine z_ev_gs 1 (c1 := (268, 43, [some (z_r 33 0), some (z_i (x1)), some (z_i (x2)), some (z_i (x3)), some (z_i (v68)), none], [z_i 0], (true, X63, I64, J65))) rfl ?_
      rw [h128]
      exact z_ev_rt rfl
    · have h129 := h67.2 e69
      refine z_ev_gs 3 (c1 := (268, 36, [some (z_r 33 0), some (z_i (x1)), some (z_i (x2)), some (z_i (x3)), some (z_i (v68)), none], [z_i 3, z_i 0, z_i (v68)], (true, X63, I64, J65))) rfl ?_
      refine z_ev_ca rfl rfl (z_p158 _ _ _) ?_
      refine z_ev_gs 1 (c1 := (268, (if ¬ z_c (z_bw v68 (0 : Int32) (3 : Int32)) = 0 then 44 else 42), [some (z_r 33 0), some (z_i (x1)), some (z_i (x2)), some (z_i (x3)), some (z_i (v68)), none], [], (true, X63, I64, J65))) rfl ?_
      refine z_ev_ifcn (fun e70 => ?_) (fun e70 => ?_)
      · have h126 := h129.1 e70
        refine z_ev_gs 7 (c1 := (268, 56, [some (z_r 33 0), some (z_i (x1)), some (z_i (x2)), some (z_i (x3)), some (z_i (v68)), none], [z_i (x1), z_r 59 0, z_r 33 0], (true, X63, (z_up I64 33 0 46 v68), J65))) rfl ?_
        obtain ⟨k71, e72, e73, h74⟩ := h126
        refine z_ev_iald (t := 59) (i := 0) (k := k71) (n := 4) rfl rfl e72 e73 (by decide) ?_
        refine z_ev_gs 6 (c1 := (268, 67, [some (z_r 33 0), some (z_i (x1)), some (z_i (x2)), some (z_i (x3)), some (z_i (v68)), none], [z_i 1, z_i ((I64 59 0 k71)), z_r 33 0, z_r 33 0], (true, X63, (z_up (z_up I64 33 0 46 v68) 33 0 47 (I64 59 0 k71)), J65))) rfl ?_
        obtain ⟨v80, X75, I76, J77, g78, h79⟩ := h74
        refine z_ev_ca rfl rfl g78 ?_
        refine z_ev_gs 6 (c1 := (268, (if ¬ x2 = 0 then 90 else 82), [some (z_r 33 0), some (z_i (x1)), some (z_i (x2)), some (z_i (x3)), some (z_i (v68)), none], [], (true, X75, (z_up (z_up I76 33 0 48 v80) 33 0 51 (0 : Int32)), J77))) rfl ?_
        refine z_ev_ifn (fun e81 => ?_) (fun e81 => ?_)
        · have h124 := h79.1 e81
          refine z_ev_gs 3 (c1 := (268, (if ¬ x2 = (1 : Int32) then 103 else 95), [some (z_r 33 0), some (z_i (x1)), some (z_i (x2)), some (z_i (x3)), some (z_i (v68)), none], [], (true, X75, (z_up (z_up I76 33 0 48 v80) 33 0 51 (0 : Int32)), J77))) rfl ?_
          refine z_ev_ifn (fun e82 => ?_) (fun e82 => ?_)
          · have h113 := h124.1 e82
            refine z_ev_gs 3 (c1 := (268, (if ¬ x2 = (2 : Int32) then 116 else 108), [some (z_r 33 0), some (z_i (x1)), some (z_i (x2)), some (z_i (x3)), some (z_i (v68)), none], [], (true, X75, (z_up (z_up I76 33 0 48 v80) 33 0 51 (0 : Int32)), J77))) rfl ?_
            refine z_ev_ifn (fun e83 => ?_) (fun e83 => ?_)
            · have h102 := h113.1 e83
              refine z_ev_gs 2 (c1 := (268, 118, [some (z_r 33 0), some (z_i (x1)), some (z_i (x2)), some (z_i (x3)), some (z_i (v68)), none], [z_i (x3), z_r 33 0], (true, X75, (z_up (z_up I76 33 0 48 v80) 33 0 51 (0 : Int32)), J77))) rfl ?_
              obtain ⟨v89, X84, I85, J86, g87, h88⟩ := h102
              refine z_ev_ca rfl rfl g87 ?_
              refine z_ev_gs 4 (c1 := (268, (if (I85 33 0 51) = 0 then 135 else 130), [some (z_r 33 0), some (z_i (x1)), some (z_i (x2)), some (z_i (x3)), some (z_i (v68)), some (z_i (v89))], [], (true, X84, I85, J86))) rfl ?_
              refine z_ev_if (fun e90 => ?_) (fun e90 => ?_)
              · have h91 := h88.1 e90
                refine z_ev_gs 1 (c1 := (268, 137, [some (z_r 33 0), some (z_i (x1)), some (z_i (x2)), some (z_i (x3)), some (z_i (v68)), some (z_i (v89))], [z_i (v89)], (true, X84, I85, J86))) rfl ?_
                rw [h91]
                exact z_ev_rt rfl
              · have h92 := h88.2 e90
                refine z_ev_gs 2 (c1 := (268, 137, [some (z_r 33 0), some (z_i (x1)), some (z_i (x2)), some (z_i (x3)), some (z_i (v68)), some (z_i (v89))], [z_i (-15)], (true, X84, I85, J86))) rfl ?_
                rw [h92]
                exact z_ev_rt rfl
            · have h103 := h113.2 e83
              refine z_ev_gs 2 (c1 := (268, 110, [some (z_r 33 0), some (z_i (x1)), some (z_i (x2)), some (z_i (x3)), some (z_i (v68)), none], [z_i (x3), z_r 33 0], (true, X75, (z_up (z_up I76 33 0 48 v80) 33 0 51 (0 : Int32)), J77))) rfl ?_
              obtain ⟨v98, X93, I94, J95, g96, h97⟩ := h103
              refine z_ev_ca rfl rfl g96 ?_
              refine z_ev_gs 5 (c1 := (268, (if (I94 33 0 51) = 0 then 135 else 130), [some (z_r 33 0), some (z_i (x1)), some (z_i (x2)), some (z_i (x3)), some (z_i (v68)), some (z_i (v98))], [], (true, X93, I94, J95))) rfl ?_
              refine z_ev_if (fun e99 => ?_) (fun e99 => ?_)
              · have h100 := h97.1 e99
                refine z_ev_gs 1 (c1 := (268, 137, [some (z_r 33 0), some (z_i (x1)), some (z_i (x2)), some (z_i (x3)), some (z_i (v68)), some (z_i (v98))], [z_i (v98)], (true, X93, I94, J95))) rfl ?_
                rw [h100]
                exact z_ev_rt rfl
              · have h101 := h97.2 e99
                refine z_ev_gs 2 (c1 := (268, 137, [some (z_r 33 0), some (z_i (x1)), some (z_i (x2)), some (z_i (x3)), some (z_i (v68)), some (z_i (v98))], [z_i (-15)], (true, X93, I94, J95))) rfl ?_
                rw [h101]
                exact z_ev_rt rfl
          · have h114 := h124.2 e82
            refine z_ev_gs 2 (c1 := (268, 97, [some (z_r 33 0), some (z_i (x1)), some (z_i (x2)), some (z_i (x3)), some (z_i (v68)), none], [z_i (x3), z_r 33 0], (true, X75, (z_up (z_up I76 33 0 48 v80) 33 0 51 (0 : Int32)), J77))) rfl ?_
            obtain ⟨v109, X104, I105, J106, g107, h108⟩ := h114
            refine z_ev_ca rfl rfl g107 ?_
            refine z_ev_gs 5 (c1 := (268, (if (I105 33 0 51) = 0 then 135 else 130), [some (z_r 33 0), some (z_i (x1)), some (z_i (x2)), some (z_i (x3)), some (z_i (v68)), some (z_i (v109))], [], (true, X104, I105, J106))) rfl ?_
            refine z_ev_if (fun e110 => ?_) (fun e110 => ?_)
            · have h111 := h108.1 e110
              refine z_ev_gs 1 (c1 := (268, 137, [some (z_r 33 0), some (z_i (x1)), some (z_i (x2)), some (z_i (x3)), some (z_i (v68)), some (z_i (v109))], [z_i (v109)], (true, X104, I105, J106))) rfl ?_
              rw [h111]
              exact z_ev_rt rfl
            · have h112 := h108.2 e110
              refine z_ev_gs 2 (c1 := (268, 137, [some (z_r 33 0), some (z_i (x1)), some (z_i (x2)), some (z_i (x3)), some (z_i (v68)), some (z_i (v109))], [z_i (-15)], (true, X104, I105, J106))) rfl ?_
              rw [h112]
              exact z_ev_rt rfl
        · have h125 := h79.2 e81
          refine z_ev_gs 2 (c1 := (268, 84, [some (z_r 33 0), some (z_i (x1)), some (z_i (x2)), some (z_i (x3)), some (z_i (v68)), none], [z_i (x3), z_r 33 0], (true, X75, (z_up (z_up I76 33 0 48 v80) 33 0 51 (0 : Int32)), J77))) rfl ?_
          obtain ⟨v120, X115, I116, J117, g118, h119⟩ := h125
          refine z_ev_ca rfl rfl g118 ?_
          refine z_ev_gs 5 (c1 := (268, (if (I116 33 0 51) = 0 then 135 else 130), [some (z_r 33 0), some (z_i (x1)), some (z_i (x2)), some (z_i (x3)), some (z_i (v68)), some (z_i (v120))], [], (true, X115, I116, J117))) rfl ?_
          refine z_ev_if (fun e121 => ?_) (fun e121 => ?_)
          · have h122 := h119.1 e121
            refine z_ev_gs 1 (c1 := (268, 137, [some (z_r 33 0), some (z_i (x1)), some (z_i (x2)), some (z_i (x3)), some (z_i (v68)), some (z_i (v120))], [z_i (v120)], (true, X115, I116, J117))) rfl ?_
            rw [h122]
            exact z_ev_rt rfl
          · have h123 := h119.2 e121
            refine z_ev_gs 2 (c1 := (268, 137, [some (z_r 33 0), some (z_i (x1)), some (z_i (x2)), some (z_i (x3)), some (z_i (v68)), some (z_i (v120))], [z_i (-15)], (true, X115, I116, J117))) rfl ?_
            rw [h123]
            exact z_ev_rt rfl
      · have h127 := h129.2 e70
        refine z_ev_gs 1 (c1 := (268, 43, [some (z_r 33 0), some (z_i (x1)), some (z_i (x2)), some (z_i (x3)), some (z_i (v68)), none], [z_i 0], (true, X63, I64, J65))) rfl ?_
        rw [h127]
        exact z_ev_rt rfl
