/-! segments: fractions, small nets, outs, rows; printed by wip/whole/emit_seg.py -/
theorem z_q277_e {d : Nat} {r : Option z_V × z_M} {X : z_X} {I : Nat → Nat → Nat → Int32} {J : Nat → Nat → Nat → Int64} (x0 : Int32) (x1 : Int32)
    (h : ((x0 < x1 → r = (some (z_i (x1)), (true, X, I, J))) ∧ (x1 ≤ x0 → r = (some (z_i (x0)), (true, X, I, J))))) :
    z_ev d (z_en 277 [z_i (x0), z_i (x1)] (true, X, I, J)) r := by
  show z_ev d (277, 0, [some (z_i (x0)), some (z_i (x1))], [], (true, X, I, J)) r
  refine z_ev_gs 3 (c1 := (277, (if x0 < x1 then 9 else 5), [some (z_i (x0)), some (z_i (x1))], [], (true, X, I, J))) rfl ?_
  refine z_ev_iflt (fun e1 => ?_) (fun e1 => ?_)
  · have h2 := h.1 e1
    refine z_ev_gs 1 (c1 := (277, 10, [some (z_i (x0)), some (z_i (x1))], [z_i (x1)], (true, X, I, J))) rfl ?_
    rw [h2]
    exact z_ev_rt rfl
  · have h3 := h.2 e1
    refine z_ev_gs 2 (c1 := (277, 10, [some (z_i (x0)), some (z_i (x1))], [z_i (x0)], (true, X, I, J))) rfl ?_
    rw [h3]
    exact z_ev_rt rfl
theorem z_q130_e {d : Nat} {r : Option z_V × z_M} {X : z_X} {I : Nat → Nat → Nat → Int32} {J : Nat → Nat → Nat → Int64} (x0 : Int32) (x1 : Int32)
    (h : z_ev d (130, 4, [some (z_i (x0)), some (z_i (x1)), some (z_i 1), some (z_i 0)], [], (true, X, I, J)) r) :
    z_ev d (z_en 130 [z_i (x0), z_i (x1)] (true, X, I, J)) r := by
  show z_ev d (130, 0, [some (z_i (x0)), some (z_i (x1)), none, none], [], (true, X, I, J)) r
  refine z_ev_gs 4 (c1 := (130, 4, [some (z_i (x0)), some (z_i (x1)), some (z_i 1), some (z_i 0)], [], (true, X, I, J))) rfl ?_
  exact h
theorem z_q130_4 {d : Nat} {r : Option z_V × z_M} {X : z_X} {I : Nat → Nat → Nat → Int32} {J : Nat → Nat → Nat → Int64} (x0 : Int32) (x1 : Int32) (x2 : Int32) (x3 : Int32)
    (h : ((x1 ≤ x3 → r = (some (z_i (x2)), (true, X, I, J))) ∧ (x3 < x1 → (¬ (x3 + (1 : Int32)) = 0 ∧ z_ev d (130, 4, [some (z_i (x0)), some (z_i (x1)), some (z_i ((x2 * (x0 - x3)) / (x3 + (1 : Int32)))), some (z_i (x3 + (1 : Int32)))], [], (true, X, I, J)) r)))) :
    z_ev d ((130, 4, [some (z_i (x0)), some (z_i (x1)), some (z_i (x2)), some (z_i (x3))], [], (true, X, I, J))) r := by
  refine z_ev_gs 3 (c1 := (130, (if x1 ≤ x3 then 25 else 9), [some (z_i (x0)), some (z_i (x1)), some (z_i (x2)), some (z_i (x3))], [], (true, X, I, J))) rfl ?_
  refine z_ev_ifle (fun e1 => ?_) (fun e1 => ?_)
  · have h3 := h.1 e1
    refine z_ev_gs 1 (c1 := (130, 26, [some (z_i (x0)), some (z_i (x1)), some (z_i (x2)), some (z_i (x3))], [z_i (x2)], (true, X, I, J))) rfl ?_
    rw [h3]
    exact z_ev_rt rfl
  · have h4 := h.2 e1
    refine z_ev_gs 8 (c1 := (130, 17, [some (z_i (x0)), some (z_i (x1)), some (z_i (x2)), some (z_i (x3))], [z_i (x3 + (1 : Int32)), z_i (x2 * (x0 - x3))], (true, X, I, J))) rfl ?_
    obtain ⟨g0, h2⟩ := h4
    refine z_ev_dvi (w1 := (x3 + (1 : Int32))) (c1 := (130, 18, [some (z_i (x0)), some (z_i (x1)), some (z_i (x2)), some (z_i (x3))], [z_i ((x2 * (x0 - x3)) / (x3 + (1 : Int32)))], (true, X, I, J))) rfl g0 ?_
    refine z_ev_gs 3 (c1 := (130, 4, [some (z_i (x0)), some (z_i (x1)), some (z_i ((x2 * (x0 - x3)) / (x3 + (1 : Int32)))), some (z_i (x3 + (1 : Int32)))], [], (true, X, I, J))) rfl ?_
    exact h2
theorem z_q195_e {d : Nat} {r : Option z_V × z_M} {X : z_X} {I : Nat → Nat → Nat → Int32} {J : Nat → Nat → Nat → Int64} (x0 : Int32) (x1 : Int32)
    (h : z_ev d (195, 4, [some (z_i (x0)), some (z_i (x1)), some (z_i 1), some (z_i 0)], [], (true, X, I, J)) r) :
    z_ev d (z_en 195 [z_i (x0), z_i (x1)] (true, X, I, J)) r := by
  show z_ev d (195, 0, [some (z_i (x0)), some (z_i (x1)), none, none], [], (true, X, I, J)) r
  refine z_ev_gs 4 (c1 := (195, 4, [some (z_i (x0)), some (z_i (x1)), some (z_i 1), some (z_i 0)], [], (true, X, I, J))) rfl ?_
  exact h
theorem z_q195_4 {d : Nat} {r : Option z_V × z_M} {X : z_X} {I : Nat → Nat → Nat → Int32} {J : Nat → Nat → Nat → Int64} (x0 : Int32) (x1 : Int32) (x2 : Int32) (x3 : Int32)
    (h : ((x1 ≤ x3 → r = (some (z_i (x2)), (true, X, I, J))) ∧ (x3 < x1 → (¬ (x3 + (1 : Int32)) = 0 ∧ z_ev d (195, 4, [some (z_i (x0)), some (z_i (x1)), some (z_i ((x2 * (x0 - x3)) / (x3 + (1 : Int32)))), some (z_i (x3 + (1 : Int32)))], [], (true, X, I, J)) r)))) :
    z_ev d ((195, 4, [some (z_i (x0)), some (z_i (x1)), some (z_i (x2)), some (z_i (x3))], [], (true, X, I, J))) r := by
  refine z_ev_gs 3 (c1 := (195, (if x1 ≤ x3 then 25 else 9), [some (z_i (x0)), some (z_i (x1)), some (z_i (x2)), some (z_i (x3))], [], (true, X, I, J))) rfl ?_
  refine z_ev_ifle (fun e1 => ?_) (fun e1 => ?_)
  · have h3 := h.1 e1
    refine z_ev_gs 1 (c1 := (195, 26, [some (z_i (x0)), some (z_i (x1)), some (z_i (x2)), some (z_i (x3))], [z_i (x2)], (true, X, I, J))) rfl ?_
    rw [h3]
    exact z_ev_rt rfl
  · have h4 := h.2 e1
    refine z_ev_gs 8 (c1 := (195, 17, [some (z_i (x0)), some (z_i (x1)), some (z_i (x2)), some (z_i (x3))], [z_i (x3 + (1 : Int32)), z_i (x2 * (x0 - x3))], (true, X, I, J))) rfl ?_
    obtain ⟨g0, h2⟩ := h4
    refine z_ev_dvi (w1 := (x3 + (1 : Int32))) (c1 := (195, 18, [some (z_i (x0)), some (z_i (x1)), some (z_i (x2)), some (z_i (x3))], [z_i ((x2 * (x0 - x3)) / (x3 + (1 : Int32)))], (true, X, I, J))) rfl g0 ?_
    refine z_ev_gs 3 (c1 := (195, 4, [some (z_i (x0)), some (z_i (x1)), some (z_i ((x2 * (x0 - x3)) / (x3 + (1 : Int32)))), some (z_i (x3 + (1 : Int32)))], [], (true, X, I, J))) rfl ?_
    exact h2
theorem z_q132_e {d : Nat} {r : Option z_V × z_M} {X : z_X} {I : Nat → Nat → Nat → Int32} {J : Nat → Nat → Nat → Int64} (l0 : Int64) (l2 : Int64)
    (h : z_ev d (132, 9, [some (z_j (l0)), none, some (z_j (l2)), none, some (z_j (l0)), none, some (z_j (l2)), none, some (z_i 0), none, none], [], (true, X, I, J)) r) :
    z_ev d (z_en 132 [z_j (l0), z_j (l2)] (true, X, I, J)) r := by
  show z_ev d (132, 0, [some (z_j (l0)), none, some (z_j (l2)), none, none, none, none, none, none, none, none], [], (true, X, I, J)) r
  refine z_ev_gs 6 (c1 := (132, 9, [some (z_j (l0)), none, some (z_j (l2)), none, some (z_j (l0)), none, some (z_j (l2)), none, some (z_i 0), none, none], [], (true, X, I, J))) rfl ?_
  exact h
theorem z_q132_9 {d : Nat} {r : Option z_V × z_M} {X : z_X} {I : Nat → Nat → Nat → Int32} {J : Nat → Nat → Nat → Int64} (l0 : Int64) (l2 : Int64) (l4 : Int64) (l6 : Int64) (x8 : Int32) (o9 : Option z_V)
    (h : (((200 : Int32) ≤ x8 → r = (some (z_j (l4)), (true, X, I, J))) ∧ (x8 < (200 : Int32) → (((lg_cmp l6 (0 : Int64)) = 0 → r = (some (z_j (l4)), (true, X, I, J))) ∧ (¬ (lg_cmp l6 (0 : Int64)) = 0 → (¬ l6 = 0 ∧ z_ev d (132, 9, [some (z_j (l0)), none, some (z_j (l2)), none, some (z_j (l6)), none, some (z_j (l4 - l4 / l6 * l6)), none, some (z_i (x8 + (1 : Int32))), some (z_j (l4 - l4 / l6 * l6)), none], [], (true, X, I, J)) r)))))) :
    z_ev d ((132, 9, [some (z_j (l0)), none, some (z_j (l2)), none, some (z_j (l4)), none, some (z_j (l6)), none, some (z_i (x8)), o9, none], [], (true, X, I, J))) r := by
  refine z_ev_gs 3 (c1 := (132, (if (200 : Int32) ≤ x8 then 45 else 17), [some (z_j (l0)), none, some (z_j (l2)), none, some (z_j (l4)), none, some (z_j (l6)), none, some (z_i (x8)), o9, none], [], (true, X, I, J))) rfl ?_
  refine z_ev_ifle (fun e8 => ?_) (fun e8 => ?_)
  · have h13 := h.1 e8
    refine z_ev_gs 1 (c1 := (132, 47, [some (z_j (l0)), none, some (z_j (l2)), none, some (z_j (l4)), none, some (z_j (l6)), none, some (z_i (x8)), o9, none], [z_j (l4)], (true, X, I, J))) rfl ?_
    rw [h13]
    exact z_ev_rt rfl
  · have h14 := h.2 e8
    refine z_ev_gs 4 (c1 := (132, (if (lg_cmp l6 (0 : Int64)) = 0 then 45 else 24), [some (z_j (l0)), none, some (z_j (l2)), none, some (z_j (l4)), none, some (z_j (l6)), none, some (z_i (x8)), o9, none], [], (true, X, I, J))) rfl ?_
    refine z_ev_if (fun e9 => ?_) (fun e9 => ?_)
    · have h11 := h14.1 e9
      refine z_ev_gs 1 (c1 := (132, 47, [some (z_j (l0)), none, some (z_j (l2)), none, some (z_j (l4)), none, some (z_j (l6)), none, some (z_i (x8)), o9, none], [z_j (l4)], (true, X, I, J))) rfl ?_
      rw [h11]
      exact z_ev_rt rfl
    · have h12 := h14.2 e9
      refine z_ev_gs 2 (c1 := (132, 28, [some (z_j (l0)), none, some (z_j (l2)), none, some (z_j (l4)), none, some (z_j (l6)), none, some (z_i (x8)), o9, none], [z_j (l6), z_j (l4)], (true, X, I, J))) rfl ?_
      obtain ⟨g0, h10⟩ := h12
      refine z_ev_dvj (w1 := l6) (c1 := (132, 29, [some (z_j (l0)), none, some (z_j (l2)), none, some (z_j (l4)), none, some (z_j (l6)), none, some (z_i (x8)), o9, none], [z_j (l4 - l4 / l6 * l6)], (true, X, I, J))) rfl g0 ?_
      refine z_ev_gs 7 (c1 := (132, 9, [some (z_j (l0)), none, some (z_j (l2)), none, some (z_j (l6)), none, some (z_j (l4 - l4 / l6 * l6)), none, some (z_i (x8 + (1 : Int32))), some (z_j (l4 - l4 / l6 * l6)), none], [], (true, X, I, J))) rfl ?_
      exact h10
theorem z_q131_e {d : Nat} {r : Option z_V × z_M} {X : z_X} {I : Nat → Nat → Nat → Int32} {J : Nat → Nat → Nat → Int64} (l0 : Int64) (l2 : Int64) (x4 : Int32)
    (h : (∃ (v6 : Int64) (X1 : z_X) (I2 : Nat → Nat → Nat → Int32) (J3 : Nat → Nat → Nat → Int64), z_ev d (z_en 132 [z_j (if 0 < l0 then l0 else -l0), z_j (l2)] (true, X, I, J)) (some (z_j (v6)), (true, X1, I2, J3)) ∧ ((0 < (lg_cmp v6 (0 : Int64)) → ((¬ x4 = 0 → (¬ v6 = 0 ∧ r = (some (z_j (l2 / v6)), (true, X1, I2, J3)))) ∧ (x4 = 0 → (¬ v6 = 0 ∧ r = (some (z_j (l0 / v6)), (true, X1, I2, J3)))))) ∧ ((lg_cmp v6 (0 : Int64)) ≤ 0 → r = (some (z_j (-1000000000000)), (true, X1, I2, J3)))))) :
    z_ev (d + 1) (z_en 131 [z_j (l0), z_j (l2), z_i (x4)] (true, X, I, J)) r := by
  show z_ev (d + 1) (131, 0, [some (z_j (l0)), none, some (z_j (l2)), none, some (z_i (x4)), none, none], [], (true, X, I, J)) r
  refine z_ev_gs 1 (c1 := (131, 1, [some (z_j (l0)), none, some (z_j (l2)), none, some (z_i (x4)), none, none], [z_j (l0)], (true, X, I, J))) rfl ?_
  refine z_ev_st (c1 := (131, 4, [some (z_j (l0)), none, some (z_j (l2)), none, some (z_i (x4)), none, none], [z_j (if 0 < l0 then l0 else -l0)], (true, X, I, J))) rfl ?_
  refine z_ev_gs 1 (c1 := (131, 5, [some (z_j (l0)), none, some (z_j (l2)), none, some (z_i (x4)), none, none], [z_j (l2), z_j (if 0 < l0 then l0 else -l0)], (true, X, I, J))) rfl ?_
  obtain ⟨v6, X1, I2, J3, g4, h5⟩ := h
  refine z_ev_ca rfl rfl g4 ?_
  refine z_ev_gs 5 (c1 := (131, (if 0 < (lg_cmp v6 (0 : Int64)) then 21 else 17), [some (z_j (l0)), none, some (z_j (l2)), none, some (z_i (x4)), some (z_j (v6)), none], [], (true, X1, I2, J3))) rfl ?_
  refine z_ev_iflt (fun e7 => ?_) (fun e7 => ?_)
  · have h13 := h5.1 e7
    refine z_ev_gs 2 (c1 := (131, (if ¬ x4 = 0 then 33 else 26), [some (z_j (l0)), none, some (z_j (l2)), none, some (z_i (x4)), some (z_j (v6)), none], [], (true, X1, I2, J3))) rfl ?_
    refine z_ev_ifn (fun e8 => ?_) (fun e8 => ?_)
    · have h11 := h13.1 e8
      refine z_ev_gs 2 (c1 := (131, 36, [some (z_j (l0)), none, some (z_j (l2)), none, some (z_i (x4)), some (z_j (v6)), none], [z_j (v6), z_j (l2)], (true, X1, I2, J3))) rfl ?_
      obtain ⟨g0, h9⟩ := h11
      refine z_ev_dvj (w1 := v6) (c1 := (131, 37, [some (z_j (l0)), none, some (z_j (l2)), none, some (z_i (x4)), some (z_j (v6)), none], [z_j (l2 / v6)], (true, X1, I2, J3))) rfl g0 ?_
      rw [h9]
      exact z_ev_rt rfl
    · have h12 := h13.2 e8
      refine z_ev_gs 2 (c1 := (131, 29, [some (z_j (l0)), none, some (z_j (l2)), none, some (z_i (x4)), some (z_j (v6)), none], [z_j (v6), z_j (l0)], (true, X1, I2, J3))) rfl ?_
      obtain ⟨g0, h10⟩ := h12
      refine z_ev_dvj (w1 := v6) (c1 := (131, 30, [some (z_j (l0)), none, some (z_j (l2)), none, some (z_i (x4)), some (z_j (v6)), none], [z_j (l0 / v6)], (true, X1, I2, J3))) rfl g0 ?_
      refine z_ev_gs 1 (c1 := (131, 37, [some (z_j (l0)), none, some (z_j (l2)), none, some (z_i (x4)), some (z_j (v6)), none], [z_j (l0 / v6)], (true, X1, I2, J3))) rfl ?_
      rw [h10]
      exact z_ev_rt rfl
  · have h14 := h5.2 e7
    refine z_ev_gs 1 (c1 := (131, 20, [some (z_j (l0)), none, some (z_j (l2)), none, some (z_i (x4)), some (z_j (v6)), none], [z_j (-1000000000000)], (true, X1, I2, J3))) rfl ?_
    rw [h14]
    exact z_ev_rt rfl
theorem z_q198_e {d : Nat} {r : Option z_V × z_M} {X : z_X} {I : Nat → Nat → Nat → Int32} {J : Nat → Nat → Nat → Int64} (l1 : Int64) (l3 : Int64)
    (h : ((0 ≤ (lg_cmp l1 (0 : Int64)) → z_ev d (198, 17, [some (z_r 33 0), some (z_j (l1)), none, some (z_j (l3)), none, some (z_j (l1)), none, some (z_j (l3)), none, none, none], [], (true, X, I, J)) r) ∧ ((lg_cmp l1 (0 : Int64)) < 0 → z_ev d (198, 17, [some (z_r 33 0), some (z_j (l1)), none, some (z_j (l3)), none, some (z_j (-l1)), none, some (z_j (l3)), none, none, none], [], (true, X, I, J)) r))) :
    z_ev d (z_en 198 [z_r 33 0, z_j (l1), z_j (l3)] (true, X, I, J)) r := by
  show z_ev d (198, 0, [some (z_r 33 0), some (z_j (l1)), none, some (z_j (l3)), none, none, none, none, none, none, none], [], (true, X, I, J)) r
  refine z_ev_gs 4 (c1 := (198, (if 0 ≤ (lg_cmp l1 (0 : Int64)) then 11 else 6), [some (z_r 33 0), some (z_j (l1)), none, some (z_j (l3)), none, none, none, none, none, none, none], [], (true, X, I, J))) rfl ?_
  refine z_ev_ifle (fun e10 => ?_) (fun e10 => ?_)
  · have h11 := h.1 e10
    refine z_ev_gs 4 (c1 := (198, 17, [some (z_r 33 0), some (z_j (l1)), none, some (z_j (l3)), none, some (z_j (l1)), none, some (z_j (l3)), none, none, none], [], (true, X, I, J))) rfl ?_
    exact h11
  · have h12 := h.2 e10
    refine z_ev_gs 6 (c1 := (198, 17, [some (z_r 33 0), some (z_j (l1)), none, some (z_j (l3)), none, some (z_j (-l1)), none, some (z_j (l3)), none, none, none], [], (true, X, I, J))) rfl ?_
    exact h12
theorem z_q198_17 {d : Nat} {r : Option z_V × z_M} {X : z_X} {I : Nat → Nat → Nat → Int32} {J : Nat → Nat → Nat → Int64} (l1 : Int64) (l3 : Int64) (l5 : Int64) (l7 : Int64) (o9 : Option z_V)
    (h : (((lg_cmp l7 (0 : Int64)) = 0 → (¬ l5 = 0 ∧ (¬ l5 = 0 ∧ r = (none, (true, X, I, (z_up (z_up J 33 0 26 (l1 / l5)) 33 0 27 (l3 / l5))))))) ∧ (¬ (lg_cmp l7 (0 : Int64)) = 0 → (¬ l7 = 0 ∧ z_ev d (198, 17, [some (z_r 33 0), some (z_j (l1)), none, some (z_j (l3)), none, some (z_j (l7)), none, some (z_j (l5 - l5 / l7 * l7)), none, some (z_j (l5 - l5 / l7 * l7)), none], [], (true, X, I, J)) r)))) :
    z_ev d ((198, 17, [some (z_r 33 0), some (z_j (l1)), none, some (z_j (l3)), none, some (z_j (l5)), none, some (z_j (l7)), none, o9, none], [], (true, X, I, J))) r := by
  refine z_ev_gs 4 (c1 := (198, (if (lg_cmp l7 (0 : Int64)) = 0 then 42 else 24), [some (z_r 33 0), some (z_j (l1)), none, some (z_j (l3)), none, some (z_j (l5)), none, some (z_j (l7)), none, o9, none], [], (true, X, I, J))) rfl ?_
  refine z_ev_if (fun e13 => ?_) (fun e13 => ?_)
  · have h17 := h.1 e13
    refine z_ev_gs 3 (c1 := (198, 46, [some (z_r 33 0), some (z_j (l1)), none, some (z_j (l3)), none, some (z_j (l5)), none, some (z_j (l7)), none, o9, none], [z_j (l5), z_j (l1), z_r 33 0], (true, X, I, J))) rfl ?_
    obtain ⟨g0, h15⟩ := h17
    refine z_ev_dvj (w1 := l5) (c1 := (198, 47, [some (z_r 33 0), some (z_j (l1)), none, some (z_j (l3)), none, some (z_j (l5)), none, some (z_j (l7)), none, o9, none], [z_j (l1 / l5), z_r 33 0], (true, X, I, J))) rfl g0 ?_
    refine z_ev_gs 4 (c1 := (198, 54, [some (z_r 33 0), some (z_j (l1)), none, some (z_j (l3)), none, some (z_j (l5)), none, some (z_j (l7)), none, o9, none], [z_j (l5), z_j (l3), z_r 33 0], (true, X, I, (z_up J 33 0 26 (l1 / l5))))) rfl ?_
    obtain ⟨g0, h14⟩ := h15
    refine z_ev_dvj (w1 := l5) (c1 := (198, 55, [some (z_r 33 0), some (z_j (l1)), none, some (z_j (l3)), none, some (z_j (l5)), none, some (z_j (l7)), none, o9, none], [z_j (l3 / l5), z_r 33 0], (true, X, I, (z_up J 33 0 26 (l1 / l5))))) rfl g0 ?_
    refine z_ev_gs 1 (c1 := (198, 58, [some (z_r 33 0), some (z_j (l1)), none, some (z_j (l3)), none, some (z_j (l5)), none, some (z_j (l7)), none, o9, none], [], (true, X, I, (z_up (z_up J 33 0 26 (l1 / l5)) 33 0 27 (l3 / l5))))) rfl ?_
    rw [h14]
    exact z_ev_rt rfl
  · have h18 := h.2 e13
    refine z_ev_gs 2 (c1 := (198, 28, [some (z_r 33 0), some (z_j (l1)), none, some (z_j (l3)), none, some (z_j (l5)), none, some (z_j (l7)), none, o9, none], [z_j (l7), z_j (l5)], (true, X, I, J))) rfl ?_
    obtain ⟨g0, h16⟩ := h18
    refine z_ev_dvj (w1 := l7) (c1 := (198, 29, [some (z_r 33 0), some (z_j (l1)), none, some (z_j (l3)), none, some (z_j (l5)), none, some (z_j (l7)), none, o9, none], [z_j (l5 - l5 / l7 * l7)], (true, X, I, J))) rfl g0 ?_
    refine z_ev_gs 6 (c1 := (198, 17, [some (z_r 33 0), some (z_j (l1)), none, some (z_j (l3)), none, some (z_j (l7)), none, some (z_j (l5 - l5 / l7 * l7)), none, some (z_j (l5 - l5 / l7 * l7)), none], [], (true, X, I, J))) rfl ?_
    exact h16
theorem z_q199_e {d : Nat} {r : Option z_V × z_M} {X : z_X} {I : Nat → Nat → Nat → Int32} {J : Nat → Nat → Nat → Int64} (x1 : Int32)
    (h : ((¬ x1 = 0 → r = (some (z_j (J 33 0 27)), (true, X, I, J))) ∧ (x1 = 0 → r = (some (z_j (J 33 0 26)), (true, X, I, J))))) :
    z_ev d (z_en 199 [z_r 33 0, z_i (x1)] (true, X, I, J)) r := by
  show z_ev d (199, 0, [some (z_r 33 0), some (z_i (x1))], [], (true, X, I, J)) r
  refine z_ev_gs 2 (c1 := (199, (if ¬ x1 = 0 then 11 else 4), [some (z_r 33 0), some (z_i (x1))], [], (true, X, I, J))) rfl ?_
  refine z_ev_ifn (fun e1 => ?_) (fun e1 => ?_)
  · have h2 := h.1 e1
    refine z_ev_gs 2 (c1 := (199, 15, [some (z_r 33 0), some (z_i (x1))], [z_j (J 33 0 27)], (true, X, I, J))) rfl ?_
    rw [h2]
    exact z_ev_rt rfl
  · have h3 := h.2 e1
    refine z_ev_gs 3 (c1 := (199, 15, [some (z_r 33 0), some (z_i (x1))], [z_j (J 33 0 26)], (true, X, I, J))) rfl ?_
    rw [h3]
    exact z_ev_rt rfl
theorem z_q78_e {d : Nat} {r : Option z_V × z_M} {X : z_X} {I : Nat → Nat → Nat → Int32} {J : Nat → Nat → Nat → Int64} (x1 : Int32) (x2 : Int32) (x3 : Int32) (x4 : Int32)
    (h : (∃ (v6 : Int32) (X1 : z_X) (I2 : Nat → Nat → Nat → Int32) (J3 : Nat → Nat → Nat → Int64), z_ev (d + 15) (z_en 128 [z_i (x2), z_i (x3)] (true, X, I, J)) (some (z_i (v6)), (true, X1, I2, J3)) ∧ (((z_bw x1 0 3) = false → r = (some (z_i (-1)), (true, X1, I2, J3))) ∧ ((z_bw x1 0 3) = true → ((v6 < 0 → r = (some (z_i (-1)), (true, X1, I2, J3))) ∧ (0 ≤ v6 → (((z_bw x4 0 1) = true → (∃ k10 : Nat, x1 = Int32.ofNat k10 ∧ k10 < 4 ∧ ((x2 ≤ (I2 13 k10 1) → (∃ (X15 : z_X) (I16 : Nat → Nat → Nat → Int32) (J17 : Nat → Nat → Nat → Int64), z_ev (d + 15) (z_en 42 [z_r 24 0, z_r 13 k10, z_i (x2)] (true, X1, I2, J3)) (none, (true, X15, I16, J17)) ∧ (∃ k20 : Nat, v6 = Int32.ofNat k20 ∧ k20 < 11 ∧ (∃ (v29 : Int32) (X24 : z_X) (I25 : Nat → Nat → Nat → Int32) (J26 : Nat → Nat → Nat → Int64), z_ev (d + 15) (z_en 130 [z_i (I16 13 k10 1), z_i (x2)] (true, X15, I16, J17)) (some (z_i (v29)), (true, X24, I25, J26)) ∧ (∃ (v35 : Int64) (X30 : z_X) (I31 : Nat → Nat → Nat → Int32) (J32 : Nat → Nat → Nat → Int64), z_ev (d + 15) (z_en 131 [z_j ((I16 25 0 k20).toInt64), z_j (v29.toInt64), z_i (x4)] (true, X24, I25, J26)) (some (z_j (v35)), (true, X30, I31, J32)) ∧ r = (some (z_i (v35.toInt32)), (true, X30, I31, J32))))))) ∧ ((I2 13 k10 1) < x2 → r = (some (z_i (-3)), (true, X1, I2, J3)))))) ∧ ((z_bw x4 0 1) = false → r = (some (z_i (-1)), (true, X1, I2, J3)))))))))) :
    z_ev (d + 16) (z_en 78 [z_r 0 0, z_i (x1), z_i (x2), z_i (x3), z_i (x4)] (true, X, I, J)) r := by
  show z_ev (d + 16) (78, 0, [some (z_r 0 0), some (z_i (x1)), some (z_i (x2)), some (z_i (x3)), some (z_i (x4)), none, none], [], (true, X, I, J)) r
  refine z_ev_gs 2 (c1 := (78, 2, [some (z_r 0 0), some (z_i (x1)), some (z_i (x2)), some (z_i (x3)), some (z_i (x4)), none, none], [z_i (x3), z_i (x2)], (true, X, I, J))) rfl ?_
  obtain ⟨v6, X1, I2, J3, g4, h5⟩ := h
  refine z_ev_ca rfl rfl g4 ?_
  refine z_ev_gs 2 (c1 := (78, 8, [some (z_r 0 0), some (z_i (x1)), some (z_i (x2)), some (z_i (x3)), some (z_i (x4)), some (z_i (v6)), none], [z_i (x1)], (true, X1, I2, J3))) rfl ?_
  refine z_ev_ca rfl rfl (z_p118 _) ?_
  refine z_ev_gs 1 (c1 := (78, (if z_c (z_bw x1 0 3) = 0 then 27 else 14), [some (z_r 0 0), some (z_i (x1)), some (z_i (x2)), some (z_i (x3)), some (z_i (x4)), some (z_i (v6)), none], [], (true, X1, I2, J3))) rfl ?_
  refine z_ev_ifc (fun e7 => ?_) (fun e7 => ?_)
  · have h42 := h5.1 e7
    refine z_ev_gs 1 (c1 := (78, 28, [some (z_r 0 0), some (z_i (x1)), some (z_i (x2)), some (z_i (x3)), some (z_i (x4)), some (z_i (v6)), none], [z_i (-1)], (true, X1, I2, J3))) rfl ?_
    rw [h42]
    exact z_ev_rt rfl
  · have h43 := h5.2 e7
    refine z_ev_gs 2 (c1 := (78, (if v6 < 0 then 27 else 19), [some (z_r 0 0), some (z_i (x1)), some (z_i (x2)), some (z_i (x3)), some (z_i (x4)), some (z_i (v6)), none], [], (true, X1, I2, J3))) rfl ?_
    refine z_ev_iflt (fun e8 => ?_) (fun e8 => ?_)
    · have h40 := h43.1 e8
      refine z_ev_gs 1 (c1 := (78, 28, [some (z_r 0 0), some (z_i (x1)), some (z_i (x2)), some (z_i (x3)), some (z_i (x4)), some (z_i (v6)), none], [z_i (-1)], (true, X1, I2, J3))) rfl ?_
      rw [h40]
      exact z_ev_rt rfl
    · have h41 := h43.2 e8
      refine z_ev_gs 1 (c1 := (78, 21, [some (z_r 0 0), some (z_i (x1)), some (z_i (x2)), some (z_i (x3)), some (z_i (x4)), some (z_i (v6)), none], [z_i (x4)], (true, X1, I2, J3))) rfl ?_
      refine z_ev_ca rfl rfl (z_p121 _) ?_
      refine z_ev_gs 1 (c1 := (78, (if ¬ z_c (z_bw x4 0 1) = 0 then 29 else 27), [some (z_r 0 0), some (z_i (x1)), some (z_i (x2)), some (z_i (x3)), some (z_i (x4)), some (z_i (v6)), none], [], (true, X1, I2, J3))) rfl ?_
      refine z_ev_ifcn (fun e9 => ?_) (fun e9 => ?_)
      · have h38 := h41.1 e9
        refine z_ev_gs 4 (c1 := (78, 37, [some (z_r 0 0), some (z_i (x1)), some (z_i (x2)), some (z_i (x3)), some (z_i (x4)), some (z_i (v6)), none], [z_i (x1), z_r 2 0], (true, X1, I2, J3))) rfl ?_
        obtain ⟨k10, e11, e12, h13⟩ := h38
        refine z_ev_nt0 (k := k10) rfl e11 e12 ?_
        refine z_ev_gs 2 (c1 := (78, 42, [some (z_r 0 0), some (z_i (x1)), some (z_i (x2)), some (z_i (x3)), some (z_i (x4)), some (z_i (v6)), some (z_r 13 k10)], [z_r 13 k10], (true, X1, I2, J3))) rfl ?_
        refine z_ev_gi (c1 := (78, 45, [some (z_r 0 0), some (z_i (x1)), some (z_i (x2)), some (z_i (x3)), some (z_i (x4)), some (z_i (v6)), some (z_r 13 k10)], [z_i (I2 13 k10 1)], (true, X1, I2, J3))) rfl (z_lt40 e12) ?_
        refine z_ev_gs 2 (c1 := (78, (if x2 ≤ (I2 13 k10 1) then 52 else 49), [some (z_r 0 0), some (z_i (x1)), some (z_i (x2)), some (z_i (x3)), some (z_i (x4)), some (z_i (v6)), some (z_r 13 k10)], [], (true, X1, I2, J3))) rfl ?_
        refine z_ev_ifle (fun e14 => ?_) (fun e14 => ?_)
        · have h36 := h13.1 e14
          refine z_ev_gs 4 (c1 := (78, 59, [some (z_r 0 0), some (z_i (x1)), some (z_i (x2)), some (z_i (x3)), some (z_i (x4)), some (z_i (v6)), some (z_r 13 k10)], [z_i (x2), z_r 13 k10, z_r 24 0], (true, X1, I2, J3))) rfl ?_
          obtain ⟨X15, I16, J17, g18, h19⟩ := h36
          refine z_ev_ca rfl rfl g18 ?_
          refine z_ev_gs 4 (c1 := (78, 71, [some (z_r 0 0), some (z_i (x1)), some (z_i (x2)), some (z_i (x3)), some (z_i (x4)), some (z_i (v6)), some (z_r 13 k10)], [z_i (v6), z_r 25 0], (true, X15, I16, J17))) rfl ?_
          obtain ⟨k20, e21, e22, h23⟩ := h19
          refine z_ev_iald (t := 25) (i := 0) (k := k20) (n := 11) rfl rfl e21 e22 (by decide) ?_
          refine z_ev_gs 2 (c1 := (78, 75, [some (z_r 0 0), some (z_i (x1)), some (z_i (x2)), some (z_i (x3)), some (z_i (x4)), some (z_i (v6)), some (z_r 13 k10)], [z_r 13 k10, z_j ((I16 25 0 k20).toInt64)], (true, X15, I16, J17))) rfl ?_
          refine z_ev_gi (c1 := (78, 78, [some (z_r 0 0), some (z_i (x1)), some (z_i (x2)), some (z_i (x3)), some (z_i (x4)), some (z_i (v6)), some (z_r 13 k10)], [z_i (I16 13 k10 1), z_j ((I16 25 0 k20).toInt64)], (true, X15, I16, J17))) rfl (z_lt40 e12) ?_
          refine z_ev_gs 1 (c1 := (78, 79, [some (z_r 0 0), some (z_i (x1)), some (z_i (x2)), some (z_i (x3)), some (z_i (x4)), some (z_i (v6)), some (z_r 13 k10)], [z_i (x2), z_i (I16 13 k10 1), z_j ((I16 25 0 k20).toInt64)], (true, X15, I16, J17))) rfl ?_
          obtain ⟨v29, X24, I25, J26, g27, h28⟩ := h23
          refine z_ev_ca rfl rfl g27 ?_
          refine z_ev_gs 2 (c1 := (78, 85, [some (z_r 0 0), some (z_i (x1)), some (z_i (x2)), some (z_i (x3)), some (z_i (x4)), some (z_i (v6)), some (z_r 13 k10)], [z_i (x4), z_j (v29.toInt64), z_j ((I16 25 0 k20).toInt64)], (true, X24, I25, J26))) rfl ?_
          obtain ⟨v35, X30, I31, J32, g33, h34⟩ := h28
          refine z_ev_ca rfl rfl g33 ?_
          refine z_ev_gs 1 (c1 := (78, 89, [some (z_r 0 0), some (z_i (x1)), some (z_i (x2)), some (z_i (x3)), some (z_i (x4)), some (z_i (v6)), some (z_r 13 k10)], [z_i (v35.toInt32)], (true, X30, I31, J32))) rfl ?_
          rw [h34]
          exact z_ev_rt rfl
        · have h37 := h13.2 e14
          refine z_ev_gs 1 (c1 := (78, 51, [some (z_r 0 0), some (z_i (x1)), some (z_i (x2)), some (z_i (x3)), some (z_i (x4)), some (z_i (v6)), some (z_r 13 k10)], [z_i (-3)], (true, X1, I2, J3))) rfl ?_
          rw [h37]
          exact z_ev_rt rfl
      · have h39 := h41.2 e9
        refine z_ev_gs 1 (c1 := (78, 28, [some (z_r 0 0), some (z_i (x1)), some (z_i (x2)), some (z_i (x3)), some (z_i (x4)), some (z_i (v6)), none], [z_i (-1)], (true, X1, I2, J3))) rfl ?_
        rw [h39]
        exact z_ev_rt rfl
theorem z_q200_e {d : Nat} {r : Option z_V × z_M} {X : z_X} {I : Nat → Nat → Nat → Int32} {J : Nat → Nat → Nat → Int64} (x1 : Int32) (x2 : Int32) (x3 : Int32) (x4 : Int32)
    (h : (((z_bw x1 0 3) = false → r = (some (z_i (-1)), (true, X, I, J))) ∧ ((z_bw x1 0 3) = true → (∃ (b7 : Bool) (X2 : z_X) (I3 : Nat → Nat → Nat → Int32) (J4 : Nat → Nat → Nat → Int64), z_ev (d + 4) (z_en 166 [z_r 33 0, z_i (x2), z_i (x3)] (true, X, I, J)) (some (z_i (z_c b7)), (true, X2, I3, J4)) ∧ ((b7 = false → r = (some (z_i (-1)), (true, X2, I3, J4))) ∧ (b7 = true → (((z_bw x4 0 1) = true → (∃ k10 : Nat, x1 = Int32.ofNat k10 ∧ k10 < 4 ∧ ((x2 ≤ (I3 34 0 k10) → (∃ (v20 : Int32) (X15 : z_X) (I16 : Nat → Nat → Nat → Int32) (J17 : Nat → Nat → Nat → Int64), z_ev (d + 4) (z_en 196 [z_r 33 0, z_i (x1), z_i (x2), z_i (x3)] (true, X2, I3, J4)) (some (z_i (v20)), (true, X15, I16, J17)) ∧ (∃ (v26 : Int32) (X21 : z_X) (I22 : Nat → Nat → Nat → Int32) (J23 : Nat → Nat → Nat → Int64), z_ev (d + 4) (z_en 195 [z_i (I16 34 0 k10), z_i (x2)] (true, X15, I16, J17)) (some (z_i (v26)), (true, X21, I22, J23)) ∧ (∃ (X27 : z_X) (I28 : Nat → Nat → Nat → Int32) (J29 : Nat → Nat → Nat → Int64), z_ev (d + 4) (z_en 198 [z_r 33 0, z_j (v20.toInt64), z_j (v26.toInt64)] (true, X21, I22, J23)) (none, (true, X27, I28, J29)) ∧ (∃ (v37 : Int64) (X32 : z_X) (I33 : Nat → Nat → Nat → Int32) (J34 : Nat → Nat → Nat → Int64), z_ev (d + 4) (z_en 199 [z_r 33 0, z_i (x4)] (true, X27, I28, J29)) (some (z_j (v37)), (true, X32, I33, J34)) ∧ r = (some (z_i (v37.toInt32)), (true, X32, I33, J34))))))) ∧ ((I3 34 0 k10) < x2 → r = (some (z_i (-3)), (true, X2, I3, J4)))))) ∧ ((z_bw x4 0 1) = false → r = (some (z_i (-1)), (true, X2, I3, J4)))))))))) :
    z_ev (d + 5) (z_en 200 [z_r 33 0, z_i (x1), z_i (x2), z_i (x3), z_i (x4)] (true, X, I, J)) r := by
  show z_ev (d + 5) (200, 0, [some (z_r 33 0), some (z_i (x1)), some (z_i (x2)), some (z_i (x3)), some (z_i (x4))], [], (true, X, I, J)) r
  refine z_ev_gs 1 (c1 := (200, 1, [some (z_r 33 0), some (z_i (x1)), some (z_i (x2)), some (z_i (x3)), some (z_i (x4))], [z_i (x1)], (true, X, I, J))) rfl ?_
  refine z_ev_ca rfl rfl (z_p162 _) ?_
  refine z_ev_gs 1 (c1 := (200, (if z_c (z_bw x1 0 3) = 0 then 24 else 7), [some (z_r 33 0), some (z_i (x1)), some (z_i (x2)), some (z_i (x3)), some (z_i (x4))], [], (true, X, I, J))) rfl ?_
  refine z_ev_ifc (fun e1 => ?_) (fun e1 => ?_)
  · have h44 := h.1 e1
    refine z_ev_gs 1 (c1 := (200, 25, [some (z_r 33 0), some (z_i (x1)), some (z_i (x2)), some (z_i (x3)), some (z_i (x4))], [z_i (-1)], (true, X, I, J))) rfl ?_
    rw [h44]
    exact z_ev_rt rfl
  · have h45 := h.2 e1
    refine z_ev_gs 3 (c1 := (200, 10, [some (z_r 33 0), some (z_i (x1)), some (z_i (x2)), some (z_i (x3)), some (z_i (x4))], [z_i (x3), z_i (x2), z_r 33 0], (true, X, I, J))) rfl ?_
    obtain ⟨b7, X2, I3, J4, g5, h6⟩ := h45
    refine z_ev_ca rfl rfl g5 ?_
    refine z_ev_gs 1 (c1 := (200, (if z_c b7 = 0 then 24 else 16), [some (z_r 33 0), some (z_i (x1)), some (z_i (x2)), some (z_i (x3)), some (z_i (x4))], [], (true, X2, I3, J4))) rfl ?_
    refine z_ev_ifc (fun e8 => ?_) (fun e8 => ?_)
    · have h42 := h6.1 e8
      refine z_ev_gs 1 (c1 := (200, 25, [some (z_r 33 0), some (z_i (x1)), some (z_i (x2)), some (z_i (x3)), some (z_i (x4))], [z_i (-1)], (true, X2, I3, J4))) rfl ?_
      rw [h42]
      exact z_ev_rt rfl
    · have h43 := h6.2 e8
      refine z_ev_gs 1 (c1 := (200, 18, [some (z_r 33 0), some (z_i (x1)), some (z_i (x2)), some (z_i (x3)), some (z_i (x4))], [z_i (x4)], (true, X2, I3, J4))) rfl ?_
      refine z_ev_ca rfl rfl (z_p163 _) ?_
      refine z_ev_gs 1 (c1 := (200, (if ¬ z_c (z_bw x4 0 1) = 0 then 26 else 24), [some (z_r 33 0), some (z_i (x1)), some (z_i (x2)), some (z_i (x3)), some (z_i (x4))], [], (true, X2, I3, J4))) rfl ?_
      refine z_ev_ifcn (fun e9 => ?_) (fun e9 => ?_)
      · have h40 := h43.1 e9
        refine z_ev_gs 3 (c1 := (200, 31, [some (z_r 33 0), some (z_i (x1)), some (z_i (x2)), some (z_i (x3)), some (z_i (x4))], [z_i (x1), z_r 34 0], (true, X2, I3, J4))) rfl ?_
        obtain ⟨k10, e11, e12, h13⟩ := h40
        refine z_ev_iald (t := 34) (i := 0) (k := k10) (n := 4) rfl rfl e11 e12 (by decide) ?_
        refine z_ev_gs 2 (c1 := (200, (if x2 ≤ (I3 34 0 k10) then 39 else 36), [some (z_r 33 0), some (z_i (x1)), some (z_i (x2)), some (z_i (x3)), some (z_i (x4))], [], (true, X2, I3, J4))) rfl ?_
        refine z_ev_ifle (fun e14 => ?_) (fun e14 => ?_)
        · have h38 := h13.1 e14
          refine z_ev_gs 5 (c1 := (200, 44, [some (z_r 33 0), some (z_i (x1)), some (z_i (x2)), some (z_i (x3)), some (z_i (x4))], [z_i (x3), z_i (x2), z_i (x1), z_r 33 0, z_r 33 0], (true, X2, I3, J4))) rfl ?_
          obtain ⟨v20, X15, I16, J17, g18, h19⟩ := h38
          refine z_ev_ca rfl rfl g18 ?_
          refine z_ev_gs 4 (c1 := (200, 53, [some (z_r 33 0), some (z_i (x1)), some (z_i (x2)), some (z_i (x3)), some (z_i (x4))], [z_i (x1), z_r 34 0, z_j (v20.toInt64), z_r 33 0], (true, X15, I16, J17))) rfl ?_
          refine z_ev_iald (t := 34) (i := 0) (k := k10) (n := 4) rfl rfl e11 (Nat.lt_of_lt_of_le e12 (by decide)) (by decide) ?_
          refine z_ev_gs 1 (c1 := (200, 55, [some (z_r 33 0), some (z_i (x1)), some (z_i (x2)), some (z_i (x3)), some (z_i (x4))], [z_i (x2), z_i (I16 34 0 k10), z_j (v20.toInt64), z_r 33 0], (true, X15, I16, J17))) rfl ?_
          obtain ⟨v26, X21, I22, J23, g24, h25⟩ := h19
          refine z_ev_ca rfl rfl g24 ?_
          refine z_ev_gs 1 (c1 := (200, 59, [some (z_r 33 0), some (z_i (x1)), some (z_i (x2)), some (z_i (x3)), some (z_i (x4))], [z_j (v26.toInt64), z_j (v20.toInt64), z_r 33 0], (true, X21, I22, J23))) rfl ?_
          obtain ⟨X27, I28, J29, g30, h31⟩ := h25
          refine z_ev_ca rfl rfl g30 ?_
          refine z_ev_gs 2 (c1 := (200, 65, [some (z_r 33 0), some (z_i (x1)), some (z_i (x2)), some (z_i (x3)), some (z_i (x4))], [z_i (x4), z_r 33 0], (true, X27, I28, J29))) rfl ?_
          obtain ⟨v37, X32, I33, J34, g35, h36⟩ := h31
          refine z_ev_ca rfl rfl g35 ?_
          refine z_ev_gs 1 (c1 := (200, 69, [some (z_r 33 0), some (z_i (x1)), some (z_i (x2)), some (z_i (x3)), some (z_i (x4))], [z_i (v37.toInt32)], (true, X32, I33, J34))) rfl ?_
          rw [h36]
          exact z_ev_rt rfl
        · have h39 := h13.2 e14
          refine z_ev_gs 1 (c1 := (200, 38, [some (z_r 33 0), some (z_i (x1)), some (z_i (x2)), some (z_i (x3)), some (z_i (x4))], [z_i (-3)], (true, X2, I3, J4))) rfl ?_
          rw [h39]
          exact z_ev_rt rfl
      · have h41 := h43.2 e9
        refine z_ev_gs 1 (c1 := (200, 25, [some (z_r 33 0), some (z_i (x1)), some (z_i (x2)), some (z_i (x3)), some (z_i (x4))], [z_i (-1)], (true, X2, I3, J4))) rfl ?_
        rw [h41]
        exact z_ev_rt rfl
theorem z_q21_e {d : Nat} {r : Option z_V × z_M} {X : z_X} {I : Nat → Nat → Nat → Int32} {J : Nat → Nat → Nat → Int64} (q0 : Nat) (hq0 : q0 < 10) (x1 : Int32) (x2 : Int32)
    (h : (∃ (X1 : z_X) (I2 : Nat → Nat → Nat → Int32) (J3 : Nat → Nat → Nat → Int64), z_ev d (z_en 19 [z_r 13 q0, z_i (x1)] (true, X, I, J)) (none, (true, X1, I2, J3)) ∧ z_ev (d + 1) (21, 7, [some (z_r 13 q0), some (z_i (x1)), some (z_i (x2)), some (z_i 0)], [], (true, X1, I2, J3)) r)) :
    z_ev (d + 1) (z_en 21 [z_r 13 q0, z_i (x1), z_i (x2)] (true, X, I, J)) r := by
  show z_ev (d + 1) (21, 0, [some (z_r 13 q0), some (z_i (x1)), some (z_i (x2)), none], [], (true, X, I, J)) r
  refine z_ev_gs 2 (c1 := (21, 2, [some (z_r 13 q0), some (z_i (x1)), some (z_i (x2)), none], [z_i (x1), z_r 13 q0], (true, X, I, J))) rfl ?_
  obtain ⟨X1, I2, J3, g4, h5⟩ := h
  refine z_ev_cg rfl hq0 rfl g4 ?_
  refine z_ev_gs 2 (c1 := (21, 7, [some (z_r 13 q0), some (z_i (x1)), some (z_i (x2)), some (z_i 0)], [], (true, X1, I2, J3))) rfl ?_
  exact h5
theorem z_q21_7 {d : Nat} {r : Option z_V × z_M} {X : z_X} {I : Nat → Nat → Nat → Int32} {J : Nat → Nat → Nat → Int64} (q0 : Nat) (hq0 : q0 < 10) (x1 : Int32) (x2 : Int32) (x3 : Int32)
    (h : (((z_pr x1) ≤ x3 → r = (none, (true, X, I, J))) ∧ (x3 < (z_pr x1) → (((6 : Int32) ≤ x3 → r = (none, (true, X, I, J))) ∧ (x3 < (6 : Int32) → ((((x2 >>> (x3 &&& 31)) &&& (1 : Int32)) = 0 → z_ev (d + 1) (21, 7, [some (z_r 13 q0), some (z_i (x1)), some (z_i (x2)), some (z_i (x3 + (1 : Int32)))], [], (true, X, I, J)) r) ∧ (¬ ((x2 >>> (x3 &&& 31)) &&& (1 : Int32)) = 0 → (∃ k9 : Nat, x3 = Int32.ofNat k9 ∧ k9 < 6 ∧ (∃ (X13 : z_X) (I14 : Nat → Nat → Nat → Int32) (J15 : Nat → Nat → Nat → Int64), z_ev d (z_en 23 [z_r 13 q0, z_i ((z_stc.getD 2 []).getD k9 0), z_i ((z_stc.getD 3 []).getD k9 0), z_i 1] (true, X, I, J)) (none, (true, X13, I14, J15)) ∧ z_ev (d + 1) (21, 7, [some (z_r 13 q0), some (z_i (x1)), some (z_i (x2)), some (z_i (x3 + (1 : Int32)))], [], (true, X13, I14, J15)) r))))))))) :
    z_ev (d + 1) ((21, 7, [some (z_r 13 q0), some (z_i (x1)), some (z_i (x2)), some (z_i (x3))], [], (true, X, I, J))) r := by
  refine z_ev_gs 2 (c1 := (21, 9, [some (z_r 13 q0), some (z_i (x1)), some (z_i (x2)), some (z_i (x3))], [z_i (x1), z_i (x3)], (true, X, I, J))) rfl ?_
  refine z_ev_ca rfl rfl (z_p126 _) ?_
  refine z_ev_gs 1 (c1 := (21, (if (z_pr x1) ≤ x3 then 52 else 15), [some (z_r 13 q0), some (z_i (x1)), some (z_i (x2)), some (z_i (x3))], [], (true, X, I, J))) rfl ?_
  refine z_ev_ifle (fun e6 => ?_) (fun e6 => ?_)
  · have h22 := h.1 e6
    rw [h22]
    exact z_ev_rt rfl
  · have h23 := h.2 e6
    refine z_ev_gs 4 (c1 := (21, (if (6 : Int32) ≤ x3 then 52 else 23), [some (z_r 13 q0), some (z_i (x1)), some (z_i (x2)), some (z_i (x3))], [], (true, X, I, J))) rfl ?_
    refine z_ev_ifle (fun e7 => ?_) (fun e7 => ?_)
    · have h20 := h23.1 e7
      rw [h20]
      exact z_ev_rt rfl
    · have h21 := h23.2 e7
      refine z_ev_gs 6 (c1 := (21, (if ((x2 >>> (x3 &&& 31)) &&& (1 : Int32)) = 0 then 46 else 31), [some (z_r 13 q0), some (z_i (x1)), some (z_i (x2)), some (z_i (x3))], [], (true, X, I, J))) rfl ?_
      refine z_ev_if (fun e8 => ?_) (fun e8 => ?_)
      · have h18 := h21.1 e8
        refine z_ev_gs 2 (c1 := (21, 7, [some (z_r 13 q0), some (z_i (x1)), some (z_i (x2)), some (z_i (x3 + (1 : Int32)))], [], (true, X, I, J))) rfl ?_
        exact h18
      · have h19 := h21.2 e8
        refine z_ev_gs 3 (c1 := (21, 36, [some (z_r 13 q0), some (z_i (x1)), some (z_i (x2)), some (z_i (x3))], [z_i (x3), z_r 66 2, z_r 13 q0], (true, X, I, J))) rfl ?_
        obtain ⟨k9, e10, e11, h12⟩ := h19
        refine z_ev_sld (k := k9) (n := 6) rfl e10 e11 (by decide) ?_
        refine z_ev_gs 2 (c1 := (21, 41, [some (z_r 13 q0), some (z_i (x1)), some (z_i (x2)), some (z_i (x3))], [z_i (x3), z_r 66 3, z_i ((z_stc.getD 2 []).getD k9 0), z_r 13 q0], (true, X, I, J))) rfl ?_
        refine z_ev_sld (k := k9) (n := 6) rfl e10 (Nat.lt_of_lt_of_le e11 (by decide)) (by decide) ?_
        refine z_ev_gs 1 (c1 := (21, 43, [some (z_r 13 q0), some (z_i (x1)), some (z_i (x2)), some (z_i (x3))], [z_i 1, z_i ((z_stc.getD 3 []).getD k9 0), z_i ((z_stc.getD 2 []).getD k9 0), z_r 13 q0], (true, X, I, J))) rfl ?_
        obtain ⟨X13, I14, J15, g16, h17⟩ := h12
        refine z_ev_cg rfl hq0 rfl g16 ?_
        refine z_ev_gs 2 (c1 := (21, 7, [some (z_r 13 q0), some (z_i (x1)), some (z_i (x2)), some (z_i (x3 + (1 : Int32)))], [], (true, X13, I14, J15))) rfl ?_
        exact h17
theorem z_q140_e {d : Nat} {r : Option z_V × z_M} {X : z_X} {I : Nat → Nat → Nat → Int32} {J : Nat → Nat → Nat → Int64} (x1 : Int32) (x2 : Int32) (x3 : Int32) (x4 : Int32)
    (h : (∃ k1 : Nat, x4 = Int32.ofNat k1 ∧ k1 < 11 ∧ (∃ (X5 : z_X) (I6 : Nat → Nat → Nat → Int32) (J7 : Nat → Nat → Nat → Int64), z_ev (d + 15) (z_en 21 [z_r 13 9, z_i (x3), z_i ((z_stc.getD 0 []).getD k1 0)] (true, X, I, J)) (none, (true, X5, I6, J7)) ∧ (∃ (X10 : z_X) (I11 : Nat → Nat → Nat → Int32) (J12 : Nat → Nat → Nat → Int64), z_ev (d + 15) (z_en 42 [z_r 24 1, z_r 13 9, z_i (x1)] (true, X5, I6, J7)) (none, (true, X10, I11, J12)) ∧ (∃ k15 : Nat, x2 = Int32.ofNat k15 ∧ k15 < 11 ∧ r = (some (z_i (I11 25 1 k15)), (true, X10, I11, J12))))))) :
    z_ev (d + 16) (z_en 140 [z_r 0 0, z_i (x1), z_i (x2), z_i (x3), z_i (x4)] (true, X, I, J)) r := by
  show z_ev (d + 16) (140, 0, [some (z_r 0 0), some (z_i (x1)), some (z_i (x2)), some (z_i (x3)), some (z_i (x4))], [], (true, X, I, J)) r
  refine z_ev_gs 5 (c1 := (140, 10, [some (z_r 0 0), some (z_i (x1)), some (z_i (x2)), some (z_i (x3)), some (z_i (x4))], [z_i (x4), z_r 66 0, z_i (x3), z_r 13 9], (true, X, I, J))) rfl ?_
  obtain ⟨k1, e2, e3, h4⟩ := h
  refine z_ev_sld (k := k1) (n := 11) rfl e2 e3 (by decide) ?_
  obtain ⟨X5, I6, J7, g8, h9⟩ := h4
  refine z_ev_ca rfl rfl g8 ?_
  refine z_ev_gs 5 (c1 := (140, 23, [some (z_r 0 0), some (z_i (x1)), some (z_i (x2)), some (z_i (x3)), some (z_i (x4))], [z_i (x1), z_r 13 9, z_r 24 1], (true, X5, I6, J7))) rfl ?_
  obtain ⟨X10, I11, J12, g13, h14⟩ := h9
  refine z_ev_ca rfl rfl g13 ?_
  refine z_ev_gs 4 (c1 := (140, 34, [some (z_r 0 0), some (z_i (x1)), some (z_i (x2)), some (z_i (x3)), some (z_i (x4))], [z_i (x2), z_r 25 1], (true, X10, I11, J12))) rfl ?_
  obtain ⟨k15, e16, e17, h18⟩ := h14
  refine z_ev_iald (t := 25) (i := 1) (k := k15) (n := 11) rfl rfl e16 e17 (by decide) ?_
  rw [h18]
  exact z_ev_rt rfl
theorem z_q201_e {d : Nat} {r : Option z_V × z_M} {X : z_X} {I : Nat → Nat → Nat → Int32} {J : Nat → Nat → Nat → Int64} (x1 : Int32) (x2 : Int32)
    (h : z_ev (d + 2) (201, 2, [some (z_r 33 0), some (z_i (x1)), some (z_i (x2)), some (z_i 0), none], [], (true, X, I, J)) r) :
    z_ev (d + 2) (z_en 201 [z_r 33 0, z_i (x1), z_i (x2)] (true, X, I, J)) r := by
  show z_ev (d + 2) (201, 0, [some (z_r 33 0), some (z_i (x1)), some (z_i (x2)), none, none], [], (true, X, I, J)) r
  refine z_ev_gs 2 (c1 := (201, 2, [some (z_r 33 0), some (z_i (x1)), some (z_i (x2)), some (z_i 0), none], [], (true, X, I, J))) rfl ?_
  exact h
theorem z_q201_2 {d : Nat} {r : Option z_V × z_M} {X : z_X} {I : Nat → Nat → Nat → Int32} {J : Nat → Nat → Nat → Int64} (x1 : Int32) (x2 : Int32) (x3 : Int32)
    (h : (((5 : Int32) ≤ x3 → z_ev (d + 2) (201, 22, [some (z_r 33 0), some (z_i (x1)), some (z_i (x2)), some (z_i 1), none], [], (true, X, I, J)) r) ∧ (x3 < (5 : Int32) → (∃ k26 : Nat, x3 = Int32.ofNat k26 ∧ k26 < 5 ∧ z_ev (d + 2) (201, 2, [some (z_r 33 0), some (z_i (x1)), some (z_i (x2)), some (z_i (x3 + (1 : Int32))), none], [], (true, X, (z_up I 47 0 k26 (0 : Int32)), J)) r)))) :
    z_ev (d + 2) ((201, 2, [some (z_r 33 0), some (z_i (x1)), some (z_i (x2)), some (z_i (x3)), none], [], (true, X, I, J))) r := by
  refine z_ev_gs 3 (c1 := (201, (if (5 : Int32) ≤ x3 then 20 else 7), [some (z_r 33 0), some (z_i (x1)), some (z_i (x2)), some (z_i (x3)), none], [], (true, X, I, J))) rfl ?_
  refine z_ev_ifle (fun e25 => ?_) (fun e25 => ?_)
  · have h30 := h.1 e25
    refine z_ev_gs 2 (c1 := (201, 22, [some (z_r 33 0), some (z_i (x1)), some (z_i (x2)), some (z_i 1), none], [], (true, X, I, J))) rfl ?_
    exact h30
  · have h31 := h.2 e25
    refine z_ev_gs 4 (c1 := (201, 13, [some (z_r 33 0), some (z_i (x1)), some (z_i (x2)), some (z_i (x3)), none], [z_i 0, z_i (x3), z_r 47 0], (true, X, I, J))) rfl ?_
    obtain ⟨k26, e27, e28, h29⟩ := h31
    refine z_ev_iast (t := 47) (i := 0) (k := k26) (n := 5) rfl rfl e27 e28 (by decide) ?_
    refine z_ev_gs 2 (c1 := (201, 2, [some (z_r 33 0), some (z_i (x1)), some (z_i (x2)), some (z_i (x3 + (1 : Int32))), none], [], (true, X, (z_up I 47 0 k26 (0 : Int32)), J))) rfl ?_
    exact h29
theorem z_q201_22 {d : Nat} {r : Option z_V × z_M} {X : z_X} {I : Nat → Nat → Nat → Int32} {J : Nat → Nat → Nat → Int64} (x1 : Int32) (x2 : Int32) (x3 : Int32) (o4 : Option z_V)
    (h : ((x1 ≤ x3 → r = (none, (true, X, I, J))) ∧ (x3 < x1 → z_ev (d + 2) (201, 30, [some (z_r 33 0), some (z_i (x1)), some (z_i (x2)), some (z_i (x3)), some (z_i 0)], [], (true, X, I, J)) r))) :
    z_ev (d + 2) ((201, 22, [some (z_r 33 0), some (z_i (x1)), some (z_i (x2)), some (z_i (x3)), o4], [], (true, X, I, J))) r := by
  refine z_ev_gs 3 (c1 := (201, (if x1 ≤ x3 then 88 else 27), [some (z_r 33 0), some (z_i (x1)), some (z_i (x2)), some (z_i (x3)), o4], [], (true, X, I, J))) rfl ?_
  refine z_ev_ifle (fun e32 => ?_) (fun e32 => ?_)
  · have h33 := h.1 e32
    rw [h33]
    exact z_ev_rt rfl
  · have h34 := h.2 e32
    refine z_ev_gs 2 (c1 := (201, 30, [some (z_r 33 0), some (z_i (x1)), some (z_i (x2)), some (z_i (x3)), some (z_i 0)], [], (true, X, I, J))) rfl ?_
    exact h34
theorem z_q201_30 {d : Nat} {r : Option z_V × z_M} {X : z_X} {I : Nat → Nat → Nat → Int32} {J : Nat → Nat → Nat → Int64} (x1 : Int32) (x2 : Int32) (x3 : Int32) (x4 : Int32)
    (h : ((x3 ≤ x4 → z_ev (d + 2) (201, 22, [some (z_r 33 0), some (z_i (x1)), some (z_i (x2)), some (z_i (x3 + (1 : Int32))), some (z_i (x4))], [], (true, X, I, J)) r) ∧ (x4 < x3 → ((¬ ((x2 >>> ((z_bo x4 x3) &&& 31)) &&& (1 : Int32)) = (1 : Int32) → z_ev (d + 2) (201, 30, [some (z_r 33 0), some (z_i (x1)), some (z_i (x2)), some (z_i (x3)), some (z_i (x4 + (1 : Int32)))], [], (true, X, I, J)) r) ∧ (((x2 >>> ((z_bo x4 x3) &&& 31)) &&& (1 : Int32)) = (1 : Int32) → (∃ k37 : Nat, x4 = Int32.ofNat k37 ∧ k37 < 5 ∧ (∃ k41 : Nat, x3 = Int32.ofNat k41 ∧ k41 < 5 ∧ z_ev (d + 2) (201, 30, [some (z_r 33 0), some (z_i (x1)), some (z_i (x2)), some (z_i (x3)), some (z_i (x4 + (1 : Int32)))], [], (true, X, (z_up (z_up I 47 0 k37 ((I 47 0 k37) ||| ((1 : Int32) <<< (x3 &&& 31)))) 47 0 k41 (((z_up I 47 0 k37 ((I 47 0 k37) ||| ((1 : Int32) <<< (x3 &&& 31)))) 47 0 k41) ||| ((1 : Int32) <<< (x4 &&& 31)))), J)) r))))))) :
    z_ev (d + 2) ((201, 30, [some (z_r 33 0), some (z_i (x1)), some (z_i (x2)), some (z_i (x3)), some (z_i (x4))], [], (true, X, I, J))) r := by
  refine z_ev_gs 3 (c1 := (201, (if x3 ≤ x4 then 82 else 36), [some (z_r 33 0), some (z_i (x1)), some (z_i (x2)), some (z_i (x3)), some (z_i (x4))], [], (true, X, I, J))) rfl ?_
  refine z_ev_ifle (fun e35 => ?_) (fun e35 => ?_)
  · have h47 := h.1 e35
    refine z_ev_gs 2 (c1 := (201, 22, [some (z_r 33 0), some (z_i (x1)), some (z_i (x2)), some (z_i (x3 + (1 : Int32))), some (z_i (x4))], [], (true, X, I, J))) rfl ?_
    exact h47
  · have h48 := h.2 e35
    refine z_ev_gs 3 (c1 := (201, 40, [some (z_r 33 0), some (z_i (x1)), some (z_i (x2)), some (z_i (x3)), some (z_i (x4))], [z_i (x3), z_i (x4), z_i (x2)], (true, X, I, J))) rfl ?_
    refine z_ev_ca rfl rfl (z_p160 _ _) ?_
    refine z_ev_gs 5 (c1 := (201, (if ¬ ((x2 >>> ((z_bo x4 x3) &&& 31)) &&& (1 : Int32)) = (1 : Int32) then 76 else 50), [some (z_r 33 0), some (z_i (x1)), some (z_i (x2)), some (z_i (x3)), some (z_i (x4))], [], (true, X, I, J))) rfl ?_
    refine z_ev_ifn (fun e36 => ?_) (fun e36 => ?_)
    · have h45 := h48.1 e36
      refine z_ev_gs 2 (c1 := (201, 30, [some (z_r 33 0), some (z_i (x1)), some (z_i (x2)), some (z_i (x3)), some (z_i (x4 + (1 : Int32)))], [], (true, X, I, J))) rfl ?_
      exact h45
    · have h46 := h48.2 e36
      refine z_ev_gs 4 (c1 := (201, 57, [some (z_r 33 0), some (z_i (x1)), some (z_i (x2)), some (z_i (x3)), some (z_i (x4))], [z_i (x4), z_r 47 0, z_i (x4), z_r 47 0], (true, X, I, J))) rfl ?_
      obtain ⟨k37, e38, e39, h40⟩ := h46
      refine z_ev_iald (t := 47) (i := 0) (k := k37) (n := 5) rfl rfl e38 e39 (by decide) ?_
      refine z_ev_gs 4 (c1 := (201, 62, [some (z_r 33 0), some (z_i (x1)), some (z_i (x2)), some (z_i (x3)), some (z_i (x4))], [z_i ((I 47 0 k37) ||| ((1 : Int32) <<< (x3 &&& 31))), z_i (x4), z_r 47 0], (true, X, I, J))) rfl ?_
      refine z_ev_iast (t := 47) (i := 0) (k := k37) (n := 5) rfl rfl e38 (Nat.lt_of_lt_of_le e39 (by decide)) (by decide) ?_
      refine z_ev_gs 4 (c1 := (201, 69, [some (z_r 33 0), some (z_i (x1)), some (z_i (x2)), some (z_i (x3)), some (z_i (x4))], [z_i (x3), z_r 47 0, z_i (x3), z_r 47 0], (true, X, (z_up I 47 0 k37 ((I 47 0 k37) ||| ((1 : Int32) <<< (x3 &&& 31)))), J))) rfl ?_
      obtain ⟨k41, e42, e43, h44⟩ := h40
      refine z_ev_iald (t := 47) (i := 0) (k := k41) (n := 5) rfl rfl e42 e43 (by decide) ?_
      refine z_ev_gs 4 (c1 := (201, 75, [some (z_r 33 0), some (z_i (x1)), some (z_i (x2)), some (z_i (x3)), some (z_i (x4))], [z_i (((z_up I 47 0 k37 ((I 47 0 k37) ||| ((1 : Int32) <<< (x3 &&& 31)))) 47 0 k41) ||| ((1 : Int32) <<< (x4 &&& 31))), z_i (x3), z_r 47 0], (true, X, (z_up I 47 0 k37 ((I 47 0 k37) ||| ((1 : Int32) <<< (x3 &&& 31)))), J))) rfl ?_
      refine z_ev_iast (t := 47) (i := 0) (k := k41) (n := 5) rfl rfl e42 (Nat.lt_of_lt_of_le e43 (by decide)) (by decide) ?_
      refine z_ev_gs 2 (c1 := (201, 30, [some (z_r 33 0), some (z_i (x1)), some (z_i (x2)), some (z_i (x3)), some (z_i (x4 + (1 : Int32)))], [], (true, X, (z_up (z_up I 47 0 k37 ((I 47 0 k37) ||| ((1 : Int32) <<< (x3 &&& 31)))) 47 0 k41 (((z_up I 47 0 k37 ((I 47 0 k37) ||| ((1 : Int32) <<< (x3 &&& 31)))) 47 0 k41) ||| ((1 : Int32) <<< (x4 &&& 31)))), J))) rfl ?_
      exact h44
theorem z_q202_e {d : Nat} {r : Option z_V × z_M} {X : z_X} {I : Nat → Nat → Nat → Int32} {J : Nat → Nat → Nat → Int64} (x1 : Int32) (x2 : Int32) (x3 : Int32) (x4 : Int32)
    (h : (∃ (X1 : z_X) (I2 : Nat → Nat → Nat → Int32) (J3 : Nat → Nat → Nat → Int64), z_ev (d + 3) (z_en 201 [z_r 33 0, z_i (x1), z_i (x2)] (true, X, I, J)) (none, (true, X1, I2, J3)) ∧ (∃ (v11 : Int32) (X6 : z_X) (I7 : Nat → Nat → Nat → Int32) (J8 : Nat → Nat → Nat → Int64), z_ev (d + 3) (z_en 194 [z_r 33 0, z_r 47 0, z_i 0, z_i (x1), z_i (x3), z_i (x4)] (true, X1, I2, J3)) (some (z_i (v11)), (true, X6, I7, J8)) ∧ r = (some (z_i (v11)), (true, X6, I7, J8))))) :
    z_ev (d + 4) (z_en 202 [z_r 33 0, z_i (x1), z_i (x2), z_i (x3), z_i (x4)] (true, X, I, J)) r := by
  show z_ev (d + 4) (202, 0, [some (z_r 33 0), some (z_i (x1)), some (z_i (x2)), some (z_i (x3)), some (z_i (x4))], [], (true, X, I, J)) r
  refine z_ev_gs 3 (c1 := (202, 3, [some (z_r 33 0), some (z_i (x1)), some (z_i (x2)), some (z_i (x3)), some (z_i (x4))], [z_i (x2), z_i (x1), z_r 33 0], (true, X, I, J))) rfl ?_
  obtain ⟨X1, I2, J3, g4, h5⟩ := h
  refine z_ev_ca rfl rfl g4 ?_
  refine z_ev_gs 7 (c1 := (202, 16, [some (z_r 33 0), some (z_i (x1)), some (z_i (x2)), some (z_i (x3)), some (z_i (x4))], [z_i (x4), z_i (x3), z_i (x1), z_i 0, z_r 47 0, z_r 33 0], (true, X1, I2, J3))) rfl ?_
  obtain ⟨v11, X6, I7, J8, g9, h10⟩ := h5
  refine z_ev_ca rfl rfl g9 ?_
  rw [h10]
  exact z_ev_rt rfl
theorem z_q79_e {d : Nat} {r : Option z_V × z_M} {X : z_X} {I : Nat → Nat → Nat → Int32} {J : Nat → Nat → Nat → Int64} (x1 : Int32) (x2 : Int32) (x3 : Int32) (x4 : Int32) (x5 : Int32)
    (h : (∃ (v6 : Int32) (X1 : z_X) (I2 : Nat → Nat → Nat → Int32) (J3 : Nat → Nat → Nat → Int64), z_ev (d + 16) (z_en 128 [z_i (x1), z_i (x2)] (true, X, I, J)) (some (z_i (v6)), (true, X1, I2, J3)) ∧ (∃ (v12 : Int32) (X7 : z_X) (I8 : Nat → Nat → Nat → Int32) (J9 : Nat → Nat → Nat → Int64), z_ev (d + 16) (z_en 128 [z_i (x3), z_i (x4)] (true, X1, I2, J3)) (some (z_i (v12)), (true, X7, I8, J9)) ∧ ((v6 < 0 → r = (some (z_i (-1)), (true, X7, I8, J9))) ∧ (0 ≤ v6 → ((x3 < x1 → r = (some (z_i (-1)), (true, X7, I8, J9))) ∧ (x1 ≤ x3 → ((v12 < 0 → r = (some (z_i (-1)), (true, X7, I8, J9))) ∧ (0 ≤ v12 → (((z_bw x5 0 1) = true → (∃ (v22 : Int32) (X17 : z_X) (I18 : Nat → Nat → Nat → Int32) (J19 : Nat → Nat → Nat → Int64), z_ev (d + 16) (z_en 140 [z_r 0 0, z_i (x1), z_i (v6), z_i (x3), z_i (v12)] (true, X7, I8, J9)) (some (z_i (v22)), (true, X17, I18, J19)) ∧ (∃ (v28 : Int32) (X23 : z_X) (I24 : Nat → Nat → Nat → Int32) (J25 : Nat → Nat → Nat → Int64), z_ev (d + 16) (z_en 130 [z_i (x3), z_i (x1)] (true, X17, I18, J19)) (some (z_i (v28)), (true, X23, I24, J25)) ∧ (∃ (v34 : Int64) (X29 : z_X) (I30 : Nat → Nat → Nat → Int32) (J31 : Nat → Nat → Nat → Int64), z_ev (d + 16) (z_en 131 [z_j (v22.toInt64), z_j (v28.toInt64), z_i (x5)] (true, X23, I24, J25)) (some (z_j (v34)), (true, X29, I30, J31)) ∧ r = (some (z_i (v34.toInt32)), (true, X29, I30, J31)))))) ∧ ((z_bw x5 0 1) = false → r = (some (z_i (-1)), (true, X7, I8, J9))))))))))))) :
    z_ev (d + 17) (z_en 79 [z_r 0 0, z_i (x1), z_i (x2), z_i (x3), z_i (x4), z_i (x5)] (true, X, I, J)) r := by
  show z_ev (d + 17) (79, 0, [some (z_r 0 0), some (z_i (x1)), some (z_i (x2)), some (z_i (x3)), some (z_i (x4)), some (z_i (x5)), none, none], [], (true, X, I, J)) r
  refine z_ev_gs 2 (c1 := (79, 2, [some (z_r 0 0), some (z_i (x1)), some (z_i (x2)), some (z_i (x3)), some (z_i (x4)), some (z_i (x5)), none, none], [z_i (x2), z_i (x1)], (true, X, I, J))) rfl ?_
  obtain ⟨v6, X1, I2, J3, g4, h5⟩ := h
  refine z_ev_ca rfl rfl g4 ?_
  refine z_ev_gs 3 (c1 := (79, 10, [some (z_r 0 0), some (z_i (x1)), some (z_i (x2)), some (z_i (x3)), some (z_i (x4)), some (z_i (x5)), some (z_i (v6)), none], [z_i (x4), z_i (x3)], (true, X1, I2, J3))) rfl ?_
  obtain ⟨v12, X7, I8, J9, g10, h11⟩ := h5
  refine z_ev_ca rfl rfl g10 ?_
  refine z_ev_gs 3 (c1 := (79, (if v6 < 0 then 38 else 20), [some (z_r 0 0), some (z_i (x1)), some (z_i (x2)), some (z_i (x3)), some (z_i (x4)), some (z_i (x5)), some (z_i (v6)), some (z_i (v12))], [], (true, X7, I8, J9))) rfl ?_
  refine z_ev_iflt (fun e13 => ?_) (fun e13 => ?_)
  · have h41 := h11.1 e13
    refine z_ev_gs 1 (c1 := (79, 39, [some (z_r 0 0), some (z_i (x1)), some (z_i (x2)), some (z_i (x3)), some (z_i (x4)), some (z_i (x5)), some (z_i (v6)), some (z_i (v12))], [z_i (-1)], (true, X7, I8, J9))) rfl ?_
    rw [h41]
    exact z_ev_rt rfl
  · have h42 := h11.2 e13
    refine z_ev_gs 3 (c1 := (79, (if x3 < x1 then 38 else 25), [some (z_r 0 0), some (z_i (x1)), some (z_i (x2)), some (z_i (x3)), some (z_i (x4)), some (z_i (x5)), some (z_i (v6)), some (z_i (v12))], [], (true, X7, I8, J9))) rfl ?_
    refine z_ev_iflt (fun e14 => ?_) (fun e14 => ?_)
    · have h39 := h42.1 e14
      refine z_ev_gs 1 (c1 := (79, 39, [some (z_r 0 0), some (z_i (x1)), some (z_i (x2)), some (z_i (x3)), some (z_i (x4)), some (z_i (x5)), some (z_i (v6)), some (z_i (v12))], [z_i (-1)], (true, X7, I8, J9))) rfl ?_
      rw [h39]
      exact z_ev_rt rfl
    · have h40 := h42.2 e14
      refine z_ev_gs 2 (c1 := (79, (if v12 < 0 then 38 else 30), [some (z_r 0 0), some (z_i (x1)), some (z_i (x2)), some (z_i (x3)), some (z_i (x4)), some (z_i (x5)), some (z_i (v6)), some (z_i (v12))], [], (true, X7, I8, J9))) rfl ?_
      refine z_ev_iflt (fun e15 => ?_) (fun e15 => ?_)
      · have h37 := h40.1 e15
        refine z_ev_gs 1 (c1 := (79, 39, [some (z_r 0 0), some (z_i (x1)), some (z_i (x2)), some (z_i (x3)), some (z_i (x4)), some (z_i (x5)), some (z_i (v6)), some (z_i (v12))], [z_i (-1)], (true, X7, I8, J9))) rfl ?_
        rw [h37]
        exact z_ev_rt rfl
      · have h38 := h40.2 e15
        refine z_ev_gs 1 (c1 := (79, 32, [some (z_r 0 0), some (z_i (x1)), some (z_i (x2)), some (z_i (x3)), some (z_i (x4)), some (z_i (x5)), some (z_i (v6)), some (z_i (v12))], [z_i (x5)], (true, X7, I8, J9))) rfl ?_
        refine z_ev_ca rfl rfl (z_p121 _) ?_
        refine z_ev_gs 1 (c1 := (79, (if ¬ z_c (z_bw x5 0 1) = 0 then 40 else 38), [some (z_r 0 0), some (z_i (x1)), some (z_i (x2)), some (z_i (x3)), some (z_i (x4)), some (z_i (x5)), some (z_i (v6)), some (z_i (v12))], [], (true, X7, I8, J9))) rfl ?_
        refine z_ev_ifcn (fun e16 => ?_) (fun e16 => ?_)
        · have h35 := h38.1 e16
          refine z_ev_gs 5 (c1 := (79, 47, [some (z_r 0 0), some (z_i (x1)), some (z_i (x2)), some (z_i (x3)), some (z_i (x4)), some (z_i (x5)), some (z_i (v6)), some (z_i (v12))], [z_i (v12), z_i (x3), z_i (v6), z_i (x1), z_r 0 0], (true, X7, I8, J9))) rfl ?_
          obtain ⟨v22, X17, I18, J19, g20, h21⟩ := h35
          refine z_ev_ca rfl rfl g20 ?_
          refine z_ev_gs 3 (c1 := (79, 53, [some (z_r 0 0), some (z_i (x1)), some (z_i (x2)), some (z_i (x3)), some (z_i (x4)), some (z_i (x5)), some (z_i (v6)), some (z_i (v12))], [z_i (x1), z_i (x3), z_j (v22.toInt64)], (true, X17, I18, J19))) rfl ?_
          obtain ⟨v28, X23, I24, J25, g26, h27⟩ := h21
          refine z_ev_ca rfl rfl g26 ?_
          refine z_ev_gs 2 (c1 := (79, 59, [some (z_r 0 0), some (z_i (x1)), some (z_i (x2)), some (z_i (x3)), some (z_i (x4)), some (z_i (x5)), some (z_i (v6)), some (z_i (v12))], [z_i (x5), z_j (v28.toInt64), z_j (v22.toInt64)], (true, X23, I24, J25))) rfl ?_
          obtain ⟨v34, X29, I30, J31, g32, h33⟩ := h27
          refine z_ev_ca rfl rfl g32 ?_
          refine z_ev_gs 1 (c1 := (79, 63, [some (z_r 0 0), some (z_i (x1)), some (z_i (x2)), some (z_i (x3)), some (z_i (x4)), some (z_i (x5)), some (z_i (v6)), some (z_i (v12))], [z_i (v34.toInt32)], (true, X29, I30, J31))) rfl ?_
          rw [h33]
          exact z_ev_rt rfl
        · have h36 := h38.2 e16
          refine z_ev_gs 1 (c1 := (79, 39, [some (z_r 0 0), some (z_i (x1)), some (z_i (x2)), some (z_i (x3)), some (z_i (x4)), some (z_i (x5)), some (z_i (v6)), some (z_i (v12))], [z_i (-1)], (true, X7, I8, J9))) rfl ?_
          rw [h36]
          exact z_ev_rt rfl
theorem z_q203_e {d : Nat} {r : Option z_V × z_M} {X : z_X} {I : Nat → Nat → Nat → Int32} {J : Nat → Nat → Nat → Int64} (x1 : Int32) (x2 : Int32) (x3 : Int32) (x4 : Int32) (x5 : Int32)
    (h : (∃ (b6 : Bool) (X1 : z_X) (I2 : Nat → Nat → Nat → Int32) (J3 : Nat → Nat → Nat → Int64), z_ev (d + 4) (z_en 166 [z_r 33 0, z_i (x1), z_i (x2)] (true, X, I, J)) (some (z_i (z_c b6)), (true, X1, I2, J3)) ∧ ((b6 = false → r = (some (z_i (-1)), (true, X1, I2, J3))) ∧ (b6 = true → (((z_bw x3 x1 (4 : Int32)) = false → r = (some (z_i (-1)), (true, X1, I2, J3))) ∧ ((z_bw x3 x1 (4 : Int32)) = true → (∃ (b14 : Bool) (X9 : z_X) (I10 : Nat → Nat → Nat → Int32) (J11 : Nat → Nat → Nat → Int64), z_ev (d + 4) (z_en 166 [z_r 33 0, z_i (x3), z_i (x4)] (true, X1, I2, J3)) (some (z_i (z_c b14)), (true, X9, I10, J11)) ∧ ((b14 = false → r = (some (z_i (-1)), (true, X9, I10, J11))) ∧ (b14 = true → (((z_bw x5 0 1) = true → (∃ (v22 : Int32) (X17 : z_X) (I18 : Nat → Nat → Nat → Int32) (J19 : Nat → Nat → Nat → Int64), z_ev (d + 4) (z_en 202 [z_r 33 0, z_i (x3), z_i (x4), z_i (x1), z_i (x2)] (true, X9, I10, J11)) (some (z_i (v22)), (true, X17, I18, J19)) ∧ (∃ (v28 : Int32) (X23 : z_X) (I24 : Nat → Nat → Nat → Int32) (J25 : Nat → Nat → Nat → Int64), z_ev (d + 4) (z_en 195 [z_i (x3), z_i (x1)] (true, X17, I18, J19)) (some (z_i (v28)), (true, X23, I24, J25)) ∧ (∃ (X29 : z_X) (I30 : Nat → Nat → Nat → Int32) (J31 : Nat → Nat → Nat → Int64), z_ev (d + 4) (z_en 198 [z_r 33 0, z_j (v22.toInt64), z_j (v28.toInt64)] (true, X23, I24, J25)) (none, (true, X29, I30, J31)) ∧ (∃ (v39 : Int64) (X34 : z_X) (I35 : Nat → Nat → Nat → Int32) (J36 : Nat → Nat → Nat → Int64), z_ev (d + 4) (z_en 199 [z_r 33 0, z_i (x5)] (true, X29, I30, J31)) (some (z_j (v39)), (true, X34, I35, J36)) ∧ r = (some (z_i (v39.toInt32)), (true, X34, I35, J36))))))) ∧ ((z_bw x5 0 1) = false → r = (some (z_i (-1)), (true, X9, I10, J11))))))))))))) :
    z_ev (d + 5) (z_en 203 [z_r 33 0, z_i (x1), z_i (x2), z_i (x3), z_i (x4), z_i (x5)] (true, X, I, J)) r := by
  show z_ev (d + 5) (203, 0, [some (z_r 33 0), some (z_i (x1)), some (z_i (x2)), some (z_i (x3)), some (z_i (x4)), some (z_i (x5))], [], (true, X, I, J)) r
  refine z_ev_gs 3 (c1 := (203, 3, [some (z_r 33 0), some (z_i (x1)), some (z_i (x2)), some (z_i (x3)), some (z_i (x4)), some (z_i (x5))], [z_i (x2), z_i (x1), z_r 33 0], (true, X, I, J))) rfl ?_
  obtain ⟨b6, X1, I2, J3, g4, h5⟩ := h
  refine z_ev_ca rfl rfl g4 ?_
  refine z_ev_gs 1 (c1 := (203, (if z_c b6 = 0 then 36 else 9), [some (z_r 33 0), some (z_i (x1)), some (z_i (x2)), some (z_i (x3)), some (z_i (x4)), some (z_i (x5))], [], (true, X1, I2, J3))) rfl ?_
  refine z_ev_ifc (fun e7 => ?_) (fun e7 => ?_)
  · have h46 := h5.1 e7
    refine z_ev_gs 1 (c1 := (203, 37, [some (z_r 33 0), some (z_i (x1)), some (z_i (x2)), some (z_i (x3)), some (z_i (x4)), some (z_i (x5))], [z_i (-1)], (true, X1, I2, J3))) rfl ?_
    rw [h46]
    exact z_ev_rt rfl
  · have h47 := h5.2 e7
    refine z_ev_gs 3 (c1 := (203, 12, [some (z_r 33 0), some (z_i (x1)), some (z_i (x2)), some (z_i (x3)), some (z_i (x4)), some (z_i (x5))], [z_i 4, z_i (x1), z_i (x3)], (true, X1, I2, J3))) rfl ?_
    refine z_ev_ca rfl rfl (z_p158 _ _ _) ?_
    refine z_ev_gs 1 (c1 := (203, (if z_c (z_bw x3 x1 (4 : Int32)) = 0 then 36 else 18), [some (z_r 33 0), some (z_i (x1)), some (z_i (x2)), some (z_i (x3)), some (z_i (x4)), some (z_i (x5))], [], (true, X1, I2, J3))) rfl ?_
    refine z_ev_ifc (fun e8 => ?_) (fun e8 => ?_)
    · have h44 := h47.1 e8
      refine z_ev_gs 1 (c1 := (203, 37, [some (z_r 33 0), some (z_i (x1)), some (z_i (x2)), some (z_i (x3)), some (z_i (x4)), some (z_i (x5))], [z_i (-1)], (true, X1, I2, J3))) rfl ?_
      rw [h44]
      exact z_ev_rt rfl
    · have h45 := h47.2 e8
      refine z_ev_gs 3 (c1 := (203, 22, [some (z_r 33 0), some (z_i (x1)), some (z_i (x2)), some (z_i (x3)), some (z_i (x4)), some (z_i (x5))], [z_i (x4), z_i (x3), z_r 33 0], (true, X1, I2, J3))) rfl ?_
      obtain ⟨b14, X9, I10, J11, g12, h13⟩ := h45
      refine z_ev_ca rfl rfl g12 ?_
      refine z_ev_gs 1 (c1 := (203, (if z_c b14 = 0 then 36 else 28), [some (z_r 33 0), some (z_i (x1)), some (z_i (x2)), some (z_i (x3)), some (z_i (x4)), some (z_i (x5))], [], (true, X9, I10, J11))) rfl ?_
      refine z_ev_ifc (fun e15 => ?_) (fun e15 => ?_)
      · have h42 := h13.1 e15
        refine z_ev_gs 1 (c1 := (203, 37, [some (z_r 33 0), some (z_i (x1)), some (z_i (x2)), some (z_i (x3)), some (z_i (x4)), some (z_i (x5))], [z_i (-1)], (true, X9, I10, J11))) rfl ?_
        rw [h42]
        exact z_ev_rt rfl
      · have h43 := h13.2 e15
        refine z_ev_gs 1 (c1 := (203, 30, [some (z_r 33 0), some (z_i (x1)), some (z_i (x2)), some (z_i (x3)), some (z_i (x4)), some (z_i (x5))], [z_i (x5)], (true, X9, I10, J11))) rfl ?_
        refine z_ev_ca rfl rfl (z_p163 _) ?_
        refine z_ev_gs 1 (c1 := (203, (if ¬ z_c (z_bw x5 0 1) = 0 then 38 else 36), [some (z_r 33 0), some (z_i (x1)), some (z_i (x2)), some (z_i (x3)), some (z_i (x4)), some (z_i (x5))], [], (true, X9, I10, J11))) rfl ?_
        refine z_ev_ifcn (fun e16 => ?_) (fun e16 => ?_)
        · have h40 := h43.1 e16
          refine z_ev_gs 6 (c1 := (203, 45, [some (z_r 33 0), some (z_i (x1)), some (z_i (x2)), some (z_i (x3)), some (z_i (x4)), some (z_i (x5))], [z_i (x2), z_i (x1), z_i (x4), z_i (x3), z_r 33 0, z_r 33 0], (true, X9, I10, J11))) rfl ?_
          obtain ⟨v22, X17, I18, J19, g20, h21⟩ := h40
          refine z_ev_ca rfl rfl g20 ?_
          refine z_ev_gs 3 (c1 := (203, 51, [some (z_r 33 0), some (z_i (x1)), some (z_i (x2)), some (z_i (x3)), some (z_i (x4)), some (z_i (x5))], [z_i (x1), z_i (x3), z_j (v22.toInt64), z_r 33 0], (true, X17, I18, J19))) rfl ?_
          obtain ⟨v28, X23, I24, J25, g26, h27⟩ := h21
          refine z_ev_ca rfl rfl g26 ?_
          refine z_ev_gs 1 (c1 := (203, 55, [some (z_r 33 0), some (z_i (x1)), some (z_i (x2)), some (z_i (x3)), some (z_i (x4)), some (z_i (x5))], [z_j (v28.toInt64), z_j (v22.toInt64), z_r 33 0], (true, X23, I24, J25))) rfl ?_
          obtain ⟨X29, I30, J31, g32, h33⟩ := h27
          refine z_ev_ca rfl rfl g32 ?_
          refine z_ev_gs 2 (c1 := (203, 61, [some (z_r 33 0), some (z_i (x1)), some (z_i (x2)), some (z_i (x3)), some (z_i (x4)), some (z_i (x5))], [z_i (x5), z_r 33 0], (true, X29, I30, J31))) rfl ?_
          obtain ⟨v39, X34, I35, J36, g37, h38⟩ := h33
          refine z_ev_ca rfl rfl g37 ?_
          refine z_ev_gs 1 (c1 := (203, 65, [some (z_r 33 0), some (z_i (x1)), some (z_i (x2)), some (z_i (x3)), some (z_i (x4)), some (z_i (x5))], [z_i (v39.toInt32)], (true, X34, I35, J36))) rfl ?_
          rw [h38]
          exact z_ev_rt rfl
        · have h41 := h43.2 e16
          refine z_ev_gs 1 (c1 := (203, 37, [some (z_r 33 0), some (z_i (x1)), some (z_i (x2)), some (z_i (x3)), some (z_i (x4)), some (z_i (x5))], [z_i (-1)], (true, X9, I10, J11))) rfl ?_
          rw [h41]
          exact z_ev_rt rfl
theorem z_q204_e {d : Nat} {r : Option z_V × z_M} {X : z_X} {I : Nat → Nat → Nat → Int32} {J : Nat → Nat → Nat → Int64} (x1 : Int32) (x2 : Int32)
    (h : z_ev d (204, 2, [some (z_r 33 0), some (z_i (x1)), some (z_i (x2)), some (z_i 0)], [], (true, X, I, J)) r) :
    z_ev d (z_en 204 [z_r 33 0, z_i (x1), z_i (x2)] (true, X, I, J)) r := by
  show z_ev d (204, 0, [some (z_r 33 0), some (z_i (x1)), some (z_i (x2)), none], [], (true, X, I, J)) r
  refine z_ev_gs 2 (c1 := (204, 2, [some (z_r 33 0), some (z_i (x1)), some (z_i (x2)), some (z_i 0)], [], (true, X, I, J))) rfl ?_
  exact h
theorem z_q204_2 {d : Nat} {r : Option z_V × z_M} {X : z_X} {I : Nat → Nat → Nat → Int32} {J : Nat → Nat → Nat → Int64} (x1 : Int32) (x2 : Int32) (x3 : Int32)
    (h : (((I 33 0 2) ≤ x3 → r = (some (z_i (-1)), (true, X, I, J))) ∧ (x3 < (I 33 0 2) → (∃ k2 : Nat, ((2 : Int32) * x3) = Int32.ofNat k2 ∧ k2 < 8 ∧ ((¬ (I 36 0 k2) = x1 → z_ev d (204, 2, [some (z_r 33 0), some (z_i (x1)), some (z_i (x2)), some (z_i (x3 + (1 : Int32)))], [], (true, X, I, J)) r) ∧ ((I 36 0 k2) = x1 → (∃ k7 : Nat, (((2 : Int32) * x3) + (1 : Int32)) = Int32.ofNat k7 ∧ k7 < 8 ∧ ((¬ (I 36 0 k7) = x2 → z_ev d (204, 2, [some (z_r 33 0), some (z_i (x1)), some (z_i (x2)), some (z_i (x3 + (1 : Int32)))], [], (true, X, I, J)) r) ∧ ((I 36 0 k7) = x2 → r = (some (z_i (x3)), (true, X, I, J))))))))))) :
    z_ev d ((204, 2, [some (z_r 33 0), some (z_i (x1)), some (z_i (x2)), some (z_i (x3))], [], (true, X, I, J))) r := by
  refine z_ev_gs 4 (c1 := (204, (if (I 33 0 2) ≤ x3 then 44 else 10), [some (z_r 33 0), some (z_i (x1)), some (z_i (x2)), some (z_i (x3))], [], (true, X, I, J))) rfl ?_
  refine z_ev_ifle (fun e1 => ?_) (fun e1 => ?_)
  · have h16 := h.1 e1
    refine z_ev_gs 1 (c1 := (204, 45, [some (z_r 33 0), some (z_i (x1)), some (z_i (x2)), some (z_i (x3))], [z_i (-1)], (true, X, I, J))) rfl ?_
    rw [h16]
    exact z_ev_rt rfl
  · have h17 := h.2 e1
    refine z_ev_gs 5 (c1 := (204, 17, [some (z_r 33 0), some (z_i (x1)), some (z_i (x2)), some (z_i (x3))], [z_i ((2 : Int32) * x3), z_r 36 0], (true, X, I, J))) rfl ?_
    obtain ⟨k2, e3, e4, h5⟩ := h17
    refine z_ev_iald (t := 36) (i := 0) (k := k2) (n := 8) rfl rfl e3 e4 (by decide) ?_
    refine z_ev_gs 2 (c1 := (204, (if ¬ (I 36 0 k2) = x1 then 38 else 22), [some (z_r 33 0), some (z_i (x1)), some (z_i (x2)), some (z_i (x3))], [], (true, X, I, J))) rfl ?_
    refine z_ev_ifn (fun e6 => ?_) (fun e6 => ?_)
    · have h14 := h5.1 e6
      refine z_ev_gs 2 (c1 := (204, 2, [some (z_r 33 0), some (z_i (x1)), some (z_i (x2)), some (z_i (x3 + (1 : Int32)))], [], (true, X, I, J))) rfl ?_
      exact h14
    · have h15 := h5.2 e6
      refine z_ev_gs 7 (c1 := (204, 31, [some (z_r 33 0), some (z_i (x1)), some (z_i (x2)), some (z_i (x3))], [z_i (((2 : Int32) * x3) + (1 : Int32)), z_r 36 0], (true, X, I, J))) rfl ?_
      obtain ⟨k7, e8, e9, h10⟩ := h15
      refine z_ev_iald (t := 36) (i := 0) (k := k7) (n := 8) rfl rfl e8 e9 (by decide) ?_
      refine z_ev_gs 2 (c1 := (204, (if ¬ (I 36 0 k7) = x2 then 38 else 36), [some (z_r 33 0), some (z_i (x1)), some (z_i (x2)), some (z_i (x3))], [], (true, X, I, J))) rfl ?_
      refine z_ev_ifn (fun e11 => ?_) (fun e11 => ?_)
      · have h12 := h10.1 e11
        refine z_ev_gs 2 (c1 := (204, 2, [some (z_r 33 0), some (z_i (x1)), some (z_i (x2)), some (z_i (x3 + (1 : Int32)))], [], (true, X, I, J))) rfl ?_
        exact h12
      · have h13 := h10.2 e11
        refine z_ev_gs 1 (c1 := (204, 37, [some (z_r 33 0), some (z_i (x1)), some (z_i (x2)), some (z_i (x3))], [z_i (x3)], (true, X, I, J))) rfl ?_
        rw [h13]
        exact z_ev_rt rfl
theorem z_q80_e {d : Nat} {r : Option z_V × z_M} {X : z_X} {I : Nat → Nat → Nat → Int32} {J : Nat → Nat → Nat → Int64} (x1 : Int32) (x2 : Int32) (b3 : Bool)
    (h : (∃ (v6 : Int32) (X1 : z_X) (I2 : Nat → Nat → Nat → Int32) (J3 : Nat → Nat → Nat → Int64), z_ev (d + 1) (z_en 128 [z_i (x1), z_i (x2)] (true, X, I, J)) (some (z_i (v6)), (true, X1, I2, J3)) ∧ ((x1 < (2 : Int32) → r = (some (z_i (-1)), (true, X1, I2, J3))) ∧ ((2 : Int32) ≤ x1 → ((0 ≤ v6 → (∃ k9 : Nat, x1 = Int32.ofNat k9 ∧ k9 < 5 ∧ (((((I2 3 0 k9) >>> (v6 &&& 31)) &&& (1 : Int32)) = 0 → ((¬ (0 : Int32) = (z_c b3) → ((b3 = false → r = (some (z_i 1), (true, X1, (z_up I2 3 0 k9 ((I2 3 0 k9) ^^^ ((1 : Int32) <<< (v6 &&& 31)))), J3))) ∧ (b3 = true → (∃ (v21 : Int32) (X16 : z_X) (I17 : Nat → Nat → Nat → Int32) (J18 : Nat → Nat → Nat → Int64), z_ev (d + 1) (z_en 64 [z_r 1 0] (true, X1, I2, J3)) (some (z_i (v21)), (true, X16, I17, J18)) ∧ ((v21 < (4 : Int32) → r = (some (z_i 1), (true, X16, (z_up I17 3 0 k9 ((I17 3 0 k9) ^^^ ((1 : Int32) <<< (v6 &&& 31)))), J18))) ∧ ((4 : Int32) ≤ v21 → r = (some (z_i (-2)), (true, X16, I17, J18)))))))) ∧ ((0 : Int32) = (z_c b3) → r = (some (z_i 0), (true, X1, I2, J3))))) ∧ (¬ (((I2 3 0 k9) >>> (v6 &&& 31)) &&& (1 : Int32)) = 0 → ((¬ (1 : Int32) = (z_c b3) → ((b3 = false → r = (some (z_i 1), (true, X1, (z_up I2 3 0 k9 ((I2 3 0 k9) ^^^ ((1 : Int32) <<< (v6 &&& 31)))), J3))) ∧ (b3 = true → (∃ (v36 : Int32) (X31 : z_X) (I32 : Nat → Nat → Nat → Int32) (J33 : Nat → Nat → Nat → Int64), z_ev (d + 1) (z_en 64 [z_r 1 0] (true, X1, I2, J3)) (some (z_i (v36)), (true, X31, I32, J33)) ∧ ((v36 < (4 : Int32) → r = (some (z_i 1), (true, X31, (z_up I32 3 0 k9 ((I32 3 0 k9) ^^^ ((1 : Int32) <<< (v6 &&& 31)))), J33))) ∧ ((4 : Int32) ≤ v36 → r = (some (z_i (-2)), (true, X31, I32, J33)))))))) ∧ ((1 : Int32) = (z_c b3) → r = (some (z_i 0), (true, X1, I2, J3)))))))) ∧ (v6 < 0 → r = (some (z_i (-1)), (true, X1, I2, J3)))))))) :
    z_ev (d + 2) (z_en 80 [z_r 0 0, z_i (x1), z_i (x2), z_i (z_c b3)] (true, X, I, J)) r := by
  show z_ev (d + 2) (80, 0, [some (z_r 0 0), some (z_i (x1)), some (z_i (x2)), some (z_i (z_c b3)), none, none], [], (true, X, I, J)) r
  refine z_ev_gs 2 (c1 := (80, 2, [some (z_r 0 0), some (z_i (x1)), some (z_i (x2)), some (z_i (z_c b3)), none, none], [z_i (x2), z_i (x1)], (true, X, I, J))) rfl ?_
  obtain ⟨v6, X1, I2, J3, g4, h5⟩ := h
  refine z_ev_ca rfl rfl g4 ?_
  refine z_ev_gs 4 (c1 := (80, (if x1 < (2 : Int32) then 17 else 12), [some (z_r 0 0), some (z_i (x1)), some (z_i (x2)), some (z_i (z_c b3)), some (z_i (v6)), none], [], (true, X1, I2, J3))) rfl ?_
  refine z_ev_iflt (fun e7 => ?_) (fun e7 => ?_)
  · have h48 := h5.1 e7
    refine z_ev_gs 1 (c1 := (80, 18, [some (z_r 0 0), some (z_i (x1)), some (z_i (x2)), some (z_i (z_c b3)), some (z_i (v6)), none], [z_i (-1)], (true, X1, I2, J3))) rfl ?_
    rw [h48]
    exact z_ev_rt rfl
  · have h49 := h5.2 e7
    refine z_ev_gs 2 (c1 := (80, (if 0 ≤ v6 then 19 else 17), [some (z_r 0 0), some (z_i (x1)), some (z_i (x2)), some (z_i (z_c b3)), some (z_i (v6)), none], [], (true, X1, I2, J3))) rfl ?_
    refine z_ev_ifle (fun e8 => ?_) (fun e8 => ?_)
    · have h46 := h49.1 e8
      refine z_ev_gs 4 (c1 := (80, 27, [some (z_r 0 0), some (z_i (x1)), some (z_i (x2)), some (z_i (z_c b3)), some (z_i (v6)), none], [z_i (x1), z_r 3 0], (true, X1, I2, J3))) rfl ?_
      obtain ⟨k9, e10, e11, h12⟩ := h46
      refine z_ev_iald (t := 3) (i := 0) (k := k9) (n := 5) rfl rfl e10 e11 (by decide) ?_
      refine z_ev_gs 5 (c1 := (80, (if (((I2 3 0 k9) >>> (v6 &&& 31)) &&& (1 : Int32)) = 0 then 40 else 36), [some (z_r 0 0), some (z_i (x1)), some (z_i (x2)), some (z_i (z_c b3)), some (z_i (v6)), none], [], (true, X1, I2, J3))) rfl ?_
      refine z_ev_if (fun e13 => ?_) (fun e13 => ?_)
      · have h44 := h12.1 e13
        refine z_ev_gs 5 (c1 := (80, (if ¬ (0 : Int32) = (z_c b3) then 51 else 49), [some (z_r 0 0), some (z_i (x1)), some (z_i (x2)), some (z_i (z_c b3)), some (z_i (v6)), some (z_i 0)], [], (true, X1, I2, J3))) rfl ?_
        refine z_ev_ifn (fun e14 => ?_) (fun e14 => ?_)
        · have h27 := h44.1 e14
          refine z_ev_gs 2 (c1 := (80, (if z_c b3 = 0 then 69 else 55), [some (z_r 0 0), some (z_i (x1)), some (z_i (x2)), some (z_i (z_c b3)), some (z_i (v6)), some (z_i 0)], [], (true, X1, I2, J3))) rfl ?_
          refine z_ev_ifc (fun e15 => ?_) (fun e15 => ?_)
          · have h25 := h27.1 e15
            refine z_ev_gs 5 (c1 := (80, 78, [some (z_r 0 0), some (z_i (x1)), some (z_i (x2)), some (z_i (z_c b3)), some (z_i (v6)), some (z_i 0)], [z_i (x1), z_r 3 0, z_i (x1), z_r 3 0], (true, X1, I2, J3))) rfl ?_
            refine z_ev_iald (t := 3) (i := 0) (k := k9) (n := 5) rfl rfl e10 (Nat.lt_of_lt_of_le e11 (by decide)) (by decide) ?_
            refine z_ev_gs 4 (c1 := (80, 84, [some (z_r 0 0), some (z_i (x1)), some (z_i (x2)), some (z_i (z_c b3)), some (z_i (v6)), some (z_i 0)], [z_i ((I2 3 0 k9) ^^^ ((1 : Int32) <<< (v6 &&& 31))), z_i (x1), z_r 3 0], (true, X1, I2, J3))) rfl ?_
            refine z_ev_iast (t := 3) (i := 0) (k := k9) (n := 5) rfl rfl e10 (Nat.lt_of_lt_of_le e11 (by decide)) (by decide) ?_
            refine z_ev_gs 1 (c1 := (80, 86, [some (z_r 0 0), some (z_i (x1)), some (z_i (x2)), some (z_i (z_c b3)), some (z_i (v6)), some (z_i 0)], [z_i 1], (true, X1, (z_up I2 3 0 k9 ((I2 3 0 k9) ^^^ ((1 : Int32) <<< (v6 &&& 31)))), J3))) rfl ?_
            rw [h25]
            exact z_ev_rt rfl
          · have h26 := h27.2 e15
            refine z_ev_gs 2 (c1 := (80, 59, [some (z_r 0 0), some (z_i (x1)), some (z_i (x2)), some (z_i (z_c b3)), some (z_i (v6)), some (z_i 0)], [z_r 1 0], (true, X1, I2, J3))) rfl ?_
            obtain ⟨v21, X16, I17, J18, g19, h20⟩ := h26
            refine z_ev_ca rfl rfl g19 ?_
            refine z_ev_gs 2 (c1 := (80, (if v21 < (4 : Int32) then 69 else 66), [some (z_r 0 0), some (z_i (x1)), some (z_i (x2)), some (z_i (z_c b3)), some (z_i (v6)), some (z_i 0)], [], (true, X16, I17, J18))) rfl ?_
            refine z_ev_iflt (fun e22 => ?_) (fun e22 => ?_)
            · have h23 := h20.1 e22
              refine z_ev_gs 5 (c1 := (80, 78, [some (z_r 0 0), some (z_i (x1)), some (z_i (x2)), some (z_i (z_c b3)), some (z_i (v6)), some (z_i 0)], [z_i (x1), z_r 3 0, z_i (x1), z_r 3 0], (true, X16, I17, J18))) rfl ?_
              refine z_ev_iald (t := 3) (i := 0) (k := k9) (n := 5) rfl rfl e10 (Nat.lt_of_lt_of_le e11 (by decide)) (by decide) ?_
              refine z_ev_gs 4 (c1 := (80, 84, [some (z_r 0 0), some (z_i (x1)), some (z_i (x2)), some (z_i (z_c b3)), some (z_i (v6)), some (z_i 0)], [z_i ((I17 3 0 k9) ^^^ ((1 : Int32) <<< (v6 &&& 31))), z_i (x1), z_r 3 0], (true, X16, I17, J18))) rfl ?_
              refine z_ev_iast (t := 3) (i := 0) (k := k9) (n := 5) rfl rfl e10 (Nat.lt_of_lt_of_le e11 (by decide)) (by decide) ?_
              refine z_ev_gs 1 (c1 := (80, 86, [some (z_r 0 0), some (z_i (x1)), some (z_i (x2)), some (z_i (z_c b3)), some (z_i (v6)), some (z_i 0)], [z_i 1], (true, X16, (z_up I17 3 0 k9 ((I17 3 0 k9) ^^^ ((1 : Int32) <<< (v6 &&& 31)))), J18))) rfl ?_
              rw [h23]
              exact z_ev_rt rfl
            · have h24 := h20.2 e22
              refine z_ev_gs 1 (c1 := (80, 68, [some (z_r 0 0), some (z_i (x1)), some (z_i (x2)), some (z_i (z_c b3)), some (z_i (v6)), some (z_i 0)], [z_i (-2)], (true, X16, I17, J18))) rfl ?_
              rw [h24]
              exact z_ev_rt rfl
        · have h28 := h44.2 e14
          refine z_ev_gs 1 (c1 := (80, 50, [some (z_r 0 0), some (z_i (x1)), some (z_i (x2)), some (z_i (z_c b3)), some (z_i (v6)), some (z_i 0)], [z_i 0], (true, X1, I2, J3))) rfl ?_
          rw [h28]
          exact z_ev_rt rfl
      · have h45 := h12.2 e13
        refine z_ev_gs 6 (c1 := (80, (if ¬ (1 : Int32) = (z_c b3) then 51 else 49), [some (z_r 0 0), some (z_i (x1)), some (z_i (x2)), some (z_i (z_c b3)), some (z_i (v6)), some (z_i 1)], [], (true, X1, I2, J3))) rfl ?_
        refine z_ev_ifn (fun e29 => ?_) (fun e29 => ?_)
        · have h42 := h45.1 e29
          refine z_ev_gs 2 (c1 := (80, (if z_c b3 = 0 then 69 else 55), [some (z_r 0 0), some (z_i (x1)), some (z_i (x2)), some (z_i (z_c b3)), some (z_i (v6)), some (z_i 1)], [], (true, X1, I2, J3))) rfl ?_
          refine z_ev_ifc (fun e30 => ?_) (fun e30 => ?_)
          · have h40 := h42.1 e30
            refine z_ev_gs 5 (c1 := (80, 78, [some (z_r 0 0), some (z_i (x1)), some (z_i (x2)), some (z_i (z_c b3)), some (z_i (v6)), some (z_i 1)], [z_i (x1), z_r 3 0, z_i (x1), z_r 3 0], (true, X1, I2, J3))) rfl ?_
            refine z_ev_iald (t := 3) (i := 0) (k := k9) (n := 5) rfl rfl e10 (Nat.lt_of_lt_of_le e11 (by decide)) (by decide) ?_
            refine z_ev_gs 4 (c1 := (80, 84, [some (z_r 0 0), some (z_i (x1)), some (z_i (x2)), some (z_i (z_c b3)), some (z_i (v6)), some (z_i 1)], [z_i ((I2 3 0 k9) ^^^ ((1 : Int32) <<< (v6 &&& 31))), z_i (x1), z_r 3 0], (true, X1, I2, J3))) rfl ?_
            refine z_ev_iast (t := 3) (i := 0) (k := k9) (n := 5) rfl rfl e10 (Nat.lt_of_lt_of_le e11 (by decide)) (by decide) ?_
            refine z_ev_gs 1 (c1 := (80, 86, [some (z_r 0 0), some (z_i (x1)), some (z_i (x2)), some (z_i (z_c b3)), some (z_i (v6)), some (z_i 1)], [z_i 1], (true, X1, (z_up I2 3 0 k9 ((I2 3 0 k9) ^^^ ((1 : Int32) <<< (v6 &&& 31)))), J3))) rfl ?_
            rw [h40]
            exact z_ev_rt rfl
          · have h41 := h42.2 e30
            refine z_ev_gs 2 (c1 := (80, 59, [some (z_r 0 0), some (z_i (x1)), some (z_i (x2)), some (z_i (z_c b3)), some (z_i (v6)), some (z_i 1)], [z_r 1 0], (true, X1, I2, J3))) rfl ?_
            obtain ⟨v36, X31, I32, J33, g34, h35⟩ := h41
            refine z_ev_ca rfl rfl g34 ?_
            refine z_ev_gs 2 (c1 := (80, (if v36 < (4 : Int32) then 69 else 66), [some (z_r 0 0), some (z_i (x1)), some (z_i (x2)), some (z_i (z_c b3)), some (z_i (v6)), some (z_i 1)], [], (true, X31, I32, J33))) rfl ?_
            refine z_ev_iflt (fun e37 => ?_) (fun e37 => ?_)
            · have h38 := h35.1 e37
              refine z_ev_gs 5 (c1 := (80, 78, [some (z_r 0 0), some (z_i (x1)), some (z_i (x2)), some (z_i (z_c b3)), some (z_i (v6)), some (z_i 1)], [z_i (x1), z_r 3 0, z_i (x1), z_r 3 0], (true, X31, I32, J33))) rfl ?_
              refine z_ev_iald (t := 3) (i := 0) (k := k9) (n := 5) rfl rfl e10 (Nat.lt_of_lt_of_le e11 (by decide)) (by decide) ?_
              refine z_ev_gs 4 (c1 := (80, 84, [some (z_r 0 0), some (z_i (x1)), some (z_i (x2)), some (z_i (z_c b3)), some (z_i (v6)), some (z_i 1)], [z_i ((I32 3 0 k9) ^^^ ((1 : Int32) <<< (v6 &&& 31))), z_i (x1), z_r 3 0], (true, X31, I32, J33))) rfl ?_
              refine z_ev_iast (t := 3) (i := 0) (k := k9) (n := 5) rfl rfl e10 (Nat.lt_of_lt_of_le e11 (by decide)) (by decide) ?_
              refine z_ev_gs 1 (c1 := (80, 86, [some (z_r 0 0), some (z_i (x1)), some (z_i (x2)), some (z_i (z_c b3)), some (z_i (v6)), some (z_i 1)], [z_i 1], (true, X31, (z_up I32 3 0 k9 ((I32 3 0 k9) ^^^ ((1 : Int32) <<< (v6 &&& 31)))), J33))) rfl ?_
              rw [h38]
              exact z_ev_rt rfl
            · have h39 := h35.2 e37
              refine z_ev_gs 1 (c1 := (80, 68, [some (z_r 0 0), some (z_i (x1)), some (z_i (x2)), some (z_i (z_c b3)), some (z_i (v6)), some (z_i 1)], [z_i (-2)], (true, X31, I32, J33))) rfl ?_
              rw [h39]
              exact z_ev_rt rfl
        · have h43 := h45.2 e29
          refine z_ev_gs 1 (c1 := (80, 50, [some (z_r 0 0), some (z_i (x1)), some (z_i (x2)), some (z_i (z_c b3)), some (z_i (v6)), some (z_i 1)], [z_i 0], (true, X1, I2, J3))) rfl ?_
          rw [h43]
          exact z_ev_rt rfl
    · have h47 := h49.2 e8
      refine z_ev_gs 1 (c1 := (80, 18, [some (z_r 0 0), some (z_i (x1)), some (z_i (x2)), some (z_i (z_c b3)), some (z_i (v6)), none], [z_i (-1)], (true, X1, I2, J3))) rfl ?_
      rw [h47]
      exact z_ev_rt rfl
theorem z_q205_e {d : Nat} {r : Option z_V × z_M} {X : z_X} {I : Nat → Nat → Nat → Int32} {J : Nat → Nat → Nat → Int64} (x1 : Int32) (x2 : Int32) (b3 : Bool)
    (h : (((z_bw x1 (2 : Int32) (4 : Int32)) = false → r = (some (z_i (-1)), (true, X, I, J))) ∧ ((z_bw x1 (2 : Int32) (4 : Int32)) = true → (∃ (b7 : Bool) (X2 : z_X) (I3 : Nat → Nat → Nat → Int32) (J4 : Nat → Nat → Nat → Int64), z_ev (d + 2) (z_en 166 [z_r 33 0, z_i (x1), z_i (x2)] (true, X, I, J)) (some (z_i (z_c b7)), (true, X2, I3, J4)) ∧ ((b7 = true → (∃ (v14 : Int32) (X9 : z_X) (I10 : Nat → Nat → Nat → Int32) (J11 : Nat → Nat → Nat → Int64), z_ev (d + 2) (z_en 204 [z_r 33 0, z_i (x1), z_i (x2)] (true, X2, I3, J4)) (some (z_i (v14)), (true, X9, I10, J11)) ∧ ((v14 < 0 → ((¬ (0 : Int32) = (z_c b3) → ((b3 = false → (∃ k18 : Nat, ((2 : Int32) * (((I10 33 0 2) - (1 : Int32)))) = Int32.ofNat k18 ∧ k18 < 8 ∧ (∃ k22 : Nat, ((2 : Int32) * v14) = Int32.ofNat k22 ∧ k22 < 8 ∧ (∃ k26 : Nat, (((2 : Int32) * (((I10 33 0 2) - (1 : Int32)))) + (1 : Int32)) = Int32.ofNat k26 ∧ k26 < 8 ∧ (∃ k30 : Nat, (((2 : Int32) * v14) + (1 : Int32)) = Int32.ofNat k30 ∧ k30 < 8 ∧ r = (some (z_i 1), (true, X9, (z_up (z_up (z_up I10 33 0 2 ((I10 33 0 2) - (1 : Int32))) 36 0 k22 (I10 36 0 k18)) 36 0 k30 ((z_up (z_up I10 33 0 2 ((I10 33 0 2) - (1 : Int32))) 36 0 k22 (I10 36 0 k18)) 36 0 k26)), J11))))))) ∧ (b3 = true → ((¬ (I10 33 0 2) = (4 : Int32) → (∃ k35 : Nat, ((2 : Int32) * (I10 33 0 2)) = Int32.ofNat k35 ∧ k35 < 8 ∧ (∃ k39 : Nat, (((2 : Int32) * (I10 33 0 2)) + (1 : Int32)) = Int32.ofNat k39 ∧ k39 < 8 ∧ r = (some (z_i 1), (true, X9, (z_up (z_up (z_up I10 36 0 k35 x1) 36 0 k39 x2) 33 0 2 ((I10 33 0 2) + (1 : Int32))), J11))))) ∧ ((I10 33 0 2) = (4 : Int32) → r = (some (z_i (-2)), (true, X9, I10, J11))))))) ∧ ((0 : Int32) = (z_c b3) → r = (some (z_i 0), (true, X9, I10, J11))))) ∧ (0 ≤ v14 → ((¬ (1 : Int32) = (z_c b3) → ((b3 = false → (∃ k51 : Nat, ((2 : Int32) * (((I10 33 0 2) - (1 : Int32)))) = Int32.ofNat k51 ∧ k51 < 8 ∧ (∃ k55 : Nat, ((2 : Int32) * v14) = Int32.ofNat k55 ∧ k55 < 8 ∧ (∃ k59 : Nat, (((2 : Int32) * (((I10 33 0 2) - (1 : Int32)))) + (1 : Int32)) = Int32.ofNat k59 ∧ k59 < 8 ∧ (∃ k63 : Nat, (((2 : Int32) * v14) + (1 : Int32)) = Int32.ofNat k63 ∧ k63 < 8 ∧ r = (some (z_i 1), (true, X9, (z_up (z_up (z_up I10 33 0 2 ((I10 33 0 2) - (1 : Int32))) 36 0 k55 (I10 36 0 k51)) 36 0 k63 ((z_up (z_up I10 33 0 2 ((I10 33 0 2) - (1 : Int32))) 36 0 k55 (I10 36 0 k51)) 36 0 k59)), J11))))))) ∧ (b3 = true → ((¬ (I10 33 0 2) = (4 : Int32) → (∃ k68 : Nat, ((2 : Int32) * (I10 33 0 2)) = Int32.ofNat k68 ∧ k68 < 8 ∧ (∃ k72 : Nat, (((2 : Int32) * (I10 33 0 2)) + (1 : Int32)) = Int32.ofNat k72 ∧ k72 < 8 ∧ r = (some (z_i 1), (true, X9, (z_up (z_up (z_up I10 36 0 k68 x1) 36 0 k72 x2) 33 0 2 ((I10 33 0 2) + (1 : Int32))), J11))))) ∧ ((I10 33 0 2) = (4 : Int32) → r = (some (z_i (-2)), (true, X9, I10, J11))))))) ∧ ((1 : Int32) = (z_c b3) → r = (some (z_i 0), (true, X9, I10, J11)))))))) ∧ (b7 = false → r = (some (z_i (-1)), (true, X2, I3, J4)))))))) :
    z_ev (d + 3) (z_en 205 [z_r 33 0, z_i (x1), z_i (x2), z_i (z_c b3)] (true, X, I, J)) r := by
  show z_ev (d + 3) (205, 0, [some (z_r 33 0), some (z_i (x1)), some (z_i (x2)), some (z_i (z_c b3)), none], [], (true, X, I, J)) r
  refine z_ev_gs 3 (c1 := (205, 3, [some (z_r 33 0), some (z_i (x1)), some (z_i (x2)), some (z_i (z_c b3)), none], [z_i 4, z_i 2, z_i (x1)], (true, X, I, J))) rfl ?_
  refine z_ev_ca rfl rfl (z_p158 _ _ _) ?_
  refine z_ev_gs 1 (c1 := (205, (if z_c (z_bw x1 (2 : Int32) (4 : Int32)) = 0 then 18 else 9), [some (z_r 33 0), some (z_i (x1)), some (z_i (x2)), some (z_i (z_c b3)), none], [], (true, X, I, J))) rfl ?_
  refine z_ev_ifc (fun e1 => ?_) (fun e1 => ?_)
  · have h86 := h.1 e1
    refine z_ev_gs 1 (c1 := (205, 19, [some (z_r 33 0), some (z_i (x1)), some (z_i (x2)), some (z_i (z_c b3)), none], [z_i (-1)], (true, X, I, J))) rfl ?_
    rw [h86]
    exact z_ev_rt rfl
  · have h87 := h.2 e1
    refine z_ev_gs 3 (c1 := (205, 12, [some (z_r 33 0), some (z_i (x1)), some (z_i (x2)), some (z_i (z_c b3)), none], [z_i (x2), z_i (x1), z_r 33 0], (true, X, I, J))) rfl ?_
    obtain ⟨b7, X2, I3, J4, g5, h6⟩ := h87
    refine z_ev_ca rfl rfl g5 ?_
    refine z_ev_gs 1 (c1 := (205, (if ¬ z_c b7 = 0 then 20 else 18), [some (z_r 33 0), some (z_i (x1)), some (z_i (x2)), some (z_i (z_c b3)), none], [], (true, X2, I3, J4))) rfl ?_
    refine z_ev_ifcn (fun e8 => ?_) (fun e8 => ?_)
    · have h84 := h6.1 e8
      refine z_ev_gs 3 (c1 := (205, 23, [some (z_r 33 0), some (z_i (x1)), some (z_i (x2)), some (z_i (z_c b3)), none], [z_i (x2), z_i (x1), z_r 33 0], (true, X2, I3, J4))) rfl ?_
      obtain ⟨v14, X9, I10, J11, g12, h13⟩ := h84
      refine z_ev_ca rfl rfl g12 ?_
      refine z_ev_gs 3 (c1 := (205, (if v14 < 0 then 37 else 33), [some (z_r 33 0), some (z_i (x1)), some (z_i (x2)), some (z_i (z_c b3)), some (z_i (v14))], [], (true, X9, I10, J11))) rfl ?_
      refine z_ev_iflt (fun e15 => ?_) (fun e15 => ?_)
      · have h82 := h13.1 e15
        refine z_ev_gs 3 (c1 := (205, (if ¬ (0 : Int32) = (z_c b3) then 44 else 42), [some (z_r 33 0), some (z_i (x1)), some (z_i (x2)), some (z_i (z_c b3)), some (z_i (v14))], [], (true, X9, I10, J11))) rfl ?_
        refine z_ev_ifn (fun e16 => ?_) (fun e16 => ?_)
        · have h47 := h82.1 e16
          refine z_ev_gs 2 (c1 := (205, (if z_c b3 = 0 then 59 else 48), [some (z_r 33 0), some (z_i (x1)), some (z_i (x2)), some (z_i (z_c b3)), some (z_i (v14))], [], (true, X9, I10, J11))) rfl ?_
          refine z_ev_ifc (fun e17 => ?_) (fun e17 => ?_)
          · have h45 := h47.1 e17
            refine z_ev_gs 2 (c1 := (205, (if z_c b3 = 0 then 102 else 63), [some (z_r 33 0), some (z_i (x1)), some (z_i (x2)), some (z_i (z_c b3)), some (z_i (v14))], [], (true, X9, I10, J11))) rfl ?_
            refine z_ev_icf e17 ?_
            refine z_ev_gs 17 (c1 := (205, 130, [some (z_r 33 0), some (z_i (x1)), some (z_i (x2)), some (z_i (z_c b3)), some (z_i (v14))], [z_i ((2 : Int32) * (((I10 33 0 2) - (1 : Int32)))), z_r 36 0, z_i ((2 : Int32) * v14), z_r 36 0], (true, X9, (z_up I10 33 0 2 ((I10 33 0 2) - (1 : Int32))), J11))) rfl ?_
            obtain ⟨k18, e19, e20, h21⟩ := h45
            refine z_ev_iald (t := 36) (i := 0) (k := k18) (n := 8) rfl rfl e19 e20 (by decide) ?_
            obtain ⟨k22, e23, e24, h25⟩ := h21
            refine z_ev_iast (t := 36) (i := 0) (k := k22) (n := 8) rfl rfl e23 e24 (by decide) ?_
            refine z_ev_gs 15 (c1 := (205, 154, [some (z_r 33 0), some (z_i (x1)), some (z_i (x2)), some (z_i (z_c b3)), some (z_i (v14))], [z_i (((2 : Int32) * (((I10 33 0 2) - (1 : Int32)))) + (1 : Int32)), z_r 36 0, z_i (((2 : Int32) * v14) + (1 : Int32)), z_r 36 0], (true, X9, (z_up (z_up I10 33 0 2 ((I10 33 0 2) - (1 : Int32))) 36 0 k22 (I10 36 0 k18)), J11))) rfl ?_
            obtain ⟨k26, e27, e28, h29⟩ := h25
            refine z_ev_iald (t := 36) (i := 0) (k := k26) (n := 8) rfl rfl e27 e28 (by decide) ?_
            obtain ⟨k30, e31, e32, h33⟩ := h29
            refine z_ev_iast (t := 36) (i := 0) (k := k30) (n := 8) rfl rfl e31 e32 (by decide) ?_
            refine z_ev_gs 1 (c1 := (205, 157, [some (z_r 33 0), some (z_i (x1)), some (z_i (x2)), some (z_i (z_c b3)), some (z_i (v14))], [z_i 1], (true, X9, (z_up (z_up (z_up I10 33 0 2 ((I10 33 0 2) - (1 : Int32))) 36 0 k22 (I10 36 0 k18)) 36 0 k30 ((z_up (z_up I10 33 0 2 ((I10 33 0 2) - (1 : Int32))) 36 0 k22 (I10 36 0 k18)) 36 0 k26)), J11))) rfl ?_
            rw [h33]
            exact z_ev_rt rfl
          · have h46 := h47.2 e17
            refine z_ev_gs 4 (c1 := (205, (if ¬ (I10 33 0 2) = (4 : Int32) then 59 else 56), [some (z_r 33 0), some (z_i (x1)), some (z_i (x2)), some (z_i (z_c b3)), some (z_i (v14))], [], (true, X9, I10, J11))) rfl ?_
            refine z_ev_ifn (fun e34 => ?_) (fun e34 => ?_)
            · have h43 := h46.1 e34
              refine z_ev_gs 2 (c1 := (205, (if z_c b3 = 0 then 102 else 63), [some (z_r 33 0), some (z_i (x1)), some (z_i (x2)), some (z_i (z_c b3)), some (z_i (v14))], [], (true, X9, I10, J11))) rfl ?_
              refine z_ev_ict e17 ?_
              refine z_ev_gs 7 (c1 := (205, 74, [some (z_r 33 0), some (z_i (x1)), some (z_i (x2)), some (z_i (z_c b3)), some (z_i (v14))], [z_i (x1), z_i ((2 : Int32) * (I10 33 0 2)), z_r 36 0], (true, X9, I10, J11))) rfl ?_
              obtain ⟨k35, e36, e37, h38⟩ := h43
              refine z_ev_iast (t := 36) (i := 0) (k := k35) (n := 8) rfl rfl e36 e37 (by decide) ?_
              refine z_ev_gs 9 (c1 := (205, 88, [some (z_r 33 0), some (z_i (x1)), some (z_i (x2)), some (z_i (z_c b3)), some (z_i (v14))], [z_i (x2), z_i (((2 : Int32) * (I10 33 0 2)) + (1 : Int32)), z_r 36 0], (true, X9, (z_up I10 36 0 k35 x1), J11))) rfl ?_
              obtain ⟨k39, e40, e41, h42⟩ := h38
              refine z_ev_iast (t := 36) (i := 0) (k := k39) (n := 8) rfl rfl e40 e41 (by decide) ?_
              refine z_ev_gs 8 (c1 := (205, 157, [some (z_r 33 0), some (z_i (x1)), some (z_i (x2)), some (z_i (z_c b3)), some (z_i (v14))], [z_i 1], (true, X9, (z_up (z_up (z_up I10 36 0 k35 x1) 36 0 k39 x2) 33 0 2 ((I10 33 0 2) + (1 : Int32))), J11))) rfl ?_
              rw [h42]
              exact z_ev_rt rfl
            · have h44 := h46.2 e34
              refine z_ev_gs 1 (c1 := (205, 58, [some (z_r 33 0), some (z_i (x1)), some (z_i (x2)), some (z_i (z_c b3)), some (z_i (v14))], [z_i (-2)], (true, X9, I10, J11))) rfl ?_
              rw [h44]
              exact z_ev_rt rfl
        · have h48 := h82.2 e16
          refine z_ev_gs 1 (c1 := (205, 43, [some (z_r 33 0), some (z_i (x1)), some (z_i (x2)), some (z_i (z_c b3)), some (z_i (v14))], [z_i 0], (true, X9, I10, J11))) rfl ?_
          rw [h48]
          exact z_ev_rt rfl
      · have h83 := h13.2 e15
        refine z_ev_gs 4 (c1 := (205, (if ¬ (1 : Int32) = (z_c b3) then 44 else 42), [some (z_r 33 0), some (z_i (x1)), some (z_i (x2)), some (z_i (z_c b3)), some (z_i (v14))], [], (true, X9, I10, J11))) rfl ?_
        refine z_ev_ifn (fun e49 => ?_) (fun e49 => ?_)
        · have h80 := h83.1 e49
          refine z_ev_gs 2 (c1 := (205, (if z_c b3 = 0 then 59 else 48), [some (z_r 33 0), some (z_i (x1)), some (z_i (x2)), some (z_i (z_c b3)), some (z_i (v14))], [], (true, X9, I10, J11))) rfl ?_
          refine z_ev_ifc (fun e50 => ?_) (fun e50 => ?_)
          · have h78 := h80.1 e50
            refine z_ev_gs 2 (c1 := (205, (if z_c b3 = 0 then 102 else 63), [some (z_r 33 0), some (z_i (x1)), some (z_i (x2)), some (z_i (z_c b3)), some (z_i (v14))], [], (true, X9, I10, J11))) rfl ?_
            refine z_ev_icf e50 ?_
            refine z_ev_gs 17 (c1 := (205, 130, [some (z_r 33 0), some (z_i (x1)), some (z_i (x2)), some (z_i (z_c b3)), some (z_i (v14))], [z_i ((2 : Int32) * (((I10 33 0 2) - (1 : Int32)))), z_r 36 0, z_i ((2 : Int32) * v14), z_r 36 0], (true, X9, (z_up I10 33 0 2 ((I10 33 0 2) - (1 : Int32))), J11))) rfl ?_
            obtain ⟨k51, e52, e53, h54⟩ := h78
            refine z_ev_iald (t := 36) (i := 0) (k := k51) (n := 8) rfl rfl e52 e53 (by decide) ?_
            obtain ⟨k55, e56, e57, h58⟩ := h54
            refine z_ev_iast (t := 36) (i := 0) (k := k55) (n := 8) rfl rfl e56 e57 (by decide) ?_
            refine z_ev_gs 15 (c1 := (205, 154, [some (z_r 33 0), some (z_i (x1)), some (z_i (x2)), some (z_i (z_c b3)), some (z_i (v14))], [z_i (((2 : Int32) * (((I10 33 0 2) - (1 : Int32)))) + (1 : Int32)), z_r 36 0, z_i (((2 : Int32) * v14) + (1 : Int32)), z_r 36 0], (true, X9, (z_up (z_up I10 33 0 2 ((I10 33 0 2) - (1 : Int32))) 36 0 k55 (I10 36 0 k51)), J11))) rfl ?_
            obtain ⟨k59, e60, e61, h62⟩ := h58
            refine z_ev_iald (t := 36) (i := 0) (k := k59) (n := 8) rfl rfl e60 e61 (by decide) ?_
            obtain ⟨k63, e64, e65, h66⟩ := h62
            refine z_ev_iast (t := 36) (i := 0) (k := k63) (n := 8) rfl rfl e64 e65 (by decide) ?_
            refine z_ev_gs 1 (c1 := (205, 157, [some (z_r 33 0), some (z_i (x1)), some (z_i (x2)), some (z_i (z_c b3)), some (z_i (v14))], [z_i 1], (true, X9, (z_up (z_up (z_up I10 33 0 2 ((I10 33 0 2) - (1 : Int32))) 36 0 k55 (I10 36 0 k51)) 36 0 k63 ((z_up (z_up I10 33 0 2 ((I10 33 0 2) - (1 : Int32))) 36 0 k55 (I10 36 0 k51)) 36 0 k59)), J11))) rfl ?_
            rw [h66]
            exact z_ev_rt rfl
          · have h79 := h80.2 e50
            refine z_ev_gs 4 (c1 := (205, (if ¬ (I10 33 0 2) = (4 : Int32) then 59 else 56), [some (z_r 33 0), some (z_i (x1)), some (z_i (x2)), some (z_i (z_c b3)), some (z_i (v14))], [], (true, X9, I10, J11))) rfl ?_
            refine z_ev_ifn (fun e67 => ?_) (fun e67 => ?_)
            · have h76 := h79.1 e67
              refine z_ev_gs 2 (c1 := (205, (if z_c b3 = 0 then 102 else 63), [some (z_r 33 0), some (z_i (x1)), some (z_i (x2)), some (z_i (z_c b3)), some (z_i (v14))], [], (true, X9, I10, J11))) rfl ?_
              refine z_ev_ict e50 ?_
              refine z_ev_gs 7 (c1 := (205, 74, [some (z_r 33 0), some (z_i (x1)), some (z_i (x2)), some (z_i (z_c b3)), some (z_i (v14))], [z_i (x1), z_i ((2 : Int32) * (I10 33 0 2)), z_r 36 0], (true, X9, I10, J11))) rfl ?_
              obtain ⟨k68, e69, e70, h71⟩ := h76
              refine z_ev_iast (t := 36) (i := 0) (k := k68) (n := 8) rfl rfl e69 e70 (by decide) ?_
              refine z_ev_gs 9 (c1 := (205, 88, [some (z_r 33 0), some (z_i (x1)), some (z_i (x2)), some (z_i (z_c b3)), some (z_i (v14))], [z_i (x2), z_i (((2 : Int32) * (I10 33 0 2)) + (1 : Int32)), z_r 36 0], (true, X9, (z_up I10 36 0 k68 x1), J11))) rfl ?_
              obtain ⟨k72, e73, e74, h75⟩ := h71
              refine z_ev_iast (t := 36) (i := 0) (k := k72) (n := 8) rfl rfl e73 e74 (by decide) ?_
              refine z_ev_gs 8 (c1 := (205, 157, [some (z_r 33 0), some (z_i (x1)), some (z_i (x2)), some (z_i (z_c b3)), some (z_i (v14))], [z_i 1], (true, X9, (z_up (z_up (z_up I10 36 0 k68 x1) 36 0 k72 x2) 33 0 2 ((I10 33 0 2) + (1 : Int32))), J11))) rfl ?_
              rw [h75]
              exact z_ev_rt rfl
            · have h77 := h79.2 e67
              refine z_ev_gs 1 (c1 := (205, 58, [some (z_r 33 0), some (z_i (x1)), some (z_i (x2)), some (z_i (z_c b3)), some (z_i (v14))], [z_i (-2)], (true, X9, I10, J11))) rfl ?_
              rw [h77]
              exact z_ev_rt rfl
        · have h81 := h83.2 e49
          refine z_ev_gs 1 (c1 := (205, 43, [some (z_r 33 0), some (z_i (x1)), some (z_i (x2)), some (z_i (z_c b3)), some (z_i (v14))], [z_i 0], (true, X9, I10, J11))) rfl ?_
          rw [h81]
          exact z_ev_rt rfl
    · have h85 := h6.2 e8
      refine z_ev_gs 1 (c1 := (205, 19, [some (z_r 33 0), some (z_i (x1)), some (z_i (x2)), some (z_i (z_c b3)), none], [z_i (-1)], (true, X2, I3, J4))) rfl ?_
      rw [h85]
      exact z_ev_rt rfl
theorem z_q138_e {d : Nat} {r : Option z_V × z_M} {X : z_X} {I : Nat → Nat → Nat → Int32} {J : Nat → Nat → Nat → Int64} (x1 : Int32)
    (h : z_ev (d + 1) (138, 2, [some (z_r 0 0), some (z_i (x1)), some (z_i 0)], [], (true, X, I, J)) r) :
    z_ev (d + 1) (z_en 138 [z_r 0 0, z_i (x1)] (true, X, I, J)) r := by
  show z_ev (d + 1) (138, 0, [some (z_r 0 0), some (z_i (x1)), none], [], (true, X, I, J)) r
  refine z_ev_gs 2 (c1 := (138, 2, [some (z_r 0 0), some (z_i (x1)), some (z_i 0)], [], (true, X, I, J))) rfl ?_
  exact h
theorem z_q138_2 {d : Nat} {r : Option z_V × z_M} {X : z_X} {I : Nat → Nat → Nat → Int32} {J : Nat → Nat → Nat → Int64} (x1 : Int32) (x2 : Int32)
    (h : (((z_fo x1) ≤ x2 → r = (some (z_i 0), (true, X, I, J))) ∧ (x2 < (z_fo x1) → (∃ k2 : Nat, x1 = Int32.ofNat k2 ∧ k2 < 5 ∧ (((((I 3 0 k2) >>> (x2 &&& 31)) &&& (1 : Int32)) = 0 → z_ev (d + 1) (138, 2, [some (z_r 0 0), some (z_i (x1)), some (z_i (x2 + (1 : Int32)))], [], (true, X, I, J)) r) ∧ (¬ (((I 3 0 k2) >>> (x2 &&& 31)) &&& (1 : Int32)) = 0 → (∃ k7 : Nat, x2 = Int32.ofNat k7 ∧ k7 < 11 ∧ (((I 25 1 k7) = 0 → z_ev (d + 1) (138, 2, [some (z_r 0 0), some (z_i (x1)), some (z_i (x2 + (1 : Int32)))], [], (true, X, I, J)) r) ∧ (¬ (I 25 1 k7) = 0 → r = (some (z_i 1), (true, X, I, J))))))))))) :
    z_ev (d + 1) ((138, 2, [some (z_r 0 0), some (z_i (x1)), some (z_i (x2))], [], (true, X, I, J))) r := by
  refine z_ev_gs 2 (c1 := (138, 4, [some (z_r 0 0), some (z_i (x1)), some (z_i (x2))], [z_i (x1), z_i (x2)], (true, X, I, J))) rfl ?_
  refine z_ev_ca rfl rfl (z_p127 _) ?_
  refine z_ev_gs 1 (c1 := (138, (if (z_fo x1) ≤ x2 then 46 else 10), [some (z_r 0 0), some (z_i (x1)), some (z_i (x2))], [], (true, X, I, J))) rfl ?_
  refine z_ev_ifle (fun e1 => ?_) (fun e1 => ?_)
  · have h16 := h.1 e1
    refine z_ev_gs 1 (c1 := (138, 47, [some (z_r 0 0), some (z_i (x1)), some (z_i (x2))], [z_i 0], (true, X, I, J))) rfl ?_
    rw [h16]
    exact z_ev_rt rfl
  · have h17 := h.2 e1
    refine z_ev_gs 4 (c1 := (138, 18, [some (z_r 0 0), some (z_i (x1)), some (z_i (x2))], [z_i (x1), z_r 3 0], (true, X, I, J))) rfl ?_
    obtain ⟨k2, e3, e4, h5⟩ := h17
    refine z_ev_iald (t := 3) (i := 0) (k := k2) (n := 5) rfl rfl e3 e4 (by decide) ?_
    refine z_ev_gs 5 (c1 := (138, (if (((I 3 0 k2) >>> (x2 &&& 31)) &&& (1 : Int32)) = 0 then 40 else 26), [some (z_r 0 0), some (z_i (x1)), some (z_i (x2))], [], (true, X, I, J))) rfl ?_
    refine z_ev_if (fun e6 => ?_) (fun e6 => ?_)
    · have h14 := h5.1 e6
      refine z_ev_gs 2 (c1 := (138, 2, [some (z_r 0 0), some (z_i (x1)), some (z_i (x2 + (1 : Int32)))], [], (true, X, I, J))) rfl ?_
      exact h14
    · have h15 := h5.2 e6
      refine z_ev_gs 4 (c1 := (138, 34, [some (z_r 0 0), some (z_i (x1)), some (z_i (x2))], [z_i (x2), z_r 25 1], (true, X, I, J))) rfl ?_
      obtain ⟨k7, e8, e9, h10⟩ := h15
      refine z_ev_iald (t := 25) (i := 1) (k := k7) (n := 11) rfl rfl e8 e9 (by decide) ?_
      refine z_ev_gs 1 (c1 := (138, (if (I 25 1 k7) = 0 then 40 else 38), [some (z_r 0 0), some (z_i (x1)), some (z_i (x2))], [], (true, X, I, J))) rfl ?_
      refine z_ev_if (fun e11 => ?_) (fun e11 => ?_)
      · have h12 := h10.1 e11
        refine z_ev_gs 2 (c1 := (138, 2, [some (z_r 0 0), some (z_i (x1)), some (z_i (x2 + (1 : Int32)))], [], (true, X, I, J))) rfl ?_
        exact h12
      · have h13 := h10.2 e11
        refine z_ev_gs 1 (c1 := (138, 39, [some (z_r 0 0), some (z_i (x1)), some (z_i (x2))], [z_i 1], (true, X, I, J))) rfl ?_
        rw [h13]
        exact z_ev_rt rfl
theorem z_q137_e {d : Nat} {r : Option z_V × z_M} {X : z_X} {I : Nat → Nat → Nat → Int32} {J : Nat → Nat → Nat → Int64} (q1 : Nat) (hq1 : q1 < 10)
    (h : z_ev (d + 16) (137, 2, [some (z_r 0 0), some (z_r 13 q1), some (z_i 2)], [], (true, X, I, J)) r) :
    z_ev (d + 16) (z_en 137 [z_r 0 0, z_r 13 q1] (true, X, I, J)) r := by
  show z_ev (d + 16) (137, 0, [some (z_r 0 0), some (z_r 13 q1), none], [], (true, X, I, J)) r
  refine z_ev_gs 2 (c1 := (137, 2, [some (z_r 0 0), some (z_r 13 q1), some (z_i 2)], [], (true, X, I, J))) rfl ?_
  exact h
theorem z_q137_2 {d : Nat} {r : Option z_V × z_M} {X : z_X} {I : Nat → Nat → Nat → Int32} {J : Nat → Nat → Nat → Int64} (q1 : Nat) (hq1 : q1 < 10) (x2 : Int32)
    (h : (((4 : Int32) < x2 → r = (some (z_i 1), (true, X, I, J))) ∧ (x2 ≤ (4 : Int32) → (∃ k2 : Nat, x2 = Int32.ofNat k2 ∧ k2 < 5 ∧ (((I 3 0 k2) = 0 → z_ev (d + 16) (137, 2, [some (z_r 0 0), some (z_r 13 q1), some (z_i (x2 + (1 : Int32)))], [], (true, X, I, J)) r) ∧ (¬ (I 3 0 k2) = 0 → (∃ (X7 : z_X) (I8 : Nat → Nat → Nat → Int32) (J9 : Nat → Nat → Nat → Int64), z_ev (d + 15) (z_en 42 [z_r 24 1, z_r 13 q1, z_i (x2)] (true, X, I, J)) (none, (true, X7, I8, J9)) ∧ (∃ (b17 : Bool) (X12 : z_X) (I13 : Nat → Nat → Nat → Int32) (J14 : Nat → Nat → Nat → Int64), z_ev (d + 15) (z_en 138 [z_r 0 0, z_i (x2)] (true, X7, I8, J9)) (some (z_i (z_c b17)), (true, X12, I13, J14)) ∧ ((b17 = false → z_ev (d + 16) (137, 2, [some (z_r 0 0), some (z_r 13 q1), some (z_i (x2 + (1 : Int32)))], [], (true, X12, I13, J14)) r) ∧ (b17 = true → r = (some (z_i 0), (true, X12, I13, J14)))))))))))) :
    z_ev (d + 16) ((137, 2, [some (z_r 0 0), some (z_r 13 q1), some (z_i (x2))], [], (true, X, I, J))) r := by
  refine z_ev_gs 3 (c1 := (137, (if (4 : Int32) < x2 then 44 else 7), [some (z_r 0 0), some (z_r 13 q1), some (z_i (x2))], [], (true, X, I, J))) rfl ?_
  refine z_ev_iflt (fun e1 => ?_) (fun e1 => ?_)
  · have h23 := h.1 e1
    refine z_ev_gs 1 (c1 := (137, 45, [some (z_r 0 0), some (z_r 13 q1), some (z_i (x2))], [z_i 1], (true, X, I, J))) rfl ?_
    rw [h23]
    exact z_ev_rt rfl
  · have h24 := h.2 e1
    refine z_ev_gs 4 (c1 := (137, 15, [some (z_r 0 0), some (z_r 13 q1), some (z_i (x2))], [z_i (x2), z_r 3 0], (true, X, I, J))) rfl ?_
    obtain ⟨k2, e3, e4, h5⟩ := h24
    refine z_ev_iald (t := 3) (i := 0) (k := k2) (n := 5) rfl rfl e3 e4 (by decide) ?_
    refine z_ev_gs 1 (c1 := (137, (if (I 3 0 k2) = 0 then 38 else 19), [some (z_r 0 0), some (z_r 13 q1), some (z_i (x2))], [], (true, X, I, J))) rfl ?_
    refine z_ev_if (fun e6 => ?_) (fun e6 => ?_)
    · have h21 := h5.1 e6
      refine z_ev_gs 2 (c1 := (137, 2, [some (z_r 0 0), some (z_r 13 q1), some (z_i (x2 + (1 : Int32)))], [], (true, X, I, J))) rfl ?_
      exact h21
    · have h22 := h5.2 e6
      refine z_ev_gs 4 (c1 := (137, 25, [some (z_r 0 0), some (z_r 13 q1), some (z_i (x2))], [z_i (x2), z_r 13 q1, z_r 24 1], (true, X, I, J))) rfl ?_
      obtain ⟨X7, I8, J9, g10, h11⟩ := h22
      refine z_ev_ca rfl rfl g10 ?_
      refine z_ev_gs 2 (c1 := (137, 30, [some (z_r 0 0), some (z_r 13 q1), some (z_i (x2))], [z_i (x2), z_r 0 0], (true, X7, I8, J9))) rfl ?_
      obtain ⟨b17, X12, I13, J14, g15, h16⟩ := h11
      refine z_ev_ca rfl rfl g15 ?_
      refine z_ev_gs 1 (c1 := (137, (if z_c b17 = 0 then 38 else 36), [some (z_r 0 0), some (z_r 13 q1), some (z_i (x2))], [], (true, X12, I13, J14))) rfl ?_
      refine z_ev_ifc (fun e18 => ?_) (fun e18 => ?_)
      · have h19 := h16.1 e18
        refine z_ev_gs 2 (c1 := (137, 2, [some (z_r 0 0), some (z_r 13 q1), some (z_i (x2 + (1 : Int32)))], [], (true, X12, I13, J14))) rfl ?_
        exact h19
      · have h20 := h16.2 e18
        refine z_ev_gs 1 (c1 := (137, 37, [some (z_r 0 0), some (z_r 13 q1), some (z_i (x2))], [z_i 0], (true, X12, I13, J14))) rfl ?_
        rw [h20]
        exact z_ev_rt rfl
theorem z_q206_e_35 {d : Nat} {r : Option z_V × z_M} {X : z_X} {I : Nat → Nat → Nat → Int32} {J : Nat → Nat → Nat → Int64} (x2 : Int32) (x3 : Int32)
    (h : z_ev (d + 4) (206, 3, [some (z_r 33 0), some (z_r 35 0), some (z_i (x2)), some (z_i (x3)), some (z_i 0)], [], (true, X, I, J)) r) :
    z_ev (d + 4) (z_en 206 [z_r 33 0, z_r 35 0, z_i (x2), z_i (x3)] (true, X, I, J)) r := by
  show z_ev (d + 4) (206, 0, [some (z_r 33 0), some (z_r 35 0), some (z_i (x2)), some (z_i (x3)), none], [], (true, X, I, J)) r
  refine z_ev_gs 2 (c1 := (206, 3, [some (z_r 33 0), some (z_r 35 0), some (z_i (x2)), some (z_i (x3)), some (z_i 0)], [], (true, X, I, J))) rfl ?_
  exact h
theorem z_q206_3_35 {d : Nat} {r : Option z_V × z_M} {X : z_X} {I : Nat → Nat → Nat → Int32} {J : Nat → Nat → Nat → Int64} (x2 : Int32) (x3 : Int32) (x4 : Int32)
    (h : (((I 33 0 2) ≤ x4 → r = (some (z_i 1), (true, X, I, J))) ∧ (x4 < (I 33 0 2) → (∃ k2 : Nat, ((2 : Int32) * x4) = Int32.ofNat k2 ∧ k2 < 8 ∧ (∃ k6 : Nat, (((2 : Int32) * x4) + (1 : Int32)) = Int32.ofNat k6 ∧ k6 < 8 ∧ (∃ (v15 : Int32) (X10 : z_X) (I11 : Nat → Nat → Nat → Int32) (J12 : Nat → Nat → Nat → Int64), z_ev (d + 3) (z_en 194 [z_r 33 0, z_r 35 0, z_i (x2), z_i (x3), z_i (I 36 0 k2), z_i (I 36 0 k6)] (true, X, I, J)) (some (z_i (v15)), (true, X10, I11, J12)) ∧ ((v15 ≤ 0 → z_ev (d + 4) (206, 3, [some (z_r 33 0), some (z_r 35 0), some (z_i (x2)), some (z_i (x3)), some (z_i (x4 + (1 : Int32)))], [], (true, X10, I11, J12)) r) ∧ (0 < v15 → r = (some (z_i 0), (true, X10, I11, J12)))))))))) :
    z_ev (d + 4) ((206, 3, [some (z_r 33 0), some (z_r 35 0), some (z_i (x2)), some (z_i (x3)), some (z_i (x4))], [], (true, X, I, J))) r := by
  refine z_ev_gs 4 (c1 := (206, (if (I 33 0 2) ≤ x4 then 50 else 12), [some (z_r 33 0), some (z_r 35 0), some (z_i (x2)), some (z_i (x3)), some (z_i (x4))], [], (true, X, I, J))) rfl ?_
  refine z_ev_ifle (fun e1 => ?_) (fun e1 => ?_)
  · have h19 := h.1 e1
    refine z_ev_gs 1 (c1 := (206, 51, [some (z_r 33 0), some (z_r 35 0), some (z_i (x2)), some (z_i (x3)), some (z_i (x4))], [z_i 1], (true, X, I, J))) rfl ?_
    rw [h19]
    exact z_ev_rt rfl
  · have h20 := h.2 e1
    refine z_ev_gs 9 (c1 := (206, 24, [some (z_r 33 0), some (z_r 35 0), some (z_i (x2)), some (z_i (x3)), some (z_i (x4))], [z_i ((2 : Int32) * x4), z_r 36 0, z_i (x3), z_i (x2), z_r 35 0, z_r 33 0], (true, X, I, J))) rfl ?_
    obtain ⟨k2, e3, e4, h5⟩ := h20
    refine z_ev_iald (t := 36) (i := 0) (k := k2) (n := 8) rfl rfl e3 e4 (by decide) ?_
    refine z_ev_gs 7 (c1 := (206, 35, [some (z_r 33 0), some (z_r 35 0), some (z_i (x2)), some (z_i (x3)), some (z_i (x4))], [z_i (((2 : Int32) * x4) + (1 : Int32)), z_r 36 0, z_i (I 36 0 k2), z_i (x3), z_i (x2), z_r 35 0, z_r 33 0], (true, X, I, J))) rfl ?_
    obtain ⟨k6, e7, e8, h9⟩ := h5
    refine z_ev_iald (t := 36) (i := 0) (k := k6) (n := 8) rfl rfl e7 e8 (by decide) ?_
    obtain ⟨v15, X10, I11, J12, g13, h14⟩ := h9
    refine z_ev_ca rfl rfl g13 ?_
    refine z_ev_gs 1 (c1 := (206, (if v15 ≤ 0 then 44 else 42), [some (z_r 33 0), some (z_r 35 0), some (z_i (x2)), some (z_i (x3)), some (z_i (x4))], [], (true, X10, I11, J12))) rfl ?_
    refine z_ev_ifle (fun e16 => ?_) (fun e16 => ?_)
    · have h17 := h14.1 e16
      refine z_ev_gs 2 (c1 := (206, 3, [some (z_r 33 0), some (z_r 35 0), some (z_i (x2)), some (z_i (x3)), some (z_i (x4 + (1 : Int32)))], [], (true, X10, I11, J12))) rfl ?_
      exact h17
    · have h18 := h14.2 e16
      refine z_ev_gs 1 (c1 := (206, 43, [some (z_r 33 0), some (z_r 35 0), some (z_i (x2)), some (z_i (x3)), some (z_i (x4))], [z_i 0], (true, X10, I11, J12))) rfl ?_
      rw [h18]
      exact z_ev_rt rfl
theorem z_q206_e_47 {d : Nat} {r : Option z_V × z_M} {X : z_X} {I : Nat → Nat → Nat → Int32} {J : Nat → Nat → Nat → Int64} (x2 : Int32) (x3 : Int32)
    (h : z_ev (d + 4) (206, 3, [some (z_r 33 0), some (z_r 47 0), some (z_i (x2)), some (z_i (x3)), some (z_i 0)], [], (true, X, I, J)) r) :
    z_ev (d + 4) (z_en 206 [z_r 33 0, z_r 47 0, z_i (x2), z_i (x3)] (true, X, I, J)) r := by
  show z_ev (d + 4) (206, 0, [some (z_r 33 0), some (z_r 47 0), some (z_i (x2)), some (z_i (x3)), none], [], (true, X, I, J)) r
  refine z_ev_gs 2 (c1 := (206, 3, [some (z_r 33 0), some (z_r 47 0), some (z_i (x2)), some (z_i (x3)), some (z_i 0)], [], (true, X, I, J))) rfl ?_
  exact h
theorem z_q206_3_47 {d : Nat} {r : Option z_V × z_M} {X : z_X} {I : Nat → Nat → Nat → Int32} {J : Nat → Nat → Nat → Int64} (x2 : Int32) (x3 : Int32) (x4 : Int32)
    (h : (((I 33 0 2) ≤ x4 → r = (some (z_i 1), (true, X, I, J))) ∧ (x4 < (I 33 0 2) → (∃ k2 : Nat, ((2 : Int32) * x4) = Int32.ofNat k2 ∧ k2 < 8 ∧ (∃ k6 : Nat, (((2 : Int32) * x4) + (1 : Int32)) = Int32.ofNat k6 ∧ k6 < 8 ∧ (∃ (v15 : Int32) (X10 : z_X) (I11 : Nat → Nat → Nat → Int32) (J12 : Nat → Nat → Nat → Int64), z_ev (d + 3) (z_en 194 [z_r 33 0, z_r 47 0, z_i (x2), z_i (x3), z_i (I 36 0 k2), z_i (I 36 0 k6)] (true, X, I, J)) (some (z_i (v15)), (true, X10, I11, J12)) ∧ ((v15 ≤ 0 → z_ev (d + 4) (206, 3, [some (z_r 33 0), some (z_r 47 0), some (z_i (x2)), some (z_i (x3)), some (z_i (x4 + (1 : Int32)))], [], (true, X10, I11, J12)) r) ∧ (0 < v15 → r = (some (z_i 0), (true, X10, I11, J12)))))))))) :
    z_ev (d + 4) ((206, 3, [some (z_r 33 0), some (z_r 47 0), some (z_i (x2)), some (z_i (x3)), some (z_i (x4))], [], (true, X, I, J))) r := by
  refine z_ev_gs 4 (c1 := (206, (if (I 33 0 2) ≤ x4 then 50 else 12), [some (z_r 33 0), some (z_r 47 0), some (z_i (x2)), some (z_i (x3)), some (z_i (x4))], [], (true, X, I, J))) rfl ?_
  refine z_ev_ifle (fun e1 => ?_) (fun e1 => ?_)
  · have h19 := h.1 e1
    refine z_ev_gs 1 (c1 := (206, 51, [some (z_r 33 0), some (z_r 47 0), some (z_i (x2)), some (z_i (x3)), some (z_i (x4))], [z_i 1], (true, X, I, J))) rfl ?_
    rw [h19]
    exact z_ev_rt rfl
  · have h20 := h.2 e1
    refine z_ev_gs 9 (c1 := (206, 24, [some (z_r 33 0), some (z_r 47 0), some (z_i (x2)), some (z_i (x3)), some (z_i (x4))], [z_i ((2 : Int32) * x4), z_r 36 0, z_i (x3), z_i (x2), z_r 47 0, z_r 33 0], (true, X, I, J))) rfl ?_
    obtain ⟨k2, e3, e4, h5⟩ := h20
    refine z_ev_iald (t := 36) (i := 0) (k := k2) (n := 8) rfl rfl e3 e4 (by decide) ?_
    refine z_ev_gs 7 (c1 := (206, 35, [some (z_r 33 0), some (z_r 47 0), some (z_i (x2)), some (z_i (x3)), some (z_i (x4))], [z_i (((2 : Int32) * x4) + (1 : Int32)), z_r 36 0, z_i (I 36 0 k2), z_i (x3), z_i (x2), z_r 47 0, z_r 33 0], (true, X, I, J))) rfl ?_
    obtain ⟨k6, e7, e8, h9⟩ := h5
    refine z_ev_iald (t := 36) (i := 0) (k := k6) (n := 8) rfl rfl e7 e8 (by decide) ?_
    obtain ⟨v15, X10, I11, J12, g13, h14⟩ := h9
    refine z_ev_ca rfl rfl g13 ?_
    refine z_ev_gs 1 (c1 := (206, (if v15 ≤ 0 then 44 else 42), [some (z_r 33 0), some (z_r 47 0), some (z_i (x2)), some (z_i (x3)), some (z_i (x4))], [], (true, X10, I11, J12))) rfl ?_
    refine z_ev_ifle (fun e16 => ?_) (fun e16 => ?_)
    · have h17 := h14.1 e16
      refine z_ev_gs 2 (c1 := (206, 3, [some (z_r 33 0), some (z_r 47 0), some (z_i (x2)), some (z_i (x3)), some (z_i (x4 + (1 : Int32)))], [], (true, X10, I11, J12))) rfl ?_
      exact h17
    · have h18 := h14.2 e16
      refine z_ev_gs 1 (c1 := (206, 43, [some (z_r 33 0), some (z_r 47 0), some (z_i (x2)), some (z_i (x3)), some (z_i (x4))], [z_i 0], (true, X10, I11, J12))) rfl ?_
      rw [h18]
      exact z_ev_rt rfl
theorem z_q81_e {d : Nat} {r : Option z_V × z_M} {X : z_X} {I : Nat → Nat → Nat → Int32} {J : Nat → Nat → Nat → Int64} (x1 : Int32)
    (h : (((z_bw x1 0 3) = true → (∃ k2 : Nat, x1 = Int32.ofNat k2 ∧ k2 < 4 ∧ (∃ (b11 : Bool) (X6 : z_X) (I7 : Nat → Nat → Nat → Int32) (J8 : Nat → Nat → Nat → Int64), z_ev (d + 16) (z_en 137 [z_r 0 0, z_r 13 k2] (true, X, I, J)) (some (z_i (z_c b11)), (true, X6, I7, J8)) ∧ ((b11 = false → r = (some (z_i 0), (true, X6, I7, J8))) ∧ (b11 = true → r = (some (z_i 1), (true, X6, I7, J8))))))) ∧ ((z_bw x1 0 3) = false → r = (some (z_i (-1)), (true, X, I, J))))) :
    z_ev (d + 17) (z_en 81 [z_r 0 0, z_i (x1)] (true, X, I, J)) r := by
  show z_ev (d + 17) (81, 0, [some (z_r 0 0), some (z_i (x1))], [], (true, X, I, J)) r
  refine z_ev_gs 1 (c1 := (81, 1, [some (z_r 0 0), some (z_i (x1))], [z_i (x1)], (true, X, I, J))) rfl ?_
  refine z_ev_ca rfl rfl (z_p118 _) ?_
  refine z_ev_gs 1 (c1 := (81, (if ¬ z_c (z_bw x1 0 3) = 0 then 9 else 7), [some (z_r 0 0), some (z_i (x1))], [], (true, X, I, J))) rfl ?_
  refine z_ev_ifcn (fun e1 => ?_) (fun e1 => ?_)
  · have h15 := h.1 e1
    refine z_ev_gs 5 (c1 := (81, 18, [some (z_r 0 0), some (z_i (x1))], [z_i (x1), z_r 2 0, z_r 0 0], (true, X, I, J))) rfl ?_
    obtain ⟨k2, e3, e4, h5⟩ := h15
    refine z_ev_nt0 (k := k2) rfl e3 e4 ?_
    obtain ⟨b11, X6, I7, J8, g9, h10⟩ := h5
    refine z_ev_ca rfl rfl g9 ?_
    refine z_ev_gs 1 (c1 := (81, (if z_c b11 = 0 then 29 else 25), [some (z_r 0 0), some (z_i (x1))], [], (true, X6, I7, J8))) rfl ?_
    refine z_ev_ifc (fun e12 => ?_) (fun e12 => ?_)
    · have h13 := h10.1 e12
      refine z_ev_gs 1 (c1 := (81, 30, [some (z_r 0 0), some (z_i (x1))], [z_i 0], (true, X6, I7, J8))) rfl ?_
      rw [h13]
      exact z_ev_rt rfl
    · have h14 := h10.2 e12
      refine z_ev_gs 2 (c1 := (81, 30, [some (z_r 0 0), some (z_i (x1))], [z_i 1], (true, X6, I7, J8))) rfl ?_
      rw [h14]
      exact z_ev_rt rfl
  · have h16 := h.2 e1
    refine z_ev_gs 1 (c1 := (81, 8, [some (z_r 0 0), some (z_i (x1))], [z_i (-1)], (true, X, I, J))) rfl ?_
    rw [h16]
    exact z_ev_rt rfl
theorem z_q207_e {d : Nat} {r : Option z_V × z_M} {X : z_X} {I : Nat → Nat → Nat → Int32} {J : Nat → Nat → Nat → Int64} (x1 : Int32)
    (h : (((z_bw x1 0 3) = true → (∃ k2 : Nat, x1 = Int32.ofNat k2 ∧ k2 < 4 ∧ (∃ (b11 : Bool) (X6 : z_X) (I7 : Nat → Nat → Nat → Int32) (J8 : Nat → Nat → Nat → Int64), z_ev (d + 4) (z_en 206 [z_r 33 0, z_r 35 0, z_i ((10 : Int32) * x1), z_i (I 34 0 k2)] (true, X, I, J)) (some (z_i (z_c b11)), (true, X6, I7, J8)) ∧ ((b11 = false → r = (some (z_i 0), (true, X6, I7, J8))) ∧ (b11 = true → r = (some (z_i 1), (true, X6, I7, J8))))))) ∧ ((z_bw x1 0 3) = false → r = (some (z_i (-1)), (true, X, I, J))))) :
    z_ev (d + 5) (z_en 207 [z_r 33 0, z_i (x1)] (true, X, I, J)) r := by
  show z_ev (d + 5) (207, 0, [some (z_r 33 0), some (z_i (x1))], [], (true, X, I, J)) r
  refine z_ev_gs 1 (c1 := (207, 1, [some (z_r 33 0), some (z_i (x1))], [z_i (x1)], (true, X, I, J))) rfl ?_
  refine z_ev_ca rfl rfl (z_p162 _) ?_
  refine z_ev_gs 1 (c1 := (207, (if ¬ z_c (z_bw x1 0 3) = 0 then 9 else 7), [some (z_r 33 0), some (z_i (x1))], [], (true, X, I, J))) rfl ?_
  refine z_ev_ifcn (fun e1 => ?_) (fun e1 => ?_)
  · have h15 := h.1 e1
    refine z_ev_gs 9 (c1 := (207, 23, [some (z_r 33 0), some (z_i (x1))], [z_i (x1), z_r 34 0, z_i ((10 : Int32) * x1), z_r 35 0, z_r 33 0], (true, X, I, J))) rfl ?_
    obtain ⟨k2, e3, e4, h5⟩ := h15
    refine z_ev_iald (t := 34) (i := 0) (k := k2) (n := 4) rfl rfl e3 e4 (by decide) ?_
    obtain ⟨b11, X6, I7, J8, g9, h10⟩ := h5
    refine z_ev_ca rfl rfl g9 ?_
    refine z_ev_gs 1 (c1 := (207, (if z_c b11 = 0 then 34 else 30), [some (z_r 33 0), some (z_i (x1))], [], (true, X6, I7, J8))) rfl ?_
    refine z_ev_ifc (fun e12 => ?_) (fun e12 => ?_)
    · have h13 := h10.1 e12
      refine z_ev_gs 1 (c1 := (207, 35, [some (z_r 33 0), some (z_i (x1))], [z_i 0], (true, X6, I7, J8))) rfl ?_
      rw [h13]
      exact z_ev_rt rfl
    · have h14 := h10.2 e12
      refine z_ev_gs 2 (c1 := (207, 35, [some (z_r 33 0), some (z_i (x1))], [z_i 1], (true, X6, I7, J8))) rfl ?_
      rw [h14]
      exact z_ev_rt rfl
  · have h16 := h.2 e1
    refine z_ev_gs 1 (c1 := (207, 8, [some (z_r 33 0), some (z_i (x1))], [z_i (-1)], (true, X, I, J))) rfl ?_
    rw [h16]
    exact z_ev_rt rfl
theorem z_q139_e {d : Nat} {r : Option z_V × z_M} {X : z_X} {I : Nat → Nat → Nat → Int32} {J : Nat → Nat → Nat → Int64} (x1 : Int32)
    (h : z_ev (d + 17) (139, 4, [some (z_r 0 0), some (z_i (x1)), some (z_i 0), some (z_i 0)], [], (true, X, I, J)) r) :
    z_ev (d + 17) (z_en 139 [z_r 0 0, z_i (x1)] (true, X, I, J)) r := by
  show z_ev (d + 17) (139, 0, [some (z_r 0 0), some (z_i (x1)), none, none], [], (true, X, I, J)) r
  refine z_ev_gs 4 (c1 := (139, 4, [some (z_r 0 0), some (z_i (x1)), some (z_i 0), some (z_i 0)], [], (true, X, I, J))) rfl ?_
  exact h
theorem z_q139_4 {d : Nat} {r : Option z_V × z_M} {X : z_X} {I : Nat → Nat → Nat → Int32} {J : Nat → Nat → Nat → Int64} (x1 : Int32) (x2 : Int32) (x3 : Int32)
    (h : (((z_fo x1) ≤ x3 → r = (some (z_i (x2)), (true, X, I, J))) ∧ (x3 < (z_fo x1) → (∃ k2 : Nat, x3 = Int32.ofNat k2 ∧ k2 < 11 ∧ (∃ (X6 : z_X) (I7 : Nat → Nat → Nat → Int32) (J8 : Nat → Nat → Nat → Int64), z_ev (d + 16) (z_en 21 [z_r 13 9, z_i (x1), z_i ((z_stc.getD 0 []).getD k2 0)] (true, X, I, J)) (none, (true, X6, I7, J8)) ∧ (∃ (b16 : Bool) (X11 : z_X) (I12 : Nat → Nat → Nat → Int32) (J13 : Nat → Nat → Nat → Int64), z_ev (d + 16) (z_en 137 [z_r 0 0, z_r 13 9] (true, X6, I7, J8)) (some (z_i (z_c b16)), (true, X11, I12, J13)) ∧ ((b16 = false → z_ev (d + 17) (139, 4, [some (z_r 0 0), some (z_i (x1)), some (z_i (x2)), some (z_i (x3 + (1 : Int32)))], [], (true, X11, I12, J13)) r) ∧ (b16 = true → z_ev (d + 17) (139, 4, [some (z_r 0 0), some (z_i (x1)), some (z_i (x2 ||| ((1 : Int32) <<< (x3 &&& 31)))), some (z_i (x3 + (1 : Int32)))], [], (true, X11, I12, J13)) r)))))))) :
    z_ev (d + 17) ((139, 4, [some (z_r 0 0), some (z_i (x1)), some (z_i (x2)), some (z_i (x3))], [], (true, X, I, J))) r := by
  refine z_ev_gs 2 (c1 := (139, 6, [some (z_r 0 0), some (z_i (x1)), some (z_i (x2)), some (z_i (x3))], [z_i (x1), z_i (x3)], (true, X, I, J))) rfl ?_
  refine z_ev_ca rfl rfl (z_p127 _) ?_
  refine z_ev_gs 1 (c1 := (139, (if (z_fo x1) ≤ x3 then 48 else 12), [some (z_r 0 0), some (z_i (x1)), some (z_i (x2)), some (z_i (x3))], [], (true, X, I, J))) rfl ?_
  refine z_ev_ifle (fun e1 => ?_) (fun e1 => ?_)
  · have h20 := h.1 e1
    refine z_ev_gs 1 (c1 := (139, 49, [some (z_r 0 0), some (z_i (x1)), some (z_i (x2)), some (z_i (x3))], [z_i (x2)], (true, X, I, J))) rfl ?_
    rw [h20]
    exact z_ev_rt rfl
  · have h21 := h.2 e1
    refine z_ev_gs 5 (c1 := (139, 21, [some (z_r 0 0), some (z_i (x1)), some (z_i (x2)), some (z_i (x3))], [z_i (x3), z_r 66 0, z_i (x1), z_r 13 9], (true, X, I, J))) rfl ?_
    obtain ⟨k2, e3, e4, h5⟩ := h21
    refine z_ev_sld (k := k2) (n := 11) rfl e3 e4 (by decide) ?_
    obtain ⟨X6, I7, J8, g9, h10⟩ := h5
    refine z_ev_ca rfl rfl g9 ?_
    refine z_ev_gs 3 (c1 := (139, 30, [some (z_r 0 0), some (z_i (x1)), some (z_i (x2)), some (z_i (x3))], [z_r 13 9, z_r 0 0], (true, X6, I7, J8))) rfl ?_
    obtain ⟨b16, X11, I12, J13, g14, h15⟩ := h10
    refine z_ev_ca rfl rfl g14 ?_
    refine z_ev_gs 1 (c1 := (139, (if z_c b16 = 0 then 42 else 36), [some (z_r 0 0), some (z_i (x1)), some (z_i (x2)), some (z_i (x3))], [], (true, X11, I12, J13))) rfl ?_
    refine z_ev_ifc (fun e17 => ?_) (fun e17 => ?_)
    · have h18 := h15.1 e17
      refine z_ev_gs 2 (c1 := (139, 4, [some (z_r 0 0), some (z_i (x1)), some (z_i (x2)), some (z_i (x3 + (1 : Int32)))], [], (true, X11, I12, J13))) rfl ?_
      exact h18
    · have h19 := h15.2 e17
      refine z_ev_gs 8 (c1 := (139, 4, [some (z_r 0 0), some (z_i (x1)), some (z_i (x2 ||| ((1 : Int32) <<< (x3 &&& 31)))), some (z_i (x3 + (1 : Int32)))], [], (true, X11, I12, J13))) rfl ?_
      exact h19
theorem z_q208_e {d : Nat} {r : Option z_V × z_M} {X : z_X} {I : Nat → Nat → Nat → Int32} {J : Nat → Nat → Nat → Int64} (x1 : Int32)
    (h : z_ev (d + 5) (208, 4, [some (z_r 33 0), some (z_i (x1)), some (z_i 0), some (z_i 0)], [], (true, X, I, J)) r) :
    z_ev (d + 5) (z_en 208 [z_r 33 0, z_i (x1)] (true, X, I, J)) r := by
  show z_ev (d + 5) (208, 0, [some (z_r 33 0), some (z_i (x1)), none, none], [], (true, X, I, J)) r
  refine z_ev_gs 4 (c1 := (208, 4, [some (z_r 33 0), some (z_i (x1)), some (z_i 0), some (z_i 0)], [], (true, X, I, J))) rfl ?_
  exact h
theorem z_q208_4 {d : Nat} {r : Option z_V × z_M} {X : z_X} {I : Nat → Nat → Nat → Int32} {J : Nat → Nat → Nat → Int64} (x1 : Int32) (x2 : Int32) (x3 : Int32)
    (h : (∃ k1 : Nat, x1 = Int32.ofNat k1 ∧ k1 < 5 ∧ (((I 42 0 k1) ≤ x3 → r = (some (z_i (x2)), (true, X, I, J))) ∧ (x3 < (I 42 0 k1) → (∃ k6 : Nat, (((11 : Int32) * x1) + x3) = Int32.ofNat k6 ∧ k6 < 55 ∧ (∃ (X10 : z_X) (I11 : Nat → Nat → Nat → Int32) (J12 : Nat → Nat → Nat → Int64), z_ev (d + 4) (z_en 201 [z_r 33 0, z_i (x1), z_i (I 41 0 k6)] (true, X, I, J)) (none, (true, X10, I11, J12)) ∧ (∃ (b20 : Bool) (X15 : z_X) (I16 : Nat → Nat → Nat → Int32) (J17 : Nat → Nat → Nat → Int64), z_ev (d + 4) (z_en 206 [z_r 33 0, z_r 47 0, z_i 0, z_i (x1)] (true, X10, I11, J12)) (some (z_i (z_c b20)), (true, X15, I16, J17)) ∧ ((b20 = false → z_ev (d + 5) (208, 4, [some (z_r 33 0), some (z_i (x1)), some (z_i (x2 ||| (0 : Int32))), some (z_i (x3 + (1 : Int32)))], [], (true, X15, I16, J17)) r) ∧ (b20 = true → z_ev (d + 5) (208, 4, [some (z_r 33 0), some (z_i (x1)), some (z_i (x2 ||| ((1 : Int32) <<< (x3 &&& 31)))), some (z_i (x3 + (1 : Int32)))], [], (true, X15, I16, J17)) r))))))))) :
    z_ev (d + 5) ((208, 4, [some (z_r 33 0), some (z_i (x1)), some (z_i (x2)), some (z_i (x3))], [], (true, X, I, J))) r := by
  refine z_ev_gs 4 (c1 := (208, 10, [some (z_r 33 0), some (z_i (x1)), some (z_i (x2)), some (z_i (x3))], [z_i (x1), z_r 42 0, z_i (x3)], (true, X, I, J))) rfl ?_
  obtain ⟨k1, e2, e3, h4⟩ := h
  refine z_ev_iald (t := 42) (i := 0) (k := k1) (n := 5) rfl rfl e2 e3 (by decide) ?_
  refine z_ev_gs 1 (c1 := (208, (if (I 42 0 k1) ≤ x3 then 59 else 14), [some (z_r 33 0), some (z_i (x1)), some (z_i (x2)), some (z_i (x3))], [], (true, X, I, J))) rfl ?_
  refine z_ev_ifle (fun e5 => ?_) (fun e5 => ?_)
  · have h24 := h4.1 e5
    refine z_ev_gs 1 (c1 := (208, 60, [some (z_r 33 0), some (z_i (x1)), some (z_i (x2)), some (z_i (x3))], [z_i (x2)], (true, X, I, J))) rfl ?_
    rw [h24]
    exact z_ev_rt rfl
  · have h25 := h4.2 e5
    refine z_ev_gs 9 (c1 := (208, 26, [some (z_r 33 0), some (z_i (x1)), some (z_i (x2)), some (z_i (x3))], [z_i (((11 : Int32) * x1) + x3), z_r 41 0, z_i (x1), z_r 33 0], (true, X, I, J))) rfl ?_
    obtain ⟨k6, e7, e8, h9⟩ := h25
    refine z_ev_iald (t := 41) (i := 0) (k := k6) (n := 55) rfl rfl e7 e8 (by decide) ?_
    obtain ⟨X10, I11, J12, g13, h14⟩ := h9
    refine z_ev_ca rfl rfl g13 ?_
    refine z_ev_gs 6 (c1 := (208, 38, [some (z_r 33 0), some (z_i (x1)), some (z_i (x2)), some (z_i (x3))], [z_i (x1), z_i 0, z_r 47 0, z_r 33 0, z_i (x2)], (true, X10, I11, J12))) rfl ?_
    obtain ⟨b20, X15, I16, J17, g18, h19⟩ := h14
    refine z_ev_ca rfl rfl g18 ?_
    refine z_ev_gs 1 (c1 := (208, (if z_c b20 = 0 then 50 else 44), [some (z_r 33 0), some (z_i (x1)), some (z_i (x2)), some (z_i (x3))], [z_i (x2)], (true, X15, I16, J17))) rfl ?_
    refine z_ev_ifc (fun e21 => ?_) (fun e21 => ?_)
    · have h22 := h19.1 e21
      refine z_ev_gs 5 (c1 := (208, 4, [some (z_r 33 0), some (z_i (x1)), some (z_i (x2 ||| (0 : Int32))), some (z_i (x3 + (1 : Int32)))], [], (true, X15, I16, J17))) rfl ?_
      exact h22
    · have h23 := h19.2 e21
      refine z_ev_gs 8 (c1 := (208, 4, [some (z_r 33 0), some (z_i (x1)), some (z_i (x2 ||| ((1 : Int32) <<< (x3 &&& 31)))), some (z_i (x3 + (1 : Int32)))], [], (true, X15, I16, J17))) rfl ?_
      exact h23
theorem z_q82_e {d : Nat} {r : Option z_V × z_M} {X : z_X} {I : Nat → Nat → Nat → Int32} {J : Nat → Nat → Nat → Int64} (x1 : Int32)
    (h : ((x1 < (2 : Int32) → r = (some (z_i (-1)), (true, X, I, J))) ∧ ((2 : Int32) ≤ x1 → ((x1 ≤ (4 : Int32) → (∃ (v8 : Int32) (X3 : z_X) (I4 : Nat → Nat → Nat → Int32) (J5 : Nat → Nat → Nat → Int64), z_ev (d + 17) (z_en 139 [z_r 0 0, z_i (x1)] (true, X, I, J)) (some (z_i (v8)), (true, X3, I4, J5)) ∧ r = (some (z_i (v8)), (true, X3, I4, J5)))) ∧ ((4 : Int32) < x1 → r = (some (z_i (-1)), (true, X, I, J))))))) :
    z_ev (d + 18) (z_en 82 [z_r 0 0, z_i (x1)] (true, X, I, J)) r := by
  show z_ev (d + 18) (82, 0, [some (z_r 0 0), some (z_i (x1))], [], (true, X, I, J)) r
  refine z_ev_gs 3 (c1 := (82, (if x1 < (2 : Int32) then 10 else 5), [some (z_r 0 0), some (z_i (x1))], [], (true, X, I, J))) rfl ?_
  refine z_ev_iflt (fun e1 => ?_) (fun e1 => ?_)
  · have h11 := h.1 e1
    refine z_ev_gs 2 (c1 := (82, 19, [some (z_r 0 0), some (z_i (x1))], [z_i (-1)], (true, X, I, J))) rfl ?_
    rw [h11]
    exact z_ev_rt rfl
  · have h12 := h.2 e1
    refine z_ev_gs 3 (c1 := (82, (if x1 ≤ (4 : Int32) then 14 else 10), [some (z_r 0 0), some (z_i (x1))], [], (true, X, I, J))) rfl ?_
    refine z_ev_ifle (fun e2 => ?_) (fun e2 => ?_)
    · have h9 := h12.1 e2
      refine z_ev_gs 2 (c1 := (82, 16, [some (z_r 0 0), some (z_i (x1))], [z_i (x1), z_r 0 0], (true, X, I, J))) rfl ?_
      obtain ⟨v8, X3, I4, J5, g6, h7⟩ := h9
      refine z_ev_ca rfl rfl g6 ?_
      rw [h7]
      exact z_ev_rt rfl
    · have h10 := h12.2 e2
      refine z_ev_gs 2 (c1 := (82, 19, [some (z_r 0 0), some (z_i (x1))], [z_i (-1)], (true, X, I, J))) rfl ?_
      rw [h10]
      exact z_ev_rt rfl
theorem z_q209_e {d : Nat} {r : Option z_V × z_M} {X : z_X} {I : Nat → Nat → Nat → Int32} {J : Nat → Nat → Nat → Int64} (x1 : Int32)
    (h : (((z_bw x1 (2 : Int32) (4 : Int32)) = false → r = (some (z_i (-1)), (true, X, I, J))) ∧ ((z_bw x1 (2 : Int32) (4 : Int32)) = true → (∃ (v7 : Int32) (X2 : z_X) (I3 : Nat → Nat → Nat → Int32) (J4 : Nat → Nat → Nat → Int64), z_ev (d + 5) (z_en 208 [z_r 33 0, z_i (x1)] (true, X, I, J)) (some (z_i (v7)), (true, X2, I3, J4)) ∧ r = (some (z_i (v7)), (true, X2, I3, J4)))))) :
    z_ev (d + 6) (z_en 209 [z_r 33 0, z_i (x1)] (true, X, I, J)) r := by
  show z_ev (d + 6) (209, 0, [some (z_r 33 0), some (z_i (x1))], [], (true, X, I, J)) r
  refine z_ev_gs 3 (c1 := (209, 3, [some (z_r 33 0), some (z_i (x1))], [z_i 4, z_i 2, z_i (x1)], (true, X, I, J))) rfl ?_
  refine z_ev_ca rfl rfl (z_p158 _ _ _) ?_
  refine z_ev_gs 1 (c1 := (209, (if z_c (z_bw x1 (2 : Int32) (4 : Int32)) = 0 then 17 else 9), [some (z_r 33 0), some (z_i (x1))], [], (true, X, I, J))) rfl ?_
  refine z_ev_ifc (fun e1 => ?_) (fun e1 => ?_)
  · have h8 := h.1 e1
    refine z_ev_gs 1 (c1 := (209, 18, [some (z_r 33 0), some (z_i (x1))], [z_i (-1)], (true, X, I, J))) rfl ?_
    rw [h8]
    exact z_ev_rt rfl
  · have h9 := h.2 e1
    refine z_ev_gs 2 (c1 := (209, 11, [some (z_r 33 0), some (z_i (x1))], [z_i (x1), z_r 33 0], (true, X, I, J))) rfl ?_
    obtain ⟨v7, X2, I3, J4, g5, h6⟩ := h9
    refine z_ev_ca rfl rfl g5 ?_
    refine z_ev_gs 1 (c1 := (209, 18, [some (z_r 33 0), some (z_i (x1))], [z_i (v7)], (true, X2, I3, J4))) rfl ?_
    rw [h6]
    exact z_ev_rt rfl
theorem z_q104_e {d : Nat} {r : Option z_V × z_M} {X : z_X} {I : Nat → Nat → Nat → Int32} {J : Nat → Nat → Nat → Int64} (x1 : Int32) (x2 : Int32)
    (h : (((z_bw x1 0 3) = false → r = (some (z_i (-1)), (true, X, I, J))) ∧ ((z_bw x1 0 3) = true → ((x2 < (1 : Int32) → r = (some (z_i (-1)), (true, X, I, J))) ∧ ((1 : Int32) ≤ x2 → ((x2 ≤ (4 : Int32) → (∃ k4 : Nat, x1 = Int32.ofNat k4 ∧ k4 < 4 ∧ (∃ (X8 : z_X) (I9 : Nat → Nat → Nat → Int32) (J10 : Nat → Nat → Nat → Int64), z_ev (d + 15) (z_en 42 [z_r 24 0, z_r 13 k4, z_i (x2)] (true, X, I, J)) (none, (true, X8, I9, J10)) ∧ z_ev (d + 16) (104, 43, [some (z_r 0 0), some (z_i (x1)), some (z_i (x2)), some (z_i 0)], [], (true, X8, (z_up I9 0 0 7 (0 : Int32)), J10)) r))) ∧ ((4 : Int32) < x2 → r = (some (z_i (-1)), (true, X, I, J))))))))) :
    z_ev (d + 16) (z_en 104 [z_r 0 0, z_i (x1), z_i (x2)] (true, X, I, J)) r := by
  show z_ev (d + 16) (104, 0, [some (z_r 0 0), some (z_i (x1)), some (z_i (x2)), none], [], (true, X, I, J)) r
  refine z_ev_gs 1 (c1 := (104, 1, [some (z_r 0 0), some (z_i (x1)), some (z_i (x2)), none], [z_i (x1)], (true, X, I, J))) rfl ?_
  refine z_ev_ca rfl rfl (z_p118 _) ?_
  refine z_ev_gs 1 (c1 := (104, (if z_c (z_bw x1 0 3) = 0 then 17 else 7), [some (z_r 0 0), some (z_i (x1)), some (z_i (x2)), none], [], (true, X, I, J))) rfl ?_
  refine z_ev_ifc (fun e1 => ?_) (fun e1 => ?_)
  · have h17 := h.1 e1
    refine z_ev_gs 1 (c1 := (104, 18, [some (z_r 0 0), some (z_i (x1)), some (z_i (x2)), none], [z_i (-1)], (true, X, I, J))) rfl ?_
    rw [h17]
    exact z_ev_rt rfl
  · have h18 := h.2 e1
    refine z_ev_gs 3 (c1 := (104, (if x2 < (1 : Int32) then 17 else 12), [some (z_r 0 0), some (z_i (x1)), some (z_i (x2)), none], [], (true, X, I, J))) rfl ?_
    refine z_ev_iflt (fun e2 => ?_) (fun e2 => ?_)
    · have h15 := h18.1 e2
      refine z_ev_gs 1 (c1 := (104, 18, [some (z_r 0 0), some (z_i (x1)), some (z_i (x2)), none], [z_i (-1)], (true, X, I, J))) rfl ?_
      rw [h15]
      exact z_ev_rt rfl
    · have h16 := h18.2 e2
      refine z_ev_gs 3 (c1 := (104, (if x2 ≤ (4 : Int32) then 19 else 17), [some (z_r 0 0), some (z_i (x1)), some (z_i (x2)), none], [], (true, X, I, J))) rfl ?_
      refine z_ev_ifle (fun e3 => ?_) (fun e3 => ?_)
      · have h13 := h16.1 e3
        refine z_ev_gs 6 (c1 := (104, 31, [some (z_r 0 0), some (z_i (x1)), some (z_i (x2)), none], [z_i (x1), z_r 2 0, z_r 24 0], (true, X, I, J))) rfl ?_
        obtain ⟨k4, e5, e6, h7⟩ := h13
        refine z_ev_nt0 (k := k4) rfl e5 e6 ?_
        refine z_ev_gs 1 (c1 := (104, 33, [some (z_r 0 0), some (z_i (x1)), some (z_i (x2)), none], [z_i (x2), z_r 13 k4, z_r 24 0], (true, X, I, J))) rfl ?_
        obtain ⟨X8, I9, J10, g11, h12⟩ := h7
        refine z_ev_ca rfl rfl g11 ?_
        refine z_ev_gs 5 (c1 := (104, 43, [some (z_r 0 0), some (z_i (x1)), some (z_i (x2)), some (z_i 0)], [], (true, X8, (z_up I9 0 0 7 (0 : Int32)), J10))) rfl ?_
        exact h12
      · have h14 := h16.2 e3
        refine z_ev_gs 1 (c1 := (104, 18, [some (z_r 0 0), some (z_i (x1)), some (z_i (x2)), none], [z_i (-1)], (true, X, I, J))) rfl ?_
        rw [h14]
        exact z_ev_rt rfl
theorem z_q104_43 {d : Nat} {r : Option z_V × z_M} {X : z_X} {I : Nat → Nat → Nat → Int32} {J : Nat → Nat → Nat → Int64} (x1 : Int32) (x2 : Int32) (x3 : Int32)
    (h : (((z_fo x2) ≤ x3 → r = (some (z_i (I 0 0 7)), (true, X, I, J))) ∧ (x3 < (z_fo x2) → (∃ k20 : Nat, x3 = Int32.ofNat k20 ∧ k20 < 11 ∧ (((I 25 0 k20) ≤ 0 → z_ev (d + 16) (104, 43, [some (z_r 0 0), some (z_i (x1)), some (z_i (x2)), some (z_i (x3 + (1 : Int32)))], [], (true, X, I, J)) r) ∧ (0 < (I 25 0 k20) → (∃ k25 : Nat, (I 0 0 7) = Int32.ofNat k25 ∧ k25 < 11 ∧ z_ev (d + 16) (104, 43, [some (z_r 0 0), some (z_i (x1)), some (z_i (x2)), some (z_i (x3 + (1 : Int32)))], [], (true, X, (z_up (z_up (z_up I 19 0 k25 ((z_stc.getD 0 []).getD k20 0)) 20 0 k25 (I 25 0 k20)) 0 0 7 ((I 0 0 7) + (1 : Int32))), J)) r))))))) :
    z_ev (d + 16) ((104, 43, [some (z_r 0 0), some (z_i (x1)), some (z_i (x2)), some (z_i (x3))], [], (true, X, I, J))) r := by
  refine z_ev_gs 2 (c1 := (104, 45, [some (z_r 0 0), some (z_i (x1)), some (z_i (x2)), some (z_i (x3))], [z_i (x2), z_i (x3)], (true, X, I, J))) rfl ?_
  refine z_ev_ca rfl rfl (z_p127 _) ?_
  refine z_ev_gs 1 (c1 := (104, (if (z_fo x2) ≤ x3 then 111 else 51), [some (z_r 0 0), some (z_i (x1)), some (z_i (x2)), some (z_i (x3))], [], (true, X, I, J))) rfl ?_
  refine z_ev_ifle (fun e19 => ?_) (fun e19 => ?_)
  · have h31 := h.1 e19
    refine z_ev_gs 2 (c1 := (104, 115, [some (z_r 0 0), some (z_i (x1)), some (z_i (x2)), some (z_i (x3))], [z_i (I 0 0 7)], (true, X, I, J))) rfl ?_
    rw [h31]
    exact z_ev_rt rfl
  · have h32 := h.2 e19
    refine z_ev_gs 4 (c1 := (104, 59, [some (z_r 0 0), some (z_i (x1)), some (z_i (x2)), some (z_i (x3))], [z_i (x3), z_r 25 0], (true, X, I, J))) rfl ?_
    obtain ⟨k20, e21, e22, h23⟩ := h32
    refine z_ev_iald (t := 25) (i := 0) (k := k20) (n := 11) rfl rfl e21 e22 (by decide) ?_
    refine z_ev_gs 1 (c1 := (104, (if (I 25 0 k20) ≤ 0 then 105 else 63), [some (z_r 0 0), some (z_i (x1)), some (z_i (x2)), some (z_i (x3))], [], (true, X, I, J))) rfl ?_
    refine z_ev_ifle (fun e24 => ?_) (fun e24 => ?_)
    · have h29 := h23.1 e24
      refine z_ev_gs 2 (c1 := (104, 43, [some (z_r 0 0), some (z_i (x1)), some (z_i (x2)), some (z_i (x3 + (1 : Int32)))], [], (true, X, I, J))) rfl ?_
      exact h29
    · have h30 := h23.2 e24
      refine z_ev_gs 6 (c1 := (104, 75, [some (z_r 0 0), some (z_i (x1)), some (z_i (x2)), some (z_i (x3))], [z_i (x3), z_r 66 0, z_i (I 0 0 7), z_r 19 0], (true, X, I, J))) rfl ?_
      refine z_ev_sld (k := k20) (n := 11) rfl e21 (Nat.lt_of_lt_of_le e22 (by decide)) (by decide) ?_
      obtain ⟨k25, e26, e27, h28⟩ := h30
      refine z_ev_iast (t := 19) (i := 0) (k := k25) (n := 11) rfl rfl e26 e27 (by decide) ?_
      refine z_ev_gs 8 (c1 := (104, 93, [some (z_r 0 0), some (z_i (x1)), some (z_i (x2)), some (z_i (x3))], [z_i (x3), z_r 25 0, z_i (I 0 0 7), z_r 20 0], (true, X, (z_up I 19 0 k25 ((z_stc.getD 0 []).getD k20 0)), J))) rfl ?_
      refine z_ev_iald (t := 25) (i := 0) (k := k20) (n := 11) rfl rfl e21 (Nat.lt_of_lt_of_le e22 (by decide)) (by decide) ?_
      refine z_ev_iast (t := 20) (i := 0) (k := k25) (n := 11) rfl rfl e26 (Nat.lt_of_lt_of_le e27 (by decide)) (by decide) ?_
      refine z_ev_gs 8 (c1 := (104, 43, [some (z_r 0 0), some (z_i (x1)), some (z_i (x2)), some (z_i (x3 + (1 : Int32)))], [], (true, X, (z_up (z_up (z_up I 19 0 k25 ((z_stc.getD 0 []).getD k20 0)) 20 0 k25 (I 25 0 k20)) 0 0 7 ((I 0 0 7) + (1 : Int32))), J))) rfl ?_
      exact h28
theorem z_q243_e {d : Nat} {r : Option z_V × z_M} {X : z_X} {I : Nat → Nat → Nat → Int32} {J : Nat → Nat → Nat → Int64} (x1 : Int32) (x2 : Int32)
    (h : z_ev (d + 5) (243, 7, [some (z_r 33 0), some (z_i (x1)), some (z_i (x2)), some (z_i 0), none], [], (true, X, (z_up I 33 0 39 (0 : Int32)), J)) r) :
    z_ev (d + 5) (z_en 243 [z_r 33 0, z_i (x1), z_i (x2)] (true, X, I, J)) r := by
  show z_ev (d + 5) (243, 0, [some (z_r 33 0), some (z_i (x1)), some (z_i (x2)), none, none], [], (true, X, I, J)) r
  refine z_ev_gs 5 (c1 := (243, 7, [some (z_r 33 0), some (z_i (x1)), some (z_i (x2)), some (z_i 0), none], [], (true, X, (z_up I 33 0 39 (0 : Int32)), J))) rfl ?_
  exact h
theorem z_q243_7 {d : Nat} {r : Option z_V × z_M} {X : z_X} {I : Nat → Nat → Nat → Int32} {J : Nat → Nat → Nat → Int64} (x1 : Int32) (x2 : Int32) (x3 : Int32) (o4 : Option z_V)
    (h : (∃ k29 : Nat, x2 = Int32.ofNat k29 ∧ k29 < 5 ∧ (((I 42 0 k29) ≤ x3 → r = (none, (true, X, I, J))) ∧ (x3 < (I 42 0 k29) → (∃ k34 : Nat, (((11 : Int32) * x2) + x3) = Int32.ofNat k34 ∧ k34 < 55 ∧ (∃ (v43 : Int32) (X38 : z_X) (I39 : Nat → Nat → Nat → Int32) (J40 : Nat → Nat → Nat → Int64), z_ev (d + 4) (z_en 196 [z_r 33 0, z_i (x1), z_i (x2), z_i (I 41 0 k34)] (true, X, I, J)) (some (z_i (v43)), (true, X38, I39, J40)) ∧ ((v43 ≤ 0 → z_ev (d + 5) (243, 7, [some (z_r 33 0), some (z_i (x1)), some (z_i (x2)), some (z_i (x3 + (1 : Int32))), some (z_i (v43))], [], (true, X38, I39, J40)) r) ∧ (0 < v43 → (∃ k45 : Nat, ((2 : Int32) * (I39 33 0 39)) = Int32.ofNat k45 ∧ k45 < 22 ∧ (∃ k49 : Nat, (((2 : Int32) * (I39 33 0 39)) + (1 : Int32)) = Int32.ofNat k49 ∧ k49 < 22 ∧ z_ev (d + 5) (243, 7, [some (z_r 33 0), some (z_i (x1)), some (z_i (x2)), some (z_i (x3 + (1 : Int32))), some (z_i (v43))], [], (true, X38, (z_up (z_up (z_up I39 54 0 k45 (I39 41 0 k34)) 54 0 k49 v43) 33 0 39 ((I39 33 0 39) + (1 : Int32))), J40)) r)))))))))) :
    z_ev (d + 5) ((243, 7, [some (z_r 33 0), some (z_i (x1)), some (z_i (x2)), some (z_i (x3)), o4], [], (true, X, I, J))) r := by
  refine z_ev_gs 4 (c1 := (243, 13, [some (z_r 33 0), some (z_i (x1)), some (z_i (x2)), some (z_i (x3)), o4], [z_i (x2), z_r 42 0, z_i (x3)], (true, X, I, J))) rfl ?_
  obtain ⟨k29, e30, e31, h32⟩ := h
  refine z_ev_iald (t := 42) (i := 0) (k := k29) (n := 5) rfl rfl e30 e31 (by decide) ?_
  refine z_ev_gs 1 (c1 := (243, (if (I 42 0 k29) ≤ x3 then 94 else 17), [some (z_r 33 0), some (z_i (x1)), some (z_i (x2)), some (z_i (x3)), o4], [], (true, X, I, J))) rfl ?_
  refine z_ev_ifle (fun e33 => ?_) (fun e33 => ?_)
  · have h55 := h32.1 e33
    rw [h55]
    exact z_ev_rt rfl
  · have h56 := h32.2 e33
    refine z_ev_gs 10 (c1 := (243, 30, [some (z_r 33 0), some (z_i (x1)), some (z_i (x2)), some (z_i (x3)), o4], [z_i (((11 : Int32) * x2) + x3), z_r 41 0, z_i (x2), z_i (x1), z_r 33 0], (true, X, I, J))) rfl ?_
    obtain ⟨k34, e35, e36, h37⟩ := h56
    refine z_ev_iald (t := 41) (i := 0) (k := k34) (n := 55) rfl rfl e35 e36 (by decide) ?_
    obtain ⟨v43, X38, I39, J40, g41, h42⟩ := h37
    refine z_ev_ca rfl rfl g41 ?_
    refine z_ev_gs 3 (c1 := (243, (if v43 ≤ 0 then 88 else 41), [some (z_r 33 0), some (z_i (x1)), some (z_i (x2)), some (z_i (x3)), some (z_i (v43))], [], (true, X38, I39, J40))) rfl ?_
    refine z_ev_ifle (fun e44 => ?_) (fun e44 => ?_)
    · have h53 := h42.1 e44
      refine z_ev_gs 2 (c1 := (243, 7, [some (z_r 33 0), some (z_i (x1)), some (z_i (x2)), some (z_i (x3 + (1 : Int32))), some (z_i (v43))], [], (true, X38, I39, J40))) rfl ?_
      exact h53
    · have h54 := h42.2 e44
      refine z_ev_gs 13 (c1 := (243, 61, [some (z_r 33 0), some (z_i (x1)), some (z_i (x2)), some (z_i (x3)), some (z_i (v43))], [z_i (((11 : Int32) * x2) + x3), z_r 41 0, z_i ((2 : Int32) * (I39 33 0 39)), z_r 54 0], (true, X38, I39, J40))) rfl ?_
      refine z_ev_iald (t := 41) (i := 0) (k := k34) (n := 55) rfl rfl e35 (Nat.lt_of_lt_of_le e36 (by decide)) (by decide) ?_
      obtain ⟨k45, e46, e47, h48⟩ := h54
      refine z_ev_iast (t := 54) (i := 0) (k := k45) (n := 22) rfl rfl e46 e47 (by decide) ?_
      refine z_ev_gs 9 (c1 := (243, 77, [some (z_r 33 0), some (z_i (x1)), some (z_i (x2)), some (z_i (x3)), some (z_i (v43))], [z_i (v43), z_i (((2 : Int32) * (I39 33 0 39)) + (1 : Int32)), z_r 54 0], (true, X38, (z_up I39 54 0 k45 (I39 41 0 k34)), J40))) rfl ?_
      obtain ⟨k49, e50, e51, h52⟩ := h48
      refine z_ev_iast (t := 54) (i := 0) (k := k49) (n := 22) rfl rfl e50 e51 (by decide) ?_
      refine z_ev_gs 8 (c1 := (243, 7, [some (z_r 33 0), some (z_i (x1)), some (z_i (x2)), some (z_i (x3 + (1 : Int32))), some (z_i (v43))], [], (true, X38, (z_up (z_up (z_up I39 54 0 k45 (I39 41 0 k34)) 54 0 k49 v43) 33 0 39 ((I39 33 0 39) + (1 : Int32))), J40))) rfl ?_
      exact h52
theorem z_q244_e {d : Nat} {r : Option z_V × z_M} {X : z_X} {I : Nat → Nat → Nat → Int32} {J : Nat → Nat → Nat → Int64} (x1 : Int32) (x2 : Int32)
    (h : (((z_bw x1 0 3) = false → r = (some (z_i (-1)), (true, X, I, J))) ∧ ((z_bw x1 0 3) = true → (((z_bw x2 (1 : Int32) (4 : Int32)) = true → (∃ (X3 : z_X) (I4 : Nat → Nat → Nat → Int32) (J5 : Nat → Nat → Nat → Int64), z_ev (d + 5) (z_en 243 [z_r 33 0, z_i (x1), z_i (x2)] (true, X, I, J)) (none, (true, X3, I4, J5)) ∧ z_ev (d + 6) (244, 34, [some (z_r 33 0), some (z_i (x1)), some (z_i (x2)), some (z_i 0)], [], (true, X3, (z_up I4 33 0 37 (I4 33 0 39)), J5)) r)) ∧ ((z_bw x2 (1 : Int32) (4 : Int32)) = false → r = (some (z_i (-1)), (true, X, I, J))))))) :
    z_ev (d + 6) (z_en 244 [z_r 33 0, z_i (x1), z_i (x2)] (true, X, I, J)) r := by
  show z_ev (d + 6) (244, 0, [some (z_r 33 0), some (z_i (x1)), some (z_i (x2)), none], [], (true, X, I, J)) r
  refine z_ev_gs 1 (c1 := (244, 1, [some (z_r 33 0), some (z_i (x1)), some (z_i (x2)), none], [z_i (x1)], (true, X, I, J))) rfl ?_
  refine z_ev_ca rfl rfl (z_p162 _) ?_
  refine z_ev_gs 1 (c1 := (244, (if z_c (z_bw x1 0 3) = 0 then 16 else 7), [some (z_r 33 0), some (z_i (x1)), some (z_i (x2)), none], [], (true, X, I, J))) rfl ?_
  refine z_ev_ifc (fun e1 => ?_) (fun e1 => ?_)
  · have h10 := h.1 e1
    refine z_ev_gs 1 (c1 := (244, 17, [some (z_r 33 0), some (z_i (x1)), some (z_i (x2)), none], [z_i (-1)], (true, X, I, J))) rfl ?_
    rw [h10]
    exact z_ev_rt rfl
  · have h11 := h.2 e1
    refine z_ev_gs 3 (c1 := (244, 10, [some (z_r 33 0), some (z_i (x1)), some (z_i (x2)), none], [z_i 4, z_i 1, z_i (x2)], (true, X, I, J))) rfl ?_
    refine z_ev_ca rfl rfl (z_p158 _ _ _) ?_
    refine z_ev_gs 1 (c1 := (244, (if ¬ z_c (z_bw x2 (1 : Int32) (4 : Int32)) = 0 then 18 else 16), [some (z_r 33 0), some (z_i (x1)), some (z_i (x2)), none], [], (true, X, I, J))) rfl ?_
    refine z_ev_ifcn (fun e2 => ?_) (fun e2 => ?_)
    · have h8 := h11.1 e2
      refine z_ev_gs 3 (c1 := (244, 21, [some (z_r 33 0), some (z_i (x1)), some (z_i (x2)), none], [z_i (x2), z_i (x1), z_r 33 0], (true, X, I, J))) rfl ?_
      obtain ⟨X3, I4, J5, g6, h7⟩ := h8
      refine z_ev_ca rfl rfl g6 ?_
      refine z_ev_gs 6 (c1 := (244, 34, [some (z_r 33 0), some (z_i (x1)), some (z_i (x2)), some (z_i 0)], [], (true, X3, (z_up I4 33 0 37 (I4 33 0 39)), J5))) rfl ?_
      exact h7
    · have h9 := h11.2 e2
      refine z_ev_gs 1 (c1 := (244, 17, [some (z_r 33 0), some (z_i (x1)), some (z_i (x2)), none], [z_i (-1)], (true, X, I, J))) rfl ?_
      rw [h9]
      exact z_ev_rt rfl
theorem z_q244_34 {d : Nat} {r : Option z_V × z_M} {X : z_X} {I : Nat → Nat → Nat → Int32} {J : Nat → Nat → Nat → Int64} (x1 : Int32) (x2 : Int32) (x3 : Int32)
    (h : ((((2 : Int32) * (I 33 0 37)) ≤ x3 → r = (some (z_i (I 33 0 37)), (true, X, I, J))) ∧ (x3 < ((2 : Int32) * (I 33 0 37)) → (∃ k13 : Nat, x3 = Int32.ofNat k13 ∧ k13 < 22 ∧ z_ev (d + 6) (244, 34, [some (z_r 33 0), some (z_i (x1)), some (z_i (x2)), some (z_i (x3 + (1 : Int32)))], [], (true, X, (z_up I 53 0 k13 (I 54 0 k13)), J)) r)))) :
    z_ev (d + 6) ((244, 34, [some (z_r 33 0), some (z_i (x1)), some (z_i (x2)), some (z_i (x3))], [], (true, X, I, J))) r := by
  refine z_ev_gs 6 (c1 := (244, (if ((2 : Int32) * (I 33 0 37)) ≤ x3 then 62 else 44), [some (z_r 33 0), some (z_i (x1)), some (z_i (x2)), some (z_i (x3))], [], (true, X, I, J))) rfl ?_
  refine z_ev_ifle (fun e12 => ?_) (fun e12 => ?_)
  · have h17 := h.1 e12
    refine z_ev_gs 2 (c1 := (244, 66, [some (z_r 33 0), some (z_i (x1)), some (z_i (x2)), some (z_i (x3))], [z_i (I 33 0 37)], (true, X, I, J))) rfl ?_
    rw [h17]
    exact z_ev_rt rfl
  · have h18 := h.2 e12
    refine z_ev_gs 6 (c1 := (244, 54, [some (z_r 33 0), some (z_i (x1)), some (z_i (x2)), some (z_i (x3))], [z_i (x3), z_r 54 0, z_i (x3), z_r 53 0], (true, X, I, J))) rfl ?_
    obtain ⟨k13, e14, e15, h16⟩ := h18
    refine z_ev_iald (t := 54) (i := 0) (k := k13) (n := 22) rfl rfl e14 e15 (by decide) ?_
    refine z_ev_iast (t := 53) (i := 0) (k := k13) (n := 22) rfl rfl e14 (Nat.lt_of_lt_of_le e15 (by decide)) (by decide) ?_
    refine z_ev_gs 2 (c1 := (244, 34, [some (z_r 33 0), some (z_i (x1)), some (z_i (x2)), some (z_i (x3 + (1 : Int32)))], [], (true, X, (z_up I 53 0 k13 (I 54 0 k13)), J))) rfl ?_
    exact h16
theorem z_q107_e {d : Nat} {r : Option z_V × z_M} {X : z_X} {I : Nat → Nat → Nat → Int32} {J : Nat → Nat → Nat → Int64} (x1 : Int32) (x2 : Int32)
    (h : (((z_bw x1 0 3) = false → r = (some (z_i (-1)), (true, X, I, J))) ∧ ((z_bw x1 0 3) = true → ((x2 < (1 : Int32) → r = (some (z_i (-1)), (true, X, I, J))) ∧ ((1 : Int32) ≤ x2 → ((x2 ≤ (4 : Int32) → (∃ k4 : Nat, x1 = Int32.ofNat k4 ∧ k4 < 4 ∧ (∃ (X8 : z_X) (I9 : Nat → Nat → Nat → Int32) (J10 : Nat → Nat → Nat → Int64), z_ev (d + 15) (z_en 42 [z_r 24 0, z_r 13 k4, z_i (x2)] (true, X, I, J)) (none, (true, X8, I9, J10)) ∧ z_ev (d + 16) (107, 41, [some (z_r 0 0), some (z_i (x1)), some (z_i (x2)), some (z_i 0), some (z_i 0)], [], (true, X8, I9, J10)) r))) ∧ ((4 : Int32) < x2 → r = (some (z_i (-1)), (true, X, I, J))))))))) :
    z_ev (d + 16) (z_en 107 [z_r 0 0, z_i (x1), z_i (x2)] (true, X, I, J)) r := by
  show z_ev (d + 16) (107, 0, [some (z_r 0 0), some (z_i (x1)), some (z_i (x2)), none, none], [], (true, X, I, J)) r
  refine z_ev_gs 1 (c1 := (107, 1, [some (z_r 0 0), some (z_i (x1)), some (z_i (x2)), none, none], [z_i (x1)], (true, X, I, J))) rfl ?_
  refine z_ev_ca rfl rfl (z_p118 _) ?_
  refine z_ev_gs 1 (c1 := (107, (if z_c (z_bw x1 0 3) = 0 then 17 else 7), [some (z_r 0 0), some (z_i (x1)), some (z_i (x2)), none, none], [], (true, X, I, J))) rfl ?_
  refine z_ev_ifc (fun e1 => ?_) (fun e1 => ?_)
  · have h17 := h.1 e1
    refine z_ev_gs 1 (c1 := (107, 18, [some (z_r 0 0), some (z_i (x1)), some (z_i (x2)), none, none], [z_i (-1)], (true, X, I, J))) rfl ?_
    rw [h17]
    exact z_ev_rt rfl
  · have h18 := h.2 e1
    refine z_ev_gs 3 (c1 := (107, (if x2 < (1 : Int32) then 17 else 12), [some (z_r 0 0), some (z_i (x1)), some (z_i (x2)), none, none], [], (true, X, I, J))) rfl ?_
    refine z_ev_iflt (fun e2 => ?_) (fun e2 => ?_)
    · have h15 := h18.1 e2
      refine z_ev_gs 1 (c1 := (107, 18, [some (z_r 0 0), some (z_i (x1)), some (z_i (x2)), none, none], [z_i (-1)], (true, X, I, J))) rfl ?_
      rw [h15]
      exact z_ev_rt rfl
    · have h16 := h18.2 e2
      refine z_ev_gs 3 (c1 := (107, (if x2 ≤ (4 : Int32) then 19 else 17), [some (z_r 0 0), some (z_i (x1)), some (z_i (x2)), none, none], [], (true, X, I, J))) rfl ?_
      refine z_ev_ifle (fun e3 => ?_) (fun e3 => ?_)
      · have h13 := h16.1 e3
        refine z_ev_gs 6 (c1 := (107, 31, [some (z_r 0 0), some (z_i (x1)), some (z_i (x2)), none, none], [z_i (x1), z_r 2 0, z_r 24 0], (true, X, I, J))) rfl ?_
        obtain ⟨k4, e5, e6, h7⟩ := h13
        refine z_ev_nt0 (k := k4) rfl e5 e6 ?_
        refine z_ev_gs 1 (c1 := (107, 33, [some (z_r 0 0), some (z_i (x1)), some (z_i (x2)), none, none], [z_i (x2), z_r 13 k4, z_r 24 0], (true, X, I, J))) rfl ?_
        obtain ⟨X8, I9, J10, g11, h12⟩ := h7
        refine z_ev_ca rfl rfl g11 ?_
        refine z_ev_gs 4 (c1 := (107, 41, [some (z_r 0 0), some (z_i (x1)), some (z_i (x2)), some (z_i 0), some (z_i 0)], [], (true, X8, I9, J10))) rfl ?_
        exact h12
      · have h14 := h16.2 e3
        refine z_ev_gs 1 (c1 := (107, 18, [some (z_r 0 0), some (z_i (x1)), some (z_i (x2)), none, none], [z_i (-1)], (true, X, I, J))) rfl ?_
        rw [h14]
        exact z_ev_rt rfl
theorem z_q107_41 {d : Nat} {r : Option z_V × z_M} {X : z_X} {I : Nat → Nat → Nat → Int32} {J : Nat → Nat → Nat → Int64} (x1 : Int32) (x2 : Int32) (x3 : Int32) (x4 : Int32)
    (h : (((z_fo x2) ≤ x4 → (((I 0 0 7) ≤ x3 → r = (some (z_i 0), (true, X, I, J))) ∧ (x3 < (I 0 0 7) → r = (some (z_i (x3 + (1 : Int32))), (true, X, I, J))))) ∧ (x4 < (z_fo x2) → (∃ k23 : Nat, x4 = Int32.ofNat k23 ∧ k23 < 11 ∧ ((¬ (I 25 0 k23) = 0 → ((x3 < (I 0 0 7) → (∃ k29 : Nat, x3 = Int32.ofNat k29 ∧ k29 < 11 ∧ ((¬ (I 19 0 k29) = ((z_stc.getD 0 []).getD k23 0) → r = (some (z_i (x3 + (1 : Int32))), (true, X, I, J))) ∧ ((I 19 0 k29) = ((z_stc.getD 0 []).getD k23 0) → (((I 20 0 k29) = (I 25 0 k23) → z_ev (d + 16) (107, 41, [some (z_r 0 0), some (z_i (x1)), some (z_i (x2)), some (z_i (x3 + (1 : Int32))), some (z_i (x4 + (1 : Int32)))], [], (true, X, I, J)) r) ∧ (¬ (I 20 0 k29) = (I 25 0 k23) → r = (some (z_i (x3 + (1 : Int32))), (true, X, I, J)))))))) ∧ ((I 0 0 7) ≤ x3 → r = (some (z_i 222), (true, X, I, J))))) ∧ ((I 25 0 k23) = 0 → z_ev (d + 16) (107, 41, [some (z_r 0 0), some (z_i (x1)), some (z_i (x2)), some (z_i (x3)), some (z_i (x4 + (1 : Int32)))], [], (true, X, I, J)) r)))))) :
    z_ev (d + 16) ((107, 41, [some (z_r 0 0), some (z_i (x1)), some (z_i (x2)), some (z_i (x3)), some (z_i (x4))], [], (true, X, I, J))) r := by
  refine z_ev_gs 2 (c1 := (107, 44, [some (z_r 0 0), some (z_i (x1)), some (z_i (x2)), some (z_i (x3)), some (z_i (x4))], [z_i (x2), z_i (x4)], (true, X, I, J))) rfl ?_
  refine z_ev_ca rfl rfl (z_p127 _) ?_
  refine z_ev_gs 1 (c1 := (107, (if (z_fo x2) ≤ x4 then 125 else 50), [some (z_r 0 0), some (z_i (x1)), some (z_i (x2)), some (z_i (x3)), some (z_i (x4))], [], (true, X, I, J))) rfl ?_
  refine z_ev_ifle (fun e19 => ?_) (fun e19 => ?_)
  · have h43 := h.1 e19
    refine z_ev_gs 4 (c1 := (107, (if (I 0 0 7) ≤ x3 then 139 else 133), [some (z_r 0 0), some (z_i (x1)), some (z_i (x2)), some (z_i (x3)), some (z_i (x4))], [], (true, X, I, J))) rfl ?_
    refine z_ev_ifle (fun e20 => ?_) (fun e20 => ?_)
    · have h21 := h43.1 e20
      refine z_ev_gs 1 (c1 := (107, 140, [some (z_r 0 0), some (z_i (x1)), some (z_i (x2)), some (z_i (x3)), some (z_i (x4))], [z_i 0], (true, X, I, J))) rfl ?_
      rw [h21]
      exact z_ev_rt rfl
    · have h22 := h43.2 e20
      refine z_ev_gs 4 (c1 := (107, 140, [some (z_r 0 0), some (z_i (x1)), some (z_i (x2)), some (z_i (x3)), some (z_i (x4))], [z_i (x3 + (1 : Int32))], (true, X, I, J))) rfl ?_
      rw [h22]
      exact z_ev_rt rfl
  · have h44 := h.2 e19
    refine z_ev_gs 4 (c1 := (107, 59, [some (z_r 0 0), some (z_i (x1)), some (z_i (x2)), some (z_i (x3)), some (z_i (x4))], [z_i (x4), z_r 25 0], (true, X, I, J))) rfl ?_
    obtain ⟨k23, e24, e25, h26⟩ := h44
    refine z_ev_iald (t := 25) (i := 0) (k := k23) (n := 11) rfl rfl e24 e25 (by decide) ?_
    refine z_ev_gs 1 (c1 := (107, (if ¬ (I 25 0 k23) = 0 then 66 else 63), [some (z_r 0 0), some (z_i (x1)), some (z_i (x2)), some (z_i (x3)), some (z_i (x4))], [], (true, X, I, J))) rfl ?_
    refine z_ev_ifn (fun e27 => ?_) (fun e27 => ?_)
    · have h41 := h26.1 e27
      refine z_ev_gs 4 (c1 := (107, (if x3 < (I 0 0 7) then 78 else 74), [some (z_r 0 0), some (z_i (x1)), some (z_i (x2)), some (z_i (x3)), some (z_i (x4))], [], (true, X, I, J))) rfl ?_
      refine z_ev_iflt (fun e28 => ?_) (fun e28 => ?_)
      · have h39 := h41.1 e28
        refine z_ev_gs 3 (c1 := (107, 83, [some (z_r 0 0), some (z_i (x1)), some (z_i (x2)), some (z_i (x3)), some (z_i (x4))], [z_i (x3), z_r 19 0], (true, X, I, J))) rfl ?_
        obtain ⟨k29, e30, e31, h32⟩ := h39
        refine z_ev_iald (t := 19) (i := 0) (k := k29) (n := 11) rfl rfl e30 e31 (by decide) ?_
        refine z_ev_gs 2 (c1 := (107, 89, [some (z_r 0 0), some (z_i (x1)), some (z_i (x2)), some (z_i (x3)), some (z_i (x4))], [z_i (x4), z_r 66 0, z_i (I 19 0 k29)], (true, X, I, J))) rfl ?_
        refine z_ev_sld (k := k23) (n := 11) rfl e24 (Nat.lt_of_lt_of_le e25 (by decide)) (by decide) ?_
        refine z_ev_gs 1 (c1 := (107, (if ¬ (I 19 0 k29) = ((z_stc.getD 0 []).getD k23 0) then 112 else 93), [some (z_r 0 0), some (z_i (x1)), some (z_i (x2)), some (z_i (x3)), some (z_i (x4))], [], (true, X, I, J))) rfl ?_
        refine z_ev_ifn (fun e33 => ?_) (fun e33 => ?_)
        · have h37 := h32.1 e33
          refine z_ev_gs 3 (c1 := (107, 115, [some (z_r 0 0), some (z_i (x1)), some (z_i (x2)), some (z_i (x3)), some (z_i (x4))], [z_i (x3 + (1 : Int32))], (true, X, I, J))) rfl ?_
          rw [h37]
          exact z_ev_rt rfl
        · have h38 := h32.2 e33
          refine z_ev_gs 3 (c1 := (107, 98, [some (z_r 0 0), some (z_i (x1)), some (z_i (x2)), some (z_i (x3)), some (z_i (x4))], [z_i (x3), z_r 20 0], (true, X, I, J))) rfl ?_
          refine z_ev_iald (t := 20) (i := 0) (k := k29) (n := 11) rfl rfl e30 (Nat.lt_of_lt_of_le e31 (by decide)) (by decide) ?_
          refine z_ev_gs 4 (c1 := (107, 108, [some (z_r 0 0), some (z_i (x1)), some (z_i (x2)), some (z_i (x3)), some (z_i (x4))], [z_i (x4), z_r 25 0, z_i (I 20 0 k29)], (true, X, I, J))) rfl ?_
          refine z_ev_iald (t := 25) (i := 0) (k := k23) (n := 11) rfl rfl e24 (Nat.lt_of_lt_of_le e25 (by decide)) (by decide) ?_
          refine z_ev_gs 1 (c1 := (107, (if (I 20 0 k29) = (I 25 0 k23) then 116 else 112), [some (z_r 0 0), some (z_i (x1)), some (z_i (x2)), some (z_i (x3)), some (z_i (x4))], [], (true, X, I, J))) rfl ?_
          refine z_ev_if (fun e34 => ?_) (fun e34 => ?_)
          · have h35 := h38.1 e34
            refine z_ev_gs 3 (c1 := (107, 41, [some (z_r 0 0), some (z_i (x1)), some (z_i (x2)), some (z_i (x3 + (1 : Int32))), some (z_i (x4 + (1 : Int32)))], [], (true, X, I, J))) rfl ?_
            exact h35
          · have h36 := h38.2 e34
            refine z_ev_gs 3 (c1 := (107, 115, [some (z_r 0 0), some (z_i (x1)), some (z_i (x2)), some (z_i (x3)), some (z_i (x4))], [z_i (x3 + (1 : Int32))], (true, X, I, J))) rfl ?_
            rw [h36]
            exact z_ev_rt rfl
      · have h40 := h41.2 e28
        refine z_ev_gs 1 (c1 := (107, 77, [some (z_r 0 0), some (z_i (x1)), some (z_i (x2)), some (z_i (x3)), some (z_i (x4))], [z_i 222], (true, X, I, J))) rfl ?_
        rw [h40]
        exact z_ev_rt rfl
    · have h42 := h26.2 e27
      refine z_ev_gs 3 (c1 := (107, 41, [some (z_r 0 0), some (z_i (x1)), some (z_i (x2)), some (z_i (x3)), some (z_i (x4 + (1 : Int32)))], [], (true, X, I, J))) rfl ?_
      exact h42
theorem z_q248_e {d : Nat} {r : Option z_V × z_M} {X : z_X} {I : Nat → Nat → Nat → Int32} {J : Nat → Nat → Nat → Int64} (x1 : Int32) (x2 : Int32)
    (h : (((z_bw x1 0 3) = false → r = (some (z_i (-1)), (true, X, I, J))) ∧ ((z_bw x1 0 3) = true → (((z_bw x2 (1 : Int32) (4 : Int32)) = true → (∃ (X3 : z_X) (I4 : Nat → Nat → Nat → Int32) (J5 : Nat → Nat → Nat → Int64), z_ev (d + 5) (z_en 243 [z_r 33 0, z_i (x1), z_i (x2)] (true, X, I, J)) (none, (true, X3, I4, J5)) ∧ z_ev (d + 6) (248, 26, [some (z_r 33 0), some (z_i (x1)), some (z_i (x2)), some (z_i 0)], [], (true, X3, I4, J5)) r)) ∧ ((z_bw x2 (1 : Int32) (4 : Int32)) = false → r = (some (z_i (-1)), (true, X, I, J))))))) :
    z_ev (d + 6) (z_en 248 [z_r 33 0, z_i (x1), z_i (x2)] (true, X, I, J)) r := by
  show z_ev (d + 6) (248, 0, [some (z_r 33 0), some (z_i (x1)), some (z_i (x2)), none], [], (true, X, I, J)) r
  refine z_ev_gs 1 (c1 := (248, 1, [some (z_r 33 0), some (z_i (x1)), some (z_i (x2)), none], [z_i (x1)], (true, X, I, J))) rfl ?_
  refine z_ev_ca rfl rfl (z_p162 _) ?_
  refine z_ev_gs 1 (c1 := (248, (if z_c (z_bw x1 0 3) = 0 then 16 else 7), [some (z_r 33 0), some (z_i (x1)), some (z_i (x2)), none], [], (true, X, I, J))) rfl ?_
  refine z_ev_ifc (fun e1 => ?_) (fun e1 => ?_)
  · have h10 := h.1 e1
    refine z_ev_gs 1 (c1 := (248, 17, [some (z_r 33 0), some (z_i (x1)), some (z_i (x2)), none], [z_i (-1)], (true, X, I, J))) rfl ?_
    rw [h10]
    exact z_ev_rt rfl
  · have h11 := h.2 e1
    refine z_ev_gs 3 (c1 := (248, 10, [some (z_r 33 0), some (z_i (x1)), some (z_i (x2)), none], [z_i 4, z_i 1, z_i (x2)], (true, X, I, J))) rfl ?_
    refine z_ev_ca rfl rfl (z_p158 _ _ _) ?_
    refine z_ev_gs 1 (c1 := (248, (if ¬ z_c (z_bw x2 (1 : Int32) (4 : Int32)) = 0 then 18 else 16), [some (z_r 33 0), some (z_i (x1)), some (z_i (x2)), none], [], (true, X, I, J))) rfl ?_
    refine z_ev_ifcn (fun e2 => ?_) (fun e2 => ?_)
    · have h8 := h11.1 e2
      refine z_ev_gs 3 (c1 := (248, 21, [some (z_r 33 0), some (z_i (x1)), some (z_i (x2)), none], [z_i (x2), z_i (x1), z_r 33 0], (true, X, I, J))) rfl ?_
      obtain ⟨X3, I4, J5, g6, h7⟩ := h8
      refine z_ev_ca rfl rfl g6 ?_
      refine z_ev_gs 2 (c1 := (248, 26, [some (z_r 33 0), some (z_i (x1)), some (z_i (x2)), some (z_i 0)], [], (true, X3, I4, J5))) rfl ?_
      exact h7
    · have h9 := h11.2 e2
      refine z_ev_gs 1 (c1 := (248, 17, [some (z_r 33 0), some (z_i (x1)), some (z_i (x2)), none], [z_i (-1)], (true, X, I, J))) rfl ?_
      rw [h9]
      exact z_ev_rt rfl
theorem z_q248_26 {d : Nat} {r : Option z_V × z_M} {X : z_X} {I : Nat → Nat → Nat → Int32} {J : Nat → Nat → Nat → Int64} (x1 : Int32) (x2 : Int32) (x3 : Int32)
    (h : (((I 33 0 37) ≤ x3 → (((I 33 0 39) ≤ (I 33 0 37) → r = (some (z_i 0), (true, X, I, J))) ∧ ((I 33 0 37) < (I 33 0 39) → r = (some (z_i 222), (true, X, I, J))))) ∧ (x3 < (I 33 0 37) → (((I 33 0 39) ≤ x3 → r = (some (z_i (x3 + (1 : Int32))), (true, X, I, J))) ∧ (x3 < (I 33 0 39) → (∃ k17 : Nat, ((2 : Int32) * x3) = Int32.ofNat k17 ∧ k17 < 22 ∧ ((¬ (I 53 0 k17) = (I 54 0 k17) → r = (some (z_i (x3 + (1 : Int32))), (true, X, I, J))) ∧ ((I 53 0 k17) = (I 54 0 k17) → (∃ k22 : Nat, (((2 : Int32) * x3) + (1 : Int32)) = Int32.ofNat k22 ∧ k22 < 22 ∧ (((I 53 0 k22) = (I 54 0 k22) → z_ev (d + 6) (248, 26, [some (z_r 33 0), some (z_i (x1)), some (z_i (x2)), some (z_i (x3 + (1 : Int32)))], [], (true, X, I, J)) r) ∧ (¬ (I 53 0 k22) = (I 54 0 k22) → r = (some (z_i (x3 + (1 : Int32))), (true, X, I, J))))))))))))) :
    z_ev (d + 6) ((248, 26, [some (z_r 33 0), some (z_i (x1)), some (z_i (x2)), some (z_i (x3))], [], (true, X, I, J))) r := by
  refine z_ev_gs 4 (c1 := (248, (if (I 33 0 37) ≤ x3 then 94 else 34), [some (z_r 33 0), some (z_i (x1)), some (z_i (x2)), some (z_i (x3))], [], (true, X, I, J))) rfl ?_
  refine z_ev_ifle (fun e12 => ?_) (fun e12 => ?_)
  · have h33 := h.1 e12
    refine z_ev_gs 5 (c1 := (248, (if (I 33 0 39) ≤ (I 33 0 37) then 111 else 105), [some (z_r 33 0), some (z_i (x1)), some (z_i (x2)), some (z_i (x3))], [], (true, X, I, J))) rfl ?_
    refine z_ev_ifle (fun e13 => ?_) (fun e13 => ?_)
    · have h14 := h33.1 e13
      refine z_ev_gs 1 (c1 := (248, 112, [some (z_r 33 0), some (z_i (x1)), some (z_i (x2)), some (z_i (x3))], [z_i 0], (true, X, I, J))) rfl ?_
      rw [h14]
      exact z_ev_rt rfl
    · have h15 := h33.2 e13
      refine z_ev_gs 2 (c1 := (248, 112, [some (z_r 33 0), some (z_i (x1)), some (z_i (x2)), some (z_i (x3))], [z_i 222], (true, X, I, J))) rfl ?_
      rw [h15]
      exact z_ev_rt rfl
  · have h34 := h.2 e12
    refine z_ev_gs 4 (c1 := (248, (if (I 33 0 39) ≤ x3 then 84 else 42), [some (z_r 33 0), some (z_i (x1)), some (z_i (x2)), some (z_i (x3))], [], (true, X, I, J))) rfl ?_
    refine z_ev_ifle (fun e16 => ?_) (fun e16 => ?_)
    · have h31 := h34.1 e16
      refine z_ev_gs 3 (c1 := (248, 87, [some (z_r 33 0), some (z_i (x1)), some (z_i (x2)), some (z_i (x3))], [z_i (x3 + (1 : Int32))], (true, X, I, J))) rfl ?_
      rw [h31]
      exact z_ev_rt rfl
    · have h32 := h34.2 e16
      refine z_ev_gs 5 (c1 := (248, 49, [some (z_r 33 0), some (z_i (x1)), some (z_i (x2)), some (z_i (x3))], [z_i ((2 : Int32) * x3), z_r 53 0], (true, X, I, J))) rfl ?_
      obtain ⟨k17, e18, e19, h20⟩ := h32
      refine z_ev_iald (t := 53) (i := 0) (k := k17) (n := 22) rfl rfl e18 e19 (by decide) ?_
      refine z_ev_gs 5 (c1 := (248, 57, [some (z_r 33 0), some (z_i (x1)), some (z_i (x2)), some (z_i (x3))], [z_i ((2 : Int32) * x3), z_r 54 0, z_i (I 53 0 k17)], (true, X, I, J))) rfl ?_
      refine z_ev_iald (t := 54) (i := 0) (k := k17) (n := 22) rfl rfl e18 (Nat.lt_of_lt_of_le e19 (by decide)) (by decide) ?_
      refine z_ev_gs 1 (c1 := (248, (if ¬ (I 53 0 k17) = (I 54 0 k17) then 84 else 61), [some (z_r 33 0), some (z_i (x1)), some (z_i (x2)), some (z_i (x3))], [], (true, X, I, J))) rfl ?_
      refine z_ev_ifn (fun e21 => ?_) (fun e21 => ?_)
      · have h29 := h20.1 e21
        refine z_ev_gs 3 (c1 := (248, 87, [some (z_r 33 0), some (z_i (x1)), some (z_i (x2)), some (z_i (x3))], [z_i (x3 + (1 : Int32))], (true, X, I, J))) rfl ?_
        rw [h29]
        exact z_ev_rt rfl
      · have h30 := h20.2 e21
        refine z_ev_gs 7 (c1 := (248, 70, [some (z_r 33 0), some (z_i (x1)), some (z_i (x2)), some (z_i (x3))], [z_i (((2 : Int32) * x3) + (1 : Int32)), z_r 53 0], (true, X, I, J))) rfl ?_
        obtain ⟨k22, e23, e24, h25⟩ := h30
        refine z_ev_iald (t := 53) (i := 0) (k := k22) (n := 22) rfl rfl e23 e24 (by decide) ?_
        refine z_ev_gs 7 (c1 := (248, 80, [some (z_r 33 0), some (z_i (x1)), some (z_i (x2)), some (z_i (x3))], [z_i (((2 : Int32) * x3) + (1 : Int32)), z_r 54 0, z_i (I 53 0 k22)], (true, X, I, J))) rfl ?_
        refine z_ev_iald (t := 54) (i := 0) (k := k22) (n := 22) rfl rfl e23 (Nat.lt_of_lt_of_le e24 (by decide)) (by decide) ?_
        refine z_ev_gs 1 (c1 := (248, (if (I 53 0 k22) = (I 54 0 k22) then 88 else 84), [some (z_r 33 0), some (z_i (x1)), some (z_i (x2)), some (z_i (x3))], [], (true, X, I, J))) rfl ?_
        refine z_ev_if (fun e26 => ?_) (fun e26 => ?_)
        · have h27 := h25.1 e26
          refine z_ev_gs 2 (c1 := (248, 26, [some (z_r 33 0), some (z_i (x1)), some (z_i (x2)), some (z_i (x3 + (1 : Int32)))], [], (true, X, I, J))) rfl ?_
          exact h27
        · have h28 := h25.2 e26
          refine z_ev_gs 3 (c1 := (248, 87, [some (z_r 33 0), some (z_i (x1)), some (z_i (x2)), some (z_i (x3))], [z_i (x3 + (1 : Int32))], (true, X, I, J))) rfl ?_
          rw [h28]
          exact z_ev_rt rfl
