/-! segments: leaves; printed by wip/whole/emit_seg.py -/
theorem z_q118_e {d : Nat} {r : Option z_V × z_M} {X : z_X} {I : Nat → Nat → Nat → Int32} {J : Nat → Nat → Nat → Int64} (x0 : Int32)
    (h : ((x0 < 0 → r = (some (z_i 0), (true, X, I, J))) ∧ (0 ≤ x0 → (((4 : Int32) ≤ x0 → r = (some (z_i 0), (true, X, I, J))) ∧ (x0 < (4 : Int32) → r = (some (z_i 1), (true, X, I, J))))))) :
    z_ev d (z_en 118 [z_i (x0)] (true, X, I, J)) r := by
  show z_ev d (118, 0, [some (z_i (x0))], [], (true, X, I, J)) r
  refine z_ev_gs 2 (c1 := (118, (if x0 < 0 then 13 else 4), [some (z_i (x0))], [], (true, X, I, J))) rfl ?_
  refine z_ev_iflt (fun e1 => ?_) (fun e1 => ?_)
  · have h5 := h.1 e1
    refine z_ev_gs 1 (c1 := (118, 14, [some (z_i (x0))], [z_i 0], (true, X, I, J))) rfl ?_
    rw [h5]
    exact z_ev_rt rfl
  · have h6 := h.2 e1
    refine z_ev_gs 3 (c1 := (118, (if (4 : Int32) ≤ x0 then 13 else 9), [some (z_i (x0))], [], (true, X, I, J))) rfl ?_
    refine z_ev_ifle (fun e2 => ?_) (fun e2 => ?_)
    · have h3 := h6.1 e2
      refine z_ev_gs 1 (c1 := (118, 14, [some (z_i (x0))], [z_i 0], (true, X, I, J))) rfl ?_
      rw [h3]
      exact z_ev_rt rfl
    · have h4 := h6.2 e2
      refine z_ev_gs 2 (c1 := (118, 14, [some (z_i (x0))], [z_i 1], (true, X, I, J))) rfl ?_
      rw [h4]
      exact z_ev_rt rfl
theorem z_q121_e {d : Nat} {r : Option z_V × z_M} {X : z_X} {I : Nat → Nat → Nat → Int32} {J : Nat → Nat → Nat → Int64} (x0 : Int32)
    (h : ((x0 = 0 → r = (some (z_i 1), (true, X, I, J))) ∧ (¬ x0 = 0 → ((¬ x0 = (1 : Int32) → r = (some (z_i 0), (true, X, I, J))) ∧ (x0 = (1 : Int32) → r = (some (z_i 1), (true, X, I, J))))))) :
    z_ev d (z_en 121 [z_i (x0)] (true, X, I, J)) r := by
  show z_ev d (121, 0, [some (z_i (x0))], [], (true, X, I, J)) r
  refine z_ev_gs 2 (c1 := (121, (if x0 = 0 then 9 else 4), [some (z_i (x0))], [], (true, X, I, J))) rfl ?_
  refine z_ev_if (fun e1 => ?_) (fun e1 => ?_)
  · have h5 := h.1 e1
    refine z_ev_gs 2 (c1 := (121, 14, [some (z_i (x0))], [z_i 1], (true, X, I, J))) rfl ?_
    rw [h5]
    exact z_ev_rt rfl
  · have h6 := h.2 e1
    refine z_ev_gs 3 (c1 := (121, (if ¬ x0 = (1 : Int32) then 13 else 9), [some (z_i (x0))], [], (true, X, I, J))) rfl ?_
    refine z_ev_ifn (fun e2 => ?_) (fun e2 => ?_)
    · have h3 := h6.1 e2
      refine z_ev_gs 1 (c1 := (121, 14, [some (z_i (x0))], [z_i 0], (true, X, I, J))) rfl ?_
      rw [h3]
      exact z_ev_rt rfl
    · have h4 := h6.2 e2
      refine z_ev_gs 2 (c1 := (121, 14, [some (z_i (x0))], [z_i 1], (true, X, I, J))) rfl ?_
      rw [h4]
      exact z_ev_rt rfl
theorem z_q122_e {d : Nat} {r : Option z_V × z_M} {X : z_X} {I : Nat → Nat → Nat → Int32} {J : Nat → Nat → Nat → Int64} (x0 : Int32)
    (h : ((x0 < 0 → r = (some (z_i 0), (true, X, I, J))) ∧ (0 ≤ x0 → (((4 : Int32) ≤ x0 → r = (some (z_i 0), (true, X, I, J))) ∧ (x0 < (4 : Int32) → r = (some (z_i 1), (true, X, I, J))))))) :
    z_ev d (z_en 122 [z_i (x0)] (true, X, I, J)) r := by
  show z_ev d (122, 0, [some (z_i (x0))], [], (true, X, I, J)) r
  refine z_ev_gs 2 (c1 := (122, (if x0 < 0 then 13 else 4), [some (z_i (x0))], [], (true, X, I, J))) rfl ?_
  refine z_ev_iflt (fun e1 => ?_) (fun e1 => ?_)
  · have h5 := h.1 e1
    refine z_ev_gs 1 (c1 := (122, 14, [some (z_i (x0))], [z_i 0], (true, X, I, J))) rfl ?_
    rw [h5]
    exact z_ev_rt rfl
  · have h6 := h.2 e1
    refine z_ev_gs 3 (c1 := (122, (if (4 : Int32) ≤ x0 then 13 else 9), [some (z_i (x0))], [], (true, X, I, J))) rfl ?_
    refine z_ev_ifle (fun e2 => ?_) (fun e2 => ?_)
    · have h3 := h6.1 e2
      refine z_ev_gs 1 (c1 := (122, 14, [some (z_i (x0))], [z_i 0], (true, X, I, J))) rfl ?_
      rw [h3]
      exact z_ev_rt rfl
    · have h4 := h6.2 e2
      refine z_ev_gs 2 (c1 := (122, 14, [some (z_i (x0))], [z_i 1], (true, X, I, J))) rfl ?_
      rw [h4]
      exact z_ev_rt rfl
theorem z_q123_e {d : Nat} {r : Option z_V × z_M} {X : z_X} {I : Nat → Nat → Nat → Int32} {J : Nat → Nat → Nat → Int64} (x0 : Int32)
    (h : ((x0 < 0 → r = (some (z_i 0), (true, X, I, J))) ∧ (0 ≤ x0 → (((3 : Int32) < x0 → r = (some (z_i 0), (true, X, I, J))) ∧ (x0 ≤ (3 : Int32) → r = (some (z_i 1), (true, X, I, J))))))) :
    z_ev d (z_en 123 [z_i (x0)] (true, X, I, J)) r := by
  show z_ev d (123, 0, [some (z_i (x0))], [], (true, X, I, J)) r
  refine z_ev_gs 2 (c1 := (123, (if x0 < 0 then 13 else 4), [some (z_i (x0))], [], (true, X, I, J))) rfl ?_
  refine z_ev_iflt (fun e1 => ?_) (fun e1 => ?_)
  · have h5 := h.1 e1
    refine z_ev_gs 1 (c1 := (123, 14, [some (z_i (x0))], [z_i 0], (true, X, I, J))) rfl ?_
    rw [h5]
    exact z_ev_rt rfl
  · have h6 := h.2 e1
    refine z_ev_gs 3 (c1 := (123, (if (3 : Int32) < x0 then 13 else 9), [some (z_i (x0))], [], (true, X, I, J))) rfl ?_
    refine z_ev_iflt (fun e2 => ?_) (fun e2 => ?_)
    · have h3 := h6.1 e2
      refine z_ev_gs 1 (c1 := (123, 14, [some (z_i (x0))], [z_i 0], (true, X, I, J))) rfl ?_
      rw [h3]
      exact z_ev_rt rfl
    · have h4 := h6.2 e2
      refine z_ev_gs 2 (c1 := (123, 14, [some (z_i (x0))], [z_i 1], (true, X, I, J))) rfl ?_
      rw [h4]
      exact z_ev_rt rfl
theorem z_q124_e {d : Nat} {r : Option z_V × z_M} {X : z_X} {I : Nat → Nat → Nat → Int32} {J : Nat → Nat → Nat → Int64} (x0 : Int32)
    (h : ((x0 < 0 → r = (some (z_i 0), (true, X, I, J))) ∧ (0 ≤ x0 → (((4 : Int32) ≤ x0 → r = (some (z_i 0), (true, X, I, J))) ∧ (x0 < (4 : Int32) → r = (some (z_i 1), (true, X, I, J))))))) :
    z_ev d (z_en 124 [z_i (x0)] (true, X, I, J)) r := by
  show z_ev d (124, 0, [some (z_i (x0))], [], (true, X, I, J)) r
  refine z_ev_gs 2 (c1 := (124, (if x0 < 0 then 13 else 4), [some (z_i (x0))], [], (true, X, I, J))) rfl ?_
  refine z_ev_iflt (fun e1 => ?_) (fun e1 => ?_)
  · have h5 := h.1 e1
    refine z_ev_gs 1 (c1 := (124, 14, [some (z_i (x0))], [z_i 0], (true, X, I, J))) rfl ?_
    rw [h5]
    exact z_ev_rt rfl
  · have h6 := h.2 e1
    refine z_ev_gs 3 (c1 := (124, (if (4 : Int32) ≤ x0 then 13 else 9), [some (z_i (x0))], [], (true, X, I, J))) rfl ?_
    refine z_ev_ifle (fun e2 => ?_) (fun e2 => ?_)
    · have h3 := h6.1 e2
      refine z_ev_gs 1 (c1 := (124, 14, [some (z_i (x0))], [z_i 0], (true, X, I, J))) rfl ?_
      rw [h3]
      exact z_ev_rt rfl
    · have h4 := h6.2 e2
      refine z_ev_gs 2 (c1 := (124, 14, [some (z_i (x0))], [z_i 1], (true, X, I, J))) rfl ?_
      rw [h4]
      exact z_ev_rt rfl
theorem z_q158_e {d : Nat} {r : Option z_V × z_M} {X : z_X} {I : Nat → Nat → Nat → Int32} {J : Nat → Nat → Nat → Int64} (x0 : Int32) (x1 : Int32) (x2 : Int32)
    (h : ((x0 < x1 → r = (some (z_i 0), (true, X, I, J))) ∧ (x1 ≤ x0 → ((x2 < x0 → r = (some (z_i 0), (true, X, I, J))) ∧ (x0 ≤ x2 → r = (some (z_i 1), (true, X, I, J))))))) :
    z_ev d (z_en 158 [z_i (x0), z_i (x1), z_i (x2)] (true, X, I, J)) r := by
  show z_ev d (158, 0, [some (z_i (x0)), some (z_i (x1)), some (z_i (x2))], [], (true, X, I, J)) r
  refine z_ev_gs 3 (c1 := (158, (if x0 < x1 then 14 else 5), [some (z_i (x0)), some (z_i (x1)), some (z_i (x2))], [], (true, X, I, J))) rfl ?_
  refine z_ev_iflt (fun e1 => ?_) (fun e1 => ?_)
  · have h5 := h.1 e1
    refine z_ev_gs 1 (c1 := (158, 15, [some (z_i (x0)), some (z_i (x1)), some (z_i (x2))], [z_i 0], (true, X, I, J))) rfl ?_
    rw [h5]
    exact z_ev_rt rfl
  · have h6 := h.2 e1
    refine z_ev_gs 3 (c1 := (158, (if x2 < x0 then 14 else 10), [some (z_i (x0)), some (z_i (x1)), some (z_i (x2))], [], (true, X, I, J))) rfl ?_
    refine z_ev_iflt (fun e2 => ?_) (fun e2 => ?_)
    · have h3 := h6.1 e2
      refine z_ev_gs 1 (c1 := (158, 15, [some (z_i (x0)), some (z_i (x1)), some (z_i (x2))], [z_i 0], (true, X, I, J))) rfl ?_
      rw [h3]
      exact z_ev_rt rfl
    · have h4 := h6.2 e2
      refine z_ev_gs 2 (c1 := (158, 15, [some (z_i (x0)), some (z_i (x1)), some (z_i (x2))], [z_i 1], (true, X, I, J))) rfl ?_
      rw [h4]
      exact z_ev_rt rfl
theorem z_q54_e {d : Nat} {r : Option z_V × z_M} {X : z_X} {I : Nat → Nat → Nat → Int32} {J : Nat → Nat → Nat → Int64} (x0 : Int32)
    (h : ((x0 < (97 : Int32) → r = (some (z_i 0), (true, X, I, J))) ∧ ((97 : Int32) ≤ x0 → (((122 : Int32) < x0 → r = (some (z_i 0), (true, X, I, J))) ∧ (x0 ≤ (122 : Int32) → r = (some (z_i 1), (true, X, I, J))))))) :
    z_ev d (z_en 54 [z_i (x0)] (true, X, I, J)) r := by
  show z_ev d (54, 0, [some (z_i (x0))], [], (true, X, I, J)) r
  refine z_ev_gs 3 (c1 := (54, (if x0 < (97 : Int32) then 16 else 6), [some (z_i (x0))], [], (true, X, I, J))) rfl ?_
  refine z_ev_iflt (fun e1 => ?_) (fun e1 => ?_)
  · have h5 := h.1 e1
    refine z_ev_gs 1 (c1 := (54, 17, [some (z_i (x0))], [z_i 0], (true, X, I, J))) rfl ?_
    rw [h5]
    exact z_ev_rt rfl
  · have h6 := h.2 e1
    refine z_ev_gs 3 (c1 := (54, (if (122 : Int32) < x0 then 16 else 12), [some (z_i (x0))], [], (true, X, I, J))) rfl ?_
    refine z_ev_iflt (fun e2 => ?_) (fun e2 => ?_)
    · have h3 := h6.1 e2
      refine z_ev_gs 1 (c1 := (54, 17, [some (z_i (x0))], [z_i 0], (true, X, I, J))) rfl ?_
      rw [h3]
      exact z_ev_rt rfl
    · have h4 := h6.2 e2
      refine z_ev_gs 2 (c1 := (54, 17, [some (z_i (x0))], [z_i 1], (true, X, I, J))) rfl ?_
      rw [h4]
      exact z_ev_rt rfl
theorem z_q55_e {d : Nat} {r : Option z_V × z_M} {X : z_X} {I : Nat → Nat → Nat → Int32} {J : Nat → Nat → Nat → Int64} (x0 : Int32)
    (h : ((x0 < (48 : Int32) → r = (some (z_i 0), (true, X, I, J))) ∧ ((48 : Int32) ≤ x0 → (((57 : Int32) < x0 → r = (some (z_i 0), (true, X, I, J))) ∧ (x0 ≤ (57 : Int32) → r = (some (z_i 1), (true, X, I, J))))))) :
    z_ev d (z_en 55 [z_i (x0)] (true, X, I, J)) r := by
  show z_ev d (55, 0, [some (z_i (x0))], [], (true, X, I, J)) r
  refine z_ev_gs 3 (c1 := (55, (if x0 < (48 : Int32) then 16 else 6), [some (z_i (x0))], [], (true, X, I, J))) rfl ?_
  refine z_ev_iflt (fun e1 => ?_) (fun e1 => ?_)
  · have h5 := h.1 e1
    refine z_ev_gs 1 (c1 := (55, 17, [some (z_i (x0))], [z_i 0], (true, X, I, J))) rfl ?_
    rw [h5]
    exact z_ev_rt rfl
  · have h6 := h.2 e1
    refine z_ev_gs 3 (c1 := (55, (if (57 : Int32) < x0 then 16 else 12), [some (z_i (x0))], [], (true, X, I, J))) rfl ?_
    refine z_ev_iflt (fun e2 => ?_) (fun e2 => ?_)
    · have h3 := h6.1 e2
      refine z_ev_gs 1 (c1 := (55, 17, [some (z_i (x0))], [z_i 0], (true, X, I, J))) rfl ?_
      rw [h3]
      exact z_ev_rt rfl
    · have h4 := h6.2 e2
      refine z_ev_gs 2 (c1 := (55, 17, [some (z_i (x0))], [z_i 1], (true, X, I, J))) rfl ?_
      rw [h4]
      exact z_ev_rt rfl
theorem z_q120_e {d : Nat} {r : Option z_V × z_M} {X : z_X} {I : Nat → Nat → Nat → Int32} {J : Nat → Nat → Nat → Int64} (x1 : Int32)
    (h : ((x1 < 0 → r = (some (z_i 0), (true, X, I, J))) ∧ (0 ≤ x1 → (((I 1 0 5) ≤ x1 → r = (some (z_i 0), (true, X, I, J))) ∧ (x1 < (I 1 0 5) → r = (some (z_i 1), (true, X, I, J))))))) :
    z_ev d (z_en 120 [z_r 0 0, z_i (x1)] (true, X, I, J)) r := by
  show z_ev d (120, 0, [some (z_r 0 0), some (z_i (x1))], [], (true, X, I, J)) r
  refine z_ev_gs 2 (c1 := (120, (if x1 < 0 then 19 else 4), [some (z_r 0 0), some (z_i (x1))], [], (true, X, I, J))) rfl ?_
  refine z_ev_iflt (fun e1 => ?_) (fun e1 => ?_)
  · have h5 := h.1 e1
    refine z_ev_gs 1 (c1 := (120, 20, [some (z_r 0 0), some (z_i (x1))], [z_i 0], (true, X, I, J))) rfl ?_
    rw [h5]
    exact z_ev_rt rfl
  · have h6 := h.2 e1
    refine z_ev_gs 5 (c1 := (120, (if (I 1 0 5) ≤ x1 then 19 else 15), [some (z_r 0 0), some (z_i (x1))], [], (true, X, I, J))) rfl ?_
    refine z_ev_ifle (fun e2 => ?_) (fun e2 => ?_)
    · have h3 := h6.1 e2
      refine z_ev_gs 1 (c1 := (120, 20, [some (z_r 0 0), some (z_i (x1))], [z_i 0], (true, X, I, J))) rfl ?_
      rw [h3]
      exact z_ev_rt rfl
    · have h4 := h6.2 e2
      refine z_ev_gs 2 (c1 := (120, 20, [some (z_r 0 0), some (z_i (x1))], [z_i 1], (true, X, I, J))) rfl ?_
      rw [h4]
      exact z_ev_rt rfl
theorem z_q5_e {d : Nat} {r : Option z_V × z_M} {X : z_X} {I : Nat → Nat → Nat → Int32} {J : Nat → Nat → Nat → Int64} (x1 : Int32)
    (h : ((x1 < 0 → r = (some (z_i 0), (true, X, I, J))) ∧ (0 ≤ x1 → (((I 4 0 2) ≤ x1 → r = (some (z_i 0), (true, X, I, J))) ∧ (x1 < (I 4 0 2) → r = (some (z_i 1), (true, X, I, J))))))) :
    z_ev d (z_en 5 [z_r 4 0, z_i (x1)] (true, X, I, J)) r := by
  show z_ev d (5, 0, [some (z_r 4 0), some (z_i (x1))], [], (true, X, I, J)) r
  refine z_ev_gs 2 (c1 := (5, (if x1 < 0 then 16 else 4), [some (z_r 4 0), some (z_i (x1))], [], (true, X, I, J))) rfl ?_
  refine z_ev_iflt (fun e1 => ?_) (fun e1 => ?_)
  · have h5 := h.1 e1
    refine z_ev_gs 1 (c1 := (5, 17, [some (z_r 4 0), some (z_i (x1))], [z_i 0], (true, X, I, J))) rfl ?_
    rw [h5]
    exact z_ev_rt rfl
  · have h6 := h.2 e1
    refine z_ev_gs 4 (c1 := (5, (if (I 4 0 2) ≤ x1 then 16 else 12), [some (z_r 4 0), some (z_i (x1))], [], (true, X, I, J))) rfl ?_
    refine z_ev_ifle (fun e2 => ?_) (fun e2 => ?_)
    · have h3 := h6.1 e2
      refine z_ev_gs 1 (c1 := (5, 17, [some (z_r 4 0), some (z_i (x1))], [z_i 0], (true, X, I, J))) rfl ?_
      rw [h3]
      exact z_ev_rt rfl
    · have h4 := h6.2 e2
      refine z_ev_gs 2 (c1 := (5, 17, [some (z_r 4 0), some (z_i (x1))], [z_i 1], (true, X, I, J))) rfl ?_
      rw [h4]
      exact z_ev_rt rfl
theorem z_q125_e {d : Nat} {r : Option z_V × z_M} {X : z_X} {I : Nat → Nat → Nat → Int32} {J : Nat → Nat → Nat → Int64} (x1 : Int32) (x2 : Int32)
    (h : ((x1 < 0 → r = (some (z_i 0), (true, X, I, J))) ∧ (0 ≤ x1 → (((I 0 0 7) ≤ x1 → r = (some (z_i 0), (true, X, I, J))) ∧ (x1 < (I 0 0 7) → ((x2 = 0 → r = (some (z_i 1), (true, X, I, J))) ∧ (¬ x2 = 0 → ((¬ x2 = (1 : Int32) → r = (some (z_i 0), (true, X, I, J))) ∧ (x2 = (1 : Int32) → r = (some (z_i 1), (true, X, I, J))))))))))) :
    z_ev d (z_en 125 [z_r 0 0, z_i (x1), z_i (x2)] (true, X, I, J)) r := by
  show z_ev d (125, 0, [some (z_r 0 0), some (z_i (x1)), some (z_i (x2))], [], (true, X, I, J)) r
  refine z_ev_gs 2 (c1 := (125, (if x1 < 0 then 25 else 4), [some (z_r 0 0), some (z_i (x1)), some (z_i (x2))], [], (true, X, I, J))) rfl ?_
  refine z_ev_iflt (fun e1 => ?_) (fun e1 => ?_)
  · have h11 := h.1 e1
    refine z_ev_gs 1 (c1 := (125, 26, [some (z_r 0 0), some (z_i (x1)), some (z_i (x2))], [z_i 0], (true, X, I, J))) rfl ?_
    rw [h11]
    exact z_ev_rt rfl
  · have h12 := h.2 e1
    refine z_ev_gs 4 (c1 := (125, (if (I 0 0 7) ≤ x1 then 25 else 12), [some (z_r 0 0), some (z_i (x1)), some (z_i (x2))], [], (true, X, I, J))) rfl ?_
    refine z_ev_ifle (fun e2 => ?_) (fun e2 => ?_)
    · have h9 := h12.1 e2
      refine z_ev_gs 1 (c1 := (125, 26, [some (z_r 0 0), some (z_i (x1)), some (z_i (x2))], [z_i 0], (true, X, I, J))) rfl ?_
      rw [h9]
      exact z_ev_rt rfl
    · have h10 := h12.2 e2
      refine z_ev_gs 2 (c1 := (125, (if x2 = 0 then 21 else 16), [some (z_r 0 0), some (z_i (x1)), some (z_i (x2))], [], (true, X, I, J))) rfl ?_
      refine z_ev_if (fun e3 => ?_) (fun e3 => ?_)
      · have h7 := h10.1 e3
        refine z_ev_gs 2 (c1 := (125, 26, [some (z_r 0 0), some (z_i (x1)), some (z_i (x2))], [z_i 1], (true, X, I, J))) rfl ?_
        rw [h7]
        exact z_ev_rt rfl
      · have h8 := h10.2 e3
        refine z_ev_gs 3 (c1 := (125, (if ¬ x2 = (1 : Int32) then 25 else 21), [some (z_r 0 0), some (z_i (x1)), some (z_i (x2))], [], (true, X, I, J))) rfl ?_
        refine z_ev_ifn (fun e4 => ?_) (fun e4 => ?_)
        · have h5 := h8.1 e4
          refine z_ev_gs 1 (c1 := (125, 26, [some (z_r 0 0), some (z_i (x1)), some (z_i (x2))], [z_i 0], (true, X, I, J))) rfl ?_
          rw [h5]
          exact z_ev_rt rfl
        · have h6 := h8.2 e4
          refine z_ev_gs 2 (c1 := (125, 26, [some (z_r 0 0), some (z_i (x1)), some (z_i (x2))], [z_i 1], (true, X, I, J))) rfl ?_
          rw [h6]
          exact z_ev_rt rfl
theorem z_q126_e {d : Nat} {r : Option z_V × z_M} {X : z_X} {I : Nat → Nat → Nat → Int32} {J : Nat → Nat → Nat → Int64} (x0 : Int32)
    (h : r = (some (z_i ((x0 * (x0 - (1 : Int32))) / (2 : Int32))), (true, X, I, J))) :
    z_ev d (z_en 126 [z_i (x0)] (true, X, I, J)) r := by
  show z_ev d (126, 0, [some (z_i (x0))], [], (true, X, I, J)) r
  refine z_ev_gs 6 (c1 := (126, 6, [some (z_i (x0))], [z_i 2, z_i (x0 * (x0 - (1 : Int32)))], (true, X, I, J))) rfl ?_
  refine z_ev_dvi (w1 := (2 : Int32)) (c1 := (126, 7, [some (z_i (x0))], [z_i ((x0 * (x0 - (1 : Int32))) / (2 : Int32))], (true, X, I, J))) rfl (by decide) ?_
  rw [h]
  exact z_ev_rt rfl
theorem z_q127_e {d : Nat} {r : Option z_V × z_M} {X : z_X} {I : Nat → Nat → Nat → Int32} {J : Nat → Nat → Nat → Int64} (x0 : Int32)
    (h : ((x0 = 1 → r = (some (z_i 1), (true, X, I, J))) ∧ (¬ x0 = 1 → ((x0 = 2 → r = (some (z_i 2), (true, X, I, J))) ∧ (¬ x0 = 2 → ((x0 = 3 → r = (some (z_i 4), (true, X, I, J))) ∧ (¬ x0 = 3 → ((x0 = 4 → r = (some (z_i 11), (true, X, I, J))) ∧ (¬ x0 = 4 → r = (some (z_i 0), (true, X, I, J))))))))))) :
    z_ev d (z_en 127 [z_i (x0)] (true, X, I, J)) r := by
  show z_ev d (127, 0, [some (z_i (x0))], [], (true, X, I, J)) r
  refine z_ev_gs 2 (c1 := (127, (if x0 = 1 then 32 else (if x0 = 2 then 34 else (if x0 = 3 then 36 else (if x0 = 4 then 38 else 41)))), [some (z_i (x0))], [], (true, X, I, J))) rfl ?_
  refine z_ev_if (fun e1 => ?_) (fun e1 => ?_)
  · have h2 := h.1 e1
    refine z_ev_gs 1 (c1 := (127, 33, [some (z_i (x0))], [z_i 1], (true, X, I, J))) rfl ?_
    rw [h2]
    exact z_ev_rt rfl
  · have h3 := h.2 e1
    refine z_ev_if (fun e4 => ?_) (fun e4 => ?_)
    · have h5 := h3.1 e4
      refine z_ev_gs 1 (c1 := (127, 35, [some (z_i (x0))], [z_i 2], (true, X, I, J))) rfl ?_
      rw [h5]
      exact z_ev_rt rfl
    · have h6 := h3.2 e4
      refine z_ev_if (fun e7 => ?_) (fun e7 => ?_)
      · have h8 := h6.1 e7
        refine z_ev_gs 1 (c1 := (127, 37, [some (z_i (x0))], [z_i 4], (true, X, I, J))) rfl ?_
        rw [h8]
        exact z_ev_rt rfl
      · have h9 := h6.2 e7
        refine z_ev_if (fun e10 => ?_) (fun e10 => ?_)
        · have h11 := h9.1 e10
          refine z_ev_gs 1 (c1 := (127, 40, [some (z_i (x0))], [z_i 11], (true, X, I, J))) rfl ?_
          rw [h11]
          exact z_ev_rt rfl
        · have h12 := h9.2 e10
          refine z_ev_gs 1 (c1 := (127, 42, [some (z_i (x0))], [z_i 0], (true, X, I, J))) rfl ?_
          rw [h12]
          exact z_ev_rt rfl
theorem z_q159_e {d : Nat} {r : Option z_V × z_M} {X : z_X} {I : Nat → Nat → Nat → Int32} {J : Nat → Nat → Nat → Int64} (x0 : Int32)
    (h : r = (some (z_i ((x0 * (x0 - (1 : Int32))) / (2 : Int32))), (true, X, I, J))) :
    z_ev d (z_en 159 [z_i (x0)] (true, X, I, J)) r := by
  show z_ev d (159, 0, [some (z_i (x0))], [], (true, X, I, J)) r
  refine z_ev_gs 6 (c1 := (159, 6, [some (z_i (x0))], [z_i 2, z_i (x0 * (x0 - (1 : Int32)))], (true, X, I, J))) rfl ?_
  refine z_ev_dvi (w1 := (2 : Int32)) (c1 := (159, 7, [some (z_i (x0))], [z_i ((x0 * (x0 - (1 : Int32))) / (2 : Int32))], (true, X, I, J))) rfl (by decide) ?_
  rw [h]
  exact z_ev_rt rfl
