/-! segments: easy calls; printed by wip/whole/emit_seg.py -/
theorem z_q93_e {d : Nat} {r : Option z_V × z_M} {X : z_X} {I : Nat → Nat → Nat → Int32} {J : Nat → Nat → Nat → Int64} (x1 : Int32)
    (h : r = (some (z_i (I 1 0 6)), (true, X, (z_up I 1 0 6 x1), J))) :
    z_ev d (z_en 93 [z_r 0 0, z_i (x1)] (true, X, I, J)) r := by
  show z_ev d (93, 0, [some (z_r 0 0), some (z_i (x1)), none], [], (true, X, I, J)) r
  refine z_ev_gs 9 (c1 := (93, 17, [some (z_r 0 0), some (z_i (x1)), some (z_i (I 1 0 6))], [z_i (I 1 0 6)], (true, X, (z_up I 1 0 6 x1), J))) rfl ?_
  rw [h]
  exact z_ev_rt rfl
theorem z_q227_e {d : Nat} {r : Option z_V × z_M} {X : z_X} {I : Nat → Nat → Nat → Int32} {J : Nat → Nat → Nat → Int64} (x1 : Int32)
    (h : r = (some (z_i (I 33 0 7)), (true, X, (z_up I 33 0 7 x1), J))) :
    z_ev d (z_en 227 [z_r 33 0, z_i (x1)] (true, X, I, J)) r := by
  show z_ev d (227, 0, [some (z_r 33 0), some (z_i (x1)), none], [], (true, X, I, J)) r
  refine z_ev_gs 7 (c1 := (227, 11, [some (z_r 33 0), some (z_i (x1)), some (z_i (I 33 0 7))], [z_i (I 33 0 7)], (true, X, (z_up I 33 0 7 x1), J))) rfl ?_
  rw [h]
  exact z_ev_rt rfl
theorem z_q86_e {d : Nat} {r : Option z_V × z_M} {X : z_X} {I : Nat → Nat → Nat → Int32} {J : Nat → Nat → Nat → Int64} 
    (h : r = (some (z_i (I 4 0 2)), (true, X, (z_up I 4 0 2 (0 : Int32)), J))) :
    z_ev d (z_en 86 [z_r 0 0] (true, X, I, J)) r := by
  show z_ev d (86, 0, [some (z_r 0 0), none], [], (true, X, I, J)) r
  refine z_ev_gs 11 (c1 := (86, 23, [some (z_r 0 0), some (z_i (I 4 0 2))], [z_i (I 4 0 2)], (true, X, (z_up I 4 0 2 (0 : Int32)), J))) rfl ?_
  rw [h]
  exact z_ev_rt rfl
theorem z_q213_e {d : Nat} {r : Option z_V × z_M} {X : z_X} {I : Nat → Nat → Nat → Int32} {J : Nat → Nat → Nat → Int64} 
    (h : r = (some (z_i (I 33 0 4)), (true, X, (z_up I 33 0 4 (0 : Int32)), J))) :
    z_ev d (z_en 213 [z_r 33 0] (true, X, I, J)) r := by
  show z_ev d (213, 0, [some (z_r 33 0), none], [], (true, X, I, J)) r
  refine z_ev_gs 7 (c1 := (213, 11, [some (z_r 33 0), some (z_i (I 33 0 4))], [z_i (I 33 0 4)], (true, X, (z_up I 33 0 4 (0 : Int32)), J))) rfl ?_
  rw [h]
  exact z_ev_rt rfl
theorem z_q229_e {d : Nat} {r : Option z_V × z_M} {X : z_X} {I : Nat → Nat → Nat → Int32} {J : Nat → Nat → Nat → Int64} (x1 : Int32) (x2 : Int32)
    (h : (∃ k1 : Nat, (((4 : Int32) * x1) + x2) = Int32.ofNat k1 ∧ k1 < 24 ∧ r = (some (z_i (I 39 0 k1)), (true, X, I, J)))) :
    z_ev d (z_en 229 [z_r 33 0, z_i (x1), z_i (x2)] (true, X, I, J)) r := by
  show z_ev d (229, 0, [some (z_r 33 0), some (z_i (x1)), some (z_i (x2))], [], (true, X, I, J)) r
  refine z_ev_gs 7 (c1 := (229, 9, [some (z_r 33 0), some (z_i (x1)), some (z_i (x2))], [z_i (((4 : Int32) * x1) + x2), z_r 39 0], (true, X, I, J))) rfl ?_
  obtain ⟨k1, e2, e3, h4⟩ := h
  refine z_ev_iald (t := 39) (i := 0) (k := k1) (n := 24) rfl rfl e2 e3 (by decide) ?_
  rw [h4]
  exact z_ev_rt rfl
theorem z_q96_e {d : Nat} {r : Option z_V × z_M} {X : z_X} {I : Nat → Nat → Nat → Int32} {J : Nat → Nat → Nat → Int64} (x1 : Int32) (x2 : Int32)
    (h : (((z_lt0 x1 (I 1 0 5)) = false → r = (some (z_i (-1)), (true, X, I, J))) ∧ ((z_lt0 x1 (I 1 0 5)) = true → ((x2 < 0 → r = (some (z_i (-1)), (true, X, I, J))) ∧ (0 ≤ x2 → ((x2 ≤ (99 : Int32) → (∃ k4 : Nat, x1 = Int32.ofNat k4 ∧ k4 < 6 ∧ r = (some (z_i (I 12 0 k4)), (true, X, (z_up I 12 0 k4 x2), J)))) ∧ ((99 : Int32) < x2 → r = (some (z_i (-1)), (true, X, I, J))))))))) :
    z_ev (d + 1) (z_en 96 [z_r 0 0, z_i (x1), z_i (x2)] (true, X, I, J)) r := by
  show z_ev (d + 1) (96, 0, [some (z_r 0 0), some (z_i (x1)), some (z_i (x2)), none], [], (true, X, I, J)) r
  refine z_ev_gs 2 (c1 := (96, 2, [some (z_r 0 0), some (z_i (x1)), some (z_i (x2)), none], [z_i (x1), z_r 0 0], (true, X, I, J))) rfl ?_
  refine z_ev_ca rfl rfl (z_p120 _) ?_
  refine z_ev_gs 1 (c1 := (96, (if z_c (z_lt0 x1 (I 1 0 5)) = 0 then 18 else 8), [some (z_r 0 0), some (z_i (x1)), some (z_i (x2)), none], [], (true, X, I, J))) rfl ?_
  refine z_ev_ifc (fun e1 => ?_) (fun e1 => ?_)
  · have h12 := h.1 e1
    refine z_ev_gs 1 (c1 := (96, 19, [some (z_r 0 0), some (z_i (x1)), some (z_i (x2)), none], [z_i (-1)], (true, X, I, J))) rfl ?_
    rw [h12]
    exact z_ev_rt rfl
  · have h13 := h.2 e1
    refine z_ev_gs 2 (c1 := (96, (if x2 < 0 then 18 else 12), [some (z_r 0 0), some (z_i (x1)), some (z_i (x2)), none], [], (true, X, I, J))) rfl ?_
    refine z_ev_iflt (fun e2 => ?_) (fun e2 => ?_)
    · have h10 := h13.1 e2
      refine z_ev_gs 1 (c1 := (96, 19, [some (z_r 0 0), some (z_i (x1)), some (z_i (x2)), none], [z_i (-1)], (true, X, I, J))) rfl ?_
      rw [h10]
      exact z_ev_rt rfl
    · have h11 := h13.2 e2
      refine z_ev_gs 3 (c1 := (96, (if x2 ≤ (99 : Int32) then 20 else 18), [some (z_r 0 0), some (z_i (x1)), some (z_i (x2)), none], [], (true, X, I, J))) rfl ?_
      refine z_ev_ifle (fun e3 => ?_) (fun e3 => ?_)
      · have h8 := h11.1 e3
        refine z_ev_gs 4 (c1 := (96, 28, [some (z_r 0 0), some (z_i (x1)), some (z_i (x2)), none], [z_i (x1), z_r 12 0], (true, X, I, J))) rfl ?_
        obtain ⟨k4, e5, e6, h7⟩ := h8
        refine z_ev_iald (t := 12) (i := 0) (k := k4) (n := 6) rfl rfl e5 e6 (by decide) ?_
        refine z_ev_gs 6 (c1 := (96, 39, [some (z_r 0 0), some (z_i (x1)), some (z_i (x2)), some (z_i (I 12 0 k4))], [z_i (x2), z_i (x1), z_r 12 0], (true, X, I, J))) rfl ?_
        refine z_ev_iast (t := 12) (i := 0) (k := k4) (n := 6) rfl rfl e5 (Nat.lt_of_lt_of_le e6 (by decide)) (by decide) ?_
        refine z_ev_gs 1 (c1 := (96, 41, [some (z_r 0 0), some (z_i (x1)), some (z_i (x2)), some (z_i (I 12 0 k4))], [z_i (I 12 0 k4)], (true, X, (z_up I 12 0 k4 x2), J))) rfl ?_
        rw [h7]
        exact z_ev_rt rfl
      · have h9 := h11.2 e3
        refine z_ev_gs 1 (c1 := (96, 19, [some (z_r 0 0), some (z_i (x1)), some (z_i (x2)), none], [z_i (-1)], (true, X, I, J))) rfl ?_
        rw [h9]
        exact z_ev_rt rfl
theorem z_q232_e {d : Nat} {r : Option z_V × z_M} {X : z_X} {I : Nat → Nat → Nat → Int32} {J : Nat → Nat → Nat → Int64} (x1 : Int32) (x2 : Int32)
    (h : (((z_bw x1 0 ((I 33 0 8) - 1)) = false → r = (some (z_i (-1)), (true, X, I, J))) ∧ ((z_bw x1 0 ((I 33 0 8) - 1)) = true → (((z_bw x2 (0 : Int32) (99 : Int32)) = true → (∃ (v8 : Int32) (X3 : z_X) (I4 : Nat → Nat → Nat → Int32) (J5 : Nat → Nat → Nat → Int64), z_ev (d + 1) (z_en 229 [z_r 33 0, z_i (x1), z_i 3] (true, X, I, J)) (some (z_i (v8)), (true, X3, I4, J5)) ∧ (∃ k9 : Nat, (((4 : Int32) * x1) + (3 : Int32)) = Int32.ofNat k9 ∧ k9 < 24 ∧ r = (some (z_i (v8)), (true, X3, (z_up I4 39 0 k9 x2), J5))))) ∧ ((z_bw x2 (0 : Int32) (99 : Int32)) = false → r = (some (z_i (-1)), (true, X, I, J))))))) :
    z_ev (d + 2) (z_en 232 [z_r 33 0, z_i (x1), z_i (x2)] (true, X, I, J)) r := by
  show z_ev (d + 2) (232, 0, [some (z_r 33 0), some (z_i (x1)), some (z_i (x2)), none], [], (true, X, I, J)) r
  refine z_ev_gs 2 (c1 := (232, 2, [some (z_r 33 0), some (z_i (x1)), some (z_i (x2)), none], [z_i (x1), z_r 33 0], (true, X, I, J))) rfl ?_
  refine z_ev_ca rfl rfl (z_p228 _) ?_
  refine z_ev_gs 1 (c1 := (232, (if z_c (z_bw x1 0 ((I 33 0 8) - 1)) = 0 then 18 else 8), [some (z_r 33 0), some (z_i (x1)), some (z_i (x2)), none], [], (true, X, I, J))) rfl ?_
  refine z_ev_ifc (fun e1 => ?_) (fun e1 => ?_)
  · have h15 := h.1 e1
    refine z_ev_gs 1 (c1 := (232, 19, [some (z_r 33 0), some (z_i (x1)), some (z_i (x2)), none], [z_i (-1)], (true, X, I, J))) rfl ?_
    rw [h15]
    exact z_ev_rt rfl
  · have h16 := h.2 e1
    refine z_ev_gs 3 (c1 := (232, 12, [some (z_r 33 0), some (z_i (x1)), some (z_i (x2)), none], [z_i 99, z_i 0, z_i (x2)], (true, X, I, J))) rfl ?_
    refine z_ev_ca rfl rfl (z_p158 _ _ _) ?_
    refine z_ev_gs 1 (c1 := (232, (if ¬ z_c (z_bw x2 (0 : Int32) (99 : Int32)) = 0 then 20 else 18), [some (z_r 33 0), some (z_i (x1)), some (z_i (x2)), none], [], (true, X, I, J))) rfl ?_
    refine z_ev_ifcn (fun e2 => ?_) (fun e2 => ?_)
    · have h13 := h16.1 e2
      refine z_ev_gs 3 (c1 := (232, 23, [some (z_r 33 0), some (z_i (x1)), some (z_i (x2)), none], [z_i 3, z_i (x1), z_r 33 0], (true, X, I, J))) rfl ?_
      obtain ⟨v8, X3, I4, J5, g6, h7⟩ := h13
      refine z_ev_ca rfl rfl g6 ?_
      refine z_ev_gs 9 (c1 := (232, 37, [some (z_r 33 0), some (z_i (x1)), some (z_i (x2)), some (z_i (v8))], [z_i (x2), z_i (((4 : Int32) * x1) + (3 : Int32)), z_r 39 0], (true, X3, I4, J5))) rfl ?_
      obtain ⟨k9, e10, e11, h12⟩ := h7
      refine z_ev_iast (t := 39) (i := 0) (k := k9) (n := 24) rfl rfl e10 e11 (by decide) ?_
      refine z_ev_gs 1 (c1 := (232, 39, [some (z_r 33 0), some (z_i (x1)), some (z_i (x2)), some (z_i (v8))], [z_i (v8)], (true, X3, (z_up I4 39 0 k9 x2), J5))) rfl ?_
      rw [h12]
      exact z_ev_rt rfl
    · have h14 := h16.2 e2
      refine z_ev_gs 1 (c1 := (232, 19, [some (z_r 33 0), some (z_i (x1)), some (z_i (x2)), none], [z_i (-1)], (true, X, I, J))) rfl ?_
      rw [h14]
      exact z_ev_rt rfl
theorem z_q95_e {d : Nat} {r : Option z_V × z_M} {X : z_X} {I : Nat → Nat → Nat → Int32} {J : Nat → Nat → Nat → Int64} (x1 : Int32) (x2 : Int32)
    (h : (((z_lt0 x1 (I 1 0 5)) = true → (∃ k2 : Nat, x1 = Int32.ofNat k2 ∧ k2 < 6 ∧ ∃ q6 : Nat, X.2.2.2 11 0 k2 = some (32, q6) ∧ ((x2 = 0 → (q6 < X.1 ∧ r = (some (z_i (I 32 q6 0)), (true, X, I, J)))) ∧ (¬ x2 = 0 → ((x2 = 1 → (q6 < X.1 ∧ r = (some (z_i (I 32 q6 2)), (true, X, I, J)))) ∧ (¬ x2 = 1 → ((x2 = 2 → (q6 < X.1 ∧ r = (some (z_i (I 32 q6 3)), (true, X, I, J)))) ∧ (¬ x2 = 2 → ((x2 = 3 → r = (some (z_i (I 12 0 k2)), (true, X, I, J))) ∧ (¬ x2 = 3 → r = (some (z_i (-1)), (true, X, I, J)))))))))))) ∧ ((z_lt0 x1 (I 1 0 5)) = false → r = (some (z_i (-1)), (true, X, I, J))))) :
    z_ev (d + 1) (z_en 95 [z_r 0 0, z_i (x1), z_i (x2)] (true, X, I, J)) r := by
  show z_ev (d + 1) (95, 0, [some (z_r 0 0), some (z_i (x1)), some (z_i (x2)), none], [], (true, X, I, J)) r
  refine z_ev_gs 2 (c1 := (95, 2, [some (z_r 0 0), some (z_i (x1)), some (z_i (x2)), none], [z_i (x1), z_r 0 0], (true, X, I, J))) rfl ?_
  refine z_ev_ca rfl rfl (z_p120 _) ?_
  refine z_ev_gs 1 (c1 := (95, (if ¬ z_c (z_lt0 x1 (I 1 0 5)) = 0 then 10 else 8), [some (z_r 0 0), some (z_i (x1)), some (z_i (x2)), none], [], (true, X, I, J))) rfl ?_
  refine z_ev_ifcn (fun e1 => ?_) (fun e1 => ?_)
  · have h15 := h.1 e1
    refine z_ev_gs 4 (c1 := (95, 18, [some (z_r 0 0), some (z_i (x1)), some (z_i (x2)), none], [z_i (x1), z_r 11 0], (true, X, I, J))) rfl ?_
    obtain ⟨k2, e3, e4, h5⟩ := h15
    obtain ⟨q6, g7, h8⟩ := h5
    refine z_ev_so (k := k2) rfl rfl e3 e4 g7 ?_
    refine z_ev_gs 3 (c1 := (95, (if x2 = 0 then 52 else (if x2 = 1 then 57 else (if x2 = 2 then 62 else (if x2 = 3 then 67 else 77)))), [some (z_r 0 0), some (z_i (x1)), some (z_i (x2)), some (z_r 32 q6)], [], (true, X, I, J))) rfl ?_
    refine z_ev_if (fun e17 => ?_) (fun e17 => ?_)
    · have h18 := h8.1 e17
      refine z_ev_gs 1 (c1 := (95, 53, [some (z_r 0 0), some (z_i (x1)), some (z_i (x2)), some (z_r 32 q6)], [z_r 32 q6], (true, X, I, J))) rfl ?_
      obtain ⟨g9, h10⟩ := h18
      refine z_ev_gi (c1 := (95, 56, [some (z_r 0 0), some (z_i (x1)), some (z_i (x2)), some (z_r 32 q6)], [z_i (I 32 q6 0)], (true, X, I, J))) rfl g9 ?_
      rw [h10]
      exact z_ev_rt rfl
    · have h19 := h8.2 e17
      refine z_ev_if (fun e20 => ?_) (fun e20 => ?_)
      · have h21 := h19.1 e20
        refine z_ev_gs 1 (c1 := (95, 58, [some (z_r 0 0), some (z_i (x1)), some (z_i (x2)), some (z_r 32 q6)], [z_r 32 q6], (true, X, I, J))) rfl ?_
        obtain ⟨g11, h12⟩ := h21
        refine z_ev_gi (c1 := (95, 61, [some (z_r 0 0), some (z_i (x1)), some (z_i (x2)), some (z_r 32 q6)], [z_i (I 32 q6 2)], (true, X, I, J))) rfl g11 ?_
        rw [h12]
        exact z_ev_rt rfl
      · have h22 := h19.2 e20
        refine z_ev_if (fun e23 => ?_) (fun e23 => ?_)
        · have h24 := h22.1 e23
          refine z_ev_gs 1 (c1 := (95, 63, [some (z_r 0 0), some (z_i (x1)), some (z_i (x2)), some (z_r 32 q6)], [z_r 32 q6], (true, X, I, J))) rfl ?_
          obtain ⟨g13, h14⟩ := h24
          refine z_ev_gi (c1 := (95, 66, [some (z_r 0 0), some (z_i (x1)), some (z_i (x2)), some (z_r 32 q6)], [z_i (I 32 q6 3)], (true, X, I, J))) rfl g13 ?_
          rw [h14]
          exact z_ev_rt rfl
        · have h25 := h22.2 e23
          refine z_ev_if (fun e26 => ?_) (fun e26 => ?_)
          · have h27 := h25.1 e26
            refine z_ev_gs 4 (c1 := (95, 75, [some (z_r 0 0), some (z_i (x1)), some (z_i (x2)), some (z_r 32 q6)], [z_i (x1), z_r 12 0], (true, X, I, J))) rfl ?_
            refine z_ev_iald (t := 12) (i := 0) (k := k2) (n := 6) rfl rfl e3 (Nat.lt_of_lt_of_le e4 (by decide)) (by decide) ?_
            rw [h27]
            exact z_ev_rt rfl
          · have h28 := h25.2 e26
            refine z_ev_gs 1 (c1 := (95, 78, [some (z_r 0 0), some (z_i (x1)), some (z_i (x2)), some (z_r 32 q6)], [z_i (-1)], (true, X, I, J))) rfl ?_
            rw [h28]
            exact z_ev_rt rfl
  · have h16 := h.2 e1
    refine z_ev_gs 1 (c1 := (95, 9, [some (z_r 0 0), some (z_i (x1)), some (z_i (x2)), none], [z_i (-1)], (true, X, I, J))) rfl ?_
    rw [h16]
    exact z_ev_rt rfl
theorem z_q231_e {d : Nat} {r : Option z_V × z_M} {X : z_X} {I : Nat → Nat → Nat → Int32} {J : Nat → Nat → Nat → Int64} (x1 : Int32) (x2 : Int32)
    (h : (((z_bw x1 0 ((I 33 0 8) - 1)) = false → r = (some (z_i (-1)), (true, X, I, J))) ∧ ((z_bw x1 0 ((I 33 0 8) - 1)) = true → (((z_bw x2 (0 : Int32) (3 : Int32)) = false → r = (some (z_i (-1)), (true, X, I, J))) ∧ ((z_bw x2 (0 : Int32) (3 : Int32)) = true → (∃ (v8 : Int32) (X3 : z_X) (I4 : Nat → Nat → Nat → Int32) (J5 : Nat → Nat → Nat → Int64), z_ev (d + 1) (z_en 229 [z_r 33 0, z_i (x1), z_i (x2)] (true, X, I, J)) (some (z_i (v8)), (true, X3, I4, J5)) ∧ r = (some (z_i (v8)), (true, X3, I4, J5)))))))) :
    z_ev (d + 2) (z_en 231 [z_r 33 0, z_i (x1), z_i (x2)] (true, X, I, J)) r := by
  show z_ev (d + 2) (231, 0, [some (z_r 33 0), some (z_i (x1)), some (z_i (x2))], [], (true, X, I, J)) r
  refine z_ev_gs 2 (c1 := (231, 2, [some (z_r 33 0), some (z_i (x1)), some (z_i (x2))], [z_i (x1), z_r 33 0], (true, X, I, J))) rfl ?_
  refine z_ev_ca rfl rfl (z_p228 _) ?_
  refine z_ev_gs 1 (c1 := (231, (if z_c (z_bw x1 0 ((I 33 0 8) - 1)) = 0 then 26 else 8), [some (z_r 33 0), some (z_i (x1)), some (z_i (x2))], [], (true, X, I, J))) rfl ?_
  refine z_ev_ifc (fun e1 => ?_) (fun e1 => ?_)
  · have h11 := h.1 e1
    refine z_ev_gs 1 (c1 := (231, 27, [some (z_r 33 0), some (z_i (x1)), some (z_i (x2))], [z_i (-1)], (true, X, I, J))) rfl ?_
    rw [h11]
    exact z_ev_rt rfl
  · have h12 := h.2 e1
    refine z_ev_gs 3 (c1 := (231, 11, [some (z_r 33 0), some (z_i (x1)), some (z_i (x2))], [z_i 3, z_i 0, z_i (x2)], (true, X, I, J))) rfl ?_
    refine z_ev_ca rfl rfl (z_p158 _ _ _) ?_
    refine z_ev_gs 1 (c1 := (231, (if z_c (z_bw x2 (0 : Int32) (3 : Int32)) = 0 then 26 else 17), [some (z_r 33 0), some (z_i (x1)), some (z_i (x2))], [], (true, X, I, J))) rfl ?_
    refine z_ev_ifc (fun e2 => ?_) (fun e2 => ?_)
    · have h9 := h12.1 e2
      refine z_ev_gs 1 (c1 := (231, 27, [some (z_r 33 0), some (z_i (x1)), some (z_i (x2))], [z_i (-1)], (true, X, I, J))) rfl ?_
      rw [h9]
      exact z_ev_rt rfl
    · have h10 := h12.2 e2
      refine z_ev_gs 3 (c1 := (231, 20, [some (z_r 33 0), some (z_i (x1)), some (z_i (x2))], [z_i (x2), z_i (x1), z_r 33 0], (true, X, I, J))) rfl ?_
      obtain ⟨v8, X3, I4, J5, g6, h7⟩ := h10
      refine z_ev_ca rfl rfl g6 ?_
      refine z_ev_gs 1 (c1 := (231, 27, [some (z_r 33 0), some (z_i (x1)), some (z_i (x2))], [z_i (v8)], (true, X3, I4, J5))) rfl ?_
      rw [h7]
      exact z_ev_rt rfl
theorem z_q105_e {d : Nat} {r : Option z_V × z_M} {X : z_X} {I : Nat → Nat → Nat → Int32} {J : Nat → Nat → Nat → Int64} (x1 : Int32) (x2 : Int32)
    (h : (((z_lt0 x1 (I 0 0 7) && z_bw x2 0 1) = true → ((¬ x2 = 0 → (∃ k3 : Nat, x1 = Int32.ofNat k3 ∧ k3 < 11 ∧ r = (some (z_i (I 20 0 k3)), (true, X, I, J)))) ∧ (x2 = 0 → (∃ k7 : Nat, x1 = Int32.ofNat k7 ∧ k7 < 11 ∧ r = (some (z_i (I 19 0 k7)), (true, X, I, J)))))) ∧ ((z_lt0 x1 (I 0 0 7) && z_bw x2 0 1) = false → r = (some (z_i (-9)), (true, X, I, J))))) :
    z_ev (d + 1) (z_en 105 [z_r 0 0, z_i (x1), z_i (x2)] (true, X, I, J)) r := by
  show z_ev (d + 1) (105, 0, [some (z_r 0 0), some (z_i (x1)), some (z_i (x2))], [], (true, X, I, J)) r
  refine z_ev_gs 3 (c1 := (105, 3, [some (z_r 0 0), some (z_i (x1)), some (z_i (x2))], [z_i (x2), z_i (x1), z_r 0 0], (true, X, I, J))) rfl ?_
  refine z_ev_ca rfl rfl (z_p125 _ _) ?_
  refine z_ev_gs 1 (c1 := (105, (if ¬ z_c (z_lt0 x1 (I 0 0 7) && z_bw x2 0 1) = 0 then 12 else 9), [some (z_r 0 0), some (z_i (x1)), some (z_i (x2))], [], (true, X, I, J))) rfl ?_
  refine z_ev_ifcn (fun e1 => ?_) (fun e1 => ?_)
  · have h13 := h.1 e1
    refine z_ev_gs 2 (c1 := (105, (if ¬ x2 = 0 then 25 else 16), [some (z_r 0 0), some (z_i (x1)), some (z_i (x2))], [], (true, X, I, J))) rfl ?_
    refine z_ev_ifn (fun e2 => ?_) (fun e2 => ?_)
    · have h11 := h13.1 e2
      refine z_ev_gs 3 (c1 := (105, 30, [some (z_r 0 0), some (z_i (x1)), some (z_i (x2))], [z_i (x1), z_r 20 0], (true, X, I, J))) rfl ?_
      obtain ⟨k3, e4, e5, h6⟩ := h11
      refine z_ev_iald (t := 20) (i := 0) (k := k3) (n := 11) rfl rfl e4 e5 (by decide) ?_
      rw [h6]
      exact z_ev_rt rfl
    · have h12 := h13.2 e2
      refine z_ev_gs 3 (c1 := (105, 21, [some (z_r 0 0), some (z_i (x1)), some (z_i (x2))], [z_i (x1), z_r 19 0], (true, X, I, J))) rfl ?_
      obtain ⟨k7, e8, e9, h10⟩ := h12
      refine z_ev_iald (t := 19) (i := 0) (k := k7) (n := 11) rfl rfl e8 e9 (by decide) ?_
      refine z_ev_gs 1 (c1 := (105, 31, [some (z_r 0 0), some (z_i (x1)), some (z_i (x2))], [z_i (I 19 0 k7)], (true, X, I, J))) rfl ?_
      rw [h10]
      exact z_ev_rt rfl
  · have h14 := h.2 e1
    refine z_ev_gs 1 (c1 := (105, 11, [some (z_r 0 0), some (z_i (x1)), some (z_i (x2))], [z_i (-9)], (true, X, I, J))) rfl ?_
    rw [h14]
    exact z_ev_rt rfl
theorem z_q246_e {d : Nat} {r : Option z_V × z_M} {X : z_X} {I : Nat → Nat → Nat → Int32} {J : Nat → Nat → Nat → Int64} (x1 : Int32) (x2 : Int32)
    (h : (((z_bw x1 0 ((I 33 0 37) - 1) && z_bw x2 0 1) = false → r = (some (z_i (-9)), (true, X, I, J))) ∧ ((z_bw x1 0 ((I 33 0 37) - 1) && z_bw x2 0 1) = true → (∃ k2 : Nat, (((2 : Int32) * x1) + x2) = Int32.ofNat k2 ∧ k2 < 22 ∧ r = (some (z_i (I 53 0 k2)), (true, X, I, J)))))) :
    z_ev (d + 3) (z_en 246 [z_r 33 0, z_i (x1), z_i (x2)] (true, X, I, J)) r := by
  show z_ev (d + 3) (246, 0, [some (z_r 33 0), some (z_i (x1)), some (z_i (x2))], [], (true, X, I, J)) r
  refine z_ev_gs 3 (c1 := (246, 3, [some (z_r 33 0), some (z_i (x1)), some (z_i (x2))], [z_i (x2), z_i (x1), z_r 33 0], (true, X, I, J))) rfl ?_
  refine z_ev_ca rfl rfl (z_p245 _ _) ?_
  refine z_ev_gs 1 (c1 := (246, (if z_c (z_bw x1 0 ((I 33 0 37) - 1) && z_bw x2 0 1) = 0 then 22 else 9), [some (z_r 33 0), some (z_i (x1)), some (z_i (x2))], [], (true, X, I, J))) rfl ?_
  refine z_ev_ifc (fun e1 => ?_) (fun e1 => ?_)
  · have h6 := h.1 e1
    refine z_ev_gs 1 (c1 := (246, 24, [some (z_r 33 0), some (z_i (x1)), some (z_i (x2))], [z_i (-9)], (true, X, I, J))) rfl ?_
    rw [h6]
    exact z_ev_rt rfl
  · have h7 := h.2 e1
    refine z_ev_gs 7 (c1 := (246, 18, [some (z_r 33 0), some (z_i (x1)), some (z_i (x2))], [z_i (((2 : Int32) * x1) + x2), z_r 53 0], (true, X, I, J))) rfl ?_
    obtain ⟨k2, e3, e4, h5⟩ := h7
    refine z_ev_iald (t := 53) (i := 0) (k := k2) (n := 22) rfl rfl e3 e4 (by decide) ?_
    refine z_ev_gs 1 (c1 := (246, 24, [some (z_r 33 0), some (z_i (x1)), some (z_i (x2))], [z_i (I 53 0 k2)], (true, X, I, J))) rfl ?_
    rw [h5]
    exact z_ev_rt rfl
theorem z_q106_e {d : Nat} {r : Option z_V × z_M} {X : z_X} {I : Nat → Nat → Nat → Int32} {J : Nat → Nat → Nat → Int64} (x1 : Int32) (x2 : Int32) (x3 : Int32)
    (h : (((z_lt0 x1 (I 0 0 7) && z_bw x2 0 1) = true → ((¬ x2 = 0 → (∃ k3 : Nat, x1 = Int32.ofNat k3 ∧ k3 < 11 ∧ r = (some (z_i (I 20 0 k3)), (true, X, (z_up I 20 0 k3 x3), J)))) ∧ (x2 = 0 → (∃ k7 : Nat, x1 = Int32.ofNat k7 ∧ k7 < 11 ∧ r = (some (z_i (I 19 0 k7)), (true, X, (z_up I 19 0 k7 x3), J)))))) ∧ ((z_lt0 x1 (I 0 0 7) && z_bw x2 0 1) = false → r = (some (z_i (-9)), (true, X, I, J))))) :
    z_ev (d + 1) (z_en 106 [z_r 0 0, z_i (x1), z_i (x2), z_i (x3)] (true, X, I, J)) r := by
  show z_ev (d + 1) (106, 0, [some (z_r 0 0), some (z_i (x1)), some (z_i (x2)), some (z_i (x3)), none, none], [], (true, X, I, J)) r
  refine z_ev_gs 3 (c1 := (106, 3, [some (z_r 0 0), some (z_i (x1)), some (z_i (x2)), some (z_i (x3)), none, none], [z_i (x2), z_i (x1), z_r 0 0], (true, X, I, J))) rfl ?_
  refine z_ev_ca rfl rfl (z_p125 _ _) ?_
  refine z_ev_gs 1 (c1 := (106, (if ¬ z_c (z_lt0 x1 (I 0 0 7) && z_bw x2 0 1) = 0 then 12 else 9), [some (z_r 0 0), some (z_i (x1)), some (z_i (x2)), some (z_i (x3)), none, none], [], (true, X, I, J))) rfl ?_
  refine z_ev_ifcn (fun e1 => ?_) (fun e1 => ?_)
  · have h13 := h.1 e1
    refine z_ev_gs 2 (c1 := (106, (if ¬ x2 = 0 then 23 else 16), [some (z_r 0 0), some (z_i (x1)), some (z_i (x2)), some (z_i (x3)), none, none], [], (true, X, I, J))) rfl ?_
    refine z_ev_ifn (fun e2 => ?_) (fun e2 => ?_)
    · have h11 := h13.1 e2
      refine z_ev_gs 5 (c1 := (106, 32, [some (z_r 0 0), some (z_i (x1)), some (z_i (x2)), some (z_i (x3)), some (z_r 20 0), none], [z_i (x1), z_r 20 0], (true, X, I, J))) rfl ?_
      obtain ⟨k3, e4, e5, h6⟩ := h11
      refine z_ev_iald (t := 20) (i := 0) (k := k3) (n := 11) rfl rfl e4 e5 (by decide) ?_
      refine z_ev_gs 4 (c1 := (106, 39, [some (z_r 0 0), some (z_i (x1)), some (z_i (x2)), some (z_i (x3)), some (z_r 20 0), some (z_i (I 20 0 k3))], [z_i (x3), z_i (x1), z_r 20 0], (true, X, I, J))) rfl ?_
      refine z_ev_iast (t := 20) (i := 0) (k := k3) (n := 11) rfl rfl e4 (Nat.lt_of_lt_of_le e5 (by decide)) (by decide) ?_
      refine z_ev_gs 1 (c1 := (106, 42, [some (z_r 0 0), some (z_i (x1)), some (z_i (x2)), some (z_i (x3)), some (z_r 20 0), some (z_i (I 20 0 k3))], [z_i (I 20 0 k3)], (true, X, (z_up I 20 0 k3 x3), J))) rfl ?_
      rw [h6]
      exact z_ev_rt rfl
    · have h12 := h13.2 e2
      refine z_ev_gs 6 (c1 := (106, 32, [some (z_r 0 0), some (z_i (x1)), some (z_i (x2)), some (z_i (x3)), some (z_r 19 0), none], [z_i (x1), z_r 19 0], (true, X, I, J))) rfl ?_
      obtain ⟨k7, e8, e9, h10⟩ := h12
      refine z_ev_iald (t := 19) (i := 0) (k := k7) (n := 11) rfl rfl e8 e9 (by decide) ?_
      refine z_ev_gs 4 (c1 := (106, 39, [some (z_r 0 0), some (z_i (x1)), some (z_i (x2)), some (z_i (x3)), some (z_r 19 0), some (z_i (I 19 0 k7))], [z_i (x3), z_i (x1), z_r 19 0], (true, X, I, J))) rfl ?_
      refine z_ev_iast (t := 19) (i := 0) (k := k7) (n := 11) rfl rfl e8 (Nat.lt_of_lt_of_le e9 (by decide)) (by decide) ?_
      refine z_ev_gs 1 (c1 := (106, 42, [some (z_r 0 0), some (z_i (x1)), some (z_i (x2)), some (z_i (x3)), some (z_r 19 0), some (z_i (I 19 0 k7))], [z_i (I 19 0 k7)], (true, X, (z_up I 19 0 k7 x3), J))) rfl ?_
      rw [h10]
      exact z_ev_rt rfl
  · have h14 := h.2 e1
    refine z_ev_gs 1 (c1 := (106, 11, [some (z_r 0 0), some (z_i (x1)), some (z_i (x2)), some (z_i (x3)), none, none], [z_i (-9)], (true, X, I, J))) rfl ?_
    rw [h14]
    exact z_ev_rt rfl
theorem z_q247_e {d : Nat} {r : Option z_V × z_M} {X : z_X} {I : Nat → Nat → Nat → Int32} {J : Nat → Nat → Nat → Int64} (x1 : Int32) (x2 : Int32) (x3 : Int32)
    (h : (((z_bw x1 0 ((I 33 0 37) - 1) && z_bw x2 0 1) = true → (∃ k2 : Nat, (((2 : Int32) * x1) + x2) = Int32.ofNat k2 ∧ k2 < 22 ∧ r = (some (z_i (I 53 0 k2)), (true, X, (z_up I 53 0 k2 x3), J)))) ∧ ((z_bw x1 0 ((I 33 0 37) - 1) && z_bw x2 0 1) = false → r = (some (z_i (-9)), (true, X, I, J))))) :
    z_ev (d + 3) (z_en 247 [z_r 33 0, z_i (x1), z_i (x2), z_i (x3)] (true, X, I, J)) r := by
  show z_ev (d + 3) (247, 0, [some (z_r 33 0), some (z_i (x1)), some (z_i (x2)), some (z_i (x3)), none], [], (true, X, I, J)) r
  refine z_ev_gs 3 (c1 := (247, 3, [some (z_r 33 0), some (z_i (x1)), some (z_i (x2)), some (z_i (x3)), none], [z_i (x2), z_i (x1), z_r 33 0], (true, X, I, J))) rfl ?_
  refine z_ev_ca rfl rfl (z_p245 _ _) ?_
  refine z_ev_gs 1 (c1 := (247, (if ¬ z_c (z_bw x1 0 ((I 33 0 37) - 1) && z_bw x2 0 1) = 0 then 12 else 9), [some (z_r 33 0), some (z_i (x1)), some (z_i (x2)), some (z_i (x3)), none], [], (true, X, I, J))) rfl ?_
  refine z_ev_ifcn (fun e1 => ?_) (fun e1 => ?_)
  · have h6 := h.1 e1
    refine z_ev_gs 7 (c1 := (247, 21, [some (z_r 33 0), some (z_i (x1)), some (z_i (x2)), some (z_i (x3)), none], [z_i (((2 : Int32) * x1) + x2), z_r 53 0], (true, X, I, J))) rfl ?_
    obtain ⟨k2, e3, e4, h5⟩ := h6
    refine z_ev_iald (t := 53) (i := 0) (k := k2) (n := 22) rfl rfl e3 e4 (by decide) ?_
    refine z_ev_gs 9 (c1 := (247, 34, [some (z_r 33 0), some (z_i (x1)), some (z_i (x2)), some (z_i (x3)), some (z_i (I 53 0 k2))], [z_i (x3), z_i (((2 : Int32) * x1) + x2), z_r 53 0], (true, X, I, J))) rfl ?_
    refine z_ev_iast (t := 53) (i := 0) (k := k2) (n := 22) rfl rfl e3 (Nat.lt_of_lt_of_le e4 (by decide)) (by decide) ?_
    refine z_ev_gs 1 (c1 := (247, 37, [some (z_r 33 0), some (z_i (x1)), some (z_i (x2)), some (z_i (x3)), some (z_i (I 53 0 k2))], [z_i (I 53 0 k2)], (true, X, (z_up I 53 0 k2 x3), J))) rfl ?_
    rw [h5]
    exact z_ev_rt rfl
  · have h7 := h.2 e1
    refine z_ev_gs 1 (c1 := (247, 11, [some (z_r 33 0), some (z_i (x1)), some (z_i (x2)), some (z_i (x3)), none], [z_i (-9)], (true, X, I, J))) rfl ?_
    rw [h7]
    exact z_ev_rt rfl
theorem z_q7_e {d : Nat} {r : Option z_V × z_M} {X : z_X} {I : Nat → Nat → Nat → Int32} {J : Nat → Nat → Nat → Int64} (x1 : Int32) (x2 : Int32)
    (h : (∃ k1 : Nat, ((x1 * (5 : Int32)) + x2) = Int32.ofNat k1 ∧ k1 < 25 ∧ r = (some (z_i (I 6 0 k1)), (true, X, I, J)))) :
    z_ev d (z_en 7 [z_r 4 0, z_i (x1), z_i (x2)] (true, X, I, J)) r := by
  show z_ev d (7, 0, [some (z_r 4 0), some (z_i (x1)), some (z_i (x2))], [], (true, X, I, J)) r
  refine z_ev_gs 7 (c1 := (7, 9, [some (z_r 4 0), some (z_i (x1)), some (z_i (x2))], [z_i ((x1 * (5 : Int32)) + x2), z_r 6 0], (true, X, I, J))) rfl ?_
  obtain ⟨k1, e2, e3, h4⟩ := h
  refine z_ev_iald (t := 6) (i := 0) (k := k1) (n := 25) rfl rfl e2 e3 (by decide) ?_
  rw [h4]
  exact z_ev_rt rfl
theorem z_q8_e {d : Nat} {r : Option z_V × z_M} {X : z_X} {I : Nat → Nat → Nat → Int32} {J : Nat → Nat → Nat → Int64} (x1 : Int32) (x2 : Int32) (x3 : Int32)
    (h : (∃ k1 : Nat, ((x1 * (5 : Int32)) + x2) = Int32.ofNat k1 ∧ k1 < 25 ∧ (∃ k5 : Nat, ((x2 * (5 : Int32)) + x1) = Int32.ofNat k5 ∧ k5 < 25 ∧ r = (none, (true, X, (z_up (z_up I 6 0 k1 x3) 6 0 k5 x3), J))))) :
    z_ev d (z_en 8 [z_r 4 0, z_i (x1), z_i (x2), z_i (x3)] (true, X, I, J)) r := by
  show z_ev d (8, 0, [some (z_r 4 0), some (z_i (x1)), some (z_i (x2)), some (z_i (x3))], [], (true, X, I, J)) r
  refine z_ev_gs 8 (c1 := (8, 10, [some (z_r 4 0), some (z_i (x1)), some (z_i (x2)), some (z_i (x3))], [z_i (x3), z_i ((x1 * (5 : Int32)) + x2), z_r 6 0], (true, X, I, J))) rfl ?_
  obtain ⟨k1, e2, e3, h4⟩ := h
  refine z_ev_iast (t := 6) (i := 0) (k := k1) (n := 25) rfl rfl e2 e3 (by decide) ?_
  refine z_ev_gs 8 (c1 := (8, 21, [some (z_r 4 0), some (z_i (x1)), some (z_i (x2)), some (z_i (x3))], [z_i (x3), z_i ((x2 * (5 : Int32)) + x1), z_r 6 0], (true, X, (z_up I 6 0 k1 x3), J))) rfl ?_
  obtain ⟨k5, e6, e7, h8⟩ := h4
  refine z_ev_iast (t := 6) (i := 0) (k := k5) (n := 25) rfl rfl e6 e7 (by decide) ?_
  rw [h8]
  exact z_ev_rt rfl
theorem z_q85_e {d : Nat} {r : Option z_V × z_M} {X : z_X} {I : Nat → Nat → Nat → Int32} {J : Nat → Nat → Nat → Int64} (x1 : Int32) (x2 : Int32) (x3 : Int32)
    (h : (((z_lt0 x1 (I 4 0 2)) = false → r = (some (z_i (-1)), (true, X, I, J))) ∧ ((z_lt0 x1 (I 4 0 2)) = true → (((z_lt0 x2 (I 4 0 2)) = false → r = (some (z_i (-1)), (true, X, I, J))) ∧ ((z_lt0 x2 (I 4 0 2)) = true → ((x3 < 0 → r = (some (z_i (-1)), (true, X, I, J))) ∧ (0 ≤ x3 → ((x3 ≤ (4 : Int32) → (∃ (v10 : Int32) (X5 : z_X) (I6 : Nat → Nat → Nat → Int32) (J7 : Nat → Nat → Nat → Int64), z_ev d (z_en 7 [z_r 4 0, z_i (x1), z_i (x2)] (true, X, I, J)) (some (z_i (v10)), (true, X5, I6, J7)) ∧ (∃ (X11 : z_X) (I12 : Nat → Nat → Nat → Int32) (J13 : Nat → Nat → Nat → Int64), z_ev d (z_en 8 [z_r 4 0, z_i (x1), z_i (x2), z_i (x3)] (true, X5, I6, J7)) (none, (true, X11, I12, J13)) ∧ r = (some (z_i (v10)), (true, X11, I12, J13))))) ∧ ((4 : Int32) < x3 → r = (some (z_i (-1)), (true, X, I, J))))))))))) :
    z_ev (d + 1) (z_en 85 [z_r 0 0, z_i (x1), z_i (x2), z_i (x3)] (true, X, I, J)) r := by
  show z_ev (d + 1) (85, 0, [some (z_r 0 0), some (z_i (x1)), some (z_i (x2)), some (z_i (x3)), none, none], [], (true, X, I, J)) r
  refine z_ev_gs 6 (c1 := (85, 12, [some (z_r 0 0), some (z_i (x1)), some (z_i (x2)), some (z_i (x3)), some (z_r 4 0), none], [z_i (x1), z_r 4 0], (true, X, I, J))) rfl ?_
  refine z_ev_ca rfl rfl (z_p5 _) ?_
  refine z_ev_gs 1 (c1 := (85, (if z_c (z_lt0 x1 (I 4 0 2)) = 0 then 36 else 18), [some (z_r 0 0), some (z_i (x1)), some (z_i (x2)), some (z_i (x3)), some (z_r 4 0), none], [], (true, X, I, J))) rfl ?_
  refine z_ev_ifc (fun e1 => ?_) (fun e1 => ?_)
  · have h22 := h.1 e1
    refine z_ev_gs 1 (c1 := (85, 37, [some (z_r 0 0), some (z_i (x1)), some (z_i (x2)), some (z_i (x3)), some (z_r 4 0), none], [z_i (-1)], (true, X, I, J))) rfl ?_
    rw [h22]
    exact z_ev_rt rfl
  · have h23 := h.2 e1
    refine z_ev_gs 2 (c1 := (85, 21, [some (z_r 0 0), some (z_i (x1)), some (z_i (x2)), some (z_i (x3)), some (z_r 4 0), none], [z_i (x2), z_r 4 0], (true, X, I, J))) rfl ?_
    refine z_ev_ca rfl rfl (z_p5 _) ?_
    refine z_ev_gs 1 (c1 := (85, (if z_c (z_lt0 x2 (I 4 0 2)) = 0 then 36 else 27), [some (z_r 0 0), some (z_i (x1)), some (z_i (x2)), some (z_i (x3)), some (z_r 4 0), none], [], (true, X, I, J))) rfl ?_
    refine z_ev_ifc (fun e2 => ?_) (fun e2 => ?_)
    · have h20 := h23.1 e2
      refine z_ev_gs 1 (c1 := (85, 37, [some (z_r 0 0), some (z_i (x1)), some (z_i (x2)), some (z_i (x3)), some (z_r 4 0), none], [z_i (-1)], (true, X, I, J))) rfl ?_
      rw [h20]
      exact z_ev_rt rfl
    · have h21 := h23.2 e2
      refine z_ev_gs 2 (c1 := (85, (if x3 < 0 then 36 else 31), [some (z_r 0 0), some (z_i (x1)), some (z_i (x2)), some (z_i (x3)), some (z_r 4 0), none], [], (true, X, I, J))) rfl ?_
      refine z_ev_iflt (fun e3 => ?_) (fun e3 => ?_)
      · have h18 := h21.1 e3
        refine z_ev_gs 1 (c1 := (85, 37, [some (z_r 0 0), some (z_i (x1)), some (z_i (x2)), some (z_i (x3)), some (z_r 4 0), none], [z_i (-1)], (true, X, I, J))) rfl ?_
        rw [h18]
        exact z_ev_rt rfl
      · have h19 := h21.2 e3
        refine z_ev_gs 3 (c1 := (85, (if x3 ≤ (4 : Int32) then 38 else 36), [some (z_r 0 0), some (z_i (x1)), some (z_i (x2)), some (z_i (x3)), some (z_r 4 0), none], [], (true, X, I, J))) rfl ?_
        refine z_ev_ifle (fun e4 => ?_) (fun e4 => ?_)
        · have h16 := h19.1 e4
          refine z_ev_gs 3 (c1 := (85, 42, [some (z_r 0 0), some (z_i (x1)), some (z_i (x2)), some (z_i (x3)), some (z_r 4 0), none], [z_i (x2), z_i (x1), z_r 4 0], (true, X, I, J))) rfl ?_
          obtain ⟨v10, X5, I6, J7, g8, h9⟩ := h16
          refine z_ev_ca rfl rfl g8 ?_
          refine z_ev_gs 5 (c1 := (85, 52, [some (z_r 0 0), some (z_i (x1)), some (z_i (x2)), some (z_i (x3)), some (z_r 4 0), some (z_i (v10))], [z_i (x3), z_i (x2), z_i (x1), z_r 4 0], (true, X5, I6, J7))) rfl ?_
          obtain ⟨X11, I12, J13, g14, h15⟩ := h9
          refine z_ev_ca rfl rfl g14 ?_
          refine z_ev_gs 1 (c1 := (85, 57, [some (z_r 0 0), some (z_i (x1)), some (z_i (x2)), some (z_i (x3)), some (z_r 4 0), some (z_i (v10))], [z_i (v10)], (true, X11, I12, J13))) rfl ?_
          rw [h15]
          exact z_ev_rt rfl
        · have h17 := h19.2 e4
          refine z_ev_gs 1 (c1 := (85, 37, [some (z_r 0 0), some (z_i (x1)), some (z_i (x2)), some (z_i (x3)), some (z_r 4 0), none], [z_i (-1)], (true, X, I, J))) rfl ?_
          rw [h17]
          exact z_ev_rt rfl
theorem z_q212_e {d : Nat} {r : Option z_V × z_M} {X : z_X} {I : Nat → Nat → Nat → Int32} {J : Nat → Nat → Nat → Int64} (x1 : Int32) (x2 : Int32) (x3 : Int32)
    (h : (((z_bw x1 (0 : Int32) ((I 33 0 4) - (1 : Int32))) = false → r = (some (z_i (-1)), (true, X, I, J))) ∧ ((z_bw x1 (0 : Int32) ((I 33 0 4) - (1 : Int32))) = true → (((z_bw x2 (0 : Int32) ((I 33 0 4) - (1 : Int32))) = false → r = (some (z_i (-1)), (true, X, I, J))) ∧ ((z_bw x2 (0 : Int32) ((I 33 0 4) - (1 : Int32))) = true → (((z_bw x3 (0 : Int32) (4 : Int32)) = true → (∃ k4 : Nat, (((5 : Int32) * x1) + x2) = Int32.ofNat k4 ∧ k4 < 25 ∧ (∃ k8 : Nat, (((5 : Int32) * x2) + x1) = Int32.ofNat k8 ∧ k8 < 25 ∧ r = (some (z_i (I 38 0 k4)), (true, X, (z_up (z_up I 38 0 k4 x3) 38 0 k8 x3), J))))) ∧ ((z_bw x3 (0 : Int32) (4 : Int32)) = false → r = (some (z_i (-1)), (true, X, I, J))))))))) :
    z_ev (d + 1) (z_en 212 [z_r 33 0, z_i (x1), z_i (x2), z_i (x3)] (true, X, I, J)) r := by
  show z_ev (d + 1) (212, 0, [some (z_r 33 0), some (z_i (x1)), some (z_i (x2)), some (z_i (x3)), none], [], (true, X, I, J)) r
  refine z_ev_gs 6 (c1 := (212, 8, [some (z_r 33 0), some (z_i (x1)), some (z_i (x2)), some (z_i (x3)), none], [z_i ((I 33 0 4) - (1 : Int32)), z_i 0, z_i (x1)], (true, X, I, J))) rfl ?_
  refine z_ev_ca rfl rfl (z_p158 _ _ _) ?_
  refine z_ev_gs 1 (c1 := (212, (if z_c (z_bw x1 (0 : Int32) ((I 33 0 4) - (1 : Int32))) = 0 then 37 else 14), [some (z_r 33 0), some (z_i (x1)), some (z_i (x2)), some (z_i (x3)), none], [], (true, X, I, J))) rfl ?_
  refine z_ev_ifc (fun e1 => ?_) (fun e1 => ?_)
  · have h16 := h.1 e1
    refine z_ev_gs 1 (c1 := (212, 38, [some (z_r 33 0), some (z_i (x1)), some (z_i (x2)), some (z_i (x3)), none], [z_i (-1)], (true, X, I, J))) rfl ?_
    rw [h16]
    exact z_ev_rt rfl
  · have h17 := h.2 e1
    refine z_ev_gs 6 (c1 := (212, 22, [some (z_r 33 0), some (z_i (x1)), some (z_i (x2)), some (z_i (x3)), none], [z_i ((I 33 0 4) - (1 : Int32)), z_i 0, z_i (x2)], (true, X, I, J))) rfl ?_
    refine z_ev_ca rfl rfl (z_p158 _ _ _) ?_
    refine z_ev_gs 1 (c1 := (212, (if z_c (z_bw x2 (0 : Int32) ((I 33 0 4) - (1 : Int32))) = 0 then 37 else 28), [some (z_r 33 0), some (z_i (x1)), some (z_i (x2)), some (z_i (x3)), none], [], (true, X, I, J))) rfl ?_
    refine z_ev_ifc (fun e2 => ?_) (fun e2 => ?_)
    · have h14 := h17.1 e2
      refine z_ev_gs 1 (c1 := (212, 38, [some (z_r 33 0), some (z_i (x1)), some (z_i (x2)), some (z_i (x3)), none], [z_i (-1)], (true, X, I, J))) rfl ?_
      rw [h14]
      exact z_ev_rt rfl
    · have h15 := h17.2 e2
      refine z_ev_gs 3 (c1 := (212, 31, [some (z_r 33 0), some (z_i (x1)), some (z_i (x2)), some (z_i (x3)), none], [z_i 4, z_i 0, z_i (x3)], (true, X, I, J))) rfl ?_
      refine z_ev_ca rfl rfl (z_p158 _ _ _) ?_
      refine z_ev_gs 1 (c1 := (212, (if ¬ z_c (z_bw x3 (0 : Int32) (4 : Int32)) = 0 then 39 else 37), [some (z_r 33 0), some (z_i (x1)), some (z_i (x2)), some (z_i (x3)), none], [], (true, X, I, J))) rfl ?_
      refine z_ev_ifcn (fun e3 => ?_) (fun e3 => ?_)
      · have h12 := h15.1 e3
        refine z_ev_gs 7 (c1 := (212, 48, [some (z_r 33 0), some (z_i (x1)), some (z_i (x2)), some (z_i (x3)), none], [z_i (((5 : Int32) * x1) + x2), z_r 38 0], (true, X, I, J))) rfl ?_
        obtain ⟨k4, e5, e6, h7⟩ := h12
        refine z_ev_iald (t := 38) (i := 0) (k := k4) (n := 25) rfl rfl e5 e6 (by decide) ?_
        refine z_ev_gs 9 (c1 := (212, 61, [some (z_r 33 0), some (z_i (x1)), some (z_i (x2)), some (z_i (x3)), some (z_i (I 38 0 k4))], [z_i (x3), z_i (((5 : Int32) * x1) + x2), z_r 38 0], (true, X, I, J))) rfl ?_
        refine z_ev_iast (t := 38) (i := 0) (k := k4) (n := 25) rfl rfl e5 (Nat.lt_of_lt_of_le e6 (by decide)) (by decide) ?_
        refine z_ev_gs 8 (c1 := (212, 72, [some (z_r 33 0), some (z_i (x1)), some (z_i (x2)), some (z_i (x3)), some (z_i (I 38 0 k4))], [z_i (x3), z_i (((5 : Int32) * x2) + x1), z_r 38 0], (true, X, (z_up I 38 0 k4 x3), J))) rfl ?_
        obtain ⟨k8, e9, e10, h11⟩ := h7
        refine z_ev_iast (t := 38) (i := 0) (k := k8) (n := 25) rfl rfl e9 e10 (by decide) ?_
        refine z_ev_gs 1 (c1 := (212, 75, [some (z_r 33 0), some (z_i (x1)), some (z_i (x2)), some (z_i (x3)), some (z_i (I 38 0 k4))], [z_i (I 38 0 k4)], (true, X, (z_up (z_up I 38 0 k4 x3) 38 0 k8 x3), J))) rfl ?_
        rw [h11]
        exact z_ev_rt rfl
      · have h13 := h15.2 e3
        refine z_ev_gs 1 (c1 := (212, 38, [some (z_r 33 0), some (z_i (x1)), some (z_i (x2)), some (z_i (x3)), none], [z_i (-1)], (true, X, I, J))) rfl ?_
        rw [h13]
        exact z_ev_rt rfl
theorem z_q114_e {d : Nat} {r : Option z_V × z_M} {X : z_X} {I : Nat → Nat → Nat → Int32} {J : Nat → Nat → Nat → Int64} (x1 : Int32)
    (h : ((x1 < 0 → r = (some (z_i (-3)), (true, X, I, J))) ∧ (0 ≤ x1 → ((x1 < (I 17 0 1) → (∃ k3 : Nat, x1 = Int32.ofNat k3 ∧ k3 < 30 ∧ r = (some (z_i (I 18 0 k3)), (true, X, I, J)))) ∧ ((I 17 0 1) ≤ x1 → r = (some (z_i (-3)), (true, X, I, J))))))) :
    z_ev d (z_en 114 [z_r 0 0, z_i (x1)] (true, X, I, J)) r := by
  show z_ev d (114, 0, [some (z_r 0 0), some (z_i (x1))], [], (true, X, I, J)) r
  refine z_ev_gs 2 (c1 := (114, (if x1 < 0 then 15 else 4), [some (z_r 0 0), some (z_i (x1))], [], (true, X, I, J))) rfl ?_
  refine z_ev_iflt (fun e1 => ?_) (fun e1 => ?_)
  · have h9 := h.1 e1
    refine z_ev_gs 2 (c1 := (114, 29, [some (z_r 0 0), some (z_i (x1))], [z_i (-3)], (true, X, I, J))) rfl ?_
    rw [h9]
    exact z_ev_rt rfl
  · have h10 := h.2 e1
    refine z_ev_gs 5 (c1 := (114, (if x1 < (I 17 0 1) then 20 else 15), [some (z_r 0 0), some (z_i (x1))], [], (true, X, I, J))) rfl ?_
    refine z_ev_iflt (fun e2 => ?_) (fun e2 => ?_)
    · have h7 := h10.1 e2
      refine z_ev_gs 4 (c1 := (114, 28, [some (z_r 0 0), some (z_i (x1))], [z_i (x1), z_r 18 0], (true, X, I, J))) rfl ?_
      obtain ⟨k3, e4, e5, h6⟩ := h7
      refine z_ev_iald (t := 18) (i := 0) (k := k3) (n := 30) rfl rfl e4 e5 (by decide) ?_
      rw [h6]
      exact z_ev_rt rfl
    · have h8 := h10.2 e2
      refine z_ev_gs 2 (c1 := (114, 29, [some (z_r 0 0), some (z_i (x1))], [z_i (-3)], (true, X, I, J))) rfl ?_
      rw [h8]
      exact z_ev_rt rfl
theorem z_q269_e {d : Nat} {r : Option z_V × z_M} {X : z_X} {I : Nat → Nat → Nat → Int32} {J : Nat → Nat → Nat → Int64} (x1 : Int32)
    (h : (((z_bw x1 (0 : Int32) ((I 33 0 50) - (1 : Int32))) = false → r = (some (z_i (-3)), (true, X, I, J))) ∧ ((z_bw x1 (0 : Int32) ((I 33 0 50) - (1 : Int32))) = true → (∃ k2 : Nat, x1 = Int32.ofNat k2 ∧ k2 < 30 ∧ r = (some (z_i (I 61 0 k2)), (true, X, I, J)))))) :
    z_ev (d + 1) (z_en 269 [z_r 33 0, z_i (x1)] (true, X, I, J)) r := by
  show z_ev (d + 1) (269, 0, [some (z_r 33 0), some (z_i (x1))], [], (true, X, I, J)) r
  refine z_ev_gs 6 (c1 := (269, 8, [some (z_r 33 0), some (z_i (x1))], [z_i ((I 33 0 50) - (1 : Int32)), z_i 0, z_i (x1)], (true, X, I, J))) rfl ?_
  refine z_ev_ca rfl rfl (z_p158 _ _ _) ?_
  refine z_ev_gs 1 (c1 := (269, (if z_c (z_bw x1 (0 : Int32) ((I 33 0 50) - (1 : Int32))) = 0 then 23 else 14), [some (z_r 33 0), some (z_i (x1))], [], (true, X, I, J))) rfl ?_
  refine z_ev_ifc (fun e1 => ?_) (fun e1 => ?_)
  · have h6 := h.1 e1
    refine z_ev_gs 1 (c1 := (269, 25, [some (z_r 33 0), some (z_i (x1))], [z_i (-3)], (true, X, I, J))) rfl ?_
    rw [h6]
    exact z_ev_rt rfl
  · have h7 := h.2 e1
    refine z_ev_gs 3 (c1 := (269, 19, [some (z_r 33 0), some (z_i (x1))], [z_i (x1), z_r 61 0], (true, X, I, J))) rfl ?_
    obtain ⟨k2, e3, e4, h5⟩ := h7
    refine z_ev_iald (t := 61) (i := 0) (k := k2) (n := 30) rfl rfl e3 e4 (by decide) ?_
    refine z_ev_gs 1 (c1 := (269, 25, [some (z_r 33 0), some (z_i (x1))], [z_i (I 61 0 k2)], (true, X, I, J))) rfl ?_
    rw [h5]
    exact z_ev_rt rfl
theorem z_q69_e {d : Nat} {r : Option z_V × z_M} {X : z_X} {I : Nat → Nat → Nat → Int32} {J : Nat → Nat → Nat → Int64} (x1 : Int32) (x2 : Int32)
    (h : (((z_bw x1 0 3) = false → r = (some (z_i (-1)), (true, X, I, J))) ∧ ((z_bw x1 0 3) = true → ((x2 < (1 : Int32) → r = (some (z_i (-1)), (true, X, I, J))) ∧ ((1 : Int32) ≤ x2 → ((x2 ≤ (10 : Int32) → (∃ k4 : Nat, x1 = Int32.ofNat k4 ∧ k4 < 4 ∧ (∃ (X8 : z_X) (I9 : Nat → Nat → Nat → Int32) (J10 : Nat → Nat → Nat → Int64), z_ev d (z_en 19 [z_r 13 k4, z_i (x2)] (true, X, I, J)) (none, (true, X8, I9, J10)) ∧ r = (some (z_i (x2)), (true, X8, I9, J10))))) ∧ ((10 : Int32) < x2 → r = (some (z_i (-1)), (true, X, I, J))))))))) :
    z_ev (d + 1) (z_en 69 [z_r 0 0, z_i (x1), z_i (x2)] (true, X, I, J)) r := by
  show z_ev (d + 1) (69, 0, [some (z_r 0 0), some (z_i (x1)), some (z_i (x2))], [], (true, X, I, J)) r
  refine z_ev_gs 1 (c1 := (69, 1, [some (z_r 0 0), some (z_i (x1)), some (z_i (x2))], [z_i (x1)], (true, X, I, J))) rfl ?_
  refine z_ev_ca rfl rfl (z_p118 _) ?_
  refine z_ev_gs 1 (c1 := (69, (if z_c (z_bw x1 0 3) = 0 then 18 else 7), [some (z_r 0 0), some (z_i (x1)), some (z_i (x2))], [], (true, X, I, J))) rfl ?_
  refine z_ev_ifc (fun e1 => ?_) (fun e1 => ?_)
  · have h17 := h.1 e1
    refine z_ev_gs 1 (c1 := (69, 19, [some (z_r 0 0), some (z_i (x1)), some (z_i (x2))], [z_i (-1)], (true, X, I, J))) rfl ?_
    rw [h17]
    exact z_ev_rt rfl
  · have h18 := h.2 e1
    refine z_ev_gs 3 (c1 := (69, (if x2 < (1 : Int32) then 18 else 12), [some (z_r 0 0), some (z_i (x1)), some (z_i (x2))], [], (true, X, I, J))) rfl ?_
    refine z_ev_iflt (fun e2 => ?_) (fun e2 => ?_)
    · have h15 := h18.1 e2
      refine z_ev_gs 1 (c1 := (69, 19, [some (z_r 0 0), some (z_i (x1)), some (z_i (x2))], [z_i (-1)], (true, X, I, J))) rfl ?_
      rw [h15]
      exact z_ev_rt rfl
    · have h16 := h18.2 e2
      refine z_ev_gs 3 (c1 := (69, (if x2 ≤ (10 : Int32) then 20 else 18), [some (z_r 0 0), some (z_i (x1)), some (z_i (x2))], [], (true, X, I, J))) rfl ?_
      refine z_ev_ifle (fun e3 => ?_) (fun e3 => ?_)
      · have h13 := h16.1 e3
        refine z_ev_gs 4 (c1 := (69, 28, [some (z_r 0 0), some (z_i (x1)), some (z_i (x2))], [z_i (x1), z_r 2 0], (true, X, I, J))) rfl ?_
        obtain ⟨k4, e5, e6, h7⟩ := h13
        refine z_ev_nt0 (k := k4) rfl e5 e6 ?_
        refine z_ev_gs 1 (c1 := (69, 30, [some (z_r 0 0), some (z_i (x1)), some (z_i (x2))], [z_i (x2), z_r 13 k4], (true, X, I, J))) rfl ?_
        obtain ⟨X8, I9, J10, g11, h12⟩ := h7
        refine z_ev_cg rfl (z_lt40 e6) rfl g11 ?_
        refine z_ev_gs 1 (c1 := (69, 34, [some (z_r 0 0), some (z_i (x1)), some (z_i (x2))], [z_i (x2)], (true, X8, I9, J10))) rfl ?_
        rw [h12]
        exact z_ev_rt rfl
      · have h14 := h16.2 e3
        refine z_ev_gs 1 (c1 := (69, 19, [some (z_r 0 0), some (z_i (x1)), some (z_i (x2))], [z_i (-1)], (true, X, I, J))) rfl ?_
        rw [h14]
        exact z_ev_rt rfl
theorem z_q184_e {d : Nat} {r : Option z_V × z_M} {X : z_X} {I : Nat → Nat → Nat → Int32} {J : Nat → Nat → Nat → Int64} (x1 : Int32) (x2 : Int32)
    (h : (((z_bw x1 0 3) = false → r = (some (z_i (-1)), (true, X, I, J))) ∧ ((z_bw x1 0 3) = true → (((z_bw x2 (1 : Int32) (10 : Int32)) = true → (∃ (X3 : z_X) (I4 : Nat → Nat → Nat → Int32) (J5 : Nat → Nat → Nat → Int64), z_ev (d + 1) (z_en 169 [z_r 33 0, z_i (x1), z_i (x2)] (true, X, I, J)) (none, (true, X3, I4, J5)) ∧ r = (some (z_i (x2)), (true, X3, I4, J5)))) ∧ ((z_bw x2 (1 : Int32) (10 : Int32)) = false → r = (some (z_i (-1)), (true, X, I, J))))))) :
    z_ev (d + 2) (z_en 184 [z_r 33 0, z_i (x1), z_i (x2)] (true, X, I, J)) r := by
  show z_ev (d + 2) (184, 0, [some (z_r 33 0), some (z_i (x1)), some (z_i (x2))], [], (true, X, I, J)) r
  refine z_ev_gs 1 (c1 := (184, 1, [some (z_r 33 0), some (z_i (x1)), some (z_i (x2))], [z_i (x1)], (true, X, I, J))) rfl ?_
  refine z_ev_ca rfl rfl (z_p162 _) ?_
  refine z_ev_gs 1 (c1 := (184, (if z_c (z_bw x1 0 3) = 0 then 17 else 7), [some (z_r 33 0), some (z_i (x1)), some (z_i (x2))], [], (true, X, I, J))) rfl ?_
  refine z_ev_ifc (fun e1 => ?_) (fun e1 => ?_)
  · have h10 := h.1 e1
    refine z_ev_gs 1 (c1 := (184, 18, [some (z_r 33 0), some (z_i (x1)), some (z_i (x2))], [z_i (-1)], (true, X, I, J))) rfl ?_
    rw [h10]
    exact z_ev_rt rfl
  · have h11 := h.2 e1
    refine z_ev_gs 3 (c1 := (184, 11, [some (z_r 33 0), some (z_i (x1)), some (z_i (x2))], [z_i 10, z_i 1, z_i (x2)], (true, X, I, J))) rfl ?_
    refine z_ev_ca rfl rfl (z_p158 _ _ _) ?_
    refine z_ev_gs 1 (c1 := (184, (if ¬ z_c (z_bw x2 (1 : Int32) (10 : Int32)) = 0 then 19 else 17), [some (z_r 33 0), some (z_i (x1)), some (z_i (x2))], [], (true, X, I, J))) rfl ?_
    refine z_ev_ifcn (fun e2 => ?_) (fun e2 => ?_)
    · have h8 := h11.1 e2
      refine z_ev_gs 3 (c1 := (184, 22, [some (z_r 33 0), some (z_i (x1)), some (z_i (x2))], [z_i (x2), z_i (x1), z_r 33 0], (true, X, I, J))) rfl ?_
      obtain ⟨X3, I4, J5, g6, h7⟩ := h8
      refine z_ev_ca rfl rfl g6 ?_
      refine z_ev_gs 1 (c1 := (184, 26, [some (z_r 33 0), some (z_i (x1)), some (z_i (x2))], [z_i (x2)], (true, X3, I4, J5))) rfl ?_
      rw [h7]
      exact z_ev_rt rfl
    · have h9 := h11.2 e2
      refine z_ev_gs 1 (c1 := (184, 18, [some (z_r 33 0), some (z_i (x1)), some (z_i (x2))], [z_i (-1)], (true, X, I, J))) rfl ?_
      rw [h9]
      exact z_ev_rt rfl
theorem z_q70_e {d : Nat} {r : Option z_V × z_M} {X : z_X} {I : Nat → Nat → Nat → Int32} {J : Nat → Nat → Nat → Int64} (x1 : Int32) (x2 : Int32) (x3 : Int32) (b4 : Bool)
    (h : (((z_bw x1 0 3 && z_lt0 x2 (I 13 x1.toNatClampNeg 1)) = false → r = (some (z_i (-1)), (true, X, I, J))) ∧ ((z_bw x1 0 3 && z_lt0 x2 (I 13 x1.toNatClampNeg 1)) = true → (((z_bw x1 0 3 && z_lt0 x3 (I 13 x1.toNatClampNeg 1)) = false → r = (some (z_i (-1)), (true, X, I, J))) ∧ ((z_bw x1 0 3 && z_lt0 x3 (I 13 x1.toNatClampNeg 1)) = true → ((¬ x2 = x3 → (∃ k4 : Nat, x1 = Int32.ofNat k4 ∧ k4 < 4 ∧ (∃ (b13 : Bool) (X8 : z_X) (I9 : Nat → Nat → Nat → Int32) (J10 : Nat → Nat → Nat → Int64), z_ev (d + 1) (z_en 22 [z_r 13 k4, z_i (x2), z_i (x3)] (true, X, I, J)) (some (z_i (z_c b13)), (true, X8, I9, J10)) ∧ ((¬ (z_c b13) = (z_c b4) → (∃ (X15 : z_X) (I16 : Nat → Nat → Nat → Int32) (J17 : Nat → Nat → Nat → Int64), z_ev (d + 1) (z_en 23 [z_r 13 k4, z_i (x2), z_i (x3), z_i (z_c b4)] (true, X8, I9, J10)) (none, (true, X15, I16, J17)) ∧ r = (some (z_i 1), (true, X15, I16, J17)))) ∧ ((z_c b13) = (z_c b4) → r = (some (z_i 0), (true, X8, I9, J10))))))) ∧ (x2 = x3 → r = (some (z_i (-1)), (true, X, I, J))))))))) :
    z_ev (d + 2) (z_en 70 [z_r 0 0, z_i (x1), z_i (x2), z_i (x3), z_i (z_c b4)] (true, X, I, J)) r := by
  show z_ev (d + 2) (70, 0, [some (z_r 0 0), some (z_i (x1)), some (z_i (x2)), some (z_i (x3)), some (z_i (z_c b4))], [], (true, X, I, J)) r
  refine z_ev_gs 3 (c1 := (70, 3, [some (z_r 0 0), some (z_i (x1)), some (z_i (x2)), some (z_i (x3)), some (z_i (z_c b4))], [z_i (x2), z_i (x1), z_r 0 0], (true, X, I, J))) rfl ?_
  refine z_ev_ca rfl rfl (z_p119 _ _) ?_
  refine z_ev_gs 1 (c1 := (70, (if z_c (z_bw x1 0 3 && z_lt0 x2 (I 13 x1.toNatClampNeg 1)) = 0 then 23 else 9), [some (z_r 0 0), some (z_i (x1)), some (z_i (x2)), some (z_i (x3)), some (z_i (z_c b4))], [], (true, X, I, J))) rfl ?_
  refine z_ev_ifc (fun e1 => ?_) (fun e1 => ?_)
  · have h26 := h.1 e1
    refine z_ev_gs 1 (c1 := (70, 24, [some (z_r 0 0), some (z_i (x1)), some (z_i (x2)), some (z_i (x3)), some (z_i (z_c b4))], [z_i (-1)], (true, X, I, J))) rfl ?_
    rw [h26]
    exact z_ev_rt rfl
  · have h27 := h.2 e1
    refine z_ev_gs 3 (c1 := (70, 12, [some (z_r 0 0), some (z_i (x1)), some (z_i (x2)), some (z_i (x3)), some (z_i (z_c b4))], [z_i (x3), z_i (x1), z_r 0 0], (true, X, I, J))) rfl ?_
    refine z_ev_ca rfl rfl (z_p119 _ _) ?_
    refine z_ev_gs 1 (c1 := (70, (if z_c (z_bw x1 0 3 && z_lt0 x3 (I 13 x1.toNatClampNeg 1)) = 0 then 23 else 18), [some (z_r 0 0), some (z_i (x1)), some (z_i (x2)), some (z_i (x3)), some (z_i (z_c b4))], [], (true, X, I, J))) rfl ?_
    refine z_ev_ifc (fun e2 => ?_) (fun e2 => ?_)
    · have h24 := h27.1 e2
      refine z_ev_gs 1 (c1 := (70, 24, [some (z_r 0 0), some (z_i (x1)), some (z_i (x2)), some (z_i (x3)), some (z_i (z_c b4))], [z_i (-1)], (true, X, I, J))) rfl ?_
      rw [h24]
      exact z_ev_rt rfl
    · have h25 := h27.2 e2
      refine z_ev_gs 3 (c1 := (70, (if ¬ x2 = x3 then 25 else 23), [some (z_r 0 0), some (z_i (x1)), some (z_i (x2)), some (z_i (x3)), some (z_i (z_c b4))], [], (true, X, I, J))) rfl ?_
      refine z_ev_ifn (fun e3 => ?_) (fun e3 => ?_)
      · have h22 := h25.1 e3
        refine z_ev_gs 4 (c1 := (70, 33, [some (z_r 0 0), some (z_i (x1)), some (z_i (x2)), some (z_i (x3)), some (z_i (z_c b4))], [z_i (x1), z_r 2 0], (true, X, I, J))) rfl ?_
        obtain ⟨k4, e5, e6, h7⟩ := h22
        refine z_ev_nt0 (k := k4) rfl e5 e6 ?_
        refine z_ev_gs 2 (c1 := (70, 36, [some (z_r 0 0), some (z_i (x1)), some (z_i (x2)), some (z_i (x3)), some (z_i (z_c b4))], [z_i (x3), z_i (x2), z_r 13 k4], (true, X, I, J))) rfl ?_
        obtain ⟨b13, X8, I9, J10, g11, h12⟩ := h7
        refine z_ev_cg rfl (z_lt40 e6) rfl g11 ?_
        refine z_ev_gs 2 (c1 := (70, (if ¬ (z_c b13) = (z_c b4) then 46 else 44), [some (z_r 0 0), some (z_i (x1)), some (z_i (x2)), some (z_i (x3)), some (z_i (z_c b4))], [], (true, X8, I9, J10))) rfl ?_
        refine z_ev_ifn (fun e14 => ?_) (fun e14 => ?_)
        · have h20 := h12.1 e14
          refine z_ev_gs 4 (c1 := (70, 54, [some (z_r 0 0), some (z_i (x1)), some (z_i (x2)), some (z_i (x3)), some (z_i (z_c b4))], [z_i (x1), z_r 2 0], (true, X8, I9, J10))) rfl ?_
          refine z_ev_nt0 (k := k4) rfl e5 (Nat.lt_of_lt_of_le e6 (by decide)) ?_
          refine z_ev_gs 3 (c1 := (70, 59, [some (z_r 0 0), some (z_i (x1)), some (z_i (x2)), some (z_i (x3)), some (z_i (z_c b4))], [z_i (z_c b4), z_i (x3), z_i (x2), z_r 13 k4], (true, X8, I9, J10))) rfl ?_
          obtain ⟨X15, I16, J17, g18, h19⟩ := h20
          refine z_ev_cg rfl (z_lt40 (Nat.lt_of_lt_of_le e6 (by decide))) rfl g18 ?_
          refine z_ev_gs 1 (c1 := (70, 63, [some (z_r 0 0), some (z_i (x1)), some (z_i (x2)), some (z_i (x3)), some (z_i (z_c b4))], [z_i 1], (true, X15, I16, J17))) rfl ?_
          rw [h19]
          exact z_ev_rt rfl
        · have h21 := h12.2 e14
          refine z_ev_gs 1 (c1 := (70, 45, [some (z_r 0 0), some (z_i (x1)), some (z_i (x2)), some (z_i (x3)), some (z_i (z_c b4))], [z_i 0], (true, X8, I9, J10))) rfl ?_
          rw [h21]
          exact z_ev_rt rfl
      · have h23 := h25.2 e3
        refine z_ev_gs 1 (c1 := (70, 24, [some (z_r 0 0), some (z_i (x1)), some (z_i (x2)), some (z_i (x3)), some (z_i (z_c b4))], [z_i (-1)], (true, X, I, J))) rfl ?_
        rw [h23]
        exact z_ev_rt rfl
theorem z_q185_e {d : Nat} {r : Option z_V × z_M} {X : z_X} {I : Nat → Nat → Nat → Int32} {J : Nat → Nat → Nat → Int64} (x1 : Int32) (x2 : Int32) (x3 : Int32) (b4 : Bool)
    (h : (((z_bw x1 0 3) = false → r = (some (z_i (-1)), (true, X, I, J))) ∧ ((z_bw x1 0 3) = true → (∃ (b7 : Bool) (X2 : z_X) (I3 : Nat → Nat → Nat → Int32) (J4 : Nat → Nat → Nat → Int64), z_ev (d + 1) (z_en 164 [z_r 33 0, z_i (x1), z_i (x2)] (true, X, I, J)) (some (z_i (z_c b7)), (true, X2, I3, J4)) ∧ ((b7 = false → r = (some (z_i (-1)), (true, X2, I3, J4))) ∧ (b7 = true → (∃ (b14 : Bool) (X9 : z_X) (I10 : Nat → Nat → Nat → Int32) (J11 : Nat → Nat → Nat → Int64), z_ev (d + 1) (z_en 164 [z_r 33 0, z_i (x1), z_i (x3)] (true, X2, I3, J4)) (some (z_i (z_c b14)), (true, X9, I10, J11)) ∧ ((b14 = false → r = (some (z_i (-1)), (true, X9, I10, J11))) ∧ (b14 = true → ((¬ x2 = x3 → (∃ (b22 : Bool) (X17 : z_X) (I18 : Nat → Nat → Nat → Int32) (J19 : Nat → Nat → Nat → Int64), z_ev (d + 1) (z_en 167 [z_r 33 0, z_i (x1), z_i (x2), z_i (x3)] (true, X9, I10, J11)) (some (z_i (z_c b22)), (true, X17, I18, J19)) ∧ ((¬ (z_c b22) = (z_c b4) → (∃ (X24 : z_X) (I25 : Nat → Nat → Nat → Int32) (J26 : Nat → Nat → Nat → Int64), z_ev (d + 1) (z_en 168 [z_r 33 0, z_i (x1), z_i (x2), z_i (x3), z_i (z_c b4)] (true, X17, I18, J19)) (none, (true, X24, I25, J26)) ∧ r = (some (z_i 1), (true, X24, I25, J26)))) ∧ ((z_c b22) = (z_c b4) → (∃ (X29 : z_X) (I30 : Nat → Nat → Nat → Int32) (J31 : Nat → Nat → Nat → Int64), z_ev (d + 1) (z_en 168 [z_r 33 0, z_i (x1), z_i (x2), z_i (x3), z_i (z_c b4)] (true, X17, I18, J19)) (none, (true, X29, I30, J31)) ∧ r = (some (z_i 0), (true, X29, I30, J31))))))) ∧ (x2 = x3 → r = (some (z_i (-1)), (true, X9, I10, J11))))))))))))) :
    z_ev (d + 2) (z_en 185 [z_r 33 0, z_i (x1), z_i (x2), z_i (x3), z_i (z_c b4)] (true, X, I, J)) r := by
  show z_ev (d + 2) (185, 0, [some (z_r 33 0), some (z_i (x1)), some (z_i (x2)), some (z_i (x3)), some (z_i (z_c b4)), none], [], (true, X, I, J)) r
  refine z_ev_gs 1 (c1 := (185, 1, [some (z_r 33 0), some (z_i (x1)), some (z_i (x2)), some (z_i (x3)), some (z_i (z_c b4)), none], [z_i (x1)], (true, X, I, J))) rfl ?_
  refine z_ev_ca rfl rfl (z_p162 _) ?_
  refine z_ev_gs 1 (c1 := (185, (if z_c (z_bw x1 0 3) = 0 then 30 else 7), [some (z_r 33 0), some (z_i (x1)), some (z_i (x2)), some (z_i (x3)), some (z_i (z_c b4)), none], [], (true, X, I, J))) rfl ?_
  refine z_ev_ifc (fun e1 => ?_) (fun e1 => ?_)
  · have h42 := h.1 e1
    refine z_ev_gs 1 (c1 := (185, 31, [some (z_r 33 0), some (z_i (x1)), some (z_i (x2)), some (z_i (x3)), some (z_i (z_c b4)), none], [z_i (-1)], (true, X, I, J))) rfl ?_
    rw [h42]
    exact z_ev_rt rfl
  · have h43 := h.2 e1
    refine z_ev_gs 3 (c1 := (185, 10, [some (z_r 33 0), some (z_i (x1)), some (z_i (x2)), some (z_i (x3)), some (z_i (z_c b4)), none], [z_i (x2), z_i (x1), z_r 33 0], (true, X, I, J))) rfl ?_
    obtain ⟨b7, X2, I3, J4, g5, h6⟩ := h43
    refine z_ev_ca rfl rfl g5 ?_
    refine z_ev_gs 1 (c1 := (185, (if z_c b7 = 0 then 30 else 16), [some (z_r 33 0), some (z_i (x1)), some (z_i (x2)), some (z_i (x3)), some (z_i (z_c b4)), none], [], (true, X2, I3, J4))) rfl ?_
    refine z_ev_ifc (fun e8 => ?_) (fun e8 => ?_)
    · have h40 := h6.1 e8
      refine z_ev_gs 1 (c1 := (185, 31, [some (z_r 33 0), some (z_i (x1)), some (z_i (x2)), some (z_i (x3)), some (z_i (z_c b4)), none], [z_i (-1)], (true, X2, I3, J4))) rfl ?_
      rw [h40]
      exact z_ev_rt rfl
    · have h41 := h6.2 e8
      refine z_ev_gs 3 (c1 := (185, 19, [some (z_r 33 0), some (z_i (x1)), some (z_i (x2)), some (z_i (x3)), some (z_i (z_c b4)), none], [z_i (x3), z_i (x1), z_r 33 0], (true, X2, I3, J4))) rfl ?_
      obtain ⟨b14, X9, I10, J11, g12, h13⟩ := h41
      refine z_ev_ca rfl rfl g12 ?_
      refine z_ev_gs 1 (c1 := (185, (if z_c b14 = 0 then 30 else 25), [some (z_r 33 0), some (z_i (x1)), some (z_i (x2)), some (z_i (x3)), some (z_i (z_c b4)), none], [], (true, X9, I10, J11))) rfl ?_
      refine z_ev_ifc (fun e15 => ?_) (fun e15 => ?_)
      · have h38 := h13.1 e15
        refine z_ev_gs 1 (c1 := (185, 31, [some (z_r 33 0), some (z_i (x1)), some (z_i (x2)), some (z_i (x3)), some (z_i (z_c b4)), none], [z_i (-1)], (true, X9, I10, J11))) rfl ?_
        rw [h38]
        exact z_ev_rt rfl
      · have h39 := h13.2 e15
        refine z_ev_gs 3 (c1 := (185, (if ¬ x2 = x3 then 32 else 30), [some (z_r 33 0), some (z_i (x1)), some (z_i (x2)), some (z_i (x3)), some (z_i (z_c b4)), none], [], (true, X9, I10, J11))) rfl ?_
        refine z_ev_ifn (fun e16 => ?_) (fun e16 => ?_)
        · have h36 := h39.1 e16
          refine z_ev_gs 4 (c1 := (185, 36, [some (z_r 33 0), some (z_i (x1)), some (z_i (x2)), some (z_i (x3)), some (z_i (z_c b4)), none], [z_i (x3), z_i (x2), z_i (x1), z_r 33 0], (true, X9, I10, J11))) rfl ?_
          obtain ⟨b22, X17, I18, J19, g20, h21⟩ := h36
          refine z_ev_ca rfl rfl g20 ?_
          refine z_ev_gs 2 (c1 := (185, (if ¬ (z_c b22) = (z_c b4) then 48 else 44), [some (z_r 33 0), some (z_i (x1)), some (z_i (x2)), some (z_i (x3)), some (z_i (z_c b4)), none], [], (true, X17, I18, J19))) rfl ?_
          refine z_ev_ifn (fun e23 => ?_) (fun e23 => ?_)
          · have h34 := h21.1 e23
            refine z_ev_gs 7 (c1 := (185, 57, [some (z_r 33 0), some (z_i (x1)), some (z_i (x2)), some (z_i (x3)), some (z_i (z_c b4)), some (z_i 1)], [z_i (z_c b4), z_i (x3), z_i (x2), z_i (x1), z_r 33 0], (true, X17, I18, J19))) rfl ?_
            obtain ⟨X24, I25, J26, g27, h28⟩ := h34
            refine z_ev_ca rfl rfl g27 ?_
            refine z_ev_gs 1 (c1 := (185, 62, [some (z_r 33 0), some (z_i (x1)), some (z_i (x2)), some (z_i (x3)), some (z_i (z_c b4)), some (z_i 1)], [z_i 1], (true, X24, I25, J26))) rfl ?_
            rw [h28]
            exact z_ev_rt rfl
          · have h35 := h21.2 e23
            refine z_ev_gs 8 (c1 := (185, 57, [some (z_r 33 0), some (z_i (x1)), some (z_i (x2)), some (z_i (x3)), some (z_i (z_c b4)), some (z_i 0)], [z_i (z_c b4), z_i (x3), z_i (x2), z_i (x1), z_r 33 0], (true, X17, I18, J19))) rfl ?_
            obtain ⟨X29, I30, J31, g32, h33⟩ := h35
            refine z_ev_ca rfl rfl g32 ?_
            refine z_ev_gs 1 (c1 := (185, 62, [some (z_r 33 0), some (z_i (x1)), some (z_i (x2)), some (z_i (x3)), some (z_i (z_c b4)), some (z_i 0)], [z_i 0], (true, X29, I30, J31))) rfl ?_
            rw [h33]
            exact z_ev_rt rfl
        · have h37 := h39.2 e16
          refine z_ev_gs 1 (c1 := (185, 31, [some (z_r 33 0), some (z_i (x1)), some (z_i (x2)), some (z_i (x3)), some (z_i (z_c b4)), none], [z_i (-1)], (true, X9, I10, J11))) rfl ?_
          rw [h37]
          exact z_ev_rt rfl
theorem z_q71_e {d : Nat} {r : Option z_V × z_M} {X : z_X} {I : Nat → Nat → Nat → Int32} {J : Nat → Nat → Nat → Int64} (x1 : Int32) (x2 : Int32)
    (h : (((z_bw x1 0 3) = true → (∃ k2 : Nat, x1 = Int32.ofNat k2 ∧ k2 < 4 ∧ ((¬ x2 = 0 → ((¬ x2 = (1 : Int32) → ((x2 < (10 : Int32) → r = (some (z_i (-1)), (true, X, I, J))) ∧ ((10 : Int32) ≤ x2 → (((z_bw x1 0 3 && z_lt0 (x2 - (10 : Int32)) (I 13 x1.toNatClampNeg 1)) = false → r = (some (z_i (-1)), (true, X, I, J))) ∧ ((z_bw x1 0 3 && z_lt0 (x2 - (10 : Int32)) (I 13 x1.toNatClampNeg 1)) = true → (∃ k10 : Nat, (x2 - (10 : Int32)) = Int32.ofNat k10 ∧ k10 < 10 ∧ r = (some (z_i (I 14 k2 k10)), (true, X, I, J)))))))) ∧ (x2 = (1 : Int32) → (∃ (v23 : Int32) (X18 : z_X) (I19 : Nat → Nat → Nat → Int32) (J20 : Nat → Nat → Nat → Int64), z_ev (d + 1) (z_en 26 [z_r 13 k2] (true, X, I, J)) (some (z_i (v23)), (true, X18, I19, J20)) ∧ r = (some (z_i (v23)), (true, X18, I19, J20)))))) ∧ (x2 = 0 → r = (some (z_i (I 13 k2 1)), (true, X, I, J)))))) ∧ ((z_bw x1 0 3) = false → r = (some (z_i (-1)), (true, X, I, J))))) :
    z_ev (d + 2) (z_en 71 [z_r 0 0, z_i (x1), z_i (x2)] (true, X, I, J)) r := by
  show z_ev (d + 2) (71, 0, [some (z_r 0 0), some (z_i (x1)), some (z_i (x2)), none], [], (true, X, I, J)) r
  refine z_ev_gs 1 (c1 := (71, 1, [some (z_r 0 0), some (z_i (x1)), some (z_i (x2)), none], [z_i (x1)], (true, X, I, J))) rfl ?_
  refine z_ev_ca rfl rfl (z_p118 _) ?_
  refine z_ev_gs 1 (c1 := (71, (if ¬ z_c (z_bw x1 0 3) = 0 then 9 else 7), [some (z_r 0 0), some (z_i (x1)), some (z_i (x2)), none], [], (true, X, I, J))) rfl ?_
  refine z_ev_ifcn (fun e1 => ?_) (fun e1 => ?_)
  · have h28 := h.1 e1
    refine z_ev_gs 4 (c1 := (71, 17, [some (z_r 0 0), some (z_i (x1)), some (z_i (x2)), none], [z_i (x1), z_r 2 0], (true, X, I, J))) rfl ?_
    obtain ⟨k2, e3, e4, h5⟩ := h28
    refine z_ev_nt0 (k := k2) rfl e3 e4 ?_
    refine z_ev_gs 3 (c1 := (71, (if ¬ x2 = 0 then 28 else 23), [some (z_r 0 0), some (z_i (x1)), some (z_i (x2)), some (z_r 13 k2)], [], (true, X, I, J))) rfl ?_
    refine z_ev_ifn (fun e6 => ?_) (fun e6 => ?_)
    · have h26 := h5.1 e6
      refine z_ev_gs 3 (c1 := (71, (if ¬ x2 = (1 : Int32) then 38 else 33), [some (z_r 0 0), some (z_i (x1)), some (z_i (x2)), some (z_r 13 k2)], [], (true, X, I, J))) rfl ?_
      refine z_ev_ifn (fun e7 => ?_) (fun e7 => ?_)
      · have h24 := h26.1 e7
        refine z_ev_gs 3 (c1 := (71, (if x2 < (10 : Int32) then 68 else 44), [some (z_r 0 0), some (z_i (x1)), some (z_i (x2)), some (z_r 13 k2)], [], (true, X, I, J))) rfl ?_
        refine z_ev_iflt (fun e8 => ?_) (fun e8 => ?_)
        · have h16 := h24.1 e8
          refine z_ev_gs 1 (c1 := (71, 69, [some (z_r 0 0), some (z_i (x1)), some (z_i (x2)), some (z_r 13 k2)], [z_i (-1)], (true, X, I, J))) rfl ?_
          rw [h16]
          exact z_ev_rt rfl
        · have h17 := h24.2 e8
          refine z_ev_gs 5 (c1 := (71, 50, [some (z_r 0 0), some (z_i (x1)), some (z_i (x2)), some (z_r 13 k2)], [z_i (x2 - (10 : Int32)), z_i (x1), z_r 0 0], (true, X, I, J))) rfl ?_
          refine z_ev_ca rfl rfl (z_p119 _ _) ?_
          refine z_ev_gs 1 (c1 := (71, (if z_c (z_bw x1 0 3 && z_lt0 (x2 - (10 : Int32)) (I 13 x1.toNatClampNeg 1)) = 0 then 68 else 56), [some (z_r 0 0), some (z_i (x1)), some (z_i (x2)), some (z_r 13 k2)], [], (true, X, I, J))) rfl ?_
          refine z_ev_ifc (fun e9 => ?_) (fun e9 => ?_)
          · have h14 := h17.1 e9
            refine z_ev_gs 1 (c1 := (71, 69, [some (z_r 0 0), some (z_i (x1)), some (z_i (x2)), some (z_r 13 k2)], [z_i (-1)], (true, X, I, J))) rfl ?_
            rw [h14]
            exact z_ev_rt rfl
          · have h15 := h17.2 e9
            refine z_ev_gs 1 (c1 := (71, 57, [some (z_r 0 0), some (z_i (x1)), some (z_i (x2)), some (z_r 13 k2)], [z_r 13 k2], (true, X, I, J))) rfl ?_
            refine z_ev_gi (c1 := (71, 60, [some (z_r 0 0), some (z_i (x1)), some (z_i (x2)), some (z_r 13 k2)], [z_r 14 k2], (true, X, I, J))) rfl (z_lt40 e4) ?_
            refine z_ev_gs 3 (c1 := (71, 64, [some (z_r 0 0), some (z_i (x1)), some (z_i (x2)), some (z_r 13 k2)], [z_i (x2 - (10 : Int32)), z_r 14 k2], (true, X, I, J))) rfl ?_
            obtain ⟨k10, e11, e12, h13⟩ := h15
            refine z_ev_iald (t := 14) (i := k2) (k := k10) (n := 10) rfl (z_gt (z_lt40 e4)) e11 e12 (by decide) ?_
            refine z_ev_gs 1 (c1 := (71, 69, [some (z_r 0 0), some (z_i (x1)), some (z_i (x2)), some (z_r 13 k2)], [z_i (I 14 k2 k10)], (true, X, I, J))) rfl ?_
            rw [h13]
            exact z_ev_rt rfl
      · have h25 := h26.2 e7
        refine z_ev_gs 1 (c1 := (71, 34, [some (z_r 0 0), some (z_i (x1)), some (z_i (x2)), some (z_r 13 k2)], [z_r 13 k2], (true, X, I, J))) rfl ?_
        obtain ⟨v23, X18, I19, J20, g21, h22⟩ := h25
        refine z_ev_cg rfl (z_lt40 e4) rfl g21 ?_
        rw [h22]
        exact z_ev_rt rfl
    · have h27 := h5.2 e6
      refine z_ev_gs 1 (c1 := (71, 24, [some (z_r 0 0), some (z_i (x1)), some (z_i (x2)), some (z_r 13 k2)], [z_r 13 k2], (true, X, I, J))) rfl ?_
      refine z_ev_gi (c1 := (71, 27, [some (z_r 0 0), some (z_i (x1)), some (z_i (x2)), some (z_r 13 k2)], [z_i (I 13 k2 1)], (true, X, I, J))) rfl (z_lt40 e4) ?_
      rw [h27]
      exact z_ev_rt rfl
  · have h29 := h.2 e1
    refine z_ev_gs 1 (c1 := (71, 8, [some (z_r 0 0), some (z_i (x1)), some (z_i (x2)), none], [z_i (-1)], (true, X, I, J))) rfl ?_
    rw [h29]
    exact z_ev_rt rfl
theorem z_q186_e {d : Nat} {r : Option z_V × z_M} {X : z_X} {I : Nat → Nat → Nat → Int32} {J : Nat → Nat → Nat → Int64} (x1 : Int32) (x2 : Int32)
    (h : (((z_bw x1 0 3) = false → r = (some (z_i (-1)), (true, X, I, J))) ∧ ((z_bw x1 0 3) = true → (((z_bw x2 0 1) = true → ((¬ x2 = 0 → ((¬ x2 = (1 : Int32) → (∃ k5 : Nat, ((((10 : Int32) * x1) + x2) - (10 : Int32)) = Int32.ofNat k5 ∧ k5 < 40 ∧ r = (some (z_i (I 35 0 k5)), (true, X, I, J)))) ∧ (x2 = (1 : Int32) → (∃ (v14 : Int32) (X9 : z_X) (I10 : Nat → Nat → Nat → Int32) (J11 : Nat → Nat → Nat → Int64), z_ev (d + 1) (z_en 171 [z_r 33 0, z_i (x1)] (true, X, I, J)) (some (z_i (v14)), (true, X9, I10, J11)) ∧ r = (some (z_i (v14)), (true, X9, I10, J11)))))) ∧ (x2 = 0 → (∃ k17 : Nat, x1 = Int32.ofNat k17 ∧ k17 < 4 ∧ r = (some (z_i (I 34 0 k17)), (true, X, I, J)))))) ∧ ((z_bw x2 0 1) = false → (∃ (b28 : Bool) (X23 : z_X) (I24 : Nat → Nat → Nat → Int32) (J25 : Nat → Nat → Nat → Int64), z_ev (d + 1) (z_en 164 [z_r 33 0, z_i (x1), z_i (x2 - (10 : Int32))] (true, X, I, J)) (some (z_i (z_c b28)), (true, X23, I24, J25)) ∧ ((b28 = true → ((¬ x2 = 0 → ((¬ x2 = (1 : Int32) → (∃ k32 : Nat, ((((10 : Int32) * x1) + x2) - (10 : Int32)) = Int32.ofNat k32 ∧ k32 < 40 ∧ r = (some (z_i (I24 35 0 k32)), (true, X23, I24, J25)))) ∧ (x2 = (1 : Int32) → (∃ (v41 : Int32) (X36 : z_X) (I37 : Nat → Nat → Nat → Int32) (J38 : Nat → Nat → Nat → Int64), z_ev (d + 1) (z_en 171 [z_r 33 0, z_i (x1)] (true, X23, I24, J25)) (some (z_i (v41)), (true, X36, I37, J38)) ∧ r = (some (z_i (v41)), (true, X36, I37, J38)))))) ∧ (x2 = 0 → (∃ k44 : Nat, x1 = Int32.ofNat k44 ∧ k44 < 4 ∧ r = (some (z_i (I24 34 0 k44)), (true, X23, I24, J25)))))) ∧ (b28 = false → r = (some (z_i (-1)), (true, X23, I24, J25)))))))))) :
    z_ev (d + 2) (z_en 186 [z_r 33 0, z_i (x1), z_i (x2)] (true, X, I, J)) r := by
  show z_ev (d + 2) (186, 0, [some (z_r 33 0), some (z_i (x1)), some (z_i (x2))], [], (true, X, I, J)) r
  refine z_ev_gs 1 (c1 := (186, 1, [some (z_r 33 0), some (z_i (x1)), some (z_i (x2))], [z_i (x1)], (true, X, I, J))) rfl ?_
  refine z_ev_ca rfl rfl (z_p162 _) ?_
  refine z_ev_gs 1 (c1 := (186, (if z_c (z_bw x1 0 3) = 0 then 26 else 7), [some (z_r 33 0), some (z_i (x1)), some (z_i (x2))], [], (true, X, I, J))) rfl ?_
  refine z_ev_ifc (fun e1 => ?_) (fun e1 => ?_)
  · have h54 := h.1 e1
    refine z_ev_gs 1 (c1 := (186, 27, [some (z_r 33 0), some (z_i (x1)), some (z_i (x2))], [z_i (-1)], (true, X, I, J))) rfl ?_
    rw [h54]
    exact z_ev_rt rfl
  · have h55 := h.2 e1
    refine z_ev_gs 1 (c1 := (186, 8, [some (z_r 33 0), some (z_i (x1)), some (z_i (x2))], [z_i (x2)], (true, X, I, J))) rfl ?_
    refine z_ev_ca rfl rfl (z_p163 _) ?_
    refine z_ev_gs 1 (c1 := (186, (if ¬ z_c (z_bw x2 0 1) = 0 then 28 else 14), [some (z_r 33 0), some (z_i (x1)), some (z_i (x2))], [], (true, X, I, J))) rfl ?_
    refine z_ev_ifcn (fun e2 => ?_) (fun e2 => ?_)
    · have h52 := h55.1 e2
      refine z_ev_gs 2 (c1 := (186, (if ¬ x2 = 0 then 41 else 32), [some (z_r 33 0), some (z_i (x1)), some (z_i (x2))], [], (true, X, I, J))) rfl ?_
      refine z_ev_ifn (fun e3 => ?_) (fun e3 => ?_)
      · have h21 := h52.1 e3
        refine z_ev_gs 3 (c1 := (186, (if ¬ x2 = (1 : Int32) then 54 else 46), [some (z_r 33 0), some (z_i (x1)), some (z_i (x2))], [], (true, X, I, J))) rfl ?_
        refine z_ev_ifn (fun e4 => ?_) (fun e4 => ?_)
        · have h15 := h21.1 e4
          refine z_ev_gs 9 (c1 := (186, 67, [some (z_r 33 0), some (z_i (x1)), some (z_i (x2))], [z_i ((((10 : Int32) * x1) + x2) - (10 : Int32)), z_r 35 0], (true, X, I, J))) rfl ?_
          obtain ⟨k5, e6, e7, h8⟩ := h15
          refine z_ev_iald (t := 35) (i := 0) (k := k5) (n := 40) rfl rfl e6 e7 (by decide) ?_
          rw [h8]
          exact z_ev_rt rfl
        · have h16 := h21.2 e4
          refine z_ev_gs 2 (c1 := (186, 48, [some (z_r 33 0), some (z_i (x1)), some (z_i (x2))], [z_i (x1), z_r 33 0], (true, X, I, J))) rfl ?_
          obtain ⟨v14, X9, I10, J11, g12, h13⟩ := h16
          refine z_ev_ca rfl rfl g12 ?_
          refine z_ev_gs 1 (c1 := (186, 68, [some (z_r 33 0), some (z_i (x1)), some (z_i (x2))], [z_i (v14)], (true, X9, I10, J11))) rfl ?_
          rw [h13]
          exact z_ev_rt rfl
      · have h22 := h52.2 e3
        refine z_ev_gs 3 (c1 := (186, 37, [some (z_r 33 0), some (z_i (x1)), some (z_i (x2))], [z_i (x1), z_r 34 0], (true, X, I, J))) rfl ?_
        obtain ⟨k17, e18, e19, h20⟩ := h22
        refine z_ev_iald (t := 34) (i := 0) (k := k17) (n := 4) rfl rfl e18 e19 (by decide) ?_
        refine z_ev_gs 1 (c1 := (186, 68, [some (z_r 33 0), some (z_i (x1)), some (z_i (x2))], [z_i (I 34 0 k17)], (true, X, I, J))) rfl ?_
        rw [h20]
        exact z_ev_rt rfl
    · have h53 := h55.2 e2
      refine z_ev_gs 5 (c1 := (186, 20, [some (z_r 33 0), some (z_i (x1)), some (z_i (x2))], [z_i (x2 - (10 : Int32)), z_i (x1), z_r 33 0], (true, X, I, J))) rfl ?_
      obtain ⟨b28, X23, I24, J25, g26, h27⟩ := h53
      refine z_ev_ca rfl rfl g26 ?_
      refine z_ev_gs 1 (c1 := (186, (if ¬ z_c b28 = 0 then 28 else 26), [some (z_r 33 0), some (z_i (x1)), some (z_i (x2))], [], (true, X23, I24, J25))) rfl ?_
      refine z_ev_ifcn (fun e29 => ?_) (fun e29 => ?_)
      · have h50 := h27.1 e29
        refine z_ev_gs 2 (c1 := (186, (if ¬ x2 = 0 then 41 else 32), [some (z_r 33 0), some (z_i (x1)), some (z_i (x2))], [], (true, X23, I24, J25))) rfl ?_
        refine z_ev_ifn (fun e30 => ?_) (fun e30 => ?_)
        · have h48 := h50.1 e30
          refine z_ev_gs 3 (c1 := (186, (if ¬ x2 = (1 : Int32) then 54 else 46), [some (z_r 33 0), some (z_i (x1)), some (z_i (x2))], [], (true, X23, I24, J25))) rfl ?_
          refine z_ev_ifn (fun e31 => ?_) (fun e31 => ?_)
          · have h42 := h48.1 e31
            refine z_ev_gs 9 (c1 := (186, 67, [some (z_r 33 0), some (z_i (x1)), some (z_i (x2))], [z_i ((((10 : Int32) * x1) + x2) - (10 : Int32)), z_r 35 0], (true, X23, I24, J25))) rfl ?_
            obtain ⟨k32, e33, e34, h35⟩ := h42
            refine z_ev_iald (t := 35) (i := 0) (k := k32) (n := 40) rfl rfl e33 e34 (by decide) ?_
            rw [h35]
            exact z_ev_rt rfl
          · have h43 := h48.2 e31
            refine z_ev_gs 2 (c1 := (186, 48, [some (z_r 33 0), some (z_i (x1)), some (z_i (x2))], [z_i (x1), z_r 33 0], (true, X23, I24, J25))) rfl ?_
            obtain ⟨v41, X36, I37, J38, g39, h40⟩ := h43
            refine z_ev_ca rfl rfl g39 ?_
            refine z_ev_gs 1 (c1 := (186, 68, [some (z_r 33 0), some (z_i (x1)), some (z_i (x2))], [z_i (v41)], (true, X36, I37, J38))) rfl ?_
            rw [h40]
            exact z_ev_rt rfl
        · have h49 := h50.2 e30
          refine z_ev_gs 3 (c1 := (186, 37, [some (z_r 33 0), some (z_i (x1)), some (z_i (x2))], [z_i (x1), z_r 34 0], (true, X23, I24, J25))) rfl ?_
          obtain ⟨k44, e45, e46, h47⟩ := h49
          refine z_ev_iald (t := 34) (i := 0) (k := k44) (n := 4) rfl rfl e45 e46 (by decide) ?_
          refine z_ev_gs 1 (c1 := (186, 68, [some (z_r 33 0), some (z_i (x1)), some (z_i (x2))], [z_i (I24 34 0 k44)], (true, X23, I24, J25))) rfl ?_
          rw [h47]
          exact z_ev_rt rfl
      · have h51 := h27.2 e29
        refine z_ev_gs 1 (c1 := (186, 27, [some (z_r 33 0), some (z_i (x1)), some (z_i (x2))], [z_i (-1)], (true, X23, I24, J25))) rfl ?_
        rw [h51]
        exact z_ev_rt rfl
