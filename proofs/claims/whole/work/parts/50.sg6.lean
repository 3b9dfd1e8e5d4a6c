/-! segments: more easy calls; printed by wip/whole/emit_seg.py -/
theorem z_q73_e {d : Nat} {r : Option z_V × z_M} {X : z_X} {I : Nat → Nat → Nat → Int32} {J : Nat → Nat → Nat → Int64} (x1 : Int32)
    (h : (((z_bw x1 0 3) = true → (∃ k2 : Nat, x1 = Int32.ofNat k2 ∧ k2 < 4 ∧ (∃ (X6 : z_X) (I7 : Nat → Nat → Nat → Int32) (J8 : Nat → Nat → Nat → Int64), z_ev (d + 1) (z_en 25 [z_r 13 k2] (true, X, I, J)) (none, (true, X6, I7, J8)) ∧ (∃ (v16 : Int32) (X11 : z_X) (I12 : Nat → Nat → Nat → Int32) (J13 : Nat → Nat → Nat → Int64), z_ev (d + 1) (z_en 26 [z_r 13 k2] (true, X6, I7, J8)) (some (z_i (v16)), (true, X11, I12, J13)) ∧ r = (some (z_i (v16)), (true, X11, I12, J13)))))) ∧ ((z_bw x1 0 3) = false → r = (some (z_i (-1)), (true, X, I, J))))) :
    z_ev (d + 2) (z_en 73 [z_r 0 0, z_i (x1)] (true, X, I, J)) r := by
  show z_ev (d + 2) (73, 0, [some (z_r 0 0), some (z_i (x1))], [], (true, X, I, J)) r
  refine z_ev_gs 1 (c1 := (73, 1, [some (z_r 0 0), some (z_i (x1))], [z_i (x1)], (true, X, I, J))) rfl ?_
  refine z_ev_ca rfl rfl (z_p118 _) ?_
  refine z_ev_gs 1 (c1 := (73, (if ¬ z_c (z_bw x1 0 3) = 0 then 9 else 7), [some (z_r 0 0), some (z_i (x1))], [], (true, X, I, J))) rfl ?_
  refine z_ev_ifcn (fun e1 => ?_) (fun e1 => ?_)
  · have h17 := h.1 e1
    refine z_ev_gs 4 (c1 := (73, 17, [some (z_r 0 0), some (z_i (x1))], [z_i (x1), z_r 2 0], (true, X, I, J))) rfl ?_
    obtain ⟨k2, e3, e4, h5⟩ := h17
    refine z_ev_nt0 (k := k2) rfl e3 e4 ?_
    obtain ⟨X6, I7, J8, g9, h10⟩ := h5
    refine z_ev_cg rfl (z_lt40 e4) rfl g9 ?_
    refine z_ev_gs 4 (c1 := (73, 29, [some (z_r 0 0), some (z_i (x1))], [z_i (x1), z_r 2 0], (true, X6, I7, J8))) rfl ?_
    refine z_ev_nt0 (k := k2) rfl e3 (Nat.lt_of_lt_of_le e4 (by decide)) ?_
    obtain ⟨v16, X11, I12, J13, g14, h15⟩ := h10
    refine z_ev_cg rfl (z_lt40 (Nat.lt_of_lt_of_le e4 (by decide))) rfl g14 ?_
    rw [h15]
    exact z_ev_rt rfl
  · have h18 := h.2 e1
    refine z_ev_gs 1 (c1 := (73, 8, [some (z_r 0 0), some (z_i (x1))], [z_i (-1)], (true, X, I, J))) rfl ?_
    rw [h18]
    exact z_ev_rt rfl
theorem z_q188_e {d : Nat} {r : Option z_V × z_M} {X : z_X} {I : Nat → Nat → Nat → Int32} {J : Nat → Nat → Nat → Int64} (x1 : Int32)
    (h : (((z_bw x1 0 3) = true → z_ev (d + 2) (188, 11, [some (z_r 33 0), some (z_i (x1)), some (z_i 0)], [], (true, X, I, J)) r) ∧ ((z_bw x1 0 3) = false → r = (some (z_i (-1)), (true, X, I, J))))) :
    z_ev (d + 2) (z_en 188 [z_r 33 0, z_i (x1)] (true, X, I, J)) r := by
  show z_ev (d + 2) (188, 0, [some (z_r 33 0), some (z_i (x1)), none], [], (true, X, I, J)) r
  refine z_ev_gs 1 (c1 := (188, 1, [some (z_r 33 0), some (z_i (x1)), none], [z_i (x1)], (true, X, I, J))) rfl ?_
  refine z_ev_ca rfl rfl (z_p162 _) ?_
  refine z_ev_gs 1 (c1 := (188, (if ¬ z_c (z_bw x1 0 3) = 0 then 9 else 7), [some (z_r 33 0), some (z_i (x1)), none], [], (true, X, I, J))) rfl ?_
  refine z_ev_ifcn (fun e1 => ?_) (fun e1 => ?_)
  · have h2 := h.1 e1
    refine z_ev_gs 2 (c1 := (188, 11, [some (z_r 33 0), some (z_i (x1)), some (z_i 0)], [], (true, X, I, J))) rfl ?_
    exact h2
  · have h3 := h.2 e1
    refine z_ev_gs 1 (c1 := (188, 8, [some (z_r 33 0), some (z_i (x1)), none], [z_i (-1)], (true, X, I, J))) rfl ?_
    rw [h3]
    exact z_ev_rt rfl
theorem z_q188_11 {d : Nat} {r : Option z_V × z_M} {X : z_X} {I : Nat → Nat → Nat → Int32} {J : Nat → Nat → Nat → Int64} (x1 : Int32) (x2 : Int32)
    (h : (∃ k4 : Nat, x1 = Int32.ofNat k4 ∧ k4 < 4 ∧ (((I 34 0 k4) ≤ x2 → (∃ (v14 : Int32) (X9 : z_X) (I10 : Nat → Nat → Nat → Int32) (J11 : Nat → Nat → Nat → Int64), z_ev (d + 1) (z_en 171 [z_r 33 0, z_i (x1)] (true, X, I, J)) (some (z_i (v14)), (true, X9, I10, J11)) ∧ r = (some (z_i (v14)), (true, X9, I10, J11)))) ∧ (x2 < (I 34 0 k4) → (∃ k15 : Nat, (((10 : Int32) * x1) + x2) = Int32.ofNat k15 ∧ k15 < 40 ∧ z_ev (d + 2) (188, 11, [some (z_r 33 0), some (z_i (x1)), some (z_i (x2 + (1 : Int32)))], [], (true, X, (z_up I 35 0 k15 ((((I 35 0 k15) ^^^ (-1 : Int32)) &&& (((1 : Int32) <<< ((I 34 0 k4) &&& 31)) - (1 : Int32))) &&& (((1 : Int32) <<< (x2 &&& 31)) ^^^ (-1 : Int32)))), J)) r))))) :
    z_ev (d + 2) ((188, 11, [some (z_r 33 0), some (z_i (x1)), some (z_i (x2))], [], (true, X, I, J))) r := by
  refine z_ev_gs 4 (c1 := (188, 17, [some (z_r 33 0), some (z_i (x1)), some (z_i (x2))], [z_i (x1), z_r 34 0, z_i (x2)], (true, X, I, J))) rfl ?_
  obtain ⟨k4, e5, e6, h7⟩ := h
  refine z_ev_iald (t := 34) (i := 0) (k := k4) (n := 4) rfl rfl e5 e6 (by decide) ?_
  refine z_ev_gs 1 (c1 := (188, (if (I 34 0 k4) ≤ x2 then 68 else 21), [some (z_r 33 0), some (z_i (x1)), some (z_i (x2))], [], (true, X, I, J))) rfl ?_
  refine z_ev_ifle (fun e8 => ?_) (fun e8 => ?_)
  · have h19 := h7.1 e8
    refine z_ev_gs 2 (c1 := (188, 70, [some (z_r 33 0), some (z_i (x1)), some (z_i (x2))], [z_i (x1), z_r 33 0], (true, X, I, J))) rfl ?_
    obtain ⟨v14, X9, I10, J11, g12, h13⟩ := h19
    refine z_ev_ca rfl rfl g12 ?_
    rw [h13]
    exact z_ev_rt rfl
  · have h20 := h7.2 e8
    refine z_ev_gs 14 (c1 := (188, 41, [some (z_r 33 0), some (z_i (x1)), some (z_i (x2))], [z_i (((10 : Int32) * x1) + x2), z_r 35 0, z_i (((10 : Int32) * x1) + x2), z_r 35 0], (true, X, I, J))) rfl ?_
    obtain ⟨k15, e16, e17, h18⟩ := h20
    refine z_ev_iald (t := 35) (i := 0) (k := k15) (n := 40) rfl rfl e16 e17 (by decide) ?_
    refine z_ev_gs 6 (c1 := (188, 50, [some (z_r 33 0), some (z_i (x1)), some (z_i (x2))], [z_i (x1), z_r 34 0, z_i 1, z_i ((I 35 0 k15) ^^^ (-1 : Int32)), z_i (((10 : Int32) * x1) + x2), z_r 35 0], (true, X, I, J))) rfl ?_
    refine z_ev_iald (t := 34) (i := 0) (k := k4) (n := 4) rfl rfl e5 (Nat.lt_of_lt_of_le e6 (by decide)) (by decide) ?_
    refine z_ev_gs 10 (c1 := (188, 61, [some (z_r 33 0), some (z_i (x1)), some (z_i (x2))], [z_i ((((I 35 0 k15) ^^^ (-1 : Int32)) &&& (((1 : Int32) <<< ((I 34 0 k4) &&& 31)) - (1 : Int32))) &&& (((1 : Int32) <<< (x2 &&& 31)) ^^^ (-1 : Int32))), z_i (((10 : Int32) * x1) + x2), z_r 35 0], (true, X, I, J))) rfl ?_
    refine z_ev_iast (t := 35) (i := 0) (k := k15) (n := 40) rfl rfl e16 (Nat.lt_of_lt_of_le e17 (by decide)) (by decide) ?_
    refine z_ev_gs 2 (c1 := (188, 11, [some (z_r 33 0), some (z_i (x1)), some (z_i (x2 + (1 : Int32)))], [], (true, X, (z_up I 35 0 k15 ((((I 35 0 k15) ^^^ (-1 : Int32)) &&& (((1 : Int32) <<< ((I 34 0 k4) &&& 31)) - (1 : Int32))) &&& (((1 : Int32) <<< (x2 &&& 31)) ^^^ (-1 : Int32)))), J))) rfl ?_
    exact h18
theorem z_q64_e {d : Nat} {r : Option z_V × z_M} {X : z_X} {I : Nat → Nat → Nat → Int32} {J : Nat → Nat → Nat → Int64} 
    (h : z_ev (d + 1) (64, 4, [some (z_r 1 0), some (z_i 0), some (z_i 2)], [], (true, X, I, J)) r) :
    z_ev (d + 1) (z_en 64 [z_r 1 0] (true, X, I, J)) r := by
  show z_ev (d + 1) (64, 0, [some (z_r 1 0), none, none], [], (true, X, I, J)) r
  refine z_ev_gs 4 (c1 := (64, 4, [some (z_r 1 0), some (z_i 0), some (z_i 2)], [], (true, X, I, J))) rfl ?_
  exact h
theorem z_q64_4 {d : Nat} {r : Option z_V × z_M} {X : z_X} {I : Nat → Nat → Nat → Int32} {J : Nat → Nat → Nat → Int64} (x1 : Int32) (x2 : Int32)
    (h : (((4 : Int32) < x2 → r = (some (z_i (x1)), (true, X, I, J))) ∧ (x2 ≤ (4 : Int32) → (∃ k2 : Nat, x2 = Int32.ofNat k2 ∧ k2 < 5 ∧ z_ev (d + 1) (64, 4, [some (z_r 1 0), some (z_i (x1 + (z_bc (I 3 0 k2)))), some (z_i (x2 + (1 : Int32)))], [], (true, X, I, J)) r)))) :
    z_ev (d + 1) ((64, 4, [some (z_r 1 0), some (z_i (x1)), some (z_i (x2))], [], (true, X, I, J))) r := by
  refine z_ev_gs 3 (c1 := (64, (if (4 : Int32) < x2 then 27 else 9), [some (z_r 1 0), some (z_i (x1)), some (z_i (x2))], [], (true, X, I, J))) rfl ?_
  refine z_ev_iflt (fun e1 => ?_) (fun e1 => ?_)
  · have h6 := h.1 e1
    refine z_ev_gs 1 (c1 := (64, 28, [some (z_r 1 0), some (z_i (x1)), some (z_i (x2))], [z_i (x1)], (true, X, I, J))) rfl ?_
    rw [h6]
    exact z_ev_rt rfl
  · have h7 := h.2 e1
    refine z_ev_gs 4 (c1 := (64, 15, [some (z_r 1 0), some (z_i (x1)), some (z_i (x2))], [z_i (x2), z_r 3 0, z_i (x1)], (true, X, I, J))) rfl ?_
    obtain ⟨k2, e3, e4, h5⟩ := h7
    refine z_ev_iald (t := 3) (i := 0) (k := k2) (n := 5) rfl rfl e3 e4 (by decide) ?_
    refine z_ev_ca rfl rfl (z_p275 _) ?_
    refine z_ev_gs 4 (c1 := (64, 4, [some (z_r 1 0), some (z_i (x1 + (z_bc (I 3 0 k2)))), some (z_i (x2 + (1 : Int32)))], [], (true, X, I, J))) rfl ?_
    exact h5
theorem z_q115_e {d : Nat} {r : Option z_V × z_M} {X : z_X} {I : Nat → Nat → Nat → Int32} {J : Nat → Nat → Nat → Int64} (x1 : Int32)
    (h : ((x1 = 0 → r = (some (z_i (I 4 0 2)), (true, X, I, J))) ∧ (¬ x1 = 0 → ((x1 = 1 → r = (some (z_i (I 1 0 5)), (true, X, I, J))) ∧ (¬ x1 = 1 → ((x1 = 2 → (∃ (v6 : Int32) (X1 : z_X) (I2 : Nat → Nat → Nat → Int32) (J3 : Nat → Nat → Nat → Int64), z_ev (d + 1) (z_en 64 [z_r 1 0] (true, X, I, J)) (some (z_i (v6)), (true, X1, I2, J3)) ∧ r = (some (z_i (v6)), (true, X1, I2, J3)))) ∧ (¬ x1 = 2 → ((x1 = 3 → r = (some (z_i (I 0 0 7)), (true, X, I, J))) ∧ (¬ x1 = 3 → ((x1 = 4 → r = (some (z_i (I 15 0 1)), (true, X, I, J))) ∧ (¬ x1 = 4 → ((x1 = 5 → r = (some (z_i (I 17 0 1)), (true, X, I, J))) ∧ (¬ x1 = 5 → r = (some (z_i (-1)), (true, X, I, J))))))))))))))) :
    z_ev (d + 2) (z_en 115 [z_r 0 0, z_i (x1)] (true, X, I, J)) r := by
  show z_ev (d + 2) (115, 0, [some (z_r 0 0), some (z_i (x1))], [], (true, X, I, J)) r
  refine z_ev_gs 2 (c1 := (115, (if x1 = 0 then 40 else (if x1 = 1 then 51 else (if x1 = 2 then 59 else (if x1 = 3 then 67 else (if x1 = 4 then 72 else (if x1 = 5 then 80 else 88)))))), [some (z_r 0 0), some (z_i (x1))], [], (true, X, I, J))) rfl ?_
  refine z_ev_if (fun e7 => ?_) (fun e7 => ?_)
  · have h8 := h.1 e7
    refine z_ev_gs 4 (c1 := (115, 50, [some (z_r 0 0), some (z_i (x1))], [z_i (I 4 0 2)], (true, X, I, J))) rfl ?_
    rw [h8]
    exact z_ev_rt rfl
  · have h9 := h.2 e7
    refine z_ev_if (fun e10 => ?_) (fun e10 => ?_)
    · have h11 := h9.1 e10
      refine z_ev_gs 3 (c1 := (115, 58, [some (z_r 0 0), some (z_i (x1))], [z_i (I 1 0 5)], (true, X, I, J))) rfl ?_
      rw [h11]
      exact z_ev_rt rfl
    · have h12 := h9.2 e10
      refine z_ev_if (fun e13 => ?_) (fun e13 => ?_)
      · have h14 := h12.1 e13
        refine z_ev_gs 2 (c1 := (115, 63, [some (z_r 0 0), some (z_i (x1))], [z_r 1 0], (true, X, I, J))) rfl ?_
        obtain ⟨v6, X1, I2, J3, g4, h5⟩ := h14
        refine z_ev_ca rfl rfl g4 ?_
        rw [h5]
        exact z_ev_rt rfl
      · have h15 := h12.2 e13
        refine z_ev_if (fun e16 => ?_) (fun e16 => ?_)
        · have h17 := h15.1 e16
          refine z_ev_gs 2 (c1 := (115, 71, [some (z_r 0 0), some (z_i (x1))], [z_i (I 0 0 7)], (true, X, I, J))) rfl ?_
          rw [h17]
          exact z_ev_rt rfl
        · have h18 := h15.2 e16
          refine z_ev_if (fun e19 => ?_) (fun e19 => ?_)
          · have h20 := h18.1 e19
            refine z_ev_gs 3 (c1 := (115, 79, [some (z_r 0 0), some (z_i (x1))], [z_i (I 15 0 1)], (true, X, I, J))) rfl ?_
            rw [h20]
            exact z_ev_rt rfl
          · have h21 := h18.2 e19
            refine z_ev_if (fun e22 => ?_) (fun e22 => ?_)
            · have h23 := h21.1 e22
              refine z_ev_gs 3 (c1 := (115, 87, [some (z_r 0 0), some (z_i (x1))], [z_i (I 17 0 1)], (true, X, I, J))) rfl ?_
              rw [h23]
              exact z_ev_rt rfl
            · have h24 := h21.2 e22
              refine z_ev_gs 1 (c1 := (115, 89, [some (z_r 0 0), some (z_i (x1))], [z_i (-1)], (true, X, I, J))) rfl ?_
              rw [h24]
              exact z_ev_rt rfl
theorem z_q270_e {d : Nat} {r : Option z_V × z_M} {X : z_X} {I : Nat → Nat → Nat → Int32} {J : Nat → Nat → Nat → Int64} (x1 : Int32)
    (h : ((x1 = 0 → r = (some (z_i (I 33 0 4)), (true, X, I, J))) ∧ (¬ x1 = 0 → ((x1 = 1 → r = (some (z_i (I 33 0 8)), (true, X, I, J))) ∧ (¬ x1 = 1 → ((x1 = 2 → r = (some (z_i (I 33 0 2)), (true, X, I, J))) ∧ (¬ x1 = 2 → ((x1 = 3 → r = (some (z_i (I 33 0 37)), (true, X, I, J))) ∧ (¬ x1 = 3 → ((x1 = 4 → r = (some (z_i (I 33 0 14)), (true, X, I, J))) ∧ (¬ x1 = 4 → ((x1 = 5 → r = (some (z_i (I 33 0 50)), (true, X, I, J))) ∧ (¬ x1 = 5 → r = (some (z_i (-1)), (true, X, I, J))))))))))))))) :
    z_ev d (z_en 270 [z_r 33 0, z_i (x1)] (true, X, I, J)) r := by
  show z_ev d (270, 0, [some (z_r 33 0), some (z_i (x1))], [], (true, X, I, J)) r
  refine z_ev_gs 2 (c1 := (270, (if x1 = 0 then 40 else (if x1 = 1 then 45 else (if x1 = 2 then 50 else (if x1 = 3 then 55 else (if x1 = 4 then 60 else (if x1 = 5 then 65 else 70)))))), [some (z_r 33 0), some (z_i (x1))], [], (true, X, I, J))) rfl ?_
  refine z_ev_if (fun e1 => ?_) (fun e1 => ?_)
  · have h2 := h.1 e1
    refine z_ev_gs 2 (c1 := (270, 44, [some (z_r 33 0), some (z_i (x1))], [z_i (I 33 0 4)], (true, X, I, J))) rfl ?_
    rw [h2]
    exact z_ev_rt rfl
  · have h3 := h.2 e1
    refine z_ev_if (fun e4 => ?_) (fun e4 => ?_)
    · have h5 := h3.1 e4
      refine z_ev_gs 2 (c1 := (270, 49, [some (z_r 33 0), some (z_i (x1))], [z_i (I 33 0 8)], (true, X, I, J))) rfl ?_
      rw [h5]
      exact z_ev_rt rfl
    · have h6 := h3.2 e4
      refine z_ev_if (fun e7 => ?_) (fun e7 => ?_)
      · have h8 := h6.1 e7
        refine z_ev_gs 2 (c1 := (270, 54, [some (z_r 33 0), some (z_i (x1))], [z_i (I 33 0 2)], (true, X, I, J))) rfl ?_
        rw [h8]
        exact z_ev_rt rfl
      · have h9 := h6.2 e7
        refine z_ev_if (fun e10 => ?_) (fun e10 => ?_)
        · have h11 := h9.1 e10
          refine z_ev_gs 2 (c1 := (270, 59, [some (z_r 33 0), some (z_i (x1))], [z_i (I 33 0 37)], (true, X, I, J))) rfl ?_
          rw [h11]
          exact z_ev_rt rfl
        · have h12 := h9.2 e10
          refine z_ev_if (fun e13 => ?_) (fun e13 => ?_)
          · have h14 := h12.1 e13
            refine z_ev_gs 2 (c1 := (270, 64, [some (z_r 33 0), some (z_i (x1))], [z_i (I 33 0 14)], (true, X, I, J))) rfl ?_
            rw [h14]
            exact z_ev_rt rfl
          · have h15 := h12.2 e13
            refine z_ev_if (fun e16 => ?_) (fun e16 => ?_)
            · have h17 := h15.1 e16
              refine z_ev_gs 2 (c1 := (270, 69, [some (z_r 33 0), some (z_i (x1))], [z_i (I 33 0 50)], (true, X, I, J))) rfl ?_
              rw [h17]
              exact z_ev_rt rfl
            · have h18 := h15.2 e16
              refine z_ev_gs 1 (c1 := (270, 71, [some (z_r 33 0), some (z_i (x1))], [z_i (-1)], (true, X, I, J))) rfl ?_
              rw [h18]
              exact z_ev_rt rfl
theorem z_q6_e {d : Nat} {r : Option z_V × z_M} {X : z_X} {I : Nat → Nat → Nat → Int32} {J : Nat → Nat → Nat → Int64} (x1 : Int32)
    (h : (∃ k1 : Nat, (I 4 0 2) = Int32.ofNat k1 ∧ k1 < 5 ∧ z_ev (d + 1) (6, 21, [some (z_r 4 0), some (z_i (x1)), some (z_i (I 4 0 2)), some (z_i 0)], [], (true, X, (z_up (z_up I 5 0 k1 x1) 4 0 2 ((I 4 0 2) + (1 : Int32))), J)) r)) :
    z_ev (d + 1) (z_en 6 [z_r 4 0, z_i (x1)] (true, X, I, J)) r := by
  show z_ev (d + 1) (6, 0, [some (z_r 4 0), some (z_i (x1)), none, none], [], (true, X, I, J)) r
  refine z_ev_gs 7 (c1 := (6, 11, [some (z_r 4 0), some (z_i (x1)), some (z_i (I 4 0 2)), none], [z_i (x1), z_i (I 4 0 2), z_r 5 0], (true, X, I, J))) rfl ?_
  obtain ⟨k1, e2, e3, h4⟩ := h
  refine z_ev_iast (t := 5) (i := 0) (k := k1) (n := 5) rfl rfl e2 e3 (by decide) ?_
  refine z_ev_gs 7 (c1 := (6, 21, [some (z_r 4 0), some (z_i (x1)), some (z_i (I 4 0 2)), some (z_i 0)], [], (true, X, (z_up (z_up I 5 0 k1 x1) 4 0 2 ((I 4 0 2) + (1 : Int32))), J))) rfl ?_
  exact h4
theorem z_q6_21 {d : Nat} {r : Option z_V × z_M} {X : z_X} {I : Nat → Nat → Nat → Int32} {J : Nat → Nat → Nat → Int64} (x1 : Int32) (x2 : Int32) (x3 : Int32)
    (h : (((I 4 0 2) ≤ x3 → r = (some (z_i (x2)), (true, X, I, J))) ∧ (x3 < (I 4 0 2) → (∃ (X6 : z_X) (I7 : Nat → Nat → Nat → Int32) (J8 : Nat → Nat → Nat → Int64), z_ev d (z_en 8 [z_r 4 0, z_i (x3), z_i (x2), z_i 0] (true, X, I, J)) (none, (true, X6, I7, J8)) ∧ z_ev (d + 1) (6, 21, [some (z_r 4 0), some (z_i (x1)), some (z_i (x2)), some (z_i (x3 + (1 : Int32)))], [], (true, X6, I7, J8)) r)))) :
    z_ev (d + 1) ((6, 21, [some (z_r 4 0), some (z_i (x1)), some (z_i (x2)), some (z_i (x3))], [], (true, X, I, J))) r := by
  refine z_ev_gs 4 (c1 := (6, (if (I 4 0 2) ≤ x3 then 42 else 29), [some (z_r 4 0), some (z_i (x1)), some (z_i (x2)), some (z_i (x3))], [], (true, X, I, J))) rfl ?_
  refine z_ev_ifle (fun e5 => ?_) (fun e5 => ?_)
  · have h11 := h.1 e5
    refine z_ev_gs 1 (c1 := (6, 43, [some (z_r 4 0), some (z_i (x1)), some (z_i (x2)), some (z_i (x3))], [z_i (x2)], (true, X, I, J))) rfl ?_
    rw [h11]
    exact z_ev_rt rfl
  · have h12 := h.2 e5
    refine z_ev_gs 4 (c1 := (6, 33, [some (z_r 4 0), some (z_i (x1)), some (z_i (x2)), some (z_i (x3))], [z_i 0, z_i (x2), z_i (x3), z_r 4 0], (true, X, I, J))) rfl ?_
    obtain ⟨X6, I7, J8, g9, h10⟩ := h12
    refine z_ev_ca rfl rfl g9 ?_
    refine z_ev_gs 2 (c1 := (6, 21, [some (z_r 4 0), some (z_i (x1)), some (z_i (x2)), some (z_i (x3 + (1 : Int32)))], [], (true, X6, I7, J8))) rfl ?_
    exact h10
theorem z_q84_e {d : Nat} {r : Option z_V × z_M} {X : z_X} {I : Nat → Nat → Nat → Int32} {J : Nat → Nat → Nat → Int64} (x1 : Int32)
    (h : ((x1 < (1 : Int32) → r = (some (z_i (-1)), (true, X, I, J))) ∧ ((1 : Int32) ≤ x1 → ((x1 ≤ (9 : Int32) → (((I 4 0 2) < (5 : Int32) → (∃ (v9 : Int32) (X4 : z_X) (I5 : Nat → Nat → Nat → Int32) (J6 : Nat → Nat → Nat → Int64), z_ev (d + 1) (z_en 6 [z_r 4 0, z_i (x1)] (true, X, I, J)) (some (z_i (v9)), (true, X4, I5, J6)) ∧ r = (some (z_i (v9)), (true, X4, I5, J6)))) ∧ ((5 : Int32) ≤ (I 4 0 2) → r = (some (z_i (-2)), (true, X, I, J))))) ∧ ((9 : Int32) < x1 → r = (some (z_i (-1)), (true, X, I, J))))))) :
    z_ev (d + 2) (z_en 84 [z_r 0 0, z_i (x1)] (true, X, I, J)) r := by
  show z_ev (d + 2) (84, 0, [some (z_r 0 0), some (z_i (x1))], [], (true, X, I, J)) r
  refine z_ev_gs 3 (c1 := (84, (if x1 < (1 : Int32) then 11 else 5), [some (z_r 0 0), some (z_i (x1))], [], (true, X, I, J))) rfl ?_
  refine z_ev_iflt (fun e1 => ?_) (fun e1 => ?_)
  · have h14 := h.1 e1
    refine z_ev_gs 1 (c1 := (84, 12, [some (z_r 0 0), some (z_i (x1))], [z_i (-1)], (true, X, I, J))) rfl ?_
    rw [h14]
    exact z_ev_rt rfl
  · have h15 := h.2 e1
    refine z_ev_gs 3 (c1 := (84, (if x1 ≤ (9 : Int32) then 13 else 11), [some (z_r 0 0), some (z_i (x1))], [], (true, X, I, J))) rfl ?_
    refine z_ev_ifle (fun e2 => ?_) (fun e2 => ?_)
    · have h12 := h15.1 e2
      refine z_ev_gs 6 (c1 := (84, (if (I 4 0 2) < (5 : Int32) then 30 else 27), [some (z_r 0 0), some (z_i (x1))], [], (true, X, I, J))) rfl ?_
      refine z_ev_iflt (fun e3 => ?_) (fun e3 => ?_)
      · have h10 := h12.1 e3
        refine z_ev_gs 4 (c1 := (84, 38, [some (z_r 0 0), some (z_i (x1))], [z_i (x1), z_r 4 0], (true, X, I, J))) rfl ?_
        obtain ⟨v9, X4, I5, J6, g7, h8⟩ := h10
        refine z_ev_ca rfl rfl g7 ?_
        rw [h8]
        exact z_ev_rt rfl
      · have h11 := h12.2 e3
        refine z_ev_gs 1 (c1 := (84, 29, [some (z_r 0 0), some (z_i (x1))], [z_i (-2)], (true, X, I, J))) rfl ?_
        rw [h11]
        exact z_ev_rt rfl
    · have h13 := h15.2 e2
      refine z_ev_gs 1 (c1 := (84, 12, [some (z_r 0 0), some (z_i (x1))], [z_i (-1)], (true, X, I, J))) rfl ?_
      rw [h13]
      exact z_ev_rt rfl
theorem z_q211_e {d : Nat} {r : Option z_V × z_M} {X : z_X} {I : Nat → Nat → Nat → Int32} {J : Nat → Nat → Nat → Int64} (x1 : Int32)
    (h : (((z_bw x1 (1 : Int32) (9 : Int32)) = true → ((¬ (I 33 0 4) = (5 : Int32) → (∃ k3 : Nat, (I 33 0 4) = Int32.ofNat k3 ∧ k3 < 5 ∧ z_ev (d + 1) (211, 35, [some (z_r 33 0), some (z_i (x1)), some (z_i 0)], [], (true, X, (z_up I 37 0 k3 x1), J)) r)) ∧ ((I 33 0 4) = (5 : Int32) → r = (some (z_i (-2)), (true, X, I, J))))) ∧ ((z_bw x1 (1 : Int32) (9 : Int32)) = false → r = (some (z_i (-1)), (true, X, I, J))))) :
    z_ev (d + 1) (z_en 211 [z_r 33 0, z_i (x1)] (true, X, I, J)) r := by
  show z_ev (d + 1) (211, 0, [some (z_r 33 0), some (z_i (x1)), none], [], (true, X, I, J)) r
  refine z_ev_gs 3 (c1 := (211, 4, [some (z_r 33 0), some (z_i (x1)), none], [z_i 9, z_i 1, z_i (x1)], (true, X, I, J))) rfl ?_
  refine z_ev_ca rfl rfl (z_p158 _ _ _) ?_
  refine z_ev_gs 1 (c1 := (211, (if ¬ z_c (z_bw x1 (1 : Int32) (9 : Int32)) = 0 then 12 else 10), [some (z_r 33 0), some (z_i (x1)), none], [], (true, X, I, J))) rfl ?_
  refine z_ev_ifcn (fun e1 => ?_) (fun e1 => ?_)
  · have h9 := h.1 e1
    refine z_ev_gs 4 (c1 := (211, (if ¬ (I 33 0 4) = (5 : Int32) then 23 else 20), [some (z_r 33 0), some (z_i (x1)), none], [], (true, X, I, J))) rfl ?_
    refine z_ev_ifn (fun e2 => ?_) (fun e2 => ?_)
    · have h7 := h9.1 e2
      refine z_ev_gs 5 (c1 := (211, 32, [some (z_r 33 0), some (z_i (x1)), none], [z_i (x1), z_i (I 33 0 4), z_r 37 0], (true, X, I, J))) rfl ?_
      obtain ⟨k3, e4, e5, h6⟩ := h7
      refine z_ev_iast (t := 37) (i := 0) (k := k3) (n := 5) rfl rfl e4 e5 (by decide) ?_
      refine z_ev_gs 2 (c1 := (211, 35, [some (z_r 33 0), some (z_i (x1)), some (z_i 0)], [], (true, X, (z_up I 37 0 k3 x1), J))) rfl ?_
      exact h6
    · have h8 := h9.2 e2
      refine z_ev_gs 1 (c1 := (211, 22, [some (z_r 33 0), some (z_i (x1)), none], [z_i (-2)], (true, X, I, J))) rfl ?_
      rw [h8]
      exact z_ev_rt rfl
  · have h10 := h.2 e1
    refine z_ev_gs 1 (c1 := (211, 11, [some (z_r 33 0), some (z_i (x1)), none], [z_i (-1)], (true, X, I, J))) rfl ?_
    rw [h10]
    exact z_ev_rt rfl
theorem z_q211_35 {d : Nat} {r : Option z_V × z_M} {X : z_X} {I : Nat → Nat → Nat → Int32} {J : Nat → Nat → Nat → Int64} (x1 : Int32) (x2 : Int32)
    (h : (((I 33 0 4) < x2 → r = (some (z_i ((((I 33 0 4) + (1 : Int32))) - (1 : Int32))), (true, X, (z_up I 33 0 4 ((I 33 0 4) + (1 : Int32))), J))) ∧ (x2 ≤ (I 33 0 4) → (∃ k12 : Nat, (((5 : Int32) * x2) + (I 33 0 4)) = Int32.ofNat k12 ∧ k12 < 25 ∧ (∃ k16 : Nat, (((5 : Int32) * (I 33 0 4)) + x2) = Int32.ofNat k16 ∧ k16 < 25 ∧ z_ev (d + 1) (211, 35, [some (z_r 33 0), some (z_i (x1)), some (z_i (x2 + (1 : Int32)))], [], (true, X, (z_up (z_up I 38 0 k12 (0 : Int32)) 38 0 k16 (0 : Int32)), J)) r))))) :
    z_ev (d + 1) ((211, 35, [some (z_r 33 0), some (z_i (x1)), some (z_i (x2))], [], (true, X, I, J))) r := by
  refine z_ev_gs 4 (c1 := (211, (if (I 33 0 4) < x2 then 77 else 43), [some (z_r 33 0), some (z_i (x1)), some (z_i (x2))], [], (true, X, I, J))) rfl ?_
  refine z_ev_iflt (fun e11 => ?_) (fun e11 => ?_)
  · have h20 := h.1 e11
    refine z_ev_gs 10 (c1 := (211, 93, [some (z_r 33 0), some (z_i (x1)), some (z_i (x2))], [z_i ((((I 33 0 4) + (1 : Int32))) - (1 : Int32))], (true, X, (z_up I 33 0 4 ((I 33 0 4) + (1 : Int32))), J))) rfl ?_
    rw [h20]
    exact z_ev_rt rfl
  · have h21 := h.2 e11
    refine z_ev_gs 9 (c1 := (211, 56, [some (z_r 33 0), some (z_i (x1)), some (z_i (x2))], [z_i 0, z_i (((5 : Int32) * x2) + (I 33 0 4)), z_r 38 0], (true, X, I, J))) rfl ?_
    obtain ⟨k12, e13, e14, h15⟩ := h21
    refine z_ev_iast (t := 38) (i := 0) (k := k12) (n := 25) rfl rfl e13 e14 (by decide) ?_
    refine z_ev_gs 9 (c1 := (211, 70, [some (z_r 33 0), some (z_i (x1)), some (z_i (x2))], [z_i 0, z_i (((5 : Int32) * (I 33 0 4)) + x2), z_r 38 0], (true, X, (z_up I 38 0 k12 (0 : Int32)), J))) rfl ?_
    obtain ⟨k16, e17, e18, h19⟩ := h15
    refine z_ev_iast (t := 38) (i := 0) (k := k16) (n := 25) rfl rfl e17 e18 (by decide) ?_
    refine z_ev_gs 2 (c1 := (211, 35, [some (z_r 33 0), some (z_i (x1)), some (z_i (x2 + (1 : Int32)))], [], (true, X, (z_up (z_up I 38 0 k12 (0 : Int32)) 38 0 k16 (0 : Int32)), J))) rfl ?_
    exact h19
theorem z_q33_e {d : Nat} {r : Option z_V × z_M} {X : z_X} {I : Nat → Nat → Nat → Int32} {J : Nat → Nat → Nat → Int64} (q0 : Nat) (hq0 : q0 < 4) (x1 : Int32) (x2 : Int32)
    (h : z_ev d (33, 12, [some (z_r 30 q0), some (z_i (x1)), some (z_i (x2)), some (z_i 0)], [], (true, X, (z_up (z_up I 30 q0 1 x1) 30 q0 2 x2), J)) r) :
    z_ev d (z_en 33 [z_r 30 q0, z_i (x1), z_i (x2)] (true, X, I, J)) r := by
  show z_ev d (33, 0, [some (z_r 30 q0), some (z_i (x1)), some (z_i (x2)), none], [], (true, X, I, J)) r
  refine z_ev_gs 2 (c1 := (33, 2, [some (z_r 30 q0), some (z_i (x1)), some (z_i (x2)), none], [z_i (x1), z_r 30 q0], (true, X, I, J))) rfl ?_
  refine z_ev_gi (c1 := (33, 5, [some (z_r 30 q0), some (z_i (x1)), some (z_i (x2)), none], [], (true, X, (z_up I 30 q0 1 x1), J))) rfl hq0 ?_
  refine z_ev_gs 2 (c1 := (33, 7, [some (z_r 30 q0), some (z_i (x1)), some (z_i (x2)), none], [z_i (x2), z_r 30 q0], (true, X, (z_up I 30 q0 1 x1), J))) rfl ?_
  refine z_ev_gi (c1 := (33, 10, [some (z_r 30 q0), some (z_i (x1)), some (z_i (x2)), none], [], (true, X, (z_up (z_up I 30 q0 1 x1) 30 q0 2 x2), J))) rfl hq0 ?_
  refine z_ev_gs 2 (c1 := (33, 12, [some (z_r 30 q0), some (z_i (x1)), some (z_i (x2)), some (z_i 0)], [], (true, X, (z_up (z_up I 30 q0 1 x1) 30 q0 2 x2), J))) rfl ?_
  exact h
theorem z_q33_12 {d : Nat} {r : Option z_V × z_M} {X : z_X} {I : Nat → Nat → Nat → Int32} {J : Nat → Nat → Nat → Int64} (q0 : Nat) (hq0 : q0 < 4) (x1 : Int32) (x2 : Int32) (x3 : Int32)
    (h : (((40 : Int32) ≤ x3 → r = (none, (true, X, I, J))) ∧ (x3 < (40 : Int32) → (∃ k2 : Nat, x3 = Int32.ofNat k2 ∧ k2 < 40 ∧ z_ev d (33, 12, [some (z_r 30 q0), some (z_i (x1)), some (z_i (x2)), some (z_i (x3 + (1 : Int32)))], [], (true, X, I, (z_up J 31 q0 k2 (0 : Int64)))) r)))) :
    z_ev d ((33, 12, [some (z_r 30 q0), some (z_i (x1)), some (z_i (x2)), some (z_i (x3))], [], (true, X, I, J))) r := by
  refine z_ev_gs 3 (c1 := (33, (if (40 : Int32) ≤ x3 then 31 else 18), [some (z_r 30 q0), some (z_i (x1)), some (z_i (x2)), some (z_i (x3))], [], (true, X, I, J))) rfl ?_
  refine z_ev_ifle (fun e1 => ?_) (fun e1 => ?_)
  · have h6 := h.1 e1
    rw [h6]
    exact z_ev_rt rfl
  · have h7 := h.2 e1
    refine z_ev_gs 1 (c1 := (33, 19, [some (z_r 30 q0), some (z_i (x1)), some (z_i (x2)), some (z_i (x3))], [z_r 30 q0], (true, X, I, J))) rfl ?_
    refine z_ev_gi (c1 := (33, 22, [some (z_r 30 q0), some (z_i (x1)), some (z_i (x2)), some (z_i (x3))], [z_r 31 q0], (true, X, I, J))) rfl hq0 ?_
    refine z_ev_gs 2 (c1 := (33, 24, [some (z_r 30 q0), some (z_i (x1)), some (z_i (x2)), some (z_i (x3))], [z_j 0, z_i (x3), z_r 31 q0], (true, X, I, J))) rfl ?_
    obtain ⟨k2, e3, e4, h5⟩ := h7
    refine z_ev_last (t := 31) (i := q0) (k := k2) (n := 40) rfl (z_gt hq0) e3 e4 (by decide) ?_
    refine z_ev_gs 2 (c1 := (33, 12, [some (z_r 30 q0), some (z_i (x1)), some (z_i (x2)), some (z_i (x3 + (1 : Int32)))], [], (true, X, I, (z_up J 31 q0 k2 (0 : Int64))))) rfl ?_
    exact h5
theorem z_q34_e {d : Nat} {r : Option z_V × z_M} {X : z_X} {I : Nat → Nat → Nat → Int32} {J : Nat → Nat → Nat → Int64} (q0 : Nat) (hq0 : q0 < 4) (x1 : Int32)
    (h : (((I 30 q0 1) = 0 → r = (some (z_j (x1.toInt8.toInt32.toInt64)), (true, X, I, J))) ∧ (¬ (I 30 q0 1) = 0 → (((I 30 q0 1) = 1 → r = (some (z_j (x1.toInt16.toInt32.toInt64)), (true, X, I, J))) ∧ (¬ (I 30 q0 1) = 1 → r = (some (z_j (x1.toInt64)), (true, X, I, J))))))) :
    z_ev d (z_en 34 [z_r 30 q0, z_i (x1)] (true, X, I, J)) r := by
  show z_ev d (34, 0, [some (z_r 30 q0), some (z_i (x1))], [], (true, X, I, J)) r
  refine z_ev_gs 1 (c1 := (34, 1, [some (z_r 30 q0), some (z_i (x1))], [z_r 30 q0], (true, X, I, J))) rfl ?_
  refine z_ev_gi (c1 := (34, 4, [some (z_r 30 q0), some (z_i (x1))], [z_i (I 30 q0 1)], (true, X, I, J))) rfl hq0 ?_
  refine z_ev_gs 1 (c1 := (34, (if (I 30 q0 1) = 0 then 32 else (if (I 30 q0 1) = 1 then 36 else 40)), [some (z_r 30 q0), some (z_i (x1))], [], (true, X, I, J))) rfl ?_
  refine z_ev_if (fun e1 => ?_) (fun e1 => ?_)
  · have h2 := h.1 e1
    refine z_ev_gs 3 (c1 := (34, 35, [some (z_r 30 q0), some (z_i (x1))], [z_j (x1.toInt8.toInt32.toInt64)], (true, X, I, J))) rfl ?_
    rw [h2]
    exact z_ev_rt rfl
  · have h3 := h.2 e1
    refine z_ev_if (fun e4 => ?_) (fun e4 => ?_)
    · have h5 := h3.1 e4
      refine z_ev_gs 3 (c1 := (34, 39, [some (z_r 30 q0), some (z_i (x1))], [z_j (x1.toInt16.toInt32.toInt64)], (true, X, I, J))) rfl ?_
      rw [h5]
      exact z_ev_rt rfl
    · have h6 := h3.2 e4
      refine z_ev_gs 2 (c1 := (34, 42, [some (z_r 30 q0), some (z_i (x1))], [z_j (x1.toInt64)], (true, X, I, J))) rfl ?_
      rw [h6]
      exact z_ev_rt rfl
theorem z_q108_e {d : Nat} {r : Option z_V × z_M} {X : z_X} {I : Nat → Nat → Nat → Int32} {J : Nat → Nat → Nat → Int64} (x1 : Int32) (x2 : Int32) (x3 : Int32)
    (h : (((z_bw x1 0 3) = false → r = (some (z_i (-1)), (true, X, I, J))) ∧ ((z_bw x1 0 3) = true → ((x2 = (-1 : Int32) → (∃ k3 : Nat, x1 = Int32.ofNat k3 ∧ k3 < 4 ∧ (∃ (X7 : z_X) (I8 : Nat → Nat → Nat → Int32) (J9 : Nat → Nat → Nat → Int64), z_ev d (z_en 33 [z_r 30 k3, z_i (x2), z_i 0] (true, X, I, J)) (none, (true, X7, I8, J9)) ∧ r = (some (z_i 1), (true, X7, I8, J9))))) ∧ (¬ x2 = (-1 : Int32) → (((z_bw x2 0 3) = false → r = (some (z_i (-1)), (true, X, I, J))) ∧ ((z_bw x2 0 3) = true → ((x3 ≤ (40 : Int32) → ((0 ≤ x3 → (∃ k15 : Nat, x1 = Int32.ofNat k15 ∧ k15 < 4 ∧ (∃ (X19 : z_X) (I20 : Nat → Nat → Nat → Int32) (J21 : Nat → Nat → Nat → Int64), z_ev d (z_en 33 [z_r 30 k15, z_i (x2), z_i (x3)] (true, X, I, J)) (none, (true, X19, I20, J21)) ∧ r = (some (z_i 1), (true, X19, I20, J21))))) ∧ (x3 < 0 → r = (some (z_i (-14)), (true, X, I, J))))) ∧ ((40 : Int32) < x3 → r = (some (z_i (-1)), (true, X, I, J))))))))))) :
    z_ev (d + 1) (z_en 108 [z_r 0 0, z_i (x1), z_i (x2), z_i (x3)] (true, X, I, J)) r := by
  show z_ev (d + 1) (108, 0, [some (z_r 0 0), some (z_i (x1)), some (z_i (x2)), some (z_i (x3))], [], (true, X, I, J)) r
  refine z_ev_gs 1 (c1 := (108, 1, [some (z_r 0 0), some (z_i (x1)), some (z_i (x2)), some (z_i (x3))], [z_i (x1)], (true, X, I, J))) rfl ?_
  refine z_ev_ca rfl rfl (z_p122 _) ?_
  refine z_ev_gs 1 (c1 := (108, (if z_c (z_bw x1 0 3) = 0 then 25 else 7), [some (z_r 0 0), some (z_i (x1)), some (z_i (x2)), some (z_i (x3))], [], (true, X, I, J))) rfl ?_
  refine z_ev_ifc (fun e1 => ?_) (fun e1 => ?_)
  · have h32 := h.1 e1
    refine z_ev_gs 1 (c1 := (108, 26, [some (z_r 0 0), some (z_i (x1)), some (z_i (x2)), some (z_i (x3))], [z_i (-1)], (true, X, I, J))) rfl ?_
    rw [h32]
    exact z_ev_rt rfl
  · have h33 := h.2 e1
    refine z_ev_gs 3 (c1 := (108, (if x2 = (-1 : Int32) then 27 else 12), [some (z_r 0 0), some (z_i (x1)), some (z_i (x2)), some (z_i (x3))], [], (true, X, I, J))) rfl ?_
    refine z_ev_if (fun e2 => ?_) (fun e2 => ?_)
    · have h30 := h33.1 e2
      refine z_ev_gs 3 (c1 := (108, (if x2 = (-1 : Int32) then 39 else 32), [some (z_r 0 0), some (z_i (x1)), some (z_i (x2)), some (z_i (x3))], [], (true, X, I, J))) rfl ?_
      rw [if_pos e2]
      refine z_ev_gs 3 (c1 := (108, 44, [some (z_r 0 0), some (z_i (x1)), some (z_i (x2)), some (z_i (x3))], [z_i (x1), z_r 21 0], (true, X, I, J))) rfl ?_
      obtain ⟨k3, e4, e5, h6⟩ := h30
      refine z_ev_sh (k := k3) rfl e4 e5 ?_
      refine z_ev_gs 4 (c1 := (108, (if ¬ x2 = (-1 : Int32) then 55 else 51), [some (z_r 0 0), some (z_i (x1)), some (z_i (x2)), some (z_i (x3))], [z_i (x2), z_r 30 k3], (true, X, I, J))) rfl ?_
      rw [if_neg (fun q9 => q9 e2)]
      refine z_ev_gs 2 (c1 := (108, 56, [some (z_r 0 0), some (z_i (x1)), some (z_i (x2)), some (z_i (x3))], [z_i 0, z_i (x2), z_r 30 k3], (true, X, I, J))) rfl ?_
      obtain ⟨X7, I8, J9, g10, h11⟩ := h6
      refine z_ev_cg rfl e5 rfl g10 ?_
      refine z_ev_gs 1 (c1 := (108, 60, [some (z_r 0 0), some (z_i (x1)), some (z_i (x2)), some (z_i (x3))], [z_i 1], (true, X7, I8, J9))) rfl ?_
      rw [h11]
      exact z_ev_rt rfl
    · have h31 := h33.2 e2
      refine z_ev_gs 1 (c1 := (108, 13, [some (z_r 0 0), some (z_i (x1)), some (z_i (x2)), some (z_i (x3))], [z_i (x2)], (true, X, I, J))) rfl ?_
      refine z_ev_ca rfl rfl (z_p123 _) ?_
      refine z_ev_gs 1 (c1 := (108, (if z_c (z_bw x2 0 3) = 0 then 25 else 19), [some (z_r 0 0), some (z_i (x1)), some (z_i (x2)), some (z_i (x3))], [], (true, X, I, J))) rfl ?_
      refine z_ev_ifc (fun e12 => ?_) (fun e12 => ?_)
      · have h28 := h31.1 e12
        refine z_ev_gs 1 (c1 := (108, 26, [some (z_r 0 0), some (z_i (x1)), some (z_i (x2)), some (z_i (x3))], [z_i (-1)], (true, X, I, J))) rfl ?_
        rw [h28]
        exact z_ev_rt rfl
      · have h29 := h31.2 e12
        refine z_ev_gs 3 (c1 := (108, (if x3 ≤ (40 : Int32) then 27 else 25), [some (z_r 0 0), some (z_i (x1)), some (z_i (x2)), some (z_i (x3))], [], (true, X, I, J))) rfl ?_
        refine z_ev_ifle (fun e13 => ?_) (fun e13 => ?_)
        · have h26 := h29.1 e13
          refine z_ev_gs 3 (c1 := (108, (if x2 = (-1 : Int32) then 39 else 32), [some (z_r 0 0), some (z_i (x1)), some (z_i (x2)), some (z_i (x3))], [], (true, X, I, J))) rfl ?_
          rw [if_neg e2]
          refine z_ev_gs 2 (c1 := (108, (if 0 ≤ x3 then 39 else 36), [some (z_r 0 0), some (z_i (x1)), some (z_i (x2)), some (z_i (x3))], [], (true, X, I, J))) rfl ?_
          refine z_ev_ifle (fun e14 => ?_) (fun e14 => ?_)
          · have h24 := h26.1 e14
            refine z_ev_gs 3 (c1 := (108, 44, [some (z_r 0 0), some (z_i (x1)), some (z_i (x2)), some (z_i (x3))], [z_i (x1), z_r 21 0], (true, X, I, J))) rfl ?_
            obtain ⟨k15, e16, e17, h18⟩ := h24
            refine z_ev_sh (k := k15) rfl e16 e17 ?_
            refine z_ev_gs 4 (c1 := (108, (if ¬ x2 = (-1 : Int32) then 55 else 51), [some (z_r 0 0), some (z_i (x1)), some (z_i (x2)), some (z_i (x3))], [z_i (x2), z_r 30 k15], (true, X, I, J))) rfl ?_
            rw [if_pos e2]
            refine z_ev_gs 1 (c1 := (108, 56, [some (z_r 0 0), some (z_i (x1)), some (z_i (x2)), some (z_i (x3))], [z_i (x3), z_i (x2), z_r 30 k15], (true, X, I, J))) rfl ?_
            obtain ⟨X19, I20, J21, g22, h23⟩ := h18
            refine z_ev_cg rfl e17 rfl g22 ?_
            refine z_ev_gs 1 (c1 := (108, 60, [some (z_r 0 0), some (z_i (x1)), some (z_i (x2)), some (z_i (x3))], [z_i 1], (true, X19, I20, J21))) rfl ?_
            rw [h23]
            exact z_ev_rt rfl
          · have h25 := h26.2 e14
            refine z_ev_gs 1 (c1 := (108, 38, [some (z_r 0 0), some (z_i (x1)), some (z_i (x2)), some (z_i (x3))], [z_i (-14)], (true, X, I, J))) rfl ?_
            rw [h25]
            exact z_ev_rt rfl
        · have h27 := h29.2 e13
          refine z_ev_gs 1 (c1 := (108, 26, [some (z_r 0 0), some (z_i (x1)), some (z_i (x2)), some (z_i (x3))], [z_i (-1)], (true, X, I, J))) rfl ?_
          rw [h27]
          exact z_ev_rt rfl
theorem z_q250_e {d : Nat} {r : Option z_V × z_M} {X : z_X} {I : Nat → Nat → Nat → Int32} {J : Nat → Nat → Nat → Int64} (x1 : Int32) (x2 : Int32) (x3 : Int32)
    (h : (((z_bw x1 0 3) = false → r = (some (z_i (-1)), (true, X, I, J))) ∧ ((z_bw x1 0 3) = true → (((z_bw x2 (-1 : Int32) (3 : Int32)) = false → r = (some (z_i (-1)), (true, X, I, J))) ∧ ((z_bw x2 (-1 : Int32) (3 : Int32)) = true → ((x2 < 0 → (∃ k4 : Nat, x1 = Int32.ofNat k4 ∧ k4 < 4 ∧ z_ev (d + 2) (250, 64, [some (z_r 33 0), some (z_i (x1)), some (z_i (x2)), some (z_i (x3)), some (z_i 0)], [], (true, X, (z_up (z_up I 55 0 k4 x2) 56 0 k4 (0 : Int32)), J)) r)) ∧ (0 ≤ x2 → ((x3 ≤ (40 : Int32) → ((0 ≤ x3 → (∃ k10 : Nat, x1 = Int32.ofNat k10 ∧ k10 < 4 ∧ z_ev (d + 2) (250, 64, [some (z_r 33 0), some (z_i (x1)), some (z_i (x2)), some (z_i (x3)), some (z_i 0)], [], (true, X, (z_up (z_up I 55 0 k10 x2) 56 0 k10 x3), J)) r)) ∧ (x3 < 0 → r = (some (z_i (-14)), (true, X, I, J))))) ∧ ((40 : Int32) < x3 → r = (some (z_i (-1)), (true, X, I, J))))))))))) :
    z_ev (d + 2) (z_en 250 [z_r 33 0, z_i (x1), z_i (x2), z_i (x3)] (true, X, I, J)) r := by
  show z_ev (d + 2) (250, 0, [some (z_r 33 0), some (z_i (x1)), some (z_i (x2)), some (z_i (x3)), none], [], (true, X, I, J)) r
  refine z_ev_gs 1 (c1 := (250, 1, [some (z_r 33 0), some (z_i (x1)), some (z_i (x2)), some (z_i (x3)), none], [z_i (x1)], (true, X, I, J))) rfl ?_
  refine z_ev_ca rfl rfl (z_p249 _) ?_
  refine z_ev_gs 1 (c1 := (250, (if z_c (z_bw x1 0 3) = 0 then 26 else 7), [some (z_r 33 0), some (z_i (x1)), some (z_i (x2)), some (z_i (x3)), none], [], (true, X, I, J))) rfl ?_
  refine z_ev_ifc (fun e1 => ?_) (fun e1 => ?_)
  · have h22 := h.1 e1
    refine z_ev_gs 1 (c1 := (250, 27, [some (z_r 33 0), some (z_i (x1)), some (z_i (x2)), some (z_i (x3)), none], [z_i (-1)], (true, X, I, J))) rfl ?_
    rw [h22]
    exact z_ev_rt rfl
  · have h23 := h.2 e1
    refine z_ev_gs 3 (c1 := (250, 10, [some (z_r 33 0), some (z_i (x1)), some (z_i (x2)), some (z_i (x3)), none], [z_i 3, z_i (-1), z_i (x2)], (true, X, I, J))) rfl ?_
    refine z_ev_ca rfl rfl (z_p158 _ _ _) ?_
    refine z_ev_gs 1 (c1 := (250, (if z_c (z_bw x2 (-1 : Int32) (3 : Int32)) = 0 then 26 else 16), [some (z_r 33 0), some (z_i (x1)), some (z_i (x2)), some (z_i (x3)), none], [], (true, X, I, J))) rfl ?_
    refine z_ev_ifc (fun e2 => ?_) (fun e2 => ?_)
    · have h20 := h23.1 e2
      refine z_ev_gs 1 (c1 := (250, 27, [some (z_r 33 0), some (z_i (x1)), some (z_i (x2)), some (z_i (x3)), none], [z_i (-1)], (true, X, I, J))) rfl ?_
      rw [h20]
      exact z_ev_rt rfl
    · have h21 := h23.2 e2
      refine z_ev_gs 2 (c1 := (250, (if x2 < 0 then 28 else 20), [some (z_r 33 0), some (z_i (x1)), some (z_i (x2)), some (z_i (x3)), none], [], (true, X, I, J))) rfl ?_
      refine z_ev_iflt (fun e3 => ?_) (fun e3 => ?_)
      · have h18 := h21.1 e3
        refine z_ev_gs 2 (c1 := (250, (if x2 < 0 then 39 else 32), [some (z_r 33 0), some (z_i (x1)), some (z_i (x2)), some (z_i (x3)), none], [], (true, X, I, J))) rfl ?_
        rw [if_pos e3]
        refine z_ev_gs 4 (c1 := (250, 45, [some (z_r 33 0), some (z_i (x1)), some (z_i (x2)), some (z_i (x3)), none], [z_i (x2), z_i (x1), z_r 55 0], (true, X, I, J))) rfl ?_
        obtain ⟨k4, e5, e6, h7⟩ := h18
        refine z_ev_iast (t := 55) (i := 0) (k := k4) (n := 4) rfl rfl e5 e6 (by decide) ?_
        refine z_ev_gs 5 (c1 := (250, (if 0 ≤ x2 then 59 else 55), [some (z_r 33 0), some (z_i (x1)), some (z_i (x2)), some (z_i (x3)), none], [z_i (x1), z_r 56 0], (true, X, (z_up I 55 0 k4 x2), J))) rfl ?_
        rw [if_neg (Int32.not_le.mpr e3)]
        refine z_ev_gs 2 (c1 := (250, 60, [some (z_r 33 0), some (z_i (x1)), some (z_i (x2)), some (z_i (x3)), none], [z_i 0, z_i (x1), z_r 56 0], (true, X, (z_up I 55 0 k4 x2), J))) rfl ?_
        refine z_ev_iast (t := 56) (i := 0) (k := k4) (n := 4) rfl rfl e5 (Nat.lt_of_lt_of_le e6 (by decide)) (by decide) ?_
        refine z_ev_gs 2 (c1 := (250, 64, [some (z_r 33 0), some (z_i (x1)), some (z_i (x2)), some (z_i (x3)), some (z_i 0)], [], (true, X, (z_up (z_up I 55 0 k4 x2) 56 0 k4 (0 : Int32)), J))) rfl ?_
        exact h7
      · have h19 := h21.2 e3
        refine z_ev_gs 3 (c1 := (250, (if x3 ≤ (40 : Int32) then 28 else 26), [some (z_r 33 0), some (z_i (x1)), some (z_i (x2)), some (z_i (x3)), none], [], (true, X, I, J))) rfl ?_
        refine z_ev_ifle (fun e8 => ?_) (fun e8 => ?_)
        · have h16 := h19.1 e8
          refine z_ev_gs 2 (c1 := (250, (if x2 < 0 then 39 else 32), [some (z_r 33 0), some (z_i (x1)), some (z_i (x2)), some (z_i (x3)), none], [], (true, X, I, J))) rfl ?_
          rw [if_neg (Int32.not_lt.mpr e3)]
          refine z_ev_gs 2 (c1 := (250, (if 0 ≤ x3 then 39 else 36), [some (z_r 33 0), some (z_i (x1)), some (z_i (x2)), some (z_i (x3)), none], [], (true, X, I, J))) rfl ?_
          refine z_ev_ifle (fun e9 => ?_) (fun e9 => ?_)
          · have h14 := h16.1 e9
            refine z_ev_gs 4 (c1 := (250, 45, [some (z_r 33 0), some (z_i (x1)), some (z_i (x2)), some (z_i (x3)), none], [z_i (x2), z_i (x1), z_r 55 0], (true, X, I, J))) rfl ?_
            obtain ⟨k10, e11, e12, h13⟩ := h14
            refine z_ev_iast (t := 55) (i := 0) (k := k10) (n := 4) rfl rfl e11 e12 (by decide) ?_
            refine z_ev_gs 5 (c1 := (250, (if 0 ≤ x2 then 59 else 55), [some (z_r 33 0), some (z_i (x1)), some (z_i (x2)), some (z_i (x3)), none], [z_i (x1), z_r 56 0], (true, X, (z_up I 55 0 k10 x2), J))) rfl ?_
            rw [if_pos e3]
            refine z_ev_gs 1 (c1 := (250, 60, [some (z_r 33 0), some (z_i (x1)), some (z_i (x2)), some (z_i (x3)), none], [z_i (x3), z_i (x1), z_r 56 0], (true, X, (z_up I 55 0 k10 x2), J))) rfl ?_
            refine z_ev_iast (t := 56) (i := 0) (k := k10) (n := 4) rfl rfl e11 (Nat.lt_of_lt_of_le e12 (by decide)) (by decide) ?_
            refine z_ev_gs 2 (c1 := (250, 64, [some (z_r 33 0), some (z_i (x1)), some (z_i (x2)), some (z_i (x3)), some (z_i 0)], [], (true, X, (z_up (z_up I 55 0 k10 x2) 56 0 k10 x3), J))) rfl ?_
            exact h13
          · have h15 := h16.2 e9
            refine z_ev_gs 1 (c1 := (250, 38, [some (z_r 33 0), some (z_i (x1)), some (z_i (x2)), some (z_i (x3)), none], [z_i (-14)], (true, X, I, J))) rfl ?_
            rw [h15]
            exact z_ev_rt rfl
        · have h17 := h19.2 e8
          refine z_ev_gs 1 (c1 := (250, 27, [some (z_r 33 0), some (z_i (x1)), some (z_i (x2)), some (z_i (x3)), none], [z_i (-1)], (true, X, I, J))) rfl ?_
          rw [h17]
          exact z_ev_rt rfl
theorem z_q250_64 {d : Nat} {r : Option z_V × z_M} {X : z_X} {I : Nat → Nat → Nat → Int32} {J : Nat → Nat → Nat → Int64} (x1 : Int32) (x2 : Int32) (x3 : Int32) (x4 : Int32)
    (h : (((40 : Int32) ≤ x4 → r = (some (z_i 1), (true, X, I, J))) ∧ (x4 < (40 : Int32) → (∃ k25 : Nat, (((40 : Int32) * x1) + x4) = Int32.ofNat k25 ∧ k25 < 160 ∧ z_ev (d + 2) (250, 64, [some (z_r 33 0), some (z_i (x1)), some (z_i (x2)), some (z_i (x3)), some (z_i (x4 + (1 : Int32)))], [], (true, X, I, (z_up J 57 0 k25 (0 : Int64)))) r)))) :
    z_ev (d + 2) ((250, 64, [some (z_r 33 0), some (z_i (x1)), some (z_i (x2)), some (z_i (x3)), some (z_i (x4))], [], (true, X, I, J))) r := by
  refine z_ev_gs 3 (c1 := (250, (if (40 : Int32) ≤ x4 then 90 else 71), [some (z_r 33 0), some (z_i (x1)), some (z_i (x2)), some (z_i (x3)), some (z_i (x4))], [], (true, X, I, J))) rfl ?_
  refine z_ev_ifle (fun e24 => ?_) (fun e24 => ?_)
  · have h29 := h.1 e24
    refine z_ev_gs 1 (c1 := (250, 91, [some (z_r 33 0), some (z_i (x1)), some (z_i (x2)), some (z_i (x3)), some (z_i (x4))], [z_i 1], (true, X, I, J))) rfl ?_
    rw [h29]
    exact z_ev_rt rfl
  · have h30 := h.2 e24
    refine z_ev_gs 8 (c1 := (250, 83, [some (z_r 33 0), some (z_i (x1)), some (z_i (x2)), some (z_i (x3)), some (z_i (x4))], [z_j 0, z_i (((40 : Int32) * x1) + x4), z_r 57 0], (true, X, I, J))) rfl ?_
    obtain ⟨k25, e26, e27, h28⟩ := h30
    refine z_ev_last (t := 57) (i := 0) (k := k25) (n := 160) rfl rfl e26 e27 (by decide) ?_
    refine z_ev_gs 2 (c1 := (250, 64, [some (z_r 33 0), some (z_i (x1)), some (z_i (x2)), some (z_i (x3)), some (z_i (x4 + (1 : Int32)))], [], (true, X, I, (z_up J 57 0 k25 (0 : Int64))))) rfl ?_
    exact h28
theorem z_q109_e {d : Nat} {r : Option z_V × z_M} {X : z_X} {I : Nat → Nat → Nat → Int32} {J : Nat → Nat → Nat → Int64} (x1 : Int32) (x2 : Int32) (x3 : Int32)
    (h : (((z_bw x1 0 3) = true → (∃ k2 : Nat, x1 = Int32.ofNat k2 ∧ k2 < 4 ∧ ((¬ (I 30 k2 1) = (-1 : Int32) → ((x2 < 0 → r = (some (z_i (-12)), (true, X, I, J))) ∧ (0 ≤ x2 → ((x2 < (I 30 k2 2) → (∃ (v14 : Int64) (X9 : z_X) (I10 : Nat → Nat → Nat → Int32) (J11 : Nat → Nat → Nat → Int64), z_ev d (z_en 34 [z_r 30 k2, z_i (x3)] (true, X, I, J)) (some (z_j (v14)), (true, X9, I10, J11)) ∧ (∃ k15 : Nat, x2 = Int32.ofNat k15 ∧ k15 < 40 ∧ r = (some (z_i 1), (true, X9, I10, (z_up J11 31 k2 k15 v14)))))) ∧ ((I 30 k2 2) ≤ x2 → r = (some (z_i (-12)), (true, X, I, J))))))) ∧ ((I 30 k2 1) = (-1 : Int32) → r = (some (z_i (-11)), (true, X, I, J)))))) ∧ ((z_bw x1 0 3) = false → r = (some (z_i (-1)), (true, X, I, J))))) :
    z_ev (d + 1) (z_en 109 [z_r 0 0, z_i (x1), z_i (x2), z_i (x3)] (true, X, I, J)) r := by
  show z_ev (d + 1) (109, 0, [some (z_r 0 0), some (z_i (x1)), some (z_i (x2)), some (z_i (x3)), none], [], (true, X, I, J)) r
  refine z_ev_gs 1 (c1 := (109, 1, [some (z_r 0 0), some (z_i (x1)), some (z_i (x2)), some (z_i (x3)), none], [z_i (x1)], (true, X, I, J))) rfl ?_
  refine z_ev_ca rfl rfl (z_p122 _) ?_
  refine z_ev_gs 1 (c1 := (109, (if ¬ z_c (z_bw x1 0 3) = 0 then 9 else 7), [some (z_r 0 0), some (z_i (x1)), some (z_i (x2)), some (z_i (x3)), none], [], (true, X, I, J))) rfl ?_
  refine z_ev_ifcn (fun e1 => ?_) (fun e1 => ?_)
  · have h25 := h.1 e1
    refine z_ev_gs 3 (c1 := (109, 14, [some (z_r 0 0), some (z_i (x1)), some (z_i (x2)), some (z_i (x3)), none], [z_i (x1), z_r 21 0], (true, X, I, J))) rfl ?_
    obtain ⟨k2, e3, e4, h5⟩ := h25
    refine z_ev_sh (k := k2) rfl e3 e4 ?_
    refine z_ev_gs 2 (c1 := (109, 19, [some (z_r 0 0), some (z_i (x1)), some (z_i (x2)), some (z_i (x3)), some (z_r 30 k2)], [z_r 30 k2], (true, X, I, J))) rfl ?_
    refine z_ev_gi (c1 := (109, 22, [some (z_r 0 0), some (z_i (x1)), some (z_i (x2)), some (z_i (x3)), some (z_r 30 k2)], [z_i (I 30 k2 1)], (true, X, I, J))) rfl e4 ?_
    refine z_ev_gs 2 (c1 := (109, (if ¬ (I 30 k2 1) = (-1 : Int32) then 29 else 26), [some (z_r 0 0), some (z_i (x1)), some (z_i (x2)), some (z_i (x3)), some (z_r 30 k2)], [], (true, X, I, J))) rfl ?_
    refine z_ev_ifn (fun e6 => ?_) (fun e6 => ?_)
    · have h23 := h5.1 e6
      refine z_ev_gs 2 (c1 := (109, (if x2 < 0 then 42 else 33), [some (z_r 0 0), some (z_i (x1)), some (z_i (x2)), some (z_i (x3)), some (z_r 30 k2)], [], (true, X, I, J))) rfl ?_
      refine z_ev_iflt (fun e7 => ?_) (fun e7 => ?_)
      · have h21 := h23.1 e7
        refine z_ev_gs 1 (c1 := (109, 44, [some (z_r 0 0), some (z_i (x1)), some (z_i (x2)), some (z_i (x3)), some (z_r 30 k2)], [z_i (-12)], (true, X, I, J))) rfl ?_
        rw [h21]
        exact z_ev_rt rfl
      · have h22 := h23.2 e7
        refine z_ev_gs 2 (c1 := (109, 36, [some (z_r 0 0), some (z_i (x1)), some (z_i (x2)), some (z_i (x3)), some (z_r 30 k2)], [z_r 30 k2, z_i (x2)], (true, X, I, J))) rfl ?_
        refine z_ev_gi (c1 := (109, 39, [some (z_r 0 0), some (z_i (x1)), some (z_i (x2)), some (z_i (x3)), some (z_r 30 k2)], [z_i (I 30 k2 2), z_i (x2)], (true, X, I, J))) rfl e4 ?_
        refine z_ev_gs 1 (c1 := (109, (if x2 < (I 30 k2 2) then 45 else 42), [some (z_r 0 0), some (z_i (x1)), some (z_i (x2)), some (z_i (x3)), some (z_r 30 k2)], [], (true, X, I, J))) rfl ?_
        refine z_ev_iflt (fun e8 => ?_) (fun e8 => ?_)
        · have h19 := h22.1 e8
          refine z_ev_gs 1 (c1 := (109, 47, [some (z_r 0 0), some (z_i (x1)), some (z_i (x2)), some (z_i (x3)), some (z_r 30 k2)], [z_r 30 k2], (true, X, I, J))) rfl ?_
          refine z_ev_gi (c1 := (109, 50, [some (z_r 0 0), some (z_i (x1)), some (z_i (x2)), some (z_i (x3)), some (z_r 30 k2)], [z_r 31 k2], (true, X, I, J))) rfl e4 ?_
          refine z_ev_gs 3 (c1 := (109, 54, [some (z_r 0 0), some (z_i (x1)), some (z_i (x2)), some (z_i (x3)), some (z_r 30 k2)], [z_i (x3), z_r 30 k2, z_i (x2), z_r 31 k2], (true, X, I, J))) rfl ?_
          obtain ⟨v14, X9, I10, J11, g12, h13⟩ := h19
          refine z_ev_cg rfl e4 rfl g12 ?_
          obtain ⟨k15, e16, e17, h18⟩ := h13
          refine z_ev_last (t := 31) (i := k2) (k := k15) (n := 40) rfl (z_gt e4) e16 e17 (by decide) ?_
          refine z_ev_gs 1 (c1 := (109, 59, [some (z_r 0 0), some (z_i (x1)), some (z_i (x2)), some (z_i (x3)), some (z_r 30 k2)], [z_i 1], (true, X9, I10, (z_up J11 31 k2 k15 v14)))) rfl ?_
          rw [h18]
          exact z_ev_rt rfl
        · have h20 := h22.2 e8
          refine z_ev_gs 1 (c1 := (109, 44, [some (z_r 0 0), some (z_i (x1)), some (z_i (x2)), some (z_i (x3)), some (z_r 30 k2)], [z_i (-12)], (true, X, I, J))) rfl ?_
          rw [h20]
          exact z_ev_rt rfl
    · have h24 := h5.2 e6
      refine z_ev_gs 1 (c1 := (109, 28, [some (z_r 0 0), some (z_i (x1)), some (z_i (x2)), some (z_i (x3)), some (z_r 30 k2)], [z_i (-11)], (true, X, I, J))) rfl ?_
      rw [h24]
      exact z_ev_rt rfl
  · have h26 := h.2 e1
    refine z_ev_gs 1 (c1 := (109, 8, [some (z_r 0 0), some (z_i (x1)), some (z_i (x2)), some (z_i (x3)), none], [z_i (-1)], (true, X, I, J))) rfl ?_
    rw [h26]
    exact z_ev_rt rfl
theorem z_q251_e {d : Nat} {r : Option z_V × z_M} {X : z_X} {I : Nat → Nat → Nat → Int32} {J : Nat → Nat → Nat → Int64} (x1 : Int32) (x2 : Int32) (x3 : Int32)
    (h : (((z_bw x1 0 3) = true → (∃ k2 : Nat, x1 = Int32.ofNat k2 ∧ k2 < 4 ∧ ((0 ≤ (I 55 0 k2) → (((z_bw x2 (0 : Int32) ((I 56 0 k2) - (1 : Int32))) = true → ((¬ (I 55 0 k2) = 0 → ((¬ (I 55 0 k2) = (1 : Int32) → (∃ k10 : Nat, (((40 : Int32) * x1) + x2) = Int32.ofNat k10 ∧ k10 < 160 ∧ r = (some (z_i 1), (true, X, I, (z_up J 57 0 k10 x3.toInt64))))) ∧ ((I 55 0 k2) = (1 : Int32) → (∃ k14 : Nat, (((40 : Int32) * x1) + x2) = Int32.ofNat k14 ∧ k14 < 160 ∧ r = (some (z_i 1), (true, X, I, (z_up J 57 0 k14 x3.toInt16.toInt32.toInt64))))))) ∧ ((I 55 0 k2) = 0 → (∃ k20 : Nat, (((40 : Int32) * x1) + x2) = Int32.ofNat k20 ∧ k20 < 160 ∧ r = (some (z_i 1), (true, X, I, (z_up J 57 0 k20 x3.toInt8.toInt32.toInt64))))))) ∧ ((z_bw x2 (0 : Int32) ((I 56 0 k2) - (1 : Int32))) = false → r = (some (z_i (-12)), (true, X, I, J))))) ∧ ((I 55 0 k2) < 0 → r = (some (z_i (-11)), (true, X, I, J)))))) ∧ ((z_bw x1 0 3) = false → r = (some (z_i (-1)), (true, X, I, J))))) :
    z_ev (d + 2) (z_en 251 [z_r 33 0, z_i (x1), z_i (x2), z_i (x3)] (true, X, I, J)) r := by
  show z_ev (d + 2) (251, 0, [some (z_r 33 0), some (z_i (x1)), some (z_i (x2)), some (z_i (x3))], [], (true, X, I, J)) r
  refine z_ev_gs 1 (c1 := (251, 1, [some (z_r 33 0), some (z_i (x1)), some (z_i (x2)), some (z_i (x3))], [z_i (x1)], (true, X, I, J))) rfl ?_
  refine z_ev_ca rfl rfl (z_p249 _) ?_
  refine z_ev_gs 1 (c1 := (251, (if ¬ z_c (z_bw x1 0 3) = 0 then 9 else 7), [some (z_r 33 0), some (z_i (x1)), some (z_i (x2)), some (z_i (x3))], [], (true, X, I, J))) rfl ?_
  refine z_ev_ifcn (fun e1 => ?_) (fun e1 => ?_)
  · have h30 := h.1 e1
    refine z_ev_gs 3 (c1 := (251, 14, [some (z_r 33 0), some (z_i (x1)), some (z_i (x2)), some (z_i (x3))], [z_i (x1), z_r 55 0], (true, X, I, J))) rfl ?_
    obtain ⟨k2, e3, e4, h5⟩ := h30
    refine z_ev_iald (t := 55) (i := 0) (k := k2) (n := 4) rfl rfl e3 e4 (by decide) ?_
    refine z_ev_gs 1 (c1 := (251, (if 0 ≤ (I 55 0 k2) then 21 else 18), [some (z_r 33 0), some (z_i (x1)), some (z_i (x2)), some (z_i (x3))], [], (true, X, I, J))) rfl ?_
    refine z_ev_ifle (fun e6 => ?_) (fun e6 => ?_)
    · have h28 := h5.1 e6
      refine z_ev_gs 5 (c1 := (251, 28, [some (z_r 33 0), some (z_i (x1)), some (z_i (x2)), some (z_i (x3))], [z_i (x1), z_r 56 0, z_i 0, z_i (x2)], (true, X, I, J))) rfl ?_
      refine z_ev_iald (t := 56) (i := 0) (k := k2) (n := 4) rfl rfl e3 (Nat.lt_of_lt_of_le e4 (by decide)) (by decide) ?_
      refine z_ev_gs 2 (c1 := (251, 31, [some (z_r 33 0), some (z_i (x1)), some (z_i (x2)), some (z_i (x3))], [z_i ((I 56 0 k2) - (1 : Int32)), z_i 0, z_i (x2)], (true, X, I, J))) rfl ?_
      refine z_ev_ca rfl rfl (z_p158 _ _ _) ?_
      refine z_ev_gs 1 (c1 := (251, (if ¬ z_c (z_bw x2 (0 : Int32) ((I 56 0 k2) - (1 : Int32))) = 0 then 40 else 37), [some (z_r 33 0), some (z_i (x1)), some (z_i (x2)), some (z_i (x3))], [], (true, X, I, J))) rfl ?_
      refine z_ev_ifcn (fun e7 => ?_) (fun e7 => ?_)
      · have h26 := h28.1 e7
        refine z_ev_gs 10 (c1 := (251, 55, [some (z_r 33 0), some (z_i (x1)), some (z_i (x2)), some (z_i (x3))], [z_i (x1), z_r 55 0, z_i (((40 : Int32) * x1) + x2), z_r 57 0], (true, X, I, J))) rfl ?_
        refine z_ev_iald (t := 55) (i := 0) (k := k2) (n := 4) rfl rfl e3 (Nat.lt_of_lt_of_le e4 (by decide)) (by decide) ?_
        refine z_ev_gs 1 (c1 := (251, (if ¬ (I 55 0 k2) = 0 then 65 else 59), [some (z_r 33 0), some (z_i (x1)), some (z_i (x2)), some (z_i (x3))], [z_i (((40 : Int32) * x1) + x2), z_r 57 0], (true, X, I, J))) rfl ?_
        refine z_ev_ifn (fun e8 => ?_) (fun e8 => ?_)
        · have h24 := h26.1 e8
          refine z_ev_gs 3 (c1 := (251, 70, [some (z_r 33 0), some (z_i (x1)), some (z_i (x2)), some (z_i (x3))], [z_i (x1), z_r 55 0, z_i (((40 : Int32) * x1) + x2), z_r 57 0], (true, X, I, J))) rfl ?_
          refine z_ev_iald (t := 55) (i := 0) (k := k2) (n := 4) rfl rfl e3 (Nat.lt_of_lt_of_le e4 (by decide)) (by decide) ?_
          refine z_ev_gs 2 (c1 := (251, (if ¬ (I 55 0 k2) = (1 : Int32) then 81 else 75), [some (z_r 33 0), some (z_i (x1)), some (z_i (x2)), some (z_i (x3))], [z_i (((40 : Int32) * x1) + x2), z_r 57 0], (true, X, I, J))) rfl ?_
          refine z_ev_ifn (fun e9 => ?_) (fun e9 => ?_)
          · have h18 := h24.1 e9
            refine z_ev_gs 2 (c1 := (251, 83, [some (z_r 33 0), some (z_i (x1)), some (z_i (x2)), some (z_i (x3))], [z_j (x3.toInt64), z_i (((40 : Int32) * x1) + x2), z_r 57 0], (true, X, I, J))) rfl ?_
            obtain ⟨k10, e11, e12, h13⟩ := h18
            refine z_ev_last (t := 57) (i := 0) (k := k10) (n := 160) rfl rfl e11 e12 (by decide) ?_
            refine z_ev_gs 1 (c1 := (251, 85, [some (z_r 33 0), some (z_i (x1)), some (z_i (x2)), some (z_i (x3))], [z_i 1], (true, X, I, (z_up J 57 0 k10 x3.toInt64)))) rfl ?_
            rw [h13]
            exact z_ev_rt rfl
          · have h19 := h24.2 e9
            refine z_ev_gs 4 (c1 := (251, 83, [some (z_r 33 0), some (z_i (x1)), some (z_i (x2)), some (z_i (x3))], [z_j (x3.toInt16.toInt32.toInt64), z_i (((40 : Int32) * x1) + x2), z_r 57 0], (true, X, I, J))) rfl ?_
            obtain ⟨k14, e15, e16, h17⟩ := h19
            refine z_ev_last (t := 57) (i := 0) (k := k14) (n := 160) rfl rfl e15 e16 (by decide) ?_
            refine z_ev_gs 1 (c1 := (251, 85, [some (z_r 33 0), some (z_i (x1)), some (z_i (x2)), some (z_i (x3))], [z_i 1], (true, X, I, (z_up J 57 0 k14 x3.toInt16.toInt32.toInt64)))) rfl ?_
            rw [h17]
            exact z_ev_rt rfl
        · have h25 := h26.2 e8
          refine z_ev_gs 4 (c1 := (251, 83, [some (z_r 33 0), some (z_i (x1)), some (z_i (x2)), some (z_i (x3))], [z_j (x3.toInt8.toInt32.toInt64), z_i (((40 : Int32) * x1) + x2), z_r 57 0], (true, X, I, J))) rfl ?_
          obtain ⟨k20, e21, e22, h23⟩ := h25
          refine z_ev_last (t := 57) (i := 0) (k := k20) (n := 160) rfl rfl e21 e22 (by decide) ?_
          refine z_ev_gs 1 (c1 := (251, 85, [some (z_r 33 0), some (z_i (x1)), some (z_i (x2)), some (z_i (x3))], [z_i 1], (true, X, I, (z_up J 57 0 k20 x3.toInt8.toInt32.toInt64)))) rfl ?_
          rw [h23]
          exact z_ev_rt rfl
      · have h27 := h28.2 e7
        refine z_ev_gs 1 (c1 := (251, 39, [some (z_r 33 0), some (z_i (x1)), some (z_i (x2)), some (z_i (x3))], [z_i (-12)], (true, X, I, J))) rfl ?_
        rw [h27]
        exact z_ev_rt rfl
    · have h29 := h5.2 e6
      refine z_ev_gs 1 (c1 := (251, 20, [some (z_r 33 0), some (z_i (x1)), some (z_i (x2)), some (z_i (x3))], [z_i (-11)], (true, X, I, J))) rfl ?_
      rw [h29]
      exact z_ev_rt rfl
  · have h31 := h.2 e1
    refine z_ev_gs 1 (c1 := (251, 8, [some (z_r 33 0), some (z_i (x1)), some (z_i (x2)), some (z_i (x3))], [z_i (-1)], (true, X, I, J))) rfl ?_
    rw [h31]
    exact z_ev_rt rfl
theorem z_q252_e {d : Nat} {r : Option z_V × z_M} {X : z_X} {I : Nat → Nat → Nat → Int32} {J : Nat → Nat → Nat → Int64} (x1 : Int32) (x2 : Int32)
    (h : (∃ k1 : Nat, x1 = Int32.ofNat k1 ∧ k1 < 4 ∧ ((0 ≤ (I 55 0 k1) → (((I 55 0 k1) = x2 → r = (some (z_i 0), (true, X, I, J))) ∧ (¬ (I 55 0 k1) = x2 → r = (some (z_i (-13)), (true, X, I, J))))) ∧ ((I 55 0 k1) < 0 → r = (some (z_i (-11)), (true, X, I, J)))))) :
    z_ev d (z_en 252 [z_r 33 0, z_i (x1), z_i (x2)] (true, X, I, J)) r := by
  show z_ev d (252, 0, [some (z_r 33 0), some (z_i (x1)), some (z_i (x2))], [], (true, X, I, J)) r
  refine z_ev_gs 3 (c1 := (252, 5, [some (z_r 33 0), some (z_i (x1)), some (z_i (x2))], [z_i (x1), z_r 55 0], (true, X, I, J))) rfl ?_
  obtain ⟨k1, e2, e3, h4⟩ := h
  refine z_ev_iald (t := 55) (i := 0) (k := k1) (n := 4) rfl rfl e2 e3 (by decide) ?_
  refine z_ev_gs 1 (c1 := (252, (if 0 ≤ (I 55 0 k1) then 14 else 9), [some (z_r 33 0), some (z_i (x1)), some (z_i (x2))], [], (true, X, I, J))) rfl ?_
  refine z_ev_ifle (fun e5 => ?_) (fun e5 => ?_)
  · have h9 := h4.1 e5
    refine z_ev_gs 3 (c1 := (252, 19, [some (z_r 33 0), some (z_i (x1)), some (z_i (x2))], [z_i (x1), z_r 55 0], (true, X, I, J))) rfl ?_
    refine z_ev_iald (t := 55) (i := 0) (k := k1) (n := 4) rfl rfl e2 (Nat.lt_of_lt_of_le e3 (by decide)) (by decide) ?_
    refine z_ev_gs 2 (c1 := (252, (if (I 55 0 k1) = x2 then 29 else 24), [some (z_r 33 0), some (z_i (x1)), some (z_i (x2))], [], (true, X, I, J))) rfl ?_
    refine z_ev_if (fun e6 => ?_) (fun e6 => ?_)
    · have h7 := h9.1 e6
      refine z_ev_gs 1 (c1 := (252, 30, [some (z_r 33 0), some (z_i (x1)), some (z_i (x2))], [z_i 0], (true, X, I, J))) rfl ?_
      rw [h7]
      exact z_ev_rt rfl
    · have h8 := h9.2 e6
      refine z_ev_gs 2 (c1 := (252, 30, [some (z_r 33 0), some (z_i (x1)), some (z_i (x2))], [z_i (-13)], (true, X, I, J))) rfl ?_
      rw [h8]
      exact z_ev_rt rfl
  · have h10 := h4.2 e5
    refine z_ev_gs 2 (c1 := (252, 30, [some (z_r 33 0), some (z_i (x1)), some (z_i (x2))], [z_i (-11)], (true, X, I, J))) rfl ?_
    rw [h10]
    exact z_ev_rt rfl
theorem z_q110_e {d : Nat} {r : Option z_V × z_M} {X : z_X} {I : Nat → Nat → Nat → Int32} {J : Nat → Nat → Nat → Int64} (x1 : Int32) (x2 : Int32) (x3 : Int32)
    (h : (((z_bw x1 0 3) = false → r = (some (z_i (-1)), (true, X, I, J))) ∧ ((z_bw x1 0 3) = true → (((z_bw x2 0 3) = true → (∃ k3 : Nat, x1 = Int32.ofNat k3 ∧ k3 < 4 ∧ ((¬ (I 30 k3 1) = (-1 : Int32) → (((I 30 k3 1) = x2 → ((x3 < 0 → r = (some (z_i (-12)), (true, X, I, J))) ∧ (0 ≤ x3 → ((x3 < (I 30 k3 2) → (∃ k11 : Nat, x3 = Int32.ofNat k11 ∧ k11 < 40 ∧ r = (some (z_i ((J 31 k3 k11).toInt32)), (true, X, I, J)))) ∧ ((I 30 k3 2) ≤ x3 → r = (some (z_i (-12)), (true, X, I, J))))))) ∧ (¬ (I 30 k3 1) = x2 → r = (some (z_i (-13)), (true, X, I, J))))) ∧ ((I 30 k3 1) = (-1 : Int32) → r = (some (z_i (-11)), (true, X, I, J)))))) ∧ ((z_bw x2 0 3) = false → r = (some (z_i (-1)), (true, X, I, J))))))) :
    z_ev (d + 1) (z_en 110 [z_r 0 0, z_i (x1), z_i (x2), z_i (x3)] (true, X, I, J)) r := by
  show z_ev (d + 1) (110, 0, [some (z_r 0 0), some (z_i (x1)), some (z_i (x2)), some (z_i (x3)), none], [], (true, X, I, J)) r
  refine z_ev_gs 1 (c1 := (110, 1, [some (z_r 0 0), some (z_i (x1)), some (z_i (x2)), some (z_i (x3)), none], [z_i (x1)], (true, X, I, J))) rfl ?_
  refine z_ev_ca rfl rfl (z_p122 _) ?_
  refine z_ev_gs 1 (c1 := (110, (if z_c (z_bw x1 0 3) = 0 then 14 else 7), [some (z_r 0 0), some (z_i (x1)), some (z_i (x2)), some (z_i (x3)), none], [], (true, X, I, J))) rfl ?_
  refine z_ev_ifc (fun e1 => ?_) (fun e1 => ?_)
  · have h25 := h.1 e1
    refine z_ev_gs 1 (c1 := (110, 15, [some (z_r 0 0), some (z_i (x1)), some (z_i (x2)), some (z_i (x3)), none], [z_i (-1)], (true, X, I, J))) rfl ?_
    rw [h25]
    exact z_ev_rt rfl
  · have h26 := h.2 e1
    refine z_ev_gs 1 (c1 := (110, 8, [some (z_r 0 0), some (z_i (x1)), some (z_i (x2)), some (z_i (x3)), none], [z_i (x2)], (true, X, I, J))) rfl ?_
    refine z_ev_ca rfl rfl (z_p123 _) ?_
    refine z_ev_gs 1 (c1 := (110, (if ¬ z_c (z_bw x2 0 3) = 0 then 16 else 14), [some (z_r 0 0), some (z_i (x1)), some (z_i (x2)), some (z_i (x3)), none], [], (true, X, I, J))) rfl ?_
    refine z_ev_ifcn (fun e2 => ?_) (fun e2 => ?_)
    · have h23 := h26.1 e2
      refine z_ev_gs 3 (c1 := (110, 21, [some (z_r 0 0), some (z_i (x1)), some (z_i (x2)), some (z_i (x3)), none], [z_i (x1), z_r 21 0], (true, X, I, J))) rfl ?_
      obtain ⟨k3, e4, e5, h6⟩ := h23
      refine z_ev_sh (k := k3) rfl e4 e5 ?_
      refine z_ev_gs 2 (c1 := (110, 26, [some (z_r 0 0), some (z_i (x1)), some (z_i (x2)), some (z_i (x3)), some (z_r 30 k3)], [z_r 30 k3], (true, X, I, J))) rfl ?_
      refine z_ev_gi (c1 := (110, 29, [some (z_r 0 0), some (z_i (x1)), some (z_i (x2)), some (z_i (x3)), some (z_r 30 k3)], [z_i (I 30 k3 1)], (true, X, I, J))) rfl e5 ?_
      refine z_ev_gs 2 (c1 := (110, (if ¬ (I 30 k3 1) = (-1 : Int32) then 36 else 33), [some (z_r 0 0), some (z_i (x1)), some (z_i (x2)), some (z_i (x3)), some (z_r 30 k3)], [], (true, X, I, J))) rfl ?_
      refine z_ev_ifn (fun e7 => ?_) (fun e7 => ?_)
      · have h21 := h6.1 e7
        refine z_ev_gs 1 (c1 := (110, 38, [some (z_r 0 0), some (z_i (x1)), some (z_i (x2)), some (z_i (x3)), some (z_r 30 k3)], [z_r 30 k3], (true, X, I, J))) rfl ?_
        refine z_ev_gi (c1 := (110, 41, [some (z_r 0 0), some (z_i (x1)), some (z_i (x2)), some (z_i (x3)), some (z_r 30 k3)], [z_i (I 30 k3 1)], (true, X, I, J))) rfl e5 ?_
        refine z_ev_gs 2 (c1 := (110, (if (I 30 k3 1) = x2 then 48 else 45), [some (z_r 0 0), some (z_i (x1)), some (z_i (x2)), some (z_i (x3)), some (z_r 30 k3)], [], (true, X, I, J))) rfl ?_
        refine z_ev_if (fun e8 => ?_) (fun e8 => ?_)
        · have h19 := h21.1 e8
          refine z_ev_gs 2 (c1 := (110, (if x3 < 0 then 61 else 52), [some (z_r 0 0), some (z_i (x1)), some (z_i (x2)), some (z_i (x3)), some (z_r 30 k3)], [], (true, X, I, J))) rfl ?_
          refine z_ev_iflt (fun e9 => ?_) (fun e9 => ?_)
          · have h17 := h19.1 e9
            refine z_ev_gs 2 (c1 := (110, 74, [some (z_r 0 0), some (z_i (x1)), some (z_i (x2)), some (z_i (x3)), some (z_r 30 k3)], [z_i (-12)], (true, X, I, J))) rfl ?_
            rw [h17]
            exact z_ev_rt rfl
          · have h18 := h19.2 e9
            refine z_ev_gs 2 (c1 := (110, 55, [some (z_r 0 0), some (z_i (x1)), some (z_i (x2)), some (z_i (x3)), some (z_r 30 k3)], [z_r 30 k3, z_i (x3)], (true, X, I, J))) rfl ?_
            refine z_ev_gi (c1 := (110, 58, [some (z_r 0 0), some (z_i (x1)), some (z_i (x2)), some (z_i (x3)), some (z_r 30 k3)], [z_i (I 30 k3 2), z_i (x3)], (true, X, I, J))) rfl e5 ?_
            refine z_ev_gs 1 (c1 := (110, (if x3 < (I 30 k3 2) then 66 else 61), [some (z_r 0 0), some (z_i (x1)), some (z_i (x2)), some (z_i (x3)), some (z_r 30 k3)], [], (true, X, I, J))) rfl ?_
            refine z_ev_iflt (fun e10 => ?_) (fun e10 => ?_)
            · have h15 := h18.1 e10
              refine z_ev_gs 1 (c1 := (110, 68, [some (z_r 0 0), some (z_i (x1)), some (z_i (x2)), some (z_i (x3)), some (z_r 30 k3)], [z_r 30 k3], (true, X, I, J))) rfl ?_
              refine z_ev_gi (c1 := (110, 71, [some (z_r 0 0), some (z_i (x1)), some (z_i (x2)), some (z_i (x3)), some (z_r 30 k3)], [z_r 31 k3], (true, X, I, J))) rfl e5 ?_
              refine z_ev_gs 1 (c1 := (110, 72, [some (z_r 0 0), some (z_i (x1)), some (z_i (x2)), some (z_i (x3)), some (z_r 30 k3)], [z_i (x3), z_r 31 k3], (true, X, I, J))) rfl ?_
              obtain ⟨k11, e12, e13, h14⟩ := h15
              refine z_ev_lald (t := 31) (i := k3) (k := k11) (n := 40) rfl (z_gt e5) e12 e13 (by decide) ?_
              refine z_ev_gs 1 (c1 := (110, 74, [some (z_r 0 0), some (z_i (x1)), some (z_i (x2)), some (z_i (x3)), some (z_r 30 k3)], [z_i ((J 31 k3 k11).toInt32)], (true, X, I, J))) rfl ?_
              rw [h14]
              exact z_ev_rt rfl
            · have h16 := h18.2 e10
              refine z_ev_gs 2 (c1 := (110, 74, [some (z_r 0 0), some (z_i (x1)), some (z_i (x2)), some (z_i (x3)), some (z_r 30 k3)], [z_i (-12)], (true, X, I, J))) rfl ?_
              rw [h16]
              exact z_ev_rt rfl
        · have h20 := h21.2 e8
          refine z_ev_gs 1 (c1 := (110, 47, [some (z_r 0 0), some (z_i (x1)), some (z_i (x2)), some (z_i (x3)), some (z_r 30 k3)], [z_i (-13)], (true, X, I, J))) rfl ?_
          rw [h20]
          exact z_ev_rt rfl
      · have h22 := h6.2 e7
        refine z_ev_gs 1 (c1 := (110, 35, [some (z_r 0 0), some (z_i (x1)), some (z_i (x2)), some (z_i (x3)), some (z_r 30 k3)], [z_i (-11)], (true, X, I, J))) rfl ?_
        rw [h22]
        exact z_ev_rt rfl
    · have h24 := h26.2 e2
      refine z_ev_gs 1 (c1 := (110, 15, [some (z_r 0 0), some (z_i (x1)), some (z_i (x2)), some (z_i (x3)), none], [z_i (-1)], (true, X, I, J))) rfl ?_
      rw [h24]
      exact z_ev_rt rfl
theorem z_q253_e {d : Nat} {r : Option z_V × z_M} {X : z_X} {I : Nat → Nat → Nat → Int32} {J : Nat → Nat → Nat → Int64} (x1 : Int32) (x2 : Int32) (x3 : Int32)
    (h : (((z_bw x1 0 3) = false → r = (some (z_i (-1)), (true, X, I, J))) ∧ ((z_bw x1 0 3) = true → (((z_bw x2 (0 : Int32) (3 : Int32)) = true → (∃ (v8 : Int32) (X3 : z_X) (I4 : Nat → Nat → Nat → Int32) (J5 : Nat → Nat → Nat → Int64), z_ev (d + 1) (z_en 252 [z_r 33 0, z_i (x1), z_i (x2)] (true, X, I, J)) (some (z_i (v8)), (true, X3, I4, J5)) ∧ ((v8 = 0 → (∃ k10 : Nat, x1 = Int32.ofNat k10 ∧ k10 < 4 ∧ (((z_bw x3 (0 : Int32) ((I4 56 0 k10) - (1 : Int32))) = false → r = (some (z_i (-12)), (true, X3, I4, J5))) ∧ ((z_bw x3 (0 : Int32) ((I4 56 0 k10) - (1 : Int32))) = true → (∃ k15 : Nat, (((40 : Int32) * x1) + x3) = Int32.ofNat k15 ∧ k15 < 160 ∧ r = (some (z_i ((J5 57 0 k15).toInt32)), (true, X3, I4, J5))))))) ∧ (¬ v8 = 0 → r = (some (z_i (v8)), (true, X3, I4, J5)))))) ∧ ((z_bw x2 (0 : Int32) (3 : Int32)) = false → r = (some (z_i (-1)), (true, X, I, J))))))) :
    z_ev (d + 2) (z_en 253 [z_r 33 0, z_i (x1), z_i (x2), z_i (x3)] (true, X, I, J)) r := by
  show z_ev (d + 2) (253, 0, [some (z_r 33 0), some (z_i (x1)), some (z_i (x2)), some (z_i (x3)), none], [], (true, X, I, J)) r
  refine z_ev_gs 1 (c1 := (253, 1, [some (z_r 33 0), some (z_i (x1)), some (z_i (x2)), some (z_i (x3)), none], [z_i (x1)], (true, X, I, J))) rfl ?_
  refine z_ev_ca rfl rfl (z_p249 _) ?_
  refine z_ev_gs 1 (c1 := (253, (if z_c (z_bw x1 0 3) = 0 then 16 else 7), [some (z_r 33 0), some (z_i (x1)), some (z_i (x2)), some (z_i (x3)), none], [], (true, X, I, J))) rfl ?_
  refine z_ev_ifc (fun e1 => ?_) (fun e1 => ?_)
  · have h25 := h.1 e1
    refine z_ev_gs 1 (c1 := (253, 17, [some (z_r 33 0), some (z_i (x1)), some (z_i (x2)), some (z_i (x3)), none], [z_i (-1)], (true, X, I, J))) rfl ?_
    rw [h25]
    exact z_ev_rt rfl
  · have h26 := h.2 e1
    refine z_ev_gs 3 (c1 := (253, 10, [some (z_r 33 0), some (z_i (x1)), some (z_i (x2)), some (z_i (x3)), none], [z_i 3, z_i 0, z_i (x2)], (true, X, I, J))) rfl ?_
    refine z_ev_ca rfl rfl (z_p158 _ _ _) ?_
    refine z_ev_gs 1 (c1 := (253, (if ¬ z_c (z_bw x2 (0 : Int32) (3 : Int32)) = 0 then 18 else 16), [some (z_r 33 0), some (z_i (x1)), some (z_i (x2)), some (z_i (x3)), none], [], (true, X, I, J))) rfl ?_
    refine z_ev_ifcn (fun e2 => ?_) (fun e2 => ?_)
    · have h23 := h26.1 e2
      refine z_ev_gs 3 (c1 := (253, 21, [some (z_r 33 0), some (z_i (x1)), some (z_i (x2)), some (z_i (x3)), none], [z_i (x2), z_i (x1), z_r 33 0], (true, X, I, J))) rfl ?_
      obtain ⟨v8, X3, I4, J5, g6, h7⟩ := h23
      refine z_ev_ca rfl rfl g6 ?_
      refine z_ev_gs 3 (c1 := (253, (if v8 = 0 then 34 else 31), [some (z_r 33 0), some (z_i (x1)), some (z_i (x2)), some (z_i (x3)), some (z_i (v8))], [], (true, X3, I4, J5))) rfl ?_
      refine z_ev_if (fun e9 => ?_) (fun e9 => ?_)
      · have h21 := h7.1 e9
        refine z_ev_gs 5 (c1 := (253, 41, [some (z_r 33 0), some (z_i (x1)), some (z_i (x2)), some (z_i (x3)), some (z_i (v8))], [z_i (x1), z_r 56 0, z_i 0, z_i (x3)], (true, X3, I4, J5))) rfl ?_
        obtain ⟨k10, e11, e12, h13⟩ := h21
        refine z_ev_iald (t := 56) (i := 0) (k := k10) (n := 4) rfl rfl e11 e12 (by decide) ?_
        refine z_ev_gs 2 (c1 := (253, 44, [some (z_r 33 0), some (z_i (x1)), some (z_i (x2)), some (z_i (x3)), some (z_i (v8))], [z_i ((I4 56 0 k10) - (1 : Int32)), z_i 0, z_i (x3)], (true, X3, I4, J5))) rfl ?_
        refine z_ev_ca rfl rfl (z_p158 _ _ _) ?_
        refine z_ev_gs 1 (c1 := (253, (if z_c (z_bw x3 (0 : Int32) ((I4 56 0 k10) - (1 : Int32))) = 0 then 65 else 50), [some (z_r 33 0), some (z_i (x1)), some (z_i (x2)), some (z_i (x3)), some (z_i (v8))], [], (true, X3, I4, J5))) rfl ?_
        refine z_ev_ifc (fun e14 => ?_) (fun e14 => ?_)
        · have h19 := h13.1 e14
          refine z_ev_gs 1 (c1 := (253, 67, [some (z_r 33 0), some (z_i (x1)), some (z_i (x2)), some (z_i (x3)), some (z_i (v8))], [z_i (-12)], (true, X3, I4, J5))) rfl ?_
          rw [h19]
          exact z_ev_rt rfl
        · have h20 := h13.2 e14
          refine z_ev_gs 7 (c1 := (253, 60, [some (z_r 33 0), some (z_i (x1)), some (z_i (x2)), some (z_i (x3)), some (z_i (v8))], [z_i (((40 : Int32) * x1) + x3), z_r 57 0], (true, X3, I4, J5))) rfl ?_
          obtain ⟨k15, e16, e17, h18⟩ := h20
          refine z_ev_lald (t := 57) (i := 0) (k := k15) (n := 160) rfl rfl e16 e17 (by decide) ?_
          refine z_ev_gs 2 (c1 := (253, 67, [some (z_r 33 0), some (z_i (x1)), some (z_i (x2)), some (z_i (x3)), some (z_i (v8))], [z_i ((J5 57 0 k15).toInt32)], (true, X3, I4, J5))) rfl ?_
          rw [h18]
          exact z_ev_rt rfl
      · have h22 := h7.2 e9
        refine z_ev_gs 1 (c1 := (253, 33, [some (z_r 33 0), some (z_i (x1)), some (z_i (x2)), some (z_i (x3)), some (z_i (v8))], [z_i (v8)], (true, X3, I4, J5))) rfl ?_
        rw [h22]
        exact z_ev_rt rfl
    · have h24 := h26.2 e2
      refine z_ev_gs 1 (c1 := (253, 17, [some (z_r 33 0), some (z_i (x1)), some (z_i (x2)), some (z_i (x3)), none], [z_i (-1)], (true, X, I, J))) rfl ?_
      rw [h24]
      exact z_ev_rt rfl
theorem z_q154_e {d : Nat} {r : Option z_V × z_M} {X : z_X} {I : Nat → Nat → Nat → Int32} {J : Nat → Nat → Nat → Int64} (x1 : Int32) (x2 : Int32) (x3 : Int32)
    (h : (∃ k1 : Nat, x1 = Int32.ofNat k1 ∧ k1 < 4 ∧ r = (some (z_i 1), (true, X, (z_up (z_up I 22 0 k1 x2) 23 0 k1 x3), J)))) :
    z_ev d (z_en 154 [z_r 0 0, z_i (x1), z_i (x2), z_i (x3)] (true, X, I, J)) r := by
  show z_ev d (154, 0, [some (z_r 0 0), some (z_i (x1)), some (z_i (x2)), some (z_i (x3))], [], (true, X, I, J)) r
  refine z_ev_gs 4 (c1 := (154, 6, [some (z_r 0 0), some (z_i (x1)), some (z_i (x2)), some (z_i (x3))], [z_i (x2), z_i (x1), z_r 22 0], (true, X, I, J))) rfl ?_
  obtain ⟨k1, e2, e3, h4⟩ := h
  refine z_ev_iast (t := 22) (i := 0) (k := k1) (n := 4) rfl rfl e2 e3 (by decide) ?_
  refine z_ev_gs 4 (c1 := (154, 13, [some (z_r 0 0), some (z_i (x1)), some (z_i (x2)), some (z_i (x3))], [z_i (x3), z_i (x1), z_r 23 0], (true, X, (z_up I 22 0 k1 x2), J))) rfl ?_
  refine z_ev_iast (t := 23) (i := 0) (k := k1) (n := 4) rfl rfl e2 (Nat.lt_of_lt_of_le e3 (by decide)) (by decide) ?_
  refine z_ev_gs 1 (c1 := (154, 15, [some (z_r 0 0), some (z_i (x1)), some (z_i (x2)), some (z_i (x3))], [z_i 1], (true, X, (z_up (z_up I 22 0 k1 x2) 23 0 k1 x3), J))) rfl ?_
  rw [h4]
  exact z_ev_rt rfl
theorem z_q254_e {d : Nat} {r : Option z_V × z_M} {X : z_X} {I : Nat → Nat → Nat → Int32} {J : Nat → Nat → Nat → Int64} (x1 : Int32) (x2 : Int32)
    (h : ((¬ x1 = 0 → ((¬ x1 = (1 : Int32) → ((¬ x1 = (2 : Int32) → r = (some (z_i 0), (true, X, I, J))) ∧ (x1 = (2 : Int32) → r = (some (z_i 1), (true, X, I, J))))) ∧ (x1 = (1 : Int32) → r = (some (z_i (z_c (z_bw x2 0 3))), (true, X, I, J))))) ∧ (x1 = 0 → r = (some (z_i (z_c (z_bw x2 0 ((I 33 0 8) - 1)))), (true, X, I, J))))) :
    z_ev (d + 2) (z_en 254 [z_r 33 0, z_i (x1), z_i (x2)] (true, X, I, J)) r := by
  show z_ev (d + 2) (254, 0, [some (z_r 33 0), some (z_i (x1)), some (z_i (x2))], [], (true, X, I, J)) r
  refine z_ev_gs 2 (c1 := (254, (if ¬ x1 = 0 then 12 else 4), [some (z_r 33 0), some (z_i (x1)), some (z_i (x2))], [], (true, X, I, J))) rfl ?_
  refine z_ev_ifn (fun e1 => ?_) (fun e1 => ?_)
  · have h8 := h.1 e1
    refine z_ev_gs 3 (c1 := (254, (if ¬ x1 = (1 : Int32) then 24 else 17), [some (z_r 33 0), some (z_i (x1)), some (z_i (x2))], [], (true, X, I, J))) rfl ?_
    refine z_ev_ifn (fun e2 => ?_) (fun e2 => ?_)
    · have h6 := h8.1 e2
      refine z_ev_gs 3 (c1 := (254, (if ¬ x1 = (2 : Int32) then 33 else 29), [some (z_r 33 0), some (z_i (x1)), some (z_i (x2))], [], (true, X, I, J))) rfl ?_
      refine z_ev_ifn (fun e3 => ?_) (fun e3 => ?_)
      · have h4 := h6.1 e3
        refine z_ev_gs 1 (c1 := (254, 34, [some (z_r 33 0), some (z_i (x1)), some (z_i (x2))], [z_i 0], (true, X, I, J))) rfl ?_
        rw [h4]
        exact z_ev_rt rfl
      · have h5 := h6.2 e3
        refine z_ev_gs 2 (c1 := (254, 34, [some (z_r 33 0), some (z_i (x1)), some (z_i (x2))], [z_i 1], (true, X, I, J))) rfl ?_
        rw [h5]
        exact z_ev_rt rfl
    · have h7 := h8.2 e2
      refine z_ev_gs 1 (c1 := (254, 18, [some (z_r 33 0), some (z_i (x1)), some (z_i (x2))], [z_i (x2)], (true, X, I, J))) rfl ?_
      refine z_ev_ca rfl rfl (z_p249 _) ?_
      refine z_ev_gs 1 (c1 := (254, 34, [some (z_r 33 0), some (z_i (x1)), some (z_i (x2))], [z_i (z_c (z_bw x2 0 3))], (true, X, I, J))) rfl ?_
      rw [h7]
      exact z_ev_rtb rfl
  · have h9 := h.2 e1
    refine z_ev_gs 2 (c1 := (254, 6, [some (z_r 33 0), some (z_i (x1)), some (z_i (x2))], [z_i (x2), z_r 33 0], (true, X, I, J))) rfl ?_
    refine z_ev_ca rfl rfl (z_p228 _) ?_
    refine z_ev_gs 1 (c1 := (254, 34, [some (z_r 33 0), some (z_i (x1)), some (z_i (x2))], [z_i (z_c (z_bw x2 0 ((I 33 0 8) - 1)))], (true, X, I, J))) rfl ?_
    rw [h9]
    exact z_ev_rtb rfl
theorem z_q111_e {d : Nat} {r : Option z_V × z_M} {X : z_X} {I : Nat → Nat → Nat → Int32} {J : Nat → Nat → Nat → Int64} (x1 : Int32) (x2 : Int32) (x3 : Int32)
    (h : (((z_bw x1 0 3) = true → ((¬ x2 = 0 → ((¬ x2 = (1 : Int32) → ((¬ x2 = (2 : Int32) → r = (some (z_i (-1)), (true, X, I, J))) ∧ (x2 = (2 : Int32) → (∃ (v10 : Int32) (X5 : z_X) (I6 : Nat → Nat → Nat → Int32) (J7 : Nat → Nat → Nat → Int64), z_ev d (z_en 154 [z_r 0 0, z_i (x1), z_i (-1), z_i 0] (true, X, I, J)) (some (z_i (v10)), (true, X5, I6, J7)) ∧ r = (some (z_i (v10)), (true, X5, I6, J7)))))) ∧ (x2 = (1 : Int32) → (((z_bw x3 0 3) = false → r = (some (z_i (-1)), (true, X, I, J))) ∧ ((z_bw x3 0 3) = true → (∃ k14 : Nat, x3 = Int32.ofNat k14 ∧ k14 < 4 ∧ ((¬ (I 30 k14 1) = (-1 : Int32) → (∃ (v24 : Int32) (X19 : z_X) (I20 : Nat → Nat → Nat → Int32) (J21 : Nat → Nat → Nat → Int64), z_ev d (z_en 154 [z_r 0 0, z_i (x1), z_i ((10 : Int32) + (I 30 k14 1)), z_i (I 30 k14 2)] (true, X, I, J)) (some (z_i (v24)), (true, X19, I20, J21)) ∧ r = (some (z_i (v24)), (true, X19, I20, J21)))) ∧ ((I 30 k14 1) = (-1 : Int32) → (∃ (v30 : Int32) (X25 : z_X) (I26 : Nat → Nat → Nat → Int32) (J27 : Nat → Nat → Nat → Int64), z_ev d (z_en 154 [z_r 0 0, z_i (x1), z_i (-1), z_i (I 30 k14 2)] (true, X, I, J)) (some (z_i (v30)), (true, X25, I26, J27)) ∧ r = (some (z_i (v30)), (true, X25, I26, J27))))))))))) ∧ (x2 = 0 → (((z_lt0 x3 (I 1 0 5)) = false → r = (some (z_i (-1)), (true, X, I, J))) ∧ ((z_lt0 x3 (I 1 0 5)) = true → (∃ (v43 : Int32) (X38 : z_X) (I39 : Nat → Nat → Nat → Int32) (J40 : Nat → Nat → Nat → Int64), z_ev d (z_en 154 [z_r 0 0, z_i (x1), z_i 0, z_i (x3)] (true, X, I, J)) (some (z_i (v43)), (true, X38, I39, J40)) ∧ r = (some (z_i (v43)), (true, X38, I39, J40)))))))) ∧ ((z_bw x1 0 3) = false → r = (some (z_i (-1)), (true, X, I, J))))) :
    z_ev (d + 1) (z_en 111 [z_r 0 0, z_i (x1), z_i (x2), z_i (x3)] (true, X, I, J)) r := by
  show z_ev (d + 1) (111, 0, [some (z_r 0 0), some (z_i (x1)), some (z_i (x2)), some (z_i (x3)), none], [], (true, X, I, J)) r
  refine z_ev_gs 1 (c1 := (111, 1, [some (z_r 0 0), some (z_i (x1)), some (z_i (x2)), some (z_i (x3)), none], [z_i (x1)], (true, X, I, J))) rfl ?_
  refine z_ev_ca rfl rfl (z_p124 _) ?_
  refine z_ev_gs 1 (c1 := (111, (if ¬ z_c (z_bw x1 0 3) = 0 then 9 else 7), [some (z_r 0 0), some (z_i (x1)), some (z_i (x2)), some (z_i (x3)), none], [], (true, X, I, J))) rfl ?_
  refine z_ev_ifcn (fun e1 => ?_) (fun e1 => ?_)
  · have h48 := h.1 e1
    refine z_ev_gs 2 (c1 := (111, (if ¬ x2 = 0 then 29 else 13), [some (z_r 0 0), some (z_i (x1)), some (z_i (x2)), some (z_i (x3)), none], [], (true, X, I, J))) rfl ?_
    refine z_ev_ifn (fun e2 => ?_) (fun e2 => ?_)
    · have h46 := h48.1 e2
      refine z_ev_gs 3 (c1 := (111, (if ¬ x2 = (1 : Int32) then 81 else 34), [some (z_r 0 0), some (z_i (x1)), some (z_i (x2)), some (z_i (x3)), none], [], (true, X, I, J))) rfl ?_
      refine z_ev_ifn (fun e3 => ?_) (fun e3 => ?_)
      · have h35 := h46.1 e3
        refine z_ev_gs 3 (c1 := (111, (if ¬ x2 = (2 : Int32) then 96 else 86), [some (z_r 0 0), some (z_i (x1)), some (z_i (x2)), some (z_i (x3)), none], [], (true, X, I, J))) rfl ?_
        refine z_ev_ifn (fun e4 => ?_) (fun e4 => ?_)
        · have h11 := h35.1 e4
          refine z_ev_gs 1 (c1 := (111, 97, [some (z_r 0 0), some (z_i (x1)), some (z_i (x2)), some (z_i (x3)), none], [z_i (-1)], (true, X, I, J))) rfl ?_
          rw [h11]
          exact z_ev_rt rfl
        · have h12 := h35.2 e4
          refine z_ev_gs 4 (c1 := (111, 90, [some (z_r 0 0), some (z_i (x1)), some (z_i (x2)), some (z_i (x3)), none], [z_i 0, z_i (-1), z_i (x1), z_r 0 0], (true, X, I, J))) rfl ?_
          obtain ⟨v10, X5, I6, J7, g8, h9⟩ := h12
          refine z_ev_ca rfl rfl g8 ?_
          refine z_ev_gs 1 (c1 := (111, 97, [some (z_r 0 0), some (z_i (x1)), some (z_i (x2)), some (z_i (x3)), none], [z_i (v10)], (true, X5, I6, J7))) rfl ?_
          rw [h9]
          exact z_ev_rt rfl
      · have h36 := h46.2 e3
        refine z_ev_gs 1 (c1 := (111, 35, [some (z_r 0 0), some (z_i (x1)), some (z_i (x2)), some (z_i (x3)), none], [z_i (x3)], (true, X, I, J))) rfl ?_
        refine z_ev_ca rfl rfl (z_p122 _) ?_
        refine z_ev_gs 1 (c1 := (111, (if z_c (z_bw x3 0 3) = 0 then 81 else 41), [some (z_r 0 0), some (z_i (x1)), some (z_i (x2)), some (z_i (x3)), none], [], (true, X, I, J))) rfl ?_
        refine z_ev_ifc (fun e13 => ?_) (fun e13 => ?_)
        · have h33 := h36.1 e13
          refine z_ev_gs 3 (c1 := (111, (if ¬ x2 = (2 : Int32) then 96 else 86), [some (z_r 0 0), some (z_i (x1)), some (z_i (x2)), some (z_i (x3)), none], [], (true, X, I, J))) rfl ?_
          rw [if_pos (fun q8 => absurd (e3.symm.trans q8) (by decide))]
          refine z_ev_gs 1 (c1 := (111, 97, [some (z_r 0 0), some (z_i (x1)), some (z_i (x2)), some (z_i (x3)), none], [z_i (-1)], (true, X, I, J))) rfl ?_
          rw [h33]
          exact z_ev_rt rfl
        · have h34 := h36.2 e13
          refine z_ev_gs 3 (c1 := (111, 46, [some (z_r 0 0), some (z_i (x1)), some (z_i (x2)), some (z_i (x3)), none], [z_i (x3), z_r 21 0], (true, X, I, J))) rfl ?_
          obtain ⟨k14, e15, e16, h17⟩ := h34
          refine z_ev_sh (k := k14) rfl e15 e16 ?_
          refine z_ev_gs 4 (c1 := (111, 53, [some (z_r 0 0), some (z_i (x1)), some (z_i (x2)), some (z_i (x3)), some (z_r 30 k14)], [z_r 30 k14, z_i (x1), z_r 0 0], (true, X, I, J))) rfl ?_
          refine z_ev_gi (c1 := (111, 56, [some (z_r 0 0), some (z_i (x1)), some (z_i (x2)), some (z_i (x3)), some (z_r 30 k14)], [z_i (I 30 k14 1), z_i (x1), z_r 0 0], (true, X, I, J))) rfl e16 ?_
          refine z_ev_gs 2 (c1 := (111, (if ¬ (I 30 k14 1) = (-1 : Int32) then 64 else 60), [some (z_r 0 0), some (z_i (x1)), some (z_i (x2)), some (z_i (x3)), some (z_r 30 k14)], [z_i (x1), z_r 0 0], (true, X, I, J))) rfl ?_
          refine z_ev_ifn (fun e18 => ?_) (fun e18 => ?_)
          · have h31 := h17.1 e18
            refine z_ev_gs 2 (c1 := (111, 68, [some (z_r 0 0), some (z_i (x1)), some (z_i (x2)), some (z_i (x3)), some (z_r 30 k14)], [z_r 30 k14, z_i 10, z_i (x1), z_r 0 0], (true, X, I, J))) rfl ?_
            refine z_ev_gi (c1 := (111, 71, [some (z_r 0 0), some (z_i (x1)), some (z_i (x2)), some (z_i (x3)), some (z_r 30 k14)], [z_i (I 30 k14 1), z_i 10, z_i (x1), z_r 0 0], (true, X, I, J))) rfl e16 ?_
            refine z_ev_gs 2 (c1 := (111, 74, [some (z_r 0 0), some (z_i (x1)), some (z_i (x2)), some (z_i (x3)), some (z_r 30 k14)], [z_r 30 k14, z_i ((10 : Int32) + (I 30 k14 1)), z_i (x1), z_r 0 0], (true, X, I, J))) rfl ?_
            refine z_ev_gi (c1 := (111, 77, [some (z_r 0 0), some (z_i (x1)), some (z_i (x2)), some (z_i (x3)), some (z_r 30 k14)], [z_i (I 30 k14 2), z_i ((10 : Int32) + (I 30 k14 1)), z_i (x1), z_r 0 0], (true, X, I, J))) rfl e16 ?_
            obtain ⟨v24, X19, I20, J21, g22, h23⟩ := h31
            refine z_ev_ca rfl rfl g22 ?_
            rw [h23]
            exact z_ev_rt rfl
          · have h32 := h17.2 e18
            refine z_ev_gs 3 (c1 := (111, 74, [some (z_r 0 0), some (z_i (x1)), some (z_i (x2)), some (z_i (x3)), some (z_r 30 k14)], [z_r 30 k14, z_i (-1), z_i (x1), z_r 0 0], (true, X, I, J))) rfl ?_
            refine z_ev_gi (c1 := (111, 77, [some (z_r 0 0), some (z_i (x1)), some (z_i (x2)), some (z_i (x3)), some (z_r 30 k14)], [z_i (I 30 k14 2), z_i (-1), z_i (x1), z_r 0 0], (true, X, I, J))) rfl e16 ?_
            obtain ⟨v30, X25, I26, J27, g28, h29⟩ := h32
            refine z_ev_ca rfl rfl g28 ?_
            rw [h29]
            exact z_ev_rt rfl
    · have h47 := h48.2 e2
      refine z_ev_gs 2 (c1 := (111, 15, [some (z_r 0 0), some (z_i (x1)), some (z_i (x2)), some (z_i (x3)), none], [z_i (x3), z_r 0 0], (true, X, I, J))) rfl ?_
      refine z_ev_ca rfl rfl (z_p120 _) ?_
      refine z_ev_gs 1 (c1 := (111, (if z_c (z_lt0 x3 (I 1 0 5)) = 0 then 29 else 21), [some (z_r 0 0), some (z_i (x1)), some (z_i (x2)), some (z_i (x3)), none], [], (true, X, I, J))) rfl ?_
      refine z_ev_ifc (fun e37 => ?_) (fun e37 => ?_)
      · have h44 := h47.1 e37
        refine z_ev_gs 3 (c1 := (111, (if ¬ x2 = (1 : Int32) then 81 else 34), [some (z_r 0 0), some (z_i (x1)), some (z_i (x2)), some (z_i (x3)), none], [], (true, X, I, J))) rfl ?_
        rw [if_pos (fun q8 => absurd (e2.symm.trans q8) (by decide))]
        refine z_ev_gs 3 (c1 := (111, (if ¬ x2 = (2 : Int32) then 96 else 86), [some (z_r 0 0), some (z_i (x1)), some (z_i (x2)), some (z_i (x3)), none], [], (true, X, I, J))) rfl ?_
        rw [if_pos (fun q8 => absurd (e2.symm.trans q8) (by decide))]
        refine z_ev_gs 1 (c1 := (111, 97, [some (z_r 0 0), some (z_i (x1)), some (z_i (x2)), some (z_i (x3)), none], [z_i (-1)], (true, X, I, J))) rfl ?_
        rw [h44]
        exact z_ev_rt rfl
      · have h45 := h47.2 e37
        refine z_ev_gs 4 (c1 := (111, 25, [some (z_r 0 0), some (z_i (x1)), some (z_i (x2)), some (z_i (x3)), none], [z_i (x3), z_i 0, z_i (x1), z_r 0 0], (true, X, I, J))) rfl ?_
        obtain ⟨v43, X38, I39, J40, g41, h42⟩ := h45
        refine z_ev_ca rfl rfl g41 ?_
        rw [h42]
        exact z_ev_rt rfl
  · have h49 := h.2 e1
    refine z_ev_gs 1 (c1 := (111, 8, [some (z_r 0 0), some (z_i (x1)), some (z_i (x2)), some (z_i (x3)), none], [z_i (-1)], (true, X, I, J))) rfl ?_
    rw [h49]
    exact z_ev_rt rfl
theorem z_q255_e {d : Nat} {r : Option z_V × z_M} {X : z_X} {I : Nat → Nat → Nat → Int32} {J : Nat → Nat → Nat → Int64} (x1 : Int32) (x2 : Int32) (x3 : Int32)
    (h : (((z_bw x1 0 3) = false → r = (some (z_i (-1)), (true, X, I, J))) ∧ ((z_bw x1 0 3) = true → (∃ (b7 : Bool) (X2 : z_X) (I3 : Nat → Nat → Nat → Int32) (J4 : Nat → Nat → Nat → Int64), z_ev (d + 2) (z_en 254 [z_r 33 0, z_i (x2), z_i (x3)] (true, X, I, J)) (some (z_i (z_c b7)), (true, X2, I3, J4)) ∧ ((b7 = true → ((x2 = (2 : Int32) → (∃ k10 : Nat, x1 = Int32.ofNat k10 ∧ k10 < 4 ∧ r = (some (z_i 1), (true, X2, (z_up (z_up (z_up I3 58 0 k10 (-1 : Int32)) 59 0 k10 x3) 60 0 k10 (0 : Int32)), J4)))) ∧ (¬ x2 = (2 : Int32) → ((¬ x2 = (1 : Int32) → (∃ k15 : Nat, x1 = Int32.ofNat k15 ∧ k15 < 4 ∧ r = (some (z_i 1), (true, X2, (z_up (z_up (z_up I3 58 0 k15 x2) 59 0 k15 x3) 60 0 k15 (0 : Int32)), J4)))) ∧ (x2 = (1 : Int32) → (∃ k19 : Nat, x3 = Int32.ofNat k19 ∧ k19 < 4 ∧ ((0 ≤ (I3 55 0 k19) → (∃ k24 : Nat, x1 = Int32.ofNat k24 ∧ k24 < 4 ∧ r = (some (z_i 1), (true, X2, (z_up (z_up (z_up I3 58 0 k24 x2) 59 0 k24 (I3 55 0 k19)) 60 0 k24 (I3 56 0 k19)), J4)))) ∧ ((I3 55 0 k19) < 0 → (∃ k28 : Nat, x1 = Int32.ofNat k28 ∧ k28 < 4 ∧ r = (some (z_i 1), (true, X2, (z_up (z_up (z_up I3 58 0 k28 (-1 : Int32)) 59 0 k28 (I3 55 0 k19)) 60 0 k28 (I3 56 0 k19)), J4))))))))))) ∧ (b7 = false → r = (some (z_i (-1)), (true, X2, I3, J4)))))))) :
    z_ev (d + 3) (z_en 255 [z_r 33 0, z_i (x1), z_i (x2), z_i (x3)] (true, X, I, J)) r := by
  show z_ev (d + 3) (255, 0, [some (z_r 33 0), some (z_i (x1)), some (z_i (x2)), some (z_i (x3))], [], (true, X, I, J)) r
  refine z_ev_gs 1 (c1 := (255, 1, [some (z_r 33 0), some (z_i (x1)), some (z_i (x2)), some (z_i (x3))], [z_i (x1)], (true, X, I, J))) rfl ?_
  refine z_ev_ca rfl rfl (z_p249 _) ?_
  refine z_ev_gs 1 (c1 := (255, (if z_c (z_bw x1 0 3) = 0 then 16 else 7), [some (z_r 33 0), some (z_i (x1)), some (z_i (x2)), some (z_i (x3))], [], (true, X, I, J))) rfl ?_
  refine z_ev_ifc (fun e1 => ?_) (fun e1 => ?_)
  · have h40 := h.1 e1
    refine z_ev_gs 1 (c1 := (255, 17, [some (z_r 33 0), some (z_i (x1)), some (z_i (x2)), some (z_i (x3))], [z_i (-1)], (true, X, I, J))) rfl ?_
    rw [h40]
    exact z_ev_rt rfl
  · have h41 := h.2 e1
    refine z_ev_gs 3 (c1 := (255, 10, [some (z_r 33 0), some (z_i (x1)), some (z_i (x2)), some (z_i (x3))], [z_i (x3), z_i (x2), z_r 33 0], (true, X, I, J))) rfl ?_
    obtain ⟨b7, X2, I3, J4, g5, h6⟩ := h41
    refine z_ev_ca rfl rfl g5 ?_
    refine z_ev_gs 1 (c1 := (255, (if ¬ z_c b7 = 0 then 18 else 16), [some (z_r 33 0), some (z_i (x1)), some (z_i (x2)), some (z_i (x3))], [], (true, X2, I3, J4))) rfl ?_
    refine z_ev_ifcn (fun e8 => ?_) (fun e8 => ?_)
    · have h38 := h6.1 e8
      refine z_ev_gs 6 (c1 := (255, (if x2 = (2 : Int32) then 42 else 28), [some (z_r 33 0), some (z_i (x1)), some (z_i (x2)), some (z_i (x3))], [z_i (x1), z_r 58 0], (true, X2, I3, J4))) rfl ?_
      refine z_ev_if (fun e9 => ?_) (fun e9 => ?_)
      · have h36 := h38.1 e9
        refine z_ev_gs 2 (c1 := (255, 47, [some (z_r 33 0), some (z_i (x1)), some (z_i (x2)), some (z_i (x3))], [z_i (-1), z_i (x1), z_r 58 0], (true, X2, I3, J4))) rfl ?_
        obtain ⟨k10, e11, e12, h13⟩ := h36
        refine z_ev_iast (t := 58) (i := 0) (k := k10) (n := 4) rfl rfl e11 e12 (by decide) ?_
        refine z_ev_gs 6 (c1 := (255, (if ¬ x2 = (1 : Int32) then 67 else 58), [some (z_r 33 0), some (z_i (x1)), some (z_i (x2)), some (z_i (x3))], [z_i (x1), z_r 59 0], (true, X2, (z_up I3 58 0 k10 (-1 : Int32)), J4))) rfl ?_
        rw [if_pos (fun q8 => absurd (e9.symm.trans q8) (by decide))]
        refine z_ev_gs 1 (c1 := (255, 68, [some (z_r 33 0), some (z_i (x1)), some (z_i (x2)), some (z_i (x3))], [z_i (x3), z_i (x1), z_r 59 0], (true, X2, (z_up I3 58 0 k10 (-1 : Int32)), J4))) rfl ?_
        refine z_ev_iast (t := 59) (i := 0) (k := k10) (n := 4) rfl rfl e11 (Nat.lt_of_lt_of_le e12 (by decide)) (by decide) ?_
        refine z_ev_gs 6 (c1 := (255, (if ¬ x2 = (1 : Int32) then 88 else 79), [some (z_r 33 0), some (z_i (x1)), some (z_i (x2)), some (z_i (x3))], [z_i (x1), z_r 60 0], (true, X2, (z_up (z_up I3 58 0 k10 (-1 : Int32)) 59 0 k10 x3), J4))) rfl ?_
        rw [if_pos (fun q8 => absurd (e9.symm.trans q8) (by decide))]
        refine z_ev_gs 1 (c1 := (255, 89, [some (z_r 33 0), some (z_i (x1)), some (z_i (x2)), some (z_i (x3))], [z_i 0, z_i (x1), z_r 60 0], (true, X2, (z_up (z_up I3 58 0 k10 (-1 : Int32)) 59 0 k10 x3), J4))) rfl ?_
        refine z_ev_iast (t := 60) (i := 0) (k := k10) (n := 4) rfl rfl e11 (Nat.lt_of_lt_of_le e12 (by decide)) (by decide) ?_
        refine z_ev_gs 1 (c1 := (255, 91, [some (z_r 33 0), some (z_i (x1)), some (z_i (x2)), some (z_i (x3))], [z_i 1], (true, X2, (z_up (z_up (z_up I3 58 0 k10 (-1 : Int32)) 59 0 k10 x3) 60 0 k10 (0 : Int32)), J4))) rfl ?_
        rw [h13]
        exact z_ev_rt rfl
      · have h37 := h38.2 e9
        refine z_ev_gs 3 (c1 := (255, (if ¬ x2 = (1 : Int32) then 46 else 33), [some (z_r 33 0), some (z_i (x1)), some (z_i (x2)), some (z_i (x3))], [z_i (x1), z_r 58 0], (true, X2, I3, J4))) rfl ?_
        refine z_ev_ifn (fun e14 => ?_) (fun e14 => ?_)
        · have h34 := h37.1 e14
          refine z_ev_gs 1 (c1 := (255, 47, [some (z_r 33 0), some (z_i (x1)), some (z_i (x2)), some (z_i (x3))], [z_i (x2), z_i (x1), z_r 58 0], (true, X2, I3, J4))) rfl ?_
          obtain ⟨k15, e16, e17, h18⟩ := h34
          refine z_ev_iast (t := 58) (i := 0) (k := k15) (n := 4) rfl rfl e16 e17 (by decide) ?_
          refine z_ev_gs 6 (c1 := (255, (if ¬ x2 = (1 : Int32) then 67 else 58), [some (z_r 33 0), some (z_i (x1)), some (z_i (x2)), some (z_i (x3))], [z_i (x1), z_r 59 0], (true, X2, (z_up I3 58 0 k15 x2), J4))) rfl ?_
          rw [if_pos e14]
          refine z_ev_gs 1 (c1 := (255, 68, [some (z_r 33 0), some (z_i (x1)), some (z_i (x2)), some (z_i (x3))], [z_i (x3), z_i (x1), z_r 59 0], (true, X2, (z_up I3 58 0 k15 x2), J4))) rfl ?_
          refine z_ev_iast (t := 59) (i := 0) (k := k15) (n := 4) rfl rfl e16 (Nat.lt_of_lt_of_le e17 (by decide)) (by decide) ?_
          refine z_ev_gs 6 (c1 := (255, (if ¬ x2 = (1 : Int32) then 88 else 79), [some (z_r 33 0), some (z_i (x1)), some (z_i (x2)), some (z_i (x3))], [z_i (x1), z_r 60 0], (true, X2, (z_up (z_up I3 58 0 k15 x2) 59 0 k15 x3), J4))) rfl ?_
          rw [if_pos e14]
          refine z_ev_gs 1 (c1 := (255, 89, [some (z_r 33 0), some (z_i (x1)), some (z_i (x2)), some (z_i (x3))], [z_i 0, z_i (x1), z_r 60 0], (true, X2, (z_up (z_up I3 58 0 k15 x2) 59 0 k15 x3), J4))) rfl ?_
          refine z_ev_iast (t := 60) (i := 0) (k := k15) (n := 4) rfl rfl e16 (Nat.lt_of_lt_of_le e17 (by decide)) (by decide) ?_
          refine z_ev_gs 1 (c1 := (255, 91, [some (z_r 33 0), some (z_i (x1)), some (z_i (x2)), some (z_i (x3))], [z_i 1], (true, X2, (z_up (z_up (z_up I3 58 0 k15 x2) 59 0 k15 x3) 60 0 k15 (0 : Int32)), J4))) rfl ?_
          rw [h18]
          exact z_ev_rt rfl
        · have h35 := h37.2 e14
          refine z_ev_gs 3 (c1 := (255, 38, [some (z_r 33 0), some (z_i (x1)), some (z_i (x2)), some (z_i (x3))], [z_i (x3), z_r 55 0, z_i (x1), z_r 58 0], (true, X2, I3, J4))) rfl ?_
          obtain ⟨k19, e20, e21, h22⟩ := h35
          refine z_ev_iald (t := 55) (i := 0) (k := k19) (n := 4) rfl rfl e20 e21 (by decide) ?_
          refine z_ev_gs 1 (c1 := (255, (if 0 ≤ (I3 55 0 k19) then 46 else 42), [some (z_r 33 0), some (z_i (x1)), some (z_i (x2)), some (z_i (x3))], [z_i (x1), z_r 58 0], (true, X2, I3, J4))) rfl ?_
          refine z_ev_ifle (fun e23 => ?_) (fun e23 => ?_)
          · have h32 := h22.1 e23
            refine z_ev_gs 1 (c1 := (255, 47, [some (z_r 33 0), some (z_i (x1)), some (z_i (x2)), some (z_i (x3))], [z_i (x2), z_i (x1), z_r 58 0], (true, X2, I3, J4))) rfl ?_
            obtain ⟨k24, e25, e26, h27⟩ := h32
            refine z_ev_iast (t := 58) (i := 0) (k := k24) (n := 4) rfl rfl e25 e26 (by decide) ?_
            refine z_ev_gs 6 (c1 := (255, (if ¬ x2 = (1 : Int32) then 67 else 58), [some (z_r 33 0), some (z_i (x1)), some (z_i (x2)), some (z_i (x3))], [z_i (x1), z_r 59 0], (true, X2, (z_up I3 58 0 k24 x2), J4))) rfl ?_
            rw [if_neg (fun q9 => q9 e14)]
            refine z_ev_gs 3 (c1 := (255, 63, [some (z_r 33 0), some (z_i (x1)), some (z_i (x2)), some (z_i (x3))], [z_i (x3), z_r 55 0, z_i (x1), z_r 59 0], (true, X2, (z_up I3 58 0 k24 x2), J4))) rfl ?_
            refine z_ev_iald (t := 55) (i := 0) (k := k19) (n := 4) rfl rfl e20 (Nat.lt_of_lt_of_le e21 (by decide)) (by decide) ?_
            refine z_ev_gs 1 (c1 := (255, 68, [some (z_r 33 0), some (z_i (x1)), some (z_i (x2)), some (z_i (x3))], [z_i (I3 55 0 k19), z_i (x1), z_r 59 0], (true, X2, (z_up I3 58 0 k24 x2), J4))) rfl ?_
            refine z_ev_iast (t := 59) (i := 0) (k := k24) (n := 4) rfl rfl e25 (Nat.lt_of_lt_of_le e26 (by decide)) (by decide) ?_
            refine z_ev_gs 6 (c1 := (255, (if ¬ x2 = (1 : Int32) then 88 else 79), [some (z_r 33 0), some (z_i (x1)), some (z_i (x2)), some (z_i (x3))], [z_i (x1), z_r 60 0], (true, X2, (z_up (z_up I3 58 0 k24 x2) 59 0 k24 (I3 55 0 k19)), J4))) rfl ?_
            rw [if_neg (fun q9 => q9 e14)]
            refine z_ev_gs 3 (c1 := (255, 84, [some (z_r 33 0), some (z_i (x1)), some (z_i (x2)), some (z_i (x3))], [z_i (x3), z_r 56 0, z_i (x1), z_r 60 0], (true, X2, (z_up (z_up I3 58 0 k24 x2) 59 0 k24 (I3 55 0 k19)), J4))) rfl ?_
            refine z_ev_iald (t := 56) (i := 0) (k := k19) (n := 4) rfl rfl e20 (Nat.lt_of_lt_of_le e21 (by decide)) (by decide) ?_
            refine z_ev_gs 1 (c1 := (255, 89, [some (z_r 33 0), some (z_i (x1)), some (z_i (x2)), some (z_i (x3))], [z_i (I3 56 0 k19), z_i (x1), z_r 60 0], (true, X2, (z_up (z_up I3 58 0 k24 x2) 59 0 k24 (I3 55 0 k19)), J4))) rfl ?_
            refine z_ev_iast (t := 60) (i := 0) (k := k24) (n := 4) rfl rfl e25 (Nat.lt_of_lt_of_le e26 (by decide)) (by decide) ?_
            refine z_ev_gs 1 (c1 := (255, 91, [some (z_r 33 0), some (z_i (x1)), some (z_i (x2)), some (z_i (x3))], [z_i 1], (true, X2, (z_up (z_up (z_up I3 58 0 k24 x2) 59 0 k24 (I3 55 0 k19)) 60 0 k24 (I3 56 0 k19)), J4))) rfl ?_
            rw [h27]
            exact z_ev_rt rfl
          · have h33 := h22.2 e23
            refine z_ev_gs 2 (c1 := (255, 47, [some (z_r 33 0), some (z_i (x1)), some (z_i (x2)), some (z_i (x3))], [z_i (-1), z_i (x1), z_r 58 0], (true, X2, I3, J4))) rfl ?_
            obtain ⟨k28, e29, e30, h31⟩ := h33
            refine z_ev_iast (t := 58) (i := 0) (k := k28) (n := 4) rfl rfl e29 e30 (by decide) ?_
            refine z_ev_gs 6 (c1 := (255, (if ¬ x2 = (1 : Int32) then 67 else 58), [some (z_r 33 0), some (z_i (x1)), some (z_i (x2)), some (z_i (x3))], [z_i (x1), z_r 59 0], (true, X2, (z_up I3 58 0 k28 (-1 : Int32)), J4))) rfl ?_
            rw [if_neg (fun q9 => q9 e14)]
            refine z_ev_gs 3 (c1 := (255, 63, [some (z_r 33 0), some (z_i (x1)), some (z_i (x2)), some (z_i (x3))], [z_i (x3), z_r 55 0, z_i (x1), z_r 59 0], (true, X2, (z_up I3 58 0 k28 (-1 : Int32)), J4))) rfl ?_
            refine z_ev_iald (t := 55) (i := 0) (k := k19) (n := 4) rfl rfl e20 (Nat.lt_of_lt_of_le e21 (by decide)) (by decide) ?_
            refine z_ev_gs 1 (c1 := (255, 68, [some (z_r 33 0), some (z_i (x1)), some (z_i (x2)), some (z_i (x3))], [z_i (I3 55 0 k19), z_i (x1), z_r 59 0], (true, X2, (z_up I3 58 0 k28 (-1 : Int32)), J4))) rfl ?_
            refine z_ev_iast (t := 59) (i := 0) (k := k28) (n := 4) rfl rfl e29 (Nat.lt_of_lt_of_le e30 (by decide)) (by decide) ?_
            refine z_ev_gs 6 (c1 := (255, (if ¬ x2 = (1 : Int32) then 88 else 79), [some (z_r 33 0), some (z_i (x1)), some (z_i (x2)), some (z_i (x3))], [z_i (x1), z_r 60 0], (true, X2, (z_up (z_up I3 58 0 k28 (-1 : Int32)) 59 0 k28 (I3 55 0 k19)), J4))) rfl ?_
            rw [if_neg (fun q9 => q9 e14)]
            refine z_ev_gs 3 (c1 := (255, 84, [some (z_r 33 0), some (z_i (x1)), some (z_i (x2)), some (z_i (x3))], [z_i (x3), z_r 56 0, z_i (x1), z_r 60 0], (true, X2, (z_up (z_up I3 58 0 k28 (-1 : Int32)) 59 0 k28 (I3 55 0 k19)), J4))) rfl ?_
            refine z_ev_iald (t := 56) (i := 0) (k := k19) (n := 4) rfl rfl e20 (Nat.lt_of_lt_of_le e21 (by decide)) (by decide) ?_
            refine z_ev_gs 1 (c1 := (255, 89, [some (z_r 33 0), some (z_i (x1)), some (z_i (x2)), some (z_i (x3))], [z_i (I3 56 0 k19), z_i (x1), z_r 60 0], (true, X2, (z_up (z_up I3 58 0 k28 (-1 : Int32)) 59 0 k28 (I3 55 0 k19)), J4))) rfl ?_
            refine z_ev_iast (t := 60) (i := 0) (k := k28) (n := 4) rfl rfl e29 (Nat.lt_of_lt_of_le e30 (by decide)) (by decide) ?_
            refine z_ev_gs 1 (c1 := (255, 91, [some (z_r 33 0), some (z_i (x1)), some (z_i (x2)), some (z_i (x3))], [z_i 1], (true, X2, (z_up (z_up (z_up I3 58 0 k28 (-1 : Int32)) 59 0 k28 (I3 55 0 k19)) 60 0 k28 (I3 56 0 k19)), J4))) rfl ?_
            rw [h31]
            exact z_ev_rt rfl
    · have h39 := h6.2 e8
      refine z_ev_gs 1 (c1 := (255, 17, [some (z_r 33 0), some (z_i (x1)), some (z_i (x2)), some (z_i (x3))], [z_i (-1)], (true, X2, I3, J4))) rfl ?_
      rw [h39]
      exact z_ev_rt rfl
theorem z_q46_e {d : Nat} {r : Option z_V × z_M} {X : z_X} {I : Nat → Nat → Nat → Int32} {J : Nat → Nat → Nat → Int64} (l1 : Int64) (x3 : Int32)
    (h : ((((I 15 0 1) + x3) ≤ (160 : Int32) → z_ev d (46, 18, [some (z_r 15 0), some (z_j (l1)), none, some (z_i (x3)), some (z_i 0)], [], (true, X, I, J)) r) ∧ ((160 : Int32) < ((I 15 0 1) + x3) → r = (some (z_i (-2)), (true, X, I, J))))) :
    z_ev d (z_en 46 [z_r 15 0, z_j (l1), z_i (x3)] (true, X, I, J)) r := by
  show z_ev d (46, 0, [some (z_r 15 0), some (z_j (l1)), none, some (z_i (x3)), none], [], (true, X, I, J)) r
  refine z_ev_gs 6 (c1 := (46, (if ((I 15 0 1) + x3) ≤ (160 : Int32) then 15 else 12), [some (z_r 15 0), some (z_j (l1)), none, some (z_i (x3)), none], [], (true, X, I, J))) rfl ?_
  refine z_ev_ifle (fun e1 => ?_) (fun e1 => ?_)
  · have h2 := h.1 e1
    refine z_ev_gs 2 (c1 := (46, 18, [some (z_r 15 0), some (z_j (l1)), none, some (z_i (x3)), some (z_i 0)], [], (true, X, I, J))) rfl ?_
    exact h2
  · have h3 := h.2 e1
    refine z_ev_gs 1 (c1 := (46, 14, [some (z_r 15 0), some (z_j (l1)), none, some (z_i (x3)), none], [z_i (-2)], (true, X, I, J))) rfl ?_
    rw [h3]
    exact z_ev_rt rfl
theorem z_q46_18 {d : Nat} {r : Option z_V × z_M} {X : z_X} {I : Nat → Nat → Nat → Int32} {J : Nat → Nat → Nat → Int64} (l1 : Int64) (x3 : Int32) (x4 : Int32)
    (h : ((x3 ≤ x4 → r = (some (z_i (((I 15 0 1) + x3))), (true, X, (z_up I 15 0 1 ((I 15 0 1) + x3)), J))) ∧ (x4 < x3 → (∃ k5 : Nat, ((I 15 0 1) + x4) = Int32.ofNat k5 ∧ k5 < 160 ∧ z_ev d (46, 18, [some (z_r 15 0), some (z_j (l1)), none, some (z_i (x3)), some (z_i (x4 + (1 : Int32)))], [], (true, X, (z_up I 16 0 k5 ((((l1.toUInt64 >>> (((8 : Int32) * x4).toInt64.toUInt64 &&& Int64.toUInt64 63)).toInt64).toInt32) &&& (255 : Int32))), J)) r)))) :
    z_ev d ((46, 18, [some (z_r 15 0), some (z_j (l1)), none, some (z_i (x3)), some (z_i (x4))], [], (true, X, I, J))) r := by
  refine z_ev_gs 3 (c1 := (46, (if x3 ≤ x4 then 54 else 24), [some (z_r 15 0), some (z_j (l1)), none, some (z_i (x3)), some (z_i (x4))], [], (true, X, I, J))) rfl ?_
  refine z_ev_ifle (fun e4 => ?_) (fun e4 => ?_)
  · have h9 := h.1 e4
    refine z_ev_gs 8 (c1 := (46, 68, [some (z_r 15 0), some (z_j (l1)), none, some (z_i (x3)), some (z_i (x4))], [z_i (((I 15 0 1) + x3))], (true, X, (z_up I 15 0 1 ((I 15 0 1) + x3)), J))) rfl ?_
    rw [h9]
    exact z_ev_rt rfl
  · have h10 := h.2 e4
    refine z_ev_gs 14 (c1 := (46, 47, [some (z_r 15 0), some (z_j (l1)), none, some (z_i (x3)), some (z_i (x4))], [z_i ((((l1.toUInt64 >>> (((8 : Int32) * x4).toInt64.toUInt64 &&& Int64.toUInt64 63)).toInt64).toInt32) &&& (255 : Int32)), z_i ((I 15 0 1) + x4), z_r 16 0], (true, X, I, J))) rfl ?_
    obtain ⟨k5, e6, e7, h8⟩ := h10
    refine z_ev_iast (t := 16) (i := 0) (k := k5) (n := 160) rfl rfl e6 e7 (by decide) ?_
    refine z_ev_gs 2 (c1 := (46, 18, [some (z_r 15 0), some (z_j (l1)), none, some (z_i (x3)), some (z_i (x4 + (1 : Int32)))], [], (true, X, (z_up I 16 0 k5 ((((l1.toUInt64 >>> (((8 : Int32) * x4).toInt64.toUInt64 &&& Int64.toUInt64 63)).toInt64).toInt32) &&& (255 : Int32))), J))) rfl ?_
    exact h8
theorem z_q67_e {d : Nat} {r : Option z_V × z_M} {X : z_X} {I : Nat → Nat → Nat → Int32} {J : Nat → Nat → Nat → Int64} (l1 : Int64) (x3 : Int32)
    (h : ((x3 < (1 : Int32) → r = (some (z_i (-1)), (true, X, I, J))) ∧ ((1 : Int32) ≤ x3 → ((x3 ≤ (8 : Int32) → (∃ (v8 : Int32) (X3 : z_X) (I4 : Nat → Nat → Nat → Int32) (J5 : Nat → Nat → Nat → Int64), z_ev d (z_en 46 [z_r 15 0, z_j (l1), z_i (x3)] (true, X, I, J)) (some (z_i (v8)), (true, X3, I4, J5)) ∧ r = (some (z_i (v8)), (true, X3, I4, J5)))) ∧ ((8 : Int32) < x3 → r = (some (z_i (-1)), (true, X, I, J))))))) :
    z_ev (d + 1) (z_en 67 [z_r 0 0, z_j (l1), z_i (x3)] (true, X, I, J)) r := by
  show z_ev (d + 1) (67, 0, [some (z_r 0 0), some (z_j (l1)), none, some (z_i (x3))], [], (true, X, I, J)) r
  refine z_ev_gs 3 (c1 := (67, (if x3 < (1 : Int32) then 11 else 5), [some (z_r 0 0), some (z_j (l1)), none, some (z_i (x3))], [], (true, X, I, J))) rfl ?_
  refine z_ev_iflt (fun e1 => ?_) (fun e1 => ?_)
  · have h11 := h.1 e1
    refine z_ev_gs 1 (c1 := (67, 12, [some (z_r 0 0), some (z_j (l1)), none, some (z_i (x3))], [z_i (-1)], (true, X, I, J))) rfl ?_
    rw [h11]
    exact z_ev_rt rfl
  · have h12 := h.2 e1
    refine z_ev_gs 3 (c1 := (67, (if x3 ≤ (8 : Int32) then 13 else 11), [some (z_r 0 0), some (z_j (l1)), none, some (z_i (x3))], [], (true, X, I, J))) rfl ?_
    refine z_ev_ifle (fun e2 => ?_) (fun e2 => ?_)
    · have h9 := h12.1 e2
      refine z_ev_gs 4 (c1 := (67, 19, [some (z_r 0 0), some (z_j (l1)), none, some (z_i (x3))], [z_i (x3), z_j (l1), z_r 15 0], (true, X, I, J))) rfl ?_
      obtain ⟨v8, X3, I4, J5, g6, h7⟩ := h9
      refine z_ev_ca rfl rfl g6 ?_
      rw [h7]
      exact z_ev_rt rfl
    · have h10 := h12.2 e2
      refine z_ev_gs 1 (c1 := (67, 12, [some (z_r 0 0), some (z_j (l1)), none, some (z_i (x3))], [z_i (-1)], (true, X, I, J))) rfl ?_
      rw [h10]
      exact z_ev_rt rfl
theorem z_q172_e {d : Nat} {r : Option z_V × z_M} {X : z_X} {I : Nat → Nat → Nat → Int32} {J : Nat → Nat → Nat → Int64} (l1 : Int64) (x3 : Int32)
    (h : (((z_bw x3 (1 : Int32) (8 : Int32)) = true → ((((I 33 0 14) + x3) ≤ (160 : Int32) → z_ev (d + 1) (172, 30, [some (z_r 33 0), some (z_j (l1)), none, some (z_i (x3)), some (z_i 0)], [], (true, X, I, J)) r) ∧ ((160 : Int32) < ((I 33 0 14) + x3) → r = (some (z_i (-2)), (true, X, I, J))))) ∧ ((z_bw x3 (1 : Int32) (8 : Int32)) = false → r = (some (z_i (-1)), (true, X, I, J))))) :
    z_ev (d + 1) (z_en 172 [z_r 33 0, z_j (l1), z_i (x3)] (true, X, I, J)) r := by
  show z_ev (d + 1) (172, 0, [some (z_r 33 0), some (z_j (l1)), none, some (z_i (x3)), none], [], (true, X, I, J)) r
  refine z_ev_gs 3 (c1 := (172, 4, [some (z_r 33 0), some (z_j (l1)), none, some (z_i (x3)), none], [z_i 8, z_i 1, z_i (x3)], (true, X, I, J))) rfl ?_
  refine z_ev_ca rfl rfl (z_p158 _ _ _) ?_
  refine z_ev_gs 1 (c1 := (172, (if ¬ z_c (z_bw x3 (1 : Int32) (8 : Int32)) = 0 then 12 else 10), [some (z_r 33 0), some (z_j (l1)), none, some (z_i (x3)), none], [], (true, X, I, J))) rfl ?_
  refine z_ev_ifcn (fun e1 => ?_) (fun e1 => ?_)
  · have h5 := h.1 e1
    refine z_ev_gs 6 (c1 := (172, (if ((I 33 0 14) + x3) ≤ (160 : Int32) then 27 else 24), [some (z_r 33 0), some (z_j (l1)), none, some (z_i (x3)), none], [], (true, X, I, J))) rfl ?_
    refine z_ev_ifle (fun e2 => ?_) (fun e2 => ?_)
    · have h3 := h5.1 e2
      refine z_ev_gs 2 (c1 := (172, 30, [some (z_r 33 0), some (z_j (l1)), none, some (z_i (x3)), some (z_i 0)], [], (true, X, I, J))) rfl ?_
      exact h3
    · have h4 := h5.2 e2
      refine z_ev_gs 1 (c1 := (172, 26, [some (z_r 33 0), some (z_j (l1)), none, some (z_i (x3)), none], [z_i (-2)], (true, X, I, J))) rfl ?_
      rw [h4]
      exact z_ev_rt rfl
  · have h6 := h.2 e1
    refine z_ev_gs 1 (c1 := (172, 11, [some (z_r 33 0), some (z_j (l1)), none, some (z_i (x3)), none], [z_i (-1)], (true, X, I, J))) rfl ?_
    rw [h6]
    exact z_ev_rt rfl
theorem z_q172_30 {d : Nat} {r : Option z_V × z_M} {X : z_X} {I : Nat → Nat → Nat → Int32} {J : Nat → Nat → Nat → Int64} (l1 : Int64) (x3 : Int32) (x4 : Int32)
    (h : ((x3 ≤ x4 → r = (some (z_i (I 33 0 14)), (true, X, I, J))) ∧ (x4 < x3 → (∃ k8 : Nat, (I 33 0 14) = Int32.ofNat k8 ∧ k8 < 160 ∧ z_ev (d + 1) (172, 30, [some (z_r 33 0), some (z_j (l1)), none, some (z_i (x3)), some (z_i (x4 + (1 : Int32)))], [], (true, X, (z_up (z_up I 43 0 k8 (((l1 >>> (((8 : Int32) * x4).toInt64 &&& 63)) &&& (255 : Int64)).toInt32)) 33 0 14 ((I 33 0 14) + (1 : Int32))), J)) r)))) :
    z_ev (d + 1) ((172, 30, [some (z_r 33 0), some (z_j (l1)), none, some (z_i (x3)), some (z_i (x4))], [], (true, X, I, J))) r := by
  refine z_ev_gs 3 (c1 := (172, (if x3 ≤ x4 then 73 else 36), [some (z_r 33 0), some (z_j (l1)), none, some (z_i (x3)), some (z_i (x4))], [], (true, X, I, J))) rfl ?_
  refine z_ev_ifle (fun e7 => ?_) (fun e7 => ?_)
  · have h12 := h.1 e7
    refine z_ev_gs 2 (c1 := (172, 77, [some (z_r 33 0), some (z_j (l1)), none, some (z_i (x3)), some (z_i (x4))], [z_i (I 33 0 14)], (true, X, I, J))) rfl ?_
    rw [h12]
    exact z_ev_rt rfl
  · have h13 := h.2 e7
    refine z_ev_gs 12 (c1 := (172, 56, [some (z_r 33 0), some (z_j (l1)), none, some (z_i (x3)), some (z_i (x4))], [z_i (((l1 >>> (((8 : Int32) * x4).toInt64 &&& 63)) &&& (255 : Int64)).toInt32), z_i (I 33 0 14), z_r 43 0], (true, X, I, J))) rfl ?_
    obtain ⟨k8, e9, e10, h11⟩ := h13
    refine z_ev_iast (t := 43) (i := 0) (k := k8) (n := 160) rfl rfl e9 e10 (by decide) ?_
    refine z_ev_gs 8 (c1 := (172, 30, [some (z_r 33 0), some (z_j (l1)), none, some (z_i (x3)), some (z_i (x4 + (1 : Int32)))], [], (true, X, (z_up (z_up I 43 0 k8 (((l1 >>> (((8 : Int32) * x4).toInt64 &&& 63)) &&& (255 : Int64)).toInt32)) 33 0 14 ((I 33 0 14) + (1 : Int32))), J))) rfl ?_
    exact h11
