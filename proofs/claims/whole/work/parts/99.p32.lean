/-! segments: read; printed by wip/whole/emit_seg.py -/
theorem z_q284_e {d : Nat} {r : Option z_V × z_M} {X : z_X} {I : Nat → Nat → Nat → Int32} {J : Nat → Nat → Nat → Int64} (x0 : Int32) (x1 : Int32)
    (h : ((x0 < 0 → False) ∧ (0 ≤ x0 → ((x0 < x1 → r = (some (z_i (x0)), (true, X, I, J))) ∧ (x1 ≤ x0 → False))))) :
    z_ev d (z_en 284 [z_i (x0), z_i (x1), z_r 68 0] (true, X, I, J)) r := by
  show z_ev d (284, 0, [some (z_i (x0)), some (z_i (x1)), some (z_r 68 0)], [], (true, X, I, J)) r
  refine z_ev_gs 2 (c1 := (284, (if x0 < 0 then 9 else 4), [some (z_i (x0)), some (z_i (x1)), some (z_r 68 0)], [], (true, X, I, J))) rfl ?_
  refine z_ev_iflt (fun e1 => ?_) (fun e1 => ?_)
  · have h5 := h.1 e1
    exact h5.elim
  · have h6 := h.2 e1
    refine z_ev_gs 3 (c1 := (284, (if x0 < x1 then 16 else 9), [some (z_i (x0)), some (z_i (x1)), some (z_r 68 0)], [], (true, X, I, J))) rfl ?_
    refine z_ev_iflt (fun e2 => ?_) (fun e2 => ?_)
    · have h3 := h6.1 e2
      refine z_ev_gs 1 (c1 := (284, 17, [some (z_i (x0)), some (z_i (x1)), some (z_r 68 0)], [z_i (x0)], (true, X, I, J))) rfl ?_
      rw [h3]
      exact z_ev_rt rfl
    · have h4 := h6.2 e2
      exact h4.elim
theorem z_q282_e {d : Nat} {r : Option z_V × z_M} {X : z_X} {I : Nat → Nat → Nat → Int32} {J : Nat → Nat → Nat → Int64} (x0 : Int32) (x1 : Int32)
    (h : (∃ (v6 : Int32) (X1 : z_X) (I2 : Nat → Nat → Nat → Int32) (J3 : Nat → Nat → Nat → Int64), z_ev d (z_en 284 [z_i (x0), z_i (x1), z_r 68 0] (true, X, I, J)) (some (z_i (v6)), (true, X1, I2, J3)) ∧ r = (none, (true, X1, I2, J3)))) :
    z_ev (d + 1) (z_en 282 [z_i (x0), z_i (x1)] (true, X, I, J)) r := by
  show z_ev (d + 1) (282, 0, [some (z_i (x0)), some (z_i (x1))], [], (true, X, I, J)) r
  refine z_ev_gs 3 (c1 := (282, 5, [some (z_i (x0)), some (z_i (x1))], [z_r 68 0, z_i (x1), z_i (x0)], (true, X, I, J))) rfl ?_
  obtain ⟨v6, X1, I2, J3, g4, h5⟩ := h
  refine z_ev_ca rfl rfl g4 ?_
  refine z_ev_gs 1 (c1 := (282, 9, [some (z_i (x0)), some (z_i (x1))], [], (true, X1, I2, J3))) rfl ?_
  rw [h5]
  exact z_ev_rt rfl
theorem z_q280_e_0 {d : Nat} {r : Option z_V × z_M} {X : z_X} {I : Nat → Nat → Nat → Int32} {J : Nat → Nat → Nat → Int64} 
    (h : r = (some (z_i 0), (true, X, I, J))) :
    z_ev d (z_en 280 [z_r 64 0] (true, X, I, J)) r := by
  show z_ev d (280, 0, [some (z_r 64 0)], [], (true, X, I, J)) r
  refine z_ev_gs 2 (c1 := (280, 6, [some (z_r 64 0)], [], (true, X, I, J))) rfl ?_
  refine z_ev_gs 3 (c1 := (280, 14, [some (z_r 64 0)], [z_i 0], (true, X, I, J))) rfl ?_
  rw [h]
  exact z_ev_rt rfl
theorem z_q281_e_0 {d : Nat} {r : Option z_V × z_M} {X : z_X} {I : Nat → Nat → Nat → Int32} {J : Nat → Nat → Nat → Int64} 
    (h : r = (some (z_i 1), (true, X, I, J))) :
    z_ev d (z_en 281 [z_r 64 0] (true, X, I, J)) r := by
  show z_ev d (281, 0, [some (z_r 64 0)], [], (true, X, I, J)) r
  refine z_ev_gs 2 (c1 := (281, 6, [some (z_r 64 0)], [], (true, X, I, J))) rfl ?_
  refine z_ev_gs 3 (c1 := (281, 13, [some (z_r 64 0)], [], (true, X, I, J))) rfl ?_
  refine z_ev_gs 2 (c1 := (281, 18, [some (z_r 64 0)], [z_i 1], (true, X, I, J))) rfl ?_
  rw [h]
  exact z_ev_rt rfl
theorem z_q278_e_0 {d : Nat} {r : Option z_V × z_M} {X : z_X} {I : Nat → Nat → Nat → Int32} {J : Nat → Nat → Nat → Int64} 
    (h : (∃ (v6 : Int32) (X1 : z_X) (I2 : Nat → Nat → Nat → Int32) (J3 : Nat → Nat → Nat → Int64), z_ev d (z_en 280 [z_r 64 0] (true, X, I, J)) (some (z_i (v6)), (true, X1, I2, J3)) ∧ r = (some (z_i ((5 : Int32) >>> (v6 &&& 31))), (true, X1, I2, J3)))) :
    z_ev (d + 1) (z_en 278 [z_r 64 0] (true, X, I, J)) r := by
  show z_ev (d + 1) (278, 0, [some (z_r 64 0)], [], (true, X, I, J)) r
  refine z_ev_gs 4 (c1 := (278, 6, [some (z_r 64 0)], [z_r 64 0, z_i 5], (true, X, I, J))) rfl ?_
  obtain ⟨v6, X1, I2, J3, g4, h5⟩ := h
  refine z_ev_ca rfl rfl g4 ?_
  refine z_ev_gs 1 (c1 := (278, 10, [some (z_r 64 0)], [z_i ((5 : Int32) >>> (v6 &&& 31))], (true, X1, I2, J3))) rfl ?_
  rw [h5]
  exact z_ev_rt rfl
theorem z_q283_e_0 {d : Nat} {r : Option z_V × z_M} {X : z_X} {I : Nat → Nat → Nat → Int32} {J : Nat → Nat → Nat → Int64} (x1 : Int32)
    (h : (∃ (X1 : z_X) (I2 : Nat → Nat → Nat → Int32) (J3 : Nat → Nat → Nat → Int64), z_ev (d + 1) (z_en 282 [z_i (x1), z_i 5] (true, X, I, J)) (none, (true, X1, I2, J3)) ∧ (∃ k6 : Nat, x1 = Int32.ofNat k6 ∧ k6 < 5 ∧ (z_nr 3 (((((z_sby.getD 0 []).getD k6 0) &&& (255 : Int32)).toUInt32 % 65536).toInt32) = true ∧ r = (some (z_i (((((z_sby.getD 0 []).getD k6 0) &&& (255 : Int32)).toUInt32 % 65536).toInt32)), (true, X1, I2, J3)))))) :
    z_ev (d + 2) (z_en 283 [z_r 65 0, z_i (x1)] (true, X, I, J)) r := by
  show z_ev (d + 2) (283, 0, [some (z_r 65 0), some (z_i (x1))], [], (true, X, I, J)) r
  refine z_ev_gs 3 (c1 := (283, 3, [some (z_r 65 0), some (z_i (x1))], [z_i 5, z_i (x1)], (true, X, I, J))) rfl ?_
  obtain ⟨X1, I2, J3, g4, h5⟩ := h
  refine z_ev_ca rfl rfl g4 ?_
  refine z_ev_gs 2 (c1 := (283, 8, [some (z_r 65 0), some (z_i (x1))], [z_i (x1), z_r 65 0], (true, X1, I2, J3))) rfl ?_
  obtain ⟨k6, e7, e8, h9⟩ := h5
  refine z_ev_bld (w1 := 0) (k := k6) (n := 5) rfl e7 e8 (by decide) ?_
  refine z_ev_gs 3 (c1 := (283, 14, [some (z_r 65 0), some (z_i (x1))], [z_i (((((z_sby.getD 0 []).getD k6 0) &&& (255 : Int32)).toUInt32 % 65536).toInt32)], (true, X1, I2, J3))) rfl ?_
  obtain ⟨g0, h10⟩ := h9
  rw [h10]
  exact z_ev_rtn rfl g0
theorem z_q279_e_0 {d : Nat} {r : Option z_V × z_M} {X : z_X} {I : Nat → Nat → Nat → Int32} {J : Nat → Nat → Nat → Int64} (x1 : Int32)
    (h : (∃ (b6 : Bool) (X1 : z_X) (I2 : Nat → Nat → Nat → Int32) (J3 : Nat → Nat → Nat → Int64), z_ev (d + 2) (z_en 281 [z_r 64 0] (true, X, I, J)) (some (z_i (z_c b6)), (true, X1, I2, J3)) ∧ ((b6 = false → False) ∧ (b6 = true → (∃ (v13 : Int32) (X8 : z_X) (I9 : Nat → Nat → Nat → Int32) (J10 : Nat → Nat → Nat → Int64), z_ev (d + 2) (z_en 283 [z_r 65 0, z_i (x1)] (true, X1, I2, J3)) (some (z_i (v13)), (true, X8, I9, J10)) ∧ (z_nr 3 v13 = true ∧ r = (some (z_i (v13)), (true, X8, I9, J10)))))))) :
    z_ev (d + 3) (z_en 279 [z_r 64 0, z_i (x1)] (true, X, I, J)) r := by
  show z_ev (d + 3) (279, 0, [some (z_r 64 0), some (z_i (x1))], [], (true, X, I, J)) r
  refine z_ev_gs 1 (c1 := (279, 1, [some (z_r 64 0), some (z_i (x1))], [z_r 64 0], (true, X, I, J))) rfl ?_
  obtain ⟨b6, X1, I2, J3, g4, h5⟩ := h
  refine z_ev_ca rfl rfl g4 ?_
  refine z_ev_gs 1 (c1 := (279, (if z_c b6 = 0 then 16 else 7), [some (z_r 64 0), some (z_i (x1))], [], (true, X1, I2, J3))) rfl ?_
  refine z_ev_ifc (fun e7 => ?_) (fun e7 => ?_)
  · have h15 := h5.1 e7
    exact h15.elim
  · have h16 := h5.2 e7
    refine z_ev_gs 3 (c1 := (279, 12, [some (z_r 64 0), some (z_i (x1))], [z_i (x1), z_r 65 0], (true, X1, I2, J3))) rfl ?_
    obtain ⟨v13, X8, I9, J10, g11, h12⟩ := h16
    refine z_ev_ca rfl rfl g11 ?_
    obtain ⟨g0, h14⟩ := h12
    rw [h14]
    exact z_ev_rtn rfl g0
theorem z_q57_e_0 {d : Nat} {r : Option z_V × z_M} {X : z_X} {I : Nat → Nat → Nat → Int32} {J : Nat → Nat → Nat → Int64} 
    (h : (∃ (v6 : Int32) (X1 : z_X) (I2 : Nat → Nat → Nat → Int32) (J3 : Nat → Nat → Nat → Int64), z_ev (d + 3) (z_en 278 [z_r 64 0] (true, X, I, J)) (some (z_i (v6)), (true, X1, I2, J3)) ∧ ((((I 15 0 4) - (I 15 0 3)) = v6 → z_ev (d + 4) (57, 20, [some (z_r 15 0), some (z_r 64 0), some (z_i 0)], [], (true, X1, I2, J3)) r) ∧ (¬ ((I 15 0 4) - (I 15 0 3)) = v6 → r = (some (z_i 0), (true, X1, I2, J3)))))) :
    z_ev (d + 4) (z_en 57 [z_r 15 0, z_r 64 0] (true, X, I, J)) r := by
  show z_ev (d + 4) (57, 0, [some (z_r 15 0), some (z_r 64 0), none], [], (true, X, I, J)) r
  refine z_ev_gs 6 (c1 := (57, 10, [some (z_r 15 0), some (z_r 64 0), none], [z_r 64 0, z_i ((I 15 0 4) - (I 15 0 3))], (true, X, I, J))) rfl ?_
  obtain ⟨v6, X1, I2, J3, g4, h5⟩ := h
  refine z_ev_ca rfl rfl g4 ?_
  refine z_ev_gs 1 (c1 := (57, (if ((I 15 0 4) - (I 15 0 3)) = v6 then 18 else 16), [some (z_r 15 0), some (z_r 64 0), none], [], (true, X1, I2, J3))) rfl ?_
  refine z_ev_if (fun e7 => ?_) (fun e7 => ?_)
  · have h8 := h5.1 e7
    refine z_ev_gs 2 (c1 := (57, 20, [some (z_r 15 0), some (z_r 64 0), some (z_i 0)], [], (true, X1, I2, J3))) rfl ?_
    exact h8
  · have h9 := h5.2 e7
    refine z_ev_gs 1 (c1 := (57, 17, [some (z_r 15 0), some (z_r 64 0), none], [z_i 0], (true, X1, I2, J3))) rfl ?_
    rw [h9]
    exact z_ev_rt rfl
theorem z_q57_20_0 {d : Nat} {r : Option z_V × z_M} {X : z_X} {I : Nat → Nat → Nat → Int32} {J : Nat → Nat → Nat → Int64} (x2 : Int32)
    (h : (∃ (v15 : Int32) (X10 : z_X) (I11 : Nat → Nat → Nat → Int32) (J12 : Nat → Nat → Nat → Int64), z_ev (d + 3) (z_en 278 [z_r 64 0] (true, X, I, J)) (some (z_i (v15)), (true, X10, I11, J12)) ∧ ((v15 ≤ x2 → r = (some (z_i 1), (true, X10, I11, J12))) ∧ (x2 < v15 → (∃ (v22 : Int32) (X17 : z_X) (I18 : Nat → Nat → Nat → Int32) (J19 : Nat → Nat → Nat → Int64), z_ev (d + 3) (z_en 53 [z_r 15 0, z_i ((I11 15 0 3) + x2)] (true, X10, I11, J12)) (some (z_i (v22)), (true, X17, I18, J19)) ∧ (∃ (v28 : Int32) (X23 : z_X) (I24 : Nat → Nat → Nat → Int32) (J25 : Nat → Nat → Nat → Int64), z_ev (d + 3) (z_en 279 [z_r 64 0, z_i (x2)] (true, X17, I18, J19)) (some (z_i (v28)), (true, X23, I24, J25)) ∧ ((v22 = v28 → z_ev (d + 4) (57, 20, [some (z_r 15 0), some (z_r 64 0), some (z_i (x2 + (1 : Int32)))], [], (true, X23, I24, J25)) r) ∧ (¬ v22 = v28 → r = (some (z_i 0), (true, X23, I24, J25)))))))))) :
    z_ev (d + 4) ((57, 20, [some (z_r 15 0), some (z_r 64 0), some (z_i (x2))], [], (true, X, I, J))) r := by
  refine z_ev_gs 2 (c1 := (57, 22, [some (z_r 15 0), some (z_r 64 0), some (z_i (x2))], [z_r 64 0, z_i (x2)], (true, X, I, J))) rfl ?_
  obtain ⟨v15, X10, I11, J12, g13, h14⟩ := h
  refine z_ev_ca rfl rfl g13 ?_
  refine z_ev_gs 1 (c1 := (57, (if v15 ≤ x2 then 54 else 28), [some (z_r 15 0), some (z_r 64 0), some (z_i (x2))], [], (true, X10, I11, J12))) rfl ?_
  refine z_ev_ifle (fun e16 => ?_) (fun e16 => ?_)
  · have h32 := h14.1 e16
    refine z_ev_gs 1 (c1 := (57, 55, [some (z_r 15 0), some (z_r 64 0), some (z_i (x2))], [z_i 1], (true, X10, I11, J12))) rfl ?_
    rw [h32]
    exact z_ev_rt rfl
  · have h33 := h14.2 e16
    refine z_ev_gs 5 (c1 := (57, 35, [some (z_r 15 0), some (z_r 64 0), some (z_i (x2))], [z_i ((I11 15 0 3) + x2), z_r 15 0], (true, X10, I11, J12))) rfl ?_
    obtain ⟨v22, X17, I18, J19, g20, h21⟩ := h33
    refine z_ev_ca rfl rfl g20 ?_
    refine z_ev_gs 2 (c1 := (57, 40, [some (z_r 15 0), some (z_r 64 0), some (z_i (x2))], [z_i (x2), z_r 64 0, z_i (v22)], (true, X17, I18, J19))) rfl ?_
    obtain ⟨v28, X23, I24, J25, g26, h27⟩ := h21
    refine z_ev_ca rfl rfl g26 ?_
    refine z_ev_gs 1 (c1 := (57, (if v22 = v28 then 48 else 46), [some (z_r 15 0), some (z_r 64 0), some (z_i (x2))], [], (true, X23, I24, J25))) rfl ?_
    refine z_ev_if (fun e29 => ?_) (fun e29 => ?_)
    · have h30 := h27.1 e29
      refine z_ev_gs 2 (c1 := (57, 20, [some (z_r 15 0), some (z_r 64 0), some (z_i (x2 + (1 : Int32)))], [], (true, X23, I24, J25))) rfl ?_
      exact h30
    · have h31 := h27.2 e29
      refine z_ev_gs 1 (c1 := (57, 47, [some (z_r 15 0), some (z_r 64 0), some (z_i (x2))], [z_i 0], (true, X23, I24, J25))) rfl ?_
      rw [h31]
      exact z_ev_rt rfl
theorem z_q280_e_1 {d : Nat} {r : Option z_V × z_M} {X : z_X} {I : Nat → Nat → Nat → Int32} {J : Nat → Nat → Nat → Int64} 
    (h : r = (some (z_i 0), (true, X, I, J))) :
    z_ev d (z_en 280 [z_r 64 1] (true, X, I, J)) r := by
  show z_ev d (280, 0, [some (z_r 64 1)], [], (true, X, I, J)) r
  refine z_ev_gs 2 (c1 := (280, 6, [some (z_r 64 1)], [], (true, X, I, J))) rfl ?_
  refine z_ev_gs 3 (c1 := (280, 14, [some (z_r 64 1)], [z_i 0], (true, X, I, J))) rfl ?_
  rw [h]
  exact z_ev_rt rfl
theorem z_q281_e_1 {d : Nat} {r : Option z_V × z_M} {X : z_X} {I : Nat → Nat → Nat → Int32} {J : Nat → Nat → Nat → Int64} 
    (h : r = (some (z_i 1), (true, X, I, J))) :
    z_ev d (z_en 281 [z_r 64 1] (true, X, I, J)) r := by
  show z_ev d (281, 0, [some (z_r 64 1)], [], (true, X, I, J)) r
  refine z_ev_gs 2 (c1 := (281, 6, [some (z_r 64 1)], [], (true, X, I, J))) rfl ?_
  refine z_ev_gs 3 (c1 := (281, 13, [some (z_r 64 1)], [], (true, X, I, J))) rfl ?_
  refine z_ev_gs 2 (c1 := (281, 18, [some (z_r 64 1)], [z_i 1], (true, X, I, J))) rfl ?_
  rw [h]
  exact z_ev_rt rfl
theorem z_q278_e_1 {d : Nat} {r : Option z_V × z_M} {X : z_X} {I : Nat → Nat → Nat → Int32} {J : Nat → Nat → Nat → Int64} 
    (h : (∃ (v6 : Int32) (X1 : z_X) (I2 : Nat → Nat → Nat → Int32) (J3 : Nat → Nat → Nat → Int64), z_ev d (z_en 280 [z_r 64 1] (true, X, I, J)) (some (z_i (v6)), (true, X1, I2, J3)) ∧ r = (some (z_i ((3 : Int32) >>> (v6 &&& 31))), (true, X1, I2, J3)))) :
    z_ev (d + 1) (z_en 278 [z_r 64 1] (true, X, I, J)) r := by
  show z_ev (d + 1) (278, 0, [some (z_r 64 1)], [], (true, X, I, J)) r
  refine z_ev_gs 4 (c1 := (278, 6, [some (z_r 64 1)], [z_r 64 1, z_i 3], (true, X, I, J))) rfl ?_
  obtain ⟨v6, X1, I2, J3, g4, h5⟩ := h
  refine z_ev_ca rfl rfl g4 ?_
  refine z_ev_gs 1 (c1 := (278, 10, [some (z_r 64 1)], [z_i ((3 : Int32) >>> (v6 &&& 31))], (true, X1, I2, J3))) rfl ?_
  rw [h5]
  exact z_ev_rt rfl
theorem z_q283_e_1 {d : Nat} {r : Option z_V × z_M} {X : z_X} {I : Nat → Nat → Nat → Int32} {J : Nat → Nat → Nat → Int64} (x1 : Int32)
    (h : (∃ (X1 : z_X) (I2 : Nat → Nat → Nat → Int32) (J3 : Nat → Nat → Nat → Int64), z_ev (d + 1) (z_en 282 [z_i (x1), z_i 3] (true, X, I, J)) (none, (true, X1, I2, J3)) ∧ (∃ k6 : Nat, x1 = Int32.ofNat k6 ∧ k6 < 3 ∧ (z_nr 3 (((((z_sby.getD 1 []).getD k6 0) &&& (255 : Int32)).toUInt32 % 65536).toInt32) = true ∧ r = (some (z_i (((((z_sby.getD 1 []).getD k6 0) &&& (255 : Int32)).toUInt32 % 65536).toInt32)), (true, X1, I2, J3)))))) :
    z_ev (d + 2) (z_en 283 [z_r 65 1, z_i (x1)] (true, X, I, J)) r := by
  show z_ev (d + 2) (283, 0, [some (z_r 65 1), some (z_i (x1))], [], (true, X, I, J)) r
  refine z_ev_gs 3 (c1 := (283, 3, [some (z_r 65 1), some (z_i (x1))], [z_i 3, z_i (x1)], (true, X, I, J))) rfl ?_
  obtain ⟨X1, I2, J3, g4, h5⟩ := h
  refine z_ev_ca rfl rfl g4 ?_
  refine z_ev_gs 2 (c1 := (283, 8, [some (z_r 65 1), some (z_i (x1))], [z_i (x1), z_r 65 1], (true, X1, I2, J3))) rfl ?_
  obtain ⟨k6, e7, e8, h9⟩ := h5
  refine z_ev_bld (w1 := 1) (k := k6) (n := 3) rfl e7 e8 (by decide) ?_
  refine z_ev_gs 3 (c1 := (283, 14, [some (z_r 65 1), some (z_i (x1))], [z_i (((((z_sby.getD 1 []).getD k6 0) &&& (255 : Int32)).toUInt32 % 65536).toInt32)], (true, X1, I2, J3))) rfl ?_
  obtain ⟨g0, h10⟩ := h9
  rw [h10]
  exact z_ev_rtn rfl g0
theorem z_q279_e_1 {d : Nat} {r : Option z_V × z_M} {X : z_X} {I : Nat → Nat → Nat → Int32} {J : Nat → Nat → Nat → Int64} (x1 : Int32)
    (h : (∃ (b6 : Bool) (X1 : z_X) (I2 : Nat → Nat → Nat → Int32) (J3 : Nat → Nat → Nat → Int64), z_ev (d + 2) (z_en 281 [z_r 64 1] (true, X, I, J)) (some (z_i (z_c b6)), (true, X1, I2, J3)) ∧ ((b6 = false → False) ∧ (b6 = true → (∃ (v13 : Int32) (X8 : z_X) (I9 : Nat → Nat → Nat → Int32) (J10 : Nat → Nat → Nat → Int64), z_ev (d + 2) (z_en 283 [z_r 65 1, z_i (x1)] (true, X1, I2, J3)) (some (z_i (v13)), (true, X8, I9, J10)) ∧ (z_nr 3 v13 = true ∧ r = (some (z_i (v13)), (true, X8, I9, J10)))))))) :
    z_ev (d + 3) (z_en 279 [z_r 64 1, z_i (x1)] (true, X, I, J)) r := by
  show z_ev (d + 3) (279, 0, [some (z_r 64 1), some (z_i (x1))], [], (true, X, I, J)) r
  refine z_ev_gs 1 (c1 := (279, 1, [some (z_r 64 1), some (z_i (x1))], [z_r 64 1], (true, X, I, J))) rfl ?_
  obtain ⟨b6, X1, I2, J3, g4, h5⟩ := h
  refine z_ev_ca rfl rfl g4 ?_
  refine z_ev_gs 1 (c1 := (279, (if z_c b6 = 0 then 16 else 7), [some (z_r 64 1), some (z_i (x1))], [], (true, X1, I2, J3))) rfl ?_
  refine z_ev_ifc (fun e7 => ?_) (fun e7 => ?_)
  · have h15 := h5.1 e7
    exact h15.elim
  · have h16 := h5.2 e7
    refine z_ev_gs 3 (c1 := (279, 12, [some (z_r 64 1), some (z_i (x1))], [z_i (x1), z_r 65 1], (true, X1, I2, J3))) rfl ?_
    obtain ⟨v13, X8, I9, J10, g11, h12⟩ := h16
    refine z_ev_ca rfl rfl g11 ?_
    obtain ⟨g0, h14⟩ := h12
    rw [h14]
    exact z_ev_rtn rfl g0
theorem z_q57_e_1 {d : Nat} {r : Option z_V × z_M} {X : z_X} {I : Nat → Nat → Nat → Int32} {J : Nat → Nat → Nat → Int64} 
    (h : (∃ (v6 : Int32) (X1 : z_X) (I2 : Nat → Nat → Nat → Int32) (J3 : Nat → Nat → Nat → Int64), z_ev (d + 3) (z_en 278 [z_r 64 1] (true, X, I, J)) (some (z_i (v6)), (true, X1, I2, J3)) ∧ ((((I 15 0 4) - (I 15 0 3)) = v6 → z_ev (d + 4) (57, 20, [some (z_r 15 0), some (z_r 64 1), some (z_i 0)], [], (true, X1, I2, J3)) r) ∧ (¬ ((I 15 0 4) - (I 15 0 3)) = v6 → r = (some (z_i 0), (true, X1, I2, J3)))))) :
    z_ev (d + 4) (z_en 57 [z_r 15 0, z_r 64 1] (true, X, I, J)) r := by
  show z_ev (d + 4) (57, 0, [some (z_r 15 0), some (z_r 64 1), none], [], (true, X, I, J)) r
  refine z_ev_gs 6 (c1 := (57, 10, [some (z_r 15 0), some (z_r 64 1), none], [z_r 64 1, z_i ((I 15 0 4) - (I 15 0 3))], (true, X, I, J))) rfl ?_
  obtain ⟨v6, X1, I2, J3, g4, h5⟩ := h
  refine z_ev_ca rfl rfl g4 ?_
  refine z_ev_gs 1 (c1 := (57, (if ((I 15 0 4) - (I 15 0 3)) = v6 then 18 else 16), [some (z_r 15 0), some (z_r 64 1), none], [], (true, X1, I2, J3))) rfl ?_
  refine z_ev_if (fun e7 => ?_) (fun e7 => ?_)
  · have h8 := h5.1 e7
    refine z_ev_gs 2 (c1 := (57, 20, [some (z_r 15 0), some (z_r 64 1), some (z_i 0)], [], (true, X1, I2, J3))) rfl ?_
    exact h8
  · have h9 := h5.2 e7
    refine z_ev_gs 1 (c1 := (57, 17, [some (z_r 15 0), some (z_r 64 1), none], [z_i 0], (true, X1, I2, J3))) rfl ?_
    rw [h9]
    exact z_ev_rt rfl
theorem z_q57_20_1 {d : Nat} {r : Option z_V × z_M} {X : z_X} {I : Nat → Nat → Nat → Int32} {J : Nat → Nat → Nat → Int64} (x2 : Int32)
    (h : (∃ (v15 : Int32) (X10 : z_X) (I11 : Nat → Nat → Nat → Int32) (J12 : Nat → Nat → Nat → Int64), z_ev (d + 3) (z_en 278 [z_r 64 1] (true, X, I, J)) (some (z_i (v15)), (true, X10, I11, J12)) ∧ ((v15 ≤ x2 → r = (some (z_i 1), (true, X10, I11, J12))) ∧ (x2 < v15 → (∃ (v22 : Int32) (X17 : z_X) (I18 : Nat → Nat → Nat → Int32) (J19 : Nat → Nat → Nat → Int64), z_ev (d + 3) (z_en 53 [z_r 15 0, z_i ((I11 15 0 3) + x2)] (true, X10, I11, J12)) (some (z_i (v22)), (true, X17, I18, J19)) ∧ (∃ (v28 : Int32) (X23 : z_X) (I24 : Nat → Nat → Nat → Int32) (J25 : Nat → Nat → Nat → Int64), z_ev (d + 3) (z_en 279 [z_r 64 1, z_i (x2)] (true, X17, I18, J19)) (some (z_i (v28)), (true, X23, I24, J25)) ∧ ((v22 = v28 → z_ev (d + 4) (57, 20, [some (z_r 15 0), some (z_r 64 1), some (z_i (x2 + (1 : Int32)))], [], (true, X23, I24, J25)) r) ∧ (¬ v22 = v28 → r = (some (z_i 0), (true, X23, I24, J25)))))))))) :
    z_ev (d + 4) ((57, 20, [some (z_r 15 0), some (z_r 64 1), some (z_i (x2))], [], (true, X, I, J))) r := by
  refine z_ev_gs 2 (c1 := (57, 22, [some (z_r 15 0), some (z_r 64 1), some (z_i (x2))], [z_r 64 1, z_i (x2)], (true, X, I, J))) rfl ?_
  obtain ⟨v15, X10, I11, J12, g13, h14⟩ := h
  refine z_ev_ca rfl rfl g13 ?_
  refine z_ev_gs 1 (c1 := (57, (if v15 ≤ x2 then 54 else 28), [some (z_r 15 0), some (z_r 64 1), some (z_i (x2))], [], (true, X10, I11, J12))) rfl ?_
  refine z_ev_ifle (fun e16 => ?_) (fun e16 => ?_)
  · have h32 := h14.1 e16
    refine z_ev_gs 1 (c1 := (57, 55, [some (z_r 15 0), some (z_r 64 1), some (z_i (x2))], [z_i 1], (true, X10, I11, J12))) rfl ?_
    rw [h32]
    exact z_ev_rt rfl
  · have h33 := h14.2 e16
    refine z_ev_gs 5 (c1 := (57, 35, [some (z_r 15 0), some (z_r 64 1), some (z_i (x2))], [z_i ((I11 15 0 3) + x2), z_r 15 0], (true, X10, I11, J12))) rfl ?_
    obtain ⟨v22, X17, I18, J19, g20, h21⟩ := h33
    refine z_ev_ca rfl rfl g20 ?_
    refine z_ev_gs 2 (c1 := (57, 40, [some (z_r 15 0), some (z_r 64 1), some (z_i (x2))], [z_i (x2), z_r 64 1, z_i (v22)], (true, X17, I18, J19))) rfl ?_
    obtain ⟨v28, X23, I24, J25, g26, h27⟩ := h21
    refine z_ev_ca rfl rfl g26 ?_
    refine z_ev_gs 1 (c1 := (57, (if v22 = v28 then 48 else 46), [some (z_r 15 0), some (z_r 64 1), some (z_i (x2))], [], (true, X23, I24, J25))) rfl ?_
    refine z_ev_if (fun e29 => ?_) (fun e29 => ?_)
    · have h30 := h27.1 e29
      refine z_ev_gs 2 (c1 := (57, 20, [some (z_r 15 0), some (z_r 64 1), some (z_i (x2 + (1 : Int32)))], [], (true, X23, I24, J25))) rfl ?_
      exact h30
    · have h31 := h27.2 e29
      refine z_ev_gs 1 (c1 := (57, 47, [some (z_r 15 0), some (z_r 64 1), some (z_i (x2))], [z_i 0], (true, X23, I24, J25))) rfl ?_
      rw [h31]
      exact z_ev_rt rfl
theorem z_q280_e_2 {d : Nat} {r : Option z_V × z_M} {X : z_X} {I : Nat → Nat → Nat → Int32} {J : Nat → Nat → Nat → Int64} 
    (h : r = (some (z_i 0), (true, X, I, J))) :
    z_ev d (z_en 280 [z_r 64 2] (true, X, I, J)) r := by
  show z_ev d (280, 0, [some (z_r 64 2)], [], (true, X, I, J)) r
  refine z_ev_gs 2 (c1 := (280, 6, [some (z_r 64 2)], [], (true, X, I, J))) rfl ?_
  refine z_ev_gs 3 (c1 := (280, 14, [some (z_r 64 2)], [z_i 0], (true, X, I, J))) rfl ?_
  rw [h]
  exact z_ev_rt rfl
theorem z_q281_e_2 {d : Nat} {r : Option z_V × z_M} {X : z_X} {I : Nat → Nat → Nat → Int32} {J : Nat → Nat → Nat → Int64} 
    (h : r = (some (z_i 1), (true, X, I, J))) :
    z_ev d (z_en 281 [z_r 64 2] (true, X, I, J)) r := by
  show z_ev d (281, 0, [some (z_r 64 2)], [], (true, X, I, J)) r
  refine z_ev_gs 2 (c1 := (281, 6, [some (z_r 64 2)], [], (true, X, I, J))) rfl ?_
  refine z_ev_gs 3 (c1 := (281, 13, [some (z_r 64 2)], [], (true, X, I, J))) rfl ?_
  refine z_ev_gs 2 (c1 := (281, 18, [some (z_r 64 2)], [z_i 1], (true, X, I, J))) rfl ?_
  rw [h]
  exact z_ev_rt rfl
theorem z_q278_e_2 {d : Nat} {r : Option z_V × z_M} {X : z_X} {I : Nat → Nat → Nat → Int32} {J : Nat → Nat → Nat → Int64} 
    (h : (∃ (v6 : Int32) (X1 : z_X) (I2 : Nat → Nat → Nat → Int32) (J3 : Nat → Nat → Nat → Int64), z_ev d (z_en 280 [z_r 64 2] (true, X, I, J)) (some (z_i (v6)), (true, X1, I2, J3)) ∧ r = (some (z_i ((4 : Int32) >>> (v6 &&& 31))), (true, X1, I2, J3)))) :
    z_ev (d + 1) (z_en 278 [z_r 64 2] (true, X, I, J)) r := by
  show z_ev (d + 1) (278, 0, [some (z_r 64 2)], [], (true, X, I, J)) r
  refine z_ev_gs 4 (c1 := (278, 6, [some (z_r 64 2)], [z_r 64 2, z_i 4], (true, X, I, J))) rfl ?_
  obtain ⟨v6, X1, I2, J3, g4, h5⟩ := h
  refine z_ev_ca rfl rfl g4 ?_
  refine z_ev_gs 1 (c1 := (278, 10, [some (z_r 64 2)], [z_i ((4 : Int32) >>> (v6 &&& 31))], (true, X1, I2, J3))) rfl ?_
  rw [h5]
  exact z_ev_rt rfl
theorem z_q283_e_2 {d : Nat} {r : Option z_V × z_M} {X : z_X} {I : Nat → Nat → Nat → Int32} {J : Nat → Nat → Nat → Int64} (x1 : Int32)
    (h : (∃ (X1 : z_X) (I2 : Nat → Nat → Nat → Int32) (J3 : Nat → Nat → Nat → Int64), z_ev (d + 1) (z_en 282 [z_i (x1), z_i 4] (true, X, I, J)) (none, (true, X1, I2, J3)) ∧ (∃ k6 : Nat, x1 = Int32.ofNat k6 ∧ k6 < 4 ∧ (z_nr 3 (((((z_sby.getD 2 []).getD k6 0) &&& (255 : Int32)).toUInt32 % 65536).toInt32) = true ∧ r = (some (z_i (((((z_sby.getD 2 []).getD k6 0) &&& (255 : Int32)).toUInt32 % 65536).toInt32)), (true, X1, I2, J3)))))) :
    z_ev (d + 2) (z_en 283 [z_r 65 2, z_i (x1)] (true, X, I, J)) r := by
  show z_ev (d + 2) (283, 0, [some (z_r 65 2), some (z_i (x1))], [], (true, X, I, J)) r
  refine z_ev_gs 3 (c1 := (283, 3, [some (z_r 65 2), some (z_i (x1))], [z_i 4, z_i (x1)], (true, X, I, J))) rfl ?_
  obtain ⟨X1, I2, J3, g4, h5⟩ := h
  refine z_ev_ca rfl rfl g4 ?_
  refine z_ev_gs 2 (c1 := (283, 8, [some (z_r 65 2), some (z_i (x1))], [z_i (x1), z_r 65 2], (true, X1, I2, J3))) rfl ?_
  obtain ⟨k6, e7, e8, h9⟩ := h5
  refine z_ev_bld (w1 := 2) (k := k6) (n := 4) rfl e7 e8 (by decide) ?_
  refine z_ev_gs 3 (c1 := (283, 14, [some (z_r 65 2), some (z_i (x1))], [z_i (((((z_sby.getD 2 []).getD k6 0) &&& (255 : Int32)).toUInt32 % 65536).toInt32)], (true, X1, I2, J3))) rfl ?_
  obtain ⟨g0, h10⟩ := h9
  rw [h10]
  exact z_ev_rtn rfl g0
theorem z_q279_e_2 {d : Nat} {r : Option z_V × z_M} {X : z_X} {I : Nat → Nat → Nat → Int32} {J : Nat → Nat → Nat → Int64} (x1 : Int32)
    (h : (∃ (b6 : Bool) (X1 : z_X) (I2 : Nat → Nat → Nat → Int32) (J3 : Nat → Nat → Nat → Int64), z_ev (d + 2) (z_en 281 [z_r 64 2] (true, X, I, J)) (some (z_i (z_c b6)), (true, X1, I2, J3)) ∧ ((b6 = false → False) ∧ (b6 = true → (∃ (v13 : Int32) (X8 : z_X) (I9 : Nat → Nat → Nat → Int32) (J10 : Nat → Nat → Nat → Int64), z_ev (d + 2) (z_en 283 [z_r 65 2, z_i (x1)] (true, X1, I2, J3)) (some (z_i (v13)), (true, X8, I9, J10)) ∧ (z_nr 3 v13 = true ∧ r = (some (z_i (v13)), (true, X8, I9, J10)))))))) :
    z_ev (d + 3) (z_en 279 [z_r 64 2, z_i (x1)] (true, X, I, J)) r := by
  show z_ev (d + 3) (279, 0, [some (z_r 64 2), some (z_i (x1))], [], (true, X, I, J)) r
  refine z_ev_gs 1 (c1 := (279, 1, [some (z_r 64 2), some (z_i (x1))], [z_r 64 2], (true, X, I, J))) rfl ?_
  obtain ⟨b6, X1, I2, J3, g4, h5⟩ := h
  refine z_ev_ca rfl rfl g4 ?_
  refine z_ev_gs 1 (c1 := (279, (if z_c b6 = 0 then 16 else 7), [some (z_r 64 2), some (z_i (x1))], [], (true, X1, I2, J3))) rfl ?_
  refine z_ev_ifc (fun e7 => ?_) (fun e7 => ?_)
  · have h15 := h5.1 e7
    exact h15.elim
  · have h16 := h5.2 e7
    refine z_ev_gs 3 (c1 := (279, 12, [some (z_r 64 2), some (z_i (x1))], [z_i (x1), z_r 65 2], (true, X1, I2, J3))) rfl ?_
    obtain ⟨v13, X8, I9, J10, g11, h12⟩ := h16
    refine z_ev_ca rfl rfl g11 ?_
    obtain ⟨g0, h14⟩ := h12
    rw [h14]
    exact z_ev_rtn rfl g0
theorem z_q57_e_2 {d : Nat} {r : Option z_V × z_M} {X : z_X} {I : Nat → Nat → Nat → Int32} {J : Nat → Nat → Nat → Int64} 
    (h : (∃ (v6 : Int32) (X1 : z_X) (I2 : Nat → Nat → Nat → Int32) (J3 : Nat → Nat → Nat → Int64), z_ev (d + 3) (z_en 278 [z_r 64 2] (true, X, I, J)) (some (z_i (v6)), (true, X1, I2, J3)) ∧ ((((I 15 0 4) - (I 15 0 3)) = v6 → z_ev (d + 4) (57, 20, [some (z_r 15 0), some (z_r 64 2), some (z_i 0)], [], (true, X1, I2, J3)) r) ∧ (¬ ((I 15 0 4) - (I 15 0 3)) = v6 → r = (some (z_i 0), (true, X1, I2, J3)))))) :
    z_ev (d + 4) (z_en 57 [z_r 15 0, z_r 64 2] (true, X, I, J)) r := by
  show z_ev (d + 4) (57, 0, [some (z_r 15 0), some (z_r 64 2), none], [], (true, X, I, J)) r
  refine z_ev_gs 6 (c1 := (57, 10, [some (z_r 15 0), some (z_r 64 2), none], [z_r 64 2, z_i ((I 15 0 4) - (I 15 0 3))], (true, X, I, J))) rfl ?_
  obtain ⟨v6, X1, I2, J3, g4, h5⟩ := h
  refine z_ev_ca rfl rfl g4 ?_
  refine z_ev_gs 1 (c1 := (57, (if ((I 15 0 4) - (I 15 0 3)) = v6 then 18 else 16), [some (z_r 15 0), some (z_r 64 2), none], [], (true, X1, I2, J3))) rfl ?_
  refine z_ev_if (fun e7 => ?_) (fun e7 => ?_)
  · have h8 := h5.1 e7
    refine z_ev_gs 2 (c1 := (57, 20, [some (z_r 15 0), some (z_r 64 2), some (z_i 0)], [], (true, X1, I2, J3))) rfl ?_
    exact h8
  · have h9 := h5.2 e7
    refine z_ev_gs 1 (c1 := (57, 17, [some (z_r 15 0), some (z_r 64 2), none], [z_i 0], (true, X1, I2, J3))) rfl ?_
    rw [h9]
    exact z_ev_rt rfl
theorem z_q57_20_2 {d : Nat} {r : Option z_V × z_M} {X : z_X} {I : Nat → Nat → Nat → Int32} {J : Nat → Nat → Nat → Int64} (x2 : Int32)
    (h : (∃ (v15 : Int32) (X10 : z_X) (I11 : Nat → Nat → Nat → Int32) (J12 : Nat → Nat → Nat → Int64), z_ev (d + 3) (z_en 278 [z_r 64 2] (true, X, I, J)) (some (z_i (v15)), (true, X10, I11, J12)) ∧ ((v15 ≤ x2 → r = (some (z_i 1), (true, X10, I11, J12))) ∧ (x2 < v15 → (∃ (v22 : Int32) (X17 : z_X) (I18 : Nat → Nat → Nat → Int32) (J19 : Nat → Nat → Nat → Int64), z_ev (d + 3) (z_en 53 [z_r 15 0, z_i ((I11 15 0 3) + x2)] (true, X10, I11, J12)) (some (z_i (v22)), (true, X17, I18, J19)) ∧ (∃ (v28 : Int32) (X23 : z_X) (I24 : Nat → Nat → Nat → Int32) (J25 : Nat → Nat → Nat → Int64), z_ev (d + 3) (z_en 279 [z_r 64 2, z_i (x2)] (true, X17, I18, J19)) (some (z_i (v28)), (true, X23, I24, J25)) ∧ ((v22 = v28 → z_ev (d + 4) (57, 20, [some (z_r 15 0), some (z_r 64 2), some (z_i (x2 + (1 : Int32)))], [], (true, X23, I24, J25)) r) ∧ (¬ v22 = v28 → r = (some (z_i 0), (true, X23, I24, J25)))))))))) :
    z_ev (d + 4) ((57, 20, [some (z_r 15 0), some (z_r 64 2), some (z_i (x2))], [], (true, X, I, J))) r := by
  refine z_ev_gs 2 (c1 := (57, 22, [some (z_r 15 0), some (z_r 64 2), some (z_i (x2))], [z_r 64 2, z_i (x2)], (true, X, I, J))) rfl ?_
  obtain ⟨v15, X10, I11, J12, g13, h14⟩ := h
  refine z_ev_ca rfl rfl g13 ?_
  refine z_ev_gs 1 (c1 := (57, (if v15 ≤ x2 then 54 else 28), [some (z_r 15 0), some (z_r 64 2), some (z_i (x2))], [], (true, X10, I11, J12))) rfl ?_
  refine z_ev_ifle (fun e16 => ?_) (fun e16 => ?_)
  · have h32 := h14.1 e16
    refine z_ev_gs 1 (c1 := (57, 55, [some (z_r 15 0), some (z_r 64 2), some (z_i (x2))], [z_i 1], (true, X10, I11, J12))) rfl ?_
    rw [h32]
    exact z_ev_rt rfl
  · have h33 := h14.2 e16
    refine z_ev_gs 5 (c1 := (57, 35, [some (z_r 15 0), some (z_r 64 2), some (z_i (x2))], [z_i ((I11 15 0 3) + x2), z_r 15 0], (true, X10, I11, J12))) rfl ?_
    obtain ⟨v22, X17, I18, J19, g20, h21⟩ := h33
    refine z_ev_ca rfl rfl g20 ?_
    refine z_ev_gs 2 (c1 := (57, 40, [some (z_r 15 0), some (z_r 64 2), some (z_i (x2))], [z_i (x2), z_r 64 2, z_i (v22)], (true, X17, I18, J19))) rfl ?_
    obtain ⟨v28, X23, I24, J25, g26, h27⟩ := h21
    refine z_ev_ca rfl rfl g26 ?_
    refine z_ev_gs 1 (c1 := (57, (if v22 = v28 then 48 else 46), [some (z_r 15 0), some (z_r 64 2), some (z_i (x2))], [], (true, X23, I24, J25))) rfl ?_
    refine z_ev_if (fun e29 => ?_) (fun e29 => ?_)
    · have h30 := h27.1 e29
      refine z_ev_gs 2 (c1 := (57, 20, [some (z_r 15 0), some (z_r 64 2), some (z_i (x2 + (1 : Int32)))], [], (true, X23, I24, J25))) rfl ?_
      exact h30
    · have h31 := h27.2 e29
      refine z_ev_gs 1 (c1 := (57, 47, [some (z_r 15 0), some (z_r 64 2), some (z_i (x2))], [z_i 0], (true, X23, I24, J25))) rfl ?_
      rw [h31]
      exact z_ev_rt rfl
theorem z_q280_e_3 {d : Nat} {r : Option z_V × z_M} {X : z_X} {I : Nat → Nat → Nat → Int32} {J : Nat → Nat → Nat → Int64} 
    (h : r = (some (z_i 0), (true, X, I, J))) :
    z_ev d (z_en 280 [z_r 64 3] (true, X, I, J)) r := by
  show z_ev d (280, 0, [some (z_r 64 3)], [], (true, X, I, J)) r
  refine z_ev_gs 2 (c1 := (280, 6, [some (z_r 64 3)], [], (true, X, I, J))) rfl ?_
  refine z_ev_gs 3 (c1 := (280, 14, [some (z_r 64 3)], [z_i 0], (true, X, I, J))) rfl ?_
  rw [h]
  exact z_ev_rt rfl
theorem z_q281_e_3 {d : Nat} {r : Option z_V × z_M} {X : z_X} {I : Nat → Nat → Nat → Int32} {J : Nat → Nat → Nat → Int64} 
    (h : r = (some (z_i 1), (true, X, I, J))) :
    z_ev d (z_en 281 [z_r 64 3] (true, X, I, J)) r := by
  show z_ev d (281, 0, [some (z_r 64 3)], [], (true, X, I, J)) r
  refine z_ev_gs 2 (c1 := (281, 6, [some (z_r 64 3)], [], (true, X, I, J))) rfl ?_
  refine z_ev_gs 3 (c1 := (281, 13, [some (z_r 64 3)], [], (true, X, I, J))) rfl ?_
  refine z_ev_gs 2 (c1 := (281, 18, [some (z_r 64 3)], [z_i 1], (true, X, I, J))) rfl ?_
  rw [h]
  exact z_ev_rt rfl
theorem z_q278_e_3 {d : Nat} {r : Option z_V × z_M} {X : z_X} {I : Nat → Nat → Nat → Int32} {J : Nat → Nat → Nat → Int64} 
    (h : (∃ (v6 : Int32) (X1 : z_X) (I2 : Nat → Nat → Nat → Int32) (J3 : Nat → Nat → Nat → Int64), z_ev d (z_en 280 [z_r 64 3] (true, X, I, J)) (some (z_i (v6)), (true, X1, I2, J3)) ∧ r = (some (z_i ((4 : Int32) >>> (v6 &&& 31))), (true, X1, I2, J3)))) :
    z_ev (d + 1) (z_en 278 [z_r 64 3] (true, X, I, J)) r := by
  show z_ev (d + 1) (278, 0, [some (z_r 64 3)], [], (true, X, I, J)) r
  refine z_ev_gs 4 (c1 := (278, 6, [some (z_r 64 3)], [z_r 64 3, z_i 4], (true, X, I, J))) rfl ?_
  obtain ⟨v6, X1, I2, J3, g4, h5⟩ := h
  refine z_ev_ca rfl rfl g4 ?_
  refine z_ev_gs 1 (c1 := (278, 10, [some (z_r 64 3)], [z_i ((4 : Int32) >>> (v6 &&& 31))], (true, X1, I2, J3))) rfl ?_
  rw [h5]
  exact z_ev_rt rfl
theorem z_q283_e_3 {d : Nat} {r : Option z_V × z_M} {X : z_X} {I : Nat → Nat → Nat → Int32} {J : Nat → Nat → Nat → Int64} (x1 : Int32)
    (h : (∃ (X1 : z_X) (I2 : Nat → Nat → Nat → Int32) (J3 : Nat → Nat → Nat → Int64), z_ev (d + 1) (z_en 282 [z_i (x1), z_i 4] (true, X, I, J)) (none, (true, X1, I2, J3)) ∧ (∃ k6 : Nat, x1 = Int32.ofNat k6 ∧ k6 < 4 ∧ (z_nr 3 (((((z_sby.getD 3 []).getD k6 0) &&& (255 : Int32)).toUInt32 % 65536).toInt32) = true ∧ r = (some (z_i (((((z_sby.getD 3 []).getD k6 0) &&& (255 : Int32)).toUInt32 % 65536).toInt32)), (true, X1, I2, J3)))))) :
    z_ev (d + 2) (z_en 283 [z_r 65 3, z_i (x1)] (true, X, I, J)) r := by
  show z_ev (d + 2) (283, 0, [some (z_r 65 3), some (z_i (x1))], [], (true, X, I, J)) r
  refine z_ev_gs 3 (c1 := (283, 3, [some (z_r 65 3), some (z_i (x1))], [z_i 4, z_i (x1)], (true, X, I, J))) rfl ?_
  obtain ⟨X1, I2, J3, g4, h5⟩ := h
  refine z_ev_ca rfl rfl g4 ?_
  refine z_ev_gs 2 (c1 := (283, 8, [some (z_r 65 3), some (z_i (x1))], [z_i (x1), z_r 65 3], (true, X1, I2, J3))) rfl ?_
  obtain ⟨k6, e7, e8, h9⟩ := h5
  refine z_ev_bld (w1 := 3) (k := k6) (n := 4) rfl e7 e8 (by decide) ?_
  refine z_ev_gs 3 (c1 := (283, 14, [some (z_r 65 3), some (z_i (x1))], [z_i (((((z_sby.getD 3 []).getD k6 0) &&& (255 : Int32)).toUInt32 % 65536).toInt32)], (true, X1, I2, J3))) rfl ?_
  obtain ⟨g0, h10⟩ := h9
  rw [h10]
  exact z_ev_rtn rfl g0
theorem z_q279_e_3 {d : Nat} {r : Option z_V × z_M} {X : z_X} {I : Nat → Nat → Nat → Int32} {J : Nat → Nat → Nat → Int64} (x1 : Int32)
    (h : (∃ (b6 : Bool) (X1 : z_X) (I2 : Nat → Nat → Nat → Int32) (J3 : Nat → Nat → Nat → Int64), z_ev (d + 2) (z_en 281 [z_r 64 3] (true, X, I, J)) (some (z_i (z_c b6)), (true, X1, I2, J3)) ∧ ((b6 = false → False) ∧ (b6 = true → (∃ (v13 : Int32) (X8 : z_X) (I9 : Nat → Nat → Nat → Int32) (J10 : Nat → Nat → Nat → Int64), z_ev (d + 2) (z_en 283 [z_r 65 3, z_i (x1)] (true, X1, I2, J3)) (some (z_i (v13)), (true, X8, I9, J10)) ∧ (z_nr 3 v13 = true ∧ r = (some (z_i (v13)), (true, X8, I9, J10)))))))) :
    z_ev (d + 3) (z_en 279 [z_r 64 3, z_i (x1)] (true, X, I, J)) r := by
  show z_ev (d + 3) (279, 0, [some (z_r 64 3), some (z_i (x1))], [], (true, X, I, J)) r
  refine z_ev_gs 1 (c1 := (279, 1, [some (z_r 64 3), some (z_i (x1))], [z_r 64 3], (true, X, I, J))) rfl ?_
  obtain ⟨b6, X1, I2, J3, g4, h5⟩ := h
  refine z_ev_ca rfl rfl g4 ?_
  refine z_ev_gs 1 (c1 := (279, (if z_c b6 = 0 then 16 else 7), [some (z_r 64 3), some (z_i (x1))], [], (true, X1, I2, J3))) rfl ?_
  refine z_ev_ifc (fun e7 => ?_) (fun e7 => ?_)
  · have h15 := h5.1 e7
    exact h15.elim
  · have h16 := h5.2 e7
    refine z_ev_gs 3 (c1 := (279, 12, [some (z_r 64 3), some (z_i (x1))], [z_i (x1), z_r 65 3], (true, X1, I2, J3))) rfl ?_
    obtain ⟨v13, X8, I9, J10, g11, h12⟩ := h16
    refine z_ev_ca rfl rfl g11 ?_
    obtain ⟨g0, h14⟩ := h12
    rw [h14]
    exact z_ev_rtn rfl g0
theorem z_q57_e_3 {d : Nat} {r : Option z_V × z_M} {X : z_X} {I : Nat → Nat → Nat → Int32} {J : Nat → Nat → Nat → Int64} 
    (h : (∃ (v6 : Int32) (X1 : z_X) (I2 : Nat → Nat → Nat → Int32) (J3 : Nat → Nat → Nat → Int64), z_ev (d + 3) (z_en 278 [z_r 64 3] (true, X, I, J)) (some (z_i (v6)), (true, X1, I2, J3)) ∧ ((((I 15 0 4) - (I 15 0 3)) = v6 → z_ev (d + 4) (57, 20, [some (z_r 15 0), some (z_r 64 3), some (z_i 0)], [], (true, X1, I2, J3)) r) ∧ (¬ ((I 15 0 4) - (I 15 0 3)) = v6 → r = (some (z_i 0), (true, X1, I2, J3)))))) :
    z_ev (d + 4) (z_en 57 [z_r 15 0, z_r 64 3] (true, X, I, J)) r := by
  show z_ev (d + 4) (57, 0, [some (z_r 15 0), some (z_r 64 3), none], [], (true, X, I, J)) r
  refine z_ev_gs 6 (c1 := (57, 10, [some (z_r 15 0), some (z_r 64 3), none], [z_r 64 3, z_i ((I 15 0 4) - (I 15 0 3))], (true, X, I, J))) rfl ?_
  obtain ⟨v6, X1, I2, J3, g4, h5⟩ := h
  refine z_ev_ca rfl rfl g4 ?_
  refine z_ev_gs 1 (c1 := (57, (if ((I 15 0 4) - (I 15 0 3)) = v6 then 18 else 16), [some (z_r 15 0), some (z_r 64 3), none], [], (true, X1, I2, J3))) rfl ?_
  refine z_ev_if (fun e7 => ?_) (fun e7 => ?_)
  · have h8 := h5.1 e7
    refine z_ev_gs 2 (c1 := (57, 20, [some (z_r 15 0), some (z_r 64 3), some (z_i 0)], [], (true, X1, I2, J3))) rfl ?_
    exact h8
  · have h9 := h5.2 e7
    refine z_ev_gs 1 (c1 := (57, 17, [some (z_r 15 0), some (z_r 64 3), none], [z_i 0], (true, X1, I2, J3))) rfl ?_
    rw [h9]
    exact z_ev_rt rfl
theorem z_q57_20_3 {d : Nat} {r : Option z_V × z_M} {X : z_X} {I : Nat → Nat → Nat → Int32} {J : Nat → Nat → Nat → Int64} (x2 : Int32)
    (h : (∃ (v15 : Int32) (X10 : z_X) (I11 : Nat → Nat → Nat → Int32) (J12 : Nat → Nat → Nat → Int64), z_ev (d + 3) (z_en 278 [z_r 64 3] (true, X, I, J)) (some (z_i (v15)), (true, X10, I11, J12)) ∧ ((v15 ≤ x2 → r = (some (z_i 1), (true, X10, I11, J12))) ∧ (x2 < v15 → (∃ (v22 : Int32) (X17 : z_X) (I18 : Nat → Nat → Nat → Int32) (J19 : Nat → Nat → Nat → Int64), z_ev (d + 3) (z_en 53 [z_r 15 0, z_i ((I11 15 0 3) + x2)] (true, X10, I11, J12)) (some (z_i (v22)), (true, X17, I18, J19)) ∧ (∃ (v28 : Int32) (X23 : z_X) (I24 : Nat → Nat → Nat → Int32) (J25 : Nat → Nat → Nat → Int64), z_ev (d + 3) (z_en 279 [z_r 64 3, z_i (x2)] (true, X17, I18, J19)) (some (z_i (v28)), (true, X23, I24, J25)) ∧ ((v22 = v28 → z_ev (d + 4) (57, 20, [some (z_r 15 0), some (z_r 64 3), some (z_i (x2 + (1 : Int32)))], [], (true, X23, I24, J25)) r) ∧ (¬ v22 = v28 → r = (some (z_i 0), (true, X23, I24, J25)))))))))) :
    z_ev (d + 4) ((57, 20, [some (z_r 15 0), some (z_r 64 3), some (z_i (x2))], [], (true, X, I, J))) r := by
  refine z_ev_gs 2 (c1 := (57, 22, [some (z_r 15 0), some (z_r 64 3), some (z_i (x2))], [z_r 64 3, z_i (x2)], (true, X, I, J))) rfl ?_
  obtain ⟨v15, X10, I11, J12, g13, h14⟩ := h
  refine z_ev_ca rfl rfl g13 ?_
  refine z_ev_gs 1 (c1 := (57, (if v15 ≤ x2 then 54 else 28), [some (z_r 15 0), some (z_r 64 3), some (z_i (x2))], [], (true, X10, I11, J12))) rfl ?_
  refine z_ev_ifle (fun e16 => ?_) (fun e16 => ?_)
  · have h32 := h14.1 e16
    refine z_ev_gs 1 (c1 := (57, 55, [some (z_r 15 0), some (z_r 64 3), some (z_i (x2))], [z_i 1], (true, X10, I11, J12))) rfl ?_
    rw [h32]
    exact z_ev_rt rfl
  · have h33 := h14.2 e16
    refine z_ev_gs 5 (c1 := (57, 35, [some (z_r 15 0), some (z_r 64 3), some (z_i (x2))], [z_i ((I11 15 0 3) + x2), z_r 15 0], (true, X10, I11, J12))) rfl ?_
    obtain ⟨v22, X17, I18, J19, g20, h21⟩ := h33
    refine z_ev_ca rfl rfl g20 ?_
    refine z_ev_gs 2 (c1 := (57, 40, [some (z_r 15 0), some (z_r 64 3), some (z_i (x2))], [z_i (x2), z_r 64 3, z_i (v22)], (true, X17, I18, J19))) rfl ?_
    obtain ⟨v28, X23, I24, J25, g26, h27⟩ := h21
    refine z_ev_ca rfl rfl g26 ?_
    refine z_ev_gs 1 (c1 := (57, (if v22 = v28 then 48 else 46), [some (z_r 15 0), some (z_r 64 3), some (z_i (x2))], [], (true, X23, I24, J25))) rfl ?_
    refine z_ev_if (fun e29 => ?_) (fun e29 => ?_)
    · have h30 := h27.1 e29
      refine z_ev_gs 2 (c1 := (57, 20, [some (z_r 15 0), some (z_r 64 3), some (z_i (x2 + (1 : Int32)))], [], (true, X23, I24, J25))) rfl ?_
      exact h30
    · have h31 := h27.2 e29
      refine z_ev_gs 1 (c1 := (57, 47, [some (z_r 15 0), some (z_r 64 3), some (z_i (x2))], [z_i 0], (true, X23, I24, J25))) rfl ?_
      rw [h31]
      exact z_ev_rt rfl
theorem z_q53_e {d : Nat} {r : Option z_V × z_M} {X : z_X} {I : Nat → Nat → Nat → Int32} {J : Nat → Nat → Nat → Int64} (x1 : Int32)
    (h : ((x1 < 0 → r = (some (z_i (-1)), (true, X, I, J))) ∧ (0 ≤ x1 → (((I 15 0 1) ≤ x1 → r = (some (z_i (-1)), (true, X, I, J))) ∧ (x1 < (I 15 0 1) → (((160 : Int32) ≤ x1 → r = (some (z_i (-1)), (true, X, I, J))) ∧ (x1 < (160 : Int32) → (∃ k4 : Nat, x1 = Int32.ofNat k4 ∧ k4 < 160 ∧ r = (some (z_i (I 16 0 k4)), (true, X, I, J)))))))))) :
    z_ev d (z_en 53 [z_r 15 0, z_i (x1)] (true, X, I, J)) r := by
  show z_ev d (53, 0, [some (z_r 15 0), some (z_i (x1))], [], (true, X, I, J)) r
  refine z_ev_gs 2 (c1 := (53, (if x1 < 0 then 28 else 4), [some (z_r 15 0), some (z_i (x1))], [], (true, X, I, J))) rfl ?_
  refine z_ev_iflt (fun e1 => ?_) (fun e1 => ?_)
  · have h12 := h.1 e1
    refine z_ev_gs 1 (c1 := (53, 29, [some (z_r 15 0), some (z_i (x1))], [z_i (-1)], (true, X, I, J))) rfl ?_
    rw [h12]
    exact z_ev_rt rfl
  · have h13 := h.2 e1
    refine z_ev_gs 4 (c1 := (53, (if (I 15 0 1) ≤ x1 then 28 else 12), [some (z_r 15 0), some (z_i (x1))], [], (true, X, I, J))) rfl ?_
    refine z_ev_ifle (fun e2 => ?_) (fun e2 => ?_)
    · have h10 := h13.1 e2
      refine z_ev_gs 1 (c1 := (53, 29, [some (z_r 15 0), some (z_i (x1))], [z_i (-1)], (true, X, I, J))) rfl ?_
      rw [h10]
      exact z_ev_rt rfl
    · have h11 := h13.2 e2
      refine z_ev_gs 3 (c1 := (53, (if (160 : Int32) ≤ x1 then 28 else 19), [some (z_r 15 0), some (z_i (x1))], [], (true, X, I, J))) rfl ?_
      refine z_ev_ifle (fun e3 => ?_) (fun e3 => ?_)
      · have h8 := h11.1 e3
        refine z_ev_gs 1 (c1 := (53, 29, [some (z_r 15 0), some (z_i (x1))], [z_i (-1)], (true, X, I, J))) rfl ?_
        rw [h8]
        exact z_ev_rt rfl
      · have h9 := h11.2 e3
        refine z_ev_gs 3 (c1 := (53, 24, [some (z_r 15 0), some (z_i (x1))], [z_i (x1), z_r 16 0], (true, X, I, J))) rfl ?_
        obtain ⟨k4, e5, e6, h7⟩ := h9
        refine z_ev_iald (t := 16) (i := 0) (k := k4) (n := 160) rfl rfl e5 e6 (by decide) ?_
        refine z_ev_gs 1 (c1 := (53, 29, [some (z_r 15 0), some (z_i (x1))], [z_i (I 16 0 k4)], (true, X, I, J))) rfl ?_
        rw [h7]
        exact z_ev_rt rfl
theorem z_q56_e {d : Nat} {r : Option z_V × z_M} {X : z_X} {I : Nat → Nat → Nat → Int32} {J : Nat → Nat → Nat → Int64} (x1 : Int32)
    (h : (∃ (v6 : Int32) (X1 : z_X) (I2 : Nat → Nat → Nat → Int32) (J3 : Nat → Nat → Nat → Int64), z_ev d (z_en 53 [z_r 15 0, z_i (I 15 0 3)] (true, X, I, J)) (some (z_i (v6)), (true, X1, I2, J3)) ∧ ((¬ v6 = x1 → r = (some (z_i 0), (true, X1, I2, J3))) ∧ (v6 = x1 → r = (some (z_i 1), (true, X1, I2, J3)))))) :
    z_ev (d + 1) (z_en 56 [z_r 15 0, z_i (x1)] (true, X, I, J)) r := by
  show z_ev (d + 1) (56, 0, [some (z_r 15 0), some (z_i (x1))], [], (true, X, I, J)) r
  refine z_ev_gs 3 (c1 := (56, 5, [some (z_r 15 0), some (z_i (x1))], [z_i (I 15 0 3), z_r 15 0], (true, X, I, J))) rfl ?_
  obtain ⟨v6, X1, I2, J3, g4, h5⟩ := h
  refine z_ev_ca rfl rfl g4 ?_
  refine z_ev_gs 2 (c1 := (56, (if ¬ v6 = x1 then 16 else 12), [some (z_r 15 0), some (z_i (x1))], [], (true, X1, I2, J3))) rfl ?_
  refine z_ev_ifn (fun e7 => ?_) (fun e7 => ?_)
  · have h8 := h5.1 e7
    refine z_ev_gs 1 (c1 := (56, 17, [some (z_r 15 0), some (z_i (x1))], [z_i 0], (true, X1, I2, J3))) rfl ?_
    rw [h8]
    exact z_ev_rt rfl
  · have h9 := h5.2 e7
    refine z_ev_gs 2 (c1 := (56, 17, [some (z_r 15 0), some (z_i (x1))], [z_i 1], (true, X1, I2, J3))) rfl ?_
    rw [h9]
    exact z_ev_rt rfl
theorem z_q52_e {d : Nat} {r : Option z_V × z_M} {X : z_X} {I : Nat → Nat → Nat → Int32} {J : Nat → Nat → Nat → Int64} (x1 : Int32)
    (h : (∃ (v6 : Int32) (X1 : z_X) (I2 : Nat → Nat → Nat → Int32) (J3 : Nat → Nat → Nat → Int64), z_ev d (z_en 53 [z_r 15 0, z_i (I 15 0 3)] (true, X, I, J)) (some (z_i (v6)), (true, X1, I2, J3)) ∧ (∃ (v12 : Int32) (X7 : z_X) (I8 : Nat → Nat → Nat → Int32) (J9 : Nat → Nat → Nat → Int64), z_ev d (z_en 53 [z_r 15 0, z_i (x1)] (true, X1, I2, J3)) (some (z_i (v12)), (true, X7, I8, J9)) ∧ (((z_bw v6 97 122) = false → (((z_bw v6 48 57) = false → r = (some (z_i 0), (true, X7, I8, J9))) ∧ ((z_bw v6 48 57) = true → (((z_bw v12 48 57) = false → r = (some (z_i 0), (true, X7, I8, J9))) ∧ ((z_bw v12 48 57) = true → r = (some (z_i 1), (true, X7, I8, J9))))))) ∧ ((z_bw v6 97 122) = true → (((z_bw v12 97 122) = true → r = (some (z_i 1), (true, X7, I8, J9))) ∧ ((z_bw v12 97 122) = false → (((z_bw v6 48 57) = false → r = (some (z_i 0), (true, X7, I8, J9))) ∧ ((z_bw v6 48 57) = true → (((z_bw v12 48 57) = false → r = (some (z_i 0), (true, X7, I8, J9))) ∧ ((z_bw v12 48 57) = true → r = (some (z_i 1), (true, X7, I8, J9))))))))))))) :
    z_ev (d + 1) (z_en 52 [z_r 15 0, z_i (x1)] (true, X, I, J)) r := by
  show z_ev (d + 1) (52, 0, [some (z_r 15 0), some (z_i (x1)), none, none], [], (true, X, I, J)) r
  refine z_ev_gs 3 (c1 := (52, 5, [some (z_r 15 0), some (z_i (x1)), none, none], [z_i (I 15 0 3), z_r 15 0], (true, X, I, J))) rfl ?_
  obtain ⟨v6, X1, I2, J3, g4, h5⟩ := h
  refine z_ev_ca rfl rfl g4 ?_
  refine z_ev_gs 3 (c1 := (52, 11, [some (z_r 15 0), some (z_i (x1)), some (z_i (v6)), none], [z_i (x1), z_r 15 0], (true, X1, I2, J3))) rfl ?_
  obtain ⟨v12, X7, I8, J9, g10, h11⟩ := h5
  refine z_ev_ca rfl rfl g10 ?_
  refine z_ev_gs 2 (c1 := (52, 16, [some (z_r 15 0), some (z_i (x1)), some (z_i (v6)), some (z_i (v12))], [z_i (v6)], (true, X7, I8, J9))) rfl ?_
  refine z_ev_ca rfl rfl (z_p54 _) ?_
  refine z_ev_gs 1 (c1 := (52, (if z_c (z_bw v6 97 122) = 0 then 29 else 22), [some (z_r 15 0), some (z_i (x1)), some (z_i (v6)), some (z_i (v12))], [], (true, X7, I8, J9))) rfl ?_
  refine z_ev_ifc (fun e13 => ?_) (fun e13 => ?_)
  · have h29 := h11.1 e13
    refine z_ev_gs 1 (c1 := (52, 30, [some (z_r 15 0), some (z_i (x1)), some (z_i (v6)), some (z_i (v12))], [z_i (v6)], (true, X7, I8, J9))) rfl ?_
    refine z_ev_ca rfl rfl (z_p55 _) ?_
    refine z_ev_gs 1 (c1 := (52, (if z_c (z_bw v6 48 57) = 0 then 47 else 36), [some (z_r 15 0), some (z_i (x1)), some (z_i (v6)), some (z_i (v12))], [], (true, X7, I8, J9))) rfl ?_
    refine z_ev_ifc (fun e14 => ?_) (fun e14 => ?_)
    · have h18 := h29.1 e14
      refine z_ev_gs 1 (c1 := (52, 48, [some (z_r 15 0), some (z_i (x1)), some (z_i (v6)), some (z_i (v12))], [z_i 0], (true, X7, I8, J9))) rfl ?_
      rw [h18]
      exact z_ev_rt rfl
    · have h19 := h29.2 e14
      refine z_ev_gs 1 (c1 := (52, 37, [some (z_r 15 0), some (z_i (x1)), some (z_i (v6)), some (z_i (v12))], [z_i (v12)], (true, X7, I8, J9))) rfl ?_
      refine z_ev_ca rfl rfl (z_p55 _) ?_
      refine z_ev_gs 1 (c1 := (52, (if z_c (z_bw v12 48 57) = 0 then 47 else 43), [some (z_r 15 0), some (z_i (x1)), some (z_i (v6)), some (z_i (v12))], [], (true, X7, I8, J9))) rfl ?_
      refine z_ev_ifc (fun e15 => ?_) (fun e15 => ?_)
      · have h16 := h19.1 e15
        refine z_ev_gs 1 (c1 := (52, 48, [some (z_r 15 0), some (z_i (x1)), some (z_i (v6)), some (z_i (v12))], [z_i 0], (true, X7, I8, J9))) rfl ?_
        rw [h16]
        exact z_ev_rt rfl
      · have h17 := h19.2 e15
        refine z_ev_gs 2 (c1 := (52, 48, [some (z_r 15 0), some (z_i (x1)), some (z_i (v6)), some (z_i (v12))], [z_i 1], (true, X7, I8, J9))) rfl ?_
        rw [h17]
        exact z_ev_rt rfl
  · have h30 := h11.2 e13
    refine z_ev_gs 1 (c1 := (52, 23, [some (z_r 15 0), some (z_i (x1)), some (z_i (v6)), some (z_i (v12))], [z_i (v12)], (true, X7, I8, J9))) rfl ?_
    refine z_ev_ca rfl rfl (z_p54 _) ?_
    refine z_ev_gs 1 (c1 := (52, (if ¬ z_c (z_bw v12 97 122) = 0 then 43 else 29), [some (z_r 15 0), some (z_i (x1)), some (z_i (v6)), some (z_i (v12))], [], (true, X7, I8, J9))) rfl ?_
    refine z_ev_ifcn (fun e20 => ?_) (fun e20 => ?_)
    · have h27 := h30.1 e20
      refine z_ev_gs 2 (c1 := (52, 48, [some (z_r 15 0), some (z_i (x1)), some (z_i (v6)), some (z_i (v12))], [z_i 1], (true, X7, I8, J9))) rfl ?_
      rw [h27]
      exact z_ev_rt rfl
    · have h28 := h30.2 e20
      refine z_ev_gs 1 (c1 := (52, 30, [some (z_r 15 0), some (z_i (x1)), some (z_i (v6)), some (z_i (v12))], [z_i (v6)], (true, X7, I8, J9))) rfl ?_
      refine z_ev_ca rfl rfl (z_p55 _) ?_
      refine z_ev_gs 1 (c1 := (52, (if z_c (z_bw v6 48 57) = 0 then 47 else 36), [some (z_r 15 0), some (z_i (x1)), some (z_i (v6)), some (z_i (v12))], [], (true, X7, I8, J9))) rfl ?_
      refine z_ev_ifc (fun e21 => ?_) (fun e21 => ?_)
      · have h25 := h28.1 e21
        refine z_ev_gs 1 (c1 := (52, 48, [some (z_r 15 0), some (z_i (x1)), some (z_i (v6)), some (z_i (v12))], [z_i 0], (true, X7, I8, J9))) rfl ?_
        rw [h25]
        exact z_ev_rt rfl
      · have h26 := h28.2 e21
        refine z_ev_gs 1 (c1 := (52, 37, [some (z_r 15 0), some (z_i (x1)), some (z_i (v6)), some (z_i (v12))], [z_i (v12)], (true, X7, I8, J9))) rfl ?_
        refine z_ev_ca rfl rfl (z_p55 _) ?_
        refine z_ev_gs 1 (c1 := (52, (if z_c (z_bw v12 48 57) = 0 then 47 else 43), [some (z_r 15 0), some (z_i (x1)), some (z_i (v6)), some (z_i (v12))], [], (true, X7, I8, J9))) rfl ?_
        refine z_ev_ifc (fun e22 => ?_) (fun e22 => ?_)
        · have h23 := h26.1 e22
          refine z_ev_gs 1 (c1 := (52, 48, [some (z_r 15 0), some (z_i (x1)), some (z_i (v6)), some (z_i (v12))], [z_i 0], (true, X7, I8, J9))) rfl ?_
          rw [h23]
          exact z_ev_rt rfl
        · have h24 := h26.2 e22
          refine z_ev_gs 2 (c1 := (52, 48, [some (z_r 15 0), some (z_i (x1)), some (z_i (v6)), some (z_i (v12))], [z_i 1], (true, X7, I8, J9))) rfl ?_
          rw [h24]
          exact z_ev_rt rfl
theorem z_q51_e {d : Nat} {r : Option z_V × z_M} {X : z_X} {I : Nat → Nat → Nat → Int32} {J : Nat → Nat → Nat → Int64} 
    (h : z_ev (d + 2) (51, 10, [some (z_r 15 0), some (z_i 0)], [], (true, X, (z_up I 15 0 3 (I 15 0 4)), J)) r) :
    z_ev (d + 2) (z_en 51 [z_r 15 0] (true, X, I, J)) r := by
  show z_ev (d + 2) (51, 0, [some (z_r 15 0), none], [], (true, X, I, J)) r
  refine z_ev_gs 6 (c1 := (51, 10, [some (z_r 15 0), some (z_i 0)], [], (true, X, (z_up I 15 0 3 (I 15 0 4)), J))) rfl ?_
  exact h
theorem z_q51_10 {d : Nat} {r : Option z_V × z_M} {X : z_X} {I : Nat → Nat → Nat → Int32} {J : Nat → Nat → Nat → Int64} (x1 : Int32)
    (h : (((160 : Int32) ≤ x1 → (((I 15 0 1) ≤ (I 15 0 3) → z_ev (d + 2) (51, 76, [some (z_r 15 0), some (z_i 0)], [], (true, X, (z_up I 15 0 4 (I 15 0 3)), J)) r) ∧ ((I 15 0 3) < (I 15 0 1) → z_ev (d + 2) (51, 76, [some (z_r 15 0), some (z_i 0)], [], (true, X, (z_up I 15 0 4 ((I 15 0 3) + (1 : Int32))), J)) r))) ∧ (x1 < (160 : Int32) → (∃ (v10 : Int32) (X5 : z_X) (I6 : Nat → Nat → Nat → Int32) (J7 : Nat → Nat → Nat → Int64), z_ev (d + 1) (z_en 53 [z_r 15 0, z_i (I 15 0 3)] (true, X, I, J)) (some (z_i (v10)), (true, X5, I6, J7)) ∧ ((¬ v10 = (32 : Int32) → (((I6 15 0 1) ≤ (I6 15 0 3) → z_ev (d + 2) (51, 76, [some (z_r 15 0), some (z_i 0)], [], (true, X5, (z_up I6 15 0 4 (I6 15 0 3)), J7)) r) ∧ ((I6 15 0 3) < (I6 15 0 1) → z_ev (d + 2) (51, 76, [some (z_r 15 0), some (z_i 0)], [], (true, X5, (z_up I6 15 0 4 ((I6 15 0 3) + (1 : Int32))), J7)) r))) ∧ (v10 = (32 : Int32) → z_ev (d + 2) (51, 10, [some (z_r 15 0), some (z_i (x1 + (1 : Int32)))], [], (true, X5, (z_up I6 15 0 3 ((I6 15 0 3) + (1 : Int32))), J7)) r)))))) :
    z_ev (d + 2) ((51, 10, [some (z_r 15 0), some (z_i (x1))], [], (true, X, I, J))) r := by
  refine z_ev_gs 3 (c1 := (51, (if (160 : Int32) ≤ x1 then 46 else 17), [some (z_r 15 0), some (z_i (x1))], [], (true, X, I, J))) rfl ?_
  refine z_ev_ifle (fun e1 => ?_) (fun e1 => ?_)
  · have h17 := h.1 e1
    refine z_ev_gs 6 (c1 := (51, (if (I 15 0 1) ≤ (I 15 0 3) then 67 else 58), [some (z_r 15 0), some (z_i (x1))], [z_r 15 0], (true, X, I, J))) rfl ?_
    refine z_ev_ifle (fun e2 => ?_) (fun e2 => ?_)
    · have h3 := h17.1 e2
      refine z_ev_gs 5 (c1 := (51, 76, [some (z_r 15 0), some (z_i 0)], [], (true, X, (z_up I 15 0 4 (I 15 0 3)), J))) rfl ?_
      exact h3
    · have h4 := h17.2 e2
      refine z_ev_gs 8 (c1 := (51, 76, [some (z_r 15 0), some (z_i 0)], [], (true, X, (z_up I 15 0 4 ((I 15 0 3) + (1 : Int32))), J))) rfl ?_
      exact h4
  · have h18 := h.2 e1
    refine z_ev_gs 3 (c1 := (51, 22, [some (z_r 15 0), some (z_i (x1))], [z_i (I 15 0 3), z_r 15 0], (true, X, I, J))) rfl ?_
    obtain ⟨v10, X5, I6, J7, g8, h9⟩ := h18
    refine z_ev_ca rfl rfl g8 ?_
    refine z_ev_gs 2 (c1 := (51, (if ¬ v10 = (32 : Int32) then 46 else 30), [some (z_r 15 0), some (z_i (x1))], [], (true, X5, I6, J7))) rfl ?_
    refine z_ev_ifn (fun e11 => ?_) (fun e11 => ?_)
    · have h15 := h9.1 e11
      refine z_ev_gs 6 (c1 := (51, (if (I6 15 0 1) ≤ (I6 15 0 3) then 67 else 58), [some (z_r 15 0), some (z_i (x1))], [z_r 15 0], (true, X5, I6, J7))) rfl ?_
      refine z_ev_ifle (fun e12 => ?_) (fun e12 => ?_)
      · have h13 := h15.1 e12
        refine z_ev_gs 5 (c1 := (51, 76, [some (z_r 15 0), some (z_i 0)], [], (true, X5, (z_up I6 15 0 4 (I6 15 0 3)), J7))) rfl ?_
        exact h13
      · have h14 := h15.2 e12
        refine z_ev_gs 8 (c1 := (51, 76, [some (z_r 15 0), some (z_i 0)], [], (true, X5, (z_up I6 15 0 4 ((I6 15 0 3) + (1 : Int32))), J7))) rfl ?_
        exact h14
    · have h16 := h9.2 e11
      refine z_ev_gs 8 (c1 := (51, 10, [some (z_r 15 0), some (z_i (x1 + (1 : Int32)))], [], (true, X5, (z_up I6 15 0 3 ((I6 15 0 3) + (1 : Int32))), J7))) rfl ?_
      exact h16
theorem z_q51_76 {d : Nat} {r : Option z_V × z_M} {X : z_X} {I : Nat → Nat → Nat → Int32} {J : Nat → Nat → Nat → Int64} (x1 : Int32)
    (h : (((160 : Int32) ≤ x1 → r = (none, (true, X, I, J))) ∧ (x1 < (160 : Int32) → (∃ (b25 : Bool) (X20 : z_X) (I21 : Nat → Nat → Nat → Int32) (J22 : Nat → Nat → Nat → Int64), z_ev (d + 1) (z_en 52 [z_r 15 0, z_i (I 15 0 4)] (true, X, I, J)) (some (z_i (z_c b25)), (true, X20, I21, J22)) ∧ ((b25 = false → r = (none, (true, X20, I21, J22))) ∧ (b25 = true → z_ev (d + 2) (51, 76, [some (z_r 15 0), some (z_i (x1 + (1 : Int32)))], [], (true, X20, (z_up I21 15 0 4 ((I21 15 0 4) + (1 : Int32))), J22)) r)))))) :
    z_ev (d + 2) ((51, 76, [some (z_r 15 0), some (z_i (x1))], [], (true, X, I, J))) r := by
  refine z_ev_gs 3 (c1 := (51, (if (160 : Int32) ≤ x1 then 110 else 83), [some (z_r 15 0), some (z_i (x1))], [], (true, X, I, J))) rfl ?_
  refine z_ev_ifle (fun e19 => ?_) (fun e19 => ?_)
  · have h29 := h.1 e19
    rw [h29]
    exact z_ev_rt rfl
  · have h30 := h.2 e19
    refine z_ev_gs 3 (c1 := (51, 88, [some (z_r 15 0), some (z_i (x1))], [z_i (I 15 0 4), z_r 15 0], (true, X, I, J))) rfl ?_
    obtain ⟨b25, X20, I21, J22, g23, h24⟩ := h30
    refine z_ev_ca rfl rfl g23 ?_
    refine z_ev_gs 1 (c1 := (51, (if z_c b25 = 0 then 110 else 94), [some (z_r 15 0), some (z_i (x1))], [], (true, X20, I21, J22))) rfl ?_
    refine z_ev_ifc (fun e26 => ?_) (fun e26 => ?_)
    · have h27 := h24.1 e26
      rw [h27]
      exact z_ev_rt rfl
    · have h28 := h24.2 e26
      refine z_ev_gs 8 (c1 := (51, 76, [some (z_r 15 0), some (z_i (x1 + (1 : Int32)))], [], (true, X20, (z_up I21 15 0 4 ((I21 15 0 4) + (1 : Int32))), J22))) rfl ?_
      exact h28
theorem z_q58_e {d : Nat} {r : Option z_V × z_M} {X : z_X} {I : Nat → Nat → Nat → Int32} {J : Nat → Nat → Nat → Int64} 
    (h : (∃ (v6 : Int32) (X1 : z_X) (I2 : Nat → Nat → Nat → Int32) (J3 : Nat → Nat → Nat → Int64), z_ev d (z_en 53 [z_r 15 0, z_i (I 15 0 3)] (true, X, I, J)) (some (z_i (v6)), (true, X1, I2, J3)) ∧ (((z_bw v6 48 57) = false → r = (some (z_i (-1)), (true, X1, I2, J3))) ∧ ((z_bw v6 48 57) = true → ((((I2 15 0 4) - (I2 15 0 3)) ≤ (2 : Int32) → z_ev (d + 1) (58, 36, [some (z_r 15 0), some (z_i 0), some (z_i (I2 15 0 3))], [], (true, X1, I2, J3)) r) ∧ ((2 : Int32) < ((I2 15 0 4) - (I2 15 0 3)) → r = (some (z_i (-1)), (true, X1, I2, J3)))))))) :
    z_ev (d + 1) (z_en 58 [z_r 15 0] (true, X, I, J)) r := by
  show z_ev (d + 1) (58, 0, [some (z_r 15 0), none, none], [], (true, X, I, J)) r
  refine z_ev_gs 3 (c1 := (58, 5, [some (z_r 15 0), none, none], [z_i (I 15 0 3), z_r 15 0], (true, X, I, J))) rfl ?_
  obtain ⟨v6, X1, I2, J3, g4, h5⟩ := h
  refine z_ev_ca rfl rfl g4 ?_
  refine z_ev_ca rfl rfl (z_p55 _) ?_
  refine z_ev_gs 1 (c1 := (58, (if z_c (z_bw v6 48 57) = 0 then 27 else 14), [some (z_r 15 0), none, none], [], (true, X1, I2, J3))) rfl ?_
  refine z_ev_ifc (fun e7 => ?_) (fun e7 => ?_)
  · have h11 := h5.1 e7
    refine z_ev_gs 1 (c1 := (58, 28, [some (z_r 15 0), none, none], [z_i (-1)], (true, X1, I2, J3))) rfl ?_
    rw [h11]
    exact z_ev_rt rfl
  · have h12 := h5.2 e7
    refine z_ev_gs 7 (c1 := (58, (if ((I2 15 0 4) - (I2 15 0 3)) ≤ (2 : Int32) then 29 else 27), [some (z_r 15 0), none, none], [], (true, X1, I2, J3))) rfl ?_
    refine z_ev_ifle (fun e8 => ?_) (fun e8 => ?_)
    · have h9 := h12.1 e8
      refine z_ev_gs 5 (c1 := (58, 36, [some (z_r 15 0), some (z_i 0), some (z_i (I2 15 0 3))], [], (true, X1, I2, J3))) rfl ?_
      exact h9
    · have h10 := h12.2 e8
      refine z_ev_gs 1 (c1 := (58, 28, [some (z_r 15 0), none, none], [z_i (-1)], (true, X1, I2, J3))) rfl ?_
      rw [h10]
      exact z_ev_rt rfl
theorem z_q58_36 {d : Nat} {r : Option z_V × z_M} {X : z_X} {I : Nat → Nat → Nat → Int32} {J : Nat → Nat → Nat → Int64} (x1 : Int32) (x2 : Int32)
    (h : (((I 15 0 4) ≤ x2 → r = (some (z_i (x1)), (true, X, I, J))) ∧ (x2 < (I 15 0 4) → (∃ (v19 : Int32) (X14 : z_X) (I15 : Nat → Nat → Nat → Int32) (J16 : Nat → Nat → Nat → Int64), z_ev d (z_en 53 [z_r 15 0, z_i (x2)] (true, X, I, J)) (some (z_i (v19)), (true, X14, I15, J16)) ∧ z_ev (d + 1) (58, 36, [some (z_r 15 0), some (z_i (((x1 * (10 : Int32)) + v19) - (48 : Int32))), some (z_i (x2 + (1 : Int32)))], [], (true, X14, I15, J16)) r)))) :
    z_ev (d + 1) ((58, 36, [some (z_r 15 0), some (z_i (x1)), some (z_i (x2))], [], (true, X, I, J))) r := by
  refine z_ev_gs 4 (c1 := (58, (if (I 15 0 4) ≤ x2 then 64 else 44), [some (z_r 15 0), some (z_i (x1)), some (z_i (x2))], [], (true, X, I, J))) rfl ?_
  refine z_ev_ifle (fun e13 => ?_) (fun e13 => ?_)
  · have h20 := h.1 e13
    refine z_ev_gs 1 (c1 := (58, 65, [some (z_r 15 0), some (z_i (x1)), some (z_i (x2))], [z_i (x1)], (true, X, I, J))) rfl ?_
    rw [h20]
    exact z_ev_rt rfl
  · have h21 := h.2 e13
    refine z_ev_gs 5 (c1 := (58, 50, [some (z_r 15 0), some (z_i (x1)), some (z_i (x2))], [z_i (x2), z_r 15 0, z_i (x1 * (10 : Int32))], (true, X, I, J))) rfl ?_
    obtain ⟨v19, X14, I15, J16, g17, h18⟩ := h21
    refine z_ev_ca rfl rfl g17 ?_
    refine z_ev_gs 6 (c1 := (58, 36, [some (z_r 15 0), some (z_i (((x1 * (10 : Int32)) + v19) - (48 : Int32))), some (z_i (x2 + (1 : Int32)))], [], (true, X14, I15, J16))) rfl ?_
    exact h18
theorem z_q50_e {d : Nat} {r : Option z_V × z_M} {X : z_X} {I : Nat → Nat → Nat → Int32} {J : Nat → Nat → Nat → Int64} (x1 : Int32) (x2 : Int32)
    (h : z_ev (d + 1) (50, 2, [some (z_r 15 0), some (z_i (x1)), some (z_i (x2)), some (z_i 0)], [], (true, X, I, J)) r) :
    z_ev (d + 1) (z_en 50 [z_r 15 0, z_i (x1), z_i (x2)] (true, X, I, J)) r := by
  show z_ev (d + 1) (50, 0, [some (z_r 15 0), some (z_i (x1)), some (z_i (x2)), none], [], (true, X, I, J)) r
  refine z_ev_gs 2 (c1 := (50, 2, [some (z_r 15 0), some (z_i (x1)), some (z_i (x2)), some (z_i 0)], [], (true, X, I, J))) rfl ?_
  exact h
theorem z_q50_2 {d : Nat} {r : Option z_V × z_M} {X : z_X} {I : Nat → Nat → Nat → Int32} {J : Nat → Nat → Nat → Int64} (x1 : Int32) (x2 : Int32) (x3 : Int32)
    (h : (((I 13 8 1) ≤ x3 → r = (none, (true, X, I, J))) ∧ (x3 < (I 13 8 1) → ((((x2 >>> (x3 &&& 31)) &&& (1 : Int32)) = 0 → z_ev (d + 1) (50, 2, [some (z_r 15 0), some (z_i (x1)), some (z_i (x2)), some (z_i (x3 + (1 : Int32)))], [], (true, X, I, J)) r) ∧ (¬ ((x2 >>> (x3 &&& 31)) &&& (1 : Int32)) = 0 → (∃ (X3 : z_X) (I4 : Nat → Nat → Nat → Int32) (J5 : Nat → Nat → Nat → Int64), z_ev d (z_en 23 [z_r 13 8, z_i (x3), z_i (x1), z_i 1] (true, X, I, J)) (none, (true, X3, I4, J5)) ∧ z_ev (d + 1) (50, 2, [some (z_r 15 0), some (z_i (x1)), some (z_i (x2)), some (z_i (x3 + (1 : Int32)))], [], (true, X3, I4, J5)) r)))))) :
    z_ev (d + 1) ((50, 2, [some (z_r 15 0), some (z_i (x1)), some (z_i (x2)), some (z_i (x3))], [], (true, X, I, J))) r := by
  refine z_ev_gs 5 (c1 := (50, (if (I 13 8 1) ≤ x3 then 37 else 13), [some (z_r 15 0), some (z_i (x1)), some (z_i (x2)), some (z_i (x3))], [], (true, X, I, J))) rfl ?_
  refine z_ev_ifle (fun e1 => ?_) (fun e1 => ?_)
  · have h10 := h.1 e1
    rw [h10]
    exact z_ev_rt rfl
  · have h11 := h.2 e1
    refine z_ev_gs 6 (c1 := (50, (if ((x2 >>> (x3 &&& 31)) &&& (1 : Int32)) = 0 then 31 else 21), [some (z_r 15 0), some (z_i (x1)), some (z_i (x2)), some (z_i (x3))], [], (true, X, I, J))) rfl ?_
    refine z_ev_if (fun e2 => ?_) (fun e2 => ?_)
    · have h8 := h11.1 e2
      refine z_ev_gs 2 (c1 := (50, 2, [some (z_r 15 0), some (z_i (x1)), some (z_i (x2)), some (z_i (x3 + (1 : Int32)))], [], (true, X, I, J))) rfl ?_
      exact h8
    · have h9 := h11.2 e2
      refine z_ev_gs 5 (c1 := (50, 28, [some (z_r 15 0), some (z_i (x1)), some (z_i (x2)), some (z_i (x3))], [z_i 1, z_i (x1), z_i (x3), z_r 13 8], (true, X, I, J))) rfl ?_
      obtain ⟨X3, I4, J5, g6, h7⟩ := h9
      refine z_ev_ca rfl rfl g6 ?_
      refine z_ev_gs 2 (c1 := (50, 2, [some (z_r 15 0), some (z_i (x1)), some (z_i (x2)), some (z_i (x3 + (1 : Int32)))], [], (true, X3, I4, J5))) rfl ?_
      exact h7
theorem z_q49_e {d : Nat} {r : Option z_V × z_M} {X : z_X} {I : Nat → Nat → Nat → Int32} {J : Nat → Nat → Nat → Int64} 
    (h : (∃ (b245 : Bool) (X240 : z_X) (I241 : Nat → Nat → Nat → Int32) (J242 : Nat → Nat → Nat → Int64), z_ev (d + 4) (z_en 57 [z_r 15 0, z_r 64 1] (true, X, I, J)) (some (z_i (z_c b245)), (true, X240, I241, J242)) ∧ (∃ (b251 : Bool) (X246 : z_X) (I247 : Nat → Nat → Nat → Int32) (J248 : Nat → Nat → Nat → Int64), z_ev (d + 4) (z_en 57 [z_r 15 0, z_r 64 2] (true, X240, I241, J242)) (some (z_i (z_c b251)), (true, X246, I247, J248)) ∧ ((b245 = true → (∃ (X253 : z_X) (I254 : Nat → Nat → Nat → Int32) (J255 : Nat → Nat → Nat → Int64), z_ev (d + 4) (z_en 51 [z_r 15 0] (true, X246, I247, J248)) (none, (true, X253, I254, J255)) ∧ z_ev (d + 5) (49, 67, [some (z_r 15 0), some (z_i (z_c b245)), some (z_i (z_c b251)), some (z_i 1), some (z_i 0), some (z_i 0), some (z_i 0), some (z_i 0), none], [], (true, X253, I254, J255)) r)) ∧ (b245 = false → ((b251 = true → (∃ (X259 : z_X) (I260 : Nat → Nat → Nat → Int32) (J261 : Nat → Nat → Nat → Int64), z_ev (d + 4) (z_en 51 [z_r 15 0] (true, X246, I247, J248)) (none, (true, X259, I260, J261)) ∧ z_ev (d + 5) (49, 67, [some (z_r 15 0), some (z_i (z_c b245)), some (z_i (z_c b251)), some (z_i 3), some (z_i 0), some (z_i 0), some (z_i 0), some (z_i 0), none], [], (true, X259, I260, J261)) r)) ∧ (b251 = false → (∃ (b269 : Bool) (X264 : z_X) (I265 : Nat → Nat → Nat → Int32) (J266 : Nat → Nat → Nat → Int64), z_ev (d + 4) (z_en 57 [z_r 15 0, z_r 64 3] (true, X246, I247, J248)) (some (z_i (z_c b269)), (true, X264, I265, J266)) ∧ ((b269 = true → (∃ (X271 : z_X) (I272 : Nat → Nat → Nat → Int32) (J273 : Nat → Nat → Nat → Int64), z_ev (d + 4) (z_en 51 [z_r 15 0] (true, X264, I265, J266)) (none, (true, X271, I272, J273)) ∧ z_ev (d + 5) (49, 67, [some (z_r 15 0), some (z_i (z_c b245)), some (z_i (z_c b251)), some (z_i 2), some (z_i 0), some (z_i 0), some (z_i 0), some (z_i 0), none], [], (true, X271, I272, J273)) r)) ∧ (b269 = false → r = (some (z_i 0), (true, X264, I265, J266)))))))))))) :
    z_ev (d + 5) (z_en 49 [z_r 15 0] (true, X, I, J)) r := by
  show z_ev (d + 5) (49, 0, [some (z_r 15 0), none, none, none, none, none, none, none, none], [], (true, X, I, J)) r
  refine z_ev_gs 2 (c1 := (49, 3, [some (z_r 15 0), none, none, none, none, none, none, none, none], [z_r 64 1, z_r 15 0], (true, X, I, J))) rfl ?_
  obtain ⟨b245, X240, I241, J242, g243, h244⟩ := h
  refine z_ev_ca rfl rfl g243 ?_
  refine z_ev_gs 3 (c1 := (49, 10, [some (z_r 15 0), some (z_i (z_c b245)), none, none, none, none, none, none, none], [z_r 64 2, z_r 15 0], (true, X240, I241, J242))) rfl ?_
  obtain ⟨b251, X246, I247, J248, g249, h250⟩ := h244
  refine z_ev_ca rfl rfl g249 ?_
  refine z_ev_gs 3 (c1 := (49, (if ¬ z_c b245 = 0 then 33 else 18), [some (z_r 15 0), some (z_i (z_c b245)), some (z_i (z_c b251)), none, none, none, none, none, none], [], (true, X246, I247, J248))) rfl ?_
  refine z_ev_ifcn (fun e252 => ?_) (fun e252 => ?_)
  · have h280 := h250.1 e252
    refine z_ev_gs 1 (c1 := (49, 34, [some (z_r 15 0), some (z_i (z_c b245)), some (z_i (z_c b251)), none, none, none, none, none, none], [z_r 15 0], (true, X246, I247, J248))) rfl ?_
    obtain ⟨X253, I254, J255, g256, h257⟩ := h280
    refine z_ev_ca rfl rfl g256 ?_
    refine z_ev_gs 2 (c1 := (49, (if z_c b245 = 0 then 45 else 41), [some (z_r 15 0), some (z_i (z_c b245)), some (z_i (z_c b251)), none, none, none, none, none, none], [], (true, X253, I254, J255))) rfl ?_
    refine z_ev_ict e252 ?_
    refine z_ev_gs 11 (c1 := (49, 67, [some (z_r 15 0), some (z_i (z_c b245)), some (z_i (z_c b251)), some (z_i 1), some (z_i 0), some (z_i 0), some (z_i 0), some (z_i 0), none], [], (true, X253, I254, J255))) rfl ?_
    exact h257
  · have h281 := h250.2 e252
    refine z_ev_gs 2 (c1 := (49, (if ¬ z_c b251 = 0 then 33 else 22), [some (z_r 15 0), some (z_i (z_c b245)), some (z_i (z_c b251)), none, none, none, none, none, none], [], (true, X246, I247, J248))) rfl ?_
    refine z_ev_ifcn (fun e258 => ?_) (fun e258 => ?_)
    · have h278 := h281.1 e258
      refine z_ev_gs 1 (c1 := (49, 34, [some (z_r 15 0), some (z_i (z_c b245)), some (z_i (z_c b251)), none, none, none, none, none, none], [z_r 15 0], (true, X246, I247, J248))) rfl ?_
      obtain ⟨X259, I260, J261, g262, h263⟩ := h278
      refine z_ev_ca rfl rfl g262 ?_
      refine z_ev_gs 2 (c1 := (49, (if z_c b245 = 0 then 45 else 41), [some (z_r 15 0), some (z_i (z_c b245)), some (z_i (z_c b251)), none, none, none, none, none, none], [], (true, X259, I260, J261))) rfl ?_
      refine z_ev_icf e252 ?_
      refine z_ev_gs 2 (c1 := (49, (if z_c b251 = 0 then 53 else 49), [some (z_r 15 0), some (z_i (z_c b245)), some (z_i (z_c b251)), none, none, none, none, none, none], [], (true, X259, I260, J261))) rfl ?_
      refine z_ev_ict e258 ?_
      refine z_ev_gs 11 (c1 := (49, 67, [some (z_r 15 0), some (z_i (z_c b245)), some (z_i (z_c b251)), some (z_i 3), some (z_i 0), some (z_i 0), some (z_i 0), some (z_i 0), none], [], (true, X259, I260, J261))) rfl ?_
      exact h263
    · have h279 := h281.2 e258
      refine z_ev_gs 2 (c1 := (49, 25, [some (z_r 15 0), some (z_i (z_c b245)), some (z_i (z_c b251)), none, none, none, none, none, none], [z_r 64 3, z_r 15 0], (true, X246, I247, J248))) rfl ?_
      obtain ⟨b269, X264, I265, J266, g267, h268⟩ := h279
      refine z_ev_ca rfl rfl g267 ?_
      refine z_ev_gs 1 (c1 := (49, (if ¬ z_c b269 = 0 then 33 else 31), [some (z_r 15 0), some (z_i (z_c b245)), some (z_i (z_c b251)), none, none, none, none, none, none], [], (true, X264, I265, J266))) rfl ?_
      refine z_ev_ifcn (fun e270 => ?_) (fun e270 => ?_)
      · have h276 := h268.1 e270
        refine z_ev_gs 1 (c1 := (49, 34, [some (z_r 15 0), some (z_i (z_c b245)), some (z_i (z_c b251)), none, none, none, none, none, none], [z_r 15 0], (true, X264, I265, J266))) rfl ?_
        obtain ⟨X271, I272, J273, g274, h275⟩ := h276
        refine z_ev_ca rfl rfl g274 ?_
        refine z_ev_gs 2 (c1 := (49, (if z_c b245 = 0 then 45 else 41), [some (z_r 15 0), some (z_i (z_c b245)), some (z_i (z_c b251)), none, none, none, none, none, none], [], (true, X271, I272, J273))) rfl ?_
        refine z_ev_icf e252 ?_
        refine z_ev_gs 2 (c1 := (49, (if z_c b251 = 0 then 53 else 49), [some (z_r 15 0), some (z_i (z_c b245)), some (z_i (z_c b251)), none, none, none, none, none, none], [], (true, X271, I272, J273))) rfl ?_
        refine z_ev_icf e258 ?_
        refine z_ev_gs 10 (c1 := (49, 67, [some (z_r 15 0), some (z_i (z_c b245)), some (z_i (z_c b251)), some (z_i 2), some (z_i 0), some (z_i 0), some (z_i 0), some (z_i 0), none], [], (true, X271, I272, J273))) rfl ?_
        exact h275
      · have h277 := h268.2 e270
        refine z_ev_gs 1 (c1 := (49, 32, [some (z_r 15 0), some (z_i (z_c b245)), some (z_i (z_c b251)), none, none, none, none, none, none], [z_i 0], (true, X264, I265, J266))) rfl ?_
        rw [h277]
        exact z_ev_rt rfl
theorem z_q49_67 {d : Nat} {r : Option z_V × z_M} {X : z_X} {I : Nat → Nat → Nat → Int32} {J : Nat → Nat → Nat → Int64} (b1 : Bool) (b2 : Bool) (x3 : Int32) (x4 : Int32) (x5 : Int32) (x6 : Int32) (x7 : Int32) (o8 : Option z_V)
    (h : (((10 : Int32) ≤ x7 → (∃ (b288 : Bool) (X283 : z_X) (I284 : Nat → Nat → Nat → Int32) (J285 : Nat → Nat → Nat → Int64), z_ev (d + 4) (z_en 56 [z_r 15 0, z_i 59] (true, X, I, J)) (some (z_i (z_c b288)), (true, X283, I284, J285)) ∧ ((b288 = true → ((b2 = false → (∃ (X291 : z_X) (I292 : Nat → Nat → Nat → Int32) (J293 : Nat → Nat → Nat → Int64), z_ev (d + 4) (z_en 51 [z_r 15 0] (true, X283, I284, J285)) (none, (true, X291, I292, J293)) ∧ r = (some (z_i 1), (true, X291, I292, J293)))) ∧ (b2 = true → (∃ (X296 : z_X) (I297 : Nat → Nat → Nat → Int32) (J298 : Nat → Nat → Nat → Int64), z_ev (d + 4) (z_en 23 [z_r 13 8, z_i (x6), z_i (x5), z_i 1] (true, X283, I284, J285)) (none, (true, X296, I297, J298)) ∧ (∃ (X301 : z_X) (I302 : Nat → Nat → Nat → Int32) (J303 : Nat → Nat → Nat → Int64), z_ev (d + 4) (z_en 51 [z_r 15 0] (true, X296, I297, J298)) (none, (true, X301, I302, J303)) ∧ r = (some (z_i 1), (true, X301, I302, J303))))))) ∧ (b288 = false → r = (some (z_i 0), (true, X283, I284, J285)))))) ∧ (x7 < (10 : Int32) → ((x7 < x3 → (∃ (v316 : Int32) (X311 : z_X) (I312 : Nat → Nat → Nat → Int32) (J313 : Nat → Nat → Nat → Int64), z_ev (d + 4) (z_en 58 [z_r 15 0] (true, X, I, J)) (some (z_i (v316)), (true, X311, I312, J313)) ∧ ((v316 < 0 → r = (some (z_i 0), (true, X311, I312, J313))) ∧ (0 ≤ v316 → (((I312 13 8 1) ≤ v316 → r = (some (z_i 0), (true, X311, I312, J313))) ∧ (v316 < (I312 13 8 1) → ((((x4 >>> (v316 &&& 31)) &&& (1 : Int32)) = 0 → ((¬ x7 = 0 → ((b1 = false → (∃ (X322 : z_X) (I323 : Nat → Nat → Nat → Int32) (J324 : Nat → Nat → Nat → Int64), z_ev (d + 4) (z_en 50 [z_r 15 0, z_i (v316), z_i ((1 : Int32) <<< (x6 &&& 31))] (true, X311, I312, J313)) (none, (true, X322, I323, J324)) ∧ (∃ (X327 : z_X) (I328 : Nat → Nat → Nat → Int32) (J329 : Nat → Nat → Nat → Int64), z_ev (d + 4) (z_en 51 [z_r 15 0] (true, X322, I323, J324)) (none, (true, X327, I328, J329)) ∧ z_ev (d + 5) (49, 67, [some (z_r 15 0), some (z_i (z_c b1)), some (z_i (z_c b2)), some (z_i (x3)), some (z_i (x4 ||| ((1 : Int32) <<< (v316 &&& 31)))), some (z_i (x5)), some (z_i (v316)), some (z_i (x7 + (1 : Int32))), some (z_i (v316))], [], (true, X327, I328, J329)) r))) ∧ (b1 = true → (∃ (X332 : z_X) (I333 : Nat → Nat → Nat → Int32) (J334 : Nat → Nat → Nat → Int64), z_ev (d + 4) (z_en 50 [z_r 15 0, z_i (v316), z_i (x4)] (true, X311, I312, J313)) (none, (true, X332, I333, J334)) ∧ (∃ (X337 : z_X) (I338 : Nat → Nat → Nat → Int32) (J339 : Nat → Nat → Nat → Int64), z_ev (d + 4) (z_en 51 [z_r 15 0] (true, X332, I333, J334)) (none, (true, X337, I338, J339)) ∧ z_ev (d + 5) (49, 67, [some (z_r 15 0), some (z_i (z_c b1)), some (z_i (z_c b2)), some (z_i (x3)), some (z_i (x4 ||| ((1 : Int32) <<< (v316 &&& 31)))), some (z_i (x5)), some (z_i (v316)), some (z_i (x7 + (1 : Int32))), some (z_i (v316))], [], (true, X337, I338, J339)) r))))) ∧ (x7 = 0 → ((b1 = false → (∃ (X345 : z_X) (I346 : Nat → Nat → Nat → Int32) (J347 : Nat → Nat → Nat → Int64), z_ev (d + 4) (z_en 50 [z_r 15 0, z_i (v316), z_i 0] (true, X311, I312, J313)) (none, (true, X345, I346, J347)) ∧ (∃ (X350 : z_X) (I351 : Nat → Nat → Nat → Int32) (J352 : Nat → Nat → Nat → Int64), z_ev (d + 4) (z_en 51 [z_r 15 0] (true, X345, I346, J347)) (none, (true, X350, I351, J352)) ∧ z_ev (d + 5) (49, 67, [some (z_r 15 0), some (z_i (z_c b1)), some (z_i (z_c b2)), some (z_i (x3)), some (z_i (x4 ||| ((1 : Int32) <<< (v316 &&& 31)))), some (z_i (v316)), some (z_i (v316)), some (z_i (x7 + (1 : Int32))), some (z_i (v316))], [], (true, X350, I351, J352)) r))) ∧ (b1 = true → (∃ (X355 : z_X) (I356 : Nat → Nat → Nat → Int32) (J357 : Nat → Nat → Nat → Int64), z_ev (d + 4) (z_en 50 [z_r 15 0, z_i (v316), z_i (x4)] (true, X311, I312, J313)) (none, (true, X355, I356, J357)) ∧ (∃ (X360 : z_X) (I361 : Nat → Nat → Nat → Int32) (J362 : Nat → Nat → Nat → Int64), z_ev (d + 4) (z_en 51 [z_r 15 0] (true, X355, I356, J357)) (none, (true, X360, I361, J362)) ∧ z_ev (d + 5) (49, 67, [some (z_r 15 0), some (z_i (z_c b1)), some (z_i (z_c b2)), some (z_i (x3)), some (z_i (x4 ||| ((1 : Int32) <<< (v316 &&& 31)))), some (z_i (v316)), some (z_i (v316)), some (z_i (x7 + (1 : Int32))), some (z_i (v316))], [], (true, X360, I361, J362)) r))))))) ∧ (¬ ((x4 >>> (v316 &&& 31)) &&& (1 : Int32)) = 0 → r = (some (z_i 0), (true, X311, I312, J313)))))))))) ∧ (x3 ≤ x7 → (∃ (b380 : Bool) (X375 : z_X) (I376 : Nat → Nat → Nat → Int32) (J377 : Nat → Nat → Nat → Int64), z_ev (d + 4) (z_en 56 [z_r 15 0, z_i 59] (true, X, I, J)) (some (z_i (z_c b380)), (true, X375, I376, J377)) ∧ ((b380 = true → (∃ (b387 : Bool) (X382 : z_X) (I383 : Nat → Nat → Nat → Int32) (J384 : Nat → Nat → Nat → Int64), z_ev (d + 4) (z_en 56 [z_r 15 0, z_i 59] (true, X375, I376, J377)) (some (z_i (z_c b387)), (true, X382, I383, J384)) ∧ ((b387 = true → ((b2 = false → (∃ (X390 : z_X) (I391 : Nat → Nat → Nat → Int32) (J392 : Nat → Nat → Nat → Int64), z_ev (d + 4) (z_en 51 [z_r 15 0] (true, X382, I383, J384)) (none, (true, X390, I391, J392)) ∧ r = (some (z_i 1), (true, X390, I391, J392)))) ∧ (b2 = true → (∃ (X395 : z_X) (I396 : Nat → Nat → Nat → Int32) (J397 : Nat → Nat → Nat → Int64), z_ev (d + 4) (z_en 23 [z_r 13 8, z_i (x6), z_i (x5), z_i 1] (true, X382, I383, J384)) (none, (true, X395, I396, J397)) ∧ (∃ (X400 : z_X) (I401 : Nat → Nat → Nat → Int32) (J402 : Nat → Nat → Nat → Int64), z_ev (d + 4) (z_en 51 [z_r 15 0] (true, X395, I396, J397)) (none, (true, X400, I401, J402)) ∧ r = (some (z_i 1), (true, X400, I401, J402))))))) ∧ (b387 = false → r = (some (z_i 0), (true, X382, I383, J384)))))) ∧ (b380 = false → (∃ (v414 : Int32) (X409 : z_X) (I410 : Nat → Nat → Nat → Int32) (J411 : Nat → Nat → Nat → Int64), z_ev (d + 4) (z_en 58 [z_r 15 0] (true, X375, I376, J377)) (some (z_i (v414)), (true, X409, I410, J411)) ∧ ((v414 < 0 → r = (some (z_i 0), (true, X409, I410, J411))) ∧ (0 ≤ v414 → (((I410 13 8 1) ≤ v414 → r = (some (z_i 0), (true, X409, I410, J411))) ∧ (v414 < (I410 13 8 1) → ((((x4 >>> (v414 &&& 31)) &&& (1 : Int32)) = 0 → ((¬ x7 = 0 → ((b1 = false → (∃ (X420 : z_X) (I421 : Nat → Nat → Nat → Int32) (J422 : Nat → Nat → Nat → Int64), z_ev (d + 4) (z_en 50 [z_r 15 0, z_i (v414), z_i ((1 : Int32) <<< (x6 &&& 31))] (true, X409, I410, J411)) (none, (true, X420, I421, J422)) ∧ (∃ (X425 : z_X) (I426 : Nat → Nat → Nat → Int32) (J427 : Nat → Nat → Nat → Int64), z_ev (d + 4) (z_en 51 [z_r 15 0] (true, X420, I421, J422)) (none, (true, X425, I426, J427)) ∧ z_ev (d + 5) (49, 67, [some (z_r 15 0), some (z_i (z_c b1)), some (z_i (z_c b2)), some (z_i (x3)), some (z_i (x4 ||| ((1 : Int32) <<< (v414 &&& 31)))), some (z_i (x5)), some (z_i (v414)), some (z_i (x7 + (1 : Int32))), some (z_i (v414))], [], (true, X425, I426, J427)) r))) ∧ (b1 = true → (∃ (X430 : z_X) (I431 : Nat → Nat → Nat → Int32) (J432 : Nat → Nat → Nat → Int64), z_ev (d + 4) (z_en 50 [z_r 15 0, z_i (v414), z_i (x4)] (true, X409, I410, J411)) (none, (true, X430, I431, J432)) ∧ (∃ (X435 : z_X) (I436 : Nat → Nat → Nat → Int32) (J437 : Nat → Nat → Nat → Int64), z_ev (d + 4) (z_en 51 [z_r 15 0] (true, X430, I431, J432)) (none, (true, X435, I436, J437)) ∧ z_ev (d + 5) (49, 67, [some (z_r 15 0), some (z_i (z_c b1)), some (z_i (z_c b2)), some (z_i (x3)), some (z_i (x4 ||| ((1 : Int32) <<< (v414 &&& 31)))), some (z_i (x5)), some (z_i (v414)), some (z_i (x7 + (1 : Int32))), some (z_i (v414))], [], (true, X435, I436, J437)) r))))) ∧ (x7 = 0 → ((b1 = false → (∃ (X443 : z_X) (I444 : Nat → Nat → Nat → Int32) (J445 : Nat → Nat → Nat → Int64), z_ev (d + 4) (z_en 50 [z_r 15 0, z_i (v414), z_i 0] (true, X409, I410, J411)) (none, (true, X443, I444, J445)) ∧ (∃ (X448 : z_X) (I449 : Nat → Nat → Nat → Int32) (J450 : Nat → Nat → Nat → Int64), z_ev (d + 4) (z_en 51 [z_r 15 0] (true, X443, I444, J445)) (none, (true, X448, I449, J450)) ∧ z_ev (d + 5) (49, 67, [some (z_r 15 0), some (z_i (z_c b1)), some (z_i (z_c b2)), some (z_i (x3)), some (z_i (x4 ||| ((1 : Int32) <<< (v414 &&& 31)))), some (z_i (v414)), some (z_i (v414)), some (z_i (x7 + (1 : Int32))), some (z_i (v414))], [], (true, X448, I449, J450)) r))) ∧ (b1 = true → (∃ (X453 : z_X) (I454 : Nat → Nat → Nat → Int32) (J455 : Nat → Nat → Nat → Int64), z_ev (d + 4) (z_en 50 [z_r 15 0, z_i (v414), z_i (x4)] (true, X409, I410, J411)) (none, (true, X453, I454, J455)) ∧ (∃ (X458 : z_X) (I459 : Nat → Nat → Nat → Int32) (J460 : Nat → Nat → Nat → Int64), z_ev (d + 4) (z_en 51 [z_r 15 0] (true, X453, I454, J455)) (none, (true, X458, I459, J460)) ∧ z_ev (d + 5) (49, 67, [some (z_r 15 0), some (z_i (z_c b1)), some (z_i (z_c b2)), some (z_i (x3)), some (z_i (x4 ||| ((1 : Int32) <<< (v414 &&& 31)))), some (z_i (v414)), some (z_i (v414)), some (z_i (x7 + (1 : Int32))), some (z_i (v414))], [], (true, X458, I459, J460)) r))))))) ∧ (¬ ((x4 >>> (v414 &&& 31)) &&& (1 : Int32)) = 0 → r = (some (z_i 0), (true, X409, I410, J411))))))))))))))))) :
    z_ev (d + 5) ((49, 67, [some (z_r 15 0), some (z_i (z_c b1)), some (z_i (z_c b2)), some (z_i (x3)), some (z_i (x4)), some (z_i (x5)), some (z_i (x6)), some (z_i (x7)), o8], [], (true, X, I, J))) r := by
  refine z_ev_gs 3 (c1 := (49, (if (10 : Int32) ≤ x7 then 189 else 74), [some (z_r 15 0), some (z_i (z_c b1)), some (z_i (z_c b2)), some (z_i (x3)), some (z_i (x4)), some (z_i (x5)), some (z_i (x6)), some (z_i (x7)), o8], [], (true, X, I, J))) rfl ?_
  refine z_ev_ifle (fun e282 => ?_) (fun e282 => ?_)
  · have h477 := h.1 e282
    refine z_ev_gs 2 (c1 := (49, 192, [some (z_r 15 0), some (z_i (z_c b1)), some (z_i (z_c b2)), some (z_i (x3)), some (z_i (x4)), some (z_i (x5)), some (z_i (x6)), some (z_i (x7)), o8], [z_i 59, z_r 15 0], (true, X, I, J))) rfl ?_
    obtain ⟨b288, X283, I284, J285, g286, h287⟩ := h477
    refine z_ev_ca rfl rfl g286 ?_
    refine z_ev_gs 1 (c1 := (49, (if ¬ z_c b288 = 0 then 200 else 198), [some (z_r 15 0), some (z_i (z_c b1)), some (z_i (z_c b2)), some (z_i (x3)), some (z_i (x4)), some (z_i (x5)), some (z_i (x6)), some (z_i (x7)), o8], [], (true, X283, I284, J285))) rfl ?_
    refine z_ev_ifcn (fun e289 => ?_) (fun e289 => ?_)
    · have h308 := h287.1 e289
      refine z_ev_gs 2 (c1 := (49, (if z_c b2 = 0 then 216 else 204), [some (z_r 15 0), some (z_i (z_c b1)), some (z_i (z_c b2)), some (z_i (x3)), some (z_i (x4)), some (z_i (x5)), some (z_i (x6)), some (z_i (x7)), o8], [], (true, X283, I284, J285))) rfl ?_
      refine z_ev_ifc (fun e290 => ?_) (fun e290 => ?_)
      · have h306 := h308.1 e290
        refine z_ev_gs 1 (c1 := (49, 217, [some (z_r 15 0), some (z_i (z_c b1)), some (z_i (z_c b2)), some (z_i (x3)), some (z_i (x4)), some (z_i (x5)), some (z_i (x6)), some (z_i (x7)), o8], [z_r 15 0], (true, X283, I284, J285))) rfl ?_
        obtain ⟨X291, I292, J293, g294, h295⟩ := h306
        refine z_ev_ca rfl rfl g294 ?_
        refine z_ev_gs 1 (c1 := (49, 221, [some (z_r 15 0), some (z_i (z_c b1)), some (z_i (z_c b2)), some (z_i (x3)), some (z_i (x4)), some (z_i (x5)), some (z_i (x6)), some (z_i (x7)), o8], [z_i 1], (true, X291, I292, J293))) rfl ?_
        rw [h295]
        exact z_ev_rt rfl
      · have h307 := h308.2 e290
        refine z_ev_gs 5 (c1 := (49, 213, [some (z_r 15 0), some (z_i (z_c b1)), some (z_i (z_c b2)), some (z_i (x3)), some (z_i (x4)), some (z_i (x5)), some (z_i (x6)), some (z_i (x7)), o8], [z_i 1, z_i (x5), z_i (x6), z_r 13 8], (true, X283, I284, J285))) rfl ?_
        obtain ⟨X296, I297, J298, g299, h300⟩ := h307
        refine z_ev_ca rfl rfl g299 ?_
        refine z_ev_gs 1 (c1 := (49, 217, [some (z_r 15 0), some (z_i (z_c b1)), some (z_i (z_c b2)), some (z_i (x3)), some (z_i (x4)), some (z_i (x5)), some (z_i (x6)), some (z_i (x7)), o8], [z_r 15 0], (true, X296, I297, J298))) rfl ?_
        obtain ⟨X301, I302, J303, g304, h305⟩ := h300
        refine z_ev_ca rfl rfl g304 ?_
        refine z_ev_gs 1 (c1 := (49, 221, [some (z_r 15 0), some (z_i (z_c b1)), some (z_i (z_c b2)), some (z_i (x3)), some (z_i (x4)), some (z_i (x5)), some (z_i (x6)), some (z_i (x7)), o8], [z_i 1], (true, X301, I302, J303))) rfl ?_
        rw [h305]
        exact z_ev_rt rfl
    · have h309 := h287.2 e289
      refine z_ev_gs 1 (c1 := (49, 199, [some (z_r 15 0), some (z_i (z_c b1)), some (z_i (z_c b2)), some (z_i (x3)), some (z_i (x4)), some (z_i (x5)), some (z_i (x6)), some (z_i (x7)), o8], [z_i 0], (true, X283, I284, J285))) rfl ?_
      rw [h309]
      exact z_ev_rt rfl
  · have h478 := h.2 e282
    refine z_ev_gs 3 (c1 := (49, (if x7 < x3 then 89 else 80), [some (z_r 15 0), some (z_i (z_c b1)), some (z_i (z_c b2)), some (z_i (x3)), some (z_i (x4)), some (z_i (x5)), some (z_i (x6)), some (z_i (x7)), o8], [], (true, X, I, J))) rfl ?_
    refine z_ev_iflt (fun e310 => ?_) (fun e310 => ?_)
    · have h475 := h478.1 e310
      refine z_ev_gs 1 (c1 := (49, 90, [some (z_r 15 0), some (z_i (z_c b1)), some (z_i (z_c b2)), some (z_i (x3)), some (z_i (x4)), some (z_i (x5)), some (z_i (x6)), some (z_i (x7)), o8], [z_r 15 0], (true, X, I, J))) rfl ?_
      obtain ⟨v316, X311, I312, J313, g314, h315⟩ := h475
      refine z_ev_ca rfl rfl g314 ?_
      refine z_ev_gs 3 (c1 := (49, (if v316 < 0 then 122 else 100), [some (z_r 15 0), some (z_i (z_c b1)), some (z_i (z_c b2)), some (z_i (x3)), some (z_i (x4)), some (z_i (x5)), some (z_i (x6)), some (z_i (x7)), some (z_i (v316))], [], (true, X311, I312, J313))) rfl ?_
      refine z_ev_iflt (fun e317 => ?_) (fun e317 => ?_)
      · have h373 := h315.1 e317
        refine z_ev_gs 1 (c1 := (49, 123, [some (z_r 15 0), some (z_i (z_c b1)), some (z_i (z_c b2)), some (z_i (x3)), some (z_i (x4)), some (z_i (x5)), some (z_i (x6)), some (z_i (x7)), some (z_i (v316))], [z_i 0], (true, X311, I312, J313))) rfl ?_
        rw [h373]
        exact z_ev_rt rfl
      · have h374 := h315.2 e317
        refine z_ev_gs 5 (c1 := (49, (if (I312 13 8 1) ≤ v316 then 122 else 112), [some (z_r 15 0), some (z_i (z_c b1)), some (z_i (z_c b2)), some (z_i (x3)), some (z_i (x4)), some (z_i (x5)), some (z_i (x6)), some (z_i (x7)), some (z_i (v316))], [], (true, X311, I312, J313))) rfl ?_
        refine z_ev_ifle (fun e318 => ?_) (fun e318 => ?_)
        · have h371 := h374.1 e318
          refine z_ev_gs 1 (c1 := (49, 123, [some (z_r 15 0), some (z_i (z_c b1)), some (z_i (z_c b2)), some (z_i (x3)), some (z_i (x4)), some (z_i (x5)), some (z_i (x6)), some (z_i (x7)), some (z_i (v316))], [z_i 0], (true, X311, I312, J313))) rfl ?_
          rw [h371]
          exact z_ev_rt rfl
        · have h372 := h374.2 e318
          refine z_ev_gs 6 (c1 := (49, (if ((x4 >>> (v316 &&& 31)) &&& (1 : Int32)) = 0 then 124 else 122), [some (z_r 15 0), some (z_i (z_c b1)), some (z_i (z_c b2)), some (z_i (x3)), some (z_i (x4)), some (z_i (x5)), some (z_i (x6)), some (z_i (x7)), some (z_i (v316))], [], (true, X311, I312, J313))) rfl ?_
          refine z_ev_if (fun e319 => ?_) (fun e319 => ?_)
          · have h369 := h372.1 e319
            refine z_ev_gs 2 (c1 := (49, (if ¬ x7 = 0 then 134 else 129), [some (z_r 15 0), some (z_i (z_c b1)), some (z_i (z_c b2)), some (z_i (x3)), some (z_i (x4)), some (z_i (x5)), some (z_i (x6)), some (z_i (x7)), some (z_i (v316))], [], (true, X311, I312, J313))) rfl ?_
            refine z_ev_ifn (fun e320 => ?_) (fun e320 => ?_)
            · have h367 := h369.1 e320
              refine z_ev_gs 6 (c1 := (49, (if z_c b1 = 0 then 150 else 145), [some (z_r 15 0), some (z_i (z_c b1)), some (z_i (z_c b2)), some (z_i (x3)), some (z_i (x4)), some (z_i (x5)), some (z_i (x6)), some (z_i (x7)), some (z_i (v316))], [z_i (v316), z_r 15 0], (true, X311, I312, J313))) rfl ?_
              refine z_ev_ifc (fun e321 => ?_) (fun e321 => ?_)
              · have h342 := h367.1 e321
                refine z_ev_gs 2 (c1 := (49, (if ¬ x7 = 0 then 159 else 155), [some (z_r 15 0), some (z_i (z_c b1)), some (z_i (z_c b2)), some (z_i (x3)), some (z_i (x4)), some (z_i (x5)), some (z_i (x6)), some (z_i (x7)), some (z_i (v316))], [z_i (v316), z_r 15 0], (true, X311, I312, J313))) rfl ?_
                rw [if_pos e320]
                refine z_ev_gs 3 (c1 := (49, 163, [some (z_r 15 0), some (z_i (z_c b1)), some (z_i (z_c b2)), some (z_i (x3)), some (z_i (x4)), some (z_i (x5)), some (z_i (x6)), some (z_i (x7)), some (z_i (v316))], [z_i ((1 : Int32) <<< (x6 &&& 31)), z_i (v316), z_r 15 0], (true, X311, I312, J313))) rfl ?_
                obtain ⟨X322, I323, J324, g325, h326⟩ := h342
                refine z_ev_ca rfl rfl g325 ?_
                refine z_ev_gs 9 (c1 := (49, 180, [some (z_r 15 0), some (z_i (z_c b1)), some (z_i (z_c b2)), some (z_i (x3)), some (z_i (x4 ||| ((1 : Int32) <<< (v316 &&& 31)))), some (z_i (x5)), some (z_i (v316)), some (z_i (x7)), some (z_i (v316))], [z_r 15 0], (true, X322, I323, J324))) rfl ?_
                obtain ⟨X327, I328, J329, g330, h331⟩ := h326
                refine z_ev_ca rfl rfl g330 ?_
                refine z_ev_gs 2 (c1 := (49, 67, [some (z_r 15 0), some (z_i (z_c b1)), some (z_i (z_c b2)), some (z_i (x3)), some (z_i (x4 ||| ((1 : Int32) <<< (v316 &&& 31)))), some (z_i (x5)), some (z_i (v316)), some (z_i (x7 + (1 : Int32))), some (z_i (v316))], [], (true, X327, I328, J329))) rfl ?_
                exact h331
              · have h343 := h367.2 e321
                refine z_ev_gs 2 (c1 := (49, 163, [some (z_r 15 0), some (z_i (z_c b1)), some (z_i (z_c b2)), some (z_i (x3)), some (z_i (x4)), some (z_i (x5)), some (z_i (x6)), some (z_i (x7)), some (z_i (v316))], [z_i (x4), z_i (v316), z_r 15 0], (true, X311, I312, J313))) rfl ?_
                obtain ⟨X332, I333, J334, g335, h336⟩ := h343
                refine z_ev_ca rfl rfl g335 ?_
                refine z_ev_gs 9 (c1 := (49, 180, [some (z_r 15 0), some (z_i (z_c b1)), some (z_i (z_c b2)), some (z_i (x3)), some (z_i (x4 ||| ((1 : Int32) <<< (v316 &&& 31)))), some (z_i (x5)), some (z_i (v316)), some (z_i (x7)), some (z_i (v316))], [z_r 15 0], (true, X332, I333, J334))) rfl ?_
                obtain ⟨X337, I338, J339, g340, h341⟩ := h336
                refine z_ev_ca rfl rfl g340 ?_
                refine z_ev_gs 2 (c1 := (49, 67, [some (z_r 15 0), some (z_i (z_c b1)), some (z_i (z_c b2)), some (z_i (x3)), some (z_i (x4 ||| ((1 : Int32) <<< (v316 &&& 31)))), some (z_i (x5)), some (z_i (v316)), some (z_i (x7 + (1 : Int32))), some (z_i (v316))], [], (true, X337, I338, J339))) rfl ?_
                exact h341
            · have h368 := h369.2 e320
              refine z_ev_gs 7 (c1 := (49, (if z_c b1 = 0 then 150 else 145), [some (z_r 15 0), some (z_i (z_c b1)), some (z_i (z_c b2)), some (z_i (x3)), some (z_i (x4)), some (z_i (v316)), some (z_i (x6)), some (z_i (x7)), some (z_i (v316))], [z_i (v316), z_r 15 0], (true, X311, I312, J313))) rfl ?_
              refine z_ev_ifc (fun e344 => ?_) (fun e344 => ?_)
              · have h365 := h368.1 e344
                refine z_ev_gs 2 (c1 := (49, (if ¬ x7 = 0 then 159 else 155), [some (z_r 15 0), some (z_i (z_c b1)), some (z_i (z_c b2)), some (z_i (x3)), some (z_i (x4)), some (z_i (v316)), some (z_i (x6)), some (z_i (x7)), some (z_i (v316))], [z_i (v316), z_r 15 0], (true, X311, I312, J313))) rfl ?_
                rw [if_neg (fun q9 => q9 e320)]
                refine z_ev_gs 2 (c1 := (49, 163, [some (z_r 15 0), some (z_i (z_c b1)), some (z_i (z_c b2)), some (z_i (x3)), some (z_i (x4)), some (z_i (v316)), some (z_i (x6)), some (z_i (x7)), some (z_i (v316))], [z_i 0, z_i (v316), z_r 15 0], (true, X311, I312, J313))) rfl ?_
                obtain ⟨X345, I346, J347, g348, h349⟩ := h365
                refine z_ev_ca rfl rfl g348 ?_
                refine z_ev_gs 9 (c1 := (49, 180, [some (z_r 15 0), some (z_i (z_c b1)), some (z_i (z_c b2)), some (z_i (x3)), some (z_i (x4 ||| ((1 : Int32) <<< (v316 &&& 31)))), some (z_i (v316)), some (z_i (v316)), some (z_i (x7)), some (z_i (v316))], [z_r 15 0], (true, X345, I346, J347))) rfl ?_
                obtain ⟨X350, I351, J352, g353, h354⟩ := h349
                refine z_ev_ca rfl rfl g353 ?_
                refine z_ev_gs 2 (c1 := (49, 67, [some (z_r 15 0), some (z_i (z_c b1)), some (z_i (z_c b2)), some (z_i (x3)), some (z_i (x4 ||| ((1 : Int32) <<< (v316 &&& 31)))), some (z_i (v316)), some (z_i (v316)), some (z_i (x7 + (1 : Int32))), some (z_i (v316))], [], (true, X350, I351, J352))) rfl ?_
                exact h354
              · have h366 := h368.2 e344
                refine z_ev_gs 2 (c1 := (49, 163, [some (z_r 15 0), some (z_i (z_c b1)), some (z_i (z_c b2)), some (z_i (x3)), some (z_i (x4)), some (z_i (v316)), some (z_i (x6)), some (z_i (x7)), some (z_i (v316))], [z_i (x4), z_i (v316), z_r 15 0], (true, X311, I312, J313))) rfl ?_
                obtain ⟨X355, I356, J357, g358, h359⟩ := h366
                refine z_ev_ca rfl rfl g358 ?_
                refine z_ev_gs 9 (c1 := (49, 180, [some (z_r 15 0), some (z_i (z_c b1)), some (z_i (z_c b2)), some (z_i (x3)), some (z_i (x4 ||| ((1 : Int32) <<< (v316 &&& 31)))), some (z_i (v316)), some (z_i (v316)), some (z_i (x7)), some (z_i (v316))], [z_r 15 0], (true, X355, I356, J357))) rfl ?_
                obtain ⟨X360, I361, J362, g363, h364⟩ := h359
                refine z_ev_ca rfl rfl g363 ?_
                refine z_ev_gs 2 (c1 := (49, 67, [some (z_r 15 0), some (z_i (z_c b1)), some (z_i (z_c b2)), some (z_i (x3)), some (z_i (x4 ||| ((1 : Int32) <<< (v316 &&& 31)))), some (z_i (v316)), some (z_i (v316)), some (z_i (x7 + (1 : Int32))), some (z_i (v316))], [], (true, X360, I361, J362))) rfl ?_
                exact h364
          · have h370 := h372.2 e319
            refine z_ev_gs 1 (c1 := (49, 123, [some (z_r 15 0), some (z_i (z_c b1)), some (z_i (z_c b2)), some (z_i (x3)), some (z_i (x4)), some (z_i (x5)), some (z_i (x6)), some (z_i (x7)), some (z_i (v316))], [z_i 0], (true, X311, I312, J313))) rfl ?_
            rw [h370]
            exact z_ev_rt rfl
    · have h476 := h478.2 e310
      refine z_ev_gs 2 (c1 := (49, 83, [some (z_r 15 0), some (z_i (z_c b1)), some (z_i (z_c b2)), some (z_i (x3)), some (z_i (x4)), some (z_i (x5)), some (z_i (x6)), some (z_i (x7)), o8], [z_i 59, z_r 15 0], (true, X, I, J))) rfl ?_
      obtain ⟨b380, X375, I376, J377, g378, h379⟩ := h476
      refine z_ev_ca rfl rfl g378 ?_
      refine z_ev_gs 1 (c1 := (49, (if ¬ z_c b380 = 0 then 189 else 89), [some (z_r 15 0), some (z_i (z_c b1)), some (z_i (z_c b2)), some (z_i (x3)), some (z_i (x4)), some (z_i (x5)), some (z_i (x6)), some (z_i (x7)), o8], [], (true, X375, I376, J377))) rfl ?_
      refine z_ev_ifcn (fun e381 => ?_) (fun e381 => ?_)
      · have h473 := h379.1 e381
        refine z_ev_gs 2 (c1 := (49, 192, [some (z_r 15 0), some (z_i (z_c b1)), some (z_i (z_c b2)), some (z_i (x3)), some (z_i (x4)), some (z_i (x5)), some (z_i (x6)), some (z_i (x7)), o8], [z_i 59, z_r 15 0], (true, X375, I376, J377))) rfl ?_
        obtain ⟨b387, X382, I383, J384, g385, h386⟩ := h473
        refine z_ev_ca rfl rfl g385 ?_
        refine z_ev_gs 1 (c1 := (49, (if ¬ z_c b387 = 0 then 200 else 198), [some (z_r 15 0), some (z_i (z_c b1)), some (z_i (z_c b2)), some (z_i (x3)), some (z_i (x4)), some (z_i (x5)), some (z_i (x6)), some (z_i (x7)), o8], [], (true, X382, I383, J384))) rfl ?_
        refine z_ev_ifcn (fun e388 => ?_) (fun e388 => ?_)
        · have h407 := h386.1 e388
          refine z_ev_gs 2 (c1 := (49, (if z_c b2 = 0 then 216 else 204), [some (z_r 15 0), some (z_i (z_c b1)), some (z_i (z_c b2)), some (z_i (x3)), some (z_i (x4)), some (z_i (x5)), some (z_i (x6)), some (z_i (x7)), o8], [], (true, X382, I383, J384))) rfl ?_
          refine z_ev_ifc (fun e389 => ?_) (fun e389 => ?_)
          · have h405 := h407.1 e389
            refine z_ev_gs 1 (c1 := (49, 217, [some (z_r 15 0), some (z_i (z_c b1)), some (z_i (z_c b2)), some (z_i (x3)), some (z_i (x4)), some (z_i (x5)), some (z_i (x6)), some (z_i (x7)), o8], [z_r 15 0], (true, X382, I383, J384))) rfl ?_
            obtain ⟨X390, I391, J392, g393, h394⟩ := h405
            refine z_ev_ca rfl rfl g393 ?_
            refine z_ev_gs 1 (c1 := (49, 221, [some (z_r 15 0), some (z_i (z_c b1)), some (z_i (z_c b2)), some (z_i (x3)), some (z_i (x4)), some (z_i (x5)), some (z_i (x6)), some (z_i (x7)), o8], [z_i 1], (true, X390, I391, J392))) rfl ?_
            rw [h394]
            exact z_ev_rt rfl
          · have h406 := h407.2 e389
            refine z_ev_gs 5 (c1 := (49, 213, [some (z_r 15 0), some (z_i (z_c b1)), some (z_i (z_c b2)), some (z_i (x3)), some (z_i (x4)), some (z_i (x5)), some (z_i (x6)), some (z_i (x7)), o8], [z_i 1, z_i (x5), z_i (x6), z_r 13 8], (true, X382, I383, J384))) rfl ?_
            obtain ⟨X395, I396, J397, g398, h399⟩ := h406
            refine z_ev_ca rfl rfl g398 ?_
            refine z_ev_gs 1 (c1 := (49, 217, [some (z_r 15 0), some (z_i (z_c b1)), some (z_i (z_c b2)), some (z_i (x3)), some (z_i (x4)), some (z_i (x5)), some (z_i (x6)), some (z_i (x7)), o8], [z_r 15 0], (true, X395, I396, J397))) rfl ?_
            obtain ⟨X400, I401, J402, g403, h404⟩ := h399
            refine z_ev_ca rfl rfl g403 ?_
            refine z_ev_gs 1 (c1 := (49, 221, [some (z_r 15 0), some (z_i (z_c b1)), some (z_i (z_c b2)), some (z_i (x3)), some (z_i (x4)), some (z_i (x5)), some (z_i (x6)), some (z_i (x7)), o8], [z_i 1], (true, X400, I401, J402))) rfl ?_
            rw [h404]
            exact z_ev_rt rfl
        · have h408 := h386.2 e388
          refine z_ev_gs 1 (c1 := (49, 199, [some (z_r 15 0), some (z_i (z_c b1)), some (z_i (z_c b2)), some (z_i (x3)), some (z_i (x4)), some (z_i (x5)), some (z_i (x6)), some (z_i (x7)), o8], [z_i 0], (true, X382, I383, J384))) rfl ?_
          rw [h408]
          exact z_ev_rt rfl
      · have h474 := h379.2 e381
        refine z_ev_gs 1 (c1 := (49, 90, [some (z_r 15 0), some (z_i (z_c b1)), some (z_i (z_c b2)), some (z_i (x3)), some (z_i (x4)), some (z_i (x5)), some (z_i (x6)), some (z_i (x7)), o8], [z_r 15 0], (true, X375, I376, J377))) rfl ?_
        obtain ⟨v414, X409, I410, J411, g412, h413⟩ := h474
        refine z_ev_ca rfl rfl g412 ?_
        refine z_ev_gs 3 (c1 := (49, (if v414 < 0 then 122 else 100), [some (z_r 15 0), some (z_i (z_c b1)), some (z_i (z_c b2)), some (z_i (x3)), some (z_i (x4)), some (z_i (x5)), some (z_i (x6)), some (z_i (x7)), some (z_i (v414))], [], (true, X409, I410, J411))) rfl ?_
        refine z_ev_iflt (fun e415 => ?_) (fun e415 => ?_)
        · have h471 := h413.1 e415
          refine z_ev_gs 1 (c1 := (49, 123, [some (z_r 15 0), some (z_i (z_c b1)), some (z_i (z_c b2)), some (z_i (x3)), some (z_i (x4)), some (z_i (x5)), some (z_i (x6)), some (z_i (x7)), some (z_i (v414))], [z_i 0], (true, X409, I410, J411))) rfl ?_
          rw [h471]
          exact z_ev_rt rfl
        · have h472 := h413.2 e415
          refine z_ev_gs 5 (c1 := (49, (if (I410 13 8 1) ≤ v414 then 122 else 112), [some (z_r 15 0), some (z_i (z_c b1)), some (z_i (z_c b2)), some (z_i (x3)), some (z_i (x4)), some (z_i (x5)), some (z_i (x6)), some (z_i (x7)), some (z_i (v414))], [], (true, X409, I410, J411))) rfl ?_
          refine z_ev_ifle (fun e416 => ?_) (fun e416 => ?_)
          · have h469 := h472.1 e416
            refine z_ev_gs 1 (c1 := (49, 123, [some (z_r 15 0), some (z_i (z_c b1)), some (z_i (z_c b2)), some (z_i (x3)), some (z_i (x4)), some (z_i (x5)), some (z_i (x6)), some (z_i (x7)), some (z_i (v414))], [z_i 0], (true, X409, I410, J411))) rfl ?_
            rw [h469]
            exact z_ev_rt rfl
          · have h470 := h472.2 e416
            refine z_ev_gs 6 (c1 := (49, (if ((x4 >>> (v414 &&& 31)) &&& (1 : Int32)) = 0 then 124 else 122), [some (z_r 15 0), some (z_i (z_c b1)), some (z_i (z_c b2)), some (z_i (x3)), some (z_i (x4)), some (z_i (x5)), some (z_i (x6)), some (z_i (x7)), some (z_i (v414))], [], (true, X409, I410, J411))) rfl ?_
            refine z_ev_if (fun e417 => ?_) (fun e417 => ?_)
            · have h467 := h470.1 e417
              refine z_ev_gs 2 (c1 := (49, (if ¬ x7 = 0 then 134 else 129), [some (z_r 15 0), some (z_i (z_c b1)), some (z_i (z_c b2)), some (z_i (x3)), some (z_i (x4)), some (z_i (x5)), some (z_i (x6)), some (z_i (x7)), some (z_i (v414))], [], (true, X409, I410, J411))) rfl ?_
              refine z_ev_ifn (fun e418 => ?_) (fun e418 => ?_)
              · have h465 := h467.1 e418
                refine z_ev_gs 6 (c1 := (49, (if z_c b1 = 0 then 150 else 145), [some (z_r 15 0), some (z_i (z_c b1)), some (z_i (z_c b2)), some (z_i (x3)), some (z_i (x4)), some (z_i (x5)), some (z_i (x6)), some (z_i (x7)), some (z_i (v414))], [z_i (v414), z_r 15 0], (true, X409, I410, J411))) rfl ?_
                refine z_ev_ifc (fun e419 => ?_) (fun e419 => ?_)
                · have h440 := h465.1 e419
                  refine z_ev_gs 2 (c1 := (49, (if ¬ x7 = 0 then 159 else 155), [some (z_r 15 0), some (z_i (z_c b1)), some (z_i (z_c b2)), some (z_i (x3)), some (z_i (x4)), some (z_i (x5)), some (z_i (x6)), some (z_i (x7)), some (z_i (v414))], [z_i (v414), z_r 15 0], (true, X409, I410, J411))) rfl ?_
                  rw [if_pos e418]
                  refine z_ev_gs 3 (c1 := (49, 163, [some (z_r 15 0), some (z_i (z_c b1)), some (z_i (z_c b2)), some (z_i (x3)), some (z_i (x4)), some (z_i (x5)), some (z_i (x6)), some (z_i (x7)), some (z_i (v414))], [z_i ((1 : Int32) <<< (x6 &&& 31)), z_i (v414), z_r 15 0], (true, X409, I410, J411))) rfl ?_
                  obtain ⟨X420, I421, J422, g423, h424⟩ := h440
                  refine z_ev_ca rfl rfl g423 ?_
                  refine z_ev_gs 9 (c1 := (49, 180, [some (z_r 15 0), some (z_i (z_c b1)), some (z_i (z_c b2)), some (z_i (x3)), some (z_i (x4 ||| ((1 : Int32) <<< (v414 &&& 31)))), some (z_i (x5)), some (z_i (v414)), some (z_i (x7)), some (z_i (v414))], [z_r 15 0], (true, X420, I421, J422))) rfl ?_
                  obtain ⟨X425, I426, J427, g428, h429⟩ := h424
                  refine z_ev_ca rfl rfl g428 ?_
                  refine z_ev_gs 2 (c1 := (49, 67, [some (z_r 15 0), some (z_i (z_c b1)), some (z_i (z_c b2)), some (z_i (x3)), some (z_i (x4 ||| ((1 : Int32) <<< (v414 &&& 31)))), some (z_i (x5)), some (z_i (v414)), some (z_i (x7 + (1 : Int32))), some (z_i (v414))], [], (true, X425, I426, J427))) rfl ?_
                  exact h429
                · have h441 := h465.2 e419
                  refine z_ev_gs 2 (c1 := (49, 163, [some (z_r 15 0), some (z_i (z_c b1)), some (z_i (z_c b2)), some (z_i (x3)), some (z_i (x4)), some (z_i (x5)), some (z_i (x6)), some (z_i (x7)), some (z_i (v414))], [z_i (x4), z_i (v414), z_r 15 0], (true, X409, I410, J411))) rfl ?_
                  obtain ⟨X430, I431, J432, g433, h434⟩ := h441
                  refine z_ev_ca rfl rfl g433 ?_
                  refine z_ev_gs 9 (c1 := (49, 180, [some (z_r 15 0), some (z_i (z_c b1)), some (z_i (z_c b2)), some (z_i (x3)), some (z_i (x4 ||| ((1 : Int32) <<< (v414 &&& 31)))), some (z_i (x5)), some (z_i (v414)), some (z_i (x7)), some (z_i (v414))], [z_r 15 0], (true, X430, I431, J432))) rfl ?_
                  obtain ⟨X435, I436, J437, g438, h439⟩ := h434
                  refine z_ev_ca rfl rfl g438 ?_
                  refine z_ev_gs 2 (c1 := (49, 67, [some (z_r 15 0), some (z_i (z_c b1)), some (z_i (z_c b2)), some (z_i (x3)), some (z_i (x4 ||| ((1 : Int32) <<< (v414 &&& 31)))), some (z_i (x5)), some (z_i (v414)), some (z_i (x7 + (1 : Int32))), some (z_i (v414))], [], (true, X435, I436, J437))) rfl ?_
                  exact h439
              · have h466 := h467.2 e418
                refine z_ev_gs 7 (c1 := (49, (if z_c b1 = 0 then 150 else 145), [some (z_r 15 0), some (z_i (z_c b1)), some (z_i (z_c b2)), some (z_i (x3)), some (z_i (x4)), some (z_i (v414)), some (z_i (x6)), some (z_i (x7)), some (z_i (v414))], [z_i (v414), z_r 15 0], (true, X409, I410, J411))) rfl ?_
                refine z_ev_ifc (fun e442 => ?_) (fun e442 => ?_)
                · have h463 := h466.1 e442
                  refine z_ev_gs 2 (c1 := (49, (if ¬ x7 = 0 then 159 else 155), [some (z_r 15 0), some (z_i (z_c b1)), some (z_i (z_c b2)), some (z_i (x3)), some (z_i (x4)), some (z_i (v414)), some (z_i (x6)), some (z_i (x7)), some (z_i (v414))], [z_i (v414), z_r 15 0], (true, X409, I410, J411))) rfl ?_
                  rw [if_neg (fun q9 => q9 e418)]
                  refine z_ev_gs 2 (c1 := (49, 163, [some (z_r 15 0), some (z_i (z_c b1)), some (z_i (z_c b2)), some (z_i (x3)), some (z_i (x4)), some (z_i (v414)), some (z_i (x6)), some (z_i (x7)), some (z_i (v414))], [z_i 0, z_i (v414), z_r 15 0], (true, X409, I410, J411))) rfl ?_
                  obtain ⟨X443, I444, J445, g446, h447⟩ := h463
                  refine z_ev_ca rfl rfl g446 ?_
                  refine z_ev_gs 9 (c1 := (49, 180, [some (z_r 15 0), some (z_i (z_c b1)), some (z_i (z_c b2)), some (z_i (x3)), some (z_i (x4 ||| ((1 : Int32) <<< (v414 &&& 31)))), some (z_i (v414)), some (z_i (v414)), some (z_i (x7)), some (z_i (v414))], [z_r 15 0], (true, X443, I444, J445))) rfl ?_
                  obtain ⟨X448, I449, J450, g451, h452⟩ := h447
                  refine z_ev_ca rfl rfl g451 ?_
                  refine z_ev_gs 2 (c1 := (49, 67, [some (z_r 15 0), some (z_i (z_c b1)), some (z_i (z_c b2)), some (z_i (x3)), some (z_i (x4 ||| ((1 : Int32) <<< (v414 &&& 31)))), some (z_i (v414)), some (z_i (v414)), some (z_i (x7 + (1 : Int32))), some (z_i (v414))], [], (true, X448, I449, J450))) rfl ?_
                  exact h452
                · have h464 := h466.2 e442
                  refine z_ev_gs 2 (c1 := (49, 163, [some (z_r 15 0), some (z_i (z_c b1)), some (z_i (z_c b2)), some (z_i (x3)), some (z_i (x4)), some (z_i (v414)), some (z_i (x6)), some (z_i (x7)), some (z_i (v414))], [z_i (x4), z_i (v414), z_r 15 0], (true, X409, I410, J411))) rfl ?_
                  obtain ⟨X453, I454, J455, g456, h457⟩ := h464
                  refine z_ev_ca rfl rfl g456 ?_
                  refine z_ev_gs 9 (c1 := (49, 180, [some (z_r 15 0), some (z_i (z_c b1)), some (z_i (z_c b2)), some (z_i (x3)), some (z_i (x4 ||| ((1 : Int32) <<< (v414 &&& 31)))), some (z_i (v414)), some (z_i (v414)), some (z_i (x7)), some (z_i (v414))], [z_r 15 0], (true, X453, I454, J455))) rfl ?_
                  obtain ⟨X458, I459, J460, g461, h462⟩ := h457
                  refine z_ev_ca rfl rfl g461 ?_
                  refine z_ev_gs 2 (c1 := (49, 67, [some (z_r 15 0), some (z_i (z_c b1)), some (z_i (z_c b2)), some (z_i (x3)), some (z_i (x4 ||| ((1 : Int32) <<< (v414 &&& 31)))), some (z_i (v414)), some (z_i (v414)), some (z_i (x7 + (1 : Int32))), some (z_i (v414))], [], (true, X458, I459, J460))) rfl ?_
                  exact h462
            · have h468 := h470.2 e417
              refine z_ev_gs 1 (c1 := (49, 123, [some (z_r 15 0), some (z_i (z_c b1)), some (z_i (z_c b2)), some (z_i (x3)), some (z_i (x4)), some (z_i (x5)), some (z_i (x6)), some (z_i (x7)), some (z_i (v414))], [z_i 0], (true, X409, I410, J411))) rfl ?_
              rw [h468]
              exact z_ev_rt rfl
theorem z_q48_e {d : Nat} {r : Option z_V × z_M} {X : z_X} {I : Nat → Nat → Nat → Int32} {J : Nat → Nat → Nat → Int64} 
    (h : (∃ (b6 : Bool) (X1 : z_X) (I2 : Nat → Nat → Nat → Int32) (J3 : Nat → Nat → Nat → Int64), z_ev (d + 5) (z_en 57 [z_r 15 0, z_r 64 0] (true, X, I, J)) (some (z_i (z_c b6)), (true, X1, I2, J3)) ∧ ((b6 = true → (∃ (X8 : z_X) (I9 : Nat → Nat → Nat → Int32) (J10 : Nat → Nat → Nat → Int64), z_ev (d + 5) (z_en 51 [z_r 15 0] (true, X1, I2, J3)) (none, (true, X8, I9, J10)) ∧ (∃ (v18 : Int32) (X13 : z_X) (I14 : Nat → Nat → Nat → Int32) (J15 : Nat → Nat → Nat → Int64), z_ev (d + 5) (z_en 58 [z_r 15 0] (true, X8, I9, J10)) (some (z_i (v18)), (true, X13, I14, J15)) ∧ ((v18 < (1 : Int32) → r = (some (z_i 0), (true, X13, I14, J15))) ∧ ((1 : Int32) ≤ v18 → ((v18 ≤ (10 : Int32) → (∃ (X21 : z_X) (I22 : Nat → Nat → Nat → Int32) (J23 : Nat → Nat → Nat → Int64), z_ev (d + 5) (z_en 19 [z_r 13 8, z_i (v18)] (true, X13, I14, J15)) (none, (true, X21, I22, J23)) ∧ (∃ (X26 : z_X) (I27 : Nat → Nat → Nat → Int32) (J28 : Nat → Nat → Nat → Int64), z_ev (d + 5) (z_en 51 [z_r 15 0] (true, X21, I22, J23)) (none, (true, X26, I27, J28)) ∧ (∃ (b36 : Bool) (X31 : z_X) (I32 : Nat → Nat → Nat → Int32) (J33 : Nat → Nat → Nat → Int64), z_ev (d + 5) (z_en 56 [z_r 15 0, z_i 59] (true, X26, I27, J28)) (some (z_i (z_c b36)), (true, X31, I32, J33)) ∧ ((b36 = true → (∃ (X38 : z_X) (I39 : Nat → Nat → Nat → Int32) (J40 : Nat → Nat → Nat → Int64), z_ev (d + 5) (z_en 51 [z_r 15 0] (true, X31, I32, J33)) (none, (true, X38, I39, J40)) ∧ z_ev (d + 6) (48, 62, [some (z_r 15 0), some (z_i (v18)), some (z_i 0)], [], (true, X38, I39, J40)) r)) ∧ (b36 = false → r = (some (z_i 0), (true, X31, I32, J33)))))))) ∧ ((10 : Int32) < v18 → r = (some (z_i 0), (true, X13, I14, J15))))))))) ∧ (b6 = false → r = (some (z_i 0), (true, X1, I2, J3)))))) :
    z_ev (d + 6) (z_en 48 [z_r 15 0] (true, X, I, J)) r := by
  show z_ev (d + 6) (48, 0, [some (z_r 15 0), none, none], [], (true, X, I, J)) r
  refine z_ev_gs 2 (c1 := (48, 3, [some (z_r 15 0), none, none], [z_r 64 0, z_r 15 0], (true, X, I, J))) rfl ?_
  obtain ⟨b6, X1, I2, J3, g4, h5⟩ := h
  refine z_ev_ca rfl rfl g4 ?_
  refine z_ev_gs 1 (c1 := (48, (if ¬ z_c b6 = 0 then 11 else 9), [some (z_r 15 0), none, none], [], (true, X1, I2, J3))) rfl ?_
  refine z_ev_ifcn (fun e7 => ?_) (fun e7 => ?_)
  · have h49 := h5.1 e7
    refine z_ev_gs 1 (c1 := (48, 12, [some (z_r 15 0), none, none], [z_r 15 0], (true, X1, I2, J3))) rfl ?_
    obtain ⟨X8, I9, J10, g11, h12⟩ := h49
    refine z_ev_ca rfl rfl g11 ?_
    refine z_ev_gs 1 (c1 := (48, 16, [some (z_r 15 0), none, none], [z_r 15 0], (true, X8, I9, J10))) rfl ?_
    obtain ⟨v18, X13, I14, J15, g16, h17⟩ := h12
    refine z_ev_ca rfl rfl g16 ?_
    refine z_ev_gs 4 (c1 := (48, (if v18 < (1 : Int32) then 31 else 25), [some (z_r 15 0), some (z_i (v18)), none], [], (true, X13, I14, J15))) rfl ?_
    refine z_ev_iflt (fun e19 => ?_) (fun e19 => ?_)
    · have h47 := h17.1 e19
      refine z_ev_gs 1 (c1 := (48, 32, [some (z_r 15 0), some (z_i (v18)), none], [z_i 0], (true, X13, I14, J15))) rfl ?_
      rw [h47]
      exact z_ev_rt rfl
    · have h48 := h17.2 e19
      refine z_ev_gs 3 (c1 := (48, (if v18 ≤ (10 : Int32) then 33 else 31), [some (z_r 15 0), some (z_i (v18)), none], [], (true, X13, I14, J15))) rfl ?_
      refine z_ev_ifle (fun e20 => ?_) (fun e20 => ?_)
      · have h45 := h48.1 e20
        refine z_ev_gs 3 (c1 := (48, 38, [some (z_r 15 0), some (z_i (v18)), none], [z_i (v18), z_r 13 8], (true, X13, I14, J15))) rfl ?_
        obtain ⟨X21, I22, J23, g24, h25⟩ := h45
        refine z_ev_ca rfl rfl g24 ?_
        refine z_ev_gs 1 (c1 := (48, 42, [some (z_r 15 0), some (z_i (v18)), none], [z_r 15 0], (true, X21, I22, J23))) rfl ?_
        obtain ⟨X26, I27, J28, g29, h30⟩ := h25
        refine z_ev_ca rfl rfl g29 ?_
        refine z_ev_gs 2 (c1 := (48, 48, [some (z_r 15 0), some (z_i (v18)), none], [z_i 59, z_r 15 0], (true, X26, I27, J28))) rfl ?_
        obtain ⟨b36, X31, I32, J33, g34, h35⟩ := h30
        refine z_ev_ca rfl rfl g34 ?_
        refine z_ev_gs 1 (c1 := (48, (if ¬ z_c b36 = 0 then 56 else 54), [some (z_r 15 0), some (z_i (v18)), none], [], (true, X31, I32, J33))) rfl ?_
        refine z_ev_ifcn (fun e37 => ?_) (fun e37 => ?_)
        · have h43 := h35.1 e37
          refine z_ev_gs 1 (c1 := (48, 57, [some (z_r 15 0), some (z_i (v18)), none], [z_r 15 0], (true, X31, I32, J33))) rfl ?_
          obtain ⟨X38, I39, J40, g41, h42⟩ := h43
          refine z_ev_ca rfl rfl g41 ?_
          refine z_ev_gs 2 (c1 := (48, 62, [some (z_r 15 0), some (z_i (v18)), some (z_i 0)], [], (true, X38, I39, J40))) rfl ?_
          exact h42
        · have h44 := h35.2 e37
          refine z_ev_gs 1 (c1 := (48, 55, [some (z_r 15 0), some (z_i (v18)), none], [z_i 0], (true, X31, I32, J33))) rfl ?_
          rw [h44]
          exact z_ev_rt rfl
      · have h46 := h48.2 e20
        refine z_ev_gs 1 (c1 := (48, 32, [some (z_r 15 0), some (z_i (v18)), none], [z_i 0], (true, X13, I14, J15))) rfl ?_
        rw [h46]
        exact z_ev_rt rfl
  · have h50 := h5.2 e7
    refine z_ev_gs 1 (c1 := (48, 10, [some (z_r 15 0), none, none], [z_i 0], (true, X1, I2, J3))) rfl ?_
    rw [h50]
    exact z_ev_rt rfl
theorem z_q48_62 {d : Nat} {r : Option z_V × z_M} {X : z_X} {I : Nat → Nat → Nat → Int32} {J : Nat → Nat → Nat → Int64} (x1 : Int32) (x2 : Int32)
    (h : (((160 : Int32) ≤ x2 → r = (some (z_i 1), (true, X, I, J))) ∧ (x2 < (160 : Int32) → (((I 15 0 1) ≤ (I 15 0 3) → r = (some (z_i 1), (true, X, I, J))) ∧ ((I 15 0 3) < (I 15 0 1) → (∃ (b58 : Bool) (X53 : z_X) (I54 : Nat → Nat → Nat → Int32) (J55 : Nat → Nat → Nat → Int64), z_ev (d + 5) (z_en 49 [z_r 15 0] (true, X, I, J)) (some (z_i (z_c b58)), (true, X53, I54, J55)) ∧ ((b58 = true → z_ev (d + 6) (48, 62, [some (z_r 15 0), some (z_i (x1)), some (z_i (x2 + (1 : Int32)))], [], (true, X53, I54, J55)) r) ∧ (b58 = false → r = (some (z_i 0), (true, X53, I54, J55)))))))))) :
    z_ev (d + 6) ((48, 62, [some (z_r 15 0), some (z_i (x1)), some (z_i (x2))], [], (true, X, I, J))) r := by
  refine z_ev_gs 3 (c1 := (48, (if (160 : Int32) ≤ x2 then 95 else 69), [some (z_r 15 0), some (z_i (x1)), some (z_i (x2))], [], (true, X, I, J))) rfl ?_
  refine z_ev_ifle (fun e51 => ?_) (fun e51 => ?_)
  · have h64 := h.1 e51
    refine z_ev_gs 1 (c1 := (48, 96, [some (z_r 15 0), some (z_i (x1)), some (z_i (x2))], [z_i 1], (true, X, I, J))) rfl ?_
    rw [h64]
    exact z_ev_rt rfl
  · have h65 := h.2 e51
    refine z_ev_gs 5 (c1 := (48, (if (I 15 0 1) ≤ (I 15 0 3) then 95 else 80), [some (z_r 15 0), some (z_i (x1)), some (z_i (x2))], [], (true, X, I, J))) rfl ?_
    refine z_ev_ifle (fun e52 => ?_) (fun e52 => ?_)
    · have h62 := h65.1 e52
      refine z_ev_gs 1 (c1 := (48, 96, [some (z_r 15 0), some (z_i (x1)), some (z_i (x2))], [z_i 1], (true, X, I, J))) rfl ?_
      rw [h62]
      exact z_ev_rt rfl
    · have h63 := h65.2 e52
      refine z_ev_gs 1 (c1 := (48, 81, [some (z_r 15 0), some (z_i (x1)), some (z_i (x2))], [z_r 15 0], (true, X, I, J))) rfl ?_
      obtain ⟨b58, X53, I54, J55, g56, h57⟩ := h63
      refine z_ev_ca rfl rfl g56 ?_
      refine z_ev_gs 1 (c1 := (48, (if ¬ z_c b58 = 0 then 89 else 87), [some (z_r 15 0), some (z_i (x1)), some (z_i (x2))], [], (true, X53, I54, J55))) rfl ?_
      refine z_ev_ifcn (fun e59 => ?_) (fun e59 => ?_)
      · have h60 := h57.1 e59
        refine z_ev_gs 2 (c1 := (48, 62, [some (z_r 15 0), some (z_i (x1)), some (z_i (x2 + (1 : Int32)))], [], (true, X53, I54, J55))) rfl ?_
        exact h60
      · have h61 := h57.2 e59
        refine z_ev_gs 1 (c1 := (48, 88, [some (z_r 15 0), some (z_i (x1)), some (z_i (x2))], [z_i 0], (true, X53, I54, J55))) rfl ?_
        rw [h61]
        exact z_ev_rt rfl
theorem z_q47_e {d : Nat} {r : Option z_V × z_M} {X : z_X} {I : Nat → Nat → Nat → Int32} {J : Nat → Nat → Nat → Int64} 
    (h : (∃ (X1 : z_X) (I2 : Nat → Nat → Nat → Int32) (J3 : Nat → Nat → Nat → Int64), z_ev (d + 6) (z_en 51 [z_r 15 0] (true, X, (z_up I 15 0 4 (0 : Int32)), J)) (none, (true, X1, I2, J3)) ∧ (∃ (b11 : Bool) (X6 : z_X) (I7 : Nat → Nat → Nat → Int32) (J8 : Nat → Nat → Nat → Int64), z_ev (d + 6) (z_en 48 [z_r 15 0] (true, X1, I2, J3)) (some (z_i (z_c b11)), (true, X6, I7, J8)) ∧ ((b11 = false → r = (some (z_i (I7 15 0 3)), (true, X6, (z_up I7 15 0 1 (0 : Int32)), J8))) ∧ (b11 = true → r = (some (z_i (-1)), (true, X6, (z_up I7 15 0 1 (0 : Int32)), J8))))))) :
    z_ev (d + 7) (z_en 47 [z_r 15 0] (true, X, I, J)) r := by
  show z_ev (d + 7) (47, 0, [some (z_r 15 0), none], [], (true, X, I, J)) r
  refine z_ev_gs 4 (c1 := (47, 6, [some (z_r 15 0), none], [z_r 15 0], (true, X, (z_up I 15 0 4 (0 : Int32)), J))) rfl ?_
  obtain ⟨X1, I2, J3, g4, h5⟩ := h
  refine z_ev_ca rfl rfl g4 ?_
  refine z_ev_gs 1 (c1 := (47, 10, [some (z_r 15 0), none], [z_r 15 0], (true, X1, I2, J3))) rfl ?_
  obtain ⟨b11, X6, I7, J8, g9, h10⟩ := h5
  refine z_ev_ca rfl rfl g9 ?_
  refine z_ev_gs 1 (c1 := (47, (if z_c b11 = 0 then 20 else 16), [some (z_r 15 0), none], [], (true, X6, I7, J8))) rfl ?_
  refine z_ev_ifc (fun e12 => ?_) (fun e12 => ?_)
  · have h13 := h10.1 e12
    refine z_ev_gs 7 (c1 := (47, 31, [some (z_r 15 0), some (z_i (I7 15 0 3))], [z_i (I7 15 0 3)], (true, X6, (z_up I7 15 0 1 (0 : Int32)), J8))) rfl ?_
    rw [h13]
    exact z_ev_rt rfl
  · have h14 := h10.2 e12
    refine z_ev_gs 7 (c1 := (47, 31, [some (z_r 15 0), some (z_i (-1))], [z_i (-1)], (true, X6, (z_up I7 15 0 1 (0 : Int32)), J8))) rfl ?_
    rw [h14]
    exact z_ev_rt rfl
theorem z_q68_e {d : Nat} {r : Option z_V × z_M} {X : z_X} {I : Nat → Nat → Nat → Int32} {J : Nat → Nat → Nat → Int64} (x1 : Int32)
    (h : (((z_bw x1 0 3) = true → (∃ (v7 : Int32) (X2 : z_X) (I3 : Nat → Nat → Nat → Int32) (J4 : Nat → Nat → Nat → Int64), z_ev (d + 7) (z_en 47 [z_r 15 0] (true, X, I, J)) (some (z_i (v7)), (true, X2, I3, J4)) ∧ ((v7 < 0 → (∃ k9 : Nat, x1 = Int32.ofNat k9 ∧ k9 < 4 ∧ (∃ (X13 : z_X) (I14 : Nat → Nat → Nat → Int32) (J15 : Nat → Nat → Nat → Int64), z_ev (d + 7) (z_en 20 [z_r 13 k9, z_r 13 8] (true, X2, I3, J4)) (none, (true, X13, I14, J15)) ∧ (∃ (v23 : Int32) (X18 : z_X) (I19 : Nat → Nat → Nat → Int32) (J20 : Nat → Nat → Nat → Int64), z_ev (d + 7) (z_en 26 [z_r 13 k9] (true, X13, I14, J15)) (some (z_i (v23)), (true, X18, I19, J20)) ∧ r = (some (z_i (v23)), (true, X18, I19, J20)))))) ∧ (0 ≤ v7 → r = (some (z_i ((-100 : Int32) - v7)), (true, X2, I3, J4)))))) ∧ ((z_bw x1 0 3) = false → r = (some (z_i (-1)), (true, X, I, J))))) :
    z_ev (d + 8) (z_en 68 [z_r 0 0, z_i (x1)] (true, X, I, J)) r := by
  show z_ev (d + 8) (68, 0, [some (z_r 0 0), some (z_i (x1)), none], [], (true, X, I, J)) r
  refine z_ev_gs 1 (c1 := (68, 1, [some (z_r 0 0), some (z_i (x1)), none], [z_i (x1)], (true, X, I, J))) rfl ?_
  refine z_ev_ca rfl rfl (z_p118 _) ?_
  refine z_ev_gs 1 (c1 := (68, (if ¬ z_c (z_bw x1 0 3) = 0 then 9 else 7), [some (z_r 0 0), some (z_i (x1)), none], [], (true, X, I, J))) rfl ?_
  refine z_ev_ifcn (fun e1 => ?_) (fun e1 => ?_)
  · have h26 := h.1 e1
    refine z_ev_gs 2 (c1 := (68, 13, [some (z_r 0 0), some (z_i (x1)), none], [z_r 15 0], (true, X, I, J))) rfl ?_
    obtain ⟨v7, X2, I3, J4, g5, h6⟩ := h26
    refine z_ev_ca rfl rfl g5 ?_
    refine z_ev_gs 3 (c1 := (68, (if v7 < 0 then 26 else 21), [some (z_r 0 0), some (z_i (x1)), some (z_i (v7))], [], (true, X2, I3, J4))) rfl ?_
    refine z_ev_iflt (fun e8 => ?_) (fun e8 => ?_)
    · have h24 := h6.1 e8
      refine z_ev_gs 4 (c1 := (68, 34, [some (z_r 0 0), some (z_i (x1)), some (z_i (v7))], [z_i (x1), z_r 2 0], (true, X2, I3, J4))) rfl ?_
      obtain ⟨k9, e10, e11, h12⟩ := h24
      refine z_ev_nt0 (k := k9) rfl e10 e11 ?_
      refine z_ev_gs 3 (c1 := (68, 42, [some (z_r 0 0), some (z_i (x1)), some (z_i (v7))], [z_r 13 8, z_r 13 k9], (true, X2, I3, J4))) rfl ?_
      obtain ⟨X13, I14, J15, g16, h17⟩ := h12
      refine z_ev_cg rfl (z_lt40 e11) rfl g16 ?_
      refine z_ev_gs 4 (c1 := (68, 53, [some (z_r 0 0), some (z_i (x1)), some (z_i (v7))], [z_i (x1), z_r 2 0], (true, X13, I14, J15))) rfl ?_
      refine z_ev_nt0 (k := k9) rfl e10 (Nat.lt_of_lt_of_le e11 (by decide)) ?_
      obtain ⟨v23, X18, I19, J20, g21, h22⟩ := h17
      refine z_ev_cg rfl (z_lt40 (Nat.lt_of_lt_of_le e11 (by decide))) rfl g21 ?_
      rw [h22]
      exact z_ev_rt rfl
    · have h25 := h6.2 e8
      refine z_ev_gs 3 (c1 := (68, 25, [some (z_r 0 0), some (z_i (x1)), some (z_i (v7))], [z_i ((-100 : Int32) - v7)], (true, X2, I3, J4))) rfl ?_
      rw [h25]
      exact z_ev_rt rfl
  · have h27 := h.2 e1
    refine z_ev_gs 1 (c1 := (68, 8, [some (z_r 0 0), some (z_i (x1)), none], [z_i (-1)], (true, X, I, J))) rfl ?_
    rw [h27]
    exact z_ev_rt rfl
theorem z_q173_e {d : Nat} {r : Option z_V × z_M} {X : z_X} {I : Nat → Nat → Nat → Int32} {J : Nat → Nat → Nat → Int64} (x1 : Int32)
    (h : (((I 33 0 14) ≤ x1 → r = (some (z_i (-1)), (true, X, I, J))) ∧ (x1 < (I 33 0 14) → (∃ k2 : Nat, x1 = Int32.ofNat k2 ∧ k2 < 160 ∧ r = (some (z_i (I 43 0 k2)), (true, X, I, J)))))) :
    z_ev d (z_en 173 [z_r 33 0, z_i (x1)] (true, X, I, J)) r := by
  show z_ev d (173, 0, [some (z_r 33 0), some (z_i (x1))], [], (true, X, I, J)) r
  refine z_ev_gs 4 (c1 := (173, (if (I 33 0 14) ≤ x1 then 17 else 8), [some (z_r 33 0), some (z_i (x1))], [], (true, X, I, J))) rfl ?_
  refine z_ev_ifle (fun e1 => ?_) (fun e1 => ?_)
  · have h6 := h.1 e1
    refine z_ev_gs 1 (c1 := (173, 18, [some (z_r 33 0), some (z_i (x1))], [z_i (-1)], (true, X, I, J))) rfl ?_
    rw [h6]
    exact z_ev_rt rfl
  · have h7 := h.2 e1
    refine z_ev_gs 3 (c1 := (173, 13, [some (z_r 33 0), some (z_i (x1))], [z_i (x1), z_r 43 0], (true, X, I, J))) rfl ?_
    obtain ⟨k2, e3, e4, h5⟩ := h7
    refine z_ev_iald (t := 43) (i := 0) (k := k2) (n := 160) rfl rfl e3 e4 (by decide) ?_
    refine z_ev_gs 1 (c1 := (173, 18, [some (z_r 33 0), some (z_i (x1))], [z_i (I 43 0 k2)], (true, X, I, J))) rfl ?_
    rw [h5]
    exact z_ev_rt rfl
theorem z_q176_e {d : Nat} {r : Option z_V × z_M} {X : z_X} {I : Nat → Nat → Nat → Int32} {J : Nat → Nat → Nat → Int64} 
    (h : z_ev (d + 2) (176, 8, [some (z_r 33 0), none], [], (true, X, (z_up I 33 0 16 (I 33 0 17)), J)) r) :
    z_ev (d + 2) (z_en 176 [z_r 33 0] (true, X, I, J)) r := by
  show z_ev (d + 2) (176, 0, [some (z_r 33 0), none], [], (true, X, I, J)) r
  refine z_ev_gs 4 (c1 := (176, 8, [some (z_r 33 0), none], [], (true, X, (z_up I 33 0 16 (I 33 0 17)), J))) rfl ?_
  exact h
theorem z_q176_8 {d : Nat} {r : Option z_V × z_M} {X : z_X} {I : Nat → Nat → Nat → Int32} {J : Nat → Nat → Nat → Int64} 
    (h : (∃ (v6 : Int32) (X1 : z_X) (I2 : Nat → Nat → Nat → Int32) (J3 : Nat → Nat → Nat → Int64), z_ev (d + 1) (z_en 173 [z_r 33 0, z_i (I 33 0 16)] (true, X, I, J)) (some (z_i (v6)), (true, X1, I2, J3)) ∧ ((¬ v6 = (32 : Int32) → (∃ (v13 : Int32) (X8 : z_X) (I9 : Nat → Nat → Nat → Int32) (J10 : Nat → Nat → Nat → Int64), z_ev (d + 1) (z_en 173 [z_r 33 0, z_i (I2 33 0 16)] (true, X1, (z_up I2 33 0 17 (I2 33 0 16)), J3)) (some (z_i (v13)), (true, X8, I9, J10)) ∧ ((0 ≤ v13 → (((z_bw v13 97 122) = false → (((z_bw v13 48 57) = false → ((¬ ((3 : Int32)) = (2 : Int32) → ((¬ ((3 : Int32)) = (3 : Int32) → z_ev (d + 2) (176, 126, [some (z_r 33 0), some (z_i (v13))], [], (true, X8, (z_up (z_up I9 33 0 15 (3 : Int32)) 33 0 19 v13), (z_up J10 33 0 18 (0 : Int64)))) r) ∧ (((3 : Int32)) = (3 : Int32) → z_ev (d + 2) (176, 126, [some (z_r 33 0), some (z_i (v13))], [], (true, X8, (z_up (z_up (z_up I9 33 0 15 (3 : Int32)) 33 0 19 v13) 33 0 17 ((I9 33 0 17) + (1 : Int32))), (z_up J10 33 0 18 (0 : Int64)))) r))) ∧ (((3 : Int32)) = (2 : Int32) → z_ev (d + 2) (176, 126, [some (z_r 33 0), some (z_i (v13))], [], (true, X8, (z_up (z_up I9 33 0 15 (3 : Int32)) 33 0 19 (0 : Int32)), (z_up J10 33 0 18 (0 : Int64)))) r))) ∧ ((z_bw v13 48 57) = true → ((¬ ((2 : Int32)) = (2 : Int32) → ((¬ ((2 : Int32)) = (3 : Int32) → z_ev (d + 2) (176, 126, [some (z_r 33 0), some (z_i (v13))], [], (true, X8, (z_up (z_up I9 33 0 15 (2 : Int32)) 33 0 19 v13), (z_up J10 33 0 18 (0 : Int64)))) r) ∧ (((2 : Int32)) = (3 : Int32) → z_ev (d + 2) (176, 126, [some (z_r 33 0), some (z_i (v13))], [], (true, X8, (z_up (z_up (z_up I9 33 0 15 (2 : Int32)) 33 0 19 v13) 33 0 17 ((I9 33 0 17) + (1 : Int32))), (z_up J10 33 0 18 (0 : Int64)))) r))) ∧ (((2 : Int32)) = (2 : Int32) → z_ev (d + 2) (176, 126, [some (z_r 33 0), some (z_i (v13))], [], (true, X8, (z_up (z_up I9 33 0 15 (2 : Int32)) 33 0 19 (0 : Int32)), (z_up J10 33 0 18 (0 : Int64)))) r))))) ∧ ((z_bw v13 97 122) = true → ((¬ ((1 : Int32)) = (2 : Int32) → ((¬ ((1 : Int32)) = (3 : Int32) → z_ev (d + 2) (176, 126, [some (z_r 33 0), some (z_i (v13))], [], (true, X8, (z_up (z_up I9 33 0 15 (1 : Int32)) 33 0 19 v13), (z_up J10 33 0 18 (0 : Int64)))) r) ∧ (((1 : Int32)) = (3 : Int32) → z_ev (d + 2) (176, 126, [some (z_r 33 0), some (z_i (v13))], [], (true, X8, (z_up (z_up (z_up I9 33 0 15 (1 : Int32)) 33 0 19 v13) 33 0 17 ((I9 33 0 17) + (1 : Int32))), (z_up J10 33 0 18 (0 : Int64)))) r))) ∧ (((1 : Int32)) = (2 : Int32) → z_ev (d + 2) (176, 126, [some (z_r 33 0), some (z_i (v13))], [], (true, X8, (z_up (z_up I9 33 0 15 (1 : Int32)) 33 0 19 (0 : Int32)), (z_up J10 33 0 18 (0 : Int64)))) r))))) ∧ (v13 < 0 → ((¬ ((0 : Int32)) = (2 : Int32) → ((¬ ((0 : Int32)) = (3 : Int32) → z_ev (d + 2) (176, 126, [some (z_r 33 0), some (z_i (v13))], [], (true, X8, (z_up (z_up I9 33 0 15 (0 : Int32)) 33 0 19 v13), (z_up J10 33 0 18 (0 : Int64)))) r) ∧ (((0 : Int32)) = (3 : Int32) → z_ev (d + 2) (176, 126, [some (z_r 33 0), some (z_i (v13))], [], (true, X8, (z_up (z_up (z_up I9 33 0 15 (0 : Int32)) 33 0 19 v13) 33 0 17 ((I9 33 0 17) + (1 : Int32))), (z_up J10 33 0 18 (0 : Int64)))) r))) ∧ (((0 : Int32)) = (2 : Int32) → z_ev (d + 2) (176, 126, [some (z_r 33 0), some (z_i (v13))], [], (true, X8, (z_up (z_up I9 33 0 15 (0 : Int32)) 33 0 19 (0 : Int32)), (z_up J10 33 0 18 (0 : Int64)))) r)))))) ∧ (v6 = (32 : Int32) → z_ev (d + 2) (176, 8, [some (z_r 33 0), none], [], (true, X1, (z_up I2 33 0 16 ((I2 33 0 16) + (1 : Int32))), J3)) r)))) :
    z_ev (d + 2) ((176, 8, [some (z_r 33 0), none], [], (true, X, I, J))) r := by
  refine z_ev_gs 3 (c1 := (176, 13, [some (z_r 33 0), none], [z_i (I 33 0 16), z_r 33 0], (true, X, I, J))) rfl ?_
  obtain ⟨v6, X1, I2, J3, g4, h5⟩ := h
  refine z_ev_ca rfl rfl g4 ?_
  refine z_ev_gs 2 (c1 := (176, (if ¬ v6 = (32 : Int32) then 34 else 21), [some (z_r 33 0), none], [], (true, X1, I2, J3))) rfl ?_
  refine z_ev_ifn (fun e7 => ?_) (fun e7 => ?_)
  · have h47 := h5.1 e7
    refine z_ev_gs 7 (c1 := (176, 47, [some (z_r 33 0), none], [z_i (I2 33 0 16), z_r 33 0], (true, X1, (z_up I2 33 0 17 (I2 33 0 16)), J3))) rfl ?_
    obtain ⟨v13, X8, I9, J10, g11, h12⟩ := h47
    refine z_ev_ca rfl rfl g11 ?_
    refine z_ev_gs 4 (c1 := (176, (if 0 ≤ v13 then 60 else 56), [some (z_r 33 0), some (z_i (v13))], [z_r 33 0], (true, X8, I9, J10))) rfl ?_
    refine z_ev_ifle (fun e14 => ?_) (fun e14 => ?_)
    · have h45 := h12.1 e14
      refine z_ev_gs 1 (c1 := (176, 61, [some (z_r 33 0), some (z_i (v13))], [z_i (v13), z_r 33 0], (true, X8, I9, J10))) rfl ?_
      refine z_ev_ca rfl rfl (z_p174 _) ?_
      refine z_ev_gs 1 (c1 := (176, (if z_c (z_bw v13 97 122) = 0 then 71 else 67), [some (z_r 33 0), some (z_i (v13))], [z_r 33 0], (true, X8, I9, J10))) rfl ?_
      refine z_ev_ifc (fun e15 => ?_) (fun e15 => ?_)
      · have h37 := h45.1 e15
        refine z_ev_gs 1 (c1 := (176, 72, [some (z_r 33 0), some (z_i (v13))], [z_i (v13), z_r 33 0], (true, X8, I9, J10))) rfl ?_
        refine z_ev_ca rfl rfl (z_p175 _) ?_
        refine z_ev_gs 1 (c1 := (176, (if z_c (z_bw v13 48 57) = 0 then 82 else 78), [some (z_r 33 0), some (z_i (v13))], [z_r 33 0], (true, X8, I9, J10))) rfl ?_
        refine z_ev_ifc (fun e16 => ?_) (fun e16 => ?_)
        · have h29 := h37.1 e16
          refine z_ev_gs 10 (c1 := (176, (if ¬ ((3 : Int32)) = (2 : Int32) then 104 else 100), [some (z_r 33 0), some (z_i (v13))], [z_r 33 0], (true, X8, (z_up I9 33 0 15 (3 : Int32)), (z_up J10 33 0 18 (0 : Int64))))) rfl ?_
          refine z_ev_ifn (fun e17 => ?_) (fun e17 => ?_)
          · have h21 := h29.1 e17
            refine z_ev_gs 6 (c1 := (176, (if ¬ ((3 : Int32)) = (3 : Int32) then 126 else 116), [some (z_r 33 0), some (z_i (v13))], [], (true, X8, (z_up (z_up I9 33 0 15 (3 : Int32)) 33 0 19 v13), (z_up J10 33 0 18 (0 : Int64))))) rfl ?_
            refine z_ev_ifn (fun e18 => ?_) (fun e18 => ?_)
            · have h19 := h21.1 e18
              exact h19
            · have h20 := h21.2 e18
              refine z_ev_gs 6 (c1 := (176, 126, [some (z_r 33 0), some (z_i (v13))], [], (true, X8, (z_up (z_up (z_up I9 33 0 15 (3 : Int32)) 33 0 19 v13) 33 0 17 ((I9 33 0 17) + (1 : Int32))), (z_up J10 33 0 18 (0 : Int64))))) rfl ?_
              exact h20
          · have h22 := h29.2 e17
            refine z_ev_gs 7 (c1 := (176, (if ¬ ((3 : Int32)) = (3 : Int32) then 126 else 116), [some (z_r 33 0), some (z_i (v13))], [], (true, X8, (z_up (z_up I9 33 0 15 (3 : Int32)) 33 0 19 (0 : Int32)), (z_up J10 33 0 18 (0 : Int64))))) rfl ?_
            rw [if_pos (fun q8 => absurd (e17.symm.trans q8) (by decide))]
            exact h22
        · have h30 := h37.2 e16
          refine z_ev_gs 11 (c1 := (176, (if ¬ ((2 : Int32)) = (2 : Int32) then 104 else 100), [some (z_r 33 0), some (z_i (v13))], [z_r 33 0], (true, X8, (z_up I9 33 0 15 (2 : Int32)), (z_up J10 33 0 18 (0 : Int64))))) rfl ?_
          refine z_ev_ifn (fun e23 => ?_) (fun e23 => ?_)
          · have h27 := h30.1 e23
            refine z_ev_gs 6 (c1 := (176, (if ¬ ((2 : Int32)) = (3 : Int32) then 126 else 116), [some (z_r 33 0), some (z_i (v13))], [], (true, X8, (z_up (z_up I9 33 0 15 (2 : Int32)) 33 0 19 v13), (z_up J10 33 0 18 (0 : Int64))))) rfl ?_
            refine z_ev_ifn (fun e24 => ?_) (fun e24 => ?_)
            · have h25 := h27.1 e24
              exact h25
            · have h26 := h27.2 e24
              refine z_ev_gs 6 (c1 := (176, 126, [some (z_r 33 0), some (z_i (v13))], [], (true, X8, (z_up (z_up (z_up I9 33 0 15 (2 : Int32)) 33 0 19 v13) 33 0 17 ((I9 33 0 17) + (1 : Int32))), (z_up J10 33 0 18 (0 : Int64))))) rfl ?_
              exact h26
          · have h28 := h30.2 e23
            refine z_ev_gs 7 (c1 := (176, (if ¬ ((2 : Int32)) = (3 : Int32) then 126 else 116), [some (z_r 33 0), some (z_i (v13))], [], (true, X8, (z_up (z_up I9 33 0 15 (2 : Int32)) 33 0 19 (0 : Int32)), (z_up J10 33 0 18 (0 : Int64))))) rfl ?_
            rw [if_pos (fun q8 => absurd (e23.symm.trans q8) (by decide))]
            exact h28
      · have h38 := h45.2 e15
        refine z_ev_gs 11 (c1 := (176, (if ¬ ((1 : Int32)) = (2 : Int32) then 104 else 100), [some (z_r 33 0), some (z_i (v13))], [z_r 33 0], (true, X8, (z_up I9 33 0 15 (1 : Int32)), (z_up J10 33 0 18 (0 : Int64))))) rfl ?_
        refine z_ev_ifn (fun e31 => ?_) (fun e31 => ?_)
        · have h35 := h38.1 e31
          refine z_ev_gs 6 (c1 := (176, (if ¬ ((1 : Int32)) = (3 : Int32) then 126 else 116), [some (z_r 33 0), some (z_i (v13))], [], (true, X8, (z_up (z_up I9 33 0 15 (1 : Int32)) 33 0 19 v13), (z_up J10 33 0 18 (0 : Int64))))) rfl ?_
          refine z_ev_ifn (fun e32 => ?_) (fun e32 => ?_)
          · have h33 := h35.1 e32
            exact h33
          · have h34 := h35.2 e32
            refine z_ev_gs 6 (c1 := (176, 126, [some (z_r 33 0), some (z_i (v13))], [], (true, X8, (z_up (z_up (z_up I9 33 0 15 (1 : Int32)) 33 0 19 v13) 33 0 17 ((I9 33 0 17) + (1 : Int32))), (z_up J10 33 0 18 (0 : Int64))))) rfl ?_
            exact h34
        · have h36 := h38.2 e31
          refine z_ev_gs 7 (c1 := (176, (if ¬ ((1 : Int32)) = (3 : Int32) then 126 else 116), [some (z_r 33 0), some (z_i (v13))], [], (true, X8, (z_up (z_up I9 33 0 15 (1 : Int32)) 33 0 19 (0 : Int32)), (z_up J10 33 0 18 (0 : Int64))))) rfl ?_
          rw [if_pos (fun q8 => absurd (e31.symm.trans q8) (by decide))]
          exact h36
    · have h46 := h12.2 e14
      refine z_ev_gs 11 (c1 := (176, (if ¬ ((0 : Int32)) = (2 : Int32) then 104 else 100), [some (z_r 33 0), some (z_i (v13))], [z_r 33 0], (true, X8, (z_up I9 33 0 15 (0 : Int32)), (z_up J10 33 0 18 (0 : Int64))))) rfl ?_
      refine z_ev_ifn (fun e39 => ?_) (fun e39 => ?_)
      · have h43 := h46.1 e39
        refine z_ev_gs 6 (c1 := (176, (if ¬ ((0 : Int32)) = (3 : Int32) then 126 else 116), [some (z_r 33 0), some (z_i (v13))], [], (true, X8, (z_up (z_up I9 33 0 15 (0 : Int32)) 33 0 19 v13), (z_up J10 33 0 18 (0 : Int64))))) rfl ?_
        refine z_ev_ifn (fun e40 => ?_) (fun e40 => ?_)
        · have h41 := h43.1 e40
          exact h41
        · have h42 := h43.2 e40
          refine z_ev_gs 6 (c1 := (176, 126, [some (z_r 33 0), some (z_i (v13))], [], (true, X8, (z_up (z_up (z_up I9 33 0 15 (0 : Int32)) 33 0 19 v13) 33 0 17 ((I9 33 0 17) + (1 : Int32))), (z_up J10 33 0 18 (0 : Int64))))) rfl ?_
          exact h42
      · have h44 := h46.2 e39
        refine z_ev_gs 7 (c1 := (176, (if ¬ ((0 : Int32)) = (3 : Int32) then 126 else 116), [some (z_r 33 0), some (z_i (v13))], [], (true, X8, (z_up (z_up I9 33 0 15 (0 : Int32)) 33 0 19 (0 : Int32)), (z_up J10 33 0 18 (0 : Int64))))) rfl ?_
        rw [if_pos (fun q8 => absurd (e39.symm.trans q8) (by decide))]
        exact h44
  · have h48 := h5.2 e7
    refine z_ev_gs 7 (c1 := (176, 8, [some (z_r 33 0), none], [], (true, X1, (z_up I2 33 0 16 ((I2 33 0 16) + (1 : Int32))), J3))) rfl ?_
    exact h48
theorem z_q176_126 {d : Nat} {r : Option z_V × z_M} {X : z_X} {I : Nat → Nat → Nat → Int32} {J : Nat → Nat → Nat → Int64} (x1 : Int32)
    (h : ((¬ (I 33 0 15) = (1 : Int32) → z_ev (d + 2) (176, 207, [some (z_r 33 0), some (z_i (x1))], [], (true, X, I, J)) r) ∧ ((I 33 0 15) = (1 : Int32) → (∃ (v55 : Int32) (X50 : z_X) (I51 : Nat → Nat → Nat → Int32) (J52 : Nat → Nat → Nat → Int64), z_ev (d + 1) (z_en 173 [z_r 33 0, z_i (I 33 0 17)] (true, X, I, J)) (some (z_i (v55)), (true, X50, I51, J52)) ∧ (((z_bw v55 97 122) = false → z_ev (d + 2) (176, 207, [some (z_r 33 0), some (z_i (x1))], [], (true, X50, I51, J52)) r) ∧ ((z_bw v55 97 122) = true → (((8 : Int32) ≤ ((I51 33 0 17) - (I51 33 0 16)) → z_ev (d + 2) (176, 126, [some (z_r 33 0), some (z_i (x1))], [], (true, X50, (z_up I51 33 0 17 ((I51 33 0 17) + (1 : Int32))), (z_up J52 33 0 18 (-1 : Int64)))) r) ∧ (((I51 33 0 17) - (I51 33 0 16)) < (8 : Int32) → (∃ (v63 : Int32) (X58 : z_X) (I59 : Nat → Nat → Nat → Int32) (J60 : Nat → Nat → Nat → Int64), z_ev (d + 1) (z_en 173 [z_r 33 0, z_i (I51 33 0 17)] (true, X50, I51, J52)) (some (z_i (v63)), (true, X58, I59, J60)) ∧ z_ev (d + 2) (176, 126, [some (z_r 33 0), some (z_i (x1))], [], (true, X58, (z_up I59 33 0 17 ((I59 33 0 17) + (1 : Int32))), (z_up J60 33 0 18 ((((27 : Int64) * (J52 33 0 18)) + v63.toInt64) - (96 : Int64))))) r))))))))) :
    z_ev (d + 2) ((176, 126, [some (z_r 33 0), some (z_i (x1))], [], (true, X, I, J))) r := by
  refine z_ev_gs 4 (c1 := (176, (if ¬ (I 33 0 15) = (1 : Int32) then 207 else 134), [some (z_r 33 0), some (z_i (x1))], [], (true, X, I, J))) rfl ?_
  refine z_ev_ifn (fun e49 => ?_) (fun e49 => ?_)
  · have h68 := h.1 e49
    exact h68
  · have h69 := h.2 e49
    refine z_ev_gs 3 (c1 := (176, 139, [some (z_r 33 0), some (z_i (x1))], [z_i (I 33 0 17), z_r 33 0], (true, X, I, J))) rfl ?_
    obtain ⟨v55, X50, I51, J52, g53, h54⟩ := h69
    refine z_ev_ca rfl rfl g53 ?_
    refine z_ev_ca rfl rfl (z_p174 _) ?_
    refine z_ev_gs 1 (c1 := (176, (if z_c (z_bw v55 97 122) = 0 then 207 else 148), [some (z_r 33 0), some (z_i (x1))], [], (true, X50, I51, J52))) rfl ?_
    refine z_ev_ifc (fun e56 => ?_) (fun e56 => ?_)
    · have h66 := h54.1 e56
      exact h66
    · have h67 := h54.2 e56
      refine z_ev_gs 8 (c1 := (176, (if (8 : Int32) ≤ ((I51 33 0 17) - (I51 33 0 16)) then 188 else 163), [some (z_r 33 0), some (z_i (x1))], [z_r 33 0], (true, X50, I51, J52))) rfl ?_
      refine z_ev_ifle (fun e57 => ?_) (fun e57 => ?_)
      · have h64 := h67.1 e57
        refine z_ev_gs 9 (c1 := (176, 126, [some (z_r 33 0), some (z_i (x1))], [], (true, X50, (z_up I51 33 0 17 ((I51 33 0 17) + (1 : Int32))), (z_up J52 33 0 18 (-1 : Int64))))) rfl ?_
        exact h64
      · have h65 := h67.2 e57
        refine z_ev_gs 7 (c1 := (176, 176, [some (z_r 33 0), some (z_i (x1))], [z_i (I51 33 0 17), z_r 33 0, z_j ((27 : Int64) * (J52 33 0 18)), z_r 33 0], (true, X50, I51, J52))) rfl ?_
        obtain ⟨v63, X58, I59, J60, g61, h62⟩ := h65
        refine z_ev_ca rfl rfl g61 ?_
        refine z_ev_gs 13 (c1 := (176, 126, [some (z_r 33 0), some (z_i (x1))], [], (true, X58, (z_up I59 33 0 17 ((I59 33 0 17) + (1 : Int32))), (z_up J60 33 0 18 ((((27 : Int64) * (J52 33 0 18)) + v63.toInt64) - (96 : Int64)))))) rfl ?_
        exact h62
theorem z_q176_207 {d : Nat} {r : Option z_V × z_M} {X : z_X} {I : Nat → Nat → Nat → Int32} {J : Nat → Nat → Nat → Int64} (x1 : Int32)
    (h : ((¬ (I 33 0 15) = (2 : Int32) → r = (none, (true, X, I, J))) ∧ ((I 33 0 15) = (2 : Int32) → (∃ (v76 : Int32) (X71 : z_X) (I72 : Nat → Nat → Nat → Int32) (J73 : Nat → Nat → Nat → Int64), z_ev (d + 1) (z_en 173 [z_r 33 0, z_i (I 33 0 17)] (true, X, I, J)) (some (z_i (v76)), (true, X71, I72, J73)) ∧ (((z_bw v76 48 57) = false → r = (none, (true, X71, I72, J73))) ∧ ((z_bw v76 48 57) = true → (((2 : Int32) ≤ ((I72 33 0 17) - (I72 33 0 16)) → z_ev (d + 2) (176, 207, [some (z_r 33 0), some (z_i (x1))], [], (true, X71, (z_up (z_up I72 33 0 19 (-1 : Int32)) 33 0 17 ((I72 33 0 17) + (1 : Int32))), J73)) r) ∧ (((I72 33 0 17) - (I72 33 0 16)) < (2 : Int32) → (∃ (v84 : Int32) (X79 : z_X) (I80 : Nat → Nat → Nat → Int32) (J81 : Nat → Nat → Nat → Int64), z_ev (d + 1) (z_en 173 [z_r 33 0, z_i (I72 33 0 17)] (true, X71, I72, J73)) (some (z_i (v84)), (true, X79, I80, J81)) ∧ z_ev (d + 2) (176, 207, [some (z_r 33 0), some (z_i (x1))], [], (true, X79, (z_up (z_up I80 33 0 19 ((((10 : Int32) * (I72 33 0 19)) + v84) - (48 : Int32))) 33 0 17 ((I80 33 0 17) + (1 : Int32))), J81)) r))))))))) :
    z_ev (d + 2) ((176, 207, [some (z_r 33 0), some (z_i (x1))], [], (true, X, I, J))) r := by
  refine z_ev_gs 4 (c1 := (176, (if ¬ (I 33 0 15) = (2 : Int32) then 282 else 215), [some (z_r 33 0), some (z_i (x1))], [], (true, X, I, J))) rfl ?_
  refine z_ev_ifn (fun e70 => ?_) (fun e70 => ?_)
  · have h89 := h.1 e70
    rw [h89]
    exact z_ev_rt rfl
  · have h90 := h.2 e70
    refine z_ev_gs 3 (c1 := (176, 220, [some (z_r 33 0), some (z_i (x1))], [z_i (I 33 0 17), z_r 33 0], (true, X, I, J))) rfl ?_
    obtain ⟨v76, X71, I72, J73, g74, h75⟩ := h90
    refine z_ev_ca rfl rfl g74 ?_
    refine z_ev_ca rfl rfl (z_p175 _) ?_
    refine z_ev_gs 1 (c1 := (176, (if z_c (z_bw v76 48 57) = 0 then 282 else 229), [some (z_r 33 0), some (z_i (x1))], [], (true, X71, I72, J73))) rfl ?_
    refine z_ev_ifc (fun e77 => ?_) (fun e77 => ?_)
    · have h87 := h75.1 e77
      rw [h87]
      exact z_ev_rt rfl
    · have h88 := h75.2 e77
      refine z_ev_gs 8 (c1 := (176, (if (2 : Int32) ≤ ((I72 33 0 17) - (I72 33 0 16)) then 265 else 243), [some (z_r 33 0), some (z_i (x1))], [z_r 33 0], (true, X71, I72, J73))) rfl ?_
      refine z_ev_ifle (fun e78 => ?_) (fun e78 => ?_)
      · have h85 := h88.1 e78
        refine z_ev_gs 9 (c1 := (176, 207, [some (z_r 33 0), some (z_i (x1))], [], (true, X71, (z_up (z_up I72 33 0 19 (-1 : Int32)) 33 0 17 ((I72 33 0 17) + (1 : Int32))), J73))) rfl ?_
        exact h85
      · have h86 := h88.2 e78
        refine z_ev_gs 7 (c1 := (176, 255, [some (z_r 33 0), some (z_i (x1))], [z_i (I72 33 0 17), z_r 33 0, z_i ((10 : Int32) * (I72 33 0 19)), z_r 33 0], (true, X71, I72, J73))) rfl ?_
        obtain ⟨v84, X79, I80, J81, g82, h83⟩ := h86
        refine z_ev_ca rfl rfl g82 ?_
        refine z_ev_gs 12 (c1 := (176, 207, [some (z_r 33 0), some (z_i (x1))], [], (true, X79, (z_up (z_up I80 33 0 19 ((((10 : Int32) * (I72 33 0 19)) + v84) - (48 : Int32))) 33 0 17 ((I80 33 0 17) + (1 : Int32))), J81))) rfl ?_
        exact h83
theorem z_q177_e {d : Nat} {r : Option z_V × z_M} {X : z_X} {I : Nat → Nat → Nat → Int32} {J : Nat → Nat → Nat → Int64} (l1 : Int64)
    (h : ((¬ (I 33 0 15) = (1 : Int32) → r = (some (z_i 0), (true, X, I, J))) ∧ ((I 33 0 15) = (1 : Int32) → ((¬ (lg_cmp (J 33 0 18) l1) = 0 → r = (some (z_i 0), (true, X, I, J))) ∧ ((lg_cmp (J 33 0 18) l1) = 0 → r = (some (z_i 1), (true, X, I, J))))))) :
    z_ev d (z_en 177 [z_r 33 0, z_j (l1)] (true, X, I, J)) r := by
  show z_ev d (177, 0, [some (z_r 33 0), some (z_j (l1)), none], [], (true, X, I, J)) r
  refine z_ev_gs 4 (c1 := (177, (if ¬ (I 33 0 15) = (1 : Int32) then 21 else 8), [some (z_r 33 0), some (z_j (l1)), none], [], (true, X, I, J))) rfl ?_
  refine z_ev_ifn (fun e1 => ?_) (fun e1 => ?_)
  · have h5 := h.1 e1
    refine z_ev_gs 1 (c1 := (177, 22, [some (z_r 33 0), some (z_j (l1)), none], [z_i 0], (true, X, I, J))) rfl ?_
    rw [h5]
    exact z_ev_rt rfl
  · have h6 := h.2 e1
    refine z_ev_gs 5 (c1 := (177, (if ¬ (lg_cmp (J 33 0 18) l1) = 0 then 21 else 17), [some (z_r 33 0), some (z_j (l1)), none], [], (true, X, I, J))) rfl ?_
    refine z_ev_ifn (fun e2 => ?_) (fun e2 => ?_)
    · have h3 := h6.1 e2
      refine z_ev_gs 1 (c1 := (177, 22, [some (z_r 33 0), some (z_j (l1)), none], [z_i 0], (true, X, I, J))) rfl ?_
      rw [h3]
      exact z_ev_rt rfl
    · have h4 := h6.2 e2
      refine z_ev_gs 2 (c1 := (177, 22, [some (z_r 33 0), some (z_j (l1)), none], [z_i 1], (true, X, I, J))) rfl ?_
      rw [h4]
      exact z_ev_rt rfl
theorem z_q178_e {d : Nat} {r : Option z_V × z_M} {X : z_X} {I : Nat → Nat → Nat → Int32} {J : Nat → Nat → Nat → Int64} (x1 : Int32) (x2 : Int32)
    (h : (((I 33 0 20) = 0 → ((((0 : Int32)) = 0 → r = (some (z_i (I 33 0 19)), (true, X, (z_up I 33 0 20 (0 : Int32)), J))) ∧ (¬ ((0 : Int32)) = 0 → (∃ (X3 : z_X) (I4 : Nat → Nat → Nat → Int32) (J5 : Nat → Nat → Nat → Int64), z_ev (d + 2) (z_en 176 [z_r 33 0] (true, X, (z_up I 33 0 20 (0 : Int32)), J)) (none, (true, X3, I4, J5)) ∧ r = (some (z_i (I 33 0 19)), (true, X3, I4, J5)))))) ∧ (¬ (I 33 0 20) = 0 → ((¬ (I 33 0 15) = (2 : Int32) → ((((0 : Int32)) = 0 → r = (some (z_i (I 33 0 19)), (true, X, (z_up I 33 0 20 (0 : Int32)), J))) ∧ (¬ ((0 : Int32)) = 0 → (∃ (X12 : z_X) (I13 : Nat → Nat → Nat → Int32) (J14 : Nat → Nat → Nat → Int64), z_ev (d + 2) (z_en 176 [z_r 33 0] (true, X, (z_up I 33 0 20 (0 : Int32)), J)) (none, (true, X12, I13, J14)) ∧ r = (some (z_i (I 33 0 19)), (true, X12, I13, J14)))))) ∧ ((I 33 0 15) = (2 : Int32) → (((z_bw (I 33 0 19) x1 x2) = false → ((((0 : Int32)) = 0 → r = (some (z_i (I 33 0 19)), (true, X, (z_up I 33 0 20 (0 : Int32)), J))) ∧ (¬ ((0 : Int32)) = 0 → (∃ (X21 : z_X) (I22 : Nat → Nat → Nat → Int32) (J23 : Nat → Nat → Nat → Int64), z_ev (d + 2) (z_en 176 [z_r 33 0] (true, X, (z_up I 33 0 20 (0 : Int32)), J)) (none, (true, X21, I22, J23)) ∧ r = (some (z_i (I 33 0 19)), (true, X21, I22, J23)))))) ∧ ((z_bw (I 33 0 19) x1 x2) = true → ((((1 : Int32)) = 0 → r = (some (z_i (I 33 0 19)), (true, X, (z_up I 33 0 20 (1 : Int32)), J))) ∧ (¬ ((1 : Int32)) = 0 → (∃ (X29 : z_X) (I30 : Nat → Nat → Nat → Int32) (J31 : Nat → Nat → Nat → Int64), z_ev (d + 2) (z_en 176 [z_r 33 0] (true, X, (z_up I 33 0 20 (1 : Int32)), J)) (none, (true, X29, I30, J31)) ∧ r = (some (z_i (I 33 0 19)), (true, X29, I30, J31)))))))))))) :
    z_ev (d + 3) (z_en 178 [z_r 33 0, z_i (x1), z_i (x2)] (true, X, I, J)) r := by
  show z_ev (d + 3) (178, 0, [some (z_r 33 0), some (z_i (x1)), some (z_i (x2)), none], [], (true, X, I, J)) r
  refine z_ev_gs 7 (c1 := (178, (if (I 33 0 20) = 0 then 34 else 13), [some (z_r 33 0), some (z_i (x1)), some (z_i (x2)), some (z_i (I 33 0 19))], [z_r 33 0], (true, X, I, J))) rfl ?_
  refine z_ev_if (fun e1 => ?_) (fun e1 => ?_)
  · have h40 := h.1 e1
    refine z_ev_gs 5 (c1 := (178, (if ((0 : Int32)) = 0 then 49 else 45), [some (z_r 33 0), some (z_i (x1)), some (z_i (x2)), some (z_i (I 33 0 19))], [], (true, X, (z_up I 33 0 20 (0 : Int32)), J))) rfl ?_
    refine z_ev_if (fun e2 => ?_) (fun e2 => ?_)
    · have h8 := h40.1 e2
      refine z_ev_gs 1 (c1 := (178, 50, [some (z_r 33 0), some (z_i (x1)), some (z_i (x2)), some (z_i (I 33 0 19))], [z_i (I 33 0 19)], (true, X, (z_up I 33 0 20 (0 : Int32)), J))) rfl ?_
      rw [h8]
      exact z_ev_rt rfl
    · have h9 := h40.2 e2
      refine z_ev_gs 1 (c1 := (178, 46, [some (z_r 33 0), some (z_i (x1)), some (z_i (x2)), some (z_i (I 33 0 19))], [z_r 33 0], (true, X, (z_up I 33 0 20 (0 : Int32)), J))) rfl ?_
      obtain ⟨X3, I4, J5, g6, h7⟩ := h9
      refine z_ev_ca rfl rfl g6 ?_
      refine z_ev_gs 1 (c1 := (178, 50, [some (z_r 33 0), some (z_i (x1)), some (z_i (x2)), some (z_i (I 33 0 19))], [z_i (I 33 0 19)], (true, X3, I4, J5))) rfl ?_
      rw [h7]
      exact z_ev_rt rfl
  · have h41 := h.2 e1
    refine z_ev_gs 4 (c1 := (178, (if ¬ (I 33 0 15) = (2 : Int32) then 34 else 21), [some (z_r 33 0), some (z_i (x1)), some (z_i (x2)), some (z_i (I 33 0 19))], [z_r 33 0], (true, X, I, J))) rfl ?_
    refine z_ev_ifn (fun e10 => ?_) (fun e10 => ?_)
    · have h38 := h41.1 e10
      refine z_ev_gs 5 (c1 := (178, (if ((0 : Int32)) = 0 then 49 else 45), [some (z_r 33 0), some (z_i (x1)), some (z_i (x2)), some (z_i (I 33 0 19))], [], (true, X, (z_up I 33 0 20 (0 : Int32)), J))) rfl ?_
      refine z_ev_if (fun e11 => ?_) (fun e11 => ?_)
      · have h17 := h38.1 e11
        refine z_ev_gs 1 (c1 := (178, 50, [some (z_r 33 0), some (z_i (x1)), some (z_i (x2)), some (z_i (I 33 0 19))], [z_i (I 33 0 19)], (true, X, (z_up I 33 0 20 (0 : Int32)), J))) rfl ?_
        rw [h17]
        exact z_ev_rt rfl
      · have h18 := h38.2 e11
        refine z_ev_gs 1 (c1 := (178, 46, [some (z_r 33 0), some (z_i (x1)), some (z_i (x2)), some (z_i (I 33 0 19))], [z_r 33 0], (true, X, (z_up I 33 0 20 (0 : Int32)), J))) rfl ?_
        obtain ⟨X12, I13, J14, g15, h16⟩ := h18
        refine z_ev_ca rfl rfl g15 ?_
        refine z_ev_gs 1 (c1 := (178, 50, [some (z_r 33 0), some (z_i (x1)), some (z_i (x2)), some (z_i (I 33 0 19))], [z_i (I 33 0 19)], (true, X12, I13, J14))) rfl ?_
        rw [h16]
        exact z_ev_rt rfl
    · have h39 := h41.2 e10
      refine z_ev_gs 3 (c1 := (178, 24, [some (z_r 33 0), some (z_i (x1)), some (z_i (x2)), some (z_i (I 33 0 19))], [z_i (x2), z_i (x1), z_i (I 33 0 19), z_r 33 0], (true, X, I, J))) rfl ?_
      refine z_ev_ca rfl rfl (z_p158 _ _ _) ?_
      refine z_ev_gs 1 (c1 := (178, (if z_c (z_bw (I 33 0 19) x1 x2) = 0 then 34 else 30), [some (z_r 33 0), some (z_i (x1)), some (z_i (x2)), some (z_i (I 33 0 19))], [z_r 33 0], (true, X, I, J))) rfl ?_
      refine z_ev_ifc (fun e19 => ?_) (fun e19 => ?_)
      · have h36 := h39.1 e19
        refine z_ev_gs 5 (c1 := (178, (if ((0 : Int32)) = 0 then 49 else 45), [some (z_r 33 0), some (z_i (x1)), some (z_i (x2)), some (z_i (I 33 0 19))], [], (true, X, (z_up I 33 0 20 (0 : Int32)), J))) rfl ?_
        refine z_ev_if (fun e20 => ?_) (fun e20 => ?_)
        · have h26 := h36.1 e20
          refine z_ev_gs 1 (c1 := (178, 50, [some (z_r 33 0), some (z_i (x1)), some (z_i (x2)), some (z_i (I 33 0 19))], [z_i (I 33 0 19)], (true, X, (z_up I 33 0 20 (0 : Int32)), J))) rfl ?_
          rw [h26]
          exact z_ev_rt rfl
        · have h27 := h36.2 e20
          refine z_ev_gs 1 (c1 := (178, 46, [some (z_r 33 0), some (z_i (x1)), some (z_i (x2)), some (z_i (I 33 0 19))], [z_r 33 0], (true, X, (z_up I 33 0 20 (0 : Int32)), J))) rfl ?_
          obtain ⟨X21, I22, J23, g24, h25⟩ := h27
          refine z_ev_ca rfl rfl g24 ?_
          refine z_ev_gs 1 (c1 := (178, 50, [some (z_r 33 0), some (z_i (x1)), some (z_i (x2)), some (z_i (I 33 0 19))], [z_i (I 33 0 19)], (true, X21, I22, J23))) rfl ?_
          rw [h25]
          exact z_ev_rt rfl
      · have h37 := h39.2 e19
        refine z_ev_gs 6 (c1 := (178, (if ((1 : Int32)) = 0 then 49 else 45), [some (z_r 33 0), some (z_i (x1)), some (z_i (x2)), some (z_i (I 33 0 19))], [], (true, X, (z_up I 33 0 20 (1 : Int32)), J))) rfl ?_
        refine z_ev_if (fun e28 => ?_) (fun e28 => ?_)
        · have h34 := h37.1 e28
          refine z_ev_gs 1 (c1 := (178, 50, [some (z_r 33 0), some (z_i (x1)), some (z_i (x2)), some (z_i (I 33 0 19))], [z_i (I 33 0 19)], (true, X, (z_up I 33 0 20 (1 : Int32)), J))) rfl ?_
          rw [h34]
          exact z_ev_rt rfl
        · have h35 := h37.2 e28
          refine z_ev_gs 1 (c1 := (178, 46, [some (z_r 33 0), some (z_i (x1)), some (z_i (x2)), some (z_i (I 33 0 19))], [z_r 33 0], (true, X, (z_up I 33 0 20 (1 : Int32)), J))) rfl ?_
          obtain ⟨X29, I30, J31, g32, h33⟩ := h35
          refine z_ev_ca rfl rfl g32 ?_
          refine z_ev_gs 1 (c1 := (178, 50, [some (z_r 33 0), some (z_i (x1)), some (z_i (x2)), some (z_i (I 33 0 19))], [z_i (I 33 0 19)], (true, X29, I30, J31))) rfl ?_
          rw [h33]
          exact z_ev_rt rfl
theorem z_q179_e {d : Nat} {r : Option z_V × z_M} {X : z_X} {I : Nat → Nat → Nat → Int32} {J : Nat → Nat → Nat → Int64} 
    (h : (((I 33 0 20) = 0 → ((((0 : Int32)) = 0 → r = (none, (true, X, (z_up I 33 0 20 (0 : Int32)), J))) ∧ (¬ ((0 : Int32)) = 0 → (∃ (X3 : z_X) (I4 : Nat → Nat → Nat → Int32) (J5 : Nat → Nat → Nat → Int64), z_ev (d + 2) (z_en 176 [z_r 33 0] (true, X, (z_up I 33 0 20 (0 : Int32)), J)) (none, (true, X3, I4, J5)) ∧ r = (none, (true, X3, I4, J5)))))) ∧ (¬ (I 33 0 20) = 0 → ((¬ (I 33 0 15) = (3 : Int32) → ((((0 : Int32)) = 0 → r = (none, (true, X, (z_up I 33 0 20 (0 : Int32)), J))) ∧ (¬ ((0 : Int32)) = 0 → (∃ (X12 : z_X) (I13 : Nat → Nat → Nat → Int32) (J14 : Nat → Nat → Nat → Int64), z_ev (d + 2) (z_en 176 [z_r 33 0] (true, X, (z_up I 33 0 20 (0 : Int32)), J)) (none, (true, X12, I13, J14)) ∧ r = (none, (true, X12, I13, J14)))))) ∧ ((I 33 0 15) = (3 : Int32) → ((¬ (I 33 0 19) = (59 : Int32) → ((((0 : Int32)) = 0 → r = (none, (true, X, (z_up I 33 0 20 (0 : Int32)), J))) ∧ (¬ ((0 : Int32)) = 0 → (∃ (X21 : z_X) (I22 : Nat → Nat → Nat → Int32) (J23 : Nat → Nat → Nat → Int64), z_ev (d + 2) (z_en 176 [z_r 33 0] (true, X, (z_up I 33 0 20 (0 : Int32)), J)) (none, (true, X21, I22, J23)) ∧ r = (none, (true, X21, I22, J23)))))) ∧ ((I 33 0 19) = (59 : Int32) → ((((1 : Int32)) = 0 → r = (none, (true, X, (z_up I 33 0 20 (1 : Int32)), J))) ∧ (¬ ((1 : Int32)) = 0 → (∃ (X29 : z_X) (I30 : Nat → Nat → Nat → Int32) (J31 : Nat → Nat → Nat → Int64), z_ev (d + 2) (z_en 176 [z_r 33 0] (true, X, (z_up I 33 0 20 (1 : Int32)), J)) (none, (true, X29, I30, J31)) ∧ r = (none, (true, X29, I30, J31)))))))))))) :
    z_ev (d + 3) (z_en 179 [z_r 33 0] (true, X, I, J)) r := by
  show z_ev (d + 3) (179, 0, [some (z_r 33 0)], [], (true, X, I, J)) r
  refine z_ev_gs 4 (c1 := (179, (if (I 33 0 20) = 0 then 29 else 8), [some (z_r 33 0)], [z_r 33 0], (true, X, I, J))) rfl ?_
  refine z_ev_if (fun e1 => ?_) (fun e1 => ?_)
  · have h40 := h.1 e1
    refine z_ev_gs 5 (c1 := (179, (if ((0 : Int32)) = 0 then 44 else 40), [some (z_r 33 0)], [], (true, X, (z_up I 33 0 20 (0 : Int32)), J))) rfl ?_
    refine z_ev_if (fun e2 => ?_) (fun e2 => ?_)
    · have h8 := h40.1 e2
      rw [h8]
      exact z_ev_rt rfl
    · have h9 := h40.2 e2
      refine z_ev_gs 1 (c1 := (179, 41, [some (z_r 33 0)], [z_r 33 0], (true, X, (z_up I 33 0 20 (0 : Int32)), J))) rfl ?_
      obtain ⟨X3, I4, J5, g6, h7⟩ := h9
      refine z_ev_ca rfl rfl g6 ?_
      rw [h7]
      exact z_ev_rt rfl
  · have h41 := h.2 e1
    refine z_ev_gs 4 (c1 := (179, (if ¬ (I 33 0 15) = (3 : Int32) then 29 else 16), [some (z_r 33 0)], [z_r 33 0], (true, X, I, J))) rfl ?_
    refine z_ev_ifn (fun e10 => ?_) (fun e10 => ?_)
    · have h38 := h41.1 e10
      refine z_ev_gs 5 (c1 := (179, (if ((0 : Int32)) = 0 then 44 else 40), [some (z_r 33 0)], [], (true, X, (z_up I 33 0 20 (0 : Int32)), J))) rfl ?_
      refine z_ev_if (fun e11 => ?_) (fun e11 => ?_)
      · have h17 := h38.1 e11
        rw [h17]
        exact z_ev_rt rfl
      · have h18 := h38.2 e11
        refine z_ev_gs 1 (c1 := (179, 41, [some (z_r 33 0)], [z_r 33 0], (true, X, (z_up I 33 0 20 (0 : Int32)), J))) rfl ?_
        obtain ⟨X12, I13, J14, g15, h16⟩ := h18
        refine z_ev_ca rfl rfl g15 ?_
        rw [h16]
        exact z_ev_rt rfl
    · have h39 := h41.2 e10
      refine z_ev_gs 4 (c1 := (179, (if ¬ (I 33 0 19) = (59 : Int32) then 29 else 25), [some (z_r 33 0)], [z_r 33 0], (true, X, I, J))) rfl ?_
      refine z_ev_ifn (fun e19 => ?_) (fun e19 => ?_)
      · have h36 := h39.1 e19
        refine z_ev_gs 5 (c1 := (179, (if ((0 : Int32)) = 0 then 44 else 40), [some (z_r 33 0)], [], (true, X, (z_up I 33 0 20 (0 : Int32)), J))) rfl ?_
        refine z_ev_if (fun e20 => ?_) (fun e20 => ?_)
        · have h26 := h36.1 e20
          rw [h26]
          exact z_ev_rt rfl
        · have h27 := h36.2 e20
          refine z_ev_gs 1 (c1 := (179, 41, [some (z_r 33 0)], [z_r 33 0], (true, X, (z_up I 33 0 20 (0 : Int32)), J))) rfl ?_
          obtain ⟨X21, I22, J23, g24, h25⟩ := h27
          refine z_ev_ca rfl rfl g24 ?_
          rw [h25]
          exact z_ev_rt rfl
      · have h37 := h39.2 e19
        refine z_ev_gs 6 (c1 := (179, (if ((1 : Int32)) = 0 then 44 else 40), [some (z_r 33 0)], [], (true, X, (z_up I 33 0 20 (1 : Int32)), J))) rfl ?_
        refine z_ev_if (fun e28 => ?_) (fun e28 => ?_)
        · have h34 := h37.1 e28
          rw [h34]
          exact z_ev_rt rfl
        · have h35 := h37.2 e28
          refine z_ev_gs 1 (c1 := (179, 41, [some (z_r 33 0)], [z_r 33 0], (true, X, (z_up I 33 0 20 (1 : Int32)), J))) rfl ?_
          obtain ⟨X29, I30, J31, g32, h33⟩ := h35
          refine z_ev_ca rfl rfl g32 ?_
          rw [h33]
          exact z_ev_rt rfl
theorem z_q180_e {d : Nat} {r : Option z_V × z_M} {X : z_X} {I : Nat → Nat → Nat → Int32} {J : Nat → Nat → Nat → Int64} (x1 : Int32) (x2 : Int32)
    (h : (∃ k1 : Nat, x1 = Int32.ofNat k1 ∧ k1 < 10 ∧ (∃ k5 : Nat, x2 = Int32.ofNat k5 ∧ k5 < 10 ∧ r = (none, (true, X, (z_up (z_up I 44 0 k1 ((I 44 0 k1) ||| ((1 : Int32) <<< (x2 &&& 31)))) 44 0 k5 (((z_up I 44 0 k1 ((I 44 0 k1) ||| ((1 : Int32) <<< (x2 &&& 31)))) 44 0 k5) ||| ((1 : Int32) <<< (x1 &&& 31)))), J))))) :
    z_ev d (z_en 180 [z_r 33 0, z_i (x1), z_i (x2)] (true, X, I, J)) r := by
  show z_ev d (180, 0, [some (z_r 33 0), some (z_i (x1)), some (z_i (x2))], [], (true, X, I, J)) r
  refine z_ev_gs 4 (c1 := (180, 6, [some (z_r 33 0), some (z_i (x1)), some (z_i (x2))], [z_i (x1), z_r 44 0, z_i (x1), z_r 44 0], (true, X, I, J))) rfl ?_
  obtain ⟨k1, e2, e3, h4⟩ := h
  refine z_ev_iald (t := 44) (i := 0) (k := k1) (n := 10) rfl rfl e2 e3 (by decide) ?_
  refine z_ev_gs 4 (c1 := (180, 11, [some (z_r 33 0), some (z_i (x1)), some (z_i (x2))], [z_i ((I 44 0 k1) ||| ((1 : Int32) <<< (x2 &&& 31))), z_i (x1), z_r 44 0], (true, X, I, J))) rfl ?_
  refine z_ev_iast (t := 44) (i := 0) (k := k1) (n := 10) rfl rfl e2 (Nat.lt_of_lt_of_le e3 (by decide)) (by decide) ?_
  refine z_ev_gs 4 (c1 := (180, 18, [some (z_r 33 0), some (z_i (x1)), some (z_i (x2))], [z_i (x2), z_r 44 0, z_i (x2), z_r 44 0], (true, X, (z_up I 44 0 k1 ((I 44 0 k1) ||| ((1 : Int32) <<< (x2 &&& 31)))), J))) rfl ?_
  obtain ⟨k5, e6, e7, h8⟩ := h4
  refine z_ev_iald (t := 44) (i := 0) (k := k5) (n := 10) rfl rfl e6 e7 (by decide) ?_
  refine z_ev_gs 4 (c1 := (180, 23, [some (z_r 33 0), some (z_i (x1)), some (z_i (x2))], [z_i (((z_up I 44 0 k1 ((I 44 0 k1) ||| ((1 : Int32) <<< (x2 &&& 31)))) 44 0 k5) ||| ((1 : Int32) <<< (x1 &&& 31))), z_i (x2), z_r 44 0], (true, X, (z_up I 44 0 k1 ((I 44 0 k1) ||| ((1 : Int32) <<< (x2 &&& 31)))), J))) rfl ?_
  refine z_ev_iast (t := 44) (i := 0) (k := k5) (n := 10) rfl rfl e6 (Nat.lt_of_lt_of_le e7 (by decide)) (by decide) ?_
  rw [h8]
  exact z_ev_rt rfl
theorem z_q181_e {d : Nat} {r : Option z_V × z_M} {X : z_X} {I : Nat → Nat → Nat → Int32} {J : Nat → Nat → Nat → Int64} 
    (h : z_ev (d + 4) (181, 4, [some (z_r 33 0), some (z_i 0), some (z_i 0)], [], (true, X, I, J)) r) :
    z_ev (d + 4) (z_en 181 [z_r 33 0] (true, X, I, J)) r := by
  show z_ev (d + 4) (181, 0, [some (z_r 33 0), none, none], [], (true, X, I, J)) r
  refine z_ev_gs 4 (c1 := (181, 4, [some (z_r 33 0), some (z_i 0), some (z_i 0)], [], (true, X, I, J))) rfl ?_
  exact h
theorem z_q181_4 {d : Nat} {r : Option z_V × z_M} {X : z_X} {I : Nat → Nat → Nat → Int32} {J : Nat → Nat → Nat → Int64} (x1 : Int32) (x2 : Int32)
    (h : (((I 33 0 24) ≤ x2 → (((I 33 0 20) = 0 → (∃ (v8 : Int32) (X3 : z_X) (I4 : Nat → Nat → Nat → Int32) (J5 : Nat → Nat → Nat → Int64), z_ev (d + 3) (z_en 178 [z_r 33 0, z_i 0, z_i ((I 33 0 21) - (1 : Int32))] (true, X, (z_up I 33 0 20 (0 : Int32)), J)) (some (z_i (v8)), (true, X3, I4, J5)) ∧ (((I4 33 0 20) = 0 → r = (none, (true, X3, I4, J5))) ∧ (¬ (I4 33 0 20) = 0 → (∃ k10 : Nat, (I4 33 0 24) = Int32.ofNat k10 ∧ k10 < 10 ∧ r = (none, (true, X3, (z_up (z_up I4 45 0 k10 v8) 33 0 24 ((I4 33 0 24) + (1 : Int32))), J5))))))) ∧ (¬ (I 33 0 20) = 0 → ((¬ (I 33 0 15) = (2 : Int32) → (∃ (v22 : Int32) (X17 : z_X) (I18 : Nat → Nat → Nat → Int32) (J19 : Nat → Nat → Nat → Int64), z_ev (d + 3) (z_en 178 [z_r 33 0, z_i 0, z_i ((I 33 0 21) - (1 : Int32))] (true, X, (z_up I 33 0 20 (1 : Int32)), J)) (some (z_i (v22)), (true, X17, I18, J19)) ∧ (((I18 33 0 20) = 0 → r = (none, (true, X17, I18, J19))) ∧ (¬ (I18 33 0 20) = 0 → (∃ k24 : Nat, (I18 33 0 24) = Int32.ofNat k24 ∧ k24 < 10 ∧ r = (none, (true, X17, (z_up (z_up I18 45 0 k24 v22) 33 0 24 ((I18 33 0 24) + (1 : Int32))), J19))))))) ∧ ((I 33 0 15) = (2 : Int32) → ((¬ x1 = 0 → (∃ (v36 : Int32) (X31 : z_X) (I32 : Nat → Nat → Nat → Int32) (J33 : Nat → Nat → Nat → Int64), z_ev (d + 3) (z_en 178 [z_r 33 0, z_i 0, z_i ((I 33 0 21) - (1 : Int32))] (true, X, (z_up I 33 0 20 (0 : Int32)), J)) (some (z_i (v36)), (true, X31, I32, J33)) ∧ (((I32 33 0 20) = 0 → r = (none, (true, X31, I32, J33))) ∧ (¬ (I32 33 0 20) = 0 → (∃ k38 : Nat, (I32 33 0 24) = Int32.ofNat k38 ∧ k38 < 10 ∧ r = (none, (true, X31, (z_up (z_up I32 45 0 k38 v36) 33 0 24 ((I32 33 0 24) + (1 : Int32))), J33))))))) ∧ (x1 = 0 → (∃ (v49 : Int32) (X44 : z_X) (I45 : Nat → Nat → Nat → Int32) (J46 : Nat → Nat → Nat → Int64), z_ev (d + 3) (z_en 178 [z_r 33 0, z_i 0, z_i ((I 33 0 21) - (1 : Int32))] (true, X, (z_up I 33 0 20 (1 : Int32)), J)) (some (z_i (v49)), (true, X44, I45, J46)) ∧ (((I45 33 0 20) = 0 → r = (none, (true, X44, I45, J46))) ∧ (¬ (I45 33 0 20) = 0 → (∃ k51 : Nat, (I45 33 0 24) = Int32.ofNat k51 ∧ k51 < 10 ∧ r = (none, (true, X44, (z_up (z_up I45 45 0 k51 v49) 33 0 24 ((I45 33 0 24) + (1 : Int32))), J46))))))))))))) ∧ (x2 < (I 33 0 24) → ((¬ x1 = 0 → z_ev (d + 4) (181, 4, [some (z_r 33 0), some (z_i 1), some (z_i (x2 + (1 : Int32)))], [], (true, X, I, J)) r) ∧ (x1 = 0 → (∃ k64 : Nat, x2 = Int32.ofNat k64 ∧ k64 < 10 ∧ ((¬ (I 45 0 k64) = (I 33 0 19) → z_ev (d + 4) (181, 4, [some (z_r 33 0), some (z_i 0), some (z_i (x2 + (1 : Int32)))], [], (true, X, I, J)) r) ∧ ((I 45 0 k64) = (I 33 0 19) → z_ev (d + 4) (181, 4, [some (z_r 33 0), some (z_i 1), some (z_i (x2 + (1 : Int32)))], [], (true, X, I, J)) r)))))))) :
    z_ev (d + 4) ((181, 4, [some (z_r 33 0), some (z_i (x1)), some (z_i (x2))], [], (true, X, I, J))) r := by
  refine z_ev_gs 4 (c1 := (181, (if (I 33 0 24) ≤ x2 then 41 else 12), [some (z_r 33 0), some (z_i (x1)), some (z_i (x2))], [], (true, X, I, J))) rfl ?_
  refine z_ev_ifle (fun e1 => ?_) (fun e1 => ?_)
  · have h73 := h.1 e1
    refine z_ev_gs 4 (c1 := (181, (if (I 33 0 20) = 0 then 65 else 49), [some (z_r 33 0), some (z_i (x1)), some (z_i (x2))], [z_r 33 0], (true, X, I, J))) rfl ?_
    refine z_ev_if (fun e2 => ?_) (fun e2 => ?_)
    · have h61 := h73.1 e2
      refine z_ev_gs 8 (c1 := (181, 77, [some (z_r 33 0), some (z_i (x1)), some (z_i (x2))], [z_i ((I 33 0 21) - (1 : Int32)), z_i 0, z_r 33 0], (true, X, (z_up I 33 0 20 (0 : Int32)), J))) rfl ?_
      obtain ⟨v8, X3, I4, J5, g6, h7⟩ := h61
      refine z_ev_ca rfl rfl g6 ?_
      refine z_ev_gs 4 (c1 := (181, (if (I4 33 0 20) = 0 then 108 else 88), [some (z_r 33 0), some (z_i (x1)), some (z_i (v8))], [], (true, X3, I4, J5))) rfl ?_
      refine z_ev_if (fun e9 => ?_) (fun e9 => ?_)
      · have h14 := h7.1 e9
        rw [h14]
        exact z_ev_rt rfl
      · have h15 := h7.2 e9
        refine z_ev_gs 5 (c1 := (181, 97, [some (z_r 33 0), some (z_i (x1)), some (z_i (v8))], [z_i (v8), z_i (I4 33 0 24), z_r 45 0], (true, X3, I4, J5))) rfl ?_
        obtain ⟨k10, e11, e12, h13⟩ := h15
        refine z_ev_iast (t := 45) (i := 0) (k := k10) (n := 10) rfl rfl e11 e12 (by decide) ?_
        refine z_ev_gs 6 (c1 := (181, 108, [some (z_r 33 0), some (z_i (x1)), some (z_i (v8))], [], (true, X3, (z_up (z_up I4 45 0 k10 v8) 33 0 24 ((I4 33 0 24) + (1 : Int32))), J5))) rfl ?_
        rw [h13]
        exact z_ev_rt rfl
    · have h62 := h73.2 e2
      refine z_ev_gs 4 (c1 := (181, (if ¬ (I 33 0 15) = (2 : Int32) then 61 else 57), [some (z_r 33 0), some (z_i (x1)), some (z_i (x2))], [z_r 33 0], (true, X, I, J))) rfl ?_
      refine z_ev_ifn (fun e16 => ?_) (fun e16 => ?_)
      · have h59 := h62.1 e16
        refine z_ev_gs 9 (c1 := (181, 77, [some (z_r 33 0), some (z_i (x1)), some (z_i (x2))], [z_i ((I 33 0 21) - (1 : Int32)), z_i 0, z_r 33 0], (true, X, (z_up I 33 0 20 (1 : Int32)), J))) rfl ?_
        obtain ⟨v22, X17, I18, J19, g20, h21⟩ := h59
        refine z_ev_ca rfl rfl g20 ?_
        refine z_ev_gs 4 (c1 := (181, (if (I18 33 0 20) = 0 then 108 else 88), [some (z_r 33 0), some (z_i (x1)), some (z_i (v22))], [], (true, X17, I18, J19))) rfl ?_
        refine z_ev_if (fun e23 => ?_) (fun e23 => ?_)
        · have h28 := h21.1 e23
          rw [h28]
          exact z_ev_rt rfl
        · have h29 := h21.2 e23
          refine z_ev_gs 5 (c1 := (181, 97, [some (z_r 33 0), some (z_i (x1)), some (z_i (v22))], [z_i (v22), z_i (I18 33 0 24), z_r 45 0], (true, X17, I18, J19))) rfl ?_
          obtain ⟨k24, e25, e26, h27⟩ := h29
          refine z_ev_iast (t := 45) (i := 0) (k := k24) (n := 10) rfl rfl e25 e26 (by decide) ?_
          refine z_ev_gs 6 (c1 := (181, 108, [some (z_r 33 0), some (z_i (x1)), some (z_i (v22))], [], (true, X17, (z_up (z_up I18 45 0 k24 v22) 33 0 24 ((I18 33 0 24) + (1 : Int32))), J19))) rfl ?_
          rw [h27]
          exact z_ev_rt rfl
      · have h60 := h62.2 e16
        refine z_ev_gs 2 (c1 := (181, (if ¬ x1 = 0 then 65 else 61), [some (z_r 33 0), some (z_i (x1)), some (z_i (x2))], [z_r 33 0], (true, X, I, J))) rfl ?_
        refine z_ev_ifn (fun e30 => ?_) (fun e30 => ?_)
        · have h57 := h60.1 e30
          refine z_ev_gs 8 (c1 := (181, 77, [some (z_r 33 0), some (z_i (x1)), some (z_i (x2))], [z_i ((I 33 0 21) - (1 : Int32)), z_i 0, z_r 33 0], (true, X, (z_up I 33 0 20 (0 : Int32)), J))) rfl ?_
          obtain ⟨v36, X31, I32, J33, g34, h35⟩ := h57
          refine z_ev_ca rfl rfl g34 ?_
          refine z_ev_gs 4 (c1 := (181, (if (I32 33 0 20) = 0 then 108 else 88), [some (z_r 33 0), some (z_i (x1)), some (z_i (v36))], [], (true, X31, I32, J33))) rfl ?_
          refine z_ev_if (fun e37 => ?_) (fun e37 => ?_)
          · have h42 := h35.1 e37
            rw [h42]
            exact z_ev_rt rfl
          · have h43 := h35.2 e37
            refine z_ev_gs 5 (c1 := (181, 97, [some (z_r 33 0), some (z_i (x1)), some (z_i (v36))], [z_i (v36), z_i (I32 33 0 24), z_r 45 0], (true, X31, I32, J33))) rfl ?_
            obtain ⟨k38, e39, e40, h41⟩ := h43
            refine z_ev_iast (t := 45) (i := 0) (k := k38) (n := 10) rfl rfl e39 e40 (by decide) ?_
            refine z_ev_gs 6 (c1 := (181, 108, [some (z_r 33 0), some (z_i (x1)), some (z_i (v36))], [], (true, X31, (z_up (z_up I32 45 0 k38 v36) 33 0 24 ((I32 33 0 24) + (1 : Int32))), J33))) rfl ?_
            rw [h41]
            exact z_ev_rt rfl
        · have h58 := h60.2 e30
          refine z_ev_gs 9 (c1 := (181, 77, [some (z_r 33 0), some (z_i (x1)), some (z_i (x2))], [z_i ((I 33 0 21) - (1 : Int32)), z_i 0, z_r 33 0], (true, X, (z_up I 33 0 20 (1 : Int32)), J))) rfl ?_
          obtain ⟨v49, X44, I45, J46, g47, h48⟩ := h58
          refine z_ev_ca rfl rfl g47 ?_
          refine z_ev_gs 4 (c1 := (181, (if (I45 33 0 20) = 0 then 108 else 88), [some (z_r 33 0), some (z_i (x1)), some (z_i (v49))], [], (true, X44, I45, J46))) rfl ?_
          refine z_ev_if (fun e50 => ?_) (fun e50 => ?_)
          · have h55 := h48.1 e50
            rw [h55]
            exact z_ev_rt rfl
          · have h56 := h48.2 e50
            refine z_ev_gs 5 (c1 := (181, 97, [some (z_r 33 0), some (z_i (x1)), some (z_i (v49))], [z_i (v49), z_i (I45 33 0 24), z_r 45 0], (true, X44, I45, J46))) rfl ?_
            obtain ⟨k51, e52, e53, h54⟩ := h56
            refine z_ev_iast (t := 45) (i := 0) (k := k51) (n := 10) rfl rfl e52 e53 (by decide) ?_
            refine z_ev_gs 6 (c1 := (181, 108, [some (z_r 33 0), some (z_i (x1)), some (z_i (v49))], [], (true, X44, (z_up (z_up I45 45 0 k51 v49) 33 0 24 ((I45 33 0 24) + (1 : Int32))), J46))) rfl ?_
            rw [h54]
            exact z_ev_rt rfl
  · have h74 := h.2 e1
    refine z_ev_gs 2 (c1 := (181, (if ¬ x1 = 0 then 29 else 16), [some (z_r 33 0), some (z_i (x1)), some (z_i (x2))], [], (true, X, I, J))) rfl ?_
    refine z_ev_ifn (fun e63 => ?_) (fun e63 => ?_)
    · have h71 := h74.1 e63
      refine z_ev_gs 5 (c1 := (181, 4, [some (z_r 33 0), some (z_i 1), some (z_i (x2 + (1 : Int32)))], [], (true, X, I, J))) rfl ?_
      exact h71
    · have h72 := h74.2 e63
      refine z_ev_gs 3 (c1 := (181, 21, [some (z_r 33 0), some (z_i (x1)), some (z_i (x2))], [z_i (x2), z_r 45 0], (true, X, I, J))) rfl ?_
      obtain ⟨k64, e65, e66, h67⟩ := h72
      refine z_ev_iald (t := 45) (i := 0) (k := k64) (n := 10) rfl rfl e65 e66 (by decide) ?_
      refine z_ev_gs 3 (c1 := (181, (if ¬ (I 45 0 k64) = (I 33 0 19) then 33 else 29), [some (z_r 33 0), some (z_i (x1)), some (z_i (x2))], [], (true, X, I, J))) rfl ?_
      refine z_ev_ifn (fun e68 => ?_) (fun e68 => ?_)
      · have h69 := h67.1 e68
        refine z_ev_gs 4 (c1 := (181, 4, [some (z_r 33 0), some (z_i 0), some (z_i (x2 + (1 : Int32)))], [], (true, X, I, J))) rfl ?_
        exact h69
      · have h70 := h67.2 e68
        refine z_ev_gs 5 (c1 := (181, 4, [some (z_r 33 0), some (z_i 1), some (z_i (x2 + (1 : Int32)))], [], (true, X, I, J))) rfl ?_
        exact h70
theorem z_q182_e {d : Nat} {r : Option z_V × z_M} {X : z_X} {I : Nat → Nat → Nat → Int32} {J : Nat → Nat → Nat → Int64} (x1 : Int32)
    (h : (∃ (b95 : Bool) (X90 : z_X) (I91 : Nat → Nat → Nat → Int32) (J92 : Nat → Nat → Nat → Int64), z_ev (d + 4) (z_en 177 [z_r 33 0, z_j 1065] (true, X, I, J)) (some (z_i (z_c b95)), (true, X90, I91, J92)) ∧ (∃ (b101 : Bool) (X96 : z_X) (I97 : Nat → Nat → Nat → Int32) (J98 : Nat → Nat → Nat → Int64), z_ev (d + 4) (z_en 177 [z_r 33 0, z_j 361240] (true, X90, I91, J92)) (some (z_i (z_c b101)), (true, X96, I97, J98)) ∧ (∃ (X102 : z_X) (I103 : Nat → Nat → Nat → Int32) (J104 : Nat → Nat → Nat → Int64), z_ev (d + 4) (z_en 176 [z_r 33 0] (true, X96, I97, J98)) (none, (true, X102, I103, J104)) ∧ z_ev (d + 5) (182, 25, [some (z_r 33 0), some (z_i (x1)), some (z_i (z_c b95)), some (z_i (z_c b101)), none, none], [], (true, X102, (z_up I103 33 0 24 (0 : Int32)), J104)) r)))) :
    z_ev (d + 5) (z_en 182 [z_r 33 0, z_i (x1)] (true, X, I, J)) r := by
  show z_ev (d + 5) (182, 0, [some (z_r 33 0), some (z_i (x1)), none, none, none, none], [], (true, X, I, J)) r
  refine z_ev_gs 2 (c1 := (182, 4, [some (z_r 33 0), some (z_i (x1)), none, none, none, none], [z_j 1065, z_r 33 0], (true, X, I, J))) rfl ?_
  obtain ⟨b95, X90, I91, J92, g93, h94⟩ := h
  refine z_ev_ca rfl rfl g93 ?_
  refine z_ev_gs 3 (c1 := (182, 12, [some (z_r 33 0), some (z_i (x1)), some (z_i (z_c b95)), none, none, none], [z_j 361240, z_r 33 0], (true, X90, I91, J92))) rfl ?_
  obtain ⟨b101, X96, I97, J98, g99, h100⟩ := h94
  refine z_ev_ca rfl rfl g99 ?_
  refine z_ev_gs 2 (c1 := (182, 17, [some (z_r 33 0), some (z_i (x1)), some (z_i (z_c b95)), some (z_i (z_c b101)), none, none], [z_r 33 0], (true, X96, I97, J98))) rfl ?_
  obtain ⟨X102, I103, J104, g105, h106⟩ := h100
  refine z_ev_ca rfl rfl g105 ?_
  refine z_ev_gs 3 (c1 := (182, 25, [some (z_r 33 0), some (z_i (x1)), some (z_i (z_c b95)), some (z_i (z_c b101)), none, none], [], (true, X102, (z_up I103 33 0 24 (0 : Int32)), J104))) rfl ?_
  exact h106
theorem z_q182_25 {d : Nat} {r : Option z_V × z_M} {X : z_X} {I : Nat → Nat → Nat → Int32} {J : Nat → Nat → Nat → Int64} (x1 : Int32) (b2 : Bool) (b3 : Bool)
    (h : (((I 33 0 20) = 0 → (∃ (X108 : z_X) (I109 : Nat → Nat → Nat → Int32) (J110 : Nat → Nat → Nat → Int64), z_ev (d + 4) (z_en 179 [z_r 33 0] (true, X, I, J)) (none, (true, X108, I109, J110)) ∧ z_ev (d + 5) (182, 62, [some (z_r 33 0), some (z_i (x1)), some (z_i (z_c b2)), some (z_i (z_c b3)), some (z_i 1), none], [], (true, X108, I109, J110)) r)) ∧ (¬ (I 33 0 20) = 0 → (((I 33 0 24) < x1 → (∃ (X114 : z_X) (I115 : Nat → Nat → Nat → Int32) (J116 : Nat → Nat → Nat → Int64), z_ev (d + 4) (z_en 181 [z_r 33 0] (true, X, I, J)) (none, (true, X114, I115, J116)) ∧ z_ev (d + 5) (182, 25, [some (z_r 33 0), some (z_i (x1)), some (z_i (z_c b2)), some (z_i (z_c b3)), none, none], [], (true, X114, I115, J116)) r)) ∧ (x1 ≤ (I 33 0 24) → ((¬ (I 33 0 15) = (2 : Int32) → (∃ (X120 : z_X) (I121 : Nat → Nat → Nat → Int32) (J122 : Nat → Nat → Nat → Int64), z_ev (d + 4) (z_en 179 [z_r 33 0] (true, X, I, J)) (none, (true, X120, I121, J122)) ∧ z_ev (d + 5) (182, 62, [some (z_r 33 0), some (z_i (x1)), some (z_i (z_c b2)), some (z_i (z_c b3)), some (z_i 1), none], [], (true, X120, I121, J122)) r)) ∧ ((I 33 0 15) = (2 : Int32) → (∃ (X125 : z_X) (I126 : Nat → Nat → Nat → Int32) (J127 : Nat → Nat → Nat → Int64), z_ev (d + 4) (z_en 181 [z_r 33 0] (true, X, I, J)) (none, (true, X125, I126, J127)) ∧ z_ev (d + 5) (182, 25, [some (z_r 33 0), some (z_i (x1)), some (z_i (z_c b2)), some (z_i (z_c b3)), none, none], [], (true, X125, I126, J127)) r)))))))) :
    z_ev (d + 5) ((182, 25, [some (z_r 33 0), some (z_i (x1)), some (z_i (z_c b2)), some (z_i (z_c b3)), none, none], [], (true, X, I, J))) r := by
  refine z_ev_gs 3 (c1 := (182, (if (I 33 0 20) = 0 then 55 else 32), [some (z_r 33 0), some (z_i (x1)), some (z_i (z_c b2)), some (z_i (z_c b3)), none, none], [], (true, X, I, J))) rfl ?_
  refine z_ev_if (fun e107 => ?_) (fun e107 => ?_)
  · have h134 := h.1 e107
    refine z_ev_gs 1 (c1 := (182, 56, [some (z_r 33 0), some (z_i (x1)), some (z_i (z_c b2)), some (z_i (z_c b3)), none, none], [z_r 33 0], (true, X, I, J))) rfl ?_
    obtain ⟨X108, I109, J110, g111, h112⟩ := h134
    refine z_ev_ca rfl rfl g111 ?_
    refine z_ev_gs 2 (c1 := (182, 62, [some (z_r 33 0), some (z_i (x1)), some (z_i (z_c b2)), some (z_i (z_c b3)), some (z_i 1), none], [], (true, X108, I109, J110))) rfl ?_
    exact h112
  · have h135 := h.2 e107
    refine z_ev_gs 4 (c1 := (182, (if (I 33 0 24) < x1 then 48 else 40), [some (z_r 33 0), some (z_i (x1)), some (z_i (z_c b2)), some (z_i (z_c b3)), none, none], [], (true, X, I, J))) rfl ?_
    refine z_ev_iflt (fun e113 => ?_) (fun e113 => ?_)
    · have h132 := h135.1 e113
      refine z_ev_gs 1 (c1 := (182, 49, [some (z_r 33 0), some (z_i (x1)), some (z_i (z_c b2)), some (z_i (z_c b3)), none, none], [z_r 33 0], (true, X, I, J))) rfl ?_
      obtain ⟨X114, I115, J116, g117, h118⟩ := h132
      refine z_ev_ca rfl rfl g117 ?_
      refine z_ev_gs 1 (c1 := (182, 25, [some (z_r 33 0), some (z_i (x1)), some (z_i (z_c b2)), some (z_i (z_c b3)), none, none], [], (true, X114, I115, J116))) rfl ?_
      exact h118
    · have h133 := h135.2 e113
      refine z_ev_gs 4 (c1 := (182, (if ¬ (I 33 0 15) = (2 : Int32) then 55 else 48), [some (z_r 33 0), some (z_i (x1)), some (z_i (z_c b2)), some (z_i (z_c b3)), none, none], [], (true, X, I, J))) rfl ?_
      refine z_ev_ifn (fun e119 => ?_) (fun e119 => ?_)
      · have h130 := h133.1 e119
        refine z_ev_gs 1 (c1 := (182, 56, [some (z_r 33 0), some (z_i (x1)), some (z_i (z_c b2)), some (z_i (z_c b3)), none, none], [z_r 33 0], (true, X, I, J))) rfl ?_
        obtain ⟨X120, I121, J122, g123, h124⟩ := h130
        refine z_ev_ca rfl rfl g123 ?_
        refine z_ev_gs 2 (c1 := (182, 62, [some (z_r 33 0), some (z_i (x1)), some (z_i (z_c b2)), some (z_i (z_c b3)), some (z_i 1), none], [], (true, X120, I121, J122))) rfl ?_
        exact h124
      · have h131 := h133.2 e119
        refine z_ev_gs 1 (c1 := (182, 49, [some (z_r 33 0), some (z_i (x1)), some (z_i (z_c b2)), some (z_i (z_c b3)), none, none], [z_r 33 0], (true, X, I, J))) rfl ?_
        obtain ⟨X125, I126, J127, g128, h129⟩ := h131
        refine z_ev_ca rfl rfl g128 ?_
        refine z_ev_gs 1 (c1 := (182, 25, [some (z_r 33 0), some (z_i (x1)), some (z_i (z_c b2)), some (z_i (z_c b3)), none, none], [], (true, X125, I126, J127))) rfl ?_
        exact h129
theorem z_q182_62 {d : Nat} {r : Option z_V × z_M} {X : z_X} {I : Nat → Nat → Nat → Int32} {J : Nat → Nat → Nat → Int64} (x1 : Int32) (b2 : Bool) (b3 : Bool) (x4 : Int32) (o5 : Option z_V)
    (h : (((I 33 0 24) ≤ x4 → ((b3 = false → r = (none, (true, X, I, J))) ∧ (b3 = true → (((I 33 0 20) = 0 → r = (none, (true, X, I, J))) ∧ (¬ (I 33 0 20) = 0 → (∃ k139 : Nat, ((I 33 0 24) - (1 : Int32)) = Int32.ofNat k139 ∧ k139 < 10 ∧ (∃ (X143 : z_X) (I144 : Nat → Nat → Nat → Int32) (J145 : Nat → Nat → Nat → Int64), z_ev (d + 4) (z_en 180 [z_r 33 0, z_i (I 45 0 0), z_i (I 45 0 k139)] (true, X, I, J)) (none, (true, X143, I144, J145)) ∧ r = (none, (true, X143, I144, J145))))))))) ∧ (x4 < (I 33 0 24) → (((I 33 0 20) = 0 → ((b3 = false → r = (none, (true, X, I, J))) ∧ (b3 = true → r = (none, (true, X, I, J))))) ∧ (¬ (I 33 0 20) = 0 → ((b2 = false → z_ev (d + 5) (182, 92, [some (z_r 33 0), some (z_i (x1)), some (z_i (z_c b2)), some (z_i (z_c b3)), some (z_i (x4)), some (z_i (x4 - (1 : Int32)))], [], (true, X, I, J)) r) ∧ (b2 = true → z_ev (d + 5) (182, 92, [some (z_r 33 0), some (z_i (x1)), some (z_i (z_c b2)), some (z_i (z_c b3)), some (z_i (x4)), some (z_i 0)], [], (true, X, I, J)) r))))))) :
    z_ev (d + 5) ((182, 62, [some (z_r 33 0), some (z_i (x1)), some (z_i (z_c b2)), some (z_i (z_c b3)), some (z_i (x4)), o5], [], (true, X, I, J))) r := by
  refine z_ev_gs 4 (c1 := (182, (if (I 33 0 24) ≤ x4 then 129 else 71), [some (z_r 33 0), some (z_i (x1)), some (z_i (z_c b2)), some (z_i (z_c b3)), some (z_i (x4)), o5], [], (true, X, I, J))) rfl ?_
  refine z_ev_ifle (fun e136 => ?_) (fun e136 => ?_)
  · have h161 := h.1 e136
    refine z_ev_gs 2 (c1 := (182, (if z_c b3 = 0 then 161 else 133), [some (z_r 33 0), some (z_i (x1)), some (z_i (z_c b2)), some (z_i (z_c b3)), some (z_i (x4)), o5], [], (true, X, I, J))) rfl ?_
    refine z_ev_ifc (fun e137 => ?_) (fun e137 => ?_)
    · have h150 := h161.1 e137
      rw [h150]
      exact z_ev_rt rfl
    · have h151 := h161.2 e137
      refine z_ev_gs 3 (c1 := (182, (if (I 33 0 20) = 0 then 161 else 140), [some (z_r 33 0), some (z_i (x1)), some (z_i (z_c b2)), some (z_i (z_c b3)), some (z_i (x4)), o5], [], (true, X, I, J))) rfl ?_
      refine z_ev_if (fun e138 => ?_) (fun e138 => ?_)
      · have h148 := h151.1 e138
        rw [h148]
        exact z_ev_rt rfl
      · have h149 := h151.2 e138
        refine z_ev_gs 4 (c1 := (182, 146, [some (z_r 33 0), some (z_i (x1)), some (z_i (z_c b2)), some (z_i (z_c b3)), some (z_i (x4)), o5], [z_i 0, z_r 45 0, z_r 33 0], (true, X, I, J))) rfl ?_
        refine z_ev_gs 1 (c1 := (182, 147, [some (z_r 33 0), some (z_i (x1)), some (z_i (z_c b2)), some (z_i (z_c b3)), some (z_i (x4)), o5], [z_i (I 45 0 0), z_r 33 0], (true, X, I, J))) rfl ?_
        refine z_ev_gs 6 (c1 := (182, 157, [some (z_r 33 0), some (z_i (x1)), some (z_i (z_c b2)), some (z_i (z_c b3)), some (z_i (x4)), o5], [z_i ((I 33 0 24) - (1 : Int32)), z_r 45 0, z_i (I 45 0 0), z_r 33 0], (true, X, I, J))) rfl ?_
        obtain ⟨k139, e140, e141, h142⟩ := h149
        refine z_ev_iald (t := 45) (i := 0) (k := k139) (n := 10) rfl rfl e140 e141 (by decide) ?_
        obtain ⟨X143, I144, J145, g146, h147⟩ := h142
        refine z_ev_ca rfl rfl g146 ?_
        rw [h147]
        exact z_ev_rt rfl
  · have h162 := h.2 e136
    refine z_ev_gs 3 (c1 := (182, (if (I 33 0 20) = 0 then 129 else 78), [some (z_r 33 0), some (z_i (x1)), some (z_i (z_c b2)), some (z_i (z_c b3)), some (z_i (x4)), o5], [], (true, X, I, J))) rfl ?_
    refine z_ev_if (fun e152 => ?_) (fun e152 => ?_)
    · have h159 := h162.1 e152
      refine z_ev_gs 2 (c1 := (182, (if z_c b3 = 0 then 161 else 133), [some (z_r 33 0), some (z_i (x1)), some (z_i (z_c b2)), some (z_i (z_c b3)), some (z_i (x4)), o5], [], (true, X, I, J))) rfl ?_
      refine z_ev_ifc (fun e153 => ?_) (fun e153 => ?_)
      · have h154 := h159.1 e153
        rw [h154]
        exact z_ev_rt rfl
      · have h155 := h159.2 e153
        refine z_ev_gs 3 (c1 := (182, (if (I 33 0 20) = 0 then 161 else 140), [some (z_r 33 0), some (z_i (x1)), some (z_i (z_c b2)), some (z_i (z_c b3)), some (z_i (x4)), o5], [], (true, X, I, J))) rfl ?_
        rw [if_pos e152]
        rw [h155]
        exact z_ev_rt rfl
    · have h160 := h162.2 e152
      refine z_ev_gs 2 (c1 := (182, (if z_c b2 = 0 then 86 else 82), [some (z_r 33 0), some (z_i (x1)), some (z_i (z_c b2)), some (z_i (z_c b3)), some (z_i (x4)), o5], [], (true, X, I, J))) rfl ?_
      refine z_ev_ifc (fun e156 => ?_) (fun e156 => ?_)
      · have h157 := h160.1 e156
        refine z_ev_gs 4 (c1 := (182, 92, [some (z_r 33 0), some (z_i (x1)), some (z_i (z_c b2)), some (z_i (z_c b3)), some (z_i (x4)), some (z_i (x4 - (1 : Int32)))], [], (true, X, I, J))) rfl ?_
        exact h157
      · have h158 := h160.2 e156
        refine z_ev_gs 3 (c1 := (182, 92, [some (z_r 33 0), some (z_i (x1)), some (z_i (z_c b2)), some (z_i (z_c b3)), some (z_i (x4)), some (z_i 0)], [], (true, X, I, J))) rfl ?_
        exact h158
theorem z_q182_92 {d : Nat} {r : Option z_V × z_M} {X : z_X} {I : Nat → Nat → Nat → Int32} {J : Nat → Nat → Nat → Int64} (x1 : Int32) (b2 : Bool) (b3 : Bool) (x4 : Int32) (x5 : Int32)
    (h : ((x4 ≤ x5 → z_ev (d + 5) (182, 62, [some (z_r 33 0), some (z_i (x1)), some (z_i (z_c b2)), some (z_i (z_c b3)), some (z_i (x4 + (1 : Int32))), some (z_i (x5))], [], (true, X, I, J)) r) ∧ (x5 < x4 → (∃ k164 : Nat, x5 = Int32.ofNat k164 ∧ k164 < 10 ∧ (∃ k168 : Nat, x4 = Int32.ofNat k168 ∧ k168 < 10 ∧ (∃ (X172 : z_X) (I173 : Nat → Nat → Nat → Int32) (J174 : Nat → Nat → Nat → Int64), z_ev (d + 4) (z_en 180 [z_r 33 0, z_i (I 45 0 k164), z_i (I 45 0 k168)] (true, X, I, J)) (none, (true, X172, I173, J174)) ∧ z_ev (d + 5) (182, 92, [some (z_r 33 0), some (z_i (x1)), some (z_i (z_c b2)), some (z_i (z_c b3)), some (z_i (x4)), some (z_i (x5 + (1 : Int32)))], [], (true, X172, I173, J174)) r)))))) :
    z_ev (d + 5) ((182, 92, [some (z_r 33 0), some (z_i (x1)), some (z_i (z_c b2)), some (z_i (z_c b3)), some (z_i (x4)), some (z_i (x5))], [], (true, X, I, J))) r := by
  refine z_ev_gs 3 (c1 := (182, (if x4 ≤ x5 then 123 else 99), [some (z_r 33 0), some (z_i (x1)), some (z_i (z_c b2)), some (z_i (z_c b3)), some (z_i (x4)), some (z_i (x5))], [], (true, X, I, J))) rfl ?_
  refine z_ev_ifle (fun e163 => ?_) (fun e163 => ?_)
  · have h177 := h.1 e163
    refine z_ev_gs 2 (c1 := (182, 62, [some (z_r 33 0), some (z_i (x1)), some (z_i (z_c b2)), some (z_i (z_c b3)), some (z_i (x4 + (1 : Int32))), some (z_i (x5))], [], (true, X, I, J))) rfl ?_
    exact h177
  · have h178 := h.2 e163
    refine z_ev_gs 4 (c1 := (182, 106, [some (z_r 33 0), some (z_i (x1)), some (z_i (z_c b2)), some (z_i (z_c b3)), some (z_i (x4)), some (z_i (x5))], [z_i (x5), z_r 45 0, z_r 33 0], (true, X, I, J))) rfl ?_
    obtain ⟨k164, e165, e166, h167⟩ := h178
    refine z_ev_iald (t := 45) (i := 0) (k := k164) (n := 10) rfl rfl e165 e166 (by decide) ?_
    refine z_ev_gs 3 (c1 := (182, 113, [some (z_r 33 0), some (z_i (x1)), some (z_i (z_c b2)), some (z_i (z_c b3)), some (z_i (x4)), some (z_i (x5))], [z_i (x4), z_r 45 0, z_i (I 45 0 k164), z_r 33 0], (true, X, I, J))) rfl ?_
    obtain ⟨k168, e169, e170, h171⟩ := h167
    refine z_ev_iald (t := 45) (i := 0) (k := k168) (n := 10) rfl rfl e169 e170 (by decide) ?_
    obtain ⟨X172, I173, J174, g175, h176⟩ := h171
    refine z_ev_ca rfl rfl g175 ?_
    refine z_ev_gs 2 (c1 := (182, 92, [some (z_r 33 0), some (z_i (x1)), some (z_i (z_c b2)), some (z_i (z_c b3)), some (z_i (x4)), some (z_i (x5 + (1 : Int32)))], [], (true, X172, I173, J174))) rfl ?_
    exact h176
theorem z_q183_e {d : Nat} {r : Option z_V × z_M} {X : z_X} {I : Nat → Nat → Nat → Int32} {J : Nat → Nat → Nat → Int64} (x1 : Int32)
    (h : (((z_bw x1 0 3) = true → (∃ (X2 : z_X) (I3 : Nat → Nat → Nat → Int32) (J4 : Nat → Nat → Nat → Int64), z_ev (d + 5) (z_en 176 [z_r 33 0] (true, X, (z_up I 33 0 17 (0 : Int32)), J)) (none, (true, X2, I3, J4)) ∧ (∃ (b12 : Bool) (X7 : z_X) (I8 : Nat → Nat → Nat → Int32) (J9 : Nat → Nat → Nat → Int64), z_ev (d + 5) (z_en 177 [z_r 33 0, z_j 8812711] (true, X2, I3, J4)) (some (z_i (z_c b12)), (true, X7, I8, J9)) ∧ ((((z_c b12)) = 0 → (∃ (v19 : Int32) (X14 : z_X) (I15 : Nat → Nat → Nat → Int32) (J16 : Nat → Nat → Nat → Int64), z_ev (d + 5) (z_en 178 [z_r 33 0, z_i 1, z_i 10] (true, X7, (z_up I8 33 0 20 (z_c b12)), J9)) (some (z_i (v19)), (true, X14, I15, J16)) ∧ (∃ (X20 : z_X) (I21 : Nat → Nat → Nat → Int32) (J22 : Nat → Nat → Nat → Int64), z_ev (d + 5) (z_en 179 [z_r 33 0] (true, X14, (z_up I15 33 0 21 v19), J16)) (none, (true, X20, I21, J22)) ∧ z_ev (d + 6) (183, 57, [some (z_r 33 0), some (z_i (x1)), some (z_i 0)], [], (true, X20, I21, J22)) r))) ∧ (¬ ((z_c b12)) = 0 → (∃ (X25 : z_X) (I26 : Nat → Nat → Nat → Int32) (J27 : Nat → Nat → Nat → Int64), z_ev (d + 5) (z_en 176 [z_r 33 0] (true, X7, (z_up I8 33 0 20 (z_c b12)), J9)) (none, (true, X25, I26, J27)) ∧ (∃ (v35 : Int32) (X30 : z_X) (I31 : Nat → Nat → Nat → Int32) (J32 : Nat → Nat → Nat → Int64), z_ev (d + 5) (z_en 178 [z_r 33 0, z_i 1, z_i 10] (true, X25, I26, J27)) (some (z_i (v35)), (true, X30, I31, J32)) ∧ (∃ (X36 : z_X) (I37 : Nat → Nat → Nat → Int32) (J38 : Nat → Nat → Nat → Int64), z_ev (d + 5) (z_en 179 [z_r 33 0] (true, X30, (z_up I31 33 0 21 v35), J32)) (none, (true, X36, I37, J38)) ∧ z_ev (d + 6) (183, 57, [some (z_r 33 0), some (z_i (x1)), some (z_i 0)], [], (true, X36, I37, J38)) r)))))))) ∧ ((z_bw x1 0 3) = false → r = (some (z_i (-1)), (true, X, I, J))))) :
    z_ev (d + 6) (z_en 183 [z_r 33 0, z_i (x1)] (true, X, I, J)) r := by
  show z_ev (d + 6) (183, 0, [some (z_r 33 0), some (z_i (x1)), none], [], (true, X, I, J)) r
  refine z_ev_gs 1 (c1 := (183, 1, [some (z_r 33 0), some (z_i (x1)), none], [z_i (x1)], (true, X, I, J))) rfl ?_
  refine z_ev_ca rfl rfl (z_p162 _) ?_
  refine z_ev_gs 1 (c1 := (183, (if ¬ z_c (z_bw x1 0 3) = 0 then 9 else 7), [some (z_r 33 0), some (z_i (x1)), none], [], (true, X, I, J))) rfl ?_
  refine z_ev_ifcn (fun e1 => ?_) (fun e1 => ?_)
  · have h43 := h.1 e1
    refine z_ev_gs 4 (c1 := (183, 15, [some (z_r 33 0), some (z_i (x1)), none], [z_r 33 0], (true, X, (z_up I 33 0 17 (0 : Int32)), J))) rfl ?_
    obtain ⟨X2, I3, J4, g5, h6⟩ := h43
    refine z_ev_ca rfl rfl g5 ?_
    refine z_ev_gs 3 (c1 := (183, 23, [some (z_r 33 0), some (z_i (x1)), none], [z_j 8812711, z_r 33 0, z_r 33 0], (true, X2, I3, J4))) rfl ?_
    obtain ⟨b12, X7, I8, J9, g10, h11⟩ := h6
    refine z_ev_ca rfl rfl g10 ?_
    refine z_ev_ok (c1 := (183, 29, [some (z_r 33 0), some (z_i (x1)), none], [], (true, X7, (z_up I8 33 0 20 (z_c b12)), J9))) rfl (by cases b12 <;> rfl) ?_
    refine z_ev_gs 3 (c1 := (183, (if ((z_c b12)) = 0 then 40 else 36), [some (z_r 33 0), some (z_i (x1)), none], [], (true, X7, (z_up I8 33 0 20 (z_c b12)), J9))) rfl ?_
    refine z_ev_if (fun e13 => ?_) (fun e13 => ?_)
    · have h41 := h11.1 e13
      refine z_ev_gs 4 (c1 := (183, 45, [some (z_r 33 0), some (z_i (x1)), none], [z_i 10, z_i 1, z_r 33 0, z_r 33 0], (true, X7, (z_up I8 33 0 20 (z_c b12)), J9))) rfl ?_
      obtain ⟨v19, X14, I15, J16, g17, h18⟩ := h41
      refine z_ev_ca rfl rfl g17 ?_
      refine z_ev_gs 2 (c1 := (183, 52, [some (z_r 33 0), some (z_i (x1)), none], [z_r 33 0], (true, X14, (z_up I15 33 0 21 v19), J16))) rfl ?_
      obtain ⟨X20, I21, J22, g23, h24⟩ := h18
      refine z_ev_ca rfl rfl g23 ?_
      refine z_ev_gs 2 (c1 := (183, 57, [some (z_r 33 0), some (z_i (x1)), some (z_i 0)], [], (true, X20, I21, J22))) rfl ?_
      exact h24
    · have h42 := h11.2 e13
      refine z_ev_gs 1 (c1 := (183, 37, [some (z_r 33 0), some (z_i (x1)), none], [z_r 33 0], (true, X7, (z_up I8 33 0 20 (z_c b12)), J9))) rfl ?_
      obtain ⟨X25, I26, J27, g28, h29⟩ := h42
      refine z_ev_ca rfl rfl g28 ?_
      refine z_ev_gs 4 (c1 := (183, 45, [some (z_r 33 0), some (z_i (x1)), none], [z_i 10, z_i 1, z_r 33 0, z_r 33 0], (true, X25, I26, J27))) rfl ?_
      obtain ⟨v35, X30, I31, J32, g33, h34⟩ := h29
      refine z_ev_ca rfl rfl g33 ?_
      refine z_ev_gs 2 (c1 := (183, 52, [some (z_r 33 0), some (z_i (x1)), none], [z_r 33 0], (true, X30, (z_up I31 33 0 21 v35), J32))) rfl ?_
      obtain ⟨X36, I37, J38, g39, h40⟩ := h34
      refine z_ev_ca rfl rfl g39 ?_
      refine z_ev_gs 2 (c1 := (183, 57, [some (z_r 33 0), some (z_i (x1)), some (z_i 0)], [], (true, X36, I37, J38))) rfl ?_
      exact h40
  · have h44 := h.2 e1
    refine z_ev_gs 1 (c1 := (183, 8, [some (z_r 33 0), some (z_i (x1)), none], [z_i (-1)], (true, X, I, J))) rfl ?_
    rw [h44]
    exact z_ev_rt rfl
theorem z_q183_57 {d : Nat} {r : Option z_V × z_M} {X : z_X} {I : Nat → Nat → Nat → Int32} {J : Nat → Nat → Nat → Int64} (x1 : Int32) (x2 : Int32)
    (h : (((10 : Int32) ≤ x2 → z_ev (d + 6) (183, 76, [some (z_r 33 0), some (z_i (x1)), some (z_i (x2))], [], (true, X, I, J)) r) ∧ (x2 < (10 : Int32) → (∃ k46 : Nat, x2 = Int32.ofNat k46 ∧ k46 < 10 ∧ z_ev (d + 6) (183, 57, [some (z_r 33 0), some (z_i (x1)), some (z_i (x2 + (1 : Int32)))], [], (true, X, (z_up I 44 0 k46 (0 : Int32)), J)) r)))) :
    z_ev (d + 6) ((183, 57, [some (z_r 33 0), some (z_i (x1)), some (z_i (x2))], [], (true, X, I, J))) r := by
  refine z_ev_gs 3 (c1 := (183, (if (10 : Int32) ≤ x2 then 76 else 63), [some (z_r 33 0), some (z_i (x1)), some (z_i (x2))], [], (true, X, I, J))) rfl ?_
  refine z_ev_ifle (fun e45 => ?_) (fun e45 => ?_)
  · have h50 := h.1 e45
    exact h50
  · have h51 := h.2 e45
    refine z_ev_gs 4 (c1 := (183, 69, [some (z_r 33 0), some (z_i (x1)), some (z_i (x2))], [z_i 0, z_i (x2), z_r 44 0], (true, X, I, J))) rfl ?_
    obtain ⟨k46, e47, e48, h49⟩ := h51
    refine z_ev_iast (t := 44) (i := 0) (k := k46) (n := 10) rfl rfl e47 e48 (by decide) ?_
    refine z_ev_gs 2 (c1 := (183, 57, [some (z_r 33 0), some (z_i (x1)), some (z_i (x2 + (1 : Int32)))], [], (true, X, (z_up I 44 0 k46 (0 : Int32)), J))) rfl ?_
    exact h49
theorem z_q183_76 {d : Nat} {r : Option z_V × z_M} {X : z_X} {I : Nat → Nat → Nat → Int32} {J : Nat → Nat → Nat → Int64} (x1 : Int32) (x2 : Int32)
    (h : (((I 33 0 20) = 0 → r = (some (z_i ((-100 : Int32) - (I 33 0 16))), (true, X, (z_up I 33 0 14 (0 : Int32)), J))) ∧ (¬ (I 33 0 20) = 0 → (((I 33 0 15) = 0 → (∃ k54 : Nat, x1 = Int32.ofNat k54 ∧ k54 < 4 ∧ z_ev (d + 6) (183, 184, [some (z_r 33 0), some (z_i (x1)), some (z_i 0)], [], (true, X, (z_up (z_up I 33 0 14 (0 : Int32)) 34 0 k54 (I 33 0 21)), J)) r)) ∧ (¬ (I 33 0 15) = 0 → (∃ (b63 : Bool) (X58 : z_X) (I59 : Nat → Nat → Nat → Int32) (J60 : Nat → Nat → Nat → Int64), z_ev (d + 5) (z_en 177 [z_r 33 0, z_j 365260] (true, X, I, J)) (some (z_i (z_c b63)), (true, X58, I59, J60)) ∧ ((b63 = false → (∃ (b70 : Bool) (X65 : z_X) (I66 : Nat → Nat → Nat → Int32) (J67 : Nat → Nat → Nat → Int64), z_ev (d + 5) (z_en 177 [z_r 33 0, z_j 1065] (true, X58, I59, J60)) (some (z_i (z_c b70)), (true, X65, I66, J67)) ∧ ((b70 = false → (∃ (b77 : Bool) (X72 : z_X) (I73 : Nat → Nat → Nat → Int32) (J74 : Nat → Nat → Nat → Int64), z_ev (d + 5) (z_en 177 [z_r 33 0, z_j 361240] (true, X65, I66, J67)) (some (z_i (z_c b77)), (true, X72, I73, J74)) ∧ ((b77 = false → z_ev (d + 6) (183, 76, [some (z_r 33 0), some (z_i (x1)), some (z_i (x2))], [], (true, X72, (z_up I73 33 0 20 (0 : Int32)), J74)) r) ∧ (b77 = true → (∃ (X79 : z_X) (I80 : Nat → Nat → Nat → Int32) (J81 : Nat → Nat → Nat → Int64), z_ev (d + 5) (z_en 182 [z_r 33 0, z_i 3] (true, X72, I73, J74)) (none, (true, X79, I80, J81)) ∧ z_ev (d + 6) (183, 76, [some (z_r 33 0), some (z_i (x1)), some (z_i (x2))], [], (true, X79, I80, J81)) r))))) ∧ (b70 = true → (∃ (X86 : z_X) (I87 : Nat → Nat → Nat → Int32) (J88 : Nat → Nat → Nat → Int64), z_ev (d + 5) (z_en 182 [z_r 33 0, z_i 1] (true, X65, I66, J67)) (none, (true, X86, I87, J88)) ∧ z_ev (d + 6) (183, 76, [some (z_r 33 0), some (z_i (x1)), some (z_i (x2))], [], (true, X86, I87, J88)) r))))) ∧ (b63 = true → (∃ (X93 : z_X) (I94 : Nat → Nat → Nat → Int32) (J95 : Nat → Nat → Nat → Int64), z_ev (d + 5) (z_en 182 [z_r 33 0, z_i 2] (true, X58, I59, J60)) (none, (true, X93, I94, J95)) ∧ z_ev (d + 6) (183, 76, [some (z_r 33 0), some (z_i (x1)), some (z_i (x2))], [], (true, X93, I94, J95)) r))))))))) :
    z_ev (d + 6) ((183, 76, [some (z_r 33 0), some (z_i (x1)), some (z_i (x2))], [], (true, X, I, J))) r := by
  refine z_ev_gs 3 (c1 := (183, (if (I 33 0 20) = 0 then 152 else 83), [some (z_r 33 0), some (z_i (x1)), some (z_i (x2))], [], (true, X, I, J))) rfl ?_
  refine z_ev_if (fun e52 => ?_) (fun e52 => ?_)
  · have h102 := h.1 e52
    refine z_ev_gs 6 (c1 := (183, (if ¬ (I 33 0 20) = 0 then 172 else 164), [some (z_r 33 0), some (z_i (x1)), some (z_i (x2))], [], (true, X, (z_up I 33 0 14 (0 : Int32)), J))) rfl ?_
    rw [if_neg (fun q9 => q9 e52)]
    refine z_ev_gs 4 (c1 := (183, 171, [some (z_r 33 0), some (z_i (x1)), some (z_i (x2))], [z_i ((-100 : Int32) - (I 33 0 16))], (true, X, (z_up I 33 0 14 (0 : Int32)), J))) rfl ?_
    rw [h102]
    exact z_ev_rt rfl
  · have h103 := h.2 e52
    refine z_ev_gs 3 (c1 := (183, (if (I 33 0 15) = 0 then 152 else 90), [some (z_r 33 0), some (z_i (x1)), some (z_i (x2))], [], (true, X, I, J))) rfl ?_
    refine z_ev_if (fun e53 => ?_) (fun e53 => ?_)
    · have h100 := h103.1 e53
      refine z_ev_gs 6 (c1 := (183, (if ¬ (I 33 0 20) = 0 then 172 else 164), [some (z_r 33 0), some (z_i (x1)), some (z_i (x2))], [], (true, X, (z_up I 33 0 14 (0 : Int32)), J))) rfl ?_
      rw [if_pos e52]
      refine z_ev_gs 5 (c1 := (183, 181, [some (z_r 33 0), some (z_i (x1)), some (z_i (x2))], [z_i (I 33 0 21), z_i (x1), z_r 34 0], (true, X, (z_up I 33 0 14 (0 : Int32)), J))) rfl ?_
      obtain ⟨k54, e55, e56, h57⟩ := h100
      refine z_ev_iast (t := 34) (i := 0) (k := k54) (n := 4) rfl rfl e55 e56 (by decide) ?_
      refine z_ev_gs 2 (c1 := (183, 184, [some (z_r 33 0), some (z_i (x1)), some (z_i 0)], [], (true, X, (z_up (z_up I 33 0 14 (0 : Int32)) 34 0 k54 (I 33 0 21)), J))) rfl ?_
      exact h57
    · have h101 := h103.2 e53
      refine z_ev_gs 2 (c1 := (183, 94, [some (z_r 33 0), some (z_i (x1)), some (z_i (x2))], [z_j 365260, z_r 33 0], (true, X, I, J))) rfl ?_
      obtain ⟨b63, X58, I59, J60, g61, h62⟩ := h101
      refine z_ev_ca rfl rfl g61 ?_
      refine z_ev_gs 1 (c1 := (183, (if z_c b63 = 0 then 108 else 100), [some (z_r 33 0), some (z_i (x1)), some (z_i (x2))], [], (true, X58, I59, J60))) rfl ?_
      refine z_ev_ifc (fun e64 => ?_) (fun e64 => ?_)
      · have h98 := h62.1 e64
        refine z_ev_gs 2 (c1 := (183, 112, [some (z_r 33 0), some (z_i (x1)), some (z_i (x2))], [z_j 1065, z_r 33 0], (true, X58, I59, J60))) rfl ?_
        obtain ⟨b70, X65, I66, J67, g68, h69⟩ := h98
        refine z_ev_ca rfl rfl g68 ?_
        refine z_ev_gs 1 (c1 := (183, (if z_c b70 = 0 then 126 else 118), [some (z_r 33 0), some (z_i (x1)), some (z_i (x2))], [], (true, X65, I66, J67))) rfl ?_
        refine z_ev_ifc (fun e71 => ?_) (fun e71 => ?_)
        · have h91 := h69.1 e71
          refine z_ev_gs 2 (c1 := (183, 130, [some (z_r 33 0), some (z_i (x1)), some (z_i (x2))], [z_j 361240, z_r 33 0], (true, X65, I66, J67))) rfl ?_
          obtain ⟨b77, X72, I73, J74, g75, h76⟩ := h91
          refine z_ev_ca rfl rfl g75 ?_
          refine z_ev_gs 1 (c1 := (183, (if z_c b77 = 0 then 144 else 136), [some (z_r 33 0), some (z_i (x1)), some (z_i (x2))], [], (true, X72, I73, J74))) rfl ?_
          refine z_ev_ifc (fun e78 => ?_) (fun e78 => ?_)
          · have h84 := h76.1 e78
            refine z_ev_gs 4 (c1 := (183, 76, [some (z_r 33 0), some (z_i (x1)), some (z_i (x2))], [], (true, X72, (z_up I73 33 0 20 (0 : Int32)), J74))) rfl ?_
            exact h84
          · have h85 := h76.2 e78
            refine z_ev_gs 2 (c1 := (183, 138, [some (z_r 33 0), some (z_i (x1)), some (z_i (x2))], [z_i 3, z_r 33 0], (true, X72, I73, J74))) rfl ?_
            obtain ⟨X79, I80, J81, g82, h83⟩ := h85
            refine z_ev_ca rfl rfl g82 ?_
            refine z_ev_gs 1 (c1 := (183, 76, [some (z_r 33 0), some (z_i (x1)), some (z_i (x2))], [], (true, X79, I80, J81))) rfl ?_
            exact h83
        · have h92 := h69.2 e71
          refine z_ev_gs 2 (c1 := (183, 120, [some (z_r 33 0), some (z_i (x1)), some (z_i (x2))], [z_i 1, z_r 33 0], (true, X65, I66, J67))) rfl ?_
          obtain ⟨X86, I87, J88, g89, h90⟩ := h92
          refine z_ev_ca rfl rfl g89 ?_
          refine z_ev_gs 1 (c1 := (183, 76, [some (z_r 33 0), some (z_i (x1)), some (z_i (x2))], [], (true, X86, I87, J88))) rfl ?_
          exact h90
      · have h99 := h62.2 e64
        refine z_ev_gs 2 (c1 := (183, 102, [some (z_r 33 0), some (z_i (x1)), some (z_i (x2))], [z_i 2, z_r 33 0], (true, X58, I59, J60))) rfl ?_
        obtain ⟨X93, I94, J95, g96, h97⟩ := h99
        refine z_ev_ca rfl rfl g96 ?_
        refine z_ev_gs 1 (c1 := (183, 76, [some (z_r 33 0), some (z_i (x1)), some (z_i (x2))], [], (true, X93, I94, J95))) rfl ?_
        exact h97
theorem z_q183_184 {d : Nat} {r : Option z_V × z_M} {X : z_X} {I : Nat → Nat → Nat → Int32} {J : Nat → Nat → Nat → Int64} (x1 : Int32) (x2 : Int32)
    (h : (((10 : Int32) ≤ x2 → (∃ (v110 : Int32) (X105 : z_X) (I106 : Nat → Nat → Nat → Int32) (J107 : Nat → Nat → Nat → Int64), z_ev (d + 5) (z_en 171 [z_r 33 0, z_i (x1)] (true, X, I, J)) (some (z_i (v110)), (true, X105, I106, J107)) ∧ r = (some (z_i (v110)), (true, X105, I106, J107)))) ∧ (x2 < (10 : Int32) → (∃ k111 : Nat, x2 = Int32.ofNat k111 ∧ k111 < 10 ∧ (∃ k115 : Nat, (((10 : Int32) * x1) + x2) = Int32.ofNat k115 ∧ k115 < 40 ∧ z_ev (d + 6) (183, 184, [some (z_r 33 0), some (z_i (x1)), some (z_i (x2 + (1 : Int32)))], [], (true, X, (z_up I 35 0 k115 (I 44 0 k111)), J)) r))))) :
    z_ev (d + 6) ((183, 184, [some (z_r 33 0), some (z_i (x1)), some (z_i (x2))], [], (true, X, I, J))) r := by
  refine z_ev_gs 3 (c1 := (183, (if (10 : Int32) ≤ x2 then 213 else 190), [some (z_r 33 0), some (z_i (x1)), some (z_i (x2))], [], (true, X, I, J))) rfl ?_
  refine z_ev_ifle (fun e104 => ?_) (fun e104 => ?_)
  · have h119 := h.1 e104
    refine z_ev_gs 2 (c1 := (183, 215, [some (z_r 33 0), some (z_i (x1)), some (z_i (x2))], [z_i (x1), z_r 33 0], (true, X, I, J))) rfl ?_
    obtain ⟨v110, X105, I106, J107, g108, h109⟩ := h119
    refine z_ev_ca rfl rfl g108 ?_
    rw [h109]
    exact z_ev_rt rfl
  · have h120 := h.2 e104
    refine z_ev_gs 10 (c1 := (183, 205, [some (z_r 33 0), some (z_i (x1)), some (z_i (x2))], [z_i (x2), z_r 44 0, z_i (((10 : Int32) * x1) + x2), z_r 35 0], (true, X, I, J))) rfl ?_
    obtain ⟨k111, e112, e113, h114⟩ := h120
    refine z_ev_iald (t := 44) (i := 0) (k := k111) (n := 10) rfl rfl e112 e113 (by decide) ?_
    obtain ⟨k115, e116, e117, h118⟩ := h114
    refine z_ev_iast (t := 35) (i := 0) (k := k115) (n := 40) rfl rfl e116 e117 (by decide) ?_
    refine z_ev_gs 2 (c1 := (183, 184, [some (z_r 33 0), some (z_i (x1)), some (z_i (x2 + (1 : Int32)))], [], (true, X, (z_up I 35 0 k115 (I 44 0 k111)), J))) rfl ?_
    exact h118
