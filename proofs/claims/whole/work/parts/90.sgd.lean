/-! segments: what shares give, bounds; printed by wip/whole/emit_seg.py -/
theorem z_q149_e {d : Nat} {r : Option z_V × z_M} {X : z_X} {I : Nat → Nat → Nat → Int32} {J : Nat → Nat → Nat → Int64} (x0 : Int32) (x1 : Int32) (x2 : Int32)
    (h : ((¬ x0 = (3 : Int32) → ((¬ x1 = (1 : Int32) → r = (some (z_i ((3 : Int32) - x2)), (true, X, I, J))) ∧ (x1 = (1 : Int32) → r = (some (z_i (x2)), (true, X, I, J))))) ∧ (x0 = (3 : Int32) → (∃ k5 : Nat, x2 = Int32.ofNat k5 ∧ k5 < 11 ∧ ((¬ ((z_stc.getD 0 []).getD k5 0) = x1 → r = (some (z_i 0), (true, X, I, J))) ∧ (((z_stc.getD 0 []).getD k5 0) = x1 → r = (some (z_i 3), (true, X, I, J)))))))) :
    z_ev d (z_en 149 [z_i (x0), z_i (x1), z_i (x2)] (true, X, I, J)) r := by
  show z_ev d (149, 0, [some (z_i (x0)), some (z_i (x1)), some (z_i (x2))], [], (true, X, I, J)) r
  refine z_ev_gs 3 (c1 := (149, (if ¬ x0 = (3 : Int32) then 20 else 5), [some (z_i (x0)), some (z_i (x1)), some (z_i (x2))], [], (true, X, I, J))) rfl ?_
  refine z_ev_ifn (fun e1 => ?_) (fun e1 => ?_)
  · have h12 := h.1 e1
    refine z_ev_gs 3 (c1 := (149, (if ¬ x1 = (1 : Int32) then 29 else 25), [some (z_i (x0)), some (z_i (x1)), some (z_i (x2))], [], (true, X, I, J))) rfl ?_
    refine z_ev_ifn (fun e2 => ?_) (fun e2 => ?_)
    · have h3 := h12.1 e2
      refine z_ev_gs 3 (c1 := (149, 32, [some (z_i (x0)), some (z_i (x1)), some (z_i (x2))], [z_i ((3 : Int32) - x2)], (true, X, I, J))) rfl ?_
      rw [h3]
      exact z_ev_rt rfl
    · have h4 := h12.2 e2
      refine z_ev_gs 2 (c1 := (149, 32, [some (z_i (x0)), some (z_i (x1)), some (z_i (x2))], [z_i (x2)], (true, X, I, J))) rfl ?_
      rw [h4]
      exact z_ev_rt rfl
  · have h13 := h.2 e1
    refine z_ev_gs 2 (c1 := (149, 9, [some (z_i (x0)), some (z_i (x1)), some (z_i (x2))], [z_i (x2), z_r 66 0], (true, X, I, J))) rfl ?_
    obtain ⟨k5, e6, e7, h8⟩ := h13
    refine z_ev_sld (k := k5) (n := 11) rfl e6 e7 (by decide) ?_
    refine z_ev_gs 2 (c1 := (149, (if ¬ ((z_stc.getD 0 []).getD k5 0) = x1 then 18 else 14), [some (z_i (x0)), some (z_i (x1)), some (z_i (x2))], [], (true, X, I, J))) rfl ?_
    refine z_ev_ifn (fun e9 => ?_) (fun e9 => ?_)
    · have h10 := h8.1 e9
      refine z_ev_gs 1 (c1 := (149, 19, [some (z_i (x0)), some (z_i (x1)), some (z_i (x2))], [z_i 0], (true, X, I, J))) rfl ?_
      rw [h10]
      exact z_ev_rt rfl
    · have h11 := h8.2 e9
      refine z_ev_gs 2 (c1 := (149, 19, [some (z_i (x0)), some (z_i (x1)), some (z_i (x2))], [z_i 3], (true, X, I, J))) rfl ?_
      rw [h11]
      exact z_ev_rt rfl
theorem z_q150_e {d : Nat} {r : Option z_V × z_M} {X : z_X} {I : Nat → Nat → Nat → Int32} {J : Nat → Nat → Nat → Int64} (x0 : Int32) (x1 : Int32) (x2 : Int32)
    (h : (((x0 &&& (1 : Int32)) = 0 → (((x0 &&& (2 : Int32)) = 0 → (((x0 &&& (4 : Int32)) = 0 → r = (some (z_i (((x2 * x2) + (x2 * x2)) + (x2 * x2))), (true, X, I, J))) ∧ (¬ (x0 &&& (4 : Int32)) = 0 → r = (some (z_i (((x2 * x2) + (x2 * x1)) + (x2 * x1))), (true, X, I, J))))) ∧ (¬ (x0 &&& (2 : Int32)) = 0 → (((x0 &&& (4 : Int32)) = 0 → r = (some (z_i (((x2 * x1) + (x2 * x2)) + (x1 * x2))), (true, X, I, J))) ∧ (¬ (x0 &&& (4 : Int32)) = 0 → r = (some (z_i (((x2 * x1) + (x2 * x1)) + (x1 * x1))), (true, X, I, J))))))) ∧ (¬ (x0 &&& (1 : Int32)) = 0 → (((x0 &&& (2 : Int32)) = 0 → (((x0 &&& (4 : Int32)) = 0 → r = (some (z_i (((x1 * x2) + (x1 * x2)) + (x2 * x2))), (true, X, I, J))) ∧ (¬ (x0 &&& (4 : Int32)) = 0 → r = (some (z_i (((x1 * x2) + (x1 * x1)) + (x2 * x1))), (true, X, I, J))))) ∧ (¬ (x0 &&& (2 : Int32)) = 0 → (((x0 &&& (4 : Int32)) = 0 → r = (some (z_i (((x1 * x1) + (x1 * x2)) + (x1 * x2))), (true, X, I, J))) ∧ (¬ (x0 &&& (4 : Int32)) = 0 → r = (some (z_i (((x1 * x1) + (x1 * x1)) + (x1 * x1))), (true, X, I, J))))))))) :
    z_ev d (z_en 150 [z_i (x0), z_i (x1), z_i (x2)] (true, X, I, J)) r := by
  show z_ev d (150, 0, [some (z_i (x0)), some (z_i (x1)), some (z_i (x2)), none, none, none], [], (true, X, I, J)) r
  refine z_ev_gs 4 (c1 := (150, (if (x0 &&& (1 : Int32)) = 0 then 10 else 6), [some (z_i (x0)), some (z_i (x1)), some (z_i (x2)), none, none, none], [], (true, X, I, J))) rfl ?_
  refine z_ev_if (fun e1 => ?_) (fun e1 => ?_)
  · have h20 := h.1 e1
    refine z_ev_gs 6 (c1 := (150, (if (x0 &&& (2 : Int32)) = 0 then 22 else 18), [some (z_i (x0)), some (z_i (x1)), some (z_i (x2)), some (z_i (x2)), none, none], [], (true, X, I, J))) rfl ?_
    refine z_ev_if (fun e2 => ?_) (fun e2 => ?_)
    · have h9 := h20.1 e2
      refine z_ev_gs 6 (c1 := (150, (if (x0 &&& (4 : Int32)) = 0 then 35 else 31), [some (z_i (x0)), some (z_i (x1)), some (z_i (x2)), some (z_i (x2)), some (z_i (x2)), none], [], (true, X, I, J))) rfl ?_
      refine z_ev_if (fun e3 => ?_) (fun e3 => ?_)
      · have h4 := h9.1 e3
        refine z_ev_gs 13 (c1 := (150, 53, [some (z_i (x0)), some (z_i (x1)), some (z_i (x2)), some (z_i (x2)), some (z_i (x2)), some (z_i (x2))], [z_i (((x2 * x2) + (x2 * x2)) + (x2 * x2))], (true, X, I, J))) rfl ?_
        rw [h4]
        exact z_ev_rt rfl
      · have h5 := h9.2 e3
        refine z_ev_gs 14 (c1 := (150, 53, [some (z_i (x0)), some (z_i (x1)), some (z_i (x2)), some (z_i (x2)), some (z_i (x2)), some (z_i (x1))], [z_i (((x2 * x2) + (x2 * x1)) + (x2 * x1))], (true, X, I, J))) rfl ?_
        rw [h5]
        exact z_ev_rt rfl
    · have h10 := h20.2 e2
      refine z_ev_gs 7 (c1 := (150, (if (x0 &&& (4 : Int32)) = 0 then 35 else 31), [some (z_i (x0)), some (z_i (x1)), some (z_i (x2)), some (z_i (x2)), some (z_i (x1)), none], [], (true, X, I, J))) rfl ?_
      refine z_ev_if (fun e6 => ?_) (fun e6 => ?_)
      · have h7 := h10.1 e6
        refine z_ev_gs 13 (c1 := (150, 53, [some (z_i (x0)), some (z_i (x1)), some (z_i (x2)), some (z_i (x2)), some (z_i (x1)), some (z_i (x2))], [z_i (((x2 * x1) + (x2 * x2)) + (x1 * x2))], (true, X, I, J))) rfl ?_
        rw [h7]
        exact z_ev_rt rfl
      · have h8 := h10.2 e6
        refine z_ev_gs 14 (c1 := (150, 53, [some (z_i (x0)), some (z_i (x1)), some (z_i (x2)), some (z_i (x2)), some (z_i (x1)), some (z_i (x1))], [z_i (((x2 * x1) + (x2 * x1)) + (x1 * x1))], (true, X, I, J))) rfl ?_
        rw [h8]
        exact z_ev_rt rfl
  · have h21 := h.2 e1
    refine z_ev_gs 7 (c1 := (150, (if (x0 &&& (2 : Int32)) = 0 then 22 else 18), [some (z_i (x0)), some (z_i (x1)), some (z_i (x2)), some (z_i (x1)), none, none], [], (true, X, I, J))) rfl ?_
    refine z_ev_if (fun e11 => ?_) (fun e11 => ?_)
    · have h18 := h21.1 e11
      refine z_ev_gs 6 (c1 := (150, (if (x0 &&& (4 : Int32)) = 0 then 35 else 31), [some (z_i (x0)), some (z_i (x1)), some (z_i (x2)), some (z_i (x1)), some (z_i (x2)), none], [], (true, X, I, J))) rfl ?_
      refine z_ev_if (fun e12 => ?_) (fun e12 => ?_)
      · have h13 := h18.1 e12
        refine z_ev_gs 13 (c1 := (150, 53, [some (z_i (x0)), some (z_i (x1)), some (z_i (x2)), some (z_i (x1)), some (z_i (x2)), some (z_i (x2))], [z_i (((x1 * x2) + (x1 * x2)) + (x2 * x2))], (true, X, I, J))) rfl ?_
        rw [h13]
        exact z_ev_rt rfl
      · have h14 := h18.2 e12
        refine z_ev_gs 14 (c1 := (150, 53, [some (z_i (x0)), some (z_i (x1)), some (z_i (x2)), some (z_i (x1)), some (z_i (x2)), some (z_i (x1))], [z_i (((x1 * x2) + (x1 * x1)) + (x2 * x1))], (true, X, I, J))) rfl ?_
        rw [h14]
        exact z_ev_rt rfl
    · have h19 := h21.2 e11
      refine z_ev_gs 7 (c1 := (150, (if (x0 &&& (4 : Int32)) = 0 then 35 else 31), [some (z_i (x0)), some (z_i (x1)), some (z_i (x2)), some (z_i (x1)), some (z_i (x1)), none], [], (true, X, I, J))) rfl ?_
      refine z_ev_if (fun e15 => ?_) (fun e15 => ?_)
      · have h16 := h19.1 e15
        refine z_ev_gs 13 (c1 := (150, 53, [some (z_i (x0)), some (z_i (x1)), some (z_i (x2)), some (z_i (x1)), some (z_i (x1)), some (z_i (x2))], [z_i (((x1 * x1) + (x1 * x2)) + (x1 * x2))], (true, X, I, J))) rfl ?_
        rw [h16]
        exact z_ev_rt rfl
      · have h17 := h19.2 e15
        refine z_ev_gs 14 (c1 := (150, 53, [some (z_i (x0)), some (z_i (x1)), some (z_i (x2)), some (z_i (x1)), some (z_i (x1)), some (z_i (x1))], [z_i (((x1 * x1) + (x1 * x1)) + (x1 * x1))], (true, X, I, J))) rfl ?_
        rw [h17]
        exact z_ev_rt rfl
theorem z_q151_e {d : Nat} {r : Option z_V × z_M} {X : z_X} {I : Nat → Nat → Nat → Int32} {J : Nat → Nat → Nat → Int64} (x0 : Int32) (x1 : Int32)
    (h : z_ev d (151, 4, [some (z_i (x0)), some (z_i (x1)), some (z_i (x0)), some (z_i 0)], [], (true, X, I, J)) r) :
    z_ev d (z_en 151 [z_i (x0), z_i (x1)] (true, X, I, J)) r := by
  show z_ev d (151, 0, [some (z_i (x0)), some (z_i (x1)), none, none], [], (true, X, I, J)) r
  refine z_ev_gs 4 (c1 := (151, 4, [some (z_i (x0)), some (z_i (x1)), some (z_i (x0)), some (z_i 0)], [], (true, X, I, J))) rfl ?_
  exact h
theorem z_q151_4 {d : Nat} {r : Option z_V × z_M} {X : z_X} {I : Nat → Nat → Nat → Int32} {J : Nat → Nat → Nat → Int64} (x0 : Int32) (x1 : Int32) (x2 : Int32) (x3 : Int32)
    (h : ((x1 ≤ x3 → r = (some (z_i (x2 - x2 / (10 : Int32) * (10 : Int32))), (true, X, I, J))) ∧ (x3 < x1 → z_ev d (151, 4, [some (z_i (x0)), some (z_i (x1)), some (z_i (x2 / (10 : Int32))), some (z_i (x3 + (1 : Int32)))], [], (true, X, I, J)) r))) :
    z_ev d ((151, 4, [some (z_i (x0)), some (z_i (x1)), some (z_i (x2)), some (z_i (x3))], [], (true, X, I, J))) r := by
  refine z_ev_gs 3 (c1 := (151, (if x1 ≤ x3 then 20 else 9), [some (z_i (x0)), some (z_i (x1)), some (z_i (x2)), some (z_i (x3))], [], (true, X, I, J))) rfl ?_
  refine z_ev_ifle (fun e1 => ?_) (fun e1 => ?_)
  · have h2 := h.1 e1
    refine z_ev_gs 2 (c1 := (151, 23, [some (z_i (x0)), some (z_i (x1)), some (z_i (x2)), some (z_i (x3))], [z_i 10, z_i (x2)], (true, X, I, J))) rfl ?_
    refine z_ev_dvi (w1 := (10 : Int32)) (c1 := (151, 24, [some (z_i (x0)), some (z_i (x1)), some (z_i (x2)), some (z_i (x3))], [z_i (x2 - x2 / (10 : Int32) * (10 : Int32))], (true, X, I, J))) rfl (by decide) ?_
    rw [h2]
    exact z_ev_rt rfl
  · have h3 := h.2 e1
    refine z_ev_gs 2 (c1 := (151, 12, [some (z_i (x0)), some (z_i (x1)), some (z_i (x2)), some (z_i (x3))], [z_i 10, z_i (x2)], (true, X, I, J))) rfl ?_
    refine z_ev_dvi (w1 := (10 : Int32)) (c1 := (151, 13, [some (z_i (x0)), some (z_i (x1)), some (z_i (x2)), some (z_i (x3))], [z_i (x2 / (10 : Int32))], (true, X, I, J))) rfl (by decide) ?_
    refine z_ev_gs 3 (c1 := (151, 4, [some (z_i (x0)), some (z_i (x1)), some (z_i (x2 / (10 : Int32))), some (z_i (x3 + (1 : Int32)))], [], (true, X, I, J))) rfl ?_
    exact h3
theorem z_q148_e {d : Nat} {r : Option z_V × z_M} {X : z_X} {I : Nat → Nat → Nat → Int32} {J : Nat → Nat → Nat → Int64} (q1 : Nat) (x1 : Int32)
    (h : (q1 < X.1 ∧ (((I 32 q1 0) = 0 → (∃ (v8 : Int32) (X3 : z_X) (I4 : Nat → Nat → Nat → Int32) (J5 : Nat → Nat → Nat → Int64), z_ev d (z_en 149 [z_i (I 32 q1 2), z_i (I 32 q1 3), z_i (x1)] (true, X, I, J)) (some (z_i (v8)), (true, X3, I4, J5)) ∧ r = (some (z_i (v8)), (true, X3, I4, J5)))) ∧ (¬ (I 32 q1 0) = 0 → (((I 32 q1 0) = 2 → (∃ k9 : Nat, x1 = Int32.ofNat k9 ∧ k9 < 11 ∧ (∃ (v18 : Int32) (X13 : z_X) (I14 : Nat → Nat → Nat → Int32) (J15 : Nat → Nat → Nat → Int64), z_ev d (z_en 150 [z_i ((z_stc.getD 0 []).getD k9 0), z_i (I 32 q1 2), z_i (I 32 q1 3)] (true, X, I, J)) (some (z_i (v18)), (true, X13, I14, J15)) ∧ r = (some (z_i (v18)), (true, X13, I14, J15))))) ∧ (¬ (I 32 q1 0) = 2 → (∃ (v24 : Int32) (X19 : z_X) (I20 : Nat → Nat → Nat → Int32) (J21 : Nat → Nat → Nat → Int64), z_ev d (z_en 151 [z_i (I 32 q1 2), z_i (x1)] (true, X, I, J)) (some (z_i (v24)), (true, X19, I20, J21)) ∧ r = (some (z_i ((3 : Int32) * (v24 - (4 : Int32)))), (true, X19, I20, J21))))))))) :
    z_ev (d + 1) (z_en 148 [z_r 32 q1, z_i (x1)] (true, X, I, J)) r := by
  show z_ev (d + 1) (148, 0, [some (z_r 32 q1), some (z_i (x1))], [], (true, X, I, J)) r
  refine z_ev_gs 1 (c1 := (148, 1, [some (z_r 32 q1), some (z_i (x1))], [z_r 32 q1], (true, X, I, J))) rfl ?_
  obtain ⟨g1, h2⟩ := h
  refine z_ev_gi (c1 := (148, 4, [some (z_r 32 q1), some (z_i (x1))], [z_i (I 32 q1 0)], (true, X, I, J))) rfl g1 ?_
  refine z_ev_gs 1 (c1 := (148, (if (I 32 q1 0) = 0 then 32 else (if (I 32 q1 0) = 2 then 45 else 62)), [some (z_r 32 q1), some (z_i (x1))], [], (true, X, I, J))) rfl ?_
  refine z_ev_if (fun e25 => ?_) (fun e25 => ?_)
  · have h26 := h2.1 e25
    refine z_ev_gs 1 (c1 := (148, 33, [some (z_r 32 q1), some (z_i (x1))], [z_r 32 q1], (true, X, I, J))) rfl ?_
    refine z_ev_gi (c1 := (148, 36, [some (z_r 32 q1), some (z_i (x1))], [z_i (I 32 q1 2)], (true, X, I, J))) rfl g1 ?_
    refine z_ev_gs 1 (c1 := (148, 37, [some (z_r 32 q1), some (z_i (x1))], [z_r 32 q1, z_i (I 32 q1 2)], (true, X, I, J))) rfl ?_
    refine z_ev_gi (c1 := (148, 40, [some (z_r 32 q1), some (z_i (x1))], [z_i (I 32 q1 3), z_i (I 32 q1 2)], (true, X, I, J))) rfl g1 ?_
    refine z_ev_gs 1 (c1 := (148, 41, [some (z_r 32 q1), some (z_i (x1))], [z_i (x1), z_i (I 32 q1 3), z_i (I 32 q1 2)], (true, X, I, J))) rfl ?_
    obtain ⟨v8, X3, I4, J5, g6, h7⟩ := h26
    refine z_ev_ca rfl rfl g6 ?_
    rw [h7]
    exact z_ev_rt rfl
  · have h27 := h2.2 e25
    refine z_ev_if (fun e28 => ?_) (fun e28 => ?_)
    · have h29 := h27.1 e28
      refine z_ev_gs 2 (c1 := (148, 49, [some (z_r 32 q1), some (z_i (x1))], [z_i (x1), z_r 66 0], (true, X, I, J))) rfl ?_
      obtain ⟨k9, e10, e11, h12⟩ := h29
      refine z_ev_sld (k := k9) (n := 11) rfl e10 e11 (by decide) ?_
      refine z_ev_gs 1 (c1 := (148, 51, [some (z_r 32 q1), some (z_i (x1))], [z_r 32 q1, z_i ((z_stc.getD 0 []).getD k9 0)], (true, X, I, J))) rfl ?_
      refine z_ev_gi (c1 := (148, 54, [some (z_r 32 q1), some (z_i (x1))], [z_i (I 32 q1 2), z_i ((z_stc.getD 0 []).getD k9 0)], (true, X, I, J))) rfl g1 ?_
      refine z_ev_gs 1 (c1 := (148, 55, [some (z_r 32 q1), some (z_i (x1))], [z_r 32 q1, z_i (I 32 q1 2), z_i ((z_stc.getD 0 []).getD k9 0)], (true, X, I, J))) rfl ?_
      refine z_ev_gi (c1 := (148, 58, [some (z_r 32 q1), some (z_i (x1))], [z_i (I 32 q1 3), z_i (I 32 q1 2), z_i ((z_stc.getD 0 []).getD k9 0)], (true, X, I, J))) rfl g1 ?_
      obtain ⟨v18, X13, I14, J15, g16, h17⟩ := h12
      refine z_ev_ca rfl rfl g16 ?_
      rw [h17]
      exact z_ev_rt rfl
    · have h30 := h27.2 e28
      refine z_ev_gs 2 (c1 := (148, 64, [some (z_r 32 q1), some (z_i (x1))], [z_r 32 q1, z_i 3], (true, X, I, J))) rfl ?_
      refine z_ev_gi (c1 := (148, 67, [some (z_r 32 q1), some (z_i (x1))], [z_i (I 32 q1 2), z_i 3], (true, X, I, J))) rfl g1 ?_
      refine z_ev_gs 1 (c1 := (148, 68, [some (z_r 32 q1), some (z_i (x1))], [z_i (x1), z_i (I 32 q1 2), z_i 3], (true, X, I, J))) rfl ?_
      obtain ⟨v24, X19, I20, J21, g22, h23⟩ := h30
      refine z_ev_ca rfl rfl g22 ?_
      refine z_ev_gs 3 (c1 := (148, 74, [some (z_r 32 q1), some (z_i (x1))], [z_i ((3 : Int32) * (v24 - (4 : Int32)))], (true, X19, I20, J21))) rfl ?_
      rw [h23]
      exact z_ev_rt rfl
theorem z_q97_e {d : Nat} {r : Option z_V × z_M} {X : z_X} {I : Nat → Nat → Nat → Int32} {J : Nat → Nat → Nat → Int64} (x1 : Int32) (x2 : Int32)
    (h : (((z_lt0 x1 (I 1 0 5)) = false → r = (some (z_j (-1000000000000)), (true, X, I, J))) ∧ ((z_lt0 x1 (I 1 0 5)) = true → ((x2 < 0 → r = (some (z_j (-1000000000000)), (true, X, I, J))) ∧ (0 ≤ x2 → ((x2 < (4 : Int32) → (∃ k4 : Nat, x1 = Int32.ofNat k4 ∧ k4 < 6 ∧ ∃ q8 : Nat, X.2.2.2 11 0 k4 = some (32, q8) ∧ (∃ (v16 : Int32) (X11 : z_X) (I12 : Nat → Nat → Nat → Int32) (J13 : Nat → Nat → Nat → Int64), z_ev (d + 1) (z_en 148 [z_r 32 q8, z_i (x2)] (true, X, I, J)) (some (z_i (v16)), (true, X11, I12, J13)) ∧ r = (some (z_j (v16.toInt64)), (true, X11, I12, J13))))) ∧ ((4 : Int32) ≤ x2 → r = (some (z_j (-1000000000000)), (true, X, I, J))))))))) :
    z_ev (d + 2) (z_en 97 [z_r 0 0, z_i (x1), z_i (x2)] (true, X, I, J)) r := by
  show z_ev (d + 2) (97, 0, [some (z_r 0 0), some (z_i (x1)), some (z_i (x2))], [], (true, X, I, J)) r
  refine z_ev_gs 2 (c1 := (97, 2, [some (z_r 0 0), some (z_i (x1)), some (z_i (x2))], [z_i (x1), z_r 0 0], (true, X, I, J))) rfl ?_
  refine z_ev_ca rfl rfl (z_p120 _) ?_
  refine z_ev_gs 1 (c1 := (97, (if z_c (z_lt0 x1 (I 1 0 5)) = 0 then 17 else 8), [some (z_r 0 0), some (z_i (x1)), some (z_i (x2))], [], (true, X, I, J))) rfl ?_
  refine z_ev_ifc (fun e1 => ?_) (fun e1 => ?_)
  · have h21 := h.1 e1
    refine z_ev_gs 1 (c1 := (97, 20, [some (z_r 0 0), some (z_i (x1)), some (z_i (x2))], [z_j (-1000000000000)], (true, X, I, J))) rfl ?_
    rw [h21]
    exact z_ev_rt rfl
  · have h22 := h.2 e1
    refine z_ev_gs 2 (c1 := (97, (if x2 < 0 then 17 else 12), [some (z_r 0 0), some (z_i (x1)), some (z_i (x2))], [], (true, X, I, J))) rfl ?_
    refine z_ev_iflt (fun e2 => ?_) (fun e2 => ?_)
    · have h19 := h22.1 e2
      refine z_ev_gs 1 (c1 := (97, 20, [some (z_r 0 0), some (z_i (x1)), some (z_i (x2))], [z_j (-1000000000000)], (true, X, I, J))) rfl ?_
      rw [h19]
      exact z_ev_rt rfl
    · have h20 := h22.2 e2
      refine z_ev_gs 3 (c1 := (97, (if x2 < (4 : Int32) then 21 else 17), [some (z_r 0 0), some (z_i (x1)), some (z_i (x2))], [], (true, X, I, J))) rfl ?_
      refine z_ev_iflt (fun e3 => ?_) (fun e3 => ?_)
      · have h17 := h20.1 e3
        refine z_ev_gs 4 (c1 := (97, 29, [some (z_r 0 0), some (z_i (x1)), some (z_i (x2))], [z_i (x1), z_r 11 0], (true, X, I, J))) rfl ?_
        obtain ⟨k4, e5, e6, h7⟩ := h17
        obtain ⟨q8, g9, h10⟩ := h7
        refine z_ev_so (k := k4) rfl rfl e5 e6 g9 ?_
        refine z_ev_gs 1 (c1 := (97, 31, [some (z_r 0 0), some (z_i (x1)), some (z_i (x2))], [z_i (x2), z_r 32 q8], (true, X, I, J))) rfl ?_
        obtain ⟨v16, X11, I12, J13, g14, h15⟩ := h10
        refine z_ev_ca rfl rfl g14 ?_
        refine z_ev_gs 1 (c1 := (97, 35, [some (z_r 0 0), some (z_i (x1)), some (z_i (x2))], [z_j (v16.toInt64)], (true, X11, I12, J13))) rfl ?_
        rw [h15]
        exact z_ev_rt rfl
      · have h18 := h20.2 e3
        refine z_ev_gs 1 (c1 := (97, 20, [some (z_r 0 0), some (z_i (x1)), some (z_i (x2))], [z_j (-1000000000000)], (true, X, I, J))) rfl ?_
        rw [h18]
        exact z_ev_rt rfl
theorem z_q233_e {d : Nat} {r : Option z_V × z_M} {X : z_X} {I : Nat → Nat → Nat → Int32} {J : Nat → Nat → Nat → Int64} (x1 : Int32) (x2 : Int32)
    (h : (∃ (v6 : Int32) (X1 : z_X) (I2 : Nat → Nat → Nat → Int32) (J3 : Nat → Nat → Nat → Int64), z_ev (d + 4) (z_en 229 [z_r 33 0, z_i (x1), z_i 1] (true, X, I, J)) (some (z_i (v6)), (true, X1, I2, J3)) ∧ (∃ (v12 : Int32) (X7 : z_X) (I8 : Nat → Nat → Nat → Int32) (J9 : Nat → Nat → Nat → Int64), z_ev (d + 4) (z_en 229 [z_r 33 0, z_i (x1), z_i 2] (true, X1, I2, J3)) (some (z_i (v12)), (true, X7, I8, J9)) ∧ (∃ k13 : Nat, ((33 : Int32) + x2) = Int32.ofNat k13 ∧ k13 < 55 ∧ (∃ (v22 : Int32) (X17 : z_X) (I18 : Nat → Nat → Nat → Int32) (J19 : Nat → Nat → Nat → Int64), z_ev (d + 4) (z_en 229 [z_r 33 0, z_i (x1), z_i 0] (true, X7, I8, J9)) (some (z_i (v22)), (true, X17, I18, J19)) ∧ ((v22 = 0 → (∃ (v28 : Int32) (X23 : z_X) (I24 : Nat → Nat → Nat → Int32) (J25 : Nat → Nat → Nat → Int64), z_ev (d + 4) (z_en 202 [z_r 33 0, z_i 3, z_i (I8 41 0 k13), z_i (v6), z_i (v12)] (true, X17, I18, J19)) (some (z_i (v28)), (true, X23, I24, J25)) ∧ (∃ (v34 : Int32) (X29 : z_X) (I30 : Nat → Nat → Nat → Int32) (J31 : Nat → Nat → Nat → Int64), z_ev (d + 4) (z_en 195 [z_i 3, z_i (v6)] (true, X23, I24, J25)) (some (z_i (v34)), (true, X29, I30, J31)) ∧ (¬ v34 = 0 ∧ r = (some (z_i ((v28 * (3 : Int32)) / v34)), (true, X29, I30, J31)))))) ∧ (¬ v22 = 0 → ((v22 = 2 → ((¬ ((I8 41 0 k13) &&& (1 : Int32)) = (1 : Int32) → ((¬ (((I8 41 0 k13) >>> ((1 : Int32) &&& 31)) &&& (1 : Int32)) = (1 : Int32) → ((¬ (((I8 41 0 k13) >>> ((2 : Int32) &&& 31)) &&& (1 : Int32)) = (1 : Int32) → r = (some (z_i (((v12 * v12) + (v12 * v12)) + (v12 * v12))), (true, X17, I18, J19))) ∧ ((((I8 41 0 k13) >>> ((2 : Int32) &&& 31)) &&& (1 : Int32)) = (1 : Int32) → r = (some (z_i (((v12 * v12) + (v12 * v6)) + (v12 * v6))), (true, X17, I18, J19))))) ∧ ((((I8 41 0 k13) >>> ((1 : Int32) &&& 31)) &&& (1 : Int32)) = (1 : Int32) → ((¬ (((I8 41 0 k13) >>> ((2 : Int32) &&& 31)) &&& (1 : Int32)) = (1 : Int32) → r = (some (z_i (((v12 * v6) + (v12 * v12)) + (v6 * v12))), (true, X17, I18, J19))) ∧ ((((I8 41 0 k13) >>> ((2 : Int32) &&& 31)) &&& (1 : Int32)) = (1 : Int32) → r = (some (z_i (((v12 * v6) + (v12 * v6)) + (v6 * v6))), (true, X17, I18, J19))))))) ∧ (((I8 41 0 k13) &&& (1 : Int32)) = (1 : Int32) → ((¬ (((I8 41 0 k13) >>> ((1 : Int32) &&& 31)) &&& (1 : Int32)) = (1 : Int32) → ((¬ (((I8 41 0 k13) >>> ((2 : Int32) &&& 31)) &&& (1 : Int32)) = (1 : Int32) → r = (some (z_i (((v6 * v12) + (v6 * v12)) + (v12 * v12))), (true, X17, I18, J19))) ∧ ((((I8 41 0 k13) >>> ((2 : Int32) &&& 31)) &&& (1 : Int32)) = (1 : Int32) → r = (some (z_i (((v6 * v12) + (v6 * v6)) + (v12 * v6))), (true, X17, I18, J19))))) ∧ ((((I8 41 0 k13) >>> ((1 : Int32) &&& 31)) &&& (1 : Int32)) = (1 : Int32) → ((¬ (((I8 41 0 k13) >>> ((2 : Int32) &&& 31)) &&& (1 : Int32)) = (1 : Int32) → r = (some (z_i (((v6 * v6) + (v6 * v12)) + (v6 * v12))), (true, X17, I18, J19))) ∧ ((((I8 41 0 k13) >>> ((2 : Int32) &&& 31)) &&& (1 : Int32)) = (1 : Int32) → r = (some (z_i (((v6 * v6) + (v6 * v6)) + (v6 * v6))), (true, X17, I18, J19))))))))) ∧ (¬ v22 = 2 → z_ev (d + 5) (233, 152, [some (z_r 33 0), some (z_i (x1)), some (z_i (x2)), some (z_i (v6)), some (z_i (v12)), some (z_i (I8 41 0 k13)), some (z_i (v6)), none, none, none, some (z_i 0)], [], (true, X17, I18, J19)) r))))))))) :
    z_ev (d + 5) (z_en 233 [z_r 33 0, z_i (x1), z_i (x2)] (true, X, I, J)) r := by
  show z_ev (d + 5) (233, 0, [some (z_r 33 0), some (z_i (x1)), some (z_i (x2)), none, none, none, none, none, none, none, none], [], (true, X, I, J)) r
  refine z_ev_gs 3 (c1 := (233, 3, [some (z_r 33 0), some (z_i (x1)), some (z_i (x2)), none, none, none, none, none, none, none, none], [z_i 1, z_i (x1), z_r 33 0], (true, X, I, J))) rfl ?_
  obtain ⟨v6, X1, I2, J3, g4, h5⟩ := h
  refine z_ev_ca rfl rfl g4 ?_
  refine z_ev_gs 4 (c1 := (233, 10, [some (z_r 33 0), some (z_i (x1)), some (z_i (x2)), some (z_i (v6)), none, none, none, none, none, none, none], [z_i 2, z_i (x1), z_r 33 0], (true, X1, I2, J3))) rfl ?_
  obtain ⟨v12, X7, I8, J9, g10, h11⟩ := h5
  refine z_ev_ca rfl rfl g10 ?_
  refine z_ev_gs 6 (c1 := (233, 23, [some (z_r 33 0), some (z_i (x1)), some (z_i (x2)), some (z_i (v6)), some (z_i (v12)), none, none, none, none, none, none], [z_i ((33 : Int32) + x2), z_r 41 0], (true, X7, I8, J9))) rfl ?_
  obtain ⟨k13, e14, e15, h16⟩ := h11
  refine z_ev_iald (t := 41) (i := 0) (k := k13) (n := 55) rfl rfl e14 e15 (by decide) ?_
  refine z_ev_gs 6 (c1 := (233, 32, [some (z_r 33 0), some (z_i (x1)), some (z_i (x2)), some (z_i (v6)), some (z_i (v12)), some (z_i (I8 41 0 k13)), some (z_i (v6)), none, none, none, none], [z_i 0, z_i (x1), z_r 33 0], (true, X7, I8, J9))) rfl ?_
  obtain ⟨v22, X17, I18, J19, g20, h21⟩ := h16
  refine z_ev_ca rfl rfl g20 ?_
  refine z_ev_gs 1 (c1 := (233, (if v22 = 0 then 60 else (if v22 = 2 then 79 else 149)), [some (z_r 33 0), some (z_i (x1)), some (z_i (x2)), some (z_i (v6)), some (z_i (v12)), some (z_i (I8 41 0 k13)), some (z_i (v6)), none, none, none, none], [], (true, X17, I18, J19))) rfl ?_
  refine z_ev_if (fun e57 => ?_) (fun e57 => ?_)
  · have h58 := h21.1 e57
    refine z_ev_gs 5 (c1 := (233, 67, [some (z_r 33 0), some (z_i (x1)), some (z_i (x2)), some (z_i (v6)), some (z_i (v12)), some (z_i (I8 41 0 k13)), some (z_i (v6)), none, none, none, none], [z_i (v12), z_i (v6), z_i (I8 41 0 k13), z_i 3, z_r 33 0], (true, X17, I18, J19))) rfl ?_
    obtain ⟨v28, X23, I24, J25, g26, h27⟩ := h58
    refine z_ev_ca rfl rfl g26 ?_
    refine z_ev_gs 4 (c1 := (233, 74, [some (z_r 33 0), some (z_i (x1)), some (z_i (x2)), some (z_i (v6)), some (z_i (v12)), some (z_i (I8 41 0 k13)), some (z_i (v6)), none, none, none, none], [z_i (v6), z_i 3, z_i (v28 * (3 : Int32))], (true, X23, I24, J25))) rfl ?_
    obtain ⟨v34, X29, I30, J31, g32, h33⟩ := h27
    refine z_ev_ca rfl rfl g32 ?_
    obtain ⟨g0, h35⟩ := h33
    refine z_ev_dvi (w1 := v34) (c1 := (233, 78, [some (z_r 33 0), some (z_i (x1)), some (z_i (x2)), some (z_i (v6)), some (z_i (v12)), some (z_i (I8 41 0 k13)), some (z_i (v6)), none, none, none, none], [z_i ((v28 * (3 : Int32)) / v34)], (true, X29, I30, J31))) rfl g0 ?_
    rw [h35]
    exact z_ev_rt rfl
  · have h59 := h21.2 e57
    refine z_ev_if (fun e60 => ?_) (fun e60 => ?_)
    · have h61 := h59.1 e60
      refine z_ev_gs 5 (c1 := (233, (if ¬ ((I8 41 0 k13) &&& (1 : Int32)) = (1 : Int32) then 91 else 87), [some (z_r 33 0), some (z_i (x1)), some (z_i (x2)), some (z_i (v6)), some (z_i (v12)), some (z_i (I8 41 0 k13)), some (z_i (v6)), none, none, none, none], [], (true, X17, I18, J19))) rfl ?_
      refine z_ev_ifn (fun e36 => ?_) (fun e36 => ?_)
      · have h55 := h61.1 e36
        refine z_ev_gs 9 (c1 := (233, (if ¬ (((I8 41 0 k13) >>> ((1 : Int32) &&& 31)) &&& (1 : Int32)) = (1 : Int32) then 109 else 105), [some (z_r 33 0), some (z_i (x1)), some (z_i (x2)), some (z_i (v6)), some (z_i (v12)), some (z_i (I8 41 0 k13)), some (z_i (v6)), some (z_i (v12)), none, none, none], [], (true, X17, I18, J19))) rfl ?_
        refine z_ev_ifn (fun e37 => ?_) (fun e37 => ?_)
        · have h44 := h55.1 e37
          refine z_ev_gs 9 (c1 := (233, (if ¬ (((I8 41 0 k13) >>> ((2 : Int32) &&& 31)) &&& (1 : Int32)) = (1 : Int32) then 127 else 123), [some (z_r 33 0), some (z_i (x1)), some (z_i (x2)), some (z_i (v6)), some (z_i (v12)), some (z_i (I8 41 0 k13)), some (z_i (v6)), some (z_i (v12)), some (z_i (v12)), none, none], [], (true, X17, I18, J19))) rfl ?_
          refine z_ev_ifn (fun e38 => ?_) (fun e38 => ?_)
          · have h39 := h44.1 e38
            refine z_ev_gs 13 (c1 := (233, 148, [some (z_r 33 0), some (z_i (x1)), some (z_i (x2)), some (z_i (v6)), some (z_i (v12)), some (z_i (I8 41 0 k13)), some (z_i (v6)), some (z_i (v12)), some (z_i (v12)), some (z_i (v12)), none], [z_i (((v12 * v12) + (v12 * v12)) + (v12 * v12))], (true, X17, I18, J19))) rfl ?_
            rw [h39]
            exact z_ev_rt rfl
          · have h40 := h44.2 e38
            refine z_ev_gs 14 (c1 := (233, 148, [some (z_r 33 0), some (z_i (x1)), some (z_i (x2)), some (z_i (v6)), some (z_i (v12)), some (z_i (I8 41 0 k13)), some (z_i (v6)), some (z_i (v12)), some (z_i (v12)), some (z_i (v6)), none], [z_i (((v12 * v12) + (v12 * v6)) + (v12 * v6))], (true, X17, I18, J19))) rfl ?_
            rw [h40]
            exact z_ev_rt rfl
        · have h45 := h55.2 e37
          refine z_ev_gs 10 (c1 := (233, (if ¬ (((I8 41 0 k13) >>> ((2 : Int32) &&& 31)) &&& (1 : Int32)) = (1 : Int32) then 127 else 123), [some (z_r 33 0), some (z_i (x1)), some (z_i (x2)), some (z_i (v6)), some (z_i (v12)), some (z_i (I8 41 0 k13)), some (z_i (v6)), some (z_i (v12)), some (z_i (v6)), none, none], [], (true, X17, I18, J19))) rfl ?_
          refine z_ev_ifn (fun e41 => ?_) (fun e41 => ?_)
          · have h42 := h45.1 e41
            refine z_ev_gs 13 (c1 := (233, 148, [some (z_r 33 0), some (z_i (x1)), some (z_i (x2)), some (z_i (v6)), some (z_i (v12)), some (z_i (I8 41 0 k13)), some (z_i (v6)), some (z_i (v12)), some (z_i (v6)), some (z_i (v12)), none], [z_i (((v12 * v6) + (v12 * v12)) + (v6 * v12))], (true, X17, I18, J19))) rfl ?_
            rw [h42]
            exact z_ev_rt rfl
          · have h43 := h45.2 e41
            refine z_ev_gs 14 (c1 := (233, 148, [some (z_r 33 0), some (z_i (x1)), some (z_i (x2)), some (z_i (v6)), some (z_i (v12)), some (z_i (I8 41 0 k13)), some (z_i (v6)), some (z_i (v12)), some (z_i (v6)), some (z_i (v6)), none], [z_i (((v12 * v6) + (v12 * v6)) + (v6 * v6))], (true, X17, I18, J19))) rfl ?_
            rw [h43]
            exact z_ev_rt rfl
      · have h56 := h61.2 e36
        refine z_ev_gs 10 (c1 := (233, (if ¬ (((I8 41 0 k13) >>> ((1 : Int32) &&& 31)) &&& (1 : Int32)) = (1 : Int32) then 109 else 105), [some (z_r 33 0), some (z_i (x1)), some (z_i (x2)), some (z_i (v6)), some (z_i (v12)), some (z_i (I8 41 0 k13)), some (z_i (v6)), some (z_i (v6)), none, none, none], [], (true, X17, I18, J19))) rfl ?_
        refine z_ev_ifn (fun e46 => ?_) (fun e46 => ?_)
        · have h53 := h56.1 e46
          refine z_ev_gs 9 (c1 := (233, (if ¬ (((I8 41 0 k13) >>> ((2 : Int32) &&& 31)) &&& (1 : Int32)) = (1 : Int32) then 127 else 123), [some (z_r 33 0), some (z_i (x1)), some (z_i (x2)), some (z_i (v6)), some (z_i (v12)), some (z_i (I8 41 0 k13)), some (z_i (v6)), some (z_i (v6)), some (z_i (v12)), none, none], [], (true, X17, I18, J19))) rfl ?_
          refine z_ev_ifn (fun e47 => ?_) (fun e47 => ?_)
          · have h48 := h53.1 e47
            refine z_ev_gs 13 (c1 := (233, 148, [some (z_r 33 0), some (z_i (x1)), some (z_i (x2)), some (z_i (v6)), some (z_i (v12)), some (z_i (I8 41 0 k13)), some (z_i (v6)), some (z_i (v6)), some (z_i (v12)), some (z_i (v12)), none], [z_i (((v6 * v12) + (v6 * v12)) + (v12 * v12))], (true, X17, I18, J19))) rfl ?_
            rw [h48]
            exact z_ev_rt rfl
          · have h49 := h53.2 e47
            refine z_ev_gs 14 (c1 := (233, 148, [some (z_r 33 0), some (z_i (x1)), some (z_i (x2)), some (z_i (v6)), some (z_i (v12)), some (z_i (I8 41 0 k13)), some (z_i (v6)), some (z_i (v6)), some (z_i (v12)), some (z_i (v6)), none], [z_i (((v6 * v12) + (v6 * v6)) + (v12 * v6))], (true, X17, I18, J19))) rfl ?_
            rw [h49]
            exact z_ev_rt rfl
        · have h54 := h56.2 e46
          refine z_ev_gs 10 (c1 := (233, (if ¬ (((I8 41 0 k13) >>> ((2 : Int32) &&& 31)) &&& (1 : Int32)) = (1 : Int32) then 127 else 123), [some (z_r 33 0), some (z_i (x1)), some (z_i (x2)), some (z_i (v6)), some (z_i (v12)), some (z_i (I8 41 0 k13)), some (z_i (v6)), some (z_i (v6)), some (z_i (v6)), none, none], [], (true, X17, I18, J19))) rfl ?_
          refine z_ev_ifn (fun e50 => ?_) (fun e50 => ?_)
          · have h51 := h54.1 e50
            refine z_ev_gs 13 (c1 := (233, 148, [some (z_r 33 0), some (z_i (x1)), some (z_i (x2)), some (z_i (v6)), some (z_i (v12)), some (z_i (I8 41 0 k13)), some (z_i (v6)), some (z_i (v6)), some (z_i (v6)), some (z_i (v12)), none], [z_i (((v6 * v6) + (v6 * v12)) + (v6 * v12))], (true, X17, I18, J19))) rfl ?_
            rw [h51]
            exact z_ev_rt rfl
          · have h52 := h54.2 e50
            refine z_ev_gs 14 (c1 := (233, 148, [some (z_r 33 0), some (z_i (x1)), some (z_i (x2)), some (z_i (v6)), some (z_i (v12)), some (z_i (I8 41 0 k13)), some (z_i (v6)), some (z_i (v6)), some (z_i (v6)), some (z_i (v6)), none], [z_i (((v6 * v6) + (v6 * v6)) + (v6 * v6))], (true, X17, I18, J19))) rfl ?_
            rw [h52]
            exact z_ev_rt rfl
    · have h62 := h59.2 e60
      refine z_ev_gs 2 (c1 := (233, 152, [some (z_r 33 0), some (z_i (x1)), some (z_i (x2)), some (z_i (v6)), some (z_i (v12)), some (z_i (I8 41 0 k13)), some (z_i (v6)), none, none, none, some (z_i 0)], [], (true, X17, I18, J19))) rfl ?_
      exact h62
theorem z_q233_152 {d : Nat} {r : Option z_V × z_M} {X : z_X} {I : Nat → Nat → Nat → Int32} {J : Nat → Nat → Nat → Int64} (x1 : Int32) (x2 : Int32) (x3 : Int32) (x4 : Int32) (x5 : Int32) (x6 : Int32) (x10 : Int32)
    (h : ((x2 ≤ x10 → r = (some (z_i ((3 : Int32) * ((x6 - x6 / (10 : Int32) * (10 : Int32)) - (4 : Int32)))), (true, X, I, J))) ∧ (x10 < x2 → z_ev (d + 5) (233, 152, [some (z_r 33 0), some (z_i (x1)), some (z_i (x2)), some (z_i (x3)), some (z_i (x4)), some (z_i (x5)), some (z_i (x6 / (10 : Int32))), none, none, none, some (z_i (x10 + (1 : Int32)))], [], (true, X, I, J)) r))) :
    z_ev (d + 5) ((233, 152, [some (z_r 33 0), some (z_i (x1)), some (z_i (x2)), some (z_i (x3)), some (z_i (x4)), some (z_i (x5)), some (z_i (x6)), none, none, none, some (z_i (x10))], [], (true, X, I, J))) r := by
  refine z_ev_gs 3 (c1 := (233, (if x2 ≤ x10 then 171 else 158), [some (z_r 33 0), some (z_i (x1)), some (z_i (x2)), some (z_i (x3)), some (z_i (x4)), some (z_i (x5)), some (z_i (x6)), none, none, none, some (z_i (x10))], [], (true, X, I, J))) rfl ?_
  refine z_ev_ifle (fun e63 => ?_) (fun e63 => ?_)
  · have h64 := h.1 e63
    refine z_ev_gs 3 (c1 := (233, 176, [some (z_r 33 0), some (z_i (x1)), some (z_i (x2)), some (z_i (x3)), some (z_i (x4)), some (z_i (x5)), some (z_i (x6)), none, none, none, some (z_i (x10))], [z_i 10, z_i (x6), z_i 3], (true, X, I, J))) rfl ?_
    refine z_ev_dvi (w1 := (10 : Int32)) (c1 := (233, 177, [some (z_r 33 0), some (z_i (x1)), some (z_i (x2)), some (z_i (x3)), some (z_i (x4)), some (z_i (x5)), some (z_i (x6)), none, none, none, some (z_i (x10))], [z_i (x6 - x6 / (10 : Int32) * (10 : Int32)), z_i 3], (true, X, I, J))) rfl (by decide) ?_
    refine z_ev_gs 3 (c1 := (233, 180, [some (z_r 33 0), some (z_i (x1)), some (z_i (x2)), some (z_i (x3)), some (z_i (x4)), some (z_i (x5)), some (z_i (x6)), none, none, none, some (z_i (x10))], [z_i ((3 : Int32) * ((x6 - x6 / (10 : Int32) * (10 : Int32)) - (4 : Int32)))], (true, X, I, J))) rfl ?_
    rw [h64]
    exact z_ev_rt rfl
  · have h65 := h.2 e63
    refine z_ev_gs 2 (c1 := (233, 162, [some (z_r 33 0), some (z_i (x1)), some (z_i (x2)), some (z_i (x3)), some (z_i (x4)), some (z_i (x5)), some (z_i (x6)), none, none, none, some (z_i (x10))], [z_i 10, z_i (x6)], (true, X, I, J))) rfl ?_
    refine z_ev_dvi (w1 := (10 : Int32)) (c1 := (233, 163, [some (z_r 33 0), some (z_i (x1)), some (z_i (x2)), some (z_i (x3)), some (z_i (x4)), some (z_i (x5)), some (z_i (x6)), none, none, none, some (z_i (x10))], [z_i (x6 / (10 : Int32))], (true, X, I, J))) rfl (by decide) ?_
    refine z_ev_gs 3 (c1 := (233, 152, [some (z_r 33 0), some (z_i (x1)), some (z_i (x2)), some (z_i (x3)), some (z_i (x4)), some (z_i (x5)), some (z_i (x6 / (10 : Int32))), none, none, none, some (z_i (x10 + (1 : Int32)))], [], (true, X, I, J))) rfl ?_
    exact h65
theorem z_q234_e {d : Nat} {r : Option z_V × z_M} {X : z_X} {I : Nat → Nat → Nat → Int32} {J : Nat → Nat → Nat → Int64} (x1 : Int32) (x2 : Int32)
    (h : (((z_bw x1 0 ((I 33 0 8) - 1)) = false → r = (some (z_j (-1000000000000)), (true, X, I, J))) ∧ ((z_bw x1 0 ((I 33 0 8) - 1)) = true → (((z_bw x2 (0 : Int32) (3 : Int32)) = false → r = (some (z_j (-1000000000000)), (true, X, I, J))) ∧ ((z_bw x2 (0 : Int32) (3 : Int32)) = true → (∃ (v8 : Int32) (X3 : z_X) (I4 : Nat → Nat → Nat → Int32) (J5 : Nat → Nat → Nat → Int64), z_ev (d + 5) (z_en 233 [z_r 33 0, z_i (x1), z_i (x2)] (true, X, I, J)) (some (z_i (v8)), (true, X3, I4, J5)) ∧ r = (some (z_j (v8.toInt64)), (true, X3, I4, J5)))))))) :
    z_ev (d + 6) (z_en 234 [z_r 33 0, z_i (x1), z_i (x2)] (true, X, I, J)) r := by
  show z_ev (d + 6) (234, 0, [some (z_r 33 0), some (z_i (x1)), some (z_i (x2))], [], (true, X, I, J)) r
  refine z_ev_gs 2 (c1 := (234, 2, [some (z_r 33 0), some (z_i (x1)), some (z_i (x2))], [z_i (x1), z_r 33 0], (true, X, I, J))) rfl ?_
  refine z_ev_ca rfl rfl (z_p228 _) ?_
  refine z_ev_gs 1 (c1 := (234, (if z_c (z_bw x1 0 ((I 33 0 8) - 1)) = 0 then 27 else 8), [some (z_r 33 0), some (z_i (x1)), some (z_i (x2))], [], (true, X, I, J))) rfl ?_
  refine z_ev_ifc (fun e1 => ?_) (fun e1 => ?_)
  · have h11 := h.1 e1
    refine z_ev_gs 1 (c1 := (234, 30, [some (z_r 33 0), some (z_i (x1)), some (z_i (x2))], [z_j (-1000000000000)], (true, X, I, J))) rfl ?_
    rw [h11]
    exact z_ev_rt rfl
  · have h12 := h.2 e1
    refine z_ev_gs 3 (c1 := (234, 11, [some (z_r 33 0), some (z_i (x1)), some (z_i (x2))], [z_i 3, z_i 0, z_i (x2)], (true, X, I, J))) rfl ?_
    refine z_ev_ca rfl rfl (z_p158 _ _ _) ?_
    refine z_ev_gs 1 (c1 := (234, (if z_c (z_bw x2 (0 : Int32) (3 : Int32)) = 0 then 27 else 17), [some (z_r 33 0), some (z_i (x1)), some (z_i (x2))], [], (true, X, I, J))) rfl ?_
    refine z_ev_ifc (fun e2 => ?_) (fun e2 => ?_)
    · have h9 := h12.1 e2
      refine z_ev_gs 1 (c1 := (234, 30, [some (z_r 33 0), some (z_i (x1)), some (z_i (x2))], [z_j (-1000000000000)], (true, X, I, J))) rfl ?_
      rw [h9]
      exact z_ev_rt rfl
    · have h10 := h12.2 e2
      refine z_ev_gs 3 (c1 := (234, 20, [some (z_r 33 0), some (z_i (x1)), some (z_i (x2))], [z_i (x2), z_i (x1), z_r 33 0], (true, X, I, J))) rfl ?_
      obtain ⟨v8, X3, I4, J5, g6, h7⟩ := h10
      refine z_ev_ca rfl rfl g6 ?_
      refine z_ev_gs 2 (c1 := (234, 30, [some (z_r 33 0), some (z_i (x1)), some (z_i (x2))], [z_j (v8.toInt64)], (true, X3, I4, J5))) rfl ?_
      rw [h7]
      exact z_ev_rt rfl
theorem z_q98_e {d : Nat} {r : Option z_V × z_M} {X : z_X} {I : Nat → Nat → Nat → Int32} {J : Nat → Nat → Nat → Int64} (x1 : Int32) (x2 : Int32) (x3 : Int32)
    (h : (((z_lt0 x1 (I 1 0 5)) = false → r = (some (z_j (-1000000000000)), (true, X, I, J))) ∧ ((z_lt0 x1 (I 1 0 5)) = true → (((z_bw x2 0 3) = false → r = (some (z_j (-1000000000000)), (true, X, I, J))) ∧ ((z_bw x2 0 3) = true → (((z_bw x3 0 1) = false → r = (some (z_j (-1000000000000)), (true, X, I, J))) ∧ ((z_bw x3 0 1) = true → (∃ k4 : Nat, x2 = Int32.ofNat k4 ∧ k4 < 4 ∧ (((3 : Int32) ≤ (I 13 k4 1) → (∃ (X9 : z_X) (I10 : Nat → Nat → Nat → Int32) (J11 : Nat → Nat → Nat → Int64), z_ev (d + 15) (z_en 42 [z_r 24 0, z_r 13 k4, z_i 3] (true, X, I, J)) (none, (true, X9, I10, J11)) ∧ z_ev (d + 16) (98, 65, [some (z_r 0 0), some (z_i (x1)), some (z_i (x2)), some (z_i (x3)), some (z_j 0), none, some (z_i 0)], [], (true, X9, I10, J11)) r)) ∧ ((I 13 k4 1) < (3 : Int32) → r = (some (z_j (-1000000000000)), (true, X, I, J)))))))))))) :
    z_ev (d + 16) (z_en 98 [z_r 0 0, z_i (x1), z_i (x2), z_i (x3)] (true, X, I, J)) r := by
  show z_ev (d + 16) (98, 0, [some (z_r 0 0), some (z_i (x1)), some (z_i (x2)), some (z_i (x3)), none, none, none], [], (true, X, I, J)) r
  refine z_ev_gs 2 (c1 := (98, 2, [some (z_r 0 0), some (z_i (x1)), some (z_i (x2)), some (z_i (x3)), none, none, none], [z_i (x1), z_r 0 0], (true, X, I, J))) rfl ?_
  refine z_ev_ca rfl rfl (z_p120 _) ?_
  refine z_ev_gs 1 (c1 := (98, (if z_c (z_lt0 x1 (I 1 0 5)) = 0 then 38 else 8), [some (z_r 0 0), some (z_i (x1)), some (z_i (x2)), some (z_i (x3)), none, none, none], [], (true, X, I, J))) rfl ?_
  refine z_ev_ifc (fun e1 => ?_) (fun e1 => ?_)
  · have h20 := h.1 e1
    refine z_ev_gs 1 (c1 := (98, 41, [some (z_r 0 0), some (z_i (x1)), some (z_i (x2)), some (z_i (x3)), none, none, none], [z_j (-1000000000000)], (true, X, I, J))) rfl ?_
    rw [h20]
    exact z_ev_rt rfl
  · have h21 := h.2 e1
    refine z_ev_gs 1 (c1 := (98, 9, [some (z_r 0 0), some (z_i (x1)), some (z_i (x2)), some (z_i (x3)), none, none, none], [z_i (x2)], (true, X, I, J))) rfl ?_
    refine z_ev_ca rfl rfl (z_p118 _) ?_
    refine z_ev_gs 1 (c1 := (98, (if z_c (z_bw x2 0 3) = 0 then 38 else 15), [some (z_r 0 0), some (z_i (x1)), some (z_i (x2)), some (z_i (x3)), none, none, none], [], (true, X, I, J))) rfl ?_
    refine z_ev_ifc (fun e2 => ?_) (fun e2 => ?_)
    · have h18 := h21.1 e2
      refine z_ev_gs 1 (c1 := (98, 41, [some (z_r 0 0), some (z_i (x1)), some (z_i (x2)), some (z_i (x3)), none, none, none], [z_j (-1000000000000)], (true, X, I, J))) rfl ?_
      rw [h18]
      exact z_ev_rt rfl
    · have h19 := h21.2 e2
      refine z_ev_gs 1 (c1 := (98, 16, [some (z_r 0 0), some (z_i (x1)), some (z_i (x2)), some (z_i (x3)), none, none, none], [z_i (x3)], (true, X, I, J))) rfl ?_
      refine z_ev_ca rfl rfl (z_p121 _) ?_
      refine z_ev_gs 1 (c1 := (98, (if z_c (z_bw x3 0 1) = 0 then 38 else 22), [some (z_r 0 0), some (z_i (x1)), some (z_i (x2)), some (z_i (x3)), none, none, none], [], (true, X, I, J))) rfl ?_
      refine z_ev_ifc (fun e3 => ?_) (fun e3 => ?_)
      · have h16 := h19.1 e3
        refine z_ev_gs 1 (c1 := (98, 41, [some (z_r 0 0), some (z_i (x1)), some (z_i (x2)), some (z_i (x3)), none, none, none], [z_j (-1000000000000)], (true, X, I, J))) rfl ?_
        rw [h16]
        exact z_ev_rt rfl
      · have h17 := h19.2 e3
        refine z_ev_gs 4 (c1 := (98, 30, [some (z_r 0 0), some (z_i (x1)), some (z_i (x2)), some (z_i (x3)), none, none, none], [z_i (x2), z_r 2 0], (true, X, I, J))) rfl ?_
        obtain ⟨k4, e5, e6, h7⟩ := h17
        refine z_ev_nt0 (k := k4) rfl e5 e6 ?_
        refine z_ev_gi (c1 := (98, 34, [some (z_r 0 0), some (z_i (x1)), some (z_i (x2)), some (z_i (x3)), none, none, none], [z_i (I 13 k4 1)], (true, X, I, J))) rfl (z_lt40 e6) ?_
        refine z_ev_gs 2 (c1 := (98, (if (3 : Int32) ≤ (I 13 k4 1) then 42 else 38), [some (z_r 0 0), some (z_i (x1)), some (z_i (x2)), some (z_i (x3)), none, none, none], [], (true, X, I, J))) rfl ?_
        refine z_ev_ifle (fun e8 => ?_) (fun e8 => ?_)
        · have h14 := h7.1 e8
          refine z_ev_gs 6 (c1 := (98, 54, [some (z_r 0 0), some (z_i (x1)), some (z_i (x2)), some (z_i (x3)), none, none, none], [z_i (x2), z_r 2 0, z_r 24 0], (true, X, I, J))) rfl ?_
          refine z_ev_nt0 (k := k4) rfl e5 (Nat.lt_of_lt_of_le e6 (by decide)) ?_
          refine z_ev_gs 1 (c1 := (98, 56, [some (z_r 0 0), some (z_i (x1)), some (z_i (x2)), some (z_i (x3)), none, none, none], [z_i 3, z_r 13 k4, z_r 24 0], (true, X, I, J))) rfl ?_
          obtain ⟨X9, I10, J11, g12, h13⟩ := h14
          refine z_ev_ca rfl rfl g12 ?_
          refine z_ev_gs 4 (c1 := (98, 65, [some (z_r 0 0), some (z_i (x1)), some (z_i (x2)), some (z_i (x3)), some (z_j 0), none, some (z_i 0)], [], (true, X9, I10, J11))) rfl ?_
          exact h13
        · have h15 := h7.2 e8
          refine z_ev_gs 1 (c1 := (98, 41, [some (z_r 0 0), some (z_i (x1)), some (z_i (x2)), some (z_i (x3)), none, none, none], [z_j (-1000000000000)], (true, X, I, J))) rfl ?_
          rw [h15]
          exact z_ev_rt rfl
theorem z_q98_65 {d : Nat} {r : Option z_V × z_M} {X : z_X} {I : Nat → Nat → Nat → Int32} {J : Nat → Nat → Nat → Int64} (x1 : Int32) (x2 : Int32) (x3 : Int32) (l4 : Int64) (x6 : Int32)
    (h : (((4 : Int32) ≤ x6 → (∃ k23 : Nat, x2 = Int32.ofNat k23 ∧ k23 < 4 ∧ (∃ (v32 : Int32) (X27 : z_X) (I28 : Nat → Nat → Nat → Int32) (J29 : Nat → Nat → Nat → Int64), z_ev (d + 15) (z_en 130 [z_i (I 13 k23 1), z_i 3] (true, X, I, J)) (some (z_i (v32)), (true, X27, I28, J29)) ∧ (∃ (v38 : Int64) (X33 : z_X) (I34 : Nat → Nat → Nat → Int32) (J35 : Nat → Nat → Nat → Int64), z_ev (d + 15) (z_en 131 [z_j (l4), z_j ((3 : Int64) * v32.toInt64), z_i (x3)] (true, X27, I28, J29)) (some (z_j (v38)), (true, X33, I34, J35)) ∧ r = (some (z_j (v38)), (true, X33, I34, J35)))))) ∧ (x6 < (4 : Int32) → (∃ k39 : Nat, x1 = Int32.ofNat k39 ∧ k39 < 6 ∧ ∃ q43 : Nat, X.2.2.2 11 0 k39 = some (32, q43) ∧ (∃ (v51 : Int32) (X46 : z_X) (I47 : Nat → Nat → Nat → Int32) (J48 : Nat → Nat → Nat → Int64), z_ev (d + 15) (z_en 148 [z_r 32 q43, z_i (x6)] (true, X, I, J)) (some (z_i (v51)), (true, X46, I47, J48)) ∧ (∃ k52 : Nat, x6 = Int32.ofNat k52 ∧ k52 < 11 ∧ z_ev (d + 16) (98, 65, [some (z_r 0 0), some (z_i (x1)), some (z_i (x2)), some (z_i (x3)), some (z_j (l4 + (v51.toInt64 * ((I47 25 0 k52).toInt64)))), none, some (z_i (x6 + (1 : Int32)))], [], (true, X46, I47, J48)) r)))))) :
    z_ev (d + 16) ((98, 65, [some (z_r 0 0), some (z_i (x1)), some (z_i (x2)), some (z_i (x3)), some (z_j (l4)), none, some (z_i (x6))], [], (true, X, I, J))) r := by
  refine z_ev_gs 3 (c1 := (98, (if (4 : Int32) ≤ x6 then 109 else 71), [some (z_r 0 0), some (z_i (x1)), some (z_i (x2)), some (z_i (x3)), some (z_j (l4)), none, some (z_i (x6))], [], (true, X, I, J))) rfl ?_
  refine z_ev_ifle (fun e22 => ?_) (fun e22 => ?_)
  · have h56 := h.1 e22
    refine z_ev_gs 6 (c1 := (98, 122, [some (z_r 0 0), some (z_i (x1)), some (z_i (x2)), some (z_i (x3)), some (z_j (l4)), none, some (z_i (x6))], [z_i (x2), z_r 2 0, z_j 3, z_j (l4)], (true, X, I, J))) rfl ?_
    obtain ⟨k23, e24, e25, h26⟩ := h56
    refine z_ev_nt0 (k := k23) rfl e24 e25 ?_
    refine z_ev_gi (c1 := (98, 126, [some (z_r 0 0), some (z_i (x1)), some (z_i (x2)), some (z_i (x3)), some (z_j (l4)), none, some (z_i (x6))], [z_i (I 13 k23 1), z_j 3, z_j (l4)], (true, X, I, J))) rfl (z_lt40 e25) ?_
    refine z_ev_gs 1 (c1 := (98, 127, [some (z_r 0 0), some (z_i (x1)), some (z_i (x2)), some (z_i (x3)), some (z_j (l4)), none, some (z_i (x6))], [z_i 3, z_i (I 13 k23 1), z_j 3, z_j (l4)], (true, X, I, J))) rfl ?_
    obtain ⟨v32, X27, I28, J29, g30, h31⟩ := h26
    refine z_ev_ca rfl rfl g30 ?_
    refine z_ev_gs 3 (c1 := (98, 133, [some (z_r 0 0), some (z_i (x1)), some (z_i (x2)), some (z_i (x3)), some (z_j (l4)), none, some (z_i (x6))], [z_i (x3), z_j ((3 : Int64) * v32.toInt64), z_j (l4)], (true, X27, I28, J29))) rfl ?_
    obtain ⟨v38, X33, I34, J35, g36, h37⟩ := h31
    refine z_ev_ca rfl rfl g36 ?_
    rw [h37]
    exact z_ev_rt rfl
  · have h57 := h.2 e22
    refine z_ev_gs 5 (c1 := (98, 81, [some (z_r 0 0), some (z_i (x1)), some (z_i (x2)), some (z_i (x3)), some (z_j (l4)), none, some (z_i (x6))], [z_i (x1), z_r 11 0, z_j (l4)], (true, X, I, J))) rfl ?_
    obtain ⟨k39, e40, e41, h42⟩ := h57
    obtain ⟨q43, g44, h45⟩ := h42
    refine z_ev_so (k := k39) rfl rfl e40 e41 g44 ?_
    refine z_ev_gs 1 (c1 := (98, 84, [some (z_r 0 0), some (z_i (x1)), some (z_i (x2)), some (z_i (x3)), some (z_j (l4)), none, some (z_i (x6))], [z_i (x6), z_r 32 q43, z_j (l4)], (true, X, I, J))) rfl ?_
    obtain ⟨v51, X46, I47, J48, g49, h50⟩ := h45
    refine z_ev_ca rfl rfl g49 ?_
    refine z_ev_gs 5 (c1 := (98, 97, [some (z_r 0 0), some (z_i (x1)), some (z_i (x2)), some (z_i (x3)), some (z_j (l4)), none, some (z_i (x6))], [z_i (x6), z_r 25 0, z_j (v51.toInt64), z_j (l4)], (true, X46, I47, J48))) rfl ?_
    obtain ⟨k52, e53, e54, h55⟩ := h50
    refine z_ev_iald (t := 25) (i := 0) (k := k52) (n := 11) rfl rfl e53 e54 (by decide) ?_
    refine z_ev_gs 6 (c1 := (98, 65, [some (z_r 0 0), some (z_i (x1)), some (z_i (x2)), some (z_i (x3)), some (z_j (l4 + (v51.toInt64 * ((I47 25 0 k52).toInt64)))), none, some (z_i (x6 + (1 : Int32)))], [], (true, X46, I47, J48))) rfl ?_
    exact h55
theorem z_q235_e {d : Nat} {r : Option z_V × z_M} {X : z_X} {I : Nat → Nat → Nat → Int32} {J : Nat → Nat → Nat → Int64} (x1 : Int32) (x2 : Int32) (x3 : Int32)
    (h : (((z_bw x1 0 ((I 33 0 8) - 1)) = false → r = (some (z_j (-1000000000000)), (true, X, I, J))) ∧ ((z_bw x1 0 ((I 33 0 8) - 1)) = true → (((z_bw x2 0 3) = false → r = (some (z_j (-1000000000000)), (true, X, I, J))) ∧ ((z_bw x2 0 3) = true → (((z_bw x3 0 1) = false → r = (some (z_j (-1000000000000)), (true, X, I, J))) ∧ ((z_bw x3 0 1) = true → (∃ k4 : Nat, x2 = Int32.ofNat k4 ∧ k4 < 4 ∧ (((3 : Int32) ≤ (I 34 0 k4) → z_ev (d + 6) (235, 42, [some (z_r 33 0), some (z_i (x1)), some (z_i (x2)), some (z_i (x3)), some (z_j 0), none, some (z_i 0)], [], (true, X, I, J)) r) ∧ ((I 34 0 k4) < (3 : Int32) → r = (some (z_j (-1000000000000)), (true, X, I, J)))))))))))) :
    z_ev (d + 6) (z_en 235 [z_r 33 0, z_i (x1), z_i (x2), z_i (x3)] (true, X, I, J)) r := by
  show z_ev (d + 6) (235, 0, [some (z_r 33 0), some (z_i (x1)), some (z_i (x2)), some (z_i (x3)), none, none, none], [], (true, X, I, J)) r
  refine z_ev_gs 2 (c1 := (235, 2, [some (z_r 33 0), some (z_i (x1)), some (z_i (x2)), some (z_i (x3)), none, none, none], [z_i (x1), z_r 33 0], (true, X, I, J))) rfl ?_
  refine z_ev_ca rfl rfl (z_p228 _) ?_
  refine z_ev_gs 1 (c1 := (235, (if z_c (z_bw x1 0 ((I 33 0 8) - 1)) = 0 then 32 else 8), [some (z_r 33 0), some (z_i (x1)), some (z_i (x2)), some (z_i (x3)), none, none, none], [], (true, X, I, J))) rfl ?_
  refine z_ev_ifc (fun e1 => ?_) (fun e1 => ?_)
  · have h15 := h.1 e1
    refine z_ev_gs 1 (c1 := (235, 35, [some (z_r 33 0), some (z_i (x1)), some (z_i (x2)), some (z_i (x3)), none, none, none], [z_j (-1000000000000)], (true, X, I, J))) rfl ?_
    rw [h15]
    exact z_ev_rt rfl
  · have h16 := h.2 e1
    refine z_ev_gs 1 (c1 := (235, 9, [some (z_r 33 0), some (z_i (x1)), some (z_i (x2)), some (z_i (x3)), none, none, none], [z_i (x2)], (true, X, I, J))) rfl ?_
    refine z_ev_ca rfl rfl (z_p162 _) ?_
    refine z_ev_gs 1 (c1 := (235, (if z_c (z_bw x2 0 3) = 0 then 32 else 15), [some (z_r 33 0), some (z_i (x1)), some (z_i (x2)), some (z_i (x3)), none, none, none], [], (true, X, I, J))) rfl ?_
    refine z_ev_ifc (fun e2 => ?_) (fun e2 => ?_)
    · have h13 := h16.1 e2
      refine z_ev_gs 1 (c1 := (235, 35, [some (z_r 33 0), some (z_i (x1)), some (z_i (x2)), some (z_i (x3)), none, none, none], [z_j (-1000000000000)], (true, X, I, J))) rfl ?_
      rw [h13]
      exact z_ev_rt rfl
    · have h14 := h16.2 e2
      refine z_ev_gs 1 (c1 := (235, 16, [some (z_r 33 0), some (z_i (x1)), some (z_i (x2)), some (z_i (x3)), none, none, none], [z_i (x3)], (true, X, I, J))) rfl ?_
      refine z_ev_ca rfl rfl (z_p163 _) ?_
      refine z_ev_gs 1 (c1 := (235, (if z_c (z_bw x3 0 1) = 0 then 32 else 22), [some (z_r 33 0), some (z_i (x1)), some (z_i (x2)), some (z_i (x3)), none, none, none], [], (true, X, I, J))) rfl ?_
      refine z_ev_ifc (fun e3 => ?_) (fun e3 => ?_)
      · have h11 := h14.1 e3
        refine z_ev_gs 1 (c1 := (235, 35, [some (z_r 33 0), some (z_i (x1)), some (z_i (x2)), some (z_i (x3)), none, none, none], [z_j (-1000000000000)], (true, X, I, J))) rfl ?_
        rw [h11]
        exact z_ev_rt rfl
      · have h12 := h14.2 e3
        refine z_ev_gs 3 (c1 := (235, 27, [some (z_r 33 0), some (z_i (x1)), some (z_i (x2)), some (z_i (x3)), none, none, none], [z_i (x2), z_r 34 0], (true, X, I, J))) rfl ?_
        obtain ⟨k4, e5, e6, h7⟩ := h12
        refine z_ev_iald (t := 34) (i := 0) (k := k4) (n := 4) rfl rfl e5 e6 (by decide) ?_
        refine z_ev_gs 2 (c1 := (235, (if (3 : Int32) ≤ (I 34 0 k4) then 36 else 32), [some (z_r 33 0), some (z_i (x1)), some (z_i (x2)), some (z_i (x3)), none, none, none], [], (true, X, I, J))) rfl ?_
        refine z_ev_ifle (fun e8 => ?_) (fun e8 => ?_)
        · have h9 := h7.1 e8
          refine z_ev_gs 4 (c1 := (235, 42, [some (z_r 33 0), some (z_i (x1)), some (z_i (x2)), some (z_i (x3)), some (z_j 0), none, some (z_i 0)], [], (true, X, I, J))) rfl ?_
          exact h9
        · have h10 := h7.2 e8
          refine z_ev_gs 1 (c1 := (235, 35, [some (z_r 33 0), some (z_i (x1)), some (z_i (x2)), some (z_i (x3)), none, none, none], [z_j (-1000000000000)], (true, X, I, J))) rfl ?_
          rw [h10]
          exact z_ev_rt rfl
theorem z_q235_42 {d : Nat} {r : Option z_V × z_M} {X : z_X} {I : Nat → Nat → Nat → Int32} {J : Nat → Nat → Nat → Int64} (x1 : Int32) (x2 : Int32) (x3 : Int32) (l4 : Int64) (x6 : Int32)
    (h : (((4 : Int32) ≤ x6 → (∃ k18 : Nat, x2 = Int32.ofNat k18 ∧ k18 < 4 ∧ (∃ (v27 : Int32) (X22 : z_X) (I23 : Nat → Nat → Nat → Int32) (J24 : Nat → Nat → Nat → Int64), z_ev (d + 5) (z_en 195 [z_i (I 34 0 k18), z_i 3] (true, X, I, J)) (some (z_i (v27)), (true, X22, I23, J24)) ∧ (∃ (X28 : z_X) (I29 : Nat → Nat → Nat → Int32) (J30 : Nat → Nat → Nat → Int64), z_ev (d + 5) (z_en 198 [z_r 33 0, z_j (l4), z_j ((3 : Int64) * v27.toInt64)] (true, X22, I23, J24)) (none, (true, X28, I29, J30)) ∧ (∃ (v38 : Int64) (X33 : z_X) (I34 : Nat → Nat → Nat → Int32) (J35 : Nat → Nat → Nat → Int64), z_ev (d + 5) (z_en 199 [z_r 33 0, z_i (x3)] (true, X28, I29, J30)) (some (z_j (v38)), (true, X33, I34, J35)) ∧ r = (some (z_j (v38)), (true, X33, I34, J35))))))) ∧ (x6 < (4 : Int32) → (∃ (v44 : Int32) (X39 : z_X) (I40 : Nat → Nat → Nat → Int32) (J41 : Nat → Nat → Nat → Int64), z_ev (d + 5) (z_en 233 [z_r 33 0, z_i (x1), z_i (x6)] (true, X, I, J)) (some (z_i (v44)), (true, X39, I40, J41)) ∧ (∃ k45 : Nat, ((33 : Int32) + x6) = Int32.ofNat k45 ∧ k45 < 55 ∧ (∃ (v54 : Int32) (X49 : z_X) (I50 : Nat → Nat → Nat → Int32) (J51 : Nat → Nat → Nat → Int64), z_ev (d + 5) (z_en 196 [z_r 33 0, z_i (x2), z_i 3, z_i (I40 41 0 k45)] (true, X39, I40, J41)) (some (z_i (v54)), (true, X49, I50, J51)) ∧ z_ev (d + 6) (235, 42, [some (z_r 33 0), some (z_i (x1)), some (z_i (x2)), some (z_i (x3)), some (z_j (l4 + (v44.toInt64 * v54.toInt64))), none, some (z_i (x6 + (1 : Int32)))], [], (true, X49, I50, J51)) r)))))) :
    z_ev (d + 6) ((235, 42, [some (z_r 33 0), some (z_i (x1)), some (z_i (x2)), some (z_i (x3)), some (z_j (l4)), none, some (z_i (x6))], [], (true, X, I, J))) r := by
  refine z_ev_gs 3 (c1 := (235, (if (4 : Int32) ≤ x6 then 85 else 48), [some (z_r 33 0), some (z_i (x1)), some (z_i (x2)), some (z_i (x3)), some (z_j (l4)), none, some (z_i (x6))], [], (true, X, I, J))) rfl ?_
  refine z_ev_ifle (fun e17 => ?_) (fun e17 => ?_)
  · have h55 := h.1 e17
    refine z_ev_gs 6 (c1 := (235, 96, [some (z_r 33 0), some (z_i (x1)), some (z_i (x2)), some (z_i (x3)), some (z_j (l4)), none, some (z_i (x6))], [z_i (x2), z_r 34 0, z_j 3, z_j (l4), z_r 33 0], (true, X, I, J))) rfl ?_
    obtain ⟨k18, e19, e20, h21⟩ := h55
    refine z_ev_iald (t := 34) (i := 0) (k := k18) (n := 4) rfl rfl e19 e20 (by decide) ?_
    refine z_ev_gs 1 (c1 := (235, 98, [some (z_r 33 0), some (z_i (x1)), some (z_i (x2)), some (z_i (x3)), some (z_j (l4)), none, some (z_i (x6))], [z_i 3, z_i (I 34 0 k18), z_j 3, z_j (l4), z_r 33 0], (true, X, I, J))) rfl ?_
    obtain ⟨v27, X22, I23, J24, g25, h26⟩ := h21
    refine z_ev_ca rfl rfl g25 ?_
    refine z_ev_gs 2 (c1 := (235, 103, [some (z_r 33 0), some (z_i (x1)), some (z_i (x2)), some (z_i (x3)), some (z_j (l4)), none, some (z_i (x6))], [z_j ((3 : Int64) * v27.toInt64), z_j (l4), z_r 33 0], (true, X22, I23, J24))) rfl ?_
    obtain ⟨X28, I29, J30, g31, h32⟩ := h26
    refine z_ev_ca rfl rfl g31 ?_
    refine z_ev_gs 2 (c1 := (235, 108, [some (z_r 33 0), some (z_i (x1)), some (z_i (x2)), some (z_i (x3)), some (z_j (l4)), none, some (z_i (x6))], [z_i (x3), z_r 33 0], (true, X28, I29, J30))) rfl ?_
    obtain ⟨v38, X33, I34, J35, g36, h37⟩ := h32
    refine z_ev_ca rfl rfl g36 ?_
    rw [h37]
    exact z_ev_rt rfl
  · have h56 := h.2 e17
    refine z_ev_gs 4 (c1 := (235, 54, [some (z_r 33 0), some (z_i (x1)), some (z_i (x2)), some (z_i (x3)), some (z_j (l4)), none, some (z_i (x6))], [z_i (x6), z_i (x1), z_r 33 0, z_j (l4)], (true, X, I, J))) rfl ?_
    obtain ⟨v44, X39, I40, J41, g42, h43⟩ := h56
    refine z_ev_ca rfl rfl g42 ?_
    refine z_ev_gs 9 (c1 := (235, 70, [some (z_r 33 0), some (z_i (x1)), some (z_i (x2)), some (z_i (x3)), some (z_j (l4)), none, some (z_i (x6))], [z_i ((33 : Int32) + x6), z_r 41 0, z_i 3, z_i (x2), z_r 33 0, z_j (v44.toInt64), z_j (l4)], (true, X39, I40, J41))) rfl ?_
    obtain ⟨k45, e46, e47, h48⟩ := h43
    refine z_ev_iald (t := 41) (i := 0) (k := k45) (n := 55) rfl rfl e46 e47 (by decide) ?_
    obtain ⟨v54, X49, I50, J51, g52, h53⟩ := h48
    refine z_ev_ca rfl rfl g52 ?_
    refine z_ev_gs 6 (c1 := (235, 42, [some (z_r 33 0), some (z_i (x1)), some (z_i (x2)), some (z_i (x3)), some (z_j (l4 + (v44.toInt64 * v54.toInt64))), none, some (z_i (x6 + (1 : Int32)))], [], (true, X49, I50, J51))) rfl ?_
    exact h53
theorem z_q152_e {d : Nat} {r : Option z_V × z_M} {X : z_X} {I : Nat → Nat → Nat → Int32} {J : Nat → Nat → Nat → Int64} (x1 : Int32) (x2 : Int32) (x3 : Int32)
    (h : (∃ (v6 : Int32) (X1 : z_X) (I2 : Nat → Nat → Nat → Int32) (J3 : Nat → Nat → Nat → Int64), z_ev (d + 1) (z_en 149 [z_i (x1), z_i (x2), z_i (x3)] (true, X, I, J)) (some (z_i (v6)), (true, X1, I2, J3)) ∧ z_ev (d + 2) (152, 14, [some (z_r 0 0), some (z_i (x1)), some (z_i (x2)), some (z_i (x3)), some (z_i ((12 : Int32) * v6)), some (z_i 0)], [], (true, X1, I2, J3)) r)) :
    z_ev (d + 2) (z_en 152 [z_r 0 0, z_i (x1), z_i (x2), z_i (x3)] (true, X, I, J)) r := by
  show z_ev (d + 2) (152, 0, [some (z_r 0 0), some (z_i (x1)), some (z_i (x2)), some (z_i (x3)), none, none], [], (true, X, I, J)) r
  refine z_ev_gs 4 (c1 := (152, 5, [some (z_r 0 0), some (z_i (x1)), some (z_i (x2)), some (z_i (x3)), none, none], [z_i (x3), z_i (x2), z_i (x1), z_i 12], (true, X, I, J))) rfl ?_
  obtain ⟨v6, X1, I2, J3, g4, h5⟩ := h
  refine z_ev_ca rfl rfl g4 ?_
  refine z_ev_gs 4 (c1 := (152, 14, [some (z_r 0 0), some (z_i (x1)), some (z_i (x2)), some (z_i (x3)), some (z_i ((12 : Int32) * v6)), some (z_i 0)], [], (true, X1, I2, J3))) rfl ?_
  exact h5
theorem z_q152_14 {d : Nat} {r : Option z_V × z_M} {X : z_X} {I : Nat → Nat → Nat → Int32} {J : Nat → Nat → Nat → Int64} (x1 : Int32) (x2 : Int32) (x3 : Int32) (x4 : Int32) (x5 : Int32)
    (h : (((I 1 0 5) ≤ x5 → r = (some (z_i (x4)), (true, X, I, J))) ∧ (x5 < (I 1 0 5) → (∃ k8 : Nat, x5 = Int32.ofNat k8 ∧ k8 < 6 ∧ ∃ q12 : Nat, X.2.2.2 11 0 k8 = some (32, q12) ∧ (q12 < X.1 ∧ ((¬ (I 32 q12 0) = (2 : Int32) → z_ev (d + 2) (152, 14, [some (z_r 0 0), some (z_i (x1)), some (z_i (x2)), some (z_i (x3)), some (z_i (x4)), some (z_i (x5 + (1 : Int32)))], [], (true, X, I, J)) r) ∧ ((I 32 q12 0) = (2 : Int32) → (∃ q18 : Nat, X.2.2.2 11 0 k8 = some (32, q18) ∧ (∃ (v26 : Int32) (X21 : z_X) (I22 : Nat → Nat → Nat → Int32) (J23 : Nat → Nat → Nat → Int64), z_ev (d + 1) (z_en 148 [z_r 32 q18, z_i (x3)] (true, X, I, J)) (some (z_i (v26)), (true, X21, I22, J23)) ∧ z_ev (d + 2) (152, 14, [some (z_r 0 0), some (z_i (x1)), some (z_i (x2)), some (z_i (x3)), some (z_i (x4 + ((I 12 0 k8) * v26))), some (z_i (x5 + (1 : Int32)))], [], (true, X21, I22, J23)) r))))))))) :
    z_ev (d + 2) ((152, 14, [some (z_r 0 0), some (z_i (x1)), some (z_i (x2)), some (z_i (x3)), some (z_i (x4)), some (z_i (x5))], [], (true, X, I, J))) r := by
  refine z_ev_gs 5 (c1 := (152, (if (I 1 0 5) ≤ x5 then 79 else 26), [some (z_r 0 0), some (z_i (x1)), some (z_i (x2)), some (z_i (x3)), some (z_i (x4)), some (z_i (x5))], [], (true, X, I, J))) rfl ?_
  refine z_ev_ifle (fun e7 => ?_) (fun e7 => ?_)
  · have h29 := h.1 e7
    refine z_ev_gs 1 (c1 := (152, 81, [some (z_r 0 0), some (z_i (x1)), some (z_i (x2)), some (z_i (x3)), some (z_i (x4)), some (z_i (x5))], [z_i (x4)], (true, X, I, J))) rfl ?_
    rw [h29]
    exact z_ev_rt rfl
  · have h30 := h.2 e7
    refine z_ev_gs 4 (c1 := (152, 35, [some (z_r 0 0), some (z_i (x1)), some (z_i (x2)), some (z_i (x3)), some (z_i (x4)), some (z_i (x5))], [z_i (x5), z_r 11 0], (true, X, I, J))) rfl ?_
    obtain ⟨k8, e9, e10, h11⟩ := h30
    obtain ⟨q12, g13, h14⟩ := h11
    refine z_ev_so (k := k8) rfl rfl e9 e10 g13 ?_
    obtain ⟨g15, h16⟩ := h14
    refine z_ev_gi (c1 := (152, 39, [some (z_r 0 0), some (z_i (x1)), some (z_i (x2)), some (z_i (x3)), some (z_i (x4)), some (z_i (x5))], [z_i (I 32 q12 0)], (true, X, I, J))) rfl g15 ?_
    refine z_ev_gs 2 (c1 := (152, (if ¬ (I 32 q12 0) = (2 : Int32) then 73 else 43), [some (z_r 0 0), some (z_i (x1)), some (z_i (x2)), some (z_i (x3)), some (z_i (x4)), some (z_i (x5))], [], (true, X, I, J))) rfl ?_
    refine z_ev_ifn (fun e17 => ?_) (fun e17 => ?_)
    · have h27 := h16.1 e17
      refine z_ev_gs 2 (c1 := (152, 14, [some (z_r 0 0), some (z_i (x1)), some (z_i (x2)), some (z_i (x3)), some (z_i (x4)), some (z_i (x5 + (1 : Int32)))], [], (true, X, I, J))) rfl ?_
      exact h27
    · have h28 := h16.2 e17
      refine z_ev_gs 5 (c1 := (152, 54, [some (z_r 0 0), some (z_i (x1)), some (z_i (x2)), some (z_i (x3)), some (z_i (x4)), some (z_i (x5))], [z_i (x5), z_r 12 0, z_i (x4)], (true, X, I, J))) rfl ?_
      refine z_ev_iald (t := 12) (i := 0) (k := k8) (n := 6) rfl rfl e9 (Nat.lt_of_lt_of_le e10 (by decide)) (by decide) ?_
      refine z_ev_gs 4 (c1 := (152, 64, [some (z_r 0 0), some (z_i (x1)), some (z_i (x2)), some (z_i (x3)), some (z_i (x4)), some (z_i (x5))], [z_i (x5), z_r 11 0, z_i (I 12 0 k8), z_i (x4)], (true, X, I, J))) rfl ?_
      obtain ⟨q18, g19, h20⟩ := h28
      refine z_ev_so (k := k8) rfl rfl e9 (Nat.lt_of_lt_of_le e10 (by decide)) g19 ?_
      refine z_ev_gs 1 (c1 := (152, 66, [some (z_r 0 0), some (z_i (x1)), some (z_i (x2)), some (z_i (x3)), some (z_i (x4)), some (z_i (x5))], [z_i (x3), z_r 32 q18, z_i (I 12 0 k8), z_i (x4)], (true, X, I, J))) rfl ?_
      obtain ⟨v26, X21, I22, J23, g24, h25⟩ := h20
      refine z_ev_ca rfl rfl g24 ?_
      refine z_ev_gs 5 (c1 := (152, 14, [some (z_r 0 0), some (z_i (x1)), some (z_i (x2)), some (z_i (x3)), some (z_i (x4 + ((I 12 0 k8) * v26))), some (z_i (x5 + (1 : Int32)))], [], (true, X21, I22, J23))) rfl ?_
      exact h25
theorem z_q153_e {d : Nat} {r : Option z_V × z_M} {X : z_X} {I : Nat → Nat → Nat → Int32} {J : Nat → Nat → Nat → Int64} (x1 : Int32) (x2 : Int32) (x3 : Int32)
    (h : z_ev (d + 3) (153, 8, [some (z_r 0 0), some (z_i (x1)), some (z_i (x2)), some (z_i (x3)), some (z_i (-2147483648)), some (z_i 0)], [], (true, X, I, J)) r) :
    z_ev (d + 3) (z_en 153 [z_r 0 0, z_i (x1), z_i (x2), z_i (x3)] (true, X, I, J)) r := by
  show z_ev (d + 3) (153, 0, [some (z_r 0 0), some (z_i (x1)), some (z_i (x2)), some (z_i (x3)), none, none], [], (true, X, I, J)) r
  refine z_ev_gs 4 (c1 := (153, 8, [some (z_r 0 0), some (z_i (x1)), some (z_i (x2)), some (z_i (x3)), some (z_i (-2147483648)), some (z_i 0)], [], (true, X, I, J))) rfl ?_
  exact h
theorem z_q153_8 {d : Nat} {r : Option z_V × z_M} {X : z_X} {I : Nat → Nat → Nat → Int32} {J : Nat → Nat → Nat → Int64} (x1 : Int32) (x2 : Int32) (x3 : Int32) (x4 : Int32) (x5 : Int32)
    (h : (((4 : Int32) ≤ x5 → r = (some (z_i (x4)), (true, X, I, J))) ∧ (x5 < (4 : Int32) → ((((x3 >>> (x5 &&& 31)) &&& (1 : Int32)) = 0 → z_ev (d + 3) (153, 8, [some (z_r 0 0), some (z_i (x1)), some (z_i (x2)), some (z_i (x3)), some (z_i (x4)), some (z_i (x5 + (1 : Int32)))], [], (true, X, I, J)) r) ∧ (¬ ((x3 >>> (x5 &&& 31)) &&& (1 : Int32)) = 0 → (∃ (v8 : Int32) (X3 : z_X) (I4 : Nat → Nat → Nat → Int32) (J5 : Nat → Nat → Nat → Int64), z_ev (d + 2) (z_en 152 [z_r 0 0, z_i (x1), z_i (x2), z_i (x5)] (true, X, I, J)) (some (z_i (v8)), (true, X3, I4, J5)) ∧ z_ev (d + 3) (153, 8, [some (z_r 0 0), some (z_i (x1)), some (z_i (x2)), some (z_i (x3)), some (z_i (if x4 < v8 then v8 else x4)), some (z_i (x5 + (1 : Int32)))], [], (true, X3, I4, J5)) r)))))) :
    z_ev (d + 3) ((153, 8, [some (z_r 0 0), some (z_i (x1)), some (z_i (x2)), some (z_i (x3)), some (z_i (x4)), some (z_i (x5))], [], (true, X, I, J))) r := by
  refine z_ev_gs 3 (c1 := (153, (if (4 : Int32) ≤ x5 then 44 else 14), [some (z_r 0 0), some (z_i (x1)), some (z_i (x2)), some (z_i (x3)), some (z_i (x4)), some (z_i (x5))], [], (true, X, I, J))) rfl ?_
  refine z_ev_ifle (fun e1 => ?_) (fun e1 => ?_)
  · have h11 := h.1 e1
    refine z_ev_gs 1 (c1 := (153, 46, [some (z_r 0 0), some (z_i (x1)), some (z_i (x2)), some (z_i (x3)), some (z_i (x4)), some (z_i (x5))], [z_i (x4)], (true, X, I, J))) rfl ?_
    rw [h11]
    exact z_ev_rt rfl
  · have h12 := h.2 e1
    refine z_ev_gs 6 (c1 := (153, (if ((x3 >>> (x5 &&& 31)) &&& (1 : Int32)) = 0 then 38 else 23), [some (z_r 0 0), some (z_i (x1)), some (z_i (x2)), some (z_i (x3)), some (z_i (x4)), some (z_i (x5))], [], (true, X, I, J))) rfl ?_
    refine z_ev_if (fun e2 => ?_) (fun e2 => ?_)
    · have h9 := h12.1 e2
      refine z_ev_gs 2 (c1 := (153, 8, [some (z_r 0 0), some (z_i (x1)), some (z_i (x2)), some (z_i (x3)), some (z_i (x4)), some (z_i (x5 + (1 : Int32)))], [], (true, X, I, J))) rfl ?_
      exact h9
    · have h10 := h12.2 e2
      refine z_ev_gs 5 (c1 := (153, 30, [some (z_r 0 0), some (z_i (x1)), some (z_i (x2)), some (z_i (x3)), some (z_i (x4)), some (z_i (x5))], [z_i (x5), z_i (x2), z_i (x1), z_r 0 0, z_i (x4)], (true, X, I, J))) rfl ?_
      obtain ⟨v8, X3, I4, J5, g6, h7⟩ := h10
      refine z_ev_ca rfl rfl g6 ?_
      refine z_ev_st (c1 := (153, 36, [some (z_r 0 0), some (z_i (x1)), some (z_i (x2)), some (z_i (x3)), some (z_i (x4)), some (z_i (x5))], [z_i (if x4 < v8 then v8 else x4)], (true, X3, I4, J5))) rfl ?_
      refine z_ev_gs 3 (c1 := (153, 8, [some (z_r 0 0), some (z_i (x1)), some (z_i (x2)), some (z_i (x3)), some (z_i (if x4 < v8 then v8 else x4)), some (z_i (x5 + (1 : Int32)))], [], (true, X3, I4, J5))) rfl ?_
      exact h7
theorem z_q100_e {d : Nat} {r : Option z_V × z_M} {X : z_X} {I : Nat → Nat → Nat → Int32} {J : Nat → Nat → Nat → Int64} (x1 : Int32) (x2 : Int32) (x3 : Int32)
    (h : (∃ (b6 : Bool) (X1 : z_X) (I2 : Nat → Nat → Nat → Int32) (J3 : Nat → Nat → Nat → Int64), z_ev (d + 17) (z_en 129 [z_i (x1), z_i (x2)] (true, X, I, J)) (some (z_i (z_c b6)), (true, X1, I2, J3)) ∧ ((b6 = false → r = (some (z_j (-1000000000000)), (true, X1, I2, J3))) ∧ (b6 = true → (((z_bw x3 0 1) = true → (∃ (v14 : Int32) (X9 : z_X) (I10 : Nat → Nat → Nat → Int32) (J11 : Nat → Nat → Nat → Int64), z_ev (d + 17) (z_en 139 [z_r 0 0, z_i 3] (true, X1, I2, J3)) (some (z_i (v14)), (true, X9, I10, J11)) ∧ ((¬ v14 = 0 → (∃ (v21 : Int32) (X16 : z_X) (I17 : Nat → Nat → Nat → Int32) (J18 : Nat → Nat → Nat → Int64), z_ev (d + 17) (z_en 153 [z_r 0 0, z_i (x1), z_i (x2), z_i (v14)] (true, X9, I10, J11)) (some (z_i (v21)), (true, X16, I17, J18)) ∧ (∃ (v27 : Int64) (X22 : z_X) (I23 : Nat → Nat → Nat → Int32) (J24 : Nat → Nat → Nat → Int64), z_ev (d + 17) (z_en 131 [z_j (v21.toInt64), z_j 36, z_i (x3)] (true, X16, I17, J18)) (some (z_j (v27)), (true, X22, I23, J24)) ∧ r = (some (z_j (v27)), (true, X22, I23, J24))))) ∧ (v14 = 0 → r = (some (z_j (-1000000000000)), (true, X9, I10, J11)))))) ∧ ((z_bw x3 0 1) = false → r = (some (z_j (-1000000000000)), (true, X1, I2, J3)))))))) :
    z_ev (d + 18) (z_en 100 [z_r 0 0, z_i (x1), z_i (x2), z_i (x3)] (true, X, I, J)) r := by
  show z_ev (d + 18) (100, 0, [some (z_r 0 0), some (z_i (x1)), some (z_i (x2)), some (z_i (x3)), none], [], (true, X, I, J)) r
  refine z_ev_gs 2 (c1 := (100, 2, [some (z_r 0 0), some (z_i (x1)), some (z_i (x2)), some (z_i (x3)), none], [z_i (x2), z_i (x1)], (true, X, I, J))) rfl ?_
  obtain ⟨b6, X1, I2, J3, g4, h5⟩ := h
  refine z_ev_ca rfl rfl g4 ?_
  refine z_ev_gs 1 (c1 := (100, (if z_c b6 = 0 then 15 else 8), [some (z_r 0 0), some (z_i (x1)), some (z_i (x2)), some (z_i (x3)), none], [], (true, X1, I2, J3))) rfl ?_
  refine z_ev_ifc (fun e7 => ?_) (fun e7 => ?_)
  · have h32 := h5.1 e7
    refine z_ev_gs 1 (c1 := (100, 18, [some (z_r 0 0), some (z_i (x1)), some (z_i (x2)), some (z_i (x3)), none], [z_j (-1000000000000)], (true, X1, I2, J3))) rfl ?_
    rw [h32]
    exact z_ev_rt rfl
  · have h33 := h5.2 e7
    refine z_ev_gs 1 (c1 := (100, 9, [some (z_r 0 0), some (z_i (x1)), some (z_i (x2)), some (z_i (x3)), none], [z_i (x3)], (true, X1, I2, J3))) rfl ?_
    refine z_ev_ca rfl rfl (z_p121 _) ?_
    refine z_ev_gs 1 (c1 := (100, (if ¬ z_c (z_bw x3 0 1) = 0 then 19 else 15), [some (z_r 0 0), some (z_i (x1)), some (z_i (x2)), some (z_i (x3)), none], [], (true, X1, I2, J3))) rfl ?_
    refine z_ev_ifcn (fun e8 => ?_) (fun e8 => ?_)
    · have h30 := h33.1 e8
      refine z_ev_gs 2 (c1 := (100, 21, [some (z_r 0 0), some (z_i (x1)), some (z_i (x2)), some (z_i (x3)), none], [z_i 3, z_r 0 0], (true, X1, I2, J3))) rfl ?_
      obtain ⟨v14, X9, I10, J11, g12, h13⟩ := h30
      refine z_ev_ca rfl rfl g12 ?_
      refine z_ev_gs 3 (c1 := (100, (if ¬ v14 = 0 then 37 else 31), [some (z_r 0 0), some (z_i (x1)), some (z_i (x2)), some (z_i (x3)), some (z_i (v14))], [], (true, X9, I10, J11))) rfl ?_
      refine z_ev_ifn (fun e15 => ?_) (fun e15 => ?_)
      · have h28 := h13.1 e15
        refine z_ev_gs 4 (c1 := (100, 42, [some (z_r 0 0), some (z_i (x1)), some (z_i (x2)), some (z_i (x3)), some (z_i (v14))], [z_i (v14), z_i (x2), z_i (x1), z_r 0 0], (true, X9, I10, J11))) rfl ?_
        obtain ⟨v21, X16, I17, J18, g19, h20⟩ := h28
        refine z_ev_ca rfl rfl g19 ?_
        refine z_ev_gs 3 (c1 := (100, 50, [some (z_r 0 0), some (z_i (x1)), some (z_i (x2)), some (z_i (x3)), some (z_i (v14))], [z_i (x3), z_j 36, z_j (v21.toInt64)], (true, X16, I17, J18))) rfl ?_
        obtain ⟨v27, X22, I23, J24, g25, h26⟩ := h20
        refine z_ev_ca rfl rfl g25 ?_
        rw [h26]
        exact z_ev_rt rfl
      · have h29 := h13.2 e15
        refine z_ev_gs 2 (c1 := (100, 53, [some (z_r 0 0), some (z_i (x1)), some (z_i (x2)), some (z_i (x3)), some (z_i (v14))], [z_j (-1000000000000)], (true, X9, I10, J11))) rfl ?_
        rw [h29]
        exact z_ev_rt rfl
    · have h31 := h33.2 e8
      refine z_ev_gs 1 (c1 := (100, 18, [some (z_r 0 0), some (z_i (x1)), some (z_i (x2)), some (z_i (x3)), none], [z_j (-1000000000000)], (true, X1, I2, J3))) rfl ?_
      rw [h31]
      exact z_ev_rt rfl
theorem z_q101_e {d : Nat} {r : Option z_V × z_M} {X : z_X} {I : Nat → Nat → Nat → Int32} {J : Nat → Nat → Nat → Int64} (x1 : Int32) (x2 : Int32) (x3 : Int32) (x4 : Int32)
    (h : (∃ (b6 : Bool) (X1 : z_X) (I2 : Nat → Nat → Nat → Int32) (J3 : Nat → Nat → Nat → Int64), z_ev (d + 17) (z_en 129 [z_i (x1), z_i (x2)] (true, X, I, J)) (some (z_i (z_c b6)), (true, X1, I2, J3)) ∧ ((b6 = false → r = (some (z_j (-1000000000000)), (true, X1, I2, J3))) ∧ (b6 = true → (((z_bw x4 0 1) = false → r = (some (z_j (-1000000000000)), (true, X1, I2, J3))) ∧ ((z_bw x4 0 1) = true → ((x3 < 0 → r = (some (z_j (-1000000000000)), (true, X1, I2, J3))) ∧ (0 ≤ x3 → ((x3 < (4 : Int32) → (∃ (v16 : Int32) (X11 : z_X) (I12 : Nat → Nat → Nat → Int32) (J13 : Nat → Nat → Nat → Int64), z_ev (d + 17) (z_en 139 [z_r 0 0, z_i 3] (true, X1, I2, J3)) (some (z_i (v16)), (true, X11, I12, J13)) ∧ ((¬ ((v16 >>> (x3 &&& 31)) &&& (1 : Int32)) = 0 → (∃ (v23 : Int32) (X18 : z_X) (I19 : Nat → Nat → Nat → Int32) (J20 : Nat → Nat → Nat → Int64), z_ev (d + 17) (z_en 153 [z_r 0 0, z_i (x1), z_i (x2), z_i (v16)] (true, X11, I12, J13)) (some (z_i (v23)), (true, X18, I19, J20)) ∧ (∃ (v29 : Int32) (X24 : z_X) (I25 : Nat → Nat → Nat → Int32) (J26 : Nat → Nat → Nat → Int64), z_ev (d + 17) (z_en 152 [z_r 0 0, z_i (x1), z_i (x2), z_i (x3)] (true, X18, I19, J20)) (some (z_i (v29)), (true, X24, I25, J26)) ∧ (∃ (v35 : Int64) (X30 : z_X) (I31 : Nat → Nat → Nat → Int32) (J32 : Nat → Nat → Nat → Int64), z_ev (d + 17) (z_en 131 [z_j ((v23 - v29).toInt64), z_j 36, z_i (x4)] (true, X24, I25, J26)) (some (z_j (v35)), (true, X30, I31, J32)) ∧ r = (some (z_j (v35)), (true, X30, I31, J32)))))) ∧ (((v16 >>> (x3 &&& 31)) &&& (1 : Int32)) = 0 → r = (some (z_j (-1000000000000)), (true, X11, I12, J13)))))) ∧ ((4 : Int32) ≤ x3 → r = (some (z_j (-1000000000000)), (true, X1, I2, J3)))))))))))) :
    z_ev (d + 18) (z_en 101 [z_r 0 0, z_i (x1), z_i (x2), z_i (x3), z_i (x4)] (true, X, I, J)) r := by
  show z_ev (d + 18) (101, 0, [some (z_r 0 0), some (z_i (x1)), some (z_i (x2)), some (z_i (x3)), some (z_i (x4)), none], [], (true, X, I, J)) r
  refine z_ev_gs 2 (c1 := (101, 2, [some (z_r 0 0), some (z_i (x1)), some (z_i (x2)), some (z_i (x3)), some (z_i (x4)), none], [z_i (x2), z_i (x1)], (true, X, I, J))) rfl ?_
  obtain ⟨b6, X1, I2, J3, g4, h5⟩ := h
  refine z_ev_ca rfl rfl g4 ?_
  refine z_ev_gs 1 (c1 := (101, (if z_c b6 = 0 then 25 else 8), [some (z_r 0 0), some (z_i (x1)), some (z_i (x2)), some (z_i (x3)), some (z_i (x4)), none], [], (true, X1, I2, J3))) rfl ?_
  refine z_ev_ifc (fun e7 => ?_) (fun e7 => ?_)
  · have h44 := h5.1 e7
    refine z_ev_gs 1 (c1 := (101, 28, [some (z_r 0 0), some (z_i (x1)), some (z_i (x2)), some (z_i (x3)), some (z_i (x4)), none], [z_j (-1000000000000)], (true, X1, I2, J3))) rfl ?_
    rw [h44]
    exact z_ev_rt rfl
  · have h45 := h5.2 e7
    refine z_ev_gs 1 (c1 := (101, 10, [some (z_r 0 0), some (z_i (x1)), some (z_i (x2)), some (z_i (x3)), some (z_i (x4)), none], [z_i (x4)], (true, X1, I2, J3))) rfl ?_
    refine z_ev_ca rfl rfl (z_p121 _) ?_
    refine z_ev_gs 1 (c1 := (101, (if z_c (z_bw x4 0 1) = 0 then 25 else 16), [some (z_r 0 0), some (z_i (x1)), some (z_i (x2)), some (z_i (x3)), some (z_i (x4)), none], [], (true, X1, I2, J3))) rfl ?_
    refine z_ev_ifc (fun e8 => ?_) (fun e8 => ?_)
    · have h42 := h45.1 e8
      refine z_ev_gs 1 (c1 := (101, 28, [some (z_r 0 0), some (z_i (x1)), some (z_i (x2)), some (z_i (x3)), some (z_i (x4)), none], [z_j (-1000000000000)], (true, X1, I2, J3))) rfl ?_
      rw [h42]
      exact z_ev_rt rfl
    · have h43 := h45.2 e8
      refine z_ev_gs 2 (c1 := (101, (if x3 < 0 then 25 else 20), [some (z_r 0 0), some (z_i (x1)), some (z_i (x2)), some (z_i (x3)), some (z_i (x4)), none], [], (true, X1, I2, J3))) rfl ?_
      refine z_ev_iflt (fun e9 => ?_) (fun e9 => ?_)
      · have h40 := h43.1 e9
        refine z_ev_gs 1 (c1 := (101, 28, [some (z_r 0 0), some (z_i (x1)), some (z_i (x2)), some (z_i (x3)), some (z_i (x4)), none], [z_j (-1000000000000)], (true, X1, I2, J3))) rfl ?_
        rw [h40]
        exact z_ev_rt rfl
      · have h41 := h43.2 e9
        refine z_ev_gs 3 (c1 := (101, (if x3 < (4 : Int32) then 29 else 25), [some (z_r 0 0), some (z_i (x1)), some (z_i (x2)), some (z_i (x3)), some (z_i (x4)), none], [], (true, X1, I2, J3))) rfl ?_
        refine z_ev_iflt (fun e10 => ?_) (fun e10 => ?_)
        · have h38 := h41.1 e10
          refine z_ev_gs 2 (c1 := (101, 31, [some (z_r 0 0), some (z_i (x1)), some (z_i (x2)), some (z_i (x3)), some (z_i (x4)), none], [z_i 3, z_r 0 0], (true, X1, I2, J3))) rfl ?_
          obtain ⟨v16, X11, I12, J13, g14, h15⟩ := h38
          refine z_ev_ca rfl rfl g14 ?_
          refine z_ev_gs 7 (c1 := (101, (if ¬ ((v16 >>> (x3 &&& 31)) &&& (1 : Int32)) = 0 then 49 else 45), [some (z_r 0 0), some (z_i (x1)), some (z_i (x2)), some (z_i (x3)), some (z_i (x4)), some (z_i (v16))], [], (true, X11, I12, J13))) rfl ?_
          refine z_ev_ifn (fun e17 => ?_) (fun e17 => ?_)
          · have h36 := h15.1 e17
            refine z_ev_gs 4 (c1 := (101, 54, [some (z_r 0 0), some (z_i (x1)), some (z_i (x2)), some (z_i (x3)), some (z_i (x4)), some (z_i (v16))], [z_i (v16), z_i (x2), z_i (x1), z_r 0 0], (true, X11, I12, J13))) rfl ?_
            obtain ⟨v23, X18, I19, J20, g21, h22⟩ := h36
            refine z_ev_ca rfl rfl g21 ?_
            refine z_ev_gs 4 (c1 := (101, 61, [some (z_r 0 0), some (z_i (x1)), some (z_i (x2)), some (z_i (x3)), some (z_i (x4)), some (z_i (v16))], [z_i (x3), z_i (x2), z_i (x1), z_r 0 0, z_i (v23)], (true, X18, I19, J20))) rfl ?_
            obtain ⟨v29, X24, I25, J26, g27, h28⟩ := h22
            refine z_ev_ca rfl rfl g27 ?_
            refine z_ev_gs 4 (c1 := (101, 71, [some (z_r 0 0), some (z_i (x1)), some (z_i (x2)), some (z_i (x3)), some (z_i (x4)), some (z_i (v16))], [z_i (x4), z_j 36, z_j ((v23 - v29).toInt64)], (true, X24, I25, J26))) rfl ?_
            obtain ⟨v35, X30, I31, J32, g33, h34⟩ := h28
            refine z_ev_ca rfl rfl g33 ?_
            rw [h34]
            exact z_ev_rt rfl
          · have h37 := h15.2 e17
            refine z_ev_gs 1 (c1 := (101, 48, [some (z_r 0 0), some (z_i (x1)), some (z_i (x2)), some (z_i (x3)), some (z_i (x4)), some (z_i (v16))], [z_j (-1000000000000)], (true, X11, I12, J13))) rfl ?_
            rw [h37]
            exact z_ev_rt rfl
        · have h39 := h41.2 e10
          refine z_ev_gs 1 (c1 := (101, 28, [some (z_r 0 0), some (z_i (x1)), some (z_i (x2)), some (z_i (x3)), some (z_i (x4)), none], [z_j (-1000000000000)], (true, X1, I2, J3))) rfl ?_
          rw [h39]
          exact z_ev_rt rfl
theorem z_q102_e {d : Nat} {r : Option z_V × z_M} {X : z_X} {I : Nat → Nat → Nat → Int32} {J : Nat → Nat → Nat → Int64} (x1 : Int32) (x2 : Int32)
    (h : (∃ (b6 : Bool) (X1 : z_X) (I2 : Nat → Nat → Nat → Int32) (J3 : Nat → Nat → Nat → Int64), z_ev (d + 17) (z_en 129 [z_i (x1), z_i (x2)] (true, X, I, J)) (some (z_i (z_c b6)), (true, X1, I2, J3)) ∧ ((b6 = true → (∃ (v13 : Int32) (X8 : z_X) (I9 : Nat → Nat → Nat → Int32) (J10 : Nat → Nat → Nat → Int64), z_ev (d + 17) (z_en 139 [z_r 0 0, z_i 3] (true, X1, I2, J3)) (some (z_i (v13)), (true, X8, I9, J10)) ∧ ((¬ v13 = 0 → (∃ (v20 : Int32) (X15 : z_X) (I16 : Nat → Nat → Nat → Int32) (J17 : Nat → Nat → Nat → Int64), z_ev (d + 17) (z_en 153 [z_r 0 0, z_i (x1), z_i (x2), z_i (v13)] (true, X8, I9, J10)) (some (z_i (v20)), (true, X15, I16, J17)) ∧ z_ev (d + 18) (102, 38, [some (z_r 0 0), some (z_i (x1)), some (z_i (x2)), some (z_i (v13)), some (z_i (v20)), some (z_i 0), some (z_i 0)], [], (true, X15, I16, J17)) r)) ∧ (v13 = 0 → r = (some (z_i (-3)), (true, X8, I9, J10)))))) ∧ (b6 = false → r = (some (z_i (-1)), (true, X1, I2, J3)))))) :
    z_ev (d + 18) (z_en 102 [z_r 0 0, z_i (x1), z_i (x2)] (true, X, I, J)) r := by
  show z_ev (d + 18) (102, 0, [some (z_r 0 0), some (z_i (x1)), some (z_i (x2)), none, none, none, none], [], (true, X, I, J)) r
  refine z_ev_gs 2 (c1 := (102, 2, [some (z_r 0 0), some (z_i (x1)), some (z_i (x2)), none, none, none, none], [z_i (x2), z_i (x1)], (true, X, I, J))) rfl ?_
  obtain ⟨b6, X1, I2, J3, g4, h5⟩ := h
  refine z_ev_ca rfl rfl g4 ?_
  refine z_ev_gs 1 (c1 := (102, (if ¬ z_c b6 = 0 then 10 else 8), [some (z_r 0 0), some (z_i (x1)), some (z_i (x2)), none, none, none, none], [], (true, X1, I2, J3))) rfl ?_
  refine z_ev_ifcn (fun e7 => ?_) (fun e7 => ?_)
  · have h23 := h5.1 e7
    refine z_ev_gs 2 (c1 := (102, 12, [some (z_r 0 0), some (z_i (x1)), some (z_i (x2)), none, none, none, none], [z_i 3, z_r 0 0], (true, X1, I2, J3))) rfl ?_
    obtain ⟨v13, X8, I9, J10, g11, h12⟩ := h23
    refine z_ev_ca rfl rfl g11 ?_
    refine z_ev_gs 3 (c1 := (102, (if ¬ v13 = 0 then 23 else 20), [some (z_r 0 0), some (z_i (x1)), some (z_i (x2)), some (z_i (v13)), none, none, none], [], (true, X8, I9, J10))) rfl ?_
    refine z_ev_ifn (fun e14 => ?_) (fun e14 => ?_)
    · have h21 := h12.1 e14
      refine z_ev_gs 4 (c1 := (102, 27, [some (z_r 0 0), some (z_i (x1)), some (z_i (x2)), some (z_i (v13)), none, none, none], [z_i (v13), z_i (x2), z_i (x1), z_r 0 0], (true, X8, I9, J10))) rfl ?_
      obtain ⟨v20, X15, I16, J17, g18, h19⟩ := h21
      refine z_ev_ca rfl rfl g18 ?_
      refine z_ev_gs 5 (c1 := (102, 38, [some (z_r 0 0), some (z_i (x1)), some (z_i (x2)), some (z_i (v13)), some (z_i (v20)), some (z_i 0), some (z_i 0)], [], (true, X15, I16, J17))) rfl ?_
      exact h19
    · have h22 := h12.2 e14
      refine z_ev_gs 1 (c1 := (102, 22, [some (z_r 0 0), some (z_i (x1)), some (z_i (x2)), some (z_i (v13)), none, none, none], [z_i (-3)], (true, X8, I9, J10))) rfl ?_
      rw [h22]
      exact z_ev_rt rfl
  · have h24 := h5.2 e7
    refine z_ev_gs 1 (c1 := (102, 9, [some (z_r 0 0), some (z_i (x1)), some (z_i (x2)), none, none, none, none], [z_i (-1)], (true, X1, I2, J3))) rfl ?_
    rw [h24]
    exact z_ev_rt rfl
theorem z_q102_38 {d : Nat} {r : Option z_V × z_M} {X : z_X} {I : Nat → Nat → Nat → Int32} {J : Nat → Nat → Nat → Int64} (x1 : Int32) (x2 : Int32) (x3 : Int32) (x4 : Int32) (x5 : Int32) (x6 : Int32)
    (h : (((4 : Int32) ≤ x6 → r = (some (z_i (x5)), (true, X, I, J))) ∧ (x6 < (4 : Int32) → ((((x3 >>> (x6 &&& 31)) &&& (1 : Int32)) = 0 → z_ev (d + 18) (102, 38, [some (z_r 0 0), some (z_i (x1)), some (z_i (x2)), some (z_i (x3)), some (z_i (x4)), some (z_i (x5)), some (z_i (x6 + (1 : Int32)))], [], (true, X, I, J)) r) ∧ (¬ ((x3 >>> (x6 &&& 31)) &&& (1 : Int32)) = 0 → (∃ (v32 : Int32) (X27 : z_X) (I28 : Nat → Nat → Nat → Int32) (J29 : Nat → Nat → Nat → Int64), z_ev (d + 17) (z_en 152 [z_r 0 0, z_i (x1), z_i (x2), z_i (x6)] (true, X, I, J)) (some (z_i (v32)), (true, X27, I28, J29)) ∧ ((¬ v32 = x4 → z_ev (d + 18) (102, 38, [some (z_r 0 0), some (z_i (x1)), some (z_i (x2)), some (z_i (x3)), some (z_i (x4)), some (z_i (x5)), some (z_i (x6 + (1 : Int32)))], [], (true, X27, I28, J29)) r) ∧ (v32 = x4 → z_ev (d + 18) (102, 38, [some (z_r 0 0), some (z_i (x1)), some (z_i (x2)), some (z_i (x3)), some (z_i (x4)), some (z_i (x5 ||| ((1 : Int32) <<< (x6 &&& 31)))), some (z_i (x6 + (1 : Int32)))], [], (true, X27, I28, J29)) r)))))))) :
    z_ev (d + 18) ((102, 38, [some (z_r 0 0), some (z_i (x1)), some (z_i (x2)), some (z_i (x3)), some (z_i (x4)), some (z_i (x5)), some (z_i (x6))], [], (true, X, I, J))) r := by
  refine z_ev_gs 3 (c1 := (102, (if (4 : Int32) ≤ x6 then 81 else 44), [some (z_r 0 0), some (z_i (x1)), some (z_i (x2)), some (z_i (x3)), some (z_i (x4)), some (z_i (x5)), some (z_i (x6))], [], (true, X, I, J))) rfl ?_
  refine z_ev_ifle (fun e25 => ?_) (fun e25 => ?_)
  · have h38 := h.1 e25
    refine z_ev_gs 1 (c1 := (102, 83, [some (z_r 0 0), some (z_i (x1)), some (z_i (x2)), some (z_i (x3)), some (z_i (x4)), some (z_i (x5)), some (z_i (x6))], [z_i (x5)], (true, X, I, J))) rfl ?_
    rw [h38]
    exact z_ev_rt rfl
  · have h39 := h.2 e25
    refine z_ev_gs 6 (c1 := (102, (if ((x3 >>> (x6 &&& 31)) &&& (1 : Int32)) = 0 then 75 else 53), [some (z_r 0 0), some (z_i (x1)), some (z_i (x2)), some (z_i (x3)), some (z_i (x4)), some (z_i (x5)), some (z_i (x6))], [], (true, X, I, J))) rfl ?_
    refine z_ev_if (fun e26 => ?_) (fun e26 => ?_)
    · have h36 := h39.1 e26
      refine z_ev_gs 2 (c1 := (102, 38, [some (z_r 0 0), some (z_i (x1)), some (z_i (x2)), some (z_i (x3)), some (z_i (x4)), some (z_i (x5)), some (z_i (x6 + (1 : Int32)))], [], (true, X, I, J))) rfl ?_
      exact h36
    · have h37 := h39.2 e26
      refine z_ev_gs 4 (c1 := (102, 58, [some (z_r 0 0), some (z_i (x1)), some (z_i (x2)), some (z_i (x3)), some (z_i (x4)), some (z_i (x5)), some (z_i (x6))], [z_i (x6), z_i (x2), z_i (x1), z_r 0 0], (true, X, I, J))) rfl ?_
      obtain ⟨v32, X27, I28, J29, g30, h31⟩ := h37
      refine z_ev_ca rfl rfl g30 ?_
      refine z_ev_gs 2 (c1 := (102, (if ¬ v32 = x4 then 75 else 66), [some (z_r 0 0), some (z_i (x1)), some (z_i (x2)), some (z_i (x3)), some (z_i (x4)), some (z_i (x5)), some (z_i (x6))], [], (true, X27, I28, J29))) rfl ?_
      refine z_ev_ifn (fun e33 => ?_) (fun e33 => ?_)
      · have h34 := h31.1 e33
        refine z_ev_gs 2 (c1 := (102, 38, [some (z_r 0 0), some (z_i (x1)), some (z_i (x2)), some (z_i (x3)), some (z_i (x4)), some (z_i (x5)), some (z_i (x6 + (1 : Int32)))], [], (true, X27, I28, J29))) rfl ?_
        exact h34
      · have h35 := h31.2 e33
        refine z_ev_gs 8 (c1 := (102, 38, [some (z_r 0 0), some (z_i (x1)), some (z_i (x2)), some (z_i (x3)), some (z_i (x4)), some (z_i (x5 ||| ((1 : Int32) <<< (x6 &&& 31)))), some (z_i (x6 + (1 : Int32)))], [], (true, X27, I28, J29))) rfl ?_
        exact h35
theorem z_q237_e {d : Nat} {r : Option z_V × z_M} {X : z_X} {I : Nat → Nat → Nat → Int32} {J : Nat → Nat → Nat → Int64} (x1 : Int32) (x2 : Int32)
    (h : (∃ (v77 : Int32) (X72 : z_X) (I73 : Nat → Nat → Nat → Int32) (J74 : Nat → Nat → Nat → Int64), z_ev (d + 5) (z_en 208 [z_r 33 0, z_i 3] (true, X, I, J)) (some (z_i (v77)), (true, X72, I73, J74)) ∧ z_ev (d + 6) (237, 18, [some (z_r 33 0), some (z_i (x1)), some (z_i (x2)), some (z_i 0), none], [], (true, X72, (z_up (z_up I73 33 0 35 v77) 33 0 34 (-1000000 : Int32)), J74)) r)) :
    z_ev (d + 6) (z_en 237 [z_r 33 0, z_i (x1), z_i (x2)] (true, X, I, J)) r := by
  show z_ev (d + 6) (237, 0, [some (z_r 33 0), some (z_i (x1)), some (z_i (x2)), none, none], [], (true, X, I, J)) r
  refine z_ev_gs 3 (c1 := (237, 3, [some (z_r 33 0), some (z_i (x1)), some (z_i (x2)), none, none], [z_i 3, z_r 33 0, z_r 33 0], (true, X, I, J))) rfl ?_
  obtain ⟨v77, X72, I73, J74, g75, h76⟩ := h
  refine z_ev_ca rfl rfl g75 ?_
  refine z_ev_gs 6 (c1 := (237, 18, [some (z_r 33 0), some (z_i (x1)), some (z_i (x2)), some (z_i 0), none], [], (true, X72, (z_up (z_up I73 33 0 35 v77) 33 0 34 (-1000000 : Int32)), J74))) rfl ?_
  exact h76
theorem z_q237_18 {d : Nat} {r : Option z_V × z_M} {X : z_X} {I : Nat → Nat → Nat → Int32} {J : Nat → Nat → Nat → Int64} (x1 : Int32) (x2 : Int32) (x3 : Int32) (o4 : Option z_V)
    (h : (((4 : Int32) ≤ x3 → (((I 33 0 35) = 0 → r = (some (z_i 0), (true, X, I, J))) ∧ (¬ (I 33 0 35) = 0 → r = (some (z_i 1), (true, X, I, J))))) ∧ (x3 < (4 : Int32) → (∃ k82 : Nat, ((33 : Int32) + x3) = Int32.ofNat k82 ∧ k82 < 55 ∧ (∃ (v91 : Int32) (X86 : z_X) (I87 : Nat → Nat → Nat → Int32) (J88 : Nat → Nat → Nat → Int64), z_ev (d + 5) (z_en 202 [z_r 33 0, z_i 3, z_i (I 41 0 k82), z_i (x1), z_i (x2)] (true, X, I, J)) (some (z_i (v91)), (true, X86, I87, J88)) ∧ (∃ (v97 : Int32) (X92 : z_X) (I93 : Nat → Nat → Nat → Int32) (J94 : Nat → Nat → Nat → Int64), z_ev (d + 5) (z_en 195 [z_i 3, z_i (x1)] (true, X86, I87, J88)) (some (z_i (v97)), (true, X92, I93, J94)) ∧ (¬ v97 = 0 ∧ (∃ k98 : Nat, x3 = Int32.ofNat k98 ∧ k98 < 4 ∧ z_ev (d + 6) (237, 57, [some (z_r 33 0), some (z_i (x1)), some (z_i (x2)), some (z_i (x3)), some (z_i 0)], [], (true, X92, (z_up I93 52 0 k98 ((v91 * (36 : Int32)) / v97)), J94)) r)))))))) :
    z_ev (d + 6) ((237, 18, [some (z_r 33 0), some (z_i (x1)), some (z_i (x2)), some (z_i (x3)), o4], [], (true, X, I, J))) r := by
  refine z_ev_gs 3 (c1 := (237, (if (4 : Int32) ≤ x3 then 159 else 23), [some (z_r 33 0), some (z_i (x1)), some (z_i (x2)), some (z_i (x3)), o4], [], (true, X, I, J))) rfl ?_
  refine z_ev_ifle (fun e78 => ?_) (fun e78 => ?_)
  · have h103 := h.1 e78
    refine z_ev_gs 3 (c1 := (237, (if (I 33 0 35) = 0 then 170 else 166), [some (z_r 33 0), some (z_i (x1)), some (z_i (x2)), some (z_i (x3)), o4], [], (true, X, I, J))) rfl ?_
    refine z_ev_if (fun e79 => ?_) (fun e79 => ?_)
    · have h80 := h103.1 e79
      refine z_ev_gs 1 (c1 := (237, 171, [some (z_r 33 0), some (z_i (x1)), some (z_i (x2)), some (z_i (x3)), o4], [z_i 0], (true, X, I, J))) rfl ?_
      rw [h80]
      exact z_ev_rt rfl
    · have h81 := h103.2 e79
      refine z_ev_gs 2 (c1 := (237, 171, [some (z_r 33 0), some (z_i (x1)), some (z_i (x2)), some (z_i (x3)), o4], [z_i 1], (true, X, I, J))) rfl ?_
      rw [h81]
      exact z_ev_rt rfl
  · have h104 := h.2 e78
    refine z_ev_gs 10 (c1 := (237, 38, [some (z_r 33 0), some (z_i (x1)), some (z_i (x2)), some (z_i (x3)), o4], [z_i ((33 : Int32) + x3), z_r 41 0, z_i 3, z_r 33 0, z_i (x3), z_r 52 0], (true, X, I, J))) rfl ?_
    obtain ⟨k82, e83, e84, h85⟩ := h104
    refine z_ev_iald (t := 41) (i := 0) (k := k82) (n := 55) rfl rfl e83 e84 (by decide) ?_
    refine z_ev_gs 2 (c1 := (237, 41, [some (z_r 33 0), some (z_i (x1)), some (z_i (x2)), some (z_i (x3)), o4], [z_i (x2), z_i (x1), z_i (I 41 0 k82), z_i 3, z_r 33 0, z_i (x3), z_r 52 0], (true, X, I, J))) rfl ?_
    obtain ⟨v91, X86, I87, J88, g89, h90⟩ := h85
    refine z_ev_ca rfl rfl g89 ?_
    refine z_ev_gs 4 (c1 := (237, 49, [some (z_r 33 0), some (z_i (x1)), some (z_i (x2)), some (z_i (x3)), o4], [z_i (x1), z_i 3, z_i (v91 * (36 : Int32)), z_i (x3), z_r 52 0], (true, X86, I87, J88))) rfl ?_
    obtain ⟨v97, X92, I93, J94, g95, h96⟩ := h90
    refine z_ev_ca rfl rfl g95 ?_
    obtain ⟨g0, h102⟩ := h96
    refine z_ev_dvi (w1 := v97) (c1 := (237, 53, [some (z_r 33 0), some (z_i (x1)), some (z_i (x2)), some (z_i (x3)), o4], [z_i ((v91 * (36 : Int32)) / v97), z_i (x3), z_r 52 0], (true, X92, I93, J94))) rfl g0 ?_
    obtain ⟨k98, e99, e100, h101⟩ := h102
    refine z_ev_iast (t := 52) (i := 0) (k := k98) (n := 4) rfl rfl e99 e100 (by decide) ?_
    refine z_ev_gs 2 (c1 := (237, 57, [some (z_r 33 0), some (z_i (x1)), some (z_i (x2)), some (z_i (x3)), some (z_i 0)], [], (true, X92, (z_up I93 52 0 k98 ((v91 * (36 : Int32)) / v97)), J94))) rfl ?_
    exact h101
theorem z_q237_57 {d : Nat} {r : Option z_V × z_M} {X : z_X} {I : Nat → Nat → Nat → Int32} {J : Nat → Nat → Nat → Int64} (x1 : Int32) (x2 : Int32) (x3 : Int32) (x4 : Int32)
    (h : (((I 33 0 8) ≤ x4 → ((¬ (((I 33 0 35) >>> (x3 &&& 31)) &&& (1 : Int32)) = (1 : Int32) → z_ev (d + 6) (237, 18, [some (z_r 33 0), some (z_i (x1)), some (z_i (x2)), some (z_i (x3 + (1 : Int32))), some (z_i (x4))], [], (true, X, (z_up I 33 0 34 (I 33 0 34)), J)) r) ∧ ((((I 33 0 35) >>> (x3 &&& 31)) &&& (1 : Int32)) = (1 : Int32) → (∃ k107 : Nat, x3 = Int32.ofNat k107 ∧ k107 < 4 ∧ (((I 52 0 k107) ≤ (I 33 0 34) → z_ev (d + 6) (237, 18, [some (z_r 33 0), some (z_i (x1)), some (z_i (x2)), some (z_i (x3 + (1 : Int32))), some (z_i (x4))], [], (true, X, (z_up I 33 0 34 (I 33 0 34)), J)) r) ∧ ((I 33 0 34) < (I 52 0 k107) → z_ev (d + 6) (237, 18, [some (z_r 33 0), some (z_i (x1)), some (z_i (x2)), some (z_i (x3 + (1 : Int32))), some (z_i (x4))], [], (true, X, (z_up I 33 0 34 (I 52 0 k107)), J)) r)))))) ∧ (x4 < (I 33 0 8) → (∃ k116 : Nat, x3 = Int32.ofNat k116 ∧ k116 < 4 ∧ (∃ (v125 : Int32) (X120 : z_X) (I121 : Nat → Nat → Nat → Int32) (J122 : Nat → Nat → Nat → Int64), z_ev (d + 5) (z_en 229 [z_r 33 0, z_i (x4), z_i 0] (true, X, I, J)) (some (z_i (v125)), (true, X120, I121, J122)) ∧ ((¬ v125 = (2 : Int32) → z_ev (d + 6) (237, 57, [some (z_r 33 0), some (z_i (x1)), some (z_i (x2)), some (z_i (x3)), some (z_i (x4 + (1 : Int32)))], [], (true, X120, (z_up I121 52 0 k116 ((I 52 0 k116) + (0 : Int32))), J122)) r) ∧ (v125 = (2 : Int32) → (∃ (v132 : Int32) (X127 : z_X) (I128 : Nat → Nat → Nat → Int32) (J129 : Nat → Nat → Nat → Int64), z_ev (d + 5) (z_en 229 [z_r 33 0, z_i (x4), z_i 3] (true, X120, I121, J122)) (some (z_i (v132)), (true, X127, I128, J129)) ∧ (∃ (v138 : Int32) (X133 : z_X) (I134 : Nat → Nat → Nat → Int32) (J135 : Nat → Nat → Nat → Int64), z_ev (d + 5) (z_en 233 [z_r 33 0, z_i (x4), z_i (x3)] (true, X127, I128, J129)) (some (z_i (v138)), (true, X133, I134, J135)) ∧ z_ev (d + 6) (237, 57, [some (z_r 33 0), some (z_i (x1)), some (z_i (x2)), some (z_i (x3)), some (z_i (x4 + (1 : Int32)))], [], (true, X133, (z_up I134 52 0 k116 ((I 52 0 k116) + (v132 * v138))), J135)) r))))))))) :
    z_ev (d + 6) ((237, 57, [some (z_r 33 0), some (z_i (x1)), some (z_i (x2)), some (z_i (x3)), some (z_i (x4))], [], (true, X, I, J))) r := by
  refine z_ev_gs 4 (c1 := (237, (if (I 33 0 8) ≤ x4 then 111 else 66), [some (z_r 33 0), some (z_i (x1)), some (z_i (x2)), some (z_i (x3)), some (z_i (x4))], [], (true, X, I, J))) rfl ?_
  refine z_ev_ifle (fun e105 => ?_) (fun e105 => ?_)
  · have h141 := h.1 e105
    refine z_ev_gs 9 (c1 := (237, (if ¬ (((I 33 0 35) >>> (x3 &&& 31)) &&& (1 : Int32)) = (1 : Int32) then 146 else 124), [some (z_r 33 0), some (z_i (x1)), some (z_i (x2)), some (z_i (x3)), some (z_i (x4))], [z_r 33 0], (true, X, I, J))) rfl ?_
    refine z_ev_ifn (fun e106 => ?_) (fun e106 => ?_)
    · have h114 := h141.1 e106
      refine z_ev_gs 5 (c1 := (237, 18, [some (z_r 33 0), some (z_i (x1)), some (z_i (x2)), some (z_i (x3 + (1 : Int32))), some (z_i (x4))], [], (true, X, (z_up I 33 0 34 (I 33 0 34)), J))) rfl ?_
      exact h114
    · have h115 := h141.2 e106
      refine z_ev_gs 3 (c1 := (237, 129, [some (z_r 33 0), some (z_i (x1)), some (z_i (x2)), some (z_i (x3)), some (z_i (x4))], [z_i (x3), z_r 52 0, z_r 33 0], (true, X, I, J))) rfl ?_
      obtain ⟨k107, e108, e109, h110⟩ := h115
      refine z_ev_iald (t := 52) (i := 0) (k := k107) (n := 4) rfl rfl e108 e109 (by decide) ?_
      refine z_ev_gs 3 (c1 := (237, (if (I 52 0 k107) ≤ (I 33 0 34) then 146 else 137), [some (z_r 33 0), some (z_i (x1)), some (z_i (x2)), some (z_i (x3)), some (z_i (x4))], [z_r 33 0], (true, X, I, J))) rfl ?_
      refine z_ev_ifle (fun e111 => ?_) (fun e111 => ?_)
      · have h112 := h110.1 e111
        refine z_ev_gs 5 (c1 := (237, 18, [some (z_r 33 0), some (z_i (x1)), some (z_i (x2)), some (z_i (x3 + (1 : Int32))), some (z_i (x4))], [], (true, X, (z_up I 33 0 34 (I 33 0 34)), J))) rfl ?_
        exact h112
      · have h113 := h110.2 e111
        refine z_ev_gs 3 (c1 := (237, 142, [some (z_r 33 0), some (z_i (x1)), some (z_i (x2)), some (z_i (x3)), some (z_i (x4))], [z_i (x3), z_r 52 0, z_r 33 0], (true, X, I, J))) rfl ?_
        refine z_ev_iald (t := 52) (i := 0) (k := k107) (n := 4) rfl rfl e108 (Nat.lt_of_lt_of_le e109 (by decide)) (by decide) ?_
        refine z_ev_gs 4 (c1 := (237, 18, [some (z_r 33 0), some (z_i (x1)), some (z_i (x2)), some (z_i (x3 + (1 : Int32))), some (z_i (x4))], [], (true, X, (z_up I 33 0 34 (I 52 0 k107)), J))) rfl ?_
        exact h113
  · have h142 := h.2 e105
    refine z_ev_gs 4 (c1 := (237, 72, [some (z_r 33 0), some (z_i (x1)), some (z_i (x2)), some (z_i (x3)), some (z_i (x4))], [z_i (x3), z_r 52 0, z_i (x3), z_r 52 0], (true, X, I, J))) rfl ?_
    obtain ⟨k116, e117, e118, h119⟩ := h142
    refine z_ev_iald (t := 52) (i := 0) (k := k116) (n := 4) rfl rfl e117 e118 (by decide) ?_
    refine z_ev_gs 3 (c1 := (237, 77, [some (z_r 33 0), some (z_i (x1)), some (z_i (x2)), some (z_i (x3)), some (z_i (x4))], [z_i 0, z_i (x4), z_r 33 0, z_i (I 52 0 k116), z_i (x3), z_r 52 0], (true, X, I, J))) rfl ?_
    obtain ⟨v125, X120, I121, J122, g123, h124⟩ := h119
    refine z_ev_ca rfl rfl g123 ?_
    refine z_ev_gs 2 (c1 := (237, (if ¬ v125 = (2 : Int32) then 102 else 84), [some (z_r 33 0), some (z_i (x1)), some (z_i (x2)), some (z_i (x3)), some (z_i (x4))], [z_i (I 52 0 k116), z_i (x3), z_r 52 0], (true, X120, I121, J122))) rfl ?_
    refine z_ev_ifn (fun e126 => ?_) (fun e126 => ?_)
    · have h139 := h124.1 e126
      refine z_ev_gs 2 (c1 := (237, 104, [some (z_r 33 0), some (z_i (x1)), some (z_i (x2)), some (z_i (x3)), some (z_i (x4))], [z_i ((I 52 0 k116) + (0 : Int32)), z_i (x3), z_r 52 0], (true, X120, I121, J122))) rfl ?_
      refine z_ev_iast (t := 52) (i := 0) (k := k116) (n := 4) rfl rfl e117 (Nat.lt_of_lt_of_le e118 (by decide)) (by decide) ?_
      refine z_ev_gs 2 (c1 := (237, 57, [some (z_r 33 0), some (z_i (x1)), some (z_i (x2)), some (z_i (x3)), some (z_i (x4 + (1 : Int32)))], [], (true, X120, (z_up I121 52 0 k116 ((I 52 0 k116) + (0 : Int32))), J122))) rfl ?_
      exact h139
    · have h140 := h124.2 e126
      refine z_ev_gs 3 (c1 := (237, 88, [some (z_r 33 0), some (z_i (x1)), some (z_i (x2)), some (z_i (x3)), some (z_i (x4))], [z_i 3, z_i (x4), z_r 33 0, z_i (I 52 0 k116), z_i (x3), z_r 52 0], (true, X120, I121, J122))) rfl ?_
      obtain ⟨v132, X127, I128, J129, g130, h131⟩ := h140
      refine z_ev_ca rfl rfl g130 ?_
      refine z_ev_gs 3 (c1 := (237, 95, [some (z_r 33 0), some (z_i (x1)), some (z_i (x2)), some (z_i (x3)), some (z_i (x4))], [z_i (x3), z_i (x4), z_r 33 0, z_i (v132), z_i (I 52 0 k116), z_i (x3), z_r 52 0], (true, X127, I128, J129))) rfl ?_
      obtain ⟨v138, X133, I134, J135, g136, h137⟩ := h131
      refine z_ev_ca rfl rfl g136 ?_
      refine z_ev_gs 3 (c1 := (237, 104, [some (z_r 33 0), some (z_i (x1)), some (z_i (x2)), some (z_i (x3)), some (z_i (x4))], [z_i ((I 52 0 k116) + (v132 * v138)), z_i (x3), z_r 52 0], (true, X133, I134, J135))) rfl ?_
      refine z_ev_iast (t := 52) (i := 0) (k := k116) (n := 4) rfl rfl e117 (Nat.lt_of_lt_of_le e118 (by decide)) (by decide) ?_
      refine z_ev_gs 2 (c1 := (237, 57, [some (z_r 33 0), some (z_i (x1)), some (z_i (x2)), some (z_i (x3)), some (z_i (x4 + (1 : Int32)))], [], (true, X133, (z_up I134 52 0 k116 ((I 52 0 k116) + (v132 * v138))), J135))) rfl ?_
      exact h137
theorem z_q239_e {d : Nat} {r : Option z_V × z_M} {X : z_X} {I : Nat → Nat → Nat → Int32} {J : Nat → Nat → Nat → Int64} (x1 : Int32) (x2 : Int32) (x3 : Int32)
    (h : (∃ (b6 : Bool) (X1 : z_X) (I2 : Nat → Nat → Nat → Int32) (J3 : Nat → Nat → Nat → Int64), z_ev (d + 6) (z_en 238 [z_r 33 0, z_i (x1), z_i (x2)] (true, X, I, J)) (some (z_i (z_c b6)), (true, X1, I2, J3)) ∧ ((b6 = false → r = (some (z_j (-1000000000000)), (true, X1, I2, J3))) ∧ (b6 = true → (((z_bw x3 0 1) = false → r = (some (z_j (-1000000000000)), (true, X1, I2, J3))) ∧ ((z_bw x3 0 1) = true → (∃ (b14 : Bool) (X9 : z_X) (I10 : Nat → Nat → Nat → Int32) (J11 : Nat → Nat → Nat → Int64), z_ev (d + 6) (z_en 237 [z_r 33 0, z_i (x1), z_i (x2)] (true, X1, I2, J3)) (some (z_i (z_c b14)), (true, X9, I10, J11)) ∧ ((b14 = true → (∃ (X16 : z_X) (I17 : Nat → Nat → Nat → Int32) (J18 : Nat → Nat → Nat → Int64), z_ev (d + 6) (z_en 198 [z_r 33 0, z_j ((I10 33 0 34).toInt64), z_j 36] (true, X9, I10, J11)) (none, (true, X16, I17, J18)) ∧ (∃ (v26 : Int64) (X21 : z_X) (I22 : Nat → Nat → Nat → Int32) (J23 : Nat → Nat → Nat → Int64), z_ev (d + 6) (z_en 199 [z_r 33 0, z_i (x3)] (true, X16, I17, J18)) (some (z_j (v26)), (true, X21, I22, J23)) ∧ r = (some (z_j (v26)), (true, X21, I22, J23))))) ∧ (b14 = false → r = (some (z_j (-1000000000000)), (true, X9, I10, J11))))))))))) :
    z_ev (d + 7) (z_en 239 [z_r 33 0, z_i (x1), z_i (x2), z_i (x3)] (true, X, I, J)) r := by
  show z_ev (d + 7) (239, 0, [some (z_r 33 0), some (z_i (x1)), some (z_i (x2)), some (z_i (x3))], [], (true, X, I, J)) r
  refine z_ev_gs 3 (c1 := (239, 3, [some (z_r 33 0), some (z_i (x1)), some (z_i (x2)), some (z_i (x3))], [z_i (x2), z_i (x1), z_r 33 0], (true, X, I, J))) rfl ?_
  obtain ⟨b6, X1, I2, J3, g4, h5⟩ := h
  refine z_ev_ca rfl rfl g4 ?_
  refine z_ev_gs 1 (c1 := (239, (if z_c b6 = 0 then 25 else 9), [some (z_r 33 0), some (z_i (x1)), some (z_i (x2)), some (z_i (x3))], [], (true, X1, I2, J3))) rfl ?_
  refine z_ev_ifc (fun e7 => ?_) (fun e7 => ?_)
  · have h31 := h5.1 e7
    refine z_ev_gs 1 (c1 := (239, 28, [some (z_r 33 0), some (z_i (x1)), some (z_i (x2)), some (z_i (x3))], [z_j (-1000000000000)], (true, X1, I2, J3))) rfl ?_
    rw [h31]
    exact z_ev_rt rfl
  · have h32 := h5.2 e7
    refine z_ev_gs 1 (c1 := (239, 10, [some (z_r 33 0), some (z_i (x1)), some (z_i (x2)), some (z_i (x3))], [z_i (x3)], (true, X1, I2, J3))) rfl ?_
    refine z_ev_ca rfl rfl (z_p163 _) ?_
    refine z_ev_gs 1 (c1 := (239, (if z_c (z_bw x3 0 1) = 0 then 25 else 16), [some (z_r 33 0), some (z_i (x1)), some (z_i (x2)), some (z_i (x3))], [], (true, X1, I2, J3))) rfl ?_
    refine z_ev_ifc (fun e8 => ?_) (fun e8 => ?_)
    · have h29 := h32.1 e8
      refine z_ev_gs 1 (c1 := (239, 28, [some (z_r 33 0), some (z_i (x1)), some (z_i (x2)), some (z_i (x3))], [z_j (-1000000000000)], (true, X1, I2, J3))) rfl ?_
      rw [h29]
      exact z_ev_rt rfl
    · have h30 := h32.2 e8
      refine z_ev_gs 3 (c1 := (239, 19, [some (z_r 33 0), some (z_i (x1)), some (z_i (x2)), some (z_i (x3))], [z_i (x2), z_i (x1), z_r 33 0], (true, X1, I2, J3))) rfl ?_
      obtain ⟨b14, X9, I10, J11, g12, h13⟩ := h30
      refine z_ev_ca rfl rfl g12 ?_
      refine z_ev_gs 1 (c1 := (239, (if ¬ z_c b14 = 0 then 29 else 25), [some (z_r 33 0), some (z_i (x1)), some (z_i (x2)), some (z_i (x3))], [], (true, X9, I10, J11))) rfl ?_
      refine z_ev_ifcn (fun e15 => ?_) (fun e15 => ?_)
      · have h27 := h13.1 e15
        refine z_ev_gs 5 (c1 := (239, 38, [some (z_r 33 0), some (z_i (x1)), some (z_i (x2)), some (z_i (x3))], [z_j 36, z_j ((I10 33 0 34).toInt64), z_r 33 0], (true, X9, I10, J11))) rfl ?_
        obtain ⟨X16, I17, J18, g19, h20⟩ := h27
        refine z_ev_ca rfl rfl g19 ?_
        refine z_ev_gs 2 (c1 := (239, 43, [some (z_r 33 0), some (z_i (x1)), some (z_i (x2)), some (z_i (x3))], [z_i (x3), z_r 33 0], (true, X16, I17, J18))) rfl ?_
        obtain ⟨v26, X21, I22, J23, g24, h25⟩ := h20
        refine z_ev_ca rfl rfl g24 ?_
        rw [h25]
        exact z_ev_rt rfl
      · have h28 := h13.2 e15
        refine z_ev_gs 1 (c1 := (239, 28, [some (z_r 33 0), some (z_i (x1)), some (z_i (x2)), some (z_i (x3))], [z_j (-1000000000000)], (true, X9, I10, J11))) rfl ?_
        rw [h28]
        exact z_ev_rt rfl
theorem z_q240_e {d : Nat} {r : Option z_V × z_M} {X : z_X} {I : Nat → Nat → Nat → Int32} {J : Nat → Nat → Nat → Int64} (x1 : Int32) (x2 : Int32) (x3 : Int32) (x4 : Int32)
    (h : (∃ (b6 : Bool) (X1 : z_X) (I2 : Nat → Nat → Nat → Int32) (J3 : Nat → Nat → Nat → Int64), z_ev (d + 6) (z_en 238 [z_r 33 0, z_i (x1), z_i (x2)] (true, X, I, J)) (some (z_i (z_c b6)), (true, X1, I2, J3)) ∧ ((b6 = false → r = (some (z_j (-1000000000000)), (true, X1, I2, J3))) ∧ (b6 = true → (((z_bw x3 (0 : Int32) (3 : Int32)) = false → r = (some (z_j (-1000000000000)), (true, X1, I2, J3))) ∧ ((z_bw x3 (0 : Int32) (3 : Int32)) = true → (((z_bw x4 0 1) = false → r = (some (z_j (-1000000000000)), (true, X1, I2, J3))) ∧ ((z_bw x4 0 1) = true → (∃ (b15 : Bool) (X10 : z_X) (I11 : Nat → Nat → Nat → Int32) (J12 : Nat → Nat → Nat → Int64), z_ev (d + 6) (z_en 237 [z_r 33 0, z_i (x1), z_i (x2)] (true, X1, I2, J3)) (some (z_i (z_c b15)), (true, X10, I11, J12)) ∧ ((b15 = false → r = (some (z_j (-1000000000000)), (true, X10, I11, J12))) ∧ (b15 = true → ((¬ (((I11 33 0 35) >>> (x3 &&& 31)) &&& (1 : Int32)) = 0 → (∃ k18 : Nat, x3 = Int32.ofNat k18 ∧ k18 < 4 ∧ (∃ (X22 : z_X) (I23 : Nat → Nat → Nat → Int32) (J24 : Nat → Nat → Nat → Int64), z_ev (d + 6) (z_en 198 [z_r 33 0, z_j (((I11 33 0 34) - (I11 52 0 k18)).toInt64), z_j 36] (true, X10, I11, J12)) (none, (true, X22, I23, J24)) ∧ (∃ (v32 : Int64) (X27 : z_X) (I28 : Nat → Nat → Nat → Int32) (J29 : Nat → Nat → Nat → Int64), z_ev (d + 6) (z_en 199 [z_r 33 0, z_i (x4)] (true, X22, I23, J24)) (some (z_j (v32)), (true, X27, I28, J29)) ∧ r = (some (z_j (v32)), (true, X27, I28, J29)))))) ∧ ((((I11 33 0 35) >>> (x3 &&& 31)) &&& (1 : Int32)) = 0 → r = (some (z_j (-1000000000000)), (true, X10, I11, J12))))))))))))))) :
    z_ev (d + 7) (z_en 240 [z_r 33 0, z_i (x1), z_i (x2), z_i (x3), z_i (x4)] (true, X, I, J)) r := by
  show z_ev (d + 7) (240, 0, [some (z_r 33 0), some (z_i (x1)), some (z_i (x2)), some (z_i (x3)), some (z_i (x4))], [], (true, X, I, J)) r
  refine z_ev_gs 3 (c1 := (240, 3, [some (z_r 33 0), some (z_i (x1)), some (z_i (x2)), some (z_i (x3)), some (z_i (x4))], [z_i (x2), z_i (x1), z_r 33 0], (true, X, I, J))) rfl ?_
  obtain ⟨b6, X1, I2, J3, g4, h5⟩ := h
  refine z_ev_ca rfl rfl g4 ?_
  refine z_ev_gs 1 (c1 := (240, (if z_c b6 = 0 then 46 else 9), [some (z_r 33 0), some (z_i (x1)), some (z_i (x2)), some (z_i (x3)), some (z_i (x4))], [], (true, X1, I2, J3))) rfl ?_
  refine z_ev_ifc (fun e7 => ?_) (fun e7 => ?_)
  · have h41 := h5.1 e7
    refine z_ev_gs 1 (c1 := (240, 49, [some (z_r 33 0), some (z_i (x1)), some (z_i (x2)), some (z_i (x3)), some (z_i (x4))], [z_j (-1000000000000)], (true, X1, I2, J3))) rfl ?_
    rw [h41]
    exact z_ev_rt rfl
  · have h42 := h5.2 e7
    refine z_ev_gs 3 (c1 := (240, 12, [some (z_r 33 0), some (z_i (x1)), some (z_i (x2)), some (z_i (x3)), some (z_i (x4))], [z_i 3, z_i 0, z_i (x3)], (true, X1, I2, J3))) rfl ?_
    refine z_ev_ca rfl rfl (z_p158 _ _ _) ?_
    refine z_ev_gs 1 (c1 := (240, (if z_c (z_bw x3 (0 : Int32) (3 : Int32)) = 0 then 46 else 18), [some (z_r 33 0), some (z_i (x1)), some (z_i (x2)), some (z_i (x3)), some (z_i (x4))], [], (true, X1, I2, J3))) rfl ?_
    refine z_ev_ifc (fun e8 => ?_) (fun e8 => ?_)
    · have h39 := h42.1 e8
      refine z_ev_gs 1 (c1 := (240, 49, [some (z_r 33 0), some (z_i (x1)), some (z_i (x2)), some (z_i (x3)), some (z_i (x4))], [z_j (-1000000000000)], (true, X1, I2, J3))) rfl ?_
      rw [h39]
      exact z_ev_rt rfl
    · have h40 := h42.2 e8
      refine z_ev_gs 1 (c1 := (240, 20, [some (z_r 33 0), some (z_i (x1)), some (z_i (x2)), some (z_i (x3)), some (z_i (x4))], [z_i (x4)], (true, X1, I2, J3))) rfl ?_
      refine z_ev_ca rfl rfl (z_p163 _) ?_
      refine z_ev_gs 1 (c1 := (240, (if z_c (z_bw x4 0 1) = 0 then 46 else 26), [some (z_r 33 0), some (z_i (x1)), some (z_i (x2)), some (z_i (x3)), some (z_i (x4))], [], (true, X1, I2, J3))) rfl ?_
      refine z_ev_ifc (fun e9 => ?_) (fun e9 => ?_)
      · have h37 := h40.1 e9
        refine z_ev_gs 1 (c1 := (240, 49, [some (z_r 33 0), some (z_i (x1)), some (z_i (x2)), some (z_i (x3)), some (z_i (x4))], [z_j (-1000000000000)], (true, X1, I2, J3))) rfl ?_
        rw [h37]
        exact z_ev_rt rfl
      · have h38 := h40.2 e9
        refine z_ev_gs 3 (c1 := (240, 29, [some (z_r 33 0), some (z_i (x1)), some (z_i (x2)), some (z_i (x3)), some (z_i (x4))], [z_i (x2), z_i (x1), z_r 33 0], (true, X1, I2, J3))) rfl ?_
        obtain ⟨b15, X10, I11, J12, g13, h14⟩ := h38
        refine z_ev_ca rfl rfl g13 ?_
        refine z_ev_gs 1 (c1 := (240, (if z_c b15 = 0 then 46 else 35), [some (z_r 33 0), some (z_i (x1)), some (z_i (x2)), some (z_i (x3)), some (z_i (x4))], [], (true, X10, I11, J12))) rfl ?_
        refine z_ev_ifc (fun e16 => ?_) (fun e16 => ?_)
        · have h35 := h14.1 e16
          refine z_ev_gs 1 (c1 := (240, 49, [some (z_r 33 0), some (z_i (x1)), some (z_i (x2)), some (z_i (x3)), some (z_i (x4))], [z_j (-1000000000000)], (true, X10, I11, J12))) rfl ?_
          rw [h35]
          exact z_ev_rt rfl
        · have h36 := h14.2 e16
          refine z_ev_gs 7 (c1 := (240, (if ¬ (((I11 33 0 35) >>> (x3 &&& 31)) &&& (1 : Int32)) = 0 then 50 else 46), [some (z_r 33 0), some (z_i (x1)), some (z_i (x2)), some (z_i (x3)), some (z_i (x4))], [], (true, X10, I11, J12))) rfl ?_
          refine z_ev_ifn (fun e17 => ?_) (fun e17 => ?_)
          · have h33 := h36.1 e17
            refine z_ev_gs 6 (c1 := (240, 60, [some (z_r 33 0), some (z_i (x1)), some (z_i (x2)), some (z_i (x3)), some (z_i (x4))], [z_i (x3), z_r 52 0, z_i (I11 33 0 34), z_r 33 0], (true, X10, I11, J12))) rfl ?_
            obtain ⟨k18, e19, e20, h21⟩ := h33
            refine z_ev_iald (t := 52) (i := 0) (k := k18) (n := 4) rfl rfl e19 e20 (by decide) ?_
            refine z_ev_gs 3 (c1 := (240, 66, [some (z_r 33 0), some (z_i (x1)), some (z_i (x2)), some (z_i (x3)), some (z_i (x4))], [z_j 36, z_j (((I11 33 0 34) - (I11 52 0 k18)).toInt64), z_r 33 0], (true, X10, I11, J12))) rfl ?_
            obtain ⟨X22, I23, J24, g25, h26⟩ := h21
            refine z_ev_ca rfl rfl g25 ?_
            refine z_ev_gs 2 (c1 := (240, 72, [some (z_r 33 0), some (z_i (x1)), some (z_i (x2)), some (z_i (x3)), some (z_i (x4))], [z_i (x4), z_r 33 0], (true, X22, I23, J24))) rfl ?_
            obtain ⟨v32, X27, I28, J29, g30, h31⟩ := h26
            refine z_ev_ca rfl rfl g30 ?_
            rw [h31]
            exact z_ev_rt rfl
          · have h34 := h36.2 e17
            refine z_ev_gs 1 (c1 := (240, 49, [some (z_r 33 0), some (z_i (x1)), some (z_i (x2)), some (z_i (x3)), some (z_i (x4))], [z_j (-1000000000000)], (true, X10, I11, J12))) rfl ?_
            rw [h34]
            exact z_ev_rt rfl
theorem z_q241_e {d : Nat} {r : Option z_V × z_M} {X : z_X} {I : Nat → Nat → Nat → Int32} {J : Nat → Nat → Nat → Int64} (x1 : Int32) (x2 : Int32)
    (h : (∃ (b6 : Bool) (X1 : z_X) (I2 : Nat → Nat → Nat → Int32) (J3 : Nat → Nat → Nat → Int64), z_ev (d + 6) (z_en 238 [z_r 33 0, z_i (x1), z_i (x2)] (true, X, I, J)) (some (z_i (z_c b6)), (true, X1, I2, J3)) ∧ ((b6 = true → (∃ (b13 : Bool) (X8 : z_X) (I9 : Nat → Nat → Nat → Int32) (J10 : Nat → Nat → Nat → Int64), z_ev (d + 6) (z_en 237 [z_r 33 0, z_i (x1), z_i (x2)] (true, X1, I2, J3)) (some (z_i (z_c b13)), (true, X8, I9, J10)) ∧ ((b13 = true → z_ev (d + 7) (241, 28, [some (z_r 33 0), some (z_i (x1)), some (z_i (x2)), some (z_i 0), some (z_i 0)], [], (true, X8, I9, J10)) r) ∧ (b13 = false → r = (some (z_i (-3)), (true, X8, I9, J10)))))) ∧ (b6 = false → r = (some (z_i (-1)), (true, X1, I2, J3)))))) :
    z_ev (d + 7) (z_en 241 [z_r 33 0, z_i (x1), z_i (x2)] (true, X, I, J)) r := by
  show z_ev (d + 7) (241, 0, [some (z_r 33 0), some (z_i (x1)), some (z_i (x2)), none, none], [], (true, X, I, J)) r
  refine z_ev_gs 3 (c1 := (241, 3, [some (z_r 33 0), some (z_i (x1)), some (z_i (x2)), none, none], [z_i (x2), z_i (x1), z_r 33 0], (true, X, I, J))) rfl ?_
  obtain ⟨b6, X1, I2, J3, g4, h5⟩ := h
  refine z_ev_ca rfl rfl g4 ?_
  refine z_ev_gs 1 (c1 := (241, (if ¬ z_c b6 = 0 then 11 else 9), [some (z_r 33 0), some (z_i (x1)), some (z_i (x2)), none, none], [], (true, X1, I2, J3))) rfl ?_
  refine z_ev_ifcn (fun e7 => ?_) (fun e7 => ?_)
  · have h17 := h5.1 e7
    refine z_ev_gs 3 (c1 := (241, 14, [some (z_r 33 0), some (z_i (x1)), some (z_i (x2)), none, none], [z_i (x2), z_i (x1), z_r 33 0], (true, X1, I2, J3))) rfl ?_
    obtain ⟨b13, X8, I9, J10, g11, h12⟩ := h17
    refine z_ev_ca rfl rfl g11 ?_
    refine z_ev_gs 1 (c1 := (241, (if ¬ z_c b13 = 0 then 23 else 20), [some (z_r 33 0), some (z_i (x1)), some (z_i (x2)), none, none], [], (true, X8, I9, J10))) rfl ?_
    refine z_ev_ifcn (fun e14 => ?_) (fun e14 => ?_)
    · have h15 := h12.1 e14
      refine z_ev_gs 4 (c1 := (241, 28, [some (z_r 33 0), some (z_i (x1)), some (z_i (x2)), some (z_i 0), some (z_i 0)], [], (true, X8, I9, J10))) rfl ?_
      exact h15
    · have h16 := h12.2 e14
      refine z_ev_gs 1 (c1 := (241, 22, [some (z_r 33 0), some (z_i (x1)), some (z_i (x2)), none, none], [z_i (-3)], (true, X8, I9, J10))) rfl ?_
      rw [h16]
      exact z_ev_rt rfl
  · have h18 := h5.2 e7
    refine z_ev_gs 1 (c1 := (241, 10, [some (z_r 33 0), some (z_i (x1)), some (z_i (x2)), none, none], [z_i (-1)], (true, X1, I2, J3))) rfl ?_
    rw [h18]
    exact z_ev_rt rfl
theorem z_q241_28 {d : Nat} {r : Option z_V × z_M} {X : z_X} {I : Nat → Nat → Nat → Int32} {J : Nat → Nat → Nat → Int64} (x1 : Int32) (x2 : Int32) (x3 : Int32) (x4 : Int32)
    (h : (((4 : Int32) ≤ x4 → r = (some (z_i (x3)), (true, X, I, J))) ∧ (x4 < (4 : Int32) → ((¬ (((I 33 0 35) >>> (x4 &&& 31)) &&& (1 : Int32)) = (1 : Int32) → z_ev (d + 7) (241, 28, [some (z_r 33 0), some (z_i (x1)), some (z_i (x2)), some (z_i (x3 ||| (0 : Int32))), some (z_i (x4 + (1 : Int32)))], [], (true, X, I, J)) r) ∧ ((((I 33 0 35) >>> (x4 &&& 31)) &&& (1 : Int32)) = (1 : Int32) → (∃ k21 : Nat, x4 = Int32.ofNat k21 ∧ k21 < 4 ∧ ((¬ (I 52 0 k21) = (I 33 0 34) → z_ev (d + 7) (241, 28, [some (z_r 33 0), some (z_i (x1)), some (z_i (x2)), some (z_i (x3 ||| (0 : Int32))), some (z_i (x4 + (1 : Int32)))], [], (true, X, I, J)) r) ∧ ((I 52 0 k21) = (I 33 0 34) → z_ev (d + 7) (241, 28, [some (z_r 33 0), some (z_i (x1)), some (z_i (x2)), some (z_i (x3 ||| ((1 : Int32) <<< (x4 &&& 31)))), some (z_i (x4 + (1 : Int32)))], [], (true, X, I, J)) r)))))))) :
    z_ev (d + 7) ((241, 28, [some (z_r 33 0), some (z_i (x1)), some (z_i (x2)), some (z_i (x3)), some (z_i (x4))], [], (true, X, I, J))) r := by
  refine z_ev_gs 3 (c1 := (241, (if (4 : Int32) ≤ x4 then 78 else 34), [some (z_r 33 0), some (z_i (x1)), some (z_i (x2)), some (z_i (x3)), some (z_i (x4))], [], (true, X, I, J))) rfl ?_
  refine z_ev_ifle (fun e19 => ?_) (fun e19 => ?_)
  · have h30 := h.1 e19
    refine z_ev_gs 1 (c1 := (241, 79, [some (z_r 33 0), some (z_i (x1)), some (z_i (x2)), some (z_i (x3)), some (z_i (x4))], [z_i (x3)], (true, X, I, J))) rfl ?_
    rw [h30]
    exact z_ev_rt rfl
  · have h31 := h.2 e19
    refine z_ev_gs 9 (c1 := (241, (if ¬ (((I 33 0 35) >>> (x4 &&& 31)) &&& (1 : Int32)) = (1 : Int32) then 69 else 48), [some (z_r 33 0), some (z_i (x1)), some (z_i (x2)), some (z_i (x3)), some (z_i (x4))], [z_i (x3)], (true, X, I, J))) rfl ?_
    refine z_ev_ifn (fun e20 => ?_) (fun e20 => ?_)
    · have h28 := h31.1 e20
      refine z_ev_gs 5 (c1 := (241, 28, [some (z_r 33 0), some (z_i (x1)), some (z_i (x2)), some (z_i (x3 ||| (0 : Int32))), some (z_i (x4 + (1 : Int32)))], [], (true, X, I, J))) rfl ?_
      exact h28
    · have h29 := h31.2 e20
      refine z_ev_gs 3 (c1 := (241, 54, [some (z_r 33 0), some (z_i (x1)), some (z_i (x2)), some (z_i (x3)), some (z_i (x4))], [z_i (x4), z_r 52 0, z_i (x3)], (true, X, I, J))) rfl ?_
      obtain ⟨k21, e22, e23, h24⟩ := h29
      refine z_ev_iald (t := 52) (i := 0) (k := k21) (n := 4) rfl rfl e22 e23 (by decide) ?_
      refine z_ev_gs 3 (c1 := (241, (if ¬ (I 52 0 k21) = (I 33 0 34) then 69 else 62), [some (z_r 33 0), some (z_i (x1)), some (z_i (x2)), some (z_i (x3)), some (z_i (x4))], [z_i (x3)], (true, X, I, J))) rfl ?_
      refine z_ev_ifn (fun e25 => ?_) (fun e25 => ?_)
      · have h26 := h24.1 e25
        refine z_ev_gs 5 (c1 := (241, 28, [some (z_r 33 0), some (z_i (x1)), some (z_i (x2)), some (z_i (x3 ||| (0 : Int32))), some (z_i (x4 + (1 : Int32)))], [], (true, X, I, J))) rfl ?_
        exact h26
      · have h27 := h24.2 e25
        refine z_ev_gs 8 (c1 := (241, 28, [some (z_r 33 0), some (z_i (x1)), some (z_i (x2)), some (z_i (x3 ||| ((1 : Int32) <<< (x4 &&& 31)))), some (z_i (x4 + (1 : Int32)))], [], (true, X, I, J))) rfl ?_
        exact h27
