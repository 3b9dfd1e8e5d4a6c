/-! segments: nets, counted; printed by wip/whole/emit_seg.py -/
theorem z_q26_e {d : Nat} {r : Option z_V × z_M} {X : z_X} {I : Nat → Nat → Nat → Int32} {J : Nat → Nat → Nat → Int64} (q0 : Nat) (hq0 : q0 < 10)
    (h : z_ev (d + 1) (26, 4, [some (z_r 13 q0), some (z_i 0), some (z_i 0)], [], (true, X, I, J)) r) :
    z_ev (d + 1) (z_en 26 [z_r 13 q0] (true, X, I, J)) r := by
  show z_ev (d + 1) (26, 0, [some (z_r 13 q0), none, none], [], (true, X, I, J)) r
  refine z_ev_gs 4 (c1 := (26, 4, [some (z_r 13 q0), some (z_i 0), some (z_i 0)], [], (true, X, I, J))) rfl ?_
  exact h
theorem z_q26_4 {d : Nat} {r : Option z_V × z_M} {X : z_X} {I : Nat → Nat → Nat → Int32} {J : Nat → Nat → Nat → Int64} (q0 : Nat) (hq0 : q0 < 10) (x1 : Int32) (x2 : Int32)
    (h : (((I 13 q0 1) ≤ x2 → r = (some (z_i (x1 / (2 : Int32))), (true, X, I, J))) ∧ (x2 < (I 13 q0 1) → (∃ k2 : Nat, x2 = Int32.ofNat k2 ∧ k2 < 10 ∧ z_ev (d + 1) (26, 4, [some (z_r 13 q0), some (z_i (x1 + (z_bc (I 14 q0 k2)))), some (z_i (x2 + (1 : Int32)))], [], (true, X, I, J)) r)))) :
    z_ev (d + 1) ((26, 4, [some (z_r 13 q0), some (z_i (x1)), some (z_i (x2))], [], (true, X, I, J))) r := by
  refine z_ev_gs 2 (c1 := (26, 6, [some (z_r 13 q0), some (z_i (x1)), some (z_i (x2))], [z_r 13 q0, z_i (x2)], (true, X, I, J))) rfl ?_
  refine z_ev_gi (c1 := (26, 9, [some (z_r 13 q0), some (z_i (x1)), some (z_i (x2))], [z_i (I 13 q0 1), z_i (x2)], (true, X, I, J))) rfl hq0 ?_
  refine z_ev_gs 1 (c1 := (26, (if (I 13 q0 1) ≤ x2 then 30 else 12), [some (z_r 13 q0), some (z_i (x1)), some (z_i (x2))], [], (true, X, I, J))) rfl ?_
  refine z_ev_ifle (fun e1 => ?_) (fun e1 => ?_)
  · have h6 := h.1 e1
    refine z_ev_gs 2 (c1 := (26, 32, [some (z_r 13 q0), some (z_i (x1)), some (z_i (x2))], [z_i 2, z_i (x1)], (true, X, I, J))) rfl ?_
    refine z_ev_dvi (w1 := (2 : Int32)) (c1 := (26, 33, [some (z_r 13 q0), some (z_i (x1)), some (z_i (x2))], [z_i (x1 / (2 : Int32))], (true, X, I, J))) rfl (by decide) ?_
    rw [h6]
    exact z_ev_rt rfl
  · have h7 := h.2 e1
    refine z_ev_gs 2 (c1 := (26, 14, [some (z_r 13 q0), some (z_i (x1)), some (z_i (x2))], [z_r 13 q0, z_i (x1)], (true, X, I, J))) rfl ?_
    refine z_ev_gi (c1 := (26, 17, [some (z_r 13 q0), some (z_i (x1)), some (z_i (x2))], [z_r 14 q0, z_i (x1)], (true, X, I, J))) rfl hq0 ?_
    refine z_ev_gs 1 (c1 := (26, 18, [some (z_r 13 q0), some (z_i (x1)), some (z_i (x2))], [z_i (x2), z_r 14 q0, z_i (x1)], (true, X, I, J))) rfl ?_
    obtain ⟨k2, e3, e4, h5⟩ := h7
    refine z_ev_iald (t := 14) (i := q0) (k := k2) (n := 10) rfl (z_gt hq0) e3 e4 (by decide) ?_
    refine z_ev_ca rfl rfl (z_p275 _) ?_
    refine z_ev_gs 4 (c1 := (26, 4, [some (z_r 13 q0), some (z_i (x1 + (z_bc (I 14 q0 k2)))), some (z_i (x2 + (1 : Int32)))], [], (true, X, I, J))) rfl ?_
    exact h5
theorem z_q171_e {d : Nat} {r : Option z_V × z_M} {X : z_X} {I : Nat → Nat → Nat → Int32} {J : Nat → Nat → Nat → Int64} (x1 : Int32)
    (h : z_ev (d + 1) (171, 4, [some (z_r 33 0), some (z_i (x1)), some (z_i 0), some (z_i 0)], [], (true, X, I, J)) r) :
    z_ev (d + 1) (z_en 171 [z_r 33 0, z_i (x1)] (true, X, I, J)) r := by
  show z_ev (d + 1) (171, 0, [some (z_r 33 0), some (z_i (x1)), none, none], [], (true, X, I, J)) r
  refine z_ev_gs 4 (c1 := (171, 4, [some (z_r 33 0), some (z_i (x1)), some (z_i 0), some (z_i 0)], [], (true, X, I, J))) rfl ?_
  exact h
theorem z_q171_4 {d : Nat} {r : Option z_V × z_M} {X : z_X} {I : Nat → Nat → Nat → Int32} {J : Nat → Nat → Nat → Int64} (x1 : Int32) (x2 : Int32) (x3 : Int32)
    (h : (∃ k1 : Nat, x1 = Int32.ofNat k1 ∧ k1 < 4 ∧ (((I 34 0 k1) ≤ x3 → r = (some (z_i (x2 / (2 : Int32))), (true, X, I, J))) ∧ (x3 < (I 34 0 k1) → (∃ k6 : Nat, (((10 : Int32) * x1) + x3) = Int32.ofNat k6 ∧ k6 < 40 ∧ (∃ (v15 : Int32) (X10 : z_X) (I11 : Nat → Nat → Nat → Int32) (J12 : Nat → Nat → Nat → Int64), z_ev d (z_en 170 [z_i (I 35 0 k6)] (true, X, I, J)) (some (z_i (v15)), (true, X10, I11, J12)) ∧ z_ev (d + 1) (171, 4, [some (z_r 33 0), some (z_i (x1)), some (z_i (x2 + v15)), some (z_i (x3 + (1 : Int32)))], [], (true, X10, I11, J12)) r)))))) :
    z_ev (d + 1) ((171, 4, [some (z_r 33 0), some (z_i (x1)), some (z_i (x2)), some (z_i (x3))], [], (true, X, I, J))) r := by
  refine z_ev_gs 4 (c1 := (171, 10, [some (z_r 33 0), some (z_i (x1)), some (z_i (x2)), some (z_i (x3))], [z_i (x1), z_r 34 0, z_i (x3)], (true, X, I, J))) rfl ?_
  obtain ⟨k1, e2, e3, h4⟩ := h
  refine z_ev_iald (t := 34) (i := 0) (k := k1) (n := 4) rfl rfl e2 e3 (by decide) ?_
  refine z_ev_gs 1 (c1 := (171, (if (I 34 0 k1) ≤ x3 then 37 else 14), [some (z_r 33 0), some (z_i (x1)), some (z_i (x2)), some (z_i (x3))], [], (true, X, I, J))) rfl ?_
  refine z_ev_ifle (fun e5 => ?_) (fun e5 => ?_)
  · have h16 := h4.1 e5
    refine z_ev_gs 2 (c1 := (171, 39, [some (z_r 33 0), some (z_i (x1)), some (z_i (x2)), some (z_i (x3))], [z_i 2, z_i (x2)], (true, X, I, J))) rfl ?_
    refine z_ev_dvi (w1 := (2 : Int32)) (c1 := (171, 40, [some (z_r 33 0), some (z_i (x1)), some (z_i (x2)), some (z_i (x3))], [z_i (x2 / (2 : Int32))], (true, X, I, J))) rfl (by decide) ?_
    rw [h16]
    exact z_ev_rt rfl
  · have h17 := h4.2 e5
    refine z_ev_gs 8 (c1 := (171, 25, [some (z_r 33 0), some (z_i (x1)), some (z_i (x2)), some (z_i (x3))], [z_i (((10 : Int32) * x1) + x3), z_r 35 0, z_i (x2)], (true, X, I, J))) rfl ?_
    obtain ⟨k6, e7, e8, h9⟩ := h17
    refine z_ev_iald (t := 35) (i := 0) (k := k6) (n := 40) rfl rfl e7 e8 (by decide) ?_
    obtain ⟨v15, X10, I11, J12, g13, h14⟩ := h9
    refine z_ev_ca rfl rfl g13 ?_
    refine z_ev_gs 4 (c1 := (171, 4, [some (z_r 33 0), some (z_i (x1)), some (z_i (x2 + v15)), some (z_i (x3 + (1 : Int32)))], [], (true, X10, I11, J12))) rfl ?_
    exact h14
