/-! segments: sets of posts counted; printed by wip/whole/emit_seg.py -/
theorem z_q44_e {d : Nat} {r : Option z_V × z_M} {X : z_X} {I : Nat → Nat → Nat → Int32} {J : Nat → Nat → Nat → Int64} (q0 : Nat) (hq0 : q0 < 2) (q1 : Nat) (hq1 : q1 < 10) (x2 : Int32) (x3 : Int32)
    (h : z_ev (d + 1) (44, 6, [some (z_r 24 q0), some (z_r 13 q1), some (z_i (x2)), some (z_i (x3)), some (z_i 0), some (z_i 0)], [], (true, X, I, J)) r) :
    z_ev (d + 1) (z_en 44 [z_r 24 q0, z_r 13 q1, z_i (x2), z_i (x3)] (true, X, I, J)) r := by
  show z_ev (d + 1) (44, 0, [some (z_r 24 q0), some (z_r 13 q1), some (z_i (x2)), some (z_i (x3)), none, none], [], (true, X, I, J)) r
  refine z_ev_gs 4 (c1 := (44, 6, [some (z_r 24 q0), some (z_r 13 q1), some (z_i (x2)), some (z_i (x3)), some (z_i 0), some (z_i 0)], [], (true, X, I, J))) rfl ?_
  exact h
theorem z_q44_6 {d : Nat} {r : Option z_V × z_M} {X : z_X} {I : Nat → Nat → Nat → Int32} {J : Nat → Nat → Nat → Int64} (q0 : Nat) (hq0 : q0 < 2) (q1 : Nat) (hq1 : q1 < 10) (x2 : Int32) (x3 : Int32) (x4 : Int32) (x5 : Int32)
    (h : ((x2 ≤ x5 → r = (some (z_i (x4)), (true, X, I, J))) ∧ (x5 < x2 → (∃ k2 : Nat, x5 = Int32.ofNat k2 ∧ k2 < 4 ∧ (∃ (b11 : Bool) (X6 : z_X) (I7 : Nat → Nat → Nat → Int32) (J8 : Nat → Nat → Nat → Int64), z_ev d (z_en 22 [z_r 13 q1, z_i (I 26 q0 k2), z_i (x3)] (true, X, I, J)) (some (z_i (z_c b11)), (true, X6, I7, J8)) ∧ ((b11 = false → z_ev (d + 1) (44, 6, [some (z_r 24 q0), some (z_r 13 q1), some (z_i (x2)), some (z_i (x3)), some (z_i (x4)), some (z_i (x5 + (1 : Int32)))], [], (true, X6, I7, J8)) r) ∧ (b11 = true → z_ev (d + 1) (44, 6, [some (z_r 24 q0), some (z_r 13 q1), some (z_i (x2)), some (z_i (x3)), some (z_i (x4 ||| ((1 : Int32) <<< (((z_pr x2) + x5) &&& 31)))), some (z_i (x5 + (1 : Int32)))], [], (true, X6, I7, J8)) r))))))) :
    z_ev (d + 1) ((44, 6, [some (z_r 24 q0), some (z_r 13 q1), some (z_i (x2)), some (z_i (x3)), some (z_i (x4)), some (z_i (x5))], [], (true, X, I, J))) r := by
  refine z_ev_gs 3 (c1 := (44, (if x2 ≤ x5 then 47 else 12), [some (z_r 24 q0), some (z_r 13 q1), some (z_i (x2)), some (z_i (x3)), some (z_i (x4)), some (z_i (x5))], [], (true, X, I, J))) rfl ?_
  refine z_ev_ifle (fun e1 => ?_) (fun e1 => ?_)
  · have h15 := h.1 e1
    refine z_ev_gs 1 (c1 := (44, 49, [some (z_r 24 q0), some (z_r 13 q1), some (z_i (x2)), some (z_i (x3)), some (z_i (x4)), some (z_i (x5))], [z_i (x4)], (true, X, I, J))) rfl ?_
    rw [h15]
    exact z_ev_rt rfl
  · have h16 := h.2 e1
    refine z_ev_gs 2 (c1 := (44, 14, [some (z_r 24 q0), some (z_r 13 q1), some (z_i (x2)), some (z_i (x3)), some (z_i (x4)), some (z_i (x5))], [z_r 24 q0, z_r 13 q1], (true, X, I, J))) rfl ?_
    refine z_ev_gi (c1 := (44, 17, [some (z_r 24 q0), some (z_r 13 q1), some (z_i (x2)), some (z_i (x3)), some (z_i (x4)), some (z_i (x5))], [z_r 26 q0, z_r 13 q1], (true, X, I, J))) rfl hq0 ?_
    refine z_ev_gs 1 (c1 := (44, 19, [some (z_r 24 q0), some (z_r 13 q1), some (z_i (x2)), some (z_i (x3)), some (z_i (x4)), some (z_i (x5))], [z_i (x5), z_r 26 q0, z_r 13 q1], (true, X, I, J))) rfl ?_
    obtain ⟨k2, e3, e4, h5⟩ := h16
    refine z_ev_iald (t := 26) (i := q0) (k := k2) (n := 4) rfl (z_gt hq0) e3 e4 (by decide) ?_
    refine z_ev_gs 1 (c1 := (44, 21, [some (z_r 24 q0), some (z_r 13 q1), some (z_i (x2)), some (z_i (x3)), some (z_i (x4)), some (z_i (x5))], [z_i (x3), z_i (I 26 q0 k2), z_r 13 q1], (true, X, I, J))) rfl ?_
    obtain ⟨b11, X6, I7, J8, g9, h10⟩ := h5
    refine z_ev_cg rfl hq1 rfl g9 ?_
    refine z_ev_gs 1 (c1 := (44, (if z_c b11 = 0 then 41 else 27), [some (z_r 24 q0), some (z_r 13 q1), some (z_i (x2)), some (z_i (x3)), some (z_i (x4)), some (z_i (x5))], [], (true, X6, I7, J8))) rfl ?_
    refine z_ev_ifc (fun e12 => ?_) (fun e12 => ?_)
    · have h13 := h10.1 e12
      refine z_ev_gs 2 (c1 := (44, 6, [some (z_r 24 q0), some (z_r 13 q1), some (z_i (x2)), some (z_i (x3)), some (z_i (x4)), some (z_i (x5 + (1 : Int32)))], [], (true, X6, I7, J8))) rfl ?_
      exact h13
    · have h14 := h10.2 e12
      refine z_ev_gs 3 (c1 := (44, 31, [some (z_r 24 q0), some (z_r 13 q1), some (z_i (x2)), some (z_i (x3)), some (z_i (x4)), some (z_i (x5))], [z_i (x2), z_i 1, z_i (x4)], (true, X6, I7, J8))) rfl ?_
      refine z_ev_ca rfl rfl (z_p126 _) ?_
      refine z_ev_gs 7 (c1 := (44, 6, [some (z_r 24 q0), some (z_r 13 q1), some (z_i (x2)), some (z_i (x3)), some (z_i (x4 ||| ((1 : Int32) <<< (((z_pr x2) + x5) &&& 31)))), some (z_i (x5 + (1 : Int32)))], [], (true, X6, I7, J8))) rfl ?_
      exact h14
theorem z_q43_e {d : Nat} {r : Option z_V × z_M} {X : z_X} {I : Nat → Nat → Nat → Int32} {J : Nat → Nat → Nat → Int64} (q0 : Nat) (hq0 : q0 < 2) (q1 : Nat) (hq1 : q1 < 10) (x2 : Int32) (x3 : Int32) (x4 : Int32) (x5 : Int32)
    (h : ((x2 ≤ x3 → (∃ k2 : Nat, (x5 &&& (63 : Int32)) = Int32.ofNat k2 ∧ k2 < 64 ∧ (∃ k6 : Nat, ((z_stc.getD 1 []).getD k2 0) = Int32.ofNat k6 ∧ k6 < 11 ∧ r = (none, (true, X, (z_up I 25 q0 k6 ((I 25 q0 k6) + (1 : Int32))), J))))) ∧ (x3 < x2 → ((x3 < (4 : Int32) → z_ev (d + 1) (43, 43, [some (z_r 24 q0), some (z_r 13 q1), some (z_i (x2)), some (z_i (x3)), some (z_i (x4)), some (z_i (x5)), some (z_i ((I 13 q1 1) - (x2 - x3))), some (z_i (x4))], [], (true, X, I, J)) r) ∧ ((4 : Int32) ≤ x3 → (∃ k11 : Nat, (x5 &&& (63 : Int32)) = Int32.ofNat k11 ∧ k11 < 64 ∧ (∃ k15 : Nat, ((z_stc.getD 1 []).getD k11 0) = Int32.ofNat k15 ∧ k15 < 11 ∧ r = (none, (true, X, (z_up I 25 q0 k15 ((I 25 q0 k15) + (1 : Int32))), J))))))))) :
    z_ev (d + 1) (z_en 43 [z_r 24 q0, z_r 13 q1, z_i (x2), z_i (x3), z_i (x4), z_i (x5)] (true, X, I, J)) r := by
  show z_ev (d + 1) (43, 0, [some (z_r 24 q0), some (z_r 13 q1), some (z_i (x2)), some (z_i (x3)), some (z_i (x4)), some (z_i (x5)), none, none], [], (true, X, I, J)) r
  refine z_ev_gs 3 (c1 := (43, (if x2 ≤ x3 then 10 else 5), [some (z_r 24 q0), some (z_r 13 q1), some (z_i (x2)), some (z_i (x3)), some (z_i (x4)), some (z_i (x5)), none, none], [], (true, X, I, J))) rfl ?_
  refine z_ev_ifle (fun e1 => ?_) (fun e1 => ?_)
  · have h21 := h.1 e1
    refine z_ev_gs 1 (c1 := (43, 11, [some (z_r 24 q0), some (z_r 13 q1), some (z_i (x2)), some (z_i (x3)), some (z_i (x4)), some (z_i (x5)), none, none], [z_r 24 q0], (true, X, I, J))) rfl ?_
    refine z_ev_gi (c1 := (43, 14, [some (z_r 24 q0), some (z_r 13 q1), some (z_i (x2)), some (z_i (x3)), some (z_i (x4)), some (z_i (x5)), none, none], [z_r 25 q0], (true, X, I, J))) rfl hq0 ?_
    refine z_ev_gs 4 (c1 := (43, 22, [some (z_r 24 q0), some (z_r 13 q1), some (z_i (x2)), some (z_i (x3)), some (z_i (x4)), some (z_i (x5)), none, none], [z_i (x5 &&& (63 : Int32)), z_r 66 1, z_r 25 q0], (true, X, I, J))) rfl ?_
    obtain ⟨k2, e3, e4, h5⟩ := h21
    refine z_ev_sld (k := k2) (n := 64) rfl e3 e4 (by decide) ?_
    refine z_ev_gs 1 (c1 := (43, 24, [some (z_r 24 q0), some (z_r 13 q1), some (z_i (x2)), some (z_i (x3)), some (z_i (x4)), some (z_i (x5)), none, none], [z_i ((z_stc.getD 1 []).getD k2 0), z_r 25 q0, z_i ((z_stc.getD 1 []).getD k2 0), z_r 25 q0], (true, X, I, J))) rfl ?_
    obtain ⟨k6, e7, e8, h9⟩ := h5
    refine z_ev_iald (t := 25) (i := q0) (k := k6) (n := 11) rfl (z_gt hq0) e7 e8 (by decide) ?_
    refine z_ev_gs 2 (c1 := (43, 27, [some (z_r 24 q0), some (z_r 13 q1), some (z_i (x2)), some (z_i (x3)), some (z_i (x4)), some (z_i (x5)), none, none], [z_i ((I 25 q0 k6) + (1 : Int32)), z_i ((z_stc.getD 1 []).getD k2 0), z_r 25 q0], (true, X, I, J))) rfl ?_
    refine z_ev_iast (t := 25) (i := q0) (k := k6) (n := 11) rfl (z_gt hq0) e7 (Nat.lt_of_lt_of_le e8 (by decide)) (by decide) ?_
    rw [h9]
    exact z_ev_rt rfl
  · have h22 := h.2 e1
    refine z_ev_gs 3 (c1 := (43, (if x3 < (4 : Int32) then 29 else 10), [some (z_r 24 q0), some (z_r 13 q1), some (z_i (x2)), some (z_i (x3)), some (z_i (x4)), some (z_i (x5)), none, none], [], (true, X, I, J))) rfl ?_
    refine z_ev_iflt (fun e10 => ?_) (fun e10 => ?_)
    · have h19 := h22.1 e10
      refine z_ev_gs 1 (c1 := (43, 30, [some (z_r 24 q0), some (z_r 13 q1), some (z_i (x2)), some (z_i (x3)), some (z_i (x4)), some (z_i (x5)), none, none], [z_r 13 q1], (true, X, I, J))) rfl ?_
      refine z_ev_gi (c1 := (43, 33, [some (z_r 24 q0), some (z_r 13 q1), some (z_i (x2)), some (z_i (x3)), some (z_i (x4)), some (z_i (x5)), none, none], [z_i (I 13 q1 1)], (true, X, I, J))) rfl hq1 ?_
      refine z_ev_gs 7 (c1 := (43, 43, [some (z_r 24 q0), some (z_r 13 q1), some (z_i (x2)), some (z_i (x3)), some (z_i (x4)), some (z_i (x5)), some (z_i ((I 13 q1 1) - (x2 - x3))), some (z_i (x4))], [], (true, X, I, J))) rfl ?_
      exact h19
    · have h20 := h22.2 e10
      refine z_ev_gs 1 (c1 := (43, 11, [some (z_r 24 q0), some (z_r 13 q1), some (z_i (x2)), some (z_i (x3)), some (z_i (x4)), some (z_i (x5)), none, none], [z_r 24 q0], (true, X, I, J))) rfl ?_
      refine z_ev_gi (c1 := (43, 14, [some (z_r 24 q0), some (z_r 13 q1), some (z_i (x2)), some (z_i (x3)), some (z_i (x4)), some (z_i (x5)), none, none], [z_r 25 q0], (true, X, I, J))) rfl hq0 ?_
      refine z_ev_gs 4 (c1 := (43, 22, [some (z_r 24 q0), some (z_r 13 q1), some (z_i (x2)), some (z_i (x3)), some (z_i (x4)), some (z_i (x5)), none, none], [z_i (x5 &&& (63 : Int32)), z_r 66 1, z_r 25 q0], (true, X, I, J))) rfl ?_
      obtain ⟨k11, e12, e13, h14⟩ := h20
      refine z_ev_sld (k := k11) (n := 64) rfl e12 e13 (by decide) ?_
      refine z_ev_gs 1 (c1 := (43, 24, [some (z_r 24 q0), some (z_r 13 q1), some (z_i (x2)), some (z_i (x3)), some (z_i (x4)), some (z_i (x5)), none, none], [z_i ((z_stc.getD 1 []).getD k11 0), z_r 25 q0, z_i ((z_stc.getD 1 []).getD k11 0), z_r 25 q0], (true, X, I, J))) rfl ?_
      obtain ⟨k15, e16, e17, h18⟩ := h14
      refine z_ev_iald (t := 25) (i := q0) (k := k15) (n := 11) rfl (z_gt hq0) e16 e17 (by decide) ?_
      refine z_ev_gs 2 (c1 := (43, 27, [some (z_r 24 q0), some (z_r 13 q1), some (z_i (x2)), some (z_i (x3)), some (z_i (x4)), some (z_i (x5)), none, none], [z_i ((I 25 q0 k15) + (1 : Int32)), z_i ((z_stc.getD 1 []).getD k11 0), z_r 25 q0], (true, X, I, J))) rfl ?_
      refine z_ev_iast (t := 25) (i := q0) (k := k15) (n := 11) rfl (z_gt hq0) e16 (Nat.lt_of_lt_of_le e17 (by decide)) (by decide) ?_
      rw [h18]
      exact z_ev_rt rfl
theorem z_q43_43 {d : Nat} {r : Option z_V × z_M} {X : z_X} {I : Nat → Nat → Nat → Int32} {J : Nat → Nat → Nat → Int64} (q0 : Nat) (hq0 : q0 < 2) (q1 : Nat) (hq1 : q1 < 10) (x2 : Int32) (x3 : Int32) (x4 : Int32) (x5 : Int32) (x6 : Int32) (x7 : Int32)
    (h : ((x6 < x7 → r = (none, (true, X, I, J))) ∧ (x7 ≤ x6 → (∃ k24 : Nat, x3 = Int32.ofNat k24 ∧ k24 < 4 ∧ (∃ (v33 : Int32) (X28 : z_X) (I29 : Nat → Nat → Nat → Int32) (J30 : Nat → Nat → Nat → Int64), z_ev d (z_en 44 [z_r 24 q0, z_r 13 q1, z_i (x3), z_i (x7)] (true, X, (z_up I 26 q0 k24 x7), J)) (some (z_i (v33)), (true, X28, I29, J30)) ∧ (∃ (X34 : z_X) (I35 : Nat → Nat → Nat → Int32) (J36 : Nat → Nat → Nat → Int64), z_ev d (z_en 43 [z_r 24 q0, z_r 13 q1, z_i (x2), z_i (x3 + (1 : Int32)), z_i (x7 + (1 : Int32)), z_i (x5 ||| v33)] (true, X28, I29, J30)) (none, (true, X34, I35, J36)) ∧ z_ev (d + 1) (43, 43, [some (z_r 24 q0), some (z_r 13 q1), some (z_i (x2)), some (z_i (x3)), some (z_i (x4)), some (z_i (x5)), some (z_i (x6)), some (z_i (x7 + (1 : Int32)))], [], (true, X34, I35, J36)) r)))))) :
    z_ev (d + 1) ((43, 43, [some (z_r 24 q0), some (z_r 13 q1), some (z_i (x2)), some (z_i (x3)), some (z_i (x4)), some (z_i (x5)), some (z_i (x6)), some (z_i (x7))], [], (true, X, I, J))) r := by
  refine z_ev_gs 3 (c1 := (43, (if x6 < x7 then 88 else 50), [some (z_r 24 q0), some (z_r 13 q1), some (z_i (x2)), some (z_i (x3)), some (z_i (x4)), some (z_i (x5)), some (z_i (x6)), some (z_i (x7))], [], (true, X, I, J))) rfl ?_
  refine z_ev_iflt (fun e23 => ?_) (fun e23 => ?_)
  · have h39 := h.1 e23
    rw [h39]
    exact z_ev_rt rfl
  · have h40 := h.2 e23
    refine z_ev_gs 1 (c1 := (43, 51, [some (z_r 24 q0), some (z_r 13 q1), some (z_i (x2)), some (z_i (x3)), some (z_i (x4)), some (z_i (x5)), some (z_i (x6)), some (z_i (x7))], [z_r 24 q0], (true, X, I, J))) rfl ?_
    refine z_ev_gi (c1 := (43, 54, [some (z_r 24 q0), some (z_r 13 q1), some (z_i (x2)), some (z_i (x3)), some (z_i (x4)), some (z_i (x5)), some (z_i (x6)), some (z_i (x7))], [z_r 26 q0], (true, X, I, J))) rfl hq0 ?_
    refine z_ev_gs 2 (c1 := (43, 57, [some (z_r 24 q0), some (z_r 13 q1), some (z_i (x2)), some (z_i (x3)), some (z_i (x4)), some (z_i (x5)), some (z_i (x6)), some (z_i (x7))], [z_i (x7), z_i (x3), z_r 26 q0], (true, X, I, J))) rfl ?_
    obtain ⟨k24, e25, e26, h27⟩ := h40
    refine z_ev_iast (t := 26) (i := q0) (k := k24) (n := 4) rfl (z_gt hq0) e25 e26 (by decide) ?_
    refine z_ev_gs 14 (c1 := (43, 75, [some (z_r 24 q0), some (z_r 13 q1), some (z_i (x2)), some (z_i (x3)), some (z_i (x4)), some (z_i (x5)), some (z_i (x6)), some (z_i (x7))], [z_i (x7), z_i (x3), z_r 13 q1, z_r 24 q0, z_i (x5), z_i (x7 + (1 : Int32)), z_i (x3 + (1 : Int32)), z_i (x2), z_r 13 q1, z_r 24 q0], (true, X, (z_up I 26 q0 k24 x7), J))) rfl ?_
    obtain ⟨v33, X28, I29, J30, g31, h32⟩ := h27
    refine z_ev_cg rfl hq0 rfl g31 ?_
    refine z_ev_gs 1 (c1 := (43, 79, [some (z_r 24 q0), some (z_r 13 q1), some (z_i (x2)), some (z_i (x3)), some (z_i (x4)), some (z_i (x5)), some (z_i (x6)), some (z_i (x7))], [z_i (x5 ||| v33), z_i (x7 + (1 : Int32)), z_i (x3 + (1 : Int32)), z_i (x2), z_r 13 q1, z_r 24 q0], (true, X28, I29, J30))) rfl ?_
    obtain ⟨X34, I35, J36, g37, h38⟩ := h32
    refine z_ev_cg rfl hq0 rfl g37 ?_
    refine z_ev_gs 2 (c1 := (43, 43, [some (z_r 24 q0), some (z_r 13 q1), some (z_i (x2)), some (z_i (x3)), some (z_i (x4)), some (z_i (x5)), some (z_i (x6)), some (z_i (x7 + (1 : Int32)))], [], (true, X34, I35, J36))) rfl ?_
    exact h38
theorem z_q42_e {d : Nat} {r : Option z_V × z_M} {X : z_X} {I : Nat → Nat → Nat → Int32} {J : Nat → Nat → Nat → Int64} (q0 : Nat) (hq0 : q0 < 2) (q1 : Nat) (hq1 : q1 < 10) (x2 : Int32)
    (h : z_ev (d + 15) (42, 2, [some (z_r 24 q0), some (z_r 13 q1), some (z_i (x2)), some (z_i 0)], [], (true, X, I, J)) r) :
    z_ev (d + 15) (z_en 42 [z_r 24 q0, z_r 13 q1, z_i (x2)] (true, X, I, J)) r := by
  show z_ev (d + 15) (42, 0, [some (z_r 24 q0), some (z_r 13 q1), some (z_i (x2)), none], [], (true, X, I, J)) r
  refine z_ev_gs 2 (c1 := (42, 2, [some (z_r 24 q0), some (z_r 13 q1), some (z_i (x2)), some (z_i 0)], [], (true, X, I, J))) rfl ?_
  exact h
theorem z_q42_2 {d : Nat} {r : Option z_V × z_M} {X : z_X} {I : Nat → Nat → Nat → Int32} {J : Nat → Nat → Nat → Int64} (q0 : Nat) (hq0 : q0 < 2) (q1 : Nat) (hq1 : q1 < 10) (x2 : Int32) (x3 : Int32)
    (h : (((11 : Int32) ≤ x3 → (∃ (X2 : z_X) (I3 : Nat → Nat → Nat → Int32) (J4 : Nat → Nat → Nat → Int64), z_ev (d + 14) (z_en 43 [z_r 24 q0, z_r 13 q1, z_i (x2), z_i 0, z_i 0, z_i 0] (true, X, I, J)) (none, (true, X2, I3, J4)) ∧ r = (none, (true, X2, I3, J4)))) ∧ (x3 < (11 : Int32) → (∃ k7 : Nat, x3 = Int32.ofNat k7 ∧ k7 < 11 ∧ z_ev (d + 15) (42, 2, [some (z_r 24 q0), some (z_r 13 q1), some (z_i (x2)), some (z_i (x3 + (1 : Int32)))], [], (true, X, (z_up I 25 q0 k7 (0 : Int32)), J)) r)))) :
    z_ev (d + 15) ((42, 2, [some (z_r 24 q0), some (z_r 13 q1), some (z_i (x2)), some (z_i (x3))], [], (true, X, I, J))) r := by
  refine z_ev_gs 3 (c1 := (42, (if (11 : Int32) ≤ x3 then 21 else 8), [some (z_r 24 q0), some (z_r 13 q1), some (z_i (x2)), some (z_i (x3))], [], (true, X, I, J))) rfl ?_
  refine z_ev_ifle (fun e1 => ?_) (fun e1 => ?_)
  · have h11 := h.1 e1
    refine z_ev_gs 6 (c1 := (42, 27, [some (z_r 24 q0), some (z_r 13 q1), some (z_i (x2)), some (z_i (x3))], [z_i 0, z_i 0, z_i 0, z_i (x2), z_r 13 q1, z_r 24 q0], (true, X, I, J))) rfl ?_
    obtain ⟨X2, I3, J4, g5, h6⟩ := h11
    refine z_ev_cg rfl hq0 rfl g5 ?_
    rw [h6]
    exact z_ev_rt rfl
  · have h12 := h.2 e1
    refine z_ev_gs 1 (c1 := (42, 9, [some (z_r 24 q0), some (z_r 13 q1), some (z_i (x2)), some (z_i (x3))], [z_r 24 q0], (true, X, I, J))) rfl ?_
    refine z_ev_gi (c1 := (42, 12, [some (z_r 24 q0), some (z_r 13 q1), some (z_i (x2)), some (z_i (x3))], [z_r 25 q0], (true, X, I, J))) rfl hq0 ?_
    refine z_ev_gs 2 (c1 := (42, 14, [some (z_r 24 q0), some (z_r 13 q1), some (z_i (x2)), some (z_i (x3))], [z_i 0, z_i (x3), z_r 25 q0], (true, X, I, J))) rfl ?_
    obtain ⟨k7, e8, e9, h10⟩ := h12
    refine z_ev_iast (t := 25) (i := q0) (k := k7) (n := 11) rfl (z_gt hq0) e8 e9 (by decide) ?_
    refine z_ev_gs 2 (c1 := (42, 2, [some (z_r 24 q0), some (z_r 13 q1), some (z_i (x2)), some (z_i (x3 + (1 : Int32)))], [], (true, X, (z_up I 25 q0 k7 (0 : Int32)), J))) rfl ?_
    exact h10
theorem z_q193_e_35 {d : Nat} {r : Option z_V × z_M} {X : z_X} {I : Nat → Nat → Nat → Int32} {J : Nat → Nat → Nat → Int64} (x2 : Int32) (x3 : Int32)
    (h : z_ev (d + 2) (193, 9, [some (z_r 33 0), some (z_r 35 0), some (z_i (x2)), some (z_i (x3)), some (z_i 0), some (z_i 0), some (z_i 0), none, none], [], (true, X, I, J)) r) :
    z_ev (d + 2) (z_en 193 [z_r 33 0, z_r 35 0, z_i (x2), z_i (x3)] (true, X, I, J)) r := by
  show z_ev (d + 2) (193, 0, [some (z_r 33 0), some (z_r 35 0), some (z_i (x2)), some (z_i (x3)), none, none, none, none, none], [], (true, X, I, J)) r
  refine z_ev_gs 6 (c1 := (193, 9, [some (z_r 33 0), some (z_r 35 0), some (z_i (x2)), some (z_i (x3)), some (z_i 0), some (z_i 0), some (z_i 0), none, none], [], (true, X, I, J))) rfl ?_
  exact h
theorem z_q193_9_35 {d : Nat} {r : Option z_V × z_M} {X : z_X} {I : Nat → Nat → Nat → Int32} {J : Nat → Nat → Nat → Int64} (x2 : Int32) (x3 : Int32) (x4 : Int32) (x5 : Int32) (x6 : Int32) (o7 : Option z_V) (o8 : Option z_V)
    (h : (((10 : Int32) ≤ x6 → (∃ k22 : Nat, (((64 : Int32) * x5) + x4) = Int32.ofNat k22 ∧ k22 < 320 ∧ r = (some (z_i (I 40 0 k22)), (true, X, I, J)))) ∧ (x6 < (10 : Int32) → ((¬ ((x3 >>> (x6 &&& 31)) &&& (1 : Int32)) = 0 → z_ev (d + 2) (193, 34, [some (z_r 33 0), some (z_r 35 0), some (z_i (x2)), some (z_i (x3)), some (z_i (x4)), some (z_i (x5)), some (z_i (x6)), some (z_i 0), some (z_i 0)], [], (true, X, I, J)) r) ∧ (((x3 >>> (x6 &&& 31)) &&& (1 : Int32)) = 0 → z_ev (d + 2) (193, 9, [some (z_r 33 0), some (z_r 35 0), some (z_i (x2)), some (z_i (x3)), some (z_i (x4)), some (z_i (x5)), some (z_i (x6 + (1 : Int32))), o7, o8], [], (true, X, I, J)) r))))) :
    z_ev (d + 2) ((193, 9, [some (z_r 33 0), some (z_r 35 0), some (z_i (x2)), some (z_i (x3)), some (z_i (x4)), some (z_i (x5)), some (z_i (x6)), o7, o8], [], (true, X, I, J))) r := by
  refine z_ev_gs 3 (c1 := (193, (if (10 : Int32) ≤ x6 then 93 else 16), [some (z_r 33 0), some (z_r 35 0), some (z_i (x2)), some (z_i (x3)), some (z_i (x4)), some (z_i (x5)), some (z_i (x6)), o7, o8], [], (true, X, I, J))) rfl ?_
  refine z_ev_ifle (fun e21 => ?_) (fun e21 => ?_)
  · have h29 := h.1 e21
    refine z_ev_gs 7 (c1 := (193, 105, [some (z_r 33 0), some (z_r 35 0), some (z_i (x2)), some (z_i (x3)), some (z_i (x4)), some (z_i (x5)), some (z_i (x6)), o7, o8], [z_i (((64 : Int32) * x5) + x4), z_r 40 0], (true, X, I, J))) rfl ?_
    obtain ⟨k22, e23, e24, h25⟩ := h29
    refine z_ev_iald (t := 40) (i := 0) (k := k22) (n := 320) rfl rfl e23 e24 (by decide) ?_
    rw [h25]
    exact z_ev_rt rfl
  · have h30 := h.2 e21
    refine z_ev_gs 6 (c1 := (193, (if ¬ ((x3 >>> (x6 &&& 31)) &&& (1 : Int32)) = 0 then 28 else 25), [some (z_r 33 0), some (z_r 35 0), some (z_i (x2)), some (z_i (x3)), some (z_i (x4)), some (z_i (x5)), some (z_i (x6)), o7, o8], [], (true, X, I, J))) rfl ?_
    refine z_ev_ifn (fun e26 => ?_) (fun e26 => ?_)
    · have h27 := h30.1 e26
      refine z_ev_gs 4 (c1 := (193, 34, [some (z_r 33 0), some (z_r 35 0), some (z_i (x2)), some (z_i (x3)), some (z_i (x4)), some (z_i (x5)), some (z_i (x6)), some (z_i 0), some (z_i 0)], [], (true, X, I, J))) rfl ?_
      exact h27
    · have h28 := h30.2 e26
      refine z_ev_gs 3 (c1 := (193, 9, [some (z_r 33 0), some (z_r 35 0), some (z_i (x2)), some (z_i (x3)), some (z_i (x4)), some (z_i (x5)), some (z_i (x6 + (1 : Int32))), o7, o8], [], (true, X, I, J))) rfl ?_
      exact h28
theorem z_q193_34_35 {d : Nat} {r : Option z_V × z_M} {X : z_X} {I : Nat → Nat → Nat → Int32} {J : Nat → Nat → Nat → Int64} (x2 : Int32) (x3 : Int32) (x4 : Int32) (x5 : Int32) (x6 : Int32) (x7 : Int32) (x8 : Int32)
    (h : ((x6 ≤ x8 → z_ev (d + 2) (193, 9, [some (z_r 33 0), some (z_r 35 0), some (z_i (x2)), some (z_i (x3)), some (z_i (x4)), some (z_i (x5 + (1 : Int32))), some (z_i (x6 + (1 : Int32))), some (z_i (x7)), some (z_i (x8))], [], (true, X, I, J)) r) ∧ (x8 < x6 → ((¬ ((x3 >>> (x8 &&& 31)) &&& (1 : Int32)) = (1 : Int32) → z_ev (d + 2) (193, 34, [some (z_r 33 0), some (z_r 35 0), some (z_i (x2)), some (z_i (x3)), some (z_i (x4)), some (z_i (x5)), some (z_i (x6)), some (z_i (x7)), some (z_i (x8 + (1 : Int32)))], [], (true, X, I, J)) r) ∧ (((x3 >>> (x8 &&& 31)) &&& (1 : Int32)) = (1 : Int32) → (∃ k33 : Nat, (x2 + x6) = Int32.ofNat k33 ∧ k33 < 40 ∧ z_ev (d + 2) (193, 34, [some (z_r 33 0), some (z_r 35 0), some (z_i (x2)), some (z_i (x3)), some (z_i (x4 ||| ((((I 35 0 k33) >>> (x8 &&& 31)) &&& (1 : Int32)) <<< ((z_bo x7 x5) &&& 31)))), some (z_i (x5)), some (z_i (x6)), some (z_i (x7 + (1 : Int32))), some (z_i (x8 + (1 : Int32)))], [], (true, X, I, J)) r)))))) :
    z_ev (d + 2) ((193, 34, [some (z_r 33 0), some (z_r 35 0), some (z_i (x2)), some (z_i (x3)), some (z_i (x4)), some (z_i (x5)), some (z_i (x6)), some (z_i (x7)), some (z_i (x8))], [], (true, X, I, J))) r := by
  refine z_ev_gs 3 (c1 := (193, (if x6 ≤ x8 then 84 else 41), [some (z_r 33 0), some (z_r 35 0), some (z_i (x2)), some (z_i (x3)), some (z_i (x4)), some (z_i (x5)), some (z_i (x6)), some (z_i (x7)), some (z_i (x8))], [], (true, X, I, J))) rfl ?_
  refine z_ev_ifle (fun e31 => ?_) (fun e31 => ?_)
  · have h39 := h.1 e31
    refine z_ev_gs 3 (c1 := (193, 9, [some (z_r 33 0), some (z_r 35 0), some (z_i (x2)), some (z_i (x3)), some (z_i (x4)), some (z_i (x5 + (1 : Int32))), some (z_i (x6 + (1 : Int32))), some (z_i (x7)), some (z_i (x8))], [], (true, X, I, J))) rfl ?_
    exact h39
  · have h40 := h.2 e31
    refine z_ev_gs 7 (c1 := (193, (if ¬ ((x3 >>> (x8 &&& 31)) &&& (1 : Int32)) = (1 : Int32) then 78 else 51), [some (z_r 33 0), some (z_r 35 0), some (z_i (x2)), some (z_i (x3)), some (z_i (x4)), some (z_i (x5)), some (z_i (x6)), some (z_i (x7)), some (z_i (x8))], [], (true, X, I, J))) rfl ?_
    refine z_ev_ifn (fun e32 => ?_) (fun e32 => ?_)
    · have h37 := h40.1 e32
      refine z_ev_gs 2 (c1 := (193, 34, [some (z_r 33 0), some (z_r 35 0), some (z_i (x2)), some (z_i (x3)), some (z_i (x4)), some (z_i (x5)), some (z_i (x6)), some (z_i (x7)), some (z_i (x8 + (1 : Int32)))], [], (true, X, I, J))) rfl ?_
      exact h37
    · have h38 := h40.2 e32
      refine z_ev_gs 5 (c1 := (193, 58, [some (z_r 33 0), some (z_r 35 0), some (z_i (x2)), some (z_i (x3)), some (z_i (x4)), some (z_i (x5)), some (z_i (x6)), some (z_i (x7)), some (z_i (x8))], [z_i (x2 + x6), z_r 35 0, z_i (x4)], (true, X, I, J))) rfl ?_
      obtain ⟨k33, e34, e35, h36⟩ := h38
      refine z_ev_iald (t := 35) (i := 0) (k := k33) (n := 40) rfl rfl e34 e35 (by decide) ?_
      refine z_ev_gs 6 (c1 := (193, 68, [some (z_r 33 0), some (z_r 35 0), some (z_i (x2)), some (z_i (x3)), some (z_i (x4)), some (z_i (x5)), some (z_i (x6)), some (z_i (x7)), some (z_i (x8))], [z_i (x5), z_i (x7), z_i (((I 35 0 k33) >>> (x8 &&& 31)) &&& (1 : Int32)), z_i (x4)], (true, X, I, J))) rfl ?_
      refine z_ev_ca rfl rfl (z_p160 _ _) ?_
      refine z_ev_gs 6 (c1 := (193, 34, [some (z_r 33 0), some (z_r 35 0), some (z_i (x2)), some (z_i (x3)), some (z_i (x4 ||| ((((I 35 0 k33) >>> (x8 &&& 31)) &&& (1 : Int32)) <<< ((z_bo x7 x5) &&& 31)))), some (z_i (x5)), some (z_i (x6)), some (z_i (x7 + (1 : Int32))), some (z_i (x8 + (1 : Int32)))], [], (true, X, I, J))) rfl ?_
      exact h36
theorem z_q193_e_47 {d : Nat} {r : Option z_V × z_M} {X : z_X} {I : Nat → Nat → Nat → Int32} {J : Nat → Nat → Nat → Int64} (x2 : Int32) (x3 : Int32)
    (h : z_ev (d + 2) (193, 9, [some (z_r 33 0), some (z_r 47 0), some (z_i (x2)), some (z_i (x3)), some (z_i 0), some (z_i 0), some (z_i 0), none, none], [], (true, X, I, J)) r) :
    z_ev (d + 2) (z_en 193 [z_r 33 0, z_r 47 0, z_i (x2), z_i (x3)] (true, X, I, J)) r := by
  show z_ev (d + 2) (193, 0, [some (z_r 33 0), some (z_r 47 0), some (z_i (x2)), some (z_i (x3)), none, none, none, none, none], [], (true, X, I, J)) r
  refine z_ev_gs 6 (c1 := (193, 9, [some (z_r 33 0), some (z_r 47 0), some (z_i (x2)), some (z_i (x3)), some (z_i 0), some (z_i 0), some (z_i 0), none, none], [], (true, X, I, J))) rfl ?_
  exact h
theorem z_q193_9_47 {d : Nat} {r : Option z_V × z_M} {X : z_X} {I : Nat → Nat → Nat → Int32} {J : Nat → Nat → Nat → Int64} (x2 : Int32) (x3 : Int32) (x4 : Int32) (x5 : Int32) (x6 : Int32) (o7 : Option z_V) (o8 : Option z_V)
    (h : (((10 : Int32) ≤ x6 → (∃ k22 : Nat, (((64 : Int32) * x5) + x4) = Int32.ofNat k22 ∧ k22 < 320 ∧ r = (some (z_i (I 40 0 k22)), (true, X, I, J)))) ∧ (x6 < (10 : Int32) → ((¬ ((x3 >>> (x6 &&& 31)) &&& (1 : Int32)) = 0 → z_ev (d + 2) (193, 34, [some (z_r 33 0), some (z_r 47 0), some (z_i (x2)), some (z_i (x3)), some (z_i (x4)), some (z_i (x5)), some (z_i (x6)), some (z_i 0), some (z_i 0)], [], (true, X, I, J)) r) ∧ (((x3 >>> (x6 &&& 31)) &&& (1 : Int32)) = 0 → z_ev (d + 2) (193, 9, [some (z_r 33 0), some (z_r 47 0), some (z_i (x2)), some (z_i (x3)), some (z_i (x4)), some (z_i (x5)), some (z_i (x6 + (1 : Int32))), o7, o8], [], (true, X, I, J)) r))))) :
    z_ev (d + 2) ((193, 9, [some (z_r 33 0), some (z_r 47 0), some (z_i (x2)), some (z_i (x3)), some (z_i (x4)), some (z_i (x5)), some (z_i (x6)), o7, o8], [], (true, X, I, J))) r := by
  refine z_ev_gs 3 (c1 := (193, (if (10 : Int32) ≤ x6 then 93 else 16), [some (z_r 33 0), some (z_r 47 0), some (z_i (x2)), some (z_i (x3)), some (z_i (x4)), some (z_i (x5)), some (z_i (x6)), o7, o8], [], (true, X, I, J))) rfl ?_
  refine z_ev_ifle (fun e21 => ?_) (fun e21 => ?_)
  · have h29 := h.1 e21
    refine z_ev_gs 7 (c1 := (193, 105, [some (z_r 33 0), some (z_r 47 0), some (z_i (x2)), some (z_i (x3)), some (z_i (x4)), some (z_i (x5)), some (z_i (x6)), o7, o8], [z_i (((64 : Int32) * x5) + x4), z_r 40 0], (true, X, I, J))) rfl ?_
    obtain ⟨k22, e23, e24, h25⟩ := h29
    refine z_ev_iald (t := 40) (i := 0) (k := k22) (n := 320) rfl rfl e23 e24 (by decide) ?_
    rw [h25]
    exact z_ev_rt rfl
  · have h30 := h.2 e21
    refine z_ev_gs 6 (c1 := (193, (if ¬ ((x3 >>> (x6 &&& 31)) &&& (1 : Int32)) = 0 then 28 else 25), [some (z_r 33 0), some (z_r 47 0), some (z_i (x2)), some (z_i (x3)), some (z_i (x4)), some (z_i (x5)), some (z_i (x6)), o7, o8], [], (true, X, I, J))) rfl ?_
    refine z_ev_ifn (fun e26 => ?_) (fun e26 => ?_)
    · have h27 := h30.1 e26
      refine z_ev_gs 4 (c1 := (193, 34, [some (z_r 33 0), some (z_r 47 0), some (z_i (x2)), some (z_i (x3)), some (z_i (x4)), some (z_i (x5)), some (z_i (x6)), some (z_i 0), some (z_i 0)], [], (true, X, I, J))) rfl ?_
      exact h27
    · have h28 := h30.2 e26
      refine z_ev_gs 3 (c1 := (193, 9, [some (z_r 33 0), some (z_r 47 0), some (z_i (x2)), some (z_i (x3)), some (z_i (x4)), some (z_i (x5)), some (z_i (x6 + (1 : Int32))), o7, o8], [], (true, X, I, J))) rfl ?_
      exact h28
theorem z_q193_34_47 {d : Nat} {r : Option z_V × z_M} {X : z_X} {I : Nat → Nat → Nat → Int32} {J : Nat → Nat → Nat → Int64} (x2 : Int32) (x3 : Int32) (x4 : Int32) (x5 : Int32) (x6 : Int32) (x7 : Int32) (x8 : Int32)
    (h : ((x6 ≤ x8 → z_ev (d + 2) (193, 9, [some (z_r 33 0), some (z_r 47 0), some (z_i (x2)), some (z_i (x3)), some (z_i (x4)), some (z_i (x5 + (1 : Int32))), some (z_i (x6 + (1 : Int32))), some (z_i (x7)), some (z_i (x8))], [], (true, X, I, J)) r) ∧ (x8 < x6 → ((¬ ((x3 >>> (x8 &&& 31)) &&& (1 : Int32)) = (1 : Int32) → z_ev (d + 2) (193, 34, [some (z_r 33 0), some (z_r 47 0), some (z_i (x2)), some (z_i (x3)), some (z_i (x4)), some (z_i (x5)), some (z_i (x6)), some (z_i (x7)), some (z_i (x8 + (1 : Int32)))], [], (true, X, I, J)) r) ∧ (((x3 >>> (x8 &&& 31)) &&& (1 : Int32)) = (1 : Int32) → (∃ k33 : Nat, (x2 + x6) = Int32.ofNat k33 ∧ k33 < 5 ∧ z_ev (d + 2) (193, 34, [some (z_r 33 0), some (z_r 47 0), some (z_i (x2)), some (z_i (x3)), some (z_i (x4 ||| ((((I 47 0 k33) >>> (x8 &&& 31)) &&& (1 : Int32)) <<< ((z_bo x7 x5) &&& 31)))), some (z_i (x5)), some (z_i (x6)), some (z_i (x7 + (1 : Int32))), some (z_i (x8 + (1 : Int32)))], [], (true, X, I, J)) r)))))) :
    z_ev (d + 2) ((193, 34, [some (z_r 33 0), some (z_r 47 0), some (z_i (x2)), some (z_i (x3)), some (z_i (x4)), some (z_i (x5)), some (z_i (x6)), some (z_i (x7)), some (z_i (x8))], [], (true, X, I, J))) r := by
  refine z_ev_gs 3 (c1 := (193, (if x6 ≤ x8 then 84 else 41), [some (z_r 33 0), some (z_r 47 0), some (z_i (x2)), some (z_i (x3)), some (z_i (x4)), some (z_i (x5)), some (z_i (x6)), some (z_i (x7)), some (z_i (x8))], [], (true, X, I, J))) rfl ?_
  refine z_ev_ifle (fun e31 => ?_) (fun e31 => ?_)
  · have h39 := h.1 e31
    refine z_ev_gs 3 (c1 := (193, 9, [some (z_r 33 0), some (z_r 47 0), some (z_i (x2)), some (z_i (x3)), some (z_i (x4)), some (z_i (x5 + (1 : Int32))), some (z_i (x6 + (1 : Int32))), some (z_i (x7)), some (z_i (x8))], [], (true, X, I, J))) rfl ?_
    exact h39
  · have h40 := h.2 e31
    refine z_ev_gs 7 (c1 := (193, (if ¬ ((x3 >>> (x8 &&& 31)) &&& (1 : Int32)) = (1 : Int32) then 78 else 51), [some (z_r 33 0), some (z_r 47 0), some (z_i (x2)), some (z_i (x3)), some (z_i (x4)), some (z_i (x5)), some (z_i (x6)), some (z_i (x7)), some (z_i (x8))], [], (true, X, I, J))) rfl ?_
    refine z_ev_ifn (fun e32 => ?_) (fun e32 => ?_)
    · have h37 := h40.1 e32
      refine z_ev_gs 2 (c1 := (193, 34, [some (z_r 33 0), some (z_r 47 0), some (z_i (x2)), some (z_i (x3)), some (z_i (x4)), some (z_i (x5)), some (z_i (x6)), some (z_i (x7)), some (z_i (x8 + (1 : Int32)))], [], (true, X, I, J))) rfl ?_
      exact h37
    · have h38 := h40.2 e32
      refine z_ev_gs 5 (c1 := (193, 58, [some (z_r 33 0), some (z_r 47 0), some (z_i (x2)), some (z_i (x3)), some (z_i (x4)), some (z_i (x5)), some (z_i (x6)), some (z_i (x7)), some (z_i (x8))], [z_i (x2 + x6), z_r 47 0, z_i (x4)], (true, X, I, J))) rfl ?_
      obtain ⟨k33, e34, e35, h36⟩ := h38
      refine z_ev_iald (t := 47) (i := 0) (k := k33) (n := 5) rfl rfl e34 e35 (by decide) ?_
      refine z_ev_gs 6 (c1 := (193, 68, [some (z_r 33 0), some (z_r 47 0), some (z_i (x2)), some (z_i (x3)), some (z_i (x4)), some (z_i (x5)), some (z_i (x6)), some (z_i (x7)), some (z_i (x8))], [z_i (x5), z_i (x7), z_i (((I 47 0 k33) >>> (x8 &&& 31)) &&& (1 : Int32)), z_i (x4)], (true, X, I, J))) rfl ?_
      refine z_ev_ca rfl rfl (z_p160 _ _) ?_
      refine z_ev_gs 6 (c1 := (193, 34, [some (z_r 33 0), some (z_r 47 0), some (z_i (x2)), some (z_i (x3)), some (z_i (x4 ||| ((((I 47 0 k33) >>> (x8 &&& 31)) &&& (1 : Int32)) <<< ((z_bo x7 x5) &&& 31)))), some (z_i (x5)), some (z_i (x6)), some (z_i (x7 + (1 : Int32))), some (z_i (x8 + (1 : Int32)))], [], (true, X, I, J))) rfl ?_
      exact h36
theorem z_q194_e_35 {d : Nat} {r : Option z_V × z_M} {X : z_X} {I : Nat → Nat → Nat → Int32} {J : Nat → Nat → Nat → Int64} (x2 : Int32) (x3 : Int32) (x4 : Int32) (x5 : Int32)
    (h : z_ev (d + 3) (194, 6, [some (z_r 33 0), some (z_r 35 0), some (z_i (x2)), some (z_i (x3)), some (z_i (x4)), some (z_i (x5)), some (z_i 0), some (z_i 0)], [], (true, X, I, J)) r) :
    z_ev (d + 3) (z_en 194 [z_r 33 0, z_r 35 0, z_i (x2), z_i (x3), z_i (x4), z_i (x5)] (true, X, I, J)) r := by
  show z_ev (d + 3) (194, 0, [some (z_r 33 0), some (z_r 35 0), some (z_i (x2)), some (z_i (x3)), some (z_i (x4)), some (z_i (x5)), none, none], [], (true, X, I, J)) r
  refine z_ev_gs 4 (c1 := (194, 6, [some (z_r 33 0), some (z_r 35 0), some (z_i (x2)), some (z_i (x3)), some (z_i (x4)), some (z_i (x5)), some (z_i 0), some (z_i 0)], [], (true, X, I, J))) rfl ?_
  exact h
theorem z_q194_6_35 {d : Nat} {r : Option z_V × z_M} {X : z_X} {I : Nat → Nat → Nat → Int32} {J : Nat → Nat → Nat → Int64} (x2 : Int32) (x3 : Int32) (x4 : Int32) (x5 : Int32) (x6 : Int32) (x7 : Int32)
    (h : ((((1 : Int32) <<< (x3 &&& 31)) ≤ x7 → r = (some (z_i (x6)), (true, X, I, J))) ∧ (x7 < ((1 : Int32) <<< (x3 &&& 31)) → (∃ (v7 : Int32) (X2 : z_X) (I3 : Nat → Nat → Nat → Int32) (J4 : Nat → Nat → Nat → Int64), z_ev (d + 2) (z_en 170 [z_i (x7)] (true, X, I, J)) (some (z_i (v7)), (true, X2, I3, J4)) ∧ ((¬ v7 = x4 → z_ev (d + 3) (194, 6, [some (z_r 33 0), some (z_r 35 0), some (z_i (x2)), some (z_i (x3)), some (z_i (x4)), some (z_i (x5)), some (z_i (x6 + (0 : Int32))), some (z_i (x7 + (1 : Int32)))], [], (true, X2, I3, J4)) r) ∧ (v7 = x4 → (∃ (v14 : Int32) (X9 : z_X) (I10 : Nat → Nat → Nat → Int32) (J11 : Nat → Nat → Nat → Int64), z_ev (d + 2) (z_en 193 [z_r 33 0, z_r 35 0, z_i (x2), z_i (x7)] (true, X2, I3, J4)) (some (z_i (v14)), (true, X9, I10, J11)) ∧ ((¬ v14 = x5 → z_ev (d + 3) (194, 6, [some (z_r 33 0), some (z_r 35 0), some (z_i (x2)), some (z_i (x3)), some (z_i (x4)), some (z_i (x5)), some (z_i (x6 + (0 : Int32))), some (z_i (x7 + (1 : Int32)))], [], (true, X9, I10, J11)) r) ∧ (v14 = x5 → z_ev (d + 3) (194, 6, [some (z_r 33 0), some (z_r 35 0), some (z_i (x2)), some (z_i (x3)), some (z_i (x4)), some (z_i (x5)), some (z_i (x6 + (1 : Int32))), some (z_i (x7 + (1 : Int32)))], [], (true, X9, I10, J11)) r))))))))) :
    z_ev (d + 3) ((194, 6, [some (z_r 33 0), some (z_r 35 0), some (z_i (x2)), some (z_i (x3)), some (z_i (x4)), some (z_i (x5)), some (z_i (x6)), some (z_i (x7))], [], (true, X, I, J))) r := by
  refine z_ev_gs 5 (c1 := (194, (if ((1 : Int32) <<< (x3 &&& 31)) ≤ x7 then 53 else 14), [some (z_r 33 0), some (z_r 35 0), some (z_i (x2)), some (z_i (x3)), some (z_i (x4)), some (z_i (x5)), some (z_i (x6)), some (z_i (x7))], [], (true, X, I, J))) rfl ?_
  refine z_ev_ifle (fun e1 => ?_) (fun e1 => ?_)
  · have h20 := h.1 e1
    refine z_ev_gs 1 (c1 := (194, 55, [some (z_r 33 0), some (z_r 35 0), some (z_i (x2)), some (z_i (x3)), some (z_i (x4)), some (z_i (x5)), some (z_i (x6)), some (z_i (x7))], [z_i (x6)], (true, X, I, J))) rfl ?_
    rw [h20]
    exact z_ev_rt rfl
  · have h21 := h.2 e1
    refine z_ev_gs 2 (c1 := (194, 18, [some (z_r 33 0), some (z_r 35 0), some (z_i (x2)), some (z_i (x3)), some (z_i (x4)), some (z_i (x5)), some (z_i (x6)), some (z_i (x7))], [z_i (x7), z_i (x6)], (true, X, I, J))) rfl ?_
    obtain ⟨v7, X2, I3, J4, g5, h6⟩ := h21
    refine z_ev_ca rfl rfl g5 ?_
    refine z_ev_gs 2 (c1 := (194, (if ¬ v7 = x4 then 43 else 26), [some (z_r 33 0), some (z_r 35 0), some (z_i (x2)), some (z_i (x3)), some (z_i (x4)), some (z_i (x5)), some (z_i (x6)), some (z_i (x7))], [z_i (x6)], (true, X2, I3, J4))) rfl ?_
    refine z_ev_ifn (fun e8 => ?_) (fun e8 => ?_)
    · have h18 := h6.1 e8
      refine z_ev_gs 5 (c1 := (194, 6, [some (z_r 33 0), some (z_r 35 0), some (z_i (x2)), some (z_i (x3)), some (z_i (x4)), some (z_i (x5)), some (z_i (x6 + (0 : Int32))), some (z_i (x7 + (1 : Int32)))], [], (true, X2, I3, J4))) rfl ?_
      exact h18
    · have h19 := h6.2 e8
      refine z_ev_gs 4 (c1 := (194, 31, [some (z_r 33 0), some (z_r 35 0), some (z_i (x2)), some (z_i (x3)), some (z_i (x4)), some (z_i (x5)), some (z_i (x6)), some (z_i (x7))], [z_i (x7), z_i (x2), z_r 35 0, z_r 33 0, z_i (x6)], (true, X2, I3, J4))) rfl ?_
      obtain ⟨v14, X9, I10, J11, g12, h13⟩ := h19
      refine z_ev_ca rfl rfl g12 ?_
      refine z_ev_gs 2 (c1 := (194, (if ¬ v14 = x5 then 43 else 39), [some (z_r 33 0), some (z_r 35 0), some (z_i (x2)), some (z_i (x3)), some (z_i (x4)), some (z_i (x5)), some (z_i (x6)), some (z_i (x7))], [z_i (x6)], (true, X9, I10, J11))) rfl ?_
      refine z_ev_ifn (fun e15 => ?_) (fun e15 => ?_)
      · have h16 := h13.1 e15
        refine z_ev_gs 5 (c1 := (194, 6, [some (z_r 33 0), some (z_r 35 0), some (z_i (x2)), some (z_i (x3)), some (z_i (x4)), some (z_i (x5)), some (z_i (x6 + (0 : Int32))), some (z_i (x7 + (1 : Int32)))], [], (true, X9, I10, J11))) rfl ?_
        exact h16
      · have h17 := h13.2 e15
        refine z_ev_gs 6 (c1 := (194, 6, [some (z_r 33 0), some (z_r 35 0), some (z_i (x2)), some (z_i (x3)), some (z_i (x4)), some (z_i (x5)), some (z_i (x6 + (1 : Int32))), some (z_i (x7 + (1 : Int32)))], [], (true, X9, I10, J11))) rfl ?_
        exact h17
theorem z_q194_e_47 {d : Nat} {r : Option z_V × z_M} {X : z_X} {I : Nat → Nat → Nat → Int32} {J : Nat → Nat → Nat → Int64} (x2 : Int32) (x3 : Int32) (x4 : Int32) (x5 : Int32)
    (h : z_ev (d + 3) (194, 6, [some (z_r 33 0), some (z_r 47 0), some (z_i (x2)), some (z_i (x3)), some (z_i (x4)), some (z_i (x5)), some (z_i 0), some (z_i 0)], [], (true, X, I, J)) r) :
    z_ev (d + 3) (z_en 194 [z_r 33 0, z_r 47 0, z_i (x2), z_i (x3), z_i (x4), z_i (x5)] (true, X, I, J)) r := by
  show z_ev (d + 3) (194, 0, [some (z_r 33 0), some (z_r 47 0), some (z_i (x2)), some (z_i (x3)), some (z_i (x4)), some (z_i (x5)), none, none], [], (true, X, I, J)) r
  refine z_ev_gs 4 (c1 := (194, 6, [some (z_r 33 0), some (z_r 47 0), some (z_i (x2)), some (z_i (x3)), some (z_i (x4)), some (z_i (x5)), some (z_i 0), some (z_i 0)], [], (true, X, I, J))) rfl ?_
  exact h
theorem z_q194_6_47 {d : Nat} {r : Option z_V × z_M} {X : z_X} {I : Nat → Nat → Nat → Int32} {J : Nat → Nat → Nat → Int64} (x2 : Int32) (x3 : Int32) (x4 : Int32) (x5 : Int32) (x6 : Int32) (x7 : Int32)
    (h : ((((1 : Int32) <<< (x3 &&& 31)) ≤ x7 → r = (some (z_i (x6)), (true, X, I, J))) ∧ (x7 < ((1 : Int32) <<< (x3 &&& 31)) → (∃ (v7 : Int32) (X2 : z_X) (I3 : Nat → Nat → Nat → Int32) (J4 : Nat → Nat → Nat → Int64), z_ev (d + 2) (z_en 170 [z_i (x7)] (true, X, I, J)) (some (z_i (v7)), (true, X2, I3, J4)) ∧ ((¬ v7 = x4 → z_ev (d + 3) (194, 6, [some (z_r 33 0), some (z_r 47 0), some (z_i (x2)), some (z_i (x3)), some (z_i (x4)), some (z_i (x5)), some (z_i (x6 + (0 : Int32))), some (z_i (x7 + (1 : Int32)))], [], (true, X2, I3, J4)) r) ∧ (v7 = x4 → (∃ (v14 : Int32) (X9 : z_X) (I10 : Nat → Nat → Nat → Int32) (J11 : Nat → Nat → Nat → Int64), z_ev (d + 2) (z_en 193 [z_r 33 0, z_r 47 0, z_i (x2), z_i (x7)] (true, X2, I3, J4)) (some (z_i (v14)), (true, X9, I10, J11)) ∧ ((¬ v14 = x5 → z_ev (d + 3) (194, 6, [some (z_r 33 0), some (z_r 47 0), some (z_i (x2)), some (z_i (x3)), some (z_i (x4)), some (z_i (x5)), some (z_i (x6 + (0 : Int32))), some (z_i (x7 + (1 : Int32)))], [], (true, X9, I10, J11)) r) ∧ (v14 = x5 → z_ev (d + 3) (194, 6, [some (z_r 33 0), some (z_r 47 0), some (z_i (x2)), some (z_i (x3)), some (z_i (x4)), some (z_i (x5)), some (z_i (x6 + (1 : Int32))), some (z_i (x7 + (1 : Int32)))], [], (true, X9, I10, J11)) r))))))))) :
    z_ev (d + 3) ((194, 6, [some (z_r 33 0), some (z_r 47 0), some (z_i (x2)), some (z_i (x3)), some (z_i (x4)), some (z_i (x5)), some (z_i (x6)), some (z_i (x7))], [], (true, X, I, J))) r := by
  refine z_ev_gs 5 (c1 := (194, (if ((1 : Int32) <<< (x3 &&& 31)) ≤ x7 then 53 else 14), [some (z_r 33 0), some (z_r 47 0), some (z_i (x2)), some (z_i (x3)), some (z_i (x4)), some (z_i (x5)), some (z_i (x6)), some (z_i (x7))], [], (true, X, I, J))) rfl ?_
  refine z_ev_ifle (fun e1 => ?_) (fun e1 => ?_)
  · have h20 := h.1 e1
    refine z_ev_gs 1 (c1 := (194, 55, [some (z_r 33 0), some (z_r 47 0), some (z_i (x2)), some (z_i (x3)), some (z_i (x4)), some (z_i (x5)), some (z_i (x6)), some (z_i (x7))], [z_i (x6)], (true, X, I, J))) rfl ?_
    rw [h20]
    exact z_ev_rt rfl
  · have h21 := h.2 e1
    refine z_ev_gs 2 (c1 := (194, 18, [some (z_r 33 0), some (z_r 47 0), some (z_i (x2)), some (z_i (x3)), some (z_i (x4)), some (z_i (x5)), some (z_i (x6)), some (z_i (x7))], [z_i (x7), z_i (x6)], (true, X, I, J))) rfl ?_
    obtain ⟨v7, X2, I3, J4, g5, h6⟩ := h21
    refine z_ev_ca rfl rfl g5 ?_
    refine z_ev_gs 2 (c1 := (194, (if ¬ v7 = x4 then 43 else 26), [some (z_r 33 0), some (z_r 47 0), some (z_i (x2)), some (z_i (x3)), some (z_i (x4)), some (z_i (x5)), some (z_i (x6)), some (z_i (x7))], [z_i (x6)], (true, X2, I3, J4))) rfl ?_
    refine z_ev_ifn (fun e8 => ?_) (fun e8 => ?_)
    · have h18 := h6.1 e8
      refine z_ev_gs 5 (c1 := (194, 6, [some (z_r 33 0), some (z_r 47 0), some (z_i (x2)), some (z_i (x3)), some (z_i (x4)), some (z_i (x5)), some (z_i (x6 + (0 : Int32))), some (z_i (x7 + (1 : Int32)))], [], (true, X2, I3, J4))) rfl ?_
      exact h18
    · have h19 := h6.2 e8
      refine z_ev_gs 4 (c1 := (194, 31, [some (z_r 33 0), some (z_r 47 0), some (z_i (x2)), some (z_i (x3)), some (z_i (x4)), some (z_i (x5)), some (z_i (x6)), some (z_i (x7))], [z_i (x7), z_i (x2), z_r 47 0, z_r 33 0, z_i (x6)], (true, X2, I3, J4))) rfl ?_
      obtain ⟨v14, X9, I10, J11, g12, h13⟩ := h19
      refine z_ev_ca rfl rfl g12 ?_
      refine z_ev_gs 2 (c1 := (194, (if ¬ v14 = x5 then 43 else 39), [some (z_r 33 0), some (z_r 47 0), some (z_i (x2)), some (z_i (x3)), some (z_i (x4)), some (z_i (x5)), some (z_i (x6)), some (z_i (x7))], [z_i (x6)], (true, X9, I10, J11))) rfl ?_
      refine z_ev_ifn (fun e15 => ?_) (fun e15 => ?_)
      · have h16 := h13.1 e15
        refine z_ev_gs 5 (c1 := (194, 6, [some (z_r 33 0), some (z_r 47 0), some (z_i (x2)), some (z_i (x3)), some (z_i (x4)), some (z_i (x5)), some (z_i (x6 + (0 : Int32))), some (z_i (x7 + (1 : Int32)))], [], (true, X9, I10, J11))) rfl ?_
        exact h16
      · have h17 := h13.2 e15
        refine z_ev_gs 6 (c1 := (194, 6, [some (z_r 33 0), some (z_r 47 0), some (z_i (x2)), some (z_i (x3)), some (z_i (x4)), some (z_i (x5)), some (z_i (x6 + (1 : Int32))), some (z_i (x7 + (1 : Int32)))], [], (true, X9, I10, J11))) rfl ?_
        exact h17
theorem z_q196_e {d : Nat} {r : Option z_V × z_M} {X : z_X} {I : Nat → Nat → Nat → Int32} {J : Nat → Nat → Nat → Int64} (x1 : Int32) (x2 : Int32) (x3 : Int32)
    (h : (∃ k1 : Nat, x1 = Int32.ofNat k1 ∧ k1 < 4 ∧ (∃ (v10 : Int32) (X5 : z_X) (I6 : Nat → Nat → Nat → Int32) (J7 : Nat → Nat → Nat → Int64), z_ev (d + 3) (z_en 194 [z_r 33 0, z_r 35 0, z_i ((10 : Int32) * x1), z_i (I 34 0 k1), z_i (x2), z_i (x3)] (true, X, I, J)) (some (z_i (v10)), (true, X5, I6, J7)) ∧ r = (some (z_i (v10)), (true, X5, I6, J7))))) :
    z_ev (d + 4) (z_en 196 [z_r 33 0, z_i (x1), z_i (x2), z_i (x3)] (true, X, I, J)) r := by
  show z_ev (d + 4) (196, 0, [some (z_r 33 0), some (z_i (x1)), some (z_i (x2)), some (z_i (x3))], [], (true, X, I, J)) r
  refine z_ev_gs 9 (c1 := (196, 14, [some (z_r 33 0), some (z_i (x1)), some (z_i (x2)), some (z_i (x3))], [z_i (x1), z_r 34 0, z_i ((10 : Int32) * x1), z_r 35 0, z_r 33 0], (true, X, I, J))) rfl ?_
  obtain ⟨k1, e2, e3, h4⟩ := h
  refine z_ev_iald (t := 34) (i := 0) (k := k1) (n := 4) rfl rfl e2 e3 (by decide) ?_
  refine z_ev_gs 2 (c1 := (196, 17, [some (z_r 33 0), some (z_i (x1)), some (z_i (x2)), some (z_i (x3))], [z_i (x3), z_i (x2), z_i (I 34 0 k1), z_i ((10 : Int32) * x1), z_r 35 0, z_r 33 0], (true, X, I, J))) rfl ?_
  obtain ⟨v10, X5, I6, J7, g8, h9⟩ := h4
  refine z_ev_ca rfl rfl g8 ?_
  rw [h9]
  exact z_ev_rt rfl
theorem z_q77_e {d : Nat} {r : Option z_V × z_M} {X : z_X} {I : Nat → Nat → Nat → Int32} {J : Nat → Nat → Nat → Int64} (x1 : Int32) (x2 : Int32) (x3 : Int32)
    (h : (∃ (v6 : Int32) (X1 : z_X) (I2 : Nat → Nat → Nat → Int32) (J3 : Nat → Nat → Nat → Int64), z_ev (d + 15) (z_en 128 [z_i (x2), z_i (x3)] (true, X, I, J)) (some (z_i (v6)), (true, X1, I2, J3)) ∧ (((z_bw x1 0 3) = false → r = (some (z_i (-1)), (true, X1, I2, J3))) ∧ ((z_bw x1 0 3) = true → ((0 ≤ v6 → (∃ k9 : Nat, x1 = Int32.ofNat k9 ∧ k9 < 4 ∧ (∃ (X13 : z_X) (I14 : Nat → Nat → Nat → Int32) (J15 : Nat → Nat → Nat → Int64), z_ev (d + 15) (z_en 42 [z_r 24 0, z_r 13 k9, z_i (x2)] (true, X1, I2, J3)) (none, (true, X13, I14, J15)) ∧ (∃ k18 : Nat, v6 = Int32.ofNat k18 ∧ k18 < 11 ∧ r = (some (z_i (I14 25 0 k18)), (true, X13, I14, J15)))))) ∧ (v6 < 0 → r = (some (z_i (-1)), (true, X1, I2, J3)))))))) :
    z_ev (d + 16) (z_en 77 [z_r 0 0, z_i (x1), z_i (x2), z_i (x3)] (true, X, I, J)) r := by
  show z_ev (d + 16) (77, 0, [some (z_r 0 0), some (z_i (x1)), some (z_i (x2)), some (z_i (x3)), none], [], (true, X, I, J)) r
  refine z_ev_gs 2 (c1 := (77, 2, [some (z_r 0 0), some (z_i (x1)), some (z_i (x2)), some (z_i (x3)), none], [z_i (x3), z_i (x2)], (true, X, I, J))) rfl ?_
  obtain ⟨v6, X1, I2, J3, g4, h5⟩ := h
  refine z_ev_ca rfl rfl g4 ?_
  refine z_ev_gs 2 (c1 := (77, 8, [some (z_r 0 0), some (z_i (x1)), some (z_i (x2)), some (z_i (x3)), some (z_i (v6))], [z_i (x1)], (true, X1, I2, J3))) rfl ?_
  refine z_ev_ca rfl rfl (z_p118 _) ?_
  refine z_ev_gs 1 (c1 := (77, (if z_c (z_bw x1 0 3) = 0 then 19 else 14), [some (z_r 0 0), some (z_i (x1)), some (z_i (x2)), some (z_i (x3)), some (z_i (v6))], [], (true, X1, I2, J3))) rfl ?_
  refine z_ev_ifc (fun e7 => ?_) (fun e7 => ?_)
  · have h24 := h5.1 e7
    refine z_ev_gs 1 (c1 := (77, 20, [some (z_r 0 0), some (z_i (x1)), some (z_i (x2)), some (z_i (x3)), some (z_i (v6))], [z_i (-1)], (true, X1, I2, J3))) rfl ?_
    rw [h24]
    exact z_ev_rt rfl
  · have h25 := h5.2 e7
    refine z_ev_gs 2 (c1 := (77, (if 0 ≤ v6 then 21 else 19), [some (z_r 0 0), some (z_i (x1)), some (z_i (x2)), some (z_i (x3)), some (z_i (v6))], [], (true, X1, I2, J3))) rfl ?_
    refine z_ev_ifle (fun e8 => ?_) (fun e8 => ?_)
    · have h22 := h25.1 e8
      refine z_ev_gs 6 (c1 := (77, 33, [some (z_r 0 0), some (z_i (x1)), some (z_i (x2)), some (z_i (x3)), some (z_i (v6))], [z_i (x1), z_r 2 0, z_r 24 0], (true, X1, I2, J3))) rfl ?_
      obtain ⟨k9, e10, e11, h12⟩ := h22
      refine z_ev_nt0 (k := k9) rfl e10 e11 ?_
      refine z_ev_gs 1 (c1 := (77, 35, [some (z_r 0 0), some (z_i (x1)), some (z_i (x2)), some (z_i (x3)), some (z_i (v6))], [z_i (x2), z_r 13 k9, z_r 24 0], (true, X1, I2, J3))) rfl ?_
      obtain ⟨X13, I14, J15, g16, h17⟩ := h12
      refine z_ev_ca rfl rfl g16 ?_
      refine z_ev_gs 4 (c1 := (77, 47, [some (z_r 0 0), some (z_i (x1)), some (z_i (x2)), some (z_i (x3)), some (z_i (v6))], [z_i (v6), z_r 25 0], (true, X13, I14, J15))) rfl ?_
      obtain ⟨k18, e19, e20, h21⟩ := h17
      refine z_ev_iald (t := 25) (i := 0) (k := k18) (n := 11) rfl rfl e19 e20 (by decide) ?_
      rw [h21]
      exact z_ev_rt rfl
    · have h23 := h25.2 e8
      refine z_ev_gs 1 (c1 := (77, 20, [some (z_r 0 0), some (z_i (x1)), some (z_i (x2)), some (z_i (x3)), some (z_i (v6))], [z_i (-1)], (true, X1, I2, J3))) rfl ?_
      rw [h23]
      exact z_ev_rt rfl
theorem z_q197_e {d : Nat} {r : Option z_V × z_M} {X : z_X} {I : Nat → Nat → Nat → Int32} {J : Nat → Nat → Nat → Int64} (x1 : Int32) (x2 : Int32) (x3 : Int32)
    (h : (((z_bw x1 0 3) = false → r = (some (z_i (-1)), (true, X, I, J))) ∧ ((z_bw x1 0 3) = true → (∃ (b7 : Bool) (X2 : z_X) (I3 : Nat → Nat → Nat → Int32) (J4 : Nat → Nat → Nat → Int64), z_ev (d + 4) (z_en 166 [z_r 33 0, z_i (x2), z_i (x3)] (true, X, I, J)) (some (z_i (z_c b7)), (true, X2, I3, J4)) ∧ ((b7 = false → r = (some (z_i (-1)), (true, X2, I3, J4))) ∧ (b7 = true → (∃ (v14 : Int32) (X9 : z_X) (I10 : Nat → Nat → Nat → Int32) (J11 : Nat → Nat → Nat → Int64), z_ev (d + 4) (z_en 196 [z_r 33 0, z_i (x1), z_i (x2), z_i (x3)] (true, X2, I3, J4)) (some (z_i (v14)), (true, X9, I10, J11)) ∧ r = (some (z_i (v14)), (true, X9, I10, J11))))))))) :
    z_ev (d + 5) (z_en 197 [z_r 33 0, z_i (x1), z_i (x2), z_i (x3)] (true, X, I, J)) r := by
  show z_ev (d + 5) (197, 0, [some (z_r 33 0), some (z_i (x1)), some (z_i (x2)), some (z_i (x3))], [], (true, X, I, J)) r
  refine z_ev_gs 1 (c1 := (197, 1, [some (z_r 33 0), some (z_i (x1)), some (z_i (x2)), some (z_i (x3))], [z_i (x1)], (true, X, I, J))) rfl ?_
  refine z_ev_ca rfl rfl (z_p162 _) ?_
  refine z_ev_gs 1 (c1 := (197, (if z_c (z_bw x1 0 3) = 0 then 26 else 7), [some (z_r 33 0), some (z_i (x1)), some (z_i (x2)), some (z_i (x3))], [], (true, X, I, J))) rfl ?_
  refine z_ev_ifc (fun e1 => ?_) (fun e1 => ?_)
  · have h17 := h.1 e1
    refine z_ev_gs 1 (c1 := (197, 27, [some (z_r 33 0), some (z_i (x1)), some (z_i (x2)), some (z_i (x3))], [z_i (-1)], (true, X, I, J))) rfl ?_
    rw [h17]
    exact z_ev_rt rfl
  · have h18 := h.2 e1
    refine z_ev_gs 3 (c1 := (197, 10, [some (z_r 33 0), some (z_i (x1)), some (z_i (x2)), some (z_i (x3))], [z_i (x3), z_i (x2), z_r 33 0], (true, X, I, J))) rfl ?_
    obtain ⟨b7, X2, I3, J4, g5, h6⟩ := h18
    refine z_ev_ca rfl rfl g5 ?_
    refine z_ev_gs 1 (c1 := (197, (if z_c b7 = 0 then 26 else 16), [some (z_r 33 0), some (z_i (x1)), some (z_i (x2)), some (z_i (x3))], [], (true, X2, I3, J4))) rfl ?_
    refine z_ev_ifc (fun e8 => ?_) (fun e8 => ?_)
    · have h15 := h6.1 e8
      refine z_ev_gs 1 (c1 := (197, 27, [some (z_r 33 0), some (z_i (x1)), some (z_i (x2)), some (z_i (x3))], [z_i (-1)], (true, X2, I3, J4))) rfl ?_
      rw [h15]
      exact z_ev_rt rfl
    · have h16 := h6.2 e8
      refine z_ev_gs 4 (c1 := (197, 20, [some (z_r 33 0), some (z_i (x1)), some (z_i (x2)), some (z_i (x3))], [z_i (x3), z_i (x2), z_i (x1), z_r 33 0], (true, X2, I3, J4))) rfl ?_
      obtain ⟨v14, X9, I10, J11, g12, h13⟩ := h16
      refine z_ev_ca rfl rfl g12 ?_
      refine z_ev_gs 1 (c1 := (197, 27, [some (z_r 33 0), some (z_i (x1)), some (z_i (x2)), some (z_i (x3))], [z_i (v14)], (true, X9, I10, J11))) rfl ?_
      rw [h13]
      exact z_ev_rt rfl
