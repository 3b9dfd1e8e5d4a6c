/-! segments: most; printed by wip/whole/emit_seg.py -/
theorem z_q141_e {d : Nat} {r : Option z_V × z_M} {X : z_X} {I : Nat → Nat → Nat → Int32} {J : Nat → Nat → Nat → Int64} (x1 : Int32) (x2 : Int32) (x3 : Int32) (x4 : Int32)
    (h : z_ev (d + 17) (141, 6, [some (z_r 0 0), some (z_i (x1)), some (z_i (x2)), some (z_i (x3)), some (z_i (x4)), some (z_i (-1)), some (z_i 0)], [], (true, X, I, J)) r) :
    z_ev (d + 17) (z_en 141 [z_r 0 0, z_i (x1), z_i (x2), z_i (x3), z_i (x4)] (true, X, I, J)) r := by
  show z_ev (d + 17) (141, 0, [some (z_r 0 0), some (z_i (x1)), some (z_i (x2)), some (z_i (x3)), some (z_i (x4)), none, none], [], (true, X, I, J)) r
  refine z_ev_gs 4 (c1 := (141, 6, [some (z_r 0 0), some (z_i (x1)), some (z_i (x2)), some (z_i (x3)), some (z_i (x4)), some (z_i (-1)), some (z_i 0)], [], (true, X, I, J))) rfl ?_
  exact h
theorem z_q141_6 {d : Nat} {r : Option z_V × z_M} {X : z_X} {I : Nat → Nat → Nat → Int32} {J : Nat → Nat → Nat → Int64} (x1 : Int32) (x2 : Int32) (x3 : Int32) (x4 : Int32) (x5 : Int32) (x6 : Int32)
    (h : (((z_fo x1) ≤ x6 → r = (some (z_i (x5)), (true, X, I, J))) ∧ (x6 < (z_fo x1) → ((((x4 >>> (x6 &&& 31)) &&& (1 : Int32)) = 0 → z_ev (d + 17) (141, 6, [some (z_r 0 0), some (z_i (x1)), some (z_i (x2)), some (z_i (x3)), some (z_i (x4)), some (z_i (x5)), some (z_i (x6 + (1 : Int32)))], [], (true, X, I, J)) r) ∧ (¬ ((x4 >>> (x6 &&& 31)) &&& (1 : Int32)) = 0 → (∃ (v8 : Int32) (X3 : z_X) (I4 : Nat → Nat → Nat → Int32) (J5 : Nat → Nat → Nat → Int64), z_ev (d + 16) (z_en 140 [z_r 0 0, z_i (x2), z_i (x3), z_i (x1), z_i (x6)] (true, X, I, J)) (some (z_i (v8)), (true, X3, I4, J5)) ∧ z_ev (d + 17) (141, 6, [some (z_r 0 0), some (z_i (x1)), some (z_i (x2)), some (z_i (x3)), some (z_i (x4)), some (z_i (if x5 < v8 then v8 else x5)), some (z_i (x6 + (1 : Int32)))], [], (true, X3, I4, J5)) r)))))) :
    z_ev (d + 17) ((141, 6, [some (z_r 0 0), some (z_i (x1)), some (z_i (x2)), some (z_i (x3)), some (z_i (x4)), some (z_i (x5)), some (z_i (x6))], [], (true, X, I, J))) r := by
  refine z_ev_gs 2 (c1 := (141, 9, [some (z_r 0 0), some (z_i (x1)), some (z_i (x2)), some (z_i (x3)), some (z_i (x4)), some (z_i (x5)), some (z_i (x6))], [z_i (x1), z_i (x6)], (true, X, I, J))) rfl ?_
  refine z_ev_ca rfl rfl (z_p127 _) ?_
  refine z_ev_gs 1 (c1 := (141, (if (z_fo x1) ≤ x6 then 47 else 15), [some (z_r 0 0), some (z_i (x1)), some (z_i (x2)), some (z_i (x3)), some (z_i (x4)), some (z_i (x5)), some (z_i (x6))], [], (true, X, I, J))) rfl ?_
  refine z_ev_ifle (fun e1 => ?_) (fun e1 => ?_)
  · have h11 := h.1 e1
    refine z_ev_gs 1 (c1 := (141, 49, [some (z_r 0 0), some (z_i (x1)), some (z_i (x2)), some (z_i (x3)), some (z_i (x4)), some (z_i (x5)), some (z_i (x6))], [z_i (x5)], (true, X, I, J))) rfl ?_
    rw [h11]
    exact z_ev_rt rfl
  · have h12 := h.2 e1
    refine z_ev_gs 6 (c1 := (141, (if ((x4 >>> (x6 &&& 31)) &&& (1 : Int32)) = 0 then 41 else 25), [some (z_r 0 0), some (z_i (x1)), some (z_i (x2)), some (z_i (x3)), some (z_i (x4)), some (z_i (x5)), some (z_i (x6))], [], (true, X, I, J))) rfl ?_
    refine z_ev_if (fun e2 => ?_) (fun e2 => ?_)
    · have h9 := h12.1 e2
      refine z_ev_gs 2 (c1 := (141, 6, [some (z_r 0 0), some (z_i (x1)), some (z_i (x2)), some (z_i (x3)), some (z_i (x4)), some (z_i (x5)), some (z_i (x6 + (1 : Int32)))], [], (true, X, I, J))) rfl ?_
      exact h9
    · have h10 := h12.2 e2
      refine z_ev_gs 6 (c1 := (141, 33, [some (z_r 0 0), some (z_i (x1)), some (z_i (x2)), some (z_i (x3)), some (z_i (x4)), some (z_i (x5)), some (z_i (x6))], [z_i (x6), z_i (x1), z_i (x3), z_i (x2), z_r 0 0, z_i (x5)], (true, X, I, J))) rfl ?_
      obtain ⟨v8, X3, I4, J5, g6, h7⟩ := h10
      refine z_ev_ca rfl rfl g6 ?_
      refine z_ev_st (c1 := (141, 39, [some (z_r 0 0), some (z_i (x1)), some (z_i (x2)), some (z_i (x3)), some (z_i (x4)), some (z_i (x5)), some (z_i (x6))], [z_i (if x5 < v8 then v8 else x5)], (true, X3, I4, J5))) rfl ?_
      refine z_ev_gs 3 (c1 := (141, 6, [some (z_r 0 0), some (z_i (x1)), some (z_i (x2)), some (z_i (x3)), some (z_i (x4)), some (z_i (if x5 < v8 then v8 else x5)), some (z_i (x6 + (1 : Int32)))], [], (true, X3, I4, J5))) rfl ?_
      exact h7
theorem z_q142_e {d : Nat} {r : Option z_V × z_M} {X : z_X} {I : Nat → Nat → Nat → Int32} {J : Nat → Nat → Nat → Int64} (x1 : Int32) (x2 : Int32) (x3 : Int32)
    (h : z_ev (d + 17) (142, 3, [some (z_r 0 0), some (z_i (x1)), some (z_i (x2)), some (z_i (x3)), some (z_i 0), none, none], [], (true, X, I, J)) r) :
    z_ev (d + 17) (z_en 142 [z_r 0 0, z_i (x1), z_i (x2), z_i (x3)] (true, X, I, J)) r := by
  show z_ev (d + 17) (142, 0, [some (z_r 0 0), some (z_i (x1)), some (z_i (x2)), some (z_i (x3)), none, none, none], [], (true, X, I, J)) r
  refine z_ev_gs 2 (c1 := (142, 3, [some (z_r 0 0), some (z_i (x1)), some (z_i (x2)), some (z_i (x3)), some (z_i 0), none, none], [], (true, X, I, J))) rfl ?_
  exact h
theorem z_q142_3 {d : Nat} {r : Option z_V × z_M} {X : z_X} {I : Nat → Nat → Nat → Int32} {J : Nat → Nat → Nat → Int64} (x1 : Int32) (x2 : Int32) (x3 : Int32) (x4 : Int32)
    (h : (((11 : Int32) ≤ x4 → z_ev (d + 17) (142, 38, [some (z_r 0 0), some (z_i (x1)), some (z_i (x2)), some (z_i (x3)), some (z_i (-1)), some (z_i 0), none], [], (true, X, I, J)) r) ∧ (x4 < (11 : Int32) → (∃ (v49 : Int32) (X44 : z_X) (I45 : Nat → Nat → Nat → Int32) (J46 : Nat → Nat → Nat → Int64), z_ev (d + 16) (z_en 140 [z_r 0 0, z_i (x1), z_i (x2), z_i 4, z_i (x4)] (true, X, I, J)) (some (z_i (v49)), (true, X44, I45, J46)) ∧ (∃ k50 : Nat, x4 = Int32.ofNat k50 ∧ k50 < 11 ∧ z_ev (d + 17) (142, 3, [some (z_r 0 0), some (z_i (x1)), some (z_i (x2)), some (z_i (x3)), some (z_i (x4 + (1 : Int32))), none, none], [], (true, X44, (z_up I45 27 0 k50 v49), J46)) r))))) :
    z_ev (d + 17) ((142, 3, [some (z_r 0 0), some (z_i (x1)), some (z_i (x2)), some (z_i (x3)), some (z_i (x4)), none, none], [], (true, X, I, J))) r := by
  refine z_ev_gs 3 (c1 := (142, (if (11 : Int32) ≤ x4 then 32 else 10), [some (z_r 0 0), some (z_i (x1)), some (z_i (x2)), some (z_i (x3)), some (z_i (x4)), none, none], [], (true, X, I, J))) rfl ?_
  refine z_ev_ifle (fun e43 => ?_) (fun e43 => ?_)
  · have h54 := h.1 e43
    refine z_ev_gs 4 (c1 := (142, 38, [some (z_r 0 0), some (z_i (x1)), some (z_i (x2)), some (z_i (x3)), some (z_i (-1)), some (z_i 0), none], [], (true, X, I, J))) rfl ?_
    exact h54
  · have h55 := h.2 e43
    refine z_ev_gs 8 (c1 := (142, 22, [some (z_r 0 0), some (z_i (x1)), some (z_i (x2)), some (z_i (x3)), some (z_i (x4)), none, none], [z_i (x4), z_i 4, z_i (x2), z_i (x1), z_r 0 0, z_i (x4), z_r 27 0], (true, X, I, J))) rfl ?_
    obtain ⟨v49, X44, I45, J46, g47, h48⟩ := h55
    refine z_ev_ca rfl rfl g47 ?_
    obtain ⟨k50, e51, e52, h53⟩ := h48
    refine z_ev_iast (t := 27) (i := 0) (k := k50) (n := 11) rfl rfl e51 e52 (by decide) ?_
    refine z_ev_gs 2 (c1 := (142, 3, [some (z_r 0 0), some (z_i (x1)), some (z_i (x2)), some (z_i (x3)), some (z_i (x4 + (1 : Int32))), none, none], [], (true, X44, (z_up I45 27 0 k50 v49), J46))) rfl ?_
    exact h53
theorem z_q142_38 {d : Nat} {r : Option z_V × z_M} {X : z_X} {I : Nat → Nat → Nat → Int32} {J : Nat → Nat → Nat → Int64} (x1 : Int32) (x2 : Int32) (x3 : Int32) (x4 : Int32) (x5 : Int32) (o6 : Option z_V)
    (h : (((11 : Int32) ≤ x5 → r = (some (z_i (x4)), (true, X, I, J))) ∧ (x5 < (11 : Int32) → ((¬ ((x3 >>> (x5 &&& 31)) &&& (1 : Int32)) = 0 → (∃ k58 : Nat, x5 = Int32.ofNat k58 ∧ k58 < 11 ∧ (∃ (X62 : z_X) (I63 : Nat → Nat → Nat → Int32) (J64 : Nat → Nat → Nat → Int64), z_ev (d + 16) (z_en 21 [z_r 13 9, z_i 4, z_i ((z_stc.getD 0 []).getD k58 0)] (true, X, I, J)) (none, (true, X62, I63, J64)) ∧ z_ev (d + 17) (142, 82, [some (z_r 0 0), some (z_i (x1)), some (z_i (x2)), some (z_i (x3)), some (z_i (x4)), some (z_i (x5)), some (z_i 0)], [], (true, X62, (z_up I63 13 9 1 (5 : Int32)), J64)) r))) ∧ (((x3 >>> (x5 &&& 31)) &&& (1 : Int32)) = 0 → z_ev (d + 17) (142, 38, [some (z_r 0 0), some (z_i (x1)), some (z_i (x2)), some (z_i (x3)), some (z_i (x4)), some (z_i (x5 + (1 : Int32))), o6], [], (true, X, I, J)) r))))) :
    z_ev (d + 17) ((142, 38, [some (z_r 0 0), some (z_i (x1)), some (z_i (x2)), some (z_i (x3)), some (z_i (x4)), some (z_i (x5)), o6], [], (true, X, I, J))) r := by
  refine z_ev_gs 3 (c1 := (142, (if (11 : Int32) ≤ x5 then 124 else 45), [some (z_r 0 0), some (z_i (x1)), some (z_i (x2)), some (z_i (x3)), some (z_i (x4)), some (z_i (x5)), o6], [], (true, X, I, J))) rfl ?_
  refine z_ev_ifle (fun e56 => ?_) (fun e56 => ?_)
  · have h69 := h.1 e56
    refine z_ev_gs 1 (c1 := (142, 126, [some (z_r 0 0), some (z_i (x1)), some (z_i (x2)), some (z_i (x3)), some (z_i (x4)), some (z_i (x5)), o6], [z_i (x4)], (true, X, I, J))) rfl ?_
    rw [h69]
    exact z_ev_rt rfl
  · have h70 := h.2 e56
    refine z_ev_gs 6 (c1 := (142, (if ¬ ((x3 >>> (x5 &&& 31)) &&& (1 : Int32)) = 0 then 57 else 54), [some (z_r 0 0), some (z_i (x1)), some (z_i (x2)), some (z_i (x3)), some (z_i (x4)), some (z_i (x5)), o6], [], (true, X, I, J))) rfl ?_
    refine z_ev_ifn (fun e57 => ?_) (fun e57 => ?_)
    · have h67 := h70.1 e57
      refine z_ev_gs 5 (c1 := (142, 67, [some (z_r 0 0), some (z_i (x1)), some (z_i (x2)), some (z_i (x3)), some (z_i (x4)), some (z_i (x5)), o6], [z_i (x5), z_r 66 0, z_i 4, z_r 13 9], (true, X, I, J))) rfl ?_
      obtain ⟨k58, e59, e60, h61⟩ := h67
      refine z_ev_sld (k := k58) (n := 11) rfl e59 e60 (by decide) ?_
      obtain ⟨X62, I63, J64, g65, h66⟩ := h61
      refine z_ev_ca rfl rfl g65 ?_
      refine z_ev_gs 6 (c1 := (142, 82, [some (z_r 0 0), some (z_i (x1)), some (z_i (x2)), some (z_i (x3)), some (z_i (x4)), some (z_i (x5)), some (z_i 0)], [], (true, X62, (z_up I63 13 9 1 (5 : Int32)), J64))) rfl ?_
      exact h66
    · have h68 := h70.2 e57
      refine z_ev_gs 3 (c1 := (142, 38, [some (z_r 0 0), some (z_i (x1)), some (z_i (x2)), some (z_i (x3)), some (z_i (x4)), some (z_i (x5 + (1 : Int32))), o6], [], (true, X, I, J))) rfl ?_
      exact h68
theorem z_q142_82 {d : Nat} {r : Option z_V × z_M} {X : z_X} {I : Nat → Nat → Nat → Int32} {J : Nat → Nat → Nat → Int64} (x1 : Int32) (x2 : Int32) (x3 : Int32) (x4 : Int32) (x5 : Int32) (x6 : Int32)
    (h : (((16 : Int32) ≤ x6 → z_ev (d + 17) (142, 38, [some (z_r 0 0), some (z_i (x1)), some (z_i (x2)), some (z_i (x3)), some (z_i (x4)), some (z_i (x5 + (1 : Int32))), some (z_i (x6))], [], (true, X, I, J)) r) ∧ (x6 < (16 : Int32) → (∃ (X72 : z_X) (I73 : Nat → Nat → Nat → Int32) (J74 : Nat → Nat → Nat → Int64), z_ev (d + 16) (z_en 24 [z_r 13 9, z_i 4, z_i (x6)] (true, X, I, J)) (none, (true, X72, I73, J74)) ∧ (∃ (v82 : Int32) (X77 : z_X) (I78 : Nat → Nat → Nat → Int32) (J79 : Nat → Nat → Nat → Int64), z_ev (d + 16) (z_en 143 [z_r 0 0, z_i (x1), z_i (x3)] (true, X72, I73, J74)) (some (z_i (v82)), (true, X77, I78, J79)) ∧ z_ev (d + 17) (142, 82, [some (z_r 0 0), some (z_i (x1)), some (z_i (x2)), some (z_i (x3)), some (z_i (if x4 < v82 then v82 else x4)), some (z_i (x5)), some (z_i (x6 + (1 : Int32)))], [], (true, X77, I78, J79)) r))))) :
    z_ev (d + 17) ((142, 82, [some (z_r 0 0), some (z_i (x1)), some (z_i (x2)), some (z_i (x3)), some (z_i (x4)), some (z_i (x5)), some (z_i (x6))], [], (true, X, I, J))) r := by
  refine z_ev_gs 3 (c1 := (142, (if (16 : Int32) ≤ x6 then 118 else 89), [some (z_r 0 0), some (z_i (x1)), some (z_i (x2)), some (z_i (x3)), some (z_i (x4)), some (z_i (x5)), some (z_i (x6))], [], (true, X, I, J))) rfl ?_
  refine z_ev_ifle (fun e71 => ?_) (fun e71 => ?_)
  · have h83 := h.1 e71
    refine z_ev_gs 2 (c1 := (142, 38, [some (z_r 0 0), some (z_i (x1)), some (z_i (x2)), some (z_i (x3)), some (z_i (x4)), some (z_i (x5 + (1 : Int32))), some (z_i (x6))], [], (true, X, I, J))) rfl ?_
    exact h83
  · have h84 := h.2 e71
    refine z_ev_gs 4 (c1 := (142, 96, [some (z_r 0 0), some (z_i (x1)), some (z_i (x2)), some (z_i (x3)), some (z_i (x4)), some (z_i (x5)), some (z_i (x6))], [z_i (x6), z_i 4, z_r 13 9], (true, X, I, J))) rfl ?_
    obtain ⟨X72, I73, J74, g75, h76⟩ := h84
    refine z_ev_ca rfl rfl g75 ?_
    refine z_ev_gs 4 (c1 := (142, 104, [some (z_r 0 0), some (z_i (x1)), some (z_i (x2)), some (z_i (x3)), some (z_i (x4)), some (z_i (x5)), some (z_i (x6))], [z_i (x3), z_i (x1), z_r 0 0, z_i (x4)], (true, X72, I73, J74))) rfl ?_
    obtain ⟨v82, X77, I78, J79, g80, h81⟩ := h76
    refine z_ev_ca rfl rfl g80 ?_
    refine z_ev_st (c1 := (142, 110, [some (z_r 0 0), some (z_i (x1)), some (z_i (x2)), some (z_i (x3)), some (z_i (x4)), some (z_i (x5)), some (z_i (x6))], [z_i (if x4 < v82 then v82 else x4)], (true, X77, I78, J79))) rfl ?_
    refine z_ev_gs 3 (c1 := (142, 82, [some (z_r 0 0), some (z_i (x1)), some (z_i (x2)), some (z_i (x3)), some (z_i (if x4 < v82 then v82 else x4)), some (z_i (x5)), some (z_i (x6 + (1 : Int32)))], [], (true, X77, I78, J79))) rfl ?_
    exact h81
theorem z_q143_e {d : Nat} {r : Option z_V × z_M} {X : z_X} {I : Nat → Nat → Nat → Int32} {J : Nat → Nat → Nat → Int64} (x1 : Int32) (x2 : Int32)
    (h : (∃ (X1 : z_X) (I2 : Nat → Nat → Nat → Int32) (J3 : Nat → Nat → Nat → Int64), z_ev (d + 15) (z_en 42 [z_r 24 1, z_r 13 9, z_i 4] (true, X, I, J)) (none, (true, X1, I2, J3)) ∧ z_ev (d + 16) (143, 17, [some (z_r 0 0), some (z_i (x1)), some (z_i (x2)), some (z_i 0), some (z_i 0)], [], (true, X1, I2, J3)) r)) :
    z_ev (d + 16) (z_en 143 [z_r 0 0, z_i (x1), z_i (x2)] (true, X, I, J)) r := by
  show z_ev (d + 16) (143, 0, [some (z_r 0 0), some (z_i (x1)), some (z_i (x2)), none, none], [], (true, X, I, J)) r
  refine z_ev_gs 5 (c1 := (143, 9, [some (z_r 0 0), some (z_i (x1)), some (z_i (x2)), none, none], [z_i 4, z_r 13 9, z_r 24 1], (true, X, I, J))) rfl ?_
  obtain ⟨X1, I2, J3, g4, h5⟩ := h
  refine z_ev_ca rfl rfl g4 ?_
  refine z_ev_gs 4 (c1 := (143, 17, [some (z_r 0 0), some (z_i (x1)), some (z_i (x2)), some (z_i 0), some (z_i 0)], [], (true, X1, I2, J3))) rfl ?_
  exact h5
theorem z_q143_17 {d : Nat} {r : Option z_V × z_M} {X : z_X} {I : Nat → Nat → Nat → Int32} {J : Nat → Nat → Nat → Int64} (x1 : Int32) (x2 : Int32) (x3 : Int32) (x4 : Int32)
    (h : (((11 : Int32) ≤ x4 → ((x1 < (1 : Int32) → r = (some (z_i (-1)), (true, X, I, J))) ∧ ((1 : Int32) ≤ x1 → (((4 : Int32) < x1 → r = (some (z_i (-1)), (true, X, I, J))) ∧ (x1 ≤ (4 : Int32) → (¬ ((5 : Int32) - x1) = 0 ∧ r = (some (z_i (x3 / ((5 : Int32) - x1))), (true, X, I, J)))))))) ∧ (x4 < (11 : Int32) → (∃ k14 : Nat, x4 = Int32.ofNat k14 ∧ k14 < 11 ∧ (((I 25 1 k14) = 0 → z_ev (d + 16) (143, 17, [some (z_r 0 0), some (z_i (x1)), some (z_i (x2)), some (z_i (x3 + ((I 25 1 k14) * (I 27 0 k14)))), some (z_i (x4 + (1 : Int32)))], [], (true, X, I, J)) r) ∧ (¬ (I 25 1 k14) = 0 → ((¬ ((x2 >>> (x4 &&& 31)) &&& (1 : Int32)) = 0 → z_ev (d + 16) (143, 17, [some (z_r 0 0), some (z_i (x1)), some (z_i (x2)), some (z_i (x3 + ((I 25 1 k14) * (I 27 0 k14)))), some (z_i (x4 + (1 : Int32)))], [], (true, X, I, J)) r) ∧ (((x2 >>> (x4 &&& 31)) &&& (1 : Int32)) = 0 → r = (some (z_i (-1)), (true, X, I, J)))))))))) :
    z_ev (d + 16) ((143, 17, [some (z_r 0 0), some (z_i (x1)), some (z_i (x2)), some (z_i (x3)), some (z_i (x4))], [], (true, X, I, J))) r := by
  refine z_ev_gs 3 (c1 := (143, (if (11 : Int32) ≤ x4 then 75 else 24), [some (z_r 0 0), some (z_i (x1)), some (z_i (x2)), some (z_i (x3)), some (z_i (x4))], [], (true, X, I, J))) rfl ?_
  refine z_ev_ifle (fun e6 => ?_) (fun e6 => ?_)
  · have h24 := h.1 e6
    refine z_ev_gs 3 (c1 := (143, (if x1 < (1 : Int32) then 93 else 80), [some (z_r 0 0), some (z_i (x1)), some (z_i (x2)), some (z_i (x3)), some (z_i (x4))], [], (true, X, I, J))) rfl ?_
    refine z_ev_iflt (fun e7 => ?_) (fun e7 => ?_)
    · have h12 := h24.1 e7
      refine z_ev_gs 1 (c1 := (143, 94, [some (z_r 0 0), some (z_i (x1)), some (z_i (x2)), some (z_i (x3)), some (z_i (x4))], [z_i (-1)], (true, X, I, J))) rfl ?_
      rw [h12]
      exact z_ev_rt rfl
    · have h13 := h24.2 e7
      refine z_ev_gs 3 (c1 := (143, (if (4 : Int32) < x1 then 93 else 85), [some (z_r 0 0), some (z_i (x1)), some (z_i (x2)), some (z_i (x3)), some (z_i (x4))], [], (true, X, I, J))) rfl ?_
      refine z_ev_iflt (fun e8 => ?_) (fun e8 => ?_)
      · have h10 := h13.1 e8
        refine z_ev_gs 1 (c1 := (143, 94, [some (z_r 0 0), some (z_i (x1)), some (z_i (x2)), some (z_i (x3)), some (z_i (x4))], [z_i (-1)], (true, X, I, J))) rfl ?_
        rw [h10]
        exact z_ev_rt rfl
      · have h11 := h13.2 e8
        refine z_ev_gs 4 (c1 := (143, 89, [some (z_r 0 0), some (z_i (x1)), some (z_i (x2)), some (z_i (x3)), some (z_i (x4))], [z_i ((5 : Int32) - x1), z_i (x3)], (true, X, I, J))) rfl ?_
        obtain ⟨g0, h9⟩ := h11
        refine z_ev_dvi (w1 := ((5 : Int32) - x1)) (c1 := (143, 90, [some (z_r 0 0), some (z_i (x1)), some (z_i (x2)), some (z_i (x3)), some (z_i (x4))], [z_i (x3 / ((5 : Int32) - x1))], (true, X, I, J))) rfl g0 ?_
        refine z_ev_gs 1 (c1 := (143, 94, [some (z_r 0 0), some (z_i (x1)), some (z_i (x2)), some (z_i (x3)), some (z_i (x4))], [z_i (x3 / ((5 : Int32) - x1))], (true, X, I, J))) rfl ?_
        rw [h9]
        exact z_ev_rt rfl
  · have h25 := h.2 e6
    refine z_ev_gs 4 (c1 := (143, 33, [some (z_r 0 0), some (z_i (x1)), some (z_i (x2)), some (z_i (x3)), some (z_i (x4))], [z_i (x4), z_r 25 1], (true, X, I, J))) rfl ?_
    obtain ⟨k14, e15, e16, h17⟩ := h25
    refine z_ev_iald (t := 25) (i := 1) (k := k14) (n := 11) rfl rfl e15 e16 (by decide) ?_
    refine z_ev_gs 1 (c1 := (143, (if (I 25 1 k14) = 0 then 48 else 37), [some (z_r 0 0), some (z_i (x1)), some (z_i (x2)), some (z_i (x3)), some (z_i (x4))], [], (true, X, I, J))) rfl ?_
    refine z_ev_if (fun e18 => ?_) (fun e18 => ?_)
    · have h22 := h17.1 e18
      refine z_ev_gs 5 (c1 := (143, 58, [some (z_r 0 0), some (z_i (x1)), some (z_i (x2)), some (z_i (x3)), some (z_i (x4))], [z_i (x4), z_r 25 1, z_i (x3)], (true, X, I, J))) rfl ?_
      refine z_ev_iald (t := 25) (i := 1) (k := k14) (n := 11) rfl rfl e15 (Nat.lt_of_lt_of_le e16 (by decide)) (by decide) ?_
      refine z_ev_gs 3 (c1 := (143, 65, [some (z_r 0 0), some (z_i (x1)), some (z_i (x2)), some (z_i (x3)), some (z_i (x4))], [z_i (x4), z_r 27 0, z_i (I 25 1 k14), z_i (x3)], (true, X, I, J))) rfl ?_
      refine z_ev_iald (t := 27) (i := 0) (k := k14) (n := 11) rfl rfl e15 (Nat.lt_of_lt_of_le e16 (by decide)) (by decide) ?_
      refine z_ev_gs 5 (c1 := (143, 17, [some (z_r 0 0), some (z_i (x1)), some (z_i (x2)), some (z_i (x3 + ((I 25 1 k14) * (I 27 0 k14)))), some (z_i (x4 + (1 : Int32)))], [], (true, X, I, J))) rfl ?_
      exact h22
    · have h23 := h17.2 e18
      refine z_ev_gs 6 (c1 := (143, (if ¬ ((x2 >>> (x4 &&& 31)) &&& (1 : Int32)) = 0 then 48 else 46), [some (z_r 0 0), some (z_i (x1)), some (z_i (x2)), some (z_i (x3)), some (z_i (x4))], [], (true, X, I, J))) rfl ?_
      refine z_ev_ifn (fun e19 => ?_) (fun e19 => ?_)
      · have h20 := h23.1 e19
        refine z_ev_gs 5 (c1 := (143, 58, [some (z_r 0 0), some (z_i (x1)), some (z_i (x2)), some (z_i (x3)), some (z_i (x4))], [z_i (x4), z_r 25 1, z_i (x3)], (true, X, I, J))) rfl ?_
        refine z_ev_iald (t := 25) (i := 1) (k := k14) (n := 11) rfl rfl e15 (Nat.lt_of_lt_of_le e16 (by decide)) (by decide) ?_
        refine z_ev_gs 3 (c1 := (143, 65, [some (z_r 0 0), some (z_i (x1)), some (z_i (x2)), some (z_i (x3)), some (z_i (x4))], [z_i (x4), z_r 27 0, z_i (I 25 1 k14), z_i (x3)], (true, X, I, J))) rfl ?_
        refine z_ev_iald (t := 27) (i := 0) (k := k14) (n := 11) rfl rfl e15 (Nat.lt_of_lt_of_le e16 (by decide)) (by decide) ?_
        refine z_ev_gs 5 (c1 := (143, 17, [some (z_r 0 0), some (z_i (x1)), some (z_i (x2)), some (z_i (x3 + ((I 25 1 k14) * (I 27 0 k14)))), some (z_i (x4 + (1 : Int32)))], [], (true, X, I, J))) rfl ?_
        exact h20
      · have h21 := h23.2 e19
        refine z_ev_gs 1 (c1 := (143, 47, [some (z_r 0 0), some (z_i (x1)), some (z_i (x2)), some (z_i (x3)), some (z_i (x4))], [z_i (-1)], (true, X, I, J))) rfl ?_
        rw [h21]
        exact z_ev_rt rfl
theorem z_q83_e {d : Nat} {r : Option z_V × z_M} {X : z_X} {I : Nat → Nat → Nat → Int32} {J : Nat → Nat → Nat → Int64} (x1 : Int32) (x2 : Int32) (x3 : Int32)
    (h : (∃ (v6 : Int32) (X1 : z_X) (I2 : Nat → Nat → Nat → Int32) (J3 : Nat → Nat → Nat → Int64), z_ev (d + 17) (z_en 128 [z_i (x2), z_i (x3)] (true, X, I, J)) (some (z_i (v6)), (true, X1, I2, J3)) ∧ ((x1 < (1 : Int32) → r = (some (z_i (-1)), (true, X1, I2, J3))) ∧ ((1 : Int32) ≤ x1 → (((5 : Int32) < x1 → r = (some (z_i (-1)), (true, X1, I2, J3))) ∧ (x1 ≤ (5 : Int32) → ((0 ≤ v6 → ((¬ x1 = (5 : Int32) → (∃ (v16 : Int32) (X11 : z_X) (I12 : Nat → Nat → Nat → Int32) (J13 : Nat → Nat → Nat → Int64), z_ev (d + 17) (z_en 139 [z_r 0 0, z_i (x1)] (true, X1, I2, J3)) (some (z_i (v16)), (true, X11, I12, J13)) ∧ (∃ (v22 : Int32) (X17 : z_X) (I18 : Nat → Nat → Nat → Int32) (J19 : Nat → Nat → Nat → Int64), z_ev (d + 17) (z_en 141 [z_r 0 0, z_i (x1), z_i (x2), z_i (v6), z_i (v16)] (true, X11, I12, J13)) (some (z_i (v22)), (true, X17, I18, J19)) ∧ ((0 ≤ v22 → r = (some (z_i (v22)), (true, X17, I18, J19))) ∧ (v22 < 0 → r = (some (z_i (-3)), (true, X17, I18, J19))))))) ∧ (x1 = (5 : Int32) → (∃ (v31 : Int32) (X26 : z_X) (I27 : Nat → Nat → Nat → Int32) (J28 : Nat → Nat → Nat → Int64), z_ev (d + 17) (z_en 139 [z_r 0 0, z_i 4] (true, X1, I2, J3)) (some (z_i (v31)), (true, X26, I27, J28)) ∧ (∃ (v37 : Int32) (X32 : z_X) (I33 : Nat → Nat → Nat → Int32) (J34 : Nat → Nat → Nat → Int64), z_ev (d + 17) (z_en 142 [z_r 0 0, z_i (x2), z_i (v6), z_i (v31)] (true, X26, I27, J28)) (some (z_i (v37)), (true, X32, I33, J34)) ∧ ((0 ≤ v37 → r = (some (z_i (v37)), (true, X32, I33, J34))) ∧ (v37 < 0 → r = (some (z_i (-3)), (true, X32, I33, J34))))))))) ∧ (v6 < 0 → r = (some (z_i (-1)), (true, X1, I2, J3)))))))))) :
    z_ev (d + 18) (z_en 83 [z_r 0 0, z_i (x1), z_i (x2), z_i (x3)] (true, X, I, J)) r := by
  show z_ev (d + 18) (83, 0, [some (z_r 0 0), some (z_i (x1)), some (z_i (x2)), some (z_i (x3)), none, none, none], [], (true, X, I, J)) r
  refine z_ev_gs 2 (c1 := (83, 2, [some (z_r 0 0), some (z_i (x1)), some (z_i (x2)), some (z_i (x3)), none, none, none], [z_i (x3), z_i (x2)], (true, X, I, J))) rfl ?_
  obtain ⟨v6, X1, I2, J3, g4, h5⟩ := h
  refine z_ev_ca rfl rfl g4 ?_
  refine z_ev_gs 4 (c1 := (83, (if x1 < (1 : Int32) then 22 else 12), [some (z_r 0 0), some (z_i (x1)), some (z_i (x2)), some (z_i (x3)), some (z_i (v6)), none, none], [], (true, X1, I2, J3))) rfl ?_
  refine z_ev_iflt (fun e7 => ?_) (fun e7 => ?_)
  · have h47 := h5.1 e7
    refine z_ev_gs 1 (c1 := (83, 23, [some (z_r 0 0), some (z_i (x1)), some (z_i (x2)), some (z_i (x3)), some (z_i (v6)), none, none], [z_i (-1)], (true, X1, I2, J3))) rfl ?_
    rw [h47]
    exact z_ev_rt rfl
  · have h48 := h5.2 e7
    refine z_ev_gs 3 (c1 := (83, (if (5 : Int32) < x1 then 22 else 17), [some (z_r 0 0), some (z_i (x1)), some (z_i (x2)), some (z_i (x3)), some (z_i (v6)), none, none], [], (true, X1, I2, J3))) rfl ?_
    refine z_ev_iflt (fun e8 => ?_) (fun e8 => ?_)
    · have h45 := h48.1 e8
      refine z_ev_gs 1 (c1 := (83, 23, [some (z_r 0 0), some (z_i (x1)), some (z_i (x2)), some (z_i (x3)), some (z_i (v6)), none, none], [z_i (-1)], (true, X1, I2, J3))) rfl ?_
      rw [h45]
      exact z_ev_rt rfl
    · have h46 := h48.2 e8
      refine z_ev_gs 2 (c1 := (83, (if 0 ≤ v6 then 24 else 22), [some (z_r 0 0), some (z_i (x1)), some (z_i (x2)), some (z_i (x3)), some (z_i (v6)), none, none], [], (true, X1, I2, J3))) rfl ?_
      refine z_ev_ifle (fun e9 => ?_) (fun e9 => ?_)
      · have h43 := h46.1 e9
        refine z_ev_gs 4 (c1 := (83, (if ¬ x1 = (5 : Int32) then 34 else 30), [some (z_r 0 0), some (z_i (x1)), some (z_i (x2)), some (z_i (x3)), some (z_i (v6)), none, none], [z_r 0 0], (true, X1, I2, J3))) rfl ?_
        refine z_ev_ifn (fun e10 => ?_) (fun e10 => ?_)
        · have h41 := h43.1 e10
          refine z_ev_gs 1 (c1 := (83, 35, [some (z_r 0 0), some (z_i (x1)), some (z_i (x2)), some (z_i (x3)), some (z_i (v6)), none, none], [z_i (x1), z_r 0 0], (true, X1, I2, J3))) rfl ?_
          obtain ⟨v16, X11, I12, J13, g14, h15⟩ := h41
          refine z_ev_ca rfl rfl g14 ?_
          refine z_ev_gs 4 (c1 := (83, (if ¬ x1 = (5 : Int32) then 57 else 45), [some (z_r 0 0), some (z_i (x1)), some (z_i (x2)), some (z_i (x3)), some (z_i (v6)), some (z_i (v16)), none], [], (true, X11, I12, J13))) rfl ?_
          rw [if_pos e10]
          refine z_ev_gs 5 (c1 := (83, 64, [some (z_r 0 0), some (z_i (x1)), some (z_i (x2)), some (z_i (x3)), some (z_i (v6)), some (z_i (v16)), none], [z_i (v16), z_i (v6), z_i (x2), z_i (x1), z_r 0 0], (true, X11, I12, J13))) rfl ?_
          obtain ⟨v22, X17, I18, J19, g20, h21⟩ := h15
          refine z_ev_ca rfl rfl g20 ?_
          refine z_ev_gs 3 (c1 := (83, (if 0 ≤ v22 then 79 else 74), [some (z_r 0 0), some (z_i (x1)), some (z_i (x2)), some (z_i (x3)), some (z_i (v6)), some (z_i (v16)), some (z_i (v22))], [], (true, X17, I18, J19))) rfl ?_
          refine z_ev_ifle (fun e23 => ?_) (fun e23 => ?_)
          · have h24 := h21.1 e23
            refine z_ev_gs 1 (c1 := (83, 81, [some (z_r 0 0), some (z_i (x1)), some (z_i (x2)), some (z_i (x3)), some (z_i (v6)), some (z_i (v16)), some (z_i (v22))], [z_i (v22)], (true, X17, I18, J19))) rfl ?_
            rw [h24]
            exact z_ev_rt rfl
          · have h25 := h21.2 e23
            refine z_ev_gs 2 (c1 := (83, 81, [some (z_r 0 0), some (z_i (x1)), some (z_i (x2)), some (z_i (x3)), some (z_i (v6)), some (z_i (v16)), some (z_i (v22))], [z_i (-3)], (true, X17, I18, J19))) rfl ?_
            rw [h25]
            exact z_ev_rt rfl
        · have h42 := h43.2 e10
          refine z_ev_gs 2 (c1 := (83, 35, [some (z_r 0 0), some (z_i (x1)), some (z_i (x2)), some (z_i (x3)), some (z_i (v6)), none, none], [z_i 4, z_r 0 0], (true, X1, I2, J3))) rfl ?_
          obtain ⟨v31, X26, I27, J28, g29, h30⟩ := h42
          refine z_ev_ca rfl rfl g29 ?_
          refine z_ev_gs 4 (c1 := (83, (if ¬ x1 = (5 : Int32) then 57 else 45), [some (z_r 0 0), some (z_i (x1)), some (z_i (x2)), some (z_i (x3)), some (z_i (v6)), some (z_i (v31)), none], [], (true, X26, I27, J28))) rfl ?_
          rw [if_neg (fun q9 => q9 e10)]
          refine z_ev_gs 4 (c1 := (83, 51, [some (z_r 0 0), some (z_i (x1)), some (z_i (x2)), some (z_i (x3)), some (z_i (v6)), some (z_i (v31)), none], [z_i (v31), z_i (v6), z_i (x2), z_r 0 0], (true, X26, I27, J28))) rfl ?_
          obtain ⟨v37, X32, I33, J34, g35, h36⟩ := h30
          refine z_ev_ca rfl rfl g35 ?_
          refine z_ev_gs 4 (c1 := (83, (if 0 ≤ v37 then 79 else 74), [some (z_r 0 0), some (z_i (x1)), some (z_i (x2)), some (z_i (x3)), some (z_i (v6)), some (z_i (v31)), some (z_i (v37))], [], (true, X32, I33, J34))) rfl ?_
          refine z_ev_ifle (fun e38 => ?_) (fun e38 => ?_)
          · have h39 := h36.1 e38
            refine z_ev_gs 1 (c1 := (83, 81, [some (z_r 0 0), some (z_i (x1)), some (z_i (x2)), some (z_i (x3)), some (z_i (v6)), some (z_i (v31)), some (z_i (v37))], [z_i (v37)], (true, X32, I33, J34))) rfl ?_
            rw [h39]
            exact z_ev_rt rfl
          · have h40 := h36.2 e38
            refine z_ev_gs 2 (c1 := (83, 81, [some (z_r 0 0), some (z_i (x1)), some (z_i (x2)), some (z_i (x3)), some (z_i (v6)), some (z_i (v31)), some (z_i (v37))], [z_i (-3)], (true, X32, I33, J34))) rfl ?_
            rw [h40]
            exact z_ev_rt rfl
      · have h44 := h46.2 e9
        refine z_ev_gs 1 (c1 := (83, 23, [some (z_r 0 0), some (z_i (x1)), some (z_i (x2)), some (z_i (x3)), some (z_i (v6)), none, none], [z_i (-1)], (true, X1, I2, J3))) rfl ?_
        rw [h44]
        exact z_ev_rt rfl
theorem z_q210_e {d : Nat} {r : Option z_V × z_M} {X : z_X} {I : Nat → Nat → Nat → Int32} {J : Nat → Nat → Nat → Int64} (x1 : Int32) (x2 : Int32) (x3 : Int32)
    (h : (((z_bw x1 (1 : Int32) (5 : Int32)) = false → r = (some (z_i (-1)), (true, X, I, J))) ∧ ((z_bw x1 (1 : Int32) (5 : Int32)) = true → (∃ (b48 : Bool) (X43 : z_X) (I44 : Nat → Nat → Nat → Int32) (J45 : Nat → Nat → Nat → Int64), z_ev (d + 4) (z_en 166 [z_r 33 0, z_i (x2), z_i (x3)] (true, X, I, J)) (some (z_i (z_c b48)), (true, X43, I44, J45)) ∧ ((b48 = true → z_ev (d + 5) (210, 27, [some (z_r 33 0), some (z_i (x1)), some (z_i (x2)), some (z_i (x3)), some (z_i (-3)), some (z_i 0), none], [], (true, X43, I44, J45)) r) ∧ (b48 = false → r = (some (z_i (-1)), (true, X43, I44, J45)))))))) :
    z_ev (d + 5) (z_en 210 [z_r 33 0, z_i (x1), z_i (x2), z_i (x3)] (true, X, I, J)) r := by
  show z_ev (d + 5) (210, 0, [some (z_r 33 0), some (z_i (x1)), some (z_i (x2)), some (z_i (x3)), none, none, none], [], (true, X, I, J)) r
  refine z_ev_gs 3 (c1 := (210, 3, [some (z_r 33 0), some (z_i (x1)), some (z_i (x2)), some (z_i (x3)), none, none, none], [z_i 5, z_i 1, z_i (x1)], (true, X, I, J))) rfl ?_
  refine z_ev_ca rfl rfl (z_p158 _ _ _) ?_
  refine z_ev_gs 1 (c1 := (210, (if z_c (z_bw x1 (1 : Int32) (5 : Int32)) = 0 then 18 else 9), [some (z_r 33 0), some (z_i (x1)), some (z_i (x2)), some (z_i (x3)), none, none, none], [], (true, X, I, J))) rfl ?_
  refine z_ev_ifc (fun e42 => ?_) (fun e42 => ?_)
  · have h52 := h.1 e42
    refine z_ev_gs 1 (c1 := (210, 19, [some (z_r 33 0), some (z_i (x1)), some (z_i (x2)), some (z_i (x3)), none, none, none], [z_i (-1)], (true, X, I, J))) rfl ?_
    rw [h52]
    exact z_ev_rt rfl
  · have h53 := h.2 e42
    refine z_ev_gs 3 (c1 := (210, 12, [some (z_r 33 0), some (z_i (x1)), some (z_i (x2)), some (z_i (x3)), none, none, none], [z_i (x3), z_i (x2), z_r 33 0], (true, X, I, J))) rfl ?_
    obtain ⟨b48, X43, I44, J45, g46, h47⟩ := h53
    refine z_ev_ca rfl rfl g46 ?_
    refine z_ev_gs 1 (c1 := (210, (if ¬ z_c b48 = 0 then 20 else 18), [some (z_r 33 0), some (z_i (x1)), some (z_i (x2)), some (z_i (x3)), none, none, none], [], (true, X43, I44, J45))) rfl ?_
    refine z_ev_ifcn (fun e49 => ?_) (fun e49 => ?_)
    · have h50 := h47.1 e49
      refine z_ev_gs 4 (c1 := (210, 27, [some (z_r 33 0), some (z_i (x1)), some (z_i (x2)), some (z_i (x3)), some (z_i (-3)), some (z_i 0), none], [], (true, X43, I44, J45))) rfl ?_
      exact h50
    · have h51 := h47.2 e49
      refine z_ev_gs 1 (c1 := (210, 19, [some (z_r 33 0), some (z_i (x1)), some (z_i (x2)), some (z_i (x3)), none, none, none], [z_i (-1)], (true, X43, I44, J45))) rfl ?_
      rw [h51]
      exact z_ev_rt rfl
theorem z_q210_27 {d : Nat} {r : Option z_V × z_M} {X : z_X} {I : Nat → Nat → Nat → Int32} {J : Nat → Nat → Nat → Int64} (x1 : Int32) (x2 : Int32) (x3 : Int32) (x4 : Int32) (x5 : Int32) (o6 : Option z_V)
    (h : ((((1 : Int32) <<< ((z_pr x1) &&& 31)) ≤ x5 → r = (some (z_i (x4)), (true, X, I, J))) ∧ (x5 < ((1 : Int32) <<< ((z_pr x1) &&& 31)) → (∃ (X55 : z_X) (I56 : Nat → Nat → Nat → Int32) (J57 : Nat → Nat → Nat → Int64), z_ev (d + 4) (z_en 201 [z_r 33 0, z_i (x1), z_i (x5)] (true, X, I, J)) (none, (true, X55, I56, J57)) ∧ (∃ (b65 : Bool) (X60 : z_X) (I61 : Nat → Nat → Nat → Int32) (J62 : Nat → Nat → Nat → Int64), z_ev (d + 4) (z_en 206 [z_r 33 0, z_r 47 0, z_i 0, z_i (x1)] (true, X55, I56, J57)) (some (z_i (z_c b65)), (true, X60, I61, J62)) ∧ ((b65 = false → (((-3 : Int32) ≤ x4 → z_ev (d + 5) (210, 27, [some (z_r 33 0), some (z_i (x1)), some (z_i (x2)), some (z_i (x3)), some (z_i (x4)), some (z_i (x5 + (1 : Int32))), some (z_i (-3))], [], (true, X60, I61, J62)) r) ∧ (x4 < (-3 : Int32) → z_ev (d + 5) (210, 27, [some (z_r 33 0), some (z_i (x1)), some (z_i (x2)), some (z_i (x3)), some (z_i (-3)), some (z_i (x5 + (1 : Int32))), some (z_i (-3))], [], (true, X60, I61, J62)) r))) ∧ (b65 = true → (∃ (v75 : Int32) (X70 : z_X) (I71 : Nat → Nat → Nat → Int32) (J72 : Nat → Nat → Nat → Int64), z_ev (d + 4) (z_en 194 [z_r 33 0, z_r 47 0, z_i 0, z_i (x1), z_i (x2), z_i (x3)] (true, X60, I61, J62)) (some (z_i (v75)), (true, X70, I71, J72)) ∧ ((v75 ≤ x4 → z_ev (d + 5) (210, 27, [some (z_r 33 0), some (z_i (x1)), some (z_i (x2)), some (z_i (x3)), some (z_i (x4)), some (z_i (x5 + (1 : Int32))), some (z_i (v75))], [], (true, X70, I71, J72)) r) ∧ (x4 < v75 → z_ev (d + 5) (210, 27, [some (z_r 33 0), some (z_i (x1)), some (z_i (x2)), some (z_i (x3)), some (z_i (v75)), some (z_i (x5 + (1 : Int32))), some (z_i (v75))], [], (true, X70, I71, J72)) r)))))))))) :
    z_ev (d + 5) ((210, 27, [some (z_r 33 0), some (z_i (x1)), some (z_i (x2)), some (z_i (x3)), some (z_i (x4)), some (z_i (x5)), o6], [], (true, X, I, J))) r := by
  refine z_ev_gs 3 (c1 := (210, 31, [some (z_r 33 0), some (z_i (x1)), some (z_i (x2)), some (z_i (x3)), some (z_i (x4)), some (z_i (x5)), o6], [z_i (x1), z_i 1, z_i (x5)], (true, X, I, J))) rfl ?_
  refine z_ev_ca rfl rfl (z_p159 _) ?_
  refine z_ev_gs 2 (c1 := (210, (if ((1 : Int32) <<< ((z_pr x1) &&& 31)) ≤ x5 then 99 else 38), [some (z_r 33 0), some (z_i (x1)), some (z_i (x2)), some (z_i (x3)), some (z_i (x4)), some (z_i (x5)), o6], [], (true, X, I, J))) rfl ?_
  refine z_ev_ifle (fun e54 => ?_) (fun e54 => ?_)
  · have h81 := h.1 e54
    refine z_ev_gs 1 (c1 := (210, 101, [some (z_r 33 0), some (z_i (x1)), some (z_i (x2)), some (z_i (x3)), some (z_i (x4)), some (z_i (x5)), o6], [z_i (x4)], (true, X, I, J))) rfl ?_
    rw [h81]
    exact z_ev_rt rfl
  · have h82 := h.2 e54
    refine z_ev_gs 3 (c1 := (210, 42, [some (z_r 33 0), some (z_i (x1)), some (z_i (x2)), some (z_i (x3)), some (z_i (x4)), some (z_i (x5)), o6], [z_i (x5), z_i (x1), z_r 33 0], (true, X, I, J))) rfl ?_
    obtain ⟨X55, I56, J57, g58, h59⟩ := h82
    refine z_ev_ca rfl rfl g58 ?_
    refine z_ev_gs 5 (c1 := (210, 52, [some (z_r 33 0), some (z_i (x1)), some (z_i (x2)), some (z_i (x3)), some (z_i (x4)), some (z_i (x5)), o6], [z_i (x1), z_i 0, z_r 47 0, z_r 33 0], (true, X55, I56, J57))) rfl ?_
    obtain ⟨b65, X60, I61, J62, g63, h64⟩ := h59
    refine z_ev_ca rfl rfl g63 ?_
    refine z_ev_gs 1 (c1 := (210, (if z_c b65 = 0 then 73 else 58), [some (z_r 33 0), some (z_i (x1)), some (z_i (x2)), some (z_i (x3)), some (z_i (x4)), some (z_i (x5)), o6], [], (true, X60, I61, J62))) rfl ?_
    refine z_ev_ifc (fun e66 => ?_) (fun e66 => ?_)
    · have h79 := h64.1 e66
      refine z_ev_gs 5 (c1 := (210, (if (-3 : Int32) ≤ x4 then 89 else 84), [some (z_r 33 0), some (z_i (x1)), some (z_i (x2)), some (z_i (x3)), some (z_i (x4)), some (z_i (x5)), some (z_i (-3))], [], (true, X60, I61, J62))) rfl ?_
      refine z_ev_ifle (fun e67 => ?_) (fun e67 => ?_)
      · have h68 := h79.1 e67
        refine z_ev_gs 4 (c1 := (210, 27, [some (z_r 33 0), some (z_i (x1)), some (z_i (x2)), some (z_i (x3)), some (z_i (x4)), some (z_i (x5 + (1 : Int32))), some (z_i (-3))], [], (true, X60, I61, J62))) rfl ?_
        exact h68
      · have h69 := h79.2 e67
        refine z_ev_gs 5 (c1 := (210, 27, [some (z_r 33 0), some (z_i (x1)), some (z_i (x2)), some (z_i (x3)), some (z_i (-3)), some (z_i (x5 + (1 : Int32))), some (z_i (-3))], [], (true, X60, I61, J62))) rfl ?_
        exact h69
    · have h80 := h64.2 e66
      refine z_ev_gs 7 (c1 := (210, 67, [some (z_r 33 0), some (z_i (x1)), some (z_i (x2)), some (z_i (x3)), some (z_i (x4)), some (z_i (x5)), o6], [z_i (x3), z_i (x2), z_i (x1), z_i 0, z_r 47 0, z_r 33 0], (true, X60, I61, J62))) rfl ?_
      obtain ⟨v75, X70, I71, J72, g73, h74⟩ := h80
      refine z_ev_ca rfl rfl g73 ?_
      refine z_ev_gs 5 (c1 := (210, (if v75 ≤ x4 then 89 else 84), [some (z_r 33 0), some (z_i (x1)), some (z_i (x2)), some (z_i (x3)), some (z_i (x4)), some (z_i (x5)), some (z_i (v75))], [], (true, X70, I71, J72))) rfl ?_
      refine z_ev_ifle (fun e76 => ?_) (fun e76 => ?_)
      · have h77 := h74.1 e76
        refine z_ev_gs 4 (c1 := (210, 27, [some (z_r 33 0), some (z_i (x1)), some (z_i (x2)), some (z_i (x3)), some (z_i (x4)), some (z_i (x5 + (1 : Int32))), some (z_i (v75))], [], (true, X70, I71, J72))) rfl ?_
        exact h77
      · have h78 := h74.2 e76
        refine z_ev_gs 5 (c1 := (210, 27, [some (z_r 33 0), some (z_i (x1)), some (z_i (x2)), some (z_i (x3)), some (z_i (v75)), some (z_i (x5 + (1 : Int32))), some (z_i (v75))], [], (true, X70, I71, J72))) rfl ?_
        exact h78
