/-! segments: the tables of the reference; printed by wip/whole/emit_seg.py -/
theorem z_q161_e {d : Nat} {r : Option z_V × z_M} {X : z_X} {I : Nat → Nat → Nat → Int32} {J : Nat → Nat → Nat → Int64} (x0 : Int32) (x1 : Int32) (x2 : Int32)
    (h : z_ev (d + 2) (161, 5, [some (z_i (x0)), some (z_i (x1)), some (z_i (x2)), some (z_i 0), some (z_i 0), none, none], [], (true, X, I, J)) r) :
    z_ev (d + 2) (z_en 161 [z_i (x0), z_i (x1), z_i (x2)] (true, X, I, J)) r := by
  show z_ev (d + 2) (161, 0, [some (z_i (x0)), some (z_i (x1)), some (z_i (x2)), none, none, none, none], [], (true, X, I, J)) r
  refine z_ev_gs 4 (c1 := (161, 5, [some (z_i (x0)), some (z_i (x1)), some (z_i (x2)), some (z_i 0), some (z_i 0), none, none], [], (true, X, I, J))) rfl ?_
  exact h
theorem z_q161_5 {d : Nat} {r : Option z_V × z_M} {X : z_X} {I : Nat → Nat → Nat → Int32} {J : Nat → Nat → Nat → Int64} (x0 : Int32) (x1 : Int32) (x2 : Int32) (x3 : Int32) (x4 : Int32) (o5 : Option z_V)
    (h : (((4 : Int32) ≤ x4 → z_ev (d + 2) (161, 82, [some (z_i (x0)), some (z_i (x1)), some (z_i (x2)), some (z_i (x3)), some (z_i 0), some (z_i 1), none], [], (true, X, I, J)) r) ∧ (x4 < (4 : Int32) → ((x0 ≤ x4 → ((((x2 >>> (((2 : Int32) * x4) &&& 31)) &&& (3 : Int32)) = 0 → z_ev (d + 2) (161, 5, [some (z_i (x0)), some (z_i (x1)), some (z_i (x2)), some (z_i (x3 ||| (0 : Int32))), some (z_i (x4 + (1 : Int32))), some (z_i ((x2 >>> (((2 : Int32) * x4) &&& 31)) &&& (3 : Int32))), none], [], (true, X, I, J)) r) ∧ (¬ ((x2 >>> (((2 : Int32) * x4) &&& 31)) &&& (3 : Int32)) = 0 → r = (some (z_i (-1)), (true, X, I, J))))) ∧ (x4 < x0 → ((x0 ≤ ((x2 >>> (((2 : Int32) * x4) &&& 31)) &&& (3 : Int32)) → r = (some (z_i (-1)), (true, X, I, J))) ∧ (((x2 >>> (((2 : Int32) * x4) &&& 31)) &&& (3 : Int32)) < x0 → ((¬ ((x3 >>> (((x2 >>> (((2 : Int32) * x4) &&& 31)) &&& (3 : Int32)) &&& 31)) &&& (1 : Int32)) = (1 : Int32) → z_ev (d + 2) (161, 5, [some (z_i (x0)), some (z_i (x1)), some (z_i (x2)), some (z_i (x3 ||| ((1 : Int32) <<< (((x2 >>> (((2 : Int32) * x4) &&& 31)) &&& (3 : Int32)) &&& 31)))), some (z_i (x4 + (1 : Int32))), some (z_i ((x2 >>> (((2 : Int32) * x4) &&& 31)) &&& (3 : Int32))), none], [], (true, X, I, J)) r) ∧ (((x3 >>> (((x2 >>> (((2 : Int32) * x4) &&& 31)) &&& (3 : Int32)) &&& 31)) &&& (1 : Int32)) = (1 : Int32) → r = (some (z_i (-1)), (true, X, I, J))))))))))) :
    z_ev (d + 2) ((161, 5, [some (z_i (x0)), some (z_i (x1)), some (z_i (x2)), some (z_i (x3)), some (z_i (x4)), o5, none], [], (true, X, I, J))) r := by
  refine z_ev_gs 3 (c1 := (161, (if (4 : Int32) ≤ x4 then 76 else 11), [some (z_i (x0)), some (z_i (x1)), some (z_i (x2)), some (z_i (x3)), some (z_i (x4)), o5, none], [], (true, X, I, J))) rfl ?_
  refine z_ev_ifle (fun e22 => ?_) (fun e22 => ?_)
  · have h35 := h.1 e22
    refine z_ev_gs 4 (c1 := (161, 82, [some (z_i (x0)), some (z_i (x1)), some (z_i (x2)), some (z_i (x3)), some (z_i 0), some (z_i 1), none], [], (true, X, I, J))) rfl ?_
    exact h35
  · have h36 := h.2 e22
    refine z_ev_gs 11 (c1 := (161, (if x0 ≤ x4 then 46 else 27), [some (z_i (x0)), some (z_i (x1)), some (z_i (x2)), some (z_i (x3)), some (z_i (x4)), some (z_i ((x2 >>> (((2 : Int32) * x4) &&& 31)) &&& (3 : Int32))), none], [], (true, X, I, J))) rfl ?_
    refine z_ev_ifle (fun e23 => ?_) (fun e23 => ?_)
    · have h33 := h36.1 e23
      refine z_ev_gs 2 (c1 := (161, (if ((x2 >>> (((2 : Int32) * x4) &&& 31)) &&& (3 : Int32)) = 0 then 53 else 51), [some (z_i (x0)), some (z_i (x1)), some (z_i (x2)), some (z_i (x3)), some (z_i (x4)), some (z_i ((x2 >>> (((2 : Int32) * x4) &&& 31)) &&& (3 : Int32))), none], [], (true, X, I, J))) rfl ?_
      refine z_ev_if (fun e24 => ?_) (fun e24 => ?_)
      · have h25 := h33.1 e24
        refine z_ev_gs 4 (c1 := (161, (if x0 ≤ x4 then 67 else 60), [some (z_i (x0)), some (z_i (x1)), some (z_i (x2)), some (z_i (x3)), some (z_i (x4)), some (z_i ((x2 >>> (((2 : Int32) * x4) &&& 31)) &&& (3 : Int32))), none], [z_i (x3)], (true, X, I, J))) rfl ?_
        rw [if_pos e23]
        refine z_ev_gs 5 (c1 := (161, 5, [some (z_i (x0)), some (z_i (x1)), some (z_i (x2)), some (z_i (x3 ||| (0 : Int32))), some (z_i (x4 + (1 : Int32))), some (z_i ((x2 >>> (((2 : Int32) * x4) &&& 31)) &&& (3 : Int32))), none], [], (true, X, I, J))) rfl ?_
        exact h25
      · have h26 := h33.2 e24
        refine z_ev_gs 1 (c1 := (161, 52, [some (z_i (x0)), some (z_i (x1)), some (z_i (x2)), some (z_i (x3)), some (z_i (x4)), some (z_i ((x2 >>> (((2 : Int32) * x4) &&& 31)) &&& (3 : Int32))), none], [z_i (-1)], (true, X, I, J))) rfl ?_
        rw [h26]
        exact z_ev_rt rfl
    · have h34 := h36.2 e23
      refine z_ev_gs 3 (c1 := (161, (if x0 ≤ ((x2 >>> (((2 : Int32) * x4) &&& 31)) &&& (3 : Int32)) then 51 else 33), [some (z_i (x0)), some (z_i (x1)), some (z_i (x2)), some (z_i (x3)), some (z_i (x4)), some (z_i ((x2 >>> (((2 : Int32) * x4) &&& 31)) &&& (3 : Int32))), none], [], (true, X, I, J))) rfl ?_
      refine z_ev_ifle (fun e27 => ?_) (fun e27 => ?_)
      · have h31 := h34.1 e27
        refine z_ev_gs 1 (c1 := (161, 52, [some (z_i (x0)), some (z_i (x1)), some (z_i (x2)), some (z_i (x3)), some (z_i (x4)), some (z_i ((x2 >>> (((2 : Int32) * x4) &&& 31)) &&& (3 : Int32))), none], [z_i (-1)], (true, X, I, J))) rfl ?_
        rw [h31]
        exact z_ev_rt rfl
      · have h32 := h34.2 e27
        refine z_ev_gs 7 (c1 := (161, (if ¬ ((x3 >>> (((x2 >>> (((2 : Int32) * x4) &&& 31)) &&& (3 : Int32)) &&& 31)) &&& (1 : Int32)) = (1 : Int32) then 53 else 43), [some (z_i (x0)), some (z_i (x1)), some (z_i (x2)), some (z_i (x3)), some (z_i (x4)), some (z_i ((x2 >>> (((2 : Int32) * x4) &&& 31)) &&& (3 : Int32))), none], [], (true, X, I, J))) rfl ?_
        refine z_ev_ifn (fun e28 => ?_) (fun e28 => ?_)
        · have h29 := h32.1 e28
          refine z_ev_gs 4 (c1 := (161, (if x0 ≤ x4 then 67 else 60), [some (z_i (x0)), some (z_i (x1)), some (z_i (x2)), some (z_i (x3)), some (z_i (x4)), some (z_i ((x2 >>> (((2 : Int32) * x4) &&& 31)) &&& (3 : Int32))), none], [z_i (x3)], (true, X, I, J))) rfl ?_
          rw [if_neg (Int32.not_le.mpr e23)]
          refine z_ev_gs 8 (c1 := (161, 5, [some (z_i (x0)), some (z_i (x1)), some (z_i (x2)), some (z_i (x3 ||| ((1 : Int32) <<< (((x2 >>> (((2 : Int32) * x4) &&& 31)) &&& (3 : Int32)) &&& 31)))), some (z_i (x4 + (1 : Int32))), some (z_i ((x2 >>> (((2 : Int32) * x4) &&& 31)) &&& (3 : Int32))), none], [], (true, X, I, J))) rfl ?_
          exact h29
        · have h30 := h32.2 e28
          refine z_ev_gs 2 (c1 := (161, 52, [some (z_i (x0)), some (z_i (x1)), some (z_i (x2)), some (z_i (x3)), some (z_i (x4)), some (z_i ((x2 >>> (((2 : Int32) * x4) &&& 31)) &&& (3 : Int32))), none], [z_i (-1)], (true, X, I, J))) rfl ?_
          rw [h30]
          exact z_ev_rt rfl
theorem z_q161_82 {d : Nat} {r : Option z_V × z_M} {X : z_X} {I : Nat → Nat → Nat → Int32} {J : Nat → Nat → Nat → Int64} (x0 : Int32) (x1 : Int32) (x2 : Int32) (x3 : Int32) (x4 : Int32) (x5 : Int32) (o6 : Option z_V)
    (h : ((x0 ≤ x5 → r = (some (z_i (x4)), (true, X, I, J))) ∧ (x5 < x0 → z_ev (d + 2) (161, 91, [some (z_i (x0)), some (z_i (x1)), some (z_i (x2)), some (z_i (x3)), some (z_i (x4)), some (z_i (x5)), some (z_i 0)], [], (true, X, I, J)) r))) :
    z_ev (d + 2) ((161, 82, [some (z_i (x0)), some (z_i (x1)), some (z_i (x2)), some (z_i (x3)), some (z_i (x4)), some (z_i (x5)), o6], [], (true, X, I, J))) r := by
  refine z_ev_gs 3 (c1 := (161, (if x0 ≤ x5 then 146 else 88), [some (z_i (x0)), some (z_i (x1)), some (z_i (x2)), some (z_i (x3)), some (z_i (x4)), some (z_i (x5)), o6], [], (true, X, I, J))) rfl ?_
  refine z_ev_ifle (fun e37 => ?_) (fun e37 => ?_)
  · have h38 := h.1 e37
    refine z_ev_gs 1 (c1 := (161, 148, [some (z_i (x0)), some (z_i (x1)), some (z_i (x2)), some (z_i (x3)), some (z_i (x4)), some (z_i (x5)), o6], [z_i (x4)], (true, X, I, J))) rfl ?_
    rw [h38]
    exact z_ev_rt rfl
  · have h39 := h.2 e37
    refine z_ev_gs 2 (c1 := (161, 91, [some (z_i (x0)), some (z_i (x1)), some (z_i (x2)), some (z_i (x3)), some (z_i (x4)), some (z_i (x5)), some (z_i 0)], [], (true, X, I, J))) rfl ?_
    exact h39
theorem z_q161_91 {d : Nat} {r : Option z_V × z_M} {X : z_X} {I : Nat → Nat → Nat → Int32} {J : Nat → Nat → Nat → Int64} (x0 : Int32) (x1 : Int32) (x2 : Int32) (x3 : Int32) (x4 : Int32) (x5 : Int32) (x6 : Int32)
    (h : ((x5 ≤ x6 → z_ev (d + 2) (161, 82, [some (z_i (x0)), some (z_i (x1)), some (z_i (x2)), some (z_i (x3)), some (z_i (x4)), some (z_i (x5 + (1 : Int32))), some (z_i (x6))], [], (true, X, I, J)) r) ∧ (x6 < x5 → z_ev (d + 2) (161, 91, [some (z_i (x0)), some (z_i (x1)), some (z_i (x2)), some (z_i (x3)), some (z_i (x4 ||| (((x1 >>> ((z_bo ((x2 >>> (((2 : Int32) * x6) &&& 31)) &&& (3 : Int32)) ((x2 >>> (((2 : Int32) * x5) &&& 31)) &&& (3 : Int32))) &&& 31)) &&& (1 : Int32)) <<< ((z_bo x6 x5) &&& 31)))), some (z_i (x5)), some (z_i (x6 + (1 : Int32)))], [], (true, X, I, J)) r))) :
    z_ev (d + 2) ((161, 91, [some (z_i (x0)), some (z_i (x1)), some (z_i (x2)), some (z_i (x3)), some (z_i (x4)), some (z_i (x5)), some (z_i (x6))], [], (true, X, I, J))) r := by
  refine z_ev_gs 3 (c1 := (161, (if x5 ≤ x6 then 140 else 98), [some (z_i (x0)), some (z_i (x1)), some (z_i (x2)), some (z_i (x3)), some (z_i (x4)), some (z_i (x5)), some (z_i (x6))], [], (true, X, I, J))) rfl ?_
  refine z_ev_ifle (fun e40 => ?_) (fun e40 => ?_)
  · have h41 := h.1 e40
    refine z_ev_gs 2 (c1 := (161, 82, [some (z_i (x0)), some (z_i (x1)), some (z_i (x2)), some (z_i (x3)), some (z_i (x4)), some (z_i (x5 + (1 : Int32))), some (z_i (x6))], [], (true, X, I, J))) rfl ?_
    exact h41
  · have h42 := h.2 e40
    refine z_ev_gs 16 (c1 := (161, 117, [some (z_i (x0)), some (z_i (x1)), some (z_i (x2)), some (z_i (x3)), some (z_i (x4)), some (z_i (x5)), some (z_i (x6))], [z_i ((x2 >>> (((2 : Int32) * x5) &&& 31)) &&& (3 : Int32)), z_i ((x2 >>> (((2 : Int32) * x6) &&& 31)) &&& (3 : Int32)), z_i (x1), z_i (x4)], (true, X, I, J))) rfl ?_
    refine z_ev_ca rfl rfl (z_p160 _ _) ?_
    refine z_ev_gs 5 (c1 := (161, 127, [some (z_i (x0)), some (z_i (x1)), some (z_i (x2)), some (z_i (x3)), some (z_i (x4)), some (z_i (x5)), some (z_i (x6))], [z_i (x5), z_i (x6), z_i ((x1 >>> ((z_bo ((x2 >>> (((2 : Int32) * x6) &&& 31)) &&& (3 : Int32)) ((x2 >>> (((2 : Int32) * x5) &&& 31)) &&& (3 : Int32))) &&& 31)) &&& (1 : Int32)), z_i (x4)], (true, X, I, J))) rfl ?_
    refine z_ev_ca rfl rfl (z_p160 _ _) ?_
    refine z_ev_gs 5 (c1 := (161, 91, [some (z_i (x0)), some (z_i (x1)), some (z_i (x2)), some (z_i (x3)), some (z_i (x4 ||| (((x1 >>> ((z_bo ((x2 >>> (((2 : Int32) * x6) &&& 31)) &&& (3 : Int32)) ((x2 >>> (((2 : Int32) * x5) &&& 31)) &&& (3 : Int32))) &&& 31)) &&& (1 : Int32)) <<< ((z_bo x6 x5) &&& 31)))), some (z_i (x5)), some (z_i (x6 + (1 : Int32)))], [], (true, X, I, J))) rfl ?_
    exact h42
theorem z_q157_286 {d : Nat} {r : Option z_V × z_M} {X : z_X} {I : Nat → Nat → Nat → Int32} {J : Nat → Nat → Nat → Int64} 
    (h : z_ev (d + 3) (157, 288, [some (z_r 33 0), some (z_i 1), none, none, none, none], [], (true, X, I, J)) r) :
    z_ev (d + 3) ((157, 286, [some (z_r 33 0), none, none, none, none, none], [], (true, X, I, J))) r := by
  refine z_ev_gs 2 (c1 := (157, 288, [some (z_r 33 0), some (z_i 1), none, none, none, none], [], (true, X, I, J))) rfl ?_
  exact h
theorem z_q157_288 {d : Nat} {r : Option z_V × z_M} {X : z_X} {I : Nat → Nat → Nat → Int32} {J : Nat → Nat → Nat → Int64} (x1 : Int32) (o2 : Option z_V) (o3 : Option z_V) (o4 : Option z_V) (o5 : Option z_V)
    (h : (((5 : Int32) ≤ x1 → r = (none, (true, X, I, J))) ∧ (x1 < (5 : Int32) → z_ev (d + 3) (157, 295, [some (z_r 33 0), some (z_i (x1)), some (z_i 0), o3, o4, o5], [], (true, X, I, J)) r))) :
    z_ev (d + 3) ((157, 288, [some (z_r 33 0), some (z_i (x1)), o2, o3, o4, o5], [], (true, X, I, J))) r := by
  refine z_ev_gs 3 (c1 := (157, (if (5 : Int32) ≤ x1 then 407 else 293), [some (z_r 33 0), some (z_i (x1)), o2, o3, o4, o5], [], (true, X, I, J))) rfl ?_
  refine z_ev_ifle (fun e109 => ?_) (fun e109 => ?_)
  · have h110 := h.1 e109
    rw [h110]
    exact z_ev_rt rfl
  · have h111 := h.2 e109
    refine z_ev_gs 2 (c1 := (157, 295, [some (z_r 33 0), some (z_i (x1)), some (z_i 0), o3, o4, o5], [], (true, X, I, J))) rfl ?_
    exact h111
theorem z_q157_295 {d : Nat} {r : Option z_V × z_M} {X : z_X} {I : Nat → Nat → Nat → Int32} {J : Nat → Nat → Nat → Int64} (x1 : Int32) (x2 : Int32) (o3 : Option z_V) (o4 : Option z_V) (o5 : Option z_V)
    (h : ((((1 : Int32) <<< ((z_pr x1) &&& 31)) ≤ x2 → z_ev (d + 3) (157, 288, [some (z_r 33 0), some (z_i (x1 + (1 : Int32))), some (z_i (x2)), o3, o4, o5], [], (true, X, I, J)) r) ∧ (x2 < ((1 : Int32) <<< ((z_pr x1) &&& 31)) → z_ev (d + 3) (157, 310, [some (z_r 33 0), some (z_i (x1)), some (z_i (x2)), some (z_i (x2)), some (z_i 0), o5], [], (true, X, I, J)) r))) :
    z_ev (d + 3) ((157, 295, [some (z_r 33 0), some (z_i (x1)), some (z_i (x2)), o3, o4, o5], [], (true, X, I, J))) r := by
  refine z_ev_gs 3 (c1 := (157, 298, [some (z_r 33 0), some (z_i (x1)), some (z_i (x2)), o3, o4, o5], [z_i (x1), z_i 1, z_i (x2)], (true, X, I, J))) rfl ?_
  refine z_ev_ca rfl rfl (z_p159 _) ?_
  refine z_ev_gs 2 (c1 := (157, (if ((1 : Int32) <<< ((z_pr x1) &&& 31)) ≤ x2 then 401 else 305), [some (z_r 33 0), some (z_i (x1)), some (z_i (x2)), o3, o4, o5], [], (true, X, I, J))) rfl ?_
  refine z_ev_ifle (fun e112 => ?_) (fun e112 => ?_)
  · have h113 := h.1 e112
    refine z_ev_gs 2 (c1 := (157, 288, [some (z_r 33 0), some (z_i (x1 + (1 : Int32))), some (z_i (x2)), o3, o4, o5], [], (true, X, I, J))) rfl ?_
    exact h113
  · have h114 := h.2 e112
    refine z_ev_gs 4 (c1 := (157, 310, [some (z_r 33 0), some (z_i (x1)), some (z_i (x2)), some (z_i (x2)), some (z_i 0), o5], [], (true, X, I, J))) rfl ?_
    exact h114
theorem z_q157_310 {d : Nat} {r : Option z_V × z_M} {X : z_X} {I : Nat → Nat → Nat → Int32} {J : Nat → Nat → Nat → Int64} (x1 : Int32) (x2 : Int32) (x3 : Int32) (x4 : Int32) (o5 : Option z_V)
    (h : (((256 : Int32) ≤ x4 → (∃ k116 : Nat, (((64 : Int32) * x1) + x2) = Int32.ofNat k116 ∧ k116 < 320 ∧ ((¬ x3 = x2 → z_ev (d + 3) (157, 295, [some (z_r 33 0), some (z_i (x1)), some (z_i (x2 + (1 : Int32))), some (z_i (x3)), some (z_i (x4)), o5], [], (true, X, (z_up I 40 0 k116 x3), J)) r) ∧ (x3 = x2 → (∃ k121 : Nat, x1 = Int32.ofNat k121 ∧ k121 < 5 ∧ (∃ k125 : Nat, (((11 : Int32) * x1) + (I 42 0 k121)) = Int32.ofNat k125 ∧ k125 < 55 ∧ z_ev (d + 3) (157, 295, [some (z_r 33 0), some (z_i (x1)), some (z_i (x2 + (1 : Int32))), some (z_i (x3)), some (z_i (x4)), o5], [], (true, X, (z_up (z_up (z_up I 40 0 k116 x3) 41 0 k125 x2) 42 0 k121 ((I 42 0 k121) + (1 : Int32))), J)) r)))))) ∧ (x4 < (256 : Int32) → (∃ (v136 : Int32) (X131 : z_X) (I132 : Nat → Nat → Nat → Int32) (J133 : Nat → Nat → Nat → Int64), z_ev (d + 2) (z_en 161 [z_i (x1), z_i (x2), z_i (x4)] (true, X, I, J)) (some (z_i (v136)), (true, X131, I132, J133)) ∧ ((v136 < 0 → z_ev (d + 3) (157, 310, [some (z_r 33 0), some (z_i (x1)), some (z_i (x2)), some (z_i (x3)), some (z_i (x4 + (1 : Int32))), some (z_i (v136))], [], (true, X131, I132, J133)) r) ∧ (0 ≤ v136 → ((x3 ≤ v136 → z_ev (d + 3) (157, 310, [some (z_r 33 0), some (z_i (x1)), some (z_i (x2)), some (z_i (x3)), some (z_i (x4 + (1 : Int32))), some (z_i (v136))], [], (true, X131, I132, J133)) r) ∧ (v136 < x3 → z_ev (d + 3) (157, 310, [some (z_r 33 0), some (z_i (x1)), some (z_i (x2)), some (z_i (v136)), some (z_i (x4 + (1 : Int32))), some (z_i (v136))], [], (true, X131, I132, J133)) r)))))))) :
    z_ev (d + 3) ((157, 310, [some (z_r 33 0), some (z_i (x1)), some (z_i (x2)), some (z_i (x3)), some (z_i (x4)), o5], [], (true, X, I, J))) r := by
  refine z_ev_gs 3 (c1 := (157, (if (256 : Int32) ≤ x4 then 351 else 318), [some (z_r 33 0), some (z_i (x1)), some (z_i (x2)), some (z_i (x3)), some (z_i (x4)), o5], [], (true, X, I, J))) rfl ?_
  refine z_ev_ifle (fun e115 => ?_) (fun e115 => ?_)
  · have h143 := h.1 e115
    refine z_ev_gs 8 (c1 := (157, 362, [some (z_r 33 0), some (z_i (x1)), some (z_i (x2)), some (z_i (x3)), some (z_i (x4)), o5], [z_i (x3), z_i (((64 : Int32) * x1) + x2), z_r 40 0], (true, X, I, J))) rfl ?_
    obtain ⟨k116, e117, e118, h119⟩ := h143
    refine z_ev_iast (t := 40) (i := 0) (k := k116) (n := 320) rfl rfl e117 e118 (by decide) ?_
    refine z_ev_gs 3 (c1 := (157, (if ¬ x3 = x2 then 395 else 368), [some (z_r 33 0), some (z_i (x1)), some (z_i (x2)), some (z_i (x3)), some (z_i (x4)), o5], [], (true, X, (z_up I 40 0 k116 x3), J))) rfl ?_
    refine z_ev_ifn (fun e120 => ?_) (fun e120 => ?_)
    · have h129 := h119.1 e120
      refine z_ev_gs 2 (c1 := (157, 295, [some (z_r 33 0), some (z_i (x1)), some (z_i (x2 + (1 : Int32))), some (z_i (x3)), some (z_i (x4)), o5], [], (true, X, (z_up I 40 0 k116 x3), J))) rfl ?_
      exact h129
    · have h130 := h119.2 e120
      refine z_ev_gs 8 (c1 := (157, 381, [some (z_r 33 0), some (z_i (x1)), some (z_i (x2)), some (z_i (x3)), some (z_i (x4)), o5], [z_i (x1), z_r 42 0, z_i ((11 : Int32) * x1), z_r 41 0], (true, X, (z_up I 40 0 k116 x3), J))) rfl ?_
      obtain ⟨k121, e122, e123, h124⟩ := h130
      refine z_ev_iald (t := 42) (i := 0) (k := k121) (n := 5) rfl rfl e122 e123 (by decide) ?_
      refine z_ev_gs 2 (c1 := (157, 384, [some (z_r 33 0), some (z_i (x1)), some (z_i (x2)), some (z_i (x3)), some (z_i (x4)), o5], [z_i (x2), z_i (((11 : Int32) * x1) + (I 42 0 k121)), z_r 41 0], (true, X, (z_up I 40 0 k116 x3), J))) rfl ?_
      obtain ⟨k125, e126, e127, h128⟩ := h124
      refine z_ev_iast (t := 41) (i := 0) (k := k125) (n := 55) rfl rfl e126 e127 (by decide) ?_
      refine z_ev_gs 4 (c1 := (157, 391, [some (z_r 33 0), some (z_i (x1)), some (z_i (x2)), some (z_i (x3)), some (z_i (x4)), o5], [z_i (x1), z_r 42 0, z_i (x1), z_r 42 0], (true, X, (z_up (z_up I 40 0 k116 x3) 41 0 k125 x2), J))) rfl ?_
      refine z_ev_iald (t := 42) (i := 0) (k := k121) (n := 5) rfl rfl e122 (Nat.lt_of_lt_of_le e123 (by decide)) (by decide) ?_
      refine z_ev_gs 2 (c1 := (157, 394, [some (z_r 33 0), some (z_i (x1)), some (z_i (x2)), some (z_i (x3)), some (z_i (x4)), o5], [z_i ((I 42 0 k121) + (1 : Int32)), z_i (x1), z_r 42 0], (true, X, (z_up (z_up I 40 0 k116 x3) 41 0 k125 x2), J))) rfl ?_
      refine z_ev_iast (t := 42) (i := 0) (k := k121) (n := 5) rfl rfl e122 (Nat.lt_of_lt_of_le e123 (by decide)) (by decide) ?_
      refine z_ev_gs 2 (c1 := (157, 295, [some (z_r 33 0), some (z_i (x1)), some (z_i (x2 + (1 : Int32))), some (z_i (x3)), some (z_i (x4)), o5], [], (true, X, (z_up (z_up (z_up I 40 0 k116 x3) 41 0 k125 x2) 42 0 k121 ((I 42 0 k121) + (1 : Int32))), J))) rfl ?_
      exact h128
  · have h144 := h.2 e115
    refine z_ev_gs 3 (c1 := (157, 322, [some (z_r 33 0), some (z_i (x1)), some (z_i (x2)), some (z_i (x3)), some (z_i (x4)), o5], [z_i (x4), z_i (x2), z_i (x1)], (true, X, I, J))) rfl ?_
    obtain ⟨v136, X131, I132, J133, g134, h135⟩ := h144
    refine z_ev_ca rfl rfl g134 ?_
    refine z_ev_gs 3 (c1 := (157, (if v136 < 0 then 343 else 332), [some (z_r 33 0), some (z_i (x1)), some (z_i (x2)), some (z_i (x3)), some (z_i (x4)), some (z_i (v136))], [], (true, X131, I132, J133))) rfl ?_
    refine z_ev_iflt (fun e137 => ?_) (fun e137 => ?_)
    · have h141 := h135.1 e137
      refine z_ev_gs 4 (c1 := (157, 310, [some (z_r 33 0), some (z_i (x1)), some (z_i (x2)), some (z_i (x3)), some (z_i (x4 + (1 : Int32))), some (z_i (v136))], [], (true, X131, I132, J133))) rfl ?_
      exact h141
    · have h142 := h135.2 e137
      refine z_ev_gs 3 (c1 := (157, (if x3 ≤ v136 then 343 else 338), [some (z_r 33 0), some (z_i (x1)), some (z_i (x2)), some (z_i (x3)), some (z_i (x4)), some (z_i (v136))], [], (true, X131, I132, J133))) rfl ?_
      refine z_ev_ifle (fun e138 => ?_) (fun e138 => ?_)
      · have h139 := h142.1 e138
        refine z_ev_gs 4 (c1 := (157, 310, [some (z_r 33 0), some (z_i (x1)), some (z_i (x2)), some (z_i (x3)), some (z_i (x4 + (1 : Int32))), some (z_i (v136))], [], (true, X131, I132, J133))) rfl ?_
        exact h139
      · have h140 := h142.2 e138
        refine z_ev_gs 5 (c1 := (157, 310, [some (z_r 33 0), some (z_i (x1)), some (z_i (x2)), some (z_i (v136)), some (z_i (x4 + (1 : Int32))), some (z_i (v136))], [], (true, X131, I132, J133))) rfl ?_
        exact h140
