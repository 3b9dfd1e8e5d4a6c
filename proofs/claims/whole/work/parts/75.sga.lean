/-! segments: keep, again; printed by wip/whole/emit_seg.py -/
theorem z_q271_e_63 {d : Nat} {r : Option z_V × z_M} {X : z_X} {I : Nat → Nat → Nat → Int32} {J : Nat → Nat → Nat → Int64} (x2 : Int32) (b3 : Bool)
    (h : z_ev d (271, 3, [some (z_r 33 0), some (z_r 63 0), some (z_i (x2)), some (z_i (z_c b3)), some (z_i 0)], [], (true, X, I, J)) r) :
    z_ev d (z_en 271 [z_r 33 0, z_r 63 0, z_i (x2), z_i (z_c b3)] (true, X, I, J)) r := by
  show z_ev d (271, 0, [some (z_r 33 0), some (z_r 63 0), some (z_i (x2)), some (z_i (z_c b3)), none], [], (true, X, I, J)) r
  refine z_ev_gs 2 (c1 := (271, 3, [some (z_r 33 0), some (z_r 63 0), some (z_i (x2)), some (z_i (z_c b3)), some (z_i 0)], [], (true, X, I, J))) rfl ?_
  exact h
theorem z_q271_3_63 {d : Nat} {r : Option z_V × z_M} {X : z_X} {I : Nat → Nat → Nat → Int32} {J : Nat → Nat → Nat → Int64} (x2 : Int32) (b3 : Bool) (x4 : Int32)
    (h : ((x2 ≤ x4 → r = (none, (true, X, I, J))) ∧ (x4 < x2 → ((b3 = false → (∃ k3 : Nat, (I 33 0 54) = Int32.ofNat k3 ∧ k3 < 120 ∧ (∃ k7 : Nat, x4 = Int32.ofNat k7 ∧ k7 < 4 ∧ z_ev d (271, 3, [some (z_r 33 0), some (z_r 63 0), some (z_i (x2)), some (z_i (z_c b3)), some (z_i (x4 + (1 : Int32)))], [], (true, X, (z_up (z_up I 63 0 k7 (I 62 0 k3)) 33 0 54 ((I 33 0 54) + (1 : Int32))), J)) r))) ∧ (b3 = true → (∃ k11 : Nat, x4 = Int32.ofNat k11 ∧ k11 < 4 ∧ (∃ k15 : Nat, (I 33 0 54) = Int32.ofNat k15 ∧ k15 < 120 ∧ z_ev d (271, 3, [some (z_r 33 0), some (z_r 63 0), some (z_i (x2)), some (z_i (z_c b3)), some (z_i (x4 + (1 : Int32)))], [], (true, X, (z_up (z_up I 62 0 k15 (I 63 0 k11)) 33 0 54 ((I 33 0 54) + (1 : Int32))), J)) r))))))) :
    z_ev d ((271, 3, [some (z_r 33 0), some (z_r 63 0), some (z_i (x2)), some (z_i (z_c b3)), some (z_i (x4))], [], (true, X, I, J))) r := by
  refine z_ev_gs 3 (c1 := (271, (if x2 ≤ x4 then 58 else 9), [some (z_r 33 0), some (z_r 63 0), some (z_i (x2)), some (z_i (z_c b3)), some (z_i (x4))], [], (true, X, I, J))) rfl ?_
  refine z_ev_ifle (fun e1 => ?_) (fun e1 => ?_)
  · have h21 := h.1 e1
    rw [h21]
    exact z_ev_rt rfl
  · have h22 := h.2 e1
    refine z_ev_gs 2 (c1 := (271, (if z_c b3 = 0 then 29 else 13), [some (z_r 33 0), some (z_r 63 0), some (z_i (x2)), some (z_i (z_c b3)), some (z_i (x4))], [], (true, X, I, J))) rfl ?_
    refine z_ev_ifc (fun e2 => ?_) (fun e2 => ?_)
    · have h19 := h22.1 e2
      refine z_ev_gs 6 (c1 := (271, 40, [some (z_r 33 0), some (z_r 63 0), some (z_i (x2)), some (z_i (z_c b3)), some (z_i (x4))], [z_i (I 33 0 54), z_r 62 0, z_i (x4), z_r 63 0], (true, X, I, J))) rfl ?_
      obtain ⟨k3, e4, e5, h6⟩ := h19
      refine z_ev_iald (t := 62) (i := 0) (k := k3) (n := 120) rfl rfl e4 e5 (by decide) ?_
      obtain ⟨k7, e8, e9, h10⟩ := h6
      refine z_ev_iast (t := 63) (i := 0) (k := k7) (n := 4) rfl rfl e8 e9 (by decide) ?_
      refine z_ev_gs 8 (c1 := (271, 3, [some (z_r 33 0), some (z_r 63 0), some (z_i (x2)), some (z_i (z_c b3)), some (z_i (x4 + (1 : Int32)))], [], (true, X, (z_up (z_up I 63 0 k7 (I 62 0 k3)) 33 0 54 ((I 33 0 54) + (1 : Int32))), J))) rfl ?_
      exact h10
    · have h20 := h22.2 e2
      refine z_ev_gs 6 (c1 := (271, 24, [some (z_r 33 0), some (z_r 63 0), some (z_i (x2)), some (z_i (z_c b3)), some (z_i (x4))], [z_i (x4), z_r 63 0, z_i (I 33 0 54), z_r 62 0], (true, X, I, J))) rfl ?_
      obtain ⟨k11, e12, e13, h14⟩ := h20
      refine z_ev_iald (t := 63) (i := 0) (k := k11) (n := 4) rfl rfl e12 e13 (by decide) ?_
      obtain ⟨k15, e16, e17, h18⟩ := h14
      refine z_ev_iast (t := 62) (i := 0) (k := k15) (n := 120) rfl rfl e16 e17 (by decide) ?_
      refine z_ev_gs 9 (c1 := (271, 3, [some (z_r 33 0), some (z_r 63 0), some (z_i (x2)), some (z_i (z_c b3)), some (z_i (x4 + (1 : Int32)))], [], (true, X, (z_up (z_up I 62 0 k15 (I 63 0 k11)) 33 0 54 ((I 33 0 54) + (1 : Int32))), J))) rfl ?_
      exact h18
theorem z_q271_e_34 {d : Nat} {r : Option z_V × z_M} {X : z_X} {I : Nat → Nat → Nat → Int32} {J : Nat → Nat → Nat → Int64} (x2 : Int32) (b3 : Bool)
    (h : z_ev d (271, 3, [some (z_r 33 0), some (z_r 34 0), some (z_i (x2)), some (z_i (z_c b3)), some (z_i 0)], [], (true, X, I, J)) r) :
    z_ev d (z_en 271 [z_r 33 0, z_r 34 0, z_i (x2), z_i (z_c b3)] (true, X, I, J)) r := by
  show z_ev d (271, 0, [some (z_r 33 0), some (z_r 34 0), some (z_i (x2)), some (z_i (z_c b3)), none], [], (true, X, I, J)) r
  refine z_ev_gs 2 (c1 := (271, 3, [some (z_r 33 0), some (z_r 34 0), some (z_i (x2)), some (z_i (z_c b3)), some (z_i 0)], [], (true, X, I, J))) rfl ?_
  exact h
theorem z_q271_3_34 {d : Nat} {r : Option z_V × z_M} {X : z_X} {I : Nat → Nat → Nat → Int32} {J : Nat → Nat → Nat → Int64} (x2 : Int32) (b3 : Bool) (x4 : Int32)
    (h : ((x2 ≤ x4 → r = (none, (true, X, I, J))) ∧ (x4 < x2 → ((b3 = false → (∃ k3 : Nat, (I 33 0 54) = Int32.ofNat k3 ∧ k3 < 120 ∧ (∃ k7 : Nat, x4 = Int32.ofNat k7 ∧ k7 < 4 ∧ z_ev d (271, 3, [some (z_r 33 0), some (z_r 34 0), some (z_i (x2)), some (z_i (z_c b3)), some (z_i (x4 + (1 : Int32)))], [], (true, X, (z_up (z_up I 34 0 k7 (I 62 0 k3)) 33 0 54 ((I 33 0 54) + (1 : Int32))), J)) r))) ∧ (b3 = true → (∃ k11 : Nat, x4 = Int32.ofNat k11 ∧ k11 < 4 ∧ (∃ k15 : Nat, (I 33 0 54) = Int32.ofNat k15 ∧ k15 < 120 ∧ z_ev d (271, 3, [some (z_r 33 0), some (z_r 34 0), some (z_i (x2)), some (z_i (z_c b3)), some (z_i (x4 + (1 : Int32)))], [], (true, X, (z_up (z_up I 62 0 k15 (I 34 0 k11)) 33 0 54 ((I 33 0 54) + (1 : Int32))), J)) r))))))) :
    z_ev d ((271, 3, [some (z_r 33 0), some (z_r 34 0), some (z_i (x2)), some (z_i (z_c b3)), some (z_i (x4))], [], (true, X, I, J))) r := by
  refine z_ev_gs 3 (c1 := (271, (if x2 ≤ x4 then 58 else 9), [some (z_r 33 0), some (z_r 34 0), some (z_i (x2)), some (z_i (z_c b3)), some (z_i (x4))], [], (true, X, I, J))) rfl ?_
  refine z_ev_ifle (fun e1 => ?_) (fun e1 => ?_)
  · have h21 := h.1 e1
    rw [h21]
    exact z_ev_rt rfl
  · have h22 := h.2 e1
    refine z_ev_gs 2 (c1 := (271, (if z_c b3 = 0 then 29 else 13), [some (z_r 33 0), some (z_r 34 0), some (z_i (x2)), some (z_i (z_c b3)), some (z_i (x4))], [], (true, X, I, J))) rfl ?_
    refine z_ev_ifc (fun e2 => ?_) (fun e2 => ?_)
    · have h19 := h22.1 e2
      refine z_ev_gs 6 (c1 := (271, 40, [some (z_r 33 0), some (z_r 34 0), some (z_i (x2)), some (z_i (z_c b3)), some (z_i (x4))], [z_i (I 33 0 54), z_r 62 0, z_i (x4), z_r 34 0], (true, X, I, J))) rfl ?_
      obtain ⟨k3, e4, e5, h6⟩ := h19
      refine z_ev_iald (t := 62) (i := 0) (k := k3) (n := 120) rfl rfl e4 e5 (by decide) ?_
      obtain ⟨k7, e8, e9, h10⟩ := h6
      refine z_ev_iast (t := 34) (i := 0) (k := k7) (n := 4) rfl rfl e8 e9 (by decide) ?_
      refine z_ev_gs 8 (c1 := (271, 3, [some (z_r 33 0), some (z_r 34 0), some (z_i (x2)), some (z_i (z_c b3)), some (z_i (x4 + (1 : Int32)))], [], (true, X, (z_up (z_up I 34 0 k7 (I 62 0 k3)) 33 0 54 ((I 33 0 54) + (1 : Int32))), J))) rfl ?_
      exact h10
    · have h20 := h22.2 e2
      refine z_ev_gs 6 (c1 := (271, 24, [some (z_r 33 0), some (z_r 34 0), some (z_i (x2)), some (z_i (z_c b3)), some (z_i (x4))], [z_i (x4), z_r 34 0, z_i (I 33 0 54), z_r 62 0], (true, X, I, J))) rfl ?_
      obtain ⟨k11, e12, e13, h14⟩ := h20
      refine z_ev_iald (t := 34) (i := 0) (k := k11) (n := 4) rfl rfl e12 e13 (by decide) ?_
      obtain ⟨k15, e16, e17, h18⟩ := h14
      refine z_ev_iast (t := 62) (i := 0) (k := k15) (n := 120) rfl rfl e16 e17 (by decide) ?_
      refine z_ev_gs 9 (c1 := (271, 3, [some (z_r 33 0), some (z_r 34 0), some (z_i (x2)), some (z_i (z_c b3)), some (z_i (x4 + (1 : Int32)))], [], (true, X, (z_up (z_up I 62 0 k15 (I 34 0 k11)) 33 0 54 ((I 33 0 54) + (1 : Int32))), J))) rfl ?_
      exact h18
theorem z_q271_e_35 {d : Nat} {r : Option z_V × z_M} {X : z_X} {I : Nat → Nat → Nat → Int32} {J : Nat → Nat → Nat → Int64} (x2 : Int32) (b3 : Bool)
    (h : z_ev d (271, 3, [some (z_r 33 0), some (z_r 35 0), some (z_i (x2)), some (z_i (z_c b3)), some (z_i 0)], [], (true, X, I, J)) r) :
    z_ev d (z_en 271 [z_r 33 0, z_r 35 0, z_i (x2), z_i (z_c b3)] (true, X, I, J)) r := by
  show z_ev d (271, 0, [some (z_r 33 0), some (z_r 35 0), some (z_i (x2)), some (z_i (z_c b3)), none], [], (true, X, I, J)) r
  refine z_ev_gs 2 (c1 := (271, 3, [some (z_r 33 0), some (z_r 35 0), some (z_i (x2)), some (z_i (z_c b3)), some (z_i 0)], [], (true, X, I, J))) rfl ?_
  exact h
theorem z_q271_3_35 {d : Nat} {r : Option z_V × z_M} {X : z_X} {I : Nat → Nat → Nat → Int32} {J : Nat → Nat → Nat → Int64} (x2 : Int32) (b3 : Bool) (x4 : Int32)
    (h : ((x2 ≤ x4 → r = (none, (true, X, I, J))) ∧ (x4 < x2 → ((b3 = false → (∃ k3 : Nat, (I 33 0 54) = Int32.ofNat k3 ∧ k3 < 120 ∧ (∃ k7 : Nat, x4 = Int32.ofNat k7 ∧ k7 < 40 ∧ z_ev d (271, 3, [some (z_r 33 0), some (z_r 35 0), some (z_i (x2)), some (z_i (z_c b3)), some (z_i (x4 + (1 : Int32)))], [], (true, X, (z_up (z_up I 35 0 k7 (I 62 0 k3)) 33 0 54 ((I 33 0 54) + (1 : Int32))), J)) r))) ∧ (b3 = true → (∃ k11 : Nat, x4 = Int32.ofNat k11 ∧ k11 < 40 ∧ (∃ k15 : Nat, (I 33 0 54) = Int32.ofNat k15 ∧ k15 < 120 ∧ z_ev d (271, 3, [some (z_r 33 0), some (z_r 35 0), some (z_i (x2)), some (z_i (z_c b3)), some (z_i (x4 + (1 : Int32)))], [], (true, X, (z_up (z_up I 62 0 k15 (I 35 0 k11)) 33 0 54 ((I 33 0 54) + (1 : Int32))), J)) r))))))) :
    z_ev d ((271, 3, [some (z_r 33 0), some (z_r 35 0), some (z_i (x2)), some (z_i (z_c b3)), some (z_i (x4))], [], (true, X, I, J))) r := by
  refine z_ev_gs 3 (c1 := (271, (if x2 ≤ x4 then 58 else 9), [some (z_r 33 0), some (z_r 35 0), some (z_i (x2)), some (z_i (z_c b3)), some (z_i (x4))], [], (true, X, I, J))) rfl ?_
  refine z_ev_ifle (fun e1 => ?_) (fun e1 => ?_)
  · have h21 := h.1 e1
    rw [h21]
    exact z_ev_rt rfl
  · have h22 := h.2 e1
    refine z_ev_gs 2 (c1 := (271, (if z_c b3 = 0 then 29 else 13), [some (z_r 33 0), some (z_r 35 0), some (z_i (x2)), some (z_i (z_c b3)), some (z_i (x4))], [], (true, X, I, J))) rfl ?_
    refine z_ev_ifc (fun e2 => ?_) (fun e2 => ?_)
    · have h19 := h22.1 e2
      refine z_ev_gs 6 (c1 := (271, 40, [some (z_r 33 0), some (z_r 35 0), some (z_i (x2)), some (z_i (z_c b3)), some (z_i (x4))], [z_i (I 33 0 54), z_r 62 0, z_i (x4), z_r 35 0], (true, X, I, J))) rfl ?_
      obtain ⟨k3, e4, e5, h6⟩ := h19
      refine z_ev_iald (t := 62) (i := 0) (k := k3) (n := 120) rfl rfl e4 e5 (by decide) ?_
      obtain ⟨k7, e8, e9, h10⟩ := h6
      refine z_ev_iast (t := 35) (i := 0) (k := k7) (n := 40) rfl rfl e8 e9 (by decide) ?_
      refine z_ev_gs 8 (c1 := (271, 3, [some (z_r 33 0), some (z_r 35 0), some (z_i (x2)), some (z_i (z_c b3)), some (z_i (x4 + (1 : Int32)))], [], (true, X, (z_up (z_up I 35 0 k7 (I 62 0 k3)) 33 0 54 ((I 33 0 54) + (1 : Int32))), J))) rfl ?_
      exact h10
    · have h20 := h22.2 e2
      refine z_ev_gs 6 (c1 := (271, 24, [some (z_r 33 0), some (z_r 35 0), some (z_i (x2)), some (z_i (z_c b3)), some (z_i (x4))], [z_i (x4), z_r 35 0, z_i (I 33 0 54), z_r 62 0], (true, X, I, J))) rfl ?_
      obtain ⟨k11, e12, e13, h14⟩ := h20
      refine z_ev_iald (t := 35) (i := 0) (k := k11) (n := 40) rfl rfl e12 e13 (by decide) ?_
      obtain ⟨k15, e16, e17, h18⟩ := h14
      refine z_ev_iast (t := 62) (i := 0) (k := k15) (n := 120) rfl rfl e16 e17 (by decide) ?_
      refine z_ev_gs 9 (c1 := (271, 3, [some (z_r 33 0), some (z_r 35 0), some (z_i (x2)), some (z_i (z_c b3)), some (z_i (x4 + (1 : Int32)))], [], (true, X, (z_up (z_up I 62 0 k15 (I 35 0 k11)) 33 0 54 ((I 33 0 54) + (1 : Int32))), J))) rfl ?_
      exact h18
theorem z_q271_e_36 {d : Nat} {r : Option z_V × z_M} {X : z_X} {I : Nat → Nat → Nat → Int32} {J : Nat → Nat → Nat → Int64} (x2 : Int32) (b3 : Bool)
    (h : z_ev d (271, 3, [some (z_r 33 0), some (z_r 36 0), some (z_i (x2)), some (z_i (z_c b3)), some (z_i 0)], [], (true, X, I, J)) r) :
    z_ev d (z_en 271 [z_r 33 0, z_r 36 0, z_i (x2), z_i (z_c b3)] (true, X, I, J)) r := by
  show z_ev d (271, 0, [some (z_r 33 0), some (z_r 36 0), some (z_i (x2)), some (z_i (z_c b3)), none], [], (true, X, I, J)) r
  refine z_ev_gs 2 (c1 := (271, 3, [some (z_r 33 0), some (z_r 36 0), some (z_i (x2)), some (z_i (z_c b3)), some (z_i 0)], [], (true, X, I, J))) rfl ?_
  exact h
theorem z_q271_3_36 {d : Nat} {r : Option z_V × z_M} {X : z_X} {I : Nat → Nat → Nat → Int32} {J : Nat → Nat → Nat → Int64} (x2 : Int32) (b3 : Bool) (x4 : Int32)
    (h : ((x2 ≤ x4 → r = (none, (true, X, I, J))) ∧ (x4 < x2 → ((b3 = false → (∃ k3 : Nat, (I 33 0 54) = Int32.ofNat k3 ∧ k3 < 120 ∧ (∃ k7 : Nat, x4 = Int32.ofNat k7 ∧ k7 < 8 ∧ z_ev d (271, 3, [some (z_r 33 0), some (z_r 36 0), some (z_i (x2)), some (z_i (z_c b3)), some (z_i (x4 + (1 : Int32)))], [], (true, X, (z_up (z_up I 36 0 k7 (I 62 0 k3)) 33 0 54 ((I 33 0 54) + (1 : Int32))), J)) r))) ∧ (b3 = true → (∃ k11 : Nat, x4 = Int32.ofNat k11 ∧ k11 < 8 ∧ (∃ k15 : Nat, (I 33 0 54) = Int32.ofNat k15 ∧ k15 < 120 ∧ z_ev d (271, 3, [some (z_r 33 0), some (z_r 36 0), some (z_i (x2)), some (z_i (z_c b3)), some (z_i (x4 + (1 : Int32)))], [], (true, X, (z_up (z_up I 62 0 k15 (I 36 0 k11)) 33 0 54 ((I 33 0 54) + (1 : Int32))), J)) r))))))) :
    z_ev d ((271, 3, [some (z_r 33 0), some (z_r 36 0), some (z_i (x2)), some (z_i (z_c b3)), some (z_i (x4))], [], (true, X, I, J))) r := by
  refine z_ev_gs 3 (c1 := (271, (if x2 ≤ x4 then 58 else 9), [some (z_r 33 0), some (z_r 36 0), some (z_i (x2)), some (z_i (z_c b3)), some (z_i (x4))], [], (true, X, I, J))) rfl ?_
  refine z_ev_ifle (fun e1 => ?_) (fun e1 => ?_)
  · have h21 := h.1 e1
    rw [h21]
    exact z_ev_rt rfl
  · have h22 := h.2 e1
    refine z_ev_gs 2 (c1 := (271, (if z_c b3 = 0 then 29 else 13), [some (z_r 33 0), some (z_r 36 0), some (z_i (x2)), some (z_i (z_c b3)), some (z_i (x4))], [], (true, X, I, J))) rfl ?_
    refine z_ev_ifc (fun e2 => ?_) (fun e2 => ?_)
    · have h19 := h22.1 e2
      refine z_ev_gs 6 (c1 := (271, 40, [some (z_r 33 0), some (z_r 36 0), some (z_i (x2)), some (z_i (z_c b3)), some (z_i (x4))], [z_i (I 33 0 54), z_r 62 0, z_i (x4), z_r 36 0], (true, X, I, J))) rfl ?_
      obtain ⟨k3, e4, e5, h6⟩ := h19
      refine z_ev_iald (t := 62) (i := 0) (k := k3) (n := 120) rfl rfl e4 e5 (by decide) ?_
      obtain ⟨k7, e8, e9, h10⟩ := h6
      refine z_ev_iast (t := 36) (i := 0) (k := k7) (n := 8) rfl rfl e8 e9 (by decide) ?_
      refine z_ev_gs 8 (c1 := (271, 3, [some (z_r 33 0), some (z_r 36 0), some (z_i (x2)), some (z_i (z_c b3)), some (z_i (x4 + (1 : Int32)))], [], (true, X, (z_up (z_up I 36 0 k7 (I 62 0 k3)) 33 0 54 ((I 33 0 54) + (1 : Int32))), J))) rfl ?_
      exact h10
    · have h20 := h22.2 e2
      refine z_ev_gs 6 (c1 := (271, 24, [some (z_r 33 0), some (z_r 36 0), some (z_i (x2)), some (z_i (z_c b3)), some (z_i (x4))], [z_i (x4), z_r 36 0, z_i (I 33 0 54), z_r 62 0], (true, X, I, J))) rfl ?_
      obtain ⟨k11, e12, e13, h14⟩ := h20
      refine z_ev_iald (t := 36) (i := 0) (k := k11) (n := 8) rfl rfl e12 e13 (by decide) ?_
      obtain ⟨k15, e16, e17, h18⟩ := h14
      refine z_ev_iast (t := 62) (i := 0) (k := k15) (n := 120) rfl rfl e16 e17 (by decide) ?_
      refine z_ev_gs 9 (c1 := (271, 3, [some (z_r 33 0), some (z_r 36 0), some (z_i (x2)), some (z_i (z_c b3)), some (z_i (x4 + (1 : Int32)))], [], (true, X, (z_up (z_up I 62 0 k15 (I 36 0 k11)) 33 0 54 ((I 33 0 54) + (1 : Int32))), J))) rfl ?_
      exact h18
theorem z_q271_e_37 {d : Nat} {r : Option z_V × z_M} {X : z_X} {I : Nat → Nat → Nat → Int32} {J : Nat → Nat → Nat → Int64} (x2 : Int32) (b3 : Bool)
    (h : z_ev d (271, 3, [some (z_r 33 0), some (z_r 37 0), some (z_i (x2)), some (z_i (z_c b3)), some (z_i 0)], [], (true, X, I, J)) r) :
    z_ev d (z_en 271 [z_r 33 0, z_r 37 0, z_i (x2), z_i (z_c b3)] (true, X, I, J)) r := by
  show z_ev d (271, 0, [some (z_r 33 0), some (z_r 37 0), some (z_i (x2)), some (z_i (z_c b3)), none], [], (true, X, I, J)) r
  refine z_ev_gs 2 (c1 := (271, 3, [some (z_r 33 0), some (z_r 37 0), some (z_i (x2)), some (z_i (z_c b3)), some (z_i 0)], [], (true, X, I, J))) rfl ?_
  exact h
theorem z_q271_3_37 {d : Nat} {r : Option z_V × z_M} {X : z_X} {I : Nat → Nat → Nat → Int32} {J : Nat → Nat → Nat → Int64} (x2 : Int32) (b3 : Bool) (x4 : Int32)
    (h : ((x2 ≤ x4 → r = (none, (true, X, I, J))) ∧ (x4 < x2 → ((b3 = false → (∃ k3 : Nat, (I 33 0 54) = Int32.ofNat k3 ∧ k3 < 120 ∧ (∃ k7 : Nat, x4 = Int32.ofNat k7 ∧ k7 < 5 ∧ z_ev d (271, 3, [some (z_r 33 0), some (z_r 37 0), some (z_i (x2)), some (z_i (z_c b3)), some (z_i (x4 + (1 : Int32)))], [], (true, X, (z_up (z_up I 37 0 k7 (I 62 0 k3)) 33 0 54 ((I 33 0 54) + (1 : Int32))), J)) r))) ∧ (b3 = true → (∃ k11 : Nat, x4 = Int32.ofNat k11 ∧ k11 < 5 ∧ (∃ k15 : Nat, (I 33 0 54) = Int32.ofNat k15 ∧ k15 < 120 ∧ z_ev d (271, 3, [some (z_r 33 0), some (z_r 37 0), some (z_i (x2)), some (z_i (z_c b3)), some (z_i (x4 + (1 : Int32)))], [], (true, X, (z_up (z_up I 62 0 k15 (I 37 0 k11)) 33 0 54 ((I 33 0 54) + (1 : Int32))), J)) r))))))) :
    z_ev d ((271, 3, [some (z_r 33 0), some (z_r 37 0), some (z_i (x2)), some (z_i (z_c b3)), some (z_i (x4))], [], (true, X, I, J))) r := by
  refine z_ev_gs 3 (c1 := (271, (if x2 ≤ x4 then 58 else 9), [some (z_r 33 0), some (z_r 37 0), some (z_i (x2)), some (z_i (z_c b3)), some (z_i (x4))], [], (true, X, I, J))) rfl ?_
  refine z_ev_ifle (fun e1 => ?_) (fun e1 => ?_)
  · have h21 := h.1 e1
    rw [h21]
    exact z_ev_rt rfl
  · have h22 := h.2 e1
    refine z_ev_gs 2 (c1 := (271, (if z_c b3 = 0 then 29 else 13), [some (z_r 33 0), some (z_r 37 0), some (z_i (x2)), some (z_i (z_c b3)), some (z_i (x4))], [], (true, X, I, J))) rfl ?_
    refine z_ev_ifc (fun e2 => ?_) (fun e2 => ?_)
    · have h19 := h22.1 e2
      refine z_ev_gs 6 (c1 := (271, 40, [some (z_r 33 0), some (z_r 37 0), some (z_i (x2)), some (z_i (z_c b3)), some (z_i (x4))], [z_i (I 33 0 54), z_r 62 0, z_i (x4), z_r 37 0], (true, X, I, J))) rfl ?_
      obtain ⟨k3, e4, e5, h6⟩ := h19
      refine z_ev_iald (t := 62) (i := 0) (k := k3) (n := 120) rfl rfl e4 e5 (by decide) ?_
      obtain ⟨k7, e8, e9, h10⟩ := h6
      refine z_ev_iast (t := 37) (i := 0) (k := k7) (n := 5) rfl rfl e8 e9 (by decide) ?_
      refine z_ev_gs 8 (c1 := (271, 3, [some (z_r 33 0), some (z_r 37 0), some (z_i (x2)), some (z_i (z_c b3)), some (z_i (x4 + (1 : Int32)))], [], (true, X, (z_up (z_up I 37 0 k7 (I 62 0 k3)) 33 0 54 ((I 33 0 54) + (1 : Int32))), J))) rfl ?_
      exact h10
    · have h20 := h22.2 e2
      refine z_ev_gs 6 (c1 := (271, 24, [some (z_r 33 0), some (z_r 37 0), some (z_i (x2)), some (z_i (z_c b3)), some (z_i (x4))], [z_i (x4), z_r 37 0, z_i (I 33 0 54), z_r 62 0], (true, X, I, J))) rfl ?_
      obtain ⟨k11, e12, e13, h14⟩ := h20
      refine z_ev_iald (t := 37) (i := 0) (k := k11) (n := 5) rfl rfl e12 e13 (by decide) ?_
      obtain ⟨k15, e16, e17, h18⟩ := h14
      refine z_ev_iast (t := 62) (i := 0) (k := k15) (n := 120) rfl rfl e16 e17 (by decide) ?_
      refine z_ev_gs 9 (c1 := (271, 3, [some (z_r 33 0), some (z_r 37 0), some (z_i (x2)), some (z_i (z_c b3)), some (z_i (x4 + (1 : Int32)))], [], (true, X, (z_up (z_up I 62 0 k15 (I 37 0 k11)) 33 0 54 ((I 33 0 54) + (1 : Int32))), J))) rfl ?_
      exact h18
theorem z_q271_e_38 {d : Nat} {r : Option z_V × z_M} {X : z_X} {I : Nat → Nat → Nat → Int32} {J : Nat → Nat → Nat → Int64} (x2 : Int32) (b3 : Bool)
    (h : z_ev d (271, 3, [some (z_r 33 0), some (z_r 38 0), some (z_i (x2)), some (z_i (z_c b3)), some (z_i 0)], [], (true, X, I, J)) r) :
    z_ev d (z_en 271 [z_r 33 0, z_r 38 0, z_i (x2), z_i (z_c b3)] (true, X, I, J)) r := by
  show z_ev d (271, 0, [some (z_r 33 0), some (z_r 38 0), some (z_i (x2)), some (z_i (z_c b3)), none], [], (true, X, I, J)) r
  refine z_ev_gs 2 (c1 := (271, 3, [some (z_r 33 0), some (z_r 38 0), some (z_i (x2)), some (z_i (z_c b3)), some (z_i 0)], [], (true, X, I, J))) rfl ?_
  exact h
theorem z_q271_3_38 {d : Nat} {r : Option z_V × z_M} {X : z_X} {I : Nat → Nat → Nat → Int32} {J : Nat → Nat → Nat → Int64} (x2 : Int32) (b3 : Bool) (x4 : Int32)
    (h : ((x2 ≤ x4 → r = (none, (true, X, I, J))) ∧ (x4 < x2 → ((b3 = false → (∃ k3 : Nat, (I 33 0 54) = Int32.ofNat k3 ∧ k3 < 120 ∧ (∃ k7 : Nat, x4 = Int32.ofNat k7 ∧ k7 < 25 ∧ z_ev d (271, 3, [some (z_r 33 0), some (z_r 38 0), some (z_i (x2)), some (z_i (z_c b3)), some (z_i (x4 + (1 : Int32)))], [], (true, X, (z_up (z_up I 38 0 k7 (I 62 0 k3)) 33 0 54 ((I 33 0 54) + (1 : Int32))), J)) r))) ∧ (b3 = true → (∃ k11 : Nat, x4 = Int32.ofNat k11 ∧ k11 < 25 ∧ (∃ k15 : Nat, (I 33 0 54) = Int32.ofNat k15 ∧ k15 < 120 ∧ z_ev d (271, 3, [some (z_r 33 0), some (z_r 38 0), some (z_i (x2)), some (z_i (z_c b3)), some (z_i (x4 + (1 : Int32)))], [], (true, X, (z_up (z_up I 62 0 k15 (I 38 0 k11)) 33 0 54 ((I 33 0 54) + (1 : Int32))), J)) r))))))) :
    z_ev d ((271, 3, [some (z_r 33 0), some (z_r 38 0), some (z_i (x2)), some (z_i (z_c b3)), some (z_i (x4))], [], (true, X, I, J))) r := by
  refine z_ev_gs 3 (c1 := (271, (if x2 ≤ x4 then 58 else 9), [some (z_r 33 0), some (z_r 38 0), some (z_i (x2)), some (z_i (z_c b3)), some (z_i (x4))], [], (true, X, I, J))) rfl ?_
  refine z_ev_ifle (fun e1 => ?_) (fun e1 => ?_)
  · have h21 := h.1 e1
    rw [h21]
    exact z_ev_rt rfl
  · have h22 := h.2 e1
    refine z_ev_gs 2 (c1 := (271, (if z_c b3 = 0 then 29 else 13), [some (z_r 33 0), some (z_r 38 0), some (z_i (x2)), some (z_i (z_c b3)), some (z_i (x4))], [], (true, X, I, J))) rfl ?_
    refine z_ev_ifc (fun e2 => ?_) (fun e2 => ?_)
    · have h19 := h22.1 e2
      refine z_ev_gs 6 (c1 := (271, 40, [some (z_r 33 0), some (z_r 38 0), some (z_i (x2)), some (z_i (z_c b3)), some (z_i (x4))], [z_i (I 33 0 54), z_r 62 0, z_i (x4), z_r 38 0], (true, X, I, J))) rfl ?_
      obtain ⟨k3, e4, e5, h6⟩ := h19
      refine z_ev_iald (t := 62) (i := 0) (k := k3) (n := 120) rfl rfl e4 e5 (by decide) ?_
      obtain ⟨k7, e8, e9, h10⟩ := h6
      refine z_ev_iast (t := 38) (i := 0) (k := k7) (n := 25) rfl rfl e8 e9 (by decide) ?_
      refine z_ev_gs 8 (c1 := (271, 3, [some (z_r 33 0), some (z_r 38 0), some (z_i (x2)), some (z_i (z_c b3)), some (z_i (x4 + (1 : Int32)))], [], (true, X, (z_up (z_up I 38 0 k7 (I 62 0 k3)) 33 0 54 ((I 33 0 54) + (1 : Int32))), J))) rfl ?_
      exact h10
    · have h20 := h22.2 e2
      refine z_ev_gs 6 (c1 := (271, 24, [some (z_r 33 0), some (z_r 38 0), some (z_i (x2)), some (z_i (z_c b3)), some (z_i (x4))], [z_i (x4), z_r 38 0, z_i (I 33 0 54), z_r 62 0], (true, X, I, J))) rfl ?_
      obtain ⟨k11, e12, e13, h14⟩ := h20
      refine z_ev_iald (t := 38) (i := 0) (k := k11) (n := 25) rfl rfl e12 e13 (by decide) ?_
      obtain ⟨k15, e16, e17, h18⟩ := h14
      refine z_ev_iast (t := 62) (i := 0) (k := k15) (n := 120) rfl rfl e16 e17 (by decide) ?_
      refine z_ev_gs 9 (c1 := (271, 3, [some (z_r 33 0), some (z_r 38 0), some (z_i (x2)), some (z_i (z_c b3)), some (z_i (x4 + (1 : Int32)))], [], (true, X, (z_up (z_up I 62 0 k15 (I 38 0 k11)) 33 0 54 ((I 33 0 54) + (1 : Int32))), J))) rfl ?_
      exact h18
theorem z_q271_e_39 {d : Nat} {r : Option z_V × z_M} {X : z_X} {I : Nat → Nat → Nat → Int32} {J : Nat → Nat → Nat → Int64} (x2 : Int32) (b3 : Bool)
    (h : z_ev d (271, 3, [some (z_r 33 0), some (z_r 39 0), some (z_i (x2)), some (z_i (z_c b3)), some (z_i 0)], [], (true, X, I, J)) r) :
    z_ev d (z_en 271 [z_r 33 0, z_r 39 0, z_i (x2), z_i (z_c b3)] (true, X, I, J)) r := by
  show z_ev d (271, 0, [some (z_r 33 0), some (z_r 39 0), some (z_i (x2)), some (z_i (z_c b3)), none], [], (true, X, I, J)) r
  refine z_ev_gs 2 (c1 := (271, 3, [some (z_r 33 0), some (z_r 39 0), some (z_i (x2)), some (z_i (z_c b3)), some (z_i 0)], [], (true, X, I, J))) rfl ?_
  exact h
theorem z_q271_3_39 {d : Nat} {r : Option z_V × z_M} {X : z_X} {I : Nat → Nat → Nat → Int32} {J : Nat → Nat → Nat → Int64} (x2 : Int32) (b3 : Bool) (x4 : Int32)
    (h : ((x2 ≤ x4 → r = (none, (true, X, I, J))) ∧ (x4 < x2 → ((b3 = false → (∃ k3 : Nat, (I 33 0 54) = Int32.ofNat k3 ∧ k3 < 120 ∧ (∃ k7 : Nat, x4 = Int32.ofNat k7 ∧ k7 < 24 ∧ z_ev d (271, 3, [some (z_r 33 0), some (z_r 39 0), some (z_i (x2)), some (z_i (z_c b3)), some (z_i (x4 + (1 : Int32)))], [], (true, X, (z_up (z_up I 39 0 k7 (I 62 0 k3)) 33 0 54 ((I 33 0 54) + (1 : Int32))), J)) r))) ∧ (b3 = true → (∃ k11 : Nat, x4 = Int32.ofNat k11 ∧ k11 < 24 ∧ (∃ k15 : Nat, (I 33 0 54) = Int32.ofNat k15 ∧ k15 < 120 ∧ z_ev d (271, 3, [some (z_r 33 0), some (z_r 39 0), some (z_i (x2)), some (z_i (z_c b3)), some (z_i (x4 + (1 : Int32)))], [], (true, X, (z_up (z_up I 62 0 k15 (I 39 0 k11)) 33 0 54 ((I 33 0 54) + (1 : Int32))), J)) r))))))) :
    z_ev d ((271, 3, [some (z_r 33 0), some (z_r 39 0), some (z_i (x2)), some (z_i (z_c b3)), some (z_i (x4))], [], (true, X, I, J))) r := by
  refine z_ev_gs 3 (c1 := (271, (if x2 ≤ x4 then 58 else 9), [some (z_r 33 0), some (z_r 39 0), some (z_i (x2)), some (z_i (z_c b3)), some (z_i (x4))], [], (true, X, I, J))) rfl ?_
  refine z_ev_ifle (fun e1 => ?_) (fun e1 => ?_)
  · have h21 := h.1 e1
    rw [h21]
    exact z_ev_rt rfl
  · have h22 := h.2 e1
    refine z_ev_gs 2 (c1 := (271, (if z_c b3 = 0 then 29 else 13), [some (z_r 33 0), some (z_r 39 0), some (z_i (x2)), some (z_i (z_c b3)), some (z_i (x4))], [], (true, X, I, J))) rfl ?_
    refine z_ev_ifc (fun e2 => ?_) (fun e2 => ?_)
    · have h19 := h22.1 e2
      refine z_ev_gs 6 (c1 := (271, 40, [some (z_r 33 0), some (z_r 39 0), some (z_i (x2)), some (z_i (z_c b3)), some (z_i (x4))], [z_i (I 33 0 54), z_r 62 0, z_i (x4), z_r 39 0], (true, X, I, J))) rfl ?_
      obtain ⟨k3, e4, e5, h6⟩ := h19
      refine z_ev_iald (t := 62) (i := 0) (k := k3) (n := 120) rfl rfl e4 e5 (by decide) ?_
      obtain ⟨k7, e8, e9, h10⟩ := h6
      refine z_ev_iast (t := 39) (i := 0) (k := k7) (n := 24) rfl rfl e8 e9 (by decide) ?_
      refine z_ev_gs 8 (c1 := (271, 3, [some (z_r 33 0), some (z_r 39 0), some (z_i (x2)), some (z_i (z_c b3)), some (z_i (x4 + (1 : Int32)))], [], (true, X, (z_up (z_up I 39 0 k7 (I 62 0 k3)) 33 0 54 ((I 33 0 54) + (1 : Int32))), J))) rfl ?_
      exact h10
    · have h20 := h22.2 e2
      refine z_ev_gs 6 (c1 := (271, 24, [some (z_r 33 0), some (z_r 39 0), some (z_i (x2)), some (z_i (z_c b3)), some (z_i (x4))], [z_i (x4), z_r 39 0, z_i (I 33 0 54), z_r 62 0], (true, X, I, J))) rfl ?_
      obtain ⟨k11, e12, e13, h14⟩ := h20
      refine z_ev_iald (t := 39) (i := 0) (k := k11) (n := 24) rfl rfl e12 e13 (by decide) ?_
      obtain ⟨k15, e16, e17, h18⟩ := h14
      refine z_ev_iast (t := 62) (i := 0) (k := k15) (n := 120) rfl rfl e16 e17 (by decide) ?_
      refine z_ev_gs 9 (c1 := (271, 3, [some (z_r 33 0), some (z_r 39 0), some (z_i (x2)), some (z_i (z_c b3)), some (z_i (x4 + (1 : Int32)))], [], (true, X, (z_up (z_up I 62 0 k15 (I 39 0 k11)) 33 0 54 ((I 33 0 54) + (1 : Int32))), J))) rfl ?_
      exact h18
theorem z_q272_e {d : Nat} {r : Option z_V × z_M} {X : z_X} {I : Nat → Nat → Nat → Int32} {J : Nat → Nat → Nat → Int64} (b1 : Bool)
    (h : (∃ (X1 : z_X) (I2 : Nat → Nat → Nat → Int32) (J3 : Nat → Nat → Nat → Int64), z_ev d (z_en 271 [z_r 33 0, z_r 63 0, z_i 4, z_i (z_c b1)] (true, X, (z_up (z_up (z_up (z_up (z_up I 33 0 54 (0 : Int32)) 63 0 0 (I 33 0 2)) 63 0 1 (I 33 0 4)) 63 0 2 (I 33 0 8)) 63 0 3 (I 33 0 7)), J)) (none, (true, X1, I2, J3)) ∧ (∃ (X6 : z_X) (I7 : Nat → Nat → Nat → Int32) (J8 : Nat → Nat → Nat → Int64), z_ev d (z_en 271 [z_r 33 0, z_r 34 0, z_i 4, z_i (z_c b1)] (true, X1, I2, J3)) (none, (true, X6, I7, J8)) ∧ (∃ (X11 : z_X) (I12 : Nat → Nat → Nat → Int32) (J13 : Nat → Nat → Nat → Int64), z_ev d (z_en 271 [z_r 33 0, z_r 35 0, z_i 40, z_i (z_c b1)] (true, X6, I7, J8)) (none, (true, X11, I12, J13)) ∧ (∃ (X16 : z_X) (I17 : Nat → Nat → Nat → Int32) (J18 : Nat → Nat → Nat → Int64), z_ev d (z_en 271 [z_r 33 0, z_r 36 0, z_i 8, z_i (z_c b1)] (true, X11, I12, J13)) (none, (true, X16, I17, J18)) ∧ (∃ (X21 : z_X) (I22 : Nat → Nat → Nat → Int32) (J23 : Nat → Nat → Nat → Int64), z_ev d (z_en 271 [z_r 33 0, z_r 37 0, z_i 5, z_i (z_c b1)] (true, X16, I17, J18)) (none, (true, X21, I22, J23)) ∧ (∃ (X26 : z_X) (I27 : Nat → Nat → Nat → Int32) (J28 : Nat → Nat → Nat → Int64), z_ev d (z_en 271 [z_r 33 0, z_r 38 0, z_i 25, z_i (z_c b1)] (true, X21, I22, J23)) (none, (true, X26, I27, J28)) ∧ (∃ (X31 : z_X) (I32 : Nat → Nat → Nat → Int32) (J33 : Nat → Nat → Nat → Int64), z_ev d (z_en 271 [z_r 33 0, z_r 39 0, z_i 24, z_i (z_c b1)] (true, X26, I27, J28)) (none, (true, X31, I32, J33)) ∧ r = (none, (true, X31, I32, J33)))))))))) :
    z_ev (d + 1) (z_en 272 [z_r 33 0, z_i (z_c b1)] (true, X, I, J)) r := by
  show z_ev (d + 1) (272, 0, [some (z_r 33 0), some (z_i (z_c b1))], [], (true, X, I, J)) r
  refine z_ev_gs 8 (c1 := (272, 14, [some (z_r 33 0), some (z_i (z_c b1))], [z_i (I 33 0 2), z_i 0, z_r 63 0], (true, X, (z_up I 33 0 54 (0 : Int32)), J))) rfl ?_
  refine z_ev_gs 1 (c1 := (272, 15, [some (z_r 33 0), some (z_i (z_c b1))], [], (true, X, (z_up (z_up I 33 0 54 (0 : Int32)) 63 0 0 (I 33 0 2)), J))) rfl ?_
  refine z_ev_gs 5 (c1 := (272, 24, [some (z_r 33 0), some (z_i (z_c b1))], [z_i (I 33 0 4), z_i 1, z_r 63 0], (true, X, (z_up (z_up I 33 0 54 (0 : Int32)) 63 0 0 (I 33 0 2)), J))) rfl ?_
  refine z_ev_gs 1 (c1 := (272, 25, [some (z_r 33 0), some (z_i (z_c b1))], [], (true, X, (z_up (z_up (z_up I 33 0 54 (0 : Int32)) 63 0 0 (I 33 0 2)) 63 0 1 (I 33 0 4)), J))) rfl ?_
  refine z_ev_gs 5 (c1 := (272, 34, [some (z_r 33 0), some (z_i (z_c b1))], [z_i (I 33 0 8), z_i 2, z_r 63 0], (true, X, (z_up (z_up (z_up I 33 0 54 (0 : Int32)) 63 0 0 (I 33 0 2)) 63 0 1 (I 33 0 4)), J))) rfl ?_
  refine z_ev_gs 1 (c1 := (272, 35, [some (z_r 33 0), some (z_i (z_c b1))], [], (true, X, (z_up (z_up (z_up (z_up I 33 0 54 (0 : Int32)) 63 0 0 (I 33 0 2)) 63 0 1 (I 33 0 4)) 63 0 2 (I 33 0 8)), J))) rfl ?_
  refine z_ev_gs 5 (c1 := (272, 44, [some (z_r 33 0), some (z_i (z_c b1))], [z_i (I 33 0 7), z_i 3, z_r 63 0], (true, X, (z_up (z_up (z_up (z_up I 33 0 54 (0 : Int32)) 63 0 0 (I 33 0 2)) 63 0 1 (I 33 0 4)) 63 0 2 (I 33 0 8)), J))) rfl ?_
  refine z_ev_gs 1 (c1 := (272, 45, [some (z_r 33 0), some (z_i (z_c b1))], [], (true, X, (z_up (z_up (z_up (z_up (z_up I 33 0 54 (0 : Int32)) 63 0 0 (I 33 0 2)) 63 0 1 (I 33 0 4)) 63 0 2 (I 33 0 8)) 63 0 3 (I 33 0 7)), J))) rfl ?_
  refine z_ev_gs 5 (c1 := (272, 52, [some (z_r 33 0), some (z_i (z_c b1))], [z_i (z_c b1), z_i 4, z_r 63 0, z_r 33 0], (true, X, (z_up (z_up (z_up (z_up (z_up I 33 0 54 (0 : Int32)) 63 0 0 (I 33 0 2)) 63 0 1 (I 33 0 4)) 63 0 2 (I 33 0 8)) 63 0 3 (I 33 0 7)), J))) rfl ?_
  obtain ⟨X1, I2, J3, g4, h5⟩ := h
  refine z_ev_ca rfl rfl g4 ?_
  refine z_ev_gs 5 (c1 := (272, 62, [some (z_r 33 0), some (z_i (z_c b1))], [z_i (z_c b1), z_i 4, z_r 34 0, z_r 33 0], (true, X1, I2, J3))) rfl ?_
  obtain ⟨X6, I7, J8, g9, h10⟩ := h5
  refine z_ev_ca rfl rfl g9 ?_
  refine z_ev_gs 5 (c1 := (272, 73, [some (z_r 33 0), some (z_i (z_c b1))], [z_i (z_c b1), z_i 40, z_r 35 0, z_r 33 0], (true, X6, I7, J8))) rfl ?_
  obtain ⟨X11, I12, J13, g14, h15⟩ := h10
  refine z_ev_ca rfl rfl g14 ?_
  refine z_ev_gs 5 (c1 := (272, 84, [some (z_r 33 0), some (z_i (z_c b1))], [z_i (z_c b1), z_i 8, z_r 36 0, z_r 33 0], (true, X11, I12, J13))) rfl ?_
  obtain ⟨X16, I17, J18, g19, h20⟩ := h15
  refine z_ev_ca rfl rfl g19 ?_
  refine z_ev_gs 5 (c1 := (272, 94, [some (z_r 33 0), some (z_i (z_c b1))], [z_i (z_c b1), z_i 5, z_r 37 0, z_r 33 0], (true, X16, I17, J18))) rfl ?_
  obtain ⟨X21, I22, J23, g24, h25⟩ := h20
  refine z_ev_ca rfl rfl g24 ?_
  refine z_ev_gs 5 (c1 := (272, 105, [some (z_r 33 0), some (z_i (z_c b1))], [z_i (z_c b1), z_i 25, z_r 38 0, z_r 33 0], (true, X21, I22, J23))) rfl ?_
  obtain ⟨X26, I27, J28, g29, h30⟩ := h25
  refine z_ev_ca rfl rfl g29 ?_
  refine z_ev_gs 5 (c1 := (272, 116, [some (z_r 33 0), some (z_i (z_c b1))], [z_i (z_c b1), z_i 24, z_r 39 0, z_r 33 0], (true, X26, I27, J28))) rfl ?_
  obtain ⟨X31, I32, J33, g34, h35⟩ := h30
  refine z_ev_ca rfl rfl g34 ?_
  rw [h35]
  exact z_ev_rt rfl
theorem z_q273_e {d : Nat} {r : Option z_V × z_M} {X : z_X} {I : Nat → Nat → Nat → Int32} {J : Nat → Nat → Nat → Int64} 
    (h : (∃ (X1 : z_X) (I2 : Nat → Nat → Nat → Int32) (J3 : Nat → Nat → Nat → Int64), z_ev (d + 1) (z_en 272 [z_r 33 0, z_i 1] (true, X, I, J)) (none, (true, X1, I2, J3)) ∧ r = (some (z_i 1), (true, X1, (z_up I2 33 0 52 (1 : Int32)), J3)))) :
    z_ev (d + 2) (z_en 273 [z_r 33 0] (true, X, I, J)) r := by
  show z_ev (d + 2) (273, 0, [some (z_r 33 0)], [], (true, X, I, J)) r
  refine z_ev_gs 2 (c1 := (273, 2, [some (z_r 33 0)], [z_i 1, z_r 33 0], (true, X, I, J))) rfl ?_
  obtain ⟨X1, I2, J3, g4, h5⟩ := h
  refine z_ev_ca rfl rfl g4 ?_
  refine z_ev_gs 4 (c1 := (273, 11, [some (z_r 33 0)], [z_i 1], (true, X1, (z_up I2 33 0 52 (1 : Int32)), J3))) rfl ?_
  rw [h5]
  exact z_ev_rt rfl
theorem z_q274_e {d : Nat} {r : Option z_V × z_M} {X : z_X} {I : Nat → Nat → Nat → Int32} {J : Nat → Nat → Nat → Int64} 
    (h : ((¬ (I 33 0 52) = 0 → (∃ (X2 : z_X) (I3 : Nat → Nat → Nat → Int32) (J4 : Nat → Nat → Nat → Int64), z_ev (d + 1) (z_en 272 [z_r 33 0, z_i 0] (true, X, I, J)) (none, (true, X2, I3, J4)) ∧ r = (some (z_i 1), (true, X2, (z_up (z_up (z_up (z_up I3 33 0 2 (I3 63 0 0)) 33 0 4 (I3 63 0 1)) 33 0 8 (I3 63 0 2)) 33 0 7 (I3 63 0 3)), J4)))) ∧ ((I 33 0 52) = 0 → r = (some (z_i (-3)), (true, X, I, J))))) :
    z_ev (d + 2) (z_en 274 [z_r 33 0] (true, X, I, J)) r := by
  show z_ev (d + 2) (274, 0, [some (z_r 33 0)], [], (true, X, I, J)) r
  refine z_ev_gs 3 (c1 := (274, (if ¬ (I 33 0 52) = 0 then 10 else 7), [some (z_r 33 0)], [], (true, X, I, J))) rfl ?_
  refine z_ev_ifn (fun e1 => ?_) (fun e1 => ?_)
  · have h7 := h.1 e1
    refine z_ev_gs 2 (c1 := (274, 12, [some (z_r 33 0)], [z_i 0, z_r 33 0], (true, X, I, J))) rfl ?_
    obtain ⟨X2, I3, J4, g5, h6⟩ := h7
    refine z_ev_ca rfl rfl g5 ?_
    refine z_ev_gs 4 (c1 := (274, 21, [some (z_r 33 0)], [z_i 0, z_r 63 0, z_r 33 0], (true, X2, I3, J4))) rfl ?_
    refine z_ev_gs 1 (c1 := (274, 22, [some (z_r 33 0)], [z_i (I3 63 0 0), z_r 33 0], (true, X2, I3, J4))) rfl ?_
    refine z_ev_gs 5 (c1 := (274, 31, [some (z_r 33 0)], [z_i 1, z_r 63 0, z_r 33 0], (true, X2, (z_up I3 33 0 2 (I3 63 0 0)), J4))) rfl ?_
    refine z_ev_gs 1 (c1 := (274, 32, [some (z_r 33 0)], [z_i (I3 63 0 1), z_r 33 0], (true, X2, (z_up I3 33 0 2 (I3 63 0 0)), J4))) rfl ?_
    refine z_ev_gs 5 (c1 := (274, 41, [some (z_r 33 0)], [z_i 2, z_r 63 0, z_r 33 0], (true, X2, (z_up (z_up I3 33 0 2 (I3 63 0 0)) 33 0 4 (I3 63 0 1)), J4))) rfl ?_
    refine z_ev_gs 1 (c1 := (274, 42, [some (z_r 33 0)], [z_i (I3 63 0 2), z_r 33 0], (true, X2, (z_up (z_up I3 33 0 2 (I3 63 0 0)) 33 0 4 (I3 63 0 1)), J4))) rfl ?_
    refine z_ev_gs 5 (c1 := (274, 51, [some (z_r 33 0)], [z_i 3, z_r 63 0, z_r 33 0], (true, X2, (z_up (z_up (z_up I3 33 0 2 (I3 63 0 0)) 33 0 4 (I3 63 0 1)) 33 0 8 (I3 63 0 2)), J4))) rfl ?_
    refine z_ev_gs 1 (c1 := (274, 52, [some (z_r 33 0)], [z_i (I3 63 0 3), z_r 33 0], (true, X2, (z_up (z_up (z_up I3 33 0 2 (I3 63 0 0)) 33 0 4 (I3 63 0 1)) 33 0 8 (I3 63 0 2)), J4))) rfl ?_
    refine z_ev_gs 2 (c1 := (274, 56, [some (z_r 33 0)], [z_i 1], (true, X2, (z_up (z_up (z_up (z_up I3 33 0 2 (I3 63 0 0)) 33 0 4 (I3 63 0 1)) 33 0 8 (I3 63 0 2)) 33 0 7 (I3 63 0 3)), J4))) rfl ?_
    rw [h6]
    exact z_ev_rt rfl
  · have h8 := h.2 e1
    refine z_ev_gs 1 (c1 := (274, 9, [some (z_r 33 0)], [z_i (-3)], (true, X, I, J))) rfl ?_
    rw [h8]
    exact z_ev_rt rfl
theorem z_q4_e_01 {d : Nat} {r : Option z_V × z_M} {X : z_X} {I : Nat → Nat → Nat → Int32} {J : Nat → Nat → Nat → Int64} 
    (h : z_ev d (4, 10, [some (z_r 4 0), some (z_r 4 1), some (z_i 0)], [], (true, X, (z_up I 4 0 2 (I 4 1 2)), J)) r) :
    z_ev d (z_en 4 [z_r 4 0, z_r 4 1] (true, X, I, J)) r := by
  show z_ev d (4, 0, [some (z_r 4 0), some (z_r 4 1), none], [], (true, X, I, J)) r
  refine z_ev_gs 6 (c1 := (4, 10, [some (z_r 4 0), some (z_r 4 1), some (z_i 0)], [], (true, X, (z_up I 4 0 2 (I 4 1 2)), J))) rfl ?_
  exact h
theorem z_q4_10_01 {d : Nat} {r : Option z_V × z_M} {X : z_X} {I : Nat → Nat → Nat → Int32} {J : Nat → Nat → Nat → Int64} (x2 : Int32)
    (h : (((5 : Int32) ≤ x2 → z_ev d (4, 39, [some (z_r 4 0), some (z_r 4 1), some (z_i 0)], [], (true, X, I, J)) r) ∧ (x2 < (5 : Int32) → (∃ k2 : Nat, x2 = Int32.ofNat k2 ∧ k2 < 5 ∧ z_ev d (4, 10, [some (z_r 4 0), some (z_r 4 1), some (z_i (x2 + (1 : Int32)))], [], (true, X, (z_up I 5 0 k2 (I 5 1 k2)), J)) r)))) :
    z_ev d ((4, 10, [some (z_r 4 0), some (z_r 4 1), some (z_i (x2))], [], (true, X, I, J))) r := by
  refine z_ev_gs 5 (c1 := (4, (if (5 : Int32) ≤ x2 then 37 else 19), [some (z_r 4 0), some (z_r 4 1), some (z_i (x2))], [], (true, X, I, J))) rfl ?_
  refine z_ev_ifle (fun e1 => ?_) (fun e1 => ?_)
  · have h6 := h.1 e1
    refine z_ev_gs 2 (c1 := (4, 39, [some (z_r 4 0), some (z_r 4 1), some (z_i 0)], [], (true, X, I, J))) rfl ?_
    exact h6
  · have h7 := h.2 e1
    refine z_ev_gs 6 (c1 := (4, 29, [some (z_r 4 0), some (z_r 4 1), some (z_i (x2))], [z_i (x2), z_r 5 1, z_i (x2), z_r 5 0], (true, X, I, J))) rfl ?_
    obtain ⟨k2, e3, e4, h5⟩ := h7
    refine z_ev_iald (t := 5) (i := 1) (k := k2) (n := 5) rfl rfl e3 e4 (by decide) ?_
    refine z_ev_iast (t := 5) (i := 0) (k := k2) (n := 5) rfl rfl e3 (Nat.lt_of_lt_of_le e4 (by decide)) (by decide) ?_
    refine z_ev_gs 2 (c1 := (4, 10, [some (z_r 4 0), some (z_r 4 1), some (z_i (x2 + (1 : Int32)))], [], (true, X, (z_up I 5 0 k2 (I 5 1 k2)), J))) rfl ?_
    exact h5
theorem z_q4_39_01 {d : Nat} {r : Option z_V × z_M} {X : z_X} {I : Nat → Nat → Nat → Int32} {J : Nat → Nat → Nat → Int64} (x2 : Int32)
    (h : (((25 : Int32) ≤ x2 → r = (none, (true, X, I, J))) ∧ (x2 < (25 : Int32) → (∃ k9 : Nat, x2 = Int32.ofNat k9 ∧ k9 < 25 ∧ z_ev d (4, 39, [some (z_r 4 0), some (z_r 4 1), some (z_i (x2 + (1 : Int32)))], [], (true, X, (z_up I 6 0 k9 (I 6 1 k9)), J)) r)))) :
    z_ev d ((4, 39, [some (z_r 4 0), some (z_r 4 1), some (z_i (x2))], [], (true, X, I, J))) r := by
  refine z_ev_gs 5 (c1 := (4, (if (25 : Int32) ≤ x2 then 66 else 48), [some (z_r 4 0), some (z_r 4 1), some (z_i (x2))], [], (true, X, I, J))) rfl ?_
  refine z_ev_ifle (fun e8 => ?_) (fun e8 => ?_)
  · have h13 := h.1 e8
    rw [h13]
    exact z_ev_rt rfl
  · have h14 := h.2 e8
    refine z_ev_gs 6 (c1 := (4, 58, [some (z_r 4 0), some (z_r 4 1), some (z_i (x2))], [z_i (x2), z_r 6 1, z_i (x2), z_r 6 0], (true, X, I, J))) rfl ?_
    obtain ⟨k9, e10, e11, h12⟩ := h14
    refine z_ev_iald (t := 6) (i := 1) (k := k9) (n := 25) rfl rfl e10 e11 (by decide) ?_
    refine z_ev_iast (t := 6) (i := 0) (k := k9) (n := 25) rfl rfl e10 (Nat.lt_of_lt_of_le e11 (by decide)) (by decide) ?_
    refine z_ev_gs 2 (c1 := (4, 39, [some (z_r 4 0), some (z_r 4 1), some (z_i (x2 + (1 : Int32)))], [], (true, X, (z_up I 6 0 k9 (I 6 1 k9)), J))) rfl ?_
    exact h12
theorem z_q4_e_10 {d : Nat} {r : Option z_V × z_M} {X : z_X} {I : Nat → Nat → Nat → Int32} {J : Nat → Nat → Nat → Int64} 
    (h : z_ev d (4, 10, [some (z_r 4 1), some (z_r 4 0), some (z_i 0)], [], (true, X, (z_up I 4 1 2 (I 4 0 2)), J)) r) :
    z_ev d (z_en 4 [z_r 4 1, z_r 4 0] (true, X, I, J)) r := by
  show z_ev d (4, 0, [some (z_r 4 1), some (z_r 4 0), none], [], (true, X, I, J)) r
  refine z_ev_gs 6 (c1 := (4, 10, [some (z_r 4 1), some (z_r 4 0), some (z_i 0)], [], (true, X, (z_up I 4 1 2 (I 4 0 2)), J))) rfl ?_
  exact h
theorem z_q4_10_10 {d : Nat} {r : Option z_V × z_M} {X : z_X} {I : Nat → Nat → Nat → Int32} {J : Nat → Nat → Nat → Int64} (x2 : Int32)
    (h : (((5 : Int32) ≤ x2 → z_ev d (4, 39, [some (z_r 4 1), some (z_r 4 0), some (z_i 0)], [], (true, X, I, J)) r) ∧ (x2 < (5 : Int32) → (∃ k2 : Nat, x2 = Int32.ofNat k2 ∧ k2 < 5 ∧ z_ev d (4, 10, [some (z_r 4 1), some (z_r 4 0), some (z_i (x2 + (1 : Int32)))], [], (true, X, (z_up I 5 1 k2 (I 5 0 k2)), J)) r)))) :
    z_ev d ((4, 10, [some (z_r 4 1), some (z_r 4 0), some (z_i (x2))], [], (true, X, I, J))) r := by
  refine z_ev_gs 5 (c1 := (4, (if (5 : Int32) ≤ x2 then 37 else 19), [some (z_r 4 1), some (z_r 4 0), some (z_i (x2))], [], (true, X, I, J))) rfl ?_
  refine z_ev_ifle (fun e1 => ?_) (fun e1 => ?_)
  · have h6 := h.1 e1
    refine z_ev_gs 2 (c1 := (4, 39, [some (z_r 4 1), some (z_r 4 0), some (z_i 0)], [], (true, X, I, J))) rfl ?_
    exact h6
  · have h7 := h.2 e1
    refine z_ev_gs 6 (c1 := (4, 29, [some (z_r 4 1), some (z_r 4 0), some (z_i (x2))], [z_i (x2), z_r 5 0, z_i (x2), z_r 5 1], (true, X, I, J))) rfl ?_
    obtain ⟨k2, e3, e4, h5⟩ := h7
    refine z_ev_iald (t := 5) (i := 0) (k := k2) (n := 5) rfl rfl e3 e4 (by decide) ?_
    refine z_ev_iast (t := 5) (i := 1) (k := k2) (n := 5) rfl rfl e3 (Nat.lt_of_lt_of_le e4 (by decide)) (by decide) ?_
    refine z_ev_gs 2 (c1 := (4, 10, [some (z_r 4 1), some (z_r 4 0), some (z_i (x2 + (1 : Int32)))], [], (true, X, (z_up I 5 1 k2 (I 5 0 k2)), J))) rfl ?_
    exact h5
theorem z_q4_39_10 {d : Nat} {r : Option z_V × z_M} {X : z_X} {I : Nat → Nat → Nat → Int32} {J : Nat → Nat → Nat → Int64} (x2 : Int32)
    (h : (((25 : Int32) ≤ x2 → r = (none, (true, X, I, J))) ∧ (x2 < (25 : Int32) → (∃ k9 : Nat, x2 = Int32.ofNat k9 ∧ k9 < 25 ∧ z_ev d (4, 39, [some (z_r 4 1), some (z_r 4 0), some (z_i (x2 + (1 : Int32)))], [], (true, X, (z_up I 6 1 k9 (I 6 0 k9)), J)) r)))) :
    z_ev d ((4, 39, [some (z_r 4 1), some (z_r 4 0), some (z_i (x2))], [], (true, X, I, J))) r := by
  refine z_ev_gs 5 (c1 := (4, (if (25 : Int32) ≤ x2 then 66 else 48), [some (z_r 4 1), some (z_r 4 0), some (z_i (x2))], [], (true, X, I, J))) rfl ?_
  refine z_ev_ifle (fun e8 => ?_) (fun e8 => ?_)
  · have h13 := h.1 e8
    rw [h13]
    exact z_ev_rt rfl
  · have h14 := h.2 e8
    refine z_ev_gs 6 (c1 := (4, 58, [some (z_r 4 1), some (z_r 4 0), some (z_i (x2))], [z_i (x2), z_r 6 0, z_i (x2), z_r 6 1], (true, X, I, J))) rfl ?_
    obtain ⟨k9, e10, e11, h12⟩ := h14
    refine z_ev_iald (t := 6) (i := 0) (k := k9) (n := 25) rfl rfl e10 e11 (by decide) ?_
    refine z_ev_iast (t := 6) (i := 1) (k := k9) (n := 25) rfl rfl e10 (Nat.lt_of_lt_of_le e11 (by decide)) (by decide) ?_
    refine z_ev_gs 2 (c1 := (4, 39, [some (z_r 4 1), some (z_r 4 0), some (z_i (x2 + (1 : Int32)))], [], (true, X, (z_up I 6 1 k9 (I 6 0 k9)), J))) rfl ?_
    exact h12
theorem z_q63_e_01 {d : Nat} {r : Option z_V × z_M} {X : z_X} {I : Nat → Nat → Nat → Int32} {J : Nat → Nat → Nat → Int64} 
    (h : z_ev (d + 1) (63, 2, [some (z_r 1 0), some (z_r 1 1), some (z_i 0)], [], (true, X, I, J)) r) :
    z_ev (d + 1) (z_en 63 [z_r 1 0, z_r 1 1] (true, X, I, J)) r := by
  show z_ev (d + 1) (63, 0, [some (z_r 1 0), some (z_r 1 1), none], [], (true, X, I, J)) r
  refine z_ev_gs 2 (c1 := (63, 2, [some (z_r 1 0), some (z_r 1 1), some (z_i 0)], [], (true, X, I, J))) rfl ?_
  exact h
theorem z_q63_2_01 {d : Nat} {r : Option z_V × z_M} {X : z_X} {I : Nat → Nat → Nat → Int32} {J : Nat → Nat → Nat → Int64} (x2 : Int32)
    (h : (((4 : Int32) ≤ x2 → z_ev (d + 1) (63, 30, [some (z_r 1 0), some (z_r 1 1), some (z_i 0)], [], (true, X, I, J)) r) ∧ (x2 < (4 : Int32) → (∃ k2 : Nat, x2 = Int32.ofNat k2 ∧ k2 < 4 ∧ (∃ (X6 : z_X) (I7 : Nat → Nat → Nat → Int32) (J8 : Nat → Nat → Nat → Int64), z_ev d (z_en 20 [z_r 13 k2, z_r 13 ((4 + k2))] (true, X, I, J)) (none, (true, X6, I7, J8)) ∧ z_ev (d + 1) (63, 2, [some (z_r 1 0), some (z_r 1 1), some (z_i (x2 + (1 : Int32)))], [], (true, X6, I7, J8)) r))))) :
    z_ev (d + 1) ((63, 2, [some (z_r 1 0), some (z_r 1 1), some (z_i (x2))], [], (true, X, I, J))) r := by
  refine z_ev_gs 3 (c1 := (63, (if (4 : Int32) ≤ x2 then 28 else 7), [some (z_r 1 0), some (z_r 1 1), some (z_i (x2))], [], (true, X, I, J))) rfl ?_
  refine z_ev_ifle (fun e1 => ?_) (fun e1 => ?_)
  · have h11 := h.1 e1
    refine z_ev_gs 2 (c1 := (63, 30, [some (z_r 1 0), some (z_r 1 1), some (z_i 0)], [], (true, X, I, J))) rfl ?_
    exact h11
  · have h12 := h.2 e1
    refine z_ev_gs 3 (c1 := (63, 12, [some (z_r 1 0), some (z_r 1 1), some (z_i (x2))], [z_i (x2), z_r 2 0], (true, X, I, J))) rfl ?_
    obtain ⟨k2, e3, e4, h5⟩ := h12
    refine z_ev_nt0 (k := k2) rfl e3 e4 ?_
    refine z_ev_gs 3 (c1 := (63, 18, [some (z_r 1 0), some (z_r 1 1), some (z_i (x2))], [z_i (x2), z_r 2 1, z_r 13 k2], (true, X, I, J))) rfl ?_
    refine z_ev_nt1 (k := k2) rfl e3 (Nat.lt_of_lt_of_le e4 (by decide)) ?_
    obtain ⟨X6, I7, J8, g9, h10⟩ := h5
    refine z_ev_cg rfl (z_lt40 e4) rfl g9 ?_
    refine z_ev_gs 2 (c1 := (63, 2, [some (z_r 1 0), some (z_r 1 1), some (z_i (x2 + (1 : Int32)))], [], (true, X6, I7, J8))) rfl ?_
    exact h10
theorem z_q63_30_01 {d : Nat} {r : Option z_V × z_M} {X : z_X} {I : Nat → Nat → Nat → Int32} {J : Nat → Nat → Nat → Int64} (x2 : Int32)
    (h : (((5 : Int32) ≤ x2 → (∃ (X14 : z_X) (I15 : Nat → Nat → Nat → Int32) (J16 : Nat → Nat → Nat → Int64), z_ev d (z_en 4 [z_r 4 0, z_r 4 1] (true, X, I, J)) (none, (true, X14, I15, J16)) ∧ z_ev (d + 1) (63, 70, [some (z_r 1 0), some (z_r 1 1), some (z_i 0)], [], (true, X14, I15, J16)) r)) ∧ (x2 < (5 : Int32) → (∃ k19 : Nat, x2 = Int32.ofNat k19 ∧ k19 < 5 ∧ z_ev (d + 1) (63, 30, [some (z_r 1 0), some (z_r 1 1), some (z_i (x2 + (1 : Int32)))], [], (true, X, (z_up I 3 0 k19 (I 3 1 k19)), J)) r)))) :
    z_ev (d + 1) ((63, 30, [some (z_r 1 0), some (z_r 1 1), some (z_i (x2))], [], (true, X, I, J))) r := by
  refine z_ev_gs 5 (c1 := (63, (if (5 : Int32) ≤ x2 then 57 else 39), [some (z_r 1 0), some (z_r 1 1), some (z_i (x2))], [], (true, X, I, J))) rfl ?_
  refine z_ev_ifle (fun e13 => ?_) (fun e13 => ?_)
  · have h23 := h.1 e13
    refine z_ev_gs 4 (c1 := (63, 65, [some (z_r 1 0), some (z_r 1 1), some (z_i (x2))], [z_r 4 1, z_r 4 0], (true, X, I, J))) rfl ?_
    obtain ⟨X14, I15, J16, g17, h18⟩ := h23
    refine z_ev_ca rfl rfl g17 ?_
    refine z_ev_gs 2 (c1 := (63, 70, [some (z_r 1 0), some (z_r 1 1), some (z_i 0)], [], (true, X14, I15, J16))) rfl ?_
    exact h18
  · have h24 := h.2 e13
    refine z_ev_gs 6 (c1 := (63, 49, [some (z_r 1 0), some (z_r 1 1), some (z_i (x2))], [z_i (x2), z_r 3 1, z_i (x2), z_r 3 0], (true, X, I, J))) rfl ?_
    obtain ⟨k19, e20, e21, h22⟩ := h24
    refine z_ev_iald (t := 3) (i := 1) (k := k19) (n := 5) rfl rfl e20 e21 (by decide) ?_
    refine z_ev_iast (t := 3) (i := 0) (k := k19) (n := 5) rfl rfl e20 (Nat.lt_of_lt_of_le e21 (by decide)) (by decide) ?_
    refine z_ev_gs 2 (c1 := (63, 30, [some (z_r 1 0), some (z_r 1 1), some (z_i (x2 + (1 : Int32)))], [], (true, X, (z_up I 3 0 k19 (I 3 1 k19)), J))) rfl ?_
    exact h22
theorem z_q63_70_01 {d : Nat} {r : Option z_V × z_M} {X : z_X} {I : Nat → Nat → Nat → Int32} {J : Nat → Nat → Nat → Int64} (x2 : Int32)
    (h : (((6 : Int32) ≤ x2 → r = (none, (true, X, (z_up (z_up I 1 0 5 (I 1 1 5)) 1 0 6 (I 1 1 6)), J))) ∧ (x2 < (6 : Int32) → (∃ k26 : Nat, x2 = Int32.ofNat k26 ∧ k26 < 6 ∧ ((X.2.2.2 11 1 k26 = none ∧ z_ev (d + 1) (63, 70, [some (z_r 1 0), some (z_r 1 1), some (z_i (x2 + (1 : Int32)))], [], (true, (X.1, X.2.1, X.2.2.1, z_up X.2.2.2 11 0 k26 none), (z_up I 12 0 k26 (I 12 1 k26)), J)) r) ∨ (∃ q30 : Nat, X.2.2.2 11 1 k26 = some (32, q30) ∧ (q30 < X.1 ∧ X.2.2.1 q30 ∈ ([0, 3, 5, 6] : List Nat) ∧ z_ev (d + 1) (63, 70, [some (z_r 1 0), some (z_r 1 1), some (z_i (x2 + (1 : Int32)))], [], (true, (X.1, X.2.1, X.2.2.1, z_up X.2.2.2 11 0 k26 (some (32, q30))), (z_up I 12 0 k26 (I 12 1 k26)), J)) r))))))) :
    z_ev (d + 1) ((63, 70, [some (z_r 1 0), some (z_r 1 1), some (z_i (x2))], [], (true, X, I, J))) r := by
  refine z_ev_gs 3 (c1 := (63, (if (6 : Int32) ≤ x2 then 106 else 76), [some (z_r 1 0), some (z_r 1 1), some (z_i (x2))], [], (true, X, I, J))) rfl ?_
  refine z_ev_ifle (fun e25 => ?_) (fun e25 => ?_)
  · have h40 := h.1 e25
    refine z_ev_gs 8 (c1 := (63, 122, [some (z_r 1 0), some (z_r 1 1), some (z_i (x2))], [], (true, X, (z_up (z_up I 1 0 5 (I 1 1 5)) 1 0 6 (I 1 1 6)), J))) rfl ?_
    rw [h40]
    exact z_ev_rt rfl
  · have h41 := h.2 e25
    refine z_ev_gs 6 (c1 := (63, 86, [some (z_r 1 0), some (z_r 1 1), some (z_i (x2))], [z_i (x2), z_r 11 1, z_i (x2), z_r 11 0], (true, X, I, J))) rfl ?_
    obtain ⟨k26, e27, e28, h29⟩ := h41
    rcases h29 with ⟨g31, h39⟩ | ⟨q30, g31, h32⟩
    · refine z_ev_son (k := k26) rfl rfl e27 e28 g31 ?_
      refine z_ev_aon (i := 0) (k := k26) rfl rfl e27 (Nat.lt_of_lt_of_le e28 (by decide)) ?_
      refine z_ev_gs 6 (c1 := (63, 98, [some (z_r 1 0), some (z_r 1 1), some (z_i (x2))], [z_i (x2), z_r 12 1, z_i (x2), z_r 12 0], (true, (X.1, X.2.1, X.2.2.1, z_up X.2.2.2 11 0 k26 none), I, J))) rfl ?_
      refine z_ev_iald (t := 12) (i := 1) (k := k26) (n := 6) rfl rfl e27 (Nat.lt_of_lt_of_le e28 (by decide)) (by decide) ?_
      refine z_ev_iast (t := 12) (i := 0) (k := k26) (n := 6) rfl rfl e27 (Nat.lt_of_lt_of_le e28 (by decide)) (by decide) ?_
      refine z_ev_gs 2 (c1 := (63, 70, [some (z_r 1 0), some (z_r 1 1), some (z_i (x2 + (1 : Int32)))], [], (true, (X.1, X.2.1, X.2.2.1, z_up X.2.2.2 11 0 k26 none), (z_up I 12 0 k26 (I 12 1 k26)), J))) rfl ?_
      exact h39
    · refine z_ev_so (k := k26) rfl rfl e27 e28 g31 ?_
      obtain ⟨g33, g34, h35⟩ := h32
      refine z_ev_ao (i := 0) (k := k26) rfl rfl g33 g34 e27 (Nat.lt_of_lt_of_le e28 (by decide)) ?_
      refine z_ev_gs 6 (c1 := (63, 98, [some (z_r 1 0), some (z_r 1 1), some (z_i (x2))], [z_i (x2), z_r 12 1, z_i (x2), z_r 12 0], (true, (X.1, X.2.1, X.2.2.1, z_up X.2.2.2 11 0 k26 (some (32, q30))), I, J))) rfl ?_
      refine z_ev_iald (t := 12) (i := 1) (k := k26) (n := 6) rfl rfl e27 (Nat.lt_of_lt_of_le e28 (by decide)) (by decide) ?_
      refine z_ev_iast (t := 12) (i := 0) (k := k26) (n := 6) rfl rfl e27 (Nat.lt_of_lt_of_le e28 (by decide)) (by decide) ?_
      refine z_ev_gs 2 (c1 := (63, 70, [some (z_r 1 0), some (z_r 1 1), some (z_i (x2 + (1 : Int32)))], [], (true, (X.1, X.2.1, X.2.2.1, z_up X.2.2.2 11 0 k26 (some (32, q30))), (z_up I 12 0 k26 (I 12 1 k26)), J))) rfl ?_
      exact h35
theorem z_q63_e_10 {d : Nat} {r : Option z_V × z_M} {X : z_X} {I : Nat → Nat → Nat → Int32} {J : Nat → Nat → Nat → Int64} 
    (h : z_ev (d + 1) (63, 2, [some (z_r 1 1), some (z_r 1 0), some (z_i 0)], [], (true, X, I, J)) r) :
    z_ev (d + 1) (z_en 63 [z_r 1 1, z_r 1 0] (true, X, I, J)) r := by
  show z_ev (d + 1) (63, 0, [some (z_r 1 1), some (z_r 1 0), none], [], (true, X, I, J)) r
  refine z_ev_gs 2 (c1 := (63, 2, [some (z_r 1 1), some (z_r 1 0), some (z_i 0)], [], (true, X, I, J))) rfl ?_
  exact h
theorem z_q63_2_10 {d : Nat} {r : Option z_V × z_M} {X : z_X} {I : Nat → Nat → Nat → Int32} {J : Nat → Nat → Nat → Int64} (x2 : Int32)
    (h : (((4 : Int32) ≤ x2 → z_ev (d + 1) (63, 30, [some (z_r 1 1), some (z_r 1 0), some (z_i 0)], [], (true, X, I, J)) r) ∧ (x2 < (4 : Int32) → (∃ k2 : Nat, x2 = Int32.ofNat k2 ∧ k2 < 4 ∧ (∃ (X6 : z_X) (I7 : Nat → Nat → Nat → Int32) (J8 : Nat → Nat → Nat → Int64), z_ev d (z_en 20 [z_r 13 ((4 + k2)), z_r 13 k2] (true, X, I, J)) (none, (true, X6, I7, J8)) ∧ z_ev (d + 1) (63, 2, [some (z_r 1 1), some (z_r 1 0), some (z_i (x2 + (1 : Int32)))], [], (true, X6, I7, J8)) r))))) :
    z_ev (d + 1) ((63, 2, [some (z_r 1 1), some (z_r 1 0), some (z_i (x2))], [], (true, X, I, J))) r := by
  refine z_ev_gs 3 (c1 := (63, (if (4 : Int32) ≤ x2 then 28 else 7), [some (z_r 1 1), some (z_r 1 0), some (z_i (x2))], [], (true, X, I, J))) rfl ?_
  refine z_ev_ifle (fun e1 => ?_) (fun e1 => ?_)
  · have h11 := h.1 e1
    refine z_ev_gs 2 (c1 := (63, 30, [some (z_r 1 1), some (z_r 1 0), some (z_i 0)], [], (true, X, I, J))) rfl ?_
    exact h11
  · have h12 := h.2 e1
    refine z_ev_gs 3 (c1 := (63, 12, [some (z_r 1 1), some (z_r 1 0), some (z_i (x2))], [z_i (x2), z_r 2 1], (true, X, I, J))) rfl ?_
    obtain ⟨k2, e3, e4, h5⟩ := h12
    refine z_ev_nt1 (k := k2) rfl e3 e4 ?_
    refine z_ev_gs 3 (c1 := (63, 18, [some (z_r 1 1), some (z_r 1 0), some (z_i (x2))], [z_i (x2), z_r 2 0, z_r 13 ((4 + k2))], (true, X, I, J))) rfl ?_
    refine z_ev_nt0 (k := k2) rfl e3 (Nat.lt_of_lt_of_le e4 (by decide)) ?_
    obtain ⟨X6, I7, J8, g9, h10⟩ := h5
    refine z_ev_cg rfl (z_lt41 e4) rfl g9 ?_
    refine z_ev_gs 2 (c1 := (63, 2, [some (z_r 1 1), some (z_r 1 0), some (z_i (x2 + (1 : Int32)))], [], (true, X6, I7, J8))) rfl ?_
    exact h10
theorem z_q63_30_10 {d : Nat} {r : Option z_V × z_M} {X : z_X} {I : Nat → Nat → Nat → Int32} {J : Nat → Nat → Nat → Int64} (x2 : Int32)
    (h : (((5 : Int32) ≤ x2 → (∃ (X14 : z_X) (I15 : Nat → Nat → Nat → Int32) (J16 : Nat → Nat → Nat → Int64), z_ev d (z_en 4 [z_r 4 1, z_r 4 0] (true, X, I, J)) (none, (true, X14, I15, J16)) ∧ z_ev (d + 1) (63, 70, [some (z_r 1 1), some (z_r 1 0), some (z_i 0)], [], (true, X14, I15, J16)) r)) ∧ (x2 < (5 : Int32) → (∃ k19 : Nat, x2 = Int32.ofNat k19 ∧ k19 < 5 ∧ z_ev (d + 1) (63, 30, [some (z_r 1 1), some (z_r 1 0), some (z_i (x2 + (1 : Int32)))], [], (true, X, (z_up I 3 1 k19 (I 3 0 k19)), J)) r)))) :
    z_ev (d + 1) ((63, 30, [some (z_r 1 1), some (z_r 1 0), some (z_i (x2))], [], (true, X, I, J))) r := by
  refine z_ev_gs 5 (c1 := (63, (if (5 : Int32) ≤ x2 then 57 else 39), [some (z_r 1 1), some (z_r 1 0), some (z_i (x2))], [], (true, X, I, J))) rfl ?_
  refine z_ev_ifle (fun e13 => ?_) (fun e13 => ?_)
  · have h23 := h.1 e13
    refine z_ev_gs 4 (c1 := (63, 65, [some (z_r 1 1), some (z_r 1 0), some (z_i (x2))], [z_r 4 0, z_r 4 1], (true, X, I, J))) rfl ?_
    obtain ⟨X14, I15, J16, g17, h18⟩ := h23
    refine z_ev_ca rfl rfl g17 ?_
    refine z_ev_gs 2 (c1 := (63, 70, [some (z_r 1 1), some (z_r 1 0), some (z_i 0)], [], (true, X14, I15, J16))) rfl ?_
    exact h18
  · have h24 := h.2 e13
    refine z_ev_gs 6 (c1 := (63, 49, [some (z_r 1 1), some (z_r 1 0), some (z_i (x2))], [z_i (x2), z_r 3 0, z_i (x2), z_r 3 1], (true, X, I, J))) rfl ?_
    obtain ⟨k19, e20, e21, h22⟩ := h24
    refine z_ev_iald (t := 3) (i := 0) (k := k19) (n := 5) rfl rfl e20 e21 (by decide) ?_
    refine z_ev_iast (t := 3) (i := 1) (k := k19) (n := 5) rfl rfl e20 (Nat.lt_of_lt_of_le e21 (by decide)) (by decide) ?_
    refine z_ev_gs 2 (c1 := (63, 30, [some (z_r 1 1), some (z_r 1 0), some (z_i (x2 + (1 : Int32)))], [], (true, X, (z_up I 3 1 k19 (I 3 0 k19)), J))) rfl ?_
    exact h22
theorem z_q63_70_10 {d : Nat} {r : Option z_V × z_M} {X : z_X} {I : Nat → Nat → Nat → Int32} {J : Nat → Nat → Nat → Int64} (x2 : Int32)
    (h : (((6 : Int32) ≤ x2 → r = (none, (true, X, (z_up (z_up I 1 1 5 (I 1 0 5)) 1 1 6 (I 1 0 6)), J))) ∧ (x2 < (6 : Int32) → (∃ k26 : Nat, x2 = Int32.ofNat k26 ∧ k26 < 6 ∧ ((X.2.2.2 11 0 k26 = none ∧ z_ev (d + 1) (63, 70, [some (z_r 1 1), some (z_r 1 0), some (z_i (x2 + (1 : Int32)))], [], (true, (X.1, X.2.1, X.2.2.1, z_up X.2.2.2 11 1 k26 none), (z_up I 12 1 k26 (I 12 0 k26)), J)) r) ∨ (∃ q30 : Nat, X.2.2.2 11 0 k26 = some (32, q30) ∧ (q30 < X.1 ∧ X.2.2.1 q30 ∈ ([0, 3, 5, 6] : List Nat) ∧ z_ev (d + 1) (63, 70, [some (z_r 1 1), some (z_r 1 0), some (z_i (x2 + (1 : Int32)))], [], (true, (X.1, X.2.1, X.2.2.1, z_up X.2.2.2 11 1 k26 (some (32, q30))), (z_up I 12 1 k26 (I 12 0 k26)), J)) r))))))) :
    z_ev (d + 1) ((63, 70, [some (z_r 1 1), some (z_r 1 0), some (z_i (x2))], [], (true, X, I, J))) r := by
  refine z_ev_gs 3 (c1 := (63, (if (6 : Int32) ≤ x2 then 106 else 76), [some (z_r 1 1), some (z_r 1 0), some (z_i (x2))], [], (true, X, I, J))) rfl ?_
  refine z_ev_ifle (fun e25 => ?_) (fun e25 => ?_)
  · have h40 := h.1 e25
    refine z_ev_gs 8 (c1 := (63, 122, [some (z_r 1 1), some (z_r 1 0), some (z_i (x2))], [], (true, X, (z_up (z_up I 1 1 5 (I 1 0 5)) 1 1 6 (I 1 0 6)), J))) rfl ?_
    rw [h40]
    exact z_ev_rt rfl
  · have h41 := h.2 e25
    refine z_ev_gs 6 (c1 := (63, 86, [some (z_r 1 1), some (z_r 1 0), some (z_i (x2))], [z_i (x2), z_r 11 0, z_i (x2), z_r 11 1], (true, X, I, J))) rfl ?_
    obtain ⟨k26, e27, e28, h29⟩ := h41
    rcases h29 with ⟨g31, h39⟩ | ⟨q30, g31, h32⟩
    · refine z_ev_son (k := k26) rfl rfl e27 e28 g31 ?_
      refine z_ev_aon (i := 1) (k := k26) rfl rfl e27 (Nat.lt_of_lt_of_le e28 (by decide)) ?_
      refine z_ev_gs 6 (c1 := (63, 98, [some (z_r 1 1), some (z_r 1 0), some (z_i (x2))], [z_i (x2), z_r 12 0, z_i (x2), z_r 12 1], (true, (X.1, X.2.1, X.2.2.1, z_up X.2.2.2 11 1 k26 none), I, J))) rfl ?_
      refine z_ev_iald (t := 12) (i := 0) (k := k26) (n := 6) rfl rfl e27 (Nat.lt_of_lt_of_le e28 (by decide)) (by decide) ?_
      refine z_ev_iast (t := 12) (i := 1) (k := k26) (n := 6) rfl rfl e27 (Nat.lt_of_lt_of_le e28 (by decide)) (by decide) ?_
      refine z_ev_gs 2 (c1 := (63, 70, [some (z_r 1 1), some (z_r 1 0), some (z_i (x2 + (1 : Int32)))], [], (true, (X.1, X.2.1, X.2.2.1, z_up X.2.2.2 11 1 k26 none), (z_up I 12 1 k26 (I 12 0 k26)), J))) rfl ?_
      exact h39
    · refine z_ev_so (k := k26) rfl rfl e27 e28 g31 ?_
      obtain ⟨g33, g34, h35⟩ := h32
      refine z_ev_ao (i := 1) (k := k26) rfl rfl g33 g34 e27 (Nat.lt_of_lt_of_le e28 (by decide)) ?_
      refine z_ev_gs 6 (c1 := (63, 98, [some (z_r 1 1), some (z_r 1 0), some (z_i (x2))], [z_i (x2), z_r 12 0, z_i (x2), z_r 12 1], (true, (X.1, X.2.1, X.2.2.1, z_up X.2.2.2 11 1 k26 (some (32, q30))), I, J))) rfl ?_
      refine z_ev_iald (t := 12) (i := 0) (k := k26) (n := 6) rfl rfl e27 (Nat.lt_of_lt_of_le e28 (by decide)) (by decide) ?_
      refine z_ev_iast (t := 12) (i := 1) (k := k26) (n := 6) rfl rfl e27 (Nat.lt_of_lt_of_le e28 (by decide)) (by decide) ?_
      refine z_ev_gs 2 (c1 := (63, 70, [some (z_r 1 1), some (z_r 1 0), some (z_i (x2 + (1 : Int32)))], [], (true, (X.1, X.2.1, X.2.2.1, z_up X.2.2.2 11 1 k26 (some (32, q30))), (z_up I 12 1 k26 (I 12 0 k26)), J))) rfl ?_
      exact h35
theorem z_q116_e {d : Nat} {r : Option z_V × z_M} {X : z_X} {I : Nat → Nat → Nat → Int32} {J : Nat → Nat → Nat → Int64} 
    (h : (∃ (X1 : z_X) (I2 : Nat → Nat → Nat → Int32) (J3 : Nat → Nat → Nat → Int64), z_ev (d + 1) (z_en 63 [z_r 1 1, z_r 1 0] (true, X, I, J)) (none, (true, X1, I2, J3)) ∧ r = (some (z_i 1), (true, X1, (z_up I2 0 0 2 (1 : Int32)), J3)))) :
    z_ev (d + 2) (z_en 116 [z_r 0 0] (true, X, I, J)) r := by
  show z_ev (d + 2) (116, 0, [some (z_r 0 0)], [], (true, X, I, J)) r
  refine z_ev_gs 4 (c1 := (116, 8, [some (z_r 0 0)], [z_r 1 0, z_r 1 1], (true, X, I, J))) rfl ?_
  obtain ⟨X1, I2, J3, g4, h5⟩ := h
  refine z_ev_ca rfl rfl g4 ?_
  refine z_ev_gs 4 (c1 := (116, 17, [some (z_r 0 0)], [z_i 1], (true, X1, (z_up I2 0 0 2 (1 : Int32)), J3))) rfl ?_
  rw [h5]
  exact z_ev_rt rfl
theorem z_q117_e {d : Nat} {r : Option z_V × z_M} {X : z_X} {I : Nat → Nat → Nat → Int32} {J : Nat → Nat → Nat → Int64} 
    (h : ((¬ (I 0 0 2) = 0 → (∃ (X2 : z_X) (I3 : Nat → Nat → Nat → Int32) (J4 : Nat → Nat → Nat → Int64), z_ev (d + 1) (z_en 63 [z_r 1 0, z_r 1 1] (true, X, I, J)) (none, (true, X2, I3, J4)) ∧ r = (some (z_i 1), (true, X2, I3, J4)))) ∧ ((I 0 0 2) = 0 → r = (some (z_i (-3)), (true, X, I, J))))) :
    z_ev (d + 2) (z_en 117 [z_r 0 0] (true, X, I, J)) r := by
  show z_ev (d + 2) (117, 0, [some (z_r 0 0)], [], (true, X, I, J)) r
  refine z_ev_gs 3 (c1 := (117, (if ¬ (I 0 0 2) = 0 then 10 else 7), [some (z_r 0 0)], [], (true, X, I, J))) rfl ?_
  refine z_ev_ifn (fun e1 => ?_) (fun e1 => ?_)
  · have h7 := h.1 e1
    refine z_ev_gs 4 (c1 := (117, 18, [some (z_r 0 0)], [z_r 1 1, z_r 1 0], (true, X, I, J))) rfl ?_
    obtain ⟨X2, I3, J4, g5, h6⟩ := h7
    refine z_ev_ca rfl rfl g5 ?_
    refine z_ev_gs 1 (c1 := (117, 22, [some (z_r 0 0)], [z_i 1], (true, X2, I3, J4))) rfl ?_
    rw [h6]
    exact z_ev_rt rfl
  · have h8 := h.2 e1
    refine z_ev_gs 1 (c1 := (117, 9, [some (z_r 0 0)], [z_i (-3)], (true, X, I, J))) rfl ?_
    rw [h8]
    exact z_ev_rt rfl
