/-! segments: blow, near, draw; printed by wip/whole/emit_seg.py -/
theorem z_q9_e {d : Nat} {r : Option z_V × z_M} {X : z_X} {I : Nat → Nat → Nat → Int32} {J : Nat → Nat → Nat → Int64} (q1 : Nat) (hq1 : q1 < 10)
    (h : z_ev (d + 2) (9, 7, [some (z_r 4 0), some (z_r 13 q1), some (z_i 0), none], [], (true, X, (z_up I 4 0 2 (0 : Int32)), J)) r) :
    z_ev (d + 2) (z_en 9 [z_r 4 0, z_r 13 q1] (true, X, I, J)) r := by
  show z_ev (d + 2) (9, 0, [some (z_r 4 0), some (z_r 13 q1), none, none], [], (true, X, I, J)) r
  refine z_ev_gs 5 (c1 := (9, 7, [some (z_r 4 0), some (z_r 13 q1), some (z_i 0), none], [], (true, X, (z_up I 4 0 2 (0 : Int32)), J))) rfl ?_
  exact h
theorem z_q9_7 {d : Nat} {r : Option z_V × z_M} {X : z_X} {I : Nat → Nat → Nat → Int32} {J : Nat → Nat → Nat → Int64} (q1 : Nat) (hq1 : q1 < 10) (x2 : Int32) (o3 : Option z_V)
    (h : (((I 13 q1 1) ≤ x2 → r = (none, (true, X, I, J))) ∧ (x2 < (I 13 q1 1) → (((5 : Int32) ≤ x2 → r = (none, (true, X, I, J))) ∧ (x2 < (5 : Int32) → (∃ (v42 : Int32) (X37 : z_X) (I38 : Nat → Nat → Nat → Int32) (J39 : Nat → Nat → Nat → Int64), z_ev (d + 1) (z_en 6 [z_r 4 0, z_i 1] (true, X, I, J)) (some (z_i (v42)), (true, X37, I38, J39)) ∧ z_ev (d + 2) (9, 28, [some (z_r 4 0), some (z_r 13 q1), some (z_i (x2)), some (z_i 0)], [], (true, X37, I38, J39)) r)))))) :
    z_ev (d + 2) ((9, 7, [some (z_r 4 0), some (z_r 13 q1), some (z_i (x2)), o3], [], (true, X, I, J))) r := by
  refine z_ev_gs 2 (c1 := (9, 9, [some (z_r 4 0), some (z_r 13 q1), some (z_i (x2)), o3], [z_r 13 q1, z_i (x2)], (true, X, I, J))) rfl ?_
  refine z_ev_gi (c1 := (9, 12, [some (z_r 4 0), some (z_r 13 q1), some (z_i (x2)), o3], [z_i (I 13 q1 1), z_i (x2)], (true, X, I, J))) rfl hq1 ?_
  refine z_ev_gs 1 (c1 := (9, (if (I 13 q1 1) ≤ x2 then 65 else 15), [some (z_r 4 0), some (z_r 13 q1), some (z_i (x2)), o3], [], (true, X, I, J))) rfl ?_
  refine z_ev_ifle (fun e35 => ?_) (fun e35 => ?_)
  · have h45 := h.1 e35
    rw [h45]
    exact z_ev_rt rfl
  · have h46 := h.2 e35
    refine z_ev_gs 3 (c1 := (9, (if (5 : Int32) ≤ x2 then 65 else 20), [some (z_r 4 0), some (z_r 13 q1), some (z_i (x2)), o3], [], (true, X, I, J))) rfl ?_
    refine z_ev_ifle (fun e36 => ?_) (fun e36 => ?_)
    · have h43 := h46.1 e36
      rw [h43]
      exact z_ev_rt rfl
    · have h44 := h46.2 e36
      refine z_ev_gs 2 (c1 := (9, 22, [some (z_r 4 0), some (z_r 13 q1), some (z_i (x2)), o3], [z_i 1, z_r 4 0], (true, X, I, J))) rfl ?_
      obtain ⟨v42, X37, I38, J39, g40, h41⟩ := h44
      refine z_ev_ca rfl rfl g40 ?_
      refine z_ev_gs 3 (c1 := (9, 28, [some (z_r 4 0), some (z_r 13 q1), some (z_i (x2)), some (z_i 0)], [], (true, X37, I38, J39))) rfl ?_
      exact h41
theorem z_q9_28 {d : Nat} {r : Option z_V × z_M} {X : z_X} {I : Nat → Nat → Nat → Int32} {J : Nat → Nat → Nat → Int64} (q1 : Nat) (hq1 : q1 < 10) (x2 : Int32) (x3 : Int32)
    (h : ((x2 ≤ x3 → z_ev (d + 2) (9, 7, [some (z_r 4 0), some (z_r 13 q1), some (z_i (x2 + (1 : Int32))), some (z_i (x3))], [], (true, X, I, J)) r) ∧ (x3 < x2 → (∃ (b53 : Bool) (X48 : z_X) (I49 : Nat → Nat → Nat → Int32) (J50 : Nat → Nat → Nat → Int64), z_ev (d + 1) (z_en 22 [z_r 13 q1, z_i (x3), z_i (x2)] (true, X, I, J)) (some (z_i (z_c b53)), (true, X48, I49, J50)) ∧ ((b53 = false → (∃ (X55 : z_X) (I56 : Nat → Nat → Nat → Int32) (J57 : Nat → Nat → Nat → Int64), z_ev (d + 1) (z_en 8 [z_r 4 0, z_i (x3), z_i (x2), z_i 0] (true, X48, I49, J50)) (none, (true, X55, I56, J57)) ∧ z_ev (d + 2) (9, 28, [some (z_r 4 0), some (z_r 13 q1), some (z_i (x2)), some (z_i (x3 + (1 : Int32)))], [], (true, X55, I56, J57)) r)) ∧ (b53 = true → (∃ (X60 : z_X) (I61 : Nat → Nat → Nat → Int32) (J62 : Nat → Nat → Nat → Int64), z_ev (d + 1) (z_en 8 [z_r 4 0, z_i (x3), z_i (x2), z_i 4] (true, X48, I49, J50)) (none, (true, X60, I61, J62)) ∧ z_ev (d + 2) (9, 28, [some (z_r 4 0), some (z_r 13 q1), some (z_i (x2)), some (z_i (x3 + (1 : Int32)))], [], (true, X60, I61, J62)) r))))))) :
    z_ev (d + 2) ((9, 28, [some (z_r 4 0), some (z_r 13 q1), some (z_i (x2)), some (z_i (x3))], [], (true, X, I, J))) r := by
  refine z_ev_gs 3 (c1 := (9, (if x2 ≤ x3 then 59 else 33), [some (z_r 4 0), some (z_r 13 q1), some (z_i (x2)), some (z_i (x3))], [], (true, X, I, J))) rfl ?_
  refine z_ev_ifle (fun e47 => ?_) (fun e47 => ?_)
  · have h67 := h.1 e47
    refine z_ev_gs 2 (c1 := (9, 7, [some (z_r 4 0), some (z_r 13 q1), some (z_i (x2 + (1 : Int32))), some (z_i (x3))], [], (true, X, I, J))) rfl ?_
    exact h67
  · have h68 := h.2 e47
    refine z_ev_gs 6 (c1 := (9, 39, [some (z_r 4 0), some (z_r 13 q1), some (z_i (x2)), some (z_i (x3))], [z_i (x2), z_i (x3), z_r 13 q1, z_i (x2), z_i (x3), z_r 4 0], (true, X, I, J))) rfl ?_
    obtain ⟨b53, X48, I49, J50, g51, h52⟩ := h68
    refine z_ev_cg rfl hq1 rfl g51 ?_
    refine z_ev_gs 1 (c1 := (9, (if z_c b53 = 0 then 49 else 45), [some (z_r 4 0), some (z_r 13 q1), some (z_i (x2)), some (z_i (x3))], [z_i (x2), z_i (x3), z_r 4 0], (true, X48, I49, J50))) rfl ?_
    refine z_ev_ifc (fun e54 => ?_) (fun e54 => ?_)
    · have h65 := h52.1 e54
      refine z_ev_gs 1 (c1 := (9, 50, [some (z_r 4 0), some (z_r 13 q1), some (z_i (x2)), some (z_i (x3))], [z_i 0, z_i (x2), z_i (x3), z_r 4 0], (true, X48, I49, J50))) rfl ?_
      obtain ⟨X55, I56, J57, g58, h59⟩ := h65
      refine z_ev_ca rfl rfl g58 ?_
      refine z_ev_gs 2 (c1 := (9, 28, [some (z_r 4 0), some (z_r 13 q1), some (z_i (x2)), some (z_i (x3 + (1 : Int32)))], [], (true, X55, I56, J57))) rfl ?_
      exact h59
    · have h66 := h52.2 e54
      refine z_ev_gs 2 (c1 := (9, 50, [some (z_r 4 0), some (z_r 13 q1), some (z_i (x2)), some (z_i (x3))], [z_i 4, z_i (x2), z_i (x3), z_r 4 0], (true, X48, I49, J50))) rfl ?_
      obtain ⟨X60, I61, J62, g63, h64⟩ := h66
      refine z_ev_ca rfl rfl g63 ?_
      refine z_ev_gs 2 (c1 := (9, 28, [some (z_r 4 0), some (z_r 13 q1), some (z_i (x2)), some (z_i (x3 + (1 : Int32)))], [], (true, X60, I61, J62))) rfl ?_
      exact h64
theorem z_q89_e {d : Nat} {r : Option z_V × z_M} {X : z_X} {I : Nat → Nat → Nat → Int32} {J : Nat → Nat → Nat → Int64} (x1 : Int32)
    (h : (((z_bw x1 0 3) = true → (∃ k2 : Nat, x1 = Int32.ofNat k2 ∧ k2 < 4 ∧ (((I 13 k2 1) ≤ (5 : Int32) → (∃ (X7 : z_X) (I8 : Nat → Nat → Nat → Int32) (J9 : Nat → Nat → Nat → Int64), z_ev (d + 2) (z_en 9 [z_r 4 0, z_r 13 k2] (true, X, I, J)) (none, (true, X7, I8, J9)) ∧ r = (some (z_i (I8 4 0 2)), (true, X7, I8, J9)))) ∧ ((5 : Int32) < (I 13 k2 1) → r = (some (z_i (-4)), (true, X, I, J)))))) ∧ ((z_bw x1 0 3) = false → r = (some (z_i (-1)), (true, X, I, J))))) :
    z_ev (d + 3) (z_en 89 [z_r 0 0, z_i (x1)] (true, X, I, J)) r := by
  show z_ev (d + 3) (89, 0, [some (z_r 0 0), some (z_i (x1))], [], (true, X, I, J)) r
  refine z_ev_gs 1 (c1 := (89, 1, [some (z_r 0 0), some (z_i (x1))], [z_i (x1)], (true, X, I, J))) rfl ?_
  refine z_ev_ca rfl rfl (z_p118 _) ?_
  refine z_ev_gs 1 (c1 := (89, (if ¬ z_c (z_bw x1 0 3) = 0 then 9 else 7), [some (z_r 0 0), some (z_i (x1))], [], (true, X, I, J))) rfl ?_
  refine z_ev_ifcn (fun e1 => ?_) (fun e1 => ?_)
  · have h14 := h.1 e1
    refine z_ev_gs 4 (c1 := (89, 17, [some (z_r 0 0), some (z_i (x1))], [z_i (x1), z_r 2 0], (true, X, I, J))) rfl ?_
    obtain ⟨k2, e3, e4, h5⟩ := h14
    refine z_ev_nt0 (k := k2) rfl e3 e4 ?_
    refine z_ev_gi (c1 := (89, 21, [some (z_r 0 0), some (z_i (x1))], [z_i (I 13 k2 1)], (true, X, I, J))) rfl (z_lt40 e4) ?_
    refine z_ev_gs 2 (c1 := (89, (if (I 13 k2 1) ≤ (5 : Int32) then 28 else 25), [some (z_r 0 0), some (z_i (x1))], [], (true, X, I, J))) rfl ?_
    refine z_ev_ifle (fun e6 => ?_) (fun e6 => ?_)
    · have h12 := h5.1 e6
      refine z_ev_gs 7 (c1 := (89, 43, [some (z_r 0 0), some (z_i (x1))], [z_i (x1), z_r 2 0, z_r 4 0], (true, X, I, J))) rfl ?_
      refine z_ev_nt0 (k := k2) rfl e3 (Nat.lt_of_lt_of_le e4 (by decide)) ?_
      obtain ⟨X7, I8, J9, g10, h11⟩ := h12
      refine z_ev_ca rfl rfl g10 ?_
      refine z_ev_gs 4 (c1 := (89, 57, [some (z_r 0 0), some (z_i (x1))], [z_i (I8 4 0 2)], (true, X7, I8, J9))) rfl ?_
      rw [h11]
      exact z_ev_rt rfl
    · have h13 := h5.2 e6
      refine z_ev_gs 1 (c1 := (89, 27, [some (z_r 0 0), some (z_i (x1))], [z_i (-4)], (true, X, I, J))) rfl ?_
      rw [h13]
      exact z_ev_rt rfl
  · have h15 := h.2 e1
    refine z_ev_gs 1 (c1 := (89, 8, [some (z_r 0 0), some (z_i (x1))], [z_i (-1)], (true, X, I, J))) rfl ?_
    rw [h15]
    exact z_ev_rt rfl
theorem z_q221_e {d : Nat} {r : Option z_V × z_M} {X : z_X} {I : Nat → Nat → Nat → Int32} {J : Nat → Nat → Nat → Int64} (x1 : Int32)
    (h : (((z_bw x1 0 3) = true → (∃ k39 : Nat, x1 = Int32.ofNat k39 ∧ k39 < 4 ∧ (((I 34 0 k39) ≤ (5 : Int32) → z_ev (d + 2) (221, 34, [some (z_r 33 0), some (z_i (x1)), some (z_i 0), none], [], (true, X, (z_up I 33 0 4 (I 34 0 k39)), J)) r) ∧ ((5 : Int32) < (I 34 0 k39) → r = (some (z_i (-4)), (true, X, I, J)))))) ∧ ((z_bw x1 0 3) = false → r = (some (z_i (-1)), (true, X, I, J))))) :
    z_ev (d + 2) (z_en 221 [z_r 33 0, z_i (x1)] (true, X, I, J)) r := by
  show z_ev (d + 2) (221, 0, [some (z_r 33 0), some (z_i (x1)), none, none], [], (true, X, I, J)) r
  refine z_ev_gs 1 (c1 := (221, 1, [some (z_r 33 0), some (z_i (x1)), none, none], [z_i (x1)], (true, X, I, J))) rfl ?_
  refine z_ev_ca rfl rfl (z_p162 _) ?_
  refine z_ev_gs 1 (c1 := (221, (if ¬ z_c (z_bw x1 0 3) = 0 then 9 else 7), [some (z_r 33 0), some (z_i (x1)), none, none], [], (true, X, I, J))) rfl ?_
  refine z_ev_ifcn (fun e38 => ?_) (fun e38 => ?_)
  · have h46 := h.1 e38
    refine z_ev_gs 3 (c1 := (221, 14, [some (z_r 33 0), some (z_i (x1)), none, none], [z_i (x1), z_r 34 0], (true, X, I, J))) rfl ?_
    obtain ⟨k39, e40, e41, h42⟩ := h46
    refine z_ev_iald (t := 34) (i := 0) (k := k39) (n := 4) rfl rfl e40 e41 (by decide) ?_
    refine z_ev_gs 2 (c1 := (221, (if (I 34 0 k39) ≤ (5 : Int32) then 22 else 19), [some (z_r 33 0), some (z_i (x1)), none, none], [], (true, X, I, J))) rfl ?_
    refine z_ev_ifle (fun e43 => ?_) (fun e43 => ?_)
    · have h44 := h42.1 e43
      refine z_ev_gs 4 (c1 := (221, 28, [some (z_r 33 0), some (z_i (x1)), none, none], [z_i (x1), z_r 34 0, z_r 33 0], (true, X, I, J))) rfl ?_
      refine z_ev_iald (t := 34) (i := 0) (k := k39) (n := 4) rfl rfl e40 (Nat.lt_of_lt_of_le e41 (by decide)) (by decide) ?_
      refine z_ev_gs 3 (c1 := (221, 34, [some (z_r 33 0), some (z_i (x1)), some (z_i 0), none], [], (true, X, (z_up I 33 0 4 (I 34 0 k39)), J))) rfl ?_
      exact h44
    · have h45 := h42.2 e43
      refine z_ev_gs 1 (c1 := (221, 21, [some (z_r 33 0), some (z_i (x1)), none, none], [z_i (-4)], (true, X, I, J))) rfl ?_
      rw [h45]
      exact z_ev_rt rfl
  · have h47 := h.2 e38
    refine z_ev_gs 1 (c1 := (221, 8, [some (z_r 33 0), some (z_i (x1)), none, none], [z_i (-1)], (true, X, I, J))) rfl ?_
    rw [h47]
    exact z_ev_rt rfl
theorem z_q221_34 {d : Nat} {r : Option z_V × z_M} {X : z_X} {I : Nat → Nat → Nat → Int32} {J : Nat → Nat → Nat → Int64} (x1 : Int32) (x2 : Int32) (o3 : Option z_V)
    (h : (((I 33 0 4) ≤ x2 → r = (some (z_i (I 33 0 4)), (true, X, I, J))) ∧ (x2 < (I 33 0 4) → (∃ k49 : Nat, x2 = Int32.ofNat k49 ∧ k49 < 5 ∧ z_ev (d + 2) (221, 51, [some (z_r 33 0), some (z_i (x1)), some (z_i (x2)), some (z_i 0)], [], (true, X, (z_up I 37 0 k49 (1 : Int32)), J)) r)))) :
    z_ev (d + 2) ((221, 34, [some (z_r 33 0), some (z_i (x1)), some (z_i (x2)), o3], [], (true, X, I, J))) r := by
  refine z_ev_gs 4 (c1 := (221, (if (I 33 0 4) ≤ x2 then 96 else 42), [some (z_r 33 0), some (z_i (x1)), some (z_i (x2)), o3], [], (true, X, I, J))) rfl ?_
  refine z_ev_ifle (fun e48 => ?_) (fun e48 => ?_)
  · have h53 := h.1 e48
    refine z_ev_gs 2 (c1 := (221, 100, [some (z_r 33 0), some (z_i (x1)), some (z_i (x2)), o3], [z_i (I 33 0 4)], (true, X, I, J))) rfl ?_
    rw [h53]
    exact z_ev_rt rfl
  · have h54 := h.2 e48
    refine z_ev_gs 4 (c1 := (221, 48, [some (z_r 33 0), some (z_i (x1)), some (z_i (x2)), o3], [z_i 1, z_i (x2), z_r 37 0], (true, X, I, J))) rfl ?_
    obtain ⟨k49, e50, e51, h52⟩ := h54
    refine z_ev_iast (t := 37) (i := 0) (k := k49) (n := 5) rfl rfl e50 e51 (by decide) ?_
    refine z_ev_gs 2 (c1 := (221, 51, [some (z_r 33 0), some (z_i (x1)), some (z_i (x2)), some (z_i 0)], [], (true, X, (z_up I 37 0 k49 (1 : Int32)), J))) rfl ?_
    exact h52
theorem z_q221_51 {d : Nat} {r : Option z_V × z_M} {X : z_X} {I : Nat → Nat → Nat → Int32} {J : Nat → Nat → Nat → Int64} (x1 : Int32) (x2 : Int32) (x3 : Int32)
    (h : (((I 33 0 4) ≤ x3 → z_ev (d + 2) (221, 34, [some (z_r 33 0), some (z_i (x1)), some (z_i (x2 + (1 : Int32))), some (z_i (x3))], [], (true, X, I, J)) r) ∧ (x3 < (I 33 0 4) → (∃ (b61 : Bool) (X56 : z_X) (I57 : Nat → Nat → Nat → Int32) (J58 : Nat → Nat → Nat → Int64), z_ev (d + 1) (z_en 167 [z_r 33 0, z_i (x1), z_i (x2), z_i (x3)] (true, X, I, J)) (some (z_i (z_c b61)), (true, X56, I57, J58)) ∧ ((b61 = false → (∃ k63 : Nat, (((5 : Int32) * x2) + x3) = Int32.ofNat k63 ∧ k63 < 25 ∧ z_ev (d + 2) (221, 51, [some (z_r 33 0), some (z_i (x1)), some (z_i (x2)), some (z_i (x3 + (1 : Int32)))], [], (true, X56, (z_up I57 38 0 k63 (0 : Int32)), J58)) r)) ∧ (b61 = true → (∃ k67 : Nat, (((5 : Int32) * x2) + x3) = Int32.ofNat k67 ∧ k67 < 25 ∧ z_ev (d + 2) (221, 51, [some (z_r 33 0), some (z_i (x1)), some (z_i (x2)), some (z_i (x3 + (1 : Int32)))], [], (true, X56, (z_up I57 38 0 k67 (4 : Int32)), J58)) r))))))) :
    z_ev (d + 2) ((221, 51, [some (z_r 33 0), some (z_i (x1)), some (z_i (x2)), some (z_i (x3))], [], (true, X, I, J))) r := by
  refine z_ev_gs 4 (c1 := (221, (if (I 33 0 4) ≤ x3 then 90 else 59), [some (z_r 33 0), some (z_i (x1)), some (z_i (x2)), some (z_i (x3))], [], (true, X, I, J))) rfl ?_
  refine z_ev_ifle (fun e55 => ?_) (fun e55 => ?_)
  · have h73 := h.1 e55
    refine z_ev_gs 2 (c1 := (221, 34, [some (z_r 33 0), some (z_i (x1)), some (z_i (x2 + (1 : Int32))), some (z_i (x3))], [], (true, X, I, J))) rfl ?_
    exact h73
  · have h74 := h.2 e55
    refine z_ev_gs 11 (c1 := (221, 72, [some (z_r 33 0), some (z_i (x1)), some (z_i (x2)), some (z_i (x3))], [z_i (x3), z_i (x2), z_i (x1), z_r 33 0, z_i (((5 : Int32) * x2) + x3), z_r 38 0], (true, X, I, J))) rfl ?_
    obtain ⟨b61, X56, I57, J58, g59, h60⟩ := h74
    refine z_ev_ca rfl rfl g59 ?_
    refine z_ev_gs 1 (c1 := (221, (if z_c b61 = 0 then 82 else 78), [some (z_r 33 0), some (z_i (x1)), some (z_i (x2)), some (z_i (x3))], [z_i (((5 : Int32) * x2) + x3), z_r 38 0], (true, X56, I57, J58))) rfl ?_
    refine z_ev_ifc (fun e62 => ?_) (fun e62 => ?_)
    · have h71 := h60.1 e62
      refine z_ev_gs 1 (c1 := (221, 83, [some (z_r 33 0), some (z_i (x1)), some (z_i (x2)), some (z_i (x3))], [z_i 0, z_i (((5 : Int32) * x2) + x3), z_r 38 0], (true, X56, I57, J58))) rfl ?_
      obtain ⟨k63, e64, e65, h66⟩ := h71
      refine z_ev_iast (t := 38) (i := 0) (k := k63) (n := 25) rfl rfl e64 e65 (by decide) ?_
      refine z_ev_gs 2 (c1 := (221, 51, [some (z_r 33 0), some (z_i (x1)), some (z_i (x2)), some (z_i (x3 + (1 : Int32)))], [], (true, X56, (z_up I57 38 0 k63 (0 : Int32)), J58))) rfl ?_
      exact h66
    · have h72 := h60.2 e62
      refine z_ev_gs 2 (c1 := (221, 83, [some (z_r 33 0), some (z_i (x1)), some (z_i (x2)), some (z_i (x3))], [z_i 4, z_i (((5 : Int32) * x2) + x3), z_r 38 0], (true, X56, I57, J58))) rfl ?_
      obtain ⟨k67, e68, e69, h70⟩ := h72
      refine z_ev_iast (t := 38) (i := 0) (k := k67) (n := 25) rfl rfl e68 e69 (by decide) ?_
      refine z_ev_gs 2 (c1 := (221, 51, [some (z_r 33 0), some (z_i (x1)), some (z_i (x2)), some (z_i (x3 + (1 : Int32)))], [], (true, X56, (z_up I57 38 0 k67 (4 : Int32)), J58))) rfl ?_
      exact h70
theorem z_q10_e {d : Nat} {r : Option z_V × z_M} {X : z_X} {I : Nat → Nat → Nat → Int32} {J : Nat → Nat → Nat → Int64} 
    (h : z_ev d (10, 4, [some (z_r 4 0), some (z_i 0), some (z_i 0)], [], (true, X, I, J)) r) :
    z_ev d (z_en 10 [z_r 4 0] (true, X, I, J)) r := by
  show z_ev d (10, 0, [some (z_r 4 0), none, none], [], (true, X, I, J)) r
  refine z_ev_gs 4 (c1 := (10, 4, [some (z_r 4 0), some (z_i 0), some (z_i 0)], [], (true, X, I, J))) rfl ?_
  exact h
theorem z_q10_4 {d : Nat} {r : Option z_V × z_M} {X : z_X} {I : Nat → Nat → Nat → Int32} {J : Nat → Nat → Nat → Int64} (x1 : Int32) (x2 : Int32)
    (h : (((I 4 0 2) ≤ x2 → r = (some (z_i (x1)), (true, X, I, J))) ∧ (x2 < (I 4 0 2) → (∃ k2 : Nat, x2 = Int32.ofNat k2 ∧ k2 < 5 ∧ z_ev d (10, 4, [some (z_r 4 0), some (z_i (x1 + (I 5 0 k2))), some (z_i (x2 + (1 : Int32)))], [], (true, X, I, J)) r)))) :
    z_ev d ((10, 4, [some (z_r 4 0), some (z_i (x1)), some (z_i (x2))], [], (true, X, I, J))) r := by
  refine z_ev_gs 4 (c1 := (10, (if (I 4 0 2) ≤ x2 then 27 else 12), [some (z_r 4 0), some (z_i (x1)), some (z_i (x2))], [], (true, X, I, J))) rfl ?_
  refine z_ev_ifle (fun e1 => ?_) (fun e1 => ?_)
  · have h6 := h.1 e1
    refine z_ev_gs 1 (c1 := (10, 28, [some (z_r 4 0), some (z_i (x1)), some (z_i (x2))], [z_i (x1)], (true, X, I, J))) rfl ?_
    rw [h6]
    exact z_ev_rt rfl
  · have h7 := h.2 e1
    refine z_ev_gs 4 (c1 := (10, 18, [some (z_r 4 0), some (z_i (x1)), some (z_i (x2))], [z_i (x2), z_r 5 0, z_i (x1)], (true, X, I, J))) rfl ?_
    obtain ⟨k2, e3, e4, h5⟩ := h7
    refine z_ev_iald (t := 5) (i := 0) (k := k2) (n := 5) rfl rfl e3 e4 (by decide) ?_
    refine z_ev_gs 4 (c1 := (10, 4, [some (z_r 4 0), some (z_i (x1 + (I 5 0 k2))), some (z_i (x2 + (1 : Int32)))], [], (true, X, I, J))) rfl ?_
    exact h5
theorem z_q214_e {d : Nat} {r : Option z_V × z_M} {X : z_X} {I : Nat → Nat → Nat → Int32} {J : Nat → Nat → Nat → Int64} 
    (h : z_ev d (214, 4, [some (z_r 33 0), some (z_i 0), some (z_i 0)], [], (true, X, I, J)) r) :
    z_ev d (z_en 214 [z_r 33 0] (true, X, I, J)) r := by
  show z_ev d (214, 0, [some (z_r 33 0), none, none], [], (true, X, I, J)) r
  refine z_ev_gs 4 (c1 := (214, 4, [some (z_r 33 0), some (z_i 0), some (z_i 0)], [], (true, X, I, J))) rfl ?_
  exact h
theorem z_q214_4 {d : Nat} {r : Option z_V × z_M} {X : z_X} {I : Nat → Nat → Nat → Int32} {J : Nat → Nat → Nat → Int64} (x1 : Int32) (x2 : Int32)
    (h : (((I 33 0 4) ≤ x2 → r = (some (z_i (x1)), (true, X, I, J))) ∧ (x2 < (I 33 0 4) → (∃ k2 : Nat, x2 = Int32.ofNat k2 ∧ k2 < 5 ∧ z_ev d (214, 4, [some (z_r 33 0), some (z_i (x1 + (I 37 0 k2))), some (z_i (x2 + (1 : Int32)))], [], (true, X, I, J)) r)))) :
    z_ev d ((214, 4, [some (z_r 33 0), some (z_i (x1)), some (z_i (x2))], [], (true, X, I, J))) r := by
  refine z_ev_gs 4 (c1 := (214, (if (I 33 0 4) ≤ x2 then 27 else 12), [some (z_r 33 0), some (z_i (x1)), some (z_i (x2))], [], (true, X, I, J))) rfl ?_
  refine z_ev_ifle (fun e1 => ?_) (fun e1 => ?_)
  · have h6 := h.1 e1
    refine z_ev_gs 1 (c1 := (214, 28, [some (z_r 33 0), some (z_i (x1)), some (z_i (x2))], [z_i (x1)], (true, X, I, J))) rfl ?_
    rw [h6]
    exact z_ev_rt rfl
  · have h7 := h.2 e1
    refine z_ev_gs 4 (c1 := (214, 18, [some (z_r 33 0), some (z_i (x1)), some (z_i (x2))], [z_i (x2), z_r 37 0, z_i (x1)], (true, X, I, J))) rfl ?_
    obtain ⟨k2, e3, e4, h5⟩ := h7
    refine z_ev_iald (t := 37) (i := 0) (k := k2) (n := 5) rfl rfl e3 e4 (by decide) ?_
    refine z_ev_gs 4 (c1 := (214, 4, [some (z_r 33 0), some (z_i (x1 + (I 37 0 k2))), some (z_i (x2 + (1 : Int32)))], [], (true, X, I, J))) rfl ?_
    exact h5
theorem z_q17_e {d : Nat} {r : Option z_V × z_M} {X : z_X} {I : Nat → Nat → Nat → Int32} {J : Nat → Nat → Nat → Int64} 
    (h : z_ev d (17, 4, [some (z_r 4 0), some (z_i 0), some (z_i 1)], [], (true, X, I, J)) r) :
    z_ev d (z_en 17 [z_r 4 0] (true, X, I, J)) r := by
  show z_ev d (17, 0, [some (z_r 4 0), none, none], [], (true, X, I, J)) r
  refine z_ev_gs 4 (c1 := (17, 4, [some (z_r 4 0), some (z_i 0), some (z_i 1)], [], (true, X, I, J))) rfl ?_
  exact h
theorem z_q17_4 {d : Nat} {r : Option z_V × z_M} {X : z_X} {I : Nat → Nat → Nat → Int32} {J : Nat → Nat → Nat → Int64} (x1 : Int32) (x2 : Int32)
    (h : (((I 4 0 2) ≤ x2 → r = (some (z_i (x1)), (true, X, I, J))) ∧ (x2 < (I 4 0 2) → (∃ k2 : Nat, x2 = Int32.ofNat k2 ∧ k2 < 5 ∧ (∃ k6 : Nat, x1 = Int32.ofNat k6 ∧ k6 < 5 ∧ (((I 10 0 k2) ≤ (I 10 0 k6) → z_ev d (17, 4, [some (z_r 4 0), some (z_i (x1)), some (z_i (x2 + (1 : Int32)))], [], (true, X, I, J)) r) ∧ ((I 10 0 k6) < (I 10 0 k2) → z_ev d (17, 4, [some (z_r 4 0), some (z_i (x2)), some (z_i (x2 + (1 : Int32)))], [], (true, X, I, J)) r))))))) :
    z_ev d ((17, 4, [some (z_r 4 0), some (z_i (x1)), some (z_i (x2))], [], (true, X, I, J))) r := by
  refine z_ev_gs 4 (c1 := (17, (if (I 4 0 2) ≤ x2 then 35 else 12), [some (z_r 4 0), some (z_i (x1)), some (z_i (x2))], [], (true, X, I, J))) rfl ?_
  refine z_ev_ifle (fun e1 => ?_) (fun e1 => ?_)
  · have h13 := h.1 e1
    refine z_ev_gs 1 (c1 := (17, 36, [some (z_r 4 0), some (z_i (x1)), some (z_i (x2))], [z_i (x1)], (true, X, I, J))) rfl ?_
    rw [h13]
    exact z_ev_rt rfl
  · have h14 := h.2 e1
    refine z_ev_gs 3 (c1 := (17, 17, [some (z_r 4 0), some (z_i (x1)), some (z_i (x2))], [z_i (x2), z_r 10 0], (true, X, I, J))) rfl ?_
    obtain ⟨k2, e3, e4, h5⟩ := h14
    refine z_ev_iald (t := 10) (i := 0) (k := k2) (n := 5) rfl rfl e3 e4 (by decide) ?_
    refine z_ev_gs 3 (c1 := (17, 23, [some (z_r 4 0), some (z_i (x1)), some (z_i (x2))], [z_i (x1), z_r 10 0, z_i (I 10 0 k2)], (true, X, I, J))) rfl ?_
    obtain ⟨k6, e7, e8, h9⟩ := h5
    refine z_ev_iald (t := 10) (i := 0) (k := k6) (n := 5) rfl rfl e7 e8 (by decide) ?_
    refine z_ev_gs 1 (c1 := (17, (if (I 10 0 k2) ≤ (I 10 0 k6) then 29 else 27), [some (z_r 4 0), some (z_i (x1)), some (z_i (x2))], [], (true, X, I, J))) rfl ?_
    refine z_ev_ifle (fun e10 => ?_) (fun e10 => ?_)
    · have h11 := h9.1 e10
      refine z_ev_gs 2 (c1 := (17, 4, [some (z_r 4 0), some (z_i (x1)), some (z_i (x2 + (1 : Int32)))], [], (true, X, I, J))) rfl ?_
      exact h11
    · have h12 := h9.2 e10
      refine z_ev_gs 4 (c1 := (17, 4, [some (z_r 4 0), some (z_i (x2)), some (z_i (x2 + (1 : Int32)))], [], (true, X, I, J))) rfl ?_
      exact h12
theorem z_q16_e {d : Nat} {r : Option z_V × z_M} {X : z_X} {I : Nat → Nat → Nat → Int32} {J : Nat → Nat → Nat → Int64} (x1 : Int32)
    (h : (∃ (v6 : Int32) (X1 : z_X) (I2 : Nat → Nat → Nat → Int32) (J3 : Nat → Nat → Nat → Int64), z_ev d (z_en 10 [z_r 4 0] (true, X, I, J)) (some (z_i (v6)), (true, X1, I2, J3)) ∧ z_ev (d + 1) (16, 10, [some (z_r 4 0), some (z_i (x1)), some (z_i (v6)), some (z_i 0), some (z_i 0)], [], (true, X1, I2, J3)) r)) :
    z_ev (d + 1) (z_en 16 [z_r 4 0, z_i (x1)] (true, X, I, J)) r := by
  show z_ev (d + 1) (16, 0, [some (z_r 4 0), some (z_i (x1)), none, none, none], [], (true, X, I, J)) r
  refine z_ev_gs 1 (c1 := (16, 1, [some (z_r 4 0), some (z_i (x1)), none, none, none], [z_r 4 0], (true, X, I, J))) rfl ?_
  obtain ⟨v6, X1, I2, J3, g4, h5⟩ := h
  refine z_ev_ca rfl rfl g4 ?_
  refine z_ev_gs 5 (c1 := (16, 10, [some (z_r 4 0), some (z_i (x1)), some (z_i (v6)), some (z_i 0), some (z_i 0)], [], (true, X1, I2, J3))) rfl ?_
  exact h5
theorem z_q16_10 {d : Nat} {r : Option z_V × z_M} {X : z_X} {I : Nat → Nat → Nat → Int32} {J : Nat → Nat → Nat → Int64} (x1 : Int32) (x2 : Int32) (x3 : Int32) (x4 : Int32)
    (h : (((I 4 0 2) ≤ x4 → r = (some (z_i (x3)), (true, X, I, J))) ∧ (x4 < (I 4 0 2) → ((x2 ≤ 0 → r = (some (z_i (x3)), (true, X, I, J))) ∧ (0 < x2 → (∃ k9 : Nat, x4 = Int32.ofNat k9 ∧ k9 < 5 ∧ (¬ x2 = 0 ∧ (¬ x2 = 0 ∧ z_ev (d + 1) (16, 10, [some (z_r 4 0), some (z_i (x1)), some (z_i (x2)), some (z_i (x3 + ((z_up I 9 0 k9 ((x1 * (I 5 0 k9)) / x2)) 9 0 k9))), some (z_i (x4 + (1 : Int32)))], [], (true, X, (z_up (z_up I 9 0 k9 ((x1 * (I 5 0 k9)) / x2)) 10 0 k9 ((x1 * (I 5 0 k9)) - (x1 * (I 5 0 k9)) / x2 * x2)), J)) r)))))))) :
    z_ev (d + 1) ((16, 10, [some (z_r 4 0), some (z_i (x1)), some (z_i (x2)), some (z_i (x3)), some (z_i (x4))], [], (true, X, I, J))) r := by
  refine z_ev_gs 4 (c1 := (16, (if (I 4 0 2) ≤ x4 then 75 else 19), [some (z_r 4 0), some (z_i (x1)), some (z_i (x2)), some (z_i (x3)), some (z_i (x4))], [], (true, X, I, J))) rfl ?_
  refine z_ev_ifle (fun e7 => ?_) (fun e7 => ?_)
  · have h17 := h.1 e7
    refine z_ev_gs 1 (c1 := (16, 76, [some (z_r 4 0), some (z_i (x1)), some (z_i (x2)), some (z_i (x3)), some (z_i (x4))], [z_i (x3)], (true, X, I, J))) rfl ?_
    rw [h17]
    exact z_ev_rt rfl
  · have h18 := h.2 e7
    refine z_ev_gs 2 (c1 := (16, (if x2 ≤ 0 then 75 else 23), [some (z_r 4 0), some (z_i (x1)), some (z_i (x2)), some (z_i (x3)), some (z_i (x4))], [], (true, X, I, J))) rfl ?_
    refine z_ev_ifle (fun e8 => ?_) (fun e8 => ?_)
    · have h15 := h18.1 e8
      refine z_ev_gs 1 (c1 := (16, 76, [some (z_r 4 0), some (z_i (x1)), some (z_i (x2)), some (z_i (x3)), some (z_i (x4))], [z_i (x3)], (true, X, I, J))) rfl ?_
      rw [h15]
      exact z_ev_rt rfl
    · have h16 := h18.2 e8
      refine z_ev_gs 7 (c1 := (16, 36, [some (z_r 4 0), some (z_i (x1)), some (z_i (x2)), some (z_i (x3)), some (z_i (x4))], [z_i (x4), z_r 5 0, z_i (x1), z_i (x4), z_r 9 0], (true, X, I, J))) rfl ?_
      obtain ⟨k9, e10, e11, h12⟩ := h16
      refine z_ev_iald (t := 5) (i := 0) (k := k9) (n := 5) rfl rfl e10 e11 (by decide) ?_
      refine z_ev_gs 2 (c1 := (16, 39, [some (z_r 4 0), some (z_i (x1)), some (z_i (x2)), some (z_i (x3)), some (z_i (x4))], [z_i (x2), z_i (x1 * (I 5 0 k9)), z_i (x4), z_r 9 0], (true, X, I, J))) rfl ?_
      obtain ⟨g0, h14⟩ := h12
      refine z_ev_dvi (w1 := x2) (c1 := (16, 40, [some (z_r 4 0), some (z_i (x1)), some (z_i (x2)), some (z_i (x3)), some (z_i (x4))], [z_i ((x1 * (I 5 0 k9)) / x2), z_i (x4), z_r 9 0], (true, X, I, J))) rfl g0 ?_
      refine z_ev_iast (t := 9) (i := 0) (k := k9) (n := 5) rfl rfl e10 (Nat.lt_of_lt_of_le e11 (by decide)) (by decide) ?_
      refine z_ev_gs 7 (c1 := (16, 54, [some (z_r 4 0), some (z_i (x1)), some (z_i (x2)), some (z_i (x3)), some (z_i (x4))], [z_i (x4), z_r 5 0, z_i (x1), z_i (x4), z_r 10 0], (true, X, (z_up I 9 0 k9 ((x1 * (I 5 0 k9)) / x2)), J))) rfl ?_
      refine z_ev_iald (t := 5) (i := 0) (k := k9) (n := 5) rfl rfl e10 (Nat.lt_of_lt_of_le e11 (by decide)) (by decide) ?_
      refine z_ev_gs 2 (c1 := (16, 57, [some (z_r 4 0), some (z_i (x1)), some (z_i (x2)), some (z_i (x3)), some (z_i (x4))], [z_i (x2), z_i (x1 * (I 5 0 k9)), z_i (x4), z_r 10 0], (true, X, (z_up I 9 0 k9 ((x1 * (I 5 0 k9)) / x2)), J))) rfl ?_
      obtain ⟨g0, h13⟩ := h14
      refine z_ev_dvi (w1 := x2) (c1 := (16, 58, [some (z_r 4 0), some (z_i (x1)), some (z_i (x2)), some (z_i (x3)), some (z_i (x4))], [z_i ((x1 * (I 5 0 k9)) - (x1 * (I 5 0 k9)) / x2 * x2), z_i (x4), z_r 10 0], (true, X, (z_up I 9 0 k9 ((x1 * (I 5 0 k9)) / x2)), J))) rfl g0 ?_
      refine z_ev_iast (t := 10) (i := 0) (k := k9) (n := 5) rfl rfl e10 (Nat.lt_of_lt_of_le e11 (by decide)) (by decide) ?_
      refine z_ev_gs 4 (c1 := (16, 66, [some (z_r 4 0), some (z_i (x1)), some (z_i (x2)), some (z_i (x3)), some (z_i (x4))], [z_i (x4), z_r 9 0, z_i (x3)], (true, X, (z_up (z_up I 9 0 k9 ((x1 * (I 5 0 k9)) / x2)) 10 0 k9 ((x1 * (I 5 0 k9)) - (x1 * (I 5 0 k9)) / x2 * x2)), J))) rfl ?_
      refine z_ev_iald (t := 9) (i := 0) (k := k9) (n := 5) rfl rfl e10 (Nat.lt_of_lt_of_le e11 (by decide)) (by decide) ?_
      refine z_ev_gs 4 (c1 := (16, 10, [some (z_r 4 0), some (z_i (x1)), some (z_i (x2)), some (z_i (x3 + ((z_up I 9 0 k9 ((x1 * (I 5 0 k9)) / x2)) 9 0 k9))), some (z_i (x4 + (1 : Int32)))], [], (true, X, (z_up (z_up I 9 0 k9 ((x1 * (I 5 0 k9)) / x2)) 10 0 k9 ((x1 * (I 5 0 k9)) - (x1 * (I 5 0 k9)) / x2 * x2)), J))) rfl ?_
      exact h13
theorem z_q15_e {d : Nat} {r : Option z_V × z_M} {X : z_X} {I : Nat → Nat → Nat → Int32} {J : Nat → Nat → Nat → Int64} (x1 : Int32)
    (h : (∃ (v45 : Int32) (X40 : z_X) (I41 : Nat → Nat → Nat → Int32) (J42 : Nat → Nat → Nat → Int64), z_ev (d + 1) (z_en 16 [z_r 4 0, z_i (x1)] (true, X, I, J)) (some (z_i (v45)), (true, X40, I41, J42)) ∧ z_ev (d + 2) (15, 10, [some (z_r 4 0), some (z_i (x1)), some (z_i (x1 - v45)), some (z_i 0), none, none], [], (true, X40, I41, J42)) r)) :
    z_ev (d + 2) (z_en 15 [z_r 4 0, z_i (x1)] (true, X, I, J)) r := by
  show z_ev (d + 2) (15, 0, [some (z_r 4 0), some (z_i (x1)), none, none, none, none], [], (true, X, I, J)) r
  refine z_ev_gs 3 (c1 := (15, 3, [some (z_r 4 0), some (z_i (x1)), none, none, none, none], [z_i (x1), z_r 4 0, z_i (x1)], (true, X, I, J))) rfl ?_
  obtain ⟨v45, X40, I41, J42, g43, h44⟩ := h
  refine z_ev_ca rfl rfl g43 ?_
  refine z_ev_gs 4 (c1 := (15, 10, [some (z_r 4 0), some (z_i (x1)), some (z_i (x1 - v45)), some (z_i 0), none, none], [], (true, X40, I41, J42))) rfl ?_
  exact h44
theorem z_q15_10 {d : Nat} {r : Option z_V × z_M} {X : z_X} {I : Nat → Nat → Nat → Int32} {J : Nat → Nat → Nat → Int64} (x1 : Int32) (x2 : Int32) (x3 : Int32) (o4 : Option z_V)
    (h : ((x2 ≤ x3 → z_ev (d + 2) (15, 56, [some (z_r 4 0), some (z_i (x1)), some (z_i (x2)), some (z_i 0), some (z_i 0), none], [], (true, X, I, J)) r) ∧ (x3 < x2 → (((5 : Int32) ≤ x3 → z_ev (d + 2) (15, 56, [some (z_r 4 0), some (z_i (x1)), some (z_i (x2)), some (z_i 0), some (z_i 0), none], [], (true, X, I, J)) r) ∧ (x3 < (5 : Int32) → (∃ (v53 : Int32) (X48 : z_X) (I49 : Nat → Nat → Nat → Int32) (J50 : Nat → Nat → Nat → Int64), z_ev (d + 1) (z_en 17 [z_r 4 0] (true, X, I, J)) (some (z_i (v53)), (true, X48, I49, J50)) ∧ (∃ k54 : Nat, v53 = Int32.ofNat k54 ∧ k54 < 5 ∧ z_ev (d + 2) (15, 10, [some (z_r 4 0), some (z_i (x1)), some (z_i (x2)), some (z_i (x3 + (1 : Int32))), some (z_i (v53)), none], [], (true, X48, (z_up (z_up I49 9 0 k54 ((I49 9 0 k54) + (1 : Int32))) 10 0 k54 (-1 : Int32)), J50)) r))))))) :
    z_ev (d + 2) ((15, 10, [some (z_r 4 0), some (z_i (x1)), some (z_i (x2)), some (z_i (x3)), o4, none], [], (true, X, I, J))) r := by
  refine z_ev_gs 3 (c1 := (15, (if x2 ≤ x3 then 51 else 15), [some (z_r 4 0), some (z_i (x1)), some (z_i (x2)), some (z_i (x3)), o4, none], [], (true, X, I, J))) rfl ?_
  refine z_ev_ifle (fun e46 => ?_) (fun e46 => ?_)
  · have h60 := h.1 e46
    refine z_ev_gs 4 (c1 := (15, 56, [some (z_r 4 0), some (z_i (x1)), some (z_i (x2)), some (z_i 0), some (z_i 0), none], [], (true, X, I, J))) rfl ?_
    exact h60
  · have h61 := h.2 e46
    refine z_ev_gs 3 (c1 := (15, (if (5 : Int32) ≤ x3 then 51 else 20), [some (z_r 4 0), some (z_i (x1)), some (z_i (x2)), some (z_i (x3)), o4, none], [], (true, X, I, J))) rfl ?_
    refine z_ev_ifle (fun e47 => ?_) (fun e47 => ?_)
    · have h58 := h61.1 e47
      refine z_ev_gs 4 (c1 := (15, 56, [some (z_r 4 0), some (z_i (x1)), some (z_i (x2)), some (z_i 0), some (z_i 0), none], [], (true, X, I, J))) rfl ?_
      exact h58
    · have h59 := h61.2 e47
      refine z_ev_gs 1 (c1 := (15, 21, [some (z_r 4 0), some (z_i (x1)), some (z_i (x2)), some (z_i (x3)), o4, none], [z_r 4 0], (true, X, I, J))) rfl ?_
      obtain ⟨v53, X48, I49, J50, g51, h52⟩ := h59
      refine z_ev_ca rfl rfl g51 ?_
      refine z_ev_gs 5 (c1 := (15, 33, [some (z_r 4 0), some (z_i (x1)), some (z_i (x2)), some (z_i (x3)), some (z_i (v53)), none], [z_i (v53), z_r 9 0, z_i (v53), z_r 9 0], (true, X48, I49, J50))) rfl ?_
      obtain ⟨k54, e55, e56, h57⟩ := h52
      refine z_ev_iald (t := 9) (i := 0) (k := k54) (n := 5) rfl rfl e55 e56 (by decide) ?_
      refine z_ev_gs 2 (c1 := (15, 36, [some (z_r 4 0), some (z_i (x1)), some (z_i (x2)), some (z_i (x3)), some (z_i (v53)), none], [z_i ((I49 9 0 k54) + (1 : Int32)), z_i (v53), z_r 9 0], (true, X48, I49, J50))) rfl ?_
      refine z_ev_iast (t := 9) (i := 0) (k := k54) (n := 5) rfl rfl e55 (Nat.lt_of_lt_of_le e56 (by decide)) (by decide) ?_
      refine z_ev_gs 4 (c1 := (15, 44, [some (z_r 4 0), some (z_i (x1)), some (z_i (x2)), some (z_i (x3)), some (z_i (v53)), none], [z_i (-1), z_i (v53), z_r 10 0], (true, X48, (z_up I49 9 0 k54 ((I49 9 0 k54) + (1 : Int32))), J50))) rfl ?_
      refine z_ev_iast (t := 10) (i := 0) (k := k54) (n := 5) rfl rfl e55 (Nat.lt_of_lt_of_le e56 (by decide)) (by decide) ?_
      refine z_ev_gs 2 (c1 := (15, 10, [some (z_r 4 0), some (z_i (x1)), some (z_i (x2)), some (z_i (x3 + (1 : Int32))), some (z_i (v53)), none], [], (true, X48, (z_up (z_up I49 9 0 k54 ((I49 9 0 k54) + (1 : Int32))) 10 0 k54 (-1 : Int32)), J50))) rfl ?_
      exact h57
theorem z_q15_56 {d : Nat} {r : Option z_V × z_M} {X : z_X} {I : Nat → Nat → Nat → Int32} {J : Nat → Nat → Nat → Int64} (x1 : Int32) (x2 : Int32) (x3 : Int32) (x4 : Int32) (o5 : Option z_V)
    (h : (((I 4 0 2) ≤ x4 → r = (none, (true, X, I, J))) ∧ (x4 < (I 4 0 2) → z_ev (d + 2) (15, 68, [some (z_r 4 0), some (z_i (x1)), some (z_i (x2)), some (z_i (x3)), some (z_i (x4)), some (z_i 0)], [], (true, X, I, J)) r))) :
    z_ev (d + 2) ((15, 56, [some (z_r 4 0), some (z_i (x1)), some (z_i (x2)), some (z_i (x3)), some (z_i (x4)), o5], [], (true, X, I, J))) r := by
  refine z_ev_gs 4 (c1 := (15, (if (I 4 0 2) ≤ x4 then 109 else 65), [some (z_r 4 0), some (z_i (x1)), some (z_i (x2)), some (z_i (x3)), some (z_i (x4)), o5], [], (true, X, I, J))) rfl ?_
  refine z_ev_ifle (fun e62 => ?_) (fun e62 => ?_)
  · have h63 := h.1 e62
    rw [h63]
    exact z_ev_rt rfl
  · have h64 := h.2 e62
    refine z_ev_gs 2 (c1 := (15, 68, [some (z_r 4 0), some (z_i (x1)), some (z_i (x2)), some (z_i (x3)), some (z_i (x4)), some (z_i 0)], [], (true, X, I, J))) rfl ?_
    exact h64
theorem z_q15_68 {d : Nat} {r : Option z_V × z_M} {X : z_X} {I : Nat → Nat → Nat → Int32} {J : Nat → Nat → Nat → Int64} (x1 : Int32) (x2 : Int32) (x3 : Int32) (x4 : Int32) (x5 : Int32)
    (h : (∃ k65 : Nat, x4 = Int32.ofNat k65 ∧ k65 < 5 ∧ (((I 9 0 k65) ≤ x5 → z_ev (d + 2) (15, 56, [some (z_r 4 0), some (z_i (x1)), some (z_i (x2)), some (z_i (x3)), some (z_i (x4 + (1 : Int32))), some (z_i (x5))], [], (true, X, I, J)) r) ∧ (x5 < (I 9 0 k65) → (((10 : Int32) ≤ x3 → z_ev (d + 2) (15, 56, [some (z_r 4 0), some (z_i (x1)), some (z_i (x2)), some (z_i (x3)), some (z_i (x4 + (1 : Int32))), some (z_i (x5))], [], (true, X, I, J)) r) ∧ (x3 < (10 : Int32) → (∃ k71 : Nat, x3 = Int32.ofNat k71 ∧ k71 < 10 ∧ z_ev (d + 2) (15, 68, [some (z_r 4 0), some (z_i (x1)), some (z_i (x2)), some (z_i (x3 + (1 : Int32))), some (z_i (x4)), some (z_i (x5 + (1 : Int32)))], [], (true, X, (z_up I 8 0 k71 x4), J)) r))))))) :
    z_ev (d + 2) ((15, 68, [some (z_r 4 0), some (z_i (x1)), some (z_i (x2)), some (z_i (x3)), some (z_i (x4)), some (z_i (x5))], [], (true, X, I, J))) r := by
  refine z_ev_gs 4 (c1 := (15, 76, [some (z_r 4 0), some (z_i (x1)), some (z_i (x2)), some (z_i (x3)), some (z_i (x4)), some (z_i (x5))], [z_i (x4), z_r 9 0, z_i (x5)], (true, X, I, J))) rfl ?_
  obtain ⟨k65, e66, e67, h68⟩ := h
  refine z_ev_iald (t := 9) (i := 0) (k := k65) (n := 5) rfl rfl e66 e67 (by decide) ?_
  refine z_ev_gs 1 (c1 := (15, (if (I 9 0 k65) ≤ x5 then 103 else 80), [some (z_r 4 0), some (z_i (x1)), some (z_i (x2)), some (z_i (x3)), some (z_i (x4)), some (z_i (x5))], [], (true, X, I, J))) rfl ?_
  refine z_ev_ifle (fun e69 => ?_) (fun e69 => ?_)
  · have h77 := h68.1 e69
    refine z_ev_gs 2 (c1 := (15, 56, [some (z_r 4 0), some (z_i (x1)), some (z_i (x2)), some (z_i (x3)), some (z_i (x4 + (1 : Int32))), some (z_i (x5))], [], (true, X, I, J))) rfl ?_
    exact h77
  · have h78 := h68.2 e69
    refine z_ev_gs 3 (c1 := (15, (if (10 : Int32) ≤ x3 then 103 else 86), [some (z_r 4 0), some (z_i (x1)), some (z_i (x2)), some (z_i (x3)), some (z_i (x4)), some (z_i (x5))], [], (true, X, I, J))) rfl ?_
    refine z_ev_ifle (fun e70 => ?_) (fun e70 => ?_)
    · have h75 := h78.1 e70
      refine z_ev_gs 2 (c1 := (15, 56, [some (z_r 4 0), some (z_i (x1)), some (z_i (x2)), some (z_i (x3)), some (z_i (x4 + (1 : Int32))), some (z_i (x5))], [], (true, X, I, J))) rfl ?_
      exact h75
    · have h76 := h78.2 e70
      refine z_ev_gs 4 (c1 := (15, 93, [some (z_r 4 0), some (z_i (x1)), some (z_i (x2)), some (z_i (x3)), some (z_i (x4)), some (z_i (x5))], [z_i (x4), z_i (x3), z_r 8 0], (true, X, I, J))) rfl ?_
      obtain ⟨k71, e72, e73, h74⟩ := h76
      refine z_ev_iast (t := 8) (i := 0) (k := k71) (n := 10) rfl rfl e72 e73 (by decide) ?_
      refine z_ev_gs 3 (c1 := (15, 68, [some (z_r 4 0), some (z_i (x1)), some (z_i (x2)), some (z_i (x3 + (1 : Int32))), some (z_i (x4)), some (z_i (x5 + (1 : Int32)))], [], (true, X, (z_up I 8 0 k71 x4), J))) rfl ?_
      exact h74
theorem z_q223_e {d : Nat} {r : Option z_V × z_M} {X : z_X} {I : Nat → Nat → Nat → Int32} {J : Nat → Nat → Nat → Int64} (x1 : Int32)
    (h : (∃ (v42 : Int32) (X37 : z_X) (I38 : Nat → Nat → Nat → Int32) (J39 : Nat → Nat → Nat → Int64), z_ev d (z_en 214 [z_r 33 0] (true, X, I, J)) (some (z_i (v42)), (true, X37, I38, J39)) ∧ z_ev (d + 1) (223, 10, [some (z_r 33 0), some (z_i (x1)), some (z_i (v42)), some (z_i (x1)), some (z_i 0), none], [], (true, X37, I38, J39)) r)) :
    z_ev (d + 1) (z_en 223 [z_r 33 0, z_i (x1)] (true, X, I, J)) r := by
  show z_ev (d + 1) (223, 0, [some (z_r 33 0), some (z_i (x1)), none, none, none, none], [], (true, X, I, J)) r
  refine z_ev_gs 1 (c1 := (223, 1, [some (z_r 33 0), some (z_i (x1)), none, none, none, none], [z_r 33 0], (true, X, I, J))) rfl ?_
  obtain ⟨v42, X37, I38, J39, g40, h41⟩ := h
  refine z_ev_ca rfl rfl g40 ?_
  refine z_ev_gs 5 (c1 := (223, 10, [some (z_r 33 0), some (z_i (x1)), some (z_i (v42)), some (z_i (x1)), some (z_i 0), none], [], (true, X37, I38, J39))) rfl ?_
  exact h41
theorem z_q223_10 {d : Nat} {r : Option z_V × z_M} {X : z_X} {I : Nat → Nat → Nat → Int32} {J : Nat → Nat → Nat → Int64} (x1 : Int32) (x2 : Int32) (x3 : Int32) (x4 : Int32)
    (h : (((I 33 0 4) ≤ x4 → z_ev (d + 1) (223, 71, [some (z_r 33 0), some (z_i (x1)), some (z_i (x2)), some (z_i (x3)), some (z_i (x4)), none], [], (true, X, I, J)) r) ∧ (x4 < (I 33 0 4) → (∃ k44 : Nat, x4 = Int32.ofNat k44 ∧ k44 < 5 ∧ (¬ x2 = 0 ∧ (¬ x2 = 0 ∧ z_ev (d + 1) (223, 10, [some (z_r 33 0), some (z_i (x1)), some (z_i (x2)), some (z_i (x3 - ((z_up I 49 0 k44 ((x1 * (I 37 0 k44)) / x2)) 49 0 k44))), some (z_i (x4 + (1 : Int32))), none], [], (true, X, (z_up (z_up I 49 0 k44 ((x1 * (I 37 0 k44)) / x2)) 50 0 k44 ((x1 * (I 37 0 k44)) - (x1 * (I 37 0 k44)) / x2 * x2)), J)) r)))))) :
    z_ev (d + 1) ((223, 10, [some (z_r 33 0), some (z_i (x1)), some (z_i (x2)), some (z_i (x3)), some (z_i (x4)), none], [], (true, X, I, J))) r := by
  refine z_ev_gs 4 (c1 := (223, (if (I 33 0 4) ≤ x4 then 71 else 19), [some (z_r 33 0), some (z_i (x1)), some (z_i (x2)), some (z_i (x3)), some (z_i (x4)), none], [], (true, X, I, J))) rfl ?_
  refine z_ev_ifle (fun e43 => ?_) (fun e43 => ?_)
  · have h50 := h.1 e43
    exact h50
  · have h51 := h.2 e43
    refine z_ev_gs 7 (c1 := (223, 32, [some (z_r 33 0), some (z_i (x1)), some (z_i (x2)), some (z_i (x3)), some (z_i (x4)), none], [z_i (x4), z_r 37 0, z_i (x1), z_i (x4), z_r 49 0], (true, X, I, J))) rfl ?_
    obtain ⟨k44, e45, e46, h47⟩ := h51
    refine z_ev_iald (t := 37) (i := 0) (k := k44) (n := 5) rfl rfl e45 e46 (by decide) ?_
    refine z_ev_gs 2 (c1 := (223, 35, [some (z_r 33 0), some (z_i (x1)), some (z_i (x2)), some (z_i (x3)), some (z_i (x4)), none], [z_i (x2), z_i (x1 * (I 37 0 k44)), z_i (x4), z_r 49 0], (true, X, I, J))) rfl ?_
    obtain ⟨g0, h49⟩ := h47
    refine z_ev_dvi (w1 := x2) (c1 := (223, 36, [some (z_r 33 0), some (z_i (x1)), some (z_i (x2)), some (z_i (x3)), some (z_i (x4)), none], [z_i ((x1 * (I 37 0 k44)) / x2), z_i (x4), z_r 49 0], (true, X, I, J))) rfl g0 ?_
    refine z_ev_iast (t := 49) (i := 0) (k := k44) (n := 5) rfl rfl e45 (Nat.lt_of_lt_of_le e46 (by decide)) (by decide) ?_
    refine z_ev_gs 7 (c1 := (223, 50, [some (z_r 33 0), some (z_i (x1)), some (z_i (x2)), some (z_i (x3)), some (z_i (x4)), none], [z_i (x4), z_r 37 0, z_i (x1), z_i (x4), z_r 50 0], (true, X, (z_up I 49 0 k44 ((x1 * (I 37 0 k44)) / x2)), J))) rfl ?_
    refine z_ev_iald (t := 37) (i := 0) (k := k44) (n := 5) rfl rfl e45 (Nat.lt_of_lt_of_le e46 (by decide)) (by decide) ?_
    refine z_ev_gs 2 (c1 := (223, 53, [some (z_r 33 0), some (z_i (x1)), some (z_i (x2)), some (z_i (x3)), some (z_i (x4)), none], [z_i (x2), z_i (x1 * (I 37 0 k44)), z_i (x4), z_r 50 0], (true, X, (z_up I 49 0 k44 ((x1 * (I 37 0 k44)) / x2)), J))) rfl ?_
    obtain ⟨g0, h48⟩ := h49
    refine z_ev_dvi (w1 := x2) (c1 := (223, 54, [some (z_r 33 0), some (z_i (x1)), some (z_i (x2)), some (z_i (x3)), some (z_i (x4)), none], [z_i ((x1 * (I 37 0 k44)) - (x1 * (I 37 0 k44)) / x2 * x2), z_i (x4), z_r 50 0], (true, X, (z_up I 49 0 k44 ((x1 * (I 37 0 k44)) / x2)), J))) rfl g0 ?_
    refine z_ev_iast (t := 50) (i := 0) (k := k44) (n := 5) rfl rfl e45 (Nat.lt_of_lt_of_le e46 (by decide)) (by decide) ?_
    refine z_ev_gs 4 (c1 := (223, 62, [some (z_r 33 0), some (z_i (x1)), some (z_i (x2)), some (z_i (x3)), some (z_i (x4)), none], [z_i (x4), z_r 49 0, z_i (x3)], (true, X, (z_up (z_up I 49 0 k44 ((x1 * (I 37 0 k44)) / x2)) 50 0 k44 ((x1 * (I 37 0 k44)) - (x1 * (I 37 0 k44)) / x2 * x2)), J))) rfl ?_
    refine z_ev_iald (t := 49) (i := 0) (k := k44) (n := 5) rfl rfl e45 (Nat.lt_of_lt_of_le e46 (by decide)) (by decide) ?_
    refine z_ev_gs 4 (c1 := (223, 10, [some (z_r 33 0), some (z_i (x1)), some (z_i (x2)), some (z_i (x3 - ((z_up I 49 0 k44 ((x1 * (I 37 0 k44)) / x2)) 49 0 k44))), some (z_i (x4 + (1 : Int32))), none], [], (true, X, (z_up (z_up I 49 0 k44 ((x1 * (I 37 0 k44)) / x2)) 50 0 k44 ((x1 * (I 37 0 k44)) - (x1 * (I 37 0 k44)) / x2 * x2)), J))) rfl ?_
    exact h48
theorem z_q223_71 {d : Nat} {r : Option z_V × z_M} {X : z_X} {I : Nat → Nat → Nat → Int32} {J : Nat → Nat → Nat → Int64} (x1 : Int32) (x2 : Int32) (x3 : Int32) (x4 : Int32) (o5 : Option z_V)
    (h : ((x3 ≤ 0 → r = (none, (true, X, I, J))) ∧ (0 < x3 → z_ev (d + 1) (223, 81, [some (z_r 33 0), some (z_i (x1)), some (z_i (x2)), some (z_i (x3)), some (z_i 0), some (z_i 1)], [], (true, X, I, J)) r))) :
    z_ev (d + 1) ((223, 71, [some (z_r 33 0), some (z_i (x1)), some (z_i (x2)), some (z_i (x3)), some (z_i (x4)), o5], [], (true, X, I, J))) r := by
  refine z_ev_gs 2 (c1 := (223, (if x3 ≤ 0 then 147 else 75), [some (z_r 33 0), some (z_i (x1)), some (z_i (x2)), some (z_i (x3)), some (z_i (x4)), o5], [], (true, X, I, J))) rfl ?_
  refine z_ev_ifle (fun e52 => ?_) (fun e52 => ?_)
  · have h53 := h.1 e52
    rw [h53]
    exact z_ev_rt rfl
  · have h54 := h.2 e52
    refine z_ev_gs 4 (c1 := (223, 81, [some (z_r 33 0), some (z_i (x1)), some (z_i (x2)), some (z_i (x3)), some (z_i 0), some (z_i 1)], [], (true, X, I, J))) rfl ?_
    exact h54
theorem z_q223_81 {d : Nat} {r : Option z_V × z_M} {X : z_X} {I : Nat → Nat → Nat → Int32} {J : Nat → Nat → Nat → Int64} (x1 : Int32) (x2 : Int32) (x3 : Int32) (x4 : Int32) (x5 : Int32)
    (h : (((I 33 0 4) ≤ x5 → (∃ k56 : Nat, x4 = Int32.ofNat k56 ∧ k56 < 5 ∧ z_ev (d + 1) (223, 71, [some (z_r 33 0), some (z_i (x1)), some (z_i (x2)), some (z_i (x3 + (-1 : Int32))), some (z_i (x4)), some (z_i (x5))], [], (true, X, (z_up (z_up I 49 0 k56 ((I 49 0 k56) + (1 : Int32))) 50 0 k56 (-1 : Int32)), J)) r)) ∧ (x5 < (I 33 0 4) → (∃ k60 : Nat, x5 = Int32.ofNat k60 ∧ k60 < 5 ∧ (∃ k64 : Nat, x4 = Int32.ofNat k64 ∧ k64 < 5 ∧ (((I 50 0 k60) ≤ (I 50 0 k64) → z_ev (d + 1) (223, 81, [some (z_r 33 0), some (z_i (x1)), some (z_i (x2)), some (z_i (x3)), some (z_i (x4)), some (z_i (x5 + (1 : Int32)))], [], (true, X, I, J)) r) ∧ ((I 50 0 k64) < (I 50 0 k60) → z_ev (d + 1) (223, 81, [some (z_r 33 0), some (z_i (x1)), some (z_i (x2)), some (z_i (x3)), some (z_i (x5)), some (z_i (x5 + (1 : Int32)))], [], (true, X, I, J)) r))))))) :
    z_ev (d + 1) ((223, 81, [some (z_r 33 0), some (z_i (x1)), some (z_i (x2)), some (z_i (x3)), some (z_i (x4)), some (z_i (x5))], [], (true, X, I, J))) r := by
  refine z_ev_gs 4 (c1 := (223, (if (I 33 0 4) ≤ x5 then 122 else 90), [some (z_r 33 0), some (z_i (x1)), some (z_i (x2)), some (z_i (x3)), some (z_i (x4)), some (z_i (x5))], [], (true, X, I, J))) rfl ?_
  refine z_ev_ifle (fun e55 => ?_) (fun e55 => ?_)
  · have h71 := h.1 e55
    refine z_ev_gs 4 (c1 := (223, 129, [some (z_r 33 0), some (z_i (x1)), some (z_i (x2)), some (z_i (x3)), some (z_i (x4)), some (z_i (x5))], [z_i (x4), z_r 49 0, z_i (x4), z_r 49 0], (true, X, I, J))) rfl ?_
    obtain ⟨k56, e57, e58, h59⟩ := h71
    refine z_ev_iald (t := 49) (i := 0) (k := k56) (n := 5) rfl rfl e57 e58 (by decide) ?_
    refine z_ev_gs 2 (c1 := (223, 132, [some (z_r 33 0), some (z_i (x1)), some (z_i (x2)), some (z_i (x3)), some (z_i (x4)), some (z_i (x5))], [z_i ((I 49 0 k56) + (1 : Int32)), z_i (x4), z_r 49 0], (true, X, I, J))) rfl ?_
    refine z_ev_iast (t := 49) (i := 0) (k := k56) (n := 5) rfl rfl e57 (Nat.lt_of_lt_of_le e58 (by decide)) (by decide) ?_
    refine z_ev_gs 4 (c1 := (223, 140, [some (z_r 33 0), some (z_i (x1)), some (z_i (x2)), some (z_i (x3)), some (z_i (x4)), some (z_i (x5))], [z_i (-1), z_i (x4), z_r 50 0], (true, X, (z_up I 49 0 k56 ((I 49 0 k56) + (1 : Int32))), J))) rfl ?_
    refine z_ev_iast (t := 50) (i := 0) (k := k56) (n := 5) rfl rfl e57 (Nat.lt_of_lt_of_le e58 (by decide)) (by decide) ?_
    refine z_ev_gs 2 (c1 := (223, 71, [some (z_r 33 0), some (z_i (x1)), some (z_i (x2)), some (z_i (x3 + (-1 : Int32))), some (z_i (x4)), some (z_i (x5))], [], (true, X, (z_up (z_up I 49 0 k56 ((I 49 0 k56) + (1 : Int32))) 50 0 k56 (-1 : Int32)), J))) rfl ?_
    exact h59
  · have h72 := h.2 e55
    refine z_ev_gs 3 (c1 := (223, 96, [some (z_r 33 0), some (z_i (x1)), some (z_i (x2)), some (z_i (x3)), some (z_i (x4)), some (z_i (x5))], [z_i (x5), z_r 50 0], (true, X, I, J))) rfl ?_
    obtain ⟨k60, e61, e62, h63⟩ := h72
    refine z_ev_iald (t := 50) (i := 0) (k := k60) (n := 5) rfl rfl e61 e62 (by decide) ?_
    refine z_ev_gs 3 (c1 := (223, 103, [some (z_r 33 0), some (z_i (x1)), some (z_i (x2)), some (z_i (x3)), some (z_i (x4)), some (z_i (x5))], [z_i (x4), z_r 50 0, z_i (I 50 0 k60)], (true, X, I, J))) rfl ?_
    obtain ⟨k64, e65, e66, h67⟩ := h63
    refine z_ev_iald (t := 50) (i := 0) (k := k64) (n := 5) rfl rfl e65 e66 (by decide) ?_
    refine z_ev_gs 1 (c1 := (223, (if (I 50 0 k60) ≤ (I 50 0 k64) then 112 else 107), [some (z_r 33 0), some (z_i (x1)), some (z_i (x2)), some (z_i (x3)), some (z_i (x4)), some (z_i (x5))], [], (true, X, I, J))) rfl ?_
    refine z_ev_ifle (fun e68 => ?_) (fun e68 => ?_)
    · have h69 := h67.1 e68
      refine z_ev_gs 4 (c1 := (223, 81, [some (z_r 33 0), some (z_i (x1)), some (z_i (x2)), some (z_i (x3)), some (z_i (x4)), some (z_i (x5 + (1 : Int32)))], [], (true, X, I, J))) rfl ?_
      exact h69
    · have h70 := h67.2 e68
      refine z_ev_gs 5 (c1 := (223, 81, [some (z_r 33 0), some (z_i (x1)), some (z_i (x2)), some (z_i (x3)), some (z_i (x5)), some (z_i (x5 + (1 : Int32)))], [], (true, X, I, J))) rfl ?_
      exact h70
theorem z_q145_e {d : Nat} {r : Option z_V × z_M} {X : z_X} {I : Nat → Nat → Nat → Int32} {J : Nat → Nat → Nat → Int64} (x1 : Int32)
    (h : ((x1 = 0 → r = (some (z_i 0), (true, X, I, J))) ∧ (¬ x1 = 0 → ((¬ x1 = (4 : Int32) → (∃ (v8 : Int32) (X3 : z_X) (I4 : Nat → Nat → Nat → Int32) (J5 : Nat → Nat → Nat → Int64), z_ev d (z_en 65 [z_r 1 0] (true, X, I, J)) (some (z_i (v8)), (true, X3, I4, J5)) ∧ ((x1 ≤ (v8 - v8 / (4 : Int32) * (4 : Int32)) → r = (some (z_i 0), (true, X3, I4, J5))) ∧ ((v8 - v8 / (4 : Int32) * (4 : Int32)) < x1 → r = (some (z_i 1), (true, X3, I4, J5)))))) ∧ (x1 = (4 : Int32) → r = (some (z_i 1), (true, X, I, J))))))) :
    z_ev (d + 1) (z_en 145 [z_r 0 0, z_i (x1)] (true, X, I, J)) r := by
  show z_ev (d + 1) (145, 0, [some (z_r 0 0), some (z_i (x1))], [], (true, X, I, J)) r
  refine z_ev_gs 2 (c1 := (145, (if x1 = 0 then 9 else 4), [some (z_r 0 0), some (z_i (x1))], [], (true, X, I, J))) rfl ?_
  refine z_ev_if (fun e1 => ?_) (fun e1 => ?_)
  · have h14 := h.1 e1
    refine z_ev_gs 3 (c1 := (145, (if ¬ x1 = (4 : Int32) then 18 else 14), [some (z_r 0 0), some (z_i (x1))], [], (true, X, I, J))) rfl ?_
    rw [if_pos (fun q8 => absurd (e1.symm.trans q8) (by decide))]
    refine z_ev_gs 1 (c1 := (145, 19, [some (z_r 0 0), some (z_i (x1))], [z_i 0], (true, X, I, J))) rfl ?_
    rw [h14]
    exact z_ev_rt rfl
  · have h15 := h.2 e1
    refine z_ev_gs 3 (c1 := (145, (if ¬ x1 = (4 : Int32) then 20 else 9), [some (z_r 0 0), some (z_i (x1))], [], (true, X, I, J))) rfl ?_
    refine z_ev_ifn (fun e2 => ?_) (fun e2 => ?_)
    · have h12 := h15.1 e2
      refine z_ev_gs 2 (c1 := (145, 24, [some (z_r 0 0), some (z_i (x1))], [z_r 1 0], (true, X, I, J))) rfl ?_
      obtain ⟨v8, X3, I4, J5, g6, h7⟩ := h12
      refine z_ev_ca rfl rfl g6 ?_
      refine z_ev_gs 1 (c1 := (145, 28, [some (z_r 0 0), some (z_i (x1))], [z_i 4, z_i (v8)], (true, X3, I4, J5))) rfl ?_
      refine z_ev_dvi (w1 := (4 : Int32)) (c1 := (145, 29, [some (z_r 0 0), some (z_i (x1))], [z_i (v8 - v8 / (4 : Int32) * (4 : Int32))], (true, X3, I4, J5))) rfl (by decide) ?_
      refine z_ev_gs 2 (c1 := (145, (if x1 ≤ (v8 - v8 / (4 : Int32) * (4 : Int32)) then 37 else 33), [some (z_r 0 0), some (z_i (x1))], [], (true, X3, I4, J5))) rfl ?_
      refine z_ev_ifle (fun e9 => ?_) (fun e9 => ?_)
      · have h10 := h7.1 e9
        refine z_ev_gs 1 (c1 := (145, 38, [some (z_r 0 0), some (z_i (x1))], [z_i 0], (true, X3, I4, J5))) rfl ?_
        rw [h10]
        exact z_ev_rt rfl
      · have h11 := h7.2 e9
        refine z_ev_gs 2 (c1 := (145, 38, [some (z_r 0 0), some (z_i (x1))], [z_i 1], (true, X3, I4, J5))) rfl ?_
        rw [h11]
        exact z_ev_rt rfl
    · have h13 := h15.2 e2
      refine z_ev_gs 3 (c1 := (145, (if ¬ x1 = (4 : Int32) then 18 else 14), [some (z_r 0 0), some (z_i (x1))], [], (true, X, I, J))) rfl ?_
      rw [if_neg (fun q9 => q9 e2)]
      refine z_ev_gs 2 (c1 := (145, 19, [some (z_r 0 0), some (z_i (x1))], [z_i 1], (true, X, I, J))) rfl ?_
      rw [h13]
      exact z_ev_rt rfl
theorem z_q90_e {d : Nat} {r : Option z_V × z_M} {X : z_X} {I : Nat → Nat → Nat → Int32} {J : Nat → Nat → Nat → Int64} (x1 : Int32) (x2 : Int32)
    (h : (((z_bw x1 0 3) = false → r = (some (z_i (-1)), (true, X, I, J))) ∧ ((z_bw x1 0 3) = true → ((x2 < (1 : Int32) → r = (some (z_i (-1)), (true, X, I, J))) ∧ ((1 : Int32) ≤ x2 → ((x2 ≤ (10 : Int32) → ((¬ (I 4 0 2) = 0 → (∃ k68 : Nat, x1 = Int32.ofNat k68 ∧ k68 < 4 ∧ (∃ (X72 : z_X) (I73 : Nat → Nat → Nat → Int32) (J74 : Nat → Nat → Nat → Int64), z_ev (d + 2) (z_en 19 [z_r 13 k68, z_i (x2)] (true, X, I, J)) (none, (true, X72, I73, J74)) ∧ (∃ (X77 : z_X) (I78 : Nat → Nat → Nat → Int32) (J79 : Nat → Nat → Nat → Int64), z_ev (d + 2) (z_en 15 [z_r 4 0, z_i (x2)] (true, X72, I73, J74)) (none, (true, X77, I78, J79)) ∧ z_ev (d + 3) (90, 63, [some (z_r 0 0), some (z_i (x1)), some (z_i (x2)), some (z_r 4 0), some (z_r 13 k68), some (z_i 1), none], [], (true, X77, I78, J79)) r)))) ∧ ((I 4 0 2) = 0 → r = (some (z_i (-3)), (true, X, I, J))))) ∧ ((10 : Int32) < x2 → r = (some (z_i (-1)), (true, X, I, J))))))))) :
    z_ev (d + 3) (z_en 90 [z_r 0 0, z_i (x1), z_i (x2)] (true, X, I, J)) r := by
  show z_ev (d + 3) (90, 0, [some (z_r 0 0), some (z_i (x1)), some (z_i (x2)), none, none, none, none], [], (true, X, I, J)) r
  refine z_ev_gs 1 (c1 := (90, 1, [some (z_r 0 0), some (z_i (x1)), some (z_i (x2)), none, none, none, none], [z_i (x1)], (true, X, I, J))) rfl ?_
  refine z_ev_ca rfl rfl (z_p118 _) ?_
  refine z_ev_gs 1 (c1 := (90, (if z_c (z_bw x1 0 3) = 0 then 18 else 7), [some (z_r 0 0), some (z_i (x1)), some (z_i (x2)), none, none, none, none], [], (true, X, I, J))) rfl ?_
  refine z_ev_ifc (fun e64 => ?_) (fun e64 => ?_)
  · have h88 := h.1 e64
    refine z_ev_gs 1 (c1 := (90, 19, [some (z_r 0 0), some (z_i (x1)), some (z_i (x2)), none, none, none, none], [z_i (-1)], (true, X, I, J))) rfl ?_
    rw [h88]
    exact z_ev_rt rfl
  · have h89 := h.2 e64
    refine z_ev_gs 3 (c1 := (90, (if x2 < (1 : Int32) then 18 else 12), [some (z_r 0 0), some (z_i (x1)), some (z_i (x2)), none, none, none, none], [], (true, X, I, J))) rfl ?_
    refine z_ev_iflt (fun e65 => ?_) (fun e65 => ?_)
    · have h86 := h89.1 e65
      refine z_ev_gs 1 (c1 := (90, 19, [some (z_r 0 0), some (z_i (x1)), some (z_i (x2)), none, none, none, none], [z_i (-1)], (true, X, I, J))) rfl ?_
      rw [h86]
      exact z_ev_rt rfl
    · have h87 := h89.2 e65
      refine z_ev_gs 3 (c1 := (90, (if x2 ≤ (10 : Int32) then 20 else 18), [some (z_r 0 0), some (z_i (x1)), some (z_i (x2)), none, none, none, none], [], (true, X, I, J))) rfl ?_
      refine z_ev_ifle (fun e66 => ?_) (fun e66 => ?_)
      · have h84 := h87.1 e66
        refine z_ev_gs 7 (c1 := (90, (if ¬ (I 4 0 2) = 0 then 38 else 35), [some (z_r 0 0), some (z_i (x1)), some (z_i (x2)), some (z_r 4 0), none, none, none], [], (true, X, I, J))) rfl ?_
        refine z_ev_ifn (fun e67 => ?_) (fun e67 => ?_)
        · have h82 := h84.1 e67
          refine z_ev_gs 4 (c1 := (90, 46, [some (z_r 0 0), some (z_i (x1)), some (z_i (x2)), some (z_r 4 0), none, none, none], [z_i (x1), z_r 2 0], (true, X, I, J))) rfl ?_
          obtain ⟨k68, e69, e70, h71⟩ := h82
          refine z_ev_nt0 (k := k68) rfl e69 e70 ?_
          refine z_ev_gs 3 (c1 := (90, 52, [some (z_r 0 0), some (z_i (x1)), some (z_i (x2)), some (z_r 4 0), some (z_r 13 k68), none, none], [z_i (x2), z_r 13 k68], (true, X, I, J))) rfl ?_
          obtain ⟨X72, I73, J74, g75, h76⟩ := h71
          refine z_ev_cg rfl (z_lt40 e70) rfl g75 ?_
          refine z_ev_gs 2 (c1 := (90, 57, [some (z_r 0 0), some (z_i (x1)), some (z_i (x2)), some (z_r 4 0), some (z_r 13 k68), none, none], [z_i (x2), z_r 4 0], (true, X72, I73, J74))) rfl ?_
          obtain ⟨X77, I78, J79, g80, h81⟩ := h76
          refine z_ev_ca rfl rfl g80 ?_
          refine z_ev_gs 2 (c1 := (90, 63, [some (z_r 0 0), some (z_i (x1)), some (z_i (x2)), some (z_r 4 0), some (z_r 13 k68), some (z_i 1), none], [], (true, X77, I78, J79))) rfl ?_
          exact h81
        · have h83 := h84.2 e67
          refine z_ev_gs 1 (c1 := (90, 37, [some (z_r 0 0), some (z_i (x1)), some (z_i (x2)), some (z_r 4 0), none, none, none], [z_i (-3)], (true, X, I, J))) rfl ?_
          rw [h83]
          exact z_ev_rt rfl
      · have h85 := h87.2 e66
        refine z_ev_gs 1 (c1 := (90, 19, [some (z_r 0 0), some (z_i (x1)), some (z_i (x2)), none, none, none, none], [z_i (-1)], (true, X, I, J))) rfl ?_
        rw [h85]
        exact z_ev_rt rfl
theorem z_q90_63 {d : Nat} {r : Option z_V × z_M} {X : z_X} {I : Nat → Nat → Nat → Int32} {J : Nat → Nat → Nat → Int64} (x1 : Int32) (x2 : Int32) (q4 : Nat) (hq4 : q4 < 10) (x5 : Int32) (o6 : Option z_V)
    (h : ((x2 ≤ x5 → (∃ (v96 : Int32) (X91 : z_X) (I92 : Nat → Nat → Nat → Int32) (J93 : Nat → Nat → Nat → Int64), z_ev (d + 2) (z_en 26 [z_r 13 q4] (true, X, I, J)) (some (z_i (v96)), (true, X91, I92, J93)) ∧ r = (some (z_i (v96)), (true, X91, I92, J93)))) ∧ (x5 < x2 → z_ev (d + 3) (90, 72, [some (z_r 0 0), some (z_i (x1)), some (z_i (x2)), some (z_r 4 0), some (z_r 13 q4), some (z_i (x5)), some (z_i 0)], [], (true, X, I, J)) r))) :
    z_ev (d + 3) ((90, 63, [some (z_r 0 0), some (z_i (x1)), some (z_i (x2)), some (z_r 4 0), some (z_r 13 q4), some (z_i (x5)), o6], [], (true, X, I, J))) r := by
  refine z_ev_gs 3 (c1 := (90, (if x2 ≤ x5 then 122 else 69), [some (z_r 0 0), some (z_i (x1)), some (z_i (x2)), some (z_r 4 0), some (z_r 13 q4), some (z_i (x5)), o6], [], (true, X, I, J))) rfl ?_
  refine z_ev_ifle (fun e90 => ?_) (fun e90 => ?_)
  · have h97 := h.1 e90
    refine z_ev_gs 1 (c1 := (90, 124, [some (z_r 0 0), some (z_i (x1)), some (z_i (x2)), some (z_r 4 0), some (z_r 13 q4), some (z_i (x5)), o6], [z_r 13 q4], (true, X, I, J))) rfl ?_
    obtain ⟨v96, X91, I92, J93, g94, h95⟩ := h97
    refine z_ev_cg rfl hq4 rfl g94 ?_
    rw [h95]
    exact z_ev_rt rfl
  · have h98 := h.2 e90
    refine z_ev_gs 2 (c1 := (90, 72, [some (z_r 0 0), some (z_i (x1)), some (z_i (x2)), some (z_r 4 0), some (z_r 13 q4), some (z_i (x5)), some (z_i 0)], [], (true, X, I, J))) rfl ?_
    exact h98
theorem z_q90_72 {d : Nat} {r : Option z_V × z_M} {X : z_X} {I : Nat → Nat → Nat → Int32} {J : Nat → Nat → Nat → Int64} (x1 : Int32) (x2 : Int32) (q4 : Nat) (hq4 : q4 < 10) (x5 : Int32) (x6 : Int32)
    (h : ((x5 ≤ x6 → z_ev (d + 3) (90, 63, [some (z_r 0 0), some (z_i (x1)), some (z_i (x2)), some (z_r 4 0), some (z_r 13 q4), some (z_i (x5 + (1 : Int32))), some (z_i (x6))], [], (true, X, I, J)) r) ∧ (x6 < x5 → (∃ k100 : Nat, x6 = Int32.ofNat k100 ∧ k100 < 10 ∧ (∃ k104 : Nat, x5 = Int32.ofNat k104 ∧ k104 < 10 ∧ (∃ (v113 : Int32) (X108 : z_X) (I109 : Nat → Nat → Nat → Int32) (J110 : Nat → Nat → Nat → Int64), z_ev (d + 2) (z_en 7 [z_r 4 0, z_i (I 8 0 k100), z_i (I 8 0 k104)] (true, X, I, J)) (some (z_i (v113)), (true, X108, I109, J110)) ∧ (∃ (b119 : Bool) (X114 : z_X) (I115 : Nat → Nat → Nat → Int32) (J116 : Nat → Nat → Nat → Int64), z_ev (d + 2) (z_en 145 [z_r 0 0, z_i (v113)] (true, X108, I109, J110)) (some (z_i (z_c b119)), (true, X114, I115, J116)) ∧ (∃ (X120 : z_X) (I121 : Nat → Nat → Nat → Int32) (J122 : Nat → Nat → Nat → Int64), z_ev (d + 2) (z_en 23 [z_r 13 q4, z_i (x6), z_i (x5), z_i (z_c b119)] (true, X114, I115, J116)) (none, (true, X120, I121, J122)) ∧ z_ev (d + 3) (90, 72, [some (z_r 0 0), some (z_i (x1)), some (z_i (x2)), some (z_r 4 0), some (z_r 13 q4), some (z_i (x5)), some (z_i (x6 + (1 : Int32)))], [], (true, X120, I121, J122)) r)))))))) :
    z_ev (d + 3) ((90, 72, [some (z_r 0 0), some (z_i (x1)), some (z_i (x2)), some (z_r 4 0), some (z_r 13 q4), some (z_i (x5)), some (z_i (x6))], [], (true, X, I, J))) r := by
  refine z_ev_gs 3 (c1 := (90, (if x5 ≤ x6 then 116 else 79), [some (z_r 0 0), some (z_i (x1)), some (z_i (x2)), some (z_r 4 0), some (z_r 13 q4), some (z_i (x5)), some (z_i (x6))], [], (true, X, I, J))) rfl ?_
  refine z_ev_ifle (fun e99 => ?_) (fun e99 => ?_)
  · have h125 := h.1 e99
    refine z_ev_gs 2 (c1 := (90, 63, [some (z_r 0 0), some (z_i (x1)), some (z_i (x2)), some (z_r 4 0), some (z_r 13 q4), some (z_i (x5 + (1 : Int32))), some (z_i (x6))], [], (true, X, I, J))) rfl ?_
    exact h125
  · have h126 := h.2 e99
    refine z_ev_gs 8 (c1 := (90, 93, [some (z_r 0 0), some (z_i (x1)), some (z_i (x2)), some (z_r 4 0), some (z_r 13 q4), some (z_i (x5)), some (z_i (x6))], [z_i (x6), z_r 8 0, z_r 4 0, z_r 0 0, z_i (x5), z_i (x6), z_r 13 q4], (true, X, I, J))) rfl ?_
    obtain ⟨k100, e101, e102, h103⟩ := h126
    refine z_ev_iald (t := 8) (i := 0) (k := k100) (n := 10) rfl rfl e101 e102 (by decide) ?_
    refine z_ev_gs 3 (c1 := (90, 100, [some (z_r 0 0), some (z_i (x1)), some (z_i (x2)), some (z_r 4 0), some (z_r 13 q4), some (z_i (x5)), some (z_i (x6))], [z_i (x5), z_r 8 0, z_i (I 8 0 k100), z_r 4 0, z_r 0 0, z_i (x5), z_i (x6), z_r 13 q4], (true, X, I, J))) rfl ?_
    obtain ⟨k104, e105, e106, h107⟩ := h103
    refine z_ev_iald (t := 8) (i := 0) (k := k104) (n := 10) rfl rfl e105 e106 (by decide) ?_
    obtain ⟨v113, X108, I109, J110, g111, h112⟩ := h107
    refine z_ev_ca rfl rfl g111 ?_
    obtain ⟨b119, X114, I115, J116, g117, h118⟩ := h112
    refine z_ev_ca rfl rfl g117 ?_
    obtain ⟨X120, I121, J122, g123, h124⟩ := h118
    refine z_ev_cg rfl hq4 rfl g123 ?_
    refine z_ev_gs 2 (c1 := (90, 72, [some (z_r 0 0), some (z_i (x1)), some (z_i (x2)), some (z_r 4 0), some (z_r 13 q4), some (z_i (x5)), some (z_i (x6 + (1 : Int32)))], [], (true, X120, I121, J122))) rfl ?_
    exact h124
theorem z_q224_e {d : Nat} {r : Option z_V × z_M} {X : z_X} {I : Nat → Nat → Nat → Int32} {J : Nat → Nat → Nat → Int64} (x1 : Int32) (x2 : Int32)
    (h : (((z_bw x1 0 3) = false → r = (some (z_i (-1)), (true, X, I, J))) ∧ ((z_bw x1 0 3) = true → (((z_bw x2 (1 : Int32) (10 : Int32)) = true → ((¬ (I 33 0 4) = 0 → (∃ (X188 : z_X) (I189 : Nat → Nat → Nat → Int32) (J190 : Nat → Nat → Nat → Int64), z_ev (d + 1) (z_en 223 [z_r 33 0, z_i (x2)] (true, X, I, J)) (none, (true, X188, I189, J190)) ∧ (∃ (X193 : z_X) (I194 : Nat → Nat → Nat → Int32) (J195 : Nat → Nat → Nat → Int64), z_ev (d + 1) (z_en 169 [z_r 33 0, z_i (x1), z_i (x2)] (true, X188, I189, J190)) (none, (true, X193, I194, J195)) ∧ z_ev (d + 2) (224, 45, [some (z_r 33 0), some (z_i (x1)), some (z_i (x2)), some (z_i 0), some (z_i 0), none, none, none], [], (true, X193, I194, J195)) r))) ∧ ((I 33 0 4) = 0 → r = (some (z_i (-3)), (true, X, I, J))))) ∧ ((z_bw x2 (1 : Int32) (10 : Int32)) = false → r = (some (z_i (-1)), (true, X, I, J))))))) :
    z_ev (d + 2) (z_en 224 [z_r 33 0, z_i (x1), z_i (x2)] (true, X, I, J)) r := by
  show z_ev (d + 2) (224, 0, [some (z_r 33 0), some (z_i (x1)), some (z_i (x2)), none, none, none, none, none], [], (true, X, I, J)) r
  refine z_ev_gs 1 (c1 := (224, 1, [some (z_r 33 0), some (z_i (x1)), some (z_i (x2)), none, none, none, none, none], [z_i (x1)], (true, X, I, J))) rfl ?_
  refine z_ev_ca rfl rfl (z_p162 _) ?_
  refine z_ev_gs 1 (c1 := (224, (if z_c (z_bw x1 0 3) = 0 then 17 else 7), [some (z_r 33 0), some (z_i (x1)), some (z_i (x2)), none, none, none, none, none], [], (true, X, I, J))) rfl ?_
  refine z_ev_ifc (fun e185 => ?_) (fun e185 => ?_)
  · have h202 := h.1 e185
    refine z_ev_gs 1 (c1 := (224, 18, [some (z_r 33 0), some (z_i (x1)), some (z_i (x2)), none, none, none, none, none], [z_i (-1)], (true, X, I, J))) rfl ?_
    rw [h202]
    exact z_ev_rt rfl
  · have h203 := h.2 e185
    refine z_ev_gs 3 (c1 := (224, 11, [some (z_r 33 0), some (z_i (x1)), some (z_i (x2)), none, none, none, none, none], [z_i 10, z_i 1, z_i (x2)], (true, X, I, J))) rfl ?_
    refine z_ev_ca rfl rfl (z_p158 _ _ _) ?_
    refine z_ev_gs 1 (c1 := (224, (if ¬ z_c (z_bw x2 (1 : Int32) (10 : Int32)) = 0 then 19 else 17), [some (z_r 33 0), some (z_i (x1)), some (z_i (x2)), none, none, none, none, none], [], (true, X, I, J))) rfl ?_
    refine z_ev_ifcn (fun e186 => ?_) (fun e186 => ?_)
    · have h200 := h203.1 e186
      refine z_ev_gs 3 (c1 := (224, (if ¬ (I 33 0 4) = 0 then 29 else 26), [some (z_r 33 0), some (z_i (x1)), some (z_i (x2)), none, none, none, none, none], [], (true, X, I, J))) rfl ?_
      refine z_ev_ifn (fun e187 => ?_) (fun e187 => ?_)
      · have h198 := h200.1 e187
        refine z_ev_gs 2 (c1 := (224, 31, [some (z_r 33 0), some (z_i (x1)), some (z_i (x2)), none, none, none, none, none], [z_i (x2), z_r 33 0], (true, X, I, J))) rfl ?_
        obtain ⟨X188, I189, J190, g191, h192⟩ := h198
        refine z_ev_ca rfl rfl g191 ?_
        refine z_ev_gs 3 (c1 := (224, 37, [some (z_r 33 0), some (z_i (x1)), some (z_i (x2)), none, none, none, none, none], [z_i (x2), z_i (x1), z_r 33 0], (true, X188, I189, J190))) rfl ?_
        obtain ⟨X193, I194, J195, g196, h197⟩ := h192
        refine z_ev_ca rfl rfl g196 ?_
        refine z_ev_gs 4 (c1 := (224, 45, [some (z_r 33 0), some (z_i (x1)), some (z_i (x2)), some (z_i 0), some (z_i 0), none, none, none], [], (true, X193, I194, J195))) rfl ?_
        exact h197
      · have h199 := h200.2 e187
        refine z_ev_gs 1 (c1 := (224, 28, [some (z_r 33 0), some (z_i (x1)), some (z_i (x2)), none, none, none, none, none], [z_i (-3)], (true, X, I, J))) rfl ?_
        rw [h199]
        exact z_ev_rt rfl
    · have h201 := h203.2 e186
      refine z_ev_gs 1 (c1 := (224, 18, [some (z_r 33 0), some (z_i (x1)), some (z_i (x2)), none, none, none, none, none], [z_i (-1)], (true, X, I, J))) rfl ?_
      rw [h201]
      exact z_ev_rt rfl
theorem z_q224_45 {d : Nat} {r : Option z_V × z_M} {X : z_X} {I : Nat → Nat → Nat → Int32} {J : Nat → Nat → Nat → Int64} (x1 : Int32) (x2 : Int32) (x3 : Int32) (x4 : Int32) (o5 : Option z_V)
    (h : (((I 33 0 4) ≤ x4 → z_ev (d + 2) (224, 95, [some (z_r 33 0), some (z_i (x1)), some (z_i (x2)), some (z_i (x3)), some (z_i 1), o5, none, none], [], (true, X, I, J)) r) ∧ (x4 < (I 33 0 4) → z_ev (d + 2) (224, 57, [some (z_r 33 0), some (z_i (x1)), some (z_i (x2)), some (z_i (x3)), some (z_i (x4)), some (z_i 0), none, none], [], (true, X, I, J)) r))) :
    z_ev (d + 2) ((224, 45, [some (z_r 33 0), some (z_i (x1)), some (z_i (x2)), some (z_i (x3)), some (z_i (x4)), o5, none, none], [], (true, X, I, J))) r := by
  refine z_ev_gs 4 (c1 := (224, (if (I 33 0 4) ≤ x4 then 92 else 54), [some (z_r 33 0), some (z_i (x1)), some (z_i (x2)), some (z_i (x3)), some (z_i (x4)), o5, none, none], [], (true, X, I, J))) rfl ?_
  refine z_ev_ifle (fun e204 => ?_) (fun e204 => ?_)
  · have h205 := h.1 e204
    refine z_ev_gs 2 (c1 := (224, 95, [some (z_r 33 0), some (z_i (x1)), some (z_i (x2)), some (z_i (x3)), some (z_i 1), o5, none, none], [], (true, X, I, J))) rfl ?_
    exact h205
  · have h206 := h.2 e204
    refine z_ev_gs 2 (c1 := (224, 57, [some (z_r 33 0), some (z_i (x1)), some (z_i (x2)), some (z_i (x3)), some (z_i (x4)), some (z_i 0), none, none], [], (true, X, I, J))) rfl ?_
    exact h206
theorem z_q224_95 {d : Nat} {r : Option z_V × z_M} {X : z_X} {I : Nat → Nat → Nat → Int32} {J : Nat → Nat → Nat → Int64} (x1 : Int32) (x2 : Int32) (x3 : Int32) (x4 : Int32) (o5 : Option z_V) (o6 : Option z_V) (o7 : Option z_V)
    (h : ((x2 ≤ x4 → (∃ (v213 : Int32) (X208 : z_X) (I209 : Nat → Nat → Nat → Int32) (J210 : Nat → Nat → Nat → Int64), z_ev (d + 1) (z_en 171 [z_r 33 0, z_i (x1)] (true, X, I, J)) (some (z_i (v213)), (true, X208, I209, J210)) ∧ r = (some (z_i (v213)), (true, X208, I209, J210)))) ∧ (x4 < x2 → z_ev (d + 2) (224, 104, [some (z_r 33 0), some (z_i (x1)), some (z_i (x2)), some (z_i (x3)), some (z_i (x4)), some (z_i 0), o6, o7], [], (true, X, I, J)) r))) :
    z_ev (d + 2) ((224, 95, [some (z_r 33 0), some (z_i (x1)), some (z_i (x2)), some (z_i (x3)), some (z_i (x4)), o5, o6, o7], [], (true, X, I, J))) r := by
  refine z_ev_gs 3 (c1 := (224, (if x2 ≤ x4 then 187 else 101), [some (z_r 33 0), some (z_i (x1)), some (z_i (x2)), some (z_i (x3)), some (z_i (x4)), o5, o6, o7], [], (true, X, I, J))) rfl ?_
  refine z_ev_ifle (fun e207 => ?_) (fun e207 => ?_)
  · have h214 := h.1 e207
    refine z_ev_gs 2 (c1 := (224, 189, [some (z_r 33 0), some (z_i (x1)), some (z_i (x2)), some (z_i (x3)), some (z_i (x4)), o5, o6, o7], [z_i (x1), z_r 33 0], (true, X, I, J))) rfl ?_
    obtain ⟨v213, X208, I209, J210, g211, h212⟩ := h214
    refine z_ev_ca rfl rfl g211 ?_
    rw [h212]
    exact z_ev_rt rfl
  · have h215 := h.2 e207
    refine z_ev_gs 2 (c1 := (224, 104, [some (z_r 33 0), some (z_i (x1)), some (z_i (x2)), some (z_i (x3)), some (z_i (x4)), some (z_i 0), o6, o7], [], (true, X, I, J))) rfl ?_
    exact h215
theorem z_q224_57 {d : Nat} {r : Option z_V × z_M} {X : z_X} {I : Nat → Nat → Nat → Int32} {J : Nat → Nat → Nat → Int64} (x1 : Int32) (x2 : Int32) (x3 : Int32) (x4 : Int32) (x5 : Int32)
    (h : (∃ k216 : Nat, x4 = Int32.ofNat k216 ∧ k216 < 5 ∧ (((I 49 0 k216) ≤ x5 → z_ev (d + 2) (224, 45, [some (z_r 33 0), some (z_i (x1)), some (z_i (x2)), some (z_i (x3)), some (z_i (x4 + (1 : Int32))), some (z_i (x5)), none, none], [], (true, X, I, J)) r) ∧ (x5 < (I 49 0 k216) → (∃ k221 : Nat, x3 = Int32.ofNat k221 ∧ k221 < 10 ∧ z_ev (d + 2) (224, 57, [some (z_r 33 0), some (z_i (x1)), some (z_i (x2)), some (z_i (x3 + (1 : Int32))), some (z_i (x4)), some (z_i (x5 + (1 : Int32))), none, none], [], (true, X, (z_up I 51 0 k221 x4), J)) r))))) :
    z_ev (d + 2) ((224, 57, [some (z_r 33 0), some (z_i (x1)), some (z_i (x2)), some (z_i (x3)), some (z_i (x4)), some (z_i (x5)), none, none], [], (true, X, I, J))) r := by
  refine z_ev_gs 4 (c1 := (224, 65, [some (z_r 33 0), some (z_i (x1)), some (z_i (x2)), some (z_i (x3)), some (z_i (x4)), some (z_i (x5)), none, none], [z_i (x4), z_r 49 0, z_i (x5)], (true, X, I, J))) rfl ?_
  obtain ⟨k216, e217, e218, h219⟩ := h
  refine z_ev_iald (t := 49) (i := 0) (k := k216) (n := 5) rfl rfl e217 e218 (by decide) ?_
  refine z_ev_gs 1 (c1 := (224, (if (I 49 0 k216) ≤ x5 then 86 else 69), [some (z_r 33 0), some (z_i (x1)), some (z_i (x2)), some (z_i (x3)), some (z_i (x4)), some (z_i (x5)), none, none], [], (true, X, I, J))) rfl ?_
  refine z_ev_ifle (fun e220 => ?_) (fun e220 => ?_)
  · have h225 := h219.1 e220
    refine z_ev_gs 2 (c1 := (224, 45, [some (z_r 33 0), some (z_i (x1)), some (z_i (x2)), some (z_i (x3)), some (z_i (x4 + (1 : Int32))), some (z_i (x5)), none, none], [], (true, X, I, J))) rfl ?_
    exact h225
  · have h226 := h219.2 e220
    refine z_ev_gs 4 (c1 := (224, 76, [some (z_r 33 0), some (z_i (x1)), some (z_i (x2)), some (z_i (x3)), some (z_i (x4)), some (z_i (x5)), none, none], [z_i (x4), z_i (x3), z_r 51 0], (true, X, I, J))) rfl ?_
    obtain ⟨k221, e222, e223, h224⟩ := h226
    refine z_ev_iast (t := 51) (i := 0) (k := k221) (n := 10) rfl rfl e222 e223 (by decide) ?_
    refine z_ev_gs 3 (c1 := (224, 57, [some (z_r 33 0), some (z_i (x1)), some (z_i (x2)), some (z_i (x3 + (1 : Int32))), some (z_i (x4)), some (z_i (x5 + (1 : Int32))), none, none], [], (true, X, (z_up I 51 0 k221 x4), J))) rfl ?_
    exact h224
theorem z_q224_104 {d : Nat} {r : Option z_V × z_M} {X : z_X} {I : Nat → Nat → Nat → Int32} {J : Nat → Nat → Nat → Int64} (x1 : Int32) (x2 : Int32) (x3 : Int32) (x4 : Int32) (x5 : Int32) (o6 : Option z_V) (o7 : Option z_V)
    (h : ((x4 ≤ x5 → z_ev (d + 2) (224, 95, [some (z_r 33 0), some (z_i (x1)), some (z_i (x2)), some (z_i (x3)), some (z_i (x4 + (1 : Int32))), some (z_i (x5)), o6, o7], [], (true, X, I, J)) r) ∧ (x5 < x4 → (∃ k228 : Nat, x5 = Int32.ofNat k228 ∧ k228 < 10 ∧ (∃ k232 : Nat, x4 = Int32.ofNat k232 ∧ k232 < 10 ∧ (∃ k236 : Nat, (((5 : Int32) * (I 51 0 k228)) + (I 51 0 k232)) = Int32.ofNat k236 ∧ k236 < 25 ∧ (((I 38 0 k236) = (4 : Int32) → (∃ (X241 : z_X) (I242 : Nat → Nat → Nat → Int32) (J243 : Nat → Nat → Nat → Int64), z_ev (d + 1) (z_en 168 [z_r 33 0, z_i (x1), z_i (x5), z_i (x4), z_i 1] (true, X, I, J)) (none, (true, X241, I242, J243)) ∧ z_ev (d + 2) (224, 104, [some (z_r 33 0), some (z_i (x1)), some (z_i (x2)), some (z_i (x3)), some (z_i (x4)), some (z_i (x5 + (1 : Int32))), some (z_i (I 38 0 k236)), some (z_i 1)], [], (true, X241, I242, J243)) r)) ∧ (¬ (I 38 0 k236) = (4 : Int32) → (((I 38 0 k236) ≤ 0 → (∃ (X247 : z_X) (I248 : Nat → Nat → Nat → Int32) (J249 : Nat → Nat → Nat → Int64), z_ev (d + 1) (z_en 168 [z_r 33 0, z_i (x1), z_i (x5), z_i (x4), z_i 0] (true, X, I, J)) (none, (true, X247, I248, J249)) ∧ z_ev (d + 2) (224, 104, [some (z_r 33 0), some (z_i (x1)), some (z_i (x2)), some (z_i (x3)), some (z_i (x4)), some (z_i (x5 + (1 : Int32))), some (z_i (I 38 0 k236)), some (z_i 0)], [], (true, X247, I248, J249)) r)) ∧ (0 < (I 38 0 k236) → (∃ (v257 : Int32) (X252 : z_X) (I253 : Nat → Nat → Nat → Int32) (J254 : Nat → Nat → Nat → Int64), z_ev (d + 1) (z_en 222 [z_r 33 0] (true, X, I, J)) (some (z_i (v257)), (true, X252, I253, J254)) ∧ (((I 38 0 k236) ≤ (v257 - v257 / (4 : Int32) * (4 : Int32)) → (∃ (X259 : z_X) (I260 : Nat → Nat → Nat → Int32) (J261 : Nat → Nat → Nat → Int64), z_ev (d + 1) (z_en 168 [z_r 33 0, z_i (x1), z_i (x5), z_i (x4), z_i 0] (true, X252, I253, J254)) (none, (true, X259, I260, J261)) ∧ z_ev (d + 2) (224, 104, [some (z_r 33 0), some (z_i (x1)), some (z_i (x2)), some (z_i (x3)), some (z_i (x4)), some (z_i (x5 + (1 : Int32))), some (z_i (I 38 0 k236)), some (z_i 0)], [], (true, X259, I260, J261)) r)) ∧ ((v257 - v257 / (4 : Int32) * (4 : Int32)) < (I 38 0 k236) → (∃ (X264 : z_X) (I265 : Nat → Nat → Nat → Int32) (J266 : Nat → Nat → Nat → Int64), z_ev (d + 1) (z_en 168 [z_r 33 0, z_i (x1), z_i (x5), z_i (x4), z_i 1] (true, X252, I253, J254)) (none, (true, X264, I265, J266)) ∧ z_ev (d + 2) (224, 104, [some (z_r 33 0), some (z_i (x1)), some (z_i (x2)), some (z_i (x3)), some (z_i (x4)), some (z_i (x5 + (1 : Int32))), some (z_i (I 38 0 k236)), some (z_i 1)], [], (true, X264, I265, J266)) r)))))))))))))) :
    z_ev (d + 2) ((224, 104, [some (z_r 33 0), some (z_i (x1)), some (z_i (x2)), some (z_i (x3)), some (z_i (x4)), some (z_i (x5)), o6, o7], [], (true, X, I, J))) r := by
  refine z_ev_gs 3 (c1 := (224, (if x4 ≤ x5 then 181 else 111), [some (z_r 33 0), some (z_i (x1)), some (z_i (x2)), some (z_i (x3)), some (z_i (x4)), some (z_i (x5)), o6, o7], [], (true, X, I, J))) rfl ?_
  refine z_ev_ifle (fun e227 => ?_) (fun e227 => ?_)
  · have h275 := h.1 e227
    refine z_ev_gs 2 (c1 := (224, 95, [some (z_r 33 0), some (z_i (x1)), some (z_i (x2)), some (z_i (x3)), some (z_i (x4 + (1 : Int32))), some (z_i (x5)), o6, o7], [], (true, X, I, J))) rfl ?_
    exact h275
  · have h276 := h.2 e227
    refine z_ev_gs 6 (c1 := (224, 122, [some (z_r 33 0), some (z_i (x1)), some (z_i (x2)), some (z_i (x3)), some (z_i (x4)), some (z_i (x5)), o6, o7], [z_i (x5), z_r 51 0, z_i 5, z_r 38 0], (true, X, I, J))) rfl ?_
    obtain ⟨k228, e229, e230, h231⟩ := h276
    refine z_ev_iald (t := 51) (i := 0) (k := k228) (n := 10) rfl rfl e229 e230 (by decide) ?_
    refine z_ev_gs 4 (c1 := (224, 130, [some (z_r 33 0), some (z_i (x1)), some (z_i (x2)), some (z_i (x3)), some (z_i (x4)), some (z_i (x5)), o6, o7], [z_i (x4), z_r 51 0, z_i ((5 : Int32) * (I 51 0 k228)), z_r 38 0], (true, X, I, J))) rfl ?_
    obtain ⟨k232, e233, e234, h235⟩ := h231
    refine z_ev_iald (t := 51) (i := 0) (k := k232) (n := 10) rfl rfl e233 e234 (by decide) ?_
    refine z_ev_gs 1 (c1 := (224, 132, [some (z_r 33 0), some (z_i (x1)), some (z_i (x2)), some (z_i (x3)), some (z_i (x4)), some (z_i (x5)), o6, o7], [z_i (((5 : Int32) * (I 51 0 k228)) + (I 51 0 k232)), z_r 38 0], (true, X, I, J))) rfl ?_
    obtain ⟨k236, e237, e238, h239⟩ := h235
    refine z_ev_iald (t := 38) (i := 0) (k := k236) (n := 25) rfl rfl e237 e238 (by decide) ?_
    refine z_ev_gs 4 (c1 := (224, (if (I 38 0 k236) = (4 : Int32) then 157 else 141), [some (z_r 33 0), some (z_i (x1)), some (z_i (x2)), some (z_i (x3)), some (z_i (x4)), some (z_i (x5)), some (z_i (I 38 0 k236)), o7], [], (true, X, I, J))) rfl ?_
    refine z_ev_if (fun e240 => ?_) (fun e240 => ?_)
    · have h273 := h239.1 e240
      refine z_ev_gs 8 (c1 := (224, 172, [some (z_r 33 0), some (z_i (x1)), some (z_i (x2)), some (z_i (x3)), some (z_i (x4)), some (z_i (x5)), some (z_i (I 38 0 k236)), some (z_i 1)], [z_i 1, z_i (x4), z_i (x5), z_i (x1), z_r 33 0], (true, X, I, J))) rfl ?_
      obtain ⟨X241, I242, J243, g244, h245⟩ := h273
      refine z_ev_ca rfl rfl g244 ?_
      refine z_ev_gs 2 (c1 := (224, 104, [some (z_r 33 0), some (z_i (x1)), some (z_i (x2)), some (z_i (x3)), some (z_i (x4)), some (z_i (x5 + (1 : Int32))), some (z_i (I 38 0 k236)), some (z_i 1)], [], (true, X241, I242, J243))) rfl ?_
      exact h245
    · have h274 := h239.2 e240
      refine z_ev_gs 2 (c1 := (224, (if (I 38 0 k236) ≤ 0 then 161 else 146), [some (z_r 33 0), some (z_i (x1)), some (z_i (x2)), some (z_i (x3)), some (z_i (x4)), some (z_i (x5)), some (z_i (I 38 0 k236)), o7], [], (true, X, I, J))) rfl ?_
      refine z_ev_ifle (fun e246 => ?_) (fun e246 => ?_)
      · have h271 := h274.1 e246
        refine z_ev_gs 7 (c1 := (224, 172, [some (z_r 33 0), some (z_i (x1)), some (z_i (x2)), some (z_i (x3)), some (z_i (x4)), some (z_i (x5)), some (z_i (I 38 0 k236)), some (z_i 0)], [z_i 0, z_i (x4), z_i (x5), z_i (x1), z_r 33 0], (true, X, I, J))) rfl ?_
        obtain ⟨X247, I248, J249, g250, h251⟩ := h271
        refine z_ev_ca rfl rfl g250 ?_
        refine z_ev_gs 2 (c1 := (224, 104, [some (z_r 33 0), some (z_i (x1)), some (z_i (x2)), some (z_i (x3)), some (z_i (x4)), some (z_i (x5 + (1 : Int32))), some (z_i (I 38 0 k236)), some (z_i 0)], [], (true, X247, I248, J249))) rfl ?_
        exact h251
      · have h272 := h274.2 e246
        refine z_ev_gs 1 (c1 := (224, 147, [some (z_r 33 0), some (z_i (x1)), some (z_i (x2)), some (z_i (x3)), some (z_i (x4)), some (z_i (x5)), some (z_i (I 38 0 k236)), o7], [z_r 33 0], (true, X, I, J))) rfl ?_
        obtain ⟨v257, X252, I253, J254, g255, h256⟩ := h272
        refine z_ev_ca rfl rfl g255 ?_
        refine z_ev_gs 1 (c1 := (224, 151, [some (z_r 33 0), some (z_i (x1)), some (z_i (x2)), some (z_i (x3)), some (z_i (x4)), some (z_i (x5)), some (z_i (I 38 0 k236)), o7], [z_i 4, z_i (v257)], (true, X252, I253, J254))) rfl ?_
        refine z_ev_dvi (w1 := (4 : Int32)) (c1 := (224, 152, [some (z_r 33 0), some (z_i (x1)), some (z_i (x2)), some (z_i (x3)), some (z_i (x4)), some (z_i (x5)), some (z_i (I 38 0 k236)), o7], [z_i (v257 - v257 / (4 : Int32) * (4 : Int32))], (true, X252, I253, J254))) rfl (by decide) ?_
        refine z_ev_gs 2 (c1 := (224, (if (I 38 0 k236) ≤ (v257 - v257 / (4 : Int32) * (4 : Int32)) then 161 else 157), [some (z_r 33 0), some (z_i (x1)), some (z_i (x2)), some (z_i (x3)), some (z_i (x4)), some (z_i (x5)), some (z_i (I 38 0 k236)), o7], [], (true, X252, I253, J254))) rfl ?_
        refine z_ev_ifle (fun e258 => ?_) (fun e258 => ?_)
        · have h269 := h256.1 e258
          refine z_ev_gs 7 (c1 := (224, 172, [some (z_r 33 0), some (z_i (x1)), some (z_i (x2)), some (z_i (x3)), some (z_i (x4)), some (z_i (x5)), some (z_i (I 38 0 k236)), some (z_i 0)], [z_i 0, z_i (x4), z_i (x5), z_i (x1), z_r 33 0], (true, X252, I253, J254))) rfl ?_
          obtain ⟨X259, I260, J261, g262, h263⟩ := h269
          refine z_ev_ca rfl rfl g262 ?_
          refine z_ev_gs 2 (c1 := (224, 104, [some (z_r 33 0), some (z_i (x1)), some (z_i (x2)), some (z_i (x3)), some (z_i (x4)), some (z_i (x5 + (1 : Int32))), some (z_i (I 38 0 k236)), some (z_i 0)], [], (true, X259, I260, J261))) rfl ?_
          exact h263
        · have h270 := h256.2 e258
          refine z_ev_gs 8 (c1 := (224, 172, [some (z_r 33 0), some (z_i (x1)), some (z_i (x2)), some (z_i (x3)), some (z_i (x4)), some (z_i (x5)), some (z_i (I 38 0 k236)), some (z_i 1)], [z_i 1, z_i (x4), z_i (x5), z_i (x1), z_r 33 0], (true, X252, I253, J254))) rfl ?_
          obtain ⟨X264, I265, J266, g267, h268⟩ := h270
          refine z_ev_ca rfl rfl g267 ?_
          refine z_ev_gs 2 (c1 := (224, 104, [some (z_r 33 0), some (z_i (x1)), some (z_i (x2)), some (z_i (x3)), some (z_i (x4)), some (z_i (x5 + (1 : Int32))), some (z_i (I 38 0 k236)), some (z_i 1)], [], (true, X264, I265, J266))) rfl ?_
          exact h268
theorem z_q133_e {d : Nat} {r : Option z_V × z_M} {X : z_X} {I : Nat → Nat → Nat → Int32} {J : Nat → Nat → Nat → Int64} (x0 : Int32) (x1 : Int32)
    (h : z_ev d (133, 4, [some (z_i (x0)), some (z_i (x1)), some (z_i 0), some (z_i 0)], [], (true, X, I, J)) r) :
    z_ev d (z_en 133 [z_i (x0), z_i (x1)] (true, X, I, J)) r := by
  show z_ev d (133, 0, [some (z_i (x0)), some (z_i (x1)), none, none], [], (true, X, I, J)) r
  refine z_ev_gs 4 (c1 := (133, 4, [some (z_i (x0)), some (z_i (x1)), some (z_i 0), some (z_i 0)], [], (true, X, I, J))) rfl ?_
  exact h
theorem z_q133_4 {d : Nat} {r : Option z_V × z_M} {X : z_X} {I : Nat → Nat → Nat → Int32} {J : Nat → Nat → Nat → Int64} (x0 : Int32) (x1 : Int32) (x2 : Int32) (x3 : Int32)
    (h : (((10 : Int32) ≤ x3 → r = (some (z_i 0), (true, X, I, J))) ∧ (x3 < (10 : Int32) → ((((x0 >>> (x3 &&& 31)) &&& (1 : Int32)) = 0 → z_ev d (133, 4, [some (z_i (x0)), some (z_i (x1)), some (z_i (x2)), some (z_i (x3 + (1 : Int32)))], [], (true, X, I, J)) r) ∧ (¬ ((x0 >>> (x3 &&& 31)) &&& (1 : Int32)) = 0 → ((¬ x2 = x1 → z_ev d (133, 4, [some (z_i (x0)), some (z_i (x1)), some (z_i (x2 + (1 : Int32))), some (z_i (x3 + (1 : Int32)))], [], (true, X, I, J)) r) ∧ (x2 = x1 → r = (some (z_i (x3)), (true, X, I, J))))))))) :
    z_ev d ((133, 4, [some (z_i (x0)), some (z_i (x1)), some (z_i (x2)), some (z_i (x3))], [], (true, X, I, J))) r := by
  refine z_ev_gs 3 (c1 := (133, (if (10 : Int32) ≤ x3 then 34 else 10), [some (z_i (x0)), some (z_i (x1)), some (z_i (x2)), some (z_i (x3))], [], (true, X, I, J))) rfl ?_
  refine z_ev_ifle (fun e1 => ?_) (fun e1 => ?_)
  · have h8 := h.1 e1
    refine z_ev_gs 1 (c1 := (133, 35, [some (z_i (x0)), some (z_i (x1)), some (z_i (x2)), some (z_i (x3))], [z_i 0], (true, X, I, J))) rfl ?_
    rw [h8]
    exact z_ev_rt rfl
  · have h9 := h.2 e1
    refine z_ev_gs 6 (c1 := (133, (if ((x0 >>> (x3 &&& 31)) &&& (1 : Int32)) = 0 then 28 else 18), [some (z_i (x0)), some (z_i (x1)), some (z_i (x2)), some (z_i (x3))], [], (true, X, I, J))) rfl ?_
    refine z_ev_if (fun e2 => ?_) (fun e2 => ?_)
    · have h6 := h9.1 e2
      refine z_ev_gs 2 (c1 := (133, 4, [some (z_i (x0)), some (z_i (x1)), some (z_i (x2)), some (z_i (x3 + (1 : Int32)))], [], (true, X, I, J))) rfl ?_
      exact h6
    · have h7 := h9.2 e2
      refine z_ev_gs 3 (c1 := (133, (if ¬ x2 = x1 then 25 else 23), [some (z_i (x0)), some (z_i (x1)), some (z_i (x2)), some (z_i (x3))], [], (true, X, I, J))) rfl ?_
      refine z_ev_ifn (fun e3 => ?_) (fun e3 => ?_)
      · have h4 := h7.1 e3
        refine z_ev_gs 3 (c1 := (133, 4, [some (z_i (x0)), some (z_i (x1)), some (z_i (x2 + (1 : Int32))), some (z_i (x3 + (1 : Int32)))], [], (true, X, I, J))) rfl ?_
        exact h4
      · have h5 := h7.2 e3
        refine z_ev_gs 1 (c1 := (133, 24, [some (z_i (x0)), some (z_i (x1)), some (z_i (x2)), some (z_i (x3))], [z_i (x3)], (true, X, I, J))) rfl ?_
        rw [h5]
        exact z_ev_rt rfl
theorem z_q92_e {d : Nat} {r : Option z_V × z_M} {X : z_X} {I : Nat → Nat → Nat → Int32} {J : Nat → Nat → Nat → Int64} (x1 : Int32) (x2 : Int32)
    (h : (((z_bw x1 0 3) = false → r = (some (z_i (-1)), (true, X, I, J))) ∧ ((z_bw x1 0 3) = true → ((x2 < (1 : Int32) → r = (some (z_i (-1)), (true, X, I, J))) ∧ ((1 : Int32) ≤ x2 → ((x2 ≤ (4 : Int32) → (∃ k54 : Nat, x1 = Int32.ofNat k54 ∧ k54 < 4 ∧ ((x2 ≤ (I 13 k54 1) → z_ev (d + 2) (92, 56, [some (z_r 0 0), some (z_i (x1)), some (z_i (x2)), some (z_r 13 k54), some (z_i (((1 : Int32) <<< ((I 13 k54 1) &&& 31)) - (1 : Int32))), some (z_i 0), some (z_i 0), none], [], (true, X, I, J)) r) ∧ ((I 13 k54 1) < x2 → r = (some (z_i (-3)), (true, X, I, J)))))) ∧ ((4 : Int32) < x2 → r = (some (z_i (-1)), (true, X, I, J))))))))) :
    z_ev (d + 2) (z_en 92 [z_r 0 0, z_i (x1), z_i (x2)] (true, X, I, J)) r := by
  show z_ev (d + 2) (92, 0, [some (z_r 0 0), some (z_i (x1)), some (z_i (x2)), none, none, none, none, none], [], (true, X, I, J)) r
  refine z_ev_gs 1 (c1 := (92, 1, [some (z_r 0 0), some (z_i (x1)), some (z_i (x2)), none, none, none, none, none], [z_i (x1)], (true, X, I, J))) rfl ?_
  refine z_ev_ca rfl rfl (z_p118 _) ?_
  refine z_ev_gs 1 (c1 := (92, (if z_c (z_bw x1 0 3) = 0 then 17 else 7), [some (z_r 0 0), some (z_i (x1)), some (z_i (x2)), none, none, none, none, none], [], (true, X, I, J))) rfl ?_
  refine z_ev_ifc (fun e51 => ?_) (fun e51 => ?_)
  · have h65 := h.1 e51
    refine z_ev_gs 1 (c1 := (92, 18, [some (z_r 0 0), some (z_i (x1)), some (z_i (x2)), none, none, none, none, none], [z_i (-1)], (true, X, I, J))) rfl ?_
    rw [h65]
    exact z_ev_rt rfl
  · have h66 := h.2 e51
    refine z_ev_gs 3 (c1 := (92, (if x2 < (1 : Int32) then 17 else 12), [some (z_r 0 0), some (z_i (x1)), some (z_i (x2)), none, none, none, none, none], [], (true, X, I, J))) rfl ?_
    refine z_ev_iflt (fun e52 => ?_) (fun e52 => ?_)
    · have h63 := h66.1 e52
      refine z_ev_gs 1 (c1 := (92, 18, [some (z_r 0 0), some (z_i (x1)), some (z_i (x2)), none, none, none, none, none], [z_i (-1)], (true, X, I, J))) rfl ?_
      rw [h63]
      exact z_ev_rt rfl
    · have h64 := h66.2 e52
      refine z_ev_gs 3 (c1 := (92, (if x2 ≤ (4 : Int32) then 19 else 17), [some (z_r 0 0), some (z_i (x1)), some (z_i (x2)), none, none, none, none, none], [], (true, X, I, J))) rfl ?_
      refine z_ev_ifle (fun e53 => ?_) (fun e53 => ?_)
      · have h61 := h64.1 e53
        refine z_ev_gs 4 (c1 := (92, 27, [some (z_r 0 0), some (z_i (x1)), some (z_i (x2)), none, none, none, none, none], [z_i (x1), z_r 2 0], (true, X, I, J))) rfl ?_
        obtain ⟨k54, e55, e56, h57⟩ := h61
        refine z_ev_nt0 (k := k54) rfl e55 e56 ?_
        refine z_ev_gs 2 (c1 := (92, 30, [some (z_r 0 0), some (z_i (x1)), some (z_i (x2)), some (z_r 13 k54), none, none, none, none], [z_r 13 k54], (true, X, I, J))) rfl ?_
        refine z_ev_gi (c1 := (92, 33, [some (z_r 0 0), some (z_i (x1)), some (z_i (x2)), some (z_r 13 k54), none, none, none, none], [z_i (I 13 k54 1)], (true, X, I, J))) rfl (z_lt40 e56) ?_
        refine z_ev_gs 2 (c1 := (92, (if x2 ≤ (I 13 k54 1) then 40 else 37), [some (z_r 0 0), some (z_i (x1)), some (z_i (x2)), some (z_r 13 k54), none, none, none, none], [], (true, X, I, J))) rfl ?_
        refine z_ev_ifle (fun e58 => ?_) (fun e58 => ?_)
        · have h59 := h57.1 e58
          refine z_ev_gs 2 (c1 := (92, 42, [some (z_r 0 0), some (z_i (x1)), some (z_i (x2)), some (z_r 13 k54), none, none, none, none], [z_r 13 k54, z_i 1], (true, X, I, J))) rfl ?_
          refine z_ev_gi (c1 := (92, 45, [some (z_r 0 0), some (z_i (x1)), some (z_i (x2)), some (z_r 13 k54), none, none, none, none], [z_i (I 13 k54 1), z_i 1], (true, X, I, J))) rfl (z_lt40 e56) ?_
          refine z_ev_gs 8 (c1 := (92, 56, [some (z_r 0 0), some (z_i (x1)), some (z_i (x2)), some (z_r 13 k54), some (z_i (((1 : Int32) <<< ((I 13 k54 1) &&& 31)) - (1 : Int32))), some (z_i 0), some (z_i 0), none], [], (true, X, I, J))) rfl ?_
          exact h59
        · have h60 := h57.2 e58
          refine z_ev_gs 1 (c1 := (92, 39, [some (z_r 0 0), some (z_i (x1)), some (z_i (x2)), some (z_r 13 k54), none, none, none, none], [z_i (-3)], (true, X, I, J))) rfl ?_
          rw [h60]
          exact z_ev_rt rfl
      · have h62 := h64.2 e53
        refine z_ev_gs 1 (c1 := (92, 18, [some (z_r 0 0), some (z_i (x1)), some (z_i (x2)), none, none, none, none, none], [z_i (-1)], (true, X, I, J))) rfl ?_
        rw [h62]
        exact z_ev_rt rfl
theorem z_q92_56 {d : Nat} {r : Option z_V × z_M} {X : z_X} {I : Nat → Nat → Nat → Int32} {J : Nat → Nat → Nat → Int64} (x1 : Int32) (x2 : Int32) (q3 : Nat) (hq3 : q3 < 10) (x4 : Int32) (x5 : Int32) (x6 : Int32) (o7 : Option z_V)
    (h : ((x2 ≤ x6 → (∃ k68 : Nat, (x5 &&& (63 : Int32)) = Int32.ofNat k68 ∧ k68 < 64 ∧ (∃ k72 : Nat, ((z_stc.getD 1 []).getD k68 0) = Int32.ofNat k72 ∧ k72 < 11 ∧ r = (some (z_i ((z_stc.getD 0 []).getD k72 0)), (true, X, I, J))))) ∧ (x6 < x2 → (∃ (v81 : Int32) (X76 : z_X) (I77 : Nat → Nat → Nat → Int32) (J78 : Nat → Nat → Nat → Int64), z_ev (d + 1) (z_en 65 [z_r 1 0] (true, X, I, J)) (some (z_i (v81)), (true, X76, I77, J78)) ∧ (¬ ((I77 13 q3 1) - x6) = 0 ∧ (∃ (v87 : Int32) (X82 : z_X) (I83 : Nat → Nat → Nat → Int32) (J84 : Nat → Nat → Nat → Int64), z_ev (d + 1) (z_en 133 [z_i (x4), z_i (v81 - v81 / ((I77 13 q3 1) - x6) * ((I77 13 q3 1) - x6))] (true, X76, I77, J78)) (some (z_i (v87)), (true, X82, I83, J84)) ∧ (∃ k88 : Nat, x6 = Int32.ofNat k88 ∧ k88 < 4 ∧ (∃ (v97 : Int32) (X92 : z_X) (I93 : Nat → Nat → Nat → Int32) (J94 : Nat → Nat → Nat → Int64), z_ev (d + 1) (z_en 44 [z_r 24 0, z_r 13 q3, z_i (x6), z_i (v87)] (true, X82, (z_up I83 26 0 k88 v87), J84)) (some (z_i (v97)), (true, X92, I93, J94)) ∧ z_ev (d + 2) (92, 56, [some (z_r 0 0), some (z_i (x1)), some (z_i (x2)), some (z_r 13 q3), some (z_i (x4 &&& (((1 : Int32) <<< (v87 &&& 31)) ^^^ (-1 : Int32)))), some (z_i (x5 ||| v97)), some (z_i (x6 + (1 : Int32))), some (z_i (v87))], [], (true, X92, I93, J94)) r)))))))) :
    z_ev (d + 2) ((92, 56, [some (z_r 0 0), some (z_i (x1)), some (z_i (x2)), some (z_r 13 q3), some (z_i (x4)), some (z_i (x5)), some (z_i (x6)), o7], [], (true, X, I, J))) r := by
  refine z_ev_gs 3 (c1 := (92, (if x2 ≤ x6 then 130 else 62), [some (z_r 0 0), some (z_i (x1)), some (z_i (x2)), some (z_r 13 q3), some (z_i (x4)), some (z_i (x5)), some (z_i (x6)), o7], [], (true, X, I, J))) rfl ?_
  refine z_ev_ifle (fun e67 => ?_) (fun e67 => ?_)
  · have h99 := h.1 e67
    refine z_ev_gs 5 (c1 := (92, 141, [some (z_r 0 0), some (z_i (x1)), some (z_i (x2)), some (z_r 13 q3), some (z_i (x4)), some (z_i (x5)), some (z_i (x6)), o7], [z_i (x5 &&& (63 : Int32)), z_r 66 1, z_r 66 0], (true, X, I, J))) rfl ?_
    obtain ⟨k68, e69, e70, h71⟩ := h99
    refine z_ev_sld (k := k68) (n := 64) rfl e69 e70 (by decide) ?_
    obtain ⟨k72, e73, e74, h75⟩ := h71
    refine z_ev_sld (k := k72) (n := 11) rfl e73 e74 (by decide) ?_
    rw [h75]
    exact z_ev_rt rfl
  · have h100 := h.2 e67
    refine z_ev_gs 3 (c1 := (92, 68, [some (z_r 0 0), some (z_i (x1)), some (z_i (x2)), some (z_r 13 q3), some (z_i (x4)), some (z_i (x5)), some (z_i (x6)), o7], [z_r 1 0, z_i (x4)], (true, X, I, J))) rfl ?_
    obtain ⟨v81, X76, I77, J78, g79, h80⟩ := h100
    refine z_ev_ca rfl rfl g79 ?_
    refine z_ev_gs 1 (c1 := (92, 72, [some (z_r 0 0), some (z_i (x1)), some (z_i (x2)), some (z_r 13 q3), some (z_i (x4)), some (z_i (x5)), some (z_i (x6)), o7], [z_r 13 q3, z_i (v81), z_i (x4)], (true, X76, I77, J78))) rfl ?_
    refine z_ev_gi (c1 := (92, 75, [some (z_r 0 0), some (z_i (x1)), some (z_i (x2)), some (z_r 13 q3), some (z_i (x4)), some (z_i (x5)), some (z_i (x6)), o7], [z_i (I77 13 q3 1), z_i (v81), z_i (x4)], (true, X76, I77, J78))) rfl hq3 ?_
    refine z_ev_gs 2 (c1 := (92, 78, [some (z_r 0 0), some (z_i (x1)), some (z_i (x2)), some (z_r 13 q3), some (z_i (x4)), some (z_i (x5)), some (z_i (x6)), o7], [z_i ((I77 13 q3 1) - x6), z_i (v81), z_i (x4)], (true, X76, I77, J78))) rfl ?_
    obtain ⟨g0, h98⟩ := h80
    refine z_ev_dvi (w1 := ((I77 13 q3 1) - x6)) (c1 := (92, 79, [some (z_r 0 0), some (z_i (x1)), some (z_i (x2)), some (z_r 13 q3), some (z_i (x4)), some (z_i (x5)), some (z_i (x6)), o7], [z_i (v81 - v81 / ((I77 13 q3 1) - x6) * ((I77 13 q3 1) - x6)), z_i (x4)], (true, X76, I77, J78))) rfl g0 ?_
    obtain ⟨v87, X82, I83, J84, g85, h86⟩ := h98
    refine z_ev_ca rfl rfl g85 ?_
    refine z_ev_gs 14 (c1 := (92, 106, [some (z_r 0 0), some (z_i (x1)), some (z_i (x2)), some (z_r 13 q3), some (z_i (x4 &&& (((1 : Int32) <<< (v87 &&& 31)) ^^^ (-1 : Int32)))), some (z_i (x5)), some (z_i (x6)), some (z_i (v87))], [z_i (v87), z_i (x6), z_r 26 0], (true, X82, I83, J84))) rfl ?_
    obtain ⟨k88, e89, e90, h91⟩ := h86
    refine z_ev_iast (t := 26) (i := 0) (k := k88) (n := 4) rfl rfl e89 e90 (by decide) ?_
    refine z_ev_gs 6 (c1 := (92, 118, [some (z_r 0 0), some (z_i (x1)), some (z_i (x2)), some (z_r 13 q3), some (z_i (x4 &&& (((1 : Int32) <<< (v87 &&& 31)) ^^^ (-1 : Int32)))), some (z_i (x5)), some (z_i (x6)), some (z_i (v87))], [z_i (v87), z_i (x6), z_r 13 q3, z_r 24 0, z_i (x5)], (true, X82, (z_up I83 26 0 k88 v87), J84))) rfl ?_
    obtain ⟨v97, X92, I93, J94, g95, h96⟩ := h91
    refine z_ev_ca rfl rfl g95 ?_
    refine z_ev_gs 4 (c1 := (92, 56, [some (z_r 0 0), some (z_i (x1)), some (z_i (x2)), some (z_r 13 q3), some (z_i (x4 &&& (((1 : Int32) <<< (v87 &&& 31)) ^^^ (-1 : Int32)))), some (z_i (x5 ||| v97)), some (z_i (x6 + (1 : Int32))), some (z_i (v87))], [], (true, X92, I93, J94))) rfl ?_
    exact h96
theorem z_q226_e {d : Nat} {r : Option z_V × z_M} {X : z_X} {I : Nat → Nat → Nat → Int32} {J : Nat → Nat → Nat → Int64} (x1 : Int32) (x2 : Int32)
    (h : (((z_bw x1 0 3) = false → r = (some (z_i (-1)), (true, X, I, J))) ∧ ((z_bw x1 0 3) = true → (((z_bw x2 (1 : Int32) (4 : Int32)) = true → (∃ k42 : Nat, x1 = Int32.ofNat k42 ∧ k42 < 4 ∧ ((x2 ≤ (I 34 0 k42) → z_ev (d + 3) (226, 36, [some (z_r 33 0), some (z_i (x1)), some (z_i (x2)), some (z_i 0), some (z_i 0), none, none], [], (true, X, I, J)) r) ∧ ((I 34 0 k42) < x2 → r = (some (z_i (-3)), (true, X, I, J)))))) ∧ ((z_bw x2 (1 : Int32) (4 : Int32)) = false → r = (some (z_i (-1)), (true, X, I, J))))))) :
    z_ev (d + 3) (z_en 226 [z_r 33 0, z_i (x1), z_i (x2)] (true, X, I, J)) r := by
  show z_ev (d + 3) (226, 0, [some (z_r 33 0), some (z_i (x1)), some (z_i (x2)), none, none, none, none], [], (true, X, I, J)) r
  refine z_ev_gs 1 (c1 := (226, 1, [some (z_r 33 0), some (z_i (x1)), some (z_i (x2)), none, none, none, none], [z_i (x1)], (true, X, I, J))) rfl ?_
  refine z_ev_ca rfl rfl (z_p162 _) ?_
  refine z_ev_gs 1 (c1 := (226, (if z_c (z_bw x1 0 3) = 0 then 16 else 7), [some (z_r 33 0), some (z_i (x1)), some (z_i (x2)), none, none, none, none], [], (true, X, I, J))) rfl ?_
  refine z_ev_ifc (fun e40 => ?_) (fun e40 => ?_)
  · have h51 := h.1 e40
    refine z_ev_gs 1 (c1 := (226, 17, [some (z_r 33 0), some (z_i (x1)), some (z_i (x2)), none, none, none, none], [z_i (-1)], (true, X, I, J))) rfl ?_
    rw [h51]
    exact z_ev_rt rfl
  · have h52 := h.2 e40
    refine z_ev_gs 3 (c1 := (226, 10, [some (z_r 33 0), some (z_i (x1)), some (z_i (x2)), none, none, none, none], [z_i 4, z_i 1, z_i (x2)], (true, X, I, J))) rfl ?_
    refine z_ev_ca rfl rfl (z_p158 _ _ _) ?_
    refine z_ev_gs 1 (c1 := (226, (if ¬ z_c (z_bw x2 (1 : Int32) (4 : Int32)) = 0 then 18 else 16), [some (z_r 33 0), some (z_i (x1)), some (z_i (x2)), none, none, none, none], [], (true, X, I, J))) rfl ?_
    refine z_ev_ifcn (fun e41 => ?_) (fun e41 => ?_)
    · have h49 := h52.1 e41
      refine z_ev_gs 3 (c1 := (226, 23, [some (z_r 33 0), some (z_i (x1)), some (z_i (x2)), none, none, none, none], [z_i (x1), z_r 34 0], (true, X, I, J))) rfl ?_
      obtain ⟨k42, e43, e44, h45⟩ := h49
      refine z_ev_iald (t := 34) (i := 0) (k := k42) (n := 4) rfl rfl e43 e44 (by decide) ?_
      refine z_ev_gs 2 (c1 := (226, (if x2 ≤ (I 34 0 k42) then 31 else 28), [some (z_r 33 0), some (z_i (x1)), some (z_i (x2)), none, none, none, none], [], (true, X, I, J))) rfl ?_
      refine z_ev_ifle (fun e46 => ?_) (fun e46 => ?_)
      · have h47 := h45.1 e46
        refine z_ev_gs 4 (c1 := (226, 36, [some (z_r 33 0), some (z_i (x1)), some (z_i (x2)), some (z_i 0), some (z_i 0), none, none], [], (true, X, I, J))) rfl ?_
        exact h47
      · have h48 := h45.2 e46
        refine z_ev_gs 1 (c1 := (226, 30, [some (z_r 33 0), some (z_i (x1)), some (z_i (x2)), none, none, none, none], [z_i (-3)], (true, X, I, J))) rfl ?_
        rw [h48]
        exact z_ev_rt rfl
    · have h50 := h52.2 e41
      refine z_ev_gs 1 (c1 := (226, 17, [some (z_r 33 0), some (z_i (x1)), some (z_i (x2)), none, none, none, none], [z_i (-1)], (true, X, I, J))) rfl ?_
      rw [h50]
      exact z_ev_rt rfl
theorem z_q226_36 {d : Nat} {r : Option z_V × z_M} {X : z_X} {I : Nat → Nat → Nat → Int32} {J : Nat → Nat → Nat → Int64} (x1 : Int32) (x2 : Int32) (x3 : Int32) (x4 : Int32) (o5 : Option z_V) (o6 : Option z_V)
    (h : ((x2 ≤ x4 → (∃ (v59 : Int32) (X54 : z_X) (I55 : Nat → Nat → Nat → Int32) (J56 : Nat → Nat → Nat → Int64), z_ev (d + 2) (z_en 193 [z_r 33 0, z_r 35 0, z_i ((10 : Int32) * x1), z_i (x3)] (true, X, I, J)) (some (z_i (v59)), (true, X54, I55, J56)) ∧ r = (some (z_i (v59)), (true, X54, I55, J56)))) ∧ (x4 < x2 → (∃ (v65 : Int32) (X60 : z_X) (I61 : Nat → Nat → Nat → Int32) (J62 : Nat → Nat → Nat → Int64), z_ev (d + 2) (z_en 222 [z_r 33 0] (true, X, I, J)) (some (z_i (v65)), (true, X60, I61, J62)) ∧ (∃ k66 : Nat, x1 = Int32.ofNat k66 ∧ k66 < 4 ∧ (¬ ((I61 34 0 k66) - x4) = 0 ∧ z_ev (d + 3) (226, 61, [some (z_r 33 0), some (z_i (x1)), some (z_i (x2)), some (z_i (x3)), some (z_i (x4)), some (z_i (v65 - v65 / ((I61 34 0 k66) - x4) * ((I61 34 0 k66) - x4))), some (z_i 0)], [], (true, X60, I61, J62)) r)))))) :
    z_ev (d + 3) ((226, 36, [some (z_r 33 0), some (z_i (x1)), some (z_i (x2)), some (z_i (x3)), some (z_i (x4)), o5, o6], [], (true, X, I, J))) r := by
  refine z_ev_gs 3 (c1 := (226, (if x2 ≤ x4 then 115 else 42), [some (z_r 33 0), some (z_i (x1)), some (z_i (x2)), some (z_i (x3)), some (z_i (x4)), o5, o6], [], (true, X, I, J))) rfl ?_
  refine z_ev_ifle (fun e53 => ?_) (fun e53 => ?_)
  · have h71 := h.1 e53
    refine z_ev_gs 7 (c1 := (226, 125, [some (z_r 33 0), some (z_i (x1)), some (z_i (x2)), some (z_i (x3)), some (z_i (x4)), o5, o6], [z_i (x3), z_i ((10 : Int32) * x1), z_r 35 0, z_r 33 0], (true, X, I, J))) rfl ?_
    obtain ⟨v59, X54, I55, J56, g57, h58⟩ := h71
    refine z_ev_ca rfl rfl g57 ?_
    rw [h58]
    exact z_ev_rt rfl
  · have h72 := h.2 e53
    refine z_ev_gs 1 (c1 := (226, 43, [some (z_r 33 0), some (z_i (x1)), some (z_i (x2)), some (z_i (x3)), some (z_i (x4)), o5, o6], [z_r 33 0], (true, X, I, J))) rfl ?_
    obtain ⟨v65, X60, I61, J62, g63, h64⟩ := h72
    refine z_ev_ca rfl rfl g63 ?_
    refine z_ev_gs 3 (c1 := (226, 51, [some (z_r 33 0), some (z_i (x1)), some (z_i (x2)), some (z_i (x3)), some (z_i (x4)), o5, o6], [z_i (x1), z_r 34 0, z_i (v65)], (true, X60, I61, J62))) rfl ?_
    obtain ⟨k66, e67, e68, h69⟩ := h64
    refine z_ev_iald (t := 34) (i := 0) (k := k66) (n := 4) rfl rfl e67 e68 (by decide) ?_
    refine z_ev_gs 2 (c1 := (226, 55, [some (z_r 33 0), some (z_i (x1)), some (z_i (x2)), some (z_i (x3)), some (z_i (x4)), o5, o6], [z_i ((I61 34 0 k66) - x4), z_i (v65)], (true, X60, I61, J62))) rfl ?_
    obtain ⟨g0, h70⟩ := h69
    refine z_ev_dvi (w1 := ((I61 34 0 k66) - x4)) (c1 := (226, 56, [some (z_r 33 0), some (z_i (x1)), some (z_i (x2)), some (z_i (x3)), some (z_i (x4)), o5, o6], [z_i (v65 - v65 / ((I61 34 0 k66) - x4) * ((I61 34 0 k66) - x4))], (true, X60, I61, J62))) rfl g0 ?_
    refine z_ev_gs 3 (c1 := (226, 61, [some (z_r 33 0), some (z_i (x1)), some (z_i (x2)), some (z_i (x3)), some (z_i (x4)), some (z_i (v65 - v65 / ((I61 34 0 k66) - x4) * ((I61 34 0 k66) - x4))), some (z_i 0)], [], (true, X60, I61, J62))) rfl ?_
    exact h70
theorem z_q226_61 {d : Nat} {r : Option z_V × z_M} {X : z_X} {I : Nat → Nat → Nat → Int32} {J : Nat → Nat → Nat → Int64} (x1 : Int32) (x2 : Int32) (x3 : Int32) (x4 : Int32) (x5 : Int32) (x6 : Int32)
    (h : ((((x3 >>> (x6 &&& 31)) &&& (1 : Int32)) = (1 : Int32) → z_ev (d + 3) (226, 61, [some (z_r 33 0), some (z_i (x1)), some (z_i (x2)), some (z_i (x3)), some (z_i (x4)), some (z_i (x5 - (0 : Int32))), some (z_i (x6 + (1 : Int32)))], [], (true, X, I, J)) r) ∧ (¬ ((x3 >>> (x6 &&& 31)) &&& (1 : Int32)) = (1 : Int32) → ((x5 ≤ 0 → z_ev (d + 3) (226, 36, [some (z_r 33 0), some (z_i (x1)), some (z_i (x2)), some (z_i (x3 ||| ((1 : Int32) <<< (x6 &&& 31)))), some (z_i (x4 + (1 : Int32))), some (z_i (x5)), some (z_i (x6))], [], (true, X, I, J)) r) ∧ (0 < x5 → z_ev (d + 3) (226, 61, [some (z_r 33 0), some (z_i (x1)), some (z_i (x2)), some (z_i (x3)), some (z_i (x4)), some (z_i (x5 - (1 : Int32))), some (z_i (x6 + (1 : Int32)))], [], (true, X, I, J)) r))))) :
    z_ev (d + 3) ((226, 61, [some (z_r 33 0), some (z_i (x1)), some (z_i (x2)), some (z_i (x3)), some (z_i (x4)), some (z_i (x5)), some (z_i (x6))], [], (true, X, I, J))) r := by
  refine z_ev_gs 7 (c1 := (226, (if ((x3 >>> (x6 &&& 31)) &&& (1 : Int32)) = (1 : Int32) then 76 else 71), [some (z_r 33 0), some (z_i (x1)), some (z_i (x2)), some (z_i (x3)), some (z_i (x4)), some (z_i (x5)), some (z_i (x6))], [], (true, X, I, J))) rfl ?_
  refine z_ev_if (fun e73 => ?_) (fun e73 => ?_)
  · have h77 := h.1 e73
    refine z_ev_gs 8 (c1 := (226, (if ¬ ((x3 >>> (x6 &&& 31)) &&& (1 : Int32)) = (1 : Int32) then 92 else 88), [some (z_r 33 0), some (z_i (x1)), some (z_i (x2)), some (z_i (x3)), some (z_i (x4)), some (z_i (x5)), some (z_i (x6))], [z_i (x5)], (true, X, I, J))) rfl ?_
    rw [if_neg (fun q9 => q9 e73)]
    refine z_ev_gs 6 (c1 := (226, 61, [some (z_r 33 0), some (z_i (x1)), some (z_i (x2)), some (z_i (x3)), some (z_i (x4)), some (z_i (x5 - (0 : Int32))), some (z_i (x6 + (1 : Int32)))], [], (true, X, I, J))) rfl ?_
    exact h77
  · have h78 := h.2 e73
    refine z_ev_gs 2 (c1 := (226, (if x5 ≤ 0 then 102 else 76), [some (z_r 33 0), some (z_i (x1)), some (z_i (x2)), some (z_i (x3)), some (z_i (x4)), some (z_i (x5)), some (z_i (x6))], [], (true, X, I, J))) rfl ?_
    refine z_ev_ifle (fun e74 => ?_) (fun e74 => ?_)
    · have h75 := h78.1 e74
      refine z_ev_gs 8 (c1 := (226, 36, [some (z_r 33 0), some (z_i (x1)), some (z_i (x2)), some (z_i (x3 ||| ((1 : Int32) <<< (x6 &&& 31)))), some (z_i (x4 + (1 : Int32))), some (z_i (x5)), some (z_i (x6))], [], (true, X, I, J))) rfl ?_
      exact h75
    · have h76 := h78.2 e74
      refine z_ev_gs 8 (c1 := (226, (if ¬ ((x3 >>> (x6 &&& 31)) &&& (1 : Int32)) = (1 : Int32) then 92 else 88), [some (z_r 33 0), some (z_i (x1)), some (z_i (x2)), some (z_i (x3)), some (z_i (x4)), some (z_i (x5)), some (z_i (x6))], [z_i (x5)], (true, X, I, J))) rfl ?_
      rw [if_pos e73]
      refine z_ev_gs 5 (c1 := (226, 61, [some (z_r 33 0), some (z_i (x1)), some (z_i (x2)), some (z_i (x3)), some (z_i (x4)), some (z_i (x5 - (1 : Int32))), some (z_i (x6 + (1 : Int32)))], [], (true, X, I, J))) rfl ?_
      exact h76
