/-! segments: nets; printed by wip/whole/emit_seg.py -/
theorem z_q275_e {d : Nat} {r : Option z_V × z_M} {X : z_X} {I : Nat → Nat → Nat → Int32} {J : Nat → Nat → Nat → Int64} (x0 : Int32)
    (h : r = (some (z_i ((((((((x0 - (((x0.toUInt32 >>> ((1 : Int32).toUInt32 &&& Int32.toUInt32 31)).toInt32) &&& (1431655765 : Int32))) &&& (858993459 : Int32)) + ((((x0 - (((x0.toUInt32 >>> ((1 : Int32).toUInt32 &&& Int32.toUInt32 31)).toInt32) &&& (1431655765 : Int32))).toUInt32 >>> ((2 : Int32).toUInt32 &&& Int32.toUInt32 31)).toInt32) &&& (858993459 : Int32))) + (((((x0 - (((x0.toUInt32 >>> ((1 : Int32).toUInt32 &&& Int32.toUInt32 31)).toInt32) &&& (1431655765 : Int32))) &&& (858993459 : Int32)) + ((((x0 - (((x0.toUInt32 >>> ((1 : Int32).toUInt32 &&& Int32.toUInt32 31)).toInt32) &&& (1431655765 : Int32))).toUInt32 >>> ((2 : Int32).toUInt32 &&& Int32.toUInt32 31)).toInt32) &&& (858993459 : Int32))).toUInt32 >>> ((4 : Int32).toUInt32 &&& Int32.toUInt32 31)).toInt32)) &&& (252645135 : Int32)) + (((((((x0 - (((x0.toUInt32 >>> ((1 : Int32).toUInt32 &&& Int32.toUInt32 31)).toInt32) &&& (1431655765 : Int32))) &&& (858993459 : Int32)) + ((((x0 - (((x0.toUInt32 >>> ((1 : Int32).toUInt32 &&& Int32.toUInt32 31)).toInt32) &&& (1431655765 : Int32))).toUInt32 >>> ((2 : Int32).toUInt32 &&& Int32.toUInt32 31)).toInt32) &&& (858993459 : Int32))) + (((((x0 - (((x0.toUInt32 >>> ((1 : Int32).toUInt32 &&& Int32.toUInt32 31)).toInt32) &&& (1431655765 : Int32))) &&& (858993459 : Int32)) + ((((x0 - (((x0.toUInt32 >>> ((1 : Int32).toUInt32 &&& Int32.toUInt32 31)).toInt32) &&& (1431655765 : Int32))).toUInt32 >>> ((2 : Int32).toUInt32 &&& Int32.toUInt32 31)).toInt32) &&& (858993459 : Int32))).toUInt32 >>> ((4 : Int32).toUInt32 &&& Int32.toUInt32 31)).toInt32)) &&& (252645135 : Int32)).toUInt32 >>> ((8 : Int32).toUInt32 &&& Int32.toUInt32 31)).toInt32)) + ((((((((x0 - (((x0.toUInt32 >>> ((1 : Int32).toUInt32 &&& Int32.toUInt32 31)).toInt32) &&& (1431655765 : Int32))) &&& (858993459 : Int32)) + ((((x0 - (((x0.toUInt32 >>> ((1 : Int32).toUInt32 &&& Int32.toUInt32 31)).toInt32) &&& (1431655765 : Int32))).toUInt32 >>> ((2 : Int32).toUInt32 &&& Int32.toUInt32 31)).toInt32) &&& (858993459 : Int32))) + (((((x0 - (((x0.toUInt32 >>> ((1 : Int32).toUInt32 &&& Int32.toUInt32 31)).toInt32) &&& (1431655765 : Int32))) &&& (858993459 : Int32)) + ((((x0 - (((x0.toUInt32 >>> ((1 : Int32).toUInt32 &&& Int32.toUInt32 31)).toInt32) &&& (1431655765 : Int32))).toUInt32 >>> ((2 : Int32).toUInt32 &&& Int32.toUInt32 31)).toInt32) &&& (858993459 : Int32))).toUInt32 >>> ((4 : Int32).toUInt32 &&& Int32.toUInt32 31)).toInt32)) &&& (252645135 : Int32)) + (((((((x0 - (((x0.toUInt32 >>> ((1 : Int32).toUInt32 &&& Int32.toUInt32 31)).toInt32) &&& (1431655765 : Int32))) &&& (858993459 : Int32)) + ((((x0 - (((x0.toUInt32 >>> ((1 : Int32).toUInt32 &&& Int32.toUInt32 31)).toInt32) &&& (1431655765 : Int32))).toUInt32 >>> ((2 : Int32).toUInt32 &&& Int32.toUInt32 31)).toInt32) &&& (858993459 : Int32))) + (((((x0 - (((x0.toUInt32 >>> ((1 : Int32).toUInt32 &&& Int32.toUInt32 31)).toInt32) &&& (1431655765 : Int32))) &&& (858993459 : Int32)) + ((((x0 - (((x0.toUInt32 >>> ((1 : Int32).toUInt32 &&& Int32.toUInt32 31)).toInt32) &&& (1431655765 : Int32))).toUInt32 >>> ((2 : Int32).toUInt32 &&& Int32.toUInt32 31)).toInt32) &&& (858993459 : Int32))).toUInt32 >>> ((4 : Int32).toUInt32 &&& Int32.toUInt32 31)).toInt32)) &&& (252645135 : Int32)).toUInt32 >>> ((8 : Int32).toUInt32 &&& Int32.toUInt32 31)).toInt32)).toUInt32 >>> ((16 : Int32).toUInt32 &&& Int32.toUInt32 31)).toInt32)) &&& (63 : Int32))), (true, X, I, J))) :
    z_ev d (z_en 275 [z_i (x0)] (true, X, I, J)) r := by
  show z_ev d (275, 0, [some (z_i (x0))], [], (true, X, I, J)) r
  refine z_ev_gs 41 (c1 := (275, 52, [some (z_i (((((((x0 - (((x0.toUInt32 >>> ((1 : Int32).toUInt32 &&& Int32.toUInt32 31)).toInt32) &&& (1431655765 : Int32))) &&& (858993459 : Int32)) + ((((x0 - (((x0.toUInt32 >>> ((1 : Int32).toUInt32 &&& Int32.toUInt32 31)).toInt32) &&& (1431655765 : Int32))).toUInt32 >>> ((2 : Int32).toUInt32 &&& Int32.toUInt32 31)).toInt32) &&& (858993459 : Int32))) + (((((x0 - (((x0.toUInt32 >>> ((1 : Int32).toUInt32 &&& Int32.toUInt32 31)).toInt32) &&& (1431655765 : Int32))) &&& (858993459 : Int32)) + ((((x0 - (((x0.toUInt32 >>> ((1 : Int32).toUInt32 &&& Int32.toUInt32 31)).toInt32) &&& (1431655765 : Int32))).toUInt32 >>> ((2 : Int32).toUInt32 &&& Int32.toUInt32 31)).toInt32) &&& (858993459 : Int32))).toUInt32 >>> ((4 : Int32).toUInt32 &&& Int32.toUInt32 31)).toInt32)) &&& (252645135 : Int32)) + (((((((x0 - (((x0.toUInt32 >>> ((1 : Int32).toUInt32 &&& Int32.toUInt32 31)).toInt32) &&& (1431655765 : Int32))) &&& (858993459 : Int32)) + ((((x0 - (((x0.toUInt32 >>> ((1 : Int32).toUInt32 &&& Int32.toUInt32 31)).toInt32) &&& (1431655765 : Int32))).toUInt32 >>> ((2 : Int32).toUInt32 &&& Int32.toUInt32 31)).toInt32) &&& (858993459 : Int32))) + (((((x0 - (((x0.toUInt32 >>> ((1 : Int32).toUInt32 &&& Int32.toUInt32 31)).toInt32) &&& (1431655765 : Int32))) &&& (858993459 : Int32)) + ((((x0 - (((x0.toUInt32 >>> ((1 : Int32).toUInt32 &&& Int32.toUInt32 31)).toInt32) &&& (1431655765 : Int32))).toUInt32 >>> ((2 : Int32).toUInt32 &&& Int32.toUInt32 31)).toInt32) &&& (858993459 : Int32))).toUInt32 >>> ((4 : Int32).toUInt32 &&& Int32.toUInt32 31)).toInt32)) &&& (252645135 : Int32)).toUInt32 >>> ((8 : Int32).toUInt32 &&& Int32.toUInt32 31)).toInt32)) + ((((((((x0 - (((x0.toUInt32 >>> ((1 : Int32).toUInt32 &&& Int32.toUInt32 31)).toInt32) &&& (1431655765 : Int32))) &&& (858993459 : Int32)) + ((((x0 - (((x0.toUInt32 >>> ((1 : Int32).toUInt32 &&& Int32.toUInt32 31)).toInt32) &&& (1431655765 : Int32))).toUInt32 >>> ((2 : Int32).toUInt32 &&& Int32.toUInt32 31)).toInt32) &&& (858993459 : Int32))) + (((((x0 - (((x0.toUInt32 >>> ((1 : Int32).toUInt32 &&& Int32.toUInt32 31)).toInt32) &&& (1431655765 : Int32))) &&& (858993459 : Int32)) + ((((x0 - (((x0.toUInt32 >>> ((1 : Int32).toUInt32 &&& Int32.toUInt32 31)).toInt32) &&& (1431655765 : Int32))).toUInt32 >>> ((2 : Int32).toUInt32 &&& Int32.toUInt32 31)).toInt32) &&& (858993459 : Int32))).toUInt32 >>> ((4 : Int32).toUInt32 &&& Int32.toUInt32 31)).toInt32)) &&& (252645135 : Int32)) + (((((((x0 - (((x0.toUInt32 >>> ((1 : Int32).toUInt32 &&& Int32.toUInt32 31)).toInt32) &&& (1431655765 : Int32))) &&& (858993459 : Int32)) + ((((x0 - (((x0.toUInt32 >>> ((1 : Int32).toUInt32 &&& Int32.toUInt32 31)).toInt32) &&& (1431655765 : Int32))).toUInt32 >>> ((2 : Int32).toUInt32 &&& Int32.toUInt32 31)).toInt32) &&& (858993459 : Int32))) + (((((x0 - (((x0.toUInt32 >>> ((1 : Int32).toUInt32 &&& Int32.toUInt32 31)).toInt32) &&& (1431655765 : Int32))) &&& (858993459 : Int32)) + ((((x0 - (((x0.toUInt32 >>> ((1 : Int32).toUInt32 &&& Int32.toUInt32 31)).toInt32) &&& (1431655765 : Int32))).toUInt32 >>> ((2 : Int32).toUInt32 &&& Int32.toUInt32 31)).toInt32) &&& (858993459 : Int32))).toUInt32 >>> ((4 : Int32).toUInt32 &&& Int32.toUInt32 31)).toInt32)) &&& (252645135 : Int32)).toUInt32 >>> ((8 : Int32).toUInt32 &&& Int32.toUInt32 31)).toInt32)).toUInt32 >>> ((16 : Int32).toUInt32 &&& Int32.toUInt32 31)).toInt32)))], [z_i ((((((((x0 - (((x0.toUInt32 >>> ((1 : Int32).toUInt32 &&& Int32.toUInt32 31)).toInt32) &&& (1431655765 : Int32))) &&& (858993459 : Int32)) + ((((x0 - (((x0.toUInt32 >>> ((1 : Int32).toUInt32 &&& Int32.toUInt32 31)).toInt32) &&& (1431655765 : Int32))).toUInt32 >>> ((2 : Int32).toUInt32 &&& Int32.toUInt32 31)).toInt32) &&& (858993459 : Int32))) + (((((x0 - (((x0.toUInt32 >>> ((1 : Int32).toUInt32 &&& Int32.toUInt32 31)).toInt32) &&& (1431655765 : Int32))) &&& (858993459 : Int32)) + ((((x0 - (((x0.toUInt32 >>> ((1 : Int32).toUInt32 &&& Int32.toUInt32 31)).toInt32) &&& (1431655765 : Int32))).toUInt32 >>> ((2 : Int32).toUInt32 &&& Int32.toUInt32 31)).toInt32) &&& (858993459 : Int32))).toUInt32 >>> ((4 : Int32).toUInt32 &&& Int32.toUInt32 31)).toInt32)) &&& (252645135 : Int32)) + (((((((x0 - (((x0.toUInt32 >>> ((1 : Int32).toUInt32 &&& Int32.toUInt32 31)).toInt32) &&& (1431655765 : Int32))) &&& (858993459 : Int32)) + ((((x0 - (((x0.toUInt32 >>> ((1 : Int32).toUInt32 &&& Int32.toUInt32 31)).toInt32) &&& (1431655765 : Int32))).toUInt32 >>> ((2 : Int32).toUInt32 &&& Int32.toUInt32 31)).toInt32) &&& (858993459 : Int32))) + (((((x0 - (((x0.toUInt32 >>> ((1 : Int32).toUInt32 &&& Int32.toUInt32 31)).toInt32) &&& (1431655765 : Int32))) &&& (858993459 : Int32)) + ((((x0 - (((x0.toUInt32 >>> ((1 : Int32).toUInt32 &&& Int32.toUInt32 31)).toInt32) &&& (1431655765 : Int32))).toUInt32 >>> ((2 : Int32).toUInt32 &&& Int32.toUInt32 31)).toInt32) &&& (858993459 : Int32))).toUInt32 >>> ((4 : Int32).toUInt32 &&& Int32.toUInt32 31)).toInt32)) &&& (252645135 : Int32)).toUInt32 >>> ((8 : Int32).toUInt32 &&& Int32.toUInt32 31)).toInt32)) + ((((((((x0 - (((x0.toUInt32 >>> ((1 : Int32).toUInt32 &&& Int32.toUInt32 31)).toInt32) &&& (1431655765 : Int32))) &&& (858993459 : Int32)) + ((((x0 - (((x0.toUInt32 >>> ((1 : Int32).toUInt32 &&& Int32.toUInt32 31)).toInt32) &&& (1431655765 : Int32))).toUInt32 >>> ((2 : Int32).toUInt32 &&& Int32.toUInt32 31)).toInt32) &&& (858993459 : Int32))) + (((((x0 - (((x0.toUInt32 >>> ((1 : Int32).toUInt32 &&& Int32.toUInt32 31)).toInt32) &&& (1431655765 : Int32))) &&& (858993459 : Int32)) + ((((x0 - (((x0.toUInt32 >>> ((1 : Int32).toUInt32 &&& Int32.toUInt32 31)).toInt32) &&& (1431655765 : Int32))).toUInt32 >>> ((2 : Int32).toUInt32 &&& Int32.toUInt32 31)).toInt32) &&& (858993459 : Int32))).toUInt32 >>> ((4 : Int32).toUInt32 &&& Int32.toUInt32 31)).toInt32)) &&& (252645135 : Int32)) + (((((((x0 - (((x0.toUInt32 >>> ((1 : Int32).toUInt32 &&& Int32.toUInt32 31)).toInt32) &&& (1431655765 : Int32))) &&& (858993459 : Int32)) + ((((x0 - (((x0.toUInt32 >>> ((1 : Int32).toUInt32 &&& Int32.toUInt32 31)).toInt32) &&& (1431655765 : Int32))).toUInt32 >>> ((2 : Int32).toUInt32 &&& Int32.toUInt32 31)).toInt32) &&& (858993459 : Int32))) + (((((x0 - (((x0.toUInt32 >>> ((1 : Int32).toUInt32 &&& Int32.toUInt32 31)).toInt32) &&& (1431655765 : Int32))) &&& (858993459 : Int32)) + ((((x0 - (((x0.toUInt32 >>> ((1 : Int32).toUInt32 &&& Int32.toUInt32 31)).toInt32) &&& (1431655765 : Int32))).toUInt32 >>> ((2 : Int32).toUInt32 &&& Int32.toUInt32 31)).toInt32) &&& (858993459 : Int32))).toUInt32 >>> ((4 : Int32).toUInt32 &&& Int32.toUInt32 31)).toInt32)) &&& (252645135 : Int32)).toUInt32 >>> ((8 : Int32).toUInt32 &&& Int32.toUInt32 31)).toInt32)).toUInt32 >>> ((16 : Int32).toUInt32 &&& Int32.toUInt32 31)).toInt32)) &&& (63 : Int32))], (true, X, I, J))) rfl ?_
  rw [h]
  exact z_ev_rt rfl
theorem z_q170_e {d : Nat} {r : Option z_V × z_M} {X : z_X} {I : Nat → Nat → Nat → Int32} {J : Nat → Nat → Nat → Int64} (x0 : Int32)
    (h : z_ev d (170, 4, [some (z_i (x0)), some (z_i 0), some (z_i (x0))], [], (true, X, I, J)) r) :
    z_ev d (z_en 170 [z_i (x0)] (true, X, I, J)) r := by
  show z_ev d (170, 0, [some (z_i (x0)), none, none], [], (true, X, I, J)) r
  refine z_ev_gs 4 (c1 := (170, 4, [some (z_i (x0)), some (z_i 0), some (z_i (x0))], [], (true, X, I, J))) rfl ?_
  exact h
theorem z_q170_4 {d : Nat} {r : Option z_V × z_M} {X : z_X} {I : Nat → Nat → Nat → Int32} {J : Nat → Nat → Nat → Int64} (x0 : Int32) (x1 : Int32) (x2 : Int32)
    (h : ((x2 = 0 → r = (some (z_i (x1)), (true, X, I, J))) ∧ (¬ x2 = 0 → z_ev d (170, 4, [some (z_i (x0)), some (z_i (x1 + (1 : Int32))), some (z_i (x2 &&& (x2 - (1 : Int32))))], [], (true, X, I, J)) r))) :
    z_ev d ((170, 4, [some (z_i (x0)), some (z_i (x1)), some (z_i (x2))], [], (true, X, I, J))) r := by
  refine z_ev_gs 2 (c1 := (170, (if x2 = 0 then 20 else 8), [some (z_i (x0)), some (z_i (x1)), some (z_i (x2))], [], (true, X, I, J))) rfl ?_
  refine z_ev_if (fun e1 => ?_) (fun e1 => ?_)
  · have h2 := h.1 e1
    refine z_ev_gs 1 (c1 := (170, 21, [some (z_i (x0)), some (z_i (x1)), some (z_i (x2))], [z_i (x1)], (true, X, I, J))) rfl ?_
    rw [h2]
    exact z_ev_rt rfl
  · have h3 := h.2 e1
    refine z_ev_gs 8 (c1 := (170, 4, [some (z_i (x0)), some (z_i (x1 + (1 : Int32))), some (z_i (x2 &&& (x2 - (1 : Int32))))], [], (true, X, I, J))) rfl ?_
    exact h3
theorem z_q19_e {d : Nat} {r : Option z_V × z_M} {X : z_X} {I : Nat → Nat → Nat → Int32} {J : Nat → Nat → Nat → Int64} (q0 : Nat) (hq0 : q0 < 10) (x1 : Int32)
    (h : z_ev d (19, 7, [some (z_r 13 q0), some (z_i (x1)), some (z_i 0)], [], (true, X, (z_up I 13 q0 1 x1), J)) r) :
    z_ev d (z_en 19 [z_r 13 q0, z_i (x1)] (true, X, I, J)) r := by
  show z_ev d (19, 0, [some (z_r 13 q0), some (z_i (x1)), none], [], (true, X, I, J)) r
  refine z_ev_gs 2 (c1 := (19, 2, [some (z_r 13 q0), some (z_i (x1)), none], [z_i (x1), z_r 13 q0], (true, X, I, J))) rfl ?_
  refine z_ev_gi (c1 := (19, 5, [some (z_r 13 q0), some (z_i (x1)), none], [], (true, X, (z_up I 13 q0 1 x1), J))) rfl hq0 ?_
  refine z_ev_gs 2 (c1 := (19, 7, [some (z_r 13 q0), some (z_i (x1)), some (z_i 0)], [], (true, X, (z_up I 13 q0 1 x1), J))) rfl ?_
  exact h
theorem z_q19_7 {d : Nat} {r : Option z_V × z_M} {X : z_X} {I : Nat → Nat → Nat → Int32} {J : Nat → Nat → Nat → Int64} (q0 : Nat) (hq0 : q0 < 10) (x1 : Int32) (x2 : Int32)
    (h : (((10 : Int32) ≤ x2 → r = (none, (true, X, I, J))) ∧ (x2 < (10 : Int32) → (∃ k2 : Nat, x2 = Int32.ofNat k2 ∧ k2 < 10 ∧ z_ev d (19, 7, [some (z_r 13 q0), some (z_i (x1)), some (z_i (x2 + (1 : Int32)))], [], (true, X, (z_up I 14 q0 k2 (0 : Int32)), J)) r)))) :
    z_ev d ((19, 7, [some (z_r 13 q0), some (z_i (x1)), some (z_i (x2))], [], (true, X, I, J))) r := by
  refine z_ev_gs 3 (c1 := (19, (if (10 : Int32) ≤ x2 then 26 else 13), [some (z_r 13 q0), some (z_i (x1)), some (z_i (x2))], [], (true, X, I, J))) rfl ?_
  refine z_ev_ifle (fun e1 => ?_) (fun e1 => ?_)
  · have h6 := h.1 e1
    rw [h6]
    exact z_ev_rt rfl
  · have h7 := h.2 e1
    refine z_ev_gs 1 (c1 := (19, 14, [some (z_r 13 q0), some (z_i (x1)), some (z_i (x2))], [z_r 13 q0], (true, X, I, J))) rfl ?_
    refine z_ev_gi (c1 := (19, 17, [some (z_r 13 q0), some (z_i (x1)), some (z_i (x2))], [z_r 14 q0], (true, X, I, J))) rfl hq0 ?_
    refine z_ev_gs 2 (c1 := (19, 19, [some (z_r 13 q0), some (z_i (x1)), some (z_i (x2))], [z_i 0, z_i (x2), z_r 14 q0], (true, X, I, J))) rfl ?_
    obtain ⟨k2, e3, e4, h5⟩ := h7
    refine z_ev_iast (t := 14) (i := q0) (k := k2) (n := 10) rfl (z_gt hq0) e3 e4 (by decide) ?_
    refine z_ev_gs 2 (c1 := (19, 7, [some (z_r 13 q0), some (z_i (x1)), some (z_i (x2 + (1 : Int32)))], [], (true, X, (z_up I 14 q0 k2 (0 : Int32)), J))) rfl ?_
    exact h5
theorem z_q20_e {d : Nat} {r : Option z_V × z_M} {X : z_X} {I : Nat → Nat → Nat → Int32} {J : Nat → Nat → Nat → Int64} (q0 : Nat) (hq0 : q0 < 10) (q1 : Nat) (hq1 : q1 < 10)
    (h : z_ev d (20, 10, [some (z_r 13 q0), some (z_r 13 q1), some (z_i 0)], [], (true, X, (z_up I 13 q0 1 (I 13 q1 1)), J)) r) :
    z_ev d (z_en 20 [z_r 13 q0, z_r 13 q1] (true, X, I, J)) r := by
  show z_ev d (20, 0, [some (z_r 13 q0), some (z_r 13 q1), none], [], (true, X, I, J)) r
  refine z_ev_gs 2 (c1 := (20, 2, [some (z_r 13 q0), some (z_r 13 q1), none], [z_r 13 q1, z_r 13 q0], (true, X, I, J))) rfl ?_
  refine z_ev_gi (c1 := (20, 5, [some (z_r 13 q0), some (z_r 13 q1), none], [z_i (I 13 q1 1), z_r 13 q0], (true, X, I, J))) rfl hq1 ?_
  refine z_ev_gi (c1 := (20, 8, [some (z_r 13 q0), some (z_r 13 q1), none], [], (true, X, (z_up I 13 q0 1 (I 13 q1 1)), J))) rfl hq0 ?_
  refine z_ev_gs 2 (c1 := (20, 10, [some (z_r 13 q0), some (z_r 13 q1), some (z_i 0)], [], (true, X, (z_up I 13 q0 1 (I 13 q1 1)), J))) rfl ?_
  exact h
theorem z_q20_10 {d : Nat} {r : Option z_V × z_M} {X : z_X} {I : Nat → Nat → Nat → Int32} {J : Nat → Nat → Nat → Int64} (q0 : Nat) (hq0 : q0 < 10) (q1 : Nat) (hq1 : q1 < 10) (x2 : Int32)
    (h : (((10 : Int32) ≤ x2 → r = (none, (true, X, I, J))) ∧ (x2 < (10 : Int32) → (∃ k2 : Nat, x2 = Int32.ofNat k2 ∧ k2 < 10 ∧ z_ev d (20, 10, [some (z_r 13 q0), some (z_r 13 q1), some (z_i (x2 + (1 : Int32)))], [], (true, X, (z_up I 14 q0 k2 (I 14 q1 k2)), J)) r)))) :
    z_ev d ((20, 10, [some (z_r 13 q0), some (z_r 13 q1), some (z_i (x2))], [], (true, X, I, J))) r := by
  refine z_ev_gs 3 (c1 := (20, (if (10 : Int32) ≤ x2 then 34 else 16), [some (z_r 13 q0), some (z_r 13 q1), some (z_i (x2))], [], (true, X, I, J))) rfl ?_
  refine z_ev_ifle (fun e1 => ?_) (fun e1 => ?_)
  · have h6 := h.1 e1
    rw [h6]
    exact z_ev_rt rfl
  · have h7 := h.2 e1
    refine z_ev_gs 1 (c1 := (20, 17, [some (z_r 13 q0), some (z_r 13 q1), some (z_i (x2))], [z_r 13 q0], (true, X, I, J))) rfl ?_
    refine z_ev_gi (c1 := (20, 20, [some (z_r 13 q0), some (z_r 13 q1), some (z_i (x2))], [z_r 14 q0], (true, X, I, J))) rfl hq0 ?_
    refine z_ev_gs 2 (c1 := (20, 22, [some (z_r 13 q0), some (z_r 13 q1), some (z_i (x2))], [z_r 13 q1, z_i (x2), z_r 14 q0], (true, X, I, J))) rfl ?_
    refine z_ev_gi (c1 := (20, 25, [some (z_r 13 q0), some (z_r 13 q1), some (z_i (x2))], [z_r 14 q1, z_i (x2), z_r 14 q0], (true, X, I, J))) rfl hq1 ?_
    refine z_ev_gs 1 (c1 := (20, 26, [some (z_r 13 q0), some (z_r 13 q1), some (z_i (x2))], [z_i (x2), z_r 14 q1, z_i (x2), z_r 14 q0], (true, X, I, J))) rfl ?_
    obtain ⟨k2, e3, e4, h5⟩ := h7
    refine z_ev_iald (t := 14) (i := q1) (k := k2) (n := 10) rfl (z_gt hq1) e3 e4 (by decide) ?_
    refine z_ev_iast (t := 14) (i := q0) (k := k2) (n := 10) rfl (z_gt hq0) e3 (Nat.lt_of_lt_of_le e4 (by decide)) (by decide) ?_
    refine z_ev_gs 2 (c1 := (20, 10, [some (z_r 13 q0), some (z_r 13 q1), some (z_i (x2 + (1 : Int32)))], [], (true, X, (z_up I 14 q0 k2 (I 14 q1 k2)), J))) rfl ?_
    exact h5
theorem z_q23_e {d : Nat} {r : Option z_V × z_M} {X : z_X} {I : Nat → Nat → Nat → Int32} {J : Nat → Nat → Nat → Int64} (q0 : Nat) (hq0 : q0 < 10) (x1 : Int32) (x2 : Int32) (b3 : Bool)
    (h : ((b3 = false → (∃ k2 : Nat, x1 = Int32.ofNat k2 ∧ k2 < 10 ∧ (∃ k6 : Nat, x2 = Int32.ofNat k6 ∧ k6 < 10 ∧ r = (none, (true, X, (z_up (z_up I 14 q0 k2 ((I 14 q0 k2) &&& (((1 : Int32) <<< (x2 &&& 31)) ^^^ (-1 : Int32)))) 14 q0 k6 (((z_up I 14 q0 k2 ((I 14 q0 k2) &&& (((1 : Int32) <<< (x2 &&& 31)) ^^^ (-1 : Int32)))) 14 q0 k6) &&& (((1 : Int32) <<< (x1 &&& 31)) ^^^ (-1 : Int32)))), J))))) ∧ (b3 = true → (∃ k10 : Nat, x1 = Int32.ofNat k10 ∧ k10 < 10 ∧ (∃ k14 : Nat, x2 = Int32.ofNat k14 ∧ k14 < 10 ∧ r = (none, (true, X, (z_up (z_up I 14 q0 k10 ((I 14 q0 k10) ||| ((1 : Int32) <<< (x2 &&& 31)))) 14 q0 k14 (((z_up I 14 q0 k10 ((I 14 q0 k10) ||| ((1 : Int32) <<< (x2 &&& 31)))) 14 q0 k14) ||| ((1 : Int32) <<< (x1 &&& 31)))), J))))))) :
    z_ev d (z_en 23 [z_r 13 q0, z_i (x1), z_i (x2), z_i (z_c b3)] (true, X, I, J)) r := by
  show z_ev d (23, 0, [some (z_r 13 q0), some (z_i (x1)), some (z_i (x2)), some (z_i (z_c b3))], [], (true, X, I, J)) r
  refine z_ev_gs 2 (c1 := (23, (if z_c b3 = 0 then 31 else 4), [some (z_r 13 q0), some (z_i (x1)), some (z_i (x2)), some (z_i (z_c b3))], [], (true, X, I, J))) rfl ?_
  refine z_ev_ifc (fun e1 => ?_) (fun e1 => ?_)
  · have h18 := h.1 e1
    refine z_ev_gs 1 (c1 := (23, 32, [some (z_r 13 q0), some (z_i (x1)), some (z_i (x2)), some (z_i (z_c b3))], [z_r 13 q0], (true, X, I, J))) rfl ?_
    refine z_ev_gi (c1 := (23, 35, [some (z_r 13 q0), some (z_i (x1)), some (z_i (x2)), some (z_i (z_c b3))], [z_r 14 q0], (true, X, I, J))) rfl hq0 ?_
    refine z_ev_gs 2 (c1 := (23, 37, [some (z_r 13 q0), some (z_i (x1)), some (z_i (x2)), some (z_i (z_c b3))], [z_i (x1), z_r 14 q0, z_i (x1), z_r 14 q0], (true, X, I, J))) rfl ?_
    obtain ⟨k2, e3, e4, h5⟩ := h18
    refine z_ev_iald (t := 14) (i := q0) (k := k2) (n := 10) rfl (z_gt hq0) e3 e4 (by decide) ?_
    refine z_ev_gs 6 (c1 := (23, 44, [some (z_r 13 q0), some (z_i (x1)), some (z_i (x2)), some (z_i (z_c b3))], [z_i ((I 14 q0 k2) &&& (((1 : Int32) <<< (x2 &&& 31)) ^^^ (-1 : Int32))), z_i (x1), z_r 14 q0], (true, X, I, J))) rfl ?_
    refine z_ev_iast (t := 14) (i := q0) (k := k2) (n := 10) rfl (z_gt hq0) e3 (Nat.lt_of_lt_of_le e4 (by decide)) (by decide) ?_
    refine z_ev_gs 1 (c1 := (23, 46, [some (z_r 13 q0), some (z_i (x1)), some (z_i (x2)), some (z_i (z_c b3))], [z_r 13 q0], (true, X, (z_up I 14 q0 k2 ((I 14 q0 k2) &&& (((1 : Int32) <<< (x2 &&& 31)) ^^^ (-1 : Int32)))), J))) rfl ?_
    refine z_ev_gi (c1 := (23, 49, [some (z_r 13 q0), some (z_i (x1)), some (z_i (x2)), some (z_i (z_c b3))], [z_r 14 q0], (true, X, (z_up I 14 q0 k2 ((I 14 q0 k2) &&& (((1 : Int32) <<< (x2 &&& 31)) ^^^ (-1 : Int32)))), J))) rfl hq0 ?_
    refine z_ev_gs 2 (c1 := (23, 51, [some (z_r 13 q0), some (z_i (x1)), some (z_i (x2)), some (z_i (z_c b3))], [z_i (x2), z_r 14 q0, z_i (x2), z_r 14 q0], (true, X, (z_up I 14 q0 k2 ((I 14 q0 k2) &&& (((1 : Int32) <<< (x2 &&& 31)) ^^^ (-1 : Int32)))), J))) rfl ?_
    obtain ⟨k6, e7, e8, h9⟩ := h5
    refine z_ev_iald (t := 14) (i := q0) (k := k6) (n := 10) rfl (z_gt hq0) e7 e8 (by decide) ?_
    refine z_ev_gs 6 (c1 := (23, 58, [some (z_r 13 q0), some (z_i (x1)), some (z_i (x2)), some (z_i (z_c b3))], [z_i (((z_up I 14 q0 k2 ((I 14 q0 k2) &&& (((1 : Int32) <<< (x2 &&& 31)) ^^^ (-1 : Int32)))) 14 q0 k6) &&& (((1 : Int32) <<< (x1 &&& 31)) ^^^ (-1 : Int32))), z_i (x2), z_r 14 q0], (true, X, (z_up I 14 q0 k2 ((I 14 q0 k2) &&& (((1 : Int32) <<< (x2 &&& 31)) ^^^ (-1 : Int32)))), J))) rfl ?_
    refine z_ev_iast (t := 14) (i := q0) (k := k6) (n := 10) rfl (z_gt hq0) e7 (Nat.lt_of_lt_of_le e8 (by decide)) (by decide) ?_
    rw [h9]
    exact z_ev_rt rfl
  · have h19 := h.2 e1
    refine z_ev_gs 1 (c1 := (23, 5, [some (z_r 13 q0), some (z_i (x1)), some (z_i (x2)), some (z_i (z_c b3))], [z_r 13 q0], (true, X, I, J))) rfl ?_
    refine z_ev_gi (c1 := (23, 8, [some (z_r 13 q0), some (z_i (x1)), some (z_i (x2)), some (z_i (z_c b3))], [z_r 14 q0], (true, X, I, J))) rfl hq0 ?_
    refine z_ev_gs 2 (c1 := (23, 10, [some (z_r 13 q0), some (z_i (x1)), some (z_i (x2)), some (z_i (z_c b3))], [z_i (x1), z_r 14 q0, z_i (x1), z_r 14 q0], (true, X, I, J))) rfl ?_
    obtain ⟨k10, e11, e12, h13⟩ := h19
    refine z_ev_iald (t := 14) (i := q0) (k := k10) (n := 10) rfl (z_gt hq0) e11 e12 (by decide) ?_
    refine z_ev_gs 4 (c1 := (23, 15, [some (z_r 13 q0), some (z_i (x1)), some (z_i (x2)), some (z_i (z_c b3))], [z_i ((I 14 q0 k10) ||| ((1 : Int32) <<< (x2 &&& 31))), z_i (x1), z_r 14 q0], (true, X, I, J))) rfl ?_
    refine z_ev_iast (t := 14) (i := q0) (k := k10) (n := 10) rfl (z_gt hq0) e11 (Nat.lt_of_lt_of_le e12 (by decide)) (by decide) ?_
    refine z_ev_gs 1 (c1 := (23, 17, [some (z_r 13 q0), some (z_i (x1)), some (z_i (x2)), some (z_i (z_c b3))], [z_r 13 q0], (true, X, (z_up I 14 q0 k10 ((I 14 q0 k10) ||| ((1 : Int32) <<< (x2 &&& 31)))), J))) rfl ?_
    refine z_ev_gi (c1 := (23, 20, [some (z_r 13 q0), some (z_i (x1)), some (z_i (x2)), some (z_i (z_c b3))], [z_r 14 q0], (true, X, (z_up I 14 q0 k10 ((I 14 q0 k10) ||| ((1 : Int32) <<< (x2 &&& 31)))), J))) rfl hq0 ?_
    refine z_ev_gs 2 (c1 := (23, 22, [some (z_r 13 q0), some (z_i (x1)), some (z_i (x2)), some (z_i (z_c b3))], [z_i (x2), z_r 14 q0, z_i (x2), z_r 14 q0], (true, X, (z_up I 14 q0 k10 ((I 14 q0 k10) ||| ((1 : Int32) <<< (x2 &&& 31)))), J))) rfl ?_
    obtain ⟨k14, e15, e16, h17⟩ := h13
    refine z_ev_iald (t := 14) (i := q0) (k := k14) (n := 10) rfl (z_gt hq0) e15 e16 (by decide) ?_
    refine z_ev_gs 4 (c1 := (23, 27, [some (z_r 13 q0), some (z_i (x1)), some (z_i (x2)), some (z_i (z_c b3))], [z_i (((z_up I 14 q0 k10 ((I 14 q0 k10) ||| ((1 : Int32) <<< (x2 &&& 31)))) 14 q0 k14) ||| ((1 : Int32) <<< (x1 &&& 31))), z_i (x2), z_r 14 q0], (true, X, (z_up I 14 q0 k10 ((I 14 q0 k10) ||| ((1 : Int32) <<< (x2 &&& 31)))), J))) rfl ?_
    refine z_ev_iast (t := 14) (i := q0) (k := k14) (n := 10) rfl (z_gt hq0) e15 (Nat.lt_of_lt_of_le e16 (by decide)) (by decide) ?_
    refine z_ev_gs 1 (c1 := (23, 59, [some (z_r 13 q0), some (z_i (x1)), some (z_i (x2)), some (z_i (z_c b3))], [], (true, X, (z_up (z_up I 14 q0 k10 ((I 14 q0 k10) ||| ((1 : Int32) <<< (x2 &&& 31)))) 14 q0 k14 (((z_up I 14 q0 k10 ((I 14 q0 k10) ||| ((1 : Int32) <<< (x2 &&& 31)))) 14 q0 k14) ||| ((1 : Int32) <<< (x1 &&& 31)))), J))) rfl ?_
    rw [h17]
    exact z_ev_rt rfl
theorem z_q22_e {d : Nat} {r : Option z_V × z_M} {X : z_X} {I : Nat → Nat → Nat → Int32} {J : Nat → Nat → Nat → Int64} (q0 : Nat) (hq0 : q0 < 10) (x1 : Int32) (x2 : Int32)
    (h : (∃ k1 : Nat, x1 = Int32.ofNat k1 ∧ k1 < 10 ∧ (((((I 14 q0 k1) >>> (x2 &&& 31)) &&& (1 : Int32)) = 0 → r = (some (z_i 0), (true, X, I, J))) ∧ (¬ (((I 14 q0 k1) >>> (x2 &&& 31)) &&& (1 : Int32)) = 0 → r = (some (z_i 1), (true, X, I, J)))))) :
    z_ev d (z_en 22 [z_r 13 q0, z_i (x1), z_i (x2)] (true, X, I, J)) r := by
  show z_ev d (22, 0, [some (z_r 13 q0), some (z_i (x1)), some (z_i (x2))], [], (true, X, I, J)) r
  refine z_ev_gs 1 (c1 := (22, 1, [some (z_r 13 q0), some (z_i (x1)), some (z_i (x2))], [z_r 13 q0], (true, X, I, J))) rfl ?_
  refine z_ev_gi (c1 := (22, 4, [some (z_r 13 q0), some (z_i (x1)), some (z_i (x2))], [z_r 14 q0], (true, X, I, J))) rfl hq0 ?_
  refine z_ev_gs 1 (c1 := (22, 5, [some (z_r 13 q0), some (z_i (x1)), some (z_i (x2))], [z_i (x1), z_r 14 q0], (true, X, I, J))) rfl ?_
  obtain ⟨k1, e2, e3, h4⟩ := h
  refine z_ev_iald (t := 14) (i := q0) (k := k1) (n := 10) rfl (z_gt hq0) e2 e3 (by decide) ?_
  refine z_ev_gs 5 (c1 := (22, (if (((I 14 q0 k1) >>> (x2 &&& 31)) &&& (1 : Int32)) = 0 then 17 else 13), [some (z_r 13 q0), some (z_i (x1)), some (z_i (x2))], [], (true, X, I, J))) rfl ?_
  refine z_ev_if (fun e5 => ?_) (fun e5 => ?_)
  · have h6 := h4.1 e5
    refine z_ev_gs 1 (c1 := (22, 18, [some (z_r 13 q0), some (z_i (x1)), some (z_i (x2))], [z_i 0], (true, X, I, J))) rfl ?_
    rw [h6]
    exact z_ev_rt rfl
  · have h7 := h4.2 e5
    refine z_ev_gs 2 (c1 := (22, 18, [some (z_r 13 q0), some (z_i (x1)), some (z_i (x2))], [z_i 1], (true, X, I, J))) rfl ?_
    rw [h7]
    exact z_ev_rt rfl
theorem z_q25_e {d : Nat} {r : Option z_V × z_M} {X : z_X} {I : Nat → Nat → Nat → Int32} {J : Nat → Nat → Nat → Int64} (q0 : Nat) (hq0 : q0 < 10)
    (h : z_ev d (25, 11, [some (z_r 13 q0), some (z_i (((1 : Int32) <<< ((I 13 q0 1) &&& 31)) - (1 : Int32))), some (z_i 0)], [], (true, X, I, J)) r) :
    z_ev d (z_en 25 [z_r 13 q0] (true, X, I, J)) r := by
  show z_ev d (25, 0, [some (z_r 13 q0), none, none], [], (true, X, I, J)) r
  refine z_ev_gs 2 (c1 := (25, 2, [some (z_r 13 q0), none, none], [z_r 13 q0, z_i 1], (true, X, I, J))) rfl ?_
  refine z_ev_gi (c1 := (25, 5, [some (z_r 13 q0), none, none], [z_i (I 13 q0 1), z_i 1], (true, X, I, J))) rfl hq0 ?_
  refine z_ev_gs 6 (c1 := (25, 11, [some (z_r 13 q0), some (z_i (((1 : Int32) <<< ((I 13 q0 1) &&& 31)) - (1 : Int32))), some (z_i 0)], [], (true, X, I, J))) rfl ?_
  exact h
theorem z_q25_11 {d : Nat} {r : Option z_V × z_M} {X : z_X} {I : Nat → Nat → Nat → Int32} {J : Nat → Nat → Nat → Int64} (q0 : Nat) (hq0 : q0 < 10) (x1 : Int32) (x2 : Int32)
    (h : (((I 13 q0 1) ≤ x2 → r = (none, (true, X, I, J))) ∧ (x2 < (I 13 q0 1) → (∃ k2 : Nat, x2 = Int32.ofNat k2 ∧ k2 < 10 ∧ z_ev d (25, 11, [some (z_r 13 q0), some (z_i (x1)), some (z_i (x2 + (1 : Int32)))], [], (true, X, (z_up I 14 q0 k2 ((I 14 q0 k2) ^^^ (x1 &&& (((1 : Int32) <<< (x2 &&& 31)) ^^^ (-1 : Int32))))), J)) r)))) :
    z_ev d ((25, 11, [some (z_r 13 q0), some (z_i (x1)), some (z_i (x2))], [], (true, X, I, J))) r := by
  refine z_ev_gs 2 (c1 := (25, 13, [some (z_r 13 q0), some (z_i (x1)), some (z_i (x2))], [z_r 13 q0, z_i (x2)], (true, X, I, J))) rfl ?_
  refine z_ev_gi (c1 := (25, 16, [some (z_r 13 q0), some (z_i (x1)), some (z_i (x2))], [z_i (I 13 q0 1), z_i (x2)], (true, X, I, J))) rfl hq0 ?_
  refine z_ev_gs 1 (c1 := (25, (if (I 13 q0 1) ≤ x2 then 41 else 19), [some (z_r 13 q0), some (z_i (x1)), some (z_i (x2))], [], (true, X, I, J))) rfl ?_
  refine z_ev_ifle (fun e1 => ?_) (fun e1 => ?_)
  · have h6 := h.1 e1
    rw [h6]
    exact z_ev_rt rfl
  · have h7 := h.2 e1
    refine z_ev_gs 1 (c1 := (25, 20, [some (z_r 13 q0), some (z_i (x1)), some (z_i (x2))], [z_r 13 q0], (true, X, I, J))) rfl ?_
    refine z_ev_gi (c1 := (25, 23, [some (z_r 13 q0), some (z_i (x1)), some (z_i (x2))], [z_r 14 q0], (true, X, I, J))) rfl hq0 ?_
    refine z_ev_gs 2 (c1 := (25, 25, [some (z_r 13 q0), some (z_i (x1)), some (z_i (x2))], [z_i (x2), z_r 14 q0, z_i (x2), z_r 14 q0], (true, X, I, J))) rfl ?_
    obtain ⟨k2, e3, e4, h5⟩ := h7
    refine z_ev_iald (t := 14) (i := q0) (k := k2) (n := 10) rfl (z_gt hq0) e3 e4 (by decide) ?_
    refine z_ev_gs 8 (c1 := (25, 34, [some (z_r 13 q0), some (z_i (x1)), some (z_i (x2))], [z_i ((I 14 q0 k2) ^^^ (x1 &&& (((1 : Int32) <<< (x2 &&& 31)) ^^^ (-1 : Int32)))), z_i (x2), z_r 14 q0], (true, X, I, J))) rfl ?_
    refine z_ev_iast (t := 14) (i := q0) (k := k2) (n := 10) rfl (z_gt hq0) e3 (Nat.lt_of_lt_of_le e4 (by decide)) (by decide) ?_
    refine z_ev_gs 2 (c1 := (25, 11, [some (z_r 13 q0), some (z_i (x1)), some (z_i (x2 + (1 : Int32)))], [], (true, X, (z_up I 14 q0 k2 ((I 14 q0 k2) ^^^ (x1 &&& (((1 : Int32) <<< (x2 &&& 31)) ^^^ (-1 : Int32))))), J))) rfl ?_
    exact h5
theorem z_q169_e {d : Nat} {r : Option z_V × z_M} {X : z_X} {I : Nat → Nat → Nat → Int32} {J : Nat → Nat → Nat → Int64} (x1 : Int32) (x2 : Int32)
    (h : (∃ k1 : Nat, x1 = Int32.ofNat k1 ∧ k1 < 4 ∧ z_ev d (169, 9, [some (z_r 33 0), some (z_i (x1)), some (z_i (x2)), some (z_i 0)], [], (true, X, (z_up I 34 0 k1 x2), J)) r)) :
    z_ev d (z_en 169 [z_r 33 0, z_i (x1), z_i (x2)] (true, X, I, J)) r := by
  show z_ev d (169, 0, [some (z_r 33 0), some (z_i (x1)), some (z_i (x2)), none], [], (true, X, I, J)) r
  refine z_ev_gs 4 (c1 := (169, 6, [some (z_r 33 0), some (z_i (x1)), some (z_i (x2)), none], [z_i (x2), z_i (x1), z_r 34 0], (true, X, I, J))) rfl ?_
  obtain ⟨k1, e2, e3, h4⟩ := h
  refine z_ev_iast (t := 34) (i := 0) (k := k1) (n := 4) rfl rfl e2 e3 (by decide) ?_
  refine z_ev_gs 2 (c1 := (169, 9, [some (z_r 33 0), some (z_i (x1)), some (z_i (x2)), some (z_i 0)], [], (true, X, (z_up I 34 0 k1 x2), J))) rfl ?_
  exact h4
theorem z_q169_9 {d : Nat} {r : Option z_V × z_M} {X : z_X} {I : Nat → Nat → Nat → Int32} {J : Nat → Nat → Nat → Int64} (x1 : Int32) (x2 : Int32) (x3 : Int32)
    (h : (((10 : Int32) ≤ x3 → r = (none, (true, X, I, J))) ∧ (x3 < (10 : Int32) → (∃ k6 : Nat, (((10 : Int32) * x1) + x3) = Int32.ofNat k6 ∧ k6 < 40 ∧ z_ev d (169, 9, [some (z_r 33 0), some (z_i (x1)), some (z_i (x2)), some (z_i (x3 + (1 : Int32)))], [], (true, X, (z_up I 35 0 k6 (0 : Int32)), J)) r)))) :
    z_ev d ((169, 9, [some (z_r 33 0), some (z_i (x1)), some (z_i (x2)), some (z_i (x3))], [], (true, X, I, J))) r := by
  refine z_ev_gs 3 (c1 := (169, (if (10 : Int32) ≤ x3 then 33 else 15), [some (z_r 33 0), some (z_i (x1)), some (z_i (x2)), some (z_i (x3))], [], (true, X, I, J))) rfl ?_
  refine z_ev_ifle (fun e5 => ?_) (fun e5 => ?_)
  · have h10 := h.1 e5
    rw [h10]
    exact z_ev_rt rfl
  · have h11 := h.2 e5
    refine z_ev_gs 8 (c1 := (169, 26, [some (z_r 33 0), some (z_i (x1)), some (z_i (x2)), some (z_i (x3))], [z_i 0, z_i (((10 : Int32) * x1) + x3), z_r 35 0], (true, X, I, J))) rfl ?_
    obtain ⟨k6, e7, e8, h9⟩ := h11
    refine z_ev_iast (t := 35) (i := 0) (k := k6) (n := 40) rfl rfl e7 e8 (by decide) ?_
    refine z_ev_gs 2 (c1 := (169, 9, [some (z_r 33 0), some (z_i (x1)), some (z_i (x2)), some (z_i (x3 + (1 : Int32)))], [], (true, X, (z_up I 35 0 k6 (0 : Int32)), J))) rfl ?_
    exact h9
theorem z_q168_e {d : Nat} {r : Option z_V × z_M} {X : z_X} {I : Nat → Nat → Nat → Int32} {J : Nat → Nat → Nat → Int64} (x1 : Int32) (x2 : Int32) (x3 : Int32) (b4 : Bool)
    (h : ((b4 = false → (∃ k2 : Nat, (((10 : Int32) * x1) + x2) = Int32.ofNat k2 ∧ k2 < 40 ∧ (∃ k6 : Nat, (((10 : Int32) * x1) + x3) = Int32.ofNat k6 ∧ k6 < 40 ∧ r = (none, (true, X, (z_up (z_up I 35 0 k2 ((I 35 0 k2) &&& (((1 : Int32) <<< (x3 &&& 31)) ^^^ (-1 : Int32)))) 35 0 k6 (((z_up I 35 0 k2 ((I 35 0 k2) &&& (((1 : Int32) <<< (x3 &&& 31)) ^^^ (-1 : Int32)))) 35 0 k6) &&& (((1 : Int32) <<< (x2 &&& 31)) ^^^ (-1 : Int32)))), J))))) ∧ (b4 = true → (∃ k10 : Nat, (((10 : Int32) * x1) + x2) = Int32.ofNat k10 ∧ k10 < 40 ∧ (∃ k14 : Nat, (((10 : Int32) * x1) + x3) = Int32.ofNat k14 ∧ k14 < 40 ∧ r = (none, (true, X, (z_up (z_up I 35 0 k10 ((I 35 0 k10) ||| ((1 : Int32) <<< (x3 &&& 31)))) 35 0 k14 (((z_up I 35 0 k10 ((I 35 0 k10) ||| ((1 : Int32) <<< (x3 &&& 31)))) 35 0 k14) ||| ((1 : Int32) <<< (x2 &&& 31)))), J))))))) :
    z_ev d (z_en 168 [z_r 33 0, z_i (x1), z_i (x2), z_i (x3), z_i (z_c b4)] (true, X, I, J)) r := by
  show z_ev d (168, 0, [some (z_r 33 0), some (z_i (x1)), some (z_i (x2)), some (z_i (x3)), some (z_i (z_c b4))], [], (true, X, I, J)) r
  refine z_ev_gs 9 (c1 := (168, (if z_c b4 = 0 then 33 else 15), [some (z_r 33 0), some (z_i (x1)), some (z_i (x2)), some (z_i (x3)), some (z_i (z_c b4))], [z_i (((10 : Int32) * x1) + x2), z_r 35 0], (true, X, I, J))) rfl ?_
  refine z_ev_ifc (fun e1 => ?_) (fun e1 => ?_)
  · have h18 := h.1 e1
    refine z_ev_gs 7 (c1 := (168, 43, [some (z_r 33 0), some (z_i (x1)), some (z_i (x2)), some (z_i (x3)), some (z_i (z_c b4))], [z_i (((10 : Int32) * x1) + x2), z_r 35 0, z_i (((10 : Int32) * x1) + x2), z_r 35 0], (true, X, I, J))) rfl ?_
    obtain ⟨k2, e3, e4, h5⟩ := h18
    refine z_ev_iald (t := 35) (i := 0) (k := k2) (n := 40) rfl rfl e3 e4 (by decide) ?_
    refine z_ev_gs 6 (c1 := (168, 50, [some (z_r 33 0), some (z_i (x1)), some (z_i (x2)), some (z_i (x3)), some (z_i (z_c b4))], [z_i ((I 35 0 k2) &&& (((1 : Int32) <<< (x3 &&& 31)) ^^^ (-1 : Int32))), z_i (((10 : Int32) * x1) + x2), z_r 35 0], (true, X, I, J))) rfl ?_
    refine z_ev_iast (t := 35) (i := 0) (k := k2) (n := 40) rfl rfl e3 (Nat.lt_of_lt_of_le e4 (by decide)) (by decide) ?_
    refine z_ev_gs 9 (c1 := (168, (if z_c b4 = 0 then 84 else 66), [some (z_r 33 0), some (z_i (x1)), some (z_i (x2)), some (z_i (x3)), some (z_i (z_c b4))], [z_i (((10 : Int32) * x1) + x3), z_r 35 0], (true, X, (z_up I 35 0 k2 ((I 35 0 k2) &&& (((1 : Int32) <<< (x3 &&& 31)) ^^^ (-1 : Int32)))), J))) rfl ?_
    refine z_ev_icf e1 ?_
    refine z_ev_gs 7 (c1 := (168, 94, [some (z_r 33 0), some (z_i (x1)), some (z_i (x2)), some (z_i (x3)), some (z_i (z_c b4))], [z_i (((10 : Int32) * x1) + x3), z_r 35 0, z_i (((10 : Int32) * x1) + x3), z_r 35 0], (true, X, (z_up I 35 0 k2 ((I 35 0 k2) &&& (((1 : Int32) <<< (x3 &&& 31)) ^^^ (-1 : Int32)))), J))) rfl ?_
    obtain ⟨k6, e7, e8, h9⟩ := h5
    refine z_ev_iald (t := 35) (i := 0) (k := k6) (n := 40) rfl rfl e7 e8 (by decide) ?_
    refine z_ev_gs 6 (c1 := (168, 101, [some (z_r 33 0), some (z_i (x1)), some (z_i (x2)), some (z_i (x3)), some (z_i (z_c b4))], [z_i (((z_up I 35 0 k2 ((I 35 0 k2) &&& (((1 : Int32) <<< (x3 &&& 31)) ^^^ (-1 : Int32)))) 35 0 k6) &&& (((1 : Int32) <<< (x2 &&& 31)) ^^^ (-1 : Int32))), z_i (((10 : Int32) * x1) + x3), z_r 35 0], (true, X, (z_up I 35 0 k2 ((I 35 0 k2) &&& (((1 : Int32) <<< (x3 &&& 31)) ^^^ (-1 : Int32)))), J))) rfl ?_
    refine z_ev_iast (t := 35) (i := 0) (k := k6) (n := 40) rfl rfl e7 (Nat.lt_of_lt_of_le e8 (by decide)) (by decide) ?_
    rw [h9]
    exact z_ev_rt rfl
  · have h19 := h.2 e1
    refine z_ev_gs 7 (c1 := (168, 25, [some (z_r 33 0), some (z_i (x1)), some (z_i (x2)), some (z_i (x3)), some (z_i (z_c b4))], [z_i (((10 : Int32) * x1) + x2), z_r 35 0, z_i (((10 : Int32) * x1) + x2), z_r 35 0], (true, X, I, J))) rfl ?_
    obtain ⟨k10, e11, e12, h13⟩ := h19
    refine z_ev_iald (t := 35) (i := 0) (k := k10) (n := 40) rfl rfl e11 e12 (by decide) ?_
    refine z_ev_gs 5 (c1 := (168, 50, [some (z_r 33 0), some (z_i (x1)), some (z_i (x2)), some (z_i (x3)), some (z_i (z_c b4))], [z_i ((I 35 0 k10) ||| ((1 : Int32) <<< (x3 &&& 31))), z_i (((10 : Int32) * x1) + x2), z_r 35 0], (true, X, I, J))) rfl ?_
    refine z_ev_iast (t := 35) (i := 0) (k := k10) (n := 40) rfl rfl e11 (Nat.lt_of_lt_of_le e12 (by decide)) (by decide) ?_
    refine z_ev_gs 9 (c1 := (168, (if z_c b4 = 0 then 84 else 66), [some (z_r 33 0), some (z_i (x1)), some (z_i (x2)), some (z_i (x3)), some (z_i (z_c b4))], [z_i (((10 : Int32) * x1) + x3), z_r 35 0], (true, X, (z_up I 35 0 k10 ((I 35 0 k10) ||| ((1 : Int32) <<< (x3 &&& 31)))), J))) rfl ?_
    refine z_ev_ict e1 ?_
    refine z_ev_gs 7 (c1 := (168, 76, [some (z_r 33 0), some (z_i (x1)), some (z_i (x2)), some (z_i (x3)), some (z_i (z_c b4))], [z_i (((10 : Int32) * x1) + x3), z_r 35 0, z_i (((10 : Int32) * x1) + x3), z_r 35 0], (true, X, (z_up I 35 0 k10 ((I 35 0 k10) ||| ((1 : Int32) <<< (x3 &&& 31)))), J))) rfl ?_
    obtain ⟨k14, e15, e16, h17⟩ := h13
    refine z_ev_iald (t := 35) (i := 0) (k := k14) (n := 40) rfl rfl e15 e16 (by decide) ?_
    refine z_ev_gs 5 (c1 := (168, 101, [some (z_r 33 0), some (z_i (x1)), some (z_i (x2)), some (z_i (x3)), some (z_i (z_c b4))], [z_i (((z_up I 35 0 k10 ((I 35 0 k10) ||| ((1 : Int32) <<< (x3 &&& 31)))) 35 0 k14) ||| ((1 : Int32) <<< (x2 &&& 31))), z_i (((10 : Int32) * x1) + x3), z_r 35 0], (true, X, (z_up I 35 0 k10 ((I 35 0 k10) ||| ((1 : Int32) <<< (x3 &&& 31)))), J))) rfl ?_
    refine z_ev_iast (t := 35) (i := 0) (k := k14) (n := 40) rfl rfl e15 (Nat.lt_of_lt_of_le e16 (by decide)) (by decide) ?_
    rw [h17]
    exact z_ev_rt rfl
theorem z_q167_e {d : Nat} {r : Option z_V × z_M} {X : z_X} {I : Nat → Nat → Nat → Int32} {J : Nat → Nat → Nat → Int64} (x1 : Int32) (x2 : Int32) (x3 : Int32)
    (h : (∃ k1 : Nat, (((10 : Int32) * x1) + x2) = Int32.ofNat k1 ∧ k1 < 40 ∧ ((¬ (((I 35 0 k1) >>> (x3 &&& 31)) &&& (1 : Int32)) = (1 : Int32) → r = (some (z_i 0), (true, X, I, J))) ∧ ((((I 35 0 k1) >>> (x3 &&& 31)) &&& (1 : Int32)) = (1 : Int32) → r = (some (z_i 1), (true, X, I, J)))))) :
    z_ev d (z_en 167 [z_r 33 0, z_i (x1), z_i (x2), z_i (x3)] (true, X, I, J)) r := by
  show z_ev d (167, 0, [some (z_r 33 0), some (z_i (x1)), some (z_i (x2)), some (z_i (x3))], [], (true, X, I, J)) r
  refine z_ev_gs 7 (c1 := (167, 10, [some (z_r 33 0), some (z_i (x1)), some (z_i (x2)), some (z_i (x3))], [z_i (((10 : Int32) * x1) + x2), z_r 35 0], (true, X, I, J))) rfl ?_
  obtain ⟨k1, e2, e3, h4⟩ := h
  refine z_ev_iald (t := 35) (i := 0) (k := k1) (n := 40) rfl rfl e2 e3 (by decide) ?_
  refine z_ev_gs 6 (c1 := (167, (if ¬ (((I 35 0 k1) >>> (x3 &&& 31)) &&& (1 : Int32)) = (1 : Int32) then 23 else 19), [some (z_r 33 0), some (z_i (x1)), some (z_i (x2)), some (z_i (x3))], [], (true, X, I, J))) rfl ?_
  refine z_ev_ifn (fun e5 => ?_) (fun e5 => ?_)
  · have h6 := h4.1 e5
    refine z_ev_gs 1 (c1 := (167, 24, [some (z_r 33 0), some (z_i (x1)), some (z_i (x2)), some (z_i (x3))], [z_i 0], (true, X, I, J))) rfl ?_
    rw [h6]
    exact z_ev_rt rfl
  · have h7 := h4.2 e5
    refine z_ev_gs 2 (c1 := (167, 24, [some (z_r 33 0), some (z_i (x1)), some (z_i (x2)), some (z_i (x3))], [z_i 1], (true, X, I, J))) rfl ?_
    rw [h7]
    exact z_ev_rt rfl
theorem z_q164_e {d : Nat} {r : Option z_V × z_M} {X : z_X} {I : Nat → Nat → Nat → Int32} {J : Nat → Nat → Nat → Int64} (x1 : Int32) (x2 : Int32)
    (h : (∃ k1 : Nat, x1 = Int32.ofNat k1 ∧ k1 < 4 ∧ r = (some (z_i (z_c (z_bw x2 (0 : Int32) ((I 34 0 k1) - (1 : Int32))))), (true, X, I, J)))) :
    z_ev (d + 1) (z_en 164 [z_r 33 0, z_i (x1), z_i (x2)] (true, X, I, J)) r := by
  show z_ev (d + 1) (164, 0, [some (z_r 33 0), some (z_i (x1)), some (z_i (x2))], [], (true, X, I, J)) r
  refine z_ev_gs 5 (c1 := (164, 7, [some (z_r 33 0), some (z_i (x1)), some (z_i (x2))], [z_i (x1), z_r 34 0, z_i 0, z_i (x2)], (true, X, I, J))) rfl ?_
  obtain ⟨k1, e2, e3, h4⟩ := h
  refine z_ev_iald (t := 34) (i := 0) (k := k1) (n := 4) rfl rfl e2 e3 (by decide) ?_
  refine z_ev_gs 2 (c1 := (164, 10, [some (z_r 33 0), some (z_i (x1)), some (z_i (x2))], [z_i ((I 34 0 k1) - (1 : Int32)), z_i 0, z_i (x2)], (true, X, I, J))) rfl ?_
  refine z_ev_ca rfl rfl (z_p158 _ _ _) ?_
  rw [h4]
  exact z_ev_rtb rfl
theorem z_q119_e {d : Nat} {r : Option z_V × z_M} {X : z_X} {I : Nat → Nat → Nat → Int32} {J : Nat → Nat → Nat → Int64} (x1 : Int32) (x2 : Int32)
    (h : (((z_bw x1 0 3) = false → r = (some (z_i 0), (true, X, I, J))) ∧ ((z_bw x1 0 3) = true → ((x2 < 0 → r = (some (z_i 0), (true, X, I, J))) ∧ (0 ≤ x2 → (∃ k3 : Nat, x1 = Int32.ofNat k3 ∧ k3 < 4 ∧ (((I 13 k3 1) ≤ x2 → r = (some (z_i 0), (true, X, I, J))) ∧ (x2 < (I 13 k3 1) → r = (some (z_i 1), (true, X, I, J)))))))))) :
    z_ev (d + 1) (z_en 119 [z_r 0 0, z_i (x1), z_i (x2)] (true, X, I, J)) r := by
  show z_ev (d + 1) (119, 0, [some (z_r 0 0), some (z_i (x1)), some (z_i (x2))], [], (true, X, I, J)) r
  refine z_ev_gs 1 (c1 := (119, 1, [some (z_r 0 0), some (z_i (x1)), some (z_i (x2))], [z_i (x1)], (true, X, I, J))) rfl ?_
  refine z_ev_ca rfl rfl (z_p118 _) ?_
  refine z_ev_gs 1 (c1 := (119, (if z_c (z_bw x1 0 3) = 0 then 31 else 7), [some (z_r 0 0), some (z_i (x1)), some (z_i (x2))], [], (true, X, I, J))) rfl ?_
  refine z_ev_ifc (fun e1 => ?_) (fun e1 => ?_)
  · have h12 := h.1 e1
    refine z_ev_gs 1 (c1 := (119, 32, [some (z_r 0 0), some (z_i (x1)), some (z_i (x2))], [z_i 0], (true, X, I, J))) rfl ?_
    rw [h12]
    exact z_ev_rt rfl
  · have h13 := h.2 e1
    refine z_ev_gs 2 (c1 := (119, (if x2 < 0 then 31 else 11), [some (z_r 0 0), some (z_i (x1)), some (z_i (x2))], [], (true, X, I, J))) rfl ?_
    refine z_ev_iflt (fun e2 => ?_) (fun e2 => ?_)
    · have h10 := h13.1 e2
      refine z_ev_gs 1 (c1 := (119, 32, [some (z_r 0 0), some (z_i (x1)), some (z_i (x2))], [z_i 0], (true, X, I, J))) rfl ?_
      rw [h10]
      exact z_ev_rt rfl
    · have h11 := h13.2 e2
      refine z_ev_gs 5 (c1 := (119, 20, [some (z_r 0 0), some (z_i (x1)), some (z_i (x2))], [z_i (x1), z_r 2 0, z_i (x2)], (true, X, I, J))) rfl ?_
      obtain ⟨k3, e4, e5, h6⟩ := h11
      refine z_ev_nt0 (k := k3) rfl e4 e5 ?_
      refine z_ev_gi (c1 := (119, 24, [some (z_r 0 0), some (z_i (x1)), some (z_i (x2))], [z_i (I 13 k3 1), z_i (x2)], (true, X, I, J))) rfl (z_lt40 e5) ?_
      refine z_ev_gs 1 (c1 := (119, (if (I 13 k3 1) ≤ x2 then 31 else 27), [some (z_r 0 0), some (z_i (x1)), some (z_i (x2))], [], (true, X, I, J))) rfl ?_
      refine z_ev_ifle (fun e7 => ?_) (fun e7 => ?_)
      · have h8 := h6.1 e7
        refine z_ev_gs 1 (c1 := (119, 32, [some (z_r 0 0), some (z_i (x1)), some (z_i (x2))], [z_i 0], (true, X, I, J))) rfl ?_
        rw [h8]
        exact z_ev_rt rfl
      · have h9 := h6.2 e7
        refine z_ev_gs 2 (c1 := (119, 32, [some (z_r 0 0), some (z_i (x1)), some (z_i (x2))], [z_i 1], (true, X, I, J))) rfl ?_
        rw [h9]
        exact z_ev_rt rfl
