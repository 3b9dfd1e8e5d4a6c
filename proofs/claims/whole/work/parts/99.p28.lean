/-! segments: same; printed by wip/whole/emit_seg.py -/
theorem z_q134_e {d : Nat} {r : Option z_V × z_M} {X : z_X} {I : Nat → Nat → Nat → Int32} {J : Nat → Nat → Nat → Int64} (q1 : Nat) (hq1 : q1 < 10)
    (h : (∃ (v90 : Int32) (X85 : z_X) (I86 : Nat → Nat → Nat → Int32) (J87 : Nat → Nat → Nat → Int64), z_ev (d + 1) (z_en 26 [z_r 13 q1] (true, X, I, J)) (some (z_i (v90)), (true, X85, I86, J87)) ∧ ((((2 : Int32) * v90) ≤ (z_pr (I86 13 q1 1)) → z_ev (d + 2) (134, 27, [some (z_r 0 0), some (z_r 13 q1), some (z_i 0), some (z_i 0), some (z_i 0), none, none, none, none], [], (true, X85, I86, J87)) r) ∧ ((z_pr (I86 13 q1 1)) < ((2 : Int32) * v90) → z_ev (d + 2) (134, 27, [some (z_r 0 0), some (z_r 13 q1), some (z_i 1), some (z_i 0), some (z_i 0), none, none, none, none], [], (true, X85, I86, J87)) r)))) :
    z_ev (d + 2) (z_en 134 [z_r 0 0, z_r 13 q1] (true, X, I, J)) r := by
  show z_ev (d + 2) (134, 0, [some (z_r 0 0), some (z_r 13 q1), none, none, none, none, none, none, none], [], (true, X, I, J)) r
  refine z_ev_gs 2 (c1 := (134, 2, [some (z_r 0 0), some (z_r 13 q1), none, none, none, none, none, none, none], [z_r 13 q1, z_i 2], (true, X, I, J))) rfl ?_
  obtain ⟨v90, X85, I86, J87, g88, h89⟩ := h
  refine z_ev_cg rfl hq1 rfl g88 ?_
  refine z_ev_gs 2 (c1 := (134, 7, [some (z_r 0 0), some (z_r 13 q1), none, none, none, none, none, none, none], [z_r 13 q1, z_i ((2 : Int32) * v90)], (true, X85, I86, J87))) rfl ?_
  refine z_ev_gi (c1 := (134, 10, [some (z_r 0 0), some (z_r 13 q1), none, none, none, none, none, none, none], [z_i (I86 13 q1 1), z_i ((2 : Int32) * v90)], (true, X85, I86, J87))) rfl hq1 ?_
  refine z_ev_ca rfl rfl (z_p126 _) ?_
  refine z_ev_gs 1 (c1 := (134, (if ((2 : Int32) * v90) ≤ (z_pr (I86 13 q1 1)) then 20 else 16), [some (z_r 0 0), some (z_r 13 q1), none, none, none, none, none, none, none], [], (true, X85, I86, J87))) rfl ?_
  refine z_ev_ifle (fun e91 => ?_) (fun e91 => ?_)
  · have h92 := h89.1 e91
    refine z_ev_gs 6 (c1 := (134, 27, [some (z_r 0 0), some (z_r 13 q1), some (z_i 0), some (z_i 0), some (z_i 0), none, none, none, none], [], (true, X85, I86, J87))) rfl ?_
    exact h92
  · have h93 := h89.2 e91
    refine z_ev_gs 7 (c1 := (134, 27, [some (z_r 0 0), some (z_r 13 q1), some (z_i 1), some (z_i 0), some (z_i 0), none, none, none, none], [], (true, X85, I86, J87))) rfl ?_
    exact h93
theorem z_q134_27 {d : Nat} {r : Option z_V × z_M} {X : z_X} {I : Nat → Nat → Nat → Int32} {J : Nat → Nat → Nat → Int64} (q1 : Nat) (hq1 : q1 < 10) (x2 : Int32) (x3 : Int32) (x4 : Int32) (o5 : Option z_V) (o6 : Option z_V) (o7 : Option z_V) (o8 : Option z_V)
    (h : (((I 13 q1 1) ≤ x4 → r = (none, (true, X, I, J))) ∧ (x4 < (I 13 q1 1) → z_ev (d + 2) (134, 45, [some (z_r 0 0), some (z_r 13 q1), some (z_i (x2)), some (z_i (x3)), some (z_i (x4)), some (z_i 0), some (z_i (-1)), some (z_i 0), o8], [], (true, X, I, J)) r))) :
    z_ev (d + 2) ((134, 27, [some (z_r 0 0), some (z_r 13 q1), some (z_i (x2)), some (z_i (x3)), some (z_i (x4)), o5, o6, o7, o8], [], (true, X, I, J))) r := by
  refine z_ev_gs 2 (c1 := (134, 30, [some (z_r 0 0), some (z_r 13 q1), some (z_i (x2)), some (z_i (x3)), some (z_i (x4)), o5, o6, o7, o8], [z_r 13 q1, z_i (x4)], (true, X, I, J))) rfl ?_
  refine z_ev_gi (c1 := (134, 33, [some (z_r 0 0), some (z_r 13 q1), some (z_i (x2)), some (z_i (x3)), some (z_i (x4)), o5, o6, o7, o8], [z_i (I 13 q1 1), z_i (x4)], (true, X, I, J))) rfl hq1 ?_
  refine z_ev_gs 1 (c1 := (134, (if (I 13 q1 1) ≤ x4 then 136 else 36), [some (z_r 0 0), some (z_r 13 q1), some (z_i (x2)), some (z_i (x3)), some (z_i (x4)), o5, o6, o7, o8], [], (true, X, I, J))) rfl ?_
  refine z_ev_ifle (fun e94 => ?_) (fun e94 => ?_)
  · have h95 := h.1 e94
    rw [h95]
    exact z_ev_rt rfl
  · have h96 := h.2 e94
    refine z_ev_gs 6 (c1 := (134, 45, [some (z_r 0 0), some (z_r 13 q1), some (z_i (x2)), some (z_i (x3)), some (z_i (x4)), some (z_i 0), some (z_i (-1)), some (z_i 0), o8], [], (true, X, I, J))) rfl ?_
    exact h96
theorem z_q134_45 {d : Nat} {r : Option z_V × z_M} {X : z_X} {I : Nat → Nat → Nat → Int32} {J : Nat → Nat → Nat → Int64} (q1 : Nat) (hq1 : q1 < 10) (x2 : Int32) (x3 : Int32) (x4 : Int32) (x5 : Int32) (x6 : Int32) (x7 : Int32) (o8 : Option z_V)
    (h : (((I 13 q1 1) ≤ x7 → (∃ k98 : Nat, x4 = Int32.ofNat k98 ∧ k98 < 10 ∧ z_ev (d + 2) (134, 27, [some (z_r 0 0), some (z_r 13 q1), some (z_i (x2)), some (z_i (x3 ||| ((1 : Int32) <<< (x5 &&& 31)))), some (z_i (x4 + (1 : Int32))), some (z_i (x5)), some (z_i (x6)), some (z_i (x7)), o8], [], (true, X, (z_up I 28 0 k98 x5), J)) r)) ∧ (x7 < (I 13 q1 1) → ((x2 = 0 → (∃ k103 : Nat, x7 = Int32.ofNat k103 ∧ k103 < 10 ∧ ((¬ ((x3 >>> (x7 &&& 31)) &&& (1 : Int32)) = 0 → z_ev (d + 2) (134, 45, [some (z_r 0 0), some (z_r 13 q1), some (z_i (x2)), some (z_i (x3)), some (z_i (x4)), some (z_i (x5)), some (z_i (x6)), some (z_i (x7 + (1 : Int32))), some (z_i (z_bc ((I 14 q1 k103) &&& x3)))], [], (true, X, I, J)) r) ∧ (((x3 >>> (x7 &&& 31)) &&& (1 : Int32)) = 0 → (((z_bc ((I 14 q1 k103) &&& x3)) ≤ x6 → z_ev (d + 2) (134, 45, [some (z_r 0 0), some (z_r 13 q1), some (z_i (x2)), some (z_i (x3)), some (z_i (x4)), some (z_i (x5)), some (z_i (x6)), some (z_i (x7 + (1 : Int32))), some (z_i (z_bc ((I 14 q1 k103) &&& x3)))], [], (true, X, I, J)) r) ∧ (x6 < (z_bc ((I 14 q1 k103) &&& x3)) → z_ev (d + 2) (134, 45, [some (z_r 0 0), some (z_r 13 q1), some (z_i (x2)), some (z_i (x3)), some (z_i (x4)), some (z_i (x7)), some (z_i (z_bc ((I 14 q1 k103) &&& x3))), some (z_i (x7 + (1 : Int32))), some (z_i (z_bc ((I 14 q1 k103) &&& x3)))], [], (true, X, I, J)) r)))))) ∧ (¬ x2 = 0 → (∃ k113 : Nat, x7 = Int32.ofNat k113 ∧ k113 < 10 ∧ ((¬ ((x3 >>> (x7 &&& 31)) &&& (1 : Int32)) = 0 → z_ev (d + 2) (134, 45, [some (z_r 0 0), some (z_r 13 q1), some (z_i (x2)), some (z_i (x3)), some (z_i (x4)), some (z_i (x5)), some (z_i (x6)), some (z_i (x7 + (1 : Int32))), some (z_i (z_bc (((I 14 q1 k113) ^^^ (-1 : Int32)) &&& x3)))], [], (true, X, I, J)) r) ∧ (((x3 >>> (x7 &&& 31)) &&& (1 : Int32)) = 0 → (((z_bc (((I 14 q1 k113) ^^^ (-1 : Int32)) &&& x3)) ≤ x6 → z_ev (d + 2) (134, 45, [some (z_r 0 0), some (z_r 13 q1), some (z_i (x2)), some (z_i (x3)), some (z_i (x4)), some (z_i (x5)), some (z_i (x6)), some (z_i (x7 + (1 : Int32))), some (z_i (z_bc (((I 14 q1 k113) ^^^ (-1 : Int32)) &&& x3)))], [], (true, X, I, J)) r) ∧ (x6 < (z_bc (((I 14 q1 k113) ^^^ (-1 : Int32)) &&& x3)) → z_ev (d + 2) (134, 45, [some (z_r 0 0), some (z_r 13 q1), some (z_i (x2)), some (z_i (x3)), some (z_i (x4)), some (z_i (x7)), some (z_i (z_bc (((I 14 q1 k113) ^^^ (-1 : Int32)) &&& x3))), some (z_i (x7 + (1 : Int32))), some (z_i (z_bc (((I 14 q1 k113) ^^^ (-1 : Int32)) &&& x3)))], [], (true, X, I, J)) r)))))))))) :
    z_ev (d + 2) ((134, 45, [some (z_r 0 0), some (z_r 13 q1), some (z_i (x2)), some (z_i (x3)), some (z_i (x4)), some (z_i (x5)), some (z_i (x6)), some (z_i (x7)), o8], [], (true, X, I, J))) r := by
  refine z_ev_gs 2 (c1 := (134, 48, [some (z_r 0 0), some (z_r 13 q1), some (z_i (x2)), some (z_i (x3)), some (z_i (x4)), some (z_i (x5)), some (z_i (x6)), some (z_i (x7)), o8], [z_r 13 q1, z_i (x7)], (true, X, I, J))) rfl ?_
  refine z_ev_gi (c1 := (134, 51, [some (z_r 0 0), some (z_r 13 q1), some (z_i (x2)), some (z_i (x3)), some (z_i (x4)), some (z_i (x5)), some (z_i (x6)), some (z_i (x7)), o8], [z_i (I 13 q1 1), z_i (x7)], (true, X, I, J))) rfl hq1 ?_
  refine z_ev_gs 1 (c1 := (134, (if (I 13 q1 1) ≤ x7 then 114 else 54), [some (z_r 0 0), some (z_r 13 q1), some (z_i (x2)), some (z_i (x3)), some (z_i (x4)), some (z_i (x5)), some (z_i (x6)), some (z_i (x7)), o8], [], (true, X, I, J))) rfl ?_
  refine z_ev_ifle (fun e97 => ?_) (fun e97 => ?_)
  · have h125 := h.1 e97
    refine z_ev_gs 4 (c1 := (134, 122, [some (z_r 0 0), some (z_r 13 q1), some (z_i (x2)), some (z_i (x3)), some (z_i (x4)), some (z_i (x5)), some (z_i (x6)), some (z_i (x7)), o8], [z_i (x5), z_i (x4), z_r 28 0], (true, X, I, J))) rfl ?_
    obtain ⟨k98, e99, e100, h101⟩ := h125
    refine z_ev_iast (t := 28) (i := 0) (k := k98) (n := 10) rfl rfl e99 e100 (by decide) ?_
    refine z_ev_gs 8 (c1 := (134, 27, [some (z_r 0 0), some (z_r 13 q1), some (z_i (x2)), some (z_i (x3 ||| ((1 : Int32) <<< (x5 &&& 31)))), some (z_i (x4 + (1 : Int32))), some (z_i (x5)), some (z_i (x6)), some (z_i (x7)), o8], [], (true, X, (z_up I 28 0 k98 x5), J))) rfl ?_
    exact h101
  · have h126 := h.2 e97
    refine z_ev_gs 2 (c1 := (134, (if x2 = 0 then 70 else 58), [some (z_r 0 0), some (z_r 13 q1), some (z_i (x2)), some (z_i (x3)), some (z_i (x4)), some (z_i (x5)), some (z_i (x6)), some (z_i (x7)), o8], [], (true, X, I, J))) rfl ?_
    refine z_ev_if (fun e102 => ?_) (fun e102 => ?_)
    · have h123 := h126.1 e102
      refine z_ev_gs 1 (c1 := (134, 71, [some (z_r 0 0), some (z_r 13 q1), some (z_i (x2)), some (z_i (x3)), some (z_i (x4)), some (z_i (x5)), some (z_i (x6)), some (z_i (x7)), o8], [z_r 13 q1], (true, X, I, J))) rfl ?_
      refine z_ev_gi (c1 := (134, 74, [some (z_r 0 0), some (z_r 13 q1), some (z_i (x2)), some (z_i (x3)), some (z_i (x4)), some (z_i (x5)), some (z_i (x6)), some (z_i (x7)), o8], [z_r 14 q1], (true, X, I, J))) rfl hq1 ?_
      refine z_ev_gs 1 (c1 := (134, 76, [some (z_r 0 0), some (z_r 13 q1), some (z_i (x2)), some (z_i (x3)), some (z_i (x4)), some (z_i (x5)), some (z_i (x6)), some (z_i (x7)), o8], [z_i (x7), z_r 14 q1], (true, X, I, J))) rfl ?_
      obtain ⟨k103, e104, e105, h106⟩ := h123
      refine z_ev_iald (t := 14) (i := q1) (k := k103) (n := 10) rfl (z_gt hq1) e104 e105 (by decide) ?_
      refine z_ev_gs 2 (c1 := (134, 79, [some (z_r 0 0), some (z_r 13 q1), some (z_i (x2)), some (z_i (x3)), some (z_i (x4)), some (z_i (x5)), some (z_i (x6)), some (z_i (x7)), o8], [z_i ((I 14 q1 k103) &&& x3)], (true, X, I, J))) rfl ?_
      refine z_ev_ca rfl rfl (z_p275 _) ?_
      refine z_ev_gs 7 (c1 := (134, (if ¬ ((x3 >>> (x7 &&& 31)) &&& (1 : Int32)) = 0 then 108 else 93), [some (z_r 0 0), some (z_r 13 q1), some (z_i (x2)), some (z_i (x3)), some (z_i (x4)), some (z_i (x5)), some (z_i (x6)), some (z_i (x7)), some (z_i (z_bc ((I 14 q1 k103) &&& x3)))], [], (true, X, I, J))) rfl ?_
      refine z_ev_ifn (fun e107 => ?_) (fun e107 => ?_)
      · have h111 := h106.1 e107
        refine z_ev_gs 2 (c1 := (134, 45, [some (z_r 0 0), some (z_r 13 q1), some (z_i (x2)), some (z_i (x3)), some (z_i (x4)), some (z_i (x5)), some (z_i (x6)), some (z_i (x7 + (1 : Int32))), some (z_i (z_bc ((I 14 q1 k103) &&& x3)))], [], (true, X, I, J))) rfl ?_
        exact h111
      · have h112 := h106.2 e107
        refine z_ev_gs 3 (c1 := (134, (if (z_bc ((I 14 q1 k103) &&& x3)) ≤ x6 then 108 else 100), [some (z_r 0 0), some (z_r 13 q1), some (z_i (x2)), some (z_i (x3)), some (z_i (x4)), some (z_i (x5)), some (z_i (x6)), some (z_i (x7)), some (z_i (z_bc ((I 14 q1 k103) &&& x3)))], [], (true, X, I, J))) rfl ?_
        refine z_ev_ifle (fun e108 => ?_) (fun e108 => ?_)
        · have h109 := h112.1 e108
          refine z_ev_gs 2 (c1 := (134, 45, [some (z_r 0 0), some (z_r 13 q1), some (z_i (x2)), some (z_i (x3)), some (z_i (x4)), some (z_i (x5)), some (z_i (x6)), some (z_i (x7 + (1 : Int32))), some (z_i (z_bc ((I 14 q1 k103) &&& x3)))], [], (true, X, I, J))) rfl ?_
          exact h109
        · have h110 := h112.2 e108
          refine z_ev_gs 6 (c1 := (134, 45, [some (z_r 0 0), some (z_r 13 q1), some (z_i (x2)), some (z_i (x3)), some (z_i (x4)), some (z_i (x7)), some (z_i (z_bc ((I 14 q1 k103) &&& x3))), some (z_i (x7 + (1 : Int32))), some (z_i (z_bc ((I 14 q1 k103) &&& x3)))], [], (true, X, I, J))) rfl ?_
          exact h110
    · have h124 := h126.2 e102
      refine z_ev_gs 1 (c1 := (134, 59, [some (z_r 0 0), some (z_r 13 q1), some (z_i (x2)), some (z_i (x3)), some (z_i (x4)), some (z_i (x5)), some (z_i (x6)), some (z_i (x7)), o8], [z_r 13 q1], (true, X, I, J))) rfl ?_
      refine z_ev_gi (c1 := (134, 62, [some (z_r 0 0), some (z_r 13 q1), some (z_i (x2)), some (z_i (x3)), some (z_i (x4)), some (z_i (x5)), some (z_i (x6)), some (z_i (x7)), o8], [z_r 14 q1], (true, X, I, J))) rfl hq1 ?_
      refine z_ev_gs 1 (c1 := (134, 64, [some (z_r 0 0), some (z_r 13 q1), some (z_i (x2)), some (z_i (x3)), some (z_i (x4)), some (z_i (x5)), some (z_i (x6)), some (z_i (x7)), o8], [z_i (x7), z_r 14 q1], (true, X, I, J))) rfl ?_
      obtain ⟨k113, e114, e115, h116⟩ := h124
      refine z_ev_iald (t := 14) (i := q1) (k := k113) (n := 10) rfl (z_gt hq1) e114 e115 (by decide) ?_
      refine z_ev_gs 5 (c1 := (134, 79, [some (z_r 0 0), some (z_r 13 q1), some (z_i (x2)), some (z_i (x3)), some (z_i (x4)), some (z_i (x5)), some (z_i (x6)), some (z_i (x7)), o8], [z_i (((I 14 q1 k113) ^^^ (-1 : Int32)) &&& x3)], (true, X, I, J))) rfl ?_
      refine z_ev_ca rfl rfl (z_p275 _) ?_
      refine z_ev_gs 7 (c1 := (134, (if ¬ ((x3 >>> (x7 &&& 31)) &&& (1 : Int32)) = 0 then 108 else 93), [some (z_r 0 0), some (z_r 13 q1), some (z_i (x2)), some (z_i (x3)), some (z_i (x4)), some (z_i (x5)), some (z_i (x6)), some (z_i (x7)), some (z_i (z_bc (((I 14 q1 k113) ^^^ (-1 : Int32)) &&& x3)))], [], (true, X, I, J))) rfl ?_
      refine z_ev_ifn (fun e117 => ?_) (fun e117 => ?_)
      · have h121 := h116.1 e117
        refine z_ev_gs 2 (c1 := (134, 45, [some (z_r 0 0), some (z_r 13 q1), some (z_i (x2)), some (z_i (x3)), some (z_i (x4)), some (z_i (x5)), some (z_i (x6)), some (z_i (x7 + (1 : Int32))), some (z_i (z_bc (((I 14 q1 k113) ^^^ (-1 : Int32)) &&& x3)))], [], (true, X, I, J))) rfl ?_
        exact h121
      · have h122 := h116.2 e117
        refine z_ev_gs 3 (c1 := (134, (if (z_bc (((I 14 q1 k113) ^^^ (-1 : Int32)) &&& x3)) ≤ x6 then 108 else 100), [some (z_r 0 0), some (z_r 13 q1), some (z_i (x2)), some (z_i (x3)), some (z_i (x4)), some (z_i (x5)), some (z_i (x6)), some (z_i (x7)), some (z_i (z_bc (((I 14 q1 k113) ^^^ (-1 : Int32)) &&& x3)))], [], (true, X, I, J))) rfl ?_
        refine z_ev_ifle (fun e118 => ?_) (fun e118 => ?_)
        · have h119 := h122.1 e118
          refine z_ev_gs 2 (c1 := (134, 45, [some (z_r 0 0), some (z_r 13 q1), some (z_i (x2)), some (z_i (x3)), some (z_i (x4)), some (z_i (x5)), some (z_i (x6)), some (z_i (x7 + (1 : Int32))), some (z_i (z_bc (((I 14 q1 k113) ^^^ (-1 : Int32)) &&& x3)))], [], (true, X, I, J))) rfl ?_
          exact h119
        · have h120 := h122.2 e118
          refine z_ev_gs 6 (c1 := (134, 45, [some (z_r 0 0), some (z_r 13 q1), some (z_i (x2)), some (z_i (x3)), some (z_i (x4)), some (z_i (x7)), some (z_i (z_bc (((I 14 q1 k113) ^^^ (-1 : Int32)) &&& x3))), some (z_i (x7 + (1 : Int32))), some (z_i (z_bc (((I 14 q1 k113) ^^^ (-1 : Int32)) &&& x3)))], [], (true, X, I, J))) rfl ?_
          exact h120
theorem z_q136_e {d : Nat} {r : Option z_V × z_M} {X : z_X} {I : Nat → Nat → Nat → Int32} {J : Nat → Nat → Nat → Int64} (x1 : Int32) (x2 : Int32)
    (h : z_ev d (136, 5, [some (z_r 0 0), some (z_i (x1)), some (z_i (x2)), some (z_i 0), some (z_i 0)], [], (true, X, I, J)) r) :
    z_ev d (z_en 136 [z_r 0 0, z_i (x1), z_i (x2)] (true, X, I, J)) r := by
  show z_ev d (136, 0, [some (z_r 0 0), some (z_i (x1)), some (z_i (x2)), none, none], [], (true, X, I, J)) r
  refine z_ev_gs 4 (c1 := (136, 5, [some (z_r 0 0), some (z_i (x1)), some (z_i (x2)), some (z_i 0), some (z_i 0)], [], (true, X, I, J))) rfl ?_
  exact h
theorem z_q136_5 {d : Nat} {r : Option z_V × z_M} {X : z_X} {I : Nat → Nat → Nat → Int32} {J : Nat → Nat → Nat → Int64} (x1 : Int32) (x2 : Int32) (x3 : Int32) (x4 : Int32)
    (h : ((x2 ≤ x4 → r = (some (z_i (x3)), (true, X, I, J))) ∧ (x4 < x2 → (∃ k2 : Nat, x4 = Int32.ofNat k2 ∧ k2 < 10 ∧ ((((x1 >>> ((I 28 0 k2) &&& 31)) &&& (1 : Int32)) = 0 → z_ev d (136, 5, [some (z_r 0 0), some (z_i (x1)), some (z_i (x2)), some (z_i (x3)), some (z_i (x4 + (1 : Int32)))], [], (true, X, I, J)) r) ∧ (¬ ((x1 >>> ((I 28 0 k2) &&& 31)) &&& (1 : Int32)) = 0 → z_ev d (136, 5, [some (z_r 0 0), some (z_i (x1)), some (z_i (x2)), some (z_i (x3 ||| ((1 : Int32) <<< ((I 29 0 k2) &&& 31)))), some (z_i (x4 + (1 : Int32)))], [], (true, X, I, J)) r)))))) :
    z_ev d ((136, 5, [some (z_r 0 0), some (z_i (x1)), some (z_i (x2)), some (z_i (x3)), some (z_i (x4))], [], (true, X, I, J))) r := by
  refine z_ev_gs 3 (c1 := (136, (if x2 ≤ x4 then 43 else 11), [some (z_r 0 0), some (z_i (x1)), some (z_i (x2)), some (z_i (x3)), some (z_i (x4))], [], (true, X, I, J))) rfl ?_
  refine z_ev_ifle (fun e1 => ?_) (fun e1 => ?_)
  · have h9 := h.1 e1
    refine z_ev_gs 1 (c1 := (136, 44, [some (z_r 0 0), some (z_i (x1)), some (z_i (x2)), some (z_i (x3)), some (z_i (x4))], [z_i (x3)], (true, X, I, J))) rfl ?_
    rw [h9]
    exact z_ev_rt rfl
  · have h10 := h.2 e1
    refine z_ev_gs 4 (c1 := (136, 18, [some (z_r 0 0), some (z_i (x1)), some (z_i (x2)), some (z_i (x3)), some (z_i (x4))], [z_i (x4), z_r 28 0, z_i (x1)], (true, X, I, J))) rfl ?_
    obtain ⟨k2, e3, e4, h5⟩ := h10
    refine z_ev_iald (t := 28) (i := 0) (k := k2) (n := 10) rfl rfl e3 e4 (by decide) ?_
    refine z_ev_gs 4 (c1 := (136, (if ((x1 >>> ((I 28 0 k2) &&& 31)) &&& (1 : Int32)) = 0 then 37 else 25), [some (z_r 0 0), some (z_i (x1)), some (z_i (x2)), some (z_i (x3)), some (z_i (x4))], [], (true, X, I, J))) rfl ?_
    refine z_ev_if (fun e6 => ?_) (fun e6 => ?_)
    · have h7 := h5.1 e6
      refine z_ev_gs 2 (c1 := (136, 5, [some (z_r 0 0), some (z_i (x1)), some (z_i (x2)), some (z_i (x3)), some (z_i (x4 + (1 : Int32)))], [], (true, X, I, J))) rfl ?_
      exact h7
    · have h8 := h5.2 e6
      refine z_ev_gs 5 (c1 := (136, 33, [some (z_r 0 0), some (z_i (x1)), some (z_i (x2)), some (z_i (x3)), some (z_i (x4))], [z_i (x4), z_r 29 0, z_i 1, z_i (x3)], (true, X, I, J))) rfl ?_
      refine z_ev_iald (t := 29) (i := 0) (k := k2) (n := 10) rfl rfl e3 (Nat.lt_of_lt_of_le e4 (by decide)) (by decide) ?_
      refine z_ev_gs 5 (c1 := (136, 5, [some (z_r 0 0), some (z_i (x1)), some (z_i (x2)), some (z_i (x3 ||| ((1 : Int32) <<< ((I 29 0 k2) &&& 31)))), some (z_i (x4 + (1 : Int32)))], [], (true, X, I, J))) rfl ?_
      exact h8
theorem z_q135_e {d : Nat} {r : Option z_V × z_M} {X : z_X} {I : Nat → Nat → Nat → Int32} {J : Nat → Nat → Nat → Int64} (q1 : Nat) (hq1 : q1 < 10) (q2 : Nat) (hq2 : q2 < 10) (x3 : Int32) (x4 : Int32)
    (h : (((I 13 q1 1) ≤ x3 → r = (some (z_i 1), (true, X, I, J))) ∧ (x3 < (I 13 q1 1) → ((x3 < (10 : Int32) → (∃ k3 : Nat, x3 = Int32.ofNat k3 ∧ k3 < 10 ∧ (∃ k7 : Nat, (I 28 0 k3) = Int32.ofNat k7 ∧ k7 < 10 ∧ (∃ (v16 : Int32) (X11 : z_X) (I12 : Nat → Nat → Nat → Int32) (J13 : Nat → Nat → Nat → Int64), z_ev d (z_en 136 [z_r 0 0, z_i (I 14 q1 k7), z_i (x3)] (true, X, I, J)) (some (z_i (v16)), (true, X11, I12, J13)) ∧ z_ev (d + 1) (135, 41, [some (z_r 0 0), some (z_r 13 q1), some (z_r 13 q2), some (z_i (x3)), some (z_i (x4)), some (z_i (I 14 q1 k7)), some (z_i (v16)), some (z_i 0)], [], (true, X11, I12, J13)) r)))) ∧ ((10 : Int32) ≤ x3 → r = (some (z_i 1), (true, X, I, J))))))) :
    z_ev (d + 1) (z_en 135 [z_r 0 0, z_r 13 q1, z_r 13 q2, z_i (x3), z_i (x4)] (true, X, I, J)) r := by
  show z_ev (d + 1) (135, 0, [some (z_r 0 0), some (z_r 13 q1), some (z_r 13 q2), some (z_i (x3)), some (z_i (x4)), none, none, none], [], (true, X, I, J)) r
  refine z_ev_gs 2 (c1 := (135, 2, [some (z_r 0 0), some (z_r 13 q1), some (z_r 13 q2), some (z_i (x3)), some (z_i (x4)), none, none, none], [z_r 13 q1, z_i (x3)], (true, X, I, J))) rfl ?_
  refine z_ev_gi (c1 := (135, 5, [some (z_r 0 0), some (z_r 13 q1), some (z_r 13 q2), some (z_i (x3)), some (z_i (x4)), none, none, none], [z_i (I 13 q1 1), z_i (x3)], (true, X, I, J))) rfl hq1 ?_
  refine z_ev_gs 1 (c1 := (135, (if (I 13 q1 1) ≤ x3 then 14 else 8), [some (z_r 0 0), some (z_r 13 q1), some (z_r 13 q2), some (z_i (x3)), some (z_i (x4)), none, none, none], [], (true, X, I, J))) rfl ?_
  refine z_ev_ifle (fun e1 => ?_) (fun e1 => ?_)
  · have h19 := h.1 e1
    refine z_ev_gs 1 (c1 := (135, 15, [some (z_r 0 0), some (z_r 13 q1), some (z_r 13 q2), some (z_i (x3)), some (z_i (x4)), none, none, none], [z_i 1], (true, X, I, J))) rfl ?_
    rw [h19]
    exact z_ev_rt rfl
  · have h20 := h.2 e1
    refine z_ev_gs 3 (c1 := (135, (if x3 < (10 : Int32) then 16 else 14), [some (z_r 0 0), some (z_r 13 q1), some (z_r 13 q2), some (z_i (x3)), some (z_i (x4)), none, none, none], [], (true, X, I, J))) rfl ?_
    refine z_ev_iflt (fun e2 => ?_) (fun e2 => ?_)
    · have h17 := h20.1 e2
      refine z_ev_gs 1 (c1 := (135, 17, [some (z_r 0 0), some (z_r 13 q1), some (z_r 13 q2), some (z_i (x3)), some (z_i (x4)), none, none, none], [z_r 13 q1], (true, X, I, J))) rfl ?_
      refine z_ev_gi (c1 := (135, 20, [some (z_r 0 0), some (z_r 13 q1), some (z_r 13 q2), some (z_i (x3)), some (z_i (x4)), none, none, none], [z_r 14 q1], (true, X, I, J))) rfl hq1 ?_
      refine z_ev_gs 3 (c1 := (135, 25, [some (z_r 0 0), some (z_r 13 q1), some (z_r 13 q2), some (z_i (x3)), some (z_i (x4)), none, none, none], [z_i (x3), z_r 28 0, z_r 14 q1], (true, X, I, J))) rfl ?_
      obtain ⟨k3, e4, e5, h6⟩ := h17
      refine z_ev_iald (t := 28) (i := 0) (k := k3) (n := 10) rfl rfl e4 e5 (by decide) ?_
      obtain ⟨k7, e8, e9, h10⟩ := h6
      refine z_ev_iald (t := 14) (i := q1) (k := k7) (n := 10) rfl (z_gt hq1) e8 e9 (by decide) ?_
      refine z_ev_gs 4 (c1 := (135, 33, [some (z_r 0 0), some (z_r 13 q1), some (z_r 13 q2), some (z_i (x3)), some (z_i (x4)), some (z_i (I 14 q1 k7)), none, none], [z_i (x3), z_i (I 14 q1 k7), z_r 0 0], (true, X, I, J))) rfl ?_
      obtain ⟨v16, X11, I12, J13, g14, h15⟩ := h10
      refine z_ev_ca rfl rfl g14 ?_
      refine z_ev_gs 3 (c1 := (135, 41, [some (z_r 0 0), some (z_r 13 q1), some (z_r 13 q2), some (z_i (x3)), some (z_i (x4)), some (z_i (I 14 q1 k7)), some (z_i (v16)), some (z_i 0)], [], (true, X11, I12, J13))) rfl ?_
      exact h15
    · have h18 := h20.2 e2
      refine z_ev_gs 1 (c1 := (135, 15, [some (z_r 0 0), some (z_r 13 q1), some (z_r 13 q2), some (z_i (x3)), some (z_i (x4)), none, none, none], [z_i 1], (true, X, I, J))) rfl ?_
      rw [h18]
      exact z_ev_rt rfl
theorem z_q135_41 {d : Nat} {r : Option z_V × z_M} {X : z_X} {I : Nat → Nat → Nat → Int32} {J : Nat → Nat → Nat → Int64} (q1 : Nat) (hq1 : q1 < 10) (q2 : Nat) (hq2 : q2 < 10) (x3 : Int32) (x4 : Int32) (x5 : Int32) (x6 : Int32) (x7 : Int32)
    (h : (((I 13 q2 1) ≤ x7 → r = (some (z_i 0), (true, X, I, J))) ∧ (x7 < (I 13 q2 1) → ((¬ ((x4 >>> (x7 &&& 31)) &&& (1 : Int32)) = 0 → z_ev (d + 1) (135, 41, [some (z_r 0 0), some (z_r 13 q1), some (z_r 13 q2), some (z_i (x3)), some (z_i (x4)), some (z_i (x5)), some (z_i (x6)), some (z_i (x7 + (1 : Int32)))], [], (true, X, I, J)) r) ∧ (((x4 >>> (x7 &&& 31)) &&& (1 : Int32)) = 0 → (∃ k23 : Nat, x7 = Int32.ofNat k23 ∧ k23 < 10 ∧ ((¬ ((I 14 q2 k23) &&& x4) = x6 → z_ev (d + 1) (135, 41, [some (z_r 0 0), some (z_r 13 q1), some (z_r 13 q2), some (z_i (x3)), some (z_i (x4)), some (z_i (x5)), some (z_i (x6)), some (z_i (x7 + (1 : Int32)))], [], (true, X, I, J)) r) ∧ (((I 14 q2 k23) &&& x4) = x6 → ((¬ (z_bc (I 14 q2 k23)) = (z_bc x5) → z_ev (d + 1) (135, 41, [some (z_r 0 0), some (z_r 13 q1), some (z_r 13 q2), some (z_i (x3)), some (z_i (x4)), some (z_i (x5)), some (z_i (x6)), some (z_i (x7 + (1 : Int32)))], [], (true, X, I, J)) r) ∧ ((z_bc (I 14 q2 k23)) = (z_bc x5) → (∃ k29 : Nat, x3 = Int32.ofNat k29 ∧ k29 < 10 ∧ (∃ (b38 : Bool) (X33 : z_X) (I34 : Nat → Nat → Nat → Int32) (J35 : Nat → Nat → Nat → Int64), z_ev d (z_en 135 [z_r 0 0, z_r 13 q1, z_r 13 q2, z_i (x3 + (1 : Int32)), z_i (x4 ||| ((1 : Int32) <<< (x7 &&& 31)))] (true, X, (z_up I 29 0 k29 x7), J)) (some (z_i (z_c b38)), (true, X33, I34, J35)) ∧ ((b38 = false → z_ev (d + 1) (135, 41, [some (z_r 0 0), some (z_r 13 q1), some (z_r 13 q2), some (z_i (x3)), some (z_i (x4)), some (z_i (x5)), some (z_i (x6)), some (z_i (x7 + (1 : Int32)))], [], (true, X33, I34, J35)) r) ∧ (b38 = true → r = (some (z_i 1), (true, X33, I34, J35)))))))))))))))) :
    z_ev (d + 1) ((135, 41, [some (z_r 0 0), some (z_r 13 q1), some (z_r 13 q2), some (z_i (x3)), some (z_i (x4)), some (z_i (x5)), some (z_i (x6)), some (z_i (x7))], [], (true, X, I, J))) r := by
  refine z_ev_gs 2 (c1 := (135, 44, [some (z_r 0 0), some (z_r 13 q1), some (z_r 13 q2), some (z_i (x3)), some (z_i (x4)), some (z_i (x5)), some (z_i (x6)), some (z_i (x7))], [z_r 13 q2, z_i (x7)], (true, X, I, J))) rfl ?_
  refine z_ev_gi (c1 := (135, 47, [some (z_r 0 0), some (z_r 13 q1), some (z_r 13 q2), some (z_i (x3)), some (z_i (x4)), some (z_i (x5)), some (z_i (x6)), some (z_i (x7))], [z_i (I 13 q2 1), z_i (x7)], (true, X, I, J))) rfl hq2 ?_
  refine z_ev_gs 1 (c1 := (135, (if (I 13 q2 1) ≤ x7 then 128 else 50), [some (z_r 0 0), some (z_r 13 q1), some (z_r 13 q2), some (z_i (x3)), some (z_i (x4)), some (z_i (x5)), some (z_i (x6)), some (z_i (x7))], [], (true, X, I, J))) rfl ?_
  refine z_ev_ifle (fun e21 => ?_) (fun e21 => ?_)
  · have h48 := h.1 e21
    refine z_ev_gs 1 (c1 := (135, 129, [some (z_r 0 0), some (z_r 13 q1), some (z_r 13 q2), some (z_i (x3)), some (z_i (x4)), some (z_i (x5)), some (z_i (x6)), some (z_i (x7))], [z_i 0], (true, X, I, J))) rfl ?_
    rw [h48]
    exact z_ev_rt rfl
  · have h49 := h.2 e21
    refine z_ev_gs 6 (c1 := (135, (if ¬ ((x4 >>> (x7 &&& 31)) &&& (1 : Int32)) = 0 then 122 else 60), [some (z_r 0 0), some (z_r 13 q1), some (z_r 13 q2), some (z_i (x3)), some (z_i (x4)), some (z_i (x5)), some (z_i (x6)), some (z_i (x7))], [], (true, X, I, J))) rfl ?_
    refine z_ev_ifn (fun e22 => ?_) (fun e22 => ?_)
    · have h46 := h49.1 e22
      refine z_ev_gs 2 (c1 := (135, 41, [some (z_r 0 0), some (z_r 13 q1), some (z_r 13 q2), some (z_i (x3)), some (z_i (x4)), some (z_i (x5)), some (z_i (x6)), some (z_i (x7 + (1 : Int32)))], [], (true, X, I, J))) rfl ?_
      exact h46
    · have h47 := h49.2 e22
      refine z_ev_gs 1 (c1 := (135, 61, [some (z_r 0 0), some (z_r 13 q1), some (z_r 13 q2), some (z_i (x3)), some (z_i (x4)), some (z_i (x5)), some (z_i (x6)), some (z_i (x7))], [z_r 13 q2], (true, X, I, J))) rfl ?_
      refine z_ev_gi (c1 := (135, 64, [some (z_r 0 0), some (z_r 13 q1), some (z_r 13 q2), some (z_i (x3)), some (z_i (x4)), some (z_i (x5)), some (z_i (x6)), some (z_i (x7))], [z_r 14 q2], (true, X, I, J))) rfl hq2 ?_
      refine z_ev_gs 1 (c1 := (135, 66, [some (z_r 0 0), some (z_r 13 q1), some (z_r 13 q2), some (z_i (x3)), some (z_i (x4)), some (z_i (x5)), some (z_i (x6)), some (z_i (x7))], [z_i (x7), z_r 14 q2], (true, X, I, J))) rfl ?_
      obtain ⟨k23, e24, e25, h26⟩ := h47
      refine z_ev_iald (t := 14) (i := q2) (k := k23) (n := 10) rfl (z_gt hq2) e24 e25 (by decide) ?_
      refine z_ev_gs 4 (c1 := (135, (if ¬ ((I 14 q2 k23) &&& x4) = x6 then 122 else 75), [some (z_r 0 0), some (z_r 13 q1), some (z_r 13 q2), some (z_i (x3)), some (z_i (x4)), some (z_i (x5)), some (z_i (x6)), some (z_i (x7))], [], (true, X, I, J))) rfl ?_
      refine z_ev_ifn (fun e27 => ?_) (fun e27 => ?_)
      · have h44 := h26.1 e27
        refine z_ev_gs 2 (c1 := (135, 41, [some (z_r 0 0), some (z_r 13 q1), some (z_r 13 q2), some (z_i (x3)), some (z_i (x4)), some (z_i (x5)), some (z_i (x6)), some (z_i (x7 + (1 : Int32)))], [], (true, X, I, J))) rfl ?_
        exact h44
      · have h45 := h26.2 e27
        refine z_ev_gs 1 (c1 := (135, 76, [some (z_r 0 0), some (z_r 13 q1), some (z_r 13 q2), some (z_i (x3)), some (z_i (x4)), some (z_i (x5)), some (z_i (x6)), some (z_i (x7))], [z_r 13 q2], (true, X, I, J))) rfl ?_
        refine z_ev_gi (c1 := (135, 79, [some (z_r 0 0), some (z_r 13 q1), some (z_r 13 q2), some (z_i (x3)), some (z_i (x4)), some (z_i (x5)), some (z_i (x6)), some (z_i (x7))], [z_r 14 q2], (true, X, I, J))) rfl hq2 ?_
        refine z_ev_gs 1 (c1 := (135, 81, [some (z_r 0 0), some (z_r 13 q1), some (z_r 13 q2), some (z_i (x3)), some (z_i (x4)), some (z_i (x5)), some (z_i (x6)), some (z_i (x7))], [z_i (x7), z_r 14 q2], (true, X, I, J))) rfl ?_
        refine z_ev_iald (t := 14) (i := q2) (k := k23) (n := 10) rfl (z_gt hq2) e24 (Nat.lt_of_lt_of_le e25 (by decide)) (by decide) ?_
        refine z_ev_ca rfl rfl (z_p275 _) ?_
        refine z_ev_gs 1 (c1 := (135, 87, [some (z_r 0 0), some (z_r 13 q1), some (z_r 13 q2), some (z_i (x3)), some (z_i (x4)), some (z_i (x5)), some (z_i (x6)), some (z_i (x7))], [z_i (x5), z_i (z_bc (I 14 q2 k23))], (true, X, I, J))) rfl ?_
        refine z_ev_ca rfl rfl (z_p275 _) ?_
        refine z_ev_gs 1 (c1 := (135, (if ¬ (z_bc (I 14 q2 k23)) = (z_bc x5) then 122 else 93), [some (z_r 0 0), some (z_r 13 q1), some (z_r 13 q2), some (z_i (x3)), some (z_i (x4)), some (z_i (x5)), some (z_i (x6)), some (z_i (x7))], [], (true, X, I, J))) rfl ?_
        refine z_ev_ifn (fun e28 => ?_) (fun e28 => ?_)
        · have h42 := h45.1 e28
          refine z_ev_gs 2 (c1 := (135, 41, [some (z_r 0 0), some (z_r 13 q1), some (z_r 13 q2), some (z_i (x3)), some (z_i (x4)), some (z_i (x5)), some (z_i (x6)), some (z_i (x7 + (1 : Int32)))], [], (true, X, I, J))) rfl ?_
          exact h42
        · have h43 := h45.2 e28
          refine z_ev_gs 4 (c1 := (135, 100, [some (z_r 0 0), some (z_r 13 q1), some (z_r 13 q2), some (z_i (x3)), some (z_i (x4)), some (z_i (x5)), some (z_i (x6)), some (z_i (x7))], [z_i (x7), z_i (x3), z_r 29 0], (true, X, I, J))) rfl ?_
          obtain ⟨k29, e30, e31, h32⟩ := h43
          refine z_ev_iast (t := 29) (i := 0) (k := k29) (n := 10) rfl rfl e30 e31 (by decide) ?_
          refine z_ev_gs 11 (c1 := (135, 114, [some (z_r 0 0), some (z_r 13 q1), some (z_r 13 q2), some (z_i (x3)), some (z_i (x4)), some (z_i (x5)), some (z_i (x6)), some (z_i (x7))], [z_i (x4 ||| ((1 : Int32) <<< (x7 &&& 31))), z_i (x3 + (1 : Int32)), z_r 13 q2, z_r 13 q1, z_r 0 0], (true, X, (z_up I 29 0 k29 x7), J))) rfl ?_
          obtain ⟨b38, X33, I34, J35, g36, h37⟩ := h32
          refine z_ev_ca rfl rfl g36 ?_
          refine z_ev_gs 1 (c1 := (135, (if z_c b38 = 0 then 122 else 120), [some (z_r 0 0), some (z_r 13 q1), some (z_r 13 q2), some (z_i (x3)), some (z_i (x4)), some (z_i (x5)), some (z_i (x6)), some (z_i (x7))], [], (true, X33, I34, J35))) rfl ?_
          refine z_ev_ifc (fun e39 => ?_) (fun e39 => ?_)
          · have h40 := h37.1 e39
            refine z_ev_gs 2 (c1 := (135, 41, [some (z_r 0 0), some (z_r 13 q1), some (z_r 13 q2), some (z_i (x3)), some (z_i (x4)), some (z_i (x5)), some (z_i (x6)), some (z_i (x7 + (1 : Int32)))], [], (true, X33, I34, J35))) rfl ?_
            exact h40
          · have h41 := h37.2 e39
            refine z_ev_gs 1 (c1 := (135, 121, [some (z_r 0 0), some (z_r 13 q1), some (z_r 13 q2), some (z_i (x3)), some (z_i (x4)), some (z_i (x5)), some (z_i (x6)), some (z_i (x7))], [z_i 1], (true, X33, I34, J35))) rfl ?_
            rw [h41]
            exact z_ev_rt rfl
theorem z_q189_e {d : Nat} {r : Option z_V × z_M} {X : z_X} {I : Nat → Nat → Nat → Int32} {J : Nat → Nat → Nat → Int64} (x1 : Int32) (x2 : Int32) (x3 : Int32)
    (h : (∃ k1 : Nat, (((10 : Int32) * x1) + x3) = Int32.ofNat k1 ∧ k1 < 40 ∧ (∃ (v10 : Int32) (X5 : z_X) (I6 : Nat → Nat → Nat → Int32) (J7 : Nat → Nat → Nat → Int64), z_ev d (z_en 170 [z_i (I 35 0 k1)] (true, X, I, J)) (some (z_i (v10)), (true, X5, I6, J7)) ∧ (∃ k11 : Nat, x3 = Int32.ofNat k11 ∧ k11 < 10 ∧ (∃ k15 : Nat, (((10 : Int32) * x2) + (I6 46 0 k11)) = Int32.ofNat k15 ∧ k15 < 40 ∧ (∃ (v24 : Int32) (X19 : z_X) (I20 : Nat → Nat → Nat → Int32) (J21 : Nat → Nat → Nat → Int64), z_ev d (z_en 170 [z_i (I6 35 0 k15)] (true, X5, I6, J7)) (some (z_i (v24)), (true, X19, I20, J21)) ∧ ((v10 = v24 → z_ev (d + 1) (189, 41, [some (z_r 33 0), some (z_i (x1)), some (z_i (x2)), some (z_i (x3)), some (z_i 0)], [], (true, X19, I20, J21)) r) ∧ (¬ v10 = v24 → r = (some (z_i 0), (true, X19, I20, J21)))))))))) :
    z_ev (d + 1) (z_en 189 [z_r 33 0, z_i (x1), z_i (x2), z_i (x3)] (true, X, I, J)) r := by
  show z_ev (d + 1) (189, 0, [some (z_r 33 0), some (z_i (x1)), some (z_i (x2)), some (z_i (x3)), none], [], (true, X, I, J)) r
  refine z_ev_gs 7 (c1 := (189, 10, [some (z_r 33 0), some (z_i (x1)), some (z_i (x2)), some (z_i (x3)), none], [z_i (((10 : Int32) * x1) + x3), z_r 35 0], (true, X, I, J))) rfl ?_
  obtain ⟨k1, e2, e3, h4⟩ := h
  refine z_ev_iald (t := 35) (i := 0) (k := k1) (n := 40) rfl rfl e2 e3 (by decide) ?_
  obtain ⟨v10, X5, I6, J7, g8, h9⟩ := h4
  refine z_ev_ca rfl rfl g8 ?_
  refine z_ev_gs 8 (c1 := (189, 27, [some (z_r 33 0), some (z_i (x1)), some (z_i (x2)), some (z_i (x3)), none], [z_i (x3), z_r 46 0, z_i ((10 : Int32) * x2), z_r 35 0, z_i (v10)], (true, X5, I6, J7))) rfl ?_
  obtain ⟨k11, e12, e13, h14⟩ := h9
  refine z_ev_iald (t := 46) (i := 0) (k := k11) (n := 10) rfl rfl e12 e13 (by decide) ?_
  refine z_ev_gs 1 (c1 := (189, 29, [some (z_r 33 0), some (z_i (x1)), some (z_i (x2)), some (z_i (x3)), none], [z_i (((10 : Int32) * x2) + (I6 46 0 k11)), z_r 35 0, z_i (v10)], (true, X5, I6, J7))) rfl ?_
  obtain ⟨k15, e16, e17, h18⟩ := h14
  refine z_ev_iald (t := 35) (i := 0) (k := k15) (n := 40) rfl rfl e16 e17 (by decide) ?_
  obtain ⟨v24, X19, I20, J21, g22, h23⟩ := h18
  refine z_ev_ca rfl rfl g22 ?_
  refine z_ev_gs 1 (c1 := (189, (if v10 = v24 then 38 else 36), [some (z_r 33 0), some (z_i (x1)), some (z_i (x2)), some (z_i (x3)), none], [], (true, X19, I20, J21))) rfl ?_
  refine z_ev_if (fun e25 => ?_) (fun e25 => ?_)
  · have h26 := h23.1 e25
    refine z_ev_gs 2 (c1 := (189, 41, [some (z_r 33 0), some (z_i (x1)), some (z_i (x2)), some (z_i (x3)), some (z_i 0)], [], (true, X19, I20, J21))) rfl ?_
    exact h26
  · have h27 := h23.2 e25
    refine z_ev_gs 1 (c1 := (189, 37, [some (z_r 33 0), some (z_i (x1)), some (z_i (x2)), some (z_i (x3)), none], [z_i 0], (true, X19, I20, J21))) rfl ?_
    rw [h27]
    exact z_ev_rt rfl
theorem z_q189_41 {d : Nat} {r : Option z_V × z_M} {X : z_X} {I : Nat → Nat → Nat → Int32} {J : Nat → Nat → Nat → Int64} (x1 : Int32) (x2 : Int32) (x3 : Int32) (x4 : Int32)
    (h : ((x3 ≤ x4 → r = (some (z_i 1), (true, X, I, J))) ∧ (x4 < x3 → (∃ k29 : Nat, x4 = Int32.ofNat k29 ∧ k29 < 10 ∧ (∃ k33 : Nat, x3 = Int32.ofNat k33 ∧ k33 < 10 ∧ (((I 46 0 k29) = (I 46 0 k33) → r = (some (z_i 0), (true, X, I, J))) ∧ (¬ (I 46 0 k29) = (I 46 0 k33) → (∃ (b43 : Bool) (X38 : z_X) (I39 : Nat → Nat → Nat → Int32) (J40 : Nat → Nat → Nat → Int64), z_ev d (z_en 167 [z_r 33 0, z_i (x1), z_i (x4), z_i (x3)] (true, X, I, J)) (some (z_i (z_c b43)), (true, X38, I39, J40)) ∧ (∃ (b49 : Bool) (X44 : z_X) (I45 : Nat → Nat → Nat → Int32) (J46 : Nat → Nat → Nat → Int64), z_ev d (z_en 167 [z_r 33 0, z_i (x2), z_i (I39 46 0 k29), z_i (I39 46 0 k33)] (true, X38, I39, J40)) (some (z_i (z_c b49)), (true, X44, I45, J46)) ∧ (((z_c b43) = (z_c b49) → z_ev (d + 1) (189, 41, [some (z_r 33 0), some (z_i (x1)), some (z_i (x2)), some (z_i (x3)), some (z_i (x4 + (1 : Int32)))], [], (true, X44, I45, J46)) r) ∧ (¬ (z_c b43) = (z_c b49) → r = (some (z_i 0), (true, X44, I45, J46))))))))))))) :
    z_ev (d + 1) ((189, 41, [some (z_r 33 0), some (z_i (x1)), some (z_i (x2)), some (z_i (x3)), some (z_i (x4))], [], (true, X, I, J))) r := by
  refine z_ev_gs 3 (c1 := (189, (if x3 ≤ x4 then 100 else 47), [some (z_r 33 0), some (z_i (x1)), some (z_i (x2)), some (z_i (x3)), some (z_i (x4))], [], (true, X, I, J))) rfl ?_
  refine z_ev_ifle (fun e28 => ?_) (fun e28 => ?_)
  · have h55 := h.1 e28
    refine z_ev_gs 1 (c1 := (189, 101, [some (z_r 33 0), some (z_i (x1)), some (z_i (x2)), some (z_i (x3)), some (z_i (x4))], [z_i 1], (true, X, I, J))) rfl ?_
    rw [h55]
    exact z_ev_rt rfl
  · have h56 := h.2 e28
    refine z_ev_gs 3 (c1 := (189, 53, [some (z_r 33 0), some (z_i (x1)), some (z_i (x2)), some (z_i (x3)), some (z_i (x4))], [z_i (x4), z_r 46 0], (true, X, I, J))) rfl ?_
    obtain ⟨k29, e30, e31, h32⟩ := h56
    refine z_ev_iald (t := 46) (i := 0) (k := k29) (n := 10) rfl rfl e30 e31 (by decide) ?_
    refine z_ev_gs 3 (c1 := (189, 59, [some (z_r 33 0), some (z_i (x1)), some (z_i (x2)), some (z_i (x3)), some (z_i (x4))], [z_i (x3), z_r 46 0, z_i (I 46 0 k29)], (true, X, I, J))) rfl ?_
    obtain ⟨k33, e34, e35, h36⟩ := h32
    refine z_ev_iald (t := 46) (i := 0) (k := k33) (n := 10) rfl rfl e34 e35 (by decide) ?_
    refine z_ev_gs 1 (c1 := (189, (if (I 46 0 k29) = (I 46 0 k33) then 92 else 63), [some (z_r 33 0), some (z_i (x1)), some (z_i (x2)), some (z_i (x3)), some (z_i (x4))], [], (true, X, I, J))) rfl ?_
    refine z_ev_if (fun e37 => ?_) (fun e37 => ?_)
    · have h53 := h36.1 e37
      refine z_ev_gs 1 (c1 := (189, 93, [some (z_r 33 0), some (z_i (x1)), some (z_i (x2)), some (z_i (x3)), some (z_i (x4))], [z_i 0], (true, X, I, J))) rfl ?_
      rw [h53]
      exact z_ev_rt rfl
    · have h54 := h36.2 e37
      refine z_ev_gs 4 (c1 := (189, 68, [some (z_r 33 0), some (z_i (x1)), some (z_i (x2)), some (z_i (x3)), some (z_i (x4))], [z_i (x3), z_i (x4), z_i (x1), z_r 33 0], (true, X, I, J))) rfl ?_
      obtain ⟨b43, X38, I39, J40, g41, h42⟩ := h54
      refine z_ev_ca rfl rfl g41 ?_
      refine z_ev_gs 5 (c1 := (189, 79, [some (z_r 33 0), some (z_i (x1)), some (z_i (x2)), some (z_i (x3)), some (z_i (x4))], [z_i (x4), z_r 46 0, z_i (x2), z_r 33 0, z_i (z_c b43)], (true, X38, I39, J40))) rfl ?_
      refine z_ev_iald (t := 46) (i := 0) (k := k29) (n := 10) rfl rfl e30 (Nat.lt_of_lt_of_le e31 (by decide)) (by decide) ?_
      refine z_ev_gs 3 (c1 := (189, 85, [some (z_r 33 0), some (z_i (x1)), some (z_i (x2)), some (z_i (x3)), some (z_i (x4))], [z_i (x3), z_r 46 0, z_i (I39 46 0 k29), z_i (x2), z_r 33 0, z_i (z_c b43)], (true, X38, I39, J40))) rfl ?_
      refine z_ev_iald (t := 46) (i := 0) (k := k33) (n := 10) rfl rfl e34 (Nat.lt_of_lt_of_le e35 (by decide)) (by decide) ?_
      obtain ⟨b49, X44, I45, J46, g47, h48⟩ := h42
      refine z_ev_ca rfl rfl g47 ?_
      refine z_ev_gs 1 (c1 := (189, (if (z_c b43) = (z_c b49) then 94 else 92), [some (z_r 33 0), some (z_i (x1)), some (z_i (x2)), some (z_i (x3)), some (z_i (x4))], [], (true, X44, I45, J46))) rfl ?_
      refine z_ev_if (fun e50 => ?_) (fun e50 => ?_)
      · have h51 := h48.1 e50
        refine z_ev_gs 2 (c1 := (189, 41, [some (z_r 33 0), some (z_i (x1)), some (z_i (x2)), some (z_i (x3)), some (z_i (x4 + (1 : Int32)))], [], (true, X44, I45, J46))) rfl ?_
        exact h51
      · have h52 := h48.2 e50
        refine z_ev_gs 1 (c1 := (189, 93, [some (z_r 33 0), some (z_i (x1)), some (z_i (x2)), some (z_i (x3)), some (z_i (x4))], [z_i 0], (true, X44, I45, J46))) rfl ?_
        rw [h52]
        exact z_ev_rt rfl
theorem z_q74_e {d : Nat} {r : Option z_V × z_M} {X : z_X} {I : Nat → Nat → Nat → Int32} {J : Nat → Nat → Nat → Int64} (x1 : Int32) (x2 : Int32)
    (h : (((z_bw x1 0 3) = false → r = (some (z_i (-1)), (true, X, I, J))) ∧ ((z_bw x1 0 3) = true → (((z_bw x2 0 3) = true → (∃ k3 : Nat, x1 = Int32.ofNat k3 ∧ k3 < 4 ∧ (∃ k7 : Nat, x2 = Int32.ofNat k7 ∧ k7 < 4 ∧ ((¬ (I 13 k3 1) = (I 13 k7 1) → r = (some (z_i 0), (true, X, I, J))) ∧ ((I 13 k3 1) = (I 13 k7 1) → (∃ (v17 : Int32) (X12 : z_X) (I13 : Nat → Nat → Nat → Int32) (J14 : Nat → Nat → Nat → Int64), z_ev (d + 13) (z_en 26 [z_r 13 k3] (true, X, I, J)) (some (z_i (v17)), (true, X12, I13, J14)) ∧ (∃ (v23 : Int32) (X18 : z_X) (I19 : Nat → Nat → Nat → Int32) (J20 : Nat → Nat → Nat → Int64), z_ev (d + 13) (z_en 26 [z_r 13 k7] (true, X12, I13, J14)) (some (z_i (v23)), (true, X18, I19, J20)) ∧ ((v17 = v23 → (∃ (X25 : z_X) (I26 : Nat → Nat → Nat → Int32) (J27 : Nat → Nat → Nat → Int64), z_ev (d + 13) (z_en 134 [z_r 0 0, z_r 13 k3] (true, X18, I19, J20)) (none, (true, X25, I26, J27)) ∧ (∃ (b35 : Bool) (X30 : z_X) (I31 : Nat → Nat → Nat → Int32) (J32 : Nat → Nat → Nat → Int64), z_ev (d + 13) (z_en 135 [z_r 0 0, z_r 13 k3, z_r 13 k7, z_i 0, z_i 0] (true, X25, I26, J27)) (some (z_i (z_c b35)), (true, X30, I31, J32)) ∧ ((b35 = false → r = (some (z_i 0), (true, X30, I31, J32))) ∧ (b35 = true → r = (some (z_i 1), (true, X30, I31, J32))))))) ∧ (¬ v17 = v23 → r = (some (z_i 0), (true, X18, I19, J20))))))))))) ∧ ((z_bw x2 0 3) = false → r = (some (z_i (-1)), (true, X, I, J))))))) :
    z_ev (d + 14) (z_en 74 [z_r 0 0, z_i (x1), z_i (x2)] (true, X, I, J)) r := by
  show z_ev (d + 14) (74, 0, [some (z_r 0 0), some (z_i (x1)), some (z_i (x2)), none, none], [], (true, X, I, J)) r
  refine z_ev_gs 1 (c1 := (74, 1, [some (z_r 0 0), some (z_i (x1)), some (z_i (x2)), none, none], [z_i (x1)], (true, X, I, J))) rfl ?_
  refine z_ev_ca rfl rfl (z_p118 _) ?_
  refine z_ev_gs 1 (c1 := (74, (if z_c (z_bw x1 0 3) = 0 then 14 else 7), [some (z_r 0 0), some (z_i (x1)), some (z_i (x2)), none, none], [], (true, X, I, J))) rfl ?_
  refine z_ev_ifc (fun e1 => ?_) (fun e1 => ?_)
  · have h45 := h.1 e1
    refine z_ev_gs 1 (c1 := (74, 15, [some (z_r 0 0), some (z_i (x1)), some (z_i (x2)), none, none], [z_i (-1)], (true, X, I, J))) rfl ?_
    rw [h45]
    exact z_ev_rt rfl
  · have h46 := h.2 e1
    refine z_ev_gs 1 (c1 := (74, 8, [some (z_r 0 0), some (z_i (x1)), some (z_i (x2)), none, none], [z_i (x2)], (true, X, I, J))) rfl ?_
    refine z_ev_ca rfl rfl (z_p118 _) ?_
    refine z_ev_gs 1 (c1 := (74, (if ¬ z_c (z_bw x2 0 3) = 0 then 16 else 14), [some (z_r 0 0), some (z_i (x1)), some (z_i (x2)), none, none], [], (true, X, I, J))) rfl ?_
    refine z_ev_ifcn (fun e2 => ?_) (fun e2 => ?_)
    · have h43 := h46.1 e2
      refine z_ev_gs 4 (c1 := (74, 24, [some (z_r 0 0), some (z_i (x1)), some (z_i (x2)), none, none], [z_i (x1), z_r 2 0], (true, X, I, J))) rfl ?_
      obtain ⟨k3, e4, e5, h6⟩ := h43
      refine z_ev_nt0 (k := k3) rfl e4 e5 ?_
      refine z_ev_gs 5 (c1 := (74, 34, [some (z_r 0 0), some (z_i (x1)), some (z_i (x2)), some (z_r 13 k3), none], [z_i (x2), z_r 2 0], (true, X, I, J))) rfl ?_
      obtain ⟨k7, e8, e9, h10⟩ := h6
      refine z_ev_nt0 (k := k7) rfl e8 e9 ?_
      refine z_ev_gs 2 (c1 := (74, 38, [some (z_r 0 0), some (z_i (x1)), some (z_i (x2)), some (z_r 13 k3), some (z_r 13 k7)], [z_r 13 k3], (true, X, I, J))) rfl ?_
      refine z_ev_gi (c1 := (74, 41, [some (z_r 0 0), some (z_i (x1)), some (z_i (x2)), some (z_r 13 k3), some (z_r 13 k7)], [z_i (I 13 k3 1)], (true, X, I, J))) rfl (z_lt40 e5) ?_
      refine z_ev_gs 1 (c1 := (74, 43, [some (z_r 0 0), some (z_i (x1)), some (z_i (x2)), some (z_r 13 k3), some (z_r 13 k7)], [z_r 13 k7, z_i (I 13 k3 1)], (true, X, I, J))) rfl ?_
      refine z_ev_gi (c1 := (74, 46, [some (z_r 0 0), some (z_i (x1)), some (z_i (x2)), some (z_r 13 k3), some (z_r 13 k7)], [z_i (I 13 k7 1), z_i (I 13 k3 1)], (true, X, I, J))) rfl (z_lt40 e9) ?_
      refine z_ev_gs 1 (c1 := (74, (if ¬ (I 13 k3 1) = (I 13 k7 1) then 61 else 49), [some (z_r 0 0), some (z_i (x1)), some (z_i (x2)), some (z_r 13 k3), some (z_r 13 k7)], [], (true, X, I, J))) rfl ?_
      refine z_ev_ifn (fun e11 => ?_) (fun e11 => ?_)
      · have h41 := h10.1 e11
        refine z_ev_gs 1 (c1 := (74, 62, [some (z_r 0 0), some (z_i (x1)), some (z_i (x2)), some (z_r 13 k3), some (z_r 13 k7)], [z_i 0], (true, X, I, J))) rfl ?_
        rw [h41]
        exact z_ev_rt rfl
      · have h42 := h10.2 e11
        refine z_ev_gs 1 (c1 := (74, 50, [some (z_r 0 0), some (z_i (x1)), some (z_i (x2)), some (z_r 13 k3), some (z_r 13 k7)], [z_r 13 k3], (true, X, I, J))) rfl ?_
        obtain ⟨v17, X12, I13, J14, g15, h16⟩ := h42
        refine z_ev_cg rfl (z_lt40 e5) rfl g15 ?_
        refine z_ev_gs 1 (c1 := (74, 55, [some (z_r 0 0), some (z_i (x1)), some (z_i (x2)), some (z_r 13 k3), some (z_r 13 k7)], [z_r 13 k7, z_i (v17)], (true, X12, I13, J14))) rfl ?_
        obtain ⟨v23, X18, I19, J20, g21, h22⟩ := h16
        refine z_ev_cg rfl (z_lt40 e9) rfl g21 ?_
        refine z_ev_gs 1 (c1 := (74, (if v17 = v23 then 63 else 61), [some (z_r 0 0), some (z_i (x1)), some (z_i (x2)), some (z_r 13 k3), some (z_r 13 k7)], [], (true, X18, I19, J20))) rfl ?_
        refine z_ev_if (fun e24 => ?_) (fun e24 => ?_)
        · have h39 := h22.1 e24
          refine z_ev_gs 2 (c1 := (74, 65, [some (z_r 0 0), some (z_i (x1)), some (z_i (x2)), some (z_r 13 k3), some (z_r 13 k7)], [z_r 13 k3, z_r 0 0], (true, X18, I19, J20))) rfl ?_
          obtain ⟨X25, I26, J27, g28, h29⟩ := h39
          refine z_ev_ca rfl rfl g28 ?_
          refine z_ev_gs 5 (c1 := (74, 74, [some (z_r 0 0), some (z_i (x1)), some (z_i (x2)), some (z_r 13 k3), some (z_r 13 k7)], [z_i 0, z_i 0, z_r 13 k7, z_r 13 k3, z_r 0 0], (true, X25, I26, J27))) rfl ?_
          obtain ⟨b35, X30, I31, J32, g33, h34⟩ := h29
          refine z_ev_ca rfl rfl g33 ?_
          refine z_ev_gs 1 (c1 := (74, (if z_c b35 = 0 then 84 else 80), [some (z_r 0 0), some (z_i (x1)), some (z_i (x2)), some (z_r 13 k3), some (z_r 13 k7)], [], (true, X30, I31, J32))) rfl ?_
          refine z_ev_ifc (fun e36 => ?_) (fun e36 => ?_)
          · have h37 := h34.1 e36
            refine z_ev_gs 1 (c1 := (74, 85, [some (z_r 0 0), some (z_i (x1)), some (z_i (x2)), some (z_r 13 k3), some (z_r 13 k7)], [z_i 0], (true, X30, I31, J32))) rfl ?_
            rw [h37]
            exact z_ev_rt rfl
          · have h38 := h34.2 e36
            refine z_ev_gs 2 (c1 := (74, 85, [some (z_r 0 0), some (z_i (x1)), some (z_i (x2)), some (z_r 13 k3), some (z_r 13 k7)], [z_i 1], (true, X30, I31, J32))) rfl ?_
            rw [h38]
            exact z_ev_rt rfl
        · have h40 := h22.2 e24
          refine z_ev_gs 1 (c1 := (74, 62, [some (z_r 0 0), some (z_i (x1)), some (z_i (x2)), some (z_r 13 k3), some (z_r 13 k7)], [z_i 0], (true, X18, I19, J20))) rfl ?_
          rw [h40]
          exact z_ev_rt rfl
    · have h44 := h46.2 e2
      refine z_ev_gs 1 (c1 := (74, 15, [some (z_r 0 0), some (z_i (x1)), some (z_i (x2)), none, none], [z_i (-1)], (true, X, I, J))) rfl ?_
      rw [h44]
      exact z_ev_rt rfl
theorem z_q190_e {d : Nat} {r : Option z_V × z_M} {X : z_X} {I : Nat → Nat → Nat → Int32} {J : Nat → Nat → Nat → Int64} (x1 : Int32) (x2 : Int32)
    (h : (((z_bw x1 0 3) = false → r = (some (z_i (-1)), (true, X, I, J))) ∧ ((z_bw x1 0 3) = true → (((z_bw x2 0 3) = true → (∃ k3 : Nat, x1 = Int32.ofNat k3 ∧ k3 < 4 ∧ (∃ k7 : Nat, x2 = Int32.ofNat k7 ∧ k7 < 4 ∧ (((I 34 0 k3) = (I 34 0 k7) → z_ev (d + 2) (190, 45, [some (z_r 33 0), some (z_i (x1)), some (z_i (x2)), some (z_i (I 34 0 k3)), some (z_i 0)], [], (true, X, (z_up I 46 0 0 (-1 : Int32)), J)) r) ∧ (¬ (I 34 0 k3) = (I 34 0 k7) → r = (some (z_i 0), (true, X, I, J))))))) ∧ ((z_bw x2 0 3) = false → r = (some (z_i (-1)), (true, X, I, J))))))) :
    z_ev (d + 2) (z_en 190 [z_r 33 0, z_i (x1), z_i (x2)] (true, X, I, J)) r := by
  show z_ev (d + 2) (190, 0, [some (z_r 33 0), some (z_i (x1)), some (z_i (x2)), none, none], [], (true, X, I, J)) r
  refine z_ev_gs 1 (c1 := (190, 1, [some (z_r 33 0), some (z_i (x1)), some (z_i (x2)), none, none], [z_i (x1)], (true, X, I, J))) rfl ?_
  refine z_ev_ca rfl rfl (z_p162 _) ?_
  refine z_ev_gs 1 (c1 := (190, (if z_c (z_bw x1 0 3) = 0 then 14 else 7), [some (z_r 33 0), some (z_i (x1)), some (z_i (x2)), none, none], [], (true, X, I, J))) rfl ?_
  refine z_ev_ifc (fun e1 => ?_) (fun e1 => ?_)
  · have h16 := h.1 e1
    refine z_ev_gs 1 (c1 := (190, 15, [some (z_r 33 0), some (z_i (x1)), some (z_i (x2)), none, none], [z_i (-1)], (true, X, I, J))) rfl ?_
    rw [h16]
    exact z_ev_rt rfl
  · have h17 := h.2 e1
    refine z_ev_gs 1 (c1 := (190, 8, [some (z_r 33 0), some (z_i (x1)), some (z_i (x2)), none, none], [z_i (x2)], (true, X, I, J))) rfl ?_
    refine z_ev_ca rfl rfl (z_p162 _) ?_
    refine z_ev_gs 1 (c1 := (190, (if ¬ z_c (z_bw x2 0 3) = 0 then 16 else 14), [some (z_r 33 0), some (z_i (x1)), some (z_i (x2)), none, none], [], (true, X, I, J))) rfl ?_
    refine z_ev_ifcn (fun e2 => ?_) (fun e2 => ?_)
    · have h14 := h17.1 e2
      refine z_ev_gs 3 (c1 := (190, 21, [some (z_r 33 0), some (z_i (x1)), some (z_i (x2)), none, none], [z_i (x1), z_r 34 0], (true, X, I, J))) rfl ?_
      obtain ⟨k3, e4, e5, h6⟩ := h14
      refine z_ev_iald (t := 34) (i := 0) (k := k3) (n := 4) rfl rfl e4 e5 (by decide) ?_
      refine z_ev_gs 5 (c1 := (190, 29, [some (z_r 33 0), some (z_i (x1)), some (z_i (x2)), some (z_i (I 34 0 k3)), none], [z_i (x2), z_r 34 0, z_i (I 34 0 k3)], (true, X, I, J))) rfl ?_
      obtain ⟨k7, e8, e9, h10⟩ := h6
      refine z_ev_iald (t := 34) (i := 0) (k := k7) (n := 4) rfl rfl e8 e9 (by decide) ?_
      refine z_ev_gs 1 (c1 := (190, (if (I 34 0 k3) = (I 34 0 k7) then 35 else 33), [some (z_r 33 0), some (z_i (x1)), some (z_i (x2)), some (z_i (I 34 0 k3)), none], [], (true, X, I, J))) rfl ?_
      refine z_ev_if (fun e11 => ?_) (fun e11 => ?_)
      · have h12 := h10.1 e11
        refine z_ev_gs 6 (c1 := (190, 44, [some (z_r 33 0), some (z_i (x1)), some (z_i (x2)), some (z_i (I 34 0 k3)), some (z_i 0)], [z_i (-1), z_i 0, z_r 46 0], (true, X, I, J))) rfl ?_
        refine z_ev_gs 1 (c1 := (190, 45, [some (z_r 33 0), some (z_i (x1)), some (z_i (x2)), some (z_i (I 34 0 k3)), some (z_i 0)], [], (true, X, (z_up I 46 0 0 (-1 : Int32)), J))) rfl ?_
        exact h12
      · have h13 := h10.2 e11
        refine z_ev_gs 1 (c1 := (190, 34, [some (z_r 33 0), some (z_i (x1)), some (z_i (x2)), some (z_i (I 34 0 k3)), none], [z_i 0], (true, X, I, J))) rfl ?_
        rw [h13]
        exact z_ev_rt rfl
    · have h15 := h17.2 e2
      refine z_ev_gs 1 (c1 := (190, 15, [some (z_r 33 0), some (z_i (x1)), some (z_i (x2)), none, none], [z_i (-1)], (true, X, I, J))) rfl ?_
      rw [h15]
      exact z_ev_rt rfl
theorem z_q190_45 {d : Nat} {r : Option z_V × z_M} {X : z_X} {I : Nat → Nat → Nat → Int32} {J : Nat → Nat → Nat → Int64} (x1 : Int32) (x2 : Int32) (x3 : Int32) (x4 : Int32)
    (h : ((x4 < 0 → r = (some (z_i 0), (true, X, I, J))) ∧ (0 ≤ x4 → (∃ k19 : Nat, x4 = Int32.ofNat k19 ∧ k19 < 10 ∧ ((¬ ((z_up I 46 0 k19 ((I 46 0 k19) + (1 : Int32))) 46 0 k19) = x3 → (∃ (b29 : Bool) (X24 : z_X) (I25 : Nat → Nat → Nat → Int32) (J26 : Nat → Nat → Nat → Int64), z_ev (d + 1) (z_en 189 [z_r 33 0, z_i (x1), z_i (x2), z_i (x4)] (true, X, (z_up I 46 0 k19 ((I 46 0 k19) + (1 : Int32))), J)) (some (z_i (z_c b29)), (true, X24, I25, J26)) ∧ ((b29 = false → z_ev (d + 2) (190, 45, [some (z_r 33 0), some (z_i (x1)), some (z_i (x2)), some (z_i (x3)), some (z_i (x4))], [], (true, X24, I25, J26)) r) ∧ (b29 = true → ((¬ x4 = (x3 - (1 : Int32)) → (∃ k32 : Nat, (x4 + (1 : Int32)) = Int32.ofNat k32 ∧ k32 < 10 ∧ z_ev (d + 2) (190, 45, [some (z_r 33 0), some (z_i (x1)), some (z_i (x2)), some (z_i (x3)), some (z_i (x4 + (1 : Int32)))], [], (true, X24, (z_up I25 46 0 k32 (-1 : Int32)), J26)) r)) ∧ (x4 = (x3 - (1 : Int32)) → r = (some (z_i 1), (true, X24, I25, J26)))))))) ∧ (((z_up I 46 0 k19 ((I 46 0 k19) + (1 : Int32))) 46 0 k19) = x3 → z_ev (d + 2) (190, 45, [some (z_r 33 0), some (z_i (x1)), some (z_i (x2)), some (z_i (x3)), some (z_i (x4 + (-1 : Int32)))], [], (true, X, (z_up I 46 0 k19 ((I 46 0 k19) + (1 : Int32))), J)) r)))))) :
    z_ev (d + 2) ((190, 45, [some (z_r 33 0), some (z_i (x1)), some (z_i (x2)), some (z_i (x3)), some (z_i (x4))], [], (true, X, I, J))) r := by
  refine z_ev_gs 2 (c1 := (190, (if x4 < 0 then 113 else 50), [some (z_r 33 0), some (z_i (x1)), some (z_i (x2)), some (z_i (x3)), some (z_i (x4))], [], (true, X, I, J))) rfl ?_
  refine z_ev_iflt (fun e18 => ?_) (fun e18 => ?_)
  · have h42 := h.1 e18
    refine z_ev_gs 1 (c1 := (190, 114, [some (z_r 33 0), some (z_i (x1)), some (z_i (x2)), some (z_i (x3)), some (z_i (x4))], [z_i 0], (true, X, I, J))) rfl ?_
    rw [h42]
    exact z_ev_rt rfl
  · have h43 := h.2 e18
    refine z_ev_gs 4 (c1 := (190, 57, [some (z_r 33 0), some (z_i (x1)), some (z_i (x2)), some (z_i (x3)), some (z_i (x4))], [z_i (x4), z_r 46 0, z_i (x4), z_r 46 0], (true, X, I, J))) rfl ?_
    obtain ⟨k19, e20, e21, h22⟩ := h43
    refine z_ev_iald (t := 46) (i := 0) (k := k19) (n := 10) rfl rfl e20 e21 (by decide) ?_
    refine z_ev_gs 2 (c1 := (190, 60, [some (z_r 33 0), some (z_i (x1)), some (z_i (x2)), some (z_i (x3)), some (z_i (x4))], [z_i ((I 46 0 k19) + (1 : Int32)), z_i (x4), z_r 46 0], (true, X, I, J))) rfl ?_
    refine z_ev_iast (t := 46) (i := 0) (k := k19) (n := 10) rfl rfl e20 (Nat.lt_of_lt_of_le e21 (by decide)) (by decide) ?_
    refine z_ev_gs 3 (c1 := (190, 67, [some (z_r 33 0), some (z_i (x1)), some (z_i (x2)), some (z_i (x3)), some (z_i (x4))], [z_i (x4), z_r 46 0], (true, X, (z_up I 46 0 k19 ((I 46 0 k19) + (1 : Int32))), J))) rfl ?_
    refine z_ev_iald (t := 46) (i := 0) (k := k19) (n := 10) rfl rfl e20 (Nat.lt_of_lt_of_le e21 (by decide)) (by decide) ?_
    refine z_ev_gs 2 (c1 := (190, (if ¬ ((z_up I 46 0 k19 ((I 46 0 k19) + (1 : Int32))) 46 0 k19) = x3 then 78 else 72), [some (z_r 33 0), some (z_i (x1)), some (z_i (x2)), some (z_i (x3)), some (z_i (x4))], [], (true, X, (z_up I 46 0 k19 ((I 46 0 k19) + (1 : Int32))), J))) rfl ?_
    refine z_ev_ifn (fun e23 => ?_) (fun e23 => ?_)
    · have h40 := h22.1 e23
      refine z_ev_gs 4 (c1 := (190, 83, [some (z_r 33 0), some (z_i (x1)), some (z_i (x2)), some (z_i (x3)), some (z_i (x4))], [z_i (x4), z_i (x2), z_i (x1), z_r 33 0], (true, X, (z_up I 46 0 k19 ((I 46 0 k19) + (1 : Int32))), J))) rfl ?_
      obtain ⟨b29, X24, I25, J26, g27, h28⟩ := h40
      refine z_ev_ca rfl rfl g27 ?_
      refine z_ev_gs 1 (c1 := (190, (if z_c b29 = 0 then 45 else 89), [some (z_r 33 0), some (z_i (x1)), some (z_i (x2)), some (z_i (x3)), some (z_i (x4))], [], (true, X24, I25, J26))) rfl ?_
      refine z_ev_ifc (fun e30 => ?_) (fun e30 => ?_)
      · have h38 := h28.1 e30
        exact h38
      · have h39 := h28.2 e30
        refine z_ev_gs 5 (c1 := (190, (if ¬ x4 = (x3 - (1 : Int32)) then 99 else 97), [some (z_r 33 0), some (z_i (x1)), some (z_i (x2)), some (z_i (x3)), some (z_i (x4))], [], (true, X24, I25, J26))) rfl ?_
        refine z_ev_ifn (fun e31 => ?_) (fun e31 => ?_)
        · have h36 := h39.1 e31
          refine z_ev_gs 5 (c1 := (190, 109, [some (z_r 33 0), some (z_i (x1)), some (z_i (x2)), some (z_i (x3)), some (z_i (x4 + (1 : Int32)))], [z_i (-1), z_i (x4 + (1 : Int32)), z_r 46 0], (true, X24, I25, J26))) rfl ?_
          obtain ⟨k32, e33, e34, h35⟩ := h36
          refine z_ev_iast (t := 46) (i := 0) (k := k32) (n := 10) rfl rfl e33 e34 (by decide) ?_
          refine z_ev_gs 1 (c1 := (190, 45, [some (z_r 33 0), some (z_i (x1)), some (z_i (x2)), some (z_i (x3)), some (z_i (x4 + (1 : Int32)))], [], (true, X24, (z_up I25 46 0 k32 (-1 : Int32)), J26))) rfl ?_
          exact h35
        · have h37 := h39.2 e31
          refine z_ev_gs 1 (c1 := (190, 98, [some (z_r 33 0), some (z_i (x1)), some (z_i (x2)), some (z_i (x3)), some (z_i (x4))], [z_i 1], (true, X24, I25, J26))) rfl ?_
          rw [h37]
          exact z_ev_rt rfl
    · have h41 := h22.2 e23
      refine z_ev_gs 2 (c1 := (190, 45, [some (z_r 33 0), some (z_i (x1)), some (z_i (x2)), some (z_i (x3)), some (z_i (x4 + (-1 : Int32)))], [], (true, X, (z_up I 46 0 k19 ((I 46 0 k19) + (1 : Int32))), J))) rfl ?_
      exact h41
