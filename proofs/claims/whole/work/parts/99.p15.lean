/-! segments: what is there at a limit; printed by wip/whole/emit_seg.py -/
theorem z_q14_e {d : Nat} {r : Option z_V × z_M} {X : z_X} {I : Nat → Nat → Nat → Int32} {J : Nat → Nat → Nat → Int64} (x1 : Int32) (x2 : Int32) (x3 : Int32) (l4 : Int64)
    (h : ((¬ (lg_cmp l4 (0 : Int64)) = 0 → ((x1 ≤ x2 → (∃ k3 : Nat, (x3 &&& (63 : Int32)) = Int32.ofNat k3 ∧ k3 < 64 ∧ (∃ k7 : Nat, ((z_stc.getD 1 []).getD k3 0) = Int32.ofNat k7 ∧ k7 < 11 ∧ r = (none, (true, X, I, (z_up J 7 0 k7 ((J 7 0 k7) + l4))))))) ∧ (x2 < x1 → ((x2 < (6 : Int32) → (∃ k12 : Nat, x2 = Int32.ofNat k12 ∧ k12 < 6 ∧ (∃ k16 : Nat, ((z_stc.getD 2 []).getD k12 0) = Int32.ofNat k16 ∧ k16 < 10 ∧ (∃ k20 : Nat, ((z_stc.getD 3 []).getD k12 0) = Int32.ofNat k20 ∧ k20 < 10 ∧ (∃ (v29 : Int32) (X24 : z_X) (I25 : Nat → Nat → Nat → Int32) (J26 : Nat → Nat → Nat → Int64), z_ev d (z_en 7 [z_r 4 0, z_i (I 8 0 k16), z_i (I 8 0 k20)] (true, X, I, J)) (some (z_i (v29)), (true, X24, I25, J26)) ∧ (∃ (X30 : z_X) (I31 : Nat → Nat → Nat → Int32) (J32 : Nat → Nat → Nat → Int64), z_ev d (z_en 14 [z_r 4 0, z_i (x1), z_i (x2 + (1 : Int32)), z_i (x3), z_j (l4 * (((4 : Int32) - v29).toInt64))] (true, X24, I25, J26)) (none, (true, X30, I31, J32)) ∧ (∃ (X35 : z_X) (I36 : Nat → Nat → Nat → Int32) (J37 : Nat → Nat → Nat → Int64), z_ev d (z_en 14 [z_r 4 0, z_i (x1), z_i (x2 + (1 : Int32)), z_i (x3 ||| ((1 : Int32) <<< (x2 &&& 31))), z_j (l4 * v29.toInt64)] (true, X30, I31, J32)) (none, (true, X35, I36, J37)) ∧ r = (none, (true, X35, I36, J37))))))))) ∧ ((6 : Int32) ≤ x2 → (∃ k40 : Nat, (x3 &&& (63 : Int32)) = Int32.ofNat k40 ∧ k40 < 64 ∧ (∃ k44 : Nat, ((z_stc.getD 1 []).getD k40 0) = Int32.ofNat k44 ∧ k44 < 11 ∧ r = (none, (true, X, I, (z_up J 7 0 k44 ((J 7 0 k44) + l4))))))))))) ∧ ((lg_cmp l4 (0 : Int64)) = 0 → r = (none, (true, X, I, J))))) :
    z_ev (d + 1) (z_en 14 [z_r 4 0, z_i (x1), z_i (x2), z_i (x3), z_j (l4)] (true, X, I, J)) r := by
  show z_ev (d + 1) (14, 0, [some (z_r 4 0), some (z_i (x1)), some (z_i (x2)), some (z_i (x3)), some (z_j (l4)), none, none], [], (true, X, I, J)) r
  refine z_ev_gs 4 (c1 := (14, (if ¬ (lg_cmp l4 (0 : Int64)) = 0 then 8 else 7), [some (z_r 4 0), some (z_i (x1)), some (z_i (x2)), some (z_i (x3)), some (z_j (l4)), none, none], [], (true, X, I, J))) rfl ?_
  refine z_ev_ifn (fun e1 => ?_) (fun e1 => ?_)
  · have h52 := h.1 e1
    refine z_ev_gs 3 (c1 := (14, (if x1 ≤ x2 then 21 else 13), [some (z_r 4 0), some (z_i (x1)), some (z_i (x2)), some (z_i (x3)), some (z_j (l4)), none, none], [], (true, X, I, J))) rfl ?_
    refine z_ev_ifle (fun e2 => ?_) (fun e2 => ?_)
    · have h50 := h52.1 e2
      refine z_ev_gs 6 (c1 := (14, 32, [some (z_r 4 0), some (z_i (x1)), some (z_i (x2)), some (z_i (x3)), some (z_j (l4)), none, none], [z_i (x3 &&& (63 : Int32)), z_r 66 1, z_r 7 0], (true, X, I, J))) rfl ?_
      obtain ⟨k3, e4, e5, h6⟩ := h50
      refine z_ev_sld (k := k3) (n := 64) rfl e4 e5 (by decide) ?_
      refine z_ev_gs 1 (c1 := (14, 34, [some (z_r 4 0), some (z_i (x1)), some (z_i (x2)), some (z_i (x3)), some (z_j (l4)), none, none], [z_i ((z_stc.getD 1 []).getD k3 0), z_r 7 0, z_i ((z_stc.getD 1 []).getD k3 0), z_r 7 0], (true, X, I, J))) rfl ?_
      obtain ⟨k7, e8, e9, h10⟩ := h6
      refine z_ev_lald (t := 7) (i := 0) (k := k7) (n := 11) rfl rfl e8 e9 (by decide) ?_
      refine z_ev_gs 2 (c1 := (14, 38, [some (z_r 4 0), some (z_i (x1)), some (z_i (x2)), some (z_i (x3)), some (z_j (l4)), none, none], [z_j ((J 7 0 k7) + l4), z_i ((z_stc.getD 1 []).getD k3 0), z_r 7 0], (true, X, I, J))) rfl ?_
      refine z_ev_last (t := 7) (i := 0) (k := k7) (n := 11) rfl rfl e8 (Nat.lt_of_lt_of_le e9 (by decide)) (by decide) ?_
      rw [h10]
      exact z_ev_rt rfl
    · have h51 := h52.2 e2
      refine z_ev_gs 4 (c1 := (14, (if x2 < (6 : Int32) then 40 else 21), [some (z_r 4 0), some (z_i (x1)), some (z_i (x2)), some (z_i (x3)), some (z_j (l4)), none, none], [], (true, X, I, J))) rfl ?_
      refine z_ev_iflt (fun e11 => ?_) (fun e11 => ?_)
      · have h48 := h51.1 e11
        refine z_ev_gs 5 (c1 := (14, 49, [some (z_r 4 0), some (z_i (x1)), some (z_i (x2)), some (z_i (x3)), some (z_j (l4)), none, none], [z_i (x2), z_r 66 2, z_r 8 0, z_r 4 0], (true, X, I, J))) rfl ?_
        obtain ⟨k12, e13, e14, h15⟩ := h48
        refine z_ev_sld (k := k12) (n := 6) rfl e13 e14 (by decide) ?_
        obtain ⟨k16, e17, e18, h19⟩ := h15
        refine z_ev_iald (t := 8) (i := 0) (k := k16) (n := 10) rfl rfl e17 e18 (by decide) ?_
        refine z_ev_gs 4 (c1 := (14, 59, [some (z_r 4 0), some (z_i (x1)), some (z_i (x2)), some (z_i (x3)), some (z_j (l4)), none, none], [z_i (x2), z_r 66 3, z_r 8 0, z_i (I 8 0 k16), z_r 4 0], (true, X, I, J))) rfl ?_
        refine z_ev_sld (k := k12) (n := 6) rfl e13 (Nat.lt_of_lt_of_le e14 (by decide)) (by decide) ?_
        obtain ⟨k20, e21, e22, h23⟩ := h19
        refine z_ev_iald (t := 8) (i := 0) (k := k20) (n := 10) rfl rfl e21 e22 (by decide) ?_
        obtain ⟨v29, X24, I25, J26, g27, h28⟩ := h23
        refine z_ev_ca rfl rfl g27 ?_
        refine z_ev_gs 13 (c1 := (14, 80, [some (z_r 4 0), some (z_i (x1)), some (z_i (x2)), some (z_i (x3)), some (z_j (l4)), none, some (z_i (v29))], [z_j (l4 * (((4 : Int32) - v29).toInt64)), z_i (x3), z_i (x2 + (1 : Int32)), z_i (x1), z_r 4 0], (true, X24, I25, J26))) rfl ?_
        obtain ⟨X30, I31, J32, g33, h34⟩ := h28
        refine z_ev_ca rfl rfl g33 ?_
        refine z_ev_gs 14 (c1 := (14, 99, [some (z_r 4 0), some (z_i (x1)), some (z_i (x2)), some (z_i (x3)), some (z_j (l4)), none, some (z_i (v29))], [z_j (l4 * v29.toInt64), z_i (x3 ||| ((1 : Int32) <<< (x2 &&& 31))), z_i (x2 + (1 : Int32)), z_i (x1), z_r 4 0], (true, X30, I31, J32))) rfl ?_
        obtain ⟨X35, I36, J37, g38, h39⟩ := h34
        refine z_ev_ca rfl rfl g38 ?_
        rw [h39]
        exact z_ev_rt rfl
      · have h49 := h51.2 e11
        refine z_ev_gs 6 (c1 := (14, 32, [some (z_r 4 0), some (z_i (x1)), some (z_i (x2)), some (z_i (x3)), some (z_j (l4)), none, none], [z_i (x3 &&& (63 : Int32)), z_r 66 1, z_r 7 0], (true, X, I, J))) rfl ?_
        obtain ⟨k40, e41, e42, h43⟩ := h49
        refine z_ev_sld (k := k40) (n := 64) rfl e41 e42 (by decide) ?_
        refine z_ev_gs 1 (c1 := (14, 34, [some (z_r 4 0), some (z_i (x1)), some (z_i (x2)), some (z_i (x3)), some (z_j (l4)), none, none], [z_i ((z_stc.getD 1 []).getD k40 0), z_r 7 0, z_i ((z_stc.getD 1 []).getD k40 0), z_r 7 0], (true, X, I, J))) rfl ?_
        obtain ⟨k44, e45, e46, h47⟩ := h43
        refine z_ev_lald (t := 7) (i := 0) (k := k44) (n := 11) rfl rfl e45 e46 (by decide) ?_
        refine z_ev_gs 2 (c1 := (14, 38, [some (z_r 4 0), some (z_i (x1)), some (z_i (x2)), some (z_i (x3)), some (z_j (l4)), none, none], [z_j ((J 7 0 k44) + l4), z_i ((z_stc.getD 1 []).getD k40 0), z_r 7 0], (true, X, I, J))) rfl ?_
        refine z_ev_last (t := 7) (i := 0) (k := k44) (n := 11) rfl rfl e45 (Nat.lt_of_lt_of_le e46 (by decide)) (by decide) ?_
        rw [h47]
        exact z_ev_rt rfl
  · have h53 := h.2 e1
    rw [h53]
    exact z_ev_rt rfl
theorem z_q13_e {d : Nat} {r : Option z_V × z_M} {X : z_X} {I : Nat → Nat → Nat → Int32} {J : Nat → Nat → Nat → Int64} (x1 : Int32) (x2 : Int32) (x3 : Int32) (x4 : Int32) (l5 : Int64)
    (h : ((x1 ≤ x2 → (∃ (X73 : z_X) (I74 : Nat → Nat → Nat → Int32) (J75 : Nat → Nat → Nat → Int64), z_ev d (z_en 14 [z_r 4 0, z_i (z_pr x1), z_i 0, z_i 0, z_j (l5)] (true, X, I, J)) (none, (true, X73, I74, J75)) ∧ r = (none, (true, X73, I74, J75)))) ∧ (x2 < x1 → ((x2 < (4 : Int32) → z_ev (d + 1) (13, 26, [some (z_r 4 0), some (z_i (x1)), some (z_i (x2)), some (z_i (x3)), some (z_i (x4)), some (z_j (l5)), none, some (z_i (x3)), none], [], (true, X, I, J)) r) ∧ ((4 : Int32) ≤ x2 → (∃ (X79 : z_X) (I80 : Nat → Nat → Nat → Int32) (J81 : Nat → Nat → Nat → Int64), z_ev d (z_en 14 [z_r 4 0, z_i (z_pr x1), z_i 0, z_i 0, z_j (l5)] (true, X, I, J)) (none, (true, X79, I80, J81)) ∧ r = (none, (true, X79, I80, J81)))))))) :
    z_ev (d + 1) (z_en 13 [z_r 4 0, z_i (x1), z_i (x2), z_i (x3), z_i (x4), z_j (l5)] (true, X, I, J)) r := by
  show z_ev (d + 1) (13, 0, [some (z_r 4 0), some (z_i (x1)), some (z_i (x2)), some (z_i (x3)), some (z_i (x4)), some (z_j (l5)), none, none, none], [], (true, X, I, J)) r
  refine z_ev_gs 3 (c1 := (13, (if x1 ≤ x2 then 10 else 5), [some (z_r 4 0), some (z_i (x1)), some (z_i (x2)), some (z_i (x3)), some (z_i (x4)), some (z_j (l5)), none, none, none], [], (true, X, I, J))) rfl ?_
  refine z_ev_ifle (fun e72 => ?_) (fun e72 => ?_)
  · have h86 := h.1 e72
    refine z_ev_gs 2 (c1 := (13, 12, [some (z_r 4 0), some (z_i (x1)), some (z_i (x2)), some (z_i (x3)), some (z_i (x4)), some (z_j (l5)), none, none, none], [z_i (x1), z_r 4 0], (true, X, I, J))) rfl ?_
    refine z_ev_ca rfl rfl (z_p126 _) ?_
    refine z_ev_gs 3 (c1 := (13, 19, [some (z_r 4 0), some (z_i (x1)), some (z_i (x2)), some (z_i (x3)), some (z_i (x4)), some (z_j (l5)), none, none, none], [z_j (l5), z_i 0, z_i 0, z_i (z_pr x1), z_r 4 0], (true, X, I, J))) rfl ?_
    obtain ⟨X73, I74, J75, g76, h77⟩ := h86
    refine z_ev_ca rfl rfl g76 ?_
    rw [h77]
    exact z_ev_rt rfl
  · have h87 := h.2 e72
    refine z_ev_gs 3 (c1 := (13, (if x2 < (4 : Int32) then 23 else 10), [some (z_r 4 0), some (z_i (x1)), some (z_i (x2)), some (z_i (x3)), some (z_i (x4)), some (z_j (l5)), none, none, none], [], (true, X, I, J))) rfl ?_
    refine z_ev_iflt (fun e78 => ?_) (fun e78 => ?_)
    · have h84 := h87.1 e78
      refine z_ev_gs 2 (c1 := (13, 26, [some (z_r 4 0), some (z_i (x1)), some (z_i (x2)), some (z_i (x3)), some (z_i (x4)), some (z_j (l5)), none, some (z_i (x3)), none], [], (true, X, I, J))) rfl ?_
      exact h84
    · have h85 := h87.2 e78
      refine z_ev_gs 2 (c1 := (13, 12, [some (z_r 4 0), some (z_i (x1)), some (z_i (x2)), some (z_i (x3)), some (z_i (x4)), some (z_j (l5)), none, none, none], [z_i (x1), z_r 4 0], (true, X, I, J))) rfl ?_
      refine z_ev_ca rfl rfl (z_p126 _) ?_
      refine z_ev_gs 3 (c1 := (13, 19, [some (z_r 4 0), some (z_i (x1)), some (z_i (x2)), some (z_i (x3)), some (z_i (x4)), some (z_j (l5)), none, none, none], [z_j (l5), z_i 0, z_i 0, z_i (z_pr x1), z_r 4 0], (true, X, I, J))) rfl ?_
      obtain ⟨X79, I80, J81, g82, h83⟩ := h85
      refine z_ev_ca rfl rfl g82 ?_
      rw [h83]
      exact z_ev_rt rfl
theorem z_q13_26 {d : Nat} {r : Option z_V × z_M} {X : z_X} {I : Nat → Nat → Nat → Int32} {J : Nat → Nat → Nat → Int64} (x1 : Int32) (x2 : Int32) (x3 : Int32) (x4 : Int32) (l5 : Int64) (x7 : Int32) (o8 : Option z_V)
    (h : (((I 4 0 2) ≤ x7 → r = (none, (true, X, I, J))) ∧ (x7 < (I 4 0 2) → ((x2 ≤ 0 → (∃ k90 : Nat, x2 = Int32.ofNat k90 ∧ k90 < 10 ∧ (∃ k94 : Nat, x7 = Int32.ofNat k94 ∧ k94 < 5 ∧ (¬ ((1 : Int32).toInt64) = 0 ∧ (∃ (X98 : z_X) (I99 : Nat → Nat → Nat → Int32) (J100 : Nat → Nat → Nat → Int64), z_ev d (z_en 13 [z_r 4 0, z_i (x1), z_i (x2 + (1 : Int32)), z_i (x7), z_i 1, z_j (((l5 * ((I 5 0 k94).toInt64)) * ((x2 + (1 : Int32)).toInt64)) / ((1 : Int32).toInt64))] (true, X, (z_up I 8 0 k90 x7), J)) (none, (true, X98, I99, J100)) ∧ z_ev (d + 1) (13, 26, [some (z_r 4 0), some (z_i (x1)), some (z_i (x2)), some (z_i (x3)), some (z_i (x4)), some (z_j (l5)), none, some (z_i (x7 + (1 : Int32))), some (z_i 1)], [], (true, X98, I99, J100)) r))))) ∧ (0 < x2 → (∃ k104 : Nat, (x2 - (1 : Int32)) = Int32.ofNat k104 ∧ k104 < 10 ∧ ((¬ x7 = (I 8 0 k104) → (∃ k109 : Nat, x2 = Int32.ofNat k109 ∧ k109 < 10 ∧ (∃ k113 : Nat, x7 = Int32.ofNat k113 ∧ k113 < 5 ∧ (¬ ((1 : Int32).toInt64) = 0 ∧ (∃ (X117 : z_X) (I118 : Nat → Nat → Nat → Int32) (J119 : Nat → Nat → Nat → Int64), z_ev d (z_en 13 [z_r 4 0, z_i (x1), z_i (x2 + (1 : Int32)), z_i (x7), z_i 1, z_j (((l5 * ((I 5 0 k113).toInt64)) * ((x2 + (1 : Int32)).toInt64)) / ((1 : Int32).toInt64))] (true, X, (z_up I 8 0 k109 x7), J)) (none, (true, X117, I118, J119)) ∧ z_ev (d + 1) (13, 26, [some (z_r 4 0), some (z_i (x1)), some (z_i (x2)), some (z_i (x3)), some (z_i (x4)), some (z_j (l5)), none, some (z_i (x7 + (1 : Int32))), some (z_i 1)], [], (true, X117, I118, J119)) r))))) ∧ (x7 = (I 8 0 k104) → (∃ k123 : Nat, x2 = Int32.ofNat k123 ∧ k123 < 10 ∧ (∃ k127 : Nat, x7 = Int32.ofNat k127 ∧ k127 < 5 ∧ (¬ ((x4 + (1 : Int32)).toInt64) = 0 ∧ (∃ (X131 : z_X) (I132 : Nat → Nat → Nat → Int32) (J133 : Nat → Nat → Nat → Int64), z_ev d (z_en 13 [z_r 4 0, z_i (x1), z_i (x2 + (1 : Int32)), z_i (x7), z_i (x4 + (1 : Int32)), z_j (((l5 * ((I 5 0 k127).toInt64)) * ((x2 + (1 : Int32)).toInt64)) / ((x4 + (1 : Int32)).toInt64))] (true, X, (z_up I 8 0 k123 x7), J)) (none, (true, X131, I132, J133)) ∧ z_ev (d + 1) (13, 26, [some (z_r 4 0), some (z_i (x1)), some (z_i (x2)), some (z_i (x3)), some (z_i (x4)), some (z_j (l5)), none, some (z_i (x7 + (1 : Int32))), some (z_i (x4 + (1 : Int32)))], [], (true, X131, I132, J133)) r)))))))))))) :
    z_ev (d + 1) ((13, 26, [some (z_r 4 0), some (z_i (x1)), some (z_i (x2)), some (z_i (x3)), some (z_i (x4)), some (z_j (l5)), none, some (z_i (x7)), o8], [], (true, X, I, J))) r := by
  refine z_ev_gs 4 (c1 := (13, (if (I 4 0 2) ≤ x7 then 108 else 35), [some (z_r 4 0), some (z_i (x1)), some (z_i (x2)), some (z_i (x3)), some (z_i (x4)), some (z_j (l5)), none, some (z_i (x7)), o8], [], (true, X, I, J))) rfl ?_
  refine z_ev_ifle (fun e88 => ?_) (fun e88 => ?_)
  · have h141 := h.1 e88
    rw [h141]
    exact z_ev_rt rfl
  · have h142 := h.2 e88
    refine z_ev_gs 2 (c1 := (13, (if x2 ≤ 0 then 59 else 39), [some (z_r 4 0), some (z_i (x1)), some (z_i (x2)), some (z_i (x3)), some (z_i (x4)), some (z_j (l5)), none, some (z_i (x7)), o8], [], (true, X, I, J))) rfl ?_
    refine z_ev_ifle (fun e89 => ?_) (fun e89 => ?_)
    · have h139 := h142.1 e89
      refine z_ev_gs 6 (c1 := (13, 69, [some (z_r 4 0), some (z_i (x1)), some (z_i (x2)), some (z_i (x3)), some (z_i (x4)), some (z_j (l5)), none, some (z_i (x7)), some (z_i 1)], [z_i (x7), z_i (x2), z_r 8 0], (true, X, I, J))) rfl ?_
      obtain ⟨k90, e91, e92, h93⟩ := h139
      refine z_ev_iast (t := 8) (i := 0) (k := k90) (n := 10) rfl rfl e91 e92 (by decide) ?_
      refine z_ev_gs 11 (c1 := (13, 87, [some (z_r 4 0), some (z_i (x1)), some (z_i (x2)), some (z_i (x3)), some (z_i (x4)), some (z_j (l5)), none, some (z_i (x7)), some (z_i 1)], [z_i (x7), z_r 5 0, z_j (l5), z_i 1, z_i (x7), z_i (x2 + (1 : Int32)), z_i (x1), z_r 4 0], (true, X, (z_up I 8 0 k90 x7), J))) rfl ?_
      obtain ⟨k94, e95, e96, h97⟩ := h93
      refine z_ev_iald (t := 5) (i := 0) (k := k94) (n := 5) rfl rfl e95 e96 (by decide) ?_
      refine z_ev_gs 9 (c1 := (13, 98, [some (z_r 4 0), some (z_i (x1)), some (z_i (x2)), some (z_i (x3)), some (z_i (x4)), some (z_j (l5)), none, some (z_i (x7)), some (z_i 1)], [z_j ((1 : Int32).toInt64), z_j ((l5 * ((I 5 0 k94).toInt64)) * ((x2 + (1 : Int32)).toInt64)), z_i 1, z_i (x7), z_i (x2 + (1 : Int32)), z_i (x1), z_r 4 0], (true, X, (z_up I 8 0 k90 x7), J))) rfl ?_
      obtain ⟨g0, h103⟩ := h97
      refine z_ev_dvj (w1 := ((1 : Int32).toInt64)) (c1 := (13, 99, [some (z_r 4 0), some (z_i (x1)), some (z_i (x2)), some (z_i (x3)), some (z_i (x4)), some (z_j (l5)), none, some (z_i (x7)), some (z_i 1)], [z_j (((l5 * ((I 5 0 k94).toInt64)) * ((x2 + (1 : Int32)).toInt64)) / ((1 : Int32).toInt64)), z_i 1, z_i (x7), z_i (x2 + (1 : Int32)), z_i (x1), z_r 4 0], (true, X, (z_up I 8 0 k90 x7), J))) rfl g0 ?_
      obtain ⟨X98, I99, J100, g101, h102⟩ := h103
      refine z_ev_ca rfl rfl g101 ?_
      refine z_ev_gs 2 (c1 := (13, 26, [some (z_r 4 0), some (z_i (x1)), some (z_i (x2)), some (z_i (x3)), some (z_i (x4)), some (z_j (l5)), none, some (z_i (x7 + (1 : Int32))), some (z_i 1)], [], (true, X98, I99, J100))) rfl ?_
      exact h102
    · have h140 := h142.2 e89
      refine z_ev_gs 6 (c1 := (13, 48, [some (z_r 4 0), some (z_i (x1)), some (z_i (x2)), some (z_i (x3)), some (z_i (x4)), some (z_j (l5)), none, some (z_i (x7)), o8], [z_i (x2 - (1 : Int32)), z_r 8 0, z_i (x7)], (true, X, I, J))) rfl ?_
      obtain ⟨k104, e105, e106, h107⟩ := h140
      refine z_ev_iald (t := 8) (i := 0) (k := k104) (n := 10) rfl rfl e105 e106 (by decide) ?_
      refine z_ev_gs 1 (c1 := (13, (if ¬ x7 = (I 8 0 k104) then 59 else 52), [some (z_r 4 0), some (z_i (x1)), some (z_i (x2)), some (z_i (x3)), some (z_i (x4)), some (z_j (l5)), none, some (z_i (x7)), o8], [], (true, X, I, J))) rfl ?_
      refine z_ev_ifn (fun e108 => ?_) (fun e108 => ?_)
      · have h137 := h107.1 e108
        refine z_ev_gs 6 (c1 := (13, 69, [some (z_r 4 0), some (z_i (x1)), some (z_i (x2)), some (z_i (x3)), some (z_i (x4)), some (z_j (l5)), none, some (z_i (x7)), some (z_i 1)], [z_i (x7), z_i (x2), z_r 8 0], (true, X, I, J))) rfl ?_
        obtain ⟨k109, e110, e111, h112⟩ := h137
        refine z_ev_iast (t := 8) (i := 0) (k := k109) (n := 10) rfl rfl e110 e111 (by decide) ?_
        refine z_ev_gs 11 (c1 := (13, 87, [some (z_r 4 0), some (z_i (x1)), some (z_i (x2)), some (z_i (x3)), some (z_i (x4)), some (z_j (l5)), none, some (z_i (x7)), some (z_i 1)], [z_i (x7), z_r 5 0, z_j (l5), z_i 1, z_i (x7), z_i (x2 + (1 : Int32)), z_i (x1), z_r 4 0], (true, X, (z_up I 8 0 k109 x7), J))) rfl ?_
        obtain ⟨k113, e114, e115, h116⟩ := h112
        refine z_ev_iald (t := 5) (i := 0) (k := k113) (n := 5) rfl rfl e114 e115 (by decide) ?_
        refine z_ev_gs 9 (c1 := (13, 98, [some (z_r 4 0), some (z_i (x1)), some (z_i (x2)), some (z_i (x3)), some (z_i (x4)), some (z_j (l5)), none, some (z_i (x7)), some (z_i 1)], [z_j ((1 : Int32).toInt64), z_j ((l5 * ((I 5 0 k113).toInt64)) * ((x2 + (1 : Int32)).toInt64)), z_i 1, z_i (x7), z_i (x2 + (1 : Int32)), z_i (x1), z_r 4 0], (true, X, (z_up I 8 0 k109 x7), J))) rfl ?_
        obtain ⟨g0, h122⟩ := h116
        refine z_ev_dvj (w1 := ((1 : Int32).toInt64)) (c1 := (13, 99, [some (z_r 4 0), some (z_i (x1)), some (z_i (x2)), some (z_i (x3)), some (z_i (x4)), some (z_j (l5)), none, some (z_i (x7)), some (z_i 1)], [z_j (((l5 * ((I 5 0 k113).toInt64)) * ((x2 + (1 : Int32)).toInt64)) / ((1 : Int32).toInt64)), z_i 1, z_i (x7), z_i (x2 + (1 : Int32)), z_i (x1), z_r 4 0], (true, X, (z_up I 8 0 k109 x7), J))) rfl g0 ?_
        obtain ⟨X117, I118, J119, g120, h121⟩ := h122
        refine z_ev_ca rfl rfl g120 ?_
        refine z_ev_gs 2 (c1 := (13, 26, [some (z_r 4 0), some (z_i (x1)), some (z_i (x2)), some (z_i (x3)), some (z_i (x4)), some (z_j (l5)), none, some (z_i (x7 + (1 : Int32))), some (z_i 1)], [], (true, X117, I118, J119))) rfl ?_
        exact h121
      · have h138 := h107.2 e108
        refine z_ev_gs 9 (c1 := (13, 69, [some (z_r 4 0), some (z_i (x1)), some (z_i (x2)), some (z_i (x3)), some (z_i (x4)), some (z_j (l5)), none, some (z_i (x7)), some (z_i (x4 + (1 : Int32)))], [z_i (x7), z_i (x2), z_r 8 0], (true, X, I, J))) rfl ?_
        obtain ⟨k123, e124, e125, h126⟩ := h138
        refine z_ev_iast (t := 8) (i := 0) (k := k123) (n := 10) rfl rfl e124 e125 (by decide) ?_
        refine z_ev_gs 11 (c1 := (13, 87, [some (z_r 4 0), some (z_i (x1)), some (z_i (x2)), some (z_i (x3)), some (z_i (x4)), some (z_j (l5)), none, some (z_i (x7)), some (z_i (x4 + (1 : Int32)))], [z_i (x7), z_r 5 0, z_j (l5), z_i (x4 + (1 : Int32)), z_i (x7), z_i (x2 + (1 : Int32)), z_i (x1), z_r 4 0], (true, X, (z_up I 8 0 k123 x7), J))) rfl ?_
        obtain ⟨k127, e128, e129, h130⟩ := h126
        refine z_ev_iald (t := 5) (i := 0) (k := k127) (n := 5) rfl rfl e128 e129 (by decide) ?_
        refine z_ev_gs 9 (c1 := (13, 98, [some (z_r 4 0), some (z_i (x1)), some (z_i (x2)), some (z_i (x3)), some (z_i (x4)), some (z_j (l5)), none, some (z_i (x7)), some (z_i (x4 + (1 : Int32)))], [z_j ((x4 + (1 : Int32)).toInt64), z_j ((l5 * ((I 5 0 k127).toInt64)) * ((x2 + (1 : Int32)).toInt64)), z_i (x4 + (1 : Int32)), z_i (x7), z_i (x2 + (1 : Int32)), z_i (x1), z_r 4 0], (true, X, (z_up I 8 0 k123 x7), J))) rfl ?_
        obtain ⟨g0, h136⟩ := h130
        refine z_ev_dvj (w1 := ((x4 + (1 : Int32)).toInt64)) (c1 := (13, 99, [some (z_r 4 0), some (z_i (x1)), some (z_i (x2)), some (z_i (x3)), some (z_i (x4)), some (z_j (l5)), none, some (z_i (x7)), some (z_i (x4 + (1 : Int32)))], [z_j (((l5 * ((I 5 0 k127).toInt64)) * ((x2 + (1 : Int32)).toInt64)) / ((x4 + (1 : Int32)).toInt64)), z_i (x4 + (1 : Int32)), z_i (x7), z_i (x2 + (1 : Int32)), z_i (x1), z_r 4 0], (true, X, (z_up I 8 0 k123 x7), J))) rfl g0 ?_
        obtain ⟨X131, I132, J133, g134, h135⟩ := h136
        refine z_ev_ca rfl rfl g134 ?_
        refine z_ev_gs 2 (c1 := (13, 26, [some (z_r 4 0), some (z_i (x1)), some (z_i (x2)), some (z_i (x3)), some (z_i (x4)), some (z_j (l5)), none, some (z_i (x7 + (1 : Int32))), some (z_i (x4 + (1 : Int32)))], [], (true, X131, I132, J133))) rfl ?_
        exact h135
theorem z_q11_e {d : Nat} {r : Option z_V × z_M} {X : z_X} {I : Nat → Nat → Nat → Int32} {J : Nat → Nat → Nat → Int64} (x1 : Int32)
    (h : z_ev (d + 1) (11, 5, [some (z_r 4 0), some (z_i (x1)), some (z_j 1), none, some (z_i 0)], [], (true, X, I, J)) r) :
    z_ev (d + 1) (z_en 11 [z_r 4 0, z_i (x1)] (true, X, I, J)) r := by
  show z_ev (d + 1) (11, 0, [some (z_r 4 0), some (z_i (x1)), none, none, none], [], (true, X, I, J)) r
  refine z_ev_gs 4 (c1 := (11, 5, [some (z_r 4 0), some (z_i (x1)), some (z_j 1), none, some (z_i 0)], [], (true, X, I, J))) rfl ?_
  exact h
theorem z_q11_5 {d : Nat} {r : Option z_V × z_M} {X : z_X} {I : Nat → Nat → Nat → Int32} {J : Nat → Nat → Nat → Int64} (x1 : Int32) (l2 : Int64) (x4 : Int32)
    (h : ((x1 ≤ x4 → z_ev (d + 1) (11, 28, [some (z_r 4 0), some (z_i (x1)), some (z_j (l2)), none, some (z_i 0)], [], (true, X, I, J)) r) ∧ (x4 < x1 → (∃ (v7 : Int32) (X2 : z_X) (I3 : Nat → Nat → Nat → Int32) (J4 : Nat → Nat → Nat → Int64), z_ev d (z_en 10 [z_r 4 0] (true, X, I, J)) (some (z_i (v7)), (true, X2, I3, J4)) ∧ z_ev (d + 1) (11, 5, [some (z_r 4 0), some (z_i (x1)), some (z_j (l2 * v7.toInt64)), none, some (z_i (x4 + (1 : Int32)))], [], (true, X2, I3, J4)) r)))) :
    z_ev (d + 1) ((11, 5, [some (z_r 4 0), some (z_i (x1)), some (z_j (l2)), none, some (z_i (x4))], [], (true, X, I, J))) r := by
  refine z_ev_gs 3 (c1 := (11, (if x1 ≤ x4 then 25 else 11), [some (z_r 4 0), some (z_i (x1)), some (z_j (l2)), none, some (z_i (x4))], [], (true, X, I, J))) rfl ?_
  refine z_ev_ifle (fun e1 => ?_) (fun e1 => ?_)
  · have h8 := h.1 e1
    refine z_ev_gs 2 (c1 := (11, 28, [some (z_r 4 0), some (z_i (x1)), some (z_j (l2)), none, some (z_i 0)], [], (true, X, I, J))) rfl ?_
    exact h8
  · have h9 := h.2 e1
    refine z_ev_gs 2 (c1 := (11, 13, [some (z_r 4 0), some (z_i (x1)), some (z_j (l2)), none, some (z_i (x4))], [z_r 4 0, z_j (l2)], (true, X, I, J))) rfl ?_
    obtain ⟨v7, X2, I3, J4, g5, h6⟩ := h9
    refine z_ev_ca rfl rfl g5 ?_
    refine z_ev_gs 5 (c1 := (11, 5, [some (z_r 4 0), some (z_i (x1)), some (z_j (l2 * v7.toInt64)), none, some (z_i (x4 + (1 : Int32)))], [], (true, X2, I3, J4))) rfl ?_
    exact h6
theorem z_q11_28 {d : Nat} {r : Option z_V × z_M} {X : z_X} {I : Nat → Nat → Nat → Int32} {J : Nat → Nat → Nat → Int64} (x1 : Int32) (l2 : Int64) (x4 : Int32)
    (h : (((z_pr x1) ≤ x4 → r = (some (z_j (l2)), (true, X, I, J))) ∧ (x4 < (z_pr x1) → z_ev (d + 1) (11, 28, [some (z_r 4 0), some (z_i (x1)), some (z_j (l2 * (4 : Int64))), none, some (z_i (x4 + (1 : Int32)))], [], (true, X, I, J)) r))) :
    z_ev (d + 1) ((11, 28, [some (z_r 4 0), some (z_i (x1)), some (z_j (l2)), none, some (z_i (x4))], [], (true, X, I, J))) r := by
  refine z_ev_gs 2 (c1 := (11, 31, [some (z_r 4 0), some (z_i (x1)), some (z_j (l2)), none, some (z_i (x4))], [z_i (x1), z_i (x4)], (true, X, I, J))) rfl ?_
  refine z_ev_ca rfl rfl (z_p126 _) ?_
  refine z_ev_gs 1 (c1 := (11, (if (z_pr x1) ≤ x4 then 49 else 37), [some (z_r 4 0), some (z_i (x1)), some (z_j (l2)), none, some (z_i (x4))], [], (true, X, I, J))) rfl ?_
  refine z_ev_ifle (fun e10 => ?_) (fun e10 => ?_)
  · have h11 := h.1 e10
    refine z_ev_gs 1 (c1 := (11, 50, [some (z_r 4 0), some (z_i (x1)), some (z_j (l2)), none, some (z_i (x4))], [z_j (l2)], (true, X, I, J))) rfl ?_
    rw [h11]
    exact z_ev_rt rfl
  · have h12 := h.2 e10
    refine z_ev_gs 6 (c1 := (11, 28, [some (z_r 4 0), some (z_i (x1)), some (z_j (l2 * (4 : Int64))), none, some (z_i (x4 + (1 : Int32)))], [], (true, X, I, J))) rfl ?_
    exact h12
theorem z_q12_e {d : Nat} {r : Option z_V × z_M} {X : z_X} {I : Nat → Nat → Nat → Int32} {J : Nat → Nat → Nat → Int64} (x1 : Int32)
    (h : z_ev (d + 27) (12, 2, [some (z_r 4 0), some (z_i (x1)), some (z_i 0)], [], (true, X, I, J)) r) :
    z_ev (d + 27) (z_en 12 [z_r 4 0, z_i (x1)] (true, X, I, J)) r := by
  show z_ev (d + 27) (12, 0, [some (z_r 4 0), some (z_i (x1)), none], [], (true, X, I, J)) r
  refine z_ev_gs 2 (c1 := (12, 2, [some (z_r 4 0), some (z_i (x1)), some (z_i 0)], [], (true, X, I, J))) rfl ?_
  exact h
theorem z_q12_2 {d : Nat} {r : Option z_V × z_M} {X : z_X} {I : Nat → Nat → Nat → Int32} {J : Nat → Nat → Nat → Int64} (x1 : Int32) (x2 : Int32)
    (h : (((11 : Int32) ≤ x2 → (∃ (X2 : z_X) (I3 : Nat → Nat → Nat → Int32) (J4 : Nat → Nat → Nat → Int64), z_ev (d + 26) (z_en 13 [z_r 4 0, z_i (x1), z_i 0, z_i 0, z_i 0, z_j 1] (true, X, I, J)) (none, (true, X2, I3, J4)) ∧ r = (none, (true, X2, I3, J4)))) ∧ (x2 < (11 : Int32) → (∃ k7 : Nat, x2 = Int32.ofNat k7 ∧ k7 < 11 ∧ z_ev (d + 27) (12, 2, [some (z_r 4 0), some (z_i (x1)), some (z_i (x2 + (1 : Int32)))], [], (true, X, I, (z_up J 7 0 k7 (0 : Int64)))) r)))) :
    z_ev (d + 27) ((12, 2, [some (z_r 4 0), some (z_i (x1)), some (z_i (x2))], [], (true, X, I, J))) r := by
  refine z_ev_gs 3 (c1 := (12, (if (11 : Int32) ≤ x2 then 21 else 8), [some (z_r 4 0), some (z_i (x1)), some (z_i (x2))], [], (true, X, I, J))) rfl ?_
  refine z_ev_ifle (fun e1 => ?_) (fun e1 => ?_)
  · have h11 := h.1 e1
    refine z_ev_gs 6 (c1 := (12, 27, [some (z_r 4 0), some (z_i (x1)), some (z_i (x2))], [z_j 1, z_i 0, z_i 0, z_i 0, z_i (x1), z_r 4 0], (true, X, I, J))) rfl ?_
    obtain ⟨X2, I3, J4, g5, h6⟩ := h11
    refine z_ev_ca rfl rfl g5 ?_
    rw [h6]
    exact z_ev_rt rfl
  · have h12 := h.2 e1
    refine z_ev_gs 4 (c1 := (12, 14, [some (z_r 4 0), some (z_i (x1)), some (z_i (x2))], [z_j 0, z_i (x2), z_r 7 0], (true, X, I, J))) rfl ?_
    obtain ⟨k7, e8, e9, h10⟩ := h12
    refine z_ev_last (t := 7) (i := 0) (k := k7) (n := 11) rfl rfl e8 e9 (by decide) ?_
    refine z_ev_gs 2 (c1 := (12, 2, [some (z_r 4 0), some (z_i (x1)), some (z_i (x2 + (1 : Int32)))], [], (true, X, I, (z_up J 7 0 k7 (0 : Int64))))) rfl ?_
    exact h10
theorem z_q215_e {d : Nat} {r : Option z_V × z_M} {X : z_X} {I : Nat → Nat → Nat → Int32} {J : Nat → Nat → Nat → Int64} (x1 : Int32) (x2 : Int32)
    (h : z_ev (d + 2) (215, 5, [some (z_r 33 0), some (z_i (x1)), some (z_i (x2)), some (z_j 1), none, some (z_i 1), none, none], [], (true, X, I, J)) r) :
    z_ev (d + 2) (z_en 215 [z_r 33 0, z_i (x1), z_i (x2)] (true, X, I, J)) r := by
  show z_ev (d + 2) (215, 0, [some (z_r 33 0), some (z_i (x1)), some (z_i (x2)), none, none, none, none, none], [], (true, X, I, J)) r
  refine z_ev_gs 4 (c1 := (215, 5, [some (z_r 33 0), some (z_i (x1)), some (z_i (x2)), some (z_j 1), none, some (z_i 1), none, none], [], (true, X, I, J))) rfl ?_
  exact h
theorem z_q215_5 {d : Nat} {r : Option z_V × z_M} {X : z_X} {I : Nat → Nat → Nat → Int32} {J : Nat → Nat → Nat → Int64} (x1 : Int32) (x2 : Int32) (l3 : Int64) (x5 : Int32) (o6 : Option z_V) (o7 : Option z_V)
    (h : ((x1 ≤ x5 → r = (some (z_j (l3)), (true, X, I, J))) ∧ (x5 < x1 → z_ev (d + 2) (215, 14, [some (z_r 33 0), some (z_i (x1)), some (z_i (x2)), some (z_j (l3)), none, some (z_i (x5)), some (z_i 0), o7], [], (true, X, I, J)) r))) :
    z_ev (d + 2) ((215, 5, [some (z_r 33 0), some (z_i (x1)), some (z_i (x2)), some (z_j (l3)), none, some (z_i (x5)), o6, o7], [], (true, X, I, J))) r := by
  refine z_ev_gs 3 (c1 := (215, (if x1 ≤ x5 then 86 else 11), [some (z_r 33 0), some (z_i (x1)), some (z_i (x2)), some (z_j (l3)), none, some (z_i (x5)), o6, o7], [], (true, X, I, J))) rfl ?_
  refine z_ev_ifle (fun e43 => ?_) (fun e43 => ?_)
  · have h44 := h.1 e43
    refine z_ev_gs 1 (c1 := (215, 87, [some (z_r 33 0), some (z_i (x1)), some (z_i (x2)), some (z_j (l3)), none, some (z_i (x5)), o6, o7], [z_j (l3)], (true, X, I, J))) rfl ?_
    rw [h44]
    exact z_ev_rt rfl
  · have h45 := h.2 e43
    refine z_ev_gs 2 (c1 := (215, 14, [some (z_r 33 0), some (z_i (x1)), some (z_i (x2)), some (z_j (l3)), none, some (z_i (x5)), some (z_i 0), o7], [], (true, X, I, J))) rfl ?_
    exact h45
theorem z_q215_14 {d : Nat} {r : Option z_V × z_M} {X : z_X} {I : Nat → Nat → Nat → Int32} {J : Nat → Nat → Nat → Int64} (x1 : Int32) (x2 : Int32) (l3 : Int64) (x5 : Int32) (x6 : Int32) (o7 : Option z_V)
    (h : ((x5 ≤ x6 → z_ev (d + 2) (215, 5, [some (z_r 33 0), some (z_i (x1)), some (z_i (x2)), some (z_j (l3)), none, some (z_i (x5 + (1 : Int32))), some (z_i (x6)), o7], [], (true, X, I, J)) r) ∧ (x6 < x5 → (∃ k47 : Nat, x6 = Int32.ofNat k47 ∧ k47 < 4 ∧ (∃ k51 : Nat, x5 = Int32.ofNat k51 ∧ k51 < 4 ∧ (∃ k55 : Nat, (((5 : Int32) * (I 48 0 k47)) + (I 48 0 k51)) = Int32.ofNat k55 ∧ k55 < 25 ∧ ((¬ ((x2 >>> ((z_bo x6 x5) &&& 31)) &&& (1 : Int32)) = (1 : Int32) → z_ev (d + 2) (215, 14, [some (z_r 33 0), some (z_i (x1)), some (z_i (x2)), some (z_j (l3 * (((4 : Int32) - (I 38 0 k55)).toInt64))), none, some (z_i (x5)), some (z_i (x6 + (1 : Int32))), some (z_i (I 38 0 k55))], [], (true, X, I, J)) r) ∧ (((x2 >>> ((z_bo x6 x5) &&& 31)) &&& (1 : Int32)) = (1 : Int32) → z_ev (d + 2) (215, 14, [some (z_r 33 0), some (z_i (x1)), some (z_i (x2)), some (z_j (l3 * ((I 38 0 k55).toInt64))), none, some (z_i (x5)), some (z_i (x6 + (1 : Int32))), some (z_i (I 38 0 k55))], [], (true, X, I, J)) r)))))))) :
    z_ev (d + 2) ((215, 14, [some (z_r 33 0), some (z_i (x1)), some (z_i (x2)), some (z_j (l3)), none, some (z_i (x5)), some (z_i (x6)), o7], [], (true, X, I, J))) r := by
  refine z_ev_gs 3 (c1 := (215, (if x5 ≤ x6 then 80 else 21), [some (z_r 33 0), some (z_i (x1)), some (z_i (x2)), some (z_j (l3)), none, some (z_i (x5)), some (z_i (x6)), o7], [], (true, X, I, J))) rfl ?_
  refine z_ev_ifle (fun e46 => ?_) (fun e46 => ?_)
  · have h62 := h.1 e46
    refine z_ev_gs 2 (c1 := (215, 5, [some (z_r 33 0), some (z_i (x1)), some (z_i (x2)), some (z_j (l3)), none, some (z_i (x5 + (1 : Int32))), some (z_i (x6)), o7], [], (true, X, I, J))) rfl ?_
    exact h62
  · have h63 := h.2 e46
    refine z_ev_gs 6 (c1 := (215, 32, [some (z_r 33 0), some (z_i (x1)), some (z_i (x2)), some (z_j (l3)), none, some (z_i (x5)), some (z_i (x6)), o7], [z_i (x6), z_r 48 0, z_i 5, z_r 38 0], (true, X, I, J))) rfl ?_
    obtain ⟨k47, e48, e49, h50⟩ := h63
    refine z_ev_iald (t := 48) (i := 0) (k := k47) (n := 4) rfl rfl e48 e49 (by decide) ?_
    refine z_ev_gs 4 (c1 := (215, 40, [some (z_r 33 0), some (z_i (x1)), some (z_i (x2)), some (z_j (l3)), none, some (z_i (x5)), some (z_i (x6)), o7], [z_i (x5), z_r 48 0, z_i ((5 : Int32) * (I 48 0 k47)), z_r 38 0], (true, X, I, J))) rfl ?_
    obtain ⟨k51, e52, e53, h54⟩ := h50
    refine z_ev_iald (t := 48) (i := 0) (k := k51) (n := 4) rfl rfl e52 e53 (by decide) ?_
    refine z_ev_gs 1 (c1 := (215, 42, [some (z_r 33 0), some (z_i (x1)), some (z_i (x2)), some (z_j (l3)), none, some (z_i (x5)), some (z_i (x6)), o7], [z_i (((5 : Int32) * (I 48 0 k47)) + (I 48 0 k51)), z_r 38 0], (true, X, I, J))) rfl ?_
    obtain ⟨k55, e56, e57, h58⟩ := h54
    refine z_ev_iald (t := 38) (i := 0) (k := k55) (n := 25) rfl rfl e56 e57 (by decide) ?_
    refine z_ev_gs 5 (c1 := (215, 51, [some (z_r 33 0), some (z_i (x1)), some (z_i (x2)), some (z_j (l3)), none, some (z_i (x5)), some (z_i (x6)), some (z_i (I 38 0 k55))], [z_i (x5), z_i (x6), z_i (x2), z_j (l3)], (true, X, I, J))) rfl ?_
    refine z_ev_ca rfl rfl (z_p160 _ _) ?_
    refine z_ev_gs 5 (c1 := (215, (if ¬ ((x2 >>> ((z_bo x6 x5) &&& 31)) &&& (1 : Int32)) = (1 : Int32) then 67 else 61), [some (z_r 33 0), some (z_i (x1)), some (z_i (x2)), some (z_j (l3)), none, some (z_i (x5)), some (z_i (x6)), some (z_i (I 38 0 k55))], [z_j (l3)], (true, X, I, J))) rfl ?_
    refine z_ev_ifn (fun e59 => ?_) (fun e59 => ?_)
    · have h60 := h58.1 e59
      refine z_ev_gs 8 (c1 := (215, 14, [some (z_r 33 0), some (z_i (x1)), some (z_i (x2)), some (z_j (l3 * (((4 : Int32) - (I 38 0 k55)).toInt64))), none, some (z_i (x5)), some (z_i (x6 + (1 : Int32))), some (z_i (I 38 0 k55))], [], (true, X, I, J))) rfl ?_
      exact h60
    · have h61 := h58.2 e59
      refine z_ev_gs 7 (c1 := (215, 14, [some (z_r 33 0), some (z_i (x1)), some (z_i (x2)), some (z_j (l3 * ((I 38 0 k55).toInt64))), none, some (z_i (x5)), some (z_i (x6 + (1 : Int32))), some (z_i (I 38 0 k55))], [], (true, X, I, J))) rfl ?_
      exact h61
theorem z_q216_e {d : Nat} {r : Option z_V × z_M} {X : z_X} {I : Nat → Nat → Nat → Int32} {J : Nat → Nat → Nat → Int64} (x1 : Int32) (x2 : Int32)
    (h : z_ev (d + 3) (216, 8, [some (z_r 33 0), some (z_i (x1)), some (z_i (x2)), some (z_j 0), none, some (z_i 1), some (z_i 0), none, none, none, none], [], (true, X, I, J)) r) :
    z_ev (d + 3) (z_en 216 [z_r 33 0, z_i (x1), z_i (x2)] (true, X, I, J)) r := by
  show z_ev (d + 3) (216, 0, [some (z_r 33 0), some (z_i (x1)), some (z_i (x2)), none, none, none, none, none, none, none, none], [], (true, X, I, J)) r
  refine z_ev_gs 6 (c1 := (216, 8, [some (z_r 33 0), some (z_i (x1)), some (z_i (x2)), some (z_j 0), none, some (z_i 1), some (z_i 0), none, none, none, none], [], (true, X, I, J))) rfl ?_
  exact h
theorem z_q216_8 {d : Nat} {r : Option z_V × z_M} {X : z_X} {I : Nat → Nat → Nat → Int32} {J : Nat → Nat → Nat → Int64} (x1 : Int32) (x2 : Int32) (l3 : Int64) (x5 : Int32) (x6 : Int32)
    (h : ((x1 ≤ x6 → z_ev (d + 3) (216, 32, [some (z_r 33 0), some (z_i (x1)), some (z_i (x2)), some (z_j (l3)), none, some (z_i (x5)), some (z_i 0), none, none, none, none], [], (true, X, I, J)) r) ∧ (x6 < x1 → z_ev (d + 3) (216, 8, [some (z_r 33 0), some (z_i (x1)), some (z_i (x2)), some (z_j (l3)), none, some (z_i (x5 * (I 33 0 4))), some (z_i (x6 + (1 : Int32))), none, none, none, none], [], (true, X, I, J)) r))) :
    z_ev (d + 3) ((216, 8, [some (z_r 33 0), some (z_i (x1)), some (z_i (x2)), some (z_j (l3)), none, some (z_i (x5)), some (z_i (x6)), none, none, none, none], [], (true, X, I, J))) r := by
  refine z_ev_gs 3 (c1 := (216, (if x1 ≤ x6 then 29 else 14), [some (z_r 33 0), some (z_i (x1)), some (z_i (x2)), some (z_j (l3)), none, some (z_i (x5)), some (z_i (x6)), none, none, none, none], [], (true, X, I, J))) rfl ?_
  refine z_ev_ifle (fun e36 => ?_) (fun e36 => ?_)
  · have h37 := h.1 e36
    refine z_ev_gs 2 (c1 := (216, 32, [some (z_r 33 0), some (z_i (x1)), some (z_i (x2)), some (z_j (l3)), none, some (z_i (x5)), some (z_i 0), none, none, none, none], [], (true, X, I, J))) rfl ?_
    exact h37
  · have h38 := h.2 e36
    refine z_ev_gs 7 (c1 := (216, 8, [some (z_r 33 0), some (z_i (x1)), some (z_i (x2)), some (z_j (l3)), none, some (z_i (x5 * (I 33 0 4))), some (z_i (x6 + (1 : Int32))), none, none, none, none], [], (true, X, I, J))) rfl ?_
    exact h38
theorem z_q216_32 {d : Nat} {r : Option z_V × z_M} {X : z_X} {I : Nat → Nat → Nat → Int32} {J : Nat → Nat → Nat → Int64} (x1 : Int32) (x2 : Int32) (l3 : Int64) (x5 : Int32) (x6 : Int32) (o7 : Option z_V) (o8 : Option z_V) (o10 : Option z_V)
    (h : ((x5 ≤ x6 → r = (some (z_j (l3)), (true, X, I, J))) ∧ (x6 < x5 → z_ev (d + 3) (216, 49, [some (z_r 33 0), some (z_i (x1)), some (z_i (x2)), some (z_j (l3)), none, some (z_i (x5)), some (z_i (x6)), some (z_i (x6)), some (z_j 1), none, some (z_i 0)], [], (true, X, I, J)) r))) :
    z_ev (d + 3) ((216, 32, [some (z_r 33 0), some (z_i (x1)), some (z_i (x2)), some (z_j (l3)), none, some (z_i (x5)), some (z_i (x6)), o7, o8, none, o10], [], (true, X, I, J))) r := by
  refine z_ev_gs 3 (c1 := (216, (if x5 ≤ x6 then 161 else 39), [some (z_r 33 0), some (z_i (x1)), some (z_i (x2)), some (z_j (l3)), none, some (z_i (x5)), some (z_i (x6)), o7, o8, none, o10], [], (true, X, I, J))) rfl ?_
  refine z_ev_ifle (fun e39 => ?_) (fun e39 => ?_)
  · have h40 := h.1 e39
    refine z_ev_gs 1 (c1 := (216, 162, [some (z_r 33 0), some (z_i (x1)), some (z_i (x2)), some (z_j (l3)), none, some (z_i (x5)), some (z_i (x6)), o7, o8, none, o10], [z_j (l3)], (true, X, I, J))) rfl ?_
    rw [h40]
    exact z_ev_rt rfl
  · have h41 := h.2 e39
    refine z_ev_gs 6 (c1 := (216, 49, [some (z_r 33 0), some (z_i (x1)), some (z_i (x2)), some (z_j (l3)), none, some (z_i (x5)), some (z_i (x6)), some (z_i (x6)), some (z_j 1), none, some (z_i 0)], [], (true, X, I, J))) rfl ?_
    exact h41
theorem z_q216_49 {d : Nat} {r : Option z_V × z_M} {X : z_X} {I : Nat → Nat → Nat → Int32} {J : Nat → Nat → Nat → Int64} (x1 : Int32) (x2 : Int32) (l3 : Int64) (x5 : Int32) (x6 : Int32) (x7 : Int32) (l8 : Int64) (x10 : Int32)
    (h : ((x1 ≤ x10 → z_ev (d + 3) (216, 105, [some (z_r 33 0), some (z_i (x1)), some (z_i (x2)), some (z_j (l3)), none, some (z_i (x5)), some (z_i (x6)), some (z_i (x7)), some (z_j (l8)), none, some (z_i 0)], [], (true, X, I, J)) r) ∧ (x10 < x1 → (¬ (I 33 0 4) = 0 ∧ (∃ k43 : Nat, x10 = Int32.ofNat k43 ∧ k43 < 4 ∧ (∃ k47 : Nat, ((z_up I 48 0 k43 (x7 - x7 / (I 33 0 4) * (I 33 0 4))) 48 0 k43) = Int32.ofNat k47 ∧ k47 < 5 ∧ (¬ (I 33 0 4) = 0 ∧ z_ev (d + 3) (216, 49, [some (z_r 33 0), some (z_i (x1)), some (z_i (x2)), some (z_j (l3)), none, some (z_i (x5)), some (z_i (x6)), some (z_i (x7 / (I 33 0 4))), some (z_j (l8 * ((I 37 0 k47).toInt64))), none, some (z_i (x10 + (1 : Int32)))], [], (true, X, (z_up I 48 0 k43 (x7 - x7 / (I 33 0 4) * (I 33 0 4))), J)) r))))))) :
    z_ev (d + 3) ((216, 49, [some (z_r 33 0), some (z_i (x1)), some (z_i (x2)), some (z_j (l3)), none, some (z_i (x5)), some (z_i (x6)), some (z_i (x7)), some (z_j (l8)), none, some (z_i (x10))], [], (true, X, I, J))) r := by
  refine z_ev_gs 3 (c1 := (216, (if x1 ≤ x10 then 102 else 55), [some (z_r 33 0), some (z_i (x1)), some (z_i (x2)), some (z_j (l3)), none, some (z_i (x5)), some (z_i (x6)), some (z_i (x7)), some (z_j (l8)), none, some (z_i (x10))], [], (true, X, I, J))) rfl ?_
  refine z_ev_ifle (fun e42 => ?_) (fun e42 => ?_)
  · have h53 := h.1 e42
    refine z_ev_gs 2 (c1 := (216, 105, [some (z_r 33 0), some (z_i (x1)), some (z_i (x2)), some (z_j (l3)), none, some (z_i (x5)), some (z_i (x6)), some (z_i (x7)), some (z_j (l8)), none, some (z_i 0)], [], (true, X, I, J))) rfl ?_
    exact h53
  · have h54 := h.2 e42
    refine z_ev_gs 6 (c1 := (216, 67, [some (z_r 33 0), some (z_i (x1)), some (z_i (x2)), some (z_j (l3)), none, some (z_i (x5)), some (z_i (x6)), some (z_i (x7)), some (z_j (l8)), none, some (z_i (x10))], [z_i (I 33 0 4), z_i (x7), z_i (x10), z_r 48 0], (true, X, I, J))) rfl ?_
    obtain ⟨g0, h52⟩ := h54
    refine z_ev_dvi (w1 := (I 33 0 4)) (c1 := (216, 68, [some (z_r 33 0), some (z_i (x1)), some (z_i (x2)), some (z_j (l3)), none, some (z_i (x5)), some (z_i (x6)), some (z_i (x7)), some (z_j (l8)), none, some (z_i (x10))], [z_i (x7 - x7 / (I 33 0 4) * (I 33 0 4)), z_i (x10), z_r 48 0], (true, X, I, J))) rfl g0 ?_
    obtain ⟨k43, e44, e45, h46⟩ := h52
    refine z_ev_iast (t := 48) (i := 0) (k := k43) (n := 4) rfl rfl e44 e45 (by decide) ?_
    refine z_ev_gs 6 (c1 := (216, 81, [some (z_r 33 0), some (z_i (x1)), some (z_i (x2)), some (z_j (l3)), none, some (z_i (x5)), some (z_i (x6)), some (z_i (x7)), some (z_j (l8)), none, some (z_i (x10))], [z_i (x10), z_r 48 0, z_r 37 0, z_j (l8)], (true, X, (z_up I 48 0 k43 (x7 - x7 / (I 33 0 4) * (I 33 0 4))), J))) rfl ?_
    refine z_ev_iald (t := 48) (i := 0) (k := k43) (n := 4) rfl rfl e44 (Nat.lt_of_lt_of_le e45 (by decide)) (by decide) ?_
    obtain ⟨k47, e48, e49, h50⟩ := h46
    refine z_ev_iald (t := 37) (i := 0) (k := k47) (n := 5) rfl rfl e48 e49 (by decide) ?_
    refine z_ev_gs 6 (c1 := (216, 93, [some (z_r 33 0), some (z_i (x1)), some (z_i (x2)), some (z_j (l3)), none, some (z_i (x5)), some (z_i (x6)), some (z_i (x7)), some (z_j (l8 * ((I 37 0 k47).toInt64))), none, some (z_i (x10))], [z_i (I 33 0 4), z_i (x7)], (true, X, (z_up I 48 0 k43 (x7 - x7 / (I 33 0 4) * (I 33 0 4))), J))) rfl ?_
    obtain ⟨g0, h51⟩ := h50
    refine z_ev_dvi (w1 := (I 33 0 4)) (c1 := (216, 94, [some (z_r 33 0), some (z_i (x1)), some (z_i (x2)), some (z_j (l3)), none, some (z_i (x5)), some (z_i (x6)), some (z_i (x7)), some (z_j (l8 * ((I 37 0 k47).toInt64))), none, some (z_i (x10))], [z_i (x7 / (I 33 0 4))], (true, X, (z_up I 48 0 k43 (x7 - x7 / (I 33 0 4) * (I 33 0 4))), J))) rfl g0 ?_
    refine z_ev_gs 3 (c1 := (216, 49, [some (z_r 33 0), some (z_i (x1)), some (z_i (x2)), some (z_j (l3)), none, some (z_i (x5)), some (z_i (x6)), some (z_i (x7 / (I 33 0 4))), some (z_j (l8 * ((I 37 0 k47).toInt64))), none, some (z_i (x10 + (1 : Int32)))], [], (true, X, (z_up I 48 0 k43 (x7 - x7 / (I 33 0 4) * (I 33 0 4))), J))) rfl ?_
    exact h51
theorem z_q216_105 {d : Nat} {r : Option z_V × z_M} {X : z_X} {I : Nat → Nat → Nat → Int32} {J : Nat → Nat → Nat → Int64} (x1 : Int32) (x2 : Int32) (l3 : Int64) (x5 : Int32) (x6 : Int32) (x7 : Int32) (l8 : Int64) (x10 : Int32)
    (h : ((((1 : Int32) <<< ((z_pr x1) &&& 31)) ≤ x10 → z_ev (d + 3) (216, 32, [some (z_r 33 0), some (z_i (x1)), some (z_i (x2)), some (z_j (l3)), none, some (z_i (x5)), some (z_i (x6 + (1 : Int32))), some (z_i (x7)), some (z_j (l8)), none, some (z_i (x10))], [], (true, X, I, J)) r) ∧ (x10 < ((1 : Int32) <<< ((z_pr x1) &&& 31)) → (∃ k56 : Nat, (((64 : Int32) * x1) + x10) = Int32.ofNat k56 ∧ k56 < 320 ∧ ((¬ (I 40 0 k56) = x2 → z_ev (d + 3) (216, 105, [some (z_r 33 0), some (z_i (x1)), some (z_i (x2)), some (z_j (l3 + (0 : Int64))), none, some (z_i (x5)), some (z_i (x6)), some (z_i (x7)), some (z_j (l8)), none, some (z_i (x10 + (1 : Int32)))], [], (true, X, I, J)) r) ∧ ((I 40 0 k56) = x2 → (∃ (v66 : Int64) (X61 : z_X) (I62 : Nat → Nat → Nat → Int32) (J63 : Nat → Nat → Nat → Int64), z_ev (d + 2) (z_en 215 [z_r 33 0, z_i (x1), z_i (x10)] (true, X, I, J)) (some (z_j (v66)), (true, X61, I62, J63)) ∧ z_ev (d + 3) (216, 105, [some (z_r 33 0), some (z_i (x1)), some (z_i (x2)), some (z_j (l3 + (l8 * v66))), none, some (z_i (x5)), some (z_i (x6)), some (z_i (x7)), some (z_j (l8)), none, some (z_i (x10 + (1 : Int32)))], [], (true, X61, I62, J63)) r))))))) :
    z_ev (d + 3) ((216, 105, [some (z_r 33 0), some (z_i (x1)), some (z_i (x2)), some (z_j (l3)), none, some (z_i (x5)), some (z_i (x6)), some (z_i (x7)), some (z_j (l8)), none, some (z_i (x10))], [], (true, X, I, J))) r := by
  refine z_ev_gs 3 (c1 := (216, 109, [some (z_r 33 0), some (z_i (x1)), some (z_i (x2)), some (z_j (l3)), none, some (z_i (x5)), some (z_i (x6)), some (z_i (x7)), some (z_j (l8)), none, some (z_i (x10))], [z_i (x1), z_i 1, z_i (x10)], (true, X, I, J))) rfl ?_
  refine z_ev_ca rfl rfl (z_p159 _) ?_
  refine z_ev_gs 2 (c1 := (216, (if ((1 : Int32) <<< ((z_pr x1) &&& 31)) ≤ x10 then 155 else 116), [some (z_r 33 0), some (z_i (x1)), some (z_i (x2)), some (z_j (l3)), none, some (z_i (x5)), some (z_i (x6)), some (z_i (x7)), some (z_j (l8)), none, some (z_i (x10))], [], (true, X, I, J))) rfl ?_
  refine z_ev_ifle (fun e55 => ?_) (fun e55 => ?_)
  · have h69 := h.1 e55
    refine z_ev_gs 2 (c1 := (216, 32, [some (z_r 33 0), some (z_i (x1)), some (z_i (x2)), some (z_j (l3)), none, some (z_i (x5)), some (z_i (x6 + (1 : Int32))), some (z_i (x7)), some (z_j (l8)), none, some (z_i (x10))], [], (true, X, I, J))) rfl ?_
    exact h69
  · have h70 := h.2 e55
    refine z_ev_gs 8 (c1 := (216, 128, [some (z_r 33 0), some (z_i (x1)), some (z_i (x2)), some (z_j (l3)), none, some (z_i (x5)), some (z_i (x6)), some (z_i (x7)), some (z_j (l8)), none, some (z_i (x10))], [z_i (((64 : Int32) * x1) + x10), z_r 40 0, z_j (l3)], (true, X, I, J))) rfl ?_
    obtain ⟨k56, e57, e58, h59⟩ := h70
    refine z_ev_iald (t := 40) (i := 0) (k := k56) (n := 320) rfl rfl e57 e58 (by decide) ?_
    refine z_ev_gs 2 (c1 := (216, (if ¬ (I 40 0 k56) = x2 then 146 else 133), [some (z_r 33 0), some (z_i (x1)), some (z_i (x2)), some (z_j (l3)), none, some (z_i (x5)), some (z_i (x6)), some (z_i (x7)), some (z_j (l8)), none, some (z_i (x10))], [z_j (l3)], (true, X, I, J))) rfl ?_
    refine z_ev_ifn (fun e60 => ?_) (fun e60 => ?_)
    · have h67 := h59.1 e60
      refine z_ev_gs 5 (c1 := (216, 105, [some (z_r 33 0), some (z_i (x1)), some (z_i (x2)), some (z_j (l3 + (0 : Int64))), none, some (z_i (x5)), some (z_i (x6)), some (z_i (x7)), some (z_j (l8)), none, some (z_i (x10 + (1 : Int32)))], [], (true, X, I, J))) rfl ?_
      exact h67
    · have h68 := h59.2 e60
      refine z_ev_gs 4 (c1 := (216, 139, [some (z_r 33 0), some (z_i (x1)), some (z_i (x2)), some (z_j (l3)), none, some (z_i (x5)), some (z_i (x6)), some (z_i (x7)), some (z_j (l8)), none, some (z_i (x10))], [z_i (x10), z_i (x1), z_r 33 0, z_j (l8), z_j (l3)], (true, X, I, J))) rfl ?_
      obtain ⟨v66, X61, I62, J63, g64, h65⟩ := h68
      refine z_ev_ca rfl rfl g64 ?_
      refine z_ev_gs 6 (c1 := (216, 105, [some (z_r 33 0), some (z_i (x1)), some (z_i (x2)), some (z_j (l3 + (l8 * v66))), none, some (z_i (x5)), some (z_i (x6)), some (z_i (x7)), some (z_j (l8)), none, some (z_i (x10 + (1 : Int32)))], [], (true, X61, I62, J63))) rfl ?_
      exact h65
theorem z_q217_e {d : Nat} {r : Option z_V × z_M} {X : z_X} {I : Nat → Nat → Nat → Int32} {J : Nat → Nat → Nat → Int64} (x1 : Int32)
    (h : z_ev (d + 1) (217, 12, [some (z_r 33 0), some (z_i (x1)), some (z_j ((1 : Int64) <<< (((2 : Int32) * (z_pr x1)).toInt64 &&& 63))), none, some (z_i 0)], [], (true, X, I, J)) r) :
    z_ev (d + 1) (z_en 217 [z_r 33 0, z_i (x1)] (true, X, I, J)) r := by
  show z_ev (d + 1) (217, 0, [some (z_r 33 0), some (z_i (x1)), none, none, none], [], (true, X, I, J)) r
  refine z_ev_gs 3 (c1 := (217, 3, [some (z_r 33 0), some (z_i (x1)), none, none, none], [z_i (x1), z_i 2, z_j 1], (true, X, I, J))) rfl ?_
  refine z_ev_ca rfl rfl (z_p159 _) ?_
  refine z_ev_gs 5 (c1 := (217, 12, [some (z_r 33 0), some (z_i (x1)), some (z_j ((1 : Int64) <<< (((2 : Int32) * (z_pr x1)).toInt64 &&& 63))), none, some (z_i 0)], [], (true, X, I, J))) rfl ?_
  exact h
theorem z_q217_12 {d : Nat} {r : Option z_V × z_M} {X : z_X} {I : Nat → Nat → Nat → Int32} {J : Nat → Nat → Nat → Int64} (x1 : Int32) (l2 : Int64) (x4 : Int32)
    (h : ((x1 ≤ x4 → r = (some (z_j (l2)), (true, X, I, J))) ∧ (x4 < x1 → (∃ (v7 : Int32) (X2 : z_X) (I3 : Nat → Nat → Nat → Int32) (J4 : Nat → Nat → Nat → Int64), z_ev d (z_en 214 [z_r 33 0] (true, X, I, J)) (some (z_i (v7)), (true, X2, I3, J4)) ∧ z_ev (d + 1) (217, 12, [some (z_r 33 0), some (z_i (x1)), some (z_j (l2 * v7.toInt64)), none, some (z_i (x4 + (1 : Int32)))], [], (true, X2, I3, J4)) r)))) :
    z_ev (d + 1) ((217, 12, [some (z_r 33 0), some (z_i (x1)), some (z_j (l2)), none, some (z_i (x4))], [], (true, X, I, J))) r := by
  refine z_ev_gs 3 (c1 := (217, (if x1 ≤ x4 then 32 else 18), [some (z_r 33 0), some (z_i (x1)), some (z_j (l2)), none, some (z_i (x4))], [], (true, X, I, J))) rfl ?_
  refine z_ev_ifle (fun e1 => ?_) (fun e1 => ?_)
  · have h8 := h.1 e1
    refine z_ev_gs 1 (c1 := (217, 33, [some (z_r 33 0), some (z_i (x1)), some (z_j (l2)), none, some (z_i (x4))], [z_j (l2)], (true, X, I, J))) rfl ?_
    rw [h8]
    exact z_ev_rt rfl
  · have h9 := h.2 e1
    refine z_ev_gs 2 (c1 := (217, 20, [some (z_r 33 0), some (z_i (x1)), some (z_j (l2)), none, some (z_i (x4))], [z_r 33 0, z_j (l2)], (true, X, I, J))) rfl ?_
    obtain ⟨v7, X2, I3, J4, g5, h6⟩ := h9
    refine z_ev_ca rfl rfl g5 ?_
    refine z_ev_gs 5 (c1 := (217, 12, [some (z_r 33 0), some (z_i (x1)), some (z_j (l2 * v7.toInt64)), none, some (z_i (x4 + (1 : Int32)))], [], (true, X2, I3, J4))) rfl ?_
    exact h6
theorem z_q219_e {d : Nat} {r : Option z_V × z_M} {X : z_X} {I : Nat → Nat → Nat → Int32} {J : Nat → Nat → Nat → Int64} 
    (h : z_ev (d + 4) (219, 2, [some (z_r 33 0), some (z_i 0)], [], (true, X, I, J)) r) :
    z_ev (d + 4) (z_en 219 [z_r 33 0] (true, X, I, J)) r := by
  show z_ev (d + 4) (219, 0, [some (z_r 33 0), none], [], (true, X, I, J)) r
  refine z_ev_gs 2 (c1 := (219, 2, [some (z_r 33 0), some (z_i 0)], [], (true, X, I, J))) rfl ?_
  exact h
theorem z_q219_2 {d : Nat} {r : Option z_V × z_M} {X : z_X} {I : Nat → Nat → Nat → Int32} {J : Nat → Nat → Nat → Int64} (x1 : Int32)
    (h : (((I 33 0 2) ≤ x1 → r = (some (z_i 1), (true, X, I, J))) ∧ (x1 < (I 33 0 2) → (∃ k2 : Nat, ((2 : Int32) * x1) = Int32.ofNat k2 ∧ k2 < 8 ∧ (∃ k6 : Nat, (((2 : Int32) * x1) + (1 : Int32)) = Int32.ofNat k6 ∧ k6 < 8 ∧ (∃ (v15 : Int64) (X10 : z_X) (I11 : Nat → Nat → Nat → Int32) (J12 : Nat → Nat → Nat → Int64), z_ev (d + 3) (z_en 216 [z_r 33 0, z_i (I 36 0 k2), z_i (I 36 0 k6)] (true, X, I, J)) (some (z_j (v15)), (true, X10, I11, J12)) ∧ (((lg_cmp v15 (0 : Int64)) ≤ 0 → z_ev (d + 4) (219, 2, [some (z_r 33 0), some (z_i (x1 + (1 : Int32)))], [], (true, X10, I11, J12)) r) ∧ (0 < (lg_cmp v15 (0 : Int64)) → r = (some (z_i 0), (true, X10, I11, J12)))))))))) :
    z_ev (d + 4) ((219, 2, [some (z_r 33 0), some (z_i (x1))], [], (true, X, I, J))) r := by
  refine z_ev_gs 4 (c1 := (219, (if (I 33 0 2) ≤ x1 then 45 else 10), [some (z_r 33 0), some (z_i (x1))], [], (true, X, I, J))) rfl ?_
  refine z_ev_ifle (fun e1 => ?_) (fun e1 => ?_)
  · have h19 := h.1 e1
    refine z_ev_gs 1 (c1 := (219, 46, [some (z_r 33 0), some (z_i (x1))], [z_i 1], (true, X, I, J))) rfl ?_
    rw [h19]
    exact z_ev_rt rfl
  · have h20 := h.2 e1
    refine z_ev_gs 6 (c1 := (219, 18, [some (z_r 33 0), some (z_i (x1))], [z_i ((2 : Int32) * x1), z_r 36 0, z_r 33 0], (true, X, I, J))) rfl ?_
    obtain ⟨k2, e3, e4, h5⟩ := h20
    refine z_ev_iald (t := 36) (i := 0) (k := k2) (n := 8) rfl rfl e3 e4 (by decide) ?_
    refine z_ev_gs 7 (c1 := (219, 28, [some (z_r 33 0), some (z_i (x1))], [z_i (((2 : Int32) * x1) + (1 : Int32)), z_r 36 0, z_i (I 36 0 k2), z_r 33 0], (true, X, I, J))) rfl ?_
    obtain ⟨k6, e7, e8, h9⟩ := h5
    refine z_ev_iald (t := 36) (i := 0) (k := k6) (n := 8) rfl rfl e7 e8 (by decide) ?_
    obtain ⟨v15, X10, I11, J12, g13, h14⟩ := h9
    refine z_ev_ca rfl rfl g13 ?_
    refine z_ev_gs 3 (c1 := (219, (if (lg_cmp v15 (0 : Int64)) ≤ 0 then 39 else 37), [some (z_r 33 0), some (z_i (x1))], [], (true, X10, I11, J12))) rfl ?_
    refine z_ev_ifle (fun e16 => ?_) (fun e16 => ?_)
    · have h17 := h14.1 e16
      refine z_ev_gs 2 (c1 := (219, 2, [some (z_r 33 0), some (z_i (x1 + (1 : Int32)))], [], (true, X10, I11, J12))) rfl ?_
      exact h17
    · have h18 := h14.2 e16
      refine z_ev_gs 1 (c1 := (219, 38, [some (z_r 33 0), some (z_i (x1))], [z_i 0], (true, X10, I11, J12))) rfl ?_
      rw [h18]
      exact z_ev_rt rfl
theorem z_q144_e {d : Nat} {r : Option z_V × z_M} {X : z_X} {I : Nat → Nat → Nat → Int32} {J : Nat → Nat → Nat → Int64} 
    (h : z_ev (d + 28) (144, 2, [some (z_r 0 0), some (z_i 2), none], [], (true, X, I, J)) r) :
    z_ev (d + 28) (z_en 144 [z_r 0 0] (true, X, I, J)) r := by
  show z_ev (d + 28) (144, 0, [some (z_r 0 0), none, none], [], (true, X, I, J)) r
  refine z_ev_gs 2 (c1 := (144, 2, [some (z_r 0 0), some (z_i 2), none], [], (true, X, I, J))) rfl ?_
  exact h
theorem z_q144_2 {d : Nat} {r : Option z_V × z_M} {X : z_X} {I : Nat → Nat → Nat → Int32} {J : Nat → Nat → Nat → Int64} (x1 : Int32) (o2 : Option z_V)
    (h : (((4 : Int32) < x1 → r = (some (z_i 1), (true, X, I, J))) ∧ (x1 ≤ (4 : Int32) → (∃ k34 : Nat, x1 = Int32.ofNat k34 ∧ k34 < 5 ∧ (((I 3 0 k34) = 0 → z_ev (d + 28) (144, 2, [some (z_r 0 0), some (z_i (x1 + (1 : Int32))), o2], [], (true, X, I, J)) r) ∧ (¬ (I 3 0 k34) = 0 → (∃ (X39 : z_X) (I40 : Nat → Nat → Nat → Int32) (J41 : Nat → Nat → Nat → Int64), z_ev (d + 27) (z_en 12 [z_r 4 0, z_i (x1)] (true, X, I, J)) (none, (true, X39, I40, J41)) ∧ z_ev (d + 28) (144, 32, [some (z_r 0 0), some (z_i (x1)), some (z_i 0)], [], (true, X39, I40, J41)) r))))))) :
    z_ev (d + 28) ((144, 2, [some (z_r 0 0), some (z_i (x1)), o2], [], (true, X, I, J))) r := by
  refine z_ev_gs 3 (c1 := (144, (if (4 : Int32) < x1 then 87 else 7), [some (z_r 0 0), some (z_i (x1)), o2], [], (true, X, I, J))) rfl ?_
  refine z_ev_iflt (fun e33 => ?_) (fun e33 => ?_)
  · have h46 := h.1 e33
    refine z_ev_gs 1 (c1 := (144, 88, [some (z_r 0 0), some (z_i (x1)), o2], [z_i 1], (true, X, I, J))) rfl ?_
    rw [h46]
    exact z_ev_rt rfl
  · have h47 := h.2 e33
    refine z_ev_gs 4 (c1 := (144, 15, [some (z_r 0 0), some (z_i (x1)), o2], [z_i (x1), z_r 3 0], (true, X, I, J))) rfl ?_
    obtain ⟨k34, e35, e36, h37⟩ := h47
    refine z_ev_iald (t := 3) (i := 0) (k := k34) (n := 5) rfl rfl e35 e36 (by decide) ?_
    refine z_ev_gs 1 (c1 := (144, (if (I 3 0 k34) = 0 then 81 else 19), [some (z_r 0 0), some (z_i (x1)), o2], [], (true, X, I, J))) rfl ?_
    refine z_ev_if (fun e38 => ?_) (fun e38 => ?_)
    · have h44 := h37.1 e38
      refine z_ev_gs 2 (c1 := (144, 2, [some (z_r 0 0), some (z_i (x1 + (1 : Int32))), o2], [], (true, X, I, J))) rfl ?_
      exact h44
    · have h45 := h37.2 e38
      refine z_ev_gs 4 (c1 := (144, 27, [some (z_r 0 0), some (z_i (x1)), o2], [z_i (x1), z_r 4 0], (true, X, I, J))) rfl ?_
      obtain ⟨X39, I40, J41, g42, h43⟩ := h45
      refine z_ev_ca rfl rfl g42 ?_
      refine z_ev_gs 2 (c1 := (144, 32, [some (z_r 0 0), some (z_i (x1)), some (z_i 0)], [], (true, X39, I40, J41))) rfl ?_
      exact h43
theorem z_q144_32 {d : Nat} {r : Option z_V × z_M} {X : z_X} {I : Nat → Nat → Nat → Int32} {J : Nat → Nat → Nat → Int64} (x1 : Int32) (x2 : Int32)
    (h : (((z_fo x1) ≤ x2 → z_ev (d + 28) (144, 2, [some (z_r 0 0), some (z_i (x1 + (1 : Int32))), some (z_i (x2))], [], (true, X, I, J)) r) ∧ (x2 < (z_fo x1) → (∃ k49 : Nat, x1 = Int32.ofNat k49 ∧ k49 < 5 ∧ (((((I 3 0 k49) >>> (x2 &&& 31)) &&& (1 : Int32)) = 0 → z_ev (d + 28) (144, 32, [some (z_r 0 0), some (z_i (x1)), some (z_i (x2 + (1 : Int32)))], [], (true, X, I, J)) r) ∧ (¬ (((I 3 0 k49) >>> (x2 &&& 31)) &&& (1 : Int32)) = 0 → (∃ k54 : Nat, x2 = Int32.ofNat k54 ∧ k54 < 11 ∧ (((lg_cmp (J 7 0 k54) (0 : Int64)) = 0 → z_ev (d + 28) (144, 32, [some (z_r 0 0), some (z_i (x1)), some (z_i (x2 + (1 : Int32)))], [], (true, X, I, J)) r) ∧ (¬ (lg_cmp (J 7 0 k54) (0 : Int64)) = 0 → r = (some (z_i 0), (true, X, I, J))))))))))) :
    z_ev (d + 28) ((144, 32, [some (z_r 0 0), some (z_i (x1)), some (z_i (x2))], [], (true, X, I, J))) r := by
  refine z_ev_gs 2 (c1 := (144, 34, [some (z_r 0 0), some (z_i (x1)), some (z_i (x2))], [z_i (x1), z_i (x2)], (true, X, I, J))) rfl ?_
  refine z_ev_ca rfl rfl (z_p127 _) ?_
  refine z_ev_gs 1 (c1 := (144, (if (z_fo x1) ≤ x2 then 81 else 40), [some (z_r 0 0), some (z_i (x1)), some (z_i (x2))], [], (true, X, I, J))) rfl ?_
  refine z_ev_ifle (fun e48 => ?_) (fun e48 => ?_)
  · have h63 := h.1 e48
    refine z_ev_gs 2 (c1 := (144, 2, [some (z_r 0 0), some (z_i (x1 + (1 : Int32))), some (z_i (x2))], [], (true, X, I, J))) rfl ?_
    exact h63
  · have h64 := h.2 e48
    refine z_ev_gs 4 (c1 := (144, 48, [some (z_r 0 0), some (z_i (x1)), some (z_i (x2))], [z_i (x1), z_r 3 0], (true, X, I, J))) rfl ?_
    obtain ⟨k49, e50, e51, h52⟩ := h64
    refine z_ev_iald (t := 3) (i := 0) (k := k49) (n := 5) rfl rfl e50 e51 (by decide) ?_
    refine z_ev_gs 5 (c1 := (144, (if (((I 3 0 k49) >>> (x2 &&& 31)) &&& (1 : Int32)) = 0 then 75 else 56), [some (z_r 0 0), some (z_i (x1)), some (z_i (x2))], [], (true, X, I, J))) rfl ?_
    refine z_ev_if (fun e53 => ?_) (fun e53 => ?_)
    · have h61 := h52.1 e53
      refine z_ev_gs 2 (c1 := (144, 32, [some (z_r 0 0), some (z_i (x1)), some (z_i (x2 + (1 : Int32)))], [], (true, X, I, J))) rfl ?_
      exact h61
    · have h62 := h52.2 e53
      refine z_ev_gs 5 (c1 := (144, 67, [some (z_r 0 0), some (z_i (x1)), some (z_i (x2))], [z_i (x2), z_r 7 0], (true, X, I, J))) rfl ?_
      obtain ⟨k54, e55, e56, h57⟩ := h62
      refine z_ev_lald (t := 7) (i := 0) (k := k54) (n := 11) rfl rfl e55 e56 (by decide) ?_
      refine z_ev_gs 3 (c1 := (144, (if (lg_cmp (J 7 0 k54) (0 : Int64)) = 0 then 75 else 73), [some (z_r 0 0), some (z_i (x1)), some (z_i (x2))], [], (true, X, I, J))) rfl ?_
      refine z_ev_if (fun e58 => ?_) (fun e58 => ?_)
      · have h59 := h57.1 e58
        refine z_ev_gs 2 (c1 := (144, 32, [some (z_r 0 0), some (z_i (x1)), some (z_i (x2 + (1 : Int32)))], [], (true, X, I, J))) rfl ?_
        exact h59
      · have h60 := h57.2 e58
        refine z_ev_gs 1 (c1 := (144, 74, [some (z_r 0 0), some (z_i (x1)), some (z_i (x2))], [z_i 0], (true, X, I, J))) rfl ?_
        rw [h60]
        exact z_ev_rt rfl
theorem z_q87_e {d : Nat} {r : Option z_V × z_M} {X : z_X} {I : Nat → Nat → Nat → Int32} {J : Nat → Nat → Nat → Int64} (x1 : Int32) (x2 : Int32) (x3 : Int32)
    (h : (∃ (v6 : Int32) (X1 : z_X) (I2 : Nat → Nat → Nat → Int32) (J3 : Nat → Nat → Nat → Int64), z_ev (d + 27) (z_en 128 [z_i (x1), z_i (x2)] (true, X, I, J)) (some (z_i (v6)), (true, X1, I2, J3)) ∧ ((v6 < 0 → r = (some (z_j (-1)), (true, X1, I2, J3))) ∧ (0 ≤ v6 → (((z_bw x3 0 1) = true → ((¬ (I2 4 0 2) = 0 → (∃ (X10 : z_X) (I11 : Nat → Nat → Nat → Int32) (J12 : Nat → Nat → Nat → Int64), z_ev (d + 27) (z_en 12 [z_r 4 0, z_i (x1)] (true, X1, I2, J3)) (none, (true, X10, I11, J12)) ∧ (∃ k15 : Nat, v6 = Int32.ofNat k15 ∧ k15 < 11 ∧ (∃ (v24 : Int64) (X19 : z_X) (I20 : Nat → Nat → Nat → Int32) (J21 : Nat → Nat → Nat → Int64), z_ev (d + 27) (z_en 11 [z_r 4 0, z_i (x1)] (true, X10, I11, J12)) (some (z_j (v24)), (true, X19, I20, J21)) ∧ (∃ (v30 : Int64) (X25 : z_X) (I26 : Nat → Nat → Nat → Int32) (J27 : Nat → Nat → Nat → Int64), z_ev (d + 27) (z_en 131 [z_j (J12 7 0 k15), z_j (v24), z_i (x3)] (true, X19, I20, J21)) (some (z_j (v30)), (true, X25, I26, J27)) ∧ r = (some (z_j (v30)), (true, X25, I26, J27))))))) ∧ ((I2 4 0 2) = 0 → r = (some (z_j (-3)), (true, X1, I2, J3))))) ∧ ((z_bw x3 0 1) = false → r = (some (z_j (-1)), (true, X1, I2, J3)))))))) :
    z_ev (d + 28) (z_en 87 [z_r 0 0, z_i (x1), z_i (x2), z_i (x3)] (true, X, I, J)) r := by
  show z_ev (d + 28) (87, 0, [some (z_r 0 0), some (z_i (x1)), some (z_i (x2)), some (z_i (x3)), none], [], (true, X, I, J)) r
  refine z_ev_gs 2 (c1 := (87, 2, [some (z_r 0 0), some (z_i (x1)), some (z_i (x2)), some (z_i (x3)), none], [z_i (x2), z_i (x1)], (true, X, I, J))) rfl ?_
  obtain ⟨v6, X1, I2, J3, g4, h5⟩ := h
  refine z_ev_ca rfl rfl g4 ?_
  refine z_ev_gs 3 (c1 := (87, (if v6 < 0 then 19 else 12), [some (z_r 0 0), some (z_i (x1)), some (z_i (x2)), some (z_i (x3)), some (z_i (v6))], [], (true, X1, I2, J3))) rfl ?_
  refine z_ev_iflt (fun e7 => ?_) (fun e7 => ?_)
  · have h35 := h5.1 e7
    refine z_ev_gs 1 (c1 := (87, 22, [some (z_r 0 0), some (z_i (x1)), some (z_i (x2)), some (z_i (x3)), some (z_i (v6))], [z_j (-1)], (true, X1, I2, J3))) rfl ?_
    rw [h35]
    exact z_ev_rt rfl
  · have h36 := h5.2 e7
    refine z_ev_gs 1 (c1 := (87, 13, [some (z_r 0 0), some (z_i (x1)), some (z_i (x2)), some (z_i (x3)), some (z_i (v6))], [z_i (x3)], (true, X1, I2, J3))) rfl ?_
    refine z_ev_ca rfl rfl (z_p121 _) ?_
    refine z_ev_gs 1 (c1 := (87, (if ¬ z_c (z_bw x3 0 1) = 0 then 23 else 19), [some (z_r 0 0), some (z_i (x1)), some (z_i (x2)), some (z_i (x3)), some (z_i (v6))], [], (true, X1, I2, J3))) rfl ?_
    refine z_ev_ifcn (fun e8 => ?_) (fun e8 => ?_)
    · have h33 := h36.1 e8
      refine z_ev_gs 5 (c1 := (87, (if ¬ (I2 4 0 2) = 0 then 40 else 36), [some (z_r 0 0), some (z_i (x1)), some (z_i (x2)), some (z_i (x3)), some (z_i (v6))], [], (true, X1, I2, J3))) rfl ?_
      refine z_ev_ifn (fun e9 => ?_) (fun e9 => ?_)
      · have h31 := h33.1 e9
        refine z_ev_gs 4 (c1 := (87, 48, [some (z_r 0 0), some (z_i (x1)), some (z_i (x2)), some (z_i (x3)), some (z_i (v6))], [z_i (x1), z_r 4 0], (true, X1, I2, J3))) rfl ?_
        obtain ⟨X10, I11, J12, g13, h14⟩ := h31
        refine z_ev_ca rfl rfl g13 ?_
        refine z_ev_gs 5 (c1 := (87, 63, [some (z_r 0 0), some (z_i (x1)), some (z_i (x2)), some (z_i (x3)), some (z_i (v6))], [z_i (v6), z_r 7 0], (true, X10, I11, J12))) rfl ?_
        obtain ⟨k15, e16, e17, h18⟩ := h14
        refine z_ev_lald (t := 7) (i := 0) (k := k15) (n := 11) rfl rfl e16 e17 (by decide) ?_
        refine z_ev_gs 4 (c1 := (87, 72, [some (z_r 0 0), some (z_i (x1)), some (z_i (x2)), some (z_i (x3)), some (z_i (v6))], [z_i (x1), z_r 4 0, z_j (J12 7 0 k15)], (true, X10, I11, J12))) rfl ?_
        obtain ⟨v24, X19, I20, J21, g22, h23⟩ := h18
        refine z_ev_ca rfl rfl g22 ?_
        refine z_ev_gs 1 (c1 := (87, 76, [some (z_r 0 0), some (z_i (x1)), some (z_i (x2)), some (z_i (x3)), some (z_i (v6))], [z_i (x3), z_j (v24), z_j (J12 7 0 k15)], (true, X19, I20, J21))) rfl ?_
        obtain ⟨v30, X25, I26, J27, g28, h29⟩ := h23
        refine z_ev_ca rfl rfl g28 ?_
        rw [h29]
        exact z_ev_rt rfl
      · have h32 := h33.2 e9
        refine z_ev_gs 1 (c1 := (87, 39, [some (z_r 0 0), some (z_i (x1)), some (z_i (x2)), some (z_i (x3)), some (z_i (v6))], [z_j (-3)], (true, X1, I2, J3))) rfl ?_
        rw [h32]
        exact z_ev_rt rfl
    · have h34 := h36.2 e8
      refine z_ev_gs 1 (c1 := (87, 22, [some (z_r 0 0), some (z_i (x1)), some (z_i (x2)), some (z_i (x3)), some (z_i (v6))], [z_j (-1)], (true, X1, I2, J3))) rfl ?_
      rw [h34]
      exact z_ev_rt rfl
theorem z_q218_e {d : Nat} {r : Option z_V × z_M} {X : z_X} {I : Nat → Nat → Nat → Int32} {J : Nat → Nat → Nat → Int64} (x1 : Int32) (x2 : Int32) (x3 : Int32)
    (h : (∃ (b6 : Bool) (X1 : z_X) (I2 : Nat → Nat → Nat → Int32) (J3 : Nat → Nat → Nat → Int64), z_ev (d + 3) (z_en 166 [z_r 33 0, z_i (x1), z_i (x2)] (true, X, I, J)) (some (z_i (z_c b6)), (true, X1, I2, J3)) ∧ ((b6 = false → r = (some (z_j (-1)), (true, X1, I2, J3))) ∧ (b6 = true → (((z_bw x3 0 1) = true → ((¬ (I2 33 0 4) = 0 → (∃ (v15 : Int64) (X10 : z_X) (I11 : Nat → Nat → Nat → Int32) (J12 : Nat → Nat → Nat → Int64), z_ev (d + 3) (z_en 216 [z_r 33 0, z_i (x1), z_i (x2)] (true, X1, I2, J3)) (some (z_j (v15)), (true, X10, I11, J12)) ∧ (∃ (v21 : Int64) (X16 : z_X) (I17 : Nat → Nat → Nat → Int32) (J18 : Nat → Nat → Nat → Int64), z_ev (d + 3) (z_en 217 [z_r 33 0, z_i (x1)] (true, X10, I11, J12)) (some (z_j (v21)), (true, X16, I17, J18)) ∧ (∃ (X22 : z_X) (I23 : Nat → Nat → Nat → Int32) (J24 : Nat → Nat → Nat → Int64), z_ev (d + 3) (z_en 198 [z_r 33 0, z_j (v15), z_j (v21)] (true, X16, I17, J18)) (none, (true, X22, I23, J24)) ∧ (∃ (v32 : Int64) (X27 : z_X) (I28 : Nat → Nat → Nat → Int32) (J29 : Nat → Nat → Nat → Int64), z_ev (d + 3) (z_en 199 [z_r 33 0, z_i (x3)] (true, X22, I23, J24)) (some (z_j (v32)), (true, X27, I28, J29)) ∧ r = (some (z_j (v32)), (true, X27, I28, J29))))))) ∧ ((I2 33 0 4) = 0 → r = (some (z_j (-3)), (true, X1, I2, J3))))) ∧ ((z_bw x3 0 1) = false → r = (some (z_j (-1)), (true, X1, I2, J3)))))))) :
    z_ev (d + 4) (z_en 218 [z_r 33 0, z_i (x1), z_i (x2), z_i (x3)] (true, X, I, J)) r := by
  show z_ev (d + 4) (218, 0, [some (z_r 33 0), some (z_i (x1)), some (z_i (x2)), some (z_i (x3))], [], (true, X, I, J)) r
  refine z_ev_gs 3 (c1 := (218, 3, [some (z_r 33 0), some (z_i (x1)), some (z_i (x2)), some (z_i (x3))], [z_i (x2), z_i (x1), z_r 33 0], (true, X, I, J))) rfl ?_
  obtain ⟨b6, X1, I2, J3, g4, h5⟩ := h
  refine z_ev_ca rfl rfl g4 ?_
  refine z_ev_gs 1 (c1 := (218, (if z_c b6 = 0 then 16 else 9), [some (z_r 33 0), some (z_i (x1)), some (z_i (x2)), some (z_i (x3))], [], (true, X1, I2, J3))) rfl ?_
  refine z_ev_ifc (fun e7 => ?_) (fun e7 => ?_)
  · have h37 := h5.1 e7
    refine z_ev_gs 1 (c1 := (218, 19, [some (z_r 33 0), some (z_i (x1)), some (z_i (x2)), some (z_i (x3))], [z_j (-1)], (true, X1, I2, J3))) rfl ?_
    rw [h37]
    exact z_ev_rt rfl
  · have h38 := h5.2 e7
    refine z_ev_gs 1 (c1 := (218, 10, [some (z_r 33 0), some (z_i (x1)), some (z_i (x2)), some (z_i (x3))], [z_i (x3)], (true, X1, I2, J3))) rfl ?_
    refine z_ev_ca rfl rfl (z_p163 _) ?_
    refine z_ev_gs 1 (c1 := (218, (if ¬ z_c (z_bw x3 0 1) = 0 then 20 else 16), [some (z_r 33 0), some (z_i (x1)), some (z_i (x2)), some (z_i (x3))], [], (true, X1, I2, J3))) rfl ?_
    refine z_ev_ifcn (fun e8 => ?_) (fun e8 => ?_)
    · have h35 := h38.1 e8
      refine z_ev_gs 3 (c1 := (218, (if ¬ (I2 33 0 4) = 0 then 31 else 27), [some (z_r 33 0), some (z_i (x1)), some (z_i (x2)), some (z_i (x3))], [], (true, X1, I2, J3))) rfl ?_
      refine z_ev_ifn (fun e9 => ?_) (fun e9 => ?_)
      · have h33 := h35.1 e9
        refine z_ev_gs 4 (c1 := (218, 35, [some (z_r 33 0), some (z_i (x1)), some (z_i (x2)), some (z_i (x3))], [z_i (x2), z_i (x1), z_r 33 0, z_r 33 0], (true, X1, I2, J3))) rfl ?_
        obtain ⟨v15, X10, I11, J12, g13, h14⟩ := h33
        refine z_ev_ca rfl rfl g13 ?_
        refine z_ev_gs 2 (c1 := (218, 40, [some (z_r 33 0), some (z_i (x1)), some (z_i (x2)), some (z_i (x3))], [z_i (x1), z_r 33 0, z_j (v15), z_r 33 0], (true, X10, I11, J12))) rfl ?_
        obtain ⟨v21, X16, I17, J18, g19, h20⟩ := h14
        refine z_ev_ca rfl rfl g19 ?_
        obtain ⟨X22, I23, J24, g25, h26⟩ := h20
        refine z_ev_ca rfl rfl g25 ?_
        refine z_ev_gs 2 (c1 := (218, 48, [some (z_r 33 0), some (z_i (x1)), some (z_i (x2)), some (z_i (x3))], [z_i (x3), z_r 33 0], (true, X22, I23, J24))) rfl ?_
        obtain ⟨v32, X27, I28, J29, g30, h31⟩ := h26
        refine z_ev_ca rfl rfl g30 ?_
        rw [h31]
        exact z_ev_rt rfl
      · have h34 := h35.2 e9
        refine z_ev_gs 1 (c1 := (218, 30, [some (z_r 33 0), some (z_i (x1)), some (z_i (x2)), some (z_i (x3))], [z_j (-3)], (true, X1, I2, J3))) rfl ?_
        rw [h34]
        exact z_ev_rt rfl
    · have h36 := h38.2 e8
      refine z_ev_gs 1 (c1 := (218, 19, [some (z_r 33 0), some (z_i (x1)), some (z_i (x2)), some (z_i (x3))], [z_j (-1)], (true, X1, I2, J3))) rfl ?_
      rw [h36]
      exact z_ev_rt rfl
theorem z_q88_e {d : Nat} {r : Option z_V × z_M} {X : z_X} {I : Nat → Nat → Nat → Int32} {J : Nat → Nat → Nat → Int64} 
    (h : ((¬ (I 4 0 2) = 0 → (∃ (b7 : Bool) (X2 : z_X) (I3 : Nat → Nat → Nat → Int32) (J4 : Nat → Nat → Nat → Int64), z_ev (d + 28) (z_en 144 [z_r 0 0] (true, X, I, J)) (some (z_i (z_c b7)), (true, X2, I3, J4)) ∧ ((b7 = false → r = (some (z_i 0), (true, X2, I3, J4))) ∧ (b7 = true → r = (some (z_i 1), (true, X2, I3, J4)))))) ∧ ((I 4 0 2) = 0 → r = (some (z_i (-3)), (true, X, I, J))))) :
    z_ev (d + 29) (z_en 88 [z_r 0 0] (true, X, I, J)) r := by
  show z_ev (d + 29) (88, 0, [some (z_r 0 0)], [], (true, X, I, J)) r
  refine z_ev_gs 5 (c1 := (88, (if ¬ (I 4 0 2) = 0 then 16 else 13), [some (z_r 0 0)], [], (true, X, I, J))) rfl ?_
  refine z_ev_ifn (fun e1 => ?_) (fun e1 => ?_)
  · have h11 := h.1 e1
    refine z_ev_gs 1 (c1 := (88, 17, [some (z_r 0 0)], [z_r 0 0], (true, X, I, J))) rfl ?_
    obtain ⟨b7, X2, I3, J4, g5, h6⟩ := h11
    refine z_ev_ca rfl rfl g5 ?_
    refine z_ev_gs 1 (c1 := (88, (if z_c b7 = 0 then 27 else 23), [some (z_r 0 0)], [], (true, X2, I3, J4))) rfl ?_
    refine z_ev_ifc (fun e8 => ?_) (fun e8 => ?_)
    · have h9 := h6.1 e8
      refine z_ev_gs 1 (c1 := (88, 28, [some (z_r 0 0)], [z_i 0], (true, X2, I3, J4))) rfl ?_
      rw [h9]
      exact z_ev_rt rfl
    · have h10 := h6.2 e8
      refine z_ev_gs 2 (c1 := (88, 28, [some (z_r 0 0)], [z_i 1], (true, X2, I3, J4))) rfl ?_
      rw [h10]
      exact z_ev_rt rfl
  · have h12 := h.2 e1
    refine z_ev_gs 1 (c1 := (88, 15, [some (z_r 0 0)], [z_i (-3)], (true, X, I, J))) rfl ?_
    rw [h12]
    exact z_ev_rt rfl
theorem z_q220_e {d : Nat} {r : Option z_V × z_M} {X : z_X} {I : Nat → Nat → Nat → Int32} {J : Nat → Nat → Nat → Int64} 
    (h : ((¬ (I 33 0 4) = 0 → (∃ (b7 : Bool) (X2 : z_X) (I3 : Nat → Nat → Nat → Int32) (J4 : Nat → Nat → Nat → Int64), z_ev (d + 4) (z_en 219 [z_r 33 0] (true, X, I, J)) (some (z_i (z_c b7)), (true, X2, I3, J4)) ∧ ((b7 = false → r = (some (z_i 0), (true, X2, I3, J4))) ∧ (b7 = true → r = (some (z_i 1), (true, X2, I3, J4)))))) ∧ ((I 33 0 4) = 0 → r = (some (z_i (-3)), (true, X, I, J))))) :
    z_ev (d + 5) (z_en 220 [z_r 33 0] (true, X, I, J)) r := by
  show z_ev (d + 5) (220, 0, [some (z_r 33 0)], [], (true, X, I, J)) r
  refine z_ev_gs 3 (c1 := (220, (if ¬ (I 33 0 4) = 0 then 12 else 7), [some (z_r 33 0)], [], (true, X, I, J))) rfl ?_
  refine z_ev_ifn (fun e1 => ?_) (fun e1 => ?_)
  · have h11 := h.1 e1
    refine z_ev_gs 1 (c1 := (220, 13, [some (z_r 33 0)], [z_r 33 0], (true, X, I, J))) rfl ?_
    obtain ⟨b7, X2, I3, J4, g5, h6⟩ := h11
    refine z_ev_ca rfl rfl g5 ?_
    refine z_ev_gs 1 (c1 := (220, (if z_c b7 = 0 then 23 else 19), [some (z_r 33 0)], [], (true, X2, I3, J4))) rfl ?_
    refine z_ev_ifc (fun e8 => ?_) (fun e8 => ?_)
    · have h9 := h6.1 e8
      refine z_ev_gs 1 (c1 := (220, 24, [some (z_r 33 0)], [z_i 0], (true, X2, I3, J4))) rfl ?_
      rw [h9]
      exact z_ev_rt rfl
    · have h10 := h6.2 e8
      refine z_ev_gs 2 (c1 := (220, 24, [some (z_r 33 0)], [z_i 1], (true, X2, I3, J4))) rfl ?_
      rw [h10]
      exact z_ev_rt rfl
  · have h12 := h.2 e1
    refine z_ev_gs 2 (c1 := (220, 24, [some (z_r 33 0)], [z_i (-3)], (true, X, I, J))) rfl ?_
    rw [h12]
    exact z_ev_rt rfl
theorem z_q99_e {d : Nat} {r : Option z_V × z_M} {X : z_X} {I : Nat → Nat → Nat → Int32} {J : Nat → Nat → Nat → Int64} (x1 : Int32) (x2 : Int32)
    (h : (((z_lt0 x1 (I 1 0 5)) = false → r = (some (z_j (-1000000000000)), (true, X, I, J))) ∧ ((z_lt0 x1 (I 1 0 5)) = true → (((z_bw x2 0 1) = false → r = (some (z_j (-1000000000000)), (true, X, I, J))) ∧ ((z_bw x2 0 1) = true → ((¬ (I 4 0 2) = 0 → (∃ (X4 : z_X) (I5 : Nat → Nat → Nat → Int32) (J6 : Nat → Nat → Nat → Int64), z_ev (d + 27) (z_en 12 [z_r 4 0, z_i 3] (true, X, I, J)) (none, (true, X4, I5, J6)) ∧ z_ev (d + 28) (99, 48, [some (z_r 0 0), some (z_i (x1)), some (z_i (x2)), some (z_j 0), none, some (z_i 0)], [], (true, X4, I5, J6)) r)) ∧ ((I 4 0 2) = 0 → r = (some (z_j (-1000000000000)), (true, X, I, J))))))))) :
    z_ev (d + 28) (z_en 99 [z_r 0 0, z_i (x1), z_i (x2)] (true, X, I, J)) r := by
  show z_ev (d + 28) (99, 0, [some (z_r 0 0), some (z_i (x1)), some (z_i (x2)), none, none, none], [], (true, X, I, J)) r
  refine z_ev_gs 2 (c1 := (99, 2, [some (z_r 0 0), some (z_i (x1)), some (z_i (x2)), none, none, none], [z_i (x1), z_r 0 0], (true, X, I, J))) rfl ?_
  refine z_ev_ca rfl rfl (z_p120 _) ?_
  refine z_ev_gs 1 (c1 := (99, (if z_c (z_lt0 x1 (I 1 0 5)) = 0 then 28 else 8), [some (z_r 0 0), some (z_i (x1)), some (z_i (x2)), none, none, none], [], (true, X, I, J))) rfl ?_
  refine z_ev_ifc (fun e1 => ?_) (fun e1 => ?_)
  · have h13 := h.1 e1
    refine z_ev_gs 1 (c1 := (99, 31, [some (z_r 0 0), some (z_i (x1)), some (z_i (x2)), none, none, none], [z_j (-1000000000000)], (true, X, I, J))) rfl ?_
    rw [h13]
    exact z_ev_rt rfl
  · have h14 := h.2 e1
    refine z_ev_gs 1 (c1 := (99, 9, [some (z_r 0 0), some (z_i (x1)), some (z_i (x2)), none, none, none], [z_i (x2)], (true, X, I, J))) rfl ?_
    refine z_ev_ca rfl rfl (z_p121 _) ?_
    refine z_ev_gs 1 (c1 := (99, (if z_c (z_bw x2 0 1) = 0 then 28 else 15), [some (z_r 0 0), some (z_i (x1)), some (z_i (x2)), none, none, none], [], (true, X, I, J))) rfl ?_
    refine z_ev_ifc (fun e2 => ?_) (fun e2 => ?_)
    · have h11 := h14.1 e2
      refine z_ev_gs 1 (c1 := (99, 31, [some (z_r 0 0), some (z_i (x1)), some (z_i (x2)), none, none, none], [z_j (-1000000000000)], (true, X, I, J))) rfl ?_
      rw [h11]
      exact z_ev_rt rfl
    · have h12 := h14.2 e2
      refine z_ev_gs 5 (c1 := (99, (if ¬ (I 4 0 2) = 0 then 32 else 28), [some (z_r 0 0), some (z_i (x1)), some (z_i (x2)), none, none, none], [], (true, X, I, J))) rfl ?_
      refine z_ev_ifn (fun e3 => ?_) (fun e3 => ?_)
      · have h9 := h12.1 e3
        refine z_ev_gs 4 (c1 := (99, 40, [some (z_r 0 0), some (z_i (x1)), some (z_i (x2)), none, none, none], [z_i 3, z_r 4 0], (true, X, I, J))) rfl ?_
        obtain ⟨X4, I5, J6, g7, h8⟩ := h9
        refine z_ev_ca rfl rfl g7 ?_
        refine z_ev_gs 4 (c1 := (99, 48, [some (z_r 0 0), some (z_i (x1)), some (z_i (x2)), some (z_j 0), none, some (z_i 0)], [], (true, X4, I5, J6))) rfl ?_
        exact h8
      · have h10 := h12.2 e3
        refine z_ev_gs 1 (c1 := (99, 31, [some (z_r 0 0), some (z_i (x1)), some (z_i (x2)), none, none, none], [z_j (-1000000000000)], (true, X, I, J))) rfl ?_
        rw [h10]
        exact z_ev_rt rfl
theorem z_q99_48 {d : Nat} {r : Option z_V × z_M} {X : z_X} {I : Nat → Nat → Nat → Int32} {J : Nat → Nat → Nat → Int64} (x1 : Int32) (x2 : Int32) (l3 : Int64) (x5 : Int32)
    (h : (((4 : Int32) ≤ x5 → (∃ (v21 : Int64) (X16 : z_X) (I17 : Nat → Nat → Nat → Int32) (J18 : Nat → Nat → Nat → Int64), z_ev (d + 27) (z_en 11 [z_r 4 0, z_i 3] (true, X, I, J)) (some (z_j (v21)), (true, X16, I17, J18)) ∧ (∃ (v27 : Int64) (X22 : z_X) (I23 : Nat → Nat → Nat → Int32) (J24 : Nat → Nat → Nat → Int64), z_ev (d + 27) (z_en 131 [z_j (l3), z_j ((3 : Int64) * v21), z_i (x2)] (true, X16, I17, J18)) (some (z_j (v27)), (true, X22, I23, J24)) ∧ r = (some (z_j (v27)), (true, X22, I23, J24))))) ∧ (x5 < (4 : Int32) → (∃ k28 : Nat, x1 = Int32.ofNat k28 ∧ k28 < 6 ∧ ∃ q32 : Nat, X.2.2.2 11 0 k28 = some (32, q32) ∧ (∃ (v40 : Int32) (X35 : z_X) (I36 : Nat → Nat → Nat → Int32) (J37 : Nat → Nat → Nat → Int64), z_ev (d + 27) (z_en 148 [z_r 32 q32, z_i (x5)] (true, X, I, J)) (some (z_i (v40)), (true, X35, I36, J37)) ∧ (∃ k41 : Nat, x5 = Int32.ofNat k41 ∧ k41 < 11 ∧ z_ev (d + 28) (99, 48, [some (z_r 0 0), some (z_i (x1)), some (z_i (x2)), some (z_j (l3 + (v40.toInt64 * (J37 7 0 k41)))), none, some (z_i (x5 + (1 : Int32)))], [], (true, X35, I36, J37)) r)))))) :
    z_ev (d + 28) ((99, 48, [some (z_r 0 0), some (z_i (x1)), some (z_i (x2)), some (z_j (l3)), none, some (z_i (x5))], [], (true, X, I, J))) r := by
  refine z_ev_gs 3 (c1 := (99, (if (4 : Int32) ≤ x5 then 92 else 54), [some (z_r 0 0), some (z_i (x1)), some (z_i (x2)), some (z_j (l3)), none, some (z_i (x5))], [], (true, X, I, J))) rfl ?_
  refine z_ev_ifle (fun e15 => ?_) (fun e15 => ?_)
  · have h45 := h.1 e15
    refine z_ev_gs 6 (c1 := (99, 104, [some (z_r 0 0), some (z_i (x1)), some (z_i (x2)), some (z_j (l3)), none, some (z_i (x5))], [z_i 3, z_r 4 0, z_j 3, z_j (l3)], (true, X, I, J))) rfl ?_
    obtain ⟨v21, X16, I17, J18, g19, h20⟩ := h45
    refine z_ev_ca rfl rfl g19 ?_
    refine z_ev_gs 2 (c1 := (99, 109, [some (z_r 0 0), some (z_i (x1)), some (z_i (x2)), some (z_j (l3)), none, some (z_i (x5))], [z_i (x2), z_j ((3 : Int64) * v21), z_j (l3)], (true, X16, I17, J18))) rfl ?_
    obtain ⟨v27, X22, I23, J24, g25, h26⟩ := h20
    refine z_ev_ca rfl rfl g25 ?_
    rw [h26]
    exact z_ev_rt rfl
  · have h46 := h.2 e15
    refine z_ev_gs 5 (c1 := (99, 63, [some (z_r 0 0), some (z_i (x1)), some (z_i (x2)), some (z_j (l3)), none, some (z_i (x5))], [z_i (x1), z_r 11 0, z_j (l3)], (true, X, I, J))) rfl ?_
    obtain ⟨k28, e29, e30, h31⟩ := h46
    obtain ⟨q32, g33, h34⟩ := h31
    refine z_ev_so (k := k28) rfl rfl e29 e30 g33 ?_
    refine z_ev_gs 1 (c1 := (99, 66, [some (z_r 0 0), some (z_i (x1)), some (z_i (x2)), some (z_j (l3)), none, some (z_i (x5))], [z_i (x5), z_r 32 q32, z_j (l3)], (true, X, I, J))) rfl ?_
    obtain ⟨v40, X35, I36, J37, g38, h39⟩ := h34
    refine z_ev_ca rfl rfl g38 ?_
    refine z_ev_gs 6 (c1 := (99, 82, [some (z_r 0 0), some (z_i (x1)), some (z_i (x2)), some (z_j (l3)), none, some (z_i (x5))], [z_i (x5), z_r 7 0, z_j (v40.toInt64), z_j (l3)], (true, X35, I36, J37))) rfl ?_
    obtain ⟨k41, e42, e43, h44⟩ := h39
    refine z_ev_lald (t := 7) (i := 0) (k := k41) (n := 11) rfl rfl e42 e43 (by decide) ?_
    refine z_ev_gs 5 (c1 := (99, 48, [some (z_r 0 0), some (z_i (x1)), some (z_i (x2)), some (z_j (l3 + (v40.toInt64 * (J37 7 0 k41)))), none, some (z_i (x5 + (1 : Int32)))], [], (true, X35, I36, J37))) rfl ?_
    exact h44
theorem z_q236_e {d : Nat} {r : Option z_V × z_M} {X : z_X} {I : Nat → Nat → Nat → Int32} {J : Nat → Nat → Nat → Int64} (x1 : Int32) (x2 : Int32)
    (h : (((z_bw x1 0 ((I 33 0 8) - 1)) = false → r = (some (z_j (-1000000000000)), (true, X, I, J))) ∧ ((z_bw x1 0 ((I 33 0 8) - 1)) = true → (((z_bw x2 0 1) = false → r = (some (z_j (-1000000000000)), (true, X, I, J))) ∧ ((z_bw x2 0 1) = true → ((¬ (I 33 0 4) = 0 → z_ev (d + 6) (236, 31, [some (z_r 33 0), some (z_i (x1)), some (z_i (x2)), some (z_j 0), none, some (z_i 0)], [], (true, X, I, J)) r) ∧ ((I 33 0 4) = 0 → r = (some (z_j (-1000000000000)), (true, X, I, J))))))))) :
    z_ev (d + 6) (z_en 236 [z_r 33 0, z_i (x1), z_i (x2)] (true, X, I, J)) r := by
  show z_ev (d + 6) (236, 0, [some (z_r 33 0), some (z_i (x1)), some (z_i (x2)), none, none, none], [], (true, X, I, J)) r
  refine z_ev_gs 2 (c1 := (236, 2, [some (z_r 33 0), some (z_i (x1)), some (z_i (x2)), none, none, none], [z_i (x1), z_r 33 0], (true, X, I, J))) rfl ?_
  refine z_ev_ca rfl rfl (z_p228 _) ?_
  refine z_ev_gs 1 (c1 := (236, (if z_c (z_bw x1 0 ((I 33 0 8) - 1)) = 0 then 22 else 8), [some (z_r 33 0), some (z_i (x1)), some (z_i (x2)), none, none, none], [], (true, X, I, J))) rfl ?_
  refine z_ev_ifc (fun e1 => ?_) (fun e1 => ?_)
  · have h8 := h.1 e1
    refine z_ev_gs 1 (c1 := (236, 25, [some (z_r 33 0), some (z_i (x1)), some (z_i (x2)), none, none, none], [z_j (-1000000000000)], (true, X, I, J))) rfl ?_
    rw [h8]
    exact z_ev_rt rfl
  · have h9 := h.2 e1
    refine z_ev_gs 1 (c1 := (236, 9, [some (z_r 33 0), some (z_i (x1)), some (z_i (x2)), none, none, none], [z_i (x2)], (true, X, I, J))) rfl ?_
    refine z_ev_ca rfl rfl (z_p163 _) ?_
    refine z_ev_gs 1 (c1 := (236, (if z_c (z_bw x2 0 1) = 0 then 22 else 15), [some (z_r 33 0), some (z_i (x1)), some (z_i (x2)), none, none, none], [], (true, X, I, J))) rfl ?_
    refine z_ev_ifc (fun e2 => ?_) (fun e2 => ?_)
    · have h6 := h9.1 e2
      refine z_ev_gs 1 (c1 := (236, 25, [some (z_r 33 0), some (z_i (x1)), some (z_i (x2)), none, none, none], [z_j (-1000000000000)], (true, X, I, J))) rfl ?_
      rw [h6]
      exact z_ev_rt rfl
    · have h7 := h9.2 e2
      refine z_ev_gs 3 (c1 := (236, (if ¬ (I 33 0 4) = 0 then 26 else 22), [some (z_r 33 0), some (z_i (x1)), some (z_i (x2)), none, none, none], [], (true, X, I, J))) rfl ?_
      refine z_ev_ifn (fun e3 => ?_) (fun e3 => ?_)
      · have h4 := h7.1 e3
        refine z_ev_gs 4 (c1 := (236, 31, [some (z_r 33 0), some (z_i (x1)), some (z_i (x2)), some (z_j 0), none, some (z_i 0)], [], (true, X, I, J))) rfl ?_
        exact h4
      · have h5 := h7.2 e3
        refine z_ev_gs 1 (c1 := (236, 25, [some (z_r 33 0), some (z_i (x1)), some (z_i (x2)), none, none, none], [z_j (-1000000000000)], (true, X, I, J))) rfl ?_
        rw [h5]
        exact z_ev_rt rfl
theorem z_q236_31 {d : Nat} {r : Option z_V × z_M} {X : z_X} {I : Nat → Nat → Nat → Int32} {J : Nat → Nat → Nat → Int64} (x1 : Int32) (x2 : Int32) (l3 : Int64) (x5 : Int32)
    (h : (((4 : Int32) ≤ x5 → (∃ (v16 : Int64) (X11 : z_X) (I12 : Nat → Nat → Nat → Int32) (J13 : Nat → Nat → Nat → Int64), z_ev (d + 5) (z_en 217 [z_r 33 0, z_i 3] (true, X, I, J)) (some (z_j (v16)), (true, X11, I12, J13)) ∧ (∃ (X17 : z_X) (I18 : Nat → Nat → Nat → Int32) (J19 : Nat → Nat → Nat → Int64), z_ev (d + 5) (z_en 198 [z_r 33 0, z_j (l3), z_j ((3 : Int64) * v16)] (true, X11, I12, J13)) (none, (true, X17, I18, J19)) ∧ (∃ (v27 : Int64) (X22 : z_X) (I23 : Nat → Nat → Nat → Int32) (J24 : Nat → Nat → Nat → Int64), z_ev (d + 5) (z_en 199 [z_r 33 0, z_i (x2)] (true, X17, I18, J19)) (some (z_j (v27)), (true, X22, I23, J24)) ∧ r = (some (z_j (v27)), (true, X22, I23, J24)))))) ∧ (x5 < (4 : Int32) → (∃ (v33 : Int32) (X28 : z_X) (I29 : Nat → Nat → Nat → Int32) (J30 : Nat → Nat → Nat → Int64), z_ev (d + 5) (z_en 233 [z_r 33 0, z_i (x1), z_i (x5)] (true, X, I, J)) (some (z_i (v33)), (true, X28, I29, J30)) ∧ (∃ k34 : Nat, ((33 : Int32) + x5) = Int32.ofNat k34 ∧ k34 < 55 ∧ (∃ (v43 : Int64) (X38 : z_X) (I39 : Nat → Nat → Nat → Int32) (J40 : Nat → Nat → Nat → Int64), z_ev (d + 5) (z_en 216 [z_r 33 0, z_i 3, z_i (I29 41 0 k34)] (true, X28, I29, J30)) (some (z_j (v43)), (true, X38, I39, J40)) ∧ z_ev (d + 6) (236, 31, [some (z_r 33 0), some (z_i (x1)), some (z_i (x2)), some (z_j (l3 + (v33.toInt64 * v43))), none, some (z_i (x5 + (1 : Int32)))], [], (true, X38, I39, J40)) r)))))) :
    z_ev (d + 6) ((236, 31, [some (z_r 33 0), some (z_i (x1)), some (z_i (x2)), some (z_j (l3)), none, some (z_i (x5))], [], (true, X, I, J))) r := by
  refine z_ev_gs 3 (c1 := (236, (if (4 : Int32) ≤ x5 then 70 else 37), [some (z_r 33 0), some (z_i (x1)), some (z_i (x2)), some (z_j (l3)), none, some (z_i (x5))], [], (true, X, I, J))) rfl ?_
  refine z_ev_ifle (fun e10 => ?_) (fun e10 => ?_)
  · have h44 := h.1 e10
    refine z_ev_gs 5 (c1 := (236, 77, [some (z_r 33 0), some (z_i (x1)), some (z_i (x2)), some (z_j (l3)), none, some (z_i (x5))], [z_i 3, z_r 33 0, z_j 3, z_j (l3), z_r 33 0], (true, X, I, J))) rfl ?_
    obtain ⟨v16, X11, I12, J13, g14, h15⟩ := h44
    refine z_ev_ca rfl rfl g14 ?_
    refine z_ev_gs 1 (c1 := (236, 81, [some (z_r 33 0), some (z_i (x1)), some (z_i (x2)), some (z_j (l3)), none, some (z_i (x5))], [z_j ((3 : Int64) * v16), z_j (l3), z_r 33 0], (true, X11, I12, J13))) rfl ?_
    obtain ⟨X17, I18, J19, g20, h21⟩ := h15
    refine z_ev_ca rfl rfl g20 ?_
    refine z_ev_gs 2 (c1 := (236, 86, [some (z_r 33 0), some (z_i (x1)), some (z_i (x2)), some (z_j (l3)), none, some (z_i (x5))], [z_i (x2), z_r 33 0], (true, X17, I18, J19))) rfl ?_
    obtain ⟨v27, X22, I23, J24, g25, h26⟩ := h21
    refine z_ev_ca rfl rfl g25 ?_
    rw [h26]
    exact z_ev_rt rfl
  · have h45 := h.2 e10
    refine z_ev_gs 4 (c1 := (236, 42, [some (z_r 33 0), some (z_i (x1)), some (z_i (x2)), some (z_j (l3)), none, some (z_i (x5))], [z_i (x5), z_i (x1), z_r 33 0, z_j (l3)], (true, X, I, J))) rfl ?_
    obtain ⟨v33, X28, I29, J30, g31, h32⟩ := h45
    refine z_ev_ca rfl rfl g31 ?_
    refine z_ev_gs 8 (c1 := (236, 57, [some (z_r 33 0), some (z_i (x1)), some (z_i (x2)), some (z_j (l3)), none, some (z_i (x5))], [z_i ((33 : Int32) + x5), z_r 41 0, z_i 3, z_r 33 0, z_j (v33.toInt64), z_j (l3)], (true, X28, I29, J30))) rfl ?_
    obtain ⟨k34, e35, e36, h37⟩ := h32
    refine z_ev_iald (t := 41) (i := 0) (k := k34) (n := 55) rfl rfl e35 e36 (by decide) ?_
    obtain ⟨v43, X38, I39, J40, g41, h42⟩ := h37
    refine z_ev_ca rfl rfl g41 ?_
    refine z_ev_gs 5 (c1 := (236, 31, [some (z_r 33 0), some (z_i (x1)), some (z_i (x2)), some (z_j (l3 + (v33.toInt64 * v43))), none, some (z_i (x5 + (1 : Int32)))], [], (true, X38, I39, J40))) rfl ?_
    exact h42
theorem z_q103_e {d : Nat} {r : Option z_V × z_M} {X : z_X} {I : Nat → Nat → Nat → Int32} {J : Nat → Nat → Nat → Int64} (x1 : Int32) (x2 : Int32)
    (h : (∃ (b6 : Bool) (X1 : z_X) (I2 : Nat → Nat → Nat → Int32) (J3 : Nat → Nat → Nat → Int64), z_ev (d + 28) (z_en 129 [z_i (x1), z_i (x2)] (true, X, I, J)) (some (z_i (z_c b6)), (true, X1, I2, J3)) ∧ ((b6 = false → r = (some (z_i (-1)), (true, X1, I2, J3))) ∧ (b6 = true → (∃ (v13 : Int32) (X8 : z_X) (I9 : Nat → Nat → Nat → Int32) (J10 : Nat → Nat → Nat → Int64), z_ev (d + 28) (z_en 128 [z_i (x1), z_i (x2)] (true, X1, I2, J3)) (some (z_i (v13)), (true, X8, I9, J10)) ∧ ((0 ≤ v13 → (∃ (v20 : Int32) (X15 : z_X) (I16 : Nat → Nat → Nat → Int32) (J17 : Nat → Nat → Nat → Int64), z_ev (d + 28) (z_en 139 [z_r 0 0, z_i 3] (true, X8, I9, J10)) (some (z_i (v20)), (true, X15, I16, J17)) ∧ ((v20 = 0 → r = (some (z_i (-3)), (true, X15, I16, J17))) ∧ (¬ v20 = 0 → ((¬ (I16 4 0 2) = 0 → (∃ (b28 : Bool) (X23 : z_X) (I24 : Nat → Nat → Nat → Int32) (J25 : Nat → Nat → Nat → Int64), z_ev (d + 28) (z_en 144 [z_r 0 0] (true, X15, I16, J17)) (some (z_i (z_c b28)), (true, X23, I24, J25)) ∧ ((b28 = true → (∃ (X30 : z_X) (I31 : Nat → Nat → Nat → Int32) (J32 : Nat → Nat → Nat → Int64), z_ev (d + 28) (z_en 12 [z_r 4 0, z_i (x1)] (true, X23, I24, J25)) (none, (true, X30, I31, J32)) ∧ (∃ (v40 : Int32) (X35 : z_X) (I36 : Nat → Nat → Nat → Int32) (J37 : Nat → Nat → Nat → Int64), z_ev (d + 28) (z_en 153 [z_r 0 0, z_i (x1), z_i (x2), z_i (v20)] (true, X30, I31, J32)) (some (z_i (v40)), (true, X35, I36, J37)) ∧ (∃ k41 : Nat, v13 = Int32.ofNat k41 ∧ k41 < 11 ∧ (∃ (v50 : Int64) (X45 : z_X) (I46 : Nat → Nat → Nat → Int32) (J47 : Nat → Nat → Nat → Int64), z_ev (d + 28) (z_en 11 [z_r 4 0, z_i (x1)] (true, X35, I36, J37)) (some (z_j (v50)), (true, X45, I46, J47)) ∧ ((¬ (lg_cmp ((J37 7 0 k41) * (36 : Int64)) (v40.toInt64 * v50)) = 0 → r = (some (z_i 0), (true, X45, I46, J47))) ∧ ((lg_cmp ((J37 7 0 k41) * (36 : Int64)) (v40.toInt64 * v50)) = 0 → r = (some (z_i 1), (true, X45, I46, J47))))))))) ∧ (b28 = false → r = (some (z_i 0), (true, X23, I24, J25)))))) ∧ ((I16 4 0 2) = 0 → r = (some (z_i (-3)), (true, X15, I16, J17)))))))) ∧ (v13 < 0 → r = (some (z_i (-1)), (true, X8, I9, J10))))))))) :
    z_ev (d + 29) (z_en 103 [z_r 0 0, z_i (x1), z_i (x2)] (true, X, I, J)) r := by
  show z_ev (d + 29) (103, 0, [some (z_r 0 0), some (z_i (x1)), some (z_i (x2)), none, none, none, none], [], (true, X, I, J)) r
  refine z_ev_gs 2 (c1 := (103, 2, [some (z_r 0 0), some (z_i (x1)), some (z_i (x2)), none, none, none, none], [z_i (x2), z_i (x1)], (true, X, I, J))) rfl ?_
  obtain ⟨b6, X1, I2, J3, g4, h5⟩ := h
  refine z_ev_ca rfl rfl g4 ?_
  refine z_ev_gs 1 (c1 := (103, (if z_c b6 = 0 then 16 else 8), [some (z_r 0 0), some (z_i (x1)), some (z_i (x2)), none, none, none, none], [], (true, X1, I2, J3))) rfl ?_
  refine z_ev_ifc (fun e7 => ?_) (fun e7 => ?_)
  · have h62 := h5.1 e7
    refine z_ev_gs 4 (c1 := (103, 22, [some (z_r 0 0), some (z_i (x1)), some (z_i (x2)), some (z_i (-1)), none, none, none], [], (true, X1, I2, J3))) rfl ?_
    refine z_ev_gs 1 (c1 := (103, 23, [some (z_r 0 0), some (z_i (x1)), some (z_i (x2)), some (z_i (-1)), none, none, none], [z_i (-1)], (true, X1, I2, J3))) rfl ?_
    rw [h62]
    exact z_ev_rt rfl
  · have h63 := h5.2 e7
    refine z_ev_gs 2 (c1 := (103, 10, [some (z_r 0 0), some (z_i (x1)), some (z_i (x2)), none, none, none, none], [z_i (x2), z_i (x1)], (true, X1, I2, J3))) rfl ?_
    obtain ⟨v13, X8, I9, J10, g11, h12⟩ := h63
    refine z_ev_ca rfl rfl g11 ?_
    refine z_ev_gs 4 (c1 := (103, (if 0 ≤ v13 then 24 else 22), [some (z_r 0 0), some (z_i (x1)), some (z_i (x2)), some (z_i (v13)), none, none, none], [], (true, X8, I9, J10))) rfl ?_
    refine z_ev_ifle (fun e14 => ?_) (fun e14 => ?_)
    · have h60 := h12.1 e14
      refine z_ev_gs 2 (c1 := (103, 26, [some (z_r 0 0), some (z_i (x1)), some (z_i (x2)), some (z_i (v13)), none, none, none], [z_i 3, z_r 0 0], (true, X8, I9, J10))) rfl ?_
      obtain ⟨v20, X15, I16, J17, g18, h19⟩ := h60
      refine z_ev_ca rfl rfl g18 ?_
      refine z_ev_gs 3 (c1 := (103, (if v20 = 0 then 49 else 36), [some (z_r 0 0), some (z_i (x1)), some (z_i (x2)), some (z_i (v13)), some (z_i (v20)), none, none], [], (true, X15, I16, J17))) rfl ?_
      refine z_ev_if (fun e21 => ?_) (fun e21 => ?_)
      · have h58 := h19.1 e21
        refine z_ev_gs 1 (c1 := (103, 51, [some (z_r 0 0), some (z_i (x1)), some (z_i (x2)), some (z_i (v13)), some (z_i (v20)), none, none], [z_i (-3)], (true, X15, I16, J17))) rfl ?_
        rw [h58]
        exact z_ev_rt rfl
      · have h59 := h19.2 e21
        refine z_ev_gs 5 (c1 := (103, (if ¬ (I16 4 0 2) = 0 then 52 else 49), [some (z_r 0 0), some (z_i (x1)), some (z_i (x2)), some (z_i (v13)), some (z_i (v20)), none, none], [], (true, X15, I16, J17))) rfl ?_
        refine z_ev_ifn (fun e22 => ?_) (fun e22 => ?_)
        · have h56 := h59.1 e22
          refine z_ev_gs 1 (c1 := (103, 53, [some (z_r 0 0), some (z_i (x1)), some (z_i (x2)), some (z_i (v13)), some (z_i (v20)), none, none], [z_r 0 0], (true, X15, I16, J17))) rfl ?_
          obtain ⟨b28, X23, I24, J25, g26, h27⟩ := h56
          refine z_ev_ca rfl rfl g26 ?_
          refine z_ev_gs 1 (c1 := (103, (if ¬ z_c b28 = 0 then 61 else 59), [some (z_r 0 0), some (z_i (x1)), some (z_i (x2)), some (z_i (v13)), some (z_i (v20)), none, none], [], (true, X23, I24, J25))) rfl ?_
          refine z_ev_ifcn (fun e29 => ?_) (fun e29 => ?_)
          · have h54 := h27.1 e29
            refine z_ev_gs 4 (c1 := (103, 69, [some (z_r 0 0), some (z_i (x1)), some (z_i (x2)), some (z_i (v13)), some (z_i (v20)), none, none], [z_i (x1), z_r 4 0], (true, X23, I24, J25))) rfl ?_
            obtain ⟨X30, I31, J32, g33, h34⟩ := h54
            refine z_ev_ca rfl rfl g33 ?_
            refine z_ev_gs 4 (c1 := (103, 77, [some (z_r 0 0), some (z_i (x1)), some (z_i (x2)), some (z_i (v13)), some (z_i (v20)), none, none], [z_i (v20), z_i (x2), z_i (x1), z_r 0 0], (true, X30, I31, J32))) rfl ?_
            obtain ⟨v40, X35, I36, J37, g38, h39⟩ := h34
            refine z_ev_ca rfl rfl g38 ?_
            refine z_ev_gs 7 (c1 := (103, 94, [some (z_r 0 0), some (z_i (x1)), some (z_i (x2)), some (z_i (v13)), some (z_i (v20)), some (z_j (v40.toInt64)), none], [z_i (v13), z_r 7 0], (true, X35, I36, J37))) rfl ?_
            obtain ⟨k41, e42, e43, h44⟩ := h39
            refine z_ev_lald (t := 7) (i := 0) (k := k41) (n := 11) rfl rfl e42 e43 (by decide) ?_
            refine z_ev_gs 7 (c1 := (103, 109, [some (z_r 0 0), some (z_i (x1)), some (z_i (x2)), some (z_i (v13)), some (z_i (v20)), some (z_j (v40.toInt64)), none], [z_i (x1), z_r 4 0, z_j (v40.toInt64), z_j ((J37 7 0 k41) * (36 : Int64))], (true, X35, I36, J37))) rfl ?_
            obtain ⟨v50, X45, I46, J47, g48, h49⟩ := h44
            refine z_ev_ca rfl rfl g48 ?_
            refine z_ev_gs 3 (c1 := (103, (if ¬ (lg_cmp ((J37 7 0 k41) * (36 : Int64)) (v40.toInt64 * v50)) = 0 then 121 else 117), [some (z_r 0 0), some (z_i (x1)), some (z_i (x2)), some (z_i (v13)), some (z_i (v20)), some (z_j (v40.toInt64)), none], [], (true, X45, I46, J47))) rfl ?_
            refine z_ev_ifn (fun e51 => ?_) (fun e51 => ?_)
            · have h52 := h49.1 e51
              refine z_ev_gs 1 (c1 := (103, 122, [some (z_r 0 0), some (z_i (x1)), some (z_i (x2)), some (z_i (v13)), some (z_i (v20)), some (z_j (v40.toInt64)), none], [z_i 0], (true, X45, I46, J47))) rfl ?_
              rw [h52]
              exact z_ev_rt rfl
            · have h53 := h49.2 e51
              refine z_ev_gs 2 (c1 := (103, 122, [some (z_r 0 0), some (z_i (x1)), some (z_i (x2)), some (z_i (v13)), some (z_i (v20)), some (z_j (v40.toInt64)), none], [z_i 1], (true, X45, I46, J47))) rfl ?_
              rw [h53]
              exact z_ev_rt rfl
          · have h55 := h27.2 e29
            refine z_ev_gs 1 (c1 := (103, 60, [some (z_r 0 0), some (z_i (x1)), some (z_i (x2)), some (z_i (v13)), some (z_i (v20)), none, none], [z_i 0], (true, X23, I24, J25))) rfl ?_
            rw [h55]
            exact z_ev_rt rfl
        · have h57 := h59.2 e22
          refine z_ev_gs 1 (c1 := (103, 51, [some (z_r 0 0), some (z_i (x1)), some (z_i (x2)), some (z_i (v13)), some (z_i (v20)), none, none], [z_i (-3)], (true, X15, I16, J17))) rfl ?_
          rw [h57]
          exact z_ev_rt rfl
    · have h61 := h12.2 e14
      refine z_ev_gs 1 (c1 := (103, 23, [some (z_r 0 0), some (z_i (x1)), some (z_i (x2)), some (z_i (v13)), none, none, none], [z_i (-1)], (true, X8, I9, J10))) rfl ?_
      rw [h61]
      exact z_ev_rt rfl
theorem z_q242_e {d : Nat} {r : Option z_V × z_M} {X : z_X} {I : Nat → Nat → Nat → Int32} {J : Nat → Nat → Nat → Int64} (x1 : Int32) (x2 : Int32)
    (h : (∃ (b6 : Bool) (X1 : z_X) (I2 : Nat → Nat → Nat → Int32) (J3 : Nat → Nat → Nat → Int64), z_ev (d + 6) (z_en 238 [z_r 33 0, z_i (x1), z_i (x2)] (true, X, I, J)) (some (z_i (z_c b6)), (true, X1, I2, J3)) ∧ ((b6 = true → (∃ (b13 : Bool) (X8 : z_X) (I9 : Nat → Nat → Nat → Int32) (J10 : Nat → Nat → Nat → Int64), z_ev (d + 6) (z_en 237 [z_r 33 0, z_i (x1), z_i (x2)] (true, X1, I2, J3)) (some (z_i (z_c b13)), (true, X8, I9, J10)) ∧ ((b13 = false → r = (some (z_i (-3)), (true, X8, I9, J10))) ∧ (b13 = true → ((¬ (I9 33 0 4) = 0 → (∃ (b21 : Bool) (X16 : z_X) (I17 : Nat → Nat → Nat → Int32) (J18 : Nat → Nat → Nat → Int64), z_ev (d + 6) (z_en 219 [z_r 33 0] (true, X8, I9, J10)) (some (z_i (z_c b21)), (true, X16, I17, J18)) ∧ ((b21 = false → r = (some (z_i 0), (true, X16, I17, J18))) ∧ (b21 = true → (∃ (v28 : Int64) (X23 : z_X) (I24 : Nat → Nat → Nat → Int32) (J25 : Nat → Nat → Nat → Int64), z_ev (d + 6) (z_en 216 [z_r 33 0, z_i (x1), z_i (x2)] (true, X16, I17, J18)) (some (z_j (v28)), (true, X23, I24, J25)) ∧ (∃ (v34 : Int64) (X29 : z_X) (I30 : Nat → Nat → Nat → Int32) (J31 : Nat → Nat → Nat → Int64), z_ev (d + 6) (z_en 217 [z_r 33 0, z_i (x1)] (true, X23, I24, J25)) (some (z_j (v34)), (true, X29, I30, J31)) ∧ ((¬ (lg_cmp ((36 : Int64) * v28) (((I24 33 0 34).toInt64) * v34)) = 0 → r = (some (z_i 0), (true, X29, I30, J31))) ∧ ((lg_cmp ((36 : Int64) * v28) (((I24 33 0 34).toInt64) * v34)) = 0 → r = (some (z_i 1), (true, X29, I30, J31)))))))))) ∧ ((I9 33 0 4) = 0 → r = (some (z_i (-3)), (true, X8, I9, J10)))))))) ∧ (b6 = false → r = (some (z_i (-1)), (true, X1, I2, J3)))))) :
    z_ev (d + 7) (z_en 242 [z_r 33 0, z_i (x1), z_i (x2)] (true, X, I, J)) r := by
  show z_ev (d + 7) (242, 0, [some (z_r 33 0), some (z_i (x1)), some (z_i (x2))], [], (true, X, I, J)) r
  refine z_ev_gs 3 (c1 := (242, 3, [some (z_r 33 0), some (z_i (x1)), some (z_i (x2))], [z_i (x2), z_i (x1), z_r 33 0], (true, X, I, J))) rfl ?_
  obtain ⟨b6, X1, I2, J3, g4, h5⟩ := h
  refine z_ev_ca rfl rfl g4 ?_
  refine z_ev_gs 1 (c1 := (242, (if ¬ z_c b6 = 0 then 11 else 9), [some (z_r 33 0), some (z_i (x1)), some (z_i (x2))], [], (true, X1, I2, J3))) rfl ?_
  refine z_ev_ifcn (fun e7 => ?_) (fun e7 => ?_)
  · have h44 := h5.1 e7
    refine z_ev_gs 3 (c1 := (242, 14, [some (z_r 33 0), some (z_i (x1)), some (z_i (x2))], [z_i (x2), z_i (x1), z_r 33 0], (true, X1, I2, J3))) rfl ?_
    obtain ⟨b13, X8, I9, J10, g11, h12⟩ := h44
    refine z_ev_ca rfl rfl g11 ?_
    refine z_ev_gs 1 (c1 := (242, (if z_c b13 = 0 then 27 else 20), [some (z_r 33 0), some (z_i (x1)), some (z_i (x2))], [], (true, X8, I9, J10))) rfl ?_
    refine z_ev_ifc (fun e14 => ?_) (fun e14 => ?_)
    · have h42 := h12.1 e14
      refine z_ev_gs 1 (c1 := (242, 29, [some (z_r 33 0), some (z_i (x1)), some (z_i (x2))], [z_i (-3)], (true, X8, I9, J10))) rfl ?_
      rw [h42]
      exact z_ev_rt rfl
    · have h43 := h12.2 e14
      refine z_ev_gs 3 (c1 := (242, (if ¬ (I9 33 0 4) = 0 then 30 else 27), [some (z_r 33 0), some (z_i (x1)), some (z_i (x2))], [], (true, X8, I9, J10))) rfl ?_
      refine z_ev_ifn (fun e15 => ?_) (fun e15 => ?_)
      · have h40 := h43.1 e15
        refine z_ev_gs 1 (c1 := (242, 31, [some (z_r 33 0), some (z_i (x1)), some (z_i (x2))], [z_r 33 0], (true, X8, I9, J10))) rfl ?_
        obtain ⟨b21, X16, I17, J18, g19, h20⟩ := h40
        refine z_ev_ca rfl rfl g19 ?_
        refine z_ev_gs 1 (c1 := (242, (if z_c b21 = 0 then 66 else 37), [some (z_r 33 0), some (z_i (x1)), some (z_i (x2))], [], (true, X16, I17, J18))) rfl ?_
        refine z_ev_ifc (fun e22 => ?_) (fun e22 => ?_)
        · have h38 := h20.1 e22
          refine z_ev_gs 1 (c1 := (242, 67, [some (z_r 33 0), some (z_i (x1)), some (z_i (x2))], [z_i 0], (true, X16, I17, J18))) rfl ?_
          rw [h38]
          exact z_ev_rt rfl
        · have h39 := h20.2 e22
          refine z_ev_gs 4 (c1 := (242, 43, [some (z_r 33 0), some (z_i (x1)), some (z_i (x2))], [z_i (x2), z_i (x1), z_r 33 0, z_j 36], (true, X16, I17, J18))) rfl ?_
          obtain ⟨v28, X23, I24, J25, g26, h27⟩ := h39
          refine z_ev_ca rfl rfl g26 ?_
          refine z_ev_gs 6 (c1 := (242, 54, [some (z_r 33 0), some (z_i (x1)), some (z_i (x2))], [z_i (x1), z_r 33 0, z_j ((I24 33 0 34).toInt64), z_j ((36 : Int64) * v28)], (true, X23, I24, J25))) rfl ?_
          obtain ⟨v34, X29, I30, J31, g32, h33⟩ := h27
          refine z_ev_ca rfl rfl g32 ?_
          refine z_ev_gs 3 (c1 := (242, (if ¬ (lg_cmp ((36 : Int64) * v28) (((I24 33 0 34).toInt64) * v34)) = 0 then 66 else 62), [some (z_r 33 0), some (z_i (x1)), some (z_i (x2))], [], (true, X29, I30, J31))) rfl ?_
          refine z_ev_ifn (fun e35 => ?_) (fun e35 => ?_)
          · have h36 := h33.1 e35
            refine z_ev_gs 1 (c1 := (242, 67, [some (z_r 33 0), some (z_i (x1)), some (z_i (x2))], [z_i 0], (true, X29, I30, J31))) rfl ?_
            rw [h36]
            exact z_ev_rt rfl
          · have h37 := h33.2 e35
            refine z_ev_gs 2 (c1 := (242, 67, [some (z_r 33 0), some (z_i (x1)), some (z_i (x2))], [z_i 1], (true, X29, I30, J31))) rfl ?_
            rw [h37]
            exact z_ev_rt rfl
      · have h41 := h43.2 e15
        refine z_ev_gs 1 (c1 := (242, 29, [some (z_r 33 0), some (z_i (x1)), some (z_i (x2))], [z_i (-3)], (true, X8, I9, J10))) rfl ?_
        rw [h41]
        exact z_ev_rt rfl
  · have h45 := h5.2 e7
    refine z_ev_gs 1 (c1 := (242, 10, [some (z_r 33 0), some (z_i (x1)), some (z_i (x2))], [z_i (-1)], (true, X1, I2, J3))) rfl ?_
    rw [h45]
    exact z_ev_rt rfl
