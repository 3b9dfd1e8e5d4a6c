/-! segments: rows, mixed, taken, forms by place, shares made; printed by wip/whole/emit_seg.py -/
theorem z_q24_e {d : Nat} {r : Option z_V × z_M} {X : z_X} {I : Nat → Nat → Nat → Int32} {J : Nat → Nat → Nat → Int64} (q0 : Nat) (hq0 : q0 < 10) (x1 : Int32) (x2 : Int32)
    (h : z_ev (d + 1) (24, 2, [some (z_r 13 q0), some (z_i (x1)), some (z_i (x2)), some (z_i 0)], [], (true, X, I, J)) r) :
    z_ev (d + 1) (z_en 24 [z_r 13 q0, z_i (x1), z_i (x2)] (true, X, I, J)) r := by
  show z_ev (d + 1) (24, 0, [some (z_r 13 q0), some (z_i (x1)), some (z_i (x2)), none], [], (true, X, I, J)) r
  refine z_ev_gs 2 (c1 := (24, 2, [some (z_r 13 q0), some (z_i (x1)), some (z_i (x2)), some (z_i 0)], [], (true, X, I, J))) rfl ?_
  exact h
theorem z_q24_2 {d : Nat} {r : Option z_V × z_M} {X : z_X} {I : Nat → Nat → Nat → Int32} {J : Nat → Nat → Nat → Int64} (q0 : Nat) (hq0 : q0 < 10) (x1 : Int32) (x2 : Int32) (x3 : Int32)
    (h : ((x1 ≤ x3 → r = (none, (true, X, I, J))) ∧ (x3 < x1 → ((((x2 >>> (x3 &&& 31)) &&& (1 : Int32)) = 0 → (∃ (X3 : z_X) (I4 : Nat → Nat → Nat → Int32) (J5 : Nat → Nat → Nat → Int64), z_ev d (z_en 23 [z_r 13 q0, z_i (x3), z_i (x1), z_i 0] (true, X, I, J)) (none, (true, X3, I4, J5)) ∧ z_ev (d + 1) (24, 2, [some (z_r 13 q0), some (z_i (x1)), some (z_i (x2)), some (z_i (x3 + (1 : Int32)))], [], (true, X3, I4, J5)) r)) ∧ (¬ ((x2 >>> (x3 &&& 31)) &&& (1 : Int32)) = 0 → (∃ (X8 : z_X) (I9 : Nat → Nat → Nat → Int32) (J10 : Nat → Nat → Nat → Int64), z_ev d (z_en 23 [z_r 13 q0, z_i (x3), z_i (x1), z_i 1] (true, X, I, J)) (none, (true, X8, I9, J10)) ∧ z_ev (d + 1) (24, 2, [some (z_r 13 q0), some (z_i (x1)), some (z_i (x2)), some (z_i (x3 + (1 : Int32)))], [], (true, X8, I9, J10)) r)))))) :
    z_ev (d + 1) ((24, 2, [some (z_r 13 q0), some (z_i (x1)), some (z_i (x2)), some (z_i (x3))], [], (true, X, I, J))) r := by
  refine z_ev_gs 3 (c1 := (24, (if x1 ≤ x3 then 32 else 7), [some (z_r 13 q0), some (z_i (x1)), some (z_i (x2)), some (z_i (x3))], [], (true, X, I, J))) rfl ?_
  refine z_ev_ifle (fun e1 => ?_) (fun e1 => ?_)
  · have h15 := h.1 e1
    rw [h15]
    exact z_ev_rt rfl
  · have h16 := h.2 e1
    refine z_ev_gs 9 (c1 := (24, (if ((x2 >>> (x3 &&& 31)) &&& (1 : Int32)) = 0 then 22 else 18), [some (z_r 13 q0), some (z_i (x1)), some (z_i (x2)), some (z_i (x3))], [z_i (x1), z_i (x3), z_r 13 q0], (true, X, I, J))) rfl ?_
    refine z_ev_if (fun e2 => ?_) (fun e2 => ?_)
    · have h13 := h16.1 e2
      refine z_ev_gs 1 (c1 := (24, 23, [some (z_r 13 q0), some (z_i (x1)), some (z_i (x2)), some (z_i (x3))], [z_i 0, z_i (x1), z_i (x3), z_r 13 q0], (true, X, I, J))) rfl ?_
      obtain ⟨X3, I4, J5, g6, h7⟩ := h13
      refine z_ev_cg rfl hq0 rfl g6 ?_
      refine z_ev_gs 2 (c1 := (24, 2, [some (z_r 13 q0), some (z_i (x1)), some (z_i (x2)), some (z_i (x3 + (1 : Int32)))], [], (true, X3, I4, J5))) rfl ?_
      exact h7
    · have h14 := h16.2 e2
      refine z_ev_gs 2 (c1 := (24, 23, [some (z_r 13 q0), some (z_i (x1)), some (z_i (x2)), some (z_i (x3))], [z_i 1, z_i (x1), z_i (x3), z_r 13 q0], (true, X, I, J))) rfl ?_
      obtain ⟨X8, I9, J10, g11, h12⟩ := h14
      refine z_ev_cg rfl hq0 rfl g11 ?_
      refine z_ev_gs 2 (c1 := (24, 2, [some (z_r 13 q0), some (z_i (x1)), some (z_i (x2)), some (z_i (x3 + (1 : Int32)))], [], (true, X8, I9, J10))) rfl ?_
      exact h12
theorem z_q72_e {d : Nat} {r : Option z_V × z_M} {X : z_X} {I : Nat → Nat → Nat → Int32} {J : Nat → Nat → Nat → Int64} (x1 : Int32) (x2 : Int32)
    (h : (((z_bw x1 0 3) = false → r = (some (z_i (-1)), (true, X, I, J))) ∧ ((z_bw x1 0 3) = true → (((z_bw x2 0 3) = true → (∃ k3 : Nat, x2 = Int32.ofNat k3 ∧ k3 < 4 ∧ ((¬ (I 30 k3 1) = (-1 : Int32) → (((I 30 k3 1) = (2 : Int32) → (∃ k9 : Nat, x1 = Int32.ofNat k9 ∧ k9 < 4 ∧ (∃ (X13 : z_X) (I14 : Nat → Nat → Nat → Int32) (J15 : Nat → Nat → Nat → Int64), z_ev (d + 1) (z_en 19 [z_r 13 k9, z_i (I 13 k9 1)] (true, X, I, J)) (none, (true, X13, I14, J15)) ∧ z_ev (d + 2) (72, 69, [some (z_r 0 0), some (z_i (x1)), some (z_i (x2)), some (z_r 30 k3), some (z_r 13 k9), some (z_i 0)], [], (true, X13, I14, J15)) r))) ∧ (¬ (I 30 k3 1) = (2 : Int32) → r = (some (z_i (-13)), (true, X, I, J))))) ∧ ((I 30 k3 1) = (-1 : Int32) → r = (some (z_i (-11)), (true, X, I, J)))))) ∧ ((z_bw x2 0 3) = false → r = (some (z_i (-1)), (true, X, I, J))))))) :
    z_ev (d + 2) (z_en 72 [z_r 0 0, z_i (x1), z_i (x2)] (true, X, I, J)) r := by
  show z_ev (d + 2) (72, 0, [some (z_r 0 0), some (z_i (x1)), some (z_i (x2)), none, none, none], [], (true, X, I, J)) r
  refine z_ev_gs 1 (c1 := (72, 1, [some (z_r 0 0), some (z_i (x1)), some (z_i (x2)), none, none, none], [z_i (x1)], (true, X, I, J))) rfl ?_
  refine z_ev_ca rfl rfl (z_p118 _) ?_
  refine z_ev_gs 1 (c1 := (72, (if z_c (z_bw x1 0 3) = 0 then 14 else 7), [some (z_r 0 0), some (z_i (x1)), some (z_i (x2)), none, none, none], [], (true, X, I, J))) rfl ?_
  refine z_ev_ifc (fun e1 => ?_) (fun e1 => ?_)
  · have h24 := h.1 e1
    refine z_ev_gs 1 (c1 := (72, 15, [some (z_r 0 0), some (z_i (x1)), some (z_i (x2)), none, none, none], [z_i (-1)], (true, X, I, J))) rfl ?_
    rw [h24]
    exact z_ev_rt rfl
  · have h25 := h.2 e1
    refine z_ev_gs 1 (c1 := (72, 8, [some (z_r 0 0), some (z_i (x1)), some (z_i (x2)), none, none, none], [z_i (x2)], (true, X, I, J))) rfl ?_
    refine z_ev_ca rfl rfl (z_p122 _) ?_
    refine z_ev_gs 1 (c1 := (72, (if ¬ z_c (z_bw x2 0 3) = 0 then 16 else 14), [some (z_r 0 0), some (z_i (x1)), some (z_i (x2)), none, none, none], [], (true, X, I, J))) rfl ?_
    refine z_ev_ifcn (fun e2 => ?_) (fun e2 => ?_)
    · have h22 := h25.1 e2
      refine z_ev_gs 3 (c1 := (72, 21, [some (z_r 0 0), some (z_i (x1)), some (z_i (x2)), none, none, none], [z_i (x2), z_r 21 0], (true, X, I, J))) rfl ?_
      obtain ⟨k3, e4, e5, h6⟩ := h22
      refine z_ev_sh (k := k3) rfl e4 e5 ?_
      refine z_ev_gs 2 (c1 := (72, 24, [some (z_r 0 0), some (z_i (x1)), some (z_i (x2)), some (z_r 30 k3), none, none], [z_r 30 k3], (true, X, I, J))) rfl ?_
      refine z_ev_gi (c1 := (72, 27, [some (z_r 0 0), some (z_i (x1)), some (z_i (x2)), some (z_r 30 k3), none, none], [z_i (I 30 k3 1)], (true, X, I, J))) rfl e5 ?_
      refine z_ev_gs 2 (c1 := (72, (if ¬ (I 30 k3 1) = (-1 : Int32) then 34 else 31), [some (z_r 0 0), some (z_i (x1)), some (z_i (x2)), some (z_r 30 k3), none, none], [], (true, X, I, J))) rfl ?_
      refine z_ev_ifn (fun e7 => ?_) (fun e7 => ?_)
      · have h20 := h6.1 e7
        refine z_ev_gs 1 (c1 := (72, 35, [some (z_r 0 0), some (z_i (x1)), some (z_i (x2)), some (z_r 30 k3), none, none], [z_r 30 k3], (true, X, I, J))) rfl ?_
        refine z_ev_gi (c1 := (72, 38, [some (z_r 0 0), some (z_i (x1)), some (z_i (x2)), some (z_r 30 k3), none, none], [z_i (I 30 k3 1)], (true, X, I, J))) rfl e5 ?_
        refine z_ev_gs 2 (c1 := (72, (if (I 30 k3 1) = (2 : Int32) then 45 else 42), [some (z_r 0 0), some (z_i (x1)), some (z_i (x2)), some (z_r 30 k3), none, none], [], (true, X, I, J))) rfl ?_
        refine z_ev_if (fun e8 => ?_) (fun e8 => ?_)
        · have h18 := h20.1 e8
          refine z_ev_gs 4 (c1 := (72, 53, [some (z_r 0 0), some (z_i (x1)), some (z_i (x2)), some (z_r 30 k3), none, none], [z_i (x1), z_r 2 0], (true, X, I, J))) rfl ?_
          obtain ⟨k9, e10, e11, h12⟩ := h18
          refine z_ev_nt0 (k := k9) rfl e10 e11 ?_
          refine z_ev_gs 3 (c1 := (72, 60, [some (z_r 0 0), some (z_i (x1)), some (z_i (x2)), some (z_r 30 k3), some (z_r 13 k9), none], [z_r 13 k9, z_r 13 k9], (true, X, I, J))) rfl ?_
          refine z_ev_gi (c1 := (72, 63, [some (z_r 0 0), some (z_i (x1)), some (z_i (x2)), some (z_r 30 k3), some (z_r 13 k9), none], [z_i (I 13 k9 1), z_r 13 k9], (true, X, I, J))) rfl (z_lt40 e11) ?_
          obtain ⟨X13, I14, J15, g16, h17⟩ := h12
          refine z_ev_cg rfl (z_lt40 e11) rfl g16 ?_
          refine z_ev_gs 2 (c1 := (72, 69, [some (z_r 0 0), some (z_i (x1)), some (z_i (x2)), some (z_r 30 k3), some (z_r 13 k9), some (z_i 0)], [], (true, X13, I14, J15))) rfl ?_
          exact h17
        · have h19 := h20.2 e8
          refine z_ev_gs 1 (c1 := (72, 44, [some (z_r 0 0), some (z_i (x1)), some (z_i (x2)), some (z_r 30 k3), none, none], [z_i (-13)], (true, X, I, J))) rfl ?_
          rw [h19]
          exact z_ev_rt rfl
      · have h21 := h6.2 e7
        refine z_ev_gs 1 (c1 := (72, 33, [some (z_r 0 0), some (z_i (x1)), some (z_i (x2)), some (z_r 30 k3), none, none], [z_i (-11)], (true, X, I, J))) rfl ?_
        rw [h21]
        exact z_ev_rt rfl
    · have h23 := h25.2 e2
      refine z_ev_gs 1 (c1 := (72, 15, [some (z_r 0 0), some (z_i (x1)), some (z_i (x2)), none, none, none], [z_i (-1)], (true, X, I, J))) rfl ?_
      rw [h23]
      exact z_ev_rt rfl
theorem z_q72_69 {d : Nat} {r : Option z_V × z_M} {X : z_X} {I : Nat → Nat → Nat → Int32} {J : Nat → Nat → Nat → Int64} (x1 : Int32) (x2 : Int32) (q3 : Nat) (hq3 : q3 < 4) (q4 : Nat) (hq4 : q4 < 10) (x5 : Int32)
    (h : (((I 13 q4 1) ≤ x5 → (∃ (v32 : Int32) (X27 : z_X) (I28 : Nat → Nat → Nat → Int32) (J29 : Nat → Nat → Nat → Int64), z_ev (d + 1) (z_en 26 [z_r 13 q4] (true, X, I, J)) (some (z_i (v32)), (true, X27, I28, J29)) ∧ r = (some (z_i (v32)), (true, X27, I28, J29)))) ∧ (x5 < (I 13 q4 1) → (((I 30 q3 2) ≤ x5 → (∃ (v39 : Int32) (X34 : z_X) (I35 : Nat → Nat → Nat → Int32) (J36 : Nat → Nat → Nat → Int64), z_ev (d + 1) (z_en 26 [z_r 13 q4] (true, X, I, J)) (some (z_i (v39)), (true, X34, I35, J36)) ∧ r = (some (z_i (v39)), (true, X34, I35, J36)))) ∧ (x5 < (I 30 q3 2) → (∃ k40 : Nat, x5 = Int32.ofNat k40 ∧ k40 < 40 ∧ (∃ (X44 : z_X) (I45 : Nat → Nat → Nat → Int32) (J46 : Nat → Nat → Nat → Int64), z_ev (d + 1) (z_en 24 [z_r 13 q4, z_i (x5), z_i ((J 31 q3 k40).toInt32)] (true, X, I, J)) (none, (true, X44, I45, J46)) ∧ z_ev (d + 2) (72, 69, [some (z_r 0 0), some (z_i (x1)), some (z_i (x2)), some (z_r 30 q3), some (z_r 13 q4), some (z_i (x5 + (1 : Int32)))], [], (true, X44, I45, J46)) r))))))) :
    z_ev (d + 2) ((72, 69, [some (z_r 0 0), some (z_i (x1)), some (z_i (x2)), some (z_r 30 q3), some (z_r 13 q4), some (z_i (x5))], [], (true, X, I, J))) r := by
  refine z_ev_gs 2 (c1 := (72, 73, [some (z_r 0 0), some (z_i (x1)), some (z_i (x2)), some (z_r 30 q3), some (z_r 13 q4), some (z_i (x5))], [z_r 13 q4, z_i (x5)], (true, X, I, J))) rfl ?_
  refine z_ev_gi (c1 := (72, 76, [some (z_r 0 0), some (z_i (x1)), some (z_i (x2)), some (z_r 30 q3), some (z_r 13 q4), some (z_i (x5))], [z_i (I 13 q4 1), z_i (x5)], (true, X, I, J))) rfl hq4 ?_
  refine z_ev_gs 1 (c1 := (72, (if (I 13 q4 1) ≤ x5 then 109 else 79), [some (z_r 0 0), some (z_i (x1)), some (z_i (x2)), some (z_r 30 q3), some (z_r 13 q4), some (z_i (x5))], [], (true, X, I, J))) rfl ?_
  refine z_ev_ifle (fun e26 => ?_) (fun e26 => ?_)
  · have h51 := h.1 e26
    refine z_ev_gs 1 (c1 := (72, 111, [some (z_r 0 0), some (z_i (x1)), some (z_i (x2)), some (z_r 30 q3), some (z_r 13 q4), some (z_i (x5))], [z_r 13 q4], (true, X, I, J))) rfl ?_
    obtain ⟨v32, X27, I28, J29, g30, h31⟩ := h51
    refine z_ev_cg rfl hq4 rfl g30 ?_
    rw [h31]
    exact z_ev_rt rfl
  · have h52 := h.2 e26
    refine z_ev_gs 2 (c1 := (72, 82, [some (z_r 0 0), some (z_i (x1)), some (z_i (x2)), some (z_r 30 q3), some (z_r 13 q4), some (z_i (x5))], [z_r 30 q3, z_i (x5)], (true, X, I, J))) rfl ?_
    refine z_ev_gi (c1 := (72, 85, [some (z_r 0 0), some (z_i (x1)), some (z_i (x2)), some (z_r 30 q3), some (z_r 13 q4), some (z_i (x5))], [z_i (I 30 q3 2), z_i (x5)], (true, X, I, J))) rfl hq3 ?_
    refine z_ev_gs 1 (c1 := (72, (if (I 30 q3 2) ≤ x5 then 109 else 88), [some (z_r 0 0), some (z_i (x1)), some (z_i (x2)), some (z_r 30 q3), some (z_r 13 q4), some (z_i (x5))], [], (true, X, I, J))) rfl ?_
    refine z_ev_ifle (fun e33 => ?_) (fun e33 => ?_)
    · have h49 := h52.1 e33
      refine z_ev_gs 1 (c1 := (72, 111, [some (z_r 0 0), some (z_i (x1)), some (z_i (x2)), some (z_r 30 q3), some (z_r 13 q4), some (z_i (x5))], [z_r 13 q4], (true, X, I, J))) rfl ?_
      obtain ⟨v39, X34, I35, J36, g37, h38⟩ := h49
      refine z_ev_cg rfl hq4 rfl g37 ?_
      rw [h38]
      exact z_ev_rt rfl
    · have h50 := h52.2 e33
      refine z_ev_gs 3 (c1 := (72, 93, [some (z_r 0 0), some (z_i (x1)), some (z_i (x2)), some (z_r 30 q3), some (z_r 13 q4), some (z_i (x5))], [z_r 30 q3, z_i (x5), z_r 13 q4], (true, X, I, J))) rfl ?_
      refine z_ev_gi (c1 := (72, 96, [some (z_r 0 0), some (z_i (x1)), some (z_i (x2)), some (z_r 30 q3), some (z_r 13 q4), some (z_i (x5))], [z_r 31 q3, z_i (x5), z_r 13 q4], (true, X, I, J))) rfl hq3 ?_
      refine z_ev_gs 1 (c1 := (72, 98, [some (z_r 0 0), some (z_i (x1)), some (z_i (x2)), some (z_r 30 q3), some (z_r 13 q4), some (z_i (x5))], [z_i (x5), z_r 31 q3, z_i (x5), z_r 13 q4], (true, X, I, J))) rfl ?_
      obtain ⟨k40, e41, e42, h43⟩ := h50
      refine z_ev_lald (t := 31) (i := q3) (k := k40) (n := 40) rfl (z_gt hq3) e41 e42 (by decide) ?_
      refine z_ev_gs 1 (c1 := (72, 100, [some (z_r 0 0), some (z_i (x1)), some (z_i (x2)), some (z_r 30 q3), some (z_r 13 q4), some (z_i (x5))], [z_i ((J 31 q3 k40).toInt32), z_i (x5), z_r 13 q4], (true, X, I, J))) rfl ?_
      obtain ⟨X44, I45, J46, g47, h48⟩ := h43
      refine z_ev_cg rfl hq4 rfl g47 ?_
      refine z_ev_gs 2 (c1 := (72, 69, [some (z_r 0 0), some (z_i (x1)), some (z_i (x2)), some (z_r 30 q3), some (z_r 13 q4), some (z_i (x5 + (1 : Int32)))], [], (true, X44, I45, J46))) rfl ?_
      exact h48
theorem z_q187_e {d : Nat} {r : Option z_V × z_M} {X : z_X} {I : Nat → Nat → Nat → Int32} {J : Nat → Nat → Nat → Int64} (x1 : Int32) (x2 : Int32)
    (h : (((z_bw x1 0 3) = false → r = (some (z_i (-1)), (true, X, I, J))) ∧ ((z_bw x1 0 3) = true → (((z_bw x2 0 3) = true → (∃ (v78 : Int32) (X73 : z_X) (I74 : Nat → Nat → Nat → Int32) (J75 : Nat → Nat → Nat → Int64), z_ev (d + 1) (z_en 252 [z_r 33 0, z_i (x2), z_i 2] (true, X, I, J)) (some (z_i (v78)), (true, X73, I74, J75)) ∧ ((v78 = 0 → (∃ k80 : Nat, x1 = Int32.ofNat k80 ∧ k80 < 4 ∧ (∃ (X84 : z_X) (I85 : Nat → Nat → Nat → Int32) (J86 : Nat → Nat → Nat → Int64), z_ev (d + 1) (z_en 169 [z_r 33 0, z_i (x1), z_i (I74 34 0 k80)] (true, X73, I74, J75)) (none, (true, X84, I85, J86)) ∧ z_ev (d + 2) (187, 43, [some (z_r 33 0), some (z_i (x1)), some (z_i (x2)), some (z_i (v78)), some (z_i 0), none], [], (true, X84, I85, J86)) r))) ∧ (¬ v78 = 0 → r = (some (z_i (v78)), (true, X73, I74, J75)))))) ∧ ((z_bw x2 0 3) = false → r = (some (z_i (-1)), (true, X, I, J))))))) :
    z_ev (d + 2) (z_en 187 [z_r 33 0, z_i (x1), z_i (x2)] (true, X, I, J)) r := by
  show z_ev (d + 2) (187, 0, [some (z_r 33 0), some (z_i (x1)), some (z_i (x2)), none, none, none], [], (true, X, I, J)) r
  refine z_ev_gs 1 (c1 := (187, 1, [some (z_r 33 0), some (z_i (x1)), some (z_i (x2)), none, none, none], [z_i (x1)], (true, X, I, J))) rfl ?_
  refine z_ev_ca rfl rfl (z_p162 _) ?_
  refine z_ev_gs 1 (c1 := (187, (if z_c (z_bw x1 0 3) = 0 then 14 else 7), [some (z_r 33 0), some (z_i (x1)), some (z_i (x2)), none, none, none], [], (true, X, I, J))) rfl ?_
  refine z_ev_ifc (fun e71 => ?_) (fun e71 => ?_)
  · have h93 := h.1 e71
    refine z_ev_gs 1 (c1 := (187, 15, [some (z_r 33 0), some (z_i (x1)), some (z_i (x2)), none, none, none], [z_i (-1)], (true, X, I, J))) rfl ?_
    rw [h93]
    exact z_ev_rt rfl
  · have h94 := h.2 e71
    refine z_ev_gs 1 (c1 := (187, 8, [some (z_r 33 0), some (z_i (x1)), some (z_i (x2)), none, none, none], [z_i (x2)], (true, X, I, J))) rfl ?_
    refine z_ev_ca rfl rfl (z_p249 _) ?_
    refine z_ev_gs 1 (c1 := (187, (if ¬ z_c (z_bw x2 0 3) = 0 then 16 else 14), [some (z_r 33 0), some (z_i (x1)), some (z_i (x2)), none, none, none], [], (true, X, I, J))) rfl ?_
    refine z_ev_ifcn (fun e72 => ?_) (fun e72 => ?_)
    · have h91 := h94.1 e72
      refine z_ev_gs 3 (c1 := (187, 19, [some (z_r 33 0), some (z_i (x1)), some (z_i (x2)), none, none, none], [z_i 2, z_i (x2), z_r 33 0], (true, X, I, J))) rfl ?_
      obtain ⟨v78, X73, I74, J75, g76, h77⟩ := h91
      refine z_ev_ca rfl rfl g76 ?_
      refine z_ev_gs 3 (c1 := (187, (if v78 = 0 then 29 else 27), [some (z_r 33 0), some (z_i (x1)), some (z_i (x2)), some (z_i (v78)), none, none], [], (true, X73, I74, J75))) rfl ?_
      refine z_ev_if (fun e79 => ?_) (fun e79 => ?_)
      · have h89 := h77.1 e79
        refine z_ev_gs 5 (c1 := (187, 36, [some (z_r 33 0), some (z_i (x1)), some (z_i (x2)), some (z_i (v78)), none, none], [z_i (x1), z_r 34 0, z_i (x1), z_r 33 0], (true, X73, I74, J75))) rfl ?_
        obtain ⟨k80, e81, e82, h83⟩ := h89
        refine z_ev_iald (t := 34) (i := 0) (k := k80) (n := 4) rfl rfl e81 e82 (by decide) ?_
        obtain ⟨X84, I85, J86, g87, h88⟩ := h83
        refine z_ev_ca rfl rfl g87 ?_
        refine z_ev_gs 2 (c1 := (187, 43, [some (z_r 33 0), some (z_i (x1)), some (z_i (x2)), some (z_i (v78)), some (z_i 0), none], [], (true, X84, I85, J86))) rfl ?_
        exact h88
      · have h90 := h77.2 e79
        refine z_ev_gs 1 (c1 := (187, 28, [some (z_r 33 0), some (z_i (x1)), some (z_i (x2)), some (z_i (v78)), none, none], [z_i (v78)], (true, X73, I74, J75))) rfl ?_
        rw [h90]
        exact z_ev_rt rfl
    · have h92 := h94.2 e72
      refine z_ev_gs 1 (c1 := (187, 15, [some (z_r 33 0), some (z_i (x1)), some (z_i (x2)), none, none, none], [z_i (-1)], (true, X, I, J))) rfl ?_
      rw [h92]
      exact z_ev_rt rfl
theorem z_q187_43 {d : Nat} {r : Option z_V × z_M} {X : z_X} {I : Nat → Nat → Nat → Int32} {J : Nat → Nat → Nat → Int64} (x1 : Int32) (x2 : Int32) (x3 : Int32) (x4 : Int32) (o5 : Option z_V)
    (h : (∃ k95 : Nat, x1 = Int32.ofNat k95 ∧ k95 < 4 ∧ (((I 34 0 k95) ≤ x4 → (∃ (v105 : Int32) (X100 : z_X) (I101 : Nat → Nat → Nat → Int32) (J102 : Nat → Nat → Nat → Int64), z_ev (d + 1) (z_en 171 [z_r 33 0, z_i (x1)] (true, X, I, J)) (some (z_i (v105)), (true, X100, I101, J102)) ∧ r = (some (z_i (v105)), (true, X100, I101, J102)))) ∧ (x4 < (I 34 0 k95) → (∃ k106 : Nat, x2 = Int32.ofNat k106 ∧ k106 < 4 ∧ (((I 56 0 k106) ≤ x4 → (∃ (v116 : Int32) (X111 : z_X) (I112 : Nat → Nat → Nat → Int32) (J113 : Nat → Nat → Nat → Int64), z_ev (d + 1) (z_en 171 [z_r 33 0, z_i (x1)] (true, X, I, J)) (some (z_i (v116)), (true, X111, I112, J113)) ∧ r = (some (z_i (v116)), (true, X111, I112, J113)))) ∧ (x4 < (I 56 0 k106) → z_ev (d + 2) (187, 68, [some (z_r 33 0), some (z_i (x1)), some (z_i (x2)), some (z_i (x3)), some (z_i (x4)), some (z_i 0)], [], (true, X, I, J)) r))))))) :
    z_ev (d + 2) ((187, 43, [some (z_r 33 0), some (z_i (x1)), some (z_i (x2)), some (z_i (x3)), some (z_i (x4)), o5], [], (true, X, I, J))) r := by
  refine z_ev_gs 4 (c1 := (187, 50, [some (z_r 33 0), some (z_i (x1)), some (z_i (x2)), some (z_i (x3)), some (z_i (x4)), o5], [z_i (x1), z_r 34 0, z_i (x4)], (true, X, I, J))) rfl ?_
  obtain ⟨k95, e96, e97, h98⟩ := h
  refine z_ev_iald (t := 34) (i := 0) (k := k95) (n := 4) rfl rfl e96 e97 (by decide) ?_
  refine z_ev_gs 1 (c1 := (187, (if (I 34 0 k95) ≤ x4 then 123 else 54), [some (z_r 33 0), some (z_i (x1)), some (z_i (x2)), some (z_i (x3)), some (z_i (x4)), o5], [], (true, X, I, J))) rfl ?_
  refine z_ev_ifle (fun e99 => ?_) (fun e99 => ?_)
  · have h119 := h98.1 e99
    refine z_ev_gs 2 (c1 := (187, 125, [some (z_r 33 0), some (z_i (x1)), some (z_i (x2)), some (z_i (x3)), some (z_i (x4)), o5], [z_i (x1), z_r 33 0], (true, X, I, J))) rfl ?_
    obtain ⟨v105, X100, I101, J102, g103, h104⟩ := h119
    refine z_ev_ca rfl rfl g103 ?_
    rw [h104]
    exact z_ev_rt rfl
  · have h120 := h98.2 e99
    refine z_ev_gs 4 (c1 := (187, 61, [some (z_r 33 0), some (z_i (x1)), some (z_i (x2)), some (z_i (x3)), some (z_i (x4)), o5], [z_i (x2), z_r 56 0, z_i (x4)], (true, X, I, J))) rfl ?_
    obtain ⟨k106, e107, e108, h109⟩ := h120
    refine z_ev_iald (t := 56) (i := 0) (k := k106) (n := 4) rfl rfl e107 e108 (by decide) ?_
    refine z_ev_gs 1 (c1 := (187, (if (I 56 0 k106) ≤ x4 then 123 else 65), [some (z_r 33 0), some (z_i (x1)), some (z_i (x2)), some (z_i (x3)), some (z_i (x4)), o5], [], (true, X, I, J))) rfl ?_
    refine z_ev_ifle (fun e110 => ?_) (fun e110 => ?_)
    · have h117 := h109.1 e110
      refine z_ev_gs 2 (c1 := (187, 125, [some (z_r 33 0), some (z_i (x1)), some (z_i (x2)), some (z_i (x3)), some (z_i (x4)), o5], [z_i (x1), z_r 33 0], (true, X, I, J))) rfl ?_
      obtain ⟨v116, X111, I112, J113, g114, h115⟩ := h117
      refine z_ev_ca rfl rfl g114 ?_
      rw [h115]
      exact z_ev_rt rfl
    · have h118 := h109.2 e110
      refine z_ev_gs 2 (c1 := (187, 68, [some (z_r 33 0), some (z_i (x1)), some (z_i (x2)), some (z_i (x3)), some (z_i (x4)), some (z_i 0)], [], (true, X, I, J))) rfl ?_
      exact h118
theorem z_q187_68 {d : Nat} {r : Option z_V × z_M} {X : z_X} {I : Nat → Nat → Nat → Int32} {J : Nat → Nat → Nat → Int64} (x1 : Int32) (x2 : Int32) (x3 : Int32) (x4 : Int32) (x5 : Int32)
    (h : ((x4 ≤ x5 → z_ev (d + 2) (187, 43, [some (z_r 33 0), some (z_i (x1)), some (z_i (x2)), some (z_i (x3)), some (z_i (x4 + (1 : Int32))), some (z_i (x5))], [], (true, X, I, J)) r) ∧ (x5 < x4 → (∃ k122 : Nat, (((40 : Int32) * x2) + x4) = Int32.ofNat k122 ∧ k122 < 160 ∧ ((¬ (lg_cmp (((J 57 0 k122) >>> (x5.toInt64 &&& 63)) &&& (1 : Int64)) (1 : Int64)) = 0 → (∃ (X127 : z_X) (I128 : Nat → Nat → Nat → Int32) (J129 : Nat → Nat → Nat → Int64), z_ev (d + 1) (z_en 168 [z_r 33 0, z_i (x1), z_i (x4), z_i (x5), z_i 0] (true, X, I, J)) (none, (true, X127, I128, J129)) ∧ z_ev (d + 2) (187, 68, [some (z_r 33 0), some (z_i (x1)), some (z_i (x2)), some (z_i (x3)), some (z_i (x4)), some (z_i (x5 + (1 : Int32)))], [], (true, X127, I128, J129)) r)) ∧ ((lg_cmp (((J 57 0 k122) >>> (x5.toInt64 &&& 63)) &&& (1 : Int64)) (1 : Int64)) = 0 → (∃ (X132 : z_X) (I133 : Nat → Nat → Nat → Int32) (J134 : Nat → Nat → Nat → Int64), z_ev (d + 1) (z_en 168 [z_r 33 0, z_i (x1), z_i (x4), z_i (x5), z_i 1] (true, X, I, J)) (none, (true, X132, I133, J134)) ∧ z_ev (d + 2) (187, 68, [some (z_r 33 0), some (z_i (x1)), some (z_i (x2)), some (z_i (x3)), some (z_i (x4)), some (z_i (x5 + (1 : Int32)))], [], (true, X132, I133, J134)) r))))))) :
    z_ev (d + 2) ((187, 68, [some (z_r 33 0), some (z_i (x1)), some (z_i (x2)), some (z_i (x3)), some (z_i (x4)), some (z_i (x5))], [], (true, X, I, J))) r := by
  refine z_ev_gs 3 (c1 := (187, (if x4 ≤ x5 then 117 else 75), [some (z_r 33 0), some (z_i (x1)), some (z_i (x2)), some (z_i (x3)), some (z_i (x4)), some (z_i (x5))], [], (true, X, I, J))) rfl ?_
  refine z_ev_ifle (fun e121 => ?_) (fun e121 => ?_)
  · have h139 := h.1 e121
    refine z_ev_gs 2 (c1 := (187, 43, [some (z_r 33 0), some (z_i (x1)), some (z_i (x2)), some (z_i (x3)), some (z_i (x4 + (1 : Int32))), some (z_i (x5))], [], (true, X, I, J))) rfl ?_
    exact h139
  · have h140 := h.2 e121
    refine z_ev_gs 11 (c1 := (187, 92, [some (z_r 33 0), some (z_i (x1)), some (z_i (x2)), some (z_i (x3)), some (z_i (x4)), some (z_i (x5))], [z_i (((40 : Int32) * x2) + x4), z_r 57 0, z_i (x5), z_i (x4), z_i (x1), z_r 33 0], (true, X, I, J))) rfl ?_
    obtain ⟨k122, e123, e124, h125⟩ := h140
    refine z_ev_lald (t := 57) (i := 0) (k := k122) (n := 160) rfl rfl e123 e124 (by decide) ?_
    refine z_ev_gs 7 (c1 := (187, (if ¬ (lg_cmp (((J 57 0 k122) >>> (x5.toInt64 &&& 63)) &&& (1 : Int64)) (1 : Int64)) = 0 then 107 else 103), [some (z_r 33 0), some (z_i (x1)), some (z_i (x2)), some (z_i (x3)), some (z_i (x4)), some (z_i (x5))], [z_i (x5), z_i (x4), z_i (x1), z_r 33 0], (true, X, I, J))) rfl ?_
    refine z_ev_ifn (fun e126 => ?_) (fun e126 => ?_)
    · have h137 := h125.1 e126
      refine z_ev_gs 1 (c1 := (187, 108, [some (z_r 33 0), some (z_i (x1)), some (z_i (x2)), some (z_i (x3)), some (z_i (x4)), some (z_i (x5))], [z_i 0, z_i (x5), z_i (x4), z_i (x1), z_r 33 0], (true, X, I, J))) rfl ?_
      obtain ⟨X127, I128, J129, g130, h131⟩ := h137
      refine z_ev_ca rfl rfl g130 ?_
      refine z_ev_gs 2 (c1 := (187, 68, [some (z_r 33 0), some (z_i (x1)), some (z_i (x2)), some (z_i (x3)), some (z_i (x4)), some (z_i (x5 + (1 : Int32)))], [], (true, X127, I128, J129))) rfl ?_
      exact h131
    · have h138 := h125.2 e126
      refine z_ev_gs 2 (c1 := (187, 108, [some (z_r 33 0), some (z_i (x1)), some (z_i (x2)), some (z_i (x3)), some (z_i (x4)), some (z_i (x5))], [z_i 1, z_i (x5), z_i (x4), z_i (x1), z_r 33 0], (true, X, I, J))) rfl ?_
      obtain ⟨X132, I133, J134, g135, h136⟩ := h138
      refine z_ev_ca rfl rfl g135 ?_
      refine z_ev_gs 2 (c1 := (187, 68, [some (z_r 33 0), some (z_i (x1)), some (z_i (x2)), some (z_i (x3)), some (z_i (x4)), some (z_i (x5 + (1 : Int32)))], [], (true, X132, I133, J134))) rfl ?_
      exact h136
theorem z_q65_e {d : Nat} {r : Option z_V × z_M} {X : z_X} {I : Nat → Nat → Nat → Int32} {J : Nat → Nat → Nat → Int64} 
    (h : r = (some (z_i ((((((I 1 0 6) * (1103515245 : Int32)) + (12345 : Int32))).toUInt32 >>> ((16 : Int32).toUInt32 &&& Int32.toUInt32 31)).toInt32)), (true, X, (z_up I 1 0 6 (((I 1 0 6) * (1103515245 : Int32)) + (12345 : Int32))), J))) :
    z_ev d (z_en 65 [z_r 1 0] (true, X, I, J)) r := by
  show z_ev d (65, 0, [some (z_r 1 0)], [], (true, X, I, J)) r
  refine z_ev_gs 12 (c1 := (65, 22, [some (z_r 1 0)], [z_i ((((((I 1 0 6) * (1103515245 : Int32)) + (12345 : Int32))).toUInt32 >>> ((16 : Int32).toUInt32 &&& Int32.toUInt32 31)).toInt32)], (true, X, (z_up I 1 0 6 (((I 1 0 6) * (1103515245 : Int32)) + (12345 : Int32))), J))) rfl ?_
  rw [h]
  exact z_ev_rt rfl
theorem z_q222_e {d : Nat} {r : Option z_V × z_M} {X : z_X} {I : Nat → Nat → Nat → Int32} {J : Nat → Nat → Nat → Int64} 
    (h : r = (some (z_i ((((((I 33 0 7) * (1103515245 : Int32)) + (12345 : Int32))).toUInt32 >>> ((16 : Int32).toUInt32 &&& Int32.toUInt32 31)).toInt32)), (true, X, (z_up I 33 0 7 (((I 33 0 7) * (1103515245 : Int32)) + (12345 : Int32))), J))) :
    z_ev d (z_en 222 [z_r 33 0] (true, X, I, J)) r := by
  show z_ev d (222, 0, [some (z_r 33 0)], [], (true, X, I, J)) r
  refine z_ev_gs 12 (c1 := (222, 23, [some (z_r 33 0)], [z_i ((((((I 33 0 7) * (1103515245 : Int32)) + (12345 : Int32))).toUInt32 >>> ((16 : Int32).toUInt32 &&& Int32.toUInt32 31)).toInt32)], (true, X, (z_up I 33 0 7 (((I 33 0 7) * (1103515245 : Int32)) + (12345 : Int32))), J))) rfl ?_
  rw [h]
  exact z_ev_rt rfl
theorem z_q91_e {d : Nat} {r : Option z_V × z_M} {X : z_X} {I : Nat → Nat → Nat → Int32} {J : Nat → Nat → Nat → Int64} (x1 : Int32) (x2 : Int32)
    (h : (((z_bw x1 0 3) = false → r = (some (z_i (-1)), (true, X, I, J))) ∧ ((z_bw x1 0 3) = true → ((x2 < 0 → r = (some (z_i (-1)), (true, X, I, J))) ∧ (0 ≤ x2 → ((x2 ≤ (4 : Int32) → (∃ k48 : Nat, x1 = Int32.ofNat k48 ∧ k48 < 4 ∧ z_ev (d + 2) (91, 31, [some (z_r 0 0), some (z_i (x1)), some (z_i (x2)), some (z_r 13 k48), some (z_i 1), none], [], (true, X, I, J)) r)) ∧ ((4 : Int32) < x2 → r = (some (z_i (-1)), (true, X, I, J))))))))) :
    z_ev (d + 2) (z_en 91 [z_r 0 0, z_i (x1), z_i (x2)] (true, X, I, J)) r := by
  show z_ev (d + 2) (91, 0, [some (z_r 0 0), some (z_i (x1)), some (z_i (x2)), none, none, none], [], (true, X, I, J)) r
  refine z_ev_gs 1 (c1 := (91, 1, [some (z_r 0 0), some (z_i (x1)), some (z_i (x2)), none, none, none], [z_i (x1)], (true, X, I, J))) rfl ?_
  refine z_ev_ca rfl rfl (z_p118 _) ?_
  refine z_ev_gs 1 (c1 := (91, (if z_c (z_bw x1 0 3) = 0 then 16 else 7), [some (z_r 0 0), some (z_i (x1)), some (z_i (x2)), none, none, none], [], (true, X, I, J))) rfl ?_
  refine z_ev_ifc (fun e45 => ?_) (fun e45 => ?_)
  · have h56 := h.1 e45
    refine z_ev_gs 1 (c1 := (91, 17, [some (z_r 0 0), some (z_i (x1)), some (z_i (x2)), none, none, none], [z_i (-1)], (true, X, I, J))) rfl ?_
    rw [h56]
    exact z_ev_rt rfl
  · have h57 := h.2 e45
    refine z_ev_gs 2 (c1 := (91, (if x2 < 0 then 16 else 11), [some (z_r 0 0), some (z_i (x1)), some (z_i (x2)), none, none, none], [], (true, X, I, J))) rfl ?_
    refine z_ev_iflt (fun e46 => ?_) (fun e46 => ?_)
    · have h54 := h57.1 e46
      refine z_ev_gs 1 (c1 := (91, 17, [some (z_r 0 0), some (z_i (x1)), some (z_i (x2)), none, none, none], [z_i (-1)], (true, X, I, J))) rfl ?_
      rw [h54]
      exact z_ev_rt rfl
    · have h55 := h57.2 e46
      refine z_ev_gs 3 (c1 := (91, (if x2 ≤ (4 : Int32) then 18 else 16), [some (z_r 0 0), some (z_i (x1)), some (z_i (x2)), none, none, none], [], (true, X, I, J))) rfl ?_
      refine z_ev_ifle (fun e47 => ?_) (fun e47 => ?_)
      · have h52 := h55.1 e47
        refine z_ev_gs 4 (c1 := (91, 26, [some (z_r 0 0), some (z_i (x1)), some (z_i (x2)), none, none, none], [z_i (x1), z_r 2 0], (true, X, I, J))) rfl ?_
        obtain ⟨k48, e49, e50, h51⟩ := h52
        refine z_ev_nt0 (k := k48) rfl e49 e50 ?_
        refine z_ev_gs 3 (c1 := (91, 31, [some (z_r 0 0), some (z_i (x1)), some (z_i (x2)), some (z_r 13 k48), some (z_i 1), none], [], (true, X, I, J))) rfl ?_
        exact h51
      · have h53 := h55.2 e47
        refine z_ev_gs 1 (c1 := (91, 17, [some (z_r 0 0), some (z_i (x1)), some (z_i (x2)), none, none, none], [z_i (-1)], (true, X, I, J))) rfl ?_
        rw [h53]
        exact z_ev_rt rfl
theorem z_q91_31 {d : Nat} {r : Option z_V × z_M} {X : z_X} {I : Nat → Nat → Nat → Int32} {J : Nat → Nat → Nat → Int64} (x1 : Int32) (x2 : Int32) (q3 : Nat) (hq3 : q3 < 10) (x4 : Int32) (o5 : Option z_V)
    (h : (((I 13 q3 1) ≤ x4 → (∃ (v64 : Int32) (X59 : z_X) (I60 : Nat → Nat → Nat → Int32) (J61 : Nat → Nat → Nat → Int64), z_ev (d + 1) (z_en 26 [z_r 13 q3] (true, X, I, J)) (some (z_i (v64)), (true, X59, I60, J61)) ∧ r = (some (z_i (v64)), (true, X59, I60, J61)))) ∧ (x4 < (I 13 q3 1) → z_ev (d + 2) (91, 43, [some (z_r 0 0), some (z_i (x1)), some (z_i (x2)), some (z_r 13 q3), some (z_i (x4)), some (z_i 0)], [], (true, X, I, J)) r))) :
    z_ev (d + 2) ((91, 31, [some (z_r 0 0), some (z_i (x1)), some (z_i (x2)), some (z_r 13 q3), some (z_i (x4)), o5], [], (true, X, I, J))) r := by
  refine z_ev_gs 2 (c1 := (91, 34, [some (z_r 0 0), some (z_i (x1)), some (z_i (x2)), some (z_r 13 q3), some (z_i (x4)), o5], [z_r 13 q3, z_i (x4)], (true, X, I, J))) rfl ?_
  refine z_ev_gi (c1 := (91, 37, [some (z_r 0 0), some (z_i (x1)), some (z_i (x2)), some (z_r 13 q3), some (z_i (x4)), o5], [z_i (I 13 q3 1), z_i (x4)], (true, X, I, J))) rfl hq3 ?_
  refine z_ev_gs 1 (c1 := (91, (if (I 13 q3 1) ≤ x4 then 88 else 40), [some (z_r 0 0), some (z_i (x1)), some (z_i (x2)), some (z_r 13 q3), some (z_i (x4)), o5], [], (true, X, I, J))) rfl ?_
  refine z_ev_ifle (fun e58 => ?_) (fun e58 => ?_)
  · have h65 := h.1 e58
    refine z_ev_gs 1 (c1 := (91, 89, [some (z_r 0 0), some (z_i (x1)), some (z_i (x2)), some (z_r 13 q3), some (z_i (x4)), o5], [z_r 13 q3], (true, X, I, J))) rfl ?_
    obtain ⟨v64, X59, I60, J61, g62, h63⟩ := h65
    refine z_ev_cg rfl hq3 rfl g62 ?_
    rw [h63]
    exact z_ev_rt rfl
  · have h66 := h.2 e58
    refine z_ev_gs 2 (c1 := (91, 43, [some (z_r 0 0), some (z_i (x1)), some (z_i (x2)), some (z_r 13 q3), some (z_i (x4)), some (z_i 0)], [], (true, X, I, J))) rfl ?_
    exact h66
theorem z_q91_43 {d : Nat} {r : Option z_V × z_M} {X : z_X} {I : Nat → Nat → Nat → Int32} {J : Nat → Nat → Nat → Int64} (x1 : Int32) (x2 : Int32) (q3 : Nat) (hq3 : q3 < 10) (x4 : Int32) (x5 : Int32)
    (h : ((x4 ≤ x5 → z_ev (d + 2) (91, 31, [some (z_r 0 0), some (z_i (x1)), some (z_i (x2)), some (z_r 13 q3), some (z_i (x4 + (1 : Int32))), some (z_i (x5))], [], (true, X, I, J)) r) ∧ (x5 < x4 → (∃ (v73 : Int32) (X68 : z_X) (I69 : Nat → Nat → Nat → Int32) (J70 : Nat → Nat → Nat → Int64), z_ev (d + 1) (z_en 65 [z_r 1 0] (true, X, I, J)) (some (z_i (v73)), (true, X68, I69, J70)) ∧ ((x2 ≤ (v73 - v73 / (4 : Int32) * (4 : Int32)) → (∃ (X75 : z_X) (I76 : Nat → Nat → Nat → Int32) (J77 : Nat → Nat → Nat → Int64), z_ev (d + 1) (z_en 23 [z_r 13 q3, z_i (x5), z_i (x4), z_i 0] (true, X68, I69, J70)) (none, (true, X75, I76, J77)) ∧ z_ev (d + 2) (91, 43, [some (z_r 0 0), some (z_i (x1)), some (z_i (x2)), some (z_r 13 q3), some (z_i (x4)), some (z_i (x5 + (1 : Int32)))], [], (true, X75, I76, J77)) r)) ∧ ((v73 - v73 / (4 : Int32) * (4 : Int32)) < x2 → (∃ (X80 : z_X) (I81 : Nat → Nat → Nat → Int32) (J82 : Nat → Nat → Nat → Int64), z_ev (d + 1) (z_en 23 [z_r 13 q3, z_i (x5), z_i (x4), z_i 1] (true, X68, I69, J70)) (none, (true, X80, I81, J82)) ∧ z_ev (d + 2) (91, 43, [some (z_r 0 0), some (z_i (x1)), some (z_i (x2)), some (z_r 13 q3), some (z_i (x4)), some (z_i (x5 + (1 : Int32)))], [], (true, X80, I81, J82)) r))))))) :
    z_ev (d + 2) ((91, 43, [some (z_r 0 0), some (z_i (x1)), some (z_i (x2)), some (z_r 13 q3), some (z_i (x4)), some (z_i (x5))], [], (true, X, I, J))) r := by
  refine z_ev_gs 3 (c1 := (91, (if x4 ≤ x5 then 82 else 50), [some (z_r 0 0), some (z_i (x1)), some (z_i (x2)), some (z_r 13 q3), some (z_i (x4)), some (z_i (x5))], [], (true, X, I, J))) rfl ?_
  refine z_ev_ifle (fun e67 => ?_) (fun e67 => ?_)
  · have h87 := h.1 e67
    refine z_ev_gs 2 (c1 := (91, 31, [some (z_r 0 0), some (z_i (x1)), some (z_i (x2)), some (z_r 13 q3), some (z_i (x4 + (1 : Int32))), some (z_i (x5))], [], (true, X, I, J))) rfl ?_
    exact h87
  · have h88 := h.2 e67
    refine z_ev_gs 5 (c1 := (91, 59, [some (z_r 0 0), some (z_i (x1)), some (z_i (x2)), some (z_r 13 q3), some (z_i (x4)), some (z_i (x5))], [z_r 1 0, z_i (x4), z_i (x5), z_r 13 q3], (true, X, I, J))) rfl ?_
    obtain ⟨v73, X68, I69, J70, g71, h72⟩ := h88
    refine z_ev_ca rfl rfl g71 ?_
    refine z_ev_gs 1 (c1 := (91, 63, [some (z_r 0 0), some (z_i (x1)), some (z_i (x2)), some (z_r 13 q3), some (z_i (x4)), some (z_i (x5))], [z_i 4, z_i (v73), z_i (x4), z_i (x5), z_r 13 q3], (true, X68, I69, J70))) rfl ?_
    refine z_ev_dvi (w1 := (4 : Int32)) (c1 := (91, 64, [some (z_r 0 0), some (z_i (x1)), some (z_i (x2)), some (z_r 13 q3), some (z_i (x4)), some (z_i (x5))], [z_i (v73 - v73 / (4 : Int32) * (4 : Int32)), z_i (x4), z_i (x5), z_r 13 q3], (true, X68, I69, J70))) rfl (by decide) ?_
    refine z_ev_gs 2 (c1 := (91, (if x2 ≤ (v73 - v73 / (4 : Int32) * (4 : Int32)) then 72 else 68), [some (z_r 0 0), some (z_i (x1)), some (z_i (x2)), some (z_r 13 q3), some (z_i (x4)), some (z_i (x5))], [z_i (x4), z_i (x5), z_r 13 q3], (true, X68, I69, J70))) rfl ?_
    refine z_ev_ifle (fun e74 => ?_) (fun e74 => ?_)
    · have h85 := h72.1 e74
      refine z_ev_gs 1 (c1 := (91, 73, [some (z_r 0 0), some (z_i (x1)), some (z_i (x2)), some (z_r 13 q3), some (z_i (x4)), some (z_i (x5))], [z_i 0, z_i (x4), z_i (x5), z_r 13 q3], (true, X68, I69, J70))) rfl ?_
      obtain ⟨X75, I76, J77, g78, h79⟩ := h85
      refine z_ev_cg rfl hq3 rfl g78 ?_
      refine z_ev_gs 2 (c1 := (91, 43, [some (z_r 0 0), some (z_i (x1)), some (z_i (x2)), some (z_r 13 q3), some (z_i (x4)), some (z_i (x5 + (1 : Int32)))], [], (true, X75, I76, J77))) rfl ?_
      exact h79
    · have h86 := h72.2 e74
      refine z_ev_gs 2 (c1 := (91, 73, [some (z_r 0 0), some (z_i (x1)), some (z_i (x2)), some (z_r 13 q3), some (z_i (x4)), some (z_i (x5))], [z_i 1, z_i (x4), z_i (x5), z_r 13 q3], (true, X68, I69, J70))) rfl ?_
      obtain ⟨X80, I81, J82, g83, h84⟩ := h86
      refine z_ev_cg rfl hq3 rfl g83 ?_
      refine z_ev_gs 2 (c1 := (91, 43, [some (z_r 0 0), some (z_i (x1)), some (z_i (x2)), some (z_r 13 q3), some (z_i (x4)), some (z_i (x5 + (1 : Int32)))], [], (true, X80, I81, J82))) rfl ?_
      exact h84
theorem z_q225_e {d : Nat} {r : Option z_V × z_M} {X : z_X} {I : Nat → Nat → Nat → Int32} {J : Nat → Nat → Nat → Int64} (x1 : Int32) (x2 : Int32)
    (h : (((z_bw x1 0 3) = false → r = (some (z_i (-1)), (true, X, I, J))) ∧ ((z_bw x1 0 3) = true → (((z_bw x2 (0 : Int32) (4 : Int32)) = true → z_ev (d + 2) (225, 20, [some (z_r 33 0), some (z_i (x1)), some (z_i (x2)), some (z_i 1), none], [], (true, X, I, J)) r) ∧ ((z_bw x2 (0 : Int32) (4 : Int32)) = false → r = (some (z_i (-1)), (true, X, I, J))))))) :
    z_ev (d + 2) (z_en 225 [z_r 33 0, z_i (x1), z_i (x2)] (true, X, I, J)) r := by
  show z_ev (d + 2) (225, 0, [some (z_r 33 0), some (z_i (x1)), some (z_i (x2)), none, none], [], (true, X, I, J)) r
  refine z_ev_gs 1 (c1 := (225, 1, [some (z_r 33 0), some (z_i (x1)), some (z_i (x2)), none, none], [z_i (x1)], (true, X, I, J))) rfl ?_
  refine z_ev_ca rfl rfl (z_p162 _) ?_
  refine z_ev_gs 1 (c1 := (225, (if z_c (z_bw x1 0 3) = 0 then 16 else 7), [some (z_r 33 0), some (z_i (x1)), some (z_i (x2)), none, none], [], (true, X, I, J))) rfl ?_
  refine z_ev_ifc (fun e42 => ?_) (fun e42 => ?_)
  · have h46 := h.1 e42
    refine z_ev_gs 1 (c1 := (225, 17, [some (z_r 33 0), some (z_i (x1)), some (z_i (x2)), none, none], [z_i (-1)], (true, X, I, J))) rfl ?_
    rw [h46]
    exact z_ev_rt rfl
  · have h47 := h.2 e42
    refine z_ev_gs 3 (c1 := (225, 10, [some (z_r 33 0), some (z_i (x1)), some (z_i (x2)), none, none], [z_i 4, z_i 0, z_i (x2)], (true, X, I, J))) rfl ?_
    refine z_ev_ca rfl rfl (z_p158 _ _ _) ?_
    refine z_ev_gs 1 (c1 := (225, (if ¬ z_c (z_bw x2 (0 : Int32) (4 : Int32)) = 0 then 18 else 16), [some (z_r 33 0), some (z_i (x1)), some (z_i (x2)), none, none], [], (true, X, I, J))) rfl ?_
    refine z_ev_ifcn (fun e43 => ?_) (fun e43 => ?_)
    · have h44 := h47.1 e43
      refine z_ev_gs 2 (c1 := (225, 20, [some (z_r 33 0), some (z_i (x1)), some (z_i (x2)), some (z_i 1), none], [], (true, X, I, J))) rfl ?_
      exact h44
    · have h45 := h47.2 e43
      refine z_ev_gs 1 (c1 := (225, 17, [some (z_r 33 0), some (z_i (x1)), some (z_i (x2)), none, none], [z_i (-1)], (true, X, I, J))) rfl ?_
      rw [h45]
      exact z_ev_rt rfl
theorem z_q225_20 {d : Nat} {r : Option z_V × z_M} {X : z_X} {I : Nat → Nat → Nat → Int32} {J : Nat → Nat → Nat → Int64} (x1 : Int32) (x2 : Int32) (x3 : Int32) (o4 : Option z_V)
    (h : (∃ k48 : Nat, x1 = Int32.ofNat k48 ∧ k48 < 4 ∧ (((I 34 0 k48) ≤ x3 → (∃ (v58 : Int32) (X53 : z_X) (I54 : Nat → Nat → Nat → Int32) (J55 : Nat → Nat → Nat → Int64), z_ev (d + 1) (z_en 171 [z_r 33 0, z_i (x1)] (true, X, I, J)) (some (z_i (v58)), (true, X53, I54, J55)) ∧ r = (some (z_i (v58)), (true, X53, I54, J55)))) ∧ (x3 < (I 34 0 k48) → z_ev (d + 2) (225, 33, [some (z_r 33 0), some (z_i (x1)), some (z_i (x2)), some (z_i (x3)), some (z_i 0)], [], (true, X, I, J)) r)))) :
    z_ev (d + 2) ((225, 20, [some (z_r 33 0), some (z_i (x1)), some (z_i (x2)), some (z_i (x3)), o4], [], (true, X, I, J))) r := by
  refine z_ev_gs 4 (c1 := (225, 26, [some (z_r 33 0), some (z_i (x1)), some (z_i (x2)), some (z_i (x3)), o4], [z_i (x1), z_r 34 0, z_i (x3)], (true, X, I, J))) rfl ?_
  obtain ⟨k48, e49, e50, h51⟩ := h
  refine z_ev_iald (t := 34) (i := 0) (k := k48) (n := 4) rfl rfl e49 e50 (by decide) ?_
  refine z_ev_gs 1 (c1 := (225, (if (I 34 0 k48) ≤ x3 then 74 else 30), [some (z_r 33 0), some (z_i (x1)), some (z_i (x2)), some (z_i (x3)), o4], [], (true, X, I, J))) rfl ?_
  refine z_ev_ifle (fun e52 => ?_) (fun e52 => ?_)
  · have h59 := h51.1 e52
    refine z_ev_gs 2 (c1 := (225, 76, [some (z_r 33 0), some (z_i (x1)), some (z_i (x2)), some (z_i (x3)), o4], [z_i (x1), z_r 33 0], (true, X, I, J))) rfl ?_
    obtain ⟨v58, X53, I54, J55, g56, h57⟩ := h59
    refine z_ev_ca rfl rfl g56 ?_
    rw [h57]
    exact z_ev_rt rfl
  · have h60 := h51.2 e52
    refine z_ev_gs 2 (c1 := (225, 33, [some (z_r 33 0), some (z_i (x1)), some (z_i (x2)), some (z_i (x3)), some (z_i 0)], [], (true, X, I, J))) rfl ?_
    exact h60
theorem z_q225_33 {d : Nat} {r : Option z_V × z_M} {X : z_X} {I : Nat → Nat → Nat → Int32} {J : Nat → Nat → Nat → Int64} (x1 : Int32) (x2 : Int32) (x3 : Int32) (x4 : Int32)
    (h : ((x3 ≤ x4 → z_ev (d + 2) (225, 20, [some (z_r 33 0), some (z_i (x1)), some (z_i (x2)), some (z_i (x3 + (1 : Int32))), some (z_i (x4))], [], (true, X, I, J)) r) ∧ (x4 < x3 → (∃ (v67 : Int32) (X62 : z_X) (I63 : Nat → Nat → Nat → Int32) (J64 : Nat → Nat → Nat → Int64), z_ev (d + 1) (z_en 222 [z_r 33 0] (true, X, I, J)) (some (z_i (v67)), (true, X62, I63, J64)) ∧ ((x2 ≤ (v67 - v67 / (4 : Int32) * (4 : Int32)) → (∃ (X69 : z_X) (I70 : Nat → Nat → Nat → Int32) (J71 : Nat → Nat → Nat → Int64), z_ev (d + 1) (z_en 168 [z_r 33 0, z_i (x1), z_i (x4), z_i (x3), z_i 0] (true, X62, I63, J64)) (none, (true, X69, I70, J71)) ∧ z_ev (d + 2) (225, 33, [some (z_r 33 0), some (z_i (x1)), some (z_i (x2)), some (z_i (x3)), some (z_i (x4 + (1 : Int32)))], [], (true, X69, I70, J71)) r)) ∧ ((v67 - v67 / (4 : Int32) * (4 : Int32)) < x2 → (∃ (X74 : z_X) (I75 : Nat → Nat → Nat → Int32) (J76 : Nat → Nat → Nat → Int64), z_ev (d + 1) (z_en 168 [z_r 33 0, z_i (x1), z_i (x4), z_i (x3), z_i 1] (true, X62, I63, J64)) (none, (true, X74, I75, J76)) ∧ z_ev (d + 2) (225, 33, [some (z_r 33 0), some (z_i (x1)), some (z_i (x2)), some (z_i (x3)), some (z_i (x4 + (1 : Int32)))], [], (true, X74, I75, J76)) r))))))) :
    z_ev (d + 2) ((225, 33, [some (z_r 33 0), some (z_i (x1)), some (z_i (x2)), some (z_i (x3)), some (z_i (x4))], [], (true, X, I, J))) r := by
  refine z_ev_gs 3 (c1 := (225, (if x3 ≤ x4 then 68 else 39), [some (z_r 33 0), some (z_i (x1)), some (z_i (x2)), some (z_i (x3)), some (z_i (x4))], [], (true, X, I, J))) rfl ?_
  refine z_ev_ifle (fun e61 => ?_) (fun e61 => ?_)
  · have h81 := h.1 e61
    refine z_ev_gs 2 (c1 := (225, 20, [some (z_r 33 0), some (z_i (x1)), some (z_i (x2)), some (z_i (x3 + (1 : Int32))), some (z_i (x4))], [], (true, X, I, J))) rfl ?_
    exact h81
  · have h82 := h.2 e61
    refine z_ev_gs 5 (c1 := (225, 45, [some (z_r 33 0), some (z_i (x1)), some (z_i (x2)), some (z_i (x3)), some (z_i (x4))], [z_r 33 0, z_i (x3), z_i (x4), z_i (x1), z_r 33 0], (true, X, I, J))) rfl ?_
    obtain ⟨v67, X62, I63, J64, g65, h66⟩ := h82
    refine z_ev_ca rfl rfl g65 ?_
    refine z_ev_gs 1 (c1 := (225, 49, [some (z_r 33 0), some (z_i (x1)), some (z_i (x2)), some (z_i (x3)), some (z_i (x4))], [z_i 4, z_i (v67), z_i (x3), z_i (x4), z_i (x1), z_r 33 0], (true, X62, I63, J64))) rfl ?_
    refine z_ev_dvi (w1 := (4 : Int32)) (c1 := (225, 50, [some (z_r 33 0), some (z_i (x1)), some (z_i (x2)), some (z_i (x3)), some (z_i (x4))], [z_i (v67 - v67 / (4 : Int32) * (4 : Int32)), z_i (x3), z_i (x4), z_i (x1), z_r 33 0], (true, X62, I63, J64))) rfl (by decide) ?_
    refine z_ev_gs 2 (c1 := (225, (if x2 ≤ (v67 - v67 / (4 : Int32) * (4 : Int32)) then 58 else 54), [some (z_r 33 0), some (z_i (x1)), some (z_i (x2)), some (z_i (x3)), some (z_i (x4))], [z_i (x3), z_i (x4), z_i (x1), z_r 33 0], (true, X62, I63, J64))) rfl ?_
    refine z_ev_ifle (fun e68 => ?_) (fun e68 => ?_)
    · have h79 := h66.1 e68
      refine z_ev_gs 1 (c1 := (225, 59, [some (z_r 33 0), some (z_i (x1)), some (z_i (x2)), some (z_i (x3)), some (z_i (x4))], [z_i 0, z_i (x3), z_i (x4), z_i (x1), z_r 33 0], (true, X62, I63, J64))) rfl ?_
      obtain ⟨X69, I70, J71, g72, h73⟩ := h79
      refine z_ev_ca rfl rfl g72 ?_
      refine z_ev_gs 2 (c1 := (225, 33, [some (z_r 33 0), some (z_i (x1)), some (z_i (x2)), some (z_i (x3)), some (z_i (x4 + (1 : Int32)))], [], (true, X69, I70, J71))) rfl ?_
      exact h73
    · have h80 := h66.2 e68
      refine z_ev_gs 2 (c1 := (225, 59, [some (z_r 33 0), some (z_i (x1)), some (z_i (x2)), some (z_i (x3)), some (z_i (x4))], [z_i 1, z_i (x3), z_i (x4), z_i (x1), z_r 33 0], (true, X62, I63, J64))) rfl ?_
      obtain ⟨X74, I75, J76, g77, h78⟩ := h80
      refine z_ev_ca rfl rfl g77 ?_
      refine z_ev_gs 2 (c1 := (225, 33, [some (z_r 33 0), some (z_i (x1)), some (z_i (x2)), some (z_i (x3)), some (z_i (x4 + (1 : Int32)))], [], (true, X74, I75, J76))) rfl ?_
      exact h78
theorem z_q155_e {d : Nat} {r : Option z_V × z_M} {X : z_X} {I : Nat → Nat → Nat → Int32} {J : Nat → Nat → Nat → Int64} (x1 : Int32)
    (h : (((z_bw x1 0 3) = false → r = (some (z_n), (true, X, I, J))) ∧ ((z_bw x1 0 3) = true → (∃ k2 : Nat, x1 = Int32.ofNat k2 ∧ k2 < 4 ∧ ((¬ (I 22 0 k2) = 0 → r = (some (z_n), (true, X, I, J))) ∧ ((I 22 0 k2) = 0 → (((z_lt0 (I 23 0 k2) (I 1 0 5)) = true → (∃ k8 : Nat, (I 23 0 k2) = Int32.ofNat k8 ∧ k8 < 6 ∧ ∃ q12 : Nat, X.2.2.2 11 0 k8 = some (32, q12) ∧ r = (some (z_r 32 q12), (true, X, I, J)))) ∧ ((z_lt0 (I 23 0 k2) (I 1 0 5)) = false → r = (some (z_n), (true, X, I, J)))))))))) :
    z_ev (d + 1) (z_en 155 [z_r 0 0, z_i (x1)] (true, X, I, J)) r := by
  show z_ev (d + 1) (155, 0, [some (z_r 0 0), some (z_i (x1))], [], (true, X, I, J)) r
  refine z_ev_gs 1 (c1 := (155, 1, [some (z_r 0 0), some (z_i (x1))], [z_i (x1)], (true, X, I, J))) rfl ?_
  refine z_ev_ca rfl rfl (z_p124 _) ?_
  refine z_ev_gs 1 (c1 := (155, (if z_c (z_bw x1 0 3) = 0 then 29 else 7), [some (z_r 0 0), some (z_i (x1))], [], (true, X, I, J))) rfl ?_
  refine z_ev_ifc (fun e1 => ?_) (fun e1 => ?_)
  · have h19 := h.1 e1
    refine z_ev_gs 1 (c1 := (155, 30, [some (z_r 0 0), some (z_i (x1))], [z_n], (true, X, I, J))) rfl ?_
    rw [h19]
    exact z_ev_rt rfl
  · have h20 := h.2 e1
    refine z_ev_gs 3 (c1 := (155, 12, [some (z_r 0 0), some (z_i (x1))], [z_i (x1), z_r 22 0], (true, X, I, J))) rfl ?_
    obtain ⟨k2, e3, e4, h5⟩ := h20
    refine z_ev_iald (t := 22) (i := 0) (k := k2) (n := 4) rfl rfl e3 e4 (by decide) ?_
    refine z_ev_gs 1 (c1 := (155, (if ¬ (I 22 0 k2) = 0 then 29 else 16), [some (z_r 0 0), some (z_i (x1))], [], (true, X, I, J))) rfl ?_
    refine z_ev_ifn (fun e6 => ?_) (fun e6 => ?_)
    · have h17 := h5.1 e6
      refine z_ev_gs 1 (c1 := (155, 30, [some (z_r 0 0), some (z_i (x1))], [z_n], (true, X, I, J))) rfl ?_
      rw [h17]
      exact z_ev_rt rfl
    · have h18 := h5.2 e6
      refine z_ev_gs 4 (c1 := (155, 22, [some (z_r 0 0), some (z_i (x1))], [z_i (x1), z_r 23 0, z_r 0 0], (true, X, I, J))) rfl ?_
      refine z_ev_iald (t := 23) (i := 0) (k := k2) (n := 4) rfl rfl e3 (Nat.lt_of_lt_of_le e4 (by decide)) (by decide) ?_
      refine z_ev_ca rfl rfl (z_p120 _) ?_
      refine z_ev_gs 1 (c1 := (155, (if ¬ z_c (z_lt0 (I 23 0 k2) (I 1 0 5)) = 0 then 31 else 29), [some (z_r 0 0), some (z_i (x1))], [], (true, X, I, J))) rfl ?_
      refine z_ev_ifcn (fun e7 => ?_) (fun e7 => ?_)
      · have h15 := h18.1 e7
        refine z_ev_gs 6 (c1 := (155, 43, [some (z_r 0 0), some (z_i (x1))], [z_i (x1), z_r 23 0, z_r 11 0], (true, X, I, J))) rfl ?_
        refine z_ev_iald (t := 23) (i := 0) (k := k2) (n := 4) rfl rfl e3 (Nat.lt_of_lt_of_le e4 (by decide)) (by decide) ?_
        obtain ⟨k8, e9, e10, h11⟩ := h15
        obtain ⟨q12, g13, h14⟩ := h11
        refine z_ev_so (k := k8) rfl rfl e9 e10 g13 ?_
        rw [h14]
        exact z_ev_rt rfl
      · have h16 := h18.2 e7
        refine z_ev_gs 1 (c1 := (155, 30, [some (z_r 0 0), some (z_i (x1))], [z_n], (true, X, I, J))) rfl ?_
        rw [h16]
        exact z_ev_rt rfl
theorem z_q156_e {d : Nat} {r : Option z_V × z_M} {X : z_X} {I : Nat → Nat → Nat → Int32} {J : Nat → Nat → Nat → Int64} (q1 : Nat) (x1 : Int32)
    (h : ((x1 = 0 → r = (some (z_i 1), (true, X, I, J))) ∧ (¬ x1 = 0 → ((x1 = 1 → (q1 < X.1 ∧ X.2.2.1 q1 ∈ ([0, 3, 5, 6] : List Nat) ∧ r = (some (z_i (z_c (z_sub (X.2.2.1 q1) 6))), (true, X, I, J)))) ∧ (¬ x1 = 1 → ((x1 = 2 → (q1 < X.1 ∧ X.2.2.1 q1 ∈ ([0, 3, 5, 6] : List Nat) ∧ r = (some (z_i (z_c (z_sub (X.2.2.1 q1) 5))), (true, X, I, J)))) ∧ (¬ x1 = 2 → ((x1 = 3 → (q1 < X.1 ∧ X.2.2.1 q1 ∈ ([0, 3, 5, 6] : List Nat) ∧ r = (some (z_i (z_c (z_sub (X.2.2.1 q1) 0))), (true, X, I, J)))) ∧ (¬ x1 = 3 → r = (some (z_i 0), (true, X, I, J))))))))))) :
    z_ev d (z_en 156 [z_r 32 q1, z_i (x1)] (true, X, I, J)) r := by
  show z_ev d (156, 0, [some (z_r 32 q1), some (z_i (x1))], [], (true, X, I, J)) r
  refine z_ev_gs 2 (c1 := (156, (if x1 = 0 then 32 else (if x1 = 1 then 34 else (if x1 = 2 then 39 else (if x1 = 3 then 44 else 49)))), [some (z_r 32 q1), some (z_i (x1))], [], (true, X, I, J))) rfl ?_
  refine z_ev_if (fun e10 => ?_) (fun e10 => ?_)
  · have h11 := h.1 e10
    refine z_ev_gs 1 (c1 := (156, 33, [some (z_r 32 q1), some (z_i (x1))], [z_i 1], (true, X, I, J))) rfl ?_
    rw [h11]
    exact z_ev_rt rfl
  · have h12 := h.2 e10
    refine z_ev_if (fun e13 => ?_) (fun e13 => ?_)
    · have h14 := h12.1 e13
      refine z_ev_gs 1 (c1 := (156, 35, [some (z_r 32 q1), some (z_i (x1))], [z_r 32 q1], (true, X, I, J))) rfl ?_
      obtain ⟨g1, g2, h3⟩ := h14
      refine z_ev_ins (c1 := (156, 38, [some (z_r 32 q1), some (z_i (x1))], [z_i (z_c (z_sub (X.2.2.1 q1) 6))], (true, X, I, J))) rfl g1 g2 ?_
      rw [h3]
      exact z_ev_rtb rfl
    · have h15 := h12.2 e13
      refine z_ev_if (fun e16 => ?_) (fun e16 => ?_)
      · have h17 := h15.1 e16
        refine z_ev_gs 1 (c1 := (156, 40, [some (z_r 32 q1), some (z_i (x1))], [z_r 32 q1], (true, X, I, J))) rfl ?_
        obtain ⟨g4, g5, h6⟩ := h17
        refine z_ev_ins (c1 := (156, 43, [some (z_r 32 q1), some (z_i (x1))], [z_i (z_c (z_sub (X.2.2.1 q1) 5))], (true, X, I, J))) rfl g4 g5 ?_
        rw [h6]
        exact z_ev_rtb rfl
      · have h18 := h15.2 e16
        refine z_ev_if (fun e19 => ?_) (fun e19 => ?_)
        · have h20 := h18.1 e19
          refine z_ev_gs 1 (c1 := (156, 45, [some (z_r 32 q1), some (z_i (x1))], [z_r 32 q1], (true, X, I, J))) rfl ?_
          obtain ⟨g7, g8, h9⟩ := h20
          refine z_ev_ins (c1 := (156, 48, [some (z_r 32 q1), some (z_i (x1))], [z_i (z_c (z_sub (X.2.2.1 q1) 0))], (true, X, I, J))) rfl g7 g8 ?_
          rw [h9]
          exact z_ev_rtb rfl
        · have h21 := h18.2 e19
          refine z_ev_gs 1 (c1 := (156, 50, [some (z_r 32 q1), some (z_i (x1))], [z_i 0], (true, X, I, J))) rfl ?_
          rw [h21]
          exact z_ev_rt rfl
theorem z_q112_e {d : Nat} {r : Option z_V × z_M} {X : z_X} {I : Nat → Nat → Nat → Int32} {J : Nat → Nat → Nat → Int64} (x1 : Int32) (x2 : Int32)
    (h : ((x2 < 0 → (((z_bw x1 0 3) = false → r = (some (z_i (-1)), (true, X, I, J))) ∧ ((z_bw x1 0 3) = true → (((z_bw (x2 - (10 : Int32)) 0 3) = true → (∃ k4 : Nat, x1 = Int32.ofNat k4 ∧ k4 < 4 ∧ (((I 22 0 k4) < (10 : Int32) → ((∃ (X9 : z_X) (I10 : Nat → Nat → Nat → Int32) (J11 : Nat → Nat → Nat → Int64), z_ev (d + 1) (z_en 155 [z_r 0 0, z_i (x1)] (true, X, I, J)) (some z_n, (true, X9, I10, J11)) ∧ r = (some (z_i (-11)), (true, X9, I10, J11))) ∨ (∃ (q14 : Nat) (X9 : z_X) (I10 : Nat → Nat → Nat → Int32) (J11 : Nat → Nat → Nat → Int64), z_ev (d + 1) (z_en 155 [z_r 0 0, z_i (x1)] (true, X, I, J)) (some (z_r 32 q14), (true, X9, I10, J11)) ∧ r = (some (z_i (-13)), (true, X9, I10, J11))))) ∧ ((10 : Int32) ≤ (I 22 0 k4) → ((¬ (I 22 0 k4) = x2 → r = (some (z_i (-13)), (true, X, I, J))) ∧ ((I 22 0 k4) = x2 → r = (some (z_i (I 23 0 k4)), (true, X, I, J)))))))) ∧ ((z_bw (x2 - (10 : Int32)) 0 3) = false → r = (some (z_i (-1)), (true, X, I, J))))))) ∧ (0 ≤ x2 → (((3 : Int32) < x2 → (((z_bw x1 0 3) = false → r = (some (z_i (-1)), (true, X, I, J))) ∧ ((z_bw x1 0 3) = true → (((z_bw (x2 - (10 : Int32)) 0 3) = true → (∃ k32 : Nat, x1 = Int32.ofNat k32 ∧ k32 < 4 ∧ (((I 22 0 k32) < (10 : Int32) → ((∃ (X37 : z_X) (I38 : Nat → Nat → Nat → Int32) (J39 : Nat → Nat → Nat → Int64), z_ev (d + 1) (z_en 155 [z_r 0 0, z_i (x1)] (true, X, I, J)) (some z_n, (true, X37, I38, J39)) ∧ r = (some (z_i (-11)), (true, X37, I38, J39))) ∨ (∃ (q42 : Nat) (X37 : z_X) (I38 : Nat → Nat → Nat → Int32) (J39 : Nat → Nat → Nat → Int64), z_ev (d + 1) (z_en 155 [z_r 0 0, z_i (x1)] (true, X, I, J)) (some (z_r 32 q42), (true, X37, I38, J39)) ∧ r = (some (z_i (-13)), (true, X37, I38, J39))))) ∧ ((10 : Int32) ≤ (I 22 0 k32) → ((¬ (I 22 0 k32) = x2 → r = (some (z_i (-13)), (true, X, I, J))) ∧ ((I 22 0 k32) = x2 → r = (some (z_i (I 23 0 k32)), (true, X, I, J)))))))) ∧ ((z_bw (x2 - (10 : Int32)) 0 3) = false → r = (some (z_i (-1)), (true, X, I, J))))))) ∧ (x2 ≤ (3 : Int32) → (((z_bw x1 0 3) = false → r = (some (z_i (-1)), (true, X, I, J))) ∧ ((z_bw x1 0 3) = true → (∃ k58 : Nat, x1 = Int32.ofNat k58 ∧ k58 < 4 ∧ (((I 22 0 k58) < (10 : Int32) → ((∃ (X63 : z_X) (I64 : Nat → Nat → Nat → Int32) (J65 : Nat → Nat → Nat → Int64), z_ev (d + 1) (z_en 155 [z_r 0 0, z_i (x1)] (true, X, I, J)) (some z_n, (true, X63, I64, J65)) ∧ r = (some (z_i (-11)), (true, X63, I64, J65))) ∨ (∃ (q68 : Nat) (X63 : z_X) (I64 : Nat → Nat → Nat → Int32) (J65 : Nat → Nat → Nat → Int64), z_ev (d + 1) (z_en 155 [z_r 0 0, z_i (x1)] (true, X, I, J)) (some (z_r 32 q68), (true, X63, I64, J65)) ∧ (∃ (b79 : Bool) (X74 : z_X) (I75 : Nat → Nat → Nat → Int32) (J76 : Nat → Nat → Nat → Int64), z_ev (d + 1) (z_en 156 [z_r 32 q68, z_i (x2)] (true, X63, I64, J65)) (some (z_i (z_c b79)), (true, X74, I75, J76)) ∧ ((b79 = false → r = (some (z_i (-13)), (true, X74, I75, J76))) ∧ (b79 = true → (q68 < X74.1 ∧ r = (some (z_i (I75 32 q68 1)), (true, X74, I75, J76))))))))) ∧ ((10 : Int32) ≤ (I 22 0 k58) → ((¬ (I 22 0 k58) = x2 → r = (some (z_i (-13)), (true, X, I, J))) ∧ ((I 22 0 k58) = x2 → r = (some (z_i (I 23 0 k58)), (true, X, I, J)))))))))))))) :
    z_ev (d + 2) (z_en 112 [z_r 0 0, z_i (x1), z_i (x2)] (true, X, I, J)) r := by
  show z_ev (d + 2) (112, 0, [some (z_r 0 0), some (z_i (x1)), some (z_i (x2)), none, none], [], (true, X, I, J)) r
  refine z_ev_gs 2 (c1 := (112, (if x2 < 0 then 13 else 4), [some (z_r 0 0), some (z_i (x1)), some (z_i (x2)), none, none], [], (true, X, I, J))) rfl ?_
  refine z_ev_iflt (fun e1 => ?_) (fun e1 => ?_)
  · have h94 := h.1 e1
    refine z_ev_gs 3 (c1 := (112, 16, [some (z_r 0 0), some (z_i (x1)), some (z_i (x2)), some (z_i 0), none], [z_i (x1)], (true, X, I, J))) rfl ?_
    refine z_ev_ca rfl rfl (z_p124 _) ?_
    refine z_ev_gs 1 (c1 := (112, (if z_c (z_bw x1 0 3) = 0 then 36 else 22), [some (z_r 0 0), some (z_i (x1)), some (z_i (x2)), some (z_i 0), none], [], (true, X, I, J))) rfl ?_
    refine z_ev_ifc (fun e2 => ?_) (fun e2 => ?_)
    · have h27 := h94.1 e2
      refine z_ev_gs 1 (c1 := (112, 37, [some (z_r 0 0), some (z_i (x1)), some (z_i (x2)), some (z_i 0), none], [z_i (-1)], (true, X, I, J))) rfl ?_
      rw [h27]
      exact z_ev_rt rfl
    · have h28 := h94.2 e2
      refine z_ev_gs 2 (c1 := (112, 26, [some (z_r 0 0), some (z_i (x1)), some (z_i (x2)), some (z_i 0), none], [], (true, X, I, J))) rfl ?_
      refine z_ev_gs 3 (c1 := (112, 30, [some (z_r 0 0), some (z_i (x1)), some (z_i (x2)), some (z_i 0), none], [z_i (x2 - (10 : Int32))], (true, X, I, J))) rfl ?_
      refine z_ev_ca rfl rfl (z_p123 _) ?_
      refine z_ev_gs 1 (c1 := (112, (if ¬ z_c (z_bw (x2 - (10 : Int32)) 0 3) = 0 then 38 else 36), [some (z_r 0 0), some (z_i (x1)), some (z_i (x2)), some (z_i 0), none], [], (true, X, I, J))) rfl ?_
      refine z_ev_ifcn (fun e3 => ?_) (fun e3 => ?_)
      · have h25 := h28.1 e3
        refine z_ev_gs 3 (c1 := (112, 43, [some (z_r 0 0), some (z_i (x1)), some (z_i (x2)), some (z_i 0), none], [z_i (x1), z_r 22 0], (true, X, I, J))) rfl ?_
        obtain ⟨k4, e5, e6, h7⟩ := h25
        refine z_ev_iald (t := 22) (i := 0) (k := k4) (n := 4) rfl rfl e5 e6 (by decide) ?_
        refine z_ev_gs 2 (c1 := (112, (if (I 22 0 k4) < (10 : Int32) then 71 else 49), [some (z_r 0 0), some (z_i (x1)), some (z_i (x2)), some (z_i 0), none], [], (true, X, I, J))) rfl ?_
        refine z_ev_iflt (fun e8 => ?_) (fun e8 => ?_)
        · have h23 := h7.1 e8
          refine z_ev_gs 2 (c1 := (112, 73, [some (z_r 0 0), some (z_i (x1)), some (z_i (x2)), some (z_i 0), none], [z_i (x1), z_r 0 0], (true, X, I, J))) rfl ?_
          rcases h23 with ⟨X9, I10, J11, g15, h18⟩ | ⟨q14, X9, I10, J11, g15, h19⟩
          · refine z_ev_ca rfl rfl g15 ?_
            refine z_ev_gs 4 (c1 := (112, 85, [some (z_r 0 0), some (z_i (x1)), some (z_i (x2)), some (z_i 0), some (z_n)], [z_i (-11)], (true, X9, I10, J11))) rfl ?_
            rw [h18]
            exact z_ev_rt rfl
          · refine z_ev_ca rfl rfl g15 ?_
            refine z_ev_gs 5 (c1 := (112, 107, [some (z_r 0 0), some (z_i (x1)), some (z_i (x2)), some (z_i 0), some (z_r 32 q14)], [], (true, X9, I10, J11))) rfl ?_
            refine z_ev_gs 1 (c1 := (112, 109, [some (z_r 0 0), some (z_i (x1)), some (z_i (x2)), some (z_i 0), some (z_r 32 q14)], [z_i (-13)], (true, X9, I10, J11))) rfl ?_
            rw [h19]
            exact z_ev_rt rfl
        · have h24 := h7.2 e8
          refine z_ev_gs 3 (c1 := (112, 54, [some (z_r 0 0), some (z_i (x1)), some (z_i (x2)), some (z_i 0), none], [z_i (x1), z_r 22 0], (true, X, I, J))) rfl ?_
          refine z_ev_iald (t := 22) (i := 0) (k := k4) (n := 4) rfl rfl e5 (Nat.lt_of_lt_of_le e6 (by decide)) (by decide) ?_
          refine z_ev_gs 2 (c1 := (112, (if ¬ (I 22 0 k4) = x2 then 68 else 59), [some (z_r 0 0), some (z_i (x1)), some (z_i (x2)), some (z_i 0), none], [], (true, X, I, J))) rfl ?_
          refine z_ev_ifn (fun e20 => ?_) (fun e20 => ?_)
          · have h21 := h24.1 e20
            refine z_ev_gs 1 (c1 := (112, 70, [some (z_r 0 0), some (z_i (x1)), some (z_i (x2)), some (z_i 0), none], [z_i (-13)], (true, X, I, J))) rfl ?_
            rw [h21]
            exact z_ev_rt rfl
          · have h22 := h24.2 e20
            refine z_ev_gs 3 (c1 := (112, 64, [some (z_r 0 0), some (z_i (x1)), some (z_i (x2)), some (z_i 0), none], [z_i (x1), z_r 23 0], (true, X, I, J))) rfl ?_
            refine z_ev_iald (t := 23) (i := 0) (k := k4) (n := 4) rfl rfl e5 (Nat.lt_of_lt_of_le e6 (by decide)) (by decide) ?_
            refine z_ev_gs 1 (c1 := (112, 70, [some (z_r 0 0), some (z_i (x1)), some (z_i (x2)), some (z_i 0), none], [z_i (I 23 0 k4)], (true, X, I, J))) rfl ?_
            rw [h22]
            exact z_ev_rt rfl
      · have h26 := h28.2 e3
        refine z_ev_gs 1 (c1 := (112, 37, [some (z_r 0 0), some (z_i (x1)), some (z_i (x2)), some (z_i 0), none], [z_i (-1)], (true, X, I, J))) rfl ?_
        rw [h26]
        exact z_ev_rt rfl
  · have h95 := h.2 e1
    refine z_ev_gs 3 (c1 := (112, (if (3 : Int32) < x2 then 13 else 9), [some (z_r 0 0), some (z_i (x1)), some (z_i (x2)), none, none], [], (true, X, I, J))) rfl ?_
    refine z_ev_iflt (fun e29 => ?_) (fun e29 => ?_)
    · have h92 := h95.1 e29
      refine z_ev_gs 3 (c1 := (112, 16, [some (z_r 0 0), some (z_i (x1)), some (z_i (x2)), some (z_i 0), none], [z_i (x1)], (true, X, I, J))) rfl ?_
      refine z_ev_ca rfl rfl (z_p124 _) ?_
      refine z_ev_gs 1 (c1 := (112, (if z_c (z_bw x1 0 3) = 0 then 36 else 22), [some (z_r 0 0), some (z_i (x1)), some (z_i (x2)), some (z_i 0), none], [], (true, X, I, J))) rfl ?_
      refine z_ev_ifc (fun e30 => ?_) (fun e30 => ?_)
      · have h55 := h92.1 e30
        refine z_ev_gs 1 (c1 := (112, 37, [some (z_r 0 0), some (z_i (x1)), some (z_i (x2)), some (z_i 0), none], [z_i (-1)], (true, X, I, J))) rfl ?_
        rw [h55]
        exact z_ev_rt rfl
      · have h56 := h92.2 e30
        refine z_ev_gs 2 (c1 := (112, 26, [some (z_r 0 0), some (z_i (x1)), some (z_i (x2)), some (z_i 0), none], [], (true, X, I, J))) rfl ?_
        refine z_ev_gs 3 (c1 := (112, 30, [some (z_r 0 0), some (z_i (x1)), some (z_i (x2)), some (z_i 0), none], [z_i (x2 - (10 : Int32))], (true, X, I, J))) rfl ?_
        refine z_ev_ca rfl rfl (z_p123 _) ?_
        refine z_ev_gs 1 (c1 := (112, (if ¬ z_c (z_bw (x2 - (10 : Int32)) 0 3) = 0 then 38 else 36), [some (z_r 0 0), some (z_i (x1)), some (z_i (x2)), some (z_i 0), none], [], (true, X, I, J))) rfl ?_
        refine z_ev_ifcn (fun e31 => ?_) (fun e31 => ?_)
        · have h53 := h56.1 e31
          refine z_ev_gs 3 (c1 := (112, 43, [some (z_r 0 0), some (z_i (x1)), some (z_i (x2)), some (z_i 0), none], [z_i (x1), z_r 22 0], (true, X, I, J))) rfl ?_
          obtain ⟨k32, e33, e34, h35⟩ := h53
          refine z_ev_iald (t := 22) (i := 0) (k := k32) (n := 4) rfl rfl e33 e34 (by decide) ?_
          refine z_ev_gs 2 (c1 := (112, (if (I 22 0 k32) < (10 : Int32) then 71 else 49), [some (z_r 0 0), some (z_i (x1)), some (z_i (x2)), some (z_i 0), none], [], (true, X, I, J))) rfl ?_
          refine z_ev_iflt (fun e36 => ?_) (fun e36 => ?_)
          · have h51 := h35.1 e36
            refine z_ev_gs 2 (c1 := (112, 73, [some (z_r 0 0), some (z_i (x1)), some (z_i (x2)), some (z_i 0), none], [z_i (x1), z_r 0 0], (true, X, I, J))) rfl ?_
            rcases h51 with ⟨X37, I38, J39, g43, h46⟩ | ⟨q42, X37, I38, J39, g43, h47⟩
            · refine z_ev_ca rfl rfl g43 ?_
              refine z_ev_gs 4 (c1 := (112, 85, [some (z_r 0 0), some (z_i (x1)), some (z_i (x2)), some (z_i 0), some (z_n)], [z_i (-11)], (true, X37, I38, J39))) rfl ?_
              rw [h46]
              exact z_ev_rt rfl
            · refine z_ev_ca rfl rfl g43 ?_
              refine z_ev_gs 5 (c1 := (112, 107, [some (z_r 0 0), some (z_i (x1)), some (z_i (x2)), some (z_i 0), some (z_r 32 q42)], [], (true, X37, I38, J39))) rfl ?_
              refine z_ev_gs 1 (c1 := (112, 109, [some (z_r 0 0), some (z_i (x1)), some (z_i (x2)), some (z_i 0), some (z_r 32 q42)], [z_i (-13)], (true, X37, I38, J39))) rfl ?_
              rw [h47]
              exact z_ev_rt rfl
          · have h52 := h35.2 e36
            refine z_ev_gs 3 (c1 := (112, 54, [some (z_r 0 0), some (z_i (x1)), some (z_i (x2)), some (z_i 0), none], [z_i (x1), z_r 22 0], (true, X, I, J))) rfl ?_
            refine z_ev_iald (t := 22) (i := 0) (k := k32) (n := 4) rfl rfl e33 (Nat.lt_of_lt_of_le e34 (by decide)) (by decide) ?_
            refine z_ev_gs 2 (c1 := (112, (if ¬ (I 22 0 k32) = x2 then 68 else 59), [some (z_r 0 0), some (z_i (x1)), some (z_i (x2)), some (z_i 0), none], [], (true, X, I, J))) rfl ?_
            refine z_ev_ifn (fun e48 => ?_) (fun e48 => ?_)
            · have h49 := h52.1 e48
              refine z_ev_gs 1 (c1 := (112, 70, [some (z_r 0 0), some (z_i (x1)), some (z_i (x2)), some (z_i 0), none], [z_i (-13)], (true, X, I, J))) rfl ?_
              rw [h49]
              exact z_ev_rt rfl
            · have h50 := h52.2 e48
              refine z_ev_gs 3 (c1 := (112, 64, [some (z_r 0 0), some (z_i (x1)), some (z_i (x2)), some (z_i 0), none], [z_i (x1), z_r 23 0], (true, X, I, J))) rfl ?_
              refine z_ev_iald (t := 23) (i := 0) (k := k32) (n := 4) rfl rfl e33 (Nat.lt_of_lt_of_le e34 (by decide)) (by decide) ?_
              refine z_ev_gs 1 (c1 := (112, 70, [some (z_r 0 0), some (z_i (x1)), some (z_i (x2)), some (z_i 0), none], [z_i (I 23 0 k32)], (true, X, I, J))) rfl ?_
              rw [h50]
              exact z_ev_rt rfl
        · have h54 := h56.2 e31
          refine z_ev_gs 1 (c1 := (112, 37, [some (z_r 0 0), some (z_i (x1)), some (z_i (x2)), some (z_i 0), none], [z_i (-1)], (true, X, I, J))) rfl ?_
          rw [h54]
          exact z_ev_rt rfl
    · have h93 := h95.2 e29
      refine z_ev_gs 4 (c1 := (112, 16, [some (z_r 0 0), some (z_i (x1)), some (z_i (x2)), some (z_i 1), none], [z_i (x1)], (true, X, I, J))) rfl ?_
      refine z_ev_ca rfl rfl (z_p124 _) ?_
      refine z_ev_gs 1 (c1 := (112, (if z_c (z_bw x1 0 3) = 0 then 36 else 22), [some (z_r 0 0), some (z_i (x1)), some (z_i (x2)), some (z_i 1), none], [], (true, X, I, J))) rfl ?_
      refine z_ev_ifc (fun e57 => ?_) (fun e57 => ?_)
      · have h90 := h93.1 e57
        refine z_ev_gs 1 (c1 := (112, 37, [some (z_r 0 0), some (z_i (x1)), some (z_i (x2)), some (z_i 1), none], [z_i (-1)], (true, X, I, J))) rfl ?_
        rw [h90]
        exact z_ev_rt rfl
      · have h91 := h93.2 e57
        refine z_ev_gs 2 (c1 := (112, 38, [some (z_r 0 0), some (z_i (x1)), some (z_i (x2)), some (z_i 1), none], [], (true, X, I, J))) rfl ?_
        refine z_ev_gs 3 (c1 := (112, 43, [some (z_r 0 0), some (z_i (x1)), some (z_i (x2)), some (z_i 1), none], [z_i (x1), z_r 22 0], (true, X, I, J))) rfl ?_
        obtain ⟨k58, e59, e60, h61⟩ := h91
        refine z_ev_iald (t := 22) (i := 0) (k := k58) (n := 4) rfl rfl e59 e60 (by decide) ?_
        refine z_ev_gs 2 (c1 := (112, (if (I 22 0 k58) < (10 : Int32) then 71 else 49), [some (z_r 0 0), some (z_i (x1)), some (z_i (x2)), some (z_i 1), none], [], (true, X, I, J))) rfl ?_
        refine z_ev_iflt (fun e62 => ?_) (fun e62 => ?_)
        · have h88 := h61.1 e62
          refine z_ev_gs 2 (c1 := (112, 73, [some (z_r 0 0), some (z_i (x1)), some (z_i (x2)), some (z_i 1), none], [z_i (x1), z_r 0 0], (true, X, I, J))) rfl ?_
          rcases h88 with ⟨X63, I64, J65, g69, h72⟩ | ⟨q68, X63, I64, J65, g69, h73⟩
          · refine z_ev_ca rfl rfl g69 ?_
            refine z_ev_gs 4 (c1 := (112, 85, [some (z_r 0 0), some (z_i (x1)), some (z_i (x2)), some (z_i 1), some (z_n)], [z_i (-11)], (true, X63, I64, J65))) rfl ?_
            rw [h72]
            exact z_ev_rt rfl
          · refine z_ev_ca rfl rfl g69 ?_
            refine z_ev_gs 5 (c1 := (112, 90, [some (z_r 0 0), some (z_i (x1)), some (z_i (x2)), some (z_i 1), some (z_r 32 q68)], [], (true, X63, I64, J65))) rfl ?_
            refine z_ev_gs 2 (c1 := (112, 93, [some (z_r 0 0), some (z_i (x1)), some (z_i (x2)), some (z_i 1), some (z_r 32 q68)], [z_i (x2), z_r 32 q68], (true, X63, I64, J65))) rfl ?_
            obtain ⟨b79, X74, I75, J76, g77, h78⟩ := h73
            refine z_ev_ca rfl rfl g77 ?_
            refine z_ev_gs 1 (c1 := (112, (if z_c b79 = 0 then 107 else 99), [some (z_r 0 0), some (z_i (x1)), some (z_i (x2)), some (z_i 1), some (z_r 32 q68)], [], (true, X74, I75, J76))) rfl ?_
            refine z_ev_ifc (fun e80 => ?_) (fun e80 => ?_)
            · have h83 := h78.1 e80
              refine z_ev_gs 1 (c1 := (112, 109, [some (z_r 0 0), some (z_i (x1)), some (z_i (x2)), some (z_i 1), some (z_r 32 q68)], [z_i (-13)], (true, X74, I75, J76))) rfl ?_
              rw [h83]
              exact z_ev_rt rfl
            · have h84 := h78.2 e80
              refine z_ev_gs 1 (c1 := (112, 101, [some (z_r 0 0), some (z_i (x1)), some (z_i (x2)), some (z_i 1), some (z_r 32 q68)], [z_r 32 q68], (true, X74, I75, J76))) rfl ?_
              obtain ⟨g81, h82⟩ := h84
              refine z_ev_gi (c1 := (112, 104, [some (z_r 0 0), some (z_i (x1)), some (z_i (x2)), some (z_i 1), some (z_r 32 q68)], [z_i (I75 32 q68 1)], (true, X74, I75, J76))) rfl g81 ?_
              refine z_ev_gs 1 (c1 := (112, 109, [some (z_r 0 0), some (z_i (x1)), some (z_i (x2)), some (z_i 1), some (z_r 32 q68)], [z_i (I75 32 q68 1)], (true, X74, I75, J76))) rfl ?_
              rw [h82]
              exact z_ev_rt rfl
        · have h89 := h61.2 e62
          refine z_ev_gs 3 (c1 := (112, 54, [some (z_r 0 0), some (z_i (x1)), some (z_i (x2)), some (z_i 1), none], [z_i (x1), z_r 22 0], (true, X, I, J))) rfl ?_
          refine z_ev_iald (t := 22) (i := 0) (k := k58) (n := 4) rfl rfl e59 (Nat.lt_of_lt_of_le e60 (by decide)) (by decide) ?_
          refine z_ev_gs 2 (c1 := (112, (if ¬ (I 22 0 k58) = x2 then 68 else 59), [some (z_r 0 0), some (z_i (x1)), some (z_i (x2)), some (z_i 1), none], [], (true, X, I, J))) rfl ?_
          refine z_ev_ifn (fun e85 => ?_) (fun e85 => ?_)
          · have h86 := h89.1 e85
            refine z_ev_gs 1 (c1 := (112, 70, [some (z_r 0 0), some (z_i (x1)), some (z_i (x2)), some (z_i 1), none], [z_i (-13)], (true, X, I, J))) rfl ?_
            rw [h86]
            exact z_ev_rt rfl
          · have h87 := h89.2 e85
            refine z_ev_gs 3 (c1 := (112, 64, [some (z_r 0 0), some (z_i (x1)), some (z_i (x2)), some (z_i 1), none], [z_i (x1), z_r 23 0], (true, X, I, J))) rfl ?_
            refine z_ev_iald (t := 23) (i := 0) (k := k58) (n := 4) rfl rfl e59 (Nat.lt_of_lt_of_le e60 (by decide)) (by decide) ?_
            refine z_ev_gs 1 (c1 := (112, 70, [some (z_r 0 0), some (z_i (x1)), some (z_i (x2)), some (z_i 1), none], [z_i (I 23 0 k58)], (true, X, I, J))) rfl ?_
            rw [h87]
            exact z_ev_rt rfl
theorem z_q256_e {d : Nat} {r : Option z_V × z_M} {X : z_X} {I : Nat → Nat → Nat → Int32} {J : Nat → Nat → Nat → Int64} (x1 : Int32)
    (h : (∃ k1 : Nat, x1 = Int32.ofNat k1 ∧ k1 < 4 ∧ (((I 58 0 k1) = 0 → (((z_bw (I 59 0 k1) 0 ((I 33 0 8) - 1)) = false → r = (some (z_i (-1)), (true, X, I, J))) ∧ ((z_bw (I 59 0 k1) 0 ((I 33 0 8) - 1)) = true → (∃ (v12 : Int32) (X7 : z_X) (I8 : Nat → Nat → Nat → Int32) (J9 : Nat → Nat → Nat → Int64), z_ev (d + 1) (z_en 229 [z_r 33 0, z_i (I 59 0 k1), z_i 0] (true, X, I, J)) (some (z_i (v12)), (true, X7, I8, J9)) ∧ r = (some (z_i (v12)), (true, X7, I8, J9)))))) ∧ (¬ (I 58 0 k1) = 0 → ((0 ≤ (I 58 0 k1) → r = (some (z_i 9), (true, X, I, J))) ∧ ((I 58 0 k1) < 0 → r = (some (z_i (-1)), (true, X, I, J)))))))) :
    z_ev (d + 2) (z_en 256 [z_r 33 0, z_i (x1)] (true, X, I, J)) r := by
  show z_ev (d + 2) (256, 0, [some (z_r 33 0), some (z_i (x1))], [], (true, X, I, J)) r
  refine z_ev_gs 3 (c1 := (256, 5, [some (z_r 33 0), some (z_i (x1))], [z_i (x1), z_r 58 0], (true, X, I, J))) rfl ?_
  obtain ⟨k1, e2, e3, h4⟩ := h
  refine z_ev_iald (t := 58) (i := 0) (k := k1) (n := 4) rfl rfl e2 e3 (by decide) ?_
  refine z_ev_gs 1 (c1 := (256, (if (I 58 0 k1) = 0 then 25 else 9), [some (z_r 33 0), some (z_i (x1))], [], (true, X, I, J))) rfl ?_
  refine z_ev_if (fun e5 => ?_) (fun e5 => ?_)
  · have h18 := h4.1 e5
    refine z_ev_gs 4 (c1 := (256, 31, [some (z_r 33 0), some (z_i (x1))], [z_i (x1), z_r 59 0, z_r 33 0], (true, X, I, J))) rfl ?_
    refine z_ev_iald (t := 59) (i := 0) (k := k1) (n := 4) rfl rfl e2 (Nat.lt_of_lt_of_le e3 (by decide)) (by decide) ?_
    refine z_ev_ca rfl rfl (z_p228 _) ?_
    refine z_ev_gs 1 (c1 := (256, (if z_c (z_bw (I 59 0 k1) 0 ((I 33 0 8) - 1)) = 0 then 52 else 38), [some (z_r 33 0), some (z_i (x1))], [], (true, X, I, J))) rfl ?_
    refine z_ev_ifc (fun e6 => ?_) (fun e6 => ?_)
    · have h13 := h18.1 e6
      refine z_ev_gs 1 (c1 := (256, 53, [some (z_r 33 0), some (z_i (x1))], [z_i (-1)], (true, X, I, J))) rfl ?_
      rw [h13]
      exact z_ev_rt rfl
    · have h14 := h18.2 e6
      refine z_ev_gs 4 (c1 := (256, 44, [some (z_r 33 0), some (z_i (x1))], [z_i (x1), z_r 59 0, z_r 33 0], (true, X, I, J))) rfl ?_
      refine z_ev_iald (t := 59) (i := 0) (k := k1) (n := 4) rfl rfl e2 (Nat.lt_of_lt_of_le e3 (by decide)) (by decide) ?_
      refine z_ev_gs 1 (c1 := (256, 46, [some (z_r 33 0), some (z_i (x1))], [z_i 0, z_i (I 59 0 k1), z_r 33 0], (true, X, I, J))) rfl ?_
      obtain ⟨v12, X7, I8, J9, g10, h11⟩ := h14
      refine z_ev_ca rfl rfl g10 ?_
      refine z_ev_gs 1 (c1 := (256, 53, [some (z_r 33 0), some (z_i (x1))], [z_i (v12)], (true, X7, I8, J9))) rfl ?_
      rw [h11]
      exact z_ev_rt rfl
  · have h19 := h4.2 e5
    refine z_ev_gs 3 (c1 := (256, 14, [some (z_r 33 0), some (z_i (x1))], [z_i (x1), z_r 58 0], (true, X, I, J))) rfl ?_
    refine z_ev_iald (t := 58) (i := 0) (k := k1) (n := 4) rfl rfl e2 (Nat.lt_of_lt_of_le e3 (by decide)) (by decide) ?_
    refine z_ev_gs 1 (c1 := (256, (if 0 ≤ (I 58 0 k1) then 22 else 18), [some (z_r 33 0), some (z_i (x1))], [], (true, X, I, J))) rfl ?_
    refine z_ev_ifle (fun e15 => ?_) (fun e15 => ?_)
    · have h16 := h19.1 e15
      refine z_ev_gs 1 (c1 := (256, 24, [some (z_r 33 0), some (z_i (x1))], [z_i 9], (true, X, I, J))) rfl ?_
      rw [h16]
      exact z_ev_rt rfl
    · have h17 := h19.2 e15
      refine z_ev_gs 2 (c1 := (256, 24, [some (z_r 33 0), some (z_i (x1))], [z_i (-1)], (true, X, I, J))) rfl ?_
      rw [h17]
      exact z_ev_rt rfl
theorem z_q257_e {d : Nat} {r : Option z_V × z_M} {X : z_X} {I : Nat → Nat → Nat → Int32} {J : Nat → Nat → Nat → Int64} (x0 : Int32) (x1 : Int32)
    (h : ((x1 = 0 → r = (some (z_i 1), (true, X, I, J))) ∧ (¬ x1 = 0 → ((x1 = x0 → r = (some (z_i 1), (true, X, I, J))) ∧ (¬ x1 = x0 → ((¬ x1 = (1 : Int32) → r = (some (z_i 0), (true, X, I, J))) ∧ (x1 = (1 : Int32) → ((x0 = 0 → r = (some (z_i 0), (true, X, I, J))) ∧ (¬ x0 = 0 → r = (some (z_i 1), (true, X, I, J))))))))))) :
    z_ev d (z_en 257 [z_i (x0), z_i (x1)] (true, X, I, J)) r := by
  show z_ev d (257, 0, [some (z_i (x0)), some (z_i (x1))], [], (true, X, I, J)) r
  refine z_ev_gs 2 (c1 := (257, (if x1 = 0 then 18 else 4), [some (z_i (x0)), some (z_i (x1))], [], (true, X, I, J))) rfl ?_
  refine z_ev_if (fun e1 => ?_) (fun e1 => ?_)
  · have h11 := h.1 e1
    refine z_ev_gs 2 (c1 := (257, 23, [some (z_i (x0)), some (z_i (x1))], [z_i 1], (true, X, I, J))) rfl ?_
    rw [h11]
    exact z_ev_rt rfl
  · have h12 := h.2 e1
    refine z_ev_gs 3 (c1 := (257, (if x1 = x0 then 18 else 9), [some (z_i (x0)), some (z_i (x1))], [], (true, X, I, J))) rfl ?_
    refine z_ev_if (fun e2 => ?_) (fun e2 => ?_)
    · have h9 := h12.1 e2
      refine z_ev_gs 2 (c1 := (257, 23, [some (z_i (x0)), some (z_i (x1))], [z_i 1], (true, X, I, J))) rfl ?_
      rw [h9]
      exact z_ev_rt rfl
    · have h10 := h12.2 e2
      refine z_ev_gs 3 (c1 := (257, (if ¬ x1 = (1 : Int32) then 22 else 14), [some (z_i (x0)), some (z_i (x1))], [], (true, X, I, J))) rfl ?_
      refine z_ev_ifn (fun e3 => ?_) (fun e3 => ?_)
      · have h7 := h10.1 e3
        refine z_ev_gs 1 (c1 := (257, 23, [some (z_i (x0)), some (z_i (x1))], [z_i 0], (true, X, I, J))) rfl ?_
        rw [h7]
        exact z_ev_rt rfl
      · have h8 := h10.2 e3
        refine z_ev_gs 2 (c1 := (257, (if x0 = 0 then 22 else 18), [some (z_i (x0)), some (z_i (x1))], [], (true, X, I, J))) rfl ?_
        refine z_ev_if (fun e4 => ?_) (fun e4 => ?_)
        · have h5 := h8.1 e4
          refine z_ev_gs 1 (c1 := (257, 23, [some (z_i (x0)), some (z_i (x1))], [z_i 0], (true, X, I, J))) rfl ?_
          rw [h5]
          exact z_ev_rt rfl
        · have h6 := h8.2 e4
          refine z_ev_gs 2 (c1 := (257, 23, [some (z_i (x0)), some (z_i (x1))], [z_i 1], (true, X, I, J))) rfl ?_
          rw [h6]
          exact z_ev_rt rfl
theorem z_q258_e {d : Nat} {r : Option z_V × z_M} {X : z_X} {I : Nat → Nat → Nat → Int32} {J : Nat → Nat → Nat → Int64} (x1 : Int32) (x2 : Int32)
    (h : (((z_bw x1 0 3) = false → r = (some (z_i (-1)), (true, X, I, J))) ∧ ((z_bw x1 0 3) = true → (((z_bw x2 (0 : Int32) (3 : Int32)) = true → (∃ (v8 : Int32) (X3 : z_X) (I4 : Nat → Nat → Nat → Int32) (J5 : Nat → Nat → Nat → Int64), z_ev (d + 2) (z_en 256 [z_r 33 0, z_i (x1)] (true, X, I, J)) (some (z_i (v8)), (true, X3, I4, J5)) ∧ ((0 ≤ v8 → ((¬ v8 = (9 : Int32) → (((10 : Int32) ≤ x2 → r = (some (z_i (-13)), (true, X3, I4, J5))) ∧ (x2 < (10 : Int32) → (∃ (b17 : Bool) (X12 : z_X) (I13 : Nat → Nat → Nat → Int32) (J14 : Nat → Nat → Nat → Int64), z_ev (d + 2) (z_en 257 [z_i (v8), z_i (x2)] (true, X3, I4, J5)) (some (z_i (z_c b17)), (true, X12, I13, J14)) ∧ ((b17 = false → r = (some (z_i (-13)), (true, X12, I13, J14))) ∧ (b17 = true → (∃ k19 : Nat, x1 = Int32.ofNat k19 ∧ k19 < 4 ∧ r = (some (z_i (I13 59 0 k19)), (true, X12, I13, J14))))))))) ∧ (v8 = (9 : Int32) → (∃ k27 : Nat, x1 = Int32.ofNat k27 ∧ k27 < 4 ∧ ((¬ x2 = ((10 : Int32) + (I4 59 0 k27)) → r = (some (z_i (-13)), (true, X3, I4, J5))) ∧ (x2 = ((10 : Int32) + (I4 59 0 k27)) → r = (some (z_i (I4 60 0 k27)), (true, X3, I4, J5)))))))) ∧ (v8 < 0 → r = (some (z_i (-11)), (true, X3, I4, J5)))))) ∧ ((z_bw x2 (0 : Int32) (3 : Int32)) = false → (((z_bw x2 (10 : Int32) (13 : Int32)) = true → (∃ (v44 : Int32) (X39 : z_X) (I40 : Nat → Nat → Nat → Int32) (J41 : Nat → Nat → Nat → Int64), z_ev (d + 2) (z_en 256 [z_r 33 0, z_i (x1)] (true, X, I, J)) (some (z_i (v44)), (true, X39, I40, J41)) ∧ ((0 ≤ v44 → ((¬ v44 = (9 : Int32) → (((10 : Int32) ≤ x2 → r = (some (z_i (-13)), (true, X39, I40, J41))) ∧ (x2 < (10 : Int32) → (∃ (b53 : Bool) (X48 : z_X) (I49 : Nat → Nat → Nat → Int32) (J50 : Nat → Nat → Nat → Int64), z_ev (d + 2) (z_en 257 [z_i (v44), z_i (x2)] (true, X39, I40, J41)) (some (z_i (z_c b53)), (true, X48, I49, J50)) ∧ ((b53 = false → r = (some (z_i (-13)), (true, X48, I49, J50))) ∧ (b53 = true → (∃ k55 : Nat, x1 = Int32.ofNat k55 ∧ k55 < 4 ∧ r = (some (z_i (I49 59 0 k55)), (true, X48, I49, J50))))))))) ∧ (v44 = (9 : Int32) → (∃ k63 : Nat, x1 = Int32.ofNat k63 ∧ k63 < 4 ∧ ((¬ x2 = ((10 : Int32) + (I40 59 0 k63)) → r = (some (z_i (-13)), (true, X39, I40, J41))) ∧ (x2 = ((10 : Int32) + (I40 59 0 k63)) → r = (some (z_i (I40 60 0 k63)), (true, X39, I40, J41)))))))) ∧ (v44 < 0 → r = (some (z_i (-11)), (true, X39, I40, J41)))))) ∧ ((z_bw x2 (10 : Int32) (13 : Int32)) = false → r = (some (z_i (-1)), (true, X, I, J))))))))) :
    z_ev (d + 3) (z_en 258 [z_r 33 0, z_i (x1), z_i (x2)] (true, X, I, J)) r := by
  show z_ev (d + 3) (258, 0, [some (z_r 33 0), some (z_i (x1)), some (z_i (x2)), none], [], (true, X, I, J)) r
  refine z_ev_gs 1 (c1 := (258, 1, [some (z_r 33 0), some (z_i (x1)), some (z_i (x2)), none], [z_i (x1)], (true, X, I, J))) rfl ?_
  refine z_ev_ca rfl rfl (z_p249 _) ?_
  refine z_ev_gs 1 (c1 := (258, (if z_c (z_bw x1 0 3) = 0 then 27 else 7), [some (z_r 33 0), some (z_i (x1)), some (z_i (x2)), none], [], (true, X, I, J))) rfl ?_
  refine z_ev_ifc (fun e1 => ?_) (fun e1 => ?_)
  · have h78 := h.1 e1
    refine z_ev_gs 1 (c1 := (258, 28, [some (z_r 33 0), some (z_i (x1)), some (z_i (x2)), none], [z_i (-1)], (true, X, I, J))) rfl ?_
    rw [h78]
    exact z_ev_rt rfl
  · have h79 := h.2 e1
    refine z_ev_gs 3 (c1 := (258, 10, [some (z_r 33 0), some (z_i (x1)), some (z_i (x2)), none], [z_i 3, z_i 0, z_i (x2)], (true, X, I, J))) rfl ?_
    refine z_ev_ca rfl rfl (z_p158 _ _ _) ?_
    refine z_ev_gs 1 (c1 := (258, (if ¬ z_c (z_bw x2 (0 : Int32) (3 : Int32)) = 0 then 29 else 16), [some (z_r 33 0), some (z_i (x1)), some (z_i (x2)), none], [], (true, X, I, J))) rfl ?_
    refine z_ev_ifcn (fun e2 => ?_) (fun e2 => ?_)
    · have h76 := h79.1 e2
      refine z_ev_gs 2 (c1 := (258, 31, [some (z_r 33 0), some (z_i (x1)), some (z_i (x2)), none], [z_i (x1), z_r 33 0], (true, X, I, J))) rfl ?_
      obtain ⟨v8, X3, I4, J5, g6, h7⟩ := h76
      refine z_ev_ca rfl rfl g6 ?_
      refine z_ev_gs 3 (c1 := (258, (if 0 ≤ v8 then 42 else 39), [some (z_r 33 0), some (z_i (x1)), some (z_i (x2)), some (z_i (v8))], [], (true, X3, I4, J5))) rfl ?_
      refine z_ev_ifle (fun e9 => ?_) (fun e9 => ?_)
      · have h36 := h7.1 e9
        refine z_ev_gs 3 (c1 := (258, (if ¬ v8 = (9 : Int32) then 73 else 48), [some (z_r 33 0), some (z_i (x1)), some (z_i (x2)), some (z_i (v8))], [], (true, X3, I4, J5))) rfl ?_
        refine z_ev_ifn (fun e10 => ?_) (fun e10 => ?_)
        · have h34 := h36.1 e10
          refine z_ev_gs 3 (c1 := (258, (if (10 : Int32) ≤ x2 then 96 else 79), [some (z_r 33 0), some (z_i (x1)), some (z_i (x2)), some (z_i (v8))], [], (true, X3, I4, J5))) rfl ?_
          refine z_ev_ifle (fun e11 => ?_) (fun e11 => ?_)
          · have h25 := h34.1 e11
            refine z_ev_gs 1 (c1 := (258, 98, [some (z_r 33 0), some (z_i (x1)), some (z_i (x2)), some (z_i (v8))], [z_i (-13)], (true, X3, I4, J5))) rfl ?_
            rw [h25]
            exact z_ev_rt rfl
          · have h26 := h34.2 e11
            refine z_ev_gs 2 (c1 := (258, 81, [some (z_r 33 0), some (z_i (x1)), some (z_i (x2)), some (z_i (v8))], [z_i (x2), z_i (v8)], (true, X3, I4, J5))) rfl ?_
            obtain ⟨b17, X12, I13, J14, g15, h16⟩ := h26
            refine z_ev_ca rfl rfl g15 ?_
            refine z_ev_gs 1 (c1 := (258, (if z_c b17 = 0 then 96 else 87), [some (z_r 33 0), some (z_i (x1)), some (z_i (x2)), some (z_i (v8))], [], (true, X12, I13, J14))) rfl ?_
            refine z_ev_ifc (fun e18 => ?_) (fun e18 => ?_)
            · have h23 := h16.1 e18
              refine z_ev_gs 1 (c1 := (258, 98, [some (z_r 33 0), some (z_i (x1)), some (z_i (x2)), some (z_i (v8))], [z_i (-13)], (true, X12, I13, J14))) rfl ?_
              rw [h23]
              exact z_ev_rt rfl
            · have h24 := h16.2 e18
              refine z_ev_gs 3 (c1 := (258, 92, [some (z_r 33 0), some (z_i (x1)), some (z_i (x2)), some (z_i (v8))], [z_i (x1), z_r 59 0], (true, X12, I13, J14))) rfl ?_
              obtain ⟨k19, e20, e21, h22⟩ := h24
              refine z_ev_iald (t := 59) (i := 0) (k := k19) (n := 4) rfl rfl e20 e21 (by decide) ?_
              refine z_ev_gs 1 (c1 := (258, 98, [some (z_r 33 0), some (z_i (x1)), some (z_i (x2)), some (z_i (v8))], [z_i (I13 59 0 k19)], (true, X12, I13, J14))) rfl ?_
              rw [h22]
              exact z_ev_rt rfl
        · have h35 := h36.2 e10
          refine z_ev_gs 5 (c1 := (258, 56, [some (z_r 33 0), some (z_i (x1)), some (z_i (x2)), some (z_i (v8))], [z_i (x1), z_r 59 0, z_i 10, z_i (x2)], (true, X3, I4, J5))) rfl ?_
          obtain ⟨k27, e28, e29, h30⟩ := h35
          refine z_ev_iald (t := 59) (i := 0) (k := k27) (n := 4) rfl rfl e28 e29 (by decide) ?_
          refine z_ev_gs 2 (c1 := (258, (if ¬ x2 = ((10 : Int32) + (I4 59 0 k27)) then 70 else 61), [some (z_r 33 0), some (z_i (x1)), some (z_i (x2)), some (z_i (v8))], [], (true, X3, I4, J5))) rfl ?_
          refine z_ev_ifn (fun e31 => ?_) (fun e31 => ?_)
          · have h32 := h30.1 e31
            refine z_ev_gs 1 (c1 := (258, 72, [some (z_r 33 0), some (z_i (x1)), some (z_i (x2)), some (z_i (v8))], [z_i (-13)], (true, X3, I4, J5))) rfl ?_
            rw [h32]
            exact z_ev_rt rfl
          · have h33 := h30.2 e31
            refine z_ev_gs 3 (c1 := (258, 66, [some (z_r 33 0), some (z_i (x1)), some (z_i (x2)), some (z_i (v8))], [z_i (x1), z_r 60 0], (true, X3, I4, J5))) rfl ?_
            refine z_ev_iald (t := 60) (i := 0) (k := k27) (n := 4) rfl rfl e28 (Nat.lt_of_lt_of_le e29 (by decide)) (by decide) ?_
            refine z_ev_gs 1 (c1 := (258, 72, [some (z_r 33 0), some (z_i (x1)), some (z_i (x2)), some (z_i (v8))], [z_i (I4 60 0 k27)], (true, X3, I4, J5))) rfl ?_
            rw [h33]
            exact z_ev_rt rfl
      · have h37 := h7.2 e9
        refine z_ev_gs 1 (c1 := (258, 41, [some (z_r 33 0), some (z_i (x1)), some (z_i (x2)), some (z_i (v8))], [z_i (-11)], (true, X3, I4, J5))) rfl ?_
        rw [h37]
        exact z_ev_rt rfl
    · have h77 := h79.2 e2
      refine z_ev_gs 3 (c1 := (258, 21, [some (z_r 33 0), some (z_i (x1)), some (z_i (x2)), none], [z_i 13, z_i 10, z_i (x2)], (true, X, I, J))) rfl ?_
      refine z_ev_ca rfl rfl (z_p158 _ _ _) ?_
      refine z_ev_gs 1 (c1 := (258, (if ¬ z_c (z_bw x2 (10 : Int32) (13 : Int32)) = 0 then 29 else 27), [some (z_r 33 0), some (z_i (x1)), some (z_i (x2)), none], [], (true, X, I, J))) rfl ?_
      refine z_ev_ifcn (fun e38 => ?_) (fun e38 => ?_)
      · have h74 := h77.1 e38
        refine z_ev_gs 2 (c1 := (258, 31, [some (z_r 33 0), some (z_i (x1)), some (z_i (x2)), none], [z_i (x1), z_r 33 0], (true, X, I, J))) rfl ?_
        obtain ⟨v44, X39, I40, J41, g42, h43⟩ := h74
        refine z_ev_ca rfl rfl g42 ?_
        refine z_ev_gs 3 (c1 := (258, (if 0 ≤ v44 then 42 else 39), [some (z_r 33 0), some (z_i (x1)), some (z_i (x2)), some (z_i (v44))], [], (true, X39, I40, J41))) rfl ?_
        refine z_ev_ifle (fun e45 => ?_) (fun e45 => ?_)
        · have h72 := h43.1 e45
          refine z_ev_gs 3 (c1 := (258, (if ¬ v44 = (9 : Int32) then 73 else 48), [some (z_r 33 0), some (z_i (x1)), some (z_i (x2)), some (z_i (v44))], [], (true, X39, I40, J41))) rfl ?_
          refine z_ev_ifn (fun e46 => ?_) (fun e46 => ?_)
          · have h70 := h72.1 e46
            refine z_ev_gs 3 (c1 := (258, (if (10 : Int32) ≤ x2 then 96 else 79), [some (z_r 33 0), some (z_i (x1)), some (z_i (x2)), some (z_i (v44))], [], (true, X39, I40, J41))) rfl ?_
            refine z_ev_ifle (fun e47 => ?_) (fun e47 => ?_)
            · have h61 := h70.1 e47
              refine z_ev_gs 1 (c1 := (258, 98, [some (z_r 33 0), some (z_i (x1)), some (z_i (x2)), some (z_i (v44))], [z_i (-13)], (true, X39, I40, J41))) rfl ?_
              rw [h61]
              exact z_ev_rt rfl
            · have h62 := h70.2 e47
              refine z_ev_gs 2 (c1 := (258, 81, [some (z_r 33 0), some (z_i (x1)), some (z_i (x2)), some (z_i (v44))], [z_i (x2), z_i (v44)], (true, X39, I40, J41))) rfl ?_
              obtain ⟨b53, X48, I49, J50, g51, h52⟩ := h62
              refine z_ev_ca rfl rfl g51 ?_
              refine z_ev_gs 1 (c1 := (258, (if z_c b53 = 0 then 96 else 87), [some (z_r 33 0), some (z_i (x1)), some (z_i (x2)), some (z_i (v44))], [], (true, X48, I49, J50))) rfl ?_
              refine z_ev_ifc (fun e54 => ?_) (fun e54 => ?_)
              · have h59 := h52.1 e54
                refine z_ev_gs 1 (c1 := (258, 98, [some (z_r 33 0), some (z_i (x1)), some (z_i (x2)), some (z_i (v44))], [z_i (-13)], (true, X48, I49, J50))) rfl ?_
                rw [h59]
                exact z_ev_rt rfl
              · have h60 := h52.2 e54
                refine z_ev_gs 3 (c1 := (258, 92, [some (z_r 33 0), some (z_i (x1)), some (z_i (x2)), some (z_i (v44))], [z_i (x1), z_r 59 0], (true, X48, I49, J50))) rfl ?_
                obtain ⟨k55, e56, e57, h58⟩ := h60
                refine z_ev_iald (t := 59) (i := 0) (k := k55) (n := 4) rfl rfl e56 e57 (by decide) ?_
                refine z_ev_gs 1 (c1 := (258, 98, [some (z_r 33 0), some (z_i (x1)), some (z_i (x2)), some (z_i (v44))], [z_i (I49 59 0 k55)], (true, X48, I49, J50))) rfl ?_
                rw [h58]
                exact z_ev_rt rfl
          · have h71 := h72.2 e46
            refine z_ev_gs 5 (c1 := (258, 56, [some (z_r 33 0), some (z_i (x1)), some (z_i (x2)), some (z_i (v44))], [z_i (x1), z_r 59 0, z_i 10, z_i (x2)], (true, X39, I40, J41))) rfl ?_
            obtain ⟨k63, e64, e65, h66⟩ := h71
            refine z_ev_iald (t := 59) (i := 0) (k := k63) (n := 4) rfl rfl e64 e65 (by decide) ?_
            refine z_ev_gs 2 (c1 := (258, (if ¬ x2 = ((10 : Int32) + (I40 59 0 k63)) then 70 else 61), [some (z_r 33 0), some (z_i (x1)), some (z_i (x2)), some (z_i (v44))], [], (true, X39, I40, J41))) rfl ?_
            refine z_ev_ifn (fun e67 => ?_) (fun e67 => ?_)
            · have h68 := h66.1 e67
              refine z_ev_gs 1 (c1 := (258, 72, [some (z_r 33 0), some (z_i (x1)), some (z_i (x2)), some (z_i (v44))], [z_i (-13)], (true, X39, I40, J41))) rfl ?_
              rw [h68]
              exact z_ev_rt rfl
            · have h69 := h66.2 e67
              refine z_ev_gs 3 (c1 := (258, 66, [some (z_r 33 0), some (z_i (x1)), some (z_i (x2)), some (z_i (v44))], [z_i (x1), z_r 60 0], (true, X39, I40, J41))) rfl ?_
              refine z_ev_iald (t := 60) (i := 0) (k := k63) (n := 4) rfl rfl e64 (Nat.lt_of_lt_of_le e65 (by decide)) (by decide) ?_
              refine z_ev_gs 1 (c1 := (258, 72, [some (z_r 33 0), some (z_i (x1)), some (z_i (x2)), some (z_i (v44))], [z_i (I40 60 0 k63)], (true, X39, I40, J41))) rfl ?_
              rw [h69]
              exact z_ev_rt rfl
        · have h73 := h43.2 e45
          refine z_ev_gs 1 (c1 := (258, 41, [some (z_r 33 0), some (z_i (x1)), some (z_i (x2)), some (z_i (v44))], [z_i (-11)], (true, X39, I40, J41))) rfl ?_
          rw [h73]
          exact z_ev_rt rfl
      · have h75 := h77.2 e38
        refine z_ev_gs 1 (c1 := (258, 28, [some (z_r 33 0), some (z_i (x1)), some (z_i (x2)), none], [z_i (-1)], (true, X, I, J))) rfl ?_
        rw [h75]
        exact z_ev_rt rfl
theorem z_q128_e {d : Nat} {r : Option z_V × z_M} {X : z_X} {I : Nat → Nat → Nat → Int32} {J : Nat → Nat → Nat → Int64} (x0 : Int32) (x1 : Int32)
    (h : z_ev (d + 1) (128, 2, [some (z_i (x0)), some (z_i (x1)), some (z_i 0)], [], (true, X, I, J)) r) :
    z_ev (d + 1) (z_en 128 [z_i (x0), z_i (x1)] (true, X, I, J)) r := by
  show z_ev (d + 1) (128, 0, [some (z_i (x0)), some (z_i (x1)), none], [], (true, X, I, J)) r
  refine z_ev_gs 2 (c1 := (128, 2, [some (z_i (x0)), some (z_i (x1)), some (z_i 0)], [], (true, X, I, J))) rfl ?_
  exact h
theorem z_q128_2 {d : Nat} {r : Option z_V × z_M} {X : z_X} {I : Nat → Nat → Nat → Int32} {J : Nat → Nat → Nat → Int64} (x0 : Int32) (x1 : Int32) (x2 : Int32)
    (h : (((z_fo x0) ≤ x2 → r = (some (z_i (-1)), (true, X, I, J))) ∧ (x2 < (z_fo x0) → (∃ k2 : Nat, x2 = Int32.ofNat k2 ∧ k2 < 11 ∧ ((¬ ((z_stc.getD 0 []).getD k2 0) = x1 → z_ev (d + 1) (128, 2, [some (z_i (x0)), some (z_i (x1)), some (z_i (x2 + (1 : Int32)))], [], (true, X, I, J)) r) ∧ (((z_stc.getD 0 []).getD k2 0) = x1 → r = (some (z_i (x2)), (true, X, I, J)))))))) :
    z_ev (d + 1) ((128, 2, [some (z_i (x0)), some (z_i (x1)), some (z_i (x2))], [], (true, X, I, J))) r := by
  refine z_ev_gs 2 (c1 := (128, 4, [some (z_i (x0)), some (z_i (x1)), some (z_i (x2))], [z_i (x0), z_i (x2)], (true, X, I, J))) rfl ?_
  refine z_ev_ca rfl rfl (z_p127 _) ?_
  refine z_ev_gs 1 (c1 := (128, (if (z_fo x0) ≤ x2 then 27 else 10), [some (z_i (x0)), some (z_i (x1)), some (z_i (x2))], [], (true, X, I, J))) rfl ?_
  refine z_ev_ifle (fun e1 => ?_) (fun e1 => ?_)
  · have h9 := h.1 e1
    refine z_ev_gs 1 (c1 := (128, 28, [some (z_i (x0)), some (z_i (x1)), some (z_i (x2))], [z_i (-1)], (true, X, I, J))) rfl ?_
    rw [h9]
    exact z_ev_rt rfl
  · have h10 := h.2 e1
    refine z_ev_gs 2 (c1 := (128, 14, [some (z_i (x0)), some (z_i (x1)), some (z_i (x2))], [z_i (x2), z_r 66 0], (true, X, I, J))) rfl ?_
    obtain ⟨k2, e3, e4, h5⟩ := h10
    refine z_ev_sld (k := k2) (n := 11) rfl e3 e4 (by decide) ?_
    refine z_ev_gs 2 (c1 := (128, (if ¬ ((z_stc.getD 0 []).getD k2 0) = x1 then 21 else 19), [some (z_i (x0)), some (z_i (x1)), some (z_i (x2))], [], (true, X, I, J))) rfl ?_
    refine z_ev_ifn (fun e6 => ?_) (fun e6 => ?_)
    · have h7 := h5.1 e6
      refine z_ev_gs 2 (c1 := (128, 2, [some (z_i (x0)), some (z_i (x1)), some (z_i (x2 + (1 : Int32)))], [], (true, X, I, J))) rfl ?_
      exact h7
    · have h8 := h5.2 e6
      refine z_ev_gs 1 (c1 := (128, 20, [some (z_i (x0)), some (z_i (x1)), some (z_i (x2))], [z_i (x2)], (true, X, I, J))) rfl ?_
      rw [h8]
      exact z_ev_rt rfl
theorem z_q166_e {d : Nat} {r : Option z_V × z_M} {X : z_X} {I : Nat → Nat → Nat → Int32} {J : Nat → Nat → Nat → Int64} (x1 : Int32) (x2 : Int32)
    (h : (((z_isc x1 x2) = false → r = (some (z_i 0), (true, X, I, J))) ∧ ((z_isc x1 x2) = true → (∃ k2 : Nat, (((64 : Int32) * x1) + x2) = Int32.ofNat k2 ∧ k2 < 320 ∧ ((¬ (I 40 0 k2) = x2 → r = (some (z_i 0), (true, X, I, J))) ∧ ((I 40 0 k2) = x2 → r = (some (z_i 1), (true, X, I, J)))))))) :
    z_ev (d + 2) (z_en 166 [z_r 33 0, z_i (x1), z_i (x2)] (true, X, I, J)) r := by
  show z_ev (d + 2) (166, 0, [some (z_r 33 0), some (z_i (x1)), some (z_i (x2))], [], (true, X, I, J)) r
  refine z_ev_gs 2 (c1 := (166, 2, [some (z_r 33 0), some (z_i (x1)), some (z_i (x2))], [z_i (x2), z_i (x1)], (true, X, I, J))) rfl ?_
  refine z_ev_ca rfl rfl (z_p165 _ _) ?_
  refine z_ev_gs 1 (c1 := (166, (if z_c (z_isc x1 x2) = 0 then 27 else 8), [some (z_r 33 0), some (z_i (x1)), some (z_i (x2))], [], (true, X, I, J))) rfl ?_
  refine z_ev_ifc (fun e1 => ?_) (fun e1 => ?_)
  · have h9 := h.1 e1
    refine z_ev_gs 1 (c1 := (166, 28, [some (z_r 33 0), some (z_i (x1)), some (z_i (x2))], [z_i 0], (true, X, I, J))) rfl ?_
    rw [h9]
    exact z_ev_rt rfl
  · have h10 := h.2 e1
    refine z_ev_gs 7 (c1 := (166, 18, [some (z_r 33 0), some (z_i (x1)), some (z_i (x2))], [z_i (((64 : Int32) * x1) + x2), z_r 40 0], (true, X, I, J))) rfl ?_
    obtain ⟨k2, e3, e4, h5⟩ := h10
    refine z_ev_iald (t := 40) (i := 0) (k := k2) (n := 320) rfl rfl e3 e4 (by decide) ?_
    refine z_ev_gs 2 (c1 := (166, (if ¬ (I 40 0 k2) = x2 then 27 else 23), [some (z_r 33 0), some (z_i (x1)), some (z_i (x2))], [], (true, X, I, J))) rfl ?_
    refine z_ev_ifn (fun e6 => ?_) (fun e6 => ?_)
    · have h7 := h5.1 e6
      refine z_ev_gs 1 (c1 := (166, 28, [some (z_r 33 0), some (z_i (x1)), some (z_i (x2))], [z_i 0], (true, X, I, J))) rfl ?_
      rw [h7]
      exact z_ev_rt rfl
    · have h8 := h5.2 e6
      refine z_ev_gs 2 (c1 := (166, 28, [some (z_r 33 0), some (z_i (x1)), some (z_i (x2))], [z_i 1], (true, X, I, J))) rfl ?_
      rw [h8]
      exact z_ev_rt rfl
theorem z_q129_e {d : Nat} {r : Option z_V × z_M} {X : z_X} {I : Nat → Nat → Nat → Int32} {J : Nat → Nat → Nat → Int64} (x0 : Int32) (x1 : Int32)
    (h : ((x0 = (2 : Int32) → (∃ (v7 : Int32) (X2 : z_X) (I3 : Nat → Nat → Nat → Int32) (J4 : Nat → Nat → Nat → Int64), z_ev (d + 1) (z_en 128 [z_i (x0), z_i (x1)] (true, X, I, J)) (some (z_i (v7)), (true, X2, I3, J4)) ∧ ((v7 < 0 → r = (some (z_i 0), (true, X2, I3, J4))) ∧ (0 ≤ v7 → r = (some (z_i 1), (true, X2, I3, J4)))))) ∧ (¬ x0 = (2 : Int32) → ((¬ x0 = (3 : Int32) → r = (some (z_i 0), (true, X, I, J))) ∧ (x0 = (3 : Int32) → (∃ (v17 : Int32) (X12 : z_X) (I13 : Nat → Nat → Nat → Int32) (J14 : Nat → Nat → Nat → Int64), z_ev (d + 1) (z_en 128 [z_i (x0), z_i (x1)] (true, X, I, J)) (some (z_i (v17)), (true, X12, I13, J14)) ∧ ((v17 < 0 → r = (some (z_i 0), (true, X12, I13, J14))) ∧ (0 ≤ v17 → r = (some (z_i 1), (true, X12, I13, J14)))))))))) :
    z_ev (d + 2) (z_en 129 [z_i (x0), z_i (x1)] (true, X, I, J)) r := by
  show z_ev (d + 2) (129, 0, [some (z_i (x0)), some (z_i (x1))], [], (true, X, I, J)) r
  refine z_ev_gs 3 (c1 := (129, (if x0 = (2 : Int32) then 10 else 5), [some (z_i (x0)), some (z_i (x1))], [], (true, X, I, J))) rfl ?_
  refine z_ev_if (fun e1 => ?_) (fun e1 => ?_)
  · have h23 := h.1 e1
    refine z_ev_gs 2 (c1 := (129, 12, [some (z_i (x0)), some (z_i (x1))], [z_i (x1), z_i (x0)], (true, X, I, J))) rfl ?_
    obtain ⟨v7, X2, I3, J4, g5, h6⟩ := h23
    refine z_ev_ca rfl rfl g5 ?_
    refine z_ev_gs 1 (c1 := (129, (if v7 < 0 then 22 else 18), [some (z_i (x0)), some (z_i (x1))], [], (true, X2, I3, J4))) rfl ?_
    refine z_ev_iflt (fun e8 => ?_) (fun e8 => ?_)
    · have h9 := h6.1 e8
      refine z_ev_gs 1 (c1 := (129, 23, [some (z_i (x0)), some (z_i (x1))], [z_i 0], (true, X2, I3, J4))) rfl ?_
      rw [h9]
      exact z_ev_rt rfl
    · have h10 := h6.2 e8
      refine z_ev_gs 2 (c1 := (129, 23, [some (z_i (x0)), some (z_i (x1))], [z_i 1], (true, X2, I3, J4))) rfl ?_
      rw [h10]
      exact z_ev_rt rfl
  · have h24 := h.2 e1
    refine z_ev_gs 3 (c1 := (129, (if ¬ x0 = (3 : Int32) then 22 else 10), [some (z_i (x0)), some (z_i (x1))], [], (true, X, I, J))) rfl ?_
    refine z_ev_ifn (fun e11 => ?_) (fun e11 => ?_)
    · have h21 := h24.1 e11
      refine z_ev_gs 1 (c1 := (129, 23, [some (z_i (x0)), some (z_i (x1))], [z_i 0], (true, X, I, J))) rfl ?_
      rw [h21]
      exact z_ev_rt rfl
    · have h22 := h24.2 e11
      refine z_ev_gs 2 (c1 := (129, 12, [some (z_i (x0)), some (z_i (x1))], [z_i (x1), z_i (x0)], (true, X, I, J))) rfl ?_
      obtain ⟨v17, X12, I13, J14, g15, h16⟩ := h22
      refine z_ev_ca rfl rfl g15 ?_
      refine z_ev_gs 1 (c1 := (129, (if v17 < 0 then 22 else 18), [some (z_i (x0)), some (z_i (x1))], [], (true, X12, I13, J14))) rfl ?_
      refine z_ev_iflt (fun e18 => ?_) (fun e18 => ?_)
      · have h19 := h16.1 e18
        refine z_ev_gs 1 (c1 := (129, 23, [some (z_i (x0)), some (z_i (x1))], [z_i 0], (true, X12, I13, J14))) rfl ?_
        rw [h19]
        exact z_ev_rt rfl
      · have h20 := h16.2 e18
        refine z_ev_gs 2 (c1 := (129, 23, [some (z_i (x0)), some (z_i (x1))], [z_i 1], (true, X12, I13, J14))) rfl ?_
        rw [h20]
        exact z_ev_rt rfl
theorem z_q238_e {d : Nat} {r : Option z_V × z_M} {X : z_X} {I : Nat → Nat → Nat → Int32} {J : Nat → Nat → Nat → Int64} (x1 : Int32) (x2 : Int32)
    (h : (((z_bw x1 (2 : Int32) (3 : Int32)) = false → r = (some (z_i 0), (true, X, I, J))) ∧ ((z_bw x1 (2 : Int32) (3 : Int32)) = true → (∃ (b7 : Bool) (X2 : z_X) (I3 : Nat → Nat → Nat → Int32) (J4 : Nat → Nat → Nat → Int64), z_ev (d + 2) (z_en 166 [z_r 33 0, z_i (x1), z_i (x2)] (true, X, I, J)) (some (z_i (z_c b7)), (true, X2, I3, J4)) ∧ ((b7 = false → r = (some (z_i 0), (true, X2, I3, J4))) ∧ (b7 = true → r = (some (z_i 1), (true, X2, I3, J4)))))))) :
    z_ev (d + 3) (z_en 238 [z_r 33 0, z_i (x1), z_i (x2)] (true, X, I, J)) r := by
  show z_ev (d + 3) (238, 0, [some (z_r 33 0), some (z_i (x1)), some (z_i (x2))], [], (true, X, I, J)) r
  refine z_ev_gs 3 (c1 := (238, 3, [some (z_r 33 0), some (z_i (x1)), some (z_i (x2))], [z_i 3, z_i 2, z_i (x1)], (true, X, I, J))) rfl ?_
  refine z_ev_ca rfl rfl (z_p158 _ _ _) ?_
  refine z_ev_gs 1 (c1 := (238, (if z_c (z_bw x1 (2 : Int32) (3 : Int32)) = 0 then 22 else 9), [some (z_r 33 0), some (z_i (x1)), some (z_i (x2))], [], (true, X, I, J))) rfl ?_
  refine z_ev_ifc (fun e1 => ?_) (fun e1 => ?_)
  · have h11 := h.1 e1
    refine z_ev_gs 1 (c1 := (238, 23, [some (z_r 33 0), some (z_i (x1)), some (z_i (x2))], [z_i 0], (true, X, I, J))) rfl ?_
    rw [h11]
    exact z_ev_rt rfl
  · have h12 := h.2 e1
    refine z_ev_gs 3 (c1 := (238, 12, [some (z_r 33 0), some (z_i (x1)), some (z_i (x2))], [z_i (x2), z_i (x1), z_r 33 0], (true, X, I, J))) rfl ?_
    obtain ⟨b7, X2, I3, J4, g5, h6⟩ := h12
    refine z_ev_ca rfl rfl g5 ?_
    refine z_ev_gs 1 (c1 := (238, (if z_c b7 = 0 then 22 else 18), [some (z_r 33 0), some (z_i (x1)), some (z_i (x2))], [], (true, X2, I3, J4))) rfl ?_
    refine z_ev_ifc (fun e8 => ?_) (fun e8 => ?_)
    · have h9 := h6.1 e8
      refine z_ev_gs 1 (c1 := (238, 23, [some (z_r 33 0), some (z_i (x1)), some (z_i (x2))], [z_i 0], (true, X2, I3, J4))) rfl ?_
      rw [h9]
      exact z_ev_rt rfl
    · have h10 := h6.2 e8
      refine z_ev_gs 2 (c1 := (238, 23, [some (z_r 33 0), some (z_i (x1)), some (z_i (x2))], [z_i 1], (true, X2, I3, J4))) rfl ?_
      rw [h10]
      exact z_ev_rt rfl
theorem z_q146_e {d : Nat} {r : Option z_V × z_M} {X : z_X} {I : Nat → Nat → Nat → Int32} {J : Nat → Nat → Nat → Int64} (x0 : Int32) (x1 : Int32) (x2 : Int32)
    (h : ((x0 = 0 → (∃ (b6 : Bool) (X1 : z_X) (I2 : Nat → Nat → Nat → Int32) (J3 : Nat → Nat → Nat → Int64), z_ev (d + 2) (z_en 129 [z_i (x1), z_i (x2)] (true, X, I, J)) (some (z_i (z_c b6)), (true, X1, I2, J3)) ∧ r = (some (z_i (z_c b6)), (true, X1, I2, J3)))) ∧ (¬ x0 = 0 → ((x0 = 1 → ((x1 < 0 → r = (some (z_i 0), (true, X, I, J))) ∧ (0 ≤ x1 → (((9999 : Int32) < x1 → r = (some (z_i 0), (true, X, I, J))) ∧ (x1 ≤ (9999 : Int32) → r = (some (z_i 1), (true, X, I, J))))))) ∧ (¬ x0 = 1 → ((x0 = 2 → ((x1 < (-9 : Int32) → r = (some (z_i 0), (true, X, I, J))) ∧ ((-9 : Int32) ≤ x1 → (((9 : Int32) < x1 → r = (some (z_i 0), (true, X, I, J))) ∧ (x1 ≤ (9 : Int32) → ((x2 < (-9 : Int32) → r = (some (z_i 0), (true, X, I, J))) ∧ ((-9 : Int32) ≤ x2 → (((9 : Int32) < x2 → r = (some (z_i 0), (true, X, I, J))) ∧ (x2 ≤ (9 : Int32) → r = (some (z_i 1), (true, X, I, J))))))))))) ∧ (¬ x0 = 2 → ((x0 = 3 → ((x1 < 0 → r = (some (z_i 0), (true, X, I, J))) ∧ (0 ≤ x1 → (((9999 : Int32) < x1 → r = (some (z_i 0), (true, X, I, J))) ∧ (x1 ≤ (9999 : Int32) → r = (some (z_i 1), (true, X, I, J))))))) ∧ (¬ x0 = 3 → r = (some (z_i 0), (true, X, I, J))))))))))) :
    z_ev (d + 3) (z_en 146 [z_i (x0), z_i (x1), z_i (x2)] (true, X, I, J)) r := by
  show z_ev (d + 3) (146, 0, [some (z_i (x0)), some (z_i (x1)), some (z_i (x2))], [], (true, X, I, J)) r
  refine z_ev_gs 2 (c1 := (146, (if x0 = 0 then 32 else (if x0 = 1 then 38 else (if x0 = 2 then 55 else (if x0 = 3 then 38 else 85)))), [some (z_i (x0)), some (z_i (x1)), some (z_i (x2))], [], (true, X, I, J))) rfl ?_
  refine z_ev_if (fun e31 => ?_) (fun e31 => ?_)
  · have h32 := h.1 e31
    refine z_ev_gs 2 (c1 := (146, 34, [some (z_i (x0)), some (z_i (x1)), some (z_i (x2))], [z_i (x2), z_i (x1)], (true, X, I, J))) rfl ?_
    obtain ⟨b6, X1, I2, J3, g4, h5⟩ := h32
    refine z_ev_ca rfl rfl g4 ?_
    rw [h5]
    exact z_ev_rtb rfl
  · have h33 := h.2 e31
    refine z_ev_if (fun e34 => ?_) (fun e34 => ?_)
    · have h35 := h33.1 e34
      refine z_ev_gs 2 (c1 := (146, (if x1 < 0 then 53 else 42), [some (z_i (x0)), some (z_i (x1)), some (z_i (x2))], [], (true, X, I, J))) rfl ?_
      refine z_ev_iflt (fun e7 => ?_) (fun e7 => ?_)
      · have h11 := h35.1 e7
        refine z_ev_gs 1 (c1 := (146, 54, [some (z_i (x0)), some (z_i (x1)), some (z_i (x2))], [z_i 0], (true, X, I, J))) rfl ?_
        rw [h11]
        exact z_ev_rt rfl
      · have h12 := h35.2 e7
        refine z_ev_gs 3 (c1 := (146, (if (9999 : Int32) < x1 then 53 else 49), [some (z_i (x0)), some (z_i (x1)), some (z_i (x2))], [], (true, X, I, J))) rfl ?_
        refine z_ev_iflt (fun e8 => ?_) (fun e8 => ?_)
        · have h9 := h12.1 e8
          refine z_ev_gs 1 (c1 := (146, 54, [some (z_i (x0)), some (z_i (x1)), some (z_i (x2))], [z_i 0], (true, X, I, J))) rfl ?_
          rw [h9]
          exact z_ev_rt rfl
        · have h10 := h12.2 e8
          refine z_ev_gs 2 (c1 := (146, 54, [some (z_i (x0)), some (z_i (x1)), some (z_i (x2))], [z_i 1], (true, X, I, J))) rfl ?_
          rw [h10]
          exact z_ev_rt rfl
    · have h36 := h33.2 e34
      refine z_ev_if (fun e37 => ?_) (fun e37 => ?_)
      · have h38 := h36.1 e37
        refine z_ev_gs 3 (c1 := (146, (if x1 < (-9 : Int32) then 83 else 61), [some (z_i (x0)), some (z_i (x1)), some (z_i (x2))], [], (true, X, I, J))) rfl ?_
        refine z_ev_iflt (fun e13 => ?_) (fun e13 => ?_)
        · have h23 := h38.1 e13
          refine z_ev_gs 1 (c1 := (146, 84, [some (z_i (x0)), some (z_i (x1)), some (z_i (x2))], [z_i 0], (true, X, I, J))) rfl ?_
          rw [h23]
          exact z_ev_rt rfl
        · have h24 := h38.2 e13
          refine z_ev_gs 3 (c1 := (146, (if (9 : Int32) < x1 then 83 else 67), [some (z_i (x0)), some (z_i (x1)), some (z_i (x2))], [], (true, X, I, J))) rfl ?_
          refine z_ev_iflt (fun e14 => ?_) (fun e14 => ?_)
          · have h21 := h24.1 e14
            refine z_ev_gs 1 (c1 := (146, 84, [some (z_i (x0)), some (z_i (x1)), some (z_i (x2))], [z_i 0], (true, X, I, J))) rfl ?_
            rw [h21]
            exact z_ev_rt rfl
          · have h22 := h24.2 e14
            refine z_ev_gs 3 (c1 := (146, (if x2 < (-9 : Int32) then 83 else 73), [some (z_i (x0)), some (z_i (x1)), some (z_i (x2))], [], (true, X, I, J))) rfl ?_
            refine z_ev_iflt (fun e15 => ?_) (fun e15 => ?_)
            · have h19 := h22.1 e15
              refine z_ev_gs 1 (c1 := (146, 84, [some (z_i (x0)), some (z_i (x1)), some (z_i (x2))], [z_i 0], (true, X, I, J))) rfl ?_
              rw [h19]
              exact z_ev_rt rfl
            · have h20 := h22.2 e15
              refine z_ev_gs 3 (c1 := (146, (if (9 : Int32) < x2 then 83 else 79), [some (z_i (x0)), some (z_i (x1)), some (z_i (x2))], [], (true, X, I, J))) rfl ?_
              refine z_ev_iflt (fun e16 => ?_) (fun e16 => ?_)
              · have h17 := h20.1 e16
                refine z_ev_gs 1 (c1 := (146, 84, [some (z_i (x0)), some (z_i (x1)), some (z_i (x2))], [z_i 0], (true, X, I, J))) rfl ?_
                rw [h17]
                exact z_ev_rt rfl
              · have h18 := h20.2 e16
                refine z_ev_gs 2 (c1 := (146, 84, [some (z_i (x0)), some (z_i (x1)), some (z_i (x2))], [z_i 1], (true, X, I, J))) rfl ?_
                rw [h18]
                exact z_ev_rt rfl
      · have h39 := h36.2 e37
        refine z_ev_if (fun e40 => ?_) (fun e40 => ?_)
        · have h41 := h39.1 e40
          refine z_ev_gs 2 (c1 := (146, (if x1 < 0 then 53 else 42), [some (z_i (x0)), some (z_i (x1)), some (z_i (x2))], [], (true, X, I, J))) rfl ?_
          refine z_ev_iflt (fun e25 => ?_) (fun e25 => ?_)
          · have h29 := h41.1 e25
            refine z_ev_gs 1 (c1 := (146, 54, [some (z_i (x0)), some (z_i (x1)), some (z_i (x2))], [z_i 0], (true, X, I, J))) rfl ?_
            rw [h29]
            exact z_ev_rt rfl
          · have h30 := h41.2 e25
            refine z_ev_gs 3 (c1 := (146, (if (9999 : Int32) < x1 then 53 else 49), [some (z_i (x0)), some (z_i (x1)), some (z_i (x2))], [], (true, X, I, J))) rfl ?_
            refine z_ev_iflt (fun e26 => ?_) (fun e26 => ?_)
            · have h27 := h30.1 e26
              refine z_ev_gs 1 (c1 := (146, 54, [some (z_i (x0)), some (z_i (x1)), some (z_i (x2))], [z_i 0], (true, X, I, J))) rfl ?_
              rw [h27]
              exact z_ev_rt rfl
            · have h28 := h30.2 e26
              refine z_ev_gs 2 (c1 := (146, 54, [some (z_i (x0)), some (z_i (x1)), some (z_i (x2))], [z_i 1], (true, X, I, J))) rfl ?_
              rw [h28]
              exact z_ev_rt rfl
        · have h42 := h39.2 e40
          refine z_ev_gs 1 (c1 := (146, 86, [some (z_i (x0)), some (z_i (x1)), some (z_i (x2))], [z_i 0], (true, X, I, J))) rfl ?_
          rw [h42]
          exact z_ev_rt rfl
theorem z_q27_e {d : Nat} {r : Option z_V × z_M} {X : z_X} {I : Nat → Nat → Nat → Int32} {J : Nat → Nat → Nat → Int64} (q0 : Nat) (x1 : Int32) (x2 : Int32) (x3 : Int32) (x4 : Int32)
    (h : (q0 < X.1 ∧ r = (none, (true, X, (z_up (z_up (z_up (z_up I 32 q0 0 x1) 32 q0 1 x2) 32 q0 2 x3) 32 q0 3 x4), J)))) :
    z_ev d (z_en 27 [z_r 32 q0, z_i (x1), z_i (x2), z_i (x3), z_i (x4)] (true, X, I, J)) r := by
  show z_ev d (27, 0, [some (z_r 32 q0), some (z_i (x1)), some (z_i (x2)), some (z_i (x3)), some (z_i (x4))], [], (true, X, I, J)) r
  refine z_ev_gs 4 (c1 := (27, 6, [some (z_r 32 q0), some (z_i (x1)), some (z_i (x2)), some (z_i (x3)), some (z_i (x4))], [z_i (x1), z_r 32 q0], (true, X, I, J))) rfl ?_
  obtain ⟨g1, h2⟩ := h
  refine z_ev_gi (c1 := (27, 9, [some (z_r 32 q0), some (z_i (x1)), some (z_i (x2)), some (z_i (x3)), some (z_i (x4))], [], (true, X, (z_up I 32 q0 0 x1), J))) rfl g1 ?_
  refine z_ev_gs 2 (c1 := (27, 11, [some (z_r 32 q0), some (z_i (x1)), some (z_i (x2)), some (z_i (x3)), some (z_i (x4))], [z_i (x2), z_r 32 q0], (true, X, (z_up I 32 q0 0 x1), J))) rfl ?_
  refine z_ev_gi (c1 := (27, 14, [some (z_r 32 q0), some (z_i (x1)), some (z_i (x2)), some (z_i (x3)), some (z_i (x4))], [], (true, X, (z_up (z_up I 32 q0 0 x1) 32 q0 1 x2), J))) rfl g1 ?_
  refine z_ev_gs 2 (c1 := (27, 16, [some (z_r 32 q0), some (z_i (x1)), some (z_i (x2)), some (z_i (x3)), some (z_i (x4))], [z_i (x3), z_r 32 q0], (true, X, (z_up (z_up I 32 q0 0 x1) 32 q0 1 x2), J))) rfl ?_
  refine z_ev_gi (c1 := (27, 19, [some (z_r 32 q0), some (z_i (x1)), some (z_i (x2)), some (z_i (x3)), some (z_i (x4))], [], (true, X, (z_up (z_up (z_up I 32 q0 0 x1) 32 q0 1 x2) 32 q0 2 x3), J))) rfl g1 ?_
  refine z_ev_gs 2 (c1 := (27, 22, [some (z_r 32 q0), some (z_i (x1)), some (z_i (x2)), some (z_i (x3)), some (z_i (x4))], [z_i (x4), z_r 32 q0], (true, X, (z_up (z_up (z_up I 32 q0 0 x1) 32 q0 1 x2) 32 q0 2 x3), J))) rfl ?_
  refine z_ev_gi (c1 := (27, 25, [some (z_r 32 q0), some (z_i (x1)), some (z_i (x2)), some (z_i (x3)), some (z_i (x4))], [], (true, X, (z_up (z_up (z_up (z_up I 32 q0 0 x1) 32 q0 1 x2) 32 q0 2 x3) 32 q0 3 x4), J))) rfl g1 ?_
  rw [h2]
  exact z_ev_rt rfl
theorem z_q38_e {d : Nat} {r : Option z_V × z_M} {X : z_X} {I : Nat → Nat → Nat → Int32} {J : Nat → Nat → Nat → Int64} (q0 : Nat) (x1 : Int32) (x2 : Int32) (x3 : Int32) (x4 : Int32)
    (h : (∃ (X1 : z_X) (I2 : Nat → Nat → Nat → Int32) (J3 : Nat → Nat → Nat → Int64), z_ev d (z_en 27 [z_r 32 q0, z_i (x1), z_i (x2), z_i (x3), z_i (x4)] (true, X, I, J)) (none, (true, X1, I2, J3)) ∧ r = (none, (true, X1, I2, J3)))) :
    z_ev (d + 1) (z_en 38 [z_r 32 q0, z_i (x1), z_i (x2), z_i (x3), z_i (x4)] (true, X, I, J)) r := by
  show z_ev (d + 1) (38, 0, [some (z_r 32 q0), some (z_i (x1)), some (z_i (x2)), some (z_i (x3)), some (z_i (x4))], [], (true, X, I, J)) r
  refine z_ev_gs 5 (c1 := (38, 6, [some (z_r 32 q0), some (z_i (x1)), some (z_i (x2)), some (z_i (x3)), some (z_i (x4))], [z_i (x4), z_i (x3), z_i (x2), z_i (x1), z_r 32 q0], (true, X, I, J))) rfl ?_
  obtain ⟨X1, I2, J3, g4, h5⟩ := h
  refine z_ev_ca rfl rfl g4 ?_
  rw [h5]
  exact z_ev_rt rfl
theorem z_q35_e {d : Nat} {r : Option z_V × z_M} {X : z_X} {I : Nat → Nat → Nat → Int32} {J : Nat → Nat → Nat → Int64} (q0 : Nat) (x1 : Int32) (x2 : Int32) (x3 : Int32)
    (h : (∃ (X1 : z_X) (I2 : Nat → Nat → Nat → Int32) (J3 : Nat → Nat → Nat → Int64), z_ev (d + 1) (z_en 38 [z_r 32 q0, z_i 2, z_i (x1), z_i (x2), z_i (x3)] (true, X, I, J)) (none, (true, X1, I2, J3)) ∧ r = (none, (true, X1, I2, J3)))) :
    z_ev (d + 2) (z_en 35 [z_r 32 q0, z_i (x1), z_i (x2), z_i (x3)] (true, X, I, J)) r := by
  show z_ev (d + 2) (35, 0, [some (z_r 32 q0), some (z_i (x1)), some (z_i (x2)), some (z_i (x3))], [], (true, X, I, J)) r
  refine z_ev_gs 5 (c1 := (35, 5, [some (z_r 32 q0), some (z_i (x1)), some (z_i (x2)), some (z_i (x3))], [z_i (x3), z_i (x2), z_i (x1), z_i 2, z_r 32 q0], (true, X, I, J))) rfl ?_
  obtain ⟨X1, I2, J3, g4, h5⟩ := h
  refine z_ev_ca rfl rfl g4 ?_
  rw [h5]
  exact z_ev_rt rfl
theorem z_q0_e {d : Nat} {r : Option z_V × z_M} {X : z_X} {I : Nat → Nat → Nat → Int32} {J : Nat → Nat → Nat → Int64} (q0 : Nat) (x1 : Int32) (x2 : Int32) (x3 : Int32)
    (h : (∃ (X1 : z_X) (I2 : Nat → Nat → Nat → Int32) (J3 : Nat → Nat → Nat → Int64), z_ev (d + 1) (z_en 38 [z_r 32 q0, z_i 3, z_i (x1), z_i (x2), z_i (x3)] (true, X, I, J)) (none, (true, X1, I2, J3)) ∧ r = (none, (true, X1, I2, J3)))) :
    z_ev (d + 2) (z_en 0 [z_r 32 q0, z_i (x1), z_i (x2), z_i (x3)] (true, X, I, J)) r := by
  show z_ev (d + 2) (0, 0, [some (z_r 32 q0), some (z_i (x1)), some (z_i (x2)), some (z_i (x3))], [], (true, X, I, J)) r
  refine z_ev_gs 5 (c1 := (0, 5, [some (z_r 32 q0), some (z_i (x1)), some (z_i (x2)), some (z_i (x3))], [z_i (x3), z_i (x2), z_i (x1), z_i 3, z_r 32 q0], (true, X, I, J))) rfl ?_
  obtain ⟨X1, I2, J3, g4, h5⟩ := h
  refine z_ev_ca rfl rfl g4 ?_
  rw [h5]
  exact z_ev_rt rfl
theorem z_q147_e {d : Nat} {r : Option z_V × z_M} {X : z_X} {I : Nat → Nat → Nat → Int32} {J : Nat → Nat → Nat → Int64} (x0 : Int32) (x1 : Int32) (x2 : Int32) (x3 : Int32)
    (h : ((x0 = 1 → (∃ (X1 : z_X) (I2 : Nat → Nat → Nat → Int32) (J3 : Nat → Nat → Nat → Int64), z_ev (d + 2) (z_en 38 [z_r 32 X.1, z_i 1, z_i (x1), z_i (x2), z_i (x3)] (true, (X.1 + 1, X.2.1 + 4, z_u1 X.2.2.1 X.1 6, X.2.2.2), (z_zr I 32 X.1 0), J)) (none, (true, X1, I2, J3)) ∧ r = (some (z_r 32 X.1), (true, X1, I2, J3)))) ∧ (¬ x0 = 1 → ((x0 = 2 → (∃ (X6 : z_X) (I7 : Nat → Nat → Nat → Int32) (J8 : Nat → Nat → Nat → Int64), z_ev (d + 2) (z_en 35 [z_r 32 X.1, z_i (x1), z_i (x2), z_i (x3)] (true, (X.1 + 1, X.2.1 + 4, z_u1 X.2.2.1 X.1 5, X.2.2.2), (z_zr I 32 X.1 0), J)) (none, (true, X6, I7, J8)) ∧ r = (some (z_r 32 X.1), (true, X6, I7, J8)))) ∧ (¬ x0 = 2 → ((x0 = 3 → (∃ (X11 : z_X) (I12 : Nat → Nat → Nat → Int32) (J13 : Nat → Nat → Nat → Int64), z_ev (d + 2) (z_en 0 [z_r 32 X.1, z_i (x1), z_i (x2), z_i (x3)] (true, (X.1 + 1, X.2.1 + 4, z_u1 X.2.2.1 X.1 0, X.2.2.2), (z_zr I 32 X.1 0), J)) (none, (true, X11, I12, J13)) ∧ r = (some (z_r 32 X.1), (true, X11, I12, J13)))) ∧ (¬ x0 = 3 → (∃ (X16 : z_X) (I17 : Nat → Nat → Nat → Int32) (J18 : Nat → Nat → Nat → Int64), z_ev (d + 2) (z_en 27 [z_r 32 X.1, z_i 0, z_i (x1), z_i (x2), z_i (x3)] (true, (X.1 + 1, X.2.1 + 4, z_u1 X.2.2.1 X.1 3, X.2.2.2), (z_zr I 32 X.1 0), J)) (none, (true, X16, I17, J18)) ∧ r = (some (z_r 32 X.1), (true, X16, I17, J18)))))))))) :
    z_ev (d + 3) (z_en 147 [z_i (x0), z_i (x1), z_i (x2), z_i (x3)] (true, X, I, J)) r := by
  show z_ev (d + 3) (147, 0, [some (z_i (x0)), some (z_i (x1)), some (z_i (x2)), some (z_i (x3))], [], (true, X, I, J)) r
  refine z_ev_gs 2 (c1 := (147, (if x0 = 1 then 28 else (if x0 = 2 then 40 else (if x0 = 3 then 51 else 62))), [some (z_i (x0)), some (z_i (x1)), some (z_i (x2)), some (z_i (x3))], [], (true, X, I, J))) rfl ?_
  refine z_ev_if (fun e21 => ?_) (fun e21 => ?_)
  · have h22 := h.1 e21
    refine z_ev_gs 6 (c1 := (147, 36, [some (z_i (x0)), some (z_i (x1)), some (z_i (x2)), some (z_i (x3))], [z_i (x3), z_i (x2), z_i (x1), z_i 1, z_r 32 X.1, z_r 32 X.1], (true, (X.1 + 1, X.2.1 + 4, z_u1 X.2.2.1 X.1 6, X.2.2.2), (z_zr I 32 X.1 0), J))) rfl ?_
    obtain ⟨X1, I2, J3, g4, h5⟩ := h22
    refine z_ev_ca rfl rfl g4 ?_
    rw [h5]
    exact z_ev_rt rfl
  · have h23 := h.2 e21
    refine z_ev_if (fun e24 => ?_) (fun e24 => ?_)
    · have h25 := h23.1 e24
      refine z_ev_gs 5 (c1 := (147, 47, [some (z_i (x0)), some (z_i (x1)), some (z_i (x2)), some (z_i (x3))], [z_i (x3), z_i (x2), z_i (x1), z_r 32 X.1, z_r 32 X.1], (true, (X.1 + 1, X.2.1 + 4, z_u1 X.2.2.1 X.1 5, X.2.2.2), (z_zr I 32 X.1 0), J))) rfl ?_
      obtain ⟨X6, I7, J8, g9, h10⟩ := h25
      refine z_ev_ca rfl rfl g9 ?_
      rw [h10]
      exact z_ev_rt rfl
    · have h26 := h23.2 e24
      refine z_ev_if (fun e27 => ?_) (fun e27 => ?_)
      · have h28 := h26.1 e27
        refine z_ev_gs 5 (c1 := (147, 58, [some (z_i (x0)), some (z_i (x1)), some (z_i (x2)), some (z_i (x3))], [z_i (x3), z_i (x2), z_i (x1), z_r 32 X.1, z_r 32 X.1], (true, (X.1 + 1, X.2.1 + 4, z_u1 X.2.2.1 X.1 0, X.2.2.2), (z_zr I 32 X.1 0), J))) rfl ?_
        obtain ⟨X11, I12, J13, g14, h15⟩ := h28
        refine z_ev_ca rfl rfl g14 ?_
        rw [h15]
        exact z_ev_rt rfl
      · have h29 := h26.2 e27
        refine z_ev_gs 6 (c1 := (147, 70, [some (z_i (x0)), some (z_i (x1)), some (z_i (x2)), some (z_i (x3))], [z_i (x3), z_i (x2), z_i (x1), z_i 0, z_r 32 X.1, z_r 32 X.1], (true, (X.1 + 1, X.2.1 + 4, z_u1 X.2.2.1 X.1 3, X.2.2.2), (z_zr I 32 X.1 0), J))) rfl ?_
        obtain ⟨X16, I17, J18, g19, h20⟩ := h29
        refine z_ev_ca rfl rfl g19 ?_
        rw [h20]
        exact z_ev_rt rfl
theorem z_q94_e {d : Nat} {r : Option z_V × z_M} {X : z_X} {I : Nat → Nat → Nat → Int32} {J : Nat → Nat → Nat → Int64} (x1 : Int32) (x2 : Int32) (x3 : Int32)
    (h : (∃ (b6 : Bool) (X1 : z_X) (I2 : Nat → Nat → Nat → Int32) (J3 : Nat → Nat → Nat → Int64), z_ev (d + 3) (z_en 146 [z_i (x1), z_i (x2), z_i (x3)] (true, X, I, J)) (some (z_i (z_c b6)), (true, X1, I2, J3)) ∧ ((b6 = true → (((I2 1 0 5) < (6 : Int32) → ((∃ (X9 : z_X) (I10 : Nat → Nat → Nat → Int32) (J11 : Nat → Nat → Nat → Int64), z_ev (d + 3) (z_en 147 [z_i (x1), z_i (I2 1 0 5), z_i (x2), z_i (x3)] (true, X1, I2, J3)) (some z_n, (true, X9, I10, J11)) ∧ (∃ k20 : Nat, (I2 1 0 5) = Int32.ofNat k20 ∧ k20 < 6 ∧ r = (some (z_i (I2 1 0 5)), (true, (X9.1, X9.2.1, X9.2.2.1, z_up X9.2.2.2 11 0 k20 none), (z_up (z_up I10 12 0 k20 (0 : Int32)) 1 0 5 ((I2 1 0 5) + (1 : Int32))), J11)))) ∨ (∃ (q14 : Nat) (X9 : z_X) (I10 : Nat → Nat → Nat → Int32) (J11 : Nat → Nat → Nat → Int64), z_ev (d + 3) (z_en 147 [z_i (x1), z_i (I2 1 0 5), z_i (x2), z_i (x3)] (true, X1, I2, J3)) (some (z_r 32 q14), (true, X9, I10, J11)) ∧ (∃ k27 : Nat, (I2 1 0 5) = Int32.ofNat k27 ∧ k27 < 6 ∧ q14 < X9.1 ∧ X9.2.2.1 q14 ∈ ([0, 3, 5, 6] : List Nat) ∧ r = (some (z_i (I2 1 0 5)), (true, (X9.1, X9.2.1, X9.2.2.1, z_up X9.2.2.2 11 0 k27 (some (32, q14))), (z_up (z_up I10 12 0 k27 (0 : Int32)) 1 0 5 ((I2 1 0 5) + (1 : Int32))), J11)))))) ∧ ((6 : Int32) ≤ (I2 1 0 5) → r = (some (z_i (-2)), (true, X1, I2, J3))))) ∧ (b6 = false → r = (some (z_i (-1)), (true, X1, I2, J3)))))) :
    z_ev (d + 4) (z_en 94 [z_r 0 0, z_i (x1), z_i (x2), z_i (x3)] (true, X, I, J)) r := by
  show z_ev (d + 4) (94, 0, [some (z_r 0 0), some (z_i (x1)), some (z_i (x2)), some (z_i (x3)), none], [], (true, X, I, J)) r
  refine z_ev_gs 3 (c1 := (94, 3, [some (z_r 0 0), some (z_i (x1)), some (z_i (x2)), some (z_i (x3)), none], [z_i (x3), z_i (x2), z_i (x1)], (true, X, I, J))) rfl ?_
  obtain ⟨b6, X1, I2, J3, g4, h5⟩ := h
  refine z_ev_ca rfl rfl g4 ?_
  refine z_ev_gs 1 (c1 := (94, (if ¬ z_c b6 = 0 then 11 else 9), [some (z_r 0 0), some (z_i (x1)), some (z_i (x2)), some (z_i (x3)), none], [], (true, X1, I2, J3))) rfl ?_
  refine z_ev_ifcn (fun e7 => ?_) (fun e7 => ?_)
  · have h36 := h5.1 e7
    refine z_ev_gs 5 (c1 := (94, (if (I2 1 0 5) < (6 : Int32) then 26 else 23), [some (z_r 0 0), some (z_i (x1)), some (z_i (x2)), some (z_i (x3)), none], [], (true, X1, I2, J3))) rfl ?_
    refine z_ev_iflt (fun e8 => ?_) (fun e8 => ?_)
    · have h34 := h36.1 e8
      refine z_ev_gs 12 (c1 := (94, 49, [some (z_r 0 0), some (z_i (x1)), some (z_i (x2)), some (z_i (x3)), some (z_i (I2 1 0 5))], [z_i (x3), z_i (x2), z_i (I2 1 0 5), z_i (x1), z_i (I2 1 0 5), z_r 11 0], (true, X1, I2, J3))) rfl ?_
      rcases h34 with ⟨X9, I10, J11, g15, h18⟩ | ⟨q14, X9, I10, J11, g15, h19⟩
      · refine z_ev_ca rfl rfl g15 ?_
        obtain ⟨k20, e21, e22, h23⟩ := h18
        refine z_ev_aon (i := 0) (k := k20) rfl rfl e21 e22 ?_
        refine z_ev_gs 5 (c1 := (94, 63, [some (z_r 0 0), some (z_i (x1)), some (z_i (x2)), some (z_i (x3)), some (z_i (I2 1 0 5))], [z_i 0, z_i (I2 1 0 5), z_r 12 0], (true, (X9.1, X9.2.1, X9.2.2.1, z_up X9.2.2.2 11 0 k20 none), I10, J11))) rfl ?_
        refine z_ev_iast (t := 12) (i := 0) (k := k20) (n := 6) rfl rfl e21 (Nat.lt_of_lt_of_le e22 (by decide)) (by decide) ?_
        refine z_ev_gs 7 (c1 := (94, 77, [some (z_r 0 0), some (z_i (x1)), some (z_i (x2)), some (z_i (x3)), some (z_i (I2 1 0 5))], [z_i (I2 1 0 5)], (true, (X9.1, X9.2.1, X9.2.2.1, z_up X9.2.2.2 11 0 k20 none), (z_up (z_up I10 12 0 k20 (0 : Int32)) 1 0 5 ((I2 1 0 5) + (1 : Int32))), J11))) rfl ?_
        rw [h23]
        exact z_ev_rt rfl
      · refine z_ev_ca rfl rfl g15 ?_
        obtain ⟨k27, e28, e29, h30⟩ := h19
        obtain ⟨g31, g32, h33⟩ := h30
        refine z_ev_ao (i := 0) (k := k27) rfl rfl g31 g32 e28 e29 ?_
        refine z_ev_gs 5 (c1 := (94, 63, [some (z_r 0 0), some (z_i (x1)), some (z_i (x2)), some (z_i (x3)), some (z_i (I2 1 0 5))], [z_i 0, z_i (I2 1 0 5), z_r 12 0], (true, (X9.1, X9.2.1, X9.2.2.1, z_up X9.2.2.2 11 0 k27 (some (32, q14))), I10, J11))) rfl ?_
        refine z_ev_iast (t := 12) (i := 0) (k := k27) (n := 6) rfl rfl e28 (Nat.lt_of_lt_of_le e29 (by decide)) (by decide) ?_
        refine z_ev_gs 7 (c1 := (94, 77, [some (z_r 0 0), some (z_i (x1)), some (z_i (x2)), some (z_i (x3)), some (z_i (I2 1 0 5))], [z_i (I2 1 0 5)], (true, (X9.1, X9.2.1, X9.2.2.1, z_up X9.2.2.2 11 0 k27 (some (32, q14))), (z_up (z_up I10 12 0 k27 (0 : Int32)) 1 0 5 ((I2 1 0 5) + (1 : Int32))), J11))) rfl ?_
        rw [h33]
        exact z_ev_rt rfl
    · have h35 := h36.2 e8
      refine z_ev_gs 1 (c1 := (94, 25, [some (z_r 0 0), some (z_i (x1)), some (z_i (x2)), some (z_i (x3)), none], [z_i (-2)], (true, X1, I2, J3))) rfl ?_
      rw [h35]
      exact z_ev_rt rfl
  · have h37 := h5.2 e7
    refine z_ev_gs 1 (c1 := (94, 10, [some (z_r 0 0), some (z_i (x1)), some (z_i (x2)), some (z_i (x3)), none], [z_i (-1)], (true, X1, I2, J3))) rfl ?_
    rw [h37]
    exact z_ev_rt rfl
theorem z_q230_e {d : Nat} {r : Option z_V × z_M} {X : z_X} {I : Nat → Nat → Nat → Int32} {J : Nat → Nat → Nat → Int64} (x1 : Int32) (x2 : Int32) (x3 : Int32)
    (h : ((¬ x1 = 0 → ((¬ x1 = (2 : Int32) → ((x1 = (1 : Int32) → (((z_bw x2 (0 : Int32) (9999 : Int32)) = false → r = (some (z_i (-1)), (true, X, I, J))) ∧ ((z_bw x2 (0 : Int32) (9999 : Int32)) = true → ((¬ (I 33 0 8) = (6 : Int32) → (∃ k6 : Nat, ((4 : Int32) * (I 33 0 8)) = Int32.ofNat k6 ∧ k6 < 24 ∧ (∃ k10 : Nat, (((4 : Int32) * (I 33 0 8)) + (1 : Int32)) = Int32.ofNat k10 ∧ k10 < 24 ∧ (∃ k14 : Nat, (((4 : Int32) * (I 33 0 8)) + (2 : Int32)) = Int32.ofNat k14 ∧ k14 < 24 ∧ (∃ k18 : Nat, (((4 : Int32) * (I 33 0 8)) + (3 : Int32)) = Int32.ofNat k18 ∧ k18 < 24 ∧ r = (some (z_i ((((I 33 0 8) + (1 : Int32))) - (1 : Int32))), (true, X, (z_up (z_up (z_up (z_up (z_up I 39 0 k6 x1) 39 0 k10 x2) 39 0 k14 x3) 39 0 k18 (0 : Int32)) 33 0 8 ((I 33 0 8) + (1 : Int32))), J))))))) ∧ ((I 33 0 8) = (6 : Int32) → r = (some (z_i (-2)), (true, X, I, J))))))) ∧ (¬ x1 = (1 : Int32) → ((¬ x1 = (3 : Int32) → r = (some (z_i (-1)), (true, X, I, J))) ∧ (x1 = (3 : Int32) → (((z_bw x2 (0 : Int32) (9999 : Int32)) = false → r = (some (z_i (-1)), (true, X, I, J))) ∧ ((z_bw x2 (0 : Int32) (9999 : Int32)) = true → ((¬ (I 33 0 8) = (6 : Int32) → (∃ k29 : Nat, ((4 : Int32) * (I 33 0 8)) = Int32.ofNat k29 ∧ k29 < 24 ∧ (∃ k33 : Nat, (((4 : Int32) * (I 33 0 8)) + (1 : Int32)) = Int32.ofNat k33 ∧ k33 < 24 ∧ (∃ k37 : Nat, (((4 : Int32) * (I 33 0 8)) + (2 : Int32)) = Int32.ofNat k37 ∧ k37 < 24 ∧ (∃ k41 : Nat, (((4 : Int32) * (I 33 0 8)) + (3 : Int32)) = Int32.ofNat k41 ∧ k41 < 24 ∧ r = (some (z_i ((((I 33 0 8) + (1 : Int32))) - (1 : Int32))), (true, X, (z_up (z_up (z_up (z_up (z_up I 39 0 k29 x1) 39 0 k33 x2) 39 0 k37 x3) 39 0 k41 (0 : Int32)) 33 0 8 ((I 33 0 8) + (1 : Int32))), J))))))) ∧ ((I 33 0 8) = (6 : Int32) → r = (some (z_i (-2)), (true, X, I, J))))))))))) ∧ (x1 = (2 : Int32) → (((z_bw x2 (-9 : Int32) (9 : Int32)) = false → r = (some (z_i (-1)), (true, X, I, J))) ∧ ((z_bw x2 (-9 : Int32) (9 : Int32)) = true → (((z_bw x3 (-9 : Int32) (9 : Int32)) = false → r = (some (z_i (-1)), (true, X, I, J))) ∧ ((z_bw x3 (-9 : Int32) (9 : Int32)) = true → ((¬ (I 33 0 8) = (6 : Int32) → (∃ k56 : Nat, ((4 : Int32) * (I 33 0 8)) = Int32.ofNat k56 ∧ k56 < 24 ∧ (∃ k60 : Nat, (((4 : Int32) * (I 33 0 8)) + (1 : Int32)) = Int32.ofNat k60 ∧ k60 < 24 ∧ (∃ k64 : Nat, (((4 : Int32) * (I 33 0 8)) + (2 : Int32)) = Int32.ofNat k64 ∧ k64 < 24 ∧ (∃ k68 : Nat, (((4 : Int32) * (I 33 0 8)) + (3 : Int32)) = Int32.ofNat k68 ∧ k68 < 24 ∧ r = (some (z_i ((((I 33 0 8) + (1 : Int32))) - (1 : Int32))), (true, X, (z_up (z_up (z_up (z_up (z_up I 39 0 k56 x1) 39 0 k60 x2) 39 0 k64 x3) 39 0 k68 (0 : Int32)) 33 0 8 ((I 33 0 8) + (1 : Int32))), J))))))) ∧ ((I 33 0 8) = (6 : Int32) → r = (some (z_i (-2)), (true, X, I, J))))))))))) ∧ (x1 = 0 → (((z_bw x2 (2 : Int32) (3 : Int32)) = false → r = (some (z_i (-1)), (true, X, I, J))) ∧ ((z_bw x2 (2 : Int32) (3 : Int32)) = true → (∃ (b86 : Bool) (X81 : z_X) (I82 : Nat → Nat → Nat → Int32) (J83 : Nat → Nat → Nat → Int64), z_ev (d + 2) (z_en 166 [z_r 33 0, z_i (x2), z_i (x3)] (true, X, I, J)) (some (z_i (z_c b86)), (true, X81, I82, J83)) ∧ ((b86 = false → r = (some (z_i (-1)), (true, X81, I82, J83))) ∧ (b86 = true → ((¬ (I82 33 0 8) = (6 : Int32) → (∃ k89 : Nat, ((4 : Int32) * (I82 33 0 8)) = Int32.ofNat k89 ∧ k89 < 24 ∧ (∃ k93 : Nat, (((4 : Int32) * (I82 33 0 8)) + (1 : Int32)) = Int32.ofNat k93 ∧ k93 < 24 ∧ (∃ k97 : Nat, (((4 : Int32) * (I82 33 0 8)) + (2 : Int32)) = Int32.ofNat k97 ∧ k97 < 24 ∧ (∃ k101 : Nat, (((4 : Int32) * (I82 33 0 8)) + (3 : Int32)) = Int32.ofNat k101 ∧ k101 < 24 ∧ r = (some (z_i ((((I82 33 0 8) + (1 : Int32))) - (1 : Int32))), (true, X81, (z_up (z_up (z_up (z_up (z_up I82 39 0 k89 x1) 39 0 k93 x2) 39 0 k97 x3) 39 0 k101 (0 : Int32)) 33 0 8 ((I82 33 0 8) + (1 : Int32))), J83))))))) ∧ ((I82 33 0 8) = (6 : Int32) → r = (some (z_i (-2)), (true, X81, I82, J83)))))))))))) :
    z_ev (d + 3) (z_en 230 [z_r 33 0, z_i (x1), z_i (x2), z_i (x3)] (true, X, I, J)) r := by
  show z_ev (d + 3) (230, 0, [some (z_r 33 0), some (z_i (x1)), some (z_i (x2)), some (z_i (x3)), none], [], (true, X, I, J)) r
  refine z_ev_gs 2 (c1 := (230, (if ¬ x1 = 0 then 30 else 4), [some (z_r 33 0), some (z_i (x1)), some (z_i (x2)), some (z_i (x3)), none], [], (true, X, I, J))) rfl ?_
  refine z_ev_ifn (fun e1 => ?_) (fun e1 => ?_)
  · have h111 := h.1 e1
    refine z_ev_gs 3 (c1 := (230, (if ¬ x1 = (2 : Int32) then 65 else 35), [some (z_r 33 0), some (z_i (x1)), some (z_i (x2)), some (z_i (x3)), none], [], (true, X, I, J))) rfl ?_
    refine z_ev_ifn (fun e2 => ?_) (fun e2 => ?_)
    · have h78 := h111.1 e2
      refine z_ev_gs 3 (c1 := (230, (if x1 = (1 : Int32) then 75 else 70), [some (z_r 33 0), some (z_i (x1)), some (z_i (x2)), some (z_i (x3)), none], [], (true, X, I, J))) rfl ?_
      refine z_ev_if (fun e3 => ?_) (fun e3 => ?_)
      · have h51 := h78.1 e3
        refine z_ev_gs 3 (c1 := (230, 80, [some (z_r 33 0), some (z_i (x1)), some (z_i (x2)), some (z_i (x3)), none], [z_i 9999, z_i 0, z_i (x2)], (true, X, I, J))) rfl ?_
        refine z_ev_ca rfl rfl (z_p158 _ _ _) ?_
        refine z_ev_gs 1 (c1 := (230, (if z_c (z_bw x2 (0 : Int32) (9999 : Int32)) = 0 then 90 else 86), [some (z_r 33 0), some (z_i (x1)), some (z_i (x2)), some (z_i (x3)), none], [], (true, X, I, J))) rfl ?_
        refine z_ev_ifc (fun e4 => ?_) (fun e4 => ?_)
        · have h24 := h51.1 e4
          refine z_ev_gs 4 (c1 := (230, 98, [some (z_r 33 0), some (z_i (x1)), some (z_i (x2)), some (z_i (x3)), some (z_i 0)], [], (true, X, I, J))) rfl ?_
          refine z_ev_gs 1 (c1 := (230, 99, [some (z_r 33 0), some (z_i (x1)), some (z_i (x2)), some (z_i (x3)), some (z_i 0)], [z_i (-1)], (true, X, I, J))) rfl ?_
          rw [h24]
          exact z_ev_rt rfl
        · have h25 := h51.2 e4
          refine z_ev_gs 5 (c1 := (230, 100, [some (z_r 33 0), some (z_i (x1)), some (z_i (x2)), some (z_i (x3)), some (z_i 1)], [], (true, X, I, J))) rfl ?_
          refine z_ev_gs 4 (c1 := (230, (if ¬ (I 33 0 8) = (6 : Int32) then 112 else 109), [some (z_r 33 0), some (z_i (x1)), some (z_i (x2)), some (z_i (x3)), some (z_i 1)], [], (true, X, I, J))) rfl ?_
          refine z_ev_ifn (fun e5 => ?_) (fun e5 => ?_)
          · have h22 := h25.1 e5
            refine z_ev_gs 7 (c1 := (230, 123, [some (z_r 33 0), some (z_i (x1)), some (z_i (x2)), some (z_i (x3)), some (z_i 1)], [z_i (x1), z_i ((4 : Int32) * (I 33 0 8)), z_r 39 0], (true, X, I, J))) rfl ?_
            obtain ⟨k6, e7, e8, h9⟩ := h22
            refine z_ev_iast (t := 39) (i := 0) (k := k6) (n := 24) rfl rfl e7 e8 (by decide) ?_
            refine z_ev_gs 9 (c1 := (230, 137, [some (z_r 33 0), some (z_i (x1)), some (z_i (x2)), some (z_i (x3)), some (z_i 1)], [z_i (x2), z_i (((4 : Int32) * (I 33 0 8)) + (1 : Int32)), z_r 39 0], (true, X, (z_up I 39 0 k6 x1), J))) rfl ?_
            obtain ⟨k10, e11, e12, h13⟩ := h9
            refine z_ev_iast (t := 39) (i := 0) (k := k10) (n := 24) rfl rfl e11 e12 (by decide) ?_
            refine z_ev_gs 9 (c1 := (230, 151, [some (z_r 33 0), some (z_i (x1)), some (z_i (x2)), some (z_i (x3)), some (z_i 1)], [z_i (x3), z_i (((4 : Int32) * (I 33 0 8)) + (2 : Int32)), z_r 39 0], (true, X, (z_up (z_up I 39 0 k6 x1) 39 0 k10 x2), J))) rfl ?_
            obtain ⟨k14, e15, e16, h17⟩ := h13
            refine z_ev_iast (t := 39) (i := 0) (k := k14) (n := 24) rfl rfl e15 e16 (by decide) ?_
            refine z_ev_gs 9 (c1 := (230, 165, [some (z_r 33 0), some (z_i (x1)), some (z_i (x2)), some (z_i (x3)), some (z_i 1)], [z_i 0, z_i (((4 : Int32) * (I 33 0 8)) + (3 : Int32)), z_r 39 0], (true, X, (z_up (z_up (z_up I 39 0 k6 x1) 39 0 k10 x2) 39 0 k14 x3), J))) rfl ?_
            obtain ⟨k18, e19, e20, h21⟩ := h17
            refine z_ev_iast (t := 39) (i := 0) (k := k18) (n := 24) rfl rfl e19 e20 (by decide) ?_
            refine z_ev_gs 10 (c1 := (230, 182, [some (z_r 33 0), some (z_i (x1)), some (z_i (x2)), some (z_i (x3)), some (z_i 1)], [z_i ((((I 33 0 8) + (1 : Int32))) - (1 : Int32))], (true, X, (z_up (z_up (z_up (z_up (z_up I 39 0 k6 x1) 39 0 k10 x2) 39 0 k14 x3) 39 0 k18 (0 : Int32)) 33 0 8 ((I 33 0 8) + (1 : Int32))), J))) rfl ?_
            rw [h21]
            exact z_ev_rt rfl
          · have h23 := h25.2 e5
            refine z_ev_gs 1 (c1 := (230, 111, [some (z_r 33 0), some (z_i (x1)), some (z_i (x2)), some (z_i (x3)), some (z_i 1)], [z_i (-2)], (true, X, I, J))) rfl ?_
            rw [h23]
            exact z_ev_rt rfl
      · have h52 := h78.2 e3
        refine z_ev_gs 3 (c1 := (230, (if ¬ x1 = (3 : Int32) then 90 else 75), [some (z_r 33 0), some (z_i (x1)), some (z_i (x2)), some (z_i (x3)), none], [], (true, X, I, J))) rfl ?_
        refine z_ev_ifn (fun e26 => ?_) (fun e26 => ?_)
        · have h49 := h52.1 e26
          refine z_ev_gs 4 (c1 := (230, 98, [some (z_r 33 0), some (z_i (x1)), some (z_i (x2)), some (z_i (x3)), some (z_i 0)], [], (true, X, I, J))) rfl ?_
          refine z_ev_gs 1 (c1 := (230, 99, [some (z_r 33 0), some (z_i (x1)), some (z_i (x2)), some (z_i (x3)), some (z_i 0)], [z_i (-1)], (true, X, I, J))) rfl ?_
          rw [h49]
          exact z_ev_rt rfl
        · have h50 := h52.2 e26
          refine z_ev_gs 3 (c1 := (230, 80, [some (z_r 33 0), some (z_i (x1)), some (z_i (x2)), some (z_i (x3)), none], [z_i 9999, z_i 0, z_i (x2)], (true, X, I, J))) rfl ?_
          refine z_ev_ca rfl rfl (z_p158 _ _ _) ?_
          refine z_ev_gs 1 (c1 := (230, (if z_c (z_bw x2 (0 : Int32) (9999 : Int32)) = 0 then 90 else 86), [some (z_r 33 0), some (z_i (x1)), some (z_i (x2)), some (z_i (x3)), none], [], (true, X, I, J))) rfl ?_
          refine z_ev_ifc (fun e27 => ?_) (fun e27 => ?_)
          · have h47 := h50.1 e27
            refine z_ev_gs 4 (c1 := (230, 98, [some (z_r 33 0), some (z_i (x1)), some (z_i (x2)), some (z_i (x3)), some (z_i 0)], [], (true, X, I, J))) rfl ?_
            refine z_ev_gs 1 (c1 := (230, 99, [some (z_r 33 0), some (z_i (x1)), some (z_i (x2)), some (z_i (x3)), some (z_i 0)], [z_i (-1)], (true, X, I, J))) rfl ?_
            rw [h47]
            exact z_ev_rt rfl
          · have h48 := h50.2 e27
            refine z_ev_gs 5 (c1 := (230, 100, [some (z_r 33 0), some (z_i (x1)), some (z_i (x2)), some (z_i (x3)), some (z_i 1)], [], (true, X, I, J))) rfl ?_
            refine z_ev_gs 4 (c1 := (230, (if ¬ (I 33 0 8) = (6 : Int32) then 112 else 109), [some (z_r 33 0), some (z_i (x1)), some (z_i (x2)), some (z_i (x3)), some (z_i 1)], [], (true, X, I, J))) rfl ?_
            refine z_ev_ifn (fun e28 => ?_) (fun e28 => ?_)
            · have h45 := h48.1 e28
              refine z_ev_gs 7 (c1 := (230, 123, [some (z_r 33 0), some (z_i (x1)), some (z_i (x2)), some (z_i (x3)), some (z_i 1)], [z_i (x1), z_i ((4 : Int32) * (I 33 0 8)), z_r 39 0], (true, X, I, J))) rfl ?_
              obtain ⟨k29, e30, e31, h32⟩ := h45
              refine z_ev_iast (t := 39) (i := 0) (k := k29) (n := 24) rfl rfl e30 e31 (by decide) ?_
              refine z_ev_gs 9 (c1 := (230, 137, [some (z_r 33 0), some (z_i (x1)), some (z_i (x2)), some (z_i (x3)), some (z_i 1)], [z_i (x2), z_i (((4 : Int32) * (I 33 0 8)) + (1 : Int32)), z_r 39 0], (true, X, (z_up I 39 0 k29 x1), J))) rfl ?_
              obtain ⟨k33, e34, e35, h36⟩ := h32
              refine z_ev_iast (t := 39) (i := 0) (k := k33) (n := 24) rfl rfl e34 e35 (by decide) ?_
              refine z_ev_gs 9 (c1 := (230, 151, [some (z_r 33 0), some (z_i (x1)), some (z_i (x2)), some (z_i (x3)), some (z_i 1)], [z_i (x3), z_i (((4 : Int32) * (I 33 0 8)) + (2 : Int32)), z_r 39 0], (true, X, (z_up (z_up I 39 0 k29 x1) 39 0 k33 x2), J))) rfl ?_
              obtain ⟨k37, e38, e39, h40⟩ := h36
              refine z_ev_iast (t := 39) (i := 0) (k := k37) (n := 24) rfl rfl e38 e39 (by decide) ?_
              refine z_ev_gs 9 (c1 := (230, 165, [some (z_r 33 0), some (z_i (x1)), some (z_i (x2)), some (z_i (x3)), some (z_i 1)], [z_i 0, z_i (((4 : Int32) * (I 33 0 8)) + (3 : Int32)), z_r 39 0], (true, X, (z_up (z_up (z_up I 39 0 k29 x1) 39 0 k33 x2) 39 0 k37 x3), J))) rfl ?_
              obtain ⟨k41, e42, e43, h44⟩ := h40
              refine z_ev_iast (t := 39) (i := 0) (k := k41) (n := 24) rfl rfl e42 e43 (by decide) ?_
              refine z_ev_gs 10 (c1 := (230, 182, [some (z_r 33 0), some (z_i (x1)), some (z_i (x2)), some (z_i (x3)), some (z_i 1)], [z_i ((((I 33 0 8) + (1 : Int32))) - (1 : Int32))], (true, X, (z_up (z_up (z_up (z_up (z_up I 39 0 k29 x1) 39 0 k33 x2) 39 0 k37 x3) 39 0 k41 (0 : Int32)) 33 0 8 ((I 33 0 8) + (1 : Int32))), J))) rfl ?_
              rw [h44]
              exact z_ev_rt rfl
            · have h46 := h48.2 e28
              refine z_ev_gs 1 (c1 := (230, 111, [some (z_r 33 0), some (z_i (x1)), some (z_i (x2)), some (z_i (x3)), some (z_i 1)], [z_i (-2)], (true, X, I, J))) rfl ?_
              rw [h46]
              exact z_ev_rt rfl
    · have h79 := h111.2 e2
      refine z_ev_gs 3 (c1 := (230, 40, [some (z_r 33 0), some (z_i (x1)), some (z_i (x2)), some (z_i (x3)), none], [z_i 9, z_i (-9), z_i (x2)], (true, X, I, J))) rfl ?_
      refine z_ev_ca rfl rfl (z_p158 _ _ _) ?_
      refine z_ev_gs 1 (c1 := (230, (if z_c (z_bw x2 (-9 : Int32) (9 : Int32)) = 0 then 61 else 46), [some (z_r 33 0), some (z_i (x1)), some (z_i (x2)), some (z_i (x3)), none], [], (true, X, I, J))) rfl ?_
      refine z_ev_ifc (fun e53 => ?_) (fun e53 => ?_)
      · have h76 := h79.1 e53
        refine z_ev_gs 5 (c1 := (230, 98, [some (z_r 33 0), some (z_i (x1)), some (z_i (x2)), some (z_i (x3)), some (z_i 0)], [], (true, X, I, J))) rfl ?_
        refine z_ev_gs 1 (c1 := (230, 99, [some (z_r 33 0), some (z_i (x1)), some (z_i (x2)), some (z_i (x3)), some (z_i 0)], [z_i (-1)], (true, X, I, J))) rfl ?_
        rw [h76]
        exact z_ev_rt rfl
      · have h77 := h79.2 e53
        refine z_ev_gs 3 (c1 := (230, 51, [some (z_r 33 0), some (z_i (x1)), some (z_i (x2)), some (z_i (x3)), none], [z_i 9, z_i (-9), z_i (x3)], (true, X, I, J))) rfl ?_
        refine z_ev_ca rfl rfl (z_p158 _ _ _) ?_
        refine z_ev_gs 1 (c1 := (230, (if z_c (z_bw x3 (-9 : Int32) (9 : Int32)) = 0 then 61 else 57), [some (z_r 33 0), some (z_i (x1)), some (z_i (x2)), some (z_i (x3)), none], [], (true, X, I, J))) rfl ?_
        refine z_ev_ifc (fun e54 => ?_) (fun e54 => ?_)
        · have h74 := h77.1 e54
          refine z_ev_gs 5 (c1 := (230, 98, [some (z_r 33 0), some (z_i (x1)), some (z_i (x2)), some (z_i (x3)), some (z_i 0)], [], (true, X, I, J))) rfl ?_
          refine z_ev_gs 1 (c1 := (230, 99, [some (z_r 33 0), some (z_i (x1)), some (z_i (x2)), some (z_i (x3)), some (z_i 0)], [z_i (-1)], (true, X, I, J))) rfl ?_
          rw [h74]
          exact z_ev_rt rfl
        · have h75 := h77.2 e54
          refine z_ev_gs 5 (c1 := (230, 100, [some (z_r 33 0), some (z_i (x1)), some (z_i (x2)), some (z_i (x3)), some (z_i 1)], [], (true, X, I, J))) rfl ?_
          refine z_ev_gs 4 (c1 := (230, (if ¬ (I 33 0 8) = (6 : Int32) then 112 else 109), [some (z_r 33 0), some (z_i (x1)), some (z_i (x2)), some (z_i (x3)), some (z_i 1)], [], (true, X, I, J))) rfl ?_
          refine z_ev_ifn (fun e55 => ?_) (fun e55 => ?_)
          · have h72 := h75.1 e55
            refine z_ev_gs 7 (c1 := (230, 123, [some (z_r 33 0), some (z_i (x1)), some (z_i (x2)), some (z_i (x3)), some (z_i 1)], [z_i (x1), z_i ((4 : Int32) * (I 33 0 8)), z_r 39 0], (true, X, I, J))) rfl ?_
            obtain ⟨k56, e57, e58, h59⟩ := h72
            refine z_ev_iast (t := 39) (i := 0) (k := k56) (n := 24) rfl rfl e57 e58 (by decide) ?_
            refine z_ev_gs 9 (c1 := (230, 137, [some (z_r 33 0), some (z_i (x1)), some (z_i (x2)), some (z_i (x3)), some (z_i 1)], [z_i (x2), z_i (((4 : Int32) * (I 33 0 8)) + (1 : Int32)), z_r 39 0], (true, X, (z_up I 39 0 k56 x1), J))) rfl ?_
            obtain ⟨k60, e61, e62, h63⟩ := h59
            refine z_ev_iast (t := 39) (i := 0) (k := k60) (n := 24) rfl rfl e61 e62 (by decide) ?_
            refine z_ev_gs 9 (c1 := (230, 151, [some (z_r 33 0), some (z_i (x1)), some (z_i (x2)), some (z_i (x3)), some (z_i 1)], [z_i (x3), z_i (((4 : Int32) * (I 33 0 8)) + (2 : Int32)), z_r 39 0], (true, X, (z_up (z_up I 39 0 k56 x1) 39 0 k60 x2), J))) rfl ?_
            obtain ⟨k64, e65, e66, h67⟩ := h63
            refine z_ev_iast (t := 39) (i := 0) (k := k64) (n := 24) rfl rfl e65 e66 (by decide) ?_
            refine z_ev_gs 9 (c1 := (230, 165, [some (z_r 33 0), some (z_i (x1)), some (z_i (x2)), some (z_i (x3)), some (z_i 1)], [z_i 0, z_i (((4 : Int32) * (I 33 0 8)) + (3 : Int32)), z_r 39 0], (true, X, (z_up (z_up (z_up I 39 0 k56 x1) 39 0 k60 x2) 39 0 k64 x3), J))) rfl ?_
            obtain ⟨k68, e69, e70, h71⟩ := h67
            refine z_ev_iast (t := 39) (i := 0) (k := k68) (n := 24) rfl rfl e69 e70 (by decide) ?_
            refine z_ev_gs 10 (c1 := (230, 182, [some (z_r 33 0), some (z_i (x1)), some (z_i (x2)), some (z_i (x3)), some (z_i 1)], [z_i ((((I 33 0 8) + (1 : Int32))) - (1 : Int32))], (true, X, (z_up (z_up (z_up (z_up (z_up I 39 0 k56 x1) 39 0 k60 x2) 39 0 k64 x3) 39 0 k68 (0 : Int32)) 33 0 8 ((I 33 0 8) + (1 : Int32))), J))) rfl ?_
            rw [h71]
            exact z_ev_rt rfl
          · have h73 := h75.2 e55
            refine z_ev_gs 1 (c1 := (230, 111, [some (z_r 33 0), some (z_i (x1)), some (z_i (x2)), some (z_i (x3)), some (z_i 1)], [z_i (-2)], (true, X, I, J))) rfl ?_
            rw [h73]
            exact z_ev_rt rfl
  · have h112 := h.2 e1
    refine z_ev_gs 3 (c1 := (230, 7, [some (z_r 33 0), some (z_i (x1)), some (z_i (x2)), some (z_i (x3)), none], [z_i 3, z_i 2, z_i (x2)], (true, X, I, J))) rfl ?_
    refine z_ev_ca rfl rfl (z_p158 _ _ _) ?_
    refine z_ev_gs 1 (c1 := (230, (if z_c (z_bw x2 (2 : Int32) (3 : Int32)) = 0 then 26 else 13), [some (z_r 33 0), some (z_i (x1)), some (z_i (x2)), some (z_i (x3)), none], [], (true, X, I, J))) rfl ?_
    refine z_ev_ifc (fun e80 => ?_) (fun e80 => ?_)
    · have h109 := h112.1 e80
      refine z_ev_gs 5 (c1 := (230, 98, [some (z_r 33 0), some (z_i (x1)), some (z_i (x2)), some (z_i (x3)), some (z_i 0)], [], (true, X, I, J))) rfl ?_
      refine z_ev_gs 1 (c1 := (230, 99, [some (z_r 33 0), some (z_i (x1)), some (z_i (x2)), some (z_i (x3)), some (z_i 0)], [z_i (-1)], (true, X, I, J))) rfl ?_
      rw [h109]
      exact z_ev_rt rfl
    · have h110 := h112.2 e80
      refine z_ev_gs 3 (c1 := (230, 16, [some (z_r 33 0), some (z_i (x1)), some (z_i (x2)), some (z_i (x3)), none], [z_i (x3), z_i (x2), z_r 33 0], (true, X, I, J))) rfl ?_
      obtain ⟨b86, X81, I82, J83, g84, h85⟩ := h110
      refine z_ev_ca rfl rfl g84 ?_
      refine z_ev_gs 1 (c1 := (230, (if z_c b86 = 0 then 26 else 22), [some (z_r 33 0), some (z_i (x1)), some (z_i (x2)), some (z_i (x3)), none], [], (true, X81, I82, J83))) rfl ?_
      refine z_ev_ifc (fun e87 => ?_) (fun e87 => ?_)
      · have h107 := h85.1 e87
        refine z_ev_gs 5 (c1 := (230, 98, [some (z_r 33 0), some (z_i (x1)), some (z_i (x2)), some (z_i (x3)), some (z_i 0)], [], (true, X81, I82, J83))) rfl ?_
        refine z_ev_gs 1 (c1 := (230, 99, [some (z_r 33 0), some (z_i (x1)), some (z_i (x2)), some (z_i (x3)), some (z_i 0)], [z_i (-1)], (true, X81, I82, J83))) rfl ?_
        rw [h107]
        exact z_ev_rt rfl
      · have h108 := h85.2 e87
        refine z_ev_gs 5 (c1 := (230, 100, [some (z_r 33 0), some (z_i (x1)), some (z_i (x2)), some (z_i (x3)), some (z_i 1)], [], (true, X81, I82, J83))) rfl ?_
        refine z_ev_gs 4 (c1 := (230, (if ¬ (I82 33 0 8) = (6 : Int32) then 112 else 109), [some (z_r 33 0), some (z_i (x1)), some (z_i (x2)), some (z_i (x3)), some (z_i 1)], [], (true, X81, I82, J83))) rfl ?_
        refine z_ev_ifn (fun e88 => ?_) (fun e88 => ?_)
        · have h105 := h108.1 e88
          refine z_ev_gs 7 (c1 := (230, 123, [some (z_r 33 0), some (z_i (x1)), some (z_i (x2)), some (z_i (x3)), some (z_i 1)], [z_i (x1), z_i ((4 : Int32) * (I82 33 0 8)), z_r 39 0], (true, X81, I82, J83))) rfl ?_
          obtain ⟨k89, e90, e91, h92⟩ := h105
          refine z_ev_iast (t := 39) (i := 0) (k := k89) (n := 24) rfl rfl e90 e91 (by decide) ?_
          refine z_ev_gs 9 (c1 := (230, 137, [some (z_r 33 0), some (z_i (x1)), some (z_i (x2)), some (z_i (x3)), some (z_i 1)], [z_i (x2), z_i (((4 : Int32) * (I82 33 0 8)) + (1 : Int32)), z_r 39 0], (true, X81, (z_up I82 39 0 k89 x1), J83))) rfl ?_
          obtain ⟨k93, e94, e95, h96⟩ := h92
          refine z_ev_iast (t := 39) (i := 0) (k := k93) (n := 24) rfl rfl e94 e95 (by decide) ?_
          refine z_ev_gs 9 (c1 := (230, 151, [some (z_r 33 0), some (z_i (x1)), some (z_i (x2)), some (z_i (x3)), some (z_i 1)], [z_i (x3), z_i (((4 : Int32) * (I82 33 0 8)) + (2 : Int32)), z_r 39 0], (true, X81, (z_up (z_up I82 39 0 k89 x1) 39 0 k93 x2), J83))) rfl ?_
          obtain ⟨k97, e98, e99, h100⟩ := h96
          refine z_ev_iast (t := 39) (i := 0) (k := k97) (n := 24) rfl rfl e98 e99 (by decide) ?_
          refine z_ev_gs 9 (c1 := (230, 165, [some (z_r 33 0), some (z_i (x1)), some (z_i (x2)), some (z_i (x3)), some (z_i 1)], [z_i 0, z_i (((4 : Int32) * (I82 33 0 8)) + (3 : Int32)), z_r 39 0], (true, X81, (z_up (z_up (z_up I82 39 0 k89 x1) 39 0 k93 x2) 39 0 k97 x3), J83))) rfl ?_
          obtain ⟨k101, e102, e103, h104⟩ := h100
          refine z_ev_iast (t := 39) (i := 0) (k := k101) (n := 24) rfl rfl e102 e103 (by decide) ?_
          refine z_ev_gs 10 (c1 := (230, 182, [some (z_r 33 0), some (z_i (x1)), some (z_i (x2)), some (z_i (x3)), some (z_i 1)], [z_i ((((I82 33 0 8) + (1 : Int32))) - (1 : Int32))], (true, X81, (z_up (z_up (z_up (z_up (z_up I82 39 0 k89 x1) 39 0 k93 x2) 39 0 k97 x3) 39 0 k101 (0 : Int32)) 33 0 8 ((I82 33 0 8) + (1 : Int32))), J83))) rfl ?_
          rw [h104]
          exact z_ev_rt rfl
        · have h106 := h108.2 e88
          refine z_ev_gs 1 (c1 := (230, 111, [some (z_r 33 0), some (z_i (x1)), some (z_i (x2)), some (z_i (x3)), some (z_i 1)], [z_i (-2)], (true, X81, I82, J83))) rfl ?_
          rw [h106]
          exact z_ev_rt rfl
