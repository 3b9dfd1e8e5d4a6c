/-! trial -/
theorem z_q22_e {d : Nat} {r : Option z_V × z_M} {X : z_X} {I : Nat → Nat → Nat → Int32} {J : Nat → Nat → Nat → Int64} (q0 : Nat) (hq0 : q0 < 10) (x1 : Int32) (x2 : Int32)
    (h : (∃ k1 : Nat, x1 = Int32.ofNat k1 ∧ k1 < 10 ∧ (((((I 14 q0 k1) >>> (x2 &&& 31)) &&& (1 : Int32)) = 0 → r = (some (z_i 0), (true, X, I, J))) ∧ (¬ (((I 14 q0 k1) >>> (x2 &&& 31)) &&& (1 : Int32)) = 0 → r = (some (z_i 1), (true, X, I, J)))))) :
    z_ev (d + 1) (z_en 22 [z_r 13 q0, z_i (x1), z_i (x2)] (true, X, I, J)) r := by
  show z_ev (d + 1) (22, 0, [some (z_r 13 q0), some (z_i (x1)), some (z_i (x2))], [], (true, X, I, J)) r
  refine z_ev_gs 1 (c1 := (22, 1, [some (z_r 13 q0), some (z_i (x1)), some (z_i (x2))], [z_r 13 q0], (true, X, I, J))) rfl ?_
  refine z_ev_gi (c1 := (22, 4, [some (z_r 13 q0), some (z_i (x1)), some (z_i (x2))], [z_r 14 q0], (true, X, I, J))) rfl hq0 ?_
  refine z_ev_gs 1 (c1 := (22, 5, [some (z_r 13 q0), some (z_i (x1)), some (z_i (x2))], [z_i (x1), z_r 14 q0], (true, X, I, J))) rfl ?_
  obtain ⟨k1, e2, e3, h4⟩ := h
  refine z_ev_iald (t := 14) (i := q0) (k := k1) (n := 10) rfl (z_gt hq0) e2 e3 (by decide) ?_
  refine z_ev_gs 5 (c1 := (22, (if (((I 14 q0 k1) >>> (x2 &&& 31)) &&& (1 : Int32)) = 0 then 17 else 13), [some (z_r 13 q0), some (z_i (x1)), some (z_i (x2))], [], (true, X, I, J))) rfl ?_
  refine z_ev_if (fun e5 => ?_) (fun e5 => ?_)
  · have h6 := h4.1 e5
    refine z_ev_gs 1 (c1 := (22, 18, [some (z_r 13 q0), some (z_i (x1)), some (z_i (x2))], [z_i 0], (true, X, I, J))) rfl ?_
    rw [h6]
    exact z_ev_rt rfl
  · have h7 := h4.2 e5
    refine z_ev_gs 2 (c1 := (22, 18, [some (z_r 13 q0), some (z_i (x1)), some (z_i (x2))], [z_i 1], (true, X, I, J))) rfl ?_
    rw [h7]
    exact z_ev_rt rfl
theorem z_q26_e {d : Nat} {r : Option z_V × z_M} {X : z_X} {I : Nat → Nat → Nat → Int32} {J : Nat → Nat → Nat → Int64} (q0 : Nat) (hq0 : q0 < 10)
    (h : z_ev (d + 1) (26, 4, [some (z_r 13 q0), some (z_i 0), some (z_i 0)], [], (true, X, I, J)) r) :
    z_ev (d + 1) (z_en 26 [z_r 13 q0] (true, X, I, J)) r := by
  show z_ev (d + 1) (26, 0, [some (z_r 13 q0), none, none], [], (true, X, I, J)) r
  refine z_ev_gs 4 (c1 := (26, 4, [some (z_r 13 q0), some (z_i 0), some (z_i 0)], [], (true, X, I, J))) rfl ?_
  exact h
theorem z_q26_4 {d : Nat} {r : Option z_V × z_M} {X : z_X} {I : Nat → Nat → Nat → Int32} {J : Nat → Nat → Nat → Int64} (q0 : Nat) (hq0 : q0 < 10) (x1 : Int32) (x2 : Int32)
    (h : (((I 13 q0 1) ≤ x2 → r = (some (z_i (x1 / (2 : Int32))), (true, X, I, J))) ∧ (x2 < (I 13 q0 1) → (∃ k1 : Nat, x2 = Int32.ofNat k1 ∧ k1 < 10 ∧ (∃ (v10 : Int32) (X5 : z_X) (I6 : Nat → Nat → Nat → Int32) (J7 : Nat → Nat → Nat → Int64), z_ev d (z_en 275 [z_i (I 14 q0 k1)] (true, X, I, J)) (some (z_i (v10)), (true, X5, I6, J7)) ∧ z_ev (d + 1) (26, 4, [some (z_r 13 q0), some (z_i (x1 + v10)), some (z_i (x2 + (1 : Int32)))], [], (true, X5, I6, J7)) r))))) :
    z_ev (d + 1) ((26, 4, [some (z_r 13 q0), some (z_i (x1)), some (z_i (x2))], [], (true, X, I, J))) r := by
  refine z_ev_gs 2 (c1 := (26, 6, [some (z_r 13 q0), some (z_i (x1)), some (z_i (x2))], [z_r 13 q0, z_i (x2)], (true, X, I, J))) rfl ?_
  refine z_ev_gi (c1 := (26, 9, [some (z_r 13 q0), some (z_i (x1)), some (z_i (x2))], [z_i (I 13 q0 1), z_i (x2)], (true, X, I, J))) rfl hq0 ?_
  refine z_ev_gs 1 (c1 := (26, (if (I 13 q0 1) ≤ x2 then 30 else 12), [some (z_r 13 q0), some (z_i (x1)), some (z_i (x2))], [], (true, X, I, J))) rfl ?_
  refine z_ev_ifle (fun e11 => ?_) (fun e11 => ?_)
  · have h12 := h.1 e11
    refine z_ev_gs 2 (c1 := (26, 32, [some (z_r 13 q0), some (z_i (x1)), some (z_i (x2))], [z_i 2, z_i (x1)], (true, X, I, J))) rfl ?_
    refine z_ev_dvi (w1 := (2 : Int32)) (c1 := (26, 33, [some (z_r 13 q0), some (z_i (x1)), some (z_i (x2))], [z_i (x1 / (2 : Int32))], (true, X, I, J))) rfl (by decide) ?_
    rw [h12]
    exact z_ev_rt rfl
  · have h13 := h.2 e11
    refine z_ev_gs 2 (c1 := (26, 14, [some (z_r 13 q0), some (z_i (x1)), some (z_i (x2))], [z_r 13 q0, z_i (x1)], (true, X, I, J))) rfl ?_
    refine z_ev_gi (c1 := (26, 17, [some (z_r 13 q0), some (z_i (x1)), some (z_i (x2))], [z_r 14 q0, z_i (x1)], (true, X, I, J))) rfl hq0 ?_
    refine z_ev_gs 1 (c1 := (26, 18, [some (z_r 13 q0), some (z_i (x1)), some (z_i (x2))], [z_i (x2), z_r 14 q0, z_i (x1)], (true, X, I, J))) rfl ?_
    obtain ⟨k1, e2, e3, h4⟩ := h13
    refine z_ev_iald (t := 14) (i := q0) (k := k1) (n := 10) rfl (z_gt hq0) e2 e3 (by decide) ?_
    obtain ⟨v10, X5, I6, J7, g8, h9⟩ := h4
    refine z_ev_ca rfl rfl g8 ?_
    refine z_ev_gs 4 (c1 := (26, 4, [some (z_r 13 q0), some (z_i (x1 + v10)), some (z_i (x2 + (1 : Int32)))], [], (true, X5, I6, J7))) rfl ?_
    exact h9
theorem z_q19_e {d : Nat} {r : Option z_V × z_M} {X : z_X} {I : Nat → Nat → Nat → Int32} {J : Nat → Nat → Nat → Int64} (q0 : Nat) (hq0 : q0 < 10) (x1 : Int32)
    (h : z_ev (d + 1) (19, 7, [some (z_r 13 q0), some (z_i (x1)), some (z_i 0)], [], (true, X, (z_up I 13 q0 1 x1), J)) r) :
    z_ev (d + 1) (z_en 19 [z_r 13 q0, z_i (x1)] (true, X, I, J)) r := by
  show z_ev (d + 1) (19, 0, [some (z_r 13 q0), some (z_i (x1)), none], [], (true, X, I, J)) r
  refine z_ev_gs 2 (c1 := (19, 2, [some (z_r 13 q0), some (z_i (x1)), none], [z_i (x1), z_r 13 q0], (true, X, I, J))) rfl ?_
  refine z_ev_gi (c1 := (19, 5, [some (z_r 13 q0), some (z_i (x1)), none], [], (true, X, (z_up I 13 q0 1 x1), J))) rfl hq0 ?_
  refine z_ev_gs 2 (c1 := (19, 7, [some (z_r 13 q0), some (z_i (x1)), some (z_i 0)], [], (true, X, (z_up I 13 q0 1 x1), J))) rfl ?_
  exact h
theorem z_q19_7 {d : Nat} {r : Option z_V × z_M} {X : z_X} {I : Nat → Nat → Nat → Int32} {J : Nat → Nat → Nat → Int64} (q0 : Nat) (hq0 : q0 < 10) (x1 : Int32) (x2 : Int32)
    (h : (((10 : Int32) ≤ x2 → r = (none, (true, X, I, J))) ∧ (x2 < (10 : Int32) → (∃ k1 : Nat, x2 = Int32.ofNat k1 ∧ k1 < 10 ∧ z_ev (d + 1) (19, 7, [some (z_r 13 q0), some (z_i (x1)), some (z_i (x2 + (1 : Int32)))], [], (true, X, (z_up I 14 q0 k1 (0 : Int32)), J)) r)))) :
    z_ev (d + 1) ((19, 7, [some (z_r 13 q0), some (z_i (x1)), some (z_i (x2))], [], (true, X, I, J))) r := by
  refine z_ev_gs 3 (c1 := (19, (if (10 : Int32) ≤ x2 then 26 else 13), [some (z_r 13 q0), some (z_i (x1)), some (z_i (x2))], [], (true, X, I, J))) rfl ?_
  refine z_ev_ifle (fun e5 => ?_) (fun e5 => ?_)
  · have h6 := h.1 e5
    rw [h6]
    exact z_ev_rt rfl
  · have h7 := h.2 e5
    refine z_ev_gs 1 (c1 := (19, 14, [some (z_r 13 q0), some (z_i (x1)), some (z_i (x2))], [z_r 13 q0], (true, X, I, J))) rfl ?_
    refine z_ev_gi (c1 := (19, 17, [some (z_r 13 q0), some (z_i (x1)), some (z_i (x2))], [z_r 14 q0], (true, X, I, J))) rfl hq0 ?_
    refine z_ev_gs 2 (c1 := (19, 19, [some (z_r 13 q0), some (z_i (x1)), some (z_i (x2))], [z_i 0, z_i (x2), z_r 14 q0], (true, X, I, J))) rfl ?_
    obtain ⟨k1, e2, e3, h4⟩ := h7
    refine z_ev_iast (t := 14) (i := q0) (k := k1) (n := 10) rfl (z_gt hq0) e2 e3 (by decide) ?_
    refine z_ev_gs 2 (c1 := (19, 7, [some (z_r 13 q0), some (z_i (x1)), some (z_i (x2 + (1 : Int32)))], [], (true, X, (z_up I 14 q0 k1 (0 : Int32)), J))) rfl ?_
    exact h4
theorem z_q23_e {d : Nat} {r : Option z_V × z_M} {X : z_X} {I : Nat → Nat → Nat → Int32} {J : Nat → Nat → Nat → Int64} (q0 : Nat) (hq0 : q0 < 10) (x1 : Int32) (x2 : Int32) (b3 : Bool)
    (h : ((b3 = false → (∃ k1 : Nat, x1 = Int32.ofNat k1 ∧ k1 < 10 ∧ (∃ k5 : Nat, x2 = Int32.ofNat k5 ∧ k5 < 10 ∧ r = (none, (true, X, (z_up (z_up I 14 q0 k1 ((I 14 q0 k1) &&& (((1 : Int32) <<< (x2 &&& 31)) ^^^ (-1 : Int32)))) 14 q0 k5 (((z_up I 14 q0 k1 ((I 14 q0 k1) &&& (((1 : Int32) <<< (x2 &&& 31)) ^^^ (-1 : Int32)))) 14 q0 k5) &&& (((1 : Int32) <<< (x1 &&& 31)) ^^^ (-1 : Int32)))), J))))) ∧ (b3 = true → (∃ k9 : Nat, x1 = Int32.ofNat k9 ∧ k9 < 10 ∧ (∃ k13 : Nat, x2 = Int32.ofNat k13 ∧ k13 < 10 ∧ r = (none, (true, X, (z_up (z_up I 14 q0 k9 ((I 14 q0 k9) ||| ((1 : Int32) <<< (x2 &&& 31)))) 14 q0 k13 (((z_up I 14 q0 k9 ((I 14 q0 k9) ||| ((1 : Int32) <<< (x2 &&& 31)))) 14 q0 k13) ||| ((1 : Int32) <<< (x1 &&& 31)))), J))))))) :
    z_ev (d + 1) (z_en 23 [z_r 13 q0, z_i (x1), z_i (x2), z_i (z_c b3)] (true, X, I, J)) r := by
  show z_ev (d + 1) (23, 0, [some (z_r 13 q0), some (z_i (x1)), some (z_i (x2)), some (z_i (z_c b3))], [], (true, X, I, J)) r
  refine z_ev_gs 2 (c1 := (23, (if z_c b3 = 0 then 31 else 4), [some (z_r 13 q0), some (z_i (x1)), some (z_i (x2)), some (z_i (z_c b3))], [], (true, X, I, J))) rfl ?_
  refine z_ev_ifc (fun e17 => ?_) (fun e17 => ?_)
  · have h18 := h.1 e17
    refine z_ev_gs 1 (c1 := (23, 32, [some (z_r 13 q0), some (z_i (x1)), some (z_i (x2)), some (z_i (z_c b3))], [z_r 13 q0], (true, X, I, J))) rfl ?_
    refine z_ev_gi (c1 := (23, 35, [some (z_r 13 q0), some (z_i (x1)), some (z_i (x2)), some (z_i (z_c b3))], [z_r 14 q0], (true, X, I, J))) rfl hq0 ?_
    refine z_ev_gs 2 (c1 := (23, 37, [some (z_r 13 q0), some (z_i (x1)), some (z_i (x2)), some (z_i (z_c b3))], [z_i (x1), z_r 14 q0, z_i (x1), z_r 14 q0], (true, X, I, J))) rfl ?_
    obtain ⟨k1, e2, e3, h4⟩ := h18
    refine z_ev_iald (t := 14) (i := q0) (k := k1) (n := 10) rfl (z_gt hq0) e2 e3 (by decide) ?_
    refine z_ev_gs 6 (c1 := (23, 44, [some (z_r 13 q0), some (z_i (x1)), some (z_i (x2)), some (z_i (z_c b3))], [z_i ((I 14 q0 k1) &&& (((1 : Int32) <<< (x2 &&& 31)) ^^^ (-1 : Int32))), z_i (x1), z_r 14 q0], (true, X, I, J))) rfl ?_
    refine z_ev_iast (t := 14) (i := q0) (k := k1) (n := 10) rfl (z_gt hq0) e2 (Nat.lt_of_lt_of_le e3 (by decide)) (by decide) ?_
    refine z_ev_gs 1 (c1 := (23, 46, [some (z_r 13 q0), some (z_i (x1)), some (z_i (x2)), some (z_i (z_c b3))], [z_r 13 q0], (true, X, (z_up I 14 q0 k1 ((I 14 q0 k1) &&& (((1 : Int32) <<< (x2 &&& 31)) ^^^ (-1 : Int32)))), J))) rfl ?_
    refine z_ev_gi (c1 := (23, 49, [some (z_r 13 q0), some (z_i (x1)), some (z_i (x2)), some (z_i (z_c b3))], [z_r 14 q0], (true, X, (z_up I 14 q0 k1 ((I 14 q0 k1) &&& (((1 : Int32) <<< (x2 &&& 31)) ^^^ (-1 : Int32)))), J))) rfl hq0 ?_
    refine z_ev_gs 2 (c1 := (23, 51, [some (z_r 13 q0), some (z_i (x1)), some (z_i (x2)), some (z_i (z_c b3))], [z_i (x2), z_r 14 q0, z_i (x2), z_r 14 q0], (true, X, (z_up I 14 q0 k1 ((I 14 q0 k1) &&& (((1 : Int32) <<< (x2 &&& 31)) ^^^ (-1 : Int32)))), J))) rfl ?_
    obtain ⟨k5, e6, e7, h8⟩ := h4
    refine z_ev_iald (t := 14) (i := q0) (k := k5) (n := 10) rfl (z_gt hq0) e6 e7 (by decide) ?_
    refine z_ev_gs 6 (c1 := (23, 58, [some (z_r 13 q0), some (z_i (x1)), some (z_i (x2)), some (z_i (z_c b3))], [z_i (((z_up I 14 q0 k1 ((I 14 q0 k1) &&& (((1 : Int32) <<< (x2 &&& 31)) ^^^ (-1 : Int32)))) 14 q0 k5) &&& (((1 : Int32) <<< (x1 &&& 31)) ^^^ (-1 : Int32))), z_i (x2), z_r 14 q0], (true, X, (z_up I 14 q0 k1 ((I 14 q0 k1) &&& (((1 : Int32) <<< (x2 &&& 31)) ^^^ (-1 : Int32)))), J))) rfl ?_
    refine z_ev_iast (t := 14) (i := q0) (k := k5) (n := 10) rfl (z_gt hq0) e6 (Nat.lt_of_lt_of_le e7 (by decide)) (by decide) ?_
    rw [h8]
    exact z_ev_rt rfl
  · have h19 := h.2 e17
    refine z_ev_gs 1 (c1 := (23, 5, [some (z_r 13 q0), some (z_i (x1)), some (z_i (x2)), some (z_i (z_c b3))], [z_r 13 q0], (true, X, I, J))) rfl ?_
    refine z_ev_gi (c1 := (23, 8, [some (z_r 13 q0), some (z_i (x1)), some (z_i (x2)), some (z_i (z_c b3))], [z_r 14 q0], (true, X, I, J))) rfl hq0 ?_
    refine z_ev_gs 2 (c1 := (23, 10, [some (z_r 13 q0), some (z_i (x1)), some (z_i (x2)), some (z_i (z_c b3))], [z_i (x1), z_r 14 q0, z_i (x1), z_r 14 q0], (true, X, I, J))) rfl ?_
    obtain ⟨k9, e10, e11, h12⟩ := h19
    refine z_ev_iald (t := 14) (i := q0) (k := k9) (n := 10) rfl (z_gt hq0) e10 e11 (by decide) ?_
    refine z_ev_gs 4 (c1 := (23, 15, [some (z_r 13 q0), some (z_i (x1)), some (z_i (x2)), some (z_i (z_c b3))], [z_i ((I 14 q0 k9) ||| ((1 : Int32) <<< (x2 &&& 31))), z_i (x1), z_r 14 q0], (true, X, I, J))) rfl ?_
    refine z_ev_iast (t := 14) (i := q0) (k := k9) (n := 10) rfl (z_gt hq0) e10 (Nat.lt_of_lt_of_le e11 (by decide)) (by decide) ?_
    refine z_ev_gs 1 (c1 := (23, 17, [some (z_r 13 q0), some (z_i (x1)), some (z_i (x2)), some (z_i (z_c b3))], [z_r 13 q0], (true, X, (z_up I 14 q0 k9 ((I 14 q0 k9) ||| ((1 : Int32) <<< (x2 &&& 31)))), J))) rfl ?_
    refine z_ev_gi (c1 := (23, 20, [some (z_r 13 q0), some (z_i (x1)), some (z_i (x2)), some (z_i (z_c b3))], [z_r 14 q0], (true, X, (z_up I 14 q0 k9 ((I 14 q0 k9) ||| ((1 : Int32) <<< (x2 &&& 31)))), J))) rfl hq0 ?_
    refine z_ev_gs 2 (c1 := (23, 22, [some (z_r 13 q0), some (z_i (x1)), some (z_i (x2)), some (z_i (z_c b3))], [z_i (x2), z_r 14 q0, z_i (x2), z_r 14 q0], (true, X, (z_up I 14 q0 k9 ((I 14 q0 k9) ||| ((1 : Int32) <<< (x2 &&& 31)))), J))) rfl ?_
    obtain ⟨k13, e14, e15, h16⟩ := h12
    refine z_ev_iald (t := 14) (i := q0) (k := k13) (n := 10) rfl (z_gt hq0) e14 e15 (by decide) ?_
    refine z_ev_gs 4 (c1 := (23, 27, [some (z_r 13 q0), some (z_i (x1)), some (z_i (x2)), some (z_i (z_c b3))], [z_i (((z_up I 14 q0 k9 ((I 14 q0 k9) ||| ((1 : Int32) <<< (x2 &&& 31)))) 14 q0 k13) ||| ((1 : Int32) <<< (x1 &&& 31))), z_i (x2), z_r 14 q0], (true, X, (z_up I 14 q0 k9 ((I 14 q0 k9) ||| ((1 : Int32) <<< (x2 &&& 31)))), J))) rfl ?_
    refine z_ev_iast (t := 14) (i := q0) (k := k13) (n := 10) rfl (z_gt hq0) e14 (Nat.lt_of_lt_of_le e15 (by decide)) (by decide) ?_
    refine z_ev_gs 1 (c1 := (23, 59, [some (z_r 13 q0), some (z_i (x1)), some (z_i (x2)), some (z_i (z_c b3))], [], (true, X, (z_up (z_up I 14 q0 k9 ((I 14 q0 k9) ||| ((1 : Int32) <<< (x2 &&& 31)))) 14 q0 k13 (((z_up I 14 q0 k9 ((I 14 q0 k9) ||| ((1 : Int32) <<< (x2 &&& 31)))) 14 q0 k13) ||| ((1 : Int32) <<< (x1 &&& 31)))), J))) rfl ?_
    rw [h16]
    exact z_ev_rt rfl
