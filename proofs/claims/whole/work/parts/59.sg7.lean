/-! segments: forms; printed by wip/whole/emit_seg.py -/
theorem z_q75_e {d : Nat} {r : Option z_V × z_M} {X : z_X} {I : Nat → Nat → Nat → Int32} {J : Nat → Nat → Nat → Int64} (x1 : Int32) (x2 : Int32)
    (h : ((x1 < (1 : Int32) → r = (some (z_i (-1)), (true, X, I, J))) ∧ ((1 : Int32) ≤ x1 → (((4 : Int32) < x1 → r = (some (z_i (-1)), (true, X, I, J))) ∧ (x1 ≤ (4 : Int32) → ((x2 < 0 → r = (some (z_i (-1)), (true, X, I, J))) ∧ (0 ≤ x2 → ((x2 < ((1 : Int32) <<< ((z_pr x1) &&& 31)) → (∃ k5 : Nat, x2 = Int32.ofNat k5 ∧ k5 < 64 ∧ (∃ k9 : Nat, ((z_stc.getD 1 []).getD k5 0) = Int32.ofNat k9 ∧ k9 < 11 ∧ r = (some (z_i ((z_stc.getD 0 []).getD k9 0)), (true, X, I, J))))) ∧ (((1 : Int32) <<< ((z_pr x1) &&& 31)) ≤ x2 → r = (some (z_i (-1)), (true, X, I, J))))))))))) :
    z_ev (d + 1) (z_en 75 [z_r 0 0, z_i (x1), z_i (x2)] (true, X, I, J)) r := by
  show z_ev (d + 1) (75, 0, [some (z_r 0 0), some (z_i (x1)), some (z_i (x2))], [], (true, X, I, J)) r
  refine z_ev_gs 3 (c1 := (75, (if x1 < (1 : Int32) then 24 else 5), [some (z_r 0 0), some (z_i (x1)), some (z_i (x2))], [], (true, X, I, J))) rfl ?_
  refine z_ev_iflt (fun e1 => ?_) (fun e1 => ?_)
  · have h19 := h.1 e1
    refine z_ev_gs 1 (c1 := (75, 25, [some (z_r 0 0), some (z_i (x1)), some (z_i (x2))], [z_i (-1)], (true, X, I, J))) rfl ?_
    rw [h19]
    exact z_ev_rt rfl
  · have h20 := h.2 e1
    refine z_ev_gs 3 (c1 := (75, (if (4 : Int32) < x1 then 24 else 10), [some (z_r 0 0), some (z_i (x1)), some (z_i (x2))], [], (true, X, I, J))) rfl ?_
    refine z_ev_iflt (fun e2 => ?_) (fun e2 => ?_)
    · have h17 := h20.1 e2
      refine z_ev_gs 1 (c1 := (75, 25, [some (z_r 0 0), some (z_i (x1)), some (z_i (x2))], [z_i (-1)], (true, X, I, J))) rfl ?_
      rw [h17]
      exact z_ev_rt rfl
    · have h18 := h20.2 e2
      refine z_ev_gs 2 (c1 := (75, (if x2 < 0 then 24 else 14), [some (z_r 0 0), some (z_i (x1)), some (z_i (x2))], [], (true, X, I, J))) rfl ?_
      refine z_ev_iflt (fun e3 => ?_) (fun e3 => ?_)
      · have h15 := h18.1 e3
        refine z_ev_gs 1 (c1 := (75, 25, [some (z_r 0 0), some (z_i (x1)), some (z_i (x2))], [z_i (-1)], (true, X, I, J))) rfl ?_
        rw [h15]
        exact z_ev_rt rfl
      · have h16 := h18.2 e3
        refine z_ev_gs 3 (c1 := (75, 17, [some (z_r 0 0), some (z_i (x1)), some (z_i (x2))], [z_i (x1), z_i 1, z_i (x2)], (true, X, I, J))) rfl ?_
        refine z_ev_ca rfl rfl (z_p126 _) ?_
        refine z_ev_gs 2 (c1 := (75, (if x2 < ((1 : Int32) <<< ((z_pr x1) &&& 31)) then 26 else 24), [some (z_r 0 0), some (z_i (x1)), some (z_i (x2))], [], (true, X, I, J))) rfl ?_
        refine z_ev_iflt (fun e4 => ?_) (fun e4 => ?_)
        · have h13 := h16.1 e4
          refine z_ev_gs 3 (c1 := (75, 33, [some (z_r 0 0), some (z_i (x1)), some (z_i (x2))], [z_i (x2), z_r 66 1, z_r 66 0], (true, X, I, J))) rfl ?_
          obtain ⟨k5, e6, e7, h8⟩ := h13
          refine z_ev_sld (k := k5) (n := 64) rfl e6 e7 (by decide) ?_
          obtain ⟨k9, e10, e11, h12⟩ := h8
          refine z_ev_sld (k := k9) (n := 11) rfl e10 e11 (by decide) ?_
          rw [h12]
          exact z_ev_rt rfl
        · have h14 := h16.2 e4
          refine z_ev_gs 1 (c1 := (75, 25, [some (z_r 0 0), some (z_i (x1)), some (z_i (x2))], [z_i (-1)], (true, X, I, J))) rfl ?_
          rw [h14]
          exact z_ev_rt rfl
theorem z_q191_e {d : Nat} {r : Option z_V × z_M} {X : z_X} {I : Nat → Nat → Nat → Int32} {J : Nat → Nat → Nat → Int64} (x1 : Int32) (x2 : Int32)
    (h : (((z_isc x1 x2) = false → r = (some (z_i (-1)), (true, X, I, J))) ∧ ((z_isc x1 x2) = true → (∃ k2 : Nat, (((64 : Int32) * x1) + x2) = Int32.ofNat k2 ∧ k2 < 320 ∧ r = (some (z_i (I 40 0 k2)), (true, X, I, J)))))) :
    z_ev (d + 2) (z_en 191 [z_r 33 0, z_i (x1), z_i (x2)] (true, X, I, J)) r := by
  show z_ev (d + 2) (191, 0, [some (z_r 33 0), some (z_i (x1)), some (z_i (x2))], [], (true, X, I, J)) r
  refine z_ev_gs 2 (c1 := (191, 2, [some (z_r 33 0), some (z_i (x1)), some (z_i (x2))], [z_i (x2), z_i (x1)], (true, X, I, J))) rfl ?_
  refine z_ev_ca rfl rfl (z_p165 _ _) ?_
  refine z_ev_gs 1 (c1 := (191, (if z_c (z_isc x1 x2) = 0 then 22 else 8), [some (z_r 33 0), some (z_i (x1)), some (z_i (x2))], [], (true, X, I, J))) rfl ?_
  refine z_ev_ifc (fun e1 => ?_) (fun e1 => ?_)
  · have h6 := h.1 e1
    refine z_ev_gs 1 (c1 := (191, 23, [some (z_r 33 0), some (z_i (x1)), some (z_i (x2))], [z_i (-1)], (true, X, I, J))) rfl ?_
    rw [h6]
    exact z_ev_rt rfl
  · have h7 := h.2 e1
    refine z_ev_gs 7 (c1 := (191, 18, [some (z_r 33 0), some (z_i (x1)), some (z_i (x2))], [z_i (((64 : Int32) * x1) + x2), z_r 40 0], (true, X, I, J))) rfl ?_
    obtain ⟨k2, e3, e4, h5⟩ := h7
    refine z_ev_iald (t := 40) (i := 0) (k := k2) (n := 320) rfl rfl e3 e4 (by decide) ?_
    refine z_ev_gs 1 (c1 := (191, 23, [some (z_r 33 0), some (z_i (x1)), some (z_i (x2))], [z_i (I 40 0 k2)], (true, X, I, J))) rfl ?_
    rw [h5]
    exact z_ev_rt rfl
theorem z_q76_e {d : Nat} {r : Option z_V × z_M} {X : z_X} {I : Nat → Nat → Nat → Int32} {J : Nat → Nat → Nat → Int64} (x1 : Int32) (x2 : Int32)
    (h : ((x1 < (1 : Int32) → r = (some (z_i (-1)), (true, X, I, J))) ∧ ((1 : Int32) ≤ x1 → (((4 : Int32) < x1 → r = (some (z_i (-1)), (true, X, I, J))) ∧ (x1 ≤ (4 : Int32) → ((0 ≤ x2 → (((z_fo x1) ≤ x2 → r = (some (z_i (-3)), (true, X, I, J))) ∧ (x2 < (z_fo x1) → (∃ k5 : Nat, x2 = Int32.ofNat k5 ∧ k5 < 11 ∧ r = (some (z_i ((z_stc.getD 0 []).getD k5 0)), (true, X, I, J)))))) ∧ (x2 < 0 → r = (some (z_i (-1)), (true, X, I, J))))))))) :
    z_ev (d + 1) (z_en 76 [z_r 0 0, z_i (x1), z_i (x2)] (true, X, I, J)) r := by
  show z_ev (d + 1) (76, 0, [some (z_r 0 0), some (z_i (x1)), some (z_i (x2))], [], (true, X, I, J)) r
  refine z_ev_gs 3 (c1 := (76, (if x1 < (1 : Int32) then 14 else 5), [some (z_r 0 0), some (z_i (x1)), some (z_i (x2))], [], (true, X, I, J))) rfl ?_
  refine z_ev_iflt (fun e1 => ?_) (fun e1 => ?_)
  · have h15 := h.1 e1
    refine z_ev_gs 1 (c1 := (76, 15, [some (z_r 0 0), some (z_i (x1)), some (z_i (x2))], [z_i (-1)], (true, X, I, J))) rfl ?_
    rw [h15]
    exact z_ev_rt rfl
  · have h16 := h.2 e1
    refine z_ev_gs 3 (c1 := (76, (if (4 : Int32) < x1 then 14 else 10), [some (z_r 0 0), some (z_i (x1)), some (z_i (x2))], [], (true, X, I, J))) rfl ?_
    refine z_ev_iflt (fun e2 => ?_) (fun e2 => ?_)
    · have h13 := h16.1 e2
      refine z_ev_gs 1 (c1 := (76, 15, [some (z_r 0 0), some (z_i (x1)), some (z_i (x2))], [z_i (-1)], (true, X, I, J))) rfl ?_
      rw [h13]
      exact z_ev_rt rfl
    · have h14 := h16.2 e2
      refine z_ev_gs 2 (c1 := (76, (if 0 ≤ x2 then 16 else 14), [some (z_r 0 0), some (z_i (x1)), some (z_i (x2))], [], (true, X, I, J))) rfl ?_
      refine z_ev_ifle (fun e3 => ?_) (fun e3 => ?_)
      · have h11 := h14.1 e3
        refine z_ev_gs 2 (c1 := (76, 18, [some (z_r 0 0), some (z_i (x1)), some (z_i (x2))], [z_i (x1), z_i (x2)], (true, X, I, J))) rfl ?_
        refine z_ev_ca rfl rfl (z_p127 _) ?_
        refine z_ev_gs 1 (c1 := (76, (if (z_fo x1) ≤ x2 then 32 else 24), [some (z_r 0 0), some (z_i (x1)), some (z_i (x2))], [], (true, X, I, J))) rfl ?_
        refine z_ev_ifle (fun e4 => ?_) (fun e4 => ?_)
        · have h9 := h11.1 e4
          refine z_ev_gs 1 (c1 := (76, 34, [some (z_r 0 0), some (z_i (x1)), some (z_i (x2))], [z_i (-3)], (true, X, I, J))) rfl ?_
          rw [h9]
          exact z_ev_rt rfl
        · have h10 := h11.2 e4
          refine z_ev_gs 2 (c1 := (76, 28, [some (z_r 0 0), some (z_i (x1)), some (z_i (x2))], [z_i (x2), z_r 66 0], (true, X, I, J))) rfl ?_
          obtain ⟨k5, e6, e7, h8⟩ := h10
          refine z_ev_sld (k := k5) (n := 11) rfl e6 e7 (by decide) ?_
          refine z_ev_gs 1 (c1 := (76, 34, [some (z_r 0 0), some (z_i (x1)), some (z_i (x2))], [z_i ((z_stc.getD 0 []).getD k5 0)], (true, X, I, J))) rfl ?_
          rw [h8]
          exact z_ev_rt rfl
      · have h12 := h14.2 e3
        refine z_ev_gs 1 (c1 := (76, 15, [some (z_r 0 0), some (z_i (x1)), some (z_i (x2))], [z_i (-1)], (true, X, I, J))) rfl ?_
        rw [h12]
        exact z_ev_rt rfl
theorem z_q192_e {d : Nat} {r : Option z_V × z_M} {X : z_X} {I : Nat → Nat → Nat → Int32} {J : Nat → Nat → Nat → Int64} (x1 : Int32) (x2 : Int32)
    (h : (((z_bw x1 (1 : Int32) (4 : Int32)) = false → r = (some (z_i (-1)), (true, X, I, J))) ∧ ((z_bw x1 (1 : Int32) (4 : Int32)) = true → ((0 ≤ x2 → (∃ k3 : Nat, x1 = Int32.ofNat k3 ∧ k3 < 5 ∧ (((I 42 0 k3) ≤ x2 → r = (some (z_i (-3)), (true, X, I, J))) ∧ (x2 < (I 42 0 k3) → (∃ k8 : Nat, (((11 : Int32) * x1) + x2) = Int32.ofNat k8 ∧ k8 < 55 ∧ r = (some (z_i (I 41 0 k8)), (true, X, I, J))))))) ∧ (x2 < 0 → r = (some (z_i (-1)), (true, X, I, J))))))) :
    z_ev (d + 1) (z_en 192 [z_r 33 0, z_i (x1), z_i (x2)] (true, X, I, J)) r := by
  show z_ev (d + 1) (192, 0, [some (z_r 33 0), some (z_i (x1)), some (z_i (x2))], [], (true, X, I, J)) r
  refine z_ev_gs 3 (c1 := (192, 3, [some (z_r 33 0), some (z_i (x1)), some (z_i (x2))], [z_i 4, z_i 1, z_i (x1)], (true, X, I, J))) rfl ?_
  refine z_ev_ca rfl rfl (z_p158 _ _ _) ?_
  refine z_ev_gs 1 (c1 := (192, (if z_c (z_bw x1 (1 : Int32) (4 : Int32)) = 0 then 13 else 9), [some (z_r 33 0), some (z_i (x1)), some (z_i (x2))], [], (true, X, I, J))) rfl ?_
  refine z_ev_ifc (fun e1 => ?_) (fun e1 => ?_)
  · have h16 := h.1 e1
    refine z_ev_gs 1 (c1 := (192, 14, [some (z_r 33 0), some (z_i (x1)), some (z_i (x2))], [z_i (-1)], (true, X, I, J))) rfl ?_
    rw [h16]
    exact z_ev_rt rfl
  · have h17 := h.2 e1
    refine z_ev_gs 2 (c1 := (192, (if 0 ≤ x2 then 15 else 13), [some (z_r 33 0), some (z_i (x1)), some (z_i (x2))], [], (true, X, I, J))) rfl ?_
    refine z_ev_ifle (fun e2 => ?_) (fun e2 => ?_)
    · have h14 := h17.1 e2
      refine z_ev_gs 4 (c1 := (192, 21, [some (z_r 33 0), some (z_i (x1)), some (z_i (x2))], [z_i (x1), z_r 42 0, z_i (x2)], (true, X, I, J))) rfl ?_
      obtain ⟨k3, e4, e5, h6⟩ := h14
      refine z_ev_iald (t := 42) (i := 0) (k := k3) (n := 5) rfl rfl e4 e5 (by decide) ?_
      refine z_ev_gs 1 (c1 := (192, (if (I 42 0 k3) ≤ x2 then 39 else 25), [some (z_r 33 0), some (z_i (x1)), some (z_i (x2))], [], (true, X, I, J))) rfl ?_
      refine z_ev_ifle (fun e7 => ?_) (fun e7 => ?_)
      · have h12 := h6.1 e7
        refine z_ev_gs 1 (c1 := (192, 41, [some (z_r 33 0), some (z_i (x1)), some (z_i (x2))], [z_i (-3)], (true, X, I, J))) rfl ?_
        rw [h12]
        exact z_ev_rt rfl
      · have h13 := h6.2 e7
        refine z_ev_gs 7 (c1 := (192, 35, [some (z_r 33 0), some (z_i (x1)), some (z_i (x2))], [z_i (((11 : Int32) * x1) + x2), z_r 41 0], (true, X, I, J))) rfl ?_
        obtain ⟨k8, e9, e10, h11⟩ := h13
        refine z_ev_iald (t := 41) (i := 0) (k := k8) (n := 55) rfl rfl e9 e10 (by decide) ?_
        refine z_ev_gs 1 (c1 := (192, 41, [some (z_r 33 0), some (z_i (x1)), some (z_i (x2))], [z_i (I 41 0 k8)], (true, X, I, J))) rfl ?_
        rw [h11]
        exact z_ev_rt rfl
    · have h15 := h17.2 e2
      refine z_ev_gs 1 (c1 := (192, 14, [some (z_r 33 0), some (z_i (x1)), some (z_i (x2))], [z_i (-1)], (true, X, I, J))) rfl ?_
      rw [h15]
      exact z_ev_rt rfl
