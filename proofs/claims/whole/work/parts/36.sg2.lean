/-! segments: leaves by leaves; printed by wip/whole/emit_seg.py -/
theorem z_q162_e {d : Nat} {r : Option z_V × z_M} {X : z_X} {I : Nat → Nat → Nat → Int32} {J : Nat → Nat → Nat → Int64} (x0 : Int32)
    (h : r = (some (z_i (z_c (z_bw x0 (0 : Int32) (3 : Int32)))), (true, X, I, J))) :
    z_ev (d + 1) (z_en 162 [z_i (x0)] (true, X, I, J)) r := by
  show z_ev (d + 1) (162, 0, [some (z_i (x0))], [], (true, X, I, J)) r
  refine z_ev_gs 3 (c1 := (162, 3, [some (z_i (x0))], [z_i 3, z_i 0, z_i (x0)], (true, X, I, J))) rfl ?_
  refine z_ev_ca rfl rfl (z_p158 _ _ _) ?_
  rw [h]
  exact z_ev_rtb rfl
theorem z_q163_e {d : Nat} {r : Option z_V × z_M} {X : z_X} {I : Nat → Nat → Nat → Int32} {J : Nat → Nat → Nat → Int64} (x0 : Int32)
    (h : r = (some (z_i (z_c (z_bw x0 (0 : Int32) (1 : Int32)))), (true, X, I, J))) :
    z_ev (d + 1) (z_en 163 [z_i (x0)] (true, X, I, J)) r := by
  show z_ev (d + 1) (163, 0, [some (z_i (x0))], [], (true, X, I, J)) r
  refine z_ev_gs 3 (c1 := (163, 3, [some (z_i (x0))], [z_i 1, z_i 0, z_i (x0)], (true, X, I, J))) rfl ?_
  refine z_ev_ca rfl rfl (z_p158 _ _ _) ?_
  rw [h]
  exact z_ev_rtb rfl
theorem z_q249_e {d : Nat} {r : Option z_V × z_M} {X : z_X} {I : Nat → Nat → Nat → Int32} {J : Nat → Nat → Nat → Int64} (x0 : Int32)
    (h : r = (some (z_i (z_c (z_bw x0 (0 : Int32) (3 : Int32)))), (true, X, I, J))) :
    z_ev (d + 1) (z_en 249 [z_i (x0)] (true, X, I, J)) r := by
  show z_ev (d + 1) (249, 0, [some (z_i (x0))], [], (true, X, I, J)) r
  refine z_ev_gs 3 (c1 := (249, 3, [some (z_i (x0))], [z_i 3, z_i 0, z_i (x0)], (true, X, I, J))) rfl ?_
  refine z_ev_ca rfl rfl (z_p158 _ _ _) ?_
  rw [h]
  exact z_ev_rtb rfl
theorem z_q174_e {d : Nat} {r : Option z_V × z_M} {X : z_X} {I : Nat → Nat → Nat → Int32} {J : Nat → Nat → Nat → Int64} (x0 : Int32)
    (h : r = (some (z_i (z_c (z_bw x0 (97 : Int32) (122 : Int32)))), (true, X, I, J))) :
    z_ev (d + 1) (z_en 174 [z_i (x0)] (true, X, I, J)) r := by
  show z_ev (d + 1) (174, 0, [some (z_i (x0))], [], (true, X, I, J)) r
  refine z_ev_gs 3 (c1 := (174, 5, [some (z_i (x0))], [z_i 122, z_i 97, z_i (x0)], (true, X, I, J))) rfl ?_
  refine z_ev_ca rfl rfl (z_p158 _ _ _) ?_
  rw [h]
  exact z_ev_rtb rfl
theorem z_q175_e {d : Nat} {r : Option z_V × z_M} {X : z_X} {I : Nat → Nat → Nat → Int32} {J : Nat → Nat → Nat → Int64} (x0 : Int32)
    (h : r = (some (z_i (z_c (z_bw x0 (48 : Int32) (57 : Int32)))), (true, X, I, J))) :
    z_ev (d + 1) (z_en 175 [z_i (x0)] (true, X, I, J)) r := by
  show z_ev (d + 1) (175, 0, [some (z_i (x0))], [], (true, X, I, J)) r
  refine z_ev_gs 3 (c1 := (175, 5, [some (z_i (x0))], [z_i 57, z_i 48, z_i (x0)], (true, X, I, J))) rfl ?_
  refine z_ev_ca rfl rfl (z_p158 _ _ _) ?_
  rw [h]
  exact z_ev_rtb rfl
theorem z_q228_e {d : Nat} {r : Option z_V × z_M} {X : z_X} {I : Nat → Nat → Nat → Int32} {J : Nat → Nat → Nat → Int64} (x1 : Int32)
    (h : r = (some (z_i (z_c (z_bw x1 (0 : Int32) ((I 33 0 8) - (1 : Int32))))), (true, X, I, J))) :
    z_ev (d + 1) (z_en 228 [z_r 33 0, z_i (x1)] (true, X, I, J)) r := by
  show z_ev (d + 1) (228, 0, [some (z_r 33 0), some (z_i (x1))], [], (true, X, I, J)) r
  refine z_ev_gs 6 (c1 := (228, 8, [some (z_r 33 0), some (z_i (x1))], [z_i ((I 33 0 8) - (1 : Int32)), z_i 0, z_i (x1)], (true, X, I, J))) rfl ?_
  refine z_ev_ca rfl rfl (z_p158 _ _ _) ?_
  rw [h]
  exact z_ev_rtb rfl
theorem z_q245_e {d : Nat} {r : Option z_V × z_M} {X : z_X} {I : Nat → Nat → Nat → Int32} {J : Nat → Nat → Nat → Int64} (x1 : Int32) (x2 : Int32)
    (h : (((z_bw x1 (0 : Int32) ((I 33 0 37) - (1 : Int32))) = false → r = (some (z_i 0), (true, X, I, J))) ∧ ((z_bw x1 (0 : Int32) ((I 33 0 37) - (1 : Int32))) = true → (∃ (b7 : Bool) (X2 : z_X) (I3 : Nat → Nat → Nat → Int32) (J4 : Nat → Nat → Nat → Int64), z_ev (d + 1) (z_en 163 [z_i (x2)] (true, X, I, J)) (some (z_i (z_c b7)), (true, X2, I3, J4)) ∧ ((b7 = false → r = (some (z_i 0), (true, X2, I3, J4))) ∧ (b7 = true → r = (some (z_i 1), (true, X2, I3, J4)))))))) :
    z_ev (d + 2) (z_en 245 [z_r 33 0, z_i (x1), z_i (x2)] (true, X, I, J)) r := by
  show z_ev (d + 2) (245, 0, [some (z_r 33 0), some (z_i (x1)), some (z_i (x2))], [], (true, X, I, J)) r
  refine z_ev_gs 6 (c1 := (245, 8, [some (z_r 33 0), some (z_i (x1)), some (z_i (x2))], [z_i ((I 33 0 37) - (1 : Int32)), z_i 0, z_i (x1)], (true, X, I, J))) rfl ?_
  refine z_ev_ca rfl rfl (z_p158 _ _ _) ?_
  refine z_ev_gs 1 (c1 := (245, (if z_c (z_bw x1 (0 : Int32) ((I 33 0 37) - (1 : Int32))) = 0 then 25 else 14), [some (z_r 33 0), some (z_i (x1)), some (z_i (x2))], [], (true, X, I, J))) rfl ?_
  refine z_ev_ifc (fun e1 => ?_) (fun e1 => ?_)
  · have h11 := h.1 e1
    refine z_ev_gs 1 (c1 := (245, 26, [some (z_r 33 0), some (z_i (x1)), some (z_i (x2))], [z_i 0], (true, X, I, J))) rfl ?_
    rw [h11]
    exact z_ev_rt rfl
  · have h12 := h.2 e1
    refine z_ev_gs 1 (c1 := (245, 15, [some (z_r 33 0), some (z_i (x1)), some (z_i (x2))], [z_i (x2)], (true, X, I, J))) rfl ?_
    obtain ⟨b7, X2, I3, J4, g5, h6⟩ := h12
    refine z_ev_ca rfl rfl g5 ?_
    refine z_ev_gs 1 (c1 := (245, (if z_c b7 = 0 then 25 else 21), [some (z_r 33 0), some (z_i (x1)), some (z_i (x2))], [], (true, X2, I3, J4))) rfl ?_
    refine z_ev_ifc (fun e8 => ?_) (fun e8 => ?_)
    · have h9 := h6.1 e8
      refine z_ev_gs 1 (c1 := (245, 26, [some (z_r 33 0), some (z_i (x1)), some (z_i (x2))], [z_i 0], (true, X2, I3, J4))) rfl ?_
      rw [h9]
      exact z_ev_rt rfl
    · have h10 := h6.2 e8
      refine z_ev_gs 2 (c1 := (245, 26, [some (z_r 33 0), some (z_i (x1)), some (z_i (x2))], [z_i 1], (true, X2, I3, J4))) rfl ?_
      rw [h10]
      exact z_ev_rt rfl
theorem z_q160_e {d : Nat} {r : Option z_V × z_M} {X : z_X} {I : Nat → Nat → Nat → Int32} {J : Nat → Nat → Nat → Int64} (x0 : Int32) (x1 : Int32)
    (h : ((x1 ≤ x0 → r = (some (z_i ((z_pr x0) + x1)), (true, X, I, J))) ∧ (x0 < x1 → r = (some (z_i ((z_pr x1) + x0)), (true, X, I, J))))) :
    z_ev (d + 1) (z_en 160 [z_i (x0), z_i (x1)] (true, X, I, J)) r := by
  show z_ev (d + 1) (160, 0, [some (z_i (x0)), some (z_i (x1))], [], (true, X, I, J)) r
  refine z_ev_gs 3 (c1 := (160, (if x1 ≤ x0 then 14 else 5), [some (z_i (x0)), some (z_i (x1))], [], (true, X, I, J))) rfl ?_
  refine z_ev_ifle (fun e1 => ?_) (fun e1 => ?_)
  · have h2 := h.1 e1
    refine z_ev_gs 1 (c1 := (160, 15, [some (z_i (x0)), some (z_i (x1))], [z_i (x0)], (true, X, I, J))) rfl ?_
    refine z_ev_ca rfl rfl (z_p159 _) ?_
    refine z_ev_gs 2 (c1 := (160, 20, [some (z_i (x0)), some (z_i (x1))], [z_i ((z_pr x0) + x1)], (true, X, I, J))) rfl ?_
    rw [h2]
    exact z_ev_rt rfl
  · have h3 := h.2 e1
    refine z_ev_gs 1 (c1 := (160, 6, [some (z_i (x0)), some (z_i (x1))], [z_i (x1)], (true, X, I, J))) rfl ?_
    refine z_ev_ca rfl rfl (z_p159 _) ?_
    refine z_ev_gs 3 (c1 := (160, 20, [some (z_i (x0)), some (z_i (x1))], [z_i ((z_pr x1) + x0)], (true, X, I, J))) rfl ?_
    rw [h3]
    exact z_ev_rt rfl
theorem z_q165_e {d : Nat} {r : Option z_V × z_M} {X : z_X} {I : Nat → Nat → Nat → Int32} {J : Nat → Nat → Nat → Int64} (x0 : Int32) (x1 : Int32)
    (h : (((z_bw x0 (1 : Int32) (4 : Int32)) = false → r = (some (z_i 0), (true, X, I, J))) ∧ ((z_bw x0 (1 : Int32) (4 : Int32)) = true → (((z_bw x1 (0 : Int32) (((1 : Int32) <<< ((z_pr x0) &&& 31)) - (1 : Int32))) = false → r = (some (z_i 0), (true, X, I, J))) ∧ ((z_bw x1 (0 : Int32) (((1 : Int32) <<< ((z_pr x0) &&& 31)) - (1 : Int32))) = true → r = (some (z_i 1), (true, X, I, J))))))) :
    z_ev (d + 1) (z_en 165 [z_i (x0), z_i (x1)] (true, X, I, J)) r := by
  show z_ev (d + 1) (165, 0, [some (z_i (x0)), some (z_i (x1))], [], (true, X, I, J)) r
  refine z_ev_gs 3 (c1 := (165, 3, [some (z_i (x0)), some (z_i (x1))], [z_i 4, z_i 1, z_i (x0)], (true, X, I, J))) rfl ?_
  refine z_ev_ca rfl rfl (z_p158 _ _ _) ?_
  refine z_ev_gs 1 (c1 := (165, (if z_c (z_bw x0 (1 : Int32) (4 : Int32)) = 0 then 42 else 9), [some (z_i (x0)), some (z_i (x1))], [], (true, X, I, J))) rfl ?_
  refine z_ev_ifc (fun e1 => ?_) (fun e1 => ?_)
  · have h5 := h.1 e1
    refine z_ev_gs 1 (c1 := (165, 43, [some (z_i (x0)), some (z_i (x1))], [z_i 0], (true, X, I, J))) rfl ?_
    rw [h5]
    exact z_ev_rt rfl
  · have h6 := h.2 e1
    refine z_ev_gs 6 (c1 := (165, 15, [some (z_i (x0)), some (z_i (x1))], [z_i 4, z_i 1, z_i (x0), z_i 1, z_i 0, z_i (x1)], (true, X, I, J))) rfl ?_
    refine z_ev_ca rfl rfl (z_p158 _ _ _) ?_
    refine z_ev_gs 1 (c1 := (165, (if z_c (z_bw x0 (1 : Int32) (4 : Int32)) = 0 then 25 else 21), [some (z_i (x0)), some (z_i (x1))], [z_i 1, z_i 0, z_i (x1)], (true, X, I, J))) rfl ?_
    refine z_ev_ict e1 ?_
    refine z_ev_gs 2 (c1 := (165, 26, [some (z_i (x0)), some (z_i (x1))], [z_i (x0), z_i 1, z_i 0, z_i (x1)], (true, X, I, J))) rfl ?_
    refine z_ev_ca rfl rfl (z_p159 _) ?_
    refine z_ev_gs 3 (c1 := (165, 32, [some (z_i (x0)), some (z_i (x1))], [z_i (((1 : Int32) <<< ((z_pr x0) &&& 31)) - (1 : Int32)), z_i 0, z_i (x1)], (true, X, I, J))) rfl ?_
    refine z_ev_ca rfl rfl (z_p158 _ _ _) ?_
    refine z_ev_gs 1 (c1 := (165, (if z_c (z_bw x1 (0 : Int32) (((1 : Int32) <<< ((z_pr x0) &&& 31)) - (1 : Int32))) = 0 then 42 else 38), [some (z_i (x0)), some (z_i (x1))], [], (true, X, I, J))) rfl ?_
    refine z_ev_ifc (fun e2 => ?_) (fun e2 => ?_)
    · have h3 := h6.1 e2
      refine z_ev_gs 1 (c1 := (165, 43, [some (z_i (x0)), some (z_i (x1))], [z_i 0], (true, X, I, J))) rfl ?_
      rw [h3]
      exact z_ev_rt rfl
    · have h4 := h6.2 e2
      refine z_ev_gs 2 (c1 := (165, 43, [some (z_i (x0)), some (z_i (x1))], [z_i 1], (true, X, I, J))) rfl ?_
      rw [h4]
      exact z_ev_rt rfl
