/-! the law: a row a call; printed by wip/whole/emit_law.py -/
theorem z_ev_sc {d : Nat} {cf : z_C} {r : Option z_V × z_M} {y p1 : Nat} {ls : List (Option z_V)} {st : List z_V} {M : z_M} {k L : Nat} {x : Int32} {v : Nat → Int32} (h : z_step cf = (bif (true && z_in x (M.2.2.1 67 1 0).toNatClampNeg) then Sum.inl (y, p1, ls, z_i (M.2.2.1 67 0 x.toNatClampNeg) :: st, M) else z_er)) (hx : x = Int32.ofNat k) (hL : M.2.2.1 67 1 0 = Int32.ofNat L) (hk : k < L) (hn : L ≤ 384) (hv : M.2.2.1 67 0 = v)
    (kk : z_ev d (y, p1, ls, z_i (v k) :: st, M) r) : z_ev d cf r := by
  have e1 : (M.2.2.1 67 1 0).toNatClampNeg = L := by
    rw [hL]
    exact z_cl_nat (n := 385) (by omega) (by decide)
  refine z_ev_scr (k := k) h hx (by rw [e1]; exact hk) (by rw [e1]; omega) ?_
  rw [hv]
  exact kk
/-- a call of the law, from its place to the loop's end -/
def z_lwp (P i : Nat) (X : z_X) (I : Nat → Nat → Nat → Int32) (J : Nat → Nat → Nat → Int64) : Prop := ∃ (X2 : z_X) (I2 : Nat → Nat → Nat → Int32) (J2 : Nat → Nat → Nat → Int64), z_R X2 I2 J2 ∧ X2.1 ≤ X.1 + 1 ∧ X2.2.1 ≤ X.2.1 + 4 ∧ I2 67 = I 67 ∧
  ∀ r, z_ev 61 (285, 2063, [some (z_r 67 0), some (z_r 0 0), some (z_r 33 0), some (z_i (Int32.ofNat i))], [], (true, X2, I2, J2)) r → z_ev 61 (285, P, [some (z_r 67 0), some (z_r 0 0), some (z_r 33 0), some (z_i (Int32.ofNat i))], [], (true, X, I, J)) r
theorem z_lw0 {X : z_X} {I : Nat → Nat → Nat → Int32} {J : Nat → Nat → Nat → Int64} {L i : Nat} {v : Nat → Int32} (hv : I 67 0 = v) (hL : I 67 1 0 = Int32.ofNat L) (hi : i + 6 ≤ L) (h3 : L ≤ 384) (hR : z_R X I J) : z_lwp 252 i X I J := by
  obtain ⟨w1, X1, X2, I1, I2, J1, J2, c1, c2, hR2, b1, b2, b3⟩ := z_op_feed ((((v (i + 1)).toInt64) <<< ((32 : Int32).toInt64 &&& 63)) ||| (((v (i + 2)).toInt64) &&& (4294967295 : Int64))) (v (i + 3)) X I J hR
  have e67 : I1 67 = I 67 := z_ev_67 c1
  have hv1 : I1 67 0 = v := by rw [e67]; exact hv
  have hL1 : I1 67 1 0 = Int32.ofNat L := by rw [e67]; exact hL
  obtain ⟨y, rfl⟩ := z_ev_ti rfl c1
  refine ⟨X2, I2, J2, hR2, b1, b2, b3, fun r hr => ?_⟩
  refine z_ev_gs 5 (c1 := (285, 257, [some (z_r 67 0), some (z_r 0 0), some (z_r 33 0), some (z_i (Int32.ofNat i))], [z_i (Int32.ofNat i + (1 : Int32)), z_r 67 0, z_r 0 0], (true, X, I, J))) rfl ?_
  refine z_ev_sc (k := i + 1) rfl (z_oa i 1) hL (by omega) h3 hv ?_
  refine z_ev_gs 7 (c1 := (285, 266, [some (z_r 67 0), some (z_r 0 0), some (z_r 33 0), some (z_i (Int32.ofNat i))], [z_i (Int32.ofNat i + (2 : Int32)), z_r 67 0, z_j (((v (i + 1)).toInt64) <<< ((32 : Int32).toInt64 &&& 63)), z_r 0 0], (true, X, I, J))) rfl ?_
  refine z_ev_sc (k := i + 2) rfl (z_oa i 2) hL (by omega) h3 hv ?_
  refine z_ev_gs 8 (c1 := (285, 277, [some (z_r 67 0), some (z_r 0 0), some (z_r 33 0), some (z_i (Int32.ofNat i))], [z_i (Int32.ofNat i + (3 : Int32)), z_r 67 0, z_j ((((v (i + 1)).toInt64) <<< ((32 : Int32).toInt64 &&& 63)) ||| (((v (i + 2)).toInt64) &&& (4294967295 : Int64))), z_r 0 0], (true, X, I, J))) rfl ?_
  refine z_ev_sc (k := i + 3) rfl (z_oa i 3) hL (by omega) h3 hv ?_
  refine z_ev_ca rfl rfl c1 ?_
  refine z_ev_gs 5 (c1 := (285, 286, [some (z_r 67 0), some (z_r 0 0), some (z_r 33 0), some (z_i (Int32.ofNat i))], [z_i (Int32.ofNat i + (1 : Int32)), z_r 67 0, z_r 33 0, z_i y], (true, X1, I1, J1))) rfl ?_
  refine z_ev_sc (k := i + 1) rfl (z_oa i 1) hL1 (by omega) h3 hv1 ?_
  refine z_ev_gs 7 (c1 := (285, 295, [some (z_r 67 0), some (z_r 0 0), some (z_r 33 0), some (z_i (Int32.ofNat i))], [z_i (Int32.ofNat i + (2 : Int32)), z_r 67 0, z_j (((v (i + 1)).toInt64) <<< ((32 : Int32).toInt64 &&& 63)), z_r 33 0, z_i y], (true, X1, I1, J1))) rfl ?_
  refine z_ev_sc (k := i + 2) rfl (z_oa i 2) hL1 (by omega) h3 hv1 ?_
  refine z_ev_gs 8 (c1 := (285, 306, [some (z_r 67 0), some (z_r 0 0), some (z_r 33 0), some (z_i (Int32.ofNat i))], [z_i (Int32.ofNat i + (3 : Int32)), z_r 67 0, z_j ((((v (i + 1)).toInt64) <<< ((32 : Int32).toInt64 &&& 63)) ||| (((v (i + 2)).toInt64) &&& (4294967295 : Int64))), z_r 33 0, z_i y], (true, X1, I1, J1))) rfl ?_
  refine z_ev_sc (k := i + 3) rfl (z_oa i 3) hL1 (by omega) h3 hv1 ?_
  refine z_ev_ca rfl rfl c2 ?_
  refine z_ev_gs 1 (c1 := (285, (if y = y then 2063 else 313), [some (z_r 67 0), some (z_r 0 0), some (z_r 33 0), some (z_i (Int32.ofNat i))], [], (true, X2, I2, J2))) rfl ?_
  rw [if_pos (rfl : y = y)]
  exact hr
theorem z_lw1 {X : z_X} {I : Nat → Nat → Nat → Int32} {J : Nat → Nat → Nat → Int64} {L i : Nat} {v : Nat → Int32} (hv : I 67 0 = v) (hL : I 67 1 0 = Int32.ofNat L) (hi : i + 6 ≤ L) (h3 : L ≤ 384) (hR : z_R X I J) : z_lwp 315 i X I J := by
  obtain ⟨w1, X1, X2, I1, I2, J1, J2, c1, c2, hR2, b1, b2, b3⟩ := z_op_read (v (i + 1)) X I J hR
  have e67 : I1 67 = I 67 := z_ev_67 c1
  have hv1 : I1 67 0 = v := by rw [e67]; exact hv
  have hL1 : I1 67 1 0 = Int32.ofNat L := by rw [e67]; exact hL
  obtain ⟨y, rfl⟩ := z_ev_ti rfl c1
  refine ⟨X2, I2, J2, hR2, b1, b2, b3, fun r hr => ?_⟩
  refine z_ev_gs 5 (c1 := (285, 320, [some (z_r 67 0), some (z_r 0 0), some (z_r 33 0), some (z_i (Int32.ofNat i))], [z_i (Int32.ofNat i + (1 : Int32)), z_r 67 0, z_r 0 0], (true, X, I, J))) rfl ?_
  refine z_ev_sc (k := i + 1) rfl (z_oa i 1) hL (by omega) h3 hv ?_
  refine z_ev_ca rfl rfl c1 ?_
  refine z_ev_gs 5 (c1 := (285, 329, [some (z_r 67 0), some (z_r 0 0), some (z_r 33 0), some (z_i (Int32.ofNat i))], [z_i (Int32.ofNat i + (1 : Int32)), z_r 67 0, z_r 33 0, z_i y], (true, X1, I1, J1))) rfl ?_
  refine z_ev_sc (k := i + 1) rfl (z_oa i 1) hL1 (by omega) h3 hv1 ?_
  refine z_ev_ca rfl rfl c2 ?_
  refine z_ev_gs 1 (c1 := (285, (if y = y then 2063 else 336), [some (z_r 67 0), some (z_r 0 0), some (z_r 33 0), some (z_i (Int32.ofNat i))], [], (true, X2, I2, J2))) rfl ?_
  rw [if_pos (rfl : y = y)]
  exact hr
theorem z_lw2 {X : z_X} {I : Nat → Nat → Nat → Int32} {J : Nat → Nat → Nat → Int64} {L i : Nat} {v : Nat → Int32} (hv : I 67 0 = v) (hL : I 67 1 0 = Int32.ofNat L) (hi : i + 6 ≤ L) (h3 : L ≤ 384) (hR : z_R X I J) : z_lwp 338 i X I J := by
  obtain ⟨w1, X1, X2, I1, I2, J1, J2, c1, c2, hR2, b1, b2, b3⟩ := z_op_posts (v (i + 1)) (v (i + 2)) X I J hR
  have e67 : I1 67 = I 67 := z_ev_67 c1
  have hv1 : I1 67 0 = v := by rw [e67]; exact hv
  have hL1 : I1 67 1 0 = Int32.ofNat L := by rw [e67]; exact hL
  obtain ⟨y, rfl⟩ := z_ev_ti rfl c1
  refine ⟨X2, I2, J2, hR2, b1, b2, b3, fun r hr => ?_⟩
  refine z_ev_gs 5 (c1 := (285, 343, [some (z_r 67 0), some (z_r 0 0), some (z_r 33 0), some (z_i (Int32.ofNat i))], [z_i (Int32.ofNat i + (1 : Int32)), z_r 67 0, z_r 0 0], (true, X, I, J))) rfl ?_
  refine z_ev_sc (k := i + 1) rfl (z_oa i 1) hL (by omega) h3 hv ?_
  refine z_ev_gs 4 (c1 := (285, 348, [some (z_r 67 0), some (z_r 0 0), some (z_r 33 0), some (z_i (Int32.ofNat i))], [z_i (Int32.ofNat i + (2 : Int32)), z_r 67 0, z_i (v (i + 1)), z_r 0 0], (true, X, I, J))) rfl ?_
  refine z_ev_sc (k := i + 2) rfl (z_oa i 2) hL (by omega) h3 hv ?_
  refine z_ev_ca rfl rfl c1 ?_
  refine z_ev_gs 5 (c1 := (285, 357, [some (z_r 67 0), some (z_r 0 0), some (z_r 33 0), some (z_i (Int32.ofNat i))], [z_i (Int32.ofNat i + (1 : Int32)), z_r 67 0, z_r 33 0, z_i y], (true, X1, I1, J1))) rfl ?_
  refine z_ev_sc (k := i + 1) rfl (z_oa i 1) hL1 (by omega) h3 hv1 ?_
  refine z_ev_gs 4 (c1 := (285, 362, [some (z_r 67 0), some (z_r 0 0), some (z_r 33 0), some (z_i (Int32.ofNat i))], [z_i (Int32.ofNat i + (2 : Int32)), z_r 67 0, z_i (v (i + 1)), z_r 33 0, z_i y], (true, X1, I1, J1))) rfl ?_
  refine z_ev_sc (k := i + 2) rfl (z_oa i 2) hL1 (by omega) h3 hv1 ?_
  refine z_ev_ca rfl rfl c2 ?_
  refine z_ev_gs 1 (c1 := (285, (if y = y then 2063 else 369), [some (z_r 67 0), some (z_r 0 0), some (z_r 33 0), some (z_i (Int32.ofNat i))], [], (true, X2, I2, J2))) rfl ?_
  rw [if_pos (rfl : y = y)]
  exact hr
theorem z_lw3 {X : z_X} {I : Nat → Nat → Nat → Int32} {J : Nat → Nat → Nat → Int64} {L i : Nat} {v : Nat → Int32} (hv : I 67 0 = v) (hL : I 67 1 0 = Int32.ofNat L) (hi : i + 6 ≤ L) (h3 : L ≤ 384) (hR : z_R X I J) : z_lwp 371 i X I J := by
  by_cases h0 : v (i + 4) = 0
  · obtain ⟨w1, X1, X2, I1, I2, J1, J2, c1, c2, hR2, b1, b2, b3⟩ := z_op_road (v (i + 1)) (v (i + 2)) (v (i + 3)) false X I J hR
    have e67 : I1 67 = I 67 := z_ev_67 c1
    have hv1 : I1 67 0 = v := by rw [e67]; exact hv
    have hL1 : I1 67 1 0 = Int32.ofNat L := by rw [e67]; exact hL
    obtain ⟨y, rfl⟩ := z_ev_ti rfl c1
    refine ⟨X2, I2, J2, hR2, b1, b2, b3, fun r hr => ?_⟩
    refine z_ev_gs 5 (c1 := (285, 376, [some (z_r 67 0), some (z_r 0 0), some (z_r 33 0), some (z_i (Int32.ofNat i))], [z_i (Int32.ofNat i + (1 : Int32)), z_r 67 0, z_r 0 0], (true, X, I, J))) rfl ?_
    refine z_ev_sc (k := i + 1) rfl (z_oa i 1) hL (by omega) h3 hv ?_
    refine z_ev_gs 4 (c1 := (285, 381, [some (z_r 67 0), some (z_r 0 0), some (z_r 33 0), some (z_i (Int32.ofNat i))], [z_i (Int32.ofNat i + (2 : Int32)), z_r 67 0, z_i (v (i + 1)), z_r 0 0], (true, X, I, J))) rfl ?_
    refine z_ev_sc (k := i + 2) rfl (z_oa i 2) hL (by omega) h3 hv ?_
    refine z_ev_gs 4 (c1 := (285, 386, [some (z_r 67 0), some (z_r 0 0), some (z_r 33 0), some (z_i (Int32.ofNat i))], [z_i (Int32.ofNat i + (3 : Int32)), z_r 67 0, z_i (v (i + 2)), z_i (v (i + 1)), z_r 0 0], (true, X, I, J))) rfl ?_
    refine z_ev_sc (k := i + 3) rfl (z_oa i 3) hL (by omega) h3 hv ?_
    refine z_ev_gs 4 (c1 := (285, 391, [some (z_r 67 0), some (z_r 0 0), some (z_r 33 0), some (z_i (Int32.ofNat i))], [z_i (Int32.ofNat i + (4 : Int32)), z_r 67 0, z_i (v (i + 3)), z_i (v (i + 2)), z_i (v (i + 1)), z_r 0 0], (true, X, I, J))) rfl ?_
    refine z_ev_sc (k := i + 4) rfl (z_oa i 4) hL (by omega) h3 hv ?_
    refine z_ev_gs 1 (c1 := (285, (if v (i + 4) = 0 then 399 else 395), [some (z_r 67 0), some (z_r 0 0), some (z_r 33 0), some (z_i (Int32.ofNat i))], [z_i (v (i + 3)), z_i (v (i + 2)), z_i (v (i + 1)), z_r 0 0], (true, X, I, J))) rfl ?_
    rw [if_pos h0]
    refine z_ev_gs 1 (c1 := (285, 400, [some (z_r 67 0), some (z_r 0 0), some (z_r 33 0), some (z_i (Int32.ofNat i))], [z_i (0), z_i (v (i + 3)), z_i (v (i + 2)), z_i (v (i + 1)), z_r 0 0], (true, X, I, J))) rfl ?_
    refine z_ev_ca rfl rfl c1 ?_
    refine z_ev_gs 5 (c1 := (285, 408, [some (z_r 67 0), some (z_r 0 0), some (z_r 33 0), some (z_i (Int32.ofNat i))], [z_i (Int32.ofNat i + (1 : Int32)), z_r 67 0, z_r 33 0, z_i y], (true, X1, I1, J1))) rfl ?_
    refine z_ev_sc (k := i + 1) rfl (z_oa i 1) hL1 (by omega) h3 hv1 ?_
    refine z_ev_gs 4 (c1 := (285, 413, [some (z_r 67 0), some (z_r 0 0), some (z_r 33 0), some (z_i (Int32.ofNat i))], [z_i (Int32.ofNat i + (2 : Int32)), z_r 67 0, z_i (v (i + 1)), z_r 33 0, z_i y], (true, X1, I1, J1))) rfl ?_
    refine z_ev_sc (k := i + 2) rfl (z_oa i 2) hL1 (by omega) h3 hv1 ?_
    refine z_ev_gs 4 (c1 := (285, 418, [some (z_r 67 0), some (z_r 0 0), some (z_r 33 0), some (z_i (Int32.ofNat i))], [z_i (Int32.ofNat i + (3 : Int32)), z_r 67 0, z_i (v (i + 2)), z_i (v (i + 1)), z_r 33 0, z_i y], (true, X1, I1, J1))) rfl ?_
    refine z_ev_sc (k := i + 3) rfl (z_oa i 3) hL1 (by omega) h3 hv1 ?_
    refine z_ev_gs 4 (c1 := (285, 423, [some (z_r 67 0), some (z_r 0 0), some (z_r 33 0), some (z_i (Int32.ofNat i))], [z_i (Int32.ofNat i + (4 : Int32)), z_r 67 0, z_i (v (i + 3)), z_i (v (i + 2)), z_i (v (i + 1)), z_r 33 0, z_i y], (true, X1, I1, J1))) rfl ?_
    refine z_ev_sc (k := i + 4) rfl (z_oa i 4) hL1 (by omega) h3 hv1 ?_
    refine z_ev_gs 1 (c1 := (285, (if v (i + 4) = 0 then 431 else 427), [some (z_r 67 0), some (z_r 0 0), some (z_r 33 0), some (z_i (Int32.ofNat i))], [z_i (v (i + 3)), z_i (v (i + 2)), z_i (v (i + 1)), z_r 33 0, z_i y], (true, X1, I1, J1))) rfl ?_
    rw [if_pos h0]
    refine z_ev_gs 1 (c1 := (285, 432, [some (z_r 67 0), some (z_r 0 0), some (z_r 33 0), some (z_i (Int32.ofNat i))], [z_i (0), z_i (v (i + 3)), z_i (v (i + 2)), z_i (v (i + 1)), z_r 33 0, z_i y], (true, X1, I1, J1))) rfl ?_
    refine z_ev_ca rfl rfl c2 ?_
    refine z_ev_gs 1 (c1 := (285, (if y = y then 2063 else 438), [some (z_r 67 0), some (z_r 0 0), some (z_r 33 0), some (z_i (Int32.ofNat i))], [], (true, X2, I2, J2))) rfl ?_
    rw [if_pos (rfl : y = y)]
    exact hr
  · obtain ⟨w1, X1, X2, I1, I2, J1, J2, c1, c2, hR2, b1, b2, b3⟩ := z_op_road (v (i + 1)) (v (i + 2)) (v (i + 3)) true X I J hR
    have e67 : I1 67 = I 67 := z_ev_67 c1
    have hv1 : I1 67 0 = v := by rw [e67]; exact hv
    have hL1 : I1 67 1 0 = Int32.ofNat L := by rw [e67]; exact hL
    obtain ⟨y, rfl⟩ := z_ev_ti rfl c1
    refine ⟨X2, I2, J2, hR2, b1, b2, b3, fun r hr => ?_⟩
    refine z_ev_gs 5 (c1 := (285, 376, [some (z_r 67 0), some (z_r 0 0), some (z_r 33 0), some (z_i (Int32.ofNat i))], [z_i (Int32.ofNat i + (1 : Int32)), z_r 67 0, z_r 0 0], (true, X, I, J))) rfl ?_
    refine z_ev_sc (k := i + 1) rfl (z_oa i 1) hL (by omega) h3 hv ?_
    refine z_ev_gs 4 (c1 := (285, 381, [some (z_r 67 0), some (z_r 0 0), some (z_r 33 0), some (z_i (Int32.ofNat i))], [z_i (Int32.ofNat i + (2 : Int32)), z_r 67 0, z_i (v (i + 1)), z_r 0 0], (true, X, I, J))) rfl ?_
    refine z_ev_sc (k := i + 2) rfl (z_oa i 2) hL (by omega) h3 hv ?_
    refine z_ev_gs 4 (c1 := (285, 386, [some (z_r 67 0), some (z_r 0 0), some (z_r 33 0), some (z_i (Int32.ofNat i))], [z_i (Int32.ofNat i + (3 : Int32)), z_r 67 0, z_i (v (i + 2)), z_i (v (i + 1)), z_r 0 0], (true, X, I, J))) rfl ?_
    refine z_ev_sc (k := i + 3) rfl (z_oa i 3) hL (by omega) h3 hv ?_
    refine z_ev_gs 4 (c1 := (285, 391, [some (z_r 67 0), some (z_r 0 0), some (z_r 33 0), some (z_i (Int32.ofNat i))], [z_i (Int32.ofNat i + (4 : Int32)), z_r 67 0, z_i (v (i + 3)), z_i (v (i + 2)), z_i (v (i + 1)), z_r 0 0], (true, X, I, J))) rfl ?_
    refine z_ev_sc (k := i + 4) rfl (z_oa i 4) hL (by omega) h3 hv ?_
    refine z_ev_gs 1 (c1 := (285, (if v (i + 4) = 0 then 399 else 395), [some (z_r 67 0), some (z_r 0 0), some (z_r 33 0), some (z_i (Int32.ofNat i))], [z_i (v (i + 3)), z_i (v (i + 2)), z_i (v (i + 1)), z_r 0 0], (true, X, I, J))) rfl ?_
    rw [if_neg h0]
    refine z_ev_gs 2 (c1 := (285, 400, [some (z_r 67 0), some (z_r 0 0), some (z_r 33 0), some (z_i (Int32.ofNat i))], [z_i (1), z_i (v (i + 3)), z_i (v (i + 2)), z_i (v (i + 1)), z_r 0 0], (true, X, I, J))) rfl ?_
    refine z_ev_ca rfl rfl c1 ?_
    refine z_ev_gs 5 (c1 := (285, 408, [some (z_r 67 0), some (z_r 0 0), some (z_r 33 0), some (z_i (Int32.ofNat i))], [z_i (Int32.ofNat i + (1 : Int32)), z_r 67 0, z_r 33 0, z_i y], (true, X1, I1, J1))) rfl ?_
    refine z_ev_sc (k := i + 1) rfl (z_oa i 1) hL1 (by omega) h3 hv1 ?_
    refine z_ev_gs 4 (c1 := (285, 413, [some (z_r 67 0), some (z_r 0 0), some (z_r 33 0), some (z_i (Int32.ofNat i))], [z_i (Int32.ofNat i + (2 : Int32)), z_r 67 0, z_i (v (i + 1)), z_r 33 0, z_i y], (true, X1, I1, J1))) rfl ?_
    refine z_ev_sc (k := i + 2) rfl (z_oa i 2) hL1 (by omega) h3 hv1 ?_
    refine z_ev_gs 4 (c1 := (285, 418, [some (z_r 67 0), some (z_r 0 0), some (z_r 33 0), some (z_i (Int32.ofNat i))], [z_i (Int32.ofNat i + (3 : Int32)), z_r 67 0, z_i (v (i + 2)), z_i (v (i + 1)), z_r 33 0, z_i y], (true, X1, I1, J1))) rfl ?_
    refine z_ev_sc (k := i + 3) rfl (z_oa i 3) hL1 (by omega) h3 hv1 ?_
    refine z_ev_gs 4 (c1 := (285, 423, [some (z_r 67 0), some (z_r 0 0), some (z_r 33 0), some (z_i (Int32.ofNat i))], [z_i (Int32.ofNat i + (4 : Int32)), z_r 67 0, z_i (v (i + 3)), z_i (v (i + 2)), z_i (v (i + 1)), z_r 33 0, z_i y], (true, X1, I1, J1))) rfl ?_
    refine z_ev_sc (k := i + 4) rfl (z_oa i 4) hL1 (by omega) h3 hv1 ?_
    refine z_ev_gs 1 (c1 := (285, (if v (i + 4) = 0 then 431 else 427), [some (z_r 67 0), some (z_r 0 0), some (z_r 33 0), some (z_i (Int32.ofNat i))], [z_i (v (i + 3)), z_i (v (i + 2)), z_i (v (i + 1)), z_r 33 0, z_i y], (true, X1, I1, J1))) rfl ?_
    rw [if_neg h0]
    refine z_ev_gs 2 (c1 := (285, 432, [some (z_r 67 0), some (z_r 0 0), some (z_r 33 0), some (z_i (Int32.ofNat i))], [z_i (1), z_i (v (i + 3)), z_i (v (i + 2)), z_i (v (i + 1)), z_r 33 0, z_i y], (true, X1, I1, J1))) rfl ?_
    refine z_ev_ca rfl rfl c2 ?_
    refine z_ev_gs 1 (c1 := (285, (if y = y then 2063 else 438), [some (z_r 67 0), some (z_r 0 0), some (z_r 33 0), some (z_i (Int32.ofNat i))], [], (true, X2, I2, J2))) rfl ?_
    rw [if_pos (rfl : y = y)]
    exact hr
theorem z_lw4 {X : z_X} {I : Nat → Nat → Nat → Int32} {J : Nat → Nat → Nat → Int64} {L i : Nat} {v : Nat → Int32} (hv : I 67 0 = v) (hL : I 67 1 0 = Int32.ofNat L) (hi : i + 6 ≤ L) (h3 : L ≤ 384) (hR : z_R X I J) : z_lwp 440 i X I J := by
  obtain ⟨w1, X1, X2, I1, I2, J1, J2, c1, c2, hR2, b1, b2, b3⟩ := z_op_netOf (v (i + 1)) (v (i + 2)) X I J hR
  have e67 : I1 67 = I 67 := z_ev_67 c1
  have hv1 : I1 67 0 = v := by rw [e67]; exact hv
  have hL1 : I1 67 1 0 = Int32.ofNat L := by rw [e67]; exact hL
  obtain ⟨y, rfl⟩ := z_ev_ti rfl c1
  refine ⟨X2, I2, J2, hR2, b1, b2, b3, fun r hr => ?_⟩
  refine z_ev_gs 5 (c1 := (285, 445, [some (z_r 67 0), some (z_r 0 0), some (z_r 33 0), some (z_i (Int32.ofNat i))], [z_i (Int32.ofNat i + (1 : Int32)), z_r 67 0, z_r 0 0], (true, X, I, J))) rfl ?_
  refine z_ev_sc (k := i + 1) rfl (z_oa i 1) hL (by omega) h3 hv ?_
  refine z_ev_gs 4 (c1 := (285, 450, [some (z_r 67 0), some (z_r 0 0), some (z_r 33 0), some (z_i (Int32.ofNat i))], [z_i (Int32.ofNat i + (2 : Int32)), z_r 67 0, z_i (v (i + 1)), z_r 0 0], (true, X, I, J))) rfl ?_
  refine z_ev_sc (k := i + 2) rfl (z_oa i 2) hL (by omega) h3 hv ?_
  refine z_ev_ca rfl rfl c1 ?_
  refine z_ev_gs 5 (c1 := (285, 459, [some (z_r 67 0), some (z_r 0 0), some (z_r 33 0), some (z_i (Int32.ofNat i))], [z_i (Int32.ofNat i + (1 : Int32)), z_r 67 0, z_r 33 0, z_i y], (true, X1, I1, J1))) rfl ?_
  refine z_ev_sc (k := i + 1) rfl (z_oa i 1) hL1 (by omega) h3 hv1 ?_
  refine z_ev_gs 4 (c1 := (285, 464, [some (z_r 67 0), some (z_r 0 0), some (z_r 33 0), some (z_i (Int32.ofNat i))], [z_i (Int32.ofNat i + (2 : Int32)), z_r 67 0, z_i (v (i + 1)), z_r 33 0, z_i y], (true, X1, I1, J1))) rfl ?_
  refine z_ev_sc (k := i + 2) rfl (z_oa i 2) hL1 (by omega) h3 hv1 ?_
  refine z_ev_ca rfl rfl c2 ?_
  refine z_ev_gs 1 (c1 := (285, (if y = y then 2063 else 471), [some (z_r 67 0), some (z_r 0 0), some (z_r 33 0), some (z_i (Int32.ofNat i))], [], (true, X2, I2, J2))) rfl ?_
  rw [if_pos (rfl : y = y)]
  exact hr
theorem z_lw5 {X : z_X} {I : Nat → Nat → Nat → Int32} {J : Nat → Nat → Nat → Int64} {L i : Nat} {v : Nat → Int32} (hv : I 67 0 = v) (hL : I 67 1 0 = Int32.ofNat L) (hi : i + 6 ≤ L) (h3 : L ≤ 384) (hR : z_R X I J) : z_lwp 473 i X I J := by
  obtain ⟨w1, X1, X2, I1, I2, J1, J2, c1, c2, hR2, b1, b2, b3⟩ := z_op_rows (v (i + 1)) (v (i + 2)) X I J hR
  have e67 : I1 67 = I 67 := z_ev_67 c1
  have hv1 : I1 67 0 = v := by rw [e67]; exact hv
  have hL1 : I1 67 1 0 = Int32.ofNat L := by rw [e67]; exact hL
  obtain ⟨y, rfl⟩ := z_ev_ti rfl c1
  refine ⟨X2, I2, J2, hR2, b1, b2, b3, fun r hr => ?_⟩
  refine z_ev_gs 5 (c1 := (285, 478, [some (z_r 67 0), some (z_r 0 0), some (z_r 33 0), some (z_i (Int32.ofNat i))], [z_i (Int32.ofNat i + (1 : Int32)), z_r 67 0, z_r 0 0], (true, X, I, J))) rfl ?_
  refine z_ev_sc (k := i + 1) rfl (z_oa i 1) hL (by omega) h3 hv ?_
  refine z_ev_gs 4 (c1 := (285, 483, [some (z_r 67 0), some (z_r 0 0), some (z_r 33 0), some (z_i (Int32.ofNat i))], [z_i (Int32.ofNat i + (2 : Int32)), z_r 67 0, z_i (v (i + 1)), z_r 0 0], (true, X, I, J))) rfl ?_
  refine z_ev_sc (k := i + 2) rfl (z_oa i 2) hL (by omega) h3 hv ?_
  refine z_ev_ca rfl rfl c1 ?_
  refine z_ev_gs 5 (c1 := (285, 492, [some (z_r 67 0), some (z_r 0 0), some (z_r 33 0), some (z_i (Int32.ofNat i))], [z_i (Int32.ofNat i + (1 : Int32)), z_r 67 0, z_r 33 0, z_i y], (true, X1, I1, J1))) rfl ?_
  refine z_ev_sc (k := i + 1) rfl (z_oa i 1) hL1 (by omega) h3 hv1 ?_
  refine z_ev_gs 4 (c1 := (285, 497, [some (z_r 67 0), some (z_r 0 0), some (z_r 33 0), some (z_i (Int32.ofNat i))], [z_i (Int32.ofNat i + (2 : Int32)), z_r 67 0, z_i (v (i + 1)), z_r 33 0, z_i y], (true, X1, I1, J1))) rfl ?_
  refine z_ev_sc (k := i + 2) rfl (z_oa i 2) hL1 (by omega) h3 hv1 ?_
  refine z_ev_ca rfl rfl c2 ?_
  refine z_ev_gs 1 (c1 := (285, (if y = y then 2063 else 504), [some (z_r 67 0), some (z_r 0 0), some (z_r 33 0), some (z_i (Int32.ofNat i))], [], (true, X2, I2, J2))) rfl ?_
  rw [if_pos (rfl : y = y)]
  exact hr
theorem z_lw6 {X : z_X} {I : Nat → Nat → Nat → Int32} {J : Nat → Nat → Nat → Int64} {L i : Nat} {v : Nat → Int32} (hv : I 67 0 = v) (hL : I 67 1 0 = Int32.ofNat L) (hi : i + 6 ≤ L) (h3 : L ≤ 384) (hR : z_R X I J) : z_lwp 506 i X I J := by
  obtain ⟨w1, X1, X2, I1, I2, J1, J2, c1, c2, hR2, b1, b2, b3⟩ := z_op_turn (v (i + 1)) X I J hR
  have e67 : I1 67 = I 67 := z_ev_67 c1
  have hv1 : I1 67 0 = v := by rw [e67]; exact hv
  have hL1 : I1 67 1 0 = Int32.ofNat L := by rw [e67]; exact hL
  obtain ⟨y, rfl⟩ := z_ev_ti rfl c1
  refine ⟨X2, I2, J2, hR2, b1, b2, b3, fun r hr => ?_⟩
  refine z_ev_gs 5 (c1 := (285, 511, [some (z_r 67 0), some (z_r 0 0), some (z_r 33 0), some (z_i (Int32.ofNat i))], [z_i (Int32.ofNat i + (1 : Int32)), z_r 67 0, z_r 0 0], (true, X, I, J))) rfl ?_
  refine z_ev_sc (k := i + 1) rfl (z_oa i 1) hL (by omega) h3 hv ?_
  refine z_ev_ca rfl rfl c1 ?_
  refine z_ev_gs 5 (c1 := (285, 520, [some (z_r 67 0), some (z_r 0 0), some (z_r 33 0), some (z_i (Int32.ofNat i))], [z_i (Int32.ofNat i + (1 : Int32)), z_r 67 0, z_r 33 0, z_i y], (true, X1, I1, J1))) rfl ?_
  refine z_ev_sc (k := i + 1) rfl (z_oa i 1) hL1 (by omega) h3 hv1 ?_
  refine z_ev_ca rfl rfl c2 ?_
  refine z_ev_gs 1 (c1 := (285, (if y = y then 2063 else 527), [some (z_r 67 0), some (z_r 0 0), some (z_r 33 0), some (z_i (Int32.ofNat i))], [], (true, X2, I2, J2))) rfl ?_
  rw [if_pos (rfl : y = y)]
  exact hr
theorem z_lw7 {X : z_X} {I : Nat → Nat → Nat → Int32} {J : Nat → Nat → Nat → Int64} {L i : Nat} {v : Nat → Int32} (hv : I 67 0 = v) (hL : I 67 1 0 = Int32.ofNat L) (hi : i + 6 ≤ L) (h3 : L ≤ 384) (hR : z_R X I J) : z_lwp 529 i X I J := by
  obtain ⟨w1, X1, X2, I1, I2, J1, J2, c1, c2, hR2, b1, b2, b3⟩ := z_op_same (v (i + 1)) (v (i + 2)) X I J hR
  have e67 : I1 67 = I 67 := z_ev_67 c1
  have hv1 : I1 67 0 = v := by rw [e67]; exact hv
  have hL1 : I1 67 1 0 = Int32.ofNat L := by rw [e67]; exact hL
  obtain ⟨y, rfl⟩ := z_ev_ti rfl c1
  refine ⟨X2, I2, J2, hR2, b1, b2, b3, fun r hr => ?_⟩
  refine z_ev_gs 5 (c1 := (285, 534, [some (z_r 67 0), some (z_r 0 0), some (z_r 33 0), some (z_i (Int32.ofNat i))], [z_i (Int32.ofNat i + (1 : Int32)), z_r 67 0, z_r 0 0], (true, X, I, J))) rfl ?_
  refine z_ev_sc (k := i + 1) rfl (z_oa i 1) hL (by omega) h3 hv ?_
  refine z_ev_gs 4 (c1 := (285, 539, [some (z_r 67 0), some (z_r 0 0), some (z_r 33 0), some (z_i (Int32.ofNat i))], [z_i (Int32.ofNat i + (2 : Int32)), z_r 67 0, z_i (v (i + 1)), z_r 0 0], (true, X, I, J))) rfl ?_
  refine z_ev_sc (k := i + 2) rfl (z_oa i 2) hL (by omega) h3 hv ?_
  refine z_ev_ca rfl rfl c1 ?_
  refine z_ev_gs 5 (c1 := (285, 548, [some (z_r 67 0), some (z_r 0 0), some (z_r 33 0), some (z_i (Int32.ofNat i))], [z_i (Int32.ofNat i + (1 : Int32)), z_r 67 0, z_r 33 0, z_i y], (true, X1, I1, J1))) rfl ?_
  refine z_ev_sc (k := i + 1) rfl (z_oa i 1) hL1 (by omega) h3 hv1 ?_
  refine z_ev_gs 4 (c1 := (285, 553, [some (z_r 67 0), some (z_r 0 0), some (z_r 33 0), some (z_i (Int32.ofNat i))], [z_i (Int32.ofNat i + (2 : Int32)), z_r 67 0, z_i (v (i + 1)), z_r 33 0, z_i y], (true, X1, I1, J1))) rfl ?_
  refine z_ev_sc (k := i + 2) rfl (z_oa i 2) hL1 (by omega) h3 hv1 ?_
  refine z_ev_ca rfl rfl c2 ?_
  refine z_ev_gs 1 (c1 := (285, (if y = y then 2063 else 560), [some (z_r 67 0), some (z_r 0 0), some (z_r 33 0), some (z_i (Int32.ofNat i))], [], (true, X2, I2, J2))) rfl ?_
  rw [if_pos (rfl : y = y)]
  exact hr
theorem z_lw8 {X : z_X} {I : Nat → Nat → Nat → Int32} {J : Nat → Nat → Nat → Int64} {L i : Nat} {v : Nat → Int32} (hv : I 67 0 = v) (hL : I 67 1 0 = Int32.ofNat L) (hi : i + 6 ≤ L) (h3 : L ≤ 384) (hR : z_R X I J) : z_lwp 562 i X I J := by
  obtain ⟨w1, X1, X2, I1, I2, J1, J2, c1, c2, hR2, b1, b2, b3⟩ := z_op_form (v (i + 1)) (v (i + 2)) X I J hR
  have e67 : I1 67 = I 67 := z_ev_67 c1
  have hv1 : I1 67 0 = v := by rw [e67]; exact hv
  have hL1 : I1 67 1 0 = Int32.ofNat L := by rw [e67]; exact hL
  obtain ⟨y, rfl⟩ := z_ev_ti rfl c1
  refine ⟨X2, I2, J2, hR2, b1, b2, b3, fun r hr => ?_⟩
  refine z_ev_gs 5 (c1 := (285, 567, [some (z_r 67 0), some (z_r 0 0), some (z_r 33 0), some (z_i (Int32.ofNat i))], [z_i (Int32.ofNat i + (1 : Int32)), z_r 67 0, z_r 0 0], (true, X, I, J))) rfl ?_
  refine z_ev_sc (k := i + 1) rfl (z_oa i 1) hL (by omega) h3 hv ?_
  refine z_ev_gs 4 (c1 := (285, 572, [some (z_r 67 0), some (z_r 0 0), some (z_r 33 0), some (z_i (Int32.ofNat i))], [z_i (Int32.ofNat i + (2 : Int32)), z_r 67 0, z_i (v (i + 1)), z_r 0 0], (true, X, I, J))) rfl ?_
  refine z_ev_sc (k := i + 2) rfl (z_oa i 2) hL (by omega) h3 hv ?_
  refine z_ev_ca rfl rfl c1 ?_
  refine z_ev_gs 5 (c1 := (285, 581, [some (z_r 67 0), some (z_r 0 0), some (z_r 33 0), some (z_i (Int32.ofNat i))], [z_i (Int32.ofNat i + (1 : Int32)), z_r 67 0, z_r 33 0, z_i y], (true, X1, I1, J1))) rfl ?_
  refine z_ev_sc (k := i + 1) rfl (z_oa i 1) hL1 (by omega) h3 hv1 ?_
  refine z_ev_gs 4 (c1 := (285, 586, [some (z_r 67 0), some (z_r 0 0), some (z_r 33 0), some (z_i (Int32.ofNat i))], [z_i (Int32.ofNat i + (2 : Int32)), z_r 67 0, z_i (v (i + 1)), z_r 33 0, z_i y], (true, X1, I1, J1))) rfl ?_
  refine z_ev_sc (k := i + 2) rfl (z_oa i 2) hL1 (by omega) h3 hv1 ?_
  refine z_ev_ca rfl rfl c2 ?_
  refine z_ev_gs 1 (c1 := (285, (if y = y then 2063 else 593), [some (z_r 67 0), some (z_r 0 0), some (z_r 33 0), some (z_i (Int32.ofNat i))], [], (true, X2, I2, J2))) rfl ?_
  rw [if_pos (rfl : y = y)]
  exact hr
theorem z_lw9 {X : z_X} {I : Nat → Nat → Nat → Int32} {J : Nat → Nat → Nat → Int64} {L i : Nat} {v : Nat → Int32} (hv : I 67 0 = v) (hL : I 67 1 0 = Int32.ofNat L) (hi : i + 6 ≤ L) (h3 : L ≤ 384) (hR : z_R X I J) : z_lwp 595 i X I J := by
  obtain ⟨w1, X1, X2, I1, I2, J1, J2, c1, c2, hR2, b1, b2, b3⟩ := z_op_formAt (v (i + 1)) (v (i + 2)) X I J hR
  have e67 : I1 67 = I 67 := z_ev_67 c1
  have hv1 : I1 67 0 = v := by rw [e67]; exact hv
  have hL1 : I1 67 1 0 = Int32.ofNat L := by rw [e67]; exact hL
  obtain ⟨y, rfl⟩ := z_ev_ti rfl c1
  refine ⟨X2, I2, J2, hR2, b1, b2, b3, fun r hr => ?_⟩
  refine z_ev_gs 5 (c1 := (285, 600, [some (z_r 67 0), some (z_r 0 0), some (z_r 33 0), some (z_i (Int32.ofNat i))], [z_i (Int32.ofNat i + (1 : Int32)), z_r 67 0, z_r 0 0], (true, X, I, J))) rfl ?_
  refine z_ev_sc (k := i + 1) rfl (z_oa i 1) hL (by omega) h3 hv ?_
  refine z_ev_gs 4 (c1 := (285, 605, [some (z_r 67 0), some (z_r 0 0), some (z_r 33 0), some (z_i (Int32.ofNat i))], [z_i (Int32.ofNat i + (2 : Int32)), z_r 67 0, z_i (v (i + 1)), z_r 0 0], (true, X, I, J))) rfl ?_
  refine z_ev_sc (k := i + 2) rfl (z_oa i 2) hL (by omega) h3 hv ?_
  refine z_ev_ca rfl rfl c1 ?_
  refine z_ev_gs 5 (c1 := (285, 614, [some (z_r 67 0), some (z_r 0 0), some (z_r 33 0), some (z_i (Int32.ofNat i))], [z_i (Int32.ofNat i + (1 : Int32)), z_r 67 0, z_r 33 0, z_i y], (true, X1, I1, J1))) rfl ?_
  refine z_ev_sc (k := i + 1) rfl (z_oa i 1) hL1 (by omega) h3 hv1 ?_
  refine z_ev_gs 4 (c1 := (285, 619, [some (z_r 67 0), some (z_r 0 0), some (z_r 33 0), some (z_i (Int32.ofNat i))], [z_i (Int32.ofNat i + (2 : Int32)), z_r 67 0, z_i (v (i + 1)), z_r 33 0, z_i y], (true, X1, I1, J1))) rfl ?_
  refine z_ev_sc (k := i + 2) rfl (z_oa i 2) hL1 (by omega) h3 hv1 ?_
  refine z_ev_ca rfl rfl c2 ?_
  refine z_ev_gs 1 (c1 := (285, (if y = y then 2063 else 626), [some (z_r 67 0), some (z_r 0 0), some (z_r 33 0), some (z_i (Int32.ofNat i))], [], (true, X2, I2, J2))) rfl ?_
  rw [if_pos (rfl : y = y)]
  exact hr
theorem z_lw10 {X : z_X} {I : Nat → Nat → Nat → Int32} {J : Nat → Nat → Nat → Int64} {L i : Nat} {v : Nat → Int32} (hv : I 67 0 = v) (hL : I 67 1 0 = Int32.ofNat L) (hi : i + 6 ≤ L) (h3 : L ≤ 384) (hR : z_R X I J) : z_lwp 628 i X I J := by
  obtain ⟨w1, X1, X2, I1, I2, J1, J2, c1, c2, hR2, b1, b2, b3⟩ := z_op_count (v (i + 1)) (v (i + 2)) (v (i + 3)) X I J hR
  have e67 : I1 67 = I 67 := z_ev_67 c1
  have hv1 : I1 67 0 = v := by rw [e67]; exact hv
  have hL1 : I1 67 1 0 = Int32.ofNat L := by rw [e67]; exact hL
  obtain ⟨y, rfl⟩ := z_ev_ti rfl c1
  refine ⟨X2, I2, J2, hR2, b1, b2, b3, fun r hr => ?_⟩
  refine z_ev_gs 5 (c1 := (285, 633, [some (z_r 67 0), some (z_r 0 0), some (z_r 33 0), some (z_i (Int32.ofNat i))], [z_i (Int32.ofNat i + (1 : Int32)), z_r 67 0, z_r 0 0], (true, X, I, J))) rfl ?_
  refine z_ev_sc (k := i + 1) rfl (z_oa i 1) hL (by omega) h3 hv ?_
  refine z_ev_gs 4 (c1 := (285, 638, [some (z_r 67 0), some (z_r 0 0), some (z_r 33 0), some (z_i (Int32.ofNat i))], [z_i (Int32.ofNat i + (2 : Int32)), z_r 67 0, z_i (v (i + 1)), z_r 0 0], (true, X, I, J))) rfl ?_
  refine z_ev_sc (k := i + 2) rfl (z_oa i 2) hL (by omega) h3 hv ?_
  refine z_ev_gs 4 (c1 := (285, 643, [some (z_r 67 0), some (z_r 0 0), some (z_r 33 0), some (z_i (Int32.ofNat i))], [z_i (Int32.ofNat i + (3 : Int32)), z_r 67 0, z_i (v (i + 2)), z_i (v (i + 1)), z_r 0 0], (true, X, I, J))) rfl ?_
  refine z_ev_sc (k := i + 3) rfl (z_oa i 3) hL (by omega) h3 hv ?_
  refine z_ev_ca rfl rfl c1 ?_
  refine z_ev_gs 5 (c1 := (285, 652, [some (z_r 67 0), some (z_r 0 0), some (z_r 33 0), some (z_i (Int32.ofNat i))], [z_i (Int32.ofNat i + (1 : Int32)), z_r 67 0, z_r 33 0, z_i y], (true, X1, I1, J1))) rfl ?_
  refine z_ev_sc (k := i + 1) rfl (z_oa i 1) hL1 (by omega) h3 hv1 ?_
  refine z_ev_gs 4 (c1 := (285, 657, [some (z_r 67 0), some (z_r 0 0), some (z_r 33 0), some (z_i (Int32.ofNat i))], [z_i (Int32.ofNat i + (2 : Int32)), z_r 67 0, z_i (v (i + 1)), z_r 33 0, z_i y], (true, X1, I1, J1))) rfl ?_
  refine z_ev_sc (k := i + 2) rfl (z_oa i 2) hL1 (by omega) h3 hv1 ?_
  refine z_ev_gs 4 (c1 := (285, 662, [some (z_r 67 0), some (z_r 0 0), some (z_r 33 0), some (z_i (Int32.ofNat i))], [z_i (Int32.ofNat i + (3 : Int32)), z_r 67 0, z_i (v (i + 2)), z_i (v (i + 1)), z_r 33 0, z_i y], (true, X1, I1, J1))) rfl ?_
  refine z_ev_sc (k := i + 3) rfl (z_oa i 3) hL1 (by omega) h3 hv1 ?_
  refine z_ev_ca rfl rfl c2 ?_
  refine z_ev_gs 1 (c1 := (285, (if y = y then 2063 else 669), [some (z_r 67 0), some (z_r 0 0), some (z_r 33 0), some (z_i (Int32.ofNat i))], [], (true, X2, I2, J2))) rfl ?_
  rw [if_pos (rfl : y = y)]
  exact hr
theorem z_lw11 {X : z_X} {I : Nat → Nat → Nat → Int32} {J : Nat → Nat → Nat → Int64} {L i : Nat} {v : Nat → Int32} (hv : I 67 0 = v) (hL : I 67 1 0 = Int32.ofNat L) (hi : i + 6 ≤ L) (h3 : L ≤ 384) (hR : z_R X I J) : z_lwp 671 i X I J := by
  obtain ⟨w1, X1, X2, I1, I2, J1, J2, c1, c2, hR2, b1, b2, b3⟩ := z_op_share (v (i + 1)) (v (i + 2)) (v (i + 3)) (v (i + 4)) X I J hR
  have e67 : I1 67 = I 67 := z_ev_67 c1
  have hv1 : I1 67 0 = v := by rw [e67]; exact hv
  have hL1 : I1 67 1 0 = Int32.ofNat L := by rw [e67]; exact hL
  obtain ⟨y, rfl⟩ := z_ev_ti rfl c1
  refine ⟨X2, I2, J2, hR2, b1, b2, b3, fun r hr => ?_⟩
  refine z_ev_gs 5 (c1 := (285, 676, [some (z_r 67 0), some (z_r 0 0), some (z_r 33 0), some (z_i (Int32.ofNat i))], [z_i (Int32.ofNat i + (1 : Int32)), z_r 67 0, z_r 0 0], (true, X, I, J))) rfl ?_
  refine z_ev_sc (k := i + 1) rfl (z_oa i 1) hL (by omega) h3 hv ?_
  refine z_ev_gs 4 (c1 := (285, 681, [some (z_r 67 0), some (z_r 0 0), some (z_r 33 0), some (z_i (Int32.ofNat i))], [z_i (Int32.ofNat i + (2 : Int32)), z_r 67 0, z_i (v (i + 1)), z_r 0 0], (true, X, I, J))) rfl ?_
  refine z_ev_sc (k := i + 2) rfl (z_oa i 2) hL (by omega) h3 hv ?_
  refine z_ev_gs 4 (c1 := (285, 686, [some (z_r 67 0), some (z_r 0 0), some (z_r 33 0), some (z_i (Int32.ofNat i))], [z_i (Int32.ofNat i + (3 : Int32)), z_r 67 0, z_i (v (i + 2)), z_i (v (i + 1)), z_r 0 0], (true, X, I, J))) rfl ?_
  refine z_ev_sc (k := i + 3) rfl (z_oa i 3) hL (by omega) h3 hv ?_
  refine z_ev_gs 4 (c1 := (285, 691, [some (z_r 67 0), some (z_r 0 0), some (z_r 33 0), some (z_i (Int32.ofNat i))], [z_i (Int32.ofNat i + (4 : Int32)), z_r 67 0, z_i (v (i + 3)), z_i (v (i + 2)), z_i (v (i + 1)), z_r 0 0], (true, X, I, J))) rfl ?_
  refine z_ev_sc (k := i + 4) rfl (z_oa i 4) hL (by omega) h3 hv ?_
  refine z_ev_ca rfl rfl c1 ?_
  refine z_ev_gs 5 (c1 := (285, 700, [some (z_r 67 0), some (z_r 0 0), some (z_r 33 0), some (z_i (Int32.ofNat i))], [z_i (Int32.ofNat i + (1 : Int32)), z_r 67 0, z_r 33 0, z_i y], (true, X1, I1, J1))) rfl ?_
  refine z_ev_sc (k := i + 1) rfl (z_oa i 1) hL1 (by omega) h3 hv1 ?_
  refine z_ev_gs 4 (c1 := (285, 705, [some (z_r 67 0), some (z_r 0 0), some (z_r 33 0), some (z_i (Int32.ofNat i))], [z_i (Int32.ofNat i + (2 : Int32)), z_r 67 0, z_i (v (i + 1)), z_r 33 0, z_i y], (true, X1, I1, J1))) rfl ?_
  refine z_ev_sc (k := i + 2) rfl (z_oa i 2) hL1 (by omega) h3 hv1 ?_
  refine z_ev_gs 4 (c1 := (285, 710, [some (z_r 67 0), some (z_r 0 0), some (z_r 33 0), some (z_i (Int32.ofNat i))], [z_i (Int32.ofNat i + (3 : Int32)), z_r 67 0, z_i (v (i + 2)), z_i (v (i + 1)), z_r 33 0, z_i y], (true, X1, I1, J1))) rfl ?_
  refine z_ev_sc (k := i + 3) rfl (z_oa i 3) hL1 (by omega) h3 hv1 ?_
  refine z_ev_gs 4 (c1 := (285, 715, [some (z_r 67 0), some (z_r 0 0), some (z_r 33 0), some (z_i (Int32.ofNat i))], [z_i (Int32.ofNat i + (4 : Int32)), z_r 67 0, z_i (v (i + 3)), z_i (v (i + 2)), z_i (v (i + 1)), z_r 33 0, z_i y], (true, X1, I1, J1))) rfl ?_
  refine z_ev_sc (k := i + 4) rfl (z_oa i 4) hL1 (by omega) h3 hv1 ?_
  refine z_ev_ca rfl rfl c2 ?_
  refine z_ev_gs 1 (c1 := (285, (if y = y then 2063 else 722), [some (z_r 67 0), some (z_r 0 0), some (z_r 33 0), some (z_i (Int32.ofNat i))], [], (true, X2, I2, J2))) rfl ?_
  rw [if_pos (rfl : y = y)]
  exact hr
theorem z_lw12 {X : z_X} {I : Nat → Nat → Nat → Int32} {J : Nat → Nat → Nat → Int64} {L i : Nat} {v : Nat → Int32} (hv : I 67 0 = v) (hL : I 67 1 0 = Int32.ofNat L) (hi : i + 6 ≤ L) (h3 : L ≤ 384) (hR : z_R X I J) : z_lwp 724 i X I J := by
  obtain ⟨w1, X1, X2, I1, I2, J1, J2, c1, c2, hR2, b1, b2, b3⟩ := z_op_lift (v (i + 1)) (v (i + 2)) (v (i + 3)) (v (i + 4)) (v (i + 5)) X I J hR
  have e67 : I1 67 = I 67 := z_ev_67 c1
  have hv1 : I1 67 0 = v := by rw [e67]; exact hv
  have hL1 : I1 67 1 0 = Int32.ofNat L := by rw [e67]; exact hL
  obtain ⟨y, rfl⟩ := z_ev_ti rfl c1
  refine ⟨X2, I2, J2, hR2, b1, b2, b3, fun r hr => ?_⟩
  refine z_ev_gs 5 (c1 := (285, 729, [some (z_r 67 0), some (z_r 0 0), some (z_r 33 0), some (z_i (Int32.ofNat i))], [z_i (Int32.ofNat i + (1 : Int32)), z_r 67 0, z_r 0 0], (true, X, I, J))) rfl ?_
  refine z_ev_sc (k := i + 1) rfl (z_oa i 1) hL (by omega) h3 hv ?_
  refine z_ev_gs 4 (c1 := (285, 734, [some (z_r 67 0), some (z_r 0 0), some (z_r 33 0), some (z_i (Int32.ofNat i))], [z_i (Int32.ofNat i + (2 : Int32)), z_r 67 0, z_i (v (i + 1)), z_r 0 0], (true, X, I, J))) rfl ?_
  refine z_ev_sc (k := i + 2) rfl (z_oa i 2) hL (by omega) h3 hv ?_
  refine z_ev_gs 4 (c1 := (285, 739, [some (z_r 67 0), some (z_r 0 0), some (z_r 33 0), some (z_i (Int32.ofNat i))], [z_i (Int32.ofNat i + (3 : Int32)), z_r 67 0, z_i (v (i + 2)), z_i (v (i + 1)), z_r 0 0], (true, X, I, J))) rfl ?_
  refine z_ev_sc (k := i + 3) rfl (z_oa i 3) hL (by omega) h3 hv ?_
  refine z_ev_gs 4 (c1 := (285, 744, [some (z_r 67 0), some (z_r 0 0), some (z_r 33 0), some (z_i (Int32.ofNat i))], [z_i (Int32.ofNat i + (4 : Int32)), z_r 67 0, z_i (v (i + 3)), z_i (v (i + 2)), z_i (v (i + 1)), z_r 0 0], (true, X, I, J))) rfl ?_
  refine z_ev_sc (k := i + 4) rfl (z_oa i 4) hL (by omega) h3 hv ?_
  refine z_ev_gs 4 (c1 := (285, 749, [some (z_r 67 0), some (z_r 0 0), some (z_r 33 0), some (z_i (Int32.ofNat i))], [z_i (Int32.ofNat i + (5 : Int32)), z_r 67 0, z_i (v (i + 4)), z_i (v (i + 3)), z_i (v (i + 2)), z_i (v (i + 1)), z_r 0 0], (true, X, I, J))) rfl ?_
  refine z_ev_sc (k := i + 5) rfl (z_oa i 5) hL (by omega) h3 hv ?_
  refine z_ev_ca rfl rfl c1 ?_
  refine z_ev_gs 5 (c1 := (285, 758, [some (z_r 67 0), some (z_r 0 0), some (z_r 33 0), some (z_i (Int32.ofNat i))], [z_i (Int32.ofNat i + (1 : Int32)), z_r 67 0, z_r 33 0, z_i y], (true, X1, I1, J1))) rfl ?_
  refine z_ev_sc (k := i + 1) rfl (z_oa i 1) hL1 (by omega) h3 hv1 ?_
  refine z_ev_gs 4 (c1 := (285, 763, [some (z_r 67 0), some (z_r 0 0), some (z_r 33 0), some (z_i (Int32.ofNat i))], [z_i (Int32.ofNat i + (2 : Int32)), z_r 67 0, z_i (v (i + 1)), z_r 33 0, z_i y], (true, X1, I1, J1))) rfl ?_
  refine z_ev_sc (k := i + 2) rfl (z_oa i 2) hL1 (by omega) h3 hv1 ?_
  refine z_ev_gs 4 (c1 := (285, 768, [some (z_r 67 0), some (z_r 0 0), some (z_r 33 0), some (z_i (Int32.ofNat i))], [z_i (Int32.ofNat i + (3 : Int32)), z_r 67 0, z_i (v (i + 2)), z_i (v (i + 1)), z_r 33 0, z_i y], (true, X1, I1, J1))) rfl ?_
  refine z_ev_sc (k := i + 3) rfl (z_oa i 3) hL1 (by omega) h3 hv1 ?_
  refine z_ev_gs 4 (c1 := (285, 773, [some (z_r 67 0), some (z_r 0 0), some (z_r 33 0), some (z_i (Int32.ofNat i))], [z_i (Int32.ofNat i + (4 : Int32)), z_r 67 0, z_i (v (i + 3)), z_i (v (i + 2)), z_i (v (i + 1)), z_r 33 0, z_i y], (true, X1, I1, J1))) rfl ?_
  refine z_ev_sc (k := i + 4) rfl (z_oa i 4) hL1 (by omega) h3 hv1 ?_
  refine z_ev_gs 4 (c1 := (285, 778, [some (z_r 67 0), some (z_r 0 0), some (z_r 33 0), some (z_i (Int32.ofNat i))], [z_i (Int32.ofNat i + (5 : Int32)), z_r 67 0, z_i (v (i + 4)), z_i (v (i + 3)), z_i (v (i + 2)), z_i (v (i + 1)), z_r 33 0, z_i y], (true, X1, I1, J1))) rfl ?_
  refine z_ev_sc (k := i + 5) rfl (z_oa i 5) hL1 (by omega) h3 hv1 ?_
  refine z_ev_ca rfl rfl c2 ?_
  refine z_ev_gs 1 (c1 := (285, (if y = y then 2063 else 785), [some (z_r 67 0), some (z_r 0 0), some (z_r 33 0), some (z_i (Int32.ofNat i))], [], (true, X2, I2, J2))) rfl ?_
  rw [if_pos (rfl : y = y)]
  exact hr
theorem z_lw13 {X : z_X} {I : Nat → Nat → Nat → Int32} {J : Nat → Nat → Nat → Int64} {L i : Nat} {v : Nat → Int32} (hv : I 67 0 = v) (hL : I 67 1 0 = Int32.ofNat L) (hi : i + 6 ≤ L) (h3 : L ≤ 384) (hR : z_R X I J) : z_lwp 787 i X I J := by
  by_cases h0 : v (i + 3) = 0
  · obtain ⟨w1, X1, X2, I1, I2, J1, J2, c1, c2, hR2, b1, b2, b3⟩ := z_op_out (v (i + 1)) (v (i + 2)) false X I J hR
    have e67 : I1 67 = I 67 := z_ev_67 c1
    have hv1 : I1 67 0 = v := by rw [e67]; exact hv
    have hL1 : I1 67 1 0 = Int32.ofNat L := by rw [e67]; exact hL
    obtain ⟨y, rfl⟩ := z_ev_ti rfl c1
    refine ⟨X2, I2, J2, hR2, b1, b2, b3, fun r hr => ?_⟩
    refine z_ev_gs 5 (c1 := (285, 792, [some (z_r 67 0), some (z_r 0 0), some (z_r 33 0), some (z_i (Int32.ofNat i))], [z_i (Int32.ofNat i + (1 : Int32)), z_r 67 0, z_r 0 0], (true, X, I, J))) rfl ?_
    refine z_ev_sc (k := i + 1) rfl (z_oa i 1) hL (by omega) h3 hv ?_
    refine z_ev_gs 4 (c1 := (285, 797, [some (z_r 67 0), some (z_r 0 0), some (z_r 33 0), some (z_i (Int32.ofNat i))], [z_i (Int32.ofNat i + (2 : Int32)), z_r 67 0, z_i (v (i + 1)), z_r 0 0], (true, X, I, J))) rfl ?_
    refine z_ev_sc (k := i + 2) rfl (z_oa i 2) hL (by omega) h3 hv ?_
    refine z_ev_gs 4 (c1 := (285, 802, [some (z_r 67 0), some (z_r 0 0), some (z_r 33 0), some (z_i (Int32.ofNat i))], [z_i (Int32.ofNat i + (3 : Int32)), z_r 67 0, z_i (v (i + 2)), z_i (v (i + 1)), z_r 0 0], (true, X, I, J))) rfl ?_
    refine z_ev_sc (k := i + 3) rfl (z_oa i 3) hL (by omega) h3 hv ?_
    refine z_ev_gs 1 (c1 := (285, (if v (i + 3) = 0 then 810 else 806), [some (z_r 67 0), some (z_r 0 0), some (z_r 33 0), some (z_i (Int32.ofNat i))], [z_i (v (i + 2)), z_i (v (i + 1)), z_r 0 0], (true, X, I, J))) rfl ?_
    rw [if_pos h0]
    refine z_ev_gs 1 (c1 := (285, 811, [some (z_r 67 0), some (z_r 0 0), some (z_r 33 0), some (z_i (Int32.ofNat i))], [z_i (0), z_i (v (i + 2)), z_i (v (i + 1)), z_r 0 0], (true, X, I, J))) rfl ?_
    refine z_ev_ca rfl rfl c1 ?_
    refine z_ev_gs 5 (c1 := (285, 819, [some (z_r 67 0), some (z_r 0 0), some (z_r 33 0), some (z_i (Int32.ofNat i))], [z_i (Int32.ofNat i + (1 : Int32)), z_r 67 0, z_r 33 0, z_i y], (true, X1, I1, J1))) rfl ?_
    refine z_ev_sc (k := i + 1) rfl (z_oa i 1) hL1 (by omega) h3 hv1 ?_
    refine z_ev_gs 4 (c1 := (285, 824, [some (z_r 67 0), some (z_r 0 0), some (z_r 33 0), some (z_i (Int32.ofNat i))], [z_i (Int32.ofNat i + (2 : Int32)), z_r 67 0, z_i (v (i + 1)), z_r 33 0, z_i y], (true, X1, I1, J1))) rfl ?_
    refine z_ev_sc (k := i + 2) rfl (z_oa i 2) hL1 (by omega) h3 hv1 ?_
    refine z_ev_gs 4 (c1 := (285, 829, [some (z_r 67 0), some (z_r 0 0), some (z_r 33 0), some (z_i (Int32.ofNat i))], [z_i (Int32.ofNat i + (3 : Int32)), z_r 67 0, z_i (v (i + 2)), z_i (v (i + 1)), z_r 33 0, z_i y], (true, X1, I1, J1))) rfl ?_
    refine z_ev_sc (k := i + 3) rfl (z_oa i 3) hL1 (by omega) h3 hv1 ?_
    refine z_ev_gs 1 (c1 := (285, (if v (i + 3) = 0 then 837 else 833), [some (z_r 67 0), some (z_r 0 0), some (z_r 33 0), some (z_i (Int32.ofNat i))], [z_i (v (i + 2)), z_i (v (i + 1)), z_r 33 0, z_i y], (true, X1, I1, J1))) rfl ?_
    rw [if_pos h0]
    refine z_ev_gs 1 (c1 := (285, 838, [some (z_r 67 0), some (z_r 0 0), some (z_r 33 0), some (z_i (Int32.ofNat i))], [z_i (0), z_i (v (i + 2)), z_i (v (i + 1)), z_r 33 0, z_i y], (true, X1, I1, J1))) rfl ?_
    refine z_ev_ca rfl rfl c2 ?_
    refine z_ev_gs 1 (c1 := (285, (if y = y then 2063 else 844), [some (z_r 67 0), some (z_r 0 0), some (z_r 33 0), some (z_i (Int32.ofNat i))], [], (true, X2, I2, J2))) rfl ?_
    rw [if_pos (rfl : y = y)]
    exact hr
  · obtain ⟨w1, X1, X2, I1, I2, J1, J2, c1, c2, hR2, b1, b2, b3⟩ := z_op_out (v (i + 1)) (v (i + 2)) true X I J hR
    have e67 : I1 67 = I 67 := z_ev_67 c1
    have hv1 : I1 67 0 = v := by rw [e67]; exact hv
    have hL1 : I1 67 1 0 = Int32.ofNat L := by rw [e67]; exact hL
    obtain ⟨y, rfl⟩ := z_ev_ti rfl c1
    refine ⟨X2, I2, J2, hR2, b1, b2, b3, fun r hr => ?_⟩
    refine z_ev_gs 5 (c1 := (285, 792, [some (z_r 67 0), some (z_r 0 0), some (z_r 33 0), some (z_i (Int32.ofNat i))], [z_i (Int32.ofNat i + (1 : Int32)), z_r 67 0, z_r 0 0], (true, X, I, J))) rfl ?_
    refine z_ev_sc (k := i + 1) rfl (z_oa i 1) hL (by omega) h3 hv ?_
    refine z_ev_gs 4 (c1 := (285, 797, [some (z_r 67 0), some (z_r 0 0), some (z_r 33 0), some (z_i (Int32.ofNat i))], [z_i (Int32.ofNat i + (2 : Int32)), z_r 67 0, z_i (v (i + 1)), z_r 0 0], (true, X, I, J))) rfl ?_
    refine z_ev_sc (k := i + 2) rfl (z_oa i 2) hL (by omega) h3 hv ?_
    refine z_ev_gs 4 (c1 := (285, 802, [some (z_r 67 0), some (z_r 0 0), some (z_r 33 0), some (z_i (Int32.ofNat i))], [z_i (Int32.ofNat i + (3 : Int32)), z_r 67 0, z_i (v (i + 2)), z_i (v (i + 1)), z_r 0 0], (true, X, I, J))) rfl ?_
    refine z_ev_sc (k := i + 3) rfl (z_oa i 3) hL (by omega) h3 hv ?_
    refine z_ev_gs 1 (c1 := (285, (if v (i + 3) = 0 then 810 else 806), [some (z_r 67 0), some (z_r 0 0), some (z_r 33 0), some (z_i (Int32.ofNat i))], [z_i (v (i + 2)), z_i (v (i + 1)), z_r 0 0], (true, X, I, J))) rfl ?_
    rw [if_neg h0]
    refine z_ev_gs 2 (c1 := (285, 811, [some (z_r 67 0), some (z_r 0 0), some (z_r 33 0), some (z_i (Int32.ofNat i))], [z_i (1), z_i (v (i + 2)), z_i (v (i + 1)), z_r 0 0], (true, X, I, J))) rfl ?_
    refine z_ev_ca rfl rfl c1 ?_
    refine z_ev_gs 5 (c1 := (285, 819, [some (z_r 67 0), some (z_r 0 0), some (z_r 33 0), some (z_i (Int32.ofNat i))], [z_i (Int32.ofNat i + (1 : Int32)), z_r 67 0, z_r 33 0, z_i y], (true, X1, I1, J1))) rfl ?_
    refine z_ev_sc (k := i + 1) rfl (z_oa i 1) hL1 (by omega) h3 hv1 ?_
    refine z_ev_gs 4 (c1 := (285, 824, [some (z_r 67 0), some (z_r 0 0), some (z_r 33 0), some (z_i (Int32.ofNat i))], [z_i (Int32.ofNat i + (2 : Int32)), z_r 67 0, z_i (v (i + 1)), z_r 33 0, z_i y], (true, X1, I1, J1))) rfl ?_
    refine z_ev_sc (k := i + 2) rfl (z_oa i 2) hL1 (by omega) h3 hv1 ?_
    refine z_ev_gs 4 (c1 := (285, 829, [some (z_r 67 0), some (z_r 0 0), some (z_r 33 0), some (z_i (Int32.ofNat i))], [z_i (Int32.ofNat i + (3 : Int32)), z_r 67 0, z_i (v (i + 2)), z_i (v (i + 1)), z_r 33 0, z_i y], (true, X1, I1, J1))) rfl ?_
    refine z_ev_sc (k := i + 3) rfl (z_oa i 3) hL1 (by omega) h3 hv1 ?_
    refine z_ev_gs 1 (c1 := (285, (if v (i + 3) = 0 then 837 else 833), [some (z_r 67 0), some (z_r 0 0), some (z_r 33 0), some (z_i (Int32.ofNat i))], [z_i (v (i + 2)), z_i (v (i + 1)), z_r 33 0, z_i y], (true, X1, I1, J1))) rfl ?_
    rw [if_neg h0]
    refine z_ev_gs 2 (c1 := (285, 838, [some (z_r 67 0), some (z_r 0 0), some (z_r 33 0), some (z_i (Int32.ofNat i))], [z_i (1), z_i (v (i + 2)), z_i (v (i + 1)), z_r 33 0, z_i y], (true, X1, I1, J1))) rfl ?_
    refine z_ev_ca rfl rfl c2 ?_
    refine z_ev_gs 1 (c1 := (285, (if y = y then 2063 else 844), [some (z_r 67 0), some (z_r 0 0), some (z_r 33 0), some (z_i (Int32.ofNat i))], [], (true, X2, I2, J2))) rfl ?_
    rw [if_pos (rfl : y = y)]
    exact hr
theorem z_lw14 {X : z_X} {I : Nat → Nat → Nat → Int32} {J : Nat → Nat → Nat → Int64} {L i : Nat} {v : Nat → Int32} (hv : I 67 0 = v) (hL : I 67 1 0 = Int32.ofNat L) (hi : i + 6 ≤ L) (h3 : L ≤ 384) (hR : z_R X I J) : z_lwp 846 i X I J := by
  obtain ⟨w1, X1, X2, I1, I2, J1, J2, c1, c2, hR2, b1, b2, b3⟩ := z_op_free (v (i + 1)) X I J hR
  have e67 : I1 67 = I 67 := z_ev_67 c1
  have hv1 : I1 67 0 = v := by rw [e67]; exact hv
  have hL1 : I1 67 1 0 = Int32.ofNat L := by rw [e67]; exact hL
  obtain ⟨y, rfl⟩ := z_ev_ti rfl c1
  refine ⟨X2, I2, J2, hR2, b1, b2, b3, fun r hr => ?_⟩
  refine z_ev_gs 5 (c1 := (285, 851, [some (z_r 67 0), some (z_r 0 0), some (z_r 33 0), some (z_i (Int32.ofNat i))], [z_i (Int32.ofNat i + (1 : Int32)), z_r 67 0, z_r 0 0], (true, X, I, J))) rfl ?_
  refine z_ev_sc (k := i + 1) rfl (z_oa i 1) hL (by omega) h3 hv ?_
  refine z_ev_ca rfl rfl c1 ?_
  refine z_ev_gs 5 (c1 := (285, 860, [some (z_r 67 0), some (z_r 0 0), some (z_r 33 0), some (z_i (Int32.ofNat i))], [z_i (Int32.ofNat i + (1 : Int32)), z_r 67 0, z_r 33 0, z_i y], (true, X1, I1, J1))) rfl ?_
  refine z_ev_sc (k := i + 1) rfl (z_oa i 1) hL1 (by omega) h3 hv1 ?_
  refine z_ev_ca rfl rfl c2 ?_
  refine z_ev_gs 1 (c1 := (285, (if y = y then 2063 else 867), [some (z_r 67 0), some (z_r 0 0), some (z_r 33 0), some (z_i (Int32.ofNat i))], [], (true, X2, I2, J2))) rfl ?_
  rw [if_pos (rfl : y = y)]
  exact hr
theorem z_lw15 {X : z_X} {I : Nat → Nat → Nat → Int32} {J : Nat → Nat → Nat → Int64} {L i : Nat} {v : Nat → Int32} (hv : I 67 0 = v) (hL : I 67 1 0 = Int32.ofNat L) (hi : i + 6 ≤ L) (h3 : L ≤ 384) (hR : z_R X I J) : z_lwp 869 i X I J := by
  obtain ⟨w1, X1, X2, I1, I2, J1, J2, c1, c2, hR2, b1, b2, b3⟩ := z_op_heap (v (i + 1)) X I J hR
  have e67 : I1 67 = I 67 := z_ev_67 c1
  have hv1 : I1 67 0 = v := by rw [e67]; exact hv
  have hL1 : I1 67 1 0 = Int32.ofNat L := by rw [e67]; exact hL
  obtain ⟨y, rfl⟩ := z_ev_ti rfl c1
  refine ⟨X2, I2, J2, hR2, b1, b2, b3, fun r hr => ?_⟩
  refine z_ev_gs 5 (c1 := (285, 874, [some (z_r 67 0), some (z_r 0 0), some (z_r 33 0), some (z_i (Int32.ofNat i))], [z_i (Int32.ofNat i + (1 : Int32)), z_r 67 0, z_r 0 0], (true, X, I, J))) rfl ?_
  refine z_ev_sc (k := i + 1) rfl (z_oa i 1) hL (by omega) h3 hv ?_
  refine z_ev_ca rfl rfl c1 ?_
  refine z_ev_gs 5 (c1 := (285, 883, [some (z_r 67 0), some (z_r 0 0), some (z_r 33 0), some (z_i (Int32.ofNat i))], [z_i (Int32.ofNat i + (1 : Int32)), z_r 67 0, z_r 33 0, z_i y], (true, X1, I1, J1))) rfl ?_
  refine z_ev_sc (k := i + 1) rfl (z_oa i 1) hL1 (by omega) h3 hv1 ?_
  refine z_ev_ca rfl rfl c2 ?_
  refine z_ev_gs 1 (c1 := (285, (if y = y then 2063 else 890), [some (z_r 67 0), some (z_r 0 0), some (z_r 33 0), some (z_i (Int32.ofNat i))], [], (true, X2, I2, J2))) rfl ?_
  rw [if_pos (rfl : y = y)]
  exact hr
theorem z_lw16 {X : z_X} {I : Nat → Nat → Nat → Int32} {J : Nat → Nat → Nat → Int64} {L i : Nat} {v : Nat → Int32} (hv : I 67 0 = v) (hL : I 67 1 0 = Int32.ofNat L) (hi : i + 6 ≤ L) (h3 : L ≤ 384) (hR : z_R X I J) : z_lwp 892 i X I J := by
  obtain ⟨w1, X1, X2, I1, I2, J1, J2, c1, c2, hR2, b1, b2, b3⟩ := z_op_most (v (i + 1)) (v (i + 2)) (v (i + 3)) X I J hR
  have e67 : I1 67 = I 67 := z_ev_67 c1
  have hv1 : I1 67 0 = v := by rw [e67]; exact hv
  have hL1 : I1 67 1 0 = Int32.ofNat L := by rw [e67]; exact hL
  obtain ⟨y, rfl⟩ := z_ev_ti rfl c1
  refine ⟨X2, I2, J2, hR2, b1, b2, b3, fun r hr => ?_⟩
  refine z_ev_gs 5 (c1 := (285, 897, [some (z_r 67 0), some (z_r 0 0), some (z_r 33 0), some (z_i (Int32.ofNat i))], [z_i (Int32.ofNat i + (1 : Int32)), z_r 67 0, z_r 0 0], (true, X, I, J))) rfl ?_
  refine z_ev_sc (k := i + 1) rfl (z_oa i 1) hL (by omega) h3 hv ?_
  refine z_ev_gs 4 (c1 := (285, 902, [some (z_r 67 0), some (z_r 0 0), some (z_r 33 0), some (z_i (Int32.ofNat i))], [z_i (Int32.ofNat i + (2 : Int32)), z_r 67 0, z_i (v (i + 1)), z_r 0 0], (true, X, I, J))) rfl ?_
  refine z_ev_sc (k := i + 2) rfl (z_oa i 2) hL (by omega) h3 hv ?_
  refine z_ev_gs 4 (c1 := (285, 907, [some (z_r 67 0), some (z_r 0 0), some (z_r 33 0), some (z_i (Int32.ofNat i))], [z_i (Int32.ofNat i + (3 : Int32)), z_r 67 0, z_i (v (i + 2)), z_i (v (i + 1)), z_r 0 0], (true, X, I, J))) rfl ?_
  refine z_ev_sc (k := i + 3) rfl (z_oa i 3) hL (by omega) h3 hv ?_
  refine z_ev_ca rfl rfl c1 ?_
  refine z_ev_gs 5 (c1 := (285, 916, [some (z_r 67 0), some (z_r 0 0), some (z_r 33 0), some (z_i (Int32.ofNat i))], [z_i (Int32.ofNat i + (1 : Int32)), z_r 67 0, z_r 33 0, z_i y], (true, X1, I1, J1))) rfl ?_
  refine z_ev_sc (k := i + 1) rfl (z_oa i 1) hL1 (by omega) h3 hv1 ?_
  refine z_ev_gs 4 (c1 := (285, 921, [some (z_r 67 0), some (z_r 0 0), some (z_r 33 0), some (z_i (Int32.ofNat i))], [z_i (Int32.ofNat i + (2 : Int32)), z_r 67 0, z_i (v (i + 1)), z_r 33 0, z_i y], (true, X1, I1, J1))) rfl ?_
  refine z_ev_sc (k := i + 2) rfl (z_oa i 2) hL1 (by omega) h3 hv1 ?_
  refine z_ev_gs 4 (c1 := (285, 926, [some (z_r 67 0), some (z_r 0 0), some (z_r 33 0), some (z_i (Int32.ofNat i))], [z_i (Int32.ofNat i + (3 : Int32)), z_r 67 0, z_i (v (i + 2)), z_i (v (i + 1)), z_r 33 0, z_i y], (true, X1, I1, J1))) rfl ?_
  refine z_ev_sc (k := i + 3) rfl (z_oa i 3) hL1 (by omega) h3 hv1 ?_
  refine z_ev_ca rfl rfl c2 ?_
  refine z_ev_gs 1 (c1 := (285, (if y = y then 2063 else 933), [some (z_r 67 0), some (z_r 0 0), some (z_r 33 0), some (z_i (Int32.ofNat i))], [], (true, X2, I2, J2))) rfl ?_
  rw [if_pos (rfl : y = y)]
  exact hr
theorem z_lw17 {X : z_X} {I : Nat → Nat → Nat → Int32} {J : Nat → Nat → Nat → Int64} {L i : Nat} {v : Nat → Int32} (hv : I 67 0 = v) (hL : I 67 1 0 = Int32.ofNat L) (hi : i + 6 ≤ L) (h3 : L ≤ 384) (hR : z_R X I J) : z_lwp 935 i X I J := by
  obtain ⟨w1, X1, X2, I1, I2, J1, J2, c1, c2, hR2, b1, b2, b3⟩ := z_op_part (v (i + 1)) X I J hR
  have e67 : I1 67 = I 67 := z_ev_67 c1
  have hv1 : I1 67 0 = v := by rw [e67]; exact hv
  have hL1 : I1 67 1 0 = Int32.ofNat L := by rw [e67]; exact hL
  obtain ⟨y, rfl⟩ := z_ev_ti rfl c1
  refine ⟨X2, I2, J2, hR2, b1, b2, b3, fun r hr => ?_⟩
  refine z_ev_gs 5 (c1 := (285, 940, [some (z_r 67 0), some (z_r 0 0), some (z_r 33 0), some (z_i (Int32.ofNat i))], [z_i (Int32.ofNat i + (1 : Int32)), z_r 67 0, z_r 0 0], (true, X, I, J))) rfl ?_
  refine z_ev_sc (k := i + 1) rfl (z_oa i 1) hL (by omega) h3 hv ?_
  refine z_ev_ca rfl rfl c1 ?_
  refine z_ev_gs 5 (c1 := (285, 949, [some (z_r 67 0), some (z_r 0 0), some (z_r 33 0), some (z_i (Int32.ofNat i))], [z_i (Int32.ofNat i + (1 : Int32)), z_r 67 0, z_r 33 0, z_i y], (true, X1, I1, J1))) rfl ?_
  refine z_ev_sc (k := i + 1) rfl (z_oa i 1) hL1 (by omega) h3 hv1 ?_
  refine z_ev_ca rfl rfl c2 ?_
  refine z_ev_gs 1 (c1 := (285, (if y = y then 2063 else 956), [some (z_r 67 0), some (z_r 0 0), some (z_r 33 0), some (z_i (Int32.ofNat i))], [], (true, X2, I2, J2))) rfl ?_
  rw [if_pos (rfl : y = y)]
  exact hr
theorem z_lw18 {X : z_X} {I : Nat → Nat → Nat → Int32} {J : Nat → Nat → Nat → Int64} {L i : Nat} {v : Nat → Int32} (hv : I 67 0 = v) (hL : I 67 1 0 = Int32.ofNat L) (hi : i + 6 ≤ L) (h3 : L ≤ 384) (hR : z_R X I J) : z_lwp 958 i X I J := by
  obtain ⟨w1, X1, X2, I1, I2, J1, J2, c1, c2, hR2, b1, b2, b3⟩ := z_op_chance (v (i + 1)) (v (i + 2)) (v (i + 3)) X I J hR
  have e67 : I1 67 = I 67 := z_ev_67 c1
  have hv1 : I1 67 0 = v := by rw [e67]; exact hv
  have hL1 : I1 67 1 0 = Int32.ofNat L := by rw [e67]; exact hL
  obtain ⟨y, rfl⟩ := z_ev_ti rfl c1
  refine ⟨X2, I2, J2, hR2, b1, b2, b3, fun r hr => ?_⟩
  refine z_ev_gs 5 (c1 := (285, 963, [some (z_r 67 0), some (z_r 0 0), some (z_r 33 0), some (z_i (Int32.ofNat i))], [z_i (Int32.ofNat i + (1 : Int32)), z_r 67 0, z_r 0 0], (true, X, I, J))) rfl ?_
  refine z_ev_sc (k := i + 1) rfl (z_oa i 1) hL (by omega) h3 hv ?_
  refine z_ev_gs 4 (c1 := (285, 968, [some (z_r 67 0), some (z_r 0 0), some (z_r 33 0), some (z_i (Int32.ofNat i))], [z_i (Int32.ofNat i + (2 : Int32)), z_r 67 0, z_i (v (i + 1)), z_r 0 0], (true, X, I, J))) rfl ?_
  refine z_ev_sc (k := i + 2) rfl (z_oa i 2) hL (by omega) h3 hv ?_
  refine z_ev_gs 4 (c1 := (285, 973, [some (z_r 67 0), some (z_r 0 0), some (z_r 33 0), some (z_i (Int32.ofNat i))], [z_i (Int32.ofNat i + (3 : Int32)), z_r 67 0, z_i (v (i + 2)), z_i (v (i + 1)), z_r 0 0], (true, X, I, J))) rfl ?_
  refine z_ev_sc (k := i + 3) rfl (z_oa i 3) hL (by omega) h3 hv ?_
  refine z_ev_ca rfl rfl c1 ?_
  refine z_ev_gs 5 (c1 := (285, 982, [some (z_r 67 0), some (z_r 0 0), some (z_r 33 0), some (z_i (Int32.ofNat i))], [z_i (Int32.ofNat i + (1 : Int32)), z_r 67 0, z_r 33 0, z_i y], (true, X1, I1, J1))) rfl ?_
  refine z_ev_sc (k := i + 1) rfl (z_oa i 1) hL1 (by omega) h3 hv1 ?_
  refine z_ev_gs 4 (c1 := (285, 987, [some (z_r 67 0), some (z_r 0 0), some (z_r 33 0), some (z_i (Int32.ofNat i))], [z_i (Int32.ofNat i + (2 : Int32)), z_r 67 0, z_i (v (i + 1)), z_r 33 0, z_i y], (true, X1, I1, J1))) rfl ?_
  refine z_ev_sc (k := i + 2) rfl (z_oa i 2) hL1 (by omega) h3 hv1 ?_
  refine z_ev_gs 4 (c1 := (285, 992, [some (z_r 67 0), some (z_r 0 0), some (z_r 33 0), some (z_i (Int32.ofNat i))], [z_i (Int32.ofNat i + (3 : Int32)), z_r 67 0, z_i (v (i + 2)), z_i (v (i + 1)), z_r 33 0, z_i y], (true, X1, I1, J1))) rfl ?_
  refine z_ev_sc (k := i + 3) rfl (z_oa i 3) hL1 (by omega) h3 hv1 ?_
  refine z_ev_ca rfl rfl c2 ?_
  refine z_ev_gs 1 (c1 := (285, (if y = y then 2063 else 999), [some (z_r 67 0), some (z_r 0 0), some (z_r 33 0), some (z_i (Int32.ofNat i))], [], (true, X2, I2, J2))) rfl ?_
  rw [if_pos (rfl : y = y)]
  exact hr
theorem z_lw19 {X : z_X} {I : Nat → Nat → Nat → Int32} {J : Nat → Nat → Nat → Int64} {L i : Nat} {v : Nat → Int32} (hv : I 67 0 = v) (hL : I 67 1 0 = Int32.ofNat L) (hi : i + 6 ≤ L) (h3 : L ≤ 384) (hR : z_R X I J) : z_lwp 1001 i X I J := by
  obtain ⟨w1, X1, X2, I1, I2, J1, J2, c1, c2, hR2, b1, b2, b3⟩ := z_op_bare  X I J hR
  have e67 : I1 67 = I 67 := z_ev_67 c1
  have hv1 : I1 67 0 = v := by rw [e67]; exact hv
  have hL1 : I1 67 1 0 = Int32.ofNat L := by rw [e67]; exact hL
  obtain ⟨y, rfl⟩ := z_ev_ti rfl c1
  refine ⟨X2, I2, J2, hR2, b1, b2, b3, fun r hr => ?_⟩
  refine z_ev_gs 1 (c1 := (285, 1002, [some (z_r 67 0), some (z_r 0 0), some (z_r 33 0), some (z_i (Int32.ofNat i))], [z_r 0 0], (true, X, I, J))) rfl ?_
  refine z_ev_ca rfl rfl c1 ?_
  refine z_ev_gs 1 (c1 := (285, 1006, [some (z_r 67 0), some (z_r 0 0), some (z_r 33 0), some (z_i (Int32.ofNat i))], [z_r 33 0, z_i y], (true, X1, I1, J1))) rfl ?_
  refine z_ev_ca rfl rfl c2 ?_
  refine z_ev_gs 1 (c1 := (285, (if y = y then 2063 else 1012), [some (z_r 67 0), some (z_r 0 0), some (z_r 33 0), some (z_i (Int32.ofNat i))], [], (true, X2, I2, J2))) rfl ?_
  rw [if_pos (rfl : y = y)]
  exact hr
theorem z_lw20 {X : z_X} {I : Nat → Nat → Nat → Int32} {J : Nat → Nat → Nat → Int64} {L i : Nat} {v : Nat → Int32} (hv : I 67 0 = v) (hL : I 67 1 0 = Int32.ofNat L) (hi : i + 6 ≤ L) (h3 : L ≤ 384) (hR : z_R X I J) : z_lwp 1014 i X I J := by
  obtain ⟨w1, X1, X2, I1, I2, J1, J2, c1, c2, hR2, b1, b2, b3⟩ := z_op_at (v (i + 1)) (v (i + 2)) (v (i + 3)) X I J hR
  have e67 : I1 67 = I 67 := z_ev_67 c1
  have hv1 : I1 67 0 = v := by rw [e67]; exact hv
  have hL1 : I1 67 1 0 = Int32.ofNat L := by rw [e67]; exact hL
  obtain ⟨y, rfl⟩ := z_ev_tj rfl c1
  refine ⟨X2, I2, J2, hR2, b1, b2, b3, fun r hr => ?_⟩
  refine z_ev_gs 5 (c1 := (285, 1019, [some (z_r 67 0), some (z_r 0 0), some (z_r 33 0), some (z_i (Int32.ofNat i))], [z_i (Int32.ofNat i + (1 : Int32)), z_r 67 0, z_r 0 0], (true, X, I, J))) rfl ?_
  refine z_ev_sc (k := i + 1) rfl (z_oa i 1) hL (by omega) h3 hv ?_
  refine z_ev_gs 4 (c1 := (285, 1024, [some (z_r 67 0), some (z_r 0 0), some (z_r 33 0), some (z_i (Int32.ofNat i))], [z_i (Int32.ofNat i + (2 : Int32)), z_r 67 0, z_i (v (i + 1)), z_r 0 0], (true, X, I, J))) rfl ?_
  refine z_ev_sc (k := i + 2) rfl (z_oa i 2) hL (by omega) h3 hv ?_
  refine z_ev_gs 4 (c1 := (285, 1029, [some (z_r 67 0), some (z_r 0 0), some (z_r 33 0), some (z_i (Int32.ofNat i))], [z_i (Int32.ofNat i + (3 : Int32)), z_r 67 0, z_i (v (i + 2)), z_i (v (i + 1)), z_r 0 0], (true, X, I, J))) rfl ?_
  refine z_ev_sc (k := i + 3) rfl (z_oa i 3) hL (by omega) h3 hv ?_
  refine z_ev_ca rfl rfl c1 ?_
  refine z_ev_gs 5 (c1 := (285, 1038, [some (z_r 67 0), some (z_r 0 0), some (z_r 33 0), some (z_i (Int32.ofNat i))], [z_i (Int32.ofNat i + (1 : Int32)), z_r 67 0, z_r 33 0, z_j y], (true, X1, I1, J1))) rfl ?_
  refine z_ev_sc (k := i + 1) rfl (z_oa i 1) hL1 (by omega) h3 hv1 ?_
  refine z_ev_gs 4 (c1 := (285, 1043, [some (z_r 67 0), some (z_r 0 0), some (z_r 33 0), some (z_i (Int32.ofNat i))], [z_i (Int32.ofNat i + (2 : Int32)), z_r 67 0, z_i (v (i + 1)), z_r 33 0, z_j y], (true, X1, I1, J1))) rfl ?_
  refine z_ev_sc (k := i + 2) rfl (z_oa i 2) hL1 (by omega) h3 hv1 ?_
  refine z_ev_gs 4 (c1 := (285, 1048, [some (z_r 67 0), some (z_r 0 0), some (z_r 33 0), some (z_i (Int32.ofNat i))], [z_i (Int32.ofNat i + (3 : Int32)), z_r 67 0, z_i (v (i + 2)), z_i (v (i + 1)), z_r 33 0, z_j y], (true, X1, I1, J1))) rfl ?_
  refine z_ev_sc (k := i + 3) rfl (z_oa i 3) hL1 (by omega) h3 hv1 ?_
  refine z_ev_ca rfl rfl c2 ?_
  refine z_ev_gs 1 (c1 := (285, 1053, [some (z_r 67 0), some (z_r 0 0), some (z_r 33 0), some (z_i (Int32.ofNat i))], [z_i (lg_cmp y y)], (true, X2, I2, J2))) rfl ?_
  refine z_ev_gs 1 (c1 := (285, (if lg_cmp y y = 0 then 2063 else 1056), [some (z_r 67 0), some (z_r 0 0), some (z_r 33 0), some (z_i (Int32.ofNat i))], [], (true, X2, I2, J2))) rfl ?_
  rw [if_pos (z_lc0.mpr rfl)]
  exact hr
theorem z_lw21 {X : z_X} {I : Nat → Nat → Nat → Int32} {J : Nat → Nat → Nat → Int64} {L i : Nat} {v : Nat → Int32} (hv : I 67 0 = v) (hL : I 67 1 0 = Int32.ofNat L) (hi : i + 6 ≤ L) (h3 : L ≤ 384) (hR : z_R X I J) : z_lwp 1058 i X I J := by
  obtain ⟨w1, X1, X2, I1, I2, J1, J2, c1, c2, hR2, b1, b2, b3⟩ := z_op_freeAt  X I J hR
  have e67 : I1 67 = I 67 := z_ev_67 c1
  have hv1 : I1 67 0 = v := by rw [e67]; exact hv
  have hL1 : I1 67 1 0 = Int32.ofNat L := by rw [e67]; exact hL
  obtain ⟨y, rfl⟩ := z_ev_ti rfl c1
  refine ⟨X2, I2, J2, hR2, b1, b2, b3, fun r hr => ?_⟩
  refine z_ev_gs 1 (c1 := (285, 1059, [some (z_r 67 0), some (z_r 0 0), some (z_r 33 0), some (z_i (Int32.ofNat i))], [z_r 0 0], (true, X, I, J))) rfl ?_
  refine z_ev_ca rfl rfl c1 ?_
  refine z_ev_gs 1 (c1 := (285, 1063, [some (z_r 67 0), some (z_r 0 0), some (z_r 33 0), some (z_i (Int32.ofNat i))], [z_r 33 0, z_i y], (true, X1, I1, J1))) rfl ?_
  refine z_ev_ca rfl rfl c2 ?_
  refine z_ev_gs 1 (c1 := (285, (if y = y then 2063 else 1069), [some (z_r 67 0), some (z_r 0 0), some (z_r 33 0), some (z_i (Int32.ofNat i))], [], (true, X2, I2, J2))) rfl ?_
  rw [if_pos (rfl : y = y)]
  exact hr
theorem z_lw22 {X : z_X} {I : Nat → Nat → Nat → Int32} {J : Nat → Nat → Nat → Int64} {L i : Nat} {v : Nat → Int32} (hv : I 67 0 = v) (hL : I 67 1 0 = Int32.ofNat L) (hi : i + 6 ≤ L) (h3 : L ≤ 384) (hR : z_R X I J) : z_lwp 1071 i X I J := by
  obtain ⟨w1, X1, X2, I1, I2, J1, J2, c1, c2, hR2, b1, b2, b3⟩ := z_op_blow (v (i + 1)) X I J hR
  have e67 : I1 67 = I 67 := z_ev_67 c1
  have hv1 : I1 67 0 = v := by rw [e67]; exact hv
  have hL1 : I1 67 1 0 = Int32.ofNat L := by rw [e67]; exact hL
  obtain ⟨y, rfl⟩ := z_ev_ti rfl c1
  refine ⟨X2, I2, J2, hR2, b1, b2, b3, fun r hr => ?_⟩
  refine z_ev_gs 5 (c1 := (285, 1076, [some (z_r 67 0), some (z_r 0 0), some (z_r 33 0), some (z_i (Int32.ofNat i))], [z_i (Int32.ofNat i + (1 : Int32)), z_r 67 0, z_r 0 0], (true, X, I, J))) rfl ?_
  refine z_ev_sc (k := i + 1) rfl (z_oa i 1) hL (by omega) h3 hv ?_
  refine z_ev_ca rfl rfl c1 ?_
  refine z_ev_gs 5 (c1 := (285, 1085, [some (z_r 67 0), some (z_r 0 0), some (z_r 33 0), some (z_i (Int32.ofNat i))], [z_i (Int32.ofNat i + (1 : Int32)), z_r 67 0, z_r 33 0, z_i y], (true, X1, I1, J1))) rfl ?_
  refine z_ev_sc (k := i + 1) rfl (z_oa i 1) hL1 (by omega) h3 hv1 ?_
  refine z_ev_ca rfl rfl c2 ?_
  refine z_ev_gs 1 (c1 := (285, (if y = y then 2063 else 1092), [some (z_r 67 0), some (z_r 0 0), some (z_r 33 0), some (z_i (Int32.ofNat i))], [], (true, X2, I2, J2))) rfl ?_
  rw [if_pos (rfl : y = y)]
  exact hr
theorem z_lw23 {X : z_X} {I : Nat → Nat → Nat → Int32} {J : Nat → Nat → Nat → Int64} {L i : Nat} {v : Nat → Int32} (hv : I 67 0 = v) (hL : I 67 1 0 = Int32.ofNat L) (hi : i + 6 ≤ L) (h3 : L ≤ 384) (hR : z_R X I J) : z_lwp 1094 i X I J := by
  obtain ⟨w1, X1, X2, I1, I2, J1, J2, c1, c2, hR2, b1, b2, b3⟩ := z_op_near (v (i + 1)) (v (i + 2)) X I J hR
  have e67 : I1 67 = I 67 := z_ev_67 c1
  have hv1 : I1 67 0 = v := by rw [e67]; exact hv
  have hL1 : I1 67 1 0 = Int32.ofNat L := by rw [e67]; exact hL
  obtain ⟨y, rfl⟩ := z_ev_ti rfl c1
  refine ⟨X2, I2, J2, hR2, b1, b2, b3, fun r hr => ?_⟩
  refine z_ev_gs 5 (c1 := (285, 1099, [some (z_r 67 0), some (z_r 0 0), some (z_r 33 0), some (z_i (Int32.ofNat i))], [z_i (Int32.ofNat i + (1 : Int32)), z_r 67 0, z_r 0 0], (true, X, I, J))) rfl ?_
  refine z_ev_sc (k := i + 1) rfl (z_oa i 1) hL (by omega) h3 hv ?_
  refine z_ev_gs 4 (c1 := (285, 1104, [some (z_r 67 0), some (z_r 0 0), some (z_r 33 0), some (z_i (Int32.ofNat i))], [z_i (Int32.ofNat i + (2 : Int32)), z_r 67 0, z_i (v (i + 1)), z_r 0 0], (true, X, I, J))) rfl ?_
  refine z_ev_sc (k := i + 2) rfl (z_oa i 2) hL (by omega) h3 hv ?_
  refine z_ev_ca rfl rfl c1 ?_
  refine z_ev_gs 5 (c1 := (285, 1113, [some (z_r 67 0), some (z_r 0 0), some (z_r 33 0), some (z_i (Int32.ofNat i))], [z_i (Int32.ofNat i + (1 : Int32)), z_r 67 0, z_r 33 0, z_i y], (true, X1, I1, J1))) rfl ?_
  refine z_ev_sc (k := i + 1) rfl (z_oa i 1) hL1 (by omega) h3 hv1 ?_
  refine z_ev_gs 4 (c1 := (285, 1118, [some (z_r 67 0), some (z_r 0 0), some (z_r 33 0), some (z_i (Int32.ofNat i))], [z_i (Int32.ofNat i + (2 : Int32)), z_r 67 0, z_i (v (i + 1)), z_r 33 0, z_i y], (true, X1, I1, J1))) rfl ?_
  refine z_ev_sc (k := i + 2) rfl (z_oa i 2) hL1 (by omega) h3 hv1 ?_
  refine z_ev_ca rfl rfl c2 ?_
  refine z_ev_gs 1 (c1 := (285, (if y = y then 2063 else 1125), [some (z_r 67 0), some (z_r 0 0), some (z_r 33 0), some (z_i (Int32.ofNat i))], [], (true, X2, I2, J2))) rfl ?_
  rw [if_pos (rfl : y = y)]
  exact hr
theorem z_lw24 {X : z_X} {I : Nat → Nat → Nat → Int32} {J : Nat → Nat → Nat → Int64} {L i : Nat} {v : Nat → Int32} (hv : I 67 0 = v) (hL : I 67 1 0 = Int32.ofNat L) (hi : i + 6 ≤ L) (h3 : L ≤ 384) (hR : z_R X I J) : z_lwp 1127 i X I J := by
  obtain ⟨w1, X1, X2, I1, I2, J1, J2, c1, c2, hR2, b1, b2, b3⟩ := z_op_mixed (v (i + 1)) (v (i + 2)) X I J hR
  have e67 : I1 67 = I 67 := z_ev_67 c1
  have hv1 : I1 67 0 = v := by rw [e67]; exact hv
  have hL1 : I1 67 1 0 = Int32.ofNat L := by rw [e67]; exact hL
  obtain ⟨y, rfl⟩ := z_ev_ti rfl c1
  refine ⟨X2, I2, J2, hR2, b1, b2, b3, fun r hr => ?_⟩
  refine z_ev_gs 5 (c1 := (285, 1132, [some (z_r 67 0), some (z_r 0 0), some (z_r 33 0), some (z_i (Int32.ofNat i))], [z_i (Int32.ofNat i + (1 : Int32)), z_r 67 0, z_r 0 0], (true, X, I, J))) rfl ?_
  refine z_ev_sc (k := i + 1) rfl (z_oa i 1) hL (by omega) h3 hv ?_
  refine z_ev_gs 4 (c1 := (285, 1137, [some (z_r 67 0), some (z_r 0 0), some (z_r 33 0), some (z_i (Int32.ofNat i))], [z_i (Int32.ofNat i + (2 : Int32)), z_r 67 0, z_i (v (i + 1)), z_r 0 0], (true, X, I, J))) rfl ?_
  refine z_ev_sc (k := i + 2) rfl (z_oa i 2) hL (by omega) h3 hv ?_
  refine z_ev_ca rfl rfl c1 ?_
  refine z_ev_gs 5 (c1 := (285, 1146, [some (z_r 67 0), some (z_r 0 0), some (z_r 33 0), some (z_i (Int32.ofNat i))], [z_i (Int32.ofNat i + (1 : Int32)), z_r 67 0, z_r 33 0, z_i y], (true, X1, I1, J1))) rfl ?_
  refine z_ev_sc (k := i + 1) rfl (z_oa i 1) hL1 (by omega) h3 hv1 ?_
  refine z_ev_gs 4 (c1 := (285, 1151, [some (z_r 67 0), some (z_r 0 0), some (z_r 33 0), some (z_i (Int32.ofNat i))], [z_i (Int32.ofNat i + (2 : Int32)), z_r 67 0, z_i (v (i + 1)), z_r 33 0, z_i y], (true, X1, I1, J1))) rfl ?_
  refine z_ev_sc (k := i + 2) rfl (z_oa i 2) hL1 (by omega) h3 hv1 ?_
  refine z_ev_ca rfl rfl c2 ?_
  refine z_ev_gs 1 (c1 := (285, (if y = y then 2063 else 1158), [some (z_r 67 0), some (z_r 0 0), some (z_r 33 0), some (z_i (Int32.ofNat i))], [], (true, X2, I2, J2))) rfl ?_
  rw [if_pos (rfl : y = y)]
  exact hr
theorem z_lw25 {X : z_X} {I : Nat → Nat → Nat → Int32} {J : Nat → Nat → Nat → Int64} {L i : Nat} {v : Nat → Int32} (hv : I 67 0 = v) (hL : I 67 1 0 = Int32.ofNat L) (hi : i + 6 ≤ L) (h3 : L ≤ 384) (hR : z_R X I J) : z_lwp 1160 i X I J := by
  obtain ⟨w1, X1, X2, I1, I2, J1, J2, c1, c2, hR2, b1, b2, b3⟩ := z_op_draw (v (i + 1)) (v (i + 2)) X I J hR
  have e67 : I1 67 = I 67 := z_ev_67 c1
  have hv1 : I1 67 0 = v := by rw [e67]; exact hv
  have hL1 : I1 67 1 0 = Int32.ofNat L := by rw [e67]; exact hL
  obtain ⟨y, rfl⟩ := z_ev_ti rfl c1
  refine ⟨X2, I2, J2, hR2, b1, b2, b3, fun r hr => ?_⟩
  refine z_ev_gs 5 (c1 := (285, 1165, [some (z_r 67 0), some (z_r 0 0), some (z_r 33 0), some (z_i (Int32.ofNat i))], [z_i (Int32.ofNat i + (1 : Int32)), z_r 67 0, z_r 0 0], (true, X, I, J))) rfl ?_
  refine z_ev_sc (k := i + 1) rfl (z_oa i 1) hL (by omega) h3 hv ?_
  refine z_ev_gs 4 (c1 := (285, 1170, [some (z_r 67 0), some (z_r 0 0), some (z_r 33 0), some (z_i (Int32.ofNat i))], [z_i (Int32.ofNat i + (2 : Int32)), z_r 67 0, z_i (v (i + 1)), z_r 0 0], (true, X, I, J))) rfl ?_
  refine z_ev_sc (k := i + 2) rfl (z_oa i 2) hL (by omega) h3 hv ?_
  refine z_ev_ca rfl rfl c1 ?_
  refine z_ev_gs 5 (c1 := (285, 1179, [some (z_r 67 0), some (z_r 0 0), some (z_r 33 0), some (z_i (Int32.ofNat i))], [z_i (Int32.ofNat i + (1 : Int32)), z_r 67 0, z_r 33 0, z_i y], (true, X1, I1, J1))) rfl ?_
  refine z_ev_sc (k := i + 1) rfl (z_oa i 1) hL1 (by omega) h3 hv1 ?_
  refine z_ev_gs 4 (c1 := (285, 1184, [some (z_r 67 0), some (z_r 0 0), some (z_r 33 0), some (z_i (Int32.ofNat i))], [z_i (Int32.ofNat i + (2 : Int32)), z_r 67 0, z_i (v (i + 1)), z_r 33 0, z_i y], (true, X1, I1, J1))) rfl ?_
  refine z_ev_sc (k := i + 2) rfl (z_oa i 2) hL1 (by omega) h3 hv1 ?_
  refine z_ev_ca rfl rfl c2 ?_
  refine z_ev_gs 1 (c1 := (285, (if y = y then 2063 else 1191), [some (z_r 67 0), some (z_r 0 0), some (z_r 33 0), some (z_i (Int32.ofNat i))], [], (true, X2, I2, J2))) rfl ?_
  rw [if_pos (rfl : y = y)]
  exact hr
theorem z_lw26 {X : z_X} {I : Nat → Nat → Nat → Int32} {J : Nat → Nat → Nat → Int64} {L i : Nat} {v : Nat → Int32} (hv : I 67 0 = v) (hL : I 67 1 0 = Int32.ofNat L) (hi : i + 6 ≤ L) (h3 : L ≤ 384) (hR : z_R X I J) : z_lwp 1193 i X I J := by
  obtain ⟨w1, X1, X2, I1, I2, J1, J2, c1, c2, hR2, b1, b2, b3⟩ := z_op_seed (v (i + 1)) X I J hR
  have e67 : I1 67 = I 67 := z_ev_67 c1
  have hv1 : I1 67 0 = v := by rw [e67]; exact hv
  have hL1 : I1 67 1 0 = Int32.ofNat L := by rw [e67]; exact hL
  obtain ⟨y, rfl⟩ := z_ev_ti rfl c1
  refine ⟨X2, I2, J2, hR2, b1, b2, b3, fun r hr => ?_⟩
  refine z_ev_gs 5 (c1 := (285, 1198, [some (z_r 67 0), some (z_r 0 0), some (z_r 33 0), some (z_i (Int32.ofNat i))], [z_i (Int32.ofNat i + (1 : Int32)), z_r 67 0, z_r 0 0], (true, X, I, J))) rfl ?_
  refine z_ev_sc (k := i + 1) rfl (z_oa i 1) hL (by omega) h3 hv ?_
  refine z_ev_ca rfl rfl c1 ?_
  refine z_ev_gs 5 (c1 := (285, 1207, [some (z_r 67 0), some (z_r 0 0), some (z_r 33 0), some (z_i (Int32.ofNat i))], [z_i (Int32.ofNat i + (1 : Int32)), z_r 67 0, z_r 33 0, z_i y], (true, X1, I1, J1))) rfl ?_
  refine z_ev_sc (k := i + 1) rfl (z_oa i 1) hL1 (by omega) h3 hv1 ?_
  refine z_ev_ca rfl rfl c2 ?_
  refine z_ev_gs 1 (c1 := (285, (if y = y then 2063 else 1214), [some (z_r 67 0), some (z_r 0 0), some (z_r 33 0), some (z_i (Int32.ofNat i))], [], (true, X2, I2, J2))) rfl ?_
  rw [if_pos (rfl : y = y)]
  exact hr
theorem z_lw27 {X : z_X} {I : Nat → Nat → Nat → Int32} {J : Nat → Nat → Nat → Int64} {L i : Nat} {v : Nat → Int32} (hv : I 67 0 = v) (hL : I 67 1 0 = Int32.ofNat L) (hi : i + 6 ≤ L) (h3 : L ≤ 384) (hR : z_R X I J) : z_lwp 1216 i X I J := by
  obtain ⟨w1, X1, X2, I1, I2, J1, J2, c1, c2, hR2, b1, b2, b3⟩ := z_op_add (v (i + 1)) (v (i + 2)) (v (i + 3)) X I J hR
  have e67 : I1 67 = I 67 := z_ev_67 c1
  have hv1 : I1 67 0 = v := by rw [e67]; exact hv
  have hL1 : I1 67 1 0 = Int32.ofNat L := by rw [e67]; exact hL
  obtain ⟨y, rfl⟩ := z_ev_ti rfl c1
  refine ⟨X2, I2, J2, hR2, b1, b2, b3, fun r hr => ?_⟩
  refine z_ev_gs 5 (c1 := (285, 1221, [some (z_r 67 0), some (z_r 0 0), some (z_r 33 0), some (z_i (Int32.ofNat i))], [z_i (Int32.ofNat i + (1 : Int32)), z_r 67 0, z_r 0 0], (true, X, I, J))) rfl ?_
  refine z_ev_sc (k := i + 1) rfl (z_oa i 1) hL (by omega) h3 hv ?_
  refine z_ev_gs 4 (c1 := (285, 1226, [some (z_r 67 0), some (z_r 0 0), some (z_r 33 0), some (z_i (Int32.ofNat i))], [z_i (Int32.ofNat i + (2 : Int32)), z_r 67 0, z_i (v (i + 1)), z_r 0 0], (true, X, I, J))) rfl ?_
  refine z_ev_sc (k := i + 2) rfl (z_oa i 2) hL (by omega) h3 hv ?_
  refine z_ev_gs 4 (c1 := (285, 1231, [some (z_r 67 0), some (z_r 0 0), some (z_r 33 0), some (z_i (Int32.ofNat i))], [z_i (Int32.ofNat i + (3 : Int32)), z_r 67 0, z_i (v (i + 2)), z_i (v (i + 1)), z_r 0 0], (true, X, I, J))) rfl ?_
  refine z_ev_sc (k := i + 3) rfl (z_oa i 3) hL (by omega) h3 hv ?_
  refine z_ev_ca rfl rfl c1 ?_
  refine z_ev_gs 5 (c1 := (285, 1240, [some (z_r 67 0), some (z_r 0 0), some (z_r 33 0), some (z_i (Int32.ofNat i))], [z_i (Int32.ofNat i + (1 : Int32)), z_r 67 0, z_r 33 0, z_i y], (true, X1, I1, J1))) rfl ?_
  refine z_ev_sc (k := i + 1) rfl (z_oa i 1) hL1 (by omega) h3 hv1 ?_
  refine z_ev_gs 4 (c1 := (285, 1245, [some (z_r 67 0), some (z_r 0 0), some (z_r 33 0), some (z_i (Int32.ofNat i))], [z_i (Int32.ofNat i + (2 : Int32)), z_r 67 0, z_i (v (i + 1)), z_r 33 0, z_i y], (true, X1, I1, J1))) rfl ?_
  refine z_ev_sc (k := i + 2) rfl (z_oa i 2) hL1 (by omega) h3 hv1 ?_
  refine z_ev_gs 4 (c1 := (285, 1250, [some (z_r 67 0), some (z_r 0 0), some (z_r 33 0), some (z_i (Int32.ofNat i))], [z_i (Int32.ofNat i + (3 : Int32)), z_r 67 0, z_i (v (i + 2)), z_i (v (i + 1)), z_r 33 0, z_i y], (true, X1, I1, J1))) rfl ?_
  refine z_ev_sc (k := i + 3) rfl (z_oa i 3) hL1 (by omega) h3 hv1 ?_
  refine z_ev_ca rfl rfl c2 ?_
  refine z_ev_gs 1 (c1 := (285, (if y = y then 2063 else 1257), [some (z_r 67 0), some (z_r 0 0), some (z_r 33 0), some (z_i (Int32.ofNat i))], [], (true, X2, I2, J2))) rfl ?_
  rw [if_pos (rfl : y = y)]
  exact hr
theorem z_lw28 {X : z_X} {I : Nat → Nat → Nat → Int32} {J : Nat → Nat → Nat → Int64} {L i : Nat} {v : Nat → Int32} (hv : I 67 0 = v) (hL : I 67 1 0 = Int32.ofNat L) (hi : i + 6 ≤ L) (h3 : L ≤ 384) (hR : z_R X I J) : z_lwp 1259 i X I J := by
  obtain ⟨w1, X1, X2, I1, I2, J1, J2, c1, c2, hR2, b1, b2, b3⟩ := z_op_shareOf (v (i + 1)) (v (i + 2)) X I J hR
  have e67 : I1 67 = I 67 := z_ev_67 c1
  have hv1 : I1 67 0 = v := by rw [e67]; exact hv
  have hL1 : I1 67 1 0 = Int32.ofNat L := by rw [e67]; exact hL
  obtain ⟨y, rfl⟩ := z_ev_ti rfl c1
  refine ⟨X2, I2, J2, hR2, b1, b2, b3, fun r hr => ?_⟩
  refine z_ev_gs 5 (c1 := (285, 1264, [some (z_r 67 0), some (z_r 0 0), some (z_r 33 0), some (z_i (Int32.ofNat i))], [z_i (Int32.ofNat i + (1 : Int32)), z_r 67 0, z_r 0 0], (true, X, I, J))) rfl ?_
  refine z_ev_sc (k := i + 1) rfl (z_oa i 1) hL (by omega) h3 hv ?_
  refine z_ev_gs 4 (c1 := (285, 1269, [some (z_r 67 0), some (z_r 0 0), some (z_r 33 0), some (z_i (Int32.ofNat i))], [z_i (Int32.ofNat i + (2 : Int32)), z_r 67 0, z_i (v (i + 1)), z_r 0 0], (true, X, I, J))) rfl ?_
  refine z_ev_sc (k := i + 2) rfl (z_oa i 2) hL (by omega) h3 hv ?_
  refine z_ev_ca rfl rfl c1 ?_
  refine z_ev_gs 5 (c1 := (285, 1278, [some (z_r 67 0), some (z_r 0 0), some (z_r 33 0), some (z_i (Int32.ofNat i))], [z_i (Int32.ofNat i + (1 : Int32)), z_r 67 0, z_r 33 0, z_i y], (true, X1, I1, J1))) rfl ?_
  refine z_ev_sc (k := i + 1) rfl (z_oa i 1) hL1 (by omega) h3 hv1 ?_
  refine z_ev_gs 4 (c1 := (285, 1283, [some (z_r 67 0), some (z_r 0 0), some (z_r 33 0), some (z_i (Int32.ofNat i))], [z_i (Int32.ofNat i + (2 : Int32)), z_r 67 0, z_i (v (i + 1)), z_r 33 0, z_i y], (true, X1, I1, J1))) rfl ?_
  refine z_ev_sc (k := i + 2) rfl (z_oa i 2) hL1 (by omega) h3 hv1 ?_
  refine z_ev_ca rfl rfl c2 ?_
  refine z_ev_gs 1 (c1 := (285, (if y = y then 2063 else 1290), [some (z_r 67 0), some (z_r 0 0), some (z_r 33 0), some (z_i (Int32.ofNat i))], [], (true, X2, I2, J2))) rfl ?_
  rw [if_pos (rfl : y = y)]
  exact hr
theorem z_lw29 {X : z_X} {I : Nat → Nat → Nat → Int32} {J : Nat → Nat → Nat → Int64} {L i : Nat} {v : Nat → Int32} (hv : I 67 0 = v) (hL : I 67 1 0 = Int32.ofNat L) (hi : i + 6 ≤ L) (h3 : L ≤ 384) (hR : z_R X I J) : z_lwp 1292 i X I J := by
  obtain ⟨w1, X1, X2, I1, I2, J1, J2, c1, c2, hR2, b1, b2, b3⟩ := z_op_weight (v (i + 1)) (v (i + 2)) X I J hR
  have e67 : I1 67 = I 67 := z_ev_67 c1
  have hv1 : I1 67 0 = v := by rw [e67]; exact hv
  have hL1 : I1 67 1 0 = Int32.ofNat L := by rw [e67]; exact hL
  obtain ⟨y, rfl⟩ := z_ev_ti rfl c1
  refine ⟨X2, I2, J2, hR2, b1, b2, b3, fun r hr => ?_⟩
  refine z_ev_gs 5 (c1 := (285, 1297, [some (z_r 67 0), some (z_r 0 0), some (z_r 33 0), some (z_i (Int32.ofNat i))], [z_i (Int32.ofNat i + (1 : Int32)), z_r 67 0, z_r 0 0], (true, X, I, J))) rfl ?_
  refine z_ev_sc (k := i + 1) rfl (z_oa i 1) hL (by omega) h3 hv ?_
  refine z_ev_gs 4 (c1 := (285, 1302, [some (z_r 67 0), some (z_r 0 0), some (z_r 33 0), some (z_i (Int32.ofNat i))], [z_i (Int32.ofNat i + (2 : Int32)), z_r 67 0, z_i (v (i + 1)), z_r 0 0], (true, X, I, J))) rfl ?_
  refine z_ev_sc (k := i + 2) rfl (z_oa i 2) hL (by omega) h3 hv ?_
  refine z_ev_ca rfl rfl c1 ?_
  refine z_ev_gs 5 (c1 := (285, 1311, [some (z_r 67 0), some (z_r 0 0), some (z_r 33 0), some (z_i (Int32.ofNat i))], [z_i (Int32.ofNat i + (1 : Int32)), z_r 67 0, z_r 33 0, z_i y], (true, X1, I1, J1))) rfl ?_
  refine z_ev_sc (k := i + 1) rfl (z_oa i 1) hL1 (by omega) h3 hv1 ?_
  refine z_ev_gs 4 (c1 := (285, 1316, [some (z_r 67 0), some (z_r 0 0), some (z_r 33 0), some (z_i (Int32.ofNat i))], [z_i (Int32.ofNat i + (2 : Int32)), z_r 67 0, z_i (v (i + 1)), z_r 33 0, z_i y], (true, X1, I1, J1))) rfl ?_
  refine z_ev_sc (k := i + 2) rfl (z_oa i 2) hL1 (by omega) h3 hv1 ?_
  refine z_ev_ca rfl rfl c2 ?_
  refine z_ev_gs 1 (c1 := (285, (if y = y then 2063 else 1323), [some (z_r 67 0), some (z_r 0 0), some (z_r 33 0), some (z_i (Int32.ofNat i))], [], (true, X2, I2, J2))) rfl ?_
  rw [if_pos (rfl : y = y)]
  exact hr
theorem z_lw30 {X : z_X} {I : Nat → Nat → Nat → Int32} {J : Nat → Nat → Nat → Int64} {L i : Nat} {v : Nat → Int32} (hv : I 67 0 = v) (hL : I 67 1 0 = Int32.ofNat L) (hi : i + 6 ≤ L) (h3 : L ≤ 384) (hR : z_R X I J) : z_lwp 1325 i X I J := by
  obtain ⟨w1, X1, X2, I1, I2, J1, J2, c1, c2, hR2, b1, b2, b3⟩ := z_op_gives (v (i + 1)) (v (i + 2)) X I J hR
  have e67 : I1 67 = I 67 := z_ev_67 c1
  have hv1 : I1 67 0 = v := by rw [e67]; exact hv
  have hL1 : I1 67 1 0 = Int32.ofNat L := by rw [e67]; exact hL
  obtain ⟨y, rfl⟩ := z_ev_tj rfl c1
  refine ⟨X2, I2, J2, hR2, b1, b2, b3, fun r hr => ?_⟩
  refine z_ev_gs 5 (c1 := (285, 1330, [some (z_r 67 0), some (z_r 0 0), some (z_r 33 0), some (z_i (Int32.ofNat i))], [z_i (Int32.ofNat i + (1 : Int32)), z_r 67 0, z_r 0 0], (true, X, I, J))) rfl ?_
  refine z_ev_sc (k := i + 1) rfl (z_oa i 1) hL (by omega) h3 hv ?_
  refine z_ev_gs 4 (c1 := (285, 1335, [some (z_r 67 0), some (z_r 0 0), some (z_r 33 0), some (z_i (Int32.ofNat i))], [z_i (Int32.ofNat i + (2 : Int32)), z_r 67 0, z_i (v (i + 1)), z_r 0 0], (true, X, I, J))) rfl ?_
  refine z_ev_sc (k := i + 2) rfl (z_oa i 2) hL (by omega) h3 hv ?_
  refine z_ev_ca rfl rfl c1 ?_
  refine z_ev_gs 5 (c1 := (285, 1344, [some (z_r 67 0), some (z_r 0 0), some (z_r 33 0), some (z_i (Int32.ofNat i))], [z_i (Int32.ofNat i + (1 : Int32)), z_r 67 0, z_r 33 0, z_j y], (true, X1, I1, J1))) rfl ?_
  refine z_ev_sc (k := i + 1) rfl (z_oa i 1) hL1 (by omega) h3 hv1 ?_
  refine z_ev_gs 4 (c1 := (285, 1349, [some (z_r 67 0), some (z_r 0 0), some (z_r 33 0), some (z_i (Int32.ofNat i))], [z_i (Int32.ofNat i + (2 : Int32)), z_r 67 0, z_i (v (i + 1)), z_r 33 0, z_j y], (true, X1, I1, J1))) rfl ?_
  refine z_ev_sc (k := i + 2) rfl (z_oa i 2) hL1 (by omega) h3 hv1 ?_
  refine z_ev_ca rfl rfl c2 ?_
  refine z_ev_gs 1 (c1 := (285, 1354, [some (z_r 67 0), some (z_r 0 0), some (z_r 33 0), some (z_i (Int32.ofNat i))], [z_i (lg_cmp y y)], (true, X2, I2, J2))) rfl ?_
  refine z_ev_gs 1 (c1 := (285, (if lg_cmp y y = 0 then 2063 else 1357), [some (z_r 67 0), some (z_r 0 0), some (z_r 33 0), some (z_i (Int32.ofNat i))], [], (true, X2, I2, J2))) rfl ?_
  rw [if_pos (z_lc0.mpr rfl)]
  exact hr
theorem z_lw31 {X : z_X} {I : Nat → Nat → Nat → Int32} {J : Nat → Nat → Nat → Int64} {L i : Nat} {v : Nat → Int32} (hv : I 67 0 = v) (hL : I 67 1 0 = Int32.ofNat L) (hi : i + 6 ≤ L) (h3 : L ≤ 384) (hR : z_R X I J) : z_lwp 1359 i X I J := by
  obtain ⟨w1, X1, X2, I1, I2, J1, J2, c1, c2, hR2, b1, b2, b3⟩ := z_op_value (v (i + 1)) (v (i + 2)) (v (i + 3)) X I J hR
  have e67 : I1 67 = I 67 := z_ev_67 c1
  have hv1 : I1 67 0 = v := by rw [e67]; exact hv
  have hL1 : I1 67 1 0 = Int32.ofNat L := by rw [e67]; exact hL
  obtain ⟨y, rfl⟩ := z_ev_tj rfl c1
  refine ⟨X2, I2, J2, hR2, b1, b2, b3, fun r hr => ?_⟩
  refine z_ev_gs 5 (c1 := (285, 1364, [some (z_r 67 0), some (z_r 0 0), some (z_r 33 0), some (z_i (Int32.ofNat i))], [z_i (Int32.ofNat i + (1 : Int32)), z_r 67 0, z_r 0 0], (true, X, I, J))) rfl ?_
  refine z_ev_sc (k := i + 1) rfl (z_oa i 1) hL (by omega) h3 hv ?_
  refine z_ev_gs 4 (c1 := (285, 1369, [some (z_r 67 0), some (z_r 0 0), some (z_r 33 0), some (z_i (Int32.ofNat i))], [z_i (Int32.ofNat i + (2 : Int32)), z_r 67 0, z_i (v (i + 1)), z_r 0 0], (true, X, I, J))) rfl ?_
  refine z_ev_sc (k := i + 2) rfl (z_oa i 2) hL (by omega) h3 hv ?_
  refine z_ev_gs 4 (c1 := (285, 1374, [some (z_r 67 0), some (z_r 0 0), some (z_r 33 0), some (z_i (Int32.ofNat i))], [z_i (Int32.ofNat i + (3 : Int32)), z_r 67 0, z_i (v (i + 2)), z_i (v (i + 1)), z_r 0 0], (true, X, I, J))) rfl ?_
  refine z_ev_sc (k := i + 3) rfl (z_oa i 3) hL (by omega) h3 hv ?_
  refine z_ev_ca rfl rfl c1 ?_
  refine z_ev_gs 5 (c1 := (285, 1383, [some (z_r 67 0), some (z_r 0 0), some (z_r 33 0), some (z_i (Int32.ofNat i))], [z_i (Int32.ofNat i + (1 : Int32)), z_r 67 0, z_r 33 0, z_j y], (true, X1, I1, J1))) rfl ?_
  refine z_ev_sc (k := i + 1) rfl (z_oa i 1) hL1 (by omega) h3 hv1 ?_
  refine z_ev_gs 4 (c1 := (285, 1388, [some (z_r 67 0), some (z_r 0 0), some (z_r 33 0), some (z_i (Int32.ofNat i))], [z_i (Int32.ofNat i + (2 : Int32)), z_r 67 0, z_i (v (i + 1)), z_r 33 0, z_j y], (true, X1, I1, J1))) rfl ?_
  refine z_ev_sc (k := i + 2) rfl (z_oa i 2) hL1 (by omega) h3 hv1 ?_
  refine z_ev_gs 4 (c1 := (285, 1393, [some (z_r 67 0), some (z_r 0 0), some (z_r 33 0), some (z_i (Int32.ofNat i))], [z_i (Int32.ofNat i + (3 : Int32)), z_r 67 0, z_i (v (i + 2)), z_i (v (i + 1)), z_r 33 0, z_j y], (true, X1, I1, J1))) rfl ?_
  refine z_ev_sc (k := i + 3) rfl (z_oa i 3) hL1 (by omega) h3 hv1 ?_
  refine z_ev_ca rfl rfl c2 ?_
  refine z_ev_gs 1 (c1 := (285, 1398, [some (z_r 67 0), some (z_r 0 0), some (z_r 33 0), some (z_i (Int32.ofNat i))], [z_i (lg_cmp y y)], (true, X2, I2, J2))) rfl ?_
  refine z_ev_gs 1 (c1 := (285, (if lg_cmp y y = 0 then 2063 else 1401), [some (z_r 67 0), some (z_r 0 0), some (z_r 33 0), some (z_i (Int32.ofNat i))], [], (true, X2, I2, J2))) rfl ?_
  rw [if_pos (z_lc0.mpr rfl)]
  exact hr
theorem z_lw32 {X : z_X} {I : Nat → Nat → Nat → Int32} {J : Nat → Nat → Nat → Int64} {L i : Nat} {v : Nat → Int32} (hv : I 67 0 = v) (hL : I 67 1 0 = Int32.ofNat L) (hi : i + 6 ≤ L) (h3 : L ≤ 384) (hR : z_R X I J) : z_lwp 1403 i X I J := by
  obtain ⟨w1, X1, X2, I1, I2, J1, J2, c1, c2, hR2, b1, b2, b3⟩ := z_op_valueAt (v (i + 1)) (v (i + 2)) X I J hR
  have e67 : I1 67 = I 67 := z_ev_67 c1
  have hv1 : I1 67 0 = v := by rw [e67]; exact hv
  have hL1 : I1 67 1 0 = Int32.ofNat L := by rw [e67]; exact hL
  obtain ⟨y, rfl⟩ := z_ev_tj rfl c1
  refine ⟨X2, I2, J2, hR2, b1, b2, b3, fun r hr => ?_⟩
  refine z_ev_gs 5 (c1 := (285, 1408, [some (z_r 67 0), some (z_r 0 0), some (z_r 33 0), some (z_i (Int32.ofNat i))], [z_i (Int32.ofNat i + (1 : Int32)), z_r 67 0, z_r 0 0], (true, X, I, J))) rfl ?_
  refine z_ev_sc (k := i + 1) rfl (z_oa i 1) hL (by omega) h3 hv ?_
  refine z_ev_gs 4 (c1 := (285, 1413, [some (z_r 67 0), some (z_r 0 0), some (z_r 33 0), some (z_i (Int32.ofNat i))], [z_i (Int32.ofNat i + (2 : Int32)), z_r 67 0, z_i (v (i + 1)), z_r 0 0], (true, X, I, J))) rfl ?_
  refine z_ev_sc (k := i + 2) rfl (z_oa i 2) hL (by omega) h3 hv ?_
  refine z_ev_ca rfl rfl c1 ?_
  refine z_ev_gs 5 (c1 := (285, 1422, [some (z_r 67 0), some (z_r 0 0), some (z_r 33 0), some (z_i (Int32.ofNat i))], [z_i (Int32.ofNat i + (1 : Int32)), z_r 67 0, z_r 33 0, z_j y], (true, X1, I1, J1))) rfl ?_
  refine z_ev_sc (k := i + 1) rfl (z_oa i 1) hL1 (by omega) h3 hv1 ?_
  refine z_ev_gs 4 (c1 := (285, 1427, [some (z_r 67 0), some (z_r 0 0), some (z_r 33 0), some (z_i (Int32.ofNat i))], [z_i (Int32.ofNat i + (2 : Int32)), z_r 67 0, z_i (v (i + 1)), z_r 33 0, z_j y], (true, X1, I1, J1))) rfl ?_
  refine z_ev_sc (k := i + 2) rfl (z_oa i 2) hL1 (by omega) h3 hv1 ?_
  refine z_ev_ca rfl rfl c2 ?_
  refine z_ev_gs 1 (c1 := (285, 1432, [some (z_r 67 0), some (z_r 0 0), some (z_r 33 0), some (z_i (Int32.ofNat i))], [z_i (lg_cmp y y)], (true, X2, I2, J2))) rfl ?_
  refine z_ev_gs 1 (c1 := (285, (if lg_cmp y y = 0 then 2063 else 1435), [some (z_r 67 0), some (z_r 0 0), some (z_r 33 0), some (z_i (Int32.ofNat i))], [], (true, X2, I2, J2))) rfl ?_
  rw [if_pos (z_lc0.mpr rfl)]
  exact hr
theorem z_lw33 {X : z_X} {I : Nat → Nat → Nat → Int32} {J : Nat → Nat → Nat → Int64} {L i : Nat} {v : Nat → Int32} (hv : I 67 0 = v) (hL : I 67 1 0 = Int32.ofNat L) (hi : i + 6 ≤ L) (h3 : L ≤ 384) (hR : z_R X I J) : z_lwp 1437 i X I J := by
  obtain ⟨w1, X1, X2, I1, I2, J1, J2, c1, c2, hR2, b1, b2, b3⟩ := z_op_bound (v (i + 1)) (v (i + 2)) (v (i + 3)) X I J hR
  have e67 : I1 67 = I 67 := z_ev_67 c1
  have hv1 : I1 67 0 = v := by rw [e67]; exact hv
  have hL1 : I1 67 1 0 = Int32.ofNat L := by rw [e67]; exact hL
  obtain ⟨y, rfl⟩ := z_ev_tj rfl c1
  refine ⟨X2, I2, J2, hR2, b1, b2, b3, fun r hr => ?_⟩
  refine z_ev_gs 5 (c1 := (285, 1442, [some (z_r 67 0), some (z_r 0 0), some (z_r 33 0), some (z_i (Int32.ofNat i))], [z_i (Int32.ofNat i + (1 : Int32)), z_r 67 0, z_r 0 0], (true, X, I, J))) rfl ?_
  refine z_ev_sc (k := i + 1) rfl (z_oa i 1) hL (by omega) h3 hv ?_
  refine z_ev_gs 4 (c1 := (285, 1447, [some (z_r 67 0), some (z_r 0 0), some (z_r 33 0), some (z_i (Int32.ofNat i))], [z_i (Int32.ofNat i + (2 : Int32)), z_r 67 0, z_i (v (i + 1)), z_r 0 0], (true, X, I, J))) rfl ?_
  refine z_ev_sc (k := i + 2) rfl (z_oa i 2) hL (by omega) h3 hv ?_
  refine z_ev_gs 4 (c1 := (285, 1452, [some (z_r 67 0), some (z_r 0 0), some (z_r 33 0), some (z_i (Int32.ofNat i))], [z_i (Int32.ofNat i + (3 : Int32)), z_r 67 0, z_i (v (i + 2)), z_i (v (i + 1)), z_r 0 0], (true, X, I, J))) rfl ?_
  refine z_ev_sc (k := i + 3) rfl (z_oa i 3) hL (by omega) h3 hv ?_
  refine z_ev_ca rfl rfl c1 ?_
  refine z_ev_gs 5 (c1 := (285, 1461, [some (z_r 67 0), some (z_r 0 0), some (z_r 33 0), some (z_i (Int32.ofNat i))], [z_i (Int32.ofNat i + (1 : Int32)), z_r 67 0, z_r 33 0, z_j y], (true, X1, I1, J1))) rfl ?_
  refine z_ev_sc (k := i + 1) rfl (z_oa i 1) hL1 (by omega) h3 hv1 ?_
  refine z_ev_gs 4 (c1 := (285, 1466, [some (z_r 67 0), some (z_r 0 0), some (z_r 33 0), some (z_i (Int32.ofNat i))], [z_i (Int32.ofNat i + (2 : Int32)), z_r 67 0, z_i (v (i + 1)), z_r 33 0, z_j y], (true, X1, I1, J1))) rfl ?_
  refine z_ev_sc (k := i + 2) rfl (z_oa i 2) hL1 (by omega) h3 hv1 ?_
  refine z_ev_gs 4 (c1 := (285, 1471, [some (z_r 67 0), some (z_r 0 0), some (z_r 33 0), some (z_i (Int32.ofNat i))], [z_i (Int32.ofNat i + (3 : Int32)), z_r 67 0, z_i (v (i + 2)), z_i (v (i + 1)), z_r 33 0, z_j y], (true, X1, I1, J1))) rfl ?_
  refine z_ev_sc (k := i + 3) rfl (z_oa i 3) hL1 (by omega) h3 hv1 ?_
  refine z_ev_ca rfl rfl c2 ?_
  refine z_ev_gs 1 (c1 := (285, 1476, [some (z_r 67 0), some (z_r 0 0), some (z_r 33 0), some (z_i (Int32.ofNat i))], [z_i (lg_cmp y y)], (true, X2, I2, J2))) rfl ?_
  refine z_ev_gs 1 (c1 := (285, (if lg_cmp y y = 0 then 2063 else 1479), [some (z_r 67 0), some (z_r 0 0), some (z_r 33 0), some (z_i (Int32.ofNat i))], [], (true, X2, I2, J2))) rfl ?_
  rw [if_pos (z_lc0.mpr rfl)]
  exact hr
theorem z_lw34 {X : z_X} {I : Nat → Nat → Nat → Int32} {J : Nat → Nat → Nat → Int64} {L i : Nat} {v : Nat → Int32} (hv : I 67 0 = v) (hL : I 67 1 0 = Int32.ofNat L) (hi : i + 6 ≤ L) (h3 : L ≤ 384) (hR : z_R X I J) : z_lwp 1481 i X I J := by
  obtain ⟨w1, X1, X2, I1, I2, J1, J2, c1, c2, hR2, b1, b2, b3⟩ := z_op_slack (v (i + 1)) (v (i + 2)) (v (i + 3)) (v (i + 4)) X I J hR
  have e67 : I1 67 = I 67 := z_ev_67 c1
  have hv1 : I1 67 0 = v := by rw [e67]; exact hv
  have hL1 : I1 67 1 0 = Int32.ofNat L := by rw [e67]; exact hL
  obtain ⟨y, rfl⟩ := z_ev_tj rfl c1
  refine ⟨X2, I2, J2, hR2, b1, b2, b3, fun r hr => ?_⟩
  refine z_ev_gs 5 (c1 := (285, 1486, [some (z_r 67 0), some (z_r 0 0), some (z_r 33 0), some (z_i (Int32.ofNat i))], [z_i (Int32.ofNat i + (1 : Int32)), z_r 67 0, z_r 0 0], (true, X, I, J))) rfl ?_
  refine z_ev_sc (k := i + 1) rfl (z_oa i 1) hL (by omega) h3 hv ?_
  refine z_ev_gs 4 (c1 := (285, 1491, [some (z_r 67 0), some (z_r 0 0), some (z_r 33 0), some (z_i (Int32.ofNat i))], [z_i (Int32.ofNat i + (2 : Int32)), z_r 67 0, z_i (v (i + 1)), z_r 0 0], (true, X, I, J))) rfl ?_
  refine z_ev_sc (k := i + 2) rfl (z_oa i 2) hL (by omega) h3 hv ?_
  refine z_ev_gs 4 (c1 := (285, 1496, [some (z_r 67 0), some (z_r 0 0), some (z_r 33 0), some (z_i (Int32.ofNat i))], [z_i (Int32.ofNat i + (3 : Int32)), z_r 67 0, z_i (v (i + 2)), z_i (v (i + 1)), z_r 0 0], (true, X, I, J))) rfl ?_
  refine z_ev_sc (k := i + 3) rfl (z_oa i 3) hL (by omega) h3 hv ?_
  refine z_ev_gs 4 (c1 := (285, 1501, [some (z_r 67 0), some (z_r 0 0), some (z_r 33 0), some (z_i (Int32.ofNat i))], [z_i (Int32.ofNat i + (4 : Int32)), z_r 67 0, z_i (v (i + 3)), z_i (v (i + 2)), z_i (v (i + 1)), z_r 0 0], (true, X, I, J))) rfl ?_
  refine z_ev_sc (k := i + 4) rfl (z_oa i 4) hL (by omega) h3 hv ?_
  refine z_ev_ca rfl rfl c1 ?_
  refine z_ev_gs 5 (c1 := (285, 1510, [some (z_r 67 0), some (z_r 0 0), some (z_r 33 0), some (z_i (Int32.ofNat i))], [z_i (Int32.ofNat i + (1 : Int32)), z_r 67 0, z_r 33 0, z_j y], (true, X1, I1, J1))) rfl ?_
  refine z_ev_sc (k := i + 1) rfl (z_oa i 1) hL1 (by omega) h3 hv1 ?_
  refine z_ev_gs 4 (c1 := (285, 1515, [some (z_r 67 0), some (z_r 0 0), some (z_r 33 0), some (z_i (Int32.ofNat i))], [z_i (Int32.ofNat i + (2 : Int32)), z_r 67 0, z_i (v (i + 1)), z_r 33 0, z_j y], (true, X1, I1, J1))) rfl ?_
  refine z_ev_sc (k := i + 2) rfl (z_oa i 2) hL1 (by omega) h3 hv1 ?_
  refine z_ev_gs 4 (c1 := (285, 1520, [some (z_r 67 0), some (z_r 0 0), some (z_r 33 0), some (z_i (Int32.ofNat i))], [z_i (Int32.ofNat i + (3 : Int32)), z_r 67 0, z_i (v (i + 2)), z_i (v (i + 1)), z_r 33 0, z_j y], (true, X1, I1, J1))) rfl ?_
  refine z_ev_sc (k := i + 3) rfl (z_oa i 3) hL1 (by omega) h3 hv1 ?_
  refine z_ev_gs 4 (c1 := (285, 1525, [some (z_r 67 0), some (z_r 0 0), some (z_r 33 0), some (z_i (Int32.ofNat i))], [z_i (Int32.ofNat i + (4 : Int32)), z_r 67 0, z_i (v (i + 3)), z_i (v (i + 2)), z_i (v (i + 1)), z_r 33 0, z_j y], (true, X1, I1, J1))) rfl ?_
  refine z_ev_sc (k := i + 4) rfl (z_oa i 4) hL1 (by omega) h3 hv1 ?_
  refine z_ev_ca rfl rfl c2 ?_
  refine z_ev_gs 1 (c1 := (285, 1530, [some (z_r 67 0), some (z_r 0 0), some (z_r 33 0), some (z_i (Int32.ofNat i))], [z_i (lg_cmp y y)], (true, X2, I2, J2))) rfl ?_
  refine z_ev_gs 1 (c1 := (285, (if lg_cmp y y = 0 then 2063 else 1533), [some (z_r 67 0), some (z_r 0 0), some (z_r 33 0), some (z_i (Int32.ofNat i))], [], (true, X2, I2, J2))) rfl ?_
  rw [if_pos (z_lc0.mpr rfl)]
  exact hr
theorem z_lw35 {X : z_X} {I : Nat → Nat → Nat → Int32} {J : Nat → Nat → Nat → Int64} {L i : Nat} {v : Nat → Int32} (hv : I 67 0 = v) (hL : I 67 1 0 = Int32.ofNat L) (hi : i + 6 ≤ L) (h3 : L ≤ 384) (hR : z_R X I J) : z_lwp 1535 i X I J := by
  obtain ⟨w1, X1, X2, I1, I2, J1, J2, c1, c2, hR2, b1, b2, b3⟩ := z_op_tight (v (i + 1)) (v (i + 2)) X I J hR
  have e67 : I1 67 = I 67 := z_ev_67 c1
  have hv1 : I1 67 0 = v := by rw [e67]; exact hv
  have hL1 : I1 67 1 0 = Int32.ofNat L := by rw [e67]; exact hL
  obtain ⟨y, rfl⟩ := z_ev_ti rfl c1
  refine ⟨X2, I2, J2, hR2, b1, b2, b3, fun r hr => ?_⟩
  refine z_ev_gs 5 (c1 := (285, 1540, [some (z_r 67 0), some (z_r 0 0), some (z_r 33 0), some (z_i (Int32.ofNat i))], [z_i (Int32.ofNat i + (1 : Int32)), z_r 67 0, z_r 0 0], (true, X, I, J))) rfl ?_
  refine z_ev_sc (k := i + 1) rfl (z_oa i 1) hL (by omega) h3 hv ?_
  refine z_ev_gs 4 (c1 := (285, 1545, [some (z_r 67 0), some (z_r 0 0), some (z_r 33 0), some (z_i (Int32.ofNat i))], [z_i (Int32.ofNat i + (2 : Int32)), z_r 67 0, z_i (v (i + 1)), z_r 0 0], (true, X, I, J))) rfl ?_
  refine z_ev_sc (k := i + 2) rfl (z_oa i 2) hL (by omega) h3 hv ?_
  refine z_ev_ca rfl rfl c1 ?_
  refine z_ev_gs 5 (c1 := (285, 1554, [some (z_r 67 0), some (z_r 0 0), some (z_r 33 0), some (z_i (Int32.ofNat i))], [z_i (Int32.ofNat i + (1 : Int32)), z_r 67 0, z_r 33 0, z_i y], (true, X1, I1, J1))) rfl ?_
  refine z_ev_sc (k := i + 1) rfl (z_oa i 1) hL1 (by omega) h3 hv1 ?_
  refine z_ev_gs 4 (c1 := (285, 1559, [some (z_r 67 0), some (z_r 0 0), some (z_r 33 0), some (z_i (Int32.ofNat i))], [z_i (Int32.ofNat i + (2 : Int32)), z_r 67 0, z_i (v (i + 1)), z_r 33 0, z_i y], (true, X1, I1, J1))) rfl ?_
  refine z_ev_sc (k := i + 2) rfl (z_oa i 2) hL1 (by omega) h3 hv1 ?_
  refine z_ev_ca rfl rfl c2 ?_
  refine z_ev_gs 1 (c1 := (285, (if y = y then 2063 else 1566), [some (z_r 67 0), some (z_r 0 0), some (z_r 33 0), some (z_i (Int32.ofNat i))], [], (true, X2, I2, J2))) rfl ?_
  rw [if_pos (rfl : y = y)]
  exact hr
theorem z_lw36 {X : z_X} {I : Nat → Nat → Nat → Int32} {J : Nat → Nat → Nat → Int64} {L i : Nat} {v : Nat → Int32} (hv : I 67 0 = v) (hL : I 67 1 0 = Int32.ofNat L) (hi : i + 6 ≤ L) (h3 : L ≤ 384) (hR : z_R X I J) : z_lwp 1568 i X I J := by
  obtain ⟨w1, X1, X2, I1, I2, J1, J2, c1, c2, hR2, b1, b2, b3⟩ := z_op_met (v (i + 1)) (v (i + 2)) X I J hR
  have e67 : I1 67 = I 67 := z_ev_67 c1
  have hv1 : I1 67 0 = v := by rw [e67]; exact hv
  have hL1 : I1 67 1 0 = Int32.ofNat L := by rw [e67]; exact hL
  obtain ⟨y, rfl⟩ := z_ev_ti rfl c1
  refine ⟨X2, I2, J2, hR2, b1, b2, b3, fun r hr => ?_⟩
  refine z_ev_gs 5 (c1 := (285, 1573, [some (z_r 67 0), some (z_r 0 0), some (z_r 33 0), some (z_i (Int32.ofNat i))], [z_i (Int32.ofNat i + (1 : Int32)), z_r 67 0, z_r 0 0], (true, X, I, J))) rfl ?_
  refine z_ev_sc (k := i + 1) rfl (z_oa i 1) hL (by omega) h3 hv ?_
  refine z_ev_gs 4 (c1 := (285, 1578, [some (z_r 67 0), some (z_r 0 0), some (z_r 33 0), some (z_i (Int32.ofNat i))], [z_i (Int32.ofNat i + (2 : Int32)), z_r 67 0, z_i (v (i + 1)), z_r 0 0], (true, X, I, J))) rfl ?_
  refine z_ev_sc (k := i + 2) rfl (z_oa i 2) hL (by omega) h3 hv ?_
  refine z_ev_ca rfl rfl c1 ?_
  refine z_ev_gs 5 (c1 := (285, 1587, [some (z_r 67 0), some (z_r 0 0), some (z_r 33 0), some (z_i (Int32.ofNat i))], [z_i (Int32.ofNat i + (1 : Int32)), z_r 67 0, z_r 33 0, z_i y], (true, X1, I1, J1))) rfl ?_
  refine z_ev_sc (k := i + 1) rfl (z_oa i 1) hL1 (by omega) h3 hv1 ?_
  refine z_ev_gs 4 (c1 := (285, 1592, [some (z_r 67 0), some (z_r 0 0), some (z_r 33 0), some (z_i (Int32.ofNat i))], [z_i (Int32.ofNat i + (2 : Int32)), z_r 67 0, z_i (v (i + 1)), z_r 33 0, z_i y], (true, X1, I1, J1))) rfl ?_
  refine z_ev_sc (k := i + 2) rfl (z_oa i 2) hL1 (by omega) h3 hv1 ?_
  refine z_ev_ca rfl rfl c2 ?_
  refine z_ev_gs 1 (c1 := (285, (if y = y then 2063 else 1599), [some (z_r 67 0), some (z_r 0 0), some (z_r 33 0), some (z_i (Int32.ofNat i))], [], (true, X2, I2, J2))) rfl ?_
  rw [if_pos (rfl : y = y)]
  exact hr
theorem z_lw37 {X : z_X} {I : Nat → Nat → Nat → Int32} {J : Nat → Nat → Nat → Int64} {L i : Nat} {v : Nat → Int32} (hv : I 67 0 = v) (hL : I 67 1 0 = Int32.ofNat L) (hi : i + 6 ≤ L) (h3 : L ≤ 384) (hR : z_R X I J) : z_lwp 1601 i X I J := by
  obtain ⟨w1, X1, X2, I1, I2, J1, J2, c1, c2, hR2, b1, b2, b3⟩ := z_op_prove (v (i + 1)) (v (i + 2)) X I J hR
  have e67 : I1 67 = I 67 := z_ev_67 c1
  have hv1 : I1 67 0 = v := by rw [e67]; exact hv
  have hL1 : I1 67 1 0 = Int32.ofNat L := by rw [e67]; exact hL
  obtain ⟨y, rfl⟩ := z_ev_ti rfl c1
  refine ⟨X2, I2, J2, hR2, b1, b2, b3, fun r hr => ?_⟩
  refine z_ev_gs 5 (c1 := (285, 1606, [some (z_r 67 0), some (z_r 0 0), some (z_r 33 0), some (z_i (Int32.ofNat i))], [z_i (Int32.ofNat i + (1 : Int32)), z_r 67 0, z_r 0 0], (true, X, I, J))) rfl ?_
  refine z_ev_sc (k := i + 1) rfl (z_oa i 1) hL (by omega) h3 hv ?_
  refine z_ev_gs 4 (c1 := (285, 1611, [some (z_r 67 0), some (z_r 0 0), some (z_r 33 0), some (z_i (Int32.ofNat i))], [z_i (Int32.ofNat i + (2 : Int32)), z_r 67 0, z_i (v (i + 1)), z_r 0 0], (true, X, I, J))) rfl ?_
  refine z_ev_sc (k := i + 2) rfl (z_oa i 2) hL (by omega) h3 hv ?_
  refine z_ev_ca rfl rfl c1 ?_
  refine z_ev_gs 5 (c1 := (285, 1620, [some (z_r 67 0), some (z_r 0 0), some (z_r 33 0), some (z_i (Int32.ofNat i))], [z_i (Int32.ofNat i + (1 : Int32)), z_r 67 0, z_r 33 0, z_i y], (true, X1, I1, J1))) rfl ?_
  refine z_ev_sc (k := i + 1) rfl (z_oa i 1) hL1 (by omega) h3 hv1 ?_
  refine z_ev_gs 4 (c1 := (285, 1625, [some (z_r 67 0), some (z_r 0 0), some (z_r 33 0), some (z_i (Int32.ofNat i))], [z_i (Int32.ofNat i + (2 : Int32)), z_r 67 0, z_i (v (i + 1)), z_r 33 0, z_i y], (true, X1, I1, J1))) rfl ?_
  refine z_ev_sc (k := i + 2) rfl (z_oa i 2) hL1 (by omega) h3 hv1 ?_
  refine z_ev_ca rfl rfl c2 ?_
  refine z_ev_gs 1 (c1 := (285, (if y = y then 2063 else 1632), [some (z_r 67 0), some (z_r 0 0), some (z_r 33 0), some (z_i (Int32.ofNat i))], [], (true, X2, I2, J2))) rfl ?_
  rw [if_pos (rfl : y = y)]
  exact hr
theorem z_lw38 {X : z_X} {I : Nat → Nat → Nat → Int32} {J : Nat → Nat → Nat → Int64} {L i : Nat} {v : Nat → Int32} (hv : I 67 0 = v) (hL : I 67 1 0 = Int32.ofNat L) (hi : i + 6 ≤ L) (h3 : L ≤ 384) (hR : z_R X I J) : z_lwp 1634 i X I J := by
  obtain ⟨w1, X1, X2, I1, I2, J1, J2, c1, c2, hR2, b1, b2, b3⟩ := z_op_row (v (i + 1)) (v (i + 2)) X I J hR
  have e67 : I1 67 = I 67 := z_ev_67 c1
  have hv1 : I1 67 0 = v := by rw [e67]; exact hv
  have hL1 : I1 67 1 0 = Int32.ofNat L := by rw [e67]; exact hL
  obtain ⟨y, rfl⟩ := z_ev_ti rfl c1
  refine ⟨X2, I2, J2, hR2, b1, b2, b3, fun r hr => ?_⟩
  refine z_ev_gs 5 (c1 := (285, 1639, [some (z_r 67 0), some (z_r 0 0), some (z_r 33 0), some (z_i (Int32.ofNat i))], [z_i (Int32.ofNat i + (1 : Int32)), z_r 67 0, z_r 0 0], (true, X, I, J))) rfl ?_
  refine z_ev_sc (k := i + 1) rfl (z_oa i 1) hL (by omega) h3 hv ?_
  refine z_ev_gs 4 (c1 := (285, 1644, [some (z_r 67 0), some (z_r 0 0), some (z_r 33 0), some (z_i (Int32.ofNat i))], [z_i (Int32.ofNat i + (2 : Int32)), z_r 67 0, z_i (v (i + 1)), z_r 0 0], (true, X, I, J))) rfl ?_
  refine z_ev_sc (k := i + 2) rfl (z_oa i 2) hL (by omega) h3 hv ?_
  refine z_ev_ca rfl rfl c1 ?_
  refine z_ev_gs 5 (c1 := (285, 1653, [some (z_r 67 0), some (z_r 0 0), some (z_r 33 0), some (z_i (Int32.ofNat i))], [z_i (Int32.ofNat i + (1 : Int32)), z_r 67 0, z_r 33 0, z_i y], (true, X1, I1, J1))) rfl ?_
  refine z_ev_sc (k := i + 1) rfl (z_oa i 1) hL1 (by omega) h3 hv1 ?_
  refine z_ev_gs 4 (c1 := (285, 1658, [some (z_r 67 0), some (z_r 0 0), some (z_r 33 0), some (z_i (Int32.ofNat i))], [z_i (Int32.ofNat i + (2 : Int32)), z_r 67 0, z_i (v (i + 1)), z_r 33 0, z_i y], (true, X1, I1, J1))) rfl ?_
  refine z_ev_sc (k := i + 2) rfl (z_oa i 2) hL1 (by omega) h3 hv1 ?_
  refine z_ev_ca rfl rfl c2 ?_
  refine z_ev_gs 1 (c1 := (285, (if y = y then 2063 else 1665), [some (z_r 67 0), some (z_r 0 0), some (z_r 33 0), some (z_i (Int32.ofNat i))], [], (true, X2, I2, J2))) rfl ?_
  rw [if_pos (rfl : y = y)]
  exact hr
theorem z_lw39 {X : z_X} {I : Nat → Nat → Nat → Int32} {J : Nat → Nat → Nat → Int64} {L i : Nat} {v : Nat → Int32} (hv : I 67 0 = v) (hL : I 67 1 0 = Int32.ofNat L) (hi : i + 6 ≤ L) (h3 : L ≤ 384) (hR : z_R X I J) : z_lwp 1667 i X I J := by
  obtain ⟨w1, X1, X2, I1, I2, J1, J2, c1, c2, hR2, b1, b2, b3⟩ := z_op_alterRow (v (i + 1)) (v (i + 2)) (v (i + 3)) X I J hR
  have e67 : I1 67 = I 67 := z_ev_67 c1
  have hv1 : I1 67 0 = v := by rw [e67]; exact hv
  have hL1 : I1 67 1 0 = Int32.ofNat L := by rw [e67]; exact hL
  obtain ⟨y, rfl⟩ := z_ev_ti rfl c1
  refine ⟨X2, I2, J2, hR2, b1, b2, b3, fun r hr => ?_⟩
  refine z_ev_gs 5 (c1 := (285, 1672, [some (z_r 67 0), some (z_r 0 0), some (z_r 33 0), some (z_i (Int32.ofNat i))], [z_i (Int32.ofNat i + (1 : Int32)), z_r 67 0, z_r 0 0], (true, X, I, J))) rfl ?_
  refine z_ev_sc (k := i + 1) rfl (z_oa i 1) hL (by omega) h3 hv ?_
  refine z_ev_gs 4 (c1 := (285, 1677, [some (z_r 67 0), some (z_r 0 0), some (z_r 33 0), some (z_i (Int32.ofNat i))], [z_i (Int32.ofNat i + (2 : Int32)), z_r 67 0, z_i (v (i + 1)), z_r 0 0], (true, X, I, J))) rfl ?_
  refine z_ev_sc (k := i + 2) rfl (z_oa i 2) hL (by omega) h3 hv ?_
  refine z_ev_gs 4 (c1 := (285, 1682, [some (z_r 67 0), some (z_r 0 0), some (z_r 33 0), some (z_i (Int32.ofNat i))], [z_i (Int32.ofNat i + (3 : Int32)), z_r 67 0, z_i (v (i + 2)), z_i (v (i + 1)), z_r 0 0], (true, X, I, J))) rfl ?_
  refine z_ev_sc (k := i + 3) rfl (z_oa i 3) hL (by omega) h3 hv ?_
  refine z_ev_ca rfl rfl c1 ?_
  refine z_ev_gs 5 (c1 := (285, 1691, [some (z_r 67 0), some (z_r 0 0), some (z_r 33 0), some (z_i (Int32.ofNat i))], [z_i (Int32.ofNat i + (1 : Int32)), z_r 67 0, z_r 33 0, z_i y], (true, X1, I1, J1))) rfl ?_
  refine z_ev_sc (k := i + 1) rfl (z_oa i 1) hL1 (by omega) h3 hv1 ?_
  refine z_ev_gs 4 (c1 := (285, 1696, [some (z_r 67 0), some (z_r 0 0), some (z_r 33 0), some (z_i (Int32.ofNat i))], [z_i (Int32.ofNat i + (2 : Int32)), z_r 67 0, z_i (v (i + 1)), z_r 33 0, z_i y], (true, X1, I1, J1))) rfl ?_
  refine z_ev_sc (k := i + 2) rfl (z_oa i 2) hL1 (by omega) h3 hv1 ?_
  refine z_ev_gs 4 (c1 := (285, 1701, [some (z_r 67 0), some (z_r 0 0), some (z_r 33 0), some (z_i (Int32.ofNat i))], [z_i (Int32.ofNat i + (3 : Int32)), z_r 67 0, z_i (v (i + 2)), z_i (v (i + 1)), z_r 33 0, z_i y], (true, X1, I1, J1))) rfl ?_
  refine z_ev_sc (k := i + 3) rfl (z_oa i 3) hL1 (by omega) h3 hv1 ?_
  refine z_ev_ca rfl rfl c2 ?_
  refine z_ev_gs 1 (c1 := (285, (if y = y then 2063 else 1708), [some (z_r 67 0), some (z_r 0 0), some (z_r 33 0), some (z_i (Int32.ofNat i))], [], (true, X2, I2, J2))) rfl ?_
  rw [if_pos (rfl : y = y)]
  exact hr
theorem z_lw40 {X : z_X} {I : Nat → Nat → Nat → Int32} {J : Nat → Nat → Nat → Int64} {L i : Nat} {v : Nat → Int32} (hv : I 67 0 = v) (hL : I 67 1 0 = Int32.ofNat L) (hi : i + 6 ≤ L) (h3 : L ≤ 384) (hR : z_R X I J) : z_lwp 1710 i X I J := by
  obtain ⟨w1, X1, X2, I1, I2, J1, J2, c1, c2, hR2, b1, b2, b3⟩ := z_op_judge (v (i + 1)) (v (i + 2)) X I J hR
  have e67 : I1 67 = I 67 := z_ev_67 c1
  have hv1 : I1 67 0 = v := by rw [e67]; exact hv
  have hL1 : I1 67 1 0 = Int32.ofNat L := by rw [e67]; exact hL
  obtain ⟨y, rfl⟩ := z_ev_ti rfl c1
  refine ⟨X2, I2, J2, hR2, b1, b2, b3, fun r hr => ?_⟩
  refine z_ev_gs 5 (c1 := (285, 1715, [some (z_r 67 0), some (z_r 0 0), some (z_r 33 0), some (z_i (Int32.ofNat i))], [z_i (Int32.ofNat i + (1 : Int32)), z_r 67 0, z_r 0 0], (true, X, I, J))) rfl ?_
  refine z_ev_sc (k := i + 1) rfl (z_oa i 1) hL (by omega) h3 hv ?_
  refine z_ev_gs 4 (c1 := (285, 1720, [some (z_r 67 0), some (z_r 0 0), some (z_r 33 0), some (z_i (Int32.ofNat i))], [z_i (Int32.ofNat i + (2 : Int32)), z_r 67 0, z_i (v (i + 1)), z_r 0 0], (true, X, I, J))) rfl ?_
  refine z_ev_sc (k := i + 2) rfl (z_oa i 2) hL (by omega) h3 hv ?_
  refine z_ev_ca rfl rfl c1 ?_
  refine z_ev_gs 5 (c1 := (285, 1729, [some (z_r 67 0), some (z_r 0 0), some (z_r 33 0), some (z_i (Int32.ofNat i))], [z_i (Int32.ofNat i + (1 : Int32)), z_r 67 0, z_r 33 0, z_i y], (true, X1, I1, J1))) rfl ?_
  refine z_ev_sc (k := i + 1) rfl (z_oa i 1) hL1 (by omega) h3 hv1 ?_
  refine z_ev_gs 4 (c1 := (285, 1734, [some (z_r 67 0), some (z_r 0 0), some (z_r 33 0), some (z_i (Int32.ofNat i))], [z_i (Int32.ofNat i + (2 : Int32)), z_r 67 0, z_i (v (i + 1)), z_r 33 0, z_i y], (true, X1, I1, J1))) rfl ?_
  refine z_ev_sc (k := i + 2) rfl (z_oa i 2) hL1 (by omega) h3 hv1 ?_
  refine z_ev_ca rfl rfl c2 ?_
  refine z_ev_gs 1 (c1 := (285, (if y = y then 2063 else 1741), [some (z_r 67 0), some (z_r 0 0), some (z_r 33 0), some (z_i (Int32.ofNat i))], [], (true, X2, I2, J2))) rfl ?_
  rw [if_pos (rfl : y = y)]
  exact hr
theorem z_lw41 {X : z_X} {I : Nat → Nat → Nat → Int32} {J : Nat → Nat → Nat → Int64} {L i : Nat} {v : Nat → Int32} (hv : I 67 0 = v) (hL : I 67 1 0 = Int32.ofNat L) (hi : i + 6 ≤ L) (h3 : L ≤ 384) (hR : z_R X I J) : z_lwp 1743 i X I J := by
  obtain ⟨w1, X1, X2, I1, I2, J1, J2, c1, c2, hR2, b1, b2, b3⟩ := z_op_sheet (v (i + 1)) (v (i + 2)) (v (i + 3)) X I J hR
  have e67 : I1 67 = I 67 := z_ev_67 c1
  have hv1 : I1 67 0 = v := by rw [e67]; exact hv
  have hL1 : I1 67 1 0 = Int32.ofNat L := by rw [e67]; exact hL
  obtain ⟨y, rfl⟩ := z_ev_ti rfl c1
  refine ⟨X2, I2, J2, hR2, b1, b2, b3, fun r hr => ?_⟩
  refine z_ev_gs 5 (c1 := (285, 1748, [some (z_r 67 0), some (z_r 0 0), some (z_r 33 0), some (z_i (Int32.ofNat i))], [z_i (Int32.ofNat i + (1 : Int32)), z_r 67 0, z_r 0 0], (true, X, I, J))) rfl ?_
  refine z_ev_sc (k := i + 1) rfl (z_oa i 1) hL (by omega) h3 hv ?_
  refine z_ev_gs 4 (c1 := (285, 1753, [some (z_r 67 0), some (z_r 0 0), some (z_r 33 0), some (z_i (Int32.ofNat i))], [z_i (Int32.ofNat i + (2 : Int32)), z_r 67 0, z_i (v (i + 1)), z_r 0 0], (true, X, I, J))) rfl ?_
  refine z_ev_sc (k := i + 2) rfl (z_oa i 2) hL (by omega) h3 hv ?_
  refine z_ev_gs 4 (c1 := (285, 1758, [some (z_r 67 0), some (z_r 0 0), some (z_r 33 0), some (z_i (Int32.ofNat i))], [z_i (Int32.ofNat i + (3 : Int32)), z_r 67 0, z_i (v (i + 2)), z_i (v (i + 1)), z_r 0 0], (true, X, I, J))) rfl ?_
  refine z_ev_sc (k := i + 3) rfl (z_oa i 3) hL (by omega) h3 hv ?_
  refine z_ev_ca rfl rfl c1 ?_
  refine z_ev_gs 5 (c1 := (285, 1767, [some (z_r 67 0), some (z_r 0 0), some (z_r 33 0), some (z_i (Int32.ofNat i))], [z_i (Int32.ofNat i + (1 : Int32)), z_r 67 0, z_r 33 0, z_i y], (true, X1, I1, J1))) rfl ?_
  refine z_ev_sc (k := i + 1) rfl (z_oa i 1) hL1 (by omega) h3 hv1 ?_
  refine z_ev_gs 4 (c1 := (285, 1772, [some (z_r 67 0), some (z_r 0 0), some (z_r 33 0), some (z_i (Int32.ofNat i))], [z_i (Int32.ofNat i + (2 : Int32)), z_r 67 0, z_i (v (i + 1)), z_r 33 0, z_i y], (true, X1, I1, J1))) rfl ?_
  refine z_ev_sc (k := i + 2) rfl (z_oa i 2) hL1 (by omega) h3 hv1 ?_
  refine z_ev_gs 4 (c1 := (285, 1777, [some (z_r 67 0), some (z_r 0 0), some (z_r 33 0), some (z_i (Int32.ofNat i))], [z_i (Int32.ofNat i + (3 : Int32)), z_r 67 0, z_i (v (i + 2)), z_i (v (i + 1)), z_r 33 0, z_i y], (true, X1, I1, J1))) rfl ?_
  refine z_ev_sc (k := i + 3) rfl (z_oa i 3) hL1 (by omega) h3 hv1 ?_
  refine z_ev_ca rfl rfl c2 ?_
  refine z_ev_gs 1 (c1 := (285, (if y = y then 2063 else 1784), [some (z_r 67 0), some (z_r 0 0), some (z_r 33 0), some (z_i (Int32.ofNat i))], [], (true, X2, I2, J2))) rfl ?_
  rw [if_pos (rfl : y = y)]
  exact hr
theorem z_lw42 {X : z_X} {I : Nat → Nat → Nat → Int32} {J : Nat → Nat → Nat → Int64} {L i : Nat} {v : Nat → Int32} (hv : I 67 0 = v) (hL : I 67 1 0 = Int32.ofNat L) (hi : i + 6 ≤ L) (h3 : L ≤ 384) (hR : z_R X I J) : z_lwp 1786 i X I J := by
  obtain ⟨w1, X1, X2, I1, I2, J1, J2, c1, c2, hR2, b1, b2, b3⟩ := z_op_put (v (i + 1)) (v (i + 2)) (v (i + 3)) X I J hR
  have e67 : I1 67 = I 67 := z_ev_67 c1
  have hv1 : I1 67 0 = v := by rw [e67]; exact hv
  have hL1 : I1 67 1 0 = Int32.ofNat L := by rw [e67]; exact hL
  obtain ⟨y, rfl⟩ := z_ev_ti rfl c1
  refine ⟨X2, I2, J2, hR2, b1, b2, b3, fun r hr => ?_⟩
  refine z_ev_gs 5 (c1 := (285, 1791, [some (z_r 67 0), some (z_r 0 0), some (z_r 33 0), some (z_i (Int32.ofNat i))], [z_i (Int32.ofNat i + (1 : Int32)), z_r 67 0, z_r 0 0], (true, X, I, J))) rfl ?_
  refine z_ev_sc (k := i + 1) rfl (z_oa i 1) hL (by omega) h3 hv ?_
  refine z_ev_gs 4 (c1 := (285, 1796, [some (z_r 67 0), some (z_r 0 0), some (z_r 33 0), some (z_i (Int32.ofNat i))], [z_i (Int32.ofNat i + (2 : Int32)), z_r 67 0, z_i (v (i + 1)), z_r 0 0], (true, X, I, J))) rfl ?_
  refine z_ev_sc (k := i + 2) rfl (z_oa i 2) hL (by omega) h3 hv ?_
  refine z_ev_gs 4 (c1 := (285, 1801, [some (z_r 67 0), some (z_r 0 0), some (z_r 33 0), some (z_i (Int32.ofNat i))], [z_i (Int32.ofNat i + (3 : Int32)), z_r 67 0, z_i (v (i + 2)), z_i (v (i + 1)), z_r 0 0], (true, X, I, J))) rfl ?_
  refine z_ev_sc (k := i + 3) rfl (z_oa i 3) hL (by omega) h3 hv ?_
  refine z_ev_ca rfl rfl c1 ?_
  refine z_ev_gs 5 (c1 := (285, 1810, [some (z_r 67 0), some (z_r 0 0), some (z_r 33 0), some (z_i (Int32.ofNat i))], [z_i (Int32.ofNat i + (1 : Int32)), z_r 67 0, z_r 33 0, z_i y], (true, X1, I1, J1))) rfl ?_
  refine z_ev_sc (k := i + 1) rfl (z_oa i 1) hL1 (by omega) h3 hv1 ?_
  refine z_ev_gs 4 (c1 := (285, 1815, [some (z_r 67 0), some (z_r 0 0), some (z_r 33 0), some (z_i (Int32.ofNat i))], [z_i (Int32.ofNat i + (2 : Int32)), z_r 67 0, z_i (v (i + 1)), z_r 33 0, z_i y], (true, X1, I1, J1))) rfl ?_
  refine z_ev_sc (k := i + 2) rfl (z_oa i 2) hL1 (by omega) h3 hv1 ?_
  refine z_ev_gs 4 (c1 := (285, 1820, [some (z_r 67 0), some (z_r 0 0), some (z_r 33 0), some (z_i (Int32.ofNat i))], [z_i (Int32.ofNat i + (3 : Int32)), z_r 67 0, z_i (v (i + 2)), z_i (v (i + 1)), z_r 33 0, z_i y], (true, X1, I1, J1))) rfl ?_
  refine z_ev_sc (k := i + 3) rfl (z_oa i 3) hL1 (by omega) h3 hv1 ?_
  refine z_ev_ca rfl rfl c2 ?_
  refine z_ev_gs 1 (c1 := (285, (if y = y then 2063 else 1827), [some (z_r 67 0), some (z_r 0 0), some (z_r 33 0), some (z_i (Int32.ofNat i))], [], (true, X2, I2, J2))) rfl ?_
  rw [if_pos (rfl : y = y)]
  exact hr
theorem z_lw43 {X : z_X} {I : Nat → Nat → Nat → Int32} {J : Nat → Nat → Nat → Int64} {L i : Nat} {v : Nat → Int32} (hv : I 67 0 = v) (hL : I 67 1 0 = Int32.ofNat L) (hi : i + 6 ≤ L) (h3 : L ≤ 384) (hR : z_R X I J) : z_lwp 1829 i X I J := by
  obtain ⟨w1, X1, X2, I1, I2, J1, J2, c1, c2, hR2, b1, b2, b3⟩ := z_op_item (v (i + 1)) (v (i + 2)) (v (i + 3)) X I J hR
  have e67 : I1 67 = I 67 := z_ev_67 c1
  have hv1 : I1 67 0 = v := by rw [e67]; exact hv
  have hL1 : I1 67 1 0 = Int32.ofNat L := by rw [e67]; exact hL
  obtain ⟨y, rfl⟩ := z_ev_ti rfl c1
  refine ⟨X2, I2, J2, hR2, b1, b2, b3, fun r hr => ?_⟩
  refine z_ev_gs 5 (c1 := (285, 1834, [some (z_r 67 0), some (z_r 0 0), some (z_r 33 0), some (z_i (Int32.ofNat i))], [z_i (Int32.ofNat i + (1 : Int32)), z_r 67 0, z_r 0 0], (true, X, I, J))) rfl ?_
  refine z_ev_sc (k := i + 1) rfl (z_oa i 1) hL (by omega) h3 hv ?_
  refine z_ev_gs 4 (c1 := (285, 1839, [some (z_r 67 0), some (z_r 0 0), some (z_r 33 0), some (z_i (Int32.ofNat i))], [z_i (Int32.ofNat i + (2 : Int32)), z_r 67 0, z_i (v (i + 1)), z_r 0 0], (true, X, I, J))) rfl ?_
  refine z_ev_sc (k := i + 2) rfl (z_oa i 2) hL (by omega) h3 hv ?_
  refine z_ev_gs 4 (c1 := (285, 1844, [some (z_r 67 0), some (z_r 0 0), some (z_r 33 0), some (z_i (Int32.ofNat i))], [z_i (Int32.ofNat i + (3 : Int32)), z_r 67 0, z_i (v (i + 2)), z_i (v (i + 1)), z_r 0 0], (true, X, I, J))) rfl ?_
  refine z_ev_sc (k := i + 3) rfl (z_oa i 3) hL (by omega) h3 hv ?_
  refine z_ev_ca rfl rfl c1 ?_
  refine z_ev_gs 5 (c1 := (285, 1853, [some (z_r 67 0), some (z_r 0 0), some (z_r 33 0), some (z_i (Int32.ofNat i))], [z_i (Int32.ofNat i + (1 : Int32)), z_r 67 0, z_r 33 0, z_i y], (true, X1, I1, J1))) rfl ?_
  refine z_ev_sc (k := i + 1) rfl (z_oa i 1) hL1 (by omega) h3 hv1 ?_
  refine z_ev_gs 4 (c1 := (285, 1858, [some (z_r 67 0), some (z_r 0 0), some (z_r 33 0), some (z_i (Int32.ofNat i))], [z_i (Int32.ofNat i + (2 : Int32)), z_r 67 0, z_i (v (i + 1)), z_r 33 0, z_i y], (true, X1, I1, J1))) rfl ?_
  refine z_ev_sc (k := i + 2) rfl (z_oa i 2) hL1 (by omega) h3 hv1 ?_
  refine z_ev_gs 4 (c1 := (285, 1863, [some (z_r 67 0), some (z_r 0 0), some (z_r 33 0), some (z_i (Int32.ofNat i))], [z_i (Int32.ofNat i + (3 : Int32)), z_r 67 0, z_i (v (i + 2)), z_i (v (i + 1)), z_r 33 0, z_i y], (true, X1, I1, J1))) rfl ?_
  refine z_ev_sc (k := i + 3) rfl (z_oa i 3) hL1 (by omega) h3 hv1 ?_
  refine z_ev_ca rfl rfl c2 ?_
  refine z_ev_gs 1 (c1 := (285, (if y = y then 2063 else 1870), [some (z_r 67 0), some (z_r 0 0), some (z_r 33 0), some (z_i (Int32.ofNat i))], [], (true, X2, I2, J2))) rfl ?_
  rw [if_pos (rfl : y = y)]
  exact hr
theorem z_lw44 {X : z_X} {I : Nat → Nat → Nat → Int32} {J : Nat → Nat → Nat → Int64} {L i : Nat} {v : Nat → Int32} (hv : I 67 0 = v) (hL : I 67 1 0 = Int32.ofNat L) (hi : i + 6 ≤ L) (h3 : L ≤ 384) (hR : z_R X I J) : z_lwp 1872 i X I J := by
  obtain ⟨w1, X1, X2, I1, I2, J1, J2, c1, c2, hR2, b1, b2, b3⟩ := z_op_shelf (v (i + 1)) (v (i + 2)) (v (i + 3)) X I J hR
  have e67 : I1 67 = I 67 := z_ev_67 c1
  have hv1 : I1 67 0 = v := by rw [e67]; exact hv
  have hL1 : I1 67 1 0 = Int32.ofNat L := by rw [e67]; exact hL
  obtain ⟨y, rfl⟩ := z_ev_ti rfl c1
  refine ⟨X2, I2, J2, hR2, b1, b2, b3, fun r hr => ?_⟩
  refine z_ev_gs 5 (c1 := (285, 1877, [some (z_r 67 0), some (z_r 0 0), some (z_r 33 0), some (z_i (Int32.ofNat i))], [z_i (Int32.ofNat i + (1 : Int32)), z_r 67 0, z_r 0 0], (true, X, I, J))) rfl ?_
  refine z_ev_sc (k := i + 1) rfl (z_oa i 1) hL (by omega) h3 hv ?_
  refine z_ev_gs 4 (c1 := (285, 1882, [some (z_r 67 0), some (z_r 0 0), some (z_r 33 0), some (z_i (Int32.ofNat i))], [z_i (Int32.ofNat i + (2 : Int32)), z_r 67 0, z_i (v (i + 1)), z_r 0 0], (true, X, I, J))) rfl ?_
  refine z_ev_sc (k := i + 2) rfl (z_oa i 2) hL (by omega) h3 hv ?_
  refine z_ev_gs 4 (c1 := (285, 1887, [some (z_r 67 0), some (z_r 0 0), some (z_r 33 0), some (z_i (Int32.ofNat i))], [z_i (Int32.ofNat i + (3 : Int32)), z_r 67 0, z_i (v (i + 2)), z_i (v (i + 1)), z_r 0 0], (true, X, I, J))) rfl ?_
  refine z_ev_sc (k := i + 3) rfl (z_oa i 3) hL (by omega) h3 hv ?_
  refine z_ev_ca rfl rfl c1 ?_
  refine z_ev_gs 5 (c1 := (285, 1896, [some (z_r 67 0), some (z_r 0 0), some (z_r 33 0), some (z_i (Int32.ofNat i))], [z_i (Int32.ofNat i + (1 : Int32)), z_r 67 0, z_r 33 0, z_i y], (true, X1, I1, J1))) rfl ?_
  refine z_ev_sc (k := i + 1) rfl (z_oa i 1) hL1 (by omega) h3 hv1 ?_
  refine z_ev_gs 4 (c1 := (285, 1901, [some (z_r 67 0), some (z_r 0 0), some (z_r 33 0), some (z_i (Int32.ofNat i))], [z_i (Int32.ofNat i + (2 : Int32)), z_r 67 0, z_i (v (i + 1)), z_r 33 0, z_i y], (true, X1, I1, J1))) rfl ?_
  refine z_ev_sc (k := i + 2) rfl (z_oa i 2) hL1 (by omega) h3 hv1 ?_
  refine z_ev_gs 4 (c1 := (285, 1906, [some (z_r 67 0), some (z_r 0 0), some (z_r 33 0), some (z_i (Int32.ofNat i))], [z_i (Int32.ofNat i + (3 : Int32)), z_r 67 0, z_i (v (i + 2)), z_i (v (i + 1)), z_r 33 0, z_i y], (true, X1, I1, J1))) rfl ?_
  refine z_ev_sc (k := i + 3) rfl (z_oa i 3) hL1 (by omega) h3 hv1 ?_
  refine z_ev_ca rfl rfl c2 ?_
  refine z_ev_gs 1 (c1 := (285, (if y = y then 2063 else 1913), [some (z_r 67 0), some (z_r 0 0), some (z_r 33 0), some (z_i (Int32.ofNat i))], [], (true, X2, I2, J2))) rfl ?_
  rw [if_pos (rfl : y = y)]
  exact hr
theorem z_lw45 {X : z_X} {I : Nat → Nat → Nat → Int32} {J : Nat → Nat → Nat → Int64} {L i : Nat} {v : Nat → Int32} (hv : I 67 0 = v) (hL : I 67 1 0 = Int32.ofNat L) (hi : i + 6 ≤ L) (h3 : L ≤ 384) (hR : z_R X I J) : z_lwp 1915 i X I J := by
  obtain ⟨w1, X1, X2, I1, I2, J1, J2, c1, c2, hR2, b1, b2, b3⟩ := z_op_taken (v (i + 1)) (v (i + 2)) X I J hR
  have e67 : I1 67 = I 67 := z_ev_67 c1
  have hv1 : I1 67 0 = v := by rw [e67]; exact hv
  have hL1 : I1 67 1 0 = Int32.ofNat L := by rw [e67]; exact hL
  obtain ⟨y, rfl⟩ := z_ev_ti rfl c1
  refine ⟨X2, I2, J2, hR2, b1, b2, b3, fun r hr => ?_⟩
  refine z_ev_gs 5 (c1 := (285, 1920, [some (z_r 67 0), some (z_r 0 0), some (z_r 33 0), some (z_i (Int32.ofNat i))], [z_i (Int32.ofNat i + (1 : Int32)), z_r 67 0, z_r 0 0], (true, X, I, J))) rfl ?_
  refine z_ev_sc (k := i + 1) rfl (z_oa i 1) hL (by omega) h3 hv ?_
  refine z_ev_gs 4 (c1 := (285, 1925, [some (z_r 67 0), some (z_r 0 0), some (z_r 33 0), some (z_i (Int32.ofNat i))], [z_i (Int32.ofNat i + (2 : Int32)), z_r 67 0, z_i (v (i + 1)), z_r 0 0], (true, X, I, J))) rfl ?_
  refine z_ev_sc (k := i + 2) rfl (z_oa i 2) hL (by omega) h3 hv ?_
  refine z_ev_ca rfl rfl c1 ?_
  refine z_ev_gs 5 (c1 := (285, 1934, [some (z_r 67 0), some (z_r 0 0), some (z_r 33 0), some (z_i (Int32.ofNat i))], [z_i (Int32.ofNat i + (1 : Int32)), z_r 67 0, z_r 33 0, z_i y], (true, X1, I1, J1))) rfl ?_
  refine z_ev_sc (k := i + 1) rfl (z_oa i 1) hL1 (by omega) h3 hv1 ?_
  refine z_ev_gs 4 (c1 := (285, 1939, [some (z_r 67 0), some (z_r 0 0), some (z_r 33 0), some (z_i (Int32.ofNat i))], [z_i (Int32.ofNat i + (2 : Int32)), z_r 67 0, z_i (v (i + 1)), z_r 33 0, z_i y], (true, X1, I1, J1))) rfl ?_
  refine z_ev_sc (k := i + 2) rfl (z_oa i 2) hL1 (by omega) h3 hv1 ?_
  refine z_ev_ca rfl rfl c2 ?_
  refine z_ev_gs 1 (c1 := (285, (if y = y then 2063 else 1946), [some (z_r 67 0), some (z_r 0 0), some (z_r 33 0), some (z_i (Int32.ofNat i))], [], (true, X2, I2, J2))) rfl ?_
  rw [if_pos (rfl : y = y)]
  exact hr
theorem z_lw46 {X : z_X} {I : Nat → Nat → Nat → Int32} {J : Nat → Nat → Nat → Int64} {L i : Nat} {v : Nat → Int32} (hv : I 67 0 = v) (hL : I 67 1 0 = Int32.ofNat L) (hi : i + 6 ≤ L) (h3 : L ≤ 384) (hR : z_R X I J) : z_lwp 1948 i X I J := by
  obtain ⟨w1, X1, X2, I1, I2, J1, J2, c1, c2, hR2, b1, b2, b3⟩ := z_op_act (v (i + 1)) (v (i + 2)) (v (i + 3)) X I J hR
  have e67 : I1 67 = I 67 := z_ev_67 c1
  have hv1 : I1 67 0 = v := by rw [e67]; exact hv
  have hL1 : I1 67 1 0 = Int32.ofNat L := by rw [e67]; exact hL
  obtain ⟨y, rfl⟩ := z_ev_ti rfl c1
  refine ⟨X2, I2, J2, hR2, b1, b2, b3, fun r hr => ?_⟩
  refine z_ev_gs 5 (c1 := (285, 1953, [some (z_r 67 0), some (z_r 0 0), some (z_r 33 0), some (z_i (Int32.ofNat i))], [z_i (Int32.ofNat i + (1 : Int32)), z_r 67 0, z_r 0 0], (true, X, I, J))) rfl ?_
  refine z_ev_sc (k := i + 1) rfl (z_oa i 1) hL (by omega) h3 hv ?_
  refine z_ev_gs 4 (c1 := (285, 1958, [some (z_r 67 0), some (z_r 0 0), some (z_r 33 0), some (z_i (Int32.ofNat i))], [z_i (Int32.ofNat i + (2 : Int32)), z_r 67 0, z_i (v (i + 1)), z_r 0 0], (true, X, I, J))) rfl ?_
  refine z_ev_sc (k := i + 2) rfl (z_oa i 2) hL (by omega) h3 hv ?_
  refine z_ev_gs 4 (c1 := (285, 1963, [some (z_r 67 0), some (z_r 0 0), some (z_r 33 0), some (z_i (Int32.ofNat i))], [z_i (Int32.ofNat i + (3 : Int32)), z_r 67 0, z_i (v (i + 2)), z_i (v (i + 1)), z_r 0 0], (true, X, I, J))) rfl ?_
  refine z_ev_sc (k := i + 3) rfl (z_oa i 3) hL (by omega) h3 hv ?_
  refine z_ev_ca rfl rfl c1 ?_
  refine z_ev_gs 5 (c1 := (285, 1972, [some (z_r 67 0), some (z_r 0 0), some (z_r 33 0), some (z_i (Int32.ofNat i))], [z_i (Int32.ofNat i + (1 : Int32)), z_r 67 0, z_r 33 0, z_i y], (true, X1, I1, J1))) rfl ?_
  refine z_ev_sc (k := i + 1) rfl (z_oa i 1) hL1 (by omega) h3 hv1 ?_
  refine z_ev_gs 4 (c1 := (285, 1977, [some (z_r 67 0), some (z_r 0 0), some (z_r 33 0), some (z_i (Int32.ofNat i))], [z_i (Int32.ofNat i + (2 : Int32)), z_r 67 0, z_i (v (i + 1)), z_r 33 0, z_i y], (true, X1, I1, J1))) rfl ?_
  refine z_ev_sc (k := i + 2) rfl (z_oa i 2) hL1 (by omega) h3 hv1 ?_
  refine z_ev_gs 4 (c1 := (285, 1982, [some (z_r 67 0), some (z_r 0 0), some (z_r 33 0), some (z_i (Int32.ofNat i))], [z_i (Int32.ofNat i + (3 : Int32)), z_r 67 0, z_i (v (i + 2)), z_i (v (i + 1)), z_r 33 0, z_i y], (true, X1, I1, J1))) rfl ?_
  refine z_ev_sc (k := i + 3) rfl (z_oa i 3) hL1 (by omega) h3 hv1 ?_
  refine z_ev_ca rfl rfl c2 ?_
  refine z_ev_gs 1 (c1 := (285, (if y = y then 2063 else 1989), [some (z_r 67 0), some (z_r 0 0), some (z_r 33 0), some (z_i (Int32.ofNat i))], [], (true, X2, I2, J2))) rfl ?_
  rw [if_pos (rfl : y = y)]
  exact hr
theorem z_lw47 {X : z_X} {I : Nat → Nat → Nat → Int32} {J : Nat → Nat → Nat → Int64} {L i : Nat} {v : Nat → Int32} (hv : I 67 0 = v) (hL : I 67 1 0 = Int32.ofNat L) (hi : i + 6 ≤ L) (h3 : L ≤ 384) (hR : z_R X I J) : z_lwp 1991 i X I J := by
  obtain ⟨w1, X1, X2, I1, I2, J1, J2, c1, c2, hR2, b1, b2, b3⟩ := z_op_trace (v (i + 1)) X I J hR
  have e67 : I1 67 = I 67 := z_ev_67 c1
  have hv1 : I1 67 0 = v := by rw [e67]; exact hv
  have hL1 : I1 67 1 0 = Int32.ofNat L := by rw [e67]; exact hL
  obtain ⟨y, rfl⟩ := z_ev_ti rfl c1
  refine ⟨X2, I2, J2, hR2, b1, b2, b3, fun r hr => ?_⟩
  refine z_ev_gs 5 (c1 := (285, 1996, [some (z_r 67 0), some (z_r 0 0), some (z_r 33 0), some (z_i (Int32.ofNat i))], [z_i (Int32.ofNat i + (1 : Int32)), z_r 67 0, z_r 0 0], (true, X, I, J))) rfl ?_
  refine z_ev_sc (k := i + 1) rfl (z_oa i 1) hL (by omega) h3 hv ?_
  refine z_ev_ca rfl rfl c1 ?_
  refine z_ev_gs 5 (c1 := (285, 2005, [some (z_r 67 0), some (z_r 0 0), some (z_r 33 0), some (z_i (Int32.ofNat i))], [z_i (Int32.ofNat i + (1 : Int32)), z_r 67 0, z_r 33 0, z_i y], (true, X1, I1, J1))) rfl ?_
  refine z_ev_sc (k := i + 1) rfl (z_oa i 1) hL1 (by omega) h3 hv1 ?_
  refine z_ev_ca rfl rfl c2 ?_
  refine z_ev_gs 1 (c1 := (285, (if y = y then 2063 else 2012), [some (z_r 67 0), some (z_r 0 0), some (z_r 33 0), some (z_i (Int32.ofNat i))], [], (true, X2, I2, J2))) rfl ?_
  rw [if_pos (rfl : y = y)]
  exact hr
theorem z_lw48 {X : z_X} {I : Nat → Nat → Nat → Int32} {J : Nat → Nat → Nat → Int64} {L i : Nat} {v : Nat → Int32} (hv : I 67 0 = v) (hL : I 67 1 0 = Int32.ofNat L) (hi : i + 6 ≤ L) (h3 : L ≤ 384) (hR : z_R X I J) : z_lwp 2014 i X I J := by
  obtain ⟨w1, X1, X2, I1, I2, J1, J2, c1, c2, hR2, b1, b2, b3⟩ := z_op_many (v (i + 1)) X I J hR
  have e67 : I1 67 = I 67 := z_ev_67 c1
  have hv1 : I1 67 0 = v := by rw [e67]; exact hv
  have hL1 : I1 67 1 0 = Int32.ofNat L := by rw [e67]; exact hL
  obtain ⟨y, rfl⟩ := z_ev_ti rfl c1
  refine ⟨X2, I2, J2, hR2, b1, b2, b3, fun r hr => ?_⟩
  refine z_ev_gs 5 (c1 := (285, 2019, [some (z_r 67 0), some (z_r 0 0), some (z_r 33 0), some (z_i (Int32.ofNat i))], [z_i (Int32.ofNat i + (1 : Int32)), z_r 67 0, z_r 0 0], (true, X, I, J))) rfl ?_
  refine z_ev_sc (k := i + 1) rfl (z_oa i 1) hL (by omega) h3 hv ?_
  refine z_ev_ca rfl rfl c1 ?_
  refine z_ev_gs 5 (c1 := (285, 2028, [some (z_r 67 0), some (z_r 0 0), some (z_r 33 0), some (z_i (Int32.ofNat i))], [z_i (Int32.ofNat i + (1 : Int32)), z_r 67 0, z_r 33 0, z_i y], (true, X1, I1, J1))) rfl ?_
  refine z_ev_sc (k := i + 1) rfl (z_oa i 1) hL1 (by omega) h3 hv1 ?_
  refine z_ev_ca rfl rfl c2 ?_
  refine z_ev_gs 1 (c1 := (285, (if y = y then 2063 else 2035), [some (z_r 67 0), some (z_r 0 0), some (z_r 33 0), some (z_i (Int32.ofNat i))], [], (true, X2, I2, J2))) rfl ?_
  rw [if_pos (rfl : y = y)]
  exact hr
theorem z_lw49 {X : z_X} {I : Nat → Nat → Nat → Int32} {J : Nat → Nat → Nat → Int64} {L i : Nat} {v : Nat → Int32} (hv : I 67 0 = v) (hL : I 67 1 0 = Int32.ofNat L) (hi : i + 6 ≤ L) (h3 : L ≤ 384) (hR : z_R X I J) : z_lwp 2037 i X I J := by
  obtain ⟨w1, X1, X2, I1, I2, J1, J2, c1, c2, hR2, b1, b2, b3⟩ := z_op_keep  X I J hR
  have e67 : I1 67 = I 67 := z_ev_67 c1
  have hv1 : I1 67 0 = v := by rw [e67]; exact hv
  have hL1 : I1 67 1 0 = Int32.ofNat L := by rw [e67]; exact hL
  obtain ⟨y, rfl⟩ := z_ev_ti rfl c1
  refine ⟨X2, I2, J2, hR2, b1, b2, b3, fun r hr => ?_⟩
  refine z_ev_gs 1 (c1 := (285, 2038, [some (z_r 67 0), some (z_r 0 0), some (z_r 33 0), some (z_i (Int32.ofNat i))], [z_r 0 0], (true, X, I, J))) rfl ?_
  refine z_ev_ca rfl rfl c1 ?_
  refine z_ev_gs 1 (c1 := (285, 2042, [some (z_r 67 0), some (z_r 0 0), some (z_r 33 0), some (z_i (Int32.ofNat i))], [z_r 33 0, z_i y], (true, X1, I1, J1))) rfl ?_
  refine z_ev_ca rfl rfl c2 ?_
  refine z_ev_gs 1 (c1 := (285, (if y = y then 2063 else 2048), [some (z_r 67 0), some (z_r 0 0), some (z_r 33 0), some (z_i (Int32.ofNat i))], [], (true, X2, I2, J2))) rfl ?_
  rw [if_pos (rfl : y = y)]
  exact hr
theorem z_lw50 {X : z_X} {I : Nat → Nat → Nat → Int32} {J : Nat → Nat → Nat → Int64} {L i : Nat} {v : Nat → Int32} (hv : I 67 0 = v) (hL : I 67 1 0 = Int32.ofNat L) (hi : i + 6 ≤ L) (h3 : L ≤ 384) (hR : z_R X I J) : z_lwp 2050 i X I J := by
  obtain ⟨w1, X1, X2, I1, I2, J1, J2, c1, c2, hR2, b1, b2, b3⟩ := z_op_again  X I J hR
  have e67 : I1 67 = I 67 := z_ev_67 c1
  have hv1 : I1 67 0 = v := by rw [e67]; exact hv
  have hL1 : I1 67 1 0 = Int32.ofNat L := by rw [e67]; exact hL
  obtain ⟨y, rfl⟩ := z_ev_ti rfl c1
  refine ⟨X2, I2, J2, hR2, b1, b2, b3, fun r hr => ?_⟩
  refine z_ev_gs 1 (c1 := (285, 2051, [some (z_r 67 0), some (z_r 0 0), some (z_r 33 0), some (z_i (Int32.ofNat i))], [z_r 0 0], (true, X, I, J))) rfl ?_
  refine z_ev_ca rfl rfl c1 ?_
  refine z_ev_gs 1 (c1 := (285, 2055, [some (z_r 67 0), some (z_r 0 0), some (z_r 33 0), some (z_i (Int32.ofNat i))], [z_r 33 0, z_i y], (true, X1, I1, J1))) rfl ?_
  refine z_ev_ca rfl rfl c2 ?_
  refine z_ev_gs 1 (c1 := (285, (if y = y then 2063 else 2061), [some (z_r 67 0), some (z_r 0 0), some (z_r 33 0), some (z_i (Int32.ofNat i))], [], (true, X2, I2, J2))) rfl ?_
  rw [if_pos (rfl : y = y)]
  exact hr
theorem z_lwd {X : z_X} {I : Nat → Nat → Nat → Int32} {J : Nat → Nat → Nat → Int64} {i : Nat} (hR : z_R X I J) : z_lwp 2063 i X I J := ⟨X, I, J, hR, Nat.le_succ _, Nat.le_add_right _ _, rfl, fun _ hr => hr⟩
theorem z_tsel_all {P : Nat → Prop} {pc : Nat} {x : Int32} {d : Int} (hd : P (z_tg pc d)) : ∀ (os : List Int) (k : Int), (∀ o ∈ os, P (z_tg pc o)) → P (z_tsel pc x d os k)
  | [], _, _ => hd
  | o :: os, k, h => by
    show P (if x = Int32.ofInt k then z_tg pc o else z_tsel pc x d os (k + 1))
    by_cases e1 : x = Int32.ofInt k
    · rw [if_pos e1]
      exact h o List.mem_cons_self
    · rw [if_neg e1]
      exact z_tsel_all hd os (k + 1) (fun o1 ho => h o1 (List.mem_cons_of_mem o ho))
theorem z_lws {X : z_X} {I : Nat → Nat → Nat → Int32} {J : Nat → Nat → Nat → Int64} {L i : Nat} {v : Nat → Int32} (hv : I 67 0 = v) (hL : I 67 1 0 = Int32.ofNat L) (hi : i + 6 ≤ L) (h3 : L ≤ 384) (hR : z_R X I J) (x : Int32) : z_lwp (z_tsel 33 x 2030 [219, 282, 305, 338, 407, 440, 473, 496, 529, 562, 595, 638, 691, 754, 813, 836, 859, 902, 925, 968, 981, 1025, 1038, 1061, 1094, 1127, 1160, 1183, 1226, 1259, 1292, 1326, 1370, 1404, 1448, 1502, 1535, 1568, 1601, 1634, 1677, 1710, 1753, 1796, 1839, 1882, 1915, 1958, 1981, 2004, 2017] 0) i X I J :=
  z_tsel_all (P := fun P => z_lwp P i X I J) (pc := 33) (x := x) (d := 2030) (z_lwd hR) [219, 282, 305, 338, 407, 440, 473, 496, 529, 562, 595, 638, 691, 754, 813, 836, 859, 902, 925, 968, 981, 1025, 1038, 1061, 1094, 1127, 1160, 1183, 1226, 1259, 1292, 1326, 1370, 1404, 1448, 1502, 1535, 1568, 1601, 1634, 1677, 1710, 1753, 1796, 1839, 1882, 1915, 1958, 1981, 2004, 2017] 0 (List.forall_mem_cons.mpr ⟨z_lw0 hv hL hi h3 hR, List.forall_mem_cons.mpr ⟨z_lw1 hv hL hi h3 hR, List.forall_mem_cons.mpr ⟨z_lw2 hv hL hi h3 hR, List.forall_mem_cons.mpr ⟨z_lw3 hv hL hi h3 hR, List.forall_mem_cons.mpr ⟨z_lw4 hv hL hi h3 hR, List.forall_mem_cons.mpr ⟨z_lw5 hv hL hi h3 hR, List.forall_mem_cons.mpr ⟨z_lw6 hv hL hi h3 hR, List.forall_mem_cons.mpr ⟨z_lw7 hv hL hi h3 hR, List.forall_mem_cons.mpr ⟨z_lw8 hv hL hi h3 hR, List.forall_mem_cons.mpr ⟨z_lw9 hv hL hi h3 hR, List.forall_mem_cons.mpr ⟨z_lw10 hv hL hi h3 hR, List.forall_mem_cons.mpr ⟨z_lw11 hv hL hi h3 hR, List.forall_mem_cons.mpr ⟨z_lw12 hv hL hi h3 hR, List.forall_mem_cons.mpr ⟨z_lw13 hv hL hi h3 hR, List.forall_mem_cons.mpr ⟨z_lw14 hv hL hi h3 hR, List.forall_mem_cons.mpr ⟨z_lw15 hv hL hi h3 hR, List.forall_mem_cons.mpr ⟨z_lw16 hv hL hi h3 hR, List.forall_mem_cons.mpr ⟨z_lw17 hv hL hi h3 hR, List.forall_mem_cons.mpr ⟨z_lw18 hv hL hi h3 hR, List.forall_mem_cons.mpr ⟨z_lw19 hv hL hi h3 hR, List.forall_mem_cons.mpr ⟨z_lw20 hv hL hi h3 hR, List.forall_mem_cons.mpr ⟨z_lw21 hv hL hi h3 hR, List.forall_mem_cons.mpr ⟨z_lw22 hv hL hi h3 hR, List.forall_mem_cons.mpr ⟨z_lw23 hv hL hi h3 hR, List.forall_mem_cons.mpr ⟨z_lw24 hv hL hi h3 hR, List.forall_mem_cons.mpr ⟨z_lw25 hv hL hi h3 hR, List.forall_mem_cons.mpr ⟨z_lw26 hv hL hi h3 hR, List.forall_mem_cons.mpr ⟨z_lw27 hv hL hi h3 hR, List.forall_mem_cons.mpr ⟨z_lw28 hv hL hi h3 hR, List.forall_mem_cons.mpr ⟨z_lw29 hv hL hi h3 hR, List.forall_mem_cons.mpr ⟨z_lw30 hv hL hi h3 hR, List.forall_mem_cons.mpr ⟨z_lw31 hv hL hi h3 hR, List.forall_mem_cons.mpr ⟨z_lw32 hv hL hi h3 hR, List.forall_mem_cons.mpr ⟨z_lw33 hv hL hi h3 hR, List.forall_mem_cons.mpr ⟨z_lw34 hv hL hi h3 hR, List.forall_mem_cons.mpr ⟨z_lw35 hv hL hi h3 hR, List.forall_mem_cons.mpr ⟨z_lw36 hv hL hi h3 hR, List.forall_mem_cons.mpr ⟨z_lw37 hv hL hi h3 hR, List.forall_mem_cons.mpr ⟨z_lw38 hv hL hi h3 hR, List.forall_mem_cons.mpr ⟨z_lw39 hv hL hi h3 hR, List.forall_mem_cons.mpr ⟨z_lw40 hv hL hi h3 hR, List.forall_mem_cons.mpr ⟨z_lw41 hv hL hi h3 hR, List.forall_mem_cons.mpr ⟨z_lw42 hv hL hi h3 hR, List.forall_mem_cons.mpr ⟨z_lw43 hv hL hi h3 hR, List.forall_mem_cons.mpr ⟨z_lw44 hv hL hi h3 hR, List.forall_mem_cons.mpr ⟨z_lw45 hv hL hi h3 hR, List.forall_mem_cons.mpr ⟨z_lw46 hv hL hi h3 hR, List.forall_mem_cons.mpr ⟨z_lw47 hv hL hi h3 hR, List.forall_mem_cons.mpr ⟨z_lw48 hv hL hi h3 hR, List.forall_mem_cons.mpr ⟨z_lw49 hv hL hi h3 hR, List.forall_mem_cons.mpr ⟨z_lw50 hv hL hi h3 hR, fun _ h => absurd h List.not_mem_nil⟩⟩⟩⟩⟩⟩⟩⟩⟩⟩⟩⟩⟩⟩⟩⟩⟩⟩⟩⟩⟩⟩⟩⟩⟩⟩⟩⟩⟩⟩⟩⟩⟩⟩⟩⟩⟩⟩⟩⟩⟩⟩⟩⟩⟩⟩⟩⟩⟩⟩⟩)
theorem z_l6 : ∀ L, L < 401 → (Int32.ofNat L - 6).toInt = (L : Int) - 6 ∧ (Int32.ofNat L).toInt = (L : Int) := by decide +kernel
theorem z_l6c {L i : Nat} (hL : L ≤ 384) (hi : i ≤ 400) : Int32.ofNat L - 6 < Int32.ofNat i ↔ L < i + 6 := by
  rw [Int32.lt_iff_toInt_lt, (z_l6 L (by omega)).1, (z_l6 i (by omega)).2]
  omega
/-- the law's loop -/
theorem z_lwl {L : Nat} {v : Nat → Int32} (h3 : L ≤ 384) : ∀ (n i : Nat) (X : z_X) (I : Nat → Nat → Nat → Int32) (J : Nat → Nat → Nat → Int64), L < i + 6 + 6 * n → i ≤ 400 → z_R X I J → I 67 0 = v → I 67 1 0 = Int32.ofNat L →
    ∃ (X9 : z_X) (I9 : Nat → Nat → Nat → Int32) (J9 : Nat → Nat → Nat → Int64), z_ev 61 (285, 18, [some (z_r 67 0), some (z_r 0 0), some (z_r 33 0), some (z_i (Int32.ofNat i))], [], (true, X, I, J)) (some (z_i 1), (true, X9, I9, J9)) ∧ X9.1 ≤ X.1 + n ∧ X9.2.1 ≤ X.2.1 + 4 * n := by
  intro n
  induction n with
  | zero =>
    intro i X I J h1 h2 hR hv hL
    refine ⟨X, I, J, ?_, Nat.le_refl _, Nat.le_refl _⟩
    refine z_ev_gs 6 (c1 := (285, (if I 67 1 0 - 6 < Int32.ofNat i then 2069 else 27), [some (z_r 67 0), some (z_r 0 0), some (z_r 33 0), some (z_i (Int32.ofNat i))], [], (true, X, I, J))) rfl ?_
    rw [hL, if_pos ((z_l6c h3 h2).mpr (by omega))]
    exact z_ev_gr 2 rfl
  | succ n ih =>
    intro i X I J h1 h2 hR hv hL
    by_cases hc : L < i + 6
    · refine ⟨X, I, J, ?_, Nat.le_add_right _ _, Nat.le_add_right _ _⟩
      refine z_ev_gs 6 (c1 := (285, (if I 67 1 0 - 6 < Int32.ofNat i then 2069 else 27), [some (z_r 67 0), some (z_r 0 0), some (z_r 33 0), some (z_i (Int32.ofNat i))], [], (true, X, I, J))) rfl ?_
      rw [hL, if_pos ((z_l6c h3 h2).mpr hc)]
      exact z_ev_gr 2 rfl
    · obtain ⟨X2, I2, J2, a1, a2, a3, a4, a5⟩ := z_lws (i := i) hv hL (by omega) h3 hR (v i &&& 63)
      obtain ⟨X9, I9, J9, e1, e2, e3⟩ := ih (i + 6) X2 I2 J2 (by omega) (by omega) a1 (by rw [a4]; exact hv) (by rw [a4]; exact hL)
      refine ⟨X9, I9, J9, ?_, by omega, by omega⟩
      refine z_ev_gs 6 (c1 := (285, (if I 67 1 0 - 6 < Int32.ofNat i then 2069 else 27), [some (z_r 67 0), some (z_r 0 0), some (z_r 33 0), some (z_i (Int32.ofNat i))], [], (true, X, I, J))) rfl ?_
      rw [if_neg (by rw [hL]; exact fun q => hc ((z_l6c h3 h2).mp q))]
      refine z_ev_gs 2 (c1 := (285, 29, [some (z_r 67 0), some (z_r 0 0), some (z_r 33 0), some (z_i (Int32.ofNat i))], [z_i (Int32.ofNat i), z_r 67 0], (true, X, I, J))) rfl ?_
      refine z_ev_sc (k := i) rfl rfl hL (by omega) h3 hv ?_
      refine z_ev_gs 3 (c1 := (285, z_tsel 33 (v i &&& 63) 2030 [219, 282, 305, 338, 407, 440, 473, 496, 529, 562, 595, 638, 691, 754, 813, 836, 859, 902, 925, 968, 981, 1025, 1038, 1061, 1094, 1127, 1160, 1183, 1226, 1259, 1292, 1326, 1370, 1404, 1448, 1502, 1535, 1568, 1601, 1634, 1677, 1710, 1753, 1796, 1839, 1882, 1915, 1958, 1981, 2004, 2017] 0, [some (z_r 67 0), some (z_r 0 0), some (z_r 33 0), some (z_i (Int32.ofNat i))], [], (true, X, I, J))) rfl ?_
      refine a5 _ ?_
      refine z_ev_gs 2 (c1 := (285, 18, [some (z_r 67 0), some (z_r 0 0), some (z_r 33 0), some (z_i (Int32.ofNat i + 6))], [], (true, X2, I2, J2))) rfl ?_
      rw [show Int32.ofNat i + 6 = Int32.ofNat (i + 6) from z_oa i 6]
      exact e1
/-- the law answers 1 on every script -/
theorem z_lawful (L : Nat) (xs : Nat → Int32) (h3 : L ≤ 384) : z_law L xs := by
  obtain ⟨I1, c1, hR, h67⟩ := z_begin (L := L) (xs := xs)
  obtain ⟨X9, I9, J9, e1, e2, e3⟩ := z_lwl (L := L) (v := xs) h3 64 0 _ I1 _ (by omega) (by omega) hR (by rw [h67]; rfl) (by rw [h67]; rfl)
  refine ⟨61, (true, X9, I9, J9), by decide, c1 _ e1, ?_, ?_⟩
  · have e2 : X9.1 ≤ 0 + 64 := e2
    show 102 + X9.1 ≤ 600000
    omega
  · have e3 : X9.2.1 ≤ 1941 + 4 * 64 := e3
    show X9.2.1 ≤ 7302250
    omega
