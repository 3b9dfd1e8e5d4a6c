/-! the parts of the relation, one by one, where cells change -/
section
variable {X X' : z_X} {I I' : Nat → Nat → Nat → Int32} {J J' : Nat → Nat → Nat → Int64}
theorem z_kep_c (hX : X' = X) (h13 : ∀ n, n < 4 → I' 13 (4 * 1 + n) 1 = I 13 (4 * 1 + n) 1) (h14 : ∀ n, n < 4 → I' 14 (4 * 1 + n) = I 14 (4 * 1 + n)) (h3 : I' 3 1 = I 3 1) (h4 : I' 4 1 2 = I 4 1 2) (h5 : I' 5 1 = I 5 1) (h6 : I' 6 1 = I 6 1) (h16 : I' 1 1 6 = I 1 1 6) (h15 : I' 1 1 5 = I 1 1 5) (h12 : I' 12 1 = I 12 1) (h32 : I' 32 = I 32)
    (h62 : I' 62 = I 62) (h : z_kep X I) : z_kep X' I' := by
  subst hX
  obtain ⟨r1, r2, r3, r4, r5⟩ := h
  unfold z_kep z_Rw
  rw [h3, h4, h5, h6, h16, h15, h12, h32, h62]
  exact ⟨z_Rn_congr h13 h14 r1, r2, r3, r4, r5⟩
theorem z_Rk_c (h0 : I' 0 0 2 = I 0 0 2) (h33 : I' 33 0 52 = I 33 0 52) (hk : z_kep X I → z_kep X' I') (h : z_Rk X I) : z_Rk X' I' := by
  unfold z_Rk
  rw [h0, h33]
  exact h.imp id (fun q => ⟨q.1, q.2.1, hk q.2.2⟩)
theorem z_Rt_c (h15 : I' 15 0 1 = I 15 0 1) (h33 : I' 33 0 14 = I 33 0 14) (h16 : I' 16 = I 16) (h43 : I' 43 = I 43) (h : z_Rt I) : z_Rt I' := by
  unfold z_Rt
  rw [h15, h33, h16, h43]
  exact h
theorem z_Rr_c (h0 : I' 0 0 7 = I 0 0 7) (h33 : I' 33 0 37 = I 33 0 37) (h19 : I' 19 = I 19) (h20 : I' 20 = I 20) (h53 : I' 53 = I 53) (h : z_Rr I) : z_Rr I' := by
  unfold z_Rr
  rw [h0, h33, h19, h20, h53]
  exact h
theorem z_Rh_c (h30 : I' 30 = I 30) (h55 : I' 55 = I 55) (h56 : I' 56 = I 56) (j1 : J' 31 = J 31) (j2 : J' 57 = J 57) (h : z_Rh I J) : z_Rh I' J' := by
  unfold z_Rh
  rw [h30, h55, h56, j1, j2]
  exact h
theorem z_Rv_c (h22 : I' 22 = I 22) (h23 : I' 23 = I 23) (h58 : I' 58 = I 58) (h59 : I' 59 = I 59) (h60 : I' 60 = I 60) (h : z_Rv I) : z_Rv I' := by
  unfold z_Rv
  rw [h22, h23, h58, h59, h60]
  exact h
theorem z_Rx_c (h17 : I' 17 0 1 = I 17 0 1) (h33 : I' 33 0 50 = I 33 0 50) (h18 : I' 18 = I 18) (h61 : I' 61 = I 61) (h : z_Rx I) : z_Rx I' := by
  unfold z_Rx
  rw [h17, h33, h18, h61]
  exact h
theorem z_Tb_c (h40 : I' 40 = I 40) (h41 : I' 41 = I 41) (h42 : I' 42 = I 42) (h : z_Tb I) : z_Tb I' := by
  unfold z_Tb
  rw [h40, h41, h42]
  exact h
/-- a model's shares or parts: in(x, 0, n - 1) is x of n -/
theorem z_bw_lt {x n : Int32} {k : Nat} (hn : n = Int32.ofNat k) (hk : k ≤ 1000000) : z_bw x 0 (n - 1) = z_lt0 x n := by
  subst hn
  rw [Bool.eq_iff_iff, z_bw_t, z_lt0_t]
  refine and_congr_right fun h0 => ?_
  rw [Int32.le_iff_toInt_le, Int32.lt_iff_toInt_lt]
  have e1 : (Int32.ofNat k).toInt = k := Int32.toInt_ofNat_of_lt (by omega)
  have e2 : (Int32.ofNat k - 1).toInt = (k : Int) - 1 := by
    rw [Int32.toInt_sub, e1]
    show (((k : Int) - 1).bmod (2 ^ 32)) = _
    exact Int.bmod_eq_of_le (by omega) (by omega)
  rw [e1, e2]
  omega
end
