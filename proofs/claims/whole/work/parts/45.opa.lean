/-! calls of both, one by one -/
theorem z_t_99 : (99 : Int32).toInt = 99 := rfl
theorem z_Rk_same {X : z_X} {I I' : Nat → Nat → Nat → Int32} (h0 : I' 0 0 2 = I 0 0 2) (h33 : I' 33 0 52 = I 33 0 52) (h13 : ∀ n, n < 4 → I' 13 (4 * 1 + n) 1 = I 13 (4 * 1 + n) 1) (h14 : ∀ n, n < 4 → I' 14 (4 * 1 + n) = I 14 (4 * 1 + n)) (h3 : I' 3 1 = I 3 1) (h4 : I' 4 1 2 = I 4 1 2) (h5 : I' 5 1 = I 5 1) (h6 : I' 6 1 = I 6 1) (h16 : I' 1 1 6 = I 1 1 6) (h15 : I' 1 1 5 = I 1 1 5) (h12 : I' 12 1 = I 12 1) (h32 : I' 32 = I 32)
    (h62 : I' 62 = I 62) (h : z_Rk X I) : z_Rk X I' := z_Rk_c h0 h33 (z_kep_c rfl h13 h14 h3 h4 h5 h6 h16 h15 h12 h32 h62) h
/-- promise 28 -/
theorem z_op_seed (x : Int32) : z_op 93 227 [z_i x] := by
  intro X I J hR
  obtain ⟨⟨n1, n2, n3, n4, n5⟩, r2, r3, r4, r5, r6, r7, r8⟩ := hR
  refine ⟨z_i (I 33 0 7), X, X, z_up I 1 0 6 x, z_up (z_up I 1 0 6 x) 33 0 7 x, J, J, z_q93_e x (by rw [n4]), z_q227_e x rfl, ⟨⟨n1, n2, n3, rfl, n5⟩, ?_, r3, r4, r5, r6, r7, r8⟩, Nat.le_succ _, Nat.le_add_right _ _, rfl⟩
  exact z_Rk_same rfl rfl (fun _ _ => rfl) (fun _ _ => rfl) rfl rfl rfl rfl rfl rfl rfl rfl rfl r2
/-- promise 21 -/
theorem z_op_bare : z_op 86 213 [] := by
  intro X I J hR
  obtain ⟨⟨n1, n2, ⟨k, l1, l2, l3, l4, l5, l6, l7⟩, n4, n5⟩, r2, r3, r4, r5, r6, r7, r8⟩ := hR
  refine ⟨z_i (I 33 0 4), X, X, z_up I 4 0 2 0, z_up (z_up I 4 0 2 0) 33 0 4 0, J, J, z_q86_e (by rw [l2, l3]), z_q213_e rfl, ⟨⟨n1, n2, ⟨0, Nat.zero_le _, rfl, rfl, l4, l5, fun j hj => absurd hj (Nat.not_lt_zero j), fun a b ha => absurd ha (Nat.not_lt_zero a)⟩, n4, n5⟩, ?_, r3, r4, r5, r6, r7, r8⟩, Nat.le_succ _, Nat.le_add_right _ _, rfl⟩
  exact z_Rk_same rfl rfl (fun _ _ => rfl) (fun _ _ => rfl) rfl rfl rfl rfl rfl rfl rfl rfl rfl r2
/-- a call that changes nothing -/
theorem z_op_q {y1 y2 : Nat} {as1 : List z_V} (h : ∀ (X : z_X) (I : Nat → Nat → Nat → Int32) (J : Nat → Nat → Nat → Int64), z_R X I J → ∃ v : z_V, z_ev 60 (z_en y1 (z_r 0 0 :: as1) (true, X, I, J)) (some v, (true, X, I, J)) ∧ z_ev 60 (z_en y2 (z_r 33 0 :: as1) (true, X, I, J)) (some v, (true, X, I, J))) : z_op y1 y2 as1 := by
  intro X I J hR
  obtain ⟨v, h1, h2⟩ := h X I J hR
  exact ⟨v, X, X, I, I, J, J, h1, h2, hR, Nat.le_succ _, Nat.le_add_right _ _, rfl⟩
/-- promise 49 -/
theorem z_op_trace (x : Int32) : z_op 114 269 [z_i x] := by
  refine z_op_q fun X I J hR => ?_
  obtain ⟨-, -, -, -, -, -, ⟨k, hk, e1, e2, e3⟩, -⟩ := hR
  cases hb : z_lt0 x (I 33 0 50) with
  | false =>
    refine ⟨z_i (-3), z_q114_e x ⟨fun _ => rfl, fun h1 => ⟨fun h2 => ?_, fun _ => rfl⟩⟩, z_q269_e (d := 59) x ⟨fun _ => rfl, fun h1 => ?_⟩⟩
    · rw [e1, ← e2] at h2
      rw [z_lt0_t.mpr ⟨h1, h2⟩] at hb; cases hb
    · rw [z_bw_lt e2 (by omega), hb] at h1; cases h1
  | true =>
    obtain ⟨j, hj, rfl⟩ := z_lt0n hb e2 (by omega)
    obtain ⟨h1, h2⟩ := z_lt0_t.mp hb
    refine ⟨z_i (I 61 0 j), z_q114_e _ ⟨fun h => absurd h (Int32.not_lt.mpr h1), fun _ => ⟨fun _ => ⟨j, rfl, by omega, by rw [e3 j hj]⟩, fun h => ?_⟩⟩, z_q269_e (d := 59) _ ⟨fun h => ?_, fun _ => ⟨j, rfl, by omega, rfl⟩⟩⟩
    · rw [e1, ← e2] at h
      exact absurd h2 (Int32.not_lt.mpr h)
    · rw [z_bw_lt e2 (by omega), hb] at h; cases h
/-- promise 40 -/
theorem z_o2 (a b : Nat) : (2 : Int32) * Int32.ofNat a + Int32.ofNat b = Int32.ofNat (2 * a + b) := by
  rw [Int32.ofNat_add, Int32.ofNat_mul]; rfl
theorem z_bw1 {x : Int32} (h : z_bw x 0 1 = true) : x = Int32.ofNat 0 ∨ x = Int32.ofNat 1 := by
  obtain ⟨h0, h1⟩ := z_bw_t.mp h
  obtain ⟨k, hk, e⟩ := z_nat' (n := 1) h0 h1 (by decide)
  rcases (by omega : k = 0 ∨ k = 1) with rfl | rfl
  · exact Or.inl e
  · exact Or.inr e
theorem z_op_row (x w1 : Int32) : z_op 105 246 [z_i x, z_i w1] := by
  refine z_op_q fun X I J hR => ?_
  obtain ⟨-, -, -, ⟨k, hk, e1, e2, e3⟩, -, -, -, -⟩ := hR
  have eb : z_bw x 0 (I 33 0 37 - 1) = z_lt0 x (I 0 0 7) := by rw [z_bw_lt e2 (by omega), e1, e2]
  cases hb : (z_lt0 x (I 0 0 7) && z_bw w1 0 1) with
  | false =>
    refine ⟨z_i (-9), z_q105_e (d := 59) x w1 ⟨fun h => ?_, fun _ => rfl⟩, z_q246_e (d := 57) x w1 ⟨fun _ => rfl, fun h => ?_⟩⟩
    · rw [hb] at h; cases h
    · rw [eb, hb] at h; cases h
  | true =>
    simp only [Bool.and_eq_true] at hb
    obtain ⟨hb1, hb2⟩ := hb
    obtain ⟨j, hj, rfl⟩ := z_lt0n hb1 e1 (by omega)
    rcases z_bw1 hb2 with rfl | rfl
    · refine ⟨z_i (I 53 0 (2 * j)), z_q105_e (d := 59) _ _ ⟨fun _ => ⟨fun h => absurd rfl h, fun _ => ⟨j, rfl, by omega, by rw [(e3 j hj).1]⟩⟩, fun h => ?_⟩, z_q246_e (d := 57) _ _ ⟨fun h => ?_, fun _ => ⟨2 * j, z_o2 j 0, by omega, rfl⟩⟩⟩
      · rw [hb1, hb2] at h; cases h
      · rw [eb, hb1, hb2] at h; cases h
    · refine ⟨z_i (I 53 0 (2 * j + 1)), z_q105_e (d := 59) _ _ ⟨fun _ => ⟨fun _ => ⟨j, rfl, by omega, by rw [(e3 j hj).2]⟩, fun h => absurd h (by decide)⟩, fun h => ?_⟩, z_q246_e (d := 57) _ _ ⟨fun h => ?_, fun _ => ⟨2 * j + 1, z_o2 j 1, by omega, rfl⟩⟩⟩
      · rw [hb1, hb2] at h; cases h
      · rw [eb, hb1, hb2] at h; cases h
