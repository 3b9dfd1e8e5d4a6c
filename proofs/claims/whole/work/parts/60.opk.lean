/-! calls of both: form, formAt -/
theorem z_o11 (a b : Nat) : (11 : Int32) * Int32.ofNat a + Int32.ofNat b = Int32.ofNat (11 * a + b) := by
  rw [Int32.ofNat_add, Int32.ofNat_mul]; rfl
theorem z_o64 (a b : Nat) : (64 : Int32) * Int32.ofNat a + Int32.ofNat b = Int32.ofNat (64 * a + b) := by
  rw [Int32.ofNat_add, Int32.ofNat_mul]; rfl
theorem z_bw14 {x : Int32} (h : z_bw x 1 4 = true) : ∃ k, 1 ≤ k ∧ k ≤ 4 ∧ x = Int32.ofNat k := by
  obtain ⟨h0, h1⟩ := z_bw_t.mp h
  obtain ⟨k, hk, rfl⟩ := z_nat' (n := 4) (Int32.le_trans (by decide) h0) h1 (by decide)
  exact ⟨k, (z_ole (a := 1) (by decide) (by omega)).mp h0, hk, rfl⟩
theorem z_fo_nat : ∀ m, m < 5 → z_fo (Int32.ofNat m) = Int32.ofNat (z_fon m) ∧ z_fon m ≤ 11 := by decide +kernel
theorem z_fon_le (m : Nat) (h : m ≤ 4) : z_fon m ≤ 11 := (z_fo_nat m (by omega)).2
/-- promise 11 -/
theorem z_op_formAt (x i : Int32) : z_op 76 192 [z_i x, z_i i] := by
  refine z_op_q fun X I J hR => ?_
  obtain ⟨-, -, -, -, -, -, -, r8⟩ := hR
  cases ha : z_bw x 1 4 with
  | false =>
    refine ⟨z_i (-1), z_q76_e (d := 59) x i ⟨fun _ => rfl, fun h1 => ⟨fun _ => rfl, fun h2 => ?_⟩⟩, z_q192_e (d := 59) x i ⟨fun _ => rfl, fun h => ?_⟩⟩
    · rw [z_bw_t.mpr ⟨h1, h2⟩] at ha; cases ha
    · rw [ha] at h; cases h
  | true =>
    have fa : ∀ {P : Prop}, z_bw x 1 4 = false → P := fun h => by rw [ha] at h; cases h
    obtain ⟨g0, g1⟩ := z_bw_t.mp ha
    obtain ⟨m, m1, m2, rfl⟩ := z_bw14 ha
    obtain ⟨-, t2, t3⟩ := r8 m m1 m2
    obtain ⟨e1, e2⟩ := z_fo_nat m (by omega)
    by_cases h0 : 0 ≤ i
    · by_cases hi : i < Int32.ofNat (z_fon m)
      · obtain ⟨j, hj, rfl⟩ := z_nat h0 hi (by omega)
        refine ⟨z_i (z_fm j), z_q76_e (d := 59) _ _ ⟨fun h => absurd g0 (Int32.not_le.mpr h), fun _ => ⟨fun h => absurd g1 (Int32.not_le.mpr h), fun _ => ⟨fun _ => ⟨fun h => ?_, fun _ => ⟨j, rfl, by omega, rfl⟩⟩, fun h => absurd h0 (Int32.not_le.mpr h)⟩⟩⟩, z_q192_e (d := 59) _ _ ⟨fun h => fa h, fun _ => ⟨fun _ => ⟨m, rfl, by omega, fun h => ?_, fun _ => ⟨11 * m + j, z_o11 m j, by omega, by rw [t2 j hj]⟩⟩, fun h => absurd h0 (Int32.not_le.mpr h)⟩⟩⟩
        · rw [e1] at h; exact absurd hi (Int32.not_lt.mpr h)
        · rw [t3] at h; exact absurd hi (Int32.not_lt.mpr h)
      · refine ⟨z_i (-3), z_q76_e (d := 59) _ i ⟨fun h => absurd g0 (Int32.not_le.mpr h), fun _ => ⟨fun h => absurd g1 (Int32.not_le.mpr h), fun _ => ⟨fun _ => ⟨fun _ => rfl, fun h => ?_⟩, fun h => absurd h0 (Int32.not_le.mpr h)⟩⟩⟩, z_q192_e (d := 59) _ i ⟨fun h => fa h, fun _ => ⟨fun _ => ⟨m, rfl, by omega, fun _ => rfl, fun h => ?_⟩, fun h => absurd h0 (Int32.not_le.mpr h)⟩⟩⟩
        · rw [e1] at h; exact absurd h hi
        · rw [t3] at h; exact absurd h hi
    · exact ⟨z_i (-1), z_q76_e (d := 59) _ i ⟨fun _ => rfl, fun _ => ⟨fun _ => rfl, fun _ => ⟨fun h => absurd h h0, fun _ => rfl⟩⟩⟩, z_q192_e (d := 59) _ i ⟨fun h => fa h, fun _ => ⟨fun h => absurd h h0, fun _ => rfl⟩⟩⟩
theorem z_sh_nat : ∀ m, m < 5 → 1 ≤ m → ((1 : Int32) <<< ((z_pr (Int32.ofNat m)) &&& 31)) = Int32.ofNat (2 ^ (m * (m - 1) / 2)) ∧ ((1 : Int32) <<< ((z_pr (Int32.ofNat m)) &&& 31)) - 1 = Int32.ofNat (2 ^ (m * (m - 1) / 2) - 1) ∧ 2 ^ (m * (m - 1) / 2) ≤ 64 ∧ 1 ≤ 2 ^ (m * (m - 1) / 2) := by decide +kernel
theorem z_fx_all : ∀ c, c < 64 → (z_stc.getD 1 []).getD c 0 = Int32.ofNat (z_fx c) ∧ z_fx c < 11 := by decide +kernel
/-- promise 10 -/
theorem z_op_form (x i : Int32) : z_op 75 191 [z_i x, z_i i] := by
  refine z_op_q fun X I J hR => ?_
  obtain ⟨-, -, -, -, -, -, -, r8⟩ := hR
  cases ha : z_bw x 1 4 with
  | false =>
    refine ⟨z_i (-1), z_q75_e (d := 59) x i ⟨fun _ => rfl, fun h1 => ⟨fun _ => rfl, fun h2 => ?_⟩⟩, z_q191_e (d := 58) x i ⟨fun _ => rfl, fun h => ?_⟩⟩
    · rw [z_bw_t.mpr ⟨h1, h2⟩] at ha; cases ha
    · unfold z_isc at h; rw [ha] at h; cases h
  | true =>
    obtain ⟨g0, g1⟩ := z_bw_t.mp ha
    obtain ⟨m, m1, m2, rfl⟩ := z_bw14 ha
    obtain ⟨t1, -, -⟩ := r8 m m1 m2
    obtain ⟨e1, e2, e3, e4⟩ := z_sh_nat m (by omega) m1
    cases hb : z_lt0 i (Int32.ofNat (2 ^ (m * (m - 1) / 2))) with
    | false =>
      refine ⟨z_i (-1), z_q75_e (d := 59) _ i ⟨fun _ => rfl, fun _ => ⟨fun _ => rfl, fun _ => ⟨fun _ => rfl, fun h1 => ⟨fun h2 => ?_, fun _ => rfl⟩⟩⟩⟩, z_q191_e (d := 58) _ i ⟨fun _ => rfl, fun h => ?_⟩⟩
      · rw [e1] at h2; rw [z_lt0_t.mpr ⟨h1, h2⟩] at hb; cases hb
      · unfold z_isc at h
        rw [ha, z_bw_lt e1 (by omega), e1, hb] at h; cases h
    | true =>
      obtain ⟨h0, h1⟩ := z_lt0_t.mp hb
      obtain ⟨c, hc, rfl⟩ := z_lt0n hb rfl (by omega)
      obtain ⟨f1, f2⟩ := z_fx_all c (by omega)
      refine ⟨z_i (z_fm (z_fx c)), z_q75_e (d := 59) _ _ ⟨fun h => absurd g0 (Int32.not_le.mpr h), fun _ => ⟨fun h => absurd g1 (Int32.not_le.mpr h), fun _ => ⟨fun h => absurd h0 (Int32.not_le.mpr h), fun _ => ⟨fun _ => ⟨c, rfl, by omega, z_fx c, f1, f2, rfl⟩, fun h => ?_⟩⟩⟩⟩, z_q191_e (d := 58) _ _ ⟨fun h => ?_, fun _ => ⟨64 * m + c, z_o64 m c, by omega, by rw [t1 c hc]⟩⟩⟩
      · rw [e1] at h; exact absurd h1 (Int32.not_lt.mpr h)
      · unfold z_isc at h
        rw [ha, z_bw_lt e1 (by omega), e1, hb] at h; cases h
