/-! calls of both: chances, what a net tells -/
/-- promise 20 -/
theorem z_op_chance (x w1 v : Int32) : z_op 85 212 [z_i x, z_i w1, z_i v] := by
  intro X I J hR
  have hR0 := hR
  obtain ⟨⟨n1, n2, ⟨k, l1, l2, l3, l4, l5, l6, l7⟩, n4, n5⟩, r2, r3, r4, r5, r6, r7, r8⟩ := hR
  have eb : ∀ u : Int32, z_bw u 0 (I 33 0 4 - 1) = z_lt0 u (I 4 0 2) := fun u => by rw [z_bw_lt l3 (by omega), l2, l3]
  cases ha : z_lt0 x (I 4 0 2) with
  | false =>
    refine ⟨z_i (-1), X, X, I, I, J, J, z_q85_e (d := 59) x w1 v ⟨fun _ => rfl, fun h => ?_⟩, z_q212_e (d := 59) x w1 v ⟨fun _ => rfl, fun h => ?_⟩, hR0, Nat.le_succ _, Nat.le_add_right _ _, rfl⟩
    · rw [ha] at h; cases h
    · rw [eb, ha] at h; cases h
  | true =>
    cases hb : z_lt0 w1 (I 4 0 2) with
    | false =>
      refine ⟨z_i (-1), X, X, I, I, J, J, z_q85_e (d := 59) x w1 v ⟨fun _ => rfl, fun _ => ⟨fun _ => rfl, fun h => ?_⟩⟩, z_q212_e (d := 59) x w1 v ⟨fun _ => rfl, fun _ => ⟨fun _ => rfl, fun h => ?_⟩⟩, hR0, Nat.le_succ _, Nat.le_add_right _ _, rfl⟩
      · rw [hb] at h; cases h
      · rw [eb, hb] at h; cases h
    | true =>
      cases hv : z_bw v 0 4 with
      | false =>
        refine ⟨z_i (-1), X, X, I, I, J, J, z_q85_e (d := 59) x w1 v ⟨fun _ => rfl, fun _ => ⟨fun _ => rfl, fun _ => ⟨fun _ => rfl, fun h1 => ⟨fun h2 => ?_, fun _ => rfl⟩⟩⟩⟩, z_q212_e (d := 59) x w1 v ⟨fun _ => rfl, fun _ => ⟨fun _ => rfl, fun _ => ⟨fun h => ?_, fun _ => rfl⟩⟩⟩, hR0, Nat.le_succ _, Nat.le_add_right _ _, rfl⟩
        · rw [z_bw_t.mpr ⟨h1, h2⟩] at hv; cases hv
        · rw [hv] at h; cases h
      | true =>
        obtain ⟨a, ha1, rfl⟩ := z_lt0n ha l2 (by omega)
        obtain ⟨b, hb1, rfl⟩ := z_lt0n hb l2 (by omega)
        obtain ⟨g0, g1⟩ := z_bw_t.mp hv
        obtain ⟨v, hv', rfl⟩ := z_bwn (n := 4) hv (by decide)
        have hw : z_ag [0, 1] I (z_up (z_up (z_up (z_up I 6 0 (5 * a + b) (Int32.ofNat v)) 6 0 (5 * b + a) (Int32.ofNat v)) 38 0 (5 * a + b) (Int32.ofNat v)) 38 0 (5 * b + a) (Int32.ofNat v)) :=
          z_ag_up (z_ag_up (z_ag_up (z_ag_up z_ag_rf rfl) rfl) rfl) rfl
        refine ⟨z_i (I 38 0 (5 * a + b)), X, X, z_up (z_up I 6 0 (5 * a + b) (Int32.ofNat v)) 6 0 (5 * b + a) (Int32.ofNat v), z_up (z_up (z_up (z_up I 6 0 (5 * a + b) (Int32.ofNat v)) 6 0 (5 * b + a) (Int32.ofNat v)) 38 0 (5 * a + b) (Int32.ofNat v)) 38 0 (5 * b + a) (Int32.ofNat v), J, J,
          z_q85_e (d := 59) _ _ _ ⟨fun h => ?_, fun _ => ⟨fun h => ?_, fun _ => ⟨fun h => absurd h (Int32.not_lt.mpr g0), fun _ => ⟨fun _ => ⟨_, _, _, _, z_p7 (by omega) (by omega), _, _, _, z_p8 (by omega) (by omega) _, by rw [l5 _ (by omega)]⟩, fun h => absurd g1 (Int32.not_le.mpr h)⟩⟩⟩⟩,
          z_q212_e (d := 59) _ _ _ ⟨fun h => ?_, fun _ => ⟨fun h => ?_, fun _ => ⟨fun _ => ⟨5 * a + b, z_o5 a b, by omega, 5 * b + a, z_o5 b a, by omega, rfl⟩, fun h => ?_⟩⟩⟩,
          z_R_01 hR0 hw rfl rfl ⟨n1, n2, ⟨k, l1, l2, l3, l4, fun j hj => ?_, l6, fun a' b' ha' hb' => ?_⟩, n4, n5⟩, Nat.le_succ _, Nat.le_add_right _ _, z_67_ag hw rfl⟩
        · rw [ha] at h; cases h
        · rw [hb] at h; cases h
        · rw [show z_bw (Int32.ofNat a) 0 (z_up (z_up I 6 0 (5 * a + b) (Int32.ofNat v)) 6 0 (5 * b + a) (Int32.ofNat v) 33 0 4 - 1) = _ from eb _, ha] at h; cases h
        · rw [show z_bw (Int32.ofNat b) 0 (z_up (z_up I 6 0 (5 * a + b) (Int32.ofNat v)) 6 0 (5 * b + a) (Int32.ofNat v) 33 0 4 - 1) = _ from eb _, hb] at h; cases h
        · rw [hv] at h; cases h
        · show z_up (z_up I 6 0 (5 * a + b) (Int32.ofNat v)) 6 0 (5 * b + a) (Int32.ofNat v) 6 0 j = z_up (z_up (z_up (z_up I 6 0 (5 * a + b) (Int32.ofNat v)) 6 0 (5 * b + a) (Int32.ofNat v)) 38 0 (5 * a + b) (Int32.ofNat v)) 38 0 (5 * b + a) (Int32.ofNat v) 38 0 j
          by_cases h1 : j = 5 * b + a
          · subst h1; rw [z_up_e, z_up_e]
          · rw [z_up_j h1, z_up_j h1]
            by_cases h2 : j = 5 * a + b
            · subst h2; rw [z_up_e, z_up_e]
            · rw [z_up_j h2, z_up_j h2]; exact l5 j hj
        · have f : ∀ j, j ≠ 5 * a + b → j ≠ 5 * b + a → z_up (z_up (z_up (z_up I 6 0 (5 * a + b) (Int32.ofNat v)) 6 0 (5 * b + a) (Int32.ofNat v)) 38 0 (5 * a + b) (Int32.ofNat v)) 38 0 (5 * b + a) (Int32.ofNat v) 38 0 j = I 38 0 j := fun j h1 h2 => by rw [z_up_j h2, z_up_j h1]; rfl
          have f1 : z_up (z_up (z_up (z_up I 6 0 (5 * a + b) (Int32.ofNat v)) 6 0 (5 * b + a) (Int32.ofNat v)) 38 0 (5 * a + b) (Int32.ofNat v)) 38 0 (5 * b + a) (Int32.ofNat v) 38 0 (5 * a + b) = Int32.ofNat v := by
            by_cases h1 : 5 * a + b = 5 * b + a
            · rw [h1, z_up_e]
            · rw [z_up_j h1, z_up_e]
          have f2 : z_up (z_up (z_up (z_up I 6 0 (5 * a + b) (Int32.ofNat v)) 6 0 (5 * b + a) (Int32.ofNat v)) 38 0 (5 * a + b) (Int32.ofNat v)) 38 0 (5 * b + a) (Int32.ofNat v) 38 0 (5 * b + a) = Int32.ofNat v := z_up_e
          by_cases h1 : a' = a ∧ b' = b
          · obtain ⟨rfl, rfl⟩ := h1
            exact ⟨v, hv', f1, f2⟩
          · by_cases h2 : a' = b ∧ b' = a
            · obtain ⟨rfl, rfl⟩ := h2
              exact ⟨v, hv', f2, f1⟩
            · obtain ⟨v2, q1, q2, q3⟩ := l7 a' b' ha' hb'
              exact ⟨v2, q1, (f _ (by omega) (by omega)).trans q2, (f _ (by omega) (by omega)).trans q3⟩
