/-! calls of both: many -/
def z_pc (k : Nat) : Nat := ((List.range 11).filter (fun i => k.testBit i)).length
theorem z_pc_bc : ∀ k, k < 2048 → z_bc (Int32.ofNat k) = Int32.ofNat (z_pc k) := by decide +kernel
theorem z_ou_len {l : List (Nat × Nat)} (hn : l.Nodup) (hl : ∀ q ∈ l, 2 ≤ q.1 ∧ q.1 ≤ 4 ∧ q.2 < z_fon q.1) {k2 k3 k4 : Nat} (e2 : ∀ i, k2.testBit i = true ↔ (2, i) ∈ l) (e3 : ∀ i, k3.testBit i = true ↔ (3, i) ∈ l) (e4 : ∀ i, k4.testBit i = true ↔ (4, i) ∈ l) : l.length = z_pc k2 + z_pc k3 + z_pc k4 := by
  let U : List (Nat × Nat) := (List.range 11).map (fun i => (2, i)) ++ (List.range 11).map (fun i => (3, i)) ++ (List.range 11).map (fun i => (4, i))
  let P : Nat × Nat → Bool := fun q => if q.1 = 2 then k2.testBit q.2 else if q.1 = 3 then k3.testBit q.2 else k4.testBit q.2
  have hU : U.Nodup := by decide +kernel
  have hp : l.Perm (U.filter P) := by
    rw [List.perm_ext_iff_of_nodup hn (List.Pairwise.filter _ hU)]
    rintro ⟨a, b⟩
    rw [List.mem_filter]
    constructor
    · intro h
      obtain ⟨q1, q2, q3⟩ := hl _ h
      have q1 : 2 ≤ a := q1
      have q2 : a ≤ 4 := q2
      have q3 : b < z_fon a := q3
      have hb : b < 11 := Nat.lt_of_lt_of_le q3 (z_fon_le a q2)
      rcases (by omega : a = 2 ∨ a = 3 ∨ a = 4) with rfl | rfl | rfl
      · exact ⟨by simp [U]; omega, (e2 b).mpr h⟩
      · exact ⟨by simp [U]; omega, (e3 b).mpr h⟩
      · exact ⟨by simp [U]; omega, (e4 b).mpr h⟩
    · rintro ⟨h1, h2⟩
      have h3 : a = 2 ∨ a = 3 ∨ a = 4 := by
        simp [U] at h1
        omega
      rcases h3 with rfl | rfl | rfl
      · exact (e2 b).mp h2
      · exact (e3 b).mp h2
      · exact (e4 b).mp h2
  rw [hp.length_eq]
  show (List.filter P (_ ++ _ ++ _)).length = _
  rw [List.filter_append, List.filter_append, List.length_append, List.length_append, List.filter_map, List.filter_map, List.filter_map, List.length_map, List.length_map, List.length_map]
  rfl
theorem z_p64 {d : Nat} {X : z_X} {I : Nat → Nat → Nat → Int32} {J : Nat → Nat → Nat → Int64} : z_ev (d + 1) (z_en 64 [z_r 1 0] (true, X, I, J)) (some (z_i (0 + z_bc (I 3 0 2) + z_bc (I 3 0 3) + z_bc (I 3 0 4))), (true, X, I, J)) := z_q64_e (z_q64_4 _ _ ⟨fun h => absurd h (by decide), fun _ => ⟨2, rfl, by decide, z_q64_4 _ _ ⟨fun h => absurd h (by decide), fun _ => ⟨3, rfl, by decide, z_q64_4 _ _ ⟨fun h => absurd h (by decide), fun _ => ⟨4, rfl, by decide, z_q64_4 _ _ ⟨fun _ => rfl, fun h => absurd h (by decide)⟩⟩⟩⟩⟩⟩⟩)
/-- as many outs as the reference counts -/
theorem z_ou_cnt {co : Nat → Int32} {mo : Int32} {ou : Nat → Int32} (h : z_Ro co mo ou) : 0 + z_bc (co 2) + z_bc (co 3) + z_bc (co 4) = mo := by
  obtain ⟨l, h1, h2, h3, h4, h5, h6⟩ := h
  obtain ⟨k2, g2, q2, e2⟩ := h6 2 (by decide) (by decide)
  obtain ⟨k3, g3, q3, e3⟩ := h6 3 (by decide) (by decide)
  obtain ⟨k4, g4, q4, e4⟩ := h6 4 (by decide) (by decide)
  rw [h4, z_ou_len h2 h3 e2 e3 e4, q2, q3, q4, z_pc_bc k2 g2, z_pc_bc k3 g3, z_pc_bc k4 g4, Int32.zero_add, z_oa, z_oa]
/-- promise 50 -/
theorem z_op_many (x : Int32) : z_op 115 270 [z_i x] := by
  refine z_op_q fun X I J hR => ?_
  obtain ⟨⟨n1, n2, ⟨k, l1, l2, l3, -⟩, n4, ⟨k9, s1, s2, s3, -⟩⟩, r2, ⟨t, t1, t2, t3, -⟩, ⟨u, u1, u2, u3, -⟩, r5, r6, ⟨y, y1, y2, y3, -⟩, r8⟩ := hR
  by_cases h0 : x = 0
  · exact ⟨z_i (I 33 0 4), z_q115_e (d := 58) x ⟨fun _ => by rw [l2, l3], fun h => absurd h0 h⟩, z_q270_e x ⟨fun _ => rfl, fun h => absurd h0 h⟩⟩
  · by_cases h1 : x = 1
    · exact ⟨z_i (I 33 0 8), z_q115_e (d := 58) x ⟨fun h => absurd h h0, fun _ => ⟨fun _ => by rw [s2, s3], fun h => absurd h1 h⟩⟩, z_q270_e x ⟨fun h => absurd h h0, fun _ => ⟨fun _ => rfl, fun h => absurd h1 h⟩⟩⟩
    · by_cases h2 : x = 2
      · exact ⟨z_i (I 33 0 2), z_q115_e (d := 58) x ⟨fun h => absurd h h0, fun _ => ⟨fun h => absurd h h1, fun _ => ⟨fun _ => ⟨_, _, _, _, z_p64, by rw [z_ou_cnt n2]⟩, fun h => absurd h2 h⟩⟩⟩, z_q270_e x ⟨fun h => absurd h h0, fun _ => ⟨fun h => absurd h h1, fun _ => ⟨fun _ => rfl, fun h => absurd h2 h⟩⟩⟩⟩
      · by_cases h3 : x = 3
        · exact ⟨z_i (I 33 0 37), z_q115_e (d := 58) x ⟨fun h => absurd h h0, fun _ => ⟨fun h => absurd h h1, fun _ => ⟨fun h => absurd h h2, fun _ => ⟨fun _ => by rw [u2, u3], fun h => absurd h3 h⟩⟩⟩⟩, z_q270_e x ⟨fun h => absurd h h0, fun _ => ⟨fun h => absurd h h1, fun _ => ⟨fun h => absurd h h2, fun _ => ⟨fun _ => rfl, fun h => absurd h3 h⟩⟩⟩⟩⟩
        · by_cases h4 : x = 4
          · exact ⟨z_i (I 33 0 14), z_q115_e (d := 58) x ⟨fun h => absurd h h0, fun _ => ⟨fun h => absurd h h1, fun _ => ⟨fun h => absurd h h2, fun _ => ⟨fun h => absurd h h3, fun _ => ⟨fun _ => by rw [t2, t3], fun h => absurd h4 h⟩⟩⟩⟩⟩, z_q270_e x ⟨fun h => absurd h h0, fun _ => ⟨fun h => absurd h h1, fun _ => ⟨fun h => absurd h h2, fun _ => ⟨fun h => absurd h h3, fun _ => ⟨fun _ => rfl, fun h => absurd h4 h⟩⟩⟩⟩⟩⟩
          · by_cases h5 : x = 5
            · exact ⟨z_i (I 33 0 50), z_q115_e (d := 58) x ⟨fun h => absurd h h0, fun _ => ⟨fun h => absurd h h1, fun _ => ⟨fun h => absurd h h2, fun _ => ⟨fun h => absurd h h3, fun _ => ⟨fun h => absurd h h4, fun _ => ⟨fun _ => by rw [y2, y3], fun h => absurd h5 h⟩⟩⟩⟩⟩⟩, z_q270_e x ⟨fun h => absurd h h0, fun _ => ⟨fun h => absurd h h1, fun _ => ⟨fun h => absurd h h2, fun _ => ⟨fun h => absurd h h3, fun _ => ⟨fun h => absurd h h4, fun _ => ⟨fun _ => rfl, fun h => absurd h5 h⟩⟩⟩⟩⟩⟩⟩
            · exact ⟨z_i (-1), z_q115_e (d := 58) x ⟨fun h => absurd h h0, fun _ => ⟨fun h => absurd h h1, fun _ => ⟨fun h => absurd h h2, fun _ => ⟨fun h => absurd h h3, fun _ => ⟨fun h => absurd h h4, fun _ => ⟨fun h => absurd h h5, fun _ => rfl⟩⟩⟩⟩⟩⟩, z_q270_e x ⟨fun h => absurd h h0, fun _ => ⟨fun h => absurd h h1, fun _ => ⟨fun h => absurd h h2, fun _ => ⟨fun h => absurd h h3, fun _ => ⟨fun h => absurd h h4, fun _ => ⟨fun h => absurd h h5, fun _ => rfl⟩⟩⟩⟩⟩⟩⟩
