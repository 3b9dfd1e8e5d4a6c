/-! calls of both: put -/
def z_nw (s : Nat) (x : Int32) : Int32 := if s = 0 then x.toInt8.toInt32 else if s = 1 then x.toInt16.toInt32 else x
section
variable {d : Nat} {X : z_X} {I : Nat → Nat → Nat → Int32} {J : Nat → Nat → Nat → Int64}
theorem z_p34 {n s : Nat} (hn : n < 4) (hs : s < 4) (x : Int32) (h : I 30 n 1 = Int32.ofNat s) : z_ev d (z_en 34 [z_r 30 n, z_i x] (true, X, I, J)) (some (z_j (z_nw s x).toInt64), (true, X, I, J)) := by
  refine z_q34_e n hn x ?_
  rw [h]
  match s, hs with
  | 0, _ => exact ⟨fun _ => rfl, fun q => absurd rfl q⟩
  | 1, _ => exact ⟨fun q => absurd q (by decide), fun _ => ⟨fun _ => rfl, fun q => absurd rfl q⟩⟩
  | 2, _ => exact ⟨fun q => absurd q (by decide), fun _ => ⟨fun q => absurd q (by decide), fun _ => rfl⟩⟩
  | 3, _ => exact ⟨fun q => absurd q (by decide), fun _ => ⟨fun q => absurd q (by decide), fun _ => rfl⟩⟩
end
/-- promise 44 -/
theorem z_op_put (x i v : Int32) : z_op 109 251 [z_i x, z_i i, z_i v] := by
  intro X I J hR
  have hR0 := hR
  obtain ⟨n1, r2, r3, r4, r5, r6, r7, r8⟩ := hR
  cases ha : z_bw x 0 3 with
  | false =>
    refine ⟨z_i (-1), X, X, I, I, J, J, z_q109_e (d := 59) x i v ⟨fun h => ?_, fun _ => rfl⟩, z_q251_e (d := 58) x i v ⟨fun h => ?_, fun _ => rfl⟩, hR0, Nat.le_succ _, Nat.le_add_right _ _, rfl⟩
    · rw [ha] at h; cases h
    · rw [ha] at h; cases h
  | true =>
    obtain ⟨n, hn, rfl⟩ := z_bw3 ha
    have fa : ∀ {P : Prop}, z_bw (Int32.ofNat n) 0 3 = false → P := fun h => by rw [ha] at h; cases h
    obtain ⟨s1, s2, s3, s4⟩ := r5 n hn
    rcases s3 with ⟨t1, t2⟩ | ⟨s, l, hs, hl, t1, t2⟩
    · exact ⟨z_i (-11), X, X, I, I, J, J, z_q109_e (d := 59) _ i v ⟨fun _ => ⟨n, rfl, hn, fun h => absurd (s1.trans t1) h, fun _ => rfl⟩, fun h => fa h⟩, z_q251_e (d := 58) _ i v ⟨fun _ => ⟨n, rfl, hn, fun h => absurd h (by rw [t1]; decide), fun _ => rfl⟩, fun h => fa h⟩, hR0, Nat.le_succ _, Nat.le_add_right _ _, rfl⟩
    · have e1 : I 30 n 1 = Int32.ofNat s := s1.trans t1
      have e2 : I 30 n 2 = Int32.ofNat l := s2.trans t2
      have g9 : (0 : Int32) ≤ I 55 0 n := by rw [t1]; exact z_on0 s (by omega)
      cases hi : z_lt0 i (Int32.ofNat l) with
      | false =>
        refine ⟨z_i (-12), X, X, I, I, J, J, z_q109_e (d := 59) _ i v ⟨fun _ => ⟨n, rfl, hn, fun _ => ⟨fun _ => rfl, fun h1 => ⟨fun h2 => ?_, fun _ => rfl⟩⟩, fun h => absurd (e1.symm.trans h) (z_om1 (by omega))⟩, fun h => fa h⟩, z_q251_e (d := 58) _ i v ⟨fun _ => ⟨n, rfl, hn, fun _ => ⟨fun h => ?_, fun _ => rfl⟩, fun h => absurd g9 (Int32.not_le.mpr h)⟩, fun h => fa h⟩, hR0, Nat.le_succ _, Nat.le_add_right _ _, rfl⟩
        · rw [e2] at h2; rw [z_lt0_t.mpr ⟨h1, h2⟩] at hi; cases hi
        · rw [z_bw_lt t2 (by omega), t2, hi] at h; cases h
      | true =>
        obtain ⟨j, hj, rfl⟩ := z_lt0n hi rfl (by omega)
        obtain ⟨g0, g1⟩ := z_lt0_t.mp hi
        refine ⟨z_i 1, X, X, I, I, z_up J 31 n j (z_nw s v).toInt64, z_up (z_up J 31 n j (z_nw s v).toInt64) 57 0 (40 * n + j) (z_nw s v).toInt64,
          z_q109_e (d := 59) _ _ v ⟨fun _ => ⟨n, rfl, hn, fun _ => ⟨fun h => absurd h (Int32.not_lt.mpr g0), fun _ => ⟨fun _ => ⟨_, _, _, _, z_p34 hn hs v e1, j, rfl, by omega, rfl⟩, fun h => ?_⟩⟩, fun h => absurd (e1.symm.trans h) (z_om1 (by omega))⟩, fun h => fa h⟩,
          z_q251_e (d := 58) _ _ v ⟨fun _ => ⟨n, rfl, hn, fun _ => ⟨fun _ => ?_, fun h => ?_⟩, fun h => absurd g9 (Int32.not_le.mpr h)⟩, fun h => fa h⟩, ⟨n1, r2, r3, r4, fun u hu => ?_, r6, r7, r8⟩, Nat.le_succ _, Nat.le_add_right _ _, rfl⟩
        · rw [e2] at h; exact absurd g1 (Int32.not_lt.mpr h)
        · have hk : ∀ s9, s9 < 4 → I 55 0 n = Int32.ofNat s9 → ((¬ I 55 0 n = 0 → ((¬ I 55 0 n = (1 : Int32) → (∃ k7 : Nat, (((40 : Int32) * (Int32.ofNat n)) + (Int32.ofNat j)) = Int32.ofNat k7 ∧ k7 < 160 ∧ (some (z_i 1), (true, X, I, z_up (z_up J 31 n j (z_nw s9 v).toInt64) 57 0 (40 * n + j) (z_nw s9 v).toInt64)) = ((some (z_i 1), (true, X, I, (z_up (z_up J 31 n j (z_nw s9 v).toInt64) 57 0 k7 v.toInt64))) : Option z_V × z_M))) ∧ (I 55 0 n = (1 : Int32) → (∃ k11 : Nat, (((40 : Int32) * (Int32.ofNat n)) + (Int32.ofNat j)) = Int32.ofNat k11 ∧ k11 < 160 ∧ (some (z_i 1), (true, X, I, z_up (z_up J 31 n j (z_nw s9 v).toInt64) 57 0 (40 * n + j) (z_nw s9 v).toInt64)) = ((some (z_i 1), (true, X, I, (z_up (z_up J 31 n j (z_nw s9 v).toInt64) 57 0 k11 v.toInt16.toInt32.toInt64))) : Option z_V × z_M))))) ∧ (I 55 0 n = 0 → (∃ k18 : Nat, (((40 : Int32) * (Int32.ofNat n)) + (Int32.ofNat j)) = Int32.ofNat k18 ∧ k18 < 160 ∧ (some (z_i 1), (true, X, I, z_up (z_up J 31 n j (z_nw s9 v).toInt64) 57 0 (40 * n + j) (z_nw s9 v).toInt64)) = ((some (z_i 1), (true, X, I, (z_up (z_up J 31 n j (z_nw s9 v).toInt64) 57 0 k18 v.toInt8.toInt32.toInt64))) : Option z_V × z_M)))) := by
            intro s9 hs9 e9
            rw [e9]
            match s9, hs9 with
            | 0, _ => exact ⟨fun q => absurd rfl q, fun _ => ⟨40 * n + j, z_o40 n j, by omega, rfl⟩⟩
            | 1, _ => exact ⟨fun _ => ⟨fun q => absurd rfl q, fun _ => ⟨40 * n + j, z_o40 n j, by omega, rfl⟩⟩, fun q => absurd q (by decide)⟩
            | 2, _ => exact ⟨fun _ => ⟨fun _ => ⟨40 * n + j, z_o40 n j, by omega, rfl⟩, fun q => absurd q (by decide)⟩, fun q => absurd q (by decide)⟩
            | 3, _ => exact ⟨fun _ => ⟨fun _ => ⟨40 * n + j, z_o40 n j, by omega, rfl⟩, fun q => absurd q (by decide)⟩, fun q => absurd q (by decide)⟩
          exact hk s hs t1
        · rw [z_bw_lt t2 (by omega), t2, hi] at h; cases h
        · obtain ⟨q1, q2, q3, q4⟩ := r5 u hu
          refine ⟨q1, q2, q3, fun c hc => ?_⟩
          show z_up J 31 n j (z_nw s v).toInt64 31 u c = z_up (z_up J 31 n j (z_nw s v).toInt64) 57 0 (40 * n + j) (z_nw s v).toInt64 57 0 (40 * u + c) ∧ ∃ x9 : Int32, z_up (z_up J 31 n j (z_nw s v).toInt64) 57 0 (40 * n + j) (z_nw s v).toInt64 57 0 (40 * u + c) = x9.toInt64
          by_cases hun : u = n
          · subst hun
            by_cases hcj : c = j
            · subst hcj; rw [z_up_e, z_up_e]; exact ⟨rfl, _, rfl⟩
            · rw [z_up_j hcj, z_up_j (by omega)]; exact q4 c hc
          · rw [z_up_i hun, z_up_j (by omega)]; exact q4 c hc
