/-! calls of both: sheets -/
theorem z_o40 (a b : Nat) : (40 : Int32) * Int32.ofNat a + Int32.ofNat b = Int32.ofNat (40 * a + b) := by
  rw [Int32.ofNat_add, Int32.ofNat_mul]; rfl
theorem z_on0 (k : Nat) (hk : k ≤ 1000000) : (0 : Int32) ≤ Int32.ofNat k := (z_ole (a := 0) (by decide) hk).mpr (Nat.zero_le k)
theorem z_om1 {k : Nat} (hk : k ≤ 1000000) : ¬ Int32.ofNat k = -1 := by
  intro h
  have h0 := z_on0 k hk
  rw [h] at h0
  exact absurd h0 (by decide)
section
variable {d : Nat} {X : z_X} {I : Nat → Nat → Nat → Int32} {J : Nat → Nat → Nat → Int64}
theorem z_p252a {n : Nat} (hn : n < 4) (x : Int32) (h : I 55 0 n = -1) : z_ev d (z_en 252 [z_r 33 0, z_i (Int32.ofNat n), z_i x] (true, X, I, J)) (some (z_i (-11)), (true, X, I, J)) :=
  z_q252_e _ x ⟨n, rfl, hn, fun q => absurd q (by rw [h]; decide), fun _ => rfl⟩
theorem z_p252b {n s : Nat} (hn : n < 4) (hs : s < 4) (x : Int32) (h : I 55 0 n = Int32.ofNat s) : z_ev d (z_en 252 [z_r 33 0, z_i (Int32.ofNat n), z_i x] (true, X, I, J)) (some (z_i (if Int32.ofNat s = x then 0 else -13)), (true, X, I, J)) := by
  refine z_q252_e _ x ⟨n, rfl, hn, fun _ => ⟨fun q => ?_, fun q => ?_⟩, fun q => ?_⟩
  · rw [h] at q; rw [if_pos q]
  · rw [h] at q; rw [if_neg q]
  · rw [h] at q; exact absurd q (Int32.not_lt.mpr (z_on0 s (by omega)))
end
/-- promise 45 -/
theorem z_op_item (x so i : Int32) : z_op 110 253 [z_i x, z_i so, z_i i] := by
  refine z_op_q fun X I J hR => ?_
  obtain ⟨-, -, -, -, r5, -, -, -⟩ := hR
  cases ha : z_bw x 0 3 with
  | false =>
    refine ⟨z_i (-1), z_q110_e (d := 59) x so i ⟨fun _ => rfl, fun h => ?_⟩, z_q253_e (d := 58) x so i ⟨fun _ => rfl, fun h => ?_⟩⟩
    · rw [ha] at h; cases h
    · rw [ha] at h; cases h
  | true =>
    cases hb : z_bw so 0 3 with
    | false =>
      refine ⟨z_i (-1), z_q110_e (d := 59) x so i ⟨fun _ => rfl, fun _ => ⟨fun h => ?_, fun _ => rfl⟩⟩, z_q253_e (d := 58) x so i ⟨fun _ => rfl, fun _ => ⟨fun h => ?_, fun _ => rfl⟩⟩⟩
      · rw [hb] at h; cases h
      · rw [hb] at h; cases h
    | true =>
      obtain ⟨n, hn, rfl⟩ := z_bw3 ha
      have fa : ∀ {P : Prop}, z_bw (Int32.ofNat n) 0 3 = false → P := fun h => by rw [ha] at h; cases h
      have fb : ∀ {P : Prop}, z_bw so 0 3 = false → P := fun h => by rw [hb] at h; cases h
      obtain ⟨s1, s2, s3, s4⟩ := r5 n hn
      rcases s3 with ⟨t1, t2⟩ | ⟨s, l, hs, hl, t1, t2⟩
      · exact ⟨z_i (-11), z_q110_e (d := 59) _ so i ⟨fun h => fa h, fun _ => ⟨fun _ => ⟨n, rfl, hn, fun h => absurd (s1.trans t1) h, fun _ => rfl⟩, fun h => fb h⟩⟩, z_q253_e (d := 58) _ so i ⟨fun h => fa h, fun _ => ⟨fun _ => ⟨_, _, _, _, z_p252a hn so t1, fun h => absurd h (by decide), fun _ => rfl⟩, fun h => fb h⟩⟩⟩
      · have e1 : I 30 n 1 = Int32.ofNat s := s1.trans t1
        have e2 : I 30 n 2 = Int32.ofNat l := s2.trans t2
        by_cases hso : Int32.ofNat s = so
        · have hm := z_p252b (d := 59) (X := X) (J := J) hn hs so t1
          rw [if_pos hso] at hm
          cases hi : z_lt0 i (Int32.ofNat l) with
          | false =>
            refine ⟨z_i (-12), z_q110_e (d := 59) _ so i ⟨fun h => fa h, fun _ => ⟨fun _ => ⟨n, rfl, hn, fun _ => ⟨fun _ => ⟨fun _ => rfl, fun h1 => ⟨fun h2 => ?_, fun _ => rfl⟩⟩, fun h => absurd (e1.trans hso) h⟩, fun h => absurd (e1.symm.trans h) (z_om1 (by omega))⟩, fun h => fb h⟩⟩, z_q253_e (d := 58) _ so i ⟨fun h => fa h, fun _ => ⟨fun _ => ⟨_, _, _, _, hm, fun _ => ⟨n, rfl, hn, fun _ => rfl, fun h => ?_⟩, fun h => absurd rfl h⟩, fun h => fb h⟩⟩⟩
            · rw [e2] at h2; rw [z_lt0_t.mpr ⟨h1, h2⟩] at hi; cases hi
            · rw [z_bw_lt t2 (by omega), t2, hi] at h; cases h
          | true =>
            obtain ⟨j, hj, rfl⟩ := z_lt0n hi rfl (by omega)
            obtain ⟨g0, g1⟩ := z_lt0_t.mp hi
            refine ⟨z_i ((J 57 0 (40 * n + j)).toInt32), z_q110_e (d := 59) _ so _ ⟨fun h => fa h, fun _ => ⟨fun _ => ⟨n, rfl, hn, fun _ => ⟨fun _ => ⟨fun h => absurd h (Int32.not_lt.mpr g0), fun _ => ⟨fun _ => ⟨j, rfl, by omega, by rw [(s4 j (by omega)).1]⟩, fun h => ?_⟩⟩, fun h => absurd (e1.trans hso) h⟩, fun h => absurd (e1.symm.trans h) (z_om1 (by omega))⟩, fun h => fb h⟩⟩, z_q253_e (d := 58) _ so _ ⟨fun h => fa h, fun _ => ⟨fun _ => ⟨_, _, _, _, hm, fun _ => ⟨n, rfl, hn, fun h => ?_, fun _ => ⟨40 * n + j, z_o40 n j, by omega, rfl⟩⟩, fun h => absurd rfl h⟩, fun h => fb h⟩⟩⟩
            · rw [e2] at h; exact absurd g1 (Int32.not_lt.mpr h)
            · rw [z_bw_lt t2 (by omega), t2, hi] at h; cases h
        · have hm := z_p252b (d := 59) (X := X) (J := J) hn hs so t1
          rw [if_neg hso] at hm
          exact ⟨z_i (-13), z_q110_e (d := 59) _ so i ⟨fun h => fa h, fun _ => ⟨fun _ => ⟨n, rfl, hn, fun _ => ⟨fun h => absurd (e1.symm.trans h) hso, fun _ => rfl⟩, fun h => absurd (e1.symm.trans h) (z_om1 (by omega))⟩, fun h => fb h⟩⟩, z_q253_e (d := 58) _ so i ⟨fun h => fa h, fun _ => ⟨fun _ => ⟨_, _, _, _, hm, fun h => absurd h (by decide), fun _ => rfl⟩, fun h => fb h⟩⟩⟩
