/-! calls of both: rows altered, weights, chances, posts -/
theorem z_o4 (a b : Nat) : (4 : Int32) * Int32.ofNat a + Int32.ofNat b = Int32.ofNat (4 * a + b) := by
  rw [Int32.ofNat_add, Int32.ofNat_mul]; rfl
theorem z_o5 (a b : Nat) : (5 : Int32) * Int32.ofNat a + Int32.ofNat b = Int32.ofNat (5 * a + b) := by
  rw [Int32.ofNat_add, Int32.ofNat_mul]; rfl
theorem z_o5' (a b : Nat) : Int32.ofNat a * (5 : Int32) + Int32.ofNat b = Int32.ofNat (5 * a + b) := by
  rw [Int32.ofNat_add, Int32.ofNat_mul, Int32.mul_comm]; rfl
theorem z_bwn {x : Int32} {n : Nat} (h : z_bw x 0 (Int32.ofNat n) = true) (hn : n ≤ 1000000) : ∃ k, k ≤ n ∧ x = Int32.ofNat k := by
  obtain ⟨h0, h1⟩ := z_bw_t.mp h
  exact z_nat' h0 h1 hn
theorem z_bw_of {n m : Nat} (h : n ≤ m) (hm : m ≤ 1000000) : z_bw (Int32.ofNat n) 0 (Int32.ofNat m) = true :=
  z_bw_t.mpr ⟨(z_ole (a := 0) (by decide) (by omega)).mpr (Nat.zero_le _), (z_ole (by omega) hm).mpr h⟩
/-- promise 41 -/
theorem z_op_alterRow (x w1 v : Int32) : z_op 106 247 [z_i x, z_i w1, z_i v] := by
  intro X I J hR
  have hR0 := hR
  obtain ⟨n1, r2, r3, ⟨k, hk, e1, e2, e3⟩, r5, r6, r7, r8⟩ := hR
  have eb : z_bw x 0 (I 33 0 37 - 1) = z_lt0 x (I 0 0 7) := by rw [z_bw_lt e2 (by omega), e1, e2]
  cases hb : (z_lt0 x (I 0 0 7) && z_bw w1 0 1) with
  | false =>
    refine ⟨z_i (-9), X, X, I, I, J, J, z_q106_e (d := 59) x w1 v ⟨fun h => ?_, fun _ => rfl⟩, z_q247_e (d := 57) x w1 v ⟨fun h => ?_, fun _ => rfl⟩, hR0, Nat.le_succ _, Nat.le_add_right _ _, rfl⟩
    · rw [hb] at h; cases h
    · rw [eb, hb] at h; cases h
  | true =>
    simp only [Bool.and_eq_true] at hb
    obtain ⟨hb1, hb2⟩ := hb
    obtain ⟨j, hj, rfl⟩ := z_lt0n hb1 e1 (by omega)
    rcases z_bw1 hb2 with rfl | rfl
    · refine ⟨z_i (I 53 0 (2 * j)), X, X, z_up I 19 0 j v, z_up (z_up I 19 0 j v) 53 0 (2 * j) v, J, J, z_q106_e (d := 59) _ _ v ⟨fun _ => ⟨fun h => absurd rfl h, fun _ => ⟨j, rfl, by omega, by rw [(e3 j hj).1]⟩⟩, fun h => ?_⟩, z_q247_e (d := 57) _ _ v ⟨fun _ => ⟨2 * j, z_o2 j 0, by omega, rfl⟩, fun h => ?_⟩, ⟨n1, r2, r3, ⟨k, hk, e1, e2, fun i hi => ⟨?_, ?_⟩⟩, r5, r6, r7, r8⟩, Nat.le_succ _, Nat.le_add_right _ _, rfl⟩
      · rw [hb1, hb2] at h; cases h
      · rw [show z_bw (Int32.ofNat j) 0 (z_up I 19 0 j v 33 0 37 - 1) = _ from eb, hb1, hb2] at h; cases h
      · show z_up I 19 0 j v 19 0 i = z_up (z_up I 19 0 j v) 53 0 (2 * j) v 53 0 (2 * i)
        by_cases hij : i = j
        · subst hij; rw [z_up_e, z_up_e]
        · rw [z_up_j hij, z_up_j (by omega)]; exact (e3 i hi).1
      · show I 20 0 i = z_up (z_up I 19 0 j v) 53 0 (2 * j) v 53 0 (2 * i + 1)
        rw [z_up_j (by omega)]; exact (e3 i hi).2
    · refine ⟨z_i (I 53 0 (2 * j + 1)), X, X, z_up I 20 0 j v, z_up (z_up I 20 0 j v) 53 0 (2 * j + 1) v, J, J, z_q106_e (d := 59) _ _ v ⟨fun _ => ⟨fun _ => ⟨j, rfl, by omega, by rw [(e3 j hj).2]⟩, fun h => absurd h (by decide)⟩, fun h => ?_⟩, z_q247_e (d := 57) _ _ v ⟨fun _ => ⟨2 * j + 1, z_o2 j 1, by omega, rfl⟩, fun h => ?_⟩, ⟨n1, r2, r3, ⟨k, hk, e1, e2, fun i hi => ⟨?_, ?_⟩⟩, r5, r6, r7, r8⟩, Nat.le_succ _, Nat.le_add_right _ _, rfl⟩
      · rw [hb1, hb2] at h; cases h
      · rw [show z_bw (Int32.ofNat j) 0 (z_up I 20 0 j v 33 0 37 - 1) = _ from eb, hb1, hb2] at h; cases h
      · show I 19 0 i = z_up (z_up I 20 0 j v) 53 0 (2 * j + 1) v 53 0 (2 * i)
        rw [z_up_j (by omega)]; exact (e3 i hi).1
      · show z_up I 20 0 j v 20 0 i = z_up (z_up I 20 0 j v) 53 0 (2 * j + 1) v 53 0 (2 * i + 1)
        by_cases hij : i = j
        · subst hij; rw [z_up_e, z_up_e]
        · rw [z_up_j hij, z_up_j (by omega)]; exact (e3 i hi).2
section
variable {d : Nat} {X : z_X} {I : Nat → Nat → Nat → Int32} {J : Nat → Nat → Nat → Int64}
theorem z_p229 {s c : Nat} (hs : s < 6) (hc : c < 4) : z_ev d (z_en 229 [z_r 33 0, z_i (Int32.ofNat s), z_i (Int32.ofNat c)] (true, X, I, J)) (some (z_i (I 39 0 (4 * s + c))), (true, X, I, J)) := z_q229_e _ _ ⟨4 * s + c, z_o4 s c, by omega, rfl⟩
theorem z_p7 {a b : Nat} (ha : a < 5) (hb : b < 5) : z_ev d (z_en 7 [z_r 4 0, z_i (Int32.ofNat a), z_i (Int32.ofNat b)] (true, X, I, J)) (some (z_i (I 6 0 (5 * a + b))), (true, X, I, J)) := z_q7_e _ _ ⟨5 * a + b, z_o5' a b, by omega, rfl⟩
theorem z_p8 {a b : Nat} (ha : a < 5) (hb : b < 5) (v : Int32) : z_ev d (z_en 8 [z_r 4 0, z_i (Int32.ofNat a), z_i (Int32.ofNat b), z_i v] (true, X, I, J)) (none, (true, X, z_up (z_up I 6 0 (5 * a + b) v) 6 0 (5 * b + a) v, J)) := z_q8_e _ _ v ⟨5 * a + b, z_o5' a b, by omega, 5 * b + a, z_o5' b a, by omega, rfl⟩
end
/-- promise 31 -/
theorem z_op_weight (x v : Int32) : z_op 96 232 [z_i x, z_i v] := by
  intro X I J hR
  have hR0 := hR
  obtain ⟨⟨n1, n2, n3, n4, ⟨k, hk, e1, e2, e3⟩⟩, r2, r3, r4, r5, r6, r7, r8⟩ := hR
  have eb : z_bw x 0 (I 33 0 8 - 1) = z_lt0 x (I 1 0 5) := by rw [z_bw_lt e2 (by omega), e1, e2]
  cases hb : z_lt0 x (I 1 0 5) with
  | false =>
    refine ⟨z_i (-1), X, X, I, I, J, J, z_q96_e (d := 59) x v ⟨fun _ => rfl, fun h => ?_⟩, z_q232_e (d := 58) x v ⟨fun _ => rfl, fun h => ?_⟩, hR0, Nat.le_succ _, Nat.le_add_right _ _, rfl⟩
    · rw [hb] at h; cases h
    · rw [eb, hb] at h; cases h
  | true =>
    cases hv : z_bw v 0 99 with
    | false =>
      refine ⟨z_i (-1), X, X, I, I, J, J, z_q96_e (d := 59) x v ⟨fun _ => rfl, fun _ => ⟨fun _ => rfl, fun h1 => ⟨fun h2 => ?_, fun _ => rfl⟩⟩⟩, z_q232_e (d := 58) x v ⟨fun _ => rfl, fun _ => ⟨fun h => ?_, fun _ => rfl⟩⟩, hR0, Nat.le_succ _, Nat.le_add_right _ _, rfl⟩
      · rw [z_bw_t.mpr ⟨h1, h2⟩] at hv; cases hv
      · rw [hv] at h; cases h
    | true =>
      obtain ⟨j, hj, rfl⟩ := z_lt0n hb e1 (by omega)
      obtain ⟨g0, g1⟩ := z_bw_t.mp hv
      obtain ⟨v', hv', rfl⟩ := z_bwn (n := 99) hv (by decide)
      obtain ⟨q, c, s1, s2, s3, s4, s5, s6, s7, s8, s9, ⟨vv, s10, s11, s12⟩, s13⟩ := e3 j hj
      refine ⟨z_i (I 39 0 (4 * j + 3)), X, X, z_up I 12 0 j (Int32.ofNat v'), z_up (z_up I 12 0 j (Int32.ofNat v')) 39 0 (4 * j + 3) (Int32.ofNat v'), J, J,
        z_q96_e (d := 59) _ _ ⟨fun h => ?_, fun _ => ⟨fun h => absurd h (Int32.not_lt.mpr g0), fun _ => ⟨fun _ => ⟨j, rfl, by omega, by rw [s11, s12]⟩, fun h => absurd g1 (Int32.not_le.mpr h)⟩⟩⟩,
        z_q232_e (d := 58) _ _ ⟨fun h => ?_, fun _ => ⟨fun _ => ⟨_, _, _, _, z_p229 (s := j) (c := 3) (by omega) (by omega), 4 * j + 3, z_o4 j 3, by omega, rfl⟩, fun h => ?_⟩⟩, ⟨⟨n1, n2, n3, n4, ⟨k, hk, e1, e2, fun s hs => ?_⟩⟩, ?_, r3, r4, r5, r6, r7, r8⟩, Nat.le_succ _, Nat.le_add_right _ _, rfl⟩
      · rw [hb] at h; cases h
      · rw [show z_bw (Int32.ofNat j) 0 (z_up I 12 0 j (Int32.ofNat v') 33 0 8 - 1) = _ from eb, hb] at h; cases h
      · rw [hv] at h; cases h
      · obtain ⟨q, c, s1, s2, s3, s4, s5, s6, s7, s8, s9, ⟨vv, s10, s11, s12⟩, s13⟩ := e3 s hs
        have f : ∀ i, i ≠ 4 * j + 3 → z_up (z_up I 12 0 j (Int32.ofNat v')) 39 0 (4 * j + 3) (Int32.ofNat v') 39 0 i = I 39 0 i := fun i hi => by rw [z_up_j hi]; rfl
        refine ⟨q, c, s1, s2, s3, s4, s5, ?_, s7, ?_, ?_, ?_, ?_⟩
        · rw [f _ (by omega)]; exact s6
        · rw [f _ (by omega)]; exact s8
        · rw [f _ (by omega)]; exact s9
        · by_cases hsj : s = j
          · subst hsj
            exact ⟨v', hv', by show z_up I 12 0 s _ 12 0 s = _; rw [z_up_e], z_up_e⟩
          · refine ⟨vv, s10, ?_, ?_⟩
            · show z_up I 12 0 j _ 12 0 s = _
              rw [z_up_j hsj]; exact s11
            · rw [f _ (by omega)]; exact s12
        · rw [f _ (by omega), f _ (by omega)]; exact s13
      · exact z_Rk_same rfl rfl (fun _ _ => rfl) (fun _ _ => rfl) rfl rfl rfl rfl rfl rfl rfl rfl rfl r2
/-- promise 30 -/
theorem z_op_shareOf (x w1 : Int32) : z_op 95 231 [z_i x, z_i w1] := by
  refine z_op_q fun X I J hR => ?_
  obtain ⟨⟨-, -, -, -, ⟨k, hk, e1, e2, e3⟩⟩, -, -, -, -, -, -, -⟩ := hR
  have eb : z_bw x 0 (I 33 0 8 - 1) = z_lt0 x (I 1 0 5) := by rw [z_bw_lt e2 (by omega), e1, e2]
  cases hb : z_lt0 x (I 1 0 5) with
  | false =>
    refine ⟨z_i (-1), z_q95_e (d := 59) x w1 ⟨fun h => ?_, fun _ => rfl⟩, z_q231_e (d := 58) x w1 ⟨fun _ => rfl, fun h => ?_⟩⟩
    · rw [hb] at h; cases h
    · rw [eb, hb] at h; cases h
  | true =>
    obtain ⟨j, hj, rfl⟩ := z_lt0n hb e1 (by omega)
    obtain ⟨q, c, s1, s2, s3, s4, s5, s6, s7, s8, s9, ⟨vv, s10, s11, s12⟩, s13⟩ := e3 j hj
    cases hv : z_bw w1 0 3 with
    | false =>
      have hne : ∀ n : Nat, n < 4 → w1 ≠ Int32.ofNat n := by
        intro n hn e
        subst e
        have hv2 : z_bw (Int32.ofNat n) 0 3 = true := z_bw_of (m := 3) (by omega) (by decide)
        rw [hv2] at hv
        cases hv
      refine ⟨z_i (-1), z_q95_e (d := 59) _ w1 ⟨fun _ => ⟨j, rfl, by omega, q, s2, fun h => absurd h (hne 0 (by decide)), fun _ => ⟨fun h => absurd h (hne 1 (by decide)), fun _ => ⟨fun h => absurd h (hne 2 (by decide)), fun _ => ⟨fun h => absurd h (hne 3 (by decide)), fun _ => rfl⟩⟩⟩⟩, fun _ => rfl⟩, z_q231_e (d := 58) _ w1 ⟨fun _ => rfl, fun _ => ⟨fun _ => rfl, fun h => ?_⟩⟩⟩
      rw [hv] at h; cases h
    | true =>
      obtain ⟨n, hn, rfl⟩ := z_bw3 hv
      refine ⟨z_i (I 39 0 (4 * j + n)), z_q95_e (d := 59) _ _ ⟨fun _ => ⟨j, rfl, by omega, q, s2, ?_⟩, fun h => ?_⟩, z_q231_e (d := 58) _ _ ⟨fun h => ?_, fun _ => ⟨fun h => ?_, fun _ => ⟨_, _, _, _, z_p229 (by omega) hn, rfl⟩⟩⟩⟩
      · match n, hn with
        | 0, _ => exact ⟨fun _ => ⟨s1, by rw [s5, Nat.add_zero, s6]⟩, fun h => absurd rfl h⟩
        | 1, _ => exact ⟨fun h => absurd h (by decide), fun _ => ⟨fun _ => ⟨s1, by rw [s8]⟩, fun h => absurd rfl h⟩⟩
        | 2, _ => exact ⟨fun h => absurd h (by decide), fun _ => ⟨fun h => absurd h (by decide), fun _ => ⟨fun _ => ⟨s1, by rw [s9]⟩, fun h => absurd rfl h⟩⟩⟩
        | 3, _ => exact ⟨fun h => absurd h (by decide), fun _ => ⟨fun h => absurd h (by decide), fun _ => ⟨fun h => absurd h (by decide), fun _ => ⟨fun _ => by rw [s11, s12], fun h => absurd rfl h⟩⟩⟩⟩
      · rw [hb] at h; cases h
      · rw [eb, hb] at h; cases h
      · rw [hv] at h; cases h
