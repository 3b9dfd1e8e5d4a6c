/-! calls of both: taken -/
theorem z_bw10 (x : Int32) : z_bw (x - 10) 0 3 = z_bw x 10 13 := by
  rw [Bool.eq_iff_iff]
  constructor
  · intro h
    obtain ⟨k, hk, e⟩ := z_bw3 h
    have ew : x = Int32.ofNat (10 + k) := by
      have h9 : x = 10 + (x - 10) := by rw [Int32.add_comm, Int32.sub_add_cancel]
      rw [h9, e]; exact z_oa 10 k
    rw [ew]
    exact z_bw_t.mpr ⟨(z_ole (a := 10) (by decide) (by omega)).mpr (by omega), (z_ole (b := 13) (by omega) (by decide)).mpr (by omega)⟩
  · intro h
    obtain ⟨h0, h1⟩ := z_bw_t.mp h
    obtain ⟨k, hk, rfl⟩ := z_nat' (n := 13) (Int32.le_trans (by decide) h0) h1 (by decide)
    have h2 : 10 ≤ k := (z_ole (a := 10) (by decide) (by omega)).mp h0
    obtain ⟨j, rfl⟩ : ∃ j, k = j + 10 := ⟨k - 10, by omega⟩
    rw [Int32.ofNat_add, show (Int32.ofNat j + Int32.ofNat 10 - 10) = Int32.ofNat j from Int32.add_sub_cancel _ _]
    exact z_bw_of (m := 3) (by omega) (by decide)
def z_of (c a : Nat) : Bool := Nat.beq a 0 || Nat.beq a c || (Nat.beq a 1 && !(Nat.beq c 0))
/-- what lies on a shelf -/
theorem z_sho {X : z_X} {I : Nat → Nat → Nat → Int32} {J : Nat → Nat → Nat → Int64} (hR : z_R X I J) {n : Nat} (hn : n < 4) :
    (I 22 0 n < 10 ∧ (∀ d, z_ev (d + 1) (z_en 155 [z_r 0 0, z_i (Int32.ofNat n)] (true, X, I, J)) (some z_n, (true, X, I, J))) ∧ ∀ d, z_ev (d + 2) (z_en 256 [z_r 33 0, z_i (Int32.ofNat n)] (true, X, I, J)) (some (z_i (-1)), (true, X, I, J))) ∨
    (∃ q c j, I 22 0 n < 10 ∧ (∀ d, z_ev (d + 1) (z_en 155 [z_r 0 0, z_i (Int32.ofNat n)] (true, X, I, J)) (some (z_r 32 q), (true, X, I, J))) ∧ (∀ d, z_ev (d + 2) (z_en 256 [z_r 33 0, z_i (Int32.ofNat n)] (true, X, I, J)) (some (z_i (Int32.ofNat c)), (true, X, I, J))) ∧ c < 4 ∧ q < X.1 ∧ X.2.2.1 q = z_kc c ∧ j < 6 ∧ I 59 0 n = Int32.ofNat j ∧ I 32 q 1 = Int32.ofNat j ∧ I 32 q 0 = Int32.ofNat c ∧ I 32 q 2 = I 39 0 (4 * j + 1) ∧ I 32 q 3 = I 39 0 (4 * j + 2) ∧ z_kv c (I 39 0 (4 * j + 1)) (I 39 0 (4 * j + 2))) ∨
    (∃ s, s < 4 ∧ I 22 0 n = Int32.ofNat (10 + s) ∧ (∀ d, z_ev (d + 2) (z_en 256 [z_r 33 0, z_i (Int32.ofNat n)] (true, X, I, J)) (some (z_i 9), (true, X, I, J))) ∧ (∀ d, z_ev (d + 1) (z_en 155 [z_r 0 0, z_i (Int32.ofNat n)] (true, X, I, J)) (some z_n, (true, X, I, J))) ∧ I 59 0 n = Int32.ofNat s ∧ I 60 0 n = I 23 0 n) := by
  obtain ⟨⟨n1, n2, n3, n4, ⟨k9, s1, s2, s3, s4⟩⟩, r2, r3, r4, r5, r6, r7, r8⟩ := hR
  have hb : z_bw (Int32.ofNat n) 0 3 = true := z_bw_of (m := 3) (by omega) (by decide)
  have fb : ∀ {P : Prop}, z_bw (Int32.ofNat n) 0 3 = false → P := fun h => by rw [hb] at h; cases h
  rcases r6 n hn with ⟨v1, v2⟩ | ⟨v1, v2, v3, j, hj, v4⟩ | ⟨s, hs, v1, v2, v3, v4⟩
  · left
    refine ⟨by rw [v1]; decide, fun d => z_q155_e _ ⟨fun h => fb h, fun _ => ⟨n, rfl, hn, fun _ => rfl, fun h => ?_⟩⟩, fun d => z_q256_e _ ⟨n, rfl, hn, fun h => ?_, fun _ => ⟨fun h => ?_, fun _ => rfl⟩⟩⟩
    · rw [v1] at h; exact absurd h (by decide)
    · rw [v2] at h; exact absurd h (by decide)
    · rw [v2] at h; exact absurd h (by decide)
  · have eb : z_bw (I 59 0 n) 0 (I 33 0 8 - 1) = z_lt0 (I 23 0 n) (I 1 0 5) := by rw [z_bw_lt s3 (by omega), v3, s3, s2]
    by_cases hjk : j < k9
    · right; left
      obtain ⟨q, c, t1, t2, t3, t4, t5, t6, t7, t8, t9, -, t10⟩ := s4 j hjk
      have hl : z_lt0 (I 23 0 n) (I 1 0 5) = true := by
        rw [v3, v4, s2]
        exact z_lt0_t.mpr ⟨z_on0 j (by omega), (z_olt (by omega) (by omega)).mpr hjk⟩
      refine ⟨q, c, j, by rw [v1]; decide, fun d => z_q155_e _ ⟨fun h => fb h, fun _ => ⟨n, rfl, hn, fun h => absurd v1 h, fun _ => ⟨fun _ => ⟨j, v3.trans v4, hj, q, t2, rfl⟩, fun h => ?_⟩⟩⟩, fun d => z_q256_e _ ⟨n, rfl, hn, fun _ => ⟨fun h => ?_, fun _ => ⟨_, _, _, _, ?_, rfl⟩⟩, fun h => absurd v2 h⟩, t4, t1, t3, hj, v4, t7, t5, t8, t9, t10⟩
      · rw [hl] at h; cases h
      · rw [eb, hl] at h; cases h
      · rw [v4, ← t6]
        exact z_p229 hj (c := 0) (by decide)
    · left
      have hl : z_lt0 (I 23 0 n) (I 1 0 5) = false := by
        rw [v3, v4, s2]
        exact z_lt0_f.mpr (Or.inr ((z_ole (by omega) (by omega)).mpr (by omega)))
      refine ⟨by rw [v1]; decide, fun d => z_q155_e _ ⟨fun h => fb h, fun _ => ⟨n, rfl, hn, fun _ => rfl, fun _ => ⟨fun h => ?_, fun _ => rfl⟩⟩⟩, fun d => z_q256_e _ ⟨n, rfl, hn, fun _ => ⟨fun _ => rfl, fun h => ?_⟩, fun h => absurd v2 h⟩⟩
      · rw [hl] at h; cases h
      · rw [eb, hl] at h; cases h
  · right; right
    have h0 : ¬ I 58 0 n = 0 := by rw [v2]; decide
    have h1 : ¬ I 22 0 n = 0 := by rw [v1]; exact fun q => absurd ((z_oeq (b := 0) (by omega) (by decide)).mp q) (by omega)
    refine ⟨s, hs, v1, fun d => z_q256_e _ ⟨n, rfl, hn, fun h => absurd h h0, fun _ => ⟨fun _ => rfl, fun h => ?_⟩⟩, fun d => z_q155_e _ ⟨fun h => fb h, fun _ => ⟨n, rfl, hn, fun _ => rfl, fun h => absurd h h1⟩⟩, v3, v4.symm⟩
    rw [v2] at h; exact absurd h (by decide)
theorem z_of_tab : ∀ c, c < 4 → z_kc c ∈ ([0, 3, 5, 6] : List Nat) ∧ z_of c 1 = z_sub (z_kc c) 6 ∧ z_of c 2 = z_sub (z_kc c) 5 ∧ z_of c 3 = z_sub (z_kc c) 0 := by decide
theorem z_of_a : ∀ c, c < 4 → z_of c 0 = true ∧ z_of c c = true ∧ (c = 0 → z_of c 1 = false) ∧ (¬ c = 0 → z_of c 1 = true) := by decide
theorem z_of_b : ∀ c, c < 4 → ∀ a, a < 4 → (a = 0 ∨ a = c ∨ a = 1 ∨ z_of c a = false) := by decide
theorem z_p156 {d : Nat} {X : z_X} {I : Nat → Nat → Nat → Int32} {J : Nat → Nat → Nat → Int64} {q c a : Nat} (hq : q < X.1) (hc : c < 4) (ha : a < 4) (hk : X.2.2.1 q = z_kc c) : z_ev d (z_en 156 [z_r 32 q, z_i (Int32.ofNat a)] (true, X, I, J)) (some (z_i (z_c (z_of c a))), (true, X, I, J)) := by
  have hm : X.2.2.1 q ∈ ([0, 3, 5, 6] : List Nat) := by
    rw [hk]; exact (z_of_tab c hc).1
  have n1 : ∀ {P : Prop}, Int32.ofNat 1 = 0 → P := fun h => absurd h (by decide)
  rcases (by omega : a = 0 ∨ a = 1 ∨ a = 2 ∨ a = 3) with rfl | rfl | rfl | rfl
  · exact z_q156_e q _ ⟨fun _ => by unfold z_of; rfl, fun h => absurd rfl h⟩
  · refine z_q156_e q _ ⟨fun h => absurd h (by decide), fun _ => ⟨fun _ => ⟨hq, hm, ?_⟩, fun h => absurd rfl h⟩⟩
    rw [hk, (z_of_tab c hc).2.1]
  · refine z_q156_e q _ ⟨fun h => absurd h (by decide), fun _ => ⟨fun h => absurd h (by decide), fun _ => ⟨fun _ => ⟨hq, hm, ?_⟩, fun h => absurd rfl h⟩⟩⟩
    rw [hk, (z_of_tab c hc).2.2.1]
  · refine z_q156_e q _ ⟨fun h => absurd h (by decide), fun _ => ⟨fun h => absurd h (by decide), fun _ => ⟨fun h => absurd h (by decide), fun _ => ⟨fun _ => ⟨hq, hm, ?_⟩, fun h => absurd rfl h⟩⟩⟩⟩
    rw [hk, (z_of_tab c hc).2.2.2]
theorem z_p257 {d : Nat} {X : z_X} {I : Nat → Nat → Nat → Int32} {J : Nat → Nat → Nat → Int64} {c a : Nat} (hc : c < 4) (ha : a < 4) : z_ev d (z_en 257 [z_i (Int32.ofNat c), z_i (Int32.ofNat a)] (true, X, I, J)) (some (z_i (z_c (z_of c a))), (true, X, I, J)) := by
  refine z_q257_e _ _ ⟨fun h => z_b1 ?_, fun h => ⟨fun h2 => z_b1 ?_, fun h2 => ⟨fun h3 => z_b0 ?_, fun h3 => ⟨fun h4 => z_b0 ?_, fun h4 => z_b1 ?_⟩⟩⟩⟩
  · rw [(z_oeq (b := 0) (by omega) (by decide)).mp h]; exact (z_of_a c hc).1
  · rw [(z_oeq (by omega) (by omega)).mp h2]; exact (z_of_a c hc).2.1
  · rcases z_of_b c hc a ha with q | q | q | q
    · exact absurd (by rw [q]; rfl) h
    · exact absurd (by rw [q]) h2
    · exact absurd (by rw [q]; rfl) h3
    · exact q
  · rw [(z_oeq (b := 1) (by omega) (by decide)).mp h3]; exact (z_of_a c hc).2.2.1 ((z_oeq (b := 0) (by omega) (by decide)).mp h4)
  · rw [(z_oeq (b := 1) (by omega) (by decide)).mp h3]; exact (z_of_a c hc).2.2.2 (fun q => h4 (by rw [q]; rfl))
/-- promise 47 -/
theorem z_op_taken (x w1 : Int32) : z_op 112 258 [z_i x, z_i w1] := by
  refine z_op_q fun X I J hR => ?_
  cases ha : z_bw x 0 3 with
  | false =>
    have fa : ∀ {P : Prop}, z_bw x 0 3 = true → P := fun h => by rw [ha] at h; cases h
    exact ⟨z_i (-1), z_q112_e (d := 58) x w1 ⟨fun _ => ⟨fun _ => rfl, fun h => fa h⟩, fun _ => ⟨fun _ => ⟨fun _ => rfl, fun h => fa h⟩, fun _ => ⟨fun _ => rfl, fun h => fa h⟩⟩⟩, z_q258_e (d := 57) x w1 ⟨fun _ => rfl, fun h => fa h⟩⟩
  | true =>
    obtain ⟨n, hn, rfl⟩ := z_bw3 ha
    have fa : ∀ {P : Prop}, z_bw (Int32.ofNat n) 0 3 = false → P := fun h => by rw [ha] at h; cases h
    cases hb : z_bw w1 0 3 with
    | true =>
      have fb : ∀ {P : Prop}, z_bw w1 0 3 = false → P := fun h => by rw [hb] at h; cases h
      obtain ⟨g0, g1⟩ := z_bw_t.mp hb
      obtain ⟨a, ha4, rfl⟩ := z_bw3 hb
      have q0 : ∀ {P : Prop}, Int32.ofNat a < 0 → P := fun h => absurd g0 (Int32.not_le.mpr h)
      have q1 : ∀ {P : Prop}, 3 < Int32.ofNat a → P := fun h => absurd g1 (Int32.not_le.mpr h)
      have a10 : Int32.ofNat a < 10 := (z_olt (b := 10) (by omega) (by decide)).mpr (by omega)
      rcases z_sho hR hn with ⟨h1, h2, h3⟩ | ⟨q, c, j, h1, h2, h3, h4, h5, h6, h7, h8, h9, -⟩ | ⟨s, hs, h1, h2, h3, h4, h5⟩
      · exact ⟨z_i (-11), z_q112_e (d := 58) _ _ ⟨fun h => q0 h, fun _ => ⟨fun h => q1 h, fun _ => ⟨fun h => fa h, fun _ => ⟨n, rfl, hn, fun _ => Or.inl ⟨_, _, _, h2 58, rfl⟩, fun h => absurd h1 (Int32.not_lt.mpr h)⟩⟩⟩⟩, z_q258_e (d := 57) _ _ ⟨fun h => fa h, fun _ => ⟨fun _ => ⟨_, _, _, _, h3 57, fun h => absurd h (by decide), fun _ => rfl⟩, fun h => fb h⟩⟩⟩
      · have c9 : ¬ Int32.ofNat c = 9 := fun q => absurd ((z_oeq (b := 9) (by omega) (by decide)).mp q) (by omega)
        have w156 := z_p156 (d := 59) (I := I) (J := J) h5 h4 ha4 h6
        have w257 := z_p257 (d := 59) (X := X) (I := I) (J := J) h4 ha4
        cases hk : z_of c a with
        | false =>
          rw [hk] at w156 w257
          exact ⟨z_i (-13), z_q112_e (d := 58) _ _ ⟨fun h => q0 h, fun _ => ⟨fun h => q1 h, fun _ => ⟨fun h => fa h, fun _ => ⟨n, rfl, hn, fun _ => Or.inr ⟨q, _, _, _, h2 58, false, _, _, _, w156, fun _ => rfl, fun h => (by cases h)⟩, fun h => absurd h1 (Int32.not_lt.mpr h)⟩⟩⟩⟩, z_q258_e (d := 57) _ _ ⟨fun h => fa h, fun _ => ⟨fun _ => ⟨_, _, _, _, h3 57, fun _ => ⟨fun _ => ⟨fun h => absurd a10 (Int32.not_lt.mpr h), fun _ => ⟨false, _, _, _, w257, fun _ => rfl, fun h => (by cases h)⟩⟩, fun h => absurd h c9⟩, fun h => absurd (z_on0 c (by omega)) (Int32.not_le.mpr h)⟩, fun h => fb h⟩⟩⟩
        | true =>
          rw [hk] at w156 w257
          exact ⟨z_i (Int32.ofNat j), z_q112_e (d := 58) _ _ ⟨fun h => q0 h, fun _ => ⟨fun h => q1 h, fun _ => ⟨fun h => fa h, fun _ => ⟨n, rfl, hn, fun _ => Or.inr ⟨q, _, _, _, h2 58, true, _, _, _, w156, fun h => (by cases h), fun _ => ⟨h5, by rw [h9]⟩⟩, fun h => absurd h1 (Int32.not_lt.mpr h)⟩⟩⟩⟩, z_q258_e (d := 57) _ _ ⟨fun h => fa h, fun _ => ⟨fun _ => ⟨_, _, _, _, h3 57, fun _ => ⟨fun _ => ⟨fun h => absurd a10 (Int32.not_lt.mpr h), fun _ => ⟨true, _, _, _, w257, fun h => (by cases h), fun _ => ⟨n, rfl, hn, by rw [h8]⟩⟩⟩, fun h => absurd h c9⟩, fun h => absurd (z_on0 c (by omega)) (Int32.not_le.mpr h)⟩, fun h => fb h⟩⟩⟩
      · have d1 : ¬ I 22 0 n < 10 := by rw [h1]; exact fun q => absurd ((z_olt (b := 10) (by omega) (by decide)).mp q) (by omega)
        have d2 : ¬ I 22 0 n = Int32.ofNat a := by rw [h1]; exact fun q => absurd ((z_oeq (by omega) (by omega)).mp q) (by omega)
        have d3 : ¬ Int32.ofNat a = 10 + I 59 0 n := by
          rw [h4, show (10 : Int32) + Int32.ofNat s = Int32.ofNat (10 + s) from z_oa 10 s]
          exact fun q => absurd ((z_oeq (by omega) (by omega)).mp q) (by omega)
        exact ⟨z_i (-13), z_q112_e (d := 58) _ _ ⟨fun h => q0 h, fun _ => ⟨fun h => q1 h, fun _ => ⟨fun h => fa h, fun _ => ⟨n, rfl, hn, fun h => absurd h d1, fun _ => ⟨fun _ => rfl, fun h => absurd h d2⟩⟩⟩⟩⟩, z_q258_e (d := 57) _ _ ⟨fun h => fa h, fun _ => ⟨fun _ => ⟨_, _, _, _, h2 57, fun _ => ⟨fun h => absurd rfl h, fun _ => ⟨n, rfl, hn, fun _ => rfl, fun h => absurd h d3⟩⟩, fun h => absurd h (by decide)⟩, fun h => fb h⟩⟩⟩
    | false =>
      have fb : ∀ {P : Prop}, z_bw w1 0 3 = true → P := fun h => by rw [hb] at h; cases h
      have fq : ∀ {P : Prop}, 0 ≤ w1 → w1 ≤ 3 → P := fun h1 h2 => fb (z_bw_t.mpr ⟨h1, h2⟩)
      cases hc : z_bw w1 10 13 with
      | false =>
        have fc : ∀ {P : Prop}, z_bw w1 10 13 = true → P := fun h => by rw [hc] at h; cases h
        have fd : ∀ {P : Prop}, z_bw (w1 - 10) 0 3 = true → P := fun h => by rw [z_bw10] at h; exact fc h
        exact ⟨z_i (-1), z_q112_e (d := 58) _ w1 ⟨fun _ => ⟨fun h => fa h, fun _ => ⟨fun h => fd h, fun _ => rfl⟩⟩, fun g0 => ⟨fun _ => ⟨fun h => fa h, fun _ => ⟨fun h => fd h, fun _ => rfl⟩⟩, fun h => fq g0 h⟩⟩, z_q258_e (d := 57) _ w1 ⟨fun h => fa h, fun _ => ⟨fun h => fb h, fun _ => ⟨fun h => fc h, fun _ => rfl⟩⟩⟩⟩
      | true =>
        have fc : ∀ {P : Prop}, z_bw w1 10 13 = false → P := fun h => by rw [hc] at h; cases h
        have fd : ∀ {P : Prop}, z_bw (w1 - 10) 0 3 = false → P := fun h => by rw [z_bw10] at h; exact fc h
        have w10 : ¬ w1 < 10 := Int32.not_lt.mpr (z_bw_t.mp hc).1
        rcases z_sho hR hn with ⟨h1, h2, h3⟩ | ⟨q, c, j, h1, h2, h3, h4, h5, h6, h7, h8, h9, -⟩ | ⟨s, hs, h1, h2, h3, h4, h5⟩
        · exact ⟨z_i (-11), z_q112_e (d := 58) _ w1 ⟨fun _ => ⟨fun h => fa h, fun _ => ⟨fun _ => ⟨n, rfl, hn, fun _ => Or.inl ⟨_, _, _, h2 58, rfl⟩, fun h => absurd h1 (Int32.not_lt.mpr h)⟩, fun h => fd h⟩⟩, fun g0 => ⟨fun _ => ⟨fun h => fa h, fun _ => ⟨fun _ => ⟨n, rfl, hn, fun _ => Or.inl ⟨_, _, _, h2 58, rfl⟩, fun h => absurd h1 (Int32.not_lt.mpr h)⟩, fun h => fd h⟩⟩, fun h => fq g0 h⟩⟩, z_q258_e (d := 57) _ w1 ⟨fun h => fa h, fun _ => ⟨fun h => fb h, fun _ => ⟨fun _ => ⟨_, _, _, _, h3 57, fun h => absurd h (by decide), fun _ => rfl⟩, fun h => fc h⟩⟩⟩⟩
        · have c9 : ¬ Int32.ofNat c = 9 := fun q => absurd ((z_oeq (b := 9) (by omega) (by decide)).mp q) (by omega)
          exact ⟨z_i (-13), z_q112_e (d := 58) _ w1 ⟨fun _ => ⟨fun h => fa h, fun _ => ⟨fun _ => ⟨n, rfl, hn, fun _ => Or.inr ⟨q, _, _, _, h2 58, rfl⟩, fun h => absurd h1 (Int32.not_lt.mpr h)⟩, fun h => fd h⟩⟩, fun g0 => ⟨fun _ => ⟨fun h => fa h, fun _ => ⟨fun _ => ⟨n, rfl, hn, fun _ => Or.inr ⟨q, _, _, _, h2 58, rfl⟩, fun h => absurd h1 (Int32.not_lt.mpr h)⟩, fun h => fd h⟩⟩, fun h => fq g0 h⟩⟩, z_q258_e (d := 57) _ w1 ⟨fun h => fa h, fun _ => ⟨fun h => fb h, fun _ => ⟨fun _ => ⟨_, _, _, _, h3 57, fun _ => ⟨fun _ => ⟨fun _ => rfl, fun h => absurd h w10⟩, fun h => absurd h c9⟩, fun h => absurd (z_on0 c (by omega)) (Int32.not_le.mpr h)⟩, fun h => fc h⟩⟩⟩⟩
        · have d1 : ¬ I 22 0 n < 10 := by rw [h1]; exact fun q => absurd ((z_olt (b := 10) (by omega) (by decide)).mp q) (by omega)
          have d2 : I 22 0 n = 10 + I 59 0 n := by rw [h1, h4]; exact (z_oa 10 s).symm
          by_cases he : w1 = 10 + I 59 0 n
          · exact ⟨z_i (I 60 0 n), z_q112_e (d := 58) _ w1 ⟨fun _ => ⟨fun h => fa h, fun _ => ⟨fun _ => ⟨n, rfl, hn, fun h => absurd h d1, fun _ => ⟨fun h => absurd (d2.trans he.symm) h, fun _ => by rw [h5]⟩⟩, fun h => fd h⟩⟩, fun g0 => ⟨fun _ => ⟨fun h => fa h, fun _ => ⟨fun _ => ⟨n, rfl, hn, fun h => absurd h d1, fun _ => ⟨fun h => absurd (d2.trans he.symm) h, fun _ => by rw [h5]⟩⟩, fun h => fd h⟩⟩, fun h => fq g0 h⟩⟩, z_q258_e (d := 57) _ w1 ⟨fun h => fa h, fun _ => ⟨fun h => fb h, fun _ => ⟨fun _ => ⟨_, _, _, _, h2 57, fun _ => ⟨fun h => absurd rfl h, fun _ => ⟨n, rfl, hn, fun h => absurd he h, fun _ => rfl⟩⟩, fun h => absurd h (by decide)⟩, fun h => fc h⟩⟩⟩⟩
          · have hn2 : ¬ I 22 0 n = w1 := fun q => he (q.symm.trans d2)
            exact ⟨z_i (-13), z_q112_e (d := 58) _ w1 ⟨fun _ => ⟨fun h => fa h, fun _ => ⟨fun _ => ⟨n, rfl, hn, fun h => absurd h d1, fun _ => ⟨fun _ => rfl, fun h => absurd h hn2⟩⟩, fun h => fd h⟩⟩, fun g0 => ⟨fun _ => ⟨fun h => fa h, fun _ => ⟨fun _ => ⟨n, rfl, hn, fun h => absurd h d1, fun _ => ⟨fun _ => rfl, fun h => absurd h hn2⟩⟩, fun h => fd h⟩⟩, fun h => fq g0 h⟩⟩, z_q258_e (d := 57) _ w1 ⟨fun h => fa h, fun _ => ⟨fun h => fb h, fun _ => ⟨fun _ => ⟨_, _, _, _, h2 57, fun _ => ⟨fun h => absurd rfl h, fun _ => ⟨n, rfl, hn, fun _ => rfl, fun h => absurd h he⟩⟩, fun h => absurd h (by decide)⟩, fun h => fc h⟩⟩⟩⟩
