/-! calls of both: bound, slack, tight -/
theorem z_t64 (x : Int32) : x.toInt64 ≠ Int64.minValue := by
  intro h
  have e := congrArg Int64.toInt h
  rw [Int32.toInt_toInt64] at e
  have e2 : Int64.minValue.toInt = -2 ^ 63 := rfl
  have h1 := Int32.le_toInt x
  omega
theorem z_bit16 : ∀ h, h < 16 → h ≠ 0 → ∃ i, i < 4 ∧ h.testBit i = true := by decide
/-- what the calls of bounds stand on -/
theorem z_bds {X : z_X} {I : Nat → Nat → Nat → Int32} (h : z_now X I) : ∃ k9 l, k9 ≤ 6 ∧ z_RoL (I 3 0) (I 33 0 2) (I 36 0) l ∧ I 33 0 8 = Int32.ofNat k9 ∧ I 1 0 5 = Int32.ofNat k9 ∧ z_Sh (I 39 0) k9 ∧ ∀ s, s < k9 → ∃ q c, q < X.1 ∧ X.2.2.2 11 0 s = some (32, q) ∧ c < 4 ∧ I 32 q 0 = Int32.ofNat c ∧ I 39 0 (4 * s) = Int32.ofNat c ∧ I 32 q 2 = I 39 0 (4 * s + 1) ∧ I 32 q 3 = I 39 0 (4 * s + 2) ∧ I 12 0 s = I 39 0 (4 * s + 3) := by
  obtain ⟨-, ⟨l, hl⟩, -, -, ⟨k9, s1, s2, s3, s4⟩⟩ := h
  refine ⟨k9, l, s1.1, hl, s3, s2, fun s hs => ?_, fun s hs => ?_⟩
  · obtain ⟨q, c, t1, t2, t3, t4, t5, t6, t7, t8, t9, ⟨v, v1, v2, v3⟩, t11⟩ := s4 s hs
    exact ⟨c, t4, t6, ⟨v, v1, v3⟩, t11⟩
  · obtain ⟨q, c, t1, t2, t3, t4, t5, t6, t7, t8, t9, ⟨v, v1, v2, v3⟩, t11⟩ := s4 s hs
    exact ⟨q, c, t1, t2, t4, t5, t6, t8, t9, v2.trans v3.symm⟩
theorem z_bds_ag {X : z_X} {I I1 : Nat → Nat → Nat → Int32} (ha : z_ag [0] I I1) {k9 : Nat} (h : ∀ s, s < k9 → ∃ q c, q < X.1 ∧ X.2.2.2 11 0 s = some (32, q) ∧ c < 4 ∧ I 32 q 0 = Int32.ofNat c ∧ I 39 0 (4 * s) = Int32.ofNat c ∧ I 32 q 2 = I 39 0 (4 * s + 1) ∧ I 32 q 3 = I 39 0 (4 * s + 2) ∧ I 12 0 s = I 39 0 (4 * s + 3)) : ∀ s, s < k9 → ∃ q c, q < X.1 ∧ X.2.2.2 11 0 s = some (32, q) ∧ c < 4 ∧ I1 32 q 0 = Int32.ofNat c ∧ I1 39 0 (4 * s) = Int32.ofNat c ∧ I1 32 q 2 = I1 39 0 (4 * s + 1) ∧ I1 32 q 3 = I1 39 0 (4 * s + 2) ∧ I1 12 0 s = I1 39 0 (4 * s + 3) := by
  rw [z_ag_t ha 32 (c := 10) (fun _ _ => rfl) rfl, z_ag_t ha 39 (c := 1) (fun _ _ => rfl) rfl, z_ag_ti ha 12 0 (c := 1) (fun _ => rfl) rfl]
  exact h
theorem z_mx_same {f : Nat → Int32} {k j k9 hp : Nat} (hS : z_Sh f k9) (hk9 : k9 ≤ 6) (hk1 : 2 ≤ k) (hk3 : k ≤ 3) (hj : j < z_fon k) (h16 : hp < 16) (h0 : hp ≠ 0) : z_mx (-2147483648) (fun i => z_hts f (12 * z_gv0 (Int32.ofNat k) (z_fm j) i) i k9) hp 4 = z_mx (-1000000) (fun i => z_hts f (12 * z_gv0 (Int32.ofNat k) (z_fm j) i) i k9) hp 4 := by
  rcases z_mx_eq (s := -2147483648) (s' := -1000000) (H := fun i => z_hts f (12 * z_gv0 (Int32.ofNat k) (z_fm j) i) i k9) (h := hp) (fun i hi => z_hts_lo hS hi hk9 (z_bse k (by omega) hk1 j hj i hi)) 4 (Nat.le_refl _) with ⟨h1, -, -⟩ | h1
  · obtain ⟨i, i1, i2⟩ := z_bit16 hp h16 h0
    rw [h1 i i1] at i2
    cases i2
  · exact h1
/-- promise 35 -/
theorem z_op_bound (mm f si : Int32) : z_op 100 239 [z_i mm, z_i f, z_i si] := by
  intro X I J hR
  have hR0 := hR
  obtain ⟨n1, -, -, -, -, -, -, r8⟩ := hR
  by_cases hf : z_isb mm f
  · obtain ⟨k, j, k1, k3, hj, rfl, rfl⟩ := hf
    cases hb : z_bw si 0 1 with
    | false =>
      have fb : ∀ {P : Prop}, z_bw si 0 1 = true → P := fun h => by rw [hb] at h; cases h
      exact ⟨z_j (-1000000000000), X, X, I, I, J, J, z_q100_e (d := 42) _ _ si ⟨true, _, _, _, z_p129t k1 k3 hj, fun _ => rfl, fun _ => ⟨fun h => fb h, fun _ => rfl⟩⟩, z_q239_e (d := 53) _ _ si ⟨true, _, _, _, z_p238t r8 k1 k3 hj, fun _ => rfl, fun _ => ⟨fun _ => rfl, fun h => fb h⟩⟩, hR0, Nat.le_succ _, Nat.le_add_right _ _, rfl⟩
    | true =>
      have fb : ∀ {P : Prop}, z_bw si 0 1 = false → P := fun h => by rw [hb] at h; cases h
      obtain ⟨k9, l, q1, q2, q3, q4, q5, q6⟩ := z_bds n1
      obtain ⟨I1, c1, c2⟩ := z_p139 (d := 42) (X := X) (J := J) q2 (k := 3) (by decide) (by decide)
      have c1 : z_ev 59 (z_en 139 [z_r 0 0, z_i 3] (true, X, I, J)) (some (z_i (Int32.ofNat (z_hpp l 3 4))), (true, X, I1, J)) := c1
      have h16 : z_hpp l 3 4 < 16 := z_hpp_lt l 3 4
      have e39 : I1 39 = I 39 := z_ag_t c2 39 (c := 1) (fun _ _ => rfl) rfl
      obtain ⟨I2, d1, d2, d3, d4, d5⟩ := z_p237 (d := 53) (X := X) (I := I1) (J := J) (z_Tb_ag c2 rfl r8) (co := I 3 0) (l := l) (k := k) (j := j) (k9 := k9) (by rw [z_ag_p c2 33 0 2 (c := 1) rfl rfl, z_ag_ti c2 36 0 (c := 1) (fun _ => rfl) rfl]; exact q2) k1 k3 hj q1 (by rw [z_ag_p c2 33 0 8 (c := 1) rfl rfl]; exact q3)
      have hw := z_ag_tr c2 d5
      by_cases h0 : z_hpp l 3 4 = 0
      · rw [decide_eq_false (fun q => q h0)] at d1
        rw [h0] at c1
        exact ⟨z_j (-1000000000000), X, X, I1, I2, J, J, z_q100_e (d := 42) _ _ si ⟨true, _, _, _, z_p129t k1 k3 hj, fun h => (by cases h), fun _ => ⟨fun _ => ⟨_, _, _, _, c1, fun h => absurd rfl h, fun _ => rfl⟩, fun h => fb h⟩⟩, z_q239_e (d := 53) _ _ si ⟨true, _, _, _, z_p238t (z_Tb_ag c2 rfl r8) k1 k3 hj, fun h => (by cases h), fun _ => ⟨fun h => fb h, fun _ => ⟨false, _, _, _, d1, fun h => (by cases h), fun _ => rfl⟩⟩⟩, z_R_0 hR0 hw rfl rfl, Nat.le_succ _, Nat.le_add_right _ _, z_67_ag hw rfl⟩
      · rw [decide_eq_true h0] at d1
        have hne : ¬ Int32.ofNat (z_hpp l 3 4) = 0 := fun q => h0 ((z_oeq (b := 0) (by omega) (by decide)).mp q)
        have p153 := z_p153 (d := 56) (X := X) (I := I1) (J := J) (k := k) (j := j) (k9 := k9) q1 (by rw [z_ag_p c2 1 0 5 (c := 1) rfl rfl]; exact q4) (z_bds_ag c2 q6) h16
        rw [z_mx_same (by rw [e39]; exact q5) q1 k1 k3 hj h16 h0] at p153
        obtain ⟨G, hG⟩ : ∃ G, G = z_mx (-1000000) (fun i => z_hts (I1 39 0) (12 * z_gv0 (Int32.ofNat k) (z_fm j) i) i k9) (z_hpp l 3 4) 4 := ⟨_, rfl⟩
        rw [← hG] at p153 d3
        obtain ⟨g, hg⟩ := z_frc (z_t64 G) (show 1 ≤ 36 by decide) (show 36 < 2 ^ 63 by decide)
        exact ⟨_, X, X, I1, I2, J, _, z_q100_e (d := 42) _ _ si ⟨true, _, _, _, z_p129t k1 k3 hj, fun h => (by cases h), fun _ => ⟨fun _ => ⟨_, _, _, _, c1, fun _ => ⟨_, _, _, _, p153, _, _, _, _, (hg 58 X I1 J si).1, rfl⟩, fun h => absurd h hne⟩, fun h => fb h⟩⟩, z_q239_e (d := 53) _ _ si ⟨true, _, _, _, z_p238t (z_Tb_ag c2 rfl r8) k1 k3 hj, fun h => (by cases h), fun _ => ⟨fun h => fb h, fun _ => ⟨true, _, _, _, d1, fun _ => ⟨_, _, _, (by rw [d3]; exact (hg 59 X I2 J si).2), _, _, _, _, z_p199 si, rfl⟩, fun h => (by cases h)⟩⟩⟩, z_R_0 hR0 hw z_J2.1 z_J2.2, Nat.le_succ _, Nat.le_add_right _ _, z_67_ag hw rfl⟩
  · exact ⟨z_j (-1000000000000), X, X, I, I, J, J, z_q100_e (d := 42) _ _ si ⟨false, _, _, _, z_p129f hf, fun _ => rfl, fun h => (by cases h)⟩, z_q239_e (d := 53) _ _ si ⟨false, _, _, _, z_p238f r8 hf, fun _ => rfl, fun h => (by cases h)⟩, hR0, Nat.le_succ _, Nat.le_add_right _ _, rfl⟩
/-- promise 36 -/
theorem z_op_slack (mm f ii si : Int32) : z_op 101 240 [z_i mm, z_i f, z_i ii, z_i si] := by
  intro X I J hR
  have hR0 := hR
  obtain ⟨n1, -, -, -, -, -, -, r8⟩ := hR
  by_cases hf : z_isb mm f
  · obtain ⟨k, j, k1, k3, hj, rfl, rfl⟩ := hf
    cases hb : z_bw si 0 1 with
    | false =>
      have fb : ∀ {P : Prop}, z_bw si 0 1 = true → P := fun h => by rw [hb] at h; cases h
      exact ⟨z_j (-1000000000000), X, X, I, I, J, J, z_q101_e (d := 42) _ _ ii si ⟨true, _, _, _, z_p129t k1 k3 hj, fun _ => rfl, fun _ => ⟨fun _ => rfl, fun h => fb h⟩⟩, z_q240_e (d := 53) _ _ ii si ⟨true, _, _, _, z_p238t r8 k1 k3 hj, fun _ => rfl, fun _ => ⟨fun _ => rfl, fun _ => ⟨fun _ => rfl, fun h => fb h⟩⟩⟩, hR0, Nat.le_succ _, Nat.le_add_right _ _, rfl⟩
    | true =>
      have fb : ∀ {P : Prop}, z_bw si 0 1 = false → P := fun h => by rw [hb] at h; cases h
      cases hc : z_bw ii 0 3 with
      | false =>
        have fc : ∀ {P : Prop}, z_bw ii 0 3 = true → P := fun h => by rw [hc] at h; cases h
        have fc2 : ∀ {P : Prop}, 0 ≤ ii → ii < 4 → P := fun h1 h2 => by
          obtain ⟨j9, hj9, rfl⟩ := z_nat (n := 4) h1 h2 (by decide)
          exact fc (z_bw_of (m := 3) (by omega) (by decide))
        exact ⟨z_j (-1000000000000), X, X, I, I, J, J, z_q101_e (d := 42) _ _ ii si ⟨true, _, _, _, z_p129t k1 k3 hj, fun _ => rfl, fun _ => ⟨fun _ => rfl, fun _ => ⟨fun _ => rfl, fun h1 => ⟨fun h2 => fc2 h1 h2, fun _ => rfl⟩⟩⟩⟩, z_q240_e (d := 53) _ _ ii si ⟨true, _, _, _, z_p238t r8 k1 k3 hj, fun _ => rfl, fun _ => ⟨fun _ => rfl, fun h => fc h⟩⟩, hR0, Nat.le_succ _, Nat.le_add_right _ _, rfl⟩
      | true =>
        have fc : ∀ {P : Prop}, z_bw ii 0 3 = false → P := fun h => by rw [hc] at h; cases h
        obtain ⟨i, hi, rfl⟩ := z_bw3 hc
        have i0 : ∀ {P : Prop}, Int32.ofNat i < 0 → P := fun h => absurd (z_on0 i (by omega)) (Int32.not_le.mpr h)
        have i4 : ∀ {P : Prop}, 4 ≤ Int32.ofNat i → P := fun h => absurd ((z_ole (a := 4) (by decide) (by omega)).mp h) (by omega)
        obtain ⟨k9, l, q1, q2, q3, q4, q5, q6⟩ := z_bds n1
        obtain ⟨I1, c1, c2⟩ := z_p139 (d := 42) (X := X) (J := J) q2 (k := 3) (by decide) (by decide)
        have c1 : z_ev 59 (z_en 139 [z_r 0 0, z_i 3] (true, X, I, J)) (some (z_i (Int32.ofNat (z_hpp l 3 4))), (true, X, I1, J)) := c1
        have h16 : z_hpp l 3 4 < 16 := z_hpp_lt l 3 4
        have e39 : I1 39 = I 39 := z_ag_t c2 39 (c := 1) (fun _ _ => rfl) rfl
        obtain ⟨I2, d1, d2, d3, d4, d5⟩ := z_p237 (d := 53) (X := X) (I := I1) (J := J) (z_Tb_ag c2 rfl r8) (co := I 3 0) (l := l) (k := k) (j := j) (k9 := k9) (by rw [z_ag_p c2 33 0 2 (c := 1) rfl rfl, z_ag_ti c2 36 0 (c := 1) (fun _ => rfl) rfl]; exact q2) k1 k3 hj q1 (by rw [z_ag_p c2 33 0 8 (c := 1) rfl rfl]; exact q3)
        have hw := z_ag_tr c2 d5
        obtain ⟨b0, b1⟩ := z_bt16 h16 hi
        cases hbit : (z_hpp l 3 4).testBit i with
        | false =>
          have hz := b0.mpr hbit
          cases hd : decide (z_hpp l 3 4 ≠ 0) with
          | false =>
            rw [hd] at d1
            exact ⟨z_j (-1000000000000), X, X, I1, I2, J, J, z_q101_e (d := 42) _ _ _ si ⟨true, _, _, _, z_p129t k1 k3 hj, fun h => (by cases h), fun _ => ⟨fun h => fb h, fun _ => ⟨fun h => i0 h, fun _ => ⟨fun _ => ⟨_, _, _, _, c1, fun h => absurd hz h, fun _ => rfl⟩, fun h => i4 h⟩⟩⟩⟩, z_q240_e (d := 53) _ _ _ si ⟨true, _, _, _, z_p238t (z_Tb_ag c2 rfl r8) k1 k3 hj, fun h => (by cases h), fun _ => ⟨fun h => fc h, fun _ => ⟨fun h => fb h, fun _ => ⟨false, _, _, _, d1, fun _ => rfl, fun h => (by cases h)⟩⟩⟩⟩, z_R_0 hR0 hw rfl rfl, Nat.le_succ _, Nat.le_add_right _ _, z_67_ag hw rfl⟩
          | true =>
            rw [hd] at d1
            exact ⟨z_j (-1000000000000), X, X, I1, I2, J, J, z_q101_e (d := 42) _ _ _ si ⟨true, _, _, _, z_p129t k1 k3 hj, fun h => (by cases h), fun _ => ⟨fun h => fb h, fun _ => ⟨fun h => i0 h, fun _ => ⟨fun _ => ⟨_, _, _, _, c1, fun h => absurd hz h, fun _ => rfl⟩, fun h => i4 h⟩⟩⟩⟩, z_q240_e (d := 53) _ _ _ si ⟨true, _, _, _, z_p238t (z_Tb_ag c2 rfl r8) k1 k3 hj, fun h => (by cases h), fun _ => ⟨fun h => fc h, fun _ => ⟨fun h => fb h, fun _ => ⟨true, _, _, _, d1, fun h => (by cases h), fun _ => ⟨fun h => absurd (by rw [d2]; exact hz) h, fun _ => rfl⟩⟩⟩⟩⟩, z_R_0 hR0 hw rfl rfl, Nat.le_succ _, Nat.le_add_right _ _, z_67_ag hw rfl⟩
        | true =>
          have h0 : z_hpp l 3 4 ≠ 0 := fun q => by rw [q] at hbit; simp at hbit
          have hz : ¬ (Int32.ofNat (z_hpp l 3 4) >>> (Int32.ofNat i &&& 31)) &&& 1 = 0 := fun q => by rw [b0.mp q] at hbit; cases hbit
          rw [decide_eq_true h0] at d1
          have p153 := z_p153 (d := 56) (X := X) (I := I1) (J := J) (k := k) (j := j) (k9 := k9) q1 (by rw [z_ag_p c2 1 0 5 (c := 1) rfl rfl]; exact q4) (z_bds_ag c2 q6) h16
          have p152 := z_p152 (d := 57) (X := X) (I := I1) (J := J) (k := k) (j := j) (k9 := k9) (i := i) q1 (by rw [z_ag_p c2 1 0 5 (c := 1) rfl rfl]; exact q4) (z_bds_ag c2 q6) hi
          rw [z_mx_same (by rw [e39]; exact q5) q1 k1 k3 hj h16 h0] at p153
          obtain ⟨G, hG⟩ : ∃ G, G = z_mx (-1000000) (fun i => z_hts (I1 39 0) (12 * z_gv0 (Int32.ofNat k) (z_fm j) i) i k9) (z_hpp l 3 4) 4 := ⟨_, rfl⟩
          obtain ⟨H, hH⟩ : ∃ H, H = z_hts (I1 39 0) (12 * z_gv0 (Int32.ofNat k) (z_fm j) i) i k9 := ⟨_, rfl⟩
          have d4 := d4 i hi
          rw [← hG] at p153 d3
          rw [← hH] at p152 d4
          obtain ⟨g, hg⟩ := z_frc (z_t64 (G - H)) (show 1 ≤ 36 by decide) (show 36 < 2 ^ 63 by decide)
          exact ⟨_, X, X, I1, I2, J, _, z_q101_e (d := 42) _ _ _ si ⟨true, _, _, _, z_p129t k1 k3 hj, fun h => (by cases h), fun _ => ⟨fun h => fb h, fun _ => ⟨fun h => i0 h, fun _ => ⟨fun _ => ⟨_, _, _, _, c1, fun _ => ⟨_, _, _, _, p153, _, _, _, _, p152, _, _, _, _, (hg 58 X I1 J si).1, rfl⟩, fun h => absurd h hz⟩, fun h => i4 h⟩⟩⟩⟩, z_q240_e (d := 53) _ _ _ si ⟨true, _, _, _, z_p238t (z_Tb_ag c2 rfl r8) k1 k3 hj, fun h => (by cases h), fun _ => ⟨fun h => fc h, fun _ => ⟨fun h => fb h, fun _ => ⟨true, _, _, _, d1, fun h => (by cases h), fun _ => ⟨fun _ => ⟨i, rfl, hi, _, _, _, (by rw [d3, d4]; exact (hg 59 X I2 J si).2), _, _, _, _, z_p199 si, rfl⟩, fun h => absurd (by rw [← d2]; exact h) hz⟩⟩⟩⟩⟩, z_R_0 hR0 hw z_J2.1 z_J2.2, Nat.le_succ _, Nat.le_add_right _ _, z_67_ag hw rfl⟩
  · exact ⟨z_j (-1000000000000), X, X, I, I, J, J, z_q101_e (d := 42) _ _ ii si ⟨false, _, _, _, z_p129f hf, fun _ => rfl, fun h => (by cases h)⟩, z_q240_e (d := 53) _ _ ii si ⟨false, _, _, _, z_p238f r8 hf, fun _ => rfl, fun h => (by cases h)⟩, hR0, Nat.le_succ _, Nat.le_add_right _ _, rfl⟩
/-- tight forms, the first n of them looked at -/
def z_tgt (H : Nat → Int32) (G : Int32) (h : Nat) : Nat → Int32
  | 0 => 0
  | i + 1 => if h.testBit i = true ∧ H i = G then z_tgt H G h i ||| ((1 : Int32) <<< (Int32.ofNat i &&& 31)) else z_tgt H G h i
/-- promise 37 -/
theorem z_op_tight (mm f : Int32) : z_op 102 241 [z_i mm, z_i f] := by
  intro X I J hR
  have hR0 := hR
  obtain ⟨n1, -, -, -, -, -, -, r8⟩ := hR
  by_cases hf : z_isb mm f
  · obtain ⟨k, j, k1, k3, hj, rfl, rfl⟩ := hf
    obtain ⟨k9, l, q1, q2, q3, q4, q5, q6⟩ := z_bds n1
    obtain ⟨I1, c1, c2⟩ := z_p139 (d := 42) (X := X) (J := J) q2 (k := 3) (by decide) (by decide)
    have c1 : z_ev 59 (z_en 139 [z_r 0 0, z_i 3] (true, X, I, J)) (some (z_i (Int32.ofNat (z_hpp l 3 4))), (true, X, I1, J)) := c1
    have h16 : z_hpp l 3 4 < 16 := z_hpp_lt l 3 4
    have e39 : I1 39 = I 39 := z_ag_t c2 39 (c := 1) (fun _ _ => rfl) rfl
    obtain ⟨I2, d1, d2, d3, d4, d5⟩ := z_p237 (d := 53) (X := X) (I := I1) (J := J) (z_Tb_ag c2 rfl r8) (co := I 3 0) (l := l) (k := k) (j := j) (k9 := k9) (by rw [z_ag_p c2 33 0 2 (c := 1) rfl rfl, z_ag_ti c2 36 0 (c := 1) (fun _ => rfl) rfl]; exact q2) k1 k3 hj q1 (by rw [z_ag_p c2 33 0 8 (c := 1) rfl rfl]; exact q3)
    have hw := z_ag_tr c2 d5
    by_cases h0 : z_hpp l 3 4 = 0
    · rw [decide_eq_false (fun q => q h0)] at d1
      rw [h0] at c1
      exact ⟨z_i (-3), X, X, I1, I2, J, J, z_q102_e (d := 42) _ _ ⟨true, _, _, _, z_p129t k1 k3 hj, fun _ => ⟨_, _, _, _, c1, fun h => absurd rfl h, fun _ => rfl⟩, fun h => (by cases h)⟩, z_q241_e (d := 53) _ _ ⟨true, _, _, _, z_p238t (z_Tb_ag c2 rfl r8) k1 k3 hj, fun _ => ⟨false, _, _, _, d1, fun h => (by cases h), fun _ => rfl⟩, fun h => (by cases h)⟩, z_R_0 hR0 hw rfl rfl, Nat.le_succ _, Nat.le_add_right _ _, z_67_ag hw rfl⟩
    · rw [decide_eq_true h0] at d1
      have hne : ¬ Int32.ofNat (z_hpp l 3 4) = 0 := fun q => h0 ((z_oeq (b := 0) (by omega) (by decide)).mp q)
      have hs1 := z_bds_ag c2 q6
      have h15 : I1 1 0 5 = Int32.ofNat k9 := by rw [z_ag_p c2 1 0 5 (c := 1) rfl rfl]; exact q4
      have p153 := z_p153 (d := 56) (X := X) (I := I1) (J := J) (k := k) (j := j) (k9 := k9) q1 h15 hs1 h16
      rw [z_mx_same (by rw [e39]; exact q5) q1 k1 k3 hj h16 h0] at p153
      obtain ⟨G, hG⟩ : ∃ G, G = z_mx (-1000000) (fun i => z_hts (I1 39 0) (12 * z_gv0 (Int32.ofNat k) (z_fm j) i) i k9) (z_hpp l 3 4) 4 := ⟨_, rfl⟩
      rw [← hG] at p153 d3
      obtain ⟨hp, hhp⟩ : ∃ hp, hp = z_hpp l 3 4 := ⟨_, rfl⟩
      rw [← hhp] at p153 d2 h16 c1 hne
      obtain ⟨H, hH⟩ : ∃ H : Nat → Int32, H = fun i => z_hts (I1 39 0) (12 * z_gv0 (Int32.ofNat k) (z_fm j) i) i k9 := ⟨_, rfl⟩
      have hHi : ∀ i, z_hts (I1 39 0) (12 * z_gv0 (Int32.ofNat k) (z_fm j) i) i k9 = H i := fun i => by rw [hH]
      have keyC : ∀ j9 u, u + j9 = 4 → z_ev 60 (102, 38, [some (z_r 0 0), some (z_i (Int32.ofNat k)), some (z_i (z_fm j)), some (z_i (Int32.ofNat hp)), some (z_i G), some (z_i (z_tgt H G hp u)), some (z_i (Int32.ofNat u))], [], (true, X, I1, J)) (some (z_i (z_tgt H G hp 4)), (true, X, I1, J)) := by
        intro j9
        induction j9 with
        | zero =>
          intro u hu
          obtain rfl : u = 4 := by omega
          exact z_q102_38 (d := 42) _ _ _ _ _ _ ⟨fun _ => rfl, fun h => absurd ((z_olt (b := 4) (by omega) (by decide)).mp h) (by omega)⟩
        | succ j9 ih =>
          intro u hu
          have h9 := ih (u + 1) (by omega)
          obtain ⟨b0, b1⟩ := z_bt16 h16 (show u < 4 by omega)
          have e : z_tgt H G hp (u + 1) = if hp.testBit u = true ∧ H u = G then z_tgt H G hp u ||| ((1 : Int32) <<< (Int32.ofNat u &&& 31)) else z_tgt H G hp u := rfl
          rw [e] at h9
          have p152 := z_p152 (d := 57) (X := X) (I := I1) (J := J) (k := k) (j := j) (k9 := k9) (i := u) q1 h15 hs1 (by omega)
          rw [hHi] at p152
          refine z_q102_38 (d := 42) _ _ _ _ _ _ ⟨fun h => absurd ((z_ole (a := 4) (by decide) (by omega)).mp h) (by omega), fun _ => ⟨fun h => ?_, fun h => ⟨_, _, _, _, p152, fun h2 => ?_, fun h2 => ?_⟩⟩⟩
          · rw [if_neg (fun q => by rw [b0.mp h] at q; cases q.1)] at h9
            rw [z_os]; exact h9
          · rw [if_neg (fun q => h2 q.2)] at h9
            rw [z_os]; exact h9
          · have hb : hp.testBit u = true := by
              cases e9 : hp.testBit u with
              | true => rfl
              | false => exact absurd (b0.mpr e9) h
            rw [if_pos ⟨hb, h2⟩] at h9
            rw [z_os]; exact h9
      have keyM : ∀ j9 u, u + j9 = 4 → z_ev 60 (241, 28, [some (z_r 33 0), some (z_i (Int32.ofNat k)), some (z_i (z_fm j)), some (z_i (z_tgt H G hp u)), some (z_i (Int32.ofNat u))], [], (true, X, I2, J)) (some (z_i (z_tgt H G hp 4)), (true, X, I2, J)) := by
        intro j9
        induction j9 with
        | zero =>
          intro u hu
          obtain rfl : u = 4 := by omega
          exact z_q241_28 (d := 53) _ _ _ _ ⟨fun _ => rfl, fun h => absurd ((z_olt (b := 4) (by omega) (by decide)).mp h) (by omega)⟩
        | succ j9 ih =>
          intro u hu
          have h9 := ih (u + 1) (by omega)
          obtain ⟨b0, b1⟩ := z_bt16 h16 (show u < 4 by omega)
          have e : z_tgt H G hp (u + 1) = if hp.testBit u = true ∧ H u = G then z_tgt H G hp u ||| ((1 : Int32) <<< (Int32.ofNat u &&& 31)) else z_tgt H G hp u := rfl
          rw [e] at h9
          have e52 : I2 52 0 u = H u := by rw [d4 u (by omega), hHi]
          refine z_q241_28 (d := 53) _ _ _ _ ⟨fun h => absurd ((z_ole (a := 4) (by decide) (by omega)).mp h) (by omega), fun _ => ⟨fun h => ?_, fun h => ⟨u, rfl, by omega, fun h2 => ?_, fun h2 => ?_⟩⟩⟩
          · rw [d2] at h
            rw [if_neg (fun q => h (b1.mpr q.1))] at h9
            rw [z_os, Int32.or_zero]; exact h9
          · rw [e52, d3] at h2
            rw [if_neg (fun q => h2 q.2)] at h9
            rw [z_os, Int32.or_zero]; exact h9
          · rw [d2] at h
            rw [e52, d3] at h2
            rw [if_pos ⟨b1.mp h, h2⟩] at h9
            rw [z_os]; exact h9
      exact ⟨_, X, X, I1, I2, J, J, z_q102_e (d := 42) _ _ ⟨true, _, _, _, z_p129t k1 k3 hj, fun _ => ⟨_, _, _, _, c1, fun _ => ⟨_, _, _, _, p153, keyC 4 0 (by omega)⟩, fun h => absurd h hne⟩, fun h => (by cases h)⟩, z_q241_e (d := 53) _ _ ⟨true, _, _, _, z_p238t (z_Tb_ag c2 rfl r8) k1 k3 hj, fun _ => ⟨true, _, _, _, d1, fun _ => keyM 4 0 (by omega), fun h => (by cases h)⟩, fun h => (by cases h)⟩, z_R_0 hR0 hw rfl rfl, Nat.le_succ _, Nat.le_add_right _ _, z_67_ag hw rfl⟩
  · exact ⟨z_i (-1), X, X, I, I, J, J, z_q102_e (d := 42) _ _ ⟨false, _, _, _, z_p129f hf, fun h => (by cases h), fun _ => rfl⟩, z_q241_e (d := 53) _ _ ⟨false, _, _, _, z_p238f r8 hf, fun h => (by cases h), fun _ => rfl⟩, hR0, Nat.le_succ _, Nat.le_add_right _ _, rfl⟩
