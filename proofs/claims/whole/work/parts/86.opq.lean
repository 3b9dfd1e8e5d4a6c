/-! calls of both: share, lift -/
theorem z_bw01 {x : Int32} : z_bw x 0 1 = true → x = 0 ∨ x = 1 := fun h => z_bw1 h
theorem z_J2 {J : Nat → Nat → Nat → Int64} {a b : Int64} : (z_up (z_up J 33 0 26 a) 33 0 27 b) 31 = J 31 ∧ (z_up (z_up J 33 0 26 a) 33 0 27 b) 57 = J 57 := ⟨by rw [z_up_t (by decide), z_up_t (by decide)], by rw [z_up_t (by decide), z_up_t (by decide)]⟩
/-- promise 13 -/
theorem z_op_share (x mm f si : Int32) : z_op 78 200 [z_i x, z_i mm, z_i f, z_i si] := by
  intro X I J hR
  have hR0 := hR
  obtain ⟨n1, -, -, -, -, -, -, r8⟩ := hR
  by_cases hf : z_isf mm f
  · obtain ⟨k, i, k1, k4, hi, rfl, rfl⟩ := hf
    have hi11 : i < 11 := Nat.lt_of_lt_of_le hi (z_fon_le k k4)
    have p128 := z_p128t (d := 58) (X := X) (I := I) (J := J) k1 k4 hi
    have v0 : ∀ {P : Prop}, Int32.ofNat i < 0 → P := fun h => absurd (z_on0 i (by omega)) (Int32.not_le.mpr h)
    cases ha : z_bw x 0 3 with
    | false =>
      have fa : ∀ {P : Prop}, z_bw x 0 3 = true → P := fun h => by rw [ha] at h; cases h
      exact ⟨z_i (-1), X, X, I, I, J, J, z_q78_e (d := 44) x _ _ si ⟨_, _, _, _, p128, fun _ => rfl, fun h => fa h⟩, z_q200_e (d := 55) x _ _ si ⟨fun _ => rfl, fun h => fa h⟩, hR0, Nat.le_succ _, Nat.le_add_right _ _, rfl⟩
    | true =>
      have fa : ∀ {P : Prop}, z_bw x 0 3 = false → P := fun h => by rw [ha] at h; cases h
      obtain ⟨n, hn, rfl⟩ := z_bw3 ha
      cases hb : z_bw si 0 1 with
      | false =>
        have fb : ∀ {P : Prop}, z_bw si 0 1 = true → P := fun h => by rw [hb] at h; cases h
        exact ⟨z_i (-1), X, X, I, I, J, J, z_q78_e (d := 44) _ _ _ si ⟨_, _, _, _, p128, fun h => fa h, fun _ => ⟨fun h => v0 h, fun _ => ⟨fun h => fb h, fun _ => rfl⟩⟩⟩, z_q200_e (d := 55) _ _ _ si ⟨fun h => fa h, fun _ => ⟨true, _, _, _, z_p166t r8 k1 k4 hi, fun h => (by cases h), fun _ => ⟨fun h => fb h, fun _ => rfl⟩⟩⟩, hR0, Nat.le_succ _, Nat.le_add_right _ _, rfl⟩
      | true =>
        have fb : ∀ {P : Prop}, z_bw si 0 1 = false → P := fun h => by rw [hb] at h; cases h
        obtain ⟨s, m, g1, g2, g3, g4, g5, g6, g7⟩ := z_now_net n1 hn
        by_cases hks : k ≤ s
        · have c13 : Int32.ofNat k ≤ I 13 n 1 := by rw [g4]; exact (z_ole (by omega) (by omega)).mpr hks
          obtain ⟨I1, c1, c2, c3⟩ := z_p42 (d := 44) (X := X) (J := J) (I := I) (q := 0) (q1 := n) (by decide) (by omega) k4 g2 g3.1 g6 g4
          have hw := z_tq_ag c3
          have t34 : I1 34 = I 34 := z_fr_t c3 34 (fun _ _ => rfl)
          have t35 : I1 35 = I 35 := z_fr_t c3 35 (fun _ _ => rfl)
          have t13 : I1 13 = I 13 := z_fr_t c3 13 (fun _ _ => rfl)
          have c34 : Int32.ofNat k ≤ I1 34 0 n := by rw [t34, g5]; exact (z_ole (by omega) (by omega)).mpr hks
          have h196 := z_p196 (d := 55) (X := X) (J := J) (I := I1) (z_Tb_ag hw rfl r8) hn g2 g3 (by rw [t34]; exact g5) (fun p hp => by rw [t35]; exact g7 p hp) k1 k4 hi11
          obtain ⟨w1, w2, w3⟩ := z_wn_tab s (by omega) k (by omega) hks
          have hc := z_cnf_le (show s < 11 by omega) (show k < 5 by omega) m i
          obtain ⟨g, hg⟩ := z_frc (z_jmin (v := z_cnf m s k i) (by omega)) w2 (show z_wn s k < 2 ^ 63 by omega)
          have p130 := z_p130 (d := 59) (X := X) (I := I1) (J := J) (Int32.ofNat s) (m := k) (by omega)
          have p195 := z_p195 (d := 59) (X := X) (I := I1) (J := J) (Int32.ofNat s) (m := k) (by omega)
          rw [w1] at p130 p195
          refine ⟨z_i (z_frv (Int64.ofNat (z_cnf m s k i)) (z_wn s k) g si).toInt32, X, X, I1, I1, J, _, z_q78_e (d := 44) _ _ _ si ⟨_, _, _, _, p128, fun h => fa h, fun _ => ⟨fun h => v0 h, fun _ => ⟨fun _ => ⟨n, rfl, hn, fun _ => ⟨_, _, _, c1, i, rfl, hi11, _, _, _, _, (by rw [t13, g4]; exact p130), _, _, _, _, (by rw [c2 i hi11, z_i64 (by omega), z_i64 (by omega)]; exact (hg 58 X I1 J si).1), rfl⟩, fun h => absurd c13 (Int32.not_le.mpr h)⟩, fun h => fb h⟩⟩⟩, z_q200_e (d := 55) _ _ _ si ⟨fun h => fa h, fun _ => ⟨true, _, _, _, z_p166t (z_Tb_ag hw rfl r8) k1 k4 hi, fun h => (by cases h), fun _ => ⟨fun _ => ⟨n, rfl, hn, fun _ => ⟨_, _, _, _, h196, _, _, _, _, (by rw [t34, g5]; exact p195), _, _, _, (by rw [z_i64 (by omega), z_i64 (by omega)]; exact (hg 59 X I1 J si).2), _, _, _, _, z_p199 si, rfl⟩, fun h => absurd c34 (Int32.not_le.mpr h)⟩, fun h => fb h⟩⟩⟩, z_R_0 hR0 hw z_J2.1 z_J2.2, Nat.le_succ _, Nat.le_add_right _ _, z_67_ag hw rfl⟩
        · have c13 : ¬ Int32.ofNat k ≤ I 13 n 1 := by rw [g4]; exact fun q => absurd ((z_ole (by omega) (by omega)).mp q) hks
          have c34 : ¬ Int32.ofNat k ≤ I 34 0 n := by rw [g5]; exact fun q => absurd ((z_ole (by omega) (by omega)).mp q) hks
          exact ⟨z_i (-3), X, X, I, I, J, J, z_q78_e (d := 44) _ _ _ si ⟨_, _, _, _, p128, fun h => fa h, fun _ => ⟨fun h => v0 h, fun _ => ⟨fun _ => ⟨n, rfl, hn, fun h => absurd h c13, fun _ => rfl⟩, fun h => fb h⟩⟩⟩, z_q200_e (d := 55) _ _ _ si ⟨fun h => fa h, fun _ => ⟨true, _, _, _, z_p166t r8 k1 k4 hi, fun h => (by cases h), fun _ => ⟨fun _ => ⟨n, rfl, hn, fun h => absurd h c34, fun _ => rfl⟩, fun h => fb h⟩⟩⟩, hR0, Nat.le_succ _, Nat.le_add_right _ _, rfl⟩
  · have p128 := z_p128f (d := 58) (X := X) (I := I) (J := J) hf
    exact ⟨z_i (-1), X, X, I, I, J, J, z_q78_e (d := 44) x _ _ si ⟨_, _, _, _, p128, fun _ => rfl, fun _ => ⟨fun _ => rfl, fun h => absurd h (by decide)⟩⟩, z_q200_e (d := 55) x _ _ si ⟨fun _ => rfl, fun _ => ⟨false, _, _, _, z_p166f r8 hf, fun _ => rfl, fun h => (by cases h)⟩⟩, hR0, Nat.le_succ _, Nat.le_add_right _ _, rfl⟩
/-- promise 14 -/
theorem z_op_lift (mm f kk g si : Int32) : z_op 79 203 [z_i mm, z_i f, z_i kk, z_i g, z_i si] := by
  intro X I J hR
  have hR0 := hR
  obtain ⟨n1, -, -, -, -, -, -, r8⟩ := hR
  by_cases hf : z_isf mm f
  · obtain ⟨k, i, k1, k4, hi, rfl, rfl⟩ := hf
    have hi11 : i < 11 := Nat.lt_of_lt_of_le hi (z_fon_le k k4)
    have p128 := z_p128t (d := 58) (X := X) (I := I) (J := J) k1 k4 hi
    have v0 : ∀ {P : Prop}, Int32.ofNat i < 0 → P := fun h => absurd (z_on0 i (by omega)) (Int32.not_le.mpr h)
    by_cases hg : z_isf kk g
    · obtain ⟨n, j, n1', n4, hj, rfl, rfl⟩ := hg
      have hj11 : j < 11 := Nat.lt_of_lt_of_le hj (z_fon_le n n4)
      have p129 := z_p128t (d := 58) (X := X) (I := I) (J := J) n1' n4 hj
      have u0 : ∀ {P : Prop}, Int32.ofNat j < 0 → P := fun h => absurd (z_on0 j (by omega)) (Int32.not_le.mpr h)
      by_cases hkn : k ≤ n
      · have c1 : Int32.ofNat k ≤ Int32.ofNat n := (z_ole (by omega) (by omega)).mpr hkn
        have b1 : z_bw (Int32.ofNat n) (Int32.ofNat k) 4 = true := z_bw_t.mpr ⟨c1, (z_ole (b := 4) (by omega) (by decide)).mpr n4⟩
        have fb1 : ∀ {P : Prop}, z_bw (Int32.ofNat n) (Int32.ofNat k) 4 = false → P := fun h => by rw [b1] at h; cases h
        cases hb : z_bw si 0 1 with
        | false =>
          have fb : ∀ {P : Prop}, z_bw si 0 1 = true → P := fun h => by rw [hb] at h; cases h
          exact ⟨z_i (-1), X, X, I, I, J, J, z_q79_e (d := 43) _ _ _ _ si ⟨_, _, _, _, p128, _, _, _, _, p129, fun _ => rfl, fun _ => ⟨fun _ => rfl, fun _ => ⟨fun _ => rfl, fun _ => ⟨fun h => fb h, fun _ => rfl⟩⟩⟩⟩, z_q203_e (d := 55) _ _ _ _ si ⟨true, _, _, _, z_p166t r8 k1 k4 hi, fun h => (by cases h), fun _ => ⟨fun _ => rfl, fun _ => ⟨true, _, _, _, z_p166t r8 n1' n4 hj, fun h => (by cases h), fun _ => ⟨fun h => fb h, fun _ => rfl⟩⟩⟩⟩, hR0, Nat.le_succ _, Nat.le_add_right _ _, rfl⟩
        | true =>
          have fb : ∀ {P : Prop}, z_bw si 0 1 = false → P := fun h => by rw [hb] at h; cases h
          obtain ⟨I1, e1, e2⟩ := z_p140 (d := 43) (X := X) (I := I) (J := J) k4 hi11 n4 n1' hj
          obtain ⟨f1, f2, f3⟩ := z_fm_tab n (by omega) n1' j hj
          have f64 : z_fmn j < 64 := z_c64 n4 f2
          have r81 := z_Tb_ag e2 rfl r8
          obtain ⟨I2, d1, d2⟩ := z_p202 (d := 55) (X := X) (I := I1) (J := J) r81 k1 k4 hi11 (show n ≤ 5 by omega) (show z_fmn j < 1024 by omega)
          rw [← f1] at d1
          obtain ⟨w1, w2, w3⟩ := z_wn_tab n (by omega) k (by omega) hkn
          have hc := z_cnf_le (show n < 11 by omega) (show k < 5 by omega) (z_cmn n (z_fmn j)) i
          obtain ⟨gg, hgg⟩ := z_frc (z_jmin (v := z_cnf (z_cmn n (z_fmn j)) n k i) (by omega)) w2 (show z_wn n k < 2 ^ 63 by omega)
          have p130 := z_p130 (d := 59) (X := X) (I := I1) (J := J) (Int32.ofNat n) (m := k) (by omega)
          have p195 := z_p195 (d := 59) (X := X) (I := I2) (J := J) (Int32.ofNat n) (m := k) (by omega)
          rw [w1] at p130 p195
          have hw := z_ag_tr e2 d2
          exact ⟨z_i (z_frv (Int64.ofNat (z_cnf (z_cmn n (z_fmn j)) n k i)) (z_wn n k) gg si).toInt32, X, X, I1, I2, J, _, z_q79_e (d := 43) _ _ _ _ si ⟨_, _, _, _, p128, _, _, _, _, p129, fun h => v0 h, fun _ => ⟨fun h => absurd c1 (Int32.not_le.mpr h), fun _ => ⟨fun h => u0 h, fun _ => ⟨fun _ => ⟨_, _, _, _, e1, _, _, _, _, p130, _, _, _, _, (by rw [z_i64 (by omega), z_i64 (by omega)]; exact (hgg 58 X I1 J si).1), rfl⟩, fun h => fb h⟩⟩⟩⟩, z_q203_e (d := 55) _ _ _ _ si ⟨true, _, _, _, z_p166t r81 k1 k4 hi, fun h => (by cases h), fun _ => ⟨fun h => fb1 h, fun _ => ⟨true, _, _, _, z_p166t r81 n1' n4 hj, fun h => (by cases h), fun _ => ⟨fun _ => ⟨_, _, _, _, d1, _, _, _, _, p195, _, _, _, (by rw [z_i64 (by omega), z_i64 (by omega)]; exact (hgg 59 X I2 J si).2), _, _, _, _, z_p199 si, rfl⟩, fun h => fb h⟩⟩⟩⟩, z_R_0 hR0 hw z_J2.1 z_J2.2, Nat.le_succ _, Nat.le_add_right _ _, z_67_ag hw rfl⟩
      · have c1 : ¬ Int32.ofNat k ≤ Int32.ofNat n := fun q => hkn ((z_ole (by omega) (by omega)).mp q)
        have fb1 : ∀ {P : Prop}, z_bw (Int32.ofNat n) (Int32.ofNat k) 4 = true → P := fun h => absurd (z_bw_t.mp h).1 c1
        exact ⟨z_i (-1), X, X, I, I, J, J, z_q79_e (d := 43) _ _ _ _ si ⟨_, _, _, _, p128, _, _, _, _, p129, fun _ => rfl, fun _ => ⟨fun _ => rfl, fun h => absurd h c1⟩⟩, z_q203_e (d := 55) _ _ _ _ si ⟨true, _, _, _, z_p166t r8 k1 k4 hi, fun h => (by cases h), fun _ => ⟨fun _ => rfl, fun h => fb1 h⟩⟩, hR0, Nat.le_succ _, Nat.le_add_right _ _, rfl⟩
    · have p129 := z_p128f (d := 58) (X := X) (I := I) (J := J) hg
      exact ⟨z_i (-1), X, X, I, I, J, J, z_q79_e (d := 43) _ _ _ _ si ⟨_, _, _, _, p128, _, _, _, _, p129, fun _ => rfl, fun _ => ⟨fun _ => rfl, fun _ => ⟨fun _ => rfl, fun h => absurd h (by decide)⟩⟩⟩, z_q203_e (d := 55) _ _ _ _ si ⟨true, _, _, _, z_p166t r8 k1 k4 hi, fun h => (by cases h), fun _ => ⟨fun _ => rfl, fun _ => ⟨false, _, _, _, z_p166f r8 hg, fun _ => rfl, fun h => (by cases h)⟩⟩⟩, hR0, Nat.le_succ _, Nat.le_add_right _ _, rfl⟩
  · have p128 := z_p128f (d := 58) (X := X) (I := I) (J := J) hf
    have q9 : ∃ v : Int32, z_ev 59 (z_en 128 [z_i kk, z_i g] (true, X, I, J)) (some (z_i v), (true, X, I, J)) := by
      by_cases hg : z_isf kk g
      · obtain ⟨n, j, n1', n4, hj, rfl, rfl⟩ := hg
        exact ⟨_, z_p128t (d := 58) n1' n4 hj⟩
      · exact ⟨_, z_p128f (d := 58) hg⟩
    obtain ⟨v9, q9⟩ := q9
    exact ⟨z_i (-1), X, X, I, I, J, J, z_q79_e (d := 43) _ _ _ _ si ⟨_, _, _, _, p128, _, _, _, _, q9, fun _ => rfl, fun h => absurd h (by decide)⟩, z_q203_e (d := 55) _ _ _ _ si ⟨false, _, _, _, z_p166f r8 hf, fun _ => rfl, fun h => (by cases h)⟩, hR0, Nat.le_succ _, Nat.le_add_right _ _, rfl⟩
