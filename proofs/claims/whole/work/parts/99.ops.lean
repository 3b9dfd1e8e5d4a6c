/-! calls of both: draw -/
theorem z_m1s : ∀ s, s < 11 → ((1 : Int32) <<< (Int32.ofNat s &&& 31)) - 1 = Int32.ofNat (2 ^ s - 1) ∧ 2 ^ s - 1 < 1024 := by decide +kernel
theorem z_m1b : ∀ s, s < 11 → ∀ b, b < 10 → (2 ^ s - 1).testBit b = decide (b < s) := by decide +kernel
theorem z_tq1_ag {I I' : Nat → Nat → Nat → Int32} (h : z_fr (fun a b c => z_tq 0 a b c || (Nat.beq a 1 && Nat.beq b 0 && Nat.beq c 6)) I I') : z_ag [0, 1] I I' := fun a b c hc => h a b c (by
  cases e : (z_tq 0 a b c || (Nat.beq a 1 && Nat.beq b 0 && Nat.beq c 6)) with
  | false => exact e
  | true =>
    rw [Bool.or_eq_true] at e
    rcases e with e | e
    · unfold z_tq at e
      rw [Bool.and_eq_true, Bool.or_eq_true] at e
      rcases e.1 with e1 | e1 <;> (obtain rfl := Nat.eq_of_beq_eq_true e1; exact absurd hc (by show ¬ ([0, 1] : List Nat).contains 0 = false; decide))
    · rw [Bool.and_eq_true, Bool.and_eq_true] at e
      obtain rfl := Nat.eq_of_beq_eq_true e.1.1
      obtain rfl := Nat.eq_of_beq_eq_true e.1.2
      exact absurd hc (by show ¬ ([0, 1] : List Nat).contains 1 = false; decide))
/-- promise 27 -/
theorem z_op_draw (x mm : Int32) : z_op 92 226 [z_i x, z_i mm] := by
  intro X I J hR
  have hR0 := hR
  obtain ⟨n0, r2, r3, r4, r5, r6, r7, r8⟩ := hR
  have nn := n0
  obtain ⟨n1, n2, n3, n4, n5⟩ := n0
  cases ha : z_bw x 0 3 with
  | false =>
    have fa : ∀ {P : Prop}, z_bw x 0 3 = true → P := fun h => by rw [ha] at h; cases h
    exact ⟨z_i (-1), X, X, I, I, J, J, z_q92_e (d := 58) x mm ⟨fun _ => rfl, fun h => fa h⟩, z_q226_e (d := 57) x mm ⟨fun _ => rfl, fun h => fa h⟩, hR0, Nat.le_succ _, Nat.le_add_right _ _, rfl⟩
  | true =>
    have fa : ∀ {P : Prop}, z_bw x 0 3 = false → P := fun h => by rw [ha] at h; cases h
    obtain ⟨n, hn, rfl⟩ := z_bw3 ha
    cases hb : z_bw mm 1 4 with
    | false =>
      have fb : ∀ {P : Prop}, z_bw mm 1 4 = true → P := fun h => by rw [hb] at h; cases h
      exact ⟨z_i (-1), X, X, I, I, J, J, z_q92_e (d := 58) _ mm ⟨fun h => fa h, fun _ => ⟨fun _ => rfl, fun h1 => ⟨fun h2 => fb (z_bw_t.mpr ⟨h1, h2⟩), fun _ => rfl⟩⟩⟩, z_q226_e (d := 57) _ mm ⟨fun h => fa h, fun _ => ⟨fun h => fb h, fun _ => rfl⟩⟩, hR0, Nat.le_succ _, Nat.le_add_right _ _, rfl⟩
    | true =>
      have fb : ∀ {P : Prop}, z_bw mm 1 4 = false → P := fun h => by rw [hb] at h; cases h
      obtain ⟨h1, h2⟩ := z_bw_t.mp hb
      obtain ⟨k, k1, k4, rfl⟩ := z_bw14 hb
      have q0 : ∀ {P : Prop}, Int32.ofNat k < 1 → P := fun h => absurd h1 (Int32.not_le.mpr h)
      have q1 : ∀ {P : Prop}, 4 < Int32.ofNat k → P := fun h => absurd h2 (Int32.not_le.mpr h)
      obtain ⟨s, m, g1, g2, g3, g4, g5, g6, g7⟩ := z_now_net nn hn
      by_cases hks : k ≤ s
      · have c13 : Int32.ofNat k ≤ I 13 n 1 := by rw [g4]; exact (z_ole (by omega) (by omega)).mpr hks
        obtain ⟨m1, m2⟩ := z_m1s s (by omega)
        obtain ⟨I1, e1, e2, e3⟩ := z_l92 (d := 58) (X := X) (J := J) (I := I) (n := n) (s := s) (k := k) (m := m) (z := I 1 0 6) (by omega) g2 g3 g4 g6 k4 hks (Int32.ofNat n) k 0 (by omega) none (2 ^ s - 1) I m2 (fun b hb => by rw [z_m1b s (by omega) b hb, show (z_dwn s (I 1 0 6) 0).2.1 = 0 from rfl, Nat.zero_testBit, Bool.not_false, Bool.and_true]) rfl (fun i hi => absurd hi (Nat.not_lt_zero i)) z_fr_rf
        have t : ∀ t, (∀ a b, (fun a b c => z_tq 0 a b c || (Nat.beq a 1 && Nat.beq b 0 && Nat.beq c 6)) t a b = false) → I1 t = I t := fun t ht => z_fr_t e3 t ht
        have t34 : I1 34 = I 34 := t 34 (fun _ _ => rfl)
        have t35 : I1 35 = I 35 := t 35 (fun _ _ => rfl)
        have t33 : I1 33 = I 33 := t 33 (fun _ _ => rfl)
        have a1 := z_tq1_ag e3
        have c34 : Int32.ofNat k ≤ I1 34 0 n := by rw [t34, g5]; exact (z_ole (by omega) (by omega)).mpr hks
        obtain ⟨I2, d1, d2, d3, d4⟩ := z_l226 (d := 57) (X := X) (J := J) (I := I1) (n := n) (s := s) (k := k) (m := m) (z := I 1 0 6) (z_Tb_ag a1 rfl r8) hn g2 g3 (by rw [t34]; exact g5) (fun p hp => by rw [t35]; exact g7 p hp) k1 k4 hks k 0 (by omega) none none I1 (by rw [t33]; exact n4.symm) z_fr_rf rfl
        obtain ⟨w1, w2, w3, w4, w5, w6⟩ := z_dwn_ok g2 (I 1 0 6) k hks
        have hfl := z_fl_set g3 (S := (z_dwn s (I 1 0 6) k).2.1) w5 (by omega) (fun x hx => by have := w6 x hx; omega) w4
        rw [hfl] at e1
        have hf2 : z_fr (z_np n) I1 I2 := z_fr_mn d3 (fun _ _ _ => z_mf_np)
        have hf1 : z_fr (z_np n) I I1 := fun a b c hc => e3 a b c (by
          cases e : (z_tq 0 a b c || (Nat.beq a 1 && Nat.beq b 0 && Nat.beq c 6)) with
          | false => exact e
          | true =>
            exfalso
            unfold z_np at hc
            rw [Bool.or_eq_true] at e
            rcases e with e | e
            · unfold z_tq at e
              rw [Bool.and_eq_true, Bool.or_eq_true] at e
              rcases e.1 with e1 | e1 <;> (obtain rfl := Nat.eq_of_beq_eq_true e1; rw [show Nat.beq (z_cp _ b c) 0 = true from rfl] at hc; simp at hc)
            · rw [e] at hc; simp at hc)
        have u14 : ∀ p, p < 10 → I2 14 n p = Int32.ofNat (m p) := fun p hp => by
          rw [z_fr_t d3 14 (fun _ _ => rfl), t 14 (fun _ _ => rfl)]
          have := g6 p hp
          rwa [Nat.zero_add] at this
        refine ⟨_, X, X, I1, I2, J, J, z_q92_e (d := 58) _ _ ⟨fun h => fa h, fun _ => ⟨fun h => q0 h, fun _ => ⟨fun _ => ⟨n, rfl, hn, fun _ => by rw [g4, m1]; exact e1, fun h => absurd c13 (Int32.not_le.mpr h)⟩, fun h => q1 h⟩⟩⟩, z_q226_e (d := 57) _ _ ⟨fun h => fa h, fun _ => ⟨fun _ => ⟨n, rfl, hn, fun _ => d1, fun h => absurd c34 (Int32.not_le.mpr h)⟩, fun h => fb h⟩⟩, z_R_net hR0 hn (z_fr_tr hf1 hf2) g1 g2 g3 (by rw [z_fr_t d3 13 (fun _ _ => rfl), t 13 (fun _ _ => rfl)]; exact g4) (by rw [z_fr_t d3 34 (fun _ _ => rfl), t34]; exact g5) u14 (fun p hp => by rw [d4, t35]; exact g7 p hp) (by rw [z_fr_t d3 1 (fun _ _ => rfl), e2, d2]) rfl rfl, Nat.le_succ _, Nat.le_add_right _ _, ?_⟩
        rw [z_fr_t d3 67 (fun _ _ => rfl), t 67 (fun _ _ => rfl)]
      · have c13 : ¬ Int32.ofNat k ≤ I 13 n 1 := by rw [g4]; exact fun q => absurd ((z_ole (by omega) (by omega)).mp q) hks
        have c34 : ¬ Int32.ofNat k ≤ I 34 0 n := by rw [g5]; exact fun q => absurd ((z_ole (by omega) (by omega)).mp q) hks
        exact ⟨z_i (-3), X, X, I, I, J, J, z_q92_e (d := 58) _ _ ⟨fun h => fa h, fun _ => ⟨fun h => q0 h, fun _ => ⟨fun _ => ⟨n, rfl, hn, fun h => absurd h c13, fun _ => rfl⟩, fun h => q1 h⟩⟩⟩, z_q226_e (d := 57) _ _ ⟨fun h => fa h, fun _ => ⟨fun _ => ⟨n, rfl, hn, fun h => absurd h c34, fun _ => rfl⟩, fun h => fb h⟩⟩, hR0, Nat.le_succ _, Nat.le_add_right _ _, rfl⟩
