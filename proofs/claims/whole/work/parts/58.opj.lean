/-- promise 8 -/
theorem z_op_turn (x : Int32) : z_op 73 188 [z_i x] := by
  intro X I J hR
  have hR0 := hR
  obtain ⟨⟨n1, n2, n3, n4, n5⟩, r2, r3, r4, r5, r6, r7, r8⟩ := hR
  cases ha : z_bw x 0 3 with
  | false =>
    refine ⟨z_i (-1), X, X, I, I, J, J, z_q73_e (d := 58) x ⟨fun h => ?_, fun _ => rfl⟩, z_q188_e (d := 58) x ⟨fun h => ?_, fun _ => rfl⟩, hR0, Nat.le_succ _, Nat.le_add_right _ _, rfl⟩
    · rw [ha] at h; cases h
    · rw [ha] at h; cases h
  | true =>
    obtain ⟨k, hk, rfl⟩ := z_bw3 ha
    have fa : ∀ {P : Prop}, z_bw (Int32.ofNat k) 0 3 = false → P := fun h => by rw [ha] at h; cases h
    rw [z_Rn0] at n1
    obtain ⟨s, m, g1, g2, g3, g4, g5, g6⟩ := n1 k hk
    have g4 : I 13 k 1 = Int32.ofNat s := g4
    have g5 : I 34 0 k = Int32.ofNat s := g5
    have g6 : ∀ p, p < 10 → I 14 k p = Int32.ofNat (m p) ∧ I 35 0 (10 * k + p) = Int32.ofNat (m p) := g6
    obtain ⟨I1, hI1⟩ : ∃ I1, I1 = z_wo I 14 k 0 s (fun p => z_tc1 s p (I 14 k p)) := ⟨_, rfl⟩
    obtain ⟨I2, hI2⟩ : ∃ I2, I2 = z_wo I1 35 0 (10 * k) s (fun p => z_tm1 s p (I1 35 0 (10 * k + p))) := ⟨_, rfl⟩
    have t1 : ∀ t, t ≠ 14 → I1 t = I t := fun t ht => by rw [hI1]; exact z_wo_t ht
    have t2 : ∀ t, t ≠ 35 → I2 t = I1 t := fun t ht => by rw [hI2]; exact z_wo_t ht
    have a1 : ∀ p, p < 10 → I1 14 k p = Int32.ofNat (z_mt s m p) := fun p hp => by
      obtain ⟨q1, q2⟩ := z_wfm_lt g3 hp
      unfold z_mt
      by_cases hps : p < s
      · rw [hI1, z_wo_e0 hps, if_pos hps, (g6 p hp).1]
        exact (z_tn_nat s (by omega) p hps _ q1 q2).1
      · rw [hI1, z_wo_j (by omega), if_neg hps]
        exact (g6 p hp).1
    have a2 : ∀ p, p < 10 → I2 35 0 (10 * k + p) = Int32.ofNat (z_mt s m p) := fun p hp => by
      obtain ⟨q1, q2⟩ := z_wfm_lt g3 hp
      unfold z_mt
      by_cases hps : p < s
      · rw [hI2, z_wo_e hps, if_pos hps, t1 35 (by decide), (g6 p hp).2]
        exact (z_tn_nat s (by omega) p hps _ q1 q2).2.1
      · rw [hI2, z_wo_j (by omega), if_neg hps, t1 35 (by decide)]
        exact (g6 p hp).2
    have w := z_wfm_mt g2 g3
    have e : z_sm (I1 14 k) s = z_sm (fun p => I2 35 0 (10 * k + p)) s := z_sm_eq fun p hp => by rw [a1 p (by omega), a2 p (by omega)]
    have c14 : ∀ j, ([0, 1] : List Nat).contains (z_cp 14 k j) = true := fun j => by
      show ([0, 1] : List Nat).contains (bif Nat.blt k 4 then 1 else _) = true
      rw [show Nat.blt k 4 = true from Nat.ble_eq_true_of_le hk]; rfl
    have hw : z_ag [0, 1] I I2 := by
      rw [hI2, hI1]
      exact z_ag_wo (z_ag_wo z_ag_rf c14) (fun _ => rfl)
    have p1 := z_p25 (d := 59) (X := X) (J := J) (q := k) (by omega) g2 g4
    rw [← hI1] at p1
    have p2 := z_p26 (d := 58) (X := X) (J := J) (I := I1) (q := k) (by omega) g2 (by rw [t1 13 (by decide)]; exact g4)
    have p3 := z_p171 (d := 58) (X := X) (J := J) (I := I2) hk g2 (by rw [t2 34 (by decide), t1 34 (by decide)]; exact g5) (fun p hp => by rw [a2 p hp]; exact z_r10_of (w.1 p hp))
    have p4 := z_l188 (d := 58) (X := X) (I := I1) (J := J) (r := (some (z_i (z_sm (fun p => I2 35 0 (10 * k + p)) s / 2)), (true, X, I2, J))) hk g2 (by rw [t1 34 (by decide)]; exact g5) (by rw [← hI2]; exact p3) ⟨_, by rw [← hI2]⟩
    refine ⟨z_i (z_sm (fun p => I2 35 0 (10 * k + p)) s / 2), X, X, I1, I2, J, J, z_q73_e (d := 58) _ ⟨fun _ => ⟨k, rfl, hk, _, _, _, p1, _, _, _, _, p2, by rw [e]⟩, fun h => fa h⟩, z_q188_e (d := 58) _ ⟨fun _ => p4, fun h => fa h⟩, z_R_01 hR0 hw rfl rfl ⟨?_, ?_, ?_, ?_, ?_⟩, Nat.le_succ _, Nat.le_add_right _ _, z_67_ag hw rfl⟩
    · rw [z_Rn0]
      refine z_Rn_up n1 (n := k) (s := s) (m := z_mt s m) g1 g2 w ?_ ?_ (fun p hp => ⟨?_, a2 p hp⟩) (fun u hu hne => ⟨?_, ?_, fun p hp => ⟨?_, ?_⟩⟩)
      · show I2 13 k 1 = _
        rw [t2 13 (by decide), t1 13 (by decide)]; exact g4
      · show I2 34 0 k = _
        rw [t2 34 (by decide), t1 34 (by decide)]; exact g5
      · show I2 14 k p = _
        rw [t2 14 (by decide)]; exact a1 p hp
      · show I2 13 u 1 = I 13 u 1
        rw [t2 13 (by decide), t1 13 (by decide)]
      · show I2 34 0 u = I 34 0 u
        rw [t2 34 (by decide), t1 34 (by decide)]
      · show I2 14 u p = I 14 u p
        rw [t2 14 (by decide), hI1, z_wo_i hne]
      · rw [hI2, z_wo_j (by omega), t1 35 (by decide)]
    · rw [t2 3 (by decide), t1 3 (by decide), t2 33 (by decide), t1 33 (by decide), t2 36 (by decide), t1 36 (by decide)]; exact n2
    · rw [t2 4 (by decide), t1 4 (by decide), t2 5 (by decide), t1 5 (by decide), t2 6 (by decide), t1 6 (by decide), t2 33 (by decide), t1 33 (by decide), t2 37 (by decide), t1 37 (by decide), t2 38 (by decide), t1 38 (by decide)]; exact n3
    · rw [t2 1 (by decide), t1 1 (by decide), t2 33 (by decide), t1 33 (by decide)]; exact n4
    · rw [t2 32 (by decide), t1 32 (by decide), t2 1 (by decide), t1 1 (by decide), t2 12 (by decide), t1 12 (by decide), t2 33 (by decide), t1 33 (by decide), t2 39 (by decide), t1 39 (by decide)]; exact n5
