/-- promise 19 -/
theorem z_op_part (x : Int32) : z_op 84 211 [z_i x] := by
  intro X I J hR
  have hR0 := hR
  obtain ⟨⟨n1, n2, ⟨k, l1, l2, l3, l4, l5, l6, l7⟩, n4, n5⟩, r2, r3, r4, r5, r6, r7, r8⟩ := hR
  cases ha : z_bw x 1 9 with
  | false =>
    refine ⟨z_i (-1), X, X, I, I, J, J, z_q84_e (d := 58) x ⟨fun _ => rfl, fun h1 => ⟨fun h2 => ?_, fun _ => rfl⟩⟩, z_q211_e (d := 59) x ⟨fun h => ?_, fun _ => rfl⟩, hR0, Nat.le_succ _, Nat.le_add_right _ _, rfl⟩
    · rw [z_bw_t.mpr ⟨h1, h2⟩] at ha; cases ha
    · rw [ha] at h; cases h
  | true =>
    have fa : ∀ {P : Prop}, z_bw x 1 9 = false → P := fun h => by rw [ha] at h; cases h
    obtain ⟨g0, g1⟩ := z_bw_t.mp ha
    by_cases hk : k = 5
    · subst hk
      exact ⟨z_i (-2), X, X, I, I, J, J, z_q84_e (d := 58) x ⟨fun h => absurd g0 (Int32.not_le.mpr h), fun _ => ⟨fun _ => ⟨fun h => absurd h (by rw [l2]; decide), fun _ => rfl⟩, fun h => absurd g1 (Int32.not_le.mpr h)⟩⟩, z_q211_e (d := 59) x ⟨fun _ => ⟨fun h => absurd l3 h, fun _ => rfl⟩, fun h => fa h⟩, hR0, Nat.le_succ _, Nat.le_add_right _ _, rfl⟩
    · have hk5 : k < 5 := by omega
      obtain ⟨v, hv, ev⟩ := z_nat' (n := 9) (Int32.le_trans (by decide) g0) g1 (by decide)
      have hv1 : 1 ≤ v := by rw [ev] at g0; exact (z_ole (a := 1) (by decide) (by omega)).mp g0
      have c1 : I 4 0 2 < 5 := by rw [l2]; exact (z_olt (b := 5) (by omega) (by decide)).mpr hk5
      have c2 : ¬ I 33 0 4 = 5 := by rw [l3]; exact fun q => hk ((z_oeq (b := 5) (by omega) (by decide)).mp q)
      obtain ⟨I1, hI1⟩ : ∃ I1, I1 = z_zc (z_up (z_up I 5 0 k x) 4 0 2 (Int32.ofNat (k + 1))) 6 k (k + 1) := ⟨_, rfl⟩
      obtain ⟨I2, hI2⟩ : ∃ I2, I2 = z_up (z_zc (z_up I1 37 0 k x) 38 k (k + 1)) 33 0 4 (Int32.ofNat (k + 1)) := ⟨_, rfl⟩
      have t1 : ∀ t, t ≠ 4 → t ≠ 5 → t ≠ 6 → I1 t = I t := fun t h4 h5 h6 => by rw [hI1, z_zc_t h6, z_up_t h4, z_up_t h5]
      have t2 : ∀ t, t ≠ 33 → t ≠ 37 → t ≠ 38 → I2 t = I1 t := fun t h4 h5 h6 => by rw [hI2, z_up_t h4, z_zc_t h6, z_up_t h5]
      have t3 : ∀ t, t ≠ 4 → t ≠ 5 → t ≠ 6 → t ≠ 33 → t ≠ 37 → t ≠ 38 → I2 t = I t := fun t a1 a2 a3 a4 a5 a6 => (t2 t a4 a5 a6).trans (t1 t a1 a2 a3)
      have e4 : I2 4 0 2 = Int32.ofNat (k + 1) := by rw [t2 4 (by decide) (by decide) (by decide), hI1, z_zc_t (by decide), z_up_e]
      have e33 : I2 33 0 4 = Int32.ofNat (k + 1) := by rw [hI2, z_up_e]
      have o33 : ∀ j, j ≠ 4 → I2 33 0 j = I 33 0 j := fun j hj => by rw [hI2, z_up_j hj, z_zc_t (by decide), z_up_t (by decide), t1 33 (by decide) (by decide) (by decide)]
      have e5 : ∀ j, I2 5 0 j = if j = k then x else I 5 0 j := fun j => by
        rw [t2 5 (by decide) (by decide) (by decide), hI1, z_zc_t (by decide), z_up_t (by decide)]
        by_cases h : j = k
        · rw [if_pos h, h, z_up_e]
        · rw [if_neg h, z_up_j h]
      have e37 : ∀ j, I2 37 0 j = if j = k then x else I 37 0 j := fun j => by
        rw [hI2, z_up_t (by decide), z_zc_t (by decide)]
        by_cases h : j = k
        · rw [if_pos h, h, z_up_e]
        · rw [if_neg h, z_up_j h, t1 37 (by decide) (by decide) (by decide)]
      have e6 : ∀ j, I2 6 0 j = if (∃ o, o < k + 1 ∧ (j = 5 * o + k ∨ j = 5 * k + o)) then 0 else I 6 0 j := fun j => by
        rw [t2 6 (by decide) (by decide) (by decide), hI1, z_zc_at]; rfl
      have e38 : ∀ j, I2 38 0 j = if (∃ o, o < k + 1 ∧ (j = 5 * o + k ∨ j = 5 * k + o)) then 0 else I 38 0 j := fun j => by
        rw [hI2, z_up_t (by decide), z_zc_at, z_up_t (by decide), t1 38 (by decide) (by decide) (by decide)]
      have hw : z_ag [0, 1] I I2 := by
        rw [hI2, hI1]
        exact z_ag_up (z_zc_ag (z_ag_up (z_zc_ag (z_ag_up (z_ag_up z_ag_rf rfl) rfl) (fun _ => rfl) _) rfl) (fun _ => rfl) _) rfl
      have p1 := z_p6 (d := 58) (X := X) (J := J) hk5 l2 x
      rw [← hI1] at p1
      have p2 := z_l211 (d := 59) (X := X) (J := J) (I := z_up I1 37 0 k x) hk5 (by rw [z_up_t (by decide), t1 33 (by decide) (by decide) (by decide)]; exact l3) x
      rw [← hI2] at p2
      have l3' : I1 33 0 4 = Int32.ofNat k := by rw [t1 33 (by decide) (by decide) (by decide)]; exact l3
      refine ⟨z_i (Int32.ofNat k), X, X, I1, I2, J, J, z_q84_e (d := 58) x ⟨fun h => absurd g0 (Int32.not_le.mpr h), fun _ => ⟨fun _ => ⟨fun _ => ⟨_, _, _, _, p1, rfl⟩, fun h => absurd c1 (Int32.not_lt.mpr h)⟩, fun h => absurd g1 (Int32.not_le.mpr h)⟩⟩, z_q211_e (d := 59) x ⟨fun _ => ⟨fun _ => ⟨k, l3', hk5, p2⟩, fun h => absurd (l3.trans (l3'.symm.trans h)) c2⟩, fun h => fa h⟩, z_R_01 hR0 hw rfl rfl ⟨?_, ?_, ⟨k + 1, by omega, e4, e33, fun j hj => ?_, fun j hj => ?_, fun j hj => ?_, fun a b ha9 hb9 => ?_⟩, ?_, ?_⟩, Nat.le_succ _, Nat.le_add_right _ _, z_67_ag hw rfl⟩
      · rw [t3 13 (by decide) (by decide) (by decide) (by decide) (by decide) (by decide), t3 14 (by decide) (by decide) (by decide) (by decide) (by decide) (by decide), t3 34 (by decide) (by decide) (by decide) (by decide) (by decide) (by decide), t3 35 (by decide) (by decide) (by decide) (by decide) (by decide) (by decide)]; exact n1
      · rw [t3 3 (by decide) (by decide) (by decide) (by decide) (by decide) (by decide), o33 2 (by decide), t3 36 (by decide) (by decide) (by decide) (by decide) (by decide) (by decide)]; exact n2
      · rw [e5, e37, l4 j hj]
      · rw [e6, e38, l5 j hj]
      · rw [e37]
        by_cases h : j = k
        · rw [if_pos h]; exact ⟨v, hv1, hv, ev⟩
        · rw [if_neg h]; exact l6 j (by omega)
      · rw [e38, e38]
        by_cases h : a = k ∨ b = k
        · refine ⟨0, by omega, ?_, ?_⟩
          · rw [if_pos]
            · rfl
            · rcases h with h | h
              · exact ⟨b, hb9, Or.inr (by omega)⟩
              · exact ⟨a, ha9, Or.inl (by omega)⟩
          · rw [if_pos]
            · rfl
            · rcases h with h | h
              · exact ⟨b, hb9, Or.inl (by omega)⟩
              · exact ⟨a, ha9, Or.inr (by omega)⟩
        · rw [if_neg (by rintro ⟨o, q1, q2⟩; omega), if_neg (by rintro ⟨o, q1, q2⟩; omega)]
          exact l7 a b (by omega) (by omega)
      · rw [t3 1 (by decide) (by decide) (by decide) (by decide) (by decide) (by decide), o33 7 (by decide)]; exact n4
      · rw [t3 32 (by decide) (by decide) (by decide) (by decide) (by decide) (by decide), t3 1 (by decide) (by decide) (by decide) (by decide) (by decide) (by decide), t3 12 (by decide) (by decide) (by decide) (by decide) (by decide) (by decide), o33 8 (by decide), t3 39 (by decide) (by decide) (by decide) (by decide) (by decide) (by decide)]; exact n5
