/-! calls of both: shelf -/
theorem z_p154 {d : Nat} {X : z_X} {I : Nat → Nat → Nat → Int32} {J : Nat → Nat → Nat → Int64} {n : Nat} (hn : n < 4) (a b : Int32) : z_ev d (z_en 154 [z_r 0 0, z_i (Int32.ofNat n), z_i a, z_i b] (true, X, I, J)) (some (z_i 1), (true, X, z_up (z_up I 22 0 n a) 23 0 n b, J)) := z_q154_e _ a b ⟨n, rfl, hn, rfl⟩
theorem z_R_sf {X : z_X} {I : Nat → Nat → Nat → Int32} {J : Nat → Nat → Nat → Int64} (hR : z_R X I J) {n : Nat} {h9 b9 g9 c9 d9 : Int32}
    (hc : (h9 = -1 ∧ g9 = -1) ∨ (h9 = 0 ∧ g9 = 0 ∧ b9 = c9 ∧ ∃ k, k < 6 ∧ c9 = Int32.ofNat k) ∨ ∃ s, s < 4 ∧ h9 = Int32.ofNat (10 + s) ∧ g9 = 1 ∧ c9 = Int32.ofNat s ∧ b9 = d9) :
    z_R X (z_up (z_up (z_up (z_up (z_up I 22 0 n h9) 23 0 n b9) 58 0 n g9) 59 0 n c9) 60 0 n d9) J := by
  obtain ⟨n1, r2, r3, r4, r5, r6, r7, r8⟩ := hR
  have hw : z_ag [6] I (z_up (z_up (z_up (z_up (z_up I 22 0 n h9) 23 0 n b9) 58 0 n g9) 59 0 n c9) 60 0 n d9) := z_ag_up (z_ag_up (z_ag_up (z_ag_up (z_ag_up z_ag_rf rfl) rfl) rfl) rfl) rfl
  refine ⟨z_now_ag hw rfl rfl n1, z_Rk_ag hw rfl rfl r2, z_Rt_ag hw rfl r3, z_Rr_ag hw rfl r4, z_Rh_ag hw rfl rfl rfl r5, fun u hu => ?_, z_Rx_ag hw rfl r7, z_Tb_ag hw rfl r8⟩
  have e1 : ∀ u, z_up (z_up (z_up (z_up (z_up I 22 0 n h9) 23 0 n b9) 58 0 n g9) 59 0 n c9) 60 0 n d9 22 0 u = z_up I 22 0 n h9 22 0 u := fun _ => rfl
  have e2 : ∀ u, z_up (z_up (z_up (z_up (z_up I 22 0 n h9) 23 0 n b9) 58 0 n g9) 59 0 n c9) 60 0 n d9 23 0 u = z_up (z_up I 22 0 n h9) 23 0 n b9 23 0 u := fun _ => rfl
  have e3 : ∀ u, z_up (z_up (z_up (z_up (z_up I 22 0 n h9) 23 0 n b9) 58 0 n g9) 59 0 n c9) 60 0 n d9 58 0 u = z_up (z_up (z_up I 22 0 n h9) 23 0 n b9) 58 0 n g9 58 0 u := fun _ => rfl
  have e4 : ∀ u, z_up (z_up (z_up (z_up (z_up I 22 0 n h9) 23 0 n b9) 58 0 n g9) 59 0 n c9) 60 0 n d9 59 0 u = z_up (z_up (z_up (z_up I 22 0 n h9) 23 0 n b9) 58 0 n g9) 59 0 n c9 59 0 u := fun _ => rfl
  rw [e1, e2, e3, e4]
  by_cases hun : u = n
  · subst hun
    rw [z_up_e, z_up_e, z_up_e, z_up_e, z_up_e]
    exact hc
  · have g1 : z_up I 22 0 n h9 22 0 u = I 22 0 u := z_up_j hun
    have g2 : z_up (z_up I 22 0 n h9) 23 0 n b9 23 0 u = I 23 0 u := z_up_j hun
    have g3 : z_up (z_up (z_up I 22 0 n h9) 23 0 n b9) 58 0 n g9 58 0 u = I 58 0 u := z_up_j hun
    have g4 : z_up (z_up (z_up (z_up I 22 0 n h9) 23 0 n b9) 58 0 n g9) 59 0 n c9 59 0 u = I 59 0 u := z_up_j hun
    have g5 : z_up (z_up (z_up (z_up (z_up I 22 0 n h9) 23 0 n b9) 58 0 n g9) 59 0 n c9) 60 0 n d9 60 0 u = I 60 0 u := z_up_j hun
    rw [g1, g2, g3, g4, g5]
    exact r6 u hu
/-- promise 46 -/
theorem z_op_shelf (x w1 v : Int32) : z_op 111 255 [z_i x, z_i w1, z_i v] := by
  intro X I J hR
  have hR0 := hR
  obtain ⟨⟨-, -, -, -, ⟨k9, hk9, e1, e2, -⟩⟩, -, -, -, r5, -, -, -⟩ := hR
  cases ha : z_bw x 0 3 with
  | false =>
    refine ⟨z_i (-1), X, X, I, I, J, J, z_q111_e (d := 59) x w1 v ⟨fun h => ?_, fun _ => rfl⟩, z_q255_e (d := 57) x w1 v ⟨fun _ => rfl, fun h => ?_⟩, hR0, Nat.le_succ _, Nat.le_add_right _ _, rfl⟩
    · rw [ha] at h; cases h
    · rw [ha] at h; cases h
  | true =>
    obtain ⟨k, hk, rfl⟩ := z_bw3 ha
    have fa : ∀ {P : Prop}, z_bw (Int32.ofNat k) 0 3 = false → P := fun h => by rw [ha] at h; cases h
    by_cases h0 : w1 = 0
    · subst h0
      have hm : ∀ (I : Nat → Nat → Nat → Int32), z_ev 59 (z_en 254 [z_r 33 0, z_i 0, z_i v] (true, X, I, J)) (some (z_i (z_c (z_bw v 0 (I 33 0 8 - 1)))), (true, X, I, J)) := fun I => z_q254_e (d := 57) 0 v ⟨fun h => absurd rfl h, fun _ => rfl⟩
      have eb : z_bw v 0 (I 33 0 8 - 1) = z_lt0 v (I 1 0 5) := by rw [z_bw_lt e2 (by omega), e1, e2]
      cases hb : z_lt0 v (I 1 0 5) with
      | false =>
        refine ⟨z_i (-1), X, X, I, I, J, J, z_q111_e (d := 59) _ _ v ⟨fun _ => ⟨fun h => absurd rfl h, fun _ => ⟨fun _ => rfl, fun h => ?_⟩⟩, fun h => fa h⟩, z_q255_e (d := 57) _ _ v ⟨fun h => fa h, fun _ => ⟨_, _, _, _, hm I, fun h => ?_, fun _ => rfl⟩⟩, hR0, Nat.le_succ _, Nat.le_add_right _ _, rfl⟩
        · rw [hb] at h; cases h
        · rw [eb, hb] at h; cases h
      | true =>
        obtain ⟨j, hj, ej⟩ := z_lt0n hb e1 (by omega)
        refine ⟨z_i 1, X, X, _, _, J, J, z_q111_e (d := 59) _ _ v ⟨fun _ => ⟨fun h => absurd rfl h, fun _ => ⟨fun h => ?_, fun _ => ⟨_, _, _, _, z_p154 hk 0 v, rfl⟩⟩⟩, fun h => fa h⟩, z_q255_e (d := 57) _ _ v ⟨fun h => fa h, fun _ => ⟨_, _, _, _, hm _, fun _ => ⟨fun h => absurd h (by decide), fun _ => ⟨fun _ => ⟨k, rfl, hk, rfl⟩, fun h => absurd h (by decide)⟩⟩, fun h => ?_⟩⟩, z_R_sf hR0 (Or.inr (Or.inl ⟨rfl, rfl, rfl, j, by omega, ej⟩)), Nat.le_succ _, Nat.le_add_right _ _, rfl⟩
        · rw [hb] at h; cases h
        · rw [show z_bw v 0 (z_up (z_up I 22 0 k 0) 23 0 k v 33 0 8 - 1) = _ from eb, hb] at h; cases h
    · by_cases h1 : w1 = 1
      · subst h1
        have hm : ∀ (I : Nat → Nat → Nat → Int32), z_ev 59 (z_en 254 [z_r 33 0, z_i 1, z_i v] (true, X, I, J)) (some (z_i (z_c (z_bw v 0 3))), (true, X, I, J)) := fun I => z_q254_e (d := 57) 1 v ⟨fun _ => ⟨fun h => absurd rfl h, fun _ => rfl⟩, fun h => absurd h h0⟩
        cases hb : z_bw v 0 3 with
        | false =>
          refine ⟨z_i (-1), X, X, I, I, J, J, z_q111_e (d := 59) _ _ v ⟨fun _ => ⟨fun _ => ⟨fun h => absurd rfl h, fun _ => ⟨fun _ => rfl, fun h => ?_⟩⟩, fun h => absurd h h0⟩, fun h => fa h⟩, z_q255_e (d := 57) _ _ v ⟨fun h => fa h, fun _ => ⟨_, _, _, _, hm I, fun h => ?_, fun _ => rfl⟩⟩, hR0, Nat.le_succ _, Nat.le_add_right _ _, rfl⟩
          · rw [hb] at h; cases h
          · rw [hb] at h; cases h
        | true =>
          have fb : ∀ {P : Prop}, z_bw v 0 3 = false → P := fun h => by rw [hb] at h; cases h
          obtain ⟨n, hn, rfl⟩ := z_bw3 hb
          obtain ⟨s1, s2, s3, -⟩ := r5 n hn
          rcases s3 with ⟨t1, t2⟩ | ⟨s, l, hs, hl, t1, t2⟩
          · refine ⟨z_i 1, X, X, _, _, J, J, z_q111_e (d := 59) _ _ _ ⟨fun _ => ⟨fun _ => ⟨fun h => absurd rfl h, fun _ => ⟨fun h => fb h, fun _ => ⟨n, rfl, hn, fun h => absurd (s1.trans t1) h, fun _ => ⟨_, _, _, _, z_p154 hk (-1) _, rfl⟩⟩⟩⟩, fun h => absurd h h0⟩, fun h => fa h⟩, z_q255_e (d := 57) _ _ _ ⟨fun h => fa h, fun _ => ⟨_, _, _, _, hm _, fun _ => ⟨fun h => absurd h (by decide), fun _ => ⟨fun h => absurd rfl h, fun _ => ⟨n, rfl, hn, fun h => ?_, fun _ => ⟨k, rfl, hk, rfl⟩⟩⟩⟩, fun h => fb h⟩⟩, z_R_sf hR0 (Or.inl ⟨rfl, rfl⟩), Nat.le_succ _, Nat.le_add_right _ _, rfl⟩
            rw [show z_up (z_up I 22 0 k (-1)) 23 0 k (I 30 n 2) 55 0 n = _ from t1] at h
            exact absurd h (by decide)
          · have e30 : I 30 n 1 = Int32.ofNat s := s1.trans t1
            refine ⟨z_i 1, X, X, _, _, J, J, z_q111_e (d := 59) _ _ _ ⟨fun _ => ⟨fun _ => ⟨fun h => absurd rfl h, fun _ => ⟨fun h => fb h, fun _ => ⟨n, rfl, hn, fun _ => ⟨_, _, _, _, z_p154 hk _ _, rfl⟩, fun h => absurd (e30.symm.trans h) (z_om1 (by omega))⟩⟩⟩, fun h => absurd h h0⟩, fun h => fa h⟩, z_q255_e (d := 57) _ _ _ ⟨fun h => fa h, fun _ => ⟨_, _, _, _, hm _, fun _ => ⟨fun h => absurd h (by decide), fun _ => ⟨fun h => absurd rfl h, fun _ => ⟨n, rfl, hn, fun _ => ⟨k, rfl, hk, rfl⟩, fun h => ?_⟩⟩⟩, fun h => fb h⟩⟩, z_R_sf hR0 (Or.inr (Or.inr ⟨s, hs, ?_, rfl, t1, s2⟩)), Nat.le_succ _, Nat.le_add_right _ _, rfl⟩
            · rw [show z_up (z_up I 22 0 k (10 + I 30 n 1)) 23 0 k (I 30 n 2) 55 0 n = _ from t1] at h
              exact absurd h (Int32.not_lt.mpr (z_on0 s (by omega)))
            · rw [e30]; exact z_oa 10 s
      · by_cases h2 : w1 = 2
        · subst h2
          have hm : ∀ (I : Nat → Nat → Nat → Int32), z_ev 59 (z_en 254 [z_r 33 0, z_i 2, z_i v] (true, X, I, J)) (some (z_i (z_c true)), (true, X, I, J)) := fun I => z_q254_e (d := 57) 2 v ⟨fun _ => ⟨fun _ => ⟨fun h => absurd rfl h, fun _ => rfl⟩, fun h => absurd h h1⟩, fun h => absurd h h0⟩
          exact ⟨z_i 1, X, X, _, _, J, J, z_q111_e (d := 59) _ _ v ⟨fun _ => ⟨fun _ => ⟨fun _ => ⟨fun h => absurd rfl h, fun _ => ⟨_, _, _, _, z_p154 hk (-1) 0, rfl⟩⟩, fun h => absurd h h1⟩, fun h => absurd h h0⟩, fun h => fa h⟩, z_q255_e (d := 57) _ _ v ⟨fun h => fa h, fun _ => ⟨true, _, _, _, hm _, fun _ => ⟨fun _ => ⟨k, rfl, hk, rfl⟩, fun h => absurd rfl h⟩, fun h => (by cases h)⟩⟩, z_R_sf hR0 (Or.inl ⟨rfl, rfl⟩), Nat.le_succ _, Nat.le_add_right _ _, rfl⟩
        · have hm : ∀ (I : Nat → Nat → Nat → Int32), z_ev 59 (z_en 254 [z_r 33 0, z_i w1, z_i v] (true, X, I, J)) (some (z_i (z_c false)), (true, X, I, J)) := fun I => z_q254_e (d := 57) w1 v ⟨fun _ => ⟨fun _ => ⟨fun _ => rfl, fun h => absurd h h2⟩, fun h => absurd h h1⟩, fun h => absurd h h0⟩
          exact ⟨z_i (-1), X, X, I, I, J, J, z_q111_e (d := 59) _ w1 v ⟨fun _ => ⟨fun _ => ⟨fun _ => ⟨fun _ => rfl, fun h => absurd h h2⟩, fun h => absurd h h1⟩, fun h => absurd h h0⟩, fun h => fa h⟩, z_q255_e (d := 57) _ w1 v ⟨fun h => fa h, fun _ => ⟨false, _, _, _, hm I, fun h => (by cases h), fun _ => rfl⟩⟩, hR0, Nat.le_succ _, Nat.le_add_right _ _, rfl⟩
