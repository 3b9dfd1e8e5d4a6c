/-! calls of both: count -/
theorem z_tq_ag {q : Nat} {I I' : Nat → Nat → Nat → Int32} (h : z_fr (z_tq q) I I') : z_ag [0] I I' := fun a b c hc => h a b c (by
  cases e : z_tq q a b c with
  | false => rfl
  | true =>
    unfold z_tq at e
    rw [Bool.and_eq_true, Bool.or_eq_true] at e
    rcases e.1 with e1 | e1
    · obtain rfl := Nat.eq_of_beq_eq_true e1
      exact absurd hc (by show ¬ ([0] : List Nat).contains 0 = false; decide)
    · obtain rfl := Nat.eq_of_beq_eq_true e1
      exact absurd hc (by show ¬ ([0] : List Nat).contains 0 = false; decide))
section
variable {d : Nat} {X : z_X} {I : Nat → Nat → Nat → Int32} {J : Nat → Nat → Nat → Int64}
theorem z_p196 (ht : z_Tb I) {n s k i : Nat} {m : Nat → Nat} (hn : n < 4) (hs : s ≤ 10) (hw : z_wfm s m) (e34 : I 34 0 n = Int32.ofNat s) (hr : ∀ p, p < 10 → I 35 0 (10 * n + p) = Int32.ofNat (m p)) (hk1 : 1 ≤ k) (hk4 : k ≤ 4) (hi : i < 11) : z_ev (d + 4) (z_en 196 [z_r 33 0, z_i (Int32.ofNat n), z_i (Int32.ofNat k), z_i (z_fm i)] (true, X, I, J)) (some (z_i (Int32.ofNat (z_cnf m s k i))), (true, X, I, J)) := by
  have h := z_p194_35 (d := d) (X := X) (J := J) ht (o := 10 * n) hs (by omega) hw (fun b hb => hr b (by omega)) hk1 hk4 hi
  refine z_q196_e _ _ _ ⟨n, rfl, hn, _, _, _, _, ?_, rfl⟩
  rw [e34, show (10 : Int32) * Int32.ofNat n = Int32.ofNat (10 * n) from (Int32.ofNat_mul 10 n).symm]
  exact h
end
/-- the net at k, of both -/
theorem z_now_net {X : z_X} {I : Nat → Nat → Nat → Int32} (h : z_now X I) {k : Nat} (hk : k < 4) : ∃ (s : Nat) (m : Nat → Nat), 1 ≤ s ∧ s ≤ 10 ∧ z_wfm s m ∧ I 13 k 1 = Int32.ofNat s ∧ I 34 0 k = Int32.ofNat s ∧ z_hm I 14 k 0 m ∧ ∀ p, p < 10 → I 35 0 (10 * k + p) = Int32.ofNat (m p) := by
  obtain ⟨n1, -⟩ := h
  rw [z_Rn0] at n1
  obtain ⟨s, m, g1, g2, g3, g4, g5, g6⟩ := n1 k hk
  exact ⟨s, m, g1, g2, g3, g4, g5, fun p hp => by rw [Nat.zero_add]; exact (g6 p hp).1, fun p hp => (g6 p hp).2⟩
/-- promise 12 -/
theorem z_op_count (x mm f : Int32) : z_op 77 197 [z_i x, z_i mm, z_i f] := by
  intro X I J hR
  have hR0 := hR
  obtain ⟨n1, -, -, -, -, -, -, r8⟩ := hR
  by_cases hf : z_isf mm f
  · obtain ⟨k, i, k1, k4, hi, rfl, rfl⟩ := hf
    have hi11 : i < 11 := Nat.lt_of_lt_of_le hi (z_fon_le k k4)
    have p128 := z_p128t (d := 58) (X := X) (I := I) (J := J) k1 k4 hi
    cases ha : z_bw x 0 3 with
    | false =>
      have fa : ∀ {P : Prop}, z_bw x 0 3 = true → P := fun h => by rw [ha] at h; cases h
      exact ⟨z_i (-1), X, X, I, I, J, J, z_q77_e (d := 44) x _ _ ⟨_, _, _, _, p128, fun _ => rfl, fun h => fa h⟩, z_q197_e (d := 55) x _ _ ⟨fun _ => rfl, fun h => fa h⟩, hR0, Nat.le_succ _, Nat.le_add_right _ _, rfl⟩
    | true =>
      have fa : ∀ {P : Prop}, z_bw x 0 3 = false → P := fun h => by rw [ha] at h; cases h
      obtain ⟨n, hn, rfl⟩ := z_bw3 ha
      obtain ⟨s, m, g1, g2, g3, g4, g5, g6, g7⟩ := z_now_net n1 hn
      obtain ⟨I1, c1, c2, c3⟩ := z_p42 (d := 44) (X := X) (J := J) (I := I) (q := 0) (q1 := n) (by decide) (by omega) k4 g2 g3.1 g6 g4
      have hw := z_tq_ag c3
      have t34 : I1 34 = I 34 := z_fr_t c3 34 (fun _ _ => rfl)
      have t35 : I1 35 = I 35 := z_fr_t c3 35 (fun _ _ => rfl)
      have h196 := z_p196 (d := 55) (X := X) (J := J) (I := I1) (z_Tb_ag hw rfl r8) hn g2 g3 (by rw [t34]; exact g5) (fun p hp => by rw [t35]; exact g7 p hp) k1 k4 hi11
      exact ⟨z_i (Int32.ofNat (z_cnf m s k i)), X, X, I1, I1, J, J, z_q77_e (d := 44) _ _ _ ⟨_, _, _, _, p128, fun h => fa h, fun _ => ⟨fun _ => ⟨n, rfl, hn, _, _, _, c1, i, rfl, hi11, by rw [c2 i hi11]⟩, fun h => absurd (z_on0 i (by omega)) (Int32.not_le.mpr h)⟩⟩, z_q197_e (d := 55) _ _ _ ⟨fun h => fa h, fun _ => ⟨true, _, _, _, z_p166t (z_Tb_ag hw rfl r8) k1 k4 hi, fun h => (by cases h), fun _ => ⟨_, _, _, _, h196, rfl⟩⟩⟩, z_R_0 hR0 hw rfl rfl, Nat.le_succ _, Nat.le_add_right _ _, z_67_ag hw rfl⟩
  · have p128 := z_p128f (d := 58) (X := X) (I := I) (J := J) hf
    exact ⟨z_i (-1), X, X, I, I, J, J, z_q77_e (d := 44) x _ _ ⟨_, _, _, _, p128, fun _ => rfl, fun _ => ⟨fun h => absurd h (by decide), fun _ => rfl⟩⟩, z_q197_e (d := 55) x _ _ ⟨fun _ => rfl, fun _ => ⟨false, _, _, _, z_p166f r8 hf, fun _ => rfl, fun h => (by cases h)⟩⟩, hR0, Nat.le_succ _, Nat.le_add_right _ _, rfl⟩
