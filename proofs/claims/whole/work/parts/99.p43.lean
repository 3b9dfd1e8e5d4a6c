/-! calls of both: read -/
def z_nr1 (k a b c : Nat) : Bool := z_np k a b c || Nat.beq (z_cp a b c) 3
theorem z_nr_0 {k a b c : Nat} (h : z_cp a b c = 0) : z_nr1 k a b c = true := by
  unfold z_nr1 z_np
  rw [h]
  rfl
theorem z_nr_3 {k a b c : Nat} (h : z_cp a b c = 3) : z_nr1 k a b c = true := by
  unfold z_nr1
  rw [h, show Nat.beq 3 3 = true from rfl, Bool.or_true]
theorem z_tR_0 {a b c : Nat} (h : (z_tR a b c || (Nat.beq a 15 && Nat.beq b 0 && Nat.beq c 1)) = true) : z_cp a b c = 0 ∨ z_cp a b c = 3 := by
  unfold z_tR z_tP at h
  simp only [Bool.or_eq_true, Bool.and_eq_true] at h
  rcases h with ((⟨h1, h2 | h2⟩ | ⟨h1, h2⟩) | ⟨h1, h2⟩) | ⟨⟨h1, h2⟩, h3⟩
  · rw [Nat.eq_of_beq_eq_true h1, Nat.eq_of_beq_eq_true h2]; exact Or.inl rfl
  · rw [Nat.eq_of_beq_eq_true h1, Nat.eq_of_beq_eq_true h2]; exact Or.inl rfl
  · rw [Nat.eq_of_beq_eq_true h1, Nat.eq_of_beq_eq_true h2]; exact Or.inl rfl
  · rw [Nat.eq_of_beq_eq_true h1, Nat.eq_of_beq_eq_true h2]; exact Or.inl rfl
  · rw [Nat.eq_of_beq_eq_true h1, Nat.eq_of_beq_eq_true h2, Nat.eq_of_beq_eq_true h3]; exact Or.inr rfl
theorem z_tY_0 {a b c : Nat} (h : z_tY a b c = true) : z_cp a b c = 0 ∨ z_cp a b c = 3 := by
  unfold z_tY z_tV z_tW z_t20 z_t33 at h
  simp only [Bool.or_eq_true, Bool.and_eq_true] at h
  rcases h with ((((⟨h1, ((h2 | h2) | h2) | h2⟩ | ⟨h1, h2⟩) | ⟨h1, h2⟩) | h1) | h1) | ⟨h1, h2 | h2⟩
  · rw [Nat.eq_of_beq_eq_true h1, Nat.eq_of_beq_eq_true h2]; exact Or.inl rfl
  · rw [Nat.eq_of_beq_eq_true h1, Nat.eq_of_beq_eq_true h2]; exact Or.inl rfl
  · rw [Nat.eq_of_beq_eq_true h1, Nat.eq_of_beq_eq_true h2]; exact Or.inl rfl
  · rw [Nat.eq_of_beq_eq_true h1, Nat.eq_of_beq_eq_true h2]; exact Or.inl rfl
  · rw [Nat.eq_of_beq_eq_true h1, Nat.eq_of_beq_eq_true h2]; exact Or.inl rfl
  · rw [Nat.eq_of_beq_eq_true h1, Nat.eq_of_beq_eq_true h2]; exact Or.inl rfl
  · rw [Nat.eq_of_beq_eq_true h1]; exact Or.inl rfl
  · rw [Nat.eq_of_beq_eq_true h1]; exact Or.inl rfl
  · rw [Nat.eq_of_beq_eq_true h1, Nat.eq_of_beq_eq_true h2]; exact Or.inl rfl
  · rw [Nat.eq_of_beq_eq_true h1, Nat.eq_of_beq_eq_true h2]; exact Or.inr rfl
theorem z_nr_or {k a b c : Nat} (h : z_cp a b c = 0 ∨ z_cp a b c = 3) : z_nr1 k a b c = true := h.elim z_nr_0 z_nr_3
theorem z_ag03 {P : Nat → Nat → Nat → Bool} {I I' : Nat → Nat → Nat → Int32} (h : z_fr P I I') (hP : ∀ a b c, P a b c = true → z_cp a b c = 0 ∨ z_cp a b c = 3) : z_ag [0, 3] I I' := fun a b c q => h a b c (by
  cases e : P a b c with
  | false => rfl
  | true =>
    rcases hP a b c e with e2 | e2
    · rw [e2] at q; cases q
    · rw [e2] at q; cases q)
theorem z_op_read (x : Int32) : z_op 68 183 [z_i x] := by
  intro X I J hR
  have hR0 := hR
  obtain ⟨n1, r2, ⟨k, t1, t2, t3, t4⟩, r4, r5, r6, r7, r8⟩ := hR
  cases hx : z_bw x 0 3 with
  | false =>
    have fx : ∀ {P : Prop}, z_bw x 0 3 = true → P := fun h => by rw [hx] at h; cases h
    exact ⟨z_i (-1), X, X, I, I, J, J, z_q68_e (d := 52) x ⟨fun h => fx h, fun _ => rfl⟩, z_q183_e (d := 54) x ⟨fun h => fx h, fun _ => rfl⟩, hR0, Nat.le_succ _, Nat.le_add_right _ _, rfl⟩
  | true =>
    have fx : ∀ {P : Prop}, z_bw x 0 3 = false → P := fun h => by rw [hx] at h; cases h
    obtain ⟨a, ha, rfl⟩ := z_bw3 hx
    obtain ⟨B, hB⟩ : ∃ B : Nat → Int32, B = fun e => if e < k then I 43 0 e else -1 := ⟨_, rfl⟩
    have ht : z_kt B k := ⟨t1, fun e he => by rw [hB]; show ∃ v, v < 256 ∧ (if e < k then I 43 0 e else -1) = Int32.ofNat v; rw [if_pos he]; exact (t4 e he).2, fun e he => by rw [hB]; show (if e < k then I 43 0 e else -1) = -1; rw [if_neg (by omega)]⟩
    have k1 : z_kk1 I B k := ⟨t2, fun e he => by rw [hB]; show I 16 0 e = if e < k then I 43 0 e else -1; rw [if_pos he]; exact (t4 e he).1⟩
    obtain ⟨I1, v1, c1, f1, z1, hres⟩ := z_p47 (d := 52) (X := X) (I := I) (J := J) ht k1
    have g1 : z_ag [0, 3] I I1 := z_ag03 f1 (fun a b c h => z_tR_0 h)
    rcases hres with ⟨y, hy, hy1, rfl⟩ | ⟨n, R, hy, rfl, hn1, hn, e13, hM⟩
    · have k2 : z_kk2 I1 B k := ⟨by rw [f1 33 0 14 rfl]; exact t3, fun e he => by rw [f1 43 0 e rfl, hB]; show I 43 0 e = if e < k then I 43 0 e else -1; rw [if_pos he]⟩
      obtain ⟨I2, J2, v2, d1, j2, z2, hres2⟩ := z_p183 (d := 54) (X := X) (I := I1) (J := J) ht k2 ha
      rcases hres2 with ⟨y', hy', rfl, f2⟩ | ⟨n, R, m, hy', _⟩
      · rw [hy] at hy'
        obtain rfl := Sum.inl.inj hy'
        have hw : z_ag [0, 3] I I2 := z_ag_tr g1 (z_ag03 f2 (fun a b c h => z_tY_0 h))
        refine ⟨_, X, X, I1, I2, J, J2, z_q68_e (d := 52) _ ⟨fun _ => ⟨_, _, _, _, c1, fun q => absurd (z_on0 y (by omega)) (Int32.not_le.mpr q), fun _ => rfl⟩, fun q => fx q⟩, d1, ⟨z_now_ag hw rfl rfl n1, z_Rk_ag hw rfl rfl r2, ⟨0, Nat.zero_le _, ?_, ?_, fun j hj => absurd hj (Nat.not_lt_zero j)⟩, z_Rr_ag hw rfl r4, z_Rh_ag hw rfl (j2 31 (by decide)) (j2 57 (by decide)) r5, z_Rv_ag hw rfl r6, z_Rx_ag hw rfl r7, z_Tb_ag hw rfl r8⟩, Nat.le_succ _, Nat.le_add_right _ _, z_67_ag hw rfl⟩
        · rw [f2 15 0 1 rfl]; exact z1
        · exact z2
      · rw [hy] at hy'
        cases hy'
    · obtain ⟨m1, mm1, mm2, mm3⟩ := hM
      have p20 := z_p20 (d := 59) (X := X) (I := I1) (J := J) (q := a) (q1 := 8) (by omega) (by decide) (by omega)
      obtain ⟨I2, hI2⟩ : ∃ I2, I2 = z_wo (z_up I1 13 a 1 (I1 13 8 1)) 14 a 0 10 (I1 14 8) := ⟨_, rfl⟩
      rw [← hI2] at p20
      have e13' : I2 13 a 1 = Int32.ofNat n := by rw [hI2, z_wo_t (by decide), z_up_e]; exact e13
      have e14 : ∀ p, p < 10 → I2 14 a p = Int32.ofNat (m1 p) := fun p hp => by
        rw [hI2, z_wo_e0 hp]
        have := mm1 p hp
        rw [Nat.zero_add] at this
        exact this
      have p26 := z_p26 (d := 58) (X := X) (I := I2) (J := J) (q := a) (by omega) hn e13'
      have f2 : z_fr (z_nr1 a) I1 I2 := by
        rw [hI2]
        refine z_fr_wo (z_fr_up z_fr_rf ?_) (fun j h1 h2 => ?_)
        · unfold z_nr1 z_np
          simp only [Nat.beq_refl, Bool.or_true, Bool.true_or, Bool.and_self]
        · unfold z_nr1 z_np
          rw [z_pt_t h1 h2]
          simp only [Bool.or_true, Bool.true_or]
      have f12 : ∀ t b c, t ≠ 13 → t ≠ 14 → I2 t b c = I1 t b c := fun t b c q1 q2 => by
        rw [hI2, z_wo_t q2, z_up_t q1]
      have k2 : z_kk2 I2 B k := ⟨by rw [f12 33 0 14 (by decide) (by decide), f1 33 0 14 rfl]; exact t3, fun e he => by rw [f12 43 0 e (by decide) (by decide), f1 43 0 e rfl, hB]; show I 43 0 e = if e < k then I 43 0 e else -1; rw [if_pos he]⟩
      obtain ⟨I3, J3, v2, d1, j3, z3, hres2⟩ := z_p183 (d := 54) (X := X) (I := I2) (J := J) ht k2 ha
      rcases hres2 with ⟨y', hy', _⟩ | ⟨n', R', m2, hy', _, rfl, f3, e34, e35, mb, mt, hRp⟩
      · rw [hy] at hy'
        cases hy'
      · rw [hy] at hy'
        obtain ⟨rfl, rfl⟩ := Prod.mk.inj (Sum.inr.inj hy')
        have em : ∀ p, p < 10 → m1 p = m2 p := fun p hp => by
          apply Nat.eq_of_testBit_eq
          intro q
          rw [Bool.eq_iff_iff, mm3 p q hp, mt p q hp]
        have hwf : z_wfm n m2 := ⟨mb, fun p b hp hb => by
          obtain ⟨a1, a2, a3, a4⟩ := hRp p b ((mt p b hp).mp hb)
          exact ⟨a1, a2, a3, (mt b p (by omega)).mpr a4⟩⟩
        have esm : z_sm (I2 14 a) n = z_sm (fun p => I3 35 0 (10 * a + p)) n := by
          rw [z_sm_pc (m := m2) (fun p hp => ⟨by rw [e14 p (by omega), em p (by omega)], mb p (by omega)⟩), z_sm_pc (m := m2) (fun p hp => ⟨e35 p (by omega), mb p (by omega)⟩)]
        have f3n : z_fr (z_nr1 a) I2 I3 := z_fr_mn f3 (fun t b c q => by
          unfold z_tX at q
          simp only [Bool.or_eq_true] at q
          rcases q with ((q | q) | q) | q
          · exact z_nr_or (z_tY_0 (by unfold z_tY; rw [q]; rfl))
          · exact z_nr_or (z_tY_0 (by unfold z_tY; rw [q, Bool.or_true]))
          · unfold z_nr1 z_np
            rw [q]
            simp only [Bool.or_true, Bool.true_or]
          · unfold z_nr1 z_np
            rw [q]
            simp only [Bool.or_true, Bool.true_or])
        have hfr : z_fr (z_nr1 a) I I3 := z_fr_tr (z_fr_tr (z_fr_mn f1 (fun t b c q => z_nr_or (z_tR_0 q))) f2) f3n
        obtain ⟨Im, hIm⟩ : ∃ Im : Nat → Nat → Nat → Int32, Im = fun t b c => if z_cp t b c = 3 then I t b c else I3 t b c := ⟨_, rfl⟩
        have imn : ∀ t b c, z_cp t b c ≠ 3 → Im t b c = I3 t b c := fun t b c q => by rw [hIm]; show (if z_cp t b c = 3 then _ else _) = _; rw [if_neg q]
        have hfm : z_fr (z_np a) I Im := fun t b c q => by
          by_cases q3 : z_cp t b c = 3
          · rw [hIm]
            show (if z_cp t b c = 3 then I t b c else I3 t b c) = _
            rw [if_pos q3]
          · rw [imn t b c q3]
            apply hfr
            unfold z_nr1
            rw [q, Bool.false_or]
            cases e : Nat.beq (z_cp t b c) 3 with
            | false => rfl
            | true => exact absurd (Nat.eq_of_beq_eq_true e) q3
        have c13 : ∀ u c, u < 4 → z_cp 13 u c ≠ 3 ∧ z_cp 14 u c ≠ 3 := fun u c hu => by
          have hb : Nat.blt u 4 = true := Nat.ble_eq_true_of_le hu
          constructor
          · show (bif Nat.blt u 4 then 1 else _) ≠ 3
            rw [hb]; exact (by decide : (1 : Nat) ≠ 3)
          · show (bif Nat.blt u 4 then 1 else _) ≠ 3
            rw [hb]; exact (by decide : (1 : Nat) ≠ 3)
        have t13 : ∀ b c, I3 13 b c = I2 13 b c := fun b c => f3 13 b c rfl
        have t14 : ∀ b c, I3 14 b c = I2 14 b c := fun b c => f3 14 b c rfl
        have hRm : z_R X Im J3 := z_R_net hR0 ha hfm hn1 hn hwf (by rw [imn 13 a 1 (c13 a 1 ha).1, t13]; exact e13') (by rw [imn 34 0 a (by show (1 : Nat) ≠ 3; decide)]; exact e34) (fun p hp => by rw [imn 14 a p (c13 a p ha).2, t14, e14 p hp, em p hp]) (fun p hp => by rw [imn 35 0 _ (by show (1 : Nat) ≠ 3; decide)]; exact e35 p hp) (by
          rw [imn 1 0 6 (by decide), imn 33 0 7 (by decide), f3 1 0 6 rfl, f3 33 0 7 rfl, f12 1 0 6 (by decide) (by decide), f12 33 0 7 (by decide) (by decide), f1 1 0 6 rfl, f1 33 0 7 rfl]
          exact n1.2.2.2.1) (j3 31 (by decide)) (j3 57 (by decide))
        have hw3 : z_ag [3] Im I3 := fun t b c q => by
          rw [imn t b c]
          intro e
          rw [e] at q
          cases q
        obtain ⟨s1, s2, -, s4, s5, s6, s7, s8⟩ := hRm
        have w67 : I3 67 = I 67 := by
          funext b c
          exact hfr 67 b c rfl
        refine ⟨_, X, X, I2, I3, J, J3, z_q68_e (d := 52) _ ⟨fun _ => ⟨_, _, _, _, c1, fun _ => ⟨a, rfl, ha, _, _, _, p20, _, _, _, _, p26, by rw [esm]⟩, fun q => absurd q (by decide)⟩, fun q => fx q⟩, d1, ⟨z_now_ag hw3 rfl rfl s1, z_Rk_ag hw3 rfl rfl s2, ⟨0, Nat.zero_le _, ?_, z3, fun j hj => absurd hj (Nat.not_lt_zero j)⟩, z_Rr_ag hw3 rfl s4, z_Rh_ag hw3 rfl rfl rfl s5, z_Rv_ag hw3 rfl s6, z_Rx_ag hw3 rfl s7, z_Tb_ag hw3 rfl s8⟩, Nat.le_succ _, Nat.le_add_right _ _, w67⟩
        rw [f3 15 0 1 rfl, f12 15 0 1 (by decide) (by decide)]
        exact z1
