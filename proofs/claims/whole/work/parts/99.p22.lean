/-! calls of both: met -/
/-- promise 38 -/
theorem z_op_met (mm f : Int32) : z_op 103 242 [z_i mm, z_i f] := by
  intro X I J hR
  have hR0 := hR
  obtain ⟨n1, -, -, -, -, -, -, r8⟩ := hR
  by_cases hf : z_isb mm f
  · obtain ⟨k, j, k1, k3, hj, rfl, rfl⟩ := hf
    have hj11 : j < 11 := Nat.lt_of_lt_of_le hj (z_fon_le k (by omega))
    have v0 : ∀ {P : Prop}, Int32.ofNat j < 0 → P := fun h => absurd (z_on0 j (by omega)) (Int32.not_le.mpr h)
    have p129 := z_p129t (d := 57) (X := X) (I := I) (J := J) k1 k3 hj
    have p128 := z_p128t (d := 58) (X := X) (I := I) (J := J) (by omega : 1 ≤ k) (by omega) hj
    obtain ⟨k9, l, q1, q2, q3, q4, q5, q6⟩ := z_bds n1
    obtain ⟨-, -, n3, -, -⟩ := n1
    obtain ⟨P, w, cN, p1, p2, p3, p4, p5, p6, p7⟩ := z_lim n3
    have hLC : z_LC I P w cN := ⟨p2, fun p hp => (p5 p hp).1, fun a b ha hb => (p7 a b ha hb).1⟩
    have hLR : z_LR I P w cN := ⟨p3, fun p hp => (p5 p hp).2, fun a b ha hb => (p7 a b ha hb).2⟩
    obtain ⟨I1, c1, c2⟩ := z_p139 (d := 42) (X := X) (J := J) q2 (k := 3) (by decide) (by decide)
    have c1 : z_ev 59 (z_en 139 [z_r 0 0, z_i 3] (true, X, I, J)) (some (z_i (Int32.ofNat (z_hpp l 3 4))), (true, X, I1, J)) := c1
    have h16 : z_hpp l 3 4 < 16 := z_hpp_lt l 3 4
    have hl1 : ∀ {I1 : Nat → Nat → Nat → Int32}, z_ag [0] I I1 → z_RoL (I1 3 0) (I1 33 0 2) (I1 36 0) l := fun c2 => by
      rw [z_ag_ti c2 3 0 (c := 1) (fun _ => rfl) rfl, z_ag_p c2 33 0 2 (c := 1) rfl rfl, z_ag_ti c2 36 0 (c := 1) (fun _ => rfl) rfl]; exact q2
    by_cases h0 : z_hpp l 3 4 = 0
    · obtain ⟨I2, d1, d2, d3, d4, d5⟩ := z_p237 (d := 53) (X := X) (I := I1) (J := J) (z_Tb_ag c2 rfl r8) (co := I1 3 0) (l := l) (k := k) (j := j) (k9 := k9) (hl1 c2) k1 k3 hj q1 (by rw [z_ag_p c2 33 0 8 (c := 1) rfl rfl]; exact q3)
      have hw := z_ag_tr c2 d5
      rw [decide_eq_false (fun q => q h0)] at d1
      rw [h0] at c1
      exact ⟨z_i (-3), X, X, I1, I2, J, J, z_q103_e (d := 31) _ _ ⟨true, _, _, _, p129, fun h => (by cases h), fun _ => ⟨_, _, _, _, p128, fun _ => ⟨_, _, _, _, c1, fun _ => rfl, fun h => absurd rfl h⟩, fun h => v0 h⟩⟩, z_q242_e (d := 53) _ _ ⟨true, _, _, _, z_p238t (z_Tb_ag c2 rfl r8) k1 k3 hj, fun _ => ⟨false, _, _, _, d1, fun _ => rfl, fun h => (by cases h)⟩, fun h => (by cases h)⟩, z_R_0 hR0 hw rfl rfl, Nat.le_succ _, Nat.le_add_right _ _, z_67_ag hw rfl⟩
    · have hh : ¬ Int32.ofNat (z_hpp l 3 4) = 0 := fun q => h0 ((z_oeq (b := 0) (by omega) (by decide)).mp q)
      by_cases hP0 : P = 0
      · obtain ⟨I2, d1, d2, d3, d4, d5⟩ := z_p237 (d := 53) (X := X) (I := I1) (J := J) (z_Tb_ag c2 rfl r8) (co := I1 3 0) (l := l) (k := k) (j := j) (k9 := k9) (hl1 c2) k1 k3 hj q1 (by rw [z_ag_p c2 33 0 8 (c := 1) rfl rfl]; exact q3)
        have hw := z_ag_tr c2 d5
        rw [decide_eq_true h0] at d1
        have m1 : I1 4 0 2 = 0 := by rw [(z_LC_ag hLC c2).1, hP0]; rfl
        have m2 : I2 33 0 4 = 0 := by rw [(z_LR_ag hLR hw).1, hP0]; rfl
        exact ⟨z_i (-3), X, X, I1, I2, J, J, z_q103_e (d := 31) _ _ ⟨true, _, _, _, p129, fun h => (by cases h), fun _ => ⟨_, _, _, _, p128, fun _ => ⟨_, _, _, _, c1, fun h => absurd h hh, fun _ => ⟨fun h => absurd m1 h, fun _ => rfl⟩⟩, fun h => v0 h⟩⟩, z_q242_e (d := 53) _ _ ⟨true, _, _, _, z_p238t (z_Tb_ag c2 rfl r8) k1 k3 hj, fun _ => ⟨true, _, _, _, d1, fun h => (by cases h), fun _ => ⟨fun h => absurd m2 h, fun _ => rfl⟩⟩, fun h => (by cases h)⟩, z_R_0 hR0 hw rfl rfl, Nat.le_succ _, Nat.le_add_right _ _, z_67_ag hw rfl⟩
      · have hP1 : 1 ≤ P := by omega
        have hne : ¬ Int32.ofNat P = 0 := fun q => absurd ((z_oeq (b := 0) (by omega) (by decide)).mp q) hP0
        have w9 : ∀ p, p < P → w p ≤ 9 := fun p hp => (p4 p hp).2
        have m1 : ¬ I1 4 0 2 = 0 := by rw [(z_LC_ag hLC c2).1]; exact hne
        obtain ⟨I2, J2, g1, g2, g3⟩ := z_p144 (d := 31) (X := X) (I := I1) (J := J) hP1 p1 w9 p6 (z_LC_ag hLC c2) (hl1 c2)
        have a2 := z_ag_tr c2 (z_g8_ag g2)
        cases hz : z_frl P w cN l with
        | false =>
          rw [hz] at g1
          obtain ⟨I4, d1, d2, d3, d4, d5⟩ := z_p237 (d := 53) (X := X) (I := I2) (J := J2) (z_Tb_ag a2 rfl r8) (co := I2 3 0) (l := l) (k := k) (j := j) (k9 := k9) (hl1 a2) k1 k3 hj q1 (by rw [z_ag_p a2 33 0 8 (c := 1) rfl rfl]; exact q3)
          have a4 := z_ag_tr a2 d5
          rw [decide_eq_true h0] at d1
          have m2 : ¬ I4 33 0 4 = 0 := by rw [(z_LR_ag hLR a4).1]; exact hne
          obtain ⟨I5, f1, f2⟩ := z_p219 (d := 55) (X := X) (I := I4) (J := J2) (co := I4 3 0) (l := l) (z_Tb_ag a4 rfl r8) hP1 p1 w9 (fun a b ha hb => (p6 a b ha hb).1) (z_LR_ag hLR a4) (hl1 a4)
          have a5 := z_ag_tr a4 (z_48_ag f2)
          rw [hz] at f1
          exact ⟨z_i 0, X, X, I2, I5, J2, J2, z_q103_e (d := 31) _ _ ⟨true, _, _, _, p129, fun h => (by cases h), fun _ => ⟨_, _, _, _, p128, fun _ => ⟨_, _, _, _, c1, fun h => absurd h hh, fun _ => ⟨fun _ => ⟨false, _, _, _, g1, fun h => (by cases h), fun _ => rfl⟩, fun h => absurd h m1⟩⟩, fun h => v0 h⟩⟩, z_q242_e (d := 53) _ _ ⟨true, _, _, _, z_p238t (z_Tb_ag a2 rfl r8) k1 k3 hj, fun _ => ⟨true, _, _, _, d1, fun h => (by cases h), fun _ => ⟨fun _ => ⟨false, _, _, _, f1, fun _ => rfl, fun h => (by cases h)⟩, fun h => absurd h m2⟩⟩, fun h => (by cases h)⟩, z_R_0 hR0 a5 (z_Jf g3).1 (z_Jf g3).2, Nat.le_succ _, Nat.le_add_right _ _, z_67_ag a5 rfl⟩
        | true =>
          rw [hz] at g1
          obtain ⟨I3, J3, s1, s2, s3, s4⟩ := z_p12 (d := 32) (X := X) (I := I2) (J := J2) (m := k) hP1 p1 (by omega) (by omega) w9 p6 (z_LC_ag hLC a2)
          have a3 := z_ag_tr a2 (z_g8_ag s2)
          have j3 : ∀ a b c, a ≠ 7 → J3 a b c = J a b c := fun a b c ha => (s3 a b c ha).trans (g3 a b c ha)
          have p153 := z_p153 (d := 56) (X := X) (I := I3) (J := J3) (k := k) (j := j) (k9 := k9) q1 (by rw [z_ag_p a3 1 0 5 (c := 1) rfl rfl]; exact q4) (z_bds_ag a3 q6) h16
          have e39 : I3 39 = I 39 := z_ag_t a3 39 (c := 1) (fun _ _ => rfl) rfl
          rw [z_mx_same (by rw [e39]; exact q5) q1 k1 k3 hj h16 h0] at p153
          obtain ⟨G, hG⟩ : ∃ G, G = z_mx (-1000000) (fun i => z_hts (I3 39 0) (12 * z_gv0 (Int32.ofNat k) (z_fm j) i) i k9) (z_hpp l 3 4) 4 := ⟨_, rfl⟩
          rw [← hG] at p153
          have p11 := z_p11 (d := 58) (X := X) (I := I3) (J := J3) (m := k) p1 (by omega) p4 (z_LC_ag hLC a3)
          obtain ⟨I4, d1, d2, d3, d4, d5⟩ := z_p237 (d := 53) (X := X) (I := I3) (J := J3) (z_Tb_ag a3 rfl r8) (co := I3 3 0) (l := l) (k := k) (j := j) (k9 := k9) (hl1 a3) k1 k3 hj q1 (by rw [z_ag_p a3 33 0 8 (c := 1) rfl rfl]; exact q3)
          have a4 := z_ag_tr a3 d5
          rw [decide_eq_true h0] at d1
          rw [← hG] at d3
          have m2 : ¬ I4 33 0 4 = 0 := by rw [(z_LR_ag hLR a4).1]; exact hne
          obtain ⟨I5, f1, f2⟩ := z_p219 (d := 55) (X := X) (I := I4) (J := J3) (co := I4 3 0) (l := l) (z_Tb_ag a4 rfl r8) hP1 p1 w9 (fun a b ha hb => (p6 a b ha hb).1) (z_LR_ag hLR a4) (hl1 a4)
          have a5 := z_ag_tr a4 (z_48_ag f2)
          rw [hz] at f1
          obtain ⟨I6, u1, u2⟩ := z_p216 (d := 56) (X := X) (I := I5) (J := J3) (m := k) (i := j) (z_Tb_ag a5 rfl r8) hP1 p1 (by omega) (by omega) hj w9 (fun a b ha hb => (p6 a b ha hb).1) (z_LR_ag hLR a5)
          have a6 := z_ag_tr a5 (z_48_ag u2)
          have p217 := z_p217 (d := 58) (X := X) (I := I6) (J := J3) (m := k) p1 (by omega) (by omega) p4 (z_LR_ag hLR a6)
          have eG : I6 33 0 34 = G := by rw [z_fr_t u2 33 (fun _ _ => rfl), z_fr_t f2 33 (fun _ _ => rfl)]; exact d3
          obtain ⟨be, hbe⟩ : ∃ be, be = Int64.ofNat (z_sumf w P ^ k * 4 ^ (k * (k - 1) / 2)) := ⟨_, rfl⟩
          rw [← hbe] at p11 p217
          have ej := s4 j hj11
          by_cases he : Int64.ofNat (z_AT P w cN k j) * 36 = G.toInt64 * be
          · have he1 : lg_cmp (J3 7 0 j * 36) (G.toInt64 * be) = 0 := by rw [ej]; exact z_lc0.mpr he
            have he2 : lg_cmp (36 * Int64.ofNat (z_AT P w cN k j)) ((I6 33 0 34).toInt64 * be) = 0 := by rw [eG, Int64.mul_comm 36]; exact z_lc0.mpr he
            exact ⟨z_i 1, X, X, I3, I6, J3, J3, z_q103_e (d := 31) _ _ ⟨true, _, _, _, p129, fun h => (by cases h), fun _ => ⟨_, _, _, _, p128, fun _ => ⟨_, _, _, _, c1, fun h => absurd h hh, fun _ => ⟨fun _ => ⟨true, _, _, _, g1, fun _ => ⟨_, _, _, s1, _, _, _, _, p153, j, rfl, hj11, _, _, _, _, p11, fun h => absurd he1 h, fun _ => rfl⟩, fun h => (by cases h)⟩, fun h => absurd h m1⟩⟩, fun h => v0 h⟩⟩, z_q242_e (d := 53) _ _ ⟨true, _, _, _, z_p238t (z_Tb_ag a3 rfl r8) k1 k3 hj, fun _ => ⟨true, _, _, _, d1, fun h => (by cases h), fun _ => ⟨fun _ => ⟨true, _, _, _, f1, fun h => (by cases h), fun _ => ⟨_, _, _, _, u1, _, _, _, _, p217, fun h => absurd he2 h, fun _ => rfl⟩⟩, fun h => absurd h m2⟩⟩, fun h => (by cases h)⟩, z_R_0 hR0 a6 (z_Jf j3).1 (z_Jf j3).2, Nat.le_succ _, Nat.le_add_right _ _, z_67_ag a6 rfl⟩
          · have he1 : ¬ lg_cmp (J3 7 0 j * 36) (G.toInt64 * be) = 0 := by rw [ej]; exact fun h => he (z_lc0.mp h)
            have he2 : ¬ lg_cmp (36 * Int64.ofNat (z_AT P w cN k j)) ((I6 33 0 34).toInt64 * be) = 0 := by rw [eG, Int64.mul_comm 36]; exact fun h => he (z_lc0.mp h)
            exact ⟨z_i 0, X, X, I3, I6, J3, J3, z_q103_e (d := 31) _ _ ⟨true, _, _, _, p129, fun h => (by cases h), fun _ => ⟨_, _, _, _, p128, fun _ => ⟨_, _, _, _, c1, fun h => absurd h hh, fun _ => ⟨fun _ => ⟨true, _, _, _, g1, fun _ => ⟨_, _, _, s1, _, _, _, _, p153, j, rfl, hj11, _, _, _, _, p11, fun _ => rfl, fun h => absurd h he1⟩, fun h => (by cases h)⟩, fun h => absurd h m1⟩⟩, fun h => v0 h⟩⟩, z_q242_e (d := 53) _ _ ⟨true, _, _, _, z_p238t (z_Tb_ag a3 rfl r8) k1 k3 hj, fun _ => ⟨true, _, _, _, d1, fun h => (by cases h), fun _ => ⟨fun _ => ⟨true, _, _, _, f1, fun h => (by cases h), fun _ => ⟨_, _, _, _, u1, _, _, _, _, p217, fun _ => rfl, fun h => absurd h he2⟩⟩, fun h => absurd h m2⟩⟩, fun h => (by cases h)⟩, z_R_0 hR0 a6 (z_Jf j3).1 (z_Jf j3).2, Nat.le_succ _, Nat.le_add_right _ _, z_67_ag a6 rfl⟩
  · exact ⟨z_i (-1), X, X, I, I, J, J, z_q103_e (d := 31) _ _ ⟨false, _, _, _, z_p129f hf, fun _ => rfl, fun h => (by cases h)⟩, z_q242_e (d := 53) _ _ ⟨false, _, _, _, z_p238f r8 hf, fun h => (by cases h), fun _ => rfl⟩, hR0, Nat.le_succ _, Nat.le_add_right _ _, rfl⟩
