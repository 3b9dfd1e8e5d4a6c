/-! calls of both: at, freeAt, valueAt, met -/
theorem z_bel_bd {W m : Nat} (h1 : 1 ≤ W) (h2 : W ≤ 45) (hm : m ≤ 4) : 1 ≤ W ^ m * 4 ^ (m * (m - 1) / 2) ∧ W ^ m * 4 ^ (m * (m - 1) / 2) ≤ 2 ^ 40 := by
  have hn : m * (m - 1) / 2 ≤ 6 := by
    rcases (by omega : m = 0 ∨ m = 1 ∨ m = 2 ∨ m = 3 ∨ m = 4) with rfl | rfl | rfl | rfl | rfl <;> decide
  refine ⟨Nat.mul_pos (Nat.pow_pos h1) (Nat.pow_pos (by decide)), Nat.le_trans (Nat.mul_le_mul (Nat.le_trans (Nat.pow_le_pow_left h2 m) (Nat.pow_le_pow_right (by decide) hm)) (Nat.pow_le_pow_right (by decide) hn)) (by decide)⟩
theorem z_Jf {J J' : Nat → Nat → Nat → Int64} (h : ∀ a b c, a ≠ 7 → J' a b c = J a b c) : J' 31 = J 31 ∧ J' 57 = J 57 := ⟨by funext b c; exact h 31 b c (by decide), by funext b c; exact h 57 b c (by decide)⟩
/-- promise 22 -/
theorem z_op_at (mm f si : Int32) : z_op 87 218 [z_i mm, z_i f, z_i si] := by
  intro X I J hR
  have hR0 := hR
  obtain ⟨⟨-, -, n3, -, -⟩, -, -, -, -, -, -, r8⟩ := hR
  by_cases hf : z_isf mm f
  · obtain ⟨k, i, k1, k4, hi, rfl, rfl⟩ := hf
    have hi11 : i < 11 := Nat.lt_of_lt_of_le hi (z_fon_le k k4)
    have p128 := z_p128t (d := 58) (X := X) (I := I) (J := J) k1 k4 hi
    have v0 : ∀ {P : Prop}, Int32.ofNat i < 0 → P := fun h => absurd (z_on0 i (by omega)) (Int32.not_le.mpr h)
    cases hb : z_bw si 0 1 with
    | false =>
      have fb : ∀ {P : Prop}, z_bw si 0 1 = true → P := fun h => by rw [hb] at h; cases h
      exact ⟨z_j (-1), X, X, I, I, J, J, z_q87_e (d := 32) _ _ si ⟨_, _, _, _, p128, fun h => v0 h, fun _ => ⟨fun h => fb h, fun _ => rfl⟩⟩, z_q218_e (d := 56) _ _ si ⟨true, _, _, _, z_p166t r8 k1 k4 hi, fun h => (by cases h), fun _ => ⟨fun h => fb h, fun _ => rfl⟩⟩, hR0, Nat.le_succ _, Nat.le_add_right _ _, rfl⟩
    | true =>
      have fb : ∀ {P : Prop}, z_bw si 0 1 = false → P := fun h => by rw [hb] at h; cases h
      obtain ⟨P, w, cN, p1, p2, p3, p4, p5, p6, p7⟩ := z_lim n3
      by_cases hP0 : P = 0
      · subst hP0
        exact ⟨z_j (-3), X, X, I, I, J, J, z_q87_e (d := 32) _ _ si ⟨_, _, _, _, p128, fun h => v0 h, fun _ => ⟨fun _ => ⟨fun h => absurd p2 h, fun _ => rfl⟩, fun h => fb h⟩⟩, z_q218_e (d := 56) _ _ si ⟨true, _, _, _, z_p166t r8 k1 k4 hi, fun h => (by cases h), fun _ => ⟨fun _ => ⟨fun h => absurd p3 h, fun _ => rfl⟩, fun h => fb h⟩⟩, hR0, Nat.le_succ _, Nat.le_add_right _ _, rfl⟩
      · have hP1 : 1 ≤ P := by omega
        have hLC : z_LC I P w cN := ⟨p2, fun p hp => (p5 p hp).1, fun a b ha hb => (p7 a b ha hb).1⟩
        have hLR : z_LR I P w cN := ⟨p3, fun p hp => (p5 p hp).2, fun a b ha hb => (p7 a b ha hb).2⟩
        have hne : ¬ Int32.ofNat P = 0 := fun q => absurd ((z_oeq (b := 0) (by omega) (by decide)).mp q) hP0
        have w9 : ∀ p, p < P → w p ≤ 9 := fun p hp => (p4 p hp).2
        obtain ⟨b1, b2⟩ := z_sumf_bd P p4
        obtain ⟨e1, e2⟩ := z_bel_bd (W := z_sumf w P) (m := k) (by omega) (by omega) k4
        obtain ⟨I1, J1, c1, c2, c3, c4⟩ := z_p12 (d := 32) (X := X) (I := I) (J := J) hP1 p1 k1 k4 w9 p6 hLC
        have a1 := z_g8_ag c2
        have p11 := z_p11 (d := 58) (X := X) (I := I1) (J := J1) (m := k) p1 k4 p4 (z_LC_8 hLC c2)
        obtain ⟨I2, d1, d2⟩ := z_p216 (d := 56) (X := X) (I := I1) (J := J1) (z_Tb_ag a1 rfl r8) hP1 p1 k1 k4 hi w9 (fun a b ha hb => (p6 a b ha hb).1) (z_LR_ag hLR a1)
        have a2 := z_ag_tr a1 (z_48_ag d2)
        have p217 := z_p217 (d := 58) (X := X) (I := I2) (J := J1) (m := k) p1 k1 k4 p4 (z_LR_ag hLR a2)
        have hbd := z_AT_bd (m := k) (i := i) hP1 p1 k4 w9 (fun a b ha hb => (p6 a b ha hb).1)
        obtain ⟨g, hg⟩ := z_frc (z_jmin (v := z_AT P w cN k i) (by omega)) e1 (Nat.lt_of_le_of_lt e2 (by decide))
        refine ⟨z_j (z_frv (Int64.ofNat (z_AT P w cN k i)) (z_sumf w P ^ k * 4 ^ (k * (k - 1) / 2)) g si), X, X, I1, I2, J1, _, z_q87_e (d := 32) _ _ si ⟨_, _, _, _, p128, fun h => v0 h, fun _ => ⟨fun _ => ⟨fun _ => ⟨_, _, _, c1, i, rfl, hi11, _, _, _, _, p11, _, _, _, _, (by rw [c4 i hi11]; exact (hg 58 X I1 J1 si).1), rfl⟩, fun h => absurd (p2.symm.trans h) hne⟩, fun h => fb h⟩⟩, z_q218_e (d := 56) _ _ si ⟨true, _, _, _, z_p166t (z_Tb_ag a1 rfl r8) k1 k4 hi, fun h => (by cases h), fun _ => ⟨fun _ => ⟨fun _ => ⟨_, _, _, _, d1, _, _, _, _, p217, _, _, _, (hg 59 X I2 J1 si).2, _, _, _, _, z_p199 si, rfl⟩, fun h => absurd ((z_LR_ag hLR a1).1.symm.trans h) hne⟩, fun h => fb h⟩⟩, z_R_0 hR0 a2 (z_J2.1.trans (z_Jf c3).1) (z_J2.2.trans (z_Jf c3).2), Nat.le_succ _, Nat.le_add_right _ _, z_67_ag a2 rfl⟩
  · have p128 := z_p128f (d := 58) (X := X) (I := I) (J := J) hf
    exact ⟨z_j (-1), X, X, I, I, J, J, z_q87_e (d := 32) _ _ si ⟨_, _, _, _, p128, fun _ => rfl, fun h => absurd h (by decide)⟩, z_q218_e (d := 56) _ _ si ⟨false, _, _, _, z_p166f r8 hf, fun _ => rfl, fun h => (by cases h)⟩, hR0, Nat.le_succ _, Nat.le_add_right _ _, rfl⟩
/-- promise 23 -/
theorem z_op_freeAt : z_op 88 220 [] := by
  intro X I J hR
  have hR0 := hR
  obtain ⟨⟨-, ⟨l, hl⟩, n3, -, -⟩, -, -, -, -, -, -, r8⟩ := hR
  have hl : z_RoL (I 3 0) (I 33 0 2) (I 36 0) l := hl
  obtain ⟨P, w, cN, p1, p2, p3, p4, p5, p6, p7⟩ := z_lim n3
  by_cases hP0 : P = 0
  · subst hP0
    exact ⟨z_i (-3), X, X, I, I, J, J, z_q88_e (d := 31) ⟨fun h => absurd p2 h, fun _ => rfl⟩, z_q220_e (d := 55) ⟨fun h => absurd p3 h, fun _ => rfl⟩, hR0, Nat.le_succ _, Nat.le_add_right _ _, rfl⟩
  · have hP1 : 1 ≤ P := by omega
    have hLC : z_LC I P w cN := ⟨p2, fun p hp => (p5 p hp).1, fun a b ha hb => (p7 a b ha hb).1⟩
    have hLR : z_LR I P w cN := ⟨p3, fun p hp => (p5 p hp).2, fun a b ha hb => (p7 a b ha hb).2⟩
    have hne : ¬ Int32.ofNat P = 0 := fun q => absurd ((z_oeq (b := 0) (by omega) (by decide)).mp q) hP0
    have w9 : ∀ p, p < P → w p ≤ 9 := fun p hp => (p4 p hp).2
    obtain ⟨I1, J1, c1, c2, c3⟩ := z_p144 (d := 31) (X := X) (I := I) (J := J) hP1 p1 w9 p6 hLC hl
    have a1 := z_g8_ag c2
    obtain ⟨I2, d1, d2⟩ := z_p219 (d := 55) (X := X) (I := I1) (J := J1) (co := I 3 0) (l := l) (z_Tb_ag a1 rfl r8) hP1 p1 w9 (fun a b ha hb => (p6 a b ha hb).1) (z_LR_ag hLR a1) (by rw [z_fr_t c2 33 (fun _ _ => rfl), z_fr_t c2 36 (fun _ _ => rfl)]; exact hl)
    have a2 := z_ag_tr a1 (z_48_ag d2)
    cases hz : z_frl P w cN l with
    | false =>
      rw [hz] at c1 d1
      exact ⟨z_i 0, X, X, I1, I2, J1, J1, z_q88_e (d := 31) ⟨fun _ => ⟨false, _, _, _, c1, fun _ => rfl, fun h => (by cases h)⟩, fun h => absurd (p2.symm.trans h) hne⟩, z_q220_e (d := 55) ⟨fun _ => ⟨false, _, _, _, d1, fun _ => rfl, fun h => (by cases h)⟩, fun h => absurd ((z_LR_ag hLR a1).1.symm.trans h) hne⟩, z_R_0 hR0 a2 (z_Jf c3).1 (z_Jf c3).2, Nat.le_succ _, Nat.le_add_right _ _, z_67_ag a2 rfl⟩
    | true =>
      rw [hz] at c1 d1
      exact ⟨z_i 1, X, X, I1, I2, J1, J1, z_q88_e (d := 31) ⟨fun _ => ⟨true, _, _, _, c1, fun h => (by cases h), fun _ => rfl⟩, fun h => absurd (p2.symm.trans h) hne⟩, z_q220_e (d := 55) ⟨fun _ => ⟨true, _, _, _, d1, fun h => (by cases h), fun _ => rfl⟩, fun h => absurd ((z_LR_ag hLR a1).1.symm.trans h) hne⟩, z_R_0 hR0 a2 (z_Jf c3).1 (z_Jf c3).2, Nat.le_succ _, Nat.le_add_right _ _, z_67_ag a2 rfl⟩
def z_vta (g : Nat → Int32) (c : Nat → Nat) : Nat → Int64
  | 0 => 0
  | i + 1 => z_vta g c i + (g i).toInt64 * Int64.ofNat (c i)
theorem z_vta_bd {g : Nat → Int32} {c : Nat → Nat} (hg : ∀ i, i < 4 → -300 ≤ (g i).toInt ∧ (g i).toInt ≤ 300) (hc : ∀ i, c i ≤ 2 ^ 41) : ∀ n : Nat, n ≤ 4 → ∃ Z : Int, -((n : Int) * (300 * 2 ^ 41)) ≤ Z ∧ Z ≤ (n : Int) * (300 * 2 ^ 41) ∧ z_vta g c n = Int64.ofInt Z
  | 0, _ => ⟨0, by omega, by omega, rfl⟩
  | n + 1, hn => by
    obtain ⟨Z, z1, z2, z3⟩ := z_vta_bd hg hc n (by omega)
    obtain ⟨g1, g2⟩ := hg n (by omega)
    have c1 := hc n
    have h1 : (g n).toInt * (c n : Int) ≤ 300 * (c n : Int) := Int.mul_le_mul_of_nonneg_right g2 (by omega)
    have h2 : -300 * (c n : Int) ≤ (g n).toInt * (c n : Int) := Int.mul_le_mul_of_nonneg_right g1 (by omega)
    refine ⟨Z + (g n).toInt * (c n : Int), by omega, by omega, ?_⟩
    show z_vta g c n + (g n).toInt64 * Int64.ofNat (c n) = _
    rw [z3, Int64.ofInt_add, Int64.ofInt_mul, Int64.ofInt_int32ToInt, Int64.ofInt_eq_ofNat]
section
variable {d : Nat} {X : z_X} {I : Nat → Nat → Nat → Int32} {J : Nat → Nat → Nat → Int64}
theorem z_l99 {s q c : Nat} {a b : Int32} {cc : Nat → Nat} {be v : Int64} (hs : s < 6) (hR : X.2.2.2 11 0 s = some (32, q)) (hq : q < X.1) (hc : c < 4) (e0 : I 32 q 0 = Int32.ofNat c) (e2 : I 32 q 2 = a) (e3 : I 32 q 3 = b) (eJ : ∀ i, i < 11 → J 7 0 i = Int64.ofNat (cc i)) (x2 : Int32)
    (hb : z_ev (d + 27) (z_en 11 [z_r 4 0, z_i 3] (true, X, I, J)) (some (z_j be), (true, X, I, J)))
    (hk : z_ev (d + 27) (z_en 131 [z_j (z_vta (z_gvs c a b) cc 4), z_j ((3 : Int64) * be), z_i x2] (true, X, I, J)) (some (z_j v), (true, X, I, J))) :
    ∀ j i, i + j = 4 → z_ev (d + 28) (99, 48, [some (z_r 0 0), some (z_i (Int32.ofNat s)), some (z_i x2), some (z_j (z_vta (z_gvs c a b) cc i)), none, some (z_i (Int32.ofNat i))], [], (true, X, I, J)) (some (z_j v), (true, X, I, J)) := by
  intro j
  induction j with
  | zero =>
    intro i hi
    obtain rfl : i = 4 := by omega
    exact z_q99_48 _ _ _ _ ⟨fun _ => ⟨_, _, _, _, hb, _, _, _, _, hk, rfl⟩, fun h => absurd ((z_olt (b := 4) (by omega) (by decide)).mp h) (by omega)⟩
  | succ j ih =>
    intro i hi
    have h9 := ih (i + 1) (by omega)
    refine z_q99_48 _ _ _ _ ⟨fun h => absurd ((z_ole (a := 4) (by decide) (by omega)).mp h) (by omega), fun _ => ⟨s, rfl, hs, q, hR, _, _, _, _, z_p148 hq hc e0 e2 e3 (by omega), i, rfl, by omega, ?_⟩⟩
    rw [z_os, eJ i (by omega)]
    exact h9
theorem z_l236 (ht : z_Tb I) {s c P : Nat} {a b : Int32} {w : Nat → Nat} {cN : Nat → Nat → Nat} (hs : s < 6) (hc : c < 4) (hkv : z_kv c a b) (e0 : I 39 0 (4 * s) = Int32.ofNat c) (e1 : I 39 0 (4 * s + 1) = a) (e2 : I 39 0 (4 * s + 2) = b) (hP1 : 1 ≤ P) (hP : P ≤ 5) (hw : ∀ p, p < P → 1 ≤ w p ∧ w p ≤ 9) (hcN : ∀ a b, a < P → b < P → cN a b ≤ 4) (hL : z_LR I P w cN) (x3 : Int32) {g b9 : Nat}
    (hk : ∀ I' J', z_ev (d + 5) (z_en 198 [z_r 33 0, z_j (z_vta (z_gvs c a b) (z_AT P w cN 3) 4), z_j ((3 : Int64) * Int64.ofNat (z_sumf w P ^ 3 * 4 ^ 3))] (true, X, I', J')) (none, (true, X, I', z_up (z_up J' 33 0 26 (z_vta (z_gvs c a b) (z_AT P w cN 3) 4 / Int64.ofNat g)) 33 0 27 (Int64.ofNat b9 / Int64.ofNat g)))) :
    ∀ j i, i + j = 4 → ∀ I1, z_ag [0] I I1 → ∃ I', z_ev (d + 6) (236, 31, [some (z_r 33 0), some (z_i (Int32.ofNat s)), some (z_i x3), some (z_j (z_vta (z_gvs c a b) (z_AT P w cN 3) i)), none, some (z_i (Int32.ofNat i))], [], (true, X, I1, J)) (some (z_j (z_frv (z_vta (z_gvs c a b) (z_AT P w cN 3) 4) b9 g x3)), (true, X, I', z_up (z_up J 33 0 26 (z_vta (z_gvs c a b) (z_AT P w cN 3) 4 / Int64.ofNat g)) 33 0 27 (Int64.ofNat b9 / Int64.ofNat g))) ∧ z_ag [0] I I' := by
  intro j
  induction j with
  | zero =>
    intro i hi I1 ha
    obtain rfl : i = 4 := by omega
    have p217 := z_p217 (d := d + 4) (X := X) (I := I1) (J := J) (m := 3) hP (by decide) (by decide) hw (z_LR_ag hL ha)
    exact ⟨I1, z_q236_31 _ _ _ _ ⟨fun _ => ⟨_, _, _, _, p217, _, _, _, hk I1 J, _, _, _, _, z_p199 x3, rfl⟩, fun h => absurd ((z_olt (b := 4) (by omega) (by decide)).mp h) (by omega)⟩, ha⟩
  | succ j ih =>
    intro i hi I1 ha
    have t39 : I1 39 = I 39 := z_ag_t ha 39 (c := 1) (fun _ _ => rfl) rfl
    obtain ⟨I2, p1, p2⟩ := z_p233 (d := d) (X := X) (I := I1) (J := J) (z_Tb_ag ha rfl ht) hs hc hkv (by rw [t39]; exact e0) (by rw [t39]; exact e1) (by rw [t39]; exact e2) (show i < 4 by omega)
    have a2 := z_ag_tr ha p2
    have ht2 := z_Tb_ag a2 rfl ht
    obtain ⟨-, t2, -⟩ := ht2 3 (by decide) (by decide)
    obtain ⟨I3, q1, q2⟩ := z_p216 (d := d + 2) (X := X) (I := I2) (J := J) (m := 3) (i := i) ht2 hP1 hP (by decide) (by decide) (by show i < 4; omega) (fun p hp => (hw p hp).2) hcN (z_LR_ag hL a2)
    obtain ⟨I', c1, c2⟩ := ih (i + 1) (by omega) I3 (z_ag_tr a2 (z_48_ag q2))
    refine ⟨I', z_q236_31 _ _ _ _ ⟨fun h => absurd ((z_ole (a := 4) (by decide) (by omega)).mp h) (by omega), fun _ => ⟨_, _, _, _, p1, 11 * 3 + i, z_o33 i, by omega, _, _, _, _, by rw [t2 i (by show i < 4; omega)]; exact q1, ?_⟩⟩, c2⟩
    rw [z_os]
    exact c1
end
/-- promise 34 -/
theorem z_op_valueAt (x si : Int32) : z_op 99 236 [z_i x, z_i si] := by
  intro X I J hR
  have hR0 := hR
  obtain ⟨⟨-, -, n3, -, ⟨k, s1, s2, s3, s4⟩⟩, -, -, -, -, -, -, r8⟩ := hR
  have s1 := s1.1
  have eb : z_bw x 0 (I 33 0 8 - 1) = z_lt0 x (I 1 0 5) := by rw [z_bw_lt s3 (by omega), s3, s2]
  cases ha : z_lt0 x (I 1 0 5) with
  | false =>
    have fa : ∀ {P : Prop}, z_lt0 x (I 1 0 5) = true → P := fun h => by rw [ha] at h; cases h
    exact ⟨z_j (-1000000000000), X, X, I, I, J, J, z_q99_e (d := 32) x si ⟨fun _ => rfl, fun h => fa h⟩, z_q236_e (d := 54) x si ⟨fun _ => rfl, fun h => fa (by rw [← eb]; exact h)⟩, hR0, Nat.le_succ _, Nat.le_add_right _ _, rfl⟩
  | true =>
    have fa : ∀ {P : Prop}, z_lt0 x (I 1 0 5) = false → P := fun h => by rw [ha] at h; cases h
    have fa2 : ∀ {P : Prop}, z_bw x 0 (I 33 0 8 - 1) = false → P := fun h => by rw [eb, ha] at h; cases h
    obtain ⟨s, hs, rfl⟩ := z_lt0n ha s2 (by omega)
    cases hc1 : z_bw si 0 1 with
    | false =>
      have fc : ∀ {P : Prop}, z_bw si 0 1 = true → P := fun h => by rw [hc1] at h; cases h
      exact ⟨z_j (-1000000000000), X, X, I, I, J, J, z_q99_e (d := 32) _ si ⟨fun h => fa h, fun _ => ⟨fun _ => rfl, fun h => fc h⟩⟩, z_q236_e (d := 54) _ si ⟨fun h => fa2 h, fun _ => ⟨fun _ => rfl, fun h => fc h⟩⟩, hR0, Nat.le_succ _, Nat.le_add_right _ _, rfl⟩
    | true =>
      have fc : ∀ {P : Prop}, z_bw si 0 1 = false → P := fun h => by rw [hc1] at h; cases h
      obtain ⟨P, w, cN, p1, p2, p3, p4, p5, p6, p7⟩ := z_lim n3
      by_cases hP0 : P = 0
      · subst hP0
        exact ⟨z_j (-1000000000000), X, X, I, I, J, J, z_q99_e (d := 32) _ si ⟨fun h => fa h, fun _ => ⟨fun h => fc h, fun _ => ⟨fun h => absurd p2 h, fun _ => rfl⟩⟩⟩, z_q236_e (d := 54) _ si ⟨fun h => fa2 h, fun _ => ⟨fun h => fc h, fun _ => ⟨fun h => absurd p3 h, fun _ => rfl⟩⟩⟩, hR0, Nat.le_succ _, Nat.le_add_right _ _, rfl⟩
      · have hP1 : 1 ≤ P := by omega
        obtain ⟨q, c, t1, t2, t3, t4, t5, t6, t7, t8, t9, t10, t11⟩ := s4 s hs
        have hLC : z_LC I P w cN := ⟨p2, fun p hp => (p5 p hp).1, fun a b ha hb => (p7 a b ha hb).1⟩
        have hLR : z_LR I P w cN := ⟨p3, fun p hp => (p5 p hp).2, fun a b ha hb => (p7 a b ha hb).2⟩
        have hne : ¬ Int32.ofNat P = 0 := fun q => absurd ((z_oeq (b := 0) (by omega) (by decide)).mp q) hP0
        have w9 : ∀ p, p < P → w p ≤ 9 := fun p hp => (p4 p hp).2
        obtain ⟨b1, b2⟩ := z_sumf_bd P p4
        obtain ⟨e1, e2⟩ := z_bel_bd (W := z_sumf w P) (m := 3) (by omega) (by omega) (by decide)
        obtain ⟨I1, J1, c1, c2, c3, c4⟩ := z_p12 (d := 32) (X := X) (I := I) (J := J) (m := 3) hP1 p1 (by decide) (by decide) w9 p6 hLC
        have a1 := z_g8_ag c2
        have p11 := z_p11 (d := 58) (X := X) (I := I1) (J := J1) (m := 3) p1 (by decide) p4 (z_LC_8 hLC c2)
        have e32 : I1 32 = I 32 := z_fr_t c2 32 (fun _ _ => rfl)
        have e39 : I1 39 = I 39 := z_fr_t c2 39 (fun _ _ => rfl)
        have hbel : (3 : Int64) * Int64.ofNat (z_sumf w P ^ 3 * 4 ^ 3) = Int64.ofNat (3 * (z_sumf w P ^ 3 * 4 ^ 3)) := (Int64.ofNat_mul 3 _).symm
        obtain ⟨Z, z1, z2, z3⟩ := z_vta_bd (g := z_gvs c (I 39 0 (4 * s + 1)) (I 39 0 (4 * s + 2))) (c := z_AT P w cN 3) (fun i hi => z_gvs_bd t4 t11 hi) (fun i => z_AT_bd hP1 p1 (by decide) w9 (fun a b ha hb => (p6 a b ha hb).1)) 4 (Nat.le_refl _)
        have e1 : 1 ≤ z_sumf w P ^ 3 * 4 ^ 3 := e1
        have e2 : z_sumf w P ^ 3 * 4 ^ 3 ≤ 2 ^ 40 := e2
        obtain ⟨g, hg⟩ := z_frc (l := z_vta (z_gvs c (I 39 0 (4 * s + 1)) (I 39 0 (4 * s + 2))) (z_AT P w cN 3) 4) (by rw [z3]; exact z_ofI_min (by omega) (by omega)) (show 1 ≤ 3 * (z_sumf w P ^ 3 * 4 ^ 3) by omega) (show 3 * (z_sumf w P ^ 3 * 4 ^ 3) < 2 ^ 63 by omega)
        have k1 := z_l99 (d := 32) (X := X) (J := J1) (I := I1) (s := s) (q := q) (c := c) (a := I 39 0 (4 * s + 1)) (b := I 39 0 (4 * s + 2)) (cc := z_AT P w cN 3) (by omega) t2 t1 t4 (by rw [e32]; exact t5) (by rw [e32]; exact t8) (by rw [e32]; exact t9) c4 si p11 (by rw [show ((3 : Int64) * Int64.ofNat (z_sumf w P ^ 3 * 4 ^ (3 * (3 - 1) / 2))) = Int64.ofNat (3 * (z_sumf w P ^ 3 * 4 ^ 3)) from hbel]; exact (hg 58 X I1 J1 si).1) 4 0 (by omega)
        obtain ⟨I2, d1, d2⟩ := z_l236 (d := 54) (X := X) (J := J1) (I := I1) (z_Tb_ag a1 rfl r8) (s := s) (c := c) (a := I 39 0 (4 * s + 1)) (b := I 39 0 (4 * s + 2)) (w := w) (cN := cN) (g := g) (b9 := 3 * (z_sumf w P ^ 3 * 4 ^ 3)) (by omega) t4 t11 (by rw [e39]; exact t6) (by rw [e39]) (by rw [e39]) hP1 p1 p4 (fun a b ha hb => (p6 a b ha hb).1) (z_LR_ag hLR a1) si (fun I' J' => by rw [hbel]; exact (hg 59 X I' J' si).2) 4 0 (by omega) I1 z_ag_rf
        have a2 := z_ag_tr a1 d2
        have fa3 : ∀ {P : Prop}, z_bw (Int32.ofNat s) 0 (I1 33 0 8 - 1) = false → P := fun h => fa2 (by rw [z_fr_t c2 33 (fun _ _ => rfl)] at h; exact h)
        exact ⟨_, X, X, I1, I2, J1, _, z_q99_e (d := 32) _ si ⟨fun h => fa h, fun _ => ⟨fun h => fc h, fun _ => ⟨fun _ => ⟨_, _, _, c1, k1⟩, fun h => absurd (p2.symm.trans h) hne⟩⟩⟩, z_q236_e (d := 54) _ si ⟨fun h => fa3 h, fun _ => ⟨fun h => fc h, fun _ => ⟨fun _ => d1, fun h => absurd ((z_LR_ag hLR a1).1.symm.trans h) hne⟩⟩⟩, z_R_0 hR0 a2 (z_J2.1.trans (z_Jf c3).1) (z_J2.2.trans (z_Jf c3).2), Nat.le_succ _, Nat.le_add_right _ _, z_67_ag a2 rfl⟩
