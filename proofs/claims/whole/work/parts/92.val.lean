/-! calls of both: value -/
def z_vs (g : Nat → Int32) (c : Nat → Nat) : Nat → Int64
  | 0 => 0
  | i + 1 => z_vs g c i + (g i).toInt64 * (Int32.ofNat (c i)).toInt64
theorem z_vs_bd {g : Nat → Int32} {c : Nat → Nat} (hg : ∀ i, i < 4 → -300 ≤ (g i).toInt ∧ (g i).toInt ≤ 300) (hc : ∀ i, c i ≤ 1000) : ∀ n : Nat, n ≤ 4 → ∃ Z : Int, -((n : Int) * 300000) ≤ Z ∧ Z ≤ (n : Int) * 300000 ∧ z_vs g c n = Int64.ofInt Z
  | 0, _ => ⟨0, by omega, by omega, rfl⟩
  | n + 1, hn => by
    obtain ⟨Z, z1, z2, z3⟩ := z_vs_bd hg hc n (by omega)
    obtain ⟨g1, g2⟩ := hg n (by omega)
    have c1 := hc n
    have e1 : (Int32.ofNat (c n)).toInt64 = Int64.ofInt (c n) := by rw [z_i64 (by omega), Int64.ofInt_eq_ofNat]
    have h1 : (g n).toInt * (c n : Int) ≤ 300 * (c n : Int) := Int.mul_le_mul_of_nonneg_right g2 (by omega)
    have h2 : -300 * (c n : Int) ≤ (g n).toInt * (c n : Int) := Int.mul_le_mul_of_nonneg_right g1 (by omega)
    refine ⟨Z + (g n).toInt * (c n : Int), by omega, by omega, ?_⟩
    show z_vs g c n + (g n).toInt64 * (Int32.ofNat (c n)).toInt64 = _
    rw [z3, e1, Int64.ofInt_add, Int64.ofInt_mul, Int64.ofInt_int32ToInt]
theorem z_ofI_min {Z : Int} (h1 : -2 ^ 62 ≤ Z) (h2 : Z ≤ 2 ^ 62) : Int64.ofInt Z ≠ Int64.minValue := by
  intro h
  have e := congrArg Int64.toInt h
  rw [Int64.toInt_ofInt_of_le (by omega) (by omega)] at e
  have e2 : Int64.minValue.toInt = -2 ^ 63 := rfl
  omega
section
variable {d : Nat} {X : z_X} {I : Nat → Nat → Nat → Int32} {J : Nat → Nat → Nat → Int64}
theorem z_l98 {s q c n sz : Nat} {a b : Int32} {cc : Nat → Nat} {r : Option z_V × z_M} (hs : s < 6) (hn : n < 4) (hR : X.2.2.2 11 0 s = some (32, q)) (hq : q < X.1) (hc : c < 4) (e0 : I 32 q 0 = Int32.ofNat c) (e2 : I 32 q 2 = a) (e3 : I 32 q 3 = b) (e25 : ∀ i, i < 11 → I 25 0 i = Int32.ofNat (cc i)) (e13 : I 13 n 1 = Int32.ofNat sz) (x3 : Int32)
    (hk : z_ev (d + 15) (z_en 131 [z_j (z_vs (z_gvs c a b) cc 4), z_j ((3 : Int64) * (z_wv (Int32.ofNat sz) 3).toInt64), z_i x3] (true, X, I, J)) r) (hr : ∃ v, r = (some (z_j v), (true, X, I, J))) :
    ∀ j i, i + j = 4 → z_ev (d + 16) (98, 65, [some (z_r 0 0), some (z_i (Int32.ofNat s)), some (z_i (Int32.ofNat n)), some (z_i x3), some (z_j (z_vs (z_gvs c a b) cc i)), none, some (z_i (Int32.ofNat i))], [], (true, X, I, J)) r := by
  obtain ⟨v, rfl⟩ := hr
  intro j
  induction j with
  | zero =>
    intro i hi
    obtain rfl : i = 4 := by omega
    exact z_q98_65 _ _ _ _ _ ⟨fun _ => ⟨n, rfl, hn, _, _, _, _, by rw [e13]; exact z_p130 _ (m := 3) (by decide), _, _, _, _, hk, rfl⟩, fun h => absurd ((z_olt (b := 4) (by omega) (by decide)).mp h) (by omega)⟩
  | succ j ih =>
    intro i hi
    have h9 := ih (i + 1) (by omega)
    refine z_q98_65 _ _ _ _ _ ⟨fun h => absurd ((z_ole (a := 4) (by decide) (by omega)).mp h) (by omega), fun _ => ⟨s, rfl, hs, q, hR, _, _, _, _, z_p148 hq hc e0 e2 e3 (by omega), i, rfl, by omega, ?_⟩⟩
    rw [z_os, e25 i (by omega)]
    exact h9
theorem z_l235 (ht : z_Tb I) {s c n sz : Nat} {a b : Int32} {m : Nat → Nat} (hs : s < 6) (hn : n < 4) (hc : c < 4) (hkv : z_kv c a b) (e0 : I 39 0 (4 * s) = Int32.ofNat c) (e1 : I 39 0 (4 * s + 1) = a) (e2 : I 39 0 (4 * s + 2) = b) (hsz : sz ≤ 10) (hw : z_wfm sz m) (e34 : I 34 0 n = Int32.ofNat sz) (hr5 : ∀ p, p < 10 → I 35 0 (10 * n + p) = Int32.ofNat (m p)) (x3 : Int32) {g b9 : Nat}
    (hk : ∀ I' J', z_ev (d + 5) (z_en 198 [z_r 33 0, z_j (z_vs (z_gvs c a b) (z_cnf m sz 3) 4), z_j ((3 : Int64) * (z_wv (Int32.ofNat sz) 3).toInt64)] (true, X, I', J')) (none, (true, X, I', z_up (z_up J' 33 0 26 (z_vs (z_gvs c a b) (z_cnf m sz 3) 4 / Int64.ofNat g)) 33 0 27 (Int64.ofNat b9 / Int64.ofNat g)))) :
    ∀ j i, i + j = 4 → ∀ I1, z_ag [0] I I1 → ∃ I', z_ev (d + 6) (235, 42, [some (z_r 33 0), some (z_i (Int32.ofNat s)), some (z_i (Int32.ofNat n)), some (z_i x3), some (z_j (z_vs (z_gvs c a b) (z_cnf m sz 3) i)), none, some (z_i (Int32.ofNat i))], [], (true, X, I1, J)) (some (z_j (z_frv (z_vs (z_gvs c a b) (z_cnf m sz 3) 4) b9 g x3)), (true, X, I', z_up (z_up J 33 0 26 (z_vs (z_gvs c a b) (z_cnf m sz 3) 4 / Int64.ofNat g)) 33 0 27 (Int64.ofNat b9 / Int64.ofNat g))) ∧ z_ag [0] I I' := by
  intro j
  induction j with
  | zero =>
    intro i hi I1 ha
    obtain rfl : i = 4 := by omega
    refine ⟨I1, z_q235_42 _ _ _ _ _ ⟨fun _ => ⟨n, rfl, hn, _, _, _, _, ?_, _, _, _, hk I1 J, _, _, _, _, z_p199 x3, rfl⟩, fun h => absurd ((z_olt (b := 4) (by omega) (by decide)).mp h) (by omega)⟩, ha⟩
    rw [z_ag_t ha 34 (c := 1) (fun _ _ => rfl) rfl, e34]
    exact z_p195 _ (m := 3) (by decide)
  | succ j ih =>
    intro i hi I1 ha
    have t39 : I1 39 = I 39 := z_ag_t ha 39 (c := 1) (fun _ _ => rfl) rfl
    obtain ⟨I2, p1, p2⟩ := z_p233 (d := d) (X := X) (I := I1) (J := J) (z_Tb_ag ha rfl ht) hs hc hkv (by rw [t39]; exact e0) (by rw [t39]; exact e1) (by rw [t39]; exact e2) (show i < 4 by omega)
    have a2 := z_ag_tr ha p2
    have ht2 := z_Tb_ag a2 rfl ht
    obtain ⟨-, t2, -⟩ := ht2 3 (by decide) (by decide)
    have h196 := z_p196 (d := d + 1) (X := X) (I := I2) (J := J) ht2 hn hsz hw (by rw [z_ag_t a2 34 (c := 1) (fun _ _ => rfl) rfl]; exact e34) (fun p hp => by rw [z_ag_t a2 35 (c := 1) (fun _ _ => rfl) rfl]; exact hr5 p hp) (k := 3) (i := i) (by decide) (by decide) (by omega)
    obtain ⟨I', c1, c2⟩ := ih (i + 1) (by omega) I2 a2
    refine ⟨I', z_q235_42 _ _ _ _ _ ⟨fun h => absurd ((z_ole (a := 4) (by decide) (by omega)).mp h) (by omega), fun _ => ⟨_, _, _, _, p1, 11 * 3 + i, z_o33 i, by omega, _, _, _, _, by rw [t2 i (by show i < 4; omega)]; exact h196, ?_⟩⟩, c2⟩
    rw [z_os]
    exact c1
end
/-- promise 33 -/
theorem z_op_value (x w1 si : Int32) : z_op 98 235 [z_i x, z_i w1, z_i si] := by
  intro X I J hR
  have hR0 := hR
  obtain ⟨n0, -, -, -, -, -, -, r8⟩ := hR
  have n1 := n0
  obtain ⟨-, -, -, -, ⟨k, s1, s2, s3, s4⟩⟩ := n0
  have eb : z_bw x 0 (I 33 0 8 - 1) = z_lt0 x (I 1 0 5) := by rw [z_bw_lt s3 (by omega), s3, s2]
  cases ha : z_lt0 x (I 1 0 5) with
  | false =>
    have fa : ∀ {P : Prop}, z_lt0 x (I 1 0 5) = true → P := fun h => by rw [ha] at h; cases h
    exact ⟨z_j (-1000000000000), X, X, I, I, J, J, z_q98_e (d := 44) x w1 si ⟨fun _ => rfl, fun h => fa h⟩, z_q235_e (d := 54) x w1 si ⟨fun _ => rfl, fun h => fa (by rw [← eb]; exact h)⟩, hR0, Nat.le_succ _, Nat.le_add_right _ _, rfl⟩
  | true =>
    have fa : ∀ {P : Prop}, z_lt0 x (I 1 0 5) = false → P := fun h => by rw [ha] at h; cases h
    have fa2 : ∀ {P : Prop}, z_bw x 0 (I 33 0 8 - 1) = false → P := fun h => by rw [eb, ha] at h; cases h
    obtain ⟨s, hs, rfl⟩ := z_lt0n ha s2 (by omega)
    cases hb : z_bw w1 0 3 with
    | false =>
      have fb : ∀ {P : Prop}, z_bw w1 0 3 = true → P := fun h => by rw [hb] at h; cases h
      exact ⟨z_j (-1000000000000), X, X, I, I, J, J, z_q98_e (d := 44) _ w1 si ⟨fun _ => rfl, fun _ => ⟨fun _ => rfl, fun h => fb h⟩⟩, z_q235_e (d := 54) _ w1 si ⟨fun _ => rfl, fun _ => ⟨fun _ => rfl, fun h => fb h⟩⟩, hR0, Nat.le_succ _, Nat.le_add_right _ _, rfl⟩
    | true =>
      have fb : ∀ {P : Prop}, z_bw w1 0 3 = false → P := fun h => by rw [hb] at h; cases h
      obtain ⟨n, hn, rfl⟩ := z_bw3 hb
      cases hc1 : z_bw si 0 1 with
      | false =>
        have fc : ∀ {P : Prop}, z_bw si 0 1 = true → P := fun h => by rw [hc1] at h; cases h
        exact ⟨z_j (-1000000000000), X, X, I, I, J, J, z_q98_e (d := 44) _ _ si ⟨fun _ => rfl, fun _ => ⟨fun _ => rfl, fun _ => ⟨fun _ => rfl, fun h => fc h⟩⟩⟩, z_q235_e (d := 54) _ _ si ⟨fun _ => rfl, fun _ => ⟨fun _ => rfl, fun _ => ⟨fun _ => rfl, fun h => fc h⟩⟩⟩, hR0, Nat.le_succ _, Nat.le_add_right _ _, rfl⟩
      | true =>
        have fc : ∀ {P : Prop}, z_bw si 0 1 = false → P := fun h => by rw [hc1] at h; cases h
        obtain ⟨sz, m, g1, g2, g3, g4, g5, g6, g7⟩ := z_now_net n1 hn
        by_cases h3 : 3 ≤ sz
        · obtain ⟨q, c, t1, t2, t3, t4, t5, t6, t7, t8, t9, t10, t11⟩ := s4 s hs
          have c13 : (3 : Int32) ≤ I 13 n 1 := by rw [g4]; exact (z_ole (a := 3) (by decide) (by omega)).mpr h3
          obtain ⟨I1, c1, c2, c3⟩ := z_p42 (d := 44) (X := X) (J := J) (I := I) (q := 0) (q1 := n) (k := 3) (by decide) (by omega) (by decide) g2 g3.1 g6 g4
          have hw := z_tq_ag c3
          have c34 : (3 : Int32) ≤ I1 34 0 n := by rw [z_fr_t c3 34 (fun _ _ => rfl), g5]; exact (z_ole (a := 3) (by decide) (by omega)).mpr h3
          obtain ⟨w1', w2, w3⟩ := z_wn_tab sz (by omega) 3 (by decide) h3
          have hbel : (3 : Int64) * (z_wv (Int32.ofNat sz) 3).toInt64 = Int64.ofNat (3 * z_wn sz 3) := by
            rw [w1', z_i64 (by omega), Int64.ofNat_mul]; rfl
          obtain ⟨Z, z1, z2, z3⟩ := z_vs_bd (g := z_gvs c (I 39 0 (4 * s + 1)) (I 39 0 (4 * s + 2))) (c := z_cnf m sz 3) (fun i hi => z_gvs_bd t4 t11 hi) (fun i => Nat.le_trans (z_cnf_le (by omega) (by omega) m i) (by decide)) 4 (Nat.le_refl _)
          obtain ⟨g, hg⟩ := z_frc (l := z_vs (z_gvs c (I 39 0 (4 * s + 1)) (I 39 0 (4 * s + 2))) (z_cnf m sz 3) 4) (by rw [z3]; exact z_ofI_min (by omega) (by omega)) (show 1 ≤ 3 * z_wn sz 3 by omega) (show 3 * z_wn sz 3 < 2 ^ 63 by omega)
          have e32 : I1 32 = I 32 := z_fr_t c3 32 (fun _ _ => rfl)
          have e39 : I1 39 = I 39 := z_fr_t c3 39 (fun _ _ => rfl)
          have k1 := z_l98 (d := 44) (X := X) (J := J) (I := I1) (s := s) (q := q) (c := c) (n := n) (sz := sz) (a := I 39 0 (4 * s + 1)) (b := I 39 0 (4 * s + 2)) (cc := z_cnf m sz 3) (by omega) hn t2 t1 t4 (by rw [e32]; exact t5) (by rw [e32]; exact t8) (by rw [e32]; exact t9) c2 (by rw [z_fr_t c3 13 (fun _ _ => rfl)]; exact g4) si (by rw [hbel]; exact (hg 58 X I1 J si).1) ⟨_, rfl⟩ 4 0 (by omega)
          obtain ⟨I2, d1, d2⟩ := z_l235 (d := 54) (X := X) (J := J) (I := I1) (z_Tb_ag hw rfl r8) (s := s) (c := c) (n := n) (sz := sz) (a := I 39 0 (4 * s + 1)) (b := I 39 0 (4 * s + 2)) (m := m) (g := g) (b9 := 3 * z_wn sz 3) (by omega) hn t4 t11 (by rw [e39]; exact t6) (by rw [e39]) (by rw [e39]) g2 g3 (by rw [z_fr_t c3 34 (fun _ _ => rfl)]; exact g5) (fun p hp => by rw [z_fr_t c3 35 (fun _ _ => rfl)]; exact g7 p hp) si (fun I' J' => by rw [hbel]; exact (hg 59 X I' J' si).2) 4 0 (by omega) I1 z_ag_rf
          have hw2 := z_ag_tr hw d2
          have hf1 : ∀ {P : Prop}, I 13 n 1 < 3 → P := fun h => absurd c13 (Int32.not_le.mpr h)
          have hf2 : ∀ {P : Prop}, I1 34 0 n < 3 → P := fun h => absurd c34 (Int32.not_le.mpr h)
          have ea1 : z_bw (Int32.ofNat s) 0 (I1 33 0 8 - 1) = z_lt0 (Int32.ofNat s) (I 1 0 5) := by rw [z_fr_t c3 33 (fun _ _ => rfl)]; exact eb
          have fa3 : ∀ {P : Prop}, z_bw (Int32.ofNat s) 0 (I1 33 0 8 - 1) = false → P := fun h => by rw [ea1, ha] at h; cases h
          exact ⟨_, X, X, I1, I2, J, _, z_q98_e (d := 44) _ _ si ⟨fun h => fa h, fun _ => ⟨fun h => fb h, fun _ => ⟨fun h => fc h, fun _ => ⟨n, rfl, hn, fun _ => ⟨_, _, _, c1, k1⟩, fun h => hf1 h⟩⟩⟩⟩, z_q235_e (d := 54) _ _ si ⟨fun h => fa3 h, fun _ => ⟨fun h => fb h, fun _ => ⟨fun h => fc h, fun _ => ⟨n, rfl, hn, fun _ => d1, fun h => hf2 h⟩⟩⟩⟩, z_R_0 hR0 hw2 z_J2.1 z_J2.2, Nat.le_succ _, Nat.le_add_right _ _, z_67_ag hw2 rfl⟩
        · have c13 : ¬ (3 : Int32) ≤ I 13 n 1 := by rw [g4]; exact fun q => absurd ((z_ole (a := 3) (by decide) (by omega)).mp q) h3
          have c34 : ¬ (3 : Int32) ≤ I 34 0 n := by rw [g5]; exact fun q => absurd ((z_ole (a := 3) (by decide) (by omega)).mp q) h3
          exact ⟨z_j (-1000000000000), X, X, I, I, J, J, z_q98_e (d := 44) _ _ si ⟨fun _ => rfl, fun _ => ⟨fun _ => rfl, fun _ => ⟨fun _ => rfl, fun _ => ⟨n, rfl, hn, fun h => absurd h c13, fun _ => rfl⟩⟩⟩⟩, z_q235_e (d := 54) _ _ si ⟨fun _ => rfl, fun _ => ⟨fun _ => rfl, fun _ => ⟨fun _ => rfl, fun _ => ⟨n, rfl, hn, fun h => absurd h c34, fun _ => rfl⟩⟩⟩⟩, hR0, Nat.le_succ _, Nat.le_add_right _ _, rfl⟩
