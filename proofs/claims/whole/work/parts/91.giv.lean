/-! calls of both: gives, value -/
def z_dg (a : Int32) : Nat → Int32
  | 0 => a
  | i + 1 => z_dg a i / 10
def z_gvd (a : Int32) (i : Nat) : Int32 := 3 * ((z_dg a i - z_dg a i / 10 * 10) - 4)
def z_gv0 (a b : Int32) (i : Nat) : Int32 := if a = 3 then (if z_fm i = b then 3 else 0) else (if b = 1 then Int32.ofNat i else 3 - Int32.ofNat i)
def z_gv2 (a b : Int32) (i : Nat) : Int32 := if i = 0 then b * b + b * b + b * b else if i = 1 then a * b + a * b + b * b else if i = 2 then a * a + a * b + a * b else a * a + a * a + a * a
/-- what a share gives, in thirds -/
def z_gvs (c : Nat) (a b : Int32) (i : Nat) : Int32 := if c = 0 then z_gv0 a b i else if c = 2 then z_gv2 a b i else z_gvd a i
theorem z_gv0_ta : ∀ k, k < 4 → 2 ≤ k → ∀ j, j < z_fon k → ∀ i, i < 4 → (Int32.ofNat (z_cnf (z_cmn 3 (z_fmn i)) 3 k j) * 3) / z_wv 3 k = z_gv0 (Int32.ofNat k) (z_fm j) i := by decide +kernel
theorem z_gv0_tb : ∀ k, k < 4 → 2 ≤ k → ∀ j, j < z_fon k → ∀ i, i < 4 → (Int32.ofNat (z_cnf (z_cmn 3 (z_fmn i)) 3 k j) * 36) / z_wv 3 k = 12 * z_gv0 (Int32.ofNat k) (z_fm j) i := by decide +kernel
theorem z_gv0_tc : ∀ k, k < 4 → 2 ≤ k → ¬ z_wv 3 k = 0 := by decide +kernel
theorem z_gv0_td : ∀ k, k < 4 → 2 ≤ k → ∀ j, j < z_fon k → ∀ i, i < 4 → -300 ≤ (z_gv0 (Int32.ofNat k) (z_fm j) i).toInt := by decide +kernel
theorem z_gv0_te : ∀ k, k < 4 → 2 ≤ k → ∀ j, j < z_fon k → ∀ i, i < 4 → (z_gv0 (Int32.ofNat k) (z_fm j) i).toInt ≤ 3 := by decide +kernel
theorem z_gv0_tab (k : Nat) (hk : k < 4) (hk2 : 2 ≤ k) (j : Nat) (hj : j < z_fon k) (i : Nat) (hi : i < 4) : (Int32.ofNat (z_cnf (z_cmn 3 (z_fmn i)) 3 k j) * 3) / z_wv 3 k = z_gv0 (Int32.ofNat k) (z_fm j) i ∧ (Int32.ofNat (z_cnf (z_cmn 3 (z_fmn i)) 3 k j) * 36) / z_wv 3 k = 12 * z_gv0 (Int32.ofNat k) (z_fm j) i ∧ ¬ z_wv 3 k = 0 ∧ -300 ≤ (z_gv0 (Int32.ofNat k) (z_fm j) i).toInt ∧ (z_gv0 (Int32.ofNat k) (z_fm j) i).toInt ≤ 3 := ⟨z_gv0_ta k hk hk2 j hj i hi, z_gv0_tb k hk hk2 j hj i hi, z_gv0_tc k hk hk2, z_gv0_td k hk hk2 j hj i hi, z_gv0_te k hk hk2 j hj i hi⟩
theorem z_gv2_tab : ∀ u, u < 19 → ∀ w, w < 19 → ∀ i, i < 4 → -300 ≤ (z_gv2 (Int32.ofNat u - 9) (Int32.ofNat w - 9) i).toInt ∧ (z_gv2 (Int32.ofNat u - 9) (Int32.ofNat w - 9) i).toInt ≤ 300 := by decide +kernel
theorem z_dgr : ∀ r, r < 10 → -300 ≤ ((3 : Int32) * (Int32.ofNat r - 4)).toInt ∧ ((3 : Int32) * (Int32.ofNat r - 4)).toInt ≤ 300 := by decide
theorem z_s9 {a : Int32} (h1 : -9 ≤ a) (h2 : a ≤ 9) : ∃ u, u < 19 ∧ a = Int32.ofNat u - 9 := by
  have e : (a + 9).toInt = a.toInt + 9 := by
    rw [Int32.toInt_add]
    rw [Int32.le_iff_toInt_le] at h1 h2
    have z1 : (-9 : Int32).toInt = -9 := rfl
    have z2 : (9 : Int32).toInt = 9 := rfl
    rw [z2]
    exact Int.bmod_eq_of_le (by omega) (by omega)
  rw [Int32.le_iff_toInt_le] at h1 h2
  have z1 : (-9 : Int32).toInt = -9 := rfl
  have z2 : (9 : Int32).toInt = 9 := rfl
  have z3 : (Int32.ofNat 18).toInt = 18 := rfl
  have z4 : (0 : Int32).toInt = 0 := rfl
  obtain ⟨u, hu, e2⟩ := z_nat' (x := a + 9) (n := 18) (by rw [Int32.le_iff_toInt_le]; omega) (by rw [Int32.le_iff_toInt_le]; omega) (by decide)
  refine ⟨u, by omega, ?_⟩
  rw [← e2]
  exact (Int32.add_sub_cancel a 9).symm
theorem z_dg_nat {k : Nat} (hk : k ≤ 1000000) : ∀ i, ∃ q, q ≤ 1000000 ∧ z_dg (Int32.ofNat k) i = Int32.ofNat q
  | 0 => ⟨k, hk, rfl⟩
  | i + 1 => by
    obtain ⟨q, hq, e⟩ := z_dg_nat hk i
    refine ⟨q / 10, Nat.le_trans (Nat.div_le_self _ _) hq, ?_⟩
    show z_dg (Int32.ofNat k) i / 10 = _
    rw [e]
    exact (Int32.ofNat_div (by omega) (by decide)).symm
theorem z_gvs_bd {c : Nat} {a b : Int32} {i : Nat} (hc : c < 4) (h : z_kv c a b) (hi : i < 4) : -300 ≤ (z_gvs c a b i).toInt ∧ (z_gvs c a b i).toInt ≤ 300 := by
  obtain ⟨h0, h2, h13⟩ := h
  unfold z_gvs
  by_cases c0 : c = 0
  · obtain ⟨k, j, k1, k2, k3, rfl, rfl⟩ := h0 c0
    rw [if_pos c0]
    obtain ⟨-, -, -, g1, g2⟩ := z_gv0_tab k (by omega) k1 j k3 i hi
    exact ⟨g1, by omega⟩
  · rw [if_neg c0]
    by_cases c2 : c = 2
    · rw [if_pos c2]
      obtain ⟨⟨a1, a2⟩, b1, b2⟩ := h2 c2
      obtain ⟨u, hu, rfl⟩ := z_s9 a1 a2
      obtain ⟨w, hw, rfl⟩ := z_s9 b1 b2
      exact z_gv2_tab u hu w hw i hi
    · rw [if_neg c2]
      obtain ⟨k, hk, rfl⟩ := h13 (by omega)
      obtain ⟨q, hq, e⟩ := z_dg_nat (k := k) (by omega) i
      unfold z_gvd
      rw [e, show Int32.ofNat q - Int32.ofNat q / 10 * 10 = Int32.ofNat (q % 10) from by
        rw [show Int32.ofNat q / 10 = Int32.ofNat (q / 10) from (Int32.ofNat_div (by omega) (by decide)).symm, show Int32.ofNat (q / 10) * 10 = Int32.ofNat (q / 10 * 10) from (Int32.ofNat_mul _ _).symm, ← Int32.ofNat_sub _ _ (by omega)]
        congr 1
        omega]
      exact z_dgr _ (Nat.mod_lt _ (by decide))
section
variable {d : Nat} {X : z_X} {I : Nat → Nat → Nat → Int32} {J : Nat → Nat → Nat → Int64}
theorem z_p149 (a b : Int32) {i : Nat} (hi : i < 11) : z_ev d (z_en 149 [z_i a, z_i b, z_i (Int32.ofNat i)] (true, X, I, J)) (some (z_i (z_gv0 a b i)), (true, X, I, J)) := by
  unfold z_gv0
  refine z_q149_e _ _ _ ⟨fun h => ⟨fun h2 => ?_, fun h2 => ?_⟩, fun h => ⟨i, rfl, hi, fun h2 => ?_, fun h2 => ?_⟩⟩
  · rw [if_neg h, if_neg h2]
  · rw [if_neg h, if_pos h2]
  · rw [if_pos h, if_neg (show ¬ z_fm i = b from h2)]
  · rw [if_pos h, if_pos (show z_fm i = b from h2)]
theorem z_p150 (a b : Int32) {i : Nat} (hi : i < 4) : z_ev d (z_en 150 [z_i (z_fm i), z_i a, z_i b] (true, X, I, J)) (some (z_i (z_gv2 a b i)), (true, X, I, J)) := by
  rcases (by omega : i = 0 ∨ i = 1 ∨ i = 2 ∨ i = 3) with rfl | rfl | rfl | rfl
  · exact z_q150_e _ _ _ ⟨fun _ => ⟨fun _ => ⟨fun _ => rfl, fun h => absurd (by decide) h⟩, fun h => absurd (by decide) h⟩, fun h => absurd (by decide) h⟩
  · exact z_q150_e _ _ _ ⟨fun h => absurd h (by decide), fun _ => ⟨fun _ => ⟨fun _ => rfl, fun h => absurd (by decide) h⟩, fun h => absurd (by decide) h⟩⟩
  · exact z_q150_e _ _ _ ⟨fun h => absurd h (by decide), fun _ => ⟨fun h => absurd h (by decide), fun _ => ⟨fun _ => rfl, fun h => absurd (by decide) h⟩⟩⟩
  · exact z_q150_e _ _ _ ⟨fun h => absurd h (by decide), fun _ => ⟨fun h => absurd h (by decide), fun _ => ⟨fun h => absurd h (by decide), fun _ => rfl⟩⟩⟩
theorem z_p151 (a : Int32) {i : Nat} (hi : i < 11) : z_ev d (z_en 151 [z_i a, z_i (Int32.ofNat i)] (true, X, I, J)) (some (z_i (z_dg a i - z_dg a i / 10 * 10)), (true, X, I, J)) := by
  have key : ∀ j u, u + j = i → z_ev d (151, 4, [some (z_i a), some (z_i (Int32.ofNat i)), some (z_i (z_dg a u)), some (z_i (Int32.ofNat u))], [], (true, X, I, J)) (some (z_i (z_dg a i - z_dg a i / 10 * 10)), (true, X, I, J)) := by
    intro j
    induction j with
    | zero =>
      intro u hu
      obtain rfl : u = i := by omega
      exact z_q151_4 _ _ _ _ ⟨fun _ => rfl, fun h => absurd ((z_olt (by omega) (by omega)).mp h) (by omega)⟩
    | succ j ih =>
      intro u hu
      exact z_q151_4 _ _ _ _ ⟨fun h => absurd ((z_ole (by omega) (by omega)).mp h) (by omega), fun _ => by rw [z_os]; exact ih (u + 1) (by omega)⟩
  exact z_q151_e _ _ (key i 0 (by omega))
theorem z_p148 {q c i : Nat} {a b : Int32} (hq : q < X.1) (hc : c < 4) (e0 : I 32 q 0 = Int32.ofNat c) (e2 : I 32 q 2 = a) (e3 : I 32 q 3 = b) (hi : i < 4) : z_ev (d + 1) (z_en 148 [z_r 32 q, z_i (Int32.ofNat i)] (true, X, I, J)) (some (z_i (z_gvs c a b i)), (true, X, I, J)) := by
  unfold z_gvs
  refine z_q148_e q _ ⟨hq, fun h => ?_, fun h => ⟨fun h2 => ?_, fun h2 => ?_⟩⟩
  · rw [e0] at h
    rw [if_pos ((z_oeq (b := 0) (by omega) (by decide)).mp h), e2, e3]
    exact ⟨_, _, _, _, z_p149 a b (by omega), rfl⟩
  · rw [e0] at h h2
    rw [if_neg (fun q => h (by rw [q]; rfl)), if_pos ((z_oeq (b := 2) (by omega) (by decide)).mp h2), e2, e3]
    exact ⟨i, rfl, by omega, _, _, _, _, z_p150 a b hi, rfl⟩
  · rw [e0] at h h2
    rw [if_neg (fun q => h (by rw [q]; rfl)), if_neg (fun q => h2 (by rw [q]; rfl)), e2]
    exact ⟨_, _, _, _, z_p151 a (by omega), rfl⟩
theorem z_o33 (i : Nat) : (33 : Int32) + Int32.ofNat i = Int32.ofNat (11 * 3 + i) := z_oa 33 i
theorem z_p233 (ht : z_Tb I) {s c i : Nat} {a b : Int32} (hs : s < 6) (hc : c < 4) (hk : z_kv c a b) (e0 : I 39 0 (4 * s) = Int32.ofNat c) (e1 : I 39 0 (4 * s + 1) = a) (e2 : I 39 0 (4 * s + 2) = b) (hi : i < 4) : ∃ I', z_ev (d + 5) (z_en 233 [z_r 33 0, z_i (Int32.ofNat s), z_i (Int32.ofNat i)] (true, X, I, J)) (some (z_i (z_gvs c a b i)), (true, X, I', J)) ∧ z_ag [0] I I' := by
  have p1 := z_p229 (d := d + 4) (X := X) (I := I) (J := J) hs (c := 1) (by decide)
  have p2 := z_p229 (d := d + 4) (X := X) (I := I) (J := J) hs (c := 2) (by decide)
  have p0 := z_p229 (d := d + 4) (X := X) (I := I) (J := J) hs (c := 0) (by decide)
  rw [e1] at p1
  rw [e2] at p2
  rw [show I 39 0 (4 * s + 0) = Int32.ofNat c from e0] at p0
  obtain ⟨t1, t2, t3⟩ := ht 3 (by decide) (by decide)
  have e41 : I 41 0 (11 * 3 + i) = z_fm i := t2 i hi
  unfold z_gvs
  by_cases c0 : c = 0
  · rw [if_pos c0]
    obtain ⟨k, j, k1, k2, k3, rfl, rfl⟩ := hk.1 c0
    subst c0
    obtain ⟨f1, f2, f3⟩ := z_fm_tab 3 (by decide) (by decide) i hi
    have f64 : z_fmn i < 64 := z_c64 (n := 3) (by decide) f2
    obtain ⟨I', d1, d2⟩ := z_p202 (d := d) (X := X) (I := I) (J := J) ht (n := 3) (show 1 ≤ k by omega) (show k ≤ 4 by omega) (show j < 11 from Nat.lt_of_lt_of_le k3 (z_fon_le k (by omega))) (by decide) (show z_fmn i < 1024 by omega)
    rw [← f1] at d1
    obtain ⟨g1, -, g3, -⟩ := z_gv0_tab k (by omega) k1 j k3 i hi
    refine ⟨I', z_q233_e _ _ ⟨_, _, _, _, p1, _, _, _, _, p2, 11 * 3 + i, z_o33 i, by omega, _, _, _, _, p0, fun _ => ⟨_, _, _, _, by rw [e41]; exact d1, _, _, _, _, z_p195 3 (by omega), g3, by rw [g1]⟩, fun h => absurd rfl h⟩, d2⟩
  · rw [if_neg c0]
    have n0 : ∀ {P : Prop}, Int32.ofNat c = 0 → P := fun h => absurd ((z_oeq (b := 0) (by omega) (by decide)).mp h) c0
    by_cases c2 : c = 2
    · subst c2
      rw [if_pos rfl]
      refine ⟨I, z_q233_e _ _ ⟨_, _, _, _, p1, _, _, _, _, p2, 11 * 3 + i, z_o33 i, by omega, _, _, _, _, p0, fun h => n0 h, fun _ => ⟨fun _ => ?_, fun h => absurd rfl h⟩⟩, z_ag_rf⟩
      rw [e41]
      rcases (by omega : i = 0 ∨ i = 1 ∨ i = 2 ∨ i = 3) with rfl | rfl | rfl | rfl
      · exact ⟨fun _ => ⟨fun _ => ⟨fun _ => rfl, fun h => absurd h (by decide)⟩, fun h => absurd h (by decide)⟩, fun h => absurd h (by decide)⟩
      · exact ⟨fun h => absurd (by decide) h, fun _ => ⟨fun _ => ⟨fun _ => rfl, fun h => absurd h (by decide)⟩, fun h => absurd h (by decide)⟩⟩
      · exact ⟨fun h => absurd (by decide) h, fun _ => ⟨fun h => absurd (by decide) h, fun _ => ⟨fun _ => rfl, fun h => absurd h (by decide)⟩⟩⟩
      · exact ⟨fun h => absurd (by decide) h, fun _ => ⟨fun h => absurd (by decide) h, fun _ => ⟨fun h => absurd (by decide) h, fun _ => rfl⟩⟩⟩
    · rw [if_neg c2]
      have n2 : ∀ {P : Prop}, Int32.ofNat c = 2 → P := fun h => absurd ((z_oeq (b := 2) (by omega) (by decide)).mp h) c2
      have key : ∀ j u, u + j = i → z_ev (d + 5) (233, 152, [some (z_r 33 0), some (z_i (Int32.ofNat s)), some (z_i (Int32.ofNat i)), some (z_i a), some (z_i b), some (z_i (I 41 0 (11 * 3 + i))), some (z_i (z_dg a u)), none, none, none, some (z_i (Int32.ofNat u))], [], (true, X, I, J)) (some (z_i (z_gvd a i)), (true, X, I, J)) := by
        intro j
        induction j with
        | zero =>
          intro u hu
          obtain rfl : u = i := by omega
          exact z_q233_152 _ _ _ _ _ _ _ ⟨fun _ => rfl, fun h => absurd ((z_olt (by omega) (by omega)).mp h) (by omega)⟩
        | succ j ih =>
          intro u hu
          exact z_q233_152 _ _ _ _ _ _ _ ⟨fun h => absurd ((z_ole (by omega) (by omega)).mp h) (by omega), fun _ => by rw [z_os]; exact ih (u + 1) (by omega)⟩
      exact ⟨I, z_q233_e _ _ ⟨_, _, _, _, p1, _, _, _, _, p2, 11 * 3 + i, z_o33 i, by omega, _, _, _, _, p0, fun h => n0 h, fun _ => ⟨fun h => n2 h, fun _ => key i 0 (by omega)⟩⟩, z_ag_rf⟩
end
/-- promise 32 -/
theorem z_op_gives (x w1 : Int32) : z_op 97 234 [z_i x, z_i w1] := by
  intro X I J hR
  have hR0 := hR
  obtain ⟨⟨n1, n2, n3, n4, ⟨k, s1, s2, s3, s4⟩⟩, -, -, -, -, -, -, r8⟩ := hR
  have eb : z_bw x 0 (I 33 0 8 - 1) = z_lt0 x (I 1 0 5) := by rw [z_bw_lt s3 (by omega), s3, s2]
  cases ha : z_lt0 x (I 1 0 5) with
  | false =>
    have fa : ∀ {P : Prop}, z_lt0 x (I 1 0 5) = true → P := fun h => by rw [ha] at h; cases h
    exact ⟨z_j (-1000000000000), X, X, I, I, J, J, z_q97_e (d := 58) x w1 ⟨fun _ => rfl, fun h => fa h⟩, z_q234_e (d := 54) x w1 ⟨fun _ => rfl, fun h => fa (by rw [← eb]; exact h)⟩, hR0, Nat.le_succ _, Nat.le_add_right _ _, rfl⟩
  | true =>
    have fa : ∀ {P : Prop}, z_lt0 x (I 1 0 5) = false → P := fun h => by rw [ha] at h; cases h
    obtain ⟨s, hs, rfl⟩ := z_lt0n ha s2 (by omega)
    cases hb : z_bw w1 0 3 with
    | false =>
      have fb : ∀ {P : Prop}, 0 ≤ w1 → w1 < 4 → P := fun h1 h2 => by
        obtain ⟨j, hj, rfl⟩ := z_nat (n := 4) h1 h2 (by decide)
        rw [show z_bw (Int32.ofNat j) 0 3 = true from z_bw_of (m := 3) (by omega) (by decide)] at hb
        cases hb
      exact ⟨z_j (-1000000000000), X, X, I, I, J, J, z_q97_e (d := 58) _ w1 ⟨fun h => fa h, fun _ => ⟨fun _ => rfl, fun h1 => ⟨fun h2 => fb h1 h2, fun _ => rfl⟩⟩⟩, z_q234_e (d := 54) _ w1 ⟨fun _ => rfl, fun _ => ⟨fun _ => rfl, fun h => by rw [hb] at h; cases h⟩⟩, hR0, Nat.le_succ _, Nat.le_add_right _ _, rfl⟩
    | true =>
      have fb : ∀ {P : Prop}, z_bw w1 0 3 = false → P := fun h => by rw [hb] at h; cases h
      obtain ⟨i, hi, rfl⟩ := z_bw3 hb
      obtain ⟨q, c, t1, t2, t3, t4, t5, t6, t7, t8, t9, t10, t11⟩ := s4 s hs
      have p148 := z_p148 (d := 58) (X := X) (I := I) (J := J) t1 t4 t5 t8 t9 hi
      obtain ⟨I', d1, d2⟩ := z_p233 (d := 54) (X := X) (I := I) (J := J) r8 (s := s) (by omega) t4 t11 t6 rfl rfl hi
      exact ⟨_, X, X, I, I', J, J, z_q97_e (d := 58) _ _ ⟨fun h => fa h, fun _ => ⟨fun h => absurd (z_on0 i (by omega)) (Int32.not_le.mpr h), fun _ => ⟨fun _ => ⟨s, rfl, by omega, q, t2, _, _, _, _, p148, rfl⟩, fun h => absurd ((z_ole (a := 4) (by decide) (by omega)).mp h) (by omega)⟩⟩⟩, z_q234_e (d := 54) _ _ ⟨fun h => fa (by rw [← eb]; exact h), fun _ => ⟨fun h => fb h, fun _ => ⟨_, _, _, _, d1, rfl⟩⟩⟩, z_R_0 hR0 d2 rfl rfl, Nat.le_succ _, Nat.le_add_right _ _, z_67_ag d2 rfl⟩
