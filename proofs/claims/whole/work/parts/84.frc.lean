/-! fractions in lowest terms -/
/-- from (x, y) Euclid comes to an end after n steps -/
def z_eu : Nat → Nat → Nat → Prop
  | 0, _, y => y = 0
  | n + 1, x, y => y ≠ 0 ∧ z_eu n y (x % y)
theorem z_eu_ex : ∀ k x y, y < 2 ^ k → ∃ n, n ≤ 2 * k ∧ z_eu n x y
  | 0, x, y, h => ⟨0, Nat.le_refl _, by show y = 0; rw [Nat.pow_zero] at h; omega⟩
  | k + 1, x, y, h => by
    by_cases h0 : y = 0
    · exact ⟨0, Nat.zero_le _, h0⟩
    · by_cases h1 : x % y = 0
      · exact ⟨1, by omega, h0, h1⟩
      · have h2 : x % y < y := Nat.mod_lt _ (by omega)
        have h3 : y % (x % y) < x % y := Nat.mod_lt _ (by omega)
        have h4 : y % (x % y) + (x % y) ≤ y := by
          have h5 := Nat.mod_add_div y (x % y)
          have h6 : 1 ≤ y / (x % y) := Nat.div_pos (Nat.le_of_lt h2) (by omega)
          have h7 : x % y ≤ x % y * (y / (x % y)) := Nat.le_mul_of_pos_right _ h6
          omega
        rw [Nat.pow_succ] at h
        obtain ⟨n, hn, he⟩ := z_eu_ex k (x % y) (y % (x % y)) (by omega)
        exact ⟨n + 2, by omega, h0, h1, he⟩
theorem z_jmod {a b : Nat} (ha : a < 2 ^ 63) (hb : b < 2 ^ 63) : Int64.ofNat a - Int64.ofNat a / Int64.ofNat b * Int64.ofNat b = Int64.ofNat (a % b) := by
  rw [← Int64.ofNat_div ha hb, ← Int64.ofNat_mul, ← Int64.ofNat_sub _ _ (Nat.div_mul_le_self a b)]
  congr 1
  have h := Nat.mod_add_div a b
  rw [Nat.mul_comm] at h
  omega
theorem z_jne {b : Nat} (hb : b < 2 ^ 63) (h : b ≠ 0) : ¬ Int64.ofNat b = 0 := by
  intro e
  have h1 := congrArg Int64.toNatClampNeg e
  rw [Int64.toNatClampNeg_ofNat_of_lt hb] at h1
  exact h h1
theorem z_jcmp {b : Nat} (hb : b < 2 ^ 63) : lg_cmp (Int64.ofNat b) 0 = 0 ↔ b = 0 := by
  rw [z_lc0]
  constructor
  · intro h
    by_cases h0 : b = 0
    · exact h0
    · exact absurd h (z_jne hb h0)
  · intro h; rw [h]; rfl
section
variable {d : Nat} {X : z_X} {I : Nat → Nat → Nat → Int32} {J : Nat → Nat → Nat → Int64}
theorem z_l132 (l0 l2 : Int64) : ∀ n a b u, z_eu n a b → a < 2 ^ 63 → b < 2 ^ 63 → u + n < 200 → ∀ o9, z_ev d (132, 9, [some (z_j l0), none, some (z_j l2), none, some (z_j (Int64.ofNat a)), none, some (z_j (Int64.ofNat b)), none, some (z_i (Int32.ofNat u)), o9, none], [], (true, X, I, J)) (some (z_j (Int64.ofNat (Nat.gcd a b))), (true, X, I, J)) := by
  intro n
  induction n with
  | zero =>
    intro a b u he ha hb hu o9
    obtain rfl : b = 0 := he
    refine z_q132_9 _ _ _ _ _ o9 ⟨fun h => absurd ((z_ole (a := 200) (by decide) (by omega)).mp h) (by omega), fun _ => ⟨fun _ => ?_, fun h => absurd ((z_jcmp (by decide)).mpr rfl) h⟩⟩
    rw [Nat.gcd_zero_right]
  | succ n ih =>
    intro a b u he ha hb hu o9
    obtain ⟨h0, he⟩ := he
    have hlt : a % b < b := Nat.mod_lt _ (by omega)
    have h9 := ih b (a % b) (u + 1) he hb (by omega) (by omega) (some (z_j (Int64.ofNat (a % b))))
    refine z_q132_9 _ _ _ _ _ o9 ⟨fun h => absurd ((z_ole (a := 200) (by decide) (by omega)).mp h) (by omega), fun _ => ⟨fun h => absurd ((z_jcmp hb).mp h) h0, fun _ => ⟨z_jne hb h0, ?_⟩⟩⟩
    rw [z_jmod ha hb, z_os, show Nat.gcd a b = Nat.gcd b (a % b) from by rw [Nat.gcd_comm a b, Nat.gcd_rec b a, Nat.gcd_comm]]
    exact h9
theorem z_p132 {a b : Nat} (ha : a < 2 ^ 63) (hb : b < 2 ^ 63) : z_ev d (z_en 132 [z_j (Int64.ofNat a), z_j (Int64.ofNat b)] (true, X, I, J)) (some (z_j (Int64.ofNat (Nat.gcd a b))), (true, X, I, J)) := by
  obtain ⟨n, hn, he⟩ := z_eu_ex 63 a b hb
  exact z_q132_e _ _ (z_l132 _ _ n a b 0 he ha hb (by omega) none)
theorem z_l198 (l1 l3 : Int64) : ∀ n a b, z_eu n a b → a < 2 ^ 63 → b < 2 ^ 63 → Nat.gcd a b ≠ 0 → ∀ o9, z_ev d (198, 17, [some (z_r 33 0), some (z_j l1), none, some (z_j l3), none, some (z_j (Int64.ofNat a)), none, some (z_j (Int64.ofNat b)), none, o9, none], [], (true, X, I, J)) (none, (true, X, I, z_up (z_up J 33 0 26 (l1 / Int64.ofNat (Nat.gcd a b))) 33 0 27 (l3 / Int64.ofNat (Nat.gcd a b)))) := by
  intro n
  induction n with
  | zero =>
    intro a b he ha hb hg o9
    obtain rfl : b = 0 := he
    rw [Nat.gcd_zero_right] at hg ⊢
    exact z_q198_17 _ _ _ _ o9 ⟨fun _ => ⟨z_jne ha hg, z_jne ha hg, rfl⟩, fun h => absurd ((z_jcmp (by decide)).mpr rfl) h⟩
  | succ n ih =>
    intro a b he ha hb hg o9
    obtain ⟨h0, he⟩ := he
    have hlt : a % b < b := Nat.mod_lt _ (by omega)
    have eg : Nat.gcd a b = Nat.gcd b (a % b) := by rw [Nat.gcd_comm a b, Nat.gcd_rec b a, Nat.gcd_comm]
    have h9 := ih b (a % b) he hb (by omega) (by rw [← eg]; exact hg) (some (z_j (Int64.ofNat (a % b))))
    refine z_q198_17 _ _ _ _ o9 ⟨fun h => absurd ((z_jcmp hb).mp h) h0, fun _ => ⟨z_jne hb h0, ?_⟩⟩
    rw [z_jmod ha hb, eg]
    exact h9
theorem z_abs {l : Int64} (h : l ≠ Int64.minValue) : ∃ a, a < 2 ^ 63 ∧ (if 0 < l then l else -l) = Int64.ofNat a ∧ (0 ≤ l → l = Int64.ofNat a) ∧ (l < 0 → -l = Int64.ofNat a) := by
  have hmin : ¬ l.toInt = -2 ^ 63 := fun q => h (Int64.toInt_inj.mp q)
  have hlo := Int64.le_toInt l
  have hhi := Int64.toInt_lt l
  by_cases h0 : 0 ≤ l
  · have e := Int64.ofNat_toNatClampNeg l h0
    refine ⟨l.toNatClampNeg, Int64.toNatClampNeg_lt l, ?_, fun _ => e.symm, fun q => absurd h0 (Int64.not_le.mpr q)⟩
    split
    · exact e.symm
    · next h1 =>
      have h2 : l = 0 := by
        rw [Int64.le_iff_toInt_le] at h0
        rw [Int64.lt_iff_toInt_lt] at h1
        apply Int64.toInt_inj.mp
        have z0 : (0 : Int64).toInt = 0 := rfl
        omega
      rw [h2]; rfl
  · have h1 : l < 0 := Int64.not_le.mp h0
    have z0 : (0 : Int64).toInt = 0 := rfl
    have h2 : l.toInt < 0 := by rw [Int64.lt_iff_toInt_lt] at h1; omega
    have e : (-l).toInt = -l.toInt := by
      rw [Int64.toInt_neg]
      exact Int.bmod_eq_of_le (by omega) (by omega)
    have h3 : 0 ≤ -l := by rw [Int64.le_iff_toInt_le]; omega
    have e2 := Int64.ofNat_toNatClampNeg (-l) h3
    refine ⟨(-l).toNatClampNeg, Int64.toNatClampNeg_lt _, ?_, fun q => absurd q h0, fun _ => e2.symm⟩
    rw [if_neg (fun q => h0 (Int64.le_of_lt q))]
    exact e2.symm
/-- what both tell of a fraction -/
def z_frv (l : Int64) (b : Nat) (g : Nat) (x : Int32) : Int64 := if x = 0 then l / Int64.ofNat g else Int64.ofNat b / Int64.ofNat g
theorem z_frc {l : Int64} (h : l ≠ Int64.minValue) {b : Nat} (hb1 : 1 ≤ b) (hb : b < 2 ^ 63) : ∃ g : Nat, ∀ (d : Nat) (X : z_X) (I : Nat → Nat → Nat → Int32) (J : Nat → Nat → Nat → Int64) (x : Int32),
    z_ev (d + 1) (z_en 131 [z_j l, z_j (Int64.ofNat b), z_i x] (true, X, I, J)) (some (z_j (z_frv l b g x)), (true, X, I, J)) ∧ z_ev d (z_en 198 [z_r 33 0, z_j l, z_j (Int64.ofNat b)] (true, X, I, J)) (none, (true, X, I, z_up (z_up J 33 0 26 (l / Int64.ofNat g)) 33 0 27 (Int64.ofNat b / Int64.ofNat g))) := by
  obtain ⟨a, ha, e1, e2, e3⟩ := z_abs h
  refine ⟨Nat.gcd a b, fun d X I J x => ?_⟩
  have g1 : 0 < Nat.gcd a b := Nat.gcd_pos_of_pos_right _ (by omega)
  have g2 : Nat.gcd a b < 2 ^ 63 := Nat.lt_of_le_of_lt (Nat.gcd_le_right _ (by omega)) hb
  have gne := z_jne g2 (by omega)
  have gc : lg_cmp (Int64.ofNat (Nat.gcd a b)) 0 = 1 := by
    unfold lg_cmp
    rw [if_pos]
    exact (Int64.ofNat_lt_iff_lt (a := 0) (by decide) g2).mpr g1
  constructor
  · refine z_q131_e _ _ x ⟨_, _, _, _, by rw [e1]; exact z_p132 ha hb, fun _ => ⟨fun hx => ⟨gne, ?_⟩, fun hx => ⟨gne, ?_⟩⟩, fun hc => ?_⟩
    · unfold z_frv; rw [if_neg hx]
    · unfold z_frv; rw [if_pos hx]
    · rw [gc] at hc; exact absurd hc (by decide)
  · obtain ⟨n, hn, he⟩ := z_eu_ex 63 a b hb
    have h9 := z_l198 (d := d) (X := X) (I := I) (J := J) l (Int64.ofNat b) n a b he ha hb (by omega) none
    refine z_q198_e _ _ ⟨fun hc => ?_, fun hc => ?_⟩
    · have h0 := (lg_cmp_ge l 0).mp hc
      rw [← e2 h0] at h9
      exact h9
    · have h0 : l < 0 := by
        rw [← Int64.not_le]
        exact fun q => absurd ((lg_cmp_ge l 0).mpr q) (Int32.not_le.mpr hc)
      rw [← e3 h0] at h9
      exact h9
theorem z_p199 {l : Int64} {b g : Nat} (x : Int32) : z_ev d (z_en 199 [z_r 33 0, z_i x] (true, X, I, z_up (z_up J 33 0 26 (l / Int64.ofNat g)) 33 0 27 (Int64.ofNat b / Int64.ofNat g))) (some (z_j (z_frv l b g x)), (true, X, I, z_up (z_up J 33 0 26 (l / Int64.ofNat g)) 33 0 27 (Int64.ofNat b / Int64.ofNat g))) := by
  refine z_q199_e x ⟨fun h => ?_, fun h => ?_⟩
  · unfold z_frv; rw [if_neg h, z_up_e]
  · unfold z_frv; rw [if_pos h, z_up_j (by decide), z_up_e]
end
