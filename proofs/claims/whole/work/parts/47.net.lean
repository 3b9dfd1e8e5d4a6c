/-! nets as masks -/
def z_sb (m b : Nat) (is1 : Bool) : Nat := bif is1 then m ||| 2 ^ b else m &&& (1023 - 2 ^ b)
theorem z_bs_nat : ∀ m, m < 1024 → ∀ b, b < 10 → z_bs (Int32.ofNat m) b true = Int32.ofNat (m ||| 2 ^ b) ∧ z_bs (Int32.ofNat m) b false = Int32.ofNat (m &&& (1023 - 2 ^ b)) := by decide +kernel
theorem z_bt_nat : ∀ m, m < 1024 → ∀ b, b < 10 → z_bt (Int32.ofNat m) b = m.testBit b := by decide +kernel
theorem z_bs_sb {m b : Nat} (hm : m < 1024) (hb : b < 10) (is1 : Bool) : z_bs (Int32.ofNat m) b is1 = Int32.ofNat (z_sb m b is1) := by
  cases is1
  · exact (z_bs_nat m hm b hb).2
  · exact (z_bs_nat m hm b hb).1
theorem z_tb_lt {m c : Nat} (hm : m < 1024) (hc : 10 ≤ c) : m.testBit c = false := Nat.testBit_lt_two_pow (Nat.lt_of_lt_of_le (show m < 2 ^ 10 from hm) (Nat.pow_le_pow_right (n := 2) (by decide) hc))
theorem z_cb_tb : ∀ b, b < 10 → ∀ c, c < 10 → (1023 - 2 ^ b).testBit c = decide (c ≠ b) := by decide +kernel
theorem z_sb_tb {m b : Nat} (hm : m < 1024) (hb : b < 10) (is1 : Bool) (c : Nat) : (z_sb m b is1).testBit c = if c = b then is1 else m.testBit c := by
  cases is1
  · show (m &&& (1023 - 2 ^ b)).testBit c = _
    rw [Nat.testBit_and]
    by_cases hc : c < 10
    · rw [z_cb_tb b hb c hc]
      by_cases h : c = b
      · rw [if_pos h, decide_eq_false (fun q => q h), Bool.and_false]
      · rw [if_neg h, decide_eq_true h, Bool.and_true]
    · rw [z_tb_lt hm (by omega), if_neg (by omega)]; rfl
  · show (m ||| 2 ^ b).testBit c = _
    rw [Nat.testBit_or, Nat.testBit_two_pow]
    by_cases h : c = b
    · rw [if_pos h, decide_eq_true h.symm, Bool.or_true]
    · rw [if_neg h, decide_eq_false (fun q => h q.symm), Bool.or_false]
theorem z_sb_lt {m b : Nat} (hm : m < 1024) (hb : b < 10) (is1 : Bool) : z_sb m b is1 < 1024 := by
  cases is1
  · exact Nat.lt_of_le_of_lt Nat.and_le_left hm
  · refine Nat.or_lt_two_pow (n := 10) hm ?_
    exact Nat.pow_lt_pow_right (by decide) hb
def z_ms (m : Nat → Nat) (a b : Nat) (is1 : Bool) : Nat → Nat := fun p => if p = a then z_sb (m a) b is1 else if p = b then z_sb (m b) a is1 else m p
theorem z_ms_tb {m : Nat → Nat} {a b : Nat} (hm : ∀ p, p < 10 → m p < 1024) (ha : a < 10) (hb : b < 10) (hab : a ≠ b) (is1 : Bool) (p c : Nat) : (z_ms m a b is1 p).testBit c = if (p = a ∧ c = b) ∨ (p = b ∧ c = a) then is1 else (m p).testBit c := by
  unfold z_ms
  by_cases h1 : p = a
  · rw [if_pos h1, z_sb_tb (hm a ha) hb]
    by_cases h2 : c = b
    · rw [if_pos h2, if_pos (Or.inl ⟨h1, h2⟩)]
    · rw [if_neg h2, if_neg (by omega), h1]
  · rw [if_neg h1]
    by_cases h3 : p = b
    · rw [if_pos h3, z_sb_tb (hm b hb) ha]
      by_cases h4 : c = a
      · rw [if_pos h4, if_pos (Or.inr ⟨h3, h4⟩)]
      · rw [if_neg h4, if_neg (by omega), h3]
    · rw [if_neg h3, if_neg (by omega)]
theorem z_wfm_ms {s a b : Nat} {m : Nat → Nat} (hs : s ≤ 10) (h : z_wfm s m) (ha : a < s) (hb : b < s) (hab : a ≠ b) (is1 : Bool) : z_wfm s (z_ms m a b is1) := by
  obtain ⟨h1, h2⟩ := h
  refine ⟨fun p hp => ?_, fun p c hp hc => ?_⟩
  · unfold z_ms
    split
    · exact z_sb_lt (h1 a (by omega)) (by omega) is1
    · split
      · exact z_sb_lt (h1 b (by omega)) (by omega) is1
      · exact h1 p hp
  · rw [z_ms_tb h1 (by omega) (by omega) hab] at hc ⊢
    by_cases g : (p = a ∧ c = b) ∨ (p = b ∧ c = a)
    · rw [if_pos g] at hc
      rw [if_pos (by omega)]
      refine ⟨by omega, by omega, by omega, hc⟩
    · rw [if_neg g] at hc
      rw [if_neg (by omega)]
      exact h2 p c hp hc
theorem z_wfm_0 (s : Nat) : z_wfm s (fun _ => 0) := ⟨fun _ _ => Nat.le_of_ble_eq_true rfl, fun p b _ h => by simp at h⟩
/-- a row of roads after a road is set -/
theorem z_sr_at {f : Nat → Nat → Nat → Int32} {t i o a b : Nat} {m : Nat → Nat} (hm : ∀ p, p < 10 → m p < 1024) (hf : ∀ p, p < 10 → f t i (o + p) = Int32.ofNat (m p)) (ha : a < 10) (hb : b < 10) (hab : a ≠ b) (is1 : Bool) {p : Nat} (hp : p < 10) : z_sr f t i o a b is1 t i (o + p) = Int32.ofNat (z_ms m a b is1 p) := by
  unfold z_sr z_ms
  by_cases h1 : p = b
  · subst h1
    rw [z_up_e, z_up_j (by omega), if_neg (fun q => hab q.symm), if_pos rfl, hf p hp, z_bs_sb (hm p hp) ha]
  · rw [z_up_j (by omega)]
    by_cases h2 : p = a
    · subst h2
      rw [z_up_e, if_pos rfl, hf p hp, z_bs_sb (hm p hp) hb]
    · rw [z_up_j (by omega), if_neg h2, if_neg h1, hf p hp]
theorem z_sr_j {f : Nat → Nat → Nat → Int32} {t i o a b c : Nat} {is1 : Bool} (h1 : c ≠ o + a) (h2 : c ≠ o + b) : z_sr f t i o a b is1 t i c = f t i c := by
  unfold z_sr
  rw [z_up_j h2, z_up_j h1]
theorem z_sr_i {f : Nat → Nat → Nat → Int32} {t i o a b u : Nat} {is1 : Bool} (h : u ≠ i) : z_sr f t i o a b is1 t u = f t u := by
  unfold z_sr
  rw [z_up_i h, z_up_i h]
theorem z_sm_eq {f g : Nat → Int32} {n : Nat} (h : ∀ p, p < n → f p = g p) : z_sm f n = z_sm g n := by
  induction n with
  | zero => rfl
  | succ n ih =>
    unfold z_sm
    rw [ih (fun p hp => h p (by omega)), h n (by omega)]
/-- the relation of nets when one of them changes on both sides -/
theorem z_Rn_up {sz sz' po po' ro ro' : Nat → Int32} {rw1 rw1' : Nat → Nat → Int32} (h : z_Rn sz rw1 po ro) {n s : Nat} {m : Nat → Nat} (h1 : 1 ≤ s) (h2 : s ≤ 10) (hm : z_wfm s m) (e1 : sz' n = Int32.ofNat s) (e2 : po' n = Int32.ofNat s) (e3 : ∀ p, p < 10 → rw1' n p = Int32.ofNat (m p) ∧ ro' (10 * n + p) = Int32.ofNat (m p))
    (o1 : ∀ u, u < 4 → u ≠ n → sz' u = sz u ∧ po' u = po u ∧ ∀ p, p < 10 → rw1' u p = rw1 u p ∧ ro' (10 * u + p) = ro (10 * u + p)) : z_Rn sz' rw1' po' ro' := by
  intro u hu
  by_cases hun : u = n
  · subst hun
    exact ⟨s, m, h1, h2, hm, e1, e2, e3⟩
  · obtain ⟨s9, m9, g1, g2, g3, g4, g5, g6⟩ := h u hu
    obtain ⟨q1, q2, q3⟩ := o1 u hu hun
    refine ⟨s9, m9, g1, g2, g3, q1.trans g4, q2.trans g5, fun p hp => ⟨(q3 p hp).1.trans (g6 p hp).1, (q3 p hp).2.trans (g6 p hp).2⟩⟩
