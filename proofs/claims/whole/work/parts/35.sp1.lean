/-! leaves: what they answer -/
def z_bw (v a b : Int32) : Bool := decide (a ≤ v) && decide (v ≤ b)
theorem z_bw_t {v a b : Int32} : z_bw v a b = true ↔ a ≤ v ∧ v ≤ b := by simp [z_bw]
theorem z_bw_f {v a b : Int32} : z_bw v a b = false ↔ v < a ∨ b < v := by
  rw [← Bool.not_eq_true, z_bw_t, Decidable.not_and_iff_or_not, Int32.not_le, Int32.not_le]
theorem z_b1 {b : Bool} {M : z_M} (h : b = true) : (some (z_i (z_c b)), M) = ((some (z_i 1), M) : Option z_V × z_M) := by rw [h]; rfl
theorem z_b0 {b : Bool} {M : z_M} (h : b = false) : (some (z_i (z_c b)), M) = ((some (z_i 0), M) : Option z_V × z_M) := by rw [h]; rfl
theorem z_tI : (0 : Int32).toInt = 0 ∧ (1 : Int32).toInt = 1 ∧ (3 : Int32).toInt = 3 ∧ (4 : Int32).toInt = 4 := ⟨rfl, rfl, rfl, rfl⟩
section
variable {d : Nat} {X : z_X} {I : Nat → Nat → Nat → Int32} {J : Nat → Nat → Nat → Int64}
theorem z_p118 (x : Int32) : z_ev (d + 1) (z_en 118 [z_i x] (true, X, I, J)) (some (z_i (z_c (z_bw x 0 3))), (true, X, I, J)) := by
  obtain ⟨e0, e1, e3, e4⟩ := z_tI
  refine z_q118_e x ?_
  refine ⟨fun h1 => z_b0 (z_bw_f.mpr (Or.inl h1)), fun h1 => ⟨fun h2 => z_b0 (z_bw_f.mpr (Or.inr ?_)), fun h2 => z_b1 (z_bw_t.mpr ⟨h1, ?_⟩)⟩⟩
  · rw [Int32.lt_iff_toInt_lt] at *; rw [Int32.le_iff_toInt_le] at *; omega
  · rw [Int32.le_iff_toInt_le] at *; rw [Int32.lt_iff_toInt_lt] at h2; omega
end
