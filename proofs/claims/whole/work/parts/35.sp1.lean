/-! leaves: what they answer; printed by wip/whole/emit_seg.py -/
def z_bw (v a b : Int32) : Bool := decide (a ≤ v) && decide (v ≤ b)
def z_lt0 (v n : Int32) : Bool := decide (0 ≤ v) && decide (v < n)
def z_fo (m : Int32) : Int32 := if m = 1 then 1 else if m = 2 then 2 else if m = 3 then 4 else if m = 4 then 11 else 0
def z_pr (m : Int32) : Int32 := m * (m - 1) / 2
theorem z_bw_t {v a b : Int32} : z_bw v a b = true ↔ a ≤ v ∧ v ≤ b := by simp [z_bw]
theorem z_bw_f {v a b : Int32} : z_bw v a b = false ↔ v < a ∨ b < v := by
  rw [← Bool.not_eq_true, z_bw_t, Decidable.not_and_iff_or_not, Int32.not_le, Int32.not_le]
theorem z_lt0_t {v n : Int32} : z_lt0 v n = true ↔ 0 ≤ v ∧ v < n := by simp [z_lt0]
theorem z_lt0_f {v n : Int32} : z_lt0 v n = false ↔ v < 0 ∨ n ≤ v := by
  rw [← Bool.not_eq_true, z_lt0_t, Decidable.not_and_iff_or_not, Int32.not_le, Int32.not_lt]
theorem z_b1 {b : Bool} {M : z_M} (h : b = true) : (some (z_i (z_c b)), M) = ((some (z_i 1), M) : Option z_V × z_M) := by rw [h]; rfl
theorem z_b0 {b : Bool} {M : z_M} (h : b = false) : (some (z_i (z_c b)), M) = ((some (z_i 0), M) : Option z_V × z_M) := by rw [h]; rfl
theorem z_t_0 : (0 : Int32).toInt = 0 := rfl
theorem z_t_1 : (1 : Int32).toInt = 1 := rfl
theorem z_t_2 : (2 : Int32).toInt = 2 := rfl
theorem z_t_3 : (3 : Int32).toInt = 3 := rfl
theorem z_t_4 : (4 : Int32).toInt = 4 := rfl
theorem z_t_9 : (9 : Int32).toInt = 9 := rfl
theorem z_t_10 : (10 : Int32).toInt = 10 := rfl
theorem z_t_48 : (48 : Int32).toInt = 48 := rfl
theorem z_t_57 : (57 : Int32).toInt = 57 := rfl
theorem z_t_97 : (97 : Int32).toInt = 97 := rfl
theorem z_t_122 : (122 : Int32).toInt = 122 := rfl
section
variable {d : Nat} {X : z_X} {I : Nat → Nat → Nat → Int32} {J : Nat → Nat → Nat → Int64}

theorem z_p118 (x0 : Int32) : z_ev d (z_en 118 [z_i (x0)] (true, X, I, J)) (some (z_i (z_c (z_bw x0 0 3))), (true, X, I, J)) := by
  refine z_q118_e x0 ?_
  repeat' (first | apply And.intro | intro hh)
  all_goals first
    | (exact z_b1 rfl)
    | (refine z_b1 ?_; simp only [z_bw_t, z_bw_f, z_lt0_t, z_lt0_f, Int32.le_iff_toInt_le, Int32.lt_iff_toInt_lt, ← Int32.toInt_inj, Bool.and_eq_true, Bool.and_eq_false_iff, z_t_0, z_t_1, z_t_2, z_t_3, z_t_4, z_t_9, z_t_10, z_t_48, z_t_57, z_t_97, z_t_122] at *; omega)
    | (refine z_b0 ?_; simp only [z_bw_t, z_bw_f, z_lt0_t, z_lt0_f, Int32.le_iff_toInt_le, Int32.lt_iff_toInt_lt, ← Int32.toInt_inj, Bool.and_eq_true, Bool.and_eq_false_iff, z_t_0, z_t_1, z_t_2, z_t_3, z_t_4, z_t_9, z_t_10, z_t_48, z_t_57, z_t_97, z_t_122] at *; omega)
    | rfl

theorem z_p122 (x0 : Int32) : z_ev d (z_en 122 [z_i (x0)] (true, X, I, J)) (some (z_i (z_c (z_bw x0 0 3))), (true, X, I, J)) := by
  refine z_q122_e x0 ?_
  repeat' (first | apply And.intro | intro hh)
  all_goals first
    | (exact z_b1 rfl)
    | (refine z_b1 ?_; simp only [z_bw_t, z_bw_f, z_lt0_t, z_lt0_f, Int32.le_iff_toInt_le, Int32.lt_iff_toInt_lt, ← Int32.toInt_inj, Bool.and_eq_true, Bool.and_eq_false_iff, z_t_0, z_t_1, z_t_2, z_t_3, z_t_4, z_t_9, z_t_10, z_t_48, z_t_57, z_t_97, z_t_122] at *; omega)
    | (refine z_b0 ?_; simp only [z_bw_t, z_bw_f, z_lt0_t, z_lt0_f, Int32.le_iff_toInt_le, Int32.lt_iff_toInt_lt, ← Int32.toInt_inj, Bool.and_eq_true, Bool.and_eq_false_iff, z_t_0, z_t_1, z_t_2, z_t_3, z_t_4, z_t_9, z_t_10, z_t_48, z_t_57, z_t_97, z_t_122] at *; omega)
    | rfl

theorem z_p123 (x0 : Int32) : z_ev d (z_en 123 [z_i (x0)] (true, X, I, J)) (some (z_i (z_c (z_bw x0 0 3))), (true, X, I, J)) := by
  refine z_q123_e x0 ?_
  repeat' (first | apply And.intro | intro hh)
  all_goals first
    | (exact z_b1 rfl)
    | (refine z_b1 ?_; simp only [z_bw_t, z_bw_f, z_lt0_t, z_lt0_f, Int32.le_iff_toInt_le, Int32.lt_iff_toInt_lt, ← Int32.toInt_inj, Bool.and_eq_true, Bool.and_eq_false_iff, z_t_0, z_t_1, z_t_2, z_t_3, z_t_4, z_t_9, z_t_10, z_t_48, z_t_57, z_t_97, z_t_122] at *; omega)
    | (refine z_b0 ?_; simp only [z_bw_t, z_bw_f, z_lt0_t, z_lt0_f, Int32.le_iff_toInt_le, Int32.lt_iff_toInt_lt, ← Int32.toInt_inj, Bool.and_eq_true, Bool.and_eq_false_iff, z_t_0, z_t_1, z_t_2, z_t_3, z_t_4, z_t_9, z_t_10, z_t_48, z_t_57, z_t_97, z_t_122] at *; omega)
    | rfl

theorem z_p124 (x0 : Int32) : z_ev d (z_en 124 [z_i (x0)] (true, X, I, J)) (some (z_i (z_c (z_bw x0 0 3))), (true, X, I, J)) := by
  refine z_q124_e x0 ?_
  repeat' (first | apply And.intro | intro hh)
  all_goals first
    | (exact z_b1 rfl)
    | (refine z_b1 ?_; simp only [z_bw_t, z_bw_f, z_lt0_t, z_lt0_f, Int32.le_iff_toInt_le, Int32.lt_iff_toInt_lt, ← Int32.toInt_inj, Bool.and_eq_true, Bool.and_eq_false_iff, z_t_0, z_t_1, z_t_2, z_t_3, z_t_4, z_t_9, z_t_10, z_t_48, z_t_57, z_t_97, z_t_122] at *; omega)
    | (refine z_b0 ?_; simp only [z_bw_t, z_bw_f, z_lt0_t, z_lt0_f, Int32.le_iff_toInt_le, Int32.lt_iff_toInt_lt, ← Int32.toInt_inj, Bool.and_eq_true, Bool.and_eq_false_iff, z_t_0, z_t_1, z_t_2, z_t_3, z_t_4, z_t_9, z_t_10, z_t_48, z_t_57, z_t_97, z_t_122] at *; omega)
    | rfl

theorem z_p121 (x0 : Int32) : z_ev d (z_en 121 [z_i (x0)] (true, X, I, J)) (some (z_i (z_c (z_bw x0 0 1))), (true, X, I, J)) := by
  refine z_q121_e x0 ?_
  repeat' (first | apply And.intro | intro hh)
  all_goals first
    | (exact z_b1 rfl)
    | (refine z_b1 ?_; simp only [z_bw_t, z_bw_f, z_lt0_t, z_lt0_f, Int32.le_iff_toInt_le, Int32.lt_iff_toInt_lt, ← Int32.toInt_inj, Bool.and_eq_true, Bool.and_eq_false_iff, z_t_0, z_t_1, z_t_2, z_t_3, z_t_4, z_t_9, z_t_10, z_t_48, z_t_57, z_t_97, z_t_122] at *; omega)
    | (refine z_b0 ?_; simp only [z_bw_t, z_bw_f, z_lt0_t, z_lt0_f, Int32.le_iff_toInt_le, Int32.lt_iff_toInt_lt, ← Int32.toInt_inj, Bool.and_eq_true, Bool.and_eq_false_iff, z_t_0, z_t_1, z_t_2, z_t_3, z_t_4, z_t_9, z_t_10, z_t_48, z_t_57, z_t_97, z_t_122] at *; omega)
    | rfl

theorem z_p158 (x0 : Int32) (x1 : Int32) (x2 : Int32) : z_ev d (z_en 158 [z_i (x0), z_i (x1), z_i (x2)] (true, X, I, J)) (some (z_i (z_c (z_bw x0 x1 x2))), (true, X, I, J)) := by
  refine z_q158_e x0 x1 x2 ?_
  repeat' (first | apply And.intro | intro hh)
  all_goals first
    | (exact z_b1 rfl)
    | (refine z_b1 ?_; simp only [z_bw_t, z_bw_f, z_lt0_t, z_lt0_f, Int32.le_iff_toInt_le, Int32.lt_iff_toInt_lt, ← Int32.toInt_inj, Bool.and_eq_true, Bool.and_eq_false_iff, z_t_0, z_t_1, z_t_2, z_t_3, z_t_4, z_t_9, z_t_10, z_t_48, z_t_57, z_t_97, z_t_122] at *; omega)
    | (refine z_b0 ?_; simp only [z_bw_t, z_bw_f, z_lt0_t, z_lt0_f, Int32.le_iff_toInt_le, Int32.lt_iff_toInt_lt, ← Int32.toInt_inj, Bool.and_eq_true, Bool.and_eq_false_iff, z_t_0, z_t_1, z_t_2, z_t_3, z_t_4, z_t_9, z_t_10, z_t_48, z_t_57, z_t_97, z_t_122] at *; omega)
    | rfl

theorem z_p54 (x0 : Int32) : z_ev d (z_en 54 [z_i (x0)] (true, X, I, J)) (some (z_i (z_c (z_bw x0 97 122))), (true, X, I, J)) := by
  refine z_q54_e x0 ?_
  repeat' (first | apply And.intro | intro hh)
  all_goals first
    | (exact z_b1 rfl)
    | (refine z_b1 ?_; simp only [z_bw_t, z_bw_f, z_lt0_t, z_lt0_f, Int32.le_iff_toInt_le, Int32.lt_iff_toInt_lt, ← Int32.toInt_inj, Bool.and_eq_true, Bool.and_eq_false_iff, z_t_0, z_t_1, z_t_2, z_t_3, z_t_4, z_t_9, z_t_10, z_t_48, z_t_57, z_t_97, z_t_122] at *; omega)
    | (refine z_b0 ?_; simp only [z_bw_t, z_bw_f, z_lt0_t, z_lt0_f, Int32.le_iff_toInt_le, Int32.lt_iff_toInt_lt, ← Int32.toInt_inj, Bool.and_eq_true, Bool.and_eq_false_iff, z_t_0, z_t_1, z_t_2, z_t_3, z_t_4, z_t_9, z_t_10, z_t_48, z_t_57, z_t_97, z_t_122] at *; omega)
    | rfl

theorem z_p55 (x0 : Int32) : z_ev d (z_en 55 [z_i (x0)] (true, X, I, J)) (some (z_i (z_c (z_bw x0 48 57))), (true, X, I, J)) := by
  refine z_q55_e x0 ?_
  repeat' (first | apply And.intro | intro hh)
  all_goals first
    | (exact z_b1 rfl)
    | (refine z_b1 ?_; simp only [z_bw_t, z_bw_f, z_lt0_t, z_lt0_f, Int32.le_iff_toInt_le, Int32.lt_iff_toInt_lt, ← Int32.toInt_inj, Bool.and_eq_true, Bool.and_eq_false_iff, z_t_0, z_t_1, z_t_2, z_t_3, z_t_4, z_t_9, z_t_10, z_t_48, z_t_57, z_t_97, z_t_122] at *; omega)
    | (refine z_b0 ?_; simp only [z_bw_t, z_bw_f, z_lt0_t, z_lt0_f, Int32.le_iff_toInt_le, Int32.lt_iff_toInt_lt, ← Int32.toInt_inj, Bool.and_eq_true, Bool.and_eq_false_iff, z_t_0, z_t_1, z_t_2, z_t_3, z_t_4, z_t_9, z_t_10, z_t_48, z_t_57, z_t_97, z_t_122] at *; omega)
    | rfl

theorem z_p120 (x1 : Int32) : z_ev d (z_en 120 [z_r 0 0, z_i (x1)] (true, X, I, J)) (some (z_i (z_c (z_lt0 x1 (I 1 0 5)))), (true, X, I, J)) := by
  refine z_q120_e x1 ?_
  repeat' (first | apply And.intro | intro hh)
  all_goals first
    | (exact z_b1 rfl)
    | (refine z_b1 ?_; simp only [z_bw_t, z_bw_f, z_lt0_t, z_lt0_f, Int32.le_iff_toInt_le, Int32.lt_iff_toInt_lt, ← Int32.toInt_inj, Bool.and_eq_true, Bool.and_eq_false_iff, z_t_0, z_t_1, z_t_2, z_t_3, z_t_4, z_t_9, z_t_10, z_t_48, z_t_57, z_t_97, z_t_122] at *; omega)
    | (refine z_b0 ?_; simp only [z_bw_t, z_bw_f, z_lt0_t, z_lt0_f, Int32.le_iff_toInt_le, Int32.lt_iff_toInt_lt, ← Int32.toInt_inj, Bool.and_eq_true, Bool.and_eq_false_iff, z_t_0, z_t_1, z_t_2, z_t_3, z_t_4, z_t_9, z_t_10, z_t_48, z_t_57, z_t_97, z_t_122] at *; omega)
    | rfl

theorem z_p5 (x1 : Int32) : z_ev d (z_en 5 [z_r 4 0, z_i (x1)] (true, X, I, J)) (some (z_i (z_c (z_lt0 x1 (I 4 0 2)))), (true, X, I, J)) := by
  refine z_q5_e x1 ?_
  repeat' (first | apply And.intro | intro hh)
  all_goals first
    | (exact z_b1 rfl)
    | (refine z_b1 ?_; simp only [z_bw_t, z_bw_f, z_lt0_t, z_lt0_f, Int32.le_iff_toInt_le, Int32.lt_iff_toInt_lt, ← Int32.toInt_inj, Bool.and_eq_true, Bool.and_eq_false_iff, z_t_0, z_t_1, z_t_2, z_t_3, z_t_4, z_t_9, z_t_10, z_t_48, z_t_57, z_t_97, z_t_122] at *; omega)
    | (refine z_b0 ?_; simp only [z_bw_t, z_bw_f, z_lt0_t, z_lt0_f, Int32.le_iff_toInt_le, Int32.lt_iff_toInt_lt, ← Int32.toInt_inj, Bool.and_eq_true, Bool.and_eq_false_iff, z_t_0, z_t_1, z_t_2, z_t_3, z_t_4, z_t_9, z_t_10, z_t_48, z_t_57, z_t_97, z_t_122] at *; omega)
    | rfl

theorem z_p125 (x1 : Int32) (x2 : Int32) : z_ev d (z_en 125 [z_r 0 0, z_i (x1), z_i (x2)] (true, X, I, J)) (some (z_i (z_c (z_lt0 x1 (I 0 0 7) && z_bw x2 0 1))), (true, X, I, J)) := by
  refine z_q125_e x1 x2 ?_
  repeat' (first | apply And.intro | intro hh)
  all_goals first
    | (exact z_b1 rfl)
    | (refine z_b1 ?_; simp only [z_bw_t, z_bw_f, z_lt0_t, z_lt0_f, Int32.le_iff_toInt_le, Int32.lt_iff_toInt_lt, ← Int32.toInt_inj, Bool.and_eq_true, Bool.and_eq_false_iff, z_t_0, z_t_1, z_t_2, z_t_3, z_t_4, z_t_9, z_t_10, z_t_48, z_t_57, z_t_97, z_t_122] at *; omega)
    | (refine z_b0 ?_; simp only [z_bw_t, z_bw_f, z_lt0_t, z_lt0_f, Int32.le_iff_toInt_le, Int32.lt_iff_toInt_lt, ← Int32.toInt_inj, Bool.and_eq_true, Bool.and_eq_false_iff, z_t_0, z_t_1, z_t_2, z_t_3, z_t_4, z_t_9, z_t_10, z_t_48, z_t_57, z_t_97, z_t_122] at *; omega)
    | rfl

theorem z_p126 (x : Int32) : z_ev d (z_en 126 [z_i x] (true, X, I, J)) (some (z_i (z_pr x)), (true, X, I, J)) := z_q126_e x rfl
theorem z_p159 (x : Int32) : z_ev d (z_en 159 [z_i x] (true, X, I, J)) (some (z_i (z_pr x)), (true, X, I, J)) := z_q159_e x rfl
theorem z_p127 (x : Int32) : z_ev d (z_en 127 [z_i x] (true, X, I, J)) (some (z_i (z_fo x)), (true, X, I, J)) := by
  refine z_q127_e x ?_
  repeat' (first | apply And.intro | intro hh)
  all_goals first | (subst hh; rfl) | (unfold z_fo; simp only [*, reduceIte])
end
