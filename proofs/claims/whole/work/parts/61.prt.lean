/-! a part is added: chances with it are cleared -/
def z_zc (f : Nat → Nat → Nat → Int32) (t k : Nat) : Nat → Nat → Nat → Nat → Int32
  | 0 => f
  | n + 1 => z_up (z_up (z_zc f t k n) t 0 (5 * n + k) 0) t 0 (5 * k + n) 0
theorem z_zc_t {f : Nat → Nat → Nat → Int32} {t k u : Nat} (h : u ≠ t) : ∀ n, z_zc f t k n u = f u := by
  intro n
  induction n with
  | zero => rfl
  | succ n ih => unfold z_zc; rw [z_up_t h, z_up_t h, ih]
theorem z_zc_at {f : Nat → Nat → Nat → Int32} {t k j : Nat} : ∀ n, z_zc f t k n t 0 j = if (∃ o, o < n ∧ (j = 5 * o + k ∨ j = 5 * k + o)) then 0 else f t 0 j := by
  intro n
  induction n with
  | zero => rw [if_neg (by rintro ⟨o, h, -⟩; omega)]; rfl
  | succ n ih =>
    unfold z_zc
    by_cases h1 : j = 5 * k + n
    · rw [h1, z_up_e, if_pos ⟨n, by omega, Or.inr rfl⟩]
    · rw [z_up_j h1]
      by_cases h2 : j = 5 * n + k
      · rw [h2, z_up_e, if_pos ⟨n, by omega, Or.inl rfl⟩]
      · rw [z_up_j h2, ih]
        by_cases h3 : ∃ o, o < n ∧ (j = 5 * o + k ∨ j = 5 * k + o)
        · rw [if_pos h3, if_pos]
          obtain ⟨o, q1, q2⟩ := h3
          exact ⟨o, by omega, q2⟩
        · rw [if_neg h3, if_neg]
          rintro ⟨o, q1, q2⟩
          by_cases ho : o = n
          · subst ho; omega
          · exact h3 ⟨o, by omega, q2⟩
theorem z_zc_ag {cs : List Nat} {I I' : Nat → Nat → Nat → Int32} {t k : Nat} (h : z_ag cs I I') (hp : ∀ j, cs.contains (z_cp t 0 j) = true) : ∀ n, z_ag cs I (z_zc I' t k n) := by
  intro n
  induction n with
  | zero => exact h
  | succ n ih => exact z_ag_up (z_ag_up ih (hp _)) (hp _)
section
variable {d : Nat} {X : z_X} {I : Nat → Nat → Nat → Int32} {J : Nat → Nat → Nat → Int64}
theorem z_p6 {k : Nat} (hk : k < 5) (e : I 4 0 2 = Int32.ofNat k) (w1 : Int32) : z_ev (d + 1) (z_en 6 [z_r 4 0, z_i w1] (true, X, I, J)) (some (z_i (Int32.ofNat k)), (true, X, z_zc (z_up (z_up I 5 0 k w1) 4 0 2 (Int32.ofNat (k + 1))) 6 k (k + 1), J)) := by
  refine z_q6_e w1 ⟨k, e, hk, ?_⟩
  rw [e, z_os]
  have key : ∀ j o, o + j = k + 1 → z_ev (d + 1) (6, 21, [some (z_r 4 0), some (z_i w1), some (z_i (Int32.ofNat k)), some (z_i (Int32.ofNat o))], [], (true, X, z_zc (z_up (z_up I 5 0 k w1) 4 0 2 (Int32.ofNat (k + 1))) 6 k o, J)) (some (z_i (Int32.ofNat k)), (true, X, z_zc (z_up (z_up I 5 0 k w1) 4 0 2 (Int32.ofNat (k + 1))) 6 k (k + 1), J)) := by
    intro j
    induction j with
    | zero =>
      intro o ho
      obtain rfl : o = k + 1 := by omega
      refine z_q6_21 w1 _ _ ⟨fun _ => rfl, fun h => ?_⟩
      rw [z_zc_t (by decide)] at h
      exact absurd ((z_olt (by omega) (by omega)).mp h) (by omega)
    | succ j ih =>
      intro o ho
      refine z_q6_21 w1 _ _ ⟨fun h => ?_, fun h => ⟨_, _, _, z_p8 (a := o) (b := k) (by omega) hk 0, ?_⟩⟩
      · rw [z_zc_t (by decide)] at h
        exact absurd ((z_ole (by omega) (by omega)).mp h) (by omega)
      · rw [z_os]
        exact ih (o + 1) (by omega)
  exact key (k + 1) 0 (by omega)
theorem z_l211 {k : Nat} (hk : k < 5) (e : I 33 0 4 = Int32.ofNat k) (w1 : Int32) : z_ev (d + 1) (211, 35, [some (z_r 33 0), some (z_i w1), some (z_i 0)], [], (true, X, I, J)) (some (z_i (Int32.ofNat k)), (true, X, z_up (z_zc I 38 k (k + 1)) 33 0 4 (Int32.ofNat (k + 1)), J)) := by
  have key : ∀ j o, o + j = k + 1 → z_ev (d + 1) (211, 35, [some (z_r 33 0), some (z_i w1), some (z_i (Int32.ofNat o))], [], (true, X, z_zc I 38 k o, J)) (some (z_i (Int32.ofNat k)), (true, X, z_up (z_zc I 38 k (k + 1)) 33 0 4 (Int32.ofNat (k + 1)), J)) := by
    intro j
    induction j with
    | zero =>
      intro o ho
      obtain rfl : o = k + 1 := by omega
      refine z_q211_35 w1 _ ⟨fun _ => ?_, fun h => ?_⟩
      · rw [z_zc_t (by decide), e, z_os]
        congr 3
        rw [Int32.ofNat_add]
        exact (Int32.add_sub_cancel _ _).symm
      · rw [z_zc_t (by decide), e] at h
        exact absurd ((z_ole (by omega) (by omega)).mp h) (by omega)
    | succ j ih =>
      intro o ho
      refine z_q211_35 w1 _ ⟨fun h => ?_, fun h => ⟨5 * o + k, ?_, by omega, 5 * k + o, ?_, by omega, ?_⟩⟩
      · rw [z_zc_t (by decide), e] at h
        exact absurd ((z_olt (by omega) (by omega)).mp h) (by omega)
      · rw [z_zc_t (by decide), e]; exact z_o5 o k
      · rw [z_zc_t (by decide), e]; exact z_o5 k o
      · rw [z_os]
        exact ih (o + 1) (by omega)
  exact key (k + 1) 0 (by omega)
end
