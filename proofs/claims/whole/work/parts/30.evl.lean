/-! runs: more fuel, more depth; one step, many steps, guards, branches, calls -/
theorem z_rn_le : ∀ (n m d : Nat) (cf : z_C) (r : Option z_V × z_M), n ≤ m → z_rn n d cf = some r → z_rn m d cf = some r := by
  intro n
  induction n with
  | zero => intro m d cf r _ h; simp [z_rn] at h
  | succ n ih =>
    intro m d cf r hm h
    obtain ⟨m1, rfl⟩ : ∃ m1, m = m1 + 1 := ⟨m - 1, by omega⟩
    have hm1 : n ≤ m1 := by omega
    simp only [z_rn] at h ⊢
    split at h
    · next c1 hs =>
      exact ih m1 d c1 r hm1 h
    · exact h
    · next y1 as1 y0 pc0 ls0 st0 M1 hs =>
      split at h
      · cases h
      · next d1 =>
        cases hg : (Nat.ble (z_la as1).length (z_ml y1) && z_pl y1) with
        | false => rw [hg] at h; cases h
        | true =>
          rw [hg] at h
          simp only [cond_true] at h ⊢
          split at h
          · cases h
          · next v1 M2 hc =>
            rw [ih m1 d1 _ _ hm1 hc]
            exact ih m1 (d1 + 1) _ r hm1 h
    · cases h
theorem z_rn_dp : ∀ (n d e : Nat) (cf : z_C) (r : Option z_V × z_M), d ≤ e → z_rn n d cf = some r → z_rn n e cf = some r := by
  intro n
  induction n with
  | zero => intro d e cf r _ h; simp [z_rn] at h
  | succ n ih =>
    intro d e cf r hm h
    simp only [z_rn] at h ⊢
    split at h
    · next c1 hs =>
      exact ih d e c1 r hm h
    · exact h
    · next y1 as1 y0 pc0 ls0 st0 M1 hs =>
      split at h
      · cases h
      · next d1 =>
        obtain ⟨e1, rfl⟩ : ∃ e1, e = e1 + 1 := ⟨e - 1, by omega⟩
        have hm1 : d1 ≤ e1 := by omega
        cases hg : (Nat.ble (z_la as1).length (z_ml y1) && z_pl y1) with
        | false => rw [hg] at h; cases h
        | true =>
          rw [hg] at h
          simp only [cond_true] at h ⊢
          split at h
          · cases h
          · next v1 M2 hc =>
            rw [ih d1 e1 _ _ hm1 hc]
            exact ih (d1 + 1) (e1 + 1) _ r hm h
    · cases h
section
variable {d : Nat} {cf c1 c2 : z_C} {r : Option z_V × z_M} {b : Bool}
theorem z_ev_dp {e : Nat} (h : z_ev d cf r) (hd : d ≤ e) : z_ev e cf r := by
  obtain ⟨n, h⟩ := h
  exact ⟨n, z_rn_dp n d e cf r hd h⟩
theorem z_ev_st (h : z_step cf = Sum.inl c1) (k : z_ev d c1 r) : z_ev d cf r := by
  obtain ⟨n, k⟩ := k
  refine ⟨n + 1, ?_⟩
  simp only [z_rn, h]
  exact k
theorem z_ev_rt (h : z_step cf = Sum.inr (Sum.inl r)) : z_ev d cf r := by
  refine ⟨1, ?_⟩
  simp only [z_rn, h]
theorem z_ev_ok (h : z_step cf = (bif b then Sum.inl c1 else z_er)) (hb : b = true) (k : z_ev d c1 r) : z_ev d cf r := by
  subst hb
  exact z_ev_st h k
/-- many plain steps -/
noncomputable def z_gs : Nat → z_C → z_S
  | 0, cf => Sum.inl cf
  | n + 1, cf => match z_step cf with
    | Sum.inl c' => z_gs n c'
    | q => q
theorem z_ev_gs : ∀ (n : Nat) {cf c1 : z_C} (_ : z_gs n cf = Sum.inl c1) (_ : z_ev d c1 r), z_ev d cf r := by
  intro n
  induction n with
  | zero =>
    intro cf c1 h k
    have h : cf = c1 := Sum.inl.inj h
    rw [h]; exact k
  | succ n ih =>
    intro cf c1 h k
    simp only [z_gs] at h
    split at h
    · next c' hs => exact z_ev_st hs (ih h k)
    · next hq => exact absurd h (fun q1 => hq _ q1)
/-- plain steps, then an answer -/
theorem z_ev_gr : ∀ (n : Nat) {cf : z_C} (_ : z_gs n cf = Sum.inr (Sum.inl r)), z_ev d cf r := by
  intro n
  induction n with
  | zero => intro cf h; cases h
  | succ n ih =>
    intro cf h
    simp only [z_gs] at h
    split at h
    · next c' hs => exact z_ev_st hs (ih h)
    · exact z_ev_rt h
/-- plain steps, then a guard -/
theorem z_ev_go : ∀ (n : Nat) {cf c1 : z_C} (_ : z_gs n cf = (bif b then Sum.inl c1 else z_er)) (_ : b = true) (_ : z_ev d c1 r), z_ev d cf r := by
  intro n cf c1 h hb k
  subst hb
  exact z_ev_gs n h k
/-- a branch -/
theorem z_ev_if {P : Prop} [Decidable P] {y p1 p2 : Nat} {ls : List (Option z_V)} {st : List z_V} {M : z_M} (h1 : P → z_ev d (y, p1, ls, st, M) r) (h2 : ¬ P → z_ev d (y, p2, ls, st, M) r) : z_ev d (y, (if P then p1 else p2), ls, st, M) r := by
  by_cases h : P
  · rw [if_pos h]; exact h1 h
  · rw [if_neg h]; exact h2 h
/-- a call -/
theorem z_ev_ca {y y0 pc : Nat} {as1 : List z_V} {ls : List (Option z_V)} {st : List z_V} {M M1 : z_M} {v : Option z_V} (h : z_step cf = z_ca y as1 (y0, pc, ls, st, M)) (hg : (Nat.ble (z_la as1).length (z_ml y) && z_pl y) = true)
    (hc : z_ev d (z_en y as1 M) (v, M1)) (k : z_ev (d + 1) (y0, pc, ls, v.toList ++ st, M1) r) : z_ev (d + 1) cf r := by
  obtain ⟨n1, hc⟩ := hc
  obtain ⟨n2, k⟩ := k
  refine ⟨(n1 + n2) + 1, ?_⟩
  simp only [z_rn, h, hg, cond_true]
  rw [z_rn_le n1 (n1 + n2) d _ _ (by omega) hc]
  exact z_rn_le n2 (n1 + n2) (d + 1) _ _ (by omega) k
/-- plain steps, then a call -/
theorem z_ev_gc : ∀ (n : Nat) {cf : z_C} {y y0 pc : Nat} {as1 : List z_V} {ls : List (Option z_V)} {st : List z_V} {M M1 : z_M} {v : Option z_V} (_ : z_gs n cf = z_ca y as1 (y0, pc, ls, st, M)) (_ : (Nat.ble (z_la as1).length (z_ml y) && z_pl y) = true)
    (_ : z_ev d (z_en y as1 M) (v, M1)) (_ : z_ev (d + 1) (y0, pc, ls, v.toList ++ st, M1) r), z_ev (d + 1) cf r := by
  intro n
  induction n with
  | zero => intro cf y y0 pc as1 ls st M M1 v h; cases h
  | succ n ih =>
    intro cf y y0 pc as1 ls st M M1 v h hg hc k
    simp only [z_gs] at h
    split at h
    · next c' hs => exact z_ev_st hs (ih h hg hc k)
    · exact z_ev_ca h hg hc k
end
