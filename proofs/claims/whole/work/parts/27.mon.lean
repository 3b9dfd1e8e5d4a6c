/-! the memory only grows; a call's place -/
theorem z_new_mono {M M' : z_M} {a t i : Nat} (h : z_new M a = some (M', t, i)) : z_nc M ≤ z_nc M' ∧ z_sl M ≤ z_sl M' := by
  unfold z_new at h
  dsimp only at h
  cases hM : M.1 with
  | true =>
    rw [hM] at h
    cases hm : (([0, 3, 5, 6] : List Nat).contains a) with
    | false => rw [hm] at h; cases h
    | true =>
      rw [hm] at h
      simp only [cond_true, Option.some.injEq, Prod.mk.injEq] at h
      obtain ⟨e1, -⟩ := h
      subst e1
      refine ⟨?_, ?_⟩
      · unfold z_nc
        rw [hM]
        show 102 + M.2.1.1 ≤ 102 + (M.2.1.1 + 1)
        omega
      · show M.2.1.2.1 ≤ M.2.1.2.1 + _
        omega
  | false =>
    rw [hM] at h
    cases hm : decide (z_tc (z_un M.2.1.1).1 = some a) with
    | false => rw [hm] at h; cases h
    | true =>
      rw [hm] at h
      simp only [cond_true, cond_false, Option.some.injEq, Prod.mk.injEq] at h
      obtain ⟨e1, -⟩ := h
      subst e1
      refine ⟨?_, ?_⟩
      · unfold z_nc
        rw [hM]
        show M.2.1.1 ≤ M.2.1.1 + 1
        omega
      · show M.2.1.2.1 ≤ M.2.1.2.1 + _
        omega
theorem z_newa_mono {M M' : z_M} {a t i : Nat} {x : Int32} (h : z_newa M a x = some (M', t, i)) : z_nc M ≤ z_nc M' ∧ z_sl M ≤ z_sl M' := by
  unfold z_newa at h
  cases hM : M.1 with
  | true => rw [hM] at h; cases h
  | false =>
    rw [hM] at h
    dsimp only [cond_false] at h
    split at h
    · cases h
    · next e1 n1 hta =>
      cases hm : (Nat.beq e1 a && z_in x (n1 + 1) && Nat.beq x.toNatClampNeg n1) with
      | false => rw [hm] at h; cases h
      | true =>
        rw [hm] at h
        simp only [cond_true, Option.some.injEq, Prod.mk.injEq] at h
        obtain ⟨e2, -⟩ := h
        subst e2
        refine ⟨?_, ?_⟩
        · unfold z_nc
          rw [hM]
          show M.2.1.1 ≤ M.2.1.1 + 1
          omega
        · show M.2.1.2.1 ≤ M.2.1.2.1 + _
          omega
set_option maxHeartbeats 4000000 in
theorem z_step_mono {y pc : Nat} {ls : List (Option z_V)} {st : List z_V} {M : z_M} {c' : z_C} (h : z_step (y, pc, ls, st, M) = Sum.inl c') : c'.1 = y ∧ z_nc M ≤ z_nc c'.2.2.2.2 ∧ z_sl M ≤ z_sl c'.2.2.2.2 := by
  cases hcd : z_cd y pc with
  | none =>
    exfalso
    simp only [z_step, hcd] at h
    cases h
  | some q9 =>
    obtain ⟨ins, len, ⟨a, b, e', f⟩, ki, kj⟩ := q9
    have key : ∀ {c2 : z_C}, (z_nx c2 : z_S) = Sum.inl c' → (c2.1 = y ∧ z_nc M ≤ z_nc c2.2.2.2.2 ∧ z_sl M ≤ z_sl c2.2.2.2.2) → c'.1 = y ∧ z_nc M ≤ z_nc c'.2.2.2.2 ∧ z_sl M ≤ z_sl c'.2.2.2.2 := by
      intro c2 e1 e2
      cases e1
      exact e2
    cases ins with
    | putfield _ =>
      simp only [z_step, hcd] at h
      split at h
      · simp only [Bool.cond_eq_ite] at h
        (repeat' split at h) <;> first | (cases h; done) | exact key h ⟨rfl, Nat.le_refl _, Nat.le_refl _⟩
      · simp only [Bool.cond_eq_ite] at h
        (repeat' split at h) <;> first | (cases h; done) | exact key h ⟨rfl, Nat.le_refl _, Nat.le_refl _⟩
      · next x t i r =>
        cases hg : (decide (z_tc t = some e') && Nat.beq b 2 && Nat.blt x.1 64 && (bif M.1 then false else true) && z_g M t i) with
        | false => rw [hg] at h; cases h
        | true =>
          rw [hg] at h
          simp only [Bool.and_eq_true] at hg
          have h5 := hg.1.2
          have hM : M.1 = false := by
            cases hq : M.1 with
            | false => rfl
            | true => rw [hq] at h5; cases h5
          cases hdn : z_done M.2.1.1 (z_up M.2.1.2.2.2 t i a (some x)) with
          | true =>
            simp only [cond_true, hdn] at h
            refine key h ⟨rfl, ?_, Nat.le_refl _⟩
            have h102 := (z_done_spec hdn).1
            unfold z_nc
            rw [hM, h102]
            exact Nat.le_refl _
          | false =>
            simp only [cond_true, hdn, cond_false] at h
            refine key h ⟨rfl, ?_, Nat.le_refl _⟩
            unfold z_nc
            rw [hM]
            exact Nat.le_refl _
      · cases h
    | new _ =>
      simp only [z_step, hcd] at h
      split at h
      · next M' t i hnew => exact key h ⟨rfl, z_new_mono hnew⟩
      · cases h
    | newarray _ =>
      simp only [z_step, hcd] at h
      split at h
      · split at h
        · next M' t i hnew => exact key h ⟨rfl, z_newa_mono hnew⟩
        · cases h
      · cases h
    | anewarray _ =>
      simp only [z_step, hcd] at h
      split at h
      · split at h
        · next M' t i hnew => exact key h ⟨rfl, z_newa_mono hnew⟩
        · cases h
      · cases h
    | invokespecial _ =>
      simp only [z_step, hcd, z_inv, Bool.cond_eq_ite] at h
      (repeat' split at h) <;> first | (cases h; done) | exact key h ⟨rfl, Nat.le_refl _, Nat.le_refl _⟩
    | invokestatic _ =>
      simp only [z_step, hcd, z_inv, Bool.cond_eq_ite] at h
      (repeat' split at h) <;> first | (cases h; done) | exact key h ⟨rfl, Nat.le_refl _, Nat.le_refl _⟩
    | invokevirtual _ =>
      simp only [z_step, hcd, z_inv, Bool.cond_eq_ite] at h
      (repeat' split at h) <;> first | (cases h; done) | exact key h ⟨rfl, Nat.le_refl _, Nat.le_refl _⟩
    | ifCond cnd off =>
      cases cnd <;> (simp only [z_step, hcd] at h; split at h <;> first | (cases h; done) | exact key h ⟨rfl, Nat.le_refl _, Nat.le_refl _⟩)
    | if_icmp cnd off =>
      cases cnd <;> (simp only [z_step, hcd] at h; split at h <;> first | (cases h; done) | exact key h ⟨rfl, Nat.le_refl _, Nat.le_refl _⟩)
    | _ =>
      simp only [z_step, hcd, Bool.cond_eq_ite] at h
      first
        | (cases h; done)
        | exact key h ⟨rfl, Nat.le_refl _, Nat.le_refl _⟩
        | ((repeat' split at h) <;> first | (cases h; done) | exact key h ⟨rfl, Nat.le_refl _, Nat.le_refl _⟩)
