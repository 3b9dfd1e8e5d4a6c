/-! the script stays as it is; answers by their types -/
theorem z_up_67 {f : Nat → Nat → Nat → Int32} {t i j : Nat} {v : Int32} (h : t ≠ 67) : z_up f t i j v 67 = f 67 := by
  funext b c
  show (if 67 = t ∧ b = i ∧ c = j then v else f 67 b c) = f 67 b c
  rw [if_neg (fun q => h q.1.symm)]
theorem z_zr_67 {f : Nat → Nat → Nat → Int32} {t i : Nat} {v : Int32} (h : t ≠ 67) : z_zr f t i v 67 = f 67 := by
  funext b c
  show (if 67 = t ∧ b = i then v else f 67 b c) = f 67 b c
  rw [if_neg (fun q => h q.1.symm)]
theorem z_tc_n67 : z_tc 67 = none := by decide +kernel
theorem z_ta_n67 : z_ta 67 = none := by decide +kernel
theorem z_tc_67 {t e : Nat} (h : z_tc t = some e) : t ≠ 67 := by
  intro q
  rw [q, z_tc_n67] at h
  cases h
theorem z_ta_67 {t : Nat} {q9 : Nat × Nat} (h : z_ta t = some q9) : t ≠ 67 := by
  intro q
  rw [q, z_ta_n67] at h
  cases h
theorem z_new_67 {M M' : z_M} {a t i : Nat} (h : z_new M a = some (M', t, i)) : M'.2.2.1 67 = M.2.2.1 67 := by
  unfold z_new at h
  dsimp only at h
  cases hM : M.1 with
  | true =>
    rw [hM] at h
    cases hm : (([0, 3, 5, 6] : List Nat).contains a) with
    | false => rw [hm] at h; cases h
    | true =>
      rw [hm] at h
      simp only [cond_true, Option.some.injEq, Prod.mk.injEq] at h
      obtain ⟨e1, -⟩ := h
      subst e1
      show z_zr M.2.2.1 32 M.2.1.1 0 67 = M.2.2.1 67
      exact z_zr_67 (by decide)
  | false =>
    rw [hM] at h
    cases hm : decide (z_tc (z_un M.2.1.1).1 = some a) with
    | false => rw [hm] at h; cases h
    | true =>
      rw [hm] at h
      simp only [cond_true, cond_false, Option.some.injEq, Prod.mk.injEq] at h
      obtain ⟨e1, -⟩ := h
      subst e1
      show z_zr M.2.2.1 (z_un M.2.1.1).1 (z_un M.2.1.1).2 0 67 = M.2.2.1 67
      exact z_zr_67 (z_tc_67 (of_decide_eq_true hm))
theorem z_newa_67 {M M' : z_M} {a t i : Nat} {x : Int32} (h : z_newa M a x = some (M', t, i)) : M'.2.2.1 67 = M.2.2.1 67 := by
  unfold z_newa at h
  cases hM : M.1 with
  | true => rw [hM] at h; cases h
  | false =>
    rw [hM] at h
    dsimp only [cond_false] at h
    split at h
    · cases h
    · next e1 n1 hta =>
      cases hm : (Nat.beq e1 a && z_in x (n1 + 1) && Nat.beq x.toNatClampNeg n1) with
      | false => rw [hm] at h; cases h
      | true =>
        rw [hm] at h
        simp only [cond_true, Option.some.injEq, Prod.mk.injEq] at h
        obtain ⟨e2, -⟩ := h
        subst e2
        show z_zr M.2.2.1 (z_un M.2.1.1).1 (z_un M.2.1.1).2 0 67 = M.2.2.1 67
        exact z_zr_67 (z_ta_67 hta)
set_option maxHeartbeats 4000000 in
theorem z_step_67 {y pc : Nat} {ls : List (Option z_V)} {st : List z_V} {M : z_M} {c' : z_C} (h : z_step (y, pc, ls, st, M) = Sum.inl c') : c'.2.2.2.2.2.2.1 67 = M.2.2.1 67 := by
  cases hcd : z_cd y pc with
  | none =>
    exfalso
    simp only [z_step, hcd] at h
    cases h
  | some q9 =>
    obtain ⟨ins, len, ⟨a, b, e', f⟩, ki, kj⟩ := q9
    have key : ∀ {c2 : z_C}, (z_nx c2 : z_S) = Sum.inl c' → c2.2.2.2.2.2.2.1 67 = M.2.2.1 67 → c'.2.2.2.2.2.2.1 67 = M.2.2.1 67 := by
      intro c2 e1 e2
      cases e1
      exact e2
    cases ins with
    | putfield _ =>
      simp only [z_step, hcd] at h
      split at h
      · next x t i r =>
        cases hg : ((bif Nat.beq t 32 then Nat.beq e' 3 else decide (z_tc t = some e')) && (Nat.beq b 0 || (Nat.beq b 3 && z_nr 1 x)) && z_g M t i) with
        | false => rw [hg] at h; cases h
        | true =>
          rw [hg] at h
          simp only [cond_true] at h
          refine key h (z_up_67 ?_)
          simp only [Bool.and_eq_true] at hg
          have h1 := hg.1.1
          intro e9
          rw [e9] at h1
          have h1 : decide (z_tc 67 = some e') = true := h1
          exact z_tc_67 (of_decide_eq_true h1) rfl
      · simp only [Bool.cond_eq_ite] at h
        (repeat' split at h) <;> first | (cases h; done) | exact key h rfl
      · simp only [Bool.cond_eq_ite] at h
        (repeat' split at h) <;> first | (cases h; done) | exact key h rfl
      · cases h
    | iastore =>
      simp only [z_step, hcd] at h
      split at h
      · split at h
        · next hta =>
          simp only [Bool.cond_eq_ite] at h
          split at h
          · exact key h (z_up_67 (z_ta_67 hta))
          · cases h
        · cases h
      · cases h
    | new _ =>
      simp only [z_step, hcd] at h
      split at h
      · next M' t i hnew => exact key h (z_new_67 hnew)
      · cases h
    | newarray _ =>
      simp only [z_step, hcd] at h
      split at h
      · split at h
        · next M' t i hnew => exact key h (z_newa_67 hnew)
        · cases h
      · cases h
    | anewarray _ =>
      simp only [z_step, hcd] at h
      split at h
      · split at h
        · next M' t i hnew => exact key h (z_newa_67 hnew)
        · cases h
      · cases h
    | invokespecial _ =>
      simp only [z_step, hcd, z_inv, Bool.cond_eq_ite] at h
      (repeat' split at h) <;> first | (cases h; done) | exact key h rfl
    | invokestatic _ =>
      simp only [z_step, hcd, z_inv, Bool.cond_eq_ite] at h
      (repeat' split at h) <;> first | (cases h; done) | exact key h rfl
    | invokevirtual _ =>
      simp only [z_step, hcd, z_inv, Bool.cond_eq_ite] at h
      (repeat' split at h) <;> first | (cases h; done) | exact key h rfl
    | ifCond cnd off =>
      cases cnd <;> (simp only [z_step, hcd] at h; split at h <;> first | (cases h; done) | exact key h rfl)
    | if_icmp cnd off =>
      cases cnd <;> (simp only [z_step, hcd] at h; split at h <;> first | (cases h; done) | exact key h rfl)
    | _ =>
      simp only [z_step, hcd, Bool.cond_eq_ite] at h
      first
        | (cases h; done)
        | exact key h rfl
        | ((repeat' split at h) <;> first | (cases h; done) | exact key h rfl)
theorem z_rn_67 : ∀ (n d : Nat) (cf : z_C) (r : Option z_V × z_M), z_rn n d cf = some r → r.2.2.2.1 67 = cf.2.2.2.2.2.2.1 67 := by
  intro n
  induction n with
  | zero => intro d cf r h; simp [z_rn] at h
  | succ n ih =>
    intro d cf r h
    obtain ⟨y, pc, ls, st, M⟩ := cf
    simp only [z_rn] at h
    split at h
    · next c1 hs => exact (ih d c1 r h).trans (z_step_67 hs)
    · next r1 hs =>
      cases h
      obtain ⟨hM, -⟩ := z_step_rt hs
      exact congrArg (fun q : z_M => q.2.2.1 67) hM
    · next y1 as1 y0 pc0 ls0 st0 M1 hs =>
      obtain ⟨-, hM, -⟩ := z_step_ca hs
      have hM : M1 = M := hM
      subst hM
      split at h
      · cases h
      · simp only [Bool.cond_eq_ite] at h
        split at h
        · split at h
          · cases h
          · next v1 M2 hc =>
            have h1 := ih _ _ _ hc
            have h3 := ih _ _ _ h
            exact h3.trans h1
        · cases h
    · cases h
theorem z_ev_67 {d y : Nat} {as1 : List z_V} {M M' : z_M} {v : Option z_V} (h : z_ev d (z_en y as1 M) (v, M')) : M'.2.2.1 67 = M.2.2.1 67 := by
  obtain ⟨n, h⟩ := h
  exact z_rn_67 n d _ _ h
/-- an answer comes from a place of its own method -/
theorem z_rn_rt : ∀ (n d : Nat) (cf : z_C) (r : Option z_V × z_M), z_rn n d cf = some r → ∃ (pc : Nat) (ls : List (Option z_V)) (st : List z_V) (M : z_M), z_step (cf.1, pc, ls, st, M) = Sum.inr (Sum.inl r) := by
  intro n
  induction n with
  | zero => intro d cf r h; simp [z_rn] at h
  | succ n ih =>
    intro d cf r h
    obtain ⟨y, pc, ls, st, M⟩ := cf
    simp only [z_rn] at h
    split at h
    · next c1 hs =>
      obtain ⟨e1, -⟩ := z_step_mono hs
      obtain ⟨pc1, ls1, st1, M1, h9⟩ := ih d c1 r h
      rw [e1] at h9
      exact ⟨pc1, ls1, st1, M1, h9⟩
    · next r1 hs =>
      cases h
      exact ⟨pc, ls, st, M, hs⟩
    · next y1 as1 y0 pc0 ls0 st0 M1 hs =>
      obtain ⟨e1, -⟩ := z_step_ca hs
      have e1 : y0 = y := e1
      subst e1
      split at h
      · cases h
      · simp only [Bool.cond_eq_ite] at h
        split at h
        · split at h
          · cases h
          · next v1 M2 hc => exact ih _ (y0, pc0, ls0, v1.toList ++ st0, M2) _ h
        · cases h
    · cases h
theorem z_ev_ti {d y : Nat} {as1 : List z_V} {M M' : z_M} {v : z_V} (hy : (z_mi y).2.2.2 = some .int) (h : z_ev d (z_en y as1 M) (some v, M')) : ∃ x1 : Int32, v = z_i x1 := by
  obtain ⟨n, h⟩ := h
  obtain ⟨pc, ls, st, M1, hs⟩ := z_rn_rt n d _ _ h
  have hs : z_step (y, pc, ls, st, M1) = Sum.inr (Sum.inl (some v, M')) := hs
  obtain ⟨-, ins, len, a, b9, e', f, ki, kj, hcd, hcase⟩ := z_step_rt hs
  obtain ⟨-, ho, -⟩ := z_cd_ok hcd
  rcases hcase with ⟨rfl, v1, -, e5, -⟩ | ⟨rfl, v1, -, e5⟩ | ⟨rfl, v1, -, e5⟩ | ⟨rfl, -, e5⟩
  · exact ⟨v1, Option.some.inj e5⟩
  · exfalso
    simp only [z_oke, Bool.and_eq_true] at ho
    have q1 := of_decide_eq_true ho.2
    rw [hy] at q1
    cases q1
  · exfalso
    simp only [z_oke, Bool.and_eq_true] at ho
    have q1 := of_decide_eq_true ho.2
    rw [hy] at q1
    cases q1
  · cases e5
theorem z_ev_tj {d y : Nat} {as1 : List z_V} {M M' : z_M} {v : z_V} (hy : (z_mi y).2.2.2 = some .long) (h : z_ev d (z_en y as1 M) (some v, M')) : ∃ x1 : Int64, v = z_j x1 := by
  obtain ⟨n, h⟩ := h
  obtain ⟨pc, ls, st, M1, hs⟩ := z_rn_rt n d _ _ h
  have hs : z_step (y, pc, ls, st, M1) = Sum.inr (Sum.inl (some v, M')) := hs
  obtain ⟨-, ins, len, a, b9, e', f, ki, kj, hcd, hcase⟩ := z_step_rt hs
  obtain ⟨-, ho, -⟩ := z_cd_ok hcd
  rcases hcase with ⟨rfl, v1, -, e5, -⟩ | ⟨rfl, v1, -, e5⟩ | ⟨rfl, v1, -, e5⟩ | ⟨rfl, -, e5⟩
  · exfalso
    simp only [z_oke, Bool.and_eq_true, Bool.or_eq_true] at ho
    rcases ho.2 with ((h1 | h1) | h1) | h1 <;>
    · have q1 := of_decide_eq_true h1.2
      rw [hy] at q1
      cases q1
  · exact ⟨v1, Option.some.inj e5⟩
  · exfalso
    simp only [z_oke, Bool.and_eq_true] at ho
    have q1 := of_decide_eq_true ho.2
    rw [hy] at q1
    cases q1
  · cases e5
