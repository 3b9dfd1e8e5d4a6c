/-! the machine does what the interpreter does -/
theorem z_inv_stat {a b e' y pc : Nat} {ls : List (Option z_V)} {st : List z_V} {M : z_M} {y1 : Nat} {as1 : List z_V} {c1 : z_C} (hb2 : b < 2) (h : z_inv a b e' y pc ls st M = z_ca y1 as1 c1) : y1 = a ∧ c1.1 = y ∧ c1.2.2.2.2 = M := by
  unfold z_inv at h
  have hb2' : Nat.blt b 2 = true := Nat.ble_eq_true_of_le hb2
  split at h
  · cases h
  · next as2 r2 htk =>
    rw [hb2'] at h
    simp only [cond_true] at h
    cases h8 : Nat.blt 8 (z_ct r2) with
    | true => rw [h8] at h; cases h
    | false =>
      rw [h8] at h
      simp only [cond_false] at h
      split at h
      · next v1 hma =>
        cases hb0 : Nat.beq b 0 <;> rw [hb0] at h <;> cases h
      · simp only [Sum.inr.injEq, Sum.inl.injEq, Prod.mk.injEq] at h
        obtain ⟨e1, -, e3⟩ := h
        rw [← e1, ← e3]
        exact ⟨rfl, rfl, rfl⟩
theorem z_step_ca {y pc : Nat} {ls : List (Option z_V)} {st : List z_V} {M : z_M} {y1 : Nat} {as1 : List z_V} {c1 : z_C} (h : z_step (y, pc, ls, st, M) = z_ca y1 as1 c1) : c1.1 = y ∧ c1.2.2.2.2 = M ∧ ∃ ins len a b e' f ki kj, z_cd y pc = some (ins, len, (a, b, e', f), ki, kj) ∧ z_inv a b e' y pc ls st M = z_ca y1 as1 c1 ∧ ((∃ ix, ins = .invokestatic ix) ∨ (∃ ix, ins = .invokespecial ix) ∨ (∃ ix, ins = .invokevirtual ix)) := by
  have hinv : ∀ {a b e' : Nat}, z_inv a b e' y pc ls st M = z_ca y1 as1 c1 → c1.1 = y ∧ c1.2.2.2.2 = M := by
    intro a b e' h
    by_cases hb2 : b < 2
    · exact (z_inv_stat hb2 h).2
    · obtain ⟨ar, rest, t, i, -, -, -, e4, -⟩ := z_inv_spec hb2 h
      rw [e4]
      exact ⟨rfl, rfl⟩
  cases hcd : z_cd y pc with
  | none =>
    exfalso
    simp only [z_step, hcd] at h
    cases h
  | some q9 =>
    obtain ⟨ins, len, ⟨a, b, e', f⟩, ki, kj⟩ := q9
    cases ins with
    | invokestatic ix =>
      simp only [z_step, hcd] at h
      exact ⟨(hinv h).1, (hinv h).2, _, _, _, _, _, _, _, _, rfl, h, Or.inl ⟨ix, rfl⟩⟩
    | invokespecial ix =>
      simp only [z_step, hcd] at h
      exact ⟨(hinv h).1, (hinv h).2, _, _, _, _, _, _, _, _, rfl, h, Or.inr (Or.inl ⟨ix, rfl⟩)⟩
    | invokevirtual ix =>
      simp only [z_step, hcd] at h
      exact ⟨(hinv h).1, (hinv h).2, _, _, _, _, _, _, _, _, rfl, h, Or.inr (Or.inr ⟨ix, rfl⟩)⟩
    | ifCond cnd off =>
      exfalso
      cases cnd <;> (simp only [z_step, hcd] at h; split at h <;> cases h)
    | if_icmp cnd off =>
      exfalso
      cases cnd <;> (simp only [z_step, hcd] at h; split at h <;> cases h)
    | _ =>
      exfalso
      simp only [z_step, hcd, Bool.cond_eq_ite] at h
      first
        | (cases h; done)
        | ((repeat' split at h) <;> (cases h; done))
/-- the method that is called is one of ours -/
theorem z_ca_lt {y pc : Nat} {ls : List (Option z_V)} {st : List z_V} {M : z_M} {y1 : Nat} {as1 : List z_V} {c1 : z_C} (h : z_step (y, pc, ls, st, M) = z_ca y1 as1 c1) (hk : z_kok M) : y1 < 285 := by
  obtain ⟨-, -, ins, len, a, b, e', f, ki, kj, hcd, hinv, hins⟩ := z_step_ca h
  obtain ⟨-, ho, -⟩ := z_cd_ok hcd
  rcases hins with ⟨ix, rfl⟩ | ⟨ix, rfl⟩ | ⟨ix, rfl⟩
  · simp only [z_oke, Bool.and_eq_true] at ho
    obtain ⟨⟨⟨ho1, ho2⟩, ho3⟩, ho4⟩ := ho
    rw [(z_inv_stat (Nat.le_of_ble_eq_true ho2) hinv).1]
    exact Nat.le_of_ble_eq_true ho3
  · simp only [z_oke, Bool.and_eq_true, Bool.or_eq_true, decide_eq_true_eq] at ho
    obtain ⟨-, ho⟩ := ho
    rcases ho with (⟨q1, -⟩ | ⟨⟨⟨⟨q1, q2⟩, q3⟩, q4⟩, q5⟩) | ⟨⟨⟨q1, q2⟩, q3⟩, q4⟩
    · obtain rfl : b = 9 := Nat.eq_of_beq_eq_true q1
      obtain ⟨ar, rest, t, i, -, -, -, -, -, e6, -⟩ := z_inv_spec (by decide) hinv
      exact absurd rfl e6
    · have hb : b = 2 ∨ b = 3 := by
        rcases q1 with q1 | q1
        · exact Or.inl (Nat.eq_of_beq_eq_true q1)
        · exact Or.inr (Nat.eq_of_beq_eq_true q1)
      obtain ⟨ar, rest, t, i, -, -, -, -, -, -, e7, -⟩ := z_inv_spec (by omega) hinv
      rw [(e7 (by omega)).1]
      exact Nat.le_of_ble_eq_true q2
    · obtain rfl : b = 7 := Nat.eq_of_beq_eq_true q1
      obtain ⟨ar, rest, t, i, -, -, -, -, -, -, -, -, e9⟩ := z_inv_spec (by decide) hinv
      obtain ⟨-, cc, -, hk7⟩ := e9 (by decide)
      rcases hk7 with ⟨-, z1, -⟩ | ⟨z1, -⟩
      · rw [z1]; exact Nat.le_of_ble_eq_true q2
      · exact absurd rfl z1
  · simp only [z_oke, Bool.and_eq_true, Bool.or_eq_true] at ho
    obtain ⟨-, ho⟩ := ho
    rcases ho with ⟨⟨q1, q2⟩, q3⟩ | ⟨⟨⟨q1, q2⟩, q3⟩, q4⟩
    · obtain rfl : b = 4 := Nat.eq_of_beq_eq_true q1
      obtain ⟨ar, rest, t, i, -, -, -, -, -, -, -, e8, -⟩ := z_inv_spec (by decide) hinv
      rw [(e8 rfl).1]
      exact Nat.le_of_ble_eq_true q2
    · obtain rfl : b = 6 := Nat.eq_of_beq_eq_true q1
      obtain ⟨ar, rest, t, i, -, -, -, -, -, -, -, -, e9⟩ := z_inv_spec (by decide) hinv
      obtain ⟨hg, cc, hcc, hk7⟩ := e9 (by decide)
      rcases hk7 with ⟨z1, -⟩ | ⟨-, z1⟩
      · cases z1
      · have h13 := (z_co_lt (G := (((fun _ => 0, fun _ _ => 0), fun _ => 0, 0, fun _ _ => .null) : z_G)) hk hg hcc).1
        have hva := z_vt_all a (Nat.le_of_ble_eq_true q2) cc h13
        rw [z1] at hva
        exact (of_decide_eq_true hva).1
/-- an answer, by its instruction -/
theorem z_step_rt {y pc : Nat} {ls : List (Option z_V)} {st : List z_V} {M : z_M} {r : Option z_V × z_M} (h : z_step (y, pc, ls, st, M) = Sum.inr (Sum.inl r)) : r.2 = M ∧ ∃ ins len a b e' f ki kj, z_cd y pc = some (ins, len, (a, b, e', f), ki, kj) ∧
    ((ins = .ireturn ∧ ∃ v1, st = [z_i v1] ∧ r.1 = some (z_i v1) ∧ z_nr a v1 = true) ∨ (ins = .lreturn ∧ ∃ v1, st = [z_j v1] ∧ r.1 = some (z_j v1)) ∨ (ins = .areturn ∧ ∃ v1, st = [Sum.inr (Sum.inr v1)] ∧ r.1 = some (Sum.inr (Sum.inr v1))) ∨ (ins = .return_ ∧ st = [] ∧ r.1 = none)) := by
  cases hcd : z_cd y pc with
  | none =>
    exfalso
    simp only [z_step, hcd] at h
    cases h
  | some q9 =>
    obtain ⟨ins, len, ⟨a, b, e', f⟩, ki, kj⟩ := q9
    cases ins with
    | ireturn =>
      simp only [z_step, hcd] at h
      split at h
      · next v1 =>
        cases hn : z_nr a v1 with
        | false => rw [hn] at h; cases h
        | true =>
          rw [hn] at h
          cases h
          exact ⟨rfl, _, _, _, _, _, _, _, _, rfl, Or.inl ⟨rfl, v1, rfl, rfl, hn⟩⟩
      · cases h
    | lreturn =>
      simp only [z_step, hcd] at h
      split at h
      · next v1 =>
        cases h
        exact ⟨rfl, _, _, _, _, _, _, _, _, rfl, Or.inr (Or.inl ⟨rfl, v1, rfl, rfl⟩)⟩
      · cases h
    | areturn =>
      simp only [z_step, hcd] at h
      split at h
      · next v1 =>
        cases h
        exact ⟨rfl, _, _, _, _, _, _, _, _, rfl, Or.inr (Or.inr (Or.inl ⟨rfl, v1, rfl, rfl⟩))⟩
      · cases h
    | return_ =>
      simp only [z_step, hcd] at h
      split at h
      · cases h
        exact ⟨rfl, _, _, _, _, _, _, _, _, rfl, Or.inr (Or.inr (Or.inr ⟨rfl, rfl, rfl⟩))⟩
      · cases h
    | invokestatic _ =>
      exfalso
      simp only [z_step, hcd, z_inv, Bool.cond_eq_ite] at h
      (repeat' split at h) <;> (cases h; done)
    | invokespecial _ =>
      exfalso
      simp only [z_step, hcd, z_inv, Bool.cond_eq_ite] at h
      (repeat' split at h) <;> (cases h; done)
    | invokevirtual _ =>
      exfalso
      simp only [z_step, hcd, z_inv, Bool.cond_eq_ite] at h
      (repeat' split at h) <;> (cases h; done)
    | ifCond cnd off =>
      exfalso
      cases cnd <;> (simp only [z_step, hcd] at h; split at h <;> cases h)
    | if_icmp cnd off =>
      exfalso
      cases cnd <;> (simp only [z_step, hcd] at h; split at h <;> cases h)
    | _ =>
      exfalso
      simp only [z_step, hcd, Bool.cond_eq_ite] at h
      first
        | (cases h; done)
        | ((repeat' split at h) <;> (cases h; done))
theorem z_rn_mono : ∀ (n d : Nat) (cf : z_C) (r : Option z_V × z_M), z_rn n d cf = some r → z_nc cf.2.2.2.2 ≤ z_nc r.2 ∧ z_sl cf.2.2.2.2 ≤ z_sl r.2 := by
  intro n
  induction n with
  | zero => intro d cf r h; simp [z_rn] at h
  | succ n ih =>
    intro d cf r h
    obtain ⟨y, pc, ls, st, M⟩ := cf
    simp only [z_rn] at h
    split at h
    · next c1 hs =>
      obtain ⟨-, h1, h2⟩ := z_step_mono hs
      obtain ⟨h3, h4⟩ := ih d c1 r h
      exact ⟨Nat.le_trans h1 h3, Nat.le_trans h2 h4⟩
    · next r1 hs =>
      cases h
      obtain ⟨hM, -⟩ := z_step_rt hs
      rw [hM]
      exact ⟨Nat.le_refl _, Nat.le_refl _⟩
    · next y1 as1 y0 pc0 ls0 st0 M1 hs =>
      obtain ⟨-, hM, -⟩ := z_step_ca hs
      have hM : M1 = M := hM
      subst hM
      split at h
      · cases h
      · simp only [Bool.cond_eq_ite] at h
        split at h
        · split at h
          · cases h
          · next v1 M2 hc =>
            obtain ⟨h1, h2⟩ := ih _ _ _ hc
            obtain ⟨h3, h4⟩ := ih _ _ _ h
            exact ⟨Nat.le_trans h1 h3, Nat.le_trans h2 h4⟩
        · cases h
    · cases h
