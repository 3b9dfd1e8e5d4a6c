/-! the main theorem -/
theorem z_la_len {G : z_G} (hxx : ∀ t i, G.2.2.2 t i = .null ∨ ∃ a, G.2.2.2 t i = .ref a) : ∀ as1 : List z_V, (lg_sl (as1.map (z_tv G))).length = (z_la as1).length := by
  intro as1
  induction as1 with
  | nil => rfl
  | cons v l ih =>
    match v with
    | Sum.inl x =>
      show (lg_sl (Value.int x :: l.map (z_tv G))).length = (z_la l).length + 1
      rw [← ih]
      simp [lg_sl, Value.category]
    | Sum.inr (Sum.inl x) =>
      show (lg_sl (Value.long x :: l.map (z_tv G))).length = (z_la l).length + 1 + 1
      rw [← ih]
      simp [lg_sl, Value.category]
    | Sum.inr (Sum.inr x) =>
      show (lg_sl (z_tv G (Sum.inr (Sum.inr x)) :: l.map (z_tv G))).length = (z_la l).length + 1
      rw [← ih]
      rcases z_tv_ref hxx x with q | ⟨r1, q⟩ <;> rw [q] <;> simp [lg_sl, Value.category]
theorem z_la_args {G : z_G} (hxx : ∀ t i, G.2.2.2 t i = .null ∨ ∃ a, G.2.2.2 t i = .ref a) : ∀ (as1 : List z_V) (k i : Nat) (v : z_V), (z_la as1).getD i none = some v → (k + i, z_tv G v) ∈ lv_args k (as1.map (z_tv G)) := by
  intro as1
  induction as1 with
  | nil =>
    intro k i v h
    simp [z_la] at h
  | cons v0 l ih =>
    intro k i v h
    have one : (∀ x, v0 ≠ z_j x) → z_la (v0 :: l) = some v0 :: z_la l := by
      intro hne
      match v0, hne with
      | Sum.inl x, _ => rfl
      | Sum.inr (Sum.inl x), hne => exact absurd rfl (hne x)
      | Sum.inr (Sum.inr x), _ => rfl
    by_cases hj : ∃ x, v0 = z_j x
    · obtain ⟨x, rfl⟩ := hj
      have e1 : z_la (z_j x :: l) = some (z_j x) :: none :: z_la l := rfl
      rw [e1] at h
      match i, h with
      | 0, h =>
        have e2 : z_j x = v := Option.some.inj h
        rw [← e2]
        exact List.mem_cons_self
      | 1, h => cases h
      | i1 + 2, h =>
        have h2 := ih (k + 2) i1 v h
        have e3 : lv_args k ((z_j x :: l).map (z_tv G)) = (k, Value.long x) :: lv_args (k + 2) (l.map (z_tv G)) := rfl
        rw [e3, show k + (i1 + 2) = k + 2 + i1 by omega]
        exact List.mem_cons_of_mem _ h2
    · have hne : ∀ x, v0 ≠ z_j x := fun x q => hj ⟨x, q⟩
      rw [one hne] at h
      have hc : ¬ (z_tv G v0).category = 2 := fun q => hj ((z_tv_cat hxx v0).mp q)
      have e3 : lv_args k ((v0 :: l).map (z_tv G)) = (k, z_tv G v0) :: lv_args (k + 1) (l.map (z_tv G)) := by
        show (k, z_tv G v0) :: lv_args (if (z_tv G v0).category = 2 then k + 2 else k + 1) (l.map (z_tv G)) = _
        rw [if_neg hc]
      rw [e3]
      match i, h with
      | 0, h =>
        have e2 : v0 = v := Option.some.inj h
        rw [← e2]
        exact List.mem_cons_self
      | i1 + 1, h =>
        have h2 := ih (k + 1) i1 v h
        rw [show k + (i1 + 1) = k + 1 + i1 by omega]
        exact List.mem_cons_of_mem _ h2
theorem z_getD_rep {l : List (Option z_V)} {k i : Nat} {v : z_V} (h : (l ++ List.replicate k none).getD i none = some v) : l.getD i none = some v := by
  rw [List.getD_eq_getElem?_getD] at h ⊢
  by_cases hi : i < l.length
  · rw [List.getElem?_append_left hi] at h
    exact h
  · rw [List.getElem?_append_right (by omega)] at h
    exfalso
    cases hq : (List.replicate k (none : Option z_V))[i - l.length]? with
    | none => rw [hq] at h; cases h
    | some q1 =>
      rw [hq] at h
      have h1 := List.eq_of_mem_replicate (List.mem_of_getElem? hq)
      rw [h1] at h
      cases h
theorem z_entry {G : z_G} (hxx : ∀ t i, G.2.2.2 t i = .null ∨ ∃ a, G.2.2.2 t i = .ref a) {as1 : List z_V} {n : Nat} (h : (z_la as1).length ≤ n) : z_Lh G (z_la as1 ++ List.replicate (n - (z_la as1).length) none) n ((lg_sl (as1.map (z_tv G)) ++ List.replicate (n - (lg_sl (as1.map (z_tv G))).length) Slot.unset).toArray) := by
  have h1 := lv_entry (as1.map (z_tv G)) (n := n) (by rw [z_la_len hxx]; exact h)
  refine ⟨h1.1, h1.2.1, fun i v hv => ?_⟩
  have h2 := z_la_args hxx as1 0 i v (z_getD_rep hv)
  rw [Nat.zero_add] at h2
  exact h1.2.2 _ h2
section
variable {G : z_G} {L : Nat} {xs : Nat → Int32} {p : Program} {l : Launch} {e : Env} {R : Room} {s : State} {m : MethodId} {args : Array Value} {below : List Frame} {meth : Method} {c : Code} {Q : State → Prop} {n0 s0 : Nat} {M0 : z_M}
variable {y pc : Nat} {ls : List (Option z_V)} {st : List z_V} {M : z_M}
/-- an answer ends a method as its contract says -/
theorem z_ret_met {r : Option z_V × z_M} (F : z_Fx G L xs p s m meth c y M0) (hn0 : n0 = z_nc M0) (h : z_step (y, pc, ls, st, M) = Sum.inr (Sum.inl r)) : z_K G L xs p l e R s m args below meth c (MQ below (z_Qc G L xs r) args s (z_nc r.2 - n0) (z_sl r.2 - s0) (z_A G.2.2.1)) n0 s0 (y, pc, ls, st, M) := by
  have hxx := F.ex
  obtain ⟨hx, hb, hml, hown, hret, hlk, hnm, hSt⟩ := F
  have hsz0 := hSt.2.1
  rw [← hn0] at hsz0
  obtain ⟨hM, ins, len, a, b, e', f, ki, kj, hcd, hcase⟩ := z_step_rt h
  obtain ⟨rv, rM⟩ := r
  have hM : rM = M := hM
  subst hM
  obtain ⟨hd, ho, -⟩ := z_cd_ok hcd
  intro H locs lsC hR hl
  have hR : z_Rp G L xs s rM H locs := hR
  show W p l e R s m args below meth c H locs (z_nc rM - n0) (z_sl rM - s0) _ _
  refine z_sized hsz0 hR fun hH => ?_
  have hq : ∀ t : State, t.heap = H → s.WarmedH t.vm → z_Qc G L xs (rv, rM) args s (.returned (rv.map (z_tv G))) t := fun t ht hW => ⟨rfl, hSt.moved hR hH ht hW, hR.2.2.2.2.F ht⟩
  have hf := hR.2.2.2.2.2.2
  rcases hcase with ⟨rfl, v1, e1, e2, hnr⟩ | ⟨rfl, v1, e1, e2⟩ | ⟨rfl, v1, e1, e2⟩ | ⟨rfl, e1, e2⟩
  · have e2 : rv = some (z_i v1) := e2
    subst e1; subst e2
    simp only [z_oke, Bool.and_eq_true, Bool.or_eq_true, decide_eq_true_eq] at ho
    obtain ⟨ho1, ho⟩ := ho
    obtain rfl : len = 1 := Nat.eq_of_beq_eq_true ho1
    rcases ho with ((⟨q1, q2⟩ | ⟨q1, q2⟩) | ⟨q1, q2⟩) | ⟨q1, q2⟩
    · exact W.zret hx hb (hret.trans q2) rfl hq hf hd hlk
    · obtain rfl : a = 1 := Nat.eq_of_beq_eq_true q1
      have h01 : v1 = 0 ∨ v1 = 1 := by
        have h1 : (v1 == 0 || v1 == 1) = true := hnr
        simpa using h1
      exact W.zret hx hb (hret.trans q2) (by rcases h01 with h01 | h01 <;> rw [h01] <;> rfl) hq hf hd hlk
    · obtain rfl : a = 2 := Nat.eq_of_beq_eq_true q1
      have h1 : v1.toInt8.toInt32 = v1 := of_decide_eq_true hnr
      exact W.zret hx hb (hret.trans q2) (by show Value.int v1.toInt8.toInt32 = _; rw [h1]) hq hf hd hlk
    · obtain rfl : a = 3 := Nat.eq_of_beq_eq_true q1
      have h1 : v1.toUInt32.toUInt16.toUInt32.toInt32 = v1 := of_decide_eq_true hnr
      exact W.zret hx hb (hret.trans q2) (by show Value.int v1.toUInt32.toUInt16.toUInt32.toInt32 = _; rw [h1]) hq hf hd hlk
  · have e2 : rv = some (z_j v1) := e2
    subst e1; subst e2
    simp only [z_oke, Bool.and_eq_true, decide_eq_true_eq] at ho
    obtain ⟨ho1, ho⟩ := ho
    obtain rfl : len = 1 := Nat.eq_of_beq_eq_true ho1
    exact W.lret hx hb (hret.trans ho) hq hf hd hlk
  · have e2 : rv = some (Sum.inr (Sum.inr v1)) := e2
    subst e1; subst e2
    simp only [z_oke, Bool.and_eq_true, decide_eq_true_eq] at ho
    obtain ⟨ho1, ho⟩ := ho
    obtain rfl : len = 1 := Nat.eq_of_beq_eq_true ho1
    exact W.aret hx hb (hret.trans ho) (Or.inl ⟨_, rfl⟩) (z_tv_ref hxx v1) hq hf hd hlk
  · have e2 : rv = none := e2
    subst e1; subst e2
    simp only [z_oke, Bool.and_eq_true, decide_eq_true_eq] at ho
    obtain ⟨ho1, ho⟩ := ho
    obtain rfl : len = 1 := Nat.eq_of_beq_eq_true ho1
    exact W.vret hx hb (hret.trans ho) hq hf hd hlk
theorem z_met_of {d y1 : Nat} {as1 : List z_V} {r1 : Option z_V × z_M} (hy : y1 < 285) (hpl : z_pl y1 = true) (hlen : (z_la as1).length ≤ z_ml y1)
    (ih : ∀ (p : Program) (e : Env) (s : State) (m : MethodId) (args : Array Value) (below : List Frame) (meth : Method) (c : Code), z_Fx G L xs p s m meth c y1 M → z_K G L xs p l e (z_rm d (z_nc r1.2 - z_nc M) (z_sl r1.2 - z_sl M)) s m args below meth c (MQ below (z_Qc G L xs r1) args s (z_nc r1.2 - z_nc M) (z_sl r1.2 - z_sl M) (z_A G.2.2.1)) (z_nc M) (z_sl M) (z_en y1 as1 M)) : z_Met G L xs l d y1 as1 M r1 := by
  unfold z_Met
  refine Met.ofW (cc := (z_mi y1).2.1) (maxL := (z_mi y1).2.2.1) (ret := (z_mi y1).2.2.2) (z_ml_mi3 y1 hy hpl) rfl ?_
  intro p e s m args below meth c s₁ B hml hv
  obtain ⟨rfl, hSt⟩ := hv
  obtain ⟨e1, -⟩ := z_ml_mi y1 hy
  have F : z_Fx G L xs p s m meth c y1 M := ⟨B.exec, B.bytes, hml.trans e1.symm, findClass_of_methodNamed B.named, B.returns, B.notSynchronized, (name_of_methodNamed B.named B.method).1, hSt⟩
  have hR : z_Rp G L xs s M s.heap [] := ⟨hSt.1, by rw [hSt.2.1]; exact Nat.le_refl _, hSt.2.2.1, hSt.2.2.2.1, va_S.rf⟩
  have K := ih p e s m (as1.map (z_tv G)).toArray below meth c F s.heap [] _ hR (z_entry F.ex hlen)
  rw [lg_entry_eq]
  have e3 : z_nc M - z_nc M = 0 := Nat.sub_self _
  have e4 : z_sl M - z_sl M = 0 := Nat.sub_self _
  have K : W p l e (z_rm d (z_nc r1.2 - z_nc M) (z_sl r1.2 - z_sl M)) s m (as1.map (z_tv G)).toArray below meth c s.heap [] (z_nc M - z_nc M) (z_sl M - z_sl M) (MQ below (z_Qc G L xs r1) (as1.map (z_tv G)).toArray s (z_nc r1.2 - z_nc M) (z_sl r1.2 - z_sl M) (z_A G.2.2.1)) (F0 m 0 ((lg_sl (as1.map (z_tv G)) ++ List.replicate (z_ml y1 - (lg_sl (as1.map (z_tv G))).length) Slot.unset).toArray) []) := K
  rw [e3, e4, e1] at K
  exact K
end
theorem z_snd {G : z_G} {L : Nat} {xs : Nat → Int32} {l : Launch} : ∀ (n d : Nat) (cf : z_C) (r : Option z_V × z_M), z_rn n d cf = some r → ∀ (p : Program) (e : Env) (R : Room) (s : State) (m : MethodId) (args : Array Value) (below : List Frame) (meth : Method) (c : Code) (Q : State → Prop) (M0 : z_M), z_Fx G L xs p s m meth c cf.1 M0 → z_sl M0 ≤ z_sl cf.2.2.2.2 → d + 1 ≤ R.frames → 40 * (d + 1) ≤ R.locals → z_nc r.2 - z_nc M0 ≤ R.cells → z_sl r.2 - z_sl M0 ≤ R.slots →
    (∀ pc ls st M, z_step (cf.1, pc, ls, st, M) = Sum.inr (Sum.inl r) → z_K G L xs p l e R s m args below meth c Q (z_nc M0) (z_sl M0) (cf.1, pc, ls, st, M)) → z_K G L xs p l e R s m args below meth c Q (z_nc M0) (z_sl M0) cf := by
  intro n
  induction n with
  | zero => intro d cf r h; simp [z_rn] at h
  | succ n ih =>
    intro d cf r h p e R s m args below meth c Q M0 F hs0 hRf hRl hRc hRs hQ
    obtain ⟨y, pc, ls, st, M⟩ := cf
    simp only [z_rn] at h
    split at h
    · next c1 hs =>
      obtain ⟨h0, h1, h2⟩ := z_step_mono hs
      obtain ⟨h3, h4⟩ := z_rn_mono n d c1 r h
      have hs0 : z_sl M0 ≤ z_sl M := hs0
      refine z_one F rfl hs (by omega) (by omega) (by omega) (by omega) hs0 ?_
      have F1 : z_Fx G L xs p s m meth c c1.1 M0 := by rw [h0]; exact F
      exact ih d c1 r h p e R s m args below meth c Q M0 F1 (by omega) hRf hRl hRc hRs (by rw [h0]; exact hQ)
    · next r1 hs =>
      cases h
      exact hQ pc ls st M hs
    · next y1 as1 y0 pc0 ls0 st0 M1 hs =>
      obtain ⟨e0, e1, ins, len, a, b, e', f, ki, kj, hcd, -, hins⟩ := z_step_ca hs
      have e0 : y0 = y := e0
      have e1 : M1 = M := e1
      subst e0; subst e1
      split at h
      · cases h
      · next d1 =>
        cases hg : (Nat.ble (z_la as1).length (z_ml y1) && z_pl y1) with
        | false => rw [hg] at h; cases h
        | true =>
          rw [hg] at h
          simp only [cond_true] at h
          simp only [Bool.and_eq_true] at hg
          obtain ⟨hg1, hg2⟩ := hg
          have hg1 := Nat.le_of_ble_eq_true hg1
          split at h
          · cases h
          · next v1 M2 hc =>
            obtain ⟨m1, m2⟩ := z_rn_mono _ _ _ _ hc
            obtain ⟨m3, m4⟩ := z_rn_mono _ _ _ _ h
            have m1 : z_nc M1 ≤ z_nc M2 := m1
            have m2 : z_sl M1 ≤ z_sl M2 := m2
            have m3 : z_nc M2 ≤ z_nc r.2 := m3
            have m4 : z_sl M2 ≤ z_sl r.2 := m4
            have hs0 : z_sl M0 ≤ z_sl M1 := hs0
            have K := ih (d1 + 1) _ r h p e R s m args below meth c Q M0 F (by show z_sl M0 ≤ z_sl M2; omega) hRf hRl hRc hRs hQ
            intro H locs lsC hR hl
            have hy := z_ca_lt hs hR.2.2.1
            have hMet : z_Met G L xs l d1 y1 as1 M1 (v1, M2) := by
              refine z_met_of hy hg2 hg1 fun p' e2 s' m' args' below' meth' c2 F' => ?_
              exact ih d1 _ _ hc p' e2 _ s' m' args' below' meth' c2 _ M1 F' (Nat.le_refl _) (Nat.le_refl _) (Nat.le_refl _) (Nat.le_refl _) (Nat.le_refl _) (fun pc2 ls2 st2 M3 h2 => z_ret_met F' rfl h2)
            have hc1 : z_nc M2 - z_nc M0 ≤ R.cells := by omega
            have hc2 : z_sl M2 - z_sl M0 ≤ R.slots := by omega
            rcases hins with ⟨ix, rfl⟩ | ⟨ix, rfl⟩ | ⟨ix, rfl⟩
            · exact z_call_static F rfl hcd hs hMet (by omega) (by omega) hc1 hc2 hs0 m1 m2 K H locs lsC hR hl
            · exact z_call_special F rfl hcd hs hMet (by omega) (by omega) hc1 hc2 hs0 m1 m2 K H locs lsC hR hl
            · exact z_call_virtual F rfl hcd hs hMet (by omega) (by omega) hc1 hc2 hs0 m1 m2 K H locs lsC hR hl
    · cases h
