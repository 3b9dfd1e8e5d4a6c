/-! writes -/
theorem z_up_ne {α : Type} {f : Nat → Nat → Nat → α} {t i j t' i' j' : Nat} {v : α} (h : ¬ (t' = t ∧ i' = i)) : z_up f t i j v t' i' j' = f t' i' j' := by
  unfold z_up
  rw [if_neg]
  rintro ⟨a, b, -⟩
  exact h ⟨a, b⟩
theorem z_up_at {α : Type} {f : Nat → Nat → Nat → α} {t i j j' : Nat} {v : α} : z_up f t i j v t i j' = if j' = j then v else f t i j' := by
  unfold z_up
  by_cases h : j' = j
  · simp [h]
  · simp [h]
theorem z_zr_ne {α : Type} {f : Nat → Nat → Nat → α} {t i t' i' j' : Nat} {v : α} (h : ¬ (t' = t ∧ i' = i)) : z_zr f t i v t' i' j' = f t' i' j' := by
  unfold z_zr
  rw [if_neg h]
theorem z_zr_at {α : Type} {f : Nat → Nat → Nat → α} {t i j' : Nat} {v : α} : z_zr f t i v t i j' = v := by
  unfold z_zr
  rw [if_pos ⟨rfl, rfl⟩]
theorem z_cE_congr {G : z_G} {M M' : z_M} {t i : Nat} (h1 : z_co M' t i = z_co M t i) (h2 : ∀ j, M'.2.2.1 t i j = M.2.2.1 t i j) (h3 : ∀ j, M'.2.2.2 t i j = M.2.2.2 t i j) (h4 : ∀ j, z_gr M' t i j = z_gr M t i j) : z_cE G M' t i = z_cE G M t i := by
  unfold z_cE z_ac z_oc z_fv
  simp only [h1, h2, h3, h4]
theorem z_scr_up {L : Nat} {xs : Nat → Int32} {M : z_M} {P : Bool} {X : z_X} {J : Nat → Nat → Nat → Int64} {t i j : Nat} {v : Int32} (h : z_scr L xs M) (ht : t < 64) : z_scr L xs (P, X, z_up M.2.2.1 t i j v, J) := by
  refine ⟨?_, fun k hk => ?_⟩
  · show z_up M.2.2.1 t i j v 67 1 0 = _
    rw [z_up_ne (by omega)]; exact h.1
  · show z_up M.2.2.1 t i j v 67 0 k = _
    rw [z_up_ne (by omega)]; exact h.2 k hk
/-- a row's references, one of them written -/
theorem z_gr_up {M : z_M} {t i j : Nat} {o : Option (Nat × Nat)} (h : M.1 = true → t = 11) (t' i' j' : Nat) : z_gr (M.1, (M.2.1.1, M.2.1.2.1, M.2.1.2.2.1, z_up M.2.1.2.2.2 t i j o), M.2.2.1, M.2.2.2) t' i' j' = if t' = t ∧ i' = i ∧ j' = j then o else z_gr M t' i' j' := by
  unfold z_gr
  dsimp only
  cases hM : M.1 with
  | false => rfl
  | true =>
    have h11 := h hM
    subst h11
    simp only [cond_true]
    by_cases ht : t' = 11
    · subst ht
      rfl
    · rw [z_beq_f ht]
      rw [if_neg (fun q => ht q.1)]
      rfl
section
variable {G : z_G} {L : Nat} {xs : Nat → Int32} {p : Program} {l : Launch} {e : Env} {R : Room} {s : State} {m : MethodId} {args : Array Value} {below : List Frame} {meth : Method} {c : Code} {Q : State → Prop} {n0 s0 : Nat} {M0 : z_M}
variable {y pc len a b e' f : Nat} {ki : Int32} {kj : Int64} {ls : List (Option z_V)} {st : List z_V} {M : z_M} {c' : z_C}
theorem z_s_iastore (F : z_Fx G L xs p s m meth c y M0) (hcd : z_cd y pc = some (.iastore, len, (a, b, e', f), ki, kj)) (h : z_step (y, pc, ls, st, M) = Sum.inl c') (K : z_K G L xs p l e R s m args below meth c Q n0 s0 c') : z_K G L xs p l e R s m args below meth c Q n0 s0 (y, pc, ls, st, M) := by
  obtain ⟨hd, ho, hn⟩ := z_cd_ok hcd
  obtain ⟨hx, hb, hml, hown, -, -, -, hSt⟩ := F
  obtain ⟨-, hsz0, -, -, hK, -, hE⟩ := hSt
  simp only [z_step, hcd] at h
  obtain rfl : len = 1 := Nat.eq_of_beq_eq_true ho
  split at h
  · next v x t i r =>
    split at h
    · next n hta =>
      cases hg : (z_g M t i && z_in x n) with
      | false => rw [hg] at h; cases h
      | true =>
        rw [hg] at h
        cases h
        simp only [Bool.and_eq_true] at hg
        intro H locs lsC hR hl
        obtain ⟨hP, hsz, hk, hsc, hS⟩ := id hR
        have ht := z_ta_lt hta
        simp only [List.map_cons]
        rw [z_tv_h ht]
        refine va_iast hx hb hK hP (z_wl_D G M) hS (z_off t i) 0 (z_arr G hg.1 hta) rfl (z_in_of hg.2) hd fun H1 locs1 hP1 hD1 hS1 => ?_
        refine K H1 locs1 lsC ⟨?_, hsz, hk, z_scr_up hsc ht, hS1⟩ hl
        have e1 := z_wl_set G (M' := (M.1, M.2.1, z_up M.2.2.1 t i x.toNatClampNeg v, M.2.2.2)) hg.1 rfl (fun t' i' hne => z_cE_congr rfl (fun j => z_up_ne hne) (fun j => rfl) (fun j => rfl))
        show va_P _ _ (z_wl G (M.1, M.2.1, z_up M.2.2.1 t i x.toNatClampNeg v, M.2.2.2)) H1
        rw [e1]
        have e2 : z_cE G (M.1, M.2.1, z_up M.2.2.1 t i x.toNatClampNeg v, M.2.2.2) t i = .inl (G.2.1 0, n, .inl (upd (fun j => M.2.2.1 t i j) x.toNatClampNeg v)) := by
          unfold z_cE
          rw [hta]
          show Sum.inl (G.2.1 0, n, Sum.inl (fun j => z_up M.2.2.1 t i x.toNatClampNeg v t i j)) = _
          congr 3
          congr 1
          funext j
          rw [z_up_at]
          rfl
        rw [e2]
        exact hP1
    · cases h
  · cases h
theorem z_s_lastore (F : z_Fx G L xs p s m meth c y M0) (hcd : z_cd y pc = some (.lastore, len, (a, b, e', f), ki, kj)) (h : z_step (y, pc, ls, st, M) = Sum.inl c') (K : z_K G L xs p l e R s m args below meth c Q n0 s0 c') : z_K G L xs p l e R s m args below meth c Q n0 s0 (y, pc, ls, st, M) := by
  obtain ⟨hd, ho, hn⟩ := z_cd_ok hcd
  obtain ⟨hx, hb, hml, hown, -, -, -, hSt⟩ := F
  obtain ⟨-, hsz0, -, -, hK, -, hE⟩ := hSt
  simp only [z_step, hcd] at h
  obtain rfl : len = 1 := Nat.eq_of_beq_eq_true ho
  split at h
  · next v x t i r =>
    split at h
    · next n hta =>
      cases hg : (z_g M t i && z_in x n) with
      | false => rw [hg] at h; cases h
      | true =>
        rw [hg] at h
        cases h
        simp only [Bool.and_eq_true] at hg
        intro H locs lsC hR hl
        obtain ⟨hP, hsz, hk, hsc, hS⟩ := id hR
        have ht := z_ta_lt hta
        simp only [List.map_cons]
        rw [z_tv_h ht]
        refine va_last hx hb hK hP (z_wl_D G M) hS (z_off t i) 1 (z_arr G hg.1 hta) rfl (z_in_of hg.2) hd fun H1 locs1 hP1 hD1 hS1 => ?_
        refine K H1 locs1 lsC ⟨?_, hsz, hk, hsc, hS1⟩ hl
        have e1 := z_wl_set G (M' := (M.1, M.2.1, M.2.2.1, z_up M.2.2.2 t i x.toNatClampNeg v)) hg.1 rfl (fun t' i' hne => z_cE_congr rfl (fun j => rfl) (fun j => z_up_ne hne) (fun j => rfl))
        show va_P _ _ (z_wl G (M.1, M.2.1, M.2.2.1, z_up M.2.2.2 t i x.toNatClampNeg v)) H1
        rw [e1]
        have e2 : z_cE G (M.1, M.2.1, M.2.2.1, z_up M.2.2.2 t i x.toNatClampNeg v) t i = .inl (G.2.1 1, n, .inr (.inl (vp_updL (fun j => M.2.2.2 t i j) x.toNatClampNeg v))) := by
          unfold z_cE
          rw [hta]
          show Sum.inl (G.2.1 1, n, Sum.inr (Sum.inl (fun j => z_up M.2.2.2 t i x.toNatClampNeg v t i j))) = _
          congr 3
          congr 2
          funext j
          rw [z_up_at]
          rfl
        rw [e2]
        exact hP1
    · cases h
  · cases h
end
