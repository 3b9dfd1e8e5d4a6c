/-! rows: reads and writes; fields: writes -/
section
variable {G : z_G} {L : Nat} {xs : Nat → Int32} {p : Program} {l : Launch} {e : Env} {R : Room} {s : State} {m : MethodId} {args : Array Value} {below : List Frame} {meth : Method} {c : Code} {Q : State → Prop} {n0 s0 : Nat} {M0 : z_M}
variable {y pc len a b e' f : Nat} {ki : Int32} {kj : Int64} {ls : List (Option z_V)} {st : List z_V} {M : z_M} {c' : z_C}
theorem z_arr (G : z_G) {t i el n : Nat} (hg : z_g M t i = true) (ht : z_ta t = some (el, n)) : (z_wl G M)[z_off t i]? = some (G.2.2.1 + z_off t i, .inl (G.2.1 el, n, z_ac G.2.2.1 M t i el n)) := by
  rw [z_wl_get G hg]
  unfold z_cE
  rw [ht]
theorem z_s_iaload (F : z_Fx G L xs p s m meth c y M0) (hcd : z_cd y pc = some (.iaload, len, (a, b, e', f), ki, kj)) (h : z_step (y, pc, ls, st, M) = Sum.inl c') (K : z_K G L xs p l e R s m args below meth c Q n0 s0 c') : z_K G L xs p l e R s m args below meth c Q n0 s0 (y, pc, ls, st, M) := by
  obtain ⟨hd, ho, hn⟩ := z_cd_ok hcd
  obtain ⟨hx, hb, hml, hown, -, -, -, hSt⟩ := F
  obtain ⟨-, hsz0, -, -, hK, -, hE⟩ := hSt
  obtain ⟨-, -, h4, -, -, ⟨bb, h7, h8, h9⟩, -, hL⟩ := hE
  simp only [z_step, hcd] at h
  obtain rfl : len = 1 := Nat.eq_of_beq_eq_true ho
  split at h
  · next x t i r =>
    by_cases h66 : t = 66
    · subst h66
      simp only [show Nat.beq 66 66 = true from rfl, cond_true] at h
      cases hg : (decide (i < 4) && z_in x (z_stc.getD i []).length) with
      | false => rw [hg] at h; cases h
      | true =>
        rw [hg] at h
        cases h
        simp only [Bool.and_eq_true, decide_eq_true_eq] at hg
        obtain ⟨t0, q1, -, q3⟩ := h4 i hg.1
        intro H locs lsC hR hl
        simp only [List.map_cons]
        rw [z_tv_x (by decide), q1]
        exact va_ti hx hb q3 hR.2.2.2.2 (z_in_of hg.2) rfl hd (K H locs lsC hR hl)
    · rw [z_beq_f h66] at h
      by_cases h67 : t = 67
      · subst h67
        simp only [show Nat.beq 67 67 = true from rfl, cond_true, cond_false] at h
        cases hg : (Nat.beq i 0 && z_in x (M.2.2.1 67 1 0).toNatClampNeg) with
        | false => rw [hg] at h; cases h
        | true =>
          rw [hg] at h
          cases h
          simp only [Bool.and_eq_true] at hg
          obtain ⟨hi0, hg⟩ := hg
          obtain rfl : i = 0 := Nat.eq_of_beq_eq_true hi0
          intro H locs lsC hR hl
          obtain ⟨hP, hsz, hk, hsc, hS⟩ := id hR
          have hLe : (M.2.2.1 67 1 0).toNatClampNeg = L := by rw [hsc.1]; exact nI_clamp hL
          rw [hLe] at hg
          have hi := z_in_of hg
          have hlt : x.toNatClampNeg < L := Nat.not_le.mp fun q => hi (Or.inr q)
          have K1 := K H locs lsC hR hl
          simp only [List.map_cons] at K1 ⊢
          rw [show z_tv G (z_i (M.2.2.1 67 0 x.toNatClampNeg)) = .int (xs x.toNatClampNeg) from by rw [hsc.2 _ hlt]; rfl] at K1
          rw [z_tv_x (by decide), h7]
          exact va_sld hx hb h9 (Nat.lt_of_lt_of_le h8 (by omega)) (Nat.not_le.mpr h8) hS hi hd K1
      · rw [z_beq_f h67] at h
        simp only [cond_false] at h
        split at h
        · next n hta =>
          cases hg : (z_g M t i && z_in x n) with
          | false => rw [hg] at h; cases h
          | true =>
            rw [hg] at h
            cases h
            simp only [Bool.and_eq_true] at hg
            intro H locs lsC hR hl
            simp only [List.map_cons]
            rw [z_tv_h (z_ta_lt hta)]
            exact va_iald hx hb hK hR.1 (z_off t i) 0 (z_arr G hg.1 hta) rfl (z_in_of hg.2) hd (K H locs lsC hR hl)
        · cases h
  · cases h
theorem z_s_baload (F : z_Fx G L xs p s m meth c y M0) (hcd : z_cd y pc = some (.baload, len, (a, b, e', f), ki, kj)) (h : z_step (y, pc, ls, st, M) = Sum.inl c') (K : z_K G L xs p l e R s m args below meth c Q n0 s0 c') : z_K G L xs p l e R s m args below meth c Q n0 s0 (y, pc, ls, st, M) := by
  obtain ⟨hd, ho, hn⟩ := z_cd_ok hcd
  obtain ⟨hx, hb, hml, hown, -, -, -, hSt⟩ := F
  obtain ⟨-, hsz0, -, -, hK, -, hE⟩ := hSt
  obtain ⟨-, ⟨adK, adV, k1, k2, -⟩, -⟩ := hE
  simp only [z_step, hcd] at h
  obtain rfl : len = 1 := Nat.eq_of_beq_eq_true ho
  split at h
  · next x t i r =>
    cases hg : (Nat.beq t 65 && decide (i < 4) && z_in x (z_sby.getD i []).length) with
    | false => rw [hg] at h; cases h
    | true =>
      rw [hg] at h
      cases h
      simp only [Bool.and_eq_true, decide_eq_true_eq] at hg
      obtain ⟨⟨g1, g2⟩, g3⟩ := hg
      obtain rfl : t = 65 := Nat.eq_of_beq_eq_true g1
      obtain ⟨-, -, -, s4⟩ := k2.1 i g2
      have hlen : z_lens.getD i 0 = (z_sby.getD i []).length := by
        have : ∀ i, i < 4 → z_lens.getD i 0 = (z_sby.getD i []).length := by decide +kernel
        exact this i g2
      intro H locs lsC hR hl
      simp only [List.map_cons]
      rw [z_tv_x (by decide), (k1 i g2).2]
      exact va_tb hx hb s4 hR.2.2.2.2 (by rw [hlen]; exact z_in_of g3) rfl hd (K H locs lsC hR hl)
  · cases h
theorem z_s_laload (F : z_Fx G L xs p s m meth c y M0) (hcd : z_cd y pc = some (.laload, len, (a, b, e', f), ki, kj)) (h : z_step (y, pc, ls, st, M) = Sum.inl c') (K : z_K G L xs p l e R s m args below meth c Q n0 s0 c') : z_K G L xs p l e R s m args below meth c Q n0 s0 (y, pc, ls, st, M) := by
  obtain ⟨hd, ho, hn⟩ := z_cd_ok hcd
  obtain ⟨hx, hb, hml, hown, -, -, -, hSt⟩ := F
  obtain ⟨-, hsz0, -, -, hK, -, hE⟩ := hSt
  simp only [z_step, hcd] at h
  obtain rfl : len = 1 := Nat.eq_of_beq_eq_true ho
  split at h
  · next x t i r =>
    split at h
    · next n hta =>
      cases hg : (z_g M t i && z_in x n) with
      | false => rw [hg] at h; cases h
      | true =>
        rw [hg] at h
        cases h
        simp only [Bool.and_eq_true] at hg
        intro H locs lsC hR hl
        simp only [List.map_cons]
        rw [z_tv_h (z_ta_lt hta)]
        exact va_lald hx hb hK hR.1 (z_off t i) 1 (z_arr G hg.1 hta) rfl (z_in_of hg.2) hd (K H locs lsC hR hl)
    · cases h
  · cases h
theorem z_ec_ty : ∀ k, k < 3 → (z_tys G)[k + 2]? = some (G.2.1 (k + 2), .object (z_ec (k + 2))) := by
  intro k hk
  match k, hk with
  | 0, _ | 1, _ | 2, _ => rfl
theorem z_s_aaload (F : z_Fx G L xs p s m meth c y M0) (hcd : z_cd y pc = some (.aaload, len, (a, b, e', f), ki, kj)) (h : z_step (y, pc, ls, st, M) = Sum.inl c') (K : z_K G L xs p l e R s m args below meth c Q n0 s0 c') : z_K G L xs p l e R s m args below meth c Q n0 s0 (y, pc, ls, st, M) := by
  obtain ⟨hd, ho, hn⟩ := z_cd_ok hcd
  obtain ⟨hx, hb, hml, hown, -, -, -, hSt⟩ := F
  obtain ⟨-, hsz0, -, -, hK, -, hE⟩ := hSt
  simp only [z_step, hcd] at h
  obtain rfl : len = 1 := Nat.eq_of_beq_eq_true ho
  split at h
  · next x t i r =>
    split at h
    · next k n hta =>
      cases hg : (z_g M t i && z_in x n) with
      | false => rw [hg] at h; cases h
      | true =>
        rw [hg] at h
        cases h
        simp only [Bool.and_eq_true] at hg
        intro H locs lsC hR hl
        have ht := z_ta_lt hta
        obtain ⟨k5, -, -⟩ := z_ta5 t ht _ _ hta
        have K1 := K H locs lsC hR hl
        simp only [List.map_cons] at K1 ⊢
        rw [z_tv_h ht]
        rw [← z_rf_tv hR.2.2.1] at K1
        have hin := z_in_of hg.2
        have hlt : x.toNatClampNeg < n := Nat.not_le.mp fun q => hin (Or.inr q)
        have hA := z_arr G hg.1 hta
        have e1 : z_ac G.2.2.1 M t i (k + 2) n = .inr (.inr (.inr (.inr (fun j => if j < n then (z_gr M t i j).map (z_addr G.2.2.1) else none)))) := by
          unfold z_ac
          rw [if_neg (by omega), if_neg (by omega)]
        rw [e1] at hA
        refine va_aldq hx hb hK hR.1 (z_off t i) (k + 2) hA (z_ec_ty k (by omega)) hin hd ?_
        rw [if_pos hlt]
        exact K1
    · cases h
  · cases h
theorem z_s_arraylength (F : z_Fx G L xs p s m meth c y M0) (hcd : z_cd y pc = some (.arraylength, len, (a, b, e', f), ki, kj)) (h : z_step (y, pc, ls, st, M) = Sum.inl c') (K : z_K G L xs p l e R s m args below meth c Q n0 s0 c') : z_K G L xs p l e R s m args below meth c Q n0 s0 (y, pc, ls, st, M) := by
  obtain ⟨hd, ho, hn⟩ := z_cd_ok hcd
  obtain ⟨hx, hb, hml, hown, -, -, -, hSt⟩ := F
  obtain ⟨-, hsz0, -, -, hK, -, hE⟩ := hSt
  obtain ⟨-, ⟨adK, adV, k1, k2, -⟩, h4, -, -, ⟨bb, h7, h8, h9⟩, -, hL⟩ := hE
  simp only [z_step, hcd] at h
  obtain rfl : len = 1 := Nat.eq_of_beq_eq_true ho
  split at h
  · next t i r =>
    by_cases h66 : t = 66
    · subst h66
      simp only [show Nat.beq 66 66 = true from rfl, cond_true] at h
      cases hg : decide (i < 4) with
      | false => rw [hg] at h; cases h
      | true =>
        rw [hg] at h
        cases h
        obtain ⟨t0, q1, -, q3⟩ := h4 i (of_decide_eq_true hg)
        intro H locs lsC hR hl
        simp only [List.map_cons]
        rw [z_tv_x (by decide), q1]
        exact va_tlen hx hb q3 hR.2.2.2.2 rfl hd (K H locs lsC hR hl)
    · rw [z_beq_f h66] at h
      by_cases h65 : t = 65
      · subst h65
        simp only [show Nat.beq 65 65 = true from rfl, cond_true, cond_false] at h
        cases hg : decide (i < 4) with
        | false => rw [hg] at h; cases h
        | true =>
          rw [hg] at h
          cases h
          have g2 := of_decide_eq_true hg
          obtain ⟨-, -, -, s4⟩ := k2.1 i g2
          have hlen : z_lens.getD i 0 = (z_sby.getD i []).length := by
            have : ∀ i, i < 4 → z_lens.getD i 0 = (z_sby.getD i []).length := by decide +kernel
            exact this i g2
          intro H locs lsC hR hl
          simp only [List.map_cons]
          rw [z_tv_x (by decide), (k1 i g2).2]
          exact va_tlen hx hb s4 hR.2.2.2.2 (by rw [hlen]) hd (K H locs lsC hR hl)
      · rw [z_beq_f h65] at h
        by_cases h67 : t = 67
        · subst h67
          simp only [show Nat.beq 67 67 = true from rfl, cond_true, cond_false] at h
          cases hi0 : Nat.beq i 0 with
          | false => rw [hi0] at h; cases h
          | true =>
          rw [hi0] at h
          cases h
          obtain rfl : i = 0 := Nat.eq_of_beq_eq_true hi0
          intro H locs lsC hR hl
          obtain ⟨hP, hsz, hk, hsc, hS⟩ := id hR
          have K1 := K H locs lsC hR hl
          simp only [List.map_cons] at K1 ⊢
          rw [show z_tv G (z_i (M.2.2.1 67 1 0)) = .int (Int32.ofNat L) from by rw [hsc.1]; rfl] at K1
          rw [z_tv_x (by decide), h7]
          exact va_slen hx hb h9 (Nat.lt_of_lt_of_le h8 (by omega)) (Nat.not_le.mpr h8) hS hd K1
        · rw [z_beq_f h67] at h
          simp only [cond_false] at h
          split at h
          · next el n hta =>
            cases hg : z_g M t i with
            | false => rw [hg] at h; cases h
            | true =>
              rw [hg] at h
              cases h
              intro H locs lsC hR hl
              have ht := z_ta_lt hta
              obtain ⟨k5, -, -⟩ := z_ta5 t ht _ _ hta
              simp only [List.map_cons]
              rw [z_tv_h ht]
              have hty : ∃ ty, (z_tys G)[el]? = some (G.2.1 el, ty) := by
                match el, k5 with
                | 0, _ | 1, _ | 2, _ | 3, _ | 4, _ => exact ⟨_, rfl⟩
              obtain ⟨ty, hty⟩ := hty
              exact va_alen hx hb hK hR.1 (z_off t i) el (z_arr G hg hta) hty rfl hd (K H locs lsC hR hl)
          · cases h
  · cases h
end
