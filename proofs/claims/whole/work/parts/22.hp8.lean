/-! switches and instanceof -/
theorem z_ofInt_iff {x : Int32} {k : Int} (h1 : -1000 ≤ k) (h2 : k ≤ 3000) : x = Int32.ofInt k ↔ x.toInt = k := by
  constructor
  · rintro rfl
    rw [Int32.toInt_ofInt]
    have hsz : ((Int32.size : Nat) : Int) = 4294967296 := rfl
    exact Int.bmod_eq_of_le (by rw [hsz]; omega) (by rw [hsz]; omega)
  · intro h
    rw [← h, Int32.ofInt_toInt]
theorem z_tsel_spec {pc : Nat} {x : Int32} {d : Int} : ∀ (os : List Int) (k : Int), -1000 ≤ k → k + os.length ≤ 3000 →
    (∃ (j : Nat) (o : Int), os[j]? = some o ∧ x.toInt = k + j ∧ z_tsel pc x d os k = z_tg pc o) ∨ ((x.toInt < k ∨ k + os.length ≤ x.toInt) ∧ z_tsel pc x d os k = z_tg pc d) := by
  intro os
  induction os with
  | nil =>
    intro k h1 h2
    refine Or.inr ⟨?_, rfl⟩
    simp only [List.length_nil]
    omega
  | cons o os ih =>
    intro k h1 h2
    simp only [List.length_cons] at h2 ⊢
    unfold z_tsel
    by_cases hx : x = Int32.ofInt k
    · rw [if_pos hx]
      exact Or.inl ⟨0, o, rfl, by rw [(z_ofInt_iff h1 (by omega)).mp hx]; omega, rfl⟩
    · rw [if_neg hx]
      have hne : x.toInt ≠ k := fun q => hx ((z_ofInt_iff h1 (by omega)).mpr q)
      rcases ih (k + 1) (by omega) (by omega) with ⟨j, o', q1, q2, q3⟩ | ⟨q1, q2⟩
      · exact Or.inl ⟨j + 1, o', q1, by omega, q3⟩
      · refine Or.inr ⟨?_, q2⟩
        omega
theorem z_tg_int {pc : Nat} {o : Int} (h : 0 ≤ (pc : Int) + o) : (pc : Int) + o = ((z_tg pc o : Nat) : Int) := by
  unfold z_tg
  omega
theorem z_lsel_spec {pc : Nat} {x : Int32} {d : Int} : ∀ ps : List (Int × Int), (∀ q ∈ ps, -1000 ≤ q.1 ∧ q.1 ≤ 1000) → z_lsel pc x d ps = z_tg pc (Op.lookupswitch.offset ps d x.toInt) := by
  intro ps
  induction ps with
  | nil => intro _; rfl
  | cons q ps ih =>
    intro h
    obtain ⟨a, o⟩ := q
    have h1 := h (a, o) List.mem_cons_self
    unfold z_lsel
    rw [Op.lookupswitch.offset_cons]
    by_cases hx : x = Int32.ofInt a
    · rw [if_pos hx, if_pos ((z_ofInt_iff h1.1 (by have := h1.2; dsimp only at this; omega)).mp hx).symm]
    · rw [if_neg hx, if_neg (fun q => hx ((z_ofInt_iff h1.1 (by have := h1.2; dsimp only at this; omega)).mpr q.symm)), ih (fun q hq => h q (List.mem_cons_of_mem _ hq))]
theorem z_lofs {ps : List (Int × Int)} {d k : Int} {P : Int → Prop} (hd : P d) (h : ∀ q ∈ ps, P q.2) : P (Op.lookupswitch.offset ps d k) := by
  induction ps with
  | nil => exact hd
  | cons q ps ih =>
    obtain ⟨a, o⟩ := q
    rw [Op.lookupswitch.offset_cons]
    split
    · exact h (a, o) List.mem_cons_self
    · exact ih (fun q hq => h q (List.mem_cons_of_mem _ hq))
section
variable {G : z_G} {L : Nat} {xs : Nat → Int32} {p : Program} {l : Launch} {e : Env} {R : Room} {s : State} {m : MethodId} {args : Array Value} {below : List Frame} {meth : Method} {c : Code} {Q : State → Prop} {n0 s0 : Nat} {M0 : z_M}
variable {y pc len a b e' f : Nat} {ki : Int32} {kj : Int64} {ls : List (Option z_V)} {st : List z_V} {M : z_M} {c' : z_C}
theorem z_s_tableswitch {d lo hi : Int} {os : Array Int} (F : z_Fx G L xs p s m meth c y M0) (hcd : z_cd y pc = some (.tableswitch d lo hi os, len, (a, b, e', f), ki, kj)) (h : z_step (y, pc, ls, st, M) = Sum.inl c') (K : z_K G L xs p l e R s m args below meth c Q n0 s0 c') : z_K G L xs p l e R s m args below meth c Q n0 s0 (y, pc, ls, st, M) := by
  obtain ⟨hd, ho, hn⟩ := z_cd_ok hcd
  obtain ⟨hx, hb, -⟩ := F
  simp only [z_step, hcd] at h
  simp only [z_oke, Bool.and_eq_true, decide_eq_true_eq] at ho
  obtain ⟨⟨⟨⟨⟨h1, h2⟩, h3⟩, h4⟩, h5⟩, h6⟩ := ho
  split at h
  · next x r =>
    cases h
    intro H locs lsC hR hl
    have hlen : (os.toList.length : Int) = hi + 1 - lo := by rw [Array.length_toList]; omega
    rcases z_tsel_spec (pc := pc) (x := x) (d := d) os.toList lo h2 (by omega) with ⟨j, o, q1, q2, q3⟩ | ⟨q1, q2⟩
    · rw [q3] at K
      have hj : j < os.toList.length := (List.getElem?_eq_some_iff.mp q1).1
      have h7 : 0 ≤ (pc : Int) + o := of_decide_eq_true (List.all_eq_true.mp h6 o (List.mem_of_getElem? q1))
      refine lv_tableIn hx hb hd (by omega) (by omega) (off := o) ?_ (z_tg_int h7) (K H locs lsC hR hl)
      rw [show (x.toInt - lo).toNat = j by omega, ← Array.getElem?_toList]
      exact q1
    · rw [q2] at K
      exact lv_tableOut hx hb hd (by omega) (z_tg_int h5) (K H locs lsC hR hl)
  · cases h
theorem z_s_lookupswitch {d : Int} {ps : Array (Int × Int)} (F : z_Fx G L xs p s m meth c y M0) (hcd : z_cd y pc = some (.lookupswitch d ps, len, (a, b, e', f), ki, kj)) (h : z_step (y, pc, ls, st, M) = Sum.inl c') (K : z_K G L xs p l e R s m args below meth c Q n0 s0 c') : z_K G L xs p l e R s m args below meth c Q n0 s0 (y, pc, ls, st, M) := by
  obtain ⟨hd, ho, hn⟩ := z_cd_ok hcd
  obtain ⟨hx, hb, -⟩ := F
  simp only [z_step, hcd] at h
  simp only [z_oke, Bool.and_eq_true, decide_eq_true_eq] at ho
  obtain ⟨⟨h1, h2⟩, h3⟩ := ho
  have h4 : ∀ q ∈ ps.toList, -1000 ≤ q.1 ∧ q.1 ≤ 1000 ∧ 0 ≤ (pc : Int) + q.2 := by
    intro q hq
    have := List.all_eq_true.mp h3 q hq
    simp only [Bool.and_eq_true, decide_eq_true_eq] at this
    exact ⟨this.1.1, this.1.2, this.2⟩
  split at h
  · next x r =>
    cases h
    intro H locs lsC hR hl
    rw [z_lsel_spec ps.toList (fun q hq => ⟨(h4 q hq).1, (h4 q hq).2.1⟩)] at K
    exact lv_lookup hx hb hd h1 rfl (z_tg_int (z_lofs (P := fun o => 0 ≤ (pc : Int) + o) h2 (fun q hq => (h4 q hq).2.2))) (K H locs lsC hR hl)
  · cases h
theorem z_s_instanceof {ix : Nat} (F : z_Fx G L xs p s m meth c y M0) (hcd : z_cd y pc = some (.instanceof ix, len, (a, b, e', f), ki, kj)) (h : z_step (y, pc, ls, st, M) = Sum.inl c') (K : z_K G L xs p l e R s m args below meth c Q n0 s0 c') : z_K G L xs p l e R s m args below meth c Q n0 s0 (y, pc, ls, st, M) := by
  obtain ⟨hd, ho, hn⟩ := z_cd_ok hcd
  have hw := F.words args
  obtain ⟨hx, hb, hml, hown, -, -, hnm, hSt⟩ := F
  obtain ⟨-, hsz0, -, -, hK, hwd, hE⟩ := hSt
  obtain ⟨-, -, -, -, -, -, hNc, -⟩ := hE
  simp only [z_step, hcd] at h
  simp only [z_oke, Bool.and_eq_true] at ho
  obtain rfl : len = 3 := Nat.eq_of_beq_eq_true ho.1
  have hl1 := hw _ (hn (.classLink (z_nm y).cls ix (z_cn a)) (by simp [z_need]) rfl)
  split at h
  · next t i r =>
    cases hg : z_g M t i with
    | false => rw [hg] at h; cases h
    | true =>
      rw [hg] at h
      simp only [cond_true] at h
      split at h
      · next cc hc =>
        cases hm : (([0, 3, 5, 6] : List Nat).contains cc && ([0, 5, 6] : List Nat).contains a) with
        | false => rw [hm] at h; cases h
        | true =>
          rw [hm] at h
          cases h
          simp only [Bool.and_eq_true] at hm
          have hm1 : cc ∈ ([0, 3, 5, 6] : List Nat) := by simpa using hm.1
          have hm2 : a ∈ ([0, 5, 6] : List Nat) := by simpa using hm.2
          intro H locs lsC hR hl
          obtain ⟨hP, hsz, hk, hsc, hS⟩ := id hR
          obtain ⟨q1, q2, q3⟩ := z_co_lt (G := G) hk hg hc
          have hr := va_recv hK hP (z_cl_at cc q1) q2
          have K1 := K H locs lsC hR hl
          simp only [List.map_cons] at K1 ⊢
          rw [z_tv_h q3]
          cases hs : z_sub cc a with
          | false =>
            rw [hs] at K1
            exact va_instNo hx hb hown hl1 (hNc cc hm1 a hm2 hs) hr hd K1
          | true =>
            rw [hs] at K1
            have key : ∀ C T : String, Cond.castable C T ∈ z_tbl → va_Nw (.castable C T) s := fun C T hm => hwd _ hm
            have hca := (hK.1 a _ (z_cl_at a (by simp only [List.mem_cons, List.not_mem_nil, or_false] at hm2; omega))).2
            simp only [List.mem_cons, List.not_mem_nil, or_false] at hm1 hm2
            rcases hm1 with rfl | rfl | rfl | rfl <;> rcases hm2 with rfl | rfl | rfl <;> first
              | (exfalso; revert hs; decide)
              | exact va_instS hx hb hown hl1 hca hr hd K1
              | exact va_instY hx hb hown hl1 (key _ _ (z_tbl_of (List.mem_of_getElem? (i := 1726) (by decide +kernel)) rfl)) hr hd K1
              | exact va_instY hx hb hown hl1 (key _ _ (z_tbl_of (List.mem_of_getElem? (i := 1727) (by decide +kernel)) rfl)) hr hd K1
      · cases h
  · cases h
end
