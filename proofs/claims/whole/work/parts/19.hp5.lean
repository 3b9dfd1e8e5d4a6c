/-! fields: writes -/
theorem z_done_spec {n : Nat} {Rf : Nat → Nat → Nat → Option (Nat × Nat)} (h : z_done n Rf = true) : n = 102 ∧ ∀ q ∈ z_fdom, Rf q.1 q.2.1 q.2.2 = z_fin q.1 q.2.1 q.2.2 := by
  unfold z_done at h
  simp only [Bool.and_eq_true] at h
  refine ⟨Nat.eq_of_beq_eq_true h.1, fun q hq => ?_⟩
  exact of_decide_eq_true (List.all_eq_true.mp h.2 q hq)
/-- every reference field and every place of a row of nets or sheets is told in z_fdom -/
theorem z_fdom_arr : ∀ k, k < 102 → ∀ e1, e1 < 5 → ∀ n1, n1 < 330 → z_ta (z_un k).1 = some (e1, n1) → 2 ≤ e1 → (z_un k).1 ≠ 11 → ∀ j, j < n1 → ((z_un k).1, (z_un k).2, j) ∈ z_fdom := by
  have h : ∀ k, k < 102 → (match z_ta (z_un k).1 with
    | some (e1, n1) => Nat.blt e1 2 || Nat.beq (z_un k).1 11 || (List.range n1).all (fun j => decide (((z_un k).1, (z_un k).2, j) ∈ z_fdom))
    | none => true) = true := by decide +kernel
  intro k hk e1 he1 n1 hn1 hta h2 h11 j hj
  have h3 := h k hk
  rw [hta] at h3
  have hb : Nat.blt e1 2 = false := by
    cases hq : Nat.blt e1 2 with
    | false => rfl
    | true => exact absurd (Nat.le_of_ble_eq_true hq) (by omega)
  simp only [hb, z_beq_f h11, Bool.false_or] at h3
  exact of_decide_eq_true (List.all_eq_true.mp h3 j (List.mem_range.mpr hj))
theorem z_fdom_obj : ∀ k, k < 102 → z_ta (z_un k).1 = none → ∀ j, j < z_fn ((z_tc (z_un k).1).getD 0) → (z_ftl.getD ((z_tc (z_un k).1).getD 0) []).getD j 9 = 2 → ((z_un k).1, (z_un k).2, j) ∈ z_fdom := by
  have h : ∀ k, k < 102 → ((z_ta (z_un k).1).isSome || (List.range (z_fn ((z_tc (z_un k).1).getD 0))).all (fun j => !(Nat.beq ((z_ftl.getD ((z_tc (z_un k).1).getD 0) []).getD j 9) 2) || decide (((z_un k).1, (z_un k).2, j) ∈ z_fdom))) = true := by decide +kernel
  intro k hk hta j hj h2
  have h3 := h k hk
  rw [hta] at h3
  have h4 := List.all_eq_true.mp h3 j (List.mem_range.mpr hj)
  rw [h2] at h4
  exact of_decide_eq_true h4
theorem z_ta330 : ∀ t, t < 64 → ∀ e n, z_ta t = some (e, n) → n < 330 := by
  have h : ∀ t, t < 64 → (match z_ta t with | none => true | some (e1, n1) => decide (n1 < 330)) = true := by decide +kernel
  intro t ht e n hc
  have h1 := h t ht
  rw [hc] at h1
  exact of_decide_eq_true h1
theorem z_un32 : ∀ k, k < 102 → (z_un k).1 ≠ 32 := by decide +kernel
/-- all is made: the world is the same -/
theorem z_turn (G : z_G) {n sl : Nat} {kc : Nat → Nat} {Rf : Nat → Nat → Nat → Option (Nat × Nat)} {I : Nat → Nat → Nat → Int32} {J : Nat → Nat → Nat → Int64} (h : z_done n Rf = true) : z_wl G (true, (0, sl, kc, Rf), I, J) = z_wl G (false, (n, sl, kc, Rf), I, J) := by
  obtain ⟨rfl, hR⟩ := z_done_spec h
  unfold z_wl
  apply List.map_congr_left
  intro k hk
  have hk : k < 102 := by
    have := List.mem_range.mp hk
    exact this
  have hfa := z_fdom_arr k hk
  have hfo := z_fdom_obj k hk
  have h32 := z_un32 k hk
  have hul := z_un_lt k
  generalize hq : z_un k = q at hfa hfo h32 hul
  obtain ⟨t, i⟩ := q
  dsimp only at hfa hfo h32 hul ⊢
  congr 1
  unfold z_cE
  have hc : z_co (true, (0, sl, kc, Rf), I, J) t i = z_co (false, (102, sl, kc, Rf), I, J) t i := rfl
  have hc2 : z_co (false, (102, sl, kc, Rf), I, J) t i = z_tc t := by unfold z_co; rw [z_beq_f h32]; rfl
  rw [hc, hc2]
  split
  · next e n hta =>
    obtain ⟨w1, w2, -⟩ := z_ta5 t hul _ _ hta
    congr 3
    unfold z_ac
    split
    · rfl
    · next he0 =>
      split
      · rfl
      · next he1 =>
        congr 4
        funext j
        by_cases hj : j < n
        · rw [if_pos hj, if_pos hj]
          have : z_gr (true, (0, sl, kc, Rf), I, J) t i j = z_gr (false, (102, sl, kc, Rf), I, J) t i j := by
            by_cases h11 : t = 11
            · subst h11; rfl
            · have h3 := hR _ (hfa e w1 n (z_ta330 t hul _ _ hta) hta (by omega) h11 j hj)
              show (bif Nat.beq t 11 then _ else _) = Rf t i j
              rw [z_beq_f h11]
              exact h3.symm
          rw [this]
        · rw [if_neg hj, if_neg hj]
  · next hta =>
    have hf := hfo hta
    congr 2
    unfold z_oc
    apply List.map_congr_left
    intro j hj
    have hj := List.mem_range.mp hj
    unfold z_fv
    by_cases h2 : (z_ftl.getD ((z_tc t).getD 0) []).getD j 9 = 2
    · rw [h2]
      rw [if_neg (by decide), if_pos rfl, if_neg (by decide), if_pos rfl]
      have h3 := hR _ (hf j hj h2)
      have : z_gr (true, (0, sl, kc, Rf), I, J) t i j = z_gr (false, (102, sl, kc, Rf), I, J) t i j := by
        by_cases h11 : t = 11
        · subst h11; rfl
        · show (bif Nat.beq t 11 then _ else _) = Rf t i j
          rw [z_beq_f h11]
          exact h3.symm
      rw [this]
    · rw [if_neg h2, if_neg h2]
section
variable {G : z_G} {L : Nat} {xs : Nat → Int32} {p : Program} {l : Launch} {e : Env} {R : Room} {s : State} {m : MethodId} {args : Array Value} {below : List Frame} {meth : Method} {c : Code} {Q : State → Prop} {n0 s0 : Nat} {M0 : z_M}
variable {y pc len a b e' f : Nat} {ki : Int32} {kj : Int64} {ls : List (Option z_V)} {st : List z_V} {M : z_M} {c' : z_C}
/-- a field written, whatever its type, final or not -/
theorem z_putrow {ix t i cc : Nat} {v : Value} {H : Heap} {locs : List Loc} {lsC : Array Slot} {rest : List Value} {cells slots : Nat} (hx : p.tables.exec = Jvm.exec) (hb : c.code = (z_mi y).2.1) (hw : ∀ w ∈ z_tbl, w.before args s = true) (hown : s.vm.findClass (z_nm y).cls = some m.cls) (hnm : meth.name = (z_nm y).name)
    (hK : va_K G.1 z_cl (z_tys G) s) (hP : va_P G.1 z_cl (z_wl G M) H) (hS : va_S (z_A G.2.2.1) s.heap H locs) (hcc : cc < 13) (he : (z_wl G M)[z_off t i]? = some (G.2.2.1 + z_off t i, .inr (cc, z_oc G.2.2.1 M t i cc)))
    (hcl0 : e' < 13) (hfn : z_fn cc = z_fn e') (hT : ∀ k, k < z_fn e' → z_clT cc k = z_clT e' k) (ha : a < z_fn e') (hlk : (Cond.fieldLink (z_nm y).cls ix (z_fd e' a).1 (z_fd e' a).2.1 (z_fd e' a).2.2.1).before args s = true)
    (hfin : (bif (z_fd e' a).2.2.2 then decide ((z_nm y).name = "<init>") && decide ((z_fd e' a).1 = (z_nm y).cls) else true) = true) (hnar : narrow (z_ty cc a) v = v) (hfit : fits (z_ty cc a) v = true) (hd : decode (z_mi y).2.1 pc = .ok (.putfield ix, 3))
    (kk : ∀ (H1 : Heap) (locs1 : List Loc), va_P G.1 z_cl ((z_wl G M).set (z_off t i) (G.2.2.1 + z_off t i, .inr (cc, (z_oc G.2.2.1 M t i cc).set a v))) H1 → va_S (z_A G.2.2.1) s.heap H1 locs1 → W p l e R s m args below meth c H1 locs1 cells slots Q (F0 m (pc + 3) lsC rest)) :
    W p l e R s m args below meth c H locs cells slots Q (F0 m pc lsC (v :: .ref (G.2.2.1 + z_off t i) :: rest)) := by
  have hcl := z_cl_at cc hcc
  have hTa := hT a ha
  have hfd : z_fd e' a = z_clT e' a := rfl
  rw [hfd, ← hTa] at hlk hfin
  have ha' : a < z_fn cc := by rw [hfn]; exact ha
  cases hf : (z_clT cc a).2.2.2 with
  | true =>
    rw [hf] at hfin
    simp only [cond_true, Bool.and_eq_true, decide_eq_true_eq] at hfin
    exact va_putF (C := z_cn cc) (T := z_clT cc) (N := z_fn cc) hx hb hw (z_lays cc hcc) (z_ty cc) (z_cls_ty cc hcc) (z_cls_nm cc hcc) hown hK hP (z_wl_D G M) hS (z_off t i) he hcl a ha' hlk (fun x q => q) hf (hnm.trans hfin.1) hfin.2 (z_cls_ty cc hcc a ha') hnar hfit (by rw [z_oc_len]; exact ha') hd (fun H1 locs1 q1 q2 q3 => kk H1 locs1 q1 q3)
  | false =>
    exact va_put (C := z_cn cc) (T := z_clT cc) (N := z_fn cc) hx hb hw (z_lays cc hcc) (z_ty cc) (z_cls_ty cc hcc) (z_cls_nm cc hcc) hown hK hP (z_wl_D G M) hS (z_off t i) he hcl a ha' hlk (fun x q => q) hf (z_cls_ty cc hcc a ha') hnar hfit (by rw [z_oc_len]; exact ha') hd (fun H1 locs1 q1 q2 q3 => kk H1 locs1 q1 q3)
theorem z_s_putfield {ix : Nat} (F : z_Fx G L xs p s m meth c y M0) (hcd : z_cd y pc = some (.putfield ix, len, (a, b, e', f), ki, kj)) (h : z_step (y, pc, ls, st, M) = Sum.inl c') (K : z_K G L xs p l e R s m args below meth c Q n0 s0 c') : z_K G L xs p l e R s m args below meth c Q n0 s0 (y, pc, ls, st, M) := by
  obtain ⟨hd, ho, hn⟩ := z_cd_ok hcd
  have hw := F.words args
  obtain ⟨hx, hb, hml, hown, -, -, hnm, hSt⟩ := F
  obtain ⟨-, hsz0, -, -, hK, hwd, hE⟩ := hSt
  simp only [z_step, hcd] at h
  simp only [z_oke, Bool.and_eq_true] at ho
  obtain ⟨⟨⟨⟨⟨ho1, ho2⟩, ho3⟩, ho4⟩, ho5⟩, ho6⟩ := ho
  obtain rfl : len = 3 := Nat.eq_of_beq_eq_true ho1
  have ho2 : e' < 13 := Nat.le_of_ble_eq_true ho2
  have ho3 : a < z_fn e' := Nat.le_of_ble_eq_true ho3
  have ho4 := Nat.eq_of_beq_eq_true ho4
  have hf0 : f = 0 := Nat.eq_of_beq_eq_true ho5
  have ne99 : e' ≠ 99 := by omega
  have hlk := hw _ (hn (.fieldLink (z_nm y).cls ix (z_fd e' a).1 (z_fd e' a).2.1 (z_fd e' a).2.2.1) (by simp [z_need, ne99, hf0]) rfl)
  split at h
  · -- an int or a boolean
    next x t i r =>
    cases hg : ((bif Nat.beq t 32 then Nat.beq e' 3 else decide (z_tc t = some e')) && (Nat.beq b 0 || (Nat.beq b 3 && z_nr 1 x)) && z_g M t i) with
    | false => rw [hg] at h; cases h
    | true =>
      rw [hg] at h
      cases h
      simp only [Bool.and_eq_true, Bool.or_eq_true] at hg
      obtain ⟨⟨g1, g2⟩, g3⟩ := hg
      intro H locs lsC hR hl
      obtain ⟨hP, hsz, hk, hsc, hS⟩ := id hR
      obtain ⟨cc, q1, q2, q3, q4, q5, q6, q7, q8⟩ := z_obj G hk g3 g1
      have hty := z_cls_tc cc q1 a (by rw [q4]; exact ho3)
      rw [q5, ← ho4] at hty
      have hnf : narrow (z_ty cc a) (.int x) = .int x ∧ fits (z_ty cc a) (.int x) = true := by
        rcases g2 with g2 | ⟨g2, g4⟩
        · obtain rfl : b = 0 := Nat.eq_of_beq_eq_true g2
          rcases hty with ⟨-, h1⟩ | ⟨h1, -⟩ | ⟨h1, -⟩ | ⟨h1, -⟩
          · rw [h1]; exact ⟨rfl, rfl⟩
          all_goals cases h1
        · obtain rfl : b = 3 := Nat.eq_of_beq_eq_true g2
          have hx01 : x = 0 ∨ x = 1 := by
            have : (x == 0 || x == 1) = true := g4
            simpa using this
          rcases hty with ⟨h1, -⟩ | ⟨h1, -⟩ | ⟨-, h1⟩ | ⟨h1, -⟩
          · cases h1
          · cases h1
          · rw [h1]; rcases hx01 with rfl | rfl <;> exact ⟨rfl, rfl⟩
          · cases h1
      have hb2 : b ≠ 1 ∧ b ≠ 2 := by
        rcases g2 with g2 | ⟨g2, -⟩ <;> (have := Nat.eq_of_beq_eq_true g2; omega)
      simp only [List.map_cons]
      rw [z_tv_h q6]
      refine z_putrow (e' := e') hx hb hw hown hnm hK hP hS q1 q3 ho2 q4 q7 ho3 hlk ho6 hnf.1 hnf.2 hd fun H1 locs1 hP1 hS1 => ?_
      refine K H1 locs1 lsC ⟨?_, hsz, hk, z_scr_up hsc q6, hS1⟩ hl
      have e1 := z_wl_set G (M' := (M.1, M.2.1, z_up M.2.2.1 t i a x, M.2.2.2)) g3 rfl (fun t' i' hne => z_cE_congr rfl (fun j => z_up_ne hne) (fun j => rfl) (fun j => rfl))
      show va_P _ _ (z_wl G (M.1, M.2.1, z_up M.2.2.1 t i a x, M.2.2.2)) H1
      rw [e1]
      have e2 : z_cE G (M.1, M.2.1, z_up M.2.2.1 t i a x, M.2.2.2) t i = .inr (cc, (z_oc G.2.2.1 M t i cc).set a (.int x)) := by
        unfold z_cE
        rw [q8]
        have q2' : z_co (M.1, M.2.1, z_up M.2.2.1 t i a x, M.2.2.2) t i = some cc := q2
        rw [q2']
        show Sum.inr (cc, z_oc G.2.2.1 _ t i cc) = _
        rw [z_oc_set (M := M) (k := a) (v := .int x) (by rw [q4]; exact ho3)]
        · rw [q5, ← ho4]
          unfold z_fv
          rw [if_neg hb2.1, if_neg hb2.2]
          show Value.int (z_up M.2.2.1 t i a x t i a) = _
          rw [z_up_at, if_pos rfl]
        · intro j hj hne
          unfold z_fv
          show (if _ then _ else if _ then _ else Value.int (z_up M.2.2.1 t i a x t i j)) = _
          rw [z_up_at, if_neg hne]
          rfl
      rw [e2]
      exact hP1
  · -- a long
    next x t i r =>
    cases hg : (decide (z_tc t = some e') && Nat.beq b 1 && z_g M t i) with
    | false => rw [hg] at h; cases h
    | true =>
      rw [hg] at h
      cases h
      simp only [Bool.and_eq_true, decide_eq_true_eq] at hg
      obtain ⟨⟨g1, g2⟩, g3⟩ := hg
      obtain rfl : b = 1 := Nat.eq_of_beq_eq_true g2
      intro H locs lsC hR hl
      obtain ⟨hP, hsz, hk, hsc, hS⟩ := id hR
      have h32 : t ≠ 32 := (z_tc13 t (z_tc_lt' g1) _ g1).2.2
      obtain ⟨cc, q1, q2, q3, q4, q5, q6, q7, q8⟩ := z_obj G hk g3 (cl0 := e') (by rw [z_beq_f h32]; exact decide_eq_true g1)
      have hty := z_cls_tc cc q1 a (by rw [q4]; exact ho3)
      rw [q5, ← ho4] at hty
      have hnf : narrow (z_ty cc a) (.long x) = .long x ∧ fits (z_ty cc a) (.long x) = true := by
        rcases hty with ⟨h1, -⟩ | ⟨-, h1⟩ | ⟨h1, -⟩ | ⟨h1, -⟩
        · cases h1
        · rw [h1]; exact ⟨rfl, rfl⟩
        · cases h1
        · cases h1
      simp only [List.map_cons]
      rw [z_tv_h q6]
      refine z_putrow (e' := e') hx hb hw hown hnm hK hP hS q1 q3 ho2 q4 q7 ho3 hlk ho6 hnf.1 hnf.2 hd fun H1 locs1 hP1 hS1 => ?_
      refine K H1 locs1 lsC ⟨?_, hsz, hk, hsc, hS1⟩ hl
      have e1 := z_wl_set G (M' := (M.1, M.2.1, M.2.2.1, z_up M.2.2.2 t i a x)) g3 rfl (fun t' i' hne => z_cE_congr rfl (fun j => rfl) (fun j => z_up_ne hne) (fun j => rfl))
      show va_P _ _ (z_wl G (M.1, M.2.1, M.2.2.1, z_up M.2.2.2 t i a x)) H1
      rw [e1]
      have e2 : z_cE G (M.1, M.2.1, M.2.2.1, z_up M.2.2.2 t i a x) t i = .inr (cc, (z_oc G.2.2.1 M t i cc).set a (.long x)) := by
        unfold z_cE
        rw [q8]
        have q2' : z_co (M.1, M.2.1, M.2.2.1, z_up M.2.2.2 t i a x) t i = some cc := q2
        rw [q2']
        show Sum.inr (cc, z_oc G.2.2.1 _ t i cc) = _
        rw [z_oc_set (M := M) (k := a) (v := .long x) (by rw [q4]; exact ho3)]
        · rw [q5, ← ho4]
          unfold z_fv
          rw [if_pos rfl]
          show Value.long (z_up M.2.2.2 t i a x t i a) = _
          rw [z_up_at, if_pos rfl]
        · intro j hj hne
          unfold z_fv
          show (if _ then Value.long (z_up M.2.2.2 t i a x t i j) else if _ then _ else _) = _
          rw [z_up_at, if_neg hne]
          rfl
      rw [e2]
      exact hP1
  · -- a reference, while all is made
    next x t i r =>
    cases hg : (decide (z_tc t = some e') && Nat.beq b 2 && Nat.blt x.1 64 && (bif M.1 then false else true) && z_g M t i) with
    | false => rw [hg] at h; cases h
    | true =>
      rw [hg] at h
      simp only [Bool.and_eq_true, decide_eq_true_eq] at hg
      obtain ⟨⟨⟨⟨g1, g2⟩, g4⟩, g5⟩, g3⟩ := hg
      obtain rfl : b = 2 := Nat.eq_of_beq_eq_true g2
      have g4 : x.1 < 64 := Nat.le_of_ble_eq_true g4
      have hM : M.1 = false := by
        cases q : M.1 with
        | false => rfl
        | true => rw [q] at g5; cases g5
      -- the memory behind the write, in the first phase
      have main : ∀ M2 : z_M, z_wl G M2 = z_wl G (false, (M.2.1.1, M.2.1.2.1, M.2.1.2.2.1, z_up M.2.1.2.2.2 t i a (some x)), M.2.2.1, M.2.2.2) → z_nc M2 = z_nc M → z_sl M2 = z_sl M → z_kok M2 → (∀ j k, M2.2.2.1 67 j k = M.2.2.1 67 j k) → z_K G L xs p l e R s m args below meth c Q n0 s0 (y, pc + 3, ls, r, M2) → z_K G L xs p l e R s m args below meth c Q n0 s0 (y, pc, ls, Sum.inr (Sum.inr (Sum.inl x)) :: Sum.inr (Sum.inr (Sum.inl (t, i))) :: r, M) := by
        intro M2 hwl hnc hsl hkok hI K
        intro H locs lsC hR hl
        obtain ⟨hP, hsz, hk, hsc, hS⟩ := id hR
        have h32 : t ≠ 32 := (z_tc13 t (z_tc_lt' g1) _ g1).2.2
        obtain ⟨cc, q1, q2, q3, q4, q5, q6, q7, q8⟩ := z_obj G hk g3 (cl0 := e') (by rw [z_beq_f h32]; exact decide_eq_true g1)
        have hty := z_cls_tc cc q1 a (by rw [q4]; exact ho3)
        rw [q5, ← ho4] at hty
        have hnf : narrow (z_ty cc a) (.ref (z_addr G.2.2.1 x)) = .ref (z_addr G.2.2.1 x) ∧ fits (z_ty cc a) (.ref (z_addr G.2.2.1 x)) = true := by
          rcases hty with ⟨h1, -⟩ | ⟨h1, -⟩ | ⟨h1, -⟩ | ⟨-, h1, h2, h3⟩
          · cases h1
          · cases h1
          · cases h1
          · cases hz : z_ty cc a <;> rw [hz] at h3 <;> first | exact ⟨rfl, rfl⟩ | cases h3
        simp only [List.map_cons]
        rw [z_tv_h q6]
        rw [show z_tv G (Sum.inr (Sum.inr (Sum.inl x))) = .ref (z_addr G.2.2.1 x) from z_tv_h g4]
        have hcell : z_nc M - n0 = z_nc M2 - n0 := by rw [hnc]
        have hslot : z_sl M - s0 = z_sl M2 - s0 := by rw [hsl]
        show W p l e R s m args below meth c H locs (z_nc M - n0) (z_sl M - s0) Q _
        rw [hcell, hslot]
        refine z_putrow (e' := e') hx hb hw hown hnm hK hP hS q1 q3 ho2 q4 q7 ho3 hlk ho6 hnf.1 hnf.2 hd fun H1 locs1 hP1 hS1 => ?_
        refine K H1 locs1 lsC ⟨?_, by rw [show z_nc ((y, pc + 3, ls, r, M2) : z_C).2.2.2.2 = z_nc M from hnc]; exact hsz, hkok, ⟨(hI 1 0).trans hsc.1, fun j hj => (hI 0 j).trans (hsc.2 j hj)⟩, hS1⟩ hl
        show va_P _ _ (z_wl G M2) H1
        rw [hwl]
        have hgr : ∀ t' i' j', z_gr (false, (M.2.1.1, M.2.1.2.1, M.2.1.2.2.1, z_up M.2.1.2.2.2 t i a (some x)), M.2.2.1, M.2.2.2) t' i' j' = if t' = t ∧ i' = i ∧ j' = a then some x else z_gr M t' i' j' := by
          intro t' i' j'
          have := z_gr_up (M := M) (t := t) (i := i) (j := a) (o := some x) (fun q => by rw [hM] at q; cases q) t' i' j'
          rw [hM] at this
          exact this
        have e1 := z_wl_set G (M := M) (M' := (false, (M.2.1.1, M.2.1.2.1, M.2.1.2.2.1, z_up M.2.1.2.2.2 t i a (some x)), M.2.2.1, M.2.2.2)) g3 (by unfold z_nc; rw [hM]) (fun t' i' hne => z_cE_congr rfl (fun j => rfl) (fun j => rfl) (fun j => by rw [hgr, if_neg (fun q => hne ⟨q.1, q.2.1⟩)]))
        rw [e1]
        have e2 : z_cE G (false, (M.2.1.1, M.2.1.2.1, M.2.1.2.2.1, z_up M.2.1.2.2.2 t i a (some x)), M.2.2.1, M.2.2.2) t i = .inr (cc, (z_oc G.2.2.1 M t i cc).set a (.ref (z_addr G.2.2.1 x))) := by
          unfold z_cE
          rw [q8]
          have q2' : z_co (false, (M.2.1.1, M.2.1.2.1, M.2.1.2.2.1, z_up M.2.1.2.2.2 t i a (some x)), M.2.2.1, M.2.2.2) t i = some cc := q2
          rw [q2']
          show Sum.inr (cc, z_oc G.2.2.1 _ t i cc) = _
          rw [z_oc_set (M := M) (k := a) (v := .ref (z_addr G.2.2.1 x)) (by rw [q4]; exact ho3)]
          · rw [q5, ← ho4]
            unfold z_fv
            rw [if_neg (by decide), if_pos rfl, hgr, if_pos ⟨rfl, rfl, rfl⟩]
            rfl
          · intro j hj hne
            unfold z_fv
            rw [hgr, if_neg (c := t = t ∧ i = i ∧ j = a) (fun q => hne q.2.2)]
        rw [e2]
        exact hP1
      have hkk : z_kok M → ∀ (P : Bool) (n' : Nat), (P = true → n' = 0) → z_kok (P, (n', M.2.1.2.1, M.2.1.2.2.1, z_up M.2.1.2.2.2 t i a (some x)), M.2.2.1, M.2.2.2) := by
        intro hk P n' hn'
        refine ⟨fun hp k hk0 => ?_, fun t' i' j' q hq => ?_⟩
        · have hk0 : k < n' := hk0
          rw [hn' hp] at hk0
          omega
        · have hq : z_up M.2.1.2.2.2 t i a (some x) t' i' j' = some q := hq
          unfold z_up at hq
          split at hq
          · cases hq; exact g4
          · exact hk.2 _ _ _ _ hq
      cases hdn : z_done M.2.1.1 (z_up M.2.1.2.2.2 t i a (some x)) with
      | true =>
        simp only [cond_true, hdn] at h
        cases h
        intro H locs lsC hR hl
        have h102 := (z_done_spec hdn).1
        exact main _ (z_turn G hdn) (by unfold z_nc; rw [hM, h102]; rfl) rfl (hkk hR.2.2.1 true 0 (fun _ => rfl)) (fun _ _ => rfl) K H locs lsC hR hl
      | false =>
        simp only [cond_true, hdn, cond_false] at h
        cases h
        intro H locs lsC hR hl
        exact main _ rfl (by unfold z_nc; rw [hM]) rfl (hkk hR.2.2.1 false _ (fun q => by cases q)) (fun _ _ => rfl) K H locs lsC hR hl
  · cases h
end
