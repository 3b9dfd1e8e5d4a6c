/-! rows of references and fields: writes -/
section
variable {G : z_G} {L : Nat} {xs : Nat → Int32} {p : Program} {l : Launch} {e : Env} {R : Room} {s : State} {m : MethodId} {args : Array Value} {below : List Frame} {meth : Method} {c : Code} {Q : State → Prop} {n0 s0 : Nat} {M0 : z_M}
variable {y pc len a b e' f : Nat} {ki : Int32} {kj : Int64} {ls : List (Option z_V)} {st : List z_V} {M : z_M} {c' : z_C}
theorem z_co_lt {t i cc : Nat} (hk : z_kok M) (hg : z_g M t i = true) (h : z_co M t i = some cc) : cc < 13 ∧ (z_wl G M)[z_off t i]? = some (G.2.2.1 + z_off t i, .inr (cc, z_oc G.2.2.1 M t i cc)) ∧ t < 64 := by
  by_cases h32 : t = 32
  · subst h32
    obtain ⟨c2, q1, q2, q3, -, -, q6, -⟩ := z_obj G (cl0 := 3) hk hg rfl
    rw [h] at q2
    cases q2
    exact ⟨q1, q3, q6⟩
  · have h1 : z_tc t = some cc := by
      unfold z_co at h
      rw [z_beq_f h32] at h
      exact h
    obtain ⟨c2, q1, q2, q3, -, -, q6, -⟩ := z_obj G (cl0 := cc) hk hg (by rw [z_beq_f h32]; exact decide_eq_true h1)
    rw [h] at q2
    cases q2
    exact ⟨q1, q3, q6⟩
theorem z_fit_any (hk : z_kok M) {H : Heap} (hK : va_K G.1 z_cl (z_tys G) s) (hP : va_P G.1 z_cl (z_wl G M) H) (hw : ∀ w ∈ z_tbl, va_Nw w s) {k : Nat} (hk3 : k < 3) {v : z_V} {o : Option (Nat × Nat)} (h : z_fit M (k + 2) v = some o) :
    (v = z_n ∧ o = none) ∨ ∃ t i, v = z_r t i ∧ o = some (t, i) ∧ t < 64 ∧ va_Any (z_ec (k + 2)) s H (G.2.2.1 + z_off t i) := by
  unfold z_fit at h
  split at h
  · cases h; exact Or.inl ⟨rfl, rfl⟩
  · next t i =>
    cases hg : z_g M t i with
    | false => rw [hg] at h; cases h
    | true =>
      rw [hg] at h
      simp only [cond_true] at h
      split at h
      · cases h
      · next cc hc =>
        obtain ⟨q1, q2, q3⟩ := z_co_lt (G := G) hk hg hc
        have hcl := z_cl_at cc q1
        cases hb : (bif Nat.beq (k + 2) 2 then Nat.beq cc 2 else bif Nat.beq (k + 2) 4 then Nat.beq cc 4 else (([0, 3, 5, 6] : List Nat).contains cc)) with
        | false => rw [hb] at h; cases h
        | true =>
          rw [hb] at h
          cases h
          refine Or.inr ⟨t, i, rfl, rfl, q3, va_rAny hK hP q2 hcl ?_⟩
          intro comp c0 f1 f2
          match k, hk3 with
          | 0, _ =>
            obtain rfl : cc = 2 := Nat.eq_of_beq_eq_true hb
            exact vb_asgS comp c0 f1 f2
          | 2, _ =>
            obtain rfl : cc = 4 := Nat.eq_of_beq_eq_true hb
            exact vb_asgS comp c0 f1 f2
          | 1, _ =>
            have hb : cc ∈ ([0, 3, 5, 6] : List Nat) := by simpa using hb
            have key : ∀ C : String, C ≠ "ShareNets$Share" → Cond.castable C "ShareNets$Share" ∈ z_tbl → s.vm.findClass C = some c0 → s.vm.assignable c0 comp = true := by
              intro C _ hm hf
              obtain ⟨c1, t1, g1, g2, g3⟩ := Cond.castable_spec (va_Nw.use (A := #[]) rfl (hw _ hm))
              cases g1.symm.trans hf
              cases g2.symm.trans f1
              exact g3
            simp only [List.mem_cons, List.not_mem_nil, or_false] at hb
            rcases hb with rfl | rfl | rfl | rfl
            · exact key _ (by decide) (z_tbl_of (List.mem_of_getElem? (i := 1730) (by decide +kernel)) rfl) f2
            · exact vb_asgS comp c0 f1 f2
            · exact key _ (by decide) (z_tbl_of (List.mem_of_getElem? (i := 1729) (by decide +kernel)) rfl) f2
            · exact key _ (by decide) (z_tbl_of (List.mem_of_getElem? (i := 1728) (by decide +kernel)) rfl) f2
  · cases h
theorem z_s_aastore (F : z_Fx G L xs p s m meth c y M0) (hcd : z_cd y pc = some (.aastore, len, (a, b, e', f), ki, kj)) (h : z_step (y, pc, ls, st, M) = Sum.inl c') (K : z_K G L xs p l e R s m args below meth c Q n0 s0 c') : z_K G L xs p l e R s m args below meth c Q n0 s0 (y, pc, ls, st, M) := by
  obtain ⟨hd, ho, hn⟩ := z_cd_ok hcd
  obtain ⟨hx, hb, hml, hown, -, -, -, hSt⟩ := F
  obtain ⟨-, hsz0, -, -, hK, hwd, hE⟩ := hSt
  simp only [z_step, hcd] at h
  obtain rfl : len = 1 := Nat.eq_of_beq_eq_true ho
  split at h
  · next v x t i r =>
    split at h
    · next k n hta =>
      split at h
      · next o hfit =>
        cases hg : (z_g M t i && z_in x n && (bif M.1 then Nat.beq t 11 else true)) with
        | false => rw [hg] at h; cases h
        | true =>
          rw [hg] at h
          cases h
          simp only [Bool.and_eq_true] at hg
          obtain ⟨⟨hg1, hg2⟩, hg3⟩ := hg
          have h11 : M.1 = true → t = 11 := fun q => by rw [q] at hg3; exact Nat.eq_of_beq_eq_true hg3
          intro H locs lsC hR hl
          obtain ⟨hP, hsz, hk, hsc, hS⟩ := id hR
          have ht := z_ta_lt hta
          obtain ⟨k5, -, -⟩ := z_ta5 t ht _ _ hta
          have hin := z_in_of hg2
          have hlt : x.toNatClampNeg < n := Nat.not_le.mp fun q => hin (Or.inr q)
          have hA := z_arr G hg1 hta
          have e1 : ∀ N : z_M, z_ac G.2.2.1 N t i (k + 2) n = .inr (.inr (.inr (.inr (fun j => if j < n then (z_gr N t i j).map (z_addr G.2.2.1) else none)))) := by
            intro N
            unfold z_ac
            rw [if_neg (by omega), if_neg (by omega)]
          rw [e1] at hA
          have hkok : (∀ q, o = some q → q.1 < 64) → z_kok (M.1, (M.2.1.1, M.2.1.2.1, M.2.1.2.2.1, z_up M.2.1.2.2.2 t i x.toNatClampNeg o), M.2.2.1, M.2.2.2) := by
            intro ho
            refine ⟨hk.1, fun t' i' j' q hq => ?_⟩
            have hq : z_up M.2.1.2.2.2 t i x.toNatClampNeg o t' i' j' = some q := hq
            unfold z_up at hq
            split at hq
            · exact ho q hq
            · exact hk.2 _ _ _ _ hq
          have fin : ∀ (H1 : Heap) (locs1 : List Loc), (∀ q, o = some q → q.1 < 64) → va_P G.1 z_cl ((z_wl G M).set (z_off t i) (G.2.2.1 + z_off t i, .inl (G.2.1 (k + 2), n, .inr (.inr (.inr (.inr (va_up (fun j => if j < n then (z_gr M t i j).map (z_addr G.2.2.1) else none) x.toNatClampNeg (o.map (z_addr G.2.2.1))))))))) H1 → va_S (z_A G.2.2.1) s.heap H1 locs1 → W p l e R s m args below meth c H1 locs1 (z_nc M - n0) (z_sl M - s0) Q (F0 m (pc + 1) lsC (r.map (z_tv G))) := by
            intro H1 locs1 ho hP1 hS1
            refine K H1 locs1 lsC ⟨?_, hsz, hkok ho, hsc, hS1⟩ hl
            have e3 := z_wl_set G (M' := (M.1, (M.2.1.1, M.2.1.2.1, M.2.1.2.2.1, z_up M.2.1.2.2.2 t i x.toNatClampNeg o), M.2.2.1, M.2.2.2)) hg1 rfl (fun t' i' hne => z_cE_congr rfl (fun j => rfl) (fun j => rfl) (fun j => by rw [z_gr_up h11, if_neg (fun q => hne ⟨q.1, q.2.1⟩)]))
            show va_P _ _ (z_wl G _) H1
            rw [e3]
            have e4 : z_cE G (M.1, (M.2.1.1, M.2.1.2.1, M.2.1.2.2.1, z_up M.2.1.2.2.2 t i x.toNatClampNeg o), M.2.2.1, M.2.2.2) t i = .inl (G.2.1 (k + 2), n, .inr (.inr (.inr (.inr (va_up (fun j => if j < n then (z_gr M t i j).map (z_addr G.2.2.1) else none) x.toNatClampNeg (o.map (z_addr G.2.2.1))))))) := by
              unfold z_cE
              rw [hta]
              dsimp only
              rw [e1]
              congr 7
              funext j
              rw [z_gr_up h11]
              unfold va_up
              by_cases hj : j = x.toNatClampNeg
              · rw [if_pos (by rw [hj]; exact hlt), if_pos ⟨rfl, rfl, hj⟩, if_pos hj]
              · rw [if_neg (c := t = t ∧ i = i ∧ j = x.toNatClampNeg) (fun q => hj q.2.2), if_neg hj]
            rw [e4]
            exact hP1
          simp only [List.map_cons]
          rw [z_tv_h ht]
          rcases z_fit_any hk hK hP hwd (by omega) hfit with ⟨rfl, rfl⟩ | ⟨tv, iv, rfl, rfl, g1, g2⟩
          · refine va_astqN hx hb hK hP (z_wl_D G M) hS (z_off t i) (k + 2) hA (z_ec_ty k (by omega)) hin hd fun H1 locs1 hP1 hD1 hS1 => ?_
            exact fin H1 locs1 (fun q hq => by cases hq) hP1 hS1
          · rw [z_tv_h g1]
            refine va_astqM hx hb hK hP (z_wl_D G M) hS (z_off t i) (k + 2) hA (z_ec_ty k (by omega)) g2 hin hd fun H1 locs1 hP1 hD1 hS1 => ?_
            exact fin H1 locs1 (fun q hq => by cases hq; exact g1) hP1 hS1
      · cases h
    · cases h
  · cases h
/-- an object's fields, one of them written -/
theorem z_oc_set {B : Nat} {M' : z_M} {t i cc k : Nat} {v : Value} (hk : k < z_fn cc) (hv : z_fv B M' t i k ((z_ftl.getD cc []).getD k 9) = v) (ho : ∀ j, j < z_fn cc → j ≠ k → z_fv B M' t i j ((z_ftl.getD cc []).getD j 9) = z_fv B M t i j ((z_ftl.getD cc []).getD j 9)) : z_oc B M' t i cc = (z_oc B M t i cc).set k v := by
  apply List.ext_getElem?
  intro j
  by_cases hj : j < z_fn cc
  · rw [z_oc_at hj]
    by_cases e : j = k
    · subst e
      rw [List.getElem?_set_self (by rw [z_oc_len]; exact hj), hv]
    · rw [List.getElem?_set_ne (fun q => e q.symm), z_oc_at hj, ho j hj e]
  · rw [List.getElem?_eq_none (by rw [z_oc_len]; omega), List.getElem?_eq_none (by rw [List.length_set, z_oc_len]; omega)]
end
