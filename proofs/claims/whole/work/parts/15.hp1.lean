/-! instructions that read our cells or what lies outside -/
theorem z_in_of {x : Int32} {n : Nat} (h : z_in x n = true) : vp_in x n := of_decide_eq_true (p := ¬ (x < 0 ∨ n ≤ x.toNatClampNeg)) h
section
variable {G : z_G} {L : Nat} {xs : Nat → Int32} {p : Program} {l : Launch} {e : Env} {R : Room} {s : State} {m : MethodId} {args : Array Value} {below : List Frame} {meth : Method} {c : Code} {Q : State → Prop} {n0 s0 : Nat} {M0 : z_M}
variable {y pc len a b e' f : Nat} {ki : Int32} {kj : Int64} {ls : List (Option z_V)} {st : List z_V} {M : z_M} {c' : z_C}
/-- an object's cell -/
theorem z_obj (G : z_G) {t i cl0 : Nat} (hk : z_kok M) (hg : z_g M t i = true) (ht : (bif Nat.beq t 32 then Nat.beq cl0 3 else decide (z_tc t = some cl0)) = true) :
    ∃ cc, cc < 13 ∧ z_co M t i = some cc ∧ (z_wl G M)[z_off t i]? = some (G.2.2.1 + z_off t i, .inr (cc, z_oc G.2.2.1 M t i cc)) ∧ z_fn cc = z_fn cl0 ∧ z_ftl.getD cc [] = z_ftl.getD cl0 [] ∧ t < 64 ∧ (∀ k, k < z_fn cl0 → z_clT cc k = z_clT cl0 k) ∧ z_ta t = none := by
  obtain ⟨g1, g2, g3, g4⟩ := z_g_off hg
  have hw := z_wl_get G hg
  by_cases ht32 : t = 32
  · subst ht32
    have he : cl0 = 3 := Nat.eq_of_beq_eq_true ht
    subst he
    have hm := hk.1 (g4 rfl).1 i (g4 rfl).2
    obtain ⟨q1, q2, q3, q4⟩ := z_cls_sh _ hm
    exact ⟨_, q1, rfl, hw, q2.trans rfl, q3, by decide, fun k hk => q4 k hk, rfl⟩
  · rw [z_beq_f ht32] at ht
    have ht : z_tc t = some cl0 := of_decide_eq_true ht
    obtain ⟨q1, q2, q3⟩ := z_tc13 t g3 cl0 ht
    have hc : z_co M t i = some cl0 := by unfold z_co; rw [z_beq_f ht32]; exact ht
    refine ⟨cl0, q1, hc, ?_, rfl, rfl, g3, fun _ _ => rfl, q2⟩
    rw [hw]
    unfold z_cE
    rw [q2, hc]
    rfl
theorem z_oc_at {B : Nat} {t i cc k : Nat} (h : k < z_fn cc) : (z_oc B M t i cc)[k]? = some (z_fv B M t i k ((z_ftl.getD cc []).getD k 9)) := by
  simp [z_oc, h]
theorem z_oc_len {B : Nat} {t i cc : Nat} : (z_oc B M t i cc).length = z_fn cc := by simp [z_oc]
/-- the words of a class's fields -/
theorem z_tv_h {t i : Nat} (h : t < 64) : z_tv G (z_r t i) = .ref (G.2.2.1 + z_off t i) := by
  show (if t < 64 then _ else _) = _
  rw [if_pos h]
theorem z_tv_x {t i : Nat} (h : 64 ≤ t) : z_tv G (z_r t i) = G.2.2.2 t i := by
  show (if t < 64 then _ else _) = _
  rw [if_neg (by omega)]
theorem z_s_getfield {ix : Nat} (F : z_Fx G L xs p s m meth c y M0) (hcd : z_cd y pc = some (.getfield ix, len, (a, b, e', f), ki, kj)) (h : z_step (y, pc, ls, st, M) = Sum.inl c') (K : z_K G L xs p l e R s m args below meth c Q n0 s0 c') : z_K G L xs p l e R s m args below meth c Q n0 s0 (y, pc, ls, st, M) := by
  obtain ⟨hd, ho, hn⟩ := z_cd_ok hcd
  have hw := F.words args
  obtain ⟨hx, hb, hml, hown, -, -, -, hSt⟩ := F
  obtain ⟨-, -, -, -, hK, -, hE⟩ := hSt
  simp only [z_step, hcd] at h
  simp only [z_oke, Bool.and_eq_true] at ho
  obtain ⟨ho1, ho⟩ := ho
  obtain rfl : len = 3 := Nat.eq_of_beq_eq_true ho1
  split at h
  · next t i r =>
    cases h99 : Nat.beq e' 99 with
    | true =>
      rw [h99] at h ho
      have e99 := Nat.eq_of_beq_eq_true h99
      have ha2 : a < 2 := Nat.le_of_ble_eq_true ho
      cases hg : (Nat.beq t 64 && decide (i < 4)) with
      | false => rw [hg] at h; cases h
      | true =>
        rw [hg] at h
        cases h
        simp only [Bool.and_eq_true, decide_eq_true_eq] at hg
        obtain ⟨g1, g2⟩ := hg
        have ht := Nat.eq_of_beq_eq_true g1
        subst ht
        obtain ⟨-, ⟨adK, adV, k1, k2, -⟩, -⟩ := hE
        obtain ⟨s1, s2, s3, -⟩ := k2.1 i g2
        intro H locs lsC hR hl
        have K1 := K H locs lsC hR hl
        simp only [List.map_cons] at K1 ⊢
        rw [z_tv_x (by decide), (k1 i g2).1]
        have ha : a = 0 ∨ a = 1 := by omega
        rcases ha with rfl | rfl
        · have hlk := hw _ (hn (.fieldLink (z_nm y).cls ix "java/lang/String" "value" "[B") (by simp [z_need, e99]) rfl)
          have K2 : z_tv G (z_r 65 i) = .ref (adV i) := by rw [z_tv_x (by decide)]; exact (k1 i g2).2
          simp only [show Nat.beq 0 0 = true from rfl, cond_true] at K1
          rw [K2] at K1
          exact vk_getf hx hb s3 hR.2.2.2.2 hown hlk (fun x q => q) hd K1
        · have hlk := hw _ (hn (.fieldLink (z_nm y).cls ix "java/lang/String" "coder" "B") (by simp [z_need, e99]) rfl)
          exact vk_getf hx hb s2 hR.2.2.2.2 hown hlk (fun x q => q) hd K1
    | false =>
      rw [h99] at h ho
      simp only [cond_false, Bool.and_eq_true] at ho
      obtain ⟨⟨o1, o2⟩, o3⟩ := ho
      have o2 : a < z_fn e' := Nat.le_of_ble_eq_true o2
      have o3 := Nat.eq_of_beq_eq_true o3
      have ne99 : e' ≠ 99 := fun q => by rw [q] at h99; cases h99
      simp only [cond_false] at h
      cases hg : ((bif Nat.beq t 32 then Nat.beq e' 3 else decide (z_tc t = some e')) && z_g M t i) with
      | false => rw [hg] at h; cases h
      | true =>
        rw [hg] at h
        cases h
        simp only [Bool.and_eq_true] at hg
        obtain ⟨g1, g2⟩ := hg
        intro H locs lsC hR hl
        obtain ⟨hP, hsz, hk, hsc, hS⟩ := id hR
        obtain ⟨cc, q1, q2, q3, q4, q5, q6, q7, -⟩ := z_obj G hk g2 g1
        have K1 := K H locs lsC hR hl
        simp only [List.map_cons] at K1 ⊢
        rw [z_tv_h q6]
        rw [← z_fv_tv hk] at K1
        have hcl := z_cl_at cc q1
        have hv : (z_oc G.2.2.1 M t i cc)[a]? = some (z_fv G.2.2.1 M t i a b) := by
          rw [z_oc_at (by rw [q4]; exact o2), q5, ← o3]
        have hsl : ∀ w ∈ u_ws (z_cn cc) (z_clT cc) (z_fn cc), w ∈ z_tbl := z_lays cc q1
        have hT := q7 a o2
        by_cases hf : f = 0
        · have hlk := hw _ (hn (.fieldLink (z_nm y).cls ix (z_fd e' a).1 (z_fd e' a).2.1 (z_fd e' a).2.2.1) (by simp [z_need, ne99, hf]) rfl)
          exact va_get (C := z_cn cc) (T := z_clT cc) (N := z_fn cc) hx hb hw hsl hown hK hP (z_off t i) q3 hcl a (by rw [q4]; exact o2) (by rw [hT]; exact hlk) (by rw [hT]; exact fun x q => q) hv hd K1
        · have hlk := hw _ (hn (.fieldLink (z_nm y).cls ix (z_nm y).cls (z_fd e' a).2.1 (z_fd e' a).2.2.1) (by simp [z_need, ne99, hf]) rfl)
          have hsm := hw _ (hn (.sameField (z_nm y).cls (z_fd e' a).1 (z_fd e' a).2.1 (z_fd e' a).2.2.1) (by simp [z_need, ne99, hf]) rfl)
          exact va_get (C := z_cn cc) (T := z_clT cc) (N := z_fn cc) hx hb hw hsl hown hK hP (z_off t i) q3 hcl a (by rw [q4]; exact o2) (by rw [hT]; exact hlk) (by rw [hT]; exact u_same hsm) hv hd K1
  · cases h
theorem z_s_getstatic {ix : Nat} (F : z_Fx G L xs p s m meth c y M0) (hcd : z_cd y pc = some (.getstatic ix, len, (a, b, e', f), ki, kj)) (h : z_step (y, pc, ls, st, M) = Sum.inl c') (K : z_K G L xs p l e R s m args below meth c Q n0 s0 c') : z_K G L xs p l e R s m args below meth c Q n0 s0 (y, pc, ls, st, M) := by
  obtain ⟨hd, ho, hn⟩ := z_cd_ok hcd
  have hw := F.words args
  obtain ⟨hx, hb, hml, hown, -, -, -, hSt⟩ := F
  obtain ⟨-, -, -, -, hK, -, hE⟩ := hSt
  obtain ⟨-, -, h4, h5, h6, -⟩ := hE
  simp only [z_step, hcd] at h
  simp only [z_oke, Bool.and_eq_true] at ho
  obtain ⟨⟨ho1, ho2⟩, ho3⟩ := ho
  obtain rfl : len = 3 := Nat.eq_of_beq_eq_true ho1
  have ho2 : a < 6 := Nat.le_of_ble_eq_true ho2
  -- the value that the field holds
  have key : ∀ {v : Value}, va_Z (z_stn a).1 (z_stn a).2.1 (z_stn a).2.2 v (z_A G.2.2.1) s s.heap → ∀ (H : Heap) (locs : List Loc) (lsC : Array Slot) (rest : List Value), va_S (z_A G.2.2.1) s.heap H locs → ∀ cells slots, W p l e R s m args below meth c H locs cells slots Q (F0 m (pc + 3) lsC (v :: rest)) → W p l e R s m args below meth c H locs cells slots Q (F0 m pc lsC rest) := by
    intro v hZ H locs lsC rest hS cells slots k
    by_cases hf : f = 1
    · have hlk := hw _ (hn (.fieldLinkNest (z_nm y).cls ix (z_stn a).1 (z_stn a).2.1 (z_stn a).2.2 "ShareNets") (by simp [z_need, hf]) rfl)
      exact va_getsN hx hb hZ hS hown hlk (fun x q => q) hd k
    · have hlk := hw _ (hn (.fieldLink (z_nm y).cls ix (z_stn a).1 (z_stn a).2.1 (z_stn a).2.2) (by simp [z_need, hf]) rfl)
      exact va_gets hx hb hZ hS hown hlk (fun x q => q) hd k
  by_cases ha : a < 4
  · have hb4 : Nat.blt a 4 = true := by simpa [Nat.blt_eq] using ha
    rw [hb4] at h
    cases h
    intro H locs lsC hR hl
    have K1 := K H locs lsC hR hl
    simp only [List.map_cons] at K1
    obtain ⟨t, q1, q2, -⟩ := h4 a ha
    rw [z_tv_x (by decide), q1] at K1
    exact key q2 H locs lsC _ hR.2.2.2.2 _ _ K1
  · have ha2 : a = 4 ∨ a = 5 := by omega
    rcases ha2 with rfl | rfl
    · cases h
      intro H locs lsC hR hl
      exact key h5 H locs lsC _ hR.2.2.2.2 _ _ (K H locs lsC hR hl)
    · cases h
      intro H locs lsC hR hl
      exact key h6 H locs lsC _ hR.2.2.2.2 _ _ (K H locs lsC hR hl)
theorem z_s_ldc {ix : Nat} (F : z_Fx G L xs p s m meth c y M0) (hcd : z_cd y pc = some (.ldc ix, len, (a, b, e', f), ki, kj)) (h : z_step (y, pc, ls, st, M) = Sum.inl c') (K : z_K G L xs p l e R s m args below meth c Q n0 s0 c') : z_K G L xs p l e R s m args below meth c Q n0 s0 (y, pc, ls, st, M) := by
  obtain ⟨hd, ho, hn⟩ := z_cd_ok hcd
  have hw := F.words args
  obtain ⟨hx, hb, hml, hown, -, -, -, hSt⟩ := F
  obtain ⟨-, -, -, -, hK, -, hE⟩ := hSt
  obtain ⟨-, ⟨adK, adV, k1, -, k3⟩, -⟩ := hE
  simp only [z_step, hcd] at h
  simp only [z_oke, Bool.and_eq_true] at ho
  obtain ⟨ho1, ho⟩ := ho
  obtain rfl : len = 2 := Nat.eq_of_beq_eq_true ho1
  cases h
  intro H locs lsC hR hl
  have K1 := K H locs lsC hR hl
  cases ha : Nat.beq a 1 with
  | true =>
    rw [ha] at ho K1
    simp only [cond_true, Bool.and_eq_true, decide_eq_true_eq] at ho
    obtain ⟨⟨p1, p2⟩, p3⟩ := ho
    have p1 : b < 4 := Nat.le_of_ble_eq_true p1
    have p3 := Nat.eq_of_beq_eq_true p3
    have hr := k3 b p1
    rw [← p3] at hr
    simp only [cond_true, List.map_cons] at K1
    rw [z_tv_x (by decide), (k1 b p1).1] at K1
    rw [p2] at hown
    exact va_ldcS hx hb hown hr hd K1
  | false =>
    rw [ha] at K1
    have hne : ¬ a = 1 := fun q => by rw [q] at ha; cases ha
    have hc := hw _ (hn (.constant (z_nm y).cls ix ki) (by simp [z_need, hne]) rfl)
    exact lv_ldc hx hb hown hc hd K1
end
