/-! virtual calls; Object.<init>; answers -/
section
variable {G : z_G} {L : Nat} {xs : Nat → Int32} {p : Program} {l : Launch} {e : Env} {R : Room} {s : State} {m : MethodId} {args : Array Value} {below : List Frame} {meth : Method} {c : Code} {Q : State → Prop} {n0 s0 : Nat} {M0 : z_M}
variable {y pc len a b e' f : Nat} {ki : Int32} {kj : Int64} {ls : List (Option z_V)} {st : List z_V} {M : z_M} {c' : z_C}
theorem z_call_virtual {ix d1 y1 : Nat} {as1 : List z_V} {c1 : z_C} {r1 : Option z_V × z_M} (F : z_Fx G L xs p s m meth c y M0) (hn0 : n0 = z_nc M0) (hcd : z_cd y pc = some (.invokevirtual ix, len, (a, b, e', f), ki, kj)) (h : z_step (y, pc, ls, st, M) = z_ca y1 as1 c1)
    (hM : z_Met G L xs l d1 y1 as1 M r1) (hRf : d1 + 2 ≤ R.frames) (hRl : 40 * (d1 + 2) ≤ R.locals) (hRc : z_nc r1.2 - n0 ≤ R.cells) (hRs : z_sl r1.2 - s0 ≤ R.slots) (hs0 : s0 ≤ z_sl M) (hnn : z_nc M ≤ z_nc r1.2) (hss : z_sl M ≤ z_sl r1.2)
    (K : z_K G L xs p l e R s m args below meth c Q n0 s0 (c1.1, c1.2.1, c1.2.2.1, r1.1.toList ++ c1.2.2.2.1, r1.2)) : z_K G L xs p l e R s m args below meth c Q n0 s0 (y, pc, ls, st, M) := by
  obtain ⟨hd, ho, hn⟩ := z_cd_ok hcd
  have hw := F.words args
  have hxx := F.ex
  obtain ⟨hx, hb, hml, hown, -, -, hnm, hSt⟩ := F
  have hsz0 := hSt.2.1
  rw [← hn0] at hsz0
  simp only [z_step, hcd] at h
  simp only [z_oke, Bool.and_eq_true, Bool.or_eq_true] at ho
  obtain ⟨ho1, ho⟩ := ho
  obtain rfl : len = 3 := Nat.eq_of_beq_eq_true ho1
  have hbk : (b = 4 ∧ a < 285 ∧ z_pn (z_nm a) e' = true) ∨ (b = 6 ∧ a < 5 ∧ z_pn (z_vx a) e' = true ∧ z_pn (z_nm (z_vo a)) e' = true) := by
    rcases ho with ⟨⟨q1, q2⟩, q3⟩ | ⟨⟨⟨q1, q2⟩, q3⟩, q4⟩
    · exact Or.inl ⟨Nat.eq_of_beq_eq_true q1, Nat.le_of_ble_eq_true q2, q3⟩
    · exact Or.inr ⟨Nat.eq_of_beq_eq_true q1, Nat.le_of_ble_eq_true q2, q3, q4⟩
  have hb2 : ¬ b < 2 := by omega
  obtain ⟨ar, rest, t, i, e1, e2, e3, e4, e5, e6, e7, e8, e9⟩ := z_inv_spec hb2 h
  subst e1; subst e4
  intro H locs lsC hR hl
  have hR : z_Rp G L xs s M H locs := hR
  show W p l e R s m args below meth c H locs (z_nc M - n0) (z_sl M - s0) Q _
  refine z_sized hsz0 hR fun hH => ?_
  have hle : n0 ≤ z_nc M := by have := hR.2.1; omega
  have hcat : 2 * (F0 m pc lsC (List.map (z_tv G) st)).monitorRoom + ((rest.map (z_tv G)).map fun v => v.category).sum ≤ 8 := lv_room (by rw [z_ct_spec hxx]; exact e5)
  have hlen1 : (ar.map (z_tv G)).length = e' := by rw [List.length_map]; exact e3
  rcases hbk with ⟨q1, ha, q3⟩ | ⟨q1, ha, q3, q4⟩
  · obtain ⟨hy1, hrc⟩ := e8 q1
    subst hy1
    obtain ⟨pn1, pn2, pn3⟩ := z_pn_spec q3
    have hroom := z_room (R := R) (mc := z_nc r1.2 - z_nc M) (ms := z_sl r1.2 - z_sl M) ha hRf hRl
    have hini := hw _ (hn (.initialized (z_nm y1).cls) (by simp [z_need, q1]) rfl)
    have hins := hw _ (hn (.instanceMethod (z_nm y1)) (by simp [z_need, q1]) rfl)
    have hsel := hw _ (hn (.selects (z_nm y1).cls (z_nm y1) (z_nm y1)) (by simp [z_need, q1]) rfl)
    have hlk := hw _ (hn (.methodLink (z_nm y).cls ix (z_nm y1)) (by simp [z_need, q1]) rfl)
    -- the receiver's cell
    have key : ∃ ad, z_tv G (z_r t i) = .ref ad ∧ ∃ cellB : Cell, H[ad]? = some cellB ∧ cellB.vm.isStatics = false ∧ s.vm.findClass (z_nm y1).cls = some cellB.cls := by
      unfold z_rc at hrc
      by_cases h13 : z_yc y1 = 13
      · rw [h13] at hrc
        simp only [show Nat.beq 13 13 = true from rfl, cond_true, Bool.and_eq_true, decide_eq_true_eq] at hrc
        obtain ⟨⟨w1, w2⟩, w3⟩ := hrc
        obtain rfl : t = 64 := Nat.eq_of_beq_eq_true w1
        have w2 : y1 ∈ z_strm := by simpa using w2
        obtain ⟨-, ⟨adK, adV, k1, k2, -⟩, -⟩ := hSt.2.2.2.2.2.2
        refine ⟨adK i, by rw [z_tv_x (by decide)]; exact (k1 i w3).1, ?_⟩
        rw [z_strm_cn y1 w2]
        exact vk_recv k2 w3 hR.2.2.2.2
      · rw [z_beq_f h13] at hrc
        simp only [cond_false, Bool.and_eq_true, decide_eq_true_eq] at hrc
        obtain ⟨w1, w2⟩ := hrc
        obtain ⟨g1, g2, g3⟩ := z_co_lt (G := G) hR.2.2.1 w2 w1
        refine ⟨_, z_tv_h g3, ?_⟩
        have hr := va_recv (hSt.2.2.2.2.1) hR.1 (z_cl_at _ g1) g2
        rw [← z_yc_cn y1 ha g1]
        exact hr
    obtain ⟨ad, had, hrec⟩ := key
    have hpre : PreV s H (z_nm y1).cls ad (z_Pc G L xs (z_r t i :: ar) M) (ar.map (z_tv G)) := ⟨z_blind, hrec, fun U hU hW => ⟨by rw [← had]; rfl, hSt.moved hR hH hU hW⟩⟩
    have hstk : (F0 m pc lsC (List.map (z_tv G) st)).stack = (ar.map (z_tv G)).reverse ++ .ref ad :: rest.map (z_tv G) := by
      show List.map (z_tv G) st = _
      rw [e2, List.map_append, List.map_reverse, List.map_cons, had]
    exact z_after (rest0 := rest) (va_runV (bytes := (z_mi y1).2.1) (maxL := (z_mi y1).2.2.1) (ret := (z_mi y1).2.2.2) ⟨hx, hb, hml, hown, hw⟩ hM ⟨⟨rfl, rfl, hroom.1, hroom.2, z_cw_ws hw ha, List.mem_singleton.mpr rfl, hw _ (z_cwn y1 ha), hini, ⟨pn1, pn2⟩, pn3, hlk⟩, hins, hsel⟩ hpre rfl hlen1 hl.1 hstk hcat hd ⟨by omega, by omega⟩) rfl hR hl hle hs0 hnn hss K
  · obtain ⟨hg, cc, hcc, hk7⟩ := e9 (by omega)
    have hvt : z_vt a cc = some y1 := by
      rcases hk7 with ⟨z1, -⟩ | ⟨-, z1⟩
      · omega
      · exact z1
    have ht := z_g_lt hg
    obtain ⟨g1, g2, -⟩ := z_co_lt (G := G) hR.2.2.1 hg hcc
    have hva := z_vt_all a ha cc g1
    rw [hvt] at hva
    have hva := of_decide_eq_true hva
    obtain ⟨hy1, hmem⟩ := hva
    obtain ⟨vo1, vo2, vo3⟩ := z_vo_all a ha
    obtain ⟨pn1, pn2, pn3⟩ := z_pn_spec q3
    obtain ⟨po1, po2, -⟩ := z_pn_spec q4
    have hroom := z_room (R := R) (mc := z_nc r1.2 - z_nc M) (ms := z_sl r1.2 - z_sl M) hy1 hRf hRl
    have hlk := hw _ (hn (.methodLink (z_nm y).cls ix (z_vx a)) (by simp [z_need, q1]) rfl)
    have hsm := hw _ (hn (.sameMethod (z_vx a).cls (z_nm (z_vo a)).cls (z_vx a).name (z_vx a).desc) (by simp [z_need, q1]) rfl)
    have hio := hw _ (hn (.instanceMethod (z_nm (z_vo a))) (by simp [z_need, q1]) rfl)
    have hin4 : ∀ w1, w1 ∈ ([.selects (z_cn cc) (z_vx a) (z_nm y1), .instanceMethod (z_nm y1), .initialized (z_nm y1).cls] : List Cond) → w1 ∈ z_need y (.invokevirtual ix, 3, (a, b, e', f), ki, kj) := by
      intro w1 hw1
      simp only [z_need, q1]
      refine List.mem_append_right _ (List.mem_flatMap.mpr ⟨cc, hmem, ?_⟩)
      rw [hvt]
      exact hw1
    have hsel := hw _ (hn (.selects (z_cn cc) (z_vx a) (z_nm y1)) (hin4 _ (by simp)) rfl)
    have hins := hw _ (hn (.instanceMethod (z_nm y1)) (hin4 _ (by simp)) rfl)
    have hini := hw _ (hn (.initialized (z_nm y1).cls) (hin4 _ (by simp)) rfl)
    have hrec := va_recv (hSt.2.2.2.2.1) hR.1 (z_cl_at _ g1) g2
    have hdecl : va_Decl s ⟨(z_nm (z_vo a)).cls, (z_vx a).name, (z_vx a).desc⟩ := by
      have h1 := va_Decl.of hio (hw _ (z_cwn (z_vo a) vo1))
      rw [← vo2, ← vo3]
      exact h1
    have hpre : PreV s H (z_cn cc) (G.2.2.1 + z_off t i) (z_Pc G L xs (z_r t i :: ar) M) (ar.map (z_tv G)) := ⟨z_blind, hrec, fun U hU hW => ⟨by rw [← z_tv_h (G := G) (i := i) ht]; rfl, hSt.moved hR hH hU hW⟩⟩
    have hstk : (F0 m pc lsC (List.map (z_tv G) st)).stack = (ar.map (z_tv G)).reverse ++ .ref (G.2.2.1 + z_off t i) :: rest.map (z_tv G) := by
      show List.map (z_tv G) st = _
      rw [e2, List.map_append, List.map_reverse, List.map_cons, z_tv_h ht]
    exact z_after (rest0 := rest) (va_runU (x := z_vx a) (owner := (z_nm (z_vo a)).cls) (bytes := (z_mi y1).2.1) (maxL := (z_mi y1).2.2.1) (ret := (z_mi y1).2.2.2) ⟨hx, hb, hml, hown, hw⟩ hM ⟨⟨rfl, rfl, hroom.1, hroom.2, z_cw_ws hw hy1, List.mem_singleton.mpr rfl⟩, hw _ (z_cwn y1 hy1), hini, ⟨po1, po2⟩, pn3, hlk, hsm, hdecl, hsel, hins⟩ hpre rfl hlen1 hl.1 hstk hcat hd ⟨by omega, by omega⟩) rfl hR hl hle hs0 hnn hss K
/-- Object.<init> -/
theorem z_s_objinit {ix : Nat} (F : z_Fx G L xs p s m meth c y M0) (hcd : z_cd y pc = some (.invokespecial ix, len, (a, b, e', f), ki, kj)) (h : z_step (y, pc, ls, st, M) = Sum.inl c') (hRf : 1 ≤ R.frames) (hRl : 40 ≤ R.locals) (K : z_K G L xs p l e R s m args below meth c Q n0 s0 c') : z_K G L xs p l e R s m args below meth c Q n0 s0 (y, pc, ls, st, M) := by
  obtain ⟨hd, ho, hn⟩ := z_cd_ok hcd
  have hw := F.words args
  have hxx := F.ex
  obtain ⟨hx, hb, hml, hown, -, -, hnm, hSt⟩ := F
  simp only [z_step, hcd, z_inv] at h
  simp only [z_oke, Bool.and_eq_true, Bool.or_eq_true, decide_eq_true_eq] at ho
  obtain ⟨ho1, ho⟩ := ho
  obtain rfl : len = 3 := Nat.eq_of_beq_eq_true ho1
  have hbk : (b = 9 ∧ e' = 0) ∨ (b = 2 ∨ b = 3 ∨ b = 7) := by
    rcases ho with (⟨q1, q2⟩ | ⟨⟨⟨⟨q1, q2⟩, q3⟩, q4⟩, q5⟩) | ⟨⟨⟨q1, q2⟩, q3⟩, q4⟩
    · exact Or.inl ⟨Nat.eq_of_beq_eq_true q1, Nat.eq_of_beq_eq_true q2⟩
    · rcases q1 with q1 | q1
      · exact Or.inr (Or.inl (Nat.eq_of_beq_eq_true q1))
      · exact Or.inr (Or.inr (Or.inl (Nat.eq_of_beq_eq_true q1)))
    · exact Or.inr (Or.inr (Or.inr (Nat.eq_of_beq_eq_true q1)))
  rcases hbk with ⟨q1, q2⟩ | q1
  · subst q1; subst q2
    simp only [z_tk, show Nat.blt 9 2 = false from rfl, show Nat.beq 9 9 = true from rfl, cond_true, cond_false] at h
    split at h
    · next t i rest =>
      cases h8 : Nat.blt 8 (z_ct rest) with
      | true => rw [h8] at h; cases h
      | false =>
        rw [h8] at h
        cases h64 : Nat.blt t 64 with
        | false => rw [h64] at h; cases h
        | true =>
          rw [h64] at h
          simp only [cond_true, cond_false, Sum.inl.injEq] at h
          subst h
          have h8' : z_ct rest ≤ 8 := by
            rcases Nat.lt_or_ge 8 (z_ct rest) with g1 | g1
            · have : Nat.blt 8 (z_ct rest) = true := Nat.ble_eq_true_of_le g1
              rw [this] at h8; cases h8
            · exact g1
          have hlk := hw _ (hn (.methodLink (z_nm y).cls ix Lib.objectInit) (by simp [z_need]) rfl)
          have hin := hw _ (hn (.instanceMethod Lib.objectInit) (by simp [z_need]) rfl)
          have hco := hw _ (hn (.code Lib.objectInit ⟨#[0xb1]⟩ 1 none) (by simp [z_need]) rfl)
          intro H locs lsC hR hl
          simp only [List.map_cons]
          rw [z_tv_h (Nat.le_of_ble_eq_true h64)]
          refine W.objInit hx hb hown hlk hin hco rfl (hl.1.trans hml.symm) rfl hd hRf ?_ (K H locs lsC hR hl)
          have h9 := z_ct_spec hxx rest
          show 2 * 0 + ((rest.map (z_tv G)).map fun v => v.category).sum + 12 ≤ R.locals
          rw [h9]
          omega
    · cases h
  · exfalso
    split at h
    · cases h
    · next as2 r2 htk =>
      have hb2' : Nat.blt b 2 = false := by rcases q1 with q1 | q1 | q1 <;> rw [q1] <;> rfl
      have hb9' : Nat.beq b 9 = false := by rcases q1 with q1 | q1 | q1 <;> rw [q1] <;> rfl
      rw [hb2'] at h
      simp only [cond_false, hb9'] at h
      split at h
      · next t i rest =>
        revert h
        cases Nat.blt 8 (z_ct rest) <;> cases Nat.blt b 4 <;> cases Nat.blt t 64 <;> cases Nat.beq b 4 <;> cases z_rc M t i a <;> cases z_g M t i <;> simp only [cond_true, cond_false] <;> intro h <;> first
          | cases h
          | (split at h <;> first | cases h | (cases hq7 : Nat.beq b 7 <;> rw [hq7] at h <;> simp only [cond_true, cond_false] at h <;> first | (split at h <;> cases h) | (next cc1 _ => cases hq8 : Nat.blt cc1 7 <;> rw [hq8] at h <;> cases h)))
      · cases h
end
