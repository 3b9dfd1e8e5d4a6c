/-! calls with a receiver -/
section
variable {G : z_G} {L : Nat} {xs : Nat → Int32} {p : Program} {l : Launch} {e : Env} {R : Room} {s : State} {m : MethodId} {args : Array Value} {below : List Frame} {meth : Method} {c : Code} {Q : State → Prop} {n0 s0 : Nat} {M0 : z_M}
variable {y pc len a b e' f : Nat} {ki : Int32} {kj : Int64} {ls : List (Option z_V)} {st : List z_V} {M : z_M} {c' : z_C}
/-- what a call with a receiver is, by its kind -/
theorem z_inv_spec {y1 : Nat} {as1 : List z_V} {c1 : z_C} (hb2 : ¬ b < 2) (h : z_inv a b e' y pc ls st M = z_ca y1 as1 c1) :
    ∃ (ar rest : List z_V) (t i : Nat), as1 = z_r t i :: ar ∧ st = ar.reverse ++ z_r t i :: rest ∧ ar.length = e' ∧ c1 = (y, pc + 3, ls, rest, M) ∧ z_ct rest ≤ 8 ∧ b ≠ 9 ∧
      (b < 4 → y1 = a ∧ t < 64) ∧ (b = 4 → y1 = a ∧ z_rc M t i a = true) ∧ (4 < b → z_g M t i = true ∧ ∃ cc, z_co M t i = some cc ∧ ((b = 7 ∧ y1 = a ∧ cc < 7) ∨ (b ≠ 7 ∧ z_vt a cc = some y1))) := by
  unfold z_inv at h
  split at h
  · cases h
  · next as2 r2 htk =>
    have hb2' : Nat.blt b 2 = false := by
      cases hq : Nat.blt b 2 with
      | false => rfl
      | true => exact absurd (Nat.le_of_ble_eq_true hq) hb2
    rw [hb2'] at h
    simp only [cond_false] at h
    obtain ⟨ar, q1, q2, q3⟩ := z_tk_spec _ _ _ _ _ htk
    rw [List.append_nil] at q1
    subst q1
    split at h
    · next t i rest =>
      cases h8 : Nat.blt 8 (z_ct rest) with
      | true => rw [h8] at h; cases h
      | false =>
        rw [h8] at h
        have h8' : z_ct rest ≤ 8 := by
          rcases Nat.lt_or_ge 8 (z_ct rest) with g1 | g1
          · have : Nat.blt 8 (z_ct rest) = true := Nat.ble_eq_true_of_le g1
            rw [this] at h8; cases h8
          · exact g1
        simp only [cond_false] at h
        cases h9 : Nat.beq b 9 with
        | true =>
          rw [h9] at h
          simp only [cond_true] at h
          cases h64 : Nat.blt t 64 with
          | true => rw [h64] at h; cases h
          | false => rw [h64] at h; cases h
        | false =>
          rw [h9] at h
          have hb9 : b ≠ 9 := fun q => by rw [q] at h9; cases h9
          simp only [cond_false] at h
          by_cases hb4 : b < 4
          · have hb4' : Nat.blt b 4 = true := Nat.ble_eq_true_of_le hb4
            rw [hb4'] at h
            cases h64 : Nat.blt t 64 with
            | false => rw [h64] at h; cases h
            | true =>
              rw [h64] at h
              simp only [cond_true, Sum.inr.injEq, Sum.inl.injEq, Prod.mk.injEq] at h
              obtain ⟨e1, e2, e3⟩ := h
              exact ⟨as2, rest, t, i, e2.symm, q2, q3, e3.symm, h8', hb9, fun _ => ⟨e1.symm, Nat.le_of_ble_eq_true h64⟩, fun q => by omega, fun q => by omega⟩
          · have hb4' : Nat.blt b 4 = false := by
              cases hq : Nat.blt b 4 with
              | false => rfl
              | true => exact absurd (Nat.le_of_ble_eq_true hq) hb4
            rw [hb4'] at h
            simp only [cond_false] at h
            by_cases hb44 : b = 4
            · subst hb44
              simp only [show Nat.beq 4 4 = true from rfl, cond_true] at h
              cases hrc : z_rc M t i a with
              | false => rw [hrc] at h; cases h
              | true =>
                rw [hrc] at h
                simp only [cond_true, Sum.inr.injEq, Sum.inl.injEq, Prod.mk.injEq] at h
                obtain ⟨e1, e2, e3⟩ := h
                exact ⟨as2, rest, t, i, e2.symm, q2, q3, e3.symm, h8', hb9, fun q => by omega, fun _ => ⟨e1.symm, hrc⟩, fun q => by omega⟩
            · rw [z_beq_f hb44] at h
              simp only [cond_false] at h
              cases hg : z_g M t i with
              | false => rw [hg] at h; cases h
              | true =>
                rw [hg] at h
                simp only [cond_true] at h
                split at h
                · cases h
                · next cc hcc =>
                  by_cases hb7 : b = 7
                  · subst hb7
                    simp only [show Nat.beq 7 7 = true from rfl, cond_true] at h
                    cases h7 : Nat.blt cc 7 with
                    | false => rw [h7] at h; cases h
                    | true =>
                      rw [h7] at h
                      simp only [cond_true, Sum.inr.injEq, Sum.inl.injEq, Prod.mk.injEq] at h
                      obtain ⟨e1, e2, e3⟩ := h
                      exact ⟨as2, rest, t, i, e2.symm, q2, q3, e3.symm, h8', hb9, fun q => by omega, fun q => by omega, fun _ => ⟨hg, cc, hcc, Or.inl ⟨rfl, e1.symm, Nat.le_of_ble_eq_true h7⟩⟩⟩
                  · rw [z_beq_f hb7] at h
                    simp only [cond_false] at h
                    split at h
                    · cases h
                    · next y2 hvt =>
                      simp only [Sum.inr.injEq, Sum.inl.injEq, Prod.mk.injEq] at h
                      obtain ⟨e1, e2, e3⟩ := h
                      exact ⟨as2, rest, t, i, e2.symm, q2, q3, e3.symm, h8', hb9, fun q => by omega, fun q => by omega, fun _ => ⟨hg, cc, hcc, Or.inr ⟨hb7, by rw [hvt, e1]⟩⟩⟩
    · cases h
/-- one class above another -/
theorem z_isSub {C1 C2 : String} {ps pm : ClassId} (h : (Cond.superclass C1 C2).before args s = true) (hps : s.vm.findClass C1 = some ps) (hpm : s.vm.findClass C2 = some pm) : s.vm.isSubclass ps pm = true := by
  obtain ⟨p1, k1, kp, f1, f2, f3, f4, -⟩ := Cond.superclass_spec hps h
  cases f1.symm.trans hpm
  have hlt : ps < s.vm.classes.size := (Array.getElem?_eq_some_iff.mp f2).1
  obtain ⟨k2, hk2⟩ : ∃ k2, s.vm.classes.size = k2 + 1 := ⟨s.vm.classes.size - 1, (Nat.succ_pred_eq_of_pos (Nat.lt_of_le_of_lt (Nat.zero_le _) hlt)).symm⟩
  unfold Vm.isSubclass
  rw [hk2]
  simp [Vm.isSubclassAux, f2, f4]
theorem z_sup_all : ∀ g, g < 18 → ∀ r, r < 16 → (z_kl (16 * g + r)).all (fun p1 => p1.2.all (fun q1 => (bif Nat.beq q1.2.2.2.1.2.1 7 then decide (z_cn q1.2.2.2.1.2.2.2 = (z_nm q1.2.2.2.1.1).cls) || (Nat.beq q1.2.2.2.1.2.2.2 6 && decide ((z_nm q1.2.2.2.1.1).cls = "ShareNets$Share")) else true) || (match q1.2.1 with | .invokespecial _ => false | _ => true))) = true := by decide +kernel
theorem z_sup_ok {ix : Nat} (hcd : z_cd y pc = some (.invokespecial ix, len, (a, b, e', f), ki, kj)) (hb : b = 7) : z_cn f = (z_nm a).cls ∨ (f = 6 ∧ (z_nm a).cls = "ShareNets$Share") := by
  subst hb
  obtain ⟨p1, h1, h2⟩ := z_lk2_mem hcd
  by_cases hy : 286 ≤ y
  · rw [z_kl_out hy] at h1
    cases h1
  · have h3 := z_sup_all (y / 16) (by omega) (y % 16) (Nat.mod_lt _ (by decide))
    rw [show 16 * (y / 16) + y % 16 = y by omega] at h3
    have h4 := List.all_eq_true.mp (List.all_eq_true.mp h3 p1 h1) _ h2
    simp only [show Nat.beq 7 7 = true from rfl, cond_true, Bool.or_eq_true, Bool.and_eq_true, decide_eq_true_eq, Bool.false_eq_true, or_false] at h4
    rcases h4 with h4 | ⟨h4, h5⟩
    · exact Or.inl h4
    · exact Or.inr ⟨Nat.eq_of_beq_eq_true h4, h5⟩
theorem z_g_lt {t i : Nat} (h : z_g M t i = true) : t < 64 := (z_g_off h).2.2.1
/-- a super call, also of a method that the superclass only inherits -/
theorem z_runSUO {ix : Nat} {x y2 : MethodName} {bytes cc : ByteArray} {maxL nL mc ms n : Nat} {ret : Option FieldType} {ws : List Cond} {rm : Room} {Pc : Array Value → State → Prop} {Qc : Array Value → State → Outcome → State → Prop} {free : Addr → Prop} {Ts : List Cond} {own : String} {b1 : Addr} {As rest : List Value} {g : JFrame} {H : Heap} {locs : List Loc} {cells slots : Nat}
    (S : CallFix p m c cc nL s args Ts own) (hM : Met l y2 ws rm Pc Qc mc ms free) (hback : rm.cells = mc ∧ rm.slots = ms ∧ rm.frames + 1 ≤ R.frames ∧ 8 + (maxL + 11) + rm.locals ≤ R.locals ∧ (∀ w ∈ ws, ∀ (a' : Array Value) (U : State), s.WarmedH U.vm → w.before a' U = true) ∧ Cond.code y2 bytes maxL ret ∈ ws)
    (hl1 : (Cond.methodLink own ix x).before args s = true) (hl2 : (Cond.sameMethod x.cls y2.cls x.name x.desc).before args s = true) (hl3 : (Cond.superclass own x.cls).before args s = true) (hinst : (Cond.instanceMethod y2).before args s = true) (hini : (Cond.initialized y2.cls).before args s = true) (hcode : (Cond.code y2 bytes maxL ret).before args s = true) (hnn : y2.name = x.name ∧ y2.desc = x.desc) (hno : x.name ≠ "<init>") (hlen : ∀ sig, parseMethodDescriptor y2.desc = some sig → n = sig.parameters.length)
    (hsub : ∀ ps pm : ClassId, s.vm.findClass x.cls = some ps → s.vm.findClass y2.cls = some pm → s.vm.isSubclass ps pm = true)
    (hrec : ∃ (cellB : Cell) (kB : Class), H[b1]? = some cellB ∧ cellB.vm.isStatics = false ∧ s.vm.classes[cellB.cls]? = some kB) (hp : FrameBlind Pc ∧ ∀ U : State, U.heap = H → s.WarmedH U.vm → Pc (Value.ref b1 :: As).toArray U)
    (hg : g.method = m) (hn : As.length = n) (hsize : g.locals.size = nL) (hstack : g.stack = As.reverse ++ .ref b1 :: rest) (hW : 2 * g.monitorRoom + (rest.map fun v => v.category).sum ≤ 8) (hdg : decode cc g.pc = .ok (.invokespecial ix, 3)) (hf : cells + mc ≤ R.cells ∧ slots + ms ≤ R.slots) :
    va_Run p l e R s m args below meth c H locs cells slots mc ms g rest (Qc (Value.ref b1 :: As).toArray) (free) := by
  obtain ⟨hrc, hrs, hfr, hlo, hws, hcw⟩ := hback
  have hK : Back l R p e below s args y2 3 8 (PreOf R mc ms Pc) (PostOf Qc mc ms free) := back_of (bytes := bytes) (maxL := maxL) (ret := ret) hM hp.1 hrc hrs hfr hlo hws hcw (fun a' U hW => word_at hW (Or.inl (by first | rfl | simp [Cond.onTables, Cond.keeps, Cond.steady])) hini)
  obtain ⟨hx, hb, hml, ho, -⟩ := S
  obtain ⟨cellB, kB, hcB, hoB, hkB⟩ := hrec
  intro T hT X
  obtain ⟨mk, methM, hnamed, hmethM, hstM, habM⟩ := Cond.instanceMethod_spec hinst
  obtain ⟨methM', cM, hmethM', -, -, -, -, -, -, hsigM⟩ := Cond.code_spec hnamed hcode
  cases hmethM.symm.trans hmethM'
  obtain ⟨ps, dk, kp, hps, hdk, hkp, hsuper, -, -, hnid⟩ := Cond.superclass_spec ho hl3
  have hn2 : s.methodNamed? ⟨y2.cls, x.name, x.desc⟩ = some mk := by rw [← hnn.1, ← hnn.2]; exact hnamed
  have hcB' : T.heap[b1]? = some cellB := by rw [hT]; exact hcB
  have hlenM : As.length = methM.sig.parameters.length := hn.trans (hlen _ hsigM)
  have hdg' : decode c.code g.pc = .ok (.invokespecial ix, 3) := by rw [hb]; exact hdg
  obtain ⟨vm₁, X₁, hstep₁⟩ := X.invokespecialUp hx ho hl1 hl2 hn2 hmethM hstM habM hno hdk hnid hps hsuper (hsub _ _ hps (findClass_of_methodNamed hnamed)) (a := b1) (cell := cellB) hcB'
    (fun z h => by rw [h] at hoB; cases hoB) hkB (g := g) hg (argsL := As) (rest := rest) hlenM hstack hdg'
  have hpre : PreOf R mc ms Pc ⟨T.setVm vm₁, locs, cells, slots⟩ (Value.ref b1 :: As).toArray := ⟨hf.1, hf.2, hp.2 (T.setVm vm₁) hT X₁.warmed⟩
  obtain ⟨v, ⟨U', l2, c2, s2⟩, X', ⟨g', mk', t, L', e1, e2, hq, h1, hL, h2, h3⟩, hsteps⟩ := hK m meth c ⟨T.setVm vm₁, locs, cells, slots⟩ { g with stack := rest } (.invokespecial ix) mk (Value.ref b1 :: As).toArray X₁ hg (hsize.trans hml.symm) hdg' hW (X₁.named hnamed) hpre
  dsimp only [Pt.U, Pt.locs, Pt.cells, Pt.slots] at X' e1 e2 h1 h2 h3 hsteps
  subst h1; subst h2; subst h3
  exact ⟨v, (T.setVm vm₁).calling g' mk' (Value.ref b1 :: As).toArray, t, U', L', hT, X', hL, e1, e2, hq, fun target h => hstep₁ _ (by rw [doInvoke_state]; exact hsteps.trans h)⟩
theorem z_call_special {ix d1 y1 : Nat} {as1 : List z_V} {c1 : z_C} {r1 : Option z_V × z_M} (F : z_Fx G L xs p s m meth c y M0) (hn0 : n0 = z_nc M0) (hcd : z_cd y pc = some (.invokespecial ix, len, (a, b, e', f), ki, kj)) (h : z_step (y, pc, ls, st, M) = z_ca y1 as1 c1)
    (hM : z_Met G L xs l d1 y1 as1 M r1) (hRf : d1 + 2 ≤ R.frames) (hRl : 40 * (d1 + 2) ≤ R.locals) (hRc : z_nc r1.2 - n0 ≤ R.cells) (hRs : z_sl r1.2 - s0 ≤ R.slots) (hs0 : s0 ≤ z_sl M) (hnn : z_nc M ≤ z_nc r1.2) (hss : z_sl M ≤ z_sl r1.2)
    (K : z_K G L xs p l e R s m args below meth c Q n0 s0 (c1.1, c1.2.1, c1.2.2.1, r1.1.toList ++ c1.2.2.2.1, r1.2)) : z_K G L xs p l e R s m args below meth c Q n0 s0 (y, pc, ls, st, M) := by
  obtain ⟨hd, ho, hn⟩ := z_cd_ok hcd
  have hw := F.words args
  have hxx := F.ex
  obtain ⟨hx, hb, hml, hown, -, -, hnm, hSt⟩ := F
  have hsz0 := hSt.2.1
  rw [← hn0] at hsz0
  simp only [z_step, hcd] at h
  simp only [z_oke, Bool.and_eq_true, Bool.or_eq_true, decide_eq_true_eq] at ho
  obtain ⟨ho1, ho⟩ := ho
  obtain rfl : len = 3 := Nat.eq_of_beq_eq_true ho1
  have hbk : b = 9 ∨ ((b = 2 ∨ b = 3) ∧ a < 285 ∧ (z_nm a).name = "<init>" ∧ z_pn (z_nm a) e' = true ∧ (z_mi a).2.2.2 = none) ∨ (b = 7 ∧ a < 285 ∧ (z_nm a).name ≠ "<init>" ∧ z_pn (z_nm a) e' = true) := by
    rcases ho with (⟨q1, -⟩ | ⟨⟨⟨⟨q1, q2⟩, q3⟩, q4⟩, q5⟩) | ⟨⟨⟨q1, q2⟩, q3⟩, q4⟩
    · exact Or.inl (Nat.eq_of_beq_eq_true q1)
    · refine Or.inr (Or.inl ⟨?_, Nat.le_of_ble_eq_true q2, q3, q4, q5⟩)
      rcases q1 with q1 | q1
      · exact Or.inl (Nat.eq_of_beq_eq_true q1)
      · exact Or.inr (Nat.eq_of_beq_eq_true q1)
    · exact Or.inr (Or.inr ⟨Nat.eq_of_beq_eq_true q1, Nat.le_of_ble_eq_true q2, q3, q4⟩)
  have hb2 : ¬ b < 2 := by omega
  obtain ⟨ar, rest, t, i, e1, e2, e3, e4, e5, e6, e7, e8, e9⟩ := z_inv_spec hb2 h
  subst e1; subst e4
  intro H locs lsC hR hl
  have hR : z_Rp G L xs s M H locs := hR
  show W p l e R s m args below meth c H locs (z_nc M - n0) (z_sl M - s0) Q _
  refine z_sized hsz0 hR fun hH => ?_
  have hle : n0 ≤ z_nc M := by have := hR.2.1; omega
  have hcat : 2 * (F0 m pc lsC (List.map (z_tv G) st)).monitorRoom + ((rest.map (z_tv G)).map fun v => v.category).sum ≤ 8 := lv_room (by rw [z_ct_spec hxx]; exact e5)
  have hlen1 : (ar.map (z_tv G)).length = e' := by rw [List.length_map]; exact e3
  rcases hbk with q9 | ⟨q1, ha, q3, q4, q5⟩ | ⟨q1, ha, q3, q4⟩
  · exact absurd q9 e6
  · obtain ⟨hy1, ht⟩ := e7 (by omega)
    subst hy1
    have had := z_tv_h (G := G) (i := i) ht
    obtain ⟨pn1, pn2, pn3⟩ := z_pn_spec q4
    have hroom := z_room (R := R) (mc := z_nc r1.2 - z_nc M) (ms := z_sl r1.2 - z_sl M) ha hRf hRl
    have hini := hw _ (hn (.initialized (z_nm y1).cls) (by simp [z_need, show ¬ b = 9 by omega, show ¬ b = 6 by omega, show ¬ b = 7 by omega]) rfl)
    have hins := hw _ (hn (.instanceMethod (z_nm y1)) (by simp [z_need, show ¬ b = 9 by omega, show ¬ b = 6 by omega, show ¬ b = 7 by omega, hb2, show b < 4 by omega]) rfl)
    have hcw : Cond.code (z_nm y1) (z_mi y1).2.1 (z_mi y1).2.2.1 none = z_cw y1 := by unfold z_cw; rw [q5]; rfl
    have hpre : PreS s H (z_Pc G L xs (z_r t i :: ar) M) (.ref (G.2.2.1 + z_off t i) :: ar.map (z_tv G)) := ⟨z_blind, fun U hU hW => ⟨by rw [← had]; rfl, hSt.moved hR hH hU hW⟩⟩
    have hstk : (F0 m pc lsC (List.map (z_tv G) st)).stack = (ar.map (z_tv G)).reverse ++ .ref (G.2.2.1 + z_off t i) :: rest.map (z_tv G) := by
      show List.map (z_tv G) st = _
      rw [e2, List.map_append, List.map_reverse, List.map_cons, had]
    by_cases hb3 : b = 3
    · have hlk := hw _ (hn (.methodLinkNest (z_nm y).cls ix (z_nm y1) "ShareNets") (by simp [z_need, hb3]) rfl)
      exact z_after (rest0 := rest) (va_runIN (bytes := (z_mi y1).2.1) (maxL := (z_mi y1).2.2.1) ⟨hx, hb, hml, hown, hw⟩ hM ⟨⟨⟨rfl, rfl, hroom.1, hroom.2, z_cw_ws hw ha, by rw [hcw]; exact List.mem_singleton.mpr rfl⟩, by rw [hcw]; exact hw _ (z_cwn y1 ha), hini, ⟨pn1, pn2⟩, pn3, hlk⟩, q3, hins⟩ hpre rfl hlen1 hl.1 hstk hcat hd ⟨by omega, by omega⟩) rfl hR hl hle hs0 hnn hss K
    · have hlk := hw _ (hn (.methodLink (z_nm y).cls ix (z_nm y1)) (by simp [z_need, show ¬ b = 9 by omega, show ¬ b = 6 by omega, show ¬ b = 7 by omega, hb3, show ¬ b = 1 by omega]) rfl)
      exact z_after (rest0 := rest) (va_runI (bytes := (z_mi y1).2.1) (maxL := (z_mi y1).2.2.1) ⟨hx, hb, hml, hown, hw⟩ hM ⟨⟨rfl, rfl, hroom.1, hroom.2, z_cw_ws hw ha, by rw [hcw]; exact List.mem_singleton.mpr rfl, by rw [hcw]; exact hw _ (z_cwn y1 ha), hini, ⟨pn1, pn2⟩, pn3, hlk⟩, q3, hins⟩ hpre rfl hlen1 hl.1 hstk hcat hd ⟨by omega, by omega⟩) rfl hR hl hle hs0 hnn hss K
  · obtain ⟨hg, cc, hcc, hk7⟩ := e9 (by omega)
    have hy1 : y1 = a ∧ cc < 7 := by
      rcases hk7 with ⟨-, z1, z2⟩ | ⟨z1, -⟩
      · exact ⟨z1, z2⟩
      · exact absurd q1 z1
    obtain ⟨hy1, hc7⟩ := hy1
    subst hy1
    have ht := z_g_lt hg
    obtain ⟨w1, w2, -⟩ := z_co_lt (G := G) hR.2.2.1 hg hcc
    obtain ⟨cellB, g1, g2, g3⟩ := va_recv (hSt.2.2.2.2.1) hR.1 (z_cl_at cc w1) w2
    obtain ⟨kB, hkB, -⟩ := Vm.findClass_spec g3
    obtain ⟨pn1, pn2, pn3⟩ := z_pn_spec q4
    have hroom := z_room (R := R) (mc := z_nc r1.2 - z_nc M) (ms := z_sl r1.2 - z_sl M) ha hRf hRl
    have hini := hw _ (hn (.initialized (z_nm y1).cls) (by simp [z_need, q1]) rfl)
    have hins := hw _ (hn (.instanceMethod (z_nm y1)) (by simp [z_need, q1]) rfl)
    have hlk := hw _ (hn (.methodLink (z_nm y).cls ix ⟨z_cn f, (z_nm y1).name, (z_nm y1).desc⟩) (by simp [z_need, q1]) rfl)
    have hsm := hw _ (hn (.sameMethod (z_cn f) (z_nm y1).cls (z_nm y1).name (z_nm y1).desc) (by simp [z_need, q1]) rfl)
    have hsp := hw _ (hn (.superclass (z_nm y).cls (z_cn f)) (by simp [z_need, q1]) rfl)
    have hstk : (F0 m pc lsC (List.map (z_tv G) st)).stack = (ar.map (z_tv G)).reverse ++ .ref (G.2.2.1 + z_off t i) :: rest.map (z_tv G) := by
      show List.map (z_tv G) st = _
      rw [e2, List.map_append, List.map_reverse, List.map_cons, z_tv_h ht]
    refine z_after (rest0 := rest) (z_runSUO (x := ⟨z_cn f, (z_nm y1).name, (z_nm y1).desc⟩) ⟨hx, hb, hml, hown, hw⟩ hM ⟨rfl, rfl, hroom.1, hroom.2, z_cw_ws hw ha, List.mem_singleton.mpr rfl⟩ hlk hsm hsp hins hini (hw _ (z_cwn y1 ha)) ⟨rfl, rfl⟩ q3 pn3 ?_ ⟨cellB, kB, g1, g2, hkB⟩ ⟨z_blind, fun U hU hW => ⟨by rw [List.map_cons, z_tv_h ht], hSt.moved hR hH hU hW⟩⟩ rfl hlen1 hl.1 hstk hcat hd ⟨by omega, by omega⟩) rfl hR hl hle hs0 hnn hss K
    intro ps pm hps hpm
    rcases z_sup_ok hcd q1 with z1 | ⟨z1, z2⟩
    · have z3 : s.vm.findClass (z_nm y1).cls = some ps := by rw [← z1]; exact hps
      cases hpm.symm.trans z3
      simp [Vm.isSubclass, Vm.isSubclassAux]
    · subst z1
      rw [z2] at hpm
      exact z_isSub (C1 := "ShareNets$Sum") (C2 := "ShareNets$Share") (hw _ (z_tbl_of (List.mem_of_getElem? (i := 821) (by decide +kernel)) rfl)) hps hpm
end
