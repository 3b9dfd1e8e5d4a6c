/-! rows made; jumps by null and by tables; instanceof -/
section
variable {G : z_G} {L : Nat} {xs : Nat → Int32} {p : Program} {l : Launch} {e : Env} {R : Room} {s : State} {m : MethodId} {args : Array Value} {below : List Frame} {meth : Method} {c : Code} {Q : State → Prop} {n0 s0 : Nat} {M0 : z_M}
variable {y pc len a b e' f : Nat} {ki : Int32} {kj : Int64} {ls : List (Option z_V)} {st : List z_V} {M : z_M} {c' : z_C}
theorem z_off_eq {t i k : Nat} (h : (t, i) = z_un k) : z_off t i = k := by
  have := z_off_un k
  rw [← h] at this
  exact this
theorem z_s_newarray {ty : ArrayType} (F : z_Fx G L xs p s m meth c y M0) (hn0 : n0 = z_nc M0) (hcd : z_cd y pc = some (.newarray ty, len, (a, b, e', f), ki, kj)) (h : z_step (y, pc, ls, st, M) = Sum.inl c') (hRc : z_nc c'.2.2.2.2 - n0 ≤ R.cells) (hRs : z_sl c'.2.2.2.2 - s0 ≤ R.slots) (hs0 : s0 ≤ z_sl M) (K : z_K G L xs p l e R s m args below meth c Q n0 s0 c') : z_K G L xs p l e R s m args below meth c Q n0 s0 (y, pc, ls, st, M) := by
  obtain ⟨hd, ho, hn⟩ := z_cd_ok hcd
  have hw := F.words args
  obtain ⟨hx, hb, hml, hown, -, -, hnm, hSt⟩ := F
  obtain ⟨-, hsz0, -, -, hK, hwd, hE⟩ := hSt
  rw [← hn0] at hsz0
  simp only [z_step, hcd] at h
  simp only [z_oke, Bool.and_eq_true, Bool.or_eq_true, decide_eq_true_eq] at ho
  obtain ⟨ho1, ho2⟩ := ho
  obtain rfl : len = 2 := Nat.eq_of_beq_eq_true ho1
  have hl1 := hw _ (hn (.arrayClass (if a = 0 then .int else .long)) (by simp [z_need]) rfl)
  split at h
  · next x r =>
    split at h
    · next M' t i hnew =>
      cases h
      intro H locs lsC hR hl
      have hR : z_Rp G L xs s M H locs := hR
      show W p l e R s m args below meth c H locs (z_nc M - n0) (z_sl M - s0) Q _
      refine z_sized hsz0 hR fun hH => ?_
      obtain ⟨n, q1, q2, q3, q4, q5, q6, q7, q8, q9, q10, q11, q12, q13, q14, q15⟩ := z_newa_spec (G := G) hnew hR.2.2.1 hR.2.2.2.1
      have hRc : z_nc M' - n0 ≤ R.cells := hRc
      have hRs : z_sl M' - s0 ≤ R.slots := hRs
      have hle : n0 ≤ z_nc M := by have := hR.2.1; omega
      have key : ∀ (ft : FieldType), newarray.typeOf ty = ft → (Cond.arrayClass ft).before args s = true → (z_tys G)[a]? = some (G.2.1 a, ft) → componentBytes ft ≤ 8 → (∀ cA, cA = G.2.1 a → vp_cell cA (n, z_ac G.2.2.1 M' t i a n) = arrV cA n (fun _ => defaultValue ft)) → (∀ U cA, va_RA U cA ft → U.vm.findClass ("[" ++ ft.toString) = some cA) → W p l e R s m args below meth c H locs (z_nc M - n0) (z_sl M - s0) Q (F0 m pc lsC (List.map (z_tv G) (Sum.inl x :: r))) := by
        intro ft hft harr hty hcb hcell hra
        subst hft
        refine va_newaK hx hb harr rfl hd rfl q3 q4 ?_ (by omega) (by omega) hH fun H1 cA e1 z1 o1 hAr hNm => ?_
        · have : n * componentBytes (newarray.typeOf ty) ≤ n * 8 := Nat.mul_le_mul_left _ hcb
          omega
        · have hcA : cA = G.2.1 a := by
            have := hra s _ (hK.2 a _ hty).2
            exact Option.some.inj (hNm.symm.trans this)
          have hce : z_cE G M' (z_un (z_nc M)).1 (z_un (z_nc M)).2 = .inl (G.2.1 a, n, z_ac G.2.2.1 M' t i a n) := by
            rw [← q2]
            unfold z_cE
            rw [q1]
          have hR1 : z_Rp G L xs s M' H1 locs := z_push hR hH q5 q7 hce (by
            show H1[G.2.2.1 + z_nc M]? = some (vp_cell _ _)
            rw [hcell _ rfl, e1, hcA]) (by omega) (fun q hq => o1 q (by omega)) q8 q9
          have K1 := K H1 locs lsC hR1 hl
          have ec : z_nc M' - n0 = z_nc M - n0 + 1 := by omega
          have es : z_sl M' - s0 = z_sl M - s0 + n := by omega
          simp only [List.map_cons] at K1
          rw [ec, es, z_tv_h q10, z_off_eq q2] at K1
          exact K1
      rcases ho2 with ⟨rfl, ha⟩ | ⟨rfl, ha⟩
      · obtain rfl : a = 0 := Nat.eq_of_beq_eq_true ha
        refine key .int rfl hl1 rfl (by decide) (fun cA _ => ?_) (fun U cA q => q)
        show vp_cell cA (n, Sum.inl (fun j => M'.2.2.1 t i j)) = _
        rw [vp_cell_i]
        simp only [q11]
        rfl
      · obtain rfl : a = 1 := Nat.eq_of_beq_eq_true ha
        refine key .long rfl hl1 rfl (by decide) (fun cA _ => ?_) (fun U cA q => q)
        show vp_cell cA (n, Sum.inr (Sum.inl (fun j => M'.2.2.2 t i j))) = _
        rw [vp_cell_l]
        simp only [q12]
        rfl
    · cases h
  · cases h
theorem z_s_anewarray {ix : Nat} (F : z_Fx G L xs p s m meth c y M0) (hn0 : n0 = z_nc M0) (hcd : z_cd y pc = some (.anewarray ix, len, (a, b, e', f), ki, kj)) (h : z_step (y, pc, ls, st, M) = Sum.inl c') (hRc : z_nc c'.2.2.2.2 - n0 ≤ R.cells) (hRs : z_sl c'.2.2.2.2 - s0 ≤ R.slots) (hs0 : s0 ≤ z_sl M) (K : z_K G L xs p l e R s m args below meth c Q n0 s0 c') : z_K G L xs p l e R s m args below meth c Q n0 s0 (y, pc, ls, st, M) := by
  obtain ⟨hd, ho, hn⟩ := z_cd_ok hcd
  have hw := F.words args
  obtain ⟨hx, hb, hml, hown, -, -, hnm, hSt⟩ := F
  obtain ⟨-, hsz0, -, -, hK, hwd, hE⟩ := hSt
  rw [← hn0] at hsz0
  simp only [z_step, hcd] at h
  simp only [z_oke, Bool.and_eq_true, Bool.or_eq_true] at ho
  obtain ⟨ho1, ho2⟩ := ho
  obtain rfl : len = 3 := Nat.eq_of_beq_eq_true ho1
  have ha : a = 2 ∨ a = 3 ∨ a = 4 := by
    rcases ho2 with (q | q) | q
    · exact Or.inl (Nat.eq_of_beq_eq_true q)
    · exact Or.inr (Or.inl (Nat.eq_of_beq_eq_true q))
    · exact Or.inr (Or.inr (Nat.eq_of_beq_eq_true q))
  have hl1 := hw _ (hn (.classLink (z_nm y).cls ix (z_ec a)) (by simp [z_need]) rfl)
  have hl2 := hw _ (hn (.arrayOver (.object (z_ec a))) (by simp [z_need]) rfl)
  have hty : (z_tys G)[a]? = some (G.2.1 a, .object (z_ec a)) := by rcases ha with rfl | rfl | rfl <;> rfl
  split at h
  · next x r =>
    split at h
    · next M' t i hnew =>
      cases h
      intro H locs lsC hR hl
      have hR : z_Rp G L xs s M H locs := hR
      show W p l e R s m args below meth c H locs (z_nc M - n0) (z_sl M - s0) Q _
      refine z_sized hsz0 hR fun hH => ?_
      obtain ⟨n, q1, q2, q3, q4, q5, q6, q7, q8, q9, q10, q11, q12, q13, q14, q15⟩ := z_newa_spec (G := G) hnew hR.2.2.1 hR.2.2.2.1
      have hRc : z_nc M' - n0 ≤ R.cells := hRc
      have hRs : z_sl M' - s0 ≤ R.slots := hRs
      have hle : n0 ≤ z_nc M := by have := hR.2.1; omega
      refine W.anew hx hb hown hl1 hl2 rfl hd rfl q3 (by omega) (by omega) (by omega) fun cA kA comp f1 f2 f3 f4 => ?_
      have hcA : cA = G.2.1 a := by
        obtain ⟨kA2, comp2, r1, r2, r3, r4⟩ := (hK.2 a _ hty).2
        exact Option.some.inj (f1.symm.trans r4)
      generalize hH1 : H.push ({ cls := cA, slots := Array.replicate x.toNatClampNeg .null, vm := .none } : Cell) = H1
      have z1 : H1.size = H.size + 1 := by rw [← hH1, Array.size_push]
      have e1 : H1[H.size]? = some (arrV cA x.toNatClampNeg (fun _ => .null)) := by rw [← hH1, Array.getElem?_push_size, ← arrV_new]
      have o1 : ∀ q : Nat, q < H.size → H1[q]? = H[q]? := fun q hq => by rw [← hH1, Array.getElem?_push, if_neg (Nat.ne_of_lt hq)]
      have hce : z_cE G M' (z_un (z_nc M)).1 (z_un (z_nc M)).2 = .inl (G.2.1 a, n, .inr (.inr (.inr (.inr (fun _ => none))))) := by
        rw [← q2]
        unfold z_cE
        rw [q1]
        dsimp only
        congr 3
        unfold z_ac
        rw [if_neg (by omega), if_neg (by omega)]
        congr 4
        funext j
        rw [q13]
        split <;> rfl
      have hR1 : z_Rp G L xs s M' H1 locs := z_push hR hH q5 q7 hce (by
        show H1[G.2.2.1 + z_nc M]? = some (vp_cell _ _)
        rw [vp_cell_q, ← hH, e1, hcA, q4]
        rfl) z1 o1 q8 q9
      have K1 := K H1 locs lsC hR1 hl
      have ec : z_nc M' - n0 = z_nc M - n0 + 1 := by omega
      have es : z_sl M' - s0 = z_sl M - s0 + x.toNatClampNeg := by omega
      simp only [List.map_cons] at K1
      rw [ec, es, z_tv_h q10, z_off_eq q2, ← hH] at K1
      exact K1
    · cases h
  · cases h
theorem z_s_ifnull {off : Int} (F : z_Fx G L xs p s m meth c y M0) (hcd : z_cd y pc = some (.ifnull off, len, (a, b, e', f), ki, kj)) (h : z_step (y, pc, ls, st, M) = Sum.inl c') (K : z_K G L xs p l e R s m args below meth c Q n0 s0 c') : z_K G L xs p l e R s m args below meth c Q n0 s0 (y, pc, ls, st, M) := by
  obtain ⟨hd, ho, hn⟩ := z_cd_ok hcd
  obtain ⟨hx, hb, -⟩ := F
  simp only [z_step, hcd] at h
  simp only [z_oke, z_tok, Bool.and_eq_true, decide_eq_true_eq] at ho
  obtain ⟨ho1, ho2⟩ := ho
  obtain rfl : len = 3 := Nat.eq_of_beq_eq_true ho1
  split at h
  · cases h
    intro H locs lsC hR hl
    exact lv_ifnullN hx hb hd ho2 (K H locs lsC hR hl)
  · next q r =>
    obtain ⟨t, i⟩ := q
    cases h9 : Nat.blt t 64 with
    | false => rw [h9] at h; cases h
    | true =>
      rw [h9] at h
      cases h
      intro H locs lsC hR hl
      simp only [List.map_cons]
      rw [z_tv_h (Nat.le_of_ble_eq_true h9)]
      exact lv_ifnull hx hb hd (K H locs lsC hR hl)
  · cases h
theorem z_s_ifnonnull {off : Int} (F : z_Fx G L xs p s m meth c y M0) (hcd : z_cd y pc = some (.ifnonnull off, len, (a, b, e', f), ki, kj)) (h : z_step (y, pc, ls, st, M) = Sum.inl c') (K : z_K G L xs p l e R s m args below meth c Q n0 s0 c') : z_K G L xs p l e R s m args below meth c Q n0 s0 (y, pc, ls, st, M) := by
  obtain ⟨hd, ho, hn⟩ := z_cd_ok hcd
  obtain ⟨hx, hb, -⟩ := F
  simp only [z_step, hcd] at h
  simp only [z_oke, z_tok, Bool.and_eq_true, decide_eq_true_eq] at ho
  obtain ⟨ho1, ho2⟩ := ho
  obtain rfl : len = 3 := Nat.eq_of_beq_eq_true ho1
  split at h
  · cases h
    intro H locs lsC hR hl
    exact lv_ifnonnullN hx hb hd (K H locs lsC hR hl)
  · next q r =>
    obtain ⟨t, i⟩ := q
    cases h9 : Nat.blt t 64 with
    | false => rw [h9] at h; cases h
    | true =>
      rw [h9] at h
      cases h
      intro H locs lsC hR hl
      simp only [List.map_cons]
      rw [z_tv_h (Nat.le_of_ble_eq_true h9)]
      exact lv_ifnonnull hx hb hd ho2 (K H locs lsC hR hl)
  · cases h
end
