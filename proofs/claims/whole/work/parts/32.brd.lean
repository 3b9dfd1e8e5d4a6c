/-! from a run of the law in the interpreter to the law on the machine -/
/-- what is wanted of the interpreter: on each script the law answers 1, in its room -/
def z_law (L : Nat) (xs : Nat → Int32) : Prop := ∃ (d : Nat) (M : z_M), d ≤ 2000 ∧ z_ev d (z_en 285 [z_r 67 0] (z_M0 L xs)) (some (z_i 1), M) ∧ z_nc M ≤ 600000 ∧ z_sl M ≤ 7302250
theorem z_mi285 : (z_mi 285).2.1 = code := rfl
theorem z_ml285 : z_ml 285 = 4 := rfl
theorem z_brd {p : Program} {e : Env} {s : State} {m : MethodId} {below : List Frame} {meth : Method} {c : Code} (l : Launch) {b L : Nat} {xs : Nat → Int32} (hL : L ≤ 384) (hw : z_law L xs) (C0 : lw_At p s m meth c b L xs) : W p l e room_1 s m #[Value.ref b] below meth c s.heap [] 0 0 (lw_Z below #[Value.ref b] s) (entryFrame m ([Value.ref b] : List Value).toArray 4) := by
  obtain ⟨d, M, hd, ⟨n, hn⟩, hc, hsl⟩ := hw
  obtain ⟨G, hG, hGb, F⟩ := z_beg hL C0
  have hx := F.1
  have hb : c.code = code := F.2.1
  have hr : meth.sig.returnType = ret := F.2.2.2.2.1
  have hlocks := F.2.2.2.2.2.1
  have hSt := F.2.2.2.2.2.2.2
  have e0 : z_nc (z_M0 L xs) = 0 := rfl
  have e1 : z_sl (z_M0 L xs) = 0 := rfl
  have K := z_snd (G := G) (L := L) (xs := xs) (l := l) n d (z_en 285 [z_r 67 0] (z_M0 L xs)) _ hn p e room_1 s m #[Value.ref b] below meth c (lw_Z below #[Value.ref b] s) (z_M0 L xs) F (Nat.le_refl _)
    (by show d + 1 ≤ 2048; omega) (by show 40 * (d + 1) ≤ 84000; omega) (by show z_nc M - _ ≤ 600000; omega) (by show z_sl M - _ ≤ 7302250; omega) (by
      intro pc ls st M1 hst
      have hst : z_step (285, pc, ls, st, M1) = Sum.inr (Sum.inl (some (z_i 1), M)) := hst
      obtain ⟨hM, ins, len, a, b9, e', f, ki, kj, hcd, hcase⟩ := z_step_rt hst
      have hM : M = M1 := hM
      subst hM
      obtain ⟨hdc, ho, -⟩ := z_cd_ok hcd
      have hdc : decode (z_mi 285).2.1 pc = .ok (ins, len) := hdc
      rw [z_mi285] at hdc
      rcases hcase with ⟨rfl, v1, e4, e5, -⟩ | ⟨-, v1, -, e5⟩ | ⟨-, v1, -, e5⟩ | ⟨-, -, e5⟩
      · have e5 : some (z_i 1) = some (z_i v1) := e5
        cases e5
        subst e4
        simp only [z_oke, Bool.and_eq_true] at ho
        obtain rfl : len = 1 := Nat.eq_of_beq_eq_true ho.1
        intro H locs lsC hR hl
        refine va_forget (fun q hq => ?_) ?_
        · have h1 : z_A G.2.2.1 q.base := hR.2.2.2.2.2.2 q hq
          rw [hG] at h1
          exact h1
        · refine W.widen (k := 600000) (n := 7302250) (by show z_nc M - 0 ≤ 600000; omega) (by show z_sl M - 0 ≤ 7302250; omega) ?_
          have hdc : decode code pc = .ok (.ireturn, 1) := hdc
          have q9 := lw_ret (p := p) (l := l) (e := e) (s := s) (m := m) (below := below) (meth := meth) (c := c) (b := b) (pc := pc) (H := H) (ls := lsC) hx hb hr hlocks hdc
          exact q9
      · cases e5
      · cases e5
      · cases e5)
  have hR : z_Rp G L xs s (z_M0 L xs) s.heap [] := ⟨hSt.1, by rw [hSt.2.1]; exact Nat.le_refl _, hSt.2.2.1, hSt.2.2.2.1, va_S.rf⟩
  have hE := z_entry (G := G) F.ex (as1 := [z_r 67 0]) (n := z_ml 285) (by decide)
  have K := K s.heap [] _ hR hE
  rw [z_ml285] at K
  rw [lg_entry_eq]
  have hA : ([z_r 67 0] : List z_V).map (z_tv G) = [Value.ref b] := by
    show [z_tv G (z_r 67 0)] = _
    rw [← hGb]
    rfl
  rw [hA] at K
  exact K
