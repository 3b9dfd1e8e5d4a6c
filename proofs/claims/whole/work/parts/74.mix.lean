/-! calls of both: mixed -/
def z_nz (z : Int32) : Int32 := z * 1103515245 + 12345
def z_lo (z : Int32) : Int32 := ((z_nz z).toUInt32 >>> ((16 : Int32).toUInt32 &&& Int32.toUInt32 31)).toInt32
section
variable {d : Nat} {X : z_X} {I : Nat → Nat → Nat → Int32} {J : Nat → Nat → Nat → Int64}
theorem z_p65 : z_ev d (z_en 65 [z_r 1 0] (true, X, I, J)) (some (z_i (z_lo (I 1 0 6))), (true, X, z_up I 1 0 6 (z_nz (I 1 0 6)), J)) := z_q65_e rfl
theorem z_p222 : z_ev d (z_en 222 [z_r 33 0] (true, X, I, J)) (some (z_i (z_lo (I 33 0 7))), (true, X, z_up I 33 0 7 (z_nz (I 33 0 7)), J)) := z_q222_e rfl
/-- masks and z, after a of the pairs with b -/
def z_mxi (k : Int32) (b : Nat) (w : (Nat → Nat) × Int32) : Nat → (Nat → Nat) × Int32
  | 0 => w
  | a + 1 => (z_ms (z_mxi k b w a).1 a b (decide (z_lo (z_mxi k b w a).2 - z_lo (z_mxi k b w a).2 / 4 * 4 < k)), z_nz (z_mxi k b w a).2)
def z_mxo (k : Int32) (w : (Nat → Nat) × Int32) : Nat → (Nat → Nat) × Int32
  | 0 => w
  | b + 1 => z_mxi k b (z_mxo k w b) b
theorem z_mxi_wf {s b : Nat} {k : Int32} {w : (Nat → Nat) × Int32} (hs : s ≤ 10) (hm : z_wfm s w.1) (hb : b < s) : ∀ a, a ≤ b → z_wfm s (z_mxi k b w a).1
  | 0, _ => hm
  | a + 1, ha => z_wfm_ms hs (z_mxi_wf hs hm hb a (by omega)) (by omega) hb (by omega) _
theorem z_mxo_wf {s : Nat} {k : Int32} {w : (Nat → Nat) × Int32} (hs : s ≤ 10) (hm : z_wfm s w.1) : ∀ b, b ≤ s → z_wfm s (z_mxo k w b).1
  | 0, _ => hm
  | b + 1, hb => z_mxi_wf hs (z_mxo_wf hs hm b (by omega)) (by omega) b (Nat.le_refl b)
theorem z_cf_16 (q : Nat) : z_cf q 1 0 6 = true := by
  unfold z_cf
  simp [Nat.beq_refl]
theorem z_mf_37 (k : Nat) : z_mf k 33 0 7 = true := by
  unfold z_mf
  simp [Nat.beq_refl]
/-- the class: pairs with b -/
theorem z_l91i {q s b : Nat} {k : Int32} {w : (Nat → Nat) × Int32} (hq : q < 10) (hb : b < s) (hs : s ≤ 10) (hw : z_wfm s w.1) (x1 : Int32) (hm : z_hm I 14 q 0 w.1) (hz : I 1 0 6 = w.2) :
    ∃ I', (∀ r, z_ev (d + 2) (91, 31, [some (z_r 0 0), some (z_i x1), some (z_i k), some (z_r 13 q), some (z_i (Int32.ofNat (b + 1))), some (z_i (Int32.ofNat b))], [], (true, X, I', J)) r → z_ev (d + 2) (91, 43, [some (z_r 0 0), some (z_i x1), some (z_i k), some (z_r 13 q), some (z_i (Int32.ofNat b)), some (z_i 0)], [], (true, X, I, J)) r) ∧ z_hm I' 14 q 0 (z_mxi k b w b).1 ∧ I' 1 0 6 = (z_mxi k b w b).2 ∧ z_fr (z_cf q) I I' := by
  have key : ∀ j a, a + j = b → ∀ I1, z_hm I1 14 q 0 (z_mxi k b w a).1 → I1 1 0 6 = (z_mxi k b w a).2 → z_fr (z_cf q) I I1 → ∃ I', (∀ r, z_ev (d + 2) (91, 31, [some (z_r 0 0), some (z_i x1), some (z_i k), some (z_r 13 q), some (z_i (Int32.ofNat (b + 1))), some (z_i (Int32.ofNat b))], [], (true, X, I', J)) r → z_ev (d + 2) (91, 43, [some (z_r 0 0), some (z_i x1), some (z_i k), some (z_r 13 q), some (z_i (Int32.ofNat b)), some (z_i (Int32.ofNat a))], [], (true, X, I1, J)) r) ∧ z_hm I' 14 q 0 (z_mxi k b w b).1 ∧ I' 1 0 6 = (z_mxi k b w b).2 ∧ z_fr (z_cf q) I I' := by
    intro j
    induction j with
    | zero =>
      intro a ha I1 h1 h2 h3
      obtain rfl : a = b := by omega
      exact ⟨I1, fun r hr => z_q91_43 _ _ q hq _ _ ⟨fun _ => by rw [z_os]; exact hr, fun h => absurd ((z_olt (by omega) (by omega)).mp h) (by omega)⟩, h1, h2, h3⟩
    | succ j ih =>
      intro a ha I1 h1 h2 h3
      have hwa := z_mxi_wf (k := k) hs hw hb a (by omega)
      obtain ⟨is1, his⟩ : ∃ is1, is1 = decide (z_lo (z_mxi k b w a).2 - z_lo (z_mxi k b w a).2 / 4 * 4 < k) := ⟨_, rfl⟩
      obtain ⟨I0, hI0⟩ : ∃ I0, I0 = z_up I1 1 0 6 (z_nz (I1 1 0 6)) := ⟨_, rfl⟩
      have q0 : z_hm I0 14 q 0 (z_mxi k b w a).1 := fun p hp => by rw [hI0, z_up_t (by decide)]; exact h1 p hp
      have q1 : z_hm (z_sr I0 14 q 0 a b is1) 14 q 0 (z_mxi k b w (a + 1)).1 := by
        have := z_hm_sr q0 hs hwa (a := a) (b := b) (by omega) hb (by omega) is1
        rw [his] at this ⊢
        exact this
      have q2 : z_sr I0 14 q 0 a b is1 1 0 6 = (z_mxi k b w (a + 1)).2 := by
        show _ = z_nz (z_mxi k b w a).2
        unfold z_sr
        rw [z_up_t (by decide), z_up_t (by decide), hI0, z_up_e, h2]
      obtain ⟨I', e1, e2⟩ := ih (a + 1) (by omega) _ q1 q2 (z_fr_sr (by rw [hI0]; exact z_fr_up h3 (z_cf_16 q)) (z_cf_14 (by omega)) (z_cf_14 (by omega)))
      have c65 := z_p65 (d := d + 1) (X := X) (I := I1) (J := J)
      rw [← hI0] at c65
      refine ⟨I', fun r hr => z_q91_43 _ _ q hq _ _ ⟨fun h => absurd ((z_ole (by omega) (by omega)).mp h) (by omega), fun _ => ⟨_, _, _, _, c65, fun h => ?_, fun h => ?_⟩⟩, e2⟩
      · have hf : is1 = false := by rw [his, decide_eq_false_iff_not, ← h2]; exact Int32.not_lt.mpr h
        have e1 := e1 r hr
        rw [hf] at e1
        exact ⟨_, _, _, z_p23 hq (by omega) (by omega) false, by rw [z_os]; exact e1⟩
      · have hf : is1 = true := by rw [his, decide_eq_true_iff, ← h2]; exact h
        have e1 := e1 r hr
        rw [hf] at e1
        exact ⟨_, _, _, z_p23 hq (by omega) (by omega) true, by rw [z_os]; exact e1⟩
  exact key b 0 (by omega) I hm hz z_fr_rf
theorem z_l91 {q s : Nat} {k : Int32} {w : (Nat → Nat) × Int32} (hq : q < 10) (hs : s ≤ 10) (hw : z_wfm s w.1) (x1 : Int32) (es : I 13 q 1 = Int32.ofNat s) :
    ∀ j b, b + j = s → ∀ (o5 : Option z_V) I1, z_hm I1 14 q 0 (z_mxo k w b).1 → I1 1 0 6 = (z_mxo k w b).2 → z_fr (z_cf q) I I1 → ∃ I', z_ev (d + 2) (91, 31, [some (z_r 0 0), some (z_i x1), some (z_i k), some (z_r 13 q), some (z_i (Int32.ofNat b)), o5], [], (true, X, I1, J)) (some (z_i (z_sm (I' 14 q) s / 2)), (true, X, I', J)) ∧ z_hm I' 14 q 0 (z_mxo k w s).1 ∧ I' 1 0 6 = (z_mxo k w s).2 ∧ z_fr (z_cf q) I I' := by
  intro j
  induction j with
  | zero =>
    intro b hb o5 I1 h1 h2 h3
    have e13 : I1 13 = I 13 := z_fr_t h3 13 (fun _ _ => rfl)
    obtain rfl : b = s := by omega
    have hx := z_p26 (d := d) (X := X) (J := J) (I := I1) hq hs (by rw [e13]; exact es)
    refine ⟨I1, z_q91_31 _ _ q hq _ o5 ⟨fun _ => ⟨_, _, _, _, hx, rfl⟩, fun h => ?_⟩, h1, h2, h3⟩
    rw [e13, es] at h
    exact absurd ((z_olt (by omega) (by omega)).mp h) (by omega)
  | succ j ih =>
    intro b hb o5 I1 h1 h2 h3
    have e13 : I1 13 = I 13 := z_fr_t h3 13 (fun _ _ => rfl)
    obtain ⟨I2, f1, f2, f3, f4⟩ := z_l91i (d := d) (X := X) (J := J) (I := I1) (b := b) (k := k) hq (by omega) hs (z_mxo_wf hs hw b (by omega)) x1 h1 h2
    obtain ⟨I', c1, c2⟩ := ih (b + 1) (by omega) (some (z_i (Int32.ofNat b))) I2 f2 f3 (z_fr_tr h3 f4)
    refine ⟨I', z_q91_31 _ _ q hq _ o5 ⟨fun h => ?_, fun _ => f1 _ c1⟩, c2⟩
    rw [e13, es] at h
    exact absurd ((z_ole (by omega) (by omega)).mp h) (by omega)
/-- the reference -/
theorem z_l225i {n s b : Nat} {k : Int32} {w : (Nat → Nat) × Int32} (hn : n < 4) (hb : b < s) (hs : s ≤ 10) (hw : z_wfm s w.1) (hm : z_hm I 35 0 (10 * n) w.1) (hz : I 33 0 7 = w.2) :
    ∃ I', (∀ r, z_ev (d + 2) (225, 20, [some (z_r 33 0), some (z_i (Int32.ofNat n)), some (z_i k), some (z_i (Int32.ofNat (b + 1))), some (z_i (Int32.ofNat b))], [], (true, X, I', J)) r → z_ev (d + 2) (225, 33, [some (z_r 33 0), some (z_i (Int32.ofNat n)), some (z_i k), some (z_i (Int32.ofNat b)), some (z_i 0)], [], (true, X, I, J)) r) ∧ z_hm I' 35 0 (10 * n) (z_mxi k b w b).1 ∧ I' 33 0 7 = (z_mxi k b w b).2 ∧ z_fr (z_mf n) I I' := by
  have key : ∀ j a, a + j = b → ∀ I1, z_hm I1 35 0 (10 * n) (z_mxi k b w a).1 → I1 33 0 7 = (z_mxi k b w a).2 → z_fr (z_mf n) I I1 → ∃ I', (∀ r, z_ev (d + 2) (225, 20, [some (z_r 33 0), some (z_i (Int32.ofNat n)), some (z_i k), some (z_i (Int32.ofNat (b + 1))), some (z_i (Int32.ofNat b))], [], (true, X, I', J)) r → z_ev (d + 2) (225, 33, [some (z_r 33 0), some (z_i (Int32.ofNat n)), some (z_i k), some (z_i (Int32.ofNat b)), some (z_i (Int32.ofNat a))], [], (true, X, I1, J)) r) ∧ z_hm I' 35 0 (10 * n) (z_mxi k b w b).1 ∧ I' 33 0 7 = (z_mxi k b w b).2 ∧ z_fr (z_mf n) I I' := by
    intro j
    induction j with
    | zero =>
      intro a ha I1 h1 h2 h3
      obtain rfl : a = b := by omega
      exact ⟨I1, fun r hr => z_q225_33 _ _ _ _ ⟨fun _ => by rw [z_os]; exact hr, fun h => absurd ((z_olt (by omega) (by omega)).mp h) (by omega)⟩, h1, h2, h3⟩
    | succ j ih =>
      intro a ha I1 h1 h2 h3
      have hwa := z_mxi_wf (k := k) hs hw hb a (by omega)
      obtain ⟨is1, his⟩ : ∃ is1, is1 = decide (z_lo (z_mxi k b w a).2 - z_lo (z_mxi k b w a).2 / 4 * 4 < k) := ⟨_, rfl⟩
      obtain ⟨I0, hI0⟩ : ∃ I0, I0 = z_up I1 33 0 7 (z_nz (I1 33 0 7)) := ⟨_, rfl⟩
      have q0 : z_hm I0 35 0 (10 * n) (z_mxi k b w a).1 := fun p hp => by rw [hI0, z_up_t (by decide)]; exact h1 p hp
      have q1 : z_hm (z_sr I0 35 0 (10 * n) a b is1) 35 0 (10 * n) (z_mxi k b w (a + 1)).1 := by
        have := z_hm_sr q0 hs hwa (a := a) (b := b) (by omega) hb (by omega) is1
        rw [his] at this ⊢
        exact this
      have q2 : z_sr I0 35 0 (10 * n) a b is1 33 0 7 = (z_mxi k b w (a + 1)).2 := by
        show _ = z_nz (z_mxi k b w a).2
        unfold z_sr
        rw [z_up_t (by decide), z_up_t (by decide), hI0, z_up_e, h2]
      obtain ⟨I', e1, e2⟩ := ih (a + 1) (by omega) _ q1 q2 (z_fr_sr (by rw [hI0]; exact z_fr_up h3 (z_mf_37 n)) (z_mf_35 (by omega)) (z_mf_35 (by omega)))
      have c65 := z_p222 (d := d + 1) (X := X) (I := I1) (J := J)
      rw [← hI0] at c65
      refine ⟨I', fun r hr => z_q225_33 _ _ _ _ ⟨fun h => absurd ((z_ole (by omega) (by omega)).mp h) (by omega), fun _ => ⟨_, _, _, _, c65, fun h => ?_, fun h => ?_⟩⟩, e2⟩
      · have hf : is1 = false := by rw [his, decide_eq_false_iff_not, ← h2]; exact Int32.not_lt.mpr h
        have e1 := e1 r hr
        rw [hf] at e1
        exact ⟨_, _, _, z_p168 hn (by omega) (by omega) false, by rw [z_os]; exact e1⟩
      · have hf : is1 = true := by rw [his, decide_eq_true_iff, ← h2]; exact h
        have e1 := e1 r hr
        rw [hf] at e1
        exact ⟨_, _, _, z_p168 hn (by omega) (by omega) true, by rw [z_os]; exact e1⟩
  exact key b 0 (by omega) I hm hz z_fr_rf
theorem z_l225 {n s : Nat} {k : Int32} {w : (Nat → Nat) × Int32} (hn : n < 4) (hs : s ≤ 10) (hw : z_wfm s w.1) (es : I 34 0 n = Int32.ofNat s) :
    ∀ j b, b + j = s → ∀ (o4 : Option z_V) I1, z_hm I1 35 0 (10 * n) (z_mxo k w b).1 → I1 33 0 7 = (z_mxo k w b).2 → z_fr (z_mf n) I I1 → ∃ I', z_ev (d + 2) (225, 20, [some (z_r 33 0), some (z_i (Int32.ofNat n)), some (z_i k), some (z_i (Int32.ofNat b)), o4], [], (true, X, I1, J)) (some (z_i (z_sm (fun p => I' 35 0 (10 * n + p)) s / 2)), (true, X, I', J)) ∧ z_hm I' 35 0 (10 * n) (z_mxo k w s).1 ∧ I' 33 0 7 = (z_mxo k w s).2 ∧ z_fr (z_mf n) I I' := by
  intro j
  induction j with
  | zero =>
    intro b hb o4 I1 h1 h2 h3
    have e34 : I1 34 = I 34 := z_fr_t h3 34 (fun _ _ => rfl)
    obtain rfl : b = s := by omega
    have hx := z_p171 (d := d) (X := X) (J := J) (I := I1) hn hs (by rw [e34]; exact es) (fun p hp => by rw [h1 p hp]; exact z_r10_of ((z_mxo_wf hs hw _ (Nat.le_refl _)).1 p hp))
    refine ⟨I1, z_q225_20 _ _ _ o4 ⟨n, rfl, hn, fun _ => ⟨_, _, _, _, hx, rfl⟩, fun h => ?_⟩, h1, h2, h3⟩
    rw [e34, es] at h
    exact absurd ((z_olt (by omega) (by omega)).mp h) (by omega)
  | succ j ih =>
    intro b hb o4 I1 h1 h2 h3
    have e34 : I1 34 = I 34 := z_fr_t h3 34 (fun _ _ => rfl)
    obtain ⟨I2, f1, f2, f3, f4⟩ := z_l225i (d := d) (X := X) (J := J) (I := I1) (b := b) (k := k) hn (by omega) hs (z_mxo_wf hs hw b (by omega)) h1 h2
    obtain ⟨I', c1, c2⟩ := ih (b + 1) (by omega) (some (z_i (Int32.ofNat b))) I2 f2 f3 (z_fr_tr h3 f4)
    refine ⟨I', z_q225_20 _ _ _ o4 ⟨n, rfl, hn, fun h => ?_, fun _ => f1 _ c1⟩, c2⟩
    rw [e34, es] at h
    exact absurd ((z_ole (by omega) (by omega)).mp h) (by omega)
end
/-- promise 26 -/
theorem z_op_mixed (x w1 : Int32) : z_op 91 225 [z_i x, z_i w1] := by
  intro X I J hR
  have hR0 := hR
  obtain ⟨⟨n1, n2, n3, n4, n5⟩, r2, r3, r4, r5, r6, r7, r8⟩ := hR
  cases ha : z_bw x 0 3 with
  | false =>
    have fa : ∀ {P : Prop}, z_bw x 0 3 = true → P := fun h => by rw [ha] at h; cases h
    exact ⟨z_i (-1), X, X, I, I, J, J, z_q91_e (d := 58) x w1 ⟨fun _ => rfl, fun h => fa h⟩, z_q225_e (d := 58) x w1 ⟨fun _ => rfl, fun h => fa h⟩, hR0, Nat.le_succ _, Nat.le_add_right _ _, rfl⟩
  | true =>
    have fa : ∀ {P : Prop}, z_bw x 0 3 = false → P := fun h => by rw [ha] at h; cases h
    obtain ⟨k, hk, rfl⟩ := z_bw3 ha
    cases hb : z_bw w1 0 4 with
    | false =>
      have fb : ∀ {P : Prop}, z_bw w1 0 4 = true → P := fun h => by rw [hb] at h; cases h
      exact ⟨z_i (-1), X, X, I, I, J, J, z_q91_e (d := 58) _ w1 ⟨fun h => fa h, fun _ => ⟨fun _ => rfl, fun g0 => ⟨fun g1 => fb (z_bw_t.mpr ⟨g0, g1⟩), fun _ => rfl⟩⟩⟩, z_q225_e (d := 58) _ w1 ⟨fun h => fa h, fun _ => ⟨fun h => fb h, fun _ => rfl⟩⟩, hR0, Nat.le_succ _, Nat.le_add_right _ _, rfl⟩
    | true =>
      have fb : ∀ {P : Prop}, z_bw w1 0 4 = false → P := fun h => by rw [hb] at h; cases h
      obtain ⟨g0, g1⟩ := z_bw_t.mp hb
      rw [z_Rn0] at n1
      obtain ⟨s, m, m1, m2, m3, m4, m5, m6⟩ := n1 k hk
      have m4 : I 13 k 1 = Int32.ofNat s := m4
      have m5 : I 34 0 k = Int32.ofNat s := m5
      have m6 : ∀ p, p < 10 → I 14 k p = Int32.ofNat (m p) ∧ I 35 0 (10 * k + p) = Int32.ofNat (m p) := m6
      have wf : z_wfm s ((m, I 1 0 6) : (Nat → Nat) × Int32).1 := m3
      have s0 : z_mxo w1 (m, I 1 0 6) 1 = (m, I 1 0 6) := rfl
      obtain ⟨I1, c1, c2, c3, c4⟩ := z_l91 (d := 58) (X := X) (J := J) (I := I) (k := w1) (q := k) (by omega) m2 wf (Int32.ofNat k) m4 (s - 1) 1 (by omega) none I (fun p hp => by rw [Nat.zero_add, s0]; exact (m6 p hp).1) (by rw [s0]) z_fr_rf
      have t34 : I1 34 = I 34 := z_fr_t c4 34 (fun _ _ => rfl)
      have t35 : I1 35 = I 35 := z_fr_t c4 35 (fun _ _ => rfl)
      have t33 : I1 33 = I 33 := z_fr_t c4 33 (fun _ _ => rfl)
      obtain ⟨I2, d1, d2, d3, d4⟩ := z_l225 (d := 58) (X := X) (J := J) (I := I1) (k := w1) (n := k) hk m2 wf (by rw [t34]; exact m5) (s - 1) 1 (by omega) none I1 (fun p hp => by rw [s0, t35]; exact (m6 p hp).2) (by rw [s0, t33]; exact n4.symm) z_fr_rf
      have u13 : I2 13 = I 13 := by rw [z_fr_t d4 13 (fun _ _ => rfl), z_fr_t c4 13 (fun _ _ => rfl)]
      have u34 : I2 34 = I 34 := by rw [z_fr_t d4 34 (fun _ _ => rfl), t34]
      have u14 : I2 14 = I1 14 := z_fr_t d4 14 (fun _ _ => rfl)
      have u1 : I2 1 = I1 1 := z_fr_t d4 1 (fun _ _ => rfl)
      have c2 : ∀ p, p < 10 → I1 14 k p = Int32.ofNat ((z_mxo w1 (m, I 1 0 6) s).1 p) := fun p hp => by have := c2 p hp; rwa [Nat.zero_add] at this
      have e : z_sm (I1 14 k) s = z_sm (fun p => I2 35 0 (10 * k + p)) s := z_sm_eq fun p hp => by rw [c2 p (by omega), d2 p (by omega)]
      have hf : z_fr (z_np k) I I2 := z_fr_tr (z_fr_mn c4 (fun _ _ _ => z_cf_np)) (z_fr_mn d4 (fun _ _ _ => z_mf_np))
      refine ⟨z_i (z_sm (fun p => I2 35 0 (10 * k + p)) s / 2), X, X, I1, I2, J, J, z_q91_e (d := 58) _ w1 ⟨fun h => fa h, fun _ => ⟨fun h => absurd g0 (Int32.not_le.mpr h), fun _ => ⟨fun _ => ⟨k, rfl, hk, ?_⟩, fun h => absurd g1 (Int32.not_le.mpr h)⟩⟩⟩, z_q225_e (d := 58) _ w1 ⟨fun h => fa h, fun _ => ⟨fun _ => d1, fun h => fb h⟩⟩, z_R_net hR0 hk hf m1 m2 (z_mxo_wf m2 wf s (Nat.le_refl s)) (by rw [u13]; exact m4) (by rw [u34]; exact m5) (fun p hp => by rw [u14]; exact c2 p hp) d2 (by rw [u1, c3, d3]) rfl rfl, Nat.le_succ _, Nat.le_add_right _ _, ?_⟩
      · rw [← e]; exact c1
      · rw [z_fr_t d4 67 (fun _ _ => rfl), z_fr_t c4 67 (fun _ _ => rfl)]
