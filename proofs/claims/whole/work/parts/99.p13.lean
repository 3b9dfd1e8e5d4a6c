/-! calls of both: near, the call -/
theorem z_sumf_bd {f : Nat → Nat} : ∀ n, (∀ p, p < n → 1 ≤ f p ∧ f p ≤ 9) → z_sumf f n ≤ 9 * n ∧ n ≤ z_sumf f n
  | 0, _ => ⟨Nat.le_refl _, Nat.le_refl _⟩
  | n + 1, h => by
    have h1 := z_sumf_bd n (fun p hp => h p (by omega))
    have h2 := h n (by omega)
    show z_sumf f n + f n ≤ 9 * (n + 1) ∧ n + 1 ≤ z_sumf f n + f n
    omega
theorem z_dq_np {k a b c : Nat} (h : z_dq a b c = true) : z_np k a b c = true := by
  unfold z_dq at h
  simp only [Bool.or_eq_true, Bool.and_eq_true] at h
  unfold z_np
  rcases h.1 with (h | h) | h <;> (obtain rfl := Nat.eq_of_beq_eq_true h; rfl)
theorem z_dm_np {k a b c : Nat} (h : z_dm a b c = true) : z_np k a b c = true := by
  unfold z_dm at h
  simp only [Bool.or_eq_true, Bool.and_eq_true] at h
  unfold z_np
  rcases h.1 with (h | h) | h <;> (obtain rfl := Nat.eq_of_beq_eq_true h; rfl)
/-- what the relation says of the limit -/
theorem z_lim {cp : Int32} {cw cc : Nat → Int32} {mp : Int32} {we ch : Nat → Int32} (h : z_Rl cp cw cc mp we ch) : ∃ (P : Nat) (w : Nat → Nat) (cN : Nat → Nat → Nat), P ≤ 5 ∧ cp = Int32.ofNat P ∧ mp = Int32.ofNat P ∧ (∀ p, p < P → 1 ≤ w p ∧ w p ≤ 9) ∧ (∀ p, p < P → cw p = Int32.ofNat (w p) ∧ we p = Int32.ofNat (w p)) ∧ (∀ a b, a < P → b < P → cN a b ≤ 4 ∧ cN a b = cN b a) ∧ ∀ a b, a < P → b < P → cc (5 * a + b) = Int32.ofNat (cN a b) ∧ ch (5 * a + b) = Int32.ofNat (cN a b) := by
  obtain ⟨P, l1, l2, l3, l4, l5, l6, l7⟩ := h
  have ew : ∀ p, p < P → 1 ≤ (we p).toNatClampNeg ∧ (we p).toNatClampNeg ≤ 9 ∧ we p = Int32.ofNat (we p).toNatClampNeg := fun p hp => by
    obtain ⟨v, v1, v2, v3⟩ := l6 p hp
    rw [v3, Int32.toNatClampNeg_ofNat_of_lt (by omega)]
    exact ⟨v1, v2, rfl⟩
  have ec : ∀ a b, a < P → b < P → (ch (5 * a + b)).toNatClampNeg ≤ 4 ∧ ch (5 * a + b) = Int32.ofNat (ch (5 * a + b)).toNatClampNeg ∧ ch (5 * a + b) = ch (5 * b + a) := fun a b ha hb => by
    obtain ⟨v, v1, v2, v3⟩ := l7 a b ha hb
    rw [v3, v2, Int32.toNatClampNeg_ofNat_of_lt (by omega)]
    exact ⟨v1, rfl, rfl⟩
  refine ⟨P, fun p => (we p).toNatClampNeg, fun a b => (ch (5 * a + b)).toNatClampNeg, l1, l2, l3, fun p hp => ⟨(ew p hp).1, (ew p hp).2.1⟩, fun p hp => ⟨(l4 p (by omega)).trans (ew p hp).2.2, (ew p hp).2.2⟩, fun a b ha hb => ⟨(ec a b ha hb).1, ?_⟩, fun a b ha hb => ⟨(l5 _ (by omega)).trans (ec a b ha hb).2.1, (ec a b ha hb).2.1⟩⟩
  show (ch (5 * a + b)).toNatClampNeg = (ch (5 * b + a)).toNatClampNeg
  rw [(ec a b ha hb).2.2]
/-- promise 25 -/
theorem z_op_near (x w1 : Int32) : z_op 90 224 [z_i x, z_i w1] := by
  intro X I J hR
  have hR0 := hR
  obtain ⟨⟨n1, n2, n3, n4, n5⟩, r2, r3, r4, r5, r6, r7, r8⟩ := hR
  cases ha : z_bw x 0 3 with
  | false =>
    have fa : ∀ {P : Prop}, z_bw x 0 3 = true → P := fun h => by rw [ha] at h; cases h
    exact ⟨z_i (-1), X, X, I, I, J, J, z_q90_e (d := 57) x w1 ⟨fun _ => rfl, fun h => fa h⟩, z_q224_e (d := 58) x w1 ⟨fun _ => rfl, fun h => fa h⟩, hR0, Nat.le_succ _, Nat.le_add_right _ _, rfl⟩
  | true =>
    have fa : ∀ {P : Prop}, z_bw x 0 3 = false → P := fun h => by rw [ha] at h; cases h
    obtain ⟨k, hk, rfl⟩ := z_bw3 ha
    cases hb : z_bw w1 1 10 with
    | false =>
      have fb : ∀ {P : Prop}, z_bw w1 1 10 = true → P := fun h => by rw [hb] at h; cases h
      exact ⟨z_i (-1), X, X, I, I, J, J, z_q90_e (d := 57) _ w1 ⟨fun h => fa h, fun _ => ⟨fun _ => rfl, fun h1 => ⟨fun h2 => fb (z_bw_t.mpr ⟨h1, h2⟩), fun _ => rfl⟩⟩⟩, z_q224_e (d := 58) _ w1 ⟨fun h => fa h, fun _ => ⟨fun h => fb h, fun _ => rfl⟩⟩, hR0, Nat.le_succ _, Nat.le_add_right _ _, rfl⟩
    | true =>
      have fb : ∀ {P : Prop}, z_bw w1 1 10 = false → P := fun h => by rw [hb] at h; cases h
      obtain ⟨h1, h2⟩ := z_bw_t.mp hb
      obtain ⟨n, hn, rfl⟩ := z_nat' (n := 10) (Int32.le_trans (by decide) h1) h2 (by decide)
      have hn1 : 1 ≤ n := (z_ole (a := 1) (by decide) (by omega)).mp h1
      have q0 : ∀ {P : Prop}, Int32.ofNat n < 1 → P := fun h => absurd h1 (Int32.not_le.mpr h)
      have q1 : ∀ {P : Prop}, 10 < Int32.ofNat n → P := fun h => absurd h2 (Int32.not_le.mpr h)
      obtain ⟨P, w, cN, p1, p2, p3, p4, p5, p6, p7⟩ := z_lim n3
      by_cases hP0 : P = 0
      · subst hP0
        exact ⟨z_i (-3), X, X, I, I, J, J, z_q90_e (d := 57) _ _ ⟨fun h => fa h, fun _ => ⟨fun h => q0 h, fun _ => ⟨fun _ => ⟨fun h => absurd p2 h, fun _ => rfl⟩, fun h => q1 h⟩⟩⟩, z_q224_e (d := 58) _ _ ⟨fun h => fa h, fun _ => ⟨fun _ => ⟨fun h => absurd p3 h, fun _ => rfl⟩, fun h => fb h⟩⟩, hR0, Nat.le_succ _, Nat.le_add_right _ _, rfl⟩
      · have hP1 : 1 ≤ P := by omega
        have c4 : ¬ I 4 0 2 = 0 := by rw [p2]; exact fun q => hP0 ((z_oeq (b := 0) (by omega) (by decide)).mp q)
        obtain ⟨sb1, sb2⟩ := z_sumf_bd P p4
        obtain ⟨L, hL⟩ : ∃ L, L = z_asg (z_dlt w n P) P := ⟨_, rfl⟩
        have hLn : L.length = n := by rw [hL, z_asg_len, z_dlt_sum hP1 (by omega)]
        have hLl : ∀ x ∈ L, x < P := fun x hx => by rw [hL] at hx; exact z_asg_lt _ P x hx
        -- the class
        have c19 := z_p19 (d := 59) (X := X) (I := I) (J := J) (q := k) (by omega) (Int32.ofNat n)
        obtain ⟨I0, hI0⟩ : ∃ I0, I0 = z_wo (z_up I 13 k 1 (Int32.ofNat n)) 14 k 0 10 (fun _ => (0 : Int32)) := ⟨_, rfl⟩
        rw [← hI0] at c19
        have t0 : ∀ t, t ≠ 13 → t ≠ 14 → I0 t = I t := fun t h1 h2 => by rw [hI0, z_wo_t h2, z_up_t h1]
        have f0 : z_fr (z_np k) I I0 := by
          rw [hI0]
          exact z_fr_wo (z_fr_up z_fr_rf (by unfold z_np; simp [Nat.beq_refl])) (fun j h1 h2 => z_pt_np1 (z_pt_t h1 h2))
        obtain ⟨I1, a1, a2, a3⟩ := z_p15 (d := 57) (X := X) (J := J) (I := I0) (P := P) (n := n) (w := w) hP1 p1 hn (by rw [t0 4 (by decide) (by decide)]; exact p2) (fun p hp => by rw [t0 5 (by decide) (by decide)]; exact (p5 p hp).1) (fun p hp => (p4 p hp).2) (by omega) (by omega)
        rw [← hL] at a2
        have t1 : ∀ t, t ≠ 13 → t ≠ 14 → (∀ i j, z_dq t i j = false) → I1 t = I t := fun t h1 h2 h3 => by rw [z_fr_t a3 t h3, t0 t h1 h2]
        have hm1 : z_hm I1 14 k 0 (fun _ => 0) := fun p hp => by rw [z_fr_t a3 14 (fun _ _ => rfl), hI0, z_wo_e hp]; rfl
        have wf0 : z_wfm n (((fun _ => 0), I 1 0 6) : (Nat → Nat) × Int32).1 := z_wfm_0 n
        obtain ⟨I2, b1, b2, b3, b4⟩ := z_l90 (d := 57) (X := X) (J := J) (I := I1) (q := k) (s := n) (P := P) (L := L) (cN := cN) (w := ((fun _ => 0), I 1 0 6)) (by omega) hn p1 hLn hLl (fun a b ha hb => ⟨(p6 a b ha hb).1, by rw [t1 6 (by decide) (by decide) (fun _ _ => rfl)]; exact (p7 a b ha hb).1⟩) a2 wf0 (Int32.ofNat k) (by rw [z_fr_t a3 13 (fun _ _ => rfl), hI0, z_wo_t (by decide), z_up_e]) (n - 1) 1 (by omega) none I1 hm1 (by rw [t1 1 (by decide) (by decide) (fun _ _ => rfl)]; rfl) z_fr_rf
        have t2 : ∀ t, t ≠ 13 → t ≠ 14 → (∀ i j, z_dq t i j = false) → (∀ i j, z_cf k t i j = false) → I2 t = I t := fun t h1 h2 h3 h4 => by rw [z_fr_t b4 t h4, t1 t h1 h2 h3]
        -- the reference
        have c33 : ¬ I2 33 0 4 = 0 := by
          rw [t2 33 (by decide) (by decide) (fun _ _ => rfl) (fun _ _ => rfl), p3]
          exact fun q => hP0 ((z_oeq (b := 0) (by omega) (by decide)).mp q)
        obtain ⟨I3, d1, d2, d3⟩ := z_p223 (d := 58) (X := X) (J := J) (I := I2) (P := P) (n := n) (w := w) hP1 p1 hn (by rw [t2 33 (by decide) (by decide) (fun _ _ => rfl) (fun _ _ => rfl)]; exact p3) (fun p hp => by rw [t2 37 (by decide) (by decide) (fun _ _ => rfl) (fun _ _ => rfl)]; exact (p5 p hp).2) (fun p hp => (p4 p hp).2) (by omega) (by omega)
        have c169 := z_p169 (d := 59) (X := X) (I := I3) (J := J) (n := k) hk (Int32.ofNat n)
        obtain ⟨I4, hI4⟩ : ∃ I4, I4 = z_wo (z_up I3 34 0 k (Int32.ofNat n)) 35 0 (10 * k) 10 (fun _ => (0 : Int32)) := ⟨_, rfl⟩
        rw [← hI4] at c169
        have t4 : ∀ t, t ≠ 34 → t ≠ 35 → I4 t = I3 t := fun t h1 h2 => by rw [hI4, z_wo_t h2, z_up_t h1]
        have f4 : z_fr (z_np k) I3 I4 := by
          rw [hI4]
          exact z_fr_wo (z_fr_up z_fr_rf (by unfold z_np; simp [Nat.beq_refl])) (fun j h1 h2 => z_pt_np2 (z_pt_t h1 h2))
        have t33 : I4 33 = I 33 := by rw [t4 33 (by decide) (by decide), z_fr_t d3 33 (fun _ _ => rfl), t2 33 (by decide) (by decide) (fun _ _ => rfl) (fun _ _ => rfl)]
        obtain ⟨I5, o6, e1, e2, e3⟩ := z_l224b (d := 58) (X := X) (J := J) (I := I4) (P := P) (n := n) (nt := k) (D := z_dlt w n P) p1 (z_dlt_sum hP1 (by omega)) hn (by rw [t33]; exact p3) (fun p hp => by rw [t4 49 (by decide) (by decide)]; exact d2 p hp) P 0 (by omega) none I4 (fun i q hq => by cases hq) z_fr_rf rfl
        rw [← hL] at e1 e2
        have t5 : ∀ t, t ≠ 34 → t ≠ 35 → t ≠ 13 → t ≠ 14 → (∀ i j, z_dq t i j = false) → (∀ i j, z_cf k t i j = false) → (∀ i j, z_dm t i j = false) → I5 t = I t := fun t h1 h2 h3 h4 h5 h6 h7 => by rw [z_fr_t e3 t h7, t4 t h1 h2, z_fr_t d3 t h7, t2 t h3 h4 h5 h6]
        have hm5 : z_hm I5 35 0 (10 * k) (fun _ => 0) := fun p hp => by rw [z_fr_t e3 35 (fun _ _ => rfl), hI4, z_wo_e hp]; rfl
        obtain ⟨I6, g1, g2, g3, g4⟩ := z_l224 (d := 58) (X := X) (J := J) (I := I5) (n := k) (s := n) (P := P) (L := L) (cN := cN) (w := ((fun _ => 0), I 1 0 6)) hk hn p1 hLn hLl (fun a b ha hb => ⟨(p6 a b ha hb).1, by rw [t5 38 (by decide) (by decide) (by decide) (by decide) (fun _ _ => rfl) (fun _ _ => rfl) (fun _ _ => rfl)]; exact (p7 a b ha hb).2⟩) e2 wf0 (Int32.ofNat L.length) (by rw [z_fr_t e3 34 (fun _ _ => rfl), hI4, z_wo_t (by decide), z_up_e]) (n - 1) 1 (by omega) o6 none none I5 hm5 (by rw [t5 33 (by decide) (by decide) (by decide) (by decide) (fun _ _ => rfl) (fun _ _ => rfl) (fun _ _ => rfl)]; exact n4.symm) z_fr_rf
        obtain ⟨C, hC⟩ : ∃ C : Nat → Nat → Nat, C = fun a b => cN (L.getD a 0) (L.getD b 0) := ⟨_, rfl⟩
        rw [← hC] at b2 b3 g2 g3
        have b2 : ∀ p, p < 10 → I2 14 k p = Int32.ofNat ((z_nro C ((fun _ => 0), I 1 0 6) n).1 p) := fun p hp => by have := b2 p hp; rwa [Nat.zero_add] at this
        have e : z_sm (I2 14 k) n = z_sm (fun p => I6 35 0 (10 * k + p)) n := z_sm_eq fun p hp => by rw [b2 p (by omega), g2 p (by omega)]
        have hf : z_fr (z_np k) I I6 := z_fr_tr (z_fr_tr f0 (z_fr_tr (z_fr_mn a3 (fun _ _ _ => z_dq_np)) (z_fr_mn b4 (fun _ _ _ => z_cf_np)))) (z_fr_tr (z_fr_mn d3 (fun _ _ _ => z_dm_np)) (z_fr_tr f4 (z_fr_tr (z_fr_mn e3 (fun _ _ _ => z_dm_np)) (z_fr_mn g4 (fun _ _ _ => z_mf_np)))))
        have u14 : I6 14 = I2 14 := by rw [z_fr_t g4 14 (fun _ _ => rfl), z_fr_t e3 14 (fun _ _ => rfl), t4 14 (by decide) (by decide), z_fr_t d3 14 (fun _ _ => rfl)]
        have u13 : I6 13 k 1 = Int32.ofNat n := by rw [z_fr_t g4 13 (fun _ _ => rfl), z_fr_t e3 13 (fun _ _ => rfl), t4 13 (by decide) (by decide), z_fr_t d3 13 (fun _ _ => rfl), z_fr_t b4 13 (fun _ _ => rfl), z_fr_t a3 13 (fun _ _ => rfl), hI0, z_wo_t (by decide), z_up_e]
        have u34 : I6 34 0 k = Int32.ofNat n := by rw [z_fr_t g4 34 (fun _ _ => rfl), z_fr_t e3 34 (fun _ _ => rfl), hI4, z_wo_t (by decide), z_up_e]
        have u1 : I6 1 = I2 1 := by rw [z_fr_t g4 1 (fun _ _ => rfl), z_fr_t e3 1 (fun _ _ => rfl), t4 1 (by decide) (by decide), z_fr_t d3 1 (fun _ _ => rfl)]
        refine ⟨z_i (z_sm (fun p => I6 35 0 (10 * k + p)) n / 2), X, X, I2, I6, J, J, z_q90_e (d := 57) _ _ ⟨fun h => fa h, fun _ => ⟨fun h => q0 h, fun _ => ⟨fun _ => ⟨fun _ => ⟨k, rfl, hk, _, _, _, c19, _, _, _, a1, ?_⟩, fun h => absurd h c4⟩, fun h => q1 h⟩⟩⟩, z_q224_e (d := 58) _ _ ⟨fun h => fa h, fun _ => ⟨fun _ => ⟨fun _ => ⟨_, _, _, d1, _, _, _, c169, e1 _ g1⟩, fun h => absurd h c33⟩, fun h => fb h⟩⟩, z_R_net hR0 hk hf hn1 hn (z_nro_wf hn wf0 n (Nat.le_refl n)) u13 u34 (fun p hp => by rw [u14]; exact b2 p hp) g2 (by rw [u1, b3, g3]) rfl rfl, Nat.le_succ _, Nat.le_add_right _ _, ?_⟩
        · rw [← e]; exact b1
        · rw [z_fr_t g4 67 (fun _ _ => rfl), t5 67 (by decide) (by decide) (by decide) (by decide) (fun _ _ => rfl) (fun _ _ => rfl) (fun _ _ => rfl)]
