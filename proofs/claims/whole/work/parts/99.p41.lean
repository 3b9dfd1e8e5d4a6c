/-! read: the reference -/
def z_ku (n : Nat) (I : Nat → Nat → Nat → Int32) : Sum Nat (Nat → Nat → Prop) → Prop
  | Sum.inl x => I 33 0 20 = 0 ∧ I 33 0 16 = Int32.ofNat x
  | Sum.inr R => I 33 0 20 = 1 ∧ I 33 0 15 = 0 ∧ z_kM I 44 0 0 R ∧ z_kRp n R
theorem z_kM_W {I I' : Nat → Nat → Nat → Int32} {R : Nat → Nat → Prop} (h : z_kM I 44 0 0 R) (hf : z_fr z_tW I I') : z_kM I' 44 0 0 R := z_kM_eq h (fun p => hf 44 0 p rfl)
theorem z_km_23 {B : Nat → Int32} {s en : Nat} (h : z_km B s en 3 = true) : z_km B s en 2 = false ∧ z_km B s en 1 = false := by
  refine ⟨?_, z_km_ne h (by decide)⟩
  rw [← Bool.not_eq_true]
  intro q
  have h1 := (z_km_t.mp h).2 1 (by decide)
  have h2 := (z_km_t.mp q).2 1 (by decide)
  rw [h1] at h2
  exact absurd h2 (by decide)
section
variable {d : Nat} {X : z_X} {I : Nat → Nat → Nat → Int32} {J : Nat → Nat → Nat → Int64}
theorem z_l76 {B : Nat → Int32} {k n : Nat} {x1 x2 : Int32} (ht : z_kt B k) (hn1 : 1 ≤ n) (hn : n ≤ 10) (h2 : z_kk2 I B k) (e21 : I 33 0 21 = Int32.ofNat n) : ∀ j e (R : Nat → Nat → Prop) (I1 : Nat → Nat → Nat → Int32) (J1 : Nat → Nat → Nat → Int64), e ≤ k → 160 ≤ e + j → z_kT B k e I1 J1 → I1 33 0 20 = 1 → z_kM I1 44 0 0 R → z_kRp n R → z_fr z_tV I I1 → z_jn J J1 → ∃ I' J', (∀ r, z_ev (d + 6) (183, 76, [some (z_r 33 0), some (z_i x1), some (z_i x2)], [], (true, X, I', J')) r → z_ev (d + 6) (183, 76, [some (z_r 33 0), some (z_i x1), some (z_i x2)], [], (true, X, I1, J1)) r) ∧ z_fr z_tV I I' ∧ z_jn J J' ∧ z_ku n I' (z_kp B k n j e R) := by
  intro j
  have hk := ht.1
  induction j with
  | zero =>
    intro e R I1 J1 he hj hT hg hM hR hf hJ
    have hs := z_ks_ge B e
    exact ⟨I1, J1, fun r hr => hr, hf, hJ, hg, by rw [hT.2.2.1]; exact z_kso_0 ht (by omega), hM, hR⟩
  | succ j ih =>
    intro e R I1 J1 he hj hT hg hM hR hf hJ
    have hg0 : ¬ I1 33 0 20 = 0 := by rw [hg]; decide
    have hge := z_ks_ge B e
    by_cases hsk : k ≤ z_ks B e
    · have ev : z_kp B k n (j + 1) e R = Sum.inr R := by unfold z_kp; rw [if_pos hsk]
      rw [ev]
      exact ⟨I1, J1, fun r hr => hr, hf, hJ, hg, by rw [hT.2.2.1]; exact z_kso_0 ht hsk, hM, hR⟩
    · have hso : ¬ I1 33 0 15 = 0 := by
        rw [hT.2.2.1]
        rcases z_b0n (s := z_ks B e) ht with ⟨_, h0⟩ | ⟨q, _⟩
        · unfold z_kso
          rw [if_neg (Int32.not_lt.mpr h0)]
          split
          · decide
          · split <;> decide
        · omega
      have p3 := z_p177 (d := d + 5) (X := X) (w1 := 3) ht (by decide) hT
      have p1 := z_p177 (d := d + 5) (X := X) (w1 := 1) ht (by decide) hT
      have p2 := z_p177 (d := d + 5) (X := X) (w1 := 2) ht (by decide) hT
      -- a clause is gone through
      have clause : ∀ least, 1 ≤ least → z_kd B (z_ks B e) (z_ke B k (z_ks B e)) = least → (∀ I2 J2, z_ev (d + 5) (z_en 182 [z_r 33 0, z_i (Int32.ofNat least)] (true, X, I1, J1)) (none, (true, X, I2, J2)) → ∀ r, z_ev (d + 6) (183, 76, [some (z_r 33 0), some (z_i x1), some (z_i x2)], [], (true, X, I2, J2)) r → z_ev (d + 6) (183, 76, [some (z_r 33 0), some (z_i x1), some (z_i x2)], [], (true, X, I1, J1)) r) → ∃ I' J', (∀ r, z_ev (d + 6) (183, 76, [some (z_r 33 0), some (z_i x1), some (z_i x2)], [], (true, X, I', J')) r → z_ev (d + 6) (183, 76, [some (z_r 33 0), some (z_i x1), some (z_i x2)], [], (true, X, I1, J1)) r) ∧ z_fr z_tV I I' ∧ z_jn J J' ∧ z_ku n I' (z_kp B k n (j + 1) e R) := by
        intro least hl hd hstep
        obtain ⟨I2, J2, c1, c2, c3, c4, c5⟩ := z_p182 (d := d) (X := X) (R := R) ht hn1 hn (z_kk2_V hf h2) (by rw [hf 33 0 21 rfl]; exact e21) he hT hg hd hl hM
        have hd0 : ¬ z_kd B (z_ks B e) (z_ke B k (z_ks B e)) = 0 := by omega
        cases hk9 : z_kcl B k n least 10 (z_ke B k (z_ks B e)) 0 (fun i => i) with
        | inl x =>
          rw [hk9] at c4
          have ev : z_kp B k n (j + 1) e R = Sum.inl x := by unfold z_kp; rw [if_neg hsk, if_neg hd0, hd, hk9]
          rw [ev]
          exact ⟨I2, J2, fun r hr => hstep I2 J2 c1 r hr, z_fr_tr hf c2, z_jn_tr hJ c3, c4⟩
        | inr y =>
          have hy := c5 y hk9
          have hye := z_kcl_ge _ _ _ _ y hk9
          rw [hk9] at c4
          obtain ⟨m1, m2, m3, m4⟩ := c4
          have ev : z_kp B k n (j + 1) e R = z_kp B k n j y.1 (fun p q => R p q ∨ z_kF least y.2.1 y.2.2 p q) := by
            show (if _ then _ else if _ then _ else _) = _
            rw [if_neg hsk, if_neg hd0, hd, hk9]
          rw [ev]
          have hgt := z_ke_gt (B := B) (show z_ks B e < k by omega)
          obtain ⟨I', J', d1, d2, d3, d4⟩ := ih y.1 _ I2 J2 m2 (by omega) m3 m1 m4 (fun p q h => by
            rcases h with h | h
            · obtain ⟨a1, a2, a3, a4⟩ := hR p q h
              exact ⟨a1, a2, a3, Or.inl a4⟩
            · obtain ⟨a1, a2, a3, a4⟩ := hy p q h
              exact ⟨a1, a2, a3, Or.inr a4⟩) (z_fr_tr hf c2) (z_jn_tr hJ c3)
          exact ⟨I', J', fun r hr => hstep I2 J2 c1 r (d1 r hr), d2, d3, d4⟩
      cases e3 : z_km B (z_ks B e) (z_ke B k (z_ks B e)) 3 with
      | true =>
        obtain ⟨e2, e1⟩ := z_km_23 e3
        rw [e3] at p3
        exact clause 2 (by decide) (by unfold z_kd; rw [e1, e2, e3]; rfl) (fun I2 J2 c r hr => z_q183_76 _ _ ⟨fun q => absurd q hg0, fun _ => ⟨fun q => absurd q hso, fun _ => ⟨true, _, _, _, p3, fun q => (by cases q), fun _ => ⟨_, _, _, c, hr⟩⟩⟩⟩)
      | false =>
        rw [e3] at p3
        cases e1 : z_km B (z_ks B e) (z_ke B k (z_ks B e)) 1 with
        | true =>
          rw [e1] at p1
          exact clause 1 (by decide) (by unfold z_kd; rw [e1]; rfl) (fun I2 J2 c r hr => z_q183_76 _ _ ⟨fun q => absurd q hg0, fun _ => ⟨fun q => absurd q hso, fun _ => ⟨false, _, _, _, p3, fun _ => ⟨true, _, _, _, p1, fun q => (by cases q), fun _ => ⟨_, _, _, c, hr⟩⟩, fun q => (by cases q)⟩⟩⟩)
        | false =>
          rw [e1] at p1
          cases e2 : z_km B (z_ks B e) (z_ke B k (z_ks B e)) 2 with
          | true =>
            rw [e2] at p2
            exact clause 3 (by decide) (by unfold z_kd; rw [e1, e2]; rfl) (fun I2 J2 c r hr => z_q183_76 _ _ ⟨fun q => absurd q hg0, fun _ => ⟨fun q => absurd q hso, fun _ => ⟨false, _, _, _, p3, fun _ => ⟨false, _, _, _, p1, fun _ => ⟨true, _, _, _, p2, fun q => (by cases q), fun _ => ⟨_, _, _, c, hr⟩⟩, fun q => (by cases q)⟩, fun q => (by cases q)⟩⟩⟩)
          | false =>
            rw [e2] at p2
            have ed : z_kd B (z_ks B e) (z_ke B k (z_ks B e)) = 0 := by unfold z_kd; rw [e1, e2, e3]; rfl
            have ev : z_kp B k n (j + 1) e R = Sum.inl (z_ks B e) := by unfold z_kp; rw [if_neg hsk, if_pos ed]
            rw [ev]
            refine ⟨z_up I1 33 0 20 0, J1, fun r hr => z_q183_76 _ _ ⟨fun q => absurd q hg0, fun _ => ⟨fun q => absurd q hso, fun _ => ⟨false, _, _, _, p3, fun _ => ⟨false, _, _, _, p1, fun _ => ⟨false, _, _, _, p2, fun _ => hr, fun q => (by cases q)⟩, fun q => (by cases q)⟩, fun q => (by cases q)⟩⟩⟩, z_fr_up hf rfl, hJ, z_up_e, ?_⟩
            rw [z_up_j (by decide)]
            exact hT.1
theorem z_l57 {x1 : Int32} : ∀ j u, u + j = 10 → ∀ I1, (∀ p, p < u → I1 44 0 p = 0) → z_fr (fun a _ _ => Nat.beq a 44) I I1 → ∃ I', (∀ r, z_ev (d + 6) (183, 76, [some (z_r 33 0), some (z_i x1), some (z_i (Int32.ofNat 10))], [], (true, X, I', J)) r → z_ev (d + 6) (183, 57, [some (z_r 33 0), some (z_i x1), some (z_i (Int32.ofNat u))], [], (true, X, I1, J)) r) ∧ z_kM I' 44 0 0 (fun _ _ => False) ∧ z_fr (fun a _ _ => Nat.beq a 44) I I' := by
  intro j
  induction j with
  | zero =>
    intro u hu I1 h0 hf
    obtain rfl : u = 10 := by omega
    exact ⟨I1, fun r hr => z_q183_57 _ _ ⟨fun _ => hr, fun q => absurd q (by decide)⟩, ⟨fun _ => 0, fun p hp => by rw [Nat.zero_add, h0 p hp]; rfl, fun p _ => (by decide : 0 < 1024), fun p q _ => ⟨fun h => absurd ((Nat.zero_testBit q).symm.trans h) (by decide), fun h => False.elim h⟩⟩, hf⟩
  | succ j ih =>
    intro u hu I1 h0 hf
    obtain ⟨I', c1, c2, c3⟩ := ih (u + 1) (by omega) (z_up I1 44 0 u 0) (fun p hp => by
      rw [z_up_at]
      by_cases q : p = u
      · rw [if_pos q]
      · rw [if_neg q]; exact h0 p (by omega)) (z_fr_up hf rfl)
    refine ⟨I', fun r hr => z_q183_57 _ _ ⟨fun q => absurd ((z_ole (a := 10) (by decide) (by omega)).mp q) (by omega), fun _ => ⟨u, rfl, by omega, ?_⟩⟩, c2, c3⟩
    rw [z_os]
    exact c1 r hr
theorem z_l184 {a n : Nat} {m : Nat → Nat} (ha : a < 4) (hn : n ≤ 10) (e34 : I 34 0 a = Int32.ofNat n) (h44 : z_hm I 44 0 0 m) (hm : ∀ p, p < 10 → m p < 1024) : ∀ j u, u + j = 10 → ∀ I1, (∀ p, p < u → I1 35 0 (10 * a + p) = Int32.ofNat (m p)) → z_fr (z_pt 35 0 (10 * a)) I I1 → ∃ I', z_ev (d + 6) (183, 184, [some (z_r 33 0), some (z_i (Int32.ofNat a)), some (z_i (Int32.ofNat u))], [], (true, X, I1, J)) (some (z_i (z_sm (fun p => I' 35 0 (10 * a + p)) n / 2)), (true, X, I', J)) ∧ (∀ p, p < 10 → I' 35 0 (10 * a + p) = Int32.ofNat (m p)) ∧ z_fr (z_pt 35 0 (10 * a)) I I' := by
  intro j
  induction j with
  | zero =>
    intro u hu I1 h0 hf
    obtain rfl : u = 10 := by omega
    have p171 := z_p171 (d := d + 4) (X := X) (I := I1) (J := J) ha hn (by rw [z_fr_t hf 34 (fun _ _ => rfl)]; exact e34) (fun p hp => ⟨m p, hm p hp, h0 p hp⟩)
    exact ⟨I1, z_q183_184 _ _ ⟨fun _ => ⟨_, _, _, _, p171, rfl⟩, fun q => absurd q (by decide)⟩, h0, hf⟩
  | succ j ih =>
    intro u hu I1 h0 hf
    have e44 : I1 44 0 u = Int32.ofNat (m u) := by
      rw [z_fr_t hf 44 (fun _ _ => rfl)]
      have := h44 u (by omega)
      rw [Nat.zero_add] at this
      exact this
    obtain ⟨I', c1, c2, c3⟩ := ih (u + 1) (by omega) (z_up I1 35 0 (10 * a + u) (I1 44 0 u)) (fun p hp => by
      rw [z_up_at]
      by_cases q : p = u
      · rw [if_pos (by omega), q, e44]
      · rw [if_neg (by omega)]; exact h0 p (by omega)) (z_fr_up hf (z_pt_t (by omega) (by omega)))
    refine ⟨I', z_q183_184 _ _ ⟨fun q => absurd ((z_ole (a := 10) (by decide) (by omega)).mp q) (by omega), fun _ => ⟨u, rfl, by omega, 10 * a + u, z_o10 a u, by omega, ?_⟩⟩, c2, c3⟩
    rw [z_os]
    exact c1
end
def z_tX (k a b c : Nat) : Bool := z_tV a b c || (Nat.beq a 33 && (Nat.beq c 21 || Nat.beq c 14)) || (Nat.beq a 34 && Nat.beq b 0 && Nat.beq c k) || z_pt 35 0 (10 * k) a b c
theorem z_tV_X {k : Nat} {I I' : Nat → Nat → Nat → Int32} (h : z_fr z_tV I I') : z_fr (z_tX k) I I' := z_fr_mn h (fun a b c q => by unfold z_tX; rw [q]; rfl)
theorem z_t20_X {k : Nat} {I I' : Nat → Nat → Nat → Int32} (h : z_fr z_t20 I I') : z_fr (z_tX k) I I' := z_tV_X (z_tW_V (z_t20_W h))
theorem z_44_X {k : Nat} {I I' : Nat → Nat → Nat → Int32} (h : z_fr (fun a _ _ => Nat.beq a 44) I I') : z_fr (z_tX k) I I' := z_tV_X (z_fr_mn h (fun a b c q => by unfold z_tV; rw [q, Bool.or_true]))
