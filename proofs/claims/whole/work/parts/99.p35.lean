/-! read: what a text says; the class, clauses -/
def z_kr (B : Nat → Int32) (k : Nat) (R : Nat → Nat → Prop) (least : Nat) (b : Bool) (I : Nat → Nat → Nat → Int32) : Sum Nat (Nat × Nat × (Nat → Nat)) → Prop
  | Sum.inl x => b = false ∧ x ≤ 160 ∧ I 15 0 3 = Int32.ofNat x
  | Sum.inr y => b = true ∧ y.1 ≤ k ∧ I 15 0 3 = Int32.ofNat (z_ks B y.1) ∧ I 15 0 4 = Int32.ofNat (z_ke B k (z_ks B y.1)) ∧ z_kM I 14 8 0 (fun p q => R p q ∨ z_kF least y.2.1 y.2.2 p q)
def z_kS (least c : Nat) (g : Nat → Nat) : Nat := if least = 1 then z_um g c else if c = 0 then 0 else 2 ^ g (c - 1)
theorem z_kS_tb (least c : Nat) (g : Nat → Nat) (p : Nat) : (z_kS least c g).testBit p = true ↔ ∃ i, i < c ∧ (least = 1 ∨ c = i + 1) ∧ g i = p := by
  unfold z_kS
  by_cases h : least = 1
  · rw [if_pos h, z_um_tb]
    exact ⟨fun ⟨i, h1, h2⟩ => ⟨i, h1, Or.inl h, h2⟩, fun ⟨i, h1, _, h2⟩ => ⟨i, h1, h2⟩⟩
  · rw [if_neg h]
    by_cases hc : c = 0
    · rw [if_pos hc, Nat.zero_testBit]
      exact ⟨fun q => (by cases q), fun ⟨i, h1, _⟩ => absurd h1 (by omega)⟩
    · rw [if_neg hc, Nat.testBit_two_pow, decide_eq_true_iff]
      exact ⟨fun q => ⟨c - 1, by omega, Or.inr (by omega), q⟩, fun ⟨i, h1, h2, h3⟩ => by
        rcases h2 with h2 | h2
        · exact absurd h2 h
        · rw [show c - 1 = i by omega]; exact h3⟩
theorem z_kS_lt {least c : Nat} {g : Nat → Nat} (h : ∀ i, i < c → g i < 10) : z_kS least c g < 1024 := by
  unfold z_kS
  split
  · exact z_um_lt c h
  · split
    · decide
    · exact Nat.pow_lt_pow_right (n := 10) (by decide) (h _ (by omega))
theorem z_1sh : ∀ b, b < 10 → (1 : Int32) <<< (Int32.ofNat b &&& 31) = Int32.ofNat (2 ^ b) := by decide +kernel
section
variable {d : Nat} {X : z_X} {I : Nat → Nat → Nat → Int32} {J : Nat → Nat → Nat → Int64}
/-- the end of a clause -/
theorem z_f49 {B : Nat → Int32} {k n least e c : Nat} {g : Nat → Nat} {R : Nat → Nat → Prop} {I1 : Nat → Nat → Nat → Int32} (ht : z_kt B k) (hn : n ≤ 10) (hl1 : least ≤ c) (hl3 : least ≤ 3) (he : e ≤ k) (h1 : z_kk1 I1 B k) (h3 : I1 15 0 3 = Int32.ofNat (z_ks B e)) (h4 : I1 15 0 4 = Int32.ofNat (z_ke B k (z_ks B e))) (hM : z_kM I1 14 8 0 (fun p q => R p q ∨ z_kE least c g p q)) (hg : ∀ i, i < c → g i < n) (hgi : ∀ i j, i < c → j < c → g i = g j → i = j) (hf : z_fr z_tP I I1) : ∃ I', z_fr z_tP I I' ∧ z_kr B k R least true I' (Sum.inr (z_ke B k (z_ks B e), c, g)) ∧ (decide (least = 3) = false → ∃ (X1 : z_X) (I2 : Nat → Nat → Nat → Int32) (J2 : Nat → Nat → Nat → Int64), z_ev (d + 4) (z_en 51 [z_r 15 0] (true, X, I1, J)) (none, (true, X1, I2, J2)) ∧ ((some (z_i (z_c true)), (true, X, I', J)) : Option z_V × z_M) = (some (z_i 1), (true, X1, I2, J2))) ∧ (decide (least = 3) = true → ∃ (X1 : z_X) (I2 : Nat → Nat → Nat → Int32) (J2 : Nat → Nat → Nat → Int64), z_ev (d + 4) (z_en 23 [z_r 13 8, z_i (Int32.ofNat (if c = 0 then 0 else g (c - 1))), z_i (Int32.ofNat (if c = 0 then 0 else g 0)), z_i 1] (true, X, I1, J)) (none, (true, X1, I2, J2)) ∧ ∃ (X3 : z_X) (I4 : Nat → Nat → Nat → Int32) (J4 : Nat → Nat → Nat → Int64), z_ev (d + 4) (z_en 51 [z_r 15 0] (true, X1, I2, J2)) (none, (true, X3, I4, J4)) ∧ ((some (z_i (z_c true)), (true, X, I', J)) : Option z_V × z_M) = (some (z_i 1), (true, X3, I4, J4))) := by
  have hs := z_ks_le ht he
  have hen := z_ke_le ht hs
  by_cases h9 : least = 3
  · have p23 := z_p23 (d := d + 4) (X := X) (I := I1) (J := J) (q := 8) (a := g (c - 1)) (b := g 0) (by decide) (by have := hg (c - 1) (by omega); omega) (by have := hg 0 (by omega); omega) true
    have hne : g (c - 1) ≠ g 0 := fun q => absurd (hgi _ _ (by omega) (by omega) q) (by omega)
    have hM2 := z_kM_sr hM (by have := hg (c - 1) (by omega); omega) (by have := hg 0 (by omega); omega) hne
    have hf2 : z_fr z_tP I (z_sr I1 14 8 0 (g (c - 1)) (g 0) true) := z_fr_sr hf rfl rfl
    obtain ⟨I', c1, c2, c3, c4⟩ := z_p51 (d := d + 2) (X := X) (J := J) (I := z_sr I1 14 8 0 (g (c - 1)) (g 0) true) ht h1 hen h4
    refine ⟨I', z_fr_tr hf2 (z_t15_P c4), ⟨rfl, hen, c2, c3, z_kM_cg (z_kM_eq hM2 (fun p => c4 14 8 p rfl)) (fun p q hp => ?_)⟩, fun q => absurd h9 (of_decide_eq_false q), fun _ => ⟨_, _, _, by rw [if_neg (show ¬ c = 0 by omega), if_neg (show ¬ c = 0 by omega)]; exact p23, _, _, _, c1, rfl⟩⟩
    unfold z_kF
    constructor
    · intro h
      rcases h with (h | h) | h | h
      · exact Or.inl h
      · exact Or.inr (Or.inl h)
      · exact Or.inr (Or.inr ⟨h9, Or.inr h⟩)
      · exact Or.inr (Or.inr ⟨h9, Or.inl h⟩)
    · intro h
      rcases h with h | h | ⟨_, h | h⟩
      · exact Or.inl (Or.inl h)
      · exact Or.inl (Or.inr h)
      · exact Or.inr (Or.inr h)
      · exact Or.inr (Or.inl h)
  · obtain ⟨I', c1, c2, c3, c4⟩ := z_p51 (d := d + 2) (X := X) (J := J) (I := I1) ht h1 hen h4
    refine ⟨I', z_fr_tr hf (z_t15_P c4), ⟨rfl, hen, c2, c3, z_kM_cg (z_kM_eq hM (fun p => c4 14 8 p rfl)) (fun p q hp => ?_)⟩, fun _ => ⟨_, _, _, c1, rfl⟩, fun q => absurd (of_decide_eq_true q) h9⟩
    unfold z_kF
    exact ⟨fun h => h.elim Or.inl (fun h => Or.inr (Or.inl h)), fun h => h.elim Or.inl (fun h => h.elim Or.inr (fun h => absurd h.1 h9))⟩
/-- the class: the posts of a clause -/
theorem z_l49 {B : Nat → Int32} {k n least : Nat} {R : Nat → Nat → Prop} (ht : z_kt B k) (hn : n ≤ 10) (e13 : I 13 8 1 = Int32.ofNat n) (hl1 : 1 ≤ least) (hl3 : least ≤ 3) : ∀ j c, c + j = 10 → ∀ (e : Nat) (g : Nat → Nat) (I1 : Nat → Nat → Nat → Int32), e ≤ k → z_kk1 I1 B k → I1 15 0 3 = Int32.ofNat (z_ks B e) → I1 15 0 4 = Int32.ofNat (z_ke B k (z_ks B e)) → z_kM I1 14 8 0 (fun p q => R p q ∨ z_kE least c g p q) → (∀ i, i < c → g i < n) → (∀ i j, i < c → j < c → g i = g j → i = j) → z_fr z_tP I I1 → ∃ (I' : Nat → Nat → Nat → Int32) (b : Bool), (∀ o8, z_ev (d + 5) (49, 67, [some (z_r 15 0), some (z_i (z_c (decide (least = 1)))), some (z_i (z_c (decide (least = 3)))), some (z_i (Int32.ofNat least)), some (z_i (Int32.ofNat (z_um g c))), some (z_i (Int32.ofNat (if c = 0 then 0 else g 0))), some (z_i (Int32.ofNat (if c = 0 then 0 else g (c - 1)))), some (z_i (Int32.ofNat c)), o8], [], (true, X, I1, J)) (some (z_i (z_c b)), (true, X, I', J))) ∧ z_fr z_tP I I' ∧ z_kr B k R least b I' (z_kcl B k n least j e c g) := by
  intro j
  have hk := ht.1
  induction j with
  | zero =>
    intro c hc e g I1 he h1 h3 h4 hM hg hgi hf
    have hs := z_ks_le ht he
    have p56 := z_p56 (d := d + 3) (X := X) (J := J) ht h1 (show z_ks B e ≤ 1000 by omega) h3 59
    have hlt : ∀ {P : Prop}, Int32.ofNat c < (10 : Int32) → P := fun q => absurd ((z_olt (b := 10) (by omega) (by decide)).mp q) (by omega)
    by_cases h9 : B (z_ks B e) = 59
    · obtain ⟨I', f1, f2, f3, f4⟩ := z_f49 (d := d) (X := X) (J := J) ht hn (show least ≤ c by omega) hl3 he h1 h3 h4 hM hg hgi hf
      have ev : z_kcl B k n least 0 e c g = Sum.inr (z_ke B k (z_ks B e), c, g) := by unfold z_kcl; rw [if_pos h9]
      rw [ev]
      exact ⟨I', true, fun o8 => z_q49_67 _ _ _ _ _ _ _ _ ⟨fun _ => ⟨_, _, _, _, p56, fun _ => ⟨f3, f4⟩, fun q => absurd h9 (of_decide_eq_false q)⟩, fun q => hlt q⟩, f1, f2⟩
    · have ev : z_kcl B k n least 0 e c g = Sum.inl (z_ks B e) := by unfold z_kcl; rw [if_neg h9]
      rw [ev]
      exact ⟨I1, false, fun o8 => z_q49_67 _ _ _ _ _ _ _ _ ⟨fun _ => ⟨_, _, _, _, p56, fun q => absurd (of_decide_eq_true q) h9, fun _ => rfl⟩, fun q => hlt q⟩, hf, rfl, (by omega), h3⟩
  | succ j ih =>
    intro c hc e g I1 he h1 h3 h4 hM hg hgi hf
    have hs := z_ks_le ht he
    have hen := z_ke_le ht hs
    have hge := z_ke_ge B k (z_ks B e)
    have p56 := z_p56 (d := d + 3) (X := X) (J := J) ht h1 (show z_ks B e ≤ 1000 by omega) h3 59
    have hge10 : ¬ (10 : Int32) ≤ Int32.ofNat c := fun q => absurd ((z_ole (a := 10) (by decide) (by omega)).mp q) (by omega)
    have f13 : I1 13 8 1 = Int32.ofNat n := by rw [hf 13 8 1 rfl]; exact e13
    by_cases hno : least ≤ c ∧ B (z_ks B e) = 59
    · obtain ⟨I', f1, f2, f3, f4⟩ := z_f49 (d := d) (X := X) (J := J) ht hn hno.1 hl3 he h1 h3 h4 hM hg hgi hf
      have ev : z_kcl B k n least (j + 1) e c g = Sum.inr (z_ke B k (z_ks B e), c, g) := by unfold z_kcl; rw [if_pos hno]
      rw [ev]
      exact ⟨I', true, fun o8 => z_q49_67 _ _ _ _ _ _ _ _ ⟨fun q => absurd q hge10, fun _ => ⟨fun q => absurd ((z_olt (by omega) (by omega)).mp q) (by omega), fun _ => ⟨_, _, _, _, p56, fun _ => ⟨_, _, _, _, p56, fun _ => ⟨f3, f4⟩, fun q => absurd hno.2 (of_decide_eq_false q)⟩, fun q => absurd hno.2 (of_decide_eq_false q)⟩⟩⟩, f1, f2⟩
    · have p58 := z_p58 (d := d + 3) (X := X) (J := J) ht h1 hge hen h3 h4
      obtain ⟨N, hN⟩ : ∃ N, N = z_kn B (z_ks B e) (z_ke B k (z_ks B e)) := ⟨_, rfl⟩
      rw [← hN] at p58
      have hum : z_um g c < 1024 := z_um_lt c (fun i hi => by have := hg i hi; omega)
      by_cases hneg : 0 ≤ N
      · by_cases hbig : N < Int32.ofNat n
        · obtain ⟨v, hv, rfl⟩ := z_nat hneg hbig (by omega)
          have ecl : (Int32.ofNat v).toNatClampNeg = v := z_cl_nat (n := 10) (by omega) (by decide)
          have hb2 := z_bt_2k _ (show z_um g c < 2048 by omega) v (by omega)
          cases hbit : (z_um g c).testBit v with
          | true =>
            rw [hbit] at hb2
            have hbt := of_decide_eq_true hb2
            have ev : z_kcl B k n least (j + 1) e c g = Sum.inl (z_ks B e) := by
              unfold z_kcl
              rw [if_neg hno, if_neg (fun q => by rw [← hN, ecl, hbit] at q; cases q.2.2)]
            rw [ev]
            exact ⟨I1, false, fun o8 => z_q49_67 _ _ _ _ _ _ _ _ ⟨fun q => absurd q hge10, fun _ => ⟨fun _ => ⟨_, _, _, _, p58, fun _ => rfl, fun _ => ⟨fun _ => rfl, fun _ => ⟨fun q => absurd q hbt, fun _ => rfl⟩⟩⟩, fun hlc => ⟨_, _, _, _, p56, fun q => absurd ⟨(z_ole (by omega) (by omega)).mp hlc, of_decide_eq_true q⟩ hno, fun _ => ⟨_, _, _, _, p58, fun _ => rfl, fun _ => ⟨fun _ => rfl, fun _ => ⟨fun q => absurd q hbt, fun _ => rfl⟩⟩⟩⟩⟩⟩, hf, rfl, (by omega), h3⟩
          | false =>
            rw [hbit] at hb2
            have hbt : ((Int32.ofNat (z_um g c) >>> (Int32.ofNat v &&& 31)) &&& (1 : Int32)) = 0 := Classical.byContradiction (of_decide_eq_false hb2)
            have hne : ∀ i, i < c → g i ≠ v := fun i hi q => by
              rw [(z_um_tb g v c).mpr ⟨i, hi, q⟩] at hbit
              cases hbit
            have ev : z_kcl B k n least (j + 1) e c g = z_kcl B k n least j (z_ke B k (z_ks B e)) (c + 1) (z_upd g c v) := by
              have : z_kcl B k n least (j + 1) e c g = z_kcl B k n least j (z_ke B k (z_ks B e)) (c + 1) (z_upd g c (z_kn B (z_ks B e) (z_ke B k (z_ks B e))).toNatClampNeg) := by
                show (if _ then _ else if _ then _ else _) = _
                rw [if_neg hno, if_pos ⟨by rw [← hN]; exact hneg, by rw [← hN]; exact hbig, by rw [← hN, ecl]; exact hbit⟩]
              rw [this, ← hN, ecl]
            have hSb : (z_kS least c g).testBit v = false := by
              rw [← Bool.not_eq_true, z_kS_tb]
              exact fun ⟨i, h1, _, h2⟩ => hne i h1 h2
            obtain ⟨I2, p50, m2, f2⟩ := z_p50 (d := d + 3) (X := X) (J := J) (I := I1) hn f13 hv (z_kS_lt (least := least) (fun i hi => by have := hg i hi; omega)) hSb hM
            have f2P : z_fr z_tP I1 I2 := z_fr_mn f2 (fun a b c q => by unfold z_tP; rw [q, Bool.or_true])
            obtain ⟨I3, p51, k3, k4, f3⟩ := z_p51 (d := d + 2) (X := X) (J := J) (I := I2) ht (z_kk1_P f2P h1) hen (by rw [f2 15 0 4 rfl]; exact h4)
            have hf3 := z_fr_tr hf (z_fr_tr f2P (z_t15_P f3))
            obtain ⟨I', b, c1, c2, c3⟩ := ih (c + 1) (by omega) (z_ke B k (z_ks B e)) (z_upd g c v) I3 hen (z_kk1_P (z_fr_tr f2P (z_t15_P f3)) h1) k3 k4 (z_kM_cg (z_kM_eq m2 (fun p => f3 14 8 p rfl)) (fun p q hp => by
              rw [z_kE_up]
              constructor
              · intro h
                rcases h with (h | h) | ⟨a1, a2, a3⟩ | ⟨a1, a2, a3⟩
                · exact Or.inl h
                · exact Or.inr (Or.inl h)
                · obtain ⟨i, b1, b2, b3⟩ := (z_kS_tb _ _ _ _).mp a2
                  exact Or.inr (Or.inr ⟨i, b1, b2, Or.inl ⟨b3.symm, a1⟩⟩)
                · obtain ⟨i, b1, b2, b3⟩ := (z_kS_tb _ _ _ _).mp a2
                  exact Or.inr (Or.inr ⟨i, b1, b2, Or.inr ⟨a1, b3.symm⟩⟩)
              · intro h
                rcases h with h | h | ⟨i, b1, b2, ⟨b3, b4⟩ | ⟨b3, b4⟩⟩
                · exact Or.inl (Or.inl h)
                · exact Or.inl (Or.inr h)
                · exact Or.inr (Or.inl ⟨b4, (z_kS_tb _ _ _ _).mpr ⟨i, b1, b2, b3.symm⟩, by rw [b3]; exact hg i b1⟩)
                · exact Or.inr (Or.inr ⟨b3, (z_kS_tb _ _ _ _).mpr ⟨i, b1, b2, b4.symm⟩, by rw [b4]; exact hg i b1⟩))) (fun i hi => by
              by_cases q : i = c
              · rw [q, z_upd_e]; exact hv
              · rw [z_upd_n q]; exact hg i (by omega)) (z_upd_in hgi hne) hf3
            rw [ev]
            rw [z_um_ud, if_neg (Nat.succ_ne_zero c), if_neg (Nat.succ_ne_zero c), Nat.add_sub_cancel, z_upd_e] at c1
            have hvn : ¬ Int32.ofNat n ≤ Int32.ofNat v := fun q => absurd ((z_ole (by omega) (by omega)).mp q) (by omega)
            have c0 : Int32.ofNat c = 0 ↔ c = 0 := z_oeq (b := 0) (by omega) (by decide)
            have ca : ∀ (hc0 : Int32.ofNat c = 0), z_ev (d + 5) (49, 67, [some (z_r 15 0), some (z_i (z_c (decide (least = 1)))), some (z_i (z_c (decide (least = 3)))), some (z_i (Int32.ofNat least)), some (z_i (Int32.ofNat (z_um g c) ||| ((1 : Int32) <<< (Int32.ofNat v &&& 31)))), some (z_i (Int32.ofNat v)), some (z_i (Int32.ofNat v)), some (z_i (Int32.ofNat c + (1 : Int32))), some (z_i (Int32.ofNat v))], [], (true, X, I3, J)) (some (z_i (z_c b)), (true, X, I', J)) := fun hc0 => by
              have q := c0.mp hc0
              rw [z_or2k _ (by omega) v (by omega), z_os]
              have c1' := c1 (some (z_i (Int32.ofNat v)))
              rw [show z_upd g c v 0 = v by rw [q]; exact z_upd_e] at c1'
              exact c1'
            have cb : ∀ (hc0 : ¬ Int32.ofNat c = 0), z_ev (d + 5) (49, 67, [some (z_r 15 0), some (z_i (z_c (decide (least = 1)))), some (z_i (z_c (decide (least = 3)))), some (z_i (Int32.ofNat least)), some (z_i (Int32.ofNat (z_um g c) ||| ((1 : Int32) <<< (Int32.ofNat v &&& 31)))), some (z_i (Int32.ofNat (if c = 0 then 0 else g 0))), some (z_i (Int32.ofNat v)), some (z_i (Int32.ofNat c + (1 : Int32))), some (z_i (Int32.ofNat v))], [], (true, X, I3, J)) (some (z_i (z_c b)), (true, X, I', J)) := fun hc0 => by
              have q : ¬ c = 0 := fun q => hc0 (c0.mpr q)
              rw [z_or2k _ (by omega) v (by omega), z_os, if_neg q]
              have c1' := c1 (some (z_i (Int32.ofNat v)))
              rw [z_upd_n (show 0 ≠ c by omega)] at c1'
              exact c1'
            have eSa : ¬ Int32.ofNat c = 0 → decide (least = 1) = false → (1 : Int32) <<< (Int32.ofNat (if c = 0 then 0 else g (c - 1)) &&& 31) = Int32.ofNat (z_kS least c g) := fun hc0 hb1 => by
              have q : ¬ c = 0 := fun q => hc0 (c0.mpr q)
              unfold z_kS
              rw [if_neg q, if_neg (of_decide_eq_false hb1), if_neg q]
              exact z_1sh _ (by have := hg (c - 1) (by omega); omega)
            have eSb : decide (least = 1) = true → Int32.ofNat (z_um g c) = Int32.ofNat (z_kS least c g) := fun hb1 => by
              unfold z_kS
              rw [if_pos (of_decide_eq_true hb1)]
            have eSc : Int32.ofNat c = 0 → decide (least = 1) = false → (0 : Int32) = Int32.ofNat (z_kS least c g) := fun hc0 hb1 => by
              unfold z_kS
              rw [if_neg (of_decide_eq_false hb1), if_pos (c0.mp hc0)]
              rfl
            exact ⟨I', b, fun o8 => z_q49_67 _ _ _ _ _ _ _ _ ⟨fun q => absurd q hge10, fun _ => ⟨fun _ => ⟨_, _, _, _, p58, fun q => absurd (z_on0 v (by omega)) (Int32.not_le.mpr q), fun _ => ⟨fun q => absurd (by rw [f13] at q; exact q) hvn, fun _ => ⟨fun _ => ⟨fun hc0 => ⟨fun hb1 => ⟨_, _, _, by rw [eSa hc0 hb1]; exact p50, _, _, _, p51, cb hc0⟩, fun hb1 => ⟨_, _, _, by rw [eSb hb1]; exact p50, _, _, _, p51, cb hc0⟩⟩, fun hc0 => ⟨fun hb1 => ⟨_, _, _, by rw [eSc hc0 hb1]; exact p50, _, _, _, p51, ca hc0⟩, fun hb1 => ⟨_, _, _, by rw [eSb hb1]; exact p50, _, _, _, p51, ca hc0⟩⟩⟩, fun q => absurd hbt q⟩⟩⟩, fun hlc => ⟨_, _, _, _, p56, fun q => absurd ⟨(z_ole (by omega) (by omega)).mp hlc, of_decide_eq_true q⟩ hno, fun _ => ⟨_, _, _, _, p58, fun q => absurd (z_on0 v (by omega)) (Int32.not_le.mpr q), fun _ => ⟨fun q => absurd (by rw [f13] at q; exact q) hvn, fun _ => ⟨fun _ => ⟨fun hc0 => ⟨fun hb1 => ⟨_, _, _, by rw [eSa hc0 hb1]; exact p50, _, _, _, p51, cb hc0⟩, fun hb1 => ⟨_, _, _, by rw [eSb hb1]; exact p50, _, _, _, p51, cb hc0⟩⟩, fun hc0 => ⟨fun hb1 => ⟨_, _, _, by rw [eSc hc0 hb1]; exact p50, _, _, _, p51, ca hc0⟩, fun hb1 => ⟨_, _, _, by rw [eSb hb1]; exact p50, _, _, _, p51, ca hc0⟩⟩⟩, fun q => absurd hbt q⟩⟩⟩⟩⟩⟩, c2, c3⟩
        · have ev : z_kcl B k n least (j + 1) e c g = Sum.inl (z_ks B e) := by
            unfold z_kcl
            rw [if_neg hno, if_neg (fun q => by rw [← hN] at q; exact hbig q.2.1)]
          rw [ev]
          exact ⟨I1, false, fun o8 => z_q49_67 _ _ _ _ _ _ _ _ ⟨fun q => absurd q hge10, fun _ => ⟨fun _ => ⟨_, _, _, _, p58, fun _ => rfl, fun _ => ⟨fun _ => rfl, fun q => absurd (by rw [f13] at q; exact q) hbig⟩⟩, fun hlc => ⟨_, _, _, _, p56, fun q => absurd ⟨(z_ole (by omega) (by omega)).mp hlc, of_decide_eq_true q⟩ hno, fun _ => ⟨_, _, _, _, p58, fun _ => rfl, fun _ => ⟨fun _ => rfl, fun q => absurd (by rw [f13] at q; exact q) hbig⟩⟩⟩⟩⟩, hf, rfl, (by omega), h3⟩
      · have ev : z_kcl B k n least (j + 1) e c g = Sum.inl (z_ks B e) := by
          unfold z_kcl
          rw [if_neg hno, if_neg (fun q => by rw [← hN] at q; exact hneg q.1)]
        rw [ev]
        exact ⟨I1, false, fun o8 => z_q49_67 _ _ _ _ _ _ _ _ ⟨fun q => absurd q hge10, fun _ => ⟨fun _ => ⟨_, _, _, _, p58, fun _ => rfl, fun q => absurd q hneg⟩, fun hlc => ⟨_, _, _, _, p56, fun q => absurd ⟨(z_ole (by omega) (by omega)).mp hlc, of_decide_eq_true q⟩ hno, fun _ => ⟨_, _, _, _, p58, fun _ => rfl, fun q => absurd q hneg⟩⟩⟩⟩, hf, rfl, (by omega), h3⟩
end
