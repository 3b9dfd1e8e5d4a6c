/-! read: what a text says; the class, texts -/
def z_kx (B : Nat → Int32) (k : Nat) : Sum Nat (Nat × (Nat → Nat → Prop)) :=
  if z_km B (z_ks B 0) (z_ke B k (z_ks B 0)) 0 = false then Sum.inl (z_ks B 0) else
  if ¬ (1 ≤ z_kn B (z_ks B (z_ke B k (z_ks B 0))) (z_ke B k (z_ks B (z_ke B k (z_ks B 0)))) ∧ z_kn B (z_ks B (z_ke B k (z_ks B 0))) (z_ke B k (z_ks B (z_ke B k (z_ks B 0)))) ≤ 10) then Sum.inl (z_ks B (z_ke B k (z_ks B 0))) else
  if ¬ B (z_ks B (z_ke B k (z_ks B (z_ke B k (z_ks B 0))))) = 59 then Sum.inl (z_ks B (z_ke B k (z_ks B (z_ke B k (z_ks B 0))))) else
  match z_kp B k (z_kn B (z_ks B (z_ke B k (z_ks B 0))) (z_ke B k (z_ks B (z_ke B k (z_ks B 0))))).toNatClampNeg 160 (z_ke B k (z_ks B (z_ke B k (z_ks B (z_ke B k (z_ks B 0)))))) (fun _ _ => False) with
  | Sum.inl x => Sum.inl x
  | Sum.inr R => Sum.inr ((z_kn B (z_ks B (z_ke B k (z_ks B 0))) (z_ke B k (z_ks B (z_ke B k (z_ks B 0))))).toNatClampNeg, R)
def z_tR (a b c : Nat) : Bool := z_tP a b c || (Nat.beq a 13 && Nat.beq b 8)
theorem z_tP_R {I I' : Nat → Nat → Nat → Int32} (h : z_fr z_tP I I') : z_fr z_tR I I' := z_fr_mn h (fun a b c q => by unfold z_tR; rw [q]; rfl)
theorem z_kk1_R {I I' : Nat → Nat → Nat → Int32} {B : Nat → Int32} {k : Nat} (hf : z_fr z_tR I I') (h : z_kk1 I B k) : z_kk1 I' B k := ⟨by rw [hf 15 0 1 rfl]; exact h.1, fun e he => by rw [hf 16 0 e rfl]; exact h.2 e he⟩
def z_kq (n : Nat) (b : Bool) (I : Nat → Nat → Nat → Int32) : Sum Nat (Nat → Nat → Prop) → Prop
  | Sum.inl x => b = false ∧ x ≤ 160 ∧ I 15 0 3 = Int32.ofNat x
  | Sum.inr R => b = true ∧ I 13 8 1 = Int32.ofNat n ∧ z_kM I 14 8 0 R
def z_kw (b : Bool) (I : Nat → Nat → Nat → Int32) : Sum Nat (Nat × (Nat → Nat → Prop)) → Prop
  | Sum.inl x => b = false ∧ x ≤ 160 ∧ I 15 0 3 = Int32.ofNat x
  | Sum.inr y => b = true ∧ 1 ≤ y.1 ∧ y.1 ≤ 10 ∧ I 13 8 1 = Int32.ofNat y.1 ∧ z_kM I 14 8 0 y.2
theorem z_km_ne {B : Nat → Int32} {s en a b : Nat} (h : z_km B s en a = true) (hl : (z_nl a).length ≠ (z_nl b).length) : z_km B s en b = false := by
  rw [← Bool.not_eq_true]
  exact fun q => hl ((z_km_t.mp h).1.symm.trans (z_km_t.mp q).1)
section
variable {d : Nat} {X : z_X} {I : Nat → Nat → Nat → Int32} {J : Nat → Nat → Nat → Int64}
theorem z_p49 {B : Nat → Int32} {k n e : Nat} {R : Nat → Nat → Prop} (ht : z_kt B k) (hn : n ≤ 10) (e13 : I 13 8 1 = Int32.ofNat n) (he : e ≤ k) (h1 : z_kk1 I B k) (h3 : I 15 0 3 = Int32.ofNat (z_ks B e)) (h4 : I 15 0 4 = Int32.ofNat (z_ke B k (z_ks B e))) (hM : z_kM I 14 8 0 R) : ∃ (I' : Nat → Nat → Nat → Int32) (b : Bool), z_ev (d + 5) (z_en 49 [z_r 15 0] (true, X, I, J)) (some (z_i (z_c b)), (true, X, I', J)) ∧ z_fr z_tP I I' ∧ ((z_kd B (z_ks B e) (z_ke B k (z_ks B e)) = 0 ∧ b = false ∧ I' 15 0 3 = Int32.ofNat (z_ks B e)) ∨ (¬ z_kd B (z_ks B e) (z_ke B k (z_ks B e)) = 0 ∧ z_kr B k R (z_kd B (z_ks B e) (z_ke B k (z_ks B e))) b I' (z_kcl B k n (z_kd B (z_ks B e) (z_ke B k (z_ks B e))) 10 (z_ke B k (z_ks B e)) 0 (fun i => i)))) := by
  have hs := z_ks_le ht he
  have hen := z_ke_le ht hs
  have hge := z_ke_ge B k (z_ks B e)
  have q1 := z_p57_1 (d := d) (X := X) (J := J) ht h1 hge hen h3 h4
  have q2 := z_p57_2 (d := d) (X := X) (J := J) ht h1 hge hen h3 h4
  have q3 := z_p57_3 (d := d) (X := X) (J := J) ht h1 hge hen h3 h4
  obtain ⟨I1, p51, k3, k4, f1⟩ := z_p51 (d := d + 2) (X := X) (J := J) ht h1 hen h4
  have fP := z_t15_P f1
  have run : ∀ least, 1 ≤ least → least ≤ 3 → ∃ (I' : Nat → Nat → Nat → Int32) (b : Bool), z_ev (d + 5) (49, 67, [some (z_r 15 0), some (z_i (z_c (decide (least = 1)))), some (z_i (z_c (decide (least = 3)))), some (z_i (Int32.ofNat least)), some (z_i 0), some (z_i 0), some (z_i 0), some (z_i 0), none], [], (true, X, I1, J)) (some (z_i (z_c b)), (true, X, I', J)) ∧ z_fr z_tP I I' ∧ z_kr B k R least b I' (z_kcl B k n least 10 (z_ke B k (z_ks B e)) 0 (fun i => i)) := fun least hl1 hl3 => by
    obtain ⟨I', b, c1, c2, c3⟩ := z_l49 (d := d) (X := X) (I := I) (J := J) (R := R) ht hn e13 hl1 hl3 10 0 (by omega) (z_ke B k (z_ks B e)) (fun i => i) I1 hen (z_kk1_P fP h1) k3 k4 (z_kM_cg (z_kM_eq hM (fun p => f1 14 8 p rfl)) (fun p q hp => ⟨Or.inl, fun h => h.elim id (fun ⟨i, j, _, h, _⟩ => absurd h (Nat.not_lt_zero j))⟩)) (fun i hi => absurd hi (Nat.not_lt_zero i)) (fun i j hi => absurd hi (Nat.not_lt_zero i)) fP
    exact ⟨I', b, c1 none, c2, c3⟩
  cases e1 : z_km B (z_ks B e) (z_ke B k (z_ks B e)) 1 with
  | true =>
    have e2 := z_km_ne (b := 2) e1 (by decide)
    have ed : z_kd B (z_ks B e) (z_ke B k (z_ks B e)) = 1 := by unfold z_kd; rw [e1]; rfl
    rw [e1] at q1
    rw [e2] at q2
    rw [ed]
    obtain ⟨I', b, c1, c2, c3⟩ := run 1 (by decide) (by decide)
    exact ⟨I', b, z_q49_e ⟨true, _, _, _, q1, false, _, _, _, q2, fun _ => ⟨_, _, _, p51, c1⟩, fun q => (by cases q)⟩, c2, Or.inr ⟨by decide, c3⟩⟩
  | false =>
    rw [e1] at q1
    cases e2 : z_km B (z_ks B e) (z_ke B k (z_ks B e)) 2 with
    | true =>
      have ed : z_kd B (z_ks B e) (z_ke B k (z_ks B e)) = 3 := by unfold z_kd; rw [e1, e2]; rfl
      rw [e2] at q2
      rw [ed]
      obtain ⟨I', b, c1, c2, c3⟩ := run 3 (by decide) (by decide)
      exact ⟨I', b, z_q49_e ⟨false, _, _, _, q1, true, _, _, _, q2, fun q => (by cases q), fun _ => ⟨fun _ => ⟨_, _, _, p51, c1⟩, fun q => (by cases q)⟩⟩, c2, Or.inr ⟨by decide, c3⟩⟩
    | false =>
      rw [e2] at q2
      cases e3 : z_km B (z_ks B e) (z_ke B k (z_ks B e)) 3 with
      | true =>
        have ed : z_kd B (z_ks B e) (z_ke B k (z_ks B e)) = 2 := by unfold z_kd; rw [e1, e2, e3]; rfl
        rw [e3] at q3
        rw [ed]
        obtain ⟨I', b, c1, c2, c3⟩ := run 2 (by decide) (by decide)
        exact ⟨I', b, z_q49_e ⟨false, _, _, _, q1, false, _, _, _, q2, fun q => (by cases q), fun _ => ⟨fun q => (by cases q), fun _ => ⟨true, _, _, _, q3, fun _ => ⟨_, _, _, p51, c1⟩, fun q => (by cases q)⟩⟩⟩, c2, Or.inr ⟨by decide, c3⟩⟩
      | false =>
        have ed : z_kd B (z_ks B e) (z_ke B k (z_ks B e)) = 0 := by unfold z_kd; rw [e1, e2, e3]; rfl
        rw [e3] at q3
        exact ⟨I, false, z_q49_e ⟨false, _, _, _, q1, false, _, _, _, q2, fun q => (by cases q), fun _ => ⟨fun q => (by cases q), fun _ => ⟨false, _, _, _, q3, fun q => (by cases q), fun _ => rfl⟩⟩⟩, z_fr_rf, Or.inl ⟨ed, rfl, h3⟩⟩
theorem z_l48 {B : Nat → Int32} {k n : Nat} (ht : z_kt B k) (hn : n ≤ 10) (x1 : Int32) : ∀ j i, i + j = 160 → ∀ (e : Nat) (I1 : Nat → Nat → Nat → Int32) (R : Nat → Nat → Prop), e ≤ k → z_kk1 I1 B k → I1 15 0 3 = Int32.ofNat (z_ks B e) → I1 15 0 4 = Int32.ofNat (z_ke B k (z_ks B e)) → I1 13 8 1 = Int32.ofNat n → z_kM I1 14 8 0 R → z_fr z_tR I I1 → ∃ (I' : Nat → Nat → Nat → Int32) (b : Bool), z_ev (d + 6) (48, 62, [some (z_r 15 0), some (z_i x1), some (z_i (Int32.ofNat i))], [], (true, X, I1, J)) (some (z_i (z_c b)), (true, X, I', J)) ∧ z_fr z_tR I I' ∧ z_kq n b I' (z_kp B k n j e R) := by
  intro j
  have hk := ht.1
  induction j with
  | zero =>
    intro i hi e I1 R he h1 h3 h4 e13 hM hf
    exact ⟨I1, true, z_q48_62 _ _ ⟨fun _ => rfl, fun q => absurd ((z_olt (b := 160) (by omega) (by decide)).mp q) (by omega)⟩, hf, rfl, e13, hM⟩
  | succ j ih =>
    intro i hi e I1 R he h1 h3 h4 e13 hM hf
    have hs := z_ks_le ht he
    have hlt : ¬ (160 : Int32) ≤ Int32.ofNat i := fun q => absurd ((z_ole (a := 160) (by decide) (by omega)).mp q) (by omega)
    by_cases hsk : k ≤ z_ks B e
    · have ev : z_kp B k n (j + 1) e R = Sum.inr R := by unfold z_kp; rw [if_pos hsk]
      rw [ev]
      refine ⟨I1, true, z_q48_62 _ _ ⟨fun q => absurd q hlt, fun _ => ⟨fun _ => rfl, fun q => ?_⟩⟩, hf, rfl, e13, hM⟩
      rw [h3, h1.1] at q
      exact absurd ((z_olt (by omega) (by omega)).mp q) (by omega)
    · have hnle : ¬ I1 15 0 1 ≤ I1 15 0 3 := by
        rw [h3, h1.1]
        exact fun q => hsk ((z_ole (by omega) (by omega)).mp q)
      obtain ⟨I2, b, p49, f2, hres⟩ := z_p49 (d := d) (X := X) (J := J) (R := R) ht hn e13 he h1 h3 h4 hM
      have hf2 := z_fr_tr hf (z_tP_R f2)
      rcases hres with ⟨hd, rfl, h9⟩ | ⟨hd, hr⟩
      · have ev : z_kp B k n (j + 1) e R = Sum.inl (z_ks B e) := by unfold z_kp; rw [if_neg hsk, if_pos hd]
        rw [ev]
        exact ⟨I2, false, z_q48_62 _ _ ⟨fun q => absurd q hlt, fun _ => ⟨fun q => absurd q hnle, fun _ => ⟨_, _, _, _, p49, fun q => (by cases q), fun _ => rfl⟩⟩⟩, hf2, rfl, (by omega), h9⟩
      · cases hc : z_kcl B k n (z_kd B (z_ks B e) (z_ke B k (z_ks B e))) 10 (z_ke B k (z_ks B e)) 0 (fun i => i) with
        | inl x =>
          rw [hc] at hr
          obtain ⟨rfl, hx9, h9⟩ := hr
          have ev : z_kp B k n (j + 1) e R = Sum.inl x := by unfold z_kp; rw [if_neg hsk, if_neg hd, hc]
          rw [ev]
          exact ⟨I2, false, z_q48_62 _ _ ⟨fun q => absurd q hlt, fun _ => ⟨fun q => absurd q hnle, fun _ => ⟨_, _, _, _, p49, fun q => (by cases q), fun _ => rfl⟩⟩⟩, hf2, rfl, hx9, h9⟩
        | inr y =>
          rw [hc] at hr
          obtain ⟨rfl, y1, y3, y4, yM⟩ := hr
          have ev : z_kp B k n (j + 1) e R = z_kp B k n j y.1 (fun p q => R p q ∨ z_kF (z_kd B (z_ks B e) (z_ke B k (z_ks B e))) y.2.1 y.2.2 p q) := by
            show (if _ then _ else if _ then _ else _) = _
            rw [if_neg hsk, if_neg hd, hc]
          rw [ev]
          obtain ⟨I', b, c1, c2, c3⟩ := ih (i + 1) (by omega) y.1 I2 _ y1 (z_kk1_P f2 h1) y3 y4 (by rw [f2 13 8 1 rfl]; exact e13) yM hf2
          refine ⟨I', b, z_q48_62 _ _ ⟨fun q => absurd q hlt, fun _ => ⟨fun q => absurd q hnle, fun _ => ⟨_, _, _, _, p49, fun _ => ?_, fun q => (by cases q)⟩⟩⟩, c2, c3⟩
          rw [z_os]
          exact c1
theorem z_p48 {B : Nat → Int32} {k : Nat} (ht : z_kt B k) (h1 : z_kk1 I B k) (h3 : I 15 0 3 = Int32.ofNat (z_ks B 0)) (h4 : I 15 0 4 = Int32.ofNat (z_ke B k (z_ks B 0))) : ∃ (I' : Nat → Nat → Nat → Int32) (b : Bool), z_ev (d + 6) (z_en 48 [z_r 15 0] (true, X, I, J)) (some (z_i (z_c b)), (true, X, I', J)) ∧ z_fr z_tR I I' ∧ z_kw b I' (z_kx B k) := by
  have hk := ht.1
  have hs := z_ks_le ht (Nat.zero_le k)
  have hen := z_ke_le ht hs
  have hge := z_ke_ge B k (z_ks B 0)
  have q0 := z_p57_0 (d := d + 1) (X := X) (J := J) ht h1 hge hen h3 h4
  cases e0 : z_km B (z_ks B 0) (z_ke B k (z_ks B 0)) 0 with
  | false =>
    rw [e0] at q0
    have ev : z_kx B k = Sum.inl (z_ks B 0) := by unfold z_kx; rw [if_pos e0]
    rw [ev]
    exact ⟨I, false, z_q48_e ⟨false, _, _, _, q0, fun q => (by cases q), fun _ => rfl⟩, z_fr_rf, rfl, (by omega), h3⟩
  | true =>
    rw [e0] at q0
    have n0 : ¬ z_km B (z_ks B 0) (z_ke B k (z_ks B 0)) 0 = false := by rw [e0]; decide
    obtain ⟨a, ha⟩ : ∃ a, a = z_ke B k (z_ks B 0) := ⟨_, rfl⟩
    obtain ⟨I1, p51, k3, k4, f1⟩ := z_p51 (d := d + 3) (X := X) (J := J) ht h1 hen h4
    rw [← ha] at k3 k4 hen
    have hsa := z_ks_le ht hen
    have hena := z_ke_le ht hsa
    have hgea := z_ke_ge B k (z_ks B a)
    have h1a := z_kk1_P (z_t15_P f1) h1
    have p58 := z_p58 (d := d + 4) (X := X) (J := J) ht h1a hgea hena k3 k4
    obtain ⟨N, hN⟩ : ∃ N, N = z_kn B (z_ks B a) (z_ke B k (z_ks B a)) := ⟨_, rfl⟩
    rw [← hN] at p58
    by_cases hNr : 1 ≤ N ∧ N ≤ 10
    · obtain ⟨n, hn, rfl⟩ := z_nat' (n := 10) (Int32.le_trans (by decide) hNr.1) hNr.2 (by decide)
      have hn1 := (z_ole (a := 1) (by decide) (by omega)).mp hNr.1
      have ecl : (Int32.ofNat n).toNatClampNeg = n := z_cl_nat (n := 11) (by omega) (by decide)
      have p19 := z_p19 (d := d + 5) (X := X) (I := I1) (J := J) (q := 8) (by decide) (Int32.ofNat n)
      obtain ⟨I2, hI2⟩ : ∃ I2, I2 = z_wo (z_up I1 13 8 1 (Int32.ofNat n)) 14 8 0 10 (fun _ => 0) := ⟨_, rfl⟩
      rw [← hI2] at p19
      have f2 : z_fr z_tR I1 I2 := by
        rw [hI2]
        exact z_fr_wo (z_fr_up z_fr_rf rfl) (fun j _ _ => rfl)
      have m2 : z_kM I2 14 8 0 (fun _ _ => False) := ⟨fun _ => 0, fun p hp => by
        rw [hI2]
        unfold z_wo
        rw [if_pos ⟨rfl, rfl, by omega, by omega⟩]
        rfl, fun p _ => (by decide : 0 < 1024), fun p q _ => ⟨fun h => absurd ((Nat.zero_testBit q).symm.trans h) (by decide), fun h => False.elim h⟩⟩
      have e13 : I2 13 8 1 = Int32.ofNat n := by
        rw [hI2]
        unfold z_wo
        rw [if_neg (fun q => absurd q.1 (by decide)), z_up_e]
      have e34 : I2 15 0 4 = Int32.ofNat (z_ke B k (z_ks B a)) := by
        rw [hI2]
        unfold z_wo
        rw [if_neg (fun q => absurd q.1 (by decide)), z_up_t (by decide)]
        exact k4
      have h1b := z_kk1_R f2 h1a
      obtain ⟨I3, p51b, l3, l4, f3⟩ := z_p51 (d := d + 3) (X := X) (J := J) (I := I2) ht h1b hena e34
      obtain ⟨b, hb⟩ : ∃ b, b = z_ke B k (z_ks B a) := ⟨_, rfl⟩
      rw [← hb] at l3 l4 hena
      have hsb := z_ks_le ht hena
      have henb := z_ke_le ht hsb
      have h1c := z_kk1_P (z_t15_P f3) h1b
      have p56 := z_p56 (d := d + 4) (X := X) (J := J) ht h1c (show z_ks B b ≤ 1000 by omega) l3 59
      have hfr3 : z_fr z_tR I I3 := z_fr_tr (z_tP_R (z_t15_P f1)) (z_fr_tr f2 (z_tP_R (z_t15_P f3)))
      have hv1 : ∀ {P : Prop}, Int32.ofNat n < (1 : Int32) → P := fun q => absurd hNr.1 (Int32.not_le.mpr q)
      have hv2 : ∀ {P : Prop}, (10 : Int32) < Int32.ofNat n → P := fun q => absurd hNr.2 (Int32.not_le.mpr q)
      by_cases h9 : B (z_ks B b) = 59
      · obtain ⟨I4, p51c, m3, m4, f4⟩ := z_p51 (d := d + 3) (X := X) (J := J) (I := I3) ht h1c henb l4
        have hfr4 := z_fr_tr hfr3 (z_tP_R (z_t15_P f4))
        obtain ⟨I', bb, c1, c2, c3⟩ := z_l48 (d := d) (X := X) (I := I) (J := J) ht hn (Int32.ofNat n) 160 0 (by omega) (z_ke B k (z_ks B b)) I4 (fun _ _ => False) henb (z_kk1_P (z_t15_P f4) h1c) m3 m4 (by rw [f4 13 8 1 rfl, f3 13 8 1 rfl]; exact e13) (z_kM_eq m2 (fun p => by rw [f4 14 8 p rfl, f3 14 8 p rfl])) hfr4
        refine ⟨I', bb, z_q48_e ⟨true, _, _, _, q0, fun _ => ⟨_, _, _, p51, _, _, _, _, p58, fun q => hv1 q, fun _ => ⟨fun _ => ⟨_, _, _, p19, _, _, _, p51b, _, _, _, _, p56, fun _ => ⟨_, _, _, p51c, c1⟩, fun q => absurd h9 (of_decide_eq_false q)⟩, fun q => hv2 q⟩⟩, fun q => (by cases q)⟩, c2, ?_⟩
        have ev : z_kx B k = match z_kp B k n 160 (z_ke B k (z_ks B b)) (fun _ _ => False) with
          | Sum.inl x => Sum.inl x
          | Sum.inr R => Sum.inr (n, R) := by
          unfold z_kx
          rw [if_neg n0, ← ha, ← hN, if_neg (fun q => q hNr), ← hb, if_neg (fun q => q h9), ecl]
        rw [ev]
        cases hk9 : z_kp B k n 160 (z_ke B k (z_ks B b)) (fun _ _ => False) with
        | inl x =>
          rw [hk9] at c3
          exact c3
        | inr R =>
          rw [hk9] at c3
          exact ⟨c3.1, hn1, hn, c3.2.1, c3.2.2⟩
      · refine ⟨I3, false, z_q48_e ⟨true, _, _, _, q0, fun _ => ⟨_, _, _, p51, _, _, _, _, p58, fun q => hv1 q, fun _ => ⟨fun _ => ⟨_, _, _, p19, _, _, _, p51b, _, _, _, _, p56, fun q => absurd (of_decide_eq_true q) h9, fun _ => rfl⟩, fun q => hv2 q⟩⟩, fun q => (by cases q)⟩, hfr3, ?_⟩
        have ev : z_kx B k = Sum.inl (z_ks B b) := by
          unfold z_kx
          rw [if_neg n0, ← ha, ← hN, if_neg (fun q => q hNr), ← hb, if_pos h9]
        rw [ev]
        exact ⟨rfl, (by omega), l3⟩
    · refine ⟨I1, false, z_q48_e ⟨true, _, _, _, q0, fun _ => ⟨_, _, _, p51, _, _, _, _, p58, fun _ => rfl, fun h8 => ⟨fun h9 => absurd ⟨h8, h9⟩ hNr, fun _ => rfl⟩⟩, fun q => (by cases q)⟩, z_tP_R (z_t15_P f1), ?_⟩
      have ev : z_kx B k = Sum.inl (z_ks B a) := by
        unfold z_kx
        rw [if_neg n0, ← ha, ← hN, if_pos hNr]
      rw [ev]
      exact ⟨rfl, (by omega), k3⟩
/-- the class: a text used up -/
theorem z_p47 {B : Nat → Int32} {k : Nat} (ht : z_kt B k) (h1 : z_kk1 I B k) : ∃ (I' : Nat → Nat → Nat → Int32) (v : Int32), z_ev (d + 7) (z_en 47 [z_r 15 0] (true, X, I, J)) (some (z_i v), (true, X, I', J)) ∧ z_fr (fun a b c => z_tR a b c || (Nat.beq a 15 && Nat.beq b 0 && Nat.beq c 1)) I I' ∧ I' 15 0 1 = 0 ∧ ((∃ x, z_kx B k = Sum.inl x ∧ x ≤ 1000 ∧ v = Int32.ofNat x) ∨ (∃ n R, z_kx B k = Sum.inr (n, R) ∧ v = -1 ∧ 1 ≤ n ∧ n ≤ 10 ∧ I' 13 8 1 = Int32.ofNat n ∧ z_kM I' 14 8 0 R)) := by
  have hk := ht.1
  obtain ⟨I1, p51, k3, k4, f1⟩ := z_p51 (d := d + 4) (X := X) (J := J) (I := z_up I 15 0 4 (0 : Int32)) ht ⟨by rw [z_up_j (by decide)]; exact h1.1, fun e he => h1.2 e he⟩ (Nat.zero_le k) z_up_e
  have g1 : z_kk1 I1 B k := ⟨by rw [f1 15 0 1 rfl, z_up_j (by decide)]; exact h1.1, fun e he => by rw [f1 16 0 e rfl]; exact h1.2 e he⟩
  obtain ⟨I2, b, p48, f2, hw⟩ := z_p48 (d := d) (X := X) (J := J) ht g1 k3 k4
  have hfr : z_fr (fun a b c => z_tR a b c || (Nat.beq a 15 && Nat.beq b 0 && Nat.beq c 1)) I (z_up I2 15 0 1 (0 : Int32)) := z_fr_up (z_fr_tr (z_fr_tr (z_fr_up z_fr_rf rfl) (z_fr_mn (z_tP_R (z_t15_P f1)) (fun a b c q => by rw [q]; rfl))) (z_fr_mn f2 (fun a b c q => by rw [q]; rfl))) rfl
  cases hx : z_kx B k with
  | inl x =>
    rw [hx] at hw
    obtain ⟨rfl, hx1, hx3⟩ := hw
    exact ⟨_, Int32.ofNat x, z_q47_e ⟨_, _, _, p51, false, _, _, _, p48, fun _ => by rw [hx3], fun q => (by cases q)⟩, hfr, z_up_e, Or.inl ⟨x, rfl, by omega, rfl⟩⟩
  | inr y =>
    rw [hx] at hw
    obtain ⟨rfl, y1, y2, y3, y4⟩ := hw
    exact ⟨_, -1, z_q47_e ⟨_, _, _, p51, true, _, _, _, p48, fun q => (by cases q), fun _ => rfl⟩, hfr, z_up_e, Or.inr ⟨y.1, y.2, rfl, rfl, y1, y2, y3, y4⟩⟩
end
