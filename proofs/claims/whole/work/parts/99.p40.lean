/-! read: clauses, the reference -/
def z_tV (a b c : Nat) : Bool := z_tW a b c || Nat.beq a 44
theorem z_tW_V {I I' : Nat → Nat → Nat → Int32} (h : z_fr z_tW I I') : z_fr z_tV I I' := z_fr_mn h (fun a b c q => by unfold z_tV; rw [q]; rfl)
theorem z_kk2_V {I I' : Nat → Nat → Nat → Int32} {B : Nat → Int32} {k : Nat} (hf : z_fr z_tV I I') (h : z_kk2 I B k) : z_kk2 I' B k := ⟨by rw [hf 33 0 14 rfl]; exact h.1, fun e he => by rw [hf 43 0 e rfl]; exact h.2 e he⟩
def z_kz (B : Nat → Int32) (k n least : Nat) (I : Nat → Nat → Nat → Int32) (J : Nat → Nat → Nat → Int64) : Sum Nat (Nat × Nat × (Nat → Nat)) → Prop
  | Sum.inl x => I 33 0 20 = 0 ∧ I 33 0 16 = Int32.ofNat x
  | Sum.inr y => I 33 0 20 = 1 ∧ y.1 ≤ k ∧ z_kT B k y.1 I J ∧ I 33 0 24 = Int32.ofNat y.2.1 ∧ (∀ i, i < y.2.1 → I 45 0 i = Int32.ofNat (y.2.2 i) ∧ y.2.2 i < n) ∧ (∀ i j, i < y.2.1 → j < y.2.1 → y.2.2 i = y.2.2 j → i = j) ∧ least ≤ y.2.1 ∧ y.2.1 ≤ 10
def z_kvv (B : Nat → Int32) (k : Nat) (R : Nat → Nat → Prop) (least : Nat) (I : Nat → Nat → Nat → Int32) (J : Nat → Nat → Nat → Int64) : Sum Nat (Nat × Nat × (Nat → Nat)) → Prop
  | Sum.inl x => I 33 0 20 = 0 ∧ I 33 0 16 = Int32.ofNat x
  | Sum.inr y => I 33 0 20 = 1 ∧ y.1 ≤ k ∧ z_kT B k y.1 I J ∧ z_kM I 44 0 0 (fun p q => R p q ∨ z_kF least y.2.1 y.2.2 p q)
theorem z_kE_sn {least c : Nat} {g : Nat → Nat} {p q : Nat} : z_kE least (c + 1) g p q ↔ z_kE least c g p q ∨ ∃ i, i < c ∧ (least = 1 ∨ c = i + 1) ∧ ((p = g i ∧ q = g c) ∨ (p = g c ∧ q = g i)) := by
  constructor
  · intro ⟨i, j, h1, h2, h3, h4⟩
    by_cases e : j = c
    · subst e
      exact Or.inr ⟨i, h1, h3, h4⟩
    · exact Or.inl ⟨i, j, h1, by omega, h3, h4⟩
  · intro h
    rcases h with ⟨i, j, h1, h2, h3, h4⟩ | ⟨i, h1, h3, h4⟩
    · exact ⟨i, j, h1, by omega, h3, h4⟩
    · exact ⟨i, c, h1, by omega, h3, h4⟩
theorem z_kcl_ge {B : Nat → Int32} {k n least : Nat} : ∀ j e c g y, z_kcl B k n least j e c g = Sum.inr y → e ≤ y.1
  | 0, e, c, g, y, h => by
    have h : (if B (z_ks B e) = 59 then Sum.inr (z_ke B k (z_ks B e), c, g) else Sum.inl (z_ks B e)) = Sum.inr y := h
    split at h
    · obtain rfl := Sum.inr.inj h
      exact Nat.le_trans (z_ks_ge B e) (z_ke_ge B k _)
    · cases h
  | j + 1, e, c, g, y, h => by
    unfold z_kcl at h
    split at h
    · obtain rfl := Sum.inr.inj h
      exact Nat.le_trans (z_ks_ge B e) (z_ke_ge B k _)
    · split at h
      · exact Nat.le_trans (Nat.le_trans (z_ks_ge B e) (z_ke_ge B k _)) (z_kcl_ge j _ _ _ y h)
      · cases h
def z_kRp (n : Nat) (R : Nat → Nat → Prop) : Prop := ∀ p q, R p q → p < n ∧ q < n ∧ p ≠ q ∧ R q p
theorem z_kF_ok {n least c : Nat} {g : Nat → Nat} (hg : ∀ i, i < c → g i < n) (hgi : ∀ i j, i < c → j < c → g i = g j → i = j) (hl : least ≤ c) : z_kRp n (z_kF least c g) := by
  intro p q h
  rcases h with ⟨i, j, h1, h2, h3, ⟨rfl, rfl⟩ | ⟨rfl, rfl⟩⟩ | ⟨h3, ⟨rfl, rfl⟩ | ⟨rfl, rfl⟩⟩
  · exact ⟨hg i (by omega), hg j h2, fun e => absurd (hgi i j (by omega) h2 e) (by omega), Or.inl ⟨i, j, h1, h2, h3, Or.inr ⟨rfl, rfl⟩⟩⟩
  · exact ⟨hg j h2, hg i (by omega), fun e => absurd (hgi j i h2 (by omega) e) (by omega), Or.inl ⟨i, j, h1, h2, h3, Or.inl ⟨rfl, rfl⟩⟩⟩
  · exact ⟨hg 0 (by omega), hg (c - 1) (by omega), fun e => absurd (hgi 0 (c - 1) (by omega) (by omega) e) (by omega), Or.inr ⟨h3, Or.inr ⟨rfl, rfl⟩⟩⟩
  · exact ⟨hg (c - 1) (by omega), hg 0 (by omega), fun e => absurd (hgi (c - 1) 0 (by omega) (by omega) e) (by omega), Or.inr ⟨h3, Or.inl ⟨rfl, rfl⟩⟩⟩
section
variable {d : Nat} {X : z_X} {I : Nat → Nat → Nat → Int32} {J : Nat → Nat → Nat → Int64}
theorem z_p180 {a b : Nat} (ha : a < 10) (hb : b < 10) : z_ev d (z_en 180 [z_r 33 0, z_i (Int32.ofNat a), z_i (Int32.ofNat b)] (true, X, I, J)) (none, (true, X, z_sr I 44 0 0 a b true, J)) := by
  refine z_q180_e _ _ ⟨a, rfl, ha, b, rfl, hb, ?_⟩
  unfold z_sr
  rw [Nat.zero_add, Nat.zero_add]
  rfl
/-- the reference: the posts of a clause -/
theorem z_l182 {B : Nat → Int32} {k n least : Nat} {b2 b3 : Bool} (ht : z_kt B k) (hn1 : 1 ≤ n) (hn : n ≤ 10) (hl3 : least ≤ 3) (h2 : z_kk2 I B k) (e21 : I 33 0 21 = Int32.ofNat n) : ∀ j c, c + j = 10 → ∀ (e : Nat) (g : Nat → Nat) (I1 : Nat → Nat → Nat → Int32) (J1 : Nat → Nat → Nat → Int64), e ≤ k → z_kT B k e I1 J1 → I1 33 0 20 = 1 → I1 33 0 24 = Int32.ofNat c → (∀ i, i < c → I1 45 0 i = Int32.ofNat (g i) ∧ g i < n) → (∀ i j, i < c → j < c → g i = g j → i = j) → z_fr z_tW I I1 → z_jn J J1 → ∃ I' J', (∀ r, z_ev (d + 5) (182, 62, [some (z_r 33 0), some (z_i (Int32.ofNat least)), some (z_i (z_c b2)), some (z_i (z_c b3)), some (z_i 1), none], [], (true, X, I', J')) r → z_ev (d + 5) (182, 25, [some (z_r 33 0), some (z_i (Int32.ofNat least)), some (z_i (z_c b2)), some (z_i (z_c b3)), none, none], [], (true, X, I1, J1)) r) ∧ z_fr z_tW I I' ∧ z_jn J J' ∧ z_kz B k n least I' J' (z_kcl B k n least j e c g) := by
  have endz : ∀ I1 J1 r, I1 33 0 20 = 0 → z_ev (d + 5) (182, 62, [some (z_r 33 0), some (z_i (Int32.ofNat least)), some (z_i (z_c b2)), some (z_i (z_c b3)), some (z_i 1), none], [], (true, X, I1, J1)) r → z_ev (d + 5) (182, 25, [some (z_r 33 0), some (z_i (Int32.ofNat least)), some (z_i (z_c b2)), some (z_i (z_c b3)), none, none], [], (true, X, I1, J1)) r := fun I1 J1 r hz hr => z_q182_25 _ _ _ ⟨fun _ => ⟨_, _, _, z_p179z (d := d + 1) hz, hr⟩, fun q => absurd hz q⟩
  -- what a wanted end does
  have ende : ∀ (c e : Nat) (g : Nat → Nat) I1 J1, least ≤ c → c ≤ 10 → e ≤ k → z_kT B k e I1 J1 → ¬ z_kso B (z_ks B e) = 2 → I1 33 0 20 = 1 → I1 33 0 24 = Int32.ofNat c → (∀ i, i < c → I1 45 0 i = Int32.ofNat (g i) ∧ g i < n) → (∀ i j, i < c → j < c → g i = g j → i = j) → z_fr z_tW I I1 → z_jn J J1 → ∃ I' J', (∀ r, z_ev (d + 5) (182, 62, [some (z_r 33 0), some (z_i (Int32.ofNat least)), some (z_i (z_c b2)), some (z_i (z_c b3)), some (z_i 1), none], [], (true, X, I', J')) r → z_ev (d + 5) (182, 25, [some (z_r 33 0), some (z_i (Int32.ofNat least)), some (z_i (z_c b2)), some (z_i (z_c b3)), none, none], [], (true, X, I1, J1)) r) ∧ z_fr z_tW I I' ∧ z_jn J J' ∧ z_kz B k n least I' J' (if B (z_ks B e) = 59 then Sum.inr (z_ke B k (z_ks B e), c, g) else Sum.inl (z_ks B e)) := by
    intro c e g I1 J1 hlc hc he hT hso hg e24 e45 hgi hf hj
    have hg0 : ¬ I1 33 0 20 = 0 := by rw [hg]; decide
    have hen := z_ke_le ht (z_ks_le ht he)
    obtain ⟨I', J', c1, c2, c3, c4⟩ := z_p179 (d := d + 1) (X := X) ht (z_kk2_W hf h2) he hT hg
    have e15 : ¬ I1 33 0 15 = 2 := by rw [hT.2.2.1]; exact hso
    refine ⟨I', J', fun r hr => z_q182_25 _ _ _ ⟨fun q => absurd q hg0, fun _ => ⟨fun q => ?_, fun _ => ⟨fun _ => ⟨_, _, _, c1, hr⟩, fun q => absurd q e15⟩⟩⟩, z_fr_tr hf (z_t20_W c2), z_jn_tr hj c3, ?_⟩
    · rw [e24] at q
      exact absurd ((z_olt (by omega) (by omega)).mp q) (by omega)
    · rcases c4 with ⟨b1, b2, b3⟩ | ⟨b1, b2, b3⟩
      · rw [if_pos b1]
        exact ⟨b2, hen, b3, by rw [c2 33 0 24 rfl]; exact e24, fun i hi => by rw [c2 45 0 i rfl]; exact e45 i hi, hgi, hlc, hc⟩
      · rw [if_neg b1]
        exact ⟨b2, b3⟩
  -- a wanted post is called
  have post : ∀ (c e : Nat) I1 J1, c ≤ 10 → z_kT B k e I1 J1 → (c < least ∨ z_kso B (z_ks B e) = 2) → I1 33 0 20 = 1 → I1 33 0 24 = Int32.ofNat c → ∀ I2 J2, z_ev (d + 4) (z_en 181 [z_r 33 0] (true, X, I1, J1)) (none, (true, X, I2, J2)) → ∀ r, z_ev (d + 5) (182, 25, [some (z_r 33 0), some (z_i (Int32.ofNat least)), some (z_i (z_c b2)), some (z_i (z_c b3)), none, none], [], (true, X, I2, J2)) r → z_ev (d + 5) (182, 25, [some (z_r 33 0), some (z_i (Int32.ofNat least)), some (z_i (z_c b2)), some (z_i (z_c b3)), none, none], [], (true, X, I1, J1)) r := by
    intro c e I1 J1 hc hT hor hg e24 I2 J2 p r hr
    have hg0 : ¬ I1 33 0 20 = 0 := by rw [hg]; decide
    refine z_q182_25 _ _ _ ⟨fun q => absurd q hg0, fun _ => ⟨fun _ => ⟨_, _, _, p, hr⟩, fun q => ⟨fun q2 => ?_, fun _ => ⟨_, _, _, p, hr⟩⟩⟩⟩
    rw [e24] at q
    have q3 := (z_ole (by omega) (by omega)).mp q
    rcases hor with h | h
    · omega
    · exact absurd (by rw [hT.2.2.1]; exact h) q2
  intro j
  induction j with
  | zero =>
    intro c hc e g I1 J1 he hT hg e24 e45 hgi hf hj
    by_cases hso : z_kso B (z_ks B e) = 2
    · have h59 : ¬ B (z_ks B e) = 59 := fun q => by
        have := (z_ks59 (en := 0)).mpr q
        rw [hso] at this
        exact absurd this.1 (by decide)
      obtain ⟨I', J', c1, c2, c3, c4⟩ := z_p181 (d := d) (X := X) (g := g) ht (z_kk2_W hf h2) he hT hg hn1 hn (by rw [hf 33 0 21 rfl]; exact e21) (show c ≤ 10 by omega) e24 e45 hgi
      rcases c4 with ⟨_, b1, _⟩ | ⟨b1, b2, b3⟩
      · omega
      · refine ⟨I', J', fun r hr => post c e I1 J1 (by omega) hT (Or.inr hso) hg e24 I' J' c1 r (endz I' J' r b2 hr), z_fr_tr hf c2, z_jn_tr hj c3, ?_⟩
        have ev : z_kcl B k n least 0 e c g = Sum.inl (z_ks B e) := by unfold z_kcl; rw [if_neg h59]
        rw [ev]
        exact ⟨b2, b3⟩
    · exact ende c e g I1 J1 (by omega) (by omega) he hT hso hg e24 e45 hgi hf hj
  | succ j ih =>
    intro c hc e g I1 J1 he hT hg e24 e45 hgi hf hj
    by_cases hno : least ≤ c ∧ B (z_ks B e) = 59
    · have hso : ¬ z_kso B (z_ks B e) = 2 := fun q => by
        have := (z_ks59 (en := 0)).mpr hno.2
        rw [q] at this
        exact absurd this.1 (by decide)
      have ev : z_kcl B k n least (j + 1) e c g = (if B (z_ks B e) = 59 then Sum.inr (z_ke B k (z_ks B e), c, g) else Sum.inl (z_ks B e)) := by
        rw [if_pos hno.2]
        unfold z_kcl
        rw [if_pos hno]
      rw [ev]
      exact ende c e g I1 J1 hno.1 (by omega) he hT hso hg e24 e45 hgi hf hj
    · by_cases hor : c < least ∨ z_kso B (z_ks B e) = 2
      · obtain ⟨I', J', c1, c2, c3, c4⟩ := z_p181 (d := d) (X := X) (g := g) ht (z_kk2_W hf h2) he hT hg hn1 hn (by rw [hf 33 0 21 rfl]; exact e21) (show c ≤ 10 by omega) e24 e45 hgi
        rcases c4 with ⟨b0, b1, b2, b3, b4, b5⟩ | ⟨b1, b2, b3⟩
        · have ev : z_kcl B k n least (j + 1) e c g = z_kcl B k n least j (z_ke B k (z_ks B e)) (c + 1) (z_upd g c (z_kn B (z_ks B e) (z_ke B k (z_ks B e))).toNatClampNeg) := by
            show (if _ then _ else if _ then _ else _) = _
            rw [if_neg hno, if_pos b0]
          rw [ev]
          obtain ⟨I2, J2, d1, d2, d3, d4⟩ := ih (c + 1) (by omega) (z_ke B k (z_ks B e)) (z_upd g c (z_kn B (z_ks B e) (z_ke B k (z_ks B e))).toNatClampNeg) I' J' (z_ke_le ht (z_ks_le ht he)) b3 b2 b4 b5 (z_upd_in hgi (fun i hi q => by
            have := (z_um_tb g _ c).mpr ⟨i, hi, q⟩
            rw [b0.2.2] at this
            cases this)) (z_fr_tr hf c2) (z_jn_tr hj c3)
          exact ⟨I2, J2, fun r hr => post c e I1 J1 (by omega) hT hor hg e24 I' J' c1 r (d1 r hr), d2, d3, d4⟩
        · have ev : z_kcl B k n least (j + 1) e c g = Sum.inl (z_ks B e) := by unfold z_kcl; rw [if_neg hno, if_neg b1]
          rw [ev]
          exact ⟨I', J', fun r hr => post c e I1 J1 (by omega) hT hor hg e24 I' J' c1 r (endz I' J' r b2 hr), z_fr_tr hf c2, z_jn_tr hj c3, b2, b3⟩
      · have hso : ¬ z_kso B (z_ks B e) = 2 := fun q => hor (Or.inr q)
        have hlc : least ≤ c := by
          rcases Nat.lt_or_ge c least with q | q
          · exact absurd (Or.inl q) hor
          · exact q
        have h59 : ¬ B (z_ks B e) = 59 := fun q => hno ⟨hlc, q⟩
        have eN := z_kn_m (en := z_ke B k (z_ks B e)) hso
        have ev : z_kcl B k n least (j + 1) e c g = (if B (z_ks B e) = 59 then Sum.inr (z_ke B k (z_ks B e), c, g) else Sum.inl (z_ks B e)) := by
          rw [if_neg h59]
          unfold z_kcl
          rw [if_neg hno, if_neg (fun q => by rw [eN] at q; exact absurd q.1 (by decide))]
        rw [ev]
        exact ende c e g I1 J1 hlc (by omega) he hT hso hg e24 e45 hgi hf hj
/-- the reference: the roads of a clause -/
theorem z_l62 {n least c : Nat} {g : Nat → Nat} {R : Nat → Nat → Prop} (hn : n ≤ 10) (hl1 : 1 ≤ least) (hlc : least ≤ c) (hc : c ≤ 10) (hg : I 33 0 20 = 1) (e24 : I 33 0 24 = Int32.ofNat c) (e45 : ∀ i, i < c → I 45 0 i = Int32.ofNat (g i) ∧ g i < n) (hgi : ∀ i j, i < c → j < c → g i = g j → i = j) (hM : z_kM I 44 0 0 R) : ∃ I', z_ev (d + 5) (182, 62, [some (z_r 33 0), some (z_i (Int32.ofNat least)), some (z_i (z_c (decide (least = 1)))), some (z_i (z_c (decide (least = 3)))), some (z_i 1), none], [], (true, X, I, J)) (none, (true, X, I', J)) ∧ z_kM I' 44 0 0 (fun p q => R p q ∨ z_kF least c g p q) ∧ z_fr (fun a _ _ => Nat.beq a 44) I I' := by
  have inner : ∀ u, 1 ≤ u → u < c → ∀ a0, a0 = (if least = 1 then 0 else u - 1) → ∀ j i, i + j = u → a0 ≤ i → ∀ I1, z_fr (fun a _ _ => Nat.beq a 44) I I1 → z_kM I1 44 0 0 (fun p q => (R p q ∨ z_kE least u g p q) ∨ ∃ i', a0 ≤ i' ∧ i' < i ∧ ((p = g i' ∧ q = g u) ∨ (p = g u ∧ q = g i'))) → ∃ I', (∀ r, (∀ o5, z_ev (d + 5) (182, 62, [some (z_r 33 0), some (z_i (Int32.ofNat least)), some (z_i (z_c (decide (least = 1)))), some (z_i (z_c (decide (least = 3)))), some (z_i (Int32.ofNat (u + 1))), o5], [], (true, X, I', J)) r) → z_ev (d + 5) (182, 92, [some (z_r 33 0), some (z_i (Int32.ofNat least)), some (z_i (z_c (decide (least = 1)))), some (z_i (z_c (decide (least = 3)))), some (z_i (Int32.ofNat u)), some (z_i (Int32.ofNat i))], [], (true, X, I1, J)) r) ∧ z_fr (fun a _ _ => Nat.beq a 44) I I' ∧ z_kM I' 44 0 0 (fun p q => R p q ∨ z_kE least (u + 1) g p q) := by
    intro u hu1 huc a0 ha0 j
    induction j with
    | zero =>
      intro i hi hai I1 hf hm
      obtain rfl : i = u := by omega
      refine ⟨I1, fun r hr => z_q182_92 _ _ _ _ _ ⟨fun _ => by rw [z_os]; exact hr _, fun q => absurd ((z_olt (by omega) (by omega)).mp q) (by omega)⟩, hf, z_kM_cg hm (fun p q hp => ?_)⟩
      rw [z_kE_sn]
      constructor
      · intro h
        rcases h with (h | h) | ⟨i', h1, h2, h3⟩
        · exact Or.inl h
        · exact Or.inr (Or.inl h)
        · refine Or.inr (Or.inr ⟨i', h2, ?_, h3⟩)
          by_cases q9 : least = 1
          · exact Or.inl q9
          · rw [if_neg q9] at ha0
            exact Or.inr (by omega)
      · intro h
        rcases h with h | h | ⟨i', h1, h2, h3⟩
        · exact Or.inl (Or.inl h)
        · exact Or.inl (Or.inr h)
        · refine Or.inr ⟨i', ?_, h1, h3⟩
          by_cases q9 : least = 1
          · rw [if_pos q9] at ha0
            omega
          · rw [if_neg q9] at ha0
            rcases h2 with h2 | h2
            · exact absurd h2 q9
            · omega
    | succ j ih =>
      intro i hi hai I1 hf hm
      obtain ⟨g1, g2⟩ := e45 i (by omega)
      obtain ⟨g3, g4⟩ := e45 u huc
      have hne : g i ≠ g u := fun q => absurd (hgi i u (by omega) huc q) (by omega)
      have p180 := z_p180 (d := d + 4) (X := X) (I := I1) (J := J) (a := g i) (b := g u) (by omega) (by omega)
      obtain ⟨I', c1, c2, c3⟩ := ih (i + 1) (by omega) (by omega) (z_sr I1 44 0 0 (g i) (g u) true) (z_fr_sr hf rfl rfl) (z_kM_cg (z_kM_sr hm (by omega) (by omega) hne) (fun p q hp => by
        constructor
        · intro h
          rcases h with (h | ⟨i', h1, h2, h3⟩) | h
          · exact Or.inl h
          · exact Or.inr ⟨i', h1, by omega, h3⟩
          · exact Or.inr ⟨i, hai, by omega, h⟩
        · intro h
          rcases h with h | ⟨i', h1, h2, h3⟩
          · exact Or.inl (Or.inl h)
          · by_cases q9 : i' = i
            · subst q9; exact Or.inr h3
            · exact Or.inl (Or.inr ⟨i', h1, by omega, h3⟩)))
      refine ⟨I', fun r hr => z_q182_92 _ _ _ _ _ ⟨fun q => absurd ((z_ole (by omega) (by omega)).mp q) (by omega), fun _ => ⟨i, rfl, by omega, u, rfl, by omega, _, _, _, by rw [hf 45 0 i rfl, hf 45 0 u rfl, g1, g3]; exact p180, ?_⟩⟩, c2, c3⟩
      rw [z_os]
      exact c1 r hr
  have outer : ∀ j u, u + j = c → 1 ≤ u → ∀ I1, z_fr (fun a _ _ => Nat.beq a 44) I I1 → z_kM I1 44 0 0 (fun p q => R p q ∨ z_kE least u g p q) → ∃ I', (∀ o5, z_ev (d + 5) (182, 62, [some (z_r 33 0), some (z_i (Int32.ofNat least)), some (z_i (z_c (decide (least = 1)))), some (z_i (z_c (decide (least = 3)))), some (z_i (Int32.ofNat u)), o5], [], (true, X, I1, J)) (none, (true, X, I', J))) ∧ z_kM I' 44 0 0 (fun p q => R p q ∨ z_kF least c g p q) ∧ z_fr (fun a _ _ => Nat.beq a 44) I I' := by
    intro j
    induction j with
    | zero =>
      intro u hu hu1 I1 hf hm
      obtain rfl : u = c := by omega
      have f20 : ¬ I1 33 0 20 = 0 := by rw [hf 33 0 20 rfl, hg]; decide
      have f24 : I1 33 0 24 = Int32.ofNat u := by rw [hf 33 0 24 rfl]; exact e24
      have hlt : ¬ Int32.ofNat u < I1 33 0 24 := by rw [f24]; exact fun q => absurd ((z_olt (by omega) (by omega)).mp q) (by omega)
      by_cases h9 : least = 3
      · obtain ⟨g1, g2⟩ := e45 0 (by omega)
        obtain ⟨g3, g4⟩ := e45 (u - 1) (by omega)
        have hne : g 0 ≠ g (u - 1) := fun q => absurd (hgi 0 (u - 1) (by omega) (by omega) q) (by omega)
        have p180 := z_p180 (d := d + 4) (X := X) (I := I1) (J := J) (a := g 0) (b := g (u - 1)) (by omega) (by omega)
        refine ⟨z_sr I1 44 0 0 (g 0) (g (u - 1)) true, fun o5 => z_q182_62 _ _ _ _ _ ⟨fun _ => ⟨fun q => absurd h9 (of_decide_eq_false q), fun _ => ⟨fun q => absurd q f20, fun _ => ⟨u - 1, by rw [f24]; exact z_subn (by omega), by omega, _, _, _, by rw [hf 45 0 0 rfl, hf 45 0 (u - 1) rfl, g1, g3]; exact p180, rfl⟩⟩⟩, fun q => absurd q hlt⟩, z_kM_cg (z_kM_sr hm (by omega) (by omega) hne) (fun p q hp => ?_), z_fr_sr hf rfl rfl⟩
        unfold z_kF
        constructor
        · intro h
          rcases h with (h | h) | h
          · exact Or.inl h
          · exact Or.inr (Or.inl h)
          · exact Or.inr (Or.inr ⟨h9, h⟩)
        · intro h
          rcases h with h | h | ⟨_, h⟩
          · exact Or.inl (Or.inl h)
          · exact Or.inl (Or.inr h)
          · exact Or.inr h
      · refine ⟨I1, fun o5 => z_q182_62 _ _ _ _ _ ⟨fun _ => ⟨fun _ => rfl, fun q => absurd (of_decide_eq_true q) h9⟩, fun q => absurd q hlt⟩, z_kM_cg hm (fun p q hp => ?_), hf⟩
        unfold z_kF
        exact ⟨fun h => h.elim Or.inl (fun h => Or.inr (Or.inl h)), fun h => h.elim Or.inl (fun h => h.elim Or.inr (fun h => absurd h.1 h9))⟩
    | succ j ih =>
      intro u hu hu1 I1 hf hm
      have f20 : ¬ I1 33 0 20 = 0 := by rw [hf 33 0 20 rfl, hg]; decide
      have f24 : I1 33 0 24 = Int32.ofNat c := by rw [hf 33 0 24 rfl]; exact e24
      have hle : ¬ I1 33 0 24 ≤ Int32.ofNat u := by rw [f24]; exact fun q => absurd ((z_ole (by omega) (by omega)).mp q) (by omega)
      obtain ⟨I2, c1, c2, c3⟩ := inner u hu1 (by omega) _ rfl (if least = 1 then u else 1) (if least = 1 then 0 else u - 1) (by split <;> omega) (Nat.le_refl _) I1 hf (z_kM_cg hm (fun p q hp => ⟨Or.inl, fun h => h.elim id (fun ⟨i', h1, h2, _⟩ => absurd h1 (by omega))⟩))
      obtain ⟨I', d1, d2, d3⟩ := ih (u + 1) (by omega) (by omega) I2 c2 c3
      refine ⟨I', fun o5 => z_q182_62 _ _ _ _ _ ⟨fun q => absurd q hle, fun _ => ⟨fun q => absurd q f20, fun _ => ⟨fun q => ?_, fun q => ?_⟩⟩⟩, d2, d3⟩
      · have c1' := c1 _ d1
        rw [if_neg (of_decide_eq_false q)] at c1'
        rw [show (1 : Int32) = Int32.ofNat 1 from rfl, z_subn hu1]
        exact c1'
      · have c1' := c1 _ d1
        rw [if_pos (of_decide_eq_true q)] at c1'
        exact c1'
  obtain ⟨I', c1, c2, c3⟩ := outer (c - 1) 1 (by omega) (Nat.le_refl 1) I z_fr_rf (z_kM_cg hM (fun p q hp => ⟨Or.inl, fun h => h.elim id (fun ⟨i, j, h1, h2, _⟩ => absurd h1 (by omega))⟩))
  exact ⟨I', c1 none, c2, c3⟩
/-- the reference: a clause -/
theorem z_p182 {B : Nat → Int32} {k n e least : Nat} {R : Nat → Nat → Prop} (ht : z_kt B k) (hn1 : 1 ≤ n) (hn : n ≤ 10) (h2 : z_kk2 I B k) (e21 : I 33 0 21 = Int32.ofNat n) (he : e ≤ k) (hT : z_kT B k e I J) (hg : I 33 0 20 = 1) (hd : z_kd B (z_ks B e) (z_ke B k (z_ks B e)) = least) (hl : 1 ≤ least) (hM : z_kM I 44 0 0 R) : ∃ I' J', z_ev (d + 5) (z_en 182 [z_r 33 0, z_i (Int32.ofNat least)] (true, X, I, J)) (none, (true, X, I', J')) ∧ z_fr z_tV I I' ∧ z_jn J J' ∧ z_kvv B k R least I' J' (z_kcl B k n least 10 (z_ke B k (z_ks B e)) 0 (fun i => i)) ∧ ∀ y, z_kcl B k n least 10 (z_ke B k (z_ks B e)) 0 (fun i => i) = Sum.inr y → z_kRp n (z_kF least y.2.1 y.2.2) := by
  have hen := z_ke_le ht (z_ks_le ht he)
  have hd0 := hd
  have hl3 : least ≤ 3 := by
    unfold z_kd at hd
    split at hd
    · omega
    · split at hd
      · omega
      · split at hd <;> omega
  have eb2 : z_km B (z_ks B e) (z_ke B k (z_ks B e)) 1 = decide (least = 1) := by
    unfold z_kd at hd
    cases e1 : z_km B (z_ks B e) (z_ke B k (z_ks B e)) 1 with
    | true => rw [e1] at hd; exact (decide_eq_true hd.symm).symm
    | false =>
      rw [e1] at hd
      symm
      apply decide_eq_false
      intro q
      rw [q] at hd
      have hd : (if z_km B (z_ks B e) (z_ke B k (z_ks B e)) 2 then 3 else if z_km B (z_ks B e) (z_ke B k (z_ks B e)) 3 then 2 else 0) = 1 := hd
      split at hd
      · omega
      · split at hd <;> omega
  have eb3 : z_km B (z_ks B e) (z_ke B k (z_ks B e)) 2 = decide (least = 3) := by
    unfold z_kd at hd
    cases e2 : z_km B (z_ks B e) (z_ke B k (z_ks B e)) 2 with
    | true =>
      have e1 := z_km_ne (b := 1) e2 (by decide)
      rw [e1, e2] at hd
      exact (decide_eq_true hd.symm).symm
    | false =>
      rw [e2] at hd
      symm
      apply decide_eq_false
      intro q
      rw [q] at hd
      have hd : (if z_km B (z_ks B e) (z_ke B k (z_ks B e)) 1 then 1 else if z_km B (z_ks B e) (z_ke B k (z_ks B e)) 3 then 2 else 0) = 3 := hd
      split at hd
      · omega
      · split at hd <;> omega
  have q1 := z_p177 (d := d + 4) (X := X) (w1 := 1) ht (by decide) hT
  have q2 := z_p177 (d := d + 4) (X := X) (w1 := 2) ht (by decide) hT
  rw [eb2] at q1
  rw [eb3] at q2
  obtain ⟨I1, J1, c1, c2, c3, c4⟩ := z_p176 (d := d + 2) (X := X) (I := I) (J := J) ht h2 hen hT.2.1
  obtain ⟨I2, hI2⟩ : ∃ I2, I2 = z_up I1 33 0 24 (0 : Int32) := ⟨_, rfl⟩
  have f2 : z_fr z_tW I I2 := by rw [hI2]; exact z_fr_up (z_t20_W (z_t33_20 c3)) rfl
  have hT2 : z_kT B k (z_ke B k (z_ks B e)) I2 J1 := by
    obtain ⟨t1, t2, t3, t4, t5⟩ := c2
    rw [hI2]
    exact ⟨by rw [z_up_j (by decide)]; exact t1, by rw [z_up_j (by decide)]; exact t2, by rw [z_up_j (by decide)]; exact t3, by rw [z_up_j (by decide)]; exact t4, t5⟩
  obtain ⟨I3, J3, d1, d2, d3, d4⟩ := z_l182 (d := d) (X := X) (I := I) (J := J) (b2 := decide (least = 1)) (b3 := decide (least = 3)) ht hn1 hn hl3 h2 e21 10 0 (by omega) (z_ke B k (z_ks B e)) (fun i => i) I2 J1 hen hT2 (by rw [hI2, z_up_j (by decide), c3 33 0 20 rfl]; exact hg) (by rw [hI2, z_up_e]; rfl) (fun i hi => absurd hi (Nat.not_lt_zero i)) (fun i j hi => absurd hi (Nat.not_lt_zero i)) f2 c4
  have start : ∀ r, z_ev (d + 5) (182, 62, [some (z_r 33 0), some (z_i (Int32.ofNat least)), some (z_i (z_c (decide (least = 1)))), some (z_i (z_c (decide (least = 3)))), some (z_i 1), none], [], (true, X, I3, J3)) r → z_ev (d + 5) (z_en 182 [z_r 33 0, z_i (Int32.ofNat least)] (true, X, I, J)) r := fun r hr => z_q182_e _ ⟨_, _, _, _, q1, _, _, _, _, q2, _, _, _, c1, by rw [← hI2]; exact d1 r hr⟩
  cases hk9 : z_kcl B k n least 10 (z_ke B k (z_ks B e)) 0 (fun i => i) with
  | inl x =>
    rw [hk9] at d4
    obtain ⟨m1, m2⟩ := d4
    refine ⟨I3, J3, start _ ?_, z_tW_V d2, d3, ⟨m1, m2⟩, fun y q => (by cases q)⟩
    refine z_q182_62 _ _ _ _ _ ⟨fun _ => ⟨fun _ => rfl, fun _ => ⟨fun _ => rfl, fun q => absurd m1 q⟩⟩, fun _ => ⟨fun _ => ⟨fun _ => rfl, fun _ => rfl⟩, fun q => absurd m1 q⟩⟩
  | inr y =>
    rw [hk9] at d4
    obtain ⟨m1, m2, m3, m4, m5, m6, m7, m8⟩ := d4
    obtain ⟨I4, g1, g2, g3⟩ := z_l62 (d := d) (X := X) (I := I3) (J := J3) (R := R) hn hl m7 m8 m1 m4 m5 m6 (z_kM_eq hM (fun p => d2 44 0 p rfl))
    refine ⟨I4, J3, start _ g1, z_fr_tr (z_tW_V d2) (z_fr_mn g3 (fun a b c q => by unfold z_tV; rw [q, Bool.or_true])), d3, ⟨by rw [g3 33 0 20 rfl]; exact m1, m2, ?_, g2⟩, fun y' q => by
      obtain rfl := Sum.inr.inj q
      exact z_kF_ok (fun i hi => (m5 i hi).2) m6 m7⟩
    obtain ⟨t1, t2, t3, t4, t5⟩ := m3
    exact ⟨by rw [g3 33 0 16 rfl]; exact t1, by rw [g3 33 0 17 rfl]; exact t2, by rw [g3 33 0 15 rfl]; exact t3, by rw [g3 33 0 19 rfl]; exact t4, t5⟩
end
