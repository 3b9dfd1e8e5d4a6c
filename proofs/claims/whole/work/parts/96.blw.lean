/-! calls of both: blow -/
def z_bq (a b _c : Nat) : Bool := (Nat.beq a 4 || Nat.beq a 5 || Nat.beq a 6) && Nat.beq b 0
def z_bm (a b c : Nat) : Bool := ((Nat.beq a 37 || Nat.beq a 38) && Nat.beq b 0) || (Nat.beq a 33 && Nat.beq b 0 && Nat.beq c 4)
theorem z_bq_ag {I I' : Nat → Nat → Nat → Int32} (h : z_fr z_bq I I') : z_ag [0, 1] I I' := fun a b c hc => h a b c (by
  cases e : z_bq a b c with
  | false => rfl
  | true =>
    unfold z_bq at e
    simp only [Bool.or_eq_true, Bool.and_eq_true] at e
    obtain rfl := Nat.eq_of_beq_eq_true e.2
    rcases e.1 with (e | e) | e <;> (obtain rfl := Nat.eq_of_beq_eq_true e; exact absurd hc (by show ¬ ([0, 1] : List Nat).contains 1 = false; decide)))
theorem z_bm_ag {I I' : Nat → Nat → Nat → Int32} (h : z_fr z_bm I I') : z_ag [0, 1] I I' := fun a b c hc => h a b c (by
  cases e : z_bm a b c with
  | false => rfl
  | true =>
    unfold z_bm at e
    simp only [Bool.or_eq_true, Bool.and_eq_true] at e
    rcases e with ⟨e | e, e2⟩ | e
    · obtain rfl := Nat.eq_of_beq_eq_true e; exact absurd hc (by show ¬ ([0, 1] : List Nat).contains 1 = false; decide)
    · obtain rfl := Nat.eq_of_beq_eq_true e; exact absurd hc (by show ¬ ([0, 1] : List Nat).contains 1 = false; decide)
    · obtain rfl := Nat.eq_of_beq_eq_true e.1.1
      obtain rfl := Nat.eq_of_beq_eq_true e.2
      exact absurd hc (by show ¬ ([0, 1] : List Nat).contains 1 = false; decide))
/-- a road's chance -/
def z_rv (m : Nat → Nat) (a b : Nat) : Int32 := if (m a).testBit b then 4 else 0
theorem z_rv_sy {s a b : Nat} {m : Nat → Nat} (hw : z_wfm s m) (ha : a < 10) (hb : b < 10) : z_rv m a b = z_rv m b a := by
  unfold z_rv
  have : (m a).testBit b = (m b).testBit a := by
    cases e1 : (m a).testBit b with
    | true => exact ((hw.2 a b ha e1).2.2.2).symm
    | false =>
      cases e2 : (m b).testBit a with
      | false => rfl
      | true => rw [(hw.2 b a hb e2).2.2.2] at e1; cases e1
  rw [this]
theorem z_rv_di {s a : Nat} {m : Nat → Nat} (hw : z_wfm s m) (ha : a < 10) : z_rv m a a = 0 := by
  unfold z_rv
  cases e : (m a).testBit a with
  | false => rfl
  | true => exact absurd rfl (hw.2 a a ha e).2.2.1
section
variable {d : Nat} {X : z_X} {I : Nat → Nat → Nat → Int32} {J : Nat → Nat → Nat → Int64}
theorem z_p22b {q a b s : Nat} {m : Nat → Nat} (hq : q < 10) (ha : a < 10) (hb : b < 10) (hw : z_wfm s m) (hr : z_hm I 14 q 0 m) : z_ev d (z_en 22 [z_r 13 q, z_i (Int32.ofNat a), z_i (Int32.ofNat b)] (true, X, I, J)) (some (z_i (z_c ((m a).testBit b))), (true, X, I, J)) := by
  have h := z_p22 (d := d) (X := X) (I := I) (J := J) (q := q) (a := a) (b := b) hq ha
  have e := hr a ha
  rw [Nat.zero_add] at e
  rw [e, z_bt_nat _ (hw.1 a ha) b hb] at h
  exact h
theorem z_l9i {q k s : Nat} {m : Nat → Nat} (hq : q < 10) (hk : k < 5) (hw : z_wfm s m) (hr : z_hm I 14 q 0 m) {F : Nat → Nat → Int32} :
    ∀ j o, o + j = k → ∀ I1, (∀ a b, a < 5 → b < 5 → I1 6 0 (5 * a + b) = if a < k ∧ b < k then z_rv m a b else if (a = k ∧ b < o) ∨ (b = k ∧ a < o) then z_rv m a b else if (a = k ∧ b ≤ k) ∨ (b = k ∧ a ≤ k) then 0 else F a b) → I1 4 0 2 = Int32.ofNat (k + 1) → z_fr z_bq I I1 →
    ∃ I', (∀ r, z_ev (d + 2) (9, 7, [some (z_r 4 0), some (z_r 13 q), some (z_i (Int32.ofNat (k + 1))), some (z_i (Int32.ofNat k))], [], (true, X, I', J)) r → z_ev (d + 2) (9, 28, [some (z_r 4 0), some (z_r 13 q), some (z_i (Int32.ofNat k)), some (z_i (Int32.ofNat o))], [], (true, X, I1, J)) r) ∧ (∀ a b, a < 5 → b < 5 → I' 6 0 (5 * a + b) = if a < k + 1 ∧ b < k + 1 then z_rv m a b else F a b) ∧ I' 4 0 2 = Int32.ofNat (k + 1) ∧ I' 5 = I1 5 ∧ z_fr z_bq I I' := by
  intro j
  induction j with
  | zero =>
    intro o ho I1 h1 h2 h3
    obtain rfl : o = k := by omega
    refine ⟨I1, fun r hr => z_q9_28 q hq _ _ ⟨fun _ => by rw [z_os]; exact hr, fun h => absurd ((z_olt (by omega) (by omega)).mp h) (by omega)⟩, fun a b ha hb => ?_, h2, rfl, h3⟩
    rw [h1 a b ha hb]
    by_cases c1 : a < o ∧ b < o
    · rw [if_pos c1, if_pos (by omega)]
    · rw [if_neg c1]
      by_cases c2 : (a = o ∧ b < o) ∨ (b = o ∧ a < o)
      · rw [if_pos c2, if_pos (by omega)]
      · rw [if_neg c2]
        by_cases c3 : (a = o ∧ b ≤ o) ∨ (b = o ∧ a ≤ o)
        · rw [if_pos c3, if_pos (by omega)]
          obtain ⟨rfl, rfl⟩ : a = o ∧ b = o := by omega
          exact (z_rv_di hw (by omega)).symm
        · rw [if_neg c3, if_neg (by omega)]
  | succ j ih =>
    intro o ho I1 h1 h2 h3
    have hr1 : z_hm I1 14 q 0 m := fun p hp => by rw [z_fr_t h3 14 (fun _ _ => rfl)]; exact hr p hp
    have p22 := z_p22b (d := d + 1) (X := X) (I := I1) (J := J) (q := q) (a := o) (b := k) hq (by omega) (by omega) hw hr1
    obtain ⟨I2, hI2⟩ : ∃ I2, I2 = z_up (z_up I1 6 0 (5 * o + k) (z_rv m o k)) 6 0 (5 * k + o) (z_rv m o k) := ⟨_, rfl⟩
    have p8 := z_p8 (d := d + 1) (X := X) (I := I1) (J := J) (a := o) (b := k) (by omega) hk (z_rv m o k)
    rw [← hI2] at p8
    obtain ⟨I', c1, c2, c3, c4, c5⟩ := ih (o + 1) (by omega) I2 (fun a b ha hb => by
      by_cases e1 : a = k ∧ b = o
      · obtain ⟨rfl, rfl⟩ := e1
        rw [hI2, z_up_e, if_neg (by omega), if_pos (by omega)]
        exact z_rv_sy hw (by omega) (by omega)
      · by_cases e2 : a = o ∧ b = k
        · obtain ⟨rfl, rfl⟩ := e2
          rw [hI2, z_up_j (by omega), z_up_e, if_neg (by omega), if_pos (by omega)]
        · rw [hI2, z_up_j (by omega), z_up_j (by omega), h1 a b ha hb]
          by_cases c1 : a < k ∧ b < k
          · rw [if_pos c1, if_pos c1]
          · rw [if_neg c1, if_neg c1]
            by_cases c2 : (a = k ∧ b < o) ∨ (b = k ∧ a < o)
            · rw [if_pos c2, if_pos (by omega)]
            · rw [if_neg c2, if_neg (show ¬ ((a = k ∧ b < o + 1) ∨ (b = k ∧ a < o + 1)) by omega)]) (by rw [hI2, z_up_t (by decide), z_up_t (by decide)]; exact h2) (by rw [hI2]; exact z_fr_up (z_fr_up h3 rfl) rfl)
    refine ⟨I', fun r hr => z_q9_28 q hq _ _ ⟨fun h => absurd ((z_ole (by omega) (by omega)).mp h) (by omega), fun _ => ⟨_, _, _, _, p22, fun h => ?_, fun h => ?_⟩⟩, c2, c3, by rw [c4, hI2, z_up_t (by decide), z_up_t (by decide)], c5⟩
    · have e : z_rv m o k = 0 := by unfold z_rv; rw [h]; rfl
      rw [e] at p8
      exact ⟨_, _, _, p8, by rw [z_os]; exact c1 r hr⟩
    · have e : z_rv m o k = 4 := by unfold z_rv; rw [h]; rfl
      rw [e] at p8
      exact ⟨_, _, _, p8, by rw [z_os]; exact c1 r hr⟩
theorem z_l9 {q s : Nat} {m : Nat → Nat} (hq : q < 10) (hs : s ≤ 5) (hw : z_wfm s m) (hr : z_hm I 14 q 0 m) (es : I 13 q 1 = Int32.ofNat s) {F : Nat → Nat → Int32} {G : Nat → Int32} :
    ∀ j k, k + j = s → ∀ (o3 : Option z_V) I1, (∀ a b, a < 5 → b < 5 → I1 6 0 (5 * a + b) = if a < k ∧ b < k then z_rv m a b else F a b) → (∀ p, p < 5 → I1 5 0 p = if p < k then 1 else G p) → I1 4 0 2 = Int32.ofNat k → z_fr z_bq I I1 →
    ∃ I', z_ev (d + 2) (9, 7, [some (z_r 4 0), some (z_r 13 q), some (z_i (Int32.ofNat k)), o3], [], (true, X, I1, J)) (none, (true, X, I', J)) ∧ (∀ a b, a < 5 → b < 5 → I' 6 0 (5 * a + b) = if a < s ∧ b < s then z_rv m a b else F a b) ∧ (∀ p, p < 5 → I' 5 0 p = if p < s then 1 else G p) ∧ I' 4 0 2 = Int32.ofNat s ∧ z_fr z_bq I I' := by
  intro j
  induction j with
  | zero =>
    intro k hk o3 I1 h1 h2 h3 h4
    obtain rfl : k = s := by omega
    refine ⟨I1, z_q9_7 q hq _ o3 ⟨fun _ => rfl, fun h => ?_⟩, h1, h2, h3, h4⟩
    rw [z_fr_t h4 13 (fun _ _ => rfl), es] at h
    exact absurd ((z_olt (by omega) (by omega)).mp h) (by omega)
  | succ j ih =>
    intro k hk o3 I1 h1 h2 h3 h4
    have p6 := z_p6 (d := d) (X := X) (I := I1) (J := J) (show k < 5 by omega) h3 1
    obtain ⟨I2, hI2⟩ : ∃ I2, I2 = z_zc (z_up (z_up I1 5 0 k 1) 4 0 2 (Int32.ofNat (k + 1))) 6 k (k + 1) := ⟨_, rfl⟩
    rw [← hI2] at p6
    have f2 : z_fr z_bq I I2 := by
      rw [hI2]
      have : ∀ n, z_fr z_bq I (z_zc (z_up (z_up I1 5 0 k 1) 4 0 2 (Int32.ofNat (k + 1))) 6 k n) := by
        intro n
        induction n with
        | zero => exact z_fr_up (z_fr_up h4 rfl) rfl
        | succ n ihn => exact z_fr_up (z_fr_up ihn rfl) rfl
      exact this (k + 1)
    have e6 : ∀ i9, I2 6 0 i9 = if (∃ o, o < k + 1 ∧ (i9 = 5 * o + k ∨ i9 = 5 * k + o)) then 0 else I1 6 0 i9 := fun i9 => by
      rw [hI2, z_zc_at]; rfl
    have e5 : ∀ p, I2 5 0 p = if p = k then 1 else I1 5 0 p := fun p => by
      rw [hI2, z_zc_t (by decide), z_up_t (by decide)]
      by_cases h : p = k
      · rw [if_pos h, h, z_up_e]
      · rw [if_neg h, z_up_j h]
    have e4 : I2 4 0 2 = Int32.ofNat (k + 1) := by rw [hI2, z_zc_t (by decide), z_up_e]
    obtain ⟨I3, g1, g2, g3, g4, g5⟩ := z_l9i (d := d) (X := X) (J := J) (I := I) (F := F) hq (show k < 5 by omega) hw hr k 0 (by omega) I2 (fun a b ha hb => by
      rw [e6]
      by_cases c3 : (a = k ∧ b ≤ k) ∨ (b = k ∧ a ≤ k)
      · rw [if_pos (by
          rcases c3 with ⟨rfl, c3⟩ | ⟨rfl, c3⟩
          · exact ⟨b, by omega, Or.inr rfl⟩
          · exact ⟨a, by omega, Or.inl rfl⟩), if_neg (by omega), if_neg (by omega), if_pos c3]
      · rw [if_neg (by rintro ⟨o, o1, o2⟩; omega), if_neg (by omega : ¬ ((a = k ∧ b < 0) ∨ (b = k ∧ a < 0))), if_neg c3]
        exact h1 a b ha hb) e4 f2
    obtain ⟨I', c1, c2⟩ := ih (k + 1) (by omega) (some (z_i (Int32.ofNat k))) I3 g2 (fun p hp => by
      rw [g4, e5]
      by_cases h : p = k
      · rw [if_pos h, if_pos (by omega)]
      · rw [if_neg h, h2 p hp]
        by_cases h9 : p < k
        · rw [if_pos h9, if_pos (by omega)]
        · rw [if_neg h9, if_neg (by omega)]) g3 g5
    refine ⟨I', z_q9_7 q hq _ o3 ⟨fun h => ?_, fun _ => ⟨fun h => absurd ((z_ole (a := 5) (by decide) (by omega)).mp h) (by omega), fun _ => ⟨_, _, _, _, p6, g1 _ c1⟩⟩⟩, c2⟩
    rw [z_fr_t h4 13 (fun _ _ => rfl), es] at h
    exact absurd ((z_ole (by omega) (by omega)).mp h) (by omega)
/-- the reference -/
theorem z_l221i {n k s : Nat} {m : Nat → Nat} (hn : n < 4) (hk : k < s) (hs : s ≤ 5) (hw : z_wfm s m) (hr : ∀ p, p < 10 → I 35 0 (10 * n + p) = Int32.ofNat (m p)) {F : Nat → Nat → Int32} :
    ∀ j o, o + j = s → ∀ I1, (∀ a b, a < 5 → b < 5 → I1 38 0 (5 * a + b) = if a < s ∧ b < s ∧ (a < k ∨ (a = k ∧ b < o)) then z_rv m a b else F a b) → I1 33 0 4 = Int32.ofNat s → z_fr z_bm I I1 →
    ∃ I', (∀ r, z_ev (d + 2) (221, 34, [some (z_r 33 0), some (z_i (Int32.ofNat n)), some (z_i (Int32.ofNat (k + 1))), some (z_i (Int32.ofNat s))], [], (true, X, I', J)) r → z_ev (d + 2) (221, 51, [some (z_r 33 0), some (z_i (Int32.ofNat n)), some (z_i (Int32.ofNat k)), some (z_i (Int32.ofNat o))], [], (true, X, I1, J)) r) ∧ (∀ a b, a < 5 → b < 5 → I' 38 0 (5 * a + b) = if a < s ∧ b < s ∧ a < k + 1 then z_rv m a b else F a b) ∧ I' 33 0 4 = Int32.ofNat s ∧ I' 37 = I1 37 ∧ z_fr z_bm I I' := by
  intro j
  induction j with
  | zero =>
    intro o ho I1 h1 h2 h3
    obtain rfl : o = s := by omega
    refine ⟨I1, fun r hr => z_q221_51 _ _ _ ⟨fun _ => by rw [z_os]; exact hr, fun h => ?_⟩, fun a b ha hb => ?_, h2, rfl, h3⟩
    · rw [h2] at h
      exact absurd ((z_olt (by omega) (by omega)).mp h) (by omega)
    · rw [h1 a b ha hb]
      by_cases c1 : a < o ∧ b < o ∧ a < k + 1
      · rw [if_pos c1, if_pos (by omega)]
      · rw [if_neg c1, if_neg (by omega)]
  | succ j ih =>
    intro o ho I1 h1 h2 h3
    have p167 := z_p167 (d := d + 1) (X := X) (I := I1) (J := J) (n := n) (a := k) (b := o) hn (by omega)
    rw [z_fr_t h3 35 (fun _ _ => rfl), hr k (by omega), z_bt_nat _ (hw.1 k (by omega)) o (by omega)] at p167
    obtain ⟨I2, hI2⟩ : ∃ I2, I2 = z_up I1 38 0 (5 * k + o) (z_rv m k o) := ⟨_, rfl⟩
    obtain ⟨I', c1, c2, c3, c4, c5⟩ := ih (o + 1) (by omega) I2 (fun a b ha hb => by
      by_cases e1 : a = k ∧ b = o
      · obtain ⟨rfl, rfl⟩ := e1
        rw [hI2, z_up_e, if_pos (by omega)]
      · rw [hI2, z_up_j (by omega), h1 a b ha hb]
        by_cases c1 : a < s ∧ b < s ∧ (a < k ∨ (a = k ∧ b < o))
        · rw [if_pos c1, if_pos (by omega)]
        · rw [if_neg c1, if_neg (by omega)]) (by rw [hI2, z_up_t (by decide)]; exact h2) (by rw [hI2]; exact z_fr_up h3 rfl)
    refine ⟨I', fun r hr => z_q221_51 _ _ _ ⟨fun h => ?_, fun _ => ⟨_, _, _, _, p167, fun h => ⟨5 * k + o, z_o5 k o, by omega, ?_⟩, fun h => ⟨5 * k + o, z_o5 k o, by omega, ?_⟩⟩⟩, c2, c3, by rw [c4, hI2, z_up_t (by decide)], c5⟩
    · rw [h2] at h
      exact absurd ((z_ole (by omega) (by omega)).mp h) (by omega)
    · have e : z_rv m k o = 0 := by unfold z_rv; rw [h]; rfl
      have h9 := c1 r hr
      rw [hI2, e] at h9
      rw [z_os]; exact h9
    · have e : z_rv m k o = 4 := by unfold z_rv; rw [h]; rfl
      have h9 := c1 r hr
      rw [hI2, e] at h9
      rw [z_os]; exact h9
theorem z_l221b {n s : Nat} {m : Nat → Nat} (hn : n < 4) (hs : s ≤ 5) (hw : z_wfm s m) (hr : ∀ p, p < 10 → I 35 0 (10 * n + p) = Int32.ofNat (m p)) {F : Nat → Nat → Int32} {G : Nat → Int32} :
    ∀ j k, k + j = s → ∀ (o3 : Option z_V) I1, (∀ a b, a < 5 → b < 5 → I1 38 0 (5 * a + b) = if a < s ∧ b < s ∧ a < k then z_rv m a b else F a b) → (∀ p, p < 5 → I1 37 0 p = if p < k then 1 else G p) → I1 33 0 4 = Int32.ofNat s → z_fr z_bm I I1 →
    ∃ I', z_ev (d + 2) (221, 34, [some (z_r 33 0), some (z_i (Int32.ofNat n)), some (z_i (Int32.ofNat k)), o3], [], (true, X, I1, J)) (some (z_i (Int32.ofNat s)), (true, X, I', J)) ∧ (∀ a b, a < 5 → b < 5 → I' 38 0 (5 * a + b) = if a < s ∧ b < s then z_rv m a b else F a b) ∧ (∀ p, p < 5 → I' 37 0 p = if p < s then 1 else G p) ∧ I' 33 0 4 = Int32.ofNat s ∧ z_fr z_bm I I' := by
  intro j
  induction j with
  | zero =>
    intro k hk o3 I1 h1 h2 h3 h4
    obtain rfl : k = s := by omega
    refine ⟨I1, z_q221_34 _ _ o3 ⟨fun _ => by rw [h3], fun h => ?_⟩, fun a b ha hb => ?_, h2, h3, h4⟩
    · rw [h3] at h
      exact absurd ((z_olt (by omega) (by omega)).mp h) (by omega)
    · rw [h1 a b ha hb]
      by_cases c1 : a < k ∧ b < k
      · rw [if_pos c1, if_pos (by omega)]
      · rw [if_neg c1, if_neg (by omega)]
  | succ j ih =>
    intro k hk o3 I1 h1 h2 h3 h4
    obtain ⟨I2, hI2⟩ : ∃ I2, I2 = z_up I1 37 0 k (1 : Int32) := ⟨_, rfl⟩
    obtain ⟨I3, g1, g2, g3, g4, g5⟩ := z_l221i (d := d) (X := X) (J := J) (I := I) (F := F) hn (show k < s by omega) hs hw hr s 0 (by omega) I2 (fun a b ha hb => by
      rw [hI2, z_up_t (by decide), h1 a b ha hb]
      by_cases c1 : a < s ∧ b < s ∧ a < k
      · rw [if_pos c1, if_pos (by omega)]
      · rw [if_neg c1, if_neg (by omega)]) (by rw [hI2, z_up_t (by decide)]; exact h3) (by rw [hI2]; exact z_fr_up h4 rfl)
    obtain ⟨I', c1, c2⟩ := ih (k + 1) (by omega) (some (z_i (Int32.ofNat s))) I3 g2 (fun p hp => by
      rw [g4, hI2]
      by_cases h : p = k
      · rw [h, z_up_e, if_pos (by omega)]
      · rw [z_up_j h, h2 p hp]
        by_cases h9 : p < k
        · rw [if_pos h9, if_pos (by omega)]
        · rw [if_neg h9, if_neg (by omega)]) g3 g5
    refine ⟨I', z_q221_34 _ _ o3 ⟨fun h => ?_, fun _ => ⟨k, rfl, by omega, ?_⟩⟩, c2⟩
    · rw [h3] at h
      exact absurd ((z_ole (by omega) (by omega)).mp h) (by omega)
    · have h9 := g1 _ c1
      rw [hI2] at h9
      exact h9
end
/-- promise 24 -/
theorem z_op_blow (x : Int32) : z_op 89 221 [z_i x] := by
  intro X I J hR
  have hR0 := hR
  obtain ⟨n0, r2, r3, r4, r5, r6, r7, r8⟩ := hR
  have nn := n0
  obtain ⟨n1, n2, ⟨kk, l1, l2, l3, l4, l5, l6, l7⟩, n4, n5⟩ := n0
  cases ha : z_bw x 0 3 with
  | false =>
    have fa : ∀ {P : Prop}, z_bw x 0 3 = true → P := fun h => by rw [ha] at h; cases h
    exact ⟨z_i (-1), X, X, I, I, J, J, z_q89_e (d := 57) x ⟨fun h => fa h, fun _ => rfl⟩, z_q221_e (d := 58) x ⟨fun h => fa h, fun _ => rfl⟩, hR0, Nat.le_succ _, Nat.le_add_right _ _, rfl⟩
  | true =>
    have fa : ∀ {P : Prop}, z_bw x 0 3 = false → P := fun h => by rw [ha] at h; cases h
    obtain ⟨n, hn, rfl⟩ := z_bw3 ha
    obtain ⟨s, m, g1, g2, g3, g4, g5, g6, g7⟩ := z_now_net nn hn
    by_cases h5 : s ≤ 5
    · have c13 : I 13 n 1 ≤ 5 := by rw [g4]; exact (z_ole (b := 5) (by omega) (by decide)).mpr h5
      obtain ⟨I1, e1, e2, e3, e4, e5⟩ := z_l9 (d := 57) (X := X) (J := J) (I := z_up I 4 0 2 0) (q := n) (s := s) (m := m) (by omega) h5 g3 (fun p hp => by rw [z_up_t (by decide)]; exact g6 p hp) (by rw [z_up_t (by decide)]; exact g4) (F := fun a b => I 6 0 (5 * a + b)) (G := I 5 0) s 0 (by omega) none (z_up I 4 0 2 0) (fun a b ha hb => by rw [if_neg (by omega)]; rfl) (fun p hp => by rw [if_neg (by omega)]; rfl) (by rw [z_up_e]; rfl) z_fr_rf
      have a1 : z_ag [0, 1] I I1 := z_ag_tr (z_ag_up z_ag_rf rfl) (z_bq_ag e5)
      have t1 : ∀ t, t ≠ 4 → (∀ i j, z_bq t i j = false) → I1 t = I t := fun t ht hq => by rw [z_fr_t e5 t hq, z_up_t ht]
      have c34 : I1 34 0 n ≤ 5 := by rw [t1 34 (by decide) (fun _ _ => rfl), g5]; exact (z_ole (b := 5) (by omega) (by decide)).mpr h5
      obtain ⟨Ia, hIa⟩ : ∃ Ia, Ia = z_up I1 33 0 4 (I1 34 0 n) := ⟨_, rfl⟩
      obtain ⟨I2, d1, d2, d3, d4, d5⟩ := z_l221b (d := 58) (X := X) (J := J) (I := Ia) (n := n) (s := s) (m := m) hn h5 g3 (fun p hp => by rw [hIa, z_up_t (by decide), t1 35 (by decide) (fun _ _ => rfl)]; exact g7 p hp) (F := fun a b => I 38 0 (5 * a + b)) (G := I 37 0) s 0 (by omega) none Ia (fun a b ha hb => by rw [if_neg (by omega), hIa, z_up_t (by decide), t1 38 (by decide) (fun _ _ => rfl)]) (fun p hp => by rw [if_neg (by omega), hIa, z_up_t (by decide), t1 37 (by decide) (fun _ _ => rfl)]) (by rw [hIa, z_up_e, t1 34 (by decide) (fun _ _ => rfl)]; exact g5) z_fr_rf
      have a2 : z_ag [0, 1] I I2 := z_ag_tr a1 (z_ag_tr (by rw [hIa]; exact z_ag_up z_ag_rf rfl) (z_bm_ag d5))
      have t2 : ∀ t, t ≠ 33 → (∀ i j, z_bm t i j = false) → I2 t = I1 t := fun t ht hq => by rw [z_fr_t d5 t hq, hIa, z_up_t ht]
      have t12 : ∀ t, t ≠ 4 → t ≠ 33 → (∀ i j, z_bq t i j = false) → (∀ i j, z_bm t i j = false) → I2 t = I t := fun t h1 h2 h3 h4 => (t2 t h2 h4).trans (t1 t h1 h3)
      have t33 : ∀ j, j ≠ 4 → I2 33 0 j = I 33 0 j := fun j hj => by
        rw [d5 33 0 j (by unfold z_bm; rw [show Nat.beq j 4 = false from Bool.eq_false_iff.mpr (fun q => hj (Nat.eq_of_beq_eq_true q))]; rfl), hIa, z_up_j hj, t1 33 (by decide) (fun _ _ => rfl)]
      have hpair : ∀ j, j < 25 → ∃ a b, a < 5 ∧ b < 5 ∧ j = 5 * a + b := fun j hj => ⟨j / 5, j % 5, by omega, by omega, by omega⟩
      refine ⟨z_i (Int32.ofNat s), X, X, I1, I2, J, J, z_q89_e (d := 57) _ ⟨fun _ => ⟨n, rfl, hn, fun _ => ⟨_, _, _, z_q9_e n (by omega) e1, by rw [e4]⟩, fun h => absurd c13 (Int32.not_le.mpr h)⟩, fun h => fa h⟩, z_q221_e (d := 58) _ ⟨fun _ => ⟨n, rfl, hn, fun _ => by rw [← hIa]; exact d1, fun h => absurd c34 (Int32.not_le.mpr h)⟩, fun h => fa h⟩, z_R_01 hR0 a2 rfl rfl ⟨?_, ?_, ⟨s, h5, ?_, d4, fun j hj => ?_, fun j hj => ?_, fun j hj => ?_, fun a b ha hb => ?_⟩, ?_, ?_⟩, Nat.le_succ _, Nat.le_add_right _ _, z_67_ag a2 rfl⟩
      · rw [t12 13 (by decide) (by decide) (fun _ _ => rfl) (fun _ _ => rfl), t12 14 (by decide) (by decide) (fun _ _ => rfl) (fun _ _ => rfl), t12 34 (by decide) (by decide) (fun _ _ => rfl) (fun _ _ => rfl), t12 35 (by decide) (by decide) (fun _ _ => rfl) (fun _ _ => rfl)]; exact n1
      · rw [t12 3 (by decide) (by decide) (fun _ _ => rfl) (fun _ _ => rfl), t12 36 (by decide) (by decide) (fun _ _ => rfl) (fun _ _ => rfl), t33 2 (by decide)]; exact n2
      · rw [t2 4 (by decide) (fun _ _ => rfl)]; exact e4
      · rw [t2 5 (by decide) (fun _ _ => rfl), e3 j hj, d3 j hj, l4 j hj]
      · obtain ⟨a, b, ha, hb, rfl⟩ := hpair j hj
        rw [t2 6 (by decide) (fun _ _ => rfl), e2 a b ha hb, d2 a b ha hb, l5 _ hj]
      · rw [d3 j (by omega), if_pos hj]
        exact ⟨1, by decide, by decide, rfl⟩
      · rw [d2 a b (by omega) (by omega), d2 b a (by omega) (by omega), if_pos ⟨ha, hb⟩, if_pos ⟨hb, ha⟩, z_rv_sy g3 (show b < 10 by omega) (show a < 10 by omega)]
        unfold z_rv
        cases (m a).testBit b
        · exact ⟨0, by decide, rfl, rfl⟩
        · exact ⟨4, by decide, rfl, rfl⟩
      · rw [t12 1 (by decide) (by decide) (fun _ _ => rfl) (fun _ _ => rfl), t33 7 (by decide)]; exact n4
      · rw [t12 32 (by decide) (by decide) (fun _ _ => rfl) (fun _ _ => rfl), t12 1 (by decide) (by decide) (fun _ _ => rfl) (fun _ _ => rfl), t12 12 (by decide) (by decide) (fun _ _ => rfl) (fun _ _ => rfl), t12 39 (by decide) (by decide) (fun _ _ => rfl) (fun _ _ => rfl), t33 8 (by decide)]; exact n5
    · have c13 : ¬ I 13 n 1 ≤ 5 := by rw [g4]; exact fun q => absurd ((z_ole (b := 5) (by omega) (by decide)).mp q) h5
      have c34 : ¬ I 34 0 n ≤ 5 := by rw [g5]; exact fun q => absurd ((z_ole (b := 5) (by omega) (by decide)).mp q) h5
      exact ⟨z_i (-4), X, X, I, I, J, J, z_q89_e (d := 57) _ ⟨fun _ => ⟨n, rfl, hn, fun h => absurd h c13, fun _ => rfl⟩, fun h => fa h⟩, z_q221_e (d := 58) _ ⟨fun _ => ⟨n, rfl, hn, fun h => absurd h c34, fun _ => rfl⟩, fun h => fa h⟩, hR0, Nat.le_succ _, Nat.le_add_right _ _, rfl⟩
