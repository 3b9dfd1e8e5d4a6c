/-! frames: which places may change; nets that change on both sides -/
def z_fr (P : Nat → Nat → Nat → Bool) (I I' : Nat → Nat → Nat → Int32) : Prop := ∀ a b c, P a b c = false → I' a b c = I a b c
section
variable {P Q : Nat → Nat → Nat → Bool} {I I' I'' : Nat → Nat → Nat → Int32} {J J' : Nat → Nat → Nat → Int64} {X : z_X}
theorem z_fr_rf : z_fr P I I := fun _ _ _ _ => rfl
theorem z_fr_tr (h : z_fr P I I') (h' : z_fr P I' I'') : z_fr P I I'' := fun a b c q => (h' a b c q).trans (h a b c q)
theorem z_fr_mn (h : z_fr P I I') (hs : ∀ a b c, P a b c = true → Q a b c = true) : z_fr Q I I' := fun a b c q => h a b c (by
  cases e : P a b c with
  | false => rfl
  | true => rw [hs a b c e] at q; cases q)
theorem z_fr_up {t i j : Nat} {v : Int32} (h : z_fr P I I') (hp : P t i j = true) : z_fr P I (z_up I' t i j v) := by
  intro a b c q
  unfold z_up
  split
  · next e =>
    obtain ⟨rfl, rfl, rfl⟩ := e
    rw [hp] at q; cases q
  · exact h a b c q
theorem z_fr_wo {t i o n : Nat} {g : Nat → Int32} (h : z_fr P I I') (hp : ∀ j, o ≤ j → j < o + n → P t i j = true) : z_fr P I (z_wo I' t i o n g) := by
  intro a b c q
  unfold z_wo
  split
  · next e =>
    obtain ⟨rfl, rfl, e1, e2⟩ := e
    rw [hp c e1 e2] at q; cases q
  · exact h a b c q
theorem z_fr_sr {t i o a b : Nat} {is1 : Bool} (h : z_fr P I I') (h1 : P t i (o + a) = true) (h2 : P t i (o + b) = true) : z_fr P I (z_sr I' t i o a b is1) := z_fr_up (z_fr_up h h1) h2
theorem z_fr_t (h : z_fr P I I') (t : Nat) (ht : ∀ i j, P t i j = false) : I' t = I t := by
  funext i j
  exact h t i j (ht i j)
/-- ten places of a row, from o on -/
def z_pt (t i o a b c : Nat) : Bool := Nat.beq a t && Nat.beq b i && Nat.ble o c && Nat.blt c (o + 10)
theorem z_pt_t {t i o j : Nat} (h1 : o ≤ j) (h2 : j < o + 10) : z_pt t i o t i j = true := by
  unfold z_pt
  rw [Nat.beq_refl, Nat.beq_refl, Nat.ble_eq_true_of_le h1, show Nat.blt j (o + 10) = true from Nat.ble_eq_true_of_le h2]; rfl
theorem z_pt_f {t i o a b c : Nat} (h : ¬ (a = t ∧ b = i ∧ o ≤ c ∧ c < o + 10)) : z_pt t i o a b c = false := by
  cases e : z_pt t i o a b c with
  | false => rfl
  | true =>
    unfold z_pt at e
    simp only [Bool.and_eq_true] at e
    obtain ⟨⟨⟨e1, e2⟩, e3⟩, e4⟩ := e
    exact absurd ⟨Nat.eq_of_beq_eq_true e1, Nat.eq_of_beq_eq_true e2, Nat.le_of_ble_eq_true e3, Nat.le_of_ble_eq_true e4⟩ h
theorem z_pt_of {t i o a b c : Nat} (e : z_pt t i o a b c = true) : a = t ∧ b = i ∧ o ≤ c ∧ c < o + 10 := by
  unfold z_pt at e
  simp only [Bool.and_eq_true] at e
  obtain ⟨⟨⟨e1, e2⟩, e3⟩, e4⟩ := e
  exact ⟨Nat.eq_of_beq_eq_true e1, Nat.eq_of_beq_eq_true e2, Nat.le_of_ble_eq_true e3, Nat.le_of_ble_eq_true e4⟩
/-- places that a call which changes net k may change: scratch, the net of both, z of both -/
def z_np (k a b c : Nat) : Bool := Nat.beq (z_cp a b c) 0 || z_pt 14 k 0 a b c || (Nat.beq a 13 && Nat.beq b k && Nat.beq c 1) || z_pt 35 0 (10 * k) a b c || (Nat.beq a 34 && Nat.beq b 0 && Nat.beq c k) || (Nat.beq a 1 && Nat.beq b 0 && Nat.beq c 6) || (Nat.beq a 33 && Nat.beq b 0 && Nat.beq c 7)
theorem z_np_cp {k a b c : Nat} (hk : k < 4) (h : z_np k a b c = true) : ([0, 1] : List Nat).contains (z_cp a b c) = true := by
  have hb : Nat.blt k 4 = true := Nat.ble_eq_true_of_le hk
  unfold z_np at h
  simp only [Bool.or_eq_true, Bool.and_eq_true] at h
  rcases h with (((((h | h) | h) | h) | h) | h) | h
  · rw [Nat.eq_of_beq_eq_true h]; rfl
  · obtain ⟨rfl, rfl, -, -⟩ := z_pt_of h
    show ([0, 1] : List Nat).contains (bif Nat.blt b 4 then 1 else _) = true
    rw [hb]; rfl
  · obtain ⟨⟨h1, h2⟩, h3⟩ := h
    obtain rfl := Nat.eq_of_beq_eq_true h1
    obtain rfl := Nat.eq_of_beq_eq_true h2
    show ([0, 1] : List Nat).contains (bif Nat.blt b 4 then 1 else _) = true
    rw [hb]; rfl
  · obtain ⟨rfl, rfl, -, -⟩ := z_pt_of h; rfl
  · obtain ⟨⟨h1, h2⟩, h3⟩ := h
    obtain rfl := Nat.eq_of_beq_eq_true h1
    rfl
  · obtain ⟨⟨h1, h2⟩, h3⟩ := h
    obtain rfl := Nat.eq_of_beq_eq_true h1
    obtain rfl := Nat.eq_of_beq_eq_true h2
    rfl
  · obtain ⟨⟨h1, h2⟩, h3⟩ := h
    obtain rfl := Nat.eq_of_beq_eq_true h1
    obtain rfl := Nat.eq_of_beq_eq_true h2
    obtain rfl := Nat.eq_of_beq_eq_true h3
    rfl
theorem z_np_f {k a b c : Nat} (h0 : z_cp a b c ≠ 0) (h1 : ¬ (a = 14 ∧ b = k ∧ c < 10)) (h2 : ¬ (a = 13 ∧ b = k ∧ c = 1)) (h3 : ¬ (a = 35 ∧ b = 0 ∧ 10 * k ≤ c ∧ c < 10 * k + 10)) (h4 : ¬ (a = 34 ∧ b = 0 ∧ c = k)) (h5 : ¬ (a = 1 ∧ b = 0 ∧ c = 6)) (h6 : ¬ (a = 33 ∧ b = 0 ∧ c = 7)) : z_np k a b c = false := by
  cases e : z_np k a b c with
  | false => rfl
  | true =>
    unfold z_np at e
    simp only [Bool.or_eq_true, Bool.and_eq_true] at e
    rcases e with (((((h | h) | h) | h) | h) | h) | h
    · exact absurd (Nat.eq_of_beq_eq_true h) h0
    · obtain ⟨q1, q2, q3, q4⟩ := z_pt_of h
      exact absurd ⟨q1, q2, by omega⟩ h1
    · exact absurd ⟨Nat.eq_of_beq_eq_true h.1.1, Nat.eq_of_beq_eq_true h.1.2, Nat.eq_of_beq_eq_true h.2⟩ h2
    · exact absurd (z_pt_of h) h3
    · exact absurd ⟨Nat.eq_of_beq_eq_true h.1.1, Nat.eq_of_beq_eq_true h.1.2, Nat.eq_of_beq_eq_true h.2⟩ h4
    · exact absurd ⟨Nat.eq_of_beq_eq_true h.1.1, Nat.eq_of_beq_eq_true h.1.2, Nat.eq_of_beq_eq_true h.2⟩ h5
    · exact absurd ⟨Nat.eq_of_beq_eq_true h.1.1, Nat.eq_of_beq_eq_true h.1.2, Nat.eq_of_beq_eq_true h.2⟩ h6
theorem z_R_net {k s : Nat} {m : Nat → Nat} (hR : z_R X I J) (hk : k < 4) (h : z_fr (z_np k) I I') (h1 : 1 ≤ s) (h2 : s ≤ 10) (hm : z_wfm s m) (e13 : I' 13 k 1 = Int32.ofNat s) (e34 : I' 34 0 k = Int32.ofNat s) (e14 : ∀ p, p < 10 → I' 14 k p = Int32.ofNat (m p)) (e35 : ∀ p, p < 10 → I' 35 0 (10 * k + p) = Int32.ofNat (m p)) (hz : I' 1 0 6 = I' 33 0 7) (j1 : J' 31 = J 31) (j2 : J' 57 = J 57) : z_R X I' J' := by
  have hw : z_ag [0, 1] I I' := fun a b c q => h a b c (by
    cases e : z_np k a b c with
    | false => rfl
    | true => rw [z_np_cp hk e] at q; cases q)
  have f : ∀ t b c, z_cp t b c ≠ 0 → t ≠ 14 → t ≠ 13 → t ≠ 35 → t ≠ 34 → t ≠ 1 → t ≠ 33 → I' t b c = I t b c := fun t b c q0 q1 q2 q3 q4 q5 q6 => h t b c (z_np_f q0 (fun q => q1 q.1) (fun q => q2 q.1) (fun q => q3 q.1) (fun q => q4 q.1) (fun q => q5 q.1) (fun q => q6 q.1))
  have f33 : ∀ c, z_cp 33 0 c ≠ 0 → c ≠ 7 → I' 33 0 c = I 33 0 c := fun c q0 q1 => h 33 0 c (z_np_f q0 (fun q => absurd q.1 (by decide)) (fun q => absurd q.1 (by decide)) (fun q => absurd q.1 (by decide)) (fun q => absurd q.1 (by decide)) (fun q => absurd q.1 (by decide)) (fun q => q1 q.2.2))
  refine z_R_01 hR hw j1 j2 ?_
  obtain ⟨⟨n1, n2, n3, n4, n5⟩, -⟩ := hR
  have g3 : I' 3 0 = I 3 0 := funext fun c => f 3 0 c (fun q => absurd q (by show (1 : Nat) ≠ 0; decide)) (by decide) (by decide) (by decide) (by decide) (by decide) (by decide)
  have g5 : I' 5 0 = I 5 0 := funext fun c => f 5 0 c (fun q => absurd q (by show (1 : Nat) ≠ 0; decide)) (by decide) (by decide) (by decide) (by decide) (by decide) (by decide)
  have g6 : I' 6 0 = I 6 0 := funext fun c => f 6 0 c (fun q => absurd q (by show (1 : Nat) ≠ 0; decide)) (by decide) (by decide) (by decide) (by decide) (by decide) (by decide)
  have g12 : I' 12 0 = I 12 0 := funext fun c => f 12 0 c (fun q => absurd q (by show (1 : Nat) ≠ 0; decide)) (by decide) (by decide) (by decide) (by decide) (by decide) (by decide)
  have g32 : I' 32 = I 32 := funext fun b => funext fun c => f 32 b c (fun q => absurd q (by show (10 : Nat) ≠ 0; decide)) (by decide) (by decide) (by decide) (by decide) (by decide) (by decide)
  have g36 : I' 36 0 = I 36 0 := funext fun c => f 36 0 c (fun q => absurd q (by show (1 : Nat) ≠ 0; decide)) (by decide) (by decide) (by decide) (by decide) (by decide) (by decide)
  have g37 : I' 37 0 = I 37 0 := funext fun c => f 37 0 c (fun q => absurd q (by show (1 : Nat) ≠ 0; decide)) (by decide) (by decide) (by decide) (by decide) (by decide) (by decide)
  have g38 : I' 38 0 = I 38 0 := funext fun c => f 38 0 c (fun q => absurd q (by show (1 : Nat) ≠ 0; decide)) (by decide) (by decide) (by decide) (by decide) (by decide) (by decide)
  have g39 : I' 39 0 = I 39 0 := funext fun c => f 39 0 c (fun q => absurd q (by show (1 : Nat) ≠ 0; decide)) (by decide) (by decide) (by decide) (by decide) (by decide) (by decide)
  have g4 : I' 4 0 2 = I 4 0 2 := f 4 0 2 (by decide) (by decide) (by decide) (by decide) (by decide) (by decide) (by decide)
  have g1 : I' 1 0 5 = I 1 0 5 := h 1 0 5 (z_np_f (by decide) (fun q => absurd q.1 (by decide)) (fun q => absurd q.1 (by decide)) (fun q => absurd q.1 (by decide)) (fun q => absurd q.1 (by decide)) (fun q => absurd q.2.2 (by decide)) (fun q => absurd q.1 (by decide)))
  refine ⟨?_, ?_, ?_, hz, ?_⟩
  · rw [z_Rn0] at n1 ⊢
    have cp13 : ∀ t u c, (t = 13 ∨ t = 14) → u < 4 → z_cp t u c ≠ 0 := fun t u c ht hu => by
      rcases ht with rfl | rfl
      · show (bif Nat.blt u 4 then 1 else _) ≠ 0
        rw [show Nat.blt u 4 = true from Nat.ble_eq_true_of_le hu]; exact (by decide : (1 : Nat) ≠ 0)
      · show (bif Nat.blt u 4 then 1 else _) ≠ 0
        rw [show Nat.blt u 4 = true from Nat.ble_eq_true_of_le hu]; exact (by decide : (1 : Nat) ≠ 0)
    refine z_Rn_up n1 (n := k) (s := s) (m := m) h1 h2 hm e13 e34 (fun p hp => ⟨e14 p hp, e35 p hp⟩) (fun u hu hne => ⟨?_, ?_, fun p hp => ⟨?_, ?_⟩⟩)
    · exact h 13 u 1 (z_np_f (cp13 13 u 1 (Or.inl rfl) hu) (fun q => absurd q.1 (by decide)) (fun q => hne q.2.1) (fun q => absurd q.1 (by decide)) (fun q => absurd q.1 (by decide)) (fun q => absurd q.1 (by decide)) (fun q => absurd q.1 (by decide)))
    · exact h 34 0 u (z_np_f (by show (1 : Nat) ≠ 0; decide) (fun q => absurd q.1 (by decide)) (fun q => absurd q.1 (by decide)) (fun q => absurd q.1 (by decide)) (fun q => hne q.2.2) (fun q => absurd q.1 (by decide)) (fun q => absurd q.1 (by decide)))
    · exact h 14 u p (z_np_f (cp13 14 u p (Or.inr rfl) hu) (fun q => hne q.2.1) (fun q => absurd q.1 (by decide)) (fun q => absurd q.1 (by decide)) (fun q => absurd q.1 (by decide)) (fun q => absurd q.1 (by decide)) (fun q => absurd q.1 (by decide)))
    · exact h 35 0 (10 * u + p) (z_np_f (by show (1 : Nat) ≠ 0; decide) (fun q => absurd q.1 (by decide)) (fun q => absurd q.1 (by decide)) (fun q => absurd q.2.2 (by omega)) (fun q => absurd q.1 (by decide)) (fun q => absurd q.1 (by decide)) (fun q => absurd q.1 (by decide)))
  · rw [g3, g36, f33 2 (by decide) (by decide)]; exact n2
  · rw [g4, g5, g6, g37, g38, f33 4 (by decide) (by decide)]; exact n3
  · rw [g32, g1, g12, g39, f33 8 (by decide) (by decide)]; exact n5
end
/-- a row of ten holds masks -/
def z_hm (f : Nat → Nat → Nat → Int32) (t i o : Nat) (m : Nat → Nat) : Prop := ∀ p, p < 10 → f t i (o + p) = Int32.ofNat (m p)
theorem z_hm_sr {f : Nat → Nat → Nat → Int32} {t i o a b s : Nat} {m : Nat → Nat} (h : z_hm f t i o m) (hs : s ≤ 10) (hm : z_wfm s m) (ha : a < s) (hb : b < s) (hab : a ≠ b) (is1 : Bool) : z_hm (z_sr f t i o a b is1) t i o (z_ms m a b is1) := fun p hp => z_sr_at hm.1 h (by omega) (by omega) hab is1 hp
theorem z_ms_comm {m : Nat → Nat} {a b : Nat} (hab : a ≠ b) (is1 : Bool) : z_ms m a b is1 = z_ms m b a is1 := by
  funext p
  unfold z_ms
  by_cases h1 : p = a
  · rw [if_pos h1, if_neg (by omega), if_pos h1]
  · rw [if_neg h1]
    by_cases h2 : p = b
    · rw [if_pos h2, if_pos h2]
    · rw [if_neg h2, if_neg h2, if_neg h1]
/-- the roads to lesser posts, k of them -/
def z_mls (m : Nat → Nat) (p : Nat) (g : Nat → Bool) : Nat → Nat → Nat
  | 0 => m
  | k + 1 => z_ms (z_mls m p g k) k p (g k)
theorem z_mls_wf {s p : Nat} {m : Nat → Nat} {g : Nat → Bool} (hs : s ≤ 10) (hm : z_wfm s m) (hp : p < s) : ∀ k, k ≤ p → z_wfm s (z_mls m p g k)
  | 0, _ => hm
  | k + 1, hk => z_wfm_ms hs (z_mls_wf hs hm hp k (by omega)) (by omega) hp (by omega) _
/-! bits -/
theorem z_lc0 {x y : Int64} : lg_cmp x y = 0 ↔ x = y := by
  unfold lg_cmp
  by_cases h : x > y
  · rw [if_pos h]
    constructor
    · intro q; exact absurd q (by decide)
    · intro q; rw [q] at h; exact absurd h (Int64.lt_irrefl)
  · rw [if_neg h]
    by_cases h2 : x = y
    · rw [if_pos h2]; exact ⟨fun _ => h2, fun _ => rfl⟩
    · rw [if_neg h2]
      constructor
      · intro q; exact absurd q (by decide)
      · intro q; exact absurd q h2
theorem z_bt_lsb {x : Int32} : ∀ b, b < 10 → z_bt x b = x.toBitVec.getLsbD b := by
  intro b hb
  have key : ∀ b, b < 10 → (x >>> (Int32.ofNat b &&& 31)).toBitVec = x.toBitVec.sshiftRight b := by
    intro b hb
    rcases (by omega : b = 0 ∨ b = 1 ∨ b = 2 ∨ b = 3 ∨ b = 4 ∨ b = 5 ∨ b = 6 ∨ b = 7 ∨ b = 8 ∨ b = 9) with rfl | rfl | rfl | rfl | rfl | rfl | rfl | rfl | rfl | rfl <;> rfl
  have e1 : ((x >>> (Int32.ofNat b &&& 31)) &&& 1).toBitVec = x.toBitVec.sshiftRight b &&& 1#32 := by
    rw [Int32.toBitVec_and, key b hb]; rfl
  have e2 : x.toBitVec.getLsbD b = (x.toBitVec.sshiftRight b).getLsbD 0 := by
    rw [BitVec.getLsbD_sshiftRight]; simp; omega
  rw [e2]
  have h : ∀ v : BitVec 32, v &&& 1#32 = if v.getLsbD 0 then 1#32 else 0#32 := by
    intro v
    apply BitVec.eq_of_toNat_eq
    rw [BitVec.toNat_and, BitVec.getLsbD, Nat.testBit_zero]
    rcases Nat.mod_two_eq_zero_or_one v.toNat with e | e <;> simp [e]
  rw [h] at e1
  cases hh : (x.toBitVec.sshiftRight b).getLsbD 0 with
  | true =>
    rw [hh] at e1
    have : (x >>> (Int32.ofNat b &&& 31)) &&& 1 = 1 := Int32.toBitVec.inj e1
    unfold z_bt
    rw [this]; rfl
  | false =>
    rw [hh] at e1
    have : (x >>> (Int32.ofNat b &&& 31)) &&& 1 = 0 := Int32.toBitVec.inj e1
    unfold z_bt
    rw [this]; rfl
theorem z_bt_64 {x : Int32} : ∀ b, b < 10 → ((x.toInt64 >>> ((Int32.ofNat b).toInt64 &&& 63)) &&& 1 = 1 ↔ z_bt x b = true) := by
  intro b hb
  have key : ∀ b, b < 10 → (x.toInt64 >>> ((Int32.ofNat b).toInt64 &&& 63)).toBitVec = (x.toBitVec.signExtend 64).sshiftRight b := by
    intro b hb
    rcases (by omega : b = 0 ∨ b = 1 ∨ b = 2 ∨ b = 3 ∨ b = 4 ∨ b = 5 ∨ b = 6 ∨ b = 7 ∨ b = 8 ∨ b = 9) with rfl | rfl | rfl | rfl | rfl | rfl | rfl | rfl | rfl | rfl <;> rfl
  have e1 : ((x.toInt64 >>> ((Int32.ofNat b).toInt64 &&& 63)) &&& 1).toBitVec = (x.toBitVec.signExtend 64).sshiftRight b &&& 1#64 := by
    rw [Int64.toBitVec_and, key b hb]; rfl
  have e2 : x.toBitVec.getLsbD b = ((x.toBitVec.signExtend 64).sshiftRight b).getLsbD 0 := by
    rw [BitVec.getLsbD_sshiftRight, Nat.add_zero, if_pos (by omega), BitVec.getLsbD_signExtend, if_pos (by omega), decide_eq_true (show b < 64 by omega)]; rfl
  rw [z_bt_lsb b hb, e2]
  have h : ∀ v : BitVec 64, v &&& 1#64 = if v.getLsbD 0 then 1#64 else 0#64 := by
    intro v
    apply BitVec.eq_of_toNat_eq
    rw [BitVec.toNat_and, BitVec.getLsbD, Nat.testBit_zero]
    rcases Nat.mod_two_eq_zero_or_one v.toNat with e | e <;> simp [e]
  rw [h] at e1
  cases hh : ((x.toBitVec.signExtend 64).sshiftRight b).getLsbD 0 with
  | true =>
    rw [hh] at e1
    have e3 : (x.toInt64 >>> ((Int32.ofNat b).toInt64 &&& 63)) &&& 1 = 1 := Int64.toBitVec.inj e1
    exact ⟨fun _ => rfl, fun _ => e3⟩
  | false =>
    rw [hh] at e1
    have e3 : (x.toInt64 >>> ((Int32.ofNat b).toInt64 &&& 63)) &&& 1 = 0 := Int64.toBitVec.inj e1
    rw [e3]
    exact ⟨fun q => absurd q (by decide), fun q => by cases q⟩
