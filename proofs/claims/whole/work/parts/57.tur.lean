/-! calls of both: turn -/
def z_tc1 (s p : Nat) (x : Int32) : Int32 := x ^^^ ((((1 : Int32) <<< (Int32.ofNat s &&& 31)) - 1) &&& (((1 : Int32) <<< (Int32.ofNat p &&& 31)) ^^^ -1))
def z_tm1 (s p : Nat) (x : Int32) : Int32 := ((x ^^^ -1) &&& (((1 : Int32) <<< (Int32.ofNat s &&& 31)) - 1)) &&& (((1 : Int32) <<< (Int32.ofNat p &&& 31)) ^^^ -1)
def z_tn (s p m : Nat) : Nat := m ^^^ (2 ^ s - 1 - 2 ^ p)
theorem z_tn_nat : ∀ s, s < 11 → ∀ p, p < s → ∀ m, m < 2 ^ s → m.testBit p = false → z_tc1 s p (Int32.ofNat m) = Int32.ofNat (z_tn s p m) ∧ z_tm1 s p (Int32.ofNat m) = Int32.ofNat (z_tn s p m) ∧ z_tn s p m < 1024 := by decide +kernel
theorem z_tn_bit : ∀ s, s < 11 → ∀ p, p < s → ∀ b, b < 10 → (2 ^ s - 1 - 2 ^ p).testBit b = decide (b < s ∧ b ≠ p) := by decide +kernel
theorem z_tn_big : ∀ s, s < 11 → ∀ p, p < s → 2 ^ s - 1 - 2 ^ p < 1024 := by decide +kernel
theorem z_tn_tb {s p m b : Nat} (hs : s ≤ 10) (hp : p < s) : (z_tn s p m).testBit b = (m.testBit b ^^ decide (b < s ∧ b ≠ p)) := by
  unfold z_tn
  rw [Nat.testBit_xor]
  by_cases hb : b < 10
  · rw [z_tn_bit s (by omega) p hp b hb]
  · rw [z_tb_lt (z_tn_big s (by omega) p hp) (by omega), decide_eq_false (by omega)]
theorem z_wfm_lt {s p : Nat} {m : Nat → Nat} (h : z_wfm s m) (hp : p < 10) : m p < 2 ^ s ∧ (m p).testBit p = false := by
  refine ⟨Nat.lt_pow_two_of_testBit _ (fun b hb => ?_), ?_⟩
  · cases e : (m p).testBit b with
    | false => rfl
    | true => exact absurd (h.2 p b hp e).2.1 (by omega)
  · cases e : (m p).testBit p with
    | false => rfl
    | true => exact absurd rfl (h.2 p p hp e).2.2.1
def z_mt (s : Nat) (m : Nat → Nat) : Nat → Nat := fun p => if p < s then z_tn s p (m p) else m p
theorem z_wfm_mt {s : Nat} {m : Nat → Nat} (hs : s ≤ 10) (h : z_wfm s m) : z_wfm s (z_mt s m) := by
  refine ⟨fun p hp => ?_, fun p b hp hb => ?_⟩
  · unfold z_mt
    split
    · next q =>
      obtain ⟨h1, h2⟩ := z_wfm_lt h hp
      exact (z_tn_nat s (by omega) p q _ h1 h2).2.2
    · exact h.1 p hp
  · unfold z_mt at hb ⊢
    by_cases hps : p < s
    · rw [if_pos hps, z_tn_tb hs hps] at hb
      by_cases hbs : b < s ∧ b ≠ p
      · rw [decide_eq_true hbs] at hb
        refine ⟨hps, hbs.1, fun q => hbs.2 q.symm, ?_⟩
        rw [if_pos hbs.1, z_tn_tb hs hbs.1, decide_eq_true ⟨hps, fun q => hbs.2 q.symm⟩]
        cases e1 : (m b).testBit p with
        | false => rfl
        | true =>
          rw [(h.2 b p (by omega) e1).2.2.2] at hb
          cases hb
      · rw [decide_eq_false hbs, Bool.xor_false] at hb
        have q := h.2 p b hp hb
        exact absurd ⟨q.2.1, fun e => q.2.2.1 e.symm⟩ hbs
    · rw [if_neg hps] at hb
      exact absurd (h.2 p b hp hb).1 hps
section
variable {d : Nat} {X : z_X} {I : Nat → Nat → Nat → Int32} {J : Nat → Nat → Nat → Int64}
theorem z_p25 {q s : Nat} (hq : q < 10) (hs : s ≤ 10) (e : I 13 q 1 = Int32.ofNat s) : z_ev d (z_en 25 [z_r 13 q] (true, X, I, J)) (none, (true, X, z_wo I 14 q 0 s (fun p => z_tc1 s p (I 14 q p)), J)) := by
  refine z_q25_e q hq ?_
  rw [e]
  have key : ∀ j k, k + j = s → z_ev d (25, 11, [some (z_r 13 q), some (z_i (((1 : Int32) <<< (Int32.ofNat s &&& 31)) - 1)), some (z_i (Int32.ofNat k))], [], (true, X, z_wo I 14 q 0 k (fun p => z_tc1 s p (I 14 q p)), J)) (none, (true, X, z_wo I 14 q 0 s (fun p => z_tc1 s p (I 14 q p)), J)) := by
    intro j
    induction j with
    | zero =>
      intro k hk
      obtain rfl : k = s := by omega
      refine z_q25_11 q hq _ _ ⟨fun _ => rfl, fun h => ?_⟩
      rw [show z_wo I 14 q 0 k (fun p => z_tc1 k p (I 14 q p)) 13 q 1 = _ from e] at h
      exact absurd ((z_olt (by omega) (by omega)).mp h) (by omega)
    | succ j ih =>
      intro k hk
      refine z_q25_11 q hq _ _ ⟨fun h => ?_, fun h => ⟨k, rfl, by omega, ?_⟩⟩
      · rw [show z_wo I 14 q 0 k (fun p => z_tc1 s p (I 14 q p)) 13 q 1 = _ from e] at h
        exact absurd ((z_ole (by omega) (by omega)).mp h) (by omega)
      · rw [z_os, z_wo_j (c := k) (by omega)]
        have h9 := z_wo_s0 I 14 q k (fun p => z_tc1 s p (I 14 q p))
        have h8 := ih (k + 1) (by omega)
        rw [← h9] at h8
        exact h8
  have h0 := key s 0 (by omega)
  rw [z_wo_0] at h0
  exact h0
theorem z_l188 {n s : Nat} (hn : n < 4) (hs : s ≤ 10) (e : I 34 0 n = Int32.ofNat s) {r : Option z_V × z_M} (hk : z_ev (d + 1) (z_en 171 [z_r 33 0, z_i (Int32.ofNat n)] (true, X, z_wo I 35 0 (10 * n) s (fun p => z_tm1 s p (I 35 0 (10 * n + p))), J)) r) (hr : ∃ v, r = (some (z_i v), (true, X, z_wo I 35 0 (10 * n) s (fun p => z_tm1 s p (I 35 0 (10 * n + p))), J))) :
    z_ev (d + 2) (188, 11, [some (z_r 33 0), some (z_i (Int32.ofNat n)), some (z_i 0)], [], (true, X, I, J)) r := by
  obtain ⟨v, rfl⟩ := hr
  have key : ∀ j k, k + j = s → z_ev (d + 2) (188, 11, [some (z_r 33 0), some (z_i (Int32.ofNat n)), some (z_i (Int32.ofNat k))], [], (true, X, z_wo I 35 0 (10 * n) k (fun p => z_tm1 s p (I 35 0 (10 * n + p))), J)) (some (z_i v), (true, X, z_wo I 35 0 (10 * n) s (fun p => z_tm1 s p (I 35 0 (10 * n + p))), J)) := by
    intro j
    induction j with
    | zero =>
      intro k hk9
      obtain rfl : k = s := by omega
      refine z_q188_11 _ _ ⟨n, rfl, hn, fun _ => ⟨_, _, _, _, hk, rfl⟩, fun h => ?_⟩
      rw [show z_wo I 35 0 (10 * n) k (fun p => z_tm1 k p (I 35 0 (10 * n + p))) 34 0 n = _ from e] at h
      exact absurd ((z_olt (by omega) (by omega)).mp h) (by omega)
    | succ j ih =>
      intro k hk9
      refine z_q188_11 _ _ ⟨n, rfl, hn, fun h => ?_, fun h => ⟨10 * n + k, z_o10 n k, by omega, ?_⟩⟩
      · rw [show z_wo I 35 0 (10 * n) k (fun p => z_tm1 s p (I 35 0 (10 * n + p))) 34 0 n = _ from e] at h
        exact absurd ((z_ole (by omega) (by omega)).mp h) (by omega)
      · rw [z_os, z_wo_j (c := 10 * n + k) (by omega), show z_wo I 35 0 (10 * n) k (fun p => z_tm1 s p (I 35 0 (10 * n + p))) 34 0 n = _ from e]
        have h9 := z_wo_s I 35 0 (10 * n) k (fun p => z_tm1 s p (I 35 0 (10 * n + p)))
        have h8 := ih (k + 1) (by omega)
        rw [← h9] at h8
        exact h8
  have h0 := key s 0 (by omega)
  rw [z_wo_0] at h0
  exact h0
end
