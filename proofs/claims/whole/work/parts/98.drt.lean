/-! calls of both: draw -/
theorem z_lo_nat (z : Int32) : z_lo z = Int32.ofNat ((z_lo z).toNatClampNeg) ∧ (z_lo z).toNatClampNeg < 65536 := by
  have e : (z_lo z).toBitVec = (z_nz z).toUInt32.toBitVec >>> 16 := rfl
  have e2 : (z_lo z).toBitVec.toNat < 65536 := by
    rw [e, BitVec.toNat_ushiftRight, Nat.shiftRight_eq_div_pow]
    have := (z_nz z).toUInt32.toBitVec.isLt
    exact Nat.div_lt_of_lt_mul (by omega)
  have e3 : z_lo z = Int32.ofNat (z_lo z).toBitVec.toNat := by
    apply Int32.toBitVec.inj
    show _ = BitVec.ofNat 32 _
    rw [BitVec.ofNat_toNat]; simp
  have e4 : (z_lo z).toNatClampNeg = (z_lo z).toBitVec.toNat := by
    rw [e3, Int32.toNatClampNeg_ofNat_of_lt (by omega), ← e3]
  rw [e4]
  exact ⟨e3, e2⟩
/-- the r-th post from b on that is not in the set -/
def z_fp (S : Nat) : Nat → Nat → Nat → Nat
  | 0, b, _ => b
  | n + 1, b, r => if S.testBit b then z_fp S n (b + 1) r else (if r = 0 then b else z_fp S n (b + 1) (r - 1))
def z_uns (S : Nat) : Nat → Nat → Nat
  | 0, _ => 0
  | n + 1, b => (if S.testBit b then 0 else 1) + z_uns S n (b + 1)
theorem z_fp_ok (S : Nat) : ∀ n b r, r < z_uns S n b → b ≤ z_fp S n b r ∧ z_fp S n b r < b + n ∧ S.testBit (z_fp S n b r) = false
  | 0, _, _, h => absurd h (Nat.not_lt_zero _)
  | n + 1, b, r, h => by
    have h : r < (if S.testBit b then 0 else 1) + z_uns S n (b + 1) := h
    show b ≤ (if S.testBit b then z_fp S n (b + 1) r else (if r = 0 then b else z_fp S n (b + 1) (r - 1))) ∧ _
    have e0 : z_fp S (n + 1) b r = (if S.testBit b then z_fp S n (b + 1) r else (if r = 0 then b else z_fp S n (b + 1) (r - 1))) := rfl
    rw [e0]
    cases e : S.testBit b with
    | true =>
      rw [e, if_pos rfl] at h
      rw [if_pos rfl]
      obtain ⟨h1, h2, h3⟩ := z_fp_ok S n (b + 1) r (by omega)
      exact ⟨by omega, by omega, h3⟩
    | false =>
      rw [e, if_neg (by decide)] at h
      rw [if_neg (by decide)]
      by_cases hr : r = 0
      · rw [if_pos hr]
        exact ⟨Nat.le_refl _, by omega, e⟩
      · rw [if_neg hr]
        obtain ⟨h1, h2, h3⟩ := z_fp_ok S n (b + 1) (r - 1) (by omega)
        exact ⟨by omega, by omega, h3⟩
theorem z_uns_tab : ∀ s, s < 11 → ∀ S, S < 2 ^ s → z_uns S s 0 + z_pc S = s := by decide +kernel
theorem z_pc_or : ∀ S, S < 1024 → ∀ p, p < 10 → S.testBit p = false → z_pc (S ||| 2 ^ p) = z_pc S + 1 := by decide +kernel
theorem z_or1k : ∀ a, a < 1024 → ∀ b, b < 10 → Int32.ofNat a ||| ((1 : Int32) <<< (Int32.ofNat b &&& 31)) = Int32.ofNat (a ||| 2 ^ b) := by decide +kernel
