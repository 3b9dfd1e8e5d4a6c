/-! small numbers; rows that are written; leaves by leaves -/
theorem z_olt {a b : Nat} (ha : a ≤ 1000000) (hb : b ≤ 1000000) : Int32.ofNat a < Int32.ofNat b ↔ a < b := Int32.ofNat_lt_iff_lt (by omega) (by omega)
theorem z_ole {a b : Nat} (ha : a ≤ 1000000) (hb : b ≤ 1000000) : Int32.ofNat a ≤ Int32.ofNat b ↔ a ≤ b := Int32.ofNat_le_iff_le (by omega) (by omega)
theorem z_oeq {a b : Nat} (ha : a ≤ 1000000) (hb : b ≤ 1000000) : Int32.ofNat a = Int32.ofNat b ↔ a = b := by
  constructor
  · intro h
    have h1 := congrArg Int32.toNatClampNeg h
    rw [Int32.toNatClampNeg_ofNat_of_lt (by omega), Int32.toNatClampNeg_ofNat_of_lt (by omega)] at h1
    exact h1
  · intro h; rw [h]
theorem z_os (k : Nat) : Int32.ofNat k + (1 : Int32) = Int32.ofNat (k + 1) := (Int32.ofNat_add k 1).symm
theorem z_oa (a b : Nat) : Int32.ofNat a + Int32.ofNat b = Int32.ofNat (a + b) := (Int32.ofNat_add a b).symm
theorem z_o10 (a b : Nat) : (10 : Int32) * Int32.ofNat a + Int32.ofNat b = Int32.ofNat (10 * a + b) := by
  rw [Int32.ofNat_add, Int32.ofNat_mul]; rfl
theorem z_nat {x : Int32} {n : Nat} (h0 : 0 ≤ x) (h1 : x < Int32.ofNat n) (hn : n ≤ 1000000) : ∃ k, k < n ∧ x = Int32.ofNat k := by
  refine ⟨x.toNatClampNeg, ?_, (Int32.ofNat_toNatClampNeg x h0).symm⟩
  rw [← Int32.ofNat_toNatClampNeg x h0] at h1
  exact (Int32.ofNat_lt_iff_lt (Int32.toNatClampNeg_lt x) (by omega)).mp h1
theorem z_nat' {x : Int32} {n : Nat} (h0 : 0 ≤ x) (h1 : x ≤ Int32.ofNat n) (hn : n ≤ 1000000) : ∃ k, k ≤ n ∧ x = Int32.ofNat k := by
  refine ⟨x.toNatClampNeg, ?_, (Int32.ofNat_toNatClampNeg x h0).symm⟩
  rw [← Int32.ofNat_toNatClampNeg x h0] at h1
  exact (Int32.ofNat_le_iff_le (Int32.toNatClampNeg_lt x) (by omega)).mp h1
theorem z_bw3 {x : Int32} (h : z_bw x 0 3 = true) : ∃ k, k < 4 ∧ x = Int32.ofNat k := by
  obtain ⟨h0, h1⟩ := z_bw_t.mp h
  obtain ⟨k, hk, e⟩ := z_nat' (n := 3) h0 h1 (by decide)
  exact ⟨k, by omega, e⟩
theorem z_lt0n {x n : Int32} (h : z_lt0 x n = true) {m : Nat} (hn : n = Int32.ofNat m) (hm : m ≤ 1000000) : ∃ k, k < m ∧ x = Int32.ofNat k := by
  obtain ⟨h0, h1⟩ := z_lt0_t.mp h
  rw [hn] at h1
  exact z_nat h0 h1 hm
/-- n places of a row from o on are written -/
def z_wo {α : Type} (f : Nat → Nat → Nat → α) (t i o n : Nat) (g : Nat → α) : Nat → Nat → Nat → α := fun a b c => if a = t ∧ b = i ∧ o ≤ c ∧ c < o + n then g (c - o) else f a b c
theorem z_wo_0 {α : Type} (f : Nat → Nat → Nat → α) (t i o : Nat) (g : Nat → α) : z_wo f t i o 0 g = f := by
  funext a b c
  unfold z_wo
  rw [if_neg]
  omega
theorem z_wo_s {α : Type} (f : Nat → Nat → Nat → α) (t i o k : Nat) (g : Nat → α) : z_up (z_wo f t i o k g) t i (o + k) (g k) = z_wo f t i o (k + 1) g := by
  funext a b c
  unfold z_up z_wo
  by_cases h : a = t ∧ b = i ∧ c = o + k
  · rw [if_pos h, if_pos (by omega)]
    obtain ⟨-, -, rfl⟩ := h
    rw [Nat.add_sub_cancel_left]
  · rw [if_neg h]
    by_cases h2 : a = t ∧ b = i ∧ o ≤ c ∧ c < o + k
    · rw [if_pos h2, if_pos (by omega)]
    · rw [if_neg h2, if_neg (by omega)]
theorem z_wo_s0 {α : Type} (f : Nat → Nat → Nat → α) (t i k : Nat) (g : Nat → α) : z_up (z_wo f t i 0 k g) t i k (g k) = z_wo f t i 0 (k + 1) g := by
  have h := z_wo_s f t i 0 k g
  rw [Nat.zero_add] at h
  exact h
theorem z_up_t {α : Type} {f : Nat → Nat → Nat → α} {t i j a : Nat} {v : α} (h : a ≠ t) : z_up f t i j v a = f a := by
  funext b c
  unfold z_up
  rw [if_neg (fun q => h q.1)]
theorem z_up_i {α : Type} {f : Nat → Nat → Nat → α} {t i j a b : Nat} {v : α} (h : b ≠ i) : z_up f t i j v a b = f a b := by
  funext c
  unfold z_up
  rw [if_neg (fun q => h q.2.1)]
theorem z_up_j {α : Type} {f : Nat → Nat → Nat → α} {t i j a b c : Nat} {v : α} (h : c ≠ j) : z_up f t i j v a b c = f a b c := by
  unfold z_up
  rw [if_neg (fun q => h q.2.2)]
theorem z_up_e {α : Type} {f : Nat → Nat → Nat → α} {t i j : Nat} {v : α} : z_up f t i j v t i j = v := by
  unfold z_up
  rw [if_pos ⟨rfl, rfl, rfl⟩]
theorem z_wo_t {α : Type} {f : Nat → Nat → Nat → α} {t i o n a : Nat} {g : Nat → α} (h : a ≠ t) : z_wo f t i o n g a = f a := by
  funext b c
  unfold z_wo
  rw [if_neg (fun q => h q.1)]
theorem z_wo_i {α : Type} {f : Nat → Nat → Nat → α} {t i o n a b : Nat} {g : Nat → α} (h : b ≠ i) : z_wo f t i o n g a b = f a b := by
  funext c
  unfold z_wo
  rw [if_neg (fun q => h q.2.1)]
theorem z_wo_j {α : Type} {f : Nat → Nat → Nat → α} {t i o n a b c : Nat} {g : Nat → α} (h : ¬ (o ≤ c ∧ c < o + n)) : z_wo f t i o n g a b c = f a b c := by
  unfold z_wo
  rw [if_neg (fun q => h q.2.2)]
theorem z_wo_e {α : Type} {f : Nat → Nat → Nat → α} {t i o n k : Nat} {g : Nat → α} (h : k < n) : z_wo f t i o n g t i (o + k) = g k := by
  unfold z_wo
  rw [if_pos ⟨rfl, rfl, by omega, by omega⟩, Nat.add_sub_cancel_left]
theorem z_wo_e0 {α : Type} {f : Nat → Nat → Nat → α} {t i n k : Nat} {g : Nat → α} (h : k < n) : z_wo f t i 0 n g t i k = g k := by
  have h1 := z_wo_e (f := f) (t := t) (i := i) (o := 0) (g := g) h
  rw [Nat.zero_add] at h1
  exact h1
def z_bo (a b : Int32) : Int32 := if a < b then z_pr b + a else z_pr a + b
def z_isc (m c : Int32) : Bool := z_bw m 1 4 && z_bw c 0 (((1 : Int32) <<< ((z_pr m) &&& 31)) - 1)
section
variable {d : Nat} {X : z_X} {I : Nat → Nat → Nat → Int32} {J : Nat → Nat → Nat → Int64}
theorem z_p162 (x : Int32) : z_ev (d + 1) (z_en 162 [z_i x] (true, X, I, J)) (some (z_i (z_c (z_bw x 0 3))), (true, X, I, J)) := z_q162_e x rfl
theorem z_p163 (x : Int32) : z_ev (d + 1) (z_en 163 [z_i x] (true, X, I, J)) (some (z_i (z_c (z_bw x 0 1))), (true, X, I, J)) := z_q163_e x rfl
theorem z_p249 (x : Int32) : z_ev (d + 1) (z_en 249 [z_i x] (true, X, I, J)) (some (z_i (z_c (z_bw x 0 3))), (true, X, I, J)) := z_q249_e x rfl
theorem z_p174 (x : Int32) : z_ev (d + 1) (z_en 174 [z_i x] (true, X, I, J)) (some (z_i (z_c (z_bw x 97 122))), (true, X, I, J)) := z_q174_e x rfl
theorem z_p175 (x : Int32) : z_ev (d + 1) (z_en 175 [z_i x] (true, X, I, J)) (some (z_i (z_c (z_bw x 48 57))), (true, X, I, J)) := z_q175_e x rfl
theorem z_p228 (x : Int32) : z_ev (d + 1) (z_en 228 [z_r 33 0, z_i x] (true, X, I, J)) (some (z_i (z_c (z_bw x 0 (I 33 0 8 - 1)))), (true, X, I, J)) := z_q228_e x rfl
theorem z_p160 (a b : Int32) : z_ev (d + 1) (z_en 160 [z_i a, z_i b] (true, X, I, J)) (some (z_i (z_bo a b)), (true, X, I, J)) := by
  refine z_q160_e a b ⟨fun h => ?_, fun h => ?_⟩
  · unfold z_bo; rw [if_neg (Int32.not_lt.mpr h)]
  · unfold z_bo; rw [if_pos h]
theorem z_p165 (m c : Int32) : z_ev (d + 1) (z_en 165 [z_i m, z_i c] (true, X, I, J)) (some (z_i (z_c (z_isc m c))), (true, X, I, J)) := by
  refine z_q165_e m c ⟨fun h => z_b0 ?_, fun h => ⟨fun h2 => z_b0 ?_, fun h2 => z_b1 ?_⟩⟩
  · unfold z_isc; rw [h]; rfl
  · unfold z_isc; rw [h, h2]; rfl
  · unfold z_isc; rw [h, h2]; rfl
end
