/-! nets: roads set, asked and counted -/
/-- a bit set or cleared -/
def z_bs (x : Int32) (b : Nat) (is1 : Bool) : Int32 := bif is1 then x ||| ((1 : Int32) <<< (Int32.ofNat b &&& 31)) else x &&& (((1 : Int32) <<< (Int32.ofNat b &&& 31)) ^^^ -1)
def z_bt (x : Int32) (b : Nat) : Bool := decide (¬ (x >>> (Int32.ofNat b &&& 31)) &&& 1 = 0)
def z_sr (f : Nat → Nat → Nat → Int32) (t i o a b : Nat) (is1 : Bool) : Nat → Nat → Nat → Int32 := z_up (z_up f t i (o + a) (z_bs (f t i (o + a)) b is1)) t i (o + b) (z_bs (z_up f t i (o + a) (z_bs (f t i (o + a)) b is1) t i (o + b)) a is1)
def z_sm (f : Nat → Int32) : Nat → Int32
  | 0 => 0
  | n + 1 => z_sm f n + z_bc (f n)
section
variable {d : Nat} {X : z_X} {I : Nat → Nat → Nat → Int32} {J : Nat → Nat → Nat → Int64}
theorem z_p23 {q a b : Nat} (hq : q < 10) (ha : a < 10) (hb : b < 10) (is1 : Bool) : z_ev d (z_en 23 [z_r 13 q, z_i (Int32.ofNat a), z_i (Int32.ofNat b), z_i (z_c is1)] (true, X, I, J)) (none, (true, X, z_sr I 14 q 0 a b is1, J)) := by
  refine z_q23_e q hq _ _ is1 ⟨fun h => ⟨a, rfl, ha, b, rfl, hb, ?_⟩, fun h => ⟨a, rfl, ha, b, rfl, hb, ?_⟩⟩
  · subst h; unfold z_sr; rw [Nat.zero_add, Nat.zero_add]; rfl
  · subst h; unfold z_sr; rw [Nat.zero_add, Nat.zero_add]; rfl
theorem z_p22 {q a b : Nat} (hq : q < 10) (ha : a < 10) : z_ev d (z_en 22 [z_r 13 q, z_i (Int32.ofNat a), z_i (Int32.ofNat b)] (true, X, I, J)) (some (z_i (z_c (z_bt (I 14 q a) b))), (true, X, I, J)) := by
  refine z_q22_e q hq _ _ ⟨a, rfl, ha, fun h => z_b0 ?_, fun h => z_b1 ?_⟩
  · unfold z_bt; rw [decide_eq_false_iff_not]; exact fun q => q h
  · unfold z_bt; rw [decide_eq_true_iff]; exact h
theorem z_p168 {n a b : Nat} (hn : n < 4) (ha : a < 10) (hb : b < 10) (is1 : Bool) : z_ev d (z_en 168 [z_r 33 0, z_i (Int32.ofNat n), z_i (Int32.ofNat a), z_i (Int32.ofNat b), z_i (z_c is1)] (true, X, I, J)) (none, (true, X, z_sr I 35 0 (10 * n) a b is1, J)) := by
  refine z_q168_e _ _ _ is1 ⟨fun h => ⟨10 * n + a, z_o10 n a, by omega, 10 * n + b, z_o10 n b, by omega, ?_⟩, fun h => ⟨10 * n + a, z_o10 n a, by omega, 10 * n + b, z_o10 n b, by omega, ?_⟩⟩
  · subst h; rfl
  · subst h; rfl
theorem z_bt1 {x : Int32} {b : Nat} : z_bt x b = decide ((x >>> (Int32.ofNat b &&& 31)) &&& 1 = 1) := by
  unfold z_bt
  have h : ∀ v : BitVec 32, v &&& 1#32 = 0#32 ∨ v &&& 1#32 = 1#32 := by
    intro v
    rcases Nat.mod_two_eq_zero_or_one v.toNat with e | e
    · left; apply BitVec.eq_of_toNat_eq; simp [e]
    · right; apply BitVec.eq_of_toNat_eq; simp [e]
  have h2 : ∀ v : Int32, v &&& 1 = 0 ∨ v &&& 1 = 1 := by
    intro v
    rcases h v.toBitVec with e | e
    · left; exact Int32.toBitVec.inj e
    · right; exact Int32.toBitVec.inj e
  rcases h2 (x >>> (Int32.ofNat b &&& 31)) with e | e <;> rw [e] <;> decide
theorem z_p167 {n a b : Nat} (hn : n < 4) (ha : a < 10) : z_ev d (z_en 167 [z_r 33 0, z_i (Int32.ofNat n), z_i (Int32.ofNat a), z_i (Int32.ofNat b)] (true, X, I, J)) (some (z_i (z_c (z_bt (I 35 0 (10 * n + a)) b))), (true, X, I, J)) := by
  refine z_q167_e _ _ _ ⟨10 * n + a, z_o10 n a, by omega, fun h => z_b0 ?_, fun h => z_b1 ?_⟩
  · rw [z_bt1, decide_eq_false_iff_not]; exact h
  · rw [z_bt1, decide_eq_true_iff]; exact h
theorem z_p164 {n : Nat} (hn : n < 4) (x : Int32) : z_ev (d + 1) (z_en 164 [z_r 33 0, z_i (Int32.ofNat n), z_i x] (true, X, I, J)) (some (z_i (z_c (z_bw x 0 (I 34 0 n - 1)))), (true, X, I, J)) := z_q164_e _ x ⟨n, rfl, hn, rfl⟩
theorem z_p119 (y x : Int32) : z_ev (d + 1) (z_en 119 [z_r 0 0, z_i y, z_i x] (true, X, I, J)) (some (z_i (z_c (z_bw y 0 3 && z_lt0 x (I 13 y.toNatClampNeg 1)))), (true, X, I, J)) := by
  refine z_q119_e y x ⟨fun h => z_b0 (by rw [h]; rfl), fun h => ⟨fun h2 => z_b0 ?_, fun h2 => ?_⟩⟩
  · rw [h, z_lt0_f.mpr (Or.inl h2)]; rfl
  · obtain ⟨k, hk, rfl⟩ := z_bw3 h
    have e : (Int32.ofNat k).toNatClampNeg = k := z_cl_nat hk (by decide)
    refine ⟨k, rfl, hk, fun h3 => z_b0 ?_, fun h3 => z_b1 ?_⟩
    · rw [h, e, z_lt0_f.mpr (Or.inr h3)]; rfl
    · rw [h, e, z_lt0_t.mpr ⟨h2, h3⟩]; rfl
theorem z_p169 {n : Nat} (hn : n < 4) (x : Int32) : z_ev d (z_en 169 [z_r 33 0, z_i (Int32.ofNat n), z_i x] (true, X, I, J)) (none, (true, X, z_wo (z_up I 34 0 n x) 35 0 (10 * n) 10 (fun _ => 0), J)) := by
  refine z_q169_e _ x ⟨n, rfl, hn, ?_⟩
  have key : ∀ j k, k + j = 10 → z_ev d (169, 9, [some (z_r 33 0), some (z_i (Int32.ofNat n)), some (z_i x), some (z_i (Int32.ofNat k))], [], (true, X, z_wo (z_up I 34 0 n x) 35 0 (10 * n) k (fun _ => 0), J)) (none, (true, X, z_wo (z_up I 34 0 n x) 35 0 (10 * n) 10 (fun _ => 0), J)) := by
    intro j
    induction j with
    | zero =>
      intro k hk
      obtain rfl : k = 10 := by omega
      refine z_q169_9 _ x _ ⟨fun _ => rfl, fun h => ?_⟩
      exact absurd ((z_olt (b := 10) (by omega) (by decide)).mp h) (by omega)
    | succ j ih =>
      intro k hk
      refine z_q169_9 _ x _ ⟨fun h => ?_, fun h => ⟨10 * n + k, z_o10 n k, by omega, ?_⟩⟩
      · exact absurd ((z_ole (a := 10) (by decide) (by omega)).mp h) (by omega)
      · rw [z_os, z_wo_s _ _ _ _ _ (fun _ => (0 : Int32))]
        exact ih (k + 1) (by omega)
  have h0 := key 10 0 rfl
  rw [z_wo_0] at h0
  exact h0
theorem z_p26 {q n : Nat} (hq : q < 10) (hn : n ≤ 10) (e : I 13 q 1 = Int32.ofNat n) : z_ev (d + 1) (z_en 26 [z_r 13 q] (true, X, I, J)) (some (z_i (z_sm (I 14 q) n / 2)), (true, X, I, J)) := by
  refine z_q26_e q hq ?_
  have key : ∀ j k, k + j = n → z_ev (d + 1) (26, 4, [some (z_r 13 q), some (z_i (z_sm (I 14 q) k)), some (z_i (Int32.ofNat k))], [], (true, X, I, J)) (some (z_i (z_sm (I 14 q) n / 2)), (true, X, I, J)) := by
    intro j
    induction j with
    | zero =>
      intro k hk
      obtain rfl : k = n := by omega
      refine z_q26_4 q hq _ _ ⟨fun _ => rfl, fun h => ?_⟩
      rw [e] at h
      exact absurd ((z_olt (by omega) (by omega)).mp h) (by omega)
    | succ j ih =>
      intro k hk
      refine z_q26_4 q hq _ _ ⟨fun h => ?_, fun h => ⟨k, rfl, by omega, ?_⟩⟩
      · rw [e] at h
        exact absurd ((z_ole (by omega) (by omega)).mp h) (by omega)
      · rw [z_os]
        exact ih (k + 1) (by omega)
  exact key n 0 (by omega)
theorem z_p171 {m n : Nat} (hm : m < 4) (hn : n ≤ 10) (e : I 34 0 m = Int32.ofNat n) (hr : ∀ p, p < 10 → z_r10 (I 35 0 (10 * m + p))) : z_ev (d + 1) (z_en 171 [z_r 33 0, z_i (Int32.ofNat m)] (true, X, I, J)) (some (z_i (z_sm (fun p => I 35 0 (10 * m + p)) n / 2)), (true, X, I, J)) := by
  refine z_q171_e _ ?_
  have key : ∀ j k, k + j = n → z_ev (d + 1) (171, 4, [some (z_r 33 0), some (z_i (Int32.ofNat m)), some (z_i (z_sm (fun p => I 35 0 (10 * m + p)) k)), some (z_i (Int32.ofNat k))], [], (true, X, I, J)) (some (z_i (z_sm (fun p => I 35 0 (10 * m + p)) n / 2)), (true, X, I, J)) := by
    intro j
    induction j with
    | zero =>
      intro k hk
      obtain rfl : k = n := by omega
      refine z_q171_4 _ _ _ ⟨m, rfl, hm, fun _ => rfl, fun h => ?_⟩
      rw [e] at h
      exact absurd ((z_olt (by omega) (by omega)).mp h) (by omega)
    | succ j ih =>
      intro k hk
      refine z_q171_4 _ _ _ ⟨m, rfl, hm, fun h => ?_, fun h => ⟨10 * m + k, z_o10 m k, by omega, _, _, _, _, z_p170 (hr k (by omega)), ?_⟩⟩
      · rw [e] at h
        exact absurd ((z_ole (by omega) (by omega)).mp h) (by omega)
      · rw [z_os]
        exact ih (k + 1) (by omega)
  exact key n 0 (by omega)
theorem z_p245 (x w1 : Int32) : z_ev (d + 2) (z_en 245 [z_r 33 0, z_i x, z_i w1] (true, X, I, J)) (some (z_i (z_c (z_bw x 0 (I 33 0 37 - 1) && z_bw w1 0 1))), (true, X, I, J)) := by
  exact z_q245_e x w1 ⟨fun h => z_b0 (by rw [h]; rfl), fun h => ⟨_, _, _, _, z_p163 w1, fun h2 => z_b0 (by rw [h, h2]; rfl), fun h2 => z_b1 (by rw [h, h2]; rfl)⟩⟩
end
