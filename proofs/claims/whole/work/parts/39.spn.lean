/-! nets: what their methods do -/
def z_bc1 (x : Int32) : Int32 := x - ((x.toUInt32 >>> ((1 : Int32).toUInt32 &&& Int32.toUInt32 31)).toInt32 &&& 1431655765)
def z_bc2 (x : Int32) : Int32 := (x &&& 858993459) + ((x.toUInt32 >>> ((2 : Int32).toUInt32 &&& Int32.toUInt32 31)).toInt32 &&& 858993459)
def z_bc3 (x : Int32) : Int32 := (x + (x.toUInt32 >>> ((4 : Int32).toUInt32 &&& Int32.toUInt32 31)).toInt32) &&& 252645135
def z_bc4 (x : Int32) : Int32 := x + (x.toUInt32 >>> ((8 : Int32).toUInt32 &&& Int32.toUInt32 31)).toInt32
def z_bc5 (x : Int32) : Int32 := x + (x.toUInt32 >>> ((16 : Int32).toUInt32 &&& Int32.toUInt32 31)).toInt32
def z_bc (x : Int32) : Int32 := z_bc5 (z_bc4 (z_bc3 (z_bc2 (z_bc1 x)))) &&& 63
/-- a row of at most ten bits -/
def z_r10 (x : Int32) : Prop := ∃ k, k < 1024 ∧ x = Int32.ofNat k
def z_onl : Nat → Int32 → Int32 → Option Int32
  | 0, _, _ => none
  | f + 1, l, n => if l = 0 then some n else z_onl f (l &&& (l - 1)) (n + 1)
theorem z_on_all : ∀ k, k < 1024 → z_onl 11 (Int32.ofNat k) 0 = some (z_bc (Int32.ofNat k)) := by decide +kernel
section
variable {d : Nat} {X : z_X} {I : Nat → Nat → Nat → Int32} {J : Nat → Nat → Nat → Int64}
theorem z_p275 (x : Int32) : z_ev d (z_en 275 [z_i x] (true, X, I, J)) (some (z_i (z_bc x)), (true, X, I, J)) := z_q275_e x rfl
theorem z_l170 (x : Int32) : ∀ (f : Nat) (l n v : Int32), z_onl f l n = some v → z_ev d (170, 4, [some (z_i x), some (z_i n), some (z_i l)], [], (true, X, I, J)) (some (z_i v), (true, X, I, J)) := by
  intro f
  induction f with
  | zero => intro l n v h; cases h
  | succ f ih =>
    intro l n v h
    refine z_q170_4 x n l ⟨fun h0 => ?_, fun h0 => ?_⟩
    · unfold z_onl at h; rw [if_pos h0] at h; cases h; rfl
    · unfold z_onl at h; rw [if_neg h0] at h; exact ih _ _ _ h
theorem z_p170 {x : Int32} (hx : z_r10 x) : z_ev d (z_en 170 [z_i x] (true, X, I, J)) (some (z_i (z_bc x)), (true, X, I, J)) := by
  obtain ⟨k, hk, rfl⟩ := hx
  exact z_q170_e _ (z_l170 _ 11 _ _ _ (z_on_all k hk))
theorem z_p19 {q : Nat} (hq : q < 10) (x : Int32) : z_ev d (z_en 19 [z_r 13 q, z_i x] (true, X, I, J)) (none, (true, X, z_wo (z_up I 13 q 1 x) 14 q 0 10 (fun _ => 0), J)) := by
  refine z_q19_e q hq x ?_
  have key : ∀ j k, k + j = 10 → z_ev d (19, 7, [some (z_r 13 q), some (z_i x), some (z_i (Int32.ofNat k))], [], (true, X, z_wo (z_up I 13 q 1 x) 14 q 0 k (fun _ => 0), J)) (none, (true, X, z_wo (z_up I 13 q 1 x) 14 q 0 10 (fun _ => 0), J)) := by
    intro j
    induction j with
    | zero =>
      intro k hk
      obtain rfl : k = 10 := by omega
      refine z_q19_7 q hq x _ ⟨fun _ => rfl, fun h => ?_⟩
      exact absurd ((z_olt (b := 10) (by omega) (by decide)).mp h) (by omega)
    | succ j ih =>
      intro k hk
      refine z_q19_7 q hq x _ ⟨fun h => ?_, fun h => ⟨k, rfl, by omega, ?_⟩⟩
      · exact absurd ((z_ole (a := 10) (by decide) (by omega)).mp h) (by omega)
      · rw [z_os, z_wo_s0 _ _ _ _ (fun _ => (0 : Int32))]
        exact ih (k + 1) (by omega)
  have h0 := key 10 0 rfl
  rw [z_wo_0] at h0
  exact h0
theorem z_p20 {q q1 : Nat} (hq : q < 10) (hq1 : q1 < 10) (hne : q1 ≠ q) : z_ev d (z_en 20 [z_r 13 q, z_r 13 q1] (true, X, I, J)) (none, (true, X, z_wo (z_up I 13 q 1 (I 13 q1 1)) 14 q 0 10 (I 14 q1), J)) := by
  refine z_q20_e q hq q1 hq1 ?_
  have key : ∀ j k, k + j = 10 → z_ev d (20, 10, [some (z_r 13 q), some (z_r 13 q1), some (z_i (Int32.ofNat k))], [], (true, X, z_wo (z_up I 13 q 1 (I 13 q1 1)) 14 q 0 k (I 14 q1), J)) (none, (true, X, z_wo (z_up I 13 q 1 (I 13 q1 1)) 14 q 0 10 (I 14 q1), J)) := by
    intro j
    induction j with
    | zero =>
      intro k hk
      obtain rfl : k = 10 := by omega
      refine z_q20_10 q hq q1 hq1 _ ⟨fun _ => rfl, fun h => ?_⟩
      exact absurd ((z_olt (b := 10) (by omega) (by decide)).mp h) (by omega)
    | succ j ih =>
      intro k hk
      refine z_q20_10 q hq q1 hq1 _ ⟨fun h => ?_, fun h => ⟨k, rfl, by omega, ?_⟩⟩
      · exact absurd ((z_ole (a := 10) (by decide) (by omega)).mp h) (by omega)
      · rw [z_os, z_wo_i hne, z_up_t (by decide), z_wo_s0]
        exact ih (k + 1) (by omega)
  have h0 := key 10 0 rfl
  rw [z_wo_0] at h0
  exact h0
end
