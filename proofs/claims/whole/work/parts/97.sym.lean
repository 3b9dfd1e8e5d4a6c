/-! a form is the same in every order of the posts -/
def z_c2 (b01 : Bool) : Nat := (0 ||| 0) ||| (0 ||| if b01 then 2 ^ 0 else 0)
def z_c3 (b01 b02 b12 : Bool) : Nat := z_c2 b01 ||| ((0 ||| if b02 then 2 ^ 1 else 0) ||| if b12 then 2 ^ 2 else 0)
def z_c4 (b01 b02 b12 b03 b13 b23 : Bool) : Nat := z_c3 b01 b02 b12 ||| (((0 ||| if b03 then 2 ^ 3 else 0) ||| if b13 then 2 ^ 4 else 0) ||| if b23 then 2 ^ 5 else 0)
theorem z_cd2 (m : Nat → Nat) (x y : Nat) : z_cdf m [] [x, y] 0 = z_c2 ((m x).testBit y) := by simp [z_cdf, z_rb, z_c2]
theorem z_cd3 (m : Nat → Nat) (x y z : Nat) : z_cdf m [] [x, y, z] 0 = z_c3 ((m x).testBit y) ((m x).testBit z) ((m y).testBit z) := by simp [z_cdf, z_rb, z_c2, z_c3]
theorem z_cd4 (m : Nat → Nat) (x y z w : Nat) : z_cdf m [] [x, y, z, w] 0 = z_c4 ((m x).testBit y) ((m x).testBit z) ((m y).testBit z) ((m x).testBit w) ((m y).testBit w) ((m z).testBit w) := by simp [z_cdf, z_rb, z_c2, z_c3, z_c4]
theorem z_s3a : ∀ a b c : Bool, z_fx (z_c3 a b c) = z_fx (z_c3 a c b) := by decide +kernel
theorem z_s3b : ∀ a b c : Bool, z_fx (z_c3 a b c) = z_fx (z_c3 b a c) := by decide +kernel
theorem z_s4a : ∀ a b c d e f : Bool, z_fx (z_c4 a b c d e f) = z_fx (z_c4 a c b e d f) := by decide +kernel
theorem z_s4b : ∀ a b c d e f : Bool, z_fx (z_c4 a b c d e f) = z_fx (z_c4 b a c d f e) := by decide +kernel
theorem z_s4c : ∀ a b c d e f : Bool, z_fx (z_c4 a b c d e f) = z_fx (z_c4 a d e b c f) := by decide +kernel
theorem z_adj {s a b : Nat} {m : Nat → Nat} (hw : z_wfm s m) (ha : a < 10) (hb : b < 10) : (m a).testBit b = (m b).testBit a := by
  cases e1 : (m a).testBit b with
  | true => exact ((hw.2 a b ha e1).2.2.2).symm
  | false =>
    cases e2 : (m b).testBit a with
    | false => rfl
    | true => rw [(hw.2 b a hb e2).2.2.2] at e1; cases e1
def z_fl (m : Nat → Nat) (l : List Nat) : Nat := z_fx (z_cdf m [] l 0)
theorem z_asw {s x y : Nat} {m : Nat → Nat} (hw : z_wfm s m) (hx : x < 10) (hy : y < 10) : ∀ (A B : List Nat), A.length + B.length ≤ 2 → z_fl m (A ++ x :: y :: B) = z_fl m (A ++ y :: x :: B)
  | [], [], _ => by
    show z_fx (z_cdf m [] [x, y] 0) = z_fx (z_cdf m [] [y, x] 0)
    rw [z_cd2, z_cd2, z_adj hw hx hy]
  | [], [z], _ => by
    show z_fx (z_cdf m [] [x, y, z] 0) = z_fx (z_cdf m [] [y, x, z] 0)
    rw [z_cd3, z_cd3, z_adj hw hx hy, z_s3a]
  | [w], [], _ => by
    show z_fx (z_cdf m [] [w, x, y] 0) = z_fx (z_cdf m [] [w, y, x] 0)
    rw [z_cd3, z_cd3, z_adj hw hx hy, z_s3b]
  | [], [z, u], _ => by
    show z_fx (z_cdf m [] [x, y, z, u] 0) = z_fx (z_cdf m [] [y, x, z, u] 0)
    rw [z_cd4, z_cd4, z_adj hw hx hy, z_s4a]
  | [w], [z], _ => by
    show z_fx (z_cdf m [] [w, x, y, z] 0) = z_fx (z_cdf m [] [w, y, x, z] 0)
    rw [z_cd4, z_cd4, z_adj hw hx hy, z_s4b]
  | [w, v], [], _ => by
    show z_fx (z_cdf m [] [w, v, x, y] 0) = z_fx (z_cdf m [] [w, v, y, x] 0)
    rw [z_cd4, z_cd4, z_adj hw hx hy, z_s4c]
  | [], _ :: _ :: _ :: _, h => absurd h (by simp only [List.length_cons, List.length_nil]; omega)
  | [_], _ :: _ :: _, h => absurd h (by simp only [List.length_cons, List.length_nil]; omega)
  | [_, _], _ :: _, h => absurd h (by simp only [List.length_cons, List.length_nil]; omega)
  | _ :: _ :: _ :: _, _, h => absurd h (by simp only [List.length_cons]; omega)
theorem z_fl_perm {s : Nat} {m : Nat → Nat} (hw : z_wfm s m) {l l' : List Nat} (h : l.Perm l') : ∀ A : List Nat, (∀ x ∈ l, x < 10) → A.length + l.length ≤ 4 → z_fl m (A ++ l) = z_fl m (A ++ l') := by
  induction h with
  | nil => intro A _ _; rfl
  | cons x p ih =>
    intro A hb hl
    have h9 := ih (A ++ [x]) (fun y hy => hb y (List.mem_cons_of_mem x hy)) (by rw [List.length_cons] at hl; rw [List.length_append, List.length_singleton]; omega)
    rw [List.append_assoc, List.append_assoc] at h9
    exact h9
  | swap x y l =>
    intro A hb hl
    rw [List.length_cons, List.length_cons] at hl
    exact z_asw hw (hb y (by simp)) (hb x (by simp)) A l (by omega)
  | trans p1 p2 ih1 ih2 =>
    intro A hb hl
    rw [ih1 A hb hl]
    exact ih2 A (fun x hx => hb x (p1.mem_iff.mpr hx)) (by rw [← p1.length_eq]; exact hl)
theorem z_bts_mem (S : Nat) : ∀ n b x, x ∈ z_bts S b n ↔ b ≤ x ∧ x < b + n ∧ S.testBit x = true
  | 0, b, x => by
    show x ∈ [] ↔ _
    simp
    omega
  | n + 1, b, x => by
    show x ∈ (if S.testBit b then b :: z_bts S (b + 1) n else z_bts S (b + 1) n) ↔ _
    have ih := z_bts_mem S n (b + 1) x
    cases e : S.testBit b with
    | true =>
      rw [if_pos rfl, List.mem_cons, ih]
      constructor
      · rintro (rfl | ⟨h1, h2, h3⟩)
        · exact ⟨Nat.le_refl _, by omega, e⟩
        · exact ⟨by omega, by omega, h3⟩
      · rintro ⟨h1, h2, h3⟩
        by_cases h : x = b
        · exact Or.inl h
        · exact Or.inr ⟨by omega, by omega, h3⟩
    | false =>
      rw [if_neg (by decide), ih]
      constructor
      · rintro ⟨h1, h2, h3⟩
        exact ⟨by omega, by omega, h3⟩
      · rintro ⟨h1, h2, h3⟩
        by_cases h : x = b
        · rw [h, e] at h3; cases h3
        · exact ⟨by omega, by omega, h3⟩
theorem z_bts_nd (S : Nat) : ∀ n b, (z_bts S b n).Nodup
  | 0, _ => List.nodup_nil
  | n + 1, b => by
    show (if S.testBit b then b :: z_bts S (b + 1) n else z_bts S (b + 1) n).Nodup
    have ih := z_bts_nd S n (b + 1)
    split
    · rw [List.nodup_cons]
      exact ⟨fun h => absurd ((z_bts_mem S n (b + 1) b).mp h).1 (by omega), ih⟩
    · exact ih
theorem z_fl_set {s S : Nat} {m : Nat → Nat} (hw : z_wfm s m) {l : List Nat} (hn : l.Nodup) (hl : l.length ≤ 4) (hb : ∀ x ∈ l, x < 10) (hS : ∀ x, S.testBit x = true ↔ x ∈ l) : z_fl m l = z_fl m (z_bts S 0 10) := by
  have hp : l.Perm (z_bts S 0 10) := by
    rw [List.perm_ext_iff_of_nodup hn (z_bts_nd S 10 0)]
    intro x
    rw [z_bts_mem, hS x]
    exact ⟨fun h => ⟨Nat.zero_le _, by have := hb x h; omega, h⟩, fun h => h.2.2⟩
  exact z_fl_perm hw hp [] hb (by show 0 + _ ≤ 4; omega)
