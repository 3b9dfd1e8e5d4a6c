/-! sets of posts: lists, codes -/
/-- what a post adds to the code of those ahead of it: its roads to the first of them -/
def z_rb (m : Nat → Nat) (ps : List Nat) (p : Nat) : Nat → Nat
  | 0 => 0
  | a + 1 => z_rb m ps p a ||| (if (m (ps.getD a 0)).testBit p then 2 ^ (ps.length * (ps.length - 1) / 2 + a) else 0)
def z_cdf (m : Nat → Nat) (ps : List Nat) : List Nat → Nat → Nat
  | [], c => c
  | p :: r, c => z_cdf m (ps ++ [p]) r (c ||| z_rb m ps p ps.length)
/-- lists of k posts out of n from f on -/
def z_sbl : Nat → Nat → Nat → List (List Nat)
  | _, _, 0 => [[]]
  | 0, _, _ + 1 => []
  | n + 1, f, k + 1 => (z_sbl n (f + 1) k).map (fun l => f :: l) ++ z_sbl n (f + 1) (k + 1)
/-- bits of a set from b on, n of them looked at -/
def z_bts (S : Nat) : Nat → Nat → List Nat
  | _, 0 => []
  | b, n + 1 => if S.testBit b then b :: z_bts S (b + 1) n else z_bts S (b + 1) n
/-- how many sets of k posts have the form at i -/
def z_cnf (m : Nat → Nat) (s k i : Nat) : Nat := (z_sbl s 0 k).countP (fun l => Nat.beq (z_fx (z_cdf m [] l 0)) i)
theorem z_sbl_0 (n f : Nat) : z_sbl n f 0 = [[]] := by cases n <;> rfl
theorem z_sbl_nil : ∀ n f k, n < k → z_sbl n f k = []
  | 0, _, k + 1, _ => rfl
  | n + 1, f, k + 1, h => by
    show (z_sbl n (f + 1) k).map _ ++ z_sbl n (f + 1) (k + 1) = []
    rw [z_sbl_nil n (f + 1) k (by omega), z_sbl_nil n (f + 1) (k + 1) (by omega)]; rfl
  | 0, _, 0, h => absurd h (by omega)
  | _ + 1, _, 0, h => absurd h (by omega)
theorem z_tri : ∀ n, n < 6 → (n + 1) * (n + 1 - 1) / 2 = n * (n - 1) / 2 + n := by decide
theorem z_rb_lt (m : Nat → Nat) (ps : List Nat) (p : Nat) : ∀ a, z_rb m ps p a < 2 ^ (ps.length * (ps.length - 1) / 2 + a)
  | 0 => Nat.two_pow_pos _
  | a + 1 => by
    refine Nat.or_lt_two_pow (Nat.lt_of_lt_of_le (z_rb_lt m ps p a) (Nat.pow_le_pow_right (by decide) (by omega))) ?_
    split
    · exact Nat.pow_lt_pow_right (by decide) (by omega)
    · exact Nat.two_pow_pos _
theorem z_cdf_lt (m : Nat → Nat) : ∀ (l ps : List Nat) (c : Nat), ps.length + l.length < 6 → c < 2 ^ (ps.length * (ps.length - 1) / 2) → z_cdf m ps l c < 2 ^ ((ps.length + l.length) * (ps.length + l.length - 1) / 2)
  | [], ps, c, _, h => h
  | p :: r, ps, c, hl, h => by
    rw [List.length_cons] at hl
    have h1 := z_cdf_lt m r (ps ++ [p]) (c ||| z_rb m ps p ps.length) (by rw [List.length_append, List.length_singleton]; omega) (by
      rw [List.length_append, List.length_singleton, z_tri _ (by omega)]
      exact Nat.or_lt_two_pow (Nat.lt_of_lt_of_le h (Nat.pow_le_pow_right (by decide) (by omega))) (z_rb_lt m ps p _))
    rw [List.length_append, List.length_singleton, show ps.length + 1 + r.length = ps.length + (p :: r).length by rw [List.length_cons]; omega] at h1
    exact h1
theorem z_bts_sn (S : Nat) : ∀ n b, z_bts S b (n + 1) = z_bts S b n ++ (if S.testBit (b + n) then [b + n] else [])
  | 0, b => by
    show (if S.testBit b then b :: [] else []) = [] ++ (if S.testBit (b + 0) then [b + 0] else [])
    rw [Nat.add_zero, List.nil_append]
  | n + 1, b => by
    show (if S.testBit b then b :: z_bts S (b + 1) (n + 1) else z_bts S (b + 1) (n + 1)) = (if S.testBit b then b :: z_bts S (b + 1) n else z_bts S (b + 1) n) ++ _
    rw [z_bts_sn S n (b + 1), show b + 1 + n = b + (n + 1) by omega]
    cases S.testBit b <;> rfl
theorem z_gD {ps pre r : List Nat} {a : Nat} (h : ps = pre ++ a :: r) : ps.getD pre.length 0 = a := by
  rw [h, List.getD_eq_getElem?_getD, List.getElem?_append_right (Nat.le_refl _), Nat.sub_self]; rfl
theorem z_gL {ps : List Nat} {a i : Nat} (h : i < ps.length) : (ps ++ [a]).getD i 0 = ps.getD i 0 := by
  rw [List.getD_eq_getElem?_getD, List.getD_eq_getElem?_getD, List.getElem?_append_left h]
theorem z_gA {ps : List Nat} {a : Nat} : (ps ++ [a]).getD ps.length 0 = a := z_gD (r := []) rfl
theorem z_bts_len : ∀ S, S < 1024 → (z_bts S 0 10).length = z_pc S := by decide +kernel
/-- the sets of k posts, either way -/
theorem z_prm : ∀ s, s < 11 → ∀ k, k < 5 → (((List.range (2 ^ s)).filter (fun S => Nat.beq (z_pc S) k)).map (fun S => z_bts S 0 10)).isPerm (z_sbl s 0 k) = true := by decide +kernel
theorem z_cnf_set {s k : Nat} (hs : s < 11) (hk : k < 5) (m : Nat → Nat) (i : Nat) : (List.range (2 ^ s)).countP (fun S => Nat.beq (z_pc S) k && Nat.beq (z_fx (z_cdf m [] (z_bts S 0 10) 0)) i) = z_cnf m s k i := by
  have h := List.isPerm_iff.mp (z_prm s hs k hk)
  unfold z_cnf
  rw [← h.countP_eq, List.countP_map, List.countP_filter]
  refine List.countP_congr (fun S _ => ?_)
  show _ ↔ (Nat.beq (z_fx (z_cdf m [] (z_bts S 0 10) 0)) i && Nat.beq (z_pc S) k) = true
  rw [Bool.and_comm]
