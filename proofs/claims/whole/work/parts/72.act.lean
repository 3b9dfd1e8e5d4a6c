/-! acts: bodies that run, answers -/
def z_bl (I : Nat → Nat → Nat → Int32) (k : Nat) : List Int32 → Nat → Nat → Nat → Int32
  | [] => I
  | b :: l => z_bl (z_up (z_up I 18 0 k b) 17 0 1 (Int32.ofNat (k + 1))) (k + 1) l
def z_rl (I : Nat → Nat → Nat → Int32) (k : Nat) : List Int32 → Nat → Nat → Nat → Int32
  | [] => I
  | b :: l => z_rl (z_up (z_up I 61 0 k b) 33 0 50 (Int32.ofNat (k + 1))) (k + 1) l
def z_pf (p : Bool) (I : Nat → Nat → Nat → Int32) : Nat → Nat → Nat → Int32 := bif p then z_up I 17 0 2 1 else I
def z_rpf (p : Bool) (I : Nat → Nat → Nat → Int32) : Nat → Nat → Nat → Int32 := bif p then z_up I 33 0 51 1 else I
theorem z_bl_t {t : Nat} (h1 : t ≠ 17) (h2 : t ≠ 18) : ∀ (l : List Int32) I k, z_bl I k l t = I t
  | [], _, _ => rfl
  | b :: l, I, k => by
    show z_bl _ (k + 1) l t = I t
    rw [z_bl_t h1 h2 l, z_up_t h1, z_up_t h2]
theorem z_bl_17 : ∀ (l : List Int32) I k, I 17 0 1 = Int32.ofNat k → z_bl I k l 17 0 1 = Int32.ofNat (k + l.length)
  | [], _, _, h => h
  | b :: l, I, k, _ => by
    show z_bl _ (k + 1) l 17 0 1 = _
    rw [z_bl_17 l _ (k + 1) z_up_e, List.length_cons]
    congr 1
    omega
theorem z_bl_2 : ∀ (l : List Int32) I k, z_bl I k l 17 0 2 = I 17 0 2
  | [], _, _ => rfl
  | b :: l, I, k => by
    show z_bl _ (k + 1) l 17 0 2 = _
    rw [z_bl_2 l, z_up_j (by decide), z_up_t (by decide)]
theorem z_bl_app : ∀ (l l' : List Int32) I k, z_bl (z_bl I k l) (k + l.length) l' = z_bl I k (l ++ l')
  | [], _, _, _ => rfl
  | b :: l, l', I, k => by
    show z_bl (z_bl _ (k + 1) l) _ l' = z_bl _ (k + 1) (l ++ l')
    rw [← z_bl_app l l', List.length_cons, show k + (l.length + 1) = k + 1 + l.length by omega]
theorem z_rl_t {t : Nat} (h1 : t ≠ 61) (h2 : t ≠ 33) : ∀ (l : List Int32) I k, z_rl I k l t = I t
  | [], _, _ => rfl
  | b :: l, I, k => by
    show z_rl _ (k + 1) l t = I t
    rw [z_rl_t h1 h2 l, z_up_t h2, z_up_t h1]
theorem z_rl_33 {j : Nat} (hj : j ≠ 50) : ∀ (l : List Int32) I k, z_rl I k l 33 0 j = I 33 0 j
  | [], _, _ => rfl
  | b :: l, I, k => by
    show z_rl _ (k + 1) l 33 0 j = _
    rw [z_rl_33 hj l, z_up_j hj, z_up_t (by decide)]
theorem z_rl_50 : ∀ (l : List Int32) I k, I 33 0 50 = Int32.ofNat k → z_rl I k l 33 0 50 = Int32.ofNat (k + l.length)
  | [], _, _, h => h
  | b :: l, I, k, _ => by
    show z_rl _ (k + 1) l 33 0 50 = _
    rw [z_rl_50 l _ (k + 1) z_up_e, List.length_cons]
    congr 1
    omega
theorem z_rl_app : ∀ (l l' : List Int32) I k, z_rl (z_rl I k l) (k + l.length) l' = z_rl I k (l ++ l')
  | [], _, _, _ => rfl
  | b :: l, l', I, k => by
    show z_rl (z_rl _ (k + 1) l) _ l' = z_rl _ (k + 1) (l ++ l')
    rw [← z_rl_app l l', List.length_cons, show k + (l.length + 1) = k + 1 + l.length by omega]
theorem z_bl_ag {cs : List Nat} {I0 : Nat → Nat → Nat → Int32} (h7 : cs.contains 7 = true) : ∀ (l : List Int32) I k, z_ag cs I0 I → z_ag cs I0 (z_bl I k l)
  | [], _, _, h => h
  | b :: l, I, k, h => z_bl_ag h7 l _ _ (z_ag_up (z_ag_up h h7) h7)
theorem z_rl_ag {cs : List Nat} {I0 : Nat → Nat → Nat → Int32} (h7 : cs.contains 7 = true) : ∀ (l : List Int32) I k, z_ag cs I0 I → z_ag cs I0 (z_rl I k l)
  | [], _, _, h => h
  | b :: l, I, k, h => z_rl_ag h7 l _ _ (z_ag_up (z_ag_up h h7) h7)
/-- what both have traced is the same -/
theorem z_blrl : ∀ (l : List Int32) (I I' : Nat → Nat → Nat → Int32) k, (∀ j, j < k → I 18 0 j = I' 61 0 j) → ∀ j, j < k + l.length → z_bl I k l 18 0 j = z_rl I' k l 61 0 j
  | [], _, _, _, h => h
  | b :: l, I, I', k, h => fun j hj => by
    refine z_blrl l _ _ (k + 1) (fun j hj => ?_) j (by rw [List.length_cons] at hj; omega)
    by_cases e : j = k
    · subst e
      rw [z_up_t (by decide), z_up_e, z_up_t (by decide), z_up_e]
    · rw [z_up_t (by decide), z_up_j e, z_up_t (by decide), z_up_j e]
      exact h j (by omega)
def z_acl (c : Nat) : List Int32 := if c = 2 then [30, 10] else if c = 3 then [40, 10] else [10]
def z_acv (c : Nat) (n x : Int32) : Int32 := if c = 2 then (x + n) * 3 else if c = 3 then 0 - (x + n) else x + n
def z_pv0 (n a x : Int32) : Int32 := if a = n then 0 else x / (a - n)
def z_pal (c : Nat) : List Int32 := if c = 0 then [12] else [21, 12]
def z_pav (c : Nat) (n a x : Int32) : Int32 := if c = 0 then z_pv0 n a x else z_pv0 n a (x + 1)
def z_ajl (c : Nat) : List Int32 := if c = 0 then 11 :: z_acl 0 else if c = 2 then (31 :: 20 :: 11 :: z_acl 2) ++ z_pal 2 else 20 :: 11 :: z_acl c
def z_ajv (c : Nat) (n a x : Int32) : Int32 := if c = 0 then z_acv 0 n x * 2 else if c = 2 then (z_acv 2 n x * 2 - a) + z_pav 2 n a n else z_acv c n x * 2 - a
def z_jp (c : Nat) (n a : Int32) : Bool := Nat.beq c 2 && decide (a = n)
def z_atl (c : Nat) : List Int32 := if c = 3 then 41 :: 13 :: z_ajl 3 else 13 :: z_ajl c
def z_atv (c : Nat) (n a x : Int32) : Int32 := if c = 3 then (z_ajv 3 n a x ^^^ a) * 2 else z_ajv c n a x ^^^ a
theorem z_sub0 {a n : Int32} : a - n = 0 ↔ a = n := by
  constructor
  · intro h
    have h1 : a = (a - n) + n := (Int32.sub_add_cancel a n).symm
    rw [h1, h, Int32.zero_add]
  · intro h; rw [h]; exact Int32.sub_self _
section
variable {d : Nat} {X : z_X} {I : Nat → Nat → Nat → Int32} {J : Nat → Nat → Nat → Int64} {q c k : Nat} {n a : Int32}
theorem z_p61 (e : I 17 0 1 = Int32.ofNat k) (hk : k < 30) (b : Int32) : z_ev d (z_en 61 [z_r 17 0, z_i b] (true, X, I, J)) (none, (true, X, z_bl I k [b], J)) := by
  refine z_q61_e b ⟨fun h => ?_, fun _ => ⟨k, e, hk, ?_⟩⟩
  · rw [e] at h; exact absurd ((z_ole (a := 30) (by decide) (by omega)).mp h) (by omega)
  · rw [e, z_os]; rfl
theorem z_p28 (hq : q < X.1) (e : I 17 0 1 = Int32.ofNat k) (hk : k < 30) (hn : I 32 q 1 = n) (x : Int32) : z_ev (d + 1) (z_en 28 [z_r 32 q, z_i x, z_r 17 0] (true, X, I, J)) (some (z_i (x + n)), (true, X, z_bl I k [10], J)) :=
  z_q28_e q x ⟨_, _, _, z_p61 e hk 10, hq, by rw [z_bl_t (by decide) (by decide), hn]⟩
theorem z_kc7 (hc : c < 4) : z_kc c < 7 := by
  rcases (by omega : c = 0 ∨ c = 1 ∨ c = 2 ∨ c = 3) with rfl | rfl | rfl | rfl <;> decide
theorem z_acn (hq : q < X.1) (hc : c < 4) (hx : X.2.2.1 q = z_kc c) (e : I 17 0 1 = Int32.ofNat k) (hk : k < 29) (hn : I 32 q 1 = n) (x : Int32) : ∃ y, z_vt 0 (X.2.2.1 q) = some y ∧ (Nat.ble 3 (z_ml y) && z_pl y) = true ∧ z_ev (d + 2) (z_en y [z_r 32 q, z_i x, z_r 17 0] (true, X, I, J)) (some (z_i (z_acv c n x)), (true, X, z_bl I k (z_acl c), J)) := by
  have k7 : X.2.2.1 q < 7 := by rw [hx]; exact z_kc7 hc
  rw [hx]
  rcases (by omega : c = 0 ∨ c = 1 ∨ c = 2 ∨ c = 3) with rfl | rfl | rfl | rfl
  · exact ⟨28, rfl, rfl, z_p28 (d := d + 1) hq e (by omega) hn x⟩
  · exact ⟨28, rfl, rfl, z_p28 (d := d + 1) hq e (by omega) hn x⟩
  · exact ⟨36, rfl, rfl, z_q36_e q x ⟨_, _, _, z_p61 e (by omega) 30, hq, k7, _, _, _, _, z_p28 hq (z_bl_17 [30] _ _ e) (by show k + 1 < 30; omega) (by rw [z_bl_t (by decide) (by decide)]; exact hn) x, rfl⟩⟩
  · exact ⟨1, rfl, rfl, z_q1_e q x ⟨_, _, _, z_p61 e (by omega) 40, hq, k7, _, _, _, _, z_p28 hq (z_bl_17 [40] _ _ e) (by show k + 1 < 30; omega) (by rw [z_bl_t (by decide) (by decide)]; exact hn) x, rfl⟩⟩
theorem z_p29 (hq : q < X.1) (hc : c < 4) (hx : X.2.2.1 q = z_kc c) (e : I 17 0 1 = Int32.ofNat k) (hk : k < 28) (hn : I 32 q 1 = n) (x : Int32) : z_ev (d + 3) (z_en 29 [z_r 32 q, z_i x, z_r 17 0] (true, X, I, J)) (some (z_i (z_acv c n x * 2)), (true, X, z_bl I k (11 :: z_acl c), J)) := by
  obtain ⟨y, h1, h2, h3⟩ := z_acn (d := d) (n := n) (J := J) (I := z_bl I k [11]) (k := k + 1) hq hc hx (z_bl_17 [11] _ _ e) (by omega) (by rw [z_bl_t (by decide) (by decide)]; exact hn) x
  exact z_q29_e q x ⟨_, _, _, z_p61 e (by omega) 11, hq, y, h1, h2, _, _, _, _, h3, rfl⟩
theorem z_p39 (hq : q < X.1) (hc : c < 4) (hx : X.2.2.1 q = z_kc c) (e : I 17 0 1 = Int32.ofNat k) (hk : k < 27) (hn : I 32 q 1 = n) (ha : I 32 q 2 = a) (x : Int32) : z_ev (d + 4) (z_en 39 [z_r 32 q, z_i x, z_r 17 0] (true, X, I, J)) (some (z_i (z_acv c n x * 2 - a)), (true, X, z_bl I k (20 :: 11 :: z_acl c), J)) := by
  have h3 := z_p29 (d := d) (n := n) (J := J) (I := z_bl I k [20]) (k := k + 1) hq hc hx (z_bl_17 [20] _ _ e) (by omega) (by rw [z_bl_t (by decide) (by decide)]; exact hn) x
  refine z_q39_e q x ⟨_, _, _, z_p61 e (by omega) 20, hq, by rw [hx]; exact z_kc7 hc, _, _, _, _, h3, hq, ?_⟩
  rw [z_bl_t (by decide) (by decide), z_bl_t (by decide) (by decide), ha]; rfl
theorem z_p30 (hq : q < X.1) (e : I 17 0 1 = Int32.ofNat k) (hk : k < 30) (hn : I 32 q 1 = n) (ha : I 32 q 2 = a) (x : Int32) : z_ev (d + 1) (z_en 30 [z_r 32 q, z_i x, z_r 17 0] (true, X, I, J)) (some (z_i (z_pv0 n a x)), (true, X, z_pf (decide (a = n)) (z_bl I k [12]), J)) := by
  have e1 : z_bl I k [12] 32 q 1 = n := by rw [z_bl_t (by decide) (by decide)]; exact hn
  have e2 : z_bl I k [12] 32 q 2 = a := by rw [z_bl_t (by decide) (by decide)]; exact ha
  refine z_q30_e q x ⟨_, _, _, z_p61 e hk 12, hq, fun h => ⟨h, ?_⟩, fun h => ?_⟩
  · rw [e1, e2] at h ⊢
    have h9 : ¬ a = n := fun q => h (z_sub0.mpr q)
    unfold z_pv0
    rw [if_neg h9, decide_eq_false h9]; rfl
  · rw [e1, e2] at h
    have h9 := z_sub0.mp h
    unfold z_pv0
    rw [if_pos h9, decide_eq_true h9]; rfl
theorem z_p40 (hq : q < X.1) (hc : c < 4) (hx : X.2.2.1 q = z_kc c) (e : I 17 0 1 = Int32.ofNat k) (hk : k < 29) (hn : I 32 q 1 = n) (ha : I 32 q 2 = a) (x : Int32) : z_ev (d + 2) (z_en 40 [z_r 32 q, z_i x, z_r 17 0] (true, X, I, J)) (some (z_i (z_pv0 n a (x + 1))), (true, X, z_pf (decide (a = n)) (z_bl I k [21, 12]), J)) := by
  have h3 := z_p30 (d := d) (n := n) (a := a) (J := J) (I := z_bl I k [21]) (k := k + 1) hq (z_bl_17 [21] _ _ e) (by omega) (by rw [z_bl_t (by decide) (by decide)]; exact hn) (by rw [z_bl_t (by decide) (by decide)]; exact ha) (x + 1)
  exact z_q40_e q x ⟨_, _, _, z_p61 e (by omega) 21, hq, by rw [hx]; exact z_kc7 hc, _, _, _, _, h3, rfl⟩
theorem z_prt (hq : q < X.1) (hc : c < 4) (hx : X.2.2.1 q = z_kc c) (e : I 17 0 1 = Int32.ofNat k) (hk : k < 29) (hn : I 32 q 1 = n) (ha : I 32 q 2 = a) (x : Int32) : ∃ y, z_vt 2 (X.2.2.1 q) = some y ∧ (Nat.ble 3 (z_ml y) && z_pl y) = true ∧ z_ev (d + 2) (z_en y [z_r 32 q, z_i x, z_r 17 0] (true, X, I, J)) (some (z_i (z_pav c n a x)), (true, X, z_pf (decide (a = n)) (z_bl I k (z_pal c)), J)) := by
  have h40 := z_p40 (d := d) (n := n) (a := a) (J := J) hq hc hx e hk hn ha x
  rw [hx]
  rcases (by omega : c = 0 ∨ c = 1 ∨ c = 2 ∨ c = 3) with rfl | rfl | rfl | rfl
  · exact ⟨30, rfl, rfl, z_p30 (d := d + 1) hq e (by omega) hn ha x⟩
  · exact ⟨40, rfl, rfl, h40⟩
  · exact ⟨40, rfl, rfl, h40⟩
  · exact ⟨40, rfl, rfl, h40⟩
theorem z_p37 (hq : q < X.1) (hx : X.2.2.1 q = z_kc 2) (e : I 17 0 1 = Int32.ofNat k) (hk : k < 20) (hn : I 32 q 1 = n) (ha : I 32 q 2 = a) (x : Int32) : z_ev (d + 5) (z_en 37 [z_r 32 q, z_i x, z_r 17 0] (true, X, I, J)) (some (z_i (z_ajv 2 n a x)), (true, X, z_pf (decide (a = n)) (z_bl I k (z_ajl 2)), J)) := by
  have h3 := z_p39 (d := d) (n := n) (a := a) (J := J) (I := z_bl I k [31]) (k := k + 1) hq (by decide) hx (z_bl_17 [31] _ _ e) (by omega) (by rw [z_bl_t (by decide) (by decide)]; exact hn) (by rw [z_bl_t (by decide) (by decide)]; exact ha) x
  have e5 : z_bl I k (31 :: 20 :: 11 :: z_acl 2) 17 0 1 = Int32.ofNat (k + 5) := z_bl_17 _ _ _ e
  have h4 := z_p40 (d := d + 2) (n := n) (a := a) (J := J) (I := z_bl I k (31 :: 20 :: 11 :: z_acl 2)) (k := k + 5) hq (by decide) hx e5 (by omega) (by rw [z_bl_t (by decide) (by decide)]; exact hn) (by rw [z_bl_t (by decide) (by decide)]; exact ha) n
  have h5 : z_bl (z_bl I k (31 :: 20 :: 11 :: z_acl 2)) (k + 5) [21, 12] = z_bl I k (z_ajl 2) := z_bl_app (31 :: 20 :: 11 :: z_acl 2) [21, 12] I k
  rw [h5] at h4
  refine z_q37_e q x ⟨_, _, _, z_p61 e (by omega) 31, hq, by rw [hx]; decide, _, _, _, _, h3, hq, hq, 40, by rw [hx]; rfl, rfl, _, _, _, _, ?_, rfl⟩
  have h6 : z_bl (z_bl I k [31]) (k + 1) (20 :: 11 :: z_acl 2) 32 q 1 = n := by rw [z_bl_t (by decide) (by decide), z_bl_t (by decide) (by decide)]; exact hn
  rw [h6]
  exact h4
theorem z_jns (hq : q < X.1) (hc : c < 4) (hx : X.2.2.1 q = z_kc c) (e : I 17 0 1 = Int32.ofNat k) (hk : k < 20) (hn : I 32 q 1 = n) (ha : I 32 q 2 = a) (x : Int32) : ∃ y, z_vt 1 (X.2.2.1 q) = some y ∧ (Nat.ble 3 (z_ml y) && z_pl y) = true ∧ z_ev (d + 5) (z_en y [z_r 32 q, z_i x, z_r 17 0] (true, X, I, J)) (some (z_i (z_ajv c n a x)), (true, X, z_pf (z_jp c n a) (z_bl I k (z_ajl c)), J)) := by
  rcases (by omega : c = 0 ∨ c = 1 ∨ c = 2 ∨ c = 3) with rfl | rfl | rfl | rfl
  · exact ⟨29, by rw [hx]; rfl, rfl, z_p29 (d := d + 2) hq (by decide) hx e (by omega) hn x⟩
  · exact ⟨39, by rw [hx]; rfl, rfl, z_p39 (d := d + 1) hq (by decide) hx e (by omega) hn ha x⟩
  · exact ⟨37, by rw [hx]; rfl, rfl, z_p37 hq hx e hk hn ha x⟩
  · exact ⟨39, by rw [hx]; rfl, rfl, z_p39 (d := d + 1) hq (by decide) hx e (by omega) hn ha x⟩
theorem z_pf_32 (p : Bool) (I : Nat → Nat → Nat → Int32) {t : Nat} (ht : t ≠ 17) : z_pf p I t = I t := by
  cases p
  · rfl
  · exact z_up_t ht
theorem z_p31 (hq : q < X.1) (hc : c < 4) (hx : X.2.2.1 q = z_kc c) (e : I 17 0 1 = Int32.ofNat k) (hk : k < 19) (hn : I 32 q 1 = n) (ha : I 32 q 2 = a) (x : Int32) : z_ev (d + 6) (z_en 31 [z_r 32 q, z_i x, z_r 17 0] (true, X, I, J)) (some (z_i (z_ajv c n a x ^^^ a)), (true, X, z_pf (z_jp c n a) (z_bl I k (13 :: z_ajl c)), J)) := by
  obtain ⟨y, h1, h2, h3⟩ := z_jns (d := d) (n := n) (a := a) (J := J) (I := z_bl I k [13]) (k := k + 1) hq hc hx (z_bl_17 [13] _ _ e) (by omega) (by rw [z_bl_t (by decide) (by decide)]; exact hn) (by rw [z_bl_t (by decide) (by decide)]; exact ha) x
  refine z_q31_e q x ⟨_, _, _, z_p61 e (by omega) 13, hq, y, h1, h2, _, _, _, _, h3, hq, ?_⟩
  rw [z_pf_32 _ _ (by decide), z_bl_t (by decide) (by decide), z_bl_t (by decide) (by decide), ha]; rfl
theorem z_atls (hq : q < X.1) (hc : c < 4) (hx : X.2.2.1 q = z_kc c) (e : I 17 0 1 = Int32.ofNat k) (hk : k < 18) (hn : I 32 q 1 = n) (ha : I 32 q 2 = a) (x : Int32) : ∃ y, z_vt 3 (X.2.2.1 q) = some y ∧ (Nat.ble 3 (z_ml y) && z_pl y) = true ∧ z_ev (d + 7) (z_en y [z_r 32 q, z_i x, z_r 17 0] (true, X, I, J)) (some (z_i (z_atv c n a x)), (true, X, z_pf (z_jp c n a) (z_bl I k (z_atl c)), J)) := by
  have h31 := z_p31 (d := d + 1) (n := n) (a := a) (J := J) hq hc hx e (by omega) hn ha x
  rcases (by omega : c = 0 ∨ c = 1 ∨ c = 2 ∨ c = 3) with rfl | rfl | rfl | rfl
  · exact ⟨31, by rw [hx]; rfl, rfl, h31⟩
  · exact ⟨31, by rw [hx]; rfl, rfl, h31⟩
  · exact ⟨31, by rw [hx]; rfl, rfl, h31⟩
  · have h3 := z_p31 (d := d) (n := n) (a := a) (J := J) (I := z_bl I k [41]) (k := k + 1) hq hc hx (z_bl_17 [41] _ _ e) (by omega) (by rw [z_bl_t (by decide) (by decide)]; exact hn) (by rw [z_bl_t (by decide) (by decide)]; exact ha) x
    exact ⟨2, by rw [hx]; rfl, rfl, z_q2_e q x ⟨_, _, _, z_p61 e (by omega) 41, hq, by rw [hx]; decide, _, _, _, _, h3, rfl⟩⟩
/-- acts by number -/
def z_aal (c o : Nat) : List Int32 := if o = 0 then z_acl c else if o = 1 then z_ajl c else if o = 2 then z_pal c else z_atl c
def z_aav (c o : Nat) (n a x : Int32) : Int32 := if o = 0 then z_acv c n x else if o = 1 then z_ajv c n a x else if o = 2 then z_pav c n a x else z_atv c n a x
def z_ap (c o : Nat) (n a : Int32) : Bool := if o = 0 then false else if o = 2 then decide (a = n) else z_jp c n a
theorem z_acC (hq : q < X.1) (hc : c < 4) (hx : X.2.2.1 q = z_kc c) (e : I 17 0 1 = Int32.ofNat 0) (hn : I 32 q 1 = n) (ha : I 32 q 2 = a) (x : Int32) {o : Nat} (ho : o < 4) : ∃ y, z_vt o (X.2.2.1 q) = some y ∧ (Nat.ble 3 (z_ml y) && z_pl y) = true ∧ z_ev (d + 7) (z_en y [z_r 32 q, z_i x, z_r 17 0] (true, X, I, J)) (some (z_i (z_aav c o n a x)), (true, X, z_pf (z_ap c o n a) (z_bl I 0 (z_aal c o)), J)) := by
  rcases (by omega : o = 0 ∨ o = 1 ∨ o = 2 ∨ o = 3) with rfl | rfl | rfl | rfl
  · exact z_acn (d := d + 5) hq hc hx e (by decide) hn x
  · exact z_jns (d := d + 2) hq hc hx e (by decide) hn ha x
  · exact z_prt (d := d + 5) hq hc hx e (by decide) hn ha x
  · exact z_atls (d := d) hq hc hx e (by decide) hn ha x
/-! the reference -/
theorem z_p259 (e : I 33 0 50 = Int32.ofNat k) (hk : k < 30) (b : Int32) : z_ev d (z_en 259 [z_r 33 0, z_i b] (true, X, I, J)) (none, (true, X, z_rl I k [b], J)) := by
  refine z_q259_e b ⟨fun h => ?_, fun _ => ⟨k, e, hk, ?_⟩⟩
  · rw [e] at h; exact absurd ((z_ole (a := 30) (by decide) (by omega)).mp h) (by omega)
  · rw [e, z_os]; rfl
theorem z_p260 (hc : c < 4) (hx : I 33 0 46 = Int32.ofNat c) (e : I 33 0 50 = Int32.ofNat k) (hk : k < 29) (hn : I 33 0 47 = n) (x : Int32) : z_ev (d + 1) (z_en 260 [z_r 33 0, z_i x] (true, X, I, J)) (some (z_i (z_acv c n x)), (true, X, z_rl I k (z_acl c), J)) := by
  have g : ∀ b, z_rl I k [b] 33 0 47 = n := fun b => by rw [z_rl_33 (by decide)]; exact hn
  have e2 : ∀ b, z_rl I k [b] 33 0 50 = Int32.ofNat (k + 1) := fun b => z_rl_50 [b] _ _ e
  rcases (by omega : c = 0 ∨ c = 1 ∨ c = 2 ∨ c = 3) with rfl | rfl | rfl | rfl
  · exact z_q260_e x ⟨fun _ => ⟨fun _ => ⟨_, _, _, z_p259 e (by omega) 10, by rw [g]; rfl⟩, fun h => absurd (hx.symm.trans h) (by decide)⟩, fun h => absurd (hx.symm.trans h) (by decide)⟩
  · exact z_q260_e x ⟨fun _ => ⟨fun _ => ⟨_, _, _, z_p259 e (by omega) 10, by rw [g]; rfl⟩, fun h => absurd (hx.symm.trans h) (by decide)⟩, fun h => absurd (hx.symm.trans h) (by decide)⟩
  · refine z_q260_e x ⟨fun h => absurd hx h, fun _ => ⟨_, _, _, z_p259 e (by omega) 30, _, _, _, z_p259 (e2 30) (by omega) 10, ?_⟩⟩
    rw [z_rl_33 (by decide), g]; rfl
  · refine z_q260_e x ⟨fun _ => ⟨fun h => absurd hx h, fun _ => ⟨_, _, _, z_p259 e (by omega) 40, _, _, _, z_p259 (e2 40) (by omega) 10, ?_⟩⟩, fun h => absurd (hx.symm.trans h) (by decide)⟩
    rw [z_rl_33 (by decide), g]; rfl
theorem z_p261 (hc : c < 4) (hx : I 33 0 46 = Int32.ofNat c) (e : I 33 0 50 = Int32.ofNat k) (hk : k < 28) (hn : I 33 0 47 = n) (x : Int32) : z_ev (d + 2) (z_en 261 [z_r 33 0, z_i x] (true, X, I, J)) (some (z_i (z_acv c n x * 2)), (true, X, z_rl I k (11 :: z_acl c), J)) := by
  have h3 := z_p260 (d := d) (n := n) (X := X) (J := J) (I := z_rl I k [11]) (k := k + 1) hc (by rw [z_rl_33 (by decide)]; exact hx) (z_rl_50 [11] _ _ e) (by omega) (by rw [z_rl_33 (by decide)]; exact hn) x
  exact z_q261_e x ⟨_, _, _, z_p259 e (by omega) 11, _, _, _, _, h3, rfl⟩
theorem z_p262 (hc : c < 4) (hx : I 33 0 46 = Int32.ofNat c) (e : I 33 0 50 = Int32.ofNat k) (hk : k < 27) (hn : I 33 0 47 = n) (ha : I 33 0 48 = a) (x : Int32) : z_ev (d + 3) (z_en 262 [z_r 33 0, z_i x] (true, X, I, J)) (some (z_i (z_acv c n x * 2 - a)), (true, X, z_rl I k (20 :: 11 :: z_acl c), J)) := by
  have h3 := z_p261 (d := d) (n := n) (X := X) (J := J) (I := z_rl I k [20]) (k := k + 1) hc (by rw [z_rl_33 (by decide)]; exact hx) (z_rl_50 [20] _ _ e) (by omega) (by rw [z_rl_33 (by decide)]; exact hn) x
  refine z_q262_e x ⟨_, _, _, z_p259 e (by omega) 20, _, _, _, _, h3, ?_⟩
  rw [z_rl_33 (by decide), z_rl_33 (by decide), ha]; rfl
theorem z_p264 (e : I 33 0 50 = Int32.ofNat k) (hk : k < 30) (hn : I 33 0 47 = n) (ha : I 33 0 48 = a) (x : Int32) : z_ev (d + 1) (z_en 264 [z_r 33 0, z_i x] (true, X, I, J)) (some (z_i (z_pv0 n a x)), (true, X, z_rpf (decide (a = n)) (z_rl I k [12]), J)) := by
  have e1 : z_rl I k [12] 33 0 47 = n := by rw [z_rl_33 (by decide)]; exact hn
  have e2 : z_rl I k [12] 33 0 48 = a := by rw [z_rl_33 (by decide)]; exact ha
  refine z_q264_e x ⟨_, _, _, z_p259 e hk 12, fun h => ?_, fun h => ?_⟩
  · rw [e1, e2] at h ⊢
    refine ⟨fun q => h (z_sub0.mp q), ?_⟩
    unfold z_pv0
    rw [if_neg h, decide_eq_false h]; rfl
  · rw [e1, e2] at h
    unfold z_pv0
    rw [if_pos h, decide_eq_true h]; rfl
theorem z_p265 (hc : c < 4) (hx : I 33 0 46 = Int32.ofNat c) (e : I 33 0 50 = Int32.ofNat k) (hk : k < 29) (hn : I 33 0 47 = n) (ha : I 33 0 48 = a) (x : Int32) : z_ev (d + 2) (z_en 265 [z_r 33 0, z_i x] (true, X, I, J)) (some (z_i (z_pav c n a x)), (true, X, z_rpf (decide (a = n)) (z_rl I k (z_pal c)), J)) := by
  by_cases h0 : c = 0
  · subst h0
    exact z_q265_e x ⟨fun h => absurd hx h, fun _ => ⟨_, _, _, _, z_p264 e (by omega) hn ha x, rfl⟩⟩
  · have h3 := z_p264 (d := d) (n := n) (a := a) (X := X) (J := J) (I := z_rl I k [21]) (k := k + 1) (z_rl_50 [21] _ _ e) (by omega) (by rw [z_rl_33 (by decide)]; exact hn) (by rw [z_rl_33 (by decide)]; exact ha) (x + 1)
    refine z_q265_e x ⟨fun _ => ⟨_, _, _, z_p259 e (by omega) 21, _, _, _, _, h3, ?_⟩, fun h => absurd ((z_oeq (b := 0) (by omega) (by decide)).mp (hx.symm.trans h)) h0⟩
    unfold z_pav z_pal
    rw [if_neg h0, if_neg h0]; rfl
theorem z_p263 (hc : c < 4) (hx : I 33 0 46 = Int32.ofNat c) (e : I 33 0 50 = Int32.ofNat k) (hk : k < 20) (hn : I 33 0 47 = n) (ha : I 33 0 48 = a) (x : Int32) : z_ev (d + 4) (z_en 263 [z_r 33 0, z_i x] (true, X, I, J)) (some (z_i (z_ajv c n a x)), (true, X, z_rpf (z_jp c n a) (z_rl I k (z_ajl c)), J)) := by
  rcases (by omega : c = 0 ∨ c = 1 ∨ c = 2 ∨ c = 3) with rfl | rfl | rfl | rfl
  · exact z_q263_e x ⟨fun _ => ⟨fun h => absurd hx h, fun _ => ⟨_, _, _, _, z_p261 (d := d + 1) hc hx e (by omega) hn x, rfl⟩⟩, fun h => absurd (hx.symm.trans h) (by decide)⟩
  · exact z_q263_e x ⟨fun _ => ⟨fun _ => ⟨_, _, _, _, z_p262 hc hx e (by omega) hn ha x, rfl⟩, fun h => absurd (hx.symm.trans h) (by decide)⟩, fun h => absurd (hx.symm.trans h) (by decide)⟩
  · have h3 := z_p262 (d := d) (n := n) (a := a) (X := X) (J := J) (I := z_rl I k [31]) (k := k + 1) hc (by rw [z_rl_33 (by decide)]; exact hx) (z_rl_50 [31] _ _ e) (by omega) (by rw [z_rl_33 (by decide)]; exact hn) (by rw [z_rl_33 (by decide)]; exact ha) x
    have e5 : z_rl I k (31 :: 20 :: 11 :: z_acl 2) 33 0 50 = Int32.ofNat (k + 5) := z_rl_50 _ _ _ e
    have h4 := z_p265 (d := d + 1) (n := n) (a := a) (X := X) (J := J) (I := z_rl I k (31 :: 20 :: 11 :: z_acl 2)) (k := k + 5) hc (by rw [z_rl_33 (by decide)]; exact hx) e5 (by omega) (by rw [z_rl_33 (by decide)]; exact hn) (by rw [z_rl_33 (by decide)]; exact ha) n
    have h5 : z_rl (z_rl I k (31 :: 20 :: 11 :: z_acl 2)) (k + 5) (z_pal 2) = z_rl I k (z_ajl 2) := z_rl_app (31 :: 20 :: 11 :: z_acl 2) [21, 12] I k
    rw [h5] at h4
    refine z_q263_e x ⟨fun h => absurd hx h, fun _ => ⟨_, _, _, z_p259 e (by omega) 31, _, _, _, _, h3, _, _, _, _, ?_, rfl⟩⟩
    have h6 : z_rl (z_rl I k [31]) (k + 1) (20 :: 11 :: z_acl 2) 33 0 47 = n := by rw [z_rl_33 (by decide), z_rl_33 (by decide)]; exact hn
    rw [h6]
    exact h4
  · exact z_q263_e x ⟨fun _ => ⟨fun _ => ⟨_, _, _, _, z_p262 hc hx e (by omega) hn ha x, rfl⟩, fun h => absurd (hx.symm.trans h) (by decide)⟩, fun h => absurd (hx.symm.trans h) (by decide)⟩
theorem z_rpf_33 (p : Bool) (I : Nat → Nat → Nat → Int32) {j : Nat} (hj : j ≠ 51) : z_rpf p I 33 0 j = I 33 0 j := by
  cases p
  · rfl
  · exact z_up_j hj
theorem z_p266 (hc : c < 4) (hx : I 33 0 46 = Int32.ofNat c) (e : I 33 0 50 = Int32.ofNat k) (hk : k < 19) (hn : I 33 0 47 = n) (ha : I 33 0 48 = a) (x : Int32) : z_ev (d + 5) (z_en 266 [z_r 33 0, z_i x] (true, X, I, J)) (some (z_i (z_ajv c n a x ^^^ a)), (true, X, z_rpf (z_jp c n a) (z_rl I k (13 :: z_ajl c)), J)) := by
  have h3 := z_p263 (d := d) (n := n) (a := a) (X := X) (J := J) (I := z_rl I k [13]) (k := k + 1) hc (by rw [z_rl_33 (by decide)]; exact hx) (z_rl_50 [13] _ _ e) (by omega) (by rw [z_rl_33 (by decide)]; exact hn) (by rw [z_rl_33 (by decide)]; exact ha) x
  refine z_q266_e x ⟨_, _, _, z_p259 e (by omega) 13, _, _, _, _, h3, ?_⟩
  rw [z_rpf_33 _ _ (by decide), z_rl_33 (by decide), z_rl_33 (by decide), ha]; rfl
theorem z_p267 (hc : c < 4) (hx : I 33 0 46 = Int32.ofNat c) (e : I 33 0 50 = Int32.ofNat k) (hk : k < 18) (hn : I 33 0 47 = n) (ha : I 33 0 48 = a) (x : Int32) : z_ev (d + 6) (z_en 267 [z_r 33 0, z_i x] (true, X, I, J)) (some (z_i (z_atv c n a x)), (true, X, z_rpf (z_jp c n a) (z_rl I k (z_atl c)), J)) := by
  by_cases h0 : c = 3
  · subst h0
    have h3 := z_p266 (d := d) (n := n) (a := a) (X := X) (J := J) (I := z_rl I k [41]) (k := k + 1) hc (by rw [z_rl_33 (by decide)]; exact hx) (z_rl_50 [41] _ _ e) (by omega) (by rw [z_rl_33 (by decide)]; exact hn) (by rw [z_rl_33 (by decide)]; exact ha) x
    exact z_q267_e x ⟨fun h => absurd hx h, fun _ => ⟨_, _, _, z_p259 e (by omega) 41, _, _, _, _, h3, rfl⟩⟩
  · refine z_q267_e x ⟨fun _ => ⟨_, _, _, _, z_p266 hc hx e (by omega) hn ha x, ?_⟩, fun h => absurd ((z_oeq (b := 3) (by omega) (by decide)).mp (hx.symm.trans h)) h0⟩
    unfold z_atv z_atl
    rw [if_neg h0, if_neg h0]
end
