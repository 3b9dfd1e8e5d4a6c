/-! the tables of the reference -/
def z_oa2 (o k : Int32) : Int32 := (o >>> (((2 : Int32) * k) &&& 31)) &&& (3 : Int32)
/-- an order is one -/
def z_ov (m o : Int32) : Nat → Int32 → Int32 → Bool
  | 0, _, _ => true
  | j + 1, u, k => if m ≤ k then (if z_oa2 o k = 0 then z_ov m o j (u ||| (0 : Int32)) (k + 1) else false) else if m ≤ z_oa2 o k then false else if ((u >>> (z_oa2 o k &&& 31)) &&& (1 : Int32)) = 1 then false else z_ov m o j (u ||| ((1 : Int32) <<< (z_oa2 o k &&& 31))) (k + 1)
def z_oi (c o : Int32) (b : Nat) (v : Int32) : Nat → Int32
  | 0 => v
  | a + 1 => z_oi c o b v a ||| (((c >>> ((z_bo (z_oa2 o (Int32.ofNat a)) (z_oa2 o (Int32.ofNat b))) &&& 31)) &&& (1 : Int32)) <<< ((z_bo (Int32.ofNat a) (Int32.ofNat b)) &&& 31))
def z_ob (c o : Int32) : Nat → Int32
  | 0 => 0
  | b + 1 => z_oi c o b (z_ob c o b) b
def z_oo (m : Nat) (c o : Int32) : Int32 := if z_ov (Int32.ofNat m) o 4 0 0 then z_ob c o m else -1
/-- the least so far -/
def z_os1 (m : Nat) (c : Int32) (l : Int32) (i : Nat) : Int32 := if z_oo m c (Int32.ofNat i) < 0 then l else if l ≤ z_oo m c (Int32.ofNat i) then l else z_oo m c (Int32.ofNat i)
def z_ol (m : Nat) (c : Int32) : Nat → Int32
  | 0 => c
  | i + 1 => z_os1 m c (z_ol m c i) i
def z_va (m : Nat) : List Nat := (List.range 256).filter (fun i => z_ov (Int32.ofNat m) (Int32.ofNat i) 4 0 0)
def z_vl : List (List Nat) := [[], [0], [1, 4], [6, 9, 18, 24, 33, 36], [27, 30, 39, 45, 54, 57, 75, 78, 99, 108, 114, 120, 135, 141, 147, 156, 177, 180, 198, 201, 210, 216, 225, 228]]
theorem z_va_t : ∀ m, m < 5 → 1 ≤ m → z_va m = z_vl.getD m [] := by decide +kernel
theorem z_ol_f (m : Nat) (c : Int32) : ∀ n, z_ol m c n = ((List.range n).filter (fun i => z_ov (Int32.ofNat m) (Int32.ofNat i) 4 0 0)).foldl (z_os1 m c) c
  | 0 => rfl
  | n + 1 => by
    show z_os1 m c (z_ol m c n) n = _
    rw [List.range_succ, List.filter_append, List.foldl_append, ← z_ol_f m c n]
    cases e : z_ov (Int32.ofNat m) (Int32.ofNat n) 4 0 0 with
    | true =>
      rw [show List.filter (fun i => z_ov (Int32.ofNat m) (Int32.ofNat i) 4 0 0) [n] = [n] from List.filter_cons_of_pos (p := fun i => z_ov (Int32.ofNat m) (Int32.ofNat i) 4 0 0) (a := n) (l := []) e]
      rfl
    | false =>
      rw [show List.filter (fun i => z_ov (Int32.ofNat m) (Int32.ofNat i) 4 0 0) [n] = [] from List.filter_cons_of_neg (p := fun i => z_ov (Int32.ofNat m) (Int32.ofNat i) 4 0 0) (a := n) (l := []) (by rw [e]; decide)]
      show _ = z_ol m c n
      unfold z_os1 z_oo
      rw [e]
      rfl
theorem z_ol_t : ∀ m, m < 5 → 1 ≤ m → ∀ c, c < 2 ^ (m * (m - 1) / 2) → (z_vl.getD m []).foldl (z_os1 m (Int32.ofNat c)) (Int32.ofNat c) = z_fm (z_fx c) := by decide +kernel
theorem z_ol_e {m c : Nat} (hm : m < 5) (hm1 : 1 ≤ m) (hc : c < 2 ^ (m * (m - 1) / 2)) : z_ol m (Int32.ofNat c) 256 = z_fm (z_fx c) := by
  rw [z_ol_f]
  show (z_va m).foldl _ _ = _
  rw [z_va_t m hm hm1]
  exact z_ol_t m hm hm1 c hc
/-- forms found below a code -/
def z_ofl (c : Nat) : List Nat := (List.range c).filter (fun x => decide (z_fm (z_fx x) = Int32.ofNat x))
theorem z_ofl_t : ∀ m, m < 5 → 1 ≤ m → z_ofl (2 ^ (m * (m - 1) / 2)) = (List.range (z_fon m)).map z_fmn := by decide +kernel
theorem z_ofl_b : ∀ c, c < 64 → z_fm (z_fx c) = Int32.ofNat c → (z_ofl c).length < 11 := by decide +kernel
theorem z_ofl_sn (c : Nat) : z_ofl (c + 1) = z_ofl c ++ (if z_fm (z_fx c) = Int32.ofNat c then [c] else []) := by
  unfold z_ofl
  rw [List.range_succ, List.filter_append]
  by_cases h : z_fm (z_fx c) = Int32.ofNat c
  · rw [if_pos h, List.filter_cons_of_pos (by exact decide_eq_true h)]
    rfl
  · rw [if_neg h, List.filter_cons_of_neg (by rw [decide_eq_false h]; decide)]
    rfl
section
variable {d : Nat} {X : z_X} {I : Nat → Nat → Nat → Int32} {J : Nat → Nat → Nat → Int64}
theorem z_l161 {m c o : Int32} : ∀ (j k : Nat) (u : Int32) (o5 : Option z_V), k + j = 4 → ∃ u' : Int32, (z_ov m o j u (Int32.ofNat k) = true → ∀ r, z_ev (d + 2) (161, 82, [some (z_i m), some (z_i c), some (z_i o), some (z_i u'), some (z_i 0), some (z_i 1), none], [], (true, X, I, J)) r → z_ev (d + 2) (161, 5, [some (z_i m), some (z_i c), some (z_i o), some (z_i u), some (z_i (Int32.ofNat k)), o5, none], [], (true, X, I, J)) r) ∧ (z_ov m o j u (Int32.ofNat k) = false → z_ev (d + 2) (161, 5, [some (z_i m), some (z_i c), some (z_i o), some (z_i u), some (z_i (Int32.ofNat k)), o5, none], [], (true, X, I, J)) (some (z_i (-1)), (true, X, I, J))) := by
  intro j
  induction j with
  | zero =>
    intro k u o5 hk
    obtain rfl : k = 4 := by omega
    exact ⟨u, fun _ r hr => z_q161_5 _ _ _ _ _ _ ⟨fun _ => hr, fun q => absurd q (by decide)⟩, fun q => (by cases q)⟩
  | succ j ih =>
    intro k u o5 hk
    have hlt : ¬ (4 : Int32) ≤ Int32.ofNat k := fun q => absurd ((z_ole (a := 4) (by decide) (by omega)).mp q) (by omega)
    have eun : z_ov m o (j + 1) u (Int32.ofNat k) = if m ≤ Int32.ofNat k then (if z_oa2 o (Int32.ofNat k) = 0 then z_ov m o j (u ||| (0 : Int32)) (Int32.ofNat k + 1) else false) else if m ≤ z_oa2 o (Int32.ofNat k) then false else if ((u >>> (z_oa2 o (Int32.ofNat k) &&& 31)) &&& (1 : Int32)) = 1 then false else z_ov m o j (u ||| ((1 : Int32) <<< (z_oa2 o (Int32.ofNat k) &&& 31))) (Int32.ofNat k + 1) := rfl
    rw [eun, z_os]
    by_cases h1 : m ≤ Int32.ofNat k
    · rw [if_pos h1]
      by_cases h2 : z_oa2 o (Int32.ofNat k) = 0
      · rw [if_pos h2]
        obtain ⟨u', a1, a2⟩ := ih (k + 1) (u ||| (0 : Int32)) (some (z_i (z_oa2 o (Int32.ofNat k)))) (by omega)
        exact ⟨u', fun q r hr => z_q161_5 _ _ _ _ _ _ ⟨fun q9 => absurd q9 hlt, fun _ => ⟨fun _ => ⟨fun _ => by rw [z_os]; exact a1 q r hr, fun q9 => absurd h2 q9⟩, fun q9 => absurd h1 (Int32.not_le.mpr q9)⟩⟩, fun q => z_q161_5 _ _ _ _ _ _ ⟨fun q9 => absurd q9 hlt, fun _ => ⟨fun _ => ⟨fun _ => by rw [z_os]; exact a2 q, fun q9 => absurd h2 q9⟩, fun q9 => absurd h1 (Int32.not_le.mpr q9)⟩⟩⟩
      · rw [if_neg h2]
        exact ⟨u, fun q => (by cases q), fun _ => z_q161_5 _ _ _ _ _ _ ⟨fun q9 => absurd q9 hlt, fun _ => ⟨fun _ => ⟨fun q9 => absurd q9 h2, fun _ => rfl⟩, fun q9 => absurd h1 (Int32.not_le.mpr q9)⟩⟩⟩
    · rw [if_neg h1]
      by_cases h2 : m ≤ z_oa2 o (Int32.ofNat k)
      · rw [if_pos h2]
        exact ⟨u, fun q => (by cases q), fun _ => z_q161_5 _ _ _ _ _ _ ⟨fun q9 => absurd q9 hlt, fun _ => ⟨fun q9 => absurd q9 h1, fun _ => ⟨fun _ => rfl, fun q9 => absurd h2 (Int32.not_le.mpr q9)⟩⟩⟩⟩
      · rw [if_neg h2]
        by_cases h3 : ((u >>> (z_oa2 o (Int32.ofNat k) &&& 31)) &&& (1 : Int32)) = 1
        · rw [if_pos h3]
          exact ⟨u, fun q => (by cases q), fun _ => z_q161_5 _ _ _ _ _ _ ⟨fun q9 => absurd q9 hlt, fun _ => ⟨fun q9 => absurd q9 h1, fun _ => ⟨fun q9 => absurd q9 h2, fun _ => ⟨fun q9 => absurd h3 q9, fun _ => rfl⟩⟩⟩⟩⟩
        · rw [if_neg h3]
          obtain ⟨u', a1, a2⟩ := ih (k + 1) (u ||| ((1 : Int32) <<< (z_oa2 o (Int32.ofNat k) &&& 31))) (some (z_i (z_oa2 o (Int32.ofNat k)))) (by omega)
          exact ⟨u', fun q r hr => z_q161_5 _ _ _ _ _ _ ⟨fun q9 => absurd q9 hlt, fun _ => ⟨fun q9 => absurd q9 h1, fun _ => ⟨fun q9 => absurd q9 h2, fun _ => ⟨fun _ => by rw [z_os]; exact a1 q r hr, fun q9 => absurd q9 h3⟩⟩⟩⟩, fun q => z_q161_5 _ _ _ _ _ _ ⟨fun q9 => absurd q9 hlt, fun _ => ⟨fun q9 => absurd q9 h1, fun _ => ⟨fun q9 => absurd q9 h2, fun _ => ⟨fun _ => by rw [z_os]; exact a2 q, fun q9 => absurd q9 h3⟩⟩⟩⟩⟩
theorem z_p161 {m : Nat} {c o : Int32} (hm1 : 1 ≤ m) (hm : m ≤ 4) : z_ev (d + 2) (z_en 161 [z_i (Int32.ofNat m), z_i c, z_i o] (true, X, I, J)) (some (z_i (z_oo m c o)), (true, X, I, J)) := by
  have inner : ∀ (u : Int32) (b : Nat), 1 ≤ b → b < m → ∀ j a, a + j = b → ∀ r, (∀ o6, z_ev (d + 2) (161, 82, [some (z_i (Int32.ofNat m)), some (z_i c), some (z_i o), some (z_i u), some (z_i (z_ob c o (b + 1))), some (z_i (Int32.ofNat (b + 1))), o6], [], (true, X, I, J)) r) → z_ev (d + 2) (161, 91, [some (z_i (Int32.ofNat m)), some (z_i c), some (z_i o), some (z_i u), some (z_i (z_oi c o b (z_ob c o b) a)), some (z_i (Int32.ofNat b)), some (z_i (Int32.ofNat a))], [], (true, X, I, J)) r := by
    intro u b hb1 hb j
    induction j with
    | zero =>
      intro a ha r hr
      obtain rfl : a = b := by omega
      exact z_q161_91 _ _ _ _ _ _ _ ⟨fun _ => by rw [z_os]; exact hr _, fun q => absurd ((z_olt (by omega) (by omega)).mp q) (by omega)⟩
    | succ j ih =>
      intro a ha r hr
      refine z_q161_91 _ _ _ _ _ _ _ ⟨fun q => absurd ((z_ole (by omega) (by omega)).mp q) (by omega), fun _ => ?_⟩
      rw [z_os]
      exact ih (a + 1) (by omega) r hr
  have outer : ∀ (u : Int32) (j b : Nat), 1 ≤ b → b + j = m → ∀ o6, z_ev (d + 2) (161, 82, [some (z_i (Int32.ofNat m)), some (z_i c), some (z_i o), some (z_i u), some (z_i (z_ob c o b)), some (z_i (Int32.ofNat b)), o6], [], (true, X, I, J)) (some (z_i (z_ob c o m)), (true, X, I, J)) := by
    intro u j
    induction j with
    | zero =>
      intro b hb1 hb o6
      obtain rfl : b = m := by omega
      exact z_q161_82 _ _ _ _ _ _ _ ⟨fun _ => rfl, fun q => absurd ((z_olt (by omega) (by omega)).mp q) (by omega)⟩
    | succ j ih =>
      intro b hb1 hb o6
      exact z_q161_82 _ _ _ _ _ _ _ ⟨fun q => absurd ((z_ole (by omega) (by omega)).mp q) (by omega), fun _ => inner u b hb1 (by omega) b 0 (by omega) _ (ih (b + 1) (by omega) (by omega))⟩
  obtain ⟨u', a1, a2⟩ := z_l161 (d := d) (X := X) (I := I) (J := J) (m := Int32.ofNat m) (c := c) (o := o) 4 0 0 none (by omega)
  refine z_q161_e _ _ _ ?_
  cases e : z_ov (Int32.ofNat m) o 4 0 0 with
  | true =>
    have ev : z_oo m c o = z_ob c o m := by unfold z_oo; rw [e]; rfl
    rw [ev]
    exact a1 e _ (outer u' (m - 1) 1 (Nat.le_refl 1) (by omega) none)
  | false =>
    have ev : z_oo m c o = -1 := by unfold z_oo; rw [e]; rfl
    rw [ev]
    exact a2 e
def z_t40 (a _b _c : Nat) : Bool := Nat.beq a 40 || Nat.beq a 41 || Nat.beq a 42
/-- the tables of sizes below m -/
def z_tbb (I : Nat → Nat → Nat → Int32) (m : Nat) : Prop := (∀ q, 1 ≤ q → q < m → (∀ c, c < 2 ^ (q * (q - 1) / 2) → I 40 0 (64 * q + c) = z_fm (z_fx c)) ∧ (∀ i, i < z_fon q → I 41 0 (11 * q + i) = z_fm i) ∧ I 42 0 q = Int32.ofNat (z_fon q)) ∧ ∀ q, m ≤ q → q < 5 → I 42 0 q = 0
theorem z_2p : ∀ m, m < 5 → 1 ≤ m → (1 : Int32) <<< (z_pr (Int32.ofNat m) &&& 31) = Int32.ofNat (2 ^ (m * (m - 1) / 2)) ∧ 2 ^ (m * (m - 1) / 2) ≤ 64 ∧ z_fon m ≤ 11 := by decide +kernel
theorem z_l157 (h0 : ∀ q, q < 5 → I 42 0 q = 0) : ∃ I', z_ev (d + 3) (157, 286, [some (z_r 33 0), none, none, none, none, none], [], (true, X, I, J)) (none, (true, X, I', J)) ∧ z_Tb I' ∧ z_fr z_t40 I I' := by
  have orders : ∀ m, 1 ≤ m → m ≤ 4 → ∀ c, c < 64 → ∀ I1 r, (∀ o5, z_ev (d + 3) (157, 310, [some (z_r 33 0), some (z_i (Int32.ofNat m)), some (z_i (Int32.ofNat c)), some (z_i (z_ol m (Int32.ofNat c) 256)), some (z_i (Int32.ofNat 256)), o5], [], (true, X, I1, J)) r) → ∀ j i, i + j = 256 → ∀ o5, z_ev (d + 3) (157, 310, [some (z_r 33 0), some (z_i (Int32.ofNat m)), some (z_i (Int32.ofNat c)), some (z_i (z_ol m (Int32.ofNat c) i)), some (z_i (Int32.ofNat i)), o5], [], (true, X, I1, J)) r := by
    intro m hm1 hm c hc I1 r hr j
    induction j with
    | zero =>
      intro i hi o5
      obtain rfl : i = 256 := by omega
      exact hr o5
    | succ j ih =>
      intro i hi o5
      have p161 := z_p161 (d := d) (X := X) (I := I1) (J := J) (c := Int32.ofNat c) (o := Int32.ofNat i) hm1 hm
      have hn := ih (i + 1) (by omega)
      have eun : z_ol m (Int32.ofNat c) (i + 1) = if z_oo m (Int32.ofNat c) (Int32.ofNat i) < 0 then z_ol m (Int32.ofNat c) i else if z_ol m (Int32.ofNat c) i ≤ z_oo m (Int32.ofNat c) (Int32.ofNat i) then z_ol m (Int32.ofNat c) i else z_oo m (Int32.ofNat c) (Int32.ofNat i) := rfl
      rw [eun] at hn
      refine z_q157_310 _ _ _ _ _ ⟨fun q => absurd ((z_ole (a := 256) (by decide) (by omega)).mp q) (by omega), fun _ => ⟨_, _, _, _, p161, fun q => ?_, fun q => ⟨fun q2 => ?_, fun q2 => ?_⟩⟩⟩
      · rw [if_pos q] at hn
        rw [z_os]; exact hn _
      · rw [if_neg (Int32.not_lt.mpr q), if_pos q2] at hn
        rw [z_os]; exact hn _
      · rw [if_neg (Int32.not_lt.mpr q), if_neg (Int32.not_le.mpr q2)] at hn
        rw [z_os]; exact hn _
  have codes : ∀ m, 1 ≤ m → m ≤ 4 → ∀ j c, c + j = 2 ^ (m * (m - 1) / 2) → ∀ I1, (∀ q, 1 ≤ q → q < m → (∀ c, c < 2 ^ (q * (q - 1) / 2) → I1 40 0 (64 * q + c) = z_fm (z_fx c)) ∧ (∀ i, i < z_fon q → I1 41 0 (11 * q + i) = z_fm i) ∧ I1 42 0 q = Int32.ofNat (z_fon q)) → (∀ q, m < q → q < 5 → I1 42 0 q = 0) → (∀ x, x < c → I1 40 0 (64 * m + x) = z_fm (z_fx x)) → (∀ i x, (z_ofl c)[i]? = some x → I1 41 0 (11 * m + i) = Int32.ofNat x) → I1 42 0 m = Int32.ofNat (z_ofl c).length → z_fr z_t40 I I1 → ∃ I', (∀ r, (∀ o2 o3 o4 o5, z_ev (d + 3) (157, 288, [some (z_r 33 0), some (z_i (Int32.ofNat (m + 1))), o2, o3, o4, o5], [], (true, X, I', J)) r) → ∀ o3 o4 o5, z_ev (d + 3) (157, 295, [some (z_r 33 0), some (z_i (Int32.ofNat m)), some (z_i (Int32.ofNat c)), o3, o4, o5], [], (true, X, I1, J)) r) ∧ z_tbb I' (m + 1) ∧ z_fr z_t40 I I' := by
    intro m hm1 hm j
    obtain ⟨w1, w2, w3⟩ := z_2p m (by omega) hm1
    induction j with
    | zero =>
      intro c hc I1 hlow hhi h40 h41 h42 hf
      obtain rfl : c = 2 ^ (m * (m - 1) / 2) := by omega
      have et := z_ofl_t m (by omega) hm1
      refine ⟨I1, fun r hr o3 o4 o5 => z_q157_295 _ _ _ _ _ ⟨fun _ => by rw [z_os]; exact hr _ _ _ _, fun q => ?_⟩, ⟨fun q h1 h2 => ?_, fun q h1 h2 => hhi q (by omega) h2⟩, hf⟩
      · rw [w1] at q
        exact absurd ((z_olt (by omega) (by omega)).mp q) (by omega)
      · by_cases e : q = m
        · subst e
          refine ⟨h40, fun i hi => ?_, ?_⟩
          · obtain ⟨f1, _⟩ := z_fm_tab q (by omega) hm1 i hi
            rw [f1]
            apply h41
            rw [et]
            simp [hi]
          · rw [h42, et, List.length_map, List.length_range]
        · exact hlow q h1 (by omega)
    | succ j ih =>
      intro c hc I1 hlow hhi h40 h41 h42 hf
      have hc64 : c < 64 := by omega
      have hle := z_ol_e (m := m) (c := c) (by omega) hm1 (by omega)
      have hge : ¬ (1 : Int32) <<< (z_pr (Int32.ofNat m) &&& 31) ≤ Int32.ofNat c := by
        rw [w1]
        exact fun q => absurd ((z_ole (by omega) (by omega)).mp q) (by omega)
      have eix : ((64 : Int32) * Int32.ofNat m) + Int32.ofNat c = Int32.ofNat (64 * m + c) := by
        rw [Int32.ofNat_add, Int32.ofNat_mul]; rfl
      by_cases hfx : z_fm (z_fx c) = Int32.ofNat c
      · have hb := z_ofl_b c hc64 hfx
        have efl : z_ofl (c + 1) = z_ofl c ++ [c] := by rw [z_ofl_sn, if_pos hfx]
        have eix2 : ((11 : Int32) * Int32.ofNat m) + I1 42 0 m = Int32.ofNat (11 * m + (z_ofl c).length) := by
          rw [h42, Int32.ofNat_add, Int32.ofNat_mul]; rfl
        obtain ⟨I', c1, c2, c3⟩ := ih (c + 1) (by omega) (z_up (z_up (z_up I1 40 0 (64 * m + c) (z_fm (z_fx c))) 41 0 (11 * m + (z_ofl c).length) (Int32.ofNat c)) 42 0 m ((I1 42 0 m) + (1 : Int32))) (fun q h1 h2 => by
          obtain ⟨a1, a2, a3⟩ := hlow q h1 h2
          obtain ⟨v1, v2, v3⟩ := z_2p q (by omega) h1
          refine ⟨fun x hx => ?_, fun i hi => ?_, ?_⟩
          · rw [z_up_t (by decide), z_up_t (by decide), z_up_j (by omega)]; exact a1 x hx
          · rw [z_up_t (by decide), z_up_j (by omega), z_up_t (by decide)]; exact a2 i hi
          · rw [z_up_j (by omega), z_up_t (by decide), z_up_t (by decide)]; exact a3) (fun q h1 h2 => by
          rw [z_up_j (by omega), z_up_t (by decide), z_up_t (by decide)]; exact hhi q h1 h2) (fun x hx => by
          rw [z_up_t (by decide), z_up_t (by decide), z_up_at]
          by_cases e : x = c
          · rw [if_pos (by omega), e]
          · rw [if_neg (by omega)]; exact h40 x (by omega)) (fun i x hx => by
          rw [efl] at hx
          rw [z_up_t (by decide), z_up_at]
          rcases Nat.lt_trichotomy i (z_ofl c).length with q | q | q
          · rw [List.getElem?_append_left q] at hx
            rw [if_neg (by omega), z_up_t (by decide)]
            exact h41 i x hx
          · rw [List.getElem?_append_right (by omega), q, Nat.sub_self] at hx
            rw [if_pos (by omega)]
            have : c = x := Option.some.inj hx
            rw [this]
          · rw [List.getElem?_append_right (by omega), List.getElem?_eq_none (by show 1 ≤ _; omega)] at hx
            cases hx) (by rw [z_up_e, h42, z_os, efl, List.length_append]; rfl) (z_fr_up (z_fr_up (z_fr_up hf rfl) rfl) rfl)
        refine ⟨I', fun r hr o3 o4 o5 => z_q157_295 _ _ _ _ _ ⟨fun q => absurd q hge, fun _ => orders m hm1 hm c hc64 I1 r (fun o9 => z_q157_310 _ _ _ _ _ ⟨fun _ => ⟨64 * m + c, eix, by omega, fun q => absurd (by rw [hle]; exact hfx) q, fun _ => ⟨m, rfl, by omega, 11 * m + (z_ofl c).length, eix2, by omega, ?_⟩⟩, fun q => absurd q (by decide)⟩) 256 0 (by omega) o5⟩, c2, c3⟩
        rw [hle, z_os]
        exact c1 r hr _ _ _
      · have efl : z_ofl (c + 1) = z_ofl c := by rw [z_ofl_sn, if_neg hfx, List.append_nil]
        obtain ⟨I', c1, c2, c3⟩ := ih (c + 1) (by omega) (z_up I1 40 0 (64 * m + c) (z_fm (z_fx c))) (fun q h1 h2 => by
          obtain ⟨a1, a2, a3⟩ := hlow q h1 h2
          obtain ⟨v1, v2, v3⟩ := z_2p q (by omega) h1
          exact ⟨fun x hx => by rw [z_up_j (by omega)]; exact a1 x hx, fun i hi => by rw [z_up_t (by decide)]; exact a2 i hi, by rw [z_up_t (by decide)]; exact a3⟩) (fun q h1 h2 => by rw [z_up_t (by decide)]; exact hhi q h1 h2) (fun x hx => by
          rw [z_up_at]
          by_cases e : x = c
          · rw [if_pos (by omega), e]
          · rw [if_neg (by omega)]; exact h40 x (by omega)) (fun i x hx => by
          rw [efl] at hx
          rw [z_up_t (by decide)]
          exact h41 i x hx) (by rw [z_up_t (by decide), efl]; exact h42) (z_fr_up hf rfl)
        refine ⟨I', fun r hr o3 o4 o5 => z_q157_295 _ _ _ _ _ ⟨fun q => absurd q hge, fun _ => orders m hm1 hm c hc64 I1 r (fun o9 => z_q157_310 _ _ _ _ _ ⟨fun _ => ⟨64 * m + c, eix, by omega, fun _ => ?_, fun q => absurd (by rw [hle] at q; exact q) hfx⟩, fun q => absurd q (by decide)⟩) 256 0 (by omega) o5⟩, c2, c3⟩
        rw [hle, z_os]
        exact c1 r hr _ _ _
  have sizes : ∀ j m, 1 ≤ m → m + j = 5 → ∀ I1, z_tbb I1 m → z_fr z_t40 I I1 → ∃ I', (∀ o2 o3 o4 o5, z_ev (d + 3) (157, 288, [some (z_r 33 0), some (z_i (Int32.ofNat m)), o2, o3, o4, o5], [], (true, X, I1, J)) (none, (true, X, I', J))) ∧ z_Tb I' ∧ z_fr z_t40 I I' := by
    intro j
    induction j with
    | zero =>
      intro m hm1 hm I1 ht hf
      obtain rfl : m = 5 := by omega
      exact ⟨I1, fun o2 o3 o4 o5 => z_q157_288 _ _ _ _ _ ⟨fun _ => rfl, fun q => absurd q (by decide)⟩, fun q h1 h2 => ht.1 q h1 (by omega), hf⟩
    | succ j ih =>
      intro m hm1 hm I1 ht hf
      obtain ⟨I2, c1, c2, c3⟩ := codes m hm1 (by omega) (2 ^ (m * (m - 1) / 2)) 0 (Nat.zero_add _) I1 ht.1 (fun q h1 h2 => ht.2 q (by omega) h2) (fun x hx => absurd hx (Nat.not_lt_zero x)) (fun i x hx => by cases hx) (by rw [ht.2 m (Nat.le_refl m) (by omega)]; rfl) hf
      obtain ⟨I', d1, d2, d3⟩ := ih (m + 1) (by omega) (by omega) I2 c2 c3
      exact ⟨I', fun o2 o3 o4 o5 => z_q157_288 _ _ _ _ _ ⟨fun q => absurd ((z_ole (a := 5) (by decide) (by omega)).mp q) (by omega), fun _ => c1 _ d1 _ _ _⟩, d2, d3⟩
  obtain ⟨I', c1, c2, c3⟩ := sizes 4 1 (Nat.le_refl 1) (by omega) I ⟨fun q h1 h2 => absurd h1 (by omega), fun q h1 h2 => h0 q h2⟩ z_fr_rf
  exact ⟨I', z_q157_286 (c1 _ _ _ _), c2, c3⟩
end
