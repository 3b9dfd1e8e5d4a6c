/-! read: tokens, the class -/
/-- on while it holds -/
def z_kg (P : Nat → Bool) : Nat → Nat → Nat
  | 0, e => e
  | j + 1, e => if P e then z_kg P j (e + 1) else e
def z_ks (B : Nat → Int32) (e : Nat) : Nat := z_kg (fun x => decide (B x = 32)) 160 e
def z_ko (B : Nat → Int32) (s x : Nat) : Bool := z_bw (B s) 97 122 && z_bw (B x) 97 122 || z_bw (B s) 48 57 && z_bw (B x) 48 57
def z_ke (B : Nat → Int32) (k s : Nat) : Nat := z_kg (z_ko B s) 160 (if s < k then s + 1 else s)
def z_kt (B : Nat → Int32) (k : Nat) : Prop := k ≤ 160 ∧ (∀ e, e < k → ∃ v, v < 256 ∧ B e = Int32.ofNat v) ∧ ∀ e, k ≤ e → B e = -1
def z_kk1 (I : Nat → Nat → Nat → Int32) (B : Nat → Int32) (k : Nat) : Prop := I 15 0 1 = Int32.ofNat k ∧ ∀ e, e < k → I 16 0 e = B e
def z_kk2 (I : Nat → Nat → Nat → Int32) (B : Nat → Int32) (k : Nat) : Prop := I 33 0 14 = Int32.ofNat k ∧ ∀ e, e < k → I 43 0 e = B e
def z_t15 (a _b c : Nat) : Bool := Nat.beq a 15 && (Nat.beq c 3 || Nat.beq c 4)
def z_kf (B : Nat → Int32) (s : Nat) : Nat → Int32
  | 0 => 0
  | c + 1 => z_kf B s c * 10 + B (s + c) - 48
def z_kn (B : Nat → Int32) (s en : Nat) : Int32 := if z_bw (B s) 48 57 = true ∧ en - s ≤ 2 then z_kf B s (en - s) else -1
def z_nl (w1 : Nat) : List Nat := ([[112, 111, 115, 116, 115], [97, 108, 108], [114, 105, 110, 103], [114, 111, 97, 100]] : List (List Nat)).getD w1 []
def z_km (B : Nat → Int32) (s en w1 : Nat) : Bool := decide (en - s = (z_nl w1).length) && (List.range (z_nl w1).length).all (fun i => decide (B (s + i) = Int32.ofNat ((z_nl w1).getD i 0)))
theorem z_km_t {B : Nat → Int32} {s en w1 : Nat} : z_km B s en w1 = true ↔ en - s = (z_nl w1).length ∧ ∀ i, i < (z_nl w1).length → B (s + i) = Int32.ofNat ((z_nl w1).getD i 0) := by
  unfold z_km
  rw [Bool.and_eq_true, decide_eq_true_iff, List.all_eq_true]
  exact ⟨fun ⟨h1, h2⟩ => ⟨h1, fun i hi => of_decide_eq_true (h2 i (List.mem_range.mpr hi))⟩, fun ⟨h1, h2⟩ => ⟨h1, fun i hi => decide_eq_true (h2 i (List.mem_range.mp hi))⟩⟩
theorem z_kg_ge (P : Nat → Bool) : ∀ j e, e ≤ z_kg P j e
  | 0, e => Nat.le_refl e
  | j + 1, e => by
    show e ≤ if P e then z_kg P j (e + 1) else e
    split
    · exact Nat.le_trans (Nat.le_succ e) (z_kg_ge P j (e + 1))
    · exact Nat.le_refl e
theorem z_kg_le {P : Nat → Bool} {K : Nat} (h : ∀ x, P x = true → x < K) : ∀ j e, e ≤ K → z_kg P j e ≤ K
  | 0, e, he => he
  | j + 1, e, he => by
    show (if P e then z_kg P j (e + 1) else e) ≤ K
    split
    · next q => exact z_kg_le h j (e + 1) (h e q)
    · exact he
theorem z_kg_no {P : Nat → Bool} {K : Nat} (h : ∀ x, P x = true → x < K) : ∀ j e, K ≤ e + j → P (z_kg P j e) = false
  | 0, e, he => by
    show P e = false
    rw [← Bool.not_eq_true]
    exact fun q => absurd (h e q) (by omega)
  | j + 1, e, he => by
    show P (if P e then z_kg P j (e + 1) else e) = false
    split
    · exact z_kg_no h j (e + 1) (by omega)
    · next q => rw [← Bool.not_eq_true]; exact q
theorem z_kg_is {P : Nat → Bool} : ∀ j e x, e ≤ x → x < z_kg P j e → P x = true
  | 0, e, x, h1, h2 => absurd h2 (by show ¬ x < e; omega)
  | j + 1, e, x, h1, h2 => by
    have h2 : x < if P e then z_kg P j (e + 1) else e := h2
    split at h2
    · next q =>
      by_cases c : x = e
      · rw [c]; exact q
      · exact z_kg_is j (e + 1) x (by omega) h2
    · omega
theorem z_km1 : ∀ {x y : Int32}, (-1 : Int32) = x → x = 32 ∨ z_bw x 97 122 = true ∨ z_bw x 48 57 = true → False := by
  intro x y h q
  subst h
  rcases q with q | q | q
  · exact absurd q (by decide)
  · exact absurd q (by decide)
  · exact absurd q (by decide)
theorem z_ks_b {B : Nat → Int32} {k : Nat} (ht : z_kt B k) : ∀ x, decide (B x = 32) = true → x < k := fun x h => by
  rcases Nat.lt_or_ge x k with q | q
  · exact q
  · exact (z_km1 (y := 0) (ht.2.2 x q).symm (Or.inl (of_decide_eq_true h))).elim
theorem z_ko_b {B : Nat → Int32} {k : Nat} (ht : z_kt B k) (s : Nat) : ∀ x, z_ko B s x = true → x < k := fun x h => by
  rcases Nat.lt_or_ge x k with q | q
  · exact q
  · unfold z_ko at h
    rw [Bool.or_eq_true, Bool.and_eq_true, Bool.and_eq_true] at h
    rcases h with h | h
    · exact (z_km1 (y := 0) (ht.2.2 x q).symm (Or.inr (Or.inl h.2))).elim
    · exact (z_km1 (y := 0) (ht.2.2 x q).symm (Or.inr (Or.inr h.2))).elim
theorem z_ks_ge (B : Nat → Int32) (e : Nat) : e ≤ z_ks B e := z_kg_ge _ _ _
theorem z_ks_le {B : Nat → Int32} {k e : Nat} (ht : z_kt B k) (he : e ≤ k) : z_ks B e ≤ k := z_kg_le (z_ks_b ht) _ _ he
theorem z_ke_ge (B : Nat → Int32) (k s : Nat) : s ≤ z_ke B k s := by
  unfold z_ke
  refine Nat.le_trans ?_ (z_kg_ge _ _ _)
  split <;> omega
theorem z_ke_gt {B : Nat → Int32} {k s : Nat} (h : s < k) : s < z_ke B k s := by
  unfold z_ke
  rw [if_pos h]
  exact z_kg_ge _ _ _
theorem z_ke_le {B : Nat → Int32} {k s : Nat} (ht : z_kt B k) (hs : s ≤ k) : z_ke B k s ≤ k := by
  unfold z_ke
  refine z_kg_le (z_ko_b ht s) _ _ ?_
  split <;> omega
section
variable {d : Nat} {X : z_X} {I : Nat → Nat → Nat → Int32} {J : Nat → Nat → Nat → Int64}
theorem z_p53 {B : Nat → Int32} {k e : Nat} (ht : z_kt B k) (h : z_kk1 I B k) (he : e ≤ 1000) : z_ev d (z_en 53 [z_r 15 0, z_i (Int32.ofNat e)] (true, X, I, J)) (some (z_i (B e)), (true, X, I, J)) := by
  obtain ⟨t1, t2, t3⟩ := ht
  obtain ⟨h1, h2⟩ := h
  refine z_q53_e _ ⟨fun q => absurd (z_on0 e (by omega)) (Int32.not_le.mpr q), fun _ => ⟨fun q => ?_, fun q => ?_⟩⟩
  · rw [h1] at q
    rw [t3 e ((z_ole (by omega) (by omega)).mp q)]
  · rw [h1] at q
    have q2 := (z_olt (by omega) (by omega)).mp q
    exact ⟨fun q3 => absurd ((z_ole (a := 160) (by decide) (by omega)).mp q3) (by omega), fun _ => ⟨e, rfl, by omega, by rw [h2 e q2]⟩⟩
theorem z_p56 {B : Nat → Int32} {k s : Nat} (ht : z_kt B k) (h : z_kk1 I B k) (hs : s ≤ 1000) (h3 : I 15 0 3 = Int32.ofNat s) (c : Int32) : z_ev (d + 1) (z_en 56 [z_r 15 0, z_i c] (true, X, I, J)) (some (z_i (z_c (decide (B s = c)))), (true, X, I, J)) := by
  refine z_q56_e _ ⟨_, _, _, _, by rw [h3]; exact z_p53 ht h hs, fun q => ?_, fun q => ?_⟩
  · exact z_b0 (decide_eq_false q)
  · exact z_b1 (decide_eq_true q)
theorem z_p52 {B : Nat → Int32} {k s x : Nat} (ht : z_kt B k) (h : z_kk1 I B k) (hs : s ≤ 1000) (hx : x ≤ 1000) (h3 : I 15 0 3 = Int32.ofNat s) : z_ev (d + 1) (z_en 52 [z_r 15 0, z_i (Int32.ofNat x)] (true, X, I, J)) (some (z_i (z_c (z_ko B s x))), (true, X, I, J)) := by
  refine z_q52_e _ ⟨_, _, _, _, by rw [h3]; exact z_p53 ht h hs, _, _, _, _, z_p53 ht h hx, ?_⟩
  unfold z_ko
  generalize z_bw (B s) 97 122 = a1
  generalize z_bw (B x) 97 122 = a2
  generalize z_bw (B s) 48 57 = a3
  generalize z_bw (B x) 48 57 = a4
  cases a1 <;> cases a2 <;> cases a3 <;> cases a4
  all_goals repeat' (first | apply And.intro | intro hh)
  all_goals first | rfl | contradiction
theorem z_p51 {B : Nat → Int32} {k e : Nat} (ht : z_kt B k) (h : z_kk1 I B k) (he : e ≤ k) (h4 : I 15 0 4 = Int32.ofNat e) : ∃ I', z_ev (d + 2) (z_en 51 [z_r 15 0] (true, X, I, J)) (none, (true, X, I', J)) ∧ I' 15 0 3 = Int32.ofNat (z_ks B e) ∧ I' 15 0 4 = Int32.ofNat (z_ke B k (z_ks B e)) ∧ z_fr z_t15 I I' := by
  have hk := ht.1
  have k1f : ∀ {I1}, z_fr z_t15 I I1 → z_kk1 I1 B k := fun hf => ⟨by rw [hf 15 0 1 rfl]; exact h.1, fun e he => by rw [hf 16 0 e rfl]; exact h.2 e he⟩
  have second : ∀ s, s ≤ k → ∀ j i x, i + j = 160 → ∀ I1, x ≤ k → z_fr z_t15 I I1 → I1 15 0 3 = Int32.ofNat s → I1 15 0 4 = Int32.ofNat x → ∃ I', z_ev (d + 2) (51, 76, [some (z_r 15 0), some (z_i (Int32.ofNat i))], [], (true, X, I1, J)) (none, (true, X, I', J)) ∧ I' 15 0 3 = Int32.ofNat s ∧ I' 15 0 4 = Int32.ofNat (z_kg (z_ko B s) j x) ∧ z_fr z_t15 I I' := by
    intro s hs j
    induction j with
    | zero =>
      intro i x hi I1 hx hf e3 e4
      exact ⟨I1, z_q51_76 _ ⟨fun _ => rfl, fun q => absurd ((z_olt (b := 160) (by omega) (by decide)).mp q) (by omega)⟩, e3, e4, hf⟩
    | succ j ih =>
      intro i x hi I1 hx hf e3 e4
      have p52 := z_p52 (d := d) (X := X) (J := J) ht (k1f hf) (show s ≤ 1000 by omega) (show x ≤ 1000 by omega) e3
      have hlt : ¬ (160 : Int32) ≤ Int32.ofNat i := fun q => absurd ((z_ole (a := 160) (by decide) (by omega)).mp q) (by omega)
      cases c : z_ko B s x with
      | false =>
        have ev : z_kg (z_ko B s) (j + 1) x = x := by show (if z_ko B s x then _ else x) = x; rw [c]; rfl
        rw [c] at p52
        refine ⟨I1, z_q51_76 _ ⟨fun q => absurd q hlt, fun _ => ⟨false, _, _, _, by rw [e4]; exact p52, fun _ => rfl, fun q => (by cases q)⟩⟩, e3, by rw [ev]; exact e4, hf⟩
      | true =>
        have ev : z_kg (z_ko B s) (j + 1) x = z_kg (z_ko B s) j (x + 1) := by show (if z_ko B s x then z_kg (z_ko B s) j (x + 1) else x) = _; rw [c]; rfl
        rw [c] at p52
        have hx1 := z_ko_b ht s x c
        obtain ⟨I', c1, c2, c3, c4⟩ := ih (i + 1) (x + 1) (by omega) (z_up I1 15 0 4 (I1 15 0 4 + (1 : Int32))) hx1 (z_fr_up hf rfl) (by rw [z_up_j (by decide)]; exact e3) (by rw [z_up_e, e4, z_os])
        refine ⟨I', z_q51_76 _ ⟨fun q => absurd q hlt, fun _ => ⟨true, _, _, _, by rw [e4]; exact p52, fun q => (by cases q), fun _ => ?_⟩⟩, c2, by rw [ev]; exact c3, c4⟩
        rw [z_os]
        exact c1
  have mid : ∀ s, s ≤ k → ∀ I1, z_fr z_t15 I I1 → I1 15 0 3 = Int32.ofNat s → ∃ I', (((I1 15 0 1) ≤ (I1 15 0 3) → z_ev (d + 2) (51, 76, [some (z_r 15 0), some (z_i 0)], [], (true, X, (z_up I1 15 0 4 (I1 15 0 3)), J)) (none, (true, X, I', J))) ∧ ((I1 15 0 3) < (I1 15 0 1) → z_ev (d + 2) (51, 76, [some (z_r 15 0), some (z_i 0)], [], (true, X, (z_up I1 15 0 4 ((I1 15 0 3) + (1 : Int32))), J)) (none, (true, X, I', J)))) ∧ I' 15 0 3 = Int32.ofNat s ∧ I' 15 0 4 = Int32.ofNat (z_ke B k s) ∧ z_fr z_t15 I I' := by
    intro s hs I1 hf e3
    have e1 := (k1f hf).1
    by_cases c : s < k
    · obtain ⟨I', c1, c2, c3, c4⟩ := second s hs 160 0 (s + 1) (by omega) (z_up I1 15 0 4 ((I1 15 0 3) + (1 : Int32))) c (z_fr_up hf rfl) (by rw [z_up_j (by decide)]; exact e3) (by rw [z_up_e, e3, z_os])
      refine ⟨I', ⟨fun q => ?_, fun _ => c1⟩, c2, by unfold z_ke; rw [if_pos c]; exact c3, c4⟩
      rw [e1, e3] at q
      exact absurd ((z_ole (by omega) (by omega)).mp q) (by omega)
    · obtain ⟨I', c1, c2, c3, c4⟩ := second s hs 160 0 s (by omega) (z_up I1 15 0 4 (I1 15 0 3)) hs (z_fr_up hf rfl) (by rw [z_up_j (by decide)]; exact e3) (by rw [z_up_e, e3])
      refine ⟨I', ⟨fun _ => c1, fun q => ?_⟩, c2, by unfold z_ke; rw [if_neg c]; exact c3, c4⟩
      rw [e1, e3] at q
      exact absurd ((z_olt (by omega) (by omega)).mp q) (by omega)
  have first : ∀ j i x, i + j = 160 → ∀ I1, x ≤ k → z_fr z_t15 I I1 → I1 15 0 3 = Int32.ofNat x → ∃ I', z_ev (d + 2) (51, 10, [some (z_r 15 0), some (z_i (Int32.ofNat i))], [], (true, X, I1, J)) (none, (true, X, I', J)) ∧ I' 15 0 3 = Int32.ofNat (z_kg (fun x => decide (B x = 32)) j x) ∧ I' 15 0 4 = Int32.ofNat (z_ke B k (z_kg (fun x => decide (B x = 32)) j x)) ∧ z_fr z_t15 I I' := by
    intro j
    induction j with
    | zero =>
      intro i x hi I1 hx hf e3
      obtain ⟨I', c1, c2, c3, c4⟩ := mid x hx I1 hf e3
      exact ⟨I', z_q51_10 _ ⟨fun _ => c1, fun q => absurd ((z_olt (b := 160) (by omega) (by decide)).mp q) (by omega)⟩, c2, c3, c4⟩
    | succ j ih =>
      intro i x hi I1 hx hf e3
      have p53 := z_p53 (d := d + 1) (X := X) (J := J) ht (k1f hf) (show x ≤ 1000 by omega)
      have hlt : ¬ (160 : Int32) ≤ Int32.ofNat i := fun q => absurd ((z_ole (a := 160) (by decide) (by omega)).mp q) (by omega)
      by_cases c : B x = 32
      · have ev : z_kg (fun x => decide (B x = 32)) (j + 1) x = z_kg (fun x => decide (B x = 32)) j (x + 1) := by
          show (if decide (B x = 32) = true then z_kg (fun x => decide (B x = 32)) j (x + 1) else x) = _
          rw [if_pos (decide_eq_true c)]
        have hx1 := z_ks_b ht x (decide_eq_true c)
        obtain ⟨I', c1, c2, c3, c4⟩ := ih (i + 1) (x + 1) (by omega) (z_up I1 15 0 3 (I1 15 0 3 + (1 : Int32))) hx1 (z_fr_up hf rfl) (by rw [z_up_e, e3, z_os])
        refine ⟨I', z_q51_10 _ ⟨fun q => absurd q hlt, fun _ => ⟨_, _, _, _, by rw [e3]; exact p53, fun q => absurd c q, fun _ => ?_⟩⟩, by rw [ev]; exact c2, by rw [ev]; exact c3, c4⟩
        rw [z_os]
        exact c1
      · have ev : z_kg (fun x => decide (B x = 32)) (j + 1) x = x := by
          show (if decide (B x = 32) = true then z_kg (fun x => decide (B x = 32)) j (x + 1) else x) = x
          rw [if_neg (fun q => c (of_decide_eq_true q))]
        obtain ⟨I', c1, c2, c3, c4⟩ := mid x hx I1 hf e3
        exact ⟨I', z_q51_10 _ ⟨fun q => absurd q hlt, fun _ => ⟨_, _, _, _, by rw [e3]; exact p53, fun _ => c1, fun q => absurd q c⟩⟩, by rw [ev]; exact c2, by rw [ev]; exact c3, c4⟩
  obtain ⟨I', c1, c2, c3, c4⟩ := first 160 0 e (by omega) (z_up I 15 0 3 (I 15 0 4)) he (z_fr_up z_fr_rf rfl) (by rw [z_up_e]; exact h4)
  exact ⟨I', z_q51_e c1, c2, c3, c4⟩
theorem z_p58 {B : Nat → Int32} {k s en : Nat} (ht : z_kt B k) (h : z_kk1 I B k) (hs : s ≤ en) (hn : en ≤ k) (h3 : I 15 0 3 = Int32.ofNat s) (h4 : I 15 0 4 = Int32.ofNat en) : z_ev (d + 1) (z_en 58 [z_r 15 0] (true, X, I, J)) (some (z_i (z_kn B s en)), (true, X, I, J)) := by
  have hk := ht.1
  have p53 := z_p53 (d := d) (X := X) (J := J) ht h (show s ≤ 1000 by omega)
  have es : I 15 0 4 - I 15 0 3 = Int32.ofNat (en - s) := by rw [h3, h4, z_subn hs]
  have key : ∀ j c, c + j = en - s → z_ev (d + 1) (58, 36, [some (z_r 15 0), some (z_i (z_kf B s c)), some (z_i (Int32.ofNat (s + c)))], [], (true, X, I, J)) (some (z_i (z_kf B s (en - s))), (true, X, I, J)) := by
    intro j
    induction j with
    | zero =>
      intro c hc
      obtain rfl : c = en - s := by omega
      refine z_q58_36 _ _ ⟨fun _ => rfl, fun q => ?_⟩
      rw [h4] at q
      exact absurd ((z_olt (by omega) (by omega)).mp q) (by omega)
    | succ j ih =>
      intro c hc
      refine z_q58_36 _ _ ⟨fun q => ?_, fun _ => ⟨_, _, _, _, z_p53 ht h (by omega), ?_⟩⟩
      · rw [h4] at q
        exact absurd ((z_ole (by omega) (by omega)).mp q) (by omega)
      · rw [z_os]
        exact ih (c + 1) (by omega)
  cases c : z_bw (B s) 48 57 with
  | false =>
    refine z_q58_e ⟨_, _, _, _, by rw [h3]; exact p53, fun _ => ?_, fun q => (by rw [c] at q; cases q)⟩
    unfold z_kn
    rw [if_neg (fun q => by rw [c] at q; cases q.1)]
  | true =>
    refine z_q58_e ⟨_, _, _, _, by rw [h3]; exact p53, fun q => (by rw [c] at q; cases q), fun _ => ⟨fun q => ?_, fun q => ?_⟩⟩
    · rw [es] at q
      have q2 := (z_ole (b := 2) (by omega) (by decide)).mp q
      have e : z_kn B s en = z_kf B s (en - s) := by unfold z_kn; rw [if_pos ⟨c, q2⟩]
      rw [e, h3]
      exact key (en - s) 0 (by omega)
    · rw [es] at q
      have q2 := (z_olt (a := 2) (by decide) (by omega)).mp q
      unfold z_kn
      rw [if_neg (fun q => absurd q.2 (by omega))]
theorem z_p278_0 : z_ev (d + 1) (z_en 278 [z_r 64 0] (true, X, I, J)) (some (z_i (Int32.ofNat 5)), (true, X, I, J)) := z_q278_e_0 ⟨_, _, _, _, z_q280_e_0 rfl, rfl⟩
theorem z_p279_0 {i : Nat} (hi : i < 5) : z_ev (d + 3) (z_en 279 [z_r 64 0, z_i (Int32.ofNat i)] (true, X, I, J)) (some (z_i (Int32.ofNat ((z_nl 0).getD i 0))), (true, X, I, J)) := by
  have e : ∀ i, i < 5 → ((((z_sby.getD 0 []).getD i 0) &&& (255 : Int32)).toUInt32 % 65536).toInt32 = Int32.ofNat ((z_nl 0).getD i 0) ∧ z_nr 3 (Int32.ofNat ((z_nl 0).getD i 0)) = true := by decide +kernel
  obtain ⟨e1, e2⟩ := e i hi
  have p284 : z_ev d (z_en 284 [z_i (Int32.ofNat i), z_i (5 : Int32), z_r 68 0] (true, X, I, J)) (some (z_i (Int32.ofNat i)), (true, X, I, J)) := z_q284_e _ _ ⟨fun q => absurd (z_on0 i (by omega)) (Int32.not_le.mpr q), fun _ => ⟨fun _ => rfl, fun q => absurd ((z_ole (a := 5) (by decide) (by omega)).mp q) (by omega)⟩⟩
  have p283 : z_ev (d + 2) (z_en 283 [z_r 65 0, z_i (Int32.ofNat i)] (true, X, I, J)) (some (z_i (Int32.ofNat ((z_nl 0).getD i 0))), (true, X, I, J)) := z_q283_e_0 _ ⟨_, _, _, z_q282_e _ _ ⟨_, _, _, _, p284, rfl⟩, i, rfl, hi, by rw [e1]; exact e2, by rw [e1]⟩
  exact z_q279_e_0 _ ⟨true, _, _, _, z_q281_e_0 rfl, fun q => (by cases q), fun _ => ⟨_, _, _, _, p283, e2, rfl⟩⟩
theorem z_p57_0 {B : Nat → Int32} {k s en : Nat} (ht : z_kt B k) (h : z_kk1 I B k) (hs : s ≤ en) (hn : en ≤ k) (h3 : I 15 0 3 = Int32.ofNat s) (h4 : I 15 0 4 = Int32.ofNat en) : z_ev (d + 4) (z_en 57 [z_r 15 0, z_r 64 0] (true, X, I, J)) (some (z_i (z_c (z_km B s en 0))), (true, X, I, J)) := by
  have hk := ht.1
  have es : I 15 0 4 - I 15 0 3 = Int32.ofNat (en - s) := by rw [h3, h4, z_subn hs]
  have p278 := z_p278_0 (d := d + 2) (X := X) (I := I) (J := J)
  by_cases c : en - s = 5
  · have key : ∀ j i, i + j = 5 → (∀ i', i' < i → B (s + i') = Int32.ofNat ((z_nl 0).getD i' 0)) → z_ev (d + 4) (57, 20, [some (z_r 15 0), some (z_r 64 0), some (z_i (Int32.ofNat i))], [], (true, X, I, J)) (some (z_i (z_c (z_km B s en 0))), (true, X, I, J)) := by
      intro j
      induction j with
      | zero =>
        intro i hi hall
        obtain rfl : i = 5 := by omega
        have e : z_km B s en 0 = true := z_km_t.mpr ⟨c, hall⟩
        rw [e]
        exact z_q57_20_0 _ ⟨_, _, _, _, p278, fun _ => rfl, fun q => absurd q (by decide)⟩
      | succ j ih =>
        intro i hi hall
        refine z_q57_20_0 _ ⟨_, _, _, _, p278, fun q => absurd ((z_ole (a := 5) (by decide) (by omega)).mp q) (by omega), fun _ => ⟨_, _, _, _, by rw [h3, z_oa]; exact z_p53 ht h (by omega), _, _, _, _, z_p279_0 (by omega), fun q => ?_, fun q => ?_⟩⟩
        · rw [z_os]
          exact ih (i + 1) (by omega) (fun i' hi' => by
            by_cases e : i' = i
            · rw [e]; exact q
            · exact hall i' (by omega))
        · have e : z_km B s en 0 = false := by
            rw [← Bool.not_eq_true, z_km_t]
            exact fun q2 => q (q2.2 i (show i < 5 by omega))
          rw [e]
          rfl
    refine z_q57_e_0 ⟨_, _, _, _, p278, fun _ => key 5 0 (by omega) (fun i' hi' => absurd hi' (Nat.not_lt_zero i')), fun q => absurd ?_ q⟩
    rw [es, c]
  · refine z_q57_e_0 ⟨_, _, _, _, p278, fun q => ?_, fun _ => ?_⟩
    · rw [es] at q
      exact absurd ((z_oeq (by omega) (by decide)).mp q) c
    · have e : z_km B s en 0 = false := by
        rw [← Bool.not_eq_true, z_km_t]
        exact fun q2 => c q2.1
      rw [e]
      rfl
theorem z_p278_1 : z_ev (d + 1) (z_en 278 [z_r 64 1] (true, X, I, J)) (some (z_i (Int32.ofNat 3)), (true, X, I, J)) := z_q278_e_1 ⟨_, _, _, _, z_q280_e_1 rfl, rfl⟩
theorem z_p279_1 {i : Nat} (hi : i < 3) : z_ev (d + 3) (z_en 279 [z_r 64 1, z_i (Int32.ofNat i)] (true, X, I, J)) (some (z_i (Int32.ofNat ((z_nl 1).getD i 0))), (true, X, I, J)) := by
  have e : ∀ i, i < 3 → ((((z_sby.getD 1 []).getD i 0) &&& (255 : Int32)).toUInt32 % 65536).toInt32 = Int32.ofNat ((z_nl 1).getD i 0) ∧ z_nr 3 (Int32.ofNat ((z_nl 1).getD i 0)) = true := by decide +kernel
  obtain ⟨e1, e2⟩ := e i hi
  have p284 : z_ev d (z_en 284 [z_i (Int32.ofNat i), z_i (3 : Int32), z_r 68 0] (true, X, I, J)) (some (z_i (Int32.ofNat i)), (true, X, I, J)) := z_q284_e _ _ ⟨fun q => absurd (z_on0 i (by omega)) (Int32.not_le.mpr q), fun _ => ⟨fun _ => rfl, fun q => absurd ((z_ole (a := 3) (by decide) (by omega)).mp q) (by omega)⟩⟩
  have p283 : z_ev (d + 2) (z_en 283 [z_r 65 1, z_i (Int32.ofNat i)] (true, X, I, J)) (some (z_i (Int32.ofNat ((z_nl 1).getD i 0))), (true, X, I, J)) := z_q283_e_1 _ ⟨_, _, _, z_q282_e _ _ ⟨_, _, _, _, p284, rfl⟩, i, rfl, hi, by rw [e1]; exact e2, by rw [e1]⟩
  exact z_q279_e_1 _ ⟨true, _, _, _, z_q281_e_1 rfl, fun q => (by cases q), fun _ => ⟨_, _, _, _, p283, e2, rfl⟩⟩
theorem z_p57_1 {B : Nat → Int32} {k s en : Nat} (ht : z_kt B k) (h : z_kk1 I B k) (hs : s ≤ en) (hn : en ≤ k) (h3 : I 15 0 3 = Int32.ofNat s) (h4 : I 15 0 4 = Int32.ofNat en) : z_ev (d + 4) (z_en 57 [z_r 15 0, z_r 64 1] (true, X, I, J)) (some (z_i (z_c (z_km B s en 1))), (true, X, I, J)) := by
  have hk := ht.1
  have es : I 15 0 4 - I 15 0 3 = Int32.ofNat (en - s) := by rw [h3, h4, z_subn hs]
  have p278 := z_p278_1 (d := d + 2) (X := X) (I := I) (J := J)
  by_cases c : en - s = 3
  · have key : ∀ j i, i + j = 3 → (∀ i', i' < i → B (s + i') = Int32.ofNat ((z_nl 1).getD i' 0)) → z_ev (d + 4) (57, 20, [some (z_r 15 0), some (z_r 64 1), some (z_i (Int32.ofNat i))], [], (true, X, I, J)) (some (z_i (z_c (z_km B s en 1))), (true, X, I, J)) := by
      intro j
      induction j with
      | zero =>
        intro i hi hall
        obtain rfl : i = 3 := by omega
        have e : z_km B s en 1 = true := z_km_t.mpr ⟨c, hall⟩
        rw [e]
        exact z_q57_20_1 _ ⟨_, _, _, _, p278, fun _ => rfl, fun q => absurd q (by decide)⟩
      | succ j ih =>
        intro i hi hall
        refine z_q57_20_1 _ ⟨_, _, _, _, p278, fun q => absurd ((z_ole (a := 3) (by decide) (by omega)).mp q) (by omega), fun _ => ⟨_, _, _, _, by rw [h3, z_oa]; exact z_p53 ht h (by omega), _, _, _, _, z_p279_1 (by omega), fun q => ?_, fun q => ?_⟩⟩
        · rw [z_os]
          exact ih (i + 1) (by omega) (fun i' hi' => by
            by_cases e : i' = i
            · rw [e]; exact q
            · exact hall i' (by omega))
        · have e : z_km B s en 1 = false := by
            rw [← Bool.not_eq_true, z_km_t]
            exact fun q2 => q (q2.2 i (show i < 3 by omega))
          rw [e]
          rfl
    refine z_q57_e_1 ⟨_, _, _, _, p278, fun _ => key 3 0 (by omega) (fun i' hi' => absurd hi' (Nat.not_lt_zero i')), fun q => absurd ?_ q⟩
    rw [es, c]
  · refine z_q57_e_1 ⟨_, _, _, _, p278, fun q => ?_, fun _ => ?_⟩
    · rw [es] at q
      exact absurd ((z_oeq (by omega) (by decide)).mp q) c
    · have e : z_km B s en 1 = false := by
        rw [← Bool.not_eq_true, z_km_t]
        exact fun q2 => c q2.1
      rw [e]
      rfl
theorem z_p278_2 : z_ev (d + 1) (z_en 278 [z_r 64 2] (true, X, I, J)) (some (z_i (Int32.ofNat 4)), (true, X, I, J)) := z_q278_e_2 ⟨_, _, _, _, z_q280_e_2 rfl, rfl⟩
theorem z_p279_2 {i : Nat} (hi : i < 4) : z_ev (d + 3) (z_en 279 [z_r 64 2, z_i (Int32.ofNat i)] (true, X, I, J)) (some (z_i (Int32.ofNat ((z_nl 2).getD i 0))), (true, X, I, J)) := by
  have e : ∀ i, i < 4 → ((((z_sby.getD 2 []).getD i 0) &&& (255 : Int32)).toUInt32 % 65536).toInt32 = Int32.ofNat ((z_nl 2).getD i 0) ∧ z_nr 3 (Int32.ofNat ((z_nl 2).getD i 0)) = true := by decide +kernel
  obtain ⟨e1, e2⟩ := e i hi
  have p284 : z_ev d (z_en 284 [z_i (Int32.ofNat i), z_i (4 : Int32), z_r 68 0] (true, X, I, J)) (some (z_i (Int32.ofNat i)), (true, X, I, J)) := z_q284_e _ _ ⟨fun q => absurd (z_on0 i (by omega)) (Int32.not_le.mpr q), fun _ => ⟨fun _ => rfl, fun q => absurd ((z_ole (a := 4) (by decide) (by omega)).mp q) (by omega)⟩⟩
  have p283 : z_ev (d + 2) (z_en 283 [z_r 65 2, z_i (Int32.ofNat i)] (true, X, I, J)) (some (z_i (Int32.ofNat ((z_nl 2).getD i 0))), (true, X, I, J)) := z_q283_e_2 _ ⟨_, _, _, z_q282_e _ _ ⟨_, _, _, _, p284, rfl⟩, i, rfl, hi, by rw [e1]; exact e2, by rw [e1]⟩
  exact z_q279_e_2 _ ⟨true, _, _, _, z_q281_e_2 rfl, fun q => (by cases q), fun _ => ⟨_, _, _, _, p283, e2, rfl⟩⟩
theorem z_p57_2 {B : Nat → Int32} {k s en : Nat} (ht : z_kt B k) (h : z_kk1 I B k) (hs : s ≤ en) (hn : en ≤ k) (h3 : I 15 0 3 = Int32.ofNat s) (h4 : I 15 0 4 = Int32.ofNat en) : z_ev (d + 4) (z_en 57 [z_r 15 0, z_r 64 2] (true, X, I, J)) (some (z_i (z_c (z_km B s en 2))), (true, X, I, J)) := by
  have hk := ht.1
  have es : I 15 0 4 - I 15 0 3 = Int32.ofNat (en - s) := by rw [h3, h4, z_subn hs]
  have p278 := z_p278_2 (d := d + 2) (X := X) (I := I) (J := J)
  by_cases c : en - s = 4
  · have key : ∀ j i, i + j = 4 → (∀ i', i' < i → B (s + i') = Int32.ofNat ((z_nl 2).getD i' 0)) → z_ev (d + 4) (57, 20, [some (z_r 15 0), some (z_r 64 2), some (z_i (Int32.ofNat i))], [], (true, X, I, J)) (some (z_i (z_c (z_km B s en 2))), (true, X, I, J)) := by
      intro j
      induction j with
      | zero =>
        intro i hi hall
        obtain rfl : i = 4 := by omega
        have e : z_km B s en 2 = true := z_km_t.mpr ⟨c, hall⟩
        rw [e]
        exact z_q57_20_2 _ ⟨_, _, _, _, p278, fun _ => rfl, fun q => absurd q (by decide)⟩
      | succ j ih =>
        intro i hi hall
        refine z_q57_20_2 _ ⟨_, _, _, _, p278, fun q => absurd ((z_ole (a := 4) (by decide) (by omega)).mp q) (by omega), fun _ => ⟨_, _, _, _, by rw [h3, z_oa]; exact z_p53 ht h (by omega), _, _, _, _, z_p279_2 (by omega), fun q => ?_, fun q => ?_⟩⟩
        · rw [z_os]
          exact ih (i + 1) (by omega) (fun i' hi' => by
            by_cases e : i' = i
            · rw [e]; exact q
            · exact hall i' (by omega))
        · have e : z_km B s en 2 = false := by
            rw [← Bool.not_eq_true, z_km_t]
            exact fun q2 => q (q2.2 i (show i < 4 by omega))
          rw [e]
          rfl
    refine z_q57_e_2 ⟨_, _, _, _, p278, fun _ => key 4 0 (by omega) (fun i' hi' => absurd hi' (Nat.not_lt_zero i')), fun q => absurd ?_ q⟩
    rw [es, c]
  · refine z_q57_e_2 ⟨_, _, _, _, p278, fun q => ?_, fun _ => ?_⟩
    · rw [es] at q
      exact absurd ((z_oeq (by omega) (by decide)).mp q) c
    · have e : z_km B s en 2 = false := by
        rw [← Bool.not_eq_true, z_km_t]
        exact fun q2 => c q2.1
      rw [e]
      rfl
theorem z_p278_3 : z_ev (d + 1) (z_en 278 [z_r 64 3] (true, X, I, J)) (some (z_i (Int32.ofNat 4)), (true, X, I, J)) := z_q278_e_3 ⟨_, _, _, _, z_q280_e_3 rfl, rfl⟩
theorem z_p279_3 {i : Nat} (hi : i < 4) : z_ev (d + 3) (z_en 279 [z_r 64 3, z_i (Int32.ofNat i)] (true, X, I, J)) (some (z_i (Int32.ofNat ((z_nl 3).getD i 0))), (true, X, I, J)) := by
  have e : ∀ i, i < 4 → ((((z_sby.getD 3 []).getD i 0) &&& (255 : Int32)).toUInt32 % 65536).toInt32 = Int32.ofNat ((z_nl 3).getD i 0) ∧ z_nr 3 (Int32.ofNat ((z_nl 3).getD i 0)) = true := by decide +kernel
  obtain ⟨e1, e2⟩ := e i hi
  have p284 : z_ev d (z_en 284 [z_i (Int32.ofNat i), z_i (4 : Int32), z_r 68 0] (true, X, I, J)) (some (z_i (Int32.ofNat i)), (true, X, I, J)) := z_q284_e _ _ ⟨fun q => absurd (z_on0 i (by omega)) (Int32.not_le.mpr q), fun _ => ⟨fun _ => rfl, fun q => absurd ((z_ole (a := 4) (by decide) (by omega)).mp q) (by omega)⟩⟩
  have p283 : z_ev (d + 2) (z_en 283 [z_r 65 3, z_i (Int32.ofNat i)] (true, X, I, J)) (some (z_i (Int32.ofNat ((z_nl 3).getD i 0))), (true, X, I, J)) := z_q283_e_3 _ ⟨_, _, _, z_q282_e _ _ ⟨_, _, _, _, p284, rfl⟩, i, rfl, hi, by rw [e1]; exact e2, by rw [e1]⟩
  exact z_q279_e_3 _ ⟨true, _, _, _, z_q281_e_3 rfl, fun q => (by cases q), fun _ => ⟨_, _, _, _, p283, e2, rfl⟩⟩
theorem z_p57_3 {B : Nat → Int32} {k s en : Nat} (ht : z_kt B k) (h : z_kk1 I B k) (hs : s ≤ en) (hn : en ≤ k) (h3 : I 15 0 3 = Int32.ofNat s) (h4 : I 15 0 4 = Int32.ofNat en) : z_ev (d + 4) (z_en 57 [z_r 15 0, z_r 64 3] (true, X, I, J)) (some (z_i (z_c (z_km B s en 3))), (true, X, I, J)) := by
  have hk := ht.1
  have es : I 15 0 4 - I 15 0 3 = Int32.ofNat (en - s) := by rw [h3, h4, z_subn hs]
  have p278 := z_p278_3 (d := d + 2) (X := X) (I := I) (J := J)
  by_cases c : en - s = 4
  · have key : ∀ j i, i + j = 4 → (∀ i', i' < i → B (s + i') = Int32.ofNat ((z_nl 3).getD i' 0)) → z_ev (d + 4) (57, 20, [some (z_r 15 0), some (z_r 64 3), some (z_i (Int32.ofNat i))], [], (true, X, I, J)) (some (z_i (z_c (z_km B s en 3))), (true, X, I, J)) := by
      intro j
      induction j with
      | zero =>
        intro i hi hall
        obtain rfl : i = 4 := by omega
        have e : z_km B s en 3 = true := z_km_t.mpr ⟨c, hall⟩
        rw [e]
        exact z_q57_20_3 _ ⟨_, _, _, _, p278, fun _ => rfl, fun q => absurd q (by decide)⟩
      | succ j ih =>
        intro i hi hall
        refine z_q57_20_3 _ ⟨_, _, _, _, p278, fun q => absurd ((z_ole (a := 4) (by decide) (by omega)).mp q) (by omega), fun _ => ⟨_, _, _, _, by rw [h3, z_oa]; exact z_p53 ht h (by omega), _, _, _, _, z_p279_3 (by omega), fun q => ?_, fun q => ?_⟩⟩
        · rw [z_os]
          exact ih (i + 1) (by omega) (fun i' hi' => by
            by_cases e : i' = i
            · rw [e]; exact q
            · exact hall i' (by omega))
        · have e : z_km B s en 3 = false := by
            rw [← Bool.not_eq_true, z_km_t]
            exact fun q2 => q (q2.2 i (show i < 4 by omega))
          rw [e]
          rfl
    refine z_q57_e_3 ⟨_, _, _, _, p278, fun _ => key 4 0 (by omega) (fun i' hi' => absurd hi' (Nat.not_lt_zero i')), fun q => absurd ?_ q⟩
    rw [es, c]
  · refine z_q57_e_3 ⟨_, _, _, _, p278, fun q => ?_, fun _ => ?_⟩
    · rw [es] at q
      exact absurd ((z_oeq (by omega) (by decide)).mp q) c
    · have e : z_km B s en 3 = false := by
        rw [← Bool.not_eq_true, z_km_t]
        exact fun q2 => c q2.1
      rw [e]
      rfl
end
