/-! read: tokens, the reference -/
def z_kso (B : Nat → Int32) (s : Nat) : Int32 := if B s < 0 then 0 else if z_bw (B s) 97 122 = true then 1 else if z_bw (B s) 48 57 = true then 2 else 3
def z_knc (B : Nat → Int32) (s c : Nat) : Int32 := if c ≤ 2 then z_kf B s c else -1
def z_kwd (B : Nat → Int32) (s : Nat) : Nat → Int64
  | 0 => 0
  | c + 1 => if c < 8 then 27 * z_kwd B s c + (B (s + c)).toInt64 - 96 else -1
def z_kvl (B : Nat → Int32) (s en : Nat) : Int32 := if z_kso B s = 2 then z_knc B s (en - s) else B s
def z_kwo (B : Nat → Int32) (s en : Nat) : Int64 := if z_kso B s = 1 then z_kwd B s (en - s) else 0
def z_kT (B : Nat → Int32) (k e : Nat) (I : Nat → Nat → Nat → Int32) (J : Nat → Nat → Nat → Int64) : Prop := I 33 0 16 = Int32.ofNat (z_ks B e) ∧ I 33 0 17 = Int32.ofNat (z_ke B k (z_ks B e)) ∧ I 33 0 15 = z_kso B (z_ks B e) ∧ I 33 0 19 = z_kvl B (z_ks B e) (z_ke B k (z_ks B e)) ∧ J 33 0 18 = z_kwo B (z_ks B e) (z_ke B k (z_ks B e))
def z_t33 (a _b c : Nat) : Bool := Nat.beq a 33 && (Nat.beq c 15 || Nat.beq c 16 || Nat.beq c 17 || Nat.beq c 19)
def z_jn (J J' : Nat → Nat → Nat → Int64) : Prop := ∀ t, t ≠ 33 → J' t = J t
theorem z_jn_rf {J : Nat → Nat → Nat → Int64} : z_jn J J := fun _ _ => rfl
theorem z_jn_tr {J J' J'' : Nat → Nat → Nat → Int64} (h : z_jn J J') (h' : z_jn J' J'') : z_jn J J'' := fun t ht => (h' t ht).trans (h t ht)
theorem z_jn_up {J J' : Nat → Nat → Nat → Int64} {i j : Nat} {v : Int64} (h : z_jn J J') : z_jn J (z_up J' 33 i j v) := fun t ht => (z_up_t ht).trans (h t ht)
theorem z_kk2_f {I I' : Nat → Nat → Nat → Int32} {B : Nat → Int32} {k : Nat} (hf : z_fr z_t33 I I') (h : z_kk2 I B k) : z_kk2 I' B k := ⟨by rw [hf 33 0 14 rfl]; exact h.1, fun e he => by rw [hf 43 0 e rfl]; exact h.2 e he⟩
theorem z_b0n {B : Nat → Int32} {k s : Nat} (ht : z_kt B k) : (s < k ∧ 0 ≤ B s) ∨ (k ≤ s ∧ B s = -1) := by
  rcases Nat.lt_or_ge s k with q | q
  · obtain ⟨v, hv, e⟩ := ht.2.1 s q
    exact Or.inl ⟨q, by rw [e]; exact z_on0 v (by omega)⟩
  · exact Or.inr ⟨q, ht.2.2 s q⟩
theorem z_kso_0 {B : Nat → Int32} {k s : Nat} (ht : z_kt B k) (h : k ≤ s) : z_kso B s = 0 := by
  unfold z_kso
  rw [ht.2.2 s h]
  rfl
theorem z_kso_1 {B : Nat → Int32} {s : Nat} (h : z_bw (B s) 97 122 = true) : z_kso B s = 1 := by
  unfold z_kso
  have h1 := (z_bw_t.mp h).1
  rw [if_neg (Int32.not_lt.mpr (Int32.le_trans (by decide) h1)), if_pos h]
theorem z_bw_ld {x : Int32} (h : z_bw x 48 57 = true) : z_bw x 97 122 = false := by
  have h1 := (z_bw_t.mp h).2
  rw [z_bw_f]
  left
  rw [Int32.le_iff_toInt_le] at h1
  rw [Int32.lt_iff_toInt_lt]
  have h1 : x.toInt ≤ 57 := h1
  show x.toInt < 97
  omega
theorem z_kso_2 {B : Nat → Int32} {s : Nat} (h : z_bw (B s) 48 57 = true) : z_kso B s = 2 := by
  unfold z_kso
  have h1 := (z_bw_t.mp h).1
  rw [if_neg (Int32.not_lt.mpr (Int32.le_trans (by decide) h1)), if_neg (by rw [z_bw_ld h]; decide), if_pos h]
theorem z_kso_3 {B : Nat → Int32} {s : Nat} (h0 : 0 ≤ B s) (h1 : z_bw (B s) 97 122 = false) (h2 : z_bw (B s) 48 57 = false) : z_kso B s = 3 := by
  unfold z_kso
  rw [if_neg (Int32.not_lt.mpr h0), if_neg (by rw [h1]; decide), if_neg (by rw [h2]; decide)]
section
variable {d : Nat} {X : z_X} {I : Nat → Nat → Nat → Int32} {J : Nat → Nat → Nat → Int64}
theorem z_p173 {B : Nat → Int32} {k e : Nat} (ht : z_kt B k) (h : z_kk2 I B k) (he : e ≤ 1000) : z_ev d (z_en 173 [z_r 33 0, z_i (Int32.ofNat e)] (true, X, I, J)) (some (z_i (B e)), (true, X, I, J)) := by
  obtain ⟨t1, t2, t3⟩ := ht
  obtain ⟨h1, h2⟩ := h
  refine z_q173_e _ ⟨fun q => ?_, fun q => ?_⟩
  · rw [h1] at q
    rw [t3 e ((z_ole (by omega) (by omega)).mp q)]
  · rw [h1] at q
    have q2 := (z_olt (by omega) (by omega)).mp q
    exact ⟨e, rfl, by omega, by rw [h2 e q2]⟩
theorem z_p176 {B : Nat → Int32} {k e : Nat} (ht : z_kt B k) (h : z_kk2 I B k) (he : e ≤ k) (h17 : I 33 0 17 = Int32.ofNat e) : ∃ I' J', z_ev (d + 2) (z_en 176 [z_r 33 0] (true, X, I, J)) (none, (true, X, I', J')) ∧ z_kT B k e I' J' ∧ z_fr z_t33 I I' ∧ z_jn J J' := by
  have hk := ht.1
  have digits : ∀ s, s ≤ k → z_bw (B s) 48 57 = true → ∀ j x, s ≤ x → x ≤ k → z_ko B s (z_kg (z_ko B s) j x) = false → ∀ (x1 : Int32) I1 J1, z_fr z_t33 I I1 → I1 33 0 16 = Int32.ofNat s → I1 33 0 17 = Int32.ofNat x → I1 33 0 15 = 2 → I1 33 0 19 = z_knc B s (x - s) → ∃ I', z_ev (d + 2) (176, 207, [some (z_r 33 0), some (z_i x1)], [], (true, X, I1, J1)) (none, (true, X, I', J1)) ∧ I' 33 0 16 = Int32.ofNat s ∧ I' 33 0 17 = Int32.ofNat (z_kg (z_ko B s) j x) ∧ I' 33 0 15 = 2 ∧ I' 33 0 19 = z_knc B s (z_kg (z_ko B s) j x - s) ∧ z_fr z_t33 I I' := by
    intro s hs hd j
    have eo : ∀ x, z_ko B s x = z_bw (B x) 48 57 := fun x => by unfold z_ko; rw [z_bw_ld hd, hd]; rfl
    induction j with
    | zero =>
      intro x h1 h2 hno x1 I1 J1 hf e16 e17 e15 e19
      have hno : z_ko B s x = false := hno
      rw [eo] at hno
      have p := z_p173 (d := d + 1) (X := X) (J := J1) ht (z_kk2_f hf h) (show x ≤ 1000 by omega)
      exact ⟨I1, z_q176_207 _ ⟨fun q => absurd e15 q, fun _ => ⟨_, _, _, _, by rw [e17]; exact p, fun _ => rfl, fun q => by rw [hno] at q; cases q⟩⟩, e16, e17, e15, e19, hf⟩
    | succ j ih =>
      intro x h1 h2 hno x1 I1 J1 hf e16 e17 e15 e19
      have p := z_p173 (d := d + 1) (X := X) (J := J1) ht (z_kk2_f hf h) (show x ≤ 1000 by omega)
      cases c : z_ko B s x with
      | false =>
        have ev : z_kg (z_ko B s) (j + 1) x = x := by show (if z_ko B s x then _ else x) = x; rw [c]; rfl
        rw [ev]
        rw [eo] at c
        exact ⟨I1, z_q176_207 _ ⟨fun q => absurd e15 q, fun _ => ⟨_, _, _, _, by rw [e17]; exact p, fun _ => rfl, fun q => by rw [c] at q; cases q⟩⟩, e16, e17, e15, e19, hf⟩
      | true =>
        have ev : z_kg (z_ko B s) (j + 1) x = z_kg (z_ko B s) j (x + 1) := by show (if z_ko B s x then z_kg (z_ko B s) j (x + 1) else x) = _; rw [c]; rfl
        rw [ev] at hno ⊢
        have hx1 := z_ko_b ht s x c
        rw [eo] at c
        have es : I1 33 0 17 - I1 33 0 16 = Int32.ofNat (x - s) := by rw [e16, e17, z_subn h1]
        have exs : x + 1 - s = (x - s) + 1 := by omega
        by_cases h9 : x - s < 2
        · obtain ⟨I', c1, c2, c3, c4, c5, c6⟩ := ih (x + 1) (by omega) hx1 hno x1 (z_up (z_up I1 33 0 19 ((((10 : Int32) * (I1 33 0 19)) + B x) - (48 : Int32))) 33 0 17 ((I1 33 0 17) + (1 : Int32))) J1 (z_fr_up (z_fr_up hf rfl) rfl) (by rw [z_up_j (by decide), z_up_j (by decide)]; exact e16) (by rw [z_up_e, e17, z_os]) (by rw [z_up_j (by decide), z_up_j (by decide)]; exact e15) (by
            rw [z_up_j (by decide), z_up_e, e19, exs]
            unfold z_knc
            rw [if_pos (by omega), if_pos (by omega), Int32.mul_comm]
            show _ = z_kf B s (x - s) * 10 + B (s + (x - s)) - 48
            rw [show s + (x - s) = x by omega])
          exact ⟨I', z_q176_207 _ ⟨fun q => absurd e15 q, fun _ => ⟨_, _, _, _, by rw [e17]; exact p, fun q => (by rw [c] at q; cases q), fun _ => ⟨fun q => (by rw [es] at q; exact absurd ((z_ole (a := 2) (by decide) (by omega)).mp q) (by omega)), fun _ => ⟨_, _, _, _, by rw [e17]; exact p, c1⟩⟩⟩⟩, c2, c3, c4, c5, c6⟩
        · obtain ⟨I', c1, c2, c3, c4, c5, c6⟩ := ih (x + 1) (by omega) hx1 hno x1 (z_up (z_up I1 33 0 19 (-1 : Int32)) 33 0 17 ((I1 33 0 17) + (1 : Int32))) J1 (z_fr_up (z_fr_up hf rfl) rfl) (by rw [z_up_j (by decide), z_up_j (by decide)]; exact e16) (by rw [z_up_e, e17, z_os]) (by rw [z_up_j (by decide), z_up_j (by decide)]; exact e15) (by
            rw [z_up_j (by decide), z_up_e, exs]
            unfold z_knc
            rw [if_neg (by omega)])
          exact ⟨I', z_q176_207 _ ⟨fun q => absurd e15 q, fun _ => ⟨_, _, _, _, by rw [e17]; exact p, fun q => (by rw [c] at q; cases q), fun _ => ⟨fun _ => c1, fun q => (by rw [es] at q; exact absurd ((z_olt (b := 2) (by omega) (by decide)).mp q) h9)⟩⟩⟩, c2, c3, c4, c5, c6⟩
  have letters : ∀ s, s ≤ k → z_bw (B s) 97 122 = true → ∀ j x, s ≤ x → x ≤ k → z_ko B s (z_kg (z_ko B s) j x) = false → ∀ (x1 : Int32) I1 J1, z_fr z_t33 I I1 → z_jn J J1 → I1 33 0 16 = Int32.ofNat s → I1 33 0 17 = Int32.ofNat x → I1 33 0 15 = 1 → J1 33 0 18 = z_kwd B s (x - s) → ∃ I' J', z_ev (d + 2) (176, 126, [some (z_r 33 0), some (z_i x1)], [], (true, X, I1, J1)) (none, (true, X, I', J')) ∧ I' 33 0 16 = Int32.ofNat s ∧ I' 33 0 17 = Int32.ofNat (z_kg (z_ko B s) j x) ∧ I' 33 0 15 = 1 ∧ J' 33 0 18 = z_kwd B s (z_kg (z_ko B s) j x - s) ∧ z_fr z_t33 I I' ∧ z_jn J J' ∧ I' 33 0 19 = I1 33 0 19 := by
    intro s hs hd j
    have hd2 : z_bw (B s) 48 57 = false := by
      rw [← Bool.not_eq_true]
      exact fun q => by rw [z_bw_ld q] at hd; cases hd
    have eo : ∀ x, z_ko B s x = z_bw (B x) 97 122 := fun x => by unfold z_ko; rw [hd2, hd, Bool.false_and, Bool.or_false]; rfl
    have endl : ∀ (x1 : Int32) I1 J1, I1 33 0 15 = 1 → z_ev (d + 2) (176, 207, [some (z_r 33 0), some (z_i x1)], [], (true, X, I1, J1)) (none, (true, X, I1, J1)) := fun x1 I1 J1 e15 => z_q176_207 _ ⟨fun _ => rfl, fun q => absurd (e15.symm.trans q) (by decide)⟩
    induction j with
    | zero =>
      intro x h1 h2 hno x1 I1 J1 hf hj e16 e17 e15 e18
      have hno : z_ko B s x = false := hno
      rw [eo] at hno
      have p := z_p173 (d := d + 1) (X := X) (J := J1) ht (z_kk2_f hf h) (show x ≤ 1000 by omega)
      exact ⟨I1, J1, z_q176_126 _ ⟨fun q => absurd e15 q, fun _ => ⟨_, _, _, _, by rw [e17]; exact p, fun _ => endl _ _ _ e15, fun q => by rw [hno] at q; cases q⟩⟩, e16, e17, e15, e18, hf, hj, rfl⟩
    | succ j ih =>
      intro x h1 h2 hno x1 I1 J1 hf hj e16 e17 e15 e18
      have p := z_p173 (d := d + 1) (X := X) (J := J1) ht (z_kk2_f hf h) (show x ≤ 1000 by omega)
      cases c : z_ko B s x with
      | false =>
        have ev : z_kg (z_ko B s) (j + 1) x = x := by show (if z_ko B s x then _ else x) = x; rw [c]; rfl
        rw [ev]
        rw [eo] at c
        exact ⟨I1, J1, z_q176_126 _ ⟨fun q => absurd e15 q, fun _ => ⟨_, _, _, _, by rw [e17]; exact p, fun _ => endl _ _ _ e15, fun q => by rw [c] at q; cases q⟩⟩, e16, e17, e15, e18, hf, hj, rfl⟩
      | true =>
        have ev : z_kg (z_ko B s) (j + 1) x = z_kg (z_ko B s) j (x + 1) := by show (if z_ko B s x then z_kg (z_ko B s) j (x + 1) else x) = _; rw [c]; rfl
        rw [ev] at hno ⊢
        have hx1 := z_ko_b ht s x c
        rw [eo] at c
        have es : I1 33 0 17 - I1 33 0 16 = Int32.ofNat (x - s) := by rw [e16, e17, z_subn h1]
        have exs : x + 1 - s = (x - s) + 1 := by omega
        by_cases h9 : x - s < 8
        · obtain ⟨I', J', c1, c2, c3, c4, c5, c6, c7, c8⟩ := ih (x + 1) (by omega) hx1 hno x1 (z_up I1 33 0 17 ((I1 33 0 17) + (1 : Int32))) (z_up J1 33 0 18 ((((27 : Int64) * (J1 33 0 18)) + (B x).toInt64) - (96 : Int64))) (z_fr_up hf rfl) (z_jn_up hj) (by rw [z_up_j (by decide)]; exact e16) (by rw [z_up_e, e17, z_os]) (by rw [z_up_j (by decide)]; exact e15) (by
            rw [z_up_e, e18, exs]
            show _ = if x - s < 8 then 27 * z_kwd B s (x - s) + (B (s + (x - s))).toInt64 - 96 else -1
            rw [if_pos h9, show s + (x - s) = x by omega])
          exact ⟨I', J', z_q176_126 _ ⟨fun q => absurd e15 q, fun _ => ⟨_, _, _, _, by rw [e17]; exact p, fun q => (by rw [c] at q; cases q), fun _ => ⟨fun q => (by rw [es] at q; exact absurd ((z_ole (a := 8) (by decide) (by omega)).mp q) (by omega)), fun _ => ⟨_, _, _, _, by rw [e17]; exact p, c1⟩⟩⟩⟩, c2, c3, c4, c5, c6, c7, by rw [c8, z_up_j (by decide)]⟩
        · obtain ⟨I', J', c1, c2, c3, c4, c5, c6, c7, c8⟩ := ih (x + 1) (by omega) hx1 hno x1 (z_up I1 33 0 17 ((I1 33 0 17) + (1 : Int32))) (z_up J1 33 0 18 (-1 : Int64)) (z_fr_up hf rfl) (z_jn_up hj) (by rw [z_up_j (by decide)]; exact e16) (by rw [z_up_e, e17, z_os]) (by rw [z_up_j (by decide)]; exact e15) (by
            rw [z_up_e, exs]
            show _ = if x - s < 8 then 27 * z_kwd B s (x - s) + (B (s + (x - s))).toInt64 - 96 else -1
            rw [if_neg h9])
          exact ⟨I', J', z_q176_126 _ ⟨fun q => absurd e15 q, fun _ => ⟨_, _, _, _, by rw [e17]; exact p, fun q => (by rw [c] at q; cases q), fun _ => ⟨fun _ => c1, fun q => (by rw [es] at q; exact absurd ((z_olt (b := 8) (by omega) (by decide)).mp q) h9)⟩⟩⟩, c2, c3, c4, c5, c6, c7, by rw [c8, z_up_j (by decide)]⟩
  have token : ∀ s, s ≤ k → ¬ B s = 32 → ∀ I1, z_fr z_t33 I I1 → I1 33 0 16 = Int32.ofNat s → ∃ I' J', z_ev (d + 2) (176, 8, [some (z_r 33 0), none], [], (true, X, I1, J)) (none, (true, X, I', J')) ∧ (I' 33 0 16 = Int32.ofNat s ∧ I' 33 0 17 = Int32.ofNat (z_ke B k s) ∧ I' 33 0 15 = z_kso B s ∧ I' 33 0 19 = z_kvl B s (z_ke B k s) ∧ J' 33 0 18 = z_kwo B s (z_ke B k s)) ∧ z_fr z_t33 I I' ∧ z_jn J J' := by
    intro s hs hsp I1 hf e16
    have p := z_p173 (d := d + 1) (X := X) (J := J) ht (z_kk2_f hf h) (show s ≤ 1000 by omega)
    have hf2 : z_fr z_t33 I (z_up I1 33 0 17 (I1 33 0 16)) := z_fr_up hf rfl
    have p2 := z_p173 (d := d + 1) (X := X) (J := J) ht (z_kk2_f hf2 h) (show s ≤ 1000 by omega)
    rw [← e16] at p p2
    rcases z_b0n (s := s) ht with ⟨hlt, h0⟩ | ⟨hge, hm1⟩
    · cases hL : z_bw (B s) 97 122 with
      | true =>
        have eso := z_kso_1 hL
        have eko : z_ko B s s = true := by unfold z_ko; rw [hL]; rfl
        have eke : z_ke B k s = z_kg (z_ko B s) 161 s := by
          unfold z_ke
          rw [if_pos hlt]
          show _ = if z_ko B s s then z_kg (z_ko B s) 160 (s + 1) else s
          rw [eko]; rfl
        obtain ⟨I', J', c1, c2, c3, c4, c5, c6, c7, c8⟩ := letters s hs hL 161 s (Nat.le_refl s) hs (z_kg_no (z_ko_b ht s) 161 s (by omega)) (B s) (z_up (z_up (z_up I1 33 0 17 (I1 33 0 16)) 33 0 15 (1 : Int32)) 33 0 19 (B s)) (z_up J 33 0 18 (0 : Int64)) (z_fr_up (z_fr_up hf2 rfl) rfl) (z_jn_up z_jn_rf) (by rw [z_up_j (by decide), z_up_j (by decide), z_up_j (by decide)]; exact e16) (by rw [z_up_j (by decide), z_up_j (by decide), z_up_e]; exact e16) (by rw [z_up_j (by decide), z_up_e]) (by rw [z_up_e, Nat.sub_self]; rfl)
        refine ⟨I', J', z_q176_8 ⟨_, _, _, _, p, fun _ => ⟨_, _, _, _, p2, fun _ => ⟨fun q => (by rw [hL] at q; cases q), fun _ => ⟨fun _ => ⟨fun _ => c1, fun q => absurd q (by decide)⟩, fun q => absurd q (by decide)⟩⟩, fun q => absurd h0 (Int32.not_le.mpr q)⟩, fun q => absurd q hsp⟩, ⟨c2, by rw [eke]; exact c3, by rw [eso]; exact c4, ?_, ?_⟩, c6, c7⟩
        · rw [c8, z_up_e]
          unfold z_kvl
          rw [eso]
          rfl
        · rw [c5, eke]
          unfold z_kwo
          rw [if_pos eso]
      | false =>
        cases hD : z_bw (B s) 48 57 with
        | true =>
          have eso := z_kso_2 hD
          have eko : z_ko B s s = true := by unfold z_ko; rw [hL, hD]; rfl
          have eke : z_ke B k s = z_kg (z_ko B s) 161 s := by
            unfold z_ke
            rw [if_pos hlt]
            show _ = if z_ko B s s then z_kg (z_ko B s) 160 (s + 1) else s
            rw [eko]; rfl
          obtain ⟨I', c1, c2, c3, c4, c5, c6⟩ := digits s hs hD 161 s (Nat.le_refl s) hs (z_kg_no (z_ko_b ht s) 161 s (by omega)) (B s) (z_up (z_up (z_up I1 33 0 17 (I1 33 0 16)) 33 0 15 (2 : Int32)) 33 0 19 (0 : Int32)) (z_up J 33 0 18 (0 : Int64)) (z_fr_up (z_fr_up hf2 rfl) rfl) (by rw [z_up_j (by decide), z_up_j (by decide), z_up_j (by decide)]; exact e16) (by rw [z_up_j (by decide), z_up_j (by decide), z_up_e]; exact e16) (by rw [z_up_j (by decide), z_up_e]) (by rw [z_up_e, Nat.sub_self]; rfl)
          have e15 : (z_up (z_up (z_up I1 33 0 17 (I1 33 0 16)) 33 0 15 (2 : Int32)) 33 0 19 (0 : Int32)) 33 0 15 = 2 := by rw [z_up_j (by decide), z_up_e]
          refine ⟨I', z_up J 33 0 18 (0 : Int64), z_q176_8 ⟨_, _, _, _, p, fun _ => ⟨_, _, _, _, p2, fun _ => ⟨fun _ => ⟨fun q => (by rw [hD] at q; cases q), fun _ => ⟨fun q => absurd rfl q, fun _ => z_q176_126 _ ⟨fun _ => c1, fun q => absurd (e15.symm.trans q) (by decide)⟩⟩⟩, fun q => (by rw [hL] at q; cases q)⟩, fun q => absurd h0 (Int32.not_le.mpr q)⟩, fun q => absurd q hsp⟩, ⟨c2, by rw [eke]; exact c3, by rw [eso]; exact c4, ?_, ?_⟩, c6, z_jn_up z_jn_rf⟩
          · rw [c5, eke]
            unfold z_kvl
            rw [if_pos eso]
          · rw [z_up_e]
            unfold z_kwo
            rw [eso]
            rfl
        | false =>
          have eso := z_kso_3 h0 hL hD
          have eke : z_ke B k s = s + 1 := by
            unfold z_ke
            rw [if_pos hlt]
            show (if z_ko B s (s + 1) then z_kg (z_ko B s) 159 (s + 1 + 1) else s + 1) = s + 1
            rw [if_neg (by unfold z_ko; rw [hL, hD, Bool.false_and, Bool.false_and]; decide)]
          have e15 : (z_up (z_up (z_up (z_up I1 33 0 17 (I1 33 0 16)) 33 0 15 (3 : Int32)) 33 0 19 (B s)) 33 0 17 ((z_up I1 33 0 17 (I1 33 0 16)) 33 0 17 + (1 : Int32))) 33 0 15 = 3 := by rw [z_up_j (by decide), z_up_j (by decide), z_up_e]
          refine ⟨_, z_up J 33 0 18 (0 : Int64), z_q176_8 ⟨_, _, _, _, p, fun _ => ⟨_, _, _, _, p2, fun _ => ⟨fun _ => ⟨fun _ => ⟨fun _ => ⟨fun q => absurd rfl q, fun _ => z_q176_126 _ ⟨fun _ => z_q176_207 _ ⟨fun _ => rfl, fun q => absurd (e15.symm.trans q) (by decide)⟩, fun q => absurd (e15.symm.trans q) (by decide)⟩⟩, fun q => absurd q (by decide)⟩, fun q => (by rw [hD] at q; cases q)⟩, fun q => (by rw [hL] at q; cases q)⟩, fun q => absurd h0 (Int32.not_le.mpr q)⟩, fun q => absurd q hsp⟩, ⟨?_, ?_, by rw [eso]; exact e15, ?_, ?_⟩, z_fr_up (z_fr_up (z_fr_up hf2 rfl) rfl) rfl, z_jn_up z_jn_rf⟩
          · rw [z_up_j (by decide), z_up_j (by decide), z_up_j (by decide), z_up_j (by decide)]; exact e16
          · rw [z_up_e, z_up_e, e16, z_os, eke]
          · rw [z_up_j (by decide), z_up_e]
            unfold z_kvl
            rw [eso]
            rfl
          · rw [z_up_e]
            unfold z_kwo
            rw [eso]
            rfl
    · have eso := z_kso_0 ht hge
      have eke : z_ke B k s = s := by
        unfold z_ke
        rw [if_neg (by omega)]
        show (if z_ko B s s then z_kg (z_ko B s) 159 (s + 1) else s) = s
        rw [if_neg (by unfold z_ko; rw [hm1]; decide)]
      have e15 : (z_up (z_up (z_up I1 33 0 17 (I1 33 0 16)) 33 0 15 (0 : Int32)) 33 0 19 (B s)) 33 0 15 = 0 := by rw [z_up_j (by decide), z_up_e]
      refine ⟨_, z_up J 33 0 18 (0 : Int64), z_q176_8 ⟨_, _, _, _, p, fun _ => ⟨_, _, _, _, p2, fun q => absurd q (by rw [hm1]; decide), fun _ => ⟨fun _ => ⟨fun _ => z_q176_126 _ ⟨fun _ => z_q176_207 _ ⟨fun _ => rfl, fun q => absurd (e15.symm.trans q) (by decide)⟩, fun q => absurd (e15.symm.trans q) (by decide)⟩, fun q => absurd q (by decide)⟩, fun q => absurd q (by decide)⟩⟩, fun q => absurd q hsp⟩, ⟨?_, ?_, by rw [eso]; exact e15, ?_, ?_⟩, z_fr_up (z_fr_up hf2 rfl) rfl, z_jn_up z_jn_rf⟩
      · rw [z_up_j (by decide), z_up_j (by decide), z_up_j (by decide)]; exact e16
      · rw [z_up_j (by decide), z_up_j (by decide), z_up_e, e16, eke]
      · rw [z_up_e]
        unfold z_kvl
        rw [eso]
        rfl
      · rw [z_up_e]
        unfold z_kwo
        rw [eso]
        rfl
  have spaces : ∀ j x, x ≤ k → ¬ B (z_kg (fun x => decide (B x = 32)) j x) = 32 → ∀ I1, z_fr z_t33 I I1 → I1 33 0 16 = Int32.ofNat x → ∃ I' J', z_ev (d + 2) (176, 8, [some (z_r 33 0), none], [], (true, X, I1, J)) (none, (true, X, I', J')) ∧ (I' 33 0 16 = Int32.ofNat (z_kg (fun x => decide (B x = 32)) j x) ∧ I' 33 0 17 = Int32.ofNat (z_ke B k (z_kg (fun x => decide (B x = 32)) j x)) ∧ I' 33 0 15 = z_kso B (z_kg (fun x => decide (B x = 32)) j x) ∧ I' 33 0 19 = z_kvl B (z_kg (fun x => decide (B x = 32)) j x) (z_ke B k (z_kg (fun x => decide (B x = 32)) j x)) ∧ J' 33 0 18 = z_kwo B (z_kg (fun x => decide (B x = 32)) j x) (z_ke B k (z_kg (fun x => decide (B x = 32)) j x))) ∧ z_fr z_t33 I I' ∧ z_jn J J' := by
    intro j
    induction j with
    | zero =>
      intro x hx hno I1 hf e16
      exact token x hx hno I1 hf e16
    | succ j ih =>
      intro x hx hno I1 hf e16
      by_cases c : B x = 32
      · have ev : z_kg (fun x => decide (B x = 32)) (j + 1) x = z_kg (fun x => decide (B x = 32)) j (x + 1) := by
          show (if decide (B x = 32) = true then z_kg (fun x => decide (B x = 32)) j (x + 1) else x) = _
          rw [if_pos (decide_eq_true c)]
        rw [ev] at hno ⊢
        have hx1 := z_ks_b ht x (decide_eq_true c)
        have p := z_p173 (d := d + 1) (X := X) (J := J) ht (z_kk2_f hf h) (show x ≤ 1000 by omega)
        rw [← e16] at p
        obtain ⟨I', J', c1, c2⟩ := ih (x + 1) hx1 hno (z_up I1 33 0 16 ((I1 33 0 16) + (1 : Int32))) (z_fr_up hf rfl) (by rw [z_up_e, e16, z_os])
        exact ⟨I', J', z_q176_8 ⟨_, _, _, _, p, fun q => absurd c q, fun _ => c1⟩, c2⟩
      · have ev : z_kg (fun x => decide (B x = 32)) (j + 1) x = x := by
          show (if decide (B x = 32) = true then z_kg (fun x => decide (B x = 32)) j (x + 1) else x) = x
          rw [if_neg (fun q => c (of_decide_eq_true q))]
        rw [ev]
        exact token x hx c I1 hf e16
  have hno : ¬ B (z_kg (fun x => decide (B x = 32)) 160 e) = 32 := of_decide_eq_false (z_kg_no (P := fun x => decide (B x = 32)) (z_ks_b ht) 160 e (by omega))
  obtain ⟨I', J', c1, c2, c3, c4⟩ := spaces 160 e he hno (z_up I 33 0 16 (I 33 0 17)) (z_fr_up z_fr_rf rfl) (by rw [z_up_e]; exact h17)
  exact ⟨I', J', z_q176_e c1, c2, c3, c4⟩
end
