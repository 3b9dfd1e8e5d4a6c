/-! read: what a text says; the class -/
def z_kE (least c : Nat) (g : Nat → Nat) (p q : Nat) : Prop := ∃ i j, i < j ∧ j < c ∧ (least = 1 ∨ j = i + 1) ∧ ((p = g i ∧ q = g j) ∨ (p = g j ∧ q = g i))
def z_kF (least c : Nat) (g : Nat → Nat) (p q : Nat) : Prop := z_kE least c g p q ∨ (least = 3 ∧ ((p = g 0 ∧ q = g (c - 1)) ∨ (p = g (c - 1) ∧ q = g 0)))
/-- posts of a clause -/
def z_kcl (B : Nat → Int32) (k n least : Nat) : Nat → Nat → Nat → (Nat → Nat) → Sum Nat (Nat × Nat × (Nat → Nat))
  | 0, e, c, g => if B (z_ks B e) = 59 then Sum.inr (z_ke B k (z_ks B e), c, g) else Sum.inl (z_ks B e)
  | j + 1, e, c, g => if least ≤ c ∧ B (z_ks B e) = 59 then Sum.inr (z_ke B k (z_ks B e), c, g) else
      if 0 ≤ z_kn B (z_ks B e) (z_ke B k (z_ks B e)) ∧ z_kn B (z_ks B e) (z_ke B k (z_ks B e)) < Int32.ofNat n ∧ (z_um g c).testBit (z_kn B (z_ks B e) (z_ke B k (z_ks B e))).toNatClampNeg = false then z_kcl B k n least j (z_ke B k (z_ks B e)) (c + 1) (z_upd g c (z_kn B (z_ks B e) (z_ke B k (z_ks B e))).toNatClampNeg) else Sum.inl (z_ks B e)
def z_kd (B : Nat → Int32) (s en : Nat) : Nat := if z_km B s en 1 then 1 else if z_km B s en 2 then 3 else if z_km B s en 3 then 2 else 0
/-- clauses -/
def z_kp (B : Nat → Int32) (k n : Nat) : Nat → Nat → (Nat → Nat → Prop) → Sum Nat (Nat → Nat → Prop)
  | 0, _, R => Sum.inr R
  | j + 1, e, R => if k ≤ z_ks B e then Sum.inr R else if z_kd B (z_ks B e) (z_ke B k (z_ks B e)) = 0 then Sum.inl (z_ks B e) else
      match z_kcl B k n (z_kd B (z_ks B e) (z_ke B k (z_ks B e))) 10 (z_ke B k (z_ks B e)) 0 (fun i => i) with
      | Sum.inl x => Sum.inl x
      | Sum.inr y => z_kp B k n j y.1 (fun p q => R p q ∨ z_kF (z_kd B (z_ks B e) (z_ke B k (z_ks B e))) y.2.1 y.2.2 p q)
def z_kM (I : Nat → Nat → Nat → Int32) (t i o : Nat) (R : Nat → Nat → Prop) : Prop := ∃ m : Nat → Nat, z_hm I t i o m ∧ (∀ p, p < 10 → m p < 1024) ∧ ∀ p q, p < 10 → ((m p).testBit q = true ↔ R p q)
theorem z_kM_cg {I : Nat → Nat → Nat → Int32} {t i o : Nat} {R R' : Nat → Nat → Prop} (h : z_kM I t i o R) (hR : ∀ p q, p < 10 → (R p q ↔ R' p q)) : z_kM I t i o R' := by
  obtain ⟨m, h1, h2, h3⟩ := h
  exact ⟨m, h1, h2, fun p q hp => (h3 p q hp).trans (hR p q hp)⟩
theorem z_kM_eq {I I' : Nat → Nat → Nat → Int32} {t i o : Nat} {R : Nat → Nat → Prop} (h : z_kM I t i o R) (hI : ∀ p, I' t i p = I t i p) : z_kM I' t i o R := by
  obtain ⟨m, h1, h2, h3⟩ := h
  exact ⟨m, fun p hp => by rw [hI]; exact h1 p hp, h2, h3⟩
theorem z_kM_sr {I : Nat → Nat → Nat → Int32} {t i o a b : Nat} {R : Nat → Nat → Prop} (h : z_kM I t i o R) (ha : a < 10) (hb : b < 10) (hab : a ≠ b) : z_kM (z_sr I t i o a b true) t i o (fun p q => R p q ∨ (p = a ∧ q = b) ∨ (p = b ∧ q = a)) := by
  obtain ⟨m, h1, h2, h3⟩ := h
  have ht := z_ms_tb h2 ha hb hab true
  refine ⟨z_ms m a b true, fun p hp => z_sr_at h2 h1 ha hb hab true hp, fun p hp => ?_, fun p q hp => ?_⟩
  · unfold z_ms
    split
    · exact z_sb_lt (h2 a ha) hb true
    · split
      · exact z_sb_lt (h2 b hb) ha true
      · exact h2 p hp
  · rw [ht]
    by_cases c : (p = a ∧ q = b) ∨ (p = b ∧ q = a)
    · rw [if_pos c]
      exact ⟨fun _ => Or.inr c, fun _ => rfl⟩
    · rw [if_neg c, h3 p q hp]
      exact ⟨Or.inl, fun q9 => q9.elim id (fun q8 => absurd q8 c)⟩
def z_tP (a b c : Nat) : Bool := (Nat.beq a 15 && (Nat.beq c 3 || Nat.beq c 4)) || (Nat.beq a 14 && Nat.beq b 8)
theorem z_t15_P {I I' : Nat → Nat → Nat → Int32} (h : z_fr z_t15 I I') : z_fr z_tP I I' := z_fr_mn h (fun a b c q => by
  unfold z_t15 at q
  unfold z_tP
  rw [q]
  rfl)
theorem z_kk1_P {I I' : Nat → Nat → Nat → Int32} {B : Nat → Int32} {k : Nat} (hf : z_fr z_tP I I') (h : z_kk1 I B k) : z_kk1 I' B k := ⟨by rw [hf 15 0 1 rfl]; exact h.1, fun e he => by rw [hf 16 0 e rfl]; exact h.2 e he⟩
theorem z_kE_up {least c v : Nat} {g : Nat → Nat} {p q : Nat} : z_kE least (c + 1) (z_upd g c v) p q ↔ z_kE least c g p q ∨ ∃ i, i < c ∧ (least = 1 ∨ c = i + 1) ∧ ((p = g i ∧ q = v) ∨ (p = v ∧ q = g i)) := by
  constructor
  · intro ⟨i, j, h1, h2, h3, h4⟩
    by_cases e : j = c
    · subst e
      rw [z_upd_e, z_upd_n (show i ≠ j by omega)] at h4
      exact Or.inr ⟨i, h1, h3, h4⟩
    · rw [z_upd_n (show i ≠ c by omega), z_upd_n e] at h4
      exact Or.inl ⟨i, j, h1, by omega, h3, h4⟩
  · intro h
    rcases h with ⟨i, j, h1, h2, h3, h4⟩ | ⟨i, h1, h3, h4⟩
    · exact ⟨i, j, h1, by omega, h3, by rw [z_upd_n (show i ≠ c by omega), z_upd_n (show j ≠ c by omega)]; exact h4⟩
    · exact ⟨i, c, h1, by omega, h3, by rw [z_upd_e, z_upd_n (show i ≠ c by omega)]; exact h4⟩
section
variable {d : Nat} {X : z_X} {I : Nat → Nat → Nat → Int32} {J : Nat → Nat → Nat → Int64}
theorem z_p50 {n post S : Nat} {R : Nat → Nat → Prop} (hn : n ≤ 10) (e13 : I 13 8 1 = Int32.ofNat n) (hp : post < n) (hS : S < 1024) (hb : S.testBit post = false) (hM : z_kM I 14 8 0 R) : ∃ I', z_ev (d + 1) (z_en 50 [z_r 15 0, z_i (Int32.ofNat post), z_i (Int32.ofNat S)] (true, X, I, J)) (none, (true, X, I', J)) ∧ z_kM I' 14 8 0 (fun p q => R p q ∨ (q = post ∧ S.testBit p = true ∧ p < n) ∨ (p = post ∧ S.testBit q = true ∧ q < n)) ∧ z_fr (fun a b _ => Nat.beq a 14 && Nat.beq b 8) I I' := by
  have key : ∀ j u, u + j = n → ∀ I1, z_kM I1 14 8 0 (fun p q => R p q ∨ (q = post ∧ S.testBit p = true ∧ p < u) ∨ (p = post ∧ S.testBit q = true ∧ q < u)) → z_fr (fun a b _ => Nat.beq a 14 && Nat.beq b 8) I I1 → ∃ I', z_ev (d + 1) (50, 2, [some (z_r 15 0), some (z_i (Int32.ofNat post)), some (z_i (Int32.ofNat S)), some (z_i (Int32.ofNat u))], [], (true, X, I1, J)) (none, (true, X, I', J)) ∧ z_kM I' 14 8 0 (fun p q => R p q ∨ (q = post ∧ S.testBit p = true ∧ p < n) ∨ (p = post ∧ S.testBit q = true ∧ q < n)) ∧ z_fr (fun a b _ => Nat.beq a 14 && Nat.beq b 8) I I' := by
    intro j
    induction j with
    | zero =>
      intro u hu I1 h1 h2
      obtain rfl : u = n := by omega
      refine ⟨I1, z_q50_2 _ _ _ ⟨fun _ => rfl, fun q => ?_⟩, h1, h2⟩
      rw [h2 13 8 1 rfl, e13] at q
      exact absurd ((z_olt (by omega) (by omega)).mp q) (by omega)
    | succ j ih =>
      intro u hu I1 h1 h2
      have hge : ¬ I1 13 8 1 ≤ Int32.ofNat u := by
        rw [h2 13 8 1 rfl, e13]
        exact fun q => absurd ((z_ole (by omega) (by omega)).mp q) (by omega)
      have hb2 := z_bt_2k S (by omega) u (by omega)
      cases c : S.testBit u with
      | false =>
        rw [c] at hb2
        obtain ⟨I', c1, c2, c3⟩ := ih (u + 1) (by omega) I1 (z_kM_cg h1 (fun p q hp => by
          constructor
          · intro h
            rcases h with h | ⟨h, h', h''⟩ | ⟨h, h', h''⟩
            · exact Or.inl h
            · exact Or.inr (Or.inl ⟨h, h', by omega⟩)
            · exact Or.inr (Or.inr ⟨h, h', by omega⟩)
          · intro h
            rcases h with h | ⟨h, h', h''⟩ | ⟨h, h', h''⟩
            · exact Or.inl h
            · by_cases e : p = u
              · rw [e, c] at h'; cases h'
              · exact Or.inr (Or.inl ⟨h, h', by omega⟩)
            · by_cases e : q = u
              · rw [e, c] at h'; cases h'
              · exact Or.inr (Or.inr ⟨h, h', by omega⟩))) h2
        refine ⟨I', z_q50_2 _ _ _ ⟨fun q => absurd q hge, fun _ => ⟨fun _ => ?_, fun q => absurd q (of_decide_eq_false hb2)⟩⟩, c2, c3⟩
        rw [z_os]
        exact c1
      | true =>
        rw [c] at hb2
        have hne : u ≠ post := fun e => by rw [e, hb] at c; cases c
        have p23 := z_p23 (d := d) (X := X) (I := I1) (J := J) (q := 8) (a := u) (b := post) (by decide) (by omega) (by omega) true
        obtain ⟨I', c1, c2, c3⟩ := ih (u + 1) (by omega) (z_sr I1 14 8 0 u post true) (z_kM_cg (z_kM_sr h1 (by omega) (by omega) hne) (fun p q hp => by
          constructor
          · intro h
            rcases h with (h | ⟨h, h', h''⟩ | ⟨h, h', h''⟩) | ⟨h, h'⟩ | ⟨h, h'⟩
            · exact Or.inl h
            · exact Or.inr (Or.inl ⟨h, h', by omega⟩)
            · exact Or.inr (Or.inr ⟨h, h', by omega⟩)
            · exact Or.inr (Or.inl ⟨h', by rw [h]; exact c, by omega⟩)
            · exact Or.inr (Or.inr ⟨h, by rw [h']; exact c, by omega⟩)
          · intro h
            rcases h with h | ⟨h, h', h''⟩ | ⟨h, h', h''⟩
            · exact Or.inl (Or.inl h)
            · by_cases e : p = u
              · exact Or.inr (Or.inl ⟨e, h⟩)
              · exact Or.inl (Or.inr (Or.inl ⟨h, h', by omega⟩))
            · by_cases e : q = u
              · exact Or.inr (Or.inr ⟨h, e⟩)
              · exact Or.inl (Or.inr (Or.inr ⟨h, h', by omega⟩)))) (z_fr_sr h2 rfl rfl)
        refine ⟨I', z_q50_2 _ _ _ ⟨fun q => absurd q hge, fun _ => ⟨fun q => absurd q (of_decide_eq_true hb2), fun _ => ⟨_, _, _, p23, ?_⟩⟩⟩, c2, c3⟩
        rw [z_os]
        exact c1
  obtain ⟨I', c1, c2, c3⟩ := key n 0 (by omega) I (z_kM_cg hM (fun p q hp => ⟨Or.inl, fun h => by
    rcases h with h | ⟨_, _, h⟩ | ⟨_, _, h⟩
    · exact h
    · exact absurd h (Nat.not_lt_zero _)
    · exact absurd h (Nat.not_lt_zero _)⟩)) z_fr_rf
  exact ⟨I', z_q50_e _ _ c1, c2, c3⟩
end
