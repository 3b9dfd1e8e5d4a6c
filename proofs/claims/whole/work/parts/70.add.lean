/-! calls of both: add -/
def z_sha (I : Nat → Nat → Nat → Int32) (q : Nat) (c n a b : Int32) : Nat → Nat → Nat → Int32 := z_up (z_up (z_up (z_up (z_zr I 32 q 0) 32 q 0 c) 32 q 1 n) 32 q 2 a) 32 q 3 b
def z_shX (X : z_X) (k : Nat) : z_X := (X.1 + 1, X.2.1 + 4, z_u1 X.2.2.1 X.1 k, X.2.2.2)
def z_tld (x a b : Int32) : Prop := (x = 0 ∧ z_isb a b) ∨ (x = 1 ∧ z_bw a 0 9999 = true) ∨ (x = 2 ∧ z_bw a (-9) 9 = true ∧ z_bw b (-9) 9 = true) ∨ (x = 3 ∧ z_bw a 0 9999 = true)
def z_mad (I : Nat → Nat → Nat → Int32) (k : Nat) (c a b : Int32) : Nat → Nat → Nat → Int32 := z_up (z_up (z_up (z_up (z_up I 39 0 (4 * k) c) 39 0 (4 * k + 1) a) 39 0 (4 * k + 2) b) 39 0 (4 * k + 3) 0) 33 0 8 (Int32.ofNat (k + 1))
section
variable {d : Nat} {X : z_X} {I : Nat → Nat → Nat → Int32} {J : Nat → Nat → Nat → Int64}
theorem z_p146t {x a b : Int32} (h : z_tld x a b) : z_ev (d + 3) (z_en 146 [z_i x, z_i a, z_i b] (true, X, I, J)) (some (z_i (z_c true)), (true, X, I, J)) := by
  rcases h with ⟨rfl, k, i, h1, h2, h3, rfl, rfl⟩ | ⟨rfl, h⟩ | ⟨rfl, h, h9⟩ | ⟨rfl, h⟩
  · exact z_q146_e _ _ _ ⟨fun _ => ⟨true, _, _, _, z_p129t h1 h2 h3, rfl⟩, fun h => absurd rfl h⟩
  · obtain ⟨q0, q1⟩ := z_bw_t.mp h
    exact z_q146_e _ _ _ ⟨fun h => absurd h (by decide), fun _ => ⟨fun _ => ⟨fun h => absurd q0 (Int32.not_le.mpr h), fun _ => ⟨fun h => absurd q1 (Int32.not_le.mpr h), fun _ => rfl⟩⟩, fun h => absurd rfl h⟩⟩
  · obtain ⟨q0, q1⟩ := z_bw_t.mp h
    obtain ⟨q2, q3⟩ := z_bw_t.mp h9
    exact z_q146_e _ _ _ ⟨fun h => absurd h (by decide), fun _ => ⟨fun h => absurd h (by decide), fun _ => ⟨fun _ => ⟨fun h => absurd q0 (Int32.not_le.mpr h), fun _ => ⟨fun h => absurd q1 (Int32.not_le.mpr h), fun _ => ⟨fun h => absurd q2 (Int32.not_le.mpr h), fun _ => ⟨fun h => absurd q3 (Int32.not_le.mpr h), fun _ => rfl⟩⟩⟩⟩, fun h => absurd rfl h⟩⟩⟩
  · obtain ⟨q0, q1⟩ := z_bw_t.mp h
    exact z_q146_e _ _ _ ⟨fun h => absurd h (by decide), fun _ => ⟨fun h => absurd h (by decide), fun _ => ⟨fun h => absurd h (by decide), fun _ => ⟨fun _ => ⟨fun h => absurd q0 (Int32.not_le.mpr h), fun _ => ⟨fun h => absurd q1 (Int32.not_le.mpr h), fun _ => rfl⟩⟩, fun h => absurd rfl h⟩⟩⟩⟩
theorem z_p146f {x a b : Int32} (hn : ¬ z_tld x a b) : z_ev (d + 3) (z_en 146 [z_i x, z_i a, z_i b] (true, X, I, J)) (some (z_i (z_c false)), (true, X, I, J)) := by
  refine z_q146_e _ _ _ ⟨fun h => ⟨false, _, _, _, z_p129f (fun q => hn (Or.inl ⟨h, q⟩)), rfl⟩, fun _ => ⟨fun h => ⟨fun _ => rfl, fun q0 => ⟨fun _ => rfl, fun q1 => ?_⟩⟩, fun _ => ⟨fun h => ⟨fun _ => rfl, fun q0 => ⟨fun _ => rfl, fun q1 => ⟨fun _ => rfl, fun q2 => ⟨fun _ => rfl, fun q3 => ?_⟩⟩⟩⟩, fun _ => ⟨fun h => ⟨fun _ => rfl, fun q0 => ⟨fun _ => rfl, fun q1 => ?_⟩⟩, fun _ => rfl⟩⟩⟩⟩
  · exact absurd (Or.inr (Or.inl ⟨h, z_bw_t.mpr ⟨q0, q1⟩⟩)) hn
  · exact absurd (Or.inr (Or.inr (Or.inl ⟨h, z_bw_t.mpr ⟨q0, q1⟩, z_bw_t.mpr ⟨q2, q3⟩⟩))) hn
  · exact absurd (Or.inr (Or.inr (Or.inr ⟨h, z_bw_t.mpr ⟨q0, q1⟩⟩))) hn
theorem z_p38 {q : Nat} (hq : q < X.1) (c n a b : Int32) : z_ev (d + 1) (z_en 38 [z_r 32 q, z_i c, z_i n, z_i a, z_i b] (true, X, I, J)) (none, (true, X, z_up (z_up (z_up (z_up I 32 q 0 c) 32 q 1 n) 32 q 2 a) 32 q 3 b, J)) := z_q38_e q _ _ _ _ ⟨_, _, _, z_q27_e q _ _ _ _ ⟨hq, rfl⟩, rfl⟩
theorem z_p147 {c : Nat} (hc : c < 4) (n a b : Int32) : z_ev (d + 3) (z_en 147 [z_i (Int32.ofNat c), z_i n, z_i a, z_i b] (true, X, I, J)) (some (z_r 32 X.1), (true, z_shX X (z_kc c), z_sha I X.1 (Int32.ofNat c) n a b, J)) := by
  have hq : ∀ k, X.1 < (z_shX X k).1 := fun k => Nat.lt_succ_self _
  rcases (by omega : c = 0 ∨ c = 1 ∨ c = 2 ∨ c = 3) with rfl | rfl | rfl | rfl
  · exact z_q147_e _ _ _ _ ⟨fun h => absurd h (by decide), fun _ => ⟨fun h => absurd h (by decide), fun _ => ⟨fun h => absurd h (by decide), fun _ => ⟨z_shX X (z_kc 0), _, _, z_q27_e X.1 _ _ _ _ ⟨hq _, rfl⟩, rfl⟩⟩⟩⟩
  · exact z_q147_e _ _ _ _ ⟨fun _ => ⟨z_shX X (z_kc 1), _, _, z_p38 (X := z_shX X (z_kc 1)) (hq _) _ _ _ _, rfl⟩, fun h => absurd rfl h⟩
  · exact z_q147_e _ _ _ _ ⟨fun h => absurd h (by decide), fun _ => ⟨fun _ => ⟨z_shX X (z_kc 2), _, _, z_q35_e _ _ _ _ ⟨_, _, _, z_p38 (X := z_shX X (z_kc 2)) (hq _) _ _ _ _, rfl⟩, rfl⟩, fun h => absurd rfl h⟩⟩
  · exact z_q147_e _ _ _ _ ⟨fun h => absurd h (by decide), fun _ => ⟨fun h => absurd h (by decide), fun _ => ⟨fun _ => ⟨z_shX X (z_kc 3), _, _, z_q0_e _ _ _ _ ⟨_, _, _, z_p38 (X := z_shX X (z_kc 3)) (hq _) _ _ _ _, rfl⟩, rfl⟩, fun h => absurd rfl h⟩⟩⟩
theorem z_p230f (ht : z_Tb I) {x a b : Int32} (hn : ¬ z_tld x a b) : z_ev (d + 3) (z_en 230 [z_r 33 0, z_i x, z_i a, z_i b] (true, X, I, J)) (some (z_i (-1)), (true, X, I, J)) := by
  refine z_q230_e _ _ _ ⟨fun _ => ⟨fun _ => ⟨fun h => ⟨fun _ => rfl, fun q => ?_⟩, fun _ => ⟨fun _ => rfl, fun h => ⟨fun _ => rfl, fun q => ?_⟩⟩⟩, fun h => ⟨fun _ => rfl, fun q => ⟨fun _ => rfl, fun q2 => ?_⟩⟩⟩, fun h => ⟨fun _ => rfl, fun q => ⟨false, _, _, _, z_p166f ht (fun q9 => ?_), fun _ => rfl, fun h => (by cases h)⟩⟩⟩
  · exact absurd (Or.inr (Or.inl ⟨h, q⟩)) hn
  · exact absurd (Or.inr (Or.inr (Or.inr ⟨h, q⟩))) hn
  · exact absurd (Or.inr (Or.inr (Or.inl ⟨h, q, q2⟩))) hn
  · obtain ⟨k, h1, h2, rfl⟩ := z_bw23 q
    exact hn (Or.inl ⟨h, (z_isb_f h1 h2).mp q9⟩)
theorem z_p230F (ht : z_Tb I) {x a b : Int32} (h : z_tld x a b) (e : I 33 0 8 = 6) : z_ev (d + 3) (z_en 230 [z_r 33 0, z_i x, z_i a, z_i b] (true, X, I, J)) (some (z_i (-2)), (true, X, I, J)) := by
  have ne : ∀ {P : Prop}, ¬ I 33 0 8 = 6 → P := fun h => absurd e h
  rcases h with ⟨rfl, k, i, h1, h2, h3, rfl, rfl⟩ | ⟨rfl, h⟩ | ⟨rfl, h, h9⟩ | ⟨rfl, h⟩
  · have hb : z_bw (Int32.ofNat k) 2 3 = true := z_bw_t.mpr ⟨(z_ole (a := 2) (by decide) (by omega)).mpr h1, (z_ole (b := 3) (by omega) (by decide)).mpr h2⟩
    refine z_q230_e _ _ _ ⟨fun h => absurd rfl h, fun _ => ⟨fun h => ?_, fun _ => ⟨true, _, _, _, z_p166t ht (by omega) (by omega) h3, fun h => (by cases h), fun _ => ⟨fun h => ne h, fun _ => rfl⟩⟩⟩⟩
    rw [hb] at h; cases h
  · refine z_q230_e _ _ _ ⟨fun _ => ⟨fun _ => ⟨fun _ => ⟨fun q => ?_, fun _ => ⟨fun h => ne h, fun _ => rfl⟩⟩, fun h => absurd rfl h⟩, fun h => absurd h (by decide)⟩, fun h => absurd h (by decide)⟩
    rw [h] at q; cases q
  · refine z_q230_e _ _ _ ⟨fun _ => ⟨fun h => absurd rfl h, fun _ => ⟨fun q => ?_, fun _ => ⟨fun q => ?_, fun _ => ⟨fun h => ne h, fun _ => rfl⟩⟩⟩⟩, fun h => absurd h (by decide)⟩
    · rw [h] at q; cases q
    · rw [h9] at q; cases q
  · refine z_q230_e _ _ _ ⟨fun _ => ⟨fun _ => ⟨fun h => absurd h (by decide), fun _ => ⟨fun h => absurd rfl h, fun _ => ⟨fun q => ?_, fun _ => ⟨fun h => ne h, fun _ => rfl⟩⟩⟩⟩, fun h => absurd h (by decide)⟩, fun h => absurd h (by decide)⟩
    rw [h] at q; cases q
theorem z_p230t (ht : z_Tb I) {x a b : Int32} {k : Nat} (h : z_tld x a b) (hk : k < 6) (e : I 33 0 8 = Int32.ofNat k) : z_ev (d + 3) (z_en 230 [z_r 33 0, z_i x, z_i a, z_i b] (true, X, I, J)) (some (z_i (Int32.ofNat k)), (true, X, z_mad I k x a b, J)) := by
  have ne : ∀ {P : Prop}, I 33 0 8 = 6 → P := fun h => by
    rw [e] at h
    exact absurd ((z_oeq (b := 6) (by omega) (by decide)).mp h) (by omega)
  have l0 : (4 : Int32) * I 33 0 8 = Int32.ofNat (4 * k) := by rw [e, Int32.ofNat_mul]; rfl
  have l1 : (4 : Int32) * I 33 0 8 + 1 = Int32.ofNat (4 * k + 1) := by rw [e]; exact z_o4 k 1
  have l2 : (4 : Int32) * I 33 0 8 + 2 = Int32.ofNat (4 * k + 2) := by rw [e]; exact z_o4 k 2
  have l3 : (4 : Int32) * I 33 0 8 + 3 = Int32.ofNat (4 * k + 3) := by rw [e]; exact z_o4 k 3
  have g1 : I 33 0 8 + 1 - 1 = Int32.ofNat k := by rw [e]; exact Int32.add_sub_cancel _ _
  have g2 : I 33 0 8 + 1 = Int32.ofNat (k + 1) := by rw [e, z_os]
  rcases h with ⟨rfl, k9, i, h1, h2, h3, rfl, rfl⟩ | ⟨rfl, h⟩ | ⟨rfl, h, h9⟩ | ⟨rfl, h⟩
  · have hb : z_bw (Int32.ofNat k9) 2 3 = true := z_bw_t.mpr ⟨(z_ole (a := 2) (by decide) (by omega)).mpr h1, (z_ole (b := 3) (by omega) (by decide)).mpr h2⟩
    refine z_q230_e _ _ _ ⟨fun h => absurd rfl h, fun _ => ⟨fun h => ?_, fun _ => ⟨true, _, _, _, z_p166t ht (by omega) (by omega) h3, fun h => (by cases h), fun _ => ⟨fun _ => ⟨4 * k, l0, by omega, 4 * k + 1, l1, by omega, 4 * k + 2, l2, by omega, 4 * k + 3, l3, by omega, ?_⟩, fun h => ne h⟩⟩⟩⟩
    · rw [hb] at h; cases h
    · rw [g1, g2]; rfl
  · refine z_q230_e _ _ _ ⟨fun _ => ⟨fun _ => ⟨fun _ => ⟨fun q => ?_, fun _ => ⟨fun _ => ⟨4 * k, l0, by omega, 4 * k + 1, l1, by omega, 4 * k + 2, l2, by omega, 4 * k + 3, l3, by omega, ?_⟩, fun h => ne h⟩⟩, fun h => absurd rfl h⟩, fun h => absurd h (by decide)⟩, fun h => absurd h (by decide)⟩
    · rw [h] at q; cases q
    · rw [g1, g2]; rfl
  · refine z_q230_e _ _ _ ⟨fun _ => ⟨fun h => absurd rfl h, fun _ => ⟨fun q => ?_, fun _ => ⟨fun q => ?_, fun _ => ⟨fun _ => ⟨4 * k, l0, by omega, 4 * k + 1, l1, by omega, 4 * k + 2, l2, by omega, 4 * k + 3, l3, by omega, ?_⟩, fun h => ne h⟩⟩⟩⟩, fun h => absurd h (by decide)⟩
    · rw [h] at q; cases q
    · rw [h9] at q; cases q
    · rw [g1, g2]; rfl
  · refine z_q230_e _ _ _ ⟨fun _ => ⟨fun _ => ⟨fun h => absurd h (by decide), fun _ => ⟨fun h => absurd rfl h, fun _ => ⟨fun q => ?_, fun _ => ⟨fun _ => ⟨4 * k, l0, by omega, 4 * k + 1, l1, by omega, 4 * k + 2, l2, by omega, 4 * k + 3, l3, by omega, ?_⟩, fun h => ne h⟩⟩⟩⟩, fun h => absurd h (by decide)⟩, fun h => absurd h (by decide)⟩
    · rw [h] at q; cases q
    · rw [g1, g2]; rfl
end
theorem z_tld_kv {x a b : Int32} (h : z_tld x a b) : ∃ c, c < 4 ∧ x = Int32.ofNat c ∧ z_kv c a b := by
  rcases h with ⟨rfl, k, i, h1, h2, h3, rfl, rfl⟩ | ⟨rfl, h⟩ | ⟨rfl, h, h9⟩ | ⟨rfl, h⟩
  · exact ⟨0, by decide, rfl, fun _ => ⟨k, i, h1, h2, h3, rfl, rfl⟩, fun h => absurd h (by decide), fun h => absurd h (by decide)⟩
  · obtain ⟨v, hv, e⟩ := z_bwn (n := 9999) h (by decide)
    exact ⟨1, by decide, rfl, fun h => absurd h (by decide), fun h => absurd h (by decide), fun _ => ⟨v, hv, e⟩⟩
  · exact ⟨2, by decide, rfl, fun h => absurd h (by decide), fun _ => ⟨z_bw_t.mp h, z_bw_t.mp h9⟩, fun h => absurd h (by decide)⟩
  · obtain ⟨v, hv, e⟩ := z_bwn (n := 9999) h (by decide)
    exact ⟨3, by decide, rfl, fun h => absurd h (by decide), fun h => absurd h (by decide), fun _ => ⟨v, hv, e⟩⟩
theorem z_Rs_ext {n n' : Nat} {kc kc' : Nat → Nat} {R R' : Nat → Option (Nat × Nat)} {f32 f32' : Nat → Nat → Int32} {cs : Int32} {cw : Nat → Int32} {ms : Int32} {sh : Nat → Int32} (hn : n ≤ n') (h1 : ∀ q, q < n → kc' q = kc q ∧ f32' q = f32 q) (h2 : R' = R) (h : z_Rs n kc R f32 cs cw ms sh) : z_Rs n' kc' R' f32' cs cw ms sh := by
  subst h2
  obtain ⟨k, g1, g2, g3, g4⟩ := h
  refine ⟨k, ⟨g1.1, fun s hs => ?_⟩, g2, g3, fun s hs => ?_⟩
  · rcases g1.2 s hs with e | ⟨q, e1, e2, e3⟩
    · exact Or.inl e
    · exact Or.inr ⟨q, e1, by omega, by rw [(h1 q e2).1]; exact e3⟩
  obtain ⟨q, c, t1, t2, t3, t4, t5, t6, t7, t8, t9, t10, t11⟩ := g4 s hs
  obtain ⟨e1, e2⟩ := h1 q t1
  exact ⟨q, c, by omega, t2, e1.trans t3, t4, by rw [e2]; exact t5, t6, by rw [e2]; exact t7, by rw [e2]; exact t8, by rw [e2]; exact t9, t10, t11⟩
/-- promise 29 -/
theorem z_op_add (x a b : Int32) : z_op 94 230 [z_i x, z_i a, z_i b] := by
  intro X I J hR
  have hR0 := hR
  obtain ⟨⟨n1, n2, n3, n4, n5⟩, r2, r3, r4, r5, r6, r7, r8⟩ := hR
  have n5' := n5
  obtain ⟨k, s1, s2, s3, s4⟩ := n5'
  by_cases hx : z_tld x a b
  · by_cases hk : k = 6
    · subst hk
      exact ⟨z_i (-2), X, X, I, I, J, J, z_q94_e (d := 56) x a b ⟨true, _, _, _, z_p146t hx, fun _ => ⟨fun h => absurd h (by rw [s2]; decide), fun _ => rfl⟩, fun h => (by cases h)⟩, z_p230F (d := 57) r8 hx s3, hR0, Nat.le_succ _, Nat.le_add_right _ _, rfl⟩
    · have hk6 : k < 6 := by omega
      obtain ⟨c, hc, rfl, hv⟩ := z_tld_kv hx
      have c1 : I 1 0 5 < 6 := by rw [s2]; exact (z_olt (b := 6) (by omega) (by decide)).mpr hk6
      obtain ⟨I1, hI1⟩ : ∃ I1, I1 = z_up (z_up (z_sha I X.1 (Int32.ofNat c) (I 1 0 5) a b) 12 0 k (0 : Int32)) 1 0 5 (I 1 0 5 + 1) := ⟨_, rfl⟩
      have t1 : ∀ t, t ≠ 1 → t ≠ 12 → t ≠ 32 → I1 t = I t := fun t q1 q2 q3 => by
        rw [hI1, z_up_t q1, z_up_t q2]
        unfold z_sha
        rw [z_up_t q3, z_up_t q3, z_up_t q3, z_up_t q3]
        funext i j
        unfold z_zr
        rw [if_neg (fun q => q3 q.1)]
      obtain ⟨I2, hI2⟩ : ∃ I2, I2 = z_mad I1 k (Int32.ofNat c) a b := ⟨_, rfl⟩
      have t2 : ∀ t, t ≠ 33 → t ≠ 39 → I2 t = I1 t := fun t q1 q2 => by
        rw [hI2]
        unfold z_mad
        rw [z_up_t q1, z_up_t q2, z_up_t q2, z_up_t q2, z_up_t q2]
      have t3 : ∀ t, t ≠ 1 → t ≠ 12 → t ≠ 32 → t ≠ 33 → t ≠ 39 → I2 t = I t := fun t q1 q2 q3 q4 q5 => (t2 t q4 q5).trans (t1 t q1 q2 q3)
      have e32 : ∀ q, q ≠ X.1 → I2 32 q = I 32 q := fun q hq => by
        rw [t2 32 (by decide) (by decide), hI1, z_up_t (by decide), z_up_t (by decide)]
        unfold z_sha
        rw [z_up_i hq, z_up_i hq, z_up_i hq, z_up_i hq]
        funext j
        unfold z_zr
        rw [if_neg (fun q9 => hq q9.2)]
      have e33 : ∀ j, j ≠ 8 → I2 33 0 j = I 33 0 j := fun j hj => by
        rw [hI2]
        unfold z_mad
        rw [z_up_j hj, z_up_t (by decide), z_up_t (by decide), z_up_t (by decide), z_up_t (by decide), t1 33 (by decide) (by decide) (by decide)]
      have e338 : I2 33 0 8 = Int32.ofNat (k + 1) := by
        rw [hI2]
        unfold z_mad
        rw [z_up_e]
      have e1 : ∀ i j, ¬ (i = 0 ∧ j = 5) → I2 1 i j = I 1 i j := fun i j hj => by
        rw [t2 1 (by decide) (by decide), hI1]
        unfold z_up
        rw [if_neg (by omega), if_neg (by omega)]
        rfl
      have e15 : I2 1 0 5 = Int32.ofNat (k + 1) := by
        rw [t2 1 (by decide) (by decide), hI1, z_up_e, s2, z_os]
      have e12 : ∀ j, I2 12 0 j = if j = k then 0 else I 12 0 j := fun j => by
        rw [t2 12 (by decide) (by decide), hI1, z_up_t (by decide)]
        by_cases h : j = k
        · rw [if_pos h, h, z_up_e]
        · rw [if_neg h, z_up_j h]; rfl
      have e121 : I2 12 1 = I 12 1 := by
        rw [t2 12 (by decide) (by decide), hI1, z_up_t (by decide), z_up_i (by decide)]; rfl
      have e39 : ∀ j, ¬ (4 * k ≤ j ∧ j < 4 * k + 4) → I2 39 0 j = I 39 0 j := fun j hj => by
        rw [hI2]
        unfold z_mad
        rw [z_up_t (by decide), z_up_j (by omega), z_up_j (by omega), z_up_j (by omega), z_up_j (by omega), t1 39 (by decide) (by decide) (by decide)]
      have e390 : I2 39 0 (4 * k) = Int32.ofNat c ∧ I2 39 0 (4 * k + 1) = a ∧ I2 39 0 (4 * k + 2) = b ∧ I2 39 0 (4 * k + 3) = 0 := by
        rw [hI2]
        unfold z_mad
        rw [z_up_t (by decide)]
        refine ⟨?_, ?_, ?_, ?_⟩
        · rw [z_up_j (by omega), z_up_j (by omega), z_up_j (by omega), z_up_e]
        · rw [z_up_j (by omega), z_up_j (by omega), z_up_e]
        · rw [z_up_j (by omega), z_up_e]
        · rw [z_up_e]
      have f32 : I2 32 X.1 0 = Int32.ofNat c ∧ I2 32 X.1 1 = Int32.ofNat k ∧ I2 32 X.1 2 = a ∧ I2 32 X.1 3 = b := by
        rw [t2 32 (by decide) (by decide), hI1, z_up_t (by decide), z_up_t (by decide)]
        unfold z_sha
        refine ⟨?_, ?_, ?_, ?_⟩
        · rw [z_up_j (by decide), z_up_j (by decide), z_up_j (by decide), z_up_e]
        · rw [z_up_j (by decide), z_up_j (by decide), z_up_e, s2]
        · rw [z_up_j (by decide), z_up_e]
        · rw [z_up_e]
      obtain ⟨X1, hX1⟩ : ∃ X1 : z_X, X1 = (X.1 + 1, X.2.1 + 4, z_u1 X.2.2.1 X.1 (z_kc c), z_up X.2.2.2 11 0 k (some (32, X.1))) := ⟨_, rfl⟩
      have x1 : X1.1 = X.1 + 1 := by rw [hX1]
      have x2 : X1.2.1 = X.2.1 + 4 := by rw [hX1]
      have x3 : ∀ q, q ≠ X.1 → X1.2.2.1 q = X.2.2.1 q := fun q hq => by
        rw [hX1]
        show z_u1 _ _ _ q = _
        unfold z_u1
        rw [if_neg hq]
      have x30 : X1.2.2.1 X.1 = z_kc c := by
        rw [hX1]
        show z_u1 _ _ _ X.1 = _
        unfold z_u1
        rw [if_pos rfl]
      have x4 : X1.2.2.2 11 1 = X.2.2.2 11 1 := by
        rw [hX1]
        show z_up X.2.2.2 11 0 k (some (32, X.1)) 11 1 = _
        rw [z_up_i (by decide)]
      have x5 : ∀ s, s ≠ k → X1.2.2.2 11 0 s = X.2.2.2 11 0 s := fun s hs => by
        rw [hX1]
        show z_up _ _ _ _ _ 11 0 s = _
        rw [z_up_j hs]
      have x50 : X1.2.2.2 11 0 k = some (32, X.1) := by
        rw [hX1]
        show z_up _ _ _ _ _ 11 0 k = _
        rw [z_up_e]
      have p2 := z_p230t (d := 57) (X := X1) (I := I1) (J := J) (k := k) (by
        unfold z_Tb
        rw [t1 40 (by decide) (by decide) (by decide), t1 41 (by decide) (by decide) (by decide), t1 42 (by decide) (by decide) (by decide)]
        exact r8) hx hk6 (by rw [t1 33 (by decide) (by decide) (by decide)]; exact s3)
      rw [← hI2] at p2
      refine ⟨z_i (Int32.ofNat k), X1, X1, I1, I2, J, J, z_q94_e (d := 56) _ a b ⟨true, _, _, _, z_p146t hx, fun _ => ⟨fun _ => Or.inr ⟨X.1, _, _, _, z_p147 hc _ _ _, k, s2, hk6, Nat.lt_succ_self _, ?_, ?_⟩, fun h => absurd c1 (Int32.not_lt.mpr h)⟩, fun h => (by cases h)⟩, p2, ⟨⟨?_, ?_, ?_, ?_, ?_⟩, ?_, ?_, ?_, ?_, ?_, ?_, ?_⟩, by omega, by omega, ?_⟩
      · show z_u1 _ _ _ X.1 ∈ _
        unfold z_u1
        rw [if_pos rfl]
        exact (z_of_tab c hc).1
      · rw [hX1, hI1, s2]; rfl
      · rw [t3 13 (by decide) (by decide) (by decide) (by decide) (by decide), t3 14 (by decide) (by decide) (by decide) (by decide) (by decide), t3 34 (by decide) (by decide) (by decide) (by decide) (by decide), t3 35 (by decide) (by decide) (by decide) (by decide) (by decide)]; exact n1
      · rw [t3 3 (by decide) (by decide) (by decide) (by decide) (by decide), t3 36 (by decide) (by decide) (by decide) (by decide) (by decide), e33 2 (by decide)]; exact n2
      · rw [t3 4 (by decide) (by decide) (by decide) (by decide) (by decide), t3 5 (by decide) (by decide) (by decide) (by decide) (by decide), t3 6 (by decide) (by decide) (by decide) (by decide) (by decide), t3 37 (by decide) (by decide) (by decide) (by decide) (by decide), t3 38 (by decide) (by decide) (by decide) (by decide) (by decide), e33 4 (by decide)]; exact n3
      · rw [e1 0 6 (by decide), e33 7 (by decide)]; exact n4
      · refine ⟨k + 1, ⟨by omega, fun s hs => ?_⟩, e15, e338, fun s hs => ?_⟩
        · by_cases hsk : s = k
          · subst hsk
            exact Or.inr ⟨X.1, x50, by omega, by rw [x30]; exact (z_of_tab c hc).1⟩
          · rw [x5 s hsk]
            rcases s1.2 s hs with e | ⟨q, e1, e2, e3⟩
            · exact Or.inl e
            · exact Or.inr ⟨q, e1, by omega, by rw [x3 q (by omega)]; exact e3⟩
        by_cases hsk : s = k
        · subst hsk
          obtain ⟨y0, y1, y2, y3⟩ := e390
          obtain ⟨z0, z1, z2, z3⟩ := f32
          exact ⟨X.1, c, by omega, x50, x30, hc, z0, y0, z1, by rw [z2, y1], by rw [z3, y2], ⟨0, by decide, by rw [e12, if_pos rfl]; rfl, by rw [y3]; rfl⟩, by rw [y1, y2]; exact hv⟩
        · obtain ⟨q, c9, u1, u2, u3, u4, u5, u6, u7, u8, u9, u10, u11⟩ := s4 s (by omega)
          have hq : q ≠ X.1 := by omega
          refine ⟨q, c9, by omega, (x5 s hsk).trans u2, (x3 q hq).trans u3, u4, ?_, ?_, ?_, ?_, ?_, ?_, ?_⟩
          · rw [e32 q hq]; exact u5
          · rw [e39 _ (by omega)]; exact u6
          · rw [e32 q hq]; exact u7
          · rw [e32 q hq, e39 _ (by omega)]; exact u8
          · rw [e32 q hq, e39 _ (by omega)]; exact u9
          · rw [e12, if_neg hsk, e39 _ (by omega)]; exact u10
          · rw [e39 _ (by omega), e39 _ (by omega)]; exact u11
      · unfold z_Rk
        rw [t3 0 (by decide) (by decide) (by decide) (by decide) (by decide), e33 52 (by decide)]
        refine r2.imp id (fun q => ⟨q.1, q.2.1, ?_⟩)
        obtain ⟨k1, k2, k3, k4, k5⟩ := q.2.2
        unfold z_kep z_Rw
        rw [t3 13 (by decide) (by decide) (by decide) (by decide) (by decide), t3 14 (by decide) (by decide) (by decide) (by decide) (by decide), t3 3 (by decide) (by decide) (by decide) (by decide) (by decide), t3 4 (by decide) (by decide) (by decide) (by decide) (by decide), t3 5 (by decide) (by decide) (by decide) (by decide) (by decide), t3 6 (by decide) (by decide) (by decide) (by decide) (by decide), t3 62 (by decide) (by decide) (by decide) (by decide) (by decide), e1 1 6 (by decide), e1 1 5 (by decide), e121]
        exact ⟨k1, k2, k3, k4, z_Rs_ext (by omega) (fun q hq => ⟨x3 q (by omega), e32 q (by omega)⟩) x4 k5⟩
      · exact z_Rt_c (by rw [t3 15 (by decide) (by decide) (by decide) (by decide) (by decide)]) (e33 14 (by decide)) (t3 16 (by decide) (by decide) (by decide) (by decide) (by decide)) (t3 43 (by decide) (by decide) (by decide) (by decide) (by decide)) r3
      · exact z_Rr_c (by rw [t3 0 (by decide) (by decide) (by decide) (by decide) (by decide)]) (e33 37 (by decide)) (t3 19 (by decide) (by decide) (by decide) (by decide) (by decide)) (t3 20 (by decide) (by decide) (by decide) (by decide) (by decide)) (t3 53 (by decide) (by decide) (by decide) (by decide) (by decide)) r4
      · exact z_Rh_c (t3 30 (by decide) (by decide) (by decide) (by decide) (by decide)) (t3 55 (by decide) (by decide) (by decide) (by decide) (by decide)) (t3 56 (by decide) (by decide) (by decide) (by decide) (by decide)) rfl rfl r5
      · exact z_Rv_c (t3 22 (by decide) (by decide) (by decide) (by decide) (by decide)) (t3 23 (by decide) (by decide) (by decide) (by decide) (by decide)) (t3 58 (by decide) (by decide) (by decide) (by decide) (by decide)) (t3 59 (by decide) (by decide) (by decide) (by decide) (by decide)) (t3 60 (by decide) (by decide) (by decide) (by decide) (by decide)) r6
      · exact z_Rx_c (by rw [t3 17 (by decide) (by decide) (by decide) (by decide) (by decide)]) (e33 50 (by decide)) (t3 18 (by decide) (by decide) (by decide) (by decide) (by decide)) (t3 61 (by decide) (by decide) (by decide) (by decide) (by decide)) r7
      · exact z_Tb_c (t3 40 (by decide) (by decide) (by decide) (by decide) (by decide)) (t3 41 (by decide) (by decide) (by decide) (by decide) (by decide)) (t3 42 (by decide) (by decide) (by decide) (by decide) (by decide)) r8
      · exact t3 67 (by decide) (by decide) (by decide) (by decide) (by decide)
  · exact ⟨z_i (-1), X, X, I, I, J, J, z_q94_e (d := 56) x a b ⟨false, _, _, _, z_p146f hx, fun h => (by cases h), fun _ => rfl⟩, z_p230f (d := 57) r8 hx, hR0, Nat.le_succ _, Nat.le_add_right _ _, rfl⟩
