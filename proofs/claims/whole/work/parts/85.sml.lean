/-! ways, small nets told by codes -/
def z_wv (n : Int32) : Nat → Int32
  | 0 => 1
  | i + 1 => (z_wv n i * (n - Int32.ofNat i)) / (Int32.ofNat i + 1)
def z_wn (n m : Nat) : Nat := (z_wv (Int32.ofNat n) m).toNatClampNeg
theorem z_wn_tab : ∀ n, n < 11 → ∀ m, m < 5 → m ≤ n → z_wv (Int32.ofNat n) m = Int32.ofNat (z_wn n m) ∧ 1 ≤ z_wn n m ∧ z_wn n m ≤ 252 := by decide +kernel
theorem z_sbl_len : ∀ s, s < 11 → ∀ k, k < 5 → (z_sbl s 0 k).length ≤ 252 := by decide +kernel
theorem z_cnf_le {s k : Nat} (hs : s < 11) (hk : k < 5) (m : Nat → Nat) (i : Nat) : z_cnf m s k i ≤ 252 := by
  unfold z_cnf
  exact Nat.le_trans List.countP_le_length (z_sbl_len s hs k hk)
theorem z_i64 {v : Nat} (hv : v ≤ 1000000) : (Int32.ofNat v).toInt64 = Int64.ofNat v := by
  have h := Int64.ofNat_int32ToNatClampNeg (Int32.ofNat v) (z_on0 v hv)
  rw [Int32.toNatClampNeg_ofNat_of_lt (by omega)] at h
  exact h.symm
theorem z_jmin {v : Nat} (hv : v < 2 ^ 62) : Int64.ofNat v ≠ Int64.minValue := by
  intro h
  have h1 := congrArg Int64.toInt h
  rw [Int64.toInt_ofNat_of_lt (by omega)] at h1
  have h2 : Int64.minValue.toInt = -2 ^ 63 := rfl
  omega
section
variable {d : Nat} {X : z_X} {I : Nat → Nat → Nat → Int32} {J : Nat → Nat → Nat → Int64}
theorem z_p130 (n : Int32) {m : Nat} (hm : m ≤ 100) : z_ev d (z_en 130 [z_i n, z_i (Int32.ofNat m)] (true, X, I, J)) (some (z_i (z_wv n m)), (true, X, I, J)) := by
  have key : ∀ j k, k + j = m → z_ev d (130, 4, [some (z_i n), some (z_i (Int32.ofNat m)), some (z_i (z_wv n k)), some (z_i (Int32.ofNat k))], [], (true, X, I, J)) (some (z_i (z_wv n m)), (true, X, I, J)) := by
    intro j
    induction j with
    | zero =>
      intro k hk
      obtain rfl : k = m := by omega
      exact z_q130_4 _ _ _ _ ⟨fun _ => rfl, fun h => absurd ((z_olt (by omega) (by omega)).mp h) (by omega)⟩
    | succ j ih =>
      intro k hk
      refine z_q130_4 _ _ _ _ ⟨fun h => absurd ((z_ole (by omega) (by omega)).mp h) (by omega), fun _ => ⟨?_, ?_⟩⟩
      · rw [z_os]
        exact fun q => absurd ((z_oeq (b := 0) (by omega) (by decide)).mp q) (by omega)
      · have h9 := ih (k + 1) (by omega)
        rw [← z_os k] at h9
        exact h9
  exact z_q130_e _ _ (key m 0 (by omega))
theorem z_p195 (n : Int32) {m : Nat} (hm : m ≤ 100) : z_ev d (z_en 195 [z_i n, z_i (Int32.ofNat m)] (true, X, I, J)) (some (z_i (z_wv n m)), (true, X, I, J)) := by
  have key : ∀ j k, k + j = m → z_ev d (195, 4, [some (z_i n), some (z_i (Int32.ofNat m)), some (z_i (z_wv n k)), some (z_i (Int32.ofNat k))], [], (true, X, I, J)) (some (z_i (z_wv n m)), (true, X, I, J)) := by
    intro j
    induction j with
    | zero =>
      intro k hk
      obtain rfl : k = m := by omega
      exact z_q195_4 _ _ _ _ ⟨fun _ => rfl, fun h => absurd ((z_olt (by omega) (by omega)).mp h) (by omega)⟩
    | succ j ih =>
      intro k hk
      refine z_q195_4 _ _ _ _ ⟨fun h => absurd ((z_ole (by omega) (by omega)).mp h) (by omega), fun _ => ⟨?_, ?_⟩⟩
      · rw [z_os]
        exact fun q => absurd ((z_oeq (b := 0) (by omega) (by decide)).mp q) (by omega)
      · have h9 := ih (k + 1) (by omega)
        rw [← z_os k] at h9
        exact h9
  exact z_q195_e _ _ (key m 0 (by omega))
end
def z_plo (p : Nat) : Nat := ([0, 0, 1, 0, 1, 2, 0, 1, 2, 3] : List Nat).getD p 0
def z_phi (p : Nat) : Nat := ([1, 2, 2, 3, 3, 3, 4, 4, 4, 4] : List Nat).getD p 0
/-- masks of a net told by the first p bits of a code -/
def z_cmk (code : Nat) : Nat → Nat → Nat
  | 0 => fun _ => 0
  | p + 1 => if code.testBit p then z_ms (z_cmk code p) (z_plo p) (z_phi p) true else z_cmk code p
def z_cmn (k code : Nat) : Nat → Nat := z_cmk code (k * (k - 1) / 2)
theorem z_plo_tab : ∀ k, k < 6 → ∀ p, p < k * (k - 1) / 2 → z_plo p < k ∧ z_phi p < k ∧ z_plo p ≠ z_phi p := by decide
theorem z_pst : ∀ p, p < 6 → (z_stc.getD 2 []).getD p 0 = Int32.ofNat (z_plo p) ∧ (z_stc.getD 3 []).getD p 0 = Int32.ofNat (z_phi p) := by decide +kernel
theorem z_prn : ∀ k, k < 6 → z_pr (Int32.ofNat k) = Int32.ofNat (k * (k - 1) / 2) ∧ k * (k - 1) / 2 ≤ 10 := by decide +kernel
theorem z_bon : ∀ b, b < 6 → ∀ a, a < b → z_bo (Int32.ofNat a) (Int32.ofNat b) = Int32.ofNat (b * (b - 1) / 2 + a) ∧ z_plo (b * (b - 1) / 2 + a) = (if b < 5 then a else z_plo (b * (b - 1) / 2 + a)) := by decide +kernel
theorem z_plh : ∀ b, b < 5 → ∀ a, a < b → z_plo (b * (b - 1) / 2 + a) = a ∧ z_phi (b * (b - 1) / 2 + a) = b ∧ b * (b - 1) / 2 + a < 10 := by decide
theorem z_cmk_wf {k code : Nat} (hk : k ≤ 5) : ∀ p, p ≤ k * (k - 1) / 2 → z_wfm k (z_cmk code p)
  | 0, _ => z_wfm_0 k
  | p + 1, hp => by
    show z_wfm k (if code.testBit p then z_ms (z_cmk code p) (z_plo p) (z_phi p) true else z_cmk code p)
    obtain ⟨h1, h2, h3⟩ := z_plo_tab k (by omega) p (by omega)
    cases code.testBit p
    · exact z_cmk_wf hk p (by omega)
    · exact z_wfm_ms (by omega) (z_cmk_wf hk p (by omega)) h1 h2 h3 true
theorem z_cmn_wf {k code : Nat} (hk : k ≤ 5) : z_wfm k (z_cmn k code) := z_cmk_wf hk _ (Nat.le_refl _)
/-- places of a net of the class -/
def z_nq (q a b _c : Nat) : Bool := (Nat.beq a 13 || Nat.beq a 14) && Nat.beq b q
theorem z_nq_13 (q c : Nat) : z_nq q 13 q c = true := by unfold z_nq; rw [Nat.beq_refl q]; rfl
theorem z_nq_14 (q c : Nat) : z_nq q 14 q c = true := by unfold z_nq; rw [Nat.beq_refl q]; rfl
theorem z_nq_ag {I I' : Nat → Nat → Nat → Int32} (h : z_fr (z_nq 9) I I') : z_ag [0] I I' := fun a b c hc => h a b c (by
  cases e : z_nq 9 a b c with
  | false => rfl
  | true =>
    unfold z_nq at e
    rw [Bool.and_eq_true, Bool.or_eq_true] at e
    obtain rfl := Nat.eq_of_beq_eq_true e.2
    rcases e.1 with e1 | e1
    · obtain rfl := Nat.eq_of_beq_eq_true e1
      exact absurd hc (by show ¬ ([0] : List Nat).contains 0 = false; decide)
    · obtain rfl := Nat.eq_of_beq_eq_true e1
      exact absurd hc (by show ¬ ([0] : List Nat).contains 0 = false; decide))
def z_q47 (a b _c : Nat) : Bool := Nat.beq a 47 && Nat.beq b 0
theorem z_q47_ag {I I' : Nat → Nat → Nat → Int32} (h : z_fr z_q47 I I') : z_ag [0] I I' := fun a b c hc => h a b c (by
  cases e : z_q47 a b c with
  | false => rfl
  | true =>
    unfold z_q47 at e
    rw [Bool.and_eq_true] at e
    obtain rfl := Nat.eq_of_beq_eq_true e.1
    exact absurd hc (by show ¬ ([0] : List Nat).contains 0 = false; decide))
theorem z_h5_sr {f : Nat → Nat → Nat → Int32} {a b k : Nat} {m : Nat → Nat} (hf : ∀ p, p < 5 → f 47 0 p = Int32.ofNat (m p)) (hk : k ≤ 5) (hm : z_wfm k m) (ha : a < k) (hb : b < k) (hab : a ≠ b) {p : Nat} (hp : p < 5) : z_sr f 47 0 0 a b true 47 0 p = Int32.ofNat (z_ms m a b true p) := by
  unfold z_sr z_ms
  rw [Nat.zero_add, Nat.zero_add]
  by_cases h1 : p = b
  · subst h1
    rw [z_up_e, z_up_j (by omega), if_neg (fun q => hab q.symm), if_pos rfl, hf p hp, z_bs_sb (hm.1 p (by omega)) (by omega)]
  · rw [z_up_j (by omega)]
    by_cases h2 : p = a
    · subst h2
      rw [z_up_e, if_pos rfl, hf p hp, z_bs_sb (hm.1 p (by omega)) (by omega)]
    · rw [z_up_j (by omega), if_neg h2, if_neg h1, hf p hp]
section
variable {d : Nat} {X : z_X} {I : Nat → Nat → Nat → Int32} {J : Nat → Nat → Nat → Int64}
theorem z_p21 {q k code : Nat} (hq : q < 10) (hk : k ≤ 4) (hc : code < 1024) : ∃ I', z_ev (d + 1) (z_en 21 [z_r 13 q, z_i (Int32.ofNat k), z_i (Int32.ofNat code)] (true, X, I, J)) (none, (true, X, I', J)) ∧ z_hm I' 14 q 0 (z_cmn k code) ∧ I' 13 q 1 = Int32.ofNat k ∧ z_fr (z_nq q) I I' := by
  obtain ⟨w1, w2⟩ := z_prn k (by omega)
  have w3 : k * (k - 1) / 2 ≤ 6 := by
    have : ∀ k, k ≤ 4 → k * (k - 1) / 2 ≤ 6 := by decide
    exact this k hk
  have key : ∀ j p, p + j = k * (k - 1) / 2 → ∀ I1, z_hm I1 14 q 0 (z_cmk code p) → I1 13 q 1 = Int32.ofNat k → z_fr (z_nq q) I I1 → ∃ I', z_ev (d + 1) (21, 7, [some (z_r 13 q), some (z_i (Int32.ofNat k)), some (z_i (Int32.ofNat code)), some (z_i (Int32.ofNat p))], [], (true, X, I1, J)) (none, (true, X, I', J)) ∧ z_hm I' 14 q 0 (z_cmn k code) ∧ I' 13 q 1 = Int32.ofNat k ∧ z_fr (z_nq q) I I' := by
    intro j
    induction j with
    | zero =>
      intro p hp I1 h1 h2 h3
      obtain rfl : p = k * (k - 1) / 2 := by omega
      refine ⟨I1, z_q21_7 q hq _ _ _ ⟨fun _ => rfl, fun h => ?_⟩, h1, h2, h3⟩
      rw [w1] at h
      exact absurd ((z_olt (by omega) (by omega)).mp h) (by omega)
    | succ j ih =>
      intro p hp I1 h1 h2 h3
      obtain ⟨u1, u2, u3⟩ := z_plo_tab k (by omega) p (by omega)
      obtain ⟨v1, v2⟩ := z_pst p (by omega)
      have hwf := z_cmk_wf (code := code) (show k ≤ 5 by omega) p (by omega)
      have e01 := z_b01 hc (show p < 10 by omega)
      have e2 : z_cmk code (p + 1) = if code.testBit p then z_ms (z_cmk code p) (z_plo p) (z_phi p) true else z_cmk code p := rfl
      cases e : code.testBit p with
      | false =>
        rw [e] at e2 e01
        obtain ⟨I', c1, c2⟩ := ih (p + 1) (by omega) I1 (by rw [e2]; exact h1) h2 h3
        refine ⟨I', z_q21_7 q hq _ _ _ ⟨fun h => ?_, fun _ => ⟨fun h => absurd ((z_ole (a := 6) (by decide) (by omega)).mp h) (by omega), fun _ => ⟨fun _ => by rw [z_os]; exact c1, fun h => absurd e01 h⟩⟩⟩, c2⟩
        rw [w1] at h
        exact absurd ((z_ole (by omega) (by omega)).mp h) (by omega)
      | true =>
        rw [e] at e2 e01
        have hsr := z_hm_sr h1 (s := k) (by omega) hwf u1 u2 u3 true
        obtain ⟨I', c1, c2⟩ := ih (p + 1) (by omega) (z_sr I1 14 q 0 (z_plo p) (z_phi p) true) (by rw [e2]; exact hsr) (by unfold z_sr; rw [z_up_t (by decide), z_up_t (by decide)]; exact h2) (z_fr_sr h3 (z_nq_14 q _) (z_nq_14 q _))
        refine ⟨I', z_q21_7 q hq _ _ _ ⟨fun h => ?_, fun _ => ⟨fun h => absurd ((z_ole (a := 6) (by decide) (by omega)).mp h) (by omega), fun _ => ⟨fun h => absurd (e01.symm.trans h) (by decide), fun _ => ⟨p, rfl, by omega, _, _, _, by rw [v1, v2]; exact z_p23 hq (by omega) (by omega) true, by rw [z_os]; exact c1⟩⟩⟩⟩, c2⟩
        rw [w1] at h
        exact absurd ((z_ole (by omega) (by omega)).mp h) (by omega)
  have p19 := z_p19 (d := d) (X := X) (I := I) (J := J) hq (Int32.ofNat k)
  obtain ⟨I', c1, c2⟩ := key (k * (k - 1) / 2) 0 (by omega) (z_wo (z_up I 13 q 1 (Int32.ofNat k)) 14 q 0 10 (fun _ => 0)) (fun p hp => by rw [z_wo_e hp]; rfl) (by rw [z_wo_t (by decide), z_up_e]) (z_fr_wo (z_fr_up z_fr_rf (z_nq_13 q 1)) (fun j _ _ => z_nq_14 q j))
  exact ⟨I', z_q21_e q hq _ _ ⟨_, _, _, p19, c1⟩, c2⟩
theorem z_p201 {k code : Nat} (hk : k ≤ 5) (hc : code < 1024) : ∃ I', z_ev (d + 2) (z_en 201 [z_r 33 0, z_i (Int32.ofNat k), z_i (Int32.ofNat code)] (true, X, I, J)) (none, (true, X, I', J)) ∧ (∀ p, p < 5 → I' 47 0 p = Int32.ofNat (z_cmn k code p)) ∧ z_fr z_q47 I I' := by
  have inner : ∀ b, b < k → ∀ j a, a + j = b → ∀ I1, (∀ p, p < 5 → I1 47 0 p = Int32.ofNat (z_cmk code (b * (b - 1) / 2 + a) p)) → z_fr z_q47 I I1 → ∃ I', (∀ r, z_ev (d + 2) (201, 22, [some (z_r 33 0), some (z_i (Int32.ofNat k)), some (z_i (Int32.ofNat code)), some (z_i (Int32.ofNat (b + 1))), some (z_i (Int32.ofNat b))], [], (true, X, I', J)) r → z_ev (d + 2) (201, 30, [some (z_r 33 0), some (z_i (Int32.ofNat k)), some (z_i (Int32.ofNat code)), some (z_i (Int32.ofNat b)), some (z_i (Int32.ofNat a))], [], (true, X, I1, J)) r) ∧ (∀ p, p < 5 → I' 47 0 p = Int32.ofNat (z_cmk code (b * (b - 1) / 2 + b) p)) ∧ z_fr z_q47 I I' := by
    intro b hb j
    induction j with
    | zero =>
      intro a ha I1 h1 h2
      obtain rfl : a = b := by omega
      exact ⟨I1, fun r hr => z_q201_30 _ _ _ _ ⟨fun _ => by rw [z_os]; exact hr, fun h => absurd ((z_olt (by omega) (by omega)).mp h) (by omega)⟩, h1, h2⟩
    | succ j ih =>
      intro a ha I1 h1 h2
      obtain ⟨u1, u2, u3⟩ := z_plh b (by omega) a (by omega)
      obtain ⟨v1, -⟩ := z_bon b (by omega) a (by omega)
      have hwf := z_cmk_wf (k := b + 1) (code := code) (by omega) (b * (b - 1) / 2 + a) (by rw [z_tri b (by omega)]; omega)
      have e01 := z_b01 hc u3
      have e2 : z_cmk code (b * (b - 1) / 2 + (a + 1)) = if code.testBit (b * (b - 1) / 2 + a) then z_ms (z_cmk code (b * (b - 1) / 2 + a)) (z_plo (b * (b - 1) / 2 + a)) (z_phi (b * (b - 1) / 2 + a)) true else z_cmk code (b * (b - 1) / 2 + a) := rfl
      rw [u1, u2] at e2
      cases e : code.testBit (b * (b - 1) / 2 + a) with
      | false =>
        rw [e] at e2 e01
        obtain ⟨I', c1, c2⟩ := ih (a + 1) (by omega) I1 (by rw [e2]; exact h1) h2
        refine ⟨I', fun r hr => z_q201_30 _ _ _ _ ⟨fun h => absurd ((z_ole (by omega) (by omega)).mp h) (by omega), fun _ => ⟨fun _ => by rw [z_os]; exact c1 r hr, fun h => ?_⟩⟩, c2⟩
        rw [v1, e01] at h
        exact absurd h (by decide)
      | true =>
        rw [e] at e2 e01
        obtain ⟨I', c1, c2⟩ := ih (a + 1) (by omega) (z_sr I1 47 0 0 a b true) (fun p hp => by rw [e2]; exact z_h5_sr h1 (show b + 1 ≤ 5 by omega) hwf (by omega) (by omega) (by omega) hp) (z_fr_sr h2 rfl rfl)
        refine ⟨I', fun r hr => z_q201_30 _ _ _ _ ⟨fun h => absurd ((z_ole (by omega) (by omega)).mp h) (by omega), fun _ => ⟨fun h => ?_, fun _ => ⟨a, rfl, by omega, b, rfl, by omega, ?_⟩⟩⟩, c2⟩
        · rw [v1, e01] at h
          exact absurd rfl h
        · have h9 := c1 r hr
          unfold z_sr at h9
          rw [Nat.zero_add, Nat.zero_add] at h9
          rw [z_os]
          exact h9
  have outer : ∀ j b, b + j = k → ∀ (o4 : Option z_V) I1, (∀ p, p < 5 → I1 47 0 p = Int32.ofNat (z_cmk code (b * (b - 1) / 2) p)) → z_fr z_q47 I I1 → ∃ I', z_ev (d + 2) (201, 22, [some (z_r 33 0), some (z_i (Int32.ofNat k)), some (z_i (Int32.ofNat code)), some (z_i (Int32.ofNat b)), o4], [], (true, X, I1, J)) (none, (true, X, I', J)) ∧ (∀ p, p < 5 → I' 47 0 p = Int32.ofNat (z_cmn k code p)) ∧ z_fr z_q47 I I' := by
    intro j
    induction j with
    | zero =>
      intro b hb o4 I1 h1 h2
      obtain rfl : b = k := by omega
      exact ⟨I1, z_q201_22 _ _ _ o4 ⟨fun _ => rfl, fun h => absurd ((z_olt (by omega) (by omega)).mp h) (by omega)⟩, h1, h2⟩
    | succ j ih =>
      intro b hb o4 I1 h1 h2
      obtain ⟨I2, f1, f2, f3⟩ := inner b (by omega) b 0 (by omega) I1 h1 h2
      obtain ⟨I', c1, c2⟩ := ih (b + 1) (by omega) (some (z_i (Int32.ofNat b))) I2 (by rw [z_tri b (by omega)]; exact f2) f3
      exact ⟨I', z_q201_22 _ _ _ o4 ⟨fun h => absurd ((z_ole (by omega) (by omega)).mp h) (by omega), fun _ => f1 _ c1⟩, c2⟩
  obtain ⟨I0, hI0⟩ : ∃ I0, I0 = z_wo I 47 0 0 5 (fun _ => (0 : Int32)) := ⟨_, rfl⟩
  have h0 : ∀ p, p < 5 → I0 47 0 p = Int32.ofNat (z_cmk code 0 p) := fun p hp => by rw [hI0, z_wo_e0 hp]; rfl
  have f0 : z_fr z_q47 I I0 := by rw [hI0]; exact z_fr_wo z_fr_rf (fun j _ _ => rfl)
  have start : ∃ I', z_ev (d + 2) (201, 22, [some (z_r 33 0), some (z_i (Int32.ofNat k)), some (z_i (Int32.ofNat code)), some (z_i 1), none], [], (true, X, I0, J)) (none, (true, X, I', J)) ∧ (∀ p, p < 5 → I' 47 0 p = Int32.ofNat (z_cmn k code p)) ∧ z_fr z_q47 I I' := by
    by_cases hk1 : 1 ≤ k
    · exact outer (k - 1) 1 (by omega) none I0 h0 f0
    · obtain rfl : k = 0 := by omega
      exact ⟨I0, z_q201_22 _ _ _ none ⟨fun _ => rfl, fun h => absurd h (by show ¬ (1 : Int32) < Int32.ofNat 0; decide)⟩, h0, f0⟩
  obtain ⟨I', c1, c2⟩ := start
  refine ⟨I', z_q201_e _ _ ?_, c2⟩
  have key : ∀ j u, u + j = 5 → z_ev (d + 2) (201, 2, [some (z_r 33 0), some (z_i (Int32.ofNat k)), some (z_i (Int32.ofNat code)), some (z_i (Int32.ofNat u)), none], [], (true, X, z_wo I 47 0 0 u (fun _ => (0 : Int32)), J)) (none, (true, X, I', J)) := by
    intro j
    induction j with
    | zero =>
      intro u hu
      obtain rfl : u = 5 := by omega
      rw [← hI0]
      exact z_q201_2 _ _ _ ⟨fun _ => c1, fun h => absurd ((z_olt (b := 5) (by omega) (by decide)).mp h) (by omega)⟩
    | succ j ih =>
      intro u hu
      refine z_q201_2 _ _ _ ⟨fun h => absurd ((z_ole (a := 5) (by decide) (by omega)).mp h) (by omega), fun _ => ⟨u, rfl, by omega, ?_⟩⟩
      rw [z_os, z_wo_s0 _ _ _ _ (fun _ => (0 : Int32))]
      exact ih (u + 1) (by omega)
  have h9 := key 5 0 rfl
  rw [z_wo_0] at h9
  exact h9
/-- counted in a small net -/
theorem z_p140 {k i n j : Nat} (hk : k ≤ 4) (hi : i < 11) (hn : n ≤ 4) (hn1 : 1 ≤ n) (hj : j < z_fon n) : ∃ I', z_ev (d + 16) (z_en 140 [z_r 0 0, z_i (Int32.ofNat k), z_i (Int32.ofNat i), z_i (Int32.ofNat n), z_i (Int32.ofNat j)] (true, X, I, J)) (some (z_i (Int32.ofNat (z_cnf (z_cmn n (z_fmn j)) n k i))), (true, X, I', J)) ∧ z_ag [0] I I' := by
  obtain ⟨f1, f2, f3⟩ := z_fm_tab n (by omega) hn1 j hj
  have hj11 : j < 11 := Nat.lt_of_lt_of_le hj (z_fon_le n hn)
  have f64 : z_fmn j < 64 := z_c64 hn f2
  obtain ⟨I1, c1, c2, c3, c4⟩ := z_p21 (d := d + 14) (X := X) (I := I) (J := J) (q := 9) (by decide) hn (show z_fmn j < 1024 by omega)
  obtain ⟨I2, e1, e2, e3⟩ := z_p42 (d := d) (X := X) (I := I1) (J := J) (q := 1) (q1 := 9) (by decide) (by decide) hk (show n ≤ 10 by omega) (z_cmn_wf (show n ≤ 5 by omega)).1 c2 c3
  refine ⟨I2, z_q140_e _ _ _ _ ⟨j, rfl, hj11, _, _, _, by rw [show (z_stc.getD 0 []).getD j 0 = z_fm j from rfl, f1]; exact c1, _, _, _, e1, i, rfl, hi, by rw [e2 i hi]⟩, z_ag_tr (z_nq_ag c4) (z_tq_ag e3)⟩
theorem z_p202 (ht : z_Tb I) {k i n code : Nat} (hk1 : 1 ≤ k) (hk : k ≤ 4) (hi : i < 11) (hn : n ≤ 5) (hc : code < 1024) : ∃ I', z_ev (d + 4) (z_en 202 [z_r 33 0, z_i (Int32.ofNat n), z_i (Int32.ofNat code), z_i (Int32.ofNat k), z_i (z_fm i)] (true, X, I, J)) (some (z_i (Int32.ofNat (z_cnf (z_cmn n code) n k i))), (true, X, I', J)) ∧ z_ag [0] I I' := by
  obtain ⟨I1, c1, c2, c3⟩ := z_p201 (d := d + 1) (X := X) (I := I) (J := J) hn hc
  have h := z_p194_47 (d := d) (X := X) (J := J) (I := I1) (z_Tb_ag (z_q47_ag c3) rfl ht) (o := 0) (s := n) (by omega) (by omega) (z_cmn_wf hn) (fun b hb => by rw [Nat.zero_add]; exact c2 b (by omega)) hk1 hk hi
  exact ⟨I1, z_q202_e _ _ _ _ ⟨_, _, _, c1, _, _, _, _, h, rfl⟩, z_q47_ag c3⟩
end
