/-! near: the reference's dealing -/
def z_dm (a b _c : Nat) : Bool := (Nat.beq a 49 || Nat.beq a 50 || Nat.beq a 51) && Nat.beq b 0
section
variable {d : Nat} {X : z_X} {I : Nat → Nat → Nat → Int32} {J : Nat → Nat → Nat → Int64}
theorem z_l223b {P n lf al : Nat} {w : (Nat → Nat) × (Nat → Int32)} (hP1 : 1 ≤ P) (hP : P ≤ 5) (hlf : lf ≤ 100) (e4 : I 33 0 4 = Int32.ofNat P) :
    ∀ j i, i + j = lf → ∀ (x4 : Int32) (o5 : Option z_V) I1, (∀ p, p < P → I1 49 0 p = Int32.ofNat ((z_dls P w i).1 p) ∧ I1 50 0 p = (z_dls P w i).2 p) → z_fr z_dm I I1 →
    ∃ I', z_ev (d + 1) (223, 71, [some (z_r 33 0), some (z_i (Int32.ofNat n)), some (z_i (Int32.ofNat al)), some (z_i (Int32.ofNat j)), some (z_i x4), o5], [], (true, X, I1, J)) (none, (true, X, I', J)) ∧ (∀ p, p < P → I' 49 0 p = Int32.ofNat ((z_dls P w lf).1 p)) ∧ z_fr z_dm I I' := by
  intro j
  induction j with
  | zero =>
    intro i hi x4 o5 I1 h1 h2
    obtain rfl : i = lf := by omega
    exact ⟨I1, z_q223_71 _ _ _ x4 o5 ⟨fun _ => rfl, fun h => absurd h (by decide)⟩, fun p hp => (h1 p hp).1, h2⟩
  | succ j ih =>
    intro i hi x4 o5 I1 h1 h2
    have e4' : I1 33 0 4 = Int32.ofNat P := by rw [z_fr_t h2 33 (fun _ _ => rfl)]; exact e4
    obtain ⟨b, hb⟩ : ∃ b, b = z_bst (z_dls P w i).2 P := ⟨_, rfl⟩
    have hbP : b < P := by rw [hb]; exact z_bst_lt _ P hP1
    obtain ⟨s1, s2⟩ := z_dls_s hb
    obtain ⟨I2, hI2⟩ : ∃ I2, I2 = z_up (z_up I1 49 0 b (I1 49 0 b + 1)) 50 0 b (-1 : Int32) := ⟨_, rfl⟩
    obtain ⟨I', c1, c2, c3⟩ := ih (i + 1) (by omega) (Int32.ofNat b) (some (z_i (Int32.ofNat P))) I2 (fun p hp => by
      rw [s1 p, s2 p]
      by_cases h : p = b
      · subst h
        rw [if_pos rfl, if_pos rfl, hI2]
        exact ⟨by rw [z_up_t (by decide), z_up_e, (h1 p hp).1, z_os], by rw [z_up_e]⟩
      · rw [if_neg h, if_neg h, hI2]
        exact ⟨by rw [z_up_t (by decide), z_up_j h]; exact (h1 p hp).1, by rw [z_up_j h, z_up_t (by decide)]; exact (h1 p hp).2⟩) (by rw [hI2]; exact z_fr_up (z_fr_up h2 rfl) rfl)
    have key : ∀ j9 p, p + j9 = P → 1 ≤ p → z_ev (d + 1) (223, 81, [some (z_r 33 0), some (z_i (Int32.ofNat n)), some (z_i (Int32.ofNat al)), some (z_i (Int32.ofNat (j + 1))), some (z_i (Int32.ofNat (z_bst (z_dls P w i).2 p))), some (z_i (Int32.ofNat p))], [], (true, X, I1, J)) (none, (true, X, I', J)) := by
      intro j9
      induction j9 with
      | zero =>
        intro p hp hp1
        obtain rfl : p = P := by omega
        refine z_q223_81 _ _ _ _ _ ⟨fun _ => ⟨z_bst (z_dls p w i).2 p, rfl, by have := z_bst_lt (z_dls p w i).2 p hp1; omega, ?_⟩, fun h => ?_⟩
        · rw [← hb, ← hI2, show Int32.ofNat (j + 1) + -1 = Int32.ofNat j from by rw [← Int32.sub_eq_add_neg]; exact z_subn (a := j + 1) (b := 1) (by omega)]
          exact c1
        · rw [e4'] at h
          exact absurd ((z_olt (by omega) (by omega)).mp h) (by omega)
      | succ j9 ih9 =>
        intro p hp hp1
        have hbl := z_bst_lt (z_dls P w i).2 p hp1
        have e : z_bst (z_dls P w i).2 (p + 1) = if p = 0 then 0 else if (z_dls P w i).2 (z_bst (z_dls P w i).2 p) < (z_dls P w i).2 p then p else z_bst (z_dls P w i).2 p := rfl
        rw [if_neg (by omega)] at e
        have h9 := ih9 (p + 1) (by omega) (by omega)
        refine z_q223_81 _ _ _ _ _ ⟨fun h => ?_, fun _ => ⟨p, rfl, by omega, z_bst (z_dls P w i).2 p, rfl, by omega, fun h => ?_, fun h => ?_⟩⟩
        · rw [e4'] at h
          exact absurd ((z_ole (by omega) (by omega)).mp h) (by omega)
        · rw [(h1 p (by omega)).2, (h1 _ (by omega)).2] at h
          rw [if_neg (Int32.not_lt.mpr h)] at e
          rw [e] at h9
          rw [z_os]; exact h9
        · rw [(h1 p (by omega)).2, (h1 _ (by omega)).2] at h
          rw [if_pos h] at e
          rw [e] at h9
          rw [z_os]; exact h9
    refine ⟨I', z_q223_71 _ _ _ x4 o5 ⟨fun h => ?_, fun _ => key (P - 1) 1 (by omega) (Nat.le_refl _)⟩, c2, c3⟩
    have := (z_ole (b := 0) (by omega) (by decide)).mp h
    omega
theorem z_p223 {P n : Nat} {w : Nat → Nat} (hP1 : 1 ≤ P) (hP : P ≤ 5) (hn : n ≤ 10) (e4 : I 33 0 4 = Int32.ofNat P) (ew : ∀ p, p < P → I 37 0 p = Int32.ofNat (w p)) (hw9 : ∀ p, p < P → w p ≤ 9) (hal : 1 ≤ z_sumf w P) (hal9 : z_sumf w P ≤ 1000) :
    ∃ I', z_ev (d + 1) (z_en 223 [z_r 33 0, z_i (Int32.ofNat n)] (true, X, I, J)) (none, (true, X, I', J)) ∧ (∀ p, p < P → I' 49 0 p = Int32.ofNat (z_dlt w n P p)) ∧ z_fr z_dm I I' := by
  obtain ⟨k1, k2⟩ := z_cut_ok (n := n) hP1 hal
  have p214 := z_p214 (d := d) (X := X) (J := J) hP e4 ew
  obtain ⟨al, hal0⟩ : ∃ al, al = z_sumf w P := ⟨_, rfl⟩
  have hD : z_dlt w n P = (z_dls P (fun p => n * w p / al, fun p => Int32.ofNat (n * w p % al)) (n - z_sumf (fun q => n * w q / al) P)).1 := by
    unfold z_dlt
    rw [hal0]
  rw [hD]
  rw [← hal0] at hal hal9 p214 k1 k2
  have hcs : ∀ p, p ≤ P → z_sumf (fun q => n * w q / al) p ≤ n := fun p hp => Nat.le_trans (z_sumf_le _ _ hp) k1
  have key : ∀ j p, p + j = P → ∀ I1, (∀ q, q < p → I1 49 0 q = Int32.ofNat (n * w q / al) ∧ I1 50 0 q = Int32.ofNat (n * w q % al)) → z_fr z_dm I I1 → ∃ I', z_ev (d + 1) (223, 10, [some (z_r 33 0), some (z_i (Int32.ofNat n)), some (z_i (Int32.ofNat al)), some (z_i (Int32.ofNat (n - z_sumf (fun q => n * w q / al) p))), some (z_i (Int32.ofNat p)), none], [], (true, X, I1, J)) (none, (true, X, I', J)) ∧ (∀ p, p < P → I' 49 0 p = Int32.ofNat ((z_dls P (fun p => n * w p / al, fun p => Int32.ofNat (n * w p % al)) (n - z_sumf (fun q => n * w q / al) P)).1 p)) ∧ z_fr z_dm I I' := by
    intro j
    induction j with
    | zero =>
      intro p hp I1 h1 h2
      obtain rfl : p = P := by omega
      have e4' : I1 33 0 4 = Int32.ofNat p := by rw [z_fr_t h2 33 (fun _ _ => rfl)]; exact e4
      obtain ⟨I', c1, c2, c3⟩ := z_l223b (d := d) (X := X) (J := J) (I := I1) (P := p) (n := n) (lf := n - z_sumf (fun q => n * w q / al) p) (al := al) (w := (fun p => n * w p / al, fun p => Int32.ofNat (n * w p % al))) hP1 hP (by omega) e4' (n - z_sumf (fun q => n * w q / al) p) 0 (by omega) (Int32.ofNat p) none I1 h1 z_fr_rf
      refine ⟨I', z_q223_10 _ _ _ _ ⟨fun _ => c1, fun h => ?_⟩, c2, z_fr_tr h2 c3⟩
      rw [e4'] at h
      exact absurd ((z_olt (by omega) (by omega)).mp h) (by omega)
    | succ j ih =>
      intro p hp I1 h1 h2
      have e4' : I1 33 0 4 = Int32.ofNat P := by rw [z_fr_t h2 33 (fun _ _ => rfl)]; exact e4
      obtain ⟨m1, m2⟩ := z_mdv (n := n) (w := w p) (al := al) hn (hw9 p (by omega)) hal9
      have e5 : I1 37 0 p = Int32.ofNat (w p) := by rw [z_fr_t h2 37 (fun _ _ => rfl)]; exact ew p (by omega)
      obtain ⟨I2, hI2⟩ : ∃ I2, I2 = z_up (z_up I1 49 0 p (Int32.ofNat (n * w p / al))) 50 0 p (Int32.ofNat (n * w p % al)) := ⟨_, rfl⟩
      obtain ⟨I', c1, c2⟩ := ih (p + 1) (by omega) I2 (fun q hq => by
        by_cases h : q = p
        · subst h
          rw [hI2]
          exact ⟨by rw [z_up_t (by decide), z_up_e], by rw [z_up_e]⟩
        · rw [hI2]
          exact ⟨by rw [z_up_t (by decide), z_up_j h]; exact (h1 q (by omega)).1, by rw [z_up_j h, z_up_t (by decide)]; exact (h1 q (by omega)).2⟩) (by rw [hI2]; exact z_fr_up (z_fr_up h2 rfl) rfl)
      have a0 : ¬ Int32.ofNat al = 0 := fun q => absurd ((z_oeq (b := 0) (by omega) (by decide)).mp q) (by omega)
      have hle := hcs (p + 1) (by omega)
      have e9 : z_sumf (fun q => n * w q / al) (p + 1) = z_sumf (fun q => n * w q / al) p + n * w p / al := rfl
      rw [e9] at hle c1
      refine ⟨I', z_q223_10 _ _ _ _ ⟨fun h => ?_, fun _ => ⟨p, rfl, by omega, a0, a0, ?_⟩⟩, c2⟩
      · rw [e4'] at h
        exact absurd ((z_ole (by omega) (by omega)).mp h) (by omega)
      · rw [e5, m2, m1, z_up_e, z_subn (by omega), z_os, ← hI2, show n - z_sumf (fun q => n * w q / al) p - n * w p / al = n - (z_sumf (fun q => n * w q / al) p + n * w p / al) by omega]
        exact c1
  obtain ⟨I', c1, c2⟩ := key P 0 (by omega) I (fun q hq => absurd hq (Nat.not_lt_zero q)) z_fr_rf
  exact ⟨I', z_q223_e _ ⟨_, _, _, _, p214, c1⟩, c2⟩
theorem z_l224c {P n nt p : Nat} {D : Nat → Nat} (hP : P ≤ 5) (hp : p < P) (hn : z_sumf D P = n) (hn10 : n ≤ 10) (e9 : I 49 0 p = Int32.ofNat (D p)) :
    ∀ j k, k + j = D p → ∀ I1, (∀ i q, (z_asg D p ++ List.replicate k p)[i]? = some q → I1 51 0 i = Int32.ofNat q) → z_fr z_dm I I1 → I1 49 = I 49 →
    ∃ I', (∀ r, z_ev (d + 2) (224, 45, [some (z_r 33 0), some (z_i (Int32.ofNat nt)), some (z_i (Int32.ofNat n)), some (z_i (Int32.ofNat (z_asg D (p + 1)).length)), some (z_i (Int32.ofNat (p + 1))), some (z_i (Int32.ofNat (D p))), none, none], [], (true, X, I', J)) r → z_ev (d + 2) (224, 57, [some (z_r 33 0), some (z_i (Int32.ofNat nt)), some (z_i (Int32.ofNat n)), some (z_i (Int32.ofNat ((z_asg D p).length + k))), some (z_i (Int32.ofNat p)), some (z_i (Int32.ofNat k)), none, none], [], (true, X, I1, J)) r) ∧ (∀ i q, (z_asg D (p + 1))[i]? = some q → I' 51 0 i = Int32.ofNat q) ∧ z_fr z_dm I I' ∧ I' 49 = I 49 := by
  have hl1 : (z_asg D (p + 1)).length = (z_asg D p).length + D p := by
    show (z_asg D p ++ List.replicate (D p) p).length = _
    rw [List.length_append, List.length_replicate]
  have hle : (z_asg D p).length + D p ≤ n := by
    rw [← hl1, z_asg_len, ← hn]
    exact z_sumf_le _ _ (by omega)
  intro j
  induction j with
  | zero =>
    intro k hk I1 h1 h2 h3
    obtain rfl : k = D p := by omega
    refine ⟨I1, fun r hr => z_q224_57 _ _ _ _ _ ⟨p, rfl, by omega, fun _ => ?_, fun h => ?_⟩, h1, h2, h3⟩
    · rw [← hl1, z_os]; exact hr
    · rw [h3, e9] at h
      exact absurd ((z_olt (by omega) (by omega)).mp h) (by omega)
  | succ j ih =>
    intro k hk I1 h1 h2 h3
    obtain ⟨I2, hI2⟩ : ∃ I2, I2 = z_up I1 51 0 ((z_asg D p).length + k) (Int32.ofNat p) := ⟨_, rfl⟩
    obtain ⟨I', c1, c2⟩ := ih (k + 1) (by omega) I2 (fun i q hq => by
      rw [List.replicate_succ', ← List.append_assoc] at hq
      by_cases h : i < (z_asg D p ++ List.replicate k p).length
      · rw [List.getElem?_append_left h] at hq
        rw [List.length_append, List.length_replicate] at h
        rw [hI2, z_up_j (by omega)]
        exact h1 i q hq
      · rw [List.getElem?_append_right (by omega)] at hq
        have hj := (List.getElem?_eq_some_iff.mp hq).1
        rw [List.length_singleton] at hj
        have hi : i = (z_asg D p).length + k := by
          rw [List.length_append, List.length_replicate] at h hj
          omega
        rw [show i - (z_asg D p ++ List.replicate k p).length = 0 by omega] at hq
        obtain rfl : p = q := Option.some.inj hq
        rw [hI2, hi, z_up_e]) (by rw [hI2]; exact z_fr_up h2 rfl) (by rw [hI2, z_up_t (by decide)]; exact h3)
    refine ⟨I', fun r hr => z_q224_57 _ _ _ _ _ ⟨p, rfl, by omega, fun h => ?_, fun _ => ⟨(z_asg D p).length + k, rfl, by omega, ?_⟩⟩, c2⟩
    · rw [h3, e9] at h
      exact absurd ((z_ole (by omega) (by omega)).mp h) (by omega)
    · rw [z_os, z_os, ← hI2]
      exact c1 r hr
theorem z_l224b {P n nt : Nat} {D : Nat → Nat} (hP : P ≤ 5) (hn : z_sumf D P = n) (hn10 : n ≤ 10) (e4 : I 33 0 4 = Int32.ofNat P) (e9 : ∀ p, p < P → I 49 0 p = Int32.ofNat (D p)) :
    ∀ j p, p + j = P → ∀ (o5 : Option z_V) I1, (∀ i q, (z_asg D p)[i]? = some q → I1 51 0 i = Int32.ofNat q) → z_fr z_dm I I1 → I1 49 = I 49 →
    ∃ (I' : Nat → Nat → Nat → Int32) (o6 : Option z_V), (∀ r, z_ev (d + 2) (224, 95, [some (z_r 33 0), some (z_i (Int32.ofNat nt)), some (z_i (Int32.ofNat n)), some (z_i (Int32.ofNat (z_asg D P).length)), some (z_i 1), o6, none, none], [], (true, X, I', J)) r → z_ev (d + 2) (224, 45, [some (z_r 33 0), some (z_i (Int32.ofNat nt)), some (z_i (Int32.ofNat n)), some (z_i (Int32.ofNat (z_asg D p).length)), some (z_i (Int32.ofNat p)), o5, none, none], [], (true, X, I1, J)) r) ∧ (∀ i q, (z_asg D P)[i]? = some q → I' 51 0 i = Int32.ofNat q) ∧ z_fr z_dm I I' := by
  intro j
  induction j with
  | zero =>
    intro p hp o5 I1 h1 h2 h3
    obtain rfl : p = P := by omega
    refine ⟨I1, o5, fun r hr => z_q224_45 _ _ _ _ o5 ⟨fun _ => hr, fun h => ?_⟩, h1, h2⟩
    rw [z_fr_t h2 33 (fun _ _ => rfl), e4] at h
    exact absurd ((z_olt (by omega) (by omega)).mp h) (by omega)
  | succ j ih =>
    intro p hp o5 I1 h1 h2 h3
    obtain ⟨I2, f1, f2, f3, f4⟩ := z_l224c (d := d) (X := X) (J := J) (I := I) (n := n) (nt := nt) hP (show p < P by omega) hn hn10 (e9 p (by omega)) (D p) 0 (by omega) I1 (by rw [List.replicate_zero, List.append_nil]; exact h1) h2 h3
    obtain ⟨I', o6, c1, c2⟩ := ih (p + 1) (by omega) (some (z_i (Int32.ofNat (D p)))) I2 f2 f3 f4
    refine ⟨I', o6, fun r hr => z_q224_45 _ _ _ _ o5 ⟨fun h => ?_, fun _ => ?_⟩, c2⟩
    · rw [z_fr_t h2 33 (fun _ _ => rfl), e4] at h
      exact absurd ((z_ole (by omega) (by omega)).mp h) (by omega)
    · have h9 := f1 _ (c1 r hr)
      rw [Nat.add_zero] at h9
      exact h9
end
