/-! nets without forms that are out; heaps; printed by wip/whole/emit_fre.py -/
def z_RoL (co : Nat → Int32) (mo : Int32) (ou : Nat → Int32) (l : List (Nat × Nat)) : Prop := l.length ≤ 4 ∧ l.Nodup ∧ (∀ q ∈ l, 2 ≤ q.1 ∧ q.1 ≤ 4 ∧ q.2 < z_fon q.1) ∧ mo = Int32.ofNat l.length ∧
    (∀ j q, l[j]? = some q → ou (2 * j) = Int32.ofNat q.1 ∧ ou (2 * j + 1) = z_fm q.2) ∧
    ∀ m, 2 ≤ m → m ≤ 4 → ∃ k, k < 2048 ∧ co m = Int32.ofNat k ∧ ∀ i, k.testBit i = true ↔ (m, i) ∈ l
def z_fre (l : List (Nat × Nat)) (m : Nat → Nat) (s : Nat) : Bool := l.all (fun q => Nat.beq (z_cnf m s q.1 q.2) 0)
theorem z_fre_t {l : List (Nat × Nat)} {m : Nat → Nat} {s : Nat} : z_fre l m s = true ↔ ∀ q ∈ l, z_cnf m s q.1 q.2 = 0 := by
  unfold z_fre
  rw [List.all_eq_true]
  exact ⟨fun h q hq => Nat.eq_of_beq_eq_true (h q hq), fun h q hq => by rw [h q hq]; rfl⟩
theorem z_fre_f {l : List (Nat × Nat)} {m : Nat → Nat} {s : Nat} {q : Nat × Nat} (hq : q ∈ l) (h : z_cnf m s q.1 q.2 ≠ 0) : z_fre l m s = false := by
  rw [← Bool.not_eq_true, z_fre_t]
  exact fun q9 => h (q9 q hq)
theorem z_bt_2k : ∀ m, m < 2048 → ∀ b, b < 11 → z_bt (Int32.ofNat m) b = m.testBit b := by decide +kernel
theorem z_or2k : ∀ a, a < 2048 → ∀ b, b < 11 → Int32.ofNat a ||| ((1 : Int32) <<< (Int32.ofNat b &&& 31)) = Int32.ofNat (a ||| 2 ^ b) := by decide +kernel
section
variable {d : Nat} {X : z_X} {I : Nat → Nat → Nat → Int32} {J : Nat → Nat → Nat → Int64}
theorem z_p138 {k w : Nat} {c : Nat → Nat} (hk1 : 1 ≤ k) (hk : k ≤ 4) (hw : w < 2048) (e3 : I 3 0 k = Int32.ofNat w) (e25 : ∀ i, i < 11 → I 25 1 i = Int32.ofNat (c i)) (hc : ∀ i, c i ≤ 1000) : ∃ b, z_ev (d + 1) (z_en 138 [z_r 0 0, z_i (Int32.ofNat k)] (true, X, I, J)) (some (z_i (z_c b)), (true, X, I, J)) ∧ (b = true ↔ ∃ i, i < z_fon k ∧ w.testBit i = true ∧ c i ≠ 0) := by
  obtain ⟨f1, f2⟩ := z_fo_nat k (by omega)
  have key : ∀ j u, u + j = z_fon k → (∀ i, i < u → ¬ (w.testBit i = true ∧ c i ≠ 0)) → ∃ b, z_ev (d + 1) (138, 2, [some (z_r 0 0), some (z_i (Int32.ofNat k)), some (z_i (Int32.ofNat u))], [], (true, X, I, J)) (some (z_i (z_c b)), (true, X, I, J)) ∧ (b = true ↔ ∃ i, i < z_fon k ∧ w.testBit i = true ∧ c i ≠ 0) := by
    intro j
    induction j with
    | zero =>
      intro u hu hn
      refine ⟨false, z_q138_2 _ _ ⟨fun _ => rfl, fun h => ?_⟩, fun h => (by cases h), fun ⟨i, h1, h2⟩ => absurd h2 (hn i (by omega))⟩
      rw [f1] at h
      exact absurd ((z_olt (by omega) (by omega)).mp h) (by omega)
    | succ j ih =>
      intro u hu hn
      have eb := z_bt_2k w hw u (by omega)
      have g0 : ∀ {P : Prop}, z_fo (Int32.ofNat k) ≤ Int32.ofNat u → P := fun h => by
        rw [f1] at h
        exact absurd ((z_ole (by omega) (by omega)).mp h) (by omega)
      by_cases h9 : w.testBit u = true ∧ c u ≠ 0
      · refine ⟨true, z_q138_2 _ _ ⟨fun h => g0 h, fun _ => ⟨k, rfl, by omega, fun h => ?_, fun _ => ⟨u, rfl, by omega, fun h => ?_, fun _ => rfl⟩⟩⟩, fun _ => ⟨u, by omega, h9⟩, fun _ => rfl⟩
        · rw [e3] at h
          rw [h9.1] at eb
          unfold z_bt at eb
          rw [decide_eq_true_iff] at eb
          exact absurd h eb
        · rw [e25 u (by omega)] at h
          have hcu := hc u
          exact absurd ((z_oeq (b := 0) (by omega) (by decide)).mp h) h9.2
      · obtain ⟨b, c1, c2⟩ := ih (u + 1) (by omega) (fun i hi => by
          by_cases h : i = u
          · subst h; exact h9
          · exact hn i (by omega))
        refine ⟨b, z_q138_2 _ _ ⟨fun h => g0 h, fun _ => ⟨k, rfl, by omega, fun _ => by rw [z_os]; exact c1, fun h => ⟨u, rfl, by omega, fun _ => by rw [z_os]; exact c1, fun h2 => ?_⟩⟩⟩, c2⟩
        exfalso
        apply h9
        refine ⟨?_, ?_⟩
        · rw [← eb]
          unfold z_bt
          rw [decide_eq_true_iff, ← e3]
          exact h
        · intro q
          apply h2
          rw [e25 u (by omega), q]; rfl
  obtain ⟨b, c1, c2⟩ := key (z_fon k) 0 (by omega) (fun i hi => absurd hi (Nat.not_lt_zero i))
  exact ⟨b, z_q138_e _ c1, c2⟩
theorem z_p137 {q1 s : Nat} {m : Nat → Nat} {l : List (Nat × Nat)} {mo : Int32} {ou : Nat → Int32} (hl : z_RoL (I 3 0) mo ou l) (hq1 : q1 < 10) (hs : s ≤ 10) (hm : ∀ b, b < 10 → m b < 1024) (hr : z_hm I 14 q1 0 m) (es : I 13 q1 1 = Int32.ofNat s) : ∃ I', z_ev (d + 16) (z_en 137 [z_r 0 0, z_r 13 q1] (true, X, I, J)) (some (z_i (z_c (z_fre l m s))), (true, X, I', J)) ∧ z_fr (z_tq 1) I I' := by
  obtain ⟨l1, l2, l3, l4, l5, l6⟩ := hl
  have key : ∀ j k, k + j = 5 → 2 ≤ k → ∀ I1, z_fr (z_tq 1) I I1 → (∀ q ∈ l, q.1 < k → z_cnf m s q.1 q.2 = 0) → ∃ I', z_ev (d + 16) (137, 2, [some (z_r 0 0), some (z_r 13 q1), some (z_i (Int32.ofNat k))], [], (true, X, I1, J)) (some (z_i (z_c (z_fre l m s))), (true, X, I', J)) ∧ z_fr (z_tq 1) I I' := by
    intro j
    induction j with
    | zero =>
      intro k hk hk2 I1 hf ha
      obtain rfl : k = 5 := by omega
      have ht : z_fre l m s = true := z_fre_t.mpr (fun q hq => ha q hq (by have := l3 q hq; omega))
      rw [ht]
      exact ⟨I1, z_q137_2 q1 hq1 _ ⟨fun _ => rfl, fun h => absurd ((z_ole (b := 4) (by decide) (by decide)).mp h) (by omega)⟩, hf⟩
    | succ j ih =>
      intro k hk hk2 I1 hf ha
      obtain ⟨w, w1, w2, w3⟩ := l6 k hk2 (by omega)
      have e3 : I1 3 0 k = Int32.ofNat w := by rw [z_fr_t hf 3 (fun _ _ => rfl)]; exact w2
      by_cases hw0 : w = 0
      · obtain ⟨I', c1, c2⟩ := ih (k + 1) (by omega) (by omega) I1 hf (fun q hq hlt => by
          by_cases h : q.1 = k
          · exfalso
            have h9 := (w3 q.2).mpr (by rw [← h]; exact hq)
            rw [hw0] at h9
            simp at h9
          · exact ha q hq (by omega))
        refine ⟨I', z_q137_2 q1 hq1 _ ⟨fun h => absurd ((z_olt (a := 4) (by decide) (by omega)).mp h) (by omega), fun _ => ⟨k, rfl, by omega, fun _ => by rw [z_os]; exact c1, fun h => ?_⟩⟩, c2⟩
        rw [e3, hw0] at h
        exact absurd rfl h
      · obtain ⟨I2, t1, t2, t3⟩ := z_p42 (d := d) (X := X) (I := I1) (J := J) (q := 1) (q1 := q1) (by decide) hq1 (show k ≤ 4 by omega) hs hm (fun b hb => by rw [z_fr_t hf 14 (fun _ _ => rfl)]; exact hr b hb) (by rw [z_fr_t hf 13 (fun _ _ => rfl)]; exact es)
        have f2 := z_fr_tr hf t3
        obtain ⟨b, c1, c2⟩ := z_p138 (d := d + 14) (X := X) (I := I2) (J := J) (k := k) (w := w) (c := z_cnf m s k) (by omega) (by omega) w1 (by rw [z_fr_t f2 3 (fun _ _ => rfl)]; exact w2) t2 (fun i => Nat.le_trans (z_cnf_le (by omega) (by omega) m i) (by decide))
        have e0 : ¬ I1 3 0 k = 0 := by
          rw [e3]
          exact fun q => hw0 ((z_oeq (b := 0) (by omega) (by decide)).mp q)
        cases b with
        | true =>
          obtain ⟨i, i1, i2, i3⟩ := c2.mp rfl
          have hff : z_fre l m s = false := z_fre_f ((w3 i).mp i2) i3
          rw [hff]
          exact ⟨I2, z_q137_2 q1 hq1 _ ⟨fun h => absurd ((z_olt (a := 4) (by decide) (by omega)).mp h) (by omega), fun _ => ⟨k, rfl, by omega, fun h => absurd h e0, fun _ => ⟨_, _, _, t1, true, _, _, _, c1, fun h => (by cases h), fun _ => rfl⟩⟩⟩, f2⟩
        | false =>
          obtain ⟨I', d1, d2⟩ := ih (k + 1) (by omega) (by omega) I2 f2 (fun q hq hlt => by
            by_cases h : q.1 = k
            · by_cases h0 : z_cnf m s q.1 q.2 = 0
              · exact h0
              · exfalso
                have h9 := (w3 q.2).mpr (by rw [← h]; exact hq)
                have h8 := c2.mpr ⟨q.2, by rw [← h]; exact (l3 q hq).2.2, h9, by rw [← h]; exact h0⟩
                cases h8
            · exact ha q hq (by omega))
          exact ⟨I', z_q137_2 q1 hq1 _ ⟨fun h => absurd ((z_olt (a := 4) (by decide) (by omega)).mp h) (by omega), fun _ => ⟨k, rfl, by omega, fun h => absurd h e0, fun _ => ⟨_, _, _, t1, false, _, _, _, c1, fun _ => by rw [z_os]; exact d1, fun h => (by cases h)⟩⟩⟩, d2⟩
  obtain ⟨I', c1, c2⟩ := key 3 2 rfl (by decide) I z_fr_rf (fun q hq hlt => absurd (l3 q hq).1 (by omega))
  exact ⟨I', z_q137_e q1 hq1 c1, c2⟩
theorem z_p206_35 (ht : z_Tb I) {o s : Nat} {m : Nat → Nat} {l : List (Nat × Nat)} {co : Nat → Int32} (hl : z_RoL co (I 33 0 2) (I 36 0) l) (hs : s ≤ 10) (hL : o + s ≤ 40) (hw : z_wfm s m) (hr : ∀ b, b < s → I 35 0 (o + b) = Int32.ofNat (m b)) : z_ev (d + 4) (z_en 206 [z_r 33 0, z_r 35 0, z_i (Int32.ofNat o), z_i (Int32.ofNat s)] (true, X, I, J)) (some (z_i (z_c (z_fre l m s))), (true, X, I, J)) := by
  obtain ⟨l1, l2, l3, l4, l5, l6⟩ := hl
  have key : ∀ j u, u + j = l.length → (∀ i q, i < u → l[i]? = some q → z_cnf m s q.1 q.2 = 0) → z_ev (d + 4) (206, 3, [some (z_r 33 0), some (z_r 35 0), some (z_i (Int32.ofNat o)), some (z_i (Int32.ofNat s)), some (z_i (Int32.ofNat u))], [], (true, X, I, J)) (some (z_i (z_c (z_fre l m s))), (true, X, I, J)) := by
    intro j
    induction j with
    | zero =>
      intro u hu ha
      have ht : z_fre l m s = true := z_fre_t.mpr (fun q hq => by
        obtain ⟨i, hi⟩ := List.getElem?_of_mem hq
        have := (List.getElem?_eq_some_iff.mp hi).1
        exact ha i q (by omega) hi)
      rw [ht]
      refine z_q206_3_35 _ _ _ ⟨fun _ => rfl, fun h => ?_⟩
      rw [l4] at h
      exact absurd ((z_olt (by omega) (by omega)).mp h) (by omega)
    | succ j ih =>
      intro u hu ha
      have hlt : u < l.length := by omega
      obtain ⟨q, hq⟩ : ∃ q, l[u]? = some q := ⟨l[u], List.getElem?_eq_getElem hlt⟩
      obtain ⟨a1, a2⟩ := l5 u q hq
      have hmem : q ∈ l := List.mem_of_getElem? hq
      obtain ⟨b1, b2, b3⟩ := l3 q hmem
      have h194 := z_p194_35 (d := d) (X := X) (J := J) ht hs hL hw hr (show 1 ≤ q.1 by omega) b2 (Nat.lt_of_lt_of_le b3 (z_fon_le q.1 b2))
      have hcl := z_cnf_le (show s < 11 by omega) (show q.1 < 5 by omega) m q.2
      refine z_q206_3_35 _ _ _ ⟨fun h => ?_, fun _ => ⟨2 * u, (Int32.ofNat_mul 2 u).symm, by omega, 2 * u + 1, z_o2 u 1, by omega, _, _, _, _, by rw [a1, a2]; exact h194, fun h => ?_, fun h => ?_⟩⟩
      · rw [l4] at h
        exact absurd ((z_ole (by omega) (by omega)).mp h) (by omega)
      · have h0 : z_cnf m s q.1 q.2 = 0 := by
          have := (z_ole (b := 0) (by omega) (by decide)).mp h
          omega
        rw [z_os]
        exact ih (u + 1) (by omega) (fun i q9 hi hq9 => by
          by_cases h : i = u
          · subst h
            rw [hq] at hq9
            cases hq9
            exact h0
          · exact ha i q9 (by omega) hq9)
      · have h0 : z_cnf m s q.1 q.2 ≠ 0 := by
          have := (z_olt (a := 0) (by decide) (by omega)).mp h
          omega
        rw [z_fre_f hmem h0]; rfl
  exact z_q206_e_35 _ _ (key l.length 0 (by omega) (fun i q hi => absurd hi (Nat.not_lt_zero i)))
theorem z_p206_47 (ht : z_Tb I) {o s : Nat} {m : Nat → Nat} {l : List (Nat × Nat)} {co : Nat → Int32} (hl : z_RoL co (I 33 0 2) (I 36 0) l) (hs : s ≤ 10) (hL : o + s ≤ 5) (hw : z_wfm s m) (hr : ∀ b, b < s → I 47 0 (o + b) = Int32.ofNat (m b)) : z_ev (d + 4) (z_en 206 [z_r 33 0, z_r 47 0, z_i (Int32.ofNat o), z_i (Int32.ofNat s)] (true, X, I, J)) (some (z_i (z_c (z_fre l m s))), (true, X, I, J)) := by
  obtain ⟨l1, l2, l3, l4, l5, l6⟩ := hl
  have key : ∀ j u, u + j = l.length → (∀ i q, i < u → l[i]? = some q → z_cnf m s q.1 q.2 = 0) → z_ev (d + 4) (206, 3, [some (z_r 33 0), some (z_r 47 0), some (z_i (Int32.ofNat o)), some (z_i (Int32.ofNat s)), some (z_i (Int32.ofNat u))], [], (true, X, I, J)) (some (z_i (z_c (z_fre l m s))), (true, X, I, J)) := by
    intro j
    induction j with
    | zero =>
      intro u hu ha
      have ht : z_fre l m s = true := z_fre_t.mpr (fun q hq => by
        obtain ⟨i, hi⟩ := List.getElem?_of_mem hq
        have := (List.getElem?_eq_some_iff.mp hi).1
        exact ha i q (by omega) hi)
      rw [ht]
      refine z_q206_3_47 _ _ _ ⟨fun _ => rfl, fun h => ?_⟩
      rw [l4] at h
      exact absurd ((z_olt (by omega) (by omega)).mp h) (by omega)
    | succ j ih =>
      intro u hu ha
      have hlt : u < l.length := by omega
      obtain ⟨q, hq⟩ : ∃ q, l[u]? = some q := ⟨l[u], List.getElem?_eq_getElem hlt⟩
      obtain ⟨a1, a2⟩ := l5 u q hq
      have hmem : q ∈ l := List.mem_of_getElem? hq
      obtain ⟨b1, b2, b3⟩ := l3 q hmem
      have h194 := z_p194_47 (d := d) (X := X) (J := J) ht hs hL hw hr (show 1 ≤ q.1 by omega) b2 (Nat.lt_of_lt_of_le b3 (z_fon_le q.1 b2))
      have hcl := z_cnf_le (show s < 11 by omega) (show q.1 < 5 by omega) m q.2
      refine z_q206_3_47 _ _ _ ⟨fun h => ?_, fun _ => ⟨2 * u, (Int32.ofNat_mul 2 u).symm, by omega, 2 * u + 1, z_o2 u 1, by omega, _, _, _, _, by rw [a1, a2]; exact h194, fun h => ?_, fun h => ?_⟩⟩
      · rw [l4] at h
        exact absurd ((z_ole (by omega) (by omega)).mp h) (by omega)
      · have h0 : z_cnf m s q.1 q.2 = 0 := by
          have := (z_ole (b := 0) (by omega) (by decide)).mp h
          omega
        rw [z_os]
        exact ih (u + 1) (by omega) (fun i q9 hi hq9 => by
          by_cases h : i = u
          · subst h
            rw [hq] at hq9
            cases hq9
            exact h0
          · exact ha i q9 (by omega) hq9)
      · have h0 : z_cnf m s q.1 q.2 ≠ 0 := by
          have := (z_olt (a := 0) (by decide) (by omega)).mp h
          omega
        rw [z_fre_f hmem h0]; rfl
  exact z_q206_e_47 _ _ (key l.length 0 (by omega) (fun i q hi => absurd hi (Nat.not_lt_zero i)))
/-- the heap of k, its first n bits -/
def z_hpp (l : List (Nat × Nat)) (k : Nat) : Nat → Nat
  | 0 => 0
  | i + 1 => z_hpp l k i ||| (if z_fre l (z_cmn k (z_fmn i)) k then 2 ^ i else 0)
theorem z_hpp_lt (l : List (Nat × Nat)) (k : Nat) : ∀ i, z_hpp l k i < 2 ^ i
  | 0 => by show 0 < 1; decide
  | i + 1 => by
    refine Nat.or_lt_two_pow (Nat.lt_of_lt_of_le (z_hpp_lt l k i) (Nat.pow_le_pow_right (by decide) (by omega))) ?_
    split
    · exact Nat.pow_lt_pow_right (by decide) (by omega)
    · exact Nat.two_pow_pos _
theorem z_hpp_2k (l : List (Nat × Nat)) (k : Nat) {i : Nat} (hi : i ≤ 11) : z_hpp l k i < 2048 := Nat.lt_of_lt_of_le (z_hpp_lt l k i) (show 2 ^ i ≤ 2 ^ 11 from Nat.pow_le_pow_right (by decide) hi)
theorem z_p139 {k : Nat} {l : List (Nat × Nat)} {mo : Int32} {ou : Nat → Int32} (hl : z_RoL (I 3 0) mo ou l) (hk1 : 1 ≤ k) (hk : k ≤ 4) : ∃ I', z_ev (d + 17) (z_en 139 [z_r 0 0, z_i (Int32.ofNat k)] (true, X, I, J)) (some (z_i (Int32.ofNat (z_hpp l k (z_fon k)))), (true, X, I', J)) ∧ z_ag [0] I I' := by
  obtain ⟨f1, f2⟩ := z_fo_nat k (by omega)
  have key : ∀ j u, u + j = z_fon k → ∀ I1, z_ag [0] I I1 → ∃ I', z_ev (d + 17) (139, 4, [some (z_r 0 0), some (z_i (Int32.ofNat k)), some (z_i (Int32.ofNat (z_hpp l k u))), some (z_i (Int32.ofNat u))], [], (true, X, I1, J)) (some (z_i (Int32.ofNat (z_hpp l k (z_fon k)))), (true, X, I', J)) ∧ z_ag [0] I I' := by
    intro j
    induction j with
    | zero =>
      intro u hu I1 ha
      obtain rfl : u = z_fon k := by omega
      refine ⟨I1, z_q139_4 _ _ _ ⟨fun _ => rfl, fun h => ?_⟩, ha⟩
      rw [f1] at h
      exact absurd ((z_olt (by omega) (by omega)).mp h) (by omega)
    | succ j ih =>
      intro u hu I1 ha
      obtain ⟨g1, g2, g3⟩ := z_fm_tab k (by omega) hk1 u (by omega)
      have f64 : z_fmn u < 64 := z_c64 hk g2
      obtain ⟨I2, c1, c2, c3, c4⟩ := z_p21 (d := d + 15) (X := X) (I := I1) (J := J) (q := 9) (by decide) hk (show z_fmn u < 1024 by omega)
      have a2 := z_ag_tr ha (z_nq_ag c4)
      have hl2 : z_RoL (I2 3 0) mo ou l := by rw [z_ag_ti a2 3 0 (c := 1) (fun _ => rfl) rfl]; exact hl
      obtain ⟨I3, e1, e2⟩ := z_p137 (d := d) (X := X) (I := I2) (J := J) hl2 (q1 := 9) (by decide) (show k ≤ 10 by omega) (z_cmn_wf (show k ≤ 5 by omega)).1 c2 c3
      have a3 := z_ag_tr a2 (z_tq_ag e2)
      obtain ⟨I', d1, d2⟩ := ih (u + 1) (by omega) I3 a3
      have hh : z_hpp l k (u + 1) = z_hpp l k u ||| (if z_fre l (z_cmn k (z_fmn u)) k then 2 ^ u else 0) := rfl
      refine ⟨I', z_q139_4 _ _ _ ⟨fun h => ?_, fun _ => ⟨u, rfl, by omega, _, _, _, by rw [show (z_stc.getD 0 []).getD u 0 = z_fm u from rfl, g1]; exact c1, _, _, _, _, e1, fun h => ?_, fun h => ?_⟩⟩, d2⟩
      · rw [f1] at h
        exact absurd ((z_ole (by omega) (by omega)).mp h) (by omega)
      · rw [h, if_neg (by decide), Nat.or_zero] at hh
        rw [hh] at d1
        rw [z_os]; exact d1
      · rw [h, if_pos rfl, ] at hh
        rw [hh, ← z_or2k _ (z_hpp_2k l k (by omega)) u (by omega)] at d1
        rw [z_os]; exact d1
  obtain ⟨I', c1, c2⟩ := key (z_fon k) 0 (by omega) I z_ag_rf
  exact ⟨I', z_q139_e _ c1, c2⟩
theorem z_p208 (ht : z_Tb I) {k : Nat} {l : List (Nat × Nat)} {co : Nat → Int32} (hl : z_RoL co (I 33 0 2) (I 36 0) l) (hk1 : 1 ≤ k) (hk : k ≤ 4) : ∃ I', z_ev (d + 5) (z_en 208 [z_r 33 0, z_i (Int32.ofNat k)] (true, X, I, J)) (some (z_i (Int32.ofNat (z_hpp l k (z_fon k)))), (true, X, I', J)) ∧ z_fr z_q47 I I' := by
  obtain ⟨f1, f2⟩ := z_fo_nat k (by omega)
  obtain ⟨t1, t2, t3⟩ := ht k hk1 hk
  have key : ∀ j u, u + j = z_fon k → ∀ I1, z_fr z_q47 I I1 → ∃ I', z_ev (d + 5) (208, 4, [some (z_r 33 0), some (z_i (Int32.ofNat k)), some (z_i (Int32.ofNat (z_hpp l k u))), some (z_i (Int32.ofNat u))], [], (true, X, I1, J)) (some (z_i (Int32.ofNat (z_hpp l k (z_fon k)))), (true, X, I', J)) ∧ z_fr z_q47 I I' := by
    intro j
    induction j with
    | zero =>
      intro u hu I1 ha
      obtain rfl : u = z_fon k := by omega
      refine ⟨I1, z_q208_4 _ _ _ ⟨k, rfl, by omega, fun _ => rfl, fun h => ?_⟩, ha⟩
      rw [z_fr_t ha 42 (fun _ _ => rfl), t3] at h
      exact absurd ((z_olt (by omega) (by omega)).mp h) (by omega)
    | succ j ih =>
      intro u hu I1 ha
      obtain ⟨g1, g2, g3⟩ := z_fm_tab k (by omega) hk1 u (by omega)
      have f64 : z_fmn u < 64 := z_c64 hk g2
      obtain ⟨I2, c1, c2, c3⟩ := z_p201 (d := d + 2) (X := X) (I := I1) (J := J) (show k ≤ 5 by omega) (show z_fmn u < 1024 by omega)
      have a2 := z_fr_tr ha c3
      have hl2 : z_RoL co (I2 33 0 2) (I2 36 0) l := by rw [z_fr_t a2 33 (fun _ _ => rfl), z_fr_t a2 36 (fun _ _ => rfl)]; exact hl
      have e1 := z_p206_47 (d := d) (X := X) (I := I2) (J := J) (z_Tb_ag (z_q47_ag a2) rfl ht) hl2 (o := 0) (s := k) (by omega) (by omega) (z_cmn_wf (code := z_fmn u) (show k ≤ 5 by omega)) (fun b hb => by rw [Nat.zero_add]; exact c2 b (by omega))
      obtain ⟨I', d1, d2⟩ := ih (u + 1) (by omega) I2 a2
      have hh : z_hpp l k (u + 1) = z_hpp l k u ||| (if z_fre l (z_cmn k (z_fmn u)) k then 2 ^ u else 0) := rfl
      refine ⟨I', z_q208_4 _ _ _ ⟨k, rfl, by omega, fun h => ?_, fun _ => ⟨11 * k + u, z_o11 k u, by omega, _, _, _, by rw [z_fr_t ha 41 (fun _ _ => rfl), t2 u (by omega), g1]; exact c1, _, _, _, _, e1, fun h => ?_, fun h => ?_⟩⟩, d2⟩
      · rw [z_fr_t ha 42 (fun _ _ => rfl), t3] at h
        exact absurd ((z_ole (by omega) (by omega)).mp h) (by omega)
      · rw [h, if_neg (by decide), Nat.or_zero] at hh
        rw [hh] at d1
        rw [z_os, Int32.or_zero]; exact d1
      · rw [h, if_pos rfl] at hh
        rw [hh, ← z_or2k _ (z_hpp_2k l k (by omega)) u (by omega)] at d1
        rw [z_os]; exact d1
  obtain ⟨I', c1, c2⟩ := key (z_fon k) 0 (by omega) I z_fr_rf
  exact ⟨I', z_q208_e _ c1, c2⟩
end
/-- promise 16 -/
theorem z_op_free (x : Int32) : z_op 81 207 [z_i x] := by
  intro X I J hR
  have hR0 := hR
  obtain ⟨n1, -, -, -, -, -, -, r8⟩ := hR
  cases ha : z_bw x 0 3 with
  | false =>
    have fa : ∀ {P : Prop}, z_bw x 0 3 = true → P := fun h => by rw [ha] at h; cases h
    exact ⟨z_i (-1), X, X, I, I, J, J, z_q81_e (d := 43) x ⟨fun h => fa h, fun _ => rfl⟩, z_q207_e (d := 55) x ⟨fun h => fa h, fun _ => rfl⟩, hR0, Nat.le_succ _, Nat.le_add_right _ _, rfl⟩
  | true =>
    have fa : ∀ {P : Prop}, z_bw x 0 3 = false → P := fun h => by rw [ha] at h; cases h
    obtain ⟨n, hn, rfl⟩ := z_bw3 ha
    obtain ⟨s, m, g1, g2, g3, g4, g5, g6, g7⟩ := z_now_net n1 hn
    obtain ⟨l, hl⟩ : ∃ l, z_RoL (I 3 0) (I 33 0 2) (I 36 0) l := by
      obtain ⟨-, h, -⟩ := n1
      exact h
    obtain ⟨I1, c1, c2⟩ := z_p137 (d := 43) (X := X) (J := J) hl (q1 := n) (by omega) g2 g3.1 g6 g4
    have hw := z_tq_ag c2
    have p206 := z_p206_35 (d := 55) (X := X) (I := I1) (J := J) (z_Tb_ag hw rfl r8) (co := I 3 0) (l := l) (by rw [z_fr_t c2 33 (fun _ _ => rfl), z_fr_t c2 36 (fun _ _ => rfl)]; exact hl) (o := 10 * n) g2 (by omega) g3 (fun b hb => by rw [z_fr_t c2 35 (fun _ _ => rfl)]; exact g7 b (by omega))
    refine ⟨z_i (z_c (z_fre l m s)), X, X, I1, I1, J, J, z_q81_e (d := 43) _ ⟨fun _ => ⟨n, rfl, hn, z_fre l m s, _, _, _, c1, fun h => by rw [h]; rfl, fun h => by rw [h]; rfl⟩, fun h => fa h⟩, z_q207_e (d := 55) _ ⟨fun _ => ⟨n, rfl, hn, z_fre l m s, _, _, _, ?_, fun h => by rw [h]; rfl, fun h => by rw [h]; rfl⟩, fun h => fa h⟩, z_R_0 hR0 hw rfl rfl, Nat.le_succ _, Nat.le_add_right _ _, z_67_ag hw rfl⟩
    rw [z_fr_t c2 34 (fun _ _ => rfl), g5, show (10 : Int32) * Int32.ofNat n = Int32.ofNat (10 * n) from (Int32.ofNat_mul 10 n).symm]
    exact p206
/-- promise 17 -/
theorem z_op_heap (x : Int32) : z_op 82 209 [z_i x] := by
  intro X I J hR
  have hR0 := hR
  obtain ⟨n1, -, -, -, -, -, -, r8⟩ := hR
  cases ha : z_bw x 2 4 with
  | false =>
    have fa : ∀ {P : Prop}, z_bw x 2 4 = true → P := fun h => by rw [ha] at h; cases h
    exact ⟨z_i (-1), X, X, I, I, J, J, z_q82_e (d := 42) x ⟨fun _ => rfl, fun h1 => ⟨fun h2 => fa (z_bw_t.mpr ⟨h1, h2⟩), fun _ => rfl⟩⟩, z_q209_e (d := 54) x ⟨fun _ => rfl, fun h => fa h⟩, hR0, Nat.le_succ _, Nat.le_add_right _ _, rfl⟩
  | true =>
    have fa : ∀ {P : Prop}, z_bw x 2 4 = false → P := fun h => by rw [ha] at h; cases h
    obtain ⟨h1, h2⟩ := z_bw_t.mp ha
    obtain ⟨k, hk, rfl⟩ := z_nat' (n := 4) (Int32.le_trans (by decide) h1) h2 (by decide)
    have hk2 := (z_ole (a := 2) (by decide) (by omega)).mp h1
    obtain ⟨l, hl⟩ : ∃ l, z_RoL (I 3 0) (I 33 0 2) (I 36 0) l := by
      obtain ⟨-, h, -⟩ := n1
      exact h
    obtain ⟨I1, c1, c2⟩ := z_p139 (d := 42) (X := X) (J := J) hl (show 1 ≤ k by omega) hk
    obtain ⟨I2, d1, d2⟩ := z_p208 (d := 54) (X := X) (I := I1) (J := J) (z_Tb_ag c2 rfl r8) (co := I 3 0) (l := l) (by rw [z_ag_p c2 33 0 2 (c := 1) rfl rfl, z_ag_ti c2 36 0 (c := 1) (fun _ => rfl) rfl]; exact hl) (show 1 ≤ k by omega) hk
    have hw := z_ag_tr c2 (z_q47_ag d2)
    exact ⟨_, X, X, I1, I2, J, J, z_q82_e (d := 42) _ ⟨fun h => absurd h1 (Int32.not_le.mpr h), fun _ => ⟨fun _ => ⟨_, _, _, _, c1, rfl⟩, fun h => absurd h2 (Int32.not_le.mpr h)⟩⟩, z_q209_e (d := 54) _ ⟨fun h => fa h, fun _ => ⟨_, _, _, _, d1, rfl⟩⟩, z_R_0 hR0 hw rfl rfl, Nat.le_succ _, Nat.le_add_right _ _, z_67_ag hw rfl⟩
