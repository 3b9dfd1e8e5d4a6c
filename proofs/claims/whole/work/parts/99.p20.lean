/-! at a limit: bounds, and whether a limit is free -/
theorem z_sml_bd {α : Type} {f : α → Nat} {B : Nat} : ∀ l : List α, (∀ x ∈ l, f x ≤ B) → z_sml (l.map f) ≤ l.length * B
  | [], _ => Nat.zero_le _
  | x :: l, h => by
    show f x + z_sml (l.map f) ≤ (l.length + 1) * B
    rw [Nat.succ_mul, Nat.add_comm]
    exact Nat.add_le_add (z_sml_bd l (fun y hy => h y (List.mem_cons_of_mem x hy))) (h x (List.mem_cons_self ..))
theorem z_prd_b4 {f : Nat → Nat} {B : Nat} : ∀ l : List Nat, (∀ x ∈ l, f x ≤ B) → z_prd (l.map f) ≤ B ^ l.length
  | [], _ => Nat.le_refl _
  | x :: l, h => by
    show f x * z_prd (l.map f) ≤ B ^ (l.length + 1)
    rw [Nat.pow_succ, Nat.mul_comm]
    exact Nat.mul_le_mul (z_prd_b4 l (fun y hy => h y (List.mem_cons_of_mem x hy))) (h x (List.mem_cons_self ..))
theorem z_AT_bd {P m i : Nat} {w : Nat → Nat} {cN : Nat → Nat → Nat} (hP1 : 1 ≤ P) (hP : P ≤ 5) (hm : m ≤ 4) (hw : ∀ p, p < P → w p ≤ 9) (hc : ∀ a b, a < P → b < P → cN a b ≤ 4) : z_AT P w cN m i ≤ 2 ^ 41 := by
  have hn : m * (m - 1) / 2 ≤ 6 := by
    rcases (by omega : m = 0 ∨ m = 1 ∨ m = 2 ∨ m = 3 ∨ m = 4) with rfl | rfl | rfl | rfl | rfl <;> decide
  have h1 : ∀ way, z_Gt w cN i (z_tup P m way) ≤ 6561 * (64 * 4096) := fun way => by
    obtain ⟨g1, g2⟩ := z_tup_lt hP1 m way
    unfold z_Gt
    refine Nat.mul_le_mul (Nat.le_trans (z_prd_bd hw _ g2) ?_) ?_
    · rw [g1]
      exact Nat.le_trans (Nat.pow_le_pow_right (by decide) hm) (by decide)
    · rw [g1]
      unfold z_Sf
      refine Nat.le_trans (z_sml_bd (B := 4096) _ (fun c _ => ?_)) ?_
      · split
        · unfold z_pp
          refine Nat.le_trans (z_prd_b4 (B := 4) _ (fun p hp => ?_)) ?_
          · unfold z_pv
            have hp := List.mem_range.mp hp
            have h4 : z_ftp cN (z_tup P m way) p ≤ 4 := by
              obtain ⟨u1, u2, u3⟩ := z_plo_tab m (by omega) p hp
              have hlt : ∀ j, j < m → (z_tup P m way).getD j 0 < P := fun j hj => by
                rw [List.getD_eq_getElem?_getD, List.getElem?_eq_getElem (by omega)]
                exact g2 _ (List.getElem_mem _)
              exact hc _ _ (hlt _ u1) (hlt _ u2)
            split <;> omega
          · rw [List.length_range]
            exact Nat.le_trans (Nat.pow_le_pow_right (by decide) hn) (by decide)
        · omega
      · rw [List.length_range]
        exact Nat.mul_le_mul (Nat.le_trans (Nat.pow_le_pow_right (by decide) hn) (by decide)) (Nat.le_refl _)
  unfold z_AT
  refine Nat.le_trans (z_sml_bd _ (fun way _ => h1 way)) ?_
  rw [List.length_range]
  exact Nat.le_trans (Nat.mul_le_mul (Nat.le_trans (Nat.pow_le_pow_left hP m) (Nat.pow_le_pow_right (by decide) hm)) (Nat.le_refl _)) (by decide)
theorem z_jpos {b : Nat} (hb : b < 2 ^ 63) (h : b ≠ 0) : lg_cmp (Int64.ofNat b) 0 = 1 := by
  have h0 : Int64.ofNat b > 0 := by
    show (0 : Int64) < Int64.ofNat b
    rw [Int64.lt_iff_toInt_lt, Int64.toInt_ofNat_of_lt hb]
    show (0 : Int) < b
    omega
  unfold lg_cmp
  rw [if_pos h0]
theorem z_g8_ag {L : Nat} {I I' : Nat → Nat → Nat → Int32} (h : z_fr (z_g8 L) I I') : z_ag [0] I I' := fun t i j q => h t i j (by
  cases e : z_g8 L t i j with
  | false => rfl
  | true =>
    unfold z_g8 at e
    simp only [Bool.and_eq_true] at e
    obtain rfl := Nat.eq_of_beq_eq_true e.1.1
    exact absurd (show ([0] : List Nat).contains 0 = false from q) (by decide))
theorem z_48_ag {I I' : Nat → Nat → Nat → Int32} (h : z_fr z_d48 I I') : z_ag [0] I I' := fun t i j q => h t i j (by
  cases e : z_d48 t i j with
  | false => rfl
  | true =>
    unfold z_d48 at e
    simp only [Bool.and_eq_true] at e
    obtain rfl := Nat.eq_of_beq_eq_true e.1
    exact absurd (show ([0] : List Nat).contains 0 = false from q) (by decide))
/-- a limit without what is out -/
def z_frl (P : Nat) (w : Nat → Nat) (cN : Nat → Nat → Nat) (l : List (Nat × Nat)) : Bool := l.all (fun q => Nat.beq (z_AT P w cN q.1 q.2) 0)
theorem z_frl_t {P : Nat} {w : Nat → Nat} {cN : Nat → Nat → Nat} {l : List (Nat × Nat)} : z_frl P w cN l = true ↔ ∀ q ∈ l, z_AT P w cN q.1 q.2 = 0 := by
  unfold z_frl
  rw [List.all_eq_true]
  exact ⟨fun h q hq => Nat.eq_of_beq_eq_true (h q hq), fun h q hq => by rw [h q hq]; rfl⟩
theorem z_frl_f {P : Nat} {w : Nat → Nat} {cN : Nat → Nat → Nat} {l : List (Nat × Nat)} {q : Nat × Nat} (hq : q ∈ l) (h : z_AT P w cN q.1 q.2 ≠ 0) : z_frl P w cN l = false := by
  rw [← Bool.not_eq_true, z_frl_t]
  exact fun h9 => h (h9 q hq)
section
variable {d : Nat} {X : z_X} {I : Nat → Nat → Nat → Int32} {J : Nat → Nat → Nat → Int64}
theorem z_LR_ag {I' : Nat → Nat → Nat → Int32} {P : Nat} {w : Nat → Nat} {cN : Nat → Nat → Nat} (h : z_LR I P w cN) (hf : z_ag [0] I I') : z_LR I' P w cN := by
  unfold z_LR
  rw [z_ag_p hf 33 0 4 (c := 1) rfl rfl, z_ag_t hf 37 (c := 1) (fun _ _ => rfl) rfl, z_ag_t hf 38 (c := 1) (fun _ _ => rfl) rfl]
  exact h
theorem z_LC_ag {I' : Nat → Nat → Nat → Int32} {P : Nat} {w : Nat → Nat} {cN : Nat → Nat → Nat} (h : z_LC I P w cN) (hf : z_ag [0] I I') : z_LC I' P w cN := by
  unfold z_LC
  rw [z_ag_p hf 4 0 2 (c := 1) rfl rfl, z_ag_ti hf 5 0 (c := 1) (fun _ => rfl) rfl, z_ag_ti hf 6 0 (c := 1) (fun _ => rfl) rfl]
  exact h
/-- the reference: is the limit free -/
theorem z_p219 (hT : z_Tb I) {P : Nat} {w : Nat → Nat} {cN : Nat → Nat → Nat} {l : List (Nat × Nat)} {co : Nat → Int32} (hP1 : 1 ≤ P) (hP : P ≤ 5) (hw : ∀ p, p < P → w p ≤ 9) (hc : ∀ a b, a < P → b < P → cN a b ≤ 4) (hL : z_LR I P w cN) (hl : z_RoL co (I 33 0 2) (I 36 0) l) : ∃ I', z_ev (d + 4) (z_en 219 [z_r 33 0] (true, X, I, J)) (some (z_i (z_c (z_frl P w cN l))), (true, X, I', J)) ∧ z_fr z_d48 I I' := by
  obtain ⟨l1, l2, l3, l4, l5, l6⟩ := hl
  have key : ∀ j u, u + j = l.length → ∀ I1, z_fr z_d48 I I1 → (∀ v q, v < u → l[v]? = some q → z_AT P w cN q.1 q.2 = 0) → ∃ I', z_ev (d + 4) (219, 2, [some (z_r 33 0), some (z_i (Int32.ofNat u))], [], (true, X, I1, J)) (some (z_i (z_c (z_frl P w cN l))), (true, X, I', J)) ∧ z_fr z_d48 I I' := by
    intro j
    induction j with
    | zero =>
      intro u hu I1 hf h0
      have ht : z_frl P w cN l = true := z_frl_t.mpr (fun q hq => by
        obtain ⟨v, hv, he⟩ := List.mem_iff_getElem.mp hq
        exact h0 v q (by omega) (by rw [List.getElem?_eq_getElem hv, he]))
      rw [ht]
      refine ⟨I1, z_q219_2 _ ⟨fun _ => rfl, fun h => ?_⟩, hf⟩
      rw [z_fr_t hf 33 (fun _ _ => rfl), l4] at h
      exact absurd ((z_olt (by omega) (by omega)).mp h) (by omega)
    | succ j ih =>
      intro u hu I1 hf h0
      obtain ⟨q, hq⟩ : ∃ q, l[u]? = some q := ⟨l[u]'(by omega), List.getElem?_eq_getElem (by omega)⟩
      obtain ⟨e1, e2⟩ := l5 u q hq
      have hm : q ∈ l := List.mem_of_getElem? hq
      obtain ⟨q1, q2, q3⟩ := l3 q hm
      have ha := z_48_ag hf
      have t36 : I1 36 = I 36 := z_fr_t hf 36 (fun _ _ => rfl)
      obtain ⟨I2, c1, c2⟩ := z_p216 (d := d) (X := X) (I := I1) (J := J) (z_Tb_ag ha rfl hT) hP1 hP (show 1 ≤ q.1 by omega) q2 q3 hw hc (z_LR_ag hL ha)
      have hbd := z_AT_bd (m := q.1) (i := q.2) hP1 hP q2 hw hc
      have hf2 := z_fr_tr hf c2
      have hlt : ¬ I1 33 0 2 ≤ Int32.ofNat u := by
        rw [z_fr_t hf 33 (fun _ _ => rfl), l4]
        exact fun h => absurd ((z_ole (by omega) (by omega)).mp h) (by omega)
      by_cases hz : z_AT P w cN q.1 q.2 = 0
      · obtain ⟨I', g1, g2⟩ := ih (u + 1) (by omega) I2 hf2 (fun v q' hv hq' => by
          by_cases h : v = u
          · subst h
            rw [hq] at hq'
            cases hq'
            exact hz
          · exact h0 v q' (by omega) hq')
        refine ⟨I', z_q219_2 _ ⟨fun h => absurd h hlt, fun _ => ⟨2 * u, (Int32.ofNat_mul 2 u).symm, by omega, 2 * u + 1, (by rw [Int32.ofNat_add, Int32.ofNat_mul]; rfl), by omega, _, X, I2, J, (by rw [t36, e1, e2]; exact c1), fun _ => ?_, fun h => ?_⟩⟩, g2⟩
        · rw [z_os]; exact g1
        · rw [hz] at h
          exact absurd h (by decide)
      · rw [z_frl_f hm hz]
        refine ⟨I2, z_q219_2 _ ⟨fun h => absurd h hlt, fun _ => ⟨2 * u, (Int32.ofNat_mul 2 u).symm, by omega, 2 * u + 1, (by rw [Int32.ofNat_add, Int32.ofNat_mul]; rfl), by omega, _, X, I2, J, (by rw [t36, e1, e2]; exact c1), fun h => ?_, fun _ => rfl⟩⟩, hf2⟩
        rw [z_jpos (by omega) hz] at h
        exact absurd h (by decide)
  obtain ⟨I', c1, c2⟩ := key l.length 0 (by omega) I z_fr_rf (fun v _ hv => absurd hv (Nat.not_lt_zero v))
  exact ⟨I', z_q219_e c1, c2⟩
/-- the class: is the limit free -/
theorem z_p144 {P : Nat} {w : Nat → Nat} {cN : Nat → Nat → Nat} {l : List (Nat × Nat)} {mo : Int32} {ou : Nat → Int32} (hP1 : 1 ≤ P) (hP : P ≤ 5) (hw : ∀ p, p < P → w p ≤ 9) (hc : ∀ a b, a < P → b < P → cN a b ≤ 4 ∧ cN a b = cN b a) (hL : z_LC I P w cN) (hl : z_RoL (I 3 0) mo ou l) : ∃ I' J', z_ev (d + 28) (z_en 144 [z_r 0 0] (true, X, I, J)) (some (z_i (z_c (z_frl P w cN l))), (true, X, I', J')) ∧ z_fr (z_g8 0) I I' ∧ (∀ a b c, a ≠ 7 → J' a b c = J a b c) := by
  obtain ⟨l1, l2, l3, l4, l5, l6⟩ := hl
  have key : ∀ j m, m + j = 5 → 2 ≤ m → ∀ (I1 : Nat → Nat → Nat → Int32) (J1 : Nat → Nat → Nat → Int64), z_fr (z_g8 0) I I1 → (∀ a b c, a ≠ 7 → J1 a b c = J a b c) → (∀ q ∈ l, q.1 < m → z_AT P w cN q.1 q.2 = 0) →
      ∃ I' J', (∀ o2, z_ev (d + 28) (144, 2, [some (z_r 0 0), some (z_i (Int32.ofNat m)), o2], [], (true, X, I1, J1)) (some (z_i (z_c (z_frl P w cN l))), (true, X, I', J'))) ∧ z_fr (z_g8 0) I I' ∧ (∀ a b c, a ≠ 7 → J' a b c = J a b c) := by
    intro j
    induction j with
    | zero =>
      intro m hm hm2 I1 J1 hf hJ h0
      obtain rfl : m = 5 := by omega
      rw [z_frl_t.mpr (fun q hq => h0 q hq (by have := (l3 q hq).2.1; omega))]
      exact ⟨I1, J1, fun o2 => z_q144_2 _ o2 ⟨fun _ => rfl, fun h => absurd h (by decide)⟩, hf, hJ⟩
    | succ j ih =>
      intro m hm hm2 I1 J1 hf hJ h0
      obtain ⟨k, k1, k2, k3⟩ := l6 m hm2 (by omega)
      have hle : ¬ (4 : Int32) < Int32.ofNat m := fun h => absurd ((z_olt (a := 4) (by decide) (by omega)).mp h) (by omega)
      have e3 : ∀ {I1 : Nat → Nat → Nat → Int32}, z_fr (z_g8 0) I I1 → I1 3 0 m = Int32.ofNat k := fun hf => by rw [z_fr_t hf 3 (fun _ _ => rfl)]; exact k2
      by_cases hk0 : k = 0
      · obtain ⟨I', J', c1, c2⟩ := ih (m + 1) (by omega) (by omega) I1 J1 hf hJ (fun q hq hqm => by
          by_cases h : q.1 = m
          · have h9 := (k3 q.2).mpr (by rw [← h]; exact hq)
            rw [hk0] at h9
            simp at h9
          · exact h0 q hq (by omega))
        refine ⟨I', J', fun o2 => z_q144_2 _ o2 ⟨fun h => absurd h hle, fun _ => ⟨m, rfl, by omega, fun _ => ?_, fun h => ?_⟩⟩, c2⟩
        · rw [z_os]; exact c1 o2
        · rw [e3 hf, hk0] at h
          exact absurd rfl h
      · have hne : ¬ I1 3 0 m = 0 := by
          rw [e3 hf]
          exact fun q => absurd ((z_oeq (b := 0) (by omega) (by decide)).mp q) hk0
        obtain ⟨I2, J2, p1, p2, p3, p4⟩ := z_p12 (d := d) (X := X) (m := m) (I := I1) (J := J1) hP1 hP (by omega) (by omega) hw hc (z_LC_8 hL hf)
        have hf2 := z_fr_tr hf p2
        have hJ2 : ∀ a b c, a ≠ 7 → J2 a b c = J a b c := fun a b c ha => (p3 a b c ha).trans (hJ a b c ha)
        obtain ⟨f1, f2⟩ := z_fo_nat m (by omega)
        have inner : ∀ j i, i + j = z_fon m → (∀ i', i' < i → (m, i') ∈ l → z_AT P w cN m i' = 0) → ∃ I' J', z_ev (d + 28) (144, 32, [some (z_r 0 0), some (z_i (Int32.ofNat m)), some (z_i (Int32.ofNat i))], [], (true, X, I2, J2)) (some (z_i (z_c (z_frl P w cN l))), (true, X, I', J')) ∧ z_fr (z_g8 0) I I' ∧ (∀ a b c, a ≠ 7 → J' a b c = J a b c) := by
          intro j
          induction j with
          | zero =>
            intro i hi h1
            obtain ⟨I', J', c1, c2⟩ := ih (m + 1) (by omega) (by omega) I2 J2 hf2 hJ2 (fun q hq hqm => by
              by_cases h : q.1 = m
              · obtain ⟨a, b⟩ := q
                obtain rfl : a = m := h
                have h3 := (l3 (a, b) hq).2.2
                exact h1 b (by show b < i; have : b < z_fon a := h3; omega) hq
              · exact h0 q hq (by omega))
            refine ⟨I', J', z_q144_32 _ _ ⟨fun _ => ?_, fun h => ?_⟩, c2⟩
            · rw [z_os]; exact c1 _
            · rw [f1] at h
              exact absurd ((z_olt (by omega) (by omega)).mp h) (by omega)
          | succ j ihi =>
            intro i hi h1
            have hge : ¬ z_fo (Int32.ofNat m) ≤ Int32.ofNat i := by
              rw [f1]
              exact fun h => absurd ((z_ole (by omega) (by omega)).mp h) (by omega)
            have hbd := z_AT_bd (m := m) (i := i) hP1 hP (by omega) hw (fun a b ha hb => (hc a b ha hb).1)
            have hb2 := z_bt_2k k k1 i (by omega)
            have hJc := z_jcmp (b := z_AT P w cN m i) (by omega)
            cases hb : k.testBit i with
            | false =>
              obtain ⟨I', J', c1, c2⟩ := ihi (i + 1) (by omega) (fun i' hi' hl' => by
                by_cases h : i' = i
                · subst h
                  rw [(k3 i').mpr hl'] at hb
                  cases hb
                · exact h1 i' (by omega) hl')
              rw [hb] at hb2
              have hz := of_decide_eq_false hb2
              refine ⟨I', J', z_q144_32 _ _ ⟨fun h => absurd h hge, fun _ => ⟨m, rfl, by omega, fun _ => ?_, fun h => ?_⟩⟩, c2⟩
              · rw [z_os]; exact c1
              · rw [e3 hf2] at h
                exact absurd h hz
            | true =>
              rw [hb] at hb2
              have hz := of_decide_eq_true hb2
              by_cases ha : z_AT P w cN m i = 0
              · obtain ⟨I', J', c1, c2⟩ := ihi (i + 1) (by omega) (fun i' hi' hl' => by
                  by_cases h : i' = i
                  · subst h; exact ha
                  · exact h1 i' (by omega) hl')
                refine ⟨I', J', z_q144_32 _ _ ⟨fun h => absurd h hge, fun _ => ⟨m, rfl, by omega, fun h => ?_, fun _ => ⟨i, rfl, by omega, fun _ => ?_, fun h => ?_⟩⟩⟩, c2⟩
                · rw [e3 hf2] at h
                  exact absurd h hz
                · rw [z_os]; exact c1
                · rw [p4 i (by omega)] at h
                  exact absurd (hJc.mpr ha) h
              · rw [z_frl_f ((k3 i).mp hb) ha]
                refine ⟨I2, J2, z_q144_32 _ _ ⟨fun h => absurd h hge, fun _ => ⟨m, rfl, by omega, fun h => ?_, fun _ => ⟨i, rfl, by omega, fun h => ?_, fun _ => rfl⟩⟩⟩, hf2, hJ2⟩
                · rw [e3 hf2] at h
                  exact absurd h hz
                · rw [p4 i (by omega)] at h
                  exact absurd (hJc.mp h) ha
        obtain ⟨I', J', c1, c2⟩ := inner (z_fon m) 0 (by omega) (fun i' hi' => absurd hi' (Nat.not_lt_zero i'))
        exact ⟨I', J', fun o2 => z_q144_2 _ o2 ⟨fun h => absurd h hle, fun _ => ⟨m, rfl, by omega, fun h => absurd h hne, fun _ => ⟨X, I2, J2, p1, c1⟩⟩⟩, c2⟩
  obtain ⟨I', J', c1, c2⟩ := key 3 2 (by omega) (by omega) I J z_fr_rf (fun _ _ _ _ => rfl) (fun q hq h => absurd (l3 q hq).1 (by omega))
  exact ⟨I', J', z_q144_e (c1 _), c2⟩
end
