/-! calls of both: out -/
def z_oq (a b c : Nat) : Bool := (Nat.beq a 3 && Nat.beq b 0) || Nat.beq a 36 || (Nat.beq a 33 && Nat.beq b 0 && Nat.beq c 2)
theorem z_R_out {X : z_X} {I I' : Nat → Nat → Nat → Int32} {J : Nat → Nat → Nat → Int64} (hR : z_R X I J) (h : z_fr z_oq I I') (ho : z_Ro (I' 3 0) (I' 33 0 2) (I' 36 0)) : z_R X I' J ∧ I' 67 = I 67 := by
  have hw : z_ag [0, 1] I I' := fun a b c hc => h a b c (by
    cases e : z_oq a b c with
    | false => rfl
    | true =>
      unfold z_oq at e
      rw [Bool.or_eq_true, Bool.or_eq_true, Bool.and_eq_true, Bool.and_eq_true, Bool.and_eq_true] at e
      rcases e with (e | e) | e
      · obtain rfl := Nat.eq_of_beq_eq_true e.1
        obtain rfl := Nat.eq_of_beq_eq_true e.2
        exact absurd hc (by show ¬ ([0, 1] : List Nat).contains 1 = false; decide)
      · obtain rfl := Nat.eq_of_beq_eq_true e
        exact absurd hc (by show ¬ ([0, 1] : List Nat).contains 1 = false; decide)
      · obtain rfl := Nat.eq_of_beq_eq_true e.1.1
        obtain rfl := Nat.eq_of_beq_eq_true e.1.2
        obtain rfl := Nat.eq_of_beq_eq_true e.2
        exact absurd hc (by show ¬ ([0, 1] : List Nat).contains 1 = false; decide))
  refine ⟨z_R_01 hR hw rfl rfl ?_, z_67_ag hw rfl⟩
  obtain ⟨⟨n1, n2, n3, n4, n5⟩, -⟩ := hR
  have t : ∀ t, (∀ i j, z_oq t i j = false) → I' t = I t := fun t ht => z_fr_t h t ht
  have t33 : ∀ j, j ≠ 2 → I' 33 0 j = I 33 0 j := fun j hj => h 33 0 j (by
    unfold z_oq
    rw [show Nat.beq j 2 = false from Bool.eq_false_iff.mpr (fun q => hj (Nat.eq_of_beq_eq_true q))]; rfl)
  refine ⟨?_, ho, ?_, ?_, ?_⟩
  · rw [t 13 (fun _ _ => rfl), t 14 (fun _ _ => rfl), t 34 (fun _ _ => rfl), t 35 (fun _ _ => rfl)]; exact n1
  · rw [t 4 (fun _ _ => rfl), t 5 (fun _ _ => rfl), t 6 (fun _ _ => rfl), t 37 (fun _ _ => rfl), t 38 (fun _ _ => rfl), t33 4 (by decide)]; exact n3
  · rw [t 1 (fun _ _ => rfl), t33 7 (by decide)]; exact n4
  · rw [t 32 (fun _ _ => rfl), t 1 (fun _ _ => rfl), t 12 (fun _ _ => rfl), t 39 (fun _ _ => rfl), t33 8 (by decide)]; exact n5
theorem z_xor2k : ∀ a, a < 2048 → ∀ b, b < 11 → Int32.ofNat a ^^^ ((1 : Int32) <<< (Int32.ofNat b &&& 31)) = Int32.ofNat (a ^^^ 2 ^ b) := by decide +kernel
theorem z_p204 {d : Nat} {X : z_X} {I : Nat → Nat → Nat → Int32} {J : Nat → Nat → Nat → Int64} {co : Nat → Int32} {l : List (Nat × Nat)} (hl : z_RoL co (I 33 0 2) (I 36 0) l) {k i : Nat} (hk : k ≤ 4) (hi : i < 11) :
    ∃ v : Int32, z_ev d (z_en 204 [z_r 33 0, z_i (Int32.ofNat k), z_i (z_fm i)] (true, X, I, J)) (some (z_i v), (true, X, I, J)) ∧ ((v = -1 ∧ (k, i) ∉ l) ∨ ∃ o, o < l.length ∧ v = Int32.ofNat o ∧ l[o]? = some (k, i)) := by
  obtain ⟨l1, l2, l3, l4, l5, l6⟩ := hl
  have key : ∀ j u, u + j = l.length → (∀ i9, i9 < u → l[i9]? ≠ some (k, i)) → ∃ v : Int32, z_ev d (204, 2, [some (z_r 33 0), some (z_i (Int32.ofNat k)), some (z_i (z_fm i)), some (z_i (Int32.ofNat u))], [], (true, X, I, J)) (some (z_i v), (true, X, I, J)) ∧ ((v = -1 ∧ (k, i) ∉ l) ∨ ∃ o, o < l.length ∧ v = Int32.ofNat o ∧ l[o]? = some (k, i)) := by
    intro j
    induction j with
    | zero =>
      intro u hu ha
      refine ⟨-1, z_q204_2 _ _ _ ⟨fun _ => rfl, fun h => ?_⟩, Or.inl ⟨rfl, fun hm => ?_⟩⟩
      · rw [l4] at h
        exact absurd ((z_olt (by omega) (by omega)).mp h) (by omega)
      · obtain ⟨i9, h9⟩ := List.getElem?_of_mem hm
        have := (List.getElem?_eq_some_iff.mp h9).1
        exact ha i9 (by omega) h9
    | succ j ih =>
      intro u hu ha
      have hlt : u < l.length := by omega
      obtain ⟨q, hq⟩ : ∃ q, l[u]? = some q := ⟨l[u], List.getElem?_eq_getElem hlt⟩
      obtain ⟨a1, a2⟩ := l5 u q hq
      obtain ⟨b1, b2, b3⟩ := l3 q (List.mem_of_getElem? hq)
      have q11 : q.2 < 11 := Nat.lt_of_lt_of_le b3 (z_fon_le q.1 b2)
      have g0 : ∀ {P : Prop}, I 33 0 2 ≤ Int32.ofNat u → P := fun h => by
        rw [l4] at h
        exact absurd ((z_ole (by omega) (by omega)).mp h) (by omega)
      by_cases he : q = (k, i)
      · subst he
        exact ⟨Int32.ofNat u, z_q204_2 _ _ _ ⟨fun h => g0 h, fun _ => ⟨2 * u, (Int32.ofNat_mul 2 u).symm, by omega, fun h => absurd a1 h, fun _ => ⟨2 * u + 1, z_o2 u 1, by omega, fun h => absurd a2 h, fun _ => rfl⟩⟩⟩, Or.inr ⟨u, hlt, rfl, hq⟩⟩
      · obtain ⟨v, c1, c2⟩ := ih (u + 1) (by omega) (fun i9 hi9 h9 => by
          by_cases h : i9 = u
          · subst h
            rw [hq] at h9
            exact he (Option.some.inj h9)
          · exact ha i9 (by omega) h9)
        refine ⟨v, z_q204_2 _ _ _ ⟨fun h => g0 h, fun _ => ⟨2 * u, (Int32.ofNat_mul 2 u).symm, by omega, fun _ => by rw [z_os]; exact c1, fun h1 => ⟨2 * u + 1, z_o2 u 1, by omega, fun _ => by rw [z_os]; exact c1, fun h2 => ?_⟩⟩⟩, c2⟩
        exfalso
        rw [a1] at h1
        rw [a2] at h2
        have e1 := (z_oeq (by omega) (by omega)).mp h1
        have e2 := z_fm_inj _ q11 _ hi h2
        exact he (by rw [← e1, ← e2])
  obtain ⟨v, c1, c2⟩ := key l.length 0 (by omega) (fun i9 h => absurd h (Nat.not_lt_zero i9))
  exact ⟨v, z_q204_e _ _ c1, c2⟩
/-- masks when one of them turns at a bit -/
theorem z_msk {co co' : Nat → Int32} {l l' : List (Nat × Nat)} {k i w : Nat} (h6 : ∀ m, 2 ≤ m → m ≤ 4 → ∃ k, k < 2048 ∧ co m = Int32.ofNat k ∧ ∀ i, k.testBit i = true ↔ (m, i) ∈ l) (hi : i < 11) (hw : w < 2048) (hwl : ∀ j, w.testBit j = true ↔ (k, j) ∈ l) (ek : co' k = Int32.ofNat (w ^^^ 2 ^ i)) (eo : ∀ m, m ≠ k → co' m = co m) (hm : ∀ q : Nat × Nat, q ≠ (k, i) → (q ∈ l' ↔ q ∈ l)) (hx : (k, i) ∈ l' ↔ ¬ (k, i) ∈ l) : ∀ m, 2 ≤ m → m ≤ 4 → ∃ k, k < 2048 ∧ co' m = Int32.ofNat k ∧ ∀ i, k.testBit i = true ↔ (m, i) ∈ l' := by
  intro m m1 m2
  by_cases hmk : m = k
  · subst hmk
    refine ⟨w ^^^ 2 ^ i, Nat.xor_lt_two_pow (n := 11) hw (Nat.pow_lt_pow_right (by decide) hi), ek, fun j => ?_⟩
    rw [Nat.testBit_xor, Nat.testBit_two_pow]
    by_cases hj : j = i
    · subst hj
      rw [hx, ← hwl j]
      cases w.testBit j <;> simp
    · rw [decide_eq_false (fun q => hj q.symm), Bool.xor_false, hwl j, hm _ (fun q => hj (congrArg Prod.snd q))]
  · obtain ⟨u, u1, u2, u3⟩ := h6 m m1 m2
    exact ⟨u, u1, (eo m hmk).trans u2, fun j => by rw [u3 j, hm _ (fun q => hmk (congrArg Prod.fst q))]⟩
/-- promise 15 -/
theorem z_op_out (x f : Int32) (b : Bool) : z_op 80 205 [z_i x, z_i f, z_i (z_c b)] := by
  intro X I J hR
  have hR0 := hR
  obtain ⟨n1, -, -, -, -, -, -, r8⟩ := hR
  obtain ⟨l, hl⟩ : ∃ l, z_RoL (I 3 0) (I 33 0 2) (I 36 0) l := by
    obtain ⟨-, h, -⟩ := n1
    exact h
  by_cases hf : z_isf x f
  · obtain ⟨k, i, k1, k4, hi, rfl, rfl⟩ := hf
    have hi11 : i < 11 := Nat.lt_of_lt_of_le hi (z_fon_le k k4)
    have p128 := z_p128t (d := 58) (X := X) (I := I) (J := J) k1 k4 hi
    have v0 : ∀ {P : Prop}, Int32.ofNat i < 0 → P := fun h => absurd (z_on0 i (by omega)) (Int32.not_le.mpr h)
    by_cases hk2 : 2 ≤ k
    · have c2 : (2 : Int32) ≤ Int32.ofNat k := (z_ole (a := 2) (by decide) (by omega)).mpr hk2
      have f2 : ∀ {P : Prop}, Int32.ofNat k < 2 → P := fun h => absurd c2 (Int32.not_le.mpr h)
      have hb24 : z_bw (Int32.ofNat k) 2 4 = true := z_bw_t.mpr ⟨c2, (z_ole (b := 4) (by omega) (by decide)).mpr k4⟩
      have fb24 : ∀ {P : Prop}, z_bw (Int32.ofNat k) 2 4 = false → P := fun h => by rw [hb24] at h; cases h
      have hl0 := hl
      obtain ⟨l1, l2, l3, l4, l5, l6⟩ := hl
      obtain ⟨w, w1, w2, w3⟩ := l6 k hk2 k4
      have eb := z_bt_2k w w1 i hi11
      have p64 := z_p64 (d := 58) (X := X) (I := I) (J := J)
      rw [z_ou_cnt ⟨l, hl0⟩, l4] at p64
      have ex := z_xor2k w w1 i hi11
      by_cases hmem : (k, i) ∈ l
      · have hbit : w.testBit i = true := (w3 i).mpr hmem
        rw [hbit] at eb
        unfold z_bt at eb
        rw [decide_eq_true_iff, ← w2] at eb
        cases b with
        | true =>
          obtain ⟨v, q1, q2⟩ := z_p204 (d := 59) (X := X) (J := J) hl0 k4 hi11
          rcases q2 with ⟨-, q2⟩ | ⟨o, o1, o2, o3⟩
          · exact absurd hmem q2
          · subst o2
            exact ⟨z_i 0, X, X, I, I, J, J, z_q80_e (d := 58) _ _ true ⟨_, _, _, _, p128, fun h => f2 h, fun _ => ⟨fun _ => ⟨k, rfl, by omega, fun h => absurd h eb, fun _ => ⟨fun h => absurd rfl h, fun _ => rfl⟩⟩, fun h => v0 h⟩⟩, z_q205_e (d := 57) _ _ true ⟨fun h => fb24 h, fun _ => ⟨true, _, _, _, z_p166t r8 k1 k4 hi, fun _ => ⟨_, _, _, _, q1, fun h => absurd (z_on0 o (by omega)) (Int32.not_le.mpr h), fun _ => ⟨fun h => absurd rfl h, fun _ => rfl⟩⟩, fun h => (by cases h)⟩⟩, hR0, Nat.le_succ _, Nat.le_add_right _ _, rfl⟩
        | false =>
          obtain ⟨I1, hI1⟩ : ∃ I1, I1 = z_up I 3 0 k (Int32.ofNat (w ^^^ 2 ^ i)) := ⟨_, rfl⟩
          have t1 : ∀ t, t ≠ 3 → I1 t = I t := fun t ht => by rw [hI1, z_up_t ht]
          have hl1 : z_RoL (I 3 0) (I1 33 0 2) (I1 36 0) l := by rw [t1 33 (by decide), t1 36 (by decide)]; exact hl0
          obtain ⟨v, q1, q2⟩ := z_p204 (d := 59) (X := X) (J := J) hl1 k4 hi11
          rcases q2 with ⟨-, q2⟩ | ⟨o, o1, o2, o3⟩
          · exact absurd hmem q2
          · subst o2
            obtain ⟨L, hL⟩ : ∃ L, l.length = L + 1 := ⟨l.length - 1, by omega⟩
            have e1 : I1 33 0 2 - 1 = Int32.ofNat L := by
              rw [t1 33 (by decide), l4, hL, ← z_os]
              exact Int32.add_sub_cancel _ _
            obtain ⟨I2, hI2⟩ : ∃ I2, I2 = z_up (z_up (z_up I1 33 0 2 (I1 33 0 2 - 1)) 36 0 (2 * o) (I1 36 0 (2 * L))) 36 0 (2 * o + 1) ((z_up (z_up I1 33 0 2 (I1 33 0 2 - 1)) 36 0 (2 * o) (I1 36 0 (2 * L))) 36 0 (2 * L + 1)) := ⟨_, rfl⟩
            have a36 : ∀ j, j ≠ 2 * o → j ≠ 2 * o + 1 → I2 36 0 j = I 36 0 j := fun j h1 h2 => by rw [hI2, z_up_j h2, z_up_j h1, z_up_t (by decide), t1 36 (by decide)]
            have a360 : I2 36 0 (2 * o) = I 36 0 (2 * L) := by rw [hI2, z_up_j (by omega), z_up_e, t1 36 (by decide)]
            have a361 : I2 36 0 (2 * o + 1) = I 36 0 (2 * L + 1) := by
              rw [hI2, z_up_e, z_up_j (by omega), z_up_t (by decide), t1 36 (by decide)]
            have a33 : I2 33 0 2 = Int32.ofNat L := by rw [hI2, z_up_t (by decide), z_up_t (by decide), z_up_e, e1]
            have a3 : I2 3 = I1 3 := by rw [hI2, z_up_t (by decide), z_up_t (by decide), z_up_t (by decide)]
            have hfr : z_fr z_oq I I2 := by
              rw [hI2, hI1]
              exact z_fr_up (z_fr_up (z_fr_up (z_fr_up z_fr_rf rfl) rfl) rfl) rfl
            -- the new list
            have hnew : ∃ l' : List (Nat × Nat), l'.length = L ∧ l'.Nodup ∧ (∀ q, q ∈ l' ↔ q ∈ l ∧ q ≠ (k, i)) ∧ ∀ j q, l'[j]? = some q → (j = o ∧ l[L]? = some q) ∨ (j ≠ o ∧ l[j]? = some q) := by
              obtain ⟨A, B, hAB⟩ := List.append_of_mem hmem
              have hnd := l2
              rw [hAB, List.nodup_append] at hnd
              obtain ⟨nA, nB, nAB⟩ := hnd
              rw [List.nodup_cons] at nB
              have xA : (k, i) ∉ A := fun h => nAB _ h _ (by simp) rfl
              have hoA : o = A.length := by
                have h9 : l[A.length]? = some (k, i) := by rw [hAB, List.getElem?_append_right (Nat.le_refl _), Nat.sub_self]; rfl
                by_cases h : o < A.length
                · exfalso
                  rw [hAB, List.getElem?_append_left h] at o3
                  exact xA (List.mem_of_getElem? o3)
                · by_cases h2 : o = A.length
                  · exact h2
                  · exfalso
                    rw [hAB, List.getElem?_append_right (by omega), show o - A.length = (o - A.length - 1) + 1 by omega, List.getElem?_cons_succ] at o3
                    exact nB.1 (List.mem_of_getElem? o3)
              have hmA : ∀ q, q ∈ A ++ B ↔ q ∈ l ∧ q ≠ (k, i) := fun q => by
                rw [hAB]
                simp only [List.mem_append, List.mem_cons]
                constructor
                · rintro (h | h)
                  · exact ⟨Or.inl h, fun e => xA (e ▸ h)⟩
                  · exact ⟨Or.inr (Or.inr h), fun e => nB.1 (e ▸ h)⟩
                · rintro ⟨h | h | h, h2⟩
                  · exact Or.inl h
                  · exact absurd h h2
                  · exact Or.inr h
              have hnAB : (A ++ B).Nodup := List.Nodup.sublist (List.Sublist.append_left (List.sublist_cons_self (k, i) B) A) (by rw [← hAB]; exact l2)
              rcases List.eq_nil_or_concat B with hB | ⟨B', z9, hB⟩
              · subst hB
                have hlA : A.length = L := by
                  have := congrArg List.length hAB
                  rw [List.length_append, List.length_cons, List.length_nil] at this
                  omega
                refine ⟨A, hlA, nA, fun q => by rw [← hmA q, List.append_nil], fun j q hq => Or.inr ?_⟩
                have hj := (List.getElem?_eq_some_iff.mp hq).1
                refine ⟨by omega, ?_⟩
                rw [hAB, List.getElem?_append_left hj]; exact hq
              · rw [List.concat_eq_append] at hB
                subst hB
                have hlA : A.length + B'.length + 1 = L := by
                  have := congrArg List.length hAB
                  rw [List.length_append, List.length_cons, List.length_append, List.length_singleton] at this
                  omega
                have hpm : (A ++ z9 :: B').Perm (A ++ (B' ++ [z9])) := List.Perm.append_left A (List.perm_append_singleton z9 B').symm
                refine ⟨A ++ z9 :: B', by rw [List.length_append, List.length_cons]; omega, hpm.nodup_iff.mpr hnAB, fun q => by rw [hpm.mem_iff, hmA q], fun j q hq => ?_⟩
                by_cases h1 : j < A.length
                · rw [List.getElem?_append_left h1] at hq
                  exact Or.inr ⟨by omega, by rw [hAB, List.getElem?_append_left h1]; exact hq⟩
                · rw [List.getElem?_append_right (by omega)] at hq
                  by_cases h2 : j = A.length
                  · subst h2
                    rw [Nat.sub_self] at hq
                    refine Or.inl ⟨hoA.symm, ?_⟩
                    rw [hAB, List.getElem?_append_right (by omega), show L - A.length = B'.length + 1 by omega, List.getElem?_cons_succ, List.getElem?_append_right (Nat.le_refl _), Nat.sub_self]
                    exact hq
                  · rw [show j - A.length = (j - A.length - 1) + 1 by omega, List.getElem?_cons_succ] at hq
                    have hj := (List.getElem?_eq_some_iff.mp hq).1
                    refine Or.inr ⟨by omega, ?_⟩
                    rw [hAB, List.getElem?_append_right (by omega), show j - A.length = (j - A.length - 1) + 1 by omega, List.getElem?_cons_succ, List.getElem?_append_left hj]
                    exact hq
            obtain ⟨l', m1, m2, m3, m4⟩ := hnew
            have hRo : z_Ro (I2 3 0) (I2 33 0 2) (I2 36 0) := by
              refine ⟨l', by omega, m2, fun q hq => l3 q ((m3 q).mp hq).1, by rw [a33, m1], fun j q hq => ?_, z_msk l6 hi11 w1 w3 ?_ (fun m hm => ?_) (fun q hq => ?_) ?_⟩
              · rcases m4 j q hq with ⟨rfl, h9⟩ | ⟨h8, h9⟩
                · rw [a360, a361]; exact l5 L q h9
                · rw [a36 _ (by omega) (by omega), a36 _ (by omega) (by omega)]; exact l5 j q h9
              · rw [a3, hI1, z_up_e]
              · rw [a3, hI1, z_up_j hm]
              · rw [m3 q]; exact ⟨fun h => h.1, fun h => ⟨h, hq⟩⟩
              · rw [m3]; exact ⟨fun h => absurd rfl h.2, fun h => absurd hmem h⟩
            have hfin := z_R_out hR0 hfr hRo
            refine ⟨z_i 1, X, X, I1, I2, J, J, z_q80_e (d := 58) _ _ false ⟨_, _, _, _, p128, fun h => f2 h, fun _ => ⟨fun _ => ⟨k, rfl, by omega, fun h => absurd h eb, fun _ => ⟨fun _ => ⟨fun _ => ?_, fun h => (by cases h)⟩, fun h => absurd h (by decide)⟩⟩, fun h => v0 h⟩⟩, z_q205_e (d := 57) _ _ false ⟨fun h => fb24 h, fun _ => ⟨true, _, _, _, z_p166t (z_Tb_c (t1 40 (by decide)) (t1 41 (by decide)) (t1 42 (by decide)) r8) k1 k4 hi, fun _ => ⟨_, _, _, _, q1, fun h => absurd (z_on0 o (by omega)) (Int32.not_le.mpr h), fun _ => ⟨fun _ => ⟨fun _ => ⟨2 * L, ?_, by omega, 2 * o, (Int32.ofNat_mul 2 o).symm, by omega, 2 * L + 1, ?_, by omega, 2 * o + 1, z_o2 o 1, by omega, ?_⟩, fun h => (by cases h)⟩, fun h => absurd h (by decide)⟩⟩, fun h => (by cases h)⟩⟩, hfin.1, Nat.le_succ _, Nat.le_add_right _ _, hfin.2⟩
            · rw [w2, ex, ← hI1]
            · rw [e1]; exact (Int32.ofNat_mul 2 L).symm
            · rw [e1]; exact z_o2 L 1
            · rw [hI2]
      · have hbit : w.testBit i = false := by
          rw [← Bool.not_eq_true]
          exact fun h => hmem ((w3 i).mp h)
        rw [hbit] at eb
        unfold z_bt at eb
        rw [decide_eq_false_iff_not, Decidable.not_not, ← w2] at eb
        cases b with
        | false =>
          obtain ⟨v, q1, q2⟩ := z_p204 (d := 59) (X := X) (J := J) hl0 k4 hi11
          rcases q2 with ⟨rfl, -⟩ | ⟨o, o1, o2, o3⟩
          · exact ⟨z_i 0, X, X, I, I, J, J, z_q80_e (d := 58) _ _ false ⟨_, _, _, _, p128, fun h => f2 h, fun _ => ⟨fun _ => ⟨k, rfl, by omega, fun _ => ⟨fun h => absurd rfl h, fun _ => rfl⟩, fun h => absurd eb h⟩, fun h => v0 h⟩⟩, z_q205_e (d := 57) _ _ false ⟨fun h => fb24 h, fun _ => ⟨true, _, _, _, z_p166t r8 k1 k4 hi, fun _ => ⟨_, _, _, _, q1, fun _ => ⟨fun h => absurd rfl h, fun _ => rfl⟩, fun h => absurd h (by decide)⟩, fun h => (by cases h)⟩⟩, hR0, Nat.le_succ _, Nat.le_add_right _ _, rfl⟩
          · exact absurd (List.mem_of_getElem? o3) hmem
        | true =>
          by_cases hl4 : l.length = 4
          · have g4 : (4 : Int32) ≤ Int32.ofNat l.length := by rw [hl4]; decide
            obtain ⟨v, q1, q2⟩ := z_p204 (d := 59) (X := X) (J := J) hl0 k4 hi11
            rcases q2 with ⟨rfl, -⟩ | ⟨o, o1, o2, o3⟩
            · refine ⟨z_i (-2), X, X, I, I, J, J, z_q80_e (d := 58) _ _ true ⟨_, _, _, _, p128, fun h => f2 h, fun _ => ⟨fun _ => ⟨k, rfl, by omega, fun _ => ⟨fun _ => ⟨fun h => (by cases h), fun _ => ⟨_, _, _, _, p64, fun h => absurd g4 (Int32.not_le.mpr h), fun _ => rfl⟩⟩, fun h => absurd h (by decide)⟩, fun h => absurd eb h⟩, fun h => v0 h⟩⟩, z_q205_e (d := 57) _ _ true ⟨fun h => fb24 h, fun _ => ⟨true, _, _, _, z_p166t r8 k1 k4 hi, fun _ => ⟨_, _, _, _, q1, fun _ => ⟨fun _ => ⟨fun h => (by cases h), fun _ => ⟨fun h => ?_, fun _ => rfl⟩⟩, fun h => absurd h (by decide)⟩, fun h => absurd h (by decide)⟩, fun h => (by cases h)⟩⟩, hR0, Nat.le_succ _, Nat.le_add_right _ _, rfl⟩
              rw [l4, hl4] at h
              exact absurd rfl h
            · exact absurd (List.mem_of_getElem? o3) hmem
          · have g4 : Int32.ofNat l.length < 4 := (z_olt (b := 4) (by omega) (by decide)).mpr (by omega)
            obtain ⟨I1, hI1⟩ : ∃ I1, I1 = z_up I 3 0 k (Int32.ofNat (w ^^^ 2 ^ i)) := ⟨_, rfl⟩
            have t1 : ∀ t, t ≠ 3 → I1 t = I t := fun t ht => by rw [hI1, z_up_t ht]
            have hl1 : z_RoL (I 3 0) (I1 33 0 2) (I1 36 0) l := by rw [t1 33 (by decide), t1 36 (by decide)]; exact hl0
            obtain ⟨v, q1, q2⟩ := z_p204 (d := 59) (X := X) (J := J) hl1 k4 hi11
            rcases q2 with ⟨rfl, -⟩ | ⟨o, o1, o2, o3⟩
            · have e1 : I1 33 0 2 = Int32.ofNat l.length := by rw [t1 33 (by decide), l4]
              obtain ⟨I2, hI2⟩ : ∃ I2, I2 = z_up (z_up (z_up I1 36 0 (2 * l.length) (Int32.ofNat k)) 36 0 (2 * l.length + 1) (z_fm i)) 33 0 2 (I1 33 0 2 + 1) := ⟨_, rfl⟩
              have a36 : ∀ j, j < 2 * l.length → I2 36 0 j = I 36 0 j := fun j h1 => by rw [hI2, z_up_t (by decide), z_up_j (by omega), z_up_j (by omega), t1 36 (by decide)]
              have a360 : I2 36 0 (2 * l.length) = Int32.ofNat k := by rw [hI2, z_up_t (by decide), z_up_j (by omega), z_up_e]
              have a361 : I2 36 0 (2 * l.length + 1) = z_fm i := by rw [hI2, z_up_t (by decide), z_up_e]
              have a33 : I2 33 0 2 = Int32.ofNat (l.length + 1) := by rw [hI2, z_up_e, e1, z_os]
              have a3 : I2 3 = I1 3 := by rw [hI2, z_up_t (by decide), z_up_t (by decide), z_up_t (by decide)]
              have hfr : z_fr z_oq I I2 := by
                rw [hI2, hI1]
                exact z_fr_up (z_fr_up (z_fr_up (z_fr_up z_fr_rf rfl) rfl) rfl) rfl
              have hRo : z_Ro (I2 3 0) (I2 33 0 2) (I2 36 0) := by
                refine ⟨l ++ [(k, i)], by rw [List.length_append, List.length_singleton]; omega, ?_, fun q hq => ?_, by rw [a33, List.length_append, List.length_singleton], fun j q hq => ?_, z_msk l6 hi11 w1 w3 ?_ (fun m hm => ?_) (fun q hq => ?_) ?_⟩
                · rw [List.nodup_append]
                  refine ⟨l2, List.pairwise_singleton _ _, fun a ha b hb => ?_⟩
                  rw [List.mem_singleton] at hb
                  subst hb
                  exact fun e => hmem (e ▸ ha)
                · rw [List.mem_append, List.mem_singleton] at hq
                  rcases hq with hq | rfl
                  · exact l3 q hq
                  · exact ⟨hk2, k4, hi⟩
                · by_cases hj : j < l.length
                  · rw [List.getElem?_append_left hj] at hq
                    rw [a36 _ (by omega), a36 _ (by omega)]
                    exact l5 j q hq
                  · rw [List.getElem?_append_right (by omega)] at hq
                    have hj2 := (List.getElem?_eq_some_iff.mp hq).1
                    rw [List.length_singleton] at hj2
                    obtain rfl : j = l.length := by omega
                    rw [Nat.sub_self] at hq
                    obtain rfl : (k, i) = q := Option.some.inj hq
                    exact ⟨a360, a361⟩
                · rw [a3, hI1, z_up_e]
                · rw [a3, hI1, z_up_j hm]
                · rw [List.mem_append, List.mem_singleton]
                  exact ⟨fun h => h.resolve_right hq, fun h => Or.inl h⟩
                · rw [List.mem_append, List.mem_singleton]
                  exact ⟨fun _ => hmem, fun _ => Or.inr rfl⟩
              have hfin := z_R_out hR0 hfr hRo
              refine ⟨z_i 1, X, X, I1, I2, J, J, z_q80_e (d := 58) _ _ true ⟨_, _, _, _, p128, fun h => f2 h, fun _ => ⟨fun _ => ⟨k, rfl, by omega, fun _ => ⟨fun _ => ⟨fun h => (by cases h), fun _ => ⟨_, _, _, _, p64, fun _ => ?_, fun h => absurd g4 (Int32.not_lt.mpr h)⟩⟩, fun h => absurd h (by decide)⟩, fun h => absurd eb h⟩, fun h => v0 h⟩⟩, z_q205_e (d := 57) _ _ true ⟨fun h => fb24 h, fun _ => ⟨true, _, _, _, z_p166t (z_Tb_c (t1 40 (by decide)) (t1 41 (by decide)) (t1 42 (by decide)) r8) k1 k4 hi, fun _ => ⟨_, _, _, _, q1, fun _ => ⟨fun _ => ⟨fun h => (by cases h), fun _ => ⟨fun _ => ⟨2 * l.length, ?_, by omega, 2 * l.length + 1, ?_, by omega, ?_⟩, fun h => ?_⟩⟩, fun h => absurd h (by decide)⟩, fun h => absurd h (by decide)⟩, fun h => (by cases h)⟩⟩, hfin.1, Nat.le_succ _, Nat.le_add_right _ _, hfin.2⟩
              · rw [w2, ex, ← hI1]
              · rw [e1]; exact (Int32.ofNat_mul 2 l.length).symm
              · rw [e1]; exact z_o2 l.length 1
              · rw [hI2]
              · rw [e1] at h
                exact absurd ((z_oeq (b := 4) (by omega) (by decide)).mp h) hl4
            · exact absurd (List.mem_of_getElem? o3) hmem
    · have c2 : Int32.ofNat k < 2 := (z_olt (b := 2) (by omega) (by decide)).mpr (by omega)
      have fb24 : ∀ {P : Prop}, z_bw (Int32.ofNat k) 2 4 = true → P := fun h => absurd (z_bw_t.mp h).1 (Int32.not_le.mpr c2)
      exact ⟨z_i (-1), X, X, I, I, J, J, z_q80_e (d := 58) _ _ b ⟨_, _, _, _, p128, fun _ => rfl, fun h => absurd h (Int32.not_le.mpr c2)⟩, z_q205_e (d := 57) _ _ b ⟨fun _ => rfl, fun h => fb24 h⟩, hR0, Nat.le_succ _, Nat.le_add_right _ _, rfl⟩
  · have p128 := z_p128f (d := 58) (X := X) (I := I) (J := J) hf
    exact ⟨z_i (-1), X, X, I, I, J, J, z_q80_e (d := 58) _ _ b ⟨_, _, _, _, p128, fun _ => rfl, fun _ => ⟨fun h => absurd h (by decide), fun _ => rfl⟩⟩, z_q205_e (d := 57) _ _ b ⟨fun _ => rfl, fun _ => ⟨false, _, _, _, z_p166f r8 hf, fun h => (by cases h), fun _ => rfl⟩⟩, hR0, Nat.le_succ _, Nat.le_add_right _ _, rfl⟩
