/-! at a limit: the class's draws, spread, below -/
section
variable {X : z_X}
/-- what the class knows of its limit -/
def z_LC (I : Nat → Nat → Nat → Int32) (P : Nat) (w : Nat → Nat) (cN : Nat → Nat → Nat) : Prop := I 4 0 2 = Int32.ofNat P ∧ (∀ p, p < P → I 5 0 p = Int32.ofNat (w p)) ∧ ∀ a b, a < P → b < P → I 6 0 (5 * a + b) = Int32.ofNat (cN a b)
theorem z_LC_8 {I I' : Nat → Nat → Nat → Int32} {P L : Nat} {w : Nat → Nat} {cN : Nat → Nat → Nat} (h : z_LC I P w cN) (hf : z_fr (z_g8 L) I I') : z_LC I' P w cN := by
  unfold z_LC
  rw [z_fr_t hf 4 (fun _ _ => rfl), z_fr_t hf 5 (fun _ _ => rfl), z_fr_t hf 6 (fun _ _ => rfl)]
  exact h
theorem z_p13 {P m : Nat} {w : Nat → Nat} {cN : Nat → Nat → Nat} (hP1 : 1 ≤ P) (hP : P ≤ 5) (hm1 : 1 ≤ m) (hm : m ≤ 4) (hw : ∀ p, p < P → w p ≤ 9) (hc : ∀ a b, a < P → b < P → cN a b ≤ 4) :
    ∀ (k : Nat) (t : List Nat) (fr al M D : Nat) (I : Nat → Nat → Nat → Int32) (J : Nat → Nat → Nat → Int64), t.length + k = m → (∀ x ∈ t, x < P) → (∀ j, j < t.length → I 8 0 j = Int32.ofNat (t.getD j 0)) → (t.length ≠ 0 → t.getD (t.length - 1) 0 = fr) → fr < P → al ≤ t.length → M ≤ 5 ^ t.length → z_dvs P k t fr al M = true → z_LC I P w cN → k + 8 ≤ D →
    ∃ I' J', z_ev D (z_en 13 [z_r 4 0, z_i (Int32.ofNat m), z_i (Int32.ofNat t.length), z_i (Int32.ofNat fr), z_i (Int32.ofNat al), z_j (Int64.ofNat (z_prd (t.map w) * M))] (true, X, I, J)) (none, (true, X, I', J')) ∧ z_fr (z_g8 t.length) I I' ∧ (∀ a b c, a ≠ 7 → J' a b c = J a b c) ∧ ∀ i, i < 11 → J' 7 0 i = J 7 0 i + Int64.ofNat (z_sml ((z_ext P k t fr al M).map (fun q => q.2 * z_Gt w cN i q.1))) := by
  intro k
  induction k with
  | zero =>
    intro t fr al M D I J ht hx h8 hl hfr hal hM hdv hL hD
    obtain ⟨D, rfl⟩ : ∃ D', D = D' + 1 := ⟨D - 1, by omega⟩
    obtain ⟨q1, q2⟩ := z_prn m (by omega)
    obtain ⟨e4, e5, e6⟩ := hL
    have ht' : t.length = m := by omega
    have hn : m * (m - 1) / 2 = 0 ∨ m * (m - 1) / 2 = 1 ∨ m * (m - 1) / 2 = 3 ∨ m * (m - 1) / 2 = 6 := by
      rcases (by omega : m = 1 ∨ m = 2 ∨ m = 3 ∨ m = 4) with rfl | rfl | rfl | rfl <;> decide
    have hlt : ∀ j, j < m → t.getD j 0 < P := fun j hj => by
      rw [List.getD_eq_getElem?_getD, List.getElem?_eq_getElem (by omega)]
      exact hx _ (List.getElem_mem _)
    obtain ⟨J', c1, c2, c3⟩ := z_p14 (X := X) (I := I) (f := z_ftp cN t) (n := m * (m - 1) / 2) (by omega) (fun p hp => by
      obtain ⟨u1, u2, u3⟩ := z_plo_tab m (by omega) p hp
      have a1 := hlt _ u1
      have a2 := hlt _ u2
      exact ⟨_, _, by omega, by omega, h8 _ (by omega), h8 _ (by omega), e6 _ _ a1 a2, hc _ _ a1 a2⟩) (m * (m - 1) / 2) 0 0 D (Int64.ofNat (z_prd (t.map w) * M)) J (by omega) (by decide) (by omega)
    refine ⟨I, J', z_q13_e _ _ _ _ _ ⟨fun _ => ⟨X, I, J', ?_, rfl⟩, fun h => absurd ((z_olt (by omega) (by omega)).mp h) (by omega)⟩, z_fr_rf, c2, fun i hi => ?_⟩
    · rw [q1]; exact c1
    · rw [c3 i hi, z_Dr_Sf hn, ← Int64.ofNat_mul]
      show _ = _ + Int64.ofNat (M * z_Gt w cN i t + 0)
      unfold z_Gt
      rw [ht', Nat.add_zero, Nat.mul_comm (z_prd _) M, Nat.mul_assoc]
  | succ k ih =>
    intro t fr al M D I J ht hx h8 hl hfr hal hM hdv hL hD
    obtain ⟨D, rfl⟩ : ∃ D', D = D' + 1 := ⟨D - 1, by omega⟩
    have hpr : z_prd (t.map w) ≤ 729 := Nat.le_trans (z_prd_bd hw t hx) (Nat.le_trans (Nat.pow_le_pow_right (by decide) (by omega : t.length ≤ 3)) (by decide))
    have hM' : M ≤ 125 := Nat.le_trans hM (Nat.le_trans (Nat.pow_le_pow_right (by decide) (by omega : t.length ≤ 3)) (by decide))
    have key : ∀ j p, p + j = P → fr ≤ p → ∀ (I1 : Nat → Nat → Nat → Int32) (J1 : Nat → Nat → Nat → Int64), z_fr (z_g8 t.length) I I1 →
        ∃ I' J', (∀ o8, z_ev (D + 1) (13, 26, [some (z_r 4 0), some (z_i (Int32.ofNat m)), some (z_i (Int32.ofNat t.length)), some (z_i (Int32.ofNat fr)), some (z_i (Int32.ofNat al)), some (z_j (Int64.ofNat (z_prd (t.map w) * M))), none, some (z_i (Int32.ofNat p)), o8], [], (true, X, I1, J1)) (none, (true, X, I', J'))) ∧ z_fr (z_g8 t.length) I I' ∧ (∀ a b c, a ≠ 7 → J' a b c = J1 a b c) ∧ ∀ i, i < 11 → J' 7 0 i = J1 7 0 i + Int64.ofNat (z_sml (((List.range' p j).flatMap (fun p => z_ext P k (t ++ [p]) p (if t.length ≠ 0 ∧ p = fr then al + 1 else 1) (M * (t.length + 1) / (if t.length ≠ 0 ∧ p = fr then al + 1 else 1)))).map (fun q => q.2 * z_Gt w cN i q.1))) := by
      intro j
      induction j with
      | zero =>
        intro p hp hfp I1 J1 hf
        refine ⟨I1, J1, fun o8 => z_q13_26 _ _ _ _ _ _ o8 ⟨fun _ => rfl, fun h => ?_⟩, hf, fun _ _ _ _ => rfl, fun i hi => ?_⟩
        · rw [z_fr_t hf 4 (fun _ _ => rfl), hL.1] at h
          exact absurd ((z_olt (by omega) (by omega)).mp h) (by omega)
        · exact (Int64.add_zero _).symm
      | succ j ihj =>
        intro p hp hfp I1 J1 hf
        obtain ⟨R, hR⟩ : ∃ R, R = if t.length ≠ 0 ∧ p = fr then al + 1 else 1 := ⟨_, rfl⟩
        have hR5 : 1 ≤ R ∧ R ≤ t.length + 1 := by rw [hR]; split <;> omega
        have hd1 : M * (t.length + 1) % R = 0 ∧ z_dvs P k (t ++ [p]) p R (M * (t.length + 1) / R) = true := by
          have h9 := List.all_eq_true.mp hdv p (List.mem_range'_1.mpr ⟨hfp, by omega⟩)
          rw [← hR, Bool.and_eq_true] at h9
          exact ⟨Nat.eq_of_beq_eq_true h9.1, h9.2⟩
        have hlen : (t ++ [p]).length = t.length + 1 := by rw [List.length_append]; rfl
        have hf2 : z_fr (z_g8 t.length) I (z_up I1 8 0 t.length (Int32.ofNat p)) := z_fr_up hf (by unfold z_g8; rw [Nat.ble_eq_true_of_le (Nat.le_refl _)]; rfl)
        obtain ⟨I3, J3, c1, c2, c3, c4⟩ := ih (t ++ [p]) p R (M * (t.length + 1) / R) D (z_up I1 8 0 t.length (Int32.ofNat p)) J1 (by rw [hlen]; omega) (fun x h => by
            rcases List.mem_append.mp h with h | h
            · exact hx x h
            · rw [List.mem_singleton.mp h]; omega) (fun j hj => by
            rw [z_gd_sn]
            rw [hlen] at hj
            by_cases h : j = t.length
            · rw [if_neg (by omega), if_pos h, h, z_up_e]
            · rw [if_pos (by omega), z_up_j h, z_fr_8 hf (by omega)]
              exact h8 j (by omega)) (fun _ => by rw [hlen, z_gd_sn, if_neg (by omega), if_pos (by omega)]) (by omega) (by rw [hlen]; exact hR5.2) (by
            rw [hlen, Nat.pow_succ]
            exact Nat.le_trans (Nat.div_le_self _ _) (Nat.mul_le_mul hM (by omega))) hd1.2 (z_LC_8 hL hf2) (by omega)
        rw [hlen] at c1
        have hf3 : z_fr (z_g8 t.length) I I3 := z_fr_tr hf2 (z_fr_mn c2 (z_g8_mn (by rw [hlen]; omega)))
        obtain ⟨I', J', g1, g2, g3, g4⟩ := ihj (p + 1) (by omega) (by omega) I3 J3 hf3
        have hw9 := hw p (by omega)
        have e5 : I1 5 0 p = Int32.ofNat (w p) := by rw [z_fr_t hf 5 (fun _ _ => rfl)]; exact hL.2.1 p (by omega)
        have hys := z_wys (pr := z_prd (t.map w)) (M := M) (wp := w p) (n := t.length) (R := R) hpr hM' hw9 (by omega) (by omega) hd1.1
        have epr : z_prd ((t ++ [p]).map w) = z_prd (t.map w) * w p := by rw [List.map_append]; exact z_prd_sn _ _
        rw [epr, ← hys, ← z_os] at c1
        have r0 : ¬ (Int32.ofNat R).toInt64 = 0 := by rw [z_i64 (by omega)]; exact z_jne (by omega) (by omega)
        refine ⟨I', J', fun o8 => z_q13_26 _ _ _ _ _ _ o8 ⟨fun h => ?_, fun _ => ⟨fun h0 => ⟨t.length, rfl, by omega, p, rfl, by omega, ?_⟩, fun h0 => ⟨t.length - 1, ?_, by omega, fun hne => ⟨t.length, rfl, by omega, p, rfl, by omega, ?_⟩, fun he => ⟨t.length, rfl, by omega, p, rfl, by omega, ?_⟩⟩⟩⟩, g2, fun a b c ha => (g3 a b c ha).trans (c3 a b c ha), fun i hi => ?_⟩
        · rw [z_fr_t hf 4 (fun _ _ => rfl), hL.1] at h
          exact absurd ((z_ole (by omega) (by omega)).mp h) (by omega)
        · have h1 : R = 1 := by
            rw [hR, if_neg]
            intro q
            exact absurd ((z_ole (b := 0) (by omega) (by decide)).mp h0) (by omega)
          rw [h1] at c1 r0
          rw [e5, z_os p]
          exact ⟨r0, X, I3, J3, c1, g1 _⟩
        · have h1 := (z_olt (a := 0) (by decide) (by omega)).mp h0
          exact z_subn (a := t.length) (b := 1) (by omega)
        · have h1 := (z_olt (a := 0) (by decide) (by omega)).mp h0
          have h2 : R = 1 := by
            rw [hR, if_neg]
            rintro ⟨q1, q2⟩
            apply hne
            rw [z_fr_8 hf (by omega), h8 _ (by omega), hl q1, q2]
          rw [h2] at c1 r0
          rw [e5, z_os p]
          exact ⟨r0, X, I3, J3, c1, g1 _⟩
        · have h1 := (z_olt (a := 0) (by decide) (by omega)).mp h0
          have h2 : R = al + 1 := by
            rw [hR, if_pos]
            refine ⟨by omega, ?_⟩
            rw [z_fr_8 hf (by omega), h8 _ (by omega), hl (by omega)] at he
            exact (z_oeq (by omega) (by omega)).mp he
          rw [h2, ← z_os al] at c1 r0
          rw [e5, z_os p]
          exact ⟨r0, X, I3, J3, c1, g1 _⟩
        · rw [g4 i hi, c4 i hi, List.range'_succ, List.flatMap_cons, List.map_append, z_sml_app, Int64.ofNat_add, ← Int64.add_assoc, ← hR]
    obtain ⟨I', J', c1, c2, c3, c4⟩ := key (P - fr) fr (by omega) (Nat.le_refl _) I J z_fr_rf
    refine ⟨I', J', z_q13_e _ _ _ _ _ ⟨fun h => absurd ((z_ole (by omega) (by omega)).mp h) (by omega), fun _ => ⟨fun _ => c1 _, fun h => absurd ((z_ole (a := 4) (by decide) (by omega)).mp h) (by omega)⟩⟩, c2, c3, fun i hi => ?_⟩
    exact c4 i hi
/-- the class: spread -/
theorem z_p12 {d P m : Nat} {w : Nat → Nat} {cN : Nat → Nat → Nat} (hP1 : 1 ≤ P) (hP : P ≤ 5) (hm1 : 1 ≤ m) (hm : m ≤ 4) (hw : ∀ p, p < P → w p ≤ 9) (hc : ∀ a b, a < P → b < P → cN a b ≤ 4 ∧ cN a b = cN b a) {I : Nat → Nat → Nat → Int32} {J : Nat → Nat → Nat → Int64} (hL : z_LC I P w cN) :
    ∃ I' J', z_ev (d + 27) (z_en 12 [z_r 4 0, z_i (Int32.ofNat m)] (true, X, I, J)) (none, (true, X, I', J')) ∧ z_fr (z_g8 0) I I' ∧ (∀ a b c, a ≠ 7 → J' a b c = J a b c) ∧ ∀ i, i < 11 → J' 7 0 i = Int64.ofNat (z_AT P w cN m i) := by
  have key : ∀ j u, u + j = 11 → ∀ J1 : Nat → Nat → Nat → Int64, (∀ a b c, a ≠ 7 → J1 a b c = J a b c) → (∀ i, i < u → J1 7 0 i = 0) → ∃ I' J', z_ev (d + 27) (12, 2, [some (z_r 4 0), some (z_i (Int32.ofNat m)), some (z_i (Int32.ofNat u))], [], (true, X, I, J1)) (none, (true, X, I', J')) ∧ z_fr (z_g8 0) I I' ∧ (∀ a b c, a ≠ 7 → J' a b c = J a b c) ∧ ∀ i, i < 11 → J' 7 0 i = Int64.ofNat (z_AT P w cN m i) := by
    intro j
    induction j with
    | zero =>
      intro u hu J1 h1 h2
      obtain rfl : u = 11 := by omega
      obtain ⟨I', J', c1, c2, c3, c4⟩ := z_p13 (X := X) (w := w) (cN := cN) hP1 hP hm1 hm hw (fun a b ha hb => (hc a b ha hb).1) m [] 0 0 1 (d + 26) I J1 (by simp) (fun _ h => absurd h List.not_mem_nil) (fun j hj => absurd hj (Nat.not_lt_zero j)) (fun h => absurd rfl h) (by omega) (Nat.le_refl _) (by decide) (z_dvs_all P (by omega) m (by omega)) hL (by omega)
      refine ⟨I', J', z_q12_2 _ _ ⟨fun _ => ⟨X, I', J', c1, rfl⟩, fun h => absurd h (by decide)⟩, c2, fun a b c ha => (c3 a b c ha).trans (h1 a b c ha), fun i hi => ?_⟩
      rw [c4 i hi, h2 i hi, z_AT_ext hP1 hP hm1 hm (fun a b ha hb => (hc a b ha hb).2) i, Int64.zero_add]
    | succ j ih =>
      intro u hu J1 h1 h2
      obtain ⟨I', J', c1, c2⟩ := ih (u + 1) (by omega) (z_up J1 7 0 u 0) (fun a b c ha => by rw [z_up_t ha]; exact h1 a b c ha) (fun i hi => by
        by_cases h : i = u
        · rw [h, z_up_e]
        · rw [z_up_j h]; exact h2 i (by omega))
      refine ⟨I', J', z_q12_2 _ _ ⟨fun h => absurd ((z_ole (a := 11) (by decide) (by omega)).mp h) (by omega), fun _ => ⟨u, rfl, by omega, ?_⟩⟩, c2⟩
      rw [z_os]
      exact c1
  obtain ⟨I', J', c1, c2⟩ := key 11 0 (by omega) J (fun _ _ _ _ => rfl) (fun i hi => absurd hi (Nat.not_lt_zero i))
  exact ⟨I', J', z_q12_e _ c1, c2⟩
end
