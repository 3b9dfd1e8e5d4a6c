/-! calls of both: same, the reference and the call -/
section
variable {d : Nat} {X : z_X} {I : Nat → Nat → Nat → Int32} {J : Nat → Nat → Nat → Int64}
theorem z_p189 {a b n p v : Nat} {A B g : Nat → Nat} (ha : a < 4) (hb : b < 4) (hn : n ≤ 10) (wA : z_wfm n A) (wB : z_wfm n B) (hp : p < n) (hv : v < n) (eA : ∀ i, i < 10 → I 35 0 (10 * a + i) = Int32.ofNat (A i)) (eB : ∀ i, i < 10 → I 35 0 (10 * b + i) = Int32.ofNat (B i)) (h46 : ∀ i, i < p → I 46 0 i = Int32.ofNat (g i) ∧ g i < n) (ep : I 46 0 p = Int32.ofNat v) : ∃ c : Bool, z_ev (d + 1) (z_en 189 [z_r 33 0, z_i (Int32.ofNat a), z_i (Int32.ofNat b), z_i (Int32.ofNat p)] (true, X, I, J)) (some (z_i (z_c c)), (true, X, I, J)) ∧ (c = true ↔ z_sok n A B (fun i => i) p g v) := by
  have a1 : ∀ i, i < 10 → z_r10 (I 35 0 (10 * a + i)) := fun i hi => ⟨A i, wA.1 i hi, eA i hi⟩
  have b1 : ∀ i, i < 10 → z_r10 (I 35 0 (10 * b + i)) := fun i hi => ⟨B i, wB.1 i hi, eB i hi⟩
  have ka := z_p170 (d := d) (X := X) (I := I) (J := J) (a1 p (by omega))
  have kb := z_p170 (d := d) (X := X) (I := I) (J := J) (b1 v (by omega))
  by_cases hdeg : z_bc (I 35 0 (10 * a + p)) = z_bc (I 35 0 (10 * b + v))
  · have hdeg' : z_bc (Int32.ofNat (B v)) = z_bc (Int32.ofNat (A p)) := by rw [← eA p (by omega), ← eB v (by omega)]; exact hdeg.symm
    have key : ∀ j9 u, u + j9 = p → (∀ i, i < u → g i ≠ v ∧ (B v).testBit (g i) = (A p).testBit i) → ∃ c : Bool, z_ev (d + 1) (189, 41, [some (z_r 33 0), some (z_i (Int32.ofNat a)), some (z_i (Int32.ofNat b)), some (z_i (Int32.ofNat p)), some (z_i (Int32.ofNat u))], [], (true, X, I, J)) (some (z_i (z_c c)), (true, X, I, J)) ∧ (c = true ↔ z_sok n A B (fun i => i) p g v) := by
      intro j9
      induction j9 with
      | zero =>
        intro u hu hall
        obtain rfl : u = p := by omega
        exact ⟨true, z_q189_41 _ _ _ _ ⟨fun _ => rfl, fun h9 => absurd ((z_olt (by omega) (by omega)).mp h9) (by omega)⟩, ⟨fun _ => ⟨hv, hall, hdeg'⟩, fun _ => rfl⟩⟩
      | succ j9 ih =>
        intro u hu hall
        obtain ⟨g1, g2⟩ := h46 u (by omega)
        have hge : ¬ Int32.ofNat p ≤ Int32.ofNat u := fun h9 => absurd ((z_ole (by omega) (by omega)).mp h9) (by omega)
        have heq : I 46 0 u = I 46 0 p ↔ g u = v := by
          rw [g1, ep]
          exact z_oeq (by omega) (by omega)
        by_cases c1 : g u = v
        · exact ⟨false, z_q189_41 _ _ _ _ ⟨fun h9 => absurd h9 hge, fun _ => ⟨u, rfl, by omega, p, rfl, by omega, fun _ => rfl, fun h9 => absurd (heq.mpr c1) h9⟩⟩, ⟨fun h => (by cases h), fun h => absurd c1 (h.2.1 u (by omega)).1⟩⟩
        · have r1 := z_p167 (d := d) (X := X) (I := I) (J := J) (n := a) (a := u) (b := p) ha (by omega)
          have r2 := z_p167 (d := d) (X := X) (I := I) (J := J) (n := b) (a := g u) (b := v) hb (by omega)
          have t1 : z_bt (I 35 0 (10 * a + u)) p = (A p).testBit u := by
            rw [eA u (by omega), z_bt_2k _ (by have := wA.1 u (by omega); omega) p (by omega), z_wfs hn wA (by omega) hp]
          have t2 : z_bt (I 35 0 (10 * b + g u)) v = (B v).testBit (g u) := by
            rw [eB _ (by omega), z_bt_2k _ (by have := wB.1 (g u) (by omega); omega) v (by omega), z_wfs hn wB g2 hv]
          rw [t1] at r1
          rw [t2] at r2
          rw [← g1, ← ep] at r2
          by_cases c2 : (A p).testBit u = (B v).testBit (g u)
          · obtain ⟨c, s1, s2⟩ := ih (u + 1) (by omega) (fun i hi => by
              by_cases e : i = u
              · rw [e]; exact ⟨c1, c2.symm⟩
              · exact hall i (by omega))
            refine ⟨c, z_q189_41 _ _ _ _ ⟨fun h9 => absurd h9 hge, fun _ => ⟨u, rfl, by omega, p, rfl, by omega, fun h9 => absurd (heq.mp h9) c1, fun _ => ⟨_, _, _, _, r1, _, _, _, _, r2, fun _ => ?_, fun h9 => absurd (by rw [c2]) h9⟩⟩⟩, s2⟩
            rw [z_os]
            exact s1
          · exact ⟨false, z_q189_41 _ _ _ _ ⟨fun h9 => absurd h9 hge, fun _ => ⟨u, rfl, by omega, p, rfl, by omega, fun h9 => absurd (heq.mp h9) c1, fun _ => ⟨_, _, _, _, r1, _, _, _, _, r2, fun h9 => absurd (z_c_inj.mp h9) c2, fun _ => rfl⟩⟩⟩, ⟨fun h => (by cases h), fun h => absurd (h.2.1 u (by omega)).2.symm c2⟩⟩
    obtain ⟨c, s1, s2⟩ := key p 0 (by omega) (fun i hi => absurd hi (Nat.not_lt_zero i))
    exact ⟨c, z_q189_e _ _ _ ⟨10 * a + p, z_o10 a p, by omega, _, _, _, _, ka, p, rfl, by omega, 10 * b + v, by rw [ep]; exact z_o10 b v, by omega, _, _, _, _, kb, fun _ => s1, fun h9 => absurd hdeg h9⟩, s2⟩
  · refine ⟨false, z_q189_e _ _ _ ⟨10 * a + p, z_o10 a p, by omega, _, _, _, _, ka, p, rfl, by omega, 10 * b + v, by rw [ep]; exact z_o10 b v, by omega, _, _, _, _, kb, fun h9 => absurd h9 hdeg, fun _ => rfl⟩, ⟨fun h => (by cases h), fun h => absurd ?_ hdeg⟩⟩
    rw [eA p (by omega), eB v (by omega)]
    exact h.2.2.symm
/-- the reference: back and on -/
theorem z_l190 {a b n : Nat} {A B : Nat → Nat} (ha : a < 4) (hb : b < 4) (hn : n ≤ 10) (wA : z_wfm n A) (wB : z_wfm n B) (eA : ∀ i, i < 10 → I 35 0 (10 * a + i) = Int32.ofNat (A i)) (eB : ∀ i, i < 10 → I 35 0 (10 * b + i) = Int32.ofNat (B i)) : ∀ (j p : Nat), p + j + 1 = n → ∀ (g : Nat → Nat) (j9 v : Nat), v + j9 = n → ∀ I1, z_fr z_t46 I I1 → (∀ i, i < p → I1 46 0 i = Int32.ofNat (g i) ∧ g i < n) → I1 46 0 p + 1 = Int32.ofNat v → ∃ I', z_fr z_t46 I I' ∧ (∀ i, i < p → I' 46 0 i = Int32.ofNat (g i) ∧ g i < n) ∧ (((∃ w1, v ≤ w1 ∧ z_sok n A B (fun i => i) p g w1 ∧ z_cm n A B (fun i => i) j (p + 1) (z_upd g p w1)) ∧ z_ev (d + 2) (190, 45, [some (z_r 33 0), some (z_i (Int32.ofNat a)), some (z_i (Int32.ofNat b)), some (z_i (Int32.ofNat n)), some (z_i (Int32.ofNat p))], [], (true, X, I1, J)) (some (z_i 1), (true, X, I', J))) ∨ ((¬ ∃ w1, v ≤ w1 ∧ z_sok n A B (fun i => i) p g w1 ∧ z_cm n A B (fun i => i) j (p + 1) (z_upd g p w1)) ∧ ∀ r, z_ev (d + 2) (190, 45, [some (z_r 33 0), some (z_i (Int32.ofNat a)), some (z_i (Int32.ofNat b)), some (z_i (Int32.ofNat n)), some (z_i (Int32.ofNat p + (-1 : Int32)))], [], (true, X, I', J)) r → z_ev (d + 2) (190, 45, [some (z_r 33 0), some (z_i (Int32.ofNat a)), some (z_i (Int32.ofNat b)), some (z_i (Int32.ofNat n)), some (z_i (Int32.ofNat p))], [], (true, X, I1, J)) r)) := by
  intro j
  induction j with
  | zero =>
    intro p hp g j9
    induction j9 with
    | zero =>
      intro v hv I1 hfr hpre hat
      obtain rfl : v = n := by omega
      have en : (z_up I1 46 0 p (I1 46 0 p + (1 : Int32))) 46 0 p = Int32.ofNat v := by rw [z_up_e]; exact hat
      refine ⟨z_up I1 46 0 p (I1 46 0 p + (1 : Int32)), z_fr_up hfr rfl, fun i hi => ?_, Or.inr ⟨fun ⟨w1, h1, h2, _⟩ => absurd h2.1 (by omega), fun r hr => z_q190_45 _ _ _ _ ⟨fun h9 => absurd (z_on0 p (by omega)) (Int32.not_le.mpr h9), fun _ => ⟨p, rfl, by omega, fun h9 => absurd en h9, fun _ => hr⟩⟩⟩⟩
      rw [z_up_j (by omega)]
      exact hpre i hi
    | succ j9 ih =>
      intro v hv I1 hfr hpre hat
      obtain ⟨I2, eI2⟩ : ∃ I2, I2 = z_up I1 46 0 p (I1 46 0 p + (1 : Int32)) := ⟨_, rfl⟩
      have e2 : I2 46 0 p = Int32.ofNat v := by rw [eI2, z_up_e]; exact hat
      have hfr2 : z_fr z_t46 I I2 := by rw [eI2]; exact z_fr_up hfr rfl
      have hpre2 : ∀ i, i < p → I2 46 0 i = Int32.ofNat (g i) ∧ g i < n := fun i hi => by rw [eI2, z_up_j (by omega)]; exact hpre i hi
      have hne : ¬ I2 46 0 p = Int32.ofNat n := by
        rw [e2]
        exact fun h9 => absurd ((z_oeq (by omega) (by omega)).mp h9) (by omega)
      obtain ⟨c, m1, m2⟩ := z_p189 (d := d) (X := X) (I := I2) (J := J) (g := g) ha hb hn wA wB (show p < n by omega) (show v < n by omega) (fun i hi => by rw [hfr2 35 0 _ rfl]; exact eA i hi) (fun i hi => by rw [hfr2 35 0 _ rfl]; exact eB i hi) hpre2 e2
      have g0 : ∀ {P : Prop}, Int32.ofNat p < 0 → P := fun h9 => absurd (z_on0 p (by omega)) (Int32.not_le.mpr h9)
      cases hc : c with
      | true =>
        refine ⟨I2, hfr2, hpre2, Or.inl ⟨⟨v, Nat.le_refl v, m2.mp hc, trivial⟩, z_q190_45 _ _ _ _ ⟨fun h9 => g0 h9, fun _ => ⟨p, rfl, by omega, fun _ => ⟨c, X, I2, J, by rw [← eI2]; exact m1, fun h9 => (by rw [hc] at h9; cases h9), fun _ => ⟨fun h9 => absurd ?_ h9, fun _ => rfl⟩⟩, fun h9 => absurd (by rw [eI2]; exact h9) hne⟩⟩⟩⟩
        rw [show (1 : Int32) = Int32.ofNat 1 from rfl, z_subn (by omega), show n - 1 = p by omega]
      | false =>
        obtain ⟨I', t1, t2, t3⟩ := ih (v + 1) (by omega) I2 hfr2 hpre2 (by rw [e2, z_os])
        have hs : ¬ z_sok n A B (fun i => i) p g v := fun h => by
          have := m2.mpr h
          rw [hc] at this
          cases this
        have step : ∀ r, z_ev (d + 2) (190, 45, [some (z_r 33 0), some (z_i (Int32.ofNat a)), some (z_i (Int32.ofNat b)), some (z_i (Int32.ofNat n)), some (z_i (Int32.ofNat p))], [], (true, X, I2, J)) r → z_ev (d + 2) (190, 45, [some (z_r 33 0), some (z_i (Int32.ofNat a)), some (z_i (Int32.ofNat b)), some (z_i (Int32.ofNat n)), some (z_i (Int32.ofNat p))], [], (true, X, I1, J)) r := fun r hr => z_q190_45 _ _ _ _ ⟨fun h9 => g0 h9, fun _ => ⟨p, rfl, by omega, fun _ => ⟨c, X, I2, J, by rw [← eI2]; exact m1, fun _ => hr, fun h9 => (by rw [hc] at h9; cases h9)⟩, fun h9 => absurd (by rw [eI2]; exact h9) hne⟩⟩
        refine ⟨I', t1, t2, ?_⟩
        rcases t3 with ⟨⟨w1, w2, w3⟩, t3⟩ | ⟨t3, t4⟩
        · exact Or.inl ⟨⟨w1, by omega, w3⟩, step _ t3⟩
        · refine Or.inr ⟨fun ⟨w1, w2, w3⟩ => ?_, fun r hr => step r (t4 r hr)⟩
          by_cases e : w1 = v
          · subst e; exact hs w3.1
          · exact t3 ⟨w1, by omega, w3⟩
  | succ j IH =>
    intro p hp g j9
    induction j9 with
    | zero =>
      intro v hv I1 hfr hpre hat
      obtain rfl : v = n := by omega
      have en : (z_up I1 46 0 p (I1 46 0 p + (1 : Int32))) 46 0 p = Int32.ofNat v := by rw [z_up_e]; exact hat
      refine ⟨z_up I1 46 0 p (I1 46 0 p + (1 : Int32)), z_fr_up hfr rfl, fun i hi => ?_, Or.inr ⟨fun ⟨w1, h1, h2, _⟩ => absurd h2.1 (by omega), fun r hr => z_q190_45 _ _ _ _ ⟨fun h9 => absurd (z_on0 p (by omega)) (Int32.not_le.mpr h9), fun _ => ⟨p, rfl, by omega, fun h9 => absurd en h9, fun _ => hr⟩⟩⟩⟩
      rw [z_up_j (by omega)]
      exact hpre i hi
    | succ j9 ih =>
      intro v hv I1 hfr hpre hat
      obtain ⟨I2, eI2⟩ : ∃ I2, I2 = z_up I1 46 0 p (I1 46 0 p + (1 : Int32)) := ⟨_, rfl⟩
      have e2 : I2 46 0 p = Int32.ofNat v := by rw [eI2, z_up_e]; exact hat
      have hfr2 : z_fr z_t46 I I2 := by rw [eI2]; exact z_fr_up hfr rfl
      have hpre2 : ∀ i, i < p → I2 46 0 i = Int32.ofNat (g i) ∧ g i < n := fun i hi => by rw [eI2, z_up_j (by omega)]; exact hpre i hi
      have hne : ¬ I2 46 0 p = Int32.ofNat n := by
        rw [e2]
        exact fun h9 => absurd ((z_oeq (by omega) (by omega)).mp h9) (by omega)
      obtain ⟨c, m1, m2⟩ := z_p189 (d := d) (X := X) (I := I2) (J := J) (g := g) ha hb hn wA wB (show p < n by omega) (show v < n by omega) (fun i hi => by rw [hfr2 35 0 _ rfl]; exact eA i hi) (fun i hi => by rw [hfr2 35 0 _ rfl]; exact eB i hi) hpre2 e2
      have g0 : ∀ {P : Prop}, Int32.ofNat p < 0 → P := fun h9 => absurd (z_on0 p (by omega)) (Int32.not_le.mpr h9)
      have goon : ∀ I4, z_fr z_t46 I I4 → (∀ i, i < p → I4 46 0 i = Int32.ofNat (g i) ∧ g i < n) → I4 46 0 p = Int32.ofNat v → ¬ (z_sok n A B (fun i => i) p g v ∧ z_cm n A B (fun i => i) (j + 1) (p + 1) (z_upd g p v)) → (∀ r, z_ev (d + 2) (190, 45, [some (z_r 33 0), some (z_i (Int32.ofNat a)), some (z_i (Int32.ofNat b)), some (z_i (Int32.ofNat n)), some (z_i (Int32.ofNat p))], [], (true, X, I4, J)) r → z_ev (d + 2) (190, 45, [some (z_r 33 0), some (z_i (Int32.ofNat a)), some (z_i (Int32.ofNat b)), some (z_i (Int32.ofNat n)), some (z_i (Int32.ofNat p))], [], (true, X, I1, J)) r) → ∃ I', z_fr z_t46 I I' ∧ (∀ i, i < p → I' 46 0 i = Int32.ofNat (g i) ∧ g i < n) ∧ (((∃ w1, v ≤ w1 ∧ z_sok n A B (fun i => i) p g w1 ∧ z_cm n A B (fun i => i) (j + 1) (p + 1) (z_upd g p w1)) ∧ z_ev (d + 2) (190, 45, [some (z_r 33 0), some (z_i (Int32.ofNat a)), some (z_i (Int32.ofNat b)), some (z_i (Int32.ofNat n)), some (z_i (Int32.ofNat p))], [], (true, X, I1, J)) (some (z_i 1), (true, X, I', J))) ∨ ((¬ ∃ w1, v ≤ w1 ∧ z_sok n A B (fun i => i) p g w1 ∧ z_cm n A B (fun i => i) (j + 1) (p + 1) (z_upd g p w1)) ∧ ∀ r, z_ev (d + 2) (190, 45, [some (z_r 33 0), some (z_i (Int32.ofNat a)), some (z_i (Int32.ofNat b)), some (z_i (Int32.ofNat n)), some (z_i (Int32.ofNat p + (-1 : Int32)))], [], (true, X, I', J)) r → z_ev (d + 2) (190, 45, [some (z_r 33 0), some (z_i (Int32.ofNat a)), some (z_i (Int32.ofNat b)), some (z_i (Int32.ofNat n)), some (z_i (Int32.ofNat p))], [], (true, X, I1, J)) r)) := by
        intro I4 k1 k2 k3 hs step
        obtain ⟨I', t1, t2, t3⟩ := ih (v + 1) (by omega) I4 k1 k2 (by rw [k3, z_os])
        refine ⟨I', t1, t2, ?_⟩
        rcases t3 with ⟨⟨w1, w2, w3⟩, t3⟩ | ⟨t3, t4⟩
        · exact Or.inl ⟨⟨w1, by omega, w3⟩, step _ t3⟩
        · refine Or.inr ⟨fun ⟨w1, w2, w3⟩ => ?_, fun r hr => step r (t4 r hr)⟩
          by_cases e : w1 = v
          · subst e; exact hs w3
          · exact t3 ⟨w1, by omega, w3⟩
      cases hc : c with
      | true =>
        obtain ⟨I4, k1, k2, k3⟩ := IH (p + 1) (by omega) (z_upd g p v) n 0 (by omega) (z_up I2 46 0 (p + 1) (-1 : Int32)) (z_fr_up hfr2 rfl) (fun i hi => by
          rw [z_up_j (by omega)]
          by_cases e : i = p
          · rw [e, z_upd_e]
            exact ⟨e2, by omega⟩
          · rw [z_upd_n e]
            exact hpre2 i (by omega)) (by rw [z_up_e]; rfl)
        have hpm : ¬ Int32.ofNat p = Int32.ofNat n - (1 : Int32) := by
          rw [show (1 : Int32) = Int32.ofNat 1 from rfl, z_subn (by omega)]
          exact fun h9 => absurd ((z_oeq (by omega) (by omega)).mp h9) (by omega)
        have step : ∀ r, z_ev (d + 2) (190, 45, [some (z_r 33 0), some (z_i (Int32.ofNat a)), some (z_i (Int32.ofNat b)), some (z_i (Int32.ofNat n)), some (z_i (Int32.ofNat (p + 1)))], [], (true, X, z_up I2 46 0 (p + 1) (-1 : Int32), J)) r → z_ev (d + 2) (190, 45, [some (z_r 33 0), some (z_i (Int32.ofNat a)), some (z_i (Int32.ofNat b)), some (z_i (Int32.ofNat n)), some (z_i (Int32.ofNat p))], [], (true, X, I1, J)) r := fun r hr => z_q190_45 _ _ _ _ ⟨fun h9 => g0 h9, fun _ => ⟨p, rfl, by omega, fun _ => ⟨c, X, I2, J, by rw [← eI2]; exact m1, fun h9 => (by rw [hc] at h9; cases h9), fun _ => ⟨fun _ => ⟨p + 1, z_os p, by omega, by rw [z_os]; exact hr⟩, fun h9 => absurd h9 hpm⟩⟩, fun h9 => absurd (by rw [eI2]; exact h9) hne⟩⟩
        rcases k3 with ⟨⟨w1, w2, w3⟩, k3⟩ | ⟨k3, k4⟩
        · exact ⟨I4, k1, fun i hi => by
            have := k2 i (by omega)
            rw [z_upd_n (by omega)] at this
            exact this, Or.inl ⟨⟨v, Nat.le_refl v, m2.mp hc, w1, w3⟩, step _ k3⟩⟩
        · refine goon I4 k1 (fun i hi => by
            have := k2 i (by omega)
            rw [z_upd_n (by omega)] at this
            exact this) (by
            have := (k2 p (by omega)).1
            rw [z_upd_e] at this
            exact this) (fun ⟨_, w1, w2⟩ => k3 ⟨w1, Nat.zero_le w1, w2⟩) (fun r hr => step r (k4 r ?_))
          rw [show Int32.ofNat (p + 1) + (-1 : Int32) = Int32.ofNat p by rw [Int32.ofNat_add, Int32.add_assoc]; exact Int32.add_zero _]
          exact hr
      | false =>
        exact goon I2 hfr2 hpre2 e2 (fun h => by
          have := m2.mpr h.1
          rw [hc] at this
          cases this) (fun r hr => z_q190_45 _ _ _ _ ⟨fun h9 => g0 h9, fun _ => ⟨p, rfl, by omega, fun _ => ⟨c, X, I2, J, by rw [← eI2]; exact m1, fun _ => hr, fun h9 => (by rw [hc] at h9; cases h9)⟩, fun h9 => absurd (by rw [eI2]; exact h9) hne⟩⟩)
end
theorem z_op_same (x y : Int32) : z_op 74 190 [z_i x, z_i y] := by
  intro X I J hR
  have hR0 := hR
  obtain ⟨n1, -, -, -, -, -, -, -⟩ := hR
  cases hx : z_bw x 0 3 with
  | false =>
    have fx : ∀ {P : Prop}, z_bw x 0 3 = true → P := fun h => by rw [hx] at h; cases h
    exact ⟨z_i (-1), X, X, I, I, J, J, z_q74_e (d := 46) x y ⟨fun _ => rfl, fun h => fx h⟩, z_q190_e (d := 58) x y ⟨fun _ => rfl, fun h => fx h⟩, hR0, Nat.le_succ _, Nat.le_add_right _ _, rfl⟩
  | true =>
    have fx : ∀ {P : Prop}, z_bw x 0 3 = false → P := fun h => by rw [hx] at h; cases h
    cases hy : z_bw y 0 3 with
    | false =>
      have fy : ∀ {P : Prop}, z_bw y 0 3 = true → P := fun h => by rw [hy] at h; cases h
      exact ⟨z_i (-1), X, X, I, I, J, J, z_q74_e (d := 46) x y ⟨fun h => fx h, fun _ => ⟨fun h => fy h, fun _ => rfl⟩⟩, z_q190_e (d := 58) x y ⟨fun h => fx h, fun _ => ⟨fun h => fy h, fun _ => rfl⟩⟩, hR0, Nat.le_succ _, Nat.le_add_right _ _, rfl⟩
    | true =>
      have fy : ∀ {P : Prop}, z_bw y 0 3 = false → P := fun h => by rw [hy] at h; cases h
      obtain ⟨a, ha, rfl⟩ := z_bw3 hx
      obtain ⟨b, hb, rfl⟩ := z_bw3 hy
      obtain ⟨n, A, a1, a2, wA, a4, a5, a6, a7⟩ := z_now_net n1 ha
      obtain ⟨n', B, b1, b2, wB, b4, b5, b6, b7⟩ := z_now_net n1 hb
      by_cases hs : n = n'
      · subst hs
        have eA : ∀ i, i < 10 → I 14 a i = Int32.ofNat (A i) := fun i hi => by have := a6 i hi; rw [Nat.zero_add] at this; exact this
        have eB : ∀ i, i < 10 → I 14 b i = Int32.ofNat (B i) := fun i hi => by have := b6 i hi; rw [Nat.zero_add] at this; exact this
        have p26a := z_p26 (d := 58) (X := X) (I := I) (J := J) (q := a) (by omega) a2 a4
        have p26b := z_p26 (d := 58) (X := X) (I := I) (J := J) (q := b) (by omega) a2 b4
        have hcl : ∃ (I1 : Nat → Nat → Nat → Int32) (c : Bool), z_ev 60 (z_en 74 [z_r 0 0, z_i (Int32.ofNat a), z_i (Int32.ofNat b)] (true, X, I, J)) (some (z_i (z_c c)), (true, X, I1, J)) ∧ (c = true ↔ z_cm n A B (fun i => i) n 0 (fun i => i)) ∧ z_ag [0] I I1 := by
          by_cases hc : z_sm (I 14 a) n / 2 = z_sm (I 14 b) n / 2
          · obtain ⟨I1, o, c1, c2, c3, c4⟩ := z_p134 (d := 57) (X := X) (I := I) (J := J) (q := a) (by omega) a2 a4
            obtain ⟨I2, bb, s1, s2, s3⟩ := z_p135 (d := 58 - n) (X := X) (J := J) (q1 := a) (q2 := b) (o := o) (by omega) (by omega) a2 wA wB (fun i hi => (c2 i hi).2) n 0 (by omega) (fun i => i) I1 (by rw [c4 13 a 1 rfl]; exact a4) (by rw [c4 13 b 1 rfl]; exact b4) (fun i hi => by rw [c4 14 a i rfl]; exact eA i hi) (fun i hi => by rw [c4 14 b i rfl]; exact eB i hi) (fun i hi => (c2 i hi).1) (fun i hi => absurd hi (Nat.not_lt_zero i)) (fun i j hi => absurd hi (Nat.not_lt_zero i))
            rw [show 58 - n + n + 1 = 59 by omega] at s1
            rw [z_cm_ord a2 wA wB (fun i hi => (c2 i hi).2) c3 (fun i => i) (fun i => i)] at s2
            refine ⟨I2, bb, z_q74_e (d := 46) _ _ ⟨fun h => fx h, fun _ => ⟨fun _ => ⟨a, rfl, ha, b, rfl, hb, fun h => absurd (by rw [a4, b4]) h, fun _ => ⟨_, _, _, _, p26a, _, _, _, _, p26b, fun _ => ⟨_, _, _, c1, bb, _, _, _, s1, fun h => by rw [h]; rfl, fun h => by rw [h]; rfl⟩, fun h => absurd hc h⟩⟩, fun h => fy h⟩⟩, s2, z_ag_tr (z_t28_ag c4) (z_g29_ag s3)⟩
          · refine ⟨I, false, z_q74_e (d := 46) _ _ ⟨fun h => fx h, fun _ => ⟨fun _ => ⟨a, rfl, ha, b, rfl, hb, fun h => absurd (by rw [a4, b4]) h, fun _ => ⟨_, _, _, _, p26a, _, _, _, _, p26b, fun h => absurd h hc, fun _ => rfl⟩⟩, fun h => fy h⟩⟩, ⟨fun h => (by cases h), fun h => absurd ?_ hc⟩, z_ag_rf⟩
            rw [z_sm_pc (m := A) (fun p hp => ⟨eA p (by omega), wA.1 p (by omega)⟩), z_sm_pc (m := B) (fun p hp => ⟨eB p (by omega), wB.1 p (by omega)⟩), z_cm_sum a2 wA wB h]
        obtain ⟨I1, c, c1, c2, c3⟩ := hcl
        have e34 : I1 34 0 = I 34 0 := z_ag_ti c3 34 0 (c := 1) (fun _ => rfl) rfl
        have e35 : I1 35 0 = I 35 0 := z_ag_ti c3 35 0 (c := 1) (fun _ => rfl) rfl
        have hap : 0 + (n - 1) + 1 = n := by omega
        obtain ⟨I2, k1, -, k3⟩ := z_l190 (d := 58) (X := X) (I := I1) (J := J) (a := a) (b := b) (n := n) ha hb a2 wA wB (fun i hi => by rw [e35]; exact a7 i hi) (fun i hi => by rw [e35]; exact b7 i hi) (n - 1) 0 hap (fun i => i) n 0 (by omega) (z_up I1 46 0 0 (-1 : Int32)) (z_fr_up z_fr_rf rfl) (fun i hi => absurd hi (Nat.not_lt_zero i)) (by rw [z_up_e]; rfl)
        have hcm : z_cm n A B (fun i => i) n 0 (fun i => i) ↔ ∃ w1, 0 ≤ w1 ∧ z_sok n A B (fun i => i) 0 (fun i => i) w1 ∧ z_cm n A B (fun i => i) (n - 1) (0 + 1) (z_upd (fun i => i) 0 w1) := by
          obtain ⟨n9, rfl⟩ : ∃ n9, n = n9 + 1 := ⟨n - 1, by omega⟩
          exact ⟨fun ⟨w1, h⟩ => ⟨w1, Nat.zero_le w1, h⟩, fun ⟨w1, _, h⟩ => ⟨w1, h⟩⟩
        have e3a : I1 34 0 a = Int32.ofNat n := by rw [e34]; exact a5
        have e3b : I1 34 0 b = Int32.ofNat n := by rw [e34]; exact b5
        have hw := z_ag_tr c3 (z_t46_ag k1)
        refine ⟨_, X, X, I1, I2, J, J, c1, z_q190_e (d := 58) _ _ ⟨fun h => fx h, fun _ => ⟨fun _ => ⟨a, rfl, ha, b, rfl, hb, fun _ => ?_, fun h => absurd (by rw [e3a, e3b]) h⟩, fun h => fy h⟩⟩, z_R_0 hR0 hw rfl rfl, Nat.le_succ _, Nat.le_add_right _ _, z_67_ag hw rfl⟩
        rw [e3a]
        rcases k3 with ⟨k3, k4⟩ | ⟨k3, k4⟩
        · rw [c2.mpr (hcm.mpr k3)]
          exact k4
        · have hcf : c = false := by
            rw [← Bool.not_eq_true]
            exact fun h => k3 (hcm.mp (c2.mp h))
          rw [hcf]
          exact k4 _ (z_q190_45 _ _ _ _ ⟨fun _ => rfl, fun h => absurd h (by decide)⟩)
      · have hs' : ¬ Int32.ofNat n = Int32.ofNat n' := fun h => hs ((z_oeq (by omega) (by omega)).mp h)
        exact ⟨z_i 0, X, X, I, I, J, J, z_q74_e (d := 46) _ _ ⟨fun h => fx h, fun _ => ⟨fun _ => ⟨a, rfl, ha, b, rfl, hb, fun _ => rfl, fun h => absurd (by rw [← a4, ← b4]; exact h) hs'⟩, fun h => fy h⟩⟩, z_q190_e (d := 58) _ _ ⟨fun h => fx h, fun _ => ⟨fun _ => ⟨a, rfl, ha, b, rfl, hb, fun h => absurd (by rw [← a5, ← b5]; exact h) hs', fun _ => rfl⟩, fun h => fy h⟩⟩, hR0, Nat.le_succ _, Nat.le_add_right _ _, rfl⟩
