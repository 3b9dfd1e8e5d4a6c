/-! calls of both: same, the class and the reference -/
def z_t28 (a _b _c : Nat) : Bool := Nat.beq a 28
def z_g29 (p a _b c : Nat) : Bool := Nat.beq a 29 && Nat.ble p c
def z_t46 (a _b _c : Nat) : Bool := Nat.beq a 46
theorem z_t28_ag {I I' : Nat → Nat → Nat → Int32} (h : z_fr z_t28 I I') : z_ag [0] I I' := fun a b c hc => h a b c (by
  cases e : z_t28 a b c with
  | false => rfl
  | true =>
    obtain rfl := Nat.eq_of_beq_eq_true e
    exact absurd (show true = false from hc) (by decide))
theorem z_t46_ag {I I' : Nat → Nat → Nat → Int32} (h : z_fr z_t46 I I') : z_ag [0] I I' := fun a b c hc => h a b c (by
  cases e : z_t46 a b c with
  | false => rfl
  | true =>
    obtain rfl := Nat.eq_of_beq_eq_true e
    exact absurd (show true = false from hc) (by decide))
theorem z_g29_t {p a b c : Nat} (h : z_g29 p a b c = true) : a = 29 ∧ p ≤ c := by
  unfold z_g29 at h
  rw [Bool.and_eq_true] at h
  exact ⟨Nat.eq_of_beq_eq_true h.1, Nat.le_of_ble_eq_true h.2⟩
theorem z_g29_ag {p : Nat} {I I' : Nat → Nat → Nat → Int32} (h : z_fr (z_g29 p) I I') : z_ag [0] I I' := fun a b c hc => h a b c (by
  cases e : z_g29 p a b c with
  | false => rfl
  | true =>
    obtain ⟨rfl, -⟩ := z_g29_t e
    exact absurd (show true = false from hc) (by decide))
theorem z_g29_e {p c : Nat} (b : Nat) (h : p ≤ c) : z_g29 p 29 b c = true := by
  unfold z_g29
  rw [Bool.and_eq_true]
  exact ⟨rfl, Nat.ble_eq_true_of_le h⟩
theorem z_g29_f {p c : Nat} (b : Nat) (h : c < p) : z_g29 p 29 b c = false := by
  cases e : z_g29 p 29 b c with
  | false => rfl
  | true => exact absurd (z_g29_t e).2 (by omega)
section
variable {d : Nat} {X : z_X} {I : Nat → Nat → Nat → Int32} {J : Nat → Nat → Nat → Int64}
/-- the class: the order of posts -/
theorem z_p134 {q n : Nat} (hq : q < 10) (hn : n ≤ 10) (e13 : I 13 q 1 = Int32.ofNat n) : ∃ (I' : Nat → Nat → Nat → Int32) (o : Nat → Nat), z_ev (d + 2) (z_en 134 [z_r 0 0, z_r 13 q] (true, X, I, J)) (none, (true, X, I', J)) ∧ (∀ i, i < n → I' 28 0 i = Int32.ofNat (o i) ∧ o i < n) ∧ (∀ i j, i < n → j < n → o i = o j → i = j) ∧ z_fr z_t28 I I' := by
  have inner : ∀ (x2 : Int32) (u : Nat) (o : Nat → Nat) (I1 : Nat → Nat → Nat → Int32), u < n → I1 13 q 1 = Int32.ofNat n → (∀ i, i < u → o i < n) → (∀ i j, i < u → j < u → o i = o j → i = j) → ∀ j9 w, w + j9 = n → ∀ x5 x6 : Int32, ((x6 = -1 ∧ ∀ p, p < w → (z_um o u).testBit p = true) ∨ (∃ b, b < n ∧ x5 = Int32.ofNat b ∧ 0 ≤ x6 ∧ (z_um o u).testBit b = false)) → ∃ b, b < n ∧ (z_um o u).testBit b = false ∧ ∀ r, (∀ o5 o6 o7 o8, z_ev (d + 2) (134, 27, [some (z_r 0 0), some (z_r 13 q), some (z_i x2), some (z_i (Int32.ofNat (z_um o u ||| 2 ^ b))), some (z_i (Int32.ofNat (u + 1))), o5, o6, o7, o8], [], (true, X, z_up I1 28 0 u (Int32.ofNat b), J)) r) → ∀ o8, z_ev (d + 2) (134, 45, [some (z_r 0 0), some (z_r 13 q), some (z_i x2), some (z_i (Int32.ofNat (z_um o u))), some (z_i (Int32.ofNat u)), some (z_i x5), some (z_i x6), some (z_i (Int32.ofNat w)), o8], [], (true, X, I1, J)) r := by
    intro x2 u o I1 hu e1 ho hoi j9
    have hum : z_um o u < 1024 := z_um_lt u (fun i hi => by have := ho i hi; omega)
    induction j9 with
    | zero =>
      intro w hw x5 x6 h
      obtain rfl : w = n := by omega
      rcases h with ⟨-, h⟩ | ⟨b, h1, rfl, h2, h3⟩
      · exfalso
        have h4 : ∀ p, ∃ i, p < w → i < u ∧ o i = p := fun p => by
          by_cases c : p < w
          · obtain ⟨i, a1, a2⟩ := (z_um_tb o p u).mp (h p c)
            exact ⟨i, fun _ => ⟨a1, a2⟩⟩
          · exact ⟨0, fun h => absurd h c⟩
        have h5 := z_pig u w (fun p => Classical.choose (h4 p)) (fun p hp => (Classical.choose_spec (h4 p) hp).1) (fun p p' hp hp' e => by
          have a1 := (Classical.choose_spec (h4 p) hp).2
          have a2 := (Classical.choose_spec (h4 p') hp').2
          rw [← a1, ← a2]
          exact congrArg o e)
        omega
      · refine ⟨b, h1, h3, fun r h o8 => z_q134_45 _ hq _ _ _ _ _ _ _ ⟨fun _ => ⟨u, rfl, by omega, ?_⟩, fun h9 => ?_⟩⟩
        · rw [z_or2k _ (by omega) b (by omega), z_os]
          exact h _ _ _ _
        · rw [e1] at h9
          exact absurd ((z_olt (by omega) (by omega)).mp h9) (by omega)
    | succ j9 ih =>
      intro w hw x5 x6 h
      have hge : ¬ I1 13 q 1 ≤ Int32.ofNat w := by
        rw [e1]
        exact fun h9 => absurd ((z_ole (by omega) (by omega)).mp h9) (by omega)
      have hb2 := z_bt_2k _ (show z_um o u < 2048 by omega) w (by omega)
      cases hbit : (z_um o u).testBit w with
      | true =>
        rw [hbit] at hb2
        obtain ⟨b, b1, b2, b3⟩ := ih (w + 1) (by omega) x5 x6 (Or.elim h (fun ⟨a1, a2⟩ => Or.inl ⟨a1, fun p hp => by
          by_cases c : p = w
          · rw [c]; exact hbit
          · exact a2 p (by omega)⟩) Or.inr)
        refine ⟨b, b1, b2, fun r hr o8 => z_q134_45 _ hq _ _ _ _ _ _ _ ⟨fun h9 => absurd h9 hge, fun _ => ⟨fun _ => ⟨w, rfl, by omega, fun _ => ?_, fun h9 => absurd h9 (of_decide_eq_true hb2)⟩, fun _ => ⟨w, rfl, by omega, fun _ => ?_, fun h9 => absurd h9 (of_decide_eq_true hb2)⟩⟩⟩⟩
        · rw [z_os]; exact b3 r hr _
        · rw [z_os]; exact b3 r hr _
      | false =>
        rw [hbit] at hb2
        by_cases hx : ∃ y : Int32, ((x2 = 0 ∧ y = z_bc (I1 14 q w &&& Int32.ofNat (z_um o u))) ∨ (¬ x2 = 0 ∧ y = z_bc ((I1 14 q w ^^^ (-1 : Int32)) &&& Int32.ofNat (z_um o u)))) ∧ x6 < y
        · obtain ⟨y, hy, hlt⟩ := hx
          have y0 : 0 ≤ y := by
            rcases hy with ⟨-, rfl⟩ | ⟨-, rfl⟩
            · exact z_bc_0 _
            · exact z_bc_0 _
          obtain ⟨b, b1, b2, b3⟩ := ih (w + 1) (by omega) (Int32.ofNat w) y (Or.inr ⟨w, by omega, rfl, y0, hbit⟩)
          refine ⟨b, b1, b2, fun r hr o8 => z_q134_45 _ hq _ _ _ _ _ _ _ ⟨fun h9 => absurd h9 hge, fun _ => ⟨fun hx2 => ⟨w, rfl, by omega, fun h9 => absurd h9 (of_decide_eq_false hb2), fun _ => ⟨fun h9 => ?_, fun _ => ?_⟩⟩, fun hx2 => ⟨w, rfl, by omega, fun h9 => absurd h9 (of_decide_eq_false hb2), fun _ => ⟨fun h9 => ?_, fun _ => ?_⟩⟩⟩⟩⟩
          · rcases hy with ⟨-, rfl⟩ | ⟨q9, -⟩
            · exact absurd h9 (Int32.not_le.mpr hlt)
            · exact absurd hx2 q9
          · rcases hy with ⟨-, rfl⟩ | ⟨q9, -⟩
            · rw [z_os]; exact b3 r hr _
            · exact absurd hx2 q9
          · rcases hy with ⟨q9, -⟩ | ⟨-, rfl⟩
            · exact absurd q9 hx2
            · exact absurd h9 (Int32.not_le.mpr hlt)
          · rcases hy with ⟨q9, -⟩ | ⟨-, rfl⟩
            · exact absurd q9 hx2
            · rw [z_os]; exact b3 r hr _
        · obtain ⟨b, b1, b2, b3⟩ := ih (w + 1) (by omega) x5 x6 (Or.elim h (fun ⟨a1, a2⟩ => by
            exfalso
            subst a1
            have hm : ∀ z : Int32, (-1 : Int32) < z_bc z := fun z => by
              have h8 : (0 : Int) ≤ (z_bc z).toInt := Int32.le_iff_toInt_le.mp (z_bc_0 z)
              rw [Int32.lt_iff_toInt_lt]
              show (-1 : Int) < _
              omega
            by_cases c : x2 = 0
            · exact hx ⟨_, Or.inl ⟨c, rfl⟩, hm _⟩
            · exact hx ⟨_, Or.inr ⟨c, rfl⟩, hm _⟩) Or.inr)
          refine ⟨b, b1, b2, fun r hr o8 => z_q134_45 _ hq _ _ _ _ _ _ _ ⟨fun h9 => absurd h9 hge, fun _ => ⟨fun hx2 => ⟨w, rfl, by omega, fun h9 => absurd h9 (of_decide_eq_false hb2), fun _ => ⟨fun _ => ?_, fun h9 => absurd ⟨_, Or.inl ⟨hx2, rfl⟩, h9⟩ hx⟩⟩, fun hx2 => ⟨w, rfl, by omega, fun h9 => absurd h9 (of_decide_eq_false hb2), fun _ => ⟨fun _ => ?_, fun h9 => absurd ⟨_, Or.inr ⟨hx2, rfl⟩, h9⟩ hx⟩⟩⟩⟩⟩
          · rw [z_os]; exact b3 r hr _
          · rw [z_os]; exact b3 r hr _
  have outer : ∀ (x2 : Int32) (j9 u : Nat), u + j9 = n → ∀ (o : Nat → Nat) (I1 : Nat → Nat → Nat → Int32), (∀ i, i < u → I1 28 0 i = Int32.ofNat (o i) ∧ o i < n) → (∀ i j, i < u → j < u → o i = o j → i = j) → z_fr z_t28 I I1 → ∃ (I' : Nat → Nat → Nat → Int32) (o' : Nat → Nat), (∀ o5 o6 o7 o8, z_ev (d + 2) (134, 27, [some (z_r 0 0), some (z_r 13 q), some (z_i x2), some (z_i (Int32.ofNat (z_um o u))), some (z_i (Int32.ofNat u)), o5, o6, o7, o8], [], (true, X, I1, J)) (none, (true, X, I', J))) ∧ (∀ i, i < n → I' 28 0 i = Int32.ofNat (o' i) ∧ o' i < n) ∧ (∀ i j, i < n → j < n → o' i = o' j → i = j) ∧ z_fr z_t28 I I' := by
    intro x2 j9
    induction j9 with
    | zero =>
      intro u hu o I1 h28 hoi hfr
      obtain rfl : u = n := by omega
      refine ⟨I1, o, fun o5 o6 o7 o8 => z_q134_27 _ hq _ _ _ _ _ _ _ ⟨fun _ => rfl, fun h9 => ?_⟩, h28, hoi, hfr⟩
      rw [hfr 13 q 1 rfl, e13] at h9
      exact absurd ((z_olt (by omega) (by omega)).mp h9) (by omega)
    | succ j9 ih =>
      intro u hu o I1 h28 hoi hfr
      have e1 : I1 13 q 1 = Int32.ofNat n := by rw [hfr 13 q 1 rfl]; exact e13
      obtain ⟨b, b1, b2, b3⟩ := inner x2 u o I1 (by omega) e1 (fun i hi => (h28 i hi).2) hoi n 0 (by omega) 0 (-1) (Or.inl ⟨rfl, fun p hp => absurd hp (Nat.not_lt_zero p)⟩)
      have hne : ∀ i, i < u → o i ≠ b := fun i hi e => by
        rw [(z_um_tb o b u).mpr ⟨i, hi, e⟩] at b2
        cases b2
      obtain ⟨I', o', c1, c2, c3, c4⟩ := ih (u + 1) (by omega) (z_upd o u b) (z_up I1 28 0 u (Int32.ofNat b)) (fun i hi => by
        rw [z_up_at]
        by_cases c : i = u
        · rw [if_pos c, c, z_upd_e]
          exact ⟨rfl, b1⟩
        · rw [if_neg c, z_upd_n c]
          exact h28 i (by omega)) (z_upd_in hoi hne) (z_fr_up hfr rfl)
      rw [z_um_ud] at c1
      refine ⟨I', o', fun o5 o6 o7 o8 => z_q134_27 _ hq _ _ _ _ _ _ _ ⟨fun h9 => ?_, fun _ => b3 _ c1 _⟩, c2, c3, c4⟩
      rw [e1] at h9
      exact absurd ((z_ole (by omega) (by omega)).mp h9) (by omega)
  have p26 := z_p26 (d := d) (X := X) (J := J) hq hn e13
  by_cases c : ((2 : Int32) * (z_sm (I 14 q) n / 2)) ≤ (z_pr (I 13 q 1))
  · obtain ⟨I', o', c1, c2, c3, c4⟩ := outer 0 n 0 (by omega) (fun i => i) I (fun i hi => absurd hi (Nat.not_lt_zero i)) (fun i j hi => absurd hi (Nat.not_lt_zero i)) z_fr_rf
    exact ⟨I', o', z_q134_e _ hq ⟨_, _, _, _, p26, fun _ => c1 _ _ _ _, fun h9 => absurd c (Int32.not_le.mpr h9)⟩, c2, c3, c4⟩
  · obtain ⟨I', o', c1, c2, c3, c4⟩ := outer 1 n 0 (by omega) (fun i => i) I (fun i hi => absurd hi (Nat.not_lt_zero i)) (fun i j hi => absurd hi (Nat.not_lt_zero i)) z_fr_rf
    exact ⟨I', o', z_q134_e _ hq ⟨_, _, _, _, p26, fun h9 => absurd h9 c, fun _ => c1 _ _ _ _⟩, c2, c3, c4⟩
/-- the class: images of roads -/
theorem z_p136 {R p : Nat} {o g : Nat → Nat} (hR : R < 1024) (hp : p ≤ 10) (h28 : ∀ i, i < p → I 28 0 i = Int32.ofNat (o i) ∧ o i < 10) (h29 : ∀ i, i < p → I 29 0 i = Int32.ofNat (g i) ∧ g i < 10) : z_ev d (z_en 136 [z_r 0 0, z_i (Int32.ofNat R), z_i (Int32.ofNat p)] (true, X, I, J)) (some (z_i (Int32.ofNat (z_vm R o g p))), (true, X, I, J)) := by
  have key : ∀ j9 u, u + j9 = p → z_ev d (136, 5, [some (z_r 0 0), some (z_i (Int32.ofNat R)), some (z_i (Int32.ofNat p)), some (z_i (Int32.ofNat (z_vm R o g u))), some (z_i (Int32.ofNat u))], [], (true, X, I, J)) (some (z_i (Int32.ofNat (z_vm R o g p))), (true, X, I, J)) := by
    intro j9
    induction j9 with
    | zero =>
      intro u hu
      obtain rfl : u = p := by omega
      exact z_q136_5 _ _ _ _ ⟨fun _ => rfl, fun h9 => absurd ((z_olt (by omega) (by omega)).mp h9) (by omega)⟩
    | succ j9 ih =>
      intro u hu
      obtain ⟨a1, a2⟩ := h28 u (by omega)
      obtain ⟨b1, b2⟩ := h29 u (by omega)
      have hb2 := z_bt_2k R (by omega) (o u) (by omega)
      have c1 := ih (u + 1) (by omega)
      have hlt := z_vm_lt (R := R) (o := o) (g := g) u (fun i hi => (h29 i (by omega)).2)
      refine z_q136_5 _ _ _ _ ⟨fun h9 => absurd ((z_ole (by omega) (by omega)).mp h9) (by omega), fun _ => ⟨u, rfl, by omega, fun h9 => ?_, fun h9 => ?_⟩⟩
      · rw [a1] at h9
        have hf : R.testBit (o u) = false := by rw [← hb2]; exact decide_eq_false (fun q => q h9)
        have ev : z_vm R o g (u + 1) = z_vm R o g u := by
          show (if R.testBit (o u) then z_vm R o g u ||| 2 ^ g u else z_vm R o g u) = _
          rw [hf]; rfl
        rw [ev] at c1
        rw [z_os]
        exact c1
      · rw [a1] at h9
        have hf : R.testBit (o u) = true := by rw [← hb2]; exact decide_eq_true h9
        have ev : z_vm R o g (u + 1) = z_vm R o g u ||| 2 ^ g u := by
          show (if R.testBit (o u) then z_vm R o g u ||| 2 ^ g u else z_vm R o g u) = _
          rw [hf]; rfl
        rw [ev] at c1
        rw [z_os, b1, z_or2k _ (by omega) _ (by omega)]
        exact c1
  exact z_q136_e _ _ (key p 0 (by omega))
/-- the class: posts placed on -/
theorem z_p135 {q1 q2 n : Nat} {A B o : Nat → Nat} (hq1 : q1 < 10) (hq2 : q2 < 10) (hn : n ≤ 10) (wA : z_wfm n A) (wB : z_wfm n B) (ho : ∀ i, i < n → o i < n) : ∀ (j p : Nat), p + j = n → ∀ (g : Nat → Nat) (I : Nat → Nat → Nat → Int32), I 13 q1 1 = Int32.ofNat n → I 13 q2 1 = Int32.ofNat n → (∀ i, i < 10 → I 14 q1 i = Int32.ofNat (A i)) → (∀ i, i < 10 → I 14 q2 i = Int32.ofNat (B i)) → (∀ i, i < n → I 28 0 i = Int32.ofNat (o i)) → (∀ i, i < p → I 29 0 i = Int32.ofNat (g i) ∧ g i < n) → (∀ i i', i < p → i' < p → g i = g i' → i = i') → ∃ (I' : Nat → Nat → Nat → Int32) (b : Bool), z_ev (d + j + 1) (z_en 135 [z_r 0 0, z_r 13 q1, z_r 13 q2, z_i (Int32.ofNat p), z_i (Int32.ofNat (z_um g p))] (true, X, I, J)) (some (z_i (z_c b)), (true, X, I', J)) ∧ (b = true ↔ z_cm n A B o j p g) ∧ z_fr (z_g29 p) I I' := by
  intro j
  induction j with
  | zero =>
    intro p hp g I e1 e2 eA eB e28 e29 hgi
    obtain rfl : p = n := by omega
    refine ⟨I, true, z_q135_e _ hq1 _ hq2 _ _ ⟨fun _ => rfl, fun h9 => ?_⟩, ⟨fun _ => trivial, fun _ => rfl⟩, z_fr_rf⟩
    rw [e1] at h9
    exact absurd ((z_olt (by omega) (by omega)).mp h9) (by omega)
  | succ j IH =>
    intro p hp g I e1 e2 eA eB e28 e29 hgi
    have hop := ho p (by omega)
    have hAp : A (o p) < 1024 := wA.1 _ (by omega)
    have hum : z_um g p < 1024 := z_um_lt p (fun i hi => by have := (e29 i hi).2; omega)
    have hvm : z_vm (A (o p)) o g p < 1024 := z_vm_lt p (fun i hi => by have := (e29 i hi).2; omega)
    have p136 := z_p136 (d := d + j + 1) (X := X) (I := I) (J := J) (R := A (o p)) (p := p) (o := o) (g := g) hAp (by omega) (fun i hi => ⟨e28 i (by omega), by have := ho i (by omega); omega⟩) (fun i hi => ⟨(e29 i hi).1, by have := (e29 i hi).2; omega⟩)
    have key : ∀ j9 u, u + j9 = n → ∀ I1, z_fr (z_g29 p) I I1 → (∀ v, v < u → ¬ (z_sok n A B o p g v ∧ z_cm n A B o j (p + 1) (z_upd g p v))) → ∃ (I' : Nat → Nat → Nat → Int32) (b : Bool), z_ev (d + j + 1 + 1) (135, 41, [some (z_r 0 0), some (z_r 13 q1), some (z_r 13 q2), some (z_i (Int32.ofNat p)), some (z_i (Int32.ofNat (z_um g p))), some (z_i (Int32.ofNat (A (o p)))), some (z_i (Int32.ofNat (z_vm (A (o p)) o g p))), some (z_i (Int32.ofNat u))], [], (true, X, I1, J)) (some (z_i (z_c b)), (true, X, I', J)) ∧ (b = true ↔ z_cm n A B o (j + 1) p g) ∧ z_fr (z_g29 p) I I' := by
      intro j9
      induction j9 with
      | zero =>
        intro u hu I1 hfr hno
        obtain rfl : u = n := by omega
        refine ⟨I1, false, z_q135_41 _ hq1 _ hq2 _ _ _ _ _ ⟨fun _ => rfl, fun h9 => ?_⟩, ⟨fun h => (by cases h), fun ⟨v, h1, h2⟩ => absurd ⟨h1, h2⟩ (hno v h1.1)⟩, hfr⟩
        rw [hfr 13 q2 1 rfl, e2] at h9
        exact absurd ((z_olt (by omega) (by omega)).mp h9) (by omega)
      | succ j9 ih =>
        intro u hu I1 hfr hno
        have f1 : I1 13 q1 1 = Int32.ofNat n := by rw [hfr 13 q1 1 rfl]; exact e1
        have f2 : I1 13 q2 1 = Int32.ofNat n := by rw [hfr 13 q2 1 rfl]; exact e2
        have fA : ∀ i, i < 10 → I1 14 q1 i = Int32.ofNat (A i) := fun i hi => by rw [hfr 14 q1 i rfl]; exact eA i hi
        have fB : ∀ i, i < 10 → I1 14 q2 i = Int32.ofNat (B i) := fun i hi => by rw [hfr 14 q2 i rfl]; exact eB i hi
        have f28 : ∀ i, i < n → I1 28 0 i = Int32.ofNat (o i) := fun i hi => by rw [hfr 28 0 i rfl]; exact e28 i hi
        have f29 : ∀ i, i < p → I1 29 0 i = Int32.ofNat (g i) ∧ g i < n := fun i hi => by rw [hfr 29 0 i (z_g29_f 0 hi)]; exact e29 i hi
        have hge : ¬ I1 13 q2 1 ≤ Int32.ofNat u := by
          rw [f2]
          exact fun h9 => absurd ((z_ole (by omega) (by omega)).mp h9) (by omega)
        have hb2 := z_bt_2k _ (show z_um g p < 2048 by omega) u (by omega)
        have hBu : B u < 1024 := wB.1 u (by omega)
        have next : ∀ I2, z_fr (z_g29 p) I I2 → ¬ (z_sok n A B o p g u ∧ z_cm n A B o j (p + 1) (z_upd g p u)) → ∃ (I' : Nat → Nat → Nat → Int32) (b : Bool), z_ev (d + j + 1 + 1) (135, 41, [some (z_r 0 0), some (z_r 13 q1), some (z_r 13 q2), some (z_i (Int32.ofNat p)), some (z_i (Int32.ofNat (z_um g p))), some (z_i (Int32.ofNat (A (o p)))), some (z_i (Int32.ofNat (z_vm (A (o p)) o g p))), some (z_i (Int32.ofNat u + (1 : Int32)))], [], (true, X, I2, J)) (some (z_i (z_c b)), (true, X, I', J)) ∧ (b = true ↔ z_cm n A B o (j + 1) p g) ∧ z_fr (z_g29 p) I I' := fun I2 h2 hn2 => by
          rw [z_os]
          exact ih (u + 1) (by omega) I2 h2 (fun v hv => by
            by_cases c : v = u
            · rw [c]; exact hn2
            · exact hno v (by omega))
        by_cases c1 : (z_um g p).testBit u = true
        · rw [c1] at hb2
          obtain ⟨i, i1, i2⟩ := (z_um_tb g u p).mp c1
          obtain ⟨I', b, t1, t2, t3⟩ := next I1 hfr (fun h => (h.1.2.1 i i1).1 i2)
          exact ⟨I', b, z_q135_41 _ hq1 _ hq2 _ _ _ _ _ ⟨fun h9 => absurd h9 hge, fun _ => ⟨fun _ => t1, fun h9 => absurd h9 (of_decide_eq_true hb2)⟩⟩, t2, t3⟩
        · have c1' : (z_um g p).testBit u = false := by
            rw [← Bool.not_eq_true]; exact c1
          rw [c1'] at hb2
          have hz : ((Int32.ofNat (z_um g p) >>> (Int32.ofNat u &&& 31)) &&& (1 : Int32)) = 0 := Classical.byContradiction (of_decide_eq_false hb2)
          have hne : ∀ i, i < p → g i ≠ u := fun i hi e => c1 ((z_um_tb g u p).mpr ⟨i, hi, e⟩)
          have ek : (I1 14 q2 u &&& Int32.ofNat (z_um g p)) = Int32.ofNat (z_vm (A (o p)) o g p) ↔ ∀ i, i < p → (B u).testBit (g i) = (A (o p)).testBit (o i) := by
            rw [fB u (by omega), z_and_n hBu hum, z_oeq (Nat.le_of_lt (Nat.lt_of_le_of_lt Nat.and_le_left (by omega))) (by omega), z_mk_iff hgi]
          by_cases c2 : (I1 14 q2 u &&& Int32.ofNat (z_um g p)) = Int32.ofNat (z_vm (A (o p)) o g p)
          · by_cases c3 : z_bc (I1 14 q2 u) = z_bc (Int32.ofNat (A (o p)))
            · have hsok : z_sok n A B o p g u := ⟨by omega, fun i hi => ⟨hne i hi, ek.mp c2 i hi⟩, by rw [fB u (by omega)] at c3; exact c3⟩
              obtain ⟨I2, b, t1, t2, t3⟩ := IH (p + 1) (by omega) (z_upd g p u) (z_up I1 29 0 p (Int32.ofNat u)) f1 f2 fA fB f28 (fun i hi => by
                rw [z_up_at]
                by_cases c : i = p
                · rw [if_pos c, c, z_upd_e]
                  exact ⟨rfl, by omega⟩
                · rw [if_neg c, z_upd_n c]
                  exact f29 i (by omega)) (z_upd_in hgi hne)
              rw [z_um_ud] at t1
              have hfr2 : z_fr (z_g29 p) I I2 := z_fr_tr (z_fr_up hfr (z_g29_e 0 (Nat.le_refl p))) (z_fr_mn t3 (fun a b c h => by
                obtain ⟨rfl, h2⟩ := z_g29_t h
                exact z_g29_e b (by omega)))
              have ecall : ∀ (I' : Nat → Nat → Nat → Int32) (b9 : Bool), ((b = false → z_ev (d + j + 1 + 1) (135, 41, [some (z_r 0 0), some (z_r 13 q1), some (z_r 13 q2), some (z_i (Int32.ofNat p)), some (z_i (Int32.ofNat (z_um g p))), some (z_i (Int32.ofNat (A (o p)))), some (z_i (Int32.ofNat (z_vm (A (o p)) o g p))), some (z_i (Int32.ofNat u + (1 : Int32)))], [], (true, X, I2, J)) (some (z_i (z_c b9)), (true, X, I', J))) ∧ (b = true → (some (z_i (z_c b9)), (true, X, I', J)) = ((some (z_i 1), (true, X, I2, J)) : Option z_V × z_M))) → z_ev (d + j + 1 + 1) (135, 41, [some (z_r 0 0), some (z_r 13 q1), some (z_r 13 q2), some (z_i (Int32.ofNat p)), some (z_i (Int32.ofNat (z_um g p))), some (z_i (Int32.ofNat (A (o p)))), some (z_i (Int32.ofNat (z_vm (A (o p)) o g p))), some (z_i (Int32.ofNat u))], [], (true, X, I1, J)) (some (z_i (z_c b9)), (true, X, I', J)) := fun I' b9 hh => z_q135_41 _ hq1 _ hq2 _ _ _ _ _ ⟨fun h9 => absurd h9 hge, fun _ => ⟨fun h9 => absurd hz h9, fun _ => ⟨u, rfl, by omega, fun h9 => absurd c2 h9, fun _ => ⟨fun h9 => absurd c3 h9, fun _ => ⟨p, rfl, by omega, b, _, _, _, by
                rw [z_os, z_or2k _ (by omega) u (by omega)]
                exact t1, hh⟩⟩⟩⟩⟩
              cases hb : b with
              | true =>
                exact ⟨I2, true, ecall I2 true ⟨fun h => (by rw [hb] at h; cases h), fun _ => rfl⟩, ⟨fun _ => ⟨u, hsok, t2.mp hb⟩, fun _ => rfl⟩, hfr2⟩
              | false =>
                obtain ⟨I', b9, s1, s2, s3⟩ := next I2 hfr2 (fun h => by
                  have := t2.mpr h.2
                  rw [hb] at this
                  cases this)
                exact ⟨I', b9, ecall I' b9 ⟨fun _ => s1, fun h => (by rw [hb] at h; cases h)⟩, s2, s3⟩
            · obtain ⟨I', b, t1, t2, t3⟩ := next I1 hfr (fun h => c3 (by rw [fB u (by omega)]; exact h.1.2.2))
              exact ⟨I', b, z_q135_41 _ hq1 _ hq2 _ _ _ _ _ ⟨fun h9 => absurd h9 hge, fun _ => ⟨fun h9 => absurd hz h9, fun _ => ⟨u, rfl, by omega, fun h9 => absurd c2 h9, fun _ => ⟨fun _ => t1, fun h9 => absurd h9 c3⟩⟩⟩⟩, t2, t3⟩
          · obtain ⟨I', b, t1, t2, t3⟩ := next I1 hfr (fun h => c2 (ek.mpr (fun i hi => (h.1.2.1 i hi).2)))
            exact ⟨I', b, z_q135_41 _ hq1 _ hq2 _ _ _ _ _ ⟨fun h9 => absurd h9 hge, fun _ => ⟨fun h9 => absurd hz h9, fun _ => ⟨u, rfl, by omega, fun _ => t1, fun h9 => absurd h9 c2⟩⟩⟩, t2, t3⟩
    obtain ⟨I', b, t1, t2, t3⟩ := key n 0 (by omega) I z_fr_rf (fun v hv => absurd hv (Nat.not_lt_zero v))
    refine ⟨I', b, z_q135_e _ hq1 _ hq2 _ _ ⟨fun h9 => ?_, fun _ => ⟨fun _ => ⟨p, rfl, by omega, o p, e28 p (by omega), by omega, _, _, _, _, by rw [eA _ (by omega)]; exact p136, by rw [eA _ (by omega)]; exact t1⟩, fun h9 => absurd ((z_ole (a := 10) (by decide) (by omega)).mp h9) (by omega)⟩⟩, t2, t3⟩
    rw [e1] at h9
    exact absurd ((z_ole (by omega) (by omega)).mp h9) (by omega)
end
