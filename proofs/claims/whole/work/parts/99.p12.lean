/-! calls of both: near -/
/-- a chance and what comes of it -/
def z_hz (c : Nat) (z : Int32) : Bool × Int32 := if c = 0 then (false, z) else if c = 4 then (true, z) else (decide (z_lo z - z_lo z / 4 * 4 < Int32.ofNat c), z_nz z)
def z_nri (C : Nat → Nat → Nat) (b : Nat) (w : (Nat → Nat) × Int32) : Nat → (Nat → Nat) × Int32
  | 0 => w
  | a + 1 => (z_ms (z_nri C b w a).1 a b (z_hz (C a b) (z_nri C b w a).2).1, (z_hz (C a b) (z_nri C b w a).2).2)
def z_nro (C : Nat → Nat → Nat) (w : (Nat → Nat) × Int32) : Nat → (Nat → Nat) × Int32
  | 0 => w
  | b + 1 => z_nri C b (z_nro C w b) b
theorem z_nri_wf {C : Nat → Nat → Nat} {s b : Nat} {w : (Nat → Nat) × Int32} (hs : s ≤ 10) (hm : z_wfm s w.1) (hb : b < s) : ∀ a, a ≤ b → z_wfm s (z_nri C b w a).1
  | 0, _ => hm
  | a + 1, ha => z_wfm_ms hs (z_nri_wf hs hm hb a (by omega)) (by omega) hb (by omega) _
theorem z_nro_wf {C : Nat → Nat → Nat} {s : Nat} {w : (Nat → Nat) × Int32} (hs : s ≤ 10) (hm : z_wfm s w.1) : ∀ b, b ≤ s → z_wfm s (z_nro C w b).1
  | 0, _ => hm
  | b + 1, hb => z_nri_wf hs (z_nro_wf hs hm b (by omega)) (by omega) b (Nat.le_refl b)
section
variable {d : Nat} {X : z_X} {I : Nat → Nat → Nat → Int32} {J : Nat → Nat → Nat → Int64}
theorem z_p145 {c : Nat} (hc : c ≤ 4) : z_ev (d + 1) (z_en 145 [z_r 0 0, z_i (Int32.ofNat c)] (true, X, I, J)) (some (z_i (z_c (z_hz c (I 1 0 6)).1)), (true, X, z_up I 1 0 6 (z_hz c (I 1 0 6)).2, J)) := by
  unfold z_hz
  by_cases h0 : c = 0
  · rw [if_pos h0, z_up_id rfl]
    subst h0
    exact z_q145_e _ ⟨fun _ => rfl, fun h => absurd rfl h⟩
  · rw [if_neg h0]
    have n0 : ¬ Int32.ofNat c = 0 := fun q => h0 ((z_oeq (b := 0) (by omega) (by decide)).mp q)
    by_cases h4 : c = 4
    · rw [if_pos h4, z_up_id rfl]
      subst h4
      exact z_q145_e _ ⟨fun h => absurd h n0, fun _ => ⟨fun h => absurd rfl h, fun _ => rfl⟩⟩
    · rw [if_neg h4]
      have n4 : ¬ Int32.ofNat c = 4 := fun q => h4 ((z_oeq (b := 4) (by omega) (by decide)).mp q)
      refine z_q145_e _ ⟨fun h => absurd h n0, fun _ => ⟨fun _ => ⟨_, _, _, _, z_p65, fun h => ?_, fun h => ?_⟩, fun h => absurd h n4⟩⟩
      · rw [decide_eq_false (Int32.not_lt.mpr h)]; rfl
      · rw [decide_eq_true h]; rfl
theorem z_p7c {a b : Nat} (ha : a < 5) (hb : b < 5) {x y : Int32} (ex : x = Int32.ofNat a) (ey : y = Int32.ofNat b) : z_ev d (z_en 7 [z_r 4 0, z_i x, z_i y] (true, X, I, J)) (some (z_i (I 6 0 (5 * a + b))), (true, X, I, J)) := by
  subst ex ey
  exact z_p7 ha hb
/-- the class: roads to b -/
theorem z_l90i {q s b P : Nat} {L : List Nat} {cN : Nat → Nat → Nat} {w : (Nat → Nat) × Int32} (hq : q < 10) (hb : b < s) (hs : s ≤ 10) (hP : P ≤ 5) (hL : L.length = s) (hLl : ∀ x ∈ L, x < P) (hc : ∀ a b, a < P → b < P → cN a b ≤ 4 ∧ I 6 0 (5 * a + b) = Int32.ofNat (cN a b)) (h8 : ∀ i p, L[i]? = some p → I 8 0 i = Int32.ofNat p) (hw : z_wfm s w.1) (x1 : Int32) (hm : z_hm I 14 q 0 w.1) (hz : I 1 0 6 = w.2) :
    ∃ I', (∀ r, z_ev (d + 3) (90, 63, [some (z_r 0 0), some (z_i x1), some (z_i (Int32.ofNat s)), some (z_r 4 0), some (z_r 13 q), some (z_i (Int32.ofNat (b + 1))), some (z_i (Int32.ofNat b))], [], (true, X, I', J)) r → z_ev (d + 3) (90, 72, [some (z_r 0 0), some (z_i x1), some (z_i (Int32.ofNat s)), some (z_r 4 0), some (z_r 13 q), some (z_i (Int32.ofNat b)), some (z_i 0)], [], (true, X, I, J)) r) ∧ z_hm I' 14 q 0 (z_nri (fun a b => cN (L.getD a 0) (L.getD b 0)) b w b).1 ∧ I' 1 0 6 = (z_nri (fun a b => cN (L.getD a 0) (L.getD b 0)) b w b).2 ∧ z_fr (z_cf q) I I' := by
  obtain ⟨C, hC⟩ : ∃ C : Nat → Nat → Nat, C = fun a b => cN (L.getD a 0) (L.getD b 0) := ⟨_, rfl⟩
  rw [← hC]
  have hg : ∀ i, i < s → L.getD i 0 < P ∧ I 8 0 i = Int32.ofNat (L.getD i 0) := fun i hi => by
    have h9 : L[i]? = some L[i] := List.getElem?_eq_getElem (by omega)
    rw [List.getD_eq_getElem?_getD, h9]
    exact ⟨hLl _ (List.mem_of_getElem? h9), h8 i _ h9⟩
  have key : ∀ j a, a + j = b → ∀ I1, z_hm I1 14 q 0 (z_nri C b w a).1 → I1 1 0 6 = (z_nri C b w a).2 → z_fr (z_cf q) I I1 → ∃ I', (∀ r, z_ev (d + 3) (90, 63, [some (z_r 0 0), some (z_i x1), some (z_i (Int32.ofNat s)), some (z_r 4 0), some (z_r 13 q), some (z_i (Int32.ofNat (b + 1))), some (z_i (Int32.ofNat b))], [], (true, X, I', J)) r → z_ev (d + 3) (90, 72, [some (z_r 0 0), some (z_i x1), some (z_i (Int32.ofNat s)), some (z_r 4 0), some (z_r 13 q), some (z_i (Int32.ofNat b)), some (z_i (Int32.ofNat a))], [], (true, X, I1, J)) r) ∧ z_hm I' 14 q 0 (z_nri C b w b).1 ∧ I' 1 0 6 = (z_nri C b w b).2 ∧ z_fr (z_cf q) I I' := by
    intro j
    induction j with
    | zero =>
      intro a ha I1 h1 h2 h3
      obtain rfl : a = b := by omega
      exact ⟨I1, fun r hr => z_q90_72 _ _ q hq _ _ ⟨fun _ => by rw [z_os]; exact hr, fun h => absurd ((z_olt (by omega) (by omega)).mp h) (by omega)⟩, h1, h2, h3⟩
    | succ j ih =>
      intro a ha I1 h1 h2 h3
      have hwa := z_nri_wf (C := C) hs hw hb a (by omega)
      obtain ⟨ga1, ga2⟩ := hg a (by omega)
      obtain ⟨gb1, gb2⟩ := hg b hb
      obtain ⟨c1, c2⟩ := hc _ _ ga1 gb1
      have eC : C a b = cN (L.getD a 0) (L.getD b 0) := by rw [hC]
      have p7 := z_p7c (d := d + 2) (X := X) (I := I1) (J := J) (x := I1 8 0 a) (y := I1 8 0 b) (show L.getD a 0 < 5 by omega) (show L.getD b 0 < 5 by omega) (by rw [z_fr_t h3 8 (fun _ _ => rfl)]; exact ga2) (by rw [z_fr_t h3 8 (fun _ _ => rfl)]; exact gb2)
      rw [z_fr_t h3 6 (fun _ _ => rfl), c2, ← eC] at p7
      have p145 := z_p145 (d := d + 1) (X := X) (I := I1) (J := J) (c := C a b) (by rw [eC]; exact c1)
      rw [h2] at p145
      obtain ⟨is1, his⟩ : ∃ is1, is1 = (z_hz (C a b) (z_nri C b w a).2).1 := ⟨_, rfl⟩
      obtain ⟨I0, hI0⟩ : ∃ I0, I0 = z_up I1 1 0 6 (z_hz (C a b) (z_nri C b w a).2).2 := ⟨_, rfl⟩
      rw [← his, ← hI0] at p145
      have q0 : z_hm I0 14 q 0 (z_nri C b w a).1 := fun p hp => by rw [hI0, z_up_t (by decide)]; exact h1 p hp
      have q1 : z_hm (z_sr I0 14 q 0 a b is1) 14 q 0 (z_nri C b w (a + 1)).1 := by
        have := z_hm_sr q0 hs hwa (a := a) (b := b) (by omega) hb (by omega) is1
        rw [his] at this ⊢
        exact this
      have q2 : z_sr I0 14 q 0 a b is1 1 0 6 = (z_nri C b w (a + 1)).2 := by
        show _ = (z_hz (C a b) (z_nri C b w a).2).2
        unfold z_sr
        rw [z_up_t (by decide), z_up_t (by decide), hI0, z_up_e]
      obtain ⟨I', e1, e2⟩ := ih (a + 1) (by omega) _ q1 q2 (z_fr_sr (by rw [hI0]; exact z_fr_up h3 (z_cf_16 q)) (z_cf_14 (by omega)) (z_cf_14 (by omega)))
      refine ⟨I', fun r hr => z_q90_72 _ _ q hq _ _ ⟨fun h => absurd ((z_ole (by omega) (by omega)).mp h) (by omega), fun _ => ⟨a, rfl, by omega, b, rfl, by omega, _, _, _, _, p7, is1, _, _, _, p145, _, _, _, z_p23 hq (by omega) (by omega) is1, ?_⟩⟩, e2⟩
      rw [z_os]
      exact e1 r hr
  exact key b 0 (by omega) I hm hz z_fr_rf
theorem z_l90 {q s P : Nat} {L : List Nat} {cN : Nat → Nat → Nat} {w : (Nat → Nat) × Int32} (hq : q < 10) (hs : s ≤ 10) (hP : P ≤ 5) (hL : L.length = s) (hLl : ∀ x ∈ L, x < P) (hc : ∀ a b, a < P → b < P → cN a b ≤ 4 ∧ I 6 0 (5 * a + b) = Int32.ofNat (cN a b)) (h8 : ∀ i p, L[i]? = some p → I 8 0 i = Int32.ofNat p) (hw : z_wfm s w.1) (x1 : Int32) (es : I 13 q 1 = Int32.ofNat s) :
    ∀ j b, b + j = s → ∀ (o6 : Option z_V) I1, z_hm I1 14 q 0 (z_nro (fun a b => cN (L.getD a 0) (L.getD b 0)) w b).1 → I1 1 0 6 = (z_nro (fun a b => cN (L.getD a 0) (L.getD b 0)) w b).2 → z_fr (z_cf q) I I1 → ∃ I', z_ev (d + 3) (90, 63, [some (z_r 0 0), some (z_i x1), some (z_i (Int32.ofNat s)), some (z_r 4 0), some (z_r 13 q), some (z_i (Int32.ofNat b)), o6], [], (true, X, I1, J)) (some (z_i (z_sm (I' 14 q) s / 2)), (true, X, I', J)) ∧ z_hm I' 14 q 0 (z_nro (fun a b => cN (L.getD a 0) (L.getD b 0)) w s).1 ∧ I' 1 0 6 = (z_nro (fun a b => cN (L.getD a 0) (L.getD b 0)) w s).2 ∧ z_fr (z_cf q) I I' := by
  intro j
  induction j with
  | zero =>
    intro b hb o6 I1 h1 h2 h3
    obtain rfl : b = s := by omega
    have hx := z_p26 (d := d + 1) (X := X) (J := J) (I := I1) hq hs (by rw [z_fr_t h3 13 (fun _ _ => rfl)]; exact es)
    exact ⟨I1, z_q90_63 _ _ q hq _ o6 ⟨fun _ => ⟨_, _, _, _, hx, rfl⟩, fun h => absurd ((z_olt (by omega) (by omega)).mp h) (by omega)⟩, h1, h2, h3⟩
  | succ j ih =>
    intro b hb o6 I1 h1 h2 h3
    obtain ⟨I2, f1, f2, f3, f4⟩ := z_l90i (d := d) (X := X) (J := J) (I := I1) (b := b) (P := P) (L := L) (cN := cN) hq (by omega) hs hP hL hLl (fun a b ha hb => by rw [z_fr_t h3 6 (fun _ _ => rfl)]; exact hc a b ha hb) (fun i p hp => by rw [z_fr_t h3 8 (fun _ _ => rfl)]; exact h8 i p hp) (z_nro_wf hs hw b (by omega)) x1 h1 h2
    obtain ⟨I', c1, c2⟩ := ih (b + 1) (by omega) (some (z_i (Int32.ofNat b))) I2 f2 f3 (z_fr_tr h3 f4)
    exact ⟨I', z_q90_63 _ _ q hq _ o6 ⟨fun h => absurd ((z_ole (by omega) (by omega)).mp h) (by omega), fun _ => f1 _ c1⟩, c2⟩
/-- the reference -/
theorem z_l224i {n s b P : Nat} {L : List Nat} {cN : Nat → Nat → Nat} {w : (Nat → Nat) × Int32} (hn : n < 4) (hb : b < s) (hs : s ≤ 10) (hP : P ≤ 5) (hL : L.length = s) (hLl : ∀ x ∈ L, x < P) (hc : ∀ a b, a < P → b < P → cN a b ≤ 4 ∧ I 38 0 (5 * a + b) = Int32.ofNat (cN a b)) (h8 : ∀ i p, L[i]? = some p → I 51 0 i = Int32.ofNat p) (hw : z_wfm s w.1) (x3 : Int32) (hm : z_hm I 35 0 (10 * n) w.1) (hz : I 33 0 7 = w.2) :
    ∀ j a, a + j = b → ∀ (o6 o7 : Option z_V) I1, z_hm I1 35 0 (10 * n) (z_nri (fun a b => cN (L.getD a 0) (L.getD b 0)) b w a).1 → I1 33 0 7 = (z_nri (fun a b => cN (L.getD a 0) (L.getD b 0)) b w a).2 → z_fr (z_mf n) I I1 → ∃ (I' : Nat → Nat → Nat → Int32) (o8 o9 : Option z_V), (∀ r, z_ev (d + 2) (224, 95, [some (z_r 33 0), some (z_i (Int32.ofNat n)), some (z_i (Int32.ofNat s)), some (z_i x3), some (z_i (Int32.ofNat (b + 1))), some (z_i (Int32.ofNat b)), o8, o9], [], (true, X, I', J)) r → z_ev (d + 2) (224, 104, [some (z_r 33 0), some (z_i (Int32.ofNat n)), some (z_i (Int32.ofNat s)), some (z_i x3), some (z_i (Int32.ofNat b)), some (z_i (Int32.ofNat a)), o6, o7], [], (true, X, I1, J)) r) ∧ z_hm I' 35 0 (10 * n) (z_nri (fun a b => cN (L.getD a 0) (L.getD b 0)) b w b).1 ∧ I' 33 0 7 = (z_nri (fun a b => cN (L.getD a 0) (L.getD b 0)) b w b).2 ∧ z_fr (z_mf n) I I' := by
  obtain ⟨C, hC⟩ : ∃ C : Nat → Nat → Nat, C = fun a b => cN (L.getD a 0) (L.getD b 0) := ⟨_, rfl⟩
  rw [← hC]
  have hg : ∀ i, i < s → L.getD i 0 < P ∧ I 51 0 i = Int32.ofNat (L.getD i 0) := fun i hi => by
    have h9 : L[i]? = some L[i] := List.getElem?_eq_getElem (by omega)
    rw [List.getD_eq_getElem?_getD, h9]
    exact ⟨hLl _ (List.mem_of_getElem? h9), h8 i _ h9⟩
  intro j
  induction j with
  | zero =>
    intro a ha o6 o7 I1 h1 h2 h3
    obtain rfl : a = b := by omega
    exact ⟨I1, o6, o7, fun r hr => z_q224_104 _ _ _ _ _ o6 o7 ⟨fun _ => by rw [z_os]; exact hr, fun h => absurd ((z_olt (by omega) (by omega)).mp h) (by omega)⟩, h1, h2, h3⟩
  | succ j ih =>
    intro a ha o6 o7 I1 h1 h2 h3
    have hwa := z_nri_wf (C := C) hs hw hb a (by omega)
    obtain ⟨ga1, ga2⟩ := hg a (by omega)
    obtain ⟨gb1, gb2⟩ := hg b hb
    obtain ⟨c1, c2⟩ := hc _ _ ga1 gb1
    have eC : C a b = cN (L.getD a 0) (L.getD b 0) := by rw [hC]
    have c4 : C a b ≤ 4 := by rw [eC]; exact c1
    have e38 : I1 38 0 (5 * L.getD a 0 + L.getD b 0) = Int32.ofNat (C a b) := by rw [z_fr_t h3 38 (fun _ _ => rfl), c2, eC]
    have eix : (5 : Int32) * I1 51 0 a + I1 51 0 b = Int32.ofNat (5 * L.getD a 0 + L.getD b 0) := by rw [z_fr_t h3 51 (fun _ _ => rfl), ga2, gb2]; exact z_o5 _ _
    obtain ⟨is1, his⟩ : ∃ is1, is1 = (z_hz (C a b) (z_nri C b w a).2).1 := ⟨_, rfl⟩
    obtain ⟨I0, hI0⟩ : ∃ I0, I0 = z_up I1 33 0 7 (z_hz (C a b) (z_nri C b w a).2).2 := ⟨_, rfl⟩
    have q0 : z_hm I0 35 0 (10 * n) (z_nri C b w a).1 := fun p hp => by rw [hI0, z_up_t (by decide)]; exact h1 p hp
    have q1 : z_hm (z_sr I0 35 0 (10 * n) a b is1) 35 0 (10 * n) (z_nri C b w (a + 1)).1 := by
      have := z_hm_sr q0 hs hwa (a := a) (b := b) (by omega) hb (by omega) is1
      rw [his] at this ⊢
      exact this
    have q2 : z_sr I0 35 0 (10 * n) a b is1 33 0 7 = (z_nri C b w (a + 1)).2 := by
      show _ = (z_hz (C a b) (z_nri C b w a).2).2
      unfold z_sr
      rw [z_up_t (by decide), z_up_t (by decide), hI0, z_up_e]
    obtain ⟨I', o8, o9, e1, e2⟩ := ih (a + 1) (by omega) (some (z_i (Int32.ofNat (C a b)))) (some (z_i (z_c is1))) _ q1 q2 (z_fr_sr (by rw [hI0]; exact z_fr_up h3 (z_mf_37 n)) (z_mf_35 (by omega)) (z_mf_35 (by omega)))
    have p168 : ∀ I9 : Nat → Nat → Nat → Int32, z_ev (d + 1) (z_en 168 [z_r 33 0, z_i (Int32.ofNat n), z_i (Int32.ofNat a), z_i (Int32.ofNat b), z_i (z_c is1)] (true, X, I9, J)) (none, (true, X, z_sr I9 35 0 (10 * n) a b is1, J)) := fun I9 => z_p168 hn (by omega) (by omega) is1
    refine ⟨I', o8, o9, fun r hr => z_q224_104 _ _ _ _ _ o6 o7 ⟨fun h => absurd ((z_ole (by omega) (by omega)).mp h) (by omega), fun _ => ⟨a, rfl, by omega, b, rfl, by omega, _, eix, by omega, fun h => ?_, fun h => ⟨fun h2 => ?_, fun h2 => ?_⟩⟩⟩, e2⟩
    · rw [e38] at h
      have hc4 : C a b = 4 := (z_oeq (b := 4) (by omega) (by decide)).mp h
      have hh : z_hz (C a b) (z_nri C b w a).2 = (true, (z_nri C b w a).2) := by unfold z_hz; rw [if_neg (by omega), if_pos hc4]
      have hI : I0 = I1 := by rw [hI0, hh]; exact z_up_id h2
      rw [hh] at his
      subst his
      have h9 := e1 r hr
      rw [hI] at h9
      rw [e38]
      exact ⟨_, _, _, p168 I1, by rw [z_os]; exact h9⟩
    · rw [e38] at h2
      have hc0 : C a b = 0 := by
        have := (z_ole (b := 0) (by omega) (by decide)).mp h2
        omega
      have hh : z_hz (C a b) (z_nri C b w a).2 = (false, (z_nri C b w a).2) := by unfold z_hz; rw [if_pos hc0]
      have hI : I0 = I1 := by rw [hI0, hh]; exact z_up_id (by assumption)
      rw [hh] at his
      subst his
      have h9 := e1 r hr
      rw [hI] at h9
      rw [e38]
      exact ⟨_, _, _, p168 I1, by rw [z_os]; exact h9⟩
    · rw [e38] at h h2
      have hc0 : ¬ C a b = 0 := fun q => by rw [q] at h2; exact absurd h2 (by decide)
      have hc4 : ¬ C a b = 4 := fun q => h (by rw [q]; rfl)
      have hh : z_hz (C a b) (z_nri C b w a).2 = (decide (z_lo (z_nri C b w a).2 - z_lo (z_nri C b w a).2 / 4 * 4 < Int32.ofNat (C a b)), z_nz (z_nri C b w a).2) := by unfold z_hz; rw [if_neg hc0, if_neg hc4]
      have p222 := z_p222 (d := d + 1) (X := X) (I := I1) (J := J)
      have hI : z_up I1 33 0 7 (z_nz (I1 33 0 7)) = I0 := by rw [hI0, hh, ‹I1 33 0 7 = _›]
      rw [hI, ‹I1 33 0 7 = _›] at p222
      have h9 := e1 r hr
      refine ⟨_, _, _, _, p222, fun h3 => ?_, fun h3 => ?_⟩
      · rw [e38] at h3
        have hf : is1 = false := by rw [his, hh]; exact decide_eq_false (Int32.not_lt.mpr h3)
        subst hf
        rw [e38]
        exact ⟨_, _, _, p168 I0, by rw [z_os]; exact h9⟩
      · rw [e38] at h3
        have hf : is1 = true := by rw [his, hh]; exact decide_eq_true h3
        subst hf
        rw [e38]
        exact ⟨_, _, _, p168 I0, by rw [z_os]; exact h9⟩
theorem z_l224 {n s P : Nat} {L : List Nat} {cN : Nat → Nat → Nat} {w : (Nat → Nat) × Int32} (hn : n < 4) (hs : s ≤ 10) (hP : P ≤ 5) (hL : L.length = s) (hLl : ∀ x ∈ L, x < P) (hc : ∀ a b, a < P → b < P → cN a b ≤ 4 ∧ I 38 0 (5 * a + b) = Int32.ofNat (cN a b)) (h8 : ∀ i p, L[i]? = some p → I 51 0 i = Int32.ofNat p) (hw : z_wfm s w.1) (x3 : Int32) (es : I 34 0 n = Int32.ofNat s) :
    ∀ j b, b + j = s → ∀ (o5 o6 o7 : Option z_V) I1, z_hm I1 35 0 (10 * n) (z_nro (fun a b => cN (L.getD a 0) (L.getD b 0)) w b).1 → I1 33 0 7 = (z_nro (fun a b => cN (L.getD a 0) (L.getD b 0)) w b).2 → z_fr (z_mf n) I I1 → ∃ I', z_ev (d + 2) (224, 95, [some (z_r 33 0), some (z_i (Int32.ofNat n)), some (z_i (Int32.ofNat s)), some (z_i x3), some (z_i (Int32.ofNat b)), o5, o6, o7], [], (true, X, I1, J)) (some (z_i (z_sm (fun p => I' 35 0 (10 * n + p)) s / 2)), (true, X, I', J)) ∧ z_hm I' 35 0 (10 * n) (z_nro (fun a b => cN (L.getD a 0) (L.getD b 0)) w s).1 ∧ I' 33 0 7 = (z_nro (fun a b => cN (L.getD a 0) (L.getD b 0)) w s).2 ∧ z_fr (z_mf n) I I' := by
  intro j
  induction j with
  | zero =>
    intro b hb o5 o6 o7 I1 h1 h2 h3
    obtain rfl : b = s := by omega
    have hx := z_p171 (d := d) (X := X) (J := J) (I := I1) hn hs (by rw [z_fr_t h3 34 (fun _ _ => rfl)]; exact es) (fun p hp => by rw [h1 p hp]; exact z_r10_of ((z_nro_wf hs hw _ (Nat.le_refl _)).1 p hp))
    exact ⟨I1, z_q224_95 _ _ _ _ o5 o6 o7 ⟨fun _ => ⟨_, _, _, _, hx, rfl⟩, fun h => absurd ((z_olt (by omega) (by omega)).mp h) (by omega)⟩, h1, h2, h3⟩
  | succ j ih =>
    intro b hb o5 o6 o7 I1 h1 h2 h3
    obtain ⟨I2, o8, o9, f1, f2, f3, f4⟩ := z_l224i (d := d) (X := X) (J := J) (I := I1) (b := b) (P := P) (L := L) (cN := cN) hn (by omega) hs hP hL hLl (fun a b ha hb => by rw [z_fr_t h3 38 (fun _ _ => rfl)]; exact hc a b ha hb) (fun i p hp => by rw [z_fr_t h3 51 (fun _ _ => rfl)]; exact h8 i p hp) (z_nro_wf hs hw b (by omega)) x3 h1 h2 b 0 (by omega) o6 o7 I1 h1 h2 z_fr_rf
    obtain ⟨I', c1, c2⟩ := ih (b + 1) (by omega) (some (z_i (Int32.ofNat b))) o8 o9 I2 f2 f3 (z_fr_tr h3 f4)
    exact ⟨I', z_q224_95 _ _ _ _ o5 o6 o7 ⟨fun h => absurd ((z_ole (by omega) (by omega)).mp h) (by omega), fun _ => f1 _ c1⟩, c2⟩
end
