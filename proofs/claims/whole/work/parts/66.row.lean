/-! calls of both: rows -/
/-- places of a net of the class, with z; of the reference -/
def z_cf (q a b c : Nat) : Bool := z_pt 14 q 0 a b c || (Nat.beq a 1 && Nat.beq b 0 && Nat.beq c 6)
def z_mf (k a b c : Nat) : Bool := z_pt 35 0 (10 * k) a b c || (Nat.beq a 33 && Nat.beq b 0 && Nat.beq c 7)
theorem z_cf_np {k a b c : Nat} (h : z_cf k a b c = true) : z_np k a b c = true := by
  unfold z_cf at h
  unfold z_np
  rw [Bool.or_eq_true] at h
  rcases h with h | h <;> rw [h] <;> simp
theorem z_mf_np {k a b c : Nat} (h : z_mf k a b c = true) : z_np k a b c = true := by
  unfold z_mf at h
  unfold z_np
  rw [Bool.or_eq_true] at h
  rcases h with h | h <;> rw [h] <;> simp
theorem z_pt_np1 {k a b c : Nat} (h : z_pt 14 k 0 a b c = true) : z_np k a b c = true := z_cf_np (by unfold z_cf; rw [h]; rfl)
theorem z_pt_np2 {k a b c : Nat} (h : z_pt 35 0 (10 * k) a b c = true) : z_np k a b c = true := z_mf_np (by unfold z_mf; rw [h]; rfl)
theorem z_cf_14 {q p : Nat} (hp : p < 10) : z_cf q 14 q (0 + p) = true := by
  unfold z_cf; rw [z_pt_t (by omega) (by omega)]; rfl
theorem z_mf_35 {k p : Nat} (hp : p < 10) : z_mf k 35 0 (10 * k + p) = true := by
  unfold z_mf; rw [z_pt_t (by omega) (by omega)]; rfl
section
variable {d : Nat} {X : z_X} {I : Nat → Nat → Nat → Int32} {J : Nat → Nat → Nat → Int64}
theorem z_p24 {q p s : Nat} {m : Nat → Nat} (hq : q < 10) (hp : p < s) (hs : s ≤ 10) (hw : z_wfm s m) (hm : z_hm I 14 q 0 m) (x : Int32) : ∃ I', z_ev (d + 1) (z_en 24 [z_r 13 q, z_i (Int32.ofNat p), z_i x] (true, X, I, J)) (none, (true, X, I', J)) ∧ z_hm I' 14 q 0 (z_mls m p (z_bt x) p) ∧ z_fr (z_pt 14 q 0) I I' := by
  have key : ∀ j a, a + j = p → ∀ I1, z_hm I1 14 q 0 (z_mls m p (z_bt x) a) → z_fr (z_pt 14 q 0) I I1 → ∃ I', z_ev (d + 1) (24, 2, [some (z_r 13 q), some (z_i (Int32.ofNat p)), some (z_i x), some (z_i (Int32.ofNat a))], [], (true, X, I1, J)) (none, (true, X, I', J)) ∧ z_hm I' 14 q 0 (z_mls m p (z_bt x) p) ∧ z_fr (z_pt 14 q 0) I I' := by
    intro j
    induction j with
    | zero =>
      intro a ha I1 h1 h2
      obtain rfl : a = p := by omega
      exact ⟨I1, z_q24_2 q hq _ _ _ ⟨fun _ => rfl, fun h => absurd ((z_olt (by omega) (by omega)).mp h) (by omega)⟩, h1, h2⟩
    | succ j ih =>
      intro a ha I1 h1 h2
      obtain ⟨I', e1, e2, e3⟩ := ih (a + 1) (by omega) (z_sr I1 14 q 0 a p (z_bt x a)) (z_hm_sr h1 hs (z_mls_wf hs hw hp a (by omega)) (by omega) hp (by omega) _) (z_fr_sr h2 (z_pt_t (by omega) (by omega)) (z_pt_t (by omega) (by omega)))
      refine ⟨I', z_q24_2 q hq _ _ _ ⟨fun h => absurd ((z_ole (by omega) (by omega)).mp h) (by omega), fun _ => ⟨fun h => ?_, fun h => ?_⟩⟩, e2, e3⟩
      · have hb : z_bt x a = false := by unfold z_bt; rw [decide_eq_false_iff_not]; exact fun q => q h
        rw [hb] at e1
        exact ⟨_, _, _, z_p23 hq (by omega) (by omega) false, by rw [z_os]; exact e1⟩
      · have hb : z_bt x a = true := by unfold z_bt; rw [decide_eq_true_iff]; exact h
        rw [hb] at e1
        exact ⟨_, _, _, z_p23 hq (by omega) (by omega) true, by rw [z_os]; exact e1⟩
  obtain ⟨I', e1, e2, e3⟩ := key p 0 (by omega) I hm z_fr_rf
  exact ⟨I', z_q24_e q hq _ _ e1, e2, e3⟩
/-- nets told by rows, posts below p -/
def z_mr (g : Nat → Int32) : Nat → Nat → Nat
  | 0 => fun _ => 0
  | p + 1 => z_mls (z_mr g p) p (z_bt (g p)) p
theorem z_mr_wf {s : Nat} {g : Nat → Int32} (hs : s ≤ 10) : ∀ p, p ≤ s → z_wfm s (z_mr g p)
  | 0, _ => z_wfm_0 s
  | p + 1, hp => z_mls_wf hs (z_mr_wf hs p (by omega)) (by omega) p (Nat.le_refl p)
theorem z_l72 {q n s L : Nat} {g : Nat → Int32} (hq : q < 10) (hn : n < 4) (hs : s ≤ 10) (hL : L ≤ 40) (x1 x2 : Int32) (es : I 13 q 1 = Int32.ofNat s) (eL : I 30 n 2 = Int32.ofNat L) (ei : ∀ j, j < 40 → (J 31 n j).toInt32 = g j) :
    ∀ j p, p + j = min s L → ∀ I1, z_hm I1 14 q 0 (z_mr g p) → z_fr (z_pt 14 q 0) I I1 → ∃ I', z_ev (d + 2) (72, 69, [some (z_r 0 0), some (z_i x1), some (z_i x2), some (z_r 30 n), some (z_r 13 q), some (z_i (Int32.ofNat p))], [], (true, X, I1, J)) (some (z_i (z_sm (I' 14 q) s / 2)), (true, X, I', J)) ∧ z_hm I' 14 q 0 (z_mr g (min s L)) ∧ z_fr (z_pt 14 q 0) I I' := by
  intro j
  induction j with
  | zero =>
    intro p hp I1 h1 h2
    have e13 : I1 13 = I 13 := z_fr_t h2 13 (fun _ _ => rfl)
    have e30 : I1 30 = I 30 := z_fr_t h2 30 (fun _ _ => rfl)
    obtain rfl : p = min s L := by omega
    have hx := z_p26 (d := d) (X := X) (J := J) (I := I1) hq hs (by rw [e13]; exact es)
    refine ⟨I1, z_q72_69 x1 x2 n hn q hq _ ⟨fun _ => ⟨_, _, _, _, hx, rfl⟩, fun h => ⟨fun _ => ⟨_, _, _, _, hx, rfl⟩, fun h2 => ?_⟩⟩, h1, h2⟩
    rw [e13, es] at h
    rw [e30, eL] at h2
    have g1 := (z_olt (by omega) (by omega)).mp h
    have g2 := (z_olt (by omega) (by omega)).mp h2
    omega
  | succ j ih =>
    intro p hp I1 h1 h2
    have e13 : I1 13 = I 13 := z_fr_t h2 13 (fun _ _ => rfl)
    have e30 : I1 30 = I 30 := z_fr_t h2 30 (fun _ _ => rfl)
    obtain ⟨I2, f1, f2, f3⟩ := z_p24 (d := d) (X := X) (J := J) (I := I1) (p := p) hq (by omega) hs (z_mr_wf hs p (by omega)) h1 (g p)
    obtain ⟨I', c1, c2, c3⟩ := ih (p + 1) (by omega) I2 f2 (z_fr_tr h2 f3)
    refine ⟨I', z_q72_69 x1 x2 n hn q hq _ ⟨fun h => ?_, fun _ => ⟨fun h => ?_, fun _ => ⟨p, rfl, by omega, _, _, _, by rw [ei p (by omega)]; exact f1, by rw [z_os]; exact c1⟩⟩⟩, c2, c3⟩
    · rw [e13, es] at h
      have g1 := (z_ole (by omega) (by omega)).mp h
      omega
    · rw [e30, eL] at h
      have g1 := (z_ole (by omega) (by omega)).mp h
      omega
/-- the reference -/
theorem z_l187i {k n s p : Nat} {m : Nat → Nat} {x : Int32} (hk : k < 4) (hn : n < 4) (hp : p < s) (hs : s ≤ 10) (hw : z_wfm s m) (hm : z_hm I 35 0 (10 * k) m) (x3 : Int32) (ej : J 57 0 (40 * n + p) = x.toInt64) :
    ∃ I', (∀ r, z_ev (d + 2) (187, 43, [some (z_r 33 0), some (z_i (Int32.ofNat k)), some (z_i (Int32.ofNat n)), some (z_i x3), some (z_i (Int32.ofNat (p + 1))), some (z_i (Int32.ofNat p))], [], (true, X, I', J)) r → z_ev (d + 2) (187, 68, [some (z_r 33 0), some (z_i (Int32.ofNat k)), some (z_i (Int32.ofNat n)), some (z_i x3), some (z_i (Int32.ofNat p)), some (z_i 0)], [], (true, X, I, J)) r) ∧ z_hm I' 35 0 (10 * k) (z_mls m p (z_bt x) p) ∧ z_fr (z_pt 35 0 (10 * k)) I I' := by
  have key : ∀ j a, a + j = p → ∀ I1, z_hm I1 35 0 (10 * k) (z_mls m p (z_bt x) a) → z_fr (z_pt 35 0 (10 * k)) I I1 → ∃ I', (∀ r, z_ev (d + 2) (187, 43, [some (z_r 33 0), some (z_i (Int32.ofNat k)), some (z_i (Int32.ofNat n)), some (z_i x3), some (z_i (Int32.ofNat (p + 1))), some (z_i (Int32.ofNat p))], [], (true, X, I', J)) r → z_ev (d + 2) (187, 68, [some (z_r 33 0), some (z_i (Int32.ofNat k)), some (z_i (Int32.ofNat n)), some (z_i x3), some (z_i (Int32.ofNat p)), some (z_i (Int32.ofNat a))], [], (true, X, I1, J)) r) ∧ z_hm I' 35 0 (10 * k) (z_mls m p (z_bt x) p) ∧ z_fr (z_pt 35 0 (10 * k)) I I' := by
    intro j
    induction j with
    | zero =>
      intro a ha I1 h1 h2
      obtain rfl : a = p := by omega
      exact ⟨I1, fun r hr => z_q187_68 _ _ _ _ _ ⟨fun _ => by rw [z_os]; exact hr, fun h => absurd ((z_olt (by omega) (by omega)).mp h) (by omega)⟩, h1, h2⟩
    | succ j ih =>
      intro a ha I1 h1 h2
      have hwa := z_mls_wf (g := z_bt x) hs hw hp a (by omega)
      have hm2 : z_hm (z_sr I1 35 0 (10 * k) p a (z_bt x a)) 35 0 (10 * k) (z_mls m p (z_bt x) (a + 1)) := by
        show z_hm _ 35 0 (10 * k) (z_ms (z_mls m p (z_bt x) a) a p (z_bt x a))
        rw [z_ms_comm (by omega)]
        exact z_hm_sr h1 hs hwa hp (by omega) (by omega) _
      obtain ⟨I', e1, e2, e3⟩ := ih (a + 1) (by omega) _ hm2 (z_fr_sr h2 (z_pt_t (by omega) (by omega)) (z_pt_t (by omega) (by omega)))
      refine ⟨I', fun r hr => z_q187_68 _ _ _ _ _ ⟨fun h => absurd ((z_ole (by omega) (by omega)).mp h) (by omega), fun _ => ⟨40 * n + p, z_o40 n p, by omega, fun h => ?_, fun h => ?_⟩⟩, e2, e3⟩
      · rw [z_lc0, ej, z_bt_64 a (by omega)] at h
        have hb : z_bt x a = false := by simpa using h
        have e1 := e1 r hr
        rw [hb] at e1
        exact ⟨_, _, _, z_p168 hk (by omega) (by omega) false, by rw [z_os]; exact e1⟩
      · rw [z_lc0, ej, z_bt_64 a (by omega)] at h
        have e1 := e1 r hr
        rw [h] at e1
        exact ⟨_, _, _, z_p168 hk (by omega) (by omega) true, by rw [z_os]; exact e1⟩
  exact key p 0 (by omega) I hm z_fr_rf
theorem z_l187 {k n s L : Nat} {g : Nat → Int32} (hk : k < 4) (hn : n < 4) (hs : s ≤ 10) (hL : L ≤ 40) (x3 : Int32) (es : I 34 0 k = Int32.ofNat s) (eL : I 56 0 n = Int32.ofNat L) (ei : ∀ j, j < 40 → J 57 0 (40 * n + j) = (g j).toInt64) :
    ∀ j p, p + j = min s L → ∀ (o5 : Option z_V) I1, z_hm I1 35 0 (10 * k) (z_mr g p) → z_fr (z_pt 35 0 (10 * k)) I I1 → ∃ I', z_ev (d + 2) (187, 43, [some (z_r 33 0), some (z_i (Int32.ofNat k)), some (z_i (Int32.ofNat n)), some (z_i x3), some (z_i (Int32.ofNat p)), o5], [], (true, X, I1, J)) (some (z_i (z_sm (fun p => I' 35 0 (10 * k + p)) s / 2)), (true, X, I', J)) ∧ z_hm I' 35 0 (10 * k) (z_mr g (min s L)) ∧ z_fr (z_pt 35 0 (10 * k)) I I' := by
  intro j
  induction j with
  | zero =>
    intro p hp o5 I1 h1 h2
    have e34 : I1 34 = I 34 := z_fr_t h2 34 (fun _ _ => rfl)
    have e56 : I1 56 = I 56 := z_fr_t h2 56 (fun _ _ => rfl)
    obtain rfl : p = min s L := by omega
    have hx := z_p171 (d := d) (X := X) (J := J) (I := I1) hk hs (by rw [e34]; exact es) (fun p hp => by rw [h1 p hp]; exact z_r10_of ((z_mr_wf hs _ (by omega)).1 p hp))
    refine ⟨I1, z_q187_43 _ _ x3 _ o5 ⟨k, rfl, hk, fun _ => ⟨_, _, _, _, hx, rfl⟩, fun h => ⟨n, rfl, hn, fun _ => ⟨_, _, _, _, hx, rfl⟩, fun h2 => ?_⟩⟩, h1, h2⟩
    rw [e34, es] at h
    rw [e56, eL] at h2
    have g1 := (z_olt (by omega) (by omega)).mp h
    have g2 := (z_olt (by omega) (by omega)).mp h2
    omega
  | succ j ih =>
    intro p hp o5 I1 h1 h2
    have e34 : I1 34 = I 34 := z_fr_t h2 34 (fun _ _ => rfl)
    have e56 : I1 56 = I 56 := z_fr_t h2 56 (fun _ _ => rfl)
    obtain ⟨I2, f1, f2, f3⟩ := z_l187i (d := d) (X := X) (J := J) (I := I1) (p := p) (x := g p) hk hn (by omega) hs (z_mr_wf hs p (by omega)) h1 x3 (ei p (by omega))
    obtain ⟨I', c1, c2, c3⟩ := ih (p + 1) (by omega) (some (z_i (Int32.ofNat p))) I2 f2 (z_fr_tr h2 f3)
    refine ⟨I', z_q187_43 _ _ x3 _ o5 ⟨k, rfl, hk, fun h => ?_, fun _ => ⟨n, rfl, hn, fun h => ?_, fun _ => f1 _ c1⟩⟩, c2, c3⟩
    · rw [e34, es] at h
      have g1 := (z_ole (by omega) (by omega)).mp h
      omega
    · rw [e56, eL] at h
      have g1 := (z_ole (by omega) (by omega)).mp h
      omega
end
/-- promise 7 -/
theorem z_op_rows (x w1 : Int32) : z_op 72 187 [z_i x, z_i w1] := by
  intro X I J hR
  have hR0 := hR
  obtain ⟨⟨n1, n2, n3, n4, n5⟩, r2, r3, r4, r5, r6, r7, r8⟩ := hR
  cases ha : z_bw x 0 3 with
  | false =>
    refine ⟨z_i (-1), X, X, I, I, J, J, z_q72_e (d := 58) x w1 ⟨fun _ => rfl, fun h => ?_⟩, z_q187_e (d := 58) x w1 ⟨fun _ => rfl, fun h => ?_⟩, hR0, Nat.le_succ _, Nat.le_add_right _ _, rfl⟩
    · rw [ha] at h; cases h
    · rw [ha] at h; cases h
  | true =>
    have fa : ∀ {P : Prop}, z_bw x 0 3 = false → P := fun h => by rw [ha] at h; cases h
    cases hb : z_bw w1 0 3 with
    | false =>
      refine ⟨z_i (-1), X, X, I, I, J, J, z_q72_e (d := 58) x w1 ⟨fun _ => rfl, fun _ => ⟨fun h => ?_, fun _ => rfl⟩⟩, z_q187_e (d := 58) x w1 ⟨fun _ => rfl, fun _ => ⟨fun h => ?_, fun _ => rfl⟩⟩, hR0, Nat.le_succ _, Nat.le_add_right _ _, rfl⟩
      · rw [hb] at h; cases h
      · rw [hb] at h; cases h
    | true =>
      have fb : ∀ {P : Prop}, z_bw w1 0 3 = false → P := fun h => by rw [hb] at h; cases h
      obtain ⟨k, hk, rfl⟩ := z_bw3 ha
      obtain ⟨n, hn, rfl⟩ := z_bw3 hb
      obtain ⟨s1, s2, s3, s4⟩ := r5 n hn
      rcases s3 with ⟨t1, t2⟩ | ⟨so, L, hso, hL, t1, t2⟩
      · exact ⟨z_i (-11), X, X, I, I, J, J, z_q72_e (d := 58) _ _ ⟨fun h => fa h, fun _ => ⟨fun _ => ⟨n, rfl, hn, fun h => absurd (s1.trans t1) h, fun _ => rfl⟩, fun h => fb h⟩⟩, z_q187_e (d := 58) _ _ ⟨fun h => fa h, fun _ => ⟨fun _ => ⟨_, _, _, _, z_p252a hn 2 t1, fun h => absurd h (by decide), fun _ => rfl⟩, fun h => fb h⟩⟩, hR0, Nat.le_succ _, Nat.le_add_right _ _, rfl⟩
      · have e30 : I 30 n 1 = Int32.ofNat so := s1.trans t1
        have em : ¬ I 30 n 1 = -1 := by rw [e30]; exact z_om1 (by omega)
        by_cases h2 : so = 2
        · subst h2
          rw [z_Rn0] at n1
          obtain ⟨s, m, g1, g2, g3, g4, g5, g6⟩ := n1 k hk
          have g4 : I 13 k 1 = Int32.ofNat s := g4
          have g5 : I 34 0 k = Int32.ofNat s := g5
          let g : Nat → Int32 := fun j => (J 31 n j).toInt32
          have ei : ∀ j, j < 40 → J 57 0 (40 * n + j) = (g j).toInt64 := fun j hj => by
            obtain ⟨y, ey⟩ := (s4 j hj).2
            show _ = ((J 31 n j).toInt32).toInt64
            rw [(s4 j hj).1, ey, Int32.toInt32_toInt64]
          have c0 := z_p19 (d := 59) (X := X) (I := I) (J := J) (q := k) (by omega) (I 13 k 1)
          obtain ⟨I0, hI0⟩ : ∃ I0, I0 = z_wo (z_up I 13 k 1 (I 13 k 1)) 14 k 0 10 (fun _ => (0 : Int32)) := ⟨_, rfl⟩
          rw [← hI0] at c0
          have a0 : I0 13 k 1 = Int32.ofNat s := by rw [hI0, z_wo_t (by decide), z_up_e]; exact g4
          have a1 : z_hm I0 14 k 0 (z_mr g 0) := fun p hp => by
            rw [hI0, z_wo_e hp]; rfl
          have a2 : z_fr (z_np k) I I0 := by
            rw [hI0]
            exact z_fr_wo (z_fr_up z_fr_rf (by unfold z_np; simp [Nat.beq_refl])) (fun j h1 h2 => z_pt_np1 (z_pt_t h1 h2))
          have a30 : I0 30 n 2 = Int32.ofNat L := by rw [hI0, z_wo_t (by decide), z_up_t (by decide)]; exact s2.trans t2
          obtain ⟨I1, c1, c2, c3⟩ := z_l72 (d := 58) (X := X) (J := J) (I := I0) (g := g) (q := k) (by omega) hn g2 hL (Int32.ofNat k) (Int32.ofNat n) a0 a30 (fun _ _ => rfl) (min s L) 0 (by omega) I0 a1 z_fr_rf
          have b34 : I1 34 = I 34 := by rw [z_fr_t c3 34 (fun _ _ => rfl), hI0, z_wo_t (by decide), z_up_t (by decide)]
          have b55 : I1 55 = I 55 := by rw [z_fr_t c3 55 (fun _ _ => rfl), hI0, z_wo_t (by decide), z_up_t (by decide)]
          have b56 : I1 56 = I 56 := by rw [z_fr_t c3 56 (fun _ _ => rfl), hI0, z_wo_t (by decide), z_up_t (by decide)]
          have b13 : I1 13 k 1 = Int32.ofNat s := by rw [z_fr_t c3 13 (fun _ _ => rfl)]; exact a0
          have d0 := z_p169 (d := 59) (X := X) (I := I1) (J := J) (n := k) hk (I1 34 0 k)
          obtain ⟨I2, hI2⟩ : ∃ I2, I2 = z_wo (z_up I1 34 0 k (I1 34 0 k)) 35 0 (10 * k) 10 (fun _ => (0 : Int32)) := ⟨_, rfl⟩
          rw [← hI2] at d0
          have u0 : I2 34 0 k = Int32.ofNat s := by rw [hI2, z_wo_t (by decide), z_up_e, b34]; exact g5
          have u1 : z_hm I2 35 0 (10 * k) (z_mr g 0) := fun p hp => by
            rw [hI2, z_wo_e hp]; rfl
          have u2 : z_fr (z_np k) I1 I2 := by
            rw [hI2]
            exact z_fr_wo (z_fr_up z_fr_rf (by unfold z_np; simp [Nat.beq_refl])) (fun j h1 h2 => z_pt_np2 (z_pt_t h1 h2))
          have u56 : I2 56 0 n = Int32.ofNat L := by rw [hI2, z_wo_t (by decide), z_up_t (by decide), b56]; exact t2
          obtain ⟨I3, d1, d2, d3⟩ := z_l187 (d := 58) (X := X) (J := J) (I := I2) (g := g) hk hn g2 hL 0 u0 u56 ei (min s L) 0 (by omega) none I2 u1 z_fr_rf
          have hf : z_fr (z_np k) I I3 := z_fr_tr (z_fr_tr a2 (z_fr_mn c3 (fun _ _ _ => z_pt_np1))) (z_fr_tr u2 (z_fr_mn d3 (fun _ _ _ => z_pt_np2)))
          have v13 : I3 13 k 1 = Int32.ofNat s := by rw [z_fr_t d3 13 (fun _ _ => rfl), hI2, z_wo_t (by decide), z_up_t (by decide)]; exact b13
          have v34 : I3 34 0 k = Int32.ofNat s := by rw [z_fr_t d3 34 (fun _ _ => rfl)]; exact u0
          have v14 : ∀ p, I3 14 k p = I1 14 k p := fun p => by rw [z_fr_t d3 14 (fun _ _ => rfl), hI2, z_wo_t (by decide), z_up_t (by decide)]
          have c2 : ∀ p, p < 10 → I1 14 k p = Int32.ofNat (z_mr g (min s L) p) := fun p hp => by have := c2 p hp; rwa [Nat.zero_add] at this
          have e : z_sm (I1 14 k) s = z_sm (fun p => I3 35 0 (10 * k + p)) s := z_sm_eq fun p hp => by rw [c2 p (by omega), d2 p (by omega)]
          have vt : ∀ t, t ≠ 13 → t ≠ 14 → t ≠ 34 → t ≠ 35 → (∀ i j, z_pt 14 k 0 t i j = false) → (∀ i j, z_pt 35 0 (10 * k) t i j = false) → I3 t = I t := fun t q1 q2 q3 q4 q5 q6 => by
            rw [z_fr_t d3 t q6, hI2, z_wo_t q4, z_up_t q3, z_fr_t c3 t q5, hI0, z_wo_t q2, z_up_t q1]
          have p2 := z_p252b (d := 59) (X := X) (J := J) (I := I1) (s := 2) hn (by decide) 2 (by rw [b55]; exact t1)
          rw [if_pos (show Int32.ofNat 2 = 2 from rfl)] at p2
          refine ⟨z_i (z_sm (fun p => I3 35 0 (10 * k + p)) s / 2), X, X, I1, I3, J, J, z_q72_e (d := 58) _ _ ⟨fun h => fa h, fun _ => ⟨fun _ => ⟨n, rfl, hn, fun _ => ⟨fun _ => ⟨k, rfl, hk, _, _, _, c0, ?_⟩, fun h => absurd e30 h⟩, fun h => absurd h em⟩, fun h => fb h⟩⟩, z_q187_e (d := 58) _ _ ⟨fun h => fa h, fun _ => ⟨fun _ => ⟨_, _, _, _, p2, fun _ => ⟨k, rfl, hk, _, _, _, d0, d1⟩, fun h => absurd rfl h⟩, fun h => fb h⟩⟩, z_R_net hR0 hk hf g1 g2 (z_mr_wf g2 _ (by omega)) v13 v34 (fun p hp => by rw [v14]; exact c2 p hp) d2 ?_ rfl rfl, Nat.le_succ _, Nat.le_add_right _ _, ?_⟩
          · rw [← e]; exact c1
          · rw [vt 1 (by decide) (by decide) (by decide) (by decide) (fun _ _ => rfl) (fun _ _ => rfl), vt 33 (by decide) (by decide) (by decide) (by decide) (fun _ _ => rfl) (fun _ _ => rfl)]; exact n4
          · exact vt 67 (by decide) (by decide) (by decide) (by decide) (fun _ _ => rfl) (fun _ _ => rfl)
        · have hne : ¬ I 30 n 1 = 2 := by rw [e30]; exact fun q => h2 ((z_oeq (b := 2) (by omega) (by decide)).mp q)
          have hne2 : ¬ Int32.ofNat so = (2 : Int32) := fun q => h2 ((z_oeq (b := 2) (by omega) (by decide)).mp q)
          refine ⟨z_i (-13), X, X, I, I, J, J, z_q72_e (d := 58) _ _ ⟨fun h => fa h, fun _ => ⟨fun _ => ⟨n, rfl, hn, fun _ => ⟨fun h => absurd h hne, fun _ => rfl⟩, fun h => absurd h em⟩, fun h => fb h⟩⟩, z_q187_e (d := 58) _ _ ⟨fun h => fa h, fun _ => ⟨fun _ => ⟨_, _, _, _, z_p252b hn hso 2 t1, fun h => ?_, fun _ => ?_⟩, fun h => fb h⟩⟩, hR0, Nat.le_succ _, Nat.le_add_right _ _, rfl⟩
          · rw [if_neg hne2] at h; exact absurd h (by decide)
          · rw [if_neg hne2]
