/-! near: posts dealt to parts -/
def z_sumf (f : Nat → Nat) : Nat → Nat
  | 0 => 0
  | n + 1 => z_sumf f n + f n
def z_bst (R : Nat → Int32) : Nat → Nat
  | 0 => 0
  | p + 1 => if p = 0 then 0 else if R (z_bst R p) < R p then p else z_bst R p
theorem z_bst_lt (R : Nat → Int32) : ∀ p, 1 ≤ p → z_bst R p < p
  | p + 1, _ => by
    show (if p = 0 then 0 else if R (z_bst R p) < R p then p else z_bst R p) < p + 1
    by_cases h : p = 0
    · rw [if_pos h]; omega
    · rw [if_neg h]
      have := z_bst_lt R p (by omega)
      split
      · omega
      · omega
/-- dealt, rests; after i more posts -/
def z_dls (P : Nat) (w : (Nat → Nat) × (Nat → Int32)) : Nat → (Nat → Nat) × (Nat → Int32)
  | 0 => w
  | i + 1 => (fun p => if p = z_bst (z_dls P w i).2 P then (z_dls P w i).1 p + 1 else (z_dls P w i).1 p, fun p => if p = z_bst (z_dls P w i).2 P then -1 else (z_dls P w i).2 p)
theorem z_sumf_one {f g : Nat → Nat} {b : Nat} (hb : g b = f b + 1) (ho : ∀ p, p ≠ b → g p = f p) : ∀ n, z_sumf g n = z_sumf f n + if b < n then 1 else 0
  | 0 => by rw [if_neg (Nat.not_lt_zero b)]; rfl
  | n + 1 => by
    show z_sumf g n + g n = z_sumf f n + f n + _
    rw [z_sumf_one hb ho n]
    by_cases h : b = n
    · subst h
      rw [hb, if_neg (Nat.lt_irrefl _), if_pos (Nat.lt_succ_self _)]
      omega
    · rw [ho n (fun q => h q.symm)]
      by_cases h2 : b < n
      · rw [if_pos h2, if_pos (by omega)]; omega
      · rw [if_neg h2, if_neg (by omega)]; omega
theorem z_dls_sum {P : Nat} (hP : 1 ≤ P) (w : (Nat → Nat) × (Nat → Int32)) : ∀ i, z_sumf (z_dls P w i).1 P = z_sumf w.1 P + i
  | 0 => rfl
  | i + 1 => by
    have h := z_sumf_one (f := (z_dls P w i).1) (g := (z_dls P w (i + 1)).1) (b := z_bst (z_dls P w i).2 P) (by show (if _ = _ then _ else _) = _; rw [if_pos rfl]) (fun p hp => by show (if p = _ then _ else _) = _; rw [if_neg hp]) P
    rw [h, if_pos (z_bst_lt _ P hP), z_dls_sum hP w i]
    omega
/-- posts in the order of their parts -/
def z_asg (D : Nat → Nat) : Nat → List Nat
  | 0 => []
  | p + 1 => z_asg D p ++ List.replicate (D p) p
theorem z_asg_len (D : Nat → Nat) : ∀ p, (z_asg D p).length = z_sumf D p
  | 0 => rfl
  | p + 1 => by
    show (z_asg D p ++ List.replicate (D p) p).length = z_sumf D p + D p
    rw [List.length_append, List.length_replicate, z_asg_len D p]
theorem z_asg_lt (D : Nat → Nat) : ∀ p, ∀ x ∈ z_asg D p, x < p
  | 0, x, h => by cases h
  | p + 1, x, h => by
    have h : x ∈ z_asg D p ++ List.replicate (D p) p := h
    rw [List.mem_append] at h
    rcases h with h | h
    · have := z_asg_lt D p x h; omega
    · rw [(List.mem_replicate.mp h).2]; omega
theorem z_sumf_le {f : Nat → Nat} : ∀ n m, n ≤ m → z_sumf f n ≤ z_sumf f m
  | n, 0, h => by rw [Nat.le_zero.mp h]; exact Nat.le_refl _
  | n, m + 1, h => by
    by_cases e : n = m + 1
    · rw [e]; exact Nat.le_refl _
    · have := z_sumf_le (f := f) n m (by omega)
      show _ ≤ z_sumf f m + f m
      omega
theorem z_cut_le {w : Nat → Nat} {n al : Nat} : ∀ p, al * z_sumf (fun q => n * w q / al) p ≤ n * z_sumf w p
  | 0 => by show al * 0 ≤ n * 0; omega
  | p + 1 => by
    show al * (z_sumf (fun q => n * w q / al) p + n * w p / al) ≤ n * (z_sumf w p + w p)
    rw [Nat.mul_add, Nat.mul_add]
    have h1 := z_cut_le (w := w) (n := n) (al := al) p
    have h2 := Nat.mul_div_le (n * w p) al
    omega
theorem z_cut_ge {w : Nat → Nat} {n al : Nat} (ha : 1 ≤ al) : ∀ p, n * z_sumf w p ≤ al * z_sumf (fun q => n * w q / al) p + p * (al - 1)
  | 0 => by show n * 0 ≤ _; omega
  | p + 1 => by
    show n * (z_sumf w p + w p) ≤ al * (z_sumf (fun q => n * w q / al) p + n * w p / al) + (p + 1) * (al - 1)
    rw [Nat.mul_add, Nat.mul_add, Nat.add_mul, Nat.one_mul]
    have h1 := z_cut_ge (w := w) (n := n) (al := al) ha p
    have h2 := Nat.mod_add_div (n * w p) al
    have h3 := Nat.mod_lt (n * w p) (show al > 0 by omega)
    omega
theorem z_cut_ok {w : Nat → Nat} {n P : Nat} (hP : 1 ≤ P) (hw : 1 ≤ z_sumf w P) : z_sumf (fun q => n * w q / z_sumf w P) P ≤ n ∧ n < z_sumf (fun q => n * w q / z_sumf w P) P + P := by
  have h1 := z_cut_le (w := w) (n := n) (al := z_sumf w P) P
  have h2 := z_cut_ge (w := w) (n := n) hw P
  obtain ⟨al, hal⟩ : ∃ al, al = z_sumf w P := ⟨_, rfl⟩
  rw [← hal] at h1 h2 hw ⊢
  obtain ⟨c, hc⟩ : ∃ c, c = z_sumf (fun q => n * w q / al) P := ⟨_, rfl⟩
  rw [← hc] at h1 h2 ⊢
  constructor
  · rw [Nat.mul_comm n al] at h1
    exact Nat.le_of_mul_le_mul_left h1 hw
  · have h3 : al * n < al * (c + P) := by
      rw [Nat.mul_add, Nat.mul_comm al n]
      have h4 : P * (al - 1) < al * P := by
        rw [Nat.mul_comm al P]
        exact Nat.mul_lt_mul_of_pos_left (by omega) (by omega)
      omega
    exact Nat.lt_of_mul_lt_mul_left h3
def z_dq (a b _c : Nat) : Bool := (Nat.beq a 8 || Nat.beq a 9 || Nat.beq a 10) && Nat.beq b 0
section
variable {d : Nat} {X : z_X} {I : Nat → Nat → Nat → Int32} {J : Nat → Nat → Nat → Int64}
theorem z_p10 {P : Nat} {w : Nat → Nat} (hP : P ≤ 5) (e4 : I 4 0 2 = Int32.ofNat P) (ew : ∀ p, p < P → I 5 0 p = Int32.ofNat (w p)) : z_ev d (z_en 10 [z_r 4 0] (true, X, I, J)) (some (z_i (Int32.ofNat (z_sumf w P))), (true, X, I, J)) := by
  have key : ∀ j p, p + j = P → z_ev d (10, 4, [some (z_r 4 0), some (z_i (Int32.ofNat (z_sumf w p))), some (z_i (Int32.ofNat p))], [], (true, X, I, J)) (some (z_i (Int32.ofNat (z_sumf w P))), (true, X, I, J)) := by
    intro j
    induction j with
    | zero =>
      intro p hp
      obtain rfl : p = P := by omega
      refine z_q10_4 _ _ ⟨fun _ => rfl, fun h => ?_⟩
      rw [e4] at h
      exact absurd ((z_olt (by omega) (by omega)).mp h) (by omega)
    | succ j ih =>
      intro p hp
      refine z_q10_4 _ _ ⟨fun h => ?_, fun _ => ⟨p, rfl, by omega, ?_⟩⟩
      · rw [e4] at h
        exact absurd ((z_ole (by omega) (by omega)).mp h) (by omega)
      · rw [ew p (by omega), z_oa, z_os]
        exact ih (p + 1) (by omega)
  exact z_q10_e (key P 0 (by omega))
theorem z_p214 {P : Nat} {w : Nat → Nat} (hP : P ≤ 5) (e4 : I 33 0 4 = Int32.ofNat P) (ew : ∀ p, p < P → I 37 0 p = Int32.ofNat (w p)) : z_ev d (z_en 214 [z_r 33 0] (true, X, I, J)) (some (z_i (Int32.ofNat (z_sumf w P))), (true, X, I, J)) := by
  have key : ∀ j p, p + j = P → z_ev d (214, 4, [some (z_r 33 0), some (z_i (Int32.ofNat (z_sumf w p))), some (z_i (Int32.ofNat p))], [], (true, X, I, J)) (some (z_i (Int32.ofNat (z_sumf w P))), (true, X, I, J)) := by
    intro j
    induction j with
    | zero =>
      intro p hp
      obtain rfl : p = P := by omega
      refine z_q214_4 _ _ ⟨fun _ => rfl, fun h => ?_⟩
      rw [e4] at h
      exact absurd ((z_olt (by omega) (by omega)).mp h) (by omega)
    | succ j ih =>
      intro p hp
      refine z_q214_4 _ _ ⟨fun h => ?_, fun _ => ⟨p, rfl, by omega, ?_⟩⟩
      · rw [e4] at h
        exact absurd ((z_ole (by omega) (by omega)).mp h) (by omega)
      · rw [ew p (by omega), z_oa, z_os]
        exact ih (p + 1) (by omega)
  exact z_q214_e (key P 0 (by omega))
theorem z_mdv {n w al : Nat} (hn : n ≤ 10) (hw : w ≤ 9) (ha : al ≤ 1000) : (Int32.ofNat n * Int32.ofNat w) / Int32.ofNat al = Int32.ofNat (n * w / al) ∧ (Int32.ofNat n * Int32.ofNat w) - (Int32.ofNat n * Int32.ofNat w) / Int32.ofNat al * Int32.ofNat al = Int32.ofNat (n * w % al) := by
  have h1 : n * w ≤ 90 := Nat.le_trans (Nat.mul_le_mul hn hw) (by decide)
  rw [← Int32.ofNat_mul]
  refine ⟨(Int32.ofNat_div (by omega) (by omega)).symm, z_modn (by omega) (by omega)⟩
/-- the class: dealCut -/
theorem z_p16 {P n : Nat} {w : Nat → Nat} (hP1 : 1 ≤ P) (hP : P ≤ 5) (hn : n ≤ 10) (e4 : I 4 0 2 = Int32.ofNat P) (ew : ∀ p, p < P → I 5 0 p = Int32.ofNat (w p)) (hw9 : ∀ p, p < P → w p ≤ 9) (hal : 1 ≤ z_sumf w P) (hal9 : z_sumf w P ≤ 1000) :
    ∃ I', z_ev (d + 1) (z_en 16 [z_r 4 0, z_i (Int32.ofNat n)] (true, X, I, J)) (some (z_i (Int32.ofNat (z_sumf (fun q => n * w q / z_sumf w P) P))), (true, X, I', J)) ∧ (∀ p, p < P → I' 9 0 p = Int32.ofNat (n * w p / z_sumf w P) ∧ I' 10 0 p = Int32.ofNat (n * w p % z_sumf w P)) ∧ z_fr z_dq I I' := by
  obtain ⟨al, hal0⟩ : ∃ al, al = z_sumf w P := ⟨_, rfl⟩
  have p10 := z_p10 (d := d) (X := X) (J := J) hP e4 ew
  rw [← hal0] at hal hal9 p10 ⊢
  have key : ∀ j p, p + j = P → ∀ I1, (∀ q, q < p → I1 9 0 q = Int32.ofNat (n * w q / al) ∧ I1 10 0 q = Int32.ofNat (n * w q % al)) → z_fr z_dq I I1 → ∃ I', z_ev (d + 1) (16, 10, [some (z_r 4 0), some (z_i (Int32.ofNat n)), some (z_i (Int32.ofNat al)), some (z_i (Int32.ofNat (z_sumf (fun q => n * w q / al) p))), some (z_i (Int32.ofNat p))], [], (true, X, I1, J)) (some (z_i (Int32.ofNat (z_sumf (fun q => n * w q / al) P))), (true, X, I', J)) ∧ (∀ p, p < P → I' 9 0 p = Int32.ofNat (n * w p / al) ∧ I' 10 0 p = Int32.ofNat (n * w p % al)) ∧ z_fr z_dq I I' := by
    intro j
    induction j with
    | zero =>
      intro p hp I1 h1 h2
      obtain rfl : p = P := by omega
      refine ⟨I1, z_q16_10 _ _ _ _ ⟨fun _ => rfl, fun h => ?_⟩, h1, h2⟩
      rw [z_fr_t h2 4 (fun _ _ => rfl), e4] at h
      exact absurd ((z_olt (by omega) (by omega)).mp h) (by omega)
    | succ j ih =>
      intro p hp I1 h1 h2
      obtain ⟨m1, m2⟩ := z_mdv (n := n) (w := w p) (al := al) hn (hw9 p (by omega)) hal9
      have e5 : I1 5 0 p = Int32.ofNat (w p) := by rw [z_fr_t h2 5 (fun _ _ => rfl)]; exact ew p (by omega)
      obtain ⟨I2, hI2⟩ : ∃ I2, I2 = z_up (z_up I1 9 0 p (Int32.ofNat (n * w p / al))) 10 0 p (Int32.ofNat (n * w p % al)) := ⟨_, rfl⟩
      obtain ⟨I', c1, c2⟩ := ih (p + 1) (by omega) I2 (fun q hq => by
        by_cases h : q = p
        · subst h
          rw [hI2]
          exact ⟨by rw [z_up_t (by decide), z_up_e], by rw [z_up_e]⟩
        · rw [hI2]
          exact ⟨by rw [z_up_t (by decide), z_up_j h]; exact (h1 q (by omega)).1, by rw [z_up_j h, z_up_t (by decide)]; exact (h1 q (by omega)).2⟩) (by rw [hI2]; exact z_fr_up (z_fr_up h2 rfl) rfl)
      have a0 : ¬ Int32.ofNat al = 0 := fun q => absurd ((z_oeq (b := 0) (by omega) (by decide)).mp q) (by omega)
      refine ⟨I', z_q16_10 _ _ _ _ ⟨fun h => ?_, fun _ => ⟨fun h => ?_, fun _ => ⟨p, rfl, by omega, a0, a0, ?_⟩⟩⟩, c2⟩
      · rw [z_fr_t h2 4 (fun _ _ => rfl), e4] at h
        exact absurd ((z_ole (by omega) (by omega)).mp h) (by omega)
      · exact absurd ((z_ole (b := 0) (by omega) (by decide)).mp h) (by omega)
      · rw [e5, m2, m1, z_up_e, z_oa, z_os, ← hI2]
        exact c1
  obtain ⟨I', c1, c2⟩ := key P 0 (by omega) I (fun q hq => absurd hq (Nat.not_lt_zero q)) z_fr_rf
  exact ⟨I', z_q16_e _ ⟨_, _, _, _, p10, c1⟩, c2⟩
theorem z_p17 {P : Nat} {R : Nat → Int32} (hP1 : 1 ≤ P) (hP : P ≤ 5) (e4 : I 4 0 2 = Int32.ofNat P) (eR : ∀ p, p < P → I 10 0 p = R p) : z_ev d (z_en 17 [z_r 4 0] (true, X, I, J)) (some (z_i (Int32.ofNat (z_bst R P))), (true, X, I, J)) := by
  have key : ∀ j p, p + j = P → 1 ≤ p → z_ev d (17, 4, [some (z_r 4 0), some (z_i (Int32.ofNat (z_bst R p))), some (z_i (Int32.ofNat p))], [], (true, X, I, J)) (some (z_i (Int32.ofNat (z_bst R P))), (true, X, I, J)) := by
    intro j
    induction j with
    | zero =>
      intro p hp hp1
      obtain rfl : p = P := by omega
      refine z_q17_4 _ _ ⟨fun _ => rfl, fun h => ?_⟩
      rw [e4] at h
      exact absurd ((z_olt (by omega) (by omega)).mp h) (by omega)
    | succ j ih =>
      intro p hp hp1
      have hb := z_bst_lt R p hp1
      have e : z_bst R (p + 1) = if p = 0 then 0 else if R (z_bst R p) < R p then p else z_bst R p := rfl
      rw [if_neg (by omega)] at e
      have h9 := ih (p + 1) (by omega) (by omega)
      refine z_q17_4 _ _ ⟨fun h => ?_, fun _ => ⟨p, rfl, by omega, z_bst R p, rfl, by omega, fun h => ?_, fun h => ?_⟩⟩
      · rw [e4] at h
        exact absurd ((z_ole (by omega) (by omega)).mp h) (by omega)
      · rw [eR p (by omega), eR _ (by omega)] at h
        rw [if_neg (Int32.not_lt.mpr h)] at e
        rw [e] at h9
        rw [z_os]; exact h9
      · rw [eR p (by omega), eR _ (by omega)] at h
        rw [if_pos h] at e
        rw [e] at h9
        rw [z_os]; exact h9
  exact z_q17_e (key (P - 1) 1 (by omega) (Nat.le_refl _))
theorem z_dls_s {P : Nat} {w : (Nat → Nat) × (Nat → Int32)} {i b : Nat} (hb : b = z_bst (z_dls P w i).2 P) : (∀ p, (z_dls P w (i + 1)).1 p = if p = b then (z_dls P w i).1 p + 1 else (z_dls P w i).1 p) ∧ ∀ p, (z_dls P w (i + 1)).2 p = if p = b then -1 else (z_dls P w i).2 p := by
  subst hb
  exact ⟨fun p => rfl, fun p => rfl⟩
/-- the class: posts that are left -/
theorem z_l15a {P lf n : Nat} {w : (Nat → Nat) × (Nat → Int32)} (hP1 : 1 ≤ P) (hP : P ≤ 5) (hlf : lf < P) (e4 : I 4 0 2 = Int32.ofNat P) :
    ∀ j i, i + j = lf → ∀ (o4 : Option z_V) I1, (∀ p, p < P → I1 9 0 p = Int32.ofNat ((z_dls P w i).1 p) ∧ I1 10 0 p = (z_dls P w i).2 p) → z_fr z_dq I I1 →
    ∃ I', (∀ r, z_ev (d + 2) (15, 56, [some (z_r 4 0), some (z_i (Int32.ofNat n)), some (z_i (Int32.ofNat lf)), some (z_i 0), some (z_i 0), none], [], (true, X, I', J)) r → z_ev (d + 2) (15, 10, [some (z_r 4 0), some (z_i (Int32.ofNat n)), some (z_i (Int32.ofNat lf)), some (z_i (Int32.ofNat i)), o4, none], [], (true, X, I1, J)) r) ∧ (∀ p, p < P → I' 9 0 p = Int32.ofNat ((z_dls P w lf).1 p)) ∧ z_fr z_dq I I' := by
  intro j
  induction j with
  | zero =>
    intro i hi o4 I1 h1 h2
    obtain rfl : i = lf := by omega
    exact ⟨I1, fun r hr => z_q15_10 _ _ _ o4 ⟨fun _ => hr, fun h => absurd ((z_olt (by omega) (by omega)).mp h) (by omega)⟩, fun p hp => (h1 p hp).1, h2⟩
  | succ j ih =>
    intro i hi o4 I1 h1 h2
    have p17 := z_p17 (d := d + 1) (X := X) (I := I1) (J := J) (R := (z_dls P w i).2) hP1 hP (by rw [z_fr_t h2 4 (fun _ _ => rfl)]; exact e4) (fun p hp => (h1 p hp).2)
    obtain ⟨b, hb⟩ : ∃ b, b = z_bst (z_dls P w i).2 P := ⟨_, rfl⟩
    have hbP : b < P := by rw [hb]; exact z_bst_lt _ P hP1
    rw [← hb] at p17
    obtain ⟨s1, s2⟩ := z_dls_s hb
    obtain ⟨I2, hI2⟩ : ∃ I2, I2 = z_up (z_up I1 9 0 b (I1 9 0 b + 1)) 10 0 b (-1 : Int32) := ⟨_, rfl⟩
    obtain ⟨I', c1, c2, c3⟩ := ih (i + 1) (by omega) (some (z_i (Int32.ofNat b))) I2 (fun p hp => by
      rw [s1 p, s2 p]
      by_cases h : p = b
      · subst h
        rw [if_pos rfl, if_pos rfl, hI2]
        exact ⟨by rw [z_up_t (by decide), z_up_e, (h1 p hp).1, z_os], by rw [z_up_e]⟩
      · rw [if_neg h, if_neg h, hI2]
        exact ⟨by rw [z_up_t (by decide), z_up_j h]; exact (h1 p hp).1, by rw [z_up_j h, z_up_t (by decide)]; exact (h1 p hp).2⟩) (by rw [hI2]; exact z_fr_up (z_fr_up h2 rfl) rfl)
    refine ⟨I', fun r hr => z_q15_10 _ _ _ o4 ⟨fun h => absurd ((z_ole (by omega) (by omega)).mp h) (by omega), fun _ => ⟨fun h => absurd ((z_ole (a := 5) (by decide) (by omega)).mp h) (by omega), fun _ => ⟨_, _, _, _, p17, b, rfl, by omega, ?_⟩⟩⟩, c2, c3⟩
    rw [z_os, ← hI2]
    exact c1 r hr
/-- the class: the part of each post -/
theorem z_l15c {P n lf p : Nat} {D : Nat → Nat} (hP : P ≤ 5) (hp : p < P) (hn : z_sumf D P = n) (hn10 : n ≤ 10) (e9 : I 9 0 p = Int32.ofNat (D p)) :
    ∀ j k, k + j = D p → ∀ I1, (∀ i q, (z_asg D p ++ List.replicate k p)[i]? = some q → I1 8 0 i = Int32.ofNat q) → z_fr z_dq I I1 → I1 9 = I 9 →
    ∃ I', (∀ r, z_ev (d + 2) (15, 56, [some (z_r 4 0), some (z_i (Int32.ofNat n)), some (z_i (Int32.ofNat lf)), some (z_i (Int32.ofNat (z_asg D (p + 1)).length)), some (z_i (Int32.ofNat (p + 1))), some (z_i (Int32.ofNat (D p)))], [], (true, X, I', J)) r → z_ev (d + 2) (15, 68, [some (z_r 4 0), some (z_i (Int32.ofNat n)), some (z_i (Int32.ofNat lf)), some (z_i (Int32.ofNat ((z_asg D p).length + k))), some (z_i (Int32.ofNat p)), some (z_i (Int32.ofNat k))], [], (true, X, I1, J)) r) ∧ (∀ i q, (z_asg D (p + 1))[i]? = some q → I' 8 0 i = Int32.ofNat q) ∧ z_fr z_dq I I' ∧ I' 9 = I 9 := by
  have hl1 : (z_asg D (p + 1)).length = (z_asg D p).length + D p := by
    show (z_asg D p ++ List.replicate (D p) p).length = _
    rw [List.length_append, List.length_replicate]
  have hle : (z_asg D p).length + D p ≤ n := by
    rw [← hl1, z_asg_len, ← hn]
    exact z_sumf_le _ _ (by omega)
  intro j
  induction j with
  | zero =>
    intro k hk I1 h1 h2 h3
    obtain rfl : k = D p := by omega
    refine ⟨I1, fun r hr => z_q15_68 _ _ _ _ _ ⟨p, rfl, by omega, fun _ => ?_, fun h => ?_⟩, h1, h2, h3⟩
    · rw [← hl1, z_os]; exact hr
    · rw [h3, e9] at h
      exact absurd ((z_olt (by omega) (by omega)).mp h) (by omega)
  | succ j ih =>
    intro k hk I1 h1 h2 h3
    obtain ⟨I2, hI2⟩ : ∃ I2, I2 = z_up I1 8 0 ((z_asg D p).length + k) (Int32.ofNat p) := ⟨_, rfl⟩
    obtain ⟨I', c1, c2⟩ := ih (k + 1) (by omega) I2 (fun i q hq => by
      rw [List.replicate_succ', ← List.append_assoc] at hq
      by_cases h : i < (z_asg D p ++ List.replicate k p).length
      · rw [List.getElem?_append_left h] at hq
        rw [List.length_append, List.length_replicate] at h
        rw [hI2, z_up_j (by omega)]
        exact h1 i q hq
      · rw [List.getElem?_append_right (by omega)] at hq
        have hj := (List.getElem?_eq_some_iff.mp hq).1
        rw [List.length_singleton] at hj
        have hi : i = (z_asg D p).length + k := by
          rw [List.length_append, List.length_replicate] at h hj
          omega
        rw [show i - (z_asg D p ++ List.replicate k p).length = 0 by omega] at hq
        obtain rfl : p = q := Option.some.inj hq
        rw [hI2, hi, z_up_e]) (by rw [hI2]; exact z_fr_up h2 rfl) (by rw [hI2, z_up_t (by decide)]; exact h3)
    refine ⟨I', fun r hr => z_q15_68 _ _ _ _ _ ⟨p, rfl, by omega, fun h => ?_, fun _ => ⟨fun h => absurd ((z_ole (a := 10) (by decide) (by omega)).mp h) (by omega), fun _ => ⟨(z_asg D p).length + k, rfl, by omega, ?_⟩⟩⟩, c2⟩
    · rw [h3, e9] at h
      exact absurd ((z_ole (by omega) (by omega)).mp h) (by omega)
    · rw [z_os, z_os, ← hI2]
      exact c1 r hr
theorem z_l15b {P n lf : Nat} {D : Nat → Nat} (hP : P ≤ 5) (hn : z_sumf D P = n) (hn10 : n ≤ 10) (e4 : I 4 0 2 = Int32.ofNat P) (e9 : ∀ p, p < P → I 9 0 p = Int32.ofNat (D p)) :
    ∀ j p, p + j = P → ∀ (o5 : Option z_V) I1, (∀ i q, (z_asg D p)[i]? = some q → I1 8 0 i = Int32.ofNat q) → z_fr z_dq I I1 → I1 9 = I 9 →
    ∃ I', z_ev (d + 2) (15, 56, [some (z_r 4 0), some (z_i (Int32.ofNat n)), some (z_i (Int32.ofNat lf)), some (z_i (Int32.ofNat (z_asg D p).length)), some (z_i (Int32.ofNat p)), o5], [], (true, X, I1, J)) (none, (true, X, I', J)) ∧ (∀ i q, (z_asg D P)[i]? = some q → I' 8 0 i = Int32.ofNat q) ∧ z_fr z_dq I I' := by
  intro j
  induction j with
  | zero =>
    intro p hp o5 I1 h1 h2 h3
    obtain rfl : p = P := by omega
    refine ⟨I1, z_q15_56 _ _ _ _ o5 ⟨fun _ => rfl, fun h => ?_⟩, h1, h2⟩
    rw [z_fr_t h2 4 (fun _ _ => rfl), e4] at h
    exact absurd ((z_olt (by omega) (by omega)).mp h) (by omega)
  | succ j ih =>
    intro p hp o5 I1 h1 h2 h3
    obtain ⟨I2, f1, f2, f3, f4⟩ := z_l15c (d := d) (X := X) (J := J) (I := I) (n := n) (lf := lf) hP (show p < P by omega) hn hn10 (e9 p (by omega)) (D p) 0 (by omega) I1 (by rw [List.replicate_zero, List.append_nil]; exact h1) h2 h3
    obtain ⟨I', c1, c2⟩ := ih (p + 1) (by omega) (some (z_i (Int32.ofNat (D p)))) I2 f2 f3 f4
    refine ⟨I', z_q15_56 _ _ _ _ o5 ⟨fun h => ?_, fun _ => ?_⟩, c2⟩
    · rw [z_fr_t h2 4 (fun _ _ => rfl), e4] at h
      exact absurd ((z_ole (by omega) (by omega)).mp h) (by omega)
    · have h9 := f1 _ c1
      rw [Nat.add_zero] at h9
      exact h9
/-- who has how many, at the end -/
def z_dlt (w : Nat → Nat) (n P : Nat) : Nat → Nat := (z_dls P (fun p => n * w p / z_sumf w P, fun p => Int32.ofNat (n * w p % z_sumf w P)) (n - z_sumf (fun q => n * w q / z_sumf w P) P)).1
theorem z_dlt_sum {w : Nat → Nat} {n P : Nat} (hP : 1 ≤ P) (hw : 1 ≤ z_sumf w P) : z_sumf (z_dlt w n P) P = n := by
  unfold z_dlt
  rw [z_dls_sum hP]
  have h := (z_cut_ok (n := n) hP hw).1
  show z_sumf (fun p => n * w p / z_sumf w P) P + _ = n
  omega
theorem z_p15 {P n : Nat} {w : Nat → Nat} (hP1 : 1 ≤ P) (hP : P ≤ 5) (hn : n ≤ 10) (e4 : I 4 0 2 = Int32.ofNat P) (ew : ∀ p, p < P → I 5 0 p = Int32.ofNat (w p)) (hw9 : ∀ p, p < P → w p ≤ 9) (hal : 1 ≤ z_sumf w P) (hal9 : z_sumf w P ≤ 1000) :
    ∃ I', z_ev (d + 2) (z_en 15 [z_r 4 0, z_i (Int32.ofNat n)] (true, X, I, J)) (none, (true, X, I', J)) ∧ (∀ i q, (z_asg (z_dlt w n P) P)[i]? = some q → I' 8 0 i = Int32.ofNat q) ∧ z_fr z_dq I I' := by
  obtain ⟨I1, a1, a2, a3⟩ := z_p16 (d := d) (X := X) (J := J) hP1 hP hn e4 ew hw9 hal hal9
  obtain ⟨k1, k2⟩ := z_cut_ok (n := n) hP1 hal
  obtain ⟨c, hc⟩ : ∃ c, c = z_sumf (fun q => n * w q / z_sumf w P) P := ⟨_, rfl⟩
  rw [← hc] at a1 k1 k2
  obtain ⟨I2, b1, b2, b3⟩ := z_l15a (d := d) (X := X) (J := J) (I := I1) (P := P) (lf := n - c) (n := n) (w := (fun p => n * w p / z_sumf w P, fun p => Int32.ofNat (n * w p % z_sumf w P))) hP1 hP (by omega) (by rw [z_fr_t a3 4 (fun _ _ => rfl)]; exact e4) (n - c) 0 (by omega) none I1 a2 z_fr_rf
  have hD : (z_dls P (fun p => n * w p / z_sumf w P, fun p => Int32.ofNat (n * w p % z_sumf w P)) (n - c)).1 = z_dlt w n P := by
    unfold z_dlt
    rw [hc]
  rw [hD] at b2
  obtain ⟨I3, d1, d2, d3⟩ := z_l15b (d := d) (X := X) (J := J) (I := I2) (P := P) (n := n) (lf := n - c) (D := z_dlt w n P) hP (z_dlt_sum hP1 hal) hn (by rw [z_fr_t b3 4 (fun _ _ => rfl), z_fr_t a3 4 (fun _ _ => rfl)]; exact e4) b2 P 0 (by omega) none I2 (fun i q hq => by cases hq) z_fr_rf rfl
  refine ⟨I3, z_q15_e _ ⟨_, _, _, _, a1, ?_⟩, d2, z_fr_tr a3 (z_fr_tr b3 d3)⟩
  rw [z_subn k1]
  exact b1 _ d1
end
