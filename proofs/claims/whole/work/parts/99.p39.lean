/-! read: numbers, ends and posts wanted, the reference -/
def z_t20 (a b c : Nat) : Bool := z_t33 a b c || (Nat.beq a 33 && Nat.beq c 20)
def z_tW (a b c : Nat) : Bool := z_t20 a b c || (Nat.beq a 33 && Nat.beq c 24) || Nat.beq a 45
theorem z_t33_20 {I I' : Nat → Nat → Nat → Int32} (h : z_fr z_t33 I I') : z_fr z_t20 I I' := z_fr_mn h (fun a b c q => by unfold z_t20; rw [q]; rfl)
theorem z_t20_W {I I' : Nat → Nat → Nat → Int32} (h : z_fr z_t20 I I') : z_fr z_tW I I' := z_fr_mn h (fun a b c q => by unfold z_tW; rw [q]; rfl)
theorem z_kk2_W {I I' : Nat → Nat → Nat → Int32} {B : Nat → Int32} {k : Nat} (hf : z_fr z_tW I I') (h : z_kk2 I B k) : z_kk2 I' B k := ⟨by rw [hf 33 0 14 rfl]; exact h.1, fun e he => by rw [hf 43 0 e rfl]; exact h.2 e he⟩
theorem z_kT_20 {B : Nat → Int32} {k e : Nat} {I : Nat → Nat → Nat → Int32} {J : Nat → Nat → Nat → Int64} {v : Int32} (h : z_kT B k e I J) : z_kT B k e (z_up I 33 0 20 v) J := by
  obtain ⟨h1, h2, h3, h4, h5⟩ := h
  exact ⟨by rw [z_up_j (by decide)]; exact h1, by rw [z_up_j (by decide)]; exact h2, by rw [z_up_j (by decide)]; exact h3, by rw [z_up_j (by decide)]; exact h4, h5⟩
section
variable {d : Nat} {X : z_X} {I : Nat → Nat → Nat → Int32} {J : Nat → Nat → Nat → Int64}
theorem z_p178z {lo hi : Int32} (hg : I 33 0 20 = 0) : z_ev (d + 3) (z_en 178 [z_r 33 0, z_i lo, z_i hi] (true, X, I, J)) (some (z_i (I 33 0 19)), (true, X, I, J)) := by
  refine z_q178_e _ _ ⟨fun _ => ⟨fun _ => ?_, fun q => absurd rfl q⟩, fun q => absurd hg q⟩
  rw [z_up_id hg]
theorem z_p178 {B : Nat → Int32} {k e : Nat} {lo hi : Int32} (ht : z_kt B k) (h2 : z_kk2 I B k) (he : e ≤ k) (hT : z_kT B k e I J) (hg : I 33 0 20 = 1) (hlo : 0 ≤ lo) : ∃ I' J', z_ev (d + 3) (z_en 178 [z_r 33 0, z_i lo, z_i hi] (true, X, I, J)) (some (z_i (I 33 0 19)), (true, X, I', J')) ∧ z_fr z_t20 I I' ∧ z_jn J J' ∧ ((z_bw (z_kn B (z_ks B e) (z_ke B k (z_ks B e))) lo hi = true ∧ I 33 0 19 = z_kn B (z_ks B e) (z_ke B k (z_ks B e)) ∧ I' 33 0 20 = 1 ∧ z_kT B k (z_ke B k (z_ks B e)) I' J') ∨ (z_bw (z_kn B (z_ks B e) (z_ke B k (z_ks B e))) lo hi = false ∧ I' 33 0 20 = 0 ∧ I' 33 0 16 = Int32.ofNat (z_ks B e))) := by
  obtain ⟨e16, e17, e15, e19, e18⟩ := hT
  have hen := z_ke_le ht (z_ks_le ht he)
  have hg0 : ¬ I 33 0 20 = 0 := by rw [hg]; decide
  by_cases h9 : z_kso B (z_ks B e) = 2
  · have e19 : I 33 0 19 = z_kn B (z_ks B e) (z_ke B k (z_ks B e)) := by rw [e19]; exact z_kvl_n h9
    have e15 : I 33 0 15 = 2 := by rw [e15]; exact h9
    cases hb : z_bw (z_kn B (z_ks B e) (z_ke B k (z_ks B e))) lo hi with
    | true =>
      obtain ⟨I', J', c1, c2, c3, c4⟩ := z_p176 (d := d) (X := X) (I := I) (J := J) ht h2 hen e17
      refine ⟨I', J', z_q178_e _ _ ⟨fun q => absurd q hg0, fun _ => ⟨fun q => absurd e15 q, fun _ => ⟨fun q => ?_, fun _ => ⟨fun q => absurd q (by decide), fun _ => ⟨_, _, _, by rw [z_up_id hg]; exact c1, rfl⟩⟩⟩⟩⟩, z_t33_20 c3, c4, Or.inl ⟨rfl, e19, by rw [c3 33 0 20 rfl]; exact hg, c2⟩⟩
      rw [e19, hb] at q
      cases q
    | false =>
      refine ⟨z_up I 33 0 20 0, J, z_q178_e _ _ ⟨fun q => absurd q hg0, fun _ => ⟨fun q => absurd e15 q, fun _ => ⟨fun _ => ⟨fun _ => rfl, fun q => absurd rfl q⟩, fun q => ?_⟩⟩⟩, z_fr_up z_fr_rf rfl, z_jn_rf, Or.inr ⟨rfl, z_up_e, by rw [z_up_j (by decide)]; exact e16⟩⟩
      rw [e19, hb] at q
      cases q
  · have eN := z_kn_m (en := z_ke B k (z_ks B e)) h9
    have hb : z_bw (z_kn B (z_ks B e) (z_ke B k (z_ks B e))) lo hi = false := by
      rw [eN, z_bw_f]
      left
      rw [Int32.le_iff_toInt_le] at hlo
      rw [Int32.lt_iff_toInt_lt]
      have hlo : (0 : Int) ≤ lo.toInt := hlo
      show (-1 : Int) < lo.toInt
      omega
    exact ⟨z_up I 33 0 20 0, J, z_q178_e _ _ ⟨fun q => absurd q hg0, fun _ => ⟨fun _ => ⟨fun _ => rfl, fun q => absurd rfl q⟩, fun q => absurd (e15.symm.trans q) h9⟩⟩, z_fr_up z_fr_rf rfl, z_jn_rf, Or.inr ⟨hb, z_up_e, by rw [z_up_j (by decide)]; exact e16⟩⟩
theorem z_p179z (hg : I 33 0 20 = 0) : z_ev (d + 3) (z_en 179 [z_r 33 0] (true, X, I, J)) (none, (true, X, I, J)) := by
  refine z_q179_e ⟨fun _ => ⟨fun _ => ?_, fun q => absurd rfl q⟩, fun q => absurd hg q⟩
  rw [z_up_id hg]
theorem z_p179 {B : Nat → Int32} {k e : Nat} (ht : z_kt B k) (h2 : z_kk2 I B k) (he : e ≤ k) (hT : z_kT B k e I J) (hg : I 33 0 20 = 1) : ∃ I' J', z_ev (d + 3) (z_en 179 [z_r 33 0] (true, X, I, J)) (none, (true, X, I', J')) ∧ z_fr z_t20 I I' ∧ z_jn J J' ∧ ((B (z_ks B e) = 59 ∧ I' 33 0 20 = 1 ∧ z_kT B k (z_ke B k (z_ks B e)) I' J') ∨ (¬ B (z_ks B e) = 59 ∧ I' 33 0 20 = 0 ∧ I' 33 0 16 = Int32.ofNat (z_ks B e))) := by
  obtain ⟨e16, e17, e15, e19, e18⟩ := hT
  have hen := z_ke_le ht (z_ks_le ht he)
  have hg0 : ¬ I 33 0 20 = 0 := by rw [hg]; decide
  have h59 := z_ks59 (B := B) (s := z_ks B e) (en := z_ke B k (z_ks B e))
  rw [← e15, ← e19] at h59
  by_cases h9 : B (z_ks B e) = 59
  · obtain ⟨q1, q2⟩ := h59.mpr h9
    obtain ⟨I', J', c1, c2, c3, c4⟩ := z_p176 (d := d) (X := X) (I := I) (J := J) ht h2 hen e17
    exact ⟨I', J', z_q179_e ⟨fun q => absurd q hg0, fun _ => ⟨fun q => absurd q1 q, fun _ => ⟨fun q => absurd q2 q, fun _ => ⟨fun q => absurd q (by decide), fun _ => ⟨_, _, _, by rw [z_up_id hg]; exact c1, rfl⟩⟩⟩⟩⟩, z_t33_20 c3, c4, Or.inl ⟨h9, by rw [c3 33 0 20 rfl]; exact hg, c2⟩⟩
  · refine ⟨z_up I 33 0 20 0, J, z_q179_e ⟨fun q => absurd q hg0, fun _ => ⟨fun _ => ⟨fun _ => rfl, fun q => absurd rfl q⟩, fun q1 => ⟨fun _ => ⟨fun _ => rfl, fun q => absurd rfl q⟩, fun q2 => absurd (h59.mp ⟨q1, q2⟩) h9⟩⟩⟩, z_fr_up z_fr_rf rfl, z_jn_rf, Or.inr ⟨h9, z_up_e, by rw [z_up_j (by decide)]; exact e16⟩⟩
/-- the reference: a post wanted -/
theorem z_p181 {B : Nat → Int32} {k e n c : Nat} {g : Nat → Nat} (ht : z_kt B k) (h2 : z_kk2 I B k) (he : e ≤ k) (hT : z_kT B k e I J) (hg : I 33 0 20 = 1) (hn1 : 1 ≤ n) (hn : n ≤ 10) (e21 : I 33 0 21 = Int32.ofNat n) (hc : c ≤ 10) (e24 : I 33 0 24 = Int32.ofNat c) (e45 : ∀ i, i < c → I 45 0 i = Int32.ofNat (g i) ∧ g i < n) (hgi : ∀ i j, i < c → j < c → g i = g j → i = j) : ∃ I' J', z_ev (d + 4) (z_en 181 [z_r 33 0] (true, X, I, J)) (none, (true, X, I', J')) ∧ z_fr z_tW I I' ∧ z_jn J J' ∧ (((0 ≤ z_kn B (z_ks B e) (z_ke B k (z_ks B e)) ∧ z_kn B (z_ks B e) (z_ke B k (z_ks B e)) < Int32.ofNat n ∧ (z_um g c).testBit (z_kn B (z_ks B e) (z_ke B k (z_ks B e))).toNatClampNeg = false) ∧ c < 10 ∧ I' 33 0 20 = 1 ∧ z_kT B k (z_ke B k (z_ks B e)) I' J' ∧ I' 33 0 24 = Int32.ofNat (c + 1) ∧ ∀ i, i < c + 1 → I' 45 0 i = Int32.ofNat (z_upd g c (z_kn B (z_ks B e) (z_ke B k (z_ks B e))).toNatClampNeg i) ∧ z_upd g c (z_kn B (z_ks B e) (z_ke B k (z_ks B e))).toNatClampNeg i < n) ∨ ((¬ (0 ≤ z_kn B (z_ks B e) (z_ke B k (z_ks B e)) ∧ z_kn B (z_ks B e) (z_ke B k (z_ks B e)) < Int32.ofNat n ∧ (z_um g c).testBit (z_kn B (z_ks B e) (z_ke B k (z_ks B e))).toNatClampNeg = false)) ∧ I' 33 0 20 = 0 ∧ I' 33 0 16 = Int32.ofNat (z_ks B e))) := by
  have hg0 : ¬ I 33 0 20 = 0 := by rw [hg]; decide
  have hT0 := hT
  obtain ⟨e16, e17, e15, e19, e18⟩ := hT
  have e21' : I 33 0 21 - (1 : Int32) = Int32.ofNat (n - 1) := by rw [e21]; exact z_subn hn1
  have skip : ∀ j u, u + j = c → ∀ r, z_ev (d + 4) (181, 4, [some (z_r 33 0), some (z_i 1), some (z_i (Int32.ofNat c))], [], (true, X, I, J)) r → z_ev (d + 4) (181, 4, [some (z_r 33 0), some (z_i 1), some (z_i (Int32.ofNat u))], [], (true, X, I, J)) r := by
    intro j
    induction j with
    | zero =>
      intro u hu r hr
      obtain rfl : u = c := by omega
      exact hr
    | succ j ih =>
      intro u hu r hr
      refine z_q181_4 _ _ ⟨fun q => ?_, fun _ => ⟨fun _ => ?_, fun q => absurd q (by decide)⟩⟩
      · rw [e24] at q
        exact absurd ((z_ole (by omega) (by omega)).mp q) (by omega)
      · rw [z_os]
        exact ih (u + 1) (by omega) r hr
  have walk : ∀ j u, u + j = c → ∀ r, ((∃ i, u ≤ i ∧ i < c ∧ I 45 0 i = I 33 0 19) → z_ev (d + 4) (181, 4, [some (z_r 33 0), some (z_i 1), some (z_i (Int32.ofNat c))], [], (true, X, I, J)) r) → ((¬ ∃ i, u ≤ i ∧ i < c ∧ I 45 0 i = I 33 0 19) → z_ev (d + 4) (181, 4, [some (z_r 33 0), some (z_i 0), some (z_i (Int32.ofNat c))], [], (true, X, I, J)) r) → z_ev (d + 4) (181, 4, [some (z_r 33 0), some (z_i 0), some (z_i (Int32.ofNat u))], [], (true, X, I, J)) r := by
    intro j
    induction j with
    | zero =>
      intro u hu r h1 h2
      obtain rfl : u = c := by omega
      exact h2 (fun ⟨i, a1, a2, _⟩ => absurd a1 (by omega))
    | succ j ih =>
      intro u hu r h1 h2
      refine z_q181_4 _ _ ⟨fun q => ?_, fun _ => ⟨fun q => absurd rfl q, fun _ => ⟨u, rfl, by omega, fun q => ?_, fun q => ?_⟩⟩⟩
      · rw [e24] at q
        exact absurd ((z_ole (by omega) (by omega)).mp q) (by omega)
      · rw [z_os]
        exact ih (u + 1) (by omega) r (fun ⟨i, a1, a2, a3⟩ => h1 ⟨i, by omega, a2, a3⟩) (fun q9 => h2 (fun ⟨i, a1, a2, a3⟩ => by
          by_cases e9 : i = u
          · rw [e9] at a3; exact q a3
          · exact q9 ⟨i, by omega, a2, a3⟩))
      · rw [z_os]
        exact skip j (u + 1) (by omega) r (h1 ⟨u, Nat.le_refl u, by omega, q⟩)
  have hle : ¬ Int32.ofNat c < I 33 0 24 := by rw [e24]; exact fun q => absurd ((z_olt (by omega) (by omega)).mp q) (by omega)
  obtain ⟨N, hN⟩ : ∃ N, N = z_kn B (z_ks B e) (z_ke B k (z_ks B e)) := ⟨_, rfl⟩
  by_cases h9 : z_kso B (z_ks B e) = 2
  · have e19' : I 33 0 19 = N := by rw [e19, hN]; exact z_kvl_n h9
    have e15' : I 33 0 15 = 2 := by rw [e15]; exact h9
    by_cases hag : ∃ i, 0 ≤ i ∧ i < c ∧ I 45 0 i = I 33 0 19
    · have hz : (z_up I 33 0 20 (0 : Int32)) 33 0 20 = 0 := z_up_e
      have p := z_p178z (d := d) (X := X) (J := J) (lo := 0) (hi := I 33 0 21 - (1 : Int32)) hz
      refine ⟨z_up I 33 0 20 0, J, z_q181_e (walk c 0 (by omega) _ (fun _ => z_q181_4 _ _ ⟨fun _ => ⟨fun q => absurd q hg0, fun _ => ⟨fun q => absurd e15' q, fun _ => ⟨fun _ => ⟨_, _, _, _, p, fun _ => rfl, fun q => absurd hz q⟩, fun q => absurd q (by decide)⟩⟩⟩, fun q => absurd q hle⟩) (fun q => absurd hag q)), z_t20_W (z_fr_up z_fr_rf rfl), z_jn_rf, Or.inr ⟨?_, hz, by rw [z_up_j (by decide)]; exact e16⟩⟩
      rw [← hN]
      intro ⟨a1, a2, a3⟩
      obtain ⟨i, -, i2, i3⟩ := hag
      obtain ⟨v, hv, rfl⟩ := z_nat a1 a2 (by omega)
      rw [e19', (e45 i i2).1] at i3
      have i4 := (z_oeq (by have := (e45 i i2).2; omega) (by omega)).mp i3
      rw [z_cl_nat (n := 10) (by omega) (by decide), (z_um_tb g v c).mpr ⟨i, i2, i4⟩] at a3
      cases a3
    · obtain ⟨I', J', c1, c2, c3, c4⟩ := z_p178 (d := d) (X := X) (lo := 0) (hi := I 33 0 21 - (1 : Int32)) ht h2 he hT0 hg (Int32.le_refl 0)
      rw [← hN] at c4 ⊢
      rcases c4 with ⟨b1, b2, b3, b4⟩ | ⟨b1, b3, b4⟩
      · obtain ⟨a1, a2⟩ := z_bw_t.mp b1
        rw [e21'] at a2
        obtain ⟨v, hv, rfl⟩ := z_nat' a1 a2 (by omega)
        have ecl : (Int32.ofNat v).toNatClampNeg = v := z_cl_nat (n := 10) (by omega) (by decide)
        have hne : ∀ i, i < c → g i ≠ v := fun i hi q => hag ⟨i, Nat.zero_le i, hi, by rw [(e45 i hi).1, e19', q]⟩
        have hc10 : c < 10 := by
          have := z_pig n (c + 1) (z_upd g c v) (fun i hi => by
            by_cases q : i = c
            · rw [q, z_upd_e]; omega
            · rw [z_upd_n q]; exact (e45 i (by omega)).2) (z_upd_in hgi hne)
          omega
        have hbit : (z_um g c).testBit v = false := by
          rw [← Bool.not_eq_true, z_um_tb]
          exact fun ⟨i, i1, i2⟩ => hne i i1 i2
        have hg1 : ¬ I' 33 0 20 = 0 := by rw [b3]; decide
        have f24 : I' 33 0 24 = Int32.ofNat c := by rw [c2 33 0 24 rfl]; exact e24
        rw [ecl]
        have fin : z_ev (d + 4) (181, 4, [some (z_r 33 0), some (z_i 0), some (z_i (Int32.ofNat c))], [], (true, X, I, J)) (none, (true, X, z_up (z_up I' 45 0 c (I 33 0 19)) 33 0 24 (I' 33 0 24 + (1 : Int32)), J')) := z_q181_4 _ _ ⟨fun _ => ⟨fun q => absurd q hg0, fun _ => ⟨fun q => absurd e15' q, fun _ => ⟨fun q => absurd rfl q, fun _ => ⟨_, _, _, _, by rw [z_up_id hg]; exact c1, fun q => absurd q hg1, fun _ => ⟨c, f24, hc10, rfl⟩⟩⟩⟩⟩, fun q => absurd q hle⟩
        refine ⟨_, J', z_q181_e (walk c 0 (by omega) _ (fun q => absurd q hag) (fun _ => fin)), z_fr_up (z_fr_up (z_t20_W c2) rfl) rfl, c3, Or.inl ⟨⟨a1, (z_olt (by omega) (by omega)).mpr (by omega), hbit⟩, hc10, by rw [z_up_j (by decide), z_up_t (by decide)]; exact b3, ?_, by rw [z_up_e, f24, z_os], fun i hi => ?_⟩⟩
        · obtain ⟨t1, t2, t3, t4, t5⟩ := b4
          exact ⟨by rw [z_up_j (by decide), z_up_t (by decide)]; exact t1, by rw [z_up_j (by decide), z_up_t (by decide)]; exact t2, by rw [z_up_j (by decide), z_up_t (by decide)]; exact t3, by rw [z_up_j (by decide), z_up_t (by decide)]; exact t4, t5⟩
        · rw [z_up_t (by decide), z_up_at]
          by_cases q : i = c
          · rw [if_pos q, q, z_upd_e]
            exact ⟨e19', by omega⟩
          · rw [if_neg q, z_upd_n q, c2 45 0 i rfl]
            exact e45 i (by omega)
      · have fin : z_ev (d + 4) (181, 4, [some (z_r 33 0), some (z_i 0), some (z_i (Int32.ofNat c))], [], (true, X, I, J)) (none, (true, X, I', J')) := z_q181_4 _ _ ⟨fun _ => ⟨fun q => absurd q hg0, fun _ => ⟨fun q => absurd e15' q, fun _ => ⟨fun q => absurd rfl q, fun _ => ⟨_, _, _, _, by rw [z_up_id hg]; exact c1, fun _ => rfl, fun q => absurd b3 q⟩⟩⟩⟩, fun q => absurd q hle⟩
        refine ⟨I', J', z_q181_e (walk c 0 (by omega) _ (fun q => absurd q hag) (fun _ => fin)), z_t20_W c2, c3, Or.inr ⟨?_, b3, b4⟩⟩
        intro ⟨a1, a2, a3⟩
        obtain ⟨v, hv, rfl⟩ := z_nat a1 a2 (by omega)
        have : z_bw (Int32.ofNat v) 0 (I 33 0 21 - (1 : Int32)) = true := z_bw_t.mpr ⟨a1, by rw [e21']; exact (z_ole (by omega) (by omega)).mpr (by omega)⟩
        rw [this] at b1
        cases b1
  · obtain ⟨I', J', c1, c2, c3, c4⟩ := z_p178 (d := d) (X := X) (lo := 0) (hi := I 33 0 21 - (1 : Int32)) ht h2 he hT0 hg (Int32.le_refl 0)
    have eN := z_kn_m (en := z_ke B k (z_ks B e)) h9
    have e15' : ¬ I 33 0 15 = 2 := by rw [e15]; exact h9
    rcases c4 with ⟨b1, _⟩ | ⟨b1, b3, b4⟩
    · rw [eN] at b1
      exact absurd (z_bw_t.mp b1).1 (by decide)
    · have fin : ∀ x1, z_ev (d + 4) (181, 4, [some (z_r 33 0), some (z_i x1), some (z_i (Int32.ofNat c))], [], (true, X, I, J)) (none, (true, X, I', J')) := fun x1 => z_q181_4 _ _ ⟨fun _ => ⟨fun q => absurd q hg0, fun _ => ⟨fun _ => ⟨_, _, _, _, by rw [z_up_id hg]; exact c1, fun _ => rfl, fun q => absurd b3 q⟩, fun q => absurd q e15'⟩⟩, fun q => absurd q hle⟩
      exact ⟨I', J', z_q181_e (walk c 0 (by omega) _ (fun _ => fin 1) (fun _ => fin 0)), z_t20_W c2, c3, Or.inr ⟨fun ⟨a1, _⟩ => absurd (by rw [eN] at a1; exact a1) (by decide), b3, b4⟩⟩
end
