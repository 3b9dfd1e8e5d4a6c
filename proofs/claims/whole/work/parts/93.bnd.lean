/-! bounds: heights, the greatest of them -/
def z_hts (f : Nat → Int32) (base : Int32) (i : Nat) : Nat → Int32
  | 0 => base
  | n + 1 => if f (4 * n) = 2 then z_hts f base i n + f (4 * n + 3) * z_gvs 2 (f (4 * n + 1)) (f (4 * n + 2)) i else z_hts f base i n
def z_mx (s : Int32) (H : Nat → Int32) (h : Nat) : Nat → Int32
  | 0 => s
  | i + 1 => if h.testBit i then (if z_mx s H h i < H i then H i else z_mx s H h i) else z_mx s H h i
theorem z_mx_eq {s s' : Int32} {H : Nat → Int32} {h : Nat} (h1 : ∀ i, i < 4 → s < H i ∧ s' < H i) : ∀ n, n ≤ 4 → ((∀ i, i < n → h.testBit i = false) ∧ z_mx s H h n = s ∧ z_mx s' H h n = s') ∨ z_mx s H h n = z_mx s' H h n
  | 0, _ => Or.inl ⟨fun i hi => absurd hi (Nat.not_lt_zero i), rfl, rfl⟩
  | n + 1, hn => by
    have ih := z_mx_eq (h := h) h1 n (by omega)
    have e1 : z_mx s H h (n + 1) = if h.testBit n then (if z_mx s H h n < H n then H n else z_mx s H h n) else z_mx s H h n := rfl
    have e2 : z_mx s' H h (n + 1) = if h.testBit n then (if z_mx s' H h n < H n then H n else z_mx s' H h n) else z_mx s' H h n := rfl
    cases e : h.testBit n with
    | false =>
      rw [e, if_neg (by decide)] at e1 e2
      rw [e1, e2]
      rcases ih with ⟨i1, i2, i3⟩ | i1
      · refine Or.inl ⟨fun i hi => ?_, i2, i3⟩
        by_cases h9 : i = n
        · rw [h9]; exact e
        · exact i1 i (by omega)
      · exact Or.inr i1
    | true =>
      rw [e, if_pos rfl] at e1 e2
      rw [e1, e2]
      rcases ih with ⟨i1, i2, i3⟩ | i1
      · right
        rw [i2, i3, if_pos (h1 n (by omega)).1, if_pos (h1 n (by omega)).2]
      · right
        rw [i1]
theorem z_bse : ∀ k, k < 4 → 2 ≤ k → ∀ j, j < z_fon k → ∀ i, i < 4 → 0 ≤ ((12 : Int32) * z_gv0 (Int32.ofNat k) (z_fm j) i).toInt ∧ ((12 : Int32) * z_gv0 (Int32.ofNat k) (z_fm j) i).toInt ≤ 36 := by decide +kernel
/-- what the relation says of the shares, row by row -/
def z_Sh (f : Nat → Int32) (n : Nat) : Prop := ∀ s, s < n → ∃ c, c < 4 ∧ f (4 * s) = Int32.ofNat c ∧ (∃ v, v ≤ 99 ∧ f (4 * s + 3) = Int32.ofNat v) ∧ z_kv c (f (4 * s + 1)) (f (4 * s + 2))
theorem z_hts_bd {f : Nat → Int32} {base : Int32} {i n9 : Nat} (hS : z_Sh f n9) (hi : i < 4) (hb : 0 ≤ base.toInt ∧ base.toInt ≤ 36) : ∀ n : Nat, n ≤ n9 → n ≤ 6 → ∃ Z : Int, -((n : Int) * 29700) ≤ Z ∧ Z ≤ 36 + (n : Int) * 29700 ∧ z_hts f base i n = Int32.ofInt Z
  | 0, _, _ => ⟨base.toInt, by omega, by omega, (Int32.ofInt_toInt base).symm⟩
  | n + 1, hn, h6 => by
    obtain ⟨Z, z1, z2, z3⟩ := z_hts_bd hS hi hb n (by omega) (by omega)
    obtain ⟨c, c1, c2, ⟨v, v1, v2⟩, c3⟩ := hS n (by omega)
    have e : z_hts f base i (n + 1) = if f (4 * n) = 2 then z_hts f base i n + f (4 * n + 3) * z_gvs 2 (f (4 * n + 1)) (f (4 * n + 2)) i else z_hts f base i n := rfl
    by_cases h2 : f (4 * n) = 2
    · rw [if_pos h2] at e
      have hc : c = 2 := (z_oeq (b := 2) (by omega) (by decide)).mp (c2.symm.trans h2)
      rw [hc] at c3
      obtain ⟨g1, g2⟩ := z_gvs_bd (c := 2) (by decide) c3 hi
      have h1 : (v : Int) * (z_gvs 2 (f (4 * n + 1)) (f (4 * n + 2)) i).toInt ≤ (v : Int) * 300 := Int.mul_le_mul_of_nonneg_left g2 (by omega)
      have h3 : (v : Int) * (-300) ≤ (v : Int) * (z_gvs 2 (f (4 * n + 1)) (f (4 * n + 2)) i).toInt := Int.mul_le_mul_of_nonneg_left g1 (by omega)
      refine ⟨Z + (v : Int) * (z_gvs 2 (f (4 * n + 1)) (f (4 * n + 2)) i).toInt, by omega, by omega, ?_⟩
      rw [e, z3, v2, Int32.ofInt_add, Int32.ofInt_mul, Int32.ofInt_toInt, Int32.ofInt_eq_ofNat]
    · rw [if_neg h2] at e
      exact ⟨Z, by omega, by omega, by rw [e]; exact z3⟩
theorem z_hts_lo {f : Nat → Int32} {base : Int32} {i n9 : Nat} (hS : z_Sh f n9) (hi : i < 4) (hn : n9 ≤ 6) (hb : 0 ≤ base.toInt ∧ base.toInt ≤ 36) : (-2147483648 : Int32) < z_hts f base i n9 ∧ (-1000000 : Int32) < z_hts f base i n9 := by
  obtain ⟨Z, z1, z2, z3⟩ := z_hts_bd hS hi hb n9 (Nat.le_refl _) hn
  rw [z3, Int32.lt_iff_toInt_lt, Int32.lt_iff_toInt_lt, Int32.toInt_ofInt_of_le (by omega) (by omega)]
  have e1 : (-2147483648 : Int32).toInt = -2147483648 := rfl
  have e2 : (-1000000 : Int32).toInt = -1000000 := rfl
  omega
theorem z_up_up {α : Type} {f : Nat → Nat → Nat → α} {t i j : Nat} {v w : α} : z_up (z_up f t i j v) t i j w = z_up f t i j w := by
  funext a b c
  unfold z_up
  by_cases h : a = t ∧ b = i ∧ c = j
  · rw [if_pos h, if_pos h]
  · rw [if_neg h, if_neg h, if_neg h]
/-- bits of the heap of 3 -/
theorem z_bt16 {h i : Nat} (hh : h < 16) (hi : i < 4) : (((Int32.ofNat h >>> (Int32.ofNat i &&& 31)) &&& 1 = 0) ↔ h.testBit i = false) ∧ (((Int32.ofNat h >>> (Int32.ofNat i &&& 31)) &&& 1 = 1) ↔ h.testBit i = true) := by
  rw [z_b01 (show h < 1024 by omega) (show i < 10 by omega)]
  cases h.testBit i <;> decide
section
variable {d : Nat} {X : z_X} {I : Nat → Nat → Nat → Int32} {J : Nat → Nat → Nat → Int64}
theorem z_p152 {k j i k9 : Nat} (hk : k9 ≤ 6) (h5 : I 1 0 5 = Int32.ofNat k9) (hs : ∀ s, s < k9 → ∃ q c, q < X.1 ∧ X.2.2.2 11 0 s = some (32, q) ∧ c < 4 ∧ I 32 q 0 = Int32.ofNat c ∧ I 39 0 (4 * s) = Int32.ofNat c ∧ I 32 q 2 = I 39 0 (4 * s + 1) ∧ I 32 q 3 = I 39 0 (4 * s + 2) ∧ I 12 0 s = I 39 0 (4 * s + 3)) (hi : i < 4) :
    z_ev (d + 2) (z_en 152 [z_r 0 0, z_i (Int32.ofNat k), z_i (z_fm j), z_i (Int32.ofNat i)] (true, X, I, J)) (some (z_i (z_hts (I 39 0) (12 * z_gv0 (Int32.ofNat k) (z_fm j) i) i k9)), (true, X, I, J)) := by
  have key : ∀ j9 u, u + j9 = k9 → z_ev (d + 2) (152, 14, [some (z_r 0 0), some (z_i (Int32.ofNat k)), some (z_i (z_fm j)), some (z_i (Int32.ofNat i)), some (z_i (z_hts (I 39 0) (12 * z_gv0 (Int32.ofNat k) (z_fm j) i) i u)), some (z_i (Int32.ofNat u))], [], (true, X, I, J)) (some (z_i (z_hts (I 39 0) (12 * z_gv0 (Int32.ofNat k) (z_fm j) i) i k9)), (true, X, I, J)) := by
    intro j9
    induction j9 with
    | zero =>
      intro u hu
      obtain rfl : u = k9 := by omega
      refine z_q152_14 _ _ _ _ _ ⟨fun _ => rfl, fun h => ?_⟩
      rw [h5] at h
      exact absurd ((z_olt (by omega) (by omega)).mp h) (by omega)
    | succ j9 ih =>
      intro u hu
      obtain ⟨q, c, t1, t2, t3, t4, t5, t6, t7, t8⟩ := hs u (by omega)
      have h9 := ih (u + 1) (by omega)
      have e : z_hts (I 39 0) (12 * z_gv0 (Int32.ofNat k) (z_fm j) i) i (u + 1) = if I 39 0 (4 * u) = 2 then z_hts (I 39 0) (12 * z_gv0 (Int32.ofNat k) (z_fm j) i) i u + I 39 0 (4 * u + 3) * z_gvs 2 (I 39 0 (4 * u + 1)) (I 39 0 (4 * u + 2)) i else z_hts (I 39 0) (12 * z_gv0 (Int32.ofNat k) (z_fm j) i) i u := rfl
      rw [e] at h9
      refine z_q152_14 _ _ _ _ _ ⟨fun h => ?_, fun _ => ⟨u, rfl, by omega, q, t2, t1, fun h => ?_, fun h => ⟨q, t2, z_gvs 2 (I 39 0 (4 * u + 1)) (I 39 0 (4 * u + 2)) i, X, I, J, ?_, ?_⟩⟩⟩
      · rw [h5] at h
        exact absurd ((z_ole (by omega) (by omega)).mp h) (by omega)
      · rw [if_neg (fun q9 => h (t4.trans (t5.symm.trans q9)))] at h9
        rw [z_os]; exact h9
      · exact z_p148 (c := 2) t1 (by decide) h t6 t7 hi
      · rw [if_pos (t5.trans (t4.symm.trans h))] at h9
        rw [z_os, t8]; exact h9
  exact z_q152_e _ _ _ ⟨_, _, _, _, z_p149 _ _ (by omega), key k9 0 (by omega)⟩
theorem z_p153 {k j k9 hp : Nat} (hk : k9 ≤ 6) (h5 : I 1 0 5 = Int32.ofNat k9) (hs : ∀ s, s < k9 → ∃ q c, q < X.1 ∧ X.2.2.2 11 0 s = some (32, q) ∧ c < 4 ∧ I 32 q 0 = Int32.ofNat c ∧ I 39 0 (4 * s) = Int32.ofNat c ∧ I 32 q 2 = I 39 0 (4 * s + 1) ∧ I 32 q 3 = I 39 0 (4 * s + 2) ∧ I 12 0 s = I 39 0 (4 * s + 3)) (hh : hp < 16) :
    z_ev (d + 3) (z_en 153 [z_r 0 0, z_i (Int32.ofNat k), z_i (z_fm j), z_i (Int32.ofNat hp)] (true, X, I, J)) (some (z_i (z_mx (-2147483648) (fun i => z_hts (I 39 0) (12 * z_gv0 (Int32.ofNat k) (z_fm j) i) i k9) hp 4)), (true, X, I, J)) := by
  have key : ∀ j9 u, u + j9 = 4 → z_ev (d + 3) (153, 8, [some (z_r 0 0), some (z_i (Int32.ofNat k)), some (z_i (z_fm j)), some (z_i (Int32.ofNat hp)), some (z_i (z_mx (-2147483648) (fun i => z_hts (I 39 0) (12 * z_gv0 (Int32.ofNat k) (z_fm j) i) i k9) hp u)), some (z_i (Int32.ofNat u))], [], (true, X, I, J)) (some (z_i (z_mx (-2147483648) (fun i => z_hts (I 39 0) (12 * z_gv0 (Int32.ofNat k) (z_fm j) i) i k9) hp 4)), (true, X, I, J)) := by
    intro j9
    induction j9 with
    | zero =>
      intro u hu
      obtain rfl : u = 4 := by omega
      exact z_q153_8 _ _ _ _ _ ⟨fun _ => rfl, fun h => absurd ((z_olt (b := 4) (by omega) (by decide)).mp h) (by omega)⟩
    | succ j9 ih =>
      intro u hu
      have h9 := ih (u + 1) (by omega)
      obtain ⟨b0, b1⟩ := z_bt16 hh (show u < 4 by omega)
      refine z_q153_8 _ _ _ _ _ ⟨fun h => absurd ((z_ole (a := 4) (by decide) (by omega)).mp h) (by omega), fun _ => ⟨fun h => ?_, fun h => ⟨_, _, _, _, z_p152 hk h5 hs (by omega), ?_⟩⟩⟩
      · have e : z_mx (-2147483648) (fun i => z_hts (I 39 0) (12 * z_gv0 (Int32.ofNat k) (z_fm j) i) i k9) hp (u + 1) = z_mx (-2147483648) (fun i => z_hts (I 39 0) (12 * z_gv0 (Int32.ofNat k) (z_fm j) i) i k9) hp u := by
          show (if hp.testBit u then _ else _) = _
          rw [b0.mp h]; rfl
        rw [e] at h9
        rw [z_os]; exact h9
      · have hb : hp.testBit u = true := by
          cases e9 : hp.testBit u with
          | true => rfl
          | false => exact absurd (b0.mpr e9) h
        have e : z_mx (-2147483648) (fun i => z_hts (I 39 0) (12 * z_gv0 (Int32.ofNat k) (z_fm j) i) i k9) hp (u + 1) = if z_mx (-2147483648) (fun i => z_hts (I 39 0) (12 * z_gv0 (Int32.ofNat k) (z_fm j) i) i k9) hp u < z_hts (I 39 0) (12 * z_gv0 (Int32.ofNat k) (z_fm j) u) u k9 then z_hts (I 39 0) (12 * z_gv0 (Int32.ofNat k) (z_fm j) u) u k9 else z_mx (-2147483648) (fun i => z_hts (I 39 0) (12 * z_gv0 (Int32.ofNat k) (z_fm j) i) i k9) hp u := by
          show (if hp.testBit u then _ else _) = _
          rw [hb]; rfl
        rw [e] at h9
        rw [z_os]; exact h9
  exact z_q153_e _ _ _ (key 4 0 (by omega))
/-! the reference -/
theorem z_p202q (ht : z_Tb I) {k i n code : Nat} (hk1 : 1 ≤ k) (hk : k ≤ 4) (hi : i < 11) (hn : n ≤ 5) (hc : code < 1024) : ∃ I', z_ev (d + 4) (z_en 202 [z_r 33 0, z_i (Int32.ofNat n), z_i (Int32.ofNat code), z_i (Int32.ofNat k), z_i (z_fm i)] (true, X, I, J)) (some (z_i (Int32.ofNat (z_cnf (z_cmn n code) n k i))), (true, X, I', J)) ∧ z_fr z_q47 I I' := by
  obtain ⟨I1, c1, c2, c3⟩ := z_p201 (d := d + 1) (X := X) (I := I) (J := J) hn hc
  have h := z_p194_47 (d := d) (X := X) (J := J) (I := I1) (z_Tb_ag (z_q47_ag c3) rfl ht) (o := 0) (s := n) (by omega) (by omega) (z_cmn_wf hn) (fun b hb => by rw [Nat.zero_add]; exact c2 b (by omega)) hk1 hk hi
  exact ⟨I1, z_q202_e _ _ _ _ ⟨_, _, _, c1, _, _, _, _, h, rfl⟩, c3⟩
theorem z_p233s (ht : z_Tb I) {s i : Nat} {a b : Int32} (hs : s < 6) (e0 : I 39 0 (4 * s) = 2) (e1 : I 39 0 (4 * s + 1) = a) (e2 : I 39 0 (4 * s + 2) = b) (hi : i < 4) : z_ev (d + 5) (z_en 233 [z_r 33 0, z_i (Int32.ofNat s), z_i (Int32.ofNat i)] (true, X, I, J)) (some (z_i (z_gvs 2 a b i)), (true, X, I, J)) := by
  have p1 := z_p229 (d := d + 4) (X := X) (I := I) (J := J) hs (c := 1) (by decide)
  have p2 := z_p229 (d := d + 4) (X := X) (I := I) (J := J) hs (c := 2) (by decide)
  have p0 := z_p229 (d := d + 4) (X := X) (I := I) (J := J) hs (c := 0) (by decide)
  rw [e1] at p1
  rw [e2] at p2
  rw [show I 39 0 (4 * s + 0) = 2 from e0] at p0
  obtain ⟨t1, t2, t3⟩ := ht 3 (by decide) (by decide)
  have e41 : I 41 0 (11 * 3 + i) = z_fm i := t2 i hi
  refine z_q233_e _ _ ⟨_, _, _, _, p1, _, _, _, _, p2, 11 * 3 + i, z_o33 i, by omega, _, _, _, _, p0, fun h => absurd h (by decide), fun _ => ⟨fun _ => ?_, fun h => absurd rfl h⟩⟩
  rw [e41]
  rcases (by omega : i = 0 ∨ i = 1 ∨ i = 2 ∨ i = 3) with rfl | rfl | rfl | rfl
  · exact ⟨fun _ => ⟨fun _ => ⟨fun _ => rfl, fun h => absurd h (by decide)⟩, fun h => absurd h (by decide)⟩, fun h => absurd h (by decide)⟩
  · exact ⟨fun h => absurd (by decide) h, fun _ => ⟨fun _ => ⟨fun _ => rfl, fun h => absurd h (by decide)⟩, fun h => absurd h (by decide)⟩⟩
  · exact ⟨fun h => absurd (by decide) h, fun _ => ⟨fun h => absurd (by decide) h, fun _ => ⟨fun _ => rfl, fun h => absurd h (by decide)⟩⟩⟩
  · exact ⟨fun h => absurd (by decide) h, fun _ => ⟨fun h => absurd (by decide) h, fun _ => ⟨fun h => absurd (by decide) h, fun _ => rfl⟩⟩⟩
theorem z_l237i (ht : z_Tb I) {i k9 : Nat} {base : Int32} {r : Option z_V × z_M} (hk : k9 ≤ 6) (hi : i < 4) (h8 : I 33 0 8 = Int32.ofNat k9) (x1 x2 : Int32)
    (hr : z_ev (d + 6) (237, 57, [some (z_r 33 0), some (z_i x1), some (z_i x2), some (z_i (Int32.ofNat i)), some (z_i (Int32.ofNat k9))], [], (true, X, z_up I 52 0 i (z_hts (I 39 0) base i k9), J)) r) :
    ∀ j u, u + j = k9 → z_ev (d + 6) (237, 57, [some (z_r 33 0), some (z_i x1), some (z_i x2), some (z_i (Int32.ofNat i)), some (z_i (Int32.ofNat u))], [], (true, X, z_up I 52 0 i (z_hts (I 39 0) base i u), J)) r := by
  intro j
  induction j with
  | zero =>
    intro u hu
    obtain rfl : u = k9 := by omega
    exact hr
  | succ j ih =>
    intro u hu
    have h9 := ih (u + 1) (by omega)
    have e : z_hts (I 39 0) base i (u + 1) = if I 39 0 (4 * u) = 2 then z_hts (I 39 0) base i u + I 39 0 (4 * u + 3) * z_gvs 2 (I 39 0 (4 * u + 1)) (I 39 0 (4 * u + 2)) i else z_hts (I 39 0) base i u := rfl
    rw [e] at h9
    have p0 := z_p229 (d := d + 5) (X := X) (I := z_up I 52 0 i (z_hts (I 39 0) base i u)) (J := J) (s := u) (c := 0) (by omega) (by decide)
    have p3 := z_p229 (d := d + 5) (X := X) (I := z_up I 52 0 i (z_hts (I 39 0) base i u)) (J := J) (s := u) (c := 3) (by omega) (by decide)
    rw [show (z_up I 52 0 i (z_hts (I 39 0) base i u)) 39 0 (4 * u + 0) = I 39 0 (4 * u) from rfl] at p0
    rw [show (z_up I 52 0 i (z_hts (I 39 0) base i u)) 39 0 (4 * u + 3) = I 39 0 (4 * u + 3) from rfl] at p3
    refine z_q237_57 _ _ _ _ ⟨fun h => ?_, fun _ => ⟨i, rfl, hi, _, _, _, _, p0, fun h => ?_, fun h => ⟨_, _, _, _, p3, _, _, _, _, z_p233s (a := I 39 0 (4 * u + 1)) (b := I 39 0 (4 * u + 2)) (z_Tb_ag (z_ag_up (cs := [0]) z_ag_rf rfl) rfl ht) (by omega) (by rw [z_up_t (by decide)]; exact h) (by rw [z_up_t (by decide)]) (by rw [z_up_t (by decide)]) hi, ?_⟩⟩⟩
    · rw [z_up_t (by decide), h8] at h
      exact absurd ((z_ole (by omega) (by omega)).mp h) (by omega)
    · rw [if_neg h] at h9
      rw [z_os, z_up_e, Int32.add_zero, z_up_up]
      exact h9
    · rw [if_pos h] at h9
      rw [z_os, z_up_e, z_up_up]
      exact h9
theorem z_p237 (ht : z_Tb I) {k j k9 : Nat} {l : List (Nat × Nat)} {co : Nat → Int32} (hl : z_RoL co (I 33 0 2) (I 36 0) l) (hk1 : 2 ≤ k) (hk3 : k ≤ 3) (hj : j < z_fon k) (hk : k9 ≤ 6) (h8 : I 33 0 8 = Int32.ofNat k9) :
    ∃ I', z_ev (d + 6) (z_en 237 [z_r 33 0, z_i (Int32.ofNat k), z_i (z_fm j)] (true, X, I, J)) (some (z_i (z_c (decide (z_hpp l 3 4 ≠ 0)))), (true, X, I', J)) ∧ I' 33 0 35 = Int32.ofNat (z_hpp l 3 4) ∧ I' 33 0 34 = z_mx (-1000000) (fun i => z_hts (I 39 0) (12 * z_gv0 (Int32.ofNat k) (z_fm j) i) i k9) (z_hpp l 3 4) 4 ∧ (∀ i, i < 4 → I' 52 0 i = z_hts (I 39 0) (12 * z_gv0 (Int32.ofNat k) (z_fm j) i) i k9) ∧ z_ag [0] I I' := by
  obtain ⟨I0, p1, p2⟩ := z_p208 (d := d) (X := X) (I := I) (J := J) ht hl (k := 3) (by decide) (by decide)
  have p1 : z_ev (d + 5) (z_en 208 [z_r 33 0, z_i 3] (true, X, I, J)) (some (z_i (Int32.ofNat (z_hpp l 3 4))), (true, X, I0, J)) := p1
  have h16 : z_hpp l 3 4 < 16 := z_hpp_lt l 3 4
  obtain ⟨hp, hhp⟩ : ∃ hp, hp = z_hpp l 3 4 := ⟨_, rfl⟩
  rw [← hhp] at p1 h16 ⊢
  obtain ⟨H, hH⟩ : ∃ H : Nat → Int32, H = fun i => z_hts (I 39 0) (12 * z_gv0 (Int32.ofNat k) (z_fm j) i) i k9 := ⟨_, rfl⟩
  have hHi : ∀ i, H i = z_hts (I 39 0) (12 * z_gv0 (Int32.ofNat k) (z_fm j) i) i k9 := fun i => by rw [hH]
  rw [← hH]
  have outer : ∀ j9 i, i + j9 = 4 → ∀ (o4 : Option z_V) I1, I1 33 0 35 = Int32.ofNat hp → I1 33 0 34 = z_mx (-1000000) H hp i → (∀ u, u < i → I1 52 0 u = H u) → z_ag [0] I I1 → ∃ I', z_ev (d + 6) (237, 18, [some (z_r 33 0), some (z_i (Int32.ofNat k)), some (z_i (z_fm j)), some (z_i (Int32.ofNat i)), o4], [], (true, X, I1, J)) (some (z_i (z_c (decide (hp ≠ 0)))), (true, X, I', J)) ∧ I' 33 0 35 = Int32.ofNat hp ∧ I' 33 0 34 = z_mx (-1000000) H hp 4 ∧ (∀ i, i < 4 → I' 52 0 i = H i) ∧ z_ag [0] I I' := by
    intro j9
    induction j9 with
    | zero =>
      intro i hi o4 I1 q1 q2 q3 q4
      obtain rfl : i = 4 := by omega
      refine ⟨I1, z_q237_18 _ _ _ o4 ⟨fun _ => ⟨fun h => ?_, fun h => ?_⟩, fun h => absurd ((z_olt (b := 4) (by omega) (by decide)).mp h) (by omega)⟩, q1, q2, q3, q4⟩
      · rw [q1] at h
        have : hp = 0 := (z_oeq (b := 0) (by omega) (by decide)).mp h
        rw [decide_eq_false (fun q => q this)]; rfl
      · rw [q1] at h
        rw [decide_eq_true (show hp ≠ 0 from fun q : hp = 0 => h (by rw [q]; rfl))]; rfl
    | succ j9 ih =>
      intro i hi o4 I1 q1 q2 q3 q4
      have hi4 : i < 4 := by omega
      have ht1 := z_Tb_ag q4 rfl ht
      obtain ⟨-, t2, -⟩ := ht1 3 (by decide) (by decide)
      obtain ⟨f1, f2, f3⟩ := z_fm_tab 3 (by decide) (by decide) i hi4
      have f64 : z_fmn i < 64 := z_c64 (n := 3) (by decide) f2
      obtain ⟨I2, d1, d2⟩ := z_p202q (d := d + 1) (X := X) (I := I1) (J := J) ht1 (n := 3) (show 1 ≤ k by omega) (show k ≤ 4 by omega) (show j < 11 from Nat.lt_of_lt_of_le hj (z_fon_le k (by omega))) (by decide) (show z_fmn i < 1024 by omega)
      rw [← f1] at d1
      obtain ⟨-, g1, g3, -⟩ := z_gv0_tab k (by omega) hk1 j hj i hi4
      have a2 : z_ag [0] I I2 := z_ag_tr q4 (z_q47_ag d2)
      have t39 : I2 39 = I 39 := z_ag_t a2 39 (c := 1) (fun _ _ => rfl) rfl
      obtain ⟨b0, b1⟩ := z_bt16 h16 hi4
      have hHv : z_hts (I2 39 0) (12 * z_gv0 (Int32.ofNat k) (z_fm j) i) i k9 = H i := by rw [hHi, t39]
      have m1 : z_mx (-1000000) H hp (i + 1) = if hp.testBit i then (if z_mx (-1000000) H hp i < H i then H i else z_mx (-1000000) H hp i) else z_mx (-1000000) H hp i := rfl
      obtain ⟨I', c1, c2⟩ := ih (i + 1) (by omega) (some (z_i (Int32.ofNat k9))) (z_up (z_up I2 52 0 i (H i)) 33 0 34 (z_mx (-1000000) H hp (i + 1))) (by rw [z_up_j (by decide), z_up_t (by decide), z_fr_t d2 33 (fun _ _ => rfl)]; exact q1) (by rw [z_up_e]) (fun u hu => by
        rw [z_up_t (by decide)]
        by_cases h : u = i
        · subst h; rw [z_up_e]
        · rw [z_up_j h, z_fr_t d2 52 (fun _ _ => rfl)]; exact q3 u (by omega)) (z_ag_up (z_ag_up a2 rfl) rfl)
      refine ⟨I', z_q237_18 _ _ _ o4 ⟨fun h => absurd ((z_ole (a := 4) (by decide) (by omega)).mp h) (by omega), fun _ => ⟨11 * 3 + i, z_o33 i, by omega, _, _, _, _, by rw [t2 i hi4]; exact d1, _, _, _, _, z_p195 3 (by omega), g3, i, rfl, hi4, ?_⟩⟩, c2⟩
      rw [g1]
      have h8' : I2 33 0 8 = Int32.ofNat k9 := by rw [z_ag_p a2 33 0 8 (c := 1) rfl rfl]; exact h8
      refine z_l237i (d := d) (X := X) (J := J) (I := I2) (base := 12 * z_gv0 (Int32.ofNat k) (z_fm j) i) (z_Tb_ag a2 rfl ht) hk hi4 h8' _ _ ?_ k9 0 (by omega)
      rw [hHv]
      have e35 : (z_up I2 52 0 i (H i)) 33 0 35 = Int32.ofNat hp := by rw [z_up_t (by decide), z_fr_t d2 33 (fun _ _ => rfl)]; exact q1
      have e34 : (z_up I2 52 0 i (H i)) 33 0 34 = z_mx (-1000000) H hp i := by rw [z_up_t (by decide), z_fr_t d2 33 (fun _ _ => rfl)]; exact q2
      have e52 : (z_up I2 52 0 i (H i)) 52 0 i = H i := z_up_e
      refine z_q237_57 _ _ _ _ ⟨fun _ => ⟨fun h => ?_, fun h => ⟨i, rfl, hi4, fun h2 => ?_, fun h2 => ?_⟩⟩, fun h => ?_⟩
      · rw [e35] at h
        have hb : hp.testBit i = false := by
          cases e9 : hp.testBit i with
          | false => rfl
          | true => exact absurd (b1.mpr e9) h
        rw [hb, if_neg (by decide)] at m1
        rw [z_os, e34, ← m1]
        exact c1
      · rw [e35] at h
        rw [e52, e34] at h2
        rw [b1.mp h, if_pos rfl, if_neg (Int32.not_lt.mpr h2)] at m1
        rw [z_os, e34, ← m1]
        exact c1
      · rw [e35] at h
        rw [e52, e34] at h2
        rw [b1.mp h, if_pos rfl, if_pos h2] at m1
        rw [m1] at c1
        rw [z_os, e52]
        exact c1
      · rw [z_up_t (by decide), h8'] at h
        exact absurd ((z_olt (by omega) (by omega)).mp h) (by omega)
  obtain ⟨I', c1, c2⟩ := outer 4 0 (by omega) none (z_up (z_up I0 33 0 35 (Int32.ofNat hp)) 33 0 34 (-1000000)) (by rw [z_up_j (by decide), z_up_e]) (by rw [z_up_e]; rfl) (fun u hu => absurd hu (Nat.not_lt_zero u)) (z_ag_up (z_ag_up (z_q47_ag p2) rfl) rfl)
  exact ⟨I', z_q237_e _ _ ⟨_, _, _, _, p1, c1⟩, c2.1, c2.2.1, fun i hi => (c2.2.2.1 i hi).trans (hHi i), c2.2.2.2⟩
end
