/-! read: words and numbers, the reference -/
def z_hs (g : Nat → Nat) : Nat → Nat
  | 0 => 0
  | c + 1 => 27 * z_hs g c + g c
theorem z_hs_inj {g t : Nat → Nat} : ∀ c T, (∀ i, i < c → 1 ≤ g i ∧ g i ≤ 26) → (∀ i, i < T → 1 ≤ t i ∧ t i ≤ 26) → (z_hs g c = z_hs t T ↔ c = T ∧ ∀ i, i < c → g i = t i)
  | 0, 0, _, _ => ⟨fun _ => ⟨rfl, fun i hi => absurd hi (Nat.not_lt_zero i)⟩, fun _ => rfl⟩
  | 0, T + 1, _, h2 => ⟨fun h => by
      have h : 0 = 27 * z_hs t T + t T := h
      have := h2 T (by omega)
      omega, fun h => absurd h.1 (by omega)⟩
  | c + 1, 0, h1, _ => ⟨fun h => by
      have h : 27 * z_hs g c + g c = 0 := h
      have := h1 c (by omega)
      omega, fun h => absurd h.1 (by omega)⟩
  | c + 1, T + 1, h1, h2 => by
    have ih := z_hs_inj c T (fun i hi => h1 i (by omega)) (fun i hi => h2 i (by omega))
    have a1 := h1 c (by omega)
    have a2 := h2 T (by omega)
    constructor
    · intro h
      have h : 27 * z_hs g c + g c = 27 * z_hs t T + t T := h
      obtain ⟨e1, e2⟩ := ih.mp (by omega)
      subst e1
      refine ⟨rfl, fun i hi => ?_⟩
      by_cases q : i = c
      · subst q; omega
      · exact e2 i (by omega)
    · intro ⟨e1, e2⟩
      obtain rfl : c = T := by omega
      show 27 * z_hs g c + g c = 27 * z_hs t c + t c
      rw [ih.mpr ⟨rfl, fun i hi => e2 i (by omega)⟩, e2 c (by omega)]
theorem z_hs_lt {g : Nat → Nat} : ∀ c, (∀ i, i < c → g i ≤ 26) → z_hs g c < 27 ^ c
  | 0, _ => (by decide : 0 < 1)
  | c + 1, h => by
    have h1 := z_hs_lt c (fun i hi => h i (by omega))
    have h2 := h c (by omega)
    show 27 * z_hs g c + g c < 27 ^ c * 27
    omega
def z_ww (w1 : Nat) : Nat := ([8812711, 1065, 361240, 365260] : List Nat).getD w1 0
theorem z_ww_t : ∀ w1, w1 < 4 → z_hs (fun i => (z_nl w1).getD i 0 - 96) (z_nl w1).length = z_ww w1 ∧ (∀ i, i < (z_nl w1).length → 97 ≤ (z_nl w1).getD i 0 ∧ (z_nl w1).getD i 0 ≤ 122) ∧ 1 ≤ (z_nl w1).length ∧ (z_nl w1).length ≤ 5 ∧ z_ww w1 < 2 ^ 60 := by decide +kernel
theorem z_kwd_n {B : Nat → Int32} {s : Nat} {g : Nat → Nat} : ∀ c, c ≤ 8 → (∀ i, i < c → B (s + i) = Int32.ofNat (g i) ∧ 97 ≤ g i ∧ g i ≤ 122) → z_kwd B s c = Int64.ofNat (z_hs (fun i => g i - 96) c)
  | 0, _, _ => rfl
  | c + 1, hc, h => by
    obtain ⟨e1, e2, e3⟩ := h c (by omega)
    show (if c < 8 then 27 * z_kwd B s c + (B (s + c)).toInt64 - 96 else -1) = Int64.ofNat (27 * z_hs (fun i => g i - 96) c + (g c - 96))
    rw [if_pos (by omega), z_kwd_n c (by omega) (fun i hi => h i (by omega)), e1, z_i64 (by omega)]
    rw [show 27 * z_hs (fun i => g i - 96) c + (g c - 96) = 27 * z_hs (fun i => g i - 96) c + g c - 96 by omega, Int64.ofNat_sub _ _ (by omega), Int64.ofNat_add, Int64.ofNat_mul]
    rfl
theorem z_kwd_m {B : Nat → Int32} {s c : Nat} (h : 8 < c) : z_kwd B s c = -1 := by
  obtain ⟨c', rfl⟩ : ∃ c', c = c' + 1 := ⟨c - 1, by omega⟩
  show (if c' < 8 then 27 * z_kwd B s c' + (B (s + c')).toInt64 - 96 else -1) = -1
  rw [if_neg (by omega)]
theorem z_jinj {a b : Nat} (ha : a < 2 ^ 63) (hb : b < 2 ^ 63) : Int64.ofNat a = Int64.ofNat b ↔ a = b := by
  constructor
  · intro h
    have h1 := congrArg Int64.toInt h
    rw [Int64.toInt_ofNat_of_lt ha, Int64.toInt_ofNat_of_lt hb] at h1
    omega
  · intro h
    rw [h]
theorem z_let {x : Int32} (h : z_bw x 97 122 = true) : ∃ v, x = Int32.ofNat v ∧ 97 ≤ v ∧ v ≤ 122 := by
  obtain ⟨h1, h2⟩ := z_bw_t.mp h
  obtain ⟨v, hv, rfl⟩ := z_nat' (n := 122) (Int32.le_trans (by decide) h1) h2 (by decide)
  exact ⟨v, rfl, (z_ole (a := 97) (by decide) (by omega)).mp h1, hv⟩
/-- a word is told by its number -/
theorem z_kwo_w {B : Nat → Int32} {k s w1 : Nat} (ht : z_kt B k) (hw : w1 < 4) : (z_kso B s = 1 ∧ z_kwo B s (z_ke B k s) = Int64.ofNat (z_ww w1)) ↔ z_km B s (z_ke B k s) w1 = true := by
  obtain ⟨t1, t2, t3, t4, t5⟩ := z_ww_t w1 hw
  rw [z_km_t]
  have hge := z_ke_ge B k s
  by_cases hL : z_bw (B s) 97 122 = true
  · have eso := z_kso_1 hL
    have hsk : s < k := by
      rcases z_b0n (s := s) ht with h | ⟨_, h⟩
      · exact h.1
      · rw [h] at hL; exact absurd hL (by decide)
    have hgt := z_ke_gt (B := B) hsk
    have hlet : ∀ i, i < z_ke B k s - s → ∃ v, B (s + i) = Int32.ofNat v ∧ 97 ≤ v ∧ v ≤ 122 := fun i hi => by
      by_cases q : i = 0
      · rw [q]; exact z_let hL
      · have h1 : z_ko B s (s + i) = true := by
          refine z_kg_is (P := z_ko B s) 160 (s + 1) (s + i) (by omega) ?_
          have : z_ke B k s = z_kg (z_ko B s) 160 (s + 1) := by unfold z_ke; rw [if_pos hsk]
          omega
        have hd2 : z_bw (B s) 48 57 = false := by
          rw [← Bool.not_eq_true]
          exact fun q => by rw [z_bw_ld q] at hL; cases hL
        unfold z_ko at h1
        rw [hd2, hL, Bool.false_and, Bool.or_false, Bool.true_and] at h1
        exact z_let h1
    have hlet2 : ∀ i, ∃ v, i < z_ke B k s - s → B (s + i) = Int32.ofNat v ∧ 97 ≤ v ∧ v ≤ 122 := fun i => by
      by_cases q : i < z_ke B k s - s
      · obtain ⟨v, h⟩ := hlet i q
        exact ⟨v, fun _ => h⟩
      · exact ⟨0, fun h => absurd h q⟩
    obtain ⟨g, hg⟩ : ∃ g : Nat → Nat, ∀ i, i < z_ke B k s - s → B (s + i) = Int32.ofNat (g i) ∧ 97 ≤ g i ∧ g i ≤ 122 := ⟨fun i => Classical.choose (hlet2 i), fun i => Classical.choose_spec (hlet2 i)⟩
    have ewo : z_kwo B s (z_ke B k s) = z_kwd B s (z_ke B k s - s) := by unfold z_kwo; rw [if_pos eso]
    rw [ewo]
    by_cases h8 : z_ke B k s - s ≤ 8
    · rw [z_kwd_n _ h8 hg]
      have hlt := z_hs_lt (g := fun i => g i - 96) (z_ke B k s - s) (fun i hi => by have := hg i hi; show g i - 96 ≤ 26; omega)
      have hlt2 : (27 : Nat) ^ (z_ke B k s - s) ≤ 27 ^ 8 := Nat.pow_le_pow_right (by decide) h8
      have hlt3 : (27 : Nat) ^ 8 < 2 ^ 63 := by decide
      rw [z_jinj (by omega) (by omega), ← t1, z_hs_inj _ _ (fun i hi => by have := hg i hi; show 1 ≤ g i - 96 ∧ g i - 96 ≤ 26; omega) (fun i hi => by have := t2 i hi; show 1 ≤ (z_nl w1).getD i 0 - 96 ∧ (z_nl w1).getD i 0 - 96 ≤ 26; omega)]
      constructor
      · intro ⟨_, e1, e2⟩
        refine ⟨e1, fun i hi => ?_⟩
        have a1 := hg i (by omega)
        have a2 := t2 i hi
        have a3 : g i - 96 = (z_nl w1).getD i 0 - 96 := e2 i (by omega)
        rw [a1.1, show g i = (z_nl w1).getD i 0 by omega]
      · intro ⟨e1, e2⟩
        refine ⟨eso, e1, fun i hi => ?_⟩
        have a1 := hg i hi
        have a2 := t2 i (by omega)
        have a3 := e2 i (by omega)
        rw [a1.1] at a3
        have a4 := (z_oeq (by omega) (by omega)).mp a3
        show g i - 96 = (z_nl w1).getD i 0 - 96
        rw [a4]
    · rw [z_kwd_m (by omega)]
      constructor
      · intro ⟨_, e1⟩
        have h1 := congrArg Int64.toInt e1
        rw [Int64.toInt_ofNat_of_lt (by omega)] at h1
        have h1 : (-1 : Int) = (z_ww w1 : Int) := h1
        omega
      · intro ⟨e1, _⟩
        omega
  · constructor
    · intro ⟨e1, _⟩
      exfalso
      unfold z_kso at e1
      split at e1
      · exact absurd e1 (by decide)
      · split at e1
        · exact absurd e1 (by decide)
        · exact absurd e1 (by decide)
    · intro ⟨e1, e2⟩
      exfalso
      have a1 := e2 0 (by omega)
      have a2 := t2 0 (by omega)
      rw [Nat.add_zero] at a1
      apply hL
      rw [a1]
      exact z_bw_t.mpr ⟨(z_ole (a := 97) (by decide) (by omega)).mpr a2.1, (z_ole (b := 122) (by omega) (by decide)).mpr a2.2⟩
/-- a number at hand -/
theorem z_kvl_n {B : Nat → Int32} {s en : Nat} (h : z_kso B s = 2) : z_kvl B s en = z_kn B s en := by
  have hD : z_bw (B s) 48 57 = true := by
    unfold z_kso at h
    split at h
    · exact absurd h (by decide)
    · split at h
      · exact absurd h (by decide)
      · split at h
        · assumption
        · exact absurd h (by decide)
  unfold z_kvl z_kn z_knc
  rw [if_pos h]
  by_cases q : en - s ≤ 2
  · rw [if_pos q, if_pos ⟨hD, q⟩]
  · rw [if_neg q, if_neg (fun q9 => q q9.2)]
theorem z_kn_m {B : Nat → Int32} {s en : Nat} (h : ¬ z_kso B s = 2) : z_kn B s en = -1 := by
  unfold z_kn
  rw [if_neg (fun q => h (z_kso_2 q.1))]
theorem z_ks59 {B : Nat → Int32} {s en : Nat} : (z_kso B s = 3 ∧ z_kvl B s en = 59) ↔ B s = 59 := by
  constructor
  · intro ⟨h1, h2⟩
    unfold z_kvl at h2
    rw [h1] at h2
    exact h2
  · intro h
    have e : z_kso B s = 3 := by unfold z_kso; rw [h]; rfl
    refine ⟨e, ?_⟩
    unfold z_kvl
    rw [e]
    exact h
section
variable {d : Nat} {X : z_X} {I : Nat → Nat → Nat → Int32} {J : Nat → Nat → Nat → Int64}
theorem z_p177 {B : Nat → Int32} {k e w1 : Nat} (ht : z_kt B k) (hw : w1 < 4) (hT : z_kT B k e I J) : z_ev d (z_en 177 [z_r 33 0, z_j (Int64.ofNat (z_ww w1))] (true, X, I, J)) (some (z_i (z_c (z_km B (z_ks B e) (z_ke B k (z_ks B e)) w1))), (true, X, I, J)) := by
  obtain ⟨-, -, e15, -, e18⟩ := hT
  have hk := z_kwo_w (s := z_ks B e) ht hw
  rw [← e15, ← e18] at hk
  refine z_q177_e _ ⟨fun q => z_b0 ?_, fun q => ⟨fun q2 => z_b0 ?_, fun q2 => z_b1 ?_⟩⟩
  · rw [← Bool.not_eq_true, ← hk]
    exact fun h => q h.1
  · rw [← Bool.not_eq_true, ← hk]
    exact fun h => q2 (z_lc0.mpr h.2)
  · rw [← hk]
    exact ⟨q, z_lc0.mp q2⟩
end
