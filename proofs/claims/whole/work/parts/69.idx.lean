/-! forms by their places; calls of both: add -/
def z_fmn (i : Nat) : Nat := (z_fm i).toNatClampNeg
def z_isf (m f : Int32) : Prop := ∃ k i, 1 ≤ k ∧ k ≤ 4 ∧ i < z_fon k ∧ m = Int32.ofNat k ∧ f = z_fm i
theorem z_fm_inj : ∀ i, i < 11 → ∀ j, j < 11 → z_fm i = z_fm j → i = j := by decide +kernel
theorem z_fm_tab : ∀ k, k < 5 → 1 ≤ k → ∀ i, i < z_fon k → z_fm i = Int32.ofNat (z_fmn i) ∧ z_fmn i < 2 ^ (k * (k - 1) / 2) ∧ z_fx (z_fmn i) = i := by decide +kernel
theorem z_fx_tab : ∀ k, k < 5 → 1 ≤ k → ∀ c, c < 2 ^ (k * (k - 1) / 2) → z_fx c < z_fon k := by decide +kernel
section
variable {d : Nat} {X : z_X} {I : Nat → Nat → Nat → Int32} {J : Nat → Nat → Nat → Int64}
theorem z_p128t {k i : Nat} (h1 : 1 ≤ k) (h2 : k ≤ 4) (hi : i < z_fon k) : z_ev (d + 1) (z_en 128 [z_i (Int32.ofNat k), z_i (z_fm i)] (true, X, I, J)) (some (z_i (Int32.ofNat i)), (true, X, I, J)) := by
  obtain ⟨e1, e2⟩ := z_fo_nat k (by omega)
  have key : ∀ j u, u + j = i → z_ev (d + 1) (128, 2, [some (z_i (Int32.ofNat k)), some (z_i (z_fm i)), some (z_i (Int32.ofNat u))], [], (true, X, I, J)) (some (z_i (Int32.ofNat i)), (true, X, I, J)) := by
    intro j
    induction j with
    | zero =>
      intro u hu
      obtain rfl : u = i := by omega
      refine z_q128_2 _ _ _ ⟨fun h => ?_, fun _ => ⟨u, rfl, by omega, fun h => absurd rfl h, fun _ => rfl⟩⟩
      rw [e1] at h
      exact absurd ((z_ole (by omega) (by omega)).mp h) (by omega)
    | succ j ih =>
      intro u hu
      refine z_q128_2 _ _ _ ⟨fun h => ?_, fun _ => ⟨u, rfl, by omega, fun _ => by rw [z_os]; exact ih (u + 1) (by omega), fun h => ?_⟩⟩
      · rw [e1] at h
        exact absurd ((z_ole (by omega) (by omega)).mp h) (by omega)
      · exact absurd (z_fm_inj u (by omega) i (by omega) h) (by omega)
  exact z_q128_e _ _ (key i 0 (by omega))
theorem z_p128f {m f : Int32} (hn : ¬ z_isf m f) : z_ev (d + 1) (z_en 128 [z_i m, z_i f] (true, X, I, J)) (some (z_i (-1)), (true, X, I, J)) := by
  by_cases hb : z_bw m 1 4 = true
  · obtain ⟨k, h1, h2, rfl⟩ := z_bw14 hb
    obtain ⟨e1, e2⟩ := z_fo_nat k (by omega)
    have key : ∀ j u, u + j = z_fon k → z_ev (d + 1) (128, 2, [some (z_i (Int32.ofNat k)), some (z_i f), some (z_i (Int32.ofNat u))], [], (true, X, I, J)) (some (z_i (-1)), (true, X, I, J)) := by
      intro j
      induction j with
      | zero =>
        intro u hu
        refine z_q128_2 _ _ _ ⟨fun _ => rfl, fun h => ?_⟩
        rw [e1] at h
        exact absurd ((z_olt (by omega) (by omega)).mp h) (by omega)
      | succ j ih =>
        intro u hu
        refine z_q128_2 _ _ _ ⟨fun _ => rfl, fun _ => ⟨u, rfl, by omega, fun _ => by rw [z_os]; exact ih (u + 1) (by omega), fun h => ?_⟩⟩
        · exact absurd ⟨k, u, h1, h2, by omega, rfl, h.symm⟩ hn
    exact z_q128_e _ _ (key (z_fon k) 0 (by omega))
  · have e : z_fo m = 0 := by
      unfold z_fo
      rw [if_neg, if_neg, if_neg, if_neg]
      · exact fun q => hb (by rw [q]; decide)
      · exact fun q => hb (by rw [q]; decide)
      · exact fun q => hb (by rw [q]; decide)
      · exact fun q => hb (by rw [q]; decide)
    refine z_q128_e _ _ (z_q128_2 _ _ _ ⟨fun _ => rfl, fun h => ?_⟩)
    rw [e] at h
    exact absurd h (by decide)
theorem z_isc_t {k c : Nat} (h1 : 1 ≤ k) (h2 : k ≤ 4) (hc : c < 2 ^ (k * (k - 1) / 2)) : z_isc (Int32.ofNat k) (Int32.ofNat c) = true := by
  obtain ⟨e1, e2, e3, e4⟩ := z_sh_nat k (by omega) h1
  unfold z_isc
  rw [e2, z_bw_of (by omega) (by omega), show z_bw (Int32.ofNat k) 1 4 = true from z_bw_t.mpr ⟨(z_ole (a := 1) (by decide) (by omega)).mpr h1, (z_ole (b := 4) (by omega) (by decide)).mpr h2⟩]
  rfl
theorem z_p166t (ht : z_Tb I) {k i : Nat} (h1 : 1 ≤ k) (h2 : k ≤ 4) (hi : i < z_fon k) : z_ev (d + 2) (z_en 166 [z_r 33 0, z_i (Int32.ofNat k), z_i (z_fm i)] (true, X, I, J)) (some (z_i (z_c true)), (true, X, I, J)) := by
  obtain ⟨f1, f2, f3⟩ := z_fm_tab k (by omega) h1 i hi
  obtain ⟨-, -, e3, -⟩ := z_sh_nat k (by omega) h1
  have hc := z_isc_t h1 h2 f2
  obtain ⟨t1, -, -⟩ := ht k h1 h2
  rw [f1]
  refine z_q166_e _ _ ⟨fun h => ?_, fun _ => ⟨64 * k + z_fmn i, z_o64 k _, by omega, fun h => ?_, fun _ => rfl⟩⟩
  · rw [hc] at h; cases h
  · rw [t1 _ f2, f3] at h
    exact absurd f1 h
theorem z_p166f (ht : z_Tb I) {m f : Int32} (hn : ¬ z_isf m f) : z_ev (d + 2) (z_en 166 [z_r 33 0, z_i m, z_i f] (true, X, I, J)) (some (z_i (z_c false)), (true, X, I, J)) := by
  refine z_q166_e _ _ ⟨fun _ => rfl, fun hc => ?_⟩
  unfold z_isc at hc
  rw [Bool.and_eq_true] at hc
  obtain ⟨k, h1, h2, rfl⟩ := z_bw14 hc.1
  obtain ⟨e1, e2, e3, e4⟩ := z_sh_nat k (by omega) h1
  have hc2 := hc.2
  rw [e2] at hc2
  obtain ⟨c, hcc, rfl⟩ := z_bwn hc2 (by omega)
  obtain ⟨t1, -, -⟩ := ht k h1 h2
  refine ⟨64 * k + c, z_o64 k c, by omega, fun _ => rfl, fun h => ?_⟩
  rw [t1 c (by omega)] at h
  exact absurd ⟨k, z_fx c, h1, h2, z_fx_tab k (by omega) h1 c (by omega), rfl, h.symm⟩ hn
/-- forms of 2 and 3 -/
def z_isb (m f : Int32) : Prop := ∃ k i, 2 ≤ k ∧ k ≤ 3 ∧ i < z_fon k ∧ m = Int32.ofNat k ∧ f = z_fm i
theorem z_isb_f {k : Nat} {f : Int32} (h1 : 2 ≤ k) (h2 : k ≤ 3) : z_isf (Int32.ofNat k) f ↔ z_isb (Int32.ofNat k) f := by
  constructor
  · rintro ⟨k', i, q1, q2, q3, q4, q5⟩
    obtain rfl := (z_oeq (by omega) (by omega)).mp q4
    exact ⟨k, i, h1, h2, q3, rfl, q5⟩
  · rintro ⟨k', i, q1, q2, q3, q4, q5⟩
    exact ⟨k', i, by omega, by omega, q3, q4, q5⟩
theorem z_p129t {k i : Nat} (h1 : 2 ≤ k) (h2 : k ≤ 3) (hi : i < z_fon k) : z_ev (d + 2) (z_en 129 [z_i (Int32.ofNat k), z_i (z_fm i)] (true, X, I, J)) (some (z_i (z_c true)), (true, X, I, J)) := by
  have hf := z_fon_le k (by omega)
  refine z_q129_e _ _ ⟨fun _ => ⟨_, _, _, _, z_p128t (by omega) (by omega) hi, fun h => absurd (z_on0 i (by omega)) (Int32.not_le.mpr h), fun _ => rfl⟩, fun h => ⟨fun h9 => ?_, fun _ => ⟨_, _, _, _, z_p128t (by omega) (by omega) hi, fun h => absurd (z_on0 i (by omega)) (Int32.not_le.mpr h), fun _ => rfl⟩⟩⟩
  exfalso
  rcases (by omega : k = 2 ∨ k = 3) with rfl | rfl
  · exact h rfl
  · exact h9 rfl
theorem z_p129f {m f : Int32} (hn : ¬ z_isb m f) : z_ev (d + 2) (z_en 129 [z_i m, z_i f] (true, X, I, J)) (some (z_i (z_c false)), (true, X, I, J)) := by
  refine z_q129_e _ _ ⟨fun h => ?_, fun _ => ⟨fun _ => rfl, fun h => ?_⟩⟩
  · refine ⟨_, _, _, _, z_p128f (fun q => hn ?_), fun _ => rfl, fun h => absurd h (by decide)⟩
    rw [show m = Int32.ofNat 2 from h] at q ⊢
    exact (z_isb_f (by decide) (by decide)).mp q
  · refine ⟨_, _, _, _, z_p128f (fun q => hn ?_), fun _ => rfl, fun h => absurd h (by decide)⟩
    rw [show m = Int32.ofNat 3 from h] at q ⊢
    exact (z_isb_f (by decide) (by decide)).mp q
theorem z_p238t (ht : z_Tb I) {k i : Nat} (h1 : 2 ≤ k) (h2 : k ≤ 3) (hi : i < z_fon k) : z_ev (d + 3) (z_en 238 [z_r 33 0, z_i (Int32.ofNat k), z_i (z_fm i)] (true, X, I, J)) (some (z_i (z_c true)), (true, X, I, J)) := by
  have hb : z_bw (Int32.ofNat k) 2 3 = true := z_bw_t.mpr ⟨(z_ole (a := 2) (by decide) (by omega)).mpr h1, (z_ole (b := 3) (by omega) (by decide)).mpr h2⟩
  refine z_q238_e _ _ ⟨fun h => ?_, fun _ => ⟨true, _, _, _, z_p166t ht (by omega) (by omega) hi, fun h => (by cases h), fun _ => rfl⟩⟩
  rw [hb] at h; cases h
theorem z_bw23 {x : Int32} (h : z_bw x 2 3 = true) : ∃ k, 2 ≤ k ∧ k ≤ 3 ∧ x = Int32.ofNat k := by
  obtain ⟨h0, h1⟩ := z_bw_t.mp h
  obtain ⟨k, hk, rfl⟩ := z_nat' (n := 3) (Int32.le_trans (by decide) h0) h1 (by decide)
  exact ⟨k, (z_ole (a := 2) (by decide) (by omega)).mp h0, hk, rfl⟩
theorem z_p238f (ht : z_Tb I) {m f : Int32} (hn : ¬ z_isb m f) : z_ev (d + 3) (z_en 238 [z_r 33 0, z_i m, z_i f] (true, X, I, J)) (some (z_i (z_c false)), (true, X, I, J)) := by
  refine z_q238_e _ _ ⟨fun _ => rfl, fun h => ?_⟩
  obtain ⟨k, h1, h2, rfl⟩ := z_bw23 h
  exact ⟨false, _, _, _, z_p166f ht (fun q => hn ((z_isb_f h1 h2).mp q)), fun _ => rfl, fun h => (by cases h)⟩
end
