/-! the class: sets of posts counted -/
theorem z_or64 : ∀ a, a < 64 → ∀ b, b < 64 → Int32.ofNat a ||| Int32.ofNat b = Int32.ofNat (a ||| b) := by decide +kernel
theorem z_an63 : ∀ c, c < 64 → Int32.ofNat c &&& 63 = Int32.ofNat c := by decide +kernel
theorem z_pw4 : ∀ n, n < 4 → ∀ k, k < n → ((1 : Int32) <<< ((z_pr (Int32.ofNat n) + Int32.ofNat k) &&& 31)) = Int32.ofNat (2 ^ (n * (n - 1) / 2 + k)) ∧ 2 ^ (n * (n - 1) / 2 + k) < 64 := by decide +kernel
theorem z_lastp : ∀ p, p < 12 → ∀ s, s < 11 → ∀ k, k < 5 → ∀ e, e ≤ k → (Int32.ofNat p ≤ Int32.ofNat s - (Int32.ofNat k - Int32.ofNat e) ↔ p + (k - e) ≤ s) := by decide +kernel
/-- places of a tally -/
def z_tq (q a b _c : Nat) : Bool := (Nat.beq a 25 || Nat.beq a 26) && Nat.beq b q
theorem z_tq_25 (q c : Nat) : z_tq q 25 q c = true := by unfold z_tq; rw [Nat.beq_refl q]; rfl
theorem z_tq_26 (q c : Nat) : z_tq q 26 q c = true := by unfold z_tq; rw [Nat.beq_refl q]; rfl
section
variable {d : Nat} {X : z_X} {I : Nat → Nat → Nat → Int32} {J : Nat → Nat → Nat → Int64}
theorem z_rb64 (m : Nat → Nat) {ps : List Nat} (hp : ps.length < 4) (p : Nat) {a : Nat} (ha : a ≤ ps.length) : z_rb m ps p a < 64 := by
  refine Nat.lt_of_lt_of_le (z_rb_lt m ps p a) ?_
  have : ∀ n, n < 4 → ∀ a, a ≤ n → 2 ^ (n * (n - 1) / 2 + a) ≤ 64 := by decide
  exact this _ hp a ha
theorem z_p44 {q q1 p : Nat} {m : Nat → Nat} {ps : List Nat} (hq : q < 2) (hq1 : q1 < 10) (hm : ∀ b, b < 10 → m b < 1024) (hr : z_hm I 14 q1 0 m) (hl : ps.length < 4) (hc : ∀ i, i < ps.length → I 26 q i = Int32.ofNat (ps.getD i 0) ∧ ps.getD i 0 < 10) (hp : p < 10) :
    z_ev (d + 1) (z_en 44 [z_r 24 q, z_r 13 q1, z_i (Int32.ofNat ps.length), z_i (Int32.ofNat p)] (true, X, I, J)) (some (z_i (Int32.ofNat (z_rb m ps p ps.length))), (true, X, I, J)) := by
  have key : ∀ j k, k + j = ps.length → z_ev (d + 1) (44, 6, [some (z_r 24 q), some (z_r 13 q1), some (z_i (Int32.ofNat ps.length)), some (z_i (Int32.ofNat p)), some (z_i (Int32.ofNat (z_rb m ps p k))), some (z_i (Int32.ofNat k))], [], (true, X, I, J)) (some (z_i (Int32.ofNat (z_rb m ps p ps.length))), (true, X, I, J)) := by
    intro j
    induction j with
    | zero =>
      intro k hk
      obtain rfl : k = ps.length := by omega
      exact z_q44_6 q hq q1 hq1 _ _ _ _ ⟨fun _ => rfl, fun h => absurd ((z_olt (by omega) (by omega)).mp h) (by omega)⟩
    | succ j ih =>
      intro k hk
      obtain ⟨c1, c2⟩ := hc k (by omega)
      have e22 : z_bt (I 14 q1 (ps.getD k 0)) p = (m (ps.getD k 0)).testBit p := by
        have h9 := hr _ c2
        rw [Nat.zero_add] at h9
        rw [h9]
        exact z_bt_nat _ (hm _ c2) p hp
      have h22 := z_p22 (d := d) (X := X) (I := I) (J := J) (q := q1) (a := ps.getD k 0) (b := p) hq1 c2
      rw [e22, ← c1] at h22
      have h9 := ih (k + 1) (by omega)
      refine z_q44_6 q hq q1 hq1 _ _ _ _ ⟨fun h => absurd ((z_ole (by omega) (by omega)).mp h) (by omega), fun _ => ⟨k, rfl, by omega, _, _, _, _, h22, fun h => ?_, fun h => ?_⟩⟩
      · have e9 : z_rb m ps p (k + 1) = z_rb m ps p k := by
          show z_rb m ps p k ||| (if (m (ps.getD k 0)).testBit p then _ else 0) = _
          rw [h]; exact Nat.or_zero _
        rw [e9] at h9
        rw [z_os]; exact h9
      · have e9 : z_rb m ps p (k + 1) = z_rb m ps p k ||| 2 ^ (ps.length * (ps.length - 1) / 2 + k) := by
          show z_rb m ps p k ||| (if (m (ps.getD k 0)).testBit p then _ else 0) = _
          rw [h]; rfl
        obtain ⟨w1, w2⟩ := z_pw4 ps.length hl k (by omega)
        rw [e9, ← z_or64 _ (z_rb64 m hl p (by omega)) _ w2, ← w1] at h9
        rw [z_os]; exact h9
  exact z_q44_e q hq q1 hq1 _ _ (key ps.length 0 (by omega))
/-- what is chosen behind ps -/
def z_pdC (m : Nat → Nat) (ps : List Nat) (c i : Nat) (l : List Nat) : Bool := Nat.beq (z_fx (z_cdf m ps l c)) i
def z_chS (d : Nat) (X : z_X) (J : Nat → Nat → Nat → Int64) (I : Nat → Nat → Nat → Int32) (q q1 s k : Nat) (m : Nat → Nat) (left : Nat) : Prop :=
  ∀ (ps : List Nat) (frm c : Nat) (I1 : Nat → Nat → Nat → Int32), ps.length + left = k → frm ≤ s → (∀ i, i < ps.length → I1 26 q i = Int32.ofNat (ps.getD i 0) ∧ ps.getD i 0 < 10) → c < 2 ^ (ps.length * (ps.length - 1) / 2) → z_fr (z_tq q) I I1 →
    ∃ I', z_ev (d + 2 + left) (z_en 43 [z_r 24 q, z_r 13 q1, z_i (Int32.ofNat k), z_i (Int32.ofNat ps.length), z_i (Int32.ofNat frm), z_i (Int32.ofNat c)] (true, X, I1, J)) (none, (true, X, I', J)) ∧ (∀ i, i < 11 → I' 25 q i = I1 25 q i + Int32.ofNat ((z_sbl (s - frm) frm left).countP (z_pdC m ps c i))) ∧ (∀ i, i < ps.length → I' 26 q i = I1 26 q i) ∧ z_fr (z_tq q) I I'
theorem z_c64 {n c : Nat} (hn : n ≤ 4) (hc : c < 2 ^ (n * (n - 1) / 2)) : c < 64 := by
  have : ∀ n, n ≤ 4 → 2 ^ (n * (n - 1) / 2) ≤ 64 := by decide
  exact Nat.lt_of_lt_of_le hc (this n hn)
theorem z_ch0 {q q1 s k : Nat} {m : Nat → Nat} (hq : q < 2) (hq1 : q1 < 10) (hk : k ≤ 4) : z_chS d X J I q q1 s k m 0 := by
  intro ps frm c I1 hl hf hc hcc hfr
  have c64 := z_c64 (n := ps.length) (by omega) hcc
  obtain ⟨f1, f2⟩ := z_fx_all c c64
  refine ⟨z_up I1 25 q (z_fx c) (I1 25 q (z_fx c) + 1), z_q43_e q hq q1 hq1 _ _ _ _ ⟨fun _ => ⟨c, z_an63 c c64, c64, z_fx c, f1, f2, rfl⟩, fun h => absurd ((z_olt (by omega) (by omega)).mp h) (by omega)⟩, fun i hi => ?_, fun i hi => ?_, z_fr_up hfr (z_tq_25 q _)⟩
  · rw [z_sbl_0, List.countP_singleton]
    by_cases h : z_fx c = i
    · rw [h, z_up_e, show z_pdC m ps c i [] = true from by unfold z_pdC; rw [show z_cdf m ps [] c = c from rfl, h]; exact Nat.beq_refl i]; rfl
    · rw [z_up_j (fun q => h q.symm), if_neg (show ¬ z_pdC m ps c i [] = true from fun q9 => h (Nat.eq_of_beq_eq_true q9))]
      exact (Int32.add_zero _).symm
  · rw [z_up_t (by decide)]
theorem z_chN {q q1 s k left : Nat} {m : Nat → Nat} (hq : q < 2) (hq1 : q1 < 10) (hk : k ≤ 4) (hs : s ≤ 10) (hm : ∀ b, b < 10 → m b < 1024) (hr : z_hm I 14 q1 0 m) (es : I 13 q1 1 = Int32.ofNat s) (ih : z_chS d X J I q q1 s k m left) : z_chS d X J I q q1 s k m (left + 1) := by
  intro ps frm c I1 hl hf hc hcc hfr
  have c64 := z_c64 (n := ps.length) (by omega) hcc
  have loop : ∀ n p I2, p + n = s → (∀ i, i < ps.length → I2 26 q i = Int32.ofNat (ps.getD i 0)) → z_fr (z_tq q) I I2 → ∃ I', z_ev (d + 2 + left + 1) (43, 43, [some (z_r 24 q), some (z_r 13 q1), some (z_i (Int32.ofNat k)), some (z_i (Int32.ofNat ps.length)), some (z_i (Int32.ofNat frm)), some (z_i (Int32.ofNat c)), some (z_i (Int32.ofNat s - (Int32.ofNat k - Int32.ofNat ps.length))), some (z_i (Int32.ofNat p))], [], (true, X, I2, J)) (none, (true, X, I', J)) ∧ (∀ i, i < 11 → I' 25 q i = I2 25 q i + Int32.ofNat ((z_sbl n p (left + 1)).countP (z_pdC m ps c i))) ∧ (∀ i, i < ps.length → I' 26 q i = Int32.ofNat (ps.getD i 0)) ∧ z_fr (z_tq q) I I' := by
    intro n
    induction n with
    | zero =>
      intro p I2 hp h1 h2
      refine ⟨I2, z_q43_43 q hq q1 hq1 _ _ _ _ _ _ ⟨fun _ => rfl, fun h => absurd ((z_lastp p (by omega) s (by omega) k (by omega) ps.length (by omega)).mp h) (by omega)⟩, fun i hi => ?_, h1, h2⟩
      rw [z_sbl_nil 0 p (left + 1) (by omega)]
      exact (Int32.add_zero _).symm
    | succ n ihn =>
      intro p I2 hp h1 h2
      by_cases hlast : p + (k - ps.length) ≤ s
      · have g := (z_lastp p (by omega) s (by omega) k (by omega) ps.length (by omega)).mpr hlast
        obtain ⟨I3, hI3⟩ : ∃ I3, I3 = z_up I2 26 q ps.length (Int32.ofNat p) := ⟨_, rfl⟩
        have f3 : z_fr (z_tq q) I I3 := by rw [hI3]; exact z_fr_up h2 (z_tq_26 q _)
        have r3 : z_hm I3 14 q1 0 m := fun b hb => by rw [z_fr_t f3 14 (fun _ _ => rfl)]; exact hr b hb
        have k3 : ∀ i, i < ps.length → I3 26 q i = Int32.ofNat (ps.getD i 0) := fun i hi => by rw [hI3, z_up_j (by omega)]; exact h1 i hi
        have p44 := z_p44 (d := d + 1 + left) (X := X) (I := I3) (J := J) (ps := ps) (p := p) hq hq1 hm r3 (by omega) (fun i hi => ⟨k3 i hi, (hc i hi).2⟩) (by omega)
        rw [show d + 1 + left + 1 = d + 2 + left by omega] at p44
        have ll : (ps ++ [p]).length = ps.length + 1 := by rw [List.length_append, List.length_singleton]
        have rlt := z_rb_lt m ps p ps.length
        have olt : c ||| z_rb m ps p ps.length < 2 ^ ((ps ++ [p]).length * ((ps ++ [p]).length - 1) / 2) := by
          rw [ll, z_tri _ (by omega)]
          exact Nat.or_lt_two_pow (Nat.lt_of_lt_of_le hcc (Nat.pow_le_pow_right (by decide) (by omega))) rlt
        obtain ⟨I4, e1, e2, e3, e4⟩ := ih (ps ++ [p]) (p + 1) (c ||| z_rb m ps p ps.length) I3 (by rw [ll]; omega) (by omega) (fun i hi => by
          rw [ll] at hi
          by_cases hi2 : i = ps.length
          · subst hi2
            rw [z_gA]
            exact ⟨by rw [hI3, z_up_e], by omega⟩
          · rw [z_gL (by omega)]
            exact ⟨k3 i (by omega), (hc i (by omega)).2⟩) olt f3
        obtain ⟨I', c1, c2, c3, c4⟩ := ihn (p + 1) I4 (by omega) (fun i hi => by rw [e3 i (by rw [ll]; omega)]; exact k3 i hi) e4
        rw [ll, ← z_or64 _ c64 _ (z_rb64 m (by omega) p (Nat.le_refl _))] at e1
        refine ⟨I', z_q43_43 q hq q1 hq1 _ _ _ _ _ _ ⟨fun h => absurd g (Int32.not_le.mpr h), fun _ => ⟨ps.length, rfl, by omega, _, _, _, _, by rw [← hI3]; exact p44, _, _, _, by rw [z_os, z_os]; exact e1, by rw [z_os]; exact c1⟩⟩, fun i hi => ?_, c3, c4⟩
        rw [c2 i hi, e2 i hi, hI3, z_up_t (by decide), Int32.add_assoc, z_oa, show s - (p + 1) = n by omega]
        congr 2
        show _ = ((z_sbl n (p + 1) left).map (fun l => p :: l) ++ z_sbl n (p + 1) (left + 1)).countP _
        rw [List.countP_append, List.countP_map]
        rfl
      · refine ⟨I2, z_q43_43 q hq q1 hq1 _ _ _ _ _ _ ⟨fun _ => rfl, fun h => absurd ((z_lastp p (by omega) s (by omega) k (by omega) ps.length (by omega)).mp h) hlast⟩, fun i hi => ?_, h1, h2⟩
        rw [z_sbl_nil (n + 1) p (left + 1) (by omega)]
        exact (Int32.add_zero _).symm
  obtain ⟨I', c1, c2, c3, c4⟩ := loop (s - frm) frm I1 (by omega) (fun i hi => (hc i hi).1) hfr
  have e13 : I1 13 q1 1 = Int32.ofNat s := by rw [z_fr_t hfr 13 (fun _ _ => rfl)]; exact es
  refine ⟨I', z_q43_e q hq q1 hq1 _ _ _ _ ⟨fun h => absurd ((z_ole (by omega) (by omega)).mp h) (by omega), fun _ => ⟨fun _ => by rw [e13]; exact c1, fun h => absurd ((z_ole (a := 4) (by decide) (by omega)).mp h) (by omega)⟩⟩, c2, fun i hi => by rw [c3 i hi, (hc i hi).1], c4⟩
theorem z_chA {q q1 s k : Nat} {m : Nat → Nat} (hq : q < 2) (hq1 : q1 < 10) (hk : k ≤ 4) (hs : s ≤ 10) (hm : ∀ b, b < 10 → m b < 1024) (hr : z_hm I 14 q1 0 m) (es : I 13 q1 1 = Int32.ofNat s) : ∀ left, z_chS d X J I q q1 s k m left
  | 0 => z_ch0 hq hq1 hk
  | left + 1 => z_chN hq hq1 hk hs hm hr es (z_chA hq hq1 hk hs hm hr es left)
/-- counts of the forms of k -/
theorem z_p42 {q q1 s k : Nat} {m : Nat → Nat} (hq : q < 2) (hq1 : q1 < 10) (hk : k ≤ 4) (hs : s ≤ 10) (hm : ∀ b, b < 10 → m b < 1024) (hr : z_hm I 14 q1 0 m) (es : I 13 q1 1 = Int32.ofNat s) :
    ∃ I', z_ev (d + 15) (z_en 42 [z_r 24 q, z_r 13 q1, z_i (Int32.ofNat k)] (true, X, I, J)) (none, (true, X, I', J)) ∧ (∀ i, i < 11 → I' 25 q i = Int32.ofNat (z_cnf m s k i)) ∧ z_fr (z_tq q) I I' := by
  obtain ⟨I0, hI0⟩ : ∃ I0, I0 = z_wo I 25 q 0 11 (fun _ => (0 : Int32)) := ⟨_, rfl⟩
  have f0 : z_fr (z_tq q) I I0 := by rw [hI0]; exact z_fr_wo z_fr_rf (fun j _ _ => z_tq_25 q j)
  obtain ⟨I', c1, c2, -, c4⟩ := z_chA (d := d) (X := X) (J := J) (I := I) hq hq1 hk hs hm hr es k [] 0 0 I0 (by show 0 + k = k; omega) (by omega) (fun i hi => absurd hi (Nat.not_lt_zero i)) (by decide) f0
  have c1 := z_ev_dp c1 (show d + 2 + k ≤ d + 14 by omega)
  refine ⟨I', z_q42_e q hq q1 hq1 _ ?_, fun i hi => ?_, c4⟩
  · have key : ∀ j u, u + j = 11 → z_ev (d + 15) (42, 2, [some (z_r 24 q), some (z_r 13 q1), some (z_i (Int32.ofNat k)), some (z_i (Int32.ofNat u))], [], (true, X, z_wo I 25 q 0 u (fun _ => (0 : Int32)), J)) (none, (true, X, I', J)) := by
      intro j
      induction j with
      | zero =>
        intro u hu
        obtain rfl : u = 11 := by omega
        rw [← hI0]
        exact z_q42_2 q hq q1 hq1 _ _ ⟨fun _ => ⟨_, _, _, c1, rfl⟩, fun h => absurd ((z_olt (b := 11) (by omega) (by decide)).mp h) (by omega)⟩
      | succ j ih =>
        intro u hu
        refine z_q42_2 q hq q1 hq1 _ _ ⟨fun h => absurd ((z_ole (a := 11) (by decide) (by omega)).mp h) (by omega), fun _ => ⟨u, rfl, by omega, ?_⟩⟩
        rw [z_os, z_wo_s0 _ _ _ _ (fun _ => (0 : Int32))]
        exact ih (u + 1) (by omega)
    have h0 := key 11 0 rfl
    rw [z_wo_0] at h0
    exact h0
  · rw [c2 i hi, hI0, z_wo_e0 (by omega), Int32.zero_add]
    rfl
end
