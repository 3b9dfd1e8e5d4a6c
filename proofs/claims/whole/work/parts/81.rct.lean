/-! the reference: sets of posts counted; printed by wip/whole/emit_cnt.py -/
theorem z_bts_sp (S : Nat) : ∀ n b k, z_bts S b (n + k) = z_bts S b n ++ z_bts S (b + n) k
  | 0, b, k => by rw [Nat.zero_add, Nat.add_zero]; rfl
  | n + 1, b, k => by
    rw [show n + 1 + k = (n + k) + 1 by omega]
    show (if S.testBit b then b :: z_bts S (b + 1) (n + k) else z_bts S (b + 1) (n + k)) = (if S.testBit b then b :: z_bts S (b + 1) n else z_bts S (b + 1) n) ++ _
    rw [z_bts_sp S n (b + 1) k, show b + 1 + n = b + (n + 1) by omega]
    cases S.testBit b <;> rfl
theorem z_tb_s {S s b : Nat} (hS : S < 2 ^ s) (h : S.testBit b = true) : b < s := by
  by_cases hb : b < s
  · exact hb
  · have h1 : S < 2 ^ b := Nat.lt_of_lt_of_le hS (Nat.pow_le_pow_right (by decide) (by omega))
    rw [Nat.testBit_lt_two_pow h1] at h
    cases h
theorem z_bo4 : ∀ k, k < 4 → ∀ a, a < k → ((1 : Int32) <<< ((z_bo (Int32.ofNat a) (Int32.ofNat k)) &&& 31)) = Int32.ofNat (2 ^ (k * (k - 1) / 2 + a)) ∧ ((0 : Int32) <<< ((z_bo (Int32.ofNat a) (Int32.ofNat k)) &&& 31)) = Int32.ofNat 0 ∧ 2 ^ (k * (k - 1) / 2 + a) < 64 := by decide +kernel
theorem z_b01 {m b : Nat} (hm : m < 1024) (hb : b < 10) : ((Int32.ofNat m >>> (Int32.ofNat b &&& 31)) &&& 1) = bif m.testBit b then 1 else 0 := by
  have h := z_bt_nat m hm b hb
  cases e : m.testBit b with
  | true =>
    rw [e, z_bt1, decide_eq_true_iff] at h
    exact h
  | false =>
    rw [e] at h
    unfold z_bt at h
    rw [decide_eq_false_iff_not, Decidable.not_not] at h
    exact h
theorem z_2s : ∀ s, s < 11 → ((1 : Int32) <<< (Int32.ofNat s &&& 31)) = Int32.ofNat (2 ^ s) ∧ 2 ^ s ≤ 1024 := by decide +kernel
section
variable {d : Nat} {X : z_X} {I : Nat → Nat → Nat → Int32} {J : Nat → Nat → Nat → Int64}
theorem z_l193i_35 {o s S b c0 : Nat} {m : Nat → Nat} {ps : List Nat} {r : Option z_V × z_M} (hs : s ≤ 10) (hL : o + s ≤ 40) (hS : S < 2 ^ s) (hw : z_wfm s m) (hr : ∀ b, b < s → I 35 0 (o + b) = Int32.ofNat (m b)) (hps : ps = z_bts S 0 b) (hb : S.testBit b = true) (hp4 : ps.length < 4) (hc0 : c0 < 64)
    (hk : z_ev (d + 2) (193, 9, [some (z_r 33 0), some (z_r 35 0), some (z_i (Int32.ofNat o)), some (z_i (Int32.ofNat S)), some (z_i (Int32.ofNat (c0 ||| z_rb m ps b ps.length))), some (z_i (Int32.ofNat (ps.length + 1))), some (z_i (Int32.ofNat (b + 1))), some (z_i (Int32.ofNat ps.length)), some (z_i (Int32.ofNat b))], [], (true, X, I, J)) r) :
    ∀ j a, a + j = b → z_ev (d + 2) (193, 34, [some (z_r 33 0), some (z_r 35 0), some (z_i (Int32.ofNat o)), some (z_i (Int32.ofNat S)), some (z_i (Int32.ofNat (c0 ||| z_rb m ps b (z_bts S 0 a).length))), some (z_i (Int32.ofNat ps.length)), some (z_i (Int32.ofNat b)), some (z_i (Int32.ofNat (z_bts S 0 a).length)), some (z_i (Int32.ofNat a))], [], (true, X, I, J)) r := by
  have hbs : b < s := z_tb_s hS hb
  have hS10 : S < 1024 := Nat.lt_of_lt_of_le hS (z_2s s (by omega)).2
  intro j
  induction j with
  | zero =>
    intro a ha
    obtain rfl : a = b := by omega
    rw [← hps]
    refine z_q193_34_35 _ _ _ _ _ _ _ ⟨fun _ => ?_, fun h => absurd ((z_olt (by omega) (by omega)).mp h) (by omega)⟩
    rw [z_os, z_os]; exact hk
  | succ j ih =>
    intro a ha
    have h9 := ih (a + 1) (by omega)
    have hsn := z_bts_sn S a 0
    rw [Nat.zero_add] at hsn
    have hsp := z_bts_sp S a 0 (b - a)
    rw [show a + (b - a) = b by omega, ← hps, Nat.zero_add] at hsp
    have e01 := z_b01 hS10 (show a < 10 by omega)
    refine z_q193_34_35 _ _ _ _ _ _ _ ⟨fun h => absurd ((z_ole (by omega) (by omega)).mp h) (by omega), fun _ => ⟨fun h => ?_, fun h => ⟨o + b, z_oa o b, by omega, ?_⟩⟩⟩
    · rw [e01] at h
      cases e : S.testBit a with
      | true => rw [e] at h; exact absurd rfl h
      | false =>
        rw [e] at hsn
        rw [show (if false = true then [a] else []) = ([] : List Nat) from rfl, List.append_nil] at hsn
        rw [hsn] at h9
        rw [z_os]; exact h9
    · rw [e01] at h
      cases e : S.testBit a with
      | false => rw [e] at h; exact absurd h (by decide)
      | true =>
        rw [e] at hsn
        rw [show (if true = true then [a] else []) = [a] from rfl] at hsn
        have hll : (z_bts S 0 (a + 1)).length = (z_bts S 0 a).length + 1 := by rw [hsn, List.length_append, List.length_singleton]
        obtain ⟨n9, hn9⟩ : ∃ n9, b - a = n9 + 1 := ⟨b - a - 1, by omega⟩
        have hsp2 : ps = z_bts S 0 a ++ a :: z_bts S (a + 1) n9 := by
          rw [hsp, hn9]
          show _ ++ (if S.testBit a then a :: z_bts S (a + 1) n9 else z_bts S (a + 1) n9) = _
          rw [e]; rfl
        have hgd := z_gD hsp2
        have hlt : (z_bts S 0 a).length < ps.length := by rw [hsp2, List.length_append, List.length_cons]; omega
        obtain ⟨w1, w0, w2⟩ := z_bo4 ps.length hp4 _ hlt
        have hsym : (m a).testBit b = (m b).testBit a := by
          cases e1 : (m a).testBit b with
          | true => exact ((hw.2 a b (by omega) e1).2.2.2).symm
          | false =>
            cases e2 : (m b).testBit a with
            | false => rfl
            | true => rw [(hw.2 b a (by omega) e2).2.2.2] at e1; cases e1
        have hrb : z_rb m ps b ((z_bts S 0 a).length + 1) = z_rb m ps b (z_bts S 0 a).length ||| (if (m b).testBit a then 2 ^ (ps.length * (ps.length - 1) / 2 + (z_bts S 0 a).length) else 0) := by
          show _ ||| (if (m (ps.getD (z_bts S 0 a).length 0)).testBit b then _ else 0) = _
          rw [hgd, hsym]
        have hrl := z_rb64 m hp4 b (a := (z_bts S 0 a).length) (by omega)
        have hor : c0 ||| z_rb m ps b (z_bts S 0 a).length < 64 := Nat.or_lt_two_pow (n := 6) hc0 hrl
        rw [hll, hrb, ← Nat.or_assoc] at h9
        rw [hr b hbs, z_b01 (hw.1 b (by omega)) (by omega), z_os, z_os]
        cases e3 : (m b).testBit a with
        | true =>
          rw [e3] at h9
          rw [show (bif true then (1 : Int32) else 0) = 1 from rfl, w1, z_or64 _ hor _ w2]
          exact h9
        | false =>
          rw [e3] at h9
          rw [show (bif false then (1 : Int32) else 0) = 0 from rfl, w0, z_or64 _ hor 0 (by decide)]
          exact h9
theorem z_l193_35 {o s S K : Nat} {m : Nat → Nat} (hs : s ≤ 10) (hL : o + s ≤ 40) (hS : S < 2 ^ s) (hw : z_wfm s m) (hr : ∀ b, b < s → I 35 0 (o + b) = Int32.ofNat (m b)) (hK : (z_bts S 0 10).length = K) (hK4 : K ≤ 4) :
    ∀ j b, b + j = 10 → ∀ (c : Nat) (o7 o8 : Option z_V), c < 2 ^ ((z_bts S 0 b).length * ((z_bts S 0 b).length - 1) / 2) → z_ev (d + 2) (193, 9, [some (z_r 33 0), some (z_r 35 0), some (z_i (Int32.ofNat o)), some (z_i (Int32.ofNat S)), some (z_i (Int32.ofNat c)), some (z_i (Int32.ofNat (z_bts S 0 b).length)), some (z_i (Int32.ofNat b)), o7, o8], [], (true, X, I, J)) (some (z_i (I 40 0 (64 * K + z_cdf m (z_bts S 0 b) (z_bts S b j) c))), (true, X, I, J)) := by
  have hS10 : S < 1024 := Nat.lt_of_lt_of_le hS (z_2s s (by omega)).2
  intro j
  induction j with
  | zero =>
    intro b hb c o7 o8 hc
    obtain rfl : b = 10 := by omega
    rw [hK] at hc ⊢
    have c64 := z_c64 hK4 hc
    refine z_q193_9_35 _ _ _ _ _ o7 o8 ⟨fun _ => ⟨64 * K + c, z_o64 K c, by omega, rfl⟩, fun h => absurd ((z_olt (b := 10) (by omega) (by decide)).mp h) (by omega)⟩
  | succ j ih =>
    intro b hb c o7 o8 hc
    have hsn := z_bts_sn S b 0
    rw [Nat.zero_add] at hsn
    have hsp := z_bts_sp S b 0 (10 - b)
    rw [show b + (10 - b) = 10 by omega, Nat.zero_add] at hsp
    have hlen : (z_bts S 0 b).length + (z_bts S b (10 - b)).length = K := by rw [← hK, hsp, List.length_append]
    have e01 := z_b01 hS10 (show b < 10 by omega)
    have hj : 10 - b = j + 1 := by omega
    rw [hj] at hlen
    have c64 := z_c64 (n := (z_bts S 0 b).length) (by omega) hc
    refine z_q193_9_35 _ _ _ _ _ o7 o8 ⟨fun h => absurd ((z_ole (a := 10) (by decide) (by omega)).mp h) (by omega), fun _ => ⟨fun h => ?_, fun h => ?_⟩⟩
    · rw [e01] at h
      cases e : S.testBit b with
      | false => rw [e] at h; exact absurd rfl h
      | true =>
        rw [e] at hsn
        rw [show (if true = true then [b] else []) = [b] from rfl] at hsn
        have h2 : z_bts S b (j + 1) = b :: z_bts S (b + 1) j := by
          show (if S.testBit b then b :: z_bts S (b + 1) j else z_bts S (b + 1) j) = _
          rw [e]; rfl
        rw [h2, List.length_cons] at hlen
        have hp4 : (z_bts S 0 b).length < 4 := by omega
        have hll : (z_bts S 0 (b + 1)).length = (z_bts S 0 b).length + 1 := by rw [hsn, List.length_append, List.length_singleton]
        have h9 := ih (b + 1) (by omega) (c ||| z_rb m (z_bts S 0 b) b (z_bts S 0 b).length) (some (z_i (Int32.ofNat (z_bts S 0 b).length))) (some (z_i (Int32.ofNat b))) (by
          rw [hll, z_tri _ (by omega)]
          exact Nat.or_lt_two_pow (Nat.lt_of_lt_of_le hc (Nat.pow_le_pow_right (by decide) (by omega))) (z_rb_lt m _ b _))
        rw [hll, hsn] at h9
        have h10 := z_l193i_35 (d := d) (X := X) (J := J) hs hL hS hw hr rfl e hp4 c64 h9 b 0 (by omega)
        rw [h2]
        have h11 : c ||| z_rb m (z_bts S 0 b) b (z_bts S 0 0).length = c := Nat.or_zero c
        rw [h11] at h10
        exact h10
    · rw [e01] at h
      cases e : S.testBit b with
      | true => rw [e] at h; exact absurd h (by decide)
      | false =>
        rw [e] at hsn
        rw [show (if false = true then [b] else []) = ([] : List Nat) from rfl, List.append_nil] at hsn
        have h2 : z_bts S b (j + 1) = z_bts S (b + 1) j := by
          show (if S.testBit b then b :: z_bts S (b + 1) j else z_bts S (b + 1) j) = _
          rw [e]; rfl
        have h9 := ih (b + 1) (by omega) c o7 o8 (by rw [hsn]; exact hc)
        rw [hsn] at h9
        rw [h2, z_os]
        exact h9
theorem z_p193_35 (ht : z_Tb I) {o s S K : Nat} {m : Nat → Nat} (hs : s ≤ 10) (hL : o + s ≤ 40) (hS : S < 2 ^ s) (hw : z_wfm s m) (hr : ∀ b, b < s → I 35 0 (o + b) = Int32.ofNat (m b)) (hK : z_pc S = K) (hK1 : 1 ≤ K) (hK4 : K ≤ 4) : z_ev (d + 2) (z_en 193 [z_r 33 0, z_r 35 0, z_i (Int32.ofNat o), z_i (Int32.ofNat S)] (true, X, I, J)) (some (z_i (z_fm (z_fx (z_cdf m [] (z_bts S 0 10) 0)))), (true, X, I, J)) := by
  have hS10 : S < 1024 := Nat.lt_of_lt_of_le hS (z_2s s (by omega)).2
  have hl : (z_bts S 0 10).length = K := by rw [z_bts_len S hS10, hK]
  have h9 := z_l193_35 (d := d) (X := X) (J := J) hs hL hS hw hr hl hK4 10 0 rfl 0 none none (by show 0 < 2 ^ (0 * (0 - 1) / 2); decide)
  have hlt := z_cdf_lt m (z_bts S 0 10) [] 0 (by show 0 + _ < 6; omega) (by show 0 < 2 ^ (0 * (0 - 1) / 2); decide)
  rw [show ([] : List Nat).length + (z_bts S 0 10).length = K by rw [hl]; show 0 + K = K; omega] at hlt
  obtain ⟨t1, -, -⟩ := ht K hK1 hK4
  rw [show z_bts S 0 0 = [] from rfl, t1 _ hlt] at h9
  exact z_q193_e_35 _ _ h9
theorem z_p194_35 (ht : z_Tb I) {o s k i : Nat} {m : Nat → Nat} (hs : s ≤ 10) (hL : o + s ≤ 40) (hw : z_wfm s m) (hr : ∀ b, b < s → I 35 0 (o + b) = Int32.ofNat (m b)) (hk1 : 1 ≤ k) (hk4 : k ≤ 4) (hi : i < 11) : z_ev (d + 3) (z_en 194 [z_r 33 0, z_r 35 0, z_i (Int32.ofNat o), z_i (Int32.ofNat s), z_i (Int32.ofNat k), z_i (z_fm i)] (true, X, I, J)) (some (z_i (Int32.ofNat (z_cnf m s k i))), (true, X, I, J)) := by
  obtain ⟨w1, w2⟩ := z_2s s (by omega)
  rw [← z_cnf_set (by omega) (by omega)]
  have key : ∀ j S, S + j = 2 ^ s → z_ev (d + 3) (194, 6, [some (z_r 33 0), some (z_r 35 0), some (z_i (Int32.ofNat o)), some (z_i (Int32.ofNat s)), some (z_i (Int32.ofNat k)), some (z_i (z_fm i)), some (z_i (Int32.ofNat ((List.range S).countP (fun S => Nat.beq (z_pc S) k && Nat.beq (z_fx (z_cdf m [] (z_bts S 0 10) 0)) i)))), some (z_i (Int32.ofNat S))], [], (true, X, I, J)) (some (z_i (Int32.ofNat ((List.range (2 ^ s)).countP (fun S => Nat.beq (z_pc S) k && Nat.beq (z_fx (z_cdf m [] (z_bts S 0 10) 0)) i)))), (true, X, I, J)) := by
    intro j
    induction j with
    | zero =>
      intro S hS
      obtain rfl : S = 2 ^ s := by omega
      refine z_q194_6_35 _ _ _ _ _ _ ⟨fun _ => rfl, fun h => ?_⟩
      rw [w1] at h
      exact absurd ((z_olt (by omega) (by omega)).mp h) (by omega)
    | succ j ih =>
      intro S hS
      have h9 := ih (S + 1) (by omega)
      rw [List.range_succ, List.countP_append, List.countP_singleton] at h9
      have S10 : S < 1024 := by omega
      have h170 := z_p170 (d := d + 2) (X := X) (I := I) (J := J) (z_r10_of S10)
      rw [z_pc_bc S (by omega)] at h170
      have hpc : z_pc S ≤ 11 := by
        unfold z_pc
        exact List.length_filter_le _ _
      refine z_q194_6_35 _ _ _ _ _ _ ⟨fun h => ?_, fun _ => ⟨_, _, _, _, h170, fun h => ?_, fun h => ?_⟩⟩
      · rw [w1] at h
        exact absurd ((z_ole (by omega) (by omega)).mp h) (by omega)
      · have hne : Nat.beq (z_pc S) k = false := Bool.eq_false_iff.mpr (fun q => h (by rw [Nat.eq_of_beq_eq_true q]))
        rw [hne, Bool.false_and, if_neg (by decide), Nat.add_zero] at h9
        rw [Int32.add_zero, z_os]
        exact h9
      · have hK : z_pc S = k := (z_oeq (by omega) (by omega)).mp h
        have h193 := z_p193_35 (d := d) (X := X) (J := J) ht hs hL (show S < 2 ^ s by omega) hw hr hK hk1 hk4
        have hll : (z_bts S 0 10).length = k := by rw [z_bts_len S S10, hK]
        have hlt := z_cdf_lt m (z_bts S 0 10) [] 0 (by show 0 + _ < 6; omega) (by show 0 < 2 ^ (0 * (0 - 1) / 2); decide)
        rw [show ([] : List Nat).length + (z_bts S 0 10).length = k by rw [hll]; show 0 + k = k; omega] at hlt
        have f11 := (z_fx_all _ (z_c64 hk4 hlt)).2
        rw [hK, Nat.beq_refl, Bool.true_and] at h9
        refine ⟨_, _, _, _, h193, fun h2 => ?_, fun h2 => ?_⟩
        · have hne : Nat.beq (z_fx (z_cdf m [] (z_bts S 0 10) 0)) i = false := Bool.eq_false_iff.mpr (fun q => h2 (by rw [Nat.eq_of_beq_eq_true q]))
          rw [hne, if_neg (by decide), Nat.add_zero] at h9
          rw [Int32.add_zero, z_os]
          exact h9
        · have he : z_fx (z_cdf m [] (z_bts S 0 10) 0) = i := z_fm_inj _ f11 _ hi h2
          rw [he, Nat.beq_refl, if_pos rfl] at h9
          rw [z_os, z_os]
          exact h9
  exact z_q194_e_35 _ _ _ _ (key (2 ^ s) 0 (by omega))
theorem z_l193i_47 {o s S b c0 : Nat} {m : Nat → Nat} {ps : List Nat} {r : Option z_V × z_M} (hs : s ≤ 10) (hL : o + s ≤ 5) (hS : S < 2 ^ s) (hw : z_wfm s m) (hr : ∀ b, b < s → I 47 0 (o + b) = Int32.ofNat (m b)) (hps : ps = z_bts S 0 b) (hb : S.testBit b = true) (hp4 : ps.length < 4) (hc0 : c0 < 64)
    (hk : z_ev (d + 2) (193, 9, [some (z_r 33 0), some (z_r 47 0), some (z_i (Int32.ofNat o)), some (z_i (Int32.ofNat S)), some (z_i (Int32.ofNat (c0 ||| z_rb m ps b ps.length))), some (z_i (Int32.ofNat (ps.length + 1))), some (z_i (Int32.ofNat (b + 1))), some (z_i (Int32.ofNat ps.length)), some (z_i (Int32.ofNat b))], [], (true, X, I, J)) r) :
    ∀ j a, a + j = b → z_ev (d + 2) (193, 34, [some (z_r 33 0), some (z_r 47 0), some (z_i (Int32.ofNat o)), some (z_i (Int32.ofNat S)), some (z_i (Int32.ofNat (c0 ||| z_rb m ps b (z_bts S 0 a).length))), some (z_i (Int32.ofNat ps.length)), some (z_i (Int32.ofNat b)), some (z_i (Int32.ofNat (z_bts S 0 a).length)), some (z_i (Int32.ofNat a))], [], (true, X, I, J)) r := by
  have hbs : b < s := z_tb_s hS hb
  have hS10 : S < 1024 := Nat.lt_of_lt_of_le hS (z_2s s (by omega)).2
  intro j
  induction j with
  | zero =>
    intro a ha
    obtain rfl : a = b := by omega
    rw [← hps]
    refine z_q193_34_47 _ _ _ _ _ _ _ ⟨fun _ => ?_, fun h => absurd ((z_olt (by omega) (by omega)).mp h) (by omega)⟩
    rw [z_os, z_os]; exact hk
  | succ j ih =>
    intro a ha
    have h9 := ih (a + 1) (by omega)
    have hsn := z_bts_sn S a 0
    rw [Nat.zero_add] at hsn
    have hsp := z_bts_sp S a 0 (b - a)
    rw [show a + (b - a) = b by omega, ← hps, Nat.zero_add] at hsp
    have e01 := z_b01 hS10 (show a < 10 by omega)
    refine z_q193_34_47 _ _ _ _ _ _ _ ⟨fun h => absurd ((z_ole (by omega) (by omega)).mp h) (by omega), fun _ => ⟨fun h => ?_, fun h => ⟨o + b, z_oa o b, by omega, ?_⟩⟩⟩
    · rw [e01] at h
      cases e : S.testBit a with
      | true => rw [e] at h; exact absurd rfl h
      | false =>
        rw [e] at hsn
        rw [show (if false = true then [a] else []) = ([] : List Nat) from rfl, List.append_nil] at hsn
        rw [hsn] at h9
        rw [z_os]; exact h9
    · rw [e01] at h
      cases e : S.testBit a with
      | false => rw [e] at h; exact absurd h (by decide)
      | true =>
        rw [e] at hsn
        rw [show (if true = true then [a] else []) = [a] from rfl] at hsn
        have hll : (z_bts S 0 (a + 1)).length = (z_bts S 0 a).length + 1 := by rw [hsn, List.length_append, List.length_singleton]
        obtain ⟨n9, hn9⟩ : ∃ n9, b - a = n9 + 1 := ⟨b - a - 1, by omega⟩
        have hsp2 : ps = z_bts S 0 a ++ a :: z_bts S (a + 1) n9 := by
          rw [hsp, hn9]
          show _ ++ (if S.testBit a then a :: z_bts S (a + 1) n9 else z_bts S (a + 1) n9) = _
          rw [e]; rfl
        have hgd := z_gD hsp2
        have hlt : (z_bts S 0 a).length < ps.length := by rw [hsp2, List.length_append, List.length_cons]; omega
        obtain ⟨w1, w0, w2⟩ := z_bo4 ps.length hp4 _ hlt
        have hsym : (m a).testBit b = (m b).testBit a := by
          cases e1 : (m a).testBit b with
          | true => exact ((hw.2 a b (by omega) e1).2.2.2).symm
          | false =>
            cases e2 : (m b).testBit a with
            | false => rfl
            | true => rw [(hw.2 b a (by omega) e2).2.2.2] at e1; cases e1
        have hrb : z_rb m ps b ((z_bts S 0 a).length + 1) = z_rb m ps b (z_bts S 0 a).length ||| (if (m b).testBit a then 2 ^ (ps.length * (ps.length - 1) / 2 + (z_bts S 0 a).length) else 0) := by
          show _ ||| (if (m (ps.getD (z_bts S 0 a).length 0)).testBit b then _ else 0) = _
          rw [hgd, hsym]
        have hrl := z_rb64 m hp4 b (a := (z_bts S 0 a).length) (by omega)
        have hor : c0 ||| z_rb m ps b (z_bts S 0 a).length < 64 := Nat.or_lt_two_pow (n := 6) hc0 hrl
        rw [hll, hrb, ← Nat.or_assoc] at h9
        rw [hr b hbs, z_b01 (hw.1 b (by omega)) (by omega), z_os, z_os]
        cases e3 : (m b).testBit a with
        | true =>
          rw [e3] at h9
          rw [show (bif true then (1 : Int32) else 0) = 1 from rfl, w1, z_or64 _ hor _ w2]
          exact h9
        | false =>
          rw [e3] at h9
          rw [show (bif false then (1 : Int32) else 0) = 0 from rfl, w0, z_or64 _ hor 0 (by decide)]
          exact h9
theorem z_l193_47 {o s S K : Nat} {m : Nat → Nat} (hs : s ≤ 10) (hL : o + s ≤ 5) (hS : S < 2 ^ s) (hw : z_wfm s m) (hr : ∀ b, b < s → I 47 0 (o + b) = Int32.ofNat (m b)) (hK : (z_bts S 0 10).length = K) (hK4 : K ≤ 4) :
    ∀ j b, b + j = 10 → ∀ (c : Nat) (o7 o8 : Option z_V), c < 2 ^ ((z_bts S 0 b).length * ((z_bts S 0 b).length - 1) / 2) → z_ev (d + 2) (193, 9, [some (z_r 33 0), some (z_r 47 0), some (z_i (Int32.ofNat o)), some (z_i (Int32.ofNat S)), some (z_i (Int32.ofNat c)), some (z_i (Int32.ofNat (z_bts S 0 b).length)), some (z_i (Int32.ofNat b)), o7, o8], [], (true, X, I, J)) (some (z_i (I 40 0 (64 * K + z_cdf m (z_bts S 0 b) (z_bts S b j) c))), (true, X, I, J)) := by
  have hS10 : S < 1024 := Nat.lt_of_lt_of_le hS (z_2s s (by omega)).2
  intro j
  induction j with
  | zero =>
    intro b hb c o7 o8 hc
    obtain rfl : b = 10 := by omega
    rw [hK] at hc ⊢
    have c64 := z_c64 hK4 hc
    refine z_q193_9_47 _ _ _ _ _ o7 o8 ⟨fun _ => ⟨64 * K + c, z_o64 K c, by omega, rfl⟩, fun h => absurd ((z_olt (b := 10) (by omega) (by decide)).mp h) (by omega)⟩
  | succ j ih =>
    intro b hb c o7 o8 hc
    have hsn := z_bts_sn S b 0
    rw [Nat.zero_add] at hsn
    have hsp := z_bts_sp S b 0 (10 - b)
    rw [show b + (10 - b) = 10 by omega, Nat.zero_add] at hsp
    have hlen : (z_bts S 0 b).length + (z_bts S b (10 - b)).length = K := by rw [← hK, hsp, List.length_append]
    have e01 := z_b01 hS10 (show b < 10 by omega)
    have hj : 10 - b = j + 1 := by omega
    rw [hj] at hlen
    have c64 := z_c64 (n := (z_bts S 0 b).length) (by omega) hc
    refine z_q193_9_47 _ _ _ _ _ o7 o8 ⟨fun h => absurd ((z_ole (a := 10) (by decide) (by omega)).mp h) (by omega), fun _ => ⟨fun h => ?_, fun h => ?_⟩⟩
    · rw [e01] at h
      cases e : S.testBit b with
      | false => rw [e] at h; exact absurd rfl h
      | true =>
        rw [e] at hsn
        rw [show (if true = true then [b] else []) = [b] from rfl] at hsn
        have h2 : z_bts S b (j + 1) = b :: z_bts S (b + 1) j := by
          show (if S.testBit b then b :: z_bts S (b + 1) j else z_bts S (b + 1) j) = _
          rw [e]; rfl
        rw [h2, List.length_cons] at hlen
        have hp4 : (z_bts S 0 b).length < 4 := by omega
        have hll : (z_bts S 0 (b + 1)).length = (z_bts S 0 b).length + 1 := by rw [hsn, List.length_append, List.length_singleton]
        have h9 := ih (b + 1) (by omega) (c ||| z_rb m (z_bts S 0 b) b (z_bts S 0 b).length) (some (z_i (Int32.ofNat (z_bts S 0 b).length))) (some (z_i (Int32.ofNat b))) (by
          rw [hll, z_tri _ (by omega)]
          exact Nat.or_lt_two_pow (Nat.lt_of_lt_of_le hc (Nat.pow_le_pow_right (by decide) (by omega))) (z_rb_lt m _ b _))
        rw [hll, hsn] at h9
        have h10 := z_l193i_47 (d := d) (X := X) (J := J) hs hL hS hw hr rfl e hp4 c64 h9 b 0 (by omega)
        rw [h2]
        have h11 : c ||| z_rb m (z_bts S 0 b) b (z_bts S 0 0).length = c := Nat.or_zero c
        rw [h11] at h10
        exact h10
    · rw [e01] at h
      cases e : S.testBit b with
      | true => rw [e] at h; exact absurd h (by decide)
      | false =>
        rw [e] at hsn
        rw [show (if false = true then [b] else []) = ([] : List Nat) from rfl, List.append_nil] at hsn
        have h2 : z_bts S b (j + 1) = z_bts S (b + 1) j := by
          show (if S.testBit b then b :: z_bts S (b + 1) j else z_bts S (b + 1) j) = _
          rw [e]; rfl
        have h9 := ih (b + 1) (by omega) c o7 o8 (by rw [hsn]; exact hc)
        rw [hsn] at h9
        rw [h2, z_os]
        exact h9
theorem z_p193_47 (ht : z_Tb I) {o s S K : Nat} {m : Nat → Nat} (hs : s ≤ 10) (hL : o + s ≤ 5) (hS : S < 2 ^ s) (hw : z_wfm s m) (hr : ∀ b, b < s → I 47 0 (o + b) = Int32.ofNat (m b)) (hK : z_pc S = K) (hK1 : 1 ≤ K) (hK4 : K ≤ 4) : z_ev (d + 2) (z_en 193 [z_r 33 0, z_r 47 0, z_i (Int32.ofNat o), z_i (Int32.ofNat S)] (true, X, I, J)) (some (z_i (z_fm (z_fx (z_cdf m [] (z_bts S 0 10) 0)))), (true, X, I, J)) := by
  have hS10 : S < 1024 := Nat.lt_of_lt_of_le hS (z_2s s (by omega)).2
  have hl : (z_bts S 0 10).length = K := by rw [z_bts_len S hS10, hK]
  have h9 := z_l193_47 (d := d) (X := X) (J := J) hs hL hS hw hr hl hK4 10 0 rfl 0 none none (by show 0 < 2 ^ (0 * (0 - 1) / 2); decide)
  have hlt := z_cdf_lt m (z_bts S 0 10) [] 0 (by show 0 + _ < 6; omega) (by show 0 < 2 ^ (0 * (0 - 1) / 2); decide)
  rw [show ([] : List Nat).length + (z_bts S 0 10).length = K by rw [hl]; show 0 + K = K; omega] at hlt
  obtain ⟨t1, -, -⟩ := ht K hK1 hK4
  rw [show z_bts S 0 0 = [] from rfl, t1 _ hlt] at h9
  exact z_q193_e_47 _ _ h9
theorem z_p194_47 (ht : z_Tb I) {o s k i : Nat} {m : Nat → Nat} (hs : s ≤ 10) (hL : o + s ≤ 5) (hw : z_wfm s m) (hr : ∀ b, b < s → I 47 0 (o + b) = Int32.ofNat (m b)) (hk1 : 1 ≤ k) (hk4 : k ≤ 4) (hi : i < 11) : z_ev (d + 3) (z_en 194 [z_r 33 0, z_r 47 0, z_i (Int32.ofNat o), z_i (Int32.ofNat s), z_i (Int32.ofNat k), z_i (z_fm i)] (true, X, I, J)) (some (z_i (Int32.ofNat (z_cnf m s k i))), (true, X, I, J)) := by
  obtain ⟨w1, w2⟩ := z_2s s (by omega)
  rw [← z_cnf_set (by omega) (by omega)]
  have key : ∀ j S, S + j = 2 ^ s → z_ev (d + 3) (194, 6, [some (z_r 33 0), some (z_r 47 0), some (z_i (Int32.ofNat o)), some (z_i (Int32.ofNat s)), some (z_i (Int32.ofNat k)), some (z_i (z_fm i)), some (z_i (Int32.ofNat ((List.range S).countP (fun S => Nat.beq (z_pc S) k && Nat.beq (z_fx (z_cdf m [] (z_bts S 0 10) 0)) i)))), some (z_i (Int32.ofNat S))], [], (true, X, I, J)) (some (z_i (Int32.ofNat ((List.range (2 ^ s)).countP (fun S => Nat.beq (z_pc S) k && Nat.beq (z_fx (z_cdf m [] (z_bts S 0 10) 0)) i)))), (true, X, I, J)) := by
    intro j
    induction j with
    | zero =>
      intro S hS
      obtain rfl : S = 2 ^ s := by omega
      refine z_q194_6_47 _ _ _ _ _ _ ⟨fun _ => rfl, fun h => ?_⟩
      rw [w1] at h
      exact absurd ((z_olt (by omega) (by omega)).mp h) (by omega)
    | succ j ih =>
      intro S hS
      have h9 := ih (S + 1) (by omega)
      rw [List.range_succ, List.countP_append, List.countP_singleton] at h9
      have S10 : S < 1024 := by omega
      have h170 := z_p170 (d := d + 2) (X := X) (I := I) (J := J) (z_r10_of S10)
      rw [z_pc_bc S (by omega)] at h170
      have hpc : z_pc S ≤ 11 := by
        unfold z_pc
        exact List.length_filter_le _ _
      refine z_q194_6_47 _ _ _ _ _ _ ⟨fun h => ?_, fun _ => ⟨_, _, _, _, h170, fun h => ?_, fun h => ?_⟩⟩
      · rw [w1] at h
        exact absurd ((z_ole (by omega) (by omega)).mp h) (by omega)
      · have hne : Nat.beq (z_pc S) k = false := Bool.eq_false_iff.mpr (fun q => h (by rw [Nat.eq_of_beq_eq_true q]))
        rw [hne, Bool.false_and, if_neg (by decide), Nat.add_zero] at h9
        rw [Int32.add_zero, z_os]
        exact h9
      · have hK : z_pc S = k := (z_oeq (by omega) (by omega)).mp h
        have h193 := z_p193_47 (d := d) (X := X) (J := J) ht hs hL (show S < 2 ^ s by omega) hw hr hK hk1 hk4
        have hll : (z_bts S 0 10).length = k := by rw [z_bts_len S S10, hK]
        have hlt := z_cdf_lt m (z_bts S 0 10) [] 0 (by show 0 + _ < 6; omega) (by show 0 < 2 ^ (0 * (0 - 1) / 2); decide)
        rw [show ([] : List Nat).length + (z_bts S 0 10).length = k by rw [hll]; show 0 + k = k; omega] at hlt
        have f11 := (z_fx_all _ (z_c64 hk4 hlt)).2
        rw [hK, Nat.beq_refl, Bool.true_and] at h9
        refine ⟨_, _, _, _, h193, fun h2 => ?_, fun h2 => ?_⟩
        · have hne : Nat.beq (z_fx (z_cdf m [] (z_bts S 0 10) 0)) i = false := Bool.eq_false_iff.mpr (fun q => h2 (by rw [Nat.eq_of_beq_eq_true q]))
          rw [hne, if_neg (by decide), Nat.add_zero] at h9
          rw [Int32.add_zero, z_os]
          exact h9
        · have he : z_fx (z_cdf m [] (z_bts S 0 10) 0) = i := z_fm_inj _ f11 _ hi h2
          rw [he, Nat.beq_refl, if_pos rfl] at h9
          rw [z_os, z_os]
          exact h9
  exact z_q194_e_47 _ _ _ _ (key (2 ^ s) 0 (by omega))
end
