/-! calls of both: draw, its loops -/
theorem z_cdf_sn (m : Nat → Nat) : ∀ (l ps : List Nat) (p c : Nat), z_cdf m ps (l ++ [p]) c = z_cdf m ps l c ||| z_rb m (ps ++ l) p (ps ++ l).length
  | [], ps, p, c => by rw [List.append_nil]; rfl
  | x :: l, ps, p, c => by
    show z_cdf m (ps ++ [x]) (l ++ [p]) _ = z_cdf m (ps ++ [x]) l _ ||| _
    rw [z_cdf_sn m l (ps ++ [x]), List.append_assoc]; rfl
/-- posts drawn, their set, z -/
def z_dws (s : Nat) (w : List Nat × Nat × Int32) : List Nat × Nat × Int32 := (w.1 ++ [z_fp w.2.1 s 0 ((z_lo w.2.2).toNatClampNeg % (s - w.1.length))], w.2.1 ||| 2 ^ (z_fp w.2.1 s 0 ((z_lo w.2.2).toNatClampNeg % (s - w.1.length))), z_nz w.2.2)
def z_dwn (s : Nat) (z : Int32) : Nat → List Nat × Nat × Int32
  | 0 => ([], 0, z)
  | t + 1 => z_dws s (z_dwn s z t)
theorem z_dwn_ok {s : Nat} (hs : s ≤ 10) (z : Int32) : ∀ t, t ≤ s → (z_dwn s z t).1.length = t ∧ (z_dwn s z t).2.1 < 2 ^ s ∧ z_pc (z_dwn s z t).2.1 = t ∧ (∀ x, (z_dwn s z t).2.1.testBit x = true ↔ x ∈ (z_dwn s z t).1) ∧ (z_dwn s z t).1.Nodup ∧ ∀ x ∈ (z_dwn s z t).1, x < s
  | 0, _ => ⟨rfl, Nat.two_pow_pos s, by show z_pc 0 = 0; decide, fun x => by show (0 : Nat).testBit x = true ↔ x ∈ []; simp, List.nodup_nil, fun x hx => by cases hx⟩
  | t + 1, ht => by
    obtain ⟨h1, h2, h3, h4, h5, h6⟩ := z_dwn_ok hs z t (by omega)
    have w := z_uns_tab s (by omega) _ h2
    have hr : (z_lo (z_dwn s z t).2.2).toNatClampNeg % (s - (z_dwn s z t).1.length) < z_uns (z_dwn s z t).2.1 s 0 := by
      have := Nat.mod_lt (z_lo (z_dwn s z t).2.2).toNatClampNeg (show s - (z_dwn s z t).1.length > 0 by omega)
      omega
    obtain ⟨p1, p2, p3⟩ := z_fp_ok _ s 0 _ hr
    have e : z_dwn s z (t + 1) = z_dws s (z_dwn s z t) := rfl
    rw [e]
    unfold z_dws
    generalize z_fp (z_dwn s z t).2.1 s 0 ((z_lo (z_dwn s z t).2.2).toNatClampNeg % (s - (z_dwn s z t).1.length)) = p at p1 p2 p3 ⊢
    have hS10 : (z_dwn s z t).2.1 < 1024 := Nat.lt_of_lt_of_le h2 (z_2s s (by omega)).2
    have hpn : p ∉ (z_dwn s z t).1 := fun h => by rw [(h4 p).mpr h] at p3; cases p3
    refine ⟨by rw [List.length_append, List.length_singleton, h1], Nat.or_lt_two_pow h2 (Nat.pow_lt_pow_right (by decide) (by omega)), by rw [z_pc_or _ hS10 p (by omega) p3, h3], fun x => ?_, ?_, fun x hx => ?_⟩
    · show ((z_dwn s z t).2.1 ||| 2 ^ p).testBit x = true ↔ _
      rw [Nat.testBit_or, Nat.testBit_two_pow, Bool.or_eq_true, decide_eq_true_iff, h4 x, List.mem_append, List.mem_singleton]
      exact ⟨fun h => h.imp id Eq.symm, fun h => h.imp id Eq.symm⟩
    · rw [List.nodup_append]
      refine ⟨h5, List.pairwise_singleton _ _, fun a ha b hb => ?_⟩
      rw [List.mem_singleton] at hb
      subst hb
      exact fun q => hpn (q ▸ ha)
    · rw [List.mem_append, List.mem_singleton] at hx
      rcases hx with hx | rfl
      · exact h6 x hx
      · omega
theorem z_modn {a b : Nat} (ha : a ≤ 1000000) (hb : b ≤ 1000000) : Int32.ofNat a - Int32.ofNat a / Int32.ofNat b * Int32.ofNat b = Int32.ofNat (a % b) := by
  rw [← Int32.ofNat_div (by omega) (by omega), ← Int32.ofNat_mul, ← Int32.ofNat_sub _ _ (Nat.div_mul_le_self a b)]
  congr 1
  have h := Nat.mod_add_div a b
  rw [Nat.mul_comm] at h
  omega
theorem z_subn {a b : Nat} (h : b ≤ a) : Int32.ofNat a - Int32.ofNat b = Int32.ofNat (a - b) := (Int32.ofNat_sub a b h).symm
section
variable {d : Nat} {X : z_X} {I : Nat → Nat → Nat → Int32} {J : Nat → Nat → Nat → Int64}
theorem z_p133 {S M s pl : Nat} (hs : s ≤ 10) (hM : M < 1024) (hb : ∀ b, b < 10 → M.testBit b = (decide (b < s) && !S.testBit b)) (hpl : pl < z_uns S s 0) (hp2 : pl ≤ 1000) : z_ev d (z_en 133 [z_i (Int32.ofNat M), z_i (Int32.ofNat pl)] (true, X, I, J)) (some (z_i (Int32.ofNat (z_fp S s 0 pl))), (true, X, I, J)) := by
  have key : ∀ j b u r, b + j = s → u + r = pl → r < z_uns S j b → z_ev d (133, 4, [some (z_i (Int32.ofNat M)), some (z_i (Int32.ofNat pl)), some (z_i (Int32.ofNat u)), some (z_i (Int32.ofNat b))], [], (true, X, I, J)) (some (z_i (Int32.ofNat (z_fp S j b r))), (true, X, I, J)) := by
    intro j
    induction j with
    | zero => intro b u r _ _ h; exact absurd h (Nat.not_lt_zero _)
    | succ j ih =>
      intro b u r h1 h2 h3
      have h3 : r < (if S.testBit b then 0 else 1) + z_uns S j (b + 1) := h3
      have e0 : z_fp S (j + 1) b r = (if S.testBit b then z_fp S j (b + 1) r else (if r = 0 then b else z_fp S j (b + 1) (r - 1))) := rfl
      rw [e0]
      have e01 := z_b01 hM (show b < 10 by omega)
      rw [hb b (by omega), decide_eq_true (show b < s by omega), Bool.true_and] at e01
      have g0 : ∀ {P : Prop}, (10 : Int32) ≤ Int32.ofNat b → P := fun h => absurd ((z_ole (a := 10) (by decide) (by omega)).mp h) (by omega)
      cases e : S.testBit b with
      | true =>
        rw [e, if_pos rfl] at h3
        rw [e] at e01
        rw [if_pos rfl]
        exact z_q133_4 _ _ _ _ ⟨fun h => g0 h, fun _ => ⟨fun _ => by rw [z_os]; exact ih (b + 1) u r (by omega) h2 (by omega), fun h => absurd e01 h⟩⟩
      | false =>
        rw [e, if_neg (by decide)] at h3
        rw [e] at e01
        rw [if_neg (by decide)]
        have ne : ¬ (Int32.ofNat M >>> (Int32.ofNat b &&& 31)) &&& 1 = 0 := by rw [e01]; decide
        by_cases hr : r = 0
        · rw [if_pos hr]
          exact z_q133_4 _ _ _ _ ⟨fun h => g0 h, fun _ => ⟨fun h => absurd h ne, fun _ => ⟨fun h => absurd (by rw [show u = pl by omega]) h, fun _ => rfl⟩⟩⟩
        · rw [if_neg hr]
          exact z_q133_4 _ _ _ _ ⟨fun h => g0 h, fun _ => ⟨fun h => absurd h ne, fun _ => ⟨fun _ => by rw [z_os, z_os]; exact ih (b + 1) (u + 1) (r - 1) (by omega) (by omega) (by omega), fun h => absurd ((z_oeq (by omega) (by omega)).mp h) (by omega)⟩⟩⟩
  exact z_q133_e _ _ (key s 0 0 pl (by omega) (by omega) hpl)
theorem z_l226i {S s n k t : Nat} (hs : s ≤ 10) (hS : S < 1024) : ∀ j b r, b + j = s → r < z_uns S j b → r ≤ 1000 → ∀ rr, z_ev (d + 3) (226, 36, [some (z_r 33 0), some (z_i (Int32.ofNat n)), some (z_i (Int32.ofNat k)), some (z_i (Int32.ofNat (S ||| 2 ^ (z_fp S j b r)))), some (z_i (Int32.ofNat (t + 1))), some (z_i (Int32.ofNat 0)), some (z_i (Int32.ofNat (z_fp S j b r)))], [], (true, X, I, J)) rr →
    z_ev (d + 3) (226, 61, [some (z_r 33 0), some (z_i (Int32.ofNat n)), some (z_i (Int32.ofNat k)), some (z_i (Int32.ofNat S)), some (z_i (Int32.ofNat t)), some (z_i (Int32.ofNat r)), some (z_i (Int32.ofNat b))], [], (true, X, I, J)) rr := by
  intro j
  induction j with
  | zero => intro b r _ h; exact absurd h (Nat.not_lt_zero _)
  | succ j ih =>
    intro b r h1 h3 hr9 rr hk
    have h3 : r < (if S.testBit b then 0 else 1) + z_uns S j (b + 1) := h3
    have e0 : z_fp S (j + 1) b r = (if S.testBit b then z_fp S j (b + 1) r else (if r = 0 then b else z_fp S j (b + 1) (r - 1))) := rfl
    rw [e0] at hk
    have e01 := z_b01 hS (show b < 10 by omega)
    cases e : S.testBit b with
    | true =>
      rw [e, if_pos rfl] at h3
      rw [e] at e01
      rw [e, if_pos rfl] at hk
      refine z_q226_61 _ _ _ _ _ _ ⟨fun _ => ?_, fun h => absurd e01 h⟩
      rw [z_os, Int32.sub_zero]
      exact ih (b + 1) r (by omega) (by omega) hr9 rr hk
    | false =>
      rw [e, if_neg (by decide)] at h3
      rw [e] at e01
      rw [e, if_neg (by decide)] at hk
      have ne : ¬ (Int32.ofNat S >>> (Int32.ofNat b &&& 31)) &&& 1 = 1 := by rw [e01]; decide
      by_cases hr : r = 0
      · rw [if_pos hr] at hk
        refine z_q226_61 _ _ _ _ _ _ ⟨fun h => absurd h ne, fun _ => ⟨fun _ => ?_, fun h => ?_⟩⟩
        · rw [z_or1k S hS b (by omega), z_os, hr]; exact hk
        · rw [hr] at h; exact absurd h (by decide)
      · rw [if_neg hr] at hk
        refine z_q226_61 _ _ _ _ _ _ ⟨fun h => absurd h ne, fun _ => ⟨fun h => ?_, fun _ => ?_⟩⟩
        · have := (z_ole (b := 0) (by omega) (by decide)).mp h
          omega
        · rw [z_os, show Int32.ofNat r - 1 = Int32.ofNat (r - 1) from z_subn (b := 1) (by omega)]
          exact ih (b + 1) (r - 1) (by omega) (by omega) (by omega) rr hk
theorem z_l226 (ht : z_Tb I) {n s k : Nat} {m : Nat → Nat} {z : Int32} (hn : n < 4) (hs : s ≤ 10) (hw : z_wfm s m) (e34 : I 34 0 n = Int32.ofNat s) (hr5 : ∀ p, p < 10 → I 35 0 (10 * n + p) = Int32.ofNat (m p)) (hk1 : 1 ≤ k) (hk : k ≤ 4) (hks : k ≤ s) :
    ∀ j t, t + j = k → ∀ (o5 o6 : Option z_V) I1, I1 33 0 7 = (z_dwn s z t).2.2 → z_fr (z_mf n) I I1 → I1 35 = I 35 →
    ∃ I', z_ev (d + 3) (226, 36, [some (z_r 33 0), some (z_i (Int32.ofNat n)), some (z_i (Int32.ofNat k)), some (z_i (Int32.ofNat (z_dwn s z t).2.1)), some (z_i (Int32.ofNat t)), o5, o6], [], (true, X, I1, J)) (some (z_i (z_fm (z_fl m (z_bts (z_dwn s z k).2.1 0 10)))), (true, X, I', J)) ∧ I' 33 0 7 = (z_dwn s z k).2.2 ∧ z_fr (z_mf n) I I' ∧ I' 35 = I 35 := by
  intro j
  induction j with
  | zero =>
    intro t htk o5 o6 I1 h1 h2 h3
    obtain rfl : t = k := by omega
    obtain ⟨w1, w2, w3, w4, w5, w6⟩ := z_dwn_ok hs z t hks
    have ht1 : z_Tb I1 := z_Tb_c (z_fr_t h2 40 (fun _ _ => rfl)) (z_fr_t h2 41 (fun _ _ => rfl)) (z_fr_t h2 42 (fun _ _ => rfl)) ht
    have p193 := z_p193_35 (d := d) (X := X) (I := I1) (J := J) ht1 (o := 10 * n) hs (by omega) w2 hw (fun b hb => by rw [h3]; exact hr5 b (by omega)) w3 hk1 hk
    refine ⟨I1, z_q226_36 _ _ _ _ o5 o6 ⟨fun _ => ⟨_, _, _, _, ?_, rfl⟩, fun h => absurd ((z_olt (by omega) (by omega)).mp h) (by omega)⟩, h1, h2, h3⟩
    rw [show (10 : Int32) * Int32.ofNat n = Int32.ofNat (10 * n) from (Int32.ofNat_mul 10 n).symm]
    exact p193
  | succ j ih =>
    intro t htk o5 o6 I1 h1 h2 h3
    obtain ⟨w1, w2, w3, w4, w5, w6⟩ := z_dwn_ok hs z t (by omega)
    have hS10 : (z_dwn s z t).2.1 < 1024 := Nat.lt_of_lt_of_le w2 (z_2s s (by omega)).2
    have w := z_uns_tab s (by omega) _ w2
    obtain ⟨v1, v2⟩ := z_lo_nat (z_dwn s z t).2.2
    obtain ⟨r, hr⟩ : ∃ r, r = (z_lo (z_dwn s z t).2.2).toNatClampNeg % (s - (z_dwn s z t).1.length) := ⟨_, rfl⟩
    have hrl : r < s - t := by rw [hr, w1]; exact Nat.mod_lt _ (by omega)
    have e : z_dwn s z (t + 1) = z_dws s (z_dwn s z t) := rfl
    have e1 : (z_dwn s z (t + 1)).2.1 = (z_dwn s z t).2.1 ||| 2 ^ (z_fp (z_dwn s z t).2.1 s 0 r) := by rw [e, hr]; rfl
    have e2 : (z_dwn s z (t + 1)).2.2 = z_nz (z_dwn s z t).2.2 := by rw [e]; rfl
    have p222 := z_p222 (d := d + 2) (X := X) (I := I1) (J := J)
    obtain ⟨I2, hI2⟩ : ∃ I2, I2 = z_up I1 33 0 7 (z_nz (I1 33 0 7)) := ⟨_, rfl⟩
    rw [← hI2] at p222
    obtain ⟨I', c1, c2⟩ := ih (t + 1) (by omega) (some (z_i (Int32.ofNat 0))) (some (z_i (Int32.ofNat (z_fp (z_dwn s z t).2.1 s 0 r)))) I2 (by rw [hI2, z_up_e, e2, h1]) (by rw [hI2]; exact z_fr_up h2 (z_mf_37 n)) (by rw [hI2, z_up_t (by decide)]; exact h3)
    rw [e1] at c1
    have e342 : I2 34 0 n = Int32.ofNat s := by rw [hI2, z_up_t (by decide), z_fr_t h2 34 (fun _ _ => rfl)]; exact e34
    refine ⟨I', z_q226_36 _ _ _ _ o5 o6 ⟨fun h => absurd ((z_ole (by omega) (by omega)).mp h) (by omega), fun _ => ⟨_, _, _, _, p222, n, rfl, hn, ?_, ?_⟩⟩, c2⟩
    · rw [e342, z_subn (by omega)]
      exact fun q => absurd ((z_oeq (b := 0) (by omega) (by decide)).mp q) (by omega)
    · rw [e342, z_subn (show t ≤ s by omega), h1, v1, z_modn (by omega) (by omega), show (z_lo (z_dwn s z t).2.2).toNatClampNeg % (s - t) = r by rw [hr, w1]]
      exact z_l226i hs hS10 s 0 r (by omega) (by omega) (by omega) _ c1
theorem z_l92 {n s k : Nat} {m : Nat → Nat} {z : Int32} (hn : n < 10) (hs : s ≤ 10) (hw : z_wfm s m) (es : I 13 n 1 = Int32.ofNat s) (hr : z_hm I 14 n 0 m) (hk : k ≤ 4) (hks : k ≤ s) (x1 : Int32) :
    ∀ j t, t + j = k → ∀ (o7 : Option z_V) (M : Nat) I1, M < 1024 → (∀ b, b < 10 → M.testBit b = (decide (b < s) && !(z_dwn s z t).2.1.testBit b)) → I1 1 0 6 = (z_dwn s z t).2.2 → (∀ i, i < t → I1 26 0 i = Int32.ofNat ((z_dwn s z t).1.getD i 0)) → z_fr (fun a b c => z_tq 0 a b c || (Nat.beq a 1 && Nat.beq b 0 && Nat.beq c 6)) I I1 →
    ∃ I', z_ev (d + 2) (92, 56, [some (z_r 0 0), some (z_i x1), some (z_i (Int32.ofNat k)), some (z_r 13 n), some (z_i (Int32.ofNat M)), some (z_i (Int32.ofNat (z_cdf m [] (z_dwn s z t).1 0))), some (z_i (Int32.ofNat t)), o7], [], (true, X, I1, J)) (some (z_i (z_fm (z_fl m (z_dwn s z k).1))), (true, X, I', J)) ∧ I' 1 0 6 = (z_dwn s z k).2.2 ∧ z_fr (fun a b c => z_tq 0 a b c || (Nat.beq a 1 && Nat.beq b 0 && Nat.beq c 6)) I I' := by
  intro j
  induction j with
  | zero =>
    intro t htk o7 M I1 hM hb h1 h2 h3
    obtain rfl : t = k := by omega
    obtain ⟨w1, w2, w3, w4, w5, w6⟩ := z_dwn_ok hs z t hks
    have hlt := z_cdf_lt m (z_dwn s z t).1 [] 0 (by show 0 + _ < 6; omega) (by show 0 < 2 ^ (0 * (0 - 1) / 2); decide)
    rw [show ([] : List Nat).length + (z_dwn s z t).1.length = t by rw [w1]; show 0 + t = t; omega] at hlt
    have c64 := z_c64 hk hlt
    obtain ⟨f1, f2⟩ := z_fx_all _ c64
    exact ⟨I1, z_q92_56 _ _ n hn _ _ _ o7 ⟨fun _ => ⟨_, z_an63 _ c64, c64, _, f1, f2, rfl⟩, fun h => absurd ((z_olt (by omega) (by omega)).mp h) (by omega)⟩, h1, h3⟩
  | succ j ih =>
    intro t htk o7 M I1 hM hb h1 h2 h3
    obtain ⟨w1, w2, w3, w4, w5, w6⟩ := z_dwn_ok hs z t (by omega)
    have hS10 : (z_dwn s z t).2.1 < 1024 := Nat.lt_of_lt_of_le w2 (z_2s s (by omega)).2
    have w := z_uns_tab s (by omega) _ w2
    obtain ⟨v1, v2⟩ := z_lo_nat (z_dwn s z t).2.2
    obtain ⟨r, hrr⟩ : ∃ r, r = (z_lo (z_dwn s z t).2.2).toNatClampNeg % (s - (z_dwn s z t).1.length) := ⟨_, rfl⟩
    have hrl : r < s - t := by rw [hrr, w1]; exact Nat.mod_lt _ (by omega)
    have hru : r < z_uns (z_dwn s z t).2.1 s 0 := by omega
    obtain ⟨p1, p2, p3⟩ := z_fp_ok _ s 0 r hru
    obtain ⟨p, hp⟩ : ∃ p, p = z_fp (z_dwn s z t).2.1 s 0 r := ⟨_, rfl⟩
    rw [← hp] at p1 p2 p3
    have e : z_dwn s z (t + 1) = z_dws s (z_dwn s z t) := rfl
    have e0 : (z_dwn s z (t + 1)).1 = (z_dwn s z t).1 ++ [p] := by rw [e, hp, hrr]; rfl
    have e1 : (z_dwn s z (t + 1)).2.1 = (z_dwn s z t).2.1 ||| 2 ^ p := by rw [e, hp, hrr]; rfl
    have e2 : (z_dwn s z (t + 1)).2.2 = z_nz (z_dwn s z t).2.2 := by rw [e]; rfl
    have p65 := z_p65 (d := d + 1) (X := X) (I := I1) (J := J)
    obtain ⟨I2, hI2⟩ : ∃ I2, I2 = z_up I1 1 0 6 (z_nz (I1 1 0 6)) := ⟨_, rfl⟩
    rw [← hI2] at p65
    have p133 := z_p133 (d := d + 1) (X := X) (I := I2) (J := J) hs hM hb hru (by omega)
    rw [← hp] at p133
    obtain ⟨I3, hI3⟩ : ∃ I3, I3 = z_up I2 26 0 t (Int32.ofNat p) := ⟨_, rfl⟩
    have f3 : z_fr (fun a b c => z_tq 0 a b c || (Nat.beq a 1 && Nat.beq b 0 && Nat.beq c 6)) I I3 := by
      rw [hI3, hI2]
      exact z_fr_up (z_fr_up h3 rfl) rfl
    have k3 : ∀ i, i < t → I3 26 0 i = Int32.ofNat ((z_dwn s z t).1.getD i 0) := fun i hi => by rw [hI3, z_up_j (by omega), hI2, z_up_t (by decide)]; exact h2 i hi
    have hgl : ∀ i, i < t → (z_dwn s z t).1.getD i 0 < 10 := fun i hi => by
      have h9 : (z_dwn s z t).1[i]? = some (z_dwn s z t).1[i] := List.getElem?_eq_getElem (by omega)
      rw [List.getD_eq_getElem?_getD, h9]
      have := w6 _ (List.mem_of_getElem? h9)
      show (z_dwn s z t).1[i] < 10
      omega
    have p44 := z_p44 (d := d) (X := X) (I := I3) (J := J) (q := 0) (q1 := n) (p := p) (m := m) (ps := (z_dwn s z t).1) (by decide) hn hw.1 (fun b hb => by rw [z_fr_t f3 14 (fun _ _ => rfl)]; exact hr b hb) (by omega) (fun i hi => ⟨k3 i (by omega), hgl i (by omega)⟩) (by omega)
    rw [w1] at p44
    obtain ⟨M2, hM2⟩ : ∃ M2, M2 = z_sb M p false := ⟨_, rfl⟩
    have hlt := z_cdf_lt m (z_dwn s z t).1 [] 0 (by show 0 + _ < 6; omega) (by show 0 < 2 ^ (0 * (0 - 1) / 2); decide)
    rw [show ([] : List Nat).length + (z_dwn s z t).1.length = t by rw [w1]; show 0 + t = t; omega] at hlt
    have c64 := z_c64 (show t ≤ 4 by omega) hlt
    have r64 := z_rb64 m (ps := (z_dwn s z t).1) (by omega) p (a := t) (by omega)
    obtain ⟨I', c1, c2⟩ := ih (t + 1) (by omega) (some (z_i (Int32.ofNat p))) M2 I3 (by rw [hM2]; exact z_sb_lt hM (by omega) false) (fun b hb9 => by
      rw [hM2, z_sb_tb hM (by omega), e1, Nat.testBit_or, Nat.testBit_two_pow, hb b hb9]
      by_cases h : b = p
      · rw [if_pos h, decide_eq_true h.symm, Bool.or_true, Bool.not_true, Bool.and_false]
      · rw [if_neg h, decide_eq_false (show ¬ p = b from fun q => h q.symm), Bool.or_false]) (by rw [hI3, z_up_t (by decide), hI2, z_up_e, e2, h1]) (fun i hi => by
      rw [e0]
      by_cases h : i = t
      · subst h
        rw [hI3, z_up_e]
        have h9 := z_gA (ps := (z_dwn s z i).1) (a := p)
        rw [w1] at h9
        rw [h9]
      · rw [z_gL (by omega)]
        exact k3 i (by omega)) f3
    have ec : z_cdf m [] (z_dwn s z (t + 1)).1 0 = z_cdf m [] (z_dwn s z t).1 0 ||| z_rb m (z_dwn s z t).1 p t := by
      rw [e0, z_cdf_sn]
      rw [List.nil_append, w1]
    rw [ec, ← z_or64 _ c64 _ r64] at c1
    have e132 : I2 13 n 1 = Int32.ofNat s := by rw [hI2, z_up_t (by decide), z_fr_t h3 13 (fun _ _ => rfl)]; exact es
    refine ⟨I', z_q92_56 _ _ n hn _ _ _ o7 ⟨fun h => absurd ((z_ole (by omega) (by omega)).mp h) (by omega), fun _ => ⟨_, _, _, _, p65, ?_, Int32.ofNat p, X, I2, J, ?_, t, rfl, by omega, Int32.ofNat (z_rb m (z_dwn s z t).1 p t), X, I3, J, ?_, ?_⟩⟩, c2⟩
    · rw [e132, z_subn (by omega)]
      exact fun q => absurd ((z_oeq (b := 0) (by omega) (by decide)).mp q) (by omega)
    · rw [e132, z_subn (show t ≤ s by omega), h1, v1, z_modn (by omega) (by omega), show (z_lo (z_dwn s z t).2.2).toNatClampNeg % (s - t) = r by rw [hrr, w1]]
      exact p133
    · rw [← hI3]; exact p44
    · have h9 := z_bs_sb hM (show p < 10 by omega) false
      rw [← hM2] at h9
      have h10 : z_bs (Int32.ofNat M) p false = Int32.ofNat M &&& (((1 : Int32) <<< (Int32.ofNat p &&& 31)) ^^^ -1) := rfl
      rw [← h10, h9, z_os]
      exact c1
end
