/-! calls of both: most -/
def z_e1 (x : Nat) : Int32 := if x = 0 then -1 else Int32.ofNat (x - 1)
def z_e3 (x : Nat) : Int32 := if x = 0 then -3 else Int32.ofNat (x - 1)
theorem z_e1_i {x : Nat} (h : x ≤ 1000) : (z_e1 x).toInt = (x : Int) - 1 := by
  unfold z_e1
  split
  · next g => rw [g]; rfl
  · rw [Int32.toInt_ofNat_of_lt (by omega)]; omega
theorem z_e3_i {x : Nat} (h : x ≤ 1000) : (z_e3 x).toInt = if x = 0 then -3 else (x : Int) - 1 := by
  unfold z_e3
  split
  · rfl
  · rw [Int32.toInt_ofNat_of_lt (by omega)]; omega
theorem z_e1_mx {a b : Nat} (ha : a ≤ 1000) (hb : b ≤ 1000) : (if z_e1 a < z_e1 b then z_e1 b else z_e1 a) = z_e1 (max a b) := by
  have h : z_e1 a < z_e1 b ↔ a < b := by rw [Int32.lt_iff_toInt_lt, z_e1_i ha, z_e1_i hb]; omega
  by_cases g : a < b
  · rw [if_pos (h.mpr g), Nat.max_eq_right (by omega)]
  · rw [if_neg (fun q => g (h.mp q)), Nat.max_eq_left (by omega)]
theorem z_e3_lt {a b : Nat} (ha : a ≤ 1000) (hb : b ≤ 1000) : z_e3 a < z_e3 b ↔ a < b := by
  rw [Int32.lt_iff_toInt_lt, z_e3_i ha, z_e3_i hb]
  split <;> split <;> omega
theorem z_mxl_b {l : List Nat} (h : ∀ x ∈ l, x ≤ 253) : z_mxl l ≤ 1000 := Nat.le_trans (z_mxl_le h) (by decide)
theorem z_vv_le {l : List (Nat × Nat)} {n k j c : Nat} (hn : n ≤ 5) (hk : k ≤ 4) : z_vv l n k j c ≤ 253 := by
  unfold z_vv
  split
  · exact Nat.succ_le_succ (z_cnf_le (by omega) (by omega) _ _)
  · omega
theorem z_hpp_tb (l : List (Nat × Nat)) (k : Nat) : ∀ n i, i < n → (z_hpp l k n).testBit i = z_fre l (z_cmn k (z_fmn i)) k
  | n + 1, i, h => by
    show (z_hpp l k n ||| (if z_fre l (z_cmn k (z_fmn n)) k then 2 ^ n else 0)).testBit i = _
    rw [Nat.testBit_or]
    by_cases e : i = n
    · subst e
      rw [Nat.testBit_lt_two_pow (z_hpp_lt l k i), Bool.false_or]
      cases z_fre l (z_cmn k (z_fmn i)) k with
      | false => simp
      | true => simp
    · rw [z_hpp_tb l k n i (by omega)]
      have h2 : (if z_fre l (z_cmn k (z_fmn n)) k then 2 ^ n else 0 : Nat).testBit i = false := by
        split
        · rw [Nat.testBit_two_pow]
          exact decide_eq_false (fun q => e q.symm)
        · exact Nat.zero_testBit i
      rw [h2, Bool.or_false]
theorem z_sumf_add (f g : Nat → Nat) : ∀ n, z_sumf (fun i => f i + g i) n = z_sumf f n + z_sumf g n
  | 0 => rfl
  | n + 1 => by
    show z_sumf (fun i => f i + g i) n + (f n + g n) = z_sumf f n + f n + (z_sumf g n + g n)
    rw [z_sumf_add f g n]
    omega
theorem z_sumf_cg {f g : Nat → Nat} : ∀ n, (∀ i, i < n → f i = g i) → z_sumf f n = z_sumf g n
  | 0, _ => rfl
  | n + 1, h => by
    show z_sumf f n + f n = z_sumf g n + g n
    rw [z_sumf_cg n (fun i hi => h i (by omega)), h n (by omega)]
theorem z_sumf_dl (g : Nat → Nat) (x : Nat) : ∀ n, z_sumf (fun i => if x = i then g i else 0) n = if x < n then g x else 0
  | 0 => rfl
  | n + 1 => by
    show z_sumf (fun i => if x = i then g i else 0) n + (if x = n then g n else 0) = _
    rw [z_sumf_dl g x n]
    by_cases h : x = n
    · subst h
      rw [if_neg (by omega), if_pos rfl, if_pos (by omega), Nat.zero_add]
    · rw [if_neg h, Nat.add_zero]
      by_cases h2 : x < n
      · rw [if_pos h2, if_pos (by omega)]
      · rw [if_neg h2, if_neg (by omega)]
theorem z_sumf_cnt (g : Nat → Nat) (n : Nat) : ∀ L : List Nat, (∀ f ∈ L, f < n) → z_sumf (fun i => L.countP (fun f => Nat.beq f i) * g i) n = z_sml (L.map g)
  | [], _ => by
    have : ∀ n, z_sumf (fun i => ([] : List Nat).countP (fun f => Nat.beq f i) * g i) n = 0 := fun n => by
      induction n with
      | zero => rfl
      | succ n ih => show _ + _ = 0; rw [ih]; simp
    exact this n
  | x :: L, h => by
    show _ = g x + z_sml (L.map g)
    rw [← z_sumf_cnt g n L (fun f hf => h f (List.mem_cons_of_mem x hf)), Nat.add_comm]
    have e2 := z_sumf_dl g x n
    rw [if_pos (h x (List.mem_cons_self ..))] at e2
    rw [← e2, ← z_sumf_add]
    apply z_sumf_cg
    intro i _
    rw [List.countP_cons]
    by_cases e : x = i
    · rw [if_pos e, if_pos (by rw [e]; exact Nat.beq_refl i), Nat.succ_mul]
    · rw [if_neg e, if_neg (fun q => e (Nat.eq_of_beq_eq_true q))]
      simp
theorem z_tE : ∀ i, i < 11 → ∀ r, r < 16 → ∀ p, p < 10 → z_mls (z_cmn 5 (z_fmn i + 64 * (r - 1))) 4 (z_bt (Int32.ofNat r)) 4 p = z_cmn 5 (z_fmn i + 64 * r) p := by decide +kernel
theorem z_tE0 : ∀ i, i < 11 → ∀ p, p < 10 → z_cmn 4 (z_fmn i) p = z_cmn 5 (z_fmn i + 64 * (0 - 1)) p := by decide +kernel
theorem z_tF : ∀ i, i < 11 → z_fm i = Int32.ofNat (z_fmn i) ∧ z_fmn i < 64 := by decide +kernel
theorem z_F5_lt (m : Nat → Nat) : ∀ f ∈ z_F5 m, f < 11 := by
  intro f hf
  obtain ⟨T, hT, rfl⟩ := List.mem_map.mp hf
  have : T ∈ [[0, 1, 2, 3], [0, 1, 2, 4], [0, 1, 3, 4], [0, 2, 3, 4], [1, 2, 3, 4]] := hT
  have key : ∀ a b c d : Nat, z_fl m [a, b, c, d] < 11 := fun a b c d => by
    unfold z_fl
    rw [z_cd4]
    exact (z_fx_all _ (z_c4_lt _ _ _ _ _ _)).2
  simp only [List.mem_cons, List.not_mem_nil, or_false] at this
  rcases this with rfl | rfl | rfl | rfl | rfl <;> exact key _ _ _ _
section
variable {d : Nat} {X : z_X} {I : Nat → Nat → Nat → Int32} {J : Nat → Nat → Nat → Int64}
theorem z_p140b {k i n j : Nat} (hk : k ≤ 4) (hi : i < 11) (hn : n ≤ 4) (hn1 : 1 ≤ n) (hj : j < z_fon n) : ∃ I', z_ev (d + 16) (z_en 140 [z_r 0 0, z_i (Int32.ofNat k), z_i (Int32.ofNat i), z_i (Int32.ofNat n), z_i (Int32.ofNat j)] (true, X, I, J)) (some (z_i (Int32.ofNat (z_cnf (z_cmn n (z_fmn j)) n k i))), (true, X, I', J)) ∧ z_ag [0] I I' ∧ I' 27 = I 27 := by
  obtain ⟨f1, f2, f3⟩ := z_fm_tab n (by omega) hn1 j hj
  have hj11 : j < 11 := Nat.lt_of_lt_of_le hj (z_fon_le n hn)
  have f64 : z_fmn j < 64 := z_c64 hn f2
  obtain ⟨I1, c1, c2, c3, c4⟩ := z_p21 (d := d + 14) (X := X) (I := I) (J := J) (q := 9) (by decide) hn (show z_fmn j < 1024 by omega)
  obtain ⟨I2, e1, e2, e3⟩ := z_p42 (d := d) (X := X) (I := I1) (J := J) (q := 1) (q1 := 9) (by decide) (by decide) hk (show n ≤ 10 by omega) (z_cmn_wf (show n ≤ 5 by omega)).1 c2 c3
  refine ⟨I2, z_q140_e _ _ _ _ ⟨j, rfl, hj11, _, _, _, by rw [show (z_stc.getD 0 []).getD j 0 = z_fm j from rfl, f1]; exact c1, _, _, _, e1, i, rfl, hi, by rw [e2 i hi]⟩, z_ag_tr (z_nq_ag c4) (z_tq_ag e3), ?_⟩
  rw [z_fr_t e3 27 (fun _ _ => rfl), z_fr_t c4 27 (fun _ _ => rfl)]
/-- the class: most in forms -/
theorem z_p141 {l : List (Nat × Nat)} {n k j : Nat} (hn1 : 1 ≤ n) (hn : n ≤ 4) (hk : k ≤ 4) (hj : j < 11) : ∃ I', z_ev (d + 17) (z_en 141 [z_r 0 0, z_i (Int32.ofNat n), z_i (Int32.ofNat k), z_i (Int32.ofNat j), z_i (Int32.ofNat (z_hpp l n (z_fon n)))] (true, X, I, J)) (some (z_i (z_e1 (z_mxl ((List.range (z_fon n)).map (fun i => z_vv l n k j (z_fmn i)))))), (true, X, I', J)) ∧ z_ag [0] I I' := by
  obtain ⟨f1, f2⟩ := z_fo_nat n (by omega)
  have hb : ∀ u, z_mxl ((List.range u).map (fun i => z_vv l n k j (z_fmn i))) ≤ 1000 := fun u => z_mxl_b (fun x hx => by
    obtain ⟨i, _, rfl⟩ := List.mem_map.mp hx
    exact z_vv_le (by omega) hk)
  have key : ∀ j9 u, u + j9 = z_fon n → ∀ I1, z_ag [0] I I1 → ∃ I', z_ev (d + 17) (141, 6, [some (z_r 0 0), some (z_i (Int32.ofNat n)), some (z_i (Int32.ofNat k)), some (z_i (Int32.ofNat j)), some (z_i (Int32.ofNat (z_hpp l n (z_fon n)))), some (z_i (z_e1 (z_mxl ((List.range u).map (fun i => z_vv l n k j (z_fmn i)))))), some (z_i (Int32.ofNat u))], [], (true, X, I1, J)) (some (z_i (z_e1 (z_mxl ((List.range (z_fon n)).map (fun i => z_vv l n k j (z_fmn i)))))), (true, X, I', J)) ∧ z_ag [0] I I' := by
    intro j9
    induction j9 with
    | zero =>
      intro u hu I1 ha
      obtain rfl : u = z_fon n := by omega
      refine ⟨I1, z_q141_6 _ _ _ _ _ _ ⟨fun _ => rfl, fun h => ?_⟩, ha⟩
      rw [f1] at h
      exact absurd ((z_olt (by omega) (by omega)).mp h) (by omega)
    | succ j9 ih =>
      intro u hu I1 ha
      have hge : ¬ z_fo (Int32.ofNat n) ≤ Int32.ofNat u := by
        rw [f1]
        exact fun h => absurd ((z_ole (by omega) (by omega)).mp h) (by omega)
      have hb2 := z_bt_2k _ (z_hpp_2k l n f2) u (by omega)
      rw [z_hpp_tb l n (z_fon n) u (by omega)] at hb2
      have em : z_mxl ((List.range (u + 1)).map (fun i => z_vv l n k j (z_fmn i))) = max (z_mxl ((List.range u).map (fun i => z_vv l n k j (z_fmn i)))) (z_vv l n k j (z_fmn u)) := by
        rw [z_rg_sn, z_mxl_app]
        show max _ (max _ 0) = _
        rw [Nat.max_zero]
      cases hf : z_fre l (z_cmn n (z_fmn u)) n with
      | false =>
        rw [hf] at hb2
        obtain ⟨I', c1, c2⟩ := ih (u + 1) (by omega) I1 ha
        have ev : z_vv l n k j (z_fmn u) = 0 := by unfold z_vv; rw [hf]; rfl
        rw [em, ev, Nat.max_zero] at c1
        refine ⟨I', z_q141_6 _ _ _ _ _ _ ⟨fun h => absurd h hge, fun _ => ⟨fun _ => ?_, fun h => absurd h (of_decide_eq_false hb2)⟩⟩, c2⟩
        rw [z_os]
        exact c1
      | true =>
        rw [hf] at hb2
        obtain ⟨I2, p1, p2, -⟩ := z_p140b (d := d) (X := X) (I := I1) (J := J) (k := k) (i := j) (n := n) (j := u) hk hj hn hn1 (by omega)
        obtain ⟨I', c1, c2⟩ := ih (u + 1) (by omega) I2 (z_ag_tr ha p2)
        have ev : z_vv l n k j (z_fmn u) = z_cnf (z_cmn n (z_fmn u)) n k j + 1 := by unfold z_vv; rw [hf]; rfl
        have hle := z_vv_le (l := l) (n := n) (k := k) (j := j) (c := z_fmn u) (by omega) hk
        have ee : z_e1 (z_vv l n k j (z_fmn u)) = Int32.ofNat (z_cnf (z_cmn n (z_fmn u)) n k j) := by rw [ev]; rfl
        rw [em, ← z_e1_mx (hb u) (by omega), ee] at c1
        refine ⟨I', z_q141_6 _ _ _ _ _ _ ⟨fun h => absurd h hge, fun _ => ⟨fun h => absurd h (of_decide_eq_true hb2), fun _ => ⟨_, _, _, _, p1, ?_⟩⟩⟩, c2⟩
        rw [z_os]
        exact c1
  obtain ⟨I', c1, c2⟩ := key (z_fon n) 0 (by omega) I z_ag_rf
  exact ⟨I', z_q141_e _ _ _ _ c1, c2⟩
/-- the class: count in five -/
theorem z_p143 {l : List (Nat × Nat)} {k j c : Nat} (hl : ∀ q ∈ l, 2 ≤ q.1 ∧ q.1 ≤ 4 ∧ q.2 < z_fon q.1) (hk1 : 1 ≤ k) (hk : k ≤ 4) (e14 : z_hm I 14 9 0 (z_cmn 5 c)) (e13 : I 13 9 1 = Int32.ofNat 5) (e27 : ∀ i, i < 11 → I 27 0 i = Int32.ofNat (z_cnf (z_cmn 4 (z_fmn i)) 4 k j)) : ∃ I', z_ev (d + 16) (z_en 143 [z_r 0 0, z_i (Int32.ofNat k), z_i (Int32.ofNat (z_hpp l 4 11))] (true, X, I, J)) (some (z_i (z_e1 (z_vv l 5 k j c))), (true, X, I', J)) ∧ z_fr (z_tq 1) I I' := by
  obtain ⟨I1, p1, p2, p3⟩ := z_p42 (d := d) (X := X) (I := I) (J := J) (q := 1) (q1 := 9) (s := 5) (k := 4) (by decide) (by decide) (by decide) (by decide) (z_cmn_wf (Nat.le_refl 5)).1 e14 e13
  have t27 : I1 27 = I 27 := z_fr_t p3 27 (fun _ _ => rfl)
  obtain ⟨g, hg⟩ : ∃ g : Nat → Nat, g = fun i => z_cnf (z_cmn 4 (z_fmn i)) 4 k j := ⟨_, rfl⟩
  obtain ⟨c4, hc4⟩ : ∃ c4 : Nat → Nat, c4 = z_cnf (z_cmn 5 c) 5 4 := ⟨_, rfl⟩
  have hgb : ∀ i, g i ≤ 252 := fun i => by rw [hg]; exact z_cnf_le (by decide) (by omega) _ _
  have hcb : ∀ i, c4 i ≤ 252 := fun i => by rw [hc4]; exact z_cnf_le (by decide) (by decide) _ _
  have ecF : ∀ i, c4 i = (z_F5 (z_cmn 5 c)).countP (fun f => Nat.beq f i) := fun i => by rw [hc4]; exact z_cnf_Fk _ _ _ _
  have hsb : ∀ u, u ≤ 11 → z_sumf (fun i => c4 i * g i) u ≤ 63504 * u := fun u => by
    induction u with
    | zero => intro _; exact Nat.le_refl _
    | succ u ih =>
      intro hu
      have h1 := ih (by omega)
      have h2 : c4 u * g u ≤ 252 * 252 := Nat.mul_le_mul (hcb u) (hgb u)
      show z_sumf (fun i => c4 i * g i) u + c4 u * g u ≤ _
      omega
  have eS : z_sumf (fun i => c4 i * g i) 11 = (5 - k) * z_cnf (z_cmn 5 c) 5 k j := by
    rw [z_A5 (z_cmn 5 c) hk1 (by omega) j, ← hg, ← z_sumf_cnt g 11 _ (z_F5_lt _)]
    exact z_sumf_cg 11 (fun i _ => by rw [ecF])
  have key : ∀ j9 u, u + j9 = 11 → (∀ i, i < u → c4 i ≠ 0 → z_fre l (z_cmn 4 (z_fmn i)) 4 = true) → z_ev (d + 16) (143, 17, [some (z_r 0 0), some (z_i (Int32.ofNat k)), some (z_i (Int32.ofNat (z_hpp l 4 11))), some (z_i (Int32.ofNat (z_sumf (fun i => c4 i * g i) u))), some (z_i (Int32.ofNat u))], [], (true, X, I1, J)) (some (z_i (z_e1 (z_vv l 5 k j c))), (true, X, I1, J)) := by
    intro j9
    induction j9 with
    | zero =>
      intro u hu h0
      obtain rfl : u = 11 := by omega
      have hfr : z_fre l (z_cmn 5 c) 5 = true := (z_fre5 hl _).mpr (fun f hf => h0 f (z_F5_lt _ f hf) (by
        rw [ecF]
        have : 0 < (z_F5 (z_cmn 5 c)).countP (fun f' => Nat.beq f' f) := List.countP_pos_iff.mpr ⟨f, hf, Nat.beq_refl f⟩
        omega))
      have h1 : (1 : Int32) ≤ Int32.ofNat k := (z_ole (a := 1) (by decide) (by omega)).mpr hk1
      have h4 : Int32.ofNat k ≤ (4 : Int32) := (z_ole (b := 4) (by omega) (by decide)).mpr hk
      have e5 : (5 : Int32) - Int32.ofNat k = Int32.ofNat (5 - k) := z_subn (a := 5) (by omega)
      refine z_q143_17 _ _ _ _ ⟨fun _ => ⟨fun h => absurd h1 (Int32.not_le.mpr h), fun _ => ⟨fun h => absurd h4 (Int32.not_le.mpr h), fun _ => ⟨?_, ?_⟩⟩⟩, fun h => absurd h (by decide)⟩
      · rw [e5]
        exact fun q => absurd ((z_oeq (b := 0) (by omega) (by decide)).mp q) (by omega)
      · have hb := hsb 11 (Nat.le_refl _)
        rw [e5, ← Int32.ofNat_div (by omega) (by omega), eS, Nat.mul_div_cancel_left _ (by omega)]
        unfold z_vv
        rw [hfr]
        rfl
    | succ j9 ih =>
      intro u hu h0
      have e25 : I1 25 1 u = Int32.ofNat (c4 u) := by rw [hc4]; exact p2 u (by omega)
      have e27' : I1 27 0 u = Int32.ofNat (g u) := by rw [t27, hg]; exact e27 u (by omega)
      have hb2 := z_bt_2k _ (z_hpp_2k l 4 (Nat.le_refl 11)) u (by omega)
      rw [z_hpp_tb l 4 11 u (by omega)] at hb2
      have hge : ¬ (11 : Int32) ≤ Int32.ofNat u := fun h => absurd ((z_ole (a := 11) (by decide) (by omega)).mp h) (by omega)
      have es : Int32.ofNat (z_sumf (fun i => c4 i * g i) u) + I1 25 1 u * I1 27 0 u = Int32.ofNat (z_sumf (fun i => c4 i * g i) (u + 1)) := by
        rw [e25, e27', ← Int32.ofNat_mul, z_oa]; rfl
      have hz : I1 25 1 u = 0 ↔ c4 u = 0 := by
        have := hcb u
        rw [e25]
        exact z_oeq (b := 0) (by omega) (by decide)
      refine z_q143_17 _ _ _ _ ⟨fun h => absurd h hge, fun _ => ⟨u, rfl, by omega, fun h => ?_, fun h => ⟨fun h9 => ?_, fun h9 => ?_⟩⟩⟩
      · rw [es, z_os]
        exact ih (u + 1) (by omega) (fun i hi hc => by
          by_cases e : i = u
          · subst e; exact absurd (hz.mp h) hc
          · exact h0 i (by omega) hc)
      · rw [es, z_os]
        exact ih (u + 1) (by omega) (fun i hi hc => by
          by_cases e : i = u
          · subst e
            rw [← hb2]
            exact decide_eq_true h9
          · exact h0 i (by omega) hc)
      · have hf4 : z_fre l (z_cmn 4 (z_fmn u)) 4 = false := by
          rw [← hb2]
          exact decide_eq_false (fun q => q h9)
        have hf5 : z_fre l (z_cmn 5 c) 5 = false := by
          rw [← Bool.not_eq_true, z_fre5 hl]
          intro q
          have hc0 : c4 u ≠ 0 := fun q => h (hz.mpr q)
          rw [ecF] at hc0
          obtain ⟨f, hf, he⟩ := List.countP_pos_iff.mp (Nat.pos_of_ne_zero hc0)
          obtain rfl := Nat.eq_of_beq_eq_true he
          rw [q f hf] at hf4
          cases hf4
        unfold z_vv
        rw [hf5]
        rfl
  exact ⟨I1, z_q143_e _ _ ⟨_, _, _, p1, key 11 0 (by omega) (fun i hi => absurd hi (Nat.not_lt_zero i))⟩, p3⟩
end
