/-! at a limit: below, and the reference's draws -/
theorem z_tup_rg (P : Nat) : ∀ k way, z_tup P k way = (List.range k).map (fun j => way / P ^ j % P)
  | 0, _ => rfl
  | k + 1, way => by
    show way % P :: z_tup P k (way / P) = _
    rw [z_tup_rg P k, List.range_succ_eq_map, List.map_cons, List.map_map, Nat.pow_zero, Nat.div_one]
    congr 1
    apply List.map_congr_left
    intro j _
    show way / P / P ^ j % P = way / P ^ (j + 1) % P
    rw [Nat.div_div_eq_div_mul, Nat.pow_succ, Nat.mul_comm P]
theorem z_tup_gd {P k way j : Nat} (h : j < k) : (z_tup P k way).getD j 0 = way / P ^ j % P := by
  rw [z_tup_rg, List.getD_eq_getElem?_getD, List.getElem?_map, List.getElem?_range h]
  rfl
theorem z_rg_sn {α : Type} (g : Nat → α) (n : Nat) : (List.range (n + 1)).map g = (List.range n).map g ++ [g n] := by
  rw [List.range_succ, List.map_append]; rfl
theorem z_pp_sn (f : Nat → Nat) (code n : Nat) : z_pp f code (n + 1) = z_pp f code n * z_pv f code n := by
  unfold z_pp
  rw [z_rg_sn, z_prd_sn]
def z_d48 (a b _c : Nat) : Bool := Nat.beq a 48 && Nat.beq b 0
theorem z_s2p : ∀ m, m < 5 → 1 ≤ m → ((1 : Int64) <<< (((2 : Int32) * (z_pr (Int32.ofNat m))).toInt64 &&& 63)) = Int64.ofNat (4 ^ (m * (m - 1) / 2)) := by decide +kernel
section
variable {d : Nat} {X : z_X} {I : Nat → Nat → Nat → Int32} {J : Nat → Nat → Nat → Int64}
theorem z_p11 {P m : Nat} {w : Nat → Nat} {cN : Nat → Nat → Nat} (hP : P ≤ 5) (hm : m ≤ 4) (hw : ∀ p, p < P → 1 ≤ w p ∧ w p ≤ 9) (hL : z_LC I P w cN) : z_ev (d + 1) (z_en 11 [z_r 4 0, z_i (Int32.ofNat m)] (true, X, I, J)) (some (z_j (Int64.ofNat (z_sumf w P ^ m * 4 ^ (m * (m - 1) / 2)))), (true, X, I, J)) := by
  obtain ⟨q1, q2⟩ := z_prn m (by omega)
  obtain ⟨b1, b2⟩ := z_sumf_bd P hw
  have key2 : ∀ j u, u + j = m * (m - 1) / 2 → z_ev (d + 1) (11, 28, [some (z_r 4 0), some (z_i (Int32.ofNat m)), some (z_j (Int64.ofNat (z_sumf w P ^ m * 4 ^ u))), none, some (z_i (Int32.ofNat u))], [], (true, X, I, J)) (some (z_j (Int64.ofNat (z_sumf w P ^ m * 4 ^ (m * (m - 1) / 2)))), (true, X, I, J)) := by
    intro j
    induction j with
    | zero =>
      intro u hu
      refine z_q11_28 _ _ _ ⟨fun _ => by rw [← hu]; rfl, fun h => ?_⟩
      rw [q1] at h
      exact absurd ((z_olt (by omega) (by omega)).mp h) (by omega)
    | succ j ih =>
      intro u hu
      refine z_q11_28 _ _ _ ⟨fun h => ?_, fun _ => ?_⟩
      · rw [q1] at h
        exact absurd ((z_ole (by omega) (by omega)).mp h) (by omega)
      · have h9 := ih (u + 1) (by omega)
        rw [Nat.pow_succ, ← Nat.mul_assoc, Int64.ofNat_mul, ← z_os] at h9
        exact h9
  have key1 : ∀ j u, u + j = m → z_ev (d + 1) (11, 5, [some (z_r 4 0), some (z_i (Int32.ofNat m)), some (z_j (Int64.ofNat (z_sumf w P ^ u))), none, some (z_i (Int32.ofNat u))], [], (true, X, I, J)) (some (z_j (Int64.ofNat (z_sumf w P ^ m * 4 ^ (m * (m - 1) / 2)))), (true, X, I, J)) := by
    intro j
    induction j with
    | zero =>
      intro u hu
      obtain rfl : u = m := by omega
      refine z_q11_5 _ _ _ ⟨fun _ => ?_, fun h => absurd ((z_olt (by omega) (by omega)).mp h) (by omega)⟩
      have h9 := key2 (u * (u - 1) / 2) 0 (by omega)
      rw [Nat.pow_zero, Nat.mul_one] at h9
      exact h9
    | succ j ih =>
      intro u hu
      refine z_q11_5 _ _ _ ⟨fun h => absurd ((z_ole (by omega) (by omega)).mp h) (by omega), fun _ => ⟨_, _, _, _, z_p10 hP hL.1 hL.2.1, ?_⟩⟩
      have h9 := ih (u + 1) (by omega)
      rw [Nat.pow_succ, Int64.ofNat_mul, ← z_os] at h9
      rw [z_i64 (by omega)]
      exact h9
  exact z_q11_e _ (key1 m 0 (by omega))
/-- what the reference knows of its limit -/
def z_LR (I : Nat → Nat → Nat → Int32) (P : Nat) (w : Nat → Nat) (cN : Nat → Nat → Nat) : Prop := I 33 0 4 = Int32.ofNat P ∧ (∀ p, p < P → I 37 0 p = Int32.ofNat (w p)) ∧ ∀ a b, a < P → b < P → I 38 0 (5 * a + b) = Int32.ofNat (cN a b)
theorem z_p217 {P m : Nat} {w : Nat → Nat} {cN : Nat → Nat → Nat} (hP : P ≤ 5) (hm1 : 1 ≤ m) (hm : m ≤ 4) (hw : ∀ p, p < P → 1 ≤ w p ∧ w p ≤ 9) (hL : z_LR I P w cN) : z_ev (d + 1) (z_en 217 [z_r 33 0, z_i (Int32.ofNat m)] (true, X, I, J)) (some (z_j (Int64.ofNat (z_sumf w P ^ m * 4 ^ (m * (m - 1) / 2)))), (true, X, I, J)) := by
  obtain ⟨b1, b2⟩ := z_sumf_bd P hw
  have key1 : ∀ j u, u + j = m → z_ev (d + 1) (217, 12, [some (z_r 33 0), some (z_i (Int32.ofNat m)), some (z_j (Int64.ofNat (4 ^ (m * (m - 1) / 2) * z_sumf w P ^ u))), none, some (z_i (Int32.ofNat u))], [], (true, X, I, J)) (some (z_j (Int64.ofNat (z_sumf w P ^ m * 4 ^ (m * (m - 1) / 2)))), (true, X, I, J)) := by
    intro j
    induction j with
    | zero =>
      intro u hu
      obtain rfl : u = m := by omega
      refine z_q217_12 _ _ _ ⟨fun _ => by rw [Nat.mul_comm], fun h => absurd ((z_olt (by omega) (by omega)).mp h) (by omega)⟩
    | succ j ih =>
      intro u hu
      refine z_q217_12 _ _ _ ⟨fun h => absurd ((z_ole (by omega) (by omega)).mp h) (by omega), fun _ => ⟨_, _, _, _, z_p214 hP hL.1 hL.2.1, ?_⟩⟩
      have h9 := ih (u + 1) (by omega)
      rw [Nat.pow_succ, ← Nat.mul_assoc, Int64.ofNat_mul, ← z_os] at h9
      rw [z_i64 (by omega)]
      exact h9
  refine z_q217_e _ ?_
  rw [z_s2p m (by omega) hm1]
  have h9 := key1 m 0 (by omega)
  rw [Nat.pow_zero, Nat.mul_one] at h9
  exact h9
theorem z_p215 {P m code : Nat} {t : List Nat} {w : Nat → Nat} {cN : Nat → Nat → Nat} (hP : P ≤ 5) (hm1 : 1 ≤ m) (hm : m ≤ 4) (hc : ∀ a b, a < P → b < P → cN a b ≤ 4) (hL : z_LR I P w cN) (ht : ∀ j, j < m → t.getD j 0 < P ∧ I 48 0 j = Int32.ofNat (t.getD j 0)) (hcd : code < 64) : z_ev (d + 2) (z_en 215 [z_r 33 0, z_i (Int32.ofNat m), z_i (Int32.ofNat code)] (true, X, I, J)) (some (z_j (Int64.ofNat (z_pp (z_ftp cN t) code (m * (m - 1) / 2)))), (true, X, I, J)) := by
  have tri : ∀ b, b < 5 → b * (b - 1) / 2 + b = (b + 1) * b / 2 := by decide
  have inner : ∀ b, 1 ≤ b → b < m → ∀ r, (∀ o6 o7, z_ev (d + 2) (215, 5, [some (z_r 33 0), some (z_i (Int32.ofNat m)), some (z_i (Int32.ofNat code)), some (z_j (Int64.ofNat (z_pp (z_ftp cN t) code ((b + 1) * b / 2)))), none, some (z_i (Int32.ofNat (b + 1))), o6, o7], [], (true, X, I, J)) r) → ∀ j a, a + j = b → ∀ o7, z_ev (d + 2) (215, 14, [some (z_r 33 0), some (z_i (Int32.ofNat m)), some (z_i (Int32.ofNat code)), some (z_j (Int64.ofNat (z_pp (z_ftp cN t) code (b * (b - 1) / 2 + a)))), none, some (z_i (Int32.ofNat b)), some (z_i (Int32.ofNat a)), o7], [], (true, X, I, J)) r := by
    intro b hb1 hb r hr j
    induction j with
    | zero =>
      intro a ha o7
      obtain rfl : a = b := by omega
      refine z_q215_14 _ _ _ _ _ o7 ⟨fun _ => ?_, fun h => absurd ((z_olt (by omega) (by omega)).mp h) (by omega)⟩
      rw [tri a (by omega), z_os]
      exact hr _ _
    | succ j ih =>
      intro a ha o7
      obtain ⟨t1, t2⟩ := ht a (by omega)
      obtain ⟨u1, u2⟩ := ht b (by omega)
      obtain ⟨v1, -⟩ := z_bon b (by omega) a (by omega)
      obtain ⟨l1, l2, l3⟩ := z_plh b (by omega) a (by omega)
      have ef : z_ftp cN t (b * (b - 1) / 2 + a) = cN (t.getD a 0) (t.getD b 0) := by unfold z_ftp; rw [l1, l2]
      have hc4 := hc _ _ t1 u1
      have e38 := hL.2.2 _ _ t1 u1
      have ebit := z_b01 (m := code) (b := b * (b - 1) / 2 + a) (by omega) l3
      have h9 := ih (a + 1) (by omega)
      rw [← Nat.add_assoc, z_pp_sn, Int64.ofNat_mul, ← z_os] at h9
      refine z_q215_14 _ _ _ _ _ o7 ⟨fun h => absurd ((z_ole (by omega) (by omega)).mp h) (by omega), fun _ => ⟨a, rfl, by omega, b, rfl, by omega, 5 * t.getD a 0 + t.getD b 0, by rw [t2, u2, z_o5], by omega, fun hb0 => ?_, fun hb0 => ?_⟩⟩
      · rw [v1, ebit] at hb0
        have e0 : code.testBit (b * (b - 1) / 2 + a) = false := by
          cases e : code.testBit (b * (b - 1) / 2 + a) with
          | false => rfl
          | true => rw [e] at hb0; exact absurd rfl hb0
        rw [e38, show ((4 : Int32) - Int32.ofNat (cN (t.getD a 0) (t.getD b 0))) = Int32.ofNat (4 - cN (t.getD a 0) (t.getD b 0)) from z_subn (a := 4) hc4, z_i64 (by omega)]
        unfold z_pv at h9
        rw [e0, ef] at h9
        exact h9 _
      · rw [v1, ebit] at hb0
        have e0 : code.testBit (b * (b - 1) / 2 + a) = true := by
          cases e : code.testBit (b * (b - 1) / 2 + a) with
          | true => rfl
          | false => rw [e] at hb0; exact absurd hb0 (by decide)
        rw [e38, z_i64 (by omega)]
        unfold z_pv at h9
        rw [e0, ef] at h9
        exact h9 _
  have outer : ∀ j b, b + j = m → 1 ≤ b → ∀ o6 o7, z_ev (d + 2) (215, 5, [some (z_r 33 0), some (z_i (Int32.ofNat m)), some (z_i (Int32.ofNat code)), some (z_j (Int64.ofNat (z_pp (z_ftp cN t) code (b * (b - 1) / 2)))), none, some (z_i (Int32.ofNat b)), o6, o7], [], (true, X, I, J)) (some (z_j (Int64.ofNat (z_pp (z_ftp cN t) code (m * (m - 1) / 2)))), (true, X, I, J)) := by
    intro j
    induction j with
    | zero =>
      intro b hb hb1 o6 o7
      obtain rfl : b = m := by omega
      exact z_q215_5 _ _ _ _ o6 o7 ⟨fun _ => rfl, fun h => absurd ((z_olt (by omega) (by omega)).mp h) (by omega)⟩
    | succ j ih =>
      intro b hb hb1 o6 o7
      refine z_q215_5 _ _ _ _ o6 o7 ⟨fun h => absurd ((z_ole (by omega) (by omega)).mp h) (by omega), fun _ => ?_⟩
      exact inner b hb1 (by omega) _ (fun o6 o7 => ih (b + 1) (by omega) (by omega) o6 o7) b 0 (by omega) o7
  exact z_q215_e _ _ (outer (m - 1) 1 (by omega) (Nat.le_refl _) none none)
theorem z_p216 (hT : z_Tb I) {P m i : Nat} {w : Nat → Nat} {cN : Nat → Nat → Nat} (hP1 : 1 ≤ P) (hP : P ≤ 5) (hm1 : 1 ≤ m) (hm : m ≤ 4) (hi : i < z_fon m) (hw : ∀ p, p < P → w p ≤ 9) (hc : ∀ a b, a < P → b < P → cN a b ≤ 4) (hL : z_LR I P w cN) : ∃ I', z_ev (d + 3) (z_en 216 [z_r 33 0, z_i (Int32.ofNat m), z_i (z_fm i)] (true, X, I, J)) (some (z_j (Int64.ofNat (z_AT P w cN m i))), (true, X, I', J)) ∧ z_fr z_d48 I I' := by
  obtain ⟨s1, s2, s3, s4⟩ := z_sh_nat m (by omega) hm1
  have hfon := z_fo_nat m (by omega)
  have pw5 : ∀ u, u ≤ 4 → P ^ u ≤ 625 := fun u hu => Nat.le_trans (Nat.pow_le_pow_left hP u) (Nat.le_trans (Nat.pow_le_pow_right (by decide) hu) (by decide))
  have cd : ∀ way, ∀ S : Nat, ∀ I1, z_fr z_d48 I I1 → (∀ j, j < m → I1 48 0 j = Int32.ofNat ((z_tup P m way).getD j 0)) → ∀ r x7, (∀ o7 o8 o10, z_ev (d + 3) (216, 32, [some (z_r 33 0), some (z_i (Int32.ofNat m)), some (z_i (z_fm i)), some (z_j (Int64.ofNat (S + z_Gt w cN i (z_tup P m way)))), none, some (z_i (Int32.ofNat (P ^ m))), some (z_i (Int32.ofNat (way + 1))), o7, o8, none, o10], [], (true, X, I1, J)) r) →
      ∀ j c, c + j = 2 ^ (m * (m - 1) / 2) → z_ev (d + 3) (216, 105, [some (z_r 33 0), some (z_i (Int32.ofNat m)), some (z_i (z_fm i)), some (z_j (Int64.ofNat (S + z_prd ((z_tup P m way).map w) * z_sml ((List.range c).map (fun code => if Nat.beq (z_fx code) i then z_pp (z_ftp cN (z_tup P m way)) code (m * (m - 1) / 2) else 0))))), none, some (z_i (Int32.ofNat (P ^ m))), some (z_i (Int32.ofNat way)), some (z_i x7), some (z_j (Int64.ofNat (z_prd ((z_tup P m way).map w)))), none, some (z_i (Int32.ofNat c))], [], (true, X, I1, J)) r := by
    intro way S I1 hf h48 r x7 hr j
    obtain ⟨g1, g2⟩ := z_tup_lt hP1 m way
    induction j with
    | zero =>
      intro c hcj
      refine z_q216_105 _ _ _ _ _ _ _ _ ⟨fun _ => ?_, fun h => ?_⟩
      · rw [z_os]
        have h9 := hr (some (z_i x7)) (some (z_j (Int64.ofNat (z_prd ((z_tup P m way).map w))))) (some (z_i (Int32.ofNat c)))
        unfold z_Gt z_Sf at h9
        rw [g1, ← hcj] at h9
        exact h9
      · rw [s1] at h
        exact absurd ((z_olt (by omega) (by omega)).mp h) (by omega)
    | succ j ih =>
      intro c hcj
      have e40 : I1 40 0 (64 * m + c) = z_fm (z_fx c) := by
        rw [z_fr_t hf 40 (fun _ _ => rfl)]
        exact (hT m hm1 hm).1 c (by omega)
      have hxc := z_fx_tab m (by omega) hm1 c (by omega)
      have hL1 : z_LR I1 P w cN := by
        unfold z_LR
        rw [z_fr_t hf 33 (fun _ _ => rfl), z_fr_t hf 37 (fun _ _ => rfl), z_fr_t hf 38 (fun _ _ => rfl)]
        exact hL
      have h9 := ih (c + 1) (by omega)
      rw [z_rg_sn, z_sml_app] at h9
      have z1 : ∀ x, z_sml [x] = x := fun x => Nat.add_zero x
      rw [z1, Nat.mul_add, ← Nat.add_assoc, Int64.ofNat_add, ← z_os] at h9
      refine z_q216_105 _ _ _ _ _ _ _ _ ⟨fun h => ?_, fun _ => ⟨64 * m + c, z_o64 m c, by omega, fun hn => ?_, fun he => ⟨_, X, I1, J, z_p215 (t := z_tup P m way) hP hm1 hm hc hL1 (fun j hj => ⟨?_, h48 j hj⟩) (by omega), ?_⟩⟩⟩
      · rw [s1] at h
        exact absurd ((z_ole (by omega) (by omega)).mp h) (by omega)
      · rw [e40] at hn
        rw [if_neg (fun q => hn (by rw [Nat.eq_of_beq_eq_true q])), Nat.mul_zero] at h9
        exact h9
      · rw [List.getD_eq_getElem?_getD, List.getElem?_eq_getElem (by omega)]
        exact g2 _ (List.getElem_mem _)
      · rw [e40] at he
        have hx := z_fm_inj _ (by omega) _ (by omega) he
        rw [if_pos (by rw [hx]; exact Nat.beq_refl i), Int64.ofNat_mul] at h9
        exact h9
  have dg : ∀ way, way < P ^ m → ∀ S : Nat, ∀ j k, k + j = m → ∀ I1, z_fr z_d48 I I1 → (∀ j, j < k → I1 48 0 j = Int32.ofNat ((z_tup P m way).getD j 0)) → ∃ I2, z_fr z_d48 I I2 ∧ (∀ j, j < m → I2 48 0 j = Int32.ofNat ((z_tup P m way).getD j 0)) ∧ ∀ r, (∀ x7, z_ev (d + 3) (216, 105, [some (z_r 33 0), some (z_i (Int32.ofNat m)), some (z_i (z_fm i)), some (z_j (Int64.ofNat S)), none, some (z_i (Int32.ofNat (P ^ m))), some (z_i (Int32.ofNat way)), some (z_i x7), some (z_j (Int64.ofNat (z_prd ((z_tup P m way).map w)))), none, some (z_i 0)], [], (true, X, I2, J)) r) → z_ev (d + 3) (216, 49, [some (z_r 33 0), some (z_i (Int32.ofNat m)), some (z_i (z_fm i)), some (z_j (Int64.ofNat S)), none, some (z_i (Int32.ofNat (P ^ m))), some (z_i (Int32.ofNat way)), some (z_i (Int32.ofNat (way / P ^ k))), some (z_j (Int64.ofNat (z_prd ((List.range k).map (fun j => w (way / P ^ j % P)))))), none, some (z_i (Int32.ofNat k))], [], (true, X, I1, J)) r := by
    intro way hway S j
    have hw6 := pw5 m hm
    induction j with
    | zero =>
      intro k hk I1 hf h48
      obtain rfl : k = m := by omega
      refine ⟨I1, hf, h48, fun r hr => z_q216_49 _ _ _ _ _ _ _ _ ⟨fun _ => ?_, fun h => absurd ((z_olt (by omega) (by omega)).mp h) (by omega)⟩⟩
      have h9 := hr (Int32.ofNat (way / P ^ k))
      rw [z_tup_rg, List.map_map] at h9
      exact h9
    | succ j ih =>
      intro k hk I1 hf h48
      have hq : way / P ^ k ≤ way := Nat.div_le_self _ _
      have hlt : way / P ^ k % P < P := Nat.mod_lt _ (by omega)
      have e4 : I1 33 0 4 = Int32.ofNat P := by rw [z_fr_t hf 33 (fun _ _ => rfl)]; exact hL.1
      have e37 : I1 37 0 (way / P ^ k % P) = Int32.ofNat (w (way / P ^ k % P)) := by rw [z_fr_t hf 37 (fun _ _ => rfl)]; exact hL.2.1 _ hlt
      have hmod := z_modn (a := way / P ^ k) (b := P) (by omega) (by omega)
      have p0 : ¬ Int32.ofNat P = 0 := fun q => absurd ((z_oeq (b := 0) (by omega) (by decide)).mp q) (by omega)
      obtain ⟨I2, c0, c1, c2⟩ := ih (k + 1) (by omega) (z_up I1 48 0 k (Int32.ofNat (way / P ^ k % P))) (z_fr_up hf rfl) (fun j hj => by
        by_cases h : j = k
        · rw [h, z_up_e, z_tup_gd (by omega)]
        · rw [z_up_j h]; exact h48 j (by omega))
      refine ⟨I2, c0, c1, fun r hr => z_q216_49 _ _ _ _ _ _ _ _ ⟨fun h => absurd ((z_ole (by omega) (by omega)).mp h) (by omega), fun _ => ?_⟩⟩
      rw [e4, hmod]
      have hw9 := hw _ hlt
      refine ⟨p0, k, rfl, by omega, way / P ^ k % P, z_up_e, by omega, p0, ?_⟩
      have c2 := c2 r hr
      rw [z_rg_sn, z_prd_sn, Int64.ofNat_mul, ← z_os, Nat.pow_succ, ← Nat.div_div_eq_div_mul, Int32.ofNat_div (by omega) (by omega)] at c2
      rw [e37, z_i64 (by omega)]
      exact c2
  have wy : ∀ j way, way + j = P ^ m → ∀ I1, z_fr z_d48 I I1 → ∃ I', (∀ o7 o8 o10, z_ev (d + 3) (216, 32, [some (z_r 33 0), some (z_i (Int32.ofNat m)), some (z_i (z_fm i)), some (z_j (Int64.ofNat (z_sml ((List.range way).map (fun way => z_Gt w cN i (z_tup P m way)))))), none, some (z_i (Int32.ofNat (P ^ m))), some (z_i (Int32.ofNat way)), o7, o8, none, o10], [], (true, X, I1, J)) (some (z_j (Int64.ofNat (z_AT P w cN m i))), (true, X, I', J))) ∧ z_fr z_d48 I I' := by
    have hw6 := pw5 m hm
    intro j
    induction j with
    | zero =>
      intro way hway I1 hf
      obtain rfl : way = P ^ m := by omega
      exact ⟨I1, fun o7 o8 o10 => z_q216_32 _ _ _ _ _ o7 o8 o10 ⟨fun _ => rfl, fun h => absurd ((z_olt (by omega) (by omega)).mp h) (by omega)⟩, hf⟩
    | succ j ih =>
      intro way hway I1 hf
      obtain ⟨I2, g0, g1, g2⟩ := dg way (by omega) (z_sml ((List.range way).map (fun way => z_Gt w cN i (z_tup P m way)))) m 0 (by omega) I1 hf (fun j hj => absurd hj (Nat.not_lt_zero j))
      obtain ⟨I', c1, c2⟩ := ih (way + 1) (by omega) I2 g0
      refine ⟨I', fun o7 o8 o10 => z_q216_32 _ _ _ _ _ o7 o8 o10 ⟨fun h => absurd ((z_ole (by omega) (by omega)).mp h) (by omega), fun _ => ?_⟩, c2⟩
      have z1 : ∀ x, z_sml [x] = x := fun x => Nat.add_zero x
      rw [z_rg_sn, z_sml_app, z1] at c1
      have h8 := g2 _ (fun x7 => by
        have h9 := cd way (z_sml ((List.range way).map (fun way => z_Gt w cN i (z_tup P m way)))) I2 g0 g1 _ x7 c1 (2 ^ (m * (m - 1) / 2)) 0 (by omega)
        exact h9)
      rw [Nat.pow_zero, Nat.div_one] at h8
      exact h8
  have w0 : ∀ j u, u + j = m → ∃ I', z_ev (d + 3) (216, 8, [some (z_r 33 0), some (z_i (Int32.ofNat m)), some (z_i (z_fm i)), some (z_j 0), none, some (z_i (Int32.ofNat (P ^ u))), some (z_i (Int32.ofNat u)), none, none, none, none], [], (true, X, I, J)) (some (z_j (Int64.ofNat (z_AT P w cN m i))), (true, X, I', J)) ∧ z_fr z_d48 I I' := by
    intro j
    induction j with
    | zero =>
      intro u hu
      obtain rfl : u = m := by omega
      obtain ⟨I', c1, c2⟩ := wy (P ^ u) 0 (by omega) I z_fr_rf
      exact ⟨I', z_q216_8 _ _ _ _ _ ⟨fun _ => c1 none none none, fun h => absurd ((z_olt (by omega) (by omega)).mp h) (by omega)⟩, c2⟩
    | succ j ih =>
      intro u hu
      obtain ⟨I', c1, c2⟩ := ih (u + 1) (by omega)
      refine ⟨I', z_q216_8 _ _ _ _ _ ⟨fun h => absurd ((z_ole (by omega) (by omega)).mp h) (by omega), fun _ => ?_⟩, c2⟩
      rw [Nat.pow_succ, Int32.ofNat_mul, ← z_os] at c1
      rw [hL.1]
      exact c1
  obtain ⟨I', c1, c2⟩ := w0 m 0 (by omega)
  exact ⟨I', z_q216_e _ _ c1, c2⟩
end
