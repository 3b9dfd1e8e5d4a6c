/-! calls of both: most, five posts, the reference -/
theorem z_p5_ag {I I' : Nat → Nat → Nat → Int32} (h : z_fr (z_pt 14 9 0) I I') : z_ag [0] I I' := z_nq_ag (z_fr_mn h (fun a b c q9 => by
  unfold z_pt at q9
  unfold z_nq
  simp only [Bool.and_eq_true, Bool.or_eq_true] at q9 ⊢
  exact ⟨Or.inr q9.1.1.1, q9.1.1.2⟩))
def z_ff (l : List (Nat × Nat)) (k j i : Nat) : List Nat := if z_fre l (z_cmn 4 (z_fmn i)) 4 then (List.range 16).map (fun r => z_vv l 5 k j (z_fmn i + 64 * r)) else []
theorem z_ff_b {l : List (Nat × Nat)} {k j i : Nat} (hk : k ≤ 4) : ∀ x ∈ z_ff l k j i, x ≤ 253 := by
  intro x hx
  unfold z_ff at hx
  split at hx
  · obtain ⟨r, _, rfl⟩ := List.mem_map.mp hx
    exact z_vv_le (by omega) hk
  · exact absurd hx List.not_mem_nil
theorem z_fa_b {l : List (Nat × Nat)} {k j u : Nat} (hk : k ≤ 4) : z_mxl ((List.range u).flatMap (z_ff l k j)) ≤ 1000 := z_mxl_b (fun x hx => by
  obtain ⟨i, _, hx⟩ := List.mem_flatMap.mp hx
  exact z_ff_b hk x hx)
theorem z_fa_sn (l : List (Nat × Nat)) (k j u : Nat) : z_mxl ((List.range (u + 1)).flatMap (z_ff l k j)) = max (z_mxl ((List.range u).flatMap (z_ff l k j))) (z_mxl (z_ff l k j u)) := by
  rw [List.range_succ, List.flatMap_append, z_mxl_app, List.flatMap_cons, List.flatMap_nil, List.append_nil]
section
variable {d : Nat} {X : z_X} {I : Nat → Nat → Nat → Int32} {J : Nat → Nat → Nat → Int64}
theorem z_p142 {l : List (Nat × Nat)} {k j : Nat} (hl : ∀ q ∈ l, 2 ≤ q.1 ∧ q.1 ≤ 4 ∧ q.2 < z_fon q.1) (hk1 : 1 ≤ k) (hk : k ≤ 4) (hj : j < 11) : ∃ I', z_ev (d + 17) (z_en 142 [z_r 0 0, z_i (Int32.ofNat k), z_i (Int32.ofNat j), z_i (Int32.ofNat (z_hpp l 4 11))] (true, X, I, J)) (some (z_i (z_e1 (z_mxl ((List.range 11).flatMap (z_ff l k j))))), (true, X, I', J)) ∧ z_ag [0] I I' := by
  have keyA : ∀ j9 u, u + j9 = 11 → ∀ I1, z_ag [0] I I1 → (∀ i, i < u → I1 27 0 i = Int32.ofNat (z_cnf (z_cmn 4 (z_fmn i)) 4 k j)) → ∃ I', (∀ rr, z_ev (d + 17) (142, 38, [some (z_r 0 0), some (z_i (Int32.ofNat k)), some (z_i (Int32.ofNat j)), some (z_i (Int32.ofNat (z_hpp l 4 11))), some (z_i (-1)), some (z_i 0), none], [], (true, X, I', J)) rr → z_ev (d + 17) (142, 3, [some (z_r 0 0), some (z_i (Int32.ofNat k)), some (z_i (Int32.ofNat j)), some (z_i (Int32.ofNat (z_hpp l 4 11))), some (z_i (Int32.ofNat u)), none, none], [], (true, X, I1, J)) rr) ∧ z_ag [0] I I' ∧ ∀ i, i < 11 → I' 27 0 i = Int32.ofNat (z_cnf (z_cmn 4 (z_fmn i)) 4 k j) := by
    intro j9
    induction j9 with
    | zero =>
      intro u hu I1 ha h27
      obtain rfl : u = 11 := by omega
      exact ⟨I1, fun rr h => z_q142_3 _ _ _ _ ⟨fun _ => h, fun h => absurd h (by decide)⟩, ha, h27⟩
    | succ j9 ih =>
      intro u hu I1 ha h27
      have hge : ¬ (11 : Int32) ≤ Int32.ofNat u := fun h => absurd ((z_ole (a := 11) (by decide) (by omega)).mp h) (by omega)
      obtain ⟨I2, p1, p2, p3⟩ := z_p140b (d := d) (X := X) (I := I1) (J := J) (k := k) (i := j) (n := 4) (j := u) hk hj (Nat.le_refl 4) (by decide) (show u < 11 by omega)
      obtain ⟨I', c1, c2, c3⟩ := ih (u + 1) (by omega) (z_up I2 27 0 u (Int32.ofNat (z_cnf (z_cmn 4 (z_fmn u)) 4 k j))) (z_ag_up (z_ag_tr ha p2) rfl) (fun i hi => by
        rw [z_up_at]
        by_cases e : i = u
        · rw [if_pos e, e]
        · rw [if_neg e, p3]
          exact h27 i (by omega))
      refine ⟨I', fun rr h => z_q142_3 _ _ _ _ ⟨fun q9 => absurd q9 hge, fun _ => ⟨_, _, _, _, p1, u, rfl, by omega, ?_⟩⟩, c2, c3⟩
      rw [z_os]
      exact c1 rr h
  have keyB : ∀ i, i < 11 → z_fre l (z_cmn 4 (z_fmn i)) 4 = true → ∀ A, A ≤ 1000 → ∀ j9 u, u + j9 = 16 → ∀ I1, z_ag [0] I I1 → z_hm I1 14 9 0 (z_cmn 5 (z_fmn i + 64 * (u - 1))) → I1 13 9 1 = Int32.ofNat 5 → (∀ i, i < 11 → I1 27 0 i = Int32.ofNat (z_cnf (z_cmn 4 (z_fmn i)) 4 k j)) → ∃ I', (∀ rr, z_ev (d + 17) (142, 38, [some (z_r 0 0), some (z_i (Int32.ofNat k)), some (z_i (Int32.ofNat j)), some (z_i (Int32.ofNat (z_hpp l 4 11))), some (z_i (z_e1 (max A (z_mxl (z_ff l k j i))))), some (z_i (Int32.ofNat (i + 1))), some (z_i (Int32.ofNat 16))], [], (true, X, I', J)) rr → z_ev (d + 17) (142, 82, [some (z_r 0 0), some (z_i (Int32.ofNat k)), some (z_i (Int32.ofNat j)), some (z_i (Int32.ofNat (z_hpp l 4 11))), some (z_i (z_e1 (max A (z_mxl ((List.range u).map (fun r => z_vv l 5 k j (z_fmn i + 64 * r))))))), some (z_i (Int32.ofNat i)), some (z_i (Int32.ofNat u))], [], (true, X, I1, J)) rr) ∧ z_ag [0] I I' ∧ ∀ i, i < 11 → I' 27 0 i = Int32.ofNat (z_cnf (z_cmn 4 (z_fmn i)) 4 k j) := by
    intro i hi hf A hA j9
    induction j9 with
    | zero =>
      intro u hu I1 ha h14 h13 h27
      obtain rfl : u = 16 := by omega
      refine ⟨I1, fun rr h => z_q142_82 _ _ _ _ _ _ ⟨fun _ => ?_, fun h => absurd h (by decide)⟩, ha, h27⟩
      have ef : z_ff l k j i = (List.range 16).map (fun r => z_vv l 5 k j (z_fmn i + 64 * r)) := by unfold z_ff; rw [hf]; rfl
      rw [ef] at h
      rw [z_os]
      exact h
    | succ j9 ih =>
      intro u hu I1 ha h14 h13 h27
      have hge : ¬ (16 : Int32) ≤ Int32.ofNat u := fun h => absurd ((z_ole (a := 16) (by decide) (by omega)).mp h) (by omega)
      obtain ⟨I2, p1, p2, p3⟩ := z_p24 (d := d + 15) (X := X) (I := I1) (J := J) (q := 9) (p := 4) (s := 5) (by decide) (by decide) (by decide) (z_cmn_wf (Nat.le_refl 5)) h14 (Int32.ofNat u)
      have e14 : z_hm I2 14 9 0 (z_cmn 5 (z_fmn i + 64 * u)) := fun p hp => by rw [p2 p hp, z_tE i hi u (by omega) p hp]
      have e13 : I2 13 9 1 = Int32.ofNat 5 := by rw [p3 13 9 1 rfl]; exact h13
      have t27 : I2 27 = I1 27 := z_fr_t p3 27 (fun _ _ => rfl)
      obtain ⟨I3, s1, s2⟩ := z_p143 (d := d) (X := X) (I := I2) (J := J) hl hk1 hk e14 e13 (fun i hi => by rw [t27]; exact h27 i hi)
      have t27' : I3 27 = I2 27 := z_fr_t s2 27 (fun _ _ => rfl)
      have t14 : I3 14 = I2 14 := z_fr_t s2 14 (fun _ _ => rfl)
      have t13 : I3 13 = I2 13 := z_fr_t s2 13 (fun _ _ => rfl)
      obtain ⟨I', c1, c2, c3⟩ := ih (u + 1) (by omega) I3 (z_ag_tr (z_ag_tr ha (z_p5_ag p3)) (z_tq_ag s2)) (fun p hp => by rw [t14]; exact e14 p hp) (by rw [t13]; exact e13) (fun i hi => by rw [t27', t27]; exact h27 i hi)
      refine ⟨I', fun rr h => z_q142_82 _ _ _ _ _ _ ⟨fun q9 => absurd q9 hge, fun _ => ⟨_, _, _, p1, _, _, _, _, s1, ?_⟩⟩, c2, c3⟩
      have hvb : ∀ u, z_vv l 5 k j (z_fmn i + 64 * u) ≤ 253 := fun u => z_vv_le (by omega) hk
      have hmb : z_mxl ((List.range u).map (fun r => z_vv l 5 k j (z_fmn i + 64 * r))) ≤ 1000 := z_mxl_b (fun x hx => by
        obtain ⟨r, _, rfl⟩ := List.mem_map.mp hx
        exact hvb r)
      have em : max A (z_mxl ((List.range (u + 1)).map (fun r => z_vv l 5 k j (z_fmn i + 64 * r)))) = max (max A (z_mxl ((List.range u).map (fun r => z_vv l 5 k j (z_fmn i + 64 * r))))) (z_vv l 5 k j (z_fmn i + 64 * u)) := by
        rw [z_rg_sn, z_mxl_app, Nat.max_assoc]
        show max A (max _ (max _ 0)) = _
        rw [Nat.max_zero]
      have c1' := c1 rr h
      rw [em, ← z_e1_mx (Nat.max_le.mpr ⟨hA, hmb⟩) (Nat.le_trans (hvb u) (by decide))] at c1'
      rw [z_os]
      exact c1'
  have keyC : ∀ j9 u, u + j9 = 11 → ∀ I1, z_ag [0] I I1 → (∀ i, i < 11 → I1 27 0 i = Int32.ofNat (z_cnf (z_cmn 4 (z_fmn i)) 4 k j)) → ∃ I', (∀ o6, z_ev (d + 17) (142, 38, [some (z_r 0 0), some (z_i (Int32.ofNat k)), some (z_i (Int32.ofNat j)), some (z_i (Int32.ofNat (z_hpp l 4 11))), some (z_i (z_e1 (z_mxl ((List.range u).flatMap (z_ff l k j))))), some (z_i (Int32.ofNat u)), o6], [], (true, X, I1, J)) (some (z_i (z_e1 (z_mxl ((List.range 11).flatMap (z_ff l k j))))), (true, X, I', J))) ∧ z_ag [0] I I' := by
    intro j9
    induction j9 with
    | zero =>
      intro u hu I1 ha h27
      obtain rfl : u = 11 := by omega
      exact ⟨I1, fun o6 => z_q142_38 _ _ _ _ _ _ ⟨fun _ => rfl, fun h => absurd h (by decide)⟩, ha⟩
    | succ j9 ih =>
      intro u hu I1 ha h27
      have hge : ¬ (11 : Int32) ≤ Int32.ofNat u := fun h => absurd ((z_ole (a := 11) (by decide) (by omega)).mp h) (by omega)
      have hb2 := z_bt_2k _ (z_hpp_2k l 4 (Nat.le_refl 11)) u (by omega)
      rw [z_hpp_tb l 4 11 u (by omega)] at hb2
      cases hf : z_fre l (z_cmn 4 (z_fmn u)) 4 with
      | false =>
        rw [hf] at hb2
        obtain ⟨I', c1, c2⟩ := ih (u + 1) (by omega) I1 ha h27
        have ev : z_mxl (z_ff l k j u) = 0 := by unfold z_ff; rw [hf]; rfl
        refine ⟨I', fun o6 => z_q142_38 _ _ _ _ _ _ ⟨fun h => absurd h hge, fun _ => ⟨fun h => absurd h (of_decide_eq_false hb2), fun _ => ?_⟩⟩, c2⟩
        have c1' := c1 o6
        rw [z_fa_sn, ev, Nat.max_zero] at c1'
        rw [z_os]
        exact c1'
      | true =>
        rw [hf] at hb2
        obtain ⟨tF1, tF2⟩ := z_tF u (by omega)
        obtain ⟨I2, p1, p2, p3, p4⟩ := z_p21 (d := d + 15) (X := X) (I := I1) (J := J) (q := 9) (k := 4) (by decide) (Nat.le_refl 4) (show z_fmn u < 1024 by omega)
        have t27 : I2 27 = I1 27 := z_fr_t p4 27 (fun _ _ => rfl)
        obtain ⟨I3, b1, b2, b3⟩ := keyB u (by omega) hf (z_mxl ((List.range u).flatMap (z_ff l k j))) (z_fa_b hk) 16 0 (by omega) (z_up I2 13 9 1 (5 : Int32)) (z_ag_up (z_ag_tr ha (z_nq_ag p4)) rfl) (fun p hp => by
          rw [← z_tE0 u (by omega) p hp]
          exact p2 p hp) z_up_e (fun i hi => by
          rw [z_up_t (by decide), t27]
          exact h27 i hi)
        obtain ⟨I', c1, c2⟩ := ih (u + 1) (by omega) I3 b2 b3
        refine ⟨I', fun o6 => z_q142_38 _ _ _ _ _ _ ⟨fun h => absurd h hge, fun _ => ⟨fun _ => ⟨u, rfl, by omega, _, _, _, by rw [show (z_stc.getD 0 []).getD u 0 = z_fm u from rfl, tF1]; exact p1, ?_⟩, fun h => absurd h (of_decide_eq_true hb2)⟩⟩, c2⟩
        have b1' := b1 _ (by rw [← z_fa_sn]; exact c1 _)
        rw [show z_mxl ((List.range 0).map (fun r => z_vv l 5 k j (z_fmn u + 64 * r))) = 0 from rfl, Nat.max_zero] at b1'
        exact b1'
  obtain ⟨I1, a1, a2, a3⟩ := keyA 11 0 (by omega) I z_ag_rf (fun i hi => absurd hi (Nat.not_lt_zero i))
  obtain ⟨I', c1, c2⟩ := keyC 11 0 (by omega) I1 a2 a3
  exact ⟨I', z_q142_e _ _ _ (a1 _ (c1 _)), c2⟩
theorem z_shn : ∀ n, n < 6 → (1 : Int32) <<< (z_pr (Int32.ofNat n) &&& 31) = Int32.ofNat (2 ^ (n * (n - 1) / 2)) ∧ 2 ^ (n * (n - 1) / 2) ≤ 1024 := by decide +kernel
/-- the reference: most -/
theorem z_p210 (ht : z_Tb I) {n k i : Nat} {l : List (Nat × Nat)} {co : Nat → Int32} (hl : z_RoL co (I 33 0 2) (I 36 0) l) (hn : n ≤ 5) (hk1 : 1 ≤ k) (hk : k ≤ 4) (hi : i < 11) : ∃ I', z_ev (d + 5) (210, 27, [some (z_r 33 0), some (z_i (Int32.ofNat n)), some (z_i (Int32.ofNat k)), some (z_i (z_fm i)), some (z_i (-3)), some (z_i 0), none], [], (true, X, I, J)) (some (z_i (z_e3 (z_mxl ((List.range (2 ^ (n * (n - 1) / 2))).map (z_vv l n k i))))), (true, X, I', J)) ∧ z_ag [0] I I' := by
  obtain ⟨w1, w2⟩ := z_shn n (by omega)
  have hvb : ∀ c, z_vv l n k i c ≤ 253 := fun c => z_vv_le hn hk
  have hmb : ∀ u, z_mxl ((List.range u).map (z_vv l n k i)) ≤ 1000 := fun u => z_mxl_b (fun x hx => by
    obtain ⟨r, _, rfl⟩ := List.mem_map.mp hx
    exact hvb r)
  have key : ∀ j9 u, u + j9 = 2 ^ (n * (n - 1) / 2) → ∀ I1, z_fr z_q47 I I1 → ∃ I', (∀ o6, z_ev (d + 5) (210, 27, [some (z_r 33 0), some (z_i (Int32.ofNat n)), some (z_i (Int32.ofNat k)), some (z_i (z_fm i)), some (z_i (z_e3 (z_mxl ((List.range u).map (z_vv l n k i))))), some (z_i (Int32.ofNat u)), o6], [], (true, X, I1, J)) (some (z_i (z_e3 (z_mxl ((List.range (2 ^ (n * (n - 1) / 2))).map (z_vv l n k i))))), (true, X, I', J))) ∧ z_fr z_q47 I I' := by
    intro j9
    induction j9 with
    | zero =>
      intro u hu I1 hfr
      obtain rfl : u = 2 ^ (n * (n - 1) / 2) := by omega
      refine ⟨I1, fun o6 => z_q210_27 _ _ _ _ _ _ ⟨fun _ => rfl, fun h => ?_⟩, hfr⟩
      rw [w1] at h
      exact absurd ((z_olt (by omega) (by omega)).mp h) (by omega)
    | succ j9 ih =>
      intro u hu I1 hfr
      have hge : ¬ (1 : Int32) <<< (z_pr (Int32.ofNat n) &&& 31) ≤ Int32.ofNat u := by
        rw [w1]
        exact fun h => absurd ((z_ole (by omega) (by omega)).mp h) (by omega)
      obtain ⟨I2, p1, p2, p3⟩ := z_p201 (d := d + 2) (X := X) (I := I1) (J := J) (k := n) (code := u) hn (by omega)
      have hfr2 := z_fr_tr hfr p3
      have ht2 := z_Tb_ag (z_q47_ag hfr2) rfl ht
      have hr : ∀ b, b < n → I2 47 0 (0 + b) = Int32.ofNat (z_cmn n u b) := fun b hb => by rw [Nat.zero_add]; exact p2 b (by omega)
      have q206 := z_p206_47 (d := d) (X := X) (J := J) ht2 (o := 0) (s := n) (m := z_cmn n u) (l := l) (co := co) (by rw [z_fr_t hfr2 33 (fun _ _ => rfl), z_fr_t hfr2 36 (fun _ _ => rfl)]; exact hl) (by omega) (by omega) (z_cmn_wf hn) hr
      have q194 := z_p194_47 (d := d + 1) (X := X) (J := J) ht2 (o := 0) (s := n) (m := z_cmn n u) (by omega) (by omega) (z_cmn_wf hn) hr hk1 hk hi
      obtain ⟨I', c1, c2⟩ := ih (u + 1) (by omega) I2 hfr2
      have em : z_mxl ((List.range (u + 1)).map (z_vv l n k i)) = max (z_mxl ((List.range u).map (z_vv l n k i))) (z_vv l n k i u) := by
        rw [z_rg_sn, z_mxl_app]
        show max _ (max _ 0) = _
        rw [Nat.max_zero]
      rw [em] at c1
      cases hf : z_fre l (z_cmn n u) n with
      | false =>
        rw [hf] at q206
        have ev : z_vv l n k i u = 0 := by unfold z_vv; rw [hf]; rfl
        rw [ev, Nat.max_zero] at c1
        have h3 : (-3 : Int32) ≤ z_e3 (z_mxl ((List.range u).map (z_vv l n k i))) := by
          have := z_e3_i (hmb u)
          rw [Int32.le_iff_toInt_le, this]
          show (-3 : Int) ≤ _
          split <;> omega
        refine ⟨I', fun o6 => z_q210_27 _ _ _ _ _ _ ⟨fun h => absurd h hge, fun _ => ⟨_, _, _, p1, false, _, _, _, q206, fun _ => ⟨fun _ => ?_, fun h => absurd h3 (Int32.not_le.mpr h)⟩, fun h => (by cases h)⟩⟩, c2⟩
        rw [z_os]
        exact c1 _
      | true =>
        rw [hf] at q206
        have ev : z_vv l n k i u = z_cnf (z_cmn n u) n k i + 1 := by unfold z_vv; rw [hf]; rfl
        have ee : z_e3 (z_vv l n k i u) = Int32.ofNat (z_cnf (z_cmn n u) n k i) := by rw [ev]; rfl
        have hlt := z_e3_lt (hmb u) (show z_vv l n k i u ≤ 1000 from Nat.le_trans (hvb u) (by decide))
        rw [ee] at hlt
        refine ⟨I', fun o6 => z_q210_27 _ _ _ _ _ _ ⟨fun h => absurd h hge, fun _ => ⟨_, _, _, p1, true, _, _, _, q206, fun h => (by cases h), fun _ => ⟨_, _, _, _, q194, fun h => ?_, fun h => ?_⟩⟩⟩, c2⟩
        · have h9 : ¬ z_mxl ((List.range u).map (z_vv l n k i)) < z_vv l n k i u := fun q9 => absurd h (Int32.not_le.mpr (hlt.mpr q9))
          rw [Nat.max_eq_left (by omega)] at c1
          rw [z_os]
          exact c1 _
        · have h9 := hlt.mp h
          rw [Nat.max_eq_right (by omega), ee] at c1
          rw [z_os]
          exact c1 _
  obtain ⟨I', c1, c2⟩ := key (2 ^ (n * (n - 1) / 2)) 0 (Nat.zero_add _) I z_fr_rf
  exact ⟨I', c1 none, z_q47_ag c2⟩
end
theorem z_e13 {x : Nat} (h : x ≤ 1000) : (0 ≤ z_e1 x → z_e3 x = z_e1 x) ∧ (z_e1 x < 0 → z_e3 x = -3) := by
  constructor
  · intro g
    have e := Int32.le_iff_toInt_le.mp g
    rw [z_e1_i h] at e
    have e : (0 : Int) ≤ (x : Int) - 1 := e
    unfold z_e3 z_e1
    rw [if_neg (by omega), if_neg (by omega)]
  · intro g
    have e := Int32.lt_iff_toInt_lt.mp g
    rw [z_e1_i h] at e
    have e : (x : Int) - 1 < (0 : Int) := e
    unfold z_e3
    rw [if_pos (by omega)]
theorem z_op_most (n mm f : Int32) : z_op 83 210 [z_i n, z_i mm, z_i f] := by
  intro X I J hR
  have hR0 := hR
  obtain ⟨n1, -, -, -, -, -, -, r8⟩ := hR
  by_cases hf : z_isf mm f
  · obtain ⟨k, i, k1, k4, hi, rfl, rfl⟩ := hf
    have hi11 : i < 11 := Nat.lt_of_lt_of_le hi (z_fon_le k k4)
    have p128 := z_p128t (d := 58) (X := X) (I := I) (J := J) k1 k4 hi
    have v0 : ∀ {P : Prop}, Int32.ofNat i < 0 → P := fun h => absurd (z_on0 i (by omega)) (Int32.not_le.mpr h)
    cases ha : z_bw n 1 5 with
    | false =>
      have fa : ∀ {P : Prop}, z_bw n 1 5 = true → P := fun h => by rw [ha] at h; cases h
      exact ⟨z_i (-1), X, X, I, I, J, J, z_q83_e (d := 42) _ _ _ ⟨_, _, _, _, p128, fun _ => rfl, fun h1 => ⟨fun _ => rfl, fun h2 => fa (z_bw_t.mpr ⟨h1, h2⟩)⟩⟩, z_q210_e (d := 55) _ _ _ ⟨fun _ => rfl, fun h => fa h⟩, hR0, Nat.le_succ _, Nat.le_add_right _ _, rfl⟩
    | true =>
      have fa : ∀ {P : Prop}, z_bw n 1 5 = false → P := fun h => by rw [ha] at h; cases h
      obtain ⟨h1, h2⟩ := z_bw_t.mp ha
      obtain ⟨s, hs, rfl⟩ := z_nat' (n := 5) (Int32.le_trans (by decide) h1) h2 (by decide)
      have hs1 := (z_ole (a := 1) (by decide) (by omega)).mp h1
      obtain ⟨l, hl⟩ : ∃ l, z_RoL (I 3 0) (I 33 0 2) (I 36 0) l := by
        obtain ⟨-, h, -⟩ := n1
        exact h
      have hlq := hl.2.2.1
      obtain ⟨M, hM⟩ : ∃ M, M = z_mxl ((List.range (2 ^ (s * (s - 1) / 2))).map (z_vv l s k i)) := ⟨_, rfl⟩
      have hMb : M ≤ 1000 := by
        rw [hM]
        exact z_mxl_b (fun x hx => by
          obtain ⟨r, _, rfl⟩ := List.mem_map.mp hx
          exact z_vv_le hs k4)
      obtain ⟨g1, g2⟩ := z_e13 hMb
      have hcl : ∃ I1, z_ev 60 (z_en 83 [z_r 0 0, z_i (Int32.ofNat s), z_i (Int32.ofNat k), z_i (z_fm i)] (true, X, I, J)) (some (z_i (z_e3 M)), (true, X, I1, J)) ∧ z_ag [0] I I1 := by
        by_cases e5 : s = 5
        · subst e5
          obtain ⟨I1, c1, c2⟩ := z_p139 (d := 42) (X := X) (J := J) hl (show 1 ≤ 4 by decide) (Nat.le_refl 4)
          obtain ⟨I2, s1, s2⟩ := z_p142 (d := 42) (X := X) (I := I1) (J := J) (l := l) hlq k1 k4 hi11
          have em : z_mxl ((List.range 11).flatMap (z_ff l k i)) = M := by rw [hM]; exact z_most5 hlq k1 k4
          rw [em] at s1
          exact ⟨I2, z_q83_e (d := 42) _ _ _ ⟨_, _, _, _, p128, fun h => absurd h (by decide), fun _ => ⟨fun h => absurd h (by decide), fun _ => ⟨fun _ => ⟨fun h => absurd rfl h, fun _ => ⟨_, _, _, _, c1, _, _, _, _, s1, fun h => by rw [g1 h], fun h => by rw [g2 h]⟩⟩, fun h => v0 h⟩⟩⟩, z_ag_tr c2 s2⟩
        · have hs4 : s ≤ 4 := by omega
          obtain ⟨I1, c1, c2⟩ := z_p139 (d := 42) (X := X) (J := J) hl hs1 hs4
          obtain ⟨I2, s1, s2⟩ := z_p141 (d := 42) (X := X) (I := I1) (J := J) (l := l) hs1 hs4 k4 hi11
          rw [z_most4 hlq hs1 hs4 k4, ← hM] at s1
          have ne5 : ¬ Int32.ofNat s = (5 : Int32) := fun q9 => e5 ((z_oeq (b := 5) (by omega) (by decide)).mp q9)
          exact ⟨I2, z_q83_e (d := 42) _ _ _ ⟨_, _, _, _, p128, fun h => absurd h1 (Int32.not_le.mpr h), fun _ => ⟨fun h => absurd h2 (Int32.not_le.mpr h), fun _ => ⟨fun _ => ⟨fun _ => ⟨_, _, _, _, c1, _, _, _, _, s1, fun h => by rw [g1 h], fun h => by rw [g2 h]⟩, fun h => absurd h ne5⟩, fun h => v0 h⟩⟩⟩, z_ag_tr c2 s2⟩
      obtain ⟨I1, c1, c2⟩ := hcl
      have r81 := z_Tb_ag c2 rfl r8
      obtain ⟨I2, d1, d2⟩ := z_p210 (d := 55) (X := X) (I := I1) (J := J) r81 (n := s) (k := k) (i := i) (l := l) (co := I 3 0) (by rw [z_ag_p c2 33 0 2 (c := 1) rfl rfl, z_ag_ti c2 36 0 (c := 1) (fun _ => rfl) rfl]; exact hl) hs k1 k4 hi11
      rw [← hM] at d1
      have hw := z_ag_tr c2 d2
      exact ⟨_, X, X, I1, I2, J, J, c1, z_q210_e (d := 55) _ _ _ ⟨fun h => fa h, fun _ => ⟨true, _, _, _, z_p166t r81 k1 k4 hi, fun _ => d1, fun h => (by cases h)⟩⟩, z_R_0 hR0 hw rfl rfl, Nat.le_succ _, Nat.le_add_right _ _, z_67_ag hw rfl⟩
  · have p128 := z_p128f (d := 58) (X := X) (I := I) (J := J) hf
    exact ⟨z_i (-1), X, X, I, I, J, J, z_q83_e (d := 42) _ _ _ ⟨_, _, _, _, p128, fun _ => rfl, fun _ => ⟨fun _ => rfl, fun _ => ⟨fun h => absurd h (by decide), fun _ => rfl⟩⟩⟩, z_q210_e (d := 55) _ _ _ ⟨fun _ => rfl, fun _ => ⟨false, _, _, _, z_p166f r8 hf, fun h => (by cases h), fun _ => rfl⟩⟩, hR0, Nat.le_succ _, Nat.le_add_right _ _, rfl⟩
