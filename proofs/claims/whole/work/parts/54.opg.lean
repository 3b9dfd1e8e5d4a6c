/-! calls of both: sheet -/
section
variable {d : Nat} {X : z_X} {I : Nat → Nat → Nat → Int32} {J : Nat → Nat → Nat → Int64}
theorem z_p33 {q : Nat} (hq : q < 4) (so n : Int32) : z_ev d (z_en 33 [z_r 30 q, z_i so, z_i n] (true, X, I, J)) (none, (true, X, z_up (z_up I 30 q 1 so) 30 q 2 n, z_wo J 31 q 0 40 (fun _ => 0))) := by
  refine z_q33_e q hq so n ?_
  have key : ∀ j k, k + j = 40 → z_ev d (33, 12, [some (z_r 30 q), some (z_i so), some (z_i n), some (z_i (Int32.ofNat k))], [], (true, X, z_up (z_up I 30 q 1 so) 30 q 2 n, z_wo J 31 q 0 k (fun _ => 0))) (none, (true, X, z_up (z_up I 30 q 1 so) 30 q 2 n, z_wo J 31 q 0 40 (fun _ => 0))) := by
    intro j
    induction j with
    | zero =>
      intro k hk
      obtain rfl : k = 40 := by omega
      refine z_q33_12 q hq so n _ ⟨fun _ => rfl, fun h => ?_⟩
      exact absurd ((z_olt (b := 40) (by omega) (by decide)).mp h) (by omega)
    | succ j ih =>
      intro k hk
      refine z_q33_12 q hq so n _ ⟨fun h => ?_, fun h => ⟨k, rfl, by omega, ?_⟩⟩
      · exact absurd ((z_ole (a := 40) (by decide) (by omega)).mp h) (by omega)
      · rw [z_os, z_wo_s0 _ _ _ _ (fun _ => (0 : Int64))]
        exact ih (k + 1) (by omega)
  have h0 := key 40 0 rfl
  rw [z_wo_0] at h0
  exact h0
theorem z_l250 {q : Nat} (hq : q < 4) (so n : Int32) : z_ev (d + 2) (250, 64, [some (z_r 33 0), some (z_i (Int32.ofNat q)), some (z_i so), some (z_i n), some (z_i 0)], [], (true, X, I, J)) (some (z_i 1), (true, X, I, z_wo J 57 0 (40 * q) 40 (fun _ => 0))) := by
  have key : ∀ j k, k + j = 40 → z_ev (d + 2) (250, 64, [some (z_r 33 0), some (z_i (Int32.ofNat q)), some (z_i so), some (z_i n), some (z_i (Int32.ofNat k))], [], (true, X, I, z_wo J 57 0 (40 * q) k (fun _ => 0))) (some (z_i 1), (true, X, I, z_wo J 57 0 (40 * q) 40 (fun _ => 0))) := by
    intro j
    induction j with
    | zero =>
      intro k hk
      obtain rfl : k = 40 := by omega
      refine z_q250_64 _ so n _ ⟨fun _ => rfl, fun h => ?_⟩
      exact absurd ((z_olt (b := 40) (by omega) (by decide)).mp h) (by omega)
    | succ j ih =>
      intro k hk
      refine z_q250_64 _ so n _ ⟨fun h => ?_, fun h => ⟨40 * q + k, z_o40 q k, by omega, ?_⟩⟩
      · exact absurd ((z_ole (a := 40) (by decide) (by omega)).mp h) (by omega)
      · rw [z_os, z_wo_s _ _ _ _ _ (fun _ => (0 : Int64))]
        exact ih (k + 1) (by omega)
  have h0 := key 40 0 rfl
  rw [z_wo_0] at h0
  exact h0
end
theorem z_R_sh {X : z_X} {I : Nat → Nat → Nat → Int32} {J : Nat → Nat → Nat → Int64} (hR : z_R X I J) {n : Nat} (hn : n < 4) {so l : Int32} (hso : (so = -1 ∧ l = 0) ∨ ∃ s l9, s < 4 ∧ l9 ≤ 40 ∧ so = Int32.ofNat s ∧ l = Int32.ofNat l9) :
    z_R X (z_up (z_up (z_up (z_up I 30 n 1 so) 30 n 2 l) 55 0 n so) 56 0 n l) (z_wo (z_wo J 31 n 0 40 (fun _ => 0)) 57 0 (40 * n) 40 (fun _ => 0)) := by
  obtain ⟨n1, r2, r3, r4, r5, r6, r7, r8⟩ := hR
  have hw : z_ag [5] I (z_up (z_up (z_up (z_up I 30 n 1 so) 30 n 2 l) 55 0 n so) 56 0 n l) := z_ag_up (z_ag_up (z_ag_up (z_ag_up z_ag_rf rfl) rfl) rfl) rfl
  refine ⟨z_now_ag hw rfl rfl n1, z_Rk_ag hw rfl rfl r2, z_Rt_ag hw rfl r3, z_Rr_ag hw rfl r4, fun u hu => ?_, z_Rv_ag hw rfl r6, z_Rx_ag hw rfl r7, z_Tb_ag hw rfl r8⟩
  obtain ⟨q1, q2, q3, q4⟩ := r5 u hu
  by_cases hun : u = n
  · subst hun
    have a1 : z_up (z_up (z_up (z_up I 30 u 1 so) 30 u 2 l) 55 0 u so) 56 0 u l 30 u 1 = so := by
      show z_up (z_up I 30 u 1 so) 30 u 2 l 30 u 1 = so
      rw [z_up_j (by decide), z_up_e]
    have a2 : z_up (z_up (z_up (z_up I 30 u 1 so) 30 u 2 l) 55 0 u so) 56 0 u l 30 u 2 = l := by
      show z_up (z_up I 30 u 1 so) 30 u 2 l 30 u 2 = l
      rw [z_up_e]
    have a3 : z_up (z_up (z_up (z_up I 30 u 1 so) 30 u 2 l) 55 0 u so) 56 0 u l 55 0 u = so := by
      show z_up (z_up (z_up I 30 u 1 so) 30 u 2 l) 55 0 u so 55 0 u = so
      rw [z_up_e]
    have a4 : z_up (z_up (z_up (z_up I 30 u 1 so) 30 u 2 l) 55 0 u so) 56 0 u l 56 0 u = l := z_up_e
    refine ⟨a1.trans a3.symm, a2.trans a4.symm, ?_, fun j hj => ?_⟩
    · rw [a3, a4]; exact hso
    · show z_wo J 31 u 0 40 (fun _ => 0) 31 u j = _ ∧ _
      rw [z_wo_e0 hj, z_wo_e hj]
      exact ⟨rfl, 0, rfl⟩
  · have b1 : z_up (z_up (z_up (z_up I 30 n 1 so) 30 n 2 l) 55 0 n so) 56 0 n l 30 u = I 30 u := by
      show z_up (z_up I 30 n 1 so) 30 n 2 l 30 u = _
      rw [z_up_i hun, z_up_i hun]
    have b3 : z_up (z_up (z_up (z_up I 30 n 1 so) 30 n 2 l) 55 0 n so) 56 0 n l 55 0 u = I 55 0 u := by
      show z_up (z_up (z_up I 30 n 1 so) 30 n 2 l) 55 0 n so 55 0 u = _
      rw [z_up_j hun]; rfl
    have b4 : z_up (z_up (z_up (z_up I 30 n 1 so) 30 n 2 l) 55 0 n so) 56 0 n l 56 0 u = I 56 0 u := by
      rw [z_up_j hun]; rfl
    rw [b1, b3, b4]
    refine ⟨q1, q2, q3, fun j hj => ?_⟩
    show z_wo J 31 n 0 40 (fun _ => 0) 31 u j = _ ∧ _
    rw [z_wo_i hun, z_wo_j (by omega)]
    exact q4 j hj
/-- promise 43 -/
theorem z_op_sheet (x so n : Int32) : z_op 108 250 [z_i x, z_i so, z_i n] := by
  intro X I J hR
  cases ha : z_bw x 0 3 with
  | false =>
    refine ⟨z_i (-1), X, X, I, I, J, J, z_q108_e (d := 59) x so n ⟨fun _ => rfl, fun h => ?_⟩, z_q250_e (d := 58) x so n ⟨fun _ => rfl, fun h => ?_⟩, hR, Nat.le_succ _, Nat.le_add_right _ _, rfl⟩
    · rw [ha] at h; cases h
    · rw [ha] at h; cases h
  | true =>
    obtain ⟨k, hk, rfl⟩ := z_bw3 ha
    have fa : ∀ {P : Prop}, z_bw (Int32.ofNat k) 0 3 = false → P := fun h => by rw [ha] at h; cases h
    by_cases hm : so = -1
    · subst hm
      have fb : ∀ {P : Prop}, z_bw (-1) (-1) 3 = false → P := fun h => by rw [show z_bw (-1) (-1) 3 = true from by decide] at h; cases h
      exact ⟨z_i 1, X, X, _, _, _, _, z_q108_e (d := 59) _ _ n ⟨fun h => fa h, fun _ => ⟨fun _ => ⟨k, rfl, hk, _, _, _, z_p33 hk _ _, rfl⟩, fun h => absurd rfl h⟩⟩, z_q250_e (d := 58) _ _ n ⟨fun h => fa h, fun _ => ⟨fun h => fb h, fun _ => ⟨fun _ => ⟨k, rfl, hk, z_l250 hk _ _⟩, fun h => absurd h (by decide)⟩⟩⟩, z_R_sh hR hk (Or.inl ⟨rfl, rfl⟩), Nat.le_succ _, Nat.le_add_right _ _, rfl⟩
    · cases hb : z_bw so 0 3 with
      | false =>
        refine ⟨z_i (-1), X, X, I, I, J, J, z_q108_e (d := 59) _ so n ⟨fun h => fa h, fun _ => ⟨fun h => absurd h hm, fun _ => ⟨fun _ => rfl, fun h => ?_⟩⟩⟩, z_q250_e (d := 58) _ so n ⟨fun h => fa h, fun _ => ⟨fun _ => rfl, fun h => ?_⟩⟩, hR, Nat.le_succ _, Nat.le_add_right _ _, rfl⟩
        · rw [hb] at h; cases h
        · exfalso
          obtain ⟨h1, h2⟩ := z_bw_t.mp h
          rcases z_bw_f.mp hb with h3 | h3
          · apply hm
            rw [Int32.le_iff_toInt_le] at h1
            rw [Int32.lt_iff_toInt_lt] at h3
            rw [← Int32.toInt_inj]
            have e1 : (-1 : Int32).toInt = -1 := rfl
            have e2 : (0 : Int32).toInt = 0 := rfl
            omega
          · exact absurd h2 (Int32.not_le.mpr h3)
      | true =>
        have fb : ∀ {P : Prop}, z_bw so 0 3 = false → P := fun h => by rw [hb] at h; cases h
        obtain ⟨g0, g1⟩ := z_bw_t.mp hb
        have hb2 : z_bw so (-1) 3 = true := z_bw_t.mpr ⟨Int32.le_trans (by decide) g0, g1⟩
        have fc : ∀ {P : Prop}, z_bw so (-1) 3 = false → P := fun h => by rw [hb2] at h; cases h
        have fn : ∀ {P : Prop}, so < 0 → P := fun h => absurd g0 (Int32.not_le.mpr h)
        by_cases h40 : n ≤ 40
        · by_cases h0 : 0 ≤ n
          · obtain ⟨s, hs, es⟩ := z_bw3 hb
            obtain ⟨l, hl, el⟩ := z_nat' (n := 40) h0 h40 (by decide)
            exact ⟨z_i 1, X, X, _, _, _, _, z_q108_e (d := 59) _ so n ⟨fun h => fa h, fun _ => ⟨fun h => absurd h hm, fun _ => ⟨fun h => fb h, fun _ => ⟨fun _ => ⟨fun _ => ⟨k, rfl, hk, _, _, _, z_p33 hk _ _, rfl⟩, fun h => absurd h0 (Int32.not_le.mpr h)⟩, fun h => absurd h40 (Int32.not_le.mpr h)⟩⟩⟩⟩, z_q250_e (d := 58) _ so n ⟨fun h => fa h, fun _ => ⟨fun h => fc h, fun _ => ⟨fun h => fn h, fun _ => ⟨fun _ => ⟨fun _ => ⟨k, rfl, hk, z_l250 hk _ _⟩, fun h => absurd h0 (Int32.not_le.mpr h)⟩, fun h => absurd h40 (Int32.not_le.mpr h)⟩⟩⟩⟩, z_R_sh hR hk (Or.inr ⟨s, l, hs, hl, es, el⟩), Nat.le_succ _, Nat.le_add_right _ _, rfl⟩
          · exact ⟨z_i (-14), X, X, I, I, J, J, z_q108_e (d := 59) _ so n ⟨fun h => fa h, fun _ => ⟨fun h => absurd h hm, fun _ => ⟨fun h => fb h, fun _ => ⟨fun _ => ⟨fun h => absurd h h0, fun _ => rfl⟩, fun h => absurd h40 (Int32.not_le.mpr h)⟩⟩⟩⟩, z_q250_e (d := 58) _ so n ⟨fun h => fa h, fun _ => ⟨fun h => fc h, fun _ => ⟨fun h => fn h, fun _ => ⟨fun _ => ⟨fun h => absurd h h0, fun _ => rfl⟩, fun h => absurd h40 (Int32.not_le.mpr h)⟩⟩⟩⟩, hR, Nat.le_succ _, Nat.le_add_right _ _, rfl⟩
        · exact ⟨z_i (-1), X, X, I, I, J, J, z_q108_e (d := 59) _ so n ⟨fun h => fa h, fun _ => ⟨fun h => absurd h hm, fun _ => ⟨fun h => fb h, fun _ => ⟨fun h => absurd h h40, fun _ => rfl⟩⟩⟩⟩, z_q250_e (d := 58) _ so n ⟨fun h => fa h, fun _ => ⟨fun h => fc h, fun _ => ⟨fun h => fn h, fun _ => ⟨fun h => absurd h h40, fun _ => rfl⟩⟩⟩⟩, hR, Nat.le_succ _, Nat.le_add_right _ _, rfl⟩
