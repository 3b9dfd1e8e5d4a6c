/-! calls of both: posts, roads -/
theorem z_Rn0 {I : Nat → Nat → Nat → Int32} {po ro : Nat → Int32} : z_Rn (fun n => I 13 (4 * 0 + n) 1) (fun n => I 14 (4 * 0 + n)) po ro ↔ z_Rn (fun n => I 13 n 1) (fun n => I 14 n) po ro := by
  simp only [Nat.mul_zero, Nat.zero_add]
/-- promise 4 -/
theorem z_op_posts (x n : Int32) : z_op 69 184 [z_i x, z_i n] := by
  intro X I J hR
  have hR0 := hR
  obtain ⟨⟨n1, n2, n3, n4, n5⟩, r2, r3, r4, r5, r6, r7, r8⟩ := hR
  cases hb : z_bw x 0 3 with
  | false =>
    refine ⟨z_i (-1), X, X, I, I, J, J, z_q69_e (d := 59) x n ⟨fun _ => rfl, fun h => ?_⟩, z_q184_e (d := 58) x n ⟨fun _ => rfl, fun h => ?_⟩, hR0, Nat.le_succ _, Nat.le_add_right _ _, rfl⟩
    · rw [hb] at h; cases h
    · rw [hb] at h; cases h
  | true =>
    obtain ⟨k, hk, rfl⟩ := z_bw3 hb
    cases hv : z_bw n 1 10 with
    | false =>
      refine ⟨z_i (-1), X, X, I, I, J, J, z_q69_e (d := 59) _ n ⟨fun _ => rfl, fun _ => ⟨fun _ => rfl, fun h1 => ⟨fun h2 => ?_, fun _ => rfl⟩⟩⟩, z_q184_e (d := 58) _ n ⟨fun _ => rfl, fun _ => ⟨fun h => ?_, fun _ => rfl⟩⟩, hR0, Nat.le_succ _, Nat.le_add_right _ _, rfl⟩
      · rw [z_bw_t.mpr ⟨h1, h2⟩] at hv; cases hv
      · rw [hv] at h; cases h
    | true =>
      obtain ⟨g0, g1⟩ := z_bw_t.mp hv
      obtain ⟨s, hs, rfl⟩ := z_nat' (n := 10) (Int32.le_trans (by decide) g0) g1 (by decide)
      have hs1 : 1 ≤ s := (z_ole (a := 1) (by decide) (by omega)).mp g0
      refine ⟨z_i (Int32.ofNat s), X, X, z_wo (z_up I 13 k 1 (Int32.ofNat s)) 14 k 0 10 (fun _ => 0), z_wo (z_up (z_wo (z_up I 13 k 1 (Int32.ofNat s)) 14 k 0 10 (fun _ => 0)) 34 0 k (Int32.ofNat s)) 35 0 (10 * k) 10 (fun _ => 0), J, J,
        z_q69_e (d := 59) _ _ ⟨fun h => ?_, fun _ => ⟨fun h => absurd g0 (Int32.not_le.mpr h), fun _ => ⟨fun _ => ⟨k, rfl, hk, _, _, _, z_p19 (by omega) _, rfl⟩, fun h => absurd g1 (Int32.not_le.mpr h)⟩⟩⟩,
        z_q184_e (d := 58) _ _ ⟨fun h => ?_, fun _ => ⟨fun _ => ⟨_, _, _, z_p169 hk _, rfl⟩, fun h => ?_⟩⟩, ⟨⟨?_, n2, n3, n4, n5⟩, ?_, r3, r4, r5, r6, r7, r8⟩, Nat.le_succ _, Nat.le_add_right _ _, rfl⟩
      · rw [hb] at h; cases h
      · rw [hb] at h; cases h
      · rw [hv] at h; cases h
      · rw [z_Rn0] at n1 ⊢
        refine z_Rn_up n1 (n := k) (s := s) (m := fun _ => 0) hs1 hs (z_wfm_0 s) ?_ ?_ (fun p hp => ⟨?_, ?_⟩) (fun u hu hne => ⟨?_, ?_, fun p hp => ⟨?_, ?_⟩⟩)
        · show z_up I 13 k 1 (Int32.ofNat s) 13 k 1 = _
          rw [z_up_e]
        · show z_up (z_wo (z_up I 13 k 1 (Int32.ofNat s)) 14 k 0 10 (fun _ => 0)) 34 0 k (Int32.ofNat s) 34 0 k = _
          rw [z_up_e]
        · show z_wo (z_up I 13 k 1 (Int32.ofNat s)) 14 k 0 10 (fun _ => 0) 14 k p = _
          rw [z_wo_e0 hp]; rfl
        · rw [z_wo_e hp]; rfl
        · show z_up I 13 k 1 (Int32.ofNat s) 13 u 1 = _
          rw [z_up_i hne]
        · show z_up (z_wo (z_up I 13 k 1 (Int32.ofNat s)) 14 k 0 10 (fun _ => 0)) 34 0 k (Int32.ofNat s) 34 0 u = _
          rw [z_up_j hne]; rfl
        · show z_wo (z_up I 13 k 1 (Int32.ofNat s)) 14 k 0 10 (fun _ => 0) 14 u p = _
          rw [z_wo_i hne]; rfl
        · rw [z_wo_j (by omega)]; rfl
      · refine z_Rk_same (I := I) rfl rfl (fun u hu => ?_) (fun u hu => ?_) rfl rfl rfl rfl rfl rfl rfl rfl rfl r2
        · show z_up I 13 k 1 (Int32.ofNat s) 13 (4 * 1 + u) 1 = _
          rw [z_up_i (by omega)]
        · show z_wo (z_up I 13 k 1 (Int32.ofNat s)) 14 k 0 10 (fun _ => 0) 14 (4 * 1 + u) = _
          rw [z_wo_i (by omega)]; rfl
theorem z_c_inj {a b : Bool} : z_c a = z_c b ↔ a = b := by cases a <;> cases b <;> decide
theorem z_ms_same {m : Nat → Nat} {s a b : Nat} (h : z_wfm s m) (ha : a < 10) (hb : b < 10) (hab : a ≠ b) {is1 : Bool} (e : (m a).testBit b = is1) {p : Nat} (hp : p < 10) : z_ms m a b is1 p = m p := by
  apply Nat.eq_of_testBit_eq
  intro c
  rw [z_ms_tb h.1 ha hb hab]
  split
  · next g =>
    rcases g with ⟨rfl, rfl⟩ | ⟨rfl, rfl⟩
    · exact e.symm
    · rw [← e]
      cases h1 : (m c).testBit p with
      | true => exact ((h.2 c p ha h1).2.2.2).symm
      | false =>
        cases h2 : (m p).testBit c with
        | false => rfl
        | true => rw [(h.2 p c hb h2).2.2.2] at h1; cases h1
  · rfl
/-- promise 5 -/
theorem z_op_road (x a b : Int32) (is1 : Bool) : z_op 70 185 [z_i x, z_i a, z_i b, z_i (z_c is1)] := by
  intro X I J hR
  have hR0 := hR
  obtain ⟨⟨n1, n2, n3, n4, n5⟩, r2, r3, r4, r5, r6, r7, r8⟩ := hR
  cases hb : z_bw x 0 3 with
  | false =>
    refine ⟨z_i (-1), X, X, I, I, J, J, z_q70_e (d := 58) x a b is1 ⟨fun _ => rfl, fun h => ?_⟩, z_q185_e (d := 58) x a b is1 ⟨fun _ => rfl, fun h => ?_⟩, hR0, Nat.le_succ _, Nat.le_add_right _ _, rfl⟩
    · rw [hb] at h; cases h
    · rw [hb] at h; cases h
  | true =>
    obtain ⟨k, hk, rfl⟩ := z_bw3 hb
    rw [z_Rn0] at n1
    have hn1 := n1
    obtain ⟨s, m, g1, g2, g3, g4, g5, g6⟩ := n1 k hk
    have g4 : I 13 k 1 = Int32.ofNat s := g4
    have g5 : I 34 0 k = Int32.ofNat s := g5
    have g6 : ∀ p, p < 10 → I 14 k p = Int32.ofNat (m p) ∧ I 35 0 (10 * k + p) = Int32.ofNat (m p) := g6
    have eC : ∀ v : Int32, (z_bw (Int32.ofNat k) 0 3 && z_lt0 v (I 13 (Int32.ofNat k).toNatClampNeg 1)) = z_lt0 v (Int32.ofNat s) := fun v => by rw [hb, z_cl_nat hk (by decide), g4]; rfl
    have eM : ∀ v : Int32, z_bw v 0 (I 34 0 k - 1) = z_lt0 v (Int32.ofNat s) := fun v => by rw [z_bw_lt g5 (by omega), g5]
    cases ha : z_lt0 a (Int32.ofNat s) with
    | false =>
      refine ⟨z_i (-1), X, X, I, I, J, J, z_q70_e (d := 58) _ a b is1 ⟨fun _ => rfl, fun h => ?_⟩, z_q185_e (d := 58) _ a b is1 ⟨fun _ => rfl, fun _ => ⟨_, _, _, _, z_p164 hk a, fun _ => rfl, fun h => ?_⟩⟩, hR0, Nat.le_succ _, Nat.le_add_right _ _, rfl⟩
      · rw [eC, ha] at h; cases h
      · rw [eM, ha] at h; cases h
    | true =>
      cases hbb : z_lt0 b (Int32.ofNat s) with
      | false =>
        refine ⟨z_i (-1), X, X, I, I, J, J, z_q70_e (d := 58) _ a b is1 ⟨fun _ => rfl, fun _ => ⟨fun _ => rfl, fun h => ?_⟩⟩, z_q185_e (d := 58) _ a b is1 ⟨fun _ => rfl, fun _ => ⟨_, _, _, _, z_p164 hk a, fun _ => rfl, fun _ => ⟨_, _, _, _, z_p164 hk b, fun _ => rfl, fun h => ?_⟩⟩⟩, hR0, Nat.le_succ _, Nat.le_add_right _ _, rfl⟩
        · rw [eC, hbb] at h; cases h
        · rw [eM, hbb] at h; cases h
      | true =>
        obtain ⟨a, ha1, rfl⟩ := z_lt0n ha rfl (by omega)
        obtain ⟨b, hb1, rfl⟩ := z_lt0n hbb rfl (by omega)
        by_cases hab : a = b
        · subst hab
          refine ⟨z_i (-1), X, X, I, I, J, J, z_q70_e (d := 58) _ _ _ is1 ⟨fun _ => rfl, fun _ => ⟨fun _ => rfl, fun _ => ⟨fun h => absurd rfl h, fun _ => rfl⟩⟩⟩, z_q185_e (d := 58) _ _ _ is1 ⟨fun _ => rfl, fun _ => ⟨_, _, _, _, z_p164 hk _, fun _ => rfl, fun _ => ⟨_, _, _, _, z_p164 hk _, fun _ => rfl, fun _ => ⟨fun h => absurd rfl h, fun _ => rfl⟩⟩⟩⟩, hR0, Nat.le_succ _, Nat.le_add_right _ _, rfl⟩
        · have hne : ¬ Int32.ofNat a = Int32.ofNat b := fun q => hab ((z_oeq (by omega) (by omega)).mp q)
          have ec : ∀ f : Bool, (z_bw (Int32.ofNat k) 0 3 && z_lt0 (Int32.ofNat a) (I 13 (Int32.ofNat k).toNatClampNeg 1)) = false → f = true := fun f h => by rw [eC, ha] at h; cases h
          have ec' : ∀ f : Bool, (z_bw (Int32.ofNat k) 0 3 && z_lt0 (Int32.ofNat b) (I 13 (Int32.ofNat k).toNatClampNeg 1)) = false → f = true := fun f h => by rw [eC, hbb] at h; cases h
          have e14 : z_bt (I 14 k a) b = (m a).testBit b := by rw [(g6 a (by omega)).1, z_bt_nat _ (g3.1 a (by omega)) b (by omega)]
          have key : ∀ (I1 : Nat → Nat → Nat → Int32), (∀ p, p < 10 → I1 14 k p = Int32.ofNat (z_ms m a b is1 p)) → (∀ u, u ≠ k → I1 14 u = I 14 u) → (∀ t, t ≠ 14 → I1 t = I t) →
              z_R X (z_sr I1 35 0 (10 * k) a b is1) J := by
            intro I1 q1 q2 q3
            have f : ∀ t, t ≠ 35 → z_sr I1 35 0 (10 * k) a b is1 t = I1 t := fun t ht => by unfold z_sr; rw [z_up_t ht, z_up_t ht]
            have ff : ∀ t, t ≠ 35 → t ≠ 14 → z_sr I1 35 0 (10 * k) a b is1 t = I t := fun t ht ht2 => (f t ht).trans (q3 t ht2)
            generalize hI2 : z_sr I1 35 0 (10 * k) a b is1 = I2 at f ff ⊢
            have e35 : ∀ p, p < 10 → I2 35 0 (10 * k + p) = Int32.ofNat (z_ms m a b is1 p) := fun p hp => by
              rw [← hI2]
              exact z_sr_at g3.1 (fun p hp => by rw [q3 35 (by decide)]; exact (g6 p hp).2) (by omega) (by omega) hab is1 hp
            have e35o : ∀ c, (∀ p, p < 10 → c ≠ 10 * k + p) → I2 35 0 c = I 35 0 c := fun c hc => by
              rw [← hI2, z_sr_j (hc a (by omega)) (hc b (by omega)), q3 35 (by decide)]
            refine ⟨⟨?_, ?_, ?_, ?_, ?_⟩, ?_, ?_, ?_, ?_, ?_, ?_, ?_⟩
            · rw [z_Rn0]
              refine z_Rn_up hn1 (n := k) (s := s) (m := z_ms m a b is1) g1 g2 (z_wfm_ms g2 g3 ha1 hb1 hab is1) ?_ ?_ (fun p hp => ⟨?_, e35 p hp⟩) (fun u hu hne => ⟨?_, ?_, fun p hp => ⟨?_, ?_⟩⟩)
              · show I2 13 k 1 = _
                rw [ff 13 (by decide) (by decide)]; exact g4
              · show I2 34 0 k = _
                rw [ff 34 (by decide) (by decide)]; exact g5
              · show I2 14 k p = _
                rw [f 14 (by decide)]; exact q1 p hp
              · show I2 13 u 1 = I 13 u 1
                rw [ff 13 (by decide) (by decide)]
              · show I2 34 0 u = I 34 0 u
                rw [ff 34 (by decide) (by decide)]
              · show I2 14 u p = I 14 u p
                rw [f 14 (by decide), q2 u hne]
              · exact e35o _ (fun p9 hp9 => by omega)
            · rw [ff 3 (by decide) (by decide), ff 33 (by decide) (by decide), ff 36 (by decide) (by decide)]; exact n2
            · rw [ff 4 (by decide) (by decide), ff 5 (by decide) (by decide), ff 6 (by decide) (by decide), ff 33 (by decide) (by decide), ff 37 (by decide) (by decide), ff 38 (by decide) (by decide)]; exact n3
            · rw [ff 1 (by decide) (by decide), ff 33 (by decide) (by decide)]; exact n4
            · rw [ff 32 (by decide) (by decide), ff 1 (by decide) (by decide), ff 12 (by decide) (by decide), ff 33 (by decide) (by decide), ff 39 (by decide) (by decide)]; exact n5
            · refine z_Rk_same (by rw [ff 0 (by decide) (by decide)]) (by rw [ff 33 (by decide) (by decide)]) (fun u hu => by rw [ff 13 (by decide) (by decide)]) (fun u hu => by rw [f 14 (by decide), q2 _ (by omega)]) (by rw [ff 3 (by decide) (by decide)]) (by rw [ff 4 (by decide) (by decide)]) (by rw [ff 5 (by decide) (by decide)]) (by rw [ff 6 (by decide) (by decide)]) (by rw [ff 1 (by decide) (by decide)]) (by rw [ff 1 (by decide) (by decide)]) (by rw [ff 12 (by decide) (by decide)]) (by rw [ff 32 (by decide) (by decide)]) (by rw [ff 62 (by decide) (by decide)]) r2
            · exact z_Rt_c (by rw [ff 15 (by decide) (by decide)]) (by rw [ff 33 (by decide) (by decide)]) (ff 16 (by decide) (by decide)) (ff 43 (by decide) (by decide)) r3
            · exact z_Rr_c (by rw [ff 0 (by decide) (by decide)]) (by rw [ff 33 (by decide) (by decide)]) (ff 19 (by decide) (by decide)) (ff 20 (by decide) (by decide)) (ff 53 (by decide) (by decide)) r4
            · exact z_Rh_c (ff 30 (by decide) (by decide)) (ff 55 (by decide) (by decide)) (ff 56 (by decide) (by decide)) rfl rfl r5
            · exact z_Rv_c (ff 22 (by decide) (by decide)) (ff 23 (by decide) (by decide)) (ff 58 (by decide) (by decide)) (ff 59 (by decide) (by decide)) (ff 60 (by decide) (by decide)) r6
            · exact z_Rx_c (by rw [ff 17 (by decide) (by decide)]) (by rw [ff 33 (by decide) (by decide)]) (ff 18 (by decide) (by decide)) (ff 61 (by decide) (by decide)) r7
            · exact z_Tb_c (ff 40 (by decide) (by decide)) (ff 41 (by decide) (by decide)) (ff 42 (by decide) (by decide)) r8
          have e35b : ∀ I1 : Nat → Nat → Nat → Int32, (∀ t, t ≠ 14 → I1 t = I t) → z_bt (I1 35 0 (10 * k + a)) b = (m a).testBit b := fun I1 h => by
            rw [h 35 (by decide), (g6 a (by omega)).2, z_bt_nat _ (g3.1 a (by omega)) b (by omega)]
          cases hs : decide ((m a).testBit b = is1) with
          | true =>
            have hs := of_decide_eq_true hs
            refine ⟨z_i 0, X, X, I, z_sr I 35 0 (10 * k) a b is1, J, J,
              z_q70_e (d := 58) _ _ _ is1 ⟨fun h => (by cases ec false h), fun _ => ⟨fun h => (by cases ec' false h), fun _ => ⟨fun _ => ⟨k, rfl, hk, _, _, _, _, z_p22 (by omega) (by omega), fun h => absurd (z_c_inj.mpr (e14.trans hs)) h, fun _ => rfl⟩, fun h => absurd h hne⟩⟩⟩,
              z_q185_e (d := 58) _ _ _ is1 ⟨fun h => (by rw [hb] at h; cases h), fun _ => ⟨_, _, _, _, z_p164 hk _, fun h => (by rw [eM, ha] at h; cases h), fun _ => ⟨_, _, _, _, z_p164 hk _, fun h => (by rw [eM, hbb] at h; cases h), fun _ => ⟨fun _ => ⟨_, _, _, _, z_p167 hk (by omega), fun h => absurd (z_c_inj.mpr ((e35b I (fun _ _ => rfl)).trans hs)) h, fun _ => ⟨_, _, _, z_p168 hk (by omega) (by omega) is1, rfl⟩⟩, fun h => absurd h hne⟩⟩⟩⟩,
              key I (fun p hp => by rw [(g6 p hp).1, z_ms_same g3 (by omega) (by omega) hab hs hp]) (fun _ _ => rfl) (fun _ _ => rfl), Nat.le_succ _, Nat.le_add_right _ _, rfl⟩
          | false =>
            have hs := of_decide_eq_false hs
            have q3 : ∀ t, t ≠ 14 → z_sr I 14 k 0 a b is1 t = I t := fun t ht => by unfold z_sr; rw [z_up_t ht, z_up_t ht]
            refine ⟨z_i 1, X, X, z_sr I 14 k 0 a b is1, z_sr (z_sr I 14 k 0 a b is1) 35 0 (10 * k) a b is1, J, J,
              z_q70_e (d := 58) _ _ _ is1 ⟨fun h => (by cases ec false h), fun _ => ⟨fun h => (by cases ec' false h), fun _ => ⟨fun _ => ⟨k, rfl, hk, _, _, _, _, z_p22 (by omega) (by omega), fun _ => ⟨_, _, _, z_p23 (by omega) (by omega) (by omega) is1, rfl⟩, fun h => absurd (e14.symm.trans (z_c_inj.mp h)) hs⟩, fun h => absurd h hne⟩⟩⟩,
              z_q185_e (d := 58) _ _ _ is1 ⟨fun h => (by rw [hb] at h; cases h), fun _ => ⟨_, _, _, _, z_p164 hk _, fun h => (by rw [q3 34 (by decide), eM, ha] at h; cases h), fun _ => ⟨_, _, _, _, z_p164 hk _, fun h => (by rw [q3 34 (by decide), eM, hbb] at h; cases h), fun _ => ⟨fun _ => ⟨_, _, _, _, z_p167 hk (by omega), fun _ => ⟨_, _, _, z_p168 hk (by omega) (by omega) is1, rfl⟩, fun h => absurd ((e35b _ q3).symm.trans (z_c_inj.mp h)) hs⟩, fun h => absurd h hne⟩⟩⟩⟩,
              key _ (fun p hp => ?_) (fun u hu => z_sr_i hu) q3, Nat.le_succ _, Nat.le_add_right _ _, ?_⟩
            · have h0 := z_sr_at (f := I) (t := 14) (i := k) (o := 0) (a := a) (b := b) g3.1 (fun p hp => by rw [Nat.zero_add]; exact (g6 p hp).1) (by omega) (by omega) hab is1 hp
              rw [Nat.zero_add] at h0
              exact h0
            · show z_sr (z_sr I 14 k 0 a b is1) 35 0 (10 * k) a b is1 67 = _
              unfold z_sr
              rfl
