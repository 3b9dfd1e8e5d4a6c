/-! calls of both: act -/
theorem z_sho2 {X : z_X} {I : Nat → Nat → Nat → Int32} {J : Nat → Nat → Nat → Int64} (n5 : z_Rs X.1 X.2.2.1 (X.2.2.2 11 0) (I 32) (I 1 0 5) (I 12 0) (I 33 0 8) (I 39 0)) (r6 : z_Rv I) {n : Nat} (hn : n < 4) :
    ((∀ d, z_ev (d + 1) (z_en 155 [z_r 0 0, z_i (Int32.ofNat n)] (true, X, I, J)) (some z_n, (true, X, I, J))) ∧ ∃ u : Int32, z_bw u 0 3 = false ∧ ∀ I' d, I' 58 = I 58 → I' 59 = I 59 → I' 39 = I 39 → I' 33 0 8 = I 33 0 8 → z_ev (d + 2) (z_en 256 [z_r 33 0, z_i (Int32.ofNat n)] (true, X, I', J)) (some (z_i u), (true, X, I', J))) ∨
    (∃ q c j, (∀ d, z_ev (d + 1) (z_en 155 [z_r 0 0, z_i (Int32.ofNat n)] (true, X, I, J)) (some (z_r 32 q), (true, X, I, J))) ∧ (∀ I' d, I' 58 = I 58 → I' 59 = I 59 → I' 39 = I 39 → I' 33 0 8 = I 33 0 8 → z_ev (d + 2) (z_en 256 [z_r 33 0, z_i (Int32.ofNat n)] (true, X, I', J)) (some (z_i (Int32.ofNat c)), (true, X, I', J))) ∧ c < 4 ∧ q < X.1 ∧ X.2.2.1 q = z_kc c ∧ j < 6 ∧ I 59 0 n = Int32.ofNat j ∧ I 32 q 1 = Int32.ofNat j ∧ I 32 q 2 = I 39 0 (4 * j + 1)) := by
  obtain ⟨k9, s1, s2, s3, s4⟩ := n5
  have hb : z_bw (Int32.ofNat n) 0 3 = true := z_bw_of (m := 3) (by omega) (by decide)
  have fb : ∀ {P : Prop}, z_bw (Int32.ofNat n) 0 3 = false → P := fun h => by rw [hb] at h; cases h
  rcases r6 n hn with ⟨v1, v2⟩ | ⟨v1, v2, v3, j, hj, v4⟩ | ⟨s, hs, v1, v2, v3, v4⟩
  · left
    refine ⟨fun d => z_q155_e _ ⟨fun h => fb h, fun _ => ⟨n, rfl, hn, fun _ => rfl, fun h => ?_⟩⟩, -1, by decide, fun I' d y1 y2 y3 y4 => z_q256_e _ ⟨n, rfl, hn, fun h => ?_, fun _ => ⟨fun h => ?_, fun _ => rfl⟩⟩⟩
    · rw [v1] at h; exact absurd h (by decide)
    · rw [y1, v2] at h; exact absurd h (by decide)
    · rw [y1, v2] at h; exact absurd h (by decide)
  · have eb : z_bw (I 59 0 n) 0 (I 33 0 8 - 1) = z_lt0 (I 23 0 n) (I 1 0 5) := by rw [z_bw_lt s3 (by omega), v3, s3, s2]
    by_cases hjk : j < k9
    · right
      obtain ⟨q, c, t1, t2, t3, t4, t5, t6, t7, t8, t9, -, t10⟩ := s4 j hjk
      have hl : z_lt0 (I 23 0 n) (I 1 0 5) = true := by
        rw [v3, v4, s2]
        exact z_lt0_t.mpr ⟨z_on0 j (by omega), (z_olt (by omega) (by omega)).mpr hjk⟩
      refine ⟨q, c, j, fun d => z_q155_e _ ⟨fun h => fb h, fun _ => ⟨n, rfl, hn, fun h => absurd v1 h, fun _ => ⟨fun _ => ⟨j, v3.trans v4, hj, q, t2, rfl⟩, fun h => ?_⟩⟩⟩, fun I' d y1 y2 y3 y4 => z_q256_e _ ⟨n, rfl, hn, fun _ => ⟨fun h => ?_, fun _ => ⟨_, _, _, _, ?_, rfl⟩⟩, fun h => ?_⟩, t4, t1, t3, hj, v4, t7, t8⟩
      · rw [hl] at h; cases h
      · rw [y2, y4, eb, hl] at h; cases h
      · have p9 := z_p229 (d := d + 1) (X := X) (I := I') (J := J) hj (c := 0) (by decide)
        rw [y2, v4]
        rw [y3, show I 39 0 (4 * j + 0) = Int32.ofNat c from t6] at p9
        exact p9
      · rw [y1] at h; exact absurd v2 h
    · left
      have hl : z_lt0 (I 23 0 n) (I 1 0 5) = false := by
        rw [v3, v4, s2]
        exact z_lt0_f.mpr (Or.inr ((z_ole (by omega) (by omega)).mpr (by omega)))
      refine ⟨fun d => z_q155_e _ ⟨fun h => fb h, fun _ => ⟨n, rfl, hn, fun _ => rfl, fun _ => ⟨fun h => ?_, fun _ => rfl⟩⟩⟩, -1, by decide, fun I' d y1 y2 y3 y4 => z_q256_e _ ⟨n, rfl, hn, fun _ => ⟨fun _ => rfl, fun h => ?_⟩, fun h => ?_⟩⟩
      · rw [hl] at h; cases h
      · rw [y2, y4, eb, hl] at h; cases h
      · rw [y1] at h; exact absurd v2 h
  · left
    have h0 : ¬ I 58 0 n = 0 := by rw [v2]; decide
    have h1 : ¬ I 22 0 n = 0 := by rw [v1]; exact fun q => absurd ((z_oeq (b := 0) (by omega) (by decide)).mp q) (by omega)
    refine ⟨fun d => z_q155_e _ ⟨fun h => fb h, fun _ => ⟨n, rfl, hn, fun _ => rfl, fun h => absurd h h1⟩⟩, 9, by decide, fun I' d y1 y2 y3 y4 => z_q256_e _ ⟨n, rfl, hn, fun h => ?_, fun _ => ⟨fun _ => rfl, fun h => ?_⟩⟩⟩
    · rw [y1] at h; exact absurd h h0
    · rw [y1, v2] at h; exact absurd h (by decide)
/-- scratch and trace alone -/
theorem z_R_07 {X : z_X} {I I' : Nat → Nat → Nat → Int32} {J : Nat → Nat → Nat → Int64} (hR : z_R X I J) (h : z_ag [0, 7] I I') (hx : z_Rx I') : z_R X I' J := by
  obtain ⟨r1, r2, r3, r4, r5, r6, r7, r8⟩ := hR
  exact ⟨z_now_ag h rfl rfl r1, z_Rk_ag h rfl rfl r2, z_Rt_ag h rfl r3, z_Rr_ag h rfl r4, z_Rh_ag h rfl rfl rfl r5, z_Rv_ag h rfl r6, hx, z_Tb_ag h rfl r8⟩
theorem z_pf_ag {cs : List Nat} {I0 I : Nat → Nat → Nat → Int32} (h0 : cs.contains 0 = true) (p : Bool) (h : z_ag cs I0 I) : z_ag cs I0 (z_pf p I) := by
  cases p
  · exact h
  · exact z_ag_up h h0
theorem z_rpf_ag {cs : List Nat} {I0 I : Nat → Nat → Nat → Int32} (h0 : cs.contains 0 = true) (p : Bool) (h : z_ag cs I0 I) : z_ag cs I0 (z_rpf p I) := by
  cases p
  · exact h
  · exact z_ag_up h h0
theorem z_pf_j (p : Bool) (I : Nat → Nat → Nat → Int32) {t j : Nat} (h : ¬ (t = 17 ∧ j = 2)) : z_pf p I t 0 j = I t 0 j := by
  cases p
  · rfl
  · show z_up I 17 0 2 1 t 0 j = _
    unfold z_up
    rw [if_neg (by omega)]
theorem z_rpf_t (p : Bool) (I : Nat → Nat → Nat → Int32) {t : Nat} (h : t ≠ 33) : z_rpf p I t = I t := by
  cases p
  · rfl
  · exact z_up_t h
theorem z_aal_len : ∀ c, c < 4 → ∀ o, o < 4 → (z_aal c o).length ≤ 30 := by decide
/-- promise 48 -/
theorem z_op_act (x w1 v : Int32) : z_op 113 268 [z_i x, z_i w1, z_i v] := by
  intro X I J hR
  have hR0 := hR
  obtain ⟨⟨-, -, -, -, n5⟩, -, -, -, -, r6, -, -⟩ := hR
  obtain ⟨I0, hI0⟩ : ∃ I0, I0 = z_up (z_up I 17 0 1 (0 : Int32)) 17 0 2 (0 : Int32) := ⟨_, rfl⟩
  have t0 : ∀ t, t ≠ 17 → I0 t = I t := fun t ht => by rw [hI0, z_up_t ht, z_up_t ht]
  have c60 : z_ev 59 (z_en 60 [z_r 17 0] (true, X, I, J)) (none, (true, X, I0, J)) := z_q60_e (by rw [hI0])
  have p0 : I0 17 0 2 = 0 := by rw [hI0, z_up_e]
  have l0 : I0 17 0 1 = Int32.ofNat 0 := by rw [hI0, z_up_j (by decide), z_up_e]; rfl
  have a0 : z_ag [0, 7] I I0 := by rw [hI0]; exact z_ag_up (z_ag_up z_ag_rf rfl) rfl
  have fin0 : z_R X (z_up I0 33 0 50 0) J := z_R_07 hR0 (z_ag_up a0 rfl) ⟨0, by decide, l0, rfl, fun j hj => absurd hj (Nat.not_lt_zero j)⟩
  have e67 : (z_up I0 33 0 50 0) 67 = I 67 := by rw [z_up_t (by decide), t0 67 (by decide)]
  have hz1 : z_bw (-1 : Int32) 0 3 = false := by decide
  have f1 : ∀ {P : Prop}, z_bw (-1 : Int32) 0 3 = true → P := fun h => by rw [hz1] at h; cases h
  cases ha : z_bw x 0 3 with
  | false =>
    have fa : ∀ {P : Prop}, z_bw x 0 3 = true → P := fun h => by rw [ha] at h; cases h
    exact ⟨z_i 0, X, X, I0, _, J, J, z_q113_e (d := 52) x w1 v ⟨_, _, _, c60, Or.inl ⟨_, _, _, z_q155_e (d := 58) x ⟨fun _ => rfl, fun h => fa h⟩, rfl⟩⟩, z_q268_e (d := 53) x w1 v ⟨fun _ => ⟨fun _ => rfl, fun _ => ⟨fun h => f1 h, fun _ => rfl⟩⟩, fun h => fa h⟩, fin0, Nat.le_succ _, Nat.le_add_right _ _, e67⟩
  | true =>
    have fa : ∀ {P : Prop}, z_bw x 0 3 = false → P := fun h => by rw [ha] at h; cases h
    obtain ⟨n, hn, rfl⟩ := z_bw3 ha
    have n50 : z_Rs X.1 X.2.2.1 (X.2.2.2 11 0) (I0 32) (I0 1 0 5) (I0 12 0) (I0 33 0 8) (I0 39 0) := by
      rw [t0 32 (by decide), t0 1 (by decide), t0 12 (by decide), t0 33 (by decide), t0 39 (by decide)]; exact n5
    have r60 : z_Rv I0 := z_Rv_ag a0 rfl r6
    rcases z_sho2 (J := J) n50 r60 hn with ⟨h1, u, hu, h3⟩ | ⟨q, c, j, h1, h3, hc, hq, hx, hj, e59, e321, e322⟩
    · have fu : ∀ {P : Prop}, z_bw u 0 3 = true → P := fun h => by rw [hu] at h; cases h
      exact ⟨z_i 0, X, X, I0, _, J, J, z_q113_e (d := 52) _ w1 v ⟨_, _, _, c60, Or.inl ⟨_, _, _, h1 58, rfl⟩⟩, z_q268_e (d := 53) _ w1 v ⟨fun h => fa h, fun _ => ⟨_, _, _, _, h3 (z_up I0 33 0 50 0) 57 (z_up_t (by decide)) (z_up_t (by decide)) (z_up_t (by decide)) (z_up_j (by decide)), fun _ => rfl, fun _ => ⟨fun h => fu h, fun _ => rfl⟩⟩⟩, fin0, Nat.le_succ _, Nat.le_add_right _ _, e67⟩
    · cases hb : z_bw w1 0 3 with
      | false =>
        have fb : ∀ {P : Prop}, z_bw w1 0 3 = true → P := fun h => by rw [hb] at h; cases h
        have fw : ∀ {P : Prop} (k : Nat), k < 4 → w1 = Int32.ofNat k → P := fun k hk h => fb (by rw [h]; exact z_bw_of (m := 3) (by omega) (by decide))
        exact ⟨z_i 0, X, X, I0, _, J, J, z_q113_e (d := 52) _ w1 v ⟨_, _, _, c60, Or.inr ⟨q, _, _, _, h1 58, fun h => fw 0 (by decide) h, fun _ => ⟨fun h => fw 1 (by decide) h, fun _ => ⟨fun h => fw 2 (by decide) h, fun _ => ⟨fun h => fw 3 (by decide) h, fun _ => ⟨fun _ => rfl, fun h => absurd p0 h⟩⟩⟩⟩⟩⟩, z_q268_e (d := 53) _ w1 v ⟨fun h => fa h, fun _ => ⟨_, _, _, _, h3 (z_up I0 33 0 50 0) 57 (z_up_t (by decide)) (z_up_t (by decide)) (z_up_t (by decide)) (z_up_j (by decide)), fun _ => rfl, fun h => fb h⟩⟩, fin0, Nat.le_succ _, Nat.le_add_right _ _, e67⟩
      | true =>
        have fb : ∀ {P : Prop}, z_bw w1 0 3 = false → P := fun h => by rw [hb] at h; cases h
        obtain ⟨o, ho, rfl⟩ := z_bw3 hb
        obtain ⟨y, y1, y2, y3⟩ := z_acC (d := 52) (J := J) (I := I0) (n := Int32.ofNat j) (a := I0 39 0 (4 * j + 1)) hq hc hx l0 e321 e322 v ho
        obtain ⟨a9, ha9⟩ : ∃ a9, a9 = I0 39 0 (4 * j + 1) := ⟨_, rfl⟩
        rw [← ha9] at y3 e322
        obtain ⟨p, hp⟩ : ∃ p, p = z_ap c o (Int32.ofNat j) a9 := ⟨_, rfl⟩
        obtain ⟨ls, hls⟩ : ∃ ls, ls = z_aal c o := ⟨_, rfl⟩
        obtain ⟨vv, hvv⟩ : ∃ vv, vv = z_aav c o (Int32.ofNat j) a9 v := ⟨_, rfl⟩
        rw [← hp, ← hls, ← hvv] at y3
        obtain ⟨I1, hI1⟩ : ∃ I1, I1 = z_pf p (z_bl I0 0 ls) := ⟨_, rfl⟩
        rw [← hI1] at y3
        have t1 : ∀ t, t ≠ 17 → t ≠ 18 → I1 t = I0 t := fun t q1 q2 => by rw [hI1, z_pf_32 _ _ q1, z_bl_t q1 q2]
        have g2 : I1 17 0 2 = z_c p := by
          rw [hI1]
          cases p
          · show z_bl I0 0 ls 17 0 2 = 0
            rw [z_bl_2, p0]
          · show z_up (z_bl I0 0 ls) 17 0 2 1 17 0 2 = 1
            rw [z_up_e]
        let W : Int32 := bif p then -15 else vv
        have w0 : ∀ (M : z_M) (u : Int32), u = z_c p → (u = 0 → ((some (z_i W), M) : Option z_V × z_M) = (some (z_i vv), M)) ∧ (¬ u = 0 → ((some (z_i W), M) : Option z_V × z_M) = (some (z_i (-15)), M)) := fun M u hu => by
          subst hu
          cases p
          · exact ⟨fun _ => rfl, fun h => absurd rfl h⟩
          · exact ⟨fun h => absurd h (by decide), fun _ => rfl⟩
        have cC := w0 (true, X, I1, J) _ g2
        obtain ⟨Ia, hIa⟩ : ∃ Ia, Ia = z_up I1 33 0 50 (0 : Int32) := ⟨_, rfl⟩
        have ta : ∀ t, t ≠ 33 → Ia t = I1 t := fun t ht => by rw [hIa, z_up_t ht]
        have h4 := h3 Ia 57 (by rw [ta 58 (by decide), t1 58 (by decide) (by decide)]) (by rw [ta 59 (by decide), t1 59 (by decide) (by decide)]) (by rw [ta 39 (by decide), t1 39 (by decide) (by decide)]) (by rw [hIa, z_up_j (by decide), t1 33 (by decide) (by decide)])
        have ea : Ia 59 0 n = Int32.ofNat j := by rw [ta 59 (by decide), t1 59 (by decide) (by decide)]; exact e59
        have bc : z_bw (Int32.ofNat c) 0 3 = true := z_bw_of (m := 3) (by omega) (by decide)
        have fc : ∀ {P : Prop}, z_bw (Int32.ofNat c) 0 3 = false → P := fun h => by rw [bc] at h; cases h
        have p9 := z_p229 (d := 59) (X := X) (I := z_up (z_up Ia 33 0 46 (Int32.ofNat c)) 33 0 47 (Int32.ofNat j)) (J := J) hj (c := 1) (by decide)
        have e9 : z_up (z_up Ia 33 0 46 (Int32.ofNat c)) 33 0 47 (Int32.ofNat j) 39 0 (4 * j + 1) = a9 := by rw [z_up_t (by decide), z_up_t (by decide), ta 39 (by decide), t1 39 (by decide) (by decide), ha9]
        rw [e9] at p9
        obtain ⟨Ib, hIb⟩ : ∃ Ib, Ib = z_up (z_up (z_up (z_up Ia 33 0 46 (Int32.ofNat c)) 33 0 47 (Int32.ofNat j)) 33 0 48 a9) 33 0 51 (0 : Int32) := ⟨_, rfl⟩
        have b46 : Ib 33 0 46 = Int32.ofNat c := by rw [hIb, z_up_j (by decide), z_up_j (by decide), z_up_j (by decide), z_up_e]
        have b47 : Ib 33 0 47 = Int32.ofNat j := by rw [hIb, z_up_j (by decide), z_up_j (by decide), z_up_e]
        have b48 : Ib 33 0 48 = a9 := by rw [hIb, z_up_j (by decide), z_up_e]
        have b50 : Ib 33 0 50 = Int32.ofNat 0 := by rw [hIb, z_up_j (by decide), z_up_j (by decide), z_up_j (by decide), z_up_j (by decide), hIa, z_up_e]; rfl
        have b51 : Ib 33 0 51 = 0 := by rw [hIb, z_up_e]
        have tb : ∀ t, t ≠ 33 → Ib t = I1 t := fun t ht => by rw [hIb, z_up_t ht, z_up_t ht, z_up_t ht, z_up_t ht, ta t ht]
        obtain ⟨I2, hI2⟩ : ∃ I2, I2 = z_rpf p (z_rl Ib 0 ls) := ⟨_, rfl⟩
        have m2 : I2 33 0 51 = z_c p := by
          rw [hI2]
          cases p
          · show z_rl Ib 0 ls 33 0 51 = 0
            rw [z_rl_33 (by decide), b51]
          · show z_up (z_rl Ib 0 ls) 33 0 51 1 33 0 51 = 1
            rw [z_up_e]
        have cM := w0 (true, X, I2, J) _ m2
        have hw : z_ag [0, 7] I I2 := by
          have q1 : z_ag [0, 7] I I1 := by rw [hI1]; exact z_pf_ag rfl p (z_bl_ag rfl ls _ _ a0)
          rw [hI2]
          refine z_rpf_ag rfl p (z_rl_ag rfl ls _ _ ?_)
          rw [hIb, hIa]
          exact z_ag_up (z_ag_up (z_ag_up (z_ag_up (z_ag_up q1 rfl) rfl) rfl) rfl) rfl
        have hfin : z_R X I2 J := by
          refine z_R_07 hR0 hw ⟨ls.length, by rw [hls]; exact z_aal_len c hc o ho, ?_, ?_, fun u hu => ?_⟩
          · rw [hI2, z_rpf_t _ _ (by decide), z_rl_t (by decide) (by decide), tb 17 (by decide), hI1, z_pf_j _ _ (by decide), z_bl_17 ls I0 0 l0, Nat.zero_add]
          · rw [hI2, z_rpf_33 _ _ (by decide), z_rl_50 ls Ib 0 b50, Nat.zero_add]
          · rw [hI2, z_rpf_t _ _ (by decide), z_rpf_t _ _ (by decide), z_rl_t (by decide) (by decide), tb 18 (by decide), hI1, z_pf_32 _ _ (by decide)]
            exact z_blrl ls I0 Ib 0 (fun u hu => absurd hu (Nat.not_lt_zero u)) u (by omega)
        have hmm : z_ev 59 (z_en (if o = 0 then 260 else if o = 1 then 263 else if o = 2 then 265 else 267) [z_r 33 0, z_i v] (true, X, Ib, J)) (some (z_i vv), (true, X, I2, J)) := by
          rw [hvv, hI2, hp, hls]
          rcases (by omega : o = 0 ∨ o = 1 ∨ o = 2 ∨ o = 3) with rfl | rfl | rfl | rfl
          · exact z_p260 (d := 58) hc b46 b50 (by decide) b47 v
          · exact z_p263 (d := 55) hc b46 b50 (by decide) b47 b48 v
          · exact z_p265 (d := 57) hc b46 b50 (by decide) b47 b48 v
          · exact z_p267 (d := 53) hc b46 b50 (by decide) b47 b48 v
        rw [hIb] at hmm
        refine ⟨z_i W, X, X, I1, I2, J, J, z_q113_e (d := 52) _ _ v ⟨_, _, _, c60, Or.inr ⟨q, _, _, _, h1 58, ?_⟩⟩, z_q268_e (d := 53) _ _ v ⟨fun h => fa h, fun _ => ⟨_, _, _, _, (by rw [← hIa]; exact h4), fun h => fb h, fun _ => ⟨fun _ => ⟨n, rfl, hn, _, _, _, _, (by rw [ea]; exact p9), ?_⟩, fun h => fc h⟩⟩⟩, hfin, Nat.le_succ _, Nat.le_add_right _ _, z_67_ag hw rfl⟩
        · rcases (by omega : o = 0 ∨ o = 1 ∨ o = 2 ∨ o = 3) with rfl | rfl | rfl | rfl
          · exact ⟨fun _ => ⟨hq, y, y1, y2, _, _, _, _, y3, cC⟩, fun h => absurd rfl h⟩
          · exact ⟨fun h => absurd h (by decide), fun _ => ⟨fun _ => ⟨hq, y, y1, y2, _, _, _, _, y3, cC⟩, fun h => absurd rfl h⟩⟩
          · exact ⟨fun h => absurd h (by decide), fun _ => ⟨fun h => absurd h (by decide), fun _ => ⟨fun _ => ⟨hq, y, y1, y2, _, _, _, _, y3, cC⟩, fun h => absurd rfl h⟩⟩⟩
          · exact ⟨fun h => absurd h (by decide), fun _ => ⟨fun h => absurd h (by decide), fun _ => ⟨fun h => absurd h (by decide), fun _ => ⟨fun _ => ⟨hq, y, y1, y2, _, _, _, _, y3, cC⟩, fun h => absurd rfl h⟩⟩⟩⟩
        · rcases (by omega : o = 0 ∨ o = 1 ∨ o = 2 ∨ o = 3) with rfl | rfl | rfl | rfl
          · exact ⟨fun h => absurd rfl h, fun _ => ⟨_, _, _, _, hmm, cM⟩⟩
          · exact ⟨fun _ => ⟨fun h => absurd rfl h, fun _ => ⟨_, _, _, _, hmm, cM⟩⟩, fun h => absurd h (by decide)⟩
          · exact ⟨fun _ => ⟨fun _ => ⟨fun h => absurd rfl h, fun _ => ⟨_, _, _, _, hmm, cM⟩⟩, fun h => absurd h (by decide)⟩, fun h => absurd h (by decide)⟩
          · exact ⟨fun _ => ⟨fun _ => ⟨fun _ => ⟨_, _, _, _, hmm, cM⟩, fun h => absurd h (by decide)⟩, fun h => absurd h (by decide)⟩, fun h => absurd h (by decide)⟩
