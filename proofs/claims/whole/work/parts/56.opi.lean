/-! calls of both: netOf -/
theorem z_r10_of {m : Nat} (h : m < 1024) : z_r10 (Int32.ofNat m) := ⟨m, h, rfl⟩
/-- promise 6 -/
theorem z_op_netOf (x w1 : Int32) : z_op 71 186 [z_i x, z_i w1] := by
  refine z_op_q fun X I J hR => ?_
  obtain ⟨⟨n1, -, -, -, -⟩, -, -, -, -, -, -, -⟩ := hR
  cases ha : z_bw x 0 3 with
  | false =>
    refine ⟨z_i (-1), z_q71_e (d := 58) x w1 ⟨fun h => ?_, fun _ => rfl⟩, z_q186_e (d := 58) x w1 ⟨fun _ => rfl, fun h => ?_⟩⟩
    · rw [ha] at h; cases h
    · rw [ha] at h; cases h
  | true =>
    obtain ⟨k, hk, rfl⟩ := z_bw3 ha
    have fa : ∀ {P : Prop}, z_bw (Int32.ofNat k) 0 3 = false → P := fun h => by rw [ha] at h; cases h
    rw [z_Rn0] at n1
    obtain ⟨s, m, g1, g2, g3, g4, g5, g6⟩ := n1 k hk
    have g4 : I 13 k 1 = Int32.ofNat s := g4
    have g5 : I 34 0 k = Int32.ofNat s := g5
    have g6 : ∀ p, p < 10 → I 14 k p = Int32.ofNat (m p) ∧ I 35 0 (10 * k + p) = Int32.ofNat (m p) := g6
    by_cases h0 : w1 = 0
    · subst h0
      have fb : ∀ {P : Prop}, z_bw 0 0 1 = false → P := fun h => by rw [show z_bw 0 0 1 = true from by decide] at h; cases h
      exact ⟨z_i (I 34 0 k), z_q71_e (d := 58) _ _ ⟨fun _ => ⟨k, rfl, hk, fun h => absurd rfl h, fun _ => by rw [g4, g5]⟩, fun h => fa h⟩, z_q186_e (d := 58) _ _ ⟨fun h => fa h, fun _ => ⟨fun _ => ⟨fun h => absurd rfl h, fun _ => ⟨k, rfl, hk, rfl⟩⟩, fun h => fb h⟩⟩⟩
    · by_cases h1 : w1 = 1
      · subst h1
        have fb : ∀ {P : Prop}, z_bw 1 0 1 = false → P := fun h => by rw [show z_bw 1 0 1 = true from by decide] at h; cases h
        have e : z_sm (I 14 k) s = z_sm (fun p => I 35 0 (10 * k + p)) s := z_sm_eq fun p hp => by rw [(g6 p (by omega)).1, (g6 p (by omega)).2]
        refine ⟨z_i (z_sm (fun p => I 35 0 (10 * k + p)) s / 2), z_q71_e (d := 58) _ _ ⟨fun _ => ⟨k, rfl, hk, fun _ => ⟨fun h => absurd rfl h, fun _ => ⟨_, _, _, _, z_p26 (by omega) g2 g4, by rw [e]⟩⟩, fun h => absurd h h0⟩, fun h => fa h⟩, z_q186_e (d := 58) _ _ ⟨fun h => fa h, fun _ => ⟨fun _ => ⟨fun _ => ⟨fun h => absurd rfl h, fun _ => ⟨_, _, _, _, z_p171 hk g2 g5 (fun p hp => ?_), rfl⟩⟩, fun h => absurd h h0⟩, fun h => fb h⟩⟩⟩
        rw [(g6 p hp).2]
        exact z_r10_of (g3.1 p hp)
      · have fb : ∀ {P : Prop}, z_bw w1 0 1 = true → P := fun h => by
          rcases z_bw1 h with q | q
          · exact absurd q h0
          · exact absurd q h1
        have eC : (z_bw (Int32.ofNat k) 0 3 && z_lt0 (w1 - 10) (I 13 (Int32.ofNat k).toNatClampNeg 1)) = z_lt0 (w1 - 10) (Int32.ofNat s) := by rw [ha, z_cl_nat hk (by decide), g4]; rfl
        have eM : z_bw (w1 - 10) 0 (I 34 0 k - 1) = z_lt0 (w1 - 10) (Int32.ofNat s) := by rw [z_bw_lt g5 (by omega), g5]
        cases hb : z_lt0 (w1 - 10) (Int32.ofNat s) with
        | false =>
          refine ⟨z_i (-1), z_q71_e (d := 58) _ w1 ⟨fun _ => ⟨k, rfl, hk, fun _ => ⟨fun _ => ⟨fun _ => rfl, fun _ => ⟨fun _ => rfl, fun h => ?_⟩⟩, fun h => absurd h h1⟩, fun h => absurd h h0⟩, fun h => fa h⟩, z_q186_e (d := 58) _ w1 ⟨fun h => fa h, fun _ => ⟨fun h => fb h, fun _ => ⟨_, _, _, _, z_p164 hk _, fun h => ?_, fun _ => rfl⟩⟩⟩⟩
          · rw [eC, hb] at h; cases h
          · rw [eM, hb] at h; cases h
        | true =>
          obtain ⟨j, hj, ej⟩ := z_lt0n hb rfl (by omega)
          have ew : w1 = Int32.ofNat (10 + j) := by
            have h9 : w1 = 10 + (w1 - 10) := by
              rw [Int32.add_comm, Int32.sub_add_cancel]
            rw [h9, ej]; exact z_oa 10 j
          have ei : ((10 : Int32) * Int32.ofNat k) + w1 - 10 = Int32.ofNat (10 * k + j) := by
            rw [ew, z_o10, show 10 * k + (10 + j) = (10 * k + j) + 10 by omega, Int32.ofNat_add]
            exact Int32.add_sub_cancel _ _
          have h10 : ¬ w1 < 10 := by
            rw [ew]
            exact fun q => absurd ((z_olt (b := 10) (by omega) (by decide)).mp q) (by omega)
          refine ⟨z_i (I 35 0 (10 * k + j)), z_q71_e (d := 58) _ w1 ⟨fun _ => ⟨k, rfl, hk, fun _ => ⟨fun _ => ⟨fun h => absurd h h10, fun _ => ⟨fun h => ?_, fun _ => ⟨j, ej, by omega, by rw [(g6 j (by omega)).1, (g6 j (by omega)).2]⟩⟩⟩, fun h => absurd h h1⟩, fun h => absurd h h0⟩, fun h => fa h⟩, z_q186_e (d := 58) _ w1 ⟨fun h => fa h, fun _ => ⟨fun h => fb h, fun _ => ⟨_, _, _, _, z_p164 hk _, fun _ => ⟨fun _ => ⟨fun _ => ⟨10 * k + j, ei, by omega, rfl⟩, fun h => absurd h h1⟩, fun h => absurd h h0⟩, fun h => ?_⟩⟩⟩⟩
          · rw [eC, hb] at h; cases h
          · rw [eM, hb] at h; cases h
