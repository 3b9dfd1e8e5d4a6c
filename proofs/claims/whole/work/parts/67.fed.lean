/-! calls of both: feed -/
def z_by (l : Int64) (i : Nat) : Int32 := ((l >>> (((8 : Int32) * Int32.ofNat i).toInt64 &&& 63)) &&& (255 : Int64)).toInt32
theorem z_255 : ∀ j, j < 32 → (255#32).getLsbD j = decide (j < 8) ∧ (255#64).getLsbD j = decide (j < 8) := by decide +kernel
theorem z_by_c {l : Int64} : ∀ i, i < 8 → (((l.toUInt64 >>> (((8 : Int32) * Int32.ofNat i).toInt64.toUInt64 &&& Int64.toUInt64 63)).toInt64).toInt32) &&& (255 : Int32) = z_by l i := by
  intro i hi
  have k1 : ∀ i, i < 8 → ((((l.toUInt64 >>> (((8 : Int32) * Int32.ofNat i).toInt64.toUInt64 &&& Int64.toUInt64 63)).toInt64).toInt32) &&& (255 : Int32)).toBitVec = (l.toBitVec >>> (8 * i)).signExtend 32 &&& 255#32 := by
    intro i hi
    rcases (by omega : i = 0 ∨ i = 1 ∨ i = 2 ∨ i = 3 ∨ i = 4 ∨ i = 5 ∨ i = 6 ∨ i = 7) with rfl | rfl | rfl | rfl | rfl | rfl | rfl | rfl <;> rfl
  have k2 : ∀ i, i < 8 → (z_by l i).toBitVec = (l.toBitVec.sshiftRight (8 * i) &&& 255#64).signExtend 32 := by
    intro i hi
    rcases (by omega : i = 0 ∨ i = 1 ∨ i = 2 ∨ i = 3 ∨ i = 4 ∨ i = 5 ∨ i = 6 ∨ i = 7) with rfl | rfl | rfl | rfl | rfl | rfl | rfl | rfl <;> rfl
  apply Int32.toBitVec.inj
  rw [k1 i hi, k2 i hi]
  apply BitVec.eq_of_getLsbD_eq
  intro j hj
  rw [BitVec.getLsbD_and, BitVec.getLsbD_signExtend, BitVec.getLsbD_signExtend, BitVec.getLsbD_and, (z_255 j hj).1, (z_255 j hj).2, BitVec.getLsbD_ushiftRight, BitVec.getLsbD_sshiftRight]
  rw [if_pos (by omega), if_pos (by omega)]
  by_cases h8 : j < 8
  · rw [if_pos (by omega)]
    rw [decide_eq_false (show ¬ 64 ≤ j by omega), Bool.not_false, Bool.true_and, Bool.and_assoc]
  · simp [h8]
theorem z_by_256 {l : Int64} (i : Nat) (hi : i < 8) : ∃ v, v < 256 ∧ z_by l i = Int32.ofNat v := by
  rw [← z_by_c i hi]
  generalize (((l.toUInt64 >>> (((8 : Int32) * Int32.ofNat i).toInt64.toUInt64 &&& Int64.toUInt64 63)).toInt64).toInt32) = y
  refine ⟨(y &&& 255).toBitVec.toNat, ?_, ?_⟩
  · rw [Int32.toBitVec_and, BitVec.toNat_and]
    exact Nat.lt_of_le_of_lt Nat.and_le_right (by decide)
  · apply Int32.toBitVec.inj
    show _ = BitVec.ofNat 32 _
    rw [BitVec.ofNat_toNat]; simp
section
variable {d : Nat} {X : z_X} {I : Nat → Nat → Nat → Int32} {J : Nat → Nat → Nat → Int64}
theorem z_l46 {t n : Nat} {l : Int64} (hn : n ≤ 8) (ht : t + n ≤ 160) (e : I 15 0 1 = Int32.ofNat t) : z_ev d (46, 18, [some (z_r 15 0), some (z_j l), none, some (z_i (Int32.ofNat n)), some (z_i 0)], [], (true, X, I, J)) (some (z_i (Int32.ofNat (t + n))), (true, X, z_up (z_wo I 16 0 t n (z_by l)) 15 0 1 (Int32.ofNat (t + n)), J)) := by
  have key : ∀ j k, k + j = n → z_ev d (46, 18, [some (z_r 15 0), some (z_j l), none, some (z_i (Int32.ofNat n)), some (z_i (Int32.ofNat k))], [], (true, X, z_wo I 16 0 t k (z_by l), J)) (some (z_i (Int32.ofNat (t + n))), (true, X, z_up (z_wo I 16 0 t n (z_by l)) 15 0 1 (Int32.ofNat (t + n)), J)) := by
    intro j
    induction j with
    | zero =>
      intro k hk
      obtain rfl : k = n := by omega
      refine z_q46_18 _ _ _ ⟨fun _ => ?_, fun h => absurd ((z_olt (by omega) (by omega)).mp h) (by omega)⟩
      rw [z_wo_t (by decide), e, z_oa]
    | succ j ih =>
      intro k hk
      refine z_q46_18 _ _ _ ⟨fun h => absurd ((z_ole (by omega) (by omega)).mp h) (by omega), fun _ => ⟨t + k, ?_, by omega, ?_⟩⟩
      · rw [z_wo_t (by decide), e, z_oa]
      · rw [z_os, z_by_c k (by omega), z_wo_s]
        exact ih (k + 1) (by omega)
  have h0 := key n 0 (by omega)
  rw [z_wo_0] at h0
  exact h0
theorem z_l172 {t n : Nat} {l : Int64} (hn : n ≤ 8) (ht : t + n ≤ 160) : ∀ j k, k + j = n → ∀ I1, I1 33 0 14 = Int32.ofNat (t + k) → (∀ j, j < t → I1 43 0 j = I 43 0 j) → (∀ j, j < k → I1 43 0 (t + j) = z_by l j) → z_ag [3] I I1 → I1 15 = I 15 → I1 16 = I 16 →
    ∃ I', z_ev (d + 1) (172, 30, [some (z_r 33 0), some (z_j l), none, some (z_i (Int32.ofNat n)), some (z_i (Int32.ofNat k))], [], (true, X, I1, J)) (some (z_i (Int32.ofNat (t + n))), (true, X, I', J)) ∧ I' 33 0 14 = Int32.ofNat (t + n) ∧ (∀ j, j < t → I' 43 0 j = I 43 0 j) ∧ (∀ j, j < n → I' 43 0 (t + j) = z_by l j) ∧ z_ag [3] I I' ∧ I' 15 = I 15 ∧ I' 16 = I 16 := by
  intro j
  induction j with
  | zero =>
    intro k hk I1 h1 h2 h3 h4 h5 h6
    obtain rfl : k = n := by omega
    exact ⟨I1, z_q172_30 _ _ _ ⟨fun _ => by rw [h1], fun h => absurd ((z_olt (by omega) (by omega)).mp h) (by omega)⟩, h1, h2, h3, h4, h5, h6⟩
  | succ j ih =>
    intro k hk I1 h1 h2 h3 h4 h5 h6
    obtain ⟨I', e1, e2⟩ := ih (k + 1) (by omega) (z_up (z_up I1 43 0 (t + k) (z_by l k)) 33 0 14 (I1 33 0 14 + 1)) (by rw [z_up_e, h1, z_os]; rfl) (fun u hu => by rw [z_up_t (by decide), z_up_j (by omega)]; exact h2 u hu) (fun u hu => by
      rw [z_up_t (by decide)]
      by_cases h : u = k
      · subst h; rw [z_up_e]
      · rw [z_up_j (by omega)]; exact h3 u (by omega)) (z_ag_up (z_ag_up h4 rfl) rfl) (by rw [z_up_t (by decide), z_up_t (by decide), h5]) (by rw [z_up_t (by decide), z_up_t (by decide), h6])
    exact ⟨I', z_q172_30 _ _ _ ⟨fun h => absurd ((z_ole (by omega) (by omega)).mp h) (by omega), fun _ => ⟨t + k, h1, by omega, by rw [z_os]; exact e1⟩⟩, e2⟩
end
/-- promise 2 -/
theorem z_op_feed (l : Int64) (x : Int32) : z_op 67 172 [z_j l, z_i x] := by
  intro X I J hR
  have hR0 := hR
  obtain ⟨n1, r2, ⟨t, t1, t2, t3, t4⟩, r4, r5, r6, r7, r8⟩ := hR
  cases ha : z_bw x 1 8 with
  | false =>
    refine ⟨z_i (-1), X, X, I, I, J, J, z_q67_e (d := 59) l x ⟨fun _ => rfl, fun h1 => ⟨fun h2 => ?_, fun _ => rfl⟩⟩, z_q172_e (d := 59) l x ⟨fun h => ?_, fun _ => rfl⟩, hR0, Nat.le_succ _, Nat.le_add_right _ _, rfl⟩
    · rw [z_bw_t.mpr ⟨h1, h2⟩] at ha; cases ha
    · rw [ha] at h; cases h
  | true =>
    have fa : ∀ {P : Prop}, z_bw x 1 8 = false → P := fun h => by rw [ha] at h; cases h
    obtain ⟨g0, g1⟩ := z_bw_t.mp ha
    obtain ⟨n, hn, rfl⟩ := z_nat' (n := 8) (Int32.le_trans (by decide) g0) g1 (by decide)
    have q0 : ∀ {P : Prop}, Int32.ofNat n < 1 → P := fun h => absurd g0 (Int32.not_le.mpr h)
    have q1 : ∀ {P : Prop}, 8 < Int32.ofNat n → P := fun h => absurd g1 (Int32.not_le.mpr h)
    have eC : I 15 0 1 + Int32.ofNat n = Int32.ofNat (t + n) := by rw [t2, z_oa]
    by_cases h6 : t + n ≤ 160
    · have c1 : I 15 0 1 + Int32.ofNat n ≤ 160 := by rw [eC]; exact (z_ole (b := 160) (by omega) (by decide)).mpr h6
      have k1 := z_l46 (d := 59) (X := X) (J := J) (l := l) hn h6 t2
      obtain ⟨I1, hI1⟩ : ∃ I1, I1 = z_up (z_wo I 16 0 t n (z_by l)) 15 0 1 (Int32.ofNat (t + n)) := ⟨_, rfl⟩
      rw [← hI1] at k1
      have u33 : I1 33 = I 33 := by rw [hI1, z_up_t (by decide), z_wo_t (by decide)]
      have u43 : I1 43 = I 43 := by rw [hI1, z_up_t (by decide), z_wo_t (by decide)]
      obtain ⟨I2, e1, e2, e3, e4, e5, e6, e7⟩ := z_l172 (d := 59) (X := X) (J := J) (I := I1) (l := l) hn h6 n 0 (by omega) I1 (by rw [u33]; exact t3) (fun _ _ => rfl) (fun u hu => absurd hu (Nat.not_lt_zero u)) z_ag_rf rfl rfl
      have hw : z_ag [3] I I2 := z_ag_tr (by rw [hI1]; exact z_ag_up (z_ag_wo z_ag_rf (fun _ => rfl)) rfl) e5
      refine ⟨z_i (Int32.ofNat (t + n)), X, X, I1, I2, J, J, z_q67_e (d := 59) l _ ⟨fun h => q0 h, fun _ => ⟨fun _ => ⟨_, _, _, _, z_q46_e l _ ⟨fun _ => k1, fun h => absurd c1 (Int32.not_le.mpr h)⟩, rfl⟩, fun h => q1 h⟩⟩, z_q172_e (d := 59) l _ ⟨fun _ => ⟨fun _ => e1, fun h => ?_⟩, fun h => fa h⟩, ⟨z_now_ag hw rfl rfl n1, z_Rk_ag hw rfl rfl r2, ⟨t + n, h6, ?_, e2, fun j hj => ?_⟩, z_Rr_ag hw rfl r4, z_Rh_ag hw rfl rfl rfl r5, z_Rv_ag hw rfl r6, z_Rx_ag hw rfl r7, z_Tb_ag hw rfl r8⟩, Nat.le_succ _, Nat.le_add_right _ _, z_67_ag hw rfl⟩
      · rw [u33, t3, ← t2] at h; exact absurd c1 (Int32.not_le.mpr h)
      · rw [e6, hI1, z_up_e]
      · rw [e7, hI1, z_up_t (by decide)]
        by_cases hjt : j < t
        · rw [z_wo_j (by omega), e3 j hjt, u43]
          exact t4 j hjt
        · obtain ⟨w, rfl⟩ : ∃ w, j = t + w := ⟨j - t, by omega⟩
          rw [z_wo_e (by omega), e4 w (by omega)]
          exact ⟨rfl, z_by_256 w (by omega)⟩
    · have c1 : 160 < I 15 0 1 + Int32.ofNat n := by rw [eC]; exact (z_olt (a := 160) (by decide) (by omega)).mpr (by omega)
      have c2 : 160 < I 33 0 14 + Int32.ofNat n := by rw [t3, ← t2]; exact c1
      exact ⟨z_i (-2), X, X, I, I, J, J, z_q67_e (d := 59) l _ ⟨fun h => q0 h, fun _ => ⟨fun _ => ⟨_, _, _, _, z_q46_e l _ ⟨fun h => absurd h (Int32.not_le.mpr c1), fun _ => rfl⟩, rfl⟩, fun h => q1 h⟩⟩, z_q172_e (d := 59) l _ ⟨fun _ => ⟨fun h => absurd h (Int32.not_le.mpr c2), fun _ => rfl⟩, fun h => fa h⟩, hR0, Nat.le_succ _, Nat.le_add_right _ _, rfl⟩
