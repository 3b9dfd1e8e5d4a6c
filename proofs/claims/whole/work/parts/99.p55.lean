/-! the start: both are made, and the relation holds -/
theorem z_up_cg {α : Type} {f g : Nat → Nat → Nat → α} {t a b c : Nat} {v : α} (h : f t = g t) : z_up f a b c v t = z_up g a b c v t := by
  funext i j
  show (if t = a ∧ i = b ∧ j = c then v else f t i j) = (if t = a ∧ i = b ∧ j = c then v else g t i j)
  rw [h]
theorem z_zr_cg {α : Type} {f g : Nat → Nat → Nat → α} {t a b : Nat} {v : α} (h : f t = g t) : z_zr f a b v t = z_zr g a b v t := by
  funext i j
  show (if t = a ∧ i = b then v else f t i j) = (if t = a ∧ i = b then v else g t i j)
  rw [h]
def z_I9 (I : Nat → Nat → Nat → Int32) : Nat → Nat → Nat → Int32 := z_mI (z_zr (z_cI22 (z_zr I 0 0 0)) 33 0 0)
def z_J9 : Nat → Nat → Nat → Int64 := z_mJ (z_zr (z_cJ22 (z_zr (fun _ _ _ => 0) 0 0 0)) 33 0 0)
def z_Ic : Nat → Nat → Nat → Int32 := z_I9 (fun _ _ _ => 0)
def z_I0 (L : Nat) (xs : Nat → Int32) : Nat → Nat → Nat → Int32 := fun t i j => if t = 67 then (if i = 0 then xs j else Int32.ofNat L) else 0
theorem z_cg0 {f g : Nat → Nat → Nat → Int32} {t : Nat} (h : f t = g t) : z_cI0 f t = z_cI0 g t := (z_zr_cg (z_zr_cg (z_zr_cg (z_zr_cg (z_up_cg (z_zr_cg (z_zr_cg h)))))))
theorem z_cg1 {f g : Nat → Nat → Nat → Int32} {t : Nat} (h : f t = g t) : z_cI1 f t = z_cI1 g t := (z_up_cg (z_zr_cg h))
theorem z_cg2 {f g : Nat → Nat → Nat → Int32} {t : Nat} (h : f t = g t) : z_cI2 f t = z_cI2 g t := (z_up_cg (z_zr_cg h))
theorem z_cg3 {f g : Nat → Nat → Nat → Int32} {t : Nat} (h : f t = g t) : z_cI3 f t = z_cI3 g t := (z_up_cg (z_zr_cg h))
theorem z_cg4 {f g : Nat → Nat → Nat → Int32} {t : Nat} (h : f t = g t) : z_cI4 f t = z_cI4 g t := (z_up_cg (z_zr_cg h))
theorem z_cg5 {f g : Nat → Nat → Nat → Int32} {t : Nat} (h : f t = g t) : z_cI5 f t = z_cI5 g t := (z_cg4 (z_zr_cg (z_cg3 (z_zr_cg (z_cg2 (z_zr_cg (z_cg1 (z_zr_cg (z_up_cg (z_up_cg (z_zr_cg (z_zr_cg (z_cg0 (z_zr_cg (z_zr_cg (z_zr_cg h))))))))))))))))
theorem z_cg6 {f g : Nat → Nat → Nat → Int32} {t : Nat} (h : f t = g t) : z_cI6 f t = z_cI6 g t := (z_zr_cg (z_zr_cg (z_zr_cg (z_zr_cg (z_up_cg (z_zr_cg (z_zr_cg h)))))))
theorem z_cg7 {f g : Nat → Nat → Nat → Int32} {t : Nat} (h : f t = g t) : z_cI7 f t = z_cI7 g t := (z_up_cg (z_zr_cg h))
theorem z_cg8 {f g : Nat → Nat → Nat → Int32} {t : Nat} (h : f t = g t) : z_cI8 f t = z_cI8 g t := (z_up_cg (z_zr_cg h))
theorem z_cg9 {f g : Nat → Nat → Nat → Int32} {t : Nat} (h : f t = g t) : z_cI9 f t = z_cI9 g t := (z_up_cg (z_zr_cg h))
theorem z_cg10 {f g : Nat → Nat → Nat → Int32} {t : Nat} (h : f t = g t) : z_cI10 f t = z_cI10 g t := (z_up_cg (z_zr_cg h))
theorem z_cg11 {f g : Nat → Nat → Nat → Int32} {t : Nat} (h : f t = g t) : z_cI11 f t = z_cI11 g t := (z_cg10 (z_zr_cg (z_cg9 (z_zr_cg (z_cg8 (z_zr_cg (z_cg7 (z_zr_cg (z_up_cg (z_up_cg (z_zr_cg (z_zr_cg (z_cg6 (z_zr_cg (z_zr_cg (z_zr_cg h))))))))))))))))
theorem z_cg12 {f g : Nat → Nat → Nat → Int32} {t : Nat} (h : f t = g t) : z_cI12 f t = z_cI12 g t := (z_up_cg (z_zr_cg h))
theorem z_cg13 {f g : Nat → Nat → Nat → Int32} {t : Nat} (h : f t = g t) : z_cI13 f t = z_cI13 g t := (z_up_cg (z_up_cg (z_zr_cg (z_up_cg (z_cg12 (z_zr_cg h))))))
theorem z_cg14 {f g : Nat → Nat → Nat → Int32} {t : Nat} (h : f t = g t) : z_cI14 f t = z_cI14 g t := (z_up_cg (z_up_cg (z_zr_cg h)))
theorem z_cg15 {f g : Nat → Nat → Nat → Int32} {t : Nat} (h : f t = g t) : z_cI15 f t = z_cI15 g t := (z_zr_cg (z_zr_cg h))
theorem z_cg16 {f g : Nat → Nat → Nat → Int32} {t : Nat} (h : f t = g t) : z_cI16 f t = z_cI16 g t := (z_zr_cg (z_zr_cg h))
theorem z_cg17 {f g : Nat → Nat → Nat → Int32} {t : Nat} (h : f t = g t) : z_cI17 f t = z_cI17 g t := (z_up_cg (z_zr_cg h))
theorem z_cg18 {f g : Nat → Nat → Nat → Int32} {t : Nat} (h : f t = g t) : z_cI18 f t = z_cI18 g t := (z_up_cg (z_up_cg (z_zr_cg h)))
theorem z_cg19 {f g : Nat → Nat → Nat → Int32} {t : Nat} (h : f t = g t) : z_cI19 f t = z_cI19 g t := (z_up_cg (z_up_cg (z_zr_cg h)))
theorem z_cg20 {f g : Nat → Nat → Nat → Int32} {t : Nat} (h : f t = g t) : z_cI20 f t = z_cI20 g t := (z_up_cg (z_up_cg (z_zr_cg h)))
theorem z_cg21 {f g : Nat → Nat → Nat → Int32} {t : Nat} (h : f t = g t) : z_cI21 f t = z_cI21 g t := (z_up_cg (z_up_cg (z_zr_cg h)))
theorem z_cg22 {f g : Nat → Nat → Nat → Int32} {t : Nat} (h : f t = g t) : z_cI22 f t = z_cI22 g t := (z_up_cg (z_up_cg (z_up_cg (z_up_cg (z_cg21 (z_zr_cg (z_cg20 (z_zr_cg (z_cg19 (z_zr_cg (z_cg18 (z_zr_cg (z_zr_cg (z_zr_cg (z_zr_cg (z_cg17 (z_zr_cg (z_cg16 (z_zr_cg (z_cg15 (z_zr_cg (z_zr_cg (z_zr_cg (z_zr_cg (z_up_cg (z_zr_cg (z_zr_cg (z_cg14 (z_zr_cg (z_cg13 (z_zr_cg (z_up_cg (z_cg11 (z_zr_cg (z_cg5 (z_zr_cg h))))))))))))))))))))))))))))))))))))
theorem z_cgm {f g : Nat → Nat → Nat → Int32} {t : Nat} (h : f t = g t) : z_mI f t = z_mI g t := (z_zr_cg (z_zr_cg (z_zr_cg (z_zr_cg (z_zr_cg (z_up_cg (z_up_cg (z_up_cg (z_up_cg (z_zr_cg (z_zr_cg (z_zr_cg (z_up_cg (z_up_cg (z_up_cg (z_up_cg (z_zr_cg (z_zr_cg (z_zr_cg (z_zr_cg (z_zr_cg (z_zr_cg (z_zr_cg (z_zr_cg (z_zr_cg (z_zr_cg (z_zr_cg (z_zr_cg (z_zr_cg (z_zr_cg (z_zr_cg (z_zr_cg (z_zr_cg (z_up_cg (z_zr_cg (z_zr_cg (z_zr_cg (z_zr_cg (z_up_cg (z_up_cg (z_up_cg (z_up_cg (z_zr_cg h)))))))))))))))))))))))))))))))))))))))))))
theorem z_cgA {f g : Nat → Nat → Nat → Int32} {t : Nat} (h : f t = g t) : z_I9 f t = z_I9 g t := z_cgm (z_zr_cg (z_cg22 (z_zr_cg h)))
theorem z_nbf {a b : Nat} (h : a ≠ b) : Nat.beq a b = false := by
  cases hq : Nat.beq a b with
  | false => rfl
  | true => exact absurd (Nat.eq_of_beq_eq_true hq) h
theorem z_Ic_of {L t : Nat} {xs : Nat → Int32} (ht : t ≠ 67) : z_I9 (z_I0 L xs) t = z_Ic t := by
  refine z_cgA ?_
  funext i j
  show (if t = 67 then (if i = 0 then xs j else Int32.ofNat L) else 0) = 0
  rw [if_neg ht]
theorem z_ic1 : ∀ n, n < 4 → z_Ic 13 (4 * 0 + n) 1 = Int32.ofNat 1 ∧ z_Ic 34 0 n = Int32.ofNat 1 ∧ ∀ p, p < 10 → z_Ic 14 (4 * 0 + n) p = Int32.ofNat 0 ∧ z_Ic 35 0 (10 * n + p) = Int32.ofNat 0 := by decide +kernel
theorem z_ic2 : ∀ m, m < 5 → z_Ic 3 0 m = Int32.ofNat 0 := by decide +kernel
theorem z_ic3 : (∀ j, j < 5 → z_Ic 5 0 j = z_Ic 37 0 j) ∧ ∀ j, j < 25 → z_Ic 6 0 j = z_Ic 38 0 j := by decide +kernel
theorem z_ic4 : z_Ic 33 0 2 = Int32.ofNat 0 ∧ z_Ic 33 0 4 = Int32.ofNat 0 ∧ z_Ic 33 0 8 = Int32.ofNat 0 ∧ z_Ic 1 0 6 = z_Ic 33 0 7 ∧ z_Ic 4 0 2 = Int32.ofNat 0 ∧ z_Ic 1 0 5 = Int32.ofNat 0 := by decide +kernel
theorem z_ic5 : z_Ic 0 0 2 = 0 ∧ z_Ic 33 0 52 = 0 ∧ z_Ic 15 0 1 = Int32.ofNat 0 ∧ z_Ic 33 0 14 = Int32.ofNat 0 ∧ z_Ic 0 0 7 = Int32.ofNat 0 ∧ z_Ic 33 0 37 = Int32.ofNat 0 ∧ z_Ic 17 0 1 = Int32.ofNat 0 ∧ z_Ic 33 0 50 = Int32.ofNat 0 := by decide +kernel
theorem z_ic6 : ∀ n, n < 4 → z_Ic 30 n 1 = z_Ic 55 0 n ∧ z_Ic 30 n 2 = z_Ic 56 0 n ∧ z_Ic 55 0 n = -1 ∧ z_Ic 56 0 n = 0 ∧ z_Ic 22 0 n = -1 ∧ z_Ic 58 0 n = -1 := by decide +kernel
theorem z_ic7 : ∀ n, n < 4 → ∀ j, j < 40 → z_J9 31 n j = 0 ∧ z_J9 57 0 (40 * n + j) = 0 := by decide +kernel
theorem z_ic8 : ∀ s, s < 6 → z_R0 11 0 s = none := by decide +kernel
theorem z_ic9 : ∀ q, q < 5 → z_Ic 42 0 q = 0 := by decide +kernel
theorem z_j0 : (0 : Int64) = (0 : Int32).toInt64 := by decide +kernel
theorem z_R_st {X : z_X} {J9 : Nat → Nat → Nat → Int64} {I' : Nat → Nat → Nat → Int32} (hX : X.2.2.2 = z_R0) (hJ : J9 = z_J9) (e : ∀ t, t ≠ 67 → t ≠ 40 → t ≠ 41 → t ≠ 42 → I' t = z_Ic t) (hT : z_Tb I') : z_R X I' J9 := by
  have e0 := e 0 (by decide) (by decide) (by decide) (by decide)
  have e1 := e 1 (by decide) (by decide) (by decide) (by decide)
  have e3 := e 3 (by decide) (by decide) (by decide) (by decide)
  have e4 := e 4 (by decide) (by decide) (by decide) (by decide)
  have e5 := e 5 (by decide) (by decide) (by decide) (by decide)
  have e6 := e 6 (by decide) (by decide) (by decide) (by decide)
  have e13 := e 13 (by decide) (by decide) (by decide) (by decide)
  have e14 := e 14 (by decide) (by decide) (by decide) (by decide)
  have e15 := e 15 (by decide) (by decide) (by decide) (by decide)
  have e17 := e 17 (by decide) (by decide) (by decide) (by decide)
  have e22 := e 22 (by decide) (by decide) (by decide) (by decide)
  have e30 := e 30 (by decide) (by decide) (by decide) (by decide)
  have e33 := e 33 (by decide) (by decide) (by decide) (by decide)
  have e34 := e 34 (by decide) (by decide) (by decide) (by decide)
  have e35 := e 35 (by decide) (by decide) (by decide) (by decide)
  have e37 := e 37 (by decide) (by decide) (by decide) (by decide)
  have e38 := e 38 (by decide) (by decide) (by decide) (by decide)
  have e55 := e 55 (by decide) (by decide) (by decide) (by decide)
  have e56 := e 56 (by decide) (by decide) (by decide) (by decide)
  have e58 := e 58 (by decide) (by decide) (by decide) (by decide)
  obtain ⟨a1, a2, a3, a4, a5, a6⟩ := z_ic4
  obtain ⟨b1, b2, b3, b4, b5, b6, b7, b8⟩ := z_ic5
  refine ⟨⟨?_, ?_, ?_, ?_, ?_⟩, Or.inl ⟨?_, ?_⟩, ⟨0, by decide, ?_, ?_, fun j hj => absurd hj (Nat.not_lt_zero j)⟩, ⟨0, by decide, ?_, ?_, fun j hj => absurd hj (Nat.not_lt_zero j)⟩, ?_, ?_, ⟨0, by decide, ?_, ?_, fun j hj => absurd hj (Nat.not_lt_zero j)⟩, hT⟩
  · intro n hn
    obtain ⟨c1, c2, c3⟩ := z_ic1 n hn
    refine ⟨1, fun _ => 0, by decide, by decide, ⟨fun p _ => (by show 0 < 1024; decide), fun p b _ hb => ?_⟩, ?_, ?_, fun p hp => ⟨?_, ?_⟩⟩
    · rw [Nat.zero_testBit] at hb
      cases hb
    · show I' 13 (4 * 0 + n) 1 = _
      rw [e13]; exact c1
    · rw [e34]; exact c2
    · show I' 14 (4 * 0 + n) p = _
      rw [e14]; exact (c3 p hp).1
    · rw [e35]; exact (c3 p hp).2
  · refine ⟨[], by decide, List.nodup_nil, fun q hq => absurd hq List.not_mem_nil, ?_, fun j q hq => ?_, fun m h1 h2 => ⟨0, by decide, ?_, fun i => ⟨fun h => ?_, fun h => absurd h List.not_mem_nil⟩⟩⟩
    · rw [e33]; exact a1
    · cases hq
    · rw [e3]; exact z_ic2 m (by omega)
    · rw [Nat.zero_testBit] at h
      cases h
  · refine ⟨0, by decide, ?_, ?_, fun j hj => ?_, fun j hj => ?_, fun j hj => absurd hj (Nat.not_lt_zero j), fun a b ha => absurd ha (Nat.not_lt_zero a)⟩
    · rw [e4]; exact a5
    · rw [e33]; exact a2
    · rw [e5, e37]; exact z_ic3.1 j hj
    · rw [e6, e38]; exact z_ic3.2 j hj
  · rw [e1, e33]; exact a4
  · refine ⟨0, ⟨by decide, fun s hs => Or.inl (by rw [hX]; exact z_ic8 s hs)⟩, ?_, ?_, fun s hs => absurd hs (Nat.not_lt_zero s)⟩
    · rw [e1]; exact a6
    · rw [e33]; exact a3
  · rw [e0]; exact b1
  · rw [e33]; exact b2
  · rw [e15]; exact b3
  · rw [e33]; exact b4
  · rw [e0]; exact b5
  · rw [e33]; exact b6
  · intro n hn
    obtain ⟨c1, c2, c3, c4, c5, c6⟩ := z_ic6 n hn
    rw [e30, e55, e56]
    refine ⟨c1, c2, Or.inl ⟨c3, c4⟩, fun j hj => ?_⟩
    obtain ⟨d1, d2⟩ := z_ic7 n hn j hj
    rw [hJ, d1, d2]
    exact ⟨rfl, 0, z_j0⟩
  · intro n hn
    obtain ⟨c1, c2, c3, c4, c5, c6⟩ := z_ic6 n hn
    rw [e22, e58]
    exact Or.inl ⟨c5, c6⟩
  · rw [e17]; exact b7
  · rw [e33]; exact b8
theorem z_ev_67c {d y : Nat} {as1 : List z_V} {b1 b2 : Bool} {X1 X2 : z_X} {I1 I2 : Nat → Nat → Nat → Int32} {J1 J2 : Nat → Nat → Nat → Int64} {v : Option z_V} (h : z_ev d (z_en y as1 (b1, X1, I1, J1)) (v, (b2, X2, I2, J2))) : I2 67 = I1 67 := z_ev_67 h
/-- both are made: the law comes to its loop -/
theorem z_begin {L : Nat} {xs : Nat → Int32} : ∃ I' : Nat → Nat → Nat → Int32, (∀ r, z_ev 61 (285, 18, [some (z_r 67 0), some (z_r 0 0), some (z_r 33 0), some (z_i 0)], [], (true, (0, 1941, fun _ => 0, z_R0), I', z_J9)) r → z_ev 61 (z_en 285 [z_r 67 0] (z_M0 L xs)) r) ∧ z_R (0, 1941, fun _ => 0, z_R0) I' z_J9 ∧ I' 67 = z_I0 L xs 67 := by
  obtain ⟨I', c1, c2, c3⟩ := z_l157 (d := 57) (X := (0, 1941, fun _ => 0, z_R0)) (I := z_I9 (z_I0 L xs)) (J := z_J9) (fun q hq => by
    rw [z_Ic_of (by decide)]; exact z_ic9 q hq)
  have hc : z_ev 60 (z_en 157 [z_r 33 0] (false, (72, 854, fun _ => 0, z_zr (z_cR22 (z_zr (fun _ _ _ => none) 0 0 none)) 33 0 none), z_zr (z_cI22 (z_zr (z_I0 L xs) 0 0 0)) 33 0 0, z_zr (z_cJ22 (z_zr (fun _ _ _ => 0) 0 0 0)) 33 0 0)) (none, (true, (0, 1941, fun _ => 0, z_R0), I', z_J9)) := z_mkr z_hd0 c1
  have hrun : ∀ r, z_ev 61 (285, 18, [some (z_r 67 0), some (z_r 0 0), some (z_r 33 0), some (z_i 0)], [], (true, (0, 1941, fun _ => 0, z_R0), I', z_J9)) r → z_ev 61 (z_en 285 [z_r 67 0] (z_M0 L xs)) r := by
    intro r hr
    show z_ev 61 (285, 0, [some (z_r 67 0), none, none, none], [], z_M0 L xs) r
    refine z_ev_gs 2 (c1 := (285, 4, [some (z_r 67 0), none, none, none], [z_r 0 0, z_r 0 0], (false, (1, 17, fun _ => 0, z_zr (fun _ _ _ => none) 0 0 none), z_zr (z_I0 L xs) 0 0 0, z_zr (fun _ _ _ => 0) 0 0 0))) rfl ?_
    refine z_ev_ca rfl rfl (z_ct22 (d := 58)) ?_
    refine z_ev_gs 3 (c1 := (285, 12, [some (z_r 67 0), some (z_r 0 0), none, none], [z_r 33 0, z_r 33 0], (false, (72, 854, fun _ => 0, z_zr (z_cR22 (z_zr (fun _ _ _ => none) 0 0 none)) 33 0 none), z_zr (z_cI22 (z_zr (z_I0 L xs) 0 0 0)) 33 0 0, z_zr (z_cJ22 (z_zr (fun _ _ _ => 0) 0 0 0)) 33 0 0))) rfl ?_
    refine z_ev_ca rfl rfl hc ?_
    refine z_ev_gs 3 (c1 := (285, 18, [some (z_r 67 0), some (z_r 0 0), some (z_r 33 0), some (z_i 0)], [], (true, (0, 1941, fun _ => 0, z_R0), I', z_J9))) rfl ?_
    exact hr
  have hf : ∀ t, t ≠ 40 → t ≠ 41 → t ≠ 42 → I' t = z_I9 (z_I0 L xs) t := by
    intro t h1 h2 h3
    funext i j
    refine c3 t i j ?_
    unfold z_t40
    rw [z_nbf h1, z_nbf h2, z_nbf h3]
    rfl
  refine ⟨I', hrun, z_R_st rfl rfl (fun t h1 h2 h3 h4 => (hf t h2 h3 h4).trans (z_Ic_of h1)) c2, ?_⟩
  have k1 : I' 67 = z_zr (z_cI22 (z_zr (z_I0 L xs) 0 0 0)) 33 0 0 67 := z_ev_67c hc
  have k2 : z_cI22 (z_zr (z_I0 L xs) 0 0 0) 67 = z_zr (z_I0 L xs) 0 0 0 67 := z_ev_67c (z_ct22 (d := 0) (kc := fun _ => 0) (R := fun _ _ _ => none) (I := z_zr (z_I0 L xs) 0 0 0) (J := fun _ _ _ => 0))
  rw [k1, z_zr_67 (by decide), k2, z_zr_67 (by decide)]
