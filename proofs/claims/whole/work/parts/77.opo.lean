/-! calls of both: keep, again -/
/-- a world that looks like another, beside rows that look like others -/
theorem z_Rw_pw {X X' : z_X} {I I' : Nat → Nat → Nat → Int32} {u w : Nat} {mo mp ms mz mo' mp' ms' mz' : Int32} {po ro ou we ch sh po' ro' ou' we' ch' sh' : Nat → Int32}
    (x1 : X'.1 = X.1) (x2 : X'.2.2.1 = X.2.2.1) (x3 : ∀ s, s < 6 → X'.2.2.2 11 w s = X.2.2.2 11 u s)
    (c1 : ∀ n, n < 4 → I' 13 (4 * w + n) 1 = I 13 (4 * u + n) 1 ∧ ∀ p, p < 10 → I' 14 (4 * w + n) p = I 14 (4 * u + n) p) (c3 : ∀ j, j < 5 → I' 3 w j = I 3 u j) (c4 : I' 4 w 2 = I 4 u 2) (c5 : ∀ j, j < 5 → I' 5 w j = I 5 u j) (c6 : ∀ j, j < 25 → I' 6 w j = I 6 u j) (c12 : ∀ j, j < 6 → I' 12 w j = I 12 u j) (c15 : I' 1 w 5 = I 1 u 5) (c16 : I' 1 w 6 = I 1 u 6) (c32 : I' 32 = I 32)
    (e1 : mo' = mo) (e2 : mp' = mp) (e3 : ms' = ms) (e4 : mz' = mz) (g1 : ∀ j, j < 4 → po' j = po j) (g2 : ∀ j, j < 40 → ro' j = ro j) (g3 : ∀ j, j < 8 → ou' j = ou j) (g4 : ∀ j, j < 5 → we' j = we j) (g5 : ∀ j, j < 25 → ch' j = ch j) (g6 : ∀ j, j < 24 → sh' j = sh j)
    (h : z_Rw X I u mo mp ms mz po ro ou we ch sh) : z_Rw X' I' w mo' mp' ms' mz' po' ro' ou' we' ch' sh' := by
  obtain ⟨r1, r2, r3, r4, r5⟩ := h
  subst e1 e2 e3 e4
  refine ⟨fun n hn => ?_, ?_, ?_, c16.trans r4, ?_⟩
  · obtain ⟨s, m, q1, q2, q3, q4, q5, q6⟩ := r1 n hn
    obtain ⟨f1, f2⟩ := c1 n hn
    exact ⟨s, m, q1, q2, q3, f1.trans q4, (g1 n hn).trans q5, fun p hp => ⟨(f2 p hp).trans (q6 p hp).1, (g2 _ (by omega)).trans (q6 p hp).2⟩⟩
  · obtain ⟨l, q1, q2, q3, q4, q5, q6⟩ := r2
    refine ⟨l, q1, q2, q3, q4, fun j q hq => ?_, fun m h1 h2 => ?_⟩
    · have hj : j < l.length := by
        have := List.getElem?_eq_some_iff.mp hq
        exact this.1
      rw [g3 _ (by omega), g3 _ (by omega)]
      exact q5 j q hq
    · rw [c3 m (by omega)]
      exact q6 m h1 h2
  · obtain ⟨k, q1, q2, q3, q4, q5, q6, q7⟩ := r3
    refine ⟨k, q1, c4.trans q2, q3, fun j hj => ?_, fun j hj => ?_, fun j hj => ?_, fun a b ha hb => ?_⟩
    · rw [c5 j hj, g4 j hj]; exact q4 j hj
    · rw [c6 j hj, g5 j hj]; exact q5 j hj
    · rw [g4 j (by omega)]; exact q6 j hj
    · rw [g5 _ (by omega), g5 _ (by omega)]; exact q7 a b ha hb
  · obtain ⟨k, q1, q2, q3, q4⟩ := r5
    refine ⟨k, ⟨q1.1, fun s hs => ?_⟩, c15.trans q2, q3, fun s hs => ?_⟩
    · rw [x3 s hs, x1, x2]; exact q1.2 s hs
    · obtain ⟨q, c, t1, t2, t3, t4, t5, t6, t7, t8, t9, t10, t11⟩ := q4 s hs
      rw [x1, x2, x3 s (by omega), c32, c12 s (by omega), g6 _ (by omega), g6 _ (by omega), g6 _ (by omega), g6 _ (by omega)]
      exact ⟨q, c, t1, t2, t3, t4, t5, t6, t7, t8, t9, t10, t11⟩
section
variable {d : Nat} {X : z_X} {I : Nat → Nat → Nat → Int32} {J : Nat → Nat → Nat → Int64}
def z_kb0 (I : Nat → Nat → Nat → Int32) : Nat → Nat → Nat → Int32 := z_up (z_up (z_up (z_up (z_up I 33 0 54 (0 : Int32)) 63 0 0 (I 33 0 2)) 63 0 1 (I 33 0 4)) 63 0 2 (I 33 0 8)) 63 0 3 (I 33 0 7)
def z_kb7 (I : Nat → Nat → Nat → Int32) : Nat → Nat → Nat → Int32 := z_mk (z_mk (z_mk (z_mk (z_mk (z_mk (z_mk (z_kb0 I) 63 0 4) 34 4 4) 35 8 40) 36 48 8) 37 56 5) 38 61 25) 39 86 24
def z_a7 (I : Nat → Nat → Nat → Int32) : Nat → Nat → Nat → Int32 := z_ma (z_ma (z_ma (z_ma (z_ma (z_ma (z_ma (z_kb0 I) 63 0 4) 34 4 4) 35 8 40) 36 48 8) 37 56 5) 38 61 25) 39 86 24
theorem z_p272k : z_ev (d + 1) (z_en 272 [z_r 33 0, z_i (z_c true)] (true, X, I, J)) (none, (true, X, z_kb7 I, J)) := by
  have e0 : z_kb0 I 33 0 54 = Int32.ofNat 0 := by
    unfold z_kb0
    rw [z_up_t (by decide), z_up_t (by decide), z_up_t (by decide), z_up_t (by decide), z_up_e]; rfl
  exact z_q272_e true ⟨_, _, _, z_p271k_63 (o := 0) (by decide) e0, _, _, _, z_p271k_34 (o := 4) (by decide) z_mk_54, _, _, _, z_p271k_35 (o := 8) (by decide) z_mk_54, _, _, _, z_p271k_36 (o := 48) (by decide) z_mk_54, _, _, _, z_p271k_37 (o := 56) (by decide) z_mk_54, _, _, _, z_p271k_38 (o := 61) (by decide) z_mk_54, _, _, _, z_p271k_39 (o := 86) (by decide) z_mk_54, rfl⟩
theorem z_p272a : z_ev (d + 1) (z_en 272 [z_r 33 0, z_i (z_c false)] (true, X, I, J)) (none, (true, X, z_a7 I, J)) := by
  have e0 : z_kb0 I 33 0 54 = Int32.ofNat 0 := by
    unfold z_kb0
    rw [z_up_t (by decide), z_up_t (by decide), z_up_t (by decide), z_up_t (by decide), z_up_e]; rfl
  exact z_q272_e false ⟨_, _, _, z_p271a_63 (o := 0) (by decide) e0, _, _, _, z_p271a_34 (o := 4) (by decide) z_ma_54, _, _, _, z_p271a_35 (o := 8) (by decide) z_ma_54, _, _, _, z_p271a_36 (o := 48) (by decide) z_ma_54, _, _, _, z_p271a_37 (o := 56) (by decide) z_ma_54, _, _, _, z_p271a_38 (o := 61) (by decide) z_ma_54, _, _, _, z_p271a_39 (o := 86) (by decide) z_ma_54, rfl⟩
theorem z_kb0_t {a : Nat} (h1 : a ≠ 33) (h2 : a ≠ 63) : z_kb0 I a = I a := by
  unfold z_kb0
  rw [z_up_t h2, z_up_t h2, z_up_t h2, z_up_t h2, z_up_t h1]
theorem z_kb0_33 {j : Nat} (h : j ≠ 54) : z_kb0 I 33 0 j = I 33 0 j := by
  unfold z_kb0
  rw [z_up_t (by decide), z_up_t (by decide), z_up_t (by decide), z_up_t (by decide), z_up_j h]
theorem z_kb0_63 : z_kb0 I 63 0 0 = I 33 0 2 ∧ z_kb0 I 63 0 1 = I 33 0 4 ∧ z_kb0 I 63 0 2 = I 33 0 8 ∧ z_kb0 I 63 0 3 = I 33 0 7 := by
  unfold z_kb0
  refine ⟨?_, ?_, ?_, ?_⟩
  · rw [z_up_j (by decide), z_up_j (by decide), z_up_j (by decide), z_up_e]
  · rw [z_up_j (by decide), z_up_j (by decide), z_up_e]
  · rw [z_up_j (by decide), z_up_e]
  · rw [z_up_e]
theorem z_kb7_t {a : Nat} (h1 : a ≠ 33) (h2 : a ≠ 63) (h3 : a ≠ 62) : z_kb7 I a = I a := by
  unfold z_kb7
  rw [z_mk_t h3 h1, z_mk_t h3 h1, z_mk_t h3 h1, z_mk_t h3 h1, z_mk_t h3 h1, z_mk_t h3 h1, z_mk_t h3 h1, z_kb0_t h1 h2]
theorem z_kb7_33 {j : Nat} (h : j ≠ 54) : z_kb7 I 33 0 j = I 33 0 j := by
  unfold z_kb7
  rw [z_mk_33 h, z_mk_33 h, z_mk_33 h, z_mk_33 h, z_mk_33 h, z_mk_33 h, z_mk_33 h, z_kb0_33 h]
theorem z_kb7_0 {j : Nat} (hj : j < 4) : z_kb7 I 62 0 (0 + j) = z_kb0 I 63 0 j := by
  unfold z_kb7
  rw [z_mk_lo (by omega), z_mk_lo (by omega), z_mk_lo (by omega), z_mk_lo (by omega), z_mk_lo (by omega), z_mk_lo (by omega), z_mk_at hj]
theorem z_kb7_4 {j : Nat} (hj : j < 4) : z_kb7 I 62 0 (4 + j) = I 34 0 j := by
  unfold z_kb7
  rw [z_mk_lo (by omega), z_mk_lo (by omega), z_mk_lo (by omega), z_mk_lo (by omega), z_mk_lo (by omega), z_mk_at hj, z_mk_t (by decide) (by decide), z_kb0_t (by decide) (by decide)]
theorem z_kb7_8 {j : Nat} (hj : j < 40) : z_kb7 I 62 0 (8 + j) = I 35 0 j := by
  unfold z_kb7
  rw [z_mk_lo (by omega), z_mk_lo (by omega), z_mk_lo (by omega), z_mk_lo (by omega), z_mk_at hj, z_mk_t (by decide) (by decide), z_mk_t (by decide) (by decide), z_kb0_t (by decide) (by decide)]
theorem z_kb7_48 {j : Nat} (hj : j < 8) : z_kb7 I 62 0 (48 + j) = I 36 0 j := by
  unfold z_kb7
  rw [z_mk_lo (by omega), z_mk_lo (by omega), z_mk_lo (by omega), z_mk_at hj, z_mk_t (by decide) (by decide), z_mk_t (by decide) (by decide), z_mk_t (by decide) (by decide), z_kb0_t (by decide) (by decide)]
theorem z_kb7_56 {j : Nat} (hj : j < 5) : z_kb7 I 62 0 (56 + j) = I 37 0 j := by
  unfold z_kb7
  rw [z_mk_lo (by omega), z_mk_lo (by omega), z_mk_at hj, z_mk_t (by decide) (by decide), z_mk_t (by decide) (by decide), z_mk_t (by decide) (by decide), z_mk_t (by decide) (by decide), z_kb0_t (by decide) (by decide)]
theorem z_kb7_61 {j : Nat} (hj : j < 25) : z_kb7 I 62 0 (61 + j) = I 38 0 j := by
  unfold z_kb7
  rw [z_mk_lo (by omega), z_mk_at hj, z_mk_t (by decide) (by decide), z_mk_t (by decide) (by decide), z_mk_t (by decide) (by decide), z_mk_t (by decide) (by decide), z_mk_t (by decide) (by decide), z_kb0_t (by decide) (by decide)]
theorem z_kb7_86 {j : Nat} (hj : j < 24) : z_kb7 I 62 0 (86 + j) = I 39 0 j := by
  unfold z_kb7
  rw [z_mk_at hj, z_mk_t (by decide) (by decide), z_mk_t (by decide) (by decide), z_mk_t (by decide) (by decide), z_mk_t (by decide) (by decide), z_mk_t (by decide) (by decide), z_mk_t (by decide) (by decide), z_kb0_t (by decide) (by decide)]
theorem z_kb0_ag {cs : List Nat} {I0 : Nat → Nat → Nat → Int32} (h0 : cs.contains 0 = true) (h : z_ag cs I0 I) : z_ag cs I0 (z_kb0 I) := z_ag_up (z_ag_up (z_ag_up (z_ag_up (z_ag_up h h0) h0) h0) h0) h0
theorem z_kb7_ag {cs : List Nat} {I0 : Nat → Nat → Nat → Int32} (h0 : cs.contains 0 = true) (h2 : cs.contains 2 = true) (h : z_ag cs I0 I) : z_ag cs I0 (z_kb7 I) := z_mk_ag (z_mk_ag (z_mk_ag (z_mk_ag (z_mk_ag (z_mk_ag (z_mk_ag (z_kb0_ag h0 h) h0 h2) h0 h2) h0 h2) h0 h2) h0 h2) h0 h2) h0 h2
theorem z_a7_ag {cs : List Nat} {I0 : Nat → Nat → Nat → Int32} (h0 : cs.contains 0 = true) (h1 : cs.contains 1 = true) (h : z_ag cs I0 I) : z_ag cs I0 (z_a7 I) := z_ma_ag (z_ma_ag (z_ma_ag (z_ma_ag (z_ma_ag (z_ma_ag (z_ma_ag (z_kb0_ag h0 h) h0 (fun _ => h0)) h0 (fun _ => h1)) h0 (fun _ => h1)) h0 (fun _ => h1)) h0 (fun _ => h1)) h0 (fun _ => h1)) h0 (fun _ => h1)
theorem z_a7_t {a : Nat} (h1 : a ≠ 33) (h2 : a ≠ 63) (h3 : a ≠ 34) (h4 : a ≠ 35) (h5 : a ≠ 36) (h6 : a ≠ 37) (h7 : a ≠ 38) (h8 : a ≠ 39) : z_a7 I a = I a := by
  unfold z_a7
  rw [z_ma_t h8 h1, z_ma_t h7 h1, z_ma_t h6 h1, z_ma_t h5 h1, z_ma_t h4 h1, z_ma_t h3 h1, z_ma_t h2 h1, z_kb0_t h1 h2]
theorem z_a7_33 {j : Nat} (h : j ≠ 54) : z_a7 I 33 0 j = I 33 0 j := by
  unfold z_a7
  rw [z_ma_33 (by decide) h, z_ma_33 (by decide) h, z_ma_33 (by decide) h, z_ma_33 (by decide) h, z_ma_33 (by decide) h, z_ma_33 (by decide) h, z_ma_33 (by decide) h, z_kb0_33 h]
theorem z_a7_63 {j : Nat} (hj : j < 4) : z_a7 I 63 0 j = I 62 0 (0 + j) := by
  unfold z_a7
  rw [z_ma_t (by decide) (by decide), z_ma_t (by decide) (by decide), z_ma_t (by decide) (by decide), z_ma_t (by decide) (by decide), z_ma_t (by decide) (by decide), z_ma_t (by decide) (by decide), z_ma_at (by decide) hj, z_kb0_t (by decide) (by decide)]
theorem z_a7_34 {j : Nat} (hj : j < 4) : z_a7 I 34 0 j = I 62 0 (4 + j) := by
  unfold z_a7
  rw [z_ma_t (by decide) (by decide), z_ma_t (by decide) (by decide), z_ma_t (by decide) (by decide), z_ma_t (by decide) (by decide), z_ma_t (by decide) (by decide), z_ma_at (by decide) hj, z_ma_t (by decide) (by decide), z_kb0_t (by decide) (by decide)]
theorem z_a7_35 {j : Nat} (hj : j < 40) : z_a7 I 35 0 j = I 62 0 (8 + j) := by
  unfold z_a7
  rw [z_ma_t (by decide) (by decide), z_ma_t (by decide) (by decide), z_ma_t (by decide) (by decide), z_ma_t (by decide) (by decide), z_ma_at (by decide) hj, z_ma_t (by decide) (by decide), z_ma_t (by decide) (by decide), z_kb0_t (by decide) (by decide)]
theorem z_a7_36 {j : Nat} (hj : j < 8) : z_a7 I 36 0 j = I 62 0 (48 + j) := by
  unfold z_a7
  rw [z_ma_t (by decide) (by decide), z_ma_t (by decide) (by decide), z_ma_t (by decide) (by decide), z_ma_at (by decide) hj, z_ma_t (by decide) (by decide), z_ma_t (by decide) (by decide), z_ma_t (by decide) (by decide), z_kb0_t (by decide) (by decide)]
theorem z_a7_37 {j : Nat} (hj : j < 5) : z_a7 I 37 0 j = I 62 0 (56 + j) := by
  unfold z_a7
  rw [z_ma_t (by decide) (by decide), z_ma_t (by decide) (by decide), z_ma_at (by decide) hj, z_ma_t (by decide) (by decide), z_ma_t (by decide) (by decide), z_ma_t (by decide) (by decide), z_ma_t (by decide) (by decide), z_kb0_t (by decide) (by decide)]
theorem z_a7_38 {j : Nat} (hj : j < 25) : z_a7 I 38 0 j = I 62 0 (61 + j) := by
  unfold z_a7
  rw [z_ma_t (by decide) (by decide), z_ma_at (by decide) hj, z_ma_t (by decide) (by decide), z_ma_t (by decide) (by decide), z_ma_t (by decide) (by decide), z_ma_t (by decide) (by decide), z_ma_t (by decide) (by decide), z_kb0_t (by decide) (by decide)]
theorem z_a7_39 {j : Nat} (hj : j < 24) : z_a7 I 39 0 j = I 62 0 (86 + j) := by
  unfold z_a7
  rw [z_ma_at (by decide) hj, z_ma_t (by decide) (by decide), z_ma_t (by decide) (by decide), z_ma_t (by decide) (by decide), z_ma_t (by decide) (by decide), z_ma_t (by decide) (by decide), z_ma_t (by decide) (by decide), z_kb0_t (by decide) (by decide)]
end
/-- promise 51 -/
theorem z_op_keep : z_op 116 273 [] := by
  intro X I J hR
  obtain ⟨n1, r2, r3, r4, r5, r6, r7, r8⟩ := hR
  have hq : z_Rq X.1 X.2.2.1 (X.2.2.2 11 0) := by
    obtain ⟨-, -, -, -, ⟨k, h, -⟩⟩ := n1
    exact h.2
  obtain ⟨Y, I1, p1, y1, y2, c1, c3, c4, c5, c6, c12, c15, c16, a1⟩ := z_p63_10 (d := 58) (I := I) (J := J) hq
  obtain ⟨Ia, hIa⟩ : ∃ Ia, Ia = z_up I1 0 0 2 (1 : Int32) := ⟨_, rfl⟩
  obtain ⟨I2, hI2⟩ : ∃ I2, I2 = z_up (z_kb7 Ia) 33 0 52 (1 : Int32) := ⟨_, rfl⟩
  have aa : z_ag [0, 2] I Ia := by rw [hIa]; exact z_ag_up (z_ag_mn a1 (fun c q => by simp at q ⊢; exact Or.inr q)) rfl
  have a2 : z_ag [0, 2] I I2 := by rw [hI2]; exact z_ag_up (z_kb7_ag rfl rfl aa) rfl
  have ta : ∀ t, t ≠ 0 → Ia t = I1 t := fun t ht => by rw [hIa, z_up_t ht]
  have t2 : ∀ t, t ≠ 33 → t ≠ 62 → t ≠ 63 → I2 t = Ia t := fun t h1 h2 h3 => by rw [hI2, z_up_t h1, z_kb7_t h1 h3 h2]
  have t12 : ∀ t, t ≠ 0 → t ≠ 33 → t ≠ 62 → t ≠ 63 → I2 t = I1 t := fun t h0 h1 h2 h3 => (t2 t h1 h2 h3).trans (ta t h0)
  have g62 : I2 62 = z_kb7 Ia 62 := by rw [hI2, z_up_t (by decide)]
  have k1 : ∀ t {c : Nat}, (∀ i j, z_cp t i j = c) → ([0, 2] : List Nat).contains c = false → Ia t = I t := fun t c h1 h2 => z_ag_t aa t h1 h2
  have k33 : ∀ j {c : Nat}, z_cp 33 0 j = c → ([0, 2] : List Nat).contains c = false → Ia 33 0 j = I 33 0 j := fun j c h1 h2 => z_ag_p aa 33 0 j h1 h2
  have f63 := z_kb0_63 (I := Ia)
  refine ⟨z_i 1, (X.1, X.2.1, X.2.2.1, Y), (X.1, X.2.1, X.2.2.1, Y), Ia, I2, J, J, z_q116_e (d := 58) ⟨_, _, _, p1, by rw [hIa]⟩, z_q273_e (d := 58) ⟨_, _, _, z_p272k, by rw [hI2]⟩, ⟨?_, Or.inr ⟨?_, ?_, ?_⟩, z_Rt_ag a2 rfl r3, z_Rr_ag a2 rfl r4, z_Rh_ag a2 rfl rfl rfl r5, z_Rv_ag a2 rfl r6, z_Rx_ag a2 rfl r7, z_Tb_ag a2 rfl r8⟩, Nat.le_succ _, Nat.le_add_right _ _, z_67_ag a2 rfl⟩
  · have h9 : z_now X I2 := z_now_ag a2 rfl rfl n1
    obtain ⟨q1, q2, q3, q4, q5⟩ := h9
    refine ⟨q1, q2, q3, q4, ?_⟩
    show z_Rs X.1 X.2.2.1 (Y 11 0) _ _ _ _ _
    rw [y2]; exact q5
  · rw [t2 0 (by decide) (by decide) (by decide), hIa, z_up_e]
  · rw [hI2, z_up_e]
  · refine z_Rw_pw (X := X) (I := I) (u := 0) rfl rfl (fun s hs => y1 s hs) (fun n hn => ?_) (fun j hj => ?_) ?_ (fun j hj => ?_) (fun j hj => ?_) (fun j hj => ?_) ?_ ?_ ?_ ?_ ?_ ?_ ?_ (fun j hj => ?_) (fun j hj => ?_) (fun j hj => ?_) (fun j hj => ?_) (fun j hj => ?_) (fun j hj => ?_) n1
    · rw [t12 13 (by decide) (by decide) (by decide) (by decide), t12 14 (by decide) (by decide) (by decide) (by decide), Nat.mul_zero, Nat.zero_add]
      exact c1 n hn
    · rw [t12 3 (by decide) (by decide) (by decide) (by decide)]; exact c3 j hj
    · rw [t12 4 (by decide) (by decide) (by decide) (by decide)]; exact c4
    · rw [t12 5 (by decide) (by decide) (by decide) (by decide)]; exact c5 j hj
    · rw [t12 6 (by decide) (by decide) (by decide) (by decide)]; exact c6 j hj
    · rw [t12 12 (by decide) (by decide) (by decide) (by decide)]; exact c12 j hj
    · rw [t12 1 (by decide) (by decide) (by decide) (by decide)]; exact c15
    · rw [t12 1 (by decide) (by decide) (by decide) (by decide)]; exact c16
    · exact z_ag_t a2 32 (c := 10) (fun _ _ => rfl) rfl
    · rw [g62, show z_kb7 Ia 62 0 0 = _ from z_kb7_0 (j := 0) (by decide), f63.1]; exact k33 2 (c := 1) rfl rfl
    · rw [g62, show z_kb7 Ia 62 0 1 = _ from z_kb7_0 (j := 1) (by decide), f63.2.1]; exact k33 4 (c := 1) rfl rfl
    · rw [g62, show z_kb7 Ia 62 0 2 = _ from z_kb7_0 (j := 2) (by decide), f63.2.2.1]; exact k33 8 (c := 1) rfl rfl
    · rw [g62, show z_kb7 Ia 62 0 3 = _ from z_kb7_0 (j := 3) (by decide), f63.2.2.2]; exact k33 7 (c := 1) rfl rfl
    · rw [g62, z_kb7_4 hj, k1 34 (c := 1) (fun _ _ => rfl) rfl]
    · rw [g62, z_kb7_8 hj, k1 35 (c := 1) (fun _ _ => rfl) rfl]
    · rw [g62, z_kb7_48 hj, k1 36 (c := 1) (fun _ _ => rfl) rfl]
    · rw [g62, z_kb7_56 hj, k1 37 (c := 1) (fun _ _ => rfl) rfl]
    · rw [g62, z_kb7_61 hj, k1 38 (c := 1) (fun _ _ => rfl) rfl]
    · rw [g62, z_kb7_86 hj, k1 39 (c := 1) (fun _ _ => rfl) rfl]
/-- promise 52 -/
theorem z_op_again : z_op 117 274 [] := by
  intro X I J hR
  have hR0 := hR
  obtain ⟨n1, r2, r3, r4, r5, r6, r7, r8⟩ := hR
  rcases r2 with ⟨h1, h2⟩ | ⟨h1, h2, hk⟩
  · exact ⟨z_i (-3), X, X, I, I, J, J, z_q117_e (d := 58) ⟨fun h => absurd h1 h, fun _ => rfl⟩, z_q274_e (d := 58) ⟨fun h => absurd h2 h, fun _ => rfl⟩, hR0, Nat.le_succ _, Nat.le_add_right _ _, rfl⟩
  · have b1 : ¬ I 0 0 2 = 0 := by rw [h1]; decide
    have b2 : ¬ I 33 0 52 = 0 := by rw [h2]; decide
    have hq : z_Rq X.1 X.2.2.1 (X.2.2.2 11 1) := by
      obtain ⟨-, -, -, -, ⟨k, h, -⟩⟩ := hk
      exact h.2
    obtain ⟨Y, I1, p1, y1, y2, c1, c3, c4, c5, c6, c12, c15, c16, a1⟩ := z_p63_01 (d := 58) (I := I) (J := J) hq
    obtain ⟨I3, hI3⟩ : ∃ I3, I3 = z_a7 I1 := ⟨_, rfl⟩
    obtain ⟨I2, hI2⟩ : ∃ I2, I2 = z_up (z_up (z_up (z_up I3 33 0 2 (I3 63 0 0)) 33 0 4 (I3 63 0 1)) 33 0 8 (I3 63 0 2)) 33 0 7 (I3 63 0 3) := ⟨_, rfl⟩
    have aa : z_ag [0, 1] I I1 := z_ag_mn a1 (fun c q => by simp at q ⊢; exact Or.inr q)
    have a3 : z_ag [0, 1] I I3 := by rw [hI3]; exact z_a7_ag rfl rfl aa
    have a2 : z_ag [0, 1] I I2 := by rw [hI2]; exact z_ag_up (z_ag_up (z_ag_up (z_ag_up a3 rfl) rfl) rfl) rfl
    have t2 : ∀ t, t ≠ 33 → I2 t = I3 t := fun t ht => by rw [hI2, z_up_t ht, z_up_t ht, z_up_t ht, z_up_t ht]
    have tc : ∀ t, t ≠ 33 → t ≠ 63 → t ≠ 34 → t ≠ 35 → t ≠ 36 → t ≠ 37 → t ≠ 38 → t ≠ 39 → I2 t = I1 t := fun t q1 q2 q3 q4 q5 q6 q7 q8 => by rw [t2 t q1, hI3, z_a7_t q1 q2 q3 q4 q5 q6 q7 q8]
    have e62 : I1 62 = I 62 := z_ag_t aa 62 (c := 2) (fun _ _ => rfl) rfl
    have g63 : ∀ j, j < 4 → I3 63 0 j = I 62 0 j := fun j hj => by rw [hI3, z_a7_63 hj, e62, Nat.zero_add]
    have b33 : ¬ I1 33 0 52 = 0 := by rw [z_ag_p aa 33 0 52 (c := 2) rfl rfl]; exact b2
    refine ⟨z_i 1, (X.1, X.2.1, X.2.2.1, Y), (X.1, X.2.1, X.2.2.1, Y), I1, I2, J, J, z_q117_e (d := 58) ⟨fun _ => ⟨_, _, _, p1, rfl⟩, fun h => absurd h b1⟩, z_q274_e (d := 58) ⟨fun _ => ⟨_, _, _, z_p272a, by rw [hI2, hI3]⟩, fun h => absurd h b33⟩, ⟨?_, Or.inr ⟨?_, ?_, ?_⟩, z_Rt_ag a2 rfl r3, z_Rr_ag a2 rfl r4, z_Rh_ag a2 rfl rfl rfl r5, z_Rv_ag a2 rfl r6, z_Rx_ag a2 rfl r7, z_Tb_ag a2 rfl r8⟩, Nat.le_succ _, Nat.le_add_right _ _, z_67_ag a2 rfl⟩
    · refine z_Rw_pw (X := X) (I := I) (u := 1) rfl rfl (fun s hs => y1 s hs) (fun n hn => ?_) (fun j hj => ?_) ?_ (fun j hj => ?_) (fun j hj => ?_) (fun j hj => ?_) ?_ ?_ ?_ ?_ ?_ ?_ ?_ (fun j hj => ?_) (fun j hj => ?_) (fun j hj => ?_) (fun j hj => ?_) (fun j hj => ?_) (fun j hj => ?_) hk
      · rw [tc 13 (by decide) (by decide) (by decide) (by decide) (by decide) (by decide) (by decide) (by decide), tc 14 (by decide) (by decide) (by decide) (by decide) (by decide) (by decide) (by decide) (by decide), Nat.mul_zero, Nat.zero_add]
        exact c1 n hn
      · rw [tc 3 (by decide) (by decide) (by decide) (by decide) (by decide) (by decide) (by decide) (by decide)]; exact c3 j hj
      · rw [tc 4 (by decide) (by decide) (by decide) (by decide) (by decide) (by decide) (by decide) (by decide)]; exact c4
      · rw [tc 5 (by decide) (by decide) (by decide) (by decide) (by decide) (by decide) (by decide) (by decide)]; exact c5 j hj
      · rw [tc 6 (by decide) (by decide) (by decide) (by decide) (by decide) (by decide) (by decide) (by decide)]; exact c6 j hj
      · rw [tc 12 (by decide) (by decide) (by decide) (by decide) (by decide) (by decide) (by decide) (by decide)]; exact c12 j hj
      · rw [tc 1 (by decide) (by decide) (by decide) (by decide) (by decide) (by decide) (by decide) (by decide)]; exact c15
      · rw [tc 1 (by decide) (by decide) (by decide) (by decide) (by decide) (by decide) (by decide) (by decide)]; exact c16
      · exact z_ag_t a2 32 (c := 10) (fun _ _ => rfl) rfl
      · rw [hI2, z_up_j (by decide), z_up_j (by decide), z_up_j (by decide), z_up_e]; exact g63 0 (by decide)
      · rw [hI2, z_up_j (by decide), z_up_j (by decide), z_up_e]; exact g63 1 (by decide)
      · rw [hI2, z_up_j (by decide), z_up_e]; exact g63 2 (by decide)
      · rw [hI2, z_up_e]; exact g63 3 (by decide)
      · rw [t2 34 (by decide), hI3, z_a7_34 hj, e62]
      · rw [t2 35 (by decide), hI3, z_a7_35 hj, e62]
      · rw [t2 36 (by decide), hI3, z_a7_36 hj, e62]
      · rw [t2 37 (by decide), hI3, z_a7_37 hj, e62]
      · rw [t2 38 (by decide), hI3, z_a7_38 hj, e62]
      · rw [t2 39 (by decide), hI3, z_a7_39 hj, e62]
    · rw [z_ag_p a2 0 0 2 (c := 2) rfl rfl]; exact h1
    · rw [z_ag_p a2 33 0 52 (c := 2) rfl rfl]; exact h2
    · have h9 : z_kep X I2 := z_kep_ag a2 rfl rfl hk
      obtain ⟨q1, q2, q3, q4, q5⟩ := h9
      refine ⟨q1, q2, q3, q4, ?_⟩
      show z_Rs X.1 X.2.2.1 (Y 11 1) _ _ _ _ _
      rw [y2]; exact q5
