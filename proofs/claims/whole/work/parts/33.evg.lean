/-! steps with a guard, branches by their sense -/
def z_c (b : Bool) : Int32 := bif b then 1 else 0
theorem z_gt {i n : Nat} (h : i < n) : decide (i < n) = true := decide_eq_true h
theorem z_lt40 {k : Nat} (h : k < 4) : k < 10 := by omega
theorem z_lt41 {k : Nat} (h : k < 4) : 4 + k < 10 := by omega
theorem z_cl_nat {k n : Nat} (hk : k < n) (hn : n ≤ 1000000) : (Int32.ofNat k).toNatClampNeg = k := Int32.toNatClampNeg_ofNat_of_lt (by omega)
theorem z_in_nat {k n : Nat} (hk : k < n) (hn : n ≤ 1000000) : z_in (Int32.ofNat k) n = true := by
  unfold z_in
  rw [decide_eq_true_iff, z_cl_nat hk hn]
  rintro (h | h)
  · have h0 : (0 : Int32) ≤ Int32.ofNat k := (Int32.ofNat_le_ofNat (by decide) (by omega)).mpr (Nat.zero_le k)
    exact absurd h (Int32.not_lt.mpr h0)
  · omega
section
variable {d : Nat} {cf c1 : z_C} {r : Option z_V × z_M} {b : Bool} {y p1 p2 : Nat} {ls : List (Option z_V)} {st : List z_V} {M : z_M}
theorem z_ev_gi {i n : Nat} (h : z_step cf = (bif decide (i < n) then Sum.inl c1 else z_er)) (hi : i < n) (k : z_ev d c1 r) : z_ev d cf r := z_ev_ok h (z_gt hi) k
theorem z_ev_dvi {w1 : Int32} (h : z_step cf = (if w1 = 0 then z_er else Sum.inl c1)) (hp : ¬ w1 = 0) (k : z_ev d c1 r) : z_ev d cf r := by
  rw [if_neg hp] at h
  exact z_ev_st h k
theorem z_ev_dvj {w1 : Int64} (h : z_step cf = (if w1 = 0 then z_er else Sum.inl c1)) (hp : ¬ w1 = 0) (k : z_ev d c1 r) : z_ev d cf r := by
  rw [if_neg hp] at h
  exact z_ev_st h k
theorem z_ev_ifn {P : Prop} [Decidable P] (h1 : ¬ P → z_ev d (y, p1, ls, st, M) r) (h2 : P → z_ev d (y, p2, ls, st, M) r) : z_ev d (y, (if ¬ P then p1 else p2), ls, st, M) r := by
  by_cases h : P
  · rw [if_neg (fun q => q h)]; exact h2 h
  · rw [if_pos h]; exact h1 h
theorem z_ev_iflt {a c : Int32} (h1 : a < c → z_ev d (y, p1, ls, st, M) r) (h2 : c ≤ a → z_ev d (y, p2, ls, st, M) r) : z_ev d (y, (if a < c then p1 else p2), ls, st, M) r := z_ev_if h1 (fun q => h2 (Int32.not_lt.mp q))
theorem z_ev_ifle {a c : Int32} (h1 : a ≤ c → z_ev d (y, p1, ls, st, M) r) (h2 : c < a → z_ev d (y, p2, ls, st, M) r) : z_ev d (y, (if a ≤ c then p1 else p2), ls, st, M) r := z_ev_if h1 (fun q => h2 (Int32.not_le.mp q))
theorem z_c_0 {b : Bool} : z_c b = 0 ↔ b = false := by cases b <;> decide
theorem z_ev_ifc (h1 : b = false → z_ev d (y, p1, ls, st, M) r) (h2 : b = true → z_ev d (y, p2, ls, st, M) r) : z_ev d (y, (if z_c b = 0 then p1 else p2), ls, st, M) r :=
  z_ev_if (fun q => h1 (z_c_0.mp q)) (fun q => h2 (by cases b; exact absurd rfl q; rfl))
theorem z_ev_ifcn (h1 : b = true → z_ev d (y, p1, ls, st, M) r) (h2 : b = false → z_ev d (y, p2, ls, st, M) r) : z_ev d (y, (if ¬ z_c b = 0 then p1 else p2), ls, st, M) r :=
  z_ev_ifn (fun q => h1 (by cases b; exact absurd rfl q; rfl)) (fun q => h2 (z_c_0.mp q))
theorem z_ev_ict (hb : b = true) (k : z_ev d (y, p2, ls, st, M) r) : z_ev d (y, (if z_c b = 0 then p1 else p2), ls, st, M) r := by subst hb; exact k
theorem z_ev_icf (hb : b = false) (k : z_ev d (y, p1, ls, st, M) r) : z_ev d (y, (if z_c b = 0 then p1 else p2), ls, st, M) r := by subst hb; exact k
theorem z_ev_int (hb : b = true) (k : z_ev d (y, p1, ls, st, M) r) : z_ev d (y, (if ¬ z_c b = 0 then p1 else p2), ls, st, M) r := by subst hb; exact k
theorem z_ev_inf (hb : b = false) (k : z_ev d (y, p2, ls, st, M) r) : z_ev d (y, (if ¬ z_c b = 0 then p1 else p2), ls, st, M) r := by subst hb; exact k
theorem z_ev_rtn {v : Int32} {a : Nat} (h : z_step cf = (bif z_nr a v then z_rt (some (z_i v)) M else z_er)) (hn : z_nr a v = true) : z_ev d cf (some (z_i v), M) := by
  rw [hn] at h
  exact z_ev_rt h
theorem z_ev_rtb (h : z_step cf = (bif z_nr 1 (z_c b) then z_rt (some (z_i (z_c b))) M else z_er)) : z_ev d cf (some (z_i (z_c b)), M) := z_ev_rtn h (by cases b <;> decide)
theorem z_ev_iald {t i k n : Nat} {x : Int32} (h : z_step cf = (bif (z_g M t i && z_in x n) then Sum.inl (y, p1, ls, z_i (M.2.2.1 t i x.toNatClampNeg) :: st, M) else z_er)) (hg : z_g M t i = true) (hx : x = Int32.ofNat k) (hk : k < n) (hn : n ≤ 1000000)
    (kk : z_ev d (y, p1, ls, z_i (M.2.2.1 t i k) :: st, M) r) : z_ev d cf r := by
  subst hx
  rw [z_cl_nat hk hn] at h
  exact z_ev_ok h (by rw [hg, z_in_nat hk hn]; rfl) kk
theorem z_ev_lald {t i k n : Nat} {x : Int32} (h : z_step cf = (bif (z_g M t i && z_in x n) then Sum.inl (y, p1, ls, z_j (M.2.2.2 t i x.toNatClampNeg) :: st, M) else z_er)) (hg : z_g M t i = true) (hx : x = Int32.ofNat k) (hk : k < n) (hn : n ≤ 1000000)
    (kk : z_ev d (y, p1, ls, z_j (M.2.2.2 t i k) :: st, M) r) : z_ev d cf r := by
  subst hx
  rw [z_cl_nat hk hn] at h
  exact z_ev_ok h (by rw [hg, z_in_nat hk hn]; rfl) kk
theorem z_ev_iast {t i k n : Nat} {x v : Int32} (h : z_step cf = (bif (z_g M t i && z_in x n) then Sum.inl (y, p1, ls, st, (M.1, M.2.1, z_up M.2.2.1 t i x.toNatClampNeg v, M.2.2.2)) else z_er)) (hg : z_g M t i = true) (hx : x = Int32.ofNat k) (hk : k < n) (hn : n ≤ 1000000)
    (kk : z_ev d (y, p1, ls, st, (M.1, M.2.1, z_up M.2.2.1 t i k v, M.2.2.2)) r) : z_ev d cf r := by
  subst hx
  rw [z_cl_nat hk hn] at h
  exact z_ev_ok h (by rw [hg, z_in_nat hk hn]; rfl) kk
theorem z_ev_last {t i k n : Nat} {x : Int32} {v : Int64} (h : z_step cf = (bif (z_g M t i && z_in x n) then Sum.inl (y, p1, ls, st, (M.1, M.2.1, M.2.2.1, z_up M.2.2.2 t i x.toNatClampNeg v)) else z_er)) (hg : z_g M t i = true) (hx : x = Int32.ofNat k) (hk : k < n) (hn : n ≤ 1000000)
    (kk : z_ev d (y, p1, ls, st, (M.1, M.2.1, M.2.2.1, z_up M.2.2.2 t i k v)) r) : z_ev d cf r := by
  subst hx
  rw [z_cl_nat hk hn] at h
  exact z_ev_ok h (by rw [hg, z_in_nat hk hn]; rfl) kk
/-- a constant row -/
theorem z_ev_sld {w : Nat} {k n : Nat} {x : Int32} (h : z_step cf = (bif (decide (w < 4) && z_in x (z_stc.getD w []).length) then Sum.inl (y, p1, ls, z_i ((z_stc.getD w []).getD x.toNatClampNeg 0) :: st, M) else z_er)) (hx : x = Int32.ofNat k) (hk : k < n) (hn : (w < 4 ∧ n = (z_stc.getD w []).length) ∧ n ≤ 1000000)
    (kk : z_ev d (y, p1, ls, z_i ((z_stc.getD w []).getD k 0) :: st, M) r) : z_ev d cf r := by
  obtain ⟨⟨h4, rfl⟩, hn⟩ := hn
  subst hx
  rw [z_cl_nat hk hn] at h
  exact z_ev_ok h (by rw [z_in_nat hk hn, decide_eq_true h4]; rfl) kk
/-- the script -/
theorem z_ev_scr {k : Nat} {x : Int32} (h : z_step cf = (bif (true && z_in x (M.2.2.1 67 1 0).toNatClampNeg) then Sum.inl (y, p1, ls, z_i (M.2.2.1 67 0 x.toNatClampNeg) :: st, M) else z_er)) (hx : x = Int32.ofNat k) (hk : k < (M.2.2.1 67 1 0).toNatClampNeg) (hn : (M.2.2.1 67 1 0).toNatClampNeg ≤ 1000000)
    (kk : z_ev d (y, p1, ls, z_i (M.2.2.1 67 0 k) :: st, M) r) : z_ev d cf r := by
  subst hx
  rw [z_cl_nat hk hn] at h
  exact z_ev_ok h (by rw [z_in_nat hk hn]; rfl) kk
/-- the nets of a world, the sheets, the shares -/
theorem z_fin_nt0 : ∀ k, k < 4 → z_fin 2 0 k = some (13, k) := by decide +kernel
theorem z_fin_nt1 : ∀ k, k < 4 → z_fin 2 1 k = some (13, 4 + k) := by decide +kernel
theorem z_fin_sh : ∀ k, k < 4 → z_fin 21 0 k = some (30, k) := by decide +kernel
theorem z_ev_nt0 {k : Nat} {x : Int32} (h : z_step cf = (bif (true && z_in x 4) then Sum.inl (y, p1, ls, z_rf (z_fin 2 0 x.toNatClampNeg) :: st, M) else z_er)) (hx : x = Int32.ofNat k) (hk : k < 4) (kk : z_ev d (y, p1, ls, z_r 13 k :: st, M) r) : z_ev d cf r := by
  subst hx
  rw [z_cl_nat hk (by decide), z_fin_nt0 k hk] at h
  exact z_ev_ok h (by rw [z_in_nat hk (by decide)]; rfl) kk
theorem z_ev_nt1 {k : Nat} {x : Int32} (h : z_step cf = (bif (true && z_in x 4) then Sum.inl (y, p1, ls, z_rf (z_fin 2 1 x.toNatClampNeg) :: st, M) else z_er)) (hx : x = Int32.ofNat k) (hk : k < 4) (kk : z_ev d (y, p1, ls, z_r 13 (4 + k) :: st, M) r) : z_ev d cf r := by
  subst hx
  rw [z_cl_nat hk (by decide), z_fin_nt1 k hk] at h
  exact z_ev_ok h (by rw [z_in_nat hk (by decide)]; rfl) kk
theorem z_ev_sh {k : Nat} {x : Int32} (h : z_step cf = (bif (true && z_in x 4) then Sum.inl (y, p1, ls, z_rf (z_fin 21 0 x.toNatClampNeg) :: st, M) else z_er)) (hx : x = Int32.ofNat k) (hk : k < 4) (kk : z_ev d (y, p1, ls, z_r 30 k :: st, M) r) : z_ev d cf r := by
  subst hx
  rw [z_cl_nat hk (by decide), z_fin_sh k hk] at h
  exact z_ev_ok h (by rw [z_in_nat hk (by decide)]; rfl) kk
theorem z_ev_so {k i q : Nat} {x : Int32} (h : z_step cf = (bif (z_g M 11 i && z_in x 6) then Sum.inl (y, p1, ls, z_rf (M.2.1.2.2.2 11 i x.toNatClampNeg) :: st, M) else z_er)) (hg : z_g M 11 i = true) (hx : x = Int32.ofNat k) (hk : k < 6) (hq : M.2.1.2.2.2 11 i k = some (32, q)) (kk : z_ev d (y, p1, ls, z_r 32 q :: st, M) r) : z_ev d cf r := by
  subst hx
  rw [z_cl_nat hk (by decide), hq] at h
  exact z_ev_ok h (by rw [hg, z_in_nat hk (by decide)]; rfl) kk
/-- a call on a receiver whose number is a variable -/
theorem z_ev_cg {y0 pc i n : Nat} {as1 : List z_V} {M1 : z_M} {v : Option z_V} (h : z_step cf = (bif decide (i < n) then z_ca y as1 (y0, pc, ls, st, M) else z_er)) (hi : i < n) (hg : (Nat.ble (z_la as1).length (z_ml y) && z_pl y) = true)
    (hc : z_ev d (z_en y as1 M) (v, M1)) (k : z_ev (d + 1) (y0, pc, ls, v.toList ++ st, M1) r) : z_ev (d + 1) cf r := by
  rw [z_gt hi] at h
  exact z_ev_ca h hg hc k
theorem z_ev_son {k i : Nat} {x : Int32} (h : z_step cf = (bif (z_g M 11 i && z_in x 6) then Sum.inl (y, p1, ls, z_rf (M.2.1.2.2.2 11 i x.toNatClampNeg) :: st, M) else z_er)) (hg : z_g M 11 i = true) (hx : x = Int32.ofNat k) (hk : k < 6) (hq : M.2.1.2.2.2 11 i k = none) (kk : z_ev d (y, p1, ls, z_n :: st, M) r) : z_ev d cf r := by
  subst hx
  rw [z_cl_nat hk (by decide), hq] at h
  exact z_ev_ok h (by rw [hg, z_in_nat hk (by decide)]; rfl) kk
theorem z_ev_bld {w1 : Nat} {k n : Nat} {x : Int32} (h : z_step cf = (bif (true && decide (w1 < 4) && z_in x (z_sby.getD w1 []).length) then Sum.inl (y, p1, ls, z_i ((z_sby.getD w1 []).getD x.toNatClampNeg 0) :: st, M) else z_er)) (hx : x = Int32.ofNat k) (hk : k < n) (hn : (w1 < 4 ∧ n = (z_sby.getD w1 []).length) ∧ n ≤ 1000000)
    (kk : z_ev d (y, p1, ls, z_i ((z_sby.getD w1 []).getD k 0) :: st, M) r) : z_ev d cf r := by
  obtain ⟨⟨h4, rfl⟩, hn⟩ := hn
  subst hx
  rw [z_cl_nat hk hn] at h
  exact z_ev_ok h (by rw [z_in_nat hk hn, decide_eq_true h4]; rfl) kk
theorem z_mem4 {a : Nat} (h : a ∈ ([0, 3, 5, 6] : List Nat)) : ([0, 3, 5, 6] : List Nat).contains a = true := by
  rw [List.contains_iff_mem]
  exact h
theorem z_ev_ins {q a n : Nat} (h : z_step cf = (bif decide (q < n) then (bif ([0, 3, 5, 6] : List Nat).contains a && true then Sum.inl c1 else z_er) else z_er)) (hq : q < n) (ha : a ∈ ([0, 3, 5, 6] : List Nat)) (kk : z_ev d c1 r) : z_ev d cf r := by
  rw [z_gt hq, z_mem4 ha] at h
  exact z_ev_st h kk
theorem z_ev_aon {k i : Nat} {x : Int32} (h : z_step cf = (bif (z_g M 11 i && z_in x 6 && true) then Sum.inl (y, p1, ls, st, (M.1, (M.2.1.1, M.2.1.2.1, M.2.1.2.2.1, z_up M.2.1.2.2.2 11 i x.toNatClampNeg none), M.2.2.1, M.2.2.2)) else z_er)) (hg : z_g M 11 i = true) (hx : x = Int32.ofNat k) (hk : k < 6)
    (kk : z_ev d (y, p1, ls, st, (M.1, (M.2.1.1, M.2.1.2.1, M.2.1.2.2.1, z_up M.2.1.2.2.2 11 i k none), M.2.2.1, M.2.2.2)) r) : z_ev d cf r := by
  subst hx
  rw [z_cl_nat hk (by decide)] at h
  exact z_ev_ok h (by rw [hg, z_in_nat hk (by decide)]; rfl) kk
theorem z_fit_sh {X : z_X} {I : Nat → Nat → Nat → Int32} {J : Nat → Nat → Nat → Int64} {q : Nat} (hq : q < X.1) (ha : X.2.2.1 q ∈ ([0, 3, 5, 6] : List Nat)) : z_fit (true, X, I, J) 3 (z_r 32 q) = some (some (32, q)) := by
  show (bif (true && decide (q < X.1)) then (bif ([0, 3, 5, 6] : List Nat).contains (X.2.2.1 q) then some (some (32, q)) else none) else none) = _
  rw [z_gt hq, z_mem4 ha]
  rfl
theorem z_ev_ao {X : z_X} {I : Nat → Nat → Nat → Int32} {J : Nat → Nat → Nat → Int64} {k i q : Nat} {x : Int32} (h : z_step cf = (match z_fit (true, X, I, J) 3 (z_r 32 q) with
      | some o => bif (z_g (true, X, I, J) 11 i && z_in x 6 && true) then Sum.inl (y, p1, ls, st, (true, (X.1, X.2.1, X.2.2.1, z_up X.2.2.2 11 i x.toNatClampNeg o), I, J)) else z_er
      | none => z_er)) (hg : z_g (true, X, I, J) 11 i = true) (hq : q < X.1) (ha : X.2.2.1 q ∈ ([0, 3, 5, 6] : List Nat)) (hx : x = Int32.ofNat k) (hk : k < 6)
    (kk : z_ev d (y, p1, ls, st, (true, (X.1, X.2.1, X.2.2.1, z_up X.2.2.2 11 i k (some (32, q))), I, J)) r) : z_ev d cf r := by
  subst hx
  rw [z_fit_sh hq ha, z_cl_nat hk (by decide)] at h
  exact z_ev_ok h (by rw [hg, z_in_nat hk (by decide)]; rfl) kk
/-- a share's method: the one above its class's, the one of its class -/
theorem z_ev_vs {y0 pc q n a : Nat} {as1 : List z_V} {M1 : z_M} {v : Option z_V} (h : z_step cf = (bif decide (q < n) then (bif Nat.blt a 7 then z_ca y as1 (y0, pc, ls, st, M) else z_er) else z_er)) (hq : q < n) (ha : a < 7) (hg : (Nat.ble (z_la as1).length (z_ml y) && z_pl y) = true)
    (hc : z_ev d (z_en y as1 M) (v, M1)) (k : z_ev (d + 1) (y0, pc, ls, v.toList ++ st, M1) r) : z_ev (d + 1) cf r := by
  have h7 : Nat.blt a 7 = true := Nat.ble_eq_true_of_le ha
  rw [z_gt hq, h7] at h
  exact z_ev_ca h hg hc k
theorem z_ev_vv {y0 pc q n a w1 : Nat} {as1 : List z_V} {M1 : z_M} {v : Option z_V} (h : z_step cf = (bif decide (q < n) then (match z_vt w1 a with
      | none => z_er
      | some y' => z_ca y' as1 (y0, pc, ls, st, M)) else z_er)) (hq : q < n) (ha : z_vt w1 a = some y) (hg : (Nat.ble (z_la as1).length (z_ml y) && z_pl y) = true)
    (hc : z_ev d (z_en y as1 M) (v, M1)) (k : z_ev (d + 1) (y0, pc, ls, v.toList ++ st, M1) r) : z_ev (d + 1) cf r := by
  rw [z_gt hq, ha] at h
  exact z_ev_ca h hg hc k
end
