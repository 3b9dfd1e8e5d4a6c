/-! the memory as a world of the kit -/
def z_nc (M : z_M) : Nat := bif M.1 then 102 + M.2.1.1 else M.2.1.1
def z_sl (M : z_M) : Nat := M.2.1.2.1
/-- the classes' numbers, the row classes by element code, where our cells begin, what lies outside -/
abbrev z_G : Type := va_G × (Nat → ClassId) × Nat × (Nat → Nat → Value)
def z_A (B : Nat) : Nat → Prop := fun q => B ≤ q
def z_addr (B : Nat) (q : Nat × Nat) : Nat := B + z_off q.1 q.2
def z_tv (G : z_G) (v : z_V) : Value := match v with
  | Sum.inl x => .int x
  | Sum.inr (Sum.inl x) => .long x
  | Sum.inr (Sum.inr (Sum.inl (t, i))) => if t < 64 then .ref (G.2.2.1 + z_off t i) else G.2.2.2 t i
  | Sum.inr (Sum.inr (Sum.inr ())) => .null
def z_fv (B : Nat) (M : z_M) (t i j ty : Nat) : Value := if ty = 1 then .long (M.2.2.2 t i j) else if ty = 2 then va_rf ((z_gr M t i j).map (z_addr B)) else .int (M.2.2.1 t i j)
def z_ac (B : Nat) (M : z_M) (t i e n : Nat) : (Nat → Int32) ⊕ (Nat → Int64) ⊕ (Nat → UInt32) ⊕ (Nat → UInt64) ⊕ (Nat → Option Nat) :=
  if e = 0 then .inl (fun j => M.2.2.1 t i j) else if e = 1 then .inr (.inl (fun j => M.2.2.2 t i j)) else .inr (.inr (.inr (.inr (fun j => if j < n then (z_gr M t i j).map (z_addr B) else none))))
def z_oc (B : Nat) (M : z_M) (t i c : Nat) : List Value := (List.range (z_fn c)).map (fun j => z_fv B M t i j ((z_ftl.getD c []).getD j 9))
def z_cE (G : z_G) (M : z_M) (t i : Nat) : va_E := match z_ta t with
  | some (e, n) => .inl (G.2.1 e, n, z_ac G.2.2.1 M t i e n)
  | none => .inr ((z_co M t i).getD 0, z_oc G.2.2.1 M t i ((z_co M t i).getD 0))
def z_wl (G : z_G) (M : z_M) : va_W := (List.range (z_nc M)).map (fun k => (G.2.2.1 + k, z_cE G M (z_un k).1 (z_un k).2))
def z_tys (G : z_G) : List (ClassId × FieldType) := [(G.2.1 0, .int), (G.2.1 1, .long), (G.2.1 2, .object "ShareNets$Net"), (G.2.1 3, .object "ShareNets$Share"), (G.2.1 4, .object "ShareNets$Sheet")]
theorem z_lay1 : ∀ t, t < 64 → t ≠ 32 → ∀ i, i < z_cnt t → z_off t i < 102 ∧ z_un (z_off t i) = (t, i) := by decide +kernel
theorem z_lay2 : ∀ k, k < 102 → z_off (z_un k).1 (z_un k).2 = k ∧ (z_un k).1 < 64 := by decide +kernel
theorem z_cnt_out {t : Nat} (h : 64 ≤ t) : z_cnt t = 0 := by
  unfold z_cnt
  rw [List.getD_eq_getElem?_getD, List.getElem?_eq_none]
  · rfl
  · exact h
theorem z_un_out {k : Nat} (h : 102 ≤ k) : z_un k = (32, k - 102) := by
  unfold z_un
  have : Nat.blt k 102 = false := by
    cases hq : Nat.blt k 102 with
    | false => rfl
    | true => exact absurd (Nat.le_of_ble_eq_true hq) (by omega)
  rw [this]
  rfl
theorem z_un_lt (k : Nat) : (z_un k).1 < 64 := by
  by_cases h : k < 102
  · exact (z_lay2 k h).2
  · rw [z_un_out (by omega)]; exact Nat.le_of_ble_eq_true rfl
theorem z_off_un (k : Nat) : z_off (z_un k).1 (z_un k).2 = k := by
  by_cases h : k < 102
  · exact (z_lay2 k h).1
  · rw [z_un_out (by omega)]
    show 102 + (k - 102) = k
    omega
theorem z_beq_f {a b : Nat} (h : a ≠ b) : Nat.beq a b = false := by
  cases hq : Nat.beq a b with
  | false => rfl
  | true => exact absurd (Nat.eq_of_beq_eq_true hq) h
theorem z_g_off {M : z_M} {t i : Nat} (h : z_g M t i = true) : z_off t i < z_nc M ∧ z_un (z_off t i) = (t, i) ∧ t < 64 ∧ (t = 32 → M.1 = true ∧ i < M.2.1.1) := by
  unfold z_g at h
  by_cases ht : t = 32
  · subst ht
    have h : (M.1 && decide (i < M.2.1.1)) = true := h
    simp only [Bool.and_eq_true, decide_eq_true_eq] at h
    refine ⟨?_, ?_, by decide, fun _ => h⟩
    · unfold z_nc; rw [h.1]; show 102 + i < 102 + M.2.1.1; omega
    · show z_un (102 + i) = _
      rw [z_un_out (by omega)]
      congr 1
      omega
  · rw [z_beq_f ht] at h
    cases hM : M.1 with
    | false =>
      rw [hM] at h
      simp only [cond_false, Bool.and_eq_true, decide_eq_true_eq] at h
      refine ⟨by unfold z_nc; rw [hM]; exact h.1, h.2, ?_, fun q => absurd q ht⟩
      have := z_un_lt (z_off t i)
      rw [h.2] at this
      exact this
    | true =>
      rw [hM] at h
      have h1 : i < z_cnt t := by simpa using h
      by_cases h64 : t < 64
      · obtain ⟨a1, a2⟩ := z_lay1 t h64 ht i h1
        refine ⟨?_, a2, h64, fun q => absurd q ht⟩
        unfold z_nc; rw [hM]; show _ < 102 + _; omega
      · rw [z_cnt_out (by omega)] at h1
        omega
theorem z_wl_len (G : z_G) (M : z_M) : (z_wl G M).length = z_nc M := by simp [z_wl]
theorem z_wl_at (G : z_G) {M : z_M} {k : Nat} (h : k < z_nc M) : (z_wl G M)[k]? = some (G.2.2.1 + k, z_cE G M (z_un k).1 (z_un k).2) := by
  simp [z_wl, h]
theorem z_wl_get (G : z_G) {M : z_M} {t i : Nat} (h : z_g M t i = true) : (z_wl G M)[z_off t i]? = some (G.2.2.1 + z_off t i, z_cE G M t i) := by
  obtain ⟨h1, h2, -, -⟩ := z_g_off h
  rw [z_wl_at G h1, h2]
theorem z_wl_set (G : z_G) {M M' : z_M} {t i : Nat} (h : z_g M t i = true) (hn : z_nc M' = z_nc M) (hc : ∀ t' i', ¬ (t' = t ∧ i' = i) → z_cE G M' t' i' = z_cE G M t' i') : z_wl G M' = (z_wl G M).set (z_off t i) (G.2.2.1 + z_off t i, z_cE G M' t i) := by
  obtain ⟨h1, h2, -, -⟩ := z_g_off h
  apply List.ext_getElem?
  intro k
  by_cases hk : k < z_nc M
  · rw [z_wl_at G (by rw [hn]; exact hk)]
    by_cases e : k = z_off t i
    · subst e
      rw [List.getElem?_set_self (by rw [z_wl_len]; exact hk), h2]
    · rw [List.getElem?_set_ne (fun q => e q.symm), z_wl_at G hk, hc]
      rintro ⟨q1, q2⟩
      apply e
      rw [← z_off_un k, q1, q2]
  · rw [List.getElem?_eq_none (by rw [z_wl_len, hn]; omega), List.getElem?_eq_none (by rw [List.length_set, z_wl_len]; omega)]
theorem z_wl_push (G : z_G) {M M' : z_M} (hn : z_nc M' = z_nc M + 1) (hc : ∀ t' i', ¬ (t', i') = z_un (z_nc M) → z_cE G M' t' i' = z_cE G M t' i') : z_wl G M' = z_wl G M ++ [(G.2.2.1 + z_nc M, z_cE G M' (z_un (z_nc M)).1 (z_un (z_nc M)).2)] := by
  unfold z_wl
  rw [hn, List.range_succ, List.map_append]
  congr 1
  apply List.map_congr_left
  intro k hk
  rw [List.mem_range] at hk
  rw [hc]
  intro q
  have := congrArg (fun z => z_off z.1 z.2) q
  simp only [z_off_un] at this
  omega
theorem z_wl_D (G : z_G) (M : z_M) : va_D (z_A G.2.2.1) (z_wl G M) := by
  have key : ∀ (k : Nat) (q : Nat × va_E), (z_wl G M)[k]? = some q → q.1 = G.2.2.1 + k := by
    intro k q h
    have hk : k < z_nc M := by
      have := (List.getElem?_eq_some_iff.mp h).1
      rwa [z_wl_len] at this
    rw [z_wl_at G hk] at h
    cases h
    rfl
  refine ⟨fun i j p q hi hj e => ?_, fun k q h => ?_⟩
  · rw [key i p hi, key j q hj] at e
    omega
  · show G.2.2.1 ≤ q.1
    rw [key k q h]
    omega
/-- every share is of one of the four classes; references are to cells of ours -/
def z_kok (M : z_M) : Prop := (M.1 = true → ∀ i, i < M.2.1.1 → M.2.1.2.2.1 i ∈ ([0, 3, 5, 6] : List Nat)) ∧ ∀ t i j q, M.2.1.2.2.2 t i j = some q → q.1 < 64
theorem z_ft_lt : ∀ t, t < 64 → ∀ j, j < 64 → ∀ u, z_ft t j = some u → u < 64 := by
  have h : ∀ t, t < 64 → ∀ j, j < 64 → (match z_ft t j with | none => true | some u => decide (u < 64)) = true := by decide +kernel
  intro t ht j hj u hu
  have := h t ht j hj
  rw [hu] at this
  simpa using this
theorem z_ft_len : ∀ t, t < 64 → ((([[some 1, some 1, none, some 15, some 17, some 19, some 20, none, some 21, some 22, some 23, some 24, some 24, some 13, some 27, some 28, some 29], [some 2, some 3, some 4, some 11, some 12, none, none], [some 13, some 13, some 13, some 13], [], [some 5, some 6, none, some 7, some 8, some 9, some 10], [], [], [], [], [], [], [], [], [some 14, none], [], [some 13, none, some 16, none, none], [], [some 18, none, none], [], [], [], [some 30, some 30, some 30, some 30], [], [], [some 25, some 26], [], [], [], [], [], [some 31, none, none], [], [], [some 34, some 35, none, some 36, none, some 37, some 38, none, none, some 39, some 40, some 41, some 42, some 43, none, none, none, none, none, none, none, none, some 44, some 45, none, some 46, none, none, some 47, some 48, some 49, some 50, some 51, some 52, none, none, some 53, none, some 54, none, some 55, some 56, some 57, some 58, some 59, some 60, none, none, none, some 61, none, none, none, some 62, none, some 63], [], [], [], [], [], [], [], [], [], [], [], [], [], [], [], [], [], [], [], [], [], [], [], [], [], [], [], [], [], []] : List (List (Option Nat))).getD t []).length ≤ 64) := by decide +kernel
theorem z_fin_lt {t i j : Nat} {q : Nat × Nat} (h : z_fin t i j = some q) : q.1 < 64 := by
  unfold z_fin at h
  cases hu : z_ft t j with
  | none => rw [hu] at h; cases h
  | some u =>
    rw [hu] at h
    cases h
    show u < 64
    by_cases ht : t < 64
    · by_cases hj : j < 64
      · exact z_ft_lt t ht j hj u hu
      · unfold z_ft at hu
        rw [List.getD_eq_getElem?_getD (i := j), List.getElem?_eq_none (Nat.le_trans (z_ft_len t ht) (by omega))] at hu
        cases hu
    · unfold z_ft at hu
      rw [List.getD_eq_getElem?_getD (i := t), List.getElem?_eq_none (by exact Nat.le_of_not_lt ht)] at hu
      cases hu
theorem z_gr_lt {M : z_M} (hk : z_kok M) {t i j : Nat} {q : Nat × Nat} (h : z_gr M t i j = some q) : q.1 < 64 := by
  unfold z_gr at h
  cases hM : M.1 with
  | false => rw [hM] at h; exact hk.2 _ _ _ _ h
  | true =>
    rw [hM] at h
    cases hb : Nat.beq t 11 with
    | true => rw [hb] at h; exact hk.2 _ _ _ _ h
    | false => rw [hb] at h; exact z_fin_lt h
theorem z_rf_tv {G : z_G} {M : z_M} (hk : z_kok M) (t i j : Nat) : va_rf ((z_gr M t i j).map (z_addr G.2.2.1)) = z_tv G (z_rf (z_gr M t i j)) := by
  cases h : z_gr M t i j with
  | none => rfl
  | some q =>
    have h1 := z_gr_lt hk h
    show Value.ref (z_addr G.2.2.1 q) = z_tv G (Sum.inr (Sum.inr (Sum.inl q)))
    obtain ⟨a, b⟩ := q
    show _ = if a < 64 then _ else _
    rw [if_pos h1]
    rfl
theorem z_fv_tv {G : z_G} {M : z_M} (hk : z_kok M) (t i j : Nat) {ty : Nat} : z_fv G.2.2.1 M t i j ty = z_tv G (z_fg M t i j ty) := by
  unfold z_fv z_fg
  by_cases h1 : ty = 1
  · subst h1; rfl
  · rw [if_neg h1]
    have b1 : Nat.beq ty 1 = false := by
      cases hq : Nat.beq ty 1 with
      | false => rfl
      | true => exact absurd (Nat.eq_of_beq_eq_true hq) h1
    rw [b1]
    by_cases h2 : ty = 2
    · subst h2
      rw [if_pos rfl]
      exact z_rf_tv hk t i j
    · rw [if_neg h2]
      have b2 : Nat.beq ty 2 = false := by
        cases hq : Nat.beq ty 2 with
        | false => rfl
        | true => exact absurd (Nat.eq_of_beq_eq_true hq) h2
      rw [b2]
      rfl
