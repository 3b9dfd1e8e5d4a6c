/-! calls of both: prove, judge -/
/-- rows of the forms from i on, n of them looked at -/
def z_rwf (c : Nat → Nat) : Nat → Nat → List (Int32 × Int32)
  | _, 0 => []
  | i, n + 1 => if c i = 0 then z_rwf c (i + 1) n else (z_fm i, Int32.ofNat (c i)) :: z_rwf c (i + 1) n
theorem z_rwf_len (c : Nat → Nat) : ∀ n i, (z_rwf c i n).length ≤ n
  | 0, _ => Nat.le_refl _
  | n + 1, i => by
    show (if c i = 0 then z_rwf c (i + 1) n else _ :: z_rwf c (i + 1) n).length ≤ _
    have h := z_rwf_len c n (i + 1)
    split
    · omega
    · rw [List.length_cons]; omega
/-- how rows are judged -/
def z_jd (R : Nat → Int32 × Int32) (k : Nat) : List (Int32 × Int32) → Nat → Int32
  | [], p => if p < k then Int32.ofNat (p + 1) else 0
  | q :: M, p => if k ≤ p then 222 else if R p = q then z_jd R k M (p + 1) else Int32.ofNat (p + 1)
def z_pm04 (a b c : Nat) : Bool := (Nat.beq a 19 && Nat.beq b 0) || (Nat.beq a 20 && Nat.beq b 0) || (Nat.beq a 0 && Nat.beq b 0 && Nat.beq c 7)
def z_pm54 (a b c : Nat) : Bool := (Nat.beq a 54 && Nat.beq b 0) || (Nat.beq a 33 && Nat.beq b 0 && Nat.beq c 39)
theorem z_pm04_ag {I I' : Nat → Nat → Nat → Int32} (h : z_fr z_pm04 I I') : z_ag [0, 4] I I' := fun a b c hc => h a b c (by
  cases e : z_pm04 a b c with
  | false => rfl
  | true =>
    unfold z_pm04 at e
    simp only [Bool.or_eq_true, Bool.and_eq_true] at e
    rcases e with (e | e) | e
    · obtain rfl := Nat.eq_of_beq_eq_true e.1
      exact absurd hc (by show ¬ ([0, 4] : List Nat).contains 4 = false; decide)
    · obtain rfl := Nat.eq_of_beq_eq_true e.1
      exact absurd hc (by show ¬ ([0, 4] : List Nat).contains 4 = false; decide)
    · obtain rfl := Nat.eq_of_beq_eq_true e.1.1
      obtain rfl := Nat.eq_of_beq_eq_true e.2
      exact absurd hc (by show ¬ ([0, 4] : List Nat).contains 4 = false; decide))
theorem z_pm54_ag {I I' : Nat → Nat → Nat → Int32} (h : z_fr z_pm54 I I') : z_ag [0] I I' := fun a b c hc => h a b c (by
  cases e : z_pm54 a b c with
  | false => rfl
  | true =>
    unfold z_pm54 at e
    simp only [Bool.or_eq_true, Bool.and_eq_true] at e
    rcases e with e | e
    · obtain rfl := Nat.eq_of_beq_eq_true e.1
      exact absurd hc (by show ¬ ([0] : List Nat).contains 0 = false; decide)
    · obtain rfl := Nat.eq_of_beq_eq_true e.1.1
      obtain rfl := Nat.eq_of_beq_eq_true e.2
      exact absurd hc (by show ¬ ([0] : List Nat).contains 0 = false; decide))
section
variable {d : Nat} {X : z_X} {I : Nat → Nat → Nat → Int32} {J : Nat → Nat → Nat → Int64}
theorem z_l104 {k : Nat} {c : Nat → Nat} {M : List (Int32 × Int32)} (hk : k ≤ 4) (hc : ∀ i, c i ≤ 1000) (e25 : ∀ i, i < 11 → I 25 0 i = Int32.ofNat (c i)) (hM : M.length ≤ 11) (x1 : Int32) :
    ∀ j u, u + j = z_fon k → ∀ (P : List (Int32 × Int32)) I1, P ++ z_rwf c u j = M → I1 0 0 7 = Int32.ofNat P.length → (∀ j q, P[j]? = some q → I1 19 0 j = q.1 ∧ I1 20 0 j = q.2) → z_fr z_pm04 I I1 →
    ∃ I', z_ev (d + 16) (104, 43, [some (z_r 0 0), some (z_i x1), some (z_i (Int32.ofNat k)), some (z_i (Int32.ofNat u))], [], (true, X, I1, J)) (some (z_i (Int32.ofNat M.length)), (true, X, I', J)) ∧ I' 0 0 7 = Int32.ofNat M.length ∧ (∀ j q, M[j]? = some q → I' 19 0 j = q.1 ∧ I' 20 0 j = q.2) ∧ z_fr z_pm04 I I' := by
  obtain ⟨f1, f2⟩ := z_fo_nat k (by omega)
  intro j
  induction j with
  | zero =>
    intro u hu P I1 hP h7 hr hf
    rw [show z_rwf c u 0 = [] from rfl, List.append_nil] at hP
    subst hP
    refine ⟨I1, z_q104_43 _ _ _ ⟨fun _ => by rw [h7], fun h => ?_⟩, h7, hr, hf⟩
    rw [f1] at h
    exact absurd ((z_olt (by omega) (by omega)).mp h) (by omega)
  | succ j ih =>
    intro u hu P I1 hP h7 hr hf
    have e2 : z_rwf c u (j + 1) = if c u = 0 then z_rwf c (u + 1) j else (z_fm u, Int32.ofNat (c u)) :: z_rwf c (u + 1) j := rfl
    have g0 : ∀ {P : Prop}, z_fo (Int32.ofNat k) ≤ Int32.ofNat u → P := fun h => by
      rw [f1] at h
      exact absurd ((z_ole (by omega) (by omega)).mp h) (by omega)
    have e25' : I1 25 0 u = Int32.ofNat (c u) := by rw [z_fr_t hf 25 (fun _ _ => rfl)]; exact e25 u (by omega)
    have hcu := hc u
    by_cases h0 : c u = 0
    · rw [if_pos h0] at e2
      obtain ⟨I', c1, c2⟩ := ih (u + 1) (by omega) P I1 (by rw [← e2]; exact hP) h7 hr hf
      refine ⟨I', z_q104_43 _ _ _ ⟨fun h => g0 h, fun _ => ⟨u, rfl, by omega, fun _ => by rw [z_os]; exact c1, fun h => ?_⟩⟩, c2⟩
      rw [e25', h0] at h
      exact absurd h (by decide)
    · rw [if_neg h0] at e2
      have hPl : P.length < 11 := by
        have := congrArg List.length hP
        rw [e2, List.length_append, List.length_cons] at this
        omega
      obtain ⟨I2, hI2⟩ : ∃ I2, I2 = z_up (z_up (z_up I1 19 0 P.length (z_fm u)) 20 0 P.length (I1 25 0 u)) 0 0 7 (I1 0 0 7 + 1) := ⟨_, rfl⟩
      have q19 : ∀ j, I2 19 0 j = if j = P.length then z_fm u else I1 19 0 j := fun j => by
        rw [hI2, z_up_t (by decide), z_up_t (by decide)]
        by_cases h : j = P.length
        · rw [if_pos h, h, z_up_e]
        · rw [if_neg h, z_up_j h]
      have q20 : ∀ j, I2 20 0 j = if j = P.length then I1 25 0 u else I1 20 0 j := fun j => by
        rw [hI2, z_up_t (by decide)]
        by_cases h : j = P.length
        · rw [if_pos h, h, z_up_e]
        · rw [if_neg h, z_up_j h, z_up_t (by decide)]
      obtain ⟨I', c1, c2⟩ := ih (u + 1) (by omega) (P ++ [(z_fm u, Int32.ofNat (c u))]) I2 (by rw [List.append_assoc]; rw [← hP, e2]; rfl) (by rw [hI2, z_up_e, h7, z_os, List.length_append, List.length_singleton]) (fun j q hq => by
        by_cases hj : j < P.length
        · rw [List.getElem?_append_left hj] at hq
          rw [q19, q20, if_neg (by omega), if_neg (by omega)]
          exact hr j q hq
        · rw [List.getElem?_append_right (by omega)] at hq
          have hj2 := (List.getElem?_eq_some_iff.mp hq).1
          rw [List.length_singleton] at hj2
          obtain rfl : j = P.length := by omega
          rw [Nat.sub_self] at hq
          obtain rfl := Option.some.inj hq
          rw [q19, q20, if_pos rfl, if_pos rfl]
          exact ⟨rfl, e25'⟩) (by rw [hI2]; exact z_fr_up (z_fr_up (z_fr_up hf rfl) rfl) rfl)
      refine ⟨I', z_q104_43 _ _ _ ⟨fun h => g0 h, fun _ => ⟨u, rfl, by omega, fun h => ?_, fun _ => ⟨P.length, h7, hPl, ?_⟩⟩⟩, c2⟩
      · rw [e25'] at h
        have := (z_ole (b := 0) (by omega) (by decide)).mp h
        omega
      · rw [z_os]
        rw [hI2] at c1
        exact c1
theorem z_l243 (ht : z_Tb I) {n s k : Nat} {m : Nat → Nat} {M : List (Int32 × Int32)} (hn : n < 4) (hs : s ≤ 10) (hw : z_wfm s m) (e34 : I 34 0 n = Int32.ofNat s) (hr5 : ∀ p, p < 10 → I 35 0 (10 * n + p) = Int32.ofNat (m p)) (hk1 : 1 ≤ k) (hk : k ≤ 4) (hM : M.length ≤ 11) :
    ∀ j u, u + j = z_fon k → ∀ (o4 : Option z_V) (P : List (Int32 × Int32)) I1, P ++ z_rwf (z_cnf m s k) u j = M → I1 33 0 39 = Int32.ofNat P.length → (∀ j q, P[j]? = some q → I1 54 0 (2 * j) = q.1 ∧ I1 54 0 (2 * j + 1) = q.2) → z_fr z_pm54 I I1 →
    ∃ I', z_ev (d + 5) (243, 7, [some (z_r 33 0), some (z_i (Int32.ofNat n)), some (z_i (Int32.ofNat k)), some (z_i (Int32.ofNat u)), o4], [], (true, X, I1, J)) (none, (true, X, I', J)) ∧ I' 33 0 39 = Int32.ofNat M.length ∧ (∀ j q, M[j]? = some q → I' 54 0 (2 * j) = q.1 ∧ I' 54 0 (2 * j + 1) = q.2) ∧ z_fr z_pm54 I I' := by
  obtain ⟨f1, f2⟩ := z_fo_nat k (by omega)
  obtain ⟨t1, t2, t3⟩ := ht k hk1 hk
  intro j
  induction j with
  | zero =>
    intro u hu o4 P I1 hP h7 hr hf
    rw [show z_rwf (z_cnf m s k) u 0 = [] from rfl, List.append_nil] at hP
    subst hP
    refine ⟨I1, z_q243_7 _ _ _ o4 ⟨k, rfl, by omega, fun _ => rfl, fun h => ?_⟩, h7, hr, hf⟩
    rw [z_fr_t hf 42 (fun _ _ => rfl), t3] at h
    exact absurd ((z_olt (by omega) (by omega)).mp h) (by omega)
  | succ j ih =>
    intro u hu o4 P I1 hP h7 hr hf
    have e2 : z_rwf (z_cnf m s k) u (j + 1) = if z_cnf m s k u = 0 then z_rwf (z_cnf m s k) (u + 1) j else (z_fm u, Int32.ofNat (z_cnf m s k u)) :: z_rwf (z_cnf m s k) (u + 1) j := rfl
    have g0 : ∀ {P : Prop}, I1 42 0 k ≤ Int32.ofNat u → P := fun h => by
      rw [z_fr_t hf 42 (fun _ _ => rfl), t3] at h
      exact absurd ((z_ole (by omega) (by omega)).mp h) (by omega)
    have e41 : I1 41 0 (11 * k + u) = z_fm u := by rw [z_fr_t hf 41 (fun _ _ => rfl)]; exact t2 u (by omega)
    have hcu := z_cnf_le (show s < 11 by omega) (show k < 5 by omega) m u
    have h196 := z_p196 (d := d) (X := X) (J := J) (I := I1) (z_Tb_ag (z_pm54_ag hf) rfl ht) hn hs hw (by rw [z_fr_t hf 34 (fun _ _ => rfl)]; exact e34) (fun p hp => by rw [z_fr_t hf 35 (fun _ _ => rfl)]; exact hr5 p hp) hk1 hk (i := u) (by omega)
    by_cases h0 : z_cnf m s k u = 0
    · rw [if_pos h0] at e2
      obtain ⟨I', c1, c2⟩ := ih (u + 1) (by omega) (some (z_i (Int32.ofNat (z_cnf m s k u)))) P I1 (by rw [← e2]; exact hP) h7 hr hf
      refine ⟨I', z_q243_7 _ _ _ o4 ⟨k, rfl, by omega, fun h => g0 h, fun _ => ⟨11 * k + u, z_o11 k u, by omega, _, _, _, _, by rw [e41]; exact h196, fun _ => by rw [z_os]; exact c1, fun h => ?_⟩⟩, c2⟩
      rw [h0] at h
      exact absurd h (by decide)
    · rw [if_neg h0] at e2
      have hPl : P.length < 11 := by
        have := congrArg List.length hP
        rw [e2, List.length_append, List.length_cons] at this
        omega
      obtain ⟨I2, hI2⟩ : ∃ I2, I2 = z_up (z_up (z_up I1 54 0 (2 * P.length) (I1 41 0 (11 * k + u))) 54 0 (2 * P.length + 1) (Int32.ofNat (z_cnf m s k u))) 33 0 39 (I1 33 0 39 + 1) := ⟨_, rfl⟩
      obtain ⟨I', c1, c2⟩ := ih (u + 1) (by omega) (some (z_i (Int32.ofNat (z_cnf m s k u)))) (P ++ [(z_fm u, Int32.ofNat (z_cnf m s k u))]) I2 (by rw [List.append_assoc]; rw [← hP, e2]; rfl) (by rw [hI2, z_up_e, h7, z_os, List.length_append, List.length_singleton]) (fun j q hq => by
        by_cases hj : j < P.length
        · rw [List.getElem?_append_left hj] at hq
          rw [hI2, z_up_t (by decide), z_up_j (by omega), z_up_j (by omega), z_up_j (by omega), z_up_j (by omega)]
          exact hr j q hq
        · rw [List.getElem?_append_right (by omega)] at hq
          have hj2 := (List.getElem?_eq_some_iff.mp hq).1
          rw [List.length_singleton] at hj2
          obtain rfl : j = P.length := by omega
          rw [Nat.sub_self] at hq
          obtain rfl := Option.some.inj hq
          rw [hI2, z_up_t (by decide), z_up_j (by omega), z_up_e, z_up_e]
          exact ⟨e41, rfl⟩) (by rw [hI2]; exact z_fr_up (z_fr_up (z_fr_up hf rfl) rfl) rfl)
      refine ⟨I', z_q243_7 _ _ _ o4 ⟨k, rfl, by omega, fun h => g0 h, fun _ => ⟨11 * k + u, z_o11 k u, by omega, _, _, _, _, by rw [e41]; exact h196, fun h => ?_, fun _ => ⟨2 * P.length, by rw [h7]; exact (Int32.ofNat_mul 2 _).symm, by omega, 2 * P.length + 1, by rw [h7]; exact z_o2 _ 1, by omega, ?_⟩⟩⟩, c2⟩
      · have := (z_ole (b := 0) (by omega) (by decide)).mp h
        omega
      · rw [z_os]
        rw [hI2] at c1
        exact c1
theorem z_p243 (ht : z_Tb I) {n s k : Nat} {m : Nat → Nat} (hn : n < 4) (hs : s ≤ 10) (hw : z_wfm s m) (e34 : I 34 0 n = Int32.ofNat s) (hr5 : ∀ p, p < 10 → I 35 0 (10 * n + p) = Int32.ofNat (m p)) (hk1 : 1 ≤ k) (hk : k ≤ 4) :
    ∃ I', z_ev (d + 5) (z_en 243 [z_r 33 0, z_i (Int32.ofNat n), z_i (Int32.ofNat k)] (true, X, I, J)) (none, (true, X, I', J)) ∧ I' 33 0 39 = Int32.ofNat (z_rwf (z_cnf m s k) 0 (z_fon k)).length ∧ (∀ j q, (z_rwf (z_cnf m s k) 0 (z_fon k))[j]? = some q → I' 54 0 (2 * j) = q.1 ∧ I' 54 0 (2 * j + 1) = q.2) ∧ z_fr z_pm54 I I' := by
  have hM : (z_rwf (z_cnf m s k) 0 (z_fon k)).length ≤ 11 := Nat.le_trans (z_rwf_len _ _ _) (z_fon_le k hk)
  obtain ⟨I', c1, c2, c3, c4⟩ := z_l243 (d := d) (X := X) (J := J) (I := z_up I 33 0 39 0) (M := z_rwf (z_cnf m s k) 0 (z_fon k)) (z_Tb_ag (z_ag_up (cs := [0]) z_ag_rf rfl) rfl ht) hn hs hw (by rw [z_up_t (by decide)]; exact e34) (fun p hp => by rw [z_up_t (by decide)]; exact hr5 p hp) hk1 hk hM (z_fon k) 0 (by omega) none [] (z_up I 33 0 39 0) rfl (by rw [z_up_e]; rfl) (fun j q hq => by simp at hq) z_fr_rf
  exact ⟨I', z_q243_e _ _ c1, c2, c3, z_fr_tr (z_fr_up z_fr_rf rfl) c4⟩
theorem z_l244 {k : Nat} (hk : k ≤ 11) (x1 x2 : Int32) (e37 : I 33 0 37 = Int32.ofNat k) : z_ev (d + 6) (244, 34, [some (z_r 33 0), some (z_i x1), some (z_i x2), some (z_i 0)], [], (true, X, I, J)) (some (z_i (Int32.ofNat k)), (true, X, z_wo I 53 0 0 (2 * k) (I 54 0), J)) := by
  have e2 : (2 : Int32) * I 33 0 37 = Int32.ofNat (2 * k) := by rw [e37]; exact (Int32.ofNat_mul 2 k).symm
  have key : ∀ j u, u + j = 2 * k → z_ev (d + 6) (244, 34, [some (z_r 33 0), some (z_i x1), some (z_i x2), some (z_i (Int32.ofNat u))], [], (true, X, z_wo I 53 0 0 u (I 54 0), J)) (some (z_i (Int32.ofNat k)), (true, X, z_wo I 53 0 0 (2 * k) (I 54 0), J)) := by
    intro j
    induction j with
    | zero =>
      intro u hu
      obtain rfl : u = 2 * k := by omega
      refine z_q244_34 _ _ _ ⟨fun _ => by rw [z_wo_t (by decide), e37], fun h => ?_⟩
      rw [z_wo_t (by decide), e2] at h
      exact absurd ((z_olt (by omega) (by omega)).mp h) (by omega)
    | succ j ih =>
      intro u hu
      refine z_q244_34 _ _ _ ⟨fun h => ?_, fun _ => ⟨u, rfl, by omega, ?_⟩⟩
      · rw [z_wo_t (by decide), e2] at h
        exact absurd ((z_ole (by omega) (by omega)).mp h) (by omega)
      · rw [z_os, z_wo_t (by decide), z_wo_s0]
        exact ih (u + 1) (by omega)
  have h9 := key (2 * k) 0 (by omega)
  rw [z_wo_0] at h9
  exact h9
theorem z_l107 {k kk : Nat} {c : Nat → Nat} {R : Nat → Int32 × Int32} (hk : k ≤ 4) (hkk : kk ≤ 11) (hc : ∀ i, c i ≤ 1000) (e25 : ∀ i, i < 11 → I 25 0 i = Int32.ofNat (c i)) (e7 : I 0 0 7 = Int32.ofNat kk) (hR : ∀ j, j < kk → R j = (I 19 0 j, I 20 0 j)) (x1 : Int32) :
    ∀ j u, u + j = z_fon k → ∀ p, p ≤ kk → z_ev (d + 16) (107, 41, [some (z_r 0 0), some (z_i x1), some (z_i (Int32.ofNat k)), some (z_i (Int32.ofNat p)), some (z_i (Int32.ofNat u))], [], (true, X, I, J)) (some (z_i (z_jd R kk (z_rwf c u j) p)), (true, X, I, J)) := by
  obtain ⟨f1, f2⟩ := z_fo_nat k (by omega)
  intro j
  induction j with
  | zero =>
    intro u hu p hp
    refine z_q107_41 _ _ _ _ ⟨fun _ => ⟨fun h => ?_, fun h => ?_⟩, fun h => ?_⟩
    · rw [e7] at h
      have := (z_ole (by omega) (by omega)).mp h
      show (some (z_i (if p < kk then Int32.ofNat (p + 1) else 0)), _) = _
      rw [if_neg (by omega)]
    · rw [e7] at h
      have := (z_olt (by omega) (by omega)).mp h
      show (some (z_i (if p < kk then Int32.ofNat (p + 1) else 0)), _) = _
      rw [if_pos (by omega), z_os]
    · rw [f1] at h
      exact absurd ((z_olt (by omega) (by omega)).mp h) (by omega)
  | succ j ih =>
    intro u hu p hp
    have g0 : ∀ {P : Prop}, z_fo (Int32.ofNat k) ≤ Int32.ofNat u → P := fun h => by
      rw [f1] at h
      exact absurd ((z_ole (by omega) (by omega)).mp h) (by omega)
    have e2 : z_rwf c u (j + 1) = if c u = 0 then z_rwf c (u + 1) j else (z_fm u, Int32.ofNat (c u)) :: z_rwf c (u + 1) j := rfl
    have e25' := e25 u (by omega)
    have hcu := hc u
    by_cases h0 : c u = 0
    · rw [if_pos h0] at e2
      rw [e2]
      refine z_q107_41 _ _ _ _ ⟨fun h => g0 h, fun _ => ⟨u, rfl, by omega, fun h => ?_, fun _ => by rw [z_os]; exact ih (u + 1) (by omega) p hp⟩⟩
      rw [e25', h0] at h
      exact absurd rfl h
    · rw [if_neg h0] at e2
      rw [e2]
      have hne : ¬ I 25 0 u = 0 := by rw [e25']; exact fun q => h0 ((z_oeq (b := 0) (by omega) (by decide)).mp q)
      have eJ : z_jd R kk ((z_fm u, Int32.ofNat (c u)) :: z_rwf c (u + 1) j) p = if kk ≤ p then 222 else if R p = (z_fm u, Int32.ofNat (c u)) then z_jd R kk (z_rwf c (u + 1) j) (p + 1) else Int32.ofNat (p + 1) := rfl
      rw [eJ]
      by_cases hpk : kk ≤ p
      · rw [if_pos hpk]
        refine z_q107_41 _ _ _ _ ⟨fun h => g0 h, fun _ => ⟨u, rfl, by omega, fun _ => ⟨fun h => ?_, fun _ => rfl⟩, fun h => absurd h hne⟩⟩
        rw [e7] at h
        exact absurd ((z_olt (by omega) (by omega)).mp h) (by omega)
      · rw [if_neg hpk]
        have hRp := hR p (by omega)
        have q0 : ∀ {P : Prop}, I 0 0 7 ≤ Int32.ofNat p → P := fun h => by
          rw [e7] at h
          exact absurd ((z_ole (by omega) (by omega)).mp h) (by omega)
        by_cases hq : R p = (z_fm u, Int32.ofNat (c u))
        · rw [if_pos hq]
          rw [hRp] at hq
          have q1 : I 19 0 p = z_fm u := congrArg Prod.fst hq
          have q2 : I 20 0 p = I 25 0 u := (congrArg Prod.snd hq).trans e25'.symm
          exact z_q107_41 _ _ _ _ ⟨fun h => g0 h, fun _ => ⟨u, rfl, by omega, fun _ => ⟨fun _ => ⟨p, rfl, by omega, fun h => absurd q1 h, fun _ => ⟨fun _ => by rw [z_os, z_os]; exact ih (u + 1) (by omega) (p + 1) (by omega), fun h => absurd q2 h⟩⟩, fun h => q0 h⟩, fun h => absurd h hne⟩⟩
        · rw [if_neg hq]
          refine z_q107_41 _ _ _ _ ⟨fun h => g0 h, fun _ => ⟨u, rfl, by omega, fun _ => ⟨fun _ => ⟨p, rfl, by omega, fun _ => by rw [z_os], fun h1 => ⟨fun h2 => ?_, fun _ => by rw [z_os]⟩⟩, fun h => q0 h⟩, fun h => absurd h hne⟩⟩
          exfalso
          apply hq
          rw [hRp, ← e25', h2]
          rw [show I 19 0 p = z_fm u from h1]
theorem z_l248 {kk : Nat} {M : List (Int32 × Int32)} {R : Nat → Int32 × Int32} (hkk : kk ≤ 11) (hM : M.length ≤ 11) (e37 : I 33 0 37 = Int32.ofNat kk) (e39 : I 33 0 39 = Int32.ofNat M.length) (hR : ∀ j, j < kk → R j = (I 53 0 (2 * j), I 53 0 (2 * j + 1))) (hMm : ∀ j q, M[j]? = some q → I 54 0 (2 * j) = q.1 ∧ I 54 0 (2 * j + 1) = q.2) (x1 x2 : Int32) :
    ∀ j i, i + j = kk → i ≤ M.length → z_ev (d + 6) (248, 26, [some (z_r 33 0), some (z_i x1), some (z_i x2), some (z_i (Int32.ofNat i))], [], (true, X, I, J)) (some (z_i (z_jd R kk (M.drop i) i)), (true, X, I, J)) := by
  intro j
  induction j with
  | zero =>
    intro i hi him
    obtain rfl : i = kk := by omega
    refine z_q248_26 _ _ _ ⟨fun _ => ⟨fun h => ?_, fun h => ?_⟩, fun h => ?_⟩
    · rw [e37, e39] at h
      have := (z_ole (by omega) (by omega)).mp h
      rw [show M.drop i = [] from List.drop_eq_nil_of_le (by omega)]
      show (some (z_i (if i < i then Int32.ofNat (i + 1) else 0)), _) = _
      rw [if_neg (by omega)]
    · rw [e37, e39] at h
      have := (z_olt (by omega) (by omega)).mp h
      rw [List.drop_eq_getElem_cons this]
      show (some (z_i (if i ≤ i then (222 : Int32) else _)), _) = _
      rw [if_pos (Nat.le_refl _)]
    · rw [e37] at h
      exact absurd ((z_olt (by omega) (by omega)).mp h) (by omega)
  | succ j ih =>
    intro i hi him
    have g0 : ∀ {P : Prop}, I 33 0 37 ≤ Int32.ofNat i → P := fun h => by
      rw [e37] at h
      exact absurd ((z_ole (by omega) (by omega)).mp h) (by omega)
    by_cases hlt : i < M.length
    · have hget : M[i]? = some M[i] := List.getElem?_eq_getElem hlt
      obtain ⟨a1, a2⟩ := hMm i M[i] hget
      rw [List.drop_eq_getElem_cons hlt]
      have eJ : z_jd R kk (M[i] :: M.drop (i + 1)) i = if kk ≤ i then 222 else if R i = M[i] then z_jd R kk (M.drop (i + 1)) (i + 1) else Int32.ofNat (i + 1) := rfl
      rw [eJ, if_neg (by omega)]
      have hRi := hR i (by omega)
      have g1 : ∀ {P : Prop}, I 33 0 39 ≤ Int32.ofNat i → P := fun h => by
        rw [e39] at h
        exact absurd ((z_ole (by omega) (by omega)).mp h) (by omega)
      by_cases hq : R i = M[i]
      · rw [if_pos hq]
        rw [hRi] at hq
        have q1 : I 53 0 (2 * i) = I 54 0 (2 * i) := (congrArg Prod.fst hq).trans a1.symm
        have q2 : I 53 0 (2 * i + 1) = I 54 0 (2 * i + 1) := (congrArg Prod.snd hq).trans a2.symm
        exact z_q248_26 _ _ _ ⟨fun h => g0 h, fun _ => ⟨fun h => g1 h, fun _ => ⟨2 * i, (Int32.ofNat_mul 2 i).symm, by omega, fun h => absurd q1 h, fun _ => ⟨2 * i + 1, z_o2 i 1, by omega, fun _ => by rw [z_os]; exact ih (i + 1) (by omega) (by omega), fun h => absurd q2 h⟩⟩⟩⟩
      · rw [if_neg hq]
        refine z_q248_26 _ _ _ ⟨fun h => g0 h, fun _ => ⟨fun h => g1 h, fun _ => ⟨2 * i, (Int32.ofNat_mul 2 i).symm, by omega, fun _ => by rw [z_os], fun h1 => ⟨2 * i + 1, z_o2 i 1, by omega, fun h2 => ?_, fun _ => by rw [z_os]⟩⟩⟩⟩
        exfalso
        apply hq
        rw [hRi, h1, h2, a1, a2]
    · rw [show M.drop i = [] from List.drop_eq_nil_of_le (by omega)]
      show z_ev _ _ (some (z_i (if i < kk then Int32.ofNat (i + 1) else 0)), _)
      rw [if_pos (by omega)]
      refine z_q248_26 _ _ _ ⟨fun h => g0 h, fun _ => ⟨fun _ => by rw [z_os], fun h => ?_⟩⟩
      rw [e39] at h
      exact absurd ((z_olt (by omega) (by omega)).mp h) (by omega)
end
/-- promise 39 -/
theorem z_op_prove (x mm : Int32) : z_op 104 244 [z_i x, z_i mm] := by
  intro X I J hR
  have hR0 := hR
  obtain ⟨n1, r2, r3, r4, r5, r6, r7, r8⟩ := hR
  cases ha : z_bw x 0 3 with
  | false =>
    have fa : ∀ {P : Prop}, z_bw x 0 3 = true → P := fun h => by rw [ha] at h; cases h
    exact ⟨z_i (-1), X, X, I, I, J, J, z_q104_e (d := 44) x mm ⟨fun _ => rfl, fun h => fa h⟩, z_q244_e (d := 54) x mm ⟨fun _ => rfl, fun h => fa h⟩, hR0, Nat.le_succ _, Nat.le_add_right _ _, rfl⟩
  | true =>
    have fa : ∀ {P : Prop}, z_bw x 0 3 = false → P := fun h => by rw [ha] at h; cases h
    obtain ⟨n, hn, rfl⟩ := z_bw3 ha
    cases hb : z_bw mm 1 4 with
    | false =>
      have fb : ∀ {P : Prop}, z_bw mm 1 4 = true → P := fun h => by rw [hb] at h; cases h
      exact ⟨z_i (-1), X, X, I, I, J, J, z_q104_e (d := 44) _ mm ⟨fun h => fa h, fun _ => ⟨fun _ => rfl, fun h1 => ⟨fun h2 => fb (z_bw_t.mpr ⟨h1, h2⟩), fun _ => rfl⟩⟩⟩, z_q244_e (d := 54) _ mm ⟨fun h => fa h, fun _ => ⟨fun h => fb h, fun _ => rfl⟩⟩, hR0, Nat.le_succ _, Nat.le_add_right _ _, rfl⟩
    | true =>
      have fb : ∀ {P : Prop}, z_bw mm 1 4 = false → P := fun h => by rw [hb] at h; cases h
      obtain ⟨h1, h2⟩ := z_bw_t.mp hb
      obtain ⟨k, k1, k4, rfl⟩ := z_bw14 hb
      obtain ⟨s, m, g1, g2, g3, g4, g5, g6, g7⟩ := z_now_net n1 hn
      obtain ⟨I0, c1, c2, c3⟩ := z_p42 (d := 44) (X := X) (J := J) (I := I) (q := 0) (q1 := n) (by decide) (by omega) k4 g2 g3.1 g6 g4
      have hcl : ∀ i, z_cnf m s k i ≤ 1000 := fun i => Nat.le_trans (z_cnf_le (by omega) (by omega) m i) (by decide)
      obtain ⟨M, hM⟩ : ∃ M, M = z_rwf (z_cnf m s k) 0 (z_fon k) := ⟨_, rfl⟩
      have hMl : M.length ≤ 11 := by rw [hM]; exact Nat.le_trans (z_rwf_len _ _ _) (z_fon_le k k4)
      obtain ⟨I1, e1, e2, e3, e4⟩ := z_l104 (d := 44) (X := X) (J := J) (I := z_up I0 0 0 7 0) (k := k) (M := M) k4 hcl (by rw [z_up_t (by decide)]; exact c2) hMl (Int32.ofNat n) (z_fon k) 0 (by omega) [] (z_up I0 0 0 7 0) (by rw [hM]; rfl) (by rw [z_up_e]; rfl) (fun j q hq => by simp at hq) z_fr_rf
      have a1 : z_ag [0, 4] I I1 := z_ag_tr (z_ag_up (z_ag_mn (z_tq_ag c3) (fun c q => by simp at q ⊢; exact Or.inl q)) rfl) (z_pm04_ag e4)
      obtain ⟨I2, d1, d2, d3, d4⟩ := z_p243 (d := 54) (X := X) (J := J) (I := I1) (n := n) (s := s) (k := k) (m := m) (z_Tb_ag a1 rfl r8) hn g2 g3 (by rw [z_ag_t a1 34 (c := 1) (fun _ _ => rfl) rfl]; exact g5) (fun p hp => by rw [z_ag_t a1 35 (c := 1) (fun _ _ => rfl) rfl]; exact g7 p hp) k1 k4
      rw [← hM] at d2 d3
      have d5 := z_l244 (d := 54) (X := X) (J := J) (I := z_up I2 33 0 37 (I2 33 0 39)) (k := M.length) hMl (Int32.ofNat n) (Int32.ofNat k) (by rw [z_up_e, d2])
      obtain ⟨I3, hI3⟩ : ∃ I3, I3 = z_wo (z_up I2 33 0 37 (I2 33 0 39)) 53 0 0 (2 * M.length) ((z_up I2 33 0 37 (I2 33 0 39)) 54 0) := ⟨_, rfl⟩
      rw [← hI3] at d5
      have a3 : z_ag [0, 4] I I3 := by
        rw [hI3]
        exact z_ag_wo (z_ag_up (z_ag_tr a1 (z_ag_mn (z_pm54_ag d4) (fun c q => by simp at q ⊢; exact Or.inl q))) rfl) (fun _ => rfl)
      have t7 : I3 0 0 7 = I1 0 0 7 := by rw [hI3, z_wo_t (by decide), z_up_t (by decide), z_fr_t d4 0 (fun _ _ => rfl)]
      have t19 : I3 19 = I1 19 := by rw [hI3, z_wo_t (by decide), z_up_t (by decide), z_fr_t d4 19 (fun _ _ => rfl)]
      have t20 : I3 20 = I1 20 := by rw [hI3, z_wo_t (by decide), z_up_t (by decide), z_fr_t d4 20 (fun _ _ => rfl)]
      have t53 : ∀ j, j < 2 * M.length → I3 53 0 j = I2 54 0 j := fun j hj => by rw [hI3, z_wo_e0 hj, z_up_t (by decide)]
      refine ⟨z_i (Int32.ofNat M.length), X, X, I1, I3, J, J, z_q104_e (d := 44) _ _ ⟨fun h => fa h, fun _ => ⟨fun h => absurd h1 (Int32.not_le.mpr h), fun _ => ⟨fun _ => ⟨n, rfl, hn, _, _, _, c1, e1⟩, fun h => absurd h2 (Int32.not_le.mpr h)⟩⟩⟩, z_q244_e (d := 54) _ _ ⟨fun h => fa h, fun _ => ⟨fun _ => ⟨_, _, _, d1, d5⟩, fun h => fb h⟩⟩, ⟨z_now_ag a3 rfl rfl n1, z_Rk_ag a3 rfl rfl r2, z_Rt_ag a3 rfl r3, ⟨M.length, hMl, t7.trans e2, ?_, fun j hj => ?_⟩, z_Rh_ag a3 rfl rfl rfl r5, z_Rv_ag a3 rfl r6, z_Rx_ag a3 rfl r7, z_Tb_ag a3 rfl r8⟩, Nat.le_succ _, Nat.le_add_right _ _, z_67_ag a3 rfl⟩
      · rw [hI3, z_wo_t (by decide), z_up_e, d2]
      · have hget : M[j]? = some M[j] := List.getElem?_eq_getElem hj
        obtain ⟨p1, p2⟩ := e3 j _ hget
        obtain ⟨q1, q2⟩ := d3 j _ hget
        rw [t19, t20, t53 _ (by omega), t53 _ (by omega), p1, p2, q1, q2]
        exact ⟨rfl, rfl⟩
/-- promise 42 -/
theorem z_op_judge (x mm : Int32) : z_op 107 248 [z_i x, z_i mm] := by
  intro X I J hR
  have hR0 := hR
  obtain ⟨n1, r2, r3, r4, r5, r6, r7, r8⟩ := hR
  cases ha : z_bw x 0 3 with
  | false =>
    have fa : ∀ {P : Prop}, z_bw x 0 3 = true → P := fun h => by rw [ha] at h; cases h
    exact ⟨z_i (-1), X, X, I, I, J, J, z_q107_e (d := 44) x mm ⟨fun _ => rfl, fun h => fa h⟩, z_q248_e (d := 54) x mm ⟨fun _ => rfl, fun h => fa h⟩, hR0, Nat.le_succ _, Nat.le_add_right _ _, rfl⟩
  | true =>
    have fa : ∀ {P : Prop}, z_bw x 0 3 = false → P := fun h => by rw [ha] at h; cases h
    obtain ⟨n, hn, rfl⟩ := z_bw3 ha
    cases hb : z_bw mm 1 4 with
    | false =>
      have fb : ∀ {P : Prop}, z_bw mm 1 4 = true → P := fun h => by rw [hb] at h; cases h
      exact ⟨z_i (-1), X, X, I, I, J, J, z_q107_e (d := 44) _ mm ⟨fun h => fa h, fun _ => ⟨fun _ => rfl, fun h1 => ⟨fun h2 => fb (z_bw_t.mpr ⟨h1, h2⟩), fun _ => rfl⟩⟩⟩, z_q248_e (d := 54) _ mm ⟨fun h => fa h, fun _ => ⟨fun h => fb h, fun _ => rfl⟩⟩, hR0, Nat.le_succ _, Nat.le_add_right _ _, rfl⟩
    | true =>
      have fb : ∀ {P : Prop}, z_bw mm 1 4 = false → P := fun h => by rw [hb] at h; cases h
      obtain ⟨h1, h2⟩ := z_bw_t.mp hb
      obtain ⟨k, k1, k4, rfl⟩ := z_bw14 hb
      obtain ⟨s, m, g1, g2, g3, g4, g5, g6, g7⟩ := z_now_net n1 hn
      obtain ⟨I1, c1, c2, c3⟩ := z_p42 (d := 44) (X := X) (J := J) (I := I) (q := 0) (q1 := n) (by decide) (by omega) k4 g2 g3.1 g6 g4
      have a1 := z_tq_ag c3
      have hcl : ∀ i, z_cnf m s k i ≤ 1000 := fun i => Nat.le_trans (z_cnf_le (by omega) (by omega) m i) (by decide)
      obtain ⟨M, hM⟩ : ∃ M, M = z_rwf (z_cnf m s k) 0 (z_fon k) := ⟨_, rfl⟩
      have hMl : M.length ≤ 11 := by rw [hM]; exact Nat.le_trans (z_rwf_len _ _ _) (z_fon_le k k4)
      obtain ⟨kk, y1, y2, y3, y4⟩ := r4
      let R : Nat → Int32 × Int32 := fun j => (I 53 0 (2 * j), I 53 0 (2 * j + 1))
      have e1 := z_l107 (d := 44) (X := X) (J := J) (I := I1) (k := k) (kk := kk) (c := z_cnf m s k) (R := R) k4 y1 hcl c2 (by rw [z_fr_t c3 0 (fun _ _ => rfl)]; exact y2) (fun j hj => by rw [z_fr_t c3 19 (fun _ _ => rfl), z_fr_t c3 20 (fun _ _ => rfl), (y4 j hj).1, (y4 j hj).2]) (Int32.ofNat n) (z_fon k) 0 (by omega) 0 (by omega)
      rw [← hM] at e1
      obtain ⟨I2, d1, d2, d3, d4⟩ := z_p243 (d := 54) (X := X) (J := J) (I := I1) (n := n) (s := s) (k := k) (m := m) (z_Tb_ag a1 rfl r8) hn g2 g3 (by rw [z_fr_t c3 34 (fun _ _ => rfl)]; exact g5) (fun p hp => by rw [z_fr_t c3 35 (fun _ _ => rfl)]; exact g7 p hp) k1 k4
      rw [← hM] at d2 d3
      have t37 : I2 33 0 37 = Int32.ofNat kk := by
        rw [z_ag_p (z_pm54_ag d4) 33 0 37 (c := 4) rfl rfl, z_fr_t c3 33 (fun _ _ => rfl)]; exact y3
      have t53 : I2 53 = I 53 := by rw [z_fr_t d4 53 (fun _ _ => rfl), z_fr_t c3 53 (fun _ _ => rfl)]
      have d5 := z_l248 (d := 54) (X := X) (J := J) (I := I2) (kk := kk) (M := M) (R := R) y1 hMl t37 d2 (fun j hj => by rw [t53]) d3 (Int32.ofNat n) (Int32.ofNat k) kk 0 (by omega) (by omega)
      rw [List.drop_zero] at d5
      have hw := z_ag_tr a1 (z_pm54_ag d4)
      exact ⟨_, X, X, I1, I2, J, J, z_q107_e (d := 44) _ _ ⟨fun h => fa h, fun _ => ⟨fun h => absurd h1 (Int32.not_le.mpr h), fun _ => ⟨fun _ => ⟨n, rfl, hn, _, _, _, c1, e1⟩, fun h => absurd h2 (Int32.not_le.mpr h)⟩⟩⟩, z_q248_e (d := 54) _ _ ⟨fun h => fa h, fun _ => ⟨fun _ => ⟨_, _, _, d1, d5⟩, fun h => fb h⟩⟩, z_R_0 hR0 hw rfl rfl, Nat.le_succ _, Nat.le_add_right _ _, z_67_ag hw rfl⟩
