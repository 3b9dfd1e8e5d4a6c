/-! keep, again: rows that are moved; printed by wip/whole/emit_kep.py -/
theorem z_up_id {α : Type} {f : Nat → Nat → Nat → α} {t i j : Nat} {v : α} (h : f t i j = v) : z_up f t i j v = f := by
  funext a b c
  unfold z_up
  split
  · next e =>
    obtain ⟨rfl, rfl, rfl⟩ := e
    exact h.symm
  · rfl
theorem z_up_sw {α : Type} {f : Nat → Nat → Nat → α} {t i j t' i' j' : Nat} {a b v : α} (h : t' ≠ t) : z_up (z_up (z_up f t i j a) t' i' j' v) t i j b = z_up (z_up f t' i' j' v) t i j b := by
  funext x y z
  unfold z_up
  by_cases h1 : x = t ∧ y = i ∧ z = j
  · rw [if_pos h1, if_pos h1]
  · rw [if_neg h1, if_neg h1]
    by_cases h2 : x = t' ∧ y = i' ∧ z = j'
    · rw [if_pos h2, if_neg h1]
    · rw [if_neg h2, if_neg h1]
def z_mk (I : Nat → Nat → Nat → Int32) (t o n : Nat) : Nat → Nat → Nat → Int32 := z_up (z_wo I 62 0 o n (I t 0)) 33 0 54 (Int32.ofNat (o + n))
def z_ma (I : Nat → Nat → Nat → Int32) (t o n : Nat) : Nat → Nat → Nat → Int32 := z_up (z_wo I t 0 0 n (fun j => I 62 0 (o + j))) 33 0 54 (Int32.ofNat (o + n))
theorem z_mk_at {I : Nat → Nat → Nat → Int32} {t o n j : Nat} (hj : j < n) : z_mk I t o n 62 0 (o + j) = I t 0 j := by
  unfold z_mk
  rw [z_up_t (by decide), z_wo_e hj]
theorem z_mk_lo {I : Nat → Nat → Nat → Int32} {t o n c : Nat} (hc : c < o) : z_mk I t o n 62 0 c = I 62 0 c := by
  unfold z_mk
  rw [z_up_t (by decide), z_wo_j (by omega)]
theorem z_mk_t {I : Nat → Nat → Nat → Int32} {t o n a : Nat} (h1 : a ≠ 62) (h2 : a ≠ 33) : z_mk I t o n a = I a := by
  unfold z_mk
  rw [z_up_t h2, z_wo_t h1]
theorem z_mk_33 {I : Nat → Nat → Nat → Int32} {t o n j : Nat} (h1 : j ≠ 54) : z_mk I t o n 33 0 j = I 33 0 j := by
  unfold z_mk
  rw [z_up_j h1, z_wo_t (by decide)]
theorem z_mk_54 {I : Nat → Nat → Nat → Int32} {t o n : Nat} : z_mk I t o n 33 0 54 = Int32.ofNat (o + n) := by
  unfold z_mk
  rw [z_up_e]
theorem z_ma_at {I : Nat → Nat → Nat → Int32} {t o n j : Nat} (ht : t ≠ 33) (hj : j < n) : z_ma I t o n t 0 j = I 62 0 (o + j) := by
  unfold z_ma
  rw [z_up_t ht, z_wo_e0 hj]
theorem z_ma_t {I : Nat → Nat → Nat → Int32} {t o n a : Nat} (h1 : a ≠ t) (h2 : a ≠ 33) : z_ma I t o n a = I a := by
  unfold z_ma
  rw [z_up_t h2, z_wo_t h1]
theorem z_ma_33 {I : Nat → Nat → Nat → Int32} {t o n j : Nat} (ht : t ≠ 33) (h1 : j ≠ 54) : z_ma I t o n 33 0 j = I 33 0 j := by
  unfold z_ma
  rw [z_up_j h1, z_wo_t (fun q => ht q.symm)]
theorem z_ma_54 {I : Nat → Nat → Nat → Int32} {t o n : Nat} : z_ma I t o n 33 0 54 = Int32.ofNat (o + n) := by
  unfold z_ma
  rw [z_up_e]
theorem z_mk_ag {cs : List Nat} {I0 I : Nat → Nat → Nat → Int32} {t o n : Nat} (h : z_ag cs I0 I) (h0 : cs.contains 0 = true) (h2 : cs.contains 2 = true) : z_ag cs I0 (z_mk I t o n) := z_ag_up (z_ag_wo h (fun _ => h2)) h0
theorem z_ma_ag {cs : List Nat} {I0 I : Nat → Nat → Nat → Int32} {t o n : Nat} (h : z_ag cs I0 I) (h0 : cs.contains 0 = true) (ht : ∀ j, cs.contains (z_cp t 0 j) = true) : z_ag cs I0 (z_ma I t o n) := z_ag_up (z_ag_wo h ht) h0
section
variable {d : Nat} {X : z_X} {I : Nat → Nat → Nat → Int32} {J : Nat → Nat → Nat → Int64}
theorem z_p271k_63 {o : Nat} (ho : o + 4 ≤ 120) (e : I 33 0 54 = Int32.ofNat o) : z_ev d (z_en 271 [z_r 33 0, z_r 63 0, z_i 4, z_i (z_c true)] (true, X, I, J)) (none, (true, X, z_mk I 63 o 4, J)) := by
  have key : ∀ j k, k + j = 4 → z_ev d (271, 3, [some (z_r 33 0), some (z_r 63 0), some (z_i 4), some (z_i (z_c true)), some (z_i (Int32.ofNat k))], [], (true, X, z_mk I 63 o k, J)) (none, (true, X, z_mk I 63 o 4, J)) := by
    intro j
    induction j with
    | zero =>
      intro k hk
      obtain rfl : k = 4 := by omega
      exact z_q271_3_63 _ true _ ⟨fun _ => rfl, fun h => absurd ((z_olt (b := 4) (by omega) (by decide)).mp h) (by omega)⟩
    | succ j ih =>
      intro k hk
      refine z_q271_3_63 _ true _ ⟨fun h => absurd ((z_ole (a := 4) (by decide) (by omega)).mp h) (by omega), fun _ => ⟨fun h => (by cases h), fun _ => ⟨k, rfl, by omega, o + k, z_mk_54, by omega, ?_⟩⟩⟩
      have h9 := ih (k + 1) (by omega)
      rw [z_os, z_mk_54, z_os, z_mk_t (by decide) (by decide)]
      unfold z_mk at h9 ⊢
      rw [z_up_sw (by decide), z_wo_s _ _ _ _ _ (I 63 0)]
      exact h9
  have h0 := key 4 0 rfl
  have e0 : z_mk I 63 o 0 = I := by
    unfold z_mk
    rw [z_wo_0, Nat.add_zero]
    exact z_up_id e
  rw [e0] at h0
  exact z_q271_e_63 _ true h0
theorem z_p271a_63 {o : Nat} (ho : o + 4 ≤ 120) (e : I 33 0 54 = Int32.ofNat o) : z_ev d (z_en 271 [z_r 33 0, z_r 63 0, z_i 4, z_i (z_c false)] (true, X, I, J)) (none, (true, X, z_ma I 63 o 4, J)) := by
  have key : ∀ j k, k + j = 4 → z_ev d (271, 3, [some (z_r 33 0), some (z_r 63 0), some (z_i 4), some (z_i (z_c false)), some (z_i (Int32.ofNat k))], [], (true, X, z_ma I 63 o k, J)) (none, (true, X, z_ma I 63 o 4, J)) := by
    intro j
    induction j with
    | zero =>
      intro k hk
      obtain rfl : k = 4 := by omega
      exact z_q271_3_63 _ false _ ⟨fun _ => rfl, fun h => absurd ((z_olt (b := 4) (by omega) (by decide)).mp h) (by omega)⟩
    | succ j ih =>
      intro k hk
      refine z_q271_3_63 _ false _ ⟨fun h => absurd ((z_ole (a := 4) (by decide) (by omega)).mp h) (by omega), fun _ => ⟨fun _ => ⟨o + k, z_ma_54, by omega, k, rfl, by omega, ?_⟩, fun h => (by cases h)⟩⟩
      have h9 := ih (k + 1) (by omega)
      rw [z_os, z_ma_54, z_os, z_ma_t (by decide) (by decide)]
      unfold z_ma at h9 ⊢
      rw [z_up_sw (by decide), z_wo_s0 _ _ _ _ (fun j => I 62 0 (o + j))]
      exact h9
  have h0 := key 4 0 rfl
  have e0 : z_ma I 63 o 0 = I := by
    unfold z_ma
    rw [z_wo_0, Nat.add_zero]
    exact z_up_id e
  rw [e0] at h0
  exact z_q271_e_63 _ false h0
theorem z_p271k_34 {o : Nat} (ho : o + 4 ≤ 120) (e : I 33 0 54 = Int32.ofNat o) : z_ev d (z_en 271 [z_r 33 0, z_r 34 0, z_i 4, z_i (z_c true)] (true, X, I, J)) (none, (true, X, z_mk I 34 o 4, J)) := by
  have key : ∀ j k, k + j = 4 → z_ev d (271, 3, [some (z_r 33 0), some (z_r 34 0), some (z_i 4), some (z_i (z_c true)), some (z_i (Int32.ofNat k))], [], (true, X, z_mk I 34 o k, J)) (none, (true, X, z_mk I 34 o 4, J)) := by
    intro j
    induction j with
    | zero =>
      intro k hk
      obtain rfl : k = 4 := by omega
      exact z_q271_3_34 _ true _ ⟨fun _ => rfl, fun h => absurd ((z_olt (b := 4) (by omega) (by decide)).mp h) (by omega)⟩
    | succ j ih =>
      intro k hk
      refine z_q271_3_34 _ true _ ⟨fun h => absurd ((z_ole (a := 4) (by decide) (by omega)).mp h) (by omega), fun _ => ⟨fun h => (by cases h), fun _ => ⟨k, rfl, by omega, o + k, z_mk_54, by omega, ?_⟩⟩⟩
      have h9 := ih (k + 1) (by omega)
      rw [z_os, z_mk_54, z_os, z_mk_t (by decide) (by decide)]
      unfold z_mk at h9 ⊢
      rw [z_up_sw (by decide), z_wo_s _ _ _ _ _ (I 34 0)]
      exact h9
  have h0 := key 4 0 rfl
  have e0 : z_mk I 34 o 0 = I := by
    unfold z_mk
    rw [z_wo_0, Nat.add_zero]
    exact z_up_id e
  rw [e0] at h0
  exact z_q271_e_34 _ true h0
theorem z_p271a_34 {o : Nat} (ho : o + 4 ≤ 120) (e : I 33 0 54 = Int32.ofNat o) : z_ev d (z_en 271 [z_r 33 0, z_r 34 0, z_i 4, z_i (z_c false)] (true, X, I, J)) (none, (true, X, z_ma I 34 o 4, J)) := by
  have key : ∀ j k, k + j = 4 → z_ev d (271, 3, [some (z_r 33 0), some (z_r 34 0), some (z_i 4), some (z_i (z_c false)), some (z_i (Int32.ofNat k))], [], (true, X, z_ma I 34 o k, J)) (none, (true, X, z_ma I 34 o 4, J)) := by
    intro j
    induction j with
    | zero =>
      intro k hk
      obtain rfl : k = 4 := by omega
      exact z_q271_3_34 _ false _ ⟨fun _ => rfl, fun h => absurd ((z_olt (b := 4) (by omega) (by decide)).mp h) (by omega)⟩
    | succ j ih =>
      intro k hk
      refine z_q271_3_34 _ false _ ⟨fun h => absurd ((z_ole (a := 4) (by decide) (by omega)).mp h) (by omega), fun _ => ⟨fun _ => ⟨o + k, z_ma_54, by omega, k, rfl, by omega, ?_⟩, fun h => (by cases h)⟩⟩
      have h9 := ih (k + 1) (by omega)
      rw [z_os, z_ma_54, z_os, z_ma_t (by decide) (by decide)]
      unfold z_ma at h9 ⊢
      rw [z_up_sw (by decide), z_wo_s0 _ _ _ _ (fun j => I 62 0 (o + j))]
      exact h9
  have h0 := key 4 0 rfl
  have e0 : z_ma I 34 o 0 = I := by
    unfold z_ma
    rw [z_wo_0, Nat.add_zero]
    exact z_up_id e
  rw [e0] at h0
  exact z_q271_e_34 _ false h0
theorem z_p271k_35 {o : Nat} (ho : o + 40 ≤ 120) (e : I 33 0 54 = Int32.ofNat o) : z_ev d (z_en 271 [z_r 33 0, z_r 35 0, z_i 40, z_i (z_c true)] (true, X, I, J)) (none, (true, X, z_mk I 35 o 40, J)) := by
  have key : ∀ j k, k + j = 40 → z_ev d (271, 3, [some (z_r 33 0), some (z_r 35 0), some (z_i 40), some (z_i (z_c true)), some (z_i (Int32.ofNat k))], [], (true, X, z_mk I 35 o k, J)) (none, (true, X, z_mk I 35 o 40, J)) := by
    intro j
    induction j with
    | zero =>
      intro k hk
      obtain rfl : k = 40 := by omega
      exact z_q271_3_35 _ true _ ⟨fun _ => rfl, fun h => absurd ((z_olt (b := 40) (by omega) (by decide)).mp h) (by omega)⟩
    | succ j ih =>
      intro k hk
      refine z_q271_3_35 _ true _ ⟨fun h => absurd ((z_ole (a := 40) (by decide) (by omega)).mp h) (by omega), fun _ => ⟨fun h => (by cases h), fun _ => ⟨k, rfl, by omega, o + k, z_mk_54, by omega, ?_⟩⟩⟩
      have h9 := ih (k + 1) (by omega)
      rw [z_os, z_mk_54, z_os, z_mk_t (by decide) (by decide)]
      unfold z_mk at h9 ⊢
      rw [z_up_sw (by decide), z_wo_s _ _ _ _ _ (I 35 0)]
      exact h9
  have h0 := key 40 0 rfl
  have e0 : z_mk I 35 o 0 = I := by
    unfold z_mk
    rw [z_wo_0, Nat.add_zero]
    exact z_up_id e
  rw [e0] at h0
  exact z_q271_e_35 _ true h0
theorem z_p271a_35 {o : Nat} (ho : o + 40 ≤ 120) (e : I 33 0 54 = Int32.ofNat o) : z_ev d (z_en 271 [z_r 33 0, z_r 35 0, z_i 40, z_i (z_c false)] (true, X, I, J)) (none, (true, X, z_ma I 35 o 40, J)) := by
  have key : ∀ j k, k + j = 40 → z_ev d (271, 3, [some (z_r 33 0), some (z_r 35 0), some (z_i 40), some (z_i (z_c false)), some (z_i (Int32.ofNat k))], [], (true, X, z_ma I 35 o k, J)) (none, (true, X, z_ma I 35 o 40, J)) := by
    intro j
    induction j with
    | zero =>
      intro k hk
      obtain rfl : k = 40 := by omega
      exact z_q271_3_35 _ false _ ⟨fun _ => rfl, fun h => absurd ((z_olt (b := 40) (by omega) (by decide)).mp h) (by omega)⟩
    | succ j ih =>
      intro k hk
      refine z_q271_3_35 _ false _ ⟨fun h => absurd ((z_ole (a := 40) (by decide) (by omega)).mp h) (by omega), fun _ => ⟨fun _ => ⟨o + k, z_ma_54, by omega, k, rfl, by omega, ?_⟩, fun h => (by cases h)⟩⟩
      have h9 := ih (k + 1) (by omega)
      rw [z_os, z_ma_54, z_os, z_ma_t (by decide) (by decide)]
      unfold z_ma at h9 ⊢
      rw [z_up_sw (by decide), z_wo_s0 _ _ _ _ (fun j => I 62 0 (o + j))]
      exact h9
  have h0 := key 40 0 rfl
  have e0 : z_ma I 35 o 0 = I := by
    unfold z_ma
    rw [z_wo_0, Nat.add_zero]
    exact z_up_id e
  rw [e0] at h0
  exact z_q271_e_35 _ false h0
theorem z_p271k_36 {o : Nat} (ho : o + 8 ≤ 120) (e : I 33 0 54 = Int32.ofNat o) : z_ev d (z_en 271 [z_r 33 0, z_r 36 0, z_i 8, z_i (z_c true)] (true, X, I, J)) (none, (true, X, z_mk I 36 o 8, J)) := by
  have key : ∀ j k, k + j = 8 → z_ev d (271, 3, [some (z_r 33 0), some (z_r 36 0), some (z_i 8), some (z_i (z_c true)), some (z_i (Int32.ofNat k))], [], (true, X, z_mk I 36 o k, J)) (none, (true, X, z_mk I 36 o 8, J)) := by
    intro j
    induction j with
    | zero =>
      intro k hk
      obtain rfl : k = 8 := by omega
      exact z_q271_3_36 _ true _ ⟨fun _ => rfl, fun h => absurd ((z_olt (b := 8) (by omega) (by decide)).mp h) (by omega)⟩
    | succ j ih =>
      intro k hk
      refine z_q271_3_36 _ true _ ⟨fun h => absurd ((z_ole (a := 8) (by decide) (by omega)).mp h) (by omega), fun _ => ⟨fun h => (by cases h), fun _ => ⟨k, rfl, by omega, o + k, z_mk_54, by omega, ?_⟩⟩⟩
      have h9 := ih (k + 1) (by omega)
      rw [z_os, z_mk_54, z_os, z_mk_t (by decide) (by decide)]
      unfold z_mk at h9 ⊢
      rw [z_up_sw (by decide), z_wo_s _ _ _ _ _ (I 36 0)]
      exact h9
  have h0 := key 8 0 rfl
  have e0 : z_mk I 36 o 0 = I := by
    unfold z_mk
    rw [z_wo_0, Nat.add_zero]
    exact z_up_id e
  rw [e0] at h0
  exact z_q271_e_36 _ true h0
theorem z_p271a_36 {o : Nat} (ho : o + 8 ≤ 120) (e : I 33 0 54 = Int32.ofNat o) : z_ev d (z_en 271 [z_r 33 0, z_r 36 0, z_i 8, z_i (z_c false)] (true, X, I, J)) (none, (true, X, z_ma I 36 o 8, J)) := by
  have key : ∀ j k, k + j = 8 → z_ev d (271, 3, [some (z_r 33 0), some (z_r 36 0), some (z_i 8), some (z_i (z_c false)), some (z_i (Int32.ofNat k))], [], (true, X, z_ma I 36 o k, J)) (none, (true, X, z_ma I 36 o 8, J)) := by
    intro j
    induction j with
    | zero =>
      intro k hk
      obtain rfl : k = 8 := by omega
      exact z_q271_3_36 _ false _ ⟨fun _ => rfl, fun h => absurd ((z_olt (b := 8) (by omega) (by decide)).mp h) (by omega)⟩
    | succ j ih =>
      intro k hk
      refine z_q271_3_36 _ false _ ⟨fun h => absurd ((z_ole (a := 8) (by decide) (by omega)).mp h) (by omega), fun _ => ⟨fun _ => ⟨o + k, z_ma_54, by omega, k, rfl, by omega, ?_⟩, fun h => (by cases h)⟩⟩
      have h9 := ih (k + 1) (by omega)
      rw [z_os, z_ma_54, z_os, z_ma_t (by decide) (by decide)]
      unfold z_ma at h9 ⊢
      rw [z_up_sw (by decide), z_wo_s0 _ _ _ _ (fun j => I 62 0 (o + j))]
      exact h9
  have h0 := key 8 0 rfl
  have e0 : z_ma I 36 o 0 = I := by
    unfold z_ma
    rw [z_wo_0, Nat.add_zero]
    exact z_up_id e
  rw [e0] at h0
  exact z_q271_e_36 _ false h0
theorem z_p271k_37 {o : Nat} (ho : o + 5 ≤ 120) (e : I 33 0 54 = Int32.ofNat o) : z_ev d (z_en 271 [z_r 33 0, z_r 37 0, z_i 5, z_i (z_c true)] (true, X, I, J)) (none, (true, X, z_mk I 37 o 5, J)) := by
  have key : ∀ j k, k + j = 5 → z_ev d (271, 3, [some (z_r 33 0), some (z_r 37 0), some (z_i 5), some (z_i (z_c true)), some (z_i (Int32.ofNat k))], [], (true, X, z_mk I 37 o k, J)) (none, (true, X, z_mk I 37 o 5, J)) := by
    intro j
    induction j with
    | zero =>
      intro k hk
      obtain rfl : k = 5 := by omega
      exact z_q271_3_37 _ true _ ⟨fun _ => rfl, fun h => absurd ((z_olt (b := 5) (by omega) (by decide)).mp h) (by omega)⟩
    | succ j ih =>
      intro k hk
      refine z_q271_3_37 _ true _ ⟨fun h => absurd ((z_ole (a := 5) (by decide) (by omega)).mp h) (by omega), fun _ => ⟨fun h => (by cases h), fun _ => ⟨k, rfl, by omega, o + k, z_mk_54, by omega, ?_⟩⟩⟩
      have h9 := ih (k + 1) (by omega)
      rw [z_os, z_mk_54, z_os, z_mk_t (by decide) (by decide)]
      unfold z_mk at h9 ⊢
      rw [z_up_sw (by decide), z_wo_s _ _ _ _ _ (I 37 0)]
      exact h9
  have h0 := key 5 0 rfl
  have e0 : z_mk I 37 o 0 = I := by
    unfold z_mk
    rw [z_wo_0, Nat.add_zero]
    exact z_up_id e
  rw [e0] at h0
  exact z_q271_e_37 _ true h0
theorem z_p271a_37 {o : Nat} (ho : o + 5 ≤ 120) (e : I 33 0 54 = Int32.ofNat o) : z_ev d (z_en 271 [z_r 33 0, z_r 37 0, z_i 5, z_i (z_c false)] (true, X, I, J)) (none, (true, X, z_ma I 37 o 5, J)) := by
  have key : ∀ j k, k + j = 5 → z_ev d (271, 3, [some (z_r 33 0), some (z_r 37 0), some (z_i 5), some (z_i (z_c false)), some (z_i (Int32.ofNat k))], [], (true, X, z_ma I 37 o k, J)) (none, (true, X, z_ma I 37 o 5, J)) := by
    intro j
    induction j with
    | zero =>
      intro k hk
      obtain rfl : k = 5 := by omega
      exact z_q271_3_37 _ false _ ⟨fun _ => rfl, fun h => absurd ((z_olt (b := 5) (by omega) (by decide)).mp h) (by omega)⟩
    | succ j ih =>
      intro k hk
      refine z_q271_3_37 _ false _ ⟨fun h => absurd ((z_ole (a := 5) (by decide) (by omega)).mp h) (by omega), fun _ => ⟨fun _ => ⟨o + k, z_ma_54, by omega, k, rfl, by omega, ?_⟩, fun h => (by cases h)⟩⟩
      have h9 := ih (k + 1) (by omega)
      rw [z_os, z_ma_54, z_os, z_ma_t (by decide) (by decide)]
      unfold z_ma at h9 ⊢
      rw [z_up_sw (by decide), z_wo_s0 _ _ _ _ (fun j => I 62 0 (o + j))]
      exact h9
  have h0 := key 5 0 rfl
  have e0 : z_ma I 37 o 0 = I := by
    unfold z_ma
    rw [z_wo_0, Nat.add_zero]
    exact z_up_id e
  rw [e0] at h0
  exact z_q271_e_37 _ false h0
theorem z_p271k_38 {o : Nat} (ho : o + 25 ≤ 120) (e : I 33 0 54 = Int32.ofNat o) : z_ev d (z_en 271 [z_r 33 0, z_r 38 0, z_i 25, z_i (z_c true)] (true, X, I, J)) (none, (true, X, z_mk I 38 o 25, J)) := by
  have key : ∀ j k, k + j = 25 → z_ev d (271, 3, [some (z_r 33 0), some (z_r 38 0), some (z_i 25), some (z_i (z_c true)), some (z_i (Int32.ofNat k))], [], (true, X, z_mk I 38 o k, J)) (none, (true, X, z_mk I 38 o 25, J)) := by
    intro j
    induction j with
    | zero =>
      intro k hk
      obtain rfl : k = 25 := by omega
      exact z_q271_3_38 _ true _ ⟨fun _ => rfl, fun h => absurd ((z_olt (b := 25) (by omega) (by decide)).mp h) (by omega)⟩
    | succ j ih =>
      intro k hk
      refine z_q271_3_38 _ true _ ⟨fun h => absurd ((z_ole (a := 25) (by decide) (by omega)).mp h) (by omega), fun _ => ⟨fun h => (by cases h), fun _ => ⟨k, rfl, by omega, o + k, z_mk_54, by omega, ?_⟩⟩⟩
      have h9 := ih (k + 1) (by omega)
      rw [z_os, z_mk_54, z_os, z_mk_t (by decide) (by decide)]
      unfold z_mk at h9 ⊢
      rw [z_up_sw (by decide), z_wo_s _ _ _ _ _ (I 38 0)]
      exact h9
  have h0 := key 25 0 rfl
  have e0 : z_mk I 38 o 0 = I := by
    unfold z_mk
    rw [z_wo_0, Nat.add_zero]
    exact z_up_id e
  rw [e0] at h0
  exact z_q271_e_38 _ true h0
theorem z_p271a_38 {o : Nat} (ho : o + 25 ≤ 120) (e : I 33 0 54 = Int32.ofNat o) : z_ev d (z_en 271 [z_r 33 0, z_r 38 0, z_i 25, z_i (z_c false)] (true, X, I, J)) (none, (true, X, z_ma I 38 o 25, J)) := by
  have key : ∀ j k, k + j = 25 → z_ev d (271, 3, [some (z_r 33 0), some (z_r 38 0), some (z_i 25), some (z_i (z_c false)), some (z_i (Int32.ofNat k))], [], (true, X, z_ma I 38 o k, J)) (none, (true, X, z_ma I 38 o 25, J)) := by
    intro j
    induction j with
    | zero =>
      intro k hk
      obtain rfl : k = 25 := by omega
      exact z_q271_3_38 _ false _ ⟨fun _ => rfl, fun h => absurd ((z_olt (b := 25) (by omega) (by decide)).mp h) (by omega)⟩
    | succ j ih =>
      intro k hk
      refine z_q271_3_38 _ false _ ⟨fun h => absurd ((z_ole (a := 25) (by decide) (by omega)).mp h) (by omega), fun _ => ⟨fun _ => ⟨o + k, z_ma_54, by omega, k, rfl, by omega, ?_⟩, fun h => (by cases h)⟩⟩
      have h9 := ih (k + 1) (by omega)
      rw [z_os, z_ma_54, z_os, z_ma_t (by decide) (by decide)]
      unfold z_ma at h9 ⊢
      rw [z_up_sw (by decide), z_wo_s0 _ _ _ _ (fun j => I 62 0 (o + j))]
      exact h9
  have h0 := key 25 0 rfl
  have e0 : z_ma I 38 o 0 = I := by
    unfold z_ma
    rw [z_wo_0, Nat.add_zero]
    exact z_up_id e
  rw [e0] at h0
  exact z_q271_e_38 _ false h0
theorem z_p271k_39 {o : Nat} (ho : o + 24 ≤ 120) (e : I 33 0 54 = Int32.ofNat o) : z_ev d (z_en 271 [z_r 33 0, z_r 39 0, z_i 24, z_i (z_c true)] (true, X, I, J)) (none, (true, X, z_mk I 39 o 24, J)) := by
  have key : ∀ j k, k + j = 24 → z_ev d (271, 3, [some (z_r 33 0), some (z_r 39 0), some (z_i 24), some (z_i (z_c true)), some (z_i (Int32.ofNat k))], [], (true, X, z_mk I 39 o k, J)) (none, (true, X, z_mk I 39 o 24, J)) := by
    intro j
    induction j with
    | zero =>
      intro k hk
      obtain rfl : k = 24 := by omega
      exact z_q271_3_39 _ true _ ⟨fun _ => rfl, fun h => absurd ((z_olt (b := 24) (by omega) (by decide)).mp h) (by omega)⟩
    | succ j ih =>
      intro k hk
      refine z_q271_3_39 _ true _ ⟨fun h => absurd ((z_ole (a := 24) (by decide) (by omega)).mp h) (by omega), fun _ => ⟨fun h => (by cases h), fun _ => ⟨k, rfl, by omega, o + k, z_mk_54, by omega, ?_⟩⟩⟩
      have h9 := ih (k + 1) (by omega)
      rw [z_os, z_mk_54, z_os, z_mk_t (by decide) (by decide)]
      unfold z_mk at h9 ⊢
      rw [z_up_sw (by decide), z_wo_s _ _ _ _ _ (I 39 0)]
      exact h9
  have h0 := key 24 0 rfl
  have e0 : z_mk I 39 o 0 = I := by
    unfold z_mk
    rw [z_wo_0, Nat.add_zero]
    exact z_up_id e
  rw [e0] at h0
  exact z_q271_e_39 _ true h0
theorem z_p271a_39 {o : Nat} (ho : o + 24 ≤ 120) (e : I 33 0 54 = Int32.ofNat o) : z_ev d (z_en 271 [z_r 33 0, z_r 39 0, z_i 24, z_i (z_c false)] (true, X, I, J)) (none, (true, X, z_ma I 39 o 24, J)) := by
  have key : ∀ j k, k + j = 24 → z_ev d (271, 3, [some (z_r 33 0), some (z_r 39 0), some (z_i 24), some (z_i (z_c false)), some (z_i (Int32.ofNat k))], [], (true, X, z_ma I 39 o k, J)) (none, (true, X, z_ma I 39 o 24, J)) := by
    intro j
    induction j with
    | zero =>
      intro k hk
      obtain rfl : k = 24 := by omega
      exact z_q271_3_39 _ false _ ⟨fun _ => rfl, fun h => absurd ((z_olt (b := 24) (by omega) (by decide)).mp h) (by omega)⟩
    | succ j ih =>
      intro k hk
      refine z_q271_3_39 _ false _ ⟨fun h => absurd ((z_ole (a := 24) (by decide) (by omega)).mp h) (by omega), fun _ => ⟨fun _ => ⟨o + k, z_ma_54, by omega, k, rfl, by omega, ?_⟩, fun h => (by cases h)⟩⟩
      have h9 := ih (k + 1) (by omega)
      rw [z_os, z_ma_54, z_os, z_ma_t (by decide) (by decide)]
      unfold z_ma at h9 ⊢
      rw [z_up_sw (by decide), z_wo_s0 _ _ _ _ (fun j => I 62 0 (o + j))]
      exact h9
  have h0 := key 24 0 rfl
  have e0 : z_ma I 39 o 0 = I := by
    unfold z_ma
    rw [z_wo_0, Nat.add_zero]
    exact z_up_id e
  rw [e0] at h0
  exact z_q271_e_39 _ false h0
theorem z_p4_01 : z_ev d (z_en 4 [z_r 4 0, z_r 4 1] (true, X, I, J)) (none, (true, X, z_wo (z_wo (z_up I 4 0 2 (I 4 1 2)) 5 0 0 5 (I 5 1)) 6 0 0 25 (I 6 1), J)) := by
  have key2 : ∀ j k, k + j = 25 → ∀ I0 : Nat → Nat → Nat → Int32, I0 6 1 = I 6 1 → z_ev d (4, 39, [some (z_r 4 0), some (z_r 4 1), some (z_i (Int32.ofNat k))], [], (true, X, z_wo I0 6 0 0 k (I 6 1), J)) (none, (true, X, z_wo I0 6 0 0 25 (I 6 1), J)) := by
    intro j
    induction j with
    | zero =>
      intro k hk I0 h0
      obtain rfl : k = 25 := by omega
      exact z_q4_39_01 _ ⟨fun _ => rfl, fun h => absurd ((z_olt (b := 25) (by omega) (by decide)).mp h) (by omega)⟩
    | succ j ih =>
      intro k hk I0 h0
      refine z_q4_39_01 _ ⟨fun h => absurd ((z_ole (a := 25) (by decide) (by omega)).mp h) (by omega), fun _ => ⟨k, rfl, by omega, ?_⟩⟩
      rw [z_os, z_wo_i (by decide), h0, z_wo_s0]
      exact ih (k + 1) (by omega) I0 h0
  have key1 : ∀ j k, k + j = 5 → ∀ I0 : Nat → Nat → Nat → Int32, I0 5 1 = I 5 1 → I0 6 1 = I 6 1 → z_ev d (4, 10, [some (z_r 4 0), some (z_r 4 1), some (z_i (Int32.ofNat k))], [], (true, X, z_wo I0 5 0 0 k (I 5 1), J)) (none, (true, X, z_wo (z_wo I0 5 0 0 5 (I 5 1)) 6 0 0 25 (I 6 1), J)) := by
    intro j
    induction j with
    | zero =>
      intro k hk I0 h0 h1
      obtain rfl : k = 5 := by omega
      refine z_q4_10_01 _ ⟨fun _ => ?_, fun h => absurd ((z_olt (b := 5) (by omega) (by decide)).mp h) (by omega)⟩
      have h9 := key2 25 0 rfl (z_wo I0 5 0 0 5 (I 5 1)) (by rw [z_wo_t (by decide)]; exact h1)
      rw [z_wo_0] at h9
      exact h9
    | succ j ih =>
      intro k hk I0 h0 h1
      refine z_q4_10_01 _ ⟨fun h => absurd ((z_ole (a := 5) (by decide) (by omega)).mp h) (by omega), fun _ => ⟨k, rfl, by omega, ?_⟩⟩
      rw [z_os, z_wo_i (by decide), h0, z_wo_s0]
      exact ih (k + 1) (by omega) I0 h0 h1
  have h9 := key1 5 0 rfl (z_up I 4 0 2 (I 4 1 2)) (by rw [z_up_t (by decide)]) (by rw [z_up_t (by decide)])
  rw [z_wo_0] at h9
  exact z_q4_e_01 h9
/-- nets -/
theorem z_l63n_01 : ∀ j k, k + j = 4 → ∀ I1, (∀ n, n < k → I1 13 n 1 = I 13 (4 + n) 1 ∧ ∀ p, p < 10 → I1 14 n p = I 14 (4 + n) p) → (∀ a b c, ¬ ((a = 13 ∨ a = 14) ∧ 0 ≤ b ∧ b < 0 + 4) → I1 a b c = I a b c) →
    ∃ I', (∀ r, z_ev (d + 1) (63, 30, [some (z_r 1 0), some (z_r 1 1), some (z_i 0)], [], (true, X, I', J)) r → z_ev (d + 1) (63, 2, [some (z_r 1 0), some (z_r 1 1), some (z_i (Int32.ofNat k))], [], (true, X, I1, J)) r) ∧ (∀ n, n < 4 → I' 13 n 1 = I 13 (4 + n) 1 ∧ ∀ p, p < 10 → I' 14 n p = I 14 (4 + n) p) ∧ (∀ a b c, ¬ ((a = 13 ∨ a = 14) ∧ 0 ≤ b ∧ b < 0 + 4) → I' a b c = I a b c) := by
  intro j
  induction j with
  | zero =>
    intro k hk I1 h1 h2
    obtain rfl : k = 4 := by omega
    exact ⟨I1, fun r hr => z_q63_2_01 _ ⟨fun _ => hr, fun h => absurd ((z_olt (b := 4) (by omega) (by decide)).mp h) (by omega)⟩, h1, h2⟩
  | succ j ih =>
    intro k hk I1 h1 h2
    obtain ⟨I2, hI2⟩ : ∃ I2, I2 = z_wo (z_up I1 13 k 1 (I1 13 (4 + k) 1)) 14 k 0 10 (I1 14 (4 + k)) := ⟨_, rfl⟩
    obtain ⟨I', c1, c2, c3⟩ := ih (k + 1) (by omega) I2 (fun n hn => by
      by_cases h : n = k
      · subst h
        refine ⟨?_, fun p hp => ?_⟩
        · rw [hI2, z_wo_t (by decide), z_up_e]
          exact h2 13 _ 1 (by omega)
        · rw [hI2, z_wo_e0 hp]
          exact h2 14 _ p (by omega)
      · obtain ⟨q1, q2⟩ := h1 n (by omega)
        refine ⟨?_, fun p hp => ?_⟩
        · rw [hI2, z_wo_t (by decide), z_up_i (by omega)]; exact q1
        · rw [hI2, z_wo_i (by omega), z_up_t (by decide)]; exact q2 p hp) (fun a b c h => by
      rw [hI2]
      unfold z_wo z_up
      rw [if_neg (by omega), if_neg (by omega)]
      exact h2 a b c h)
    refine ⟨I', fun r hr => z_q63_2_01 _ ⟨fun h => absurd ((z_ole (a := 4) (by decide) (by omega)).mp h) (by omega), fun _ => ⟨k, rfl, by omega, _, _, _, z_p20 (q := k) (q1 := (4 + k)) (by omega) (by omega) (by omega), ?_⟩⟩, c2, c3⟩
    rw [← hI2, z_os]
    exact c1 r hr
/-- shares -/
theorem z_l63s_01 (hq : z_Rq X.1 X.2.2.1 (X.2.2.2 11 1)) : ∀ j k, k + j = 6 → ∀ (Y : Nat → Nat → Nat → Option (Nat × Nat)) (I1 : Nat → Nat → Nat → Int32), (∀ s, s < k → Y 11 0 s = X.2.2.2 11 1 s) → Y 11 1 = X.2.2.2 11 1 → 
    ∃ Y', z_ev (d + 1) (63, 70, [some (z_r 1 0), some (z_r 1 1), some (z_i (Int32.ofNat k))], [], (true, (X.1, X.2.1, X.2.2.1, Y), z_wo I1 12 0 0 k (I1 12 1), J)) (none, (true, (X.1, X.2.1, X.2.2.1, Y'), z_up (z_up (z_wo I1 12 0 0 6 (I1 12 1)) 1 0 5 (I1 1 1 5)) 1 0 6 (I1 1 1 6), J)) ∧ (∀ s, s < 6 → Y' 11 0 s = X.2.2.2 11 1 s) ∧ Y' 11 1 = X.2.2.2 11 1 := by
  intro j
  induction j with
  | zero =>
    intro k hk Y I1 h1 h2
    obtain rfl : k = 6 := by omega
    exact ⟨Y, z_q63_70_01 _ ⟨fun _ => rfl, fun h => absurd ((z_olt (b := 6) (by omega) (by decide)).mp h) (by omega)⟩, h1, h2⟩
  | succ j ih =>
    intro k hk Y I1 h1 h2
    obtain ⟨Y', c1, c2, c3⟩ := ih (k + 1) (by omega) (z_up Y 11 0 k (X.2.2.2 11 1 k)) I1 (fun s hs => by
      by_cases h : s = k
      · subst h; rw [z_up_e]
      · rw [z_up_j h]; exact h1 s (by omega)) (by rw [z_up_i (by decide)]; exact h2)
    refine ⟨Y', z_q63_70_01 _ ⟨fun h => absurd ((z_ole (a := 6) (by decide) (by omega)).mp h) (by omega), fun _ => ⟨k, rfl, by omega, ?_⟩⟩, c2, c3⟩
    have e0 : z_wo I1 12 0 0 k (I1 12 1) 12 1 k = I1 12 1 k := by rw [z_wo_i (by decide)]
    rcases hq k (by omega) with e | ⟨q, e1, e2, e3⟩
    · rw [e] at c1
      refine Or.inl ⟨by show Y 11 1 k = none; rw [h2]; exact e, ?_⟩
      rw [z_os, e0, z_wo_s0]
      exact c1
    · rw [e1] at c1
      refine Or.inr ⟨q, by show Y 11 1 k = _; rw [h2]; exact e1, e2, e3, ?_⟩
      rw [z_os, e0, z_wo_s0]
      exact c1
/-- a world becomes the other -/
theorem z_p63_01 (hq : z_Rq X.1 X.2.2.1 (X.2.2.2 11 1)) : ∃ Y' I', z_ev (d + 1) (z_en 63 [z_r 1 0, z_r 1 1] (true, X, I, J)) (none, (true, (X.1, X.2.1, X.2.2.1, Y'), I', J)) ∧ (∀ s, s < 6 → Y' 11 0 s = X.2.2.2 11 1 s) ∧ Y' 11 1 = X.2.2.2 11 1 ∧ (∀ n, n < 4 → I' 13 n 1 = I 13 (4 + n) 1 ∧ ∀ p, p < 10 → I' 14 n p = I 14 (4 + n) p) ∧ (∀ j, j < 5 → I' 3 0 j = I 3 1 j) ∧ I' 4 0 2 = I 4 1 2 ∧ (∀ j, j < 5 → I' 5 0 j = I 5 1 j) ∧ (∀ j, j < 25 → I' 6 0 j = I 6 1 j) ∧ (∀ j, j < 6 → I' 12 0 j = I 12 1 j) ∧ I' 1 0 5 = I 1 1 5 ∧ I' 1 0 6 = I 1 1 6 ∧ z_ag [1] I I' := by
  obtain ⟨I1, c1, c2, c3⟩ := z_l63n_01 (d := d) (X := X) (J := J) (I := I) 4 0 rfl I (fun n hn => absurd hn (Nat.not_lt_zero n)) (fun _ _ _ _ => rfl)
  have key : ∀ j k, k + j = 5 → ∀ r, z_ev (d + 1) (63, 30, [some (z_r 1 0), some (z_r 1 1), some (z_i (Int32.ofNat 5))], [], (true, X, z_wo I1 3 0 0 5 (I1 3 1), J)) r → z_ev (d + 1) (63, 30, [some (z_r 1 0), some (z_r 1 1), some (z_i (Int32.ofNat k))], [], (true, X, z_wo I1 3 0 0 k (I1 3 1), J)) r := by
    intro j
    induction j with
    | zero =>
      intro k hk r hr
      obtain rfl : k = 5 := by omega
      exact hr
    | succ j ih =>
      intro k hk r hr
      refine z_q63_30_01 _ ⟨fun h => absurd ((z_ole (a := 5) (by decide) (by omega)).mp h) (by omega), fun _ => ⟨k, rfl, by omega, ?_⟩⟩
      rw [z_os, z_wo_i (by decide), z_wo_s0]
      exact ih (k + 1) (by omega) r hr
  obtain ⟨I2, hI2⟩ : ∃ I2, I2 = z_wo I1 3 0 0 5 (I1 3 1) := ⟨_, rfl⟩
  obtain ⟨I3, hI3⟩ : ∃ I3, I3 = z_wo (z_wo (z_up I2 4 0 2 (I2 4 1 2)) 5 0 0 5 (I2 5 1)) 6 0 0 25 (I2 6 1) := ⟨_, rfl⟩
  obtain ⟨Y', s1, s2, s3⟩ := z_l63s_01 (d := d) (J := J) hq 6 0 rfl X.2.2.2 I3 (fun n hn => absurd hn (Nat.not_lt_zero n)) rfl
  rw [z_wo_0] at s1
  have p4 := z_p4_01 (d := d) (X := X) (J := J) (I := I2)
  rw [← hI3] at p4
  have h0 := key 5 0 rfl
  rw [z_wo_0, ← hI2] at h0
  have h1 := h0 _ (z_q63_30_01 _ ⟨fun _ => ⟨_, _, _, p4, s1⟩, fun h => absurd h (by decide)⟩)
  have e1 : ∀ t, t ≠ 13 → t ≠ 14 → I1 t = I t := fun t q1 q2 => funext fun b => funext fun c => c3 t b c (fun q => by omega)
  have e2 : ∀ t, t ≠ 3 → I2 t = I1 t := fun t q1 => by rw [hI2, z_wo_t q1]
  have e3 : ∀ t, t ≠ 4 → t ≠ 5 → t ≠ 6 → I3 t = I2 t := fun t q1 q2 q3 => by rw [hI3, z_wo_t q3, z_wo_t q2, z_up_t q1]
  refine ⟨Y', _, z_q63_e_01 (c1 _ h1), s2, s3, fun n hn => ?_, fun j hj => ?_, ?_, fun j hj => ?_, fun j hj => ?_, fun j hj => ?_, ?_, ?_, ?_⟩
  · rw [z_up_t (by decide), z_up_t (by decide), z_wo_t (by decide), z_up_t (by decide), z_up_t (by decide), z_wo_t (by decide), e3 13 (by decide) (by decide) (by decide), e3 14 (by decide) (by decide) (by decide), e2 13 (by decide), e2 14 (by decide)]
    exact c2 n hn
  · rw [z_up_t (by decide), z_up_t (by decide), z_wo_t (by decide), e3 3 (by decide) (by decide) (by decide), hI2, z_wo_e0 hj, e1 3 (by decide) (by decide)]
  · rw [z_up_t (by decide), z_up_t (by decide), z_wo_t (by decide), hI3, z_wo_t (by decide), z_wo_t (by decide), z_up_e, e2 4 (by decide), e1 4 (by decide) (by decide)]
  · rw [z_up_t (by decide), z_up_t (by decide), z_wo_t (by decide), hI3, z_wo_t (by decide), z_wo_e0 hj, e2 5 (by decide), e1 5 (by decide) (by decide)]
  · rw [z_up_t (by decide), z_up_t (by decide), z_wo_t (by decide), hI3, z_wo_e0 hj, e2 6 (by decide), e1 6 (by decide) (by decide)]
  · rw [z_up_t (by decide), z_up_t (by decide), z_wo_e0 hj, e3 12 (by decide) (by decide) (by decide), e2 12 (by decide), e1 12 (by decide) (by decide)]
  · rw [z_up_j (by decide), z_up_e, e3 1 (by decide) (by decide) (by decide), e2 1 (by decide), e1 1 (by decide) (by decide)]
  · rw [z_up_e, e3 1 (by decide) (by decide) (by decide), e2 1 (by decide), e1 1 (by decide) (by decide)]
  · refine z_ag_up (z_ag_up (z_ag_wo ?_ (fun _ => rfl)) rfl) rfl
    rw [hI3]
    refine z_ag_wo (z_ag_wo (z_ag_up ?_ rfl) (fun _ => rfl)) (fun _ => rfl)
    rw [hI2]
    refine z_ag_wo (fun a b c q => c3 a b c (fun h => ?_)) (fun _ => rfl)
    obtain ⟨h, h1, h2⟩ := h
    have e9 : z_cp a b c = 1 := by
      rcases h with rfl | rfl
      · show (bif Nat.blt b 4 then 1 else bif Nat.blt b 8 then 2 else 0) = 1
        rw [show Nat.blt b 4 = true from Nat.ble_eq_true_of_le (by omega)]; rfl
      · show (bif Nat.blt b 4 then 1 else bif Nat.blt b 8 then 2 else 0) = 1
        rw [show Nat.blt b 4 = true from Nat.ble_eq_true_of_le (by omega)]; rfl
    rw [e9] at q
    exact absurd q (by decide)
theorem z_p4_10 : z_ev d (z_en 4 [z_r 4 1, z_r 4 0] (true, X, I, J)) (none, (true, X, z_wo (z_wo (z_up I 4 1 2 (I 4 0 2)) 5 1 0 5 (I 5 0)) 6 1 0 25 (I 6 0), J)) := by
  have key2 : ∀ j k, k + j = 25 → ∀ I0 : Nat → Nat → Nat → Int32, I0 6 0 = I 6 0 → z_ev d (4, 39, [some (z_r 4 1), some (z_r 4 0), some (z_i (Int32.ofNat k))], [], (true, X, z_wo I0 6 1 0 k (I 6 0), J)) (none, (true, X, z_wo I0 6 1 0 25 (I 6 0), J)) := by
    intro j
    induction j with
    | zero =>
      intro k hk I0 h0
      obtain rfl : k = 25 := by omega
      exact z_q4_39_10 _ ⟨fun _ => rfl, fun h => absurd ((z_olt (b := 25) (by omega) (by decide)).mp h) (by omega)⟩
    | succ j ih =>
      intro k hk I0 h0
      refine z_q4_39_10 _ ⟨fun h => absurd ((z_ole (a := 25) (by decide) (by omega)).mp h) (by omega), fun _ => ⟨k, rfl, by omega, ?_⟩⟩
      rw [z_os, z_wo_i (by decide), h0, z_wo_s0]
      exact ih (k + 1) (by omega) I0 h0
  have key1 : ∀ j k, k + j = 5 → ∀ I0 : Nat → Nat → Nat → Int32, I0 5 0 = I 5 0 → I0 6 0 = I 6 0 → z_ev d (4, 10, [some (z_r 4 1), some (z_r 4 0), some (z_i (Int32.ofNat k))], [], (true, X, z_wo I0 5 1 0 k (I 5 0), J)) (none, (true, X, z_wo (z_wo I0 5 1 0 5 (I 5 0)) 6 1 0 25 (I 6 0), J)) := by
    intro j
    induction j with
    | zero =>
      intro k hk I0 h0 h1
      obtain rfl : k = 5 := by omega
      refine z_q4_10_10 _ ⟨fun _ => ?_, fun h => absurd ((z_olt (b := 5) (by omega) (by decide)).mp h) (by omega)⟩
      have h9 := key2 25 0 rfl (z_wo I0 5 1 0 5 (I 5 0)) (by rw [z_wo_t (by decide)]; exact h1)
      rw [z_wo_0] at h9
      exact h9
    | succ j ih =>
      intro k hk I0 h0 h1
      refine z_q4_10_10 _ ⟨fun h => absurd ((z_ole (a := 5) (by decide) (by omega)).mp h) (by omega), fun _ => ⟨k, rfl, by omega, ?_⟩⟩
      rw [z_os, z_wo_i (by decide), h0, z_wo_s0]
      exact ih (k + 1) (by omega) I0 h0 h1
  have h9 := key1 5 0 rfl (z_up I 4 1 2 (I 4 0 2)) (by rw [z_up_t (by decide)]) (by rw [z_up_t (by decide)])
  rw [z_wo_0] at h9
  exact z_q4_e_10 h9
/-- nets -/
theorem z_l63n_10 : ∀ j k, k + j = 4 → ∀ I1, (∀ n, n < k → I1 13 (4 + n) 1 = I 13 n 1 ∧ ∀ p, p < 10 → I1 14 (4 + n) p = I 14 n p) → (∀ a b c, ¬ ((a = 13 ∨ a = 14) ∧ 4 ≤ b ∧ b < 4 + 4) → I1 a b c = I a b c) →
    ∃ I', (∀ r, z_ev (d + 1) (63, 30, [some (z_r 1 1), some (z_r 1 0), some (z_i 0)], [], (true, X, I', J)) r → z_ev (d + 1) (63, 2, [some (z_r 1 1), some (z_r 1 0), some (z_i (Int32.ofNat k))], [], (true, X, I1, J)) r) ∧ (∀ n, n < 4 → I' 13 (4 + n) 1 = I 13 n 1 ∧ ∀ p, p < 10 → I' 14 (4 + n) p = I 14 n p) ∧ (∀ a b c, ¬ ((a = 13 ∨ a = 14) ∧ 4 ≤ b ∧ b < 4 + 4) → I' a b c = I a b c) := by
  intro j
  induction j with
  | zero =>
    intro k hk I1 h1 h2
    obtain rfl : k = 4 := by omega
    exact ⟨I1, fun r hr => z_q63_2_10 _ ⟨fun _ => hr, fun h => absurd ((z_olt (b := 4) (by omega) (by decide)).mp h) (by omega)⟩, h1, h2⟩
  | succ j ih =>
    intro k hk I1 h1 h2
    obtain ⟨I2, hI2⟩ : ∃ I2, I2 = z_wo (z_up I1 13 (4 + k) 1 (I1 13 k 1)) 14 (4 + k) 0 10 (I1 14 k) := ⟨_, rfl⟩
    obtain ⟨I', c1, c2, c3⟩ := ih (k + 1) (by omega) I2 (fun n hn => by
      by_cases h : n = k
      · subst h
        refine ⟨?_, fun p hp => ?_⟩
        · rw [hI2, z_wo_t (by decide), z_up_e]
          exact h2 13 _ 1 (by omega)
        · rw [hI2, z_wo_e0 hp]
          exact h2 14 _ p (by omega)
      · obtain ⟨q1, q2⟩ := h1 n (by omega)
        refine ⟨?_, fun p hp => ?_⟩
        · rw [hI2, z_wo_t (by decide), z_up_i (by omega)]; exact q1
        · rw [hI2, z_wo_i (by omega), z_up_t (by decide)]; exact q2 p hp) (fun a b c h => by
      rw [hI2]
      unfold z_wo z_up
      rw [if_neg (by omega), if_neg (by omega)]
      exact h2 a b c h)
    refine ⟨I', fun r hr => z_q63_2_10 _ ⟨fun h => absurd ((z_ole (a := 4) (by decide) (by omega)).mp h) (by omega), fun _ => ⟨k, rfl, by omega, _, _, _, z_p20 (q := (4 + k)) (q1 := k) (by omega) (by omega) (by omega), ?_⟩⟩, c2, c3⟩
    rw [← hI2, z_os]
    exact c1 r hr
/-- shares -/
theorem z_l63s_10 (hq : z_Rq X.1 X.2.2.1 (X.2.2.2 11 0)) : ∀ j k, k + j = 6 → ∀ (Y : Nat → Nat → Nat → Option (Nat × Nat)) (I1 : Nat → Nat → Nat → Int32), (∀ s, s < k → Y 11 1 s = X.2.2.2 11 0 s) → Y 11 0 = X.2.2.2 11 0 → 
    ∃ Y', z_ev (d + 1) (63, 70, [some (z_r 1 1), some (z_r 1 0), some (z_i (Int32.ofNat k))], [], (true, (X.1, X.2.1, X.2.2.1, Y), z_wo I1 12 1 0 k (I1 12 0), J)) (none, (true, (X.1, X.2.1, X.2.2.1, Y'), z_up (z_up (z_wo I1 12 1 0 6 (I1 12 0)) 1 1 5 (I1 1 0 5)) 1 1 6 (I1 1 0 6), J)) ∧ (∀ s, s < 6 → Y' 11 1 s = X.2.2.2 11 0 s) ∧ Y' 11 0 = X.2.2.2 11 0 := by
  intro j
  induction j with
  | zero =>
    intro k hk Y I1 h1 h2
    obtain rfl : k = 6 := by omega
    exact ⟨Y, z_q63_70_10 _ ⟨fun _ => rfl, fun h => absurd ((z_olt (b := 6) (by omega) (by decide)).mp h) (by omega)⟩, h1, h2⟩
  | succ j ih =>
    intro k hk Y I1 h1 h2
    obtain ⟨Y', c1, c2, c3⟩ := ih (k + 1) (by omega) (z_up Y 11 1 k (X.2.2.2 11 0 k)) I1 (fun s hs => by
      by_cases h : s = k
      · subst h; rw [z_up_e]
      · rw [z_up_j h]; exact h1 s (by omega)) (by rw [z_up_i (by decide)]; exact h2)
    refine ⟨Y', z_q63_70_10 _ ⟨fun h => absurd ((z_ole (a := 6) (by decide) (by omega)).mp h) (by omega), fun _ => ⟨k, rfl, by omega, ?_⟩⟩, c2, c3⟩
    have e0 : z_wo I1 12 1 0 k (I1 12 0) 12 0 k = I1 12 0 k := by rw [z_wo_i (by decide)]
    rcases hq k (by omega) with e | ⟨q, e1, e2, e3⟩
    · rw [e] at c1
      refine Or.inl ⟨by show Y 11 0 k = none; rw [h2]; exact e, ?_⟩
      rw [z_os, e0, z_wo_s0]
      exact c1
    · rw [e1] at c1
      refine Or.inr ⟨q, by show Y 11 0 k = _; rw [h2]; exact e1, e2, e3, ?_⟩
      rw [z_os, e0, z_wo_s0]
      exact c1
/-- a world becomes the other -/
theorem z_p63_10 (hq : z_Rq X.1 X.2.2.1 (X.2.2.2 11 0)) : ∃ Y' I', z_ev (d + 1) (z_en 63 [z_r 1 1, z_r 1 0] (true, X, I, J)) (none, (true, (X.1, X.2.1, X.2.2.1, Y'), I', J)) ∧ (∀ s, s < 6 → Y' 11 1 s = X.2.2.2 11 0 s) ∧ Y' 11 0 = X.2.2.2 11 0 ∧ (∀ n, n < 4 → I' 13 (4 + n) 1 = I 13 n 1 ∧ ∀ p, p < 10 → I' 14 (4 + n) p = I 14 n p) ∧ (∀ j, j < 5 → I' 3 1 j = I 3 0 j) ∧ I' 4 1 2 = I 4 0 2 ∧ (∀ j, j < 5 → I' 5 1 j = I 5 0 j) ∧ (∀ j, j < 25 → I' 6 1 j = I 6 0 j) ∧ (∀ j, j < 6 → I' 12 1 j = I 12 0 j) ∧ I' 1 1 5 = I 1 0 5 ∧ I' 1 1 6 = I 1 0 6 ∧ z_ag [2] I I' := by
  obtain ⟨I1, c1, c2, c3⟩ := z_l63n_10 (d := d) (X := X) (J := J) (I := I) 4 0 rfl I (fun n hn => absurd hn (Nat.not_lt_zero n)) (fun _ _ _ _ => rfl)
  have key : ∀ j k, k + j = 5 → ∀ r, z_ev (d + 1) (63, 30, [some (z_r 1 1), some (z_r 1 0), some (z_i (Int32.ofNat 5))], [], (true, X, z_wo I1 3 1 0 5 (I1 3 0), J)) r → z_ev (d + 1) (63, 30, [some (z_r 1 1), some (z_r 1 0), some (z_i (Int32.ofNat k))], [], (true, X, z_wo I1 3 1 0 k (I1 3 0), J)) r := by
    intro j
    induction j with
    | zero =>
      intro k hk r hr
      obtain rfl : k = 5 := by omega
      exact hr
    | succ j ih =>
      intro k hk r hr
      refine z_q63_30_10 _ ⟨fun h => absurd ((z_ole (a := 5) (by decide) (by omega)).mp h) (by omega), fun _ => ⟨k, rfl, by omega, ?_⟩⟩
      rw [z_os, z_wo_i (by decide), z_wo_s0]
      exact ih (k + 1) (by omega) r hr
  obtain ⟨I2, hI2⟩ : ∃ I2, I2 = z_wo I1 3 1 0 5 (I1 3 0) := ⟨_, rfl⟩
  obtain ⟨I3, hI3⟩ : ∃ I3, I3 = z_wo (z_wo (z_up I2 4 1 2 (I2 4 0 2)) 5 1 0 5 (I2 5 0)) 6 1 0 25 (I2 6 0) := ⟨_, rfl⟩
  obtain ⟨Y', s1, s2, s3⟩ := z_l63s_10 (d := d) (J := J) hq 6 0 rfl X.2.2.2 I3 (fun n hn => absurd hn (Nat.not_lt_zero n)) rfl
  rw [z_wo_0] at s1
  have p4 := z_p4_10 (d := d) (X := X) (J := J) (I := I2)
  rw [← hI3] at p4
  have h0 := key 5 0 rfl
  rw [z_wo_0, ← hI2] at h0
  have h1 := h0 _ (z_q63_30_10 _ ⟨fun _ => ⟨_, _, _, p4, s1⟩, fun h => absurd h (by decide)⟩)
  have e1 : ∀ t, t ≠ 13 → t ≠ 14 → I1 t = I t := fun t q1 q2 => funext fun b => funext fun c => c3 t b c (fun q => by omega)
  have e2 : ∀ t, t ≠ 3 → I2 t = I1 t := fun t q1 => by rw [hI2, z_wo_t q1]
  have e3 : ∀ t, t ≠ 4 → t ≠ 5 → t ≠ 6 → I3 t = I2 t := fun t q1 q2 q3 => by rw [hI3, z_wo_t q3, z_wo_t q2, z_up_t q1]
  refine ⟨Y', _, z_q63_e_10 (c1 _ h1), s2, s3, fun n hn => ?_, fun j hj => ?_, ?_, fun j hj => ?_, fun j hj => ?_, fun j hj => ?_, ?_, ?_, ?_⟩
  · rw [z_up_t (by decide), z_up_t (by decide), z_wo_t (by decide), z_up_t (by decide), z_up_t (by decide), z_wo_t (by decide), e3 13 (by decide) (by decide) (by decide), e3 14 (by decide) (by decide) (by decide), e2 13 (by decide), e2 14 (by decide)]
    exact c2 n hn
  · rw [z_up_t (by decide), z_up_t (by decide), z_wo_t (by decide), e3 3 (by decide) (by decide) (by decide), hI2, z_wo_e0 hj, e1 3 (by decide) (by decide)]
  · rw [z_up_t (by decide), z_up_t (by decide), z_wo_t (by decide), hI3, z_wo_t (by decide), z_wo_t (by decide), z_up_e, e2 4 (by decide), e1 4 (by decide) (by decide)]
  · rw [z_up_t (by decide), z_up_t (by decide), z_wo_t (by decide), hI3, z_wo_t (by decide), z_wo_e0 hj, e2 5 (by decide), e1 5 (by decide) (by decide)]
  · rw [z_up_t (by decide), z_up_t (by decide), z_wo_t (by decide), hI3, z_wo_e0 hj, e2 6 (by decide), e1 6 (by decide) (by decide)]
  · rw [z_up_t (by decide), z_up_t (by decide), z_wo_e0 hj, e3 12 (by decide) (by decide) (by decide), e2 12 (by decide), e1 12 (by decide) (by decide)]
  · rw [z_up_j (by decide), z_up_e, e3 1 (by decide) (by decide) (by decide), e2 1 (by decide), e1 1 (by decide) (by decide)]
  · rw [z_up_e, e3 1 (by decide) (by decide) (by decide), e2 1 (by decide), e1 1 (by decide) (by decide)]
  · refine z_ag_up (z_ag_up (z_ag_wo ?_ (fun _ => rfl)) rfl) rfl
    rw [hI3]
    refine z_ag_wo (z_ag_wo (z_ag_up ?_ rfl) (fun _ => rfl)) (fun _ => rfl)
    rw [hI2]
    refine z_ag_wo (fun a b c q => c3 a b c (fun h => ?_)) (fun _ => rfl)
    obtain ⟨h, h1, h2⟩ := h
    have e9 : z_cp a b c = 2 := by
      rcases h with rfl | rfl
      · show (bif Nat.blt b 4 then 1 else bif Nat.blt b 8 then 2 else 0) = 2
        rw [show Nat.blt b 8 = true from Nat.ble_eq_true_of_le (by omega), show Nat.blt b 4 = false from Bool.eq_false_iff.mpr (fun q => absurd (Nat.le_of_ble_eq_true q) (by omega))]; rfl
      · show (bif Nat.blt b 4 then 1 else bif Nat.blt b 8 then 2 else 0) = 2
        rw [show Nat.blt b 8 = true from Nat.ble_eq_true_of_le (by omega), show Nat.blt b 4 = false from Bool.eq_false_iff.mpr (fun q => absurd (Nat.le_of_ble_eq_true q) (by omega))]; rfl
    rw [e9] at q
    exact absurd q (by decide)
end
