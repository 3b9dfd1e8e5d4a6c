/-! most: forms stand for all nets -/
def z_Fk (m : Nat → Nat) (n k : Nat) : List Nat := (z_sbl n 0 k).map (z_fl m)
def z_tDb (n : Nat) : Bool := (List.range (2 ^ (n * (n - 1) / 2))).all (fun c => (List.range 5).all (fun k => z_srt (z_Fk (z_cmn n c) n k) == z_srt (z_Fk (z_cmn n (z_fmn (z_fx c))) n k)))
theorem z_tDc : ∀ n, n < 5 → z_tDb n = true := by decide +kernel
theorem z_tD {n c k : Nat} (hn : n < 5) (hc : c < 2 ^ (n * (n - 1) / 2)) (hk : k < 5) : z_srt (z_Fk (z_cmn n c) n k) = z_srt (z_Fk (z_cmn n (z_fmn (z_fx c))) n k) := eq_of_beq (List.all_eq_true.mp (List.all_eq_true.mp (z_tDc n hn) c (List.mem_range.mpr hc)) k (List.mem_range.mpr hk))
theorem z_cnf_Fk (m : Nat → Nat) (n k j : Nat) : z_cnf m n k j = (z_Fk m n k).countP (fun f => Nat.beq f j) := by
  unfold z_cnf z_Fk
  rw [List.countP_map]
  rfl
theorem z_srt_cnt {l l' : List Nat} (h : z_srt l = z_srt l') (p : Nat → Bool) : l.countP p = l'.countP p := by
  have h1 : l.Perm l' := (z_srt_perm l).symm.trans ((by rw [h] : (z_srt l).Perm (z_srt l')).trans (z_srt_perm l'))
  exact h1.countP_eq p
theorem z_cnf_fm {n c k j : Nat} (hn : n < 5) (hc : c < 2 ^ (n * (n - 1) / 2)) (hk : k < 5) : z_cnf (z_cmn n c) n k j = z_cnf (z_cmn n (z_fmn (z_fx c))) n k j := by
  rw [z_cnf_Fk, z_cnf_Fk]
  exact z_srt_cnt (z_tD hn hc hk) _
def z_chi (j c : Nat) : Nat := if Nat.beq (z_fx c) j then 1 else 0
theorem z_cnf_sm (m : Nat → Nat) (n k j : Nat) : z_cnf m n k j = z_sml (((z_sbl n 0 k).map (fun l => z_cdf m [] l 0)).map (z_chi j)) := by
  unfold z_cnf
  rw [List.map_map]
  generalize z_sbl n 0 k = L
  induction L with
  | nil => rfl
  | cons x L ih =>
    rw [List.countP_cons, ih, List.map_cons, Nat.add_comm]
    rfl
theorem z_e41 : ∀ a b c d e f : Bool, (z_sbl 4 0 1).map (fun l => z_cdf (z_cmn 4 (z_c4 a b c d e f)) [] l 0) = [0, 0, 0, 0] := by decide +kernel
theorem z_e42 : ∀ a b c d e f : Bool, (z_sbl 4 0 2).map (fun l => z_cdf (z_cmn 4 (z_c4 a b c d e f)) [] l 0) = [z_c2 a, z_c2 b, z_c2 d, z_c2 c, z_c2 e, z_c2 f] := by decide +kernel
theorem z_e43 : ∀ a b c d e f : Bool, (z_sbl 4 0 3).map (fun l => z_cdf (z_cmn 4 (z_c4 a b c d e f)) [] l 0) = [z_c3 a b c, z_c3 a d e, z_c3 b d f, z_c3 c e f] := by decide +kernel
theorem z_e44 : ∀ a b c d e f : Bool, (z_sbl 4 0 4).map (fun l => z_cdf (z_cmn 4 (z_c4 a b c d e f)) [] l 0) = [z_c4 a b c d e f] := by decide +kernel
theorem z_c4_lt : ∀ a b c d e f : Bool, z_c4 a b c d e f < 2 ^ (4 * (4 - 1) / 2) := by decide +kernel
theorem z_G4 (a b c d e f : Bool) {k : Nat} (hk : k < 5) (j : Nat) : z_cnf (z_cmn 4 (z_fmn (z_fx (z_c4 a b c d e f)))) 4 k j = z_sml (((z_sbl 4 0 k).map (fun l => z_cdf (z_cmn 4 (z_c4 a b c d e f)) [] l 0)).map (z_chi j)) := by
  rw [← z_cnf_fm (by decide) (z_c4_lt a b c d e f) hk, z_cnf_sm]
theorem z_A5 (m : Nat → Nat) {k : Nat} (hk1 : 1 ≤ k) (hk : k < 5) (j : Nat) : (5 - k) * z_cnf m 5 k j = z_sml ((z_F5 m).map (fun f => z_cnf (z_cmn 4 (z_fmn f)) 4 k j)) := by
  have eF : z_F5 m = [z_fx (z_cdf m [] [0, 1, 2, 3] 0), z_fx (z_cdf m [] [0, 1, 2, 4] 0), z_fx (z_cdf m [] [0, 1, 3, 4] 0), z_fx (z_cdf m [] [0, 2, 3, 4] 0), z_fx (z_cdf m [] [1, 2, 3, 4] 0)] := rfl
  rw [eF, z_cnf_sm]
  simp only [List.map_cons, List.map_nil, z_cd4, z_G4 _ _ _ _ _ _ hk]
  rcases (by omega : k = 1 ∨ k = 2 ∨ k = 3 ∨ k = 4) with rfl | rfl | rfl | rfl
  · have e1 : (z_sbl 5 0 1).map (fun l => z_cdf m [] l 0) = [0, 0, 0, 0, 0] := by simp [z_sbl, z_cdf, z_rb]
    rw [e1]
    simp only [z_e41, List.map_cons, List.map_nil, z_sml]
    omega
  · have e1 : (z_sbl 5 0 2).map (fun l => z_cdf m [] l 0) = [z_cdf m [] [0, 1] 0, z_cdf m [] [0, 2] 0, z_cdf m [] [0, 3] 0, z_cdf m [] [0, 4] 0, z_cdf m [] [1, 2] 0, z_cdf m [] [1, 3] 0, z_cdf m [] [1, 4] 0, z_cdf m [] [2, 3] 0, z_cdf m [] [2, 4] 0, z_cdf m [] [3, 4] 0] := rfl
    rw [e1]
    simp only [z_e42, z_cd2, List.map_cons, List.map_nil, z_sml]
    omega
  · have e1 : (z_sbl 5 0 3).map (fun l => z_cdf m [] l 0) = [z_cdf m [] [0, 1, 2] 0, z_cdf m [] [0, 1, 3] 0, z_cdf m [] [0, 1, 4] 0, z_cdf m [] [0, 2, 3] 0, z_cdf m [] [0, 2, 4] 0, z_cdf m [] [0, 3, 4] 0, z_cdf m [] [1, 2, 3] 0, z_cdf m [] [1, 2, 4] 0, z_cdf m [] [1, 3, 4] 0, z_cdf m [] [2, 3, 4] 0] := rfl
    rw [e1]
    simp only [z_e43, z_cd3, List.map_cons, List.map_nil, z_sml]
    omega
  · have e1 : (z_sbl 5 0 4).map (fun l => z_cdf m [] l 0) = [z_cdf m [] [0, 1, 2, 3] 0, z_cdf m [] [0, 1, 2, 4] 0, z_cdf m [] [0, 1, 3, 4] 0, z_cdf m [] [0, 2, 3, 4] 0, z_cdf m [] [1, 2, 3, 4] 0] := rfl
    rw [e1]
    simp only [z_e44, z_cd4, List.map_cons, List.map_nil, z_sml]
    omega
/-- the greatest of a list -/
def z_mxl : List Nat → Nat
  | [] => 0
  | x :: l => max x (z_mxl l)
theorem z_mxl_app (l l' : List Nat) : z_mxl (l ++ l') = max (z_mxl l) (z_mxl l') := by
  induction l with
  | nil => exact (Nat.zero_max _).symm
  | cons x l ih => show max x (z_mxl (l ++ l')) = max (max x (z_mxl l)) _; rw [ih, Nat.max_assoc]
theorem z_mxl_ge {l : List Nat} {x : Nat} (h : x ∈ l) : x ≤ z_mxl l := by
  induction l with
  | nil => exact absurd h List.not_mem_nil
  | cons y l ih =>
    show x ≤ max y (z_mxl l)
    rcases List.mem_cons.mp h with rfl | h
    · exact Nat.le_max_left _ _
    · exact Nat.le_trans (ih h) (Nat.le_max_right _ _)
theorem z_mxl_le {l : List Nat} {B : Nat} (h : ∀ x ∈ l, x ≤ B) : z_mxl l ≤ B := by
  induction l with
  | nil => exact Nat.zero_le _
  | cons y l ih => exact Nat.max_le.mpr ⟨h y (List.mem_cons_self ..), ih (fun x hx => h x (List.mem_cons_of_mem y hx))⟩
theorem z_mxl_eq {l l' : List Nat} (h1 : ∀ x ∈ l, x = 0 ∨ x ∈ l') (h2 : ∀ x ∈ l', x = 0 ∨ x ∈ l) : z_mxl l = z_mxl l' := by
  apply Nat.le_antisymm
  · exact z_mxl_le (fun x hx => (h1 x hx).elim (fun h => by omega) (fun h => z_mxl_ge h))
  · exact z_mxl_le (fun x hx => (h2 x hx).elim (fun h => by omega) (fun h => z_mxl_ge h))
/-- a free net's count and one more, or nothing -/
def z_vv (l : List (Nat × Nat)) (n k j c : Nat) : Nat := if z_fre l (z_cmn n c) n then z_cnf (z_cmn n c) n k j + 1 else 0
theorem z_fre_cg {l : List (Nat × Nat)} {m m' : Nat → Nat} {n : Nat} (h : ∀ q ∈ l, z_cnf m n q.1 q.2 = z_cnf m' n q.1 q.2) : z_fre l m n = z_fre l m' n := by
  rw [Bool.eq_iff_iff, z_fre_t, z_fre_t]
  exact ⟨fun g q hq => by rw [← h q hq]; exact g q hq, fun g q hq => by rw [h q hq]; exact g q hq⟩
/-- four posts at most: forms stand for all -/
theorem z_most4 {l : List (Nat × Nat)} {n k j : Nat} (hl : ∀ q ∈ l, 2 ≤ q.1 ∧ q.1 ≤ 4 ∧ q.2 < z_fon q.1) (hn1 : 1 ≤ n) (hn : n ≤ 4) (hk : k ≤ 4) : z_mxl ((List.range (z_fon n)).map (fun i => z_vv l n k j (z_fmn i))) = z_mxl ((List.range (2 ^ (n * (n - 1) / 2))).map (z_vv l n k j)) := by
  apply z_mxl_eq
  · intro x hx
    obtain ⟨i, hi, rfl⟩ := List.mem_map.mp hx
    obtain ⟨f1, f2, f3⟩ := z_fm_tab n (by omega) hn1 i (List.mem_range.mp hi)
    exact Or.inr (List.mem_map.mpr ⟨z_fmn i, List.mem_range.mpr f2, rfl⟩)
  · intro x hx
    obtain ⟨c, hc, rfl⟩ := List.mem_map.mp hx
    have hc := List.mem_range.mp hc
    refine Or.inr (List.mem_map.mpr ⟨z_fx c, List.mem_range.mpr (z_fx_tab n (by omega) hn1 c hc), ?_⟩)
    unfold z_vv
    rw [z_fre_cg (fun q hq => (z_cnf_fm (by omega) hc (by have := (hl q hq).2.1; omega)).symm), ← z_cnf_fm (by omega) hc (by omega)]
theorem z_F5_pm {c c' : Nat} (h : z_srt (z_F5 (z_cmn 5 c)) = z_srt (z_F5 (z_cmn 5 c'))) {k : Nat} (hk1 : 1 ≤ k) (hk : k < 5) (j : Nat) : z_cnf (z_cmn 5 c) 5 k j = z_cnf (z_cmn 5 c') 5 k j := by
  have h1 : (z_F5 (z_cmn 5 c)).Perm (z_F5 (z_cmn 5 c')) := (z_srt_perm _).symm.trans ((by rw [h] : (z_srt (z_F5 (z_cmn 5 c))).Perm (z_srt (z_F5 (z_cmn 5 c')))).trans (z_srt_perm _))
  have e1 := z_A5 (z_cmn 5 c) hk1 hk j
  have e2 := z_A5 (z_cmn 5 c') hk1 hk j
  rw [z_sml_perm (h1.map _), ← e2] at e1
  exact Nat.eq_of_mul_eq_mul_left (by omega) e1
theorem z_sml_z {l : List Nat} (h : z_sml l = 0) : ∀ x ∈ l, x = 0 := by
  induction l with
  | nil => exact fun x hx => absurd hx List.not_mem_nil
  | cons y l ih =>
    have h : y + z_sml l = 0 := h
    intro x hx
    rcases List.mem_cons.mp hx with rfl | hx
    · omega
    · exact ih (by omega) x hx
theorem z_sml_0 {l : List Nat} (h : ∀ x ∈ l, x = 0) : z_sml l = 0 := by
  induction l with
  | nil => rfl
  | cons y l ih =>
    show y + z_sml l = 0
    rw [h y (List.mem_cons_self ..), ih (fun x hx => h x (List.mem_cons_of_mem y hx))]
/-- five posts: free where every four is -/
theorem z_fre5 {l : List (Nat × Nat)} (hl : ∀ q ∈ l, 2 ≤ q.1 ∧ q.1 ≤ 4 ∧ q.2 < z_fon q.1) (m : Nat → Nat) : z_fre l m 5 = true ↔ ∀ f ∈ z_F5 m, z_fre l (z_cmn 4 (z_fmn f)) 4 = true := by
  rw [z_fre_t]
  constructor
  · intro h f hf
    rw [z_fre_t]
    intro q hq
    obtain ⟨q1, q2, q3⟩ := hl q hq
    have e := z_A5 m (k := q.1) (by omega) (by omega) q.2
    rw [h q hq, Nat.mul_zero] at e
    exact z_sml_z e.symm _ (List.mem_map.mpr ⟨f, hf, rfl⟩)
  · intro h q hq
    obtain ⟨q1, q2, q3⟩ := hl q hq
    have e := z_A5 m (k := q.1) (by omega) (by omega) q.2
    rw [z_sml_0 (fun x hx => by
      obtain ⟨f, hf, rfl⟩ := List.mem_map.mp hx
      exact z_fre_t.mp (h f hf) q hq)] at e
    rcases Nat.mul_eq_zero.mp e with e | e
    · omega
    · exact e
/-- five posts: forms of four and one more stand for all -/
theorem z_most5 {l : List (Nat × Nat)} {k j : Nat} (hl : ∀ q ∈ l, 2 ≤ q.1 ∧ q.1 ≤ 4 ∧ q.2 < z_fon q.1) (hk1 : 1 ≤ k) (hk : k ≤ 4) : z_mxl ((List.range 11).flatMap (fun i => if z_fre l (z_cmn 4 (z_fmn i)) 4 then (List.range 16).map (fun r => z_vv l 5 k j (z_fmn i + 64 * r)) else [])) = z_mxl ((List.range (2 ^ (5 * (5 - 1) / 2))).map (z_vv l 5 k j)) := by
  have f64 : ∀ i, i < 11 → z_fmn i < 64 := by decide +kernel
  apply z_mxl_eq
  · intro x hx
    obtain ⟨i, hi, hx⟩ := List.mem_flatMap.mp hx
    have hi := f64 i (List.mem_range.mp hi)
    split at hx
    · obtain ⟨r, hr, rfl⟩ := List.mem_map.mp hx
      have hr := List.mem_range.mp hr
      exact Or.inr (List.mem_map.mpr ⟨_, List.mem_range.mpr (by show _ < 1024; omega), rfl⟩)
    · exact absurd hx List.not_mem_nil
  · intro x hx
    obtain ⟨c, hc, rfl⟩ := List.mem_map.mp hx
    have hc : c < 1024 := List.mem_range.mp hc
    obtain ⟨t1, t2, t3⟩ := z_tC c hc
    by_cases hf : z_fre l (z_cmn 5 c) 5 = true
    · have h4 := (z_fre5 hl _).mp hf _ t2
      refine Or.inr (List.mem_flatMap.mpr ⟨z_fx (c % 64), List.mem_range.mpr (z_fx_all (c % 64) (by omega)).2, ?_⟩)
      rw [if_pos h4]
      refine List.mem_map.mpr ⟨z_r5 c, List.mem_range.mpr t3, ?_⟩
      unfold z_vv
      rw [z_fre_cg (fun q hq => (z_F5_pm t1 (by have := hl q hq; omega) (by have := hl q hq; omega) q.2).symm), ← z_F5_pm t1 hk1 (by omega) j]
    · unfold z_vv
      rw [if_neg hf]
      exact Or.inl rfl
