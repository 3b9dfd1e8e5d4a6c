/-! at a limit: what the class's spread leaves -/
def z_AT (P : Nat) (w : Nat → Nat) (cN : Nat → Nat → Nat) (m i : Nat) : Nat := z_sml ((List.range (P ^ m)).map (fun way => z_Gt w cN i (z_tup P m way)))
theorem z_sml_rep {α : Type} (g : Nat → Nat) (e : α → Nat) : ∀ l : List (α × Nat), z_sml ((l.flatMap (fun q => List.replicate q.2 (e q.1))).map g) = z_sml (l.map (fun q => q.2 * g (e q.1)))
  | [] => rfl
  | q :: l => by
    have h1 : ∀ n (x : Nat), z_sml ((List.replicate n x).map g) = n * g x := fun n x => by
      induction n with
      | zero => exact (Nat.zero_mul _).symm
      | succ n ih => rw [List.replicate_succ, List.map_cons, Nat.succ_mul, Nat.add_comm, ← ih]; rfl
    rw [List.flatMap_cons, List.map_append, z_sml_app, h1, z_sml_rep g e l]
    rfl
theorem z_AT_ext {P m : Nat} (hP1 : 1 ≤ P) (hP : P ≤ 5) (hm1 : 1 ≤ m) (hm : m ≤ 4) {w : Nat → Nat} {cN : Nat → Nat → Nat} (hc : ∀ a b, a < P → b < P → cN a b = cN b a) (i : Nat) : z_sml ((z_ext P m [] 0 0 1).map (fun q => q.2 * z_Gt w cN i q.1)) = z_AT P w cN m i := by
  obtain ⟨h1, h2⟩ := z_xt P (by omega) hP1 m (by omega) hm1
  have h1 := List.isPerm_iff.mp h1
  have e1 : z_AT P w cN m i = z_sml (((List.range (P ^ m)).map (fun way => z_enc (z_srt (z_tup P m way)))).map (fun c => z_Gt w cN i (z_dec m c))) := by
    unfold z_AT
    rw [List.map_map]
    apply z_sml_cg
    intro way _
    obtain ⟨g1, g2⟩ := z_tup_lt hP1 m way
    have gp := z_srt_perm (z_tup P m way)
    have g3 : (z_srt (z_tup P m way)).length = m := gp.length_eq.trans g1
    have g4 := z_dec_enc (z_srt (z_tup P m way)) (fun x hx => Nat.lt_of_lt_of_le (g2 x (gp.mem_iff.mp hx)) (by omega))
    rw [g3] at g4
    show _ = z_Gt w cN i (z_dec m (z_enc (z_srt (z_tup P m way))))
    rw [g4]
    exact z_Gt_perm (P := P) hc gp.symm [] g2 (by rw [g1]; simpa using hm)
  rw [e1, z_sml_perm (h1.map _), z_sml_rep (fun c => z_Gt w cN i (z_dec m c)) z_enc]
  apply z_sml_cg
  intro q hq
  have h3 := List.all_eq_true.mp h2 q hq
  rw [eq_of_beq h3]
theorem z_or6 : ∀ p, p < 6 → ∀ c, c < 2 ^ p → Int32.ofNat c ||| ((1 : Int32) <<< (Int32.ofNat p &&& 31)) = Int32.ofNat (c + 2 ^ p) := by decide +kernel
theorem z_stp6 : ∀ p, p < 7 → 2 ^ p ≤ 64 := by decide
section
variable {X : z_X} {I : Nat → Nat → Nat → Int32}
theorem z_p14 {f : Nat → Nat} {n : Nat} (hn : n ≤ 6) (hI : ∀ p, p < n → ∃ a b, a < 5 ∧ b < 5 ∧ I 8 0 (z_plo p) = Int32.ofNat a ∧ I 8 0 (z_phi p) = Int32.ofNat b ∧ I 6 0 (5 * a + b) = Int32.ofNat (f p) ∧ f p ≤ 4) : ∀ (k p code D : Nat) (l : Int64) (J : Nat → Nat → Nat → Int64), p + k = n → code < 2 ^ p → k + 1 ≤ D →
    ∃ J', z_ev D (z_en 14 [z_r 4 0, z_i (Int32.ofNat n), z_i (Int32.ofNat p), z_i (Int32.ofNat code), z_j l] (true, X, I, J)) (none, (true, X, I, J')) ∧ (∀ a b c, a ≠ 7 → J' a b c = J a b c) ∧ ∀ i, i < 11 → J' 7 0 i = J 7 0 i + l * Int64.ofNat (z_Dr f i k p code) := by
  intro k
  induction k with
  | zero =>
    intro p code D l J hp hc hD
    obtain ⟨D, rfl⟩ : ∃ D', D = D' + 1 := ⟨D - 1, by omega⟩
    by_cases h0 : l = 0
    · refine ⟨J, z_q14_e _ _ _ _ ⟨fun h => absurd (z_lc0.mpr h0) h, fun _ => rfl⟩, fun _ _ _ _ => rfl, fun i _ => ?_⟩
      rw [h0, Int64.zero_mul, Int64.add_zero]
    · have hc6 : code < 64 := Nat.lt_of_lt_of_le hc (z_stp6 p (by omega))
      obtain ⟨x1, x2⟩ := z_fx_all code hc6
      refine ⟨z_up J 7 0 (z_fx code) (J 7 0 (z_fx code) + l), z_q14_e _ _ _ _ ⟨fun _ => ⟨fun _ => ⟨code, z_an63 code hc6, hc6, z_fx code, x1, x2, rfl⟩, fun h => absurd ((z_olt (by omega) (by omega)).mp h) (by omega)⟩, fun h => absurd (z_lc0.mp h) h0⟩, fun a b c ha => by rw [z_up_t ha], fun i hi => ?_⟩
      unfold z_Dr
      by_cases hx : z_fx code = i
      · subst hx
        rw [z_up_e, if_pos (Nat.beq_refl _)]
        exact congrArg _ (Int64.mul_one l).symm
      · rw [z_up_j (fun q => hx q.symm), if_neg (fun q => hx (Nat.eq_of_beq_eq_true q))]
        show _ = _ + l * 0
        rw [Int64.mul_zero, Int64.add_zero]
  | succ k ih =>
    intro p code D l J hp hc hD
    obtain ⟨D, rfl⟩ : ∃ D', D = D' + 1 := ⟨D - 1, by omega⟩
    by_cases h0 : l = 0
    · refine ⟨J, z_q14_e _ _ _ _ ⟨fun h => absurd (z_lc0.mpr h0) h, fun _ => rfl⟩, fun _ _ _ _ => rfl, fun i _ => ?_⟩
      rw [h0, Int64.zero_mul, Int64.add_zero]
    · obtain ⟨a, b, ha, hb, ea, eb, ef, hf⟩ := hI p (by omega)
      obtain ⟨t1, t2⟩ := z_pst p (by omega)
      obtain ⟨u1, u2, u3⟩ := z_plo_tab 5 (by decide) p (by omega)
      have h2 : 2 ^ (p + 1) = 2 ^ p * 2 := Nat.pow_succ 2 p
      have hfs : ((4 : Int32) - Int32.ofNat (f p)).toInt64 = Int64.ofNat (4 - f p) := by
        rw [show ((4 : Int32) - Int32.ofNat (f p)) = Int32.ofNat (4 - f p) from z_subn (a := 4) hf]
        exact z_i64 (by omega)
      have hfi : (Int32.ofNat (f p)).toInt64 = Int64.ofNat (f p) := z_i64 (by omega)
      obtain ⟨J1, c1, c2, c3⟩ := ih (p + 1) code D (l * Int64.ofNat (4 - f p)) J (by omega) (by omega) (by omega)
      obtain ⟨J2, g1, g2, g3⟩ := ih (p + 1) (code + 2 ^ p) D (l * Int64.ofNat (f p)) J1 (by omega) (by omega) (by omega)
      refine ⟨J2, z_q14_e _ _ _ _ ⟨fun _ => ⟨fun h => absurd ((z_ole (by omega) (by omega)).mp h) (by omega), fun _ => ⟨fun _ => ⟨p, rfl, by omega, z_plo p, t1, by omega, z_phi p, t2, by omega, Int32.ofNat (f p), X, I, J, ?_, X, I, J1, ?_, X, I, J2, ?_, rfl⟩, fun h => absurd ((z_ole (a := 6) (by decide) (by omega)).mp h) (by omega)⟩⟩, fun h => absurd (z_lc0.mp h) h0⟩, fun a b c ha => (g2 a b c ha).trans (c2 a b c ha), fun i hi => ?_⟩
      · rw [ea, eb, ← ef]
        exact z_p7 ha hb
      · rw [hfs, z_os]
        exact c1
      · rw [hfi, z_os, z_or6 p (by omega) code hc]
        exact g1
      · rw [g3 i hi, c3 i hi]
        show _ = _ + l * Int64.ofNat ((4 - f p) * z_Dr f i k (p + 1) code + f p * z_Dr f i k (p + 1) (code + 2 ^ p))
        rw [Int64.ofNat_add, Int64.ofNat_mul, Int64.ofNat_mul, Int64.mul_add, Int64.mul_assoc, Int64.mul_assoc, Int64.add_assoc]
end
theorem z_prd_sn (l : List Nat) (x : Nat) : z_prd (l ++ [x]) = z_prd l * x := by
  rw [z_prd_perm (List.perm_append_singleton x l)]
  exact Nat.mul_comm _ _
theorem z_prd_bd {w : Nat → Nat} {P : Nat} (hw : ∀ p, p < P → w p ≤ 9) : ∀ t : List Nat, (∀ x ∈ t, x < P) → z_prd (t.map w) ≤ 9 ^ t.length
  | [], _ => Nat.le_refl _
  | x :: t, h => by
    show w x * z_prd (t.map w) ≤ 9 ^ (t.length + 1)
    rw [Nat.pow_succ, Nat.mul_comm]
    exact Nat.mul_le_mul (z_prd_bd hw t (fun y hy => h y (List.mem_cons_of_mem x hy))) (hw x (h x (List.mem_cons_self ..)))
theorem z_wys {pr M wp n R : Nat} (h1 : pr ≤ 729) (h2 : M ≤ 125) (h3 : wp ≤ 9) (h4 : n ≤ 3) (hR : R ≤ 5) (hd : M * (n + 1) % R = 0) : ((Int64.ofNat (pr * M) * (Int32.ofNat wp).toInt64) * (Int32.ofNat n + 1).toInt64) / (Int32.ofNat R).toInt64 = Int64.ofNat (pr * wp * (M * (n + 1) / R)) := by
  rw [z_os, z_i64 (by omega), z_i64 (by omega), z_i64 (by omega), ← Int64.ofNat_mul, ← Int64.ofNat_mul]
  have b1 : pr * M ≤ 729 * 125 := Nat.mul_le_mul h1 h2
  have b2 : pr * M * wp ≤ 729 * 125 * 9 := Nat.mul_le_mul b1 h3
  have b3 : pr * M * wp * (n + 1) ≤ 729 * 125 * 9 * 4 := Nat.mul_le_mul b2 (by omega)
  rw [← Int64.ofNat_div (by omega) (by omega), ← Nat.mul_div_assoc _ (Nat.dvd_of_mod_eq_zero hd)]
  congr 2
  rw [Nat.mul_assoc pr M wp, Nat.mul_comm M wp, ← Nat.mul_assoc, Nat.mul_assoc]
def z_g8 (L a b c : Nat) : Bool := Nat.beq a 8 && Nat.beq b 0 && Nat.ble L c
theorem z_g8_mn {L L' : Nat} (h : L ≤ L') : ∀ a b c, z_g8 L' a b c = true → z_g8 L a b c = true := fun a b c q => by
  unfold z_g8 at q ⊢
  simp only [Bool.and_eq_true] at q ⊢
  exact ⟨q.1, Nat.ble_eq_true_of_le (Nat.le_trans h (Nat.le_of_ble_eq_true q.2))⟩
theorem z_fr_8 {L : Nat} {I I' : Nat → Nat → Nat → Int32} (h : z_fr (z_g8 L) I I') {j : Nat} (hj : j < L) : I' 8 0 j = I 8 0 j := h 8 0 j (by
  unfold z_g8
  cases e : Nat.ble L j with
  | false => rfl
  | true => exact absurd (Nat.le_of_ble_eq_true e) (by omega))
theorem z_gd_sn (t : List Nat) (p j : Nat) : (t ++ [p]).getD j 0 = if j < t.length then t.getD j 0 else if j = t.length then p else 0 := by
  rw [List.getD_eq_getElem?_getD, List.getD_eq_getElem?_getD]
  split
  · rename_i h; rw [List.getElem?_append_left h]
  · rename_i h
    rw [List.getElem?_append_right (by omega)]
    split
    · rename_i h2; subst h2; rw [Nat.sub_self]; rfl
    · rename_i h2
      rw [show j - t.length = (j - t.length - 1) + 1 by omega]; rfl
