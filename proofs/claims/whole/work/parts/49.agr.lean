/-! which part of the relation a place belongs to; what writes elsewhere leaves a part as it is -/
/-- 0 scratch, 1 now, 2 kept, 3 tape, 4 rows, 5 sheets, 6 shelf, 7 trace, 8 tables, 9 outside, 10 shares made -/
def z_cp (t i j : Nat) : Nat := match t with
  | 0 => bif Nat.beq j 2 then 2 else bif Nat.beq j 7 then 4 else 0
  | 1 | 3 | 4 | 5 | 6 | 12 => bif Nat.beq i 0 then 1 else 2
  | 13 | 14 => bif Nat.blt i 4 then 1 else bif Nat.blt i 8 then 2 else 0
  | 15 => bif Nat.beq j 1 then 3 else 0
  | 16 | 43 => 3
  | 17 => bif Nat.beq j 1 then 7 else 0
  | 18 | 61 => 7
  | 19 | 20 | 53 => 4
  | 22 | 23 | 58 | 59 | 60 => 6
  | 30 | 55 | 56 => 5
  | 32 => 10
  | 33 => ([0, 0, 1, 0, 1, 0, 0, 1, 1, 0, 0, 0, 0, 0, 3, 0, 0, 0, 0, 0, 0, 0, 0, 0, 0, 0, 0, 0, 0, 0, 0, 0, 0, 0, 0, 0, 0, 4, 0, 0, 0, 0, 0, 0, 0, 0, 0, 0, 0, 0, 7, 0, 2] : List Nat).getD j 0
  | 34 | 35 | 36 | 37 | 38 | 39 => 1
  | 40 | 41 | 42 => 8
  | 62 => 2
  | 67 => 9
  | _ => 0
def z_ag (cs : List Nat) (I I' : Nat → Nat → Nat → Int32) : Prop := ∀ t i j, cs.contains (z_cp t i j) = false → I' t i j = I t i j
section
variable {cs : List Nat} {I I' I'' : Nat → Nat → Nat → Int32} {J J' : Nat → Nat → Nat → Int64} {X : z_X}
theorem z_ag_rf : z_ag cs I I := fun _ _ _ _ => rfl
theorem z_ag_tr (h : z_ag cs I I') (h' : z_ag cs I' I'') : z_ag cs I I'' := fun t i j q => (h' t i j q).trans (h t i j q)
theorem z_ag_mn {ds : List Nat} (h : z_ag cs I I') (hs : ∀ c, cs.contains c = true → ds.contains c = true) : z_ag ds I I' := fun t i j q => h t i j (by
  cases e : cs.contains (z_cp t i j) with
  | false => rfl
  | true => rw [hs _ e] at q; cases q)
theorem z_ag_up {t i j : Nat} {v : Int32} (h : z_ag cs I I') (hp : cs.contains (z_cp t i j) = true) : z_ag cs I (z_up I' t i j v) := by
  intro a b c q
  unfold z_up
  split
  · next e =>
    obtain ⟨rfl, rfl, rfl⟩ := e
    rw [hp] at q; cases q
  · exact h a b c q
theorem z_ag_wo {t i o n : Nat} {g : Nat → Int32} (h : z_ag cs I I') (hp : ∀ j, cs.contains (z_cp t i j) = true) : z_ag cs I (z_wo I' t i o n g) := by
  intro a b c q
  unfold z_wo
  split
  · next e =>
    obtain ⟨rfl, rfl, -⟩ := e
    rw [hp] at q; cases q
  · exact h a b c q
theorem z_ag_sr {t i o a b : Nat} {is1 : Bool} (h : z_ag cs I I') (hp : ∀ j, cs.contains (z_cp t i j) = true) : z_ag cs I (z_sr I' t i o a b is1) := z_ag_up (z_ag_up h (hp _)) (hp _)
theorem z_ag_t (h : z_ag cs I I') (t : Nat) {c : Nat} (ht : ∀ i j, z_cp t i j = c) (hc : cs.contains c = false) : I' t = I t := by
  funext i j
  exact h t i j (by rw [ht]; exact hc)
theorem z_ag_ti (h : z_ag cs I I') (t i : Nat) {c : Nat} (ht : ∀ j, z_cp t i j = c) (hc : cs.contains c = false) : I' t i = I t i := by
  funext j
  exact h t i j (by rw [ht]; exact hc)
theorem z_ag_p (h : z_ag cs I I') (t i j : Nat) {c : Nat} (ht : z_cp t i j = c) (hc : cs.contains c = false) : I' t i j = I t i j := h t i j (by rw [ht]; exact hc)
theorem z_now_ag (h : z_ag cs I I') (h1 : cs.contains 1 = false) (h10 : cs.contains 10 = false) (r : z_now X I) : z_now X I' := by
  obtain ⟨r1, r2, r3, r4, r5⟩ := r
  have e13 : ∀ n, n < 4 → I' 13 (4 * 0 + n) 1 = I 13 (4 * 0 + n) 1 := fun n hn => z_ag_p h 13 _ 1 (c := 1) (by show (bif Nat.blt (4 * 0 + n) 4 then 1 else _) = 1; rw [show Nat.blt (4 * 0 + n) 4 = true from Nat.ble_eq_true_of_le (by omega)]; rfl) h1
  have e14 : ∀ n, n < 4 → I' 14 (4 * 0 + n) = I 14 (4 * 0 + n) := fun n hn => z_ag_ti h 14 _ (c := 1) (fun j => by show (bif Nat.blt (4 * 0 + n) 4 then 1 else _) = 1; rw [show Nat.blt (4 * 0 + n) 4 = true from Nat.ble_eq_true_of_le (by omega)]; rfl) h1
  unfold z_now z_Rw
  rw [z_ag_ti h 3 0 (c := 1) (fun _ => rfl) h1, z_ag_p h 4 0 2 (c := 1) rfl h1, z_ag_ti h 5 0 (c := 1) (fun _ => rfl) h1, z_ag_ti h 6 0 (c := 1) (fun _ => rfl) h1, z_ag_p h 1 0 6 (c := 1) rfl h1, z_ag_p h 1 0 5 (c := 1) rfl h1, z_ag_ti h 12 0 (c := 1) (fun _ => rfl) h1, z_ag_t h 32 (c := 10) (fun _ _ => rfl) h10,
    z_ag_p h 33 0 2 (c := 1) rfl h1, z_ag_p h 33 0 4 (c := 1) rfl h1, z_ag_p h 33 0 8 (c := 1) rfl h1, z_ag_p h 33 0 7 (c := 1) rfl h1, z_ag_t h 34 (c := 1) (fun _ _ => rfl) h1, z_ag_t h 35 (c := 1) (fun _ _ => rfl) h1, z_ag_t h 36 (c := 1) (fun _ _ => rfl) h1, z_ag_t h 37 (c := 1) (fun _ _ => rfl) h1, z_ag_t h 38 (c := 1) (fun _ _ => rfl) h1, z_ag_t h 39 (c := 1) (fun _ _ => rfl) h1]
  exact ⟨z_Rn_congr e13 e14 r1, r2, r3, r4, r5⟩
theorem z_kep_ag (h : z_ag cs I I') (h2 : cs.contains 2 = false) (h10 : cs.contains 10 = false) (r : z_kep X I) : z_kep X I' := by
  have e8 : ∀ n, n < 4 → (bif Nat.blt (4 * 1 + n) 4 then 1 else bif Nat.blt (4 * 1 + n) 8 then 2 else 0) = 2 := fun n hn => by
    rw [show Nat.blt (4 * 1 + n) 8 = true from Nat.ble_eq_true_of_le (by omega)]
    cases q : Nat.blt (4 * 1 + n) 4 with
    | false => rfl
    | true => exact absurd (Nat.le_of_ble_eq_true q) (by omega)
  exact z_kep_c rfl (fun n hn => z_ag_p h 13 _ 1 (c := 2) (e8 n hn) h2) (fun n hn => z_ag_ti h 14 _ (c := 2) (fun _ => e8 n hn) h2) (z_ag_ti h 3 1 (c := 2) (fun _ => rfl) h2) (z_ag_p h 4 1 2 (c := 2) rfl h2) (z_ag_ti h 5 1 (c := 2) (fun _ => rfl) h2) (z_ag_ti h 6 1 (c := 2) (fun _ => rfl) h2) (z_ag_p h 1 1 6 (c := 2) rfl h2) (z_ag_p h 1 1 5 (c := 2) rfl h2) (z_ag_ti h 12 1 (c := 2) (fun _ => rfl) h2) (z_ag_t h 32 (c := 10) (fun _ _ => rfl) h10) (z_ag_t h 62 (c := 2) (fun _ _ => rfl) h2) r
theorem z_Rk_ag (h : z_ag cs I I') (h2 : cs.contains 2 = false) (h10 : cs.contains 10 = false) (r : z_Rk X I) : z_Rk X I' := z_Rk_c (z_ag_p h 0 0 2 (c := 2) rfl h2) (z_ag_p h 33 0 52 (c := 2) rfl h2) (z_kep_ag h h2 h10) r
theorem z_Rt_ag (h : z_ag cs I I') (h3 : cs.contains 3 = false) (r : z_Rt I) : z_Rt I' := z_Rt_c (z_ag_p h 15 0 1 (c := 3) rfl h3) (z_ag_p h 33 0 14 (c := 3) rfl h3) (z_ag_t h 16 (c := 3) (fun _ _ => rfl) h3) (z_ag_t h 43 (c := 3) (fun _ _ => rfl) h3) r
theorem z_Rr_ag (h : z_ag cs I I') (h4 : cs.contains 4 = false) (r : z_Rr I) : z_Rr I' := z_Rr_c (z_ag_p h 0 0 7 (c := 4) rfl h4) (z_ag_p h 33 0 37 (c := 4) rfl h4) (z_ag_t h 19 (c := 4) (fun _ _ => rfl) h4) (z_ag_t h 20 (c := 4) (fun _ _ => rfl) h4) (z_ag_t h 53 (c := 4) (fun _ _ => rfl) h4) r
theorem z_Rh_ag (h : z_ag cs I I') (h5 : cs.contains 5 = false) (j1 : J' 31 = J 31) (j2 : J' 57 = J 57) (r : z_Rh I J) : z_Rh I' J' := z_Rh_c (z_ag_t h 30 (c := 5) (fun _ _ => rfl) h5) (z_ag_t h 55 (c := 5) (fun _ _ => rfl) h5) (z_ag_t h 56 (c := 5) (fun _ _ => rfl) h5) j1 j2 r
theorem z_Rv_ag (h : z_ag cs I I') (h6 : cs.contains 6 = false) (r : z_Rv I) : z_Rv I' := z_Rv_c (z_ag_t h 22 (c := 6) (fun _ _ => rfl) h6) (z_ag_t h 23 (c := 6) (fun _ _ => rfl) h6) (z_ag_t h 58 (c := 6) (fun _ _ => rfl) h6) (z_ag_t h 59 (c := 6) (fun _ _ => rfl) h6) (z_ag_t h 60 (c := 6) (fun _ _ => rfl) h6) r
theorem z_Rx_ag (h : z_ag cs I I') (h7 : cs.contains 7 = false) (r : z_Rx I) : z_Rx I' := z_Rx_c (z_ag_p h 17 0 1 (c := 7) rfl h7) (z_ag_p h 33 0 50 (c := 7) rfl h7) (z_ag_t h 18 (c := 7) (fun _ _ => rfl) h7) (z_ag_t h 61 (c := 7) (fun _ _ => rfl) h7) r
theorem z_Tb_ag (h : z_ag cs I I') (h8 : cs.contains 8 = false) (r : z_Tb I) : z_Tb I' := z_Tb_c (z_ag_t h 40 (c := 8) (fun _ _ => rfl) h8) (z_ag_t h 41 (c := 8) (fun _ _ => rfl) h8) (z_ag_t h 42 (c := 8) (fun _ _ => rfl) h8) r
theorem z_67_ag (h : z_ag cs I I') (h9 : cs.contains 9 = false) : I' 67 = I 67 := z_ag_t h 67 (c := 9) (fun _ _ => rfl) h9
/-- scratch and now alone -/
theorem z_R_01 (hR : z_R X I J) (h : z_ag [0, 1] I I') (j1 : J' 31 = J 31) (j2 : J' 57 = J 57) (hn : z_now X I') : z_R X I' J' := by
  obtain ⟨-, r2, r3, r4, r5, r6, r7, r8⟩ := hR
  exact ⟨hn, z_Rk_ag h rfl rfl r2, z_Rt_ag h rfl r3, z_Rr_ag h rfl r4, z_Rh_ag h rfl j1 j2 r5, z_Rv_ag h rfl r6, z_Rx_ag h rfl r7, z_Tb_ag h rfl r8⟩
/-- scratch alone -/
theorem z_R_0 (hR : z_R X I J) (h : z_ag [0] I I') (j1 : J' 31 = J 31) (j2 : J' 57 = J 57) : z_R X I' J' :=
  z_R_01 hR (z_ag_mn h (fun c q => by simp at q ⊢; exact Or.inl q)) j1 j2 (z_now_ag h rfl rfl hR.1)
end
