/-! what class and reference have in common: the relation between their cells -/
/-- masks of roads, of s posts -/
def z_wfm (s : Nat) (m : Nat → Nat) : Prop := (∀ p, p < 10 → m p < 1024) ∧ ∀ p b, p < 10 → (m p).testBit b = true → p < s ∧ b < s ∧ p ≠ b ∧ (m b).testBit p = true
def z_Rn (sz : Nat → Int32) (rw1 : Nat → Nat → Int32) (po ro : Nat → Int32) : Prop :=
  ∀ n, n < 4 → ∃ (s : Nat) (m : Nat → Nat), 1 ≤ s ∧ s ≤ 10 ∧ z_wfm s m ∧ sz n = Int32.ofNat s ∧ po n = Int32.ofNat s ∧ ∀ p, p < 10 → rw1 n p = Int32.ofNat (m p) ∧ ro (10 * n + p) = Int32.ofNat (m p)
/-- forms of m, by their places -/
def z_fon (m : Nat) : Nat := ([0, 1, 2, 4, 11] : List Nat).getD m 0
def z_fm (i : Nat) : Int32 := (z_stc.getD 0 []).getD i 0
def z_Ro (co : Nat → Int32) (mo : Int32) (ou : Nat → Int32) : Prop :=
  ∃ l : List (Nat × Nat), l.length ≤ 4 ∧ l.Nodup ∧ (∀ q ∈ l, 2 ≤ q.1 ∧ q.1 ≤ 4 ∧ q.2 < z_fon q.1) ∧ mo = Int32.ofNat l.length ∧
    (∀ j q, l[j]? = some q → ou (2 * j) = Int32.ofNat q.1 ∧ ou (2 * j + 1) = z_fm q.2) ∧
    ∀ m, 2 ≤ m → m ≤ 4 → ∃ k, k < 2048 ∧ co m = Int32.ofNat k ∧ ∀ i, k.testBit i = true ↔ (m, i) ∈ l
def z_Rl (cp : Int32) (cw cc : Nat → Int32) (mp : Int32) (we ch : Nat → Int32) : Prop :=
  ∃ k, k ≤ 5 ∧ cp = Int32.ofNat k ∧ mp = Int32.ofNat k ∧ (∀ j, j < 5 → cw j = we j) ∧ (∀ j, j < 25 → cc j = ch j) ∧ (∀ j, j < k → ∃ v, 1 ≤ v ∧ v ≤ 9 ∧ we j = Int32.ofNat v) ∧
    ∀ a b, a < k → b < k → ∃ v, v ≤ 4 ∧ ch (5 * a + b) = Int32.ofNat v ∧ ch (5 * b + a) = Int32.ofNat v
def z_kc (c : Nat) : Nat := ([3, 6, 5, 0] : List Nat).getD c 3
def z_kv (c : Nat) (a b : Int32) : Prop := (c = 0 → ∃ m i, 2 ≤ m ∧ m ≤ 3 ∧ i < z_fon m ∧ a = Int32.ofNat m ∧ b = z_fm i) ∧ (c = 2 → (-9 ≤ a ∧ a ≤ 9) ∧ -9 ≤ b ∧ b ≤ 9) ∧ ((c = 1 ∨ c = 3) → ∃ k, k ≤ 9999 ∧ a = Int32.ofNat k)
/-- every place of a row of shares holds nothing or a share -/
def z_Rq (n : Nat) (kc : Nat → Nat) (R : Nat → Option (Nat × Nat)) : Prop := ∀ s, s < 6 → R s = none ∨ ∃ q, R s = some (32, q) ∧ q < n ∧ kc q ∈ ([0, 3, 5, 6] : List Nat)
def z_Rs (n : Nat) (kc : Nat → Nat) (R : Nat → Option (Nat × Nat)) (f32 : Nat → Nat → Int32) (cs : Int32) (cw : Nat → Int32) (ms : Int32) (sh : Nat → Int32) : Prop :=
  ∃ k, (k ≤ 6 ∧ z_Rq n kc R) ∧ cs = Int32.ofNat k ∧ ms = Int32.ofNat k ∧ ∀ s, s < k → ∃ q c, q < n ∧ R s = some (32, q) ∧ kc q = z_kc c ∧ c < 4 ∧ f32 q 0 = Int32.ofNat c ∧ sh (4 * s) = Int32.ofNat c ∧ f32 q 1 = Int32.ofNat s ∧ f32 q 2 = sh (4 * s + 1) ∧ f32 q 3 = sh (4 * s + 2) ∧
    (∃ v, v ≤ 99 ∧ cw s = Int32.ofNat v ∧ sh (4 * s + 3) = Int32.ofNat v) ∧ z_kv c (sh (4 * s + 1)) (sh (4 * s + 2))
/-- a world of the class, w, and one of the reference: outs, parts, shares, z; the rows -/
def z_Rw (X : z_X) (I : Nat → Nat → Nat → Int32) (w : Nat) (mo mp ms mz : Int32) (po ro ou we ch sh : Nat → Int32) : Prop :=
  z_Rn (fun n => I 13 (4 * w + n) 1) (fun n => I 14 (4 * w + n)) po ro ∧ z_Ro (I 3 w) mo ou ∧ z_Rl (I 4 w 2) (I 5 w) (I 6 w) mp we ch ∧ I 1 w 6 = mz ∧ z_Rs X.1 X.2.2.1 (X.2.2.2 11 w) (I 32) (I 1 w 5) (I 12 w) ms sh
def z_Rt (I : Nat → Nat → Nat → Int32) : Prop := ∃ k, k ≤ 160 ∧ I 15 0 1 = Int32.ofNat k ∧ I 33 0 14 = Int32.ofNat k ∧ ∀ j, j < k → I 16 0 j = I 43 0 j ∧ ∃ v, v < 256 ∧ I 43 0 j = Int32.ofNat v
def z_Rr (I : Nat → Nat → Nat → Int32) : Prop := ∃ k, k ≤ 11 ∧ I 0 0 7 = Int32.ofNat k ∧ I 33 0 37 = Int32.ofNat k ∧ ∀ j, j < k → I 19 0 j = I 53 0 (2 * j) ∧ I 20 0 j = I 53 0 (2 * j + 1)
def z_Rh (I : Nat → Nat → Nat → Int32) (J : Nat → Nat → Nat → Int64) : Prop :=
  ∀ n, n < 4 → I 30 n 1 = I 55 0 n ∧ I 30 n 2 = I 56 0 n ∧ ((I 55 0 n = -1 ∧ I 56 0 n = 0) ∨ ∃ s l, s < 4 ∧ l ≤ 40 ∧ I 55 0 n = Int32.ofNat s ∧ I 56 0 n = Int32.ofNat l) ∧ ∀ j, j < 40 → J 31 n j = J 57 0 (40 * n + j) ∧ ∃ x : Int32, J 57 0 (40 * n + j) = x.toInt64
def z_Rv (I : Nat → Nat → Nat → Int32) : Prop :=
  ∀ n, n < 4 → (I 22 0 n = -1 ∧ I 58 0 n = -1) ∨ (I 22 0 n = 0 ∧ I 58 0 n = 0 ∧ I 23 0 n = I 59 0 n ∧ ∃ k, k < 6 ∧ I 59 0 n = Int32.ofNat k) ∨ ∃ s, s < 4 ∧ I 22 0 n = Int32.ofNat (10 + s) ∧ I 58 0 n = 1 ∧ I 59 0 n = Int32.ofNat s ∧ I 23 0 n = I 60 0 n
def z_Rx (I : Nat → Nat → Nat → Int32) : Prop := ∃ k, k ≤ 30 ∧ I 17 0 1 = Int32.ofNat k ∧ I 33 0 50 = Int32.ofNat k ∧ ∀ j, j < k → I 18 0 j = I 61 0 j
def z_fx (c : Nat) : Nat := (((z_stc.getD 1 []).getD c 0).toNatClampNeg)
/-- the reference's tables -/
def z_Tb (I : Nat → Nat → Nat → Int32) : Prop :=
  ∀ m, 1 ≤ m → m ≤ 4 → (∀ c, c < 2 ^ (m * (m - 1) / 2) → I 40 0 (64 * m + c) = z_fm (z_fx c)) ∧ (∀ i, i < z_fon m → I 41 0 (11 * m + i) = z_fm i) ∧ I 42 0 m = Int32.ofNat (z_fon m)
def z_now (X : z_X) (I : Nat → Nat → Nat → Int32) : Prop := z_Rw X I 0 (I 33 0 2) (I 33 0 4) (I 33 0 8) (I 33 0 7) (I 34 0) (I 35 0) (I 36 0) (I 37 0) (I 38 0) (I 39 0)
def z_kep (X : z_X) (I : Nat → Nat → Nat → Int32) : Prop := z_Rw X I 1 (I 62 0 0) (I 62 0 1) (I 62 0 2) (I 62 0 3) (fun j => I 62 0 (4 + j)) (fun j => I 62 0 (8 + j)) (fun j => I 62 0 (48 + j)) (fun j => I 62 0 (56 + j)) (fun j => I 62 0 (61 + j)) (fun j => I 62 0 (86 + j))
def z_Rk (X : z_X) (I : Nat → Nat → Nat → Int32) : Prop := (I 0 0 2 = 0 ∧ I 33 0 52 = 0) ∨ (I 0 0 2 = 1 ∧ I 33 0 52 = 1 ∧ z_kep X I)
def z_R (X : z_X) (I : Nat → Nat → Nat → Int32) (J : Nat → Nat → Nat → Int64) : Prop := z_now X I ∧ z_Rk X I ∧ z_Rt I ∧ z_Rr I ∧ z_Rh I J ∧ z_Rv I ∧ z_Rx I ∧ z_Tb I
/-- the places of ints that the relation speaks of -/
def z_per (t i j : Nat) : Bool := match t with
  | 0 => Nat.beq j 2 || Nat.beq j 7
  | 13 | 14 => Nat.blt i 8
  | 15 => Nat.beq j 1
  | 17 => Nat.beq j 1
  | 33 => ([2, 4, 7, 8, 14, 37, 50, 52] : List Nat).contains j
  | 8 | 9 | 10 | 25 | 26 | 27 | 28 | 29 | 44 | 45 | 46 | 47 | 48 | 49 | 50 | 51 | 52 | 54 | 63 => false
  | _ => true
def z_sam (I I' : Nat → Nat → Nat → Int32) : Prop := ∀ t i j, z_per t i j = true → I' t i j = I t i j
def z_saJ (J J' : Nat → Nat → Nat → Int64) : Prop := J' 31 = J 31 ∧ J' 57 = J 57
theorem z_sam_t {I I' : Nat → Nat → Nat → Int32} (h : z_sam I I') (t : Nat) (ht : ∀ i j, z_per t i j = true) : I' t = I t := by
  funext i j
  exact h t i j (ht i j)
theorem z_Rn_congr {sz sz' po ro : Nat → Int32} {rw1 rw1' : Nat → Nat → Int32} (h1 : ∀ n, n < 4 → sz' n = sz n) (h2 : ∀ n, n < 4 → rw1' n = rw1 n) (h : z_Rn sz rw1 po ro) : z_Rn sz' rw1' po ro := by
  intro n hn
  rw [h1 n hn, h2 n hn]
  exact h n hn
theorem z_Rw_sam {X : z_X} {I I' : Nat → Nat → Nat → Int32} (h : z_sam I I') {w : Nat} (hw : w < 2) {mo mp ms mz : Int32} {po ro ou we ch sh : Nat → Int32} (hR : z_Rw X I w mo mp ms mz po ro ou we ch sh) : z_Rw X I' w mo mp ms mz po ro ou we ch sh := by
  obtain ⟨r1, r2, r3, r4, r5⟩ := hR
  have e13 : ∀ n, n < 4 → I' 13 (4 * w + n) 1 = I 13 (4 * w + n) 1 := fun n hn => h 13 _ _ (by show Nat.blt _ 8 = true; exact Nat.ble_eq_true_of_le (by omega))
  have e14 : ∀ n, n < 4 → I' 14 (4 * w + n) = I 14 (4 * w + n) := fun n hn => funext fun j => h 14 _ _ (by show Nat.blt _ 8 = true; exact Nat.ble_eq_true_of_le (by omega))
  refine ⟨z_Rn_congr e13 e14 r1, ?_, ?_, ?_, ?_⟩
  · rw [z_sam_t h 3 (fun _ _ => rfl)]; exact r2
  · rw [z_sam_t h 4 (fun _ _ => rfl), z_sam_t h 5 (fun _ _ => rfl), z_sam_t h 6 (fun _ _ => rfl)]; exact r3
  · rw [z_sam_t h 1 (fun _ _ => rfl)]; exact r4
  · rw [z_sam_t h 32 (fun _ _ => rfl), z_sam_t h 1 (fun _ _ => rfl), z_sam_t h 12 (fun _ _ => rfl)]; exact r5
/-- what changes scratch cells alone leaves the relation as it is -/
theorem z_R_sam {X : z_X} {I I' : Nat → Nat → Nat → Int32} {J J' : Nat → Nat → Nat → Int64} (h : z_sam I I') (hJ : z_saJ J J') (hR : z_R X I J) : z_R X I' J' := by
  obtain ⟨r1, r2, r3, r4, r5, r6, r7, r8⟩ := hR
  have e33 : ∀ j, z_per 33 0 j = true → I' 33 0 j = I 33 0 j := fun j hj => h 33 0 j hj
  have e0 : ∀ j, z_per 0 0 j = true → I' 0 0 j = I 0 0 j := fun j hj => h 0 0 j hj
  refine ⟨?_, ?_, ?_, ?_, ?_, ?_, ?_, ?_⟩
  · unfold z_now
    rw [e33 2 rfl, e33 4 rfl, e33 8 rfl, e33 7 rfl, z_sam_t h 34 (fun _ _ => rfl), z_sam_t h 35 (fun _ _ => rfl), z_sam_t h 36 (fun _ _ => rfl), z_sam_t h 37 (fun _ _ => rfl), z_sam_t h 38 (fun _ _ => rfl), z_sam_t h 39 (fun _ _ => rfl)]
    exact z_Rw_sam h (by decide) r1
  · unfold z_Rk
    rw [e0 2 rfl, e33 52 rfl]
    refine r2.imp id (fun q => ⟨q.1, q.2.1, ?_⟩)
    unfold z_kep
    rw [z_sam_t h 62 (fun _ _ => rfl)]
    exact z_Rw_sam h (by decide) q.2.2
  · unfold z_Rt
    rw [h 15 0 1 rfl, e33 14 rfl, z_sam_t h 16 (fun _ _ => rfl), z_sam_t h 43 (fun _ _ => rfl)]
    exact r3
  · unfold z_Rr
    rw [e0 7 rfl, e33 37 rfl, z_sam_t h 19 (fun _ _ => rfl), z_sam_t h 20 (fun _ _ => rfl), z_sam_t h 53 (fun _ _ => rfl)]
    exact r4
  · unfold z_Rh
    rw [z_sam_t h 30 (fun _ _ => rfl), z_sam_t h 55 (fun _ _ => rfl), z_sam_t h 56 (fun _ _ => rfl), hJ.1, hJ.2]
    exact r5
  · unfold z_Rv
    rw [z_sam_t h 22 (fun _ _ => rfl), z_sam_t h 23 (fun _ _ => rfl), z_sam_t h 58 (fun _ _ => rfl), z_sam_t h 59 (fun _ _ => rfl), z_sam_t h 60 (fun _ _ => rfl)]
    exact r6
  · unfold z_Rx
    rw [h 17 0 1 rfl, e33 50 rfl, z_sam_t h 18 (fun _ _ => rfl), z_sam_t h 61 (fun _ _ => rfl)]
    exact r7
  · unfold z_Tb
    rw [z_sam_t h 40 (fun _ _ => rfl), z_sam_t h 41 (fun _ _ => rfl), z_sam_t h 42 (fun _ _ => rfl)]
    exact r8
/-- a call of both: one answer, and the relation goes on -/
def z_op (y1 y2 : Nat) (as1 : List z_V) : Prop := ∀ (X : z_X) (I : Nat → Nat → Nat → Int32) (J : Nat → Nat → Nat → Int64), z_R X I J →
  ∃ (v : z_V) (X1 X2 : z_X) (I1 I2 : Nat → Nat → Nat → Int32) (J1 J2 : Nat → Nat → Nat → Int64), z_ev 60 (z_en y1 (z_r 0 0 :: as1) (true, X, I, J)) (some v, (true, X1, I1, J1)) ∧ z_ev 60 (z_en y2 (z_r 33 0 :: as1) (true, X1, I1, J1)) (some v, (true, X2, I2, J2)) ∧
    z_R X2 I2 J2 ∧ X2.1 ≤ X.1 + 1 ∧ X2.2.1 ≤ X.2.1 + 4 ∧ I2 67 = I 67
