/-! what is there at a limit: sums over all draws and over sorted ones -/
def z_prd : List Nat → Nat
  | [] => 1
  | x :: l => x * z_prd l
def z_sml : List Nat → Nat
  | [] => 0
  | x :: l => x + z_sml l
theorem z_prd_perm {l l' : List Nat} (h : l.Perm l') : z_prd l = z_prd l' := by
  induction h with
  | nil => rfl
  | cons x p ih => show x * _ = x * _; rw [ih]
  | swap x y l => show y * (x * _) = x * (y * _); exact Nat.mul_left_comm y x _
  | trans p1 p2 i1 i2 => exact i1.trans i2
theorem z_sml_perm {l l' : List Nat} (h : l.Perm l') : z_sml l = z_sml l' := by
  induction h with
  | nil => rfl
  | cons x p ih => show x + _ = x + _; rw [ih]
  | swap x y l => show y + (x + _) = x + (y + _); exact Nat.add_left_comm y x _
  | trans p1 p2 i1 i2 => exact i1.trans i2
theorem z_sml_app (l l' : List Nat) : z_sml (l ++ l') = z_sml l + z_sml l' := by
  induction l with
  | nil => show _ = 0 + _; rw [Nat.zero_add]; rfl
  | cons x l ih => show x + z_sml (l ++ l') = x + z_sml l + _; rw [ih]; omega
def z_pv (f : Nat → Nat) (code p : Nat) : Nat := if code.testBit p then f p else 4 - f p
def z_pp (f : Nat → Nat) (code n : Nat) : Nat := z_prd ((List.range n).map (z_pv f code))
def z_Sf (f : Nat → Nat) (n i : Nat) : Nat := z_sml ((List.range (2 ^ n)).map (fun code => if Nat.beq (z_fx code) i then z_pp f code n else 0))
theorem z_pp_congr {f f' : Nat → Nat} {n : Nat} (h : ∀ p, p < n → f p = f' p) (code : Nat) : z_pp f code n = z_pp f' code n := by
  unfold z_pp
  congr 1
  apply List.map_congr_left
  intro p hp
  unfold z_pv
  rw [h p (List.mem_range.mp hp)]
theorem z_Sf_congr {f f' : Nat → Nat} {n : Nat} (h : ∀ p, p < n → f p = f' p) (i : Nat) : z_Sf f n i = z_Sf f' n i := by
  unfold z_Sf
  congr 1
  apply List.map_congr_left
  intro c _
  rw [z_pp_congr h c]
theorem z_Sf_sym {f : Nat → Nat} {n i : Nat} {sg : Nat → Nat} {cg : Nat → Nat} (h1 : ((List.range n).map sg).Perm (List.range n)) (h2 : ∀ p, p < n → sg (sg p) = p) (h3 : ∀ c, c < 2 ^ n → z_fx (cg c) = z_fx c) (h5 : ∀ c, c < 2 ^ n → ∀ p, p < n → (cg c).testBit p = c.testBit (sg p)) (h4 : ((List.range (2 ^ n)).map cg).Perm (List.range (2 ^ n))) : z_Sf (fun p => f (sg p)) n i = z_Sf f n i := by
  have key : ∀ c, c < 2 ^ n → z_pp (fun p => f (sg p)) c n = z_pp f (cg c) n := fun c hc => by
    unfold z_pp
    rw [← z_prd_perm (h1.map (z_pv f (cg c))), List.map_map]
    congr 1
    apply List.map_congr_left
    intro p hp
    have hp := List.mem_range.mp hp
    show z_pv (fun p => f (sg p)) c p = z_pv f (cg c) (sg p)
    unfold z_pv
    have hs : sg p < n := by
      have : sg p ∈ (List.range n).map sg := List.mem_map.mpr ⟨p, List.mem_range.mpr hp, rfl⟩
      exact List.mem_range.mp (h1.mem_iff.mp this)
    rw [h5 c hc (sg p) hs, h2 p hp]
  unfold z_Sf
  rw [← z_sml_perm (h4.map (fun code => if Nat.beq (z_fx code) i then z_pp f code n else 0)), List.map_map]
  congr 1
  apply List.map_congr_left
  intro c hc
  have hc := List.mem_range.mp hc
  show (if Nat.beq (z_fx c) i then z_pp (fun p => f (sg p)) c n else 0) = (if Nat.beq (z_fx (cg c)) i then z_pp f (cg c) n else 0)
  rw [key c hc, h3 c hc]
def z_tb (l : List Nat) (p : Nat) : Nat := l.getD p 0
/-- a code whose bits are moved -/
def z_cg (l : List Nat) (c : Nat) : Nat := z_sml ((List.range l.length).map (fun p => if c.testBit (z_tb l p) then 2 ^ p else 0))
theorem z_y3a : ((List.range 3).map (z_tb [0, 2, 1])).isPerm (List.range 3) = true ∧ (∀ p, p < 3 → z_tb [0, 2, 1] (z_tb [0, 2, 1] p) = p) ∧ (∀ c, c < 2 ^ 3 → z_fx (z_cg [0, 2, 1] c) = z_fx c) ∧ (∀ c, c < 2 ^ 3 → ∀ p, p < 3 → (z_cg [0, 2, 1] c).testBit p = c.testBit (z_tb [0, 2, 1] p)) ∧ ((List.range (2 ^ 3)).map (z_cg [0, 2, 1])).isPerm (List.range (2 ^ 3)) = true := by decide +kernel
theorem z_y3b : ((List.range 3).map (z_tb [1, 0, 2])).isPerm (List.range 3) = true ∧ (∀ p, p < 3 → z_tb [1, 0, 2] (z_tb [1, 0, 2] p) = p) ∧ (∀ c, c < 2 ^ 3 → z_fx (z_cg [1, 0, 2] c) = z_fx c) ∧ (∀ c, c < 2 ^ 3 → ∀ p, p < 3 → (z_cg [1, 0, 2] c).testBit p = c.testBit (z_tb [1, 0, 2] p)) ∧ ((List.range (2 ^ 3)).map (z_cg [1, 0, 2])).isPerm (List.range (2 ^ 3)) = true := by decide +kernel
theorem z_y4a : ((List.range 6).map (z_tb [0, 2, 1, 4, 3, 5])).isPerm (List.range 6) = true ∧ (∀ p, p < 6 → z_tb [0, 2, 1, 4, 3, 5] (z_tb [0, 2, 1, 4, 3, 5] p) = p) ∧ (∀ c, c < 2 ^ 6 → z_fx (z_cg [0, 2, 1, 4, 3, 5] c) = z_fx c) ∧ (∀ c, c < 2 ^ 6 → ∀ p, p < 6 → (z_cg [0, 2, 1, 4, 3, 5] c).testBit p = c.testBit (z_tb [0, 2, 1, 4, 3, 5] p)) ∧ ((List.range (2 ^ 6)).map (z_cg [0, 2, 1, 4, 3, 5])).isPerm (List.range (2 ^ 6)) = true := by decide +kernel
theorem z_y4b : ((List.range 6).map (z_tb [1, 0, 2, 3, 5, 4])).isPerm (List.range 6) = true ∧ (∀ p, p < 6 → z_tb [1, 0, 2, 3, 5, 4] (z_tb [1, 0, 2, 3, 5, 4] p) = p) ∧ (∀ c, c < 2 ^ 6 → z_fx (z_cg [1, 0, 2, 3, 5, 4] c) = z_fx c) ∧ (∀ c, c < 2 ^ 6 → ∀ p, p < 6 → (z_cg [1, 0, 2, 3, 5, 4] c).testBit p = c.testBit (z_tb [1, 0, 2, 3, 5, 4] p)) ∧ ((List.range (2 ^ 6)).map (z_cg [1, 0, 2, 3, 5, 4])).isPerm (List.range (2 ^ 6)) = true := by decide +kernel
theorem z_y4c : ((List.range 6).map (z_tb [0, 3, 4, 1, 2, 5])).isPerm (List.range 6) = true ∧ (∀ p, p < 6 → z_tb [0, 3, 4, 1, 2, 5] (z_tb [0, 3, 4, 1, 2, 5] p) = p) ∧ (∀ c, c < 2 ^ 6 → z_fx (z_cg [0, 3, 4, 1, 2, 5] c) = z_fx c) ∧ (∀ c, c < 2 ^ 6 → ∀ p, p < 6 → (z_cg [0, 3, 4, 1, 2, 5] c).testBit p = c.testBit (z_tb [0, 3, 4, 1, 2, 5] p)) ∧ ((List.range (2 ^ 6)).map (z_cg [0, 3, 4, 1, 2, 5])).isPerm (List.range (2 ^ 6)) = true := by decide +kernel
theorem z_Sf_y {f : Nat → Nat} {n i : Nat} {l : List Nat} (h : ((List.range n).map (z_tb l)).isPerm (List.range n) = true ∧ (∀ p, p < n → z_tb l (z_tb l p) = p) ∧ (∀ c, c < 2 ^ n → z_fx (z_cg l c) = z_fx c) ∧ (∀ c, c < 2 ^ n → ∀ p, p < n → (z_cg l c).testBit p = c.testBit (z_tb l p)) ∧ ((List.range (2 ^ n)).map (z_cg l)).isPerm (List.range (2 ^ n)) = true) : z_Sf (fun p => f (z_tb l p)) n i = z_Sf f n i := z_Sf_sym (List.isPerm_iff.mp h.1) h.2.1 h.2.2.1 h.2.2.2.1 (List.isPerm_iff.mp h.2.2.2.2)
/-- the chance of a pair of the posts drawn -/
def z_ftp (cN : Nat → Nat → Nat) (t : List Nat) (p : Nat) : Nat := cN (t.getD (z_plo p) 0) (t.getD (z_phi p) 0)
def z_Gt (w : Nat → Nat) (cN : Nat → Nat → Nat) (i : Nat) (t : List Nat) : Nat := z_prd (t.map w) * z_Sf (z_ftp cN t) (t.length * (t.length - 1) / 2) i
theorem z_Gt_sw {w : Nat → Nat} {cN : Nat → Nat → Nat} {i x y : Nat} (hxy : cN x y = cN y x) : ∀ (A B : List Nat), A.length + B.length ≤ 2 → z_Gt w cN i (A ++ x :: y :: B) = z_Gt w cN i (A ++ y :: x :: B) := by
  have hp : ∀ A B : List Nat, z_prd ((A ++ x :: y :: B).map w) = z_prd ((A ++ y :: x :: B).map w) := fun A B => z_prd_perm (List.Perm.map w (List.Perm.append_left A (List.Perm.swap y x B)))
  have hl : ∀ A B : List Nat, (A ++ x :: y :: B).length = (A ++ y :: x :: B).length := fun A B => by simp
  intro A B h
  unfold z_Gt
  rw [hp A B, hl A B]
  congr 1
  match A, B, h with
  | [], [], _ =>
    rw [show ([] ++ [y, x] : List Nat).length * (([] ++ [y, x] : List Nat).length - 1) / 2 = 1 by simp]
    show z_Sf (z_ftp cN [x, y]) 1 i = z_Sf (z_ftp cN [y, x]) 1 i
    exact z_Sf_congr (f := z_ftp cN [x, y]) (f' := z_ftp cN [y, x]) (n := 1) (fun p hp => (by obtain rfl : p = 0 := (by omega); exact hxy)) i
  | [], [z], _ =>
    rw [show ([] ++ [y, x, z] : List Nat).length * (([] ++ [y, x, z] : List Nat).length - 1) / 2 = 3 by simp]
    show z_Sf (z_ftp cN [x, y, z]) 3 i = z_Sf (z_ftp cN [y, x, z]) 3 i
    refine (z_Sf_congr (f := z_ftp cN [x, y, z]) (n := 3) (f' := fun p => z_ftp cN [y, x, z] (z_tb [0, 2, 1] p)) (fun p hp => ?_) i).trans (z_Sf_y (f := z_ftp cN [y, x, z]) z_y3a)
    rcases (by omega : p = 0 ∨ p = 1 ∨ p = 2) with rfl | rfl | rfl
    · exact hxy
    · rfl
    · rfl
  | [v], [], _ =>
    rw [show ([v] ++ [y, x] : List Nat).length * (([v] ++ [y, x] : List Nat).length - 1) / 2 = 3 by simp]
    show z_Sf (z_ftp cN [v, x, y]) 3 i = z_Sf (z_ftp cN [v, y, x]) 3 i
    refine (z_Sf_congr (f := z_ftp cN [v, x, y]) (n := 3) (f' := fun p => z_ftp cN [v, y, x] (z_tb [1, 0, 2] p)) (fun p hp => ?_) i).trans (z_Sf_y (f := z_ftp cN [v, y, x]) z_y3b)
    rcases (by omega : p = 0 ∨ p = 1 ∨ p = 2) with rfl | rfl | rfl
    · rfl
    · rfl
    · exact hxy
  | [], [z, u], _ =>
    rw [show ([] ++ [y, x, z, u] : List Nat).length * (([] ++ [y, x, z, u] : List Nat).length - 1) / 2 = 6 by simp]
    show z_Sf (z_ftp cN [x, y, z, u]) 6 i = z_Sf (z_ftp cN [y, x, z, u]) 6 i
    refine (z_Sf_congr (f := z_ftp cN [x, y, z, u]) (n := 6) (f' := fun p => z_ftp cN [y, x, z, u] (z_tb [0, 2, 1, 4, 3, 5] p)) (fun p hp => ?_) i).trans (z_Sf_y (f := z_ftp cN [y, x, z, u]) z_y4a)
    rcases (by omega : p = 0 ∨ p = 1 ∨ p = 2 ∨ p = 3 ∨ p = 4 ∨ p = 5) with rfl | rfl | rfl | rfl | rfl | rfl
    · exact hxy
    · rfl
    · rfl
    · rfl
    · rfl
    · rfl
  | [v], [z], _ =>
    rw [show ([v] ++ [y, x, z] : List Nat).length * (([v] ++ [y, x, z] : List Nat).length - 1) / 2 = 6 by simp]
    show z_Sf (z_ftp cN [v, x, y, z]) 6 i = z_Sf (z_ftp cN [v, y, x, z]) 6 i
    refine (z_Sf_congr (f := z_ftp cN [v, x, y, z]) (n := 6) (f' := fun p => z_ftp cN [v, y, x, z] (z_tb [1, 0, 2, 3, 5, 4] p)) (fun p hp => ?_) i).trans (z_Sf_y (f := z_ftp cN [v, y, x, z]) z_y4b)
    rcases (by omega : p = 0 ∨ p = 1 ∨ p = 2 ∨ p = 3 ∨ p = 4 ∨ p = 5) with rfl | rfl | rfl | rfl | rfl | rfl
    · rfl
    · rfl
    · exact hxy
    · rfl
    · rfl
    · rfl
  | [v, u], [], _ =>
    rw [show ([v, u] ++ [y, x] : List Nat).length * (([v, u] ++ [y, x] : List Nat).length - 1) / 2 = 6 by simp]
    show z_Sf (z_ftp cN [v, u, x, y]) 6 i = z_Sf (z_ftp cN [v, u, y, x]) 6 i
    refine (z_Sf_congr (f := z_ftp cN [v, u, x, y]) (n := 6) (f' := fun p => z_ftp cN [v, u, y, x] (z_tb [0, 3, 4, 1, 2, 5] p)) (fun p hp => ?_) i).trans (z_Sf_y (f := z_ftp cN [v, u, y, x]) z_y4c)
    rcases (by omega : p = 0 ∨ p = 1 ∨ p = 2 ∨ p = 3 ∨ p = 4 ∨ p = 5) with rfl | rfl | rfl | rfl | rfl | rfl
    · rfl
    · rfl
    · rfl
    · rfl
    · rfl
    · exact hxy
  | [], _ :: _ :: _ :: _, h => exact absurd h (by simp only [List.length_cons, List.length_nil]; omega)
  | [_], _ :: _ :: _, h => exact absurd h (by simp only [List.length_cons, List.length_nil]; omega)
  | [_, _], _ :: _, h => exact absurd h (by simp only [List.length_cons, List.length_nil]; omega)
  | _ :: _ :: _ :: _, _, h => exact absurd h (by simp only [List.length_cons]; omega)
theorem z_Gt_perm {w : Nat → Nat} {cN : Nat → Nat → Nat} {i P : Nat} (hc : ∀ a b, a < P → b < P → cN a b = cN b a) {l l' : List Nat} (h : l.Perm l') : ∀ A : List Nat, (∀ x ∈ l, x < P) → A.length + l.length ≤ 4 → z_Gt w cN i (A ++ l) = z_Gt w cN i (A ++ l') := by
  induction h with
  | nil => intro A _ _; rfl
  | cons x p ih =>
    intro A hb hl
    have h9 := ih (A ++ [x]) (fun y hy => hb y (List.mem_cons_of_mem x hy)) (by rw [List.length_cons] at hl; rw [List.length_append, List.length_singleton]; omega)
    rw [List.append_assoc, List.append_assoc] at h9
    exact h9
  | swap x y l =>
    intro A hb hl
    rw [List.length_cons, List.length_cons] at hl
    exact z_Gt_sw (hc y x (hb y (by simp)) (hb x (by simp))) A l (by omega)
  | trans p1 p2 ih1 ih2 =>
    intro A hb hl
    rw [ih1 A hb hl]
    exact ih2 A (fun x hx => hb x (p1.mem_iff.mpr hx)) (by rw [← p1.length_eq]; exact hl)
