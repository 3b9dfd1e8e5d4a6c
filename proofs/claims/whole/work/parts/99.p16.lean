/-! at a limit: the class's way through roads and sorted draws -/
def z_Dr (f : Nat → Nat) (i : Nat) : Nat → Nat → Nat → Nat
  | 0, _, code => if Nat.beq (z_fx code) i then 1 else 0
  | k + 1, p, code => (4 - f p) * z_Dr f i k (p + 1) code + f p * z_Dr f i k (p + 1) (code + 2 ^ p)
def z_Lf : Nat → Nat → Nat → List Nat
  | 0, _, code => [code]
  | k + 1, p, code => z_Lf k (p + 1) code ++ z_Lf k (p + 1) (code + 2 ^ p)
theorem z_Lf_mod : ∀ k p code c, c ∈ z_Lf k p code → code < 2 ^ p → c % 2 ^ p = code
  | 0, p, code, c, h, hc => by
    obtain rfl := List.mem_singleton.mp h
    exact Nat.mod_eq_of_lt hc
  | k + 1, p, code, c, h, hc => by
    have h2 : 2 ^ (p + 1) = 2 ^ p * 2 := Nat.pow_succ 2 p
    have hd : (2 ^ p) ∣ 2 ^ (p + 1) := ⟨2, h2⟩
    rcases List.mem_append.mp h with h | h
    · have h3 := z_Lf_mod k (p + 1) code c h (by omega)
      rw [← Nat.mod_mod_of_dvd c hd, h3]
      exact Nat.mod_eq_of_lt hc
    · have h3 := z_Lf_mod k (p + 1) (code + 2 ^ p) c h (by omega)
      rw [← Nat.mod_mod_of_dvd c hd, h3, Nat.add_mod_right]
      exact Nat.mod_eq_of_lt hc
theorem z_Lf_bit {k p code c : Nat} (h : c ∈ z_Lf k (p + 1) code) (hc : code < 2 ^ (p + 1)) : c.testBit p = code.testBit p := by
  have h1 := z_Lf_mod k (p + 1) code c h hc
  rw [← h1, Nat.testBit_mod_two_pow]
  simp
theorem z_sml_cg {α : Type} {l : List α} {f g : α → Nat} (h : ∀ x ∈ l, f x = g x) : z_sml (l.map f) = z_sml (l.map g) := by
  rw [List.map_congr_left h]
theorem z_sml_mul {α : Type} {l : List α} {f : α → Nat} (a : Nat) : z_sml (l.map (fun x => a * f x)) = a * z_sml (l.map f) := by
  induction l with
  | nil => rfl
  | cons x l ih => show a * f x + _ = a * (f x + _); rw [ih, Nat.mul_add]
def z_lvf (f : Nat → Nat) (i k p c : Nat) : Nat := if Nat.beq (z_fx c) i then z_prd ((List.range' p k).map (z_pv f c)) else 0
theorem z_Dr_Lf (f : Nat → Nat) (i : Nat) : ∀ k p code, code < 2 ^ p → z_Dr f i k p code = z_sml ((z_Lf k p code).map (z_lvf f i k p))
  | 0, p, code, h => rfl
  | k + 1, p, code, h => by
    have h2 : 2 ^ (p + 1) = 2 ^ p * 2 := Nat.pow_succ 2 p
    show (4 - f p) * z_Dr f i k (p + 1) code + f p * z_Dr f i k (p + 1) (code + 2 ^ p) = z_sml ((z_Lf k (p + 1) code ++ z_Lf k (p + 1) (code + 2 ^ p)).map _)
    rw [z_Dr_Lf f i k (p + 1) code (by omega), z_Dr_Lf f i k (p + 1) (code + 2 ^ p) (by omega), List.map_append, z_sml_app, ← z_sml_mul, ← z_sml_mul]
    have b0 : code.testBit p = false := Nat.testBit_lt_two_pow h
    have b1 : (code + 2 ^ p).testBit p = true := by
      rw [Nat.add_comm, Nat.testBit_two_pow_add_eq, b0]; rfl
    have st : ∀ c (v : Nat), z_pv f c p = v → v * z_lvf f i k (p + 1) c = z_lvf f i (k + 1) p c := fun c v hv => by
      unfold z_lvf
      split
      · rw [List.range'_succ, List.map_cons]
        show _ = z_pv f c p * _
        rw [hv]
      · exact Nat.mul_zero v
    congr 1
    · exact z_sml_cg (fun c hc => st c _ (by unfold z_pv; rw [z_Lf_bit hc (by omega), b0]; rfl))
    · exact z_sml_cg (fun c hc => st c _ (by unfold z_pv; rw [z_Lf_bit hc (by omega), b1]; rfl))
theorem z_Lf_perm : (z_Lf 0 0 0).isPerm (List.range (2 ^ 0)) = true ∧ (z_Lf 1 0 0).isPerm (List.range (2 ^ 1)) = true ∧ (z_Lf 3 0 0).isPerm (List.range (2 ^ 3)) = true ∧ (z_Lf 6 0 0).isPerm (List.range (2 ^ 6)) = true := by decide +kernel
theorem z_Dr_Sf {f : Nat → Nat} {i n : Nat} (hn : n = 0 ∨ n = 1 ∨ n = 3 ∨ n = 6) : z_Dr f i n 0 0 = z_Sf f n i := by
  have hp : (z_Lf n 0 0).Perm (List.range (2 ^ n)) := by
    rcases hn with rfl | rfl | rfl | rfl
    · exact List.isPerm_iff.mp z_Lf_perm.1
    · exact List.isPerm_iff.mp z_Lf_perm.2.1
    · exact List.isPerm_iff.mp z_Lf_perm.2.2.1
    · exact List.isPerm_iff.mp z_Lf_perm.2.2.2
  rw [z_Dr_Lf f i n 0 0 (by decide), z_sml_perm (hp.map _)]
  unfold z_Sf
  apply z_sml_cg
  intro c _
  unfold z_lvf z_pp
  rw [List.range_eq_range']
/-- the sorted draws, with how many orders each stands for -/
def z_ext (P : Nat) : Nat → List Nat → Nat → Nat → Nat → List (List Nat × Nat)
  | 0, t, _, _, M => [(t, M)]
  | k + 1, t, fr, al, M => (List.range' fr (P - fr)).flatMap (fun p => z_ext P k (t ++ [p]) p (if t.length ≠ 0 ∧ p = fr then al + 1 else 1) (M * (t.length + 1) / (if t.length ≠ 0 ∧ p = fr then al + 1 else 1)))
def z_dvs (P : Nat) : Nat → List Nat → Nat → Nat → Nat → Bool
  | 0, _, _, _, _ => true
  | k + 1, t, fr, al, M => (List.range' fr (P - fr)).all (fun p => Nat.beq (M * (t.length + 1) % (if t.length ≠ 0 ∧ p = fr then al + 1 else 1)) 0 && z_dvs P k (t ++ [p]) p (if t.length ≠ 0 ∧ p = fr then al + 1 else 1) (M * (t.length + 1) / (if t.length ≠ 0 ∧ p = fr then al + 1 else 1)))
theorem z_dvs_all : ∀ P, P < 6 → ∀ m, m < 5 → z_dvs P m [] 0 0 1 = true := by decide +kernel
def z_tup (P : Nat) : Nat → Nat → List Nat
  | 0, _ => []
  | k + 1, way => way % P :: z_tup P k (way / P)
def z_ins (x : Nat) : List Nat → List Nat
  | [] => [x]
  | y :: l => if Nat.ble x y then x :: y :: l else y :: z_ins x l
def z_srt : List Nat → List Nat
  | [] => []
  | x :: l => z_ins x (z_srt l)
theorem z_ins_perm (x : Nat) : ∀ l, (z_ins x l).Perm (x :: l)
  | [] => List.Perm.refl _
  | y :: l => by
    unfold z_ins
    split
    · exact List.Perm.refl _
    · exact ((z_ins_perm x l).cons y).trans (List.Perm.swap x y l)
theorem z_srt_perm : ∀ l, (z_srt l).Perm l
  | [] => List.Perm.refl _
  | x :: l => (z_ins_perm x (z_srt l)).trans ((z_srt_perm l).cons x)
def z_enc : List Nat → Nat
  | [] => 0
  | x :: l => x + 8 * z_enc l
def z_dec : Nat → Nat → List Nat
  | 0, _ => []
  | k + 1, c => c % 8 :: z_dec k (c / 8)
theorem z_dec_enc : ∀ l : List Nat, (∀ x ∈ l, x < 8) → z_dec l.length (z_enc l) = l
  | [], _ => rfl
  | x :: l, h => by
    show (x + 8 * z_enc l) % 8 :: z_dec l.length ((x + 8 * z_enc l) / 8) = x :: l
    have hx := h x (List.mem_cons_self ..)
    rw [show (x + 8 * z_enc l) % 8 = x by omega, show (x + 8 * z_enc l) / 8 = z_enc l by omega, z_dec_enc l (fun y hy => h y (List.mem_cons_of_mem x hy))]
theorem z_tup_lt {P : Nat} (hP : 1 ≤ P) : ∀ k way, (z_tup P k way).length = k ∧ ∀ x ∈ z_tup P k way, x < P
  | 0, _ => ⟨rfl, fun _ h => absurd h List.not_mem_nil⟩
  | k + 1, way => ⟨congrArg (· + 1) (z_tup_lt hP k (way / P)).1, fun x h => by
    rcases List.mem_cons.mp h with rfl | h
    · exact Nat.mod_lt _ (by omega)
    · exact (z_tup_lt hP k (way / P)).2 x h⟩
theorem z_xt : ∀ P, P < 6 → 1 ≤ P → ∀ m, m < 5 → 1 ≤ m → ((List.range (P ^ m)).map (fun way => z_enc (z_srt (z_tup P m way)))).isPerm ((z_ext P m [] 0 0 1).flatMap (fun q => List.replicate q.2 (z_enc q.1))) = true ∧ (z_ext P m [] 0 0 1).all (fun q => (z_dec m (z_enc q.1)) == q.1) = true := by decide +kernel
