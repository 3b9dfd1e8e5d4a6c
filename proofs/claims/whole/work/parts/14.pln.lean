/-! each plain instruction: what the interpreter does the machine does -/
def z_Fx (G : z_G) (L : Nat) (xs : Nat → Int32) (p : Program) (s : State) (m : MethodId) (meth : Method) (c : Code) (y : Nat) (M0 : z_M) : Prop :=
  p.tables.exec = Jvm.exec ∧ c.code = (z_mi y).2.1 ∧ c.maxLocals = z_ml y ∧ s.vm.findClass (z_nm y).cls = some m.cls ∧ meth.sig.returnType = (z_mi y).2.2.2 ∧ meth.locks = false ∧ meth.name = (z_nm y).name ∧ z_St G L xs M0 s
/-- from a place of the interpreter's the machine comes to Q -/
def z_K (G : z_G) (L : Nat) (xs : Nat → Int32) (p : Program) (l : Launch) (e : Env) (R : Room) (s : State) (m : MethodId) (args : Array Value) (below : List Frame) (meth : Method) (c : Code) (Q : State → Prop) (n0 s0 : Nat) (cf : z_C) : Prop :=
  ∀ (H : Heap) (locs : List Loc) (lsC : Array Slot), z_Rp G L xs s cf.2.2.2.2 H locs → z_Lh G cf.2.2.1 (z_ml cf.1) lsC → W p l e R s m args below meth c H locs (z_nc cf.2.2.2.2 - n0) (z_sl cf.2.2.2.2 - s0) Q (F0 m cf.2.1 lsC (cf.2.2.2.1.map (z_tv G)))
theorem z_wk_use {w : Cond} (hw : z_wk w = true) {s : State} {args : Array Value} (h : va_Nw w s) : w.before args s = true := by
  unfold z_wk at hw
  split at hw
  all_goals first
    | exact va_Nw.use rfl h
    | exact va_AO.use h
    | exact h
    | (simp only [Bool.and_eq_true] at hw; exact va_Nw.use hw.1 h)
theorem z_Fx.words {G : z_G} {L : Nat} {xs : Nat → Int32} {p : Program} {s : State} {m : MethodId} {meth : Method} {c : Code} {y : Nat} {M0 : z_M} (F : z_Fx G L xs p s m meth c y M0) (args : Array Value) : ∀ w ∈ z_tbl, w.before args s = true :=
  fun w hw => z_wk_use (List.all_eq_true.mp z_wk_all w hw) (F.2.2.2.2.2.2.2.2.2.2.2.2.1 w hw)
theorem z_tv_ref {G : z_G} (hx : ∀ t i, G.2.2.2 t i = .null ∨ ∃ a, G.2.2.2 t i = .ref a) (x : (Nat × Nat) ⊕ Unit) : z_tv G (Sum.inr (Sum.inr x)) = .null ∨ ∃ a, z_tv G (Sum.inr (Sum.inr x)) = .ref a := by
  match x with
  | Sum.inr () => exact Or.inl rfl
  | Sum.inl (t, i) =>
    unfold z_tv
    dsimp only
    split
    · exact Or.inr ⟨_, rfl⟩
    · exact hx t i
section
variable {G : z_G} {L : Nat} {xs : Nat → Int32} {p : Program} {l : Launch} {e : Env} {R : Room} {s : State} {m : MethodId} {args : Array Value} {below : List Frame} {meth : Method} {c : Code} {Q : State → Prop} {n0 s0 : Nat} {M0 : z_M}
variable {y pc len a b e' f : Nat} {ki : Int32} {kj : Int64} {ls : List (Option z_V)} {st : List z_V} {M : z_M} {c' : z_C}
theorem z_Fx.ex (F : z_Fx G L xs p s m meth c y M0) : ∀ t i, G.2.2.2 t i = .null ∨ ∃ a, G.2.2.2 t i = .ref a := F.2.2.2.2.2.2.2.2.2.2.2.2.2.1
theorem z_s_iadd (F : z_Fx G L xs p s m meth c y M0) (hcd : z_cd y pc = some (.iadd, len, (a, b, e', f), ki, kj)) (h : z_step (y, pc, ls, st, M) = Sum.inl c') (K : z_K G L xs p l e R s m args below meth c Q n0 s0 c') : z_K G L xs p l e R s m args below meth c Q n0 s0 (y, pc, ls, st, M) := by
  obtain ⟨hd, ho, hn⟩ := z_cd_ok hcd
  have hxx := F.ex
  have hw := F.words args
  obtain ⟨hx, hb, hml, hown, -⟩ := F
  simp only [z_step, hcd] at h
  obtain rfl : len = 1 := Nat.eq_of_beq_eq_true ho
  split at h
  · cases h
    intro H locs lsC hR hl
    exact lv_iadd hx hb hd (K H locs lsC hR hl)
  · cases h
theorem z_s_isub (F : z_Fx G L xs p s m meth c y M0) (hcd : z_cd y pc = some (.isub, len, (a, b, e', f), ki, kj)) (h : z_step (y, pc, ls, st, M) = Sum.inl c') (K : z_K G L xs p l e R s m args below meth c Q n0 s0 c') : z_K G L xs p l e R s m args below meth c Q n0 s0 (y, pc, ls, st, M) := by
  obtain ⟨hd, ho, hn⟩ := z_cd_ok hcd
  have hxx := F.ex
  have hw := F.words args
  obtain ⟨hx, hb, hml, hown, -⟩ := F
  simp only [z_step, hcd] at h
  obtain rfl : len = 1 := Nat.eq_of_beq_eq_true ho
  split at h
  · cases h
    intro H locs lsC hR hl
    exact lv_isub hx hb hd (K H locs lsC hR hl)
  · cases h
theorem z_s_imul (F : z_Fx G L xs p s m meth c y M0) (hcd : z_cd y pc = some (.imul, len, (a, b, e', f), ki, kj)) (h : z_step (y, pc, ls, st, M) = Sum.inl c') (K : z_K G L xs p l e R s m args below meth c Q n0 s0 c') : z_K G L xs p l e R s m args below meth c Q n0 s0 (y, pc, ls, st, M) := by
  obtain ⟨hd, ho, hn⟩ := z_cd_ok hcd
  have hxx := F.ex
  have hw := F.words args
  obtain ⟨hx, hb, hml, hown, -⟩ := F
  simp only [z_step, hcd] at h
  obtain rfl : len = 1 := Nat.eq_of_beq_eq_true ho
  split at h
  · cases h
    intro H locs lsC hR hl
    exact lv_imul hx hb hd (K H locs lsC hR hl)
  · cases h
theorem z_s_iand (F : z_Fx G L xs p s m meth c y M0) (hcd : z_cd y pc = some (.iand, len, (a, b, e', f), ki, kj)) (h : z_step (y, pc, ls, st, M) = Sum.inl c') (K : z_K G L xs p l e R s m args below meth c Q n0 s0 c') : z_K G L xs p l e R s m args below meth c Q n0 s0 (y, pc, ls, st, M) := by
  obtain ⟨hd, ho, hn⟩ := z_cd_ok hcd
  have hxx := F.ex
  have hw := F.words args
  obtain ⟨hx, hb, hml, hown, -⟩ := F
  simp only [z_step, hcd] at h
  obtain rfl : len = 1 := Nat.eq_of_beq_eq_true ho
  split at h
  · cases h
    intro H locs lsC hR hl
    exact lv_iand hx hb hd (K H locs lsC hR hl)
  · cases h
theorem z_s_ior (F : z_Fx G L xs p s m meth c y M0) (hcd : z_cd y pc = some (.ior, len, (a, b, e', f), ki, kj)) (h : z_step (y, pc, ls, st, M) = Sum.inl c') (K : z_K G L xs p l e R s m args below meth c Q n0 s0 c') : z_K G L xs p l e R s m args below meth c Q n0 s0 (y, pc, ls, st, M) := by
  obtain ⟨hd, ho, hn⟩ := z_cd_ok hcd
  have hxx := F.ex
  have hw := F.words args
  obtain ⟨hx, hb, hml, hown, -⟩ := F
  simp only [z_step, hcd] at h
  obtain rfl : len = 1 := Nat.eq_of_beq_eq_true ho
  split at h
  · cases h
    intro H locs lsC hR hl
    exact lv_ior hx hb hd (K H locs lsC hR hl)
  · cases h
theorem z_s_ixor (F : z_Fx G L xs p s m meth c y M0) (hcd : z_cd y pc = some (.ixor, len, (a, b, e', f), ki, kj)) (h : z_step (y, pc, ls, st, M) = Sum.inl c') (K : z_K G L xs p l e R s m args below meth c Q n0 s0 c') : z_K G L xs p l e R s m args below meth c Q n0 s0 (y, pc, ls, st, M) := by
  obtain ⟨hd, ho, hn⟩ := z_cd_ok hcd
  have hxx := F.ex
  have hw := F.words args
  obtain ⟨hx, hb, hml, hown, -⟩ := F
  simp only [z_step, hcd] at h
  obtain rfl : len = 1 := Nat.eq_of_beq_eq_true ho
  split at h
  · cases h
    intro H locs lsC hR hl
    exact lv_ixor hx hb hd (K H locs lsC hR hl)
  · cases h
theorem z_s_ishl (F : z_Fx G L xs p s m meth c y M0) (hcd : z_cd y pc = some (.ishl, len, (a, b, e', f), ki, kj)) (h : z_step (y, pc, ls, st, M) = Sum.inl c') (K : z_K G L xs p l e R s m args below meth c Q n0 s0 c') : z_K G L xs p l e R s m args below meth c Q n0 s0 (y, pc, ls, st, M) := by
  obtain ⟨hd, ho, hn⟩ := z_cd_ok hcd
  have hxx := F.ex
  have hw := F.words args
  obtain ⟨hx, hb, hml, hown, -⟩ := F
  simp only [z_step, hcd] at h
  obtain rfl : len = 1 := Nat.eq_of_beq_eq_true ho
  split at h
  · cases h
    intro H locs lsC hR hl
    exact lv_ishl hx hb hd (K H locs lsC hR hl)
  · cases h
theorem z_s_ishr (F : z_Fx G L xs p s m meth c y M0) (hcd : z_cd y pc = some (.ishr, len, (a, b, e', f), ki, kj)) (h : z_step (y, pc, ls, st, M) = Sum.inl c') (K : z_K G L xs p l e R s m args below meth c Q n0 s0 c') : z_K G L xs p l e R s m args below meth c Q n0 s0 (y, pc, ls, st, M) := by
  obtain ⟨hd, ho, hn⟩ := z_cd_ok hcd
  have hxx := F.ex
  have hw := F.words args
  obtain ⟨hx, hb, hml, hown, -⟩ := F
  simp only [z_step, hcd] at h
  obtain rfl : len = 1 := Nat.eq_of_beq_eq_true ho
  split at h
  · cases h
    intro H locs lsC hR hl
    exact lv_ishr hx hb hd (K H locs lsC hR hl)
  · cases h
theorem z_s_ladd (F : z_Fx G L xs p s m meth c y M0) (hcd : z_cd y pc = some (.ladd, len, (a, b, e', f), ki, kj)) (h : z_step (y, pc, ls, st, M) = Sum.inl c') (K : z_K G L xs p l e R s m args below meth c Q n0 s0 c') : z_K G L xs p l e R s m args below meth c Q n0 s0 (y, pc, ls, st, M) := by
  obtain ⟨hd, ho, hn⟩ := z_cd_ok hcd
  have hxx := F.ex
  have hw := F.words args
  obtain ⟨hx, hb, hml, hown, -⟩ := F
  simp only [z_step, hcd] at h
  obtain rfl : len = 1 := Nat.eq_of_beq_eq_true ho
  split at h
  · cases h
    intro H locs lsC hR hl
    exact lv_ladd hx hb hd (K H locs lsC hR hl)
  · cases h
theorem z_s_lsub (F : z_Fx G L xs p s m meth c y M0) (hcd : z_cd y pc = some (.lsub, len, (a, b, e', f), ki, kj)) (h : z_step (y, pc, ls, st, M) = Sum.inl c') (K : z_K G L xs p l e R s m args below meth c Q n0 s0 c') : z_K G L xs p l e R s m args below meth c Q n0 s0 (y, pc, ls, st, M) := by
  obtain ⟨hd, ho, hn⟩ := z_cd_ok hcd
  have hxx := F.ex
  have hw := F.words args
  obtain ⟨hx, hb, hml, hown, -⟩ := F
  simp only [z_step, hcd] at h
  obtain rfl : len = 1 := Nat.eq_of_beq_eq_true ho
  split at h
  · cases h
    intro H locs lsC hR hl
    exact lv_lsub hx hb hd (K H locs lsC hR hl)
  · cases h
theorem z_s_lmul (F : z_Fx G L xs p s m meth c y M0) (hcd : z_cd y pc = some (.lmul, len, (a, b, e', f), ki, kj)) (h : z_step (y, pc, ls, st, M) = Sum.inl c') (K : z_K G L xs p l e R s m args below meth c Q n0 s0 c') : z_K G L xs p l e R s m args below meth c Q n0 s0 (y, pc, ls, st, M) := by
  obtain ⟨hd, ho, hn⟩ := z_cd_ok hcd
  have hxx := F.ex
  have hw := F.words args
  obtain ⟨hx, hb, hml, hown, -⟩ := F
  simp only [z_step, hcd] at h
  obtain rfl : len = 1 := Nat.eq_of_beq_eq_true ho
  split at h
  · cases h
    intro H locs lsC hR hl
    exact lv_lmul hx hb hd (K H locs lsC hR hl)
  · cases h
theorem z_s_land (F : z_Fx G L xs p s m meth c y M0) (hcd : z_cd y pc = some (.land, len, (a, b, e', f), ki, kj)) (h : z_step (y, pc, ls, st, M) = Sum.inl c') (K : z_K G L xs p l e R s m args below meth c Q n0 s0 c') : z_K G L xs p l e R s m args below meth c Q n0 s0 (y, pc, ls, st, M) := by
  obtain ⟨hd, ho, hn⟩ := z_cd_ok hcd
  have hxx := F.ex
  have hw := F.words args
  obtain ⟨hx, hb, hml, hown, -⟩ := F
  simp only [z_step, hcd] at h
  obtain rfl : len = 1 := Nat.eq_of_beq_eq_true ho
  split at h
  · cases h
    intro H locs lsC hR hl
    exact lv_land hx hb hd (K H locs lsC hR hl)
  · cases h
theorem z_s_lor (F : z_Fx G L xs p s m meth c y M0) (hcd : z_cd y pc = some (.lor, len, (a, b, e', f), ki, kj)) (h : z_step (y, pc, ls, st, M) = Sum.inl c') (K : z_K G L xs p l e R s m args below meth c Q n0 s0 c') : z_K G L xs p l e R s m args below meth c Q n0 s0 (y, pc, ls, st, M) := by
  obtain ⟨hd, ho, hn⟩ := z_cd_ok hcd
  have hxx := F.ex
  have hw := F.words args
  obtain ⟨hx, hb, hml, hown, -⟩ := F
  simp only [z_step, hcd] at h
  obtain rfl : len = 1 := Nat.eq_of_beq_eq_true ho
  split at h
  · cases h
    intro H locs lsC hR hl
    exact lv_lor hx hb hd (K H locs lsC hR hl)
  · cases h
theorem z_s_lneg (F : z_Fx G L xs p s m meth c y M0) (hcd : z_cd y pc = some (.lneg, len, (a, b, e', f), ki, kj)) (h : z_step (y, pc, ls, st, M) = Sum.inl c') (K : z_K G L xs p l e R s m args below meth c Q n0 s0 c') : z_K G L xs p l e R s m args below meth c Q n0 s0 (y, pc, ls, st, M) := by
  obtain ⟨hd, ho, hn⟩ := z_cd_ok hcd
  have hxx := F.ex
  have hw := F.words args
  obtain ⟨hx, hb, hml, hown, -⟩ := F
  simp only [z_step, hcd] at h
  obtain rfl : len = 1 := Nat.eq_of_beq_eq_true ho
  split at h
  · cases h
    intro H locs lsC hR hl
    exact lv_lneg hx hb hd (K H locs lsC hR hl)
  · cases h
theorem z_s_iushr (F : z_Fx G L xs p s m meth c y M0) (hcd : z_cd y pc = some (.iushr, len, (a, b, e', f), ki, kj)) (h : z_step (y, pc, ls, st, M) = Sum.inl c') (K : z_K G L xs p l e R s m args below meth c Q n0 s0 c') : z_K G L xs p l e R s m args below meth c Q n0 s0 (y, pc, ls, st, M) := by
  obtain ⟨hd, ho, hn⟩ := z_cd_ok hcd
  have hxx := F.ex
  have hw := F.words args
  obtain ⟨hx, hb, hml, hown, -⟩ := F
  simp only [z_step, hcd] at h
  obtain rfl : len = 1 := Nat.eq_of_beq_eq_true ho
  split at h
  · cases h
    intro H locs lsC hR hl
    exact lv_iushr hx hb hd rfl (K H locs lsC hR hl)
  · cases h
theorem z_s_lshl (F : z_Fx G L xs p s m meth c y M0) (hcd : z_cd y pc = some (.lshl, len, (a, b, e', f), ki, kj)) (h : z_step (y, pc, ls, st, M) = Sum.inl c') (K : z_K G L xs p l e R s m args below meth c Q n0 s0 c') : z_K G L xs p l e R s m args below meth c Q n0 s0 (y, pc, ls, st, M) := by
  obtain ⟨hd, ho, hn⟩ := z_cd_ok hcd
  have hxx := F.ex
  have hw := F.words args
  obtain ⟨hx, hb, hml, hown, -⟩ := F
  simp only [z_step, hcd] at h
  obtain rfl : len = 1 := Nat.eq_of_beq_eq_true ho
  split at h
  · cases h
    intro H locs lsC hR hl
    exact lv_lshl hx hb hd rfl (K H locs lsC hR hl)
  · cases h
theorem z_s_lshr (F : z_Fx G L xs p s m meth c y M0) (hcd : z_cd y pc = some (.lshr, len, (a, b, e', f), ki, kj)) (h : z_step (y, pc, ls, st, M) = Sum.inl c') (K : z_K G L xs p l e R s m args below meth c Q n0 s0 c') : z_K G L xs p l e R s m args below meth c Q n0 s0 (y, pc, ls, st, M) := by
  obtain ⟨hd, ho, hn⟩ := z_cd_ok hcd
  have hxx := F.ex
  have hw := F.words args
  obtain ⟨hx, hb, hml, hown, -⟩ := F
  simp only [z_step, hcd] at h
  obtain rfl : len = 1 := Nat.eq_of_beq_eq_true ho
  split at h
  · cases h
    intro H locs lsC hR hl
    exact lv_lshr hx hb hd rfl (K H locs lsC hR hl)
  · cases h
theorem z_s_lushr (F : z_Fx G L xs p s m meth c y M0) (hcd : z_cd y pc = some (.lushr, len, (a, b, e', f), ki, kj)) (h : z_step (y, pc, ls, st, M) = Sum.inl c') (K : z_K G L xs p l e R s m args below meth c Q n0 s0 c') : z_K G L xs p l e R s m args below meth c Q n0 s0 (y, pc, ls, st, M) := by
  obtain ⟨hd, ho, hn⟩ := z_cd_ok hcd
  have hxx := F.ex
  have hw := F.words args
  obtain ⟨hx, hb, hml, hown, -⟩ := F
  simp only [z_step, hcd] at h
  obtain rfl : len = 1 := Nat.eq_of_beq_eq_true ho
  split at h
  · cases h
    intro H locs lsC hR hl
    exact lv_lushr hx hb hd rfl (K H locs lsC hR hl)
  · cases h
theorem z_s_i2l (F : z_Fx G L xs p s m meth c y M0) (hcd : z_cd y pc = some (.i2l, len, (a, b, e', f), ki, kj)) (h : z_step (y, pc, ls, st, M) = Sum.inl c') (K : z_K G L xs p l e R s m args below meth c Q n0 s0 c') : z_K G L xs p l e R s m args below meth c Q n0 s0 (y, pc, ls, st, M) := by
  obtain ⟨hd, ho, hn⟩ := z_cd_ok hcd
  have hxx := F.ex
  have hw := F.words args
  obtain ⟨hx, hb, hml, hown, -⟩ := F
  simp only [z_step, hcd] at h
  obtain rfl : len = 1 := Nat.eq_of_beq_eq_true ho
  split at h
  · cases h
    intro H locs lsC hR hl
    exact lv_i2l hx hb hd rfl (K H locs lsC hR hl)
  · cases h
theorem z_s_l2i (F : z_Fx G L xs p s m meth c y M0) (hcd : z_cd y pc = some (.l2i, len, (a, b, e', f), ki, kj)) (h : z_step (y, pc, ls, st, M) = Sum.inl c') (K : z_K G L xs p l e R s m args below meth c Q n0 s0 c') : z_K G L xs p l e R s m args below meth c Q n0 s0 (y, pc, ls, st, M) := by
  obtain ⟨hd, ho, hn⟩ := z_cd_ok hcd
  have hxx := F.ex
  have hw := F.words args
  obtain ⟨hx, hb, hml, hown, -⟩ := F
  simp only [z_step, hcd] at h
  obtain rfl : len = 1 := Nat.eq_of_beq_eq_true ho
  split at h
  · cases h
    intro H locs lsC hR hl
    exact lv_l2i hx hb hd rfl (K H locs lsC hR hl)
  · cases h
theorem z_s_i2b (F : z_Fx G L xs p s m meth c y M0) (hcd : z_cd y pc = some (.i2b, len, (a, b, e', f), ki, kj)) (h : z_step (y, pc, ls, st, M) = Sum.inl c') (K : z_K G L xs p l e R s m args below meth c Q n0 s0 c') : z_K G L xs p l e R s m args below meth c Q n0 s0 (y, pc, ls, st, M) := by
  obtain ⟨hd, ho, hn⟩ := z_cd_ok hcd
  have hxx := F.ex
  have hw := F.words args
  obtain ⟨hx, hb, hml, hown, -⟩ := F
  simp only [z_step, hcd] at h
  obtain rfl : len = 1 := Nat.eq_of_beq_eq_true ho
  split at h
  · cases h
    intro H locs lsC hR hl
    exact lv_i2b hx hb hd rfl (K H locs lsC hR hl)
  · cases h
theorem z_s_i2s (F : z_Fx G L xs p s m meth c y M0) (hcd : z_cd y pc = some (.i2s, len, (a, b, e', f), ki, kj)) (h : z_step (y, pc, ls, st, M) = Sum.inl c') (K : z_K G L xs p l e R s m args below meth c Q n0 s0 c') : z_K G L xs p l e R s m args below meth c Q n0 s0 (y, pc, ls, st, M) := by
  obtain ⟨hd, ho, hn⟩ := z_cd_ok hcd
  have hxx := F.ex
  have hw := F.words args
  obtain ⟨hx, hb, hml, hown, -⟩ := F
  simp only [z_step, hcd] at h
  obtain rfl : len = 1 := Nat.eq_of_beq_eq_true ho
  split at h
  · cases h
    intro H locs lsC hR hl
    exact lv_i2s hx hb hd rfl (K H locs lsC hR hl)
  · cases h
theorem z_s_i2c (F : z_Fx G L xs p s m meth c y M0) (hcd : z_cd y pc = some (.i2c, len, (a, b, e', f), ki, kj)) (h : z_step (y, pc, ls, st, M) = Sum.inl c') (K : z_K G L xs p l e R s m args below meth c Q n0 s0 c') : z_K G L xs p l e R s m args below meth c Q n0 s0 (y, pc, ls, st, M) := by
  obtain ⟨hd, ho, hn⟩ := z_cd_ok hcd
  have hxx := F.ex
  have hw := F.words args
  obtain ⟨hx, hb, hml, hown, -⟩ := F
  simp only [z_step, hcd] at h
  obtain rfl : len = 1 := Nat.eq_of_beq_eq_true ho
  split at h
  · cases h
    intro H locs lsC hR hl
    exact lv_i2c hx hb hd rfl (K H locs lsC hR hl)
  · cases h
theorem z_s_lcmp (F : z_Fx G L xs p s m meth c y M0) (hcd : z_cd y pc = some (.lcmp, len, (a, b, e', f), ki, kj)) (h : z_step (y, pc, ls, st, M) = Sum.inl c') (K : z_K G L xs p l e R s m args below meth c Q n0 s0 c') : z_K G L xs p l e R s m args below meth c Q n0 s0 (y, pc, ls, st, M) := by
  obtain ⟨hd, ho, hn⟩ := z_cd_ok hcd
  have hxx := F.ex
  have hw := F.words args
  obtain ⟨hx, hb, hml, hown, -⟩ := F
  simp only [z_step, hcd] at h
  obtain rfl : len = 1 := Nat.eq_of_beq_eq_true ho
  split at h
  · cases h
    intro H locs lsC hR hl
    exact W.lcmp hx hb hd (K H locs lsC hR hl)
  · cases h
theorem z_s_idiv (F : z_Fx G L xs p s m meth c y M0) (hcd : z_cd y pc = some (.idiv, len, (a, b, e', f), ki, kj)) (h : z_step (y, pc, ls, st, M) = Sum.inl c') (K : z_K G L xs p l e R s m args below meth c Q n0 s0 c') : z_K G L xs p l e R s m args below meth c Q n0 s0 (y, pc, ls, st, M) := by
  obtain ⟨hd, ho, hn⟩ := z_cd_ok hcd
  have hxx := F.ex
  have hw := F.words args
  obtain ⟨hx, hb, hml, hown, -⟩ := F
  simp only [z_step, hcd] at h
  obtain rfl : len = 1 := Nat.eq_of_beq_eq_true ho
  split at h
  · split at h
    · cases h
    · next hne =>
      cases h
      intro H locs lsC hR hl
      exact lv_idiv hx hb hd hne (K H locs lsC hR hl)
  · cases h
theorem z_s_irem (F : z_Fx G L xs p s m meth c y M0) (hcd : z_cd y pc = some (.irem, len, (a, b, e', f), ki, kj)) (h : z_step (y, pc, ls, st, M) = Sum.inl c') (K : z_K G L xs p l e R s m args below meth c Q n0 s0 c') : z_K G L xs p l e R s m args below meth c Q n0 s0 (y, pc, ls, st, M) := by
  obtain ⟨hd, ho, hn⟩ := z_cd_ok hcd
  have hxx := F.ex
  have hw := F.words args
  obtain ⟨hx, hb, hml, hown, -⟩ := F
  simp only [z_step, hcd] at h
  obtain rfl : len = 1 := Nat.eq_of_beq_eq_true ho
  split at h
  · split at h
    · cases h
    · next hne =>
      cases h
      intro H locs lsC hR hl
      exact lv_irem hx hb hd hne (K H locs lsC hR hl)
  · cases h
theorem z_s_ldiv (F : z_Fx G L xs p s m meth c y M0) (hcd : z_cd y pc = some (.ldiv, len, (a, b, e', f), ki, kj)) (h : z_step (y, pc, ls, st, M) = Sum.inl c') (K : z_K G L xs p l e R s m args below meth c Q n0 s0 c') : z_K G L xs p l e R s m args below meth c Q n0 s0 (y, pc, ls, st, M) := by
  obtain ⟨hd, ho, hn⟩ := z_cd_ok hcd
  have hxx := F.ex
  have hw := F.words args
  obtain ⟨hx, hb, hml, hown, -⟩ := F
  simp only [z_step, hcd] at h
  obtain rfl : len = 1 := Nat.eq_of_beq_eq_true ho
  split at h
  · split at h
    · cases h
    · next hne =>
      cases h
      intro H locs lsC hR hl
      exact lv_ldiv hx hb hd hne (K H locs lsC hR hl)
  · cases h
theorem z_s_lrem (F : z_Fx G L xs p s m meth c y M0) (hcd : z_cd y pc = some (.lrem, len, (a, b, e', f), ki, kj)) (h : z_step (y, pc, ls, st, M) = Sum.inl c') (K : z_K G L xs p l e R s m args below meth c Q n0 s0 c') : z_K G L xs p l e R s m args below meth c Q n0 s0 (y, pc, ls, st, M) := by
  obtain ⟨hd, ho, hn⟩ := z_cd_ok hcd
  have hxx := F.ex
  have hw := F.words args
  obtain ⟨hx, hb, hml, hown, -⟩ := F
  simp only [z_step, hcd] at h
  obtain rfl : len = 1 := Nat.eq_of_beq_eq_true ho
  split at h
  · split at h
    · cases h
    · next hne =>
      cases h
      intro H locs lsC hR hl
      exact lv_lrem hx hb hd hne (K H locs lsC hR hl)
  · cases h
theorem z_s_iconst {n : Int} (F : z_Fx G L xs p s m meth c y M0) (hcd : z_cd y pc = some (.iconst n, len, (a, b, e', f), ki, kj)) (h : z_step (y, pc, ls, st, M) = Sum.inl c') (K : z_K G L xs p l e R s m args below meth c Q n0 s0 c') : z_K G L xs p l e R s m args below meth c Q n0 s0 (y, pc, ls, st, M) := by
  obtain ⟨hd, ho, hn⟩ := z_cd_ok hcd
  have hxx := F.ex
  have hw := F.words args
  obtain ⟨hx, hb, hml, hown, -⟩ := F
  simp only [z_step, hcd] at h
  simp only [z_oke, Bool.and_eq_true, decide_eq_true_eq] at ho
  obtain ⟨ho1, ho2⟩ := ho
  obtain rfl : len = 1 := Nat.eq_of_beq_eq_true ho1
  cases h
  intro H locs lsC hR hl
  exact lv_iconst hx hb hd ho2 (K H locs lsC hR hl)
theorem z_s_bipush {n : Int} (F : z_Fx G L xs p s m meth c y M0) (hcd : z_cd y pc = some (.bipush n, len, (a, b, e', f), ki, kj)) (h : z_step (y, pc, ls, st, M) = Sum.inl c') (K : z_K G L xs p l e R s m args below meth c Q n0 s0 c') : z_K G L xs p l e R s m args below meth c Q n0 s0 (y, pc, ls, st, M) := by
  obtain ⟨hd, ho, hn⟩ := z_cd_ok hcd
  have hxx := F.ex
  have hw := F.words args
  obtain ⟨hx, hb, hml, hown, -⟩ := F
  simp only [z_step, hcd] at h
  simp only [z_oke, Bool.and_eq_true, decide_eq_true_eq] at ho
  obtain ⟨ho1, ho2⟩ := ho
  obtain rfl : len = 2 := Nat.eq_of_beq_eq_true ho1
  cases h
  intro H locs lsC hR hl
  exact lv_bipush hx hb hd ho2 (K H locs lsC hR hl)
theorem z_s_sipush {n : Int} (F : z_Fx G L xs p s m meth c y M0) (hcd : z_cd y pc = some (.sipush n, len, (a, b, e', f), ki, kj)) (h : z_step (y, pc, ls, st, M) = Sum.inl c') (K : z_K G L xs p l e R s m args below meth c Q n0 s0 c') : z_K G L xs p l e R s m args below meth c Q n0 s0 (y, pc, ls, st, M) := by
  obtain ⟨hd, ho, hn⟩ := z_cd_ok hcd
  have hxx := F.ex
  have hw := F.words args
  obtain ⟨hx, hb, hml, hown, -⟩ := F
  simp only [z_step, hcd] at h
  simp only [z_oke, Bool.and_eq_true, decide_eq_true_eq] at ho
  obtain ⟨ho1, ho2⟩ := ho
  obtain rfl : len = 3 := Nat.eq_of_beq_eq_true ho1
  cases h
  intro H locs lsC hR hl
  exact lv_sipush hx hb hd ho2 (K H locs lsC hR hl)
theorem z_s_lconst {n : Fin 2} (F : z_Fx G L xs p s m meth c y M0) (hcd : z_cd y pc = some (.lconst n, len, (a, b, e', f), ki, kj)) (h : z_step (y, pc, ls, st, M) = Sum.inl c') (K : z_K G L xs p l e R s m args below meth c Q n0 s0 c') : z_K G L xs p l e R s m args below meth c Q n0 s0 (y, pc, ls, st, M) := by
  obtain ⟨hd, ho, hn⟩ := z_cd_ok hcd
  have hxx := F.ex
  have hw := F.words args
  obtain ⟨hx, hb, hml, hown, -⟩ := F
  simp only [z_step, hcd] at h
  simp only [z_oke, Bool.and_eq_true, decide_eq_true_eq] at ho
  obtain ⟨ho1, ho2⟩ := ho
  obtain rfl : len = 1 := Nat.eq_of_beq_eq_true ho1
  cases h
  intro H locs lsC hR hl
  exact lv_lconst hx hb hd ho2 (K H locs lsC hR hl)
theorem z_s_null (F : z_Fx G L xs p s m meth c y M0) (hcd : z_cd y pc = some (.aconst_null, len, (a, b, e', f), ki, kj)) (h : z_step (y, pc, ls, st, M) = Sum.inl c') (K : z_K G L xs p l e R s m args below meth c Q n0 s0 c') : z_K G L xs p l e R s m args below meth c Q n0 s0 (y, pc, ls, st, M) := by
  obtain ⟨hd, ho, hn⟩ := z_cd_ok hcd
  have hxx := F.ex
  have hw := F.words args
  obtain ⟨hx, hb, hml, hown, -⟩ := F
  simp only [z_step, hcd] at h
  obtain rfl : len = 1 := Nat.eq_of_beq_eq_true ho
  cases h
  intro H locs lsC hR hl
  exact lv_null hx hb hd (K H locs lsC hR hl)
theorem z_s_ldcw {ix : Nat} (F : z_Fx G L xs p s m meth c y M0) (hcd : z_cd y pc = some (.ldc_w ix, len, (a, b, e', f), ki, kj)) (h : z_step (y, pc, ls, st, M) = Sum.inl c') (K : z_K G L xs p l e R s m args below meth c Q n0 s0 c') : z_K G L xs p l e R s m args below meth c Q n0 s0 (y, pc, ls, st, M) := by
  obtain ⟨hd, ho, hn⟩ := z_cd_ok hcd
  have hxx := F.ex
  have hw := F.words args
  obtain ⟨hx, hb, hml, hown, -⟩ := F
  simp only [z_step, hcd] at h
  obtain rfl : len = 3 := Nat.eq_of_beq_eq_true ho
  cases ha : Nat.beq a 1 with
  | true => rw [ha] at h; cases h
  | false =>
    rw [ha] at h
    cases h
    have hne : ¬ a = 1 := fun q => by rw [q] at ha; cases ha
    have hc := hw _ (hn (.constant (z_nm y).cls ix ki) (by simp [z_need, hne]) rfl)
    intro H locs lsC hR hl
    exact lv_ldcw hx hb hown hc hd (K H locs lsC hR hl)
theorem z_s_ldc2 {ix : Nat} (F : z_Fx G L xs p s m meth c y M0) (hcd : z_cd y pc = some (.ldc2_w ix, len, (a, b, e', f), ki, kj)) (h : z_step (y, pc, ls, st, M) = Sum.inl c') (K : z_K G L xs p l e R s m args below meth c Q n0 s0 c') : z_K G L xs p l e R s m args below meth c Q n0 s0 (y, pc, ls, st, M) := by
  obtain ⟨hd, ho, hn⟩ := z_cd_ok hcd
  have hxx := F.ex
  have hw := F.words args
  obtain ⟨hx, hb, hml, hown, -⟩ := F
  simp only [z_step, hcd] at h
  obtain rfl : len = 3 := Nat.eq_of_beq_eq_true ho
  cases h
  have hc := hw _ (hn (.constantLong (z_nm y).cls ix kj) (by simp [z_need]) rfl)
  intro H locs lsC hR hl
  exact lv_ldc2 hx hb hown hc hd (K H locs lsC hR hl)
theorem z_s_iload {i : Nat} (F : z_Fx G L xs p s m meth c y M0) (hcd : z_cd y pc = some (.iload i, len, (a, b, e', f), ki, kj)) (h : z_step (y, pc, ls, st, M) = Sum.inl c') (K : z_K G L xs p l e R s m args below meth c Q n0 s0 c') : z_K G L xs p l e R s m args below meth c Q n0 s0 (y, pc, ls, st, M) := by
  obtain ⟨hd, ho, hn⟩ := z_cd_ok hcd
  have hxx := F.ex
  have hw := F.words args
  obtain ⟨hx, hb, hml, hown, -⟩ := F
  simp only [z_step, hcd] at h
  simp only [z_oke, Bool.and_eq_true] at ho
  obtain rfl : len = 2 := Nat.eq_of_beq_eq_true ho.1
  obtain rfl : a = i := Nat.eq_of_beq_eq_true ho.2
  split at h
  · next x hg =>
    cases h
    intro H locs lsC hR hl
    exact lv_iload hx hb hd (hl.2.2 _ _ hg) (K H locs lsC hR hl)
  · cases h
theorem z_s_iload_n {i : Fin 4} (F : z_Fx G L xs p s m meth c y M0) (hcd : z_cd y pc = some (.iload_n i, len, (a, b, e', f), ki, kj)) (h : z_step (y, pc, ls, st, M) = Sum.inl c') (K : z_K G L xs p l e R s m args below meth c Q n0 s0 c') : z_K G L xs p l e R s m args below meth c Q n0 s0 (y, pc, ls, st, M) := by
  obtain ⟨hd, ho, hn⟩ := z_cd_ok hcd
  have hxx := F.ex
  have hw := F.words args
  obtain ⟨hx, hb, hml, hown, -⟩ := F
  simp only [z_step, hcd] at h
  simp only [z_oke, Bool.and_eq_true] at ho
  obtain rfl : len = 1 := Nat.eq_of_beq_eq_true ho.1
  have ha : a = i.val := Nat.eq_of_beq_eq_true ho.2
  split at h
  · next x hg =>
    cases h
    intro H locs lsC hR hl
    exact lv_iload_n hx hb hd ha.symm (hl.2.2 _ _ hg) (K H locs lsC hR hl)
  · cases h
theorem z_s_lload {i : Nat} (F : z_Fx G L xs p s m meth c y M0) (hcd : z_cd y pc = some (.lload i, len, (a, b, e', f), ki, kj)) (h : z_step (y, pc, ls, st, M) = Sum.inl c') (K : z_K G L xs p l e R s m args below meth c Q n0 s0 c') : z_K G L xs p l e R s m args below meth c Q n0 s0 (y, pc, ls, st, M) := by
  obtain ⟨hd, ho, hn⟩ := z_cd_ok hcd
  have hxx := F.ex
  have hw := F.words args
  obtain ⟨hx, hb, hml, hown, -⟩ := F
  simp only [z_step, hcd] at h
  simp only [z_oke, Bool.and_eq_true] at ho
  obtain rfl : len = 2 := Nat.eq_of_beq_eq_true ho.1
  obtain rfl : a = i := Nat.eq_of_beq_eq_true ho.2
  split at h
  · next x hg =>
    cases h
    intro H locs lsC hR hl
    exact lv_lload hx hb hd (hl.2.2 _ _ hg) (K H locs lsC hR hl)
  · cases h
theorem z_s_lload_n {i : Fin 4} (F : z_Fx G L xs p s m meth c y M0) (hcd : z_cd y pc = some (.lload_n i, len, (a, b, e', f), ki, kj)) (h : z_step (y, pc, ls, st, M) = Sum.inl c') (K : z_K G L xs p l e R s m args below meth c Q n0 s0 c') : z_K G L xs p l e R s m args below meth c Q n0 s0 (y, pc, ls, st, M) := by
  obtain ⟨hd, ho, hn⟩ := z_cd_ok hcd
  have hxx := F.ex
  have hw := F.words args
  obtain ⟨hx, hb, hml, hown, -⟩ := F
  simp only [z_step, hcd] at h
  simp only [z_oke, Bool.and_eq_true] at ho
  obtain rfl : len = 1 := Nat.eq_of_beq_eq_true ho.1
  have ha : a = i.val := Nat.eq_of_beq_eq_true ho.2
  split at h
  · next x hg =>
    cases h
    intro H locs lsC hR hl
    exact lv_lload_n hx hb hd ha.symm (hl.2.2 _ _ hg) (K H locs lsC hR hl)
  · cases h
theorem z_s_aload {i : Nat} (F : z_Fx G L xs p s m meth c y M0) (hcd : z_cd y pc = some (.aload i, len, (a, b, e', f), ki, kj)) (h : z_step (y, pc, ls, st, M) = Sum.inl c') (K : z_K G L xs p l e R s m args below meth c Q n0 s0 c') : z_K G L xs p l e R s m args below meth c Q n0 s0 (y, pc, ls, st, M) := by
  obtain ⟨hd, ho, hn⟩ := z_cd_ok hcd
  have hxx := F.ex
  have hw := F.words args
  obtain ⟨hx, hb, hml, hown, -⟩ := F
  simp only [z_step, hcd] at h
  simp only [z_oke, Bool.and_eq_true] at ho
  obtain rfl : len = 2 := Nat.eq_of_beq_eq_true ho.1
  obtain rfl : a = i := Nat.eq_of_beq_eq_true ho.2
  split at h
  · next x hg =>
    cases h
    intro H locs lsC hR hl
    have K1 := K H locs lsC hR hl
    have hv := hl.2.2 _ _ hg
    simp only [List.map_cons] at K1
    rcases z_tv_ref hxx x with q | ⟨r, q⟩
    · rw [q] at K1 hv
      exact lv_aloadN hx hb hd hv K1
    · rw [q] at K1 hv
      exact lv_aload hx hb hd hv K1
  · cases h
theorem z_s_aload_n {i : Fin 4} (F : z_Fx G L xs p s m meth c y M0) (hcd : z_cd y pc = some (.aload_n i, len, (a, b, e', f), ki, kj)) (h : z_step (y, pc, ls, st, M) = Sum.inl c') (K : z_K G L xs p l e R s m args below meth c Q n0 s0 c') : z_K G L xs p l e R s m args below meth c Q n0 s0 (y, pc, ls, st, M) := by
  obtain ⟨hd, ho, hn⟩ := z_cd_ok hcd
  have hxx := F.ex
  have hw := F.words args
  obtain ⟨hx, hb, hml, hown, -⟩ := F
  simp only [z_step, hcd] at h
  simp only [z_oke, Bool.and_eq_true] at ho
  obtain rfl : len = 1 := Nat.eq_of_beq_eq_true ho.1
  have ha : a = i.val := Nat.eq_of_beq_eq_true ho.2
  split at h
  · next x hg =>
    cases h
    intro H locs lsC hR hl
    have K1 := K H locs lsC hR hl
    have hv := hl.2.2 _ _ hg
    simp only [List.map_cons] at K1
    rcases z_tv_ref hxx x with q | ⟨r, q⟩
    · rw [q] at K1 hv
      exact lv_aload_nN hx hb hd ha.symm hv K1
    · rw [q] at K1 hv
      exact lv_aload_n hx hb hd ha.symm hv K1
  · cases h
theorem z_s_istore {i : Nat} (F : z_Fx G L xs p s m meth c y M0) (hcd : z_cd y pc = some (.istore i, len, (a, b, e', f), ki, kj)) (h : z_step (y, pc, ls, st, M) = Sum.inl c') (K : z_K G L xs p l e R s m args below meth c Q n0 s0 c') : z_K G L xs p l e R s m args below meth c Q n0 s0 (y, pc, ls, st, M) := by
  obtain ⟨hd, ho, hn⟩ := z_cd_ok hcd
  have hxx := F.ex
  have hw := F.words args
  obtain ⟨hx, hb, hml, hown, -⟩ := F
  simp only [z_step, hcd] at h
  simp only [z_oke, Bool.and_eq_true] at ho
  obtain ⟨⟨ho1, ho2⟩, ho3⟩ := ho
  obtain rfl : len = 2 := Nat.eq_of_beq_eq_true ho1
  obtain rfl : a = i := Nat.eq_of_beq_eq_true ho2
  have hlt := Nat.le_of_ble_eq_true ho3
  split at h
  · next x r =>
    split at h
    · next ls2 hs =>
      cases h
      intro H locs lsC hR hl
      exact lv_istore hx hb hd hl.has hlt rfl (fun ls3 hl3 => K H locs ls3 hR (z_lst_has1 hxx hs (fun _ q => by cases q) hl3))
    · cases h
  · cases h
theorem z_s_istore_n {i : Fin 4} (F : z_Fx G L xs p s m meth c y M0) (hcd : z_cd y pc = some (.istore_n i, len, (a, b, e', f), ki, kj)) (h : z_step (y, pc, ls, st, M) = Sum.inl c') (K : z_K G L xs p l e R s m args below meth c Q n0 s0 c') : z_K G L xs p l e R s m args below meth c Q n0 s0 (y, pc, ls, st, M) := by
  obtain ⟨hd, ho, hn⟩ := z_cd_ok hcd
  have hxx := F.ex
  have hw := F.words args
  obtain ⟨hx, hb, hml, hown, -⟩ := F
  simp only [z_step, hcd] at h
  simp only [z_oke, Bool.and_eq_true] at ho
  obtain ⟨⟨ho1, ho2⟩, ho3⟩ := ho
  obtain rfl : len = 1 := Nat.eq_of_beq_eq_true ho1
  have ha : a = i.val := Nat.eq_of_beq_eq_true ho2
  have hlt := Nat.le_of_ble_eq_true ho3
  split at h
  · next x r =>
    split at h
    · next ls2 hs =>
      cases h
      intro H locs lsC hR hl
      exact lv_istore_n hx hb hd ha.symm hl.has hlt rfl (fun ls3 hl3 => K H locs ls3 hR (z_lst_has1 hxx hs (fun _ q => by cases q) hl3))
    · cases h
  · cases h
theorem z_s_lstore {i : Nat} (F : z_Fx G L xs p s m meth c y M0) (hcd : z_cd y pc = some (.lstore i, len, (a, b, e', f), ki, kj)) (h : z_step (y, pc, ls, st, M) = Sum.inl c') (K : z_K G L xs p l e R s m args below meth c Q n0 s0 c') : z_K G L xs p l e R s m args below meth c Q n0 s0 (y, pc, ls, st, M) := by
  obtain ⟨hd, ho, hn⟩ := z_cd_ok hcd
  have hxx := F.ex
  have hw := F.words args
  obtain ⟨hx, hb, hml, hown, -⟩ := F
  simp only [z_step, hcd] at h
  simp only [z_oke, Bool.and_eq_true] at ho
  obtain ⟨⟨ho1, ho2⟩, ho3⟩ := ho
  obtain rfl : len = 2 := Nat.eq_of_beq_eq_true ho1
  obtain rfl : a = i := Nat.eq_of_beq_eq_true ho2
  have hlt := Nat.le_of_ble_eq_true ho3
  split at h
  · next x r =>
    split at h
    · next ls2 hs =>
      cases h
      intro H locs lsC hR hl
      exact lv_lstore hx hb hd hl.has hlt rfl (fun ls3 hl3 => K H locs ls3 hR (z_lst_has2 hxx hs hl3))
    · cases h
  · cases h
theorem z_s_lstore_n {i : Fin 4} (F : z_Fx G L xs p s m meth c y M0) (hcd : z_cd y pc = some (.lstore_n i, len, (a, b, e', f), ki, kj)) (h : z_step (y, pc, ls, st, M) = Sum.inl c') (K : z_K G L xs p l e R s m args below meth c Q n0 s0 c') : z_K G L xs p l e R s m args below meth c Q n0 s0 (y, pc, ls, st, M) := by
  obtain ⟨hd, ho, hn⟩ := z_cd_ok hcd
  have hxx := F.ex
  have hw := F.words args
  obtain ⟨hx, hb, hml, hown, -⟩ := F
  simp only [z_step, hcd] at h
  simp only [z_oke, Bool.and_eq_true] at ho
  obtain ⟨⟨ho1, ho2⟩, ho3⟩ := ho
  obtain rfl : len = 1 := Nat.eq_of_beq_eq_true ho1
  have ha : a = i.val := Nat.eq_of_beq_eq_true ho2
  have hlt := Nat.le_of_ble_eq_true ho3
  split at h
  · next x r =>
    split at h
    · next ls2 hs =>
      cases h
      intro H locs lsC hR hl
      exact lv_lstore_n hx hb hd ha.symm hl.has hlt rfl (fun ls3 hl3 => K H locs ls3 hR (z_lst_has2 hxx hs hl3))
    · cases h
  · cases h
theorem z_s_astore {i : Nat} (F : z_Fx G L xs p s m meth c y M0) (hcd : z_cd y pc = some (.astore i, len, (a, b, e', f), ki, kj)) (h : z_step (y, pc, ls, st, M) = Sum.inl c') (K : z_K G L xs p l e R s m args below meth c Q n0 s0 c') : z_K G L xs p l e R s m args below meth c Q n0 s0 (y, pc, ls, st, M) := by
  obtain ⟨hd, ho, hn⟩ := z_cd_ok hcd
  have hxx := F.ex
  have hw := F.words args
  obtain ⟨hx, hb, hml, hown, -⟩ := F
  simp only [z_step, hcd] at h
  simp only [z_oke, Bool.and_eq_true] at ho
  obtain ⟨⟨ho1, ho2⟩, ho3⟩ := ho
  obtain rfl : len = 2 := Nat.eq_of_beq_eq_true ho1
  obtain rfl : a = i := Nat.eq_of_beq_eq_true ho2
  have hlt := Nat.le_of_ble_eq_true ho3
  split at h
  · next x r =>
    split at h
    · next ls2 hs =>
      cases h
      intro H locs lsC hR hl
      have hz : ∀ ls3, lv_has ls3 (z_ml y) ((a, z_tv G (Sum.inr (Sum.inr x))) :: (z_lv G ls).filter (fun q => !(q.1 == a) && !(q.1 + 1 == a && q.2.category == 2))) → z_Lh G ls2 (z_ml y) ls3 := fun ls3 hl3 => z_lst_has1 hxx hs (fun _ q => by cases q) hl3
      simp only [List.map_cons]
      rcases z_tv_ref hxx x with q | ⟨r9, q⟩
      · rw [q] at hz ⊢
        exact lv_astoreN hx hb hd hl.has hlt rfl (fun ls3 hl3 => K H locs ls3 hR (hz ls3 hl3))
      · rw [q] at hz ⊢
        exact lv_astore hx hb hd hl.has hlt rfl (fun ls3 hl3 => K H locs ls3 hR (hz ls3 hl3))
    · cases h
  · cases h
theorem z_s_astore_n {i : Fin 4} (F : z_Fx G L xs p s m meth c y M0) (hcd : z_cd y pc = some (.astore_n i, len, (a, b, e', f), ki, kj)) (h : z_step (y, pc, ls, st, M) = Sum.inl c') (K : z_K G L xs p l e R s m args below meth c Q n0 s0 c') : z_K G L xs p l e R s m args below meth c Q n0 s0 (y, pc, ls, st, M) := by
  obtain ⟨hd, ho, hn⟩ := z_cd_ok hcd
  have hxx := F.ex
  have hw := F.words args
  obtain ⟨hx, hb, hml, hown, -⟩ := F
  simp only [z_step, hcd] at h
  simp only [z_oke, Bool.and_eq_true] at ho
  obtain ⟨⟨ho1, ho2⟩, ho3⟩ := ho
  obtain rfl : len = 1 := Nat.eq_of_beq_eq_true ho1
  have ha : a = i.val := Nat.eq_of_beq_eq_true ho2
  have hlt := Nat.le_of_ble_eq_true ho3
  split at h
  · next x r =>
    split at h
    · next ls2 hs =>
      cases h
      intro H locs lsC hR hl
      have hz : ∀ ls3, lv_has ls3 (z_ml y) ((a, z_tv G (Sum.inr (Sum.inr x))) :: (z_lv G ls).filter (fun q => !(q.1 == a) && !(q.1 + 1 == a && q.2.category == 2))) → z_Lh G ls2 (z_ml y) ls3 := fun ls3 hl3 => z_lst_has1 hxx hs (fun _ q => by cases q) hl3
      simp only [List.map_cons]
      rcases z_tv_ref hxx x with q | ⟨r9, q⟩
      · rw [q] at hz ⊢
        exact lv_astore_nN hx hb hd ha.symm hl.has hlt rfl (fun ls3 hl3 => K H locs ls3 hR (hz ls3 hl3))
      · rw [q] at hz ⊢
        exact lv_astore_n hx hb hd ha.symm hl.has hlt rfl (fun ls3 hl3 => K H locs ls3 hR (hz ls3 hl3))
    · cases h
  · cases h
theorem z_s_iinc {i : Nat} {n : Int} (F : z_Fx G L xs p s m meth c y M0) (hcd : z_cd y pc = some (.iinc i n, len, (a, b, e', f), ki, kj)) (h : z_step (y, pc, ls, st, M) = Sum.inl c') (K : z_K G L xs p l e R s m args below meth c Q n0 s0 c') : z_K G L xs p l e R s m args below meth c Q n0 s0 (y, pc, ls, st, M) := by
  obtain ⟨hd, ho, hn⟩ := z_cd_ok hcd
  have hxx := F.ex
  have hw := F.words args
  obtain ⟨hx, hb, hml, hown, -⟩ := F
  simp only [z_step, hcd] at h
  simp only [z_oke, Bool.and_eq_true, decide_eq_true_eq] at ho
  obtain ⟨⟨⟨ho1, ho2⟩, ho4⟩, ho3⟩ := ho
  obtain rfl : len = 3 := Nat.eq_of_beq_eq_true ho1
  obtain rfl : a = i := Nat.eq_of_beq_eq_true ho2
  have hlt := Nat.le_of_ble_eq_true ho3
  split at h
  · next x hg =>
    split at h
    · next ls2 hs =>
      cases h
      intro H locs lsC hR hl
      obtain ⟨k9, hk9⟩ := List.getElem?_of_mem (z_lv_mem (G := G) (ls := ls) (q := (a, .int x)) |>.mpr ⟨z_i x, hg, rfl⟩)
      exact lv_iinc hx hb hd hl.has hk9 (by rw [ho4]) hlt rfl (fun ls3 hl3 => K H locs ls3 hR (z_lst_has1 hxx hs (fun _ q => by cases q) hl3))
    · cases h
  · cases h
theorem z_s_pop (F : z_Fx G L xs p s m meth c y M0) (hcd : z_cd y pc = some (.pop, len, (a, b, e', f), ki, kj)) (h : z_step (y, pc, ls, st, M) = Sum.inl c') (K : z_K G L xs p l e R s m args below meth c Q n0 s0 c') : z_K G L xs p l e R s m args below meth c Q n0 s0 (y, pc, ls, st, M) := by
  obtain ⟨hd, ho, hn⟩ := z_cd_ok hcd
  have hxx := F.ex
  have hw := F.words args
  obtain ⟨hx, hb, hml, hown, -⟩ := F
  simp only [z_step, hcd] at h
  obtain rfl : len = 1 := Nat.eq_of_beq_eq_true ho
  split at h
  · cases h
  · next v r hv =>
    cases h
    intro H locs lsC hR hl
    have hc : (z_tv G v).category = 1 := by
      rcases lv_cat (z_tv G v) with q | q
      · exact q
      · obtain ⟨x, rfl⟩ := (z_tv_cat hxx v).mp q
        exact (hv x rfl).elim
    exact lv_pop hx hb hd hc (K H locs lsC hR hl)
  · cases h
theorem z_s_dup (F : z_Fx G L xs p s m meth c y M0) (hcd : z_cd y pc = some (.dup, len, (a, b, e', f), ki, kj)) (h : z_step (y, pc, ls, st, M) = Sum.inl c') (K : z_K G L xs p l e R s m args below meth c Q n0 s0 c') : z_K G L xs p l e R s m args below meth c Q n0 s0 (y, pc, ls, st, M) := by
  obtain ⟨hd, ho, hn⟩ := z_cd_ok hcd
  have hxx := F.ex
  have hw := F.words args
  obtain ⟨hx, hb, hml, hown, -⟩ := F
  simp only [z_step, hcd] at h
  obtain rfl : len = 1 := Nat.eq_of_beq_eq_true ho
  split at h
  · cases h
  · next v r hv =>
    cases h
    intro H locs lsC hR hl
    have hc : (z_tv G v).category = 1 := by
      rcases lv_cat (z_tv G v) with q | q
      · exact q
      · obtain ⟨x, rfl⟩ := (z_tv_cat hxx v).mp q
        exact (hv x rfl).elim
    exact lv_dup hx hb hd hc (K H locs lsC hR hl)
  · cases h
theorem z_s_dup2 (F : z_Fx G L xs p s m meth c y M0) (hcd : z_cd y pc = some (.dup2, len, (a, b, e', f), ki, kj)) (h : z_step (y, pc, ls, st, M) = Sum.inl c') (K : z_K G L xs p l e R s m args below meth c Q n0 s0 c') : z_K G L xs p l e R s m args below meth c Q n0 s0 (y, pc, ls, st, M) := by
  obtain ⟨hd, ho, hn⟩ := z_cd_ok hcd
  have hxx := F.ex
  have hw := F.words args
  obtain ⟨hx, hb, hml, hown, -⟩ := F
  simp only [z_step, hcd] at h
  obtain rfl : len = 1 := Nat.eq_of_beq_eq_true ho
  split at h
  · next v w r =>
    cases h
    intro H locs lsC hR hl
    have hc : (z_tv G (Sum.inr (Sum.inr w))).category = 1 := by
      rcases z_tv_ref hxx w with q | ⟨r9, q⟩ <;> rw [q] <;> rfl
    exact lv_dup2_11 hx hb hd rfl hc (K H locs lsC hR hl)
  · cases h
theorem z_s_if_eq {off : Int} (F : z_Fx G L xs p s m meth c y M0) (hcd : z_cd y pc = some (.ifCond .eq off, len, (a, b, e', f), ki, kj)) (h : z_step (y, pc, ls, st, M) = Sum.inl c') (K : z_K G L xs p l e R s m args below meth c Q n0 s0 c') : z_K G L xs p l e R s m args below meth c Q n0 s0 (y, pc, ls, st, M) := by
  obtain ⟨hd, ho, hn⟩ := z_cd_ok hcd
  have hxx := F.ex
  have hw := F.words args
  obtain ⟨hx, hb, hml, hown, -⟩ := F
  simp only [z_step, hcd] at h
  simp only [z_oke, z_tok, Bool.and_eq_true, decide_eq_true_eq] at ho
  obtain ⟨ho1, ho2⟩ := ho
  obtain rfl : len = 3 := Nat.eq_of_beq_eq_true ho1
  split at h
  · cases h
    intro H locs lsC hR hl
    refine lv_if_eq hx hb hd ho2 (fun hp => ?_) (fun hp => ?_)
    · rw [if_pos hp] at K
      exact K H locs lsC hR hl
    · rw [if_neg hp] at K
      exact K H locs lsC hR hl
  · cases h
theorem z_s_icmp_eq {off : Int} (F : z_Fx G L xs p s m meth c y M0) (hcd : z_cd y pc = some (.if_icmp .eq off, len, (a, b, e', f), ki, kj)) (h : z_step (y, pc, ls, st, M) = Sum.inl c') (K : z_K G L xs p l e R s m args below meth c Q n0 s0 c') : z_K G L xs p l e R s m args below meth c Q n0 s0 (y, pc, ls, st, M) := by
  obtain ⟨hd, ho, hn⟩ := z_cd_ok hcd
  have hxx := F.ex
  have hw := F.words args
  obtain ⟨hx, hb, hml, hown, -⟩ := F
  simp only [z_step, hcd] at h
  simp only [z_oke, z_tok, Bool.and_eq_true, decide_eq_true_eq] at ho
  obtain ⟨ho1, ho2⟩ := ho
  obtain rfl : len = 3 := Nat.eq_of_beq_eq_true ho1
  split at h
  · cases h
    intro H locs lsC hR hl
    refine lv_icmp_eq hx hb hd ho2 (fun hp => ?_) (fun hp => ?_)
    · rw [if_pos hp] at K
      exact K H locs lsC hR hl
    · rw [if_neg hp] at K
      exact K H locs lsC hR hl
  · cases h
theorem z_s_if_ne {off : Int} (F : z_Fx G L xs p s m meth c y M0) (hcd : z_cd y pc = some (.ifCond .ne off, len, (a, b, e', f), ki, kj)) (h : z_step (y, pc, ls, st, M) = Sum.inl c') (K : z_K G L xs p l e R s m args below meth c Q n0 s0 c') : z_K G L xs p l e R s m args below meth c Q n0 s0 (y, pc, ls, st, M) := by
  obtain ⟨hd, ho, hn⟩ := z_cd_ok hcd
  have hxx := F.ex
  have hw := F.words args
  obtain ⟨hx, hb, hml, hown, -⟩ := F
  simp only [z_step, hcd] at h
  simp only [z_oke, z_tok, Bool.and_eq_true, decide_eq_true_eq] at ho
  obtain ⟨ho1, ho2⟩ := ho
  obtain rfl : len = 3 := Nat.eq_of_beq_eq_true ho1
  split at h
  · cases h
    intro H locs lsC hR hl
    refine lv_if_ne hx hb hd ho2 (fun hp => ?_) (fun hp => ?_)
    · rw [if_pos hp] at K
      exact K H locs lsC hR hl
    · rw [if_neg (fun q => q hp)] at K
      exact K H locs lsC hR hl
  · cases h
theorem z_s_icmp_ne {off : Int} (F : z_Fx G L xs p s m meth c y M0) (hcd : z_cd y pc = some (.if_icmp .ne off, len, (a, b, e', f), ki, kj)) (h : z_step (y, pc, ls, st, M) = Sum.inl c') (K : z_K G L xs p l e R s m args below meth c Q n0 s0 c') : z_K G L xs p l e R s m args below meth c Q n0 s0 (y, pc, ls, st, M) := by
  obtain ⟨hd, ho, hn⟩ := z_cd_ok hcd
  have hxx := F.ex
  have hw := F.words args
  obtain ⟨hx, hb, hml, hown, -⟩ := F
  simp only [z_step, hcd] at h
  simp only [z_oke, z_tok, Bool.and_eq_true, decide_eq_true_eq] at ho
  obtain ⟨ho1, ho2⟩ := ho
  obtain rfl : len = 3 := Nat.eq_of_beq_eq_true ho1
  split at h
  · cases h
    intro H locs lsC hR hl
    refine lv_icmp_ne hx hb hd ho2 (fun hp => ?_) (fun hp => ?_)
    · rw [if_pos hp] at K
      exact K H locs lsC hR hl
    · rw [if_neg (fun q => q hp)] at K
      exact K H locs lsC hR hl
  · cases h
theorem z_s_if_lt {off : Int} (F : z_Fx G L xs p s m meth c y M0) (hcd : z_cd y pc = some (.ifCond .lt off, len, (a, b, e', f), ki, kj)) (h : z_step (y, pc, ls, st, M) = Sum.inl c') (K : z_K G L xs p l e R s m args below meth c Q n0 s0 c') : z_K G L xs p l e R s m args below meth c Q n0 s0 (y, pc, ls, st, M) := by
  obtain ⟨hd, ho, hn⟩ := z_cd_ok hcd
  have hxx := F.ex
  have hw := F.words args
  obtain ⟨hx, hb, hml, hown, -⟩ := F
  simp only [z_step, hcd] at h
  simp only [z_oke, z_tok, Bool.and_eq_true, decide_eq_true_eq] at ho
  obtain ⟨ho1, ho2⟩ := ho
  obtain rfl : len = 3 := Nat.eq_of_beq_eq_true ho1
  split at h
  · cases h
    intro H locs lsC hR hl
    refine lv_if_lt hx hb hd ho2 (fun hp => ?_) (fun hp => ?_)
    · rw [if_pos hp] at K
      exact K H locs lsC hR hl
    · rw [if_neg hp] at K
      exact K H locs lsC hR hl
  · cases h
theorem z_s_icmp_lt {off : Int} (F : z_Fx G L xs p s m meth c y M0) (hcd : z_cd y pc = some (.if_icmp .lt off, len, (a, b, e', f), ki, kj)) (h : z_step (y, pc, ls, st, M) = Sum.inl c') (K : z_K G L xs p l e R s m args below meth c Q n0 s0 c') : z_K G L xs p l e R s m args below meth c Q n0 s0 (y, pc, ls, st, M) := by
  obtain ⟨hd, ho, hn⟩ := z_cd_ok hcd
  have hxx := F.ex
  have hw := F.words args
  obtain ⟨hx, hb, hml, hown, -⟩ := F
  simp only [z_step, hcd] at h
  simp only [z_oke, z_tok, Bool.and_eq_true, decide_eq_true_eq] at ho
  obtain ⟨ho1, ho2⟩ := ho
  obtain rfl : len = 3 := Nat.eq_of_beq_eq_true ho1
  split at h
  · cases h
    intro H locs lsC hR hl
    refine lv_icmp_lt hx hb hd ho2 (fun hp => ?_) (fun hp => ?_)
    · rw [if_pos hp] at K
      exact K H locs lsC hR hl
    · rw [if_neg hp] at K
      exact K H locs lsC hR hl
  · cases h
theorem z_s_if_ge {off : Int} (F : z_Fx G L xs p s m meth c y M0) (hcd : z_cd y pc = some (.ifCond .ge off, len, (a, b, e', f), ki, kj)) (h : z_step (y, pc, ls, st, M) = Sum.inl c') (K : z_K G L xs p l e R s m args below meth c Q n0 s0 c') : z_K G L xs p l e R s m args below meth c Q n0 s0 (y, pc, ls, st, M) := by
  obtain ⟨hd, ho, hn⟩ := z_cd_ok hcd
  have hxx := F.ex
  have hw := F.words args
  obtain ⟨hx, hb, hml, hown, -⟩ := F
  simp only [z_step, hcd] at h
  simp only [z_oke, z_tok, Bool.and_eq_true, decide_eq_true_eq] at ho
  obtain ⟨ho1, ho2⟩ := ho
  obtain rfl : len = 3 := Nat.eq_of_beq_eq_true ho1
  split at h
  · cases h
    intro H locs lsC hR hl
    refine lv_if_ge hx hb hd ho2 (fun hp => ?_) (fun hp => ?_)
    · rw [if_pos hp] at K
      exact K H locs lsC hR hl
    · rw [if_neg hp] at K
      exact K H locs lsC hR hl
  · cases h
theorem z_s_icmp_ge {off : Int} (F : z_Fx G L xs p s m meth c y M0) (hcd : z_cd y pc = some (.if_icmp .ge off, len, (a, b, e', f), ki, kj)) (h : z_step (y, pc, ls, st, M) = Sum.inl c') (K : z_K G L xs p l e R s m args below meth c Q n0 s0 c') : z_K G L xs p l e R s m args below meth c Q n0 s0 (y, pc, ls, st, M) := by
  obtain ⟨hd, ho, hn⟩ := z_cd_ok hcd
  have hxx := F.ex
  have hw := F.words args
  obtain ⟨hx, hb, hml, hown, -⟩ := F
  simp only [z_step, hcd] at h
  simp only [z_oke, z_tok, Bool.and_eq_true, decide_eq_true_eq] at ho
  obtain ⟨ho1, ho2⟩ := ho
  obtain rfl : len = 3 := Nat.eq_of_beq_eq_true ho1
  split at h
  · cases h
    intro H locs lsC hR hl
    refine lv_icmp_ge hx hb hd ho2 (fun hp => ?_) (fun hp => ?_)
    · rw [if_pos hp] at K
      exact K H locs lsC hR hl
    · rw [if_neg hp] at K
      exact K H locs lsC hR hl
  · cases h
theorem z_s_if_gt {off : Int} (F : z_Fx G L xs p s m meth c y M0) (hcd : z_cd y pc = some (.ifCond .gt off, len, (a, b, e', f), ki, kj)) (h : z_step (y, pc, ls, st, M) = Sum.inl c') (K : z_K G L xs p l e R s m args below meth c Q n0 s0 c') : z_K G L xs p l e R s m args below meth c Q n0 s0 (y, pc, ls, st, M) := by
  obtain ⟨hd, ho, hn⟩ := z_cd_ok hcd
  have hxx := F.ex
  have hw := F.words args
  obtain ⟨hx, hb, hml, hown, -⟩ := F
  simp only [z_step, hcd] at h
  simp only [z_oke, z_tok, Bool.and_eq_true, decide_eq_true_eq] at ho
  obtain ⟨ho1, ho2⟩ := ho
  obtain rfl : len = 3 := Nat.eq_of_beq_eq_true ho1
  split at h
  · cases h
    intro H locs lsC hR hl
    refine lv_if_gt hx hb hd ho2 (fun hp => ?_) (fun hp => ?_)
    · rw [if_pos hp] at K
      exact K H locs lsC hR hl
    · rw [if_neg hp] at K
      exact K H locs lsC hR hl
  · cases h
theorem z_s_icmp_gt {off : Int} (F : z_Fx G L xs p s m meth c y M0) (hcd : z_cd y pc = some (.if_icmp .gt off, len, (a, b, e', f), ki, kj)) (h : z_step (y, pc, ls, st, M) = Sum.inl c') (K : z_K G L xs p l e R s m args below meth c Q n0 s0 c') : z_K G L xs p l e R s m args below meth c Q n0 s0 (y, pc, ls, st, M) := by
  obtain ⟨hd, ho, hn⟩ := z_cd_ok hcd
  have hxx := F.ex
  have hw := F.words args
  obtain ⟨hx, hb, hml, hown, -⟩ := F
  simp only [z_step, hcd] at h
  simp only [z_oke, z_tok, Bool.and_eq_true, decide_eq_true_eq] at ho
  obtain ⟨ho1, ho2⟩ := ho
  obtain rfl : len = 3 := Nat.eq_of_beq_eq_true ho1
  split at h
  · cases h
    intro H locs lsC hR hl
    refine lv_icmp_gt hx hb hd ho2 (fun hp => ?_) (fun hp => ?_)
    · rw [if_pos hp] at K
      exact K H locs lsC hR hl
    · rw [if_neg hp] at K
      exact K H locs lsC hR hl
  · cases h
theorem z_s_if_le {off : Int} (F : z_Fx G L xs p s m meth c y M0) (hcd : z_cd y pc = some (.ifCond .le off, len, (a, b, e', f), ki, kj)) (h : z_step (y, pc, ls, st, M) = Sum.inl c') (K : z_K G L xs p l e R s m args below meth c Q n0 s0 c') : z_K G L xs p l e R s m args below meth c Q n0 s0 (y, pc, ls, st, M) := by
  obtain ⟨hd, ho, hn⟩ := z_cd_ok hcd
  have hxx := F.ex
  have hw := F.words args
  obtain ⟨hx, hb, hml, hown, -⟩ := F
  simp only [z_step, hcd] at h
  simp only [z_oke, z_tok, Bool.and_eq_true, decide_eq_true_eq] at ho
  obtain ⟨ho1, ho2⟩ := ho
  obtain rfl : len = 3 := Nat.eq_of_beq_eq_true ho1
  split at h
  · cases h
    intro H locs lsC hR hl
    refine lv_if_le hx hb hd ho2 (fun hp => ?_) (fun hp => ?_)
    · rw [if_pos hp] at K
      exact K H locs lsC hR hl
    · rw [if_neg hp] at K
      exact K H locs lsC hR hl
  · cases h
theorem z_s_icmp_le {off : Int} (F : z_Fx G L xs p s m meth c y M0) (hcd : z_cd y pc = some (.if_icmp .le off, len, (a, b, e', f), ki, kj)) (h : z_step (y, pc, ls, st, M) = Sum.inl c') (K : z_K G L xs p l e R s m args below meth c Q n0 s0 c') : z_K G L xs p l e R s m args below meth c Q n0 s0 (y, pc, ls, st, M) := by
  obtain ⟨hd, ho, hn⟩ := z_cd_ok hcd
  have hxx := F.ex
  have hw := F.words args
  obtain ⟨hx, hb, hml, hown, -⟩ := F
  simp only [z_step, hcd] at h
  simp only [z_oke, z_tok, Bool.and_eq_true, decide_eq_true_eq] at ho
  obtain ⟨ho1, ho2⟩ := ho
  obtain rfl : len = 3 := Nat.eq_of_beq_eq_true ho1
  split at h
  · cases h
    intro H locs lsC hR hl
    refine lv_icmp_le hx hb hd ho2 (fun hp => ?_) (fun hp => ?_)
    · rw [if_pos hp] at K
      exact K H locs lsC hR hl
    · rw [if_neg hp] at K
      exact K H locs lsC hR hl
  · cases h
theorem z_s_goto {off : Int} (F : z_Fx G L xs p s m meth c y M0) (hcd : z_cd y pc = some (.goto off, len, (a, b, e', f), ki, kj)) (h : z_step (y, pc, ls, st, M) = Sum.inl c') (K : z_K G L xs p l e R s m args below meth c Q n0 s0 c') : z_K G L xs p l e R s m args below meth c Q n0 s0 (y, pc, ls, st, M) := by
  obtain ⟨hd, ho, hn⟩ := z_cd_ok hcd
  have hxx := F.ex
  have hw := F.words args
  obtain ⟨hx, hb, hml, hown, -⟩ := F
  simp only [z_step, hcd] at h
  simp only [z_oke, z_tok, Bool.and_eq_true, decide_eq_true_eq] at ho
  obtain ⟨ho1, ho2⟩ := ho
  cases h
  obtain rfl : len = 3 := Nat.eq_of_beq_eq_true ho1
  intro H locs lsC hR hl
  exact lv_goto hx hb hd ho2 (K H locs lsC hR hl)
end
